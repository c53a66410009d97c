/-! ===== a stage, a rider on the tape ===== -/
theorem reqF.trans {R T U : Rc} (h : reqF R T) (h2 : reqF T U) : reqF R U := fun f j a b => (h f j a b).trans (h2 f j a b)
theorem reqF.refl (R : Rc) : reqF R R := fun _ _ _ _ => rfl
theorem reqF.up {R T : Rc} (h : reqF R T) (f j : Nat) (v : Int32) : reqF (rup R f j v) (rup T f j v) := by
  intro a b ha hb
  unfold rup
  by_cases q : a = f ∧ b = j
  · rw [if_pos q, if_pos q]
  · rw [if_neg q, if_neg q]
    exact h a b ha hb
theorem rmd_uF {M : kM} {h i f j : Nat} {v : Int32} (hi : i = h + wof f j) (hf : f < 9) (hj : j < flen f) : reqF (rmd (ku M 1 0 i v) h) (rup (rmd M h) f j v) := by
  intro a b ha hb
  rw [wof_rmd ha hb]
  unfold rup
  by_cases q : a = f ∧ b = j
  · obtain ⟨rfl, rfl⟩ := q
    rw [if_pos ⟨rfl, rfl⟩, ← hi]
    exact ku_eq
  · rw [if_neg q, wof_rmd ha hb]
    exact ku_ne (fun z => q (wof_inj f hf j hj a ha b hb (by omega)))
def dfx (M M' : kM) : Prop := (∀ c i j, ¬ (c = 4 ∧ i = 0 ∧ j = 3 ∨ i = 3 ∧ (c = 1 ∨ 7 ≤ c ∧ c ≤ 14)) → M'.1 c i j = M.1 c i j) ∧ M'.2 = M.2
def dfm (M M' : kM) : Prop := (∀ c i j, ¬ (c = 0 ∧ i = 0 ∧ (j = 7 ∨ j = 8) ∨ c = 1 ∧ i = 0 ∧ 434 ≤ j ∧ j < 482) → M'.1 c i j = M.1 c i j) ∧ M'.2 = M.2
theorem dfx.trans {a b c : kM} (h : dfx a b) (h2 : dfx b c) : dfx a c := ⟨fun x i j hc => (h2.1 x i j hc).trans (h.1 x i j hc), h2.2.trans h.2⟩
theorem dfm.trans {a b c : kM} (h : dfm a b) (h2 : dfm b c) : dfm a c := ⟨fun x i j hc => (h2.1 x i j hc).trans (h.1 x i j hc), h2.2.trans h.2⟩
theorem pfx.d {M M' : kM} (h : pfx M M') : dfx M M' := ⟨fun c i j hc => h.1 c i j (by omega), h.2⟩
theorem pfm.d {M M' : kM} (h : pfm M M') : dfm M M' := ⟨fun c i j hc => h.1 c i j (by omega), h.2⟩
theorem dfm.u {M : kM} {j : Nat} {v : Int32} (h : 434 ≤ j ∧ j < 482) : dfm M (ku M 1 0 j v) := ⟨fun c i d hc => ku_ne (by omega), rfl⟩
theorem dfx.tt {t : Nat} {L : Nat → Nat} {M M' : kM} (h : dfx M M') (tx : ttx t L M) : ttx t L M' := tx.cg (fun c j hc => h.1 c 0 j (by omega))
theorem dfm.tt {t : Nat} {L : Nat → Nat} {M M' : kM} (h : dfm M M') (tx : ttm t L M) : ttm t L M' := tx.cg (fun c j hc => h.1 c 0 j (by omega))
theorem pfx.r3 {M M' : kM} (h : pfx M M') : rx M' 3 = rx M 3 := rx_cg (fun c j hc => h.1 c 3 j (by omega))
theorem pfm.rd {M M' : kM} (h : pfm M M') : rmd M' 434 = rmd M 434 := rmd_row (fun j => h.1 1 0 j (by omega))
def aStg (t : Nat) (L : Nat → Nat) (p : Nat) : TR (Nat × Nat × Nat × Nat) := match adg t L 1 9 p with
  | .inl f => .inl f
  | .inr (v1, p1) => match adg t L 0 9 p1 with
    | .inl f => .inl f
    | .inr (v2, p2) => match adg t L 0 4 p2 with
      | .inl f => .inl f
      | .inr (v3, p3) => .inr (v1, v2, v3, p3)
def stg (R : Rc) (S v1 v2 v3 : Nat) : Rc := rup (rup (rup (rup R 1 S (nI v1)) 2 S (nI v2)) 3 S (nI v3)) 0 0 (nI (S + 1))
theorem aStg_ok {t : Nat} {L : Nat → Nat} {p v1 v2 v3 p' : Nat} (h : aStg t L p = .inr (v1, v2, v3, p')) : 1 ≤ v1 ∧ v1 ≤ 9 ∧ p' ≤ t := by
  unfold aStg at h
  rcases e1 : adg t L 1 9 p with f | ⟨w1, p1⟩
  · rw [e1] at h
    exact absurd h (by intro z; cases z)
  · rw [e1] at h
    simp only at h
    rcases e2 : adg t L 0 9 p1 with f | ⟨w2, p2⟩
    · rw [e2] at h
      exact absurd h (by intro z; cases z)
    · rw [e2] at h
      simp only at h
      rcases e3 : adg t L 0 4 p2 with f | ⟨w3, p3⟩
      · rw [e3] at h
        exact absurd h (by intro z; cases z)
      · rw [e3] at h
        simp only at h
        cases h
        have h1 := adg_ok e1
        have h3 := adg_ok e3
        exact ⟨h1.1, h1.2.1, h3.2.2.1⟩
theorem aStg_1 {t : Nat} {L : Nat → Nat} {p f : Nat} (e1 : adg t L 1 9 p = .inl f) : aStg t L p = .inl f := by
  unfold aStg
  rw [e1]
theorem aStg_2 {t : Nat} {L : Nat → Nat} {p v1 p1 f : Nat} (e1 : adg t L 1 9 p = .inr (v1, p1)) (e2 : adg t L 0 9 p1 = .inl f) : aStg t L p = .inl f := by
  unfold aStg
  rw [e1]
  simp only
  rw [e2]
theorem aStg_3 {t : Nat} {L : Nat → Nat} {p v1 p1 v2 p2 f : Nat} (e1 : adg t L 1 9 p = .inr (v1, p1)) (e2 : adg t L 0 9 p1 = .inr (v2, p2)) (e3 : adg t L 0 4 p2 = .inl f) : aStg t L p = .inl f := by
  unfold aStg
  rw [e1]
  simp only
  rw [e2]
  simp only
  rw [e3]
theorem aStg_4 {t : Nat} {L : Nat → Nat} {p v1 p1 v2 p2 v3 p3 : Nat} (e1 : adg t L 1 9 p = .inr (v1, p1)) (e2 : adg t L 0 9 p1 = .inr (v2, p2)) (e3 : adg t L 0 4 p2 = .inr (v3, p3)) : aStg t L p = .inr (v1, v2, v3, p3) := by
  unfold aStg
  rw [e1]
  simp only
  rw [e2]
  simp only
  rw [e3]
def rdr (R : Rc) (r kd st co m : Nat) : Rc := rup (rup (rup (rup (rup (rup R 4 r (nI kd)) 5 r 0) 6 r (nI st)) 7 r (nI co)) 8 r (nI m)) 0 1 (nI (r + 1))
theorem abl_0 {t : Nat} {L : Nat → Nat} {S : Nat} (hS : S ≤ 8) {f lo p : Nat} (hp : p ≤ t) (h : (abl t L S (f + 1) 0 lo p).1 = 0) : tsk t L (abl t L S (f + 1) 0 lo p).2 = (abl t L S (f + 1) 0 lo p).2 := by
  unfold abl at h ⊢
  rcases e : adg t L lo (S - 1) p with q | ⟨v, p'⟩
  · have := adg_no e
    show tsk t L q = q
    rw [this.1]
    exact tsk_tsk
  · rw [e] at h
    simp only at h
    have h1 := adg_ok e
    have h2 := or_bit (m := 0) (by omega) (show v < 8 by omega)
    exact absurd h ((abl_all (t := t) (L := L) hS f (0 ||| 2 ^ v) (v + 1) p' (by omega) h2.2.1).2.2 h2.2.2)
section KTL
variable {l : Launch} {g : va_G × (Nat → ClassId) × (Nat → Nat → Nat)} {M : kM} {t : Nat} {L : Nat → Nat} {Q : Int32 → kM → Prop}
theorem neg1 : ¬ (0 : Int32) ≤ -1 := by decide
theorem x_readStage (p S : Nat) (hp : p ≤ t) (hS : S < 8) (gd : tgd t L) (tx : ttx t L M) (ep : M.1 4 0 3 = nI p) (eS : M.1 1 3 0 = nI S) (h1 : ∀ M' v1 v2 v3 p', aStg t L p = .inr (v1, v2, v3, p') → dfx M M' → M'.1 4 0 3 = nI p' → rx M' 3 = stg (rx M 3) S v1 v2 v3 → Q 1 M') (h0 : ∀ M' f, aStg t L p = .inl f → dfx M M' → M'.1 4 0 3 = nI f → Q 0 M') : kCT l (rg_x, g) mX4_readStage [.inr (.inr (4, 0))] M (kqi Q) := by
  refine kct (by decide) (Nat.le_of_ble_eq_true rfl) (bX4_readStage_0 M Q (x_readDigit p 1 9 hp (by omega) (by omega) gd tx ep (fun M1 v1 p1 e1 a1 a2 => ⟨fun _ => ?_, fun z => ?_⟩) (fun M1 f e1 a1 a2 => ⟨fun z => absurd z neg1, fun _ => ?_⟩)))
  · have k1 := adg_ok e1
    refine x_readDigit p1 0 9 k1.2.2.1 (by omega) (by omega) gd (a1.tt tx) a2 (fun M2 v2 p2 e2 b1 b2 => bX4_readStage_23 _ _ _ _ ⟨fun _ => ?_, fun z => ?_⟩) (fun M2 f e2 b1 b2 => bX4_readStage_23 _ _ _ _ ⟨fun z => absurd z neg1, fun _ => ?_⟩)
    · have k2 := adg_ok e2
      have fx2 := a1.trans b1
      refine x_readDigit p2 0 4 k2.2.2.1 (by omega) (by omega) gd (fx2.tt tx) b2 (fun M3 v3 p3 e3 c1 c2 => bX4_readStage_38 _ _ _ _ _ ⟨fun _ => ?_, fun z => ?_⟩) (fun M3 f e3 c1 c2 => bX4_readStage_38 _ _ _ _ _ ⟨fun z => absurd z neg1, fun _ => ?_⟩)
      · have fx3 := fx2.trans c1
        have k3 := adg_ok e3
        have eS3 : M3.1 1 3 0 = nI S := (fx3.1 1 3 0 (by omega)).trans eS
        refine kct (by decide) (Nat.le_of_ble_eq_true rfl) (bX3_addStage_0 3 _ _ _ M3 _ ?_)
        simp (disch := omega) only [ku_ne, ku_eq, eS3, qa_0, qa_1, qa_2, qa_3, qa_4, qa_5, qa_6, qa_7, qa_8, qa_9, qa_10, qa_12, qa_16, qa_20, qa_21, qa_22, qa_23, qa_24, qa_26, qa_27, qa_30, qa_31, qa_32, qa_35, qa_36, qa_40, qa_44, qa_48, qa_49, qa_70, qa_81, qa_90, qa_96, qa_168, qa_217, qa_434, qa_442, qa_446, qa_450, qa_454, qa_455, qa_456, qa_457, qa_458, qa_466, qa_474, qa_478, qb_0, qb_1, qb_2, qb_3, qb_4, qb_5, qb_6, qb_7, qb_8, qb_9, qb_10, qb_12, qb_16, qb_20, qb_21, qb_22, qb_23, qb_24, qb_26, qb_27, qb_30, qb_31, qb_32, qb_35, qb_36, qb_40, qb_44, qb_48, qb_49, qb_70, qb_81, qb_90, qb_96, qb_168, qb_217, qb_434, qb_442, qb_446, qb_450, qb_454, qb_455, qb_456, qb_457, qb_458, qb_466, qb_474, qb_478, qm_0, qm_1, qm_2, qm_3, qm_4, qm_5, qm_6, qm_7, qm_8, qm_9, qm_10, qm_12, qm_16, qm_20, qm_21, qm_22, qm_23, qm_24, qm_26, qm_27, qm_30, qm_31, qm_32, qm_35, qm_36, qm_40, qm_44, qm_48, qm_49, qm_70, qm_81, qm_90, qm_96, qm_168, qm_217, qm_434, qm_442, qm_446, qm_450, qm_454, qm_455, qm_456, qm_457, qm_458, qm_466, qm_474, qm_478, ql_0, ql_1, ql_2, ql_3, ql_4, ql_5, ql_6, ql_7, ql_8, ql_9, ql_10, ql_12, ql_16, ql_20, ql_21, ql_22, ql_23, ql_24, ql_26, ql_27, ql_30, ql_31, ql_32, ql_35, ql_36, ql_40, ql_44, ql_48, ql_49, ql_70, ql_81, ql_90, ql_96, ql_168, ql_217, ql_434, ql_442, ql_446, ql_450, ql_454, ql_455, ql_456, ql_457, ql_458, ql_466, ql_474, ql_478, nI_add, q_cl, q_in, true_and]
        rintro M4 rfl
        simp (disch := omega) only [ku_ne, ku_eq, eS3, qa_0, qa_1, qa_2, qa_3, qa_4, qa_5, qa_6, qa_7, qa_8, qa_9, qa_10, qa_12, qa_16, qa_20, qa_21, qa_22, qa_23, qa_24, qa_26, qa_27, qa_30, qa_31, qa_32, qa_35, qa_36, qa_40, qa_44, qa_48, qa_49, qa_70, qa_81, qa_90, qa_96, qa_168, qa_217, qa_434, qa_442, qa_446, qa_450, qa_454, qa_455, qa_456, qa_457, qa_458, qa_466, qa_474, qa_478, qb_0, qb_1, qb_2, qb_3, qb_4, qb_5, qb_6, qb_7, qb_8, qb_9, qb_10, qb_12, qb_16, qb_20, qb_21, qb_22, qb_23, qb_24, qb_26, qb_27, qb_30, qb_31, qb_32, qb_35, qb_36, qb_40, qb_44, qb_48, qb_49, qb_70, qb_81, qb_90, qb_96, qb_168, qb_217, qb_434, qb_442, qb_446, qb_450, qb_454, qb_455, qb_456, qb_457, qb_458, qb_466, qb_474, qb_478, qm_0, qm_1, qm_2, qm_3, qm_4, qm_5, qm_6, qm_7, qm_8, qm_9, qm_10, qm_12, qm_16, qm_20, qm_21, qm_22, qm_23, qm_24, qm_26, qm_27, qm_30, qm_31, qm_32, qm_35, qm_36, qm_40, qm_44, qm_48, qm_49, qm_70, qm_81, qm_90, qm_96, qm_168, qm_217, qm_434, qm_442, qm_446, qm_450, qm_454, qm_455, qm_456, qm_457, qm_458, qm_466, qm_474, qm_478, ql_0, ql_1, ql_2, ql_3, ql_4, ql_5, ql_6, ql_7, ql_8, ql_9, ql_10, ql_12, ql_16, ql_20, ql_21, ql_22, ql_23, ql_24, ql_26, ql_27, ql_30, ql_31, ql_32, ql_35, ql_36, ql_40, ql_44, ql_48, ql_49, ql_70, ql_81, ql_90, ql_96, ql_168, ql_217, ql_434, ql_442, ql_446, ql_450, ql_454, ql_455, ql_456, ql_457, ql_458, ql_466, ql_474, ql_478, nI_add, q_cl, q_in, true_and]
        rintro M5 rfl
        simp (disch := omega) only [ku_ne, ku_eq, eS3, qa_0, qa_1, qa_2, qa_3, qa_4, qa_5, qa_6, qa_7, qa_8, qa_9, qa_10, qa_12, qa_16, qa_20, qa_21, qa_22, qa_23, qa_24, qa_26, qa_27, qa_30, qa_31, qa_32, qa_35, qa_36, qa_40, qa_44, qa_48, qa_49, qa_70, qa_81, qa_90, qa_96, qa_168, qa_217, qa_434, qa_442, qa_446, qa_450, qa_454, qa_455, qa_456, qa_457, qa_458, qa_466, qa_474, qa_478, qb_0, qb_1, qb_2, qb_3, qb_4, qb_5, qb_6, qb_7, qb_8, qb_9, qb_10, qb_12, qb_16, qb_20, qb_21, qb_22, qb_23, qb_24, qb_26, qb_27, qb_30, qb_31, qb_32, qb_35, qb_36, qb_40, qb_44, qb_48, qb_49, qb_70, qb_81, qb_90, qb_96, qb_168, qb_217, qb_434, qb_442, qb_446, qb_450, qb_454, qb_455, qb_456, qb_457, qb_458, qb_466, qb_474, qb_478, qm_0, qm_1, qm_2, qm_3, qm_4, qm_5, qm_6, qm_7, qm_8, qm_9, qm_10, qm_12, qm_16, qm_20, qm_21, qm_22, qm_23, qm_24, qm_26, qm_27, qm_30, qm_31, qm_32, qm_35, qm_36, qm_40, qm_44, qm_48, qm_49, qm_70, qm_81, qm_90, qm_96, qm_168, qm_217, qm_434, qm_442, qm_446, qm_450, qm_454, qm_455, qm_456, qm_457, qm_458, qm_466, qm_474, qm_478, ql_0, ql_1, ql_2, ql_3, ql_4, ql_5, ql_6, ql_7, ql_8, ql_9, ql_10, ql_12, ql_16, ql_20, ql_21, ql_22, ql_23, ql_24, ql_26, ql_27, ql_30, ql_31, ql_32, ql_35, ql_36, ql_40, ql_44, ql_48, ql_49, ql_70, ql_81, ql_90, ql_96, ql_168, ql_217, ql_434, ql_442, ql_446, ql_450, ql_454, ql_455, ql_456, ql_457, ql_458, ql_466, ql_474, ql_478, nI_add, q_cl, q_in, true_and]
        rintro M6 rfl
        simp (disch := omega) only [ku_ne, ku_eq, eS3, qa_0, qa_1, qa_2, qa_3, qa_4, qa_5, qa_6, qa_7, qa_8, qa_9, qa_10, qa_12, qa_16, qa_20, qa_21, qa_22, qa_23, qa_24, qa_26, qa_27, qa_30, qa_31, qa_32, qa_35, qa_36, qa_40, qa_44, qa_48, qa_49, qa_70, qa_81, qa_90, qa_96, qa_168, qa_217, qa_434, qa_442, qa_446, qa_450, qa_454, qa_455, qa_456, qa_457, qa_458, qa_466, qa_474, qa_478, qb_0, qb_1, qb_2, qb_3, qb_4, qb_5, qb_6, qb_7, qb_8, qb_9, qb_10, qb_12, qb_16, qb_20, qb_21, qb_22, qb_23, qb_24, qb_26, qb_27, qb_30, qb_31, qb_32, qb_35, qb_36, qb_40, qb_44, qb_48, qb_49, qb_70, qb_81, qb_90, qb_96, qb_168, qb_217, qb_434, qb_442, qb_446, qb_450, qb_454, qb_455, qb_456, qb_457, qb_458, qb_466, qb_474, qb_478, qm_0, qm_1, qm_2, qm_3, qm_4, qm_5, qm_6, qm_7, qm_8, qm_9, qm_10, qm_12, qm_16, qm_20, qm_21, qm_22, qm_23, qm_24, qm_26, qm_27, qm_30, qm_31, qm_32, qm_35, qm_36, qm_40, qm_44, qm_48, qm_49, qm_70, qm_81, qm_90, qm_96, qm_168, qm_217, qm_434, qm_442, qm_446, qm_450, qm_454, qm_455, qm_456, qm_457, qm_458, qm_466, qm_474, qm_478, ql_0, ql_1, ql_2, ql_3, ql_4, ql_5, ql_6, ql_7, ql_8, ql_9, ql_10, ql_12, ql_16, ql_20, ql_21, ql_22, ql_23, ql_24, ql_26, ql_27, ql_30, ql_31, ql_32, ql_35, ql_36, ql_40, ql_44, ql_48, ql_49, ql_70, ql_81, ql_90, ql_96, ql_168, ql_217, ql_434, ql_442, ql_446, ql_450, ql_454, ql_455, ql_456, ql_457, ql_458, ql_466, ql_474, ql_478, nI_add, q_cl, q_in, true_and]
        rintro M7 rfl
        refine h1 _ v1 v2 v3 p3 (aStg_4 e1 e2 e3) (fx3.d.trans ⟨fun c i j hc => by simp (disch := omega) only [ku_ne], rfl⟩) (by simp (disch := omega) only [ku_ne]; exact c2) ?_
        rw [rx_u0, rx_u3, rx_u2, rx_u1, fx3.r3]
        rfl
      · exact absurd (nI_pos' (by have := adg_ok e3; omega)) z
      · exact h0 M3 f (aStg_3 e1 e2 e3) (fx2.trans c1).d c2
    · exact absurd (nI_pos' (by have := adg_ok e2; omega)) z
    · exact bX4_readStage_38 _ _ _ _ _ ⟨fun z => absurd z neg1, fun _ => h0 M2 f (aStg_2 e1 e2) (a1.trans b1).d b2⟩
  · exact absurd (nI_pos' (by have := adg_ok e1; omega)) z
  · exact bX4_readStage_23 _ _ _ _ ⟨fun z => absurd z neg1, fun _ => bX4_readStage_38 _ _ _ _ _ ⟨fun z => absurd z neg1, fun _ => h0 M1 f (aStg_1 e1) a1.d a2⟩⟩
theorem m_takesStage (p S : Nat) (hp : p ≤ t) (hS : S < 8) (gd : tgd t L) (tm : ttm t L M) (ep : M.1 0 0 7 = nI p) (eS : M.1 1 0 455 = nI S) (h1 : ∀ M' v1 v2 v3 p', aStg t L p = .inr (v1, v2, v3, p') → dfm M M' → M'.1 0 0 7 = nI p' → reqF (rmd M' 434) (stg (rmd M 434) S v1 v2 v3) → Q 1 M') (h0 : ∀ M' f, aStg t L p = .inl f → dfm M M' → M'.1 0 0 8 = nI f → Q 0 M') : kCT l (rg_m, g) mX6_takesStage [.inr (.inr (0, 0))] M (kqi Q) := by
  refine kct (by decide) (Nat.le_of_ble_eq_true rfl) (bX6_takesStage_0 M Q ?_)
  rw [ql_455, eS]
  rintro z1 rfl
  refine m_digit p 1 9 hp (by omega) (by omega) gd tm ep (fun M1 v1 p1 e1 a1 a2 => ⟨fun _ => ?_, fun z => ?_⟩) (fun M1 f e1 a1 a2 a3 => ⟨fun z => absurd z neg1, fun _ => ?_⟩)
  · have k1 := adg_ok e1
    refine m_digit p1 0 9 k1.2.2.1 (by omega) (by omega) gd (a1.tt tm) a2 (fun M2 v2 p2 e2 b1 b2 => bX6_takesStage_32 _ _ _ _ _ ⟨fun _ => ?_, fun z => ?_⟩) (fun M2 f e2 b1 b2 b3 => bX6_takesStage_32 _ _ _ _ _ ⟨fun z => absurd z neg1, fun _ => ?_⟩)
    · have k2 := adg_ok e2
      have fx2 := a1.trans b1
      refine m_digit p2 0 4 k2.2.2.1 (by omega) (by omega) gd (fx2.tt tm) b2 (fun M3 v3 p3 e3 c1 c2 => bX6_takesStage_47 _ _ _ _ _ _ ⟨fun _ => ?_, fun z => ?_⟩) (fun M3 f e3 c1 c2 c3 => bX6_takesStage_47 _ _ _ _ _ _ ⟨fun z => absurd z neg1, fun _ => ?_⟩)
      · have fx3 := fx2.trans c1
        have eS3 : M3.1 1 0 455 = nI S := (fx3.1 1 0 455 (by omega)).trans eS
        simp (disch := omega) only [qa_0, qa_1, qa_2, qa_3, qa_4, qa_5, qa_6, qa_7, qa_8, qa_9, qa_10, qa_12, qa_16, qa_20, qa_21, qa_22, qa_23, qa_24, qa_26, qa_27, qa_30, qa_31, qa_32, qa_35, qa_36, qa_40, qa_44, qa_48, qa_49, qa_70, qa_81, qa_90, qa_96, qa_168, qa_217, qa_434, qa_442, qa_446, qa_450, qa_454, qa_455, qa_456, qa_457, qa_458, qa_466, qa_474, qa_478, qb_0, qb_1, qb_2, qb_3, qb_4, qb_5, qb_6, qb_7, qb_8, qb_9, qb_10, qb_12, qb_16, qb_20, qb_21, qb_22, qb_23, qb_24, qb_26, qb_27, qb_30, qb_31, qb_32, qb_35, qb_36, qb_40, qb_44, qb_48, qb_49, qb_70, qb_81, qb_90, qb_96, qb_168, qb_217, qb_434, qb_442, qb_446, qb_450, qb_454, qb_455, qb_456, qb_457, qb_458, qb_466, qb_474, qb_478, qm_0, qm_1, qm_2, qm_3, qm_4, qm_5, qm_6, qm_7, qm_8, qm_9, qm_10, qm_12, qm_16, qm_20, qm_21, qm_22, qm_23, qm_24, qm_26, qm_27, qm_30, qm_31, qm_32, qm_35, qm_36, qm_40, qm_44, qm_48, qm_49, qm_70, qm_81, qm_90, qm_96, qm_168, qm_217, qm_434, qm_442, qm_446, qm_450, qm_454, qm_455, qm_456, qm_457, qm_458, qm_466, qm_474, qm_478, ql_0, ql_1, ql_2, ql_3, ql_4, ql_5, ql_6, ql_7, ql_8, ql_9, ql_10, ql_12, ql_16, ql_20, ql_21, ql_22, ql_23, ql_24, ql_26, ql_27, ql_30, ql_31, ql_32, ql_35, ql_36, ql_40, ql_44, ql_48, ql_49, ql_70, ql_81, ql_90, ql_96, ql_168, ql_217, ql_434, ql_442, ql_446, ql_450, ql_454, ql_455, ql_456, ql_457, ql_458, ql_466, ql_474, ql_478, nI_add, q_cl, q_in, true_and]
        rintro M4 rfl M5 rfl M6 rfl M7 rfl
        simp (disch := omega) only [ku_ne, eS3, qa_0, qa_1, qa_2, qa_3, qa_4, qa_5, qa_6, qa_7, qa_8, qa_9, qa_10, qa_12, qa_16, qa_20, qa_21, qa_22, qa_23, qa_24, qa_26, qa_27, qa_30, qa_31, qa_32, qa_35, qa_36, qa_40, qa_44, qa_48, qa_49, qa_70, qa_81, qa_90, qa_96, qa_168, qa_217, qa_434, qa_442, qa_446, qa_450, qa_454, qa_455, qa_456, qa_457, qa_458, qa_466, qa_474, qa_478, qb_0, qb_1, qb_2, qb_3, qb_4, qb_5, qb_6, qb_7, qb_8, qb_9, qb_10, qb_12, qb_16, qb_20, qb_21, qb_22, qb_23, qb_24, qb_26, qb_27, qb_30, qb_31, qb_32, qb_35, qb_36, qb_40, qb_44, qb_48, qb_49, qb_70, qb_81, qb_90, qb_96, qb_168, qb_217, qb_434, qb_442, qb_446, qb_450, qb_454, qb_455, qb_456, qb_457, qb_458, qb_466, qb_474, qb_478, qm_0, qm_1, qm_2, qm_3, qm_4, qm_5, qm_6, qm_7, qm_8, qm_9, qm_10, qm_12, qm_16, qm_20, qm_21, qm_22, qm_23, qm_24, qm_26, qm_27, qm_30, qm_31, qm_32, qm_35, qm_36, qm_40, qm_44, qm_48, qm_49, qm_70, qm_81, qm_90, qm_96, qm_168, qm_217, qm_434, qm_442, qm_446, qm_450, qm_454, qm_455, qm_456, qm_457, qm_458, qm_466, qm_474, qm_478, ql_0, ql_1, ql_2, ql_3, ql_4, ql_5, ql_6, ql_7, ql_8, ql_9, ql_10, ql_12, ql_16, ql_20, ql_21, ql_22, ql_23, ql_24, ql_26, ql_27, ql_30, ql_31, ql_32, ql_35, ql_36, ql_40, ql_44, ql_48, ql_49, ql_70, ql_81, ql_90, ql_96, ql_168, ql_217, ql_434, ql_442, ql_446, ql_450, ql_454, ql_455, ql_456, ql_457, ql_458, ql_466, ql_474, ql_478, nI_add, q_cl, q_in, true_and]
        refine h1 _ v1 v2 v3 p3 (aStg_4 e1 e2 e3) (fx3.d.trans ⟨fun c i j hc => by simp (disch := omega) only [ku_ne], rfl⟩) (by simp (disch := omega) only [ku_ne]; exact c2) ?_
        refine (rmd_uF (h := 434) (f := 0) (j := 0) rfl (by decide) (by decide)).trans (reqF.up ?_ _ _ _)
        refine (rmd_uF (h := 434) (f := 3) (j := S) (by simp [wof]) (by decide) (by show S < 8; omega)).trans (reqF.up ?_ _ _ _)
        refine (rmd_uF (h := 434) (f := 2) (j := S) (by simp [wof]; omega) (by decide) (by show S < 8; omega)).trans (reqF.up ?_ _ _ _)
        refine (rmd_uF (h := 434) (f := 1) (j := S) (by simp [wof]; omega) (by decide) (by show S < 8; omega)).trans (reqF.up ?_ _ _ _)
        rw [fx3.rd]
        exact reqF.refl _
      · exact absurd (nI_pos' (by have := adg_ok e3; omega)) z
      · exact h0 M3 f (aStg_3 e1 e2 e3) (fx2.trans c1).d c3
    · exact absurd (nI_pos' (by have := adg_ok e2; omega)) z
    · exact bX6_takesStage_47 _ _ _ _ _ _ ⟨fun z => absurd z neg1, fun _ => h0 M2 f (aStg_2 e1 e2) (a1.trans b1).d b3⟩
  · exact absurd (nI_pos' (by have := adg_ok e1; omega)) z
  · exact bX6_takesStage_32 _ _ _ _ _ ⟨fun z => absurd z neg1, fun _ => bX6_takesStage_47 _ _ _ _ _ _ ⟨fun z => absurd z neg1, fun _ => h0 M1 f (aStg_1 e1) a1.d a3⟩⟩
theorem x_readBuying (p S r : Nat) (hp : p ≤ t) (hS : 1 ≤ S) (hS8 : S ≤ 8) (hr : r < 4) (gd : tgd t L) (tx : ttx t L M) (ep : M.1 4 0 3 = nI p) (eS : M.1 1 3 0 = nI S) (h : ∀ M', dfx M M' → M'.1 4 0 3 = nI (abl t L S 8 0 0 p).2 → rx M' 3 = rup (rx M 3) 8 r (nI (abl t L S 8 0 0 p).1) → Q (if (abl t L S 8 0 0 p).1 = 0 then 0 else 1) M') : kCT l (rg_x, g) mX4_readBuying [.inr (.inr (4, 0)), .inl (nI r)] M (kqi Q) := by
  have ht := gd.1
  refine kct (by decide) (Nat.le_of_ble_eq_true rfl) (bX4_readBuying_0 _ M Q ?_)
  have fin : ∀ M1, pfx M M1 → M1.1 4 0 3 = nI (abl t L S 8 0 0 p).2 → kWP l (rg_x, g) mX4_readBuying 56 [(0, .inr (.inr (4, 0))), (1, .inl (nI r)), (2, .inl (nI (abl t L S 8 0 0 p).1))] [] M1 (kqi Q) := by
    intro M1 fx e1
    have hb := abl_all (t := t) (L := L) hS8 8 0 0 p hp (by omega)
    refine bX4_readBuying_56 _ _ _ _ ?_
    simp (disch := omega) only [qa_0, qa_1, qa_2, qa_3, qa_4, qa_5, qa_6, qa_7, qa_8, qa_9, qa_10, qa_12, qa_16, qa_20, qa_21, qa_22, qa_23, qa_24, qa_26, qa_27, qa_30, qa_31, qa_32, qa_35, qa_36, qa_40, qa_44, qa_48, qa_49, qa_70, qa_81, qa_90, qa_96, qa_168, qa_217, qa_434, qa_442, qa_446, qa_450, qa_454, qa_455, qa_456, qa_457, qa_458, qa_466, qa_474, qa_478, qb_0, qb_1, qb_2, qb_3, qb_4, qb_5, qb_6, qb_7, qb_8, qb_9, qb_10, qb_12, qb_16, qb_20, qb_21, qb_22, qb_23, qb_24, qb_26, qb_27, qb_30, qb_31, qb_32, qb_35, qb_36, qb_40, qb_44, qb_48, qb_49, qb_70, qb_81, qb_90, qb_96, qb_168, qb_217, qb_434, qb_442, qb_446, qb_450, qb_454, qb_455, qb_456, qb_457, qb_458, qb_466, qb_474, qb_478, qm_0, qm_1, qm_2, qm_3, qm_4, qm_5, qm_6, qm_7, qm_8, qm_9, qm_10, qm_12, qm_16, qm_20, qm_21, qm_22, qm_23, qm_24, qm_26, qm_27, qm_30, qm_31, qm_32, qm_35, qm_36, qm_40, qm_44, qm_48, qm_49, qm_70, qm_81, qm_90, qm_96, qm_168, qm_217, qm_434, qm_442, qm_446, qm_450, qm_454, qm_455, qm_456, qm_457, qm_458, qm_466, qm_474, qm_478, ql_0, ql_1, ql_2, ql_3, ql_4, ql_5, ql_6, ql_7, ql_8, ql_9, ql_10, ql_12, ql_16, ql_20, ql_21, ql_22, ql_23, ql_24, ql_26, ql_27, ql_30, ql_31, ql_32, ql_35, ql_36, ql_40, ql_44, ql_48, ql_49, ql_70, ql_81, ql_90, ql_96, ql_168, ql_217, ql_434, ql_442, ql_446, ql_450, ql_454, ql_455, ql_456, ql_457, ql_458, ql_466, ql_474, ql_478, nI_add, q_cl, q_in, true_and]
    rintro M2 rfl
    have hq := h (ku M1 14 3 r (nI (abl t L S 8 0 0 p).1)) (fx.d.trans ⟨fun c i j hc => ku_ne (by omega), rfl⟩) (by rw [ku_ne (by omega)]; exact e1) (by rw [rx_u8, fx.r3])
    refine ⟨fun z => bX4_readBuying_75 _ _ _ ⟨Or.inl rfl, ?_⟩, fun z => bX4_readBuying_75 _ _ _ ⟨Or.inr rfl, ?_⟩⟩
    · rw [if_pos ((q_eq (b := 0) (by omega) (by omega)).mp z)] at hq
      exact hq
    · rw [if_neg (fun e => z (by rw [e]; rfl))] at hq
      exact hq
  have key : ∀ f k m lo p1, k + f = 8 → m < 256 → lo ≤ 8 → p1 ≤ t → ∀ M1, pfx M M1 → M1.1 4 0 3 = nI p1 → abl t L S 8 0 0 p = abl t L S f m lo p1 → kWP l (rg_x, g) mX4_readBuying 7 [(0, .inr (.inr (4, 0))), (1, .inl (nI r)), (2, .inl (nI m)), (3, .inl (nI lo)), (4, .inl (nI k))] [] M1 (kqi Q) := by
    intro f
    induction f with
    | zero =>
      intro k m lo p1 hk hm hlo hp1 M1 fx e1 ea
      have := fin M1 fx (by rw [ea]; exact e1)
      rw [ea] at this
      exact bX4_readBuying_7 _ _ _ _ _ _ ⟨fun _ => this, fun z => absurd ((q_le (a := 8) (by omega) (by omega)).mpr (by omega)) z⟩
    | succ f ih =>
      intro k m lo p1 hk hm hlo hp1 M1 fx e1 ea
      refine bX4_readBuying_7 _ _ _ _ _ _ ⟨fun z => ?_, fun _ => ?_⟩
      · rw [show (8 : Int32) = nI 8 from rfl, q_le (by omega) (by omega)] at z
        omega
      · rw [show M1.1 1 3 0 = nI S from (fx.1 1 3 0 (by omega)).trans eS, show nI S - 1 = nI (S - 1) from pk_sub (b := 1) hS]
        refine x_readDigit p1 lo (S - 1) hp1 (by omega) (by omega) gd (fx.tt tx) e1 (fun M2 v p2 e2 b1 b2 => ⟨fun _ => ?_, fun z => ?_⟩) (fun M2 q e2 b1 b2 => ⟨fun z => absurd z neg1, fun _ => ?_⟩)
        · have k2 := adg_ok e2
          have hb := or_bit hm (show v < 8 by omega)
          rintro z3 rfl z4 rfl z5 rfl
          rw [hb.1, qa_1, qa_1]
          refine ih (k + 1) _ (v + 1) p2 (by omega) hb.2.1 (by omega) k2.2.2.1 M2 (fx.trans b1) b2 ?_
          rw [ea]
          show (match adg t L lo (S - 1) p1 with | .inl q => (m, q) | .inr (v, p') => abl t L S f (m ||| 2 ^ v) (v + 1) p') = _
          rw [e2]
        · exact absurd (nI_pos' (by have := adg_ok e2; omega)) z
        · have ea2 : abl t L S 8 0 0 p = (m, q) := by
            rw [ea]
            show (match adg t L lo (S - 1) p1 with | .inl q => (m, q) | .inr (v, p') => abl t L S f (m ||| 2 ^ v) (v + 1) p') = _
            rw [e2]
          have := fin M2 (fx.trans b1) (by rw [ea2]; exact b2)
          rw [ea2] at this
          exact this
  exact key 8 0 0 0 p (by omega) (by omega) (by omega) hp M (pfx.refl M) ep rfl
theorem min_dg {p : Nat} (gd : tgd t L) : ¬ wth (mlc t L p) 48 57 = 0 ↔ 48 ≤ tlc t L p ∧ tlc t L p ≤ 57 := by
  unfold mlc tlc
  by_cases hlt : p < t
  · rw [if_pos hlt, if_pos hlt]
    have := gd.2 p hlt
    rw [wth_ne, show (48 : Int32) = nI 48 from rfl, show (57 : Int32) = nI 57 from rfl, q_lt (by omega) (by omega), q_lt (by omega) (by omega)]
    omega
  · rw [if_neg hlt, if_neg hlt]
    constructor
    · intro z
      exact absurd (by decide) z
    · omega
theorem adg_tsk {lo hi p : Nat} : adg t L lo hi (tsk t L p) = adg t L lo hi p := by
  unfold adg
  rw [tsk_tsk]
theorem m_takesBuys (q S r : Nat) (hq : q + 1 ≤ t) (hS : 1 ≤ S) (hS8 : S ≤ 8) (hr : r < 4) (gd : tgd t L) (tm : ttm t L M) (ep : M.1 0 0 7 = nI q) (eS : M.1 1 0 455 = nI S) (e8 : M.1 1 0 (478 + r) = 0)
    (h1 : ∀ M', (abl t L S 8 0 0 (q + 1)).1 ≠ 0 → dfm M M' → M'.1 0 0 7 = nI (tsk t L (abl t L S 8 0 0 (q + 1)).2) → reqF (rmd M' 434) (rup (rmd M 434) 8 r (nI (abl t L S 8 0 0 (q + 1)).1)) → Q 1 M')
    (h0 : ∀ M', ((abl t L S 8 0 0 (q + 1)).1 = 0 ∨ 48 ≤ tlc t L (tsk t L (abl t L S 8 0 0 (q + 1)).2) ∧ tlc t L (tsk t L (abl t L S 8 0 0 (q + 1)).2) ≤ 57) → dfm M M' → M'.1 0 0 8 = nI (tsk t L (abl t L S 8 0 0 (q + 1)).2) → Q 0 M') : kCT l (rg_m, g) mX6_takesBuys [.inr (.inr (0, 0)), .inl (nI r)] M (kqi Q) := by
  have ht := gd.1
  refine kct (by decide) (Nat.le_of_ble_eq_true rfl) (bX6_takesBuys_0 _ M Q ?_)
  rw [ep, qa_1]
  rintro M1 rfl
  have key : ∀ f m lo p1, 8 ≤ lo + f → (m = 0 ↔ lo = 0) → m < 256 → lo ≤ 8 → p1 ≤ t → ∀ M1, dfm M M1 → M1.1 0 0 7 = nI p1 → M1.1 1 0 455 = nI S → M1.1 1 0 (478 + r) = nI m → reqF (rmd M1 434) (rup (rmd M 434) 8 r (nI m)) → abl t L S 8 0 0 (q + 1) = abl t L S f m lo p1 → kWP l (rg_m, g) mX6_takesBuys 12 [(0, .inr (.inr (0, 0))), (1, .inl (nI r)), (2, .inl (nI lo))] [] M1 (kqi Q) := by
    intro f
    induction f with
    | zero =>
      intro m lo p1 hf hml hm hlo hp1 M1 fx e1 eS1 e81 rq ea
      have hb : abl t L S 8 0 0 (q + 1) = (m, p1) := ea
      have hm0 : m ≠ 0 := fun z => by have := hml.mp z; omega
      refine bX6_takesBuys_12 _ _ _ _ ⟨fun z => ?_, fun _ => m_here p1 hp1 gd (fx.tt tm) e1 (fun M2 b1 b8 b2 => ?_)⟩
      · have := (q_eq (b := 0) (by omega) (by omega)).mp z
        omega
      · have hin : ¬ wth (mlc t L (tsk t L p1)) 48 57 = 0 ↔ 48 ≤ tlc t L (tsk t L p1) ∧ tlc t L (tsk t L p1) ≤ 57 := min_dg gd
        refine m_in _ 48 57 (by decide) (by decide) ⟨fun c => ?_, fun c => bX6_takesBuys_33 _ _ _ _ ?_⟩
        · refine h1 M2 (by rw [hb]; exact hm0) (fx.trans b1.d) (by rw [hb]; exact b2) ?_
          rw [hb, b1.rd]
          exact rq
        · rw [ql_455, show M2.1 1 0 455 = nI S from (b1.1 1 0 455 (by omega)).trans eS1, show nI S - 1 = nI (S - 1) from pk_sub (b := 1) hS]
          refine m_digit (tsk t L p1) lo (S - 1) (tsk_le hp1) (by omega) (by omega) gd (b1.tt (fx.tt tm)) b2 (fun M3 v p3 e3 c1 c2 => ?_) (fun M3 g3 e3 c1 c2 c3 => ⟨fun z => absurd z neg1, fun _ => ?_⟩)
          · have := adg_ok e3
            omega
          · refine h0 M3 (Or.inr (by rw [hb]; exact hin.mp c)) ((fx.trans b1.d).trans c1.d) ?_
            rw [hb, c3, (adg_no e3).1, tsk_tsk]
    | succ f ih =>
      intro m lo p1 hf hml hm hlo hp1 M1 fx e1 eS1 e81 rq ea
      have hun : abl t L S 8 0 0 (q + 1) = match adg t L lo (S - 1) p1 with | .inl q => (m, q) | .inr (v, p') => abl t L S f (m ||| 2 ^ v) (v + 1) p' := ea
      have k33 : ∀ M2 p2, adg t L lo (S - 1) p2 = adg t L lo (S - 1) p1 → p2 ≤ t → dfm M M2 → M2.1 0 0 7 = nI p2 → M2.1 1 0 455 = nI S → M2.1 1 0 (478 + r) = nI m → reqF (rmd M2 434) (rup (rmd M 434) 8 r (nI m)) → (lo = 0 ∨ 48 ≤ tlc t L (tsk t L p1) ∧ tlc t L (tsk t L p1) ≤ 57) → kWP l (rg_m, g) mX6_takesBuys 33 [(0, .inr (.inr (0, 0))), (1, .inl (nI r)), (2, .inl (nI lo))] [] M2 (kqi Q) := by
        intro M2 p2 ead hp2 fx2 e2 eS2 e82 rq2 hd
        refine bX6_takesBuys_33 _ _ _ _ ?_
        rw [ql_455, eS2, show nI S - 1 = nI (S - 1) from pk_sub (b := 1) hS]
        refine m_digit p2 lo (S - 1) hp2 (by omega) (by omega) gd (fx2.tt tm) e2 (fun M3 v p3 e3 c1 c2 => ⟨fun _ => ?_, fun z => ?_⟩) (fun M3 g3 e3 c1 c2 c3 => ⟨fun z => absurd z neg1, fun _ => ?_⟩)
        · have k3 := adg_ok e3
          have hb := or_bit hm (show v < 8 by omega)
          simp (disch := omega) only [qa_0, qa_1, qa_2, qa_3, qa_4, qa_5, qa_6, qa_7, qa_8, qa_9, qa_10, qa_12, qa_16, qa_20, qa_21, qa_22, qa_23, qa_24, qa_26, qa_27, qa_30, qa_31, qa_32, qa_35, qa_36, qa_40, qa_44, qa_48, qa_49, qa_70, qa_81, qa_90, qa_96, qa_168, qa_217, qa_434, qa_442, qa_446, qa_450, qa_454, qa_455, qa_456, qa_457, qa_458, qa_466, qa_474, qa_478, qb_0, qb_1, qb_2, qb_3, qb_4, qb_5, qb_6, qb_7, qb_8, qb_9, qb_10, qb_12, qb_16, qb_20, qb_21, qb_22, qb_23, qb_24, qb_26, qb_27, qb_30, qb_31, qb_32, qb_35, qb_36, qb_40, qb_44, qb_48, qb_49, qb_70, qb_81, qb_90, qb_96, qb_168, qb_217, qb_434, qb_442, qb_446, qb_450, qb_454, qb_455, qb_456, qb_457, qb_458, qb_466, qb_474, qb_478, qm_0, qm_1, qm_2, qm_3, qm_4, qm_5, qm_6, qm_7, qm_8, qm_9, qm_10, qm_12, qm_16, qm_20, qm_21, qm_22, qm_23, qm_24, qm_26, qm_27, qm_30, qm_31, qm_32, qm_35, qm_36, qm_40, qm_44, qm_48, qm_49, qm_70, qm_81, qm_90, qm_96, qm_168, qm_217, qm_434, qm_442, qm_446, qm_450, qm_454, qm_455, qm_456, qm_457, qm_458, qm_466, qm_474, qm_478, ql_0, ql_1, ql_2, ql_3, ql_4, ql_5, ql_6, ql_7, ql_8, ql_9, ql_10, ql_12, ql_16, ql_20, ql_21, ql_22, ql_23, ql_24, ql_26, ql_27, ql_30, ql_31, ql_32, ql_35, ql_36, ql_40, ql_44, ql_48, ql_49, ql_70, ql_81, ql_90, ql_96, ql_168, ql_217, ql_434, ql_442, ql_446, ql_450, ql_454, ql_455, ql_456, ql_457, ql_458, ql_466, ql_474, ql_478, nI_add, q_cl, q_in, true_and]
          rw [c1.1 1 0 (478 + r) (by omega), e82, hb.1]
          rintro M4 rfl z4 rfl
          refine ih _ (v + 1) p3 (by omega) ⟨fun z => absurd z hb.2.2, fun z => by omega⟩ hb.2.1 (by omega) k3.2.2.1 _ ((fx2.trans c1.d).trans (dfm.u (by omega))) (by rw [ku_ne (by omega)]; exact c2) (by rw [ku_ne (by omega), c1.1 1 0 455 (by omega)]; exact eS2) ku_eq ?_ ?_
          · refine (rmd_uF (h := 434) (f := 8) (j := r) (by simp [wof]; omega) (by decide) (by show r < 4; omega)).trans ?_
            rw [c1.rd]
            refine (reqF.up rq2 _ _ _).trans ?_
            rw [rup_rup]
            exact reqF.refl _
          · rw [hun, ← ead, e3]
        · exact absurd (nI_pos' (by have := adg_ok e3; omega)) z
        · have ea2 : abl t L S 8 0 0 (q + 1) = (m, g3) := by rw [hun, ← ead, e3]
          have e4 := e3
          rw [ead] at e4
          have hg := (adg_no e4).1
          refine h0 M3 ?_ (fx2.trans c1.d) ?_
          · rw [ea2]
            rcases hd with hd | hd
            · exact Or.inl (hml.mpr hd)
            · refine Or.inr ?_
              show 48 ≤ tlc t L (tsk t L g3) ∧ tlc t L (tsk t L g3) ≤ 57
              rw [hg, tsk_tsk]
              exact hd
          · rw [ea2]
            show M3.1 0 0 8 = nI (tsk t L g3)
            rw [c3, hg, tsk_tsk]
      refine bX6_takesBuys_12 _ _ _ _ ⟨fun z => ?_, fun z => m_here p1 hp1 gd (fx.tt tm) e1 (fun M2 b1 b8 b2 => ?_)⟩
      · exact k33 M1 p1 rfl hp1 fx e1 eS1 e81 rq (Or.inl ((q_eq (b := 0) (by omega) (by omega)).mp z))
      · have hin : ¬ wth (mlc t L (tsk t L p1)) 48 57 = 0 ↔ 48 ≤ tlc t L (tsk t L p1) ∧ tlc t L (tsk t L p1) ≤ 57 := min_dg gd
        refine m_in _ 48 57 (by decide) (by decide) ⟨fun c => ?_, fun c => ?_⟩
        · have hnd : ¬ (48 ≤ tlc t L (tsk t L p1) ∧ tlc t L (tsk t L p1) ≤ 57) := fun w => hin.mpr w c
          have e4 : adg t L lo (S - 1) p1 = .inl (tsk t L p1) := if_neg (fun w => hnd ⟨by omega, by omega⟩)
          have ea2 : abl t L S 8 0 0 (q + 1) = (m, tsk t L p1) := by rw [hun, e4]
          refine h1 M2 ?_ (fx.trans b1.d) ?_ ?_
          · rw [ea2]
            intro w
            exact z (by rw [hml.mp w]; rfl)
          · rw [ea2]
            show M2.1 0 0 7 = nI (tsk t L (tsk t L p1))
            rw [tsk_tsk]
            exact b2
          · rw [ea2, b1.rd]
            exact rq
        · exact k33 M2 (tsk t L p1) adg_tsk (tsk_le hp1) (fx.trans b1.d) b2 ((b1.1 1 0 455 (by omega)).trans eS1) ((b1.1 1 0 (478 + r) (by omega)).trans e81) (by rw [b1.rd]; exact rq) (Or.inr (hin.mp c))
  refine key 8 0 0 (q + 1) (by omega) ⟨fun _ => rfl, fun _ => rfl⟩ (by omega) (by omega) hq _ (pfm.u (by omega)).d ku_eq (by rw [ku_ne (by omega)]; exact eS) (by rw [ku_ne (by omega)]; exact e8) ?_ rfl
  rw [(pfm.u (M := M) (v := nI (q + 1)) (Or.inl rfl)).rd]
  have : rup (rmd M 434) 8 r (nI 0) = rmd M 434 := by
    have e : rmd M 434 8 r = 0 := e8
    rw [show nI 0 = rmd M 434 8 r from e.symm, rup_id]
  rw [this]
  exact reqF.refl _
end KTL
