/-! ===== a rider on the tape ===== -/
def aRd (t : Nat) (L : Nat → Nat) (S p : Nat) : TR (Nat × Nat × Nat × Nat × Nat) := match akd (tlc t L (tsk t L p)) with
  | none => .inl (tsk t L p)
  | some kd => match anb t L 999 (tsk t L p + 1) with
    | .inl f => .inl f
    | .inr (st, p1) => if tlc t L (tsk t L p1) = 47 then (match anb t L 99 (tsk t L p1 + 1) with
        | .inl f => .inl f
        | .inr (co, p2) => if tlc t L (tsk t L p2) = 58 then (if (abl t L S 8 0 0 (tsk t L p2 + 1)).1 = 0 then .inl (abl t L S 8 0 0 (tsk t L p2 + 1)).2 else .inr (kd, st, co, (abl t L S 8 0 0 (tsk t L p2 + 1)).1, (abl t L S 8 0 0 (tsk t L p2 + 1)).2)) else .inr (kd, st, co, 0, tsk t L p2)) else .inl (tsk t L p1)
section KAR
variable {t : Nat} {L : Nat → Nat} {S p kd st p1 co p2 f : Nat}
theorem aRd_1 (e1 : akd (tlc t L (tsk t L p)) = none) : aRd t L S p = .inl (tsk t L p) := by
  unfold aRd
  rw [e1]
theorem aRd_2 (e1 : akd (tlc t L (tsk t L p)) = some kd) (e2 : anb t L 999 (tsk t L p + 1) = .inl f) : aRd t L S p = .inl f := by
  unfold aRd
  rw [e1]
  simp only
  rw [e2]
theorem aRd_3 (e1 : akd (tlc t L (tsk t L p)) = some kd) (e2 : anb t L 999 (tsk t L p + 1) = .inr (st, p1)) (e3 : ¬ tlc t L (tsk t L p1) = 47) : aRd t L S p = .inl (tsk t L p1) := by
  unfold aRd
  rw [e1]
  simp only
  rw [e2]
  simp only
  rw [if_neg e3]
theorem aRd_4 (e1 : akd (tlc t L (tsk t L p)) = some kd) (e2 : anb t L 999 (tsk t L p + 1) = .inr (st, p1)) (e3 : tlc t L (tsk t L p1) = 47) (e4 : anb t L 99 (tsk t L p1 + 1) = .inl f) : aRd t L S p = .inl f := by
  unfold aRd
  rw [e1]
  simp only
  rw [e2]
  simp only
  rw [if_pos e3, e4]
theorem aRd_5 (e1 : akd (tlc t L (tsk t L p)) = some kd) (e2 : anb t L 999 (tsk t L p + 1) = .inr (st, p1)) (e3 : tlc t L (tsk t L p1) = 47) (e4 : anb t L 99 (tsk t L p1 + 1) = .inr (co, p2)) (e5 : ¬ tlc t L (tsk t L p2) = 58) : aRd t L S p = .inr (kd, st, co, 0, tsk t L p2) := by
  unfold aRd
  rw [e1]
  simp only
  rw [e2]
  simp only
  rw [if_pos e3, e4]
  simp only
  rw [if_neg e5]
theorem aRd_6 (e1 : akd (tlc t L (tsk t L p)) = some kd) (e2 : anb t L 999 (tsk t L p + 1) = .inr (st, p1)) (e3 : tlc t L (tsk t L p1) = 47) (e4 : anb t L 99 (tsk t L p1 + 1) = .inr (co, p2)) (e5 : tlc t L (tsk t L p2) = 58) : aRd t L S p = if (abl t L S 8 0 0 (tsk t L p2 + 1)).1 = 0 then .inl (abl t L S 8 0 0 (tsk t L p2 + 1)).2 else .inr (kd, st, co, (abl t L S 8 0 0 (tsk t L p2 + 1)).1, (abl t L S 8 0 0 (tsk t L p2 + 1)).2) := by
  unfold aRd
  rw [e1]
  simp only
  rw [e2]
  simp only
  rw [if_pos e3, e4]
  simp only
  rw [if_pos e5]
theorem aRd_ok {m p' : Nat} (hp : p ≤ t) (hS : S ≤ 8) (h : aRd t L S p = .inr (kd, st, co, m, p')) : st ≤ 999 ∧ p' ≤ t := by
  rcases e1 : akd (tlc t L (tsk t L p)) with _ | k1
  · rw [aRd_1 e1] at h
    exact absurd h (by intro z; cases z)
  · have hq : tsk t L p < t := by
      refine tlc_pos (L := L) ?_
      rcases Nat.eq_zero_or_pos (tlc t L (tsk t L p)) with z | z
      · rw [z] at e1
        exact absurd ((show akd 0 = none by decide).symm.trans e1) (by intro q; cases q)
      · exact z
    rcases e2 : anb t L 999 (tsk t L p + 1) with f | ⟨st1, p1⟩
    · rw [aRd_2 e1 e2] at h
      exact absurd h (by intro z; cases z)
    · have h2 := anb_ok (by omega) e2
      by_cases e3 : tlc t L (tsk t L p1) = 47
      · have hq1 : tsk t L p1 < t := tlc_pos (L := L) (by omega)
        rcases e4 : anb t L 99 (tsk t L p1 + 1) with f | ⟨co1, p2⟩
        · rw [aRd_4 e1 e2 e3 e4] at h
          exact absurd h (by intro z; cases z)
        · have h4 := anb_ok (by omega) e4
          by_cases e5 : tlc t L (tsk t L p2) = 58
          · have hq2 : tsk t L p2 < t := tlc_pos (L := L) (by omega)
            rw [aRd_6 e1 e2 e3 e4 e5] at h
            split at h
            · exact absurd h (by intro z; cases z)
            · have hb := abl_all (t := t) (L := L) hS 8 0 0 (tsk t L p2 + 1) (by omega) (by omega)
              cases h
              exact ⟨h2.1, hb.2.1⟩
          · rw [aRd_5 e1 e2 e3 e4 e5] at h
            cases h
            exact ⟨h2.1, tsk_le h4.2⟩
      · rw [aRd_3 e1 e2 e3] at h
        exact absurd h (by intro z; cases z)
end KAR
theorem rdr_buy {R : Rc} {r kd st co m : Nat} : rup (rdr R r kd st co 0) 8 r (nI m) = rdr R r kd st co m := by
  unfold rdr
  rw [rup_comm (f := 0) (f' := 8) (by omega), rup_rup]
theorem rdr_m {R : Rc} {r kd st co : Nat} (h5 : R 5 r = 0) (h8 : R 8 r = 0) : rdr R r kd st co 0 = rup (rup (rup (rup R 4 r (nI kd)) 6 r (nI st)) 7 r (nI co)) 0 1 (nI (r + 1)) := by
  unfold rdr
  have e5 : rup (rup R 4 r (nI kd)) 5 r 0 = rup R 4 r (nI kd) := by
    have : rup R 4 r (nI kd) 5 r = 0 := by
      rw [rup_ne (by omega)]
      exact h5
    rw [← this, rup_id]
  rw [e5]
  have e8 : rup (rup (rup (rup R 4 r (nI kd)) 6 r (nI st)) 7 r (nI co)) 8 r (nI 0) = rup (rup (rup R 4 r (nI kd)) 6 r (nI st)) 7 r (nI co) := by
    have : rup (rup (rup R 4 r (nI kd)) 6 r (nI st)) 7 r (nI co) 8 r = nI 0 := by
      rw [rup_ne (by omega), rup_ne (by omega), rup_ne (by omega)]
      exact h8
    rw [← this, rup_id]
  rw [e8]
section KTR
variable {l : Launch} {g : va_G × (Nat → ClassId) × (Nat → Nat → Nat)} {M : kM} {t : Nat} {L : Nat → Nat} {Q : Int32 → kM → Prop}
theorem x_readRider (p S r : Nat) (hp : p ≤ t) (hS : 1 ≤ S) (hS8 : S ≤ 8) (hr : r < 4) (gd : tgd t L) (tx : ttx t L M) (ep : M.1 4 0 3 = nI p) (eS : M.1 1 3 0 = nI S) (er : M.1 1 3 1 = nI r) (h1 : ∀ M' kd st co m p', aRd t L S p = .inr (kd, st, co, m, p') → dfx M M' → M'.1 4 0 3 = nI p' → rx M' 3 = rdr (rx M 3) r kd st co m → Q 1 M') (h0 : ∀ M' f, aRd t L S p = .inl f → dfx M M' → M'.1 4 0 3 = nI f → Q 0 M') : kCT l (rg_x, g) mX4_readRider [.inr (.inr (4, 0))] M (kqi Q) := by
  have ht := gd.1
  refine kct (by decide) (Nat.le_of_ble_eq_true rfl) (bX4_readRider_0 M Q (x_letterHere p hp gd tx ep (fun M1 a1 a2 => x_kindOf _ (tlc_le gd) (fun kd e1 => ⟨fun _ => ?_, fun z => absurd (nI_pos' (by have := akd_le e1; omega)) z⟩) (fun e1 => ⟨fun z => absurd z neg1, fun _ => h0 M1 _ (aRd_1 e1) a1.d a2⟩))))
  have hq : tsk t L p < t := by
    refine tlc_pos (L := L) ?_
    rcases Nat.eq_zero_or_pos (tlc t L (tsk t L p)) with z | z
    · rw [z] at e1
      exact absurd ((show akd 0 = none by decide).symm.trans e1) (by intro q; cases q)
    · exact z
  rw [a2, qa_1]
  rintro M5 rfl
  have fx5 := a1.trans (pfx.u (v := nI (tsk t L p + 1)))
  refine x_readNumber 999 (tsk t L p + 1) (by omega) (by omega) gd (fx5.tt tx) ku_eq (fun M6 st p1 e2 b1 b2 => ⟨fun z => absurd z (nI_pos (by have := (anb_ok (by omega) e2).1; omega)), fun _ => ?_⟩) (fun M6 f e2 b1 b2 => ⟨fun _ => bX4_readRider_45 _ _ (h0 M6 f (aRd_2 e1 e2) (fx5.trans b1).d b2), fun z => absurd (by decide) z⟩)
  have k2 := anb_ok (by omega) e2
  have fx6 := fx5.trans b1
  refine x_takes p1 47 k2.2 (by omega) (by omega) gd (fx6.tt tx) b2 (fun M8 e3 c1 c2 => ⟨fun _ => ?_, fun z => absurd z (by decide)⟩) (fun M8 e3 c1 c2 => ⟨fun z => absurd rfl z, fun _ => bX4_readRider_45 _ _ (h0 M8 _ (aRd_3 e1 e2 e3) (fx6.trans c1).d c2)⟩)
  have hq1 : tsk t L p1 < t := tlc_pos (L := L) (by omega)
  have fx8 := fx6.trans c1
  refine x_readNumber 99 (tsk t L p1 + 1) (by omega) (by omega) gd (fx8.tt tx) c2 (fun M10 co p2 e4 d1 d2 => ⟨fun _ => ?_, fun z => absurd (nI_pos' (by have := (anb_ok (by omega) e4).1; omega)) z⟩) (fun M10 f e4 d1 d2 => ⟨fun z => absurd z neg1, fun _ => h0 M10 f (aRd_4 e1 e2 e3 e4) (fx8.trans d1).d d2⟩)
  have k4 := anb_ok (by omega) e4
  have fx10 := fx8.trans d1
  have er10 : M10.1 1 3 1 = nI r := (fx10.1 1 3 1 (by omega)).trans er
  refine kct (by decide) (Nat.le_of_ble_eq_true rfl) (bX3_addRider_0 3 _ _ _ M10 _ ?_)
  simp (disch := omega) only [ku_ne, ku_eq, er10, qa_0, qa_1, qa_2, qa_3, qa_4, qa_5, qa_6, qa_7, qa_8, qa_9, qa_10, qa_12, qa_16, qa_20, qa_21, qa_22, qa_23, qa_24, qa_26, qa_27, qa_30, qa_31, qa_32, qa_35, qa_36, qa_40, qa_44, qa_48, qa_49, qa_70, qa_81, qa_90, qa_96, qa_168, qa_217, qa_434, qa_442, qa_446, qa_450, qa_454, qa_455, qa_456, qa_457, qa_458, qa_466, qa_474, qa_478, qb_0, qb_1, qb_2, qb_3, qb_4, qb_5, qb_6, qb_7, qb_8, qb_9, qb_10, qb_12, qb_16, qb_20, qb_21, qb_22, qb_23, qb_24, qb_26, qb_27, qb_30, qb_31, qb_32, qb_35, qb_36, qb_40, qb_44, qb_48, qb_49, qb_70, qb_81, qb_90, qb_96, qb_168, qb_217, qb_434, qb_442, qb_446, qb_450, qb_454, qb_455, qb_456, qb_457, qb_458, qb_466, qb_474, qb_478, qm_0, qm_1, qm_2, qm_3, qm_4, qm_5, qm_6, qm_7, qm_8, qm_9, qm_10, qm_12, qm_16, qm_20, qm_21, qm_22, qm_23, qm_24, qm_26, qm_27, qm_30, qm_31, qm_32, qm_35, qm_36, qm_40, qm_44, qm_48, qm_49, qm_70, qm_81, qm_90, qm_96, qm_168, qm_217, qm_434, qm_442, qm_446, qm_450, qm_454, qm_455, qm_456, qm_457, qm_458, qm_466, qm_474, qm_478, ql_0, ql_1, ql_2, ql_3, ql_4, ql_5, ql_6, ql_7, ql_8, ql_9, ql_10, ql_12, ql_16, ql_20, ql_21, ql_22, ql_23, ql_24, ql_26, ql_27, ql_30, ql_31, ql_32, ql_35, ql_36, ql_40, ql_44, ql_48, ql_49, ql_70, ql_81, ql_90, ql_96, ql_168, ql_217, ql_434, ql_442, ql_446, ql_450, ql_454, ql_455, ql_456, ql_457, ql_458, ql_466, ql_474, ql_478, nI_add, q_cl, q_in, true_and]
  rintro N1 rfl
  simp (disch := omega) only [ku_ne, ku_eq, er10, qa_0, qa_1, qa_2, qa_3, qa_4, qa_5, qa_6, qa_7, qa_8, qa_9, qa_10, qa_12, qa_16, qa_20, qa_21, qa_22, qa_23, qa_24, qa_26, qa_27, qa_30, qa_31, qa_32, qa_35, qa_36, qa_40, qa_44, qa_48, qa_49, qa_70, qa_81, qa_90, qa_96, qa_168, qa_217, qa_434, qa_442, qa_446, qa_450, qa_454, qa_455, qa_456, qa_457, qa_458, qa_466, qa_474, qa_478, qb_0, qb_1, qb_2, qb_3, qb_4, qb_5, qb_6, qb_7, qb_8, qb_9, qb_10, qb_12, qb_16, qb_20, qb_21, qb_22, qb_23, qb_24, qb_26, qb_27, qb_30, qb_31, qb_32, qb_35, qb_36, qb_40, qb_44, qb_48, qb_49, qb_70, qb_81, qb_90, qb_96, qb_168, qb_217, qb_434, qb_442, qb_446, qb_450, qb_454, qb_455, qb_456, qb_457, qb_458, qb_466, qb_474, qb_478, qm_0, qm_1, qm_2, qm_3, qm_4, qm_5, qm_6, qm_7, qm_8, qm_9, qm_10, qm_12, qm_16, qm_20, qm_21, qm_22, qm_23, qm_24, qm_26, qm_27, qm_30, qm_31, qm_32, qm_35, qm_36, qm_40, qm_44, qm_48, qm_49, qm_70, qm_81, qm_90, qm_96, qm_168, qm_217, qm_434, qm_442, qm_446, qm_450, qm_454, qm_455, qm_456, qm_457, qm_458, qm_466, qm_474, qm_478, ql_0, ql_1, ql_2, ql_3, ql_4, ql_5, ql_6, ql_7, ql_8, ql_9, ql_10, ql_12, ql_16, ql_20, ql_21, ql_22, ql_23, ql_24, ql_26, ql_27, ql_30, ql_31, ql_32, ql_35, ql_36, ql_40, ql_44, ql_48, ql_49, ql_70, ql_81, ql_90, ql_96, ql_168, ql_217, ql_434, ql_442, ql_446, ql_450, ql_454, ql_455, ql_456, ql_457, ql_458, ql_466, ql_474, ql_478, nI_add, q_cl, q_in, true_and]
  rintro N2 rfl
  simp (disch := omega) only [ku_ne, ku_eq, er10, qa_0, qa_1, qa_2, qa_3, qa_4, qa_5, qa_6, qa_7, qa_8, qa_9, qa_10, qa_12, qa_16, qa_20, qa_21, qa_22, qa_23, qa_24, qa_26, qa_27, qa_30, qa_31, qa_32, qa_35, qa_36, qa_40, qa_44, qa_48, qa_49, qa_70, qa_81, qa_90, qa_96, qa_168, qa_217, qa_434, qa_442, qa_446, qa_450, qa_454, qa_455, qa_456, qa_457, qa_458, qa_466, qa_474, qa_478, qb_0, qb_1, qb_2, qb_3, qb_4, qb_5, qb_6, qb_7, qb_8, qb_9, qb_10, qb_12, qb_16, qb_20, qb_21, qb_22, qb_23, qb_24, qb_26, qb_27, qb_30, qb_31, qb_32, qb_35, qb_36, qb_40, qb_44, qb_48, qb_49, qb_70, qb_81, qb_90, qb_96, qb_168, qb_217, qb_434, qb_442, qb_446, qb_450, qb_454, qb_455, qb_456, qb_457, qb_458, qb_466, qb_474, qb_478, qm_0, qm_1, qm_2, qm_3, qm_4, qm_5, qm_6, qm_7, qm_8, qm_9, qm_10, qm_12, qm_16, qm_20, qm_21, qm_22, qm_23, qm_24, qm_26, qm_27, qm_30, qm_31, qm_32, qm_35, qm_36, qm_40, qm_44, qm_48, qm_49, qm_70, qm_81, qm_90, qm_96, qm_168, qm_217, qm_434, qm_442, qm_446, qm_450, qm_454, qm_455, qm_456, qm_457, qm_458, qm_466, qm_474, qm_478, ql_0, ql_1, ql_2, ql_3, ql_4, ql_5, ql_6, ql_7, ql_8, ql_9, ql_10, ql_12, ql_16, ql_20, ql_21, ql_22, ql_23, ql_24, ql_26, ql_27, ql_30, ql_31, ql_32, ql_35, ql_36, ql_40, ql_44, ql_48, ql_49, ql_70, ql_81, ql_90, ql_96, ql_168, ql_217, ql_434, ql_442, ql_446, ql_450, ql_454, ql_455, ql_456, ql_457, ql_458, ql_466, ql_474, ql_478, nI_add, q_cl, q_in, true_and]
  rintro N3 rfl
  simp (disch := omega) only [ku_ne, ku_eq, er10, qa_0, qa_1, qa_2, qa_3, qa_4, qa_5, qa_6, qa_7, qa_8, qa_9, qa_10, qa_12, qa_16, qa_20, qa_21, qa_22, qa_23, qa_24, qa_26, qa_27, qa_30, qa_31, qa_32, qa_35, qa_36, qa_40, qa_44, qa_48, qa_49, qa_70, qa_81, qa_90, qa_96, qa_168, qa_217, qa_434, qa_442, qa_446, qa_450, qa_454, qa_455, qa_456, qa_457, qa_458, qa_466, qa_474, qa_478, qb_0, qb_1, qb_2, qb_3, qb_4, qb_5, qb_6, qb_7, qb_8, qb_9, qb_10, qb_12, qb_16, qb_20, qb_21, qb_22, qb_23, qb_24, qb_26, qb_27, qb_30, qb_31, qb_32, qb_35, qb_36, qb_40, qb_44, qb_48, qb_49, qb_70, qb_81, qb_90, qb_96, qb_168, qb_217, qb_434, qb_442, qb_446, qb_450, qb_454, qb_455, qb_456, qb_457, qb_458, qb_466, qb_474, qb_478, qm_0, qm_1, qm_2, qm_3, qm_4, qm_5, qm_6, qm_7, qm_8, qm_9, qm_10, qm_12, qm_16, qm_20, qm_21, qm_22, qm_23, qm_24, qm_26, qm_27, qm_30, qm_31, qm_32, qm_35, qm_36, qm_40, qm_44, qm_48, qm_49, qm_70, qm_81, qm_90, qm_96, qm_168, qm_217, qm_434, qm_442, qm_446, qm_450, qm_454, qm_455, qm_456, qm_457, qm_458, qm_466, qm_474, qm_478, ql_0, ql_1, ql_2, ql_3, ql_4, ql_5, ql_6, ql_7, ql_8, ql_9, ql_10, ql_12, ql_16, ql_20, ql_21, ql_22, ql_23, ql_24, ql_26, ql_27, ql_30, ql_31, ql_32, ql_35, ql_36, ql_40, ql_44, ql_48, ql_49, ql_70, ql_81, ql_90, ql_96, ql_168, ql_217, ql_434, ql_442, ql_446, ql_450, ql_454, ql_455, ql_456, ql_457, ql_458, ql_466, ql_474, ql_478, nI_add, q_cl, q_in, true_and]
  rintro N4 rfl
  simp (disch := omega) only [ku_ne, ku_eq, er10, qa_0, qa_1, qa_2, qa_3, qa_4, qa_5, qa_6, qa_7, qa_8, qa_9, qa_10, qa_12, qa_16, qa_20, qa_21, qa_22, qa_23, qa_24, qa_26, qa_27, qa_30, qa_31, qa_32, qa_35, qa_36, qa_40, qa_44, qa_48, qa_49, qa_70, qa_81, qa_90, qa_96, qa_168, qa_217, qa_434, qa_442, qa_446, qa_450, qa_454, qa_455, qa_456, qa_457, qa_458, qa_466, qa_474, qa_478, qb_0, qb_1, qb_2, qb_3, qb_4, qb_5, qb_6, qb_7, qb_8, qb_9, qb_10, qb_12, qb_16, qb_20, qb_21, qb_22, qb_23, qb_24, qb_26, qb_27, qb_30, qb_31, qb_32, qb_35, qb_36, qb_40, qb_44, qb_48, qb_49, qb_70, qb_81, qb_90, qb_96, qb_168, qb_217, qb_434, qb_442, qb_446, qb_450, qb_454, qb_455, qb_456, qb_457, qb_458, qb_466, qb_474, qb_478, qm_0, qm_1, qm_2, qm_3, qm_4, qm_5, qm_6, qm_7, qm_8, qm_9, qm_10, qm_12, qm_16, qm_20, qm_21, qm_22, qm_23, qm_24, qm_26, qm_27, qm_30, qm_31, qm_32, qm_35, qm_36, qm_40, qm_44, qm_48, qm_49, qm_70, qm_81, qm_90, qm_96, qm_168, qm_217, qm_434, qm_442, qm_446, qm_450, qm_454, qm_455, qm_456, qm_457, qm_458, qm_466, qm_474, qm_478, ql_0, ql_1, ql_2, ql_3, ql_4, ql_5, ql_6, ql_7, ql_8, ql_9, ql_10, ql_12, ql_16, ql_20, ql_21, ql_22, ql_23, ql_24, ql_26, ql_27, ql_30, ql_31, ql_32, ql_35, ql_36, ql_40, ql_44, ql_48, ql_49, ql_70, ql_81, ql_90, ql_96, ql_168, ql_217, ql_434, ql_442, ql_446, ql_450, ql_454, ql_455, ql_456, ql_457, ql_458, ql_466, ql_474, ql_478, nI_add, q_cl, q_in, true_and]
  rintro N5 rfl
  simp (disch := omega) only [ku_ne, ku_eq, er10, qa_0, qa_1, qa_2, qa_3, qa_4, qa_5, qa_6, qa_7, qa_8, qa_9, qa_10, qa_12, qa_16, qa_20, qa_21, qa_22, qa_23, qa_24, qa_26, qa_27, qa_30, qa_31, qa_32, qa_35, qa_36, qa_40, qa_44, qa_48, qa_49, qa_70, qa_81, qa_90, qa_96, qa_168, qa_217, qa_434, qa_442, qa_446, qa_450, qa_454, qa_455, qa_456, qa_457, qa_458, qa_466, qa_474, qa_478, qb_0, qb_1, qb_2, qb_3, qb_4, qb_5, qb_6, qb_7, qb_8, qb_9, qb_10, qb_12, qb_16, qb_20, qb_21, qb_22, qb_23, qb_24, qb_26, qb_27, qb_30, qb_31, qb_32, qb_35, qb_36, qb_40, qb_44, qb_48, qb_49, qb_70, qb_81, qb_90, qb_96, qb_168, qb_217, qb_434, qb_442, qb_446, qb_450, qb_454, qb_455, qb_456, qb_457, qb_458, qb_466, qb_474, qb_478, qm_0, qm_1, qm_2, qm_3, qm_4, qm_5, qm_6, qm_7, qm_8, qm_9, qm_10, qm_12, qm_16, qm_20, qm_21, qm_22, qm_23, qm_24, qm_26, qm_27, qm_30, qm_31, qm_32, qm_35, qm_36, qm_40, qm_44, qm_48, qm_49, qm_70, qm_81, qm_90, qm_96, qm_168, qm_217, qm_434, qm_442, qm_446, qm_450, qm_454, qm_455, qm_456, qm_457, qm_458, qm_466, qm_474, qm_478, ql_0, ql_1, ql_2, ql_3, ql_4, ql_5, ql_6, ql_7, ql_8, ql_9, ql_10, ql_12, ql_16, ql_20, ql_21, ql_22, ql_23, ql_24, ql_26, ql_27, ql_30, ql_31, ql_32, ql_35, ql_36, ql_40, ql_44, ql_48, ql_49, ql_70, ql_81, ql_90, ql_96, ql_168, ql_217, ql_434, ql_442, ql_446, ql_450, ql_454, ql_455, ql_456, ql_457, ql_458, ql_466, ql_474, ql_478, nI_add, q_cl, q_in, true_and]
  rintro N6 rfl
  simp (disch := omega) only [ku_ne, ku_eq, er10, qa_0, qa_1, qa_2, qa_3, qa_4, qa_5, qa_6, qa_7, qa_8, qa_9, qa_10, qa_12, qa_16, qa_20, qa_21, qa_22, qa_23, qa_24, qa_26, qa_27, qa_30, qa_31, qa_32, qa_35, qa_36, qa_40, qa_44, qa_48, qa_49, qa_70, qa_81, qa_90, qa_96, qa_168, qa_217, qa_434, qa_442, qa_446, qa_450, qa_454, qa_455, qa_456, qa_457, qa_458, qa_466, qa_474, qa_478, qb_0, qb_1, qb_2, qb_3, qb_4, qb_5, qb_6, qb_7, qb_8, qb_9, qb_10, qb_12, qb_16, qb_20, qb_21, qb_22, qb_23, qb_24, qb_26, qb_27, qb_30, qb_31, qb_32, qb_35, qb_36, qb_40, qb_44, qb_48, qb_49, qb_70, qb_81, qb_90, qb_96, qb_168, qb_217, qb_434, qb_442, qb_446, qb_450, qb_454, qb_455, qb_456, qb_457, qb_458, qb_466, qb_474, qb_478, qm_0, qm_1, qm_2, qm_3, qm_4, qm_5, qm_6, qm_7, qm_8, qm_9, qm_10, qm_12, qm_16, qm_20, qm_21, qm_22, qm_23, qm_24, qm_26, qm_27, qm_30, qm_31, qm_32, qm_35, qm_36, qm_40, qm_44, qm_48, qm_49, qm_70, qm_81, qm_90, qm_96, qm_168, qm_217, qm_434, qm_442, qm_446, qm_450, qm_454, qm_455, qm_456, qm_457, qm_458, qm_466, qm_474, qm_478, ql_0, ql_1, ql_2, ql_3, ql_4, ql_5, ql_6, ql_7, ql_8, ql_9, ql_10, ql_12, ql_16, ql_20, ql_21, ql_22, ql_23, ql_24, ql_26, ql_27, ql_30, ql_31, ql_32, ql_35, ql_36, ql_40, ql_44, ql_48, ql_49, ql_70, ql_81, ql_90, ql_96, ql_168, ql_217, ql_434, ql_442, ql_446, ql_450, ql_454, ql_455, ql_456, ql_457, ql_458, ql_466, ql_474, ql_478, nI_add, q_cl, q_in, true_and]
  rw [show nI (r + 1) - 1 = nI r from nI_pred r]
  have hrx : rx (ku (ku (ku (ku (ku (ku M10 10 3 r (nI kd)) 11 3 r 0) 12 3 r (nI st)) 13 3 r (nI co)) 14 3 r 0) 1 3 1 (nI (r + 1))) 3 = rdr (rx M 3) r kd st co 0 := by
    rw [rx_u0, rx_u8, rx_u7, rx_u6, rx_u5, rx_u4, fx10.r3]
    rfl
  have fxd : dfx M (ku (ku (ku (ku (ku (ku M10 10 3 r (nI kd)) 11 3 r 0) 12 3 r (nI st)) 13 3 r (nI co)) 14 3 r 0) 1 3 1 (nI (r + 1))) := fx10.d.trans ⟨fun c i j hc => by simp (disch := omega) only [ku_ne], rfl⟩
  have epn : (ku (ku (ku (ku (ku (ku M10 10 3 r (nI kd)) 11 3 r 0) 12 3 r (nI st)) 13 3 r (nI co)) 14 3 r 0) 1 3 1 (nI (r + 1))).1 4 0 3 = nI p2 := by
    simp (disch := omega) only [ku_ne]
    exact d2
  have eSn : (ku (ku (ku (ku (ku (ku M10 10 3 r (nI kd)) 11 3 r 0) 12 3 r (nI st)) 13 3 r (nI co)) 14 3 r 0) 1 3 1 (nI (r + 1))).1 1 3 0 = nI S := by
    simp (disch := omega) only [ku_ne]
    exact (fx10.1 1 3 0 (by omega)).trans eS
  generalize ku (ku (ku (ku (ku (ku M10 10 3 r (nI kd)) 11 3 r 0) 12 3 r (nI st)) 13 3 r (nI co)) 14 3 r 0) 1 3 1 (nI (r + 1)) = N at hrx fxd epn eSn ⊢
  refine x_takes p2 58 k4.2 (by omega) (by omega) gd (fxd.tt tx) epn (fun M14 e5 f1 f2 => ⟨fun z => absurd z (by decide), fun _ => ?_⟩) (fun M14 e5 f1 f2 => ⟨fun _ => bX4_readRider_90 _ _ (bX4_readRider_95 _ _ _ ⟨Or.inr rfl, h1 M14 kd st co 0 _ (aRd_5 e1 e2 e3 e4 e5) (fxd.trans f1.d) f2 (by rw [f1.r3, hrx])⟩), fun z => absurd rfl z⟩)
  have hq2 : tsk t L p2 < t := tlc_pos (L := L) (by omega)
  have ea := aRd_6 (S := S) e1 e2 e3 e4 e5
  refine x_readBuying (tsk t L p2 + 1) S r (by omega) hS hS8 hr gd (f1.tt (fxd.tt tx)) f2 ((f1.1 1 3 0 (by omega)).trans eSn) (fun M16 i1 i2 i3 => ?_)
  by_cases hz : (abl t L S 8 0 0 (tsk t L p2 + 1)).1 = 0
  · rw [if_pos hz] at ea ⊢
    exact ⟨fun _ => bX4_readRider_95 _ _ _ ⟨Or.inl rfl, h0 M16 _ ea ((fxd.trans f1.d).trans i1) i2⟩, fun z => absurd rfl z⟩
  · rw [if_neg hz] at ea ⊢
    refine ⟨fun z => absurd z (by decide), fun _ => bX4_readRider_90 _ _ (bX4_readRider_95 _ _ _ ⟨Or.inr rfl, h1 M16 _ _ _ _ _ ea ((fxd.trans f1.d).trans i1) i2 ?_⟩)⟩
    rw [i3, f1.r3, hrx, rdr_buy]
theorem m_takesRider (p S r : Nat) (hp : p ≤ t) (hS : 1 ≤ S) (hS8 : S ≤ 8) (hr : r < 4) (gd : tgd t L) (tm : ttm t L M) (ep : M.1 0 0 7 = nI p) (eS : M.1 1 0 455 = nI S) (er : M.1 1 0 456 = nI r) (z5 : rmd M 434 5 r = 0) (z8 : rmd M 434 8 r = 0) (h1 : ∀ M' kd st co m p', aRd t L S p = .inr (kd, st, co, m, p') → dfm M M' → M'.1 0 0 7 = nI (tsk t L p') → reqF (rmd M' 434) (rdr (rmd M 434) r kd st co m) → Q 1 M') (h0 : ∀ M' f, (aRd t L S p = .inl f ∨ ∃ x1 x2 x3 x4 p', aRd t L S p = .inr (x1, x2, x3, x4, p') ∧ f = tsk t L p' ∧ 48 ≤ tlc t L f ∧ tlc t L f ≤ 57) → dfm M M' → M'.1 0 0 8 = nI f → Q 0 M') : kCT l (rg_m, g) mX6_takesRider [.inr (.inr (0, 0))] M (kqi Q) := by
  have ht := gd.1
  refine kct (by decide) (Nat.le_of_ble_eq_true rfl) (bX6_takesRider_0 M Q ?_)
  rw [ql_456, er]
  rintro z1 rfl
  refine m_here p hp gd tm ep (fun M1 a1 a8 a2 => m_kindBy _ gd (fun kd e1 => ⟨fun _ => ?_, fun z => absurd (nI_pos' (by have := akd_le e1; omega)) z⟩) (fun e1 => ⟨fun z => absurd z neg1, fun _ => ?_⟩))
  · have hq : tsk t L p < t := by
      refine tlc_pos (L := L) ?_
      rcases Nat.eq_zero_or_pos (tlc t L (tsk t L p)) with z | z
      · rw [z] at e1
        exact absurd ((show akd 0 = none by decide).symm.trans e1) (by intro q; cases q)
      · exact z
    rw [a2, qa_1]
    rintro M5 rfl
    have fx5 := a1.trans (pfm.u (M := M1) (j := 7) (v := nI (tsk t L p + 1)) (by omega))
    refine m_number 999 (tsk t L p + 1) (by omega) (by omega) gd (fx5.tt tm) ku_eq (fun M6 st p1 e2 b1 b2 => ⟨fun _ => ?_, fun z => absurd (nI_pos' (by have := (anb_ok (by omega) e2).1; omega)) z⟩) (fun M6 f e2 b1 b2 => ⟨fun z => absurd z neg1, fun _ => h0 M6 f (Or.inl (aRd_2 e1 e2)) (fx5.trans b1).d b2⟩)
    have k2 := anb_ok (by omega) e2
    have fx6 := fx5.trans b1
    refine m_here p1 k2.2 gd (fx6.tt tm) b2 (fun M8 c1 c8 c2 => ?_)
    have fx8 := fx6.trans c1
    rw [show (47 : Int32) = nI 47 from rfl, mlc_eq gd (by omega) (by omega)]
    refine ⟨fun e3 => ?_, fun e3 => ?_⟩
    · have hq1 : tsk t L p1 < t := tlc_pos (L := L) (by omega)
      rw [c2, qa_1]
      rintro M11 rfl
      have fx11 := fx8.trans (pfm.u (M := M8) (j := 7) (v := nI (tsk t L p1 + 1)) (by omega))
      refine m_number 99 (tsk t L p1 + 1) (by omega) (by omega) gd (fx11.tt tm) ku_eq (fun M12 co p2 e4 d1 d2 => ⟨fun _ => ?_, fun z => absurd (nI_pos' (by have := (anb_ok (by omega) e4).1; omega)) z⟩) (fun M12 f e4 d1 d2 => ⟨fun z => absurd z neg1, fun _ => h0 M12 f (Or.inl (aRd_4 e1 e2 e3 e4)) (fx11.trans d1).d d2⟩)
      have k4 := anb_ok (by omega) e4
      have fx12 := fx11.trans d1
      have er12 : M12.1 1 0 456 = nI r := (fx12.1 1 0 456 (by omega)).trans er
      simp (disch := omega) only [qa_0, qa_1, qa_2, qa_3, qa_4, qa_5, qa_6, qa_7, qa_8, qa_9, qa_10, qa_12, qa_16, qa_20, qa_21, qa_22, qa_23, qa_24, qa_26, qa_27, qa_30, qa_31, qa_32, qa_35, qa_36, qa_40, qa_44, qa_48, qa_49, qa_70, qa_81, qa_90, qa_96, qa_168, qa_217, qa_434, qa_442, qa_446, qa_450, qa_454, qa_455, qa_456, qa_457, qa_458, qa_466, qa_474, qa_478, qb_0, qb_1, qb_2, qb_3, qb_4, qb_5, qb_6, qb_7, qb_8, qb_9, qb_10, qb_12, qb_16, qb_20, qb_21, qb_22, qb_23, qb_24, qb_26, qb_27, qb_30, qb_31, qb_32, qb_35, qb_36, qb_40, qb_44, qb_48, qb_49, qb_70, qb_81, qb_90, qb_96, qb_168, qb_217, qb_434, qb_442, qb_446, qb_450, qb_454, qb_455, qb_456, qb_457, qb_458, qb_466, qb_474, qb_478, qm_0, qm_1, qm_2, qm_3, qm_4, qm_5, qm_6, qm_7, qm_8, qm_9, qm_10, qm_12, qm_16, qm_20, qm_21, qm_22, qm_23, qm_24, qm_26, qm_27, qm_30, qm_31, qm_32, qm_35, qm_36, qm_40, qm_44, qm_48, qm_49, qm_70, qm_81, qm_90, qm_96, qm_168, qm_217, qm_434, qm_442, qm_446, qm_450, qm_454, qm_455, qm_456, qm_457, qm_458, qm_466, qm_474, qm_478, ql_0, ql_1, ql_2, ql_3, ql_4, ql_5, ql_6, ql_7, ql_8, ql_9, ql_10, ql_12, ql_16, ql_20, ql_21, ql_22, ql_23, ql_24, ql_26, ql_27, ql_30, ql_31, ql_32, ql_35, ql_36, ql_40, ql_44, ql_48, ql_49, ql_70, ql_81, ql_90, ql_96, ql_168, ql_217, ql_434, ql_442, ql_446, ql_450, ql_454, ql_455, ql_456, ql_457, ql_458, ql_466, ql_474, ql_478, nI_add, q_cl, q_in, true_and]
      rintro M14 rfl M15 rfl M16 rfl M17 rfl
      simp (disch := omega) only [ku_ne, er12, qa_0, qa_1, qa_2, qa_3, qa_4, qa_5, qa_6, qa_7, qa_8, qa_9, qa_10, qa_12, qa_16, qa_20, qa_21, qa_22, qa_23, qa_24, qa_26, qa_27, qa_30, qa_31, qa_32, qa_35, qa_36, qa_40, qa_44, qa_48, qa_49, qa_70, qa_81, qa_90, qa_96, qa_168, qa_217, qa_434, qa_442, qa_446, qa_450, qa_454, qa_455, qa_456, qa_457, qa_458, qa_466, qa_474, qa_478, qb_0, qb_1, qb_2, qb_3, qb_4, qb_5, qb_6, qb_7, qb_8, qb_9, qb_10, qb_12, qb_16, qb_20, qb_21, qb_22, qb_23, qb_24, qb_26, qb_27, qb_30, qb_31, qb_32, qb_35, qb_36, qb_40, qb_44, qb_48, qb_49, qb_70, qb_81, qb_90, qb_96, qb_168, qb_217, qb_434, qb_442, qb_446, qb_450, qb_454, qb_455, qb_456, qb_457, qb_458, qb_466, qb_474, qb_478, qm_0, qm_1, qm_2, qm_3, qm_4, qm_5, qm_6, qm_7, qm_8, qm_9, qm_10, qm_12, qm_16, qm_20, qm_21, qm_22, qm_23, qm_24, qm_26, qm_27, qm_30, qm_31, qm_32, qm_35, qm_36, qm_40, qm_44, qm_48, qm_49, qm_70, qm_81, qm_90, qm_96, qm_168, qm_217, qm_434, qm_442, qm_446, qm_450, qm_454, qm_455, qm_456, qm_457, qm_458, qm_466, qm_474, qm_478, ql_0, ql_1, ql_2, ql_3, ql_4, ql_5, ql_6, ql_7, ql_8, ql_9, ql_10, ql_12, ql_16, ql_20, ql_21, ql_22, ql_23, ql_24, ql_26, ql_27, ql_30, ql_31, ql_32, ql_35, ql_36, ql_40, ql_44, ql_48, ql_49, ql_70, ql_81, ql_90, ql_96, ql_168, ql_217, ql_434, ql_442, ql_446, ql_450, ql_454, ql_455, ql_456, ql_457, ql_458, ql_466, ql_474, ql_478, nI_add, q_cl, q_in, true_and]
      have hrx : reqF (rmd (ku (ku (ku (ku M12 1 0 (474 + r) (nI kd)) 1 0 (446 + r) (nI st)) 1 0 (450 + r) (nI co)) 1 0 456 (nI (r + 1))) 434) (rdr (rmd M 434) r kd st co 0) := by
        rw [rdr_m z5 z8]
        refine (rmd_uF (h := 434) (f := 0) (j := 1) rfl (by decide) (by decide)).trans (reqF.up ?_ _ _ _)
        refine (rmd_uF (h := 434) (f := 7) (j := r) (by simp [wof]; omega) (by decide) (by show r < 4; omega)).trans (reqF.up ?_ _ _ _)
        refine (rmd_uF (h := 434) (f := 6) (j := r) (by simp [wof]; omega) (by decide) (by show r < 4; omega)).trans (reqF.up ?_ _ _ _)
        refine (rmd_uF (h := 434) (f := 4) (j := r) (by simp [wof]; omega) (by decide) (by show r < 4; omega)).trans (reqF.up ?_ _ _ _)
        rw [fx12.rd]
        exact reqF.refl _
      have fxd : dfm M (ku (ku (ku (ku M12 1 0 (474 + r) (nI kd)) 1 0 (446 + r) (nI st)) 1 0 (450 + r) (nI co)) 1 0 456 (nI (r + 1))) := fx12.d.trans ⟨fun c i j hc => by simp (disch := omega) only [ku_ne], rfl⟩
      have epn : (ku (ku (ku (ku M12 1 0 (474 + r) (nI kd)) 1 0 (446 + r) (nI st)) 1 0 (450 + r) (nI co)) 1 0 456 (nI (r + 1))).1 0 0 7 = nI p2 := by
        simp (disch := omega) only [ku_ne]
        exact d2
      have eSn : (ku (ku (ku (ku M12 1 0 (474 + r) (nI kd)) 1 0 (446 + r) (nI st)) 1 0 (450 + r) (nI co)) 1 0 456 (nI (r + 1))).1 1 0 455 = nI S := by
        simp (disch := omega) only [ku_ne]
        exact (fx12.1 1 0 455 (by omega)).trans eS
      have e8n : (ku (ku (ku (ku M12 1 0 (474 + r) (nI kd)) 1 0 (446 + r) (nI st)) 1 0 (450 + r) (nI co)) 1 0 456 (nI (r + 1))).1 1 0 (478 + r) = 0 := by
        simp (disch := omega) only [ku_ne]
        exact (fx12.1 1 0 (478 + r) (by omega)).trans z8
      generalize ku (ku (ku (ku M12 1 0 (474 + r) (nI kd)) 1 0 (446 + r) (nI st)) 1 0 (450 + r) (nI co)) 1 0 456 (nI (r + 1)) = N at hrx fxd epn eSn e8n ⊢
      refine m_here p2 k4.2 gd (fxd.tt tm) epn (fun M18 f1 f8 f2 => ?_)
      rw [show (58 : Int32) = nI 58 from rfl, mlc_eq gd (by omega) (by omega)]
      refine ⟨fun e5 => bX6_takesRider_160 _ _ (bX6_takesRider_165 _ _ _ ⟨Or.inr rfl, h1 M18 kd st co 0 _ (aRd_5 e1 e2 e3 e4 e5) (fxd.trans f1.d) (by rw [tsk_tsk]; exact f2) (by rw [f1.rd]; exact hrx)⟩), fun e5 => ?_⟩
      have hq2 : tsk t L p2 < t := tlc_pos (L := L) (by omega)
      have ea := aRd_6 (S := S) e1 e2 e3 e4 e5
      refine m_takesBuys (tsk t L p2) S r (by omega) hS hS8 hr gd (f1.tt (fxd.tt tm)) f2 ((f1.1 1 0 455 (by omega)).trans eSn) ((f1.1 1 0 (478 + r) (by omega)).trans e8n) (fun M20 hz i1 i2 i3 => ⟨fun z => absurd z (by decide), fun _ => bX6_takesRider_160 _ _ (bX6_takesRider_165 _ _ _ ⟨Or.inr rfl, ?_⟩)⟩) (fun M20 hz i1 i2 => ⟨fun _ => bX6_takesRider_165 _ _ _ ⟨Or.inl rfl, ?_⟩, fun z => absurd rfl z⟩)
      · rw [if_neg hz] at ea
        refine h1 M20 _ _ _ _ _ ea ((fxd.trans f1.d).trans i1) i2 ?_
        refine i3.trans ?_
        rw [f1.rd, ← rdr_buy]
        exact hrx.up _ _ _
      · refine h0 M20 _ ?_ ((fxd.trans f1.d).trans i1) i2
        by_cases hzz : (abl t L S 8 0 0 (tsk t L p2 + 1)).1 = 0
        · rw [if_pos hzz] at ea
          have := abl_0 (t := t) (L := L) hS8 (f := 7) (lo := 0) (p := tsk t L p2 + 1) (by omega) hzz
          rw [this]
          exact Or.inl ea
        · rw [if_neg hzz] at ea
          exact Or.inr ⟨kd, st, co, _, _, ea, rfl, hz.resolve_left hzz⟩
    · rw [c2]
      exact m_fails _ ⟨Or.inl rfl, h0 _ _ (Or.inl (aRd_3 e1 e2 e3)) (fx8.d.trans (pfm.u (by omega)).d) ku_eq⟩
  · rw [a2]
    exact m_fails _ ⟨Or.inl rfl, h0 _ _ (Or.inl (aRd_1 e1)) (a1.d.trans (pfm.u (by omega)).d) ku_eq⟩
end KTR
