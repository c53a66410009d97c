/-! ===== what is foretold, on both sides ===== -/
theorem qr_9 (a : Nat) : nI a * 9 = nI (9 * a) := by
  rw [Int32.mul_comm]
  exact qm_9 a
def xfr (M M' : kM) : Prop := (∀ c i j, ¬ (i = 2 ∧ (c = 1 ∨ 7 ≤ c ∧ c ≤ 14) ∨ c = 16) → M'.1 c i j = M.1 c i j) ∧ M'.2 = M.2
theorem xfr.refl (M : kM) : xfr M M := ⟨fun _ _ _ _ => rfl, rfl⟩
theorem xfr.trans {a b c : kM} (h : xfr a b) (h2 : xfr b c) : xfr a c := ⟨fun x i j hc => (h2.1 x i j hc).trans (h.1 x i j hc), h2.2.trans h.2⟩
theorem xfr.same {M M' : kM} (h : xfr M M') : xsame M M' := ⟨fun c i j hc => h.1 c i j (by omega), h.2⟩
theorem xfr.u {M : kM} {c j : Nat} {v : Int32} (hc : c = 1 ∨ 7 ≤ c ∧ c ≤ 14) : xfr M (ku M c 2 j v) := ⟨fun a i d hd => ku_ne (by omega), rfl⟩
theorem xfr.u16 {M : kM} {k j : Nat} {v : Int32} : xfr M (ku M 16 k j v) := ⟨fun a i d hd => ku_ne (by omega), rfl⟩
def mfr (M M' : kM) : Prop := (∀ c i j, ¬ (c = 1 ∧ i = 0 ∧ 434 ≤ j ∨ c = 6) → M'.1 c i j = M.1 c i j) ∧ M'.2 = M.2
theorem mfr.refl (M : kM) : mfr M M := ⟨fun _ _ _ _ => rfl, rfl⟩
theorem mfr.trans {a b c : kM} (h : mfr a b) (h2 : mfr b c) : mfr a c := ⟨fun x i j hc => (h2.1 x i j hc).trans (h.1 x i j hc), h2.2.trans h.2⟩
theorem mfr.same {M M' : kM} (h : mfr M M') : msame M M' := ⟨fun j hj => h.1 1 0 j (by omega), fun c j hc => h.1 c 0 j (by omega), h.2⟩
theorem mfr.u {M : kM} {j : Nat} {v : Int32} (hj : 434 ≤ j) : mfr M (ku M 1 0 j v) := ⟨fun a i d hd => ku_ne (by omega), rfl⟩
theorem mfr.u6 {M : kM} {k j : Nat} {v : Int32} : mfr M (ku M 6 k j v) := ⟨fun a i d hd => ku_ne (by omega), rfl⟩
theorem xfr.r0 {M M' : kM} (h : xfr M M') : rx M' 0 = rx M 0 := rx_cg (fun c j hc => h.1 c 0 j (by omega))
theorem mfr.r0 {M M' : kM} (h : mfr M M') : req (rmd M' 0) (rmd M 0) := rmd_cg (fun j _ hj => h.1 1 0 j (by omega))
theorem rmd_row {M M' : kM} {h : Nat} (e : ∀ j, M'.1 1 0 j = M.1 1 0 j) : rmd M' h = rmd M h := by
  funext f j
  rcases f with _ | _ | _ | _ | _ | _ | _ | _ | _ | f
  · rcases j with _ | _ | _ | j <;> exact e _
  · exact e _
  · exact e _
  · exact e _
  · exact e _
  · exact e _
  · exact e _
  · exact e _
  · exact e _
  · rfl
theorem frem_cg {R T : Rc} {S S' m : Nat} (h : req R T) (ok : rok R S' m) : ∀ n, n ≤ m → frem R S n = frem T S n
  | 0, _ => rfl
  | n + 1, hn => by
    unfold frem
    rw [frem_cg h ok n (by omega), h 5 n (by decide) (by first | (show _ < 4; omega) | (show _ < 8; omega) | exact fln_s (by assumption) (by omega) (by omega) (by omega) | exact fln_r (by assumption) (by omega) (by omega))]
section KFO
variable {l : Launch} {g : va_G × (Nat → ClassId) × (Nat → Nat → Nat)} {M : kM} {Q : Int32 → kM → Prop} {Qv : kM → Prop}
theorem x_noteWhere (i b : Nat) (hi : i < 4) (hb : b ≤ 8) (e : rx M 2 5 i = nI b) (h : Qv (ku M 16 0 (9 * i + b) (rx M 2 6 i))) : kCT l (rg_x, g) mX0_noteWhere [.inr (.inr (3, 0)), .inl (nI i)] M (kqv Qv) := by
  refine kct (by decide) (Nat.le_of_ble_eq_true rfl) (bX0_noteWhere_0 (nI i) M Qv ?_)
  have e' : M.1 11 2 i = nI b := e
  rw [qr_9]
  simp (disch := omega) only [qa_0, qa_1, qa_2, qa_3, qa_4, qa_5, qa_6, qa_7, qa_8, qa_9, qa_10, qa_12, qa_16, qa_20, qa_21, qa_22, qa_23, qa_24, qa_26, qa_27, qa_30, qa_31, qa_32, qa_35, qa_36, qa_40, qa_44, qa_48, qa_49, qa_70, qa_81, qa_90, qa_96, qa_168, qa_217, qa_434, qa_442, qa_446, qa_450, qa_454, qa_455, qa_456, qa_457, qa_458, qa_466, qa_474, qa_478, qb_0, qb_1, qb_2, qb_3, qb_4, qb_5, qb_6, qb_7, qb_8, qb_9, qb_10, qb_12, qb_16, qb_20, qb_21, qb_22, qb_23, qb_24, qb_26, qb_27, qb_30, qb_31, qb_32, qb_35, qb_36, qb_40, qb_44, qb_48, qb_49, qb_70, qb_81, qb_90, qb_96, qb_168, qb_217, qb_434, qb_442, qb_446, qb_450, qb_454, qb_455, qb_456, qb_457, qb_458, qb_466, qb_474, qb_478, qm_0, qm_1, qm_2, qm_3, qm_4, qm_5, qm_6, qm_7, qm_8, qm_9, qm_10, qm_12, qm_16, qm_20, qm_21, qm_22, qm_23, qm_24, qm_26, qm_27, qm_30, qm_31, qm_32, qm_35, qm_36, qm_40, qm_44, qm_48, qm_49, qm_70, qm_81, qm_90, qm_96, qm_168, qm_217, qm_434, qm_442, qm_446, qm_450, qm_454, qm_455, qm_456, qm_457, qm_458, qm_466, qm_474, qm_478, ql_0, ql_1, ql_2, ql_3, ql_4, ql_5, ql_6, ql_7, ql_8, ql_9, ql_10, ql_12, ql_16, ql_20, ql_21, ql_22, ql_23, ql_24, ql_26, ql_27, ql_30, ql_31, ql_32, ql_35, ql_36, ql_40, ql_44, ql_48, ql_49, ql_70, ql_81, ql_90, ql_96, ql_168, ql_217, ql_434, ql_442, ql_446, ql_450, ql_454, ql_455, ql_456, ql_457, ql_458, ql_466, ql_474, ql_478, nI_add, q_cl, q_in, true_and]
  rw [e']
  simp (disch := omega) only [qa_0, qa_1, qa_2, qa_3, qa_4, qa_5, qa_6, qa_7, qa_8, qa_9, qa_10, qa_12, qa_16, qa_20, qa_21, qa_22, qa_23, qa_24, qa_26, qa_27, qa_30, qa_31, qa_32, qa_35, qa_36, qa_40, qa_44, qa_48, qa_49, qa_70, qa_81, qa_90, qa_96, qa_168, qa_217, qa_434, qa_442, qa_446, qa_450, qa_454, qa_455, qa_456, qa_457, qa_458, qa_466, qa_474, qa_478, qb_0, qb_1, qb_2, qb_3, qb_4, qb_5, qb_6, qb_7, qb_8, qb_9, qb_10, qb_12, qb_16, qb_20, qb_21, qb_22, qb_23, qb_24, qb_26, qb_27, qb_30, qb_31, qb_32, qb_35, qb_36, qb_40, qb_44, qb_48, qb_49, qb_70, qb_81, qb_90, qb_96, qb_168, qb_217, qb_434, qb_442, qb_446, qb_450, qb_454, qb_455, qb_456, qb_457, qb_458, qb_466, qb_474, qb_478, qm_0, qm_1, qm_2, qm_3, qm_4, qm_5, qm_6, qm_7, qm_8, qm_9, qm_10, qm_12, qm_16, qm_20, qm_21, qm_22, qm_23, qm_24, qm_26, qm_27, qm_30, qm_31, qm_32, qm_35, qm_36, qm_40, qm_44, qm_48, qm_49, qm_70, qm_81, qm_90, qm_96, qm_168, qm_217, qm_434, qm_442, qm_446, qm_450, qm_454, qm_455, qm_456, qm_457, qm_458, qm_466, qm_474, qm_478, ql_0, ql_1, ql_2, ql_3, ql_4, ql_5, ql_6, ql_7, ql_8, ql_9, ql_10, ql_12, ql_16, ql_20, ql_21, ql_22, ql_23, ql_24, ql_26, ql_27, ql_30, ql_31, ql_32, ql_35, ql_36, ql_40, ql_44, ql_48, ql_49, ql_70, ql_81, ql_90, ql_96, ql_168, ql_217, ql_434, ql_442, ql_446, ql_450, ql_454, ql_455, ql_456, ql_457, ql_458, ql_466, ql_474, ql_478, nI_add, q_cl, q_in, true_and]
  rintro M1 rfl
  exact h
theorem x_cameTo (i s : Nat) (hi : i < 4) (hs : s ≤ 8) (h : Q (M.1 16 0 (9 * i + s)) M) : kCT l (rg_x, g) mX0_cameTo [.inr (.inr (3, 0)), .inl (nI i), .inl (nI s)] M (kqi Q) := by
  refine kct (by decide) (Nat.le_of_ble_eq_true rfl) (bX0_cameTo_0 (nI i) (nI s) M Q ?_)
  rw [qr_9]
  simp (disch := omega) only [qa_0, qa_1, qa_2, qa_3, qa_4, qa_5, qa_6, qa_7, qa_8, qa_9, qa_10, qa_12, qa_16, qa_20, qa_21, qa_22, qa_23, qa_24, qa_26, qa_27, qa_30, qa_31, qa_32, qa_35, qa_36, qa_40, qa_44, qa_48, qa_49, qa_70, qa_81, qa_90, qa_96, qa_168, qa_217, qa_434, qa_442, qa_446, qa_450, qa_454, qa_455, qa_456, qa_457, qa_458, qa_466, qa_474, qa_478, qb_0, qb_1, qb_2, qb_3, qb_4, qb_5, qb_6, qb_7, qb_8, qb_9, qb_10, qb_12, qb_16, qb_20, qb_21, qb_22, qb_23, qb_24, qb_26, qb_27, qb_30, qb_31, qb_32, qb_35, qb_36, qb_40, qb_44, qb_48, qb_49, qb_70, qb_81, qb_90, qb_96, qb_168, qb_217, qb_434, qb_442, qb_446, qb_450, qb_454, qb_455, qb_456, qb_457, qb_458, qb_466, qb_474, qb_478, qm_0, qm_1, qm_2, qm_3, qm_4, qm_5, qm_6, qm_7, qm_8, qm_9, qm_10, qm_12, qm_16, qm_20, qm_21, qm_22, qm_23, qm_24, qm_26, qm_27, qm_30, qm_31, qm_32, qm_35, qm_36, qm_40, qm_44, qm_48, qm_49, qm_70, qm_81, qm_90, qm_96, qm_168, qm_217, qm_434, qm_442, qm_446, qm_450, qm_454, qm_455, qm_456, qm_457, qm_458, qm_466, qm_474, qm_478, ql_0, ql_1, ql_2, ql_3, ql_4, ql_5, ql_6, ql_7, ql_8, ql_9, ql_10, ql_12, ql_16, ql_20, ql_21, ql_22, ql_23, ql_24, ql_26, ql_27, ql_30, ql_31, ql_32, ql_35, ql_36, ql_40, ql_44, ql_48, ql_49, ql_70, ql_81, ql_90, ql_96, ql_168, ql_217, ql_434, ql_442, ql_446, ql_450, ql_454, ql_455, ql_456, ql_457, ql_458, ql_466, ql_474, ql_478, nI_add, q_cl, q_in, true_and]
  exact h
theorem x_begin (S n : Nat) (ok : rok (rx M 0) S n) (h : ∀ M', xfr M M' → req (rx M' 2) (rx M 0) → (∀ r, r < n → M'.1 16 0 (9 * r + (rx M 0 5 r).toNatClampNeg) = rx M 0 6 r) → Qv M') : kCT l (rg_x, g) mX0_begin [.inr (.inr (3, 0)), .inr (.inr (1, 0))] M (kqv Qv) := by
  refine kct (by decide) (Nat.le_of_ble_eq_true rfl) (bX0_begin_0 0 M Qv (x_takeAll 2 0 (by decide) (fun M1 a1 a2 a3 => ?_)))
  have h4 := ok.2.2.2.1
  have hS := ok.2.1
  have ok1 : rok (rx M1 2) S n := a3.symm.ok ok
  have en : M1.1 1 2 1 = nI n := (a3 0 1 (by decide) (by first | (show _ < 4; omega) | (show _ < 8; omega) | exact fln_s (by assumption) (by omega) (by omega) (by omega) | exact fln_r (by assumption) (by omega) (by omega))).trans ok.2.2.1
  have key : ∀ f i, i + f = n → ∀ M2, xfr M M2 → (∀ c i j, c ≠ 16 → M2.1 c i j = M1.1 c i j) → (∀ r, r < i → M2.1 16 0 (9 * r + (rx M 0 5 r).toNatClampNeg) = rx M 0 6 r) → kWP l (rg_x, g) mX0_begin 10 [(0, .inr (.inr (3, 0))), (2, .inl (nI i))] [] M2 (kqv Qv) := by
    intro f
    induction f with
    | zero =>
      intro i hi M2 b1 b2 b3
      obtain rfl : i = n := by omega
      refine bX0_begin_10 _ _ _ ?_
      rw [b2 1 2 1 (by decide), en]
      refine ⟨fun _ => h M2 b1 ?_ b3, fun c => absurd (nI_le (Nat.le_refl i) (by omega)) c⟩
      rw [rx_cg (fun c j hc => b2 c 2 j (by omega))]
      exact a3
    | succ f ih =>
      intro i hi M2 b1 b2 b3
      refine bX0_begin_10 _ _ _ ?_
      rw [b2 1 2 1 (by decide), en]
      refine ⟨fun c => ?_, fun _ => ?_⟩
      · rw [q_le (by omega) (by omega)] at c
        omega
      · obtain ⟨b, hb, eb⟩ := ok.2.2.2.2 i (by omega)
        have er : rx M2 2 = rx M1 2 := rx_cg (fun c j hc => b2 c 2 j (by omega))
        have e5 : rx M2 2 5 i = nI b := by rw [er, a3 5 i (by decide) (by first | (show _ < 4; omega) | (show _ < 8; omega) | exact fln_s (by assumption) (by omega) (by omega) (by omega) | exact fln_r (by assumption) (by omega) (by omega)), eb]
        have e6 : rx M2 2 6 i = rx M 0 6 i := by rw [er, a3 6 i (by decide) (by first | (show _ < 4; omega) | (show _ < 8; omega) | exact fln_s (by assumption) (by omega) (by omega) (by omega) | exact fln_r (by assumption) (by omega) (by omega))]
        refine x_noteWhere i b (by omega) (by omega) e5 ?_
        rintro z2 rfl
        rw [qa_1]
        refine ih (i + 1) (by omega) _ (b1.trans xfr.u16) (fun c x j hc => by rw [ku_ne (by omega), b2 c x j hc]) (fun r hr => ?_)
        by_cases e : r = i
        · subst e
          rw [eb, q_cl (by omega), ku_eq, e6]
        · obtain ⟨b', hb', eb'⟩ := ok.2.2.2.2 r (by omega)
          have := b3 r (by omega)
          rw [eb', q_cl (by omega)] at this ⊢
          rw [ku_ne (by omega)]
          exact this
  exact key n 0 (by omega) M1 ⟨fun c i j hc => a1 c i j (by omega), a2⟩ (fun _ _ _ _ => rfl) (fun r hr => by omega)
theorem x_rideToForge (i : Nat) (w : Int32) (S n : Nat) (hi : i < n) (ok : rok (rx M 2) S n) (h : ∀ M' k, xfr M M' → (rx M' 2, M'.1 16 0) = frun (flse (nI i) w) n k (rx M 2, M.1 16 0) → ¬ rx M' 2 5 i < rx M' 2 0 0 → Q (rx M' 2 6 i) M') : kCT l (rg_x, g) mX0_rideToForge [.inr (.inr (3, 0)), .inl (nI i), .inl w] M (kqi Q) := by
  have h4 := ok.2.2.2.1
  have hS := ok.2.1
  refine kct (by decide) (Nat.le_of_ble_eq_true rfl) (bX0_rideToForge_0 _ _ M Q ?_)
  have key : ∀ f c, c + f = 32 → ∀ M1 k, xfr M M1 → (rx M1 2, M1.1 16 0) = frun (flse (nI i) w) n k (rx M 2, M.1 16 0) → rok (rx M1 2) S n → frem (rx M1 2) S n ≤ f → kWP l (rg_x, g) mX0_rideToForge 2 [(0, .inr (.inr (3, 0))), (1, .inl (nI i)), (2, .inl w), (3, .inl (nI c))] [] M1 (kqi Q) := by
    intro f
    induction f with
    | zero =>
      intro c hc M1 k b1 b2 b3 b4
      obtain rfl : c = 32 := by omega
      refine bX0_rideToForge_2 _ _ _ _ _ ⟨fun _ => bX0_rideToForge_98 _ _ _ ?_, fun z => absurd (nI_le (Nat.le_refl 32) (by omega)) z⟩
      simp (disch := omega) only [qa_0, qa_1, qa_2, qa_3, qa_4, qa_5, qa_6, qa_7, qa_8, qa_9, qa_10, qa_12, qa_16, qa_20, qa_21, qa_22, qa_23, qa_24, qa_26, qa_27, qa_30, qa_31, qa_32, qa_35, qa_36, qa_40, qa_44, qa_48, qa_49, qa_70, qa_81, qa_90, qa_96, qa_168, qa_217, qa_434, qa_442, qa_446, qa_450, qa_454, qa_455, qa_456, qa_457, qa_458, qa_466, qa_474, qa_478, qb_0, qb_1, qb_2, qb_3, qb_4, qb_5, qb_6, qb_7, qb_8, qb_9, qb_10, qb_12, qb_16, qb_20, qb_21, qb_22, qb_23, qb_24, qb_26, qb_27, qb_30, qb_31, qb_32, qb_35, qb_36, qb_40, qb_44, qb_48, qb_49, qb_70, qb_81, qb_90, qb_96, qb_168, qb_217, qb_434, qb_442, qb_446, qb_450, qb_454, qb_455, qb_456, qb_457, qb_458, qb_466, qb_474, qb_478, qm_0, qm_1, qm_2, qm_3, qm_4, qm_5, qm_6, qm_7, qm_8, qm_9, qm_10, qm_12, qm_16, qm_20, qm_21, qm_22, qm_23, qm_24, qm_26, qm_27, qm_30, qm_31, qm_32, qm_35, qm_36, qm_40, qm_44, qm_48, qm_49, qm_70, qm_81, qm_90, qm_96, qm_168, qm_217, qm_434, qm_442, qm_446, qm_450, qm_454, qm_455, qm_456, qm_457, qm_458, qm_466, qm_474, qm_478, ql_0, ql_1, ql_2, ql_3, ql_4, ql_5, ql_6, ql_7, ql_8, ql_9, ql_10, ql_12, ql_16, ql_20, ql_21, ql_22, ql_23, ql_24, ql_26, ql_27, ql_30, ql_31, ql_32, ql_35, ql_36, ql_40, ql_44, ql_48, ql_49, ql_70, ql_81, ql_90, ql_96, ql_168, ql_217, ql_434, ql_442, ql_446, ql_450, ql_454, ql_455, ql_456, ql_457, ql_458, ql_466, ql_474, ql_478, nI_add, q_cl, q_in, true_and]
      exact h M1 k b1 b2 (rwho_none n (frem_0 b3 (by omega)) h4 i hi)
    | succ f ih =>
      intro c hc M1 k b1 b2 b3 b4
      refine bX0_rideToForge_2 _ _ _ _ _ ⟨fun z => ?_, fun _ => x_isThere 2 i (by omega) ?_⟩
      · rw [show (32 : Int32) = nI 32 from rfl, q_le (by omega) (by omega)] at z
        omega
      · by_cases th : rx M1 2 5 i < rx M1 2 0 0
        · rw [if_pos th]
          refine ⟨fun z => absurd rfl z, fun _ => x_whoRides 2 S n b3 ?_⟩
          rcases fcase b3 with hw | ⟨a, s, ha, ha4, hw, hs, hs8, e5⟩
          · exact absurd th (rwho_none n hw h4 i hi)
          · rw [hw]
            refine ⟨fun _ => ?_, fun z => absurd (nI_pos' (by omega)) z⟩
            have e5' : M1.1 11 2 a = nI s := e5
            have k83 : ∀ x, x = flse (nI i) w a (nI s) → kWP l (rg_x, g) mX0_rideToForge 83 [(0, .inr (.inr (3, 0))), (1, .inl (nI i)), (2, .inl w), (3, .inl (nI c)), (4, .inl (nI a))] [.inl x, .inl (nI a), .inr (.inr (1, 2))] M1 (kqi Q) := by
              intro x hx
              refine bX0_rideToForge_83 _ _ _ _ _ _ 2 _ _ (x_rideStage 2 a s x ha4 hs8 e5 (fun M2 d1 d2 d3 => ?_))
              have ok2 : rok (rx M2 2) S n := by
                rw [d3]
                exact rride_ok b3 e5 hs
              have f5 : rx M2 2 5 a = nI (s + 1) := by rw [d3, rride_5, e5, qa_1]
              refine x_noteWhere a (s + 1) ha4 (by omega) f5 ?_
              rintro z3 rfl
              rw [qa_1]
              have fr2 : xfr M1 M2 := ⟨fun c i j hc => d1 c i j (by omega), d2⟩
              have er : rx (ku M2 16 0 (9 * a + (s + 1)) (rx M2 2 6 a)) 2 = rx M2 2 := rx_o (by omega)
              refine ih (c + 1) (by omega) _ (k + 1) ((b1.trans fr2).trans xfr.u16) ?_ (by rw [er]; exact ok2) ?_
              · rw [frun_add, ← b2, er, ku_row]
                show _ = fstp (flse (nI i) w) n (rx M1 2, M1.1 16 0)
                rw [fstp_go (a := a) (by omega) hw]
                unfold fone
                show _ = (rride (rx M1 2) a (flse (nI i) w a (rx M1 2 5 a)), fcup (M1.1 16 0) (9 * a + ((rx M1 2 5 a).toNatClampNeg + 1)) (rride (rx M1 2) a (flse (nI i) w a (rx M1 2 5 a)) 6 a))
                have e16 : M2.1 16 0 = M1.1 16 0 := funext (fun j => d1 16 0 j (by omega))
                rw [e5, q_cl (by omega), ← hx, ← d3, e16]
              · rw [er, d3]
                have := (frem_stp (R := rx M1 2) (x := x) e5 hs hS n).2 ha
                omega
            have k64 : ∀ y : Int32, (y = 0 → flse (nI i) w a (nI s) = 0) → (¬ y = 0 → flse (nI i) w a (nI s) = 30) → kWP l (rg_x, g) mX0_rideToForge 64 [(0, .inr (.inr (3, 0))), (1, .inl (nI i)), (2, .inl w), (3, .inl (nI c)), (4, .inl (nI a))] [.inl y] M1 (kqi Q) := fun y y0 y1 => bX0_rideToForge_64 _ _ _ _ _ _ _ ⟨fun z => k83 0 (y0 z).symm, fun z => k83 30 (y1 z).symm⟩
            refine ⟨fun ne => bX0_rideToForge_63 _ _ _ _ _ _ (k64 0 (fun _ => ?_) (fun z => absurd rfl z)), fun ee => ?_⟩
            · unfold flse
              exact if_neg (fun z => ne z.1)
            · simp (disch := omega) only [qa_0, qa_1, qa_2, qa_3, qa_4, qa_5, qa_6, qa_7, qa_8, qa_9, qa_10, qa_12, qa_16, qa_20, qa_21, qa_22, qa_23, qa_24, qa_26, qa_27, qa_30, qa_31, qa_32, qa_35, qa_36, qa_40, qa_44, qa_48, qa_49, qa_70, qa_81, qa_90, qa_96, qa_168, qa_217, qa_434, qa_442, qa_446, qa_450, qa_454, qa_455, qa_456, qa_457, qa_458, qa_466, qa_474, qa_478, qb_0, qb_1, qb_2, qb_3, qb_4, qb_5, qb_6, qb_7, qb_8, qb_9, qb_10, qb_12, qb_16, qb_20, qb_21, qb_22, qb_23, qb_24, qb_26, qb_27, qb_30, qb_31, qb_32, qb_35, qb_36, qb_40, qb_44, qb_48, qb_49, qb_70, qb_81, qb_90, qb_96, qb_168, qb_217, qb_434, qb_442, qb_446, qb_450, qb_454, qb_455, qb_456, qb_457, qb_458, qb_466, qb_474, qb_478, qm_0, qm_1, qm_2, qm_3, qm_4, qm_5, qm_6, qm_7, qm_8, qm_9, qm_10, qm_12, qm_16, qm_20, qm_21, qm_22, qm_23, qm_24, qm_26, qm_27, qm_30, qm_31, qm_32, qm_35, qm_36, qm_40, qm_44, qm_48, qm_49, qm_70, qm_81, qm_90, qm_96, qm_168, qm_217, qm_434, qm_442, qm_446, qm_450, qm_454, qm_455, qm_456, qm_457, qm_458, qm_466, qm_474, qm_478, ql_0, ql_1, ql_2, ql_3, ql_4, ql_5, ql_6, ql_7, ql_8, ql_9, ql_10, ql_12, ql_16, ql_20, ql_21, ql_22, ql_23, ql_24, ql_26, ql_27, ql_30, ql_31, ql_32, ql_35, ql_36, ql_40, ql_44, ql_48, ql_49, ql_70, ql_81, ql_90, ql_96, ql_168, ql_217, ql_434, ql_442, ql_446, ql_450, ql_454, ql_455, ql_456, ql_457, ql_458, ql_466, ql_474, ql_478, nI_add, q_cl, q_in, true_and]
              rw [e5']
              refine x_has _ _ ⟨fun z => bX0_rideToForge_63 _ _ _ _ _ _ (k64 0 (fun _ => ?_) (fun z => absurd rfl z)), fun z => k64 1 (fun q => absurd q (by decide)) (fun _ => ?_)⟩
              · unfold flse
                exact if_neg (fun q => q.2 z)
              · unfold flse
                exact if_pos ⟨ee, z⟩
        · rw [if_neg th]
          refine ⟨fun _ => bX0_rideToForge_98 _ _ _ ?_, fun z => absurd z (by decide)⟩
          simp (disch := omega) only [qa_0, qa_1, qa_2, qa_3, qa_4, qa_5, qa_6, qa_7, qa_8, qa_9, qa_10, qa_12, qa_16, qa_20, qa_21, qa_22, qa_23, qa_24, qa_26, qa_27, qa_30, qa_31, qa_32, qa_35, qa_36, qa_40, qa_44, qa_48, qa_49, qa_70, qa_81, qa_90, qa_96, qa_168, qa_217, qa_434, qa_442, qa_446, qa_450, qa_454, qa_455, qa_456, qa_457, qa_458, qa_466, qa_474, qa_478, qb_0, qb_1, qb_2, qb_3, qb_4, qb_5, qb_6, qb_7, qb_8, qb_9, qb_10, qb_12, qb_16, qb_20, qb_21, qb_22, qb_23, qb_24, qb_26, qb_27, qb_30, qb_31, qb_32, qb_35, qb_36, qb_40, qb_44, qb_48, qb_49, qb_70, qb_81, qb_90, qb_96, qb_168, qb_217, qb_434, qb_442, qb_446, qb_450, qb_454, qb_455, qb_456, qb_457, qb_458, qb_466, qb_474, qb_478, qm_0, qm_1, qm_2, qm_3, qm_4, qm_5, qm_6, qm_7, qm_8, qm_9, qm_10, qm_12, qm_16, qm_20, qm_21, qm_22, qm_23, qm_24, qm_26, qm_27, qm_30, qm_31, qm_32, qm_35, qm_36, qm_40, qm_44, qm_48, qm_49, qm_70, qm_81, qm_90, qm_96, qm_168, qm_217, qm_434, qm_442, qm_446, qm_450, qm_454, qm_455, qm_456, qm_457, qm_458, qm_466, qm_474, qm_478, ql_0, ql_1, ql_2, ql_3, ql_4, ql_5, ql_6, ql_7, ql_8, ql_9, ql_10, ql_12, ql_16, ql_20, ql_21, ql_22, ql_23, ql_24, ql_26, ql_27, ql_30, ql_31, ql_32, ql_35, ql_36, ql_40, ql_44, ql_48, ql_49, ql_70, ql_81, ql_90, ql_96, ql_168, ql_217, ql_434, ql_442, ql_446, ql_450, ql_454, ql_455, ql_456, ql_457, ql_458, ql_466, ql_474, ql_478, nI_add, q_cl, q_in, true_and]
          exact h M1 k b1 b2 th
  exact key 32 0 (by omega) M 0 (xfr.refl M) rfl ok (frem_32 ok)
theorem m_tries (h : ∀ M', mfr M M' → req (rmd M' 434) (rmd M 0) → Qv M') : kCT l (rg_m, g) mX6_tries [.inr (.inr (0, 0))] M (kqv Qv) := by
  refine kct (by decide) (Nat.le_of_ble_eq_true rfl) (bX6_tries_0 M Qv (m_copyAll 0 434 49 (by omega) (by omega) (by omega) (h _ ⟨fun c i j hc => kcp_n (by omega), kcp_2⟩ (rmd_mv (fun j hj => ?_)))))
  exact kcp_i (by omega) (by omega) (by omega)
theorem m_ridesOn (one off : Int32) (S n : Nat) (ok : rok (rmd M 434) S n) (h : ∀ M' C k, mfr M M' → k ≤ 32 → (∀ r s, r < n → s ≤ 8 → C (9 * r + s) = if s = (rmd M 434 5 r).toNatClampNeg then rmd M 434 6 r else -4) → rwho (frun (flse one off) n k (rmd M 434, C)).1 n = -4 → req (rmd M' 434) (frun (flse one off) n k (rmd M 434, C)).1 → (∀ j, j < 36 → M'.1 6 0 j = (frun (flse one off) n k (rmd M 434, C)).2 j) → Qv M') : kCT l (rg_m, g) mX6_ridesOn [.inr (.inr (0, 0)), .inl one, .inl off] M (kqv Qv) := by
  have h4 := ok.2.2.2.1
  have hS := ok.2.1
  have en : M.1 1 0 456 = nI n := ok.2.2.1
  refine kct (by decide) (Nat.le_of_ble_eq_true rfl) (bX6_ridesOn_0 _ _ M Qv ?_)
  -- the rides
  have key3 : ∀ C : Nat → Int32, (∀ r s, r < n → s ≤ 8 → C (9 * r + s) = if s = (rmd M 434 5 r).toNatClampNeg then rmd M 434 6 r else -4) → ∀ f k, k + f = 32 → ∀ M1, mfr M M1 → rok (rmd M1 434) S n → frem (rmd M1 434) S n ≤ f → req (rmd M1 434) (frun (flse one off) n k (rmd M 434, C)).1 → (∀ j, j < 36 → M1.1 6 0 j = (frun (flse one off) n k (rmd M 434, C)).2 j) → kWP l (rg_m, g) mX6_ridesOn 80 [(0, .inr (.inr (0, 0))), (1, .inl one), (2, .inl off), (3, .inl (rwho (rmd M1 434) n))] [] M1 (kqv Qv) := by
    intro C hC f
    induction f with
    | zero =>
      intro k hk M1 b1 b2 b3 b4 b5
      have hw := frem_0 b2 (by omega)
      rw [hw]
      refine bX6_ridesOn_80 _ _ _ _ _ ⟨fun _ => h M1 C k b1 (by omega) hC ?_ b4 b5, fun z => absurd rfl z⟩
      rw [← rwho_eq b4 b2]
      exact hw
    | succ f ih =>
      intro k hk M1 b1 b2 b3 b4 b5
      rcases fcase b2 with hw | ⟨a, s, ha, ha4, hw, hs, hs8, e5⟩
      · rw [hw]
        refine bX6_ridesOn_80 _ _ _ _ _ ⟨fun _ => h M1 C k b1 (by omega) hC ?_ b4 b5, fun z => absurd rfl z⟩
        rw [← rwho_eq b4 b2]
        exact hw
      · rw [hw]
        refine bX6_ridesOn_80 _ _ _ _ _ ⟨fun z => absurd z (nI_neg4 (by omega)), fun _ => ?_⟩
        have e5' : M1.1 1 0 (442 + a) = nI s := e5
        have k113 : ∀ y x : Int32, (y = 0 → x = 0) → (¬ y = 0 → x = 30) → x = flse one off a (nI s) → kWP l (rg_m, g) mX6_ridesOn 113 [(0, .inr (.inr (0, 0))), (1, .inl one), (2, .inl off), (3, .inl (nI a))] [.inl y] M1 (kqv Qv) := by
          intro y x y0 y1 hx
          refine bX6_ridesOn_113 _ _ _ _ _ _ (m_rides 434 a s (by omega) ha4 hs8 e5 (fun M2 d1 d2 d3 => ?_))
          simp (disch := omega) only [qa_0, qa_1, qa_2, qa_3, qa_4, qa_5, qa_6, qa_7, qa_8, qa_9, qa_10, qa_12, qa_16, qa_20, qa_21, qa_22, qa_23, qa_24, qa_26, qa_27, qa_30, qa_31, qa_32, qa_35, qa_36, qa_40, qa_44, qa_48, qa_49, qa_70, qa_81, qa_90, qa_96, qa_168, qa_217, qa_434, qa_442, qa_446, qa_450, qa_454, qa_455, qa_456, qa_457, qa_458, qa_466, qa_474, qa_478, qb_0, qb_1, qb_2, qb_3, qb_4, qb_5, qb_6, qb_7, qb_8, qb_9, qb_10, qb_12, qb_16, qb_20, qb_21, qb_22, qb_23, qb_24, qb_26, qb_27, qb_30, qb_31, qb_32, qb_35, qb_36, qb_40, qb_44, qb_48, qb_49, qb_70, qb_81, qb_90, qb_96, qb_168, qb_217, qb_434, qb_442, qb_446, qb_450, qb_454, qb_455, qb_456, qb_457, qb_458, qb_466, qb_474, qb_478, qm_0, qm_1, qm_2, qm_3, qm_4, qm_5, qm_6, qm_7, qm_8, qm_9, qm_10, qm_12, qm_16, qm_20, qm_21, qm_22, qm_23, qm_24, qm_26, qm_27, qm_30, qm_31, qm_32, qm_35, qm_36, qm_40, qm_44, qm_48, qm_49, qm_70, qm_81, qm_90, qm_96, qm_168, qm_217, qm_434, qm_442, qm_446, qm_450, qm_454, qm_455, qm_456, qm_457, qm_458, qm_466, qm_474, qm_478, ql_0, ql_1, ql_2, ql_3, ql_4, ql_5, ql_6, ql_7, ql_8, ql_9, ql_10, ql_12, ql_16, ql_20, ql_21, ql_22, ql_23, ql_24, ql_26, ql_27, ql_30, ql_31, ql_32, ql_35, ql_36, ql_40, ql_44, ql_48, ql_49, ql_70, ql_81, ql_90, ql_96, ql_168, ql_217, ql_434, ql_442, ql_446, ql_450, ql_454, ql_455, ql_456, ql_457, ql_458, ql_466, ql_474, ql_478, nI_add, q_cl, q_in, true_and]
          have k145 : kWP l (rg_m, g) mX6_ridesOn 145 [(0, .inr (.inr (0, 0))), (1, .inl one), (2, .inl off), (3, .inl (nI a))] [.inl x, .inl (M2.1 1 0 (446 + a)), .inl (nI (446 + a)), .inr (.inr (1, 0))] M2 (kqv Qv) := by
            refine bX6_ridesOn_145 _ _ _ _ _ _ _ _ ?_
            simp (disch := omega) only [qa_0, qa_1, qa_2, qa_3, qa_4, qa_5, qa_6, qa_7, qa_8, qa_9, qa_10, qa_12, qa_16, qa_20, qa_21, qa_22, qa_23, qa_24, qa_26, qa_27, qa_30, qa_31, qa_32, qa_35, qa_36, qa_40, qa_44, qa_48, qa_49, qa_70, qa_81, qa_90, qa_96, qa_168, qa_217, qa_434, qa_442, qa_446, qa_450, qa_454, qa_455, qa_456, qa_457, qa_458, qa_466, qa_474, qa_478, qb_0, qb_1, qb_2, qb_3, qb_4, qb_5, qb_6, qb_7, qb_8, qb_9, qb_10, qb_12, qb_16, qb_20, qb_21, qb_22, qb_23, qb_24, qb_26, qb_27, qb_30, qb_31, qb_32, qb_35, qb_36, qb_40, qb_44, qb_48, qb_49, qb_70, qb_81, qb_90, qb_96, qb_168, qb_217, qb_434, qb_442, qb_446, qb_450, qb_454, qb_455, qb_456, qb_457, qb_458, qb_466, qb_474, qb_478, qm_0, qm_1, qm_2, qm_3, qm_4, qm_5, qm_6, qm_7, qm_8, qm_9, qm_10, qm_12, qm_16, qm_20, qm_21, qm_22, qm_23, qm_24, qm_26, qm_27, qm_30, qm_31, qm_32, qm_35, qm_36, qm_40, qm_44, qm_48, qm_49, qm_70, qm_81, qm_90, qm_96, qm_168, qm_217, qm_434, qm_442, qm_446, qm_450, qm_454, qm_455, qm_456, qm_457, qm_458, qm_466, qm_474, qm_478, ql_0, ql_1, ql_2, ql_3, ql_4, ql_5, ql_6, ql_7, ql_8, ql_9, ql_10, ql_12, ql_16, ql_20, ql_21, ql_22, ql_23, ql_24, ql_26, ql_27, ql_30, ql_31, ql_32, ql_35, ql_36, ql_40, ql_44, ql_48, ql_49, ql_70, ql_81, ql_90, ql_96, ql_168, ql_217, ql_434, ql_442, ql_446, ql_450, ql_454, ql_455, ql_456, ql_457, ql_458, ql_466, ql_474, ql_478, nI_add, q_cl, q_in, true_and]
            rintro M3 rfl
            have em : req (rmd (ku M2 1 0 (446 + a) (M2.1 1 0 (446 + a) + x)) 434) (rride (rmd M1 434) a x) := by
              refine (rmd_u (h := 434) (f := 6) (j := a) (by simp [wof]; omega) (by decide) (by first | (show _ < 4; omega) | (show _ < 8; omega) | exact fln_s (by assumption) (by omega) (by omega) (by omega) | exact fln_r (by assumption) (by omega) (by omega))).trans ?_
              have okm2 : rok (rmd M2 434) S n := d3.symm.ok (rride_ok b2 e5 hs)
              have e6 : M2.1 1 0 (446 + a) = rride (rmd M1 434) a 0 6 a := by
                rw [← d3 6 a (by decide) (by first | (show _ < 4; omega) | (show _ < 8; omega) | exact fln_s (by assumption) (by omega) (by omega) (by omega) | exact fln_r (by assumption) (by omega) (by omega))]
                rfl
              rw [e6]
              refine (req.up d3 _ _ _).trans ?_
              rw [rride_more]
              exact req.refl _
            have fr3 : mfr M1 (ku M2 1 0 (446 + a) (M2.1 1 0 (446 + a) + x)) := ⟨fun c i j hc => by rw [ku_ne (by omega), d1 c i j (by omega)], by rw [ku_2, d2]⟩
            have r6 : ∀ j, (ku M2 1 0 (446 + a) (M2.1 1 0 (446 + a) + x)).1 6 0 j = M1.1 6 0 j := fun j => by rw [ku_ne (by omega), d1 6 0 j (by omega)]
            generalize ku M2 1 0 (446 + a) (M2.1 1 0 (446 + a) + x) = M3 at em fr3 r6 ⊢
            have ok3 : rok (rmd M3 434) S n := em.symm.ok (rride_ok b2 e5 hs)
            have f5 : M3.1 1 0 (442 + a) = nI (s + 1) := by
              have := em 5 a (by decide) (by first | (show _ < 4; omega) | (show _ < 8; omega) | exact fln_s (by assumption) (by omega) (by omega) (by omega) | exact fln_r (by assumption) (by omega) (by omega))
              rw [rride_5, e5, qa_1] at this
              exact this
            rw [f5]
            simp (disch := omega) only [qa_0, qa_1, qa_2, qa_3, qa_4, qa_5, qa_6, qa_7, qa_8, qa_9, qa_10, qa_12, qa_16, qa_20, qa_21, qa_22, qa_23, qa_24, qa_26, qa_27, qa_30, qa_31, qa_32, qa_35, qa_36, qa_40, qa_44, qa_48, qa_49, qa_70, qa_81, qa_90, qa_96, qa_168, qa_217, qa_434, qa_442, qa_446, qa_450, qa_454, qa_455, qa_456, qa_457, qa_458, qa_466, qa_474, qa_478, qb_0, qb_1, qb_2, qb_3, qb_4, qb_5, qb_6, qb_7, qb_8, qb_9, qb_10, qb_12, qb_16, qb_20, qb_21, qb_22, qb_23, qb_24, qb_26, qb_27, qb_30, qb_31, qb_32, qb_35, qb_36, qb_40, qb_44, qb_48, qb_49, qb_70, qb_81, qb_90, qb_96, qb_168, qb_217, qb_434, qb_442, qb_446, qb_450, qb_454, qb_455, qb_456, qb_457, qb_458, qb_466, qb_474, qb_478, qm_0, qm_1, qm_2, qm_3, qm_4, qm_5, qm_6, qm_7, qm_8, qm_9, qm_10, qm_12, qm_16, qm_20, qm_21, qm_22, qm_23, qm_24, qm_26, qm_27, qm_30, qm_31, qm_32, qm_35, qm_36, qm_40, qm_44, qm_48, qm_49, qm_70, qm_81, qm_90, qm_96, qm_168, qm_217, qm_434, qm_442, qm_446, qm_450, qm_454, qm_455, qm_456, qm_457, qm_458, qm_466, qm_474, qm_478, ql_0, ql_1, ql_2, ql_3, ql_4, ql_5, ql_6, ql_7, ql_8, ql_9, ql_10, ql_12, ql_16, ql_20, ql_21, ql_22, ql_23, ql_24, ql_26, ql_27, ql_30, ql_31, ql_32, ql_35, ql_36, ql_40, ql_44, ql_48, ql_49, ql_70, ql_81, ql_90, ql_96, ql_168, ql_217, ql_434, ql_442, ql_446, ql_450, ql_454, ql_455, ql_456, ql_457, ql_458, ql_466, ql_474, ql_478, nI_add, q_cl, q_in, true_and]
            rintro M4 rfl
            have er : rmd (ku M3 6 0 (9 * a + (s + 1)) (M3.1 1 0 (446 + a))) 434 = rmd M3 434 := rmd_row (fun j => ku_ne (by omega))
            refine m_nextIn 434 S n (by omega) (by rw [er]; exact ok3) ?_
            have hstep : frun (flse one off) n (k + 1) (rmd M 434, C) = fone (flse one off) a (frun (flse one off) n k (rmd M 434, C)) := by
              rw [frun_add]
              show fstp (flse one off) n _ = _
              rw [fstp_go (a := a) (by omega)]
              rw [← rwho_eq b4 b2]
              exact hw
            have g5 : (frun (flse one off) n k (rmd M 434, C)).1 5 a = nI s := by
              rw [← b4 5 a (by decide) (by first | (show _ < 4; omega) | (show _ < 8; omega) | exact fln_s (by assumption) (by omega) (by omega) (by omega) | exact fln_r (by assumption) (by omega) (by omega))]
              exact e5
            have emY : req (rmd M3 434) (rride (frun (flse one off) n k (rmd M 434, C)).1 a x) := em.trans (rride_eq b4 b2 ha hs e5)
            refine ih (k + 1) (by omega) _ ((b1.trans fr3).trans mfr.u6) (by rw [er]; exact ok3) ?_ ?_ ?_
            · rw [er]
              have q1 := (frem_stp (R := rmd M1 434) (x := x) e5 hs hS n).2 ha
              have q2 : frem (rmd M3 434) S n = frem (rride (rmd M1 434) a x) S n := frem_cg em ok3 n (Nat.le_refl _)
              omega
            · rw [er, hstep]
              show req _ (rride (frun (flse one off) n k (rmd M 434, C)).1 a (flse one off a ((frun (flse one off) n k (rmd M 434, C)).1 5 a)))
              rw [g5, ← hx]
              exact emY
            · intro j hj
              rw [hstep]
              show _ = fcup (frun (flse one off) n k (rmd M 434, C)).2 (9 * a + (((frun (flse one off) n k (rmd M 434, C)).1 5 a).toNatClampNeg + 1)) (rride (frun (flse one off) n k (rmd M 434, C)).1 a (flse one off a ((frun (flse one off) n k (rmd M 434, C)).1 5 a)) 6 a) j
              rw [g5, ← hx, q_cl (by omega)]
              by_cases e : j = 9 * a + (s + 1)
              · subst e
                rw [ku_eq, fcup_eq, ← emY 6 a (by decide) (by first | (show _ < 4; omega) | (show _ < 8; omega) | exact fln_s (by assumption) (by omega) (by omega) (by omega) | exact fln_r (by assumption) (by omega) (by omega))]
                rfl
              · rw [ku_ne (by omega), fcup_ne e, r6]
                exact b5 j hj
          refine ⟨fun z => ?_, fun z => ?_⟩
          · have := y0 z
            subst this
            exact k145
          · have := y1 z
            subst this
            exact k145
        refine ⟨fun ne => bX6_ridesOn_112 _ _ _ _ _ (k113 0 0 (fun _ => rfl) (fun z => absurd rfl z) ?_), fun ee => ?_⟩
        · unfold flse
          exact (if_neg (fun z => ne z.1)).symm
        · simp (disch := omega) only [qa_0, qa_1, qa_2, qa_3, qa_4, qa_5, qa_6, qa_7, qa_8, qa_9, qa_10, qa_12, qa_16, qa_20, qa_21, qa_22, qa_23, qa_24, qa_26, qa_27, qa_30, qa_31, qa_32, qa_35, qa_36, qa_40, qa_44, qa_48, qa_49, qa_70, qa_81, qa_90, qa_96, qa_168, qa_217, qa_434, qa_442, qa_446, qa_450, qa_454, qa_455, qa_456, qa_457, qa_458, qa_466, qa_474, qa_478, qb_0, qb_1, qb_2, qb_3, qb_4, qb_5, qb_6, qb_7, qb_8, qb_9, qb_10, qb_12, qb_16, qb_20, qb_21, qb_22, qb_23, qb_24, qb_26, qb_27, qb_30, qb_31, qb_32, qb_35, qb_36, qb_40, qb_44, qb_48, qb_49, qb_70, qb_81, qb_90, qb_96, qb_168, qb_217, qb_434, qb_442, qb_446, qb_450, qb_454, qb_455, qb_456, qb_457, qb_458, qb_466, qb_474, qb_478, qm_0, qm_1, qm_2, qm_3, qm_4, qm_5, qm_6, qm_7, qm_8, qm_9, qm_10, qm_12, qm_16, qm_20, qm_21, qm_22, qm_23, qm_24, qm_26, qm_27, qm_30, qm_31, qm_32, qm_35, qm_36, qm_40, qm_44, qm_48, qm_49, qm_70, qm_81, qm_90, qm_96, qm_168, qm_217, qm_434, qm_442, qm_446, qm_450, qm_454, qm_455, qm_456, qm_457, qm_458, qm_466, qm_474, qm_478, ql_0, ql_1, ql_2, ql_3, ql_4, ql_5, ql_6, ql_7, ql_8, ql_9, ql_10, ql_12, ql_16, ql_20, ql_21, ql_22, ql_23, ql_24, ql_26, ql_27, ql_30, ql_31, ql_32, ql_35, ql_36, ql_40, ql_44, ql_48, ql_49, ql_70, ql_81, ql_90, ql_96, ql_168, ql_217, ql_434, ql_442, ql_446, ql_450, ql_454, ql_455, ql_456, ql_457, ql_458, ql_466, ql_474, ql_478, nI_add, q_cl, q_in, true_and]
          rw [e5']
          refine m_has _ _ ⟨fun z => bX6_ridesOn_112 _ _ _ _ _ (k113 0 0 (fun _ => rfl) (fun z => absurd rfl z) ?_), fun z => k113 1 30 (fun q => absurd q (by decide)) (fun _ => rfl) ?_⟩
          · unfold flse
            exact (if_neg (fun q => q.2 z)).symm
          · unfold flse
            exact (if_pos ⟨ee, z⟩).symm
  -- where all are now
  have key2 : ∀ f i, i + f = n → ∀ M1, (∀ c x j, c ≠ 6 → M1.1 c x j = M.1 c x j) → M1.2 = M.2 → (∀ r s, r < n → s ≤ 8 → M1.1 6 0 (9 * r + s) = if r < i ∧ s = (rmd M 434 5 r).toNatClampNeg then rmd M 434 6 r else -4) → kWP l (rg_m, g) mX6_ridesOn 24 [(0, .inr (.inr (0, 0))), (1, .inl one), (2, .inl off), (3, .inl (nI i))] [] M1 (kqv Qv) := by
    intro f
    induction f with
    | zero =>
      intro i hi M1 b1 b2 b3
      obtain rfl : i = n := by omega
      refine bX6_ridesOn_24 _ _ _ _ _ ?_
      rw [ql_456, b1 1 0 456 (by decide), en]
      refine ⟨fun _ => ?_, fun c => absurd (nI_le (Nat.le_refl i) (by omega)) c⟩
      have er : rmd M1 434 = rmd M 434 := rmd_row (fun j => b1 1 0 j (by decide))
      refine m_nextIn 434 S i (by omega) (by rw [er]; exact ok) ?_
      refine key3 (M1.1 6 0) (fun r s hr hs => ?_) 32 0 (by omega) M1 ⟨fun c x j hc => b1 c x j (by omega), b2⟩ (by rw [er]; exact ok) (by rw [er]; exact frem_32 ok) (by rw [er]; exact req.refl _) (fun _ _ => rfl)
      rw [b3 r s hr hs]
      by_cases e : s = (rmd M 434 5 r).toNatClampNeg
      · rw [if_pos ⟨hr, e⟩, if_pos e]
      · rw [if_neg (fun z => e z.2), if_neg e]
    | succ f ih =>
      intro i hi M1 b1 b2 b3
      refine bX6_ridesOn_24 _ _ _ _ _ ?_
      rw [ql_456, b1 1 0 456 (by decide), en]
      refine ⟨fun c => ?_, fun _ => ?_⟩
      · rw [q_le (by omega) (by omega)] at c
        omega
      · obtain ⟨b, hb, eb⟩ := ok.2.2.2.2 i (by omega)
        have e5 : M.1 1 0 (442 + i) = nI b := eb
        simp (disch := omega) only [qa_0, qa_1, qa_2, qa_3, qa_4, qa_5, qa_6, qa_7, qa_8, qa_9, qa_10, qa_12, qa_16, qa_20, qa_21, qa_22, qa_23, qa_24, qa_26, qa_27, qa_30, qa_31, qa_32, qa_35, qa_36, qa_40, qa_44, qa_48, qa_49, qa_70, qa_81, qa_90, qa_96, qa_168, qa_217, qa_434, qa_442, qa_446, qa_450, qa_454, qa_455, qa_456, qa_457, qa_458, qa_466, qa_474, qa_478, qb_0, qb_1, qb_2, qb_3, qb_4, qb_5, qb_6, qb_7, qb_8, qb_9, qb_10, qb_12, qb_16, qb_20, qb_21, qb_22, qb_23, qb_24, qb_26, qb_27, qb_30, qb_31, qb_32, qb_35, qb_36, qb_40, qb_44, qb_48, qb_49, qb_70, qb_81, qb_90, qb_96, qb_168, qb_217, qb_434, qb_442, qb_446, qb_450, qb_454, qb_455, qb_456, qb_457, qb_458, qb_466, qb_474, qb_478, qm_0, qm_1, qm_2, qm_3, qm_4, qm_5, qm_6, qm_7, qm_8, qm_9, qm_10, qm_12, qm_16, qm_20, qm_21, qm_22, qm_23, qm_24, qm_26, qm_27, qm_30, qm_31, qm_32, qm_35, qm_36, qm_40, qm_44, qm_48, qm_49, qm_70, qm_81, qm_90, qm_96, qm_168, qm_217, qm_434, qm_442, qm_446, qm_450, qm_454, qm_455, qm_456, qm_457, qm_458, qm_466, qm_474, qm_478, ql_0, ql_1, ql_2, ql_3, ql_4, ql_5, ql_6, ql_7, ql_8, ql_9, ql_10, ql_12, ql_16, ql_20, ql_21, ql_22, ql_23, ql_24, ql_26, ql_27, ql_30, ql_31, ql_32, ql_35, ql_36, ql_40, ql_44, ql_48, ql_49, ql_70, ql_81, ql_90, ql_96, ql_168, ql_217, ql_434, ql_442, ql_446, ql_450, ql_454, ql_455, ql_456, ql_457, ql_458, ql_466, ql_474, ql_478, nI_add, q_cl, q_in, true_and]
        rw [b1 1 0 (442 + i) (by decide), b1 1 0 (446 + i) (by decide), e5]
        simp (disch := omega) only [qa_0, qa_1, qa_2, qa_3, qa_4, qa_5, qa_6, qa_7, qa_8, qa_9, qa_10, qa_12, qa_16, qa_20, qa_21, qa_22, qa_23, qa_24, qa_26, qa_27, qa_30, qa_31, qa_32, qa_35, qa_36, qa_40, qa_44, qa_48, qa_49, qa_70, qa_81, qa_90, qa_96, qa_168, qa_217, qa_434, qa_442, qa_446, qa_450, qa_454, qa_455, qa_456, qa_457, qa_458, qa_466, qa_474, qa_478, qb_0, qb_1, qb_2, qb_3, qb_4, qb_5, qb_6, qb_7, qb_8, qb_9, qb_10, qb_12, qb_16, qb_20, qb_21, qb_22, qb_23, qb_24, qb_26, qb_27, qb_30, qb_31, qb_32, qb_35, qb_36, qb_40, qb_44, qb_48, qb_49, qb_70, qb_81, qb_90, qb_96, qb_168, qb_217, qb_434, qb_442, qb_446, qb_450, qb_454, qb_455, qb_456, qb_457, qb_458, qb_466, qb_474, qb_478, qm_0, qm_1, qm_2, qm_3, qm_4, qm_5, qm_6, qm_7, qm_8, qm_9, qm_10, qm_12, qm_16, qm_20, qm_21, qm_22, qm_23, qm_24, qm_26, qm_27, qm_30, qm_31, qm_32, qm_35, qm_36, qm_40, qm_44, qm_48, qm_49, qm_70, qm_81, qm_90, qm_96, qm_168, qm_217, qm_434, qm_442, qm_446, qm_450, qm_454, qm_455, qm_456, qm_457, qm_458, qm_466, qm_474, qm_478, ql_0, ql_1, ql_2, ql_3, ql_4, ql_5, ql_6, ql_7, ql_8, ql_9, ql_10, ql_12, ql_16, ql_20, ql_21, ql_22, ql_23, ql_24, ql_26, ql_27, ql_30, ql_31, ql_32, ql_35, ql_36, ql_40, ql_44, ql_48, ql_49, ql_70, ql_81, ql_90, ql_96, ql_168, ql_217, ql_434, ql_442, ql_446, ql_450, ql_454, ql_455, ql_456, ql_457, ql_458, ql_466, ql_474, ql_478, nI_add, q_cl, q_in, true_and]
        rintro M3 rfl z4 rfl
        refine ih (i + 1) (by omega) _ (fun c x j hc => by rw [ku_ne (by omega), b1 c x j hc]) (by rw [ku_2, b2]) (fun r s hr hs => ?_)
        by_cases e : r = i ∧ s = b
        · obtain ⟨rfl, rfl⟩ := e
          rw [ku_eq, if_pos ⟨by omega, by rw [eb, q_cl (by omega)]⟩]
          rfl
        · rw [ku_ne (by omega), b3 r s hr hs]
          by_cases e2 : r = i
          · subst e2
            rw [if_neg (by omega), if_neg (fun z => e ⟨rfl, by rw [z.2, eb, q_cl (by omega)]⟩)]
          · by_cases e3 : s = (rmd M 434 5 r).toNatClampNeg
            · by_cases e4 : r < i
              · rw [if_pos ⟨e4, e3⟩, if_pos ⟨by omega, e3⟩]
              · rw [if_neg (fun z => e4 z.1), if_neg (fun z => by omega)]
            · rw [if_neg (fun z => e3 z.2), if_neg (fun z => e3 z.2)]
  have key1 : ∀ f i, i + f = 36 → ∀ M1, (∀ c x j, c ≠ 6 → M1.1 c x j = M.1 c x j) → M1.2 = M.2 → (∀ j, j < i → M1.1 6 0 j = -4) → kWP l (rg_m, g) mX6_ridesOn 2 [(0, .inr (.inr (0, 0))), (1, .inl one), (2, .inl off), (3, .inl (nI i))] [] M1 (kqv Qv) := by
    intro f
    induction f with
    | zero =>
      intro i hi M1 b1 b2 b3
      obtain rfl : i = 36 := by omega
      refine bX6_ridesOn_2 _ _ _ _ _ ⟨fun _ => key2 n 0 (by omega) M1 b1 b2 (fun r s hr hs => ?_), fun z => absurd (nI_le (Nat.le_refl 36) (by omega)) z⟩
      rw [if_neg (fun z => by omega)]
      exact b3 _ (by omega)
    | succ f ih =>
      intro i hi M1 b1 b2 b3
      refine bX6_ridesOn_2 _ _ _ _ _ ⟨fun z => ?_, fun _ => ?_⟩
      · rw [show (36 : Int32) = nI 36 from rfl, q_le (by omega) (by omega)] at z
        omega
      · simp (disch := omega) only [qa_0, qa_1, qa_2, qa_3, qa_4, qa_5, qa_6, qa_7, qa_8, qa_9, qa_10, qa_12, qa_16, qa_20, qa_21, qa_22, qa_23, qa_24, qa_26, qa_27, qa_30, qa_31, qa_32, qa_35, qa_36, qa_40, qa_44, qa_48, qa_49, qa_70, qa_81, qa_90, qa_96, qa_168, qa_217, qa_434, qa_442, qa_446, qa_450, qa_454, qa_455, qa_456, qa_457, qa_458, qa_466, qa_474, qa_478, qb_0, qb_1, qb_2, qb_3, qb_4, qb_5, qb_6, qb_7, qb_8, qb_9, qb_10, qb_12, qb_16, qb_20, qb_21, qb_22, qb_23, qb_24, qb_26, qb_27, qb_30, qb_31, qb_32, qb_35, qb_36, qb_40, qb_44, qb_48, qb_49, qb_70, qb_81, qb_90, qb_96, qb_168, qb_217, qb_434, qb_442, qb_446, qb_450, qb_454, qb_455, qb_456, qb_457, qb_458, qb_466, qb_474, qb_478, qm_0, qm_1, qm_2, qm_3, qm_4, qm_5, qm_6, qm_7, qm_8, qm_9, qm_10, qm_12, qm_16, qm_20, qm_21, qm_22, qm_23, qm_24, qm_26, qm_27, qm_30, qm_31, qm_32, qm_35, qm_36, qm_40, qm_44, qm_48, qm_49, qm_70, qm_81, qm_90, qm_96, qm_168, qm_217, qm_434, qm_442, qm_446, qm_450, qm_454, qm_455, qm_456, qm_457, qm_458, qm_466, qm_474, qm_478, ql_0, ql_1, ql_2, ql_3, ql_4, ql_5, ql_6, ql_7, ql_8, ql_9, ql_10, ql_12, ql_16, ql_20, ql_21, ql_22, ql_23, ql_24, ql_26, ql_27, ql_30, ql_31, ql_32, ql_35, ql_36, ql_40, ql_44, ql_48, ql_49, ql_70, ql_81, ql_90, ql_96, ql_168, ql_217, ql_434, ql_442, ql_446, ql_450, ql_454, ql_455, ql_456, ql_457, ql_458, ql_466, ql_474, ql_478, nI_add, q_cl, q_in, true_and]
        rintro M2 rfl z2 rfl
        refine ih (i + 1) (by omega) _ (fun c x j hc => by rw [ku_ne (by omega), b1 c x j hc]) (by rw [ku_2, b2]) (fun j hj => ?_)
        by_cases e : j = i
        · subst e
          exact ku_eq
        · rw [ku_ne (by omega)]
          exact b3 j (by omega)
  exact key1 36 0 (by omega) M (fun _ _ _ _ => rfl) rfl (fun j hj => by omega)
theorem m_foretells (S n : Nat) (ok : rok (rmd M 0) S n) (h : ∀ M' R C k, mfr M M' → req R (rmd M 0) → k ≤ 32 → (∀ r s, r < n → s ≤ 8 → C (9 * r + s) = if s = (R 5 r).toNatClampNeg then R 6 r else -4) → rwho (frun (fun _ _ => 0) n k (R, C)).1 n = -4 → req (rmd M' 434) (frun (fun _ _ => 0) n k (R, C)).1 → (∀ j, j < 36 → M'.1 6 0 j = (frun (fun _ _ => 0) n k (R, C)).2 j) → Qv M') : kCT l (rg_m, g) mX6_foretells [.inr (.inr (0, 0))] M (kqv Qv) := by
  refine kct (by decide) (Nat.le_of_ble_eq_true rfl) (bX6_foretells_0 M Qv (m_tries (fun M1 a1 a2 => m_ridesOn _ _ S n (a2.symm.ok ok) (fun M' C k b1 b2 b3 b4 b5 b6 => ?_))))
  rw [flse_0] at b4 b5 b6
  exact h M' (rmd M1 434) C k (a1.trans b1) a2 b2 b3 b4 b5 b6
end KFO
