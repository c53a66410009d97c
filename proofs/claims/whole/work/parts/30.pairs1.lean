/-! ===== pairs: price, seed, buys, of ===== -/
section KP1
variable {l : Launch} {g1 g2 : va_G × (Nat → ClassId) × (Nat → Nat → Nat)} {Mx Mm : kM} {n : Nat}
/-- an index that passed the test -/
theorem wth_ix {a : Int32} {N : Nat} (hN : N ≤ 100) (h : ¬ wth a 0 (nI N - 1) = 0) : ∃ i, i < N ∧ a = nI i := by
  obtain ⟨h1, h2⟩ := wth_ne.mp h
  obtain ⟨i, hi, rfl⟩ := nI_of h1
  refine ⟨i, ?_, rfl⟩
  rcases Nat.eq_zero_or_pos N with h0 | h0
  · subst h0
    exfalso
    apply h2
    rw [Int32.lt_iff_toInt_lt, nI_toInt hi]
    have : (nI 0 - 1 : Int32).toInt = -1 := by decide
    omega
  · have e : nI N - 1 = nI (N - 1) := by
      have := pk_sub (a := N) (b := 1) h0
      exact this
    rw [e, q_lt (by omega) (by omega)] at h2
    omega
theorem Inv.riders (h : Inv n Mx Mm) : Mx.1 1 0 1 = Mm.1 1 0 22 := by
  obtain ⟨S, r, a, -⟩ := h.1
  exact a 0 1 (by decide) (by first | (show _ < 4; omega) | (show _ < 8; omega) | exact fln_s (by assumption) (by omega) (by omega) (by omega) | exact fln_r (by assumption) (by omega) (by omega))
theorem Inv.stages (h : Inv n Mx Mm) : Mx.1 1 0 0 = Mm.1 1 0 21 := by
  obtain ⟨S, r, a, -⟩ := h.1
  exact a 0 0 (by decide) (by first | (show _ < 4; omega) | (show _ < 8; omega) | exact fln_s (by assumption) (by omega) (by omega) (by omega) | exact fln_r (by assumption) (by omega) (by omega))
/-- a rider that passed the test -/
theorem Inv.isR (h : Inv n Mx Mm) {a : Int32} (hw : ¬ wth a 0 (Mx.1 1 0 1 - 1) = 0) : ∃ S r i, rok (rx Mx 0) S r ∧ i < r ∧ r ≤ 4 ∧ a = nI i := by
  obtain ⟨S, r, q, ⟨b1, b2, b3, b4, b5⟩, -⟩ := h.1
  rw [show Mx.1 1 0 1 = nI r from b3] at hw
  obtain ⟨i, hi, rfl⟩ := wth_ix (by omega) hw
  exact ⟨S, r, i, ⟨b1, b2, b3, b4, b5⟩, hi, b4, rfl⟩
theorem pair_price (h : Inv n Mx Mm) (a1 : Int32) : kPair l g1 g2 mX5_price mX6_price [.inl a1] Mx Mm (Inv (n + 1)) := by
  have hm : ∀ r Mx1, ((wth a1 1 9 = 0 → r = -1 ∧ Mx1 = Mx) ∧ (¬ wth a1 1 9 = 0 → r = Mx.1 1 0 2 ∧ Mx1 = ku Mx 1 0 2 a1)) → kCT l (rg_m, g2) mX6_price [.inr (.inr (0, 0)), .inl a1] Mm (kqi (fun r2 Mm1 => r = r2 ∧ Inv (n + 1) Mx1 Mm1)) := by
    intro r Mx1 hr
    refine kct (by decide) (Nat.le_of_ble_eq_true rfl) (bX6_price_0 a1 Mm _ ?_)
    refine m_in _ 1 9 (by decide) (by decide) ⟨fun c => ?_, fun c => ?_⟩
    · obtain ⟨rfl, rfl⟩ := hr.2 c
      rintro z3 rfl M4 rfl
      refine ⟨?_, ?_⟩
      · obtain ⟨S, r, q, -⟩ := h.1
        exact q 0 2 (by decide) (by first | (show _ < 4; omega) | (show _ < 8; omega) | exact fln_s (by assumption) (by omega) (by omega) (by omega) | exact fln_r (by assumption) (by omega) (by omega))
      · exact h.now (fun c i j hc => ku_ne (by omega)) rfl (fun j _ _ => ku_ne (by rw [ql_23]; omega)) (fun c j hc => ku_ne (by omega)) rfl (h.1.mono.put rx_u0 (fun c d hc => ku_ne (by omega)) (f := 0) (j := 2) rfl (by decide) (by decide) (by decide) (by decide) (by decide) (by decide))
    · obtain ⟨rfl, rfl⟩ := hr.1 c
      exact ⟨rfl, h.mono⟩
  refine kct (by decide) (Nat.le_of_ble_eq_true rfl) (bX5_price_0 a1 Mx _ ?_)
  refine x_within _ _ _ ⟨fun c => ?_, fun c => ?_⟩
  · rintro z3 rfl M4 rfl
    exact hm _ _ ⟨fun q => absurd q c, fun _ => ⟨rfl, rfl⟩⟩
  · exact hm _ _ ⟨fun _ => ⟨rfl, rfl⟩, fun q => absurd c q⟩
theorem pair_seed (h : Inv n Mx Mm) (a1 : Int32) : kPair l g1 g2 mX5_seed mX6_seed [.inl a1] Mx Mm (Inv (n + 1)) := by
  refine kct (by decide) (Nat.le_of_ble_eq_true rfl) (bX5_seed_0 a1 Mx _ ⟨fun c => ?_, fun c => ?_⟩)
  · rintro z3 rfl M4 rfl
    refine kct (by decide) (Nat.le_of_ble_eq_true rfl) (bX6_seed_0 a1 Mm _ ⟨fun _ => ?_, fun q => absurd c q⟩)
    rintro z3 rfl M4 rfl
    refine ⟨?_, ?_⟩
    · obtain ⟨S, r, q, -⟩ := h.1
      exact q 0 3 (by decide) (by first | (show _ < 4; omega) | (show _ < 8; omega) | exact fln_s (by assumption) (by omega) (by omega) (by omega) | exact fln_r (by assumption) (by omega) (by omega))
    · exact h.now (fun c i j hc => ku_ne (by omega)) rfl (fun j _ _ => ku_ne (by rw [ql_20]; omega)) (fun c j hc => ku_ne (by omega)) rfl (h.1.mono.put rx_u0 (fun c d hc => ku_ne (by omega)) (f := 0) (j := 3) rfl (by decide) (by decide) (by decide) (by decide) (by decide) (by decide))
  · refine kct (by decide) (Nat.le_of_ble_eq_true rfl) (bX6_seed_0 a1 Mm _ ⟨fun q => absurd q c, fun _ => ⟨rfl, h.mono⟩⟩)
theorem pair_buys (h : Inv n Mx Mm) (a1 a2 : Int32) : kPair l g1 g2 mX5_buys mX6_buys [.inl a1, .inl a2] Mx Mm (Inv (n + 1)) := by
  have e1 := h.riders
  have e2 := h.stages
  refine kct (by decide) (Nat.le_of_ble_eq_true rfl) (bX5_buys_0 a1 a2 Mx _ (x_isRider _ ⟨fun c => ?_, fun c => x_within _ _ _ ⟨fun c2 => ?_, fun c2 => ?_⟩⟩))
  · refine bX5_buys_27 _ _ ?_
    refine kct (by decide) (Nat.le_of_ble_eq_true rfl) (bX6_buys_0 a1 a2 Mm _ (m_isRider _ ⟨fun _ => bX6_buys_29 _ _ ⟨rfl, h.mono⟩, fun q => absurd (by rw [e1] at c; exact c) q⟩))
  · obtain ⟨S, r, i, ok, hi, hr, rfl⟩ := h.isR c
    simp (disch := omega) only [qa_0, qa_1, qa_2, qa_3, qa_4, qa_5, qa_6, qa_7, qa_8, qa_9, qa_10, qa_12, qa_16, qa_20, qa_21, qa_22, qa_23, qa_24, qa_26, qa_27, qa_30, qa_31, qa_32, qa_35, qa_36, qa_40, qa_44, qa_48, qa_49, qa_70, qa_81, qa_90, qa_96, qa_168, qa_217, qa_434, qa_442, qa_446, qa_450, qa_454, qa_455, qa_456, qa_457, qa_458, qa_466, qa_474, qa_478, qb_0, qb_1, qb_2, qb_3, qb_4, qb_5, qb_6, qb_7, qb_8, qb_9, qb_10, qb_12, qb_16, qb_20, qb_21, qb_22, qb_23, qb_24, qb_26, qb_27, qb_30, qb_31, qb_32, qb_35, qb_36, qb_40, qb_44, qb_48, qb_49, qb_70, qb_81, qb_90, qb_96, qb_168, qb_217, qb_434, qb_442, qb_446, qb_450, qb_454, qb_455, qb_456, qb_457, qb_458, qb_466, qb_474, qb_478, qm_0, qm_1, qm_2, qm_3, qm_4, qm_5, qm_6, qm_7, qm_8, qm_9, qm_10, qm_12, qm_16, qm_20, qm_21, qm_22, qm_23, qm_24, qm_26, qm_27, qm_30, qm_31, qm_32, qm_35, qm_36, qm_40, qm_44, qm_48, qm_49, qm_70, qm_81, qm_90, qm_96, qm_168, qm_217, qm_434, qm_442, qm_446, qm_450, qm_454, qm_455, qm_456, qm_457, qm_458, qm_466, qm_474, qm_478, ql_0, ql_1, ql_2, ql_3, ql_4, ql_5, ql_6, ql_7, ql_8, ql_9, ql_10, ql_12, ql_16, ql_20, ql_21, ql_22, ql_23, ql_24, ql_26, ql_27, ql_30, ql_31, ql_32, ql_35, ql_36, ql_40, ql_44, ql_48, ql_49, ql_70, ql_81, ql_90, ql_96, ql_168, ql_217, ql_434, ql_442, ql_446, ql_450, ql_454, ql_455, ql_456, ql_457, ql_458, ql_466, ql_474, ql_478, nI_add, q_cl, q_in, true_and]
    rintro z3 rfl M4 rfl
    rw [e1] at c
    rw [e2] at c2
    refine kct (by decide) (Nat.le_of_ble_eq_true rfl) (bX6_buys_0 _ a2 Mm _ (m_isRider _ ⟨fun q => absurd q c, fun _ => m_in _ 0 (1 <<< (Mm.1 1 0 21 &&& 31) - 1) (by decide) rfl ⟨fun _ => ?_, fun q => absurd q c2⟩⟩))
    simp (disch := omega) only [qa_0, qa_1, qa_2, qa_3, qa_4, qa_5, qa_6, qa_7, qa_8, qa_9, qa_10, qa_12, qa_16, qa_20, qa_21, qa_22, qa_23, qa_24, qa_26, qa_27, qa_30, qa_31, qa_32, qa_35, qa_36, qa_40, qa_44, qa_48, qa_49, qa_70, qa_81, qa_90, qa_96, qa_168, qa_217, qa_434, qa_442, qa_446, qa_450, qa_454, qa_455, qa_456, qa_457, qa_458, qa_466, qa_474, qa_478, qb_0, qb_1, qb_2, qb_3, qb_4, qb_5, qb_6, qb_7, qb_8, qb_9, qb_10, qb_12, qb_16, qb_20, qb_21, qb_22, qb_23, qb_24, qb_26, qb_27, qb_30, qb_31, qb_32, qb_35, qb_36, qb_40, qb_44, qb_48, qb_49, qb_70, qb_81, qb_90, qb_96, qb_168, qb_217, qb_434, qb_442, qb_446, qb_450, qb_454, qb_455, qb_456, qb_457, qb_458, qb_466, qb_474, qb_478, qm_0, qm_1, qm_2, qm_3, qm_4, qm_5, qm_6, qm_7, qm_8, qm_9, qm_10, qm_12, qm_16, qm_20, qm_21, qm_22, qm_23, qm_24, qm_26, qm_27, qm_30, qm_31, qm_32, qm_35, qm_36, qm_40, qm_44, qm_48, qm_49, qm_70, qm_81, qm_90, qm_96, qm_168, qm_217, qm_434, qm_442, qm_446, qm_450, qm_454, qm_455, qm_456, qm_457, qm_458, qm_466, qm_474, qm_478, ql_0, ql_1, ql_2, ql_3, ql_4, ql_5, ql_6, ql_7, ql_8, ql_9, ql_10, ql_12, ql_16, ql_20, ql_21, ql_22, ql_23, ql_24, ql_26, ql_27, ql_30, ql_31, ql_32, ql_35, ql_36, ql_40, ql_44, ql_48, ql_49, ql_70, ql_81, ql_90, ql_96, ql_168, ql_217, ql_434, ql_442, ql_446, ql_450, ql_454, ql_455, ql_456, ql_457, ql_458, ql_466, ql_474, ql_478, nI_add, q_cl, q_in, true_and]
    rintro z3 rfl M4 rfl
    refine ⟨?_, ?_⟩
    · obtain ⟨S, r, q, -⟩ := h.1
      have := q 8 i (by decide) (by first | (show _ < 4; omega) | (show _ < 8; omega) | exact fln_s (by assumption) (by omega) (by omega) (by omega) | exact fln_r (by assumption) (by omega) (by omega))
      rw [wof_rmd (by decide) (by first | (show _ < 4; omega) | (show _ < 8; omega) | exact fln_s (by assumption) (by omega) (by omega) (by omega) | exact fln_r (by assumption) (by omega) (by omega))] at this
      rw [Nat.zero_add] at this
      exact this
    · exact h.now (fun c i j hc => ku_ne (by omega)) rfl (fun j _ _ => ku_ne (by omega)) (fun c j hc => ku_ne (by omega)) rfl (h.1.mono.put rx_u8 (fun c d hc => ku_ne (by omega)) (f := 8) (j := i) (by simp [wof]) (by decide) (by first | (show _ < 4; omega) | (show _ < 8; omega) | exact fln_s (by assumption) (by omega) (by omega) (by omega) | exact fln_r (by assumption) (by omega) (by omega)) (by decide) (by omega) (by decide) (by decide))
  · refine bX5_buys_27 _ _ ?_
    rw [e1] at c
    rw [e2] at c2
    refine kct (by decide) (Nat.le_of_ble_eq_true rfl) (bX6_buys_0 a1 a2 Mm _ (m_isRider _ ⟨fun q => absurd q c, fun _ => m_in _ 0 (1 <<< (Mm.1 1 0 21 &&& 31) - 1) (by decide) rfl ⟨fun q => absurd c2 q, fun _ => bX6_buys_29 _ _ ⟨rfl, h.mono⟩⟩⟩))
end KP1
