/-! ===== pairs: of, type, stage, rider ===== -/
section KP2
variable {l : Launch} {g1 g2 : va_G × (Nat → ClassId) × (Nat → Nat → Nat)} {Mx Mm : kM} {n : Nat}
theorem wth_rg {a : Int32} {lo hi : Nat} (hl : lo < 2147483648) (hh : hi < 2147483648) (h : ¬ wth a (nI lo) (nI hi) = 0) : ∃ m, lo ≤ m ∧ m ≤ hi ∧ a = nI m := by
  obtain ⟨h1, h2⟩ := wth_ne.mp h
  have h3 : ¬ a < 0 := by
    intro q
    apply h1
    rw [Int32.lt_iff_toInt_lt, nI_toInt hl]
    rw [Int32.lt_iff_toInt_lt, Int32.toInt_zero] at q
    omega
  obtain ⟨m, hm, rfl⟩ := nI_of h3
  rw [q_lt hm hl] at h1
  rw [q_lt hh hm] at h2
  exact ⟨m, by omega, by omega, rfl⟩
theorem rup_comm {R : Rc} {f j f' j' : Nat} {v v' : Int32} (h : ¬ (f = f' ∧ j = j')) : rup (rup R f j v) f' j' v' = rup (rup R f' j' v') f j v := by
  funext a b
  unfold rup
  by_cases q1 : a = f' ∧ b = j'
  · by_cases q2 : a = f ∧ b = j
    · exact absurd ⟨q2.1.symm.trans q1.1, q2.2.symm.trans q1.2⟩ h
    · rw [if_pos q1, if_neg q2, if_pos q1]
  · by_cases q2 : a = f ∧ b = j
    · rw [if_neg q1, if_pos q2, if_pos q2]
    · rw [if_neg q1, if_neg q2, if_neg q2, if_neg q1]
theorem und0 {Mx Mm : kM} {k h S r n x : Nat} (hx : x < 8) (h0 : Mx.1 2 k 0 = 0) (h1 : Mx.1 2 k 1 = nI x) (h2 : Mm.1 1 0 (h + 48) = 0) : und Mx k Mm h S r n := ⟨0, x, by omega, hx, h0, h1, h2, fun i hi => by omega⟩
theorem pair_of (h : Inv n Mx Mm) (a1 a2 : Int32) : kPair l g1 g2 mX5_of mX6_of [.inl a1, .inl a2] Mx Mm (Inv (n + 1)) := by
  have e2 := h.stages
  obtain ⟨S, r, q, ⟨b1, b2, b3, b4, b5⟩, -⟩ := h.1
  have ok : rok (rx Mx 0) S r := ⟨b1, b2, b3, b4, b5⟩
  refine kct (by decide) (Nat.le_of_ble_eq_true rfl) (bX5_of_0 a1 a2 Mx _ (x_within _ _ _ ⟨fun c => ?_, fun c => ?_⟩))
  · have c' := c
    rw [show Mx.1 1 0 0 = nI S from b1] at c
    obtain ⟨i, hi, rfl⟩ := wth_ix (by omega) c
    rw [e2] at c'
    have k1 : Mx.1 7 0 i = Mm.1 1 0 (24 + i) := by
      have := q 1 i (by decide) (by first | (show _ < 4; omega) | (show _ < 8; omega) | exact fln_s (by assumption) (by omega) (by omega) (by omega) | exact fln_r (by assumption) (by omega) (by omega))
      rw [wof_rmd (by decide) (by first | (show _ < 4; omega) | (show _ < 8; omega) | exact fln_s (by assumption) (by omega) (by omega) (by omega) | exact fln_r (by assumption) (by omega) (by omega)), Nat.zero_add] at this
      exact this
    have k2 : Mx.1 8 0 i = Mm.1 1 0 (32 + i) := by
      have := q 2 i (by decide) (by first | (show _ < 4; omega) | (show _ < 8; omega) | exact fln_s (by assumption) (by omega) (by omega) (by omega) | exact fln_r (by assumption) (by omega) (by omega))
      rw [wof_rmd (by decide) (by first | (show _ < 4; omega) | (show _ < 8; omega) | exact fln_s (by assumption) (by omega) (by omega) (by omega) | exact fln_r (by assumption) (by omega) (by omega)), Nat.zero_add] at this
      exact this
    have k3 : Mx.1 9 0 i = Mm.1 1 0 (0 + i) := by
      have := q 3 i (by decide) (by first | (show _ < 4; omega) | (show _ < 8; omega) | exact fln_s (by assumption) (by omega) (by omega) (by omega) | exact fln_r (by assumption) (by omega) (by omega))
      rw [wof_rmd (by decide) (by first | (show _ < 4; omega) | (show _ < 8; omega) | exact fln_s (by assumption) (by omega) (by omega) (by omega) | exact fln_r (by assumption) (by omega) (by omega))] at this
      exact this
    have hm : ∀ v, ((a2 = 0 → v = Mx.1 7 0 i) ∧ (a2 = 1 → v = Mx.1 8 0 i) ∧ (a2 = 2 → v = Mx.1 9 0 i) ∧ (¬ a2 = 0 → ¬ a2 = 1 → ¬ a2 = 2 → v = -1)) → kCT l (rg_m, g2) mX6_of [.inr (.inr (0, 0)), .inl (nI i), .inl a2] Mm (kqi (fun r2 Mm1 => v = r2 ∧ Inv (n + 1) Mx Mm1)) := by
      intro v hv
      refine kct (by decide) (Nat.le_of_ble_eq_true rfl) (bX6_of_0 _ a2 Mm _ (m_in _ 0 (Mm.1 1 0 21 - 1) (by decide) rfl ⟨fun _ => ?_, fun q => absurd q c'⟩))
      simp (disch := omega) only [qa_0, qa_1, qa_2, qa_3, qa_4, qa_5, qa_6, qa_7, qa_8, qa_9, qa_10, qa_12, qa_16, qa_20, qa_21, qa_22, qa_23, qa_24, qa_26, qa_27, qa_30, qa_31, qa_32, qa_35, qa_36, qa_40, qa_44, qa_48, qa_49, qa_70, qa_81, qa_90, qa_96, qa_168, qa_217, qa_434, qa_442, qa_446, qa_450, qa_454, qa_455, qa_456, qa_457, qa_458, qa_466, qa_474, qa_478, qb_0, qb_1, qb_2, qb_3, qb_4, qb_5, qb_6, qb_7, qb_8, qb_9, qb_10, qb_12, qb_16, qb_20, qb_21, qb_22, qb_23, qb_24, qb_26, qb_27, qb_30, qb_31, qb_32, qb_35, qb_36, qb_40, qb_44, qb_48, qb_49, qb_70, qb_81, qb_90, qb_96, qb_168, qb_217, qb_434, qb_442, qb_446, qb_450, qb_454, qb_455, qb_456, qb_457, qb_458, qb_466, qb_474, qb_478, qm_0, qm_1, qm_2, qm_3, qm_4, qm_5, qm_6, qm_7, qm_8, qm_9, qm_10, qm_12, qm_16, qm_20, qm_21, qm_22, qm_23, qm_24, qm_26, qm_27, qm_30, qm_31, qm_32, qm_35, qm_36, qm_40, qm_44, qm_48, qm_49, qm_70, qm_81, qm_90, qm_96, qm_168, qm_217, qm_434, qm_442, qm_446, qm_450, qm_454, qm_455, qm_456, qm_457, qm_458, qm_466, qm_474, qm_478, ql_0, ql_1, ql_2, ql_3, ql_4, ql_5, ql_6, ql_7, ql_8, ql_9, ql_10, ql_12, ql_16, ql_20, ql_21, ql_22, ql_23, ql_24, ql_26, ql_27, ql_30, ql_31, ql_32, ql_35, ql_36, ql_40, ql_44, ql_48, ql_49, ql_70, ql_81, ql_90, ql_96, ql_168, ql_217, ql_434, ql_442, ql_446, ql_450, ql_454, ql_455, ql_456, ql_457, ql_458, ql_466, ql_474, ql_478, nI_add, q_cl, q_in, true_and]
      refine ⟨fun c0 => ⟨fun c1 => ⟨fun c2 => ?_, fun c2 => ?_⟩, fun c1 => ?_⟩, fun c0 => ?_⟩
      · exact bX6_of_71 _ _ _ ⟨hv.2.2.2 c0 c1 c2, h.mono⟩
      · exact bX6_of_71 _ _ _ ⟨(hv.2.2.1 c2).trans k3, h.mono⟩
      · exact bX6_of_71 _ _ _ ⟨(hv.2.1 c1).trans k2, h.mono⟩
      · exact bX6_of_71 _ _ _ ⟨(hv.1 c0).trans k1, h.mono⟩
    simp (disch := omega) only [qa_0, qa_1, qa_2, qa_3, qa_4, qa_5, qa_6, qa_7, qa_8, qa_9, qa_10, qa_12, qa_16, qa_20, qa_21, qa_22, qa_23, qa_24, qa_26, qa_27, qa_30, qa_31, qa_32, qa_35, qa_36, qa_40, qa_44, qa_48, qa_49, qa_70, qa_81, qa_90, qa_96, qa_168, qa_217, qa_434, qa_442, qa_446, qa_450, qa_454, qa_455, qa_456, qa_457, qa_458, qa_466, qa_474, qa_478, qb_0, qb_1, qb_2, qb_3, qb_4, qb_5, qb_6, qb_7, qb_8, qb_9, qb_10, qb_12, qb_16, qb_20, qb_21, qb_22, qb_23, qb_24, qb_26, qb_27, qb_30, qb_31, qb_32, qb_35, qb_36, qb_40, qb_44, qb_48, qb_49, qb_70, qb_81, qb_90, qb_96, qb_168, qb_217, qb_434, qb_442, qb_446, qb_450, qb_454, qb_455, qb_456, qb_457, qb_458, qb_466, qb_474, qb_478, qm_0, qm_1, qm_2, qm_3, qm_4, qm_5, qm_6, qm_7, qm_8, qm_9, qm_10, qm_12, qm_16, qm_20, qm_21, qm_22, qm_23, qm_24, qm_26, qm_27, qm_30, qm_31, qm_32, qm_35, qm_36, qm_40, qm_44, qm_48, qm_49, qm_70, qm_81, qm_90, qm_96, qm_168, qm_217, qm_434, qm_442, qm_446, qm_450, qm_454, qm_455, qm_456, qm_457, qm_458, qm_466, qm_474, qm_478, ql_0, ql_1, ql_2, ql_3, ql_4, ql_5, ql_6, ql_7, ql_8, ql_9, ql_10, ql_12, ql_16, ql_20, ql_21, ql_22, ql_23, ql_24, ql_26, ql_27, ql_30, ql_31, ql_32, ql_35, ql_36, ql_40, ql_44, ql_48, ql_49, ql_70, ql_81, ql_90, ql_96, ql_168, ql_217, ql_434, ql_442, ql_446, ql_450, ql_454, ql_455, ql_456, ql_457, ql_458, ql_466, ql_474, ql_478, nI_add, q_cl, q_in, true_and]
    refine ⟨fun c0 => ?_, fun c0 => ?_, fun c0 => ?_, fun c0 c1 c2 => ?_⟩
    · subst c0; exact hm _ ⟨fun _ => rfl, fun z => absurd z (by decide), fun z => absurd z (by decide), fun z => absurd rfl z⟩
    · subst c0; exact hm _ ⟨fun z => absurd z (by decide), fun _ => rfl, fun z => absurd z (by decide), fun _ z => absurd rfl z⟩
    · subst c0; exact hm _ ⟨fun z => absurd z (by decide), fun z => absurd z (by decide), fun _ => rfl, fun _ _ z => absurd rfl z⟩
    · exact hm _ ⟨fun z => absurd z c0, fun z => absurd z c1, fun z => absurd z c2, fun _ _ _ => rfl⟩
  · rw [e2] at c
    refine kct (by decide) (Nat.le_of_ble_eq_true rfl) (bX6_of_0 _ a2 Mm _ (m_in _ 0 (Mm.1 1 0 21 - 1) (by decide) rfl ⟨fun q => absurd c q, fun _ => ⟨rfl, h.mono⟩⟩))
theorem pair_type (h : Inv n Mx Mm) (a1 : Int32) : kPair l g1 g2 mX5_type mX6_type [.inl a1] Mx Mm (Inv (n + 1)) := by
  obtain ⟨t, t1, t2, t3, t4⟩ := h.2.2.1
  refine kct (by decide) (Nat.le_of_ble_eq_true rfl) (bX5_type_0 a1 Mx _ (x_within _ _ _ ⟨fun c => ?_, fun c => ?_⟩))
  · obtain ⟨v, v1, v2, rfl⟩ := wth_rg (lo := 32) (hi := 126) (by decide) (by decide) c
    refine kct (by decide) (Nat.le_of_ble_eq_true rfl) (bX4_isFull_0 Mx _ ?_)
    rw [t2, show (90 : Int32) = nI 90 from rfl, q_lt (by omega) (by omega)]
    refine ⟨fun hf => ?_, fun hf => ?_⟩
    · refine bX4_isFull_14 _ _ _ ⟨Or.inl rfl, fun _ => ?_, fun z => absurd rfl z⟩
      refine kct (by decide) (Nat.le_of_ble_eq_true rfl) (bX4_append_0 (nI v) Mx _ ?_)
      rw [t2]
      simp (disch := omega) only [qa_0, qa_1, qa_2, qa_3, qa_4, qa_5, qa_6, qa_7, qa_8, qa_9, qa_10, qa_12, qa_16, qa_20, qa_21, qa_22, qa_23, qa_24, qa_26, qa_27, qa_30, qa_31, qa_32, qa_35, qa_36, qa_40, qa_44, qa_48, qa_49, qa_70, qa_81, qa_90, qa_96, qa_168, qa_217, qa_434, qa_442, qa_446, qa_450, qa_454, qa_455, qa_456, qa_457, qa_458, qa_466, qa_474, qa_478, qb_0, qb_1, qb_2, qb_3, qb_4, qb_5, qb_6, qb_7, qb_8, qb_9, qb_10, qb_12, qb_16, qb_20, qb_21, qb_22, qb_23, qb_24, qb_26, qb_27, qb_30, qb_31, qb_32, qb_35, qb_36, qb_40, qb_44, qb_48, qb_49, qb_70, qb_81, qb_90, qb_96, qb_168, qb_217, qb_434, qb_442, qb_446, qb_450, qb_454, qb_455, qb_456, qb_457, qb_458, qb_466, qb_474, qb_478, qm_0, qm_1, qm_2, qm_3, qm_4, qm_5, qm_6, qm_7, qm_8, qm_9, qm_10, qm_12, qm_16, qm_20, qm_21, qm_22, qm_23, qm_24, qm_26, qm_27, qm_30, qm_31, qm_32, qm_35, qm_36, qm_40, qm_44, qm_48, qm_49, qm_70, qm_81, qm_90, qm_96, qm_168, qm_217, qm_434, qm_442, qm_446, qm_450, qm_454, qm_455, qm_456, qm_457, qm_458, qm_466, qm_474, qm_478, ql_0, ql_1, ql_2, ql_3, ql_4, ql_5, ql_6, ql_7, ql_8, ql_9, ql_10, ql_12, ql_16, ql_20, ql_21, ql_22, ql_23, ql_24, ql_26, ql_27, ql_30, ql_31, ql_32, ql_35, ql_36, ql_40, ql_44, ql_48, ql_49, ql_70, ql_81, ql_90, ql_96, ql_168, ql_217, ql_434, ql_442, ql_446, ql_450, ql_454, ql_455, ql_456, ql_457, ql_458, ql_466, ql_474, ql_478, nI_add, q_cl, q_in, true_and]
      rintro M1 rfl M2 rfl
      rw [ku_eq, ku_ne (by omega), t2]
      refine bX5_type_36 _ _ _ ?_
      refine kct (by decide) (Nat.le_of_ble_eq_true rfl) (bX6_type_0 (nI v) Mm _ (m_in _ 32 126 (by decide) (by decide) ⟨fun _ => ?_, fun z => absurd z c⟩))
      rw [t3, show (90 : Int32) = nI 90 from rfl, q_eq (by omega) (by omega)]
      refine ⟨fun _ => ?_, fun z => by omega⟩
      simp (disch := omega) only [qa_0, qa_1, qa_2, qa_3, qa_4, qa_5, qa_6, qa_7, qa_8, qa_9, qa_10, qa_12, qa_16, qa_20, qa_21, qa_22, qa_23, qa_24, qa_26, qa_27, qa_30, qa_31, qa_32, qa_35, qa_36, qa_40, qa_44, qa_48, qa_49, qa_70, qa_81, qa_90, qa_96, qa_168, qa_217, qa_434, qa_442, qa_446, qa_450, qa_454, qa_455, qa_456, qa_457, qa_458, qa_466, qa_474, qa_478, qb_0, qb_1, qb_2, qb_3, qb_4, qb_5, qb_6, qb_7, qb_8, qb_9, qb_10, qb_12, qb_16, qb_20, qb_21, qb_22, qb_23, qb_24, qb_26, qb_27, qb_30, qb_31, qb_32, qb_35, qb_36, qb_40, qb_44, qb_48, qb_49, qb_70, qb_81, qb_90, qb_96, qb_168, qb_217, qb_434, qb_442, qb_446, qb_450, qb_454, qb_455, qb_456, qb_457, qb_458, qb_466, qb_474, qb_478, qm_0, qm_1, qm_2, qm_3, qm_4, qm_5, qm_6, qm_7, qm_8, qm_9, qm_10, qm_12, qm_16, qm_20, qm_21, qm_22, qm_23, qm_24, qm_26, qm_27, qm_30, qm_31, qm_32, qm_35, qm_36, qm_40, qm_44, qm_48, qm_49, qm_70, qm_81, qm_90, qm_96, qm_168, qm_217, qm_434, qm_442, qm_446, qm_450, qm_454, qm_455, qm_456, qm_457, qm_458, qm_466, qm_474, qm_478, ql_0, ql_1, ql_2, ql_3, ql_4, ql_5, ql_6, ql_7, ql_8, ql_9, ql_10, ql_12, ql_16, ql_20, ql_21, ql_22, ql_23, ql_24, ql_26, ql_27, ql_30, ql_31, ql_32, ql_35, ql_36, ql_40, ql_44, ql_48, ql_49, ql_70, ql_81, ql_90, ql_96, ql_168, ql_217, ql_434, ql_442, ql_446, ql_450, ql_454, ql_455, ql_456, ql_457, ql_458, ql_466, ql_474, ql_478, nI_add, q_cl, q_in, true_and]
      rintro M1 rfl M2 rfl
      rw [ku_eq, ku_ne (by omega), t3]
      simp (disch := omega) only [qa_0, qa_1, qa_2, qa_3, qa_4, qa_5, qa_6, qa_7, qa_8, qa_9, qa_10, qa_12, qa_16, qa_20, qa_21, qa_22, qa_23, qa_24, qa_26, qa_27, qa_30, qa_31, qa_32, qa_35, qa_36, qa_40, qa_44, qa_48, qa_49, qa_70, qa_81, qa_90, qa_96, qa_168, qa_217, qa_434, qa_442, qa_446, qa_450, qa_454, qa_455, qa_456, qa_457, qa_458, qa_466, qa_474, qa_478, qb_0, qb_1, qb_2, qb_3, qb_4, qb_5, qb_6, qb_7, qb_8, qb_9, qb_10, qb_12, qb_16, qb_20, qb_21, qb_22, qb_23, qb_24, qb_26, qb_27, qb_30, qb_31, qb_32, qb_35, qb_36, qb_40, qb_44, qb_48, qb_49, qb_70, qb_81, qb_90, qb_96, qb_168, qb_217, qb_434, qb_442, qb_446, qb_450, qb_454, qb_455, qb_456, qb_457, qb_458, qb_466, qb_474, qb_478, qm_0, qm_1, qm_2, qm_3, qm_4, qm_5, qm_6, qm_7, qm_8, qm_9, qm_10, qm_12, qm_16, qm_20, qm_21, qm_22, qm_23, qm_24, qm_26, qm_27, qm_30, qm_31, qm_32, qm_35, qm_36, qm_40, qm_44, qm_48, qm_49, qm_70, qm_81, qm_90, qm_96, qm_168, qm_217, qm_434, qm_442, qm_446, qm_450, qm_454, qm_455, qm_456, qm_457, qm_458, qm_466, qm_474, qm_478, ql_0, ql_1, ql_2, ql_3, ql_4, ql_5, ql_6, ql_7, ql_8, ql_9, ql_10, ql_12, ql_16, ql_20, ql_21, ql_22, ql_23, ql_24, ql_26, ql_27, ql_30, ql_31, ql_32, ql_35, ql_36, ql_40, ql_44, ql_48, ql_49, ql_70, ql_81, ql_90, ql_96, ql_168, ql_217, ql_434, ql_442, ql_446, ql_450, ql_454, ql_455, ql_456, ql_457, ql_458, ql_466, ql_474, ql_478, nI_add, q_cl, q_in, true_and]
      refine ⟨h.1.mono.cg (fun c j hc => by rw [ku_ne (by omega), ku_ne (by omega)]) (fun j _ _ => by rw [ku_ne (by omega), ku_ne (by omega)]), ?_, ?_, fun s hs => (h.2.2.2 s hs).cg (fun j => by rw [ku_ne (by omega), ku_ne (by omega)]) (fun j => rfl) (fun c hc => by rw [ku_ne (by omega), ku_ne (by omega)]) (fun j _ _ => rfl)⟩
      · unfold img
        rw [ku_ne (by omega), ku_ne (by omega), ku_ne (by omega), ku_ne (by omega)]
        exact h.2.1.mono.imp id (fun q => ⟨q.1, q.2.1, q.2.2.cg (fun c j hc => by rw [ku_ne (by omega), ku_ne (by omega)]) (fun j b1 b2 => by rw [ku_ne (by omega), ku_ne (by omega)])⟩)
      · refine ⟨t + 1, by omega, ku_eq, ku_eq, fun j hj => ?_⟩
        rw [ku_ne (by omega), ku_ne (c := 0) (by omega)]
        by_cases e : j = t
        · subst e
          rw [ku_eq, ku_eq]
          exact ⟨v, v1, v2, rfl, rfl⟩
        · rw [ku_ne (by omega), ku_ne (by omega)]
          exact t4 j (by omega)
    · refine bX4_isFull_14 _ _ _ ⟨Or.inr rfl, fun z => absurd z (by decide), fun _ => ?_⟩
      refine bX5_type_36 _ _ _ ?_
      refine kct (by decide) (Nat.le_of_ble_eq_true rfl) (bX6_type_0 (nI v) Mm _ (m_in _ 32 126 (by decide) (by decide) ⟨fun _ => ?_, fun z => absurd z c⟩))
      rw [t3, show (90 : Int32) = nI 90 from rfl, q_eq (by omega) (by omega)]
      exact ⟨fun z => by omega, fun _ => ⟨rfl, h.mono⟩⟩
  · refine kct (by decide) (Nat.le_of_ble_eq_true rfl) (bX6_type_0 a1 Mm _ (m_in _ 32 126 (by decide) (by decide) ⟨fun z => absurd c z, fun _ => ⟨rfl, h.mono⟩⟩))
theorem pair_stage (h : Inv n Mx Mm) (a1 a2 a3 : Int32) : kPair l g1 g2 mX5_stage mX6_stage [.inl a1, .inl a2, .inl a3] Mx Mm (Inv (n + 1)) := by
  have e2 := h.stages
  obtain ⟨S, r, q, ⟨b1, b2, b3, b4, b5⟩, bd, u, x, u1, u2, u3, u4, u5, u6⟩ := h.1
  have b1' : Mx.1 1 0 0 = nI S := b1
  have b1m : Mm.1 1 0 21 = nI S := by rw [← e2]; exact b1
  have hbad : (wth a1 1 9 = 0 ∨ wth a2 0 9 = 0 ∨ wth a3 0 4 = 0) → kCT l (rg_m, g2) mX6_stage [.inr (.inr (0, 0)), .inl a1, .inl a2, .inl a3] Mm (kqi (fun r2 Mm1 => -1 = r2 ∧ Inv (n + 1) Mx Mm1)) := by
    intro hb
    refine kct (by decide) (Nat.le_of_ble_eq_true rfl) (bX6_stage_0 a1 a2 a3 Mm _ (m_in _ 1 9 (by decide) (by decide) ⟨fun _ => bX6_stage_36 _ _ ⟨rfl, h.mono⟩, fun c1 => m_in _ 0 9 (by decide) (by decide) ⟨fun _ => bX6_stage_36 _ _ ⟨rfl, h.mono⟩, fun c2 => m_in _ 0 4 (by decide) (by decide) ⟨fun c3 => ?_, fun _ => bX6_stage_36 _ _ ⟨rfl, h.mono⟩⟩⟩⟩))
    exact absurd hb (by rintro (z | z | z); exact c1 z; exact c2 z; exact c3 z)
  refine kct (by decide) (Nat.le_of_ble_eq_true rfl) (bX5_stage_0 a1 a2 a3 Mx _ (x_within _ _ _ ⟨fun c => bX5_stage_29 _ _ (hbad (Or.inl c)), fun c1 => x_within _ _ _ ⟨fun c => bX5_stage_29 _ _ (hbad (Or.inr (Or.inl c))), fun c2 => x_within _ _ _ ⟨fun c3 => ?_, fun c => bX5_stage_29 _ _ (hbad (Or.inr (Or.inr c)))⟩⟩⟩))
  rw [b1', show (8 : Int32) = nI 8 from rfl, q_lt (by omega) (by omega)]
  refine ⟨fun hS => ?_, fun hS => ?_⟩
  · refine kct (by decide) (Nat.le_of_ble_eq_true rfl) (bX2_forget_0 0 Mx _ ?_)
    rintro M7 rfl
    refine kct (by decide) (Nat.le_of_ble_eq_true rfl) (bX3_addStage_0 0 a1 a2 a3 _ _ ?_)
    simp (disch := omega) only [ku_ne, ku_eq, b1', qa_0, qa_1, qa_2, qa_3, qa_4, qa_5, qa_6, qa_7, qa_8, qa_9, qa_10, qa_12, qa_16, qa_20, qa_21, qa_22, qa_23, qa_24, qa_26, qa_27, qa_30, qa_31, qa_32, qa_35, qa_36, qa_40, qa_44, qa_48, qa_49, qa_70, qa_81, qa_90, qa_96, qa_168, qa_217, qa_434, qa_442, qa_446, qa_450, qa_454, qa_455, qa_456, qa_457, qa_458, qa_466, qa_474, qa_478, qb_0, qb_1, qb_2, qb_3, qb_4, qb_5, qb_6, qb_7, qb_8, qb_9, qb_10, qb_12, qb_16, qb_20, qb_21, qb_22, qb_23, qb_24, qb_26, qb_27, qb_30, qb_31, qb_32, qb_35, qb_36, qb_40, qb_44, qb_48, qb_49, qb_70, qb_81, qb_90, qb_96, qb_168, qb_217, qb_434, qb_442, qb_446, qb_450, qb_454, qb_455, qb_456, qb_457, qb_458, qb_466, qb_474, qb_478, qm_0, qm_1, qm_2, qm_3, qm_4, qm_5, qm_6, qm_7, qm_8, qm_9, qm_10, qm_12, qm_16, qm_20, qm_21, qm_22, qm_23, qm_24, qm_26, qm_27, qm_30, qm_31, qm_32, qm_35, qm_36, qm_40, qm_44, qm_48, qm_49, qm_70, qm_81, qm_90, qm_96, qm_168, qm_217, qm_434, qm_442, qm_446, qm_450, qm_454, qm_455, qm_456, qm_457, qm_458, qm_466, qm_474, qm_478, ql_0, ql_1, ql_2, ql_3, ql_4, ql_5, ql_6, ql_7, ql_8, ql_9, ql_10, ql_12, ql_16, ql_20, ql_21, ql_22, ql_23, ql_24, ql_26, ql_27, ql_30, ql_31, ql_32, ql_35, ql_36, ql_40, ql_44, ql_48, ql_49, ql_70, ql_81, ql_90, ql_96, ql_168, ql_217, ql_434, ql_442, ql_446, ql_450, ql_454, ql_455, ql_456, ql_457, ql_458, ql_466, ql_474, ql_478, nI_add, q_cl, q_in, true_and]
    rintro M1 rfl
    simp (disch := omega) only [ku_ne, ku_eq, b1', qa_0, qa_1, qa_2, qa_3, qa_4, qa_5, qa_6, qa_7, qa_8, qa_9, qa_10, qa_12, qa_16, qa_20, qa_21, qa_22, qa_23, qa_24, qa_26, qa_27, qa_30, qa_31, qa_32, qa_35, qa_36, qa_40, qa_44, qa_48, qa_49, qa_70, qa_81, qa_90, qa_96, qa_168, qa_217, qa_434, qa_442, qa_446, qa_450, qa_454, qa_455, qa_456, qa_457, qa_458, qa_466, qa_474, qa_478, qb_0, qb_1, qb_2, qb_3, qb_4, qb_5, qb_6, qb_7, qb_8, qb_9, qb_10, qb_12, qb_16, qb_20, qb_21, qb_22, qb_23, qb_24, qb_26, qb_27, qb_30, qb_31, qb_32, qb_35, qb_36, qb_40, qb_44, qb_48, qb_49, qb_70, qb_81, qb_90, qb_96, qb_168, qb_217, qb_434, qb_442, qb_446, qb_450, qb_454, qb_455, qb_456, qb_457, qb_458, qb_466, qb_474, qb_478, qm_0, qm_1, qm_2, qm_3, qm_4, qm_5, qm_6, qm_7, qm_8, qm_9, qm_10, qm_12, qm_16, qm_20, qm_21, qm_22, qm_23, qm_24, qm_26, qm_27, qm_30, qm_31, qm_32, qm_35, qm_36, qm_40, qm_44, qm_48, qm_49, qm_70, qm_81, qm_90, qm_96, qm_168, qm_217, qm_434, qm_442, qm_446, qm_450, qm_454, qm_455, qm_456, qm_457, qm_458, qm_466, qm_474, qm_478, ql_0, ql_1, ql_2, ql_3, ql_4, ql_5, ql_6, ql_7, ql_8, ql_9, ql_10, ql_12, ql_16, ql_20, ql_21, ql_22, ql_23, ql_24, ql_26, ql_27, ql_30, ql_31, ql_32, ql_35, ql_36, ql_40, ql_44, ql_48, ql_49, ql_70, ql_81, ql_90, ql_96, ql_168, ql_217, ql_434, ql_442, ql_446, ql_450, ql_454, ql_455, ql_456, ql_457, ql_458, ql_466, ql_474, ql_478, nI_add, q_cl, q_in, true_and]
    rintro M2 rfl
    simp (disch := omega) only [ku_ne, ku_eq, b1', qa_0, qa_1, qa_2, qa_3, qa_4, qa_5, qa_6, qa_7, qa_8, qa_9, qa_10, qa_12, qa_16, qa_20, qa_21, qa_22, qa_23, qa_24, qa_26, qa_27, qa_30, qa_31, qa_32, qa_35, qa_36, qa_40, qa_44, qa_48, qa_49, qa_70, qa_81, qa_90, qa_96, qa_168, qa_217, qa_434, qa_442, qa_446, qa_450, qa_454, qa_455, qa_456, qa_457, qa_458, qa_466, qa_474, qa_478, qb_0, qb_1, qb_2, qb_3, qb_4, qb_5, qb_6, qb_7, qb_8, qb_9, qb_10, qb_12, qb_16, qb_20, qb_21, qb_22, qb_23, qb_24, qb_26, qb_27, qb_30, qb_31, qb_32, qb_35, qb_36, qb_40, qb_44, qb_48, qb_49, qb_70, qb_81, qb_90, qb_96, qb_168, qb_217, qb_434, qb_442, qb_446, qb_450, qb_454, qb_455, qb_456, qb_457, qb_458, qb_466, qb_474, qb_478, qm_0, qm_1, qm_2, qm_3, qm_4, qm_5, qm_6, qm_7, qm_8, qm_9, qm_10, qm_12, qm_16, qm_20, qm_21, qm_22, qm_23, qm_24, qm_26, qm_27, qm_30, qm_31, qm_32, qm_35, qm_36, qm_40, qm_44, qm_48, qm_49, qm_70, qm_81, qm_90, qm_96, qm_168, qm_217, qm_434, qm_442, qm_446, qm_450, qm_454, qm_455, qm_456, qm_457, qm_458, qm_466, qm_474, qm_478, ql_0, ql_1, ql_2, ql_3, ql_4, ql_5, ql_6, ql_7, ql_8, ql_9, ql_10, ql_12, ql_16, ql_20, ql_21, ql_22, ql_23, ql_24, ql_26, ql_27, ql_30, ql_31, ql_32, ql_35, ql_36, ql_40, ql_44, ql_48, ql_49, ql_70, ql_81, ql_90, ql_96, ql_168, ql_217, ql_434, ql_442, ql_446, ql_450, ql_454, ql_455, ql_456, ql_457, ql_458, ql_466, ql_474, ql_478, nI_add, q_cl, q_in, true_and]
    rintro M3 rfl
    simp (disch := omega) only [ku_ne, ku_eq, b1', qa_0, qa_1, qa_2, qa_3, qa_4, qa_5, qa_6, qa_7, qa_8, qa_9, qa_10, qa_12, qa_16, qa_20, qa_21, qa_22, qa_23, qa_24, qa_26, qa_27, qa_30, qa_31, qa_32, qa_35, qa_36, qa_40, qa_44, qa_48, qa_49, qa_70, qa_81, qa_90, qa_96, qa_168, qa_217, qa_434, qa_442, qa_446, qa_450, qa_454, qa_455, qa_456, qa_457, qa_458, qa_466, qa_474, qa_478, qb_0, qb_1, qb_2, qb_3, qb_4, qb_5, qb_6, qb_7, qb_8, qb_9, qb_10, qb_12, qb_16, qb_20, qb_21, qb_22, qb_23, qb_24, qb_26, qb_27, qb_30, qb_31, qb_32, qb_35, qb_36, qb_40, qb_44, qb_48, qb_49, qb_70, qb_81, qb_90, qb_96, qb_168, qb_217, qb_434, qb_442, qb_446, qb_450, qb_454, qb_455, qb_456, qb_457, qb_458, qb_466, qb_474, qb_478, qm_0, qm_1, qm_2, qm_3, qm_4, qm_5, qm_6, qm_7, qm_8, qm_9, qm_10, qm_12, qm_16, qm_20, qm_21, qm_22, qm_23, qm_24, qm_26, qm_27, qm_30, qm_31, qm_32, qm_35, qm_36, qm_40, qm_44, qm_48, qm_49, qm_70, qm_81, qm_90, qm_96, qm_168, qm_217, qm_434, qm_442, qm_446, qm_450, qm_454, qm_455, qm_456, qm_457, qm_458, qm_466, qm_474, qm_478, ql_0, ql_1, ql_2, ql_3, ql_4, ql_5, ql_6, ql_7, ql_8, ql_9, ql_10, ql_12, ql_16, ql_20, ql_21, ql_22, ql_23, ql_24, ql_26, ql_27, ql_30, ql_31, ql_32, ql_35, ql_36, ql_40, ql_44, ql_48, ql_49, ql_70, ql_81, ql_90, ql_96, ql_168, ql_217, ql_434, ql_442, ql_446, ql_450, ql_454, ql_455, ql_456, ql_457, ql_458, ql_466, ql_474, ql_478, nI_add, q_cl, q_in, true_and]
    rintro M4 rfl
    simp (disch := omega) only [ku_ne, ku_eq, b1', qa_0, qa_1, qa_2, qa_3, qa_4, qa_5, qa_6, qa_7, qa_8, qa_9, qa_10, qa_12, qa_16, qa_20, qa_21, qa_22, qa_23, qa_24, qa_26, qa_27, qa_30, qa_31, qa_32, qa_35, qa_36, qa_40, qa_44, qa_48, qa_49, qa_70, qa_81, qa_90, qa_96, qa_168, qa_217, qa_434, qa_442, qa_446, qa_450, qa_454, qa_455, qa_456, qa_457, qa_458, qa_466, qa_474, qa_478, qb_0, qb_1, qb_2, qb_3, qb_4, qb_5, qb_6, qb_7, qb_8, qb_9, qb_10, qb_12, qb_16, qb_20, qb_21, qb_22, qb_23, qb_24, qb_26, qb_27, qb_30, qb_31, qb_32, qb_35, qb_36, qb_40, qb_44, qb_48, qb_49, qb_70, qb_81, qb_90, qb_96, qb_168, qb_217, qb_434, qb_442, qb_446, qb_450, qb_454, qb_455, qb_456, qb_457, qb_458, qb_466, qb_474, qb_478, qm_0, qm_1, qm_2, qm_3, qm_4, qm_5, qm_6, qm_7, qm_8, qm_9, qm_10, qm_12, qm_16, qm_20, qm_21, qm_22, qm_23, qm_24, qm_26, qm_27, qm_30, qm_31, qm_32, qm_35, qm_36, qm_40, qm_44, qm_48, qm_49, qm_70, qm_81, qm_90, qm_96, qm_168, qm_217, qm_434, qm_442, qm_446, qm_450, qm_454, qm_455, qm_456, qm_457, qm_458, qm_466, qm_474, qm_478, ql_0, ql_1, ql_2, ql_3, ql_4, ql_5, ql_6, ql_7, ql_8, ql_9, ql_10, ql_12, ql_16, ql_20, ql_21, ql_22, ql_23, ql_24, ql_26, ql_27, ql_30, ql_31, ql_32, ql_35, ql_36, ql_40, ql_44, ql_48, ql_49, ql_70, ql_81, ql_90, ql_96, ql_168, ql_217, ql_434, ql_442, ql_446, ql_450, ql_454, ql_455, ql_456, ql_457, ql_458, ql_466, ql_474, ql_478, nI_add, q_cl, q_in, true_and]
    have er : nI (S + 1) - 1 = nI S := nI_pred S
    rw [er]
    refine kct (by decide) (Nat.le_of_ble_eq_true rfl) (bX6_stage_0 a1 a2 a3 Mm _ (m_in _ 1 9 (by decide) (by decide) ⟨fun z => absurd z c1, fun _ => m_in _ 0 9 (by decide) (by decide) ⟨fun z => absurd z c2, fun _ => m_in _ 0 4 (by decide) (by decide) ⟨fun _ => ?_, fun z => absurd z c3⟩⟩⟩))
    simp (disch := omega) only [qa_0, qa_1, qa_2, qa_3, qa_4, qa_5, qa_6, qa_7, qa_8, qa_9, qa_10, qa_12, qa_16, qa_20, qa_21, qa_22, qa_23, qa_24, qa_26, qa_27, qa_30, qa_31, qa_32, qa_35, qa_36, qa_40, qa_44, qa_48, qa_49, qa_70, qa_81, qa_90, qa_96, qa_168, qa_217, qa_434, qa_442, qa_446, qa_450, qa_454, qa_455, qa_456, qa_457, qa_458, qa_466, qa_474, qa_478, qb_0, qb_1, qb_2, qb_3, qb_4, qb_5, qb_6, qb_7, qb_8, qb_9, qb_10, qb_12, qb_16, qb_20, qb_21, qb_22, qb_23, qb_24, qb_26, qb_27, qb_30, qb_31, qb_32, qb_35, qb_36, qb_40, qb_44, qb_48, qb_49, qb_70, qb_81, qb_90, qb_96, qb_168, qb_217, qb_434, qb_442, qb_446, qb_450, qb_454, qb_455, qb_456, qb_457, qb_458, qb_466, qb_474, qb_478, qm_0, qm_1, qm_2, qm_3, qm_4, qm_5, qm_6, qm_7, qm_8, qm_9, qm_10, qm_12, qm_16, qm_20, qm_21, qm_22, qm_23, qm_24, qm_26, qm_27, qm_30, qm_31, qm_32, qm_35, qm_36, qm_40, qm_44, qm_48, qm_49, qm_70, qm_81, qm_90, qm_96, qm_168, qm_217, qm_434, qm_442, qm_446, qm_450, qm_454, qm_455, qm_456, qm_457, qm_458, qm_466, qm_474, qm_478, ql_0, ql_1, ql_2, ql_3, ql_4, ql_5, ql_6, ql_7, ql_8, ql_9, ql_10, ql_12, ql_16, ql_20, ql_21, ql_22, ql_23, ql_24, ql_26, ql_27, ql_30, ql_31, ql_32, ql_35, ql_36, ql_40, ql_44, ql_48, ql_49, ql_70, ql_81, ql_90, ql_96, ql_168, ql_217, ql_434, ql_442, ql_446, ql_450, ql_454, ql_455, ql_456, ql_457, ql_458, ql_466, ql_474, ql_478, nI_add, q_cl, q_in, true_and, b1m]
    refine ⟨fun _ => ?_, fun z => ?_⟩
    · rintro z7 rfl
      simp (disch := omega) only [qa_0, qa_1, qa_2, qa_3, qa_4, qa_5, qa_6, qa_7, qa_8, qa_9, qa_10, qa_12, qa_16, qa_20, qa_21, qa_22, qa_23, qa_24, qa_26, qa_27, qa_30, qa_31, qa_32, qa_35, qa_36, qa_40, qa_44, qa_48, qa_49, qa_70, qa_81, qa_90, qa_96, qa_168, qa_217, qa_434, qa_442, qa_446, qa_450, qa_454, qa_455, qa_456, qa_457, qa_458, qa_466, qa_474, qa_478, qb_0, qb_1, qb_2, qb_3, qb_4, qb_5, qb_6, qb_7, qb_8, qb_9, qb_10, qb_12, qb_16, qb_20, qb_21, qb_22, qb_23, qb_24, qb_26, qb_27, qb_30, qb_31, qb_32, qb_35, qb_36, qb_40, qb_44, qb_48, qb_49, qb_70, qb_81, qb_90, qb_96, qb_168, qb_217, qb_434, qb_442, qb_446, qb_450, qb_454, qb_455, qb_456, qb_457, qb_458, qb_466, qb_474, qb_478, qm_0, qm_1, qm_2, qm_3, qm_4, qm_5, qm_6, qm_7, qm_8, qm_9, qm_10, qm_12, qm_16, qm_20, qm_21, qm_22, qm_23, qm_24, qm_26, qm_27, qm_30, qm_31, qm_32, qm_35, qm_36, qm_40, qm_44, qm_48, qm_49, qm_70, qm_81, qm_90, qm_96, qm_168, qm_217, qm_434, qm_442, qm_446, qm_450, qm_454, qm_455, qm_456, qm_457, qm_458, qm_466, qm_474, qm_478, ql_0, ql_1, ql_2, ql_3, ql_4, ql_5, ql_6, ql_7, ql_8, ql_9, ql_10, ql_12, ql_16, ql_20, ql_21, ql_22, ql_23, ql_24, ql_26, ql_27, ql_30, ql_31, ql_32, ql_35, ql_36, ql_40, ql_44, ql_48, ql_49, ql_70, ql_81, ql_90, ql_96, ql_168, ql_217, ql_434, ql_442, ql_446, ql_450, ql_454, ql_455, ql_456, ql_457, ql_458, ql_466, ql_474, ql_478, nI_add, q_cl, q_in, true_and]
      rintro M8 rfl M9 rfl M10 rfl M11 rfl M12 rfl
      simp (disch := omega) only [ku_ne, ku_eq, b1m, qa_0, qa_1, qa_2, qa_3, qa_4, qa_5, qa_6, qa_7, qa_8, qa_9, qa_10, qa_12, qa_16, qa_20, qa_21, qa_22, qa_23, qa_24, qa_26, qa_27, qa_30, qa_31, qa_32, qa_35, qa_36, qa_40, qa_44, qa_48, qa_49, qa_70, qa_81, qa_90, qa_96, qa_168, qa_217, qa_434, qa_442, qa_446, qa_450, qa_454, qa_455, qa_456, qa_457, qa_458, qa_466, qa_474, qa_478, qb_0, qb_1, qb_2, qb_3, qb_4, qb_5, qb_6, qb_7, qb_8, qb_9, qb_10, qb_12, qb_16, qb_20, qb_21, qb_22, qb_23, qb_24, qb_26, qb_27, qb_30, qb_31, qb_32, qb_35, qb_36, qb_40, qb_44, qb_48, qb_49, qb_70, qb_81, qb_90, qb_96, qb_168, qb_217, qb_434, qb_442, qb_446, qb_450, qb_454, qb_455, qb_456, qb_457, qb_458, qb_466, qb_474, qb_478, qm_0, qm_1, qm_2, qm_3, qm_4, qm_5, qm_6, qm_7, qm_8, qm_9, qm_10, qm_12, qm_16, qm_20, qm_21, qm_22, qm_23, qm_24, qm_26, qm_27, qm_30, qm_31, qm_32, qm_35, qm_36, qm_40, qm_44, qm_48, qm_49, qm_70, qm_81, qm_90, qm_96, qm_168, qm_217, qm_434, qm_442, qm_446, qm_450, qm_454, qm_455, qm_456, qm_457, qm_458, qm_466, qm_474, qm_478, ql_0, ql_1, ql_2, ql_3, ql_4, ql_5, ql_6, ql_7, ql_8, ql_9, ql_10, ql_12, ql_16, ql_20, ql_21, ql_22, ql_23, ql_24, ql_26, ql_27, ql_30, ql_31, ql_32, ql_35, ql_36, ql_40, ql_44, ql_48, ql_49, ql_70, ql_81, ql_90, ql_96, ql_168, ql_217, ql_434, ql_442, ql_446, ql_450, ql_454, ql_455, ql_456, ql_457, ql_458, ql_466, ql_474, ql_478, nI_add, q_cl, q_in, true_and]
      refine h.now (fun c i j hc => by simp (disch := omega) only [ku_ne]) rfl (fun j _ _ => by simp (disch := omega) only [ku_ne]) (fun c j hc => by simp (disch := omega) only [ku_ne]) rfl ?_
      obtain ⟨m, m1, m2, em⟩ := wth_rg (lo := 1) (hi := 9) (by decide) (by decide) c1
      refine ⟨S + 1, r, ?_, ?_, ?_, ?_⟩
      · rw [rx_u0, rx_u3, rx_u2, rx_u1, rx_o (by omega)]
        refine req.symm ((rmd_o (by omega)).trans ?_)
        refine (rmd_u (f := 0) (j := 0) rfl (by decide) (by decide)).trans (req.upS ?_ ?_ (by omega) (fun f f1 f3 => ?_))
        rotate_left
        · show (ku _ _ _ _ _).1 1 0 (0 + 21) = nI S
          simp (disch := omega) only [ku_ne]
          exact b1m
        · rcases (show f = 1 ∨ f = 2 ∨ f = 3 by omega) with rfl | rfl | rfl
          · show (ku _ _ _ _ _).1 1 0 (0 + 24 + S) = _
            rw [rup_ne (by omega), rup_ne (by omega), rup_eq, ku_ne (by omega), ku_ne (by omega), show 0 + 24 + S = 24 + S by omega, ku_eq]
          · show (ku _ _ _ _ _).1 1 0 (0 + 32 + S) = _
            rw [rup_ne (by omega), rup_eq, ku_ne (by omega), show 0 + 32 + S = 32 + S by omega, ku_eq]
          · show (ku _ _ _ _ _).1 1 0 (0 + 0 + S) = _
            rw [rup_eq, show 0 + 0 + S = 0 + S by omega, ku_eq]
        refine (rmd_u (f := 3) (j := S) (by simp [wof]) (by decide) (by first | (show _ < 4; omega) | (show _ < 8; omega) | exact fln_s (by assumption) (by omega) (by omega) (by omega) | exact fln_r (by assumption) (by omega) (by omega))).trans (req.up ?_ _ _ _)
        refine (rmd_u (f := 2) (j := S) (by simp [wof]) (by decide) (by first | (show _ < 4; omega) | (show _ < 8; omega) | exact fln_s (by assumption) (by omega) (by omega) (by omega) | exact fln_r (by assumption) (by omega) (by omega))).trans (req.up ?_ _ _ _)
        refine (rmd_u (f := 1) (j := S) (by simp [wof]) (by decide) (by first | (show _ < 4; omega) | (show _ < 8; omega) | exact fln_s (by assumption) (by omega) (by omega) (by omega) | exact fln_r (by assumption) (by omega) (by omega))).trans (req.up ?_ _ _ _)
        exact q.symm
      · rw [rx_u0, rx_u3, rx_u2, rx_u1, rx_o (by omega)]
        refine ⟨rup_eq, by omega, ?_, b4, fun a ha => ?_⟩
        · simp (disch := omega) only [rup_ne]
          exact b3
        · simp (disch := omega) only [rup_ne]
          obtain ⟨b, hb1, hb2⟩ := b5 a ha
          exact ⟨b, by omega, hb2⟩
      · rw [rx_u0, rx_u3, rx_u2, rx_u1, rx_o (by omega)]
        refine ⟨fun j hj => ?_, fun a ha => ?_⟩
        · by_cases e : j = S
          · subst e
            simp (disch := omega) only [rup_ne, rup_eq]
            exact ⟨m, m1, m2, em⟩
          · simp (disch := omega) only [rup_ne]
            exact bd.1 j (by omega)
        · simp (disch := omega) only [rup_ne]
          exact bd.mono.2 a ha
      · refine und0 u2 ?_ ?_ ?_
        · simp (disch := omega) only [ku_ne, ku_eq]
        · simp (disch := omega) only [ku_ne, ku_eq]
          exact u4
        · exact ku_eq
    · rw [show (8 : Int32) = nI 8 from rfl, q_eq (by omega) (by omega)] at z
      omega
  · have hS8 : S = 8 := by omega
    refine kct (by decide) (Nat.le_of_ble_eq_true rfl) (bX6_stage_0 a1 a2 a3 Mm _ (m_in _ 1 9 (by decide) (by decide) ⟨fun z => absurd z c1, fun _ => m_in _ 0 9 (by decide) (by decide) ⟨fun z => absurd z c2, fun _ => m_in _ 0 4 (by decide) (by decide) ⟨fun _ => ⟨fun z => absurd (b1m.trans (by rw [hS8]; rfl)) z, fun _ => ⟨rfl, h.mono⟩⟩, fun z => absurd z c3⟩⟩⟩))
theorem pair_rider (h : Inv n Mx Mm) (a1 a2 a3 : Int32) : kPair l g1 g2 mX5_rider mX6_rider [.inl a1, .inl a2, .inl a3] Mx Mm (Inv (n + 1)) := by
  have e2 := h.riders
  obtain ⟨S, r, q, ⟨b1, b2, b3, b4, b5⟩, bd, u, x, u1, u2, u3, u4, u5, u6⟩ := h.1
  have b3' : Mx.1 1 0 1 = nI r := b3
  have b3m : Mm.1 1 0 22 = nI r := by rw [← e2]; exact b3
  have hbad : (wth a1 0 4 = 0 ∨ wth a2 0 999 = 0 ∨ wth a3 0 99 = 0) → kCT l (rg_m, g2) mX6_rider [.inr (.inr (0, 0)), .inl a1, .inl a2, .inl a3] Mm (kqi (fun r2 Mm1 => -1 = r2 ∧ Inv (n + 1) Mx Mm1)) := by
    intro hb
    refine kct (by decide) (Nat.le_of_ble_eq_true rfl) (bX6_rider_0 a1 a2 a3 Mm _ (m_in _ 0 4 (by decide) (by decide) ⟨fun _ => bX6_rider_36 _ _ ⟨rfl, h.mono⟩, fun c1 => m_in _ 0 999 (by decide) (by decide) ⟨fun _ => bX6_rider_36 _ _ ⟨rfl, h.mono⟩, fun c2 => m_in _ 0 99 (by decide) (by decide) ⟨fun c3 => ?_, fun _ => bX6_rider_36 _ _ ⟨rfl, h.mono⟩⟩⟩⟩))
    exact absurd hb (by rintro (z | z | z); exact c1 z; exact c2 z; exact c3 z)
  refine kct (by decide) (Nat.le_of_ble_eq_true rfl) (bX5_rider_0 a1 a2 a3 Mx _ (x_within _ _ _ ⟨fun c => bX5_rider_30 _ _ (hbad (Or.inl c)), fun c1 => x_within _ _ _ ⟨fun c => bX5_rider_30 _ _ (hbad (Or.inr (Or.inl c))), fun c2 => x_within _ _ _ ⟨fun c3 => ?_, fun c => bX5_rider_30 _ _ (hbad (Or.inr (Or.inr c)))⟩⟩⟩))
  rw [b3', show (4 : Int32) = nI 4 from rfl, q_lt (by omega) (by omega)]
  refine ⟨fun hS => ?_, fun hS => ?_⟩
  · refine kct (by decide) (Nat.le_of_ble_eq_true rfl) (bX2_forget_0 0 Mx _ ?_)
    rintro M7 rfl
    refine kct (by decide) (Nat.le_of_ble_eq_true rfl) (bX3_addRider_0 0 a1 a2 a3 _ _ ?_)
    simp (disch := omega) only [ku_ne, ku_eq, b3', qa_0, qa_1, qa_2, qa_3, qa_4, qa_5, qa_6, qa_7, qa_8, qa_9, qa_10, qa_12, qa_16, qa_20, qa_21, qa_22, qa_23, qa_24, qa_26, qa_27, qa_30, qa_31, qa_32, qa_35, qa_36, qa_40, qa_44, qa_48, qa_49, qa_70, qa_81, qa_90, qa_96, qa_168, qa_217, qa_434, qa_442, qa_446, qa_450, qa_454, qa_455, qa_456, qa_457, qa_458, qa_466, qa_474, qa_478, qb_0, qb_1, qb_2, qb_3, qb_4, qb_5, qb_6, qb_7, qb_8, qb_9, qb_10, qb_12, qb_16, qb_20, qb_21, qb_22, qb_23, qb_24, qb_26, qb_27, qb_30, qb_31, qb_32, qb_35, qb_36, qb_40, qb_44, qb_48, qb_49, qb_70, qb_81, qb_90, qb_96, qb_168, qb_217, qb_434, qb_442, qb_446, qb_450, qb_454, qb_455, qb_456, qb_457, qb_458, qb_466, qb_474, qb_478, qm_0, qm_1, qm_2, qm_3, qm_4, qm_5, qm_6, qm_7, qm_8, qm_9, qm_10, qm_12, qm_16, qm_20, qm_21, qm_22, qm_23, qm_24, qm_26, qm_27, qm_30, qm_31, qm_32, qm_35, qm_36, qm_40, qm_44, qm_48, qm_49, qm_70, qm_81, qm_90, qm_96, qm_168, qm_217, qm_434, qm_442, qm_446, qm_450, qm_454, qm_455, qm_456, qm_457, qm_458, qm_466, qm_474, qm_478, ql_0, ql_1, ql_2, ql_3, ql_4, ql_5, ql_6, ql_7, ql_8, ql_9, ql_10, ql_12, ql_16, ql_20, ql_21, ql_22, ql_23, ql_24, ql_26, ql_27, ql_30, ql_31, ql_32, ql_35, ql_36, ql_40, ql_44, ql_48, ql_49, ql_70, ql_81, ql_90, ql_96, ql_168, ql_217, ql_434, ql_442, ql_446, ql_450, ql_454, ql_455, ql_456, ql_457, ql_458, ql_466, ql_474, ql_478, nI_add, q_cl, q_in, true_and]
    rintro M1 rfl
    simp (disch := omega) only [ku_ne, ku_eq, b3', qa_0, qa_1, qa_2, qa_3, qa_4, qa_5, qa_6, qa_7, qa_8, qa_9, qa_10, qa_12, qa_16, qa_20, qa_21, qa_22, qa_23, qa_24, qa_26, qa_27, qa_30, qa_31, qa_32, qa_35, qa_36, qa_40, qa_44, qa_48, qa_49, qa_70, qa_81, qa_90, qa_96, qa_168, qa_217, qa_434, qa_442, qa_446, qa_450, qa_454, qa_455, qa_456, qa_457, qa_458, qa_466, qa_474, qa_478, qb_0, qb_1, qb_2, qb_3, qb_4, qb_5, qb_6, qb_7, qb_8, qb_9, qb_10, qb_12, qb_16, qb_20, qb_21, qb_22, qb_23, qb_24, qb_26, qb_27, qb_30, qb_31, qb_32, qb_35, qb_36, qb_40, qb_44, qb_48, qb_49, qb_70, qb_81, qb_90, qb_96, qb_168, qb_217, qb_434, qb_442, qb_446, qb_450, qb_454, qb_455, qb_456, qb_457, qb_458, qb_466, qb_474, qb_478, qm_0, qm_1, qm_2, qm_3, qm_4, qm_5, qm_6, qm_7, qm_8, qm_9, qm_10, qm_12, qm_16, qm_20, qm_21, qm_22, qm_23, qm_24, qm_26, qm_27, qm_30, qm_31, qm_32, qm_35, qm_36, qm_40, qm_44, qm_48, qm_49, qm_70, qm_81, qm_90, qm_96, qm_168, qm_217, qm_434, qm_442, qm_446, qm_450, qm_454, qm_455, qm_456, qm_457, qm_458, qm_466, qm_474, qm_478, ql_0, ql_1, ql_2, ql_3, ql_4, ql_5, ql_6, ql_7, ql_8, ql_9, ql_10, ql_12, ql_16, ql_20, ql_21, ql_22, ql_23, ql_24, ql_26, ql_27, ql_30, ql_31, ql_32, ql_35, ql_36, ql_40, ql_44, ql_48, ql_49, ql_70, ql_81, ql_90, ql_96, ql_168, ql_217, ql_434, ql_442, ql_446, ql_450, ql_454, ql_455, ql_456, ql_457, ql_458, ql_466, ql_474, ql_478, nI_add, q_cl, q_in, true_and]
    rintro M2 rfl
    simp (disch := omega) only [ku_ne, ku_eq, b3', qa_0, qa_1, qa_2, qa_3, qa_4, qa_5, qa_6, qa_7, qa_8, qa_9, qa_10, qa_12, qa_16, qa_20, qa_21, qa_22, qa_23, qa_24, qa_26, qa_27, qa_30, qa_31, qa_32, qa_35, qa_36, qa_40, qa_44, qa_48, qa_49, qa_70, qa_81, qa_90, qa_96, qa_168, qa_217, qa_434, qa_442, qa_446, qa_450, qa_454, qa_455, qa_456, qa_457, qa_458, qa_466, qa_474, qa_478, qb_0, qb_1, qb_2, qb_3, qb_4, qb_5, qb_6, qb_7, qb_8, qb_9, qb_10, qb_12, qb_16, qb_20, qb_21, qb_22, qb_23, qb_24, qb_26, qb_27, qb_30, qb_31, qb_32, qb_35, qb_36, qb_40, qb_44, qb_48, qb_49, qb_70, qb_81, qb_90, qb_96, qb_168, qb_217, qb_434, qb_442, qb_446, qb_450, qb_454, qb_455, qb_456, qb_457, qb_458, qb_466, qb_474, qb_478, qm_0, qm_1, qm_2, qm_3, qm_4, qm_5, qm_6, qm_7, qm_8, qm_9, qm_10, qm_12, qm_16, qm_20, qm_21, qm_22, qm_23, qm_24, qm_26, qm_27, qm_30, qm_31, qm_32, qm_35, qm_36, qm_40, qm_44, qm_48, qm_49, qm_70, qm_81, qm_90, qm_96, qm_168, qm_217, qm_434, qm_442, qm_446, qm_450, qm_454, qm_455, qm_456, qm_457, qm_458, qm_466, qm_474, qm_478, ql_0, ql_1, ql_2, ql_3, ql_4, ql_5, ql_6, ql_7, ql_8, ql_9, ql_10, ql_12, ql_16, ql_20, ql_21, ql_22, ql_23, ql_24, ql_26, ql_27, ql_30, ql_31, ql_32, ql_35, ql_36, ql_40, ql_44, ql_48, ql_49, ql_70, ql_81, ql_90, ql_96, ql_168, ql_217, ql_434, ql_442, ql_446, ql_450, ql_454, ql_455, ql_456, ql_457, ql_458, ql_466, ql_474, ql_478, nI_add, q_cl, q_in, true_and]
    rintro M3 rfl
    simp (disch := omega) only [ku_ne, ku_eq, b3', qa_0, qa_1, qa_2, qa_3, qa_4, qa_5, qa_6, qa_7, qa_8, qa_9, qa_10, qa_12, qa_16, qa_20, qa_21, qa_22, qa_23, qa_24, qa_26, qa_27, qa_30, qa_31, qa_32, qa_35, qa_36, qa_40, qa_44, qa_48, qa_49, qa_70, qa_81, qa_90, qa_96, qa_168, qa_217, qa_434, qa_442, qa_446, qa_450, qa_454, qa_455, qa_456, qa_457, qa_458, qa_466, qa_474, qa_478, qb_0, qb_1, qb_2, qb_3, qb_4, qb_5, qb_6, qb_7, qb_8, qb_9, qb_10, qb_12, qb_16, qb_20, qb_21, qb_22, qb_23, qb_24, qb_26, qb_27, qb_30, qb_31, qb_32, qb_35, qb_36, qb_40, qb_44, qb_48, qb_49, qb_70, qb_81, qb_90, qb_96, qb_168, qb_217, qb_434, qb_442, qb_446, qb_450, qb_454, qb_455, qb_456, qb_457, qb_458, qb_466, qb_474, qb_478, qm_0, qm_1, qm_2, qm_3, qm_4, qm_5, qm_6, qm_7, qm_8, qm_9, qm_10, qm_12, qm_16, qm_20, qm_21, qm_22, qm_23, qm_24, qm_26, qm_27, qm_30, qm_31, qm_32, qm_35, qm_36, qm_40, qm_44, qm_48, qm_49, qm_70, qm_81, qm_90, qm_96, qm_168, qm_217, qm_434, qm_442, qm_446, qm_450, qm_454, qm_455, qm_456, qm_457, qm_458, qm_466, qm_474, qm_478, ql_0, ql_1, ql_2, ql_3, ql_4, ql_5, ql_6, ql_7, ql_8, ql_9, ql_10, ql_12, ql_16, ql_20, ql_21, ql_22, ql_23, ql_24, ql_26, ql_27, ql_30, ql_31, ql_32, ql_35, ql_36, ql_40, ql_44, ql_48, ql_49, ql_70, ql_81, ql_90, ql_96, ql_168, ql_217, ql_434, ql_442, ql_446, ql_450, ql_454, ql_455, ql_456, ql_457, ql_458, ql_466, ql_474, ql_478, nI_add, q_cl, q_in, true_and]
    rintro M4 rfl
    simp (disch := omega) only [ku_ne, ku_eq, b3', qa_0, qa_1, qa_2, qa_3, qa_4, qa_5, qa_6, qa_7, qa_8, qa_9, qa_10, qa_12, qa_16, qa_20, qa_21, qa_22, qa_23, qa_24, qa_26, qa_27, qa_30, qa_31, qa_32, qa_35, qa_36, qa_40, qa_44, qa_48, qa_49, qa_70, qa_81, qa_90, qa_96, qa_168, qa_217, qa_434, qa_442, qa_446, qa_450, qa_454, qa_455, qa_456, qa_457, qa_458, qa_466, qa_474, qa_478, qb_0, qb_1, qb_2, qb_3, qb_4, qb_5, qb_6, qb_7, qb_8, qb_9, qb_10, qb_12, qb_16, qb_20, qb_21, qb_22, qb_23, qb_24, qb_26, qb_27, qb_30, qb_31, qb_32, qb_35, qb_36, qb_40, qb_44, qb_48, qb_49, qb_70, qb_81, qb_90, qb_96, qb_168, qb_217, qb_434, qb_442, qb_446, qb_450, qb_454, qb_455, qb_456, qb_457, qb_458, qb_466, qb_474, qb_478, qm_0, qm_1, qm_2, qm_3, qm_4, qm_5, qm_6, qm_7, qm_8, qm_9, qm_10, qm_12, qm_16, qm_20, qm_21, qm_22, qm_23, qm_24, qm_26, qm_27, qm_30, qm_31, qm_32, qm_35, qm_36, qm_40, qm_44, qm_48, qm_49, qm_70, qm_81, qm_90, qm_96, qm_168, qm_217, qm_434, qm_442, qm_446, qm_450, qm_454, qm_455, qm_456, qm_457, qm_458, qm_466, qm_474, qm_478, ql_0, ql_1, ql_2, ql_3, ql_4, ql_5, ql_6, ql_7, ql_8, ql_9, ql_10, ql_12, ql_16, ql_20, ql_21, ql_22, ql_23, ql_24, ql_26, ql_27, ql_30, ql_31, ql_32, ql_35, ql_36, ql_40, ql_44, ql_48, ql_49, ql_70, ql_81, ql_90, ql_96, ql_168, ql_217, ql_434, ql_442, ql_446, ql_450, ql_454, ql_455, ql_456, ql_457, ql_458, ql_466, ql_474, ql_478, nI_add, q_cl, q_in, true_and]
    rintro M5 rfl
    simp (disch := omega) only [ku_ne, ku_eq, b3', qa_0, qa_1, qa_2, qa_3, qa_4, qa_5, qa_6, qa_7, qa_8, qa_9, qa_10, qa_12, qa_16, qa_20, qa_21, qa_22, qa_23, qa_24, qa_26, qa_27, qa_30, qa_31, qa_32, qa_35, qa_36, qa_40, qa_44, qa_48, qa_49, qa_70, qa_81, qa_90, qa_96, qa_168, qa_217, qa_434, qa_442, qa_446, qa_450, qa_454, qa_455, qa_456, qa_457, qa_458, qa_466, qa_474, qa_478, qb_0, qb_1, qb_2, qb_3, qb_4, qb_5, qb_6, qb_7, qb_8, qb_9, qb_10, qb_12, qb_16, qb_20, qb_21, qb_22, qb_23, qb_24, qb_26, qb_27, qb_30, qb_31, qb_32, qb_35, qb_36, qb_40, qb_44, qb_48, qb_49, qb_70, qb_81, qb_90, qb_96, qb_168, qb_217, qb_434, qb_442, qb_446, qb_450, qb_454, qb_455, qb_456, qb_457, qb_458, qb_466, qb_474, qb_478, qm_0, qm_1, qm_2, qm_3, qm_4, qm_5, qm_6, qm_7, qm_8, qm_9, qm_10, qm_12, qm_16, qm_20, qm_21, qm_22, qm_23, qm_24, qm_26, qm_27, qm_30, qm_31, qm_32, qm_35, qm_36, qm_40, qm_44, qm_48, qm_49, qm_70, qm_81, qm_90, qm_96, qm_168, qm_217, qm_434, qm_442, qm_446, qm_450, qm_454, qm_455, qm_456, qm_457, qm_458, qm_466, qm_474, qm_478, ql_0, ql_1, ql_2, ql_3, ql_4, ql_5, ql_6, ql_7, ql_8, ql_9, ql_10, ql_12, ql_16, ql_20, ql_21, ql_22, ql_23, ql_24, ql_26, ql_27, ql_30, ql_31, ql_32, ql_35, ql_36, ql_40, ql_44, ql_48, ql_49, ql_70, ql_81, ql_90, ql_96, ql_168, ql_217, ql_434, ql_442, ql_446, ql_450, ql_454, ql_455, ql_456, ql_457, ql_458, ql_466, ql_474, ql_478, nI_add, q_cl, q_in, true_and]
    rintro M6 rfl
    simp (disch := omega) only [ku_ne, ku_eq, b3', qa_0, qa_1, qa_2, qa_3, qa_4, qa_5, qa_6, qa_7, qa_8, qa_9, qa_10, qa_12, qa_16, qa_20, qa_21, qa_22, qa_23, qa_24, qa_26, qa_27, qa_30, qa_31, qa_32, qa_35, qa_36, qa_40, qa_44, qa_48, qa_49, qa_70, qa_81, qa_90, qa_96, qa_168, qa_217, qa_434, qa_442, qa_446, qa_450, qa_454, qa_455, qa_456, qa_457, qa_458, qa_466, qa_474, qa_478, qb_0, qb_1, qb_2, qb_3, qb_4, qb_5, qb_6, qb_7, qb_8, qb_9, qb_10, qb_12, qb_16, qb_20, qb_21, qb_22, qb_23, qb_24, qb_26, qb_27, qb_30, qb_31, qb_32, qb_35, qb_36, qb_40, qb_44, qb_48, qb_49, qb_70, qb_81, qb_90, qb_96, qb_168, qb_217, qb_434, qb_442, qb_446, qb_450, qb_454, qb_455, qb_456, qb_457, qb_458, qb_466, qb_474, qb_478, qm_0, qm_1, qm_2, qm_3, qm_4, qm_5, qm_6, qm_7, qm_8, qm_9, qm_10, qm_12, qm_16, qm_20, qm_21, qm_22, qm_23, qm_24, qm_26, qm_27, qm_30, qm_31, qm_32, qm_35, qm_36, qm_40, qm_44, qm_48, qm_49, qm_70, qm_81, qm_90, qm_96, qm_168, qm_217, qm_434, qm_442, qm_446, qm_450, qm_454, qm_455, qm_456, qm_457, qm_458, qm_466, qm_474, qm_478, ql_0, ql_1, ql_2, ql_3, ql_4, ql_5, ql_6, ql_7, ql_8, ql_9, ql_10, ql_12, ql_16, ql_20, ql_21, ql_22, ql_23, ql_24, ql_26, ql_27, ql_30, ql_31, ql_32, ql_35, ql_36, ql_40, ql_44, ql_48, ql_49, ql_70, ql_81, ql_90, ql_96, ql_168, ql_217, ql_434, ql_442, ql_446, ql_450, ql_454, ql_455, ql_456, ql_457, ql_458, ql_466, ql_474, ql_478, nI_add, q_cl, q_in, true_and]
    have er : nI (r + 1) - 1 = nI r := nI_pred r
    rw [er]
    refine kct (by decide) (Nat.le_of_ble_eq_true rfl) (bX6_rider_0 a1 a2 a3 Mm _ (m_in _ 0 4 (by decide) (by decide) ⟨fun z => absurd z c1, fun _ => m_in _ 0 999 (by decide) (by decide) ⟨fun z => absurd z c2, fun _ => m_in _ 0 99 (by decide) (by decide) ⟨fun _ => ?_, fun z => absurd z c3⟩⟩⟩))
    simp (disch := omega) only [qa_0, qa_1, qa_2, qa_3, qa_4, qa_5, qa_6, qa_7, qa_8, qa_9, qa_10, qa_12, qa_16, qa_20, qa_21, qa_22, qa_23, qa_24, qa_26, qa_27, qa_30, qa_31, qa_32, qa_35, qa_36, qa_40, qa_44, qa_48, qa_49, qa_70, qa_81, qa_90, qa_96, qa_168, qa_217, qa_434, qa_442, qa_446, qa_450, qa_454, qa_455, qa_456, qa_457, qa_458, qa_466, qa_474, qa_478, qb_0, qb_1, qb_2, qb_3, qb_4, qb_5, qb_6, qb_7, qb_8, qb_9, qb_10, qb_12, qb_16, qb_20, qb_21, qb_22, qb_23, qb_24, qb_26, qb_27, qb_30, qb_31, qb_32, qb_35, qb_36, qb_40, qb_44, qb_48, qb_49, qb_70, qb_81, qb_90, qb_96, qb_168, qb_217, qb_434, qb_442, qb_446, qb_450, qb_454, qb_455, qb_456, qb_457, qb_458, qb_466, qb_474, qb_478, qm_0, qm_1, qm_2, qm_3, qm_4, qm_5, qm_6, qm_7, qm_8, qm_9, qm_10, qm_12, qm_16, qm_20, qm_21, qm_22, qm_23, qm_24, qm_26, qm_27, qm_30, qm_31, qm_32, qm_35, qm_36, qm_40, qm_44, qm_48, qm_49, qm_70, qm_81, qm_90, qm_96, qm_168, qm_217, qm_434, qm_442, qm_446, qm_450, qm_454, qm_455, qm_456, qm_457, qm_458, qm_466, qm_474, qm_478, ql_0, ql_1, ql_2, ql_3, ql_4, ql_5, ql_6, ql_7, ql_8, ql_9, ql_10, ql_12, ql_16, ql_20, ql_21, ql_22, ql_23, ql_24, ql_26, ql_27, ql_30, ql_31, ql_32, ql_35, ql_36, ql_40, ql_44, ql_48, ql_49, ql_70, ql_81, ql_90, ql_96, ql_168, ql_217, ql_434, ql_442, ql_446, ql_450, ql_454, ql_455, ql_456, ql_457, ql_458, ql_466, ql_474, ql_478, nI_add, q_cl, q_in, true_and, b3m]
    refine ⟨fun _ => ?_, fun z => ?_⟩
    · rintro z7 rfl
      simp (disch := omega) only [qa_0, qa_1, qa_2, qa_3, qa_4, qa_5, qa_6, qa_7, qa_8, qa_9, qa_10, qa_12, qa_16, qa_20, qa_21, qa_22, qa_23, qa_24, qa_26, qa_27, qa_30, qa_31, qa_32, qa_35, qa_36, qa_40, qa_44, qa_48, qa_49, qa_70, qa_81, qa_90, qa_96, qa_168, qa_217, qa_434, qa_442, qa_446, qa_450, qa_454, qa_455, qa_456, qa_457, qa_458, qa_466, qa_474, qa_478, qb_0, qb_1, qb_2, qb_3, qb_4, qb_5, qb_6, qb_7, qb_8, qb_9, qb_10, qb_12, qb_16, qb_20, qb_21, qb_22, qb_23, qb_24, qb_26, qb_27, qb_30, qb_31, qb_32, qb_35, qb_36, qb_40, qb_44, qb_48, qb_49, qb_70, qb_81, qb_90, qb_96, qb_168, qb_217, qb_434, qb_442, qb_446, qb_450, qb_454, qb_455, qb_456, qb_457, qb_458, qb_466, qb_474, qb_478, qm_0, qm_1, qm_2, qm_3, qm_4, qm_5, qm_6, qm_7, qm_8, qm_9, qm_10, qm_12, qm_16, qm_20, qm_21, qm_22, qm_23, qm_24, qm_26, qm_27, qm_30, qm_31, qm_32, qm_35, qm_36, qm_40, qm_44, qm_48, qm_49, qm_70, qm_81, qm_90, qm_96, qm_168, qm_217, qm_434, qm_442, qm_446, qm_450, qm_454, qm_455, qm_456, qm_457, qm_458, qm_466, qm_474, qm_478, ql_0, ql_1, ql_2, ql_3, ql_4, ql_5, ql_6, ql_7, ql_8, ql_9, ql_10, ql_12, ql_16, ql_20, ql_21, ql_22, ql_23, ql_24, ql_26, ql_27, ql_30, ql_31, ql_32, ql_35, ql_36, ql_40, ql_44, ql_48, ql_49, ql_70, ql_81, ql_90, ql_96, ql_168, ql_217, ql_434, ql_442, ql_446, ql_450, ql_454, ql_455, ql_456, ql_457, ql_458, ql_466, ql_474, ql_478, nI_add, q_cl, q_in, true_and]
      rintro M8 rfl M9 rfl M10 rfl M11 rfl M12 rfl M13 rfl M14 rfl
      simp (disch := omega) only [ku_ne, ku_eq, b3m, qa_0, qa_1, qa_2, qa_3, qa_4, qa_5, qa_6, qa_7, qa_8, qa_9, qa_10, qa_12, qa_16, qa_20, qa_21, qa_22, qa_23, qa_24, qa_26, qa_27, qa_30, qa_31, qa_32, qa_35, qa_36, qa_40, qa_44, qa_48, qa_49, qa_70, qa_81, qa_90, qa_96, qa_168, qa_217, qa_434, qa_442, qa_446, qa_450, qa_454, qa_455, qa_456, qa_457, qa_458, qa_466, qa_474, qa_478, qb_0, qb_1, qb_2, qb_3, qb_4, qb_5, qb_6, qb_7, qb_8, qb_9, qb_10, qb_12, qb_16, qb_20, qb_21, qb_22, qb_23, qb_24, qb_26, qb_27, qb_30, qb_31, qb_32, qb_35, qb_36, qb_40, qb_44, qb_48, qb_49, qb_70, qb_81, qb_90, qb_96, qb_168, qb_217, qb_434, qb_442, qb_446, qb_450, qb_454, qb_455, qb_456, qb_457, qb_458, qb_466, qb_474, qb_478, qm_0, qm_1, qm_2, qm_3, qm_4, qm_5, qm_6, qm_7, qm_8, qm_9, qm_10, qm_12, qm_16, qm_20, qm_21, qm_22, qm_23, qm_24, qm_26, qm_27, qm_30, qm_31, qm_32, qm_35, qm_36, qm_40, qm_44, qm_48, qm_49, qm_70, qm_81, qm_90, qm_96, qm_168, qm_217, qm_434, qm_442, qm_446, qm_450, qm_454, qm_455, qm_456, qm_457, qm_458, qm_466, qm_474, qm_478, ql_0, ql_1, ql_2, ql_3, ql_4, ql_5, ql_6, ql_7, ql_8, ql_9, ql_10, ql_12, ql_16, ql_20, ql_21, ql_22, ql_23, ql_24, ql_26, ql_27, ql_30, ql_31, ql_32, ql_35, ql_36, ql_40, ql_44, ql_48, ql_49, ql_70, ql_81, ql_90, ql_96, ql_168, ql_217, ql_434, ql_442, ql_446, ql_450, ql_454, ql_455, ql_456, ql_457, ql_458, ql_466, ql_474, ql_478, nI_add, q_cl, q_in, true_and]
      refine h.now (fun c i j hc => by simp (disch := omega) only [ku_ne]) rfl (fun j _ _ => by simp (disch := omega) only [ku_ne]) (fun c j hc => by simp (disch := omega) only [ku_ne]) rfl ?_
      obtain ⟨m, m1, m2, em⟩ := wth_rg (lo := 0) (hi := 999) (by decide) (by decide) c2
      refine ⟨S, r + 1, ?_, ?_, ?_, ?_⟩
      · rw [rx_u0, rx_u8, rx_u7, rx_u6, rx_u5, rx_u4, rx_o (by omega)]
        refine req.symm ((rmd_o (by omega)).trans ?_)
        refine (rmd_u (f := 0) (j := 1) rfl (by decide) (by decide)).trans (req.upR ?_ ?_ (by omega) (fun f f1 f3 => ?_))
        rotate_left
        · show (ku _ _ _ _ _).1 1 0 (0 + 22) = nI r
          simp (disch := omega) only [ku_ne]
          exact b3m
        · rcases (show f = 4 ∨ f = 5 ∨ f = 6 ∨ f = 7 ∨ f = 8 by omega) with rfl | rfl | rfl | rfl | rfl
          · show (ku _ _ _ _ _).1 1 0 (0 + 40 + r) = _
            rw [show 0 + 40 + r = 40 + r by omega]
            simp (disch := omega) only [ku_ne, ku_eq, rup_ne, rup_eq]
          · show (ku _ _ _ _ _).1 1 0 (0 + 8 + r) = _
            rw [show 0 + 8 + r = 8 + r by omega]
            simp (disch := omega) only [ku_ne, ku_eq, rup_ne, rup_eq]
          · show (ku _ _ _ _ _).1 1 0 (0 + 12 + r) = _
            rw [show 0 + 12 + r = 12 + r by omega]
            simp (disch := omega) only [ku_ne, ku_eq, rup_ne, rup_eq]
          · show (ku _ _ _ _ _).1 1 0 (0 + 16 + r) = _
            rw [show 0 + 16 + r = 16 + r by omega]
            simp (disch := omega) only [ku_ne, ku_eq, rup_ne, rup_eq]
          · show (ku _ _ _ _ _).1 1 0 (0 + 44 + r) = _
            rw [show 0 + 44 + r = 44 + r by omega]
            simp (disch := omega) only [ku_ne, ku_eq, rup_ne, rup_eq]
        refine (rmd_u (f := 8) (j := r) (by simp [wof]) (by decide) (by first | (show _ < 4; omega) | (show _ < 8; omega) | exact fln_s (by assumption) (by omega) (by omega) (by omega) | exact fln_r (by assumption) (by omega) (by omega))).trans (req.up ?_ _ _ _)
        refine (rmd_u (f := 5) (j := r) (by simp [wof]) (by decide) (by first | (show _ < 4; omega) | (show _ < 8; omega) | exact fln_s (by assumption) (by omega) (by omega) (by omega) | exact fln_r (by assumption) (by omega) (by omega))).trans ?_
        rw [rup_comm (f := 5) (f' := 6) (by omega), rup_comm (f := 5) (f' := 7) (by omega)]
        refine req.up ?_ _ _ _
        refine (rmd_u (f := 7) (j := r) (by simp [wof]) (by decide) (by first | (show _ < 4; omega) | (show _ < 8; omega) | exact fln_s (by assumption) (by omega) (by omega) (by omega) | exact fln_r (by assumption) (by omega) (by omega))).trans (req.up ?_ _ _ _)
        refine (rmd_u (f := 6) (j := r) (by simp [wof]) (by decide) (by first | (show _ < 4; omega) | (show _ < 8; omega) | exact fln_s (by assumption) (by omega) (by omega) (by omega) | exact fln_r (by assumption) (by omega) (by omega))).trans (req.up ?_ _ _ _)
        refine (rmd_u (f := 4) (j := r) (by simp [wof]) (by decide) (by first | (show _ < 4; omega) | (show _ < 8; omega) | exact fln_s (by assumption) (by omega) (by omega) (by omega) | exact fln_r (by assumption) (by omega) (by omega))).trans (req.up ?_ _ _ _)
        exact q.symm
      · rw [rx_u0, rx_u8, rx_u7, rx_u6, rx_u5, rx_u4, rx_o (by omega)]
        refine ⟨?_, b2, rup_eq, by omega, fun a ha => ?_⟩
        · simp (disch := omega) only [rup_ne]
          exact b1
        · by_cases e : a = r
          · subst e
            simp (disch := omega) only [rup_ne, rup_eq]
            exact ⟨0, by omega, rfl⟩
          · simp (disch := omega) only [rup_ne]
            exact b5 a (by omega)
      · rw [rx_u0, rx_u8, rx_u7, rx_u6, rx_u5, rx_u4, rx_o (by omega)]
        refine ⟨fun j hj => ?_, fun a ha => ?_⟩
        · simp (disch := omega) only [rup_ne]
          exact bd.1 j hj
        · by_cases e : a = r
          · subst e
            simp (disch := omega) only [rup_ne, rup_eq]
            exact ⟨m, B_999 m2, em⟩
          · simp (disch := omega) only [rup_ne]
            exact bd.mono.2 a (by omega)
      · refine und0 u2 ?_ ?_ ?_
        · simp (disch := omega) only [ku_ne, ku_eq]
        · simp (disch := omega) only [ku_ne, ku_eq]
          exact u4
        · exact ku_eq
    · rw [show (4 : Int32) = nI 4 from rfl, q_eq (by omega) (by omega)] at z
      omega
  · have hS8 : r = 4 := by omega
    refine kct (by decide) (Nat.le_of_ble_eq_true rfl) (bX6_rider_0 a1 a2 a3 Mm _ (m_in _ 0 4 (by decide) (by decide) ⟨fun z => absurd z c1, fun _ => m_in _ 0 999 (by decide) (by decide) ⟨fun z => absurd z c2, fun _ => m_in _ 0 99 (by decide) (by decide) ⟨fun _ => ⟨fun z => absurd (b3m.trans (by rw [hS8]; rfl)) z, fun _ => ⟨rfl, h.mono⟩⟩, fun z => absurd z c3⟩⟩⟩))
end KP2
