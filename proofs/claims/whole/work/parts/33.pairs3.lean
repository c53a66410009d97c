/-! ===== pairs: wheel, give, undo ===== -/
section KP3
variable {l : Launch} {g1 g2 : va_G × (Nat → ClassId) × (Nat → Nat → Nat)} {Mx Mm : kM} {n : Nat}
/-- mark and minds, one behind the other: as a pair -/
theorem pair_mark {Q : kM → kM → Prop} (hr : rel Mx 0 Mm 0 n) (h : ∀ Mx' Mm', (∀ c i j, ¬ (i = 0 ∧ (c = 2 ∨ c = 15)) → Mx'.1 c i j = Mx.1 c i j) → Mx'.2 = Mx.2 → (∀ c i j, ¬ (c = 1 ∧ i = 0 ∧ 48 ≤ j ∧ j < 217) → Mm'.1 c i j = Mm.1 c i j) → Mm'.2 = Mm.2 → rel Mx' 0 Mm' 0 n → Q Mx' Mm') :
    (∀ Qx : kM → Prop, (∀ Mx', (kCT l (rg_m, g2) mX6_minds [.inr (.inr (0, 0))] Mm (kqv (fun Mm' => Q Mx' Mm')) ∧ (∀ c i j, ¬ (i = 0 ∧ (c = 2 ∨ c = 15)) → Mx'.1 c i j = Mx.1 c i j) ∧ Mx'.2 = Mx.2) → Qx Mx') → kCT l (rg_x, g1) mX2_mark [.inr (.inr (2, 0)), .inr (.inr (1, 0))] Mx (kqv Qx)) := by
  intro Qx hQ
  obtain ⟨S, r, q, ok, bd, v, y, v1, v2, v3, v4, v5, v6⟩ := id hr
  refine x_mark y v v2 v1 v4 v3 (fun Mx' a1 a2 a3 a4 a5 a6 => hQ Mx' ⟨?_, a1, a2⟩)
  refine m_minds v v1 v5 (fun Mm' b1 b2 b3 b4 => ?_)
  exact h Mx' Mm' a1 a2 b1 b2 (rel.mark hr v3 v4 v1 v2 a1 a3 a4 a5 a6 b1 b3 b4)
theorem rel.bh {Mx Mm : kM} {n S r i : Nat} (ok : rok (rx Mx 0) S r) (q : req (rx Mx 0) (rmd Mm 0)) (hi : i < r) : (rx Mx 0 5 i < rx Mx 0 0 0 ↔ ¬ rmd Mm 0 5 i = rmd Mm 0 0 0) := by
  have ok0 := ok
  obtain ⟨b1, b2, b3, b4, b5⟩ := ok
  obtain ⟨b, hb, eb⟩ := b5 i hi
  rw [← q 5 i (by decide) (by first | (show _ < 4; omega) | (show _ < 8; omega) | exact fln_s (by assumption) (by omega) (by omega) (by omega) | exact fln_r (by assumption) (by omega) (by omega)), ← q 0 0 (by decide) (by first | (show _ < 4; omega) | (show _ < 8; omega) | exact fln_s (by assumption) (by omega) (by omega) (by omega) | exact fln_r (by assumption) (by omega) (by omega)), b1, eb, q_lt (by omega) (by omega), q_eq (by omega) (by omega)]
  omega
theorem pair_wheel (h : Inv n Mx Mm) (a1 : Int32) : kPair l g1 g2 mX5_wheel mX6_wheel [.inl a1] Mx Mm (Inv (n + 1)) := by
  have e1 := h.riders
  refine kct (by decide) (Nat.le_of_ble_eq_true rfl) (bX5_wheel_0 a1 Mx _ (x_isRider _ ⟨fun c => ?_, fun c => ?_⟩))
  · obtain ⟨S, r, i, ok, hi, hr, rfl⟩ := h.isR c
    obtain ⟨S', r', q, ok', bd, ud⟩ := h.1
    have er : r' = r := (q_eq (by have := ok'.2.2.2.1; omega) (by omega)).mp (ok'.2.2.1.symm.trans ok.2.2.1)
    subst er
    rw [e1] at c
    refine x_isThere 0 i (by omega) ?_
    by_cases ht : rx Mx 0 5 i < rx Mx 0 0 0
    · rw [if_pos ht]
      refine ⟨fun _ => ?_, fun z => absurd rfl z⟩
      refine pair_mark (g2 := g2) (n := n) (Q := fun Mx' Mm' => Inv (n + 1) (ku Mx' 12 0 i (Mx'.1 12 0 i + 30)) (ku Mm' 1 0 (12 + i) (Mm'.1 1 0 (12 + i) + 30)) ∧ Mx'.1 12 0 i = Mm'.1 1 0 (12 + i)) h.1 (fun Mx' Mm' a1 a2 b1 b2 hr2 => ?_) _ (fun Mx' hx => ?_)
      · have hrel := hr2
        obtain ⟨S2, r2, q2, ok2, bd2, ud2⟩ := hr2
        have er2 : r2 = r' := by
          have z : Mx'.1 1 0 1 = Mx.1 1 0 1 := a1 1 0 1 (by omega)
          exact (q_eq (by have := ok2.2.2.2.1; omega) (by omega)).mp (ok2.2.2.1.symm.trans (z.trans ok.2.2.1))
        subst er2
        have e6 : Mx'.1 12 0 i = Mm'.1 1 0 (12 + i) := by
          have := q2 6 i (by decide) (by first | (show _ < 4; omega) | (show _ < 8; omega) | exact fln_s (by assumption) (by omega) (by omega) (by omega) | exact fln_r (by assumption) (by omega) (by omega))
          rw [wof_rmd (by decide) (by first | (show _ < 4; omega) | (show _ < 8; omega) | exact fln_s (by assumption) (by omega) (by omega) (by omega) | exact fln_r (by assumption) (by omega) (by omega)), Nat.zero_add] at this
          exact this
        refine ⟨?_, e6⟩
        refine h.now (fun c i j hc => by rw [ku_ne (by omega), a1 c i j (by omega)]) a2 (fun j _ _ => by rw [ku_ne (by omega), b1 1 0 j (by omega)]) (fun c j hc => by rw [ku_ne (by omega), b1 c 0 j (by omega)]) b2 ?_
        obtain ⟨t, t1, t2⟩ := bd2.2 i hi
        have t2' : Mx'.1 12 0 i = nI t := t2
        refine ⟨S2, r2, ?_, ?_, ?_, ?_⟩
        · rw [rx_u6, e6]
          exact (q2.up _ _ _).trans (rmd_u (by simp [wof]) (by decide) (by first | (show _ < 4; omega) | (show _ < 8; omega) | exact fln_s (by assumption) (by omega) (by omega) (by omega) | exact fln_r (by assumption) (by omega) (by omega))).symm
        · rw [rx_u6]
          exact ok2.up (by omega) (by omega)
        · rw [rx_u6]
          refine ⟨fun j hj => ?_, fun a ha => ?_⟩
          · rw [rup_ne (by omega)]
            exact bd2.1 j hj
          · by_cases e : a = i
            · subst e
              rw [rup_eq, t2']
              exact ⟨t + 30, by unfold B at *; omega, nI_add t 30⟩
            · rw [rup_ne (by omega)]
              exact bd2.mono.2 a ha
        · exact ud2.mono.cg (fun c j hc => ku_ne (by omega)) (fun j b1 b2 => ku_ne (by omega))
      · simp (disch := omega) only [qa_0, qa_1, qa_2, qa_3, qa_4, qa_5, qa_6, qa_7, qa_8, qa_9, qa_10, qa_12, qa_16, qa_20, qa_21, qa_22, qa_23, qa_24, qa_26, qa_27, qa_30, qa_31, qa_32, qa_35, qa_36, qa_40, qa_44, qa_48, qa_49, qa_70, qa_81, qa_90, qa_96, qa_168, qa_217, qa_434, qa_442, qa_446, qa_450, qa_454, qa_455, qa_456, qa_457, qa_458, qa_466, qa_474, qa_478, qb_0, qb_1, qb_2, qb_3, qb_4, qb_5, qb_6, qb_7, qb_8, qb_9, qb_10, qb_12, qb_16, qb_20, qb_21, qb_22, qb_23, qb_24, qb_26, qb_27, qb_30, qb_31, qb_32, qb_35, qb_36, qb_40, qb_44, qb_48, qb_49, qb_70, qb_81, qb_90, qb_96, qb_168, qb_217, qb_434, qb_442, qb_446, qb_450, qb_454, qb_455, qb_456, qb_457, qb_458, qb_466, qb_474, qb_478, qm_0, qm_1, qm_2, qm_3, qm_4, qm_5, qm_6, qm_7, qm_8, qm_9, qm_10, qm_12, qm_16, qm_20, qm_21, qm_22, qm_23, qm_24, qm_26, qm_27, qm_30, qm_31, qm_32, qm_35, qm_36, qm_40, qm_44, qm_48, qm_49, qm_70, qm_81, qm_90, qm_96, qm_168, qm_217, qm_434, qm_442, qm_446, qm_450, qm_454, qm_455, qm_456, qm_457, qm_458, qm_466, qm_474, qm_478, ql_0, ql_1, ql_2, ql_3, ql_4, ql_5, ql_6, ql_7, ql_8, ql_9, ql_10, ql_12, ql_16, ql_20, ql_21, ql_22, ql_23, ql_24, ql_26, ql_27, ql_30, ql_31, ql_32, ql_35, ql_36, ql_40, ql_44, ql_48, ql_49, ql_70, ql_81, ql_90, ql_96, ql_168, ql_217, ql_434, ql_442, ql_446, ql_450, ql_454, ql_455, ql_456, ql_457, ql_458, ql_466, ql_474, ql_478, nI_add, q_cl, q_in, true_and]
        rintro M6 rfl
        rw [ku_eq]
        refine kct (by decide) (Nat.le_of_ble_eq_true rfl) (bX6_wheel_0 (nI i) Mm _ (m_isRider _ ⟨fun _ => m_isThere 0 i (by omega) (by omega) ?_, fun z => absurd z c⟩))
        rw [if_neg ((rel.bh (n := n) ok' q hi).mp ht)]
        refine ⟨fun _ => kCT.mono hx.1 (fun v Mm' hv => ?_), fun z => absurd rfl z⟩
        obtain ⟨rfl, hv⟩ := hv
        refine ⟨rfl, ?_⟩
        simp (disch := omega) only [qa_0, qa_1, qa_2, qa_3, qa_4, qa_5, qa_6, qa_7, qa_8, qa_9, qa_10, qa_12, qa_16, qa_20, qa_21, qa_22, qa_23, qa_24, qa_26, qa_27, qa_30, qa_31, qa_32, qa_35, qa_36, qa_40, qa_44, qa_48, qa_49, qa_70, qa_81, qa_90, qa_96, qa_168, qa_217, qa_434, qa_442, qa_446, qa_450, qa_454, qa_455, qa_456, qa_457, qa_458, qa_466, qa_474, qa_478, qb_0, qb_1, qb_2, qb_3, qb_4, qb_5, qb_6, qb_7, qb_8, qb_9, qb_10, qb_12, qb_16, qb_20, qb_21, qb_22, qb_23, qb_24, qb_26, qb_27, qb_30, qb_31, qb_32, qb_35, qb_36, qb_40, qb_44, qb_48, qb_49, qb_70, qb_81, qb_90, qb_96, qb_168, qb_217, qb_434, qb_442, qb_446, qb_450, qb_454, qb_455, qb_456, qb_457, qb_458, qb_466, qb_474, qb_478, qm_0, qm_1, qm_2, qm_3, qm_4, qm_5, qm_6, qm_7, qm_8, qm_9, qm_10, qm_12, qm_16, qm_20, qm_21, qm_22, qm_23, qm_24, qm_26, qm_27, qm_30, qm_31, qm_32, qm_35, qm_36, qm_40, qm_44, qm_48, qm_49, qm_70, qm_81, qm_90, qm_96, qm_168, qm_217, qm_434, qm_442, qm_446, qm_450, qm_454, qm_455, qm_456, qm_457, qm_458, qm_466, qm_474, qm_478, ql_0, ql_1, ql_2, ql_3, ql_4, ql_5, ql_6, ql_7, ql_8, ql_9, ql_10, ql_12, ql_16, ql_20, ql_21, ql_22, ql_23, ql_24, ql_26, ql_27, ql_30, ql_31, ql_32, ql_35, ql_36, ql_40, ql_44, ql_48, ql_49, ql_70, ql_81, ql_90, ql_96, ql_168, ql_217, ql_434, ql_442, ql_446, ql_450, ql_454, ql_455, ql_456, ql_457, ql_458, ql_466, ql_474, ql_478, nI_add, q_cl, q_in, true_and]
        rintro M6 rfl
        rw [ku_eq]
        exact ⟨by rw [hv.2], hv.1⟩
    · rw [if_neg ht]
      refine ⟨fun z => absurd z (by decide), fun _ => ?_⟩
      refine kct (by decide) (Nat.le_of_ble_eq_true rfl) (bX6_wheel_0 (nI i) Mm _ (m_isRider _ ⟨fun _ => m_isThere 0 i (by omega) (by omega) ?_, fun z => absurd z c⟩))
      rw [if_pos (Classical.byContradiction (fun z => ht ((rel.bh (n := n) ok' q hi).mpr z)))]
      exact ⟨fun z => absurd z (by decide), fun _ => ⟨rfl, h.mono⟩⟩
  · rw [e1] at c
    refine kct (by decide) (Nat.le_of_ble_eq_true rfl) (bX6_wheel_0 _ Mm _ (m_isRider _ ⟨fun z => absurd c z, fun _ => ⟨rfl, h.mono⟩⟩))
theorem two_ne {a b N : Int32} (h : ¬ two a b N = 0) : ¬ wth a 0 (N - 1) = 0 ∧ ¬ wth b 0 (N - 1) = 0 ∧ ¬ a = b := by
  unfold two at h
  by_cases c1 : wth a 0 (N - 1) = 0
  · rw [if_pos c1] at h
    exact absurd rfl h
  · rw [if_neg c1] at h
    by_cases c2 : wth b 0 (N - 1) = 0
    · rw [if_pos c2] at h
      exact absurd rfl h
    · rw [if_neg c2] at h
      by_cases c3 : a = b
      · rw [if_pos c3] at h
        exact absurd rfl h
      · exact ⟨c1, c2, c3⟩
theorem Inv.areT (h : Inv n Mx Mm) {a b : Int32} (hw : ¬ two a b (Mx.1 1 0 1) = 0) : ∃ S r i j, rok (rx Mx 0) S r ∧ i < r ∧ j < r ∧ i ≠ j ∧ r ≤ 4 ∧ a = nI i ∧ b = nI j := by
  obtain ⟨c1, c2, c3⟩ := two_ne hw
  obtain ⟨S, r, i, ok, hi, hr, rfl⟩ := h.isR c1
  rw [show Mx.1 1 0 1 = nI r from ok.2.2.1] at c2
  obtain ⟨j, hj, rfl⟩ := wth_ix (by omega) c2
  exact ⟨S, r, i, j, ok, hi, hj, fun e => c3 (by rw [e]), hr, rfl, rfl⟩
theorem pair_give (h : Inv n Mx Mm) (a1 a2 a3 : Int32) : kPair l g1 g2 mX5_give mX6_give [.inl a1, .inl a2, .inl a3] Mx Mm (Inv (n + 1)) := by
  have e1 := h.riders
  refine kct (by decide) (Nat.le_of_ble_eq_true rfl) (bX5_give_0 a1 a2 a3 Mx _ (x_areTwo _ _ ⟨fun c => ?_, fun c => x_within _ _ _ ⟨fun c2 => ?_, fun c2 => ?_⟩⟩))
  · refine bX5_give_19 _ _ ?_
    rw [e1] at c
    refine kct (by decide) (Nat.le_of_ble_eq_true rfl) (bX6_give_0 _ _ _ Mm _ (m_areTwo _ _ ⟨fun _ => bX6_give_21 _ _ ⟨rfl, h.mono⟩, fun z => absurd c z⟩))
  · obtain ⟨S, r, i, j, ok, hi, hj, hij, hr, rfl, rfl⟩ := h.areT c
    obtain ⟨S', r', q, ok', bd, ud⟩ := h.1
    rw [e1] at c
    have ec : ∀ i, i < r → Mx.1 13 0 i = Mm.1 1 0 (16 + i) := by
      intro i hi
      have := q 7 i (by decide) (fln_r ok (by omega) hi)
      rw [wof_rmd (by decide) (by first | (show _ < 4; omega) | (show _ < 8; omega) | exact fln_s (by assumption) (by omega) (by omega) (by omega) | exact fln_r (by assumption) (by omega) (by omega)), Nat.zero_add] at this
      exact this
    simp (disch := omega) only [qa_0, qa_1, qa_2, qa_3, qa_4, qa_5, qa_6, qa_7, qa_8, qa_9, qa_10, qa_12, qa_16, qa_20, qa_21, qa_22, qa_23, qa_24, qa_26, qa_27, qa_30, qa_31, qa_32, qa_35, qa_36, qa_40, qa_44, qa_48, qa_49, qa_70, qa_81, qa_90, qa_96, qa_168, qa_217, qa_434, qa_442, qa_446, qa_450, qa_454, qa_455, qa_456, qa_457, qa_458, qa_466, qa_474, qa_478, qb_0, qb_1, qb_2, qb_3, qb_4, qb_5, qb_6, qb_7, qb_8, qb_9, qb_10, qb_12, qb_16, qb_20, qb_21, qb_22, qb_23, qb_24, qb_26, qb_27, qb_30, qb_31, qb_32, qb_35, qb_36, qb_40, qb_44, qb_48, qb_49, qb_70, qb_81, qb_90, qb_96, qb_168, qb_217, qb_434, qb_442, qb_446, qb_450, qb_454, qb_455, qb_456, qb_457, qb_458, qb_466, qb_474, qb_478, qm_0, qm_1, qm_2, qm_3, qm_4, qm_5, qm_6, qm_7, qm_8, qm_9, qm_10, qm_12, qm_16, qm_20, qm_21, qm_22, qm_23, qm_24, qm_26, qm_27, qm_30, qm_31, qm_32, qm_35, qm_36, qm_40, qm_44, qm_48, qm_49, qm_70, qm_81, qm_90, qm_96, qm_168, qm_217, qm_434, qm_442, qm_446, qm_450, qm_454, qm_455, qm_456, qm_457, qm_458, qm_466, qm_474, qm_478, ql_0, ql_1, ql_2, ql_3, ql_4, ql_5, ql_6, ql_7, ql_8, ql_9, ql_10, ql_12, ql_16, ql_20, ql_21, ql_22, ql_23, ql_24, ql_26, ql_27, ql_30, ql_31, ql_32, ql_35, ql_36, ql_40, ql_44, ql_48, ql_49, ql_70, ql_81, ql_90, ql_96, ql_168, ql_217, ql_434, ql_442, ql_446, ql_450, ql_454, ql_455, ql_456, ql_457, ql_458, ql_466, ql_474, ql_478, nI_add, q_cl, q_in, true_and]
    refine ⟨fun c3 => ?_, fun c3 => ?_⟩
    · have hmn : ∀ v : Int32, mni 99 v = if v ≤ 99 then v else 99 := by
        intro v
        unfold mni
        by_cases q1 : v < 99
        · rw [if_pos q1, if_pos (Int32.le_of_lt q1)]
        · rw [if_neg q1]
          by_cases q2 : v ≤ 99
          · rw [if_pos q2]
            exact Int32.le_antisymm (Int32.not_lt.mp q1) q2
          · rw [if_neg q2]
      refine pair_mark (g2 := g2) (n := n) (Q := fun Mx' Mm' => Inv (n + 1) (ku (ku Mx' 13 0 i (Mx'.1 13 0 i - a3)) 13 0 j (mni 99 (Mx'.1 13 0 j + a3))) (ku (ku Mm' 1 0 (16 + i) (Mm'.1 1 0 (16 + i) - a3)) 1 0 (16 + j) (mni 99 (Mm'.1 1 0 (16 + j) + a3))) ∧ Mx'.1 13 0 j = Mm'.1 1 0 (16 + j)) h.1 (fun Mx' Mm' a1 a2 b1 b2 hr2 => ?_) _ (fun Mx' hx => ?_)
      · have ec' : ∀ i, i < r → Mx'.1 13 0 i = Mm'.1 1 0 (16 + i) := by
          intro i hi
          rw [a1 13 0 i (by omega), b1 1 0 (16 + i) (by omega)]
          exact ec i hi
        refine ⟨?_, ec' j (by omega)⟩
        rw [ec' i (by omega), ec' j (by omega)]
        refine h.now (fun c i j hc => by rw [ku_ne (by omega), ku_ne (by omega), a1 c i j (by omega)]) a2 (fun j _ _ => by rw [ku_ne (by omega), ku_ne (by omega), b1 1 0 j (by omega)]) (fun c j hc => by rw [ku_ne (by omega), ku_ne (by omega), b1 c 0 j (by omega)]) b2 ?_
        refine rel.put (f := 7) (j := j) (rel.put (f := 7) (j := i) hr2.mono rx_u7 (fun c d hc => ku_ne (by omega)) (by simp [wof]) (by decide) (by first | (show _ < 4; omega) | (show _ < 8; omega) | exact fln_s (by assumption) (by omega) (by omega) (by omega) | exact fln_r (by assumption) (by omega) (by omega)) (by decide) (by omega) (by decide) (by decide)) rx_u7 (fun c d hc => ku_ne (by omega)) (by simp [wof]) (by decide) (by first | (show _ < 4; omega) | (show _ < 8; omega) | exact fln_s (by assumption) (by omega) (by omega) (by omega) | exact fln_r (by assumption) (by omega) (by omega)) (by decide) (by omega) (by decide) (by decide)
      · rintro M6 rfl M7 rfl
        rw [ku_eq, ku_ne (by omega)]
        rw [ec i (by omega)] at c3
        refine kct (by decide) (Nat.le_of_ble_eq_true rfl) (bX6_give_0 _ _ _ Mm _ (m_areTwo _ _ ⟨fun z => absurd z c, fun _ => m_in _ 1 99 (by decide) (by decide) ⟨fun _ => ?_, fun z => absurd z c2⟩⟩))
        simp (disch := omega) only [qa_0, qa_1, qa_2, qa_3, qa_4, qa_5, qa_6, qa_7, qa_8, qa_9, qa_10, qa_12, qa_16, qa_20, qa_21, qa_22, qa_23, qa_24, qa_26, qa_27, qa_30, qa_31, qa_32, qa_35, qa_36, qa_40, qa_44, qa_48, qa_49, qa_70, qa_81, qa_90, qa_96, qa_168, qa_217, qa_434, qa_442, qa_446, qa_450, qa_454, qa_455, qa_456, qa_457, qa_458, qa_466, qa_474, qa_478, qb_0, qb_1, qb_2, qb_3, qb_4, qb_5, qb_6, qb_7, qb_8, qb_9, qb_10, qb_12, qb_16, qb_20, qb_21, qb_22, qb_23, qb_24, qb_26, qb_27, qb_30, qb_31, qb_32, qb_35, qb_36, qb_40, qb_44, qb_48, qb_49, qb_70, qb_81, qb_90, qb_96, qb_168, qb_217, qb_434, qb_442, qb_446, qb_450, qb_454, qb_455, qb_456, qb_457, qb_458, qb_466, qb_474, qb_478, qm_0, qm_1, qm_2, qm_3, qm_4, qm_5, qm_6, qm_7, qm_8, qm_9, qm_10, qm_12, qm_16, qm_20, qm_21, qm_22, qm_23, qm_24, qm_26, qm_27, qm_30, qm_31, qm_32, qm_35, qm_36, qm_40, qm_44, qm_48, qm_49, qm_70, qm_81, qm_90, qm_96, qm_168, qm_217, qm_434, qm_442, qm_446, qm_450, qm_454, qm_455, qm_456, qm_457, qm_458, qm_466, qm_474, qm_478, ql_0, ql_1, ql_2, ql_3, ql_4, ql_5, ql_6, ql_7, ql_8, ql_9, ql_10, ql_12, ql_16, ql_20, ql_21, ql_22, ql_23, ql_24, ql_26, ql_27, ql_30, ql_31, ql_32, ql_35, ql_36, ql_40, ql_44, ql_48, ql_49, ql_70, ql_81, ql_90, ql_96, ql_168, ql_217, ql_434, ql_442, ql_446, ql_450, ql_454, ql_455, ql_456, ql_457, ql_458, ql_466, ql_474, ql_478, nI_add, q_cl, q_in, true_and]
        refine ⟨fun _ => kCT.mono hx.1 (fun v Mm' hv => ?_), fun z => absurd c3 z⟩
        obtain ⟨rfl, hv⟩ := hv
        refine ⟨rfl, ?_⟩
        rintro M6 rfl
        rw [ku_ne (by omega)]
        have hv1 := hv.1
        rw [hmn (Mm'.1 1 0 (16 + j) + a3)] at hv1
        refine ⟨fun c5 => ?_, fun c5 => ?_⟩
        · refine bX6_give_96 _ _ _ _ _ ?_
          simp (disch := omega) only [qa_0, qa_1, qa_2, qa_3, qa_4, qa_5, qa_6, qa_7, qa_8, qa_9, qa_10, qa_12, qa_16, qa_20, qa_21, qa_22, qa_23, qa_24, qa_26, qa_27, qa_30, qa_31, qa_32, qa_35, qa_36, qa_40, qa_44, qa_48, qa_49, qa_70, qa_81, qa_90, qa_96, qa_168, qa_217, qa_434, qa_442, qa_446, qa_450, qa_454, qa_455, qa_456, qa_457, qa_458, qa_466, qa_474, qa_478, qb_0, qb_1, qb_2, qb_3, qb_4, qb_5, qb_6, qb_7, qb_8, qb_9, qb_10, qb_12, qb_16, qb_20, qb_21, qb_22, qb_23, qb_24, qb_26, qb_27, qb_30, qb_31, qb_32, qb_35, qb_36, qb_40, qb_44, qb_48, qb_49, qb_70, qb_81, qb_90, qb_96, qb_168, qb_217, qb_434, qb_442, qb_446, qb_450, qb_454, qb_455, qb_456, qb_457, qb_458, qb_466, qb_474, qb_478, qm_0, qm_1, qm_2, qm_3, qm_4, qm_5, qm_6, qm_7, qm_8, qm_9, qm_10, qm_12, qm_16, qm_20, qm_21, qm_22, qm_23, qm_24, qm_26, qm_27, qm_30, qm_31, qm_32, qm_35, qm_36, qm_40, qm_44, qm_48, qm_49, qm_70, qm_81, qm_90, qm_96, qm_168, qm_217, qm_434, qm_442, qm_446, qm_450, qm_454, qm_455, qm_456, qm_457, qm_458, qm_466, qm_474, qm_478, ql_0, ql_1, ql_2, ql_3, ql_4, ql_5, ql_6, ql_7, ql_8, ql_9, ql_10, ql_12, ql_16, ql_20, ql_21, ql_22, ql_23, ql_24, ql_26, ql_27, ql_30, ql_31, ql_32, ql_35, ql_36, ql_40, ql_44, ql_48, ql_49, ql_70, ql_81, ql_90, ql_96, ql_168, ql_217, ql_434, ql_442, ql_446, ql_450, ql_454, ql_455, ql_456, ql_457, ql_458, ql_466, ql_474, ql_478, nI_add, q_cl, q_in, true_and]
          rintro M8 rfl
          rw [ku_eq]
          rw [if_pos c5] at hv1
          exact ⟨by rw [hv.2, hmn, if_pos c5], hv1⟩
        · refine bX6_give_96 _ _ _ _ _ ?_
          simp (disch := omega) only [qa_0, qa_1, qa_2, qa_3, qa_4, qa_5, qa_6, qa_7, qa_8, qa_9, qa_10, qa_12, qa_16, qa_20, qa_21, qa_22, qa_23, qa_24, qa_26, qa_27, qa_30, qa_31, qa_32, qa_35, qa_36, qa_40, qa_44, qa_48, qa_49, qa_70, qa_81, qa_90, qa_96, qa_168, qa_217, qa_434, qa_442, qa_446, qa_450, qa_454, qa_455, qa_456, qa_457, qa_458, qa_466, qa_474, qa_478, qb_0, qb_1, qb_2, qb_3, qb_4, qb_5, qb_6, qb_7, qb_8, qb_9, qb_10, qb_12, qb_16, qb_20, qb_21, qb_22, qb_23, qb_24, qb_26, qb_27, qb_30, qb_31, qb_32, qb_35, qb_36, qb_40, qb_44, qb_48, qb_49, qb_70, qb_81, qb_90, qb_96, qb_168, qb_217, qb_434, qb_442, qb_446, qb_450, qb_454, qb_455, qb_456, qb_457, qb_458, qb_466, qb_474, qb_478, qm_0, qm_1, qm_2, qm_3, qm_4, qm_5, qm_6, qm_7, qm_8, qm_9, qm_10, qm_12, qm_16, qm_20, qm_21, qm_22, qm_23, qm_24, qm_26, qm_27, qm_30, qm_31, qm_32, qm_35, qm_36, qm_40, qm_44, qm_48, qm_49, qm_70, qm_81, qm_90, qm_96, qm_168, qm_217, qm_434, qm_442, qm_446, qm_450, qm_454, qm_455, qm_456, qm_457, qm_458, qm_466, qm_474, qm_478, ql_0, ql_1, ql_2, ql_3, ql_4, ql_5, ql_6, ql_7, ql_8, ql_9, ql_10, ql_12, ql_16, ql_20, ql_21, ql_22, ql_23, ql_24, ql_26, ql_27, ql_30, ql_31, ql_32, ql_35, ql_36, ql_40, ql_44, ql_48, ql_49, ql_70, ql_81, ql_90, ql_96, ql_168, ql_217, ql_434, ql_442, ql_446, ql_450, ql_454, ql_455, ql_456, ql_457, ql_458, ql_466, ql_474, ql_478, nI_add, q_cl, q_in, true_and]
          rintro M8 rfl
          rw [ku_eq]
          rw [if_neg c5] at hv1
          exact ⟨by rw [hv.2, hmn, if_neg c5], hv1⟩
    · rw [ec i (by omega)] at c3
      refine kct (by decide) (Nat.le_of_ble_eq_true rfl) (bX6_give_0 _ _ _ Mm _ (m_areTwo _ _ ⟨fun z => absurd z c, fun _ => m_in _ 1 99 (by decide) (by decide) ⟨fun _ => ?_, fun z => absurd z c2⟩⟩))
      simp (disch := omega) only [qa_0, qa_1, qa_2, qa_3, qa_4, qa_5, qa_6, qa_7, qa_8, qa_9, qa_10, qa_12, qa_16, qa_20, qa_21, qa_22, qa_23, qa_24, qa_26, qa_27, qa_30, qa_31, qa_32, qa_35, qa_36, qa_40, qa_44, qa_48, qa_49, qa_70, qa_81, qa_90, qa_96, qa_168, qa_217, qa_434, qa_442, qa_446, qa_450, qa_454, qa_455, qa_456, qa_457, qa_458, qa_466, qa_474, qa_478, qb_0, qb_1, qb_2, qb_3, qb_4, qb_5, qb_6, qb_7, qb_8, qb_9, qb_10, qb_12, qb_16, qb_20, qb_21, qb_22, qb_23, qb_24, qb_26, qb_27, qb_30, qb_31, qb_32, qb_35, qb_36, qb_40, qb_44, qb_48, qb_49, qb_70, qb_81, qb_90, qb_96, qb_168, qb_217, qb_434, qb_442, qb_446, qb_450, qb_454, qb_455, qb_456, qb_457, qb_458, qb_466, qb_474, qb_478, qm_0, qm_1, qm_2, qm_3, qm_4, qm_5, qm_6, qm_7, qm_8, qm_9, qm_10, qm_12, qm_16, qm_20, qm_21, qm_22, qm_23, qm_24, qm_26, qm_27, qm_30, qm_31, qm_32, qm_35, qm_36, qm_40, qm_44, qm_48, qm_49, qm_70, qm_81, qm_90, qm_96, qm_168, qm_217, qm_434, qm_442, qm_446, qm_450, qm_454, qm_455, qm_456, qm_457, qm_458, qm_466, qm_474, qm_478, ql_0, ql_1, ql_2, ql_3, ql_4, ql_5, ql_6, ql_7, ql_8, ql_9, ql_10, ql_12, ql_16, ql_20, ql_21, ql_22, ql_23, ql_24, ql_26, ql_27, ql_30, ql_31, ql_32, ql_35, ql_36, ql_40, ql_44, ql_48, ql_49, ql_70, ql_81, ql_90, ql_96, ql_168, ql_217, ql_434, ql_442, ql_446, ql_450, ql_454, ql_455, ql_456, ql_457, ql_458, ql_466, ql_474, ql_478, nI_add, q_cl, q_in, true_and]
      exact ⟨fun z => absurd z c3, fun _ => h.mono⟩
  · refine bX5_give_19 _ _ ?_
    rw [e1] at c
    refine kct (by decide) (Nat.le_of_ble_eq_true rfl) (bX6_give_0 _ _ _ Mm _ (m_areTwo _ _ ⟨fun z => absurd z c, fun _ => m_in _ 1 99 (by decide) (by decide) ⟨fun z => absurd c2 z, fun _ => bX6_give_21 _ _ ⟨rfl, h.mono⟩⟩⟩))
end KP3
