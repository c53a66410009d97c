/-! ===== images, and what is undone ===== -/
theorem rbd.cg {R T : Rc} {S r n : Nat} (h : req R T) (ok : rok T S r) (hb : rbd T S r n) : rbd R S r n := by
  have ok' := h.symm.ok ok
  refine ⟨fun j hj => ?_, fun a ha => ?_⟩
  · rw [h 1 j (by decide) (by first | (show _ < 4; omega) | (show _ < 8; omega) | exact fln_s (by assumption) (by omega) (by omega) (by omega) | exact fln_r (by assumption) (by omega) (by omega))]
    exact hb.1 j hj
  · rw [h 6 a (by decide) (by first | (show _ < 4; omega) | (show _ < 8; omega) | exact fln_s (by assumption) (by omega) (by omega) (by omega) | exact fln_r (by assumption) (by omega) (by omega))]
    exact hb.2 a ha
theorem rmd_mv {M M' : kM} {h h' : Nat} (hm : ∀ j, j < 49 → M'.1 1 0 (h' + j) = M.1 1 0 (h + j)) : req (rmd M' h') (rmd M h) := by
  refine reqF.w (fun f j hf hj => ?_)
  have := wof_lt f hf j hj
  rw [wof_rmd hf hj, wof_rmd hf hj]
  exact hm _ (by omega)
theorem mkx_mv {M M' : kM} {k k' q : Nat} (hq : q < 8) (h : ∀ j, j < 168 → M'.1 15 k' j = M.1 15 k j) : ceqF (mkx M' k' q) (mkx M k q) := by
  refine ⟨h _ (by omega), fun f j hf hj => ?_⟩
  rcases hf with rfl | rfl | rfl | rfl
  · have hj' : j < 8 := hj
    exact h _ (by omega)
  · have hj' : j < 4 := hj
    exact h _ (by omega)
  · have hj' : j < 4 := hj
    exact h _ (by omega)
  · have hj' : j < 4 := hj
    exact h _ (by omega)
theorem rel.move {Mx Mm Mx' Mm' : kM} {k k' h h' n : Nat} (hr : rel Mx k Mm h n) (a1 : req (rx Mx' k') (rx Mx k)) (a2 : ∀ j, j < 2 → Mx'.1 2 k' j = Mx.1 2 k j) (a3 : ∀ j, j < 168 → Mx'.1 15 k' j = Mx.1 15 k j) (b1 : ∀ j, j < 217 → Mm'.1 1 0 (h' + j) = Mm.1 1 0 (h + j)) : rel Mx' k' Mm' h' n := by
  obtain ⟨S, r, q, ok, bd, v, y, v1, v2, v3, v4, v5, v6⟩ := hr
  refine ⟨S, r, (a1.trans q).trans (rmd_mv (fun j hj => b1 j (by omega))).symm, a1.symm.ok ok, rbd.cg a1 ok bd, v, y, v1, v2, by rw [a2 0 (by omega)]; exact v3, by rw [a2 1 (by omega)]; exact v4, by rw [b1 48 (by omega)]; exact v5, fun i hi => ?_⟩
  have hm := mkx_mv (q := (y + 8 - v + i) % 8) (Nat.mod_lt _ (by decide)) a3
  refine ⟨(hm.w.trans (v6 i hi).1).trans (ceq.symm (ceqF.w (rmd_cp (fun j hj => ?_)))), mok.cg hm.w ok.2.2.2.1 (v6 i hi).2⟩
  have := b1 (49 + 21 * i + j) (by omega)
  rw [← Nat.add_assoc, ← Nat.add_assoc, ← Nat.add_assoc, ← Nat.add_assoc] at this
  exact this
section KI
variable {l : Launch} {g g1 g2 : va_G × (Nat → ClassId) × (Nat → Nat → Nat)} {M Mx Mm : kM} {n : Nat} {Qv : kM → Prop}
theorem x_takeRoad (k0 k1 : Nat) (hk : k0 ≠ k1) (h : ∀ M', (∀ c i j, ¬ (i = k0 ∧ (c = 1 ∧ j < 2 ∨ 7 ≤ c ∧ c ≤ 14)) → M'.1 c i j = M.1 c i j) → M'.2 = M.2 → (∀ f j, f < 9 → j < flen f → ¬ (f = 0 ∧ 2 ≤ j) → rx M' k0 f j = rx M k1 f j) → Qv M') : kCT l (rg_x, g) mX3_takeRoad [.inr (.inr (1, k0)), .inr (.inr (1, k1))] M (kqv Qv) := by
  refine kct (by decide) (Nat.le_of_ble_eq_true rfl) (bX3_takeRoad_0 k0 k1 M Qv ?_)
  simp (disch := omega) only [qa_0, qa_1, qa_2, qa_3, qa_4, qa_5, qa_6, qa_7, qa_8, qa_9, qa_10, qa_12, qa_16, qa_20, qa_21, qa_22, qa_23, qa_24, qa_26, qa_27, qa_30, qa_31, qa_32, qa_35, qa_36, qa_40, qa_44, qa_48, qa_49, qa_70, qa_81, qa_90, qa_96, qa_168, qa_217, qa_434, qa_442, qa_446, qa_450, qa_454, qa_455, qa_456, qa_457, qa_458, qa_466, qa_474, qa_478, qb_0, qb_1, qb_2, qb_3, qb_4, qb_5, qb_6, qb_7, qb_8, qb_9, qb_10, qb_12, qb_16, qb_20, qb_21, qb_22, qb_23, qb_24, qb_26, qb_27, qb_30, qb_31, qb_32, qb_35, qb_36, qb_40, qb_44, qb_48, qb_49, qb_70, qb_81, qb_90, qb_96, qb_168, qb_217, qb_434, qb_442, qb_446, qb_450, qb_454, qb_455, qb_456, qb_457, qb_458, qb_466, qb_474, qb_478, qm_0, qm_1, qm_2, qm_3, qm_4, qm_5, qm_6, qm_7, qm_8, qm_9, qm_10, qm_12, qm_16, qm_20, qm_21, qm_22, qm_23, qm_24, qm_26, qm_27, qm_30, qm_31, qm_32, qm_35, qm_36, qm_40, qm_44, qm_48, qm_49, qm_70, qm_81, qm_90, qm_96, qm_168, qm_217, qm_434, qm_442, qm_446, qm_450, qm_454, qm_455, qm_456, qm_457, qm_458, qm_466, qm_474, qm_478, ql_0, ql_1, ql_2, ql_3, ql_4, ql_5, ql_6, ql_7, ql_8, ql_9, ql_10, ql_12, ql_16, ql_20, ql_21, ql_22, ql_23, ql_24, ql_26, ql_27, ql_30, ql_31, ql_32, ql_35, ql_36, ql_40, ql_44, ql_48, ql_49, ql_70, ql_81, ql_90, ql_96, ql_168, ql_217, ql_434, ql_442, ql_446, ql_450, ql_454, ql_455, ql_456, ql_457, ql_458, ql_466, ql_474, ql_478, nI_add, q_cl, q_in, true_and]
  rintro M1 rfl M2 rfl M3 rfl M4 rfl M5 rfl M6 rfl M7 rfl M8 rfl M9 rfl M10 rfl
  refine h _ (fun c i j hc => ?_) rfl (fun f j hf hj h0 => ?_)
  · simp (disch := omega) only [ku_ne, kcp_n]
  · rcases (show f = 0 ∨ f = 1 ∨ f = 2 ∨ f = 3 ∨ f = 4 ∨ f = 5 ∨ f = 6 ∨ f = 7 ∨ f = 8 by omega) with rfl | rfl | rfl | rfl | rfl | rfl | rfl | rfl | rfl
    · have hj' : j < 2 := by omega
      rcases (show j = 0 ∨ j = 1 by omega) with rfl | rfl
      · show (kcp _ _ _ _ _ _ _ _).1 1 k0 0 = M.1 1 k1 0
        simp (disch := omega) only [ku_ne, kcp_n, ku_eq]
      · show (kcp _ _ _ _ _ _ _ _).1 1 k0 1 = M.1 1 k1 1
        simp (disch := omega) only [ku_ne, kcp_n, ku_eq]
    · have hj' : j < 8 := hj
      show (kcp _ _ _ _ _ _ _ _).1 7 k0 j = M.1 7 k1 j
      rw [kcp_n (by omega), kcp_n (by omega), kcp_n (by omega), kcp_n (by omega), kcp_n (by omega), kcp_n (by omega), kcp_n (by omega), kcp_i (e := j) (by omega) (by omega) (by omega)]
      simp (disch := omega) only [ku_ne, kcp_n]
    · have hj' : j < 8 := hj
      show (kcp _ _ _ _ _ _ _ _).1 8 k0 j = M.1 8 k1 j
      rw [kcp_n (by omega), kcp_n (by omega), kcp_n (by omega), kcp_n (by omega), kcp_n (by omega), kcp_n (by omega), kcp_i (e := j) (by omega) (by omega) (by omega)]
      simp (disch := omega) only [ku_ne, kcp_n]
    · have hj' : j < 8 := hj
      show (kcp _ _ _ _ _ _ _ _).1 9 k0 j = M.1 9 k1 j
      rw [kcp_n (by omega), kcp_n (by omega), kcp_n (by omega), kcp_n (by omega), kcp_n (by omega), kcp_i (e := j) (by omega) (by omega) (by omega)]
      simp (disch := omega) only [ku_ne, kcp_n]
    · have hj' : j < 4 := hj
      show (kcp _ _ _ _ _ _ _ _).1 10 k0 j = M.1 10 k1 j
      rw [kcp_n (by omega), kcp_n (by omega), kcp_n (by omega), kcp_n (by omega), kcp_i (e := j) (by omega) (by omega) (by omega)]
      simp (disch := omega) only [ku_ne, kcp_n]
    · have hj' : j < 4 := hj
      show (kcp _ _ _ _ _ _ _ _).1 11 k0 j = M.1 11 k1 j
      rw [kcp_n (by omega), kcp_n (by omega), kcp_n (by omega), kcp_i (e := j) (by omega) (by omega) (by omega)]
      simp (disch := omega) only [ku_ne, kcp_n]
    · have hj' : j < 4 := hj
      show (kcp _ _ _ _ _ _ _ _).1 12 k0 j = M.1 12 k1 j
      rw [kcp_n (by omega), kcp_n (by omega), kcp_i (e := j) (by omega) (by omega) (by omega)]
      simp (disch := omega) only [ku_ne, kcp_n]
    · have hj' : j < 4 := hj
      show (kcp _ _ _ _ _ _ _ _).1 13 k0 j = M.1 13 k1 j
      rw [kcp_n (by omega), kcp_i (e := j) (by omega) (by omega) (by omega)]
      simp (disch := omega) only [ku_ne, kcp_n]
    · have hj' : j < 4 := hj
      show (kcp _ _ _ _ _ _ _ _).1 14 k0 j = M.1 14 k1 j
      rw [kcp_i (e := j) (by omega) (by omega) (by omega)]
      simp (disch := omega) only [ku_ne, kcp_n]
theorem x_takeAll (k0 k1 : Nat) (hk : k0 ≠ k1) (h : ∀ M', (∀ c i j, ¬ (i = k0 ∧ (c = 1 ∨ 7 ≤ c ∧ c ≤ 14)) → M'.1 c i j = M.1 c i j) → M'.2 = M.2 → req (rx M' k0) (rx M k1) → Qv M') : kCT l (rg_x, g) mX3_takeAll [.inr (.inr (1, k0)), .inr (.inr (1, k1))] M (kqv Qv) := by
  refine kct (by decide) (Nat.le_of_ble_eq_true rfl) (bX3_takeAll_0 k0 k1 M Qv ?_)
  refine x_takeRoad k0 k1 hk (fun M1 a1 a2 a3 => ?_)
  rintro M2 rfl M3 rfl
  rw [ku_ne (by omega), a1 1 k1 2 (by omega), a1 1 k1 3 (by omega)]
  refine h _ (fun c i j hc => by rw [ku_ne (by omega), ku_ne (by omega), a1 c i j (by omega)]) a2 (reqF.w (fun f j hf hj => ?_))
  rw [rx_u0, rx_u0]
  by_cases q3 : f = 0 ∧ j = 3
  · obtain ⟨rfl, rfl⟩ := q3
    rw [rup_eq]
    rfl
  · rw [rup_ne q3]
    by_cases q2 : f = 0 ∧ j = 2
    · obtain ⟨rfl, rfl⟩ := q2
      rw [rup_eq]
      rfl
    · rw [rup_ne q2]
      refine a3 f j hf hj ?_
      rintro ⟨rfl, z⟩
      have : j < 4 := hj
      omega
theorem x_pastTake (k0 k1 : Nat) (hk : k0 ≠ k1) (h : ∀ M', (∀ c i j, ¬ (i = k0 ∧ (c = 2 ∨ c = 15)) → M'.1 c i j = M.1 c i j) → M'.2 = M.2 → (∀ j, j < 2 → M'.1 2 k0 j = M.1 2 k1 j) → (∀ j, j < 168 → M'.1 15 k0 j = M.1 15 k1 j) → Qv M') : kCT l (rg_x, g) mX2_takeAll [.inr (.inr (2, k0)), .inr (.inr (2, k1))] M (kqv Qv) := by
  refine kct (by decide) (Nat.le_of_ble_eq_true rfl) (bX2_takeAll_0 k0 k1 M Qv ?_)
  simp (disch := omega) only [qa_0, qa_1, qa_2, qa_3, qa_4, qa_5, qa_6, qa_7, qa_8, qa_9, qa_10, qa_12, qa_16, qa_20, qa_21, qa_22, qa_23, qa_24, qa_26, qa_27, qa_30, qa_31, qa_32, qa_35, qa_36, qa_40, qa_44, qa_48, qa_49, qa_70, qa_81, qa_90, qa_96, qa_168, qa_217, qa_434, qa_442, qa_446, qa_450, qa_454, qa_455, qa_456, qa_457, qa_458, qa_466, qa_474, qa_478, qb_0, qb_1, qb_2, qb_3, qb_4, qb_5, qb_6, qb_7, qb_8, qb_9, qb_10, qb_12, qb_16, qb_20, qb_21, qb_22, qb_23, qb_24, qb_26, qb_27, qb_30, qb_31, qb_32, qb_35, qb_36, qb_40, qb_44, qb_48, qb_49, qb_70, qb_81, qb_90, qb_96, qb_168, qb_217, qb_434, qb_442, qb_446, qb_450, qb_454, qb_455, qb_456, qb_457, qb_458, qb_466, qb_474, qb_478, qm_0, qm_1, qm_2, qm_3, qm_4, qm_5, qm_6, qm_7, qm_8, qm_9, qm_10, qm_12, qm_16, qm_20, qm_21, qm_22, qm_23, qm_24, qm_26, qm_27, qm_30, qm_31, qm_32, qm_35, qm_36, qm_40, qm_44, qm_48, qm_49, qm_70, qm_81, qm_90, qm_96, qm_168, qm_217, qm_434, qm_442, qm_446, qm_450, qm_454, qm_455, qm_456, qm_457, qm_458, qm_466, qm_474, qm_478, ql_0, ql_1, ql_2, ql_3, ql_4, ql_5, ql_6, ql_7, ql_8, ql_9, ql_10, ql_12, ql_16, ql_20, ql_21, ql_22, ql_23, ql_24, ql_26, ql_27, ql_30, ql_31, ql_32, ql_35, ql_36, ql_40, ql_44, ql_48, ql_49, ql_70, ql_81, ql_90, ql_96, ql_168, ql_217, ql_434, ql_442, ql_446, ql_450, ql_454, ql_455, ql_456, ql_457, ql_458, ql_466, ql_474, ql_478, nI_add, q_cl, q_in, true_and]
  rintro M1 rfl M2 rfl M3 rfl
  refine h _ (fun c i j hc => ?_) rfl (fun j hj => ?_) (fun j hj => ?_)
  · simp (disch := omega) only [ku_ne, kcp_n]
  · rcases (show j = 0 ∨ j = 1 by omega) with rfl | rfl
    · simp (disch := omega) only [ku_ne, kcp_n, ku_eq]
    · simp (disch := omega) only [ku_ne, kcp_n, ku_eq]
  · rw [kcp_i (e := j) (by omega) (by omega) (by omega)]
    simp (disch := omega) only [ku_ne, kcp_n]
theorem pair_image (h : Inv n Mx Mm) : kPair l g1 g2 mX5_image mX6_image [] Mx Mm (Inv (n + 1)) := by
  refine kct (by decide) (Nat.le_of_ble_eq_true rfl) (bX5_image_0 Mx _ (x_takeAll 1 0 (by omega) (fun M1 a1 a2 a3 => x_pastTake 1 0 (by omega) (fun M2 b1 b2 b3 b4 => ?_))))
  rintro M3 rfl
  refine kct (by decide) (Nat.le_of_ble_eq_true rfl) (bX6_image_0 Mm _ (m_copyAll 0 217 217 (by omega) (by omega) (by omega) ?_))
  rintro M4 rfl
  refine ⟨rfl, ?_⟩
  refine ⟨h.1.mono.cg (fun c j hc => by rw [ku_ne (by omega), b1 c 0 j (by omega), a1 c 0 j (by omega)]) (fun j _ hj => by rw [ku_ne (by omega), kcp_n (by omega)]), Or.inr ⟨ku_eq, ku_eq, ?_⟩, h.2.2.1.cg (fun c j hc => by rw [ku_ne (by omega), b1 c 0 j (by omega), a1 c 0 j (by omega)]) (fun c j hc => by rw [ku_ne (by omega), kcp_n (by omega)]), fun s hs => (h.2.2.2 s hs).cg (fun j => by rw [ku_ne (by omega), b1 5 s j (by omega), a1 5 s j (by omega)]) (fun j => by rw [ku_2, b2, a2]) (fun c hc => by rw [ku_ne (by omega), kcp_n (by omega)]) (fun j _ _ => rfl)⟩
  refine h.1.mono.move ?_ (fun j hj => ?_) (fun j hj => ?_) (fun j hj => ?_)
  · rw [rx_o (by omega), rx_cg (fun c j hc => b1 c 1 j (by omega))]
    exact a3
  · rw [ku_ne (by omega), b3 j hj, a1 2 0 j (by omega)]
  · rw [ku_ne (by omega), b4 j hj, a1 15 0 j (by omega)]
  · rw [ku_ne (by omega), kcp_i (e := 0 + j) (by omega) (by omega) (by omega)]
theorem pair_restore (h : Inv n Mx Mm) : kPair l g1 g2 mX5_restore mX6_restore [] Mx Mm (Inv (n + 1)) := by
  refine kct (by decide) (Nat.le_of_ble_eq_true rfl) (bX5_restore_0 Mx _ ⟨fun c => x_takeAll 0 1 (by omega) (fun M1 a1 a2 a3 => x_pastTake 0 1 (by omega) (fun M2 b1 b2 b3 b4 => ?_)), fun c => ?_⟩)
  · rcases h.2.1 with ⟨i1, i2⟩ | ⟨i1, i2, i3⟩
    · exact absurd i1 c
    · refine kct (by decide) (Nat.le_of_ble_eq_true rfl) (bX6_restore_0 Mm _ ⟨fun _ => m_copyAll 217 0 217 (by omega) (by omega) (by omega) ?_, fun z => absurd (i2.symm.trans z) (by decide)⟩)
      refine ⟨rfl, ?_⟩
      refine ⟨?_, Or.inr ⟨by rw [b1 0 0 4 (by omega), a1 0 0 4 (by omega)]; exact i1, by rw [kcp_n (by omega)]; exact i2, i3.mono.cg (fun c j hc => by rw [b1 c 1 j (by omega), a1 c 1 j (by omega)]) (fun j _ hj => by rw [kcp_n (by omega)])⟩, h.2.2.1.cg (fun c j hc => by rw [b1 c 0 j (by omega), a1 c 0 j (by omega)]) (fun c j hc => by rw [kcp_n (by omega)]), fun s hs => (h.2.2.2 s hs).cg (fun j => by rw [b1 5 s j (by omega), a1 5 s j (by omega)]) (fun j => by rw [b2, a2]) (fun c hc => by rw [kcp_n (by omega)]) (fun j _ _ => rfl)⟩
      refine i3.mono.move ?_ (fun j hj => ?_) (fun j hj => ?_) (fun j hj => ?_)
      · rw [rx_cg (fun c j hc => b1 c 0 j (by omega))]
        exact a3
      · rw [b3 j hj, a1 2 1 j (by omega)]
      · rw [b4 j hj, a1 15 1 j (by omega)]
      · rw [kcp_i (e := 217 + j) (by omega) (by omega) (by omega)]
  · rcases h.2.1 with ⟨i1, i2⟩ | ⟨i1, i2, i3⟩
    · exact kct (by decide) (Nat.le_of_ble_eq_true rfl) (bX6_restore_0 Mm _ ⟨fun z => absurd i2 z, fun _ => ⟨rfl, h.mono⟩⟩)
    · exact absurd (i1.symm.trans c) (by decide)
theorem x_goBack (x u : Nat) (hx : x < 8) (hu : u ≤ 8) (hu0 : 0 < u) (h1 : M.1 2 0 1 = nI x) (h0 : M.1 2 0 0 = nI u)
    (h : ∀ M', (∀ c i j, ¬ (i = 0 ∧ (c = 1 ∧ j = 3 ∨ c = 2 ∧ j < 2 ∨ c = 9 ∨ c = 11 ∨ c = 12 ∨ c = 13)) → M'.1 c i j = M.1 c i j) → M'.2 = M.2 → ceqF (rx M' 0) (mkx M 0 ((x + 7) % 8)) → M'.1 2 0 0 = nI (u - 1) → M'.1 2 0 1 = nI ((x + 7) % 8) → Qv M') :
    kCT l (rg_x, g) mX2_goBack [.inr (.inr (2, 0)), .inr (.inr (1, 0))] M (kqv Qv) := by
  refine kct (by decide) (Nat.le_of_ble_eq_true rfl) (bX2_goBack_0 0 0 M Qv ?_)
  rintro M1 rfl M2 rfl
  have e7 : (nI x + 8) - 1 = nI (x + 7) := by
    rw [qa_8]
    exact nI_pred (x + 7)
  have eu : nI u - 1 = nI (u - 1) := pk_sub (a := u) (b := 1) hu0
  rw [ku_ne (a := 2) (d := 1) (by omega), ku_eq, ku_ne (by omega), h1, h0, e7, rem8 (by omega), eu]
  obtain ⟨y, ey⟩ : ∃ y, y = (x + 7) % 8 := ⟨_, rfl⟩
  have hy : y < 8 := by omega
  rw [← ey] at h ⊢
  rw [show nI y * 21 = nI (y * 21) from pk_mul y 21]
  refine kct (by decide) (Nat.le_of_ble_eq_true rfl) (bX3_readMoving_0 0 0 (nI (y * 21)) _ _ ?_)
  have n0 : ∀ a : Nat, a < 1000 → ¬ nI a < 0 := fun a ha => nI_pos (by omega)
  have d0 : ¬ (0 : Int32) < 0 := by decide
  have d4 : ¬ (4 : Int32) < 0 := by decide
  have d8 : ¬ (8 : Int32) < 0 := by decide
  simp (disch := omega) only [qa_0, qa_1, qa_2, qa_3, qa_4, qa_5, qa_6, qa_7, qa_8, qa_9, qa_10, qa_12, qa_16, qa_20, qa_21, qa_22, qa_23, qa_24, qa_26, qa_27, qa_30, qa_31, qa_32, qa_35, qa_36, qa_40, qa_44, qa_48, qa_49, qa_70, qa_81, qa_90, qa_96, qa_168, qa_217, qa_434, qa_442, qa_446, qa_450, qa_454, qa_455, qa_456, qa_457, qa_458, qa_466, qa_474, qa_478, qb_0, qb_1, qb_2, qb_3, qb_4, qb_5, qb_6, qb_7, qb_8, qb_9, qb_10, qb_12, qb_16, qb_20, qb_21, qb_22, qb_23, qb_24, qb_26, qb_27, qb_30, qb_31, qb_32, qb_35, qb_36, qb_40, qb_44, qb_48, qb_49, qb_70, qb_81, qb_90, qb_96, qb_168, qb_217, qb_434, qb_442, qb_446, qb_450, qb_454, qb_455, qb_456, qb_457, qb_458, qb_466, qb_474, qb_478, qm_0, qm_1, qm_2, qm_3, qm_4, qm_5, qm_6, qm_7, qm_8, qm_9, qm_10, qm_12, qm_16, qm_20, qm_21, qm_22, qm_23, qm_24, qm_26, qm_27, qm_30, qm_31, qm_32, qm_35, qm_36, qm_40, qm_44, qm_48, qm_49, qm_70, qm_81, qm_90, qm_96, qm_168, qm_217, qm_434, qm_442, qm_446, qm_450, qm_454, qm_455, qm_456, qm_457, qm_458, qm_466, qm_474, qm_478, ql_0, ql_1, ql_2, ql_3, ql_4, ql_5, ql_6, ql_7, ql_8, ql_9, ql_10, ql_12, ql_16, ql_20, ql_21, ql_22, ql_23, ql_24, ql_26, ql_27, ql_30, ql_31, ql_32, ql_35, ql_36, ql_40, ql_44, ql_48, ql_49, ql_70, ql_81, ql_90, ql_96, ql_168, ql_217, ql_434, ql_442, ql_446, ql_450, ql_454, ql_455, ql_456, ql_457, ql_458, ql_466, ql_474, ql_478, nI_add, q_cl, q_in, true_and]
  refine ⟨⟨n0 _ (by omega), d0, d4, by omega, by omega⟩, ?_⟩
  rintro M1 rfl
  refine ⟨⟨n0 _ (by omega), d0, d4, by omega, by omega⟩, ?_⟩
  rintro M2 rfl
  refine ⟨⟨n0 _ (by omega), d0, d4, by omega, by omega⟩, ?_⟩
  rintro M3 rfl
  refine ⟨⟨n0 _ (by omega), d0, d8, by omega, by omega⟩, ?_⟩
  rintro M4 rfl M5 rfl
  refine h _ (fun c i j hc => ?_) rfl ⟨?_, fun f j hf hj => ?_⟩ ?_ ?_
  · simp (disch := omega) only [ku_ne, kcp_n]
  · show (ku _ _ _ _ _).1 1 0 3 = M.1 15 0 (21 * y + 20)
    rw [ku_eq, show 21 * y + 20 = y * 21 + 20 by omega]
    simp (disch := omega) only [ku_ne, kcp_n]
  · rcases hf with rfl | rfl | rfl | rfl
    · have hj' : j < 8 := hj
      show (ku _ _ _ _ _).1 9 0 j = M.1 15 0 (21 * y + 12 + j)
      rw [ku_ne (by omega), kcp_i (e := 21 * y + 12 + j) (by omega) (by omega) (by omega)]
      simp (disch := omega) only [ku_ne, kcp_n]
    · have hj' : j < 4 := hj
      show (ku _ _ _ _ _).1 11 0 j = M.1 15 0 (21 * y + j)
      rw [ku_ne (by omega), kcp_n (by omega), kcp_n (by omega), kcp_n (by omega), kcp_i (e := 21 * y + j) (by omega) (by omega) (by omega)]
      simp (disch := omega) only [ku_ne, kcp_n]
    · have hj' : j < 4 := hj
      show (ku _ _ _ _ _).1 12 0 j = M.1 15 0 (21 * y + 4 + j)
      rw [ku_ne (by omega), kcp_n (by omega), kcp_n (by omega), kcp_i (e := 21 * y + 4 + j) (by omega) (by omega) (by omega)]
      simp (disch := omega) only [ku_ne, kcp_n]
    · have hj' : j < 4 := hj
      show (ku _ _ _ _ _).1 13 0 j = M.1 15 0 (21 * y + 8 + j)
      rw [ku_ne (by omega), kcp_n (by omega), kcp_i (e := 21 * y + 8 + j) (by omega) (by omega) (by omega)]
      simp (disch := omega) only [ku_ne, kcp_n]
  · simp (disch := omega) only [ku_ne, kcp_n, ku_eq]
  · simp (disch := omega) only [ku_ne, kcp_n, ku_eq]
theorem pair_undo (h : Inv n Mx Mm) : kPair l g1 g2 mX5_undo mX6_undo [] Mx Mm (Inv (n + 1)) := by
  obtain ⟨S, r, q, ok, bd, u, x, v1, v2, v3, v4, v5, v6⟩ := h.1
  refine kct (by decide) (Nat.le_of_ble_eq_true rfl) (bX5_undo_0 Mx _ ⟨fun c => ?_, fun c => ?_⟩)
  · have hu0 : 0 < u := by
      rcases Nat.eq_zero_or_pos u with z | z
      · subst z
        exact absurd v3 c
      · exact z
    refine x_goBack x u v2 v1 hu0 v4 v3 (fun M' a1 a2 a3 a4 a5 => ?_)
    rw [a4]
    refine kct (by decide) (Nat.le_of_ble_eq_true rfl) (bX6_undo_0 Mm _ ⟨fun _ => ?_, fun z => absurd (v5.symm.trans z) (nI_ne0 hu0 (by omega))⟩)
    rintro M1 rfl
    have eu : nI u - 1 = nI (u - 1) := pk_sub (a := u) (b := 1) hu0
    rw [ql_48, show Mm.1 1 0 48 = nI u from v5, eu, ku_eq]
    simp (disch := omega) only [qa_0, qa_1, qa_2, qa_3, qa_4, qa_5, qa_6, qa_7, qa_8, qa_9, qa_10, qa_12, qa_16, qa_20, qa_21, qa_22, qa_23, qa_24, qa_26, qa_27, qa_30, qa_31, qa_32, qa_35, qa_36, qa_40, qa_44, qa_48, qa_49, qa_70, qa_81, qa_90, qa_96, qa_168, qa_217, qa_434, qa_442, qa_446, qa_450, qa_454, qa_455, qa_456, qa_457, qa_458, qa_466, qa_474, qa_478, qb_0, qb_1, qb_2, qb_3, qb_4, qb_5, qb_6, qb_7, qb_8, qb_9, qb_10, qb_12, qb_16, qb_20, qb_21, qb_22, qb_23, qb_24, qb_26, qb_27, qb_30, qb_31, qb_32, qb_35, qb_36, qb_40, qb_44, qb_48, qb_49, qb_70, qb_81, qb_90, qb_96, qb_168, qb_217, qb_434, qb_442, qb_446, qb_450, qb_454, qb_455, qb_456, qb_457, qb_458, qb_466, qb_474, qb_478, qm_0, qm_1, qm_2, qm_3, qm_4, qm_5, qm_6, qm_7, qm_8, qm_9, qm_10, qm_12, qm_16, qm_20, qm_21, qm_22, qm_23, qm_24, qm_26, qm_27, qm_30, qm_31, qm_32, qm_35, qm_36, qm_40, qm_44, qm_48, qm_49, qm_70, qm_81, qm_90, qm_96, qm_168, qm_217, qm_434, qm_442, qm_446, qm_450, qm_454, qm_455, qm_456, qm_457, qm_458, qm_466, qm_474, qm_478, ql_0, ql_1, ql_2, ql_3, ql_4, ql_5, ql_6, ql_7, ql_8, ql_9, ql_10, ql_12, ql_16, ql_20, ql_21, ql_22, ql_23, ql_24, ql_26, ql_27, ql_30, ql_31, ql_32, ql_35, ql_36, ql_40, ql_44, ql_48, ql_49, ql_70, ql_81, ql_90, ql_96, ql_168, ql_217, ql_434, ql_442, ql_446, ql_450, ql_454, ql_455, ql_456, ql_457, ql_458, ql_466, ql_474, ql_478, nI_add, q_cl, q_in, true_and]
    refine m_copyAll (49 + 21 * (u - 1)) 0 21 (by omega) (by omega) (by omega) ?_
    rw [kcp_n (by omega), ku_eq]
    refine ⟨rfl, ?_⟩
    have hb := v6 (u - 1) (by omega)
    have ei : (x + 8 - u + (u - 1)) % 8 = (x + 7) % 8 := by omega
    rw [ei] at hb
    refine h.now (fun c i j hc => a1 c i j (by omega)) a2 (fun j _ _ => by rw [kcp_n (by omega), ku_ne (by omega)]) (fun c j hc => by rw [kcp_n (by omega), ku_ne (by omega)]) rfl ?_
    have r4 := ok.2.2.2.1
    have hcm : ceqF (rmd (kcp (ku Mm 1 0 48 (nI (u - 1))) 1 0 (49 + 21 * (u - 1)) 1 0 0 21) 0) (rmd Mm (0 + 49 + 21 * (u - 1))) := by
      refine rmd_cp (fun j hj => ?_)
      rw [kcp_i (e := 49 + 21 * (u - 1) + j) (by omega) (by omega) (by omega), ku_ne (by omega), Nat.zero_add]
    have hmm := mok.cg a3.w r4 hb.2
    have hf : ∀ f j, f < 9 → j < flen f → ¬ (f = 0 ∧ j = 3) → f ≠ 3 → f ≠ 5 → f ≠ 6 → f ≠ 7 → rx M' 0 f j = rx Mx 0 f j ∧ rmd (kcp (ku Mm 1 0 48 (nI (u - 1))) 1 0 (49 + 21 * (u - 1)) 1 0 0 21) 0 f j = rmd Mm 0 f j := by
      intro f j hf hj h03 h3 h5 h6 h7
      refine ⟨?_, ?_⟩
      · rcases (show f = 0 ∨ f = 1 ∨ f = 2 ∨ f = 4 ∨ f = 8 by omega) with rfl | rfl | rfl | rfl | rfl <;> exact a1 _ 0 j (by omega)
      · have hw : 20 < wof f j := by
          rcases (show f = 0 ∨ f = 1 ∨ f = 2 ∨ f = 4 ∨ f = 8 by omega) with rfl | rfl | rfl | rfl | rfl
          · have hj' : j < 4 := hj
            rcases (show j = 0 ∨ j = 1 ∨ j = 2 by omega) with rfl | rfl | rfl <;> decide
          · show 20 < 24 + j; omega
          · show 20 < 32 + j; omega
          · show 20 < 40 + j; omega
          · show 20 < 44 + j; omega
        have hw2 := wof_lt f hf j hj
        rw [wof_rmd hf hj, wof_rmd hf hj, kcp_n (by omega), ku_ne (by omega)]
    have hfl : ∀ f, fln (rx M' 0) f = fln (rx Mx 0) f := by
      intro f
      unfold fln
      rw [(hf 0 0 (by decide) (by decide) (by decide) (by decide) (by decide) (by decide) (by decide)).1, (hf 0 1 (by decide) (by decide) (by decide) (by decide) (by decide) (by decide) (by decide)).1]
    have hfS : ∀ f j, j < fln (rx Mx 0) f → (f = 3 → j < S) ∧ (f = 5 ∨ f = 6 ∨ f = 7 → j < r) := by
      intro f j hj
      have h8 := ok.2.1
      unfold fln at hj
      rw [ok.1, ok.2.2.1, q_cl (by omega), q_cl (by omega)] at hj
      refine ⟨fun e => ?_, fun e => ?_⟩
      · subst e
        rw [if_neg (by omega), if_pos (by omega)] at hj
        omega
      · rw [if_neg (by omega), if_neg (by omega)] at hj
        omega
    refine ⟨S, r, fun f j hf' hj0 => ?_, ?_, ?_, u - 1, (x + 7) % 8, by omega, Nat.mod_lt _ (by decide), a4, a5, by rw [kcp_n (by omega)]; exact ku_eq, fun i hi => ?_⟩
    · have hj : j < flen f := Nat.lt_of_lt_of_le hj0 (fln_le _ _)
      rw [hfl] at hj0
      by_cases h03 : f = 0 ∧ j = 3
      · obtain ⟨rfl, rfl⟩ := h03
        exact (a3.1.trans hb.1.1).trans hcm.1.symm
      · by_cases hc : f = 3 ∨ f = 5 ∨ f = 6 ∨ f = 7
        · exact ((a3.2 f j hc hj).trans (hb.1.2 f j hc ⟨hj, (hfS f j hj0).1, fun e => (hfS f j hj0).2 (by omega)⟩)).trans (hcm.2 f j hc hj).symm
        · have := hf f j hf' hj h03 (by omega) (by omega) (by omega) (by omega)
          rw [this.1, this.2]
          exact q f j hf' hj0
    · refine ⟨?_, ok.2.1, ?_, r4, hmm.1⟩
      · rw [(hf 0 0 (by decide) (by decide) (by decide) (by decide) (by decide) (by decide) (by decide)).1]
        exact ok.1
      · rw [(hf 0 1 (by decide) (by decide) (by decide) (by decide) (by decide) (by decide) (by decide)).1]
        exact ok.2.2.1
    · refine ⟨fun j hj => ?_, hmm.mono.2⟩
      have hS := ok.2.1
      rw [(hf 1 j (by decide) (by first | (show _ < 4; omega) | (show _ < 8; omega) | exact fln_s (by assumption) (by omega) (by omega) (by omega) | exact fln_r (by assumption) (by omega) (by omega)) (by omega) (by decide) (by decide) (by decide) (by decide)).1]
      exact bd.1 j hj
    · have ej : ((x + 7) % 8 + 8 - (u - 1) + i) % 8 = (x + 8 - u + i) % 8 := by omega
      rw [ej, mkx_cg (fun j => a1 15 0 j (by omega))]
      have h6 := v6 i (by omega)
      refine ⟨h6.1.trans (ceq.symm (ceqF.w (rmd_cgc (fun j z1 z2 => ?_)))), h6.2.mono⟩
      rw [kcp_n (by omega), ku_ne (by omega)]
  · have hu0 : u = 0 := by
      rw [v3] at c
      exact (q_eq (a := u) (b := 0) (by omega) (by omega)).mp c
    subst hu0
    exact kct (by decide) (Nat.le_of_ble_eq_true rfl) (bX6_undo_0 Mm _ ⟨fun z => absurd v5 z, fun _ => ⟨rfl, h.mono⟩⟩)
end KI
