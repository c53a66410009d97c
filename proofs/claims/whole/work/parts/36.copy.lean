/-! ===== copy ===== -/
theorem kcpl_i {M : kM} {c0 k0 sp c k dp n d e : Nat} (h1 : dp ≤ d) (h2 : d < dp + n) (he : sp + (d - dp) = e) : (kcpl M c0 k0 sp c k dp n).2 c k d = M.2 c0 k0 e := by
  subst he
  exact if_pos ⟨rfl, rfl, h1, h2⟩
theorem kcpl_n {M : kM} {c0 k0 sp c k dp n a b d : Nat} (h : ¬ (a = c ∧ b = k ∧ dp ≤ d ∧ d < dp + n)) : (kcpl M c0 k0 sp c k dp n).2 a b d = M.2 a b d := if_neg h
section KCO
variable {l : Launch} {g g1 g2 : va_G × (Nat → ClassId) × (Nat → Nat → Nat)} {M Mx Mm : kM} {n : Nat} {Q : Int32 → kM → Prop}
theorem m_copyLoop (s i t j m : Nat) (hs : s < 4) (ht : t < 4) (hi : i + m ≤ 24) (hj : j + m ≤ 24) (h : ∀ M', M'.1 = M.1 → (∀ d, ¬ (24 * t + j ≤ d ∧ d < 24 * t + j + m) → M'.2 3 0 d = M.2 3 0 d) → (∀ k, k < m → M'.2 3 0 (24 * t + j + k) = M.2 3 0 (24 * s + i + k)) → Q (nI m) M') : kWP l (rg_m, g) mX6_copy 96 [(0, .inr (.inr (0, 0))), (1, .inl (nI s)), (2, .inl (nI i)), (3, .inl (nI t)), (4, .inl (nI j)), (5, .inl (nI m)), (6, .inl 0)] [] M (kqi Q) := by
  have key2 : ∀ f k, k + f = m → ∀ M' : kM, M'.1 = M.1 → (∀ d, ¬ (24 * t + j ≤ d ∧ d < 24 * t + j + m) → M'.2 3 0 d = M.2 3 0 d) → (∀ k, k < m → M'.2 9 0 k = M.2 3 0 (24 * s + i + k)) → (∀ a, a < k → M'.2 3 0 (24 * t + j + a) = M.2 3 0 (24 * s + i + a)) → kWP l (rg_m, g) mX6_copy 133 [(0, .inr (.inr (0, 0))), (3, .inl (nI t)), (4, .inl (nI j)), (5, .inl (nI m)), (6, .inl (nI k))] [] M' (kqi Q) := by
    intro f
    induction f with
    | zero =>
      intro k hk M' e1 e2 e3 e4
      obtain rfl : k = m := by omega
      exact bX6_copy_133 _ _ _ _ M' Q ⟨fun _ => h M' e1 e2 e4, fun z => absurd (nI_le (Nat.le_refl k) (by omega)) z⟩
    | succ f ih =>
      intro k hk M' e1 e2 e3 e4
      refine bX6_copy_133 _ _ _ _ M' Q ⟨fun z => ?_, fun _ => ?_⟩
      · rw [q_le (by omega) (by omega)] at z
        omega
      · simp (disch := omega) only [qa_0, qa_1, qa_2, qa_3, qa_4, qa_5, qa_6, qa_7, qa_8, qa_9, qa_10, qa_12, qa_16, qa_20, qa_21, qa_22, qa_23, qa_24, qa_26, qa_27, qa_30, qa_31, qa_32, qa_35, qa_36, qa_40, qa_44, qa_48, qa_49, qa_70, qa_81, qa_90, qa_96, qa_168, qa_217, qa_434, qa_442, qa_446, qa_450, qa_454, qa_455, qa_456, qa_457, qa_458, qa_466, qa_474, qa_478, qb_0, qb_1, qb_2, qb_3, qb_4, qb_5, qb_6, qb_7, qb_8, qb_9, qb_10, qb_12, qb_16, qb_20, qb_21, qb_22, qb_23, qb_24, qb_26, qb_27, qb_30, qb_31, qb_32, qb_35, qb_36, qb_40, qb_44, qb_48, qb_49, qb_70, qb_81, qb_90, qb_96, qb_168, qb_217, qb_434, qb_442, qb_446, qb_450, qb_454, qb_455, qb_456, qb_457, qb_458, qb_466, qb_474, qb_478, qm_0, qm_1, qm_2, qm_3, qm_4, qm_5, qm_6, qm_7, qm_8, qm_9, qm_10, qm_12, qm_16, qm_20, qm_21, qm_22, qm_23, qm_24, qm_26, qm_27, qm_30, qm_31, qm_32, qm_35, qm_36, qm_40, qm_44, qm_48, qm_49, qm_70, qm_81, qm_90, qm_96, qm_168, qm_217, qm_434, qm_442, qm_446, qm_450, qm_454, qm_455, qm_456, qm_457, qm_458, qm_466, qm_474, qm_478, ql_0, ql_1, ql_2, ql_3, ql_4, ql_5, ql_6, ql_7, ql_8, ql_9, ql_10, ql_12, ql_16, ql_20, ql_21, ql_22, ql_23, ql_24, ql_26, ql_27, ql_30, ql_31, ql_32, ql_35, ql_36, ql_40, ql_44, ql_48, ql_49, ql_70, ql_81, ql_90, ql_96, ql_168, ql_217, ql_434, ql_442, ql_446, ql_450, ql_454, ql_455, ql_456, ql_457, ql_458, ql_466, ql_474, ql_478, nI_add, q_cl, q_in, true_and]
        rintro M1 rfl z2 rfl
        refine ih (k + 1) (by omega) _ e1 (fun d hd => ?_) (fun a ha => ?_) (fun a ha => ?_)
        · rw [kul_ne (by omega)]
          exact e2 d hd
        · rw [kul_ne (by omega)]
          exact e3 a ha
        · by_cases e : a = k
          · subst e
            rw [kul_eq]
            exact e3 a (by omega)
          · rw [kul_ne (by omega)]
            exact e4 a (by omega)
  have key1 : ∀ f k, k + f = m → ∀ M' : kM, M'.1 = M.1 → (∀ d, M'.2 3 0 d = M.2 3 0 d) → (∀ a, a < k → M'.2 9 0 a = M.2 3 0 (24 * s + i + a)) → kWP l (rg_m, g) mX6_copy 96 [(0, .inr (.inr (0, 0))), (1, .inl (nI s)), (2, .inl (nI i)), (3, .inl (nI t)), (4, .inl (nI j)), (5, .inl (nI m)), (6, .inl (nI k))] [] M' (kqi Q) := by
    intro f
    induction f with
    | zero =>
      intro k hk M' e1 e2 e3
      obtain rfl : k = m := by omega
      exact bX6_copy_96 _ _ _ _ _ _ M' Q ⟨fun _ => key2 k 0 (by omega) M' e1 (fun d _ => e2 d) e3 (fun a ha => by omega), fun z => absurd (nI_le (Nat.le_refl k) (by omega)) z⟩
    | succ f ih =>
      intro k hk M' e1 e2 e3
      refine bX6_copy_96 _ _ _ _ _ _ M' Q ⟨fun z => ?_, fun _ => ?_⟩
      · rw [q_le (by omega) (by omega)] at z
        omega
      · simp (disch := omega) only [qa_0, qa_1, qa_2, qa_3, qa_4, qa_5, qa_6, qa_7, qa_8, qa_9, qa_10, qa_12, qa_16, qa_20, qa_21, qa_22, qa_23, qa_24, qa_26, qa_27, qa_30, qa_31, qa_32, qa_35, qa_36, qa_40, qa_44, qa_48, qa_49, qa_70, qa_81, qa_90, qa_96, qa_168, qa_217, qa_434, qa_442, qa_446, qa_450, qa_454, qa_455, qa_456, qa_457, qa_458, qa_466, qa_474, qa_478, qb_0, qb_1, qb_2, qb_3, qb_4, qb_5, qb_6, qb_7, qb_8, qb_9, qb_10, qb_12, qb_16, qb_20, qb_21, qb_22, qb_23, qb_24, qb_26, qb_27, qb_30, qb_31, qb_32, qb_35, qb_36, qb_40, qb_44, qb_48, qb_49, qb_70, qb_81, qb_90, qb_96, qb_168, qb_217, qb_434, qb_442, qb_446, qb_450, qb_454, qb_455, qb_456, qb_457, qb_458, qb_466, qb_474, qb_478, qm_0, qm_1, qm_2, qm_3, qm_4, qm_5, qm_6, qm_7, qm_8, qm_9, qm_10, qm_12, qm_16, qm_20, qm_21, qm_22, qm_23, qm_24, qm_26, qm_27, qm_30, qm_31, qm_32, qm_35, qm_36, qm_40, qm_44, qm_48, qm_49, qm_70, qm_81, qm_90, qm_96, qm_168, qm_217, qm_434, qm_442, qm_446, qm_450, qm_454, qm_455, qm_456, qm_457, qm_458, qm_466, qm_474, qm_478, ql_0, ql_1, ql_2, ql_3, ql_4, ql_5, ql_6, ql_7, ql_8, ql_9, ql_10, ql_12, ql_16, ql_20, ql_21, ql_22, ql_23, ql_24, ql_26, ql_27, ql_30, ql_31, ql_32, ql_35, ql_36, ql_40, ql_44, ql_48, ql_49, ql_70, ql_81, ql_90, ql_96, ql_168, ql_217, ql_434, ql_442, ql_446, ql_450, ql_454, ql_455, ql_456, ql_457, ql_458, ql_466, ql_474, ql_478, nI_add, q_cl, q_in, true_and]
        rintro M1 rfl z2 rfl
        refine ih (k + 1) (by omega) _ e1 (fun d => ?_) (fun a ha => ?_)
        · rw [kul_ne (by omega)]
          exact e2 d
        · by_cases e : a = k
          · subst e
            rw [kul_eq]
            exact e2 _
          · rw [kul_ne (by omega)]
            exact e3 a (by omega)
  exact key1 m 0 (by omega) M rfl (fun _ => rfl) (fun a ha => by omega)
theorem pair_copy (h : Inv n Mx Mm) (a1 a2 a3 a4 a5 : Int32) : kPair l g1 g2 mX5_copy mX6_copy [.inl a1, .inl a2, .inl a3, .inl a4, .inl a5] Mx Mm (Inv (n + 1)) := by
  refine kct (by decide) (Nat.le_of_ble_eq_true rfl) (bX5_copy_0 a1 a2 a3 a4 a5 Mx _ (x_isSheet _ ⟨fun c1 => ?_, fun c1 => x_isSheet _ ⟨fun c2 => ?_, fun c2 => ?_⟩⟩))
  · refine bX5_copy_14 _ _ ?_
    exact kct (by decide) (Nat.le_of_ble_eq_true rfl) (bX6_copy_0 _ _ _ _ _ Mm _ (m_isSheet _ ⟨fun _ => bX6_copy_14 _ _ ⟨rfl, h.mono⟩, fun z => absurd c1 z⟩))
  · have c1' := c1
    have c2' := c2
    obtain ⟨s, s0, s3, rfl⟩ := wth_rg (lo := 0) (hi := 3) (by decide) (by decide) c1
    obtain ⟨t, t0, t3, rfl⟩ := wth_rg (lo := 0) (hi := 3) (by decide) (by decide) c2
    simp (disch := omega) only [qa_0, qa_1, qa_2, qa_3, qa_4, qa_5, qa_6, qa_7, qa_8, qa_9, qa_10, qa_12, qa_16, qa_20, qa_21, qa_22, qa_23, qa_24, qa_26, qa_27, qa_30, qa_31, qa_32, qa_35, qa_36, qa_40, qa_44, qa_48, qa_49, qa_70, qa_81, qa_90, qa_96, qa_168, qa_217, qa_434, qa_442, qa_446, qa_450, qa_454, qa_455, qa_456, qa_457, qa_458, qa_466, qa_474, qa_478, qb_0, qb_1, qb_2, qb_3, qb_4, qb_5, qb_6, qb_7, qb_8, qb_9, qb_10, qb_12, qb_16, qb_20, qb_21, qb_22, qb_23, qb_24, qb_26, qb_27, qb_30, qb_31, qb_32, qb_35, qb_36, qb_40, qb_44, qb_48, qb_49, qb_70, qb_81, qb_90, qb_96, qb_168, qb_217, qb_434, qb_442, qb_446, qb_450, qb_454, qb_455, qb_456, qb_457, qb_458, qb_466, qb_474, qb_478, qm_0, qm_1, qm_2, qm_3, qm_4, qm_5, qm_6, qm_7, qm_8, qm_9, qm_10, qm_12, qm_16, qm_20, qm_21, qm_22, qm_23, qm_24, qm_26, qm_27, qm_30, qm_31, qm_32, qm_35, qm_36, qm_40, qm_44, qm_48, qm_49, qm_70, qm_81, qm_90, qm_96, qm_168, qm_217, qm_434, qm_442, qm_446, qm_450, qm_454, qm_455, qm_456, qm_457, qm_458, qm_466, qm_474, qm_478, ql_0, ql_1, ql_2, ql_3, ql_4, ql_5, ql_6, ql_7, ql_8, ql_9, ql_10, ql_12, ql_16, ql_20, ql_21, ql_22, ql_23, ql_24, ql_26, ql_27, ql_30, ql_31, ql_32, ql_35, ql_36, ql_40, ql_44, ql_48, ql_49, ql_70, ql_81, ql_90, ql_96, ql_168, ql_217, ql_434, ql_442, ql_446, ql_450, ql_454, ql_455, ql_456, ql_457, ql_458, ql_466, ql_474, ql_478, nI_add, q_cl, q_in, true_and]
    have start : ∀ {Qm : Int32 → kM → Prop}, ((Mm.1 5 0 s < 0 → Qm (-11) Mm) ∧ (¬ Mm.1 5 0 s < 0 → (¬ 0 ≤ Mm.1 5 0 t → Qm (-11) Mm) ∧ (0 ≤ Mm.1 5 0 t → (¬ Mm.1 4 0 s = Mm.1 4 0 t → Qm (-12) Mm) ∧ (Mm.1 4 0 s = Mm.1 4 0 t → kCT l (rg_m, g2) mX6_against [.inr (.inr (0, 0)), .inl (nI s), .inl (Mm.1 4 0 s), .inl a2, .inl a5] Mm (kqi (fun r6 M5 => (r6 < 0 → Qm (-13) M5) ∧ (¬ r6 < 0 → kCT l (rg_m, g2) mX6_against [.inr (.inr (0, 0)), .inl (nI t), .inl (M5.1 4 0 t), .inl a4, .inl a5] M5 (kqi (fun r8 M7 => (0 ≤ r8 → kWP l (rg_m, g2) mX6_copy 96 [(0, .inr (.inr (0, 0))), (1, .inl (nI s)), (2, .inl a2), (3, .inl (nI t)), (4, .inl a4), (5, .inl a5), (6, .inl 0)] [] M7 (kqi Qm)) ∧ (¬ 0 ≤ r8 → Qm (-13) M7)))))))))) → kCT l (rg_m, g2) mX6_copy [.inr (.inr (0, 0)), .inl (nI s), .inl a2, .inl (nI t), .inl a4, .inl a5] Mm (kqi Qm) := by
      intro Qm hq
      refine kct (by decide) (Nat.le_of_ble_eq_true rfl) (bX6_copy_0 _ _ _ _ _ Mm _ (m_isSheet _ ⟨fun z => absurd z c1', fun _ => m_isSheet _ ⟨fun _ => ?_, fun z => absurd z c2'⟩⟩))
      simp (disch := omega) only [qa_0, qa_1, qa_2, qa_3, qa_4, qa_5, qa_6, qa_7, qa_8, qa_9, qa_10, qa_12, qa_16, qa_20, qa_21, qa_22, qa_23, qa_24, qa_26, qa_27, qa_30, qa_31, qa_32, qa_35, qa_36, qa_40, qa_44, qa_48, qa_49, qa_70, qa_81, qa_90, qa_96, qa_168, qa_217, qa_434, qa_442, qa_446, qa_450, qa_454, qa_455, qa_456, qa_457, qa_458, qa_466, qa_474, qa_478, qb_0, qb_1, qb_2, qb_3, qb_4, qb_5, qb_6, qb_7, qb_8, qb_9, qb_10, qb_12, qb_16, qb_20, qb_21, qb_22, qb_23, qb_24, qb_26, qb_27, qb_30, qb_31, qb_32, qb_35, qb_36, qb_40, qb_44, qb_48, qb_49, qb_70, qb_81, qb_90, qb_96, qb_168, qb_217, qb_434, qb_442, qb_446, qb_450, qb_454, qb_455, qb_456, qb_457, qb_458, qb_466, qb_474, qb_478, qm_0, qm_1, qm_2, qm_3, qm_4, qm_5, qm_6, qm_7, qm_8, qm_9, qm_10, qm_12, qm_16, qm_20, qm_21, qm_22, qm_23, qm_24, qm_26, qm_27, qm_30, qm_31, qm_32, qm_35, qm_36, qm_40, qm_44, qm_48, qm_49, qm_70, qm_81, qm_90, qm_96, qm_168, qm_217, qm_434, qm_442, qm_446, qm_450, qm_454, qm_455, qm_456, qm_457, qm_458, qm_466, qm_474, qm_478, ql_0, ql_1, ql_2, ql_3, ql_4, ql_5, ql_6, ql_7, ql_8, ql_9, ql_10, ql_12, ql_16, ql_20, ql_21, ql_22, ql_23, ql_24, ql_26, ql_27, ql_30, ql_31, ql_32, ql_35, ql_36, ql_40, ql_44, ql_48, ql_49, ql_70, ql_81, ql_90, ql_96, ql_168, ql_217, ql_434, ql_442, ql_446, ql_450, ql_454, ql_455, ql_456, ql_457, ql_458, ql_466, ql_474, ql_478, nI_add, q_cl, q_in, true_and]
      refine ⟨fun k1 => bX6_copy_34 _ _ (hq.1 k1), fun k1 => ⟨fun k2 => ⟨fun k3 => ?_, fun k3 => ((hq.2 k1).2 k2).1 k3⟩, fun k2 => bX6_copy_34 _ _ ((hq.2 k1).1 k2)⟩⟩
      refine kCT.mono (((hq.2 k1).2 k2).2 k3) (fun v M5 hv => ?_)
      obtain ⟨r6, rfl, hv⟩ := hv
      refine ⟨r6, rfl, fun k4 => bX6_copy_90 _ _ (hv.1 k4), fun k4 => kCT.mono (hv.2 k4) (fun v M7 hw => ?_)⟩
      obtain ⟨r8, rfl, hw⟩ := hw
      exact ⟨r8, rfl, fun k5 => hw.1 k5, fun k5 => bX6_copy_90 _ _ (hw.2 k5)⟩
    rcases h.2.2.2 s (by omega) with ⟨i1, i2⟩ | ⟨z, z1, z2, z3, z4, z5, z6⟩
    · refine x_isMissing s (fun _ => ⟨fun _ => bX5_copy_48 _ _ (start ?_), fun q => absurd q (by decide)⟩) (fun q => absurd i1 q)
      rw [i2]
      exact ⟨fun _ => ⟨rfl, h.mono⟩, fun q => absurd (by decide) q⟩
    · refine x_isMissing s (fun q => absurd q z2) (fun _ => ⟨fun q => absurd rfl q, fun _ => ?_⟩)
      rcases h.2.2.2 t (by omega) with ⟨j1, j2⟩ | ⟨y, y1, y2, y3, y4, y5, y6⟩
      · refine x_isMissing t (fun _ => ⟨fun q => absurd q (by decide), fun _ => bX5_copy_48 _ _ (start ?_)⟩) (fun q => absurd j1 q)
        rw [z5, j2]
        exact ⟨fun q => absurd q (nI_pos (by omega)), fun _ => ⟨fun _ => ⟨rfl, h.mono⟩, fun q => absurd q (by decide)⟩⟩
      · refine x_isMissing t (fun q => absurd q y2) (fun _ => ⟨fun _ => ⟨fun c3 => ?_, fun c3 => start ?_⟩, fun q => absurd rfl q⟩)
        · have nz : ∀ {z : Nat} {s : Nat}, z ≤ 24 → Mm.1 5 0 s = nI z → ¬ Mm.1 5 0 s = -1 := by
            intro z s z1 z5
            rw [z5]
            intro q
            have h1 := nI_toInt (n := z) (by omega)
            rw [q] at h1
            have : (-1 : Int32).toInt = -1 := by decide
            omega
          have c3m : Mm.1 4 0 s = Mm.1 4 0 t := by rw [← z3, ← y3]; exact c3
          refine x_holds s z z1 z4 (fun c4 => ⟨fun q => absurd q (by decide), fun _ => ?_⟩) (fun c4 => ⟨fun _ => bX5_copy_90 _ _ (start ?_), fun q => absurd rfl q⟩)
          · refine x_holds t y y1 y4 (fun c5 => ⟨fun _ => ?_, fun q => absurd q (by decide)⟩) (fun c5 => ⟨fun q => absurd rfl q, fun _ => bX5_copy_90 _ _ (start ?_)⟩)
            · have c4' := c4
              have c5' := c5
              obtain ⟨k1, k2, k3⟩ := c4
              obtain ⟨k4, k5, k6⟩ := c5
              obtain ⟨i, hi, rfl⟩ := nI_of k1
              obtain ⟨m, hm, rfl⟩ := nI_of k2
              obtain ⟨j, hj, rfl⟩ := nI_of k4
              rw [q_cl hi, q_cl hm] at k3
              rw [q_cl hj, q_cl hm] at k6
              rw [q_cl hi, q_cl hm, q_cl hj]
              refine ⟨⟨k1, k4, k2, by omega, by omega⟩, ?_⟩
              rintro M13 rfl
              refine start ?_
              rw [z5, y5]
              refine ⟨fun q => absurd q (nI_pos (by omega)), fun _ => ⟨fun q => absurd (nI_pos' (by omega)) q, fun _ => ⟨fun q => absurd c3m q, fun _ => ?_⟩⟩⟩
              refine m_against s z (by omega) z1 (Or.inr z5) (fun q => absurd q (nz z1 z5)) (fun _ q => absurd rfl q) (fun _ _ q => absurd c4' q) (fun _ _ _ => ⟨fun q => absurd q (by decide), fun _ => ?_⟩)
              refine m_against t y (by omega) y1 (Or.inr y5) (fun q => absurd q (nz y1 y5)) (fun _ q => absurd rfl q) (fun _ _ q => absurd c5' q) (fun _ _ _ => ⟨fun _ => ?_, fun q => absurd (by decide) q⟩)
              refine m_copyLoop s i t j m (by omega) (by omega) (by omega) (by omega) (fun M' e1 e2 e3 => ⟨rfl, ?_⟩)
              refine h.sheet t (fun c i j hc => rfl) (fun i j hi => kcpl_n (by omega)) (fun c j hc => by rw [e1]) (fun d hd => e2 d (by omega)) ?_
              refine Or.inr ⟨y, y1, y2, ?_, y4, ?_, fun d hd => ?_⟩
              · rw [e1]
                exact y3
              · rw [e1]
                exact y5
              · by_cases e : j ≤ d ∧ d < j + m
                · obtain ⟨k, rfl⟩ : ∃ k, d = j + k := ⟨d - j, by omega⟩
                  rw [kcpl_i (e := i + k) (by omega) (by omega) (by omega), ← Nat.add_assoc, e3 k (by omega)]
                  have := z6 (i + k) (by omega)
                  rw [← Nat.add_assoc] at this
                  exact this
                · rw [kcpl_n (by omega), e2 _ (by omega)]
                  exact y6 d hd
            · rw [z5, y5]
              refine ⟨fun q => absurd q (nI_pos (by omega)), fun _ => ⟨fun q => absurd (nI_pos' (by omega)) q, fun _ => ⟨fun q => absurd c3m q, fun _ => ?_⟩⟩⟩
              refine m_against s z (by omega) z1 (Or.inr z5) (fun q => absurd q (nz z1 z5)) (fun _ q => absurd rfl q) (fun _ _ q => absurd c4 q) (fun _ _ _ => ⟨fun q => absurd q (by decide), fun _ => ?_⟩)
              exact m_against t y (by omega) y1 (Or.inr y5) (fun q => absurd q (nz y1 y5)) (fun _ q => absurd rfl q) (fun _ _ _ => ⟨fun q => absurd q (by decide), fun _ => ⟨rfl, h.mono⟩⟩) (fun _ _ q => absurd q c5)
          · rw [z5, y5]
            refine ⟨fun q => absurd q (nI_pos (by omega)), fun _ => ⟨fun q => absurd (nI_pos' (by omega)) q, fun _ => ⟨fun q => absurd c3m q, fun _ => ?_⟩⟩⟩
            exact m_against s z (by omega) z1 (Or.inr z5) (fun q => absurd q (nz z1 z5)) (fun _ q => absurd rfl q) (fun _ _ _ => ⟨fun _ => ⟨rfl, h.mono⟩, fun q => absurd (by decide) q⟩) (fun _ _ q => absurd q c4)
        · rw [z5, y5]
          refine ⟨fun q => absurd q (nI_pos (by omega)), fun _ => ⟨fun q => absurd (nI_pos' (by omega)) q, fun _ => ⟨fun _ => ⟨rfl, h.mono⟩, fun q => absurd (by rw [z3, y3]; exact q) c3⟩⟩⟩
  · refine bX5_copy_14 _ _ ?_
    exact kct (by decide) (Nat.le_of_ble_eq_true rfl) (bX6_copy_0 _ _ _ _ _ Mm _ (m_isSheet _ ⟨fun z => absurd z c1, fun _ => m_isSheet _ ⟨fun z => absurd c2 z, fun _ => bX6_copy_14 _ _ ⟨rfl, h.mono⟩⟩⟩))
end KCO
