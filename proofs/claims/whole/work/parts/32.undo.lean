/-! ===== what is known of earlier times ===== -/
theorem kcp_i {M : kM} {c0 k0 sp c k dp n d e : Nat} (h1 : dp ≤ d) (h2 : d < dp + n) (he : sp + (d - dp) = e) : (kcp M c0 k0 sp c k dp n).1 c k d = M.1 c0 k0 e := by
  subst he
  exact if_pos ⟨rfl, rfl, h1, h2⟩
theorem kcp_n {M : kM} {c0 k0 sp c k dp n a b d : Nat} (h : ¬ (a = c ∧ b = k ∧ dp ≤ d ∧ d < dp + n)) : (kcp M c0 k0 sp c k dp n).1 a b d = M.1 a b d := if_neg h
theorem kcp_2 {M : kM} {c0 k0 sp c k dp n : Nat} : (kcp M c0 k0 sp c k dp n).2 = M.2 := rfl
theorem kcp_0 {M : kM} {c0 k0 sp c k dp : Nat} : kcp M c0 k0 sp c k dp 0 = M := by
  unfold kcp
  refine Prod.ext ?_ rfl
  funext a b d
  exact if_neg (by omega)
section KU
variable {l : Launch} {g : va_G × (Nat → ClassId) × (Nat → Nat → Nat)} {M : kM} {Q : Int32 → kM → Prop} {Qv : kM → Prop}
theorem kcp_s {M : kM} {a b i : Nat} (h3 : b ≤ a ∨ a + i < b) : ku (kcp M 1 0 a 1 0 b i) 1 0 (b + i) ((kcp M 1 0 a 1 0 b i).1 1 0 (a + i)) = kcp M 1 0 a 1 0 b (i + 1) := by
  rw [kcp_n (by omega)]
  unfold ku kcp
  refine Prod.ext ?_ rfl
  funext x y d
  by_cases q : x = 1 ∧ y = 0 ∧ d = b + i
  · obtain ⟨rfl, rfl, rfl⟩ := q
    show (if _ then _ else _) = _
    rw [if_pos ⟨rfl, rfl, rfl⟩]
    show _ = (if _ then _ else _)
    rw [if_pos (by omega)]
    exact congrArg (M.1 1 0) (by omega)
  · show (if _ then _ else (if _ then _ else _)) = (if _ then _ else _)
    rw [if_neg q]
    by_cases q2 : x = 1 ∧ y = 0 ∧ b ≤ d ∧ d < b + i
    · rw [if_pos q2, if_pos (by omega)]
    · rw [if_neg q2, if_neg (by omega)]
theorem m_copyAll (a b c : Nat) (h1 : a + c ≤ 483) (h2 : b + c ≤ 483) (h3 : b ≤ a ∨ a + c ≤ b) (h : Qv (kcp M 1 0 a 1 0 b c)) : kCT l (rg_m, g) mX6_copyAll [.inr (.inr (0, 0)), .inl (nI a), .inl (nI b), .inl (nI c)] M (kqv Qv) := by
  refine kct (by decide) (Nat.le_of_ble_eq_true rfl) (bX6_copyAll_0 _ _ _ M Qv ?_)
  have key : ∀ f i, i + f = c → kWP l (rg_m, g) mX6_copyAll 3 [(0, .inr (.inr (0, 0))), (1, .inl (nI a)), (2, .inl (nI b)), (3, .inl (nI c)), (4, .inl (nI i))] [] (kcp M 1 0 a 1 0 b i) (kqv Qv) := by
    intro f
    induction f with
    | zero =>
      intro i hi
      obtain rfl : i = c := by omega
      exact bX6_copyAll_3 _ _ _ _ _ Qv ⟨fun _ => h, fun z => absurd (nI_le (Nat.le_refl i) (by omega)) z⟩
    | succ f ih =>
      intro i hi
      refine bX6_copyAll_3 _ _ _ _ _ Qv ⟨fun z => ?_, fun _ => ?_⟩
      · rw [q_le (by omega) (by omega)] at z
        omega
      · simp (disch := omega) only [qa_0, qa_1, qa_2, qa_3, qa_4, qa_5, qa_6, qa_7, qa_8, qa_9, qa_10, qa_12, qa_16, qa_20, qa_21, qa_22, qa_23, qa_24, qa_26, qa_27, qa_30, qa_31, qa_32, qa_35, qa_36, qa_40, qa_44, qa_48, qa_49, qa_70, qa_81, qa_90, qa_96, qa_168, qa_217, qa_434, qa_442, qa_446, qa_450, qa_454, qa_455, qa_456, qa_457, qa_458, qa_466, qa_474, qa_478, qb_0, qb_1, qb_2, qb_3, qb_4, qb_5, qb_6, qb_7, qb_8, qb_9, qb_10, qb_12, qb_16, qb_20, qb_21, qb_22, qb_23, qb_24, qb_26, qb_27, qb_30, qb_31, qb_32, qb_35, qb_36, qb_40, qb_44, qb_48, qb_49, qb_70, qb_81, qb_90, qb_96, qb_168, qb_217, qb_434, qb_442, qb_446, qb_450, qb_454, qb_455, qb_456, qb_457, qb_458, qb_466, qb_474, qb_478, qm_0, qm_1, qm_2, qm_3, qm_4, qm_5, qm_6, qm_7, qm_8, qm_9, qm_10, qm_12, qm_16, qm_20, qm_21, qm_22, qm_23, qm_24, qm_26, qm_27, qm_30, qm_31, qm_32, qm_35, qm_36, qm_40, qm_44, qm_48, qm_49, qm_70, qm_81, qm_90, qm_96, qm_168, qm_217, qm_434, qm_442, qm_446, qm_450, qm_454, qm_455, qm_456, qm_457, qm_458, qm_466, qm_474, qm_478, ql_0, ql_1, ql_2, ql_3, ql_4, ql_5, ql_6, ql_7, ql_8, ql_9, ql_10, ql_12, ql_16, ql_20, ql_21, ql_22, ql_23, ql_24, ql_26, ql_27, ql_30, ql_31, ql_32, ql_35, ql_36, ql_40, ql_44, ql_48, ql_49, ql_70, ql_81, ql_90, ql_96, ql_168, ql_217, ql_434, ql_442, ql_446, ql_450, ql_454, ql_455, ql_456, ql_457, ql_458, ql_466, ql_474, ql_478, nI_add, q_cl, q_in, true_and]
        rintro M1 rfl z2 rfl
        rw [kcp_s (by omega)]
        exact ih (i + 1) (by omega)
  have := key c 0 (by omega)
  rw [kcp_0] at this
  exact this
theorem rem8 {a : Nat} (h : a < 1000) : nI a - nI a / 8 * 8 = nI (a % 8) := pk_rem (a := a) (d := 8) (by omega) (by decide) (by decide)
theorem x_mark (x u : Nat) (hx : x < 8) (hu : u ≤ 8) (h1 : M.1 2 0 1 = nI x) (h0 : M.1 2 0 0 = nI u)
    (h : ∀ M', (∀ c i j, ¬ (i = 0 ∧ (c = 2 ∨ c = 15)) → M'.1 c i j = M.1 c i j) → M'.2 = M.2 → ceqF (mkx M' 0 x) (rx M 0) → (∀ q, q < 8 → q ≠ x → ceqF (mkx M' 0 q) (mkx M 0 q)) → M'.1 2 0 0 = nI (if u = 8 then 8 else u + 1) → M'.1 2 0 1 = nI ((x + 1) % 8) → Qv M') :
    kCT l (rg_x, g) mX2_mark [.inr (.inr (2, 0)), .inr (.inr (1, 0))] M (kqv Qv) := by
  refine kct (by decide) (Nat.le_of_ble_eq_true rfl) (bX2_mark_0 0 0 M Qv ?_)
  rw [h1, show nI x * 21 = nI (x * 21) from pk_mul x 21]
  refine kct (by decide) (Nat.le_of_ble_eq_true rfl) (bX3_writeMoving_0 0 0 (nI (x * 21)) M _ ?_)
  have n0 : ∀ a : Nat, a < 1000 → ¬ nI a < 0 := fun a ha => nI_pos (by omega)
  have d0 : ¬ (0 : Int32) < 0 := by decide
  have d4 : ¬ (4 : Int32) < 0 := by decide
  have d8 : ¬ (8 : Int32) < 0 := by decide
  simp (disch := omega) only [qa_0, qa_1, qa_2, qa_3, qa_4, qa_5, qa_6, qa_7, qa_8, qa_9, qa_10, qa_12, qa_16, qa_20, qa_21, qa_22, qa_23, qa_24, qa_26, qa_27, qa_30, qa_31, qa_32, qa_35, qa_36, qa_40, qa_44, qa_48, qa_49, qa_70, qa_81, qa_90, qa_96, qa_168, qa_217, qa_434, qa_442, qa_446, qa_450, qa_454, qa_455, qa_456, qa_457, qa_458, qa_466, qa_474, qa_478, qb_0, qb_1, qb_2, qb_3, qb_4, qb_5, qb_6, qb_7, qb_8, qb_9, qb_10, qb_12, qb_16, qb_20, qb_21, qb_22, qb_23, qb_24, qb_26, qb_27, qb_30, qb_31, qb_32, qb_35, qb_36, qb_40, qb_44, qb_48, qb_49, qb_70, qb_81, qb_90, qb_96, qb_168, qb_217, qb_434, qb_442, qb_446, qb_450, qb_454, qb_455, qb_456, qb_457, qb_458, qb_466, qb_474, qb_478, qm_0, qm_1, qm_2, qm_3, qm_4, qm_5, qm_6, qm_7, qm_8, qm_9, qm_10, qm_12, qm_16, qm_20, qm_21, qm_22, qm_23, qm_24, qm_26, qm_27, qm_30, qm_31, qm_32, qm_35, qm_36, qm_40, qm_44, qm_48, qm_49, qm_70, qm_81, qm_90, qm_96, qm_168, qm_217, qm_434, qm_442, qm_446, qm_450, qm_454, qm_455, qm_456, qm_457, qm_458, qm_466, qm_474, qm_478, ql_0, ql_1, ql_2, ql_3, ql_4, ql_5, ql_6, ql_7, ql_8, ql_9, ql_10, ql_12, ql_16, ql_20, ql_21, ql_22, ql_23, ql_24, ql_26, ql_27, ql_30, ql_31, ql_32, ql_35, ql_36, ql_40, ql_44, ql_48, ql_49, ql_70, ql_81, ql_90, ql_96, ql_168, ql_217, ql_434, ql_442, ql_446, ql_450, ql_454, ql_455, ql_456, ql_457, ql_458, ql_466, ql_474, ql_478, nI_add, q_cl, q_in, true_and]
  refine ⟨⟨d0, n0 _ (by omega), d4, by omega, by omega⟩, ?_⟩
  rintro M1 rfl
  refine ⟨⟨d0, n0 _ (by omega), d4, by omega, by omega⟩, ?_⟩
  rintro M2 rfl
  refine ⟨⟨d0, n0 _ (by omega), d4, by omega, by omega⟩, ?_⟩
  rintro M3 rfl
  refine ⟨⟨d0, n0 _ (by omega), d8, by omega, by omega⟩, ?_⟩
  rintro M4 rfl M5 rfl M6 rfl M7 rfl
  simp (disch := omega) only [ku_ne, ku_eq, kcp_n, h1, h0, qa_0, qa_1, qa_2, qa_3, qa_4, qa_5, qa_6, qa_7, qa_8, qa_9, qa_10, qa_12, qa_16, qa_20, qa_21, qa_22, qa_23, qa_24, qa_26, qa_27, qa_30, qa_31, qa_32, qa_35, qa_36, qa_40, qa_44, qa_48, qa_49, qa_70, qa_81, qa_90, qa_96, qa_168, qa_217, qa_434, qa_442, qa_446, qa_450, qa_454, qa_455, qa_456, qa_457, qa_458, qa_466, qa_474, qa_478, qb_0, qb_1, qb_2, qb_3, qb_4, qb_5, qb_6, qb_7, qb_8, qb_9, qb_10, qb_12, qb_16, qb_20, qb_21, qb_22, qb_23, qb_24, qb_26, qb_27, qb_30, qb_31, qb_32, qb_35, qb_36, qb_40, qb_44, qb_48, qb_49, qb_70, qb_81, qb_90, qb_96, qb_168, qb_217, qb_434, qb_442, qb_446, qb_450, qb_454, qb_455, qb_456, qb_457, qb_458, qb_466, qb_474, qb_478, qm_0, qm_1, qm_2, qm_3, qm_4, qm_5, qm_6, qm_7, qm_8, qm_9, qm_10, qm_12, qm_16, qm_20, qm_21, qm_22, qm_23, qm_24, qm_26, qm_27, qm_30, qm_31, qm_32, qm_35, qm_36, qm_40, qm_44, qm_48, qm_49, qm_70, qm_81, qm_90, qm_96, qm_168, qm_217, qm_434, qm_442, qm_446, qm_450, qm_454, qm_455, qm_456, qm_457, qm_458, qm_466, qm_474, qm_478, ql_0, ql_1, ql_2, ql_3, ql_4, ql_5, ql_6, ql_7, ql_8, ql_9, ql_10, ql_12, ql_16, ql_20, ql_21, ql_22, ql_23, ql_24, ql_26, ql_27, ql_30, ql_31, ql_32, ql_35, ql_36, ql_40, ql_44, ql_48, ql_49, ql_70, ql_81, ql_90, ql_96, ql_168, ql_217, ql_434, ql_442, ql_446, ql_450, ql_454, ql_455, ql_456, ql_457, ql_458, ql_466, ql_474, ql_478, nI_add, q_cl, q_in, true_and]
  rw [rem8 (by omega)]
  have em : mni 8 (nI (u + 1)) = nI (if u = 8 then 8 else u + 1) := by
    unfold mni
    have hq : nI (u + 1) < 8 ↔ u + 1 < 8 := q_lt (a := u + 1) (b := 8) (by omega) (by omega)
    by_cases q : u = 8
    · rw [if_neg (fun z => by have := hq.mp z; omega), if_pos q]
      rfl
    · rw [if_neg q]
      by_cases q2 : u + 1 < 8
      · rw [if_pos (hq.mpr q2)]
      · rw [if_neg (fun z => q2 (hq.mp z)), show u = 7 by omega]
        rfl
  rw [em]
  refine h _ (fun c i j hc => ?_) rfl ⟨?_, fun f j hf hj => ?_⟩ (fun q hq hqx => ⟨?_, fun f j hf hj => ?_⟩) ?_ ?_
  · simp (disch := omega) only [ku_ne, kcp_n]
  · show (ku _ _ _ _ _).1 15 0 (21 * x + 20) = _
    rw [ku_ne (by omega), ku_ne (by omega), show 21 * x + 20 = x * 21 + 20 by omega, ku_eq]
    rfl
  · rcases hf with rfl | rfl | rfl | rfl
    · have hj' : j < 8 := hj
      show (ku _ _ _ _ _).1 15 0 (21 * x + 12 + j) = M.1 9 0 j
      rw [ku_ne (by omega), ku_ne (by omega), ku_ne (by omega), kcp_i (e := j) (by omega) (by omega) (by omega)]
      simp (disch := omega) only [kcp_n]
    · have hj' : j < 4 := hj
      show (ku _ _ _ _ _).1 15 0 (21 * x + j) = M.1 11 0 j
      rw [ku_ne (by omega), ku_ne (by omega), ku_ne (by omega), kcp_n (by omega), kcp_n (by omega), kcp_n (by omega), kcp_i (e := j) (by omega) (by omega) (by omega)]
    · have hj' : j < 4 := hj
      show (ku _ _ _ _ _).1 15 0 (21 * x + 4 + j) = M.1 12 0 j
      rw [ku_ne (by omega), ku_ne (by omega), ku_ne (by omega), kcp_n (by omega), kcp_n (by omega), kcp_i (e := j) (by omega) (by omega) (by omega)]
      simp (disch := omega) only [kcp_n]
    · have hj' : j < 4 := hj
      show (ku _ _ _ _ _).1 15 0 (21 * x + 8 + j) = M.1 13 0 j
      rw [ku_ne (by omega), ku_ne (by omega), ku_ne (by omega), kcp_n (by omega), kcp_i (e := j) (by omega) (by omega) (by omega)]
      simp (disch := omega) only [kcp_n]
  · show (ku _ _ _ _ _).1 15 0 (21 * q + 20) = M.1 15 0 (21 * q + 20)
    simp (disch := omega) only [ku_ne, kcp_n]
  · rcases hf with rfl | rfl | rfl | rfl
    · have hj' : j < 8 := hj
      show (ku _ _ _ _ _).1 15 0 (21 * q + 12 + j) = M.1 15 0 (21 * q + 12 + j)
      simp (disch := omega) only [ku_ne, kcp_n]
    · have hj' : j < 4 := hj
      show (ku _ _ _ _ _).1 15 0 (21 * q + j) = M.1 15 0 (21 * q + j)
      simp (disch := omega) only [ku_ne, kcp_n]
    · have hj' : j < 4 := hj
      show (ku _ _ _ _ _).1 15 0 (21 * q + 4 + j) = M.1 15 0 (21 * q + 4 + j)
      simp (disch := omega) only [ku_ne, kcp_n]
    · have hj' : j < 4 := hj
      show (ku _ _ _ _ _).1 15 0 (21 * q + 8 + j) = M.1 15 0 (21 * q + 8 + j)
      simp (disch := omega) only [ku_ne, kcp_n]
  · exact ku_eq
  · rw [ku_ne (by omega), ku_eq]
/-- a core that was copied, or stayed -/
theorem rmd_cp {M M' : kM} {a b : Nat} (h : ∀ j, j < 21 → M'.1 1 0 (b + j) = M.1 1 0 (a + j)) : ceqF (rmd M' b) (rmd M a) := by
  refine ⟨h 20 (by omega), fun f j hf hj => ?_⟩
  rcases hf with rfl | rfl | rfl | rfl
  · have hj' : j < 8 := hj
    have := h j (by omega)
    exact this
  · have hj' : j < 4 := hj
    have := h (8 + j) (by omega)
    rw [← Nat.add_assoc, ← Nat.add_assoc] at this
    exact this
  · have hj' : j < 4 := hj
    have := h (12 + j) (by omega)
    rw [← Nat.add_assoc, ← Nat.add_assoc] at this
    exact this
  · have hj' : j < 4 := hj
    have := h (16 + j) (by omega)
    rw [← Nat.add_assoc, ← Nat.add_assoc] at this
    exact this
theorem m_minds (u : Nat) (hu : u ≤ 8) (h0 : M.1 1 0 48 = nI u)
    (h : ∀ M', (∀ c i j, ¬ (c = 1 ∧ i = 0 ∧ 48 ≤ j ∧ j < 217) → M'.1 c i j = M.1 c i j) → M'.2 = M.2 → M'.1 1 0 48 = nI (if u = 8 then 8 else u + 1) → (∀ i, i < (if u = 8 then 8 else u + 1) → ceqF (rmd M' (49 + 21 * i)) (rmd M (if i + 1 = (if u = 8 then 8 else u + 1) then 0 else 49 + 21 * (if u = 8 then i + 1 else i)))) → Qv M') :
    kCT l (rg_m, g) mX6_minds [.inr (.inr (0, 0))] M (kqv Qv) := by
  refine kct (by decide) (Nat.le_of_ble_eq_true rfl) (bX6_minds_0 M Qv ?_)
  rw [ql_48, h0, show (8 : Int32) = nI 8 from rfl, q_eq (by omega) (by omega)]
  refine ⟨fun c => ?_, fun c => ?_⟩
  · rw [if_neg c] at h
    refine bX6_minds_34 M Qv ?_
    rw [ql_48, h0]
    simp (disch := omega) only [qa_0, qa_1, qa_2, qa_3, qa_4, qa_5, qa_6, qa_7, qa_8, qa_9, qa_10, qa_12, qa_16, qa_20, qa_21, qa_22, qa_23, qa_24, qa_26, qa_27, qa_30, qa_31, qa_32, qa_35, qa_36, qa_40, qa_44, qa_48, qa_49, qa_70, qa_81, qa_90, qa_96, qa_168, qa_217, qa_434, qa_442, qa_446, qa_450, qa_454, qa_455, qa_456, qa_457, qa_458, qa_466, qa_474, qa_478, qb_0, qb_1, qb_2, qb_3, qb_4, qb_5, qb_6, qb_7, qb_8, qb_9, qb_10, qb_12, qb_16, qb_20, qb_21, qb_22, qb_23, qb_24, qb_26, qb_27, qb_30, qb_31, qb_32, qb_35, qb_36, qb_40, qb_44, qb_48, qb_49, qb_70, qb_81, qb_90, qb_96, qb_168, qb_217, qb_434, qb_442, qb_446, qb_450, qb_454, qb_455, qb_456, qb_457, qb_458, qb_466, qb_474, qb_478, qm_0, qm_1, qm_2, qm_3, qm_4, qm_5, qm_6, qm_7, qm_8, qm_9, qm_10, qm_12, qm_16, qm_20, qm_21, qm_22, qm_23, qm_24, qm_26, qm_27, qm_30, qm_31, qm_32, qm_35, qm_36, qm_40, qm_44, qm_48, qm_49, qm_70, qm_81, qm_90, qm_96, qm_168, qm_217, qm_434, qm_442, qm_446, qm_450, qm_454, qm_455, qm_456, qm_457, qm_458, qm_466, qm_474, qm_478, ql_0, ql_1, ql_2, ql_3, ql_4, ql_5, ql_6, ql_7, ql_8, ql_9, ql_10, ql_12, ql_16, ql_20, ql_21, ql_22, ql_23, ql_24, ql_26, ql_27, ql_30, ql_31, ql_32, ql_35, ql_36, ql_40, ql_44, ql_48, ql_49, ql_70, ql_81, ql_90, ql_96, ql_168, ql_217, ql_434, ql_442, ql_446, ql_450, ql_454, ql_455, ql_456, ql_457, ql_458, ql_466, ql_474, ql_478, nI_add, q_cl, q_in, true_and]
    refine m_copyAll 0 (49 + 21 * u) 21 (by omega) (by omega) (by omega) ?_
    rintro M2 rfl
    rw [kcp_n (by omega), h0]
    simp (disch := omega) only [qa_0, qa_1, qa_2, qa_3, qa_4, qa_5, qa_6, qa_7, qa_8, qa_9, qa_10, qa_12, qa_16, qa_20, qa_21, qa_22, qa_23, qa_24, qa_26, qa_27, qa_30, qa_31, qa_32, qa_35, qa_36, qa_40, qa_44, qa_48, qa_49, qa_70, qa_81, qa_90, qa_96, qa_168, qa_217, qa_434, qa_442, qa_446, qa_450, qa_454, qa_455, qa_456, qa_457, qa_458, qa_466, qa_474, qa_478, qb_0, qb_1, qb_2, qb_3, qb_4, qb_5, qb_6, qb_7, qb_8, qb_9, qb_10, qb_12, qb_16, qb_20, qb_21, qb_22, qb_23, qb_24, qb_26, qb_27, qb_30, qb_31, qb_32, qb_35, qb_36, qb_40, qb_44, qb_48, qb_49, qb_70, qb_81, qb_90, qb_96, qb_168, qb_217, qb_434, qb_442, qb_446, qb_450, qb_454, qb_455, qb_456, qb_457, qb_458, qb_466, qb_474, qb_478, qm_0, qm_1, qm_2, qm_3, qm_4, qm_5, qm_6, qm_7, qm_8, qm_9, qm_10, qm_12, qm_16, qm_20, qm_21, qm_22, qm_23, qm_24, qm_26, qm_27, qm_30, qm_31, qm_32, qm_35, qm_36, qm_40, qm_44, qm_48, qm_49, qm_70, qm_81, qm_90, qm_96, qm_168, qm_217, qm_434, qm_442, qm_446, qm_450, qm_454, qm_455, qm_456, qm_457, qm_458, qm_466, qm_474, qm_478, ql_0, ql_1, ql_2, ql_3, ql_4, ql_5, ql_6, ql_7, ql_8, ql_9, ql_10, ql_12, ql_16, ql_20, ql_21, ql_22, ql_23, ql_24, ql_26, ql_27, ql_30, ql_31, ql_32, ql_35, ql_36, ql_40, ql_44, ql_48, ql_49, ql_70, ql_81, ql_90, ql_96, ql_168, ql_217, ql_434, ql_442, ql_446, ql_450, ql_454, ql_455, ql_456, ql_457, ql_458, ql_466, ql_474, ql_478, nI_add, q_cl, q_in, true_and]
    refine h _ (fun c i j hc => ?_) rfl ku_eq (fun i hi => ?_)
    · rw [ku_ne (by omega), kcp_n (by omega)]
    · rw [if_neg c]
      refine rmd_cp (fun j hj => ?_)
      rw [ku_ne (by omega)]
      by_cases e : i + 1 = u + 1
      · rw [if_pos e, kcp_i (e := 0 + j) (by omega) (by omega) (by omega)]
      · rw [if_neg e, kcp_n (by omega)]
  · subst c
    rw [if_pos rfl] at h
    refine m_copyAll 70 49 147 (by omega) (by omega) (by omega) ?_
    rintro M2 rfl
    rw [kcp_n (by omega), h0]
    refine bX6_minds_34 _ Qv ?_
    rw [ql_48, ku_eq, show nI 8 - 1 = nI 7 from rfl]
    simp (disch := omega) only [qa_0, qa_1, qa_2, qa_3, qa_4, qa_5, qa_6, qa_7, qa_8, qa_9, qa_10, qa_12, qa_16, qa_20, qa_21, qa_22, qa_23, qa_24, qa_26, qa_27, qa_30, qa_31, qa_32, qa_35, qa_36, qa_40, qa_44, qa_48, qa_49, qa_70, qa_81, qa_90, qa_96, qa_168, qa_217, qa_434, qa_442, qa_446, qa_450, qa_454, qa_455, qa_456, qa_457, qa_458, qa_466, qa_474, qa_478, qb_0, qb_1, qb_2, qb_3, qb_4, qb_5, qb_6, qb_7, qb_8, qb_9, qb_10, qb_12, qb_16, qb_20, qb_21, qb_22, qb_23, qb_24, qb_26, qb_27, qb_30, qb_31, qb_32, qb_35, qb_36, qb_40, qb_44, qb_48, qb_49, qb_70, qb_81, qb_90, qb_96, qb_168, qb_217, qb_434, qb_442, qb_446, qb_450, qb_454, qb_455, qb_456, qb_457, qb_458, qb_466, qb_474, qb_478, qm_0, qm_1, qm_2, qm_3, qm_4, qm_5, qm_6, qm_7, qm_8, qm_9, qm_10, qm_12, qm_16, qm_20, qm_21, qm_22, qm_23, qm_24, qm_26, qm_27, qm_30, qm_31, qm_32, qm_35, qm_36, qm_40, qm_44, qm_48, qm_49, qm_70, qm_81, qm_90, qm_96, qm_168, qm_217, qm_434, qm_442, qm_446, qm_450, qm_454, qm_455, qm_456, qm_457, qm_458, qm_466, qm_474, qm_478, ql_0, ql_1, ql_2, ql_3, ql_4, ql_5, ql_6, ql_7, ql_8, ql_9, ql_10, ql_12, ql_16, ql_20, ql_21, ql_22, ql_23, ql_24, ql_26, ql_27, ql_30, ql_31, ql_32, ql_35, ql_36, ql_40, ql_44, ql_48, ql_49, ql_70, ql_81, ql_90, ql_96, ql_168, ql_217, ql_434, ql_442, ql_446, ql_450, ql_454, ql_455, ql_456, ql_457, ql_458, ql_466, ql_474, ql_478, nI_add, q_cl, q_in, true_and]
    refine m_copyAll 0 (49 + 21 * 7) 21 (by omega) (by omega) (by omega) ?_
    rintro M3 rfl
    rw [kcp_n (by omega), ku_eq]
    simp (disch := omega) only [qa_0, qa_1, qa_2, qa_3, qa_4, qa_5, qa_6, qa_7, qa_8, qa_9, qa_10, qa_12, qa_16, qa_20, qa_21, qa_22, qa_23, qa_24, qa_26, qa_27, qa_30, qa_31, qa_32, qa_35, qa_36, qa_40, qa_44, qa_48, qa_49, qa_70, qa_81, qa_90, qa_96, qa_168, qa_217, qa_434, qa_442, qa_446, qa_450, qa_454, qa_455, qa_456, qa_457, qa_458, qa_466, qa_474, qa_478, qb_0, qb_1, qb_2, qb_3, qb_4, qb_5, qb_6, qb_7, qb_8, qb_9, qb_10, qb_12, qb_16, qb_20, qb_21, qb_22, qb_23, qb_24, qb_26, qb_27, qb_30, qb_31, qb_32, qb_35, qb_36, qb_40, qb_44, qb_48, qb_49, qb_70, qb_81, qb_90, qb_96, qb_168, qb_217, qb_434, qb_442, qb_446, qb_450, qb_454, qb_455, qb_456, qb_457, qb_458, qb_466, qb_474, qb_478, qm_0, qm_1, qm_2, qm_3, qm_4, qm_5, qm_6, qm_7, qm_8, qm_9, qm_10, qm_12, qm_16, qm_20, qm_21, qm_22, qm_23, qm_24, qm_26, qm_27, qm_30, qm_31, qm_32, qm_35, qm_36, qm_40, qm_44, qm_48, qm_49, qm_70, qm_81, qm_90, qm_96, qm_168, qm_217, qm_434, qm_442, qm_446, qm_450, qm_454, qm_455, qm_456, qm_457, qm_458, qm_466, qm_474, qm_478, ql_0, ql_1, ql_2, ql_3, ql_4, ql_5, ql_6, ql_7, ql_8, ql_9, ql_10, ql_12, ql_16, ql_20, ql_21, ql_22, ql_23, ql_24, ql_26, ql_27, ql_30, ql_31, ql_32, ql_35, ql_36, ql_40, ql_44, ql_48, ql_49, ql_70, ql_81, ql_90, ql_96, ql_168, ql_217, ql_434, ql_442, ql_446, ql_450, ql_454, ql_455, ql_456, ql_457, ql_458, ql_466, ql_474, ql_478, nI_add, q_cl, q_in, true_and]
    refine h _ (fun c i j hc => ?_) rfl ku_eq (fun i hi => ?_)
    · rw [ku_ne (by omega), kcp_n (by omega), ku_ne (by omega), kcp_n (by omega)]
    · rw [if_pos rfl]
      refine rmd_cp (fun j hj => ?_)
      rw [ku_ne (by omega)]
      by_cases e : i + 1 = 8
      · rw [if_pos e, kcp_i (e := 0 + j) (by omega) (by omega) (by omega), ku_ne (by omega), kcp_n (by omega)]
      · rw [if_neg e, kcp_n (by omega), ku_ne (by omega), kcp_i (e := 49 + 21 * (i + 1) + j) (by omega) (by omega) (by omega)]
end KU
theorem mok.cg {R T : Rc} {S r n : Nat} (h : ceq S r R T) (hr : r ≤ 4) (hm : mok T S r n) : mok R S r n := by
  refine ⟨fun a ha => ?_, fun a ha => ?_⟩
  · rw [h.2 5 a (by omega) ⟨(by first | (show _ < 4; omega) | (show _ < 8; omega) | exact fln_s (by assumption) (by omega) (by omega) (by omega) | exact fln_r (by assumption) (by omega) (by omega)), fun z => by omega, fun _ => ha⟩]
    exact hm.1 a ha
  · rw [h.2 6 a (by omega) ⟨(by first | (show _ < 4; omega) | (show _ < 8; omega) | exact fln_s (by assumption) (by omega) (by omega) (by omega) | exact fln_r (by assumption) (by omega) (by omega)), fun z => by omega, fun _ => ha⟩]
    exact hm.2 a ha
/-- both sides have minded what is now -/
theorem rel.mark {Mx Mm Mx' Mm' : kM} {n u x : Nat} (hr : rel Mx 0 Mm 0 n) (hu : Mx.1 2 0 0 = nI u) (hx : Mx.1 2 0 1 = nI x) (u8 : u ≤ 8) (x8 : x < 8)
    (a1 : ∀ c i j, ¬ (i = 0 ∧ (c = 2 ∨ c = 15)) → Mx'.1 c i j = Mx.1 c i j) (a2 : ceqF (mkx Mx' 0 x) (rx Mx 0)) (a3 : ∀ q, q < 8 → q ≠ x → ceqF (mkx Mx' 0 q) (mkx Mx 0 q)) (a4 : Mx'.1 2 0 0 = nI (if u = 8 then 8 else u + 1)) (a5 : Mx'.1 2 0 1 = nI ((x + 1) % 8))
    (b1 : ∀ c i j, ¬ (c = 1 ∧ i = 0 ∧ 48 ≤ j ∧ j < 217) → Mm'.1 c i j = Mm.1 c i j) (b2 : Mm'.1 1 0 48 = nI (if u = 8 then 8 else u + 1)) (b3 : ∀ i, i < (if u = 8 then 8 else u + 1) → ceqF (rmd Mm' (49 + 21 * i)) (rmd Mm (if i + 1 = (if u = 8 then 8 else u + 1) then 0 else 49 + 21 * (if u = 8 then i + 1 else i)))) : rel Mx' 0 Mm' 0 n := by
  obtain ⟨S, r, q, ok, bd, v, y, v1, v2, v3, v4, v5, v6⟩ := hr
  have ev : v = u := by
    rw [hu] at v3
    exact ((q_eq (by omega) (by omega)).mp v3).symm
  have ey : y = x := by
    rw [hx] at v4
    exact ((q_eq (by omega) (by omega)).mp v4).symm
  subst ev
  subst ey
  have erx : rx Mx' 0 = rx Mx 0 := rx_cg (fun c j hc => a1 c 0 j (by omega))
  have qm : req (rmd Mm' 0) (rmd Mm 0) := by
    refine reqF.w (fun f j hf hj => ?_)
    have := wof_lt f hf j hj
    rw [wof_rmd hf hj, wof_rmd hf hj]
    exact b1 1 0 _ (by omega)
  refine ⟨S, r, by rw [erx]; exact q.trans qm.symm, by rw [erx]; exact ok, by rw [erx]; exact bd, (if v = 8 then 8 else v + 1), (y + 1) % 8, by split <;> omega, Nat.mod_lt _ (by decide), a4, a5, b2, fun i hi => ?_⟩
  have h3 := b3 i hi
  have hm : mok (rx Mx 0) S r n := ⟨ok.2.2.2.2, bd.2⟩
  have r4 : r ≤ 4 := ok.2.2.2.1
  by_cases e : i + 1 = (if v = 8 then 8 else v + 1)
  · rw [if_pos e] at h3
    have ei : ((y + 1) % 8 + 8 - (if v = 8 then 8 else v + 1) + i) % 8 = y := by
      have hi8 : i + 1 ≤ 8 := by
        rw [e]
        split <;> omega
      rw [← e]
      omega
    rw [ei, Nat.zero_add]
    exact ⟨(a2.w.trans (q.core ok)).trans h3.w.symm, mok.cg a2.w r4 hm⟩
  · rw [if_neg e] at h3
    by_cases e8 : v = 8
    · subst e8
      have ei : ((y + 1) % 8 + 8 - (if 8 = 8 then 8 else 8 + 1) + i) % 8 = (y + 8 - 8 + (i + 1)) % 8 := by
        rw [if_pos rfl]
        omega
      rw [if_pos rfl] at h3 hi
      rw [if_pos rfl] at e
      rw [ei, Nat.zero_add]
      have h6 := v6 (i + 1) (by omega)
      have hne : (y + 8 - 8 + (i + 1)) % 8 ≠ y := by omega
      have h7 := a3 _ (Nat.mod_lt _ (by decide)) hne
      rw [Nat.zero_add] at h6
      exact ⟨(h7.w.trans h6.1).trans h3.w.symm, mok.cg h7.w r4 h6.2⟩
    · have ei : ((y + 1) % 8 + 8 - (if v = 8 then 8 else v + 1) + i) % 8 = (y + 8 - v + i) % 8 := by
        rw [if_neg e8]
        rw [if_neg e8] at hi
        omega
      rw [if_neg e8] at h3 hi e
      rw [ei, Nat.zero_add]
      have h6 := v6 i (by omega)
      have hne : (y + 8 - v + i) % 8 ≠ y := by omega
      have h7 := a3 _ (Nat.mod_lt _ (by decide)) hne
      rw [Nat.zero_add] at h6
      exact ⟨(h7.w.trans h6.1).trans h3.w.symm, mok.cg h7.w r4 h6.2⟩
