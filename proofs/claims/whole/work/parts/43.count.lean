/-! ===== at, count ===== -/
def isum (f : Nat → Int32) : Nat → Int32
  | 0 => 0
  | n + 1 => isum f n + f n
theorem isum_cg {f f' : Nat → Int32} : ∀ n, (∀ i, i < n → f i = f' i) → isum f n = isum f' n
  | 0, _ => rfl
  | n + 1, h => by
    unfold isum
    rw [isum_cg n (fun i hi => h i (by omega)), h n (by omega)]
def rthere (R : Rc) : Nat → Int32
  | 0 => 0
  | n + 1 => rthere R n ||| (if R 5 n < R 0 0 then 0 else (1 : Int32) <<< (nI n &&& 31))
theorem rthere_cg {R T : Rc} {S m : Nat} (h : req R T) (ok : rok R S m) : ∀ n, n ≤ m → rthere R n = rthere T n
  | 0, _ => rfl
  | n + 1, hn => by
    have e5 : R 5 n = T 5 n := h 5 n (by decide) (by first | (show _ < 4; omega) | (show _ < 8; omega) | exact fln_s (by assumption) (by omega) (by omega) (by omega) | exact fln_r (by assumption) (by omega) (by omega))
    have e0 : R 0 0 = T 0 0 := h.z 0 (by decide)
    unfold rthere
    rw [rthere_cg h ok n (by omega), e5, e0]
section KCO
variable {l : Launch} {g g1 g2 : va_G × (Nat → ClassId) × (Nat → Nat → Nat)} {M Mx Mm : kM} {n : Nat} {Q : Int32 → kM → Prop}
theorem x_sumc (r : Nat) (hr : r ≤ 4) (h : Q (isum (M.1 13 0) r) M) : kCT l (rg_x, g) mX5_sumOf [.inr (.inr (13, 0)), .inl (nI r)] M (kqi Q) := by
  refine kct (by decide) (Nat.le_of_ble_eq_true rfl) (bX5_sumOfc_0 _ M Q ?_)
  have key : ∀ f i, i + f = r → kWP l (rg_x, g) mX5_sumOf 4 [(0, .inr (.inr (13, 0))), (1, .inl (nI r)), (2, .inl (isum (M.1 13 0) i)), (3, .inl (nI i))] [] M (kqi Q) := by
    intro f
    induction f with
    | zero =>
      intro i hi
      obtain rfl : i = r := by omega
      exact bX5_sumOfc_4 _ _ _ M Q ⟨fun _ => h, fun c => absurd (nI_le (Nat.le_refl i) (by omega)) c⟩
    | succ f ih =>
      intro i hi
      refine bX5_sumOfc_4 _ _ _ M Q ⟨fun c => ?_, fun _ => ?_⟩
      · rw [q_le (by omega) (by omega)] at c
        omega
      · simp (disch := omega) only [qa_0, qa_1, qa_2, qa_3, qa_4, qa_5, qa_6, qa_7, qa_8, qa_9, qa_10, qa_12, qa_16, qa_20, qa_21, qa_22, qa_23, qa_24, qa_26, qa_27, qa_30, qa_31, qa_32, qa_35, qa_36, qa_40, qa_44, qa_48, qa_49, qa_70, qa_81, qa_90, qa_96, qa_168, qa_217, qa_434, qa_442, qa_446, qa_450, qa_454, qa_455, qa_456, qa_457, qa_458, qa_466, qa_474, qa_478, qb_0, qb_1, qb_2, qb_3, qb_4, qb_5, qb_6, qb_7, qb_8, qb_9, qb_10, qb_12, qb_16, qb_20, qb_21, qb_22, qb_23, qb_24, qb_26, qb_27, qb_30, qb_31, qb_32, qb_35, qb_36, qb_40, qb_44, qb_48, qb_49, qb_70, qb_81, qb_90, qb_96, qb_168, qb_217, qb_434, qb_442, qb_446, qb_450, qb_454, qb_455, qb_456, qb_457, qb_458, qb_466, qb_474, qb_478, qm_0, qm_1, qm_2, qm_3, qm_4, qm_5, qm_6, qm_7, qm_8, qm_9, qm_10, qm_12, qm_16, qm_20, qm_21, qm_22, qm_23, qm_24, qm_26, qm_27, qm_30, qm_31, qm_32, qm_35, qm_36, qm_40, qm_44, qm_48, qm_49, qm_70, qm_81, qm_90, qm_96, qm_168, qm_217, qm_434, qm_442, qm_446, qm_450, qm_454, qm_455, qm_456, qm_457, qm_458, qm_466, qm_474, qm_478, ql_0, ql_1, ql_2, ql_3, ql_4, ql_5, ql_6, ql_7, ql_8, ql_9, ql_10, ql_12, ql_16, ql_20, ql_21, ql_22, ql_23, ql_24, ql_26, ql_27, ql_30, ql_31, ql_32, ql_35, ql_36, ql_40, ql_44, ql_48, ql_49, ql_70, ql_81, ql_90, ql_96, ql_168, ql_217, ql_434, ql_442, ql_446, ql_450, ql_454, ql_455, ql_456, ql_457, ql_458, ql_466, ql_474, ql_478, nI_add, q_cl, q_in, true_and]
        rintro z1 rfl z2 rfl
        exact ih (i + 1) (by omega)
  exact key r 0 (by omega)
theorem x_sumh (r : Nat) (hr : r ≤ 8) (h : Q (isum (M.1 9 0) r) M) : kCT l (rg_x, g) mX5_sumOf [.inr (.inr (9, 0)), .inl (nI r)] M (kqi Q) := by
  refine kct (by decide) (Nat.le_of_ble_eq_true rfl) (bX5_sumOfh_0 _ M Q ?_)
  have key : ∀ f i, i + f = r → kWP l (rg_x, g) mX5_sumOf 4 [(0, .inr (.inr (9, 0))), (1, .inl (nI r)), (2, .inl (isum (M.1 9 0) i)), (3, .inl (nI i))] [] M (kqi Q) := by
    intro f
    induction f with
    | zero =>
      intro i hi
      obtain rfl : i = r := by omega
      exact bX5_sumOfh_4 _ _ _ M Q ⟨fun _ => h, fun c => absurd (nI_le (Nat.le_refl i) (by omega)) c⟩
    | succ f ih =>
      intro i hi
      refine bX5_sumOfh_4 _ _ _ M Q ⟨fun c => ?_, fun _ => ?_⟩
      · rw [q_le (by omega) (by omega)] at c
        omega
      · simp (disch := omega) only [qa_0, qa_1, qa_2, qa_3, qa_4, qa_5, qa_6, qa_7, qa_8, qa_9, qa_10, qa_12, qa_16, qa_20, qa_21, qa_22, qa_23, qa_24, qa_26, qa_27, qa_30, qa_31, qa_32, qa_35, qa_36, qa_40, qa_44, qa_48, qa_49, qa_70, qa_81, qa_90, qa_96, qa_168, qa_217, qa_434, qa_442, qa_446, qa_450, qa_454, qa_455, qa_456, qa_457, qa_458, qa_466, qa_474, qa_478, qb_0, qb_1, qb_2, qb_3, qb_4, qb_5, qb_6, qb_7, qb_8, qb_9, qb_10, qb_12, qb_16, qb_20, qb_21, qb_22, qb_23, qb_24, qb_26, qb_27, qb_30, qb_31, qb_32, qb_35, qb_36, qb_40, qb_44, qb_48, qb_49, qb_70, qb_81, qb_90, qb_96, qb_168, qb_217, qb_434, qb_442, qb_446, qb_450, qb_454, qb_455, qb_456, qb_457, qb_458, qb_466, qb_474, qb_478, qm_0, qm_1, qm_2, qm_3, qm_4, qm_5, qm_6, qm_7, qm_8, qm_9, qm_10, qm_12, qm_16, qm_20, qm_21, qm_22, qm_23, qm_24, qm_26, qm_27, qm_30, qm_31, qm_32, qm_35, qm_36, qm_40, qm_44, qm_48, qm_49, qm_70, qm_81, qm_90, qm_96, qm_168, qm_217, qm_434, qm_442, qm_446, qm_450, qm_454, qm_455, qm_456, qm_457, qm_458, qm_466, qm_474, qm_478, ql_0, ql_1, ql_2, ql_3, ql_4, ql_5, ql_6, ql_7, ql_8, ql_9, ql_10, ql_12, ql_16, ql_20, ql_21, ql_22, ql_23, ql_24, ql_26, ql_27, ql_30, ql_31, ql_32, ql_35, ql_36, ql_40, ql_44, ql_48, ql_49, ql_70, ql_81, ql_90, ql_96, ql_168, ql_217, ql_434, ql_442, ql_446, ql_450, ql_454, ql_455, ql_456, ql_457, ql_458, ql_466, ql_474, ql_478, nI_add, q_cl, q_in, true_and]
        rintro z1 rfl z2 rfl
        exact ih (i + 1) (by omega)
  exact key r 0 (by omega)
theorem m_sumc (r : Nat) (hr : r ≤ 4) (e : M.1 1 0 22 = nI r) (h : Q (isum (fun i => M.1 1 0 (16 + i)) r) M) : kCT l (rg_m, g) mX6_coinsOfAll [.inr (.inr (0, 0))] M (kqi Q) := by
  refine kct (by decide) (Nat.le_of_ble_eq_true rfl) (bX6_coinsOfAll_0 M Q ?_)
  have key : ∀ f i, i + f = r → kWP l (rg_m, g) mX6_coinsOfAll 4 [(0, .inr (.inr (0, 0))), (1, .inl (isum (fun i => M.1 1 0 (16 + i)) i)), (2, .inl (nI i))] [] M (kqi Q) := by
    intro f
    induction f with
    | zero =>
      intro i hi
      obtain rfl : i = r := by omega
      refine bX6_coinsOfAll_4 _ _ M Q ?_
      rw [ql_22, e]
      exact ⟨fun _ => h, fun c => absurd (nI_le (Nat.le_refl i) (by omega)) c⟩
    | succ f ih =>
      intro i hi
      refine bX6_coinsOfAll_4 _ _ M Q ?_
      rw [ql_22, e]
      refine ⟨fun c => ?_, fun _ => ?_⟩
      · rw [q_le (by omega) (by omega)] at c
        omega
      · simp (disch := omega) only [qa_0, qa_1, qa_2, qa_3, qa_4, qa_5, qa_6, qa_7, qa_8, qa_9, qa_10, qa_12, qa_16, qa_20, qa_21, qa_22, qa_23, qa_24, qa_26, qa_27, qa_30, qa_31, qa_32, qa_35, qa_36, qa_40, qa_44, qa_48, qa_49, qa_70, qa_81, qa_90, qa_96, qa_168, qa_217, qa_434, qa_442, qa_446, qa_450, qa_454, qa_455, qa_456, qa_457, qa_458, qa_466, qa_474, qa_478, qb_0, qb_1, qb_2, qb_3, qb_4, qb_5, qb_6, qb_7, qb_8, qb_9, qb_10, qb_12, qb_16, qb_20, qb_21, qb_22, qb_23, qb_24, qb_26, qb_27, qb_30, qb_31, qb_32, qb_35, qb_36, qb_40, qb_44, qb_48, qb_49, qb_70, qb_81, qb_90, qb_96, qb_168, qb_217, qb_434, qb_442, qb_446, qb_450, qb_454, qb_455, qb_456, qb_457, qb_458, qb_466, qb_474, qb_478, qm_0, qm_1, qm_2, qm_3, qm_4, qm_5, qm_6, qm_7, qm_8, qm_9, qm_10, qm_12, qm_16, qm_20, qm_21, qm_22, qm_23, qm_24, qm_26, qm_27, qm_30, qm_31, qm_32, qm_35, qm_36, qm_40, qm_44, qm_48, qm_49, qm_70, qm_81, qm_90, qm_96, qm_168, qm_217, qm_434, qm_442, qm_446, qm_450, qm_454, qm_455, qm_456, qm_457, qm_458, qm_466, qm_474, qm_478, ql_0, ql_1, ql_2, ql_3, ql_4, ql_5, ql_6, ql_7, ql_8, ql_9, ql_10, ql_12, ql_16, ql_20, ql_21, ql_22, ql_23, ql_24, ql_26, ql_27, ql_30, ql_31, ql_32, ql_35, ql_36, ql_40, ql_44, ql_48, ql_49, ql_70, ql_81, ql_90, ql_96, ql_168, ql_217, ql_434, ql_442, ql_446, ql_450, ql_454, ql_455, ql_456, ql_457, ql_458, ql_466, ql_474, ql_478, nI_add, q_cl, q_in, true_and]
        rintro z1 rfl z2 rfl
        exact ih (i + 1) (by omega)
  exact key r 0 (by omega)
theorem m_sumh (r : Nat) (hr : r ≤ 8) (e : M.1 1 0 21 = nI r) (h : Q (isum (fun i => M.1 1 0 (0 + i)) r) M) : kCT l (rg_m, g) mX6_horsesOfAll [.inr (.inr (0, 0))] M (kqi Q) := by
  refine kct (by decide) (Nat.le_of_ble_eq_true rfl) (bX6_horsesOfAll_0 M Q ?_)
  have key : ∀ f i, i + f = r → kWP l (rg_m, g) mX6_horsesOfAll 4 [(0, .inr (.inr (0, 0))), (1, .inl (isum (fun i => M.1 1 0 (0 + i)) i)), (2, .inl (nI i))] [] M (kqi Q) := by
    intro f
    induction f with
    | zero =>
      intro i hi
      obtain rfl : i = r := by omega
      refine bX6_horsesOfAll_4 _ _ M Q ?_
      rw [ql_21, e]
      exact ⟨fun _ => h, fun c => absurd (nI_le (Nat.le_refl i) (by omega)) c⟩
    | succ f ih =>
      intro i hi
      refine bX6_horsesOfAll_4 _ _ M Q ?_
      rw [ql_21, e]
      refine ⟨fun c => ?_, fun _ => ?_⟩
      · rw [q_le (by omega) (by omega)] at c
        omega
      · simp (disch := omega) only [qa_0, qa_1, qa_2, qa_3, qa_4, qa_5, qa_6, qa_7, qa_8, qa_9, qa_10, qa_12, qa_16, qa_20, qa_21, qa_22, qa_23, qa_24, qa_26, qa_27, qa_30, qa_31, qa_32, qa_35, qa_36, qa_40, qa_44, qa_48, qa_49, qa_70, qa_81, qa_90, qa_96, qa_168, qa_217, qa_434, qa_442, qa_446, qa_450, qa_454, qa_455, qa_456, qa_457, qa_458, qa_466, qa_474, qa_478, qb_0, qb_1, qb_2, qb_3, qb_4, qb_5, qb_6, qb_7, qb_8, qb_9, qb_10, qb_12, qb_16, qb_20, qb_21, qb_22, qb_23, qb_24, qb_26, qb_27, qb_30, qb_31, qb_32, qb_35, qb_36, qb_40, qb_44, qb_48, qb_49, qb_70, qb_81, qb_90, qb_96, qb_168, qb_217, qb_434, qb_442, qb_446, qb_450, qb_454, qb_455, qb_456, qb_457, qb_458, qb_466, qb_474, qb_478, qm_0, qm_1, qm_2, qm_3, qm_4, qm_5, qm_6, qm_7, qm_8, qm_9, qm_10, qm_12, qm_16, qm_20, qm_21, qm_22, qm_23, qm_24, qm_26, qm_27, qm_30, qm_31, qm_32, qm_35, qm_36, qm_40, qm_44, qm_48, qm_49, qm_70, qm_81, qm_90, qm_96, qm_168, qm_217, qm_434, qm_442, qm_446, qm_450, qm_454, qm_455, qm_456, qm_457, qm_458, qm_466, qm_474, qm_478, ql_0, ql_1, ql_2, ql_3, ql_4, ql_5, ql_6, ql_7, ql_8, ql_9, ql_10, ql_12, ql_16, ql_20, ql_21, ql_22, ql_23, ql_24, ql_26, ql_27, ql_30, ql_31, ql_32, ql_35, ql_36, ql_40, ql_44, ql_48, ql_49, ql_70, ql_81, ql_90, ql_96, ql_168, ql_217, ql_434, ql_442, ql_446, ql_450, ql_454, ql_455, ql_456, ql_457, ql_458, ql_466, ql_474, ql_478, nI_add, q_cl, q_in, true_and]
        rintro z1 rfl z2 rfl
        exact ih (i + 1) (by omega)
  exact key r 0 (by omega)
theorem x_there (k S r : Nat) (ok : rok (rx M k) S r) (h : Q (rthere (rx M k) r) M) : kCT l (rg_x, g) mX3_whoIsThere [.inr (.inr (1, k))] M (kqi Q) := by
  refine kct (by decide) (Nat.le_of_ble_eq_true rfl) (bX3_whoIsThere_0 k M Q ?_)
  have hr := ok.2.2.2.1
  have e : M.1 1 k 1 = nI r := ok.2.2.1
  have key : ∀ f i, i + f = r → kWP l (rg_x, g) mX3_whoIsThere 4 [(0, .inr (.inr (1, k))), (1, .inl (rthere (rx M k) i)), (2, .inl (nI i))] [] M (kqi Q) := by
    intro f
    induction f with
    | zero =>
      intro i hi
      obtain rfl : i = r := by omega
      refine bX3_whoIsThere_4 _ _ _ M Q ?_
      rw [e]
      exact ⟨fun _ => h, fun c => absurd (nI_le (Nat.le_refl i) (by omega)) c⟩
    | succ f ih =>
      intro i hi
      have ih1 := ih (i + 1) (by omega)
      have hw : rthere (rx M k) (i + 1) = rthere (rx M k) i ||| (if rx M k 5 i < rx M k 0 0 then 0 else (1 : Int32) <<< (nI i &&& 31)) := rfl
      rw [hw] at ih1
      refine bX3_whoIsThere_4 _ _ _ M Q ?_
      rw [e]
      refine ⟨fun c => ?_, fun _ => x_isThere k i (by omega) ?_⟩
      · rw [q_le (by omega) (by omega)] at c
        omega
      · by_cases c : rx M k 5 i < rx M k 0 0
        · rw [if_pos c] at ih1 ⊢
          refine ⟨fun _ => bX3_whoIsThere_28 _ _ _ _ M Q ?_, fun z => absurd rfl z⟩
          rintro z1 rfl z2 rfl
          rw [qa_1]
          exact ih1
        · rw [if_neg c] at ih1 ⊢
          refine ⟨fun z => absurd z (by decide), fun _ => bX3_whoIsThere_28 _ _ _ _ M Q ?_⟩
          rintro z1 rfl z2 rfl
          rw [qa_1]
          exact ih1
  exact key r 0 (by omega)
theorem m_there (S r : Nat) (ok : rok (rmd M 0) S r) (h : Q (rthere (rmd M 0) r) M) : kCT l (rg_m, g) mX6_thereIn [.inr (.inr (0, 0)), .inl (nI 0)] M (kqi Q) := by
  refine kct (by decide) (Nat.le_of_ble_eq_true rfl) (bX6_thereIn_0 _ M Q ?_)
  obtain ⟨h1, h2, h3, hr, h5⟩ := ok
  have e : M.1 1 0 22 = nI r := h3
  have key : ∀ f i, i + f = r → kWP l (rg_m, g) mX6_thereIn 4 [(0, .inr (.inr (0, 0))), (1, .inl (nI 0)), (2, .inl (rthere (rmd M 0) i)), (3, .inl (nI i))] [] M (kqi Q) := by
    intro f
    induction f with
    | zero =>
      intro i hi
      obtain rfl : i = r := by omega
      refine bX6_thereIn_4 _ _ _ M Q ?_
      simp (disch := omega) only [qa_0, qa_1, qa_2, qa_3, qa_4, qa_5, qa_6, qa_7, qa_8, qa_9, qa_10, qa_12, qa_16, qa_20, qa_21, qa_22, qa_23, qa_24, qa_26, qa_27, qa_30, qa_31, qa_32, qa_35, qa_36, qa_40, qa_44, qa_48, qa_49, qa_70, qa_81, qa_90, qa_96, qa_168, qa_217, qa_434, qa_442, qa_446, qa_450, qa_454, qa_455, qa_456, qa_457, qa_458, qa_466, qa_474, qa_478, qb_0, qb_1, qb_2, qb_3, qb_4, qb_5, qb_6, qb_7, qb_8, qb_9, qb_10, qb_12, qb_16, qb_20, qb_21, qb_22, qb_23, qb_24, qb_26, qb_27, qb_30, qb_31, qb_32, qb_35, qb_36, qb_40, qb_44, qb_48, qb_49, qb_70, qb_81, qb_90, qb_96, qb_168, qb_217, qb_434, qb_442, qb_446, qb_450, qb_454, qb_455, qb_456, qb_457, qb_458, qb_466, qb_474, qb_478, qm_0, qm_1, qm_2, qm_3, qm_4, qm_5, qm_6, qm_7, qm_8, qm_9, qm_10, qm_12, qm_16, qm_20, qm_21, qm_22, qm_23, qm_24, qm_26, qm_27, qm_30, qm_31, qm_32, qm_35, qm_36, qm_40, qm_44, qm_48, qm_49, qm_70, qm_81, qm_90, qm_96, qm_168, qm_217, qm_434, qm_442, qm_446, qm_450, qm_454, qm_455, qm_456, qm_457, qm_458, qm_466, qm_474, qm_478, ql_0, ql_1, ql_2, ql_3, ql_4, ql_5, ql_6, ql_7, ql_8, ql_9, ql_10, ql_12, ql_16, ql_20, ql_21, ql_22, ql_23, ql_24, ql_26, ql_27, ql_30, ql_31, ql_32, ql_35, ql_36, ql_40, ql_44, ql_48, ql_49, ql_70, ql_81, ql_90, ql_96, ql_168, ql_217, ql_434, ql_442, ql_446, ql_450, ql_454, ql_455, ql_456, ql_457, ql_458, ql_466, ql_474, ql_478, nI_add, q_cl, q_in, true_and]
      rw [Nat.zero_add, e]
      exact ⟨fun _ => h, fun c => absurd (nI_le (Nat.le_refl i) (by omega)) c⟩
    | succ f ih =>
      intro i hi
      have ih1 := ih (i + 1) (by omega)
      have hw : rthere (rmd M 0) (i + 1) = rthere (rmd M 0) i ||| (if rmd M 0 5 i < rmd M 0 0 0 then 0 else (1 : Int32) <<< (nI i &&& 31)) := rfl
      rw [hw] at ih1
      refine bX6_thereIn_4 _ _ _ M Q ?_
      simp (disch := omega) only [qa_0, qa_1, qa_2, qa_3, qa_4, qa_5, qa_6, qa_7, qa_8, qa_9, qa_10, qa_12, qa_16, qa_20, qa_21, qa_22, qa_23, qa_24, qa_26, qa_27, qa_30, qa_31, qa_32, qa_35, qa_36, qa_40, qa_44, qa_48, qa_49, qa_70, qa_81, qa_90, qa_96, qa_168, qa_217, qa_434, qa_442, qa_446, qa_450, qa_454, qa_455, qa_456, qa_457, qa_458, qa_466, qa_474, qa_478, qb_0, qb_1, qb_2, qb_3, qb_4, qb_5, qb_6, qb_7, qb_8, qb_9, qb_10, qb_12, qb_16, qb_20, qb_21, qb_22, qb_23, qb_24, qb_26, qb_27, qb_30, qb_31, qb_32, qb_35, qb_36, qb_40, qb_44, qb_48, qb_49, qb_70, qb_81, qb_90, qb_96, qb_168, qb_217, qb_434, qb_442, qb_446, qb_450, qb_454, qb_455, qb_456, qb_457, qb_458, qb_466, qb_474, qb_478, qm_0, qm_1, qm_2, qm_3, qm_4, qm_5, qm_6, qm_7, qm_8, qm_9, qm_10, qm_12, qm_16, qm_20, qm_21, qm_22, qm_23, qm_24, qm_26, qm_27, qm_30, qm_31, qm_32, qm_35, qm_36, qm_40, qm_44, qm_48, qm_49, qm_70, qm_81, qm_90, qm_96, qm_168, qm_217, qm_434, qm_442, qm_446, qm_450, qm_454, qm_455, qm_456, qm_457, qm_458, qm_466, qm_474, qm_478, ql_0, ql_1, ql_2, ql_3, ql_4, ql_5, ql_6, ql_7, ql_8, ql_9, ql_10, ql_12, ql_16, ql_20, ql_21, ql_22, ql_23, ql_24, ql_26, ql_27, ql_30, ql_31, ql_32, ql_35, ql_36, ql_40, ql_44, ql_48, ql_49, ql_70, ql_81, ql_90, ql_96, ql_168, ql_217, ql_434, ql_442, ql_446, ql_450, ql_454, ql_455, ql_456, ql_457, ql_458, ql_466, ql_474, ql_478, nI_add, q_cl, q_in, true_and]
      rw [Nat.zero_add, e]
      refine ⟨fun c => ?_, fun _ => m_isThere 0 i (by omega) (by omega) ?_⟩
      · rw [q_le (by omega) (by omega)] at c
        omega
      · obtain ⟨bb, hb1, hb2⟩ := h5 i (by omega)
        by_cases c : rmd M 0 5 i < rmd M 0 0 0
        · rw [if_pos c] at ih1
          rw [if_neg (fun q => by rw [q] at c; exact Int32.lt_irrefl c)]
          refine ⟨fun _ => bX6_thereIn_34 _ _ _ _ M Q ?_, fun z => absurd rfl z⟩
          rintro z1 rfl z2 rfl
          rw [qa_1]
          exact ih1
        · have hz : rmd M 0 5 i = rmd M 0 0 0 := by
            rw [hb2, h1, q_lt (by omega) (by omega)] at c
            rw [hb2, h1, show bb = S by omega]
          rw [if_neg c] at ih1
          rw [if_pos hz]
          refine ⟨fun z => absurd z (by decide), fun _ => bX6_thereIn_34 _ _ _ _ M Q ?_⟩
          rintro z1 rfl z2 rfl
          rw [qa_1]
          exact ih1
  exact key r 0 (by omega)
theorem pair_count (h : Inv n Mx Mm) (a1 : Int32) : kPair l g1 g2 mX5_count mX6_count [.inl a1] Mx Mm (Inv (n + 1)) := by
  have hm := h.mono
  obtain ⟨S, r, q, ok, bd, u, x, u8, x8, u3, u4, u5, u6⟩ := h.1
  have h8 := ok.2.1
  have h4 := ok.2.2.2.1
  have okm := q.ok ok
  have e0 : Mx.1 1 0 0 = Mm.1 1 0 21 := q 0 0 (by decide) (by first | (show _ < 4; omega) | (show _ < 8; omega) | exact fln_s (by assumption) (by omega) (by omega) (by omega) | exact fln_r (by assumption) (by omega) (by omega))
  have e1 : Mx.1 1 0 1 = Mm.1 1 0 22 := q 0 1 (by decide) (by first | (show _ < 4; omega) | (show _ < 8; omega) | exact fln_s (by assumption) (by omega) (by omega) (by omega) | exact fln_r (by assumption) (by omega) (by omega))
  have e2 : Mx.1 1 0 2 = Mm.1 1 0 23 := q 0 2 (by decide) (by first | (show _ < 4; omega) | (show _ < 8; omega) | exact fln_s (by assumption) (by omega) (by omega) (by omega) | exact fln_r (by assumption) (by omega) (by omega))
  have f0 : Mx.1 1 0 0 = nI S := ok.1
  have f1 : Mx.1 1 0 1 = nI r := ok.2.2.1
  refine kct (by decide) (Nat.le_of_ble_eq_true rfl) (bX5_count_0 a1 Mx _ ⟨fun c => ?_, fun c => ?_, fun c => ?_, fun c => ?_, fun c => ?_, fun c => ?_, fun c => ?_, fun c => ?_, fun c0 c1 c2 c3 c4 c5 c6 c7 => ?_⟩)
  · subst c
    refine kct (by decide) (Nat.le_of_ble_eq_true rfl) (bX6_count_0 _ Mm _ ⟨fun _ => ⟨e0, hm⟩, fun z => absurd z (by decide), fun z => absurd z (by decide), fun z => absurd z (by decide), fun z => absurd z (by decide), fun z => absurd z (by decide), fun z => absurd z (by decide), fun z => absurd z (by decide), fun z => absurd rfl z⟩)
  · subst c
    refine kct (by decide) (Nat.le_of_ble_eq_true rfl) (bX6_count_0 _ Mm _ ⟨fun z => absurd z (by decide), fun _ => ⟨e1, hm⟩, fun z => absurd z (by decide), fun z => absurd z (by decide), fun z => absurd z (by decide), fun z => absurd z (by decide), fun z => absurd z (by decide), fun z => absurd z (by decide), fun _ z => absurd rfl z⟩)
  · subst c
    refine kct (by decide) (Nat.le_of_ble_eq_true rfl) (bX6_count_0 _ Mm _ ⟨fun z => absurd z (by decide), fun z => absurd z (by decide), fun _ => ⟨e2, hm⟩, fun z => absurd z (by decide), fun z => absurd z (by decide), fun z => absurd z (by decide), fun z => absurd z (by decide), fun z => absurd z (by decide), fun _ _ z => absurd rfl z⟩)
  · subst c
    refine x_there 0 S r ok ?_
    refine kct (by decide) (Nat.le_of_ble_eq_true rfl) (bX6_count_0 _ Mm _ ⟨fun z => absurd z (by decide), fun z => absurd z (by decide), fun z => absurd z (by decide), fun _ => m_there S r okm ⟨rthere_cg q ok r (Nat.le_refl _), hm⟩, fun z => absurd z (by decide), fun z => absurd z (by decide), fun z => absurd z (by decide), fun z => absurd z (by decide), fun _ _ _ z => absurd rfl z⟩)
  · subst c
    refine x_whoRides 0 S r ok ?_
    refine kct (by decide) (Nat.le_of_ble_eq_true rfl) (bX6_count_0 _ Mm _ ⟨fun z => absurd z (by decide), fun z => absurd z (by decide), fun z => absurd z (by decide), fun z => absurd z (by decide), fun _ => m_nextIn 0 S r (by omega) okm ⟨rwho_eq q ok, hm⟩, fun z => absurd z (by decide), fun z => absurd z (by decide), fun z => absurd z (by decide), fun _ _ _ _ z => absurd rfl z⟩)
  · subst c
    rw [f1]
    refine x_sumc r h4 ?_
    refine kct (by decide) (Nat.le_of_ble_eq_true rfl) (bX6_count_0 _ Mm _ ⟨fun z => absurd z (by decide), fun z => absurd z (by decide), fun z => absurd z (by decide), fun z => absurd z (by decide), fun z => absurd z (by decide), fun _ => m_sumc r h4 (e1.symm.trans f1) ⟨?_, hm⟩, fun z => absurd z (by decide), fun z => absurd z (by decide), fun _ _ _ _ _ z => absurd rfl z⟩)
    refine isum_cg r (fun i hi => ?_)
    have := q 7 i (by decide) (by first | (show _ < 4; omega) | (show _ < 8; omega) | exact fln_s (by assumption) (by omega) (by omega) (by omega) | exact fln_r (by assumption) (by omega) (by omega))
    rw [wof_rmd (by decide) (by first | (show _ < 4; omega) | (show _ < 8; omega) | exact fln_s (by assumption) (by omega) (by omega) (by omega) | exact fln_r (by assumption) (by omega) (by omega)), Nat.zero_add] at this
    exact this
  · subst c
    rw [f0]
    refine x_sumh S h8 ?_
    refine kct (by decide) (Nat.le_of_ble_eq_true rfl) (bX6_count_0 _ Mm _ ⟨fun z => absurd z (by decide), fun z => absurd z (by decide), fun z => absurd z (by decide), fun z => absurd z (by decide), fun z => absurd z (by decide), fun z => absurd z (by decide), fun _ => m_sumh S h8 (e0.symm.trans f0) ⟨?_, hm⟩, fun z => absurd z (by decide), fun _ _ _ _ _ _ z => absurd rfl z⟩)
    refine isum_cg S (fun i hi => ?_)
    have := q 3 i (by decide) (by first | (show _ < 4; omega) | (show _ < 8; omega) | exact fln_s (by assumption) (by omega) (by omega) (by omega) | exact fln_r (by assumption) (by omega) (by omega))
    rw [wof_rmd (by decide) (by first | (show _ < 4; omega) | (show _ < 8; omega) | exact fln_s (by assumption) (by omega) (by omega) (by omega) | exact fln_r (by assumption) (by omega) (by omega))] at this
    exact this
  · subst c
    refine kct (by decide) (Nat.le_of_ble_eq_true rfl) (bX6_count_0 _ Mm _ ⟨fun z => absurd z (by decide), fun z => absurd z (by decide), fun z => absurd z (by decide), fun z => absurd z (by decide), fun z => absurd z (by decide), fun z => absurd z (by decide), fun z => absurd z (by decide), fun _ => ⟨u3.trans u5.symm, hm⟩, fun _ _ _ _ _ _ _ z => absurd rfl z⟩)
  · refine kct (by decide) (Nat.le_of_ble_eq_true rfl) (bX6_count_0 _ Mm _ ⟨fun z => absurd z c0, fun z => absurd z c1, fun z => absurd z c2, fun z => absurd z c3, fun z => absurd z c4, fun z => absurd z c5, fun z => absurd z c6, fun z => absurd z c7, fun _ _ _ _ _ _ _ _ => ⟨rfl, hm⟩⟩)
theorem rmd_ap {f j : Nat} {R : Rc} (q : req R (rmd M 0)) (hf : f < 9) (hj : j < fln R f) : R f j = M.1 1 0 (wof f j) := by
  have := q f j hf hj
  rw [wof_rmd hf (Nat.lt_of_lt_of_le hj (fln_le _ _)), Nat.zero_add] at this
  exact this
theorem pair_at (h : Inv n Mx Mm) (a1 a2 : Int32) : kPair l g1 g2 mX5_at mX6_at [.inl a1, .inl a2] Mx Mm (Inv (n + 1)) := by
  have hm := h.mono
  have e1 := h.riders
  refine kct (by decide) (Nat.le_of_ble_eq_true rfl) (bX5_at_0 a1 a2 Mx _ (x_isRider _ ⟨fun c => ?_, fun c => ?_⟩))
  · have c' := c
    obtain ⟨S, r, i, ok, hi, hr, rfl⟩ := h.isR c
    obtain ⟨S', r', q, -⟩ := h.1
    rw [e1] at c'
    have h8 := ok.2.1
    obtain ⟨b, hb, e5⟩ := ok.2.2.2.2 i hi
    have g4 := rmd_ap (f := 4) (j := i) q (by decide) (by first | (show _ < 4; omega) | (show _ < 8; omega) | exact fln_s (by assumption) (by omega) (by omega) (by omega) | exact fln_r (by assumption) (by omega) (by omega))
    have g5 := rmd_ap (f := 5) (j := i) q (by decide) (by first | (show _ < 4; omega) | (show _ < 8; omega) | exact fln_s (by assumption) (by omega) (by omega) (by omega) | exact fln_r (by assumption) (by omega) (by omega))
    have g6 := rmd_ap (f := 6) (j := i) q (by decide) (by first | (show _ < 4; omega) | (show _ < 8; omega) | exact fln_s (by assumption) (by omega) (by omega) (by omega) | exact fln_r (by assumption) (by omega) (by omega))
    have g7 := rmd_ap (f := 7) (j := i) q (by decide) (by first | (show _ < 4; omega) | (show _ < 8; omega) | exact fln_s (by assumption) (by omega) (by omega) (by omega) | exact fln_r (by assumption) (by omega) (by omega))
    have g8 := rmd_ap (f := 8) (j := i) q (by decide) (by first | (show _ < 4; omega) | (show _ < 8; omega) | exact fln_s (by assumption) (by omega) (by omega) (by omega) | exact fln_r (by assumption) (by omega) (by omega))
    have e5' : Mx.1 11 0 i = nI b := e5
    have tk : ∀ v : Int32, ∀ Qx Qm : Int32 → kM → Prop, (∀ w, Qm w Mm → Qx w Mx) → True := fun _ _ _ _ => trivial
    have stx : ∀ (v : Int32) (Q : Int32 → kM → Prop), Q (if rx Mx 0 5 i < rx Mx 0 0 0 then tks (Mx.1 10 0 i) (Mx.1 7 0 b) v else -4) Mx → kCT l (rg_x, g1) mX5_stageTakes [.inr (.inr (0, 0)), .inl (nI i), .inl v] Mx (kqi Q) := by
      intro v Q hQ
      refine kct (by decide) (Nat.le_of_ble_eq_true rfl) (bX5_stageTakes_0 _ _ Mx Q (x_isThere 0 i (by omega) ?_))
      by_cases cc : rx Mx 0 5 i < rx Mx 0 0 0
      · rw [if_pos cc] at hQ ⊢
        refine ⟨fun _ => ?_, fun z => absurd rfl z⟩
        have : b < 8 := by
          rw [e5, ok.1, q_lt (by omega) (by omega)] at cc
          omega
        simp (disch := omega) only [qa_0, qa_1, qa_2, qa_3, qa_4, qa_5, qa_6, qa_7, qa_8, qa_9, qa_10, qa_12, qa_16, qa_20, qa_21, qa_22, qa_23, qa_24, qa_26, qa_27, qa_30, qa_31, qa_32, qa_35, qa_36, qa_40, qa_44, qa_48, qa_49, qa_70, qa_81, qa_90, qa_96, qa_168, qa_217, qa_434, qa_442, qa_446, qa_450, qa_454, qa_455, qa_456, qa_457, qa_458, qa_466, qa_474, qa_478, qb_0, qb_1, qb_2, qb_3, qb_4, qb_5, qb_6, qb_7, qb_8, qb_9, qb_10, qb_12, qb_16, qb_20, qb_21, qb_22, qb_23, qb_24, qb_26, qb_27, qb_30, qb_31, qb_32, qb_35, qb_36, qb_40, qb_44, qb_48, qb_49, qb_70, qb_81, qb_90, qb_96, qb_168, qb_217, qb_434, qb_442, qb_446, qb_450, qb_454, qb_455, qb_456, qb_457, qb_458, qb_466, qb_474, qb_478, qm_0, qm_1, qm_2, qm_3, qm_4, qm_5, qm_6, qm_7, qm_8, qm_9, qm_10, qm_12, qm_16, qm_20, qm_21, qm_22, qm_23, qm_24, qm_26, qm_27, qm_30, qm_31, qm_32, qm_35, qm_36, qm_40, qm_44, qm_48, qm_49, qm_70, qm_81, qm_90, qm_96, qm_168, qm_217, qm_434, qm_442, qm_446, qm_450, qm_454, qm_455, qm_456, qm_457, qm_458, qm_466, qm_474, qm_478, ql_0, ql_1, ql_2, ql_3, ql_4, ql_5, ql_6, ql_7, ql_8, ql_9, ql_10, ql_12, ql_16, ql_20, ql_21, ql_22, ql_23, ql_24, ql_26, ql_27, ql_30, ql_31, ql_32, ql_35, ql_36, ql_40, ql_44, ql_48, ql_49, ql_70, ql_81, ql_90, ql_96, ql_168, ql_217, ql_434, ql_442, ql_446, ql_450, ql_454, ql_455, ql_456, ql_457, ql_458, ql_466, ql_474, ql_478, nI_add, q_cl, q_in, true_and]
        rw [e5']
        simp (disch := omega) only [qa_0, qa_1, qa_2, qa_3, qa_4, qa_5, qa_6, qa_7, qa_8, qa_9, qa_10, qa_12, qa_16, qa_20, qa_21, qa_22, qa_23, qa_24, qa_26, qa_27, qa_30, qa_31, qa_32, qa_35, qa_36, qa_40, qa_44, qa_48, qa_49, qa_70, qa_81, qa_90, qa_96, qa_168, qa_217, qa_434, qa_442, qa_446, qa_450, qa_454, qa_455, qa_456, qa_457, qa_458, qa_466, qa_474, qa_478, qb_0, qb_1, qb_2, qb_3, qb_4, qb_5, qb_6, qb_7, qb_8, qb_9, qb_10, qb_12, qb_16, qb_20, qb_21, qb_22, qb_23, qb_24, qb_26, qb_27, qb_30, qb_31, qb_32, qb_35, qb_36, qb_40, qb_44, qb_48, qb_49, qb_70, qb_81, qb_90, qb_96, qb_168, qb_217, qb_434, qb_442, qb_446, qb_450, qb_454, qb_455, qb_456, qb_457, qb_458, qb_466, qb_474, qb_478, qm_0, qm_1, qm_2, qm_3, qm_4, qm_5, qm_6, qm_7, qm_8, qm_9, qm_10, qm_12, qm_16, qm_20, qm_21, qm_22, qm_23, qm_24, qm_26, qm_27, qm_30, qm_31, qm_32, qm_35, qm_36, qm_40, qm_44, qm_48, qm_49, qm_70, qm_81, qm_90, qm_96, qm_168, qm_217, qm_434, qm_442, qm_446, qm_450, qm_454, qm_455, qm_456, qm_457, qm_458, qm_466, qm_474, qm_478, ql_0, ql_1, ql_2, ql_3, ql_4, ql_5, ql_6, ql_7, ql_8, ql_9, ql_10, ql_12, ql_16, ql_20, ql_21, ql_22, ql_23, ql_24, ql_26, ql_27, ql_30, ql_31, ql_32, ql_35, ql_36, ql_40, ql_44, ql_48, ql_49, ql_70, ql_81, ql_90, ql_96, ql_168, ql_217, ql_434, ql_442, ql_446, ql_450, ql_454, ql_455, ql_456, ql_457, ql_458, ql_466, ql_474, ql_478, nI_add, q_cl, q_in, true_and]
        exact x_minutesFor _ _ _ hQ
      · rw [if_neg cc] at hQ ⊢
        exact ⟨fun z => absurd z (by decide), fun _ => hQ⟩
    have stm : ∀ (v : Int32) (Q : Int32 → kM → Prop), Q (if rx Mx 0 5 i < rx Mx 0 0 0 then tks (Mx.1 10 0 i) (Mx.1 7 0 b) v else -4) Mm → kCT l (rg_m, g2) mX6_takesNow [.inr (.inr (0, 0)), .inl (nI i), .inl v] Mm (kqi Q) := by
      intro v Q hQ
      refine kct (by decide) (Nat.le_of_ble_eq_true rfl) (bX6_takesNow_0 _ _ Mm Q (m_isThere 0 i (by omega) (by omega) ?_))
      have hb' := rel.bh (n := n) ok q hi
      by_cases cc : rx Mx 0 5 i < rx Mx 0 0 0
      · rw [if_neg (hb'.mp cc)]
        rw [if_pos cc] at hQ
        refine ⟨fun _ => ?_, fun z => absurd rfl z⟩
        have hbS : b < S := by
          rw [e5, ok.1, q_lt (by omega) (by omega)] at cc
          exact cc
        have gb := rmd_ap (f := 1) (j := b) q (by decide) (by first | (show _ < 4; omega) | (show _ < 8; omega) | exact fln_s (by assumption) (by omega) (by omega) (by omega) | exact fln_r (by assumption) (by omega) (by omega))
        simp (disch := omega) only [qa_0, qa_1, qa_2, qa_3, qa_4, qa_5, qa_6, qa_7, qa_8, qa_9, qa_10, qa_12, qa_16, qa_20, qa_21, qa_22, qa_23, qa_24, qa_26, qa_27, qa_30, qa_31, qa_32, qa_35, qa_36, qa_40, qa_44, qa_48, qa_49, qa_70, qa_81, qa_90, qa_96, qa_168, qa_217, qa_434, qa_442, qa_446, qa_450, qa_454, qa_455, qa_456, qa_457, qa_458, qa_466, qa_474, qa_478, qb_0, qb_1, qb_2, qb_3, qb_4, qb_5, qb_6, qb_7, qb_8, qb_9, qb_10, qb_12, qb_16, qb_20, qb_21, qb_22, qb_23, qb_24, qb_26, qb_27, qb_30, qb_31, qb_32, qb_35, qb_36, qb_40, qb_44, qb_48, qb_49, qb_70, qb_81, qb_90, qb_96, qb_168, qb_217, qb_434, qb_442, qb_446, qb_450, qb_454, qb_455, qb_456, qb_457, qb_458, qb_466, qb_474, qb_478, qm_0, qm_1, qm_2, qm_3, qm_4, qm_5, qm_6, qm_7, qm_8, qm_9, qm_10, qm_12, qm_16, qm_20, qm_21, qm_22, qm_23, qm_24, qm_26, qm_27, qm_30, qm_31, qm_32, qm_35, qm_36, qm_40, qm_44, qm_48, qm_49, qm_70, qm_81, qm_90, qm_96, qm_168, qm_217, qm_434, qm_442, qm_446, qm_450, qm_454, qm_455, qm_456, qm_457, qm_458, qm_466, qm_474, qm_478, ql_0, ql_1, ql_2, ql_3, ql_4, ql_5, ql_6, ql_7, ql_8, ql_9, ql_10, ql_12, ql_16, ql_20, ql_21, ql_22, ql_23, ql_24, ql_26, ql_27, ql_30, ql_31, ql_32, ql_35, ql_36, ql_40, ql_44, ql_48, ql_49, ql_70, ql_81, ql_90, ql_96, ql_168, ql_217, ql_434, ql_442, ql_446, ql_450, ql_454, ql_455, ql_456, ql_457, ql_458, ql_466, ql_474, ql_478, nI_add, q_cl, q_in, true_and]
        rw [show Mm.1 1 0 (8 + i) = nI b from g5.symm.trans e5]
        simp (disch := omega) only [qa_0, qa_1, qa_2, qa_3, qa_4, qa_5, qa_6, qa_7, qa_8, qa_9, qa_10, qa_12, qa_16, qa_20, qa_21, qa_22, qa_23, qa_24, qa_26, qa_27, qa_30, qa_31, qa_32, qa_35, qa_36, qa_40, qa_44, qa_48, qa_49, qa_70, qa_81, qa_90, qa_96, qa_168, qa_217, qa_434, qa_442, qa_446, qa_450, qa_454, qa_455, qa_456, qa_457, qa_458, qa_466, qa_474, qa_478, qb_0, qb_1, qb_2, qb_3, qb_4, qb_5, qb_6, qb_7, qb_8, qb_9, qb_10, qb_12, qb_16, qb_20, qb_21, qb_22, qb_23, qb_24, qb_26, qb_27, qb_30, qb_31, qb_32, qb_35, qb_36, qb_40, qb_44, qb_48, qb_49, qb_70, qb_81, qb_90, qb_96, qb_168, qb_217, qb_434, qb_442, qb_446, qb_450, qb_454, qb_455, qb_456, qb_457, qb_458, qb_466, qb_474, qb_478, qm_0, qm_1, qm_2, qm_3, qm_4, qm_5, qm_6, qm_7, qm_8, qm_9, qm_10, qm_12, qm_16, qm_20, qm_21, qm_22, qm_23, qm_24, qm_26, qm_27, qm_30, qm_31, qm_32, qm_35, qm_36, qm_40, qm_44, qm_48, qm_49, qm_70, qm_81, qm_90, qm_96, qm_168, qm_217, qm_434, qm_442, qm_446, qm_450, qm_454, qm_455, qm_456, qm_457, qm_458, qm_466, qm_474, qm_478, ql_0, ql_1, ql_2, ql_3, ql_4, ql_5, ql_6, ql_7, ql_8, ql_9, ql_10, ql_12, ql_16, ql_20, ql_21, ql_22, ql_23, ql_24, ql_26, ql_27, ql_30, ql_31, ql_32, ql_35, ql_36, ql_40, ql_44, ql_48, ql_49, ql_70, ql_81, ql_90, ql_96, ql_168, ql_217, ql_434, ql_442, ql_446, ql_450, ql_454, ql_455, ql_456, ql_457, ql_458, ql_466, ql_474, ql_478, nI_add, q_cl, q_in, true_and]
        rw [show Mm.1 1 0 (40 + i) = Mx.1 10 0 i from g4.symm, show Mm.1 1 0 (24 + b) = Mx.1 7 0 b from gb.symm]
        exact m_takes _ _ _ (bX6_takesNow_44 _ _ _ hQ)
      · rw [if_pos (Classical.byContradiction (fun z => cc (hb'.mpr z)))]
        rw [if_neg cc] at hQ
        exact ⟨fun z => absurd z (by decide), fun _ => bX6_takesNow_44 _ _ _ hQ⟩
    have mm : ∀ Q : Int32 → kM → Prop, ((a2 = 0 → Q (Mx.1 10 0 i) Mm) ∧ (a2 = 1 → Q (Mx.1 11 0 i) Mm) ∧ (a2 = 2 → Q (Mx.1 12 0 i) Mm) ∧ (a2 = 3 → Q (Mx.1 13 0 i) Mm) ∧ (a2 = 4 → Q (Mx.1 14 0 i) Mm) ∧ (a2 = 5 → Q (if rx Mx 0 5 i < rx Mx 0 0 0 then tks (Mx.1 10 0 i) (Mx.1 7 0 b) 1 else -4) Mm) ∧ (a2 = 6 → Q (if rx Mx 0 5 i < rx Mx 0 0 0 then tks (Mx.1 10 0 i) (Mx.1 7 0 b) 0 else -4) Mm) ∧ (¬ a2 = 0 → ¬ a2 = 1 → ¬ a2 = 2 → ¬ a2 = 3 → ¬ a2 = 4 → ¬ a2 = 5 → ¬ a2 = 6 → Q (-1) Mm)) → kCT l (rg_m, g2) mX6_at [.inr (.inr (0, 0)), .inl (nI i), .inl a2] Mm (kqi Q) := by
      rintro Q ⟨w0, w1, w2, w3, w4, w5, w6, w7⟩
      refine kct (by decide) (Nat.le_of_ble_eq_true rfl) (bX6_at_0 _ a2 Mm _ (m_isRider _ ⟨fun _ => ?_, fun z => absurd z c'⟩))
      simp (disch := omega) only [qa_0, qa_1, qa_2, qa_3, qa_4, qa_5, qa_6, qa_7, qa_8, qa_9, qa_10, qa_12, qa_16, qa_20, qa_21, qa_22, qa_23, qa_24, qa_26, qa_27, qa_30, qa_31, qa_32, qa_35, qa_36, qa_40, qa_44, qa_48, qa_49, qa_70, qa_81, qa_90, qa_96, qa_168, qa_217, qa_434, qa_442, qa_446, qa_450, qa_454, qa_455, qa_456, qa_457, qa_458, qa_466, qa_474, qa_478, qb_0, qb_1, qb_2, qb_3, qb_4, qb_5, qb_6, qb_7, qb_8, qb_9, qb_10, qb_12, qb_16, qb_20, qb_21, qb_22, qb_23, qb_24, qb_26, qb_27, qb_30, qb_31, qb_32, qb_35, qb_36, qb_40, qb_44, qb_48, qb_49, qb_70, qb_81, qb_90, qb_96, qb_168, qb_217, qb_434, qb_442, qb_446, qb_450, qb_454, qb_455, qb_456, qb_457, qb_458, qb_466, qb_474, qb_478, qm_0, qm_1, qm_2, qm_3, qm_4, qm_5, qm_6, qm_7, qm_8, qm_9, qm_10, qm_12, qm_16, qm_20, qm_21, qm_22, qm_23, qm_24, qm_26, qm_27, qm_30, qm_31, qm_32, qm_35, qm_36, qm_40, qm_44, qm_48, qm_49, qm_70, qm_81, qm_90, qm_96, qm_168, qm_217, qm_434, qm_442, qm_446, qm_450, qm_454, qm_455, qm_456, qm_457, qm_458, qm_466, qm_474, qm_478, ql_0, ql_1, ql_2, ql_3, ql_4, ql_5, ql_6, ql_7, ql_8, ql_9, ql_10, ql_12, ql_16, ql_20, ql_21, ql_22, ql_23, ql_24, ql_26, ql_27, ql_30, ql_31, ql_32, ql_35, ql_36, ql_40, ql_44, ql_48, ql_49, ql_70, ql_81, ql_90, ql_96, ql_168, ql_217, ql_434, ql_442, ql_446, ql_450, ql_454, ql_455, ql_456, ql_457, ql_458, ql_466, ql_474, ql_478, nI_add, q_cl, q_in, true_and]
      rw [show Mm.1 1 0 (40 + i) = Mx.1 10 0 i from g4.symm, show Mm.1 1 0 (8 + i) = Mx.1 11 0 i from g5.symm, show Mm.1 1 0 (12 + i) = Mx.1 12 0 i from g6.symm, show Mm.1 1 0 (16 + i) = Mx.1 13 0 i from g7.symm, show Mm.1 1 0 (44 + i) = Mx.1 14 0 i from g8.symm]
      exact ⟨w0, w1, w2, w3, w4, fun c => stm 1 _ (w5 c), fun c => stm 0 _ (w6 c), w7⟩
    simp (disch := omega) only [qa_0, qa_1, qa_2, qa_3, qa_4, qa_5, qa_6, qa_7, qa_8, qa_9, qa_10, qa_12, qa_16, qa_20, qa_21, qa_22, qa_23, qa_24, qa_26, qa_27, qa_30, qa_31, qa_32, qa_35, qa_36, qa_40, qa_44, qa_48, qa_49, qa_70, qa_81, qa_90, qa_96, qa_168, qa_217, qa_434, qa_442, qa_446, qa_450, qa_454, qa_455, qa_456, qa_457, qa_458, qa_466, qa_474, qa_478, qb_0, qb_1, qb_2, qb_3, qb_4, qb_5, qb_6, qb_7, qb_8, qb_9, qb_10, qb_12, qb_16, qb_20, qb_21, qb_22, qb_23, qb_24, qb_26, qb_27, qb_30, qb_31, qb_32, qb_35, qb_36, qb_40, qb_44, qb_48, qb_49, qb_70, qb_81, qb_90, qb_96, qb_168, qb_217, qb_434, qb_442, qb_446, qb_450, qb_454, qb_455, qb_456, qb_457, qb_458, qb_466, qb_474, qb_478, qm_0, qm_1, qm_2, qm_3, qm_4, qm_5, qm_6, qm_7, qm_8, qm_9, qm_10, qm_12, qm_16, qm_20, qm_21, qm_22, qm_23, qm_24, qm_26, qm_27, qm_30, qm_31, qm_32, qm_35, qm_36, qm_40, qm_44, qm_48, qm_49, qm_70, qm_81, qm_90, qm_96, qm_168, qm_217, qm_434, qm_442, qm_446, qm_450, qm_454, qm_455, qm_456, qm_457, qm_458, qm_466, qm_474, qm_478, ql_0, ql_1, ql_2, ql_3, ql_4, ql_5, ql_6, ql_7, ql_8, ql_9, ql_10, ql_12, ql_16, ql_20, ql_21, ql_22, ql_23, ql_24, ql_26, ql_27, ql_30, ql_31, ql_32, ql_35, ql_36, ql_40, ql_44, ql_48, ql_49, ql_70, ql_81, ql_90, ql_96, ql_168, ql_217, ql_434, ql_442, ql_446, ql_450, ql_454, ql_455, ql_456, ql_457, ql_458, ql_466, ql_474, ql_478, nI_add, q_cl, q_in, true_and]
    refine ⟨fun c => ?_, fun c => ?_, fun c => ?_, fun c => ?_, fun c => ?_, fun c => stx 1 _ ?_, fun c => stx 0 _ ?_, fun c0 c1 c2 c3 c4 c5 c6 => ?_⟩
    · subst c
      exact mm _ ⟨fun _ => ⟨rfl, hm⟩, fun z => absurd z (by decide), fun z => absurd z (by decide), fun z => absurd z (by decide), fun z => absurd z (by decide), fun z => absurd z (by decide), fun z => absurd z (by decide), fun z => absurd rfl z⟩
    · subst c
      exact mm _ ⟨fun z => absurd z (by decide), fun _ => ⟨rfl, hm⟩, fun z => absurd z (by decide), fun z => absurd z (by decide), fun z => absurd z (by decide), fun z => absurd z (by decide), fun z => absurd z (by decide), fun _ z => absurd rfl z⟩
    · subst c
      exact mm _ ⟨fun z => absurd z (by decide), fun z => absurd z (by decide), fun _ => ⟨rfl, hm⟩, fun z => absurd z (by decide), fun z => absurd z (by decide), fun z => absurd z (by decide), fun z => absurd z (by decide), fun _ _ z => absurd rfl z⟩
    · subst c
      exact mm _ ⟨fun z => absurd z (by decide), fun z => absurd z (by decide), fun z => absurd z (by decide), fun _ => ⟨rfl, hm⟩, fun z => absurd z (by decide), fun z => absurd z (by decide), fun z => absurd z (by decide), fun _ _ _ z => absurd rfl z⟩
    · subst c
      exact mm _ ⟨fun z => absurd z (by decide), fun z => absurd z (by decide), fun z => absurd z (by decide), fun z => absurd z (by decide), fun _ => ⟨rfl, hm⟩, fun z => absurd z (by decide), fun z => absurd z (by decide), fun _ _ _ _ z => absurd rfl z⟩
    · subst c
      exact mm _ ⟨fun z => absurd z (by decide), fun z => absurd z (by decide), fun z => absurd z (by decide), fun z => absurd z (by decide), fun z => absurd z (by decide), fun _ => ⟨rfl, hm⟩, fun z => absurd z (by decide), fun _ _ _ _ _ z => absurd rfl z⟩
    · subst c
      exact mm _ ⟨fun z => absurd z (by decide), fun z => absurd z (by decide), fun z => absurd z (by decide), fun z => absurd z (by decide), fun z => absurd z (by decide), fun z => absurd z (by decide), fun _ => ⟨rfl, hm⟩, fun _ _ _ _ _ _ z => absurd rfl z⟩
    · exact mm _ ⟨fun z => absurd z c0, fun z => absurd z c1, fun z => absurd z c2, fun z => absurd z c3, fun z => absurd z c4, fun z => absurd z c5, fun z => absurd z c6, fun _ _ _ _ _ _ _ => ⟨rfl, hm⟩⟩
  · rw [e1] at c
    refine kct (by decide) (Nat.le_of_ble_eq_true rfl) (bX6_at_0 _ a2 Mm _ (m_isRider _ ⟨fun z => absurd c z, fun _ => ⟨rfl, hm⟩⟩))
end KCO
