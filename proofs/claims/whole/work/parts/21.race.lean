/-! ===== races: of the class, of the reference ===== -/
abbrev Rc : Type := Nat → Nat → Int32
def rx (M : kM) (k : Nat) : Rc
  | 0, j => M.1 1 k j
  | 1, j => M.1 7 k j
  | 2, j => M.1 8 k j
  | 3, j => M.1 9 k j
  | 4, j => M.1 10 k j
  | 5, j => M.1 11 k j
  | 6, j => M.1 12 k j
  | 7, j => M.1 13 k j
  | 8, j => M.1 14 k j
  | _, _ => 0
def rmd (M : kM) (h : Nat) : Rc
  | 0, 0 => M.1 1 0 (h + 21)
  | 0, 1 => M.1 1 0 (h + 22)
  | 0, 2 => M.1 1 0 (h + 23)
  | 0, _ => M.1 1 0 (h + 20)
  | 1, j => M.1 1 0 (h + 24 + j)
  | 2, j => M.1 1 0 (h + 32 + j)
  | 3, j => M.1 1 0 (h + 0 + j)
  | 4, j => M.1 1 0 (h + 40 + j)
  | 5, j => M.1 1 0 (h + 8 + j)
  | 6, j => M.1 1 0 (h + 12 + j)
  | 7, j => M.1 1 0 (h + 16 + j)
  | 8, j => M.1 1 0 (h + 44 + j)
  | _, _ => 0
def flen (f : Nat) : Nat := if f = 0 then 4 else if f ≤ 3 then 8 else 4
/-- places that count: of stages, of riders -/
def fln (R : Rc) (f : Nat) : Nat := if f = 0 then 4 else if f ≤ 3 then min 8 (R 0 0).toNatClampNeg else min 4 (R 0 1).toNatClampNeg
theorem fln_le (R : Rc) (f : Nat) : fln R f ≤ flen f := by
  unfold fln flen
  split
  · exact Nat.le_refl _
  · split
    · exact Nat.min_le_left _ _
    · exact Nat.min_le_left _ _
/-- alike, where a race has places -/
def reqF (R T : Rc) : Prop := ∀ f j, f < 9 → j < flen f → R f j = T f j
/-- alike, where a place counts -/
def req (R T : Rc) : Prop := ∀ f j, f < 9 → j < fln R f → R f j = T f j
theorem reqF.w {R T : Rc} (h : reqF R T) : req R T := fun f j hf hj => h f j hf (Nat.lt_of_lt_of_le hj (fln_le R f))
theorem req.z {R T : Rc} (h : req R T) (j : Nat) (hj : j < 4) : R 0 j = T 0 j := h 0 j (by decide) hj
theorem req.fl {R T : Rc} (h : req R T) (f : Nat) : fln T f = fln R f := by
  unfold fln
  rw [h.z 0 (by decide), h.z 1 (by decide)]
theorem req.refl (R : Rc) : req R R := fun _ _ _ _ => rfl
theorem req.symm {R T : Rc} (h : req R T) : req T R := fun f j a b => (h f j a (by rw [← h.fl]; exact b)).symm
theorem req.trans {R T U : Rc} (h : req R T) (h2 : req T U) : req R U := fun f j a b => (h f j a b).trans (h2 f j a (by rw [h.fl]; exact b))
/-- so many stages, riders; nobody is behind the forge -/
def rok (R : Rc) (S n : Nat) : Prop := R 0 0 = nI S ∧ S ≤ 8 ∧ R 0 1 = nI n ∧ n ≤ 4 ∧ ∀ r, r < n → ∃ b, b ≤ S ∧ R 5 r = nI b
theorem fln_s {R : Rc} {S n f j : Nat} (ok : rok R S n) (h1 : 1 ≤ f) (h3 : f ≤ 3) (hj : j < S) : j < fln R f := by
  have := ok.2.1
  unfold fln
  rw [if_neg (by omega), if_pos h3, ok.1, q_cl (by omega)]
  omega
theorem fln_r {R : Rc} {S n f j : Nat} (ok : rok R S n) (h4 : 4 ≤ f) (hj : j < n) : j < fln R f := by
  have := ok.2.2.2.1
  unfold fln
  rw [if_neg (by omega), if_neg (by omega), ok.2.2.1, q_cl (by omega)]
  omega
theorem req.ok {R T : Rc} (h : req R T) {S n : Nat} (hr : rok R S n) : rok T S n := by
  have hr' := hr
  obtain ⟨h1, h2, h3, h4, h5⟩ := hr
  refine ⟨by rw [← h.z 0 (by decide)]; exact h1, h2, by rw [← h.z 1 (by decide)]; exact h3, h4, fun r hr => ?_⟩
  rw [← h 5 r (by decide) (fln_r hr' (by omega) hr)]
  exact h5 r hr
/-- who rides next of the first n: -4, or the number -/
def rwho (R : Rc) : Nat → Int32
  | 0 => -4
  | n + 1 => if R 5 n < R 0 0 ∧ (rwho R n = -4 ∨ R 6 n < R 6 (rwho R n).toNatClampNeg) then nI n else rwho R n
theorem rwho_cases (R : Rc) : ∀ n, rwho R n = -4 ∨ ∃ i, i < n ∧ rwho R n = nI i ∧ R 5 i < R 0 0
  | 0 => Or.inl rfl
  | n + 1 => by
    unfold rwho
    by_cases c : R 5 n < R 0 0 ∧ (rwho R n = -4 ∨ R 6 n < R 6 (rwho R n).toNatClampNeg)
    · rw [if_pos c]
      exact Or.inr ⟨n, Nat.lt_succ_self n, rfl, c.1⟩
    · rw [if_neg c]
      rcases rwho_cases R n with h | ⟨i, h1, h2⟩
      · exact Or.inl h
      · exact Or.inr ⟨i, Nat.lt_succ_of_lt h1, h2⟩
theorem nI_neg4 {i : Nat} (h : i < 2147483648) : ¬ nI i = -4 := by
  intro q
  have h1 := nI_toInt h
  rw [q] at h1
  have : (-4 : Int32).toInt = -4 := by decide
  omega
theorem rwho_eq' {R T : Rc} {S m : Nat} (h : req R T) (ok : rok R S m) : ∀ n, n ≤ m → rwho R n = rwho T n
  | 0, _ => rfl
  | n + 1, hn => by
    have h4 := ok.2.2.2.1
    have ih := rwho_eq' h ok n (by omega)
    have e5 : R 5 n = T 5 n := h 5 n (by decide) (fln_r ok (by omega) (by omega))
    have e6 : R 6 n = T 6 n := h 6 n (by decide) (fln_r ok (by omega) (by omega))
    have e0 : R 0 0 = T 0 0 := h.z 0 (by decide)
    have ew : rwho R n = -4 ∨ R 6 (rwho R n).toNatClampNeg = T 6 (rwho R n).toNatClampNeg := by
      rcases rwho_cases R n with q | ⟨i, q1, q2, -⟩
      · exact Or.inl q
      · right
        rw [q2, q_cl (by omega)]
        exact h 6 i (by decide) (fln_r ok (by omega) (by omega))
    unfold rwho
    rw [← ih, ← e5, ← e0, ← e6]
    rcases ew with q | q
    · rw [q]; simp
    · rw [← q]
theorem rwho_eq {R T : Rc} {S m : Nat} (h : req R T) (ok : rok R S m) : rwho R m = rwho T m := rwho_eq' h ok m (Nat.le_refl _)
/-- none rides next: all are there -/
theorem rwho_none {R : Rc} : ∀ n, rwho R n = -4 → n ≤ 4 → ∀ r, r < n → ¬ R 5 r < R 0 0
  | 0, _, _, r, hr => by omega
  | n + 1, h, hn, r, hr => by
    unfold rwho at h
    by_cases c : R 5 n < R 0 0 ∧ (rwho R n = -4 ∨ R 6 n < R 6 (rwho R n).toNatClampNeg)
    · rw [if_pos c] at h
      exact absurd h (nI_neg4 (by omega))
    · rw [if_neg c] at h
      by_cases hrn : r = n
      · subst hrn
        exact fun q => c ⟨q, Or.inl h⟩
      · exact rwho_none n h (by omega) r (by omega)
section KRC
variable {l : Launch} {g : va_G × (Nat → ClassId) × (Nat → Nat → Nat)} {M : kM} {Q : Int32 → kM → Prop} {Qv : kM → Prop}
theorem x_isThere (k r : Nat) (hr : r < 4) (h : Q (if rx M k 5 r < rx M k 0 0 then 0 else 1) M) : kCT l (rg_x, g) mX3_isThere [.inr (.inr (1, k)), .inl (nI r)] M (kqi Q) := by
  refine kct (by decide) (Nat.le_of_ble_eq_true rfl) (bX3_isThere_0 k (nI r) M Q ?_)
  simp (disch := omega) only [qa_0, qa_1, qa_2, qa_3, qa_4, qa_5, qa_6, qa_7, qa_8, qa_9, qa_10, qa_12, qa_16, qa_20, qa_21, qa_22, qa_23, qa_24, qa_26, qa_27, qa_30, qa_31, qa_32, qa_35, qa_36, qa_40, qa_44, qa_48, qa_49, qa_70, qa_81, qa_90, qa_96, qa_168, qa_217, qa_434, qa_442, qa_446, qa_450, qa_454, qa_455, qa_456, qa_457, qa_458, qa_466, qa_474, qa_478, qb_0, qb_1, qb_2, qb_3, qb_4, qb_5, qb_6, qb_7, qb_8, qb_9, qb_10, qb_12, qb_16, qb_20, qb_21, qb_22, qb_23, qb_24, qb_26, qb_27, qb_30, qb_31, qb_32, qb_35, qb_36, qb_40, qb_44, qb_48, qb_49, qb_70, qb_81, qb_90, qb_96, qb_168, qb_217, qb_434, qb_442, qb_446, qb_450, qb_454, qb_455, qb_456, qb_457, qb_458, qb_466, qb_474, qb_478, qm_0, qm_1, qm_2, qm_3, qm_4, qm_5, qm_6, qm_7, qm_8, qm_9, qm_10, qm_12, qm_16, qm_20, qm_21, qm_22, qm_23, qm_24, qm_26, qm_27, qm_30, qm_31, qm_32, qm_35, qm_36, qm_40, qm_44, qm_48, qm_49, qm_70, qm_81, qm_90, qm_96, qm_168, qm_217, qm_434, qm_442, qm_446, qm_450, qm_454, qm_455, qm_456, qm_457, qm_458, qm_466, qm_474, qm_478, ql_0, ql_1, ql_2, ql_3, ql_4, ql_5, ql_6, ql_7, ql_8, ql_9, ql_10, ql_12, ql_16, ql_20, ql_21, ql_22, ql_23, ql_24, ql_26, ql_27, ql_30, ql_31, ql_32, ql_35, ql_36, ql_40, ql_44, ql_48, ql_49, ql_70, ql_81, ql_90, ql_96, ql_168, ql_217, ql_434, ql_442, ql_446, ql_450, ql_454, ql_455, ql_456, ql_457, ql_458, ql_466, ql_474, ql_478, nI_add, q_cl, q_in, true_and]
  refine ⟨fun c => ?_, fun c => ?_⟩
  · rw [if_pos (show rx M k 5 r < rx M k 0 0 from c)] at h
    exact bX3_isThere_18 0 M Q ⟨Or.inl rfl, h⟩
  · rw [if_neg (show ¬ rx M k 5 r < rx M k 0 0 from c)] at h
    exact bX3_isThere_18 1 M Q ⟨Or.inr rfl, h⟩
theorem m_isThere (h0 r : Nat) (hh : h0 ≤ 434) (hr : r < 4) (h : Q (if rmd M h0 5 r = rmd M h0 0 0 then 1 else 0) M) : kCT l (rg_m, g) mX6_isThere [.inr (.inr (0, 0)), .inl (nI h0), .inl (nI r)] M (kqi Q) := by
  refine kct (by decide) (Nat.le_of_ble_eq_true rfl) (bX6_isThere_0 (nI h0) (nI r) M Q ?_)
  simp (disch := omega) only [qa_0, qa_1, qa_2, qa_3, qa_4, qa_5, qa_6, qa_7, qa_8, qa_9, qa_10, qa_12, qa_16, qa_20, qa_21, qa_22, qa_23, qa_24, qa_26, qa_27, qa_30, qa_31, qa_32, qa_35, qa_36, qa_40, qa_44, qa_48, qa_49, qa_70, qa_81, qa_90, qa_96, qa_168, qa_217, qa_434, qa_442, qa_446, qa_450, qa_454, qa_455, qa_456, qa_457, qa_458, qa_466, qa_474, qa_478, qb_0, qb_1, qb_2, qb_3, qb_4, qb_5, qb_6, qb_7, qb_8, qb_9, qb_10, qb_12, qb_16, qb_20, qb_21, qb_22, qb_23, qb_24, qb_26, qb_27, qb_30, qb_31, qb_32, qb_35, qb_36, qb_40, qb_44, qb_48, qb_49, qb_70, qb_81, qb_90, qb_96, qb_168, qb_217, qb_434, qb_442, qb_446, qb_450, qb_454, qb_455, qb_456, qb_457, qb_458, qb_466, qb_474, qb_478, qm_0, qm_1, qm_2, qm_3, qm_4, qm_5, qm_6, qm_7, qm_8, qm_9, qm_10, qm_12, qm_16, qm_20, qm_21, qm_22, qm_23, qm_24, qm_26, qm_27, qm_30, qm_31, qm_32, qm_35, qm_36, qm_40, qm_44, qm_48, qm_49, qm_70, qm_81, qm_90, qm_96, qm_168, qm_217, qm_434, qm_442, qm_446, qm_450, qm_454, qm_455, qm_456, qm_457, qm_458, qm_466, qm_474, qm_478, ql_0, ql_1, ql_2, ql_3, ql_4, ql_5, ql_6, ql_7, ql_8, ql_9, ql_10, ql_12, ql_16, ql_20, ql_21, ql_22, ql_23, ql_24, ql_26, ql_27, ql_30, ql_31, ql_32, ql_35, ql_36, ql_40, ql_44, ql_48, ql_49, ql_70, ql_81, ql_90, ql_96, ql_168, ql_217, ql_434, ql_442, ql_446, ql_450, ql_454, ql_455, ql_456, ql_457, ql_458, ql_466, ql_474, ql_478, nI_add, q_cl, q_in, true_and]
  refine ⟨fun c => ?_, fun c => ?_⟩
  · rw [if_neg (show ¬ rmd M h0 5 r = rmd M h0 0 0 from c)] at h
    exact bX6_isThere_28 0 M Q ⟨Or.inl rfl, h⟩
  · rw [if_pos (show rmd M h0 5 r = rmd M h0 0 0 from c)] at h
    exact bX6_isThere_28 1 M Q ⟨Or.inr rfl, h⟩
theorem x_whoRides (k S n : Nat) (hok : rok (rx M k) S n) (h : Q (rwho (rx M k) n) M) : kCT l (rg_x, g) mX3_whoRides [.inr (.inr (1, k))] M (kqi Q) := by
  refine kct (by decide) (Nat.le_of_ble_eq_true rfl) (bX3_whoRides_0 k M Q ?_)
  obtain ⟨h1, h2, h3, h4, h5⟩ := hok
  have e3 : M.1 1 k 1 = nI n := h3
  have key : ∀ f i, i + f = n → kWP l (rg_x, g) mX3_whoRides 5 [(0, .inr (.inr (1, k))), (1, .inl (rwho (rx M k) i)), (2, .inl (nI i))] [] M (kqi Q) := by
    intro f
    induction f with
    | zero =>
      intro i hi
      obtain rfl : i = n := by omega
      refine bX3_whoRides_5 k _ _ M Q ⟨fun _ => h, fun c => ?_⟩
      rw [e3] at c
      exact absurd (nI_le (Nat.le_refl i) (by omega)) c
    | succ f ih =>
      intro i hi
      have ih1 := ih (i + 1) (by omega)
      refine bX3_whoRides_5 k _ _ M Q ⟨fun c => ?_, fun _ => ?_⟩
      · rw [e3, q_le (by omega) (by omega)] at c
        omega
      · refine x_isThere k i (by omega) ?_
        have e1 : nI i + 1 = nI (i + 1) := nI_1 i
        have hw : rwho (rx M k) (i + 1) = if rx M k 5 i < rx M k 0 0 ∧ (rwho (rx M k) i = -4 ∨ rx M k 6 i < rx M k 6 (rwho (rx M k) i).toNatClampNeg) then nI i else rwho (rx M k) i := rfl
        rw [hw] at ih1
        by_cases c1 : rx M k 5 i < rx M k 0 0
        · rw [if_pos c1]
          refine ⟨fun c => absurd rfl c, fun _ => ?_⟩
          rcases rwho_cases (rx M k) i with q | ⟨j, q1, q2, q3⟩
          · rw [q] at ih1 ⊢
            rw [if_pos ⟨c1, Or.inl rfl⟩] at ih1
            refine ⟨fun _ => ?_, fun c => absurd (by decide) c⟩
            refine bX3_whoRides_40 k _ M Q (bX3_whoRides_42 k _ _ M Q ?_)
            intro z1 ez
            rw [ez, e1]
            exact ih1
          · rw [q2] at ih1 ⊢
            refine ⟨fun c => absurd c (nI_pos (by omega)), fun _ => ?_⟩
            simp (disch := omega) only [qa_0, qa_1, qa_2, qa_3, qa_4, qa_5, qa_6, qa_7, qa_8, qa_9, qa_10, qa_12, qa_16, qa_20, qa_21, qa_22, qa_23, qa_24, qa_26, qa_27, qa_30, qa_31, qa_32, qa_35, qa_36, qa_40, qa_44, qa_48, qa_49, qa_70, qa_81, qa_90, qa_96, qa_168, qa_217, qa_434, qa_442, qa_446, qa_450, qa_454, qa_455, qa_456, qa_457, qa_458, qa_466, qa_474, qa_478, qb_0, qb_1, qb_2, qb_3, qb_4, qb_5, qb_6, qb_7, qb_8, qb_9, qb_10, qb_12, qb_16, qb_20, qb_21, qb_22, qb_23, qb_24, qb_26, qb_27, qb_30, qb_31, qb_32, qb_35, qb_36, qb_40, qb_44, qb_48, qb_49, qb_70, qb_81, qb_90, qb_96, qb_168, qb_217, qb_434, qb_442, qb_446, qb_450, qb_454, qb_455, qb_456, qb_457, qb_458, qb_466, qb_474, qb_478, qm_0, qm_1, qm_2, qm_3, qm_4, qm_5, qm_6, qm_7, qm_8, qm_9, qm_10, qm_12, qm_16, qm_20, qm_21, qm_22, qm_23, qm_24, qm_26, qm_27, qm_30, qm_31, qm_32, qm_35, qm_36, qm_40, qm_44, qm_48, qm_49, qm_70, qm_81, qm_90, qm_96, qm_168, qm_217, qm_434, qm_442, qm_446, qm_450, qm_454, qm_455, qm_456, qm_457, qm_458, qm_466, qm_474, qm_478, ql_0, ql_1, ql_2, ql_3, ql_4, ql_5, ql_6, ql_7, ql_8, ql_9, ql_10, ql_12, ql_16, ql_20, ql_21, ql_22, ql_23, ql_24, ql_26, ql_27, ql_30, ql_31, ql_32, ql_35, ql_36, ql_40, ql_44, ql_48, ql_49, ql_70, ql_81, ql_90, ql_96, ql_168, ql_217, ql_434, ql_442, ql_446, ql_450, ql_454, ql_455, ql_456, ql_457, ql_458, ql_466, ql_474, ql_478, nI_add, q_cl, q_in, true_and]
            rw [q_cl (by omega)] at ih1
            refine ⟨fun c => ?_, fun c => ?_⟩
            · rw [if_neg (fun z => z.2.elim (nI_neg4 (by omega)) (fun z => absurd c (Int32.not_le.mpr z)))] at ih1
              refine bX3_whoRides_42 k _ _ M Q ?_
              intro z1 ez
              rw [ez, e1]
              exact ih1
            · rw [if_pos ⟨c1, Or.inr (Int32.not_le.mp c)⟩] at ih1
              refine bX3_whoRides_40 k _ M Q (bX3_whoRides_42 k _ _ M Q ?_)
              intro z1 ez
              rw [ez, e1]
              exact ih1
        · rw [if_neg c1]
          rw [if_neg (fun z => c1 z.1)] at ih1
          refine ⟨fun _ => ?_, fun c => absurd c (by decide)⟩
          refine bX3_whoRides_42 k _ _ M Q ?_
          intro z1 ez
          rw [ez, e1]
          exact ih1
  exact key n 0 (by omega)
theorem m_nextIn (h0 S n : Nat) (hh : h0 ≤ 434) (hok : rok (rmd M h0) S n) (h : Q (rwho (rmd M h0) n) M) : kCT l (rg_m, g) mX6_nextIn [.inr (.inr (0, 0)), .inl (nI h0)] M (kqi Q) := by
  refine kct (by decide) (Nat.le_of_ble_eq_true rfl) (bX6_nextIn_0 (nI h0) M Q ?_)
  obtain ⟨h1, h2, h3, h4, h5⟩ := hok
  have e3 : M.1 1 0 (h0 + 22) = nI n := h3
  have key : ∀ f i, i + f = n → kWP l (rg_m, g) mX6_nextIn 5 [(0, .inr (.inr (0, 0))), (1, .inl (nI h0)), (2, .inl (rwho (rmd M h0) i)), (3, .inl (nI i))] [] M (kqi Q) := by
    intro f
    induction f with
    | zero =>
      intro i hi
      obtain rfl : i = n := by omega
      refine bX6_nextIn_5 _ _ _ M Q ?_
      simp (disch := omega) only [qa_0, qa_1, qa_2, qa_3, qa_4, qa_5, qa_6, qa_7, qa_8, qa_9, qa_10, qa_12, qa_16, qa_20, qa_21, qa_22, qa_23, qa_24, qa_26, qa_27, qa_30, qa_31, qa_32, qa_35, qa_36, qa_40, qa_44, qa_48, qa_49, qa_70, qa_81, qa_90, qa_96, qa_168, qa_217, qa_434, qa_442, qa_446, qa_450, qa_454, qa_455, qa_456, qa_457, qa_458, qa_466, qa_474, qa_478, qb_0, qb_1, qb_2, qb_3, qb_4, qb_5, qb_6, qb_7, qb_8, qb_9, qb_10, qb_12, qb_16, qb_20, qb_21, qb_22, qb_23, qb_24, qb_26, qb_27, qb_30, qb_31, qb_32, qb_35, qb_36, qb_40, qb_44, qb_48, qb_49, qb_70, qb_81, qb_90, qb_96, qb_168, qb_217, qb_434, qb_442, qb_446, qb_450, qb_454, qb_455, qb_456, qb_457, qb_458, qb_466, qb_474, qb_478, qm_0, qm_1, qm_2, qm_3, qm_4, qm_5, qm_6, qm_7, qm_8, qm_9, qm_10, qm_12, qm_16, qm_20, qm_21, qm_22, qm_23, qm_24, qm_26, qm_27, qm_30, qm_31, qm_32, qm_35, qm_36, qm_40, qm_44, qm_48, qm_49, qm_70, qm_81, qm_90, qm_96, qm_168, qm_217, qm_434, qm_442, qm_446, qm_450, qm_454, qm_455, qm_456, qm_457, qm_458, qm_466, qm_474, qm_478, ql_0, ql_1, ql_2, ql_3, ql_4, ql_5, ql_6, ql_7, ql_8, ql_9, ql_10, ql_12, ql_16, ql_20, ql_21, ql_22, ql_23, ql_24, ql_26, ql_27, ql_30, ql_31, ql_32, ql_35, ql_36, ql_40, ql_44, ql_48, ql_49, ql_70, ql_81, ql_90, ql_96, ql_168, ql_217, ql_434, ql_442, ql_446, ql_450, ql_454, ql_455, ql_456, ql_457, ql_458, ql_466, ql_474, ql_478, nI_add, q_cl, q_in, true_and]
      rw [e3]
      exact ⟨fun _ => h, fun c => absurd (nI_le (Nat.le_refl i) (by omega)) c⟩
    | succ f ih =>
      intro i hi
      have ih1 := ih (i + 1) (by omega)
      refine bX6_nextIn_5 _ _ _ M Q ?_
      simp (disch := omega) only [qa_0, qa_1, qa_2, qa_3, qa_4, qa_5, qa_6, qa_7, qa_8, qa_9, qa_10, qa_12, qa_16, qa_20, qa_21, qa_22, qa_23, qa_24, qa_26, qa_27, qa_30, qa_31, qa_32, qa_35, qa_36, qa_40, qa_44, qa_48, qa_49, qa_70, qa_81, qa_90, qa_96, qa_168, qa_217, qa_434, qa_442, qa_446, qa_450, qa_454, qa_455, qa_456, qa_457, qa_458, qa_466, qa_474, qa_478, qb_0, qb_1, qb_2, qb_3, qb_4, qb_5, qb_6, qb_7, qb_8, qb_9, qb_10, qb_12, qb_16, qb_20, qb_21, qb_22, qb_23, qb_24, qb_26, qb_27, qb_30, qb_31, qb_32, qb_35, qb_36, qb_40, qb_44, qb_48, qb_49, qb_70, qb_81, qb_90, qb_96, qb_168, qb_217, qb_434, qb_442, qb_446, qb_450, qb_454, qb_455, qb_456, qb_457, qb_458, qb_466, qb_474, qb_478, qm_0, qm_1, qm_2, qm_3, qm_4, qm_5, qm_6, qm_7, qm_8, qm_9, qm_10, qm_12, qm_16, qm_20, qm_21, qm_22, qm_23, qm_24, qm_26, qm_27, qm_30, qm_31, qm_32, qm_35, qm_36, qm_40, qm_44, qm_48, qm_49, qm_70, qm_81, qm_90, qm_96, qm_168, qm_217, qm_434, qm_442, qm_446, qm_450, qm_454, qm_455, qm_456, qm_457, qm_458, qm_466, qm_474, qm_478, ql_0, ql_1, ql_2, ql_3, ql_4, ql_5, ql_6, ql_7, ql_8, ql_9, ql_10, ql_12, ql_16, ql_20, ql_21, ql_22, ql_23, ql_24, ql_26, ql_27, ql_30, ql_31, ql_32, ql_35, ql_36, ql_40, ql_44, ql_48, ql_49, ql_70, ql_81, ql_90, ql_96, ql_168, ql_217, ql_434, ql_442, ql_446, ql_450, ql_454, ql_455, ql_456, ql_457, ql_458, ql_466, ql_474, ql_478, nI_add, q_cl, q_in, true_and]
      rw [e3]
      refine ⟨fun c => ?_, fun _ => ?_⟩
      · rw [q_le (by omega) (by omega)] at c
        omega
      · refine m_isThere h0 i hh (by omega) ?_
        obtain ⟨bb, hb1, hb2⟩ := h5 i (by omega)
        have e1 : nI i + 1 = nI (i + 1) := nI_1 i
        have hw : rwho (rmd M h0) (i + 1) = if rmd M h0 5 i < rmd M h0 0 0 ∧ (rwho (rmd M h0) i = -4 ∨ rmd M h0 6 i < rmd M h0 6 (rwho (rmd M h0) i).toNatClampNeg) then nI i else rwho (rmd M h0) i := rfl
        rw [hw] at ih1
        by_cases c1 : rmd M h0 5 i < rmd M h0 0 0
        · rw [if_neg (fun q => by rw [q] at c1; exact Int32.lt_irrefl c1)]
          refine ⟨fun c => absurd rfl c, fun _ => ?_⟩
          rcases rwho_cases (rmd M h0) i with q | ⟨j, q1, q2, q3⟩
          · rw [q] at ih1 ⊢
            rw [if_pos ⟨c1, Or.inl rfl⟩] at ih1
            refine ⟨fun _ => ?_, fun c => absurd rfl c⟩
            refine bX6_nextIn_58 _ _ _ M Q (bX6_nextIn_63 _ _ _ 1 M Q ⟨fun c => absurd c (by decide), fun _ => bX6_nextIn_75 _ _ _ M Q ?_⟩)
            intro z1 ez
            rw [ez, e1]
            exact ih1
          · rw [q2] at ih1 ⊢
            refine ⟨fun c => absurd c (nI_neg4 (by omega)), fun _ => ?_⟩
            simp (disch := omega) only [qa_0, qa_1, qa_2, qa_3, qa_4, qa_5, qa_6, qa_7, qa_8, qa_9, qa_10, qa_12, qa_16, qa_20, qa_21, qa_22, qa_23, qa_24, qa_26, qa_27, qa_30, qa_31, qa_32, qa_35, qa_36, qa_40, qa_44, qa_48, qa_49, qa_70, qa_81, qa_90, qa_96, qa_168, qa_217, qa_434, qa_442, qa_446, qa_450, qa_454, qa_455, qa_456, qa_457, qa_458, qa_466, qa_474, qa_478, qb_0, qb_1, qb_2, qb_3, qb_4, qb_5, qb_6, qb_7, qb_8, qb_9, qb_10, qb_12, qb_16, qb_20, qb_21, qb_22, qb_23, qb_24, qb_26, qb_27, qb_30, qb_31, qb_32, qb_35, qb_36, qb_40, qb_44, qb_48, qb_49, qb_70, qb_81, qb_90, qb_96, qb_168, qb_217, qb_434, qb_442, qb_446, qb_450, qb_454, qb_455, qb_456, qb_457, qb_458, qb_466, qb_474, qb_478, qm_0, qm_1, qm_2, qm_3, qm_4, qm_5, qm_6, qm_7, qm_8, qm_9, qm_10, qm_12, qm_16, qm_20, qm_21, qm_22, qm_23, qm_24, qm_26, qm_27, qm_30, qm_31, qm_32, qm_35, qm_36, qm_40, qm_44, qm_48, qm_49, qm_70, qm_81, qm_90, qm_96, qm_168, qm_217, qm_434, qm_442, qm_446, qm_450, qm_454, qm_455, qm_456, qm_457, qm_458, qm_466, qm_474, qm_478, ql_0, ql_1, ql_2, ql_3, ql_4, ql_5, ql_6, ql_7, ql_8, ql_9, ql_10, ql_12, ql_16, ql_20, ql_21, ql_22, ql_23, ql_24, ql_26, ql_27, ql_30, ql_31, ql_32, ql_35, ql_36, ql_40, ql_44, ql_48, ql_49, ql_70, ql_81, ql_90, ql_96, ql_168, ql_217, ql_434, ql_442, ql_446, ql_450, ql_454, ql_455, ql_456, ql_457, ql_458, ql_466, ql_474, ql_478, nI_add, q_cl, q_in, true_and]
            rw [q_cl (by omega)] at ih1
            refine ⟨fun c => ?_, fun c => ?_⟩
            · rw [if_neg (fun z => z.2.elim (nI_neg4 (by omega)) (fun z => absurd c (Int32.not_le.mpr z)))] at ih1
              refine bX6_nextIn_62 _ _ _ M Q (bX6_nextIn_63 _ _ _ 0 M Q ⟨fun _ => bX6_nextIn_75 _ _ _ M Q ?_, fun c => absurd rfl c⟩)
              intro z1 ez
              rw [ez, e1]
              exact ih1
            · rw [if_pos ⟨c1, Or.inr (Int32.not_le.mp c)⟩] at ih1
              refine bX6_nextIn_58 _ _ _ M Q (bX6_nextIn_63 _ _ _ 1 M Q ⟨fun c => absurd c (by decide), fun _ => bX6_nextIn_75 _ _ _ M Q ?_⟩)
              intro z1 ez
              rw [ez, e1]
              exact ih1
        · have hz : rmd M h0 5 i = rmd M h0 0 0 := by
            rw [hb2, h1, q_lt (by omega) (by omega)] at c1
            rw [hb2, h1, show bb = S by omega]
          rw [if_pos hz]
          rw [if_neg (fun z => c1 z.1)] at ih1
          refine ⟨fun _ => ?_, fun c => absurd c (by decide)⟩
          refine bX6_nextIn_62 _ _ _ M Q (bX6_nextIn_63 _ _ _ 0 M Q ⟨fun _ => bX6_nextIn_75 _ _ _ M Q ?_, fun c => absurd rfl c⟩)
          intro z1 ez
          rw [ez, e1]
          exact ih1
  exact key n 0 (by omega)
end KRC
