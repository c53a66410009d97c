/-! ===== small functions of class and reference ===== -/
section KS
variable {l : Launch} {g : va_G × (Nat → ClassId) × (Nat → Nat → Nat)} {M : kM} {Q : Int32 → kM → Prop} {Ql : Int64 → kM → Prop} {Qv : kM → Prop}
def wth (a b c : Int32) : Int32 := if a < b then 0 else if c < a then 0 else 1
theorem wth_01 (a b c : Int32) : wth a b c = 0 ∨ wth a b c = 1 := by
  unfold wth
  split
  · exact Or.inl rfl
  · split
    · exact Or.inl rfl
    · exact Or.inr rfl
theorem wth_ne {a b c : Int32} : ¬ wth a b c = 0 ↔ ¬ a < b ∧ ¬ c < a := by
  unfold wth
  constructor
  · intro h
    by_cases h1 : a < b
    · rw [if_pos h1] at h; exact absurd rfl h
    · rw [if_neg h1] at h
      by_cases h2 : c < a
      · rw [if_pos h2] at h; exact absurd rfl h
      · exact ⟨h1, h2⟩
  · rintro ⟨h1, h2⟩
    rw [if_neg h1, if_neg h2]
    decide
theorem x_within (a b c : Int32) (h : Q (wth a b c) M) : kCT l (rg_x, g) mX5_within [.inl a, .inl b, .inl c] M (kqi Q) := by
  refine kct (by decide) (Nat.le_of_ble_eq_true rfl) (bX5_within_0 a b c M Q ?_)
  unfold wth at h
  refine ⟨fun c1 => ?_, fun c1 => ⟨fun c2 => ?_, fun c2 => ?_⟩⟩
  · rw [if_pos c1] at h
    exact bX5_within_14 M Q (bX5_within_15 0 M Q ⟨Or.inl rfl, h⟩)
  · rw [if_neg c1, if_pos c2] at h
    exact bX5_within_14 M Q (bX5_within_15 0 M Q ⟨Or.inl rfl, h⟩)
  · rw [if_neg c1, if_neg c2] at h
    exact bX5_within_15 1 M Q ⟨Or.inr rfl, h⟩
theorem wide_lt (a b : Int32) : a.toInt64 < b.toInt64 ↔ a < b := by rw [Int64.lt_iff_toInt_lt, Int32.lt_iff_toInt_lt, Int32.toInt_toInt64, Int32.toInt_toInt64]
theorem wide_eq (a b : Int32) : a.toInt64 = b.toInt64 ↔ a = b := by rw [← Int64.toInt_inj, ← Int32.toInt_inj, Int32.toInt_toInt64, Int32.toInt_toInt64]
theorem m_in (a b c : Int32) {lo hi : Int64} (hl : lo = b.toInt64) (hh : hi = c.toInt64) (h : Q (wth a b c) M) : kCT l (rg_m, g) mX6_in [.inr (.inl a.toInt64), .inr (.inl lo), .inr (.inl hi)] M (kqi Q) := by
  subst hl
  subst hh
  refine kct (by decide) (Nat.le_of_ble_eq_true rfl) (bX6_in_0 _ _ _ M Q ?_)
  unfold wth at h
  rw [lg_cmp_lt, lg_cmp_gt, wide_lt, wide_lt]
  refine ⟨fun c1 => ?_, fun c1 => ⟨fun c2 => ?_, fun c2 => ?_⟩⟩
  · rw [if_pos c1] at h
    exact bX6_in_17 M Q (bX6_in_18 0 M Q ⟨Or.inl rfl, h⟩)
  · rw [if_neg c1, if_pos c2] at h
    exact bX6_in_17 M Q (bX6_in_18 0 M Q ⟨Or.inl rfl, h⟩)
  · rw [if_neg c1, if_neg c2] at h
    exact bX6_in_18 1 M Q ⟨Or.inr rfl, h⟩
theorem x_isZeroOrOne (a : Int32) (h : Q (wth a 0 1) M) : kCT l (rg_x, g) mX5_isZeroOrOne [.inl a] M (kqi Q) := kct (by decide) (Nat.le_of_ble_eq_true rfl) (bX5_isZeroOrOne_0 a M Q (x_within _ _ _ ⟨wth_01 _ _ _, h⟩))
theorem x_isSheet (a : Int32) (h : Q (wth a 0 3) M) : kCT l (rg_x, g) mX5_isSheet [.inl a] M (kqi Q) := kct (by decide) (Nat.le_of_ble_eq_true rfl) (bX5_isSheet_0 a M Q (x_within _ _ _ ⟨wth_01 _ _ _, h⟩))
theorem x_isLane (a : Int32) (h : Q (wth a 0 3) M) : kCT l (rg_x, g) mX5_isLane [.inl a] M (kqi Q) := kct (by decide) (Nat.le_of_ble_eq_true rfl) (bX5_isLane_0 a M Q (x_within _ _ _ ⟨wth_01 _ _ _, h⟩))
theorem m_isSheet (a : Int32) (h : Q (wth a 0 3) M) : kCT l (rg_m, g) mX6_isSheet [.inl a] M (kqi Q) := kct (by decide) (Nat.le_of_ble_eq_true rfl) (bX6_isSheet_0 a M Q (m_in _ 0 3 (by decide) (by decide) ⟨wth_01 _ _ _, h⟩))
def lan (a b : Int32) : Int32 := if wth a 0 3 = 0 then 0 else if wth b 0 3 = 0 then 0 else 1
theorem m_isLane (a b : Int32) (h : Q (lan a b) M) : kCT l (rg_m, g) mX6_isLane [.inl a, .inl b] M (kqi Q) := by
  refine kct (by decide) (Nat.le_of_ble_eq_true rfl) (bX6_isLane_0 a b M Q ?_)
  unfold lan at h
  refine m_isSheet _ ⟨fun c1 => ?_, fun c1 => m_in _ 0 3 (by decide) (by decide) ⟨fun c2 => ?_, fun c2 => ?_⟩⟩
  · rw [if_pos c1] at h
    exact bX6_isLane_23 M Q (bX6_isLane_24 0 M Q ⟨Or.inl rfl, h⟩)
  · rw [if_neg c1, if_pos c2] at h
    exact bX6_isLane_23 M Q (bX6_isLane_24 0 M Q ⟨Or.inl rfl, h⟩)
  · rw [if_neg c1, if_neg c2] at h
    exact bX6_isLane_24 1 M Q ⟨Or.inr rfl, h⟩
theorem x_isRider (a : Int32) (h : Q (wth a 0 (M.1 1 0 1 - 1)) M) : kCT l (rg_x, g) mX5_isRider [.inr (.inr (0, 0)), .inl a] M (kqi Q) := kct (by decide) (Nat.le_of_ble_eq_true rfl) (bX5_isRider_0 a M Q (x_within _ _ _ ⟨wth_01 _ _ _, h⟩))
theorem m_isRider (a : Int32) (h : Q (wth a 0 (M.1 1 0 22 - 1)) M) : kCT l (rg_m, g) mX6_isRider [.inr (.inr (0, 0)), .inl a] M (kqi Q) := kct (by decide) (Nat.le_of_ble_eq_true rfl) (bX6_isRider_0 a M Q (m_in _ 0 (M.1 1 0 22 - 1) (by decide) rfl ⟨wth_01 _ _ _, h⟩))
def two (a b n : Int32) : Int32 := if wth a 0 (n - 1) = 0 then 0 else if wth b 0 (n - 1) = 0 then 0 else if a = b then 0 else 1
theorem x_areTwo (a b : Int32) (h : Q (two a b (M.1 1 0 1)) M) : kCT l (rg_x, g) mX5_areTwo [.inr (.inr (0, 0)), .inl a, .inl b] M (kqi Q) := by
  refine kct (by decide) (Nat.le_of_ble_eq_true rfl) (bX5_areTwo_0 a b M Q ?_)
  unfold two at h
  refine x_isRider _ ⟨fun c1 => ?_, fun c1 => x_isRider _ ⟨fun c2 => ?_, fun c2 => ⟨fun c3 => ?_, fun c3 => ?_⟩⟩⟩
  · rw [if_pos c1] at h
    exact bX5_areTwo_25 M Q (bX5_areTwo_26 0 M Q ⟨Or.inl rfl, h⟩)
  · rw [if_neg c1, if_pos c2] at h
    exact bX5_areTwo_25 M Q (bX5_areTwo_26 0 M Q ⟨Or.inl rfl, h⟩)
  · rw [if_neg c1, if_neg c2, if_pos c3] at h
    exact bX5_areTwo_25 M Q (bX5_areTwo_26 0 M Q ⟨Or.inl rfl, h⟩)
  · rw [if_neg c1, if_neg c2, if_neg c3] at h
    exact bX5_areTwo_26 1 M Q ⟨Or.inr rfl, h⟩
theorem m_areTwo (a b : Int32) (h : Q (two a b (M.1 1 0 22)) M) : kCT l (rg_m, g) mX6_areTwo [.inr (.inr (0, 0)), .inl a, .inl b] M (kqi Q) := by
  refine kct (by decide) (Nat.le_of_ble_eq_true rfl) (bX6_areTwo_0 a b M Q ?_)
  unfold two at h
  refine m_isRider _ ⟨fun c1 => ?_, fun c1 => m_isRider _ ⟨fun c2 => ?_, fun c2 => ⟨fun c3 => ?_, fun c3 => ?_⟩⟩⟩
  · rw [if_pos c1] at h
    exact bX6_areTwo_25 M Q (bX6_areTwo_26 0 M Q ⟨Or.inl rfl, h⟩)
  · rw [if_neg c1, if_pos c2] at h
    exact bX6_areTwo_25 M Q (bX6_areTwo_26 0 M Q ⟨Or.inl rfl, h⟩)
  · rw [if_neg c1, if_neg c2, if_pos c3] at h
    exact bX6_areTwo_25 M Q (bX6_areTwo_26 0 M Q ⟨Or.inl rfl, h⟩)
  · rw [if_neg c1, if_neg c2, if_neg c3] at h
    exact bX6_areTwo_26 1 M Q ⟨Or.inr rfl, h⟩
/-- is a bit of a set there -/
def hs (a b : Int32) : Int32 := if (a >>> (b &&& 31)) &&& 1 = 0 then 0 else 1
theorem and1 (y : Int32) : y &&& 1 = 0 ∨ y &&& 1 = 1 := by
  have h := pk_and y (m := 1) 1 (by decide)
  have h2 : y.toBitVec.toNat % 2 ^ 1 < 2 := Nat.mod_lt _ (by decide)
  rw [h]
  rcases (show y.toBitVec.toNat % 2 ^ 1 = 0 ∨ y.toBitVec.toNat % 2 ^ 1 = 1 by omega) with e | e
  · rw [e]; exact Or.inl rfl
  · rw [e]; exact Or.inr rfl
theorem x_has (a b : Int32) (h : Q (hs a b) M) : kCT l (rg_x, g) mX5_has [.inl a, .inl b] M (kqi Q) := by
  refine kct (by decide) (Nat.le_of_ble_eq_true rfl) (bX5_has_0 a b M Q ?_)
  unfold hs at h
  refine ⟨fun c1 => ?_, fun c1 => ?_⟩
  · rw [if_pos c1] at h
    exact bX5_has_13 0 M Q ⟨Or.inl rfl, h⟩
  · rw [if_neg c1] at h
    exact bX5_has_13 1 M Q ⟨Or.inr rfl, h⟩
theorem m_has (a b : Int32) (h : Q (hs a b) M) : kCT l (rg_m, g) mX6_has [.inl a, .inl b] M (kqi Q) := by
  refine kct (by decide) (Nat.le_of_ble_eq_true rfl) (bX6_has_0 a b M Q ?_)
  unfold hs at h
  refine ⟨fun c1 => ?_, fun c1 => ?_⟩
  · rw [if_pos ((and1 _).resolve_right c1)] at h
    exact bX6_has_14 0 M Q ⟨Or.inl rfl, h⟩
  · rw [if_neg (by rw [c1]; decide)] at h
    exact bX6_has_14 1 M Q ⟨Or.inr rfl, h⟩
/-- how long a stage takes one -/
def tks (k m b : Int32) : Int32 :=
  let mi : Int32 := if b = 0 then 10 else 6
  let pl := m * mi
  let od := pl + pl / 2
  if k = 1 then pl + 5 else if k = 2 then od else if k = 3 then (if b = 0 then od else pl) else if k = 4 then pl - mi + 5 else pl
theorem x_minutesFor (k m b : Int32) (h : Q (tks k m b) M) : kCT l (rg_x, g) mX5_minutesFor [.inl k, .inl m, .inl b] M (kqi Q) := by
  refine kct (by decide) (Nat.le_of_ble_eq_true rfl) (bX5_minutesFor_0 k m b M Q ?_)
  have key : ∀ s0 : Int32, s0 = (if b = 0 then 10 else 6) → kWP l (rg_x, g) mX5_minutesFor 11 [(0, .inl k), (1, .inl m), (2, .inl b)] [.inl s0] M (kqi Q) := by
    intro s0 hs0
    refine bX5_minutesFor_11 k m b s0 M Q ?_
    intro z1 e1 z2 e2
    unfold tks at h
    simp only [← hs0, ← e1, ← e2] at h
    refine ⟨fun c1 => ?_, fun c1 => ?_, fun c1 => ⟨fun c2 => ?_, fun c2 => ?_⟩, fun c1 => ?_, fun c1 c2 c3 c4 => ?_⟩
    · rw [if_pos c1] at h; exact h
    · subst c1; exact h
    · subst c1; rw [if_neg (by decide), if_neg (by decide), if_pos rfl, if_pos c2] at h; exact bX5_minutesFor_75 _ M Q h
    · subst c1; rw [if_neg (by decide), if_neg (by decide), if_pos rfl, if_neg c2] at h; exact bX5_minutesFor_75 _ M Q h
    · subst c1; exact h
    · rw [if_neg c1, if_neg c2, if_neg c3, if_neg c4] at h; exact h
  exact ⟨fun c1 => key 10 (by rw [if_pos c1]), fun c1 => key 6 (by rw [if_neg c1])⟩
theorem tks_bro (m mi : Int32) : mi * (m - 1) + 5 = m * mi - mi + 5 := by
  have : mi * (m - 1) = m * mi - mi := by
    rw [Int32.mul_sub, Int32.mul_one, Int32.mul_comm]
  rw [this]
theorem m_takes (k m b : Int32) (h : Q (tks k m b) M) : kCT l (rg_m, g) mX6_takes [.inl k, .inl m, .inl b] M (kqi Q) := by
  refine kct (by decide) (Nat.le_of_ble_eq_true rfl) (bX6_takes_0 k m b M Q ?_)
  have key : ∀ s0 : Int32, s0 = (if b = 0 then 10 else 6) → kWP l (rg_m, g) mX6_takes 11 [(0, .inl k), (1, .inl m), (2, .inl b)] [.inl s0] M (kqi Q) := by
    intro s0 hs0
    refine bX6_takes_11 k m b s0 M Q ?_
    intro z1 e1
    have e1' : z1 = m * s0 := by rw [e1, Int32.mul_comm]
    unfold tks at h
    simp only [← hs0, ← e1'] at h
    refine ⟨fun c1 => ?_, fun c1 => ?_, fun c1 => ⟨fun c2 => ?_, fun c2 => ?_⟩, fun c1 => ⟨fun c2 => ?_, fun c2 => ?_⟩, fun c1 c2 c3 c4 => ?_⟩
    · rw [if_pos c1] at h; exact h
    · subst c1; exact h
    · subst c1; rw [if_neg (by decide), if_neg (by decide), if_pos rfl, if_pos c2] at h; exact bX6_takes_67 _ M Q h
    · subst c1; rw [if_neg (by decide), if_neg (by decide), if_pos rfl, if_neg c2] at h; exact bX6_takes_67 _ M Q h
    · subst c1
      rw [if_neg (by decide), if_neg (by decide), if_neg (by decide), if_pos rfl, e1', ← tks_bro] at h
      rw [if_pos c2] at hs0; subst hs0
      exact bX6_takes_79 _ _ M Q h
    · subst c1
      rw [if_neg (by decide), if_neg (by decide), if_neg (by decide), if_pos rfl, e1', ← tks_bro] at h
      rw [if_neg c2] at hs0; subst hs0
      exact bX6_takes_79 _ _ M Q h
    · rw [if_neg c1, if_neg c2, if_neg c3, if_neg c4] at h; exact h
  exact ⟨fun c1 => key 10 (by rw [if_pos c1]), fun c1 => key 6 (by rw [if_neg c1])⟩
end KS
