/-! ===== sheets ===== -/
def hld (z : Nat) (i m : Int32) : Prop := ¬ i < 0 ∧ ¬ m < 0 ∧ i.toNatClampNeg + m.toNatClampNeg ≤ z
def cutv (a : Int32) (v : Int64) : Int64 := if a = 0 then v.toInt32.toInt8.toInt32.toInt64 else if a = 1 then v.toInt32.toInt16.toInt32.toInt64 else if a = 2 then v.toInt32.toInt64 else v
theorem sub_lt {z a b : Nat} (hz : z ≤ 24) (ha : a < 2147483648) (hb : b < 2147483648) : nI z - nI a < nI b ↔ z < a + b := by
  have e : (nI z - nI a).toInt = (z : Int) - a := by
    rw [Int32.toInt_sub, nI_toInt (by omega), nI_toInt (by omega)]
    rw [Int.bmod_def]
    split <;> omega
  rw [Int32.lt_iff_toInt_lt, e, nI_toInt (by omega)]
  omega
theorem add_le64 {z a b : Nat} (hz : z ≤ 24) (ha : a < 2147483648) (hb : b < 2147483648) : (nI a).toInt64 + (nI b).toInt64 ≤ (nI z).toInt64 ↔ a + b ≤ z := by
  rw [nI_l (by omega), nI_l (by omega), nI_l (by omega), lN_add, pk_lLE (by omega) (by omega)]
section KSH
variable {l : Launch} {g g1 g2 : va_G × (Nat → ClassId) × (Nat → Nat → Nat)} {M Mx Mm : kM} {n : Nat} {Q : Int32 → kM → Prop} {Qv : kM → Prop} {Ql : Int64 → kM → Prop}
theorem x_isMissing (k : Nat) (h1 : M.1 5 k 0 = -1 → Q 1 M) (h0 : ¬ M.1 5 k 0 = -1 → Q 0 M) : kCT l (rg_x, g) mX1_isMissing [.inr (.inr (5, k))] M (kqi Q) :=
  kct (by decide) (Nat.le_of_ble_eq_true rfl) (bX1_isMissing_0 k M Q ⟨fun c => bX1_isMissing_13 0 M Q ⟨Or.inl rfl, h0 c⟩, fun c => bX1_isMissing_13 1 M Q ⟨Or.inr rfl, h1 c⟩⟩)
theorem x_holds (k z : Nat) {i m : Int32} (hz : z ≤ 24) (e : M.1 5 k 1 = nI z) (h1 : hld z i m → Q 1 M) (h0 : ¬ hld z i m → Q 0 M) : kCT l (rg_x, g) mX1_holds [.inr (.inr (5, k)), .inl i, .inl m] M (kqi Q) := by
  have f0 : ¬ hld z i m → kWP l (rg_x, g) mX1_holds 22 [] [] M (kqi Q) := fun c => bX1_holds_22 M Q (bX1_holds_23 0 M Q ⟨Or.inl rfl, h0 c⟩)
  refine kct (by decide) (Nat.le_of_ble_eq_true rfl) (bX1_holds_0 k i m M Q ⟨fun c => f0 (fun z => z.1 c), fun c1 => ⟨fun c => f0 (fun z => z.2.1 c), fun c2 => ?_⟩⟩)
  obtain ⟨a, ha, rfl⟩ := nI_of c1
  obtain ⟨b, hb, rfl⟩ := nI_of c2
  rw [e, sub_lt hz ha hb]
  have eh : hld z (nI a) (nI b) ↔ a + b ≤ z := by
    unfold hld
    rw [q_cl ha, q_cl hb]
    exact ⟨fun z => z.2.2, fun z => ⟨c1, c2, z⟩⟩
  exact ⟨fun c => f0 (fun q => by have := eh.mp q; omega), fun c => bX1_holds_23 1 M Q ⟨Or.inr rfl, h1 (eh.mpr (by omega))⟩⟩
theorem x_faultOf (k z : Nat) {a i m : Int32} (hz : z ≤ 24) (e : ¬ M.1 5 k 0 = -1 → M.1 5 k 1 = nI z) (h11 : M.1 5 k 0 = -1 → Q (-11) M) (h12 : ¬ M.1 5 k 0 = -1 → ¬ M.1 5 k 0 = a → Q (-12) M) (h13 : ¬ M.1 5 k 0 = -1 → M.1 5 k 0 = a → ¬ hld z i m → Q (-13) M) (h0 : ¬ M.1 5 k 0 = -1 → M.1 5 k 0 = a → hld z i m → Q 0 M) : kCT l (rg_x, g) mX1_faultOf [.inr (.inr (5, k)), .inl a, .inl i, .inl m] M (kqi Q) := by
  refine kct (by decide) (Nat.le_of_ble_eq_true rfl) (bX1_faultOf_0 k a i m M Q (x_isMissing k (fun c => ⟨fun z => absurd z (by decide), fun _ => h11 c⟩) (fun c => ⟨fun _ => ⟨fun c2 => ?_, fun c2 => h12 c c2⟩, fun z => absurd rfl z⟩)))
  exact x_holds k z hz (e c) (fun c3 => ⟨fun z => absurd z (by decide), fun _ => bX1_faultOf_36 _ M Q (h0 c c2 c3)⟩) (fun c3 => ⟨fun _ => bX1_faultOf_36 _ M Q (h13 c c2 c3), fun z => absurd rfl z⟩)
theorem m_against (s z : Nat) {a i m : Int32} (hs : s < 4) (hz : z ≤ 24) (e : M.1 5 0 s = -1 ∨ M.1 5 0 s = nI z) (h11 : M.1 5 0 s = -1 → Q (-11) M) (h12 : M.1 5 0 s = nI z → ¬ M.1 4 0 s = a → Q (-12) M) (h13 : M.1 5 0 s = nI z → M.1 4 0 s = a → ¬ hld z i m → Q (-13) M) (h0 : M.1 5 0 s = nI z → M.1 4 0 s = a → hld z i m → Q 0 M) : kCT l (rg_m, g) mX6_against [.inr (.inr (0, 0)), .inl (nI s), .inl a, .inl i, .inl m] M (kqi Q) := by
  refine kct (by decide) (Nat.le_of_ble_eq_true rfl) (bX6_against_0 (nI s) a i m M Q ?_)
  simp (disch := omega) only [qa_0, qa_1, qa_2, qa_3, qa_4, qa_5, qa_6, qa_7, qa_8, qa_9, qa_10, qa_12, qa_16, qa_20, qa_21, qa_22, qa_23, qa_24, qa_26, qa_27, qa_30, qa_31, qa_32, qa_35, qa_36, qa_40, qa_44, qa_48, qa_49, qa_70, qa_81, qa_90, qa_96, qa_168, qa_217, qa_434, qa_442, qa_446, qa_450, qa_454, qa_455, qa_456, qa_457, qa_458, qa_466, qa_474, qa_478, qb_0, qb_1, qb_2, qb_3, qb_4, qb_5, qb_6, qb_7, qb_8, qb_9, qb_10, qb_12, qb_16, qb_20, qb_21, qb_22, qb_23, qb_24, qb_26, qb_27, qb_30, qb_31, qb_32, qb_35, qb_36, qb_40, qb_44, qb_48, qb_49, qb_70, qb_81, qb_90, qb_96, qb_168, qb_217, qb_434, qb_442, qb_446, qb_450, qb_454, qb_455, qb_456, qb_457, qb_458, qb_466, qb_474, qb_478, qm_0, qm_1, qm_2, qm_3, qm_4, qm_5, qm_6, qm_7, qm_8, qm_9, qm_10, qm_12, qm_16, qm_20, qm_21, qm_22, qm_23, qm_24, qm_26, qm_27, qm_30, qm_31, qm_32, qm_35, qm_36, qm_40, qm_44, qm_48, qm_49, qm_70, qm_81, qm_90, qm_96, qm_168, qm_217, qm_434, qm_442, qm_446, qm_450, qm_454, qm_455, qm_456, qm_457, qm_458, qm_466, qm_474, qm_478, ql_0, ql_1, ql_2, ql_3, ql_4, ql_5, ql_6, ql_7, ql_8, ql_9, ql_10, ql_12, ql_16, ql_20, ql_21, ql_22, ql_23, ql_24, ql_26, ql_27, ql_30, ql_31, ql_32, ql_35, ql_36, ql_40, ql_44, ql_48, ql_49, ql_70, ql_81, ql_90, ql_96, ql_168, ql_217, ql_434, ql_442, ql_446, ql_450, ql_454, ql_455, ql_456, ql_457, ql_458, ql_466, ql_474, ql_478, nI_add, q_cl, q_in, true_and]
  rcases e with e | e
  · rw [e]
    exact ⟨fun c => absurd c (by decide), fun _ => h11 e⟩
  · rw [e]
    refine ⟨fun _ => ⟨fun c2 => ?_, fun c2 => h12 e c2⟩, fun c => absurd (nI_pos' (by omega)) c⟩
    have f0 : ¬ hld z i m → kWP l (rg_m, g) mX6_against 51 [] [] M (kqi Q) := fun c => bX6_against_51 M Q (bX6_against_57 _ M Q (h13 e c2 c))
    refine ⟨fun c => f0 (fun z => z.1 c), fun c3 => ⟨fun c => f0 (fun z => z.2.1 c), fun c4 => ?_⟩⟩
    obtain ⟨a, ha, rfl⟩ := nI_of c3
    obtain ⟨b, hb, rfl⟩ := nI_of c4
    rw [lg_cmp_le, add_le64 hz ha hb]
    have eh : hld z (nI a) (nI b) ↔ a + b ≤ z := by
      unfold hld
      rw [q_cl ha, q_cl hb]
      exact ⟨fun z => z.2.2, fun z => ⟨c3, c4, z⟩⟩
    exact ⟨fun c => bX6_against_57 _ M Q (h0 e c2 (eh.mpr c)), fun c => f0 (fun q => c (eh.mp q))⟩
theorem m_cut (a : Int32) (v : Int64) (h : Ql (cutv a v) M) : kCT l (rg_m, g) mX6_cut [.inl a, .inr (.inl v)] M (kql Ql) := by
  refine kct (by decide) (Nat.le_of_ble_eq_true rfl) (bX6_cut_0 a v M Ql ?_)
  unfold cutv at h
  refine ⟨fun c0 => ⟨fun c1 => ⟨fun c2 => ?_, fun c2 => ?_⟩, fun c1 => ?_⟩, fun c0 => ?_⟩
  · rw [if_neg c0, if_neg c1, if_neg c2] at h
    exact bX6_cut_35 _ M Ql h
  · rw [if_neg c0, if_neg c1, if_pos c2] at h
    exact bX6_cut_35 _ M Ql h
  · rw [if_neg c0, if_pos c1] at h
    exact bX6_cut_35 _ M Ql h
  · rw [if_pos c0] at h
    exact bX6_cut_35 _ M Ql h
theorem x_put (k i : Nat) (hi : i < 24) (v : Int64) (h : Qv (kul M 18 k i (cutv (M.1 5 k 0) v))) : kCT l (rg_x, g) mX1_put [.inr (.inr (5, k)), .inl (nI i), .inr (.inl v)] M (kqv Qv) := by
  refine kct (by decide) (Nat.le_of_ble_eq_true rfl) (bX1_put_0 k (nI i) v M Qv ?_)
  simp (disch := omega) only [qa_0, qa_1, qa_2, qa_3, qa_4, qa_5, qa_6, qa_7, qa_8, qa_9, qa_10, qa_12, qa_16, qa_20, qa_21, qa_22, qa_23, qa_24, qa_26, qa_27, qa_30, qa_31, qa_32, qa_35, qa_36, qa_40, qa_44, qa_48, qa_49, qa_70, qa_81, qa_90, qa_96, qa_168, qa_217, qa_434, qa_442, qa_446, qa_450, qa_454, qa_455, qa_456, qa_457, qa_458, qa_466, qa_474, qa_478, qb_0, qb_1, qb_2, qb_3, qb_4, qb_5, qb_6, qb_7, qb_8, qb_9, qb_10, qb_12, qb_16, qb_20, qb_21, qb_22, qb_23, qb_24, qb_26, qb_27, qb_30, qb_31, qb_32, qb_35, qb_36, qb_40, qb_44, qb_48, qb_49, qb_70, qb_81, qb_90, qb_96, qb_168, qb_217, qb_434, qb_442, qb_446, qb_450, qb_454, qb_455, qb_456, qb_457, qb_458, qb_466, qb_474, qb_478, qm_0, qm_1, qm_2, qm_3, qm_4, qm_5, qm_6, qm_7, qm_8, qm_9, qm_10, qm_12, qm_16, qm_20, qm_21, qm_22, qm_23, qm_24, qm_26, qm_27, qm_30, qm_31, qm_32, qm_35, qm_36, qm_40, qm_44, qm_48, qm_49, qm_70, qm_81, qm_90, qm_96, qm_168, qm_217, qm_434, qm_442, qm_446, qm_450, qm_454, qm_455, qm_456, qm_457, qm_458, qm_466, qm_474, qm_478, ql_0, ql_1, ql_2, ql_3, ql_4, ql_5, ql_6, ql_7, ql_8, ql_9, ql_10, ql_12, ql_16, ql_20, ql_21, ql_22, ql_23, ql_24, ql_26, ql_27, ql_30, ql_31, ql_32, ql_35, ql_36, ql_40, ql_44, ql_48, ql_49, ql_70, ql_81, ql_90, ql_96, ql_168, ql_217, ql_434, ql_442, ql_446, ql_450, ql_454, ql_455, ql_456, ql_457, ql_458, ql_466, ql_474, ql_478, nI_add, q_cl, q_in, true_and]
  unfold cutv at h
  refine ⟨fun c0 => ?_, fun c0 => ?_, fun c0 => ?_, fun c0 c1 c2 => ?_⟩
  · rintro M1 rfl
    rw [if_pos c0] at h
    exact bX1_put_77 _ Qv h
  · rintro M1 rfl
    rw [if_neg (by rw [c0]; decide), if_pos c0] at h
    exact bX1_put_77 _ Qv h
  · rintro M1 rfl
    rw [if_neg (by rw [c0]; decide), if_neg (by rw [c0]; decide), if_pos c0] at h
    exact bX1_put_77 _ Qv h
  · rintro M1 rfl
    rw [if_neg c0, if_neg c1, if_neg c2] at h
    exact bX1_put_77 _ Qv h
theorem x_lay (k : Nat) (a m : Int32) (h : ∀ M', (∀ c i j, ¬ (c = 5 ∧ i = k ∧ j < 2) → M'.1 c i j = M.1 c i j) → M'.1 5 k 0 = a → M'.1 5 k 1 = m → (∀ c i j, ¬ (c = 18 ∧ i = k) → M'.2 c i j = M.2 c i j) → (∀ j, j < 24 → M'.2 18 k j = 0) → Qv M') : kCT l (rg_x, g) mX1_lay [.inr (.inr (5, k)), .inl a, .inl m] M (kqv Qv) := by
  refine kct (by decide) (Nat.le_of_ble_eq_true rfl) (bX1_lay_0 k a m M Qv ?_)
  rintro M1 rfl M2 rfl
  have key : ∀ f i, i + f = 24 → ∀ M' : kM, M'.1 = (ku (ku M 5 k 0 a) 5 k 1 m).1 → (∀ c i j, ¬ (c = 18 ∧ i = k) → M'.2 c i j = M.2 c i j) → (∀ j, j < i → M'.2 18 k j = 0) → kWP l (rg_x, g) mX1_lay 12 [(0, .inr (.inr (5, k))), (3, .inl (nI i))] [] M' (kqv Qv) := by
    intro f
    induction f with
    | zero =>
      intro i hi M' e1 e2 e3
      obtain rfl : i = 24 := by omega
      refine bX1_lay_12 k _ M' Qv ⟨fun _ => ?_, fun z => absurd (by decide) z⟩
      refine h M' (fun c i j hc => ?_) ?_ ?_ e2 e3
      · rw [e1, ku_ne (by omega), ku_ne (by omega)]
      · rw [e1, ku_ne (by omega), ku_eq]
      · rw [e1, ku_eq]
    | succ f ih =>
      intro i hi M' e1 e2 e3
      refine bX1_lay_12 k _ M' Qv ⟨fun z => ?_, fun _ => ?_⟩
      · rw [show (24 : Int32) = nI 24 from rfl, q_le (by omega) (by omega)] at z
        omega
      · simp (disch := omega) only [qa_0, qa_1, qa_2, qa_3, qa_4, qa_5, qa_6, qa_7, qa_8, qa_9, qa_10, qa_12, qa_16, qa_20, qa_21, qa_22, qa_23, qa_24, qa_26, qa_27, qa_30, qa_31, qa_32, qa_35, qa_36, qa_40, qa_44, qa_48, qa_49, qa_70, qa_81, qa_90, qa_96, qa_168, qa_217, qa_434, qa_442, qa_446, qa_450, qa_454, qa_455, qa_456, qa_457, qa_458, qa_466, qa_474, qa_478, qb_0, qb_1, qb_2, qb_3, qb_4, qb_5, qb_6, qb_7, qb_8, qb_9, qb_10, qb_12, qb_16, qb_20, qb_21, qb_22, qb_23, qb_24, qb_26, qb_27, qb_30, qb_31, qb_32, qb_35, qb_36, qb_40, qb_44, qb_48, qb_49, qb_70, qb_81, qb_90, qb_96, qb_168, qb_217, qb_434, qb_442, qb_446, qb_450, qb_454, qb_455, qb_456, qb_457, qb_458, qb_466, qb_474, qb_478, qm_0, qm_1, qm_2, qm_3, qm_4, qm_5, qm_6, qm_7, qm_8, qm_9, qm_10, qm_12, qm_16, qm_20, qm_21, qm_22, qm_23, qm_24, qm_26, qm_27, qm_30, qm_31, qm_32, qm_35, qm_36, qm_40, qm_44, qm_48, qm_49, qm_70, qm_81, qm_90, qm_96, qm_168, qm_217, qm_434, qm_442, qm_446, qm_450, qm_454, qm_455, qm_456, qm_457, qm_458, qm_466, qm_474, qm_478, ql_0, ql_1, ql_2, ql_3, ql_4, ql_5, ql_6, ql_7, ql_8, ql_9, ql_10, ql_12, ql_16, ql_20, ql_21, ql_22, ql_23, ql_24, ql_26, ql_27, ql_30, ql_31, ql_32, ql_35, ql_36, ql_40, ql_44, ql_48, ql_49, ql_70, ql_81, ql_90, ql_96, ql_168, ql_217, ql_434, ql_442, ql_446, ql_450, ql_454, ql_455, ql_456, ql_457, ql_458, ql_466, ql_474, ql_478, nI_add, q_cl, q_in, true_and]
        rintro M1 rfl z2 rfl
        refine ih (i + 1) (by omega) _ e1 (fun c i j hc => ?_) (fun j hj => ?_)
        · rw [kul_ne (by omega)]
          exact e2 c i j hc
        · by_cases q : j = i
          · subst q
            exact kul_eq
          · rw [kul_ne (by omega)]
            exact e3 j (by omega)
  exact key 24 0 (by omega) _ rfl (fun _ _ _ _ => rfl) (fun j hj => by omega)
theorem lan_ne {a b : Int32} : ¬ lan a b = 0 ↔ ¬ wth a 0 3 = 0 ∧ ¬ wth b 0 3 = 0 := by
  unfold lan
  by_cases c1 : wth a 0 3 = 0
  · rw [if_pos c1]
    exact ⟨fun h => absurd rfl h, fun h => absurd c1 h.1⟩
  · rw [if_neg c1]
    by_cases c2 : wth b 0 3 = 0
    · rw [if_pos c2]
      exact ⟨fun h => absurd rfl h, fun h => absurd c2 h.2⟩
    · rw [if_neg c2]
      exact ⟨fun _ => ⟨c1, c2⟩, fun _ => by decide⟩
/-- one sheet is new, all else as it was -/
theorem Inv.sheet {Mx' Mm' : kM} (h : Inv n Mx Mm) (s : Nat) (hx : ∀ c i j, ¬ (c = 5 ∧ i = s) → Mx'.1 c i j = Mx.1 c i j) (hx2 : ∀ i j, i ≠ s → Mx'.2 18 i j = Mx.2 18 i j) (hm : ∀ c j, ¬ ((c = 4 ∨ c = 5) ∧ j = s) → Mm'.1 c 0 j = Mm.1 c 0 j) (hm2 : ∀ j, ¬ (24 * s ≤ j ∧ j < 24 * s + 24) → Mm'.2 3 0 j = Mm.2 3 0 j) (hs : sh1 Mx' Mm' s) : Inv (n + 1) Mx' Mm' := by
  refine ⟨h.1.mono.cg (fun c j hc => hx c 0 j (by omega)) (fun j _ _ => hm 1 j (by omega)), ?_, h.2.2.1.cg (fun c j hc => hx c 0 j (by omega)) (fun c j hc => hm c j (by omega)), fun t ht => ?_⟩
  · unfold img
    rw [hx 0 0 4 (by omega), hm 0 1 (by omega)]
    exact h.2.1.mono.imp id (fun q => ⟨q.1, q.2.1, q.2.2.cg (fun c j hc => hx c 1 j (by omega)) (fun j b1 b2 => hm 1 j (by omega))⟩)
  · by_cases e : t = s
    · subst e
      exact hs
    · exact (h.2.2.2 t ht).cg (fun j => hx 5 t j (by omega)) (fun j => hx2 t j e) (fun c hc => hm c t (by omega)) (fun j _ _ => hm2 j (by omega))
theorem pair_sheet (h : Inv n Mx Mm) (a1 a2 a3 : Int32) : kPair l g1 g2 mX5_sheet mX6_sheet [.inl a1, .inl a2, .inl a3] Mx Mm (Inv (n + 1)) := by
  have bad : (lan a1 a2 = 0 ∨ ¬ a3 ≤ 24) → kCT l (rg_m, g2) mX6_sheet [.inr (.inr (0, 0)), .inl a1, .inl a2, .inl a3] Mm (kqi (fun r2 Mm1 => -1 = r2 ∧ Inv (n + 1) Mx Mm1)) := by
    intro hb
    refine kct (by decide) (Nat.le_of_ble_eq_true rfl) (bX6_sheet_0 _ _ _ Mm _ (m_isLane _ _ ⟨fun _ => bX6_sheet_14 _ _ ⟨rfl, h.mono⟩, fun c1 => ⟨fun c2 => ?_, fun c2 => bX6_sheet_14 _ _ ⟨rfl, h.mono⟩⟩⟩))
    exact absurd hb (by rintro (z | z); exact c1 z; exact z c2)
  refine kct (by decide) (Nat.le_of_ble_eq_true rfl) (bX5_sheet_0 a1 a2 a3 Mx _ (x_isSheet _ ⟨fun c => bX5_sheet_20 _ _ (bad (Or.inl ?_)), fun c1 => x_isLane _ ⟨fun c => bX5_sheet_20 _ _ (bad (Or.inl ?_)), fun c2 => ⟨fun c3 => ⟨fun c4 => ?_, fun c4 => ?_⟩, fun c3 => bX5_sheet_20 _ _ (bad (Or.inr c3))⟩⟩⟩))
  · exact Classical.byContradiction (fun z => (lan_ne.mp z).1 c)
  · exact Classical.byContradiction (fun z => (lan_ne.mp z).2 c)
  · have cl : ¬ lan a1 a2 = 0 := lan_ne.mpr ⟨c1, c2⟩
    obtain ⟨s, s0, s3, rfl⟩ := wth_rg (lo := 0) (hi := 3) (by decide) (by decide) c1
    obtain ⟨m, hm, rfl⟩ := nI_of (Int32.not_lt.mpr c4)
    have hm24 : m ≤ 24 := (q_le (b := 24) hm (by decide)).mp c3
    simp (disch := omega) only [qa_0, qa_1, qa_2, qa_3, qa_4, qa_5, qa_6, qa_7, qa_8, qa_9, qa_10, qa_12, qa_16, qa_20, qa_21, qa_22, qa_23, qa_24, qa_26, qa_27, qa_30, qa_31, qa_32, qa_35, qa_36, qa_40, qa_44, qa_48, qa_49, qa_70, qa_81, qa_90, qa_96, qa_168, qa_217, qa_434, qa_442, qa_446, qa_450, qa_454, qa_455, qa_456, qa_457, qa_458, qa_466, qa_474, qa_478, qb_0, qb_1, qb_2, qb_3, qb_4, qb_5, qb_6, qb_7, qb_8, qb_9, qb_10, qb_12, qb_16, qb_20, qb_21, qb_22, qb_23, qb_24, qb_26, qb_27, qb_30, qb_31, qb_32, qb_35, qb_36, qb_40, qb_44, qb_48, qb_49, qb_70, qb_81, qb_90, qb_96, qb_168, qb_217, qb_434, qb_442, qb_446, qb_450, qb_454, qb_455, qb_456, qb_457, qb_458, qb_466, qb_474, qb_478, qm_0, qm_1, qm_2, qm_3, qm_4, qm_5, qm_6, qm_7, qm_8, qm_9, qm_10, qm_12, qm_16, qm_20, qm_21, qm_22, qm_23, qm_24, qm_26, qm_27, qm_30, qm_31, qm_32, qm_35, qm_36, qm_40, qm_44, qm_48, qm_49, qm_70, qm_81, qm_90, qm_96, qm_168, qm_217, qm_434, qm_442, qm_446, qm_450, qm_454, qm_455, qm_456, qm_457, qm_458, qm_466, qm_474, qm_478, ql_0, ql_1, ql_2, ql_3, ql_4, ql_5, ql_6, ql_7, ql_8, ql_9, ql_10, ql_12, ql_16, ql_20, ql_21, ql_22, ql_23, ql_24, ql_26, ql_27, ql_30, ql_31, ql_32, ql_35, ql_36, ql_40, ql_44, ql_48, ql_49, ql_70, ql_81, ql_90, ql_96, ql_168, ql_217, ql_434, ql_442, ql_446, ql_450, ql_454, ql_455, ql_456, ql_457, ql_458, ql_466, ql_474, ql_478, nI_add, q_cl, q_in, true_and]
    refine x_lay s a2 (nI m) (fun Mx' x1 x2 x3 x4 x5 => ?_)
    refine kct (by decide) (Nat.le_of_ble_eq_true rfl) (bX6_sheet_0 _ _ _ Mm _ (m_isLane _ _ ⟨fun z => absurd z cl, fun _ => ⟨fun _ => ⟨fun _ => ?_, fun z => absurd c4 z⟩, fun z => absurd c3 z⟩⟩))
    simp (disch := omega) only [qa_0, qa_1, qa_2, qa_3, qa_4, qa_5, qa_6, qa_7, qa_8, qa_9, qa_10, qa_12, qa_16, qa_20, qa_21, qa_22, qa_23, qa_24, qa_26, qa_27, qa_30, qa_31, qa_32, qa_35, qa_36, qa_40, qa_44, qa_48, qa_49, qa_70, qa_81, qa_90, qa_96, qa_168, qa_217, qa_434, qa_442, qa_446, qa_450, qa_454, qa_455, qa_456, qa_457, qa_458, qa_466, qa_474, qa_478, qb_0, qb_1, qb_2, qb_3, qb_4, qb_5, qb_6, qb_7, qb_8, qb_9, qb_10, qb_12, qb_16, qb_20, qb_21, qb_22, qb_23, qb_24, qb_26, qb_27, qb_30, qb_31, qb_32, qb_35, qb_36, qb_40, qb_44, qb_48, qb_49, qb_70, qb_81, qb_90, qb_96, qb_168, qb_217, qb_434, qb_442, qb_446, qb_450, qb_454, qb_455, qb_456, qb_457, qb_458, qb_466, qb_474, qb_478, qm_0, qm_1, qm_2, qm_3, qm_4, qm_5, qm_6, qm_7, qm_8, qm_9, qm_10, qm_12, qm_16, qm_20, qm_21, qm_22, qm_23, qm_24, qm_26, qm_27, qm_30, qm_31, qm_32, qm_35, qm_36, qm_40, qm_44, qm_48, qm_49, qm_70, qm_81, qm_90, qm_96, qm_168, qm_217, qm_434, qm_442, qm_446, qm_450, qm_454, qm_455, qm_456, qm_457, qm_458, qm_466, qm_474, qm_478, ql_0, ql_1, ql_2, ql_3, ql_4, ql_5, ql_6, ql_7, ql_8, ql_9, ql_10, ql_12, ql_16, ql_20, ql_21, ql_22, ql_23, ql_24, ql_26, ql_27, ql_30, ql_31, ql_32, ql_35, ql_36, ql_40, ql_44, ql_48, ql_49, ql_70, ql_81, ql_90, ql_96, ql_168, ql_217, ql_434, ql_442, ql_446, ql_450, ql_454, ql_455, ql_456, ql_457, ql_458, ql_466, ql_474, ql_478, nI_add, q_cl, q_in, true_and]
    rintro M3 rfl M4 rfl
    have la : ¬ a2 = -1 := by
      intro q
      rw [q] at c2
      exact absurd c2 (by decide)
    have key : ∀ f i, i + f = 24 → ∀ M' : kM, M'.1 = (ku (ku Mm 4 0 s a2) 5 0 s (nI m)).1 → (∀ c i j, ¬ (c = 3 ∧ i = 0 ∧ 24 * s ≤ j ∧ j < 24 * s + 24) → M'.2 c i j = Mm.2 c i j) → (∀ j, j < i → M'.2 3 0 (24 * s + j) = 0) → kWP l (rg_m, g2) mX6_sheet 40 [(0, .inr (.inr (0, 0))), (1, .inl (nI s)), (3, .inl (nI m)), (4, .inl (nI i))] [] M' (kqi (fun r2 Mm1 => nI m = r2 ∧ Inv (n + 1) Mx' Mm1)) := by
      intro f
      induction f with
      | zero =>
        intro i hi M' e1 e2 e3
        obtain rfl : i = 24 := by omega
        refine bX6_sheet_40 _ _ _ M' _ ⟨fun _ => ⟨rfl, ?_⟩, fun z => absurd (by decide) z⟩
        refine h.sheet s (fun c i j hc => x1 c i j (by omega)) (fun i j hi => x4 18 i j (by omega)) (fun c j hc => by rw [e1, ku_ne (by omega), ku_ne (by omega)]) (fun j hj => e2 3 0 j (by omega)) ?_
        refine Or.inr ⟨m, hm24, by rw [x2]; exact la, ?_, x3, by rw [e1, ku_eq], fun j hj => ?_⟩
        · rw [x2, e1, ku_ne (by omega), ku_eq]
        · rw [x5 j hj, e3 j hj]
      | succ f ih =>
        intro i hi M' e1 e2 e3
        refine bX6_sheet_40 _ _ _ M' _ ⟨fun z => ?_, fun _ => ?_⟩
        · rw [show (24 : Int32) = nI 24 from rfl, q_le (by omega) (by omega)] at z
          omega
        · simp (disch := omega) only [qa_0, qa_1, qa_2, qa_3, qa_4, qa_5, qa_6, qa_7, qa_8, qa_9, qa_10, qa_12, qa_16, qa_20, qa_21, qa_22, qa_23, qa_24, qa_26, qa_27, qa_30, qa_31, qa_32, qa_35, qa_36, qa_40, qa_44, qa_48, qa_49, qa_70, qa_81, qa_90, qa_96, qa_168, qa_217, qa_434, qa_442, qa_446, qa_450, qa_454, qa_455, qa_456, qa_457, qa_458, qa_466, qa_474, qa_478, qb_0, qb_1, qb_2, qb_3, qb_4, qb_5, qb_6, qb_7, qb_8, qb_9, qb_10, qb_12, qb_16, qb_20, qb_21, qb_22, qb_23, qb_24, qb_26, qb_27, qb_30, qb_31, qb_32, qb_35, qb_36, qb_40, qb_44, qb_48, qb_49, qb_70, qb_81, qb_90, qb_96, qb_168, qb_217, qb_434, qb_442, qb_446, qb_450, qb_454, qb_455, qb_456, qb_457, qb_458, qb_466, qb_474, qb_478, qm_0, qm_1, qm_2, qm_3, qm_4, qm_5, qm_6, qm_7, qm_8, qm_9, qm_10, qm_12, qm_16, qm_20, qm_21, qm_22, qm_23, qm_24, qm_26, qm_27, qm_30, qm_31, qm_32, qm_35, qm_36, qm_40, qm_44, qm_48, qm_49, qm_70, qm_81, qm_90, qm_96, qm_168, qm_217, qm_434, qm_442, qm_446, qm_450, qm_454, qm_455, qm_456, qm_457, qm_458, qm_466, qm_474, qm_478, ql_0, ql_1, ql_2, ql_3, ql_4, ql_5, ql_6, ql_7, ql_8, ql_9, ql_10, ql_12, ql_16, ql_20, ql_21, ql_22, ql_23, ql_24, ql_26, ql_27, ql_30, ql_31, ql_32, ql_35, ql_36, ql_40, ql_44, ql_48, ql_49, ql_70, ql_81, ql_90, ql_96, ql_168, ql_217, ql_434, ql_442, ql_446, ql_450, ql_454, ql_455, ql_456, ql_457, ql_458, ql_466, ql_474, ql_478, nI_add, q_cl, q_in, true_and]
          rintro M1 rfl z2 rfl
          refine ih (i + 1) (by omega) _ e1 (fun c i j hc => ?_) (fun j hj => ?_)
          · rw [kul_ne (by omega)]
            exact e2 c i j hc
          · by_cases q : j = i
            · subst q
              exact kul_eq
            · rw [kul_ne (by omega)]
              exact e3 j (by omega)
    exact key 24 0 (by omega) _ rfl (fun _ _ _ _ => rfl) (fun j hj => by omega)
  · have cl : ¬ lan a1 a2 = 0 := lan_ne.mpr ⟨c1, c2⟩
    refine kct (by decide) (Nat.le_of_ble_eq_true rfl) (bX6_sheet_0 _ _ _ Mm _ (m_isLane _ _ ⟨fun z => absurd z cl, fun _ => ⟨fun _ => ⟨fun z => absurd z c4, fun _ => ⟨rfl, h.mono⟩⟩, fun z => absurd c3 z⟩⟩))
theorem pair_drop (h : Inv n Mx Mm) (a1 : Int32) : kPair l g1 g2 mX5_drop mX6_drop [.inl a1] Mx Mm (Inv (n + 1)) := by
  refine kct (by decide) (Nat.le_of_ble_eq_true rfl) (bX5_drop_0 a1 Mx _ (x_isSheet _ ⟨fun c1 => ?_, fun c1 => ?_⟩))
  · have c1' := c1
    obtain ⟨s, s0, s3, rfl⟩ := wth_rg (lo := 0) (hi := 3) (by decide) (by decide) c1
    simp (disch := omega) only [qa_0, qa_1, qa_2, qa_3, qa_4, qa_5, qa_6, qa_7, qa_8, qa_9, qa_10, qa_12, qa_16, qa_20, qa_21, qa_22, qa_23, qa_24, qa_26, qa_27, qa_30, qa_31, qa_32, qa_35, qa_36, qa_40, qa_44, qa_48, qa_49, qa_70, qa_81, qa_90, qa_96, qa_168, qa_217, qa_434, qa_442, qa_446, qa_450, qa_454, qa_455, qa_456, qa_457, qa_458, qa_466, qa_474, qa_478, qb_0, qb_1, qb_2, qb_3, qb_4, qb_5, qb_6, qb_7, qb_8, qb_9, qb_10, qb_12, qb_16, qb_20, qb_21, qb_22, qb_23, qb_24, qb_26, qb_27, qb_30, qb_31, qb_32, qb_35, qb_36, qb_40, qb_44, qb_48, qb_49, qb_70, qb_81, qb_90, qb_96, qb_168, qb_217, qb_434, qb_442, qb_446, qb_450, qb_454, qb_455, qb_456, qb_457, qb_458, qb_466, qb_474, qb_478, qm_0, qm_1, qm_2, qm_3, qm_4, qm_5, qm_6, qm_7, qm_8, qm_9, qm_10, qm_12, qm_16, qm_20, qm_21, qm_22, qm_23, qm_24, qm_26, qm_27, qm_30, qm_31, qm_32, qm_35, qm_36, qm_40, qm_44, qm_48, qm_49, qm_70, qm_81, qm_90, qm_96, qm_168, qm_217, qm_434, qm_442, qm_446, qm_450, qm_454, qm_455, qm_456, qm_457, qm_458, qm_466, qm_474, qm_478, ql_0, ql_1, ql_2, ql_3, ql_4, ql_5, ql_6, ql_7, ql_8, ql_9, ql_10, ql_12, ql_16, ql_20, ql_21, ql_22, ql_23, ql_24, ql_26, ql_27, ql_30, ql_31, ql_32, ql_35, ql_36, ql_40, ql_44, ql_48, ql_49, ql_70, ql_81, ql_90, ql_96, ql_168, ql_217, ql_434, ql_442, ql_446, ql_450, ql_454, ql_455, ql_456, ql_457, ql_458, ql_466, ql_474, ql_478, nI_add, q_cl, q_in, true_and]
    rcases h.2.2.2 s (by omega) with ⟨i1, i2⟩ | ⟨z, z1, z2, z3, z4, z5, z6⟩
    · refine x_isMissing s (fun _ => ⟨fun z => absurd z (by decide), fun _ => bX5_drop_35 _ _ _ ?_⟩) (fun z => absurd i1 z)
      refine kct (by decide) (Nat.le_of_ble_eq_true rfl) (bX6_drop_0 _ Mm _ (m_isSheet _ ⟨fun _ => ?_, fun z => absurd z c1'⟩))
      simp (disch := omega) only [qa_0, qa_1, qa_2, qa_3, qa_4, qa_5, qa_6, qa_7, qa_8, qa_9, qa_10, qa_12, qa_16, qa_20, qa_21, qa_22, qa_23, qa_24, qa_26, qa_27, qa_30, qa_31, qa_32, qa_35, qa_36, qa_40, qa_44, qa_48, qa_49, qa_70, qa_81, qa_90, qa_96, qa_168, qa_217, qa_434, qa_442, qa_446, qa_450, qa_454, qa_455, qa_456, qa_457, qa_458, qa_466, qa_474, qa_478, qb_0, qb_1, qb_2, qb_3, qb_4, qb_5, qb_6, qb_7, qb_8, qb_9, qb_10, qb_12, qb_16, qb_20, qb_21, qb_22, qb_23, qb_24, qb_26, qb_27, qb_30, qb_31, qb_32, qb_35, qb_36, qb_40, qb_44, qb_48, qb_49, qb_70, qb_81, qb_90, qb_96, qb_168, qb_217, qb_434, qb_442, qb_446, qb_450, qb_454, qb_455, qb_456, qb_457, qb_458, qb_466, qb_474, qb_478, qm_0, qm_1, qm_2, qm_3, qm_4, qm_5, qm_6, qm_7, qm_8, qm_9, qm_10, qm_12, qm_16, qm_20, qm_21, qm_22, qm_23, qm_24, qm_26, qm_27, qm_30, qm_31, qm_32, qm_35, qm_36, qm_40, qm_44, qm_48, qm_49, qm_70, qm_81, qm_90, qm_96, qm_168, qm_217, qm_434, qm_442, qm_446, qm_450, qm_454, qm_455, qm_456, qm_457, qm_458, qm_466, qm_474, qm_478, ql_0, ql_1, ql_2, ql_3, ql_4, ql_5, ql_6, ql_7, ql_8, ql_9, ql_10, ql_12, ql_16, ql_20, ql_21, ql_22, ql_23, ql_24, ql_26, ql_27, ql_30, ql_31, ql_32, ql_35, ql_36, ql_40, ql_44, ql_48, ql_49, ql_70, ql_81, ql_90, ql_96, ql_168, ql_217, ql_434, ql_442, ql_446, ql_450, ql_454, ql_455, ql_456, ql_457, ql_458, ql_466, ql_474, ql_478, nI_add, q_cl, q_in, true_and]
      rw [i2]
      exact ⟨fun z => absurd z (by decide), fun _ => h.mono⟩
    · refine x_isMissing s (fun z => absurd z z2) (fun _ => ⟨fun _ => ?_, fun z => absurd rfl z⟩)
      refine kct (by decide) (Nat.le_of_ble_eq_true rfl) (bX1_clear_0 s Mx _ ?_)
      rintro M1 rfl
      rw [ku_ne (by omega), z4]
      refine bX5_drop_35 _ _ _ ?_
      refine kct (by decide) (Nat.le_of_ble_eq_true rfl) (bX6_drop_0 _ Mm _ (m_isSheet _ ⟨fun _ => ?_, fun z => absurd z c1'⟩))
      simp (disch := omega) only [qa_0, qa_1, qa_2, qa_3, qa_4, qa_5, qa_6, qa_7, qa_8, qa_9, qa_10, qa_12, qa_16, qa_20, qa_21, qa_22, qa_23, qa_24, qa_26, qa_27, qa_30, qa_31, qa_32, qa_35, qa_36, qa_40, qa_44, qa_48, qa_49, qa_70, qa_81, qa_90, qa_96, qa_168, qa_217, qa_434, qa_442, qa_446, qa_450, qa_454, qa_455, qa_456, qa_457, qa_458, qa_466, qa_474, qa_478, qb_0, qb_1, qb_2, qb_3, qb_4, qb_5, qb_6, qb_7, qb_8, qb_9, qb_10, qb_12, qb_16, qb_20, qb_21, qb_22, qb_23, qb_24, qb_26, qb_27, qb_30, qb_31, qb_32, qb_35, qb_36, qb_40, qb_44, qb_48, qb_49, qb_70, qb_81, qb_90, qb_96, qb_168, qb_217, qb_434, qb_442, qb_446, qb_450, qb_454, qb_455, qb_456, qb_457, qb_458, qb_466, qb_474, qb_478, qm_0, qm_1, qm_2, qm_3, qm_4, qm_5, qm_6, qm_7, qm_8, qm_9, qm_10, qm_12, qm_16, qm_20, qm_21, qm_22, qm_23, qm_24, qm_26, qm_27, qm_30, qm_31, qm_32, qm_35, qm_36, qm_40, qm_44, qm_48, qm_49, qm_70, qm_81, qm_90, qm_96, qm_168, qm_217, qm_434, qm_442, qm_446, qm_450, qm_454, qm_455, qm_456, qm_457, qm_458, qm_466, qm_474, qm_478, ql_0, ql_1, ql_2, ql_3, ql_4, ql_5, ql_6, ql_7, ql_8, ql_9, ql_10, ql_12, ql_16, ql_20, ql_21, ql_22, ql_23, ql_24, ql_26, ql_27, ql_30, ql_31, ql_32, ql_35, ql_36, ql_40, ql_44, ql_48, ql_49, ql_70, ql_81, ql_90, ql_96, ql_168, ql_217, ql_434, ql_442, ql_446, ql_450, ql_454, ql_455, ql_456, ql_457, ql_458, ql_466, ql_474, ql_478, nI_add, q_cl, q_in, true_and]
      rw [z5]
      refine ⟨fun _ => ?_, fun z => absurd (nI_pos' (by omega)) z⟩
      rintro z3 rfl M4 rfl
      refine ⟨rfl, ?_⟩
      refine h.sheet s (fun c i j hc => ku_ne (by omega)) (fun i j hi => rfl) (fun c j hc => ku_ne (by omega)) (fun j hj => rfl) (Or.inl ⟨ku_eq, ku_eq⟩)
  · refine kct (by decide) (Nat.le_of_ble_eq_true rfl) (bX6_drop_0 _ Mm _ (m_isSheet _ ⟨fun z => absurd c1 z, fun _ => ⟨rfl, h.mono⟩⟩))
theorem pair_item (h : Inv n Mx Mm) (a1 a2 a3 : Int32) (a4 : Int64) : kPair l g1 g2 mX5_item mX6_item [.inl a1, .inl a2, .inl a3, .inr (.inl a4)] Mx Mm (Inv (n + 1)) := by
  have bad : lan a1 a2 = 0 → kCT l (rg_m, g2) mX6_item [.inr (.inr (0, 0)), .inl a1, .inl a2, .inl a3, .inr (.inl a4)] Mm (kqi (fun r2 Mm1 => -1 = r2 ∧ Inv (n + 1) Mx Mm1)) := fun hb => kct (by decide) (Nat.le_of_ble_eq_true rfl) (bX6_item_0 _ _ _ _ Mm _ (m_isLane _ _ ⟨fun z => absurd hb z, fun _ => ⟨rfl, h.mono⟩⟩))
  refine kct (by decide) (Nat.le_of_ble_eq_true rfl) (bX5_item_0 a1 a2 a3 a4 Mx _ (x_isSheet _ ⟨fun c => bX5_item_14 _ _ (bad ?_), fun c1 => x_isLane _ ⟨fun c2 => ?_, fun c => bX5_item_14 _ _ (bad ?_)⟩⟩))
  · exact Classical.byContradiction (fun z => (lan_ne.mp z).1 c)
  · have cl : ¬ lan a1 a2 = 0 := lan_ne.mpr ⟨c1, c2⟩
    obtain ⟨s, s0, s3, rfl⟩ := wth_rg (lo := 0) (hi := 3) (by decide) (by decide) c1
    simp (disch := omega) only [qa_0, qa_1, qa_2, qa_3, qa_4, qa_5, qa_6, qa_7, qa_8, qa_9, qa_10, qa_12, qa_16, qa_20, qa_21, qa_22, qa_23, qa_24, qa_26, qa_27, qa_30, qa_31, qa_32, qa_35, qa_36, qa_40, qa_44, qa_48, qa_49, qa_70, qa_81, qa_90, qa_96, qa_168, qa_217, qa_434, qa_442, qa_446, qa_450, qa_454, qa_455, qa_456, qa_457, qa_458, qa_466, qa_474, qa_478, qb_0, qb_1, qb_2, qb_3, qb_4, qb_5, qb_6, qb_7, qb_8, qb_9, qb_10, qb_12, qb_16, qb_20, qb_21, qb_22, qb_23, qb_24, qb_26, qb_27, qb_30, qb_31, qb_32, qb_35, qb_36, qb_40, qb_44, qb_48, qb_49, qb_70, qb_81, qb_90, qb_96, qb_168, qb_217, qb_434, qb_442, qb_446, qb_450, qb_454, qb_455, qb_456, qb_457, qb_458, qb_466, qb_474, qb_478, qm_0, qm_1, qm_2, qm_3, qm_4, qm_5, qm_6, qm_7, qm_8, qm_9, qm_10, qm_12, qm_16, qm_20, qm_21, qm_22, qm_23, qm_24, qm_26, qm_27, qm_30, qm_31, qm_32, qm_35, qm_36, qm_40, qm_44, qm_48, qm_49, qm_70, qm_81, qm_90, qm_96, qm_168, qm_217, qm_434, qm_442, qm_446, qm_450, qm_454, qm_455, qm_456, qm_457, qm_458, qm_466, qm_474, qm_478, ql_0, ql_1, ql_2, ql_3, ql_4, ql_5, ql_6, ql_7, ql_8, ql_9, ql_10, ql_12, ql_16, ql_20, ql_21, ql_22, ql_23, ql_24, ql_26, ql_27, ql_30, ql_31, ql_32, ql_35, ql_36, ql_40, ql_44, ql_48, ql_49, ql_70, ql_81, ql_90, ql_96, ql_168, ql_217, ql_434, ql_442, ql_446, ql_450, ql_454, ql_455, ql_456, ql_457, ql_458, ql_466, ql_474, ql_478, nI_add, q_cl, q_in, true_and]
    rcases h.2.2.2 s (by omega) with ⟨i1, i2⟩ | ⟨z, z1, z2, z3, z4, z5, z6⟩
    · refine x_faultOf s 0 (by omega) (fun z => absurd i1 z) (fun _ => ⟨fun z => absurd z (by decide), fun _ => ?_⟩) (fun z => absurd i1 z) (fun z => absurd i1 z) (fun z => absurd i1 z)
      refine kct (by decide) (Nat.le_of_ble_eq_true rfl) (bX6_item_0 _ _ _ _ Mm _ (m_isLane _ _ ⟨fun _ => ?_, fun z => absurd z cl⟩))
      refine m_against s 0 (by omega) (by omega) (Or.inl i2) (fun _ => ⟨fun z => absurd z (by decide), fun _ => ⟨rfl, h.mono⟩⟩) (fun z => ?_) (fun z => ?_) (fun z => ?_)
      all_goals exact absurd (i2.symm.trans z) (by decide)
    · have nz : ¬ Mm.1 5 0 s = -1 := by
        rw [z5]
        intro q
        have h1 := nI_toInt (n := z) (by omega)
        rw [q] at h1
        have : (-1 : Int32).toInt = -1 := by decide
        omega
      refine x_faultOf s z z1 (fun _ => z4) (fun q => absurd q z2) (fun _ c => ⟨fun z => absurd z (by decide), fun _ => ?_⟩) (fun _ c c5 => ⟨fun z => absurd z (by decide), fun _ => ?_⟩) (fun _ c c5 => ⟨fun _ => ?_, fun z => absurd (by decide) z⟩)
      · refine kct (by decide) (Nat.le_of_ble_eq_true rfl) (bX6_item_0 _ _ _ _ Mm _ (m_isLane _ _ ⟨fun _ => ?_, fun z => absurd z cl⟩))
        rw [z3] at c
        exact m_against s z (by omega) z1 (Or.inr z5) (fun q => absurd q nz) (fun _ _ => ⟨fun z => absurd z (by decide), fun _ => ⟨rfl, h.mono⟩⟩) (fun _ q => absurd q c) (fun _ q => absurd q c)
      · refine kct (by decide) (Nat.le_of_ble_eq_true rfl) (bX6_item_0 _ _ _ _ Mm _ (m_isLane _ _ ⟨fun _ => ?_, fun z => absurd z cl⟩))
        rw [z3] at c
        exact m_against s z (by omega) z1 (Or.inr z5) (fun q => absurd q nz) (fun _ q => absurd c q) (fun _ _ _ => ⟨fun z => absurd z (by decide), fun _ => ⟨rfl, h.mono⟩⟩) (fun _ _ q => absurd q c5)
      · have c5' := c5
        obtain ⟨k1, k2, k3⟩ := c5
        obtain ⟨j, hj, rfl⟩ := nI_of k1
        rw [q_cl hj, ql_1] at k3
        refine x_put s j (by omega) a4 ?_
        refine kct (by decide) (Nat.le_of_ble_eq_true rfl) (bX6_item_0 _ _ _ _ Mm _ (m_isLane _ _ ⟨fun _ => ?_, fun z => absurd z cl⟩))
        rw [c]
        rw [z3] at c
        refine m_against s z (by omega) z1 (Or.inr z5) (fun q => absurd q nz) (fun _ q => absurd c q) (fun _ _ q => absurd c5' q) (fun _ _ _ => ⟨fun _ => m_cut _ _ ?_, fun z => absurd (by decide) z⟩)
        simp (disch := omega) only [qa_0, qa_1, qa_2, qa_3, qa_4, qa_5, qa_6, qa_7, qa_8, qa_9, qa_10, qa_12, qa_16, qa_20, qa_21, qa_22, qa_23, qa_24, qa_26, qa_27, qa_30, qa_31, qa_32, qa_35, qa_36, qa_40, qa_44, qa_48, qa_49, qa_70, qa_81, qa_90, qa_96, qa_168, qa_217, qa_434, qa_442, qa_446, qa_450, qa_454, qa_455, qa_456, qa_457, qa_458, qa_466, qa_474, qa_478, qb_0, qb_1, qb_2, qb_3, qb_4, qb_5, qb_6, qb_7, qb_8, qb_9, qb_10, qb_12, qb_16, qb_20, qb_21, qb_22, qb_23, qb_24, qb_26, qb_27, qb_30, qb_31, qb_32, qb_35, qb_36, qb_40, qb_44, qb_48, qb_49, qb_70, qb_81, qb_90, qb_96, qb_168, qb_217, qb_434, qb_442, qb_446, qb_450, qb_454, qb_455, qb_456, qb_457, qb_458, qb_466, qb_474, qb_478, qm_0, qm_1, qm_2, qm_3, qm_4, qm_5, qm_6, qm_7, qm_8, qm_9, qm_10, qm_12, qm_16, qm_20, qm_21, qm_22, qm_23, qm_24, qm_26, qm_27, qm_30, qm_31, qm_32, qm_35, qm_36, qm_40, qm_44, qm_48, qm_49, qm_70, qm_81, qm_90, qm_96, qm_168, qm_217, qm_434, qm_442, qm_446, qm_450, qm_454, qm_455, qm_456, qm_457, qm_458, qm_466, qm_474, qm_478, ql_0, ql_1, ql_2, ql_3, ql_4, ql_5, ql_6, ql_7, ql_8, ql_9, ql_10, ql_12, ql_16, ql_20, ql_21, ql_22, ql_23, ql_24, ql_26, ql_27, ql_30, ql_31, ql_32, ql_35, ql_36, ql_40, ql_44, ql_48, ql_49, ql_70, ql_81, ql_90, ql_96, ql_168, ql_217, ql_434, ql_442, ql_446, ql_450, ql_454, ql_455, ql_456, ql_457, ql_458, ql_466, ql_474, ql_478, nI_add, q_cl, q_in, true_and]
        rintro M7 rfl
        refine h.sheet s (fun c i j hc => rfl) (fun i j hi => kul_ne (by omega)) (fun c j hc => rfl) (fun j hj => kul_ne (by omega)) ?_
        refine Or.inr ⟨z, z1, z2, z3, z4, z5, fun t ht => ?_⟩
        by_cases e : t = j
        · subst e
          rw [kul_eq, kul_eq]
        · rw [kul_ne (by omega), kul_ne (by omega)]
          exact z6 t ht
  · exact Classical.byContradiction (fun z => (lan_ne.mp z).2 c)
end KSH
