/-! ===== luck ===== -/
theorem shl1 {m : Nat} (h : m ≤ 8) : (1 : Int32) <<< (nI m &&& 31) = nI (2 ^ m) := by
  have : ∀ m : Fin 9, (1 : Int32) <<< (nI m.1 &&& 31) = nI (2 ^ m.1) := by decide
  exact this ⟨m, by omega⟩
theorem smod8 {j : Nat} (h : j < 9) : ((nI j &&& 31).toBitVec.smod 32).toNat = j := by
  have : ∀ j : Fin 9, ((nI j.1 &&& 31).toBitVec.smod 32).toNat = j.1 := by decide
  exact this ⟨j, h⟩
theorem hs_bit {off j : Nat} (ho : off < 2147483648) (hj : j < 9) : hs (nI off) (nI j) = if off / 2 ^ j % 2 = 0 then 0 else 1 := by
  have e1 : nI off >>> (nI j &&& 31) = nI (off / 2 ^ j) := pk_shrN ho _ j (smod8 hj)
  have hlt : off / 2 ^ j ≤ off := Nat.div_le_self _ _
  have e2 : nI (off / 2 ^ j) &&& 1 = nI (off / 2 ^ j % 2 ^ 1) := pk_andN (by omega) 1 (by decide)
  unfold hs
  rw [e1, e2]
  have e3 : nI (off / 2 ^ j % 2 ^ 1) = 0 ↔ off / 2 ^ j % 2 = 0 := by
    have : off / 2 ^ j % 2 ^ 1 < 2 := Nat.mod_lt _ (by decide)
    exact q_eq (b := 0) (by omega) (by omega)
  by_cases c : off / 2 ^ j % 2 = 0
  · rw [if_pos (e3.mpr c), if_pos c]
  · rw [if_neg (fun z => c (e3.mp z)), if_neg c]
def wyN (off c : Nat) : Nat → Nat
  | 0 => 1
  | k + 1 => wyN off c k * (if off / 2 ^ k % 2 = 0 then 10 - c else c)
def swy (m c : Nat) : Nat → Nat
  | 0 => 0
  | N + 1 => swy m c N + wyN N c m
theorem swy_le {m c : Nat} (hm : m ≤ 8) (hc : c ≤ 10) : swy m c (2 ^ m) ≤ 10 ^ m := by
  have : ∀ m : Fin 9, ∀ c : Fin 11, swy m.1 c.1 (2 ^ m.1) ≤ 10 ^ m.1 := by decide +kernel
  exact this ⟨m, by omega⟩ ⟨c, by omega⟩
theorem wyN_le {off c : Nat} (hc : c ≤ 10) : ∀ k, wyN off c k ≤ 10 ^ k
  | 0 => Nat.le_refl _
  | k + 1 => by
    unfold wyN
    rw [Nat.pow_succ]
    refine Nat.mul_le_mul (wyN_le hc k) ?_
    split <;> omega
def lkA (w : Nat → Bool) (m c : Nat) : Nat → Nat
  | 0 => 0
  | N + 1 => lkA w m c N + (if w N = true then wyN N c m else 0)
theorem lkA_le {w : Nat → Bool} {m c : Nat} : ∀ N, lkA w m c N ≤ swy m c N
  | 0 => Nat.le_refl _
  | N + 1 => by
    have := lkA_le (w := w) (m := m) (c := c) N
    unfold lkA swy
    split <;> omega
theorem lkA_mono {w : Nat → Bool} {m c N : Nat} : ∀ k, lkA w m c N ≤ lkA w m c (N + k)
  | 0 => Nat.le_refl _
  | k + 1 => by
    have := lkA_mono (w := w) (m := m) (c := c) (N := N) k
    show _ ≤ lkA w m c (N + k) + _
    omega
theorem p10 {m : Nat} (h : m ≤ 8) : 1 ≤ 10 ^ m ∧ 10 ^ m ≤ 100000000 := by
  have : ∀ m : Fin 9, 1 ≤ 10 ^ m.1 ∧ 10 ^ m.1 ≤ 100000000 := by decide
  exact this ⟨m, by omega⟩
theorem gcd_st (x y : Nat) : Nat.gcd x y = Nat.gcd y (x % y) := by
  rw [Nat.gcd_comm x y, Nat.gcd_rec y x, Nat.gcd_comm]
section KLU
variable {l : Launch} {g g1 g2 : va_G × (Nat → ClassId) × (Nat → Nat → Nat)} {M Mx Mm : kM} {n : Nat} {Q : Int32 → kM → Prop} {Qv : kM → Prop}
theorem x_div (x y : Nat) (hx : x ≤ y) (hy : y ≤ 100000000) (h : Q (nI (Nat.gcd x y)) M) : kCT l (rg_x, g) mX5_sharedDivisor [.inl (nI x), .inl (nI y)] M (kqi Q) := by
  refine kct (by decide) (Nat.le_of_ble_eq_true rfl) (bX5_sharedDivisor_0 _ _ M Q ?_)
  have key : ∀ f k, k + f = 64 → ∀ x y, x ≤ 100000000 → y ≤ x → x * y < 2 ^ f → Q (nI (Nat.gcd x y)) M → kWP l (rg_x, g) mX5_sharedDivisor 7 [(2, .inl (nI x)), (3, .inl (nI y)), (4, .inl (nI k))] [] M (kqi Q) := by
    intro f
    induction f with
    | zero =>
      intro k hk x y hx hy hp hQ
      have : y = 0 := by
        rcases Nat.eq_zero_or_pos y with e | e
        · exact e
        · have := Nat.mul_le_mul hy (Nat.le_refl y)
          have := Nat.mul_le_mul e e
          omega
      subst this
      rw [Nat.gcd_zero_right] at hQ
      exact bX5_sharedDivisor_7 _ _ _ _ _ ⟨fun _ => bX5_sharedDivisor_34 _ _ _ hQ, fun _ => ⟨fun _ => bX5_sharedDivisor_34 _ _ _ hQ, fun z => absurd rfl z⟩⟩
    | succ f ih =>
      intro k hk x y hx hy hp hQ
      refine bX5_sharedDivisor_7 _ _ _ _ _ ⟨fun z => ?_, fun _ => ⟨fun z => ?_, fun z => ⟨z, ?_⟩⟩⟩
      · rw [show (64 : Int32) = nI 64 from rfl, q_le (by omega) (by omega)] at z
        omega
      · have : y = 0 := (q_eq (b := 0) (by omega) (by omega)).mp z
        subst this
        rw [Nat.gcd_zero_right] at hQ
        exact bX5_sharedDivisor_34 _ _ _ hQ
      · have hy0 : 0 < y := Nat.pos_of_ne_zero (fun e => z (by rw [e]; rfl))
        rw [pk_rem (a := x) (d := y) (by omega) hy0 (by omega)]
        rintro z1 rfl z2 rfl
        rw [qa_1]
        have hr := Nat.mod_lt x hy0
        have hd := Nat.div_add_mod x y
        have hq : 1 ≤ x / y := (Nat.one_le_div_iff hy0).mpr hy
        have h1 : y * 1 ≤ y * (x / y) := Nat.mul_le_mul (Nat.le_refl y) hq
        refine ih (k + 1) (by omega) y (x % y) (by omega) (by omega) ?_ (by rw [← gcd_st]; exact hQ)
        have h2 : 2 * (x % y) ≤ x := by omega
        have h3 := Nat.mul_le_mul (Nat.le_refl y) h2
        rw [show y * (2 * (x % y)) = 2 * (y * (x % y)) by rw [Nat.mul_left_comm], Nat.mul_comm y x] at h3
        rw [Nat.pow_succ] at hp
        omega
  -- the first round turns them
  refine bX5_sharedDivisor_7 _ _ _ _ _ ⟨fun z => absurd z (by decide), fun _ => ⟨fun z => ?_, fun z => ⟨z, ?_⟩⟩⟩
  · have : y = 0 := (q_eq (b := 0) (by omega) (by omega)).mp z
    subst this
    rw [Nat.gcd_zero_right] at h
    exact bX5_sharedDivisor_34 _ _ _ h
  · have hy0 : 0 < y := Nat.pos_of_ne_zero (fun e => z (by rw [e]; rfl))
    rw [pk_rem (a := x) (d := y) (by omega) hy0 (by omega)]
    rintro z1 rfl z2 rfl
    have hr := Nat.mod_lt x hy0
    refine key 63 1 (by omega) y (x % y) hy (by omega) ?_ (by rw [← gcd_st]; exact h)
    have := Nat.mul_le_mul hy (Nat.le_trans (Nat.le_of_lt hr) hy)
    omega
theorem m_div (up down : Int32) (a3 : Int32) : ∀ y x : Nat, x < 2147483648 → y < 2147483648 → (0 < x ∨ 0 < y) → Q (if a3 = 0 then up / nI (Nat.gcd x y) else down / nI (Nat.gcd x y)) M → kWP l (rg_m, g) mX6_luck 185 [(3, .inl a3), (6, .inl up), (7, .inl down), (8, .inl (nI x)), (9, .inl (nI y))] [] M (kqi Q) := by
  intro y
  induction y using Nat.strongRecOn with
  | _ y ih =>
    intro x hx hy h0 hQ
    refine bX6_luck_185 _ _ _ _ _ _ _ ⟨fun z => ?_, fun z => ⟨z, ?_⟩⟩
    · have : y = 0 := (q_eq (b := 0) (by omega) (by omega)).mp z
      subst this
      rw [Nat.gcd_zero_right] at hQ
      have hx0 : ¬ nI x = 0 := fun e => by
        have := (q_eq (b := 0) hx (by omega)).mp e
        omega
      refine ⟨fun z => ⟨hx0, bX6_luck_225 _ _ _ ?_⟩, fun z => ⟨hx0, bX6_luck_225 _ _ _ ?_⟩⟩
      · rw [if_neg z] at hQ
        exact hQ
      · rw [if_pos z] at hQ
        exact hQ
    · have hy0 : 0 < y := Nat.pos_of_ne_zero (fun e => z (by rw [e]; rfl))
      rw [pk_rem (a := x) (d := y) (by omega) hy0 (by omega)]
      rintro z1 rfl
      have hr := Nat.mod_lt x hy0
      exact ih (x % y) hr y hy (by omega) (Or.inl hy0) (by rw [← gcd_st]; exact hQ)
theorem x_waysOf (off m c : Nat) (ho : off < 256) (hm : m ≤ 8) (hc : c ≤ 10) (h : Q (nI (wyN off c m)) M) : kCT l (rg_x, g) mX5_waysOf [.inl (nI off), .inl (nI m), .inl (nI c)] M (kqi Q) := by
  refine kct (by decide) (Nat.le_of_ble_eq_true rfl) (bX5_waysOf_0 _ _ _ M Q ?_)
  have key : ∀ f k, k + f = m → kWP l (rg_x, g) mX5_waysOf 5 [(0, .inl (nI off)), (1, .inl (nI m)), (2, .inl (nI c)), (3, .inl (nI (wyN off c k))), (4, .inl (nI k))] [] M (kqi Q) := by
    intro f
    induction f with
    | zero =>
      intro k hk
      obtain rfl : k = m := by omega
      exact bX5_waysOf_5 _ _ _ _ _ _ _ ⟨fun _ => h, fun z => absurd (nI_le (Nat.le_refl k) (by omega)) z⟩
    | succ f ih =>
      intro k hk
      have nx := ih (k + 1) (by omega)
      have hw : wyN off c (k + 1) = wyN off c k * (if off / 2 ^ k % 2 = 0 then 10 - c else c) := rfl
      rw [hw] at nx
      refine bX5_waysOf_5 _ _ _ _ _ _ _ ⟨fun z => ?_, fun _ => x_has _ _ ?_⟩
      · rw [q_le (by omega) (by omega)] at z
        omega
      · rw [hs_bit (by omega) (by omega)]
        by_cases cc : off / 2 ^ k % 2 = 0
        · rw [if_pos cc] at nx ⊢
          refine ⟨fun _ => bX5_waysOf_29 _ _ _ _ _ _ _ _ ?_, fun z => absurd rfl z⟩
          rw [show (10 : Int32) - nI c = nI (10 - c) from pk_sub (a := 10) hc, pk_mul, qa_1]
          rintro z1 rfl z2 rfl
          exact nx
        · rw [if_neg cc] at nx ⊢
          refine ⟨fun z => absurd z (by decide), fun _ => bX5_waysOf_29 _ _ _ _ _ _ _ _ ?_⟩
          rw [pk_mul, qa_1]
          rintro z1 rfl z2 rfl
          exact nx
  exact key m 0 (by omega)
theorem x_isFirstWith (i : Nat) (w : Int32) (S r : Nat) (hi : i < r) (ok : rok (rx M 0) S r) (h1 : ∀ M', xfr M M' → rfst (ffin (flse (nI i) w) r (rx M 0)) r = nI i → Q 1 M') (h0 : ∀ M', xfr M M' → ¬ rfst (ffin (flse (nI i) w) r (rx M 0)) r = nI i → Q 0 M') : kCT l (rg_x, g) mX5_isFirstWith [.inr (.inr (0, 0)), .inl (nI i), .inl w] M (kqi Q) := by
  refine kct (by decide) (Nat.le_of_ble_eq_true rfl) (bX5_isFirstWith_0 _ _ M Q (x_begin S r ok (fun M1 a1 a2 a3 => x_rtf i w S r hi (a2.symm.ok ok) (fun M2 b1 b2 b3 => x_wif S r b2 (fun M3 d1 => ?_)))))
  have e : rfst (ffin fno r (rx M2 2)) r = rfst (ffin (flse (nI i) w) r (rx M 0)) r := by
    refine rfst_cg r ok.2.2.2.1 (fun j hj => ?_)
    rw [b3 j hj, ← ffin_cg ok a2.symm hj]
  rw [e]
  have fx := (a1.trans b1).trans d1
  exact ⟨fun z => bX5_isFirstWith_37 _ _ _ ⟨Or.inl rfl, h0 M3 fx z⟩, fun z => bX5_isFirstWith_37 _ _ _ ⟨Or.inr rfl, h1 M3 fx z⟩⟩
theorem pair_luck (h : Inv n Mx Mm) (a1 a2 a3 : Int32) : kPair l g1 g2 mX5_luck mX6_luck [.inl a1, .inl a2, .inl a3] Mx Mm (Inv (n + 1)) := by
  have e1 := h.riders
  refine kct (by decide) (Nat.le_of_ble_eq_true rfl) (bX5_luck_0 a1 a2 a3 Mx _ (x_isRider _ ⟨fun c => bX5_luck_25 _ _ ?_, fun c => x_within _ _ _ ⟨fun c2 => bX5_luck_25 _ _ ?_, fun c2 => x_isZeroOrOne _ ⟨fun c3 => ?_, fun c3 => bX5_luck_25 _ _ ?_⟩⟩⟩))
  · rw [e1] at c
    exact kct (by decide) (Nat.le_of_ble_eq_true rfl) (bX6_luck_0 _ _ _ Mm _ (m_isRider _ ⟨fun _ => bX6_luck_30 _ _ ⟨rfl, h.mono⟩, fun z => absurd c z⟩))
  · rw [e1] at c
    exact kct (by decide) (Nat.le_of_ble_eq_true rfl) (bX6_luck_0 _ _ _ Mm _ (m_isRider _ ⟨fun z => absurd z c, fun _ => m_in _ 0 10 (by decide) (by decide) ⟨fun _ => bX6_luck_30 _ _ ⟨rfl, h.mono⟩, fun z => absurd c2 z⟩⟩))
  · have c' := c
    have c2' := c2
    obtain ⟨S, r, i, ok, hi, hr, rfl⟩ := h.isR c
    obtain ⟨S', r', q, -⟩ := h.1
    rw [e1] at c'
    have h8 := ok.2.1
    obtain ⟨cn, -, hc, rfl⟩ := wth_rg (lo := 0) (hi := 10) (by decide) (by decide) c2
    obtain ⟨b, hb, e5⟩ := ok.2.2.2.2 i hi
    have e5' : Mx.1 11 0 i = nI b := e5
    have eS : Mx.1 1 0 0 = nI S := ok.1
    obtain ⟨m, hm⟩ : ∃ m, S = b + m := ⟨S - b, by omega⟩
    have em : nI S - nI b = nI m := by
      rw [pk_sub hb]
      congr 1
      omega
    let W : Nat → Bool := fun off => decide (rfst (ffin (flse (nI i) (nI off <<< (nI b &&& 31))) r (rx Mx 0)) r = nI i)
    have hA : ∀ N, N ≤ 2 ^ m → lkA W m cn N ≤ 10 ^ m := by
      intro N hN
      have h1 := lkA_mono (w := W) (m := m) (c := cn) (N := N) (2 ^ m - N)
      rw [show N + (2 ^ m - N) = 2 ^ m by omega] at h1
      have h2 := lkA_le (w := W) (m := m) (c := cn) (2 ^ m)
      have h3 := swy_le (m := m) (c := cn) (by omega) hc
      omega
    have hp := p10 (m := m) (by omega)
    have h2m : 2 ^ m ≤ 256 := by
      have : ∀ m : Fin 9, 2 ^ m.1 ≤ 256 := by decide
      exact this ⟨m, by omega⟩
    have hG : 0 < Nat.gcd (lkA W m cn (2 ^ m)) (10 ^ m) := Nat.gcd_pos_of_pos_right _ (by omega)
    have hG2 : Nat.gcd (lkA W m cn (2 ^ m)) (10 ^ m) ≤ 10 ^ m := Nat.le_of_dvd (by omega) (Nat.gcd_dvd_right _ _)
    simp (disch := omega) only [qa_0, qa_1, qa_2, qa_3, qa_4, qa_5, qa_6, qa_7, qa_8, qa_9, qa_10, qa_12, qa_16, qa_20, qa_21, qa_22, qa_23, qa_24, qa_26, qa_27, qa_30, qa_31, qa_32, qa_35, qa_36, qa_40, qa_44, qa_48, qa_49, qa_70, qa_81, qa_90, qa_96, qa_168, qa_217, qa_434, qa_442, qa_446, qa_450, qa_454, qa_455, qa_456, qa_457, qa_458, qa_466, qa_474, qa_478, qb_0, qb_1, qb_2, qb_3, qb_4, qb_5, qb_6, qb_7, qb_8, qb_9, qb_10, qb_12, qb_16, qb_20, qb_21, qb_22, qb_23, qb_24, qb_26, qb_27, qb_30, qb_31, qb_32, qb_35, qb_36, qb_40, qb_44, qb_48, qb_49, qb_70, qb_81, qb_90, qb_96, qb_168, qb_217, qb_434, qb_442, qb_446, qb_450, qb_454, qb_455, qb_456, qb_457, qb_458, qb_466, qb_474, qb_478, qm_0, qm_1, qm_2, qm_3, qm_4, qm_5, qm_6, qm_7, qm_8, qm_9, qm_10, qm_12, qm_16, qm_20, qm_21, qm_22, qm_23, qm_24, qm_26, qm_27, qm_30, qm_31, qm_32, qm_35, qm_36, qm_40, qm_44, qm_48, qm_49, qm_70, qm_81, qm_90, qm_96, qm_168, qm_217, qm_434, qm_442, qm_446, qm_450, qm_454, qm_455, qm_456, qm_457, qm_458, qm_466, qm_474, qm_478, ql_0, ql_1, ql_2, ql_3, ql_4, ql_5, ql_6, ql_7, ql_8, ql_9, ql_10, ql_12, ql_16, ql_20, ql_21, ql_22, ql_23, ql_24, ql_26, ql_27, ql_30, ql_31, ql_32, ql_35, ql_36, ql_40, ql_44, ql_48, ql_49, ql_70, ql_81, ql_90, ql_96, ql_168, ql_217, ql_434, ql_442, ql_446, ql_450, ql_454, ql_455, ql_456, ql_457, ql_458, ql_466, ql_474, ql_478, nI_add, q_cl, q_in, true_and]
    rw [eS, e5', em]
    rintro z7 rfl
    have kx2 : ∀ f N, N + f = 2 ^ m → ∀ M1, xfr Mx M1 → ∀ Q : Int32 → kM → Prop, (∀ M2, xfr Mx M2 → Q (if a3 = 0 then nI (lkA W m cn (2 ^ m)) / nI (Nat.gcd (lkA W m cn (2 ^ m)) (10 ^ m)) else nI (10 ^ m) / nI (Nat.gcd (lkA W m cn (2 ^ m)) (10 ^ m))) M2) → kWP l (rg_x, g1) mX5_luck 78 [(0, .inr (.inr (0, 0))), (1, .inl (nI i)), (2, .inl (nI cn)), (3, .inl a3), (4, .inl (nI m)), (5, .inl (nI (lkA W m cn N))), (6, .inl (nI (10 ^ m))), (7, .inl (nI N))] [] M1 (kqi Q) := by
      intro f
      induction f with
      | zero =>
        intro N hN M1 fx Q hQ
        obtain rfl : N = 2 ^ m := by omega
        refine bX5_luck_78 _ _ _ _ _ _ _ _ _ ?_
        rw [shl1 (by omega)]
        refine ⟨fun _ => x_div _ _ (hA _ (Nat.le_refl _)) hp.2 ?_, fun z => absurd (nI_le (Nat.le_refl _) (by omega)) z⟩
        rintro z3 rfl
        rw [show mxi 1 (nI (Nat.gcd (lkA W m cn (2 ^ m)) (10 ^ m))) = nI (Nat.gcd (lkA W m cn (2 ^ m)) (10 ^ m)) by
          unfold mxi
          by_cases cc : (1 : Int32) < nI (Nat.gcd (lkA W m cn (2 ^ m)) (10 ^ m))
          · rw [if_pos cc]
          · rw [if_neg cc]
            have hn1 : ¬ 1 < Nat.gcd (lkA W m cn (2 ^ m)) (10 ^ m) := fun z => cc ((q_lt (a := 1) (by omega) (by omega)).mpr z)
            rw [show Nat.gcd (lkA W m cn (2 ^ m)) (10 ^ m) = 1 by omega]
            rfl]
        have hne : ¬ nI (Nat.gcd (lkA W m cn (2 ^ m)) (10 ^ m)) = 0 := fun e => by
          have := (q_eq (b := 0) (by omega) (by omega)).mp e
          omega
        have := hQ M1 fx
        refine ⟨fun z => bX5_luck_159 _ _ _ _ ⟨hne, ?_⟩, fun z => bX5_luck_159 _ _ _ _ ⟨hne, ?_⟩⟩
        · rw [if_neg z] at this
          exact this
        · rw [if_pos z] at this
          exact this
      | succ f ih =>
        intro N hN M1 fx Q hQ
        have hlk : lkA W m cn (N + 1) = lkA W m cn N + (if W N = true then wyN N cn m else 0) := rfl
        refine bX5_luck_78 _ _ _ _ _ _ _ _ _ ?_
        rw [shl1 (by omega)]
        refine ⟨fun z => ?_, fun _ => x_waysOf N m cn (by omega) (by omega) hc ⟨fun z => ?_, fun z => ?_⟩⟩
        · rw [q_le (by omega) (by omega)] at z
          omega
        · have hw := wyN_le (off := N) (c := cn) hc m
          have : wyN N cn m = 0 := by
            have := (q_le (b := 0) (by omega) (by omega)).mp z
            omega
          have hlk' : lkA W m cn (N + 1) = lkA W m cn N := by
            rw [hlk, this]
            split <;> rfl
          refine bX5_luck_129 _ _ _ _ _ _ _ _ _ ?_
          rintro z1 rfl
          rw [qa_1, ← hlk']
          exact ih (N + 1) (by omega) M1 fx Q hQ
        · simp (disch := omega) only [qa_0, qa_1, qa_2, qa_3, qa_4, qa_5, qa_6, qa_7, qa_8, qa_9, qa_10, qa_12, qa_16, qa_20, qa_21, qa_22, qa_23, qa_24, qa_26, qa_27, qa_30, qa_31, qa_32, qa_35, qa_36, qa_40, qa_44, qa_48, qa_49, qa_70, qa_81, qa_90, qa_96, qa_168, qa_217, qa_434, qa_442, qa_446, qa_450, qa_454, qa_455, qa_456, qa_457, qa_458, qa_466, qa_474, qa_478, qb_0, qb_1, qb_2, qb_3, qb_4, qb_5, qb_6, qb_7, qb_8, qb_9, qb_10, qb_12, qb_16, qb_20, qb_21, qb_22, qb_23, qb_24, qb_26, qb_27, qb_30, qb_31, qb_32, qb_35, qb_36, qb_40, qb_44, qb_48, qb_49, qb_70, qb_81, qb_90, qb_96, qb_168, qb_217, qb_434, qb_442, qb_446, qb_450, qb_454, qb_455, qb_456, qb_457, qb_458, qb_466, qb_474, qb_478, qm_0, qm_1, qm_2, qm_3, qm_4, qm_5, qm_6, qm_7, qm_8, qm_9, qm_10, qm_12, qm_16, qm_20, qm_21, qm_22, qm_23, qm_24, qm_26, qm_27, qm_30, qm_31, qm_32, qm_35, qm_36, qm_40, qm_44, qm_48, qm_49, qm_70, qm_81, qm_90, qm_96, qm_168, qm_217, qm_434, qm_442, qm_446, qm_450, qm_454, qm_455, qm_456, qm_457, qm_458, qm_466, qm_474, qm_478, ql_0, ql_1, ql_2, ql_3, ql_4, ql_5, ql_6, ql_7, ql_8, ql_9, ql_10, ql_12, ql_16, ql_20, ql_21, ql_22, ql_23, ql_24, ql_26, ql_27, ql_30, ql_31, ql_32, ql_35, ql_36, ql_40, ql_44, ql_48, ql_49, ql_70, ql_81, ql_90, ql_96, ql_168, ql_217, ql_434, ql_442, ql_446, ql_450, ql_454, ql_455, ql_456, ql_457, ql_458, ql_466, ql_474, ql_478, nI_add, q_cl, q_in, true_and]
          rw [show M1.1 11 0 i = nI b from (fx.1 11 0 i (by omega)).trans e5']
          refine x_isFirstWith i _ S r hi (by rw [fx.r0]; exact ok) (fun M2 fx2 hw => ⟨fun z => absurd z (by decide), fun _ => ?_⟩) (fun M2 fx2 hw => ⟨fun _ => ?_, fun z => absurd rfl z⟩)
          · rw [fx.r0] at hw
            rw [if_pos (show W N = true from decide_eq_true hw)] at hlk
            rintro z8 rfl
            refine bX5_luck_129 _ _ _ _ _ _ _ _ _ ?_
            rintro z1 rfl
            rw [qa_1, ← hlk]
            exact ih (N + 1) (by omega) M2 (fx.trans fx2) Q hQ
          · rw [fx.r0] at hw
            rw [if_neg (show ¬ W N = true from fun z => hw (of_decide_eq_true z)), show lkA W m cn N + 0 = lkA W m cn N from rfl] at hlk
            refine bX5_luck_129 _ _ _ _ _ _ _ _ _ ?_
            rintro z1 rfl
            rw [qa_1, ← hlk]
            exact ih (N + 1) (by omega) M2 (fx.trans fx2) Q hQ
    have kx1 : ∀ f k, k + f = m → ∀ Q : Int32 → kM → Prop, kWP l (rg_x, g1) mX5_luck 78 [(0, .inr (.inr (0, 0))), (1, .inl (nI i)), (2, .inl (nI cn)), (3, .inl a3), (4, .inl (nI m)), (5, .inl 0), (6, .inl (nI (10 ^ m))), (7, .inl 0)] [] Mx (kqi Q) → kWP l (rg_x, g1) mX5_luck 55 [(0, .inr (.inr (0, 0))), (1, .inl (nI i)), (2, .inl (nI cn)), (3, .inl a3), (4, .inl (nI m)), (5, .inl 0), (6, .inl (nI (10 ^ k))), (7, .inl (nI k))] [] Mx (kqi Q) := by
      intro f
      induction f with
      | zero =>
        intro k hk Q hQ
        obtain rfl : k = m := by omega
        exact bX5_luck_55 _ _ _ _ _ _ _ _ _ ⟨fun _ => hQ, fun z => absurd (nI_le (Nat.le_refl _) (by omega)) z⟩
      | succ f ih =>
        intro k hk Q hQ
        refine bX5_luck_55 _ _ _ _ _ _ _ _ _ ⟨fun z => ?_, fun _ => ?_⟩
        · rw [q_le (by omega) (by omega)] at z
          omega
        · rintro z1 rfl z2 rfl
          rw [qa_1, show nI (10 ^ k) * 10 = nI (10 ^ (k + 1)) from pk_mul (10 ^ k) 10]
          exact ih (k + 1) (by omega) Q hQ
    refine kx1 m 0 (by omega) _ (kx2 (2 ^ m) 0 (by omega) Mx (xfr.refl _) _ (fun Mx' fx' => ?_))
    refine kct (by decide) (Nat.le_of_ble_eq_true rfl) (bX6_luck_0 _ _ _ Mm _ (m_isRider _ ⟨fun z => absurd z c', fun _ => m_in _ 0 10 (by decide) (by decide) ⟨fun z => absurd z c2', fun _ => m_in _ 0 1 (by decide) (by decide) ⟨fun _ => ?_, fun z => absurd z c3⟩⟩⟩))
    have eSm : Mm.1 1 0 21 = nI S := by
      rw [← h.stages]
      exact ok.1
    have ern : Mm.1 1 0 22 = nI r := by
      rw [← h.riders]
      exact ok.2.2.1
    simp (disch := omega) only [qa_0, qa_1, qa_2, qa_3, qa_4, qa_5, qa_6, qa_7, qa_8, qa_9, qa_10, qa_12, qa_16, qa_20, qa_21, qa_22, qa_23, qa_24, qa_26, qa_27, qa_30, qa_31, qa_32, qa_35, qa_36, qa_40, qa_44, qa_48, qa_49, qa_70, qa_81, qa_90, qa_96, qa_168, qa_217, qa_434, qa_442, qa_446, qa_450, qa_454, qa_455, qa_456, qa_457, qa_458, qa_466, qa_474, qa_478, qb_0, qb_1, qb_2, qb_3, qb_4, qb_5, qb_6, qb_7, qb_8, qb_9, qb_10, qb_12, qb_16, qb_20, qb_21, qb_22, qb_23, qb_24, qb_26, qb_27, qb_30, qb_31, qb_32, qb_35, qb_36, qb_40, qb_44, qb_48, qb_49, qb_70, qb_81, qb_90, qb_96, qb_168, qb_217, qb_434, qb_442, qb_446, qb_450, qb_454, qb_455, qb_456, qb_457, qb_458, qb_466, qb_474, qb_478, qm_0, qm_1, qm_2, qm_3, qm_4, qm_5, qm_6, qm_7, qm_8, qm_9, qm_10, qm_12, qm_16, qm_20, qm_21, qm_22, qm_23, qm_24, qm_26, qm_27, qm_30, qm_31, qm_32, qm_35, qm_36, qm_40, qm_44, qm_48, qm_49, qm_70, qm_81, qm_90, qm_96, qm_168, qm_217, qm_434, qm_442, qm_446, qm_450, qm_454, qm_455, qm_456, qm_457, qm_458, qm_466, qm_474, qm_478, ql_0, ql_1, ql_2, ql_3, ql_4, ql_5, ql_6, ql_7, ql_8, ql_9, ql_10, ql_12, ql_16, ql_20, ql_21, ql_22, ql_23, ql_24, ql_26, ql_27, ql_30, ql_31, ql_32, ql_35, ql_36, ql_40, ql_44, ql_48, ql_49, ql_70, ql_81, ql_90, ql_96, ql_168, ql_217, ql_434, ql_442, ql_446, ql_450, ql_454, ql_455, ql_456, ql_457, ql_458, ql_466, ql_474, ql_478, nI_add, q_cl, q_in, true_and]
    rw [show Mm.1 1 0 (8 + i) = nI b from (rmd_ap (f := 5) (j := i) q (by decide) (by first | (show _ < 4; omega) | (show _ < 8; omega) | exact fln_s (by assumption) (by omega) (by omega) (by omega) | exact fln_r (by assumption) (by omega) (by omega))).symm.trans e5, eSm]
    rintro z7 rfl z8 rfl
    rw [em]
    have km2 : ∀ f N, N + f = 2 ^ m → ∀ M1, mfr Mm M1 → ∀ Q : Int32 → kM → Prop, (∀ M2, mfr Mm M2 → Q (if a3 = 0 then nI (lkA W m cn (2 ^ m)) / nI (Nat.gcd (lkA W m cn (2 ^ m)) (10 ^ m)) else nI (10 ^ m) / nI (Nat.gcd (lkA W m cn (2 ^ m)) (10 ^ m))) M2) → kWP l (rg_m, g2) mX6_luck 87 [(0, .inr (.inr (0, 0))), (1, .inl (nI i)), (2, .inl (nI cn)), (3, .inl a3), (4, .inl (nI b)), (5, .inl (nI m)), (6, .inl (nI (lkA W m cn N))), (7, .inl (nI (10 ^ m))), (8, .inl (nI N))] [] M1 (kqi Q) := by
      intro f
      induction f with
      | zero =>
        intro N hN M1 fm Q hQ
        obtain rfl : N = 2 ^ m := by omega
        refine bX6_luck_87 _ _ _ _ _ _ _ _ _ _ ?_
        rw [shl1 (by omega)]
        have := hA _ (Nat.le_refl (2 ^ m))
        exact ⟨fun _ => m_div _ _ _ _ _ (by omega) (by omega) (Or.inr (by omega)) (hQ M1 fm), fun z => absurd (nI_le (Nat.le_refl _) (by omega)) z⟩
      | succ f ih =>
        intro N hN M1 fm Q hQ
        have hlk : lkA W m cn (N + 1) = lkA W m cn N + (if W N = true then wyN N cn m else 0) := rfl
        refine bX6_luck_87 _ _ _ _ _ _ _ _ _ _ ?_
        rw [shl1 (by omega)]
        refine ⟨fun z => ?_, fun _ => ?_⟩
        · rw [q_le (by omega) (by omega)] at z
          omega
        · have inn : ∀ f k, k + f = m → kWP l (rg_m, g2) mX6_luck 102 [(0, .inr (.inr (0, 0))), (1, .inl (nI i)), (2, .inl (nI cn)), (3, .inl a3), (4, .inl (nI b)), (5, .inl (nI m)), (6, .inl (nI (lkA W m cn N))), (7, .inl (nI (10 ^ m))), (8, .inl (nI N)), (9, .inl (nI (wyN N cn k))), (10, .inl (nI k))] [] M1 (kqi Q) := by
            intro f
            induction f with
            | zero =>
              intro k hk
              obtain rfl : k = m := by omega
              refine bX6_luck_102 _ _ _ _ _ _ _ _ _ _ _ _ ⟨fun _ => m_tries (fun M2 b1 b2 => ?_), fun z => absurd (nI_le (Nat.le_refl _) (by omega)) z⟩
              have b2' : req (rmd M2 434) (rx Mx 0) := b2.trans (fm.r0.trans q.symm)
              refine m_rid _ _ S r (b2'.symm.ok ok) (fun M4 d1 d2 => ?_)
              have fm4 := (fm.trans b1).trans d1
              refine m_firstTried r hr ((fm4.1 1 0 22 (by omega)).trans ern) ?_
              have er : rfst (rmd M4 434) r = rfst (ffin (flse (nI i) (nI N <<< (nI b &&& 31))) r (rx Mx 0)) r := by
                refine rfst_cg r hr (fun j hj => ?_)
                rw [d2 j hj, ← ffin_cg ok b2'.symm hj]
              rw [er]
              refine ⟨fun z => bX6_luck_168 _ _ _ _ _ _ _ _ _ _ _ ?_, fun z => bX6_luck_168 _ _ _ _ _ _ _ _ _ _ _ ?_⟩
              · rw [if_neg (show ¬ W N = true from fun w => z (of_decide_eq_true w)), show lkA W k cn N + 0 = lkA W k cn N from rfl] at hlk
                rintro z1 rfl z2 rfl
                rw [Int32.add_zero, qa_1, ← hlk]
                exact ih (N + 1) (by omega) M4 fm4 Q hQ
              · rw [if_pos (show W N = true from decide_eq_true z)] at hlk
                rintro z1 rfl z2 rfl
                rw [nI_add, qa_1, ← hlk]
                exact ih (N + 1) (by omega) M4 fm4 Q hQ
            | succ f ihk =>
              intro k hk
              have nx := ihk (k + 1) (by omega)
              have hw : wyN N cn (k + 1) = wyN N cn k * (if N / 2 ^ k % 2 = 0 then 10 - cn else cn) := rfl
              rw [hw] at nx
              refine bX6_luck_102 _ _ _ _ _ _ _ _ _ _ _ _ ⟨fun z => ?_, fun _ => m_has _ _ ?_⟩
              · rw [q_le (by omega) (by omega)] at z
                omega
              · rw [hs_bit (by omega) (by omega)]
                by_cases cc : N / 2 ^ k % 2 = 0
                · rw [if_pos cc] at nx ⊢
                  refine ⟨fun _ => bX6_luck_129 _ _ _ _ _ _ _ _ _ _ _ _ _ ?_, fun z => absurd rfl z⟩
                  rw [show (10 : Int32) - nI cn = nI (10 - cn) from pk_sub (a := 10) hc, pk_mul, qa_1]
                  rintro z1 rfl z2 rfl
                  exact nx
                · rw [if_neg cc] at nx ⊢
                  refine ⟨fun z => absurd z (by decide), fun _ => bX6_luck_129 _ _ _ _ _ _ _ _ _ _ _ _ _ ?_⟩
                  rw [pk_mul, qa_1]
                  rintro z1 rfl z2 rfl
                  exact nx
          exact inn m 0 (by omega)
    have km1 : ∀ f k, k + f = m → ∀ Q : Int32 → kM → Prop, kWP l (rg_m, g2) mX6_luck 87 [(0, .inr (.inr (0, 0))), (1, .inl (nI i)), (2, .inl (nI cn)), (3, .inl a3), (4, .inl (nI b)), (5, .inl (nI m)), (6, .inl 0), (7, .inl (nI (10 ^ m))), (8, .inl 0)] [] Mm (kqi Q) → kWP l (rg_m, g2) mX6_luck 64 [(0, .inr (.inr (0, 0))), (1, .inl (nI i)), (2, .inl (nI cn)), (3, .inl a3), (4, .inl (nI b)), (5, .inl (nI m)), (6, .inl 0), (7, .inl (nI (10 ^ k))), (8, .inl (nI k))] [] Mm (kqi Q) := by
      intro f
      induction f with
      | zero =>
        intro k hk Q hQ
        obtain rfl : k = m := by omega
        exact bX6_luck_64 _ _ _ _ _ _ _ _ _ _ ⟨fun _ => hQ, fun z => absurd (nI_le (Nat.le_refl _) (by omega)) z⟩
      | succ f ih =>
        intro k hk Q hQ
        refine bX6_luck_64 _ _ _ _ _ _ _ _ _ _ ⟨fun z => ?_, fun _ => ?_⟩
        · rw [q_le (by omega) (by omega)] at z
          omega
        · rintro z1 rfl z2 rfl
          rw [qa_1, show nI (10 ^ k) * 10 = nI (10 ^ (k + 1)) from pk_mul (10 ^ k) 10]
          exact ih (k + 1) (by omega) Q hQ
    exact km1 m 0 (by omega) _ (km2 (2 ^ m) 0 (by omega) Mm (mfr.refl _) _ (fun Mm' fm' => ⟨rfl, h.next fx'.same fm'.same⟩))
  · rw [e1] at c
    exact kct (by decide) (Nat.le_of_ble_eq_true rfl) (bX6_luck_0 _ _ _ Mm _ (m_isRider _ ⟨fun z => absurd z c, fun _ => m_in _ 0 10 (by decide) (by decide) ⟨fun z => absurd z c2, fun _ => m_in _ 0 1 (by decide) (by decide) ⟨fun z => absurd c3 z, fun _ => bX6_luck_30 _ _ ⟨rfl, h.mono⟩⟩⟩⟩))
end KLU
