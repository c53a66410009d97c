/-! ===== best ===== -/
def pcn (x : Nat) : Nat := x % 2 + x / 2 % 2 + x / 4 % 2 + x / 8 % 2 + x / 16 % 2 + x / 32 % 2 + x / 64 % 2 + x / 128 % 2
def jbc (x0 : Int32) : Int32 :=
  let z1 := x0 - (((x0.toUInt32 >>> ((1 : Int32).toUInt32 &&& Int32.toUInt32 31)).toInt32) &&& 1431655765)
  let z2 := (z1 &&& 858993459) + (((z1.toUInt32 >>> ((2 : Int32).toUInt32 &&& Int32.toUInt32 31)).toInt32) &&& 858993459)
  let z3 := (z2 + ((z2.toUInt32 >>> ((4 : Int32).toUInt32 &&& Int32.toUInt32 31)).toInt32)) &&& 252645135
  let z4 := z3 + ((z3.toUInt32 >>> ((8 : Int32).toUInt32 &&& Int32.toUInt32 31)).toInt32)
  let z5 := z4 + ((z4.toUInt32 >>> ((16 : Int32).toUInt32 &&& Int32.toUInt32 31)).toInt32)
  z5 &&& 63
theorem jbc_pcn {x : Nat} (h : x < 256) : jbc (nI x) = nI (pcn x) := by
  have : ∀ x : Fin 256, jbc (nI x.1) = nI (pcn x.1) := by decide +kernel
  exact this ⟨x, h⟩
theorem pcn_le {x : Nat} : pcn x ≤ 8 := by
  unfold pcn
  omega
theorem pcn_low {x b : Nat} (hx : x < 256) (hb : b ≤ 8) : pcn (x / 2 ^ b * 2 ^ b) ≤ pcn x := by
  have : ∀ x : Fin 256, ∀ b : Fin 9, pcn (x.1 / 2 ^ b.1 * 2 ^ b.1) ≤ pcn x.1 := by decide +kernel
  exact this ⟨x, hx⟩ ⟨b, by omega⟩
theorem bit_low {x b s : Nat} (hx : x < 256) (hb : b ≤ 8) (hs : s < 8) (h : b ≤ s) : (x / 2 ^ b * 2 ^ b) / 2 ^ s % 2 = x / 2 ^ s % 2 := by
  have : ∀ x : Fin 256, ∀ b : Fin 9, ∀ s : Fin 8, b.1 ≤ s.1 → (x.1 / 2 ^ b.1 * 2 ^ b.1) / 2 ^ s.1 % 2 = x.1 / 2 ^ s.1 % 2 := by decide +kernel
  exact this ⟨x, hx⟩ ⟨b, by omega⟩ ⟨s, hs⟩ h
theorem rwho_buy {R : Rc} {i : Nat} {v : Int32} : ∀ n, rwho (rup R 8 i v) n = rwho R n
  | 0 => rfl
  | n + 1 => by
    have ih := rwho_buy (R := R) (i := i) (v := v) n
    unfold rwho
    rw [ih, rup_ne (by omega), rup_ne (by omega), rup_ne (by omega), rup_ne (by omega)]
theorem rride_buy {R : Rc} {i a : Nat} {v x : Int32} (h : a ≠ i ∨ hs v (R 5 i) = hs (R 8 i) (R 5 i)) : rride (rup R 8 i v) a x = rup (rride R a x) 8 i v := by
  have e : ∀ f j, f ≠ 8 → rup R 8 i v f j = R f j := fun f j hf => rup_ne (by omega)
  have eb : rbest (rup R 8 i v) a = rbest R a := by
    unfold rbest
    rw [e 5 a (by omega), e 3 _ (by omega), e 7 a (by omega), e 0 2 (by omega)]
    by_cases ha : a = i
    · subst ha
      rw [rup_eq, h.resolve_left (fun z => z rfl)]
    · rw [rup_ne (by omega)]
  have ec : rc1 (rup R 8 i v) a = rc1 R a := by
    unfold rc1
    rw [eb, e 7 a (by omega), e 0 2 (by omega)]
  have et : rtp (rup R 8 i v) a = rtp R a := by
    unfold rtp
    rw [ec, e 5 a (by omega), e 2 _ (by omega)]
  have ew : rwt (rup R 8 i v) a = rwt R a := by
    unfold rwt
    rw [ec, e 5 a (by omega), e 2 _ (by omega)]
  have ek : rtk (rup R 8 i v) a = rtk R a := by
    unfold rtk
    rw [eb, e 4 a (by omega), e 5 a (by omega), e 1 _ (by omega)]
  unfold rride
  rw [eb, ec, et, ew, ek, e 5 a (by omega), e 3 _ (by omega), e 6 a (by omega)]
  rw [rup_comm (f := 8) (f' := 3) (by omega), rup_comm (f := 8) (f' := 7) (by omega), rup_comm (f := 8) (f' := 6) (by omega), rup_comm (f := 8) (f' := 5) (by omega)]
theorem fstp_buy {p : fPw} {S n i : Nat} {v : Int32} {R : Rc} {C : Nat → Int32} (ok : rok R S n) (h : rwho R n = nI i → hs v (R 5 i) = hs (R 8 i) (R 5 i)) : fstp p n (rup R 8 i v, C) = (rup (fstp p n (R, C)).1 8 i v, (fstp p n (R, C)).2) := by
  rcases fcase ok with hw | ⟨a, s, ha, ha4, hw, hs, hs8, e5⟩
  · rw [fstp_fix (X := (R, C)) hw, fstp_fix (X := (rup R 8 i v, C)) (by show rwho (rup R 8 i v) n = -4; rw [rwho_buy]; exact hw)]
  · rw [fstp_go (X := (R, C)) (by omega) hw, fstp_go (a := a) (X := (rup R 8 i v, C)) (by omega) (by show rwho (rup R 8 i v) n = nI a; rw [rwho_buy]; exact hw)]
    unfold fone
    have e : rup R 8 i v 5 a = R 5 a := rup_ne (by omega)
    have hr : rride (rup R 8 i v) a (p a (R 5 a)) = rup (rride R a (p a (R 5 a))) 8 i v := rride_buy (by
      by_cases hai : a = i
      · subst hai
        exact Or.inr (h hw)
      · exact Or.inl hai)
    show (rride (rup R 8 i v) a (p a (rup R 8 i v 5 a)), fcup C (9 * a + ((rup R 8 i v 5 a).toNatClampNeg + 1)) (rride (rup R 8 i v) a (p a (rup R 8 i v 5 a)) 6 a)) = (rup (rride R a (p a (R 5 a))) 8 i v, fcup C (9 * a + ((R 5 a).toNatClampNeg + 1)) (rride R a (p a (R 5 a)) 6 a))
    rw [e, hr, rup_ne (f := 8) (a := 6) (by omega)]
theorem frun_buy {p : fPw} {S n i b : Nat} {v w : Int32} (hi : i < n) (hv : ∀ s, b ≤ s → s < 8 → hs v (nI s) = hs w (nI s)) : ∀ (k : Nat) (R : Rc) (C : Nat → Int32), rok R S n → R 8 i = w → (∃ c, b ≤ c ∧ c ≤ 8 ∧ R 5 i = nI c) → frun p n k (rup R 8 i v, C) = (rup (frun p n k (R, C)).1 8 i v, (frun p n k (R, C)).2)
  | 0, R, C, _, _, _ => rfl
  | k + 1, R, C, ok, e8, ⟨c, c1, c2, e5⟩ => by
    show frun p n k (fstp p n (rup R 8 i v, C)) = (rup (frun p n k (fstp p n (R, C))).1 8 i v, (frun p n k (fstp p n (R, C))).2)
    have hS := ok.2.1
    rw [fstp_buy ok (fun hw => by
      rw [e5, e8]
      refine hv c c1 ?_
      rcases rwho_cases R n with q | ⟨a, q1, q2, q3⟩
      · rw [q] at hw
        have := ok.2.2.2.1
        exact absurd hw.symm (nI_neg4 (by omega))
      · have h4 := ok.2.2.2.1
        have : a = i := (q_eq (by omega) (by omega)).mp (q2.symm.trans hw)
        subst this
        rw [e5, ok.1, q_lt (by omega) (by omega)] at q3
        omega)]
    have ok1 := fstp_ok (p := p) (X := (R, C)) ok
    refine frun_buy hi hv k (fstp p n (R, C)).1 (fstp p n (R, C)).2 ok1 ?_ ?_
    · rcases fcase ok with hw | ⟨a, s, ha, ha4, hw, hs, hs8, e5a⟩
      · rw [fstp_fix (X := (R, C)) hw]
        exact e8
      · rw [fstp_go (X := (R, C)) (by omega) hw]
        show rride R a (p a (R 5 a)) 8 i = w
        rw [rride_ne (by omega) (by omega) (by omega) (by omega)]
        exact e8
    · rcases fcase ok with hw | ⟨a, s, ha, ha4, hw, hs, hs8, e5a⟩
      · rw [fstp_fix (X := (R, C)) hw]
        exact ⟨c, c1, c2, e5⟩
      · rw [fstp_go (X := (R, C)) (by omega) hw]
        show ∃ c, b ≤ c ∧ c ≤ 8 ∧ rride R a (p a (R 5 a)) 5 i = nI c
        by_cases hai : i = a
        · subst hai
          have : c = s := (q_eq (by omega) (by omega)).mp (e5.symm.trans e5a)
          rw [rride_5, e5, qa_1]
          exact ⟨c + 1, by omega, by omega, rfl⟩
        · rw [rride_ne (by omega) (by omega) (by omega) (by omega)]
          exact ⟨c, c1, c2, e5⟩
def isumN (f : Nat → Nat) : Nat → Nat
  | 0 => 0
  | n + 1 => f 0 + isumN (fun j => f (j + 1)) n
def bst (tm : Nat → Nat) (st : Nat × Nat) (x : Nat) : Nat × Nat := if tm x < st.2 ∨ tm x = st.2 ∧ pcn x < pcn st.1 then (x, tm x) else st
def bsM (tm : Nat → Nat) : Nat → Nat × Nat
  | 0 => (0, 1000000000)
  | N + 1 => bst tm (bsM tm N) N
def bsC (tm : Nat → Nat) (b : Nat) : Nat → Nat × Nat
  | 0 => (0, tm 0)
  | q + 1 => bst tm (bsC tm b q) ((q + 1) * 2 ^ b)
theorem bst_le {tm : Nat → Nat} {st : Nat × Nat} {x : Nat} : (bst tm st x).2 ≤ tm x ∧ ((bst tm st x).2 = tm x → pcn (bst tm st x).1 ≤ pcn x) := by
  unfold bst
  by_cases c : tm x < st.2 ∨ tm x = st.2 ∧ pcn x < pcn st.1
  · rw [if_pos c]
    exact ⟨Nat.le_refl _, fun _ => Nat.le_refl _⟩
  · rw [if_neg c]
    have c1 : ¬ tm x < st.2 := fun z => c (Or.inl z)
    refine ⟨by omega, fun e => ?_⟩
    have c2 : ¬ pcn x < pcn st.1 := fun z => c (Or.inr ⟨e.symm, z⟩)
    omega
/-- sets with a stage behind change nothing -/
theorem bs_eq {tm : Nat → Nat} {b S : Nat} (hb : b ≤ S) (hS : S ≤ 8) (h0 : tm 0 < 1000000000) (hl : ∀ x, x < 2 ^ S → tm x = tm (x / 2 ^ b * 2 ^ b)) (hp : ∀ x, x < 2 ^ S → pcn (x / 2 ^ b * 2 ^ b) ≤ pcn x) : ∀ q, q < 2 ^ (S - b) → ∀ low, low < 2 ^ b → bsM tm (q * 2 ^ b + low + 1) = bsC tm b q := by
  have hpow : 2 ^ (S - b) * 2 ^ b = 2 ^ S := by
    rw [← Nat.pow_add, Nat.sub_add_cancel hb]
  have hb0 : 0 < 2 ^ b := Nat.pow_pos (by decide)
  have low : ∀ q, q < 2 ^ (S - b) → (bsC tm b q).2 ≤ tm (q * 2 ^ b) → ((bsC tm b q).2 = tm (q * 2 ^ b) → pcn (bsC tm b q).1 ≤ pcn (q * 2 ^ b)) → bsM tm (q * 2 ^ b + 1) = bsC tm b q → ∀ low, low < 2 ^ b → bsM tm (q * 2 ^ b + low + 1) = bsC tm b q := by
    intro q hq l1 l2 e low
    induction low with
    | zero => exact fun _ => e
    | succ low ih =>
      intro hlow
      show bst tm (bsM tm (q * 2 ^ b + low + 1)) (q * 2 ^ b + low + 1) = _
      rw [ih (by omega)]
      have hx : q * 2 ^ b + low + 1 < 2 ^ S := by
        have := Nat.mul_le_mul (show q + 1 ≤ 2 ^ (S - b) by omega) (Nat.le_refl (2 ^ b))
        rw [Nat.add_mul, hpow] at this
        omega
      have hd : (q * 2 ^ b + low + 1) / 2 ^ b = q := by
        rw [show q * 2 ^ b + low + 1 = (low + 1) + 2 ^ b * q by rw [Nat.mul_comm]; omega, Nat.add_mul_div_left _ _ hb0, Nat.div_eq_of_lt hlow, Nat.zero_add]
      have e1 := hl _ hx
      have e2 := hp _ hx
      rw [hd] at e1 e2
      unfold bst
      refine if_neg (fun z => ?_)
      rw [e1] at z
      rcases z with z | ⟨z1, z2⟩
      · omega
      · have := l2 z1.symm
        omega
  intro q
  induction q with
  | zero =>
    intro hq
    have e : bsM tm (0 * 2 ^ b + 1) = bsC tm b 0 := by
      rw [Nat.zero_mul]
      show bst tm (0, 1000000000) 0 = (0, tm 0)
      unfold bst
      exact if_pos (Or.inl h0)
    refine low 0 hq ?_ ?_ e
    · rw [Nat.zero_mul]
      exact Nat.le_refl _
    · rw [Nat.zero_mul]
      exact fun _ => Nat.le_refl _
  | succ q ih =>
    intro hq
    have e : bsM tm ((q + 1) * 2 ^ b + 1) = bsC tm b (q + 1) := by
      show bst tm (bsM tm ((q + 1) * 2 ^ b)) ((q + 1) * 2 ^ b) = bst tm (bsC tm b q) ((q + 1) * 2 ^ b)
      have := ih (by omega) (2 ^ b - 1) (by omega)
      rw [show q * 2 ^ b + (2 ^ b - 1) + 1 = (q + 1) * 2 ^ b by rw [Nat.add_mul]; omega] at this
      rw [this]
    exact low (q + 1) hq bst_le.1 bst_le.2 e
theorem bsC_tm {tm : Nat → Nat} {b : Nat} : ∀ q, (bsC tm b q).2 = tm (bsC tm b q).1 ∧ ((bsC tm b q).1 ≤ q * 2 ^ b)
  | 0 => ⟨rfl, Nat.zero_le _⟩
  | q + 1 => by
    have ih := bsC_tm (tm := tm) (b := b) q
    have : q * 2 ^ b ≤ (q + 1) * 2 ^ b := Nat.mul_le_mul (by omega) (Nat.le_refl _)
    show (bst tm (bsC tm b q) ((q + 1) * 2 ^ b)).2 = _ ∧ (bst tm (bsC tm b q) ((q + 1) * 2 ^ b)).1 ≤ _
    show _ = tm (bst tm (bsC tm b q) ((q + 1) * 2 ^ b)).1 ∧ _
    unfold bst
    split
    · exact ⟨rfl, Nat.le_refl _⟩
    · exact ⟨ih.1, by omega⟩
section KBE
variable {l : Launch} {g g1 g2 : va_G × (Nat → ClassId) × (Nat → Nat → Nat)} {M Mx Mm : kM} {n : Nat} {Q : Int32 → kM → Prop} {Qv : kM → Prop}
theorem x_bitCount (x : Nat) (hx : x < 256) (h : Q (nI (pcn x)) M) : kCT l (rg_x, g) mJ6_bitCount_0f7a4 [.inl (nI x)] M (kqi Q) := by
  refine kct (by decide) (Nat.le_of_ble_eq_true rfl) (bJ6_bitCount_0f7a4_0 _ M Q ?_)
  rintro z1 rfl z2 rfl z3 rfl z4 rfl z5 rfl
  rw [← jbc_pcn hx] at h
  exact h
theorem m_ones (x : Nat) (hx : x < 256) (h : Q (nI (pcn x)) M) : kCT l (rg_m, g) mX6_ones [.inl (nI x)] M (kqi Q) := by
  refine kct (by decide) (Nat.le_of_ble_eq_true rfl) (bX6_ones_0 _ M Q ?_)
  have key : ∀ f k a, k + f = 8 → (Q (nI (a + isumN (fun j => x / 2 ^ (k + j) % 2) f)) M) → kWP l (rg_m, g) mX6_ones 4 [(0, .inl (nI x)), (1, .inl (nI a)), (2, .inl (nI k))] [] M (kqi Q) := by
    intro f
    induction f with
    | zero =>
      intro k a hk hQ
      exact bX6_ones_4 _ _ _ _ _ ⟨fun _ => hQ, fun z => absurd ((q_le (a := 8) (by omega) (by omega)).mpr (by omega)) z⟩
    | succ f ih =>
      intro k a hk hQ
      refine bX6_ones_4 _ _ _ _ _ ⟨fun z => ?_, fun _ => ?_⟩
      · rw [show (8 : Int32) = nI 8 from rfl, q_le (by omega) (by omega)] at z
        omega
      · have e1 : nI x >>> (nI k &&& 31) = nI (x / 2 ^ k) := pk_shrN (by omega) _ k (smod8 (by omega))
        have hlt : x / 2 ^ k ≤ x := Nat.div_le_self _ _
        have e2 : nI (x / 2 ^ k) &&& 1 = nI (x / 2 ^ k % 2 ^ 1) := pk_andN (by omega) 1 (by decide)
        rw [e1, e2, nI_add, qa_1]
        rintro z1 rfl z2 rfl
        refine ih (k + 1) _ (by omega) ?_
        have : a + isumN (fun j => x / 2 ^ (k + j) % 2) (f + 1) = a + x / 2 ^ k % 2 ^ 1 + isumN (fun j => x / 2 ^ (k + 1 + j) % 2) f := by
          show a + (x / 2 ^ k % 2 + isumN (fun j => x / 2 ^ (k + (j + 1)) % 2) f) = _
          have : (fun j => x / 2 ^ (k + (j + 1)) % 2) = (fun j => x / 2 ^ (k + 1 + j) % 2) := by
            funext j
            rw [show k + (j + 1) = k + 1 + j by omega]
          rw [this]
          omega
        rw [← this]
        exact hQ
  refine key 8 0 0 (by omega) ?_
  have : 0 + isumN (fun j => x / 2 ^ (0 + j) % 2) 8 = pcn x := by
    have : ∀ x : Fin 256, 0 + isumN (fun j => x.1 / 2 ^ (0 + j) % 2) 8 = pcn x.1 := by decide +kernel
    exact this ⟨x, hx⟩
  rw [this]
  exact h
end KBE
