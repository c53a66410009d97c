/-! ===== all ride on ===== -/
abbrev fSt : Type := Rc × (Nat → Int32)
abbrev fPw : Type := Nat → Int32 → Int32
def fcup (C : Nat → Int32) (j : Nat) (v : Int32) : Nat → Int32 := fun i => if i = j then v else C i
theorem fcup_eq {C : Nat → Int32} {j : Nat} {v : Int32} : fcup C j v j = v := if_pos rfl
theorem fcup_ne {C : Nat → Int32} {j i : Nat} {v : Int32} (h : i ≠ j) : fcup C j v i = C i := if_neg h
theorem ku_row {M : kM} {c k j : Nat} {v : Int32} : (ku M c k j v).1 c k = fcup (M.1 c k) j v := by
  funext d
  unfold fcup
  by_cases e : d = j
  · subst e
    rw [if_pos rfl, ku_eq]
  · rw [if_neg e, ku_ne (by omega)]
/-- what a wheel off adds -/
def flse (one off : Int32) : fPw := fun a s => if nI a = one ∧ ¬ hs off s = 0 then 30 else 0
def fone (p : fPw) (a : Nat) (X : fSt) : fSt := (rride X.1 a (p a (X.1 5 a)), fcup X.2 (9 * a + ((X.1 5 a).toNatClampNeg + 1)) (rride X.1 a (p a (X.1 5 a)) 6 a))
def fstp (p : fPw) (n : Nat) (X : fSt) : fSt := if rwho X.1 n = -4 then X else fone p (rwho X.1 n).toNatClampNeg X
def frun (p : fPw) (n : Nat) : Nat → fSt → fSt
  | 0, X => X
  | k + 1, X => frun p n k (fstp p n X)
theorem frun_add {p : fPw} {n : Nat} : ∀ (k j : Nat) (X : fSt), frun p n (k + j) X = frun p n j (frun p n k X)
  | 0, j, X => by rw [Nat.zero_add]; rfl
  | k + 1, j, X => by
    rw [show k + 1 + j = (k + j) + 1 by omega]
    exact frun_add k j (fstp p n X)
theorem fstp_fix {p : fPw} {n : Nat} {X : fSt} (h : rwho X.1 n = -4) : fstp p n X = X := if_pos h
theorem frun_fix {p : fPw} {n : Nat} {X : fSt} (h : rwho X.1 n = -4) : ∀ k, frun p n k X = X
  | 0 => rfl
  | k + 1 => by
    show frun p n k (fstp p n X) = X
    rw [fstp_fix h]
    exact frun_fix h k
theorem fstp_go {p : fPw} {n a : Nat} {X : fSt} (ha : a < 2147483648) (h : rwho X.1 n = nI a) : fstp p n X = fone p a X := by
  unfold fstp
  rw [if_neg (by rw [h]; exact nI_neg4 ha), h, q_cl ha]
/-- one rides, or all are there -/
theorem fcase {S n : Nat} {R : Rc} (ok : rok R S n) : rwho R n = -4 ∨ ∃ a s, a < n ∧ a < 4 ∧ rwho R n = nI a ∧ s < S ∧ s < 8 ∧ R 5 a = nI s := by
  have h8 := ok.2.1
  have h4 := ok.2.2.2.1
  rcases rwho_cases R n with hw | ⟨a, ha, hw, hb⟩
  · exact Or.inl hw
  · obtain ⟨s, hs, e5⟩ := rwho_s ok hw ha hb
    exact Or.inr ⟨a, s, ha, by omega, hw, hs, by omega, e5⟩
theorem fstp_ok {p : fPw} {S n : Nat} {X : fSt} (ok : rok X.1 S n) : rok (fstp p n X).1 S n := by
  rcases fcase ok with hw | ⟨a, s, ha, ha4, hw, hs, hs8, e5⟩
  · rw [fstp_fix hw]
    exact ok
  · rw [fstp_go (by omega) hw]
    exact rride_ok ok e5 hs
theorem frun_ok {p : fPw} {S n : Nat} : ∀ (k : Nat) (X : fSt), rok X.1 S n → rok (frun p n k X).1 S n
  | 0, _, ok => ok
  | k + 1, X, ok => frun_ok k (fstp p n X) (fstp_ok ok)
def frem (R : Rc) (S : Nat) : Nat → Nat
  | 0 => 0
  | r + 1 => frem R S r + (S - (R 5 r).toNatClampNeg)
theorem frem_le {R : Rc} {S : Nat} : ∀ n, frem R S n ≤ S * n
  | 0 => Nat.zero_le _
  | n + 1 => by
    have := frem_le (R := R) (S := S) n
    unfold frem
    rw [Nat.mul_succ]
    omega
theorem frem_32 {R : Rc} {S n : Nat} (ok : rok R S n) : frem R S n ≤ 32 := by
  have h1 := frem_le (R := R) (S := S) n
  have h2 := Nat.mul_le_mul ok.2.1 ok.2.2.2.1
  omega
theorem frem_stp {R : Rc} {S a s : Nat} {x : Int32} (e5 : R 5 a = nI s) (hs : s < S) (hS : S ≤ 8) : ∀ n, (n ≤ a → frem (rride R a x) S n = frem R S n) ∧ (a < n → frem (rride R a x) S n + 1 = frem R S n)
  | 0 => ⟨fun _ => rfl, fun h => by omega⟩
  | n + 1 => by
    have ih := frem_stp (R := R) (x := x) e5 hs hS n
    unfold frem
    refine ⟨fun h => ?_, fun h => ?_⟩
    · rw [ih.1 (by omega), rride_ne (by omega) (by omega) (by omega) (by omega)]
    · by_cases e : n = a
      · subst e
        rw [ih.1 (Nat.le_refl _), rride_5, e5, qa_1, q_cl (by omega), q_cl (by omega)]
        omega
      · rw [rride_ne (by omega) (by omega) (by omega) (by omega)]
        have := ih.2 (by omega)
        omega
/-- nothing left to ride: all are there -/
theorem frem_0 {R : Rc} {S n : Nat} (ok : rok R S n) (h : frem R S n = 0) : rwho R n = -4 := by
  rcases fcase ok with hw | ⟨a, s, ha, ha4, hw, hs, hs8, e5⟩
  · exact hw
  · have := (frem_stp (R := R) (x := 0) e5 hs ok.2.1 n).2 ha
    omega
theorem frun_end {p : fPw} {S n : Nat} : ∀ (k : Nat) (X : fSt), rok X.1 S n → frem X.1 S n ≤ k → rwho (frun p n k X).1 n = -4
  | 0, X, ok, h => frem_0 (R := X.1) ok (by omega)
  | k + 1, X, ok, h => by
    show rwho (frun p n k (fstp p n X)).1 n = -4
    rcases fcase ok with hw | ⟨a, s, ha, ha4, hw, hs, hs8, e5⟩
    · rw [fstp_fix hw, frun_fix hw]
      exact hw
    · refine frun_end k _ (fstp_ok ok) ?_
      have := (frem_stp (R := X.1) (x := p a (X.1 5 a)) e5 hs ok.2.1 n).2 ha
      rw [fstp_go (by omega) hw]
      show frem (rride X.1 a (p a (X.1 5 a))) S n ≤ k
      omega
/-- one that is there stays as he is -/
def fsm (i : Nat) (X Y : fSt) : Prop := Y.1 0 0 = X.1 0 0 ∧ Y.1 5 i = X.1 5 i ∧ Y.1 6 i = X.1 6 i ∧ Y.1 7 i = X.1 7 i ∧ ∀ s, s ≤ 8 → Y.2 (9 * i + s) = X.2 (9 * i + s)
theorem fsm.refl (i : Nat) (X : fSt) : fsm i X X := ⟨rfl, rfl, rfl, rfl, fun _ _ => rfl⟩
theorem fsm.trans {i : Nat} {X Y Z : fSt} (h : fsm i X Y) (h2 : fsm i Y Z) : fsm i X Z := ⟨h2.1.trans h.1, h2.2.1.trans h.2.1, h2.2.2.1.trans h.2.2.1, h2.2.2.2.1.trans h.2.2.2.1, fun s hs => (h2.2.2.2.2 s hs).trans (h.2.2.2.2 s hs)⟩
theorem fstp_there {p : fPw} {S n i : Nat} {X : fSt} (ok : rok X.1 S n) (th : ¬ X.1 5 i < X.1 0 0) : fsm i X (fstp p n X) := by
  rcases fcase ok with hw | ⟨a, s, ha, ha4, hw, hs, hs8, e5⟩
  · rw [fstp_fix hw]
    exact fsm.refl i X
  · have hS := ok.2.1
    have hia : i ≠ a := by
      rintro rfl
      rw [e5, ok.1, q_lt (by omega) (by omega)] at th
      exact th hs
    rw [fstp_go (by omega) hw]
    have f0 : rride X.1 a (p a (X.1 5 a)) 0 0 = X.1 0 0 := rride_ne (by omega) (by omega) (by omega) (by omega)
    have f5 : rride X.1 a (p a (X.1 5 a)) 5 i = X.1 5 i := rride_ne (by omega) (by omega) (by omega) (by omega)
    have f6 : rride X.1 a (p a (X.1 5 a)) 6 i = X.1 6 i := rride_ne (by omega) (by omega) (by omega) (by omega)
    have f7 : rride X.1 a (p a (X.1 5 a)) 7 i = X.1 7 i := rride_ne (by omega) (by omega) (by omega) (by omega)
    refine ⟨f0, f5, f6, f7, fun t ht => fcup_ne ?_⟩
    rw [e5, q_cl (by omega)]
    omega
theorem frun_there {p : fPw} {S n i : Nat} : ∀ (k : Nat) (X : fSt), rok X.1 S n → ¬ X.1 5 i < X.1 0 0 → fsm i X (frun p n k X)
  | 0, X, _, _ => fsm.refl i X
  | k + 1, X, ok, th => by
    have h1 := fstp_there (p := p) ok th
    exact h1.trans (frun_there k (fstp p n X) (fstp_ok ok) (by rw [h1.2.1, h1.1]; exact th))
/-- whose wheels are off counts no more when he is there -/
theorem frun_pw {p p' : fPw} {S n i : Nat} (hp : ∀ a s, a ≠ i → p a s = p' a s) : ∀ (k : Nat) (X : fSt), rok X.1 S n → ¬ X.1 5 i < X.1 0 0 → frun p n k X = frun p' n k X
  | 0, _, _, _ => rfl
  | k + 1, X, ok, th => by
    show frun p n k (fstp p n X) = frun p' n k (fstp p' n X)
    have e : fstp p n X = fstp p' n X := by
      rcases fcase ok with hw | ⟨a, s, ha, ha4, hw, hs, hs8, e5⟩
      · rw [fstp_fix hw, fstp_fix hw]
      · have hS := ok.2.1
        have hia : a ≠ i := by
          rintro rfl
          rw [e5, ok.1, q_lt (by omega) (by omega)] at th
          exact th hs
        rw [fstp_go (by omega) hw, fstp_go (by omega) hw]
        unfold fone
        rw [hp a _ hia]
    rw [e]
    have h1 := fstp_there (p := p') ok th
    exact frun_pw hp k (fstp p' n X) (fstp_ok ok) (by rw [h1.2.1, h1.1]; exact th)
theorem flse_0 {one : Int32} : flse one 0 = fun _ _ => 0 := by
  funext a s
  unfold flse
  refine if_neg (fun z => z.2 ?_)
  unfold hs
  have : (0 : Int32) >>> (s &&& 31) = 0 := Int32.zero_shiftRight
  rw [this]
  exact if_pos rfl
theorem flse_ne {one off : Int32} {i : Nat} (hi : i < 4) (e : one = nI i) : ∀ a s, a ≠ i → a < 4 → flse one off a s = 0 := by
  intro a s ha h4
  unfold flse
  refine if_neg (fun z => ha ?_)
  rw [e] at z
  exact (q_eq (by omega) (by omega)).mp z.1
/-- alike, and what was noted since is alike -/
def fsim (n : Nat) (b : Nat → Nat) (X Y : fSt) : Prop := req X.1 Y.1 ∧ ∀ r, r < n → ∀ s, b r ≤ s → s ≤ (X.1 5 r).toNatClampNeg → X.2 (9 * r + s) = Y.2 (9 * r + s)
theorem fstp_sim {p : fPw} {S n : Nat} {b : Nat → Nat} {X Y : fSt} (ok : rok X.1 S n) (h : fsim n b X Y) : fsim n b (fstp p n X) (fstp p n Y) := by
  have h4 := ok.2.2.2.1
  have hS := ok.2.1
  have ew := rwho_eq h.1 ok
  rcases fcase ok with hw | ⟨a, s, ha, ha4, hw, hs, hs8, e5⟩
  · rw [fstp_fix hw, fstp_fix (ew.symm.trans hw)]
    exact h
  · rw [fstp_go (by omega) hw, fstp_go (by omega) (ew.symm.trans hw)]
    have f5 : X.1 5 a = Y.1 5 a := h.1 5 a (by decide) (by first | (show _ < 4; omega) | (show _ < 8; omega) | exact fln_s (by assumption) (by omega) (by omega) (by omega) | exact fln_r (by assumption) (by omega) (by omega))
    have er : req (rride X.1 a (p a (X.1 5 a))) (rride Y.1 a (p a (Y.1 5 a))) := by
      rw [← f5]
      exact rride_eq h.1 ok ha hs e5
    refine ⟨er, fun r hr t ht1 ht2 => ?_⟩
    show fcup X.2 _ _ (9 * r + t) = fcup Y.2 _ _ (9 * r + t)
    have ht2' : t ≤ (rride X.1 a (p a (X.1 5 a)) 5 r).toNatClampNeg := ht2
    by_cases e : 9 * r + t = 9 * a + (s + 1)
    · rw [← f5, e5, q_cl (by omega), e, fcup_eq, fcup_eq]
      have := er 6 a (by decide) (fln_r (rride_ok ok e5 hs) (by omega) ha)
      rw [← f5, e5] at this
      exact this
    · rw [← f5, e5, q_cl (by omega), fcup_ne e, fcup_ne e]
      refine h.2 r hr t ht1 ?_
      by_cases e2 : r = a
      · subst e2
        rw [rride_5, e5, qa_1, q_cl (by omega)] at ht2'
        rw [e5, q_cl (by omega)]
        omega
      · rw [rride_ne (by omega) (by omega) (by omega) (by omega)] at ht2'
        exact ht2'
theorem frun_sim {p : fPw} {S n : Nat} {b : Nat → Nat} : ∀ (k : Nat) (X Y : fSt), rok X.1 S n → fsim n b X Y → fsim n b (frun p n k X) (frun p n k Y)
  | 0, _, _, _, h => h
  | k + 1, X, Y, ok, h => frun_sim k _ _ (fstp_ok ok) (fstp_sim ok h)
/-- the class stops when one is there, the reference when all are -/
theorem frun_cmp {p : fPw} {S n i k j : Nat} {b : Nat → Nat} {X Y : fSt} (ok : rok X.1 S n) (sm : fsim n b X Y) (hi : i < n) (th : ¬ (frun p n k X).1 5 i < (frun p n k X).1 0 0) (fin : rwho (frun p n j Y).1 n = -4) : (frun p n j Y).1 6 i = (frun p n k X).1 6 i ∧ (frun p n j Y).1 7 i = (frun p n k X).1 7 i ∧ ∀ s, b i ≤ s → s ≤ S → (frun p n j Y).2 (9 * i + s) = (frun p n k X).2 (9 * i + s) := by
  have h4 := ok.2.2.2.1
  have hS := ok.2.1
  have e1 : frun p n (k + j) Y = frun p n j Y := by
    rw [Nat.add_comm, frun_add, frun_fix fin]
  have h1 := frun_sim (p := p) (k + j) X Y ok sm
  rw [e1, frun_add] at h1
  have okk := frun_ok (p := p) k X ok
  have h2 := frun_there (p := p) j (frun p n k X) okk th
  have okj := frun_ok (p := p) j _ okk
  obtain ⟨c, hc, e5⟩ := okk.2.2.2.2 i hi
  have hcS : c = S := by
    rw [e5, okk.1, q_lt (by omega) (by omega)] at th
    omega
  refine ⟨?_, ?_, fun s hs1 hs2 => ?_⟩
  · rw [← h1.1 6 i (by decide) (by first | (show _ < 4; omega) | (show _ < 8; omega) | exact fln_s (by assumption) (by omega) (by omega) (by omega) | exact fln_r (by assumption) (by omega) (by omega)), h2.2.2.1]
  · rw [← h1.1 7 i (by decide) (by first | (show _ < 4; omega) | (show _ < 8; omega) | exact fln_s (by assumption) (by omega) (by omega) (by omega) | exact fln_r (by assumption) (by omega) (by omega)), h2.2.2.2.1]
  · rw [← h1.2 i hi s hs1 (by rw [h2.2.1, e5, q_cl (by omega)]; omega), h2.2.2.2.2 s (by omega)]
/-- minutes do not grow beyond -/
def fbd (n c : Nat) (R : Rc) : Prop := ∀ a, a < n → ∃ t, t ≤ c ∧ R 6 a = nI t
def fml (S : Nat) (R : Rc) : Prop := ∀ j, j < S → ∃ m, 1 ≤ m ∧ m ≤ 9 ∧ R 1 j = nI m
theorem rride_min' {R : Rc} {S n r s t x : Nat} (ok : rok R S n) (bd : fml S R) (hr : r < n) (e5 : R 5 r = nI s) (hs : s < S) (e6 : R 6 r = nI t) (hx : x ≤ 30) : ∃ t', t ≤ t' ∧ t' ≤ t + 185 ∧ rride R r (nI x) 6 r = nI t' := by
  have h8 := ok.2.1
  obtain ⟨m, m1, m9, em⟩ := bd s hs
  have hc : (R 5 r).toNatClampNeg = s := by rw [e5, q_cl (by omega)]
  obtain ⟨k, k1, ek⟩ := tks_bd (k := R 4 r) (b := rbest R r) m1 m9
  have etk : rtk R r = nI k := by
    unfold rtk
    rw [hc, em]
    exact ek
  have ew : ∃ w, w ≤ 10 ∧ rwt R r = nI w := by
    unfold rwt
    split
    · exact ⟨10, by omega, rfl⟩
    · exact ⟨0, by omega, rfl⟩
  obtain ⟨w, w1, ew⟩ := ew
  refine ⟨t + (w + k) + x, by omega, by omega, ?_⟩
  rw [rride_6, e6, ew, etk, nI_add, nI_add, nI_add]
theorem flse_nI (one off : Int32) (a : Nat) (s : Int32) : ∃ x, x ≤ 30 ∧ flse one off a s = nI x := by
  unfold flse
  split
  · exact ⟨30, by omega, rfl⟩
  · exact ⟨0, by omega, rfl⟩
theorem fstp_bd {one off : Int32} {S n c : Nat} {X : fSt} (ok : rok X.1 S n) (ml : fml S X.1) (h : fbd n c X.1) : fml S (fstp (flse one off) n X).1 ∧ fbd n (c + 185) (fstp (flse one off) n X).1 := by
  rcases fcase ok with hw | ⟨a, s, ha, ha4, hw, hs, hs8, e5⟩
  · rw [fstp_fix hw]
    exact ⟨ml, fun a ha => let ⟨t, t1, t2⟩ := h a ha; ⟨t, by omega, t2⟩⟩
  · rw [fstp_go (by omega) hw]
    refine ⟨fun j hj => ?_, fun b hb => ?_⟩
    · show ∃ m, 1 ≤ m ∧ m ≤ 9 ∧ rride X.1 a (flse one off a (X.1 5 a)) 1 j = nI m
      rw [rride_ne (by omega) (by omega) (by omega) (by omega)]
      exact ml j hj
    · show ∃ t, t ≤ c + 185 ∧ rride X.1 a (flse one off a (X.1 5 a)) 6 b = nI t
      obtain ⟨t, t1, t2⟩ := h b hb
      by_cases e : b = a
      · subst e
        obtain ⟨x, x1, x2⟩ := flse_nI one off b (X.1 5 b)
        rw [x2]
        obtain ⟨t', u1, u2, u3⟩ := rride_min' ok ml hb e5 hs t2 x1
        exact ⟨t', by omega, u3⟩
      · rw [rride_ne (by omega) (by omega) (by omega) (by omega)]
        exact ⟨t, by omega, t2⟩
theorem frun_bd {one off : Int32} {S n : Nat} : ∀ (k c : Nat) (X : fSt), rok X.1 S n → fml S X.1 → fbd n c X.1 → fbd n (c + 185 * k) (frun (flse one off) n k X).1
  | 0, _, _, _, _, h => h
  | k + 1, c, X, ok, ml, h => by
    have h1 := fstp_bd (one := one) (off := off) ok ml h
    have := frun_bd (one := one) (off := off) k (c + 185) _ (fstp_ok ok) h1.1 h1.2
    rw [show c + 185 * (k + 1) = c + 185 + 185 * k by omega]
    exact this
/-- nothing is noted of the stages behind one -/
theorem frun_low {p : fPw} {S n i t : Nat} (hi : i < 4) : ∀ (k : Nat) (X : fSt), rok X.1 S n → i < n → t < (X.1 5 i).toNatClampNeg → (frun p n k X).2 (9 * i + t) = X.2 (9 * i + t)
  | 0, _, _, _, _ => rfl
  | k + 1, X, ok, hin, ht => by
    show (frun p n k (fstp p n X)).2 (9 * i + t) = X.2 (9 * i + t)
    rcases fcase ok with hw | ⟨a, s, ha, ha4, hw, hs, hs8, e5⟩
    · rw [fstp_fix hw]
      exact frun_low hi k X ok hin ht
    · have hS := ok.2.1
      obtain ⟨b, hb, eb⟩ := ok.2.2.2.2 i hin
      have ht' := ht
      rw [eb, q_cl (by omega)] at ht'
      have ok1 := fstp_ok (p := p) ok
      rw [fstp_go (by omega) hw] at ok1 ⊢
      refine (frun_low hi k _ ok1 hin ?_).trans ?_
      · show t < (rride X.1 a (p a (X.1 5 a)) 5 i).toNatClampNeg
        by_cases e : i = a
        · subst e
          rw [rride_5, e5, qa_1, q_cl (by omega)]
          rw [e5, q_cl (by omega)] at ht
          omega
        · rw [rride_ne (by omega) (by omega) (by omega) (by omega)]
          exact ht
      · show fcup X.2 _ _ (9 * i + t) = _
        refine fcup_ne ?_
        rw [e5, q_cl (by omega)]
        intro z
        have : i = a := by omega
        subst this
        rw [e5, q_cl (by omega)] at ht
        omega
