def ad_x (h0 : Nat) (q : Nat → Nat) : Nat → Nat → Nat
  | 0, 0 => h0
  | 1, 0 => (q 0)
  | 1, 1 => (q 11)
  | 1, 2 => (q 23)
  | 1, 3 => (q 34)
  | 2, 0 => (q 9)
  | 2, 1 => (q 20)
  | 3, 0 => (q 22)
  | 4, 0 => (q 33)
  | 5, 0 => (q 45)
  | 5, 1 => (q 47)
  | 5, 2 => (q 49)
  | 5, 3 => (q 51)
  | 6, 0 => (q 44)
  | 7, 0 => (q 1)
  | 7, 1 => (q 12)
  | 7, 2 => (q 24)
  | 7, 3 => (q 35)
  | 8, 0 => (q 2)
  | 8, 1 => (q 13)
  | 8, 2 => (q 25)
  | 8, 3 => (q 36)
  | 9, 0 => (q 3)
  | 9, 1 => (q 14)
  | 9, 2 => (q 26)
  | 9, 3 => (q 37)
  | 10, 0 => (q 4)
  | 10, 1 => (q 15)
  | 10, 2 => (q 27)
  | 10, 3 => (q 38)
  | 11, 0 => (q 5)
  | 11, 1 => (q 16)
  | 11, 2 => (q 28)
  | 11, 3 => (q 39)
  | 12, 0 => (q 6)
  | 12, 1 => (q 17)
  | 12, 2 => (q 29)
  | 12, 3 => (q 40)
  | 13, 0 => (q 7)
  | 13, 1 => (q 18)
  | 13, 2 => (q 30)
  | 13, 3 => (q 41)
  | 14, 0 => (q 8)
  | 14, 1 => (q 19)
  | 14, 2 => (q 31)
  | 14, 3 => (q 42)
  | 15, 0 => (q 10)
  | 15, 1 => (q 21)
  | 16, 0 => (q 32)
  | 17, 0 => (q 43)
  | 18, 0 => (q 46)
  | 18, 1 => (q 48)
  | 18, 2 => (q 50)
  | 18, 3 => (q 52)
  | 19, 0 => (q 53)
  | 20, 0 => (q 54)
  | _, _ => 0
def ad_m (h0 : Nat) (q : Nat → Nat) : Nat → Nat → Nat
  | 0, 0 => h0
  | 1, 0 => (q 0)
  | 2, 0 => (q 1)
  | 3, 0 => (q 2)
  | 4, 0 => (q 3)
  | 5, 0 => (q 4)
  | 6, 0 => (q 5)
  | 7, 0 => (q 6)
  | 8, 0 => (q 7)
  | 9, 0 => (q 8)
  | _, _ => 0
def ix_x : Nat → Nat → Nat
  | 0, 0 => 0
  | 1, 0 => 1
  | 1, 1 => 12
  | 1, 2 => 24
  | 1, 3 => 35
  | 2, 0 => 10
  | 2, 1 => 21
  | 3, 0 => 23
  | 4, 0 => 34
  | 5, 0 => 46
  | 5, 1 => 48
  | 5, 2 => 50
  | 5, 3 => 52
  | 6, 0 => 45
  | 7, 0 => 2
  | 7, 1 => 13
  | 7, 2 => 25
  | 7, 3 => 36
  | 8, 0 => 3
  | 8, 1 => 14
  | 8, 2 => 26
  | 8, 3 => 37
  | 9, 0 => 4
  | 9, 1 => 15
  | 9, 2 => 27
  | 9, 3 => 38
  | 10, 0 => 5
  | 10, 1 => 16
  | 10, 2 => 28
  | 10, 3 => 39
  | 11, 0 => 6
  | 11, 1 => 17
  | 11, 2 => 29
  | 11, 3 => 40
  | 12, 0 => 7
  | 12, 1 => 18
  | 12, 2 => 30
  | 12, 3 => 41
  | 13, 0 => 8
  | 13, 1 => 19
  | 13, 2 => 31
  | 13, 3 => 42
  | 14, 0 => 9
  | 14, 1 => 20
  | 14, 2 => 32
  | 14, 3 => 43
  | 15, 0 => 11
  | 15, 1 => 22
  | 16, 0 => 33
  | 17, 0 => 44
  | 18, 0 => 47
  | 18, 1 => 49
  | 18, 2 => 51
  | 18, 3 => 53
  | 19, 0 => 54
  | 20, 0 => 55
  | _, _ => 0
def ix_m : Nat → Nat → Nat
  | 0, 0 => 56
  | 1, 0 => 57
  | 2, 0 => 58
  | 3, 0 => 59
  | 4, 0 => 60
  | 5, 0 => 61
  | 6, 0 => 62
  | 7, 0 => 63
  | 8, 0 => 64
  | 9, 0 => 65
  | _, _ => 0
def Mx0 : kM := (fun c _ j => match c with | 1 => (match j with | 2 => 3 | 3 => 1 | _ => 0) | 5 => (match j with | 0 => -1 | _ => 0) | _ => 0, fun _ _ _ => 0)
def Mm0 : kM := (fun c _ => match c with | 1 => upd (upd (fun _ => 0) (20 : Int32).toNatClampNeg (1)) (23 : Int32).toNatClampNeg (3) | 5 => upd (upd (upd (upd (fun _ => 0) (0 : Int32).toNatClampNeg ((-1))) (1 : Int32).toNatClampNeg ((-1))) (2 : Int32).toNatClampNeg ((-1))) (3 : Int32).toNatClampNeg ((-1)) | _ => fun _ => 0, fun _ _ _ => 0)
def kca (cI cJ cO : ClassId) : Nat → ClassId | 0 => cI | 1 => cJ | _ => cO
theorem arrV_congr {c : ClassId} {N : Nat} {f f2 : Nat → Value} (h : ∀ j, j < N → f j = f2 j) : arrV c N f = arrV c N f2 := by
  unfold arrV
  congr 2
  funext j
  exact h j.1 j.2
theorem ix_x_inj : ∀ a ∈ rg_x.1, ∀ b ∈ rg_x.1, ix_x a.1 a.2 = ix_x b.1 b.2 → a = b := by decide +kernel
theorem ix_m_inj : ∀ a ∈ rg_m.1, ∀ b ∈ rg_m.1, ix_m a.1 a.2 = ix_m b.1 b.2 → a = b := by decide +kernel
theorem ix_x_lt : ∀ a ∈ rg_x.1, ix_x a.1 a.2 < 56 := by decide +kernel
theorem ix_m_ge : ∀ a ∈ rg_m.1, 56 ≤ ix_m a.1 a.2 := by decide +kernel
set_option maxRecDepth 100000 in
set_option maxHeartbeats 4000000 in
theorem st_ix {cI cJ cO : ClassId} {h0 h1 : Nat} {q r : Nat → Nat} : (∀ a ∈ rg_x.1, ∃ e, (wX5 cI cJ cO h0 q ++ wX6 cI cJ cO h1 r)[ix_x a.1 a.2]? = some (ad_x h0 q a.1 a.2, e)) ∧ (∀ a ∈ rg_m.1, ∃ e, (wX5 cI cJ cO h0 q ++ wX6 cI cJ cO h1 r)[ix_m a.1 a.2]? = some (ad_m h1 r a.1 a.2, e)) := ⟨List.forall_mem_cons.mpr ⟨⟨_, rfl⟩, List.forall_mem_cons.mpr ⟨⟨_, rfl⟩, List.forall_mem_cons.mpr ⟨⟨_, rfl⟩, List.forall_mem_cons.mpr ⟨⟨_, rfl⟩, List.forall_mem_cons.mpr ⟨⟨_, rfl⟩, List.forall_mem_cons.mpr ⟨⟨_, rfl⟩, List.forall_mem_cons.mpr ⟨⟨_, rfl⟩, List.forall_mem_cons.mpr ⟨⟨_, rfl⟩, List.forall_mem_cons.mpr ⟨⟨_, rfl⟩, List.forall_mem_cons.mpr ⟨⟨_, rfl⟩, List.forall_mem_cons.mpr ⟨⟨_, rfl⟩, List.forall_mem_cons.mpr ⟨⟨_, rfl⟩, List.forall_mem_cons.mpr ⟨⟨_, rfl⟩, List.forall_mem_cons.mpr ⟨⟨_, rfl⟩, List.forall_mem_cons.mpr ⟨⟨_, rfl⟩, List.forall_mem_cons.mpr ⟨⟨_, rfl⟩, List.forall_mem_cons.mpr ⟨⟨_, rfl⟩, List.forall_mem_cons.mpr ⟨⟨_, rfl⟩, List.forall_mem_cons.mpr ⟨⟨_, rfl⟩, List.forall_mem_cons.mpr ⟨⟨_, rfl⟩, List.forall_mem_cons.mpr ⟨⟨_, rfl⟩, List.forall_mem_cons.mpr ⟨⟨_, rfl⟩, List.forall_mem_cons.mpr ⟨⟨_, rfl⟩, List.forall_mem_cons.mpr ⟨⟨_, rfl⟩, List.forall_mem_cons.mpr ⟨⟨_, rfl⟩, List.forall_mem_cons.mpr ⟨⟨_, rfl⟩, List.forall_mem_cons.mpr ⟨⟨_, rfl⟩, List.forall_mem_cons.mpr ⟨⟨_, rfl⟩, List.forall_mem_cons.mpr ⟨⟨_, rfl⟩, List.forall_mem_cons.mpr ⟨⟨_, rfl⟩, List.forall_mem_cons.mpr ⟨⟨_, rfl⟩, List.forall_mem_cons.mpr ⟨⟨_, rfl⟩, List.forall_mem_cons.mpr ⟨⟨_, rfl⟩, List.forall_mem_cons.mpr ⟨⟨_, rfl⟩, List.forall_mem_cons.mpr ⟨⟨_, rfl⟩, List.forall_mem_cons.mpr ⟨⟨_, rfl⟩, List.forall_mem_cons.mpr ⟨⟨_, rfl⟩, List.forall_mem_cons.mpr ⟨⟨_, rfl⟩, List.forall_mem_cons.mpr ⟨⟨_, rfl⟩, List.forall_mem_cons.mpr ⟨⟨_, rfl⟩, List.forall_mem_cons.mpr ⟨⟨_, rfl⟩, List.forall_mem_cons.mpr ⟨⟨_, rfl⟩, List.forall_mem_cons.mpr ⟨⟨_, rfl⟩, List.forall_mem_cons.mpr ⟨⟨_, rfl⟩, List.forall_mem_cons.mpr ⟨⟨_, rfl⟩, List.forall_mem_cons.mpr ⟨⟨_, rfl⟩, List.forall_mem_cons.mpr ⟨⟨_, rfl⟩, List.forall_mem_cons.mpr ⟨⟨_, rfl⟩, List.forall_mem_cons.mpr ⟨⟨_, rfl⟩, List.forall_mem_cons.mpr ⟨⟨_, rfl⟩, List.forall_mem_cons.mpr ⟨⟨_, rfl⟩, List.forall_mem_cons.mpr ⟨⟨_, rfl⟩, List.forall_mem_cons.mpr ⟨⟨_, rfl⟩, List.forall_mem_cons.mpr ⟨⟨_, rfl⟩, List.forall_mem_cons.mpr ⟨⟨_, rfl⟩, List.forall_mem_cons.mpr ⟨⟨_, rfl⟩, fun _ h => absurd h List.not_mem_nil⟩⟩⟩⟩⟩⟩⟩⟩⟩⟩⟩⟩⟩⟩⟩⟩⟩⟩⟩⟩⟩⟩⟩⟩⟩⟩⟩⟩⟩⟩⟩⟩⟩⟩⟩⟩⟩⟩⟩⟩⟩⟩⟩⟩⟩⟩⟩⟩⟩⟩⟩⟩⟩⟩⟩⟩, List.forall_mem_cons.mpr ⟨⟨_, rfl⟩, List.forall_mem_cons.mpr ⟨⟨_, rfl⟩, List.forall_mem_cons.mpr ⟨⟨_, rfl⟩, List.forall_mem_cons.mpr ⟨⟨_, rfl⟩, List.forall_mem_cons.mpr ⟨⟨_, rfl⟩, List.forall_mem_cons.mpr ⟨⟨_, rfl⟩, List.forall_mem_cons.mpr ⟨⟨_, rfl⟩, List.forall_mem_cons.mpr ⟨⟨_, rfl⟩, List.forall_mem_cons.mpr ⟨⟨_, rfl⟩, List.forall_mem_cons.mpr ⟨⟨_, rfl⟩, fun _ h => absurd h List.not_mem_nil⟩⟩⟩⟩⟩⟩⟩⟩⟩⟩⟩
set_option maxRecDepth 100000 in
set_option maxHeartbeats 4000000 in
theorem st_P {dC : Nat → ClassId} {dI : Nat → Nat → Nat} {cI cJ cO : ClassId} {h0 h1 : Nat} {q r : Nat → Nat} {H : Heap} (hP : va_P (dC, dI) vwCl (wX5 cI cJ cO h0 q ++ wX6 cI cJ cO h1 r) H) : kP (rg_x, (dC, dI), kca cI cJ cO, ad_x h0 q) Mx0 H ∧ kP (rg_m, (dC, dI), kca cI cJ cO, ad_m h1 r) Mm0 H := by
  have hpg : va_at (dC, dI) vwCl (ad_x h0 q 6 0, kcell (rg_x, (dC, dI), kca cI cJ cO, ad_x h0 q) Mx0 6 0) H := by
    have h := hP 45 _ rfl
    have e : vp_cell cO (4, .inr (.inr (.inr (.inr (fun j => some (ad_x h0 q 5 j)))))) = vp_cell cO (4, .inr (.inr (.inr (.inr (va_up (va_up (va_up (va_up (fun _ => none) (0 : Int32).toNatClampNeg (some (q 45))) (1 : Int32).toNatClampNeg (some (q 47))) (2 : Int32).toNatClampNeg (some (q 49))) (3 : Int32).toNatClampNeg (some (q 51))))))) := by
      rw [vp_cell_q, vp_cell_q]
      refine arrV_congr (fun j hj => ?_)
      rcases (show j = 0 ∨ j = 1 ∨ j = 2 ∨ j = 3 by omega) with rfl | rfl | rfl | rfl <;> rfl
    show H[q 44]? = some (vp_cell cO (4, .inr (.inr (.inr (.inr (fun j => some (ad_x h0 q 5 j)))))))
    rw [e]
    exact h
  refine ⟨fun c k hck => ?_, fun c k hck => ?_⟩
  · have h : ∀ a ∈ rg_x.1, va_at (dC, dI) vwCl (ad_x h0 q a.1 a.2, kcell (rg_x, (dC, dI), kca cI cJ cO, ad_x h0 q) Mx0 a.1 a.2) H := List.forall_mem_cons.mpr ⟨hP 0 _ rfl, List.forall_mem_cons.mpr ⟨hP 1 _ rfl, List.forall_mem_cons.mpr ⟨hP 12 _ rfl, List.forall_mem_cons.mpr ⟨hP 24 _ rfl, List.forall_mem_cons.mpr ⟨hP 35 _ rfl, List.forall_mem_cons.mpr ⟨hP 10 _ rfl, List.forall_mem_cons.mpr ⟨hP 21 _ rfl, List.forall_mem_cons.mpr ⟨hP 23 _ rfl, List.forall_mem_cons.mpr ⟨hP 34 _ rfl, List.forall_mem_cons.mpr ⟨hP 46 _ rfl, List.forall_mem_cons.mpr ⟨hP 48 _ rfl, List.forall_mem_cons.mpr ⟨hP 50 _ rfl, List.forall_mem_cons.mpr ⟨hP 52 _ rfl, List.forall_mem_cons.mpr ⟨hpg, List.forall_mem_cons.mpr ⟨hP 2 _ rfl, List.forall_mem_cons.mpr ⟨hP 13 _ rfl, List.forall_mem_cons.mpr ⟨hP 25 _ rfl, List.forall_mem_cons.mpr ⟨hP 36 _ rfl, List.forall_mem_cons.mpr ⟨hP 3 _ rfl, List.forall_mem_cons.mpr ⟨hP 14 _ rfl, List.forall_mem_cons.mpr ⟨hP 26 _ rfl, List.forall_mem_cons.mpr ⟨hP 37 _ rfl, List.forall_mem_cons.mpr ⟨hP 4 _ rfl, List.forall_mem_cons.mpr ⟨hP 15 _ rfl, List.forall_mem_cons.mpr ⟨hP 27 _ rfl, List.forall_mem_cons.mpr ⟨hP 38 _ rfl, List.forall_mem_cons.mpr ⟨hP 5 _ rfl, List.forall_mem_cons.mpr ⟨hP 16 _ rfl, List.forall_mem_cons.mpr ⟨hP 28 _ rfl, List.forall_mem_cons.mpr ⟨hP 39 _ rfl, List.forall_mem_cons.mpr ⟨hP 6 _ rfl, List.forall_mem_cons.mpr ⟨hP 17 _ rfl, List.forall_mem_cons.mpr ⟨hP 29 _ rfl, List.forall_mem_cons.mpr ⟨hP 40 _ rfl, List.forall_mem_cons.mpr ⟨hP 7 _ rfl, List.forall_mem_cons.mpr ⟨hP 18 _ rfl, List.forall_mem_cons.mpr ⟨hP 30 _ rfl, List.forall_mem_cons.mpr ⟨hP 41 _ rfl, List.forall_mem_cons.mpr ⟨hP 8 _ rfl, List.forall_mem_cons.mpr ⟨hP 19 _ rfl, List.forall_mem_cons.mpr ⟨hP 31 _ rfl, List.forall_mem_cons.mpr ⟨hP 42 _ rfl, List.forall_mem_cons.mpr ⟨hP 9 _ rfl, List.forall_mem_cons.mpr ⟨hP 20 _ rfl, List.forall_mem_cons.mpr ⟨hP 32 _ rfl, List.forall_mem_cons.mpr ⟨hP 43 _ rfl, List.forall_mem_cons.mpr ⟨hP 11 _ rfl, List.forall_mem_cons.mpr ⟨hP 22 _ rfl, List.forall_mem_cons.mpr ⟨hP 33 _ rfl, List.forall_mem_cons.mpr ⟨hP 44 _ rfl, List.forall_mem_cons.mpr ⟨hP 47 _ rfl, List.forall_mem_cons.mpr ⟨hP 49 _ rfl, List.forall_mem_cons.mpr ⟨hP 51 _ rfl, List.forall_mem_cons.mpr ⟨hP 53 _ rfl, List.forall_mem_cons.mpr ⟨hP 54 _ rfl, List.forall_mem_cons.mpr ⟨hP 55 _ rfl, fun _ h => absurd h List.not_mem_nil⟩⟩⟩⟩⟩⟩⟩⟩⟩⟩⟩⟩⟩⟩⟩⟩⟩⟩⟩⟩⟩⟩⟩⟩⟩⟩⟩⟩⟩⟩⟩⟩⟩⟩⟩⟩⟩⟩⟩⟩⟩⟩⟩⟩⟩⟩⟩⟩⟩⟩⟩⟩⟩⟩⟩⟩
    exact h (c, k) hck
  · have h : ∀ a ∈ rg_m.1, va_at (dC, dI) vwCl (ad_m h1 r a.1 a.2, kcell (rg_m, (dC, dI), kca cI cJ cO, ad_m h1 r) Mm0 a.1 a.2) H := List.forall_mem_cons.mpr ⟨hP 56 _ rfl, List.forall_mem_cons.mpr ⟨hP 57 _ rfl, List.forall_mem_cons.mpr ⟨hP 58 _ rfl, List.forall_mem_cons.mpr ⟨hP 59 _ rfl, List.forall_mem_cons.mpr ⟨hP 60 _ rfl, List.forall_mem_cons.mpr ⟨hP 61 _ rfl, List.forall_mem_cons.mpr ⟨hP 62 _ rfl, List.forall_mem_cons.mpr ⟨hP 63 _ rfl, List.forall_mem_cons.mpr ⟨hP 64 _ rfl, List.forall_mem_cons.mpr ⟨hP 65 _ rfl, fun _ h => absurd h List.not_mem_nil⟩⟩⟩⟩⟩⟩⟩⟩⟩⟩
    exact h (c, k) hck
theorem st_J {A : Nat → Prop} {cI cJ cO : ClassId} {h0 h1 : Nat} {q r : Nat → Nat} {D : va_G} (hD : va_D A (wX5 cI cJ cO h0 q ++ wX6 cI cJ cO h1 r)) : kJ (rg_x, D, kca cI cJ cO, ad_x h0 q) ∧ kJ (rg_m, D, kca cI cJ cO, ad_m h1 r) ∧ (∀ z, kA (rg_x, D, kca cI cJ cO, ad_x h0 q) z → A z) ∧ (∀ z, kA (rg_m, D, kca cI cJ cO, ad_m h1 r) z → A z) ∧ (∀ z, kA (rg_x, D, kca cI cJ cO, ad_x h0 q) z → ¬ kA (rg_m, D, kca cI cJ cO, ad_m h1 r) z) := by
  obtain ⟨hx, hm⟩ := st_ix (cI := cI) (cJ := cJ) (cO := cO) (h0 := h0) (h1 := h1) (q := q) (r := r)
  refine ⟨fun c k c2 k2 a b e => ?_, fun c k c2 k2 a b e => ?_, ?_, ?_, ?_⟩
  · obtain ⟨e1, f1⟩ := hx (c, k) a
    obtain ⟨e2, f2⟩ := hx (c2, k2) b
    have := ix_x_inj (c, k) a (c2, k2) b (hD.1 _ _ _ _ f1 f2 e)
    exact ⟨congrArg Prod.fst this, congrArg Prod.snd this⟩
  · obtain ⟨e1, f1⟩ := hm (c, k) a
    obtain ⟨e2, f2⟩ := hm (c2, k2) b
    have := ix_m_inj (c, k) a (c2, k2) b (hD.1 _ _ _ _ f1 f2 e)
    exact ⟨congrArg Prod.fst this, congrArg Prod.snd this⟩
  · rintro z ⟨c, k, a, rfl⟩
    obtain ⟨e1, f1⟩ := hx (c, k) a
    exact hD.2 _ _ f1
  · rintro z ⟨c, k, a, rfl⟩
    obtain ⟨e1, f1⟩ := hm (c, k) a
    exact hD.2 _ _ f1
  · rintro z ⟨c, k, a, rfl⟩ ⟨c2, k2, b, e⟩
    obtain ⟨e1, f1⟩ := hx (c, k) a
    obtain ⟨e2, f2⟩ := hm (c2, k2) b
    have h1 := hD.1 _ _ _ _ f1 f2 e
    have h2 := ix_x_lt (c, k) a
    have h3 := ix_m_ge (c2, k2) b
    omega
theorem df_X5 : ∀ j, j < 10 → defaultValue (tyX5 j) = vp_V [.null, .null, .null, .null, .int 0, .null, .null, .null, .null, .null] j := by decide +kernel
theorem df_X6 : ∀ j, j < 13 → defaultValue (tyX6 j) = vp_V [.null, .int 0, .null, .int 0, .null, .null, .null, .int 0, .int 0, .null, .null, .null, .null] j := by decide +kernel
theorem kgL {y : MethodName} {cc : ByteArray} {n : Nat} (h : Cond.code y cc n none ∈ kw) : GoodIn kw (Cond.code y cc n none :: kw) := fun w hw => (List.mem_cons.mp hw).elim (fun e => by rw [e]; exact kw_good h) (fun h => kw_good h)
theorem kl_L : Cond.methodLink RL 9 yX5_init ∈ kw ∧ Cond.methodLink RL 12 yX6_init ∈ kw ∧ Cond.classLink RL 7 RX5 ∈ kw ∧ Cond.classLink RL 10 RX6 ∈ kw := ⟨kw_t 13 (by decide +kernel) (by decide +kernel), kw_t 579 (by decide +kernel) (by decide +kernel), kw_t 11 (by decide +kernel) (by decide +kernel), kw_t 577 (by decide +kernel) (by decide +kernel)⟩
theorem kn_mem : ∀ w ∈ kN ++ kN2, w ∈ lw_tbl := by
  have h : ∀ w ∈ kN ++ kN2, w ∈ tables_1 := List.forall_mem_cons.mpr ⟨List.mem_of_getElem? (i := 415) (by decide +kernel), List.forall_mem_cons.mpr ⟨List.mem_of_getElem? (i := 345) (by decide +kernel), List.forall_mem_cons.mpr ⟨List.mem_of_getElem? (i := 348) (by decide +kernel), List.forall_mem_cons.mpr ⟨List.mem_of_getElem? (i := 277) (by decide +kernel), List.forall_mem_cons.mpr ⟨List.mem_of_getElem? (i := 21) (by decide +kernel), List.forall_mem_cons.mpr ⟨List.mem_of_getElem? (i := 83) (by decide +kernel), List.forall_mem_cons.mpr ⟨List.mem_of_getElem? (i := 100) (by decide +kernel), List.forall_mem_cons.mpr ⟨List.mem_of_getElem? (i := 116) (by decide +kernel), List.forall_mem_cons.mpr ⟨List.mem_of_getElem? (i := 139) (by decide +kernel), List.forall_mem_cons.mpr ⟨List.mem_of_getElem? (i := 105) (by decide +kernel), List.forall_mem_cons.mpr ⟨List.mem_of_getElem? (i := 121) (by decide +kernel), fun _ h => absurd h List.not_mem_nil⟩⟩⟩⟩⟩⟩⟩⟩⟩⟩⟩
  exact fun w hw => by unfold lw_tbl; exact List.mem_append_right _ (h w hw)
theorem ao_mem : Cond.arrayOver (.object RX1) ∈ lw_tbl := by unfold lw_tbl; exact List.mem_append_right _ (List.mem_of_getElem? (i := 137) (by decide +kernel))
theorem ar_mem : Cond.arrayClass .int ∈ lw_tbl ∧ Cond.arrayClass .long ∈ lw_tbl := ⟨(List.mem_filter.mp kw_arr.1).1, (List.mem_filter.mp kw_arr.2).1⟩
theorem kn_nest {s : State} {a : Array Value} (hts : ∀ w ∈ lw_tbl, w.before a s = true) : (∀ w ∈ kN, va_Nw w s) ∧ (∀ w ∈ kN2, va_Nw w s) := by
  refine ⟨fun w hw => ?_, fun w hw => ?_⟩
  · have h := hts w (kn_mem w (List.mem_append_left _ hw))
    obtain ⟨a, i, x, hh, rfl⟩ := kNmem hw
    exact va_Nw.of rfl h
  · have h := hts w (kn_mem w (List.mem_append_right _ hw))
    obtain ⟨a, i, x, hh, rfl⟩ := kN2mem hw
    exact va_Nw.of rfl h
set_option maxRecDepth 100000 in
set_option maxHeartbeats 4000000 in
theorem whole_open {p : Program} {e : Env} {s : State} {m : MethodId} {below : List Frame} {meth : Method} {c : Code} (l : Launch) {b L : Nat} {xs : Nat → Int32} {Inv : Nat → kM → kM → Prop} (hL : L ≤ 3072) (C0 : lw_At p s m meth c b L xs) (hA : ∀ g1 g2, kAll l g1 g2 Inv) (hI : ∀ n Mx Mm, Inv n Mx Mm → Inv (n + 1) Mx Mm) (hI0 : Inv 0 Mx0 Mm0) : W p l e room_1 s m #[Value.ref b] below meth c s.heap [] 0 0 (lw_Z below #[Value.ref b] s) (entryFrame m ([Value.ref b] : List Value).toArray 4) := by
  obtain ⟨hx, hb, hr, hml, hown, hts0, hX, hbl, hlocks, hgv⟩ := id C0
  have hts := kw_tbl hts0
  have hAl : ∀ q : Nat, s.heap.size ≤ q → kAl s q := fun _ h => h
  obtain ⟨cX0, iX0, hKnX0⟩ := u_known (C := RX0) (T := TX0) (N := 2) (n := 2) hts inkX0 (hts _ ki_X0.1)
  obtain ⟨cX1, iX1, hKnX1⟩ := u_known (C := RX1) (T := TX1) (N := 3) (n := 3) hts inkX1 (hts _ ki_X1.1)
  obtain ⟨cX2, iX2, hKnX2⟩ := u_known (C := RX2) (T := TX2) (N := 3) (n := 3) hts inkX2 (hts _ ki_X2.1)
  obtain ⟨cX3, iX3, hKnX3⟩ := u_known (C := RX3) (T := TX3) (N := 12) (n := 12) hts inkX3 (hts _ ki_X3.1)
  obtain ⟨cX4, iX4, hKnX4⟩ := u_known (C := RX4) (T := TX4) (N := 4) (n := 4) hts inkX4 (hts _ ki_X4.1)
  obtain ⟨cX5, iX5, hKnX5⟩ := u_known (C := RX5) (T := TX5) (N := 10) (n := 10) hts inkX5 (hts _ ki_X5.1)
  obtain ⟨cX6, iX6, hKnX6⟩ := u_known (C := RX6) (T := TX6) (N := 13) (n := 13) hts inkX6 (hts _ ki_X6.1)
  obtain ⟨dC, dI, hKc⟩ : ∃ (dC : Nat → ClassId) (dI : Nat → Nat → Nat), ∀ (k : Nat) (q : vw_C), vwCl[k]? = some q → u_Kn s q.1 q.2.1 q.2.2 (dC k) (dI k) := by
    refine ⟨fun k => if k = 0 then cX0 else if k = 1 then cX1 else if k = 2 then cX2 else if k = 3 then cX3 else if k = 4 then cX4 else if k = 5 then cX5 else cX6, fun k => if k = 0 then iX0 else if k = 1 then iX1 else if k = 2 then iX2 else if k = 3 then iX3 else if k = 4 then iX4 else if k = 5 then iX5 else iX6, ?_⟩
    intro k q hq
    match k, hq with
    | 0, hq => cases hq; exact hKnX0
    | 1, hq => cases hq; exact hKnX1
    | 2, hq => cases hq; exact hKnX2
    | 3, hq => cases hq; exact hKnX3
    | 4, hq => cases hq; exact hKnX4
    | 5, hq => cases hq; exact hKnX5
    | 6, hq => cases hq; exact hKnX6
    | k + 7, hq => simp [vwCl] at hq
  obtain ⟨cI, kI, pI, i1, i2, i3⟩ := Cond.arrayClass_spec (hts0 _ ar_mem.1)
  obtain ⟨cJ, kJ1, pJ, j1, j2, j3⟩ := Cond.arrayClass_spec (hts0 _ ar_mem.2)
  obtain ⟨pO, cO, kO, o1, o2, o3, o4, o5⟩ := Cond.arrayOver_spec (hts0 _ ao_mem)
  have hK : va_K (dC, dI) vwCl (kTI cI cJ cO) s := by
    refine ⟨hKc, fun k q hk => ?_⟩
    match k, hk with
    | 0, hk => cases hk; exact ⟨fun n z => ⟨fun k h => (by cases h), kI, i2, pI, i3⟩, i1⟩
    | 1, hk => cases hk; exact ⟨fun n z => ⟨fun k h => (by cases h), kJ1, j2, pJ, j3⟩, j1⟩
    | 2, hk => cases hk; exact ⟨fun n z => ⟨fun k h => (by cases h), kO, o3, pO, o4⟩, kO, pO, o3, o4, o1, o5⟩
    | k + 3, hk => simp [kTI] at hk
  have hN := kn_nest hts0
  have hKI : kKI (dC, dI) cI cJ cO s := ⟨hK, hN.2, va_AO.of (hts0 _ ao_mem)⟩
  have hS : va_S (kAl s) s.heap s.heap [] := va_S.rf
  have hP : va_P (dC, dI) vwCl [] s.heap := fun k q h => by simp at h
  have hD : va_D (kAl s) [] := ⟨fun i j p q h => by simp at h, fun k q h => by simp at h⟩
  have hl := lv_entry ([.ref b]) (n := 4) (Nat.le_of_ble_eq_true rfl)
  rw [lg_entry_eq]
  generalize (lg_sl ([.ref b]) ++ List.replicate (4 - (lg_sl ([.ref b])).length) Slot.unset).toArray = ls at hl ⊢
  have hl : lv_has ls 4 [(0, .ref b)] := hl
  refine va_new (pc := 0) (ci := 5) (fs := [.null, .null, .null, .null, .int 0, .null, .null, .null, .null, .null]) (C := RX5) (T := TX5) (N := 10) hx hb hts inkX5 tyX5 tyX5_ok hown (hts _ kl_L.2.2.1) (hts _ ki_X5.1) (hts _ ki_X5.2) hK hP hD hS hAl rfl df_X5 (Nat.le_of_ble_eq_true rfl) (Nat.le_of_ble_eq_true rfl) dL_law_0 (fun h0 H hP hD hS => ?_)
  have hP : va_P (dC, dI) vwCl [(h0, .inr (5, [.null, .null, .null, .null, .int 0, .null, .null, .null, .null, .null]))] H := hP
  have hD : va_D (kAl s) [(h0, .inr (5, [.null, .null, .null, .null, .int 0, .null, .null, .null, .null, .null]))] := hD
  refine W.widen (k := 1) (n := 10) (by decide) (by decide) ?_
  refine lv_dup (pc := 3) hx hb dL_law_3 rfl ?_
  have hFc := va_free (wc := [(h0, .inr (5, [.null, .null, .null, .null, .int 0, .null, .null, .null, .null, .null]))]) hD hS hAl [0] rfl
  refine va_callv (va_runI (As := []) (rest := [.ref h0]) (g := F0 m 4 ls [.ref h0, .ref h0]) ⟨hx, hb, hml, hown, hts⟩ (ct_X5 l dC dI cI cJ cO h0 H.size) ⟨callB_of 0 hts (kgL kc_X5.1) rfl rfl rfl (hts _ ki_X5.2) (hts _ kl_L.1) (by decide +kernel) ⟨Nat.le_of_ble_eq_true rfl, Nat.le_of_ble_eq_true rfl⟩, rfl, hts _ kc_X5.2⟩ ⟨fun a U g mk q => ⟨q.1, q.2.1, q.2.2.1, q.2.2.2.1.calling g mk a, q.2.2.2.2⟩, fun U hU hW => ⟨rfl, by rw [hU], by rw [hU]; exact hP, hKI.warm hW, hD.weaken (fun _ _ _ _ => trivial)⟩⟩ rfl rfl hl.1 rfl (lv_room (Nat.le_of_ble_eq_true rfl)) dL_law_4 ⟨Nat.le_of_ble_eq_true rfl, Nat.le_of_ble_eq_true rfl⟩) hS (fun q _ h => hFc q h) hFc (fun q t H1 locs ht hvm hw hB hz1 hk1 hS => ?_)
  obtain ⟨hP1, hD1⟩ := hB
  rw [ht] at hP1
  have hD := hD1.weaken (fun k z _ h => hFc z.1 h)
  have hP := hP1
  clear hP1 hD1
  generalize H1 = H at hP hS ⊢
  refine W.widen (k := 56) (n := 982) (by decide) (by decide) ?_
  refine lv_astore_n (pc := 7) (lv' := [(1, .ref h0), (0, .ref b)]) hx hb dL_law_7 rfl hl (by decide) rfl (fun ls hl => ?_)
  refine va_new (pc := 8) (ci := 6) (fs := [.null, .int 0, .null, .int 0, .null, .null, .null, .int 0, .int 0, .null, .null, .null, .null]) (C := RX6) (T := TX6) (N := 13) hx hb hts inkX6 tyX6 tyX6_ok hown (hts _ kl_L.2.2.2) (hts _ ki_X6.1) (hts _ ki_X6.2) hK hP hD hS hAl rfl df_X6 (Nat.le_of_ble_eq_true rfl) (Nat.le_of_ble_eq_true rfl) dL_law_8 (fun h1 H hP hD hS => ?_)
  refine W.widen (k := 57) (n := 995) (by decide) (by decide) ?_
  refine lv_dup (pc := 11) hx hb dL_law_11 rfl ?_
  have hPc := hP.sub (ws' := [(h1, .inr (6, [.null, .int 0, .null, .int 0, .null, .null, .null, .int 0, .int 0, .null, .null, .null, .null]))]) [56] rfl
  have hDc := hD.sub (ws' := [(h1, .inr (6, [.null, .int 0, .null, .int 0, .null, .null, .null, .int 0, .int 0, .null, .null, .null, .null]))]) [56] (by decide) rfl
  have hFc := va_free (wc := [(h1, .inr (6, [.null, .int 0, .null, .int 0, .null, .null, .null, .int 0, .int 0, .null, .null, .null, .null]))]) hD hS hAl [56] rfl
  refine va_callv (va_runI (As := []) (rest := [.ref h1]) (g := F0 m 12 ls [.ref h1, .ref h1]) ⟨hx, hb, hml, hown, hts⟩ (ct_X6 l dC dI cI cJ cO h1 H.size) ⟨callB_of 0 hts (kgL kc_X6.1) rfl rfl rfl (hts _ ki_X6.2) (hts _ kl_L.2.1) (by decide +kernel) ⟨Nat.le_of_ble_eq_true rfl, Nat.le_of_ble_eq_true rfl⟩, rfl, hts _ kc_X6.2⟩ ⟨fun a U g mk q => ⟨q.1, q.2.1, q.2.2.1, q.2.2.2.1.calling g mk a, q.2.2.2.2⟩, fun U hU hW => ⟨rfl, by rw [hU], by rw [hU]; exact hPc, hKI.warm hW, hDc.weaken (fun _ _ _ _ => trivial)⟩⟩ rfl rfl hl.1 rfl (lv_room (Nat.le_of_ble_eq_true rfl)) dL_law_12 ⟨Nat.le_of_ble_eq_true rfl, Nat.le_of_ble_eq_true rfl⟩) hS (fun q _ h => hFc q h) hFc (fun r t H1 locs ht hvm hw hB hz1 hk1 hS => ?_)
  obtain ⟨hP1, hD1⟩ := hB
  rw [ht] at hP1
  obtain ⟨hP, hD⟩ := va_join (wr := wX5 cI cJ cO h0 q) (w1 := wX6 cI cJ cO h1 r) hP hD [56] [0, 1, 2, 3, 4, 5, 6, 7, 8, 9, 10, 11, 12, 13, 14, 15, 16, 17, 18, 19, 20, 21, 22, 23, 24, 25, 26, 27, 28, 29, 30, 31, 32, 33, 34, 35, 36, 37, 38, 39, 40, 41, 42, 43, 44, 45, 46, 47, 48, 49, 50, 51, 52, 53, 54, 55] rfl rfl (by decide) (by decide) hk1 hFc hP1 hD1
  generalize H1 = H at hP hS ⊢
  refine W.widen (k := 66) (n := 1894) (by decide) (by decide) ?_
  refine lv_astore_n (pc := 15) (lv' := [(2, .ref h1), (1, .ref h0), (0, .ref b)]) hx hb dL_law_15 rfl hl (by decide) rfl (fun ls hl => ?_)
  refine lv_iconst (pc := 16) (v := 0) hx hb dL_law_16 (by decide) ?_
  refine lv_istore_n (pc := 17) (lv' := [(3, .int 0), (2, .ref h1), (1, .ref h0), (0, .ref b)]) hx hb dL_law_17 rfl hl (by decide) rfl (fun ls hl => ?_)
  obtain ⟨k1, k2, k3, k4, k5⟩ := st_J (D := (dC, dI)) hD
  have hKx : kK (rg_x, (dC, dI), kca cI cJ cO, ad_x h0 q) s := ⟨hK, hN.1⟩
  have hKm : kK (rg_m, (dC, dI), kca cI cJ cO, ad_m h1 r) s := ⟨hK, hN.1⟩
  have hPP := st_P hP
  exact law_loop (g1 := ((dC, dI), kca cI cJ cO, ad_x h0 q)) (g2 := ((dC, dI), kca cI cJ cO, ad_m h1 r)) hL C0 ⟨⟨hKx, k1, rg_x_ok, k3⟩, ⟨hKm, k2, rg_m_ok, k4⟩, k5⟩ (hA _ _) hI 513 0 0 rfl (by omega) (Nat.zero_le _) Mx0 Mm0 hI0 H locs ls 0 nI_0.symm ⟨hPP.1, hPP.2, hS⟩ (lv_sub hl [3, 2, 1, 0] rfl)
