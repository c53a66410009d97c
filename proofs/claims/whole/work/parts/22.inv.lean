/-! ===== what class and reference have in common between calls ===== -/
def B (n : Nat) : Nat := 1000 + 6000 * n
def rbd (R : Rc) (S r n : Nat) : Prop := (∀ j, j < S → ∃ m, 1 ≤ m ∧ m ≤ 9 ∧ R 1 j = nI m) ∧ ∀ i, i < r → ∃ t, t ≤ B n ∧ R 6 i = nI t
/-- what is known of an earlier time: place q of the ring -/
def mkx (M : kM) (k q : Nat) : Rc
  | 3, j => M.1 15 k (21 * q + 12 + j)
  | 5, j => M.1 15 k (21 * q + j)
  | 6, j => M.1 15 k (21 * q + 4 + j)
  | 7, j => M.1 15 k (21 * q + 8 + j)
  | _, _ => M.1 15 k (21 * q + 20)
def ceqF (R T : Rc) : Prop := R 0 3 = T 0 3 ∧ ∀ f j, (f = 3 ∨ f = 5 ∨ f = 6 ∨ f = 7) → j < flen f → R f j = T f j
def ceq (S r : Nat) (R T : Rc) : Prop := R 0 3 = T 0 3 ∧ ∀ f j, (f = 3 ∨ f = 5 ∨ f = 6 ∨ f = 7) → j < flen f ∧ (f = 3 → j < S) ∧ (f ≠ 3 → j < r) → R f j = T f j
theorem ceqF.w {R T : Rc} (h : ceqF R T) {S r : Nat} : ceq S r R T := ⟨h.1, fun f j hf hj => h.2 f j hf hj.1⟩
def mok (R : Rc) (S r n : Nat) : Prop := (∀ a, a < r → ∃ b, b ≤ S ∧ R 5 a = nI b) ∧ ∀ a, a < r → ∃ t, t ≤ B n ∧ R 6 a = nI t
def und (Mx : kM) (k : Nat) (Mm : kM) (h S r n : Nat) : Prop := ∃ u x, u ≤ 8 ∧ x < 8 ∧ Mx.1 2 k 0 = nI u ∧ Mx.1 2 k 1 = nI x ∧ Mm.1 1 0 (h + 48) = nI u ∧ ∀ i, i < u → ceq S r (mkx Mx k ((x + 8 - u + i) % 8)) (rmd Mm (h + 49 + 21 * i)) ∧ mok (mkx Mx k ((x + 8 - u + i) % 8)) S r n
def rel (Mx : kM) (k : Nat) (Mm : kM) (h n : Nat) : Prop := ∃ S r, req (rx Mx k) (rmd Mm h) ∧ rok (rx Mx k) S r ∧ rbd (rx Mx k) S r n ∧ und Mx k Mm h S r n
def img (Mx Mm : kM) (n : Nat) : Prop := (Mx.1 0 0 4 = 0 ∧ Mm.1 0 0 1 = 0) ∨ (Mx.1 0 0 4 = 1 ∧ Mm.1 0 0 1 = 1 ∧ rel Mx 1 Mm 217 n)
def tap (Mx Mm : kM) : Prop := ∃ t, t ≤ 90 ∧ Mx.1 4 0 2 = nI t ∧ Mm.1 0 0 3 = nI t ∧ ∀ j, j < t → ∃ v, 32 ≤ v ∧ v ≤ 126 ∧ Mx.1 17 0 j = nI v ∧ Mm.1 2 0 j = nI v
def sh1 (Mx Mm : kM) (s : Nat) : Prop := (Mx.1 5 s 0 = -1 ∧ Mm.1 5 0 s = -1) ∨ ∃ z, z ≤ 24 ∧ ¬ Mx.1 5 s 0 = -1 ∧ Mx.1 5 s 0 = Mm.1 4 0 s ∧ Mx.1 5 s 1 = nI z ∧ Mm.1 5 0 s = nI z ∧ ∀ j, j < 24 → Mx.2 18 s j = Mm.2 3 0 (24 * s + j)
def sht (Mx Mm : kM) : Prop := ∀ s, s < 4 → sh1 Mx Mm s
def Inv (n : Nat) (Mx Mm : kM) : Prop := rel Mx 0 Mm 0 n ∧ img Mx Mm n ∧ tap Mx Mm ∧ sht Mx Mm
theorem B_mono {n t : Nat} (h : t ≤ B n) : t ≤ B (n + 1) := by unfold B at *; omega
theorem rbd.mono {R : Rc} {S r n : Nat} (h : rbd R S r n) : rbd R S r (n + 1) := ⟨h.1, fun i hi => (let ⟨t, a, b⟩ := h.2 i hi; ⟨t, B_mono a, b⟩)⟩
theorem mok.mono {R : Rc} {S r n : Nat} (h : mok R S r n) : mok R S r (n + 1) := ⟨h.1, fun i hi => (let ⟨t, a, b⟩ := h.2 i hi; ⟨t, B_mono a, b⟩)⟩
theorem und.mono {Mx Mm : kM} {k h S r n : Nat} (hu : und Mx k Mm h S r n) : und Mx k Mm h S r (n + 1) := by
  obtain ⟨u, x, a1, a2, a3, a4, a5, a6⟩ := hu
  exact ⟨u, x, a1, a2, a3, a4, a5, fun i hi => ⟨(a6 i hi).1, (a6 i hi).2.mono⟩⟩
theorem rel.mono {Mx Mm : kM} {k h n : Nat} (hr : rel Mx k Mm h n) : rel Mx k Mm h (n + 1) := by
  obtain ⟨S, r, a, b, c, d⟩ := hr
  exact ⟨S, r, a, b, c.mono, d.mono⟩
theorem img.mono {Mx Mm : kM} {n : Nat} (h : img Mx Mm n) : img Mx Mm (n + 1) := h.imp id (fun q => ⟨q.1, q.2.1, q.2.2.mono⟩)
theorem Inv.mono {n : Nat} {Mx Mm : kM} (h : Inv n Mx Mm) : Inv (n + 1) Mx Mm := ⟨h.1.mono, h.2.1.mono, h.2.2⟩
theorem rx_cg {M M' : kM} {k : Nat} (h : ∀ c j, (c = 1 ∨ 7 ≤ c ∧ c ≤ 14) → M'.1 c k j = M.1 c k j) : rx M' k = rx M k := by
  funext f j
  rcases f with _ | _ | _ | _ | _ | _ | _ | _ | _ | f
  · exact h 1 j (Or.inl rfl)
  · exact h 7 j (Or.inr (by decide))
  · exact h 8 j (Or.inr (by decide))
  · exact h 9 j (Or.inr (by decide))
  · exact h 10 j (Or.inr (by decide))
  · exact h 11 j (Or.inr (by decide))
  · exact h 12 j (Or.inr (by decide))
  · exact h 13 j (Or.inr (by decide))
  · exact h 14 j (Or.inr (by decide))
  · rfl
/-- the places of a race lie within its 49 -/
theorem rmd_cg {M M' : kM} {h : Nat} (hm : ∀ j, h ≤ j → j < h + 49 → M'.1 1 0 j = M.1 1 0 j) : req (rmd M' h) (rmd M h) := by
  refine reqF.w (fun f j hf hj => ?_)
  have hk : f = 0 ∨ f = 1 ∨ f = 2 ∨ f = 3 ∨ f = 4 ∨ f = 5 ∨ f = 6 ∨ f = 7 ∨ f = 8 := by omega
  rcases hk with rfl | rfl | rfl | rfl | rfl | rfl | rfl | rfl | rfl
  · have hj' : j < 4 := hj
    rcases (show j = 0 ∨ j = 1 ∨ j = 2 ∨ j = 3 by omega) with rfl | rfl | rfl | rfl <;> exact hm _ (by omega) (by omega)
  · have hj' : j < 8 := hj
    exact hm _ (by omega) (by omega)
  · have hj' : j < 8 := hj
    exact hm _ (by omega) (by omega)
  · have hj' : j < 8 := hj
    exact hm _ (by omega) (by omega)
  · have hj' : j < 4 := hj
    exact hm _ (by omega) (by omega)
  · have hj' : j < 4 := hj
    exact hm _ (by omega) (by omega)
  · have hj' : j < 4 := hj
    exact hm _ (by omega) (by omega)
  · have hj' : j < 4 := hj
    exact hm _ (by omega) (by omega)
  · have hj' : j < 4 := hj
    exact hm _ (by omega) (by omega)
theorem rmd_cgc {M M' : kM} {h : Nat} (hm : ∀ j, h ≤ j → j < h + 21 → M'.1 1 0 j = M.1 1 0 j) : ceqF (rmd M' h) (rmd M h) := by
  refine ⟨hm _ (by omega) (by omega), fun f j hf hj => ?_⟩
  rcases hf with rfl | rfl | rfl | rfl
  · have hj' : j < 8 := hj
    exact hm _ (by omega) (by omega)
  · have hj' : j < 4 := hj
    exact hm _ (by omega) (by omega)
  · have hj' : j < 4 := hj
    exact hm _ (by omega) (by omega)
  · have hj' : j < 4 := hj
    exact hm _ (by omega) (by omega)
theorem ceq.trans {S r : Nat} {R T U : Rc} (h : ceq S r R T) (h2 : ceq S r T U) : ceq S r R U := ⟨h.1.trans h2.1, fun f j a b => (h.2 f j a b).trans (h2.2 f j a b)⟩
theorem ceq.symm {S r : Nat} {R T : Rc} (h : ceq S r R T) : ceq S r T R := ⟨h.1.symm, fun f j a b => (h.2 f j a b).symm⟩
theorem req.core {S r : Nat} {R T : Rc} (h : req R T) (ok : rok R S r) : ceq S r R T := by
  refine ⟨h.z 3 (by decide), fun f j a b => h f j (by omega) ?_⟩
  by_cases e : f = 3
  · exact fln_s ok (by omega) (by omega) (b.2.1 e)
  · exact fln_r ok (by omega) (b.2.2 e)
theorem mkx_cg {M M' : kM} {k : Nat} (h : ∀ j, M'.1 15 k j = M.1 15 k j) (q : Nat) : mkx M' k q = mkx M k q := by
  funext f j
  rcases f with _ | _ | _ | _ | _ | _ | _ | _ | f <;> exact h _
theorem und.cg {Mx Mx' Mm Mm' : kM} {k h S r n : Nat} (hx : ∀ c j, (c = 2 ∨ c = 15) → Mx'.1 c k j = Mx.1 c k j) (hm : ∀ j, h + 48 ≤ j → j < h + 217 → Mm'.1 1 0 j = Mm.1 1 0 j) (hu : und Mx k Mm h S r n) : und Mx' k Mm' h S r n := by
  obtain ⟨u, x, a1, a2, a3, a4, a5, a6⟩ := hu
  refine ⟨u, x, a1, a2, by rw [hx 2 0 (Or.inl rfl)]; exact a3, by rw [hx 2 1 (Or.inl rfl)]; exact a4, by rw [hm _ (by omega) (by omega)]; exact a5, fun i hi => ?_⟩
  rw [mkx_cg (fun j => hx 15 j (Or.inr rfl))]
  exact ⟨(a6 i hi).1.trans (rmd_cgc (fun j b1 b2 => hm j (by omega) (by omega))).w.symm, (a6 i hi).2⟩
theorem rel.cg {Mx Mx' Mm Mm' : kM} {k h n : Nat} (hx : ∀ c j, (c = 1 ∨ c = 2 ∨ 7 ≤ c ∧ c ≤ 15) → Mx'.1 c k j = Mx.1 c k j) (hm : ∀ j, h ≤ j → j < h + 217 → Mm'.1 1 0 j = Mm.1 1 0 j) (hr : rel Mx k Mm h n) : rel Mx' k Mm' h n := by
  obtain ⟨S, r, a, b, c, d⟩ := hr
  refine ⟨S, r, ?_⟩
  rw [rx_cg (fun c j hc => hx c j (by omega))]
  exact ⟨a.trans (rmd_cg (fun j b1 b2 => hm j b1 (by omega))).symm, b, c, d.cg (fun c j hc => hx c j (by omega)) (fun j b1 b2 => hm j (by omega) b2)⟩
theorem tap.cg {Mx Mx' Mm Mm' : kM} (hx : ∀ c j, (c = 4 ∧ j = 2 ∨ c = 17) → Mx'.1 c 0 j = Mx.1 c 0 j) (hm : ∀ c j, (c = 0 ∧ j = 3 ∨ c = 2) → Mm'.1 c 0 j = Mm.1 c 0 j) (h : tap Mx Mm) : tap Mx' Mm' := by
  obtain ⟨t, h1, h2, h3, h4⟩ := h
  refine ⟨t, h1, by rw [hx 4 2 (Or.inl ⟨rfl, rfl⟩)]; exact h2, by rw [hm 0 3 (Or.inl ⟨rfl, rfl⟩)]; exact h3, fun j hj => ?_⟩
  rw [hx 17 j (Or.inr rfl), hm 2 j (Or.inr rfl)]
  exact h4 j hj
theorem sh1.cg {Mx Mx' Mm Mm' : kM} {s : Nat} (hx : ∀ j, Mx'.1 5 s j = Mx.1 5 s j) (hx2 : ∀ j, Mx'.2 18 s j = Mx.2 18 s j) (hm : ∀ c, (c = 4 ∨ c = 5) → Mm'.1 c 0 s = Mm.1 c 0 s) (hm2 : ∀ j, 24 * s ≤ j → j < 24 * s + 24 → Mm'.2 3 0 j = Mm.2 3 0 j) (h : sh1 Mx Mm s) : sh1 Mx' Mm' s := by
  unfold sh1
  rw [hx 0, hx 1, hm 4 (Or.inl rfl), hm 5 (Or.inr rfl)]
  rcases h with h | ⟨z, a1, a2, a3, a4, a5, a6⟩
  · exact Or.inl h
  · refine Or.inr ⟨z, a1, a2, a3, a4, a5, fun j hj => ?_⟩
    rw [hx2, hm2 _ (by omega) (by omega)]
    exact a6 j hj
/-- behind a call that only foretells: its own rows alone may differ -/
def xsame (Mx Mx' : kM) : Prop := (∀ c i j, (c = 0 ∨ c = 4 ∨ c = 5 ∨ c = 17 ∨ c = 2 ∨ c = 15 ∨ (i < 2 ∧ (c = 1 ∨ 7 ≤ c ∧ c ≤ 14))) → Mx'.1 c i j = Mx.1 c i j) ∧ Mx'.2 = Mx.2
def msame (Mm Mm' : kM) : Prop := (∀ j, j < 434 → Mm'.1 1 0 j = Mm.1 1 0 j) ∧ (∀ c j, (c = 0 ∧ j < 7 ∨ c = 2 ∨ c = 4 ∨ c = 5) → Mm'.1 c 0 j = Mm.1 c 0 j) ∧ Mm'.2 = Mm.2
theorem xsame.refl (Mx : kM) : xsame Mx Mx := ⟨fun _ _ _ _ => rfl, rfl⟩
theorem msame.refl (Mm : kM) : msame Mm Mm := ⟨fun _ _ => rfl, fun _ _ _ => rfl, rfl⟩
theorem xsame.trans {a b c : kM} (h : xsame a b) (h2 : xsame b c) : xsame a c := ⟨fun x i j hc => (h2.1 x i j hc).trans (h.1 x i j hc), h2.2.trans h.2⟩
theorem msame.trans {a b c : kM} (h : msame a b) (h2 : msame b c) : msame a c := ⟨fun j hj => (h2.1 j hj).trans (h.1 j hj), fun x j hc => (h2.2.1 x j hc).trans (h.2.1 x j hc), h2.2.2.trans h.2.2⟩
theorem Inv.same {n : Nat} {Mx Mx' Mm Mm' : kM} (h : Inv n Mx Mm) (hx : xsame Mx Mx') (hm : msame Mm Mm') : Inv n Mx' Mm' := by
  obtain ⟨x1, x2⟩ := hx
  obtain ⟨m1, m2, m3⟩ := hm
  refine ⟨h.1.cg (fun c j hc => x1 c 0 j (by omega)) (fun j _ hj => m1 j (by omega)), ?_, h.2.2.1.cg (fun c j hc => x1 c 0 j (by omega)) (fun c j hc => m2 c j (by omega)), fun s hs => (h.2.2.2 s hs).cg (fun j => x1 5 s j (by omega)) (fun j => by rw [x2]) (fun c hc => m2 c s (by omega)) (fun j _ _ => by rw [m3])⟩
  unfold img
  rw [x1 0 0 4 (by omega), m2 0 1 (by omega)]
  exact h.2.1.imp id (fun q => ⟨q.1, q.2.1, q.2.2.cg (fun c j hc => x1 c 1 j (by omega)) (fun j _ hj => m1 j (by omega))⟩)
theorem Inv.next {n : Nat} {Mx Mx' Mm Mm' : kM} (h : Inv n Mx Mm) (hx : xsame Mx Mx') (hm : msame Mm Mm') : Inv (n + 1) Mx' Mm' := (h.same hx hm).mono
theorem B_999 {m n : Nat} (h : m ≤ 999) : m ≤ B n := by
  unfold B
  omega
