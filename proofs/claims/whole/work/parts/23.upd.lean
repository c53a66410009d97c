/-! ===== one place of a race changed ===== -/
theorem ku_ne {M : kM} {c k j a b d : Nat} {v : Int32} (h : ¬ (a = c ∧ b = k ∧ d = j)) : (ku M c k j v).1 a b d = M.1 a b d := if_neg h
theorem ku_eq {M : kM} {c k j : Nat} {v : Int32} : (ku M c k j v).1 c k j = v := if_pos ⟨rfl, rfl, rfl⟩
theorem ku_2 {M : kM} {c k j : Nat} {v : Int32} : (ku M c k j v).2 = M.2 := rfl
theorem kul_1 {M : kM} {c k j : Nat} {v : Int64} : (kul M c k j v).1 = M.1 := rfl
theorem kul_ne {M : kM} {c k j a b d : Nat} {v : Int64} (h : ¬ (a = c ∧ b = k ∧ d = j)) : (kul M c k j v).2 a b d = M.2 a b d := if_neg h
theorem kul_eq {M : kM} {c k j : Nat} {v : Int64} : (kul M c k j v).2 c k j = v := if_pos ⟨rfl, rfl, rfl⟩
def rup (R : Rc) (f j : Nat) (v : Int32) : Rc := fun a b => if a = f ∧ b = j then v else R a b
theorem rup_eq {R : Rc} {f j : Nat} {v : Int32} : rup R f j v f j = v := if_pos ⟨rfl, rfl⟩
theorem rup_ne {R : Rc} {f j a b : Nat} {v : Int32} (h : ¬ (a = f ∧ b = j)) : rup R f j v a b = R a b := if_neg h
theorem fln_up {R : Rc} {f j a : Nat} {v : Int32} (hf : ¬ (f = 0 ∧ j < 2)) : fln (rup R f j v) a = fln R a := by
  unfold fln
  rw [rup_ne (by omega), rup_ne (by omega)]
theorem req.up {R T : Rc} (h : req R T) (f j : Nat) (v : Int32) (hf : ¬ (f = 0 ∧ j < 2) := by omega) : req (rup R f j v) (rup T f j v) := by
  intro a b ha hb
  rw [fln_up hf] at hb
  unfold rup
  by_cases q : a = f ∧ b = j
  · rw [if_pos q, if_pos q]
  · rw [if_neg q, if_neg q]
    exact h a b ha hb
/-- one stage more -/
theorem req.upS {R T : Rc} {S : Nat} (h : req R T) (e : R 0 0 = nI S) (hS : S < 8) (he : ∀ f, 1 ≤ f → f ≤ 3 → R f S = T f S) : req (rup R 0 0 (nI (S + 1))) (rup T 0 0 (nI (S + 1))) := by
  intro a b ha hb
  by_cases q : a = 0 ∧ b = 0
  · unfold rup
    rw [if_pos q, if_pos q]
  · rw [rup_ne q, rup_ne q]
    unfold fln at hb
    rw [rup_eq, rup_ne (by omega), q_cl (by omega)] at hb
    by_cases h0 : a = 0
    · subst h0
      rw [if_pos rfl] at hb
      exact h.z b hb
    · rw [if_neg h0] at hb
      by_cases h3 : a ≤ 3
      · rw [if_pos h3] at hb
        by_cases eb : b = S
        · subst eb
          exact he a (by omega) h3
        · refine h a b ha ?_
          unfold fln
          rw [if_neg h0, if_pos h3, e, q_cl (by omega)]
          omega
      · rw [if_neg h3] at hb
        refine h a b ha ?_
        unfold fln
        rw [if_neg h0, if_neg h3]
        exact hb
/-- one rider more -/
theorem req.upR {R T : Rc} {r : Nat} (h : req R T) (e : R 0 1 = nI r) (hr : r < 4) (he : ∀ f, 4 ≤ f → f < 9 → R f r = T f r) : req (rup R 0 1 (nI (r + 1))) (rup T 0 1 (nI (r + 1))) := by
  intro a b ha hb
  by_cases q : a = 0 ∧ b = 1
  · unfold rup
    rw [if_pos q, if_pos q]
  · rw [rup_ne q, rup_ne q]
    unfold fln at hb
    rw [rup_ne (by omega), rup_eq, q_cl (by omega)] at hb
    by_cases h0 : a = 0
    · subst h0
      rw [if_pos rfl] at hb
      exact h.z b hb
    · rw [if_neg h0] at hb
      by_cases h3 : a ≤ 3
      · rw [if_pos h3] at hb
        refine h a b ha ?_
        unfold fln
        rw [if_neg h0, if_pos h3]
        exact hb
      · rw [if_neg h3] at hb
        by_cases eb : b = r
        · subst eb
          exact he a (by omega) ha
        · refine h a b ha ?_
          unfold fln
          rw [if_neg h0, if_neg h3, e, q_cl (by omega)]
          omega
theorem rx_u0 {M : kM} {k j : Nat} {v : Int32} : rx (ku M 1 k j v) k = rup (rx M k) 0 j v := by
  funext a b
  unfold rup
  rcases a with _ | _ | _ | _ | _ | _ | _ | _ | _ | a <;> simp [rx, ku]
theorem rx_u1 {M : kM} {k j : Nat} {v : Int32} : rx (ku M 7 k j v) k = rup (rx M k) 1 j v := by
  funext a b
  unfold rup
  rcases a with _ | _ | _ | _ | _ | _ | _ | _ | _ | a <;> simp [rx, ku]
theorem rx_u2 {M : kM} {k j : Nat} {v : Int32} : rx (ku M 8 k j v) k = rup (rx M k) 2 j v := by
  funext a b
  unfold rup
  rcases a with _ | _ | _ | _ | _ | _ | _ | _ | _ | a <;> simp [rx, ku]
theorem rx_u3 {M : kM} {k j : Nat} {v : Int32} : rx (ku M 9 k j v) k = rup (rx M k) 3 j v := by
  funext a b
  unfold rup
  rcases a with _ | _ | _ | _ | _ | _ | _ | _ | _ | a <;> simp [rx, ku]
theorem rx_u4 {M : kM} {k j : Nat} {v : Int32} : rx (ku M 10 k j v) k = rup (rx M k) 4 j v := by
  funext a b
  unfold rup
  rcases a with _ | _ | _ | _ | _ | _ | _ | _ | _ | a <;> simp [rx, ku]
theorem rx_u5 {M : kM} {k j : Nat} {v : Int32} : rx (ku M 11 k j v) k = rup (rx M k) 5 j v := by
  funext a b
  unfold rup
  rcases a with _ | _ | _ | _ | _ | _ | _ | _ | _ | a <;> simp [rx, ku]
theorem rx_u6 {M : kM} {k j : Nat} {v : Int32} : rx (ku M 12 k j v) k = rup (rx M k) 6 j v := by
  funext a b
  unfold rup
  rcases a with _ | _ | _ | _ | _ | _ | _ | _ | _ | a <;> simp [rx, ku]
theorem rx_u7 {M : kM} {k j : Nat} {v : Int32} : rx (ku M 13 k j v) k = rup (rx M k) 7 j v := by
  funext a b
  unfold rup
  rcases a with _ | _ | _ | _ | _ | _ | _ | _ | _ | a <;> simp [rx, ku]
theorem rx_u8 {M : kM} {k j : Nat} {v : Int32} : rx (ku M 14 k j v) k = rup (rx M k) 8 j v := by
  funext a b
  unfold rup
  rcases a with _ | _ | _ | _ | _ | _ | _ | _ | _ | a <;> simp [rx, ku]
theorem rx_o {M : kM} {c k' k j : Nat} {v : Int32} (h : ¬ (k' = k ∧ (c = 1 ∨ 7 ≤ c ∧ c ≤ 14))) : rx (ku M c k' j v) k = rx M k := rx_cg (fun a b hc => ku_ne (by omega))
def wof : Nat → Nat → Nat
  | 0, 0 => 21
  | 0, 1 => 22
  | 0, 2 => 23
  | 0, _ => 20
  | 1, j => 24 + j
  | 2, j => 32 + j
  | 3, j => j
  | 4, j => 40 + j
  | 5, j => 8 + j
  | 6, j => 12 + j
  | 7, j => 16 + j
  | _, j => 44 + j
theorem wof_rmd {M : kM} {h f j : Nat} (hf : f < 9) (hj : j < flen f) : rmd M h f j = M.1 1 0 (h + wof f j) := by
  rcases (show f = 0 ∨ f = 1 ∨ f = 2 ∨ f = 3 ∨ f = 4 ∨ f = 5 ∨ f = 6 ∨ f = 7 ∨ f = 8 by omega) with rfl | rfl | rfl | rfl | rfl | rfl | rfl | rfl | rfl
  · have hj' : j < 4 := hj
    rcases (show j = 0 ∨ j = 1 ∨ j = 2 ∨ j = 3 by omega) with rfl | rfl | rfl | rfl <;> rfl
  · exact congrArg (M.1 1 0) (Nat.add_assoc _ _ _)
  · exact congrArg (M.1 1 0) (Nat.add_assoc _ _ _)
  · rfl
  · exact congrArg (M.1 1 0) (Nat.add_assoc _ _ _)
  · exact congrArg (M.1 1 0) (Nat.add_assoc _ _ _)
  · exact congrArg (M.1 1 0) (Nat.add_assoc _ _ _)
  · exact congrArg (M.1 1 0) (Nat.add_assoc _ _ _)
  · exact congrArg (M.1 1 0) (Nat.add_assoc _ _ _)
theorem wof_inj : ∀ f, f < 9 → ∀ j, j < flen f → ∀ a, a < 9 → ∀ b, b < flen a → wof a b = wof f j → a = f ∧ b = j := by
  have h8 : ∀ f, flen f ≤ 8 := fun f => by unfold flen; split; omega; split; omega; omega
  have h : ∀ f : Fin 9, ∀ j : Fin 8, ∀ a : Fin 9, ∀ b : Fin 8, j.1 < flen f.1 → b.1 < flen a.1 → wof a.1 b.1 = wof f.1 j.1 → a = f ∧ b = j := by decide +kernel
  intro f hf j hj a ha b hb e
  have h1 := h8 f
  have h2 := h8 a
  have := h ⟨f, hf⟩ ⟨j, by omega⟩ ⟨a, ha⟩ ⟨b, by omega⟩ hj hb e
  exact ⟨congrArg Fin.val this.1, congrArg Fin.val this.2⟩
theorem wof_lt : ∀ f, f < 9 → ∀ j, j < flen f → wof f j < 48 := by
  have h8 : ∀ f, flen f ≤ 8 := fun f => by unfold flen; split; omega; split; omega; omega
  have h : ∀ f : Fin 9, ∀ j : Fin 8, j.1 < flen f.1 → wof f.1 j.1 < 48 := by decide +kernel
  intro f hf j hj
  have h1 := h8 f
  exact h ⟨f, hf⟩ ⟨j, by omega⟩ hj
theorem rmd_u {M : kM} {h i f j : Nat} {v : Int32} (hi : i = h + wof f j) (hf : f < 9) (hj : j < flen f) : req (rmd (ku M 1 0 i v) h) (rup (rmd M h) f j v) := by
  refine reqF.w (fun a b ha hb => ?_)
  rw [wof_rmd ha hb]
  unfold rup
  by_cases q : a = f ∧ b = j
  · obtain ⟨rfl, rfl⟩ := q
    rw [if_pos ⟨rfl, rfl⟩, ← hi]
    exact ku_eq
  · rw [if_neg q, wof_rmd ha hb]
    exact ku_ne (fun z => q (wof_inj f hf j hj a ha b hb (by omega)))
theorem rmd_o {M : kM} {c k' h i : Nat} {v : Int32} (hi : c ≠ 1 ∨ k' ≠ 0 ∨ i < h ∨ h + 48 ≤ i) : req (rmd (ku M c k' i v) h) (rmd M h) := by
  refine reqF.w (fun a b ha hb => ?_)
  have := wof_lt a ha b hb
  rw [wof_rmd ha hb, wof_rmd ha hb]
  exact ku_ne (by omega)
theorem rok.up {R : Rc} {S r f j : Nat} {v : Int32} (h : rok R S r) (hf : f ≠ 5) (h0 : ¬ (f = 0 ∧ j < 2)) : rok (rup R f j v) S r := by
  obtain ⟨h1, h2, h3, h4, h5⟩ := h
  refine ⟨by rw [rup_ne (by omega)]; exact h1, h2, by rw [rup_ne (by omega)]; exact h3, h4, fun a ha => ?_⟩
  rw [rup_ne (by omega)]
  exact h5 a ha
theorem rbd.up {R : Rc} {S r n f j : Nat} {v : Int32} (h : rbd R S r n) (hf : f ≠ 1) (hf2 : f ≠ 6) : rbd (rup R f j v) S r n := by
  refine ⟨fun a ha => ?_, fun a ha => ?_⟩
  · rw [rup_ne (by omega)]
    exact h.1 a ha
  · rw [rup_ne (by omega)]
    exact h.2 a ha
/-- one place of now, or of the image, changed on both sides -/
theorem rel.put {Mx Mm Mx' : kM} {k h n f j i : Nat} {v : Int32} (hr : rel Mx k Mm h n) (e : rx Mx' k = rup (rx Mx k) f j v) (ec : ∀ c d, (c = 2 ∨ c = 15) → Mx'.1 c k d = Mx.1 c k d) (hi : i = h + wof f j) (hf : f < 9) (hj : j < flen f) (h5 : f ≠ 5) (h0 : ¬ (f = 0 ∧ j < 2)) (h1 : f ≠ 1) (h6 : f ≠ 6) : rel Mx' k (ku Mm 1 0 i v) h n := by
  obtain ⟨S, r, a, b, c, d⟩ := hr
  have hw := wof_lt f hf j hj
  refine ⟨S, r, ?_⟩
  rw [e]
  exact ⟨(a.up f j v).trans (rmd_u hi hf hj).symm, b.up h5 h0, c.up h1 h6, d.cg ec (fun z z1 z2 => ku_ne (by omega))⟩
/-- a call that changes now alone -/
theorem Inv.now {n : Nat} {Mx Mx' Mm Mm' : kM} (h : Inv n Mx Mm) (hx : ∀ c i j, (c = 0 ∨ c = 4 ∨ c = 5 ∨ c = 17 ∨ i = 1 ∧ (c = 1 ∨ c = 2 ∨ 7 ≤ c ∧ c ≤ 15)) → Mx'.1 c i j = Mx.1 c i j) (hx2 : Mx'.2 = Mx.2) (hm : ∀ j, 217 ≤ j → j < 434 → Mm'.1 1 0 j = Mm.1 1 0 j) (hm1 : ∀ c j, (c = 0 ∧ j < 7 ∨ c = 2 ∨ c = 4 ∨ c = 5) → Mm'.1 c 0 j = Mm.1 c 0 j) (hm2 : Mm'.2 = Mm.2) (hr : rel Mx' 0 Mm' 0 (n + 1)) : Inv (n + 1) Mx' Mm' := by
  refine ⟨hr, ?_, h.2.2.1.cg (fun c j hc => hx c 0 j (by omega)) (fun c j hc => hm1 c j (by omega)), fun s hs => (h.2.2.2 s hs).cg (fun j => hx 5 s j (by omega)) (fun j => by rw [hx2]) (fun c hc => hm1 c s (by omega)) (fun j _ _ => by rw [hm2])⟩
  unfold img
  rw [hx 0 0 4 (by omega), hm1 0 1 (by omega)]
  exact h.2.1.mono.imp id (fun q => ⟨q.1, q.2.1, q.2.2.cg (fun c j hc => hx c 1 j (by omega)) (fun j b1 b2 => hm j b1 (by omega))⟩)
