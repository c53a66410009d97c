/-! ===== the stages, the riders on the tape ===== -/
def tcons {α : Type} (a : α) : TR (List α × Nat) → TR (List α × Nat)
  | .inl q => .inl q
  | .inr (l, p) => .inr (a :: l, p)
def aSts (t : Nat) (L : Nat → Nat) : Nat → Nat → TR (List (Nat × Nat × Nat) × Nat)
  | 0, p => .inl p
  | f + 1, p => match aStg t L p with
    | .inl q => .inl q
    | .inr (v1, v2, v3, p1) => tcons (v1, v2, v3) (if tlc t L (tsk t L p1) = 59 then .inr ([], tsk t L p1 + 1) else if f = 0 then .inl (tsk t L p1) else if tlc t L (tsk t L p1) = 44 then aSts t L f (tsk t L p1 + 1) else .inl (tsk t L p1))
def aftS (t : Nat) (L : Nat → Nat) (f p1 : Nat) : TR (List (Nat × Nat × Nat) × Nat) := if tlc t L (tsk t L p1) = 59 then .inr ([], tsk t L p1 + 1) else if f = 0 then .inl (tsk t L p1) else if tlc t L (tsk t L p1) = 44 then aSts t L f (tsk t L p1 + 1) else .inl (tsk t L p1)
def aRds (t : Nat) (L : Nat → Nat) (S : Nat) : Nat → Nat → TR (List (Nat × Nat × Nat × Nat) × Nat)
  | 0, p => .inl p
  | f + 1, p => match aRd t L S p with
    | .inl q => .inl q
    | .inr (kd, st, co, m, p1) => tcons (kd, st, co, m) (if tlc t L (tsk t L p1) = 0 then .inr ([], tsk t L p1) else if f = 0 then .inl (tsk t L p1) else if tlc t L (tsk t L p1) = 44 then aRds t L S f (tsk t L p1 + 1) else .inl (tsk t L p1))
def aftR (t : Nat) (L : Nat → Nat) (S f p1 : Nat) : TR (List (Nat × Nat × Nat × Nat) × Nat) := if tlc t L (tsk t L p1) = 0 then .inr ([], tsk t L p1) else if f = 0 then .inl (tsk t L p1) else if tlc t L (tsk t L p1) = 44 then aRds t L S f (tsk t L p1 + 1) else .inl (tsk t L p1)
section KAL
variable {t : Nat} {L : Nat → Nat} {S f p p1 q v1 v2 v3 kd st co m : Nat}
theorem aSts_1 (e : aStg t L p = .inl q) : aSts t L (f + 1) p = .inl q := by
  unfold aSts
  rw [e]
theorem aSts_2 (e : aStg t L p = .inr (v1, v2, v3, p1)) : aSts t L (f + 1) p = tcons (v1, v2, v3) (aftS t L f p1) := by
  unfold aSts
  rw [e]
  rfl
theorem aftS_1 (c : tlc t L (tsk t L p1) = 59) : aftS t L f p1 = .inr ([], tsk t L p1 + 1) := if_pos c
theorem aftS_2 (c : ¬ tlc t L (tsk t L p1) = 59) : aftS t L 0 p1 = .inl (tsk t L p1) := by
  unfold aftS
  rw [if_neg c, if_pos rfl]
theorem aftS_3 (c : ¬ tlc t L (tsk t L p1) = 59) (d : tlc t L (tsk t L p1) = 44) : aftS t L (f + 1) p1 = aSts t L (f + 1) (tsk t L p1 + 1) := by
  unfold aftS
  rw [if_neg c, if_neg (by omega), if_pos d]
theorem aftS_4 (c : ¬ tlc t L (tsk t L p1) = 59) (d : ¬ tlc t L (tsk t L p1) = 44) : aftS t L f p1 = .inl (tsk t L p1) := by
  unfold aftS
  rw [if_neg c, if_neg d]
  split <;> rfl
theorem aRds_1 (e : aRd t L S p = .inl q) : aRds t L S (f + 1) p = .inl q := by
  unfold aRds
  rw [e]
theorem aRds_2 (e : aRd t L S p = .inr (kd, st, co, m, p1)) : aRds t L S (f + 1) p = tcons (kd, st, co, m) (aftR t L S f p1) := by
  unfold aRds
  rw [e]
  rfl
theorem aftR_1 (c : tlc t L (tsk t L p1) = 0) : aftR t L S f p1 = .inr ([], tsk t L p1) := if_pos c
theorem aftR_2 (c : ¬ tlc t L (tsk t L p1) = 0) : aftR t L S 0 p1 = .inl (tsk t L p1) := by
  unfold aftR
  rw [if_neg c, if_pos rfl]
theorem aftR_3 (d : tlc t L (tsk t L p1) = 44) : aftR t L S (f + 1) p1 = aRds t L S (f + 1) (tsk t L p1 + 1) := by
  unfold aftR
  rw [if_neg (by omega), if_neg (by omega), if_pos d]
theorem aftR_4 (c : ¬ tlc t L (tsk t L p1) = 0) (d : ¬ tlc t L (tsk t L p1) = 44) : aftR t L S f p1 = .inl (tsk t L p1) := by
  unfold aftR
  rw [if_neg c, if_neg d]
  split <;> rfl
theorem aftR_tsk : aftR t L S f (tsk t L p1) = aftR t L S f p1 := by
  unfold aftR
  rw [tsk_tsk]
theorem aftS_tsk : aftS t L f (tsk t L p1) = aftS t L f p1 := by
  unfold aftS
  rw [tsk_tsk]
theorem adg_f {lo hi : Nat} (hp : p ≤ t) (e : adg t L lo hi p = .inl q) : q ≤ t := by
  rw [(adg_no e).1]
  exact tsk_le hp
theorem anb_f {mx : Nat} (hp : p ≤ t) (e : anb t L mx p = .inl q) : q ≤ t := by
  have := tsk_le (L := L) hp
  unfold anb anf at e
  split at e
  · split at e
    · exact absurd e (by intro z; cases z)
    · have := Sum.inl.inj e
      omega
  · have := Sum.inl.inj e
    omega
theorem aStg_f (hp : p ≤ t) (e : aStg t L p = .inl q) : q ≤ t := by
  rcases e1 : adg t L 1 9 p with f | ⟨w1, p1⟩
  · rw [aStg_1 e1] at e
    cases e
    exact adg_f hp e1
  · have h1 := adg_ok e1
    rcases e2 : adg t L 0 9 p1 with f | ⟨w2, p2⟩
    · rw [aStg_2 e1 e2] at e
      cases e
      exact adg_f h1.2.2.1 e2
    · have h2 := adg_ok e2
      rcases e3 : adg t L 0 4 p2 with f | ⟨w3, p3⟩
      · rw [aStg_3 e1 e2 e3] at e
        cases e
        exact adg_f h2.2.2.1 e3
      · rw [aStg_4 e1 e2 e3] at e
        exact absurd e (by intro z; cases z)
theorem aRd_f (hp : p ≤ t) (hS : S ≤ 8) (h : aRd t L S p = .inl q) : q ≤ t := by
  have hs := tsk_le (L := L) hp
  rcases e1 : akd (tlc t L (tsk t L p)) with _ | k1
  · rw [aRd_1 e1] at h
    cases h
    exact hs
  · have hq : tsk t L p < t := by
      refine tlc_pos (L := L) ?_
      rcases Nat.eq_zero_or_pos (tlc t L (tsk t L p)) with z | z
      · rw [z] at e1
        exact absurd ((show akd 0 = none by decide).symm.trans e1) (by intro q; cases q)
      · exact z
    rcases e2 : anb t L 999 (tsk t L p + 1) with f | ⟨st1, p1⟩
    · rw [aRd_2 e1 e2] at h
      cases h
      exact anb_f (by omega) e2
    · have h2 := anb_ok (by omega) e2
      by_cases e3 : tlc t L (tsk t L p1) = 47
      · have hq1 : tsk t L p1 < t := tlc_pos (L := L) (by omega)
        rcases e4 : anb t L 99 (tsk t L p1 + 1) with f | ⟨co1, p2⟩
        · rw [aRd_4 e1 e2 e3 e4] at h
          cases h
          exact anb_f (by omega) e4
        · have h4 := anb_ok (by omega) e4
          by_cases e5 : tlc t L (tsk t L p2) = 58
          · have hq2 : tsk t L p2 < t := tlc_pos (L := L) (by omega)
            rw [aRd_6 e1 e2 e3 e4 e5] at h
            have hb := abl_all (t := t) (L := L) hS 8 0 0 (tsk t L p2 + 1) (by omega) (by omega)
            split at h
            · have := Sum.inl.inj h
              omega
            · exact absurd h (by intro z; cases z)
          · rw [aRd_5 e1 e2 e3 e4 e5] at h
            exact absurd h (by intro z; cases z)
      · rw [aRd_3 e1 e2 e3] at h
        have := Sum.inl.inj h
        have := tsk_le (L := L) h2.2
        omega
/-- what is read of the stages -/
theorem aSts_all : ∀ f p, p ≤ t → (∀ q, aSts t L f p = .inl q → q ≤ t) ∧ ∀ l p', aSts t L f p = .inr (l, p') → p' ≤ t ∧ l.length ≤ f ∧ 1 ≤ l.length ∧ ∀ x ∈ l, 1 ≤ x.1 ∧ x.1 ≤ 9
  | 0, p, hp => ⟨fun q e => by cases e; exact hp, fun l p' e => absurd e (by intro z; cases z)⟩
  | f + 1, p, hp => by
    rcases ea : aStg t L p with q0 | ⟨v1, v2, v3, p1⟩
    · rw [aSts_1 ea]
      exact ⟨fun q e => by cases e; exact aStg_f hp ea, fun l p' e => absurd e (by intro z; cases z)⟩
    · have k1 := aStg_ok ea
      have ks := tsk_le (L := L) k1.2.2
      rw [aSts_2 ea]
      by_cases c : tlc t L (tsk t L p1) = 59
      · have hq := tlc_pos (t := t) (L := L) (p := tsk t L p1) (by omega)
        rw [aftS_1 c]
        refine ⟨fun q e => absurd e (by intro z; cases z), fun l p' e => ?_⟩
        cases e
        refine ⟨by omega, Nat.succ_le_succ (Nat.zero_le _), Nat.le_refl _, fun x hx => ?_⟩
        cases List.mem_singleton.mp hx
        exact ⟨k1.1, k1.2.1⟩
      · by_cases d : tlc t L (tsk t L p1) = 44
        · have hq := tlc_pos (t := t) (L := L) (p := tsk t L p1) (by omega)
          cases f with
          | zero =>
            rw [aftS_2 c]
            exact ⟨fun q e => by cases e; exact ks, fun l p' e => absurd e (by intro z; cases z)⟩
          | succ f =>
            rw [aftS_3 c d]
            have ih := aSts_all (f + 1) (tsk t L p1 + 1) (by omega)
            rcases eb : aSts t L (f + 1) (tsk t L p1 + 1) with q1 | ⟨l1, p2⟩
            · exact ⟨fun q e => by cases e; exact ih.1 _ eb, fun l p' e => absurd e (by intro z; cases z)⟩
            · have h2 := ih.2 _ _ eb
              refine ⟨fun q e => absurd e (by intro z; cases z), fun l p' e => ?_⟩
              cases e
              refine ⟨h2.1, Nat.succ_le_succ h2.2.1, Nat.succ_le_succ (Nat.zero_le _), fun x hx => ?_⟩
              rcases List.mem_cons.mp hx with rfl | hx
              · exact ⟨k1.1, k1.2.1⟩
              · exact h2.2.2.2 x hx
        · rw [aftS_4 c d]
          exact ⟨fun q e => by cases e; exact ks, fun l p' e => absurd e (by intro z; cases z)⟩
/-- what is read of the riders -/
theorem aRds_all (hS : S ≤ 8) : ∀ f p, p ≤ t → (∀ q, aRds t L S f p = .inl q → q ≤ t) ∧ ∀ l p', aRds t L S f p = .inr (l, p') → p' ≤ t ∧ l.length ≤ f ∧ ∀ x ∈ l, x.2.1 ≤ 999
  | 0, p, hp => ⟨fun q e => by cases e; exact hp, fun l p' e => absurd e (by intro z; cases z)⟩
  | f + 1, p, hp => by
    rcases ea : aRd t L S p with q0 | ⟨kd, st, co, m, p1⟩
    · rw [aRds_1 ea]
      exact ⟨fun q e => by cases e; exact aRd_f hp hS ea, fun l p' e => absurd e (by intro z; cases z)⟩
    · have k1 := aRd_ok hp hS ea
      have ks := tsk_le (L := L) k1.2
      rw [aRds_2 ea]
      by_cases c : tlc t L (tsk t L p1) = 0
      · rw [aftR_1 c]
        refine ⟨fun q e => absurd e (by intro z; cases z), fun l p' e => ?_⟩
        cases e
        refine ⟨by omega, Nat.succ_le_succ (Nat.zero_le _), fun x hx => ?_⟩
        cases List.mem_singleton.mp hx
        exact k1.1
      · by_cases d : tlc t L (tsk t L p1) = 44
        · have hq := tlc_pos (t := t) (L := L) (p := tsk t L p1) (by omega)
          cases f with
          | zero =>
            rw [aftR_2 c]
            exact ⟨fun q e => by cases e; exact ks, fun l p' e => absurd e (by intro z; cases z)⟩
          | succ f =>
            rw [aftR_3 d]
            have ih := aRds_all hS (f + 1) (tsk t L p1 + 1) (by omega)
            rcases eb : aRds t L S (f + 1) (tsk t L p1 + 1) with q1 | ⟨l1, p2⟩
            · exact ⟨fun q e => by cases e; exact ih.1 _ eb, fun l p' e => absurd e (by intro z; cases z)⟩
            · have h2 := ih.2 _ _ eb
              refine ⟨fun q e => absurd e (by intro z; cases z), fun l p' e => ?_⟩
              cases e
              refine ⟨h2.1, Nat.succ_le_succ h2.2.1, fun x hx => ?_⟩
              rcases List.mem_cons.mp hx with rfl | hx
              · exact k1.1
              · exact h2.2.2 x hx
        · rw [aftR_4 c d]
          exact ⟨fun q e => by cases e; exact ks, fun l p' e => absurd e (by intro z; cases z)⟩
end KAL
/-! what is read, laid into a race -/
def fS : List (Nat × Nat × Nat) → Nat → Rc → Rc
  | [], _, R => R
  | (v1, v2, v3) :: l, S, R => fS l (S + 1) (stg R S v1 v2 v3)
def fR : List (Nat × Nat × Nat × Nat) → Nat → Rc → Rc
  | [], _, R => R
  | (kd, st, co, m) :: l, r, R => fR l (r + 1) (rdr R r kd st co m)
theorem fS_cg : ∀ l S {R T : Rc}, reqF R T → reqF (fS l S R) (fS l S T)
  | [], _, _, _, h => h
  | (v1, v2, v3) :: l, S, _, _, h => fS_cg l (S + 1) ((((h.up _ _ _).up _ _ _).up _ _ _).up _ _ _)
theorem fR_cg : ∀ l r {R T : Rc}, reqF R T → reqF (fR l r R) (fR l r T)
  | [], _, _, _, h => h
  | (kd, st, co, m) :: l, r, _, _, h => fR_cg l (r + 1) ((((((h.up _ _ _).up _ _ _).up _ _ _).up _ _ _).up _ _ _).up _ _ _)
theorem stg_ne {R : Rc} {S v1 v2 v3 a b : Nat} (h0 : ¬ (a = 0 ∧ b = 0)) (h1 : ¬ (1 ≤ a ∧ a ≤ 3 ∧ b = S)) : stg R S v1 v2 v3 a b = R a b := by
  unfold stg
  rw [rup_ne (by omega), rup_ne (by omega), rup_ne (by omega), rup_ne (by omega)]
theorem stg_S {R : Rc} {S v1 v2 v3 : Nat} : stg R S v1 v2 v3 0 0 = nI (S + 1) := rup_eq
theorem stg_1 {R : Rc} {S v1 v2 v3 : Nat} : stg R S v1 v2 v3 1 S = nI v1 := by
  unfold stg
  rw [rup_ne (by omega), rup_ne (by omega), rup_ne (by omega), rup_eq]
theorem stg_at {R T : Rc} {S v1 v2 v3 a : Nat} (h1 : 1 ≤ a) (h3 : a ≤ 3) : stg R S v1 v2 v3 a S = stg T S v1 v2 v3 a S := by
  unfold stg
  rcases (show a = 1 ∨ a = 2 ∨ a = 3 by omega) with rfl | rfl | rfl
  · rw [rup_ne (by omega), rup_ne (by omega), rup_ne (by omega), rup_eq, rup_ne (by omega), rup_ne (by omega), rup_ne (by omega), rup_eq]
  · rw [rup_ne (by omega), rup_ne (by omega), rup_eq, rup_ne (by omega), rup_ne (by omega), rup_eq]
  · rw [rup_ne (by omega), rup_eq, rup_ne (by omega), rup_eq]
theorem rdr_ne {R : Rc} {r kd st co m a b : Nat} (h0 : ¬ (a = 0 ∧ b = 1)) (h1 : ¬ (4 ≤ a ∧ b = r)) : rdr R r kd st co m a b = R a b := by
  unfold rdr
  rw [rup_ne (by omega), rup_ne (by omega), rup_ne (by omega), rup_ne (by omega), rup_ne (by omega), rup_ne (by omega)]
theorem rdr_R {R : Rc} {r kd st co m : Nat} : rdr R r kd st co m 0 1 = nI (r + 1) := rup_eq
theorem rdr_5 {R : Rc} {r kd st co m : Nat} : rdr R r kd st co m 5 r = 0 := by
  unfold rdr
  rw [rup_ne (by omega), rup_ne (by omega), rup_ne (by omega), rup_ne (by omega), rup_eq]
theorem rdr_6 {R : Rc} {r kd st co m : Nat} : rdr R r kd st co m 6 r = nI st := by
  unfold rdr
  rw [rup_ne (by omega), rup_ne (by omega), rup_ne (by omega), rup_eq]
theorem rdr_at {R T : Rc} {r kd st co m a : Nat} (h1 : 4 ≤ a) (h3 : a < 9) : rdr R r kd st co m a r = rdr T r kd st co m a r := by
  unfold rdr
  rcases (show a = 4 ∨ a = 5 ∨ a = 6 ∨ a = 7 ∨ a = 8 by omega) with rfl | rfl | rfl | rfl | rfl
  · simp (disch := omega) only [rup_ne, rup_eq]
  · simp (disch := omega) only [rup_ne, rup_eq]
  · simp (disch := omega) only [rup_ne, rup_eq]
  · simp (disch := omega) only [rup_ne, rup_eq]
  · simp (disch := omega) only [rup_ne, rup_eq]
/-- two races into which the same was laid -/
def lik (S r : Nat) (R T : Rc) : Prop := R 0 0 = nI S ∧ T 0 0 = nI S ∧ R 0 1 = nI r ∧ T 0 1 = nI r ∧ (∀ f j, 1 ≤ f → f ≤ 3 → j < S → R f j = T f j) ∧ (∀ f j, 4 ≤ f → f < 9 → j < r → R f j = T f j) ∧ (∀ j, j < S → ∃ m, 1 ≤ m ∧ m ≤ 9 ∧ R 1 j = nI m) ∧ ∀ i, i < r → R 5 i = 0 ∧ ∃ z, z ≤ 999 ∧ R 6 i = nI z
theorem lik.st {S r v1 v2 v3 : Nat} {R T : Rc} (h : lik S r R T) (g1 : 1 ≤ v1) (g9 : v1 ≤ 9) : lik (S + 1) r (stg R S v1 v2 v3) (stg T S v1 v2 v3) := by
  obtain ⟨a1, a2, a3, a4, a5, a6, a7, a8⟩ := h
  refine ⟨stg_S, stg_S, by rw [stg_ne (by omega) (by omega)]; exact a3, by rw [stg_ne (by omega) (by omega)]; exact a4, fun f j h1 h3 hj => ?_, fun f j h4 h9 hj => ?_, fun j hj => ?_, fun i hi => ?_⟩
  · by_cases e : j = S
    · subst e
      exact stg_at h1 h3
    · rw [stg_ne (by omega) (by omega), stg_ne (by omega) (by omega)]
      exact a5 f j h1 h3 (by omega)
  · rw [stg_ne (by omega) (by omega), stg_ne (by omega) (by omega)]
    exact a6 f j h4 h9 hj
  · by_cases e : j = S
    · subst e
      exact ⟨v1, g1, g9, stg_1⟩
    · rw [stg_ne (by omega) (by omega)]
      exact a7 j (by omega)
  · rw [stg_ne (by omega) (by omega), stg_ne (by omega) (by omega)]
    exact a8 i hi
theorem lik.rd {S r kd st co m : Nat} {R T : Rc} (h : lik S r R T) (g : st ≤ 999) : lik S (r + 1) (rdr R r kd st co m) (rdr T r kd st co m) := by
  obtain ⟨a1, a2, a3, a4, a5, a6, a7, a8⟩ := h
  refine ⟨by rw [rdr_ne (by omega) (by omega)]; exact a1, by rw [rdr_ne (by omega) (by omega)]; exact a2, rdr_R, rdr_R, fun f j h1 h3 hj => ?_, fun f j h4 h9 hj => ?_, fun j hj => ?_, fun i hi => ?_⟩
  · rw [rdr_ne (by omega) (by omega), rdr_ne (by omega) (by omega)]
    exact a5 f j h1 h3 hj
  · by_cases e : j = r
    · subst e
      exact rdr_at h4 h9
    · rw [rdr_ne (by omega) (by omega), rdr_ne (by omega) (by omega)]
      exact a6 f j h4 h9 (by omega)
  · rw [rdr_ne (by omega) (by omega)]
    exact a7 j hj
  · by_cases e : i = r
    · subst e
      exact ⟨rdr_5, st, g, rdr_6⟩
    · rw [rdr_ne (by omega) (by omega), rdr_ne (by omega) (by omega)]
      exact a8 i (by omega)
theorem lik.fs : ∀ l S r {R T : Rc}, lik S r R T → (∀ x ∈ l, 1 ≤ x.1 ∧ x.1 ≤ 9) → lik (S + l.length) r (fS l S R) (fS l S T)
  | [], _, _, _, _, h, _ => h
  | (v1, v2, v3) :: l, S, r, R, T, h, hx => by
    have hv := hx _ List.mem_cons_self
    have := lik.fs l (S + 1) r (h.st (v2 := v2) (v3 := v3) hv.1 hv.2) (fun x hx' => hx x (List.mem_cons_of_mem _ hx'))
    rw [show S + ((v1, v2, v3) :: l).length = S + 1 + l.length by rw [List.length_cons]; omega]
    exact this
theorem lik.fr : ∀ l S r {R T : Rc}, lik S r R T → (∀ x ∈ l, x.2.1 ≤ 999) → lik S (r + l.length) (fR l r R) (fR l r T)
  | [], _, _, _, _, h, _ => h
  | (kd, st, co, m) :: l, S, r, R, T, h, hx => by
    have hv := hx _ List.mem_cons_self
    have := lik.fr l S (r + 1) (h.rd (kd := kd) (co := co) (m := m) hv) (fun x hx' => hx x (List.mem_cons_of_mem _ hx'))
    rw [show r + ((kd, st, co, m) :: l).length = r + 1 + l.length by rw [List.length_cons]; omega]
    exact this
