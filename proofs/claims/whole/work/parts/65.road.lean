/-! ===== the road on the tape, both sides ===== -/
section KXR
variable {l : Launch} {g : va_G × (Nat → ClassId) × (Nat → Nat → Nat)} {M : kM} {t : Nat} {L : Nat → Nat} {Q : Int32 → kM → Prop}
theorem x_readStages (p : Nat) (hp : p ≤ t) (gd : tgd t L) (tx : ttx t L M) (ep : M.1 4 0 3 = nI p) (eS : M.1 1 3 0 = nI 0) (h1 : ∀ M' ls p', aSts t L 8 p = .inr (ls, p') → dfx M M' → M'.1 4 0 3 = nI p' → rx M' 3 = fS ls 0 (rx M 3) → Q 1 M') (h0 : ∀ M' q, aSts t L 8 p = .inl q → dfx M M' → M'.1 4 0 3 = nI q → Q 0 M') : kCT l (rg_x, g) mX4_readStages [.inr (.inr (4, 0))] M (kqi Q) := by
  have ht := gd.1
  have key : ∀ f k p1 M1, k + f + 1 = 8 → p1 ≤ t → ttx t L M1 → M1.1 4 0 3 = nI p1 → M1.1 1 3 0 = nI k → (∀ M' ls p', aSts t L (f + 1) p1 = .inr (ls, p') → dfx M1 M' → M'.1 4 0 3 = nI p' → rx M' 3 = fS ls k (rx M1 3) → Q 1 M') → (∀ M' q, aSts t L (f + 1) p1 = .inl q → dfx M1 M' → M'.1 4 0 3 = nI q → Q 0 M') → kWP l (rg_x, g) mX4_readStages 2 [(0, .inr (.inr (4, 0))), (1, .inl (nI k))] [] M1 (kqi Q) := by
    intro f
    induction f using Nat.strongRecOn with
    | _ f ih =>
      intro k p1 M1 hk hp1 tx1 e1 eS1 h1 h0
      refine bX4_readStages_2 _ _ _ ⟨fun z => ?_, fun _ => ?_⟩
      · rw [show (8 : Int32) = nI 8 from rfl, q_le (by omega) (by omega)] at z
        omega
      · refine x_readStage p1 k hp1 (by omega) gd tx1 e1 eS1 (fun M2 v1 v2 v3 p2 ea a1 a2 a3 => ⟨fun _ => ?_, fun z => absurd z (by decide)⟩) (fun M2 q ea a1 a2 => ⟨fun z => absurd rfl z, fun _ => h0 M2 q (aSts_1 ea) a1 a2⟩)
        have k2 := aStg_ok ea
        have es := aSts_2 (f := f) ea
        refine x_takes p2 59 k2.2.2 (by omega) (by omega) gd (a1.tt tx1) a2 (fun M3 c b1 b2 => ⟨fun z => absurd z (by decide), fun _ => ?_⟩) (fun M3 c b1 b2 => ⟨fun _ => ⟨fun z => ?_, fun z => ?_⟩, fun z => absurd rfl z⟩)
        · exact h1 M3 [(v1, v2, v3)] _ (by rw [es, aftS_1 c]; rfl) (a1.trans b1.d) b2 (by rw [b1.r3, a3]; rfl)
        · have hf : f = 0 := by
            have := (q_eq (b := 7) (by omega) (by omega)).mp z
            omega
          subst hf
          exact bX4_readStages_43 _ _ (h0 M3 _ (by rw [es, aftS_2 c]; rfl) (a1.trans b1.d) b2)
        · have hk7 : ¬ k = 7 := fun e => z (by rw [e]; rfl)
          obtain ⟨f', rfl⟩ : ∃ f', f = f' + 1 := ⟨f - 1, by omega⟩
          refine x_takes (tsk t L p2) 44 (tsk_le k2.2.2) (by omega) (by omega) gd (b1.tt (a1.tt tx1)) b2 (fun M5 d c1 c2 => ⟨fun _ => ?_, fun z => absurd z (by decide)⟩) (fun M5 d c1 c2 => ⟨fun z => absurd rfl z, fun _ => ?_⟩)
          · rintro z7 rfl
            rw [qa_1]
            rw [tsk_tsk] at d c2
            have hq := tlc_pos (t := t) (L := L) (p := tsk t L p2) (by omega)
            have fx := (a1.trans b1.d).trans c1.d
            have er : rx M5 3 = stg (rx M1 3) k v1 v2 v3 := by rw [c1.r3, b1.r3, a3]
            have es2 : aSts t L (f' + 1 + 1) p1 = tcons (v1, v2, v3) (aSts t L (f' + 1) (tsk t L p2 + 1)) := by rw [es, aftS_3 c d]
            refine ih f' (by omega) (k + 1) (tsk t L p2 + 1) M5 (by omega) (by omega) (fx.tt tx1) c2 ((congrFun (congrFun er 0) 0).trans stg_S) (fun M' ls p' e g1 g2 g3 => ?_) (fun M' q e g1 g2 => ?_)
            · exact h1 M' ((v1, v2, v3) :: ls) p' (by rw [es2, e]; rfl) (fx.trans g1) g2 (by rw [g3, er]; rfl)
            · exact h0 M' q (by rw [es2, e]; rfl) (fx.trans g1) g2
          · rw [tsk_tsk] at d c2
            exact bX4_readStages_43 _ _ (h0 M5 _ (by rw [es, aftS_4 c d]; rfl) ((a1.trans b1.d).trans c1.d) c2)
  exact kct (by decide) (Nat.le_of_ble_eq_true rfl) (bX4_readStages_0 _ _ (key 7 0 p M (by omega) hp tx ep eS h1 h0))
theorem x_readRiders (p S : Nat) (hp : p ≤ t) (hS : 1 ≤ S) (hS8 : S ≤ 8) (gd : tgd t L) (tx : ttx t L M) (ep : M.1 4 0 3 = nI p) (eS : M.1 1 3 0 = nI S) (er : M.1 1 3 1 = nI 0) (h1 : ∀ M' lr p', aRds t L S 4 p = .inr (lr, p') → dfx M M' → M'.1 4 0 3 = nI p' → rx M' 3 = fR lr 0 (rx M 3) → Q 1 M') (h0 : ∀ M' q, aRds t L S 4 p = .inl q → dfx M M' → M'.1 4 0 3 = nI q → Q 0 M') : kCT l (rg_x, g) mX4_readRiders [.inr (.inr (4, 0))] M (kqi Q) := by
  have ht := gd.1
  have key : ∀ f k p1 M1, k + f + 1 = 4 → p1 ≤ t → ttx t L M1 → M1.1 4 0 3 = nI p1 → M1.1 1 3 0 = nI S → M1.1 1 3 1 = nI k → (∀ M' lr p', aRds t L S (f + 1) p1 = .inr (lr, p') → dfx M1 M' → M'.1 4 0 3 = nI p' → rx M' 3 = fR lr k (rx M1 3) → Q 1 M') → (∀ M' q, aRds t L S (f + 1) p1 = .inl q → dfx M1 M' → M'.1 4 0 3 = nI q → Q 0 M') → kWP l (rg_x, g) mX4_readRiders 2 [(0, .inr (.inr (4, 0))), (1, .inl (nI k))] [] M1 (kqi Q) := by
    intro f
    induction f using Nat.strongRecOn with
    | _ f ih =>
      intro k p1 M1 hk hp1 tx1 e1 eS1 er1 h1 h0
      refine bX4_readRiders_2 _ _ _ ⟨fun z => ?_, fun _ => ?_⟩
      · rw [show (4 : Int32) = nI 4 from rfl, q_le (by omega) (by omega)] at z
        omega
      · refine x_readRider p1 S k hp1 hS hS8 (by omega) gd tx1 e1 eS1 er1 (fun M2 kd st co m p2 ea a1 a2 a3 => ⟨fun _ => ?_, fun z => absurd z (by decide)⟩) (fun M2 q ea a1 a2 => ⟨fun z => absurd rfl z, fun _ => h0 M2 q (aRds_1 ea) a1 a2⟩)
        have k2 := aRd_ok hp1 hS8 ea
        have es := aRds_2 (f := f) ea
        have hle := tlc_le (p := tsk t L p2) gd
        refine x_letterHere p2 k2.2 gd (a1.tt tx1) a2 (fun M3 b1 b2 => ⟨fun c0 => ?_, fun c0 => ?_⟩)
        · have c : ¬ tlc t L (tsk t L p2) = 0 := fun e => c0 (by rw [e]; rfl)
          refine ⟨fun z => ?_, fun z => ?_⟩
          · have hf : f = 0 := by
              have := (q_eq (b := 3) (by omega) (by omega)).mp z
              omega
            subst hf
            exact bX4_readRiders_39 _ _ (h0 M3 _ (by rw [es, aftR_2 c]; rfl) (a1.trans b1.d) b2)
          · have hk7 : ¬ k = 3 := fun e => z (by rw [e]; rfl)
            obtain ⟨f', rfl⟩ : ∃ f', f = f' + 1 := ⟨f - 1, by omega⟩
            refine x_takes (tsk t L p2) 44 (tsk_le k2.2) (by omega) (by omega) gd (b1.tt (a1.tt tx1)) b2 (fun M5 d c1 c2 => ⟨fun _ => ?_, fun z => absurd z (by decide)⟩) (fun M5 d c1 c2 => ⟨fun z => absurd rfl z, fun _ => ?_⟩)
            · rintro z7 rfl
              rw [qa_1]
              rw [tsk_tsk] at d c2
              have hq := tlc_pos (t := t) (L := L) (p := tsk t L p2) (by omega)
              have fx := (a1.trans b1.d).trans c1.d
              have er : rx M5 3 = rdr (rx M1 3) k kd st co m := by rw [c1.r3, b1.r3, a3]
              have es2 : aRds t L S (f' + 1 + 1) p1 = tcons (kd, st, co, m) (aRds t L S (f' + 1) (tsk t L p2 + 1)) := by rw [es, aftR_3 d]
              refine ih f' (by omega) (k + 1) (tsk t L p2 + 1) M5 (by omega) (by omega) (fx.tt tx1) c2 ((congrFun (congrFun er 0) 0).trans ((rdr_ne (by omega) (by omega)).trans eS1)) ((congrFun (congrFun er 0) 1).trans rdr_R) (fun M' lr p' e g1 g2 g3 => ?_) (fun M' q e g1 g2 => ?_)
              · exact h1 M' ((kd, st, co, m) :: lr) p' (by rw [es2, e]; rfl) (fx.trans g1) g2 (by rw [g3, er]; rfl)
              · exact h0 M' q (by rw [es2, e]; rfl) (fx.trans g1) g2
            · rw [tsk_tsk] at d c2
              exact bX4_readRiders_39 _ _ (h0 M5 _ (by rw [es, aftR_4 c d]; rfl) ((a1.trans b1.d).trans c1.d) c2)
        · have c : tlc t L (tsk t L p2) = 0 := (q_eq (b := 0) (by omega) (by omega)).mp c0
          exact h1 M3 [(kd, st, co, m)] _ (by rw [es, aftR_1 c]; rfl) (a1.trans b1.d) b2 (by rw [b1.r3, a3]; rfl)
  exact kct (by decide) (Nat.le_of_ble_eq_true rfl) (bX4_readRiders_0 _ _ (key 3 0 p M (by omega) hp tx ep eS er h1 h0))
end KXR
def aRoad (t : Nat) (L : Nat → Nat) : TR (List (Nat × Nat × Nat) × List (Nat × Nat × Nat × Nat)) := match aSts t L 8 0 with
  | .inl q => .inl q
  | .inr (ls, p1) => match aRds t L ls.length 4 p1 with
    | .inl q => .inl q
    | .inr (lr, _) => .inr (ls, lr)
section KAO
variable {t : Nat} {L : Nat → Nat}
theorem aRoad_1 {q : Nat} (e : aSts t L 8 0 = .inl q) : aRoad t L = .inl q := by
  unfold aRoad
  rw [e]
theorem aRoad_2 {ls : List (Nat × Nat × Nat)} {p1 q : Nat} (e : aSts t L 8 0 = .inr (ls, p1)) (e2 : aRds t L ls.length 4 p1 = .inl q) : aRoad t L = .inl q := by
  unfold aRoad
  rw [e]
  simp only
  rw [e2]
theorem aRoad_3 {ls : List (Nat × Nat × Nat)} {lr : List (Nat × Nat × Nat × Nat)} {p1 p2 : Nat} (e : aSts t L 8 0 = .inr (ls, p1)) (e2 : aRds t L ls.length 4 p1 = .inr (lr, p2)) : aRoad t L = .inr (ls, lr) := by
  unfold aRoad
  rw [e]
  simp only
  rw [e2]
theorem aRoad_all : (∀ q, aRoad t L = .inl q → q ≤ t) ∧ ∀ ls lr, aRoad t L = .inr (ls, lr) → ls.length ≤ 8 ∧ lr.length ≤ 4 ∧ (∀ x ∈ ls, 1 ≤ x.1 ∧ x.1 ≤ 9) ∧ ∀ x ∈ lr, x.2.1 ≤ 999 := by
  have hs := aSts_all (t := t) (L := L) 8 0 (Nat.zero_le _)
  rcases e : aSts t L 8 0 with q0 | ⟨l0, p1⟩
  · rw [aRoad_1 e]
    exact ⟨fun q z => by cases z; exact hs.1 _ e, fun ls lr z => absurd z (by intro z; cases z)⟩
  · have h1 := hs.2 _ _ e
    have hr := aRds_all (t := t) (L := L) (S := l0.length) h1.2.1 4 p1 h1.1
    rcases e2 : aRds t L l0.length 4 p1 with q0 | ⟨l2, p2⟩
    · rw [aRoad_2 e e2]
      exact ⟨fun q z => by cases z; exact hr.1 _ e2, fun ls lr z => absurd z (by intro z; cases z)⟩
    · rw [aRoad_3 e e2]
      have h2 := hr.2 _ _ e2
      refine ⟨fun q z => absurd z (by intro z; cases z), fun ls lr z => ?_⟩
      cases z
      exact ⟨h1.2.1, h2.2.1, h1.2.2.2, h2.2.2⟩
end KAO
def dzx (M M' : kM) : Prop := (∀ c i j, ¬ (c = 4 ∧ i = 0 ∧ (j = 2 ∨ j = 3) ∨ i = 3 ∧ (c = 1 ∨ 7 ≤ c ∧ c ≤ 14)) → M'.1 c i j = M.1 c i j) ∧ M'.2 = M.2
section KXQ
variable {l : Launch} {g : va_G × (Nat → ClassId) × (Nat → Nat → Nat)} {M : kM} {t : Nat} {L : Nat → Nat} {Q : Int32 → kM → Prop}
theorem x_readRoad (gd : tgd t L) (tx : ttx t L M) (h1 : ∀ M' ls lr, aRoad t L = .inr (ls, lr) → dzx M M' → M'.1 4 0 2 = 0 → rx M' 3 = fR lr 0 (fS ls 0 (rup (rup (rx M 3) 0 0 0) 0 1 0)) → Q (M'.1 1 3 1) M') (h0 : ∀ M' q, aRoad t L = .inl q → dzx M M' → M'.1 4 0 2 = 0 → Q (-20 - nI q) M') : kCT l (rg_x, g) mX4_readRoad [.inr (.inr (4, 0))] M (kqi Q) := by
  refine kct (by decide) (Nat.le_of_ble_eq_true rfl) (bX4_readRoad_0 M Q ?_)
  rintro M1 rfl M2 rfl M3 rfl
  have d0 : dfx M (ku (ku (ku M 4 0 3 0) 1 3 0 0) 1 3 1 0) := ⟨fun c i j hc => by simp (disch := omega) only [ku_ne], rfl⟩
  have r0 : rx (ku (ku (ku M 4 0 3 0) 1 3 0 0) 1 3 1 0) 3 = rup (rup (rx M 3) 0 0 0) 0 1 0 := by
    rw [rx_u0, rx_u0, rx_o (by omega)]
  have p0 : (ku (ku (ku M 4 0 3 0) 1 3 0 0) 1 3 1 0).1 4 0 3 = nI 0 := by
    rw [ku_ne (by omega), ku_ne (by omega), ku_eq]
    rfl
  have s0 : (ku (ku (ku M 4 0 3 0) 1 3 0 0) 1 3 1 0).1 1 3 0 = nI 0 := by
    rw [ku_ne (by omega), ku_eq]
    rfl
  have n0 : (ku (ku (ku M 4 0 3 0) 1 3 0 0) 1 3 1 0).1 1 3 1 = nI 0 := by
    rw [ku_eq]
    rfl
  generalize ku (ku (ku M 4 0 3 0) 1 3 0 0) 1 3 1 0 = N at d0 r0 p0 s0 n0 ⊢
  have bad : ∀ M4 q, aRoad t L = .inl q → dfx M M4 → M4.1 4 0 3 = nI q → kWP l (rg_x, g) mX4_readRoad 45 [(0, .inr (.inr (4, 0)))] [] M4 (kqi Q) := by
    intro M4 q ea a1 a2
    refine bX4_readRoad_45 _ _ (bX4_readRoad_52 _ _ _ ?_)
    rintro M5 rfl
    rw [a2]
    exact h0 _ q ea ⟨fun c i j hc => by rw [ku_ne (by omega), a1.1 c i j (by omega)], a1.2⟩ ku_eq
  refine x_readStages 0 (Nat.zero_le _) gd (d0.tt tx) p0 s0 (fun M4 ls p1 e1 a1 a2 a3 => ⟨fun z => absurd z (by decide), fun _ => ?_⟩) (fun M4 q e1 a1 a2 => ⟨fun _ => bad M4 q (aRoad_1 e1) (d0.trans a1) a2, fun z => absurd rfl z⟩)
  have k1 := (aSts_all (t := t) (L := L) 8 0 (Nat.zero_le _)).2 _ _ e1
  have a0 := d0.trans a1
  have lk : ∀ R : Rc, R 0 0 = nI 0 → R 0 1 = nI 0 → lik ls.length 0 (fS ls 0 R) (fS ls 0 R) := by
    intro R z0 z1
    have := lik.fs ls 0 0 (R := R) (T := R) ⟨z0, z0, z1, z1, fun _ _ _ _ _ => rfl, fun _ _ _ _ _ => rfl, fun j hj => absurd hj (Nat.not_lt_zero _), fun i hi => absurd hi (Nat.not_lt_zero _)⟩ k1.2.2.2
    rw [Nat.zero_add] at this
    exact this
  have lk1 := lk (rx N 3) s0 n0
  rw [← a3] at lk1
  refine x_readRiders p1 ls.length k1.1 k1.2.2.1 k1.2.1 gd (a0.tt tx) a2 lk1.1 lk1.2.2.1 (fun M6 lr p2 e2 b1 b2 b3 => ⟨fun z => absurd z (by decide), fun _ => bX4_readRoad_52 _ _ _ ?_⟩) (fun M6 q e2 b1 b2 => ⟨fun _ => bad M6 q (aRoad_2 e1 e2) (a0.trans b1) b2, fun z => absurd rfl z⟩)
  rintro M7 rfl
  have b0 := a0.trans b1
  have := h1 (ku M6 4 0 2 0) ls lr (aRoad_3 e1 e2) ⟨fun c i j hc => by rw [ku_ne (by omega), b0.1 c i j (by omega)], b0.2⟩ ku_eq (by rw [rx_o (by omega), b3, a3, r0])
  rw [ku_ne (by omega)] at this
  exact this
end KXQ
