/-! ===== the road on the tape, on the reference's side ===== -/
def rdy (t : Nat) (L : Nat → Nat) (S k p : Nat) (M : kM) : Prop := p ≤ t ∧ ttm t L M ∧ M.1 0 0 7 = nI p ∧ M.1 1 0 455 = nI S ∧ M.1 1 0 456 = nI k ∧ ∀ j, k ≤ j → j < 4 → rmd M 434 5 j = 0 ∧ rmd M 434 8 j = 0
theorem rdy.mv {t : Nat} {L : Nat → Nat} {S k p p' : Nat} {M M' : kM} (h : rdy t L S k p M) (fx : pfm M M') (hp : p' ≤ t) (e : M'.1 0 0 7 = nI p') : rdy t L S k p' M' := by
  obtain ⟨-, a2, -, a4, a5, a6⟩ := h
  refine ⟨hp, fx.tt a2, e, (fx.1 1 0 455 (by omega)).trans a4, (fx.1 1 0 456 (by omega)).trans a5, ?_⟩
  rw [fx.rd]
  exact a6
theorem rdy.st {t : Nat} {L : Nat → Nat} {S p p' v1 v2 v3 : Nat} {M M' : kM} (h : rdy t L S 0 p M) (hS : S < 8) (fx : dfm M M') (hp : p' ≤ t) (e : M'.1 0 0 7 = nI p') (rq : reqF (rmd M' 434) (stg (rmd M 434) S v1 v2 v3)) : rdy t L (S + 1) 0 p' M' := by
  obtain ⟨-, a2, -, a4, a5, a6⟩ := h
  refine ⟨hp, fx.tt a2, e, (rq 0 0 (by decide) (by decide)).trans stg_S, (rq 0 1 (by decide) (by decide)).trans ((stg_ne (by omega) (by omega)).trans a5), fun j h1 h4 => ⟨?_, ?_⟩⟩
  · exact (rq 5 j (by decide) (by show j < 4; omega)).trans ((stg_ne (by omega) (by omega)).trans (a6 j h1 h4).1)
  · exact (rq 8 j (by decide) (by show j < 4; omega)).trans ((stg_ne (by omega) (by omega)).trans (a6 j h1 h4).2)
theorem rdy.rd {t : Nat} {L : Nat → Nat} {S k p p' kd st co m : Nat} {M M' : kM} (h : rdy t L S k p M) (hk : k < 4) (fx : dfm M M') (hp : p' ≤ t) (e : M'.1 0 0 7 = nI p') (rq : reqF (rmd M' 434) (rdr (rmd M 434) k kd st co m)) : rdy t L S (k + 1) p' M' := by
  obtain ⟨-, a2, -, a4, a5, a6⟩ := h
  refine ⟨hp, fx.tt a2, e, (rq 0 0 (by decide) (by decide)).trans ((rdr_ne (by omega) (by omega)).trans a4), (rq 0 1 (by decide) (by decide)).trans rdr_R, fun j h1 h4 => ⟨?_, ?_⟩⟩
  · exact (rq 5 j (by decide) (by show j < 4; omega)).trans ((rdr_ne (by omega) (by omega)).trans (a6 j (by omega) h4).1)
  · exact (rq 8 j (by decide) (by show j < 4; omega)).trans ((rdr_ne (by omega) (by omega)).trans (a6 j (by omega) h4).2)
theorem mlc_neg {t : Nat} {L : Nat → Nat} {p : Nat} (g : tgd t L) : mlc t L p < 0 ↔ tlc t L p = 0 := by
  unfold mlc tlc
  by_cases h : p < t
  · have := g.2 p h
    rw [if_pos h, if_pos h]
    exact ⟨fun z => absurd z (nI_pos (by omega)), fun z => by omega⟩
  · rw [if_neg h, if_neg h]
    exact ⟨fun _ => rfl, fun _ => by decide⟩
section KMR
variable {l : Launch} {g : va_G × (Nat → ClassId) × (Nat → Nat → Nat)} {M : kM} {t : Nat} {L : Nat → Nat} {Q : Int32 → kM → Prop}
def c87 (l : Launch) (g : va_G × (Nat → ClassId) × (Nat → Nat → Nat)) (Q : Int32 → kM → Prop) (M : kM) : Prop := kCT l (rg_m, g) mX6_takesRider [.inr (.inr (0, 0))] M (kqi (fun r5 M4 => ((¬ r5 = 0 → kWP l (rg_m, g) mX6_takesRoad 87 [(0, .inr (.inr (0, 0)))] [] M4 (kqi Q)) ∧ (r5 = 0 → Q 0 M4))))
def c9 (l : Launch) (g : va_G × (Nat → ClassId) × (Nat → Nat → Nat)) (Q : Int32 → kM → Prop) (M : kM) : Prop := kCT l (rg_m, g) mX6_takesStage [.inr (.inr (0, 0))] M (kqi (fun r5 M4 => ((¬ r5 = 0 → kWP l (rg_m, g) mX6_takesRoad 9 [(0, .inr (.inr (0, 0)))] [] M4 (kqi Q)) ∧ (r5 = 0 → Q 0 M4))))
theorem m_127 (p : Nat) (hp : p ≤ t) (gd : tgd t L) (tm : ttm t L M) (ep : M.1 0 0 7 = nI p) (h1 : ∀ M', tlc t L (tsk t L p) = 0 → pfm M M' → Q 1 M') (h0 : ∀ M', ¬ tlc t L (tsk t L p) = 0 → pfm M M' → M'.1 0 0 8 = nI (tsk t L p) → Q 0 M') : kWP l (rg_m, g) mX6_takesRoad 127 [(0, .inr (.inr (0, 0)))] [] M (kqi Q) := by
  refine bX6_takesRoad_127 _ _ (m_here p hp gd tm ep (fun M2 b1 b8 b2 => ?_))
  rw [mlc_neg gd]
  refine ⟨fun c => bX6_takesRoad_145 _ _ (bX6_takesRoad_150 _ _ _ ⟨Or.inr rfl, h1 M2 c b1⟩), fun c => ?_⟩
  rw [b2]
  exact m_fails _ ⟨fun _ => bX6_takesRoad_150 _ _ _ ⟨Or.inl rfl, h0 _ c (b1.trans (pfm.u (by omega))) ku_eq⟩, fun z => absurd rfl z⟩
theorem m_riders (S : Nat) (hS : 1 ≤ S) (hS8 : S ≤ 8) (gd : tgd t L) : ∀ f k p M1, k + f + 1 = 4 → rdy t L S k p M1 → (∀ M' lr p', aRds t L S (f + 1) p = .inr (lr, p') → dfm M1 M' → reqF (rmd M' 434) (fR lr k (rmd M1 434)) → Q 1 M') → (∀ M' q, aRds t L S (f + 1) p = .inl q → dfm M1 M' → M'.1 0 0 8 = nI q → Q 0 M') → c87 l g Q M1 := by
  have ht := gd.1
  intro f
  induction f using Nat.strongRecOn with
  | _ f ih =>
    intro k p M1 hk rd h1 h0
    obtain ⟨r1, r2, r3, r4, r5, r6⟩ := id rd
    refine m_takesRider p S k r1 hS hS8 (by omega) gd r2 r3 r4 r5 (r6 k (Nat.le_refl _) (by omega)).1 (r6 k (Nat.le_refl _) (by omega)).2 (fun M2 kd st co m p2 ea a1 a2 a3 => ⟨fun _ => ?_, fun z => absurd z (by decide)⟩) (fun M2 q ea a1 a2 => ⟨fun z => absurd rfl z, fun _ => h0 M2 q ?_ a1 a2⟩)
    · have k2 := aRd_ok r1 hS8 ea
      have hsk := tsk_le (L := L) k2.2
      have es := aRds_2 (f := f) ea
      have rd2 := rd.rd (by omega) a1 hsk a2 a3
      have fin : ∀ M3, pfm M2 M3 → (¬ tlc t L (tsk t L p2) = 44 ∨ f = 0) → M3.1 0 0 7 = nI (tsk t L p2) → kWP l (rg_m, g) mX6_takesRoad 127 [(0, .inr (.inr (0, 0)))] [] M3 (kqi Q) := by
        intro M3 b1 hc b2
        refine m_127 (tsk t L p2) hsk gd (b1.tt rd2.2.1) b2 (fun M4 c d1 => ?_) (fun M4 c d1 d2 => ?_)
        · rw [tsk_tsk] at c
          refine h1 M4 [(kd, st, co, m)] _ (by rw [es, aftR_1 c]; rfl) (a1.trans (b1.trans d1).d) ?_
          rw [(b1.trans d1).rd]
          exact a3
        · rw [tsk_tsk] at c d2
          refine h0 M4 (tsk t L p2) ?_ (a1.trans (b1.trans d1).d) d2
          rw [es]
          rcases hc with hc | hc
          · rw [aftR_4 c hc]
            rfl
          · subst hc
            rw [aftR_2 c]
            rfl
      refine bX6_takesRoad_87 _ _ (m_here (tsk t L p2) hsk gd rd2.2.1 a2 (fun M3 b1 b8 b2 => ?_))
      rw [tsk_tsk] at b2 ⊢
      rw [show (44 : Int32) = nI 44 from rfl, mlc_eq gd (by omega) (by omega)]
      refine ⟨fun c => fin M3 b1 (Or.inl c) b2, fun c => ?_⟩
      have rd3 := rd2.mv b1 hsk b2
      rw [ql_456, rd3.2.2.2.2.1, show (4 : Int32) = nI 4 from rfl, q_le (by omega) (by omega)]
      refine ⟨fun z => fin M3 b1 (Or.inr (by omega)) b2, fun z => ?_⟩
      obtain ⟨f', rfl⟩ : ∃ f', f = f' + 1 := ⟨f - 1, by omega⟩
      have hq := tlc_pos (t := t) (L := L) (p := tsk t L p2) (by omega)
      rw [b2, qa_1]
      rintro M4 rfl
      have fx := b1.trans (pfm.u (M := M3) (j := 7) (v := nI (tsk t L p2 + 1)) (by omega))
      have es2 : aRds t L S (f' + 1 + 1) p = tcons (kd, st, co, m) (aRds t L S (f' + 1) (tsk t L p2 + 1)) := by rw [es, aftR_3 c]
      refine ih f' (by omega) (k + 1) (tsk t L p2 + 1) _ (by omega) (rd2.mv fx (by omega) ku_eq) (fun M' lr p' e g1 g2 => ?_) (fun M' q e g1 g2 => ?_)
      · refine h1 M' ((kd, st, co, m) :: lr) p' (by rw [es2, e]; rfl) (a1.trans (fx.d.trans g1)) (g2.trans ?_)
        rw [fx.rd]
        exact fR_cg lr (k + 1) a3
      · exact h0 M' q (by rw [es2, e]; rfl) (a1.trans (fx.d.trans g1)) g2
    · rcases ea with ea | ⟨x1, x2, x3, x4, p', ea, rfl, z1, z2⟩
      · exact aRds_1 ea
      · rw [aRds_2 ea, aftR_4 (by omega) (by omega)]
        rfl
theorem m_stages (gd : tgd t L) : ∀ f k p M1, k + f + 1 = 8 → rdy t L k 0 p M1 → (∀ M' ls p', aSts t L (f + 1) p = .inr (ls, p') → dfm M1 M' → rdy t L (k + ls.length) 0 p' M' → reqF (rmd M' 434) (fS ls k (rmd M1 434)) → c87 l g Q M') → (∀ M' q, aSts t L (f + 1) p = .inl q → dfm M1 M' → M'.1 0 0 8 = nI q → Q 0 M') → c9 l g Q M1 := by
  have ht := gd.1
  intro f
  induction f using Nat.strongRecOn with
  | _ f ih =>
    intro k p M1 hk rd h1 h0
    obtain ⟨r1, r2, r3, r4, r5, r6⟩ := id rd
    refine m_takesStage p k r1 (by omega) gd r2 r3 r4 (fun M2 v1 v2 v3 p2 ea a1 a2 a3 => ⟨fun _ => ?_, fun z => absurd z (by decide)⟩) (fun M2 q ea a1 a2 => ⟨fun z => absurd rfl z, fun _ => h0 M2 q (aSts_1 ea) a1 a2⟩)
    have k2 := aStg_ok ea
    have hsk := tsk_le (L := L) k2.2.2
    have es := aSts_2 (f := f) ea
    have rd2 := rd.st (by omega) a1 k2.2.2 a2 a3
    have fin : ∀ M3, pfm M2 M3 → (¬ tlc t L (tsk t L p2) = 44 ∨ f = 0) → M3.1 0 0 7 = nI (tsk t L p2) → kWP l (rg_m, g) mX6_takesRoad 50 [(0, .inr (.inr (0, 0)))] [] M3 (kqi Q) := by
      intro M3 b1 hc b2
      refine bX6_takesRoad_50 _ _ (m_here (tsk t L p2) hsk gd (b1.tt rd2.2.1) b2 (fun M4 d1 d8 d2 => ?_))
      rw [tsk_tsk] at d2 ⊢
      rw [show (59 : Int32) = nI 59 from rfl, mlc_eq gd (by omega) (by omega)]
      refine ⟨fun c => ?_, fun c => ?_⟩
      · have hq := tlc_pos (t := t) (L := L) (p := tsk t L p2) (by omega)
        rw [d2, qa_1]
        rintro M5 rfl
        have fx := (b1.trans d1).trans (pfm.u (M := M4) (j := 7) (v := nI (tsk t L p2 + 1)) (by omega))
        refine h1 _ [(v1, v2, v3)] (tsk t L p2 + 1) (by rw [es, aftS_1 c]; rfl) (a1.trans fx.d) (rd2.mv fx (by omega) ku_eq) ?_
        rw [fx.rd]
        exact a3
      · rw [d2]
        refine m_fails _ ⟨Or.inl rfl, h0 _ (tsk t L p2) ?_ (a1.trans ((b1.trans d1).trans (pfm.u (by omega))).d) ku_eq⟩
        rw [es]
        rcases hc with hc | hc
        · rw [aftS_4 c hc]
          rfl
        · subst hc
          rw [aftS_2 c]
          rfl
    refine bX6_takesRoad_9 _ _ (m_here p2 k2.2.2 gd rd2.2.1 a2 (fun M3 b1 b8 b2 => ?_))
    rw [show (44 : Int32) = nI 44 from rfl, mlc_eq gd (by omega) (by omega)]
    refine ⟨fun c => fin M3 b1 (Or.inl c) b2, fun c => ?_⟩
    have rd3 := rd2.mv b1 hsk b2
    rw [ql_455, rd3.2.2.2.1, show (8 : Int32) = nI 8 from rfl, q_le (by omega) (by omega)]
    refine ⟨fun z => fin M3 b1 (Or.inr (by omega)) b2, fun z => ?_⟩
    obtain ⟨f', rfl⟩ : ∃ f', f = f' + 1 := ⟨f - 1, by omega⟩
    have hq := tlc_pos (t := t) (L := L) (p := tsk t L p2) (by omega)
    rw [b2, qa_1]
    rintro M4 rfl
    have fx := b1.trans (pfm.u (M := M3) (j := 7) (v := nI (tsk t L p2 + 1)) (by omega))
    have es2 : aSts t L (f' + 1 + 1) p = tcons (v1, v2, v3) (aSts t L (f' + 1) (tsk t L p2 + 1)) := by rw [es, aftS_3 (by omega) c]
    refine ih f' (by omega) (k + 1) (tsk t L p2 + 1) _ (by omega) (rd2.mv fx (by omega) ku_eq) (fun M' ls p' e g1 g3 g2 => ?_) (fun M' q e g1 g2 => ?_)
    · refine h1 M' ((v1, v2, v3) :: ls) p' (by rw [es2, e]; rfl) (a1.trans (fx.d.trans g1)) (by rw [List.length_cons, show k + (ls.length + 1) = k + 1 + ls.length by omega]; exact g3) (g2.trans ?_)
      rw [fx.rd]
      exact fS_cg ls (k + 1) a3
    · exact h0 M' q (by rw [es2, e]; rfl) (a1.trans (fx.d.trans g1)) g2
theorem m_takesRoad (gd : tgd t L) (rd : rdy t L 0 0 0 M) (h1 : ∀ M' ls lr, aRoad t L = .inr (ls, lr) → dfm M M' → reqF (rmd M' 434) (fR lr 0 (fS ls 0 (rmd M 434))) → Q 1 M') (h0 : ∀ M' q, aRoad t L = .inl q → dfm M M' → M'.1 0 0 8 = nI q → Q 0 M') : kCT l (rg_m, g) mX6_takesRoad [.inr (.inr (0, 0))] M (kqi Q) := by
  refine kct (by decide) (Nat.le_of_ble_eq_true rfl) (bX6_takesRoad_0 _ _ (m_stages gd 7 0 0 M (by omega) rd (fun M2 ls p1 e1 a1 a2 a3 => ?_) (fun M2 q e1 a1 a2 => h0 M2 q (aRoad_1 e1) a1 a2)))
  have k1 := (aSts_all (t := t) (L := L) 8 0 (Nat.zero_le _)).2 _ _ e1
  rw [Nat.zero_add] at a2
  refine m_riders ls.length k1.2.2.1 k1.2.1 gd 3 0 p1 M2 (by omega) a2 (fun M3 lr p2 e2 b1 b2 => ?_) (fun M3 q e2 b1 b2 => h0 M3 q (aRoad_2 e1 e2) (a1.trans b1) b2)
  exact h1 M3 ls lr (aRoad_3 e1 e2) (a1.trans b1) (b2.trans (fR_cg lr 0 a3))
end KMR
