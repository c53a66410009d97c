/-! ===== the pair of road ===== -/
def dzm (M N : kM) : Prop := (∀ c i j, ¬ (c = 0 ∧ i = 0 ∧ (j = 3 ∨ j = 7 ∨ j = 8) ∨ c = 1 ∧ i = 0 ∧ 434 ≤ j) → N.1 c i j = M.1 c i j) ∧ N.2 = M.2
theorem fS_z : ∀ ls S {R : Rc} {j : Nat}, 2 ≤ j → fS ls S R 0 j = R 0 j
  | [], _, _, _, _ => rfl
  | (v1, v2, v3) :: ls, S, R, j, h => (fS_z ls (S + 1) h).trans (stg_ne (by omega) (by omega))
theorem fR_z : ∀ lr r {R : Rc} {j : Nat}, 2 ≤ j → fR lr r R 0 j = R 0 j
  | [], _, _, _, _ => rfl
  | (kd, st, co, m) :: lr, r, R, j, h => (fR_z lr (r + 1) h).trans (rdr_ne (by omega) (by omega))
theorem Inv.cleared {n : Nat} {Mx Mx' Mm Mm' : kM} (h : Inv n Mx Mm) (hx : ∀ c i j, (c = 0 ∨ c = 5 ∨ i = 1 ∧ (c = 1 ∨ c = 2 ∨ 7 ≤ c ∧ c ≤ 15)) → Mx'.1 c i j = Mx.1 c i j) (hx2 : Mx'.2 = Mx.2) (hm : ∀ j, 217 ≤ j → j < 434 → Mm'.1 1 0 j = Mm.1 1 0 j) (hm1 : ∀ c j, (c = 0 ∧ j = 1 ∨ c = 4 ∨ c = 5) → Mm'.1 c 0 j = Mm.1 c 0 j) (hm2 : Mm'.2 = Mm.2) (ex : Mx'.1 4 0 2 = 0) (em : Mm'.1 0 0 3 = 0) (hr : rel Mx' 0 Mm' 0 (n + 1)) : Inv (n + 1) Mx' Mm' := by
  refine ⟨hr, ?_, ⟨0, Nat.zero_le _, ex, em, fun j hj => absurd hj (Nat.not_lt_zero _)⟩, fun s hs => (h.2.2.2 s hs).cg (fun j => hx 5 s j (by omega)) (fun j => by rw [hx2]) (fun c hc => hm1 c s (by omega)) (fun j _ _ => by rw [hm2])⟩
  unfold img
  rw [hx 0 0 4 (by omega), hm1 0 1 (by omega)]
  exact h.2.1.mono.imp id (fun q => ⟨q.1, q.2.1, q.2.2.cg (fun c j hc => hx c 1 j (by omega)) (fun j b1 b2 => hm j b1 (by omega))⟩)
theorem neg20 {q : Nat} (h : q ≤ 90) : (-20 : Int32) - nI q < 0 := by
  have : ∀ q : Fin 91, (-20 : Int32) - nI q.1 < 0 := by decide +kernel
  exact this ⟨q, by omega⟩
section KRP
variable {l : Launch} {g g1 g2 : va_G × (Nat → ClassId) × (Nat → Nat → Nat)} {M Mx Mm : kM} {n t : Nat} {L : Nat → Nat} {Q : Int32 → kM → Prop}
theorem m_road (gd : tgd t L) (tm : ttm t L M)
    (h1 : ∀ N ls lr T, aRoad t L = .inr (ls, lr) → dzm M N → N.1 0 0 3 = 0 → N.1 1 0 482 = 0 → reqF (rmd N 434) (fR lr 0 (fS ls 0 T)) → T 0 0 = nI 0 → T 0 1 = nI 0 → T 0 2 = M.1 1 0 23 → T 0 3 = M.1 1 0 20 → Q ((kcp N 1 0 434 1 0 0 49).1 1 0 22) (kcp N 1 0 434 1 0 0 49))
    (h0 : ∀ N q, aRoad t L = .inl q → dzm M N → N.1 0 0 3 = 0 → Q (-20 - nI q) N) : kCT l (rg_m, g) mX6_road [.inr (.inr (0, 0))] M (kqi Q) := by
  have key : ∀ f k M1, k + f = 49 → (∀ c i j, ¬ (c = 1 ∧ i = 0 ∧ 434 ≤ j) → M1.1 c i j = M.1 c i j) → M1.2 = M.2 → (∀ j, 434 ≤ j → j < 434 + k → M1.1 1 0 j = 0) → kWP l (rg_m, g) mX6_road 2 [(0, .inr (.inr (0, 0))), (1, .inl (nI k))] [] M1 (kqi Q) := by
    intro f
    induction f with
    | zero =>
      intro k M1 hk e1 e2 ez
      obtain rfl : k = 49 := by omega
      refine bX6_road_2 _ _ _ ⟨fun _ => ?_, fun z => absurd (nI_le (Nat.le_refl 49) (by omega)) z⟩
      simp only [ql_454, ql_457, ql_20, ql_23, ql_22]
      rintro M4 rfl M5 rfl M6 rfl
      rw [ku_ne (a := 1) (b := 0) (d := 23) (by omega), e1 1 0 20 (by omega), e1 1 0 23 (by omega)]
      have fz : ∀ c i j, ¬ (c = 0 ∧ i = 0 ∧ j = 7 ∨ c = 1 ∧ i = 0 ∧ (j = 454 ∨ j = 457)) → (ku (ku (ku M1 1 0 454 (M.1 1 0 20)) 1 0 457 (M.1 1 0 23)) 0 0 7 0).1 c i j = M1.1 c i j := fun c i j hc => by
        rw [ku_ne (by omega), ku_ne (by omega), ku_ne (by omega)]
      have f2 : (ku (ku (ku M1 1 0 454 (M.1 1 0 20)) 1 0 457 (M.1 1 0 23)) 0 0 7 0).2 = M.2 := e2
      have f7 : (ku (ku (ku M1 1 0 454 (M.1 1 0 20)) 1 0 457 (M.1 1 0 23)) 0 0 7 0).1 0 0 7 = nI 0 := ku_eq
      have f457 : (ku (ku (ku M1 1 0 454 (M.1 1 0 20)) 1 0 457 (M.1 1 0 23)) 0 0 7 0).1 1 0 457 = M.1 1 0 23 := by
        rw [ku_ne (by omega), ku_eq]
      have f454 : (ku (ku (ku M1 1 0 454 (M.1 1 0 20)) 1 0 457 (M.1 1 0 23)) 0 0 7 0).1 1 0 454 = M.1 1 0 20 := by
        rw [ku_ne (by omega), ku_ne (by omega), ku_eq]
      generalize ku (ku (ku M1 1 0 454 (M.1 1 0 20)) 1 0 457 (M.1 1 0 23)) 0 0 7 0 = N at fz f2 f7 f457 f454 ⊢
      have zz : ∀ j, 434 ≤ j → j < 483 → ¬ j = 454 → ¬ j = 457 → N.1 1 0 j = 0 := fun j a b c d => (fz 1 0 j (by omega)).trans (ez j a (by omega))
      have rd : rdy t L 0 0 0 N := ⟨Nat.zero_le _, tm.cg (fun c j hc => (fz c 0 j (by omega)).trans (e1 c 0 j (by omega))), f7, zz 455 (by omega) (by omega) (by omega) (by omega), zz 456 (by omega) (by omega) (by omega) (by omega), fun j _ hj => ⟨zz (434 + 8 + j) (by omega) (by omega) (by omega) (by omega), zz (434 + 44 + j) (by omega) (by omega) (by omega) (by omega)⟩⟩
      have dz : ∀ M4 : kM, dfm N M4 → dzm M (ku M4 0 0 3 0) := fun M4 a => ⟨fun c i j hc => by rw [ku_ne (by omega), a.1 c i j (by omega), fz c i j (by omega), e1 c i j (by omega)], a.2.trans f2⟩
      refine m_takesRoad gd rd (fun M4 ls lr ea a1 a2 => ?_) (fun M4 q ea a1 a2 => ?_)
      · rintro M6 rfl
        refine ⟨fun _ => m_copyAll 434 0 49 (by omega) (by omega) (by omega) (h1 _ ls lr (rmd N 434) ea (dz M4 a1) ku_eq ?_ ?_ rd.2.2.2.1 rd.2.2.2.2.1 f457 f454), fun z => absurd z (by decide)⟩
        · rw [ku_ne (by omega), a1.1 1 0 482 (by omega)]
          exact zz 482 (by omega) (by omega) (by omega) (by omega)
        · have : rmd (ku M4 0 0 3 0) 434 = rmd M4 434 := rmd_row (fun j => ku_ne (by omega))
          rw [this]
          exact a2
      · rintro M6 rfl
        refine ⟨fun z => absurd rfl z, fun _ => ?_⟩
        rw [ku_ne (by omega), a2]
        exact h0 _ q ea (dz M4 a1) ku_eq
    | succ f ih =>
      intro k M1 hk e1 e2 ez
      refine bX6_road_2 _ _ _ ⟨fun z => ?_, fun _ => ?_⟩
      · rw [show (49 : Int32) = nI 49 from rfl, q_le (by omega) (by omega)] at z
        omega
      · simp (disch := omega) only [qa_0, qa_1, qa_2, qa_3, qa_4, qa_5, qa_6, qa_7, qa_8, qa_9, qa_10, qa_12, qa_16, qa_20, qa_21, qa_22, qa_23, qa_24, qa_26, qa_27, qa_30, qa_31, qa_32, qa_35, qa_36, qa_40, qa_44, qa_48, qa_49, qa_70, qa_81, qa_90, qa_96, qa_168, qa_217, qa_434, qa_442, qa_446, qa_450, qa_454, qa_455, qa_456, qa_457, qa_458, qa_466, qa_474, qa_478, qb_0, qb_1, qb_2, qb_3, qb_4, qb_5, qb_6, qb_7, qb_8, qb_9, qb_10, qb_12, qb_16, qb_20, qb_21, qb_22, qb_23, qb_24, qb_26, qb_27, qb_30, qb_31, qb_32, qb_35, qb_36, qb_40, qb_44, qb_48, qb_49, qb_70, qb_81, qb_90, qb_96, qb_168, qb_217, qb_434, qb_442, qb_446, qb_450, qb_454, qb_455, qb_456, qb_457, qb_458, qb_466, qb_474, qb_478, qm_0, qm_1, qm_2, qm_3, qm_4, qm_5, qm_6, qm_7, qm_8, qm_9, qm_10, qm_12, qm_16, qm_20, qm_21, qm_22, qm_23, qm_24, qm_26, qm_27, qm_30, qm_31, qm_32, qm_35, qm_36, qm_40, qm_44, qm_48, qm_49, qm_70, qm_81, qm_90, qm_96, qm_168, qm_217, qm_434, qm_442, qm_446, qm_450, qm_454, qm_455, qm_456, qm_457, qm_458, qm_466, qm_474, qm_478, ql_0, ql_1, ql_2, ql_3, ql_4, ql_5, ql_6, ql_7, ql_8, ql_9, ql_10, ql_12, ql_16, ql_20, ql_21, ql_22, ql_23, ql_24, ql_26, ql_27, ql_30, ql_31, ql_32, ql_35, ql_36, ql_40, ql_44, ql_48, ql_49, ql_70, ql_81, ql_90, ql_96, ql_168, ql_217, ql_434, ql_442, ql_446, ql_450, ql_454, ql_455, ql_456, ql_457, ql_458, ql_466, ql_474, ql_478, nI_add, q_cl, q_in, true_and]
        rintro M8 rfl z9 rfl
        refine ih (k + 1) _ (by omega) (fun c i j hc => by rw [ku_ne (by omega), e1 c i j hc]) e2 (fun j a b => ?_)
        by_cases e : j = 434 + k
        · subst e
          exact ku_eq
        · rw [ku_ne (by omega)]
          exact ez j a (by omega)
  exact kct (by decide) (Nat.le_of_ble_eq_true rfl) (bX6_road_0 _ _ (key 49 0 M (by omega) (fun _ _ _ _ => rfl) rfl (fun j a b => by omega)))
theorem pair_road (h : Inv n Mx Mm) : kPair l g1 g2 mX5_road mX6_road [] Mx Mm (Inv (n + 1)) := by
  obtain ⟨t, t90, tx2, tm3, tl⟩ := h.2.2.1
  obtain ⟨L, hL⟩ : ∃ L : Nat → Nat, ∀ j, j < t → 32 ≤ L j ∧ L j ≤ 126 ∧ Mx.1 17 0 j = nI (L j) ∧ Mm.1 2 0 j = nI (L j) := by
    refine ⟨fun j => (Mx.1 17 0 j).toNatClampNeg, fun j hj => ?_⟩
    obtain ⟨v, v1, v2, v3, v4⟩ := tl j hj
    have e : (Mx.1 17 0 j).toNatClampNeg = v := by
      rw [v3]
      exact q_cl (by omega)
    simp only [e]
    exact ⟨v1, v2, v3, v4⟩
  have gd : tgd t L := ⟨t90, fun j hj => ⟨(hL j hj).1, (hL j hj).2.1⟩⟩
  have tx : ttx t L Mx := ⟨tx2, fun j hj => (hL j hj).2.2.1⟩
  have tm : ttm t L Mm := ⟨tm3, fun j hj => (hL j hj).2.2.2⟩
  have hall := aRoad_all (t := t) (L := L)
  refine kct (by decide) (Nat.le_of_ble_eq_true rfl) (bX5_road_0 Mx _ (x_readRoad gd tx (fun M1 ls lr ea a1 a2 a3 => ?_) (fun M1 q ea a1 a2 => ⟨fun _ => bX5_road_33 _ _ _ ?_, fun z => absurd (neg20 (by have := hall.1 q ea; omega)) z⟩)))
  · obtain ⟨k1, k2, k3, k4⟩ := hall.2 ls lr ea
    have lk : ∀ T : Rc, T 0 0 = nI 0 → T 0 1 = nI 0 → lik ls.length lr.length (fR lr 0 (fS ls 0 (rup (rup (rx Mx 3) 0 0 0) 0 1 0))) (fR lr 0 (fS ls 0 T)) := by
      intro T z0 z1
      have := lik.fr lr (0 + ls.length) 0 (lik.fs ls 0 0 (R := rup (rup (rx Mx 3) 0 0 0) 0 1 0) (T := T) ⟨rfl, z0, rfl, z1, fun _ _ _ _ hj => absurd hj (Nat.not_lt_zero _), fun _ _ _ _ hj => absurd hj (Nat.not_lt_zero _), fun j hj => absurd hj (Nat.not_lt_zero _), fun i hi => absurd hi (Nat.not_lt_zero _)⟩ k3) k4
      rw [Nat.zero_add, Nat.zero_add] at this
      exact this
    have er : M1.1 1 3 1 = nI lr.length := (congrFun (congrFun a3 0) 1).trans (lk (rup (rup (rx Mx 3) 0 0 0) 0 1 0) rfl rfl).2.2.1
    refine ⟨fun z => absurd z (by rw [er]; exact nI_pos (by omega)), fun _ => x_takeRoad 0 3 (by omega) (fun M3 b1 b2 b3 => kct (by decide) (Nat.le_of_ble_eq_true rfl) (bX2_forget_0 0 M3 _ ?_))⟩
    rintro M4 rfl
    refine bX5_road_33 _ _ _ ?_
    refine m_road gd tm (fun N ls' lr' T ea' c1 c2 c3 c4 c5 c6 c7 c8 => ?_) (fun N q ea' c1 c2 => absurd (ea.symm.trans ea') (by intro z; cases z))
    have el := Sum.inr.inj (ea.symm.trans ea')
    obtain ⟨rfl, rfl⟩ : ls = ls' ∧ lr = lr' := ⟨congrArg Prod.fst el, congrArg Prod.snd el⟩
    obtain ⟨d1, d2, d3, d4, d5, d6, d7, d8⟩ := lk T c5 c6
    have hX : ∀ f j, f < 9 → j < flen f → ¬ (f = 0 ∧ 2 ≤ j) → rx (ku M3 2 0 0 0) 0 f j = fR lr 0 (fS ls 0 (rup (rup (rx Mx 3) 0 0 0) 0 1 0)) f j := by
      intro f j hf hj hz
      rw [rx_o (by omega), b3 f j hf hj hz, a3]
    have hY : ∀ f j, f < 9 → j < flen f → rmd (kcp N 1 0 434 1 0 0 49) 0 f j = fR lr 0 (fS ls 0 T) f j := by
      intro f j hf hj
      have hw := wof_lt f hf j hj
      rw [wof_rmd hf hj, kcp_i (e := 434 + wof f j) (by omega) (by omega) (by omega), ← wof_rmd hf hj]
      exact c4 f j hf hj
    have hP : ∀ j, 2 ≤ j → j < 4 → rx (ku M3 2 0 0 0) 0 0 j = rmd (kcp N 1 0 434 1 0 0 49) 0 0 j := by
      intro j j2 j4
      rw [hY 0 j (by decide) j4, fR_z lr 0 j2, fS_z ls 0 j2]
      obtain ⟨S, r, q, -⟩ := h.1
      show (ku M3 2 0 0 0).1 1 0 j = T 0 j
      rw [ku_ne (by omega), b1 1 0 j (by omega), a1.1 1 0 j (by omega)]
      rcases (show j = 2 ∨ j = 3 by omega) with rfl | rfl
      · rw [c7]
        exact q 0 2 (by decide) (by show _ < 4; omega)
      · rw [c8]
        exact q 0 3 (by decide) (by show _ < 4; omega)
    have s0 : rx (ku M3 2 0 0 0) 0 0 0 = nI ls.length := (hX 0 0 (by decide) (by decide) (by omega)).trans d1
    have s1 : rx (ku M3 2 0 0 0) 0 0 1 = nI lr.length := (hX 0 1 (by decide) (by decide) (by omega)).trans d3
    refine ⟨?_, h.cleared (fun c i j hc => by rw [ku_ne (by omega), b1 c i j (by omega), a1.1 c i j (by omega)]) (b2.trans a1.2) (fun j z1 z2 => by rw [kcp_n (by omega), c1.1 1 0 j (by omega)]) (fun c j hc => by rw [kcp_n (by omega), c1.1 c 0 j (by omega)]) c1.2 (by rw [ku_ne (by omega), b1 4 0 2 (by omega)]; exact a2) (by rw [kcp_n (by omega)]; exact c2) ?_⟩
    · rw [er]
      exact ((hY 0 1 (by decide) (by decide)).trans d4).symm
    · refine ⟨ls.length, lr.length, fun f j hf hj => ?_, ⟨s0, k1, s1, k2, fun i hi => ⟨0, Nat.zero_le _, (hX 5 i (by decide) (by show i < 4; omega) (by omega)).trans (d8 i hi).1⟩⟩, ⟨fun j hj => ?_, fun i hi => ?_⟩, ?_⟩
      · have hj' := Nat.lt_of_lt_of_le hj (fln_le _ _)
        by_cases h0 : f = 0
        · subst h0
          have j4 : j < 4 := hj'
          rcases (show j = 0 ∨ j = 1 ∨ 2 ≤ j by omega) with rfl | rfl | j2
          · rw [s0, hY 0 0 (by decide) (by decide), d2]
          · rw [s1, hY 0 1 (by decide) (by decide), d4]
          · exact hP j j2 j4
        · rw [hX f j hf hj' (by omega), hY f j hf hj']
          unfold fln at hj
          rw [s0, s1, q_cl (by omega), q_cl (by omega), if_neg h0] at hj
          by_cases h3 : f ≤ 3
          · rw [if_pos h3] at hj
            exact d5 f j (by omega) h3 (by omega)
          · rw [if_neg h3] at hj
            exact d6 f j (by omega) hf (by omega)
      · rw [hX 1 j (by decide) (by show j < 8; omega) (by omega)]
        exact d7 j hj
      · rw [hX 6 i (by decide) (by show i < 4; omega) (by omega)]
        obtain ⟨z, z1, z2⟩ := (d8 i hi).2
        exact ⟨z, B_999 z1, z2⟩
      · obtain ⟨S, r, -, -, -, u, x, -, u2, -, u4, -⟩ := h.1
        exact ⟨0, x, Nat.zero_le _, u2, ku_eq, by rw [ku_ne (by omega), b1 2 0 1 (by omega), a1.1 2 0 1 (by omega)]; exact u4, by rw [kcp_i (e := 434 + 48) (by omega) (by omega) (by omega)]; exact c3, fun i hi => absurd hi (Nat.not_lt_zero _)⟩
  · refine m_road gd tm (fun N ls' lr' T ea' c1 c2 c3 c4 c5 c6 c7 c8 => absurd (ea.symm.trans ea') (by intro z; cases z)) (fun N q' ea' c1 c2 => ?_)
    have el := Sum.inl.inj (ea.symm.trans ea')
    subst el
    exact ⟨rfl, h.cleared (fun c i j hc => a1.1 c i j (by omega)) a1.2 (fun j z1 z2 => c1.1 1 0 j (by omega)) (fun c j hc => c1.1 c 0 j (by omega)) c1.2 a2 c2 (h.1.mono.cg (fun c j hc => a1.1 c 0 j (by omega)) (fun j z1 z2 => c1.1 1 0 j (by omega)))⟩
end KRP
