/-! ===== the last minute, as a number; earlier, purse, loosened ===== -/
def ffin (p : fPw) (n : Nat) (R : Rc) : Rc := (frun p n 32 (R, fun _ => 0)).1
abbrev fno : fPw := fun _ _ => 0
theorem ffin_at {p : fPw} {S n k i : Nat} {R T : Rc} {C : Nat → Int32} (ok : rok R S n) (q : req R T) (hi : i < n) (th : ¬ (frun p n k (R, C)).1 5 i < (frun p n k (R, C)).1 0 0) : (frun p n k (R, C)).1 6 i = ffin p n T 6 i := by
  have := frun_cmp (k := k) (j := 32) (i := i) (X := (R, C)) (Y := (T, fun _ => 0)) ok (fsimR ok q) hi th (frun_end 32 _ (q.ok ok) (frem_32 (q.ok ok)))
  exact this.1.symm
theorem ffin_all {p : fPw} {S n : Nat} {R : Rc} (ok : rok R S n) : ∀ i, i < n → ¬ ffin p n R 5 i < ffin p n R 0 0 := fun i hi => rwho_none n (frun_end (p := p) 32 (R, fun _ => 0) ok (frem_32 ok)) ok.2.2.2.1 i hi
theorem ffin_cg {p : fPw} {S n i : Nat} {R T : Rc} (ok : rok R S n) (q : req R T) (hi : i < n) : ffin p n R 6 i = ffin p n T 6 i := ffin_at (k := 32) ok q hi (ffin_all ok i hi)
theorem ffin_go {p p0 : fPw} {S n k i j : Nat} {R : Rc} {C : Nat → Int32} (hp : ∀ a s, a ≠ i → p a s = p0 a s) (ok : rok R S n) (hj : j < n) (th : ¬ (frun p n k (R, C)).1 5 i < (frun p n k (R, C)).1 0 0) : ffin p0 n (frun p n k (R, C)).1 6 j = ffin p n R 6 j := by
  have okk := frun_ok (p := p) k (R, C) ok
  have e : frun p0 n 32 (frun p n k (R, C)) = frun p n (k + 32) (R, C) := by
    rw [frun_add]
    exact (frun_pw hp 32 _ okk th).symm
  have thj : ¬ (frun p n (k + 32) (R, C)).1 5 j < (frun p n (k + 32) (R, C)).1 0 0 := by
    refine rwho_none n ?_ ok.2.2.2.1 j hj
    rw [frun_add]
    exact frun_end 32 _ okk (frem_32 okk)
  have h1 := ffin_at (p := p) (k := k + 32) (C := C) ok (req.refl R) hj thj
  rw [← h1, ← e]
  have okk' : rok (frun p n k (R, C)).1 S n := okk
  exact (ffin_at (p := p0) (k := 32) (R := (frun p n k (R, C)).1) (C := (frun p n k (R, C)).2) okk' (req.refl _) hj (by
    show ¬ (frun p0 n 32 (frun p n k (R, C))).1 5 j < (frun p0 n 32 (frun p n k (R, C))).1 0 0
    rw [e]
    exact thj)).symm
theorem flse_p {w : Int32} {i : Nat} (hi : i < 4) : ∀ a s, a ≠ i → flse (nI i) w a s = (if a < 4 then 0 else flse (nI i) w a s) := by
  intro a s ha
  by_cases h : a < 4
  · rw [if_pos h]
    exact flse_ne hi rfl a s ha h
  · rw [if_neg h]
/-- only who rides counts -/
theorem fstp_pw {p p' : fPw} {S n : Nat} {X : fSt} (hp : ∀ a s, a < n → p a s = p' a s) (ok : rok X.1 S n) : fstp p n X = fstp p' n X := by
  rcases fcase ok with hw | ⟨a, s, ha, ha4, hw, hs, hs8, e5⟩
  · rw [fstp_fix hw, fstp_fix hw]
  · rw [fstp_go (by omega) hw, fstp_go (by omega) hw]
    unfold fone
    rw [hp a _ ha]
theorem frun_pwn {p p' : fPw} {S n : Nat} (hp : ∀ a s, a < n → p a s = p' a s) : ∀ (k : Nat) (X : fSt), rok X.1 S n → frun p n k X = frun p' n k X
  | 0, _, _ => rfl
  | k + 1, X, ok => by
    show frun p n k (fstp p n X) = frun p' n k (fstp p' n X)
    rw [fstp_pw hp ok]
    exact frun_pwn hp k _ (fstp_ok ok)
section KFI
variable {l : Launch} {g g1 g2 : va_G × (Nat → ClassId) × (Nat → Nat → Nat)} {M Mx Mm : kM} {n : Nat} {Q : Int32 → kM → Prop} {Qv : kM → Prop}
theorem x_rtf (i : Nat) (w : Int32) (S n : Nat) (hi : i < n) (ok : rok (rx M 2) S n) (h : ∀ M', xfr M M' → rok (rx M' 2) S n → (∀ j, j < n → ffin fno n (rx M' 2) 6 j = ffin (flse (nI i) w) n (rx M 2) 6 j) → Q (ffin (flse (nI i) w) n (rx M 2) 6 i) M') : kCT l (rg_x, g) mX0_rideToForge [.inr (.inr (3, 0)), .inl (nI i), .inl w] M (kqi Q) := by
  have h4 := ok.2.2.2.1
  refine x_rideToForge i w S n hi ok (fun M' k b1 b2 b3 => ?_)
  have e1 : rx M' 2 = (frun (flse (nI i) w) n k (rx M 2, M.1 16 0)).1 := congrArg Prod.fst b2
  have okk := frun_ok (p := flse (nI i) w) k (rx M 2, M.1 16 0) ok
  rw [← e1] at okk
  have b3' := b3
  rw [e1] at b3'
  have e6 : rx M' 2 6 i = ffin (flse (nI i) w) n (rx M 2) 6 i := by
    rw [e1]
    exact ffin_at ok (req.refl _) hi b3'
  rw [e6]
  refine h M' b1 okk (fun j hj => ?_)
  have e2 : ffin (fun a s => if a < 4 then 0 else flse (nI i) w a s) n (rx M' 2) 6 j = ffin (flse (nI i) w) n (rx M 2) 6 j := by
    rw [e1]
    exact ffin_go (i := i) (flse_p (by omega)) ok hj b3'
  rw [← e2]
  unfold ffin
  rw [frun_pwn (p := fno) (p' := fun a s => if a < 4 then 0 else flse (nI i) w a s) (fun a s ha => (if_pos (by omega)).symm) 32 (rx M' 2, fun _ => 0) okk]
theorem x_wif (S n : Nat) (ok : rok (rx M 2) S n) (h : ∀ M', xfr M M' → Q (rfst (ffin fno n (rx M 2)) n) M') : kCT l (rg_x, g) mX0_whoIsFirst [.inr (.inr (3, 0))] M (kqi Q) := by
  have h4 := ok.2.2.2.1
  refine x_whoIsFirst S n ok (fun M' k b1 b2 b3 => ?_)
  have e1 : rx M' 2 = (frun fno n k (rx M 2, M.1 16 0)).1 := congrArg Prod.fst b2
  have : rfst (rx M' 2) n = rfst (ffin fno n (rx M 2)) n := by
    refine rfst_cg n h4 (fun i hi => ?_)
    have b3' := b3 i hi
    rw [e1] at b3' ⊢
    exact ffin_at ok (req.refl _) hi b3'
  rw [this]
  exact h M' b1
theorem m_rid (one off : Int32) (S n : Nat) (ok : rok (rmd M 434) S n) (h : ∀ M', mfr M M' → (∀ j, j < n → rmd M' 434 6 j = ffin (flse one off) n (rmd M 434) 6 j) → Qv M') : kCT l (rg_m, g) mX6_ridesOn [.inr (.inr (0, 0)), .inl one, .inl off] M (kqv Qv) := by
  have h4 := ok.2.2.2.1
  refine m_ridesOn one off S n ok (fun M' C k b1 b2 b3 b4 b5 b6 => h M' b1 (fun j hj => ?_))
  have okM : rok (rmd M' 434) S n := b5.symm.ok (frun_ok k _ ok)
  rw [b5 6 j (by decide) (by first | (show _ < 4; omega) | (show _ < 8; omega) | exact fln_s (by assumption) (by omega) (by omega) (by omega) | exact fln_r (by assumption) (by omega) (by omega))]
  exact ffin_at ok (req.refl _) hj (rwho_none n b4 h4 j hj)
def ffs (P : Nat → Bool) : Nat → Nat → Int32
  | 0, _ => -4
  | f + 1, s => if P s = true then nI s else ffs P f (s + 1)
theorem pair_earlier (hn : n < 512) (h : Inv n Mx Mm) (a1 a2 : Int32) : kPair l g1 g2 mX5_earlier mX6_earlier [.inl a1, .inl a2] Mx Mm (Inv (n + 1)) := by
  have e1 := h.riders
  refine kct (by decide) (Nat.le_of_ble_eq_true rfl) (bX5_earlier_0 a1 a2 Mx _ (x_areTwo _ _ ⟨fun c => ?_, fun c => ?_⟩))
  · have c' := c
    obtain ⟨S, r, i, j, ok, hi, hj, hij, hr, rfl, rfl⟩ := h.areT c
    obtain ⟨S', r', q, ok', bd, -⟩ := h.1
    obtain ⟨rfl, rfl⟩ := rok_uniq ok ok'
    rw [e1] at c'
    have h8 := ok.2.1
    obtain ⟨t, ht, e6⟩ := bd.2 i hi
    have htB : t < 100000000 := by
      unfold B at ht
      omega
    have e6' : Mx.1 12 0 i = nI t := e6
    have emn : mni 300 (nI t) = nI (min 300 t) := by
      unfold mni
      rw [show (300 : Int32) = nI 300 from rfl]
      by_cases cc : t < 300
      · rw [if_pos ((q_lt (a := t) (b := 300) (by omega) (by omega)).mpr cc), Nat.min_eq_right (by omega)]
      · rw [if_neg (fun z => cc ((q_lt (a := t) (b := 300) (by omega) (by omega)).mp z)), Nat.min_eq_left (by omega)]
    have okd : ∀ s, rok (rup (rx Mx 0) 6 i (rx Mx 0 6 i - nI s)) S' r' := fun s => ok.up (by omega) (by omega)
    let P : Nat → Bool := fun s => decide (¬ ffin fno r' (rup (rx Mx 0) 6 i (rx Mx 0 6 i - nI s)) 6 j ≤ ffin fno r' (rup (rx Mx 0) 6 i (rx Mx 0 6 i - nI s)) 6 i)
    simp (disch := omega) only [qa_0, qa_1, qa_2, qa_3, qa_4, qa_5, qa_6, qa_7, qa_8, qa_9, qa_10, qa_12, qa_16, qa_20, qa_21, qa_22, qa_23, qa_24, qa_26, qa_27, qa_30, qa_31, qa_32, qa_35, qa_36, qa_40, qa_44, qa_48, qa_49, qa_70, qa_81, qa_90, qa_96, qa_168, qa_217, qa_434, qa_442, qa_446, qa_450, qa_454, qa_455, qa_456, qa_457, qa_458, qa_466, qa_474, qa_478, qb_0, qb_1, qb_2, qb_3, qb_4, qb_5, qb_6, qb_7, qb_8, qb_9, qb_10, qb_12, qb_16, qb_20, qb_21, qb_22, qb_23, qb_24, qb_26, qb_27, qb_30, qb_31, qb_32, qb_35, qb_36, qb_40, qb_44, qb_48, qb_49, qb_70, qb_81, qb_90, qb_96, qb_168, qb_217, qb_434, qb_442, qb_446, qb_450, qb_454, qb_455, qb_456, qb_457, qb_458, qb_466, qb_474, qb_478, qm_0, qm_1, qm_2, qm_3, qm_4, qm_5, qm_6, qm_7, qm_8, qm_9, qm_10, qm_12, qm_16, qm_20, qm_21, qm_22, qm_23, qm_24, qm_26, qm_27, qm_30, qm_31, qm_32, qm_35, qm_36, qm_40, qm_44, qm_48, qm_49, qm_70, qm_81, qm_90, qm_96, qm_168, qm_217, qm_434, qm_442, qm_446, qm_450, qm_454, qm_455, qm_456, qm_457, qm_458, qm_466, qm_474, qm_478, ql_0, ql_1, ql_2, ql_3, ql_4, ql_5, ql_6, ql_7, ql_8, ql_9, ql_10, ql_12, ql_16, ql_20, ql_21, ql_22, ql_23, ql_24, ql_26, ql_27, ql_30, ql_31, ql_32, ql_35, ql_36, ql_40, ql_44, ql_48, ql_49, ql_70, ql_81, ql_90, ql_96, ql_168, ql_217, ql_434, ql_442, ql_446, ql_450, ql_454, ql_455, ql_456, ql_457, ql_458, ql_466, ql_474, ql_478, nI_add, q_cl, q_in, true_and]
    rw [e6', emn]
    rintro z3 rfl
    have kx : ∀ f s, s + f = min 300 t + 1 → ∀ M1, xfr Mx M1 → ∀ Q : Int32 → kM → Prop, (∀ M2, xfr Mx M2 → Q (ffs P f s) M2) → kWP l (rg_x, g1) mX5_earlier 30 [(0, .inr (.inr (0, 0))), (1, .inl (nI i)), (2, .inl (nI j)), (3, .inl (nI (min 300 t))), (4, .inl (nI s))] [] M1 (kqi Q) := by
      intro f
      induction f with
      | zero =>
        intro s hs M1 fx Q hQ
        exact bX5_earlier_30 _ _ _ _ _ _ ⟨fun _ => hQ M1 fx, fun z => absurd ((q_lt (by omega) (by omega)).mpr (by omega)) z⟩
      | succ f ih =>
        intro s hs M1 fx Q hQ
        refine bX5_earlier_30 _ _ _ _ _ _ ⟨fun z => ?_, fun _ => ?_⟩
        · rw [q_lt (by omega) (by omega)] at z
          omega
        · refine x_begin S' r' (by rw [fx.r0]; exact ok) (fun M2 b1 b2 b3 => ?_)
          rw [fx.r0] at b2
          simp (disch := omega) only [qa_0, qa_1, qa_2, qa_3, qa_4, qa_5, qa_6, qa_7, qa_8, qa_9, qa_10, qa_12, qa_16, qa_20, qa_21, qa_22, qa_23, qa_24, qa_26, qa_27, qa_30, qa_31, qa_32, qa_35, qa_36, qa_40, qa_44, qa_48, qa_49, qa_70, qa_81, qa_90, qa_96, qa_168, qa_217, qa_434, qa_442, qa_446, qa_450, qa_454, qa_455, qa_456, qa_457, qa_458, qa_466, qa_474, qa_478, qb_0, qb_1, qb_2, qb_3, qb_4, qb_5, qb_6, qb_7, qb_8, qb_9, qb_10, qb_12, qb_16, qb_20, qb_21, qb_22, qb_23, qb_24, qb_26, qb_27, qb_30, qb_31, qb_32, qb_35, qb_36, qb_40, qb_44, qb_48, qb_49, qb_70, qb_81, qb_90, qb_96, qb_168, qb_217, qb_434, qb_442, qb_446, qb_450, qb_454, qb_455, qb_456, qb_457, qb_458, qb_466, qb_474, qb_478, qm_0, qm_1, qm_2, qm_3, qm_4, qm_5, qm_6, qm_7, qm_8, qm_9, qm_10, qm_12, qm_16, qm_20, qm_21, qm_22, qm_23, qm_24, qm_26, qm_27, qm_30, qm_31, qm_32, qm_35, qm_36, qm_40, qm_44, qm_48, qm_49, qm_70, qm_81, qm_90, qm_96, qm_168, qm_217, qm_434, qm_442, qm_446, qm_450, qm_454, qm_455, qm_456, qm_457, qm_458, qm_466, qm_474, qm_478, ql_0, ql_1, ql_2, ql_3, ql_4, ql_5, ql_6, ql_7, ql_8, ql_9, ql_10, ql_12, ql_16, ql_20, ql_21, ql_22, ql_23, ql_24, ql_26, ql_27, ql_30, ql_31, ql_32, ql_35, ql_36, ql_40, ql_44, ql_48, ql_49, ql_70, ql_81, ql_90, ql_96, ql_168, ql_217, ql_434, ql_442, ql_446, ql_450, ql_454, ql_455, ql_456, ql_457, ql_458, ql_466, ql_474, ql_478, nI_add, q_cl, q_in, true_and]
          rintro M3 rfl
          have er : rx (ku M2 12 2 i (M2.1 12 2 i - nI s)) 2 = rup (rx M2 2) 6 i (M2.1 12 2 i - nI s) := rx_u6
          have ev : M2.1 12 2 i = rx Mx 0 6 i := b2 6 i (by decide) (fln_r (b2.symm.ok ok) (by omega) hi)
          have q3 : req (rup (rx Mx 0) 6 i (rx Mx 0 6 i - nI s)) (rx (ku M2 12 2 i (M2.1 12 2 i - nI s)) 2) := by
            rw [er, ev]
            exact (b2.up _ _ _).symm
          have ok3 := q3.ok (okd s)
          refine x_rtf i 0 S' r' hi ok3 (fun M4 d1 d2 d3 => ?_)
          refine x_rtf j 0 S' r' hj d2 (fun M5 f1 f2 f3 => ?_)
          rw [flse_0] at d3 ⊢
          rw [flse_0, d3 j hj, ← ffin_cg (okd s) q3 hj, ← ffin_cg (okd s) q3 hi]
          have fx5 := (((fx.trans b1).trans (xfr.u (by omega))).trans d1).trans f1
          refine ⟨fun z => ?_, fun z => ?_⟩
          · rintro z7 rfl
            refine ih (s + 1) (by omega) M5 fx5 Q (fun M6 hM => ?_)
            have := hQ M6 hM
            unfold ffs at this
            rw [if_neg (by show ¬ decide (¬ _) = true; rw [decide_eq_true_iff]; exact fun w => w z)] at this
            exact this
          · have := hQ M5 fx5
            unfold ffs at this
            rw [if_pos (by show decide (¬ _) = true; rw [decide_eq_true_iff]; exact z)] at this
            exact this
    refine kx (min 300 t + 1) 0 (by omega) Mx (xfr.refl _) _ (fun Mx' fx' => ?_)
    refine kct (by decide) (Nat.le_of_ble_eq_true rfl) (bX6_earlier_0 _ _ Mm _ (m_areTwo _ _ ⟨fun _ => ?_, fun z => absurd z c'⟩))
    have m6 : Mm.1 1 0 (12 + i) = nI t := (rmd_ap (f := 6) (j := i) q (by decide) (by first | (show _ < 4; omega) | (show _ < 8; omega) | exact fln_s (by assumption) (by omega) (by omega) (by omega) | exact fln_r (by assumption) (by omega) (by omega))).symm.trans e6
    have km : ∀ f s, s + f = min 300 t + 1 → ∀ M1, mfr Mm M1 → ∀ Q : Int32 → kM → Prop, (∀ M2, mfr Mm M2 → Q (ffs P f s) M2) → kWP l (rg_m, g2) mX6_earlier 13 [(0, .inr (.inr (0, 0))), (1, .inl (nI i)), (2, .inl (nI j)), (3, .inl (nI s))] [] M1 (kqi Q) := by
      intro f
      induction f with
      | zero =>
        intro s hs M1 fm Q hQ
        refine bX6_earlier_13 _ _ _ _ _ ⟨fun _ => bX6_earlier_89 _ _ (hQ M1 fm), fun z => ?_⟩
        simp (disch := omega) only [qa_0, qa_1, qa_2, qa_3, qa_4, qa_5, qa_6, qa_7, qa_8, qa_9, qa_10, qa_12, qa_16, qa_20, qa_21, qa_22, qa_23, qa_24, qa_26, qa_27, qa_30, qa_31, qa_32, qa_35, qa_36, qa_40, qa_44, qa_48, qa_49, qa_70, qa_81, qa_90, qa_96, qa_168, qa_217, qa_434, qa_442, qa_446, qa_450, qa_454, qa_455, qa_456, qa_457, qa_458, qa_466, qa_474, qa_478, qb_0, qb_1, qb_2, qb_3, qb_4, qb_5, qb_6, qb_7, qb_8, qb_9, qb_10, qb_12, qb_16, qb_20, qb_21, qb_22, qb_23, qb_24, qb_26, qb_27, qb_30, qb_31, qb_32, qb_35, qb_36, qb_40, qb_44, qb_48, qb_49, qb_70, qb_81, qb_90, qb_96, qb_168, qb_217, qb_434, qb_442, qb_446, qb_450, qb_454, qb_455, qb_456, qb_457, qb_458, qb_466, qb_474, qb_478, qm_0, qm_1, qm_2, qm_3, qm_4, qm_5, qm_6, qm_7, qm_8, qm_9, qm_10, qm_12, qm_16, qm_20, qm_21, qm_22, qm_23, qm_24, qm_26, qm_27, qm_30, qm_31, qm_32, qm_35, qm_36, qm_40, qm_44, qm_48, qm_49, qm_70, qm_81, qm_90, qm_96, qm_168, qm_217, qm_434, qm_442, qm_446, qm_450, qm_454, qm_455, qm_456, qm_457, qm_458, qm_466, qm_474, qm_478, ql_0, ql_1, ql_2, ql_3, ql_4, ql_5, ql_6, ql_7, ql_8, ql_9, ql_10, ql_12, ql_16, ql_20, ql_21, ql_22, ql_23, ql_24, ql_26, ql_27, ql_30, ql_31, ql_32, ql_35, ql_36, ql_40, ql_44, ql_48, ql_49, ql_70, ql_81, ql_90, ql_96, ql_168, ql_217, ql_434, ql_442, ql_446, ql_450, ql_454, ql_455, ql_456, ql_457, ql_458, ql_466, ql_474, ql_478, nI_add, q_cl, q_in, true_and]
        rw [fm.1 1 0 (12 + i) (by omega), m6]
        refine ⟨fun _ => bX6_earlier_89 _ _ (hQ M1 fm), fun z2 => ?_⟩
        rw [show (300 : Int32) = nI 300 from rfl, q_lt (by omega) (by omega)] at z
        rw [q_lt (by omega) (by omega)] at z2
        omega
      | succ f ih =>
        intro s hs M1 fm Q hQ
        refine bX6_earlier_13 _ _ _ _ _ ⟨fun z => ?_, fun _ => ?_⟩
        · rw [show (300 : Int32) = nI 300 from rfl, q_lt (by omega) (by omega)] at z
          omega
        · simp (disch := omega) only [qa_0, qa_1, qa_2, qa_3, qa_4, qa_5, qa_6, qa_7, qa_8, qa_9, qa_10, qa_12, qa_16, qa_20, qa_21, qa_22, qa_23, qa_24, qa_26, qa_27, qa_30, qa_31, qa_32, qa_35, qa_36, qa_40, qa_44, qa_48, qa_49, qa_70, qa_81, qa_90, qa_96, qa_168, qa_217, qa_434, qa_442, qa_446, qa_450, qa_454, qa_455, qa_456, qa_457, qa_458, qa_466, qa_474, qa_478, qb_0, qb_1, qb_2, qb_3, qb_4, qb_5, qb_6, qb_7, qb_8, qb_9, qb_10, qb_12, qb_16, qb_20, qb_21, qb_22, qb_23, qb_24, qb_26, qb_27, qb_30, qb_31, qb_32, qb_35, qb_36, qb_40, qb_44, qb_48, qb_49, qb_70, qb_81, qb_90, qb_96, qb_168, qb_217, qb_434, qb_442, qb_446, qb_450, qb_454, qb_455, qb_456, qb_457, qb_458, qb_466, qb_474, qb_478, qm_0, qm_1, qm_2, qm_3, qm_4, qm_5, qm_6, qm_7, qm_8, qm_9, qm_10, qm_12, qm_16, qm_20, qm_21, qm_22, qm_23, qm_24, qm_26, qm_27, qm_30, qm_31, qm_32, qm_35, qm_36, qm_40, qm_44, qm_48, qm_49, qm_70, qm_81, qm_90, qm_96, qm_168, qm_217, qm_434, qm_442, qm_446, qm_450, qm_454, qm_455, qm_456, qm_457, qm_458, qm_466, qm_474, qm_478, ql_0, ql_1, ql_2, ql_3, ql_4, ql_5, ql_6, ql_7, ql_8, ql_9, ql_10, ql_12, ql_16, ql_20, ql_21, ql_22, ql_23, ql_24, ql_26, ql_27, ql_30, ql_31, ql_32, ql_35, ql_36, ql_40, ql_44, ql_48, ql_49, ql_70, ql_81, ql_90, ql_96, ql_168, ql_217, ql_434, ql_442, ql_446, ql_450, ql_454, ql_455, ql_456, ql_457, ql_458, ql_466, ql_474, ql_478, nI_add, q_cl, q_in, true_and]
          rw [fm.1 1 0 (12 + i) (by omega), m6]
          refine ⟨fun z => ?_, fun _ => m_tries (fun M2 b1 b2 => ?_)⟩
          · rw [q_lt (by omega) (by omega)] at z
            omega
          · skip
            rintro M3 rfl
            have b2' : req (rmd M2 434) (rx Mx 0) := b2.trans (fm.r0.trans q.symm)
            have ev : M2.1 1 0 (446 + i) = rx Mx 0 6 i := b2' 6 i (by decide) (fln_r (b2'.symm.ok ok) (by omega) hi)
            have q3 : req (rup (rx Mx 0) 6 i (rx Mx 0 6 i - nI s)) (rmd (ku M2 1 0 (446 + i) (M2.1 1 0 (446 + i) - nI s)) 434) := by
              rw [ev]
              exact ((rmd_u (h := 434) (f := 6) (j := i) (by simp [wof]; omega) (by decide) (by first | (show _ < 4; omega) | (show _ < 8; omega) | exact fln_s (by assumption) (by omega) (by omega) (by omega) | exact fln_r (by assumption) (by omega) (by omega))).trans (b2'.up _ _ _)).symm
            have ok3 := q3.ok (okd s)
            refine m_rid _ _ S' r' ok3 (fun M4 d1 d2 => ?_)
            have g6 : ∀ x, x < r' → M4.1 1 0 (446 + x) = ffin fno r' (rup (rx Mx 0) 6 i (rx Mx 0 6 i - nI s)) 6 x := by
              intro x hx
              have := d2 x hx
              rw [flse_0, ← ffin_cg (okd s) q3 hx] at this
              exact this
            skip
            rw [g6 i hi, g6 j hj]
            have fm4 := ((fm.trans b1).trans (mfr.u (by omega))).trans d1
            refine ⟨fun z => ?_, fun z => ?_⟩
            · rintro z4 rfl
              refine ih (s + 1) (by omega) M4 fm4 Q (fun M6 hM => ?_)
              have := hQ M6 hM
              unfold ffs at this
              rw [if_neg (by show ¬ decide (¬ _) = true; rw [decide_eq_true_iff]; exact fun w => w z)] at this
              exact this
            · have := hQ M4 fm4
              unfold ffs at this
              rw [if_pos (by show decide (¬ _) = true; rw [decide_eq_true_iff]; exact z)] at this
              exact this
    exact km (min 300 t + 1) 0 (by omega) Mm (mfr.refl _) _ (fun Mm' fm' => ⟨rfl, h.next fx'.same fm'.same⟩)
  · rw [e1] at c
    exact kct (by decide) (Nat.le_of_ble_eq_true rfl) (bX6_earlier_0 _ _ Mm _ (m_areTwo _ _ ⟨fun z => absurd c z, fun _ => ⟨rfl, h.mono⟩⟩))
theorem pair_purse (h : Inv n Mx Mm) (a1 a2 : Int32) : kPair l g1 g2 mX5_purse mX6_purse [.inl a1, .inl a2] Mx Mm (Inv (n + 1)) := by
  have e1 := h.riders
  refine kct (by decide) (Nat.le_of_ble_eq_true rfl) (bX5_purse_0 a1 a2 Mx _ (x_isRider _ ⟨fun c => bX5_purse_19 _ _ ?_, fun c => x_within _ _ _ ⟨fun c2 => ?_, fun c2 => bX5_purse_19 _ _ ?_⟩⟩))
  · rw [e1] at c
    exact kct (by decide) (Nat.le_of_ble_eq_true rfl) (bX6_purse_0 _ a2 Mm _ (m_isRider _ ⟨fun _ => bX6_purse_20 _ _ ⟨rfl, h.mono⟩, fun z => absurd c z⟩))
  · have c' := c
    obtain ⟨S, r, i, ok, hi, hr, rfl⟩ := h.isR c
    obtain ⟨S', r', q, -⟩ := h.1
    rw [e1] at c'
    have okd : ∀ s, rok (rup (rx Mx 0) 7 i (nI s)) S r := fun s => ok.up (by omega) (by omega)
    let P : Nat → Bool := fun s => decide (¬ a2 < ffin fno r (rup (rx Mx 0) 7 i (nI s)) 6 i)
    have kx : ∀ f s, s + f = 100 → ∀ M1, xfr Mx M1 → ∀ Q : Int32 → kM → Prop, (∀ M2, xfr Mx M2 → Q (ffs P f s) M2) → kWP l (rg_x, g1) mX5_purse 23 [(0, .inr (.inr (0, 0))), (1, .inl (nI i)), (2, .inl a2), (3, .inl (nI s))] [] M1 (kqi Q) := by
      intro f
      induction f with
      | zero =>
        intro s hs M1 fx Q hQ
        exact bX5_purse_23 _ _ _ _ _ ⟨fun _ => hQ M1 fx, fun z => absurd ((q_lt (a := 99) (by omega) (by omega)).mpr (by omega)) z⟩
      | succ f ih =>
        intro s hs M1 fx Q hQ
        refine bX5_purse_23 _ _ _ _ _ ⟨fun z => ?_, fun _ => ?_⟩
        · rw [show (99 : Int32) = nI 99 from rfl, q_lt (by omega) (by omega)] at z
          omega
        · refine x_begin S r (by rw [fx.r0]; exact ok) (fun M2 b1 b2 b3 => ?_)
          rw [fx.r0] at b2
          simp (disch := omega) only [qa_0, qa_1, qa_2, qa_3, qa_4, qa_5, qa_6, qa_7, qa_8, qa_9, qa_10, qa_12, qa_16, qa_20, qa_21, qa_22, qa_23, qa_24, qa_26, qa_27, qa_30, qa_31, qa_32, qa_35, qa_36, qa_40, qa_44, qa_48, qa_49, qa_70, qa_81, qa_90, qa_96, qa_168, qa_217, qa_434, qa_442, qa_446, qa_450, qa_454, qa_455, qa_456, qa_457, qa_458, qa_466, qa_474, qa_478, qb_0, qb_1, qb_2, qb_3, qb_4, qb_5, qb_6, qb_7, qb_8, qb_9, qb_10, qb_12, qb_16, qb_20, qb_21, qb_22, qb_23, qb_24, qb_26, qb_27, qb_30, qb_31, qb_32, qb_35, qb_36, qb_40, qb_44, qb_48, qb_49, qb_70, qb_81, qb_90, qb_96, qb_168, qb_217, qb_434, qb_442, qb_446, qb_450, qb_454, qb_455, qb_456, qb_457, qb_458, qb_466, qb_474, qb_478, qm_0, qm_1, qm_2, qm_3, qm_4, qm_5, qm_6, qm_7, qm_8, qm_9, qm_10, qm_12, qm_16, qm_20, qm_21, qm_22, qm_23, qm_24, qm_26, qm_27, qm_30, qm_31, qm_32, qm_35, qm_36, qm_40, qm_44, qm_48, qm_49, qm_70, qm_81, qm_90, qm_96, qm_168, qm_217, qm_434, qm_442, qm_446, qm_450, qm_454, qm_455, qm_456, qm_457, qm_458, qm_466, qm_474, qm_478, ql_0, ql_1, ql_2, ql_3, ql_4, ql_5, ql_6, ql_7, ql_8, ql_9, ql_10, ql_12, ql_16, ql_20, ql_21, ql_22, ql_23, ql_24, ql_26, ql_27, ql_30, ql_31, ql_32, ql_35, ql_36, ql_40, ql_44, ql_48, ql_49, ql_70, ql_81, ql_90, ql_96, ql_168, ql_217, ql_434, ql_442, ql_446, ql_450, ql_454, ql_455, ql_456, ql_457, ql_458, ql_466, ql_474, ql_478, nI_add, q_cl, q_in, true_and]
          rintro M3 rfl
          have q3 : req (rup (rx Mx 0) 7 i (nI s)) (rx (ku M2 13 2 i (nI s)) 2) := by
            rw [rx_u7]
            exact (b2.up _ _ _).symm
          have ok3 := q3.ok (okd s)
          refine x_rtf i 0 S r hi ok3 (fun M4 d1 d2 d3 => ?_)
          rw [flse_0, ← ffin_cg (okd s) q3 hi]
          have fx5 := ((fx.trans b1).trans (xfr.u (by omega))).trans d1
          refine ⟨fun z => ?_, fun z => ?_⟩
          · rintro z7 rfl
            refine ih (s + 1) (by omega) M4 fx5 Q (fun M6 hM => ?_)
            have := hQ M6 hM
            unfold ffs at this
            rw [if_neg (by show ¬ decide (¬ _) = true; rw [decide_eq_true_iff]; exact fun w => w z)] at this
            exact this
          · have := hQ M4 fx5
            unfold ffs at this
            rw [if_pos (by show decide (¬ _) = true; rw [decide_eq_true_iff]; exact z)] at this
            exact this
    refine kx 100 0 (by omega) Mx (xfr.refl _) _ (fun Mx' fx' => ?_)
    refine kct (by decide) (Nat.le_of_ble_eq_true rfl) (bX6_purse_0 _ _ Mm _ (m_isRider _ ⟨fun z => absurd z c', fun _ => m_in _ 0 9999 (by decide) (by decide) ⟨fun _ => ?_, fun z => absurd z c2⟩⟩))
    have km : ∀ f s, s + f = 100 → ∀ M1, mfr Mm M1 → ∀ Q : Int32 → kM → Prop, (∀ M2, mfr Mm M2 → Q (ffs P f s) M2) → kWP l (rg_m, g2) mX6_purse 24 [(0, .inr (.inr (0, 0))), (1, .inl (nI i)), (2, .inl a2), (3, .inl (nI s))] [] M1 (kqi Q) := by
      intro f
      induction f with
      | zero =>
        intro s hs M1 fm Q hQ
        exact bX6_purse_24 _ _ _ _ _ ⟨fun _ => hQ M1 fm, fun z => absurd ((q_le (a := 100) (by omega) (by omega)).mpr (by omega)) z⟩
      | succ f ih =>
        intro s hs M1 fm Q hQ
        refine bX6_purse_24 _ _ _ _ _ ⟨fun z => ?_, fun _ => m_tries (fun M2 b1 b2 => ?_)⟩
        · rw [show (100 : Int32) = nI 100 from rfl, q_le (by omega) (by omega)] at z
          omega
        · simp (disch := omega) only [qa_0, qa_1, qa_2, qa_3, qa_4, qa_5, qa_6, qa_7, qa_8, qa_9, qa_10, qa_12, qa_16, qa_20, qa_21, qa_22, qa_23, qa_24, qa_26, qa_27, qa_30, qa_31, qa_32, qa_35, qa_36, qa_40, qa_44, qa_48, qa_49, qa_70, qa_81, qa_90, qa_96, qa_168, qa_217, qa_434, qa_442, qa_446, qa_450, qa_454, qa_455, qa_456, qa_457, qa_458, qa_466, qa_474, qa_478, qb_0, qb_1, qb_2, qb_3, qb_4, qb_5, qb_6, qb_7, qb_8, qb_9, qb_10, qb_12, qb_16, qb_20, qb_21, qb_22, qb_23, qb_24, qb_26, qb_27, qb_30, qb_31, qb_32, qb_35, qb_36, qb_40, qb_44, qb_48, qb_49, qb_70, qb_81, qb_90, qb_96, qb_168, qb_217, qb_434, qb_442, qb_446, qb_450, qb_454, qb_455, qb_456, qb_457, qb_458, qb_466, qb_474, qb_478, qm_0, qm_1, qm_2, qm_3, qm_4, qm_5, qm_6, qm_7, qm_8, qm_9, qm_10, qm_12, qm_16, qm_20, qm_21, qm_22, qm_23, qm_24, qm_26, qm_27, qm_30, qm_31, qm_32, qm_35, qm_36, qm_40, qm_44, qm_48, qm_49, qm_70, qm_81, qm_90, qm_96, qm_168, qm_217, qm_434, qm_442, qm_446, qm_450, qm_454, qm_455, qm_456, qm_457, qm_458, qm_466, qm_474, qm_478, ql_0, ql_1, ql_2, ql_3, ql_4, ql_5, ql_6, ql_7, ql_8, ql_9, ql_10, ql_12, ql_16, ql_20, ql_21, ql_22, ql_23, ql_24, ql_26, ql_27, ql_30, ql_31, ql_32, ql_35, ql_36, ql_40, ql_44, ql_48, ql_49, ql_70, ql_81, ql_90, ql_96, ql_168, ql_217, ql_434, ql_442, ql_446, ql_450, ql_454, ql_455, ql_456, ql_457, ql_458, ql_466, ql_474, ql_478, nI_add, q_cl, q_in, true_and]
          rintro M3 rfl
          have b2' : req (rmd M2 434) (rx Mx 0) := b2.trans (fm.r0.trans q.symm)
          have q3 : req (rup (rx Mx 0) 7 i (nI s)) (rmd (ku M2 1 0 (450 + i) (nI s)) 434) := ((rmd_u (h := 434) (f := 7) (j := i) (by simp [wof]; omega) (by decide) (by first | (show _ < 4; omega) | (show _ < 8; omega) | exact fln_s (by assumption) (by omega) (by omega) (by omega) | exact fln_r (by assumption) (by omega) (by omega))).trans (b2'.up _ _ _)).symm
          have ok3 := q3.ok (okd s)
          refine m_rid _ _ S r ok3 (fun M4 d1 d2 => ?_)
          have g6 : ∀ x, x < r → M4.1 1 0 (446 + x) = ffin fno r (rup (rx Mx 0) 7 i (nI s)) 6 x := by
            intro x hx
            have := d2 x hx
            rw [flse_0, ← ffin_cg (okd s) q3 hx] at this
            exact this
          skip
          rw [g6 i hi]
          have fm4 := ((fm.trans b1).trans (mfr.u (by omega))).trans d1
          refine ⟨fun z => ?_, fun z => ?_⟩
          · rintro z4 rfl
            refine ih (s + 1) (by omega) M4 fm4 Q (fun M6 hM => ?_)
            have := hQ M6 hM
            unfold ffs at this
            rw [if_neg (by show ¬ decide (¬ _) = true; rw [decide_eq_true_iff]; exact fun w => w z)] at this
            exact this
          · have := hQ M4 fm4
            unfold ffs at this
            rw [if_pos (by show decide (¬ _) = true; rw [decide_eq_true_iff]; exact z)] at this
            exact this
    exact km 100 0 (by omega) Mm (mfr.refl _) _ (fun Mm' fm' => ⟨rfl, h.next fx'.same fm'.same⟩)
  · rw [e1] at c
    exact kct (by decide) (Nat.le_of_ble_eq_true rfl) (bX6_purse_0 _ a2 Mm _ (m_isRider _ ⟨fun z => absurd z c, fun _ => m_in _ 0 9999 (by decide) (by decide) ⟨fun z => absurd c2 z, fun _ => bX6_purse_20 _ _ ⟨rfl, h.mono⟩⟩⟩))
end KFI
