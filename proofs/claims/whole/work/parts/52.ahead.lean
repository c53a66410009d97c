/-! ===== ahead, comes, first, caught ===== -/
theorem fsim0 {Mx M1 : kM} {R : Rc} {C : Nat → Int32} {S n : Nat} (ok : rok (rx Mx 0) S n) (a : req (rx M1 2) (rx Mx 0)) (b : ∀ r, r < n → M1.1 16 0 (9 * r + (rx Mx 0 5 r).toNatClampNeg) = rx Mx 0 6 r) (q : req (rx Mx 0) R) (c : ∀ r s, r < n → s ≤ 8 → C (9 * r + s) = if s = (R 5 r).toNatClampNeg then R 6 r else -4) : fsim n (fun r => (rx Mx 0 5 r).toNatClampNeg) (rx M1 2, M1.1 16 0) (R, C) := by
  have h4 := ok.2.2.2.1
  have hS := ok.2.1
  refine ⟨a.trans q, fun r hr s h1 h2 => ?_⟩
  obtain ⟨x, hx, e5⟩ := ok.2.2.2.2 r hr
  have ok1 : rok (rx M1 2) S n := a.symm.ok ok
  have e1 : rx M1 2 5 r = rx Mx 0 5 r := a 5 r (by decide) (by first | (show _ < 4; omega) | (show _ < 8; omega) | exact fln_s (by assumption) (by omega) (by omega) (by omega) | exact fln_r (by assumption) (by omega) (by omega))
  have h2' : s ≤ (rx M1 2 5 r).toNatClampNeg := h2
  rw [e1] at h2'
  have h1' : (rx Mx 0 5 r).toNatClampNeg ≤ s := h1
  obtain rfl : s = (rx Mx 0 5 r).toNatClampNeg := by omega
  have := b r hr
  show M1.1 16 0 _ = C _
  rw [this, c r _ hr (by rw [e5, q_cl (by omega)]; omega), if_pos (by rw [q 5 r (by decide) (by first | (show _ < 4; omega) | (show _ < 8; omega) | exact fln_s (by assumption) (by omega) (by omega) (by omega) | exact fln_r (by assumption) (by omega) (by omega))])]
  exact q 6 r (by decide) (by first | (show _ < 4; omega) | (show _ < 8; omega) | exact fln_s (by assumption) (by omega) (by omega) (by omega) | exact fln_r (by assumption) (by omega) (by omega))
theorem fsimR {n S : Nat} {X Y : fSt} (ok : rok X.1 S n) (h : req X.1 Y.1) : fsim n (fun _ => 100) X Y := by
  refine ⟨h, fun r hr s h1 h2 => ?_⟩
  obtain ⟨x, hx, e5⟩ := ok.2.2.2.2 r hr
  have hS := ok.2.1
  rw [e5, q_cl (by omega)] at h2
  have h1' : 100 ≤ s := h1
  omega
def rfst (R : Rc) : Nat → Int32
  | 0 => -4
  | r + 1 => if rfst R r = -4 ∨ R 6 r < R 6 (rfst R r).toNatClampNeg then nI r else rfst R r
theorem rfst_cases (R : Rc) : ∀ n, rfst R n = -4 ∨ ∃ i, i < n ∧ rfst R n = nI i
  | 0 => Or.inl rfl
  | n + 1 => by
    unfold rfst
    by_cases c : rfst R n = -4 ∨ R 6 n < R 6 (rfst R n).toNatClampNeg
    · rw [if_pos c]
      exact Or.inr ⟨n, by omega, rfl⟩
    · rw [if_neg c]
      rcases rfst_cases R n with h | ⟨i, h1, h2⟩
      · exact absurd (Or.inl h) c
      · exact Or.inr ⟨i, by omega, h2⟩
theorem rfst_cg {R T : Rc} : ∀ n, n ≤ 4 → (∀ i, i < n → R 6 i = T 6 i) → rfst R n = rfst T n
  | 0, _, _ => rfl
  | n + 1, hn, h => by
    have ih := rfst_cg n (by omega) (fun i hi => h i (by omega))
    unfold rfst
    rw [← ih, ← h n (by omega)]
    rcases rfst_cases R n with q | ⟨i, q1, q2⟩
    · rw [q]; simp
    · rw [q2, q_cl (by omega), ← h i (by omega)]
def fct (A D : Nat → Int32) : Nat → Nat → Int32
  | 0, _ => -4
  | f + 1, s => if A s < D s then fct A D f (s + 1) else nI s
theorem fct_cg {A D A' D' : Nat → Int32} : ∀ f s, (∀ x, s ≤ x → x < s + f → A x = A' x ∧ D x = D' x) → fct A D f s = fct A' D' f s
  | 0, _, _ => rfl
  | f + 1, s, h => by
    unfold fct
    rw [(h s (by omega) (by omega)).1, (h s (by omega) (by omega)).2, fct_cg f (s + 1) (fun x h1 h2 => h x (by omega) (by omega))]
theorem mxi_nI {a b : Nat} (ha : a < 1000) (hb : b < 1000) : mxi (nI a) (nI b) = nI (max a b) := by
  unfold mxi
  by_cases c : a < b
  · rw [if_pos ((q_lt (by omega) (by omega)).mpr c), Nat.max_eq_right (by omega)]
  · rw [if_neg (fun z => c ((q_lt (by omega) (by omega)).mp z)), Nat.max_eq_left (by omega)]
section KAH
variable {l : Launch} {g g1 g2 : va_G × (Nat → ClassId) × (Nat → Nat → Nat)} {M Mx Mm : kM} {n : Nat} {Q : Int32 → kM → Prop}
theorem x_whoIsFirst (S n : Nat) (ok : rok (rx M 2) S n) (h : ∀ M' k, xfr M M' → (rx M' 2, M'.1 16 0) = frun (fun _ _ => 0) n k (rx M 2, M.1 16 0) → (∀ i, i < n → ¬ rx M' 2 5 i < rx M' 2 0 0) → Q (rfst (rx M' 2) n) M') : kCT l (rg_x, g) mX0_whoIsFirst [.inr (.inr (3, 0))] M (kqi Q) := by
  have h4 := ok.2.2.2.1
  have hS := ok.2.1
  refine kct (by decide) (Nat.le_of_ble_eq_true rfl) (bX0_whoIsFirst_0 M Q ?_)
  have key : ∀ f i, i + f = n → ∀ M1 k v, xfr M M1 → (rx M1 2, M1.1 16 0) = frun (fun _ _ => 0) n k (rx M 2, M.1 16 0) → (∀ j, j < i → ¬ rx M1 2 5 j < rx M1 2 0 0) → (rfst (rx M1 2) i = -4 ∨ v = rx M1 2 6 (rfst (rx M1 2) i).toNatClampNeg) → kWP l (rg_x, g) mX0_whoIsFirst 7 [(0, .inr (.inr (3, 0))), (1, .inl (rfst (rx M1 2) i)), (2, .inl v), (3, .inl (nI i))] [] M1 (kqi Q) := by
    intro f
    induction f with
    | zero =>
      intro i hi M1 k v b1 b2 b3 b4
      obtain rfl : i = n := by omega
      have ok1 : rok (rx M1 2) S i := by
        have := frun_ok (p := fun _ _ => 0) k (rx M 2, M.1 16 0) ok
        rw [← b2] at this
        exact this
      refine bX0_whoIsFirst_7 _ _ _ _ _ ?_
      rw [show M1.1 1 2 1 = nI i from ok1.2.2.1]
      exact ⟨fun _ => h M1 k b1 b2 b3, fun c => absurd (nI_le (Nat.le_refl i) (by omega)) c⟩
    | succ f ih =>
      intro i hi M1 k v b1 b2 b3 b4
      have ok1 : rok (rx M1 2) S n := by
        have := frun_ok (p := fun _ _ => 0) k (rx M 2, M.1 16 0) ok
        rw [← b2] at this
        exact this
      refine bX0_whoIsFirst_7 _ _ _ _ _ ?_
      rw [show M1.1 1 2 1 = nI n from ok1.2.2.1]
      refine ⟨fun c => ?_, fun _ => x_rideToForge i 0 S n (by omega) ok1 (fun M2 k2 d1 d2 d3 => ?_)⟩
      · rw [q_le (by omega) (by omega)] at c
        omega
      · rw [flse_0] at d2
        have st : ∀ j, j < i → fsm j (rx M1 2, M1.1 16 0) (rx M2 2, M2.1 16 0) := by
          intro j hj
          rw [d2]
          exact frun_there k2 _ ok1 (b3 j hj)
        have ef : rfst (rx M2 2) i = rfst (rx M1 2) i := rfst_cg i (by omega) (fun j hj => (st j hj).2.2.1)
        have e2 : (rx M2 2, M2.1 16 0) = frun (fun _ _ => 0) n (k + k2) (rx M 2, M.1 16 0) := by
          rw [frun_add, ← b2]
          exact d2
        have th2 : ∀ j, j < i + 1 → ¬ rx M2 2 5 j < rx M2 2 0 0 := by
          intro j hj
          by_cases e : j = i
          · subst e
            exact d3
          · rw [show rx M2 2 5 j = rx M1 2 5 j from (st j (by omega)).2.1, show rx M2 2 0 0 = rx M1 2 0 0 from (st j (by omega)).1]
            exact b3 j (by omega)
        have nx := fun v => ih (i + 1) (by omega) M2 (k + k2) v (b1.trans d1) e2 th2
        have hf : rfst (rx M2 2) (i + 1) = if rfst (rx M2 2) i = -4 ∨ rx M2 2 6 i < rx M2 2 6 (rfst (rx M2 2) i).toNatClampNeg then nI i else rfst (rx M2 2) i := rfl
        have k36 : rfst (rx M2 2) (i + 1) = nI i → kWP l (rg_x, g) mX0_whoIsFirst 36 [(0, .inr (.inr (3, 0))), (3, .inl (nI i)), (4, .inl (rx M2 2 6 i))] [] M2 (kqi Q) := by
          intro e
          have := nx (rx M2 2 6 i) (Or.inr (by rw [e, q_cl (by omega)]))
          rw [e] at this
          refine bX0_whoIsFirst_36 _ _ _ _ (bX0_whoIsFirst_41 _ _ _ _ _ ?_)
          rintro z1 rfl
          rw [qa_1]
          exact this
        rw [← ef]
        rcases rfst_cases (rx M2 2) i with q | ⟨j, q1, q2⟩
        · rw [if_pos (Or.inl q)] at hf
          rw [q]
          exact ⟨fun _ => k36 hf, fun z => absurd (by decide) z⟩
        · rw [q2]
          refine ⟨fun z => absurd z (nI_pos (by omega)), fun _ => ?_⟩
          have ev : v = rx M2 2 6 j := by
            rcases b4 with b4 | b4
            · rw [← ef, q2] at b4
              exact absurd b4 (nI_neg4 (by omega))
            · rw [← ef, q2, q_cl (by omega)] at b4
              rw [b4]
              exact (st j (by omega)).2.2.1.symm
          rw [ev]
          rw [q2, q_cl (by omega)] at hf
          refine ⟨fun c => ?_, fun c => ?_⟩
          · rw [if_neg (fun z => z.elim (nI_neg4 (by omega)) (fun z => absurd c (Int32.not_le.mpr z)))] at hf
            have := nx (rx M2 2 6 j) (Or.inr (by rw [hf, q_cl (by omega)]))
            rw [hf] at this
            refine bX0_whoIsFirst_41 _ _ _ _ _ ?_
            rintro z1 rfl
            rw [qa_1]
            exact this
          · rw [if_pos (Or.inr (Int32.not_le.mp c))] at hf
            exact k36 hf
  exact key n 0 (by omega) M 0 0 (xfr.refl M) rfl (fun j hj => by omega) (Or.inl rfl)
theorem m_firstTried (n : Nat) (hn : n ≤ 4) (e : M.1 1 0 22 = nI n) (h : Q (rfst (rmd M 434) n) M) : kCT l (rg_m, g) mX6_firstTried [.inr (.inr (0, 0))] M (kqi Q) := by
  refine kct (by decide) (Nat.le_of_ble_eq_true rfl) (bX6_firstTried_0 M Q ?_)
  have key : ∀ f i, i + f = n → kWP l (rg_m, g) mX6_firstTried 5 [(0, .inr (.inr (0, 0))), (1, .inl (rfst (rmd M 434) i)), (2, .inl (nI i))] [] M (kqi Q) := by
    intro f
    induction f with
    | zero =>
      intro i hi
      obtain rfl : i = n := by omega
      refine bX6_firstTried_5 _ _ _ _ ?_
      rw [ql_22, e]
      exact ⟨fun _ => h, fun c => absurd (nI_le (Nat.le_refl i) (by omega)) c⟩
    | succ f ih =>
      intro i hi
      have nx := ih (i + 1) (by omega)
      have hf : rfst (rmd M 434) (i + 1) = if rfst (rmd M 434) i = -4 ∨ rmd M 434 6 i < rmd M 434 6 (rfst (rmd M 434) i).toNatClampNeg then nI i else rfst (rmd M 434) i := rfl
      rw [hf] at nx
      refine bX6_firstTried_5 _ _ _ _ ?_
      rw [ql_22, e]
      refine ⟨fun c => ?_, fun _ => ?_⟩
      · rw [q_le (by omega) (by omega)] at c
        omega
      · rcases rfst_cases (rmd M 434) i with q | ⟨j, q1, q2⟩
        · rw [if_pos (Or.inl q)] at nx
          rw [q]
          refine ⟨fun _ => bX6_firstTried_45 _ _ _ (bX6_firstTried_50 _ _ _ _ ?_), fun z => absurd rfl z⟩
          rintro z1 rfl
          rw [qa_1]
          exact nx
        · rw [q2, q_cl (by omega)] at nx
          rw [q2]
          refine ⟨fun z => absurd z (nI_neg4 (by omega)), fun _ => ?_⟩
          simp (disch := omega) only [qa_0, qa_1, qa_2, qa_3, qa_4, qa_5, qa_6, qa_7, qa_8, qa_9, qa_10, qa_12, qa_16, qa_20, qa_21, qa_22, qa_23, qa_24, qa_26, qa_27, qa_30, qa_31, qa_32, qa_35, qa_36, qa_40, qa_44, qa_48, qa_49, qa_70, qa_81, qa_90, qa_96, qa_168, qa_217, qa_434, qa_442, qa_446, qa_450, qa_454, qa_455, qa_456, qa_457, qa_458, qa_466, qa_474, qa_478, qb_0, qb_1, qb_2, qb_3, qb_4, qb_5, qb_6, qb_7, qb_8, qb_9, qb_10, qb_12, qb_16, qb_20, qb_21, qb_22, qb_23, qb_24, qb_26, qb_27, qb_30, qb_31, qb_32, qb_35, qb_36, qb_40, qb_44, qb_48, qb_49, qb_70, qb_81, qb_90, qb_96, qb_168, qb_217, qb_434, qb_442, qb_446, qb_450, qb_454, qb_455, qb_456, qb_457, qb_458, qb_466, qb_474, qb_478, qm_0, qm_1, qm_2, qm_3, qm_4, qm_5, qm_6, qm_7, qm_8, qm_9, qm_10, qm_12, qm_16, qm_20, qm_21, qm_22, qm_23, qm_24, qm_26, qm_27, qm_30, qm_31, qm_32, qm_35, qm_36, qm_40, qm_44, qm_48, qm_49, qm_70, qm_81, qm_90, qm_96, qm_168, qm_217, qm_434, qm_442, qm_446, qm_450, qm_454, qm_455, qm_456, qm_457, qm_458, qm_466, qm_474, qm_478, ql_0, ql_1, ql_2, ql_3, ql_4, ql_5, ql_6, ql_7, ql_8, ql_9, ql_10, ql_12, ql_16, ql_20, ql_21, ql_22, ql_23, ql_24, ql_26, ql_27, ql_30, ql_31, ql_32, ql_35, ql_36, ql_40, ql_44, ql_48, ql_49, ql_70, ql_81, ql_90, ql_96, ql_168, ql_217, ql_434, ql_442, ql_446, ql_450, ql_454, ql_455, ql_456, ql_457, ql_458, ql_466, ql_474, ql_478, nI_add, q_cl, q_in, true_and]
          show (rmd M 434 6 j ≤ rmd M 434 6 i → _) ∧ (¬ rmd M 434 6 j ≤ rmd M 434 6 i → _)
          refine ⟨fun c => ?_, fun c => ?_⟩
          · rw [if_neg (fun z => z.elim (nI_neg4 (by omega)) (fun z => absurd c (Int32.not_le.mpr z)))] at nx
            refine bX6_firstTried_50 _ _ _ _ ?_
            rintro z1 rfl
            rw [qa_1]
            exact nx
          · rw [if_pos (Or.inr (Int32.not_le.mp c))] at nx
            refine bX6_firstTried_45 _ _ _ (bX6_firstTried_50 _ _ _ _ ?_)
            rintro z1 rfl
            rw [qa_1]
            exact nx
  exact key n 0 (by omega)
theorem pair_ahead (h : Inv n Mx Mm) (a1 a2 : Int32) : kPair l g1 g2 mX5_ahead mX6_ahead [.inl a1, .inl a2] Mx Mm (Inv (n + 1)) := by
  have e1 := h.riders
  refine kct (by decide) (Nat.le_of_ble_eq_true rfl) (bX5_ahead_0 a1 a2 Mx _ (x_isRider _ ⟨fun c => bX5_ahead_15 _ _ ?_, fun c => x_isZeroOrOne _ ⟨fun c2 => ?_, fun c2 => bX5_ahead_15 _ _ ?_⟩⟩))
  · rw [e1] at c
    exact kct (by decide) (Nat.le_of_ble_eq_true rfl) (bX6_ahead_0 _ a2 Mm _ (m_isRider _ ⟨fun _ => bX6_ahead_18 _ _ ⟨rfl, h.mono⟩, fun z => absurd c z⟩))
  · have c' := c
    obtain ⟨S, r, i, ok, hi, hr, rfl⟩ := h.isR c
    obtain ⟨S', r', q, -⟩ := h.1
    rw [e1] at c'
    refine x_begin S r ok (fun M1 a1 a2' a3 => x_rideToForge i 0 S r hi (a2'.symm.ok ok) (fun M2 k b1 b2 b3 => ?_))
    rw [flse_0] at b2
    have fin : ∀ v, (∀ R C k', req (rx Mx 0) R → rwho (frun (fun _ _ => 0) r k' (R, C)).1 r = -4 → (¬ a2 = 0 → v = (frun (fun _ _ => 0) r k' (R, C)).1 7 i) ∧ (a2 = 0 → v = (frun (fun _ _ => 0) r k' (R, C)).1 6 i)) → kCT l (rg_m, g2) mX6_ahead [.inr (.inr (0, 0)), .inl (nI i), .inl a2] Mm (kqi (fun r2 Mm1 => v = r2 ∧ Inv (n + 1) M2 Mm1)) := by
      intro v hv
      refine kct (by decide) (Nat.le_of_ble_eq_true rfl) (bX6_ahead_0 _ a2 Mm _ (m_isRider _ ⟨fun z => absurd z c', fun _ => m_in _ 0 1 (by decide) (by decide) ⟨fun _ => m_foretells S r (q.ok ok) (fun M3 R C k' d1 d2 d3 d4 d5 d6 d7 => ?_), fun z => absurd z c2⟩⟩))
      have okM3 : rok (rmd M3 434) S r := d6.symm.ok (frun_ok k' (R, C) (d2.symm.ok (q.ok ok)))
      have hv' := hv R C k' (q.trans d2.symm) d5
      have hI := h.next (a1.trans b1).same d1.same
      refine ⟨fun z => bX6_ahead_42 _ _ _ _ _ ?_, fun z => bX6_ahead_42 _ _ _ _ _ ?_⟩
      · rw [show (434 : Int32) + 16 = 450 from rfl]
        simp (disch := omega) only [qa_0, qa_1, qa_2, qa_3, qa_4, qa_5, qa_6, qa_7, qa_8, qa_9, qa_10, qa_12, qa_16, qa_20, qa_21, qa_22, qa_23, qa_24, qa_26, qa_27, qa_30, qa_31, qa_32, qa_35, qa_36, qa_40, qa_44, qa_48, qa_49, qa_70, qa_81, qa_90, qa_96, qa_168, qa_217, qa_434, qa_442, qa_446, qa_450, qa_454, qa_455, qa_456, qa_457, qa_458, qa_466, qa_474, qa_478, qb_0, qb_1, qb_2, qb_3, qb_4, qb_5, qb_6, qb_7, qb_8, qb_9, qb_10, qb_12, qb_16, qb_20, qb_21, qb_22, qb_23, qb_24, qb_26, qb_27, qb_30, qb_31, qb_32, qb_35, qb_36, qb_40, qb_44, qb_48, qb_49, qb_70, qb_81, qb_90, qb_96, qb_168, qb_217, qb_434, qb_442, qb_446, qb_450, qb_454, qb_455, qb_456, qb_457, qb_458, qb_466, qb_474, qb_478, qm_0, qm_1, qm_2, qm_3, qm_4, qm_5, qm_6, qm_7, qm_8, qm_9, qm_10, qm_12, qm_16, qm_20, qm_21, qm_22, qm_23, qm_24, qm_26, qm_27, qm_30, qm_31, qm_32, qm_35, qm_36, qm_40, qm_44, qm_48, qm_49, qm_70, qm_81, qm_90, qm_96, qm_168, qm_217, qm_434, qm_442, qm_446, qm_450, qm_454, qm_455, qm_456, qm_457, qm_458, qm_466, qm_474, qm_478, ql_0, ql_1, ql_2, ql_3, ql_4, ql_5, ql_6, ql_7, ql_8, ql_9, ql_10, ql_12, ql_16, ql_20, ql_21, ql_22, ql_23, ql_24, ql_26, ql_27, ql_30, ql_31, ql_32, ql_35, ql_36, ql_40, ql_44, ql_48, ql_49, ql_70, ql_81, ql_90, ql_96, ql_168, ql_217, ql_434, ql_442, ql_446, ql_450, ql_454, ql_455, ql_456, ql_457, ql_458, ql_466, ql_474, ql_478, nI_add, q_cl, q_in, true_and]
        refine ⟨(hv'.1 z).trans ?_, hI⟩
        rw [← d6 7 i (by decide) (by first | (show _ < 4; omega) | (show _ < 8; omega) | exact fln_s (by assumption) (by omega) (by omega) (by omega) | exact fln_r (by assumption) (by omega) (by omega))]
        rfl
      · rw [show (434 : Int32) + 12 = 446 from rfl]
        simp (disch := omega) only [qa_0, qa_1, qa_2, qa_3, qa_4, qa_5, qa_6, qa_7, qa_8, qa_9, qa_10, qa_12, qa_16, qa_20, qa_21, qa_22, qa_23, qa_24, qa_26, qa_27, qa_30, qa_31, qa_32, qa_35, qa_36, qa_40, qa_44, qa_48, qa_49, qa_70, qa_81, qa_90, qa_96, qa_168, qa_217, qa_434, qa_442, qa_446, qa_450, qa_454, qa_455, qa_456, qa_457, qa_458, qa_466, qa_474, qa_478, qb_0, qb_1, qb_2, qb_3, qb_4, qb_5, qb_6, qb_7, qb_8, qb_9, qb_10, qb_12, qb_16, qb_20, qb_21, qb_22, qb_23, qb_24, qb_26, qb_27, qb_30, qb_31, qb_32, qb_35, qb_36, qb_40, qb_44, qb_48, qb_49, qb_70, qb_81, qb_90, qb_96, qb_168, qb_217, qb_434, qb_442, qb_446, qb_450, qb_454, qb_455, qb_456, qb_457, qb_458, qb_466, qb_474, qb_478, qm_0, qm_1, qm_2, qm_3, qm_4, qm_5, qm_6, qm_7, qm_8, qm_9, qm_10, qm_12, qm_16, qm_20, qm_21, qm_22, qm_23, qm_24, qm_26, qm_27, qm_30, qm_31, qm_32, qm_35, qm_36, qm_40, qm_44, qm_48, qm_49, qm_70, qm_81, qm_90, qm_96, qm_168, qm_217, qm_434, qm_442, qm_446, qm_450, qm_454, qm_455, qm_456, qm_457, qm_458, qm_466, qm_474, qm_478, ql_0, ql_1, ql_2, ql_3, ql_4, ql_5, ql_6, ql_7, ql_8, ql_9, ql_10, ql_12, ql_16, ql_20, ql_21, ql_22, ql_23, ql_24, ql_26, ql_27, ql_30, ql_31, ql_32, ql_35, ql_36, ql_40, ql_44, ql_48, ql_49, ql_70, ql_81, ql_90, ql_96, ql_168, ql_217, ql_434, ql_442, ql_446, ql_450, ql_454, ql_455, ql_456, ql_457, ql_458, ql_466, ql_474, ql_478, nI_add, q_cl, q_in, true_and]
        refine ⟨(hv'.2 z).trans ?_, hI⟩
        rw [← d6 6 i (by decide) (by first | (show _ < 4; omega) | (show _ < 8; omega) | exact fln_s (by assumption) (by omega) (by omega) (by omega) | exact fln_r (by assumption) (by omega) (by omega))]
        rfl
    have cmp : ∀ R C k', req (rx Mx 0) R → rwho (frun (fun _ _ => 0) r k' (R, C)).1 r = -4 → rx M2 2 6 i = (frun (fun _ _ => 0) r k' (R, C)).1 6 i ∧ rx M2 2 7 i = (frun (fun _ _ => 0) r k' (R, C)).1 7 i := by
      intro R C k' hR hw
      have okx : rok (rx M1 2) S r := a2'.symm.ok ok
      have := frun_cmp (k := k) (i := i) (X := (rx M1 2, M1.1 16 0)) (Y := (R, C)) okx (fsimR okx (a2'.trans hR)) hi (by rw [← b2]; exact b3) hw
      rw [← b2] at this
      exact ⟨this.1.symm, this.2.1.symm⟩
    simp (disch := omega) only [qa_0, qa_1, qa_2, qa_3, qa_4, qa_5, qa_6, qa_7, qa_8, qa_9, qa_10, qa_12, qa_16, qa_20, qa_21, qa_22, qa_23, qa_24, qa_26, qa_27, qa_30, qa_31, qa_32, qa_35, qa_36, qa_40, qa_44, qa_48, qa_49, qa_70, qa_81, qa_90, qa_96, qa_168, qa_217, qa_434, qa_442, qa_446, qa_450, qa_454, qa_455, qa_456, qa_457, qa_458, qa_466, qa_474, qa_478, qb_0, qb_1, qb_2, qb_3, qb_4, qb_5, qb_6, qb_7, qb_8, qb_9, qb_10, qb_12, qb_16, qb_20, qb_21, qb_22, qb_23, qb_24, qb_26, qb_27, qb_30, qb_31, qb_32, qb_35, qb_36, qb_40, qb_44, qb_48, qb_49, qb_70, qb_81, qb_90, qb_96, qb_168, qb_217, qb_434, qb_442, qb_446, qb_450, qb_454, qb_455, qb_456, qb_457, qb_458, qb_466, qb_474, qb_478, qm_0, qm_1, qm_2, qm_3, qm_4, qm_5, qm_6, qm_7, qm_8, qm_9, qm_10, qm_12, qm_16, qm_20, qm_21, qm_22, qm_23, qm_24, qm_26, qm_27, qm_30, qm_31, qm_32, qm_35, qm_36, qm_40, qm_44, qm_48, qm_49, qm_70, qm_81, qm_90, qm_96, qm_168, qm_217, qm_434, qm_442, qm_446, qm_450, qm_454, qm_455, qm_456, qm_457, qm_458, qm_466, qm_474, qm_478, ql_0, ql_1, ql_2, ql_3, ql_4, ql_5, ql_6, ql_7, ql_8, ql_9, ql_10, ql_12, ql_16, ql_20, ql_21, ql_22, ql_23, ql_24, ql_26, ql_27, ql_30, ql_31, ql_32, ql_35, ql_36, ql_40, ql_44, ql_48, ql_49, ql_70, ql_81, ql_90, ql_96, ql_168, ql_217, ql_434, ql_442, ql_446, ql_450, ql_454, ql_455, ql_456, ql_457, ql_458, ql_466, ql_474, ql_478, nI_add, q_cl, q_in, true_and]
    refine ⟨fun z => bX5_ahead_58 _ _ _ (fin _ (fun R C k' hR hw => ⟨fun _ => (cmp R C k' hR hw).2, fun z2 => absurd z2 z⟩)), fun z => bX5_ahead_58 _ _ _ (fin _ (fun R C k' hR hw => ⟨fun z2 => absurd z z2, fun _ => (cmp R C k' hR hw).1⟩))⟩
  · rw [e1] at c
    exact kct (by decide) (Nat.le_of_ble_eq_true rfl) (bX6_ahead_0 _ a2 Mm _ (m_isRider _ ⟨fun z => absurd z c, fun _ => m_in _ 0 1 (by decide) (by decide) ⟨fun z => absurd c2 z, fun _ => bX6_ahead_18 _ _ ⟨rfl, h.mono⟩⟩⟩))
theorem pair_first (h : Inv n Mx Mm) : kPair l g1 g2 mX5_first mX6_first [] Mx Mm (Inv (n + 1)) := by
  have e1 := h.riders
  obtain ⟨S, r, q, ok, -⟩ := h.1
  have h4 := ok.2.2.2.1
  refine kct (by decide) (Nat.le_of_ble_eq_true rfl) (bX5_first_0 Mx _ (x_begin S r ok (fun M1 a1 a2 a3 => x_whoIsFirst S r (a2.symm.ok ok) (fun M2 k b1 b2 b3 => ?_))))
  refine kct (by decide) (Nat.le_of_ble_eq_true rfl) (bX6_first_0 Mm _ (m_foretells S r (q.ok ok) (fun M3 R C k' d1 d2 d3 d4 d5 d6 d7 => m_firstTried r h4 ?_ ⟨?_, h.next (a1.trans b1).same d1.same⟩)))
  · rw [d1.1 1 0 22 (by omega), ← e1]
    exact ok.2.2.1
  · have okx : rok (rx M1 2) S r := a2.symm.ok ok
    have okM3 : rok (rmd M3 434) S r := d6.symm.ok (frun_ok k' (R, C) (d2.symm.ok (q.ok ok)))
    refine rfst_cg r h4 (fun i hi => ?_)
    have := frun_cmp (k := k) (i := i) (X := (rx M1 2, M1.1 16 0)) (Y := (R, C)) okx (fsimR okx ((a2.trans q).trans d2.symm)) hi (by rw [← b2]; exact b3 i hi) d5
    rw [← b2] at this
    rw [d6 6 i (by decide) (by first | (show _ < 4; omega) | (show _ < 8; omega) | exact fln_s (by assumption) (by omega) (by omega) (by omega) | exact fln_r (by assumption) (by omega) (by omega))]
    exact this.1.symm
theorem pair_comes (h : Inv n Mx Mm) (a1 a2 : Int32) : kPair l g1 g2 mX5_comes mX6_comes [.inl a1, .inl a2] Mx Mm (Inv (n + 1)) := by
  have e1 := h.riders
  have e0 := h.stages
  refine kct (by decide) (Nat.le_of_ble_eq_true rfl) (bX5_comes_0 a1 a2 Mx _ (x_isRider _ ⟨fun c => bX5_comes_23 _ _ ?_, fun c => x_within _ _ _ ⟨fun c2 => ?_, fun c2 => bX5_comes_23 _ _ ?_⟩⟩))
  · rw [e1] at c
    exact kct (by decide) (Nat.le_of_ble_eq_true rfl) (bX6_comes_0 _ a2 Mm _ (m_isRider _ ⟨fun _ => bX6_comes_25 _ _ ⟨rfl, h.mono⟩, fun z => absurd c z⟩))
  · have c' := c
    have c2' := c2
    obtain ⟨S, r, i, ok, hi, hr, rfl⟩ := h.isR c
    obtain ⟨S', r', q, -⟩ := h.1
    have h8 := ok.2.1
    rw [e1] at c'
    rw [e0] at c2'
    rw [show Mx.1 1 0 0 = nI S from ok.1] at c2
    obtain ⟨s, -, hs, rfl⟩ := wth_rg (lo := 0) (hi := S) (by decide) (by omega) c2
    obtain ⟨b, hb, e5⟩ := ok.2.2.2.2 i hi
    have e5' : Mx.1 11 0 i = nI b := e5
    simp (disch := omega) only [qa_0, qa_1, qa_2, qa_3, qa_4, qa_5, qa_6, qa_7, qa_8, qa_9, qa_10, qa_12, qa_16, qa_20, qa_21, qa_22, qa_23, qa_24, qa_26, qa_27, qa_30, qa_31, qa_32, qa_35, qa_36, qa_40, qa_44, qa_48, qa_49, qa_70, qa_81, qa_90, qa_96, qa_168, qa_217, qa_434, qa_442, qa_446, qa_450, qa_454, qa_455, qa_456, qa_457, qa_458, qa_466, qa_474, qa_478, qb_0, qb_1, qb_2, qb_3, qb_4, qb_5, qb_6, qb_7, qb_8, qb_9, qb_10, qb_12, qb_16, qb_20, qb_21, qb_22, qb_23, qb_24, qb_26, qb_27, qb_30, qb_31, qb_32, qb_35, qb_36, qb_40, qb_44, qb_48, qb_49, qb_70, qb_81, qb_90, qb_96, qb_168, qb_217, qb_434, qb_442, qb_446, qb_450, qb_454, qb_455, qb_456, qb_457, qb_458, qb_466, qb_474, qb_478, qm_0, qm_1, qm_2, qm_3, qm_4, qm_5, qm_6, qm_7, qm_8, qm_9, qm_10, qm_12, qm_16, qm_20, qm_21, qm_22, qm_23, qm_24, qm_26, qm_27, qm_30, qm_31, qm_32, qm_35, qm_36, qm_40, qm_44, qm_48, qm_49, qm_70, qm_81, qm_90, qm_96, qm_168, qm_217, qm_434, qm_442, qm_446, qm_450, qm_454, qm_455, qm_456, qm_457, qm_458, qm_466, qm_474, qm_478, ql_0, ql_1, ql_2, ql_3, ql_4, ql_5, ql_6, ql_7, ql_8, ql_9, ql_10, ql_12, ql_16, ql_20, ql_21, ql_22, ql_23, ql_24, ql_26, ql_27, ql_30, ql_31, ql_32, ql_35, ql_36, ql_40, ql_44, ql_48, ql_49, ql_70, ql_81, ql_90, ql_96, ql_168, ql_217, ql_434, ql_442, ql_446, ql_450, ql_454, ql_455, ql_456, ql_457, ql_458, ql_466, ql_474, ql_478, nI_add, q_cl, q_in, true_and]
    rw [e5']
    have fin : ∀ v M2, xsame Mx M2 → (∀ R C k', req (rx Mx 0) R → (∀ r' s, r' < r → s ≤ 8 → C (9 * r' + s) = if s = (R 5 r').toNatClampNeg then R 6 r' else -4) → rwho (frun (fun _ _ => 0) r k' (R, C)).1 r = -4 → v = (frun (fun _ _ => 0) r k' (R, C)).2 (9 * i + s)) → kCT l (rg_m, g2) mX6_comes [.inr (.inr (0, 0)), .inl (nI i), .inl (nI s)] Mm (kqi (fun r2 Mm1 => v = r2 ∧ Inv (n + 1) M2 Mm1)) := by
      intro v M2 hx hv
      refine kct (by decide) (Nat.le_of_ble_eq_true rfl) (bX6_comes_0 _ _ Mm _ (m_isRider _ ⟨fun z => absurd z c', fun _ => m_in _ 0 (Mm.1 1 0 21) (by decide) rfl ⟨fun _ => m_foretells S r (q.ok ok) (fun M3 R C k' d1 d2 d3 d4 d5 d6 d7 => ?_), fun z => absurd z c2'⟩⟩))
      simp (disch := omega) only [qa_0, qa_1, qa_2, qa_3, qa_4, qa_5, qa_6, qa_7, qa_8, qa_9, qa_10, qa_12, qa_16, qa_20, qa_21, qa_22, qa_23, qa_24, qa_26, qa_27, qa_30, qa_31, qa_32, qa_35, qa_36, qa_40, qa_44, qa_48, qa_49, qa_70, qa_81, qa_90, qa_96, qa_168, qa_217, qa_434, qa_442, qa_446, qa_450, qa_454, qa_455, qa_456, qa_457, qa_458, qa_466, qa_474, qa_478, qb_0, qb_1, qb_2, qb_3, qb_4, qb_5, qb_6, qb_7, qb_8, qb_9, qb_10, qb_12, qb_16, qb_20, qb_21, qb_22, qb_23, qb_24, qb_26, qb_27, qb_30, qb_31, qb_32, qb_35, qb_36, qb_40, qb_44, qb_48, qb_49, qb_70, qb_81, qb_90, qb_96, qb_168, qb_217, qb_434, qb_442, qb_446, qb_450, qb_454, qb_455, qb_456, qb_457, qb_458, qb_466, qb_474, qb_478, qm_0, qm_1, qm_2, qm_3, qm_4, qm_5, qm_6, qm_7, qm_8, qm_9, qm_10, qm_12, qm_16, qm_20, qm_21, qm_22, qm_23, qm_24, qm_26, qm_27, qm_30, qm_31, qm_32, qm_35, qm_36, qm_40, qm_44, qm_48, qm_49, qm_70, qm_81, qm_90, qm_96, qm_168, qm_217, qm_434, qm_442, qm_446, qm_450, qm_454, qm_455, qm_456, qm_457, qm_458, qm_466, qm_474, qm_478, ql_0, ql_1, ql_2, ql_3, ql_4, ql_5, ql_6, ql_7, ql_8, ql_9, ql_10, ql_12, ql_16, ql_20, ql_21, ql_22, ql_23, ql_24, ql_26, ql_27, ql_30, ql_31, ql_32, ql_35, ql_36, ql_40, ql_44, ql_48, ql_49, ql_70, ql_81, ql_90, ql_96, ql_168, ql_217, ql_434, ql_442, ql_446, ql_450, ql_454, ql_455, ql_456, ql_457, ql_458, ql_466, ql_474, ql_478, nI_add, q_cl, q_in, true_and]
      refine ⟨(hv R C k' (q.trans d2.symm) d4 d5).trans (d7 _ (by omega)).symm, h.next hx d1.same⟩
    refine ⟨fun c3 => ?_, fun c3 => fin _ _ (xsame.refl _) (fun R C k' hR hC hw => ?_)⟩
    · rw [q_le (by omega) (by omega)] at c3
      refine x_begin S r ok (fun M1 a1 a2' a3 => x_rideToForge i 0 S r hi (a2'.symm.ok ok) (fun M2 k b1 b2 b3 => x_cameTo i s (by omega) (by omega) (fin _ _ (a1.trans b1).same (fun R C k' hR hC hw => ?_))))
      rw [flse_0] at b2
      have okx : rok (rx M1 2) S r := a2'.symm.ok ok
      have := frun_cmp (k := k) (i := i) (X := (rx M1 2, M1.1 16 0)) (Y := (R, C)) okx (fsim0 ok a2' a3 hR hC) hi (by rw [← b2]; exact b3) hw
      rw [← b2] at this
      exact (this.2.2 s (by show (rx Mx 0 5 i).toNatClampNeg ≤ s; rw [e5, q_cl (by omega)]; omega) hs).symm
    · rw [q_le (by omega) (by omega)] at c3
      have g5 : R 5 i = nI b := by
        rw [← hR 5 i (by decide) (by first | (show _ < 4; omega) | (show _ < 8; omega) | exact fln_s (by assumption) (by omega) (by omega) (by omega) | exact fln_r (by assumption) (by omega) (by omega))]
        exact e5
      rw [frun_low (i := i) (t := s) (by omega) k' (R, C) (hR.ok ok) hi (by show s < (R 5 i).toNatClampNeg; rw [g5, q_cl (by omega)]; omega)]
      show _ = C (9 * i + s)
      rw [hC i s hi (by omega), if_neg (by rw [g5, q_cl (by omega)]; omega)]
  · rw [e1] at c
    rw [e0] at c2
    exact kct (by decide) (Nat.le_of_ble_eq_true rfl) (bX6_comes_0 _ a2 Mm _ (m_isRider _ ⟨fun z => absurd z c, fun _ => m_in _ 0 (Mm.1 1 0 21) (by decide) rfl ⟨fun z => absurd c2 z, fun _ => bX6_comes_25 _ _ ⟨rfl, h.mono⟩⟩⟩))
theorem pair_caught (h : Inv n Mx Mm) (a1 a2 : Int32) : kPair l g1 g2 mX5_caught mX6_caught [.inl a1, .inl a2] Mx Mm (Inv (n + 1)) := by
  have e1 := h.riders
  have e0 := h.stages
  refine kct (by decide) (Nat.le_of_ble_eq_true rfl) (bX5_caught_0 a1 a2 Mx _ (x_areTwo _ _ ⟨fun c => ?_, fun c => ?_⟩))
  · have c' := c
    obtain ⟨S, r, i, j, ok, hi, hj, hij, hr, rfl, rfl⟩ := h.areT c
    obtain ⟨S', r', q, -⟩ := h.1
    have h8 := ok.2.1
    rw [e1] at c'
    obtain ⟨bi, hbi, ei⟩ := ok.2.2.2.2 i hi
    obtain ⟨bj, hbj, ej⟩ := ok.2.2.2.2 j hj
    refine x_begin S r ok (fun M1 a1 a2' a3 => x_rideToForge i 0 S r hi (a2'.symm.ok ok) (fun M2 k b1 b2 b3 => ?_))
    have okx : rok (rx M1 2) S r := a2'.symm.ok ok
    rw [flse_0] at b2
    have ok2 : rok (rx M2 2) S r := by
      have := frun_ok (p := fun _ _ => 0) k (rx M1 2, M1.1 16 0) okx
      rw [← b2] at this
      exact this
    refine x_rideToForge j 0 S r hj ok2 (fun M3 k2 f1 f2 f3 => ?_)
    rw [flse_0, b2, ← frun_add] at f2
    have thi : ¬ rx M3 2 5 i < rx M3 2 0 0 := by
      have := frun_there (p := fun _ _ => 0) k2 (rx M2 2, M2.1 16 0) ok2 b3
      rw [b2, ← frun_add, ← f2] at this
      have w1 : rx M3 2 5 i = (frun (fun _ _ => 0) r k (rx M1 2, M1.1 16 0)).1 5 i := this.2.1
      have w2 : rx M3 2 0 0 = (frun (fun _ _ => 0) r k (rx M1 2, M1.1 16 0)).1 0 0 := this.1
      rw [w1, w2, ← b2]
      exact b3
    have fx := (a1.trans b1).trans f1
    simp (disch := omega) only [qa_0, qa_1, qa_2, qa_3, qa_4, qa_5, qa_6, qa_7, qa_8, qa_9, qa_10, qa_12, qa_16, qa_20, qa_21, qa_22, qa_23, qa_24, qa_26, qa_27, qa_30, qa_31, qa_32, qa_35, qa_36, qa_40, qa_44, qa_48, qa_49, qa_70, qa_81, qa_90, qa_96, qa_168, qa_217, qa_434, qa_442, qa_446, qa_450, qa_454, qa_455, qa_456, qa_457, qa_458, qa_466, qa_474, qa_478, qb_0, qb_1, qb_2, qb_3, qb_4, qb_5, qb_6, qb_7, qb_8, qb_9, qb_10, qb_12, qb_16, qb_20, qb_21, qb_22, qb_23, qb_24, qb_26, qb_27, qb_30, qb_31, qb_32, qb_35, qb_36, qb_40, qb_44, qb_48, qb_49, qb_70, qb_81, qb_90, qb_96, qb_168, qb_217, qb_434, qb_442, qb_446, qb_450, qb_454, qb_455, qb_456, qb_457, qb_458, qb_466, qb_474, qb_478, qm_0, qm_1, qm_2, qm_3, qm_4, qm_5, qm_6, qm_7, qm_8, qm_9, qm_10, qm_12, qm_16, qm_20, qm_21, qm_22, qm_23, qm_24, qm_26, qm_27, qm_30, qm_31, qm_32, qm_35, qm_36, qm_40, qm_44, qm_48, qm_49, qm_70, qm_81, qm_90, qm_96, qm_168, qm_217, qm_434, qm_442, qm_446, qm_450, qm_454, qm_455, qm_456, qm_457, qm_458, qm_466, qm_474, qm_478, ql_0, ql_1, ql_2, ql_3, ql_4, ql_5, ql_6, ql_7, ql_8, ql_9, ql_10, ql_12, ql_16, ql_20, ql_21, ql_22, ql_23, ql_24, ql_26, ql_27, ql_30, ql_31, ql_32, ql_35, ql_36, ql_40, ql_44, ql_48, ql_49, ql_70, ql_81, ql_90, ql_96, ql_168, ql_217, ql_434, ql_442, ql_446, ql_450, ql_454, ql_455, ql_456, ql_457, ql_458, ql_466, ql_474, ql_478, nI_add, q_cl, q_in, true_and]
    rw [show M3.1 11 0 i = nI bi from (fx.1 11 0 i (by omega)).trans ei, show M3.1 11 0 j = nI bj from (fx.1 11 0 j (by omega)).trans ej]
    rintro z8 rfl
    rw [mxi_nI (by omega) (by omega), show mxi 1 (nI (max bi bj)) = nI (max 1 (max bi bj)) from mxi_nI (a := 1) (by omega) (by omega)]
    generalize hF : max 1 (max bi bj) = F
    -- the class's look
    have kx : ∀ f s, s + f = S + 1 → 1 ≤ s → ∀ Q : Int32 → kM → Prop, Q (fct (fun s => M3.1 16 0 (9 * i + s)) (fun s => M3.1 16 0 (9 * j + s)) f s) M3 → kWP l (rg_x, g1) mX5_caught 71 [(0, .inr (.inr (0, 0))), (1, .inl (nI i)), (2, .inl (nI j)), (4, .inl (nI s))] [] M3 (kqi Q) := by
      intro f
      induction f with
      | zero =>
        intro s hs h1 Q hQ
        refine bX5_caught_71 _ _ _ _ _ ?_
        rw [show M3.1 1 0 0 = nI S from (fx.1 1 0 0 (by omega)).trans ok.1]
        refine ⟨fun _ => hQ, fun z => absurd ((q_lt (by omega) (by omega)).mpr (by omega)) z⟩
      | succ f ih =>
        intro s hs h1 Q hQ
        refine bX5_caught_71 _ _ _ _ _ ?_
        rw [show M3.1 1 0 0 = nI S from (fx.1 1 0 0 (by omega)).trans ok.1]
        refine ⟨fun z => ?_, fun _ => x_cameTo j s (by omega) (by omega) (x_cameTo i s (by omega) (by omega) ⟨fun z => ?_, fun z => ?_⟩)⟩
        · rw [q_lt (by omega) (by omega)] at z
          omega
        · rintro z5 rfl
          rw [qa_1]
          unfold fct at hQ
          rw [if_pos z] at hQ
          exact ih (s + 1) (by omega) (by omega) Q hQ
        · unfold fct at hQ
          rw [if_neg z] at hQ
          exact hQ
    have hF1 : F ≤ S + 1 := by omega
    refine kx (S + 1 - F) F (by omega) (by omega) _ ?_
    refine kct (by decide) (Nat.le_of_ble_eq_true rfl) (bX6_caught_0 _ _ Mm _ (m_areTwo _ _ ⟨fun _ => m_foretells S r (q.ok ok) (fun M4 R C k' d1 d2 d3 d4 d5 d6 d7 => ?_), fun z => absurd z c'⟩))
    have ei' : M4.1 1 0 (8 + i) = nI bi := by
      rw [d1.1 1 0 (8 + i) (by omega)]
      exact (rmd_ap (f := 5) (j := i) q (by decide) (by first | (show _ < 4; omega) | (show _ < 8; omega) | exact fln_s (by assumption) (by omega) (by omega) (by omega) | exact fln_r (by assumption) (by omega) (by omega))).symm.trans ei
    have ej' : M4.1 1 0 (8 + j) = nI bj := by
      rw [d1.1 1 0 (8 + j) (by omega)]
      exact (rmd_ap (f := 5) (j := j) q (by decide) (by first | (show _ < 4; omega) | (show _ < 8; omega) | exact fln_s (by assumption) (by omega) (by omega) (by omega) | exact fln_r (by assumption) (by omega) (by omega))).symm.trans ej
    have eS : M4.1 1 0 21 = nI S := by
      rw [d1.1 1 0 21 (by omega), ← e0]
      exact ok.1
    have km : ∀ f s, s + f = S + 1 → 1 ≤ s → ∀ Q : Int32 → kM → Prop, Q (fct (fun s => M4.1 6 0 (9 * i + s)) (fun s => M4.1 6 0 (9 * j + s)) f s) M4 → kWP l (rg_m, g2) mX6_caught 70 [(0, .inr (.inr (0, 0))), (1, .inl (nI i)), (2, .inl (nI j)), (4, .inl (nI s))] [] M4 (kqi Q) := by
      intro f
      induction f with
      | zero =>
        intro s hs h1 Q hQ
        refine bX6_caught_70 _ _ _ _ _ ?_
        rw [ql_21, eS]
        refine ⟨fun _ => hQ, fun z => absurd ((q_lt (by omega) (by omega)).mpr (by omega)) z⟩
      | succ f ih =>
        intro s hs h1 Q hQ
        refine bX6_caught_70 _ _ _ _ _ ?_
        rw [ql_21, eS]
        refine ⟨fun z => ?_, fun _ => ?_⟩
        · rw [q_lt (by omega) (by omega)] at z
          omega
        · simp (disch := omega) only [qa_0, qa_1, qa_2, qa_3, qa_4, qa_5, qa_6, qa_7, qa_8, qa_9, qa_10, qa_12, qa_16, qa_20, qa_21, qa_22, qa_23, qa_24, qa_26, qa_27, qa_30, qa_31, qa_32, qa_35, qa_36, qa_40, qa_44, qa_48, qa_49, qa_70, qa_81, qa_90, qa_96, qa_168, qa_217, qa_434, qa_442, qa_446, qa_450, qa_454, qa_455, qa_456, qa_457, qa_458, qa_466, qa_474, qa_478, qb_0, qb_1, qb_2, qb_3, qb_4, qb_5, qb_6, qb_7, qb_8, qb_9, qb_10, qb_12, qb_16, qb_20, qb_21, qb_22, qb_23, qb_24, qb_26, qb_27, qb_30, qb_31, qb_32, qb_35, qb_36, qb_40, qb_44, qb_48, qb_49, qb_70, qb_81, qb_90, qb_96, qb_168, qb_217, qb_434, qb_442, qb_446, qb_450, qb_454, qb_455, qb_456, qb_457, qb_458, qb_466, qb_474, qb_478, qm_0, qm_1, qm_2, qm_3, qm_4, qm_5, qm_6, qm_7, qm_8, qm_9, qm_10, qm_12, qm_16, qm_20, qm_21, qm_22, qm_23, qm_24, qm_26, qm_27, qm_30, qm_31, qm_32, qm_35, qm_36, qm_40, qm_44, qm_48, qm_49, qm_70, qm_81, qm_90, qm_96, qm_168, qm_217, qm_434, qm_442, qm_446, qm_450, qm_454, qm_455, qm_456, qm_457, qm_458, qm_466, qm_474, qm_478, ql_0, ql_1, ql_2, ql_3, ql_4, ql_5, ql_6, ql_7, ql_8, ql_9, ql_10, ql_12, ql_16, ql_20, ql_21, ql_22, ql_23, ql_24, ql_26, ql_27, ql_30, ql_31, ql_32, ql_35, ql_36, ql_40, ql_44, ql_48, ql_49, ql_70, ql_81, ql_90, ql_96, ql_168, ql_217, ql_434, ql_442, ql_446, ql_450, ql_454, ql_455, ql_456, ql_457, ql_458, ql_466, ql_474, ql_478, nI_add, q_cl, q_in, true_and]
          unfold fct at hQ
          refine ⟨fun z => ?_, fun z => ?_⟩
          · rintro z5 rfl
            rw [if_pos z] at hQ
            exact ih (s + 1) (by omega) (by omega) Q hQ
          · rw [if_neg z] at hQ
            exact hQ
    have k57 : ∀ y, y = max bi bj → kWP l (rg_m, g2) mX6_caught 57 [(0, .inr (.inr (0, 0))), (1, .inl (nI i)), (2, .inl (nI j))] [.inl (nI y)] M4 (kqi (fun r2 Mm1 => fct (fun s => M3.1 16 0 (9 * i + s)) (fun s => M3.1 16 0 (9 * j + s)) (S + 1 - F) F = r2 ∧ Inv (n + 1) M3 Mm1)) := by
      intro y hy
      have h70 : kWP l (rg_m, g2) mX6_caught 70 [(0, .inr (.inr (0, 0))), (1, .inl (nI i)), (2, .inl (nI j)), (4, .inl (nI F))] [] M4 (kqi (fun r2 Mm1 => fct (fun s => M3.1 16 0 (9 * i + s)) (fun s => M3.1 16 0 (9 * j + s)) (S + 1 - F) F = r2 ∧ Inv (n + 1) M3 Mm1)) := by
        refine km (S + 1 - F) F (by omega) (by omega) _ ⟨fct_cg _ _ (fun s hs1 hs2 => ?_), h.next fx.same d1.same⟩
        have ci := frun_cmp (k := k + k2) (i := i) (X := (rx M1 2, M1.1 16 0)) (Y := (R, C)) okx (fsim0 ok a2' a3 (q.trans d2.symm) d4) hi (by rw [← f2]; exact thi) d5
        have cj := frun_cmp (k := k + k2) (i := j) (X := (rx M1 2, M1.1 16 0)) (Y := (R, C)) okx (fsim0 ok a2' a3 (q.trans d2.symm) d4) hj (by rw [← f2]; exact f3) d5
        rw [← f2] at ci cj
        refine ⟨?_, ?_⟩
        · rw [d7 _ (by omega)]
          exact (ci.2.2 s (by show (rx Mx 0 5 i).toNatClampNeg ≤ s; rw [ei, q_cl (by omega)]; omega) (by omega)).symm
        · rw [d7 _ (by omega)]
          exact (cj.2.2 s (by show (rx Mx 0 5 j).toNatClampNeg ≤ s; rw [ej, q_cl (by omega)]; omega) (by omega)).symm
      refine bX6_caught_57 _ _ _ _ _ ⟨fun z => bX6_caught_68 _ _ _ _ _ ?_, fun z => bX6_caught_68 _ _ _ _ _ ?_⟩
      · have z' : 1 ≤ y := (q_le (a := 1) (b := y) (by omega) (by omega)).mp z
        rw [show y = F by omega]
        exact h70
      · have z' : ¬ 1 ≤ y := fun z' => z ((q_le (a := 1) (b := y) (by omega) (by omega)).mpr z')
        rw [show F = 1 by omega] at h70 ⊢
        exact h70
    simp (disch := omega) only [qa_0, qa_1, qa_2, qa_3, qa_4, qa_5, qa_6, qa_7, qa_8, qa_9, qa_10, qa_12, qa_16, qa_20, qa_21, qa_22, qa_23, qa_24, qa_26, qa_27, qa_30, qa_31, qa_32, qa_35, qa_36, qa_40, qa_44, qa_48, qa_49, qa_70, qa_81, qa_90, qa_96, qa_168, qa_217, qa_434, qa_442, qa_446, qa_450, qa_454, qa_455, qa_456, qa_457, qa_458, qa_466, qa_474, qa_478, qb_0, qb_1, qb_2, qb_3, qb_4, qb_5, qb_6, qb_7, qb_8, qb_9, qb_10, qb_12, qb_16, qb_20, qb_21, qb_22, qb_23, qb_24, qb_26, qb_27, qb_30, qb_31, qb_32, qb_35, qb_36, qb_40, qb_44, qb_48, qb_49, qb_70, qb_81, qb_90, qb_96, qb_168, qb_217, qb_434, qb_442, qb_446, qb_450, qb_454, qb_455, qb_456, qb_457, qb_458, qb_466, qb_474, qb_478, qm_0, qm_1, qm_2, qm_3, qm_4, qm_5, qm_6, qm_7, qm_8, qm_9, qm_10, qm_12, qm_16, qm_20, qm_21, qm_22, qm_23, qm_24, qm_26, qm_27, qm_30, qm_31, qm_32, qm_35, qm_36, qm_40, qm_44, qm_48, qm_49, qm_70, qm_81, qm_90, qm_96, qm_168, qm_217, qm_434, qm_442, qm_446, qm_450, qm_454, qm_455, qm_456, qm_457, qm_458, qm_466, qm_474, qm_478, ql_0, ql_1, ql_2, ql_3, ql_4, ql_5, ql_6, ql_7, ql_8, ql_9, ql_10, ql_12, ql_16, ql_20, ql_21, ql_22, ql_23, ql_24, ql_26, ql_27, ql_30, ql_31, ql_32, ql_35, ql_36, ql_40, ql_44, ql_48, ql_49, ql_70, ql_81, ql_90, ql_96, ql_168, ql_217, ql_434, ql_442, ql_446, ql_450, ql_454, ql_455, ql_456, ql_457, ql_458, ql_466, ql_474, ql_478, nI_add, q_cl, q_in, true_and]
    rw [ei', ej']
    refine ⟨fun z => ?_, fun z => ?_⟩
    · rw [q_le (by omega) (by omega)] at z
      exact k57 bj (by omega)
    · rw [q_le (by omega) (by omega)] at z
      exact k57 bi (by omega)
  · rw [e1] at c
    exact kct (by decide) (Nat.le_of_ble_eq_true rfl) (bX6_caught_0 _ _ Mm _ (m_areTwo _ _ ⟨fun z => absurd c z, fun _ => ⟨rfl, h.mono⟩⟩))
end KAH
