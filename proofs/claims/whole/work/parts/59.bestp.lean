/-! ===== best, the pair ===== -/
theorem bsM_le {tm : Nat → Nat} (h : ∀ x, tm x ≤ 1000000000) : ∀ N, (bsM tm N).2 ≤ 1000000000 ∧ (bsM tm N).1 ≤ N
  | 0 => ⟨Nat.le_refl _, Nat.le_refl _⟩
  | N + 1 => by
    have ih := bsM_le h N
    have := h N
    show (bst tm (bsM tm N) N).2 ≤ _ ∧ (bst tm (bsM tm N) N).1 ≤ _
    unfold bst
    split
    · exact ⟨this, by omega⟩
    · exact ⟨ih.1, by omega⟩
section KBP
variable {l : Launch} {g g1 g2 : va_G × (Nat → ClassId) × (Nat → Nat → Nat)} {M Mx Mm : kM} {n : Nat} {Q : Int32 → kM → Prop} {Qv : kM → Prop}
theorem x_minuteBuying (i : Nat) (v : Int32) (S r : Nat) (hi : i < r) (ok : rok (rx M 0) S r) (h : ∀ M', xfr M M' → Q (ffin fno r (rup (rx M 0) 8 i v) 6 i) M') : kCT l (rg_x, g) mX5_minuteBuying [.inr (.inr (0, 0)), .inl (nI i), .inl v] M (kqi Q) := by
  have h4 := ok.2.2.2.1
  have okd : rok (rup (rx M 0) 8 i v) S r := ok.up (by omega) (by omega)
  refine kct (by decide) (Nat.le_of_ble_eq_true rfl) (bX5_minuteBuying_0 _ _ M Q (x_begin S r ok (fun M1 a1 a2 a3 => ?_)))
  simp (disch := omega) only [qa_0, qa_1, qa_2, qa_3, qa_4, qa_5, qa_6, qa_7, qa_8, qa_9, qa_10, qa_12, qa_16, qa_20, qa_21, qa_22, qa_23, qa_24, qa_26, qa_27, qa_30, qa_31, qa_32, qa_35, qa_36, qa_40, qa_44, qa_48, qa_49, qa_70, qa_81, qa_90, qa_96, qa_168, qa_217, qa_434, qa_442, qa_446, qa_450, qa_454, qa_455, qa_456, qa_457, qa_458, qa_466, qa_474, qa_478, qb_0, qb_1, qb_2, qb_3, qb_4, qb_5, qb_6, qb_7, qb_8, qb_9, qb_10, qb_12, qb_16, qb_20, qb_21, qb_22, qb_23, qb_24, qb_26, qb_27, qb_30, qb_31, qb_32, qb_35, qb_36, qb_40, qb_44, qb_48, qb_49, qb_70, qb_81, qb_90, qb_96, qb_168, qb_217, qb_434, qb_442, qb_446, qb_450, qb_454, qb_455, qb_456, qb_457, qb_458, qb_466, qb_474, qb_478, qm_0, qm_1, qm_2, qm_3, qm_4, qm_5, qm_6, qm_7, qm_8, qm_9, qm_10, qm_12, qm_16, qm_20, qm_21, qm_22, qm_23, qm_24, qm_26, qm_27, qm_30, qm_31, qm_32, qm_35, qm_36, qm_40, qm_44, qm_48, qm_49, qm_70, qm_81, qm_90, qm_96, qm_168, qm_217, qm_434, qm_442, qm_446, qm_450, qm_454, qm_455, qm_456, qm_457, qm_458, qm_466, qm_474, qm_478, ql_0, ql_1, ql_2, ql_3, ql_4, ql_5, ql_6, ql_7, ql_8, ql_9, ql_10, ql_12, ql_16, ql_20, ql_21, ql_22, ql_23, ql_24, ql_26, ql_27, ql_30, ql_31, ql_32, ql_35, ql_36, ql_40, ql_44, ql_48, ql_49, ql_70, ql_81, ql_90, ql_96, ql_168, ql_217, ql_434, ql_442, ql_446, ql_450, ql_454, ql_455, ql_456, ql_457, ql_458, ql_466, ql_474, ql_478, nI_add, q_cl, q_in, true_and]
  rintro M2 rfl
  have q3 : req (rup (rx M 0) 8 i v) (rx (ku M1 14 2 i v) 2) := by
    rw [rx_u8]
    exact (a2.up _ _ _).symm
  refine x_rtf i 0 S r hi (q3.ok okd) (fun M4 d1 d2 d3 => ?_)
  rw [flse_0, ← ffin_cg okd q3 hi]
  exact h M4 ((a1.trans (xfr.u (by omega))).trans d1)
theorem pair_best (hn : n < 512) (h : Inv n Mx Mm) (a1 a2 : Int32) : kPair l g1 g2 mX5_best mX6_best [.inl a1, .inl a2] Mx Mm (Inv (n + 1)) := by
  have e1 := h.riders
  refine kct (by decide) (Nat.le_of_ble_eq_true rfl) (bX5_best_0 a1 a2 Mx _ (x_isRider _ ⟨fun c => bX5_best_15 _ _ ?_, fun c => x_isZeroOrOne _ ⟨fun c2 => ?_, fun c2 => bX5_best_15 _ _ ?_⟩⟩))
  · rw [e1] at c
    exact kct (by decide) (Nat.le_of_ble_eq_true rfl) (bX6_best_0 _ a2 Mm _ (m_isRider _ ⟨fun _ => bX6_best_18 _ _ ⟨rfl, h.mono⟩, fun z => absurd c z⟩))
  · have c' := c
    obtain ⟨S, r, i, ok, hi, hr, rfl⟩ := h.isR c
    obtain ⟨S', r', q, ok', bd, -⟩ := h.1
    obtain ⟨rfl, rfl⟩ := rok_uniq ok ok'
    rw [e1] at c'
    have h8 := ok.2.1
    obtain ⟨b, hb, e5⟩ := ok.2.2.2.2 i hi
    have e5' : Mx.1 11 0 i = nI b := e5
    have okd : ∀ v, rok (rup (rx Mx 0) 8 i v) S' r' := fun v => ok.up (by omega) (by omega)
    generalize hfm : (fun v => ffin fno r' (rup (rx Mx 0) 8 i (nI v)) 6 i) = fm
    have hfm' : ∀ v, ffin fno r' (rup (rx Mx 0) 8 i (nI v)) 6 i = fm v := fun v => by rw [← hfm]
    generalize htm : (fun v => (fm v).toNatClampNeg) = tm
    have htm' : ∀ v, fm v = nI (tm v) ∧ tm v < 1000000000 := by
      intro v
      have ml : fml S' (rup (rx Mx 0) 8 i (nI v)) := fun j hj => by rw [rup_ne (by omega)]; exact bd.1 j hj
      have fb : fbd r' (B n) (rup (rx Mx 0) 8 i (nI v)) := fun j hj => by rw [rup_ne (by omega)]; exact bd.2 j hj
      obtain ⟨t, t1, t2⟩ := ffin_bd (one := 0) (off := 0) (okd (nI v)) ml fb hi
      rw [flse_0, hfm'] at t2
      have ht : t < 1000000000 := by
        unfold B at t1
        omega
      rw [← htm]
      show fm v = nI (fm v).toNatClampNeg ∧ (fm v).toNatClampNeg < 1000000000
      rw [t2, q_cl (by omega)]
      exact ⟨rfl, ht⟩
    obtain ⟨m, hm⟩ : ∃ m, S' = b + m := ⟨S' - b, by omega⟩
    have em : nI S' - nI b = nI m := by
      rw [pk_sub hb]
      congr 1
      omega
    have pw : ∀ m, m ≤ 8 → 1 ≤ 2 ^ m ∧ 2 ^ m ≤ 256 := by
      intro m hm
      have : ∀ m : Fin 9, 1 ≤ 2 ^ m.1 ∧ 2 ^ m.1 ≤ 256 := by decide
      exact this ⟨m, by omega⟩
    have pm := pw m (by omega)
    have pb := pw b (by omega)
    have pS := pw S' h8
    have hpow : 2 ^ m * 2 ^ b = 2 ^ S' := by
      rw [← Nat.pow_add, hm, Nat.add_comm]
    have hpq : ∀ q, q < 2 ^ m → q * 2 ^ b + 2 ^ b ≤ 2 ^ S' := by
      intro q hq
      have := Nat.mul_le_mul (show q + 1 ≤ 2 ^ m by omega) (Nat.le_refl (2 ^ b))
      rw [Nat.add_mul, hpow] at this
      omega
    have hbs : bsM tm (2 ^ S') = bsC tm b (2 ^ m - 1) := by
      have hl : ∀ x, x < 2 ^ S' → tm x = tm (x / 2 ^ b * 2 ^ b) := by
        intro x hx
        have e : fm x = fm (x / 2 ^ b * 2 ^ b) := by
          rw [← hfm', ← hfm']
          have := frun_buy (p := fno) (S := S') (n := r') (i := i) (b := b) (v := nI x) (w := nI (x / 2 ^ b * 2 ^ b)) hi (fun s s1 s2 => by
            have hx2 : x / 2 ^ b * 2 ^ b ≤ x := Nat.div_mul_le_self _ _
            rw [hs_bit (by omega) (by omega), hs_bit (by omega) (by omega), bit_low (by omega) (by omega) s2 s1]) 32 (rup (rx Mx 0) 8 i (nI (x / 2 ^ b * 2 ^ b))) (fun _ => 0) (okd _) rup_eq ⟨b, Nat.le_refl _, by omega, by rw [rup_ne (by omega)]; exact e5⟩
          rw [rup_rup] at this
          unfold ffin
          rw [this]
          exact rup_ne (R := (frun fno r' 32 (rup (rx Mx 0) 8 i (nI (x / 2 ^ b * 2 ^ b)), fun _ => 0)).1) (v := nI x) (f := 8) (j := i) (a := 6) (b := i) (by omega)
        rw [(htm' x).1, (htm' (x / 2 ^ b * 2 ^ b)).1] at e
        exact (q_eq (by have := (htm' x).2; omega) (by have := (htm' (x / 2 ^ b * 2 ^ b)).2; omega)).mp e
      have := bs_eq (tm := tm) (b := b) (S := S') hb h8 (htm' 0).2 hl (fun x hx => pcn_low (by omega) (by omega)) (2 ^ m - 1) (by rw [show S' - b = m by omega]; omega) (2 ^ b - 1) (by omega)
      rw [show (2 ^ m - 1) * 2 ^ b + (2 ^ b - 1) + 1 = 2 ^ S' by rw [Nat.sub_mul, hpow, Nat.one_mul]; have := hpq 0 (by omega); omega] at this
      exact this
    have hC := fun q => bsC_tm (tm := tm) (b := b) q
    refine kct (by decide) (Nat.le_of_ble_eq_true rfl) (bX5_soonestSet_0 _ Mx _ ?_)
    simp (disch := omega) only [qa_0, qa_1, qa_2, qa_3, qa_4, qa_5, qa_6, qa_7, qa_8, qa_9, qa_10, qa_12, qa_16, qa_20, qa_21, qa_22, qa_23, qa_24, qa_26, qa_27, qa_30, qa_31, qa_32, qa_35, qa_36, qa_40, qa_44, qa_48, qa_49, qa_70, qa_81, qa_90, qa_96, qa_168, qa_217, qa_434, qa_442, qa_446, qa_450, qa_454, qa_455, qa_456, qa_457, qa_458, qa_466, qa_474, qa_478, qb_0, qb_1, qb_2, qb_3, qb_4, qb_5, qb_6, qb_7, qb_8, qb_9, qb_10, qb_12, qb_16, qb_20, qb_21, qb_22, qb_23, qb_24, qb_26, qb_27, qb_30, qb_31, qb_32, qb_35, qb_36, qb_40, qb_44, qb_48, qb_49, qb_70, qb_81, qb_90, qb_96, qb_168, qb_217, qb_434, qb_442, qb_446, qb_450, qb_454, qb_455, qb_456, qb_457, qb_458, qb_466, qb_474, qb_478, qm_0, qm_1, qm_2, qm_3, qm_4, qm_5, qm_6, qm_7, qm_8, qm_9, qm_10, qm_12, qm_16, qm_20, qm_21, qm_22, qm_23, qm_24, qm_26, qm_27, qm_30, qm_31, qm_32, qm_35, qm_36, qm_40, qm_44, qm_48, qm_49, qm_70, qm_81, qm_90, qm_96, qm_168, qm_217, qm_434, qm_442, qm_446, qm_450, qm_454, qm_455, qm_456, qm_457, qm_458, qm_466, qm_474, qm_478, ql_0, ql_1, ql_2, ql_3, ql_4, ql_5, ql_6, ql_7, ql_8, ql_9, ql_10, ql_12, ql_16, ql_20, ql_21, ql_22, ql_23, ql_24, ql_26, ql_27, ql_30, ql_31, ql_32, ql_35, ql_36, ql_40, ql_44, ql_48, ql_49, ql_70, ql_81, ql_90, ql_96, ql_168, ql_217, ql_434, ql_442, ql_446, ql_450, ql_454, ql_455, ql_456, ql_457, ql_458, ql_466, ql_474, ql_478, nI_add, q_cl, q_in, true_and]
    rw [e5']
    rintro z1 rfl
    have kx : ∀ f q, q + f = 2 ^ m - 1 → ∀ M1, xfr Mx M1 → ∀ Q : Int32 → kM → Prop, (∀ M2, xfr Mx M2 → Q (nI (bsC tm b (2 ^ m - 1)).1) M2) → kWP l (rg_x, g1) mX5_soonestSet 23 [(0, .inr (.inr (0, 0))), (1, .inl (nI i)), (2, .inl (nI b)), (3, .inl (nI (bsC tm b q).1)), (4, .inl (nI (bsC tm b q).2)), (5, .inl (nI (q + 1)))] [] M1 (kqi Q) := by
      intro f
      induction f with
      | zero =>
        intro q hq M1 fx Q hQ
        obtain rfl : q = 2 ^ m - 1 := by omega
        refine bX5_soonestSet_23 _ _ _ _ _ _ _ ?_
        rw [show M1.1 1 0 0 = nI S' from (fx.1 1 0 0 (by omega)).trans ok.1, em, shl1 (by omega)]
        exact ⟨fun _ => hQ M1 fx, fun z => absurd ((q_le (by omega) (by omega)).mpr (by omega)) z⟩
      | succ f ih =>
        intro q hq M1 fx Q hQ
        have nx := ih (q + 1) (by omega)
        have hset := hpq (q + 1) (by omega)
        have hcq := hC q
        have hq1 := hpq q (by omega)
        have t1 := (htm' ((q + 1) * 2 ^ b)).2
        have t2 : (bsC tm b q).2 < 1000000000 := by
          rw [hcq.1]
          exact (htm' _).2
        have hbc : bsC tm b (q + 1) = if tm ((q + 1) * 2 ^ b) < (bsC tm b q).2 ∨ tm ((q + 1) * 2 ^ b) = (bsC tm b q).2 ∧ pcn ((q + 1) * 2 ^ b) < pcn (bsC tm b q).1 then ((q + 1) * 2 ^ b, tm ((q + 1) * 2 ^ b)) else bsC tm b q := rfl
        have p1 := pcn_le (x := (q + 1) * 2 ^ b)
        have p2 := pcn_le (x := (bsC tm b q).1)
        refine bX5_soonestSet_23 _ _ _ _ _ _ _ ?_
        rw [show M1.1 1 0 0 = nI S' from (fx.1 1 0 0 (by omega)).trans ok.1, em, shl1 (by omega)]
        refine ⟨fun z => ?_, fun _ => ?_⟩
        · rw [q_le (by omega) (by omega)] at z
          omega
        · rw [show nI (q + 1) <<< (nI b &&& 31) = nI ((q + 1) * 2 ^ b) from pk_shlN _ b (smod8 (by omega)) (by omega)]
          rintro z1 rfl
          refine x_minuteBuying i _ S' r' hi (by rw [fx.r0]; exact ok) (fun M2 d1 => x_bitCount _ (by omega) (x_bitCount _ (by omega) ?_))
          rw [fx.r0, hfm', (htm' _).1]
          have fx2 := fx.trans d1
          have k99 : ∀ s w, bsC tm b (q + 1) = (s, w) → kWP l (rg_x, g1) mX5_soonestSet 99 [(0, .inr (.inr (0, 0))), (1, .inl (nI i)), (2, .inl (nI b)), (3, .inl (nI s)), (4, .inl (nI w)), (5, .inl (nI (q + 1)))] [] M2 (kqi Q) := by
            intro s w e
            refine bX5_soonestSet_99 _ _ _ _ _ _ _ ?_
            rintro z1 rfl
            rw [qa_1]
            have := nx M2 fx2 Q hQ
            rw [e] at this
            exact this
          have k71 : ∀ y : Int32, (y = 0 ↔ pcn (bsC tm b q).1 ≤ pcn ((q + 1) * 2 ^ b)) → kWP l (rg_x, g1) mX5_soonestSet 71 [(0, .inr (.inr (0, 0))), (1, .inl (nI i)), (2, .inl (nI b)), (3, .inl (nI (bsC tm b q).1)), (4, .inl (nI (bsC tm b q).2)), (5, .inl (nI (q + 1))), (6, .inl (nI ((q + 1) * 2 ^ b))), (7, .inl (nI (tm ((q + 1) * 2 ^ b))))] [.inl y] M2 (kqi Q) := by
            intro y hy
            refine bX5_soonestSet_71 _ _ _ _ _ _ _ _ _ _ ⟨fun z => ?_, fun z => ⟨fun z2 => ?_, fun z2 => ⟨fun z3 => ?_, fun z3 => ?_⟩⟩⟩
            · rw [q_lt (by omega) (by omega)] at z
              rw [if_pos (Or.inl z)] at hbc
              exact bX5_soonestSet_92 _ _ _ _ _ _ _ (k99 _ _ hbc)
            · rw [q_lt (by omega) (by omega)] at z
              rw [q_eq (by omega) (by omega)] at z2
              rw [if_neg (fun w => w.elim z (fun w => z2 w.1))] at hbc
              exact k99 _ _ hbc
            · rw [q_lt (by omega) (by omega)] at z
              have := hy.mp z3
              rw [if_neg (fun w => w.elim z (fun w => by omega))] at hbc
              exact k99 _ _ hbc
            · rw [q_eq (by omega) (by omega)] at z2
              have : ¬ pcn (bsC tm b q).1 ≤ pcn ((q + 1) * 2 ^ b) := fun w => z3 (hy.mpr w)
              rw [if_pos (Or.inr ⟨z2, by omega⟩)] at hbc
              exact bX5_soonestSet_92 _ _ _ _ _ _ _ (k99 _ _ hbc)
          refine ⟨fun z => ?_, fun z => ?_⟩
          · rw [q_le (by omega) (by omega)] at z
            exact k71 0 ⟨fun _ => z, fun _ => rfl⟩
          · rw [q_le (by omega) (by omega)] at z
            exact k71 1 ⟨fun w => absurd w (by decide), fun w => absurd w z⟩
    have hCf := hC (2 ^ m - 1)
    have hres : ∀ Mx' v, xfr Mx Mx' → v = (if a2 = 0 then nI (bsC tm b (2 ^ m - 1)).1 else nI (bsC tm b (2 ^ m - 1)).2) → kCT l (rg_m, g2) mX6_best [.inr (.inr (0, 0)), .inl (nI i), .inl a2] Mm (kqi (fun r2 Mm1 => v = r2 ∧ Inv (n + 1) Mx' Mm1)) := by
      intro Mx' v fx' hv
      refine kct (by decide) (Nat.le_of_ble_eq_true rfl) (bX6_best_0 _ _ Mm _ (m_isRider _ ⟨fun z => absurd z c', fun _ => m_in _ 0 1 (by decide) (by decide) ⟨fun _ => ?_, fun z => absurd z c2⟩⟩))
      have eSm : Mm.1 1 0 21 = nI S' := by
        rw [← h.stages]
        exact ok.1
      have hM := fun N => bsM_le (tm := tm) (fun x => Nat.le_of_lt (htm' x).2) N
      have km : ∀ f N, N + f = 2 ^ S' → ∀ M1, mfr Mm M1 → ∀ Q : Int32 → kM → Prop, (∀ M2, mfr Mm M2 → Q (if a2 = 0 then nI (bsM tm (2 ^ S')).1 else nI (bsM tm (2 ^ S')).2) M2) → kWP l (rg_m, g2) mX6_best 29 [(0, .inr (.inr (0, 0))), (1, .inl (nI i)), (2, .inl a2), (3, .inl (nI (bsM tm N).1)), (4, .inl (nI (bsM tm N).2)), (5, .inl (nI N))] [] M1 (kqi Q) := by
        intro f
        induction f with
        | zero =>
          intro N hN M1 fm1 Q hQ
          obtain rfl : N = 2 ^ S' := by omega
          refine bX6_best_29 _ _ _ _ _ _ _ ?_
          rw [ql_21, show M1.1 1 0 21 = nI S' from (fm1.1 1 0 21 (by omega)).trans eSm, shl1 h8]
          have := hQ M1 fm1
          refine ⟨fun _ => ⟨fun z => bX6_best_153 _ _ _ ?_, fun z => bX6_best_153 _ _ _ ?_⟩, fun z => absurd ((q_le (by omega) (by omega)).mpr (by omega)) z⟩
          · rw [if_neg z] at this
            exact this
          · rw [if_pos z] at this
            exact this
        | succ f ih =>
          intro N hN M1 fm1 Q hQ
          have nx := ih (N + 1) (by omega)
          have hMN := hM N
          have t1 := (htm' N).2
          have p1 := pcn_le (x := N)
          have p2 := pcn_le (x := (bsM tm N).1)
          have hbc : bsM tm (N + 1) = if tm N < (bsM tm N).2 ∨ tm N = (bsM tm N).2 ∧ pcn N < pcn (bsM tm N).1 then (N, tm N) else bsM tm N := rfl
          refine bX6_best_29 _ _ _ _ _ _ _ ?_
          rw [ql_21, show M1.1 1 0 21 = nI S' from (fm1.1 1 0 21 (by omega)).trans eSm, shl1 h8]
          refine ⟨fun z => ?_, fun _ => m_tries (fun M2 b1 b2 => ?_)⟩
          · rw [q_le (by omega) (by omega)] at z
            omega
          · simp (disch := omega) only [qa_0, qa_1, qa_2, qa_3, qa_4, qa_5, qa_6, qa_7, qa_8, qa_9, qa_10, qa_12, qa_16, qa_20, qa_21, qa_22, qa_23, qa_24, qa_26, qa_27, qa_30, qa_31, qa_32, qa_35, qa_36, qa_40, qa_44, qa_48, qa_49, qa_70, qa_81, qa_90, qa_96, qa_168, qa_217, qa_434, qa_442, qa_446, qa_450, qa_454, qa_455, qa_456, qa_457, qa_458, qa_466, qa_474, qa_478, qb_0, qb_1, qb_2, qb_3, qb_4, qb_5, qb_6, qb_7, qb_8, qb_9, qb_10, qb_12, qb_16, qb_20, qb_21, qb_22, qb_23, qb_24, qb_26, qb_27, qb_30, qb_31, qb_32, qb_35, qb_36, qb_40, qb_44, qb_48, qb_49, qb_70, qb_81, qb_90, qb_96, qb_168, qb_217, qb_434, qb_442, qb_446, qb_450, qb_454, qb_455, qb_456, qb_457, qb_458, qb_466, qb_474, qb_478, qm_0, qm_1, qm_2, qm_3, qm_4, qm_5, qm_6, qm_7, qm_8, qm_9, qm_10, qm_12, qm_16, qm_20, qm_21, qm_22, qm_23, qm_24, qm_26, qm_27, qm_30, qm_31, qm_32, qm_35, qm_36, qm_40, qm_44, qm_48, qm_49, qm_70, qm_81, qm_90, qm_96, qm_168, qm_217, qm_434, qm_442, qm_446, qm_450, qm_454, qm_455, qm_456, qm_457, qm_458, qm_466, qm_474, qm_478, ql_0, ql_1, ql_2, ql_3, ql_4, ql_5, ql_6, ql_7, ql_8, ql_9, ql_10, ql_12, ql_16, ql_20, ql_21, ql_22, ql_23, ql_24, ql_26, ql_27, ql_30, ql_31, ql_32, ql_35, ql_36, ql_40, ql_44, ql_48, ql_49, ql_70, ql_81, ql_90, ql_96, ql_168, ql_217, ql_434, ql_442, ql_446, ql_450, ql_454, ql_455, ql_456, ql_457, ql_458, ql_466, ql_474, ql_478, nI_add, q_cl, q_in, true_and]
            rintro M3 rfl
            have b2' : req (rmd M2 434) (rx Mx 0) := b2.trans (fm1.r0.trans q.symm)
            have q3 : req (rup (rx Mx 0) 8 i (nI N)) (rmd (ku M2 1 0 (478 + i) (nI N)) 434) := ((rmd_u (h := 434) (f := 8) (j := i) (by simp [wof]; omega) (by decide) (by first | (show _ < 4; omega) | (show _ < 8; omega) | exact fln_s (by assumption) (by omega) (by omega) (by omega) | exact fln_r (by assumption) (by omega) (by omega))).trans (b2'.up _ _ _)).symm
            refine m_rid _ _ S' r' (q3.ok (okd _)) (fun M4 d1 d2 => ?_)
            have g6 : M4.1 1 0 (446 + i) = nI (tm N) := by
              have := d2 i hi
              rw [flse_0, ← ffin_cg (okd _) q3 hi, hfm', (htm' N).1] at this
              exact this
            rw [g6]
            rintro z4 rfl
            have fm4 := ((fm1.trans b1).trans (mfr.u (by omega))).trans d1
            have upd : bsM tm (N + 1) = (N, tm N) → kWP l (rg_m, g2) mX6_best 104 [(0, .inr (.inr (0, 0))), (1, .inl (nI i)), (2, .inl a2), (3, .inl (nI (bsM tm N).1)), (4, .inl (nI (bsM tm N).2)), (5, .inl (nI N)), (6, .inl (nI (tm N)))] [] M4 (kqi Q) := by
              intro e
              refine bX6_best_104 _ _ _ _ _ _ _ _ (bX6_best_109 _ _ _ _ _ _ _ _ _ ⟨fun z => absurd z (by decide), fun _ => bX6_best_122 _ _ _ _ _ _ _ _ _ ⟨fun z => absurd z (by decide), fun _ => bX6_best_135 _ _ _ _ _ _ _ ?_⟩⟩)
              rintro z1 rfl
              rw [qa_1]
              have := nx M4 fm4 Q hQ
              rw [e] at this
              exact this
            have kee : bsM tm (N + 1) = bsM tm N → kWP l (rg_m, g2) mX6_best 108 [(0, .inr (.inr (0, 0))), (1, .inl (nI i)), (2, .inl a2), (3, .inl (nI (bsM tm N).1)), (4, .inl (nI (bsM tm N).2)), (5, .inl (nI N)), (6, .inl (nI (tm N)))] [] M4 (kqi Q) := by
              intro e
              refine bX6_best_108 _ _ _ _ _ _ _ _ (bX6_best_109 _ _ _ _ _ _ _ _ _ ⟨fun _ => bX6_best_122 _ _ _ _ _ _ _ _ _ ⟨fun _ => bX6_best_135 _ _ _ _ _ _ _ ?_, fun z => absurd rfl z⟩, fun z => absurd rfl z⟩)
              rintro z1 rfl
              rw [qa_1]
              have := nx M4 fm4 Q hQ
              rw [e] at this
              exact this
            refine ⟨fun z => upd ?_, fun z => ⟨fun z2 => kee ?_, fun z2 => m_ones _ (by omega) (m_ones _ (by omega) ⟨fun z3 => kee ?_, fun z3 => upd ?_⟩)⟩⟩
            · rw [q_lt (by omega) (by omega)] at z
              rw [hbc, if_pos (Or.inl z)]
            · rw [q_lt (by omega) (by omega)] at z
              rw [q_eq (by omega) (by omega)] at z2
              rw [hbc, if_neg (fun w => w.elim z (fun w => z2 w.1))]
            · rw [q_lt (by omega) (by omega)] at z
              rw [q_le (by omega) (by omega)] at z3
              rw [hbc, if_neg (fun w => w.elim z (fun w => by omega))]
            · rw [q_eq (by omega) (by omega)] at z2
              rw [q_le (by omega) (by omega)] at z3
              rw [hbc, if_pos (Or.inr ⟨z2, by omega⟩)]
      refine km (2 ^ S') 0 (by omega) Mm (mfr.refl _) _ (fun Mm' fm' => ⟨?_, h.next fx'.same fm'.same⟩)
      rw [hbs]
      exact hv
    refine x_minuteBuying i 0 S' r' hi ok (fun M1 d1 => ?_)
    rw [show ffin fno r' (rup (rx Mx 0) 8 i 0) 6 i = nI (tm 0) from (hfm' 0).trans (htm' 0).1]
    refine kx (2 ^ m - 1) 0 (by omega) M1 d1 _ (fun M2 fx2 => ⟨fun z => ?_, fun z => bX5_best_37 _ _ _ (hres M2 _ fx2 ?_)⟩)
    · refine x_minuteBuying i _ S' r' hi (by rw [fx2.r0]; exact ok) (fun M3 d3 => bX5_best_37 _ _ _ (hres M3 _ (fx2.trans d3) ?_))
      rw [if_neg z, fx2.r0, hfm', (htm' _).1, ← hCf.1]
    · rw [if_pos z]
  · rw [e1] at c
    exact kct (by decide) (Nat.le_of_ble_eq_true rfl) (bX6_best_0 _ a2 Mm _ (m_isRider _ ⟨fun z => absurd z c, fun _ => m_in _ 0 1 (by decide) (by decide) ⟨fun z => absurd c2 z, fun _ => bX6_best_18 _ _ ⟨rfl, h.mono⟩⟩⟩))
end KBP
