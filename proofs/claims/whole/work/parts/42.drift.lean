/-! ===== drift ===== -/
def drw (d : Int32) : Int32 := (d * 1103515245 + 12345) &&& 2147483647
theorem rwho_up {R : Rc} {v : Int32} : ∀ n, rwho (rup R 0 3 v) n = rwho R n
  | 0 => rfl
  | n + 1 => by
    have ih := rwho_up (R := R) (v := v) n
    unfold rwho
    rw [ih, rup_ne (by omega), rup_ne (by omega), rup_ne (by omega), rup_ne (by omega)]
theorem rride_more {R : Rc} {r : Nat} {x : Int32} : rup (rride R r 0) 6 r (rride R r 0 6 r + x) = rride R r x := by
  rw [rride_6, Int32.add_zero]
  unfold rride
  rw [rup_comm (f := 5) (f' := 6) (by omega), rup_rup]
theorem rss.draw {S r N c : Nat} {Mx Mm : kM} (h : rss S r Mx Mm N c) (v : Int32) : rss S r (ku Mx 1 0 3 v) (ku Mm 1 0 20 v) N c := by
  obtain ⟨q, ok, bd, ud, mb⟩ := h
  refine ⟨?_, ?_, ?_, ?_, fun a ha => ?_⟩
  · rw [rx_u0]
    exact (q.up 0 3 v).trans (rmd_u (f := 0) (j := 3) rfl (by decide) (by decide)).symm
  · rw [rx_u0]
    exact ok.up (by decide) (by decide)
  · rw [rx_u0]
    exact bd.up (by decide) (by decide)
  · exact ud.cg (fun c j hc => ku_ne (by omega)) (fun j b1 b2 => ku_ne (by omega))
  · rw [rx_u0, rup_ne (by omega)]
    exact mb a ha
section KDR
variable {l : Launch} {g g1 g2 : va_G × (Nat → ClassId) × (Nat → Nat → Nat)} {M Mx Mm : kM} {n : Nat} {Q : Int32 → kM → Prop}
theorem x_drawWheel (k : Nat) (h0 : ¬ (drw (M.1 1 k 3) / 65536 - drw (M.1 1 k 3) / 65536 / 6 * 6) = 0 → Q 0 (ku M 1 k 3 (drw (M.1 1 k 3)))) (h1 : (drw (M.1 1 k 3) / 65536 - drw (M.1 1 k 3) / 65536 / 6 * 6) = 0 → Q 1 (ku M 1 k 3 (drw (M.1 1 k 3)))) : kCT l (rg_x, g) mX3_drawWheel [.inr (.inr (1, k))] M (kqi Q) := by
  refine kct (by decide) (Nat.le_of_ble_eq_true rfl) (bX3_drawWheel_0 k M Q ?_)
  rintro M1 rfl
  rw [ku_eq]
  exact ⟨fun c => bX3_drawWheel_36 _ _ _ ⟨Or.inl rfl, h0 c⟩, fun c => bX3_drawWheel_36 _ _ _ ⟨Or.inr rfl, h1 c⟩⟩
theorem pair_drift (h : Inv n Mx Mm) (a1 : Int32) : kPair l g1 g2 mX5_drift mX6_drift [.inl a1] Mx Mm (Inv (n + 1)) := by
  obtain ⟨S, r, h0⟩ := h.toRs
  refine kct (by decide) (Nat.le_of_ble_eq_true rfl) (bX5_drift_0 a1 Mx _ (x_within _ _ _ ⟨fun c1 => ?_, fun c1 => ?_⟩))
  · have c1' := c1
    obtain ⟨m, m1, m2, rfl⟩ := wth_rg (lo := 1) (hi := 32) (by decide) (by decide) c1
    refine x_whoRides 0 S r h0.2.1 ?_
    have ew0 : rwho (rx Mx 0) r = rwho (rmd Mm 0) r := rwho_eq h0.1 h0.2.1
    have okm : rok (rmd Mm 0) S r := h0.1.ok h0.2.1
    rcases rwho_cases (rx Mx 0) r with hw | ⟨a, ha, hw, hb⟩
    · rw [hw]
      refine ⟨fun z => absurd z (by decide), fun _ => ?_⟩
      refine kct (by decide) (Nat.le_of_ble_eq_true rfl) (bX6_drift_0 _ Mm _ (m_in _ 1 32 (by decide) (by decide) ⟨fun _ => m_nextIn 0 S r (by omega) okm ?_, fun z => absurd z c1'⟩))
      rw [← ew0, hw]
      exact ⟨fun z => absurd rfl z, fun _ => ⟨rfl, h.mono⟩⟩
    · rw [hw]
      refine ⟨fun _ => ?_, fun z => absurd (nI_pos' (by have := h0.2.1.2.2.2.1; omega)) z⟩
      have key : ∀ f i w, i + f = m → ∀ Mx', frx Mx Mx' → rsx S r Mx' → (∀ Qm : Int32 → kM → Prop, (∀ Mm', frm Mm Mm' → rss S r Mx' Mm' (n + 1) (B n + 185 * i) → kWP l (rg_m, g2) mX6_drift 31 [(0, .inr (.inr (0, 0))), (1, .inl (nI m)), (2, .inl w), (3, .inl (nI i))] [] Mm' (kqi Qm)) → kWP l (rg_m, g2) mX6_drift 31 [(0, .inr (.inr (0, 0))), (1, .inl (nI m)), (2, .inl 0), (3, .inl 0)] [] Mm (kqi Qm)) → kWP l (rg_x, g1) mX5_drift 29 [(0, .inr (.inr (0, 0))), (1, .inl (nI m)), (2, .inl w), (3, .inl (nI i))] [] Mx' (kqi (fun r Mx1 => kCT l (rg_m, g2) mX6_drift [.inr (.inr (0, 0)), .inl (nI m)] Mm (kqi (fun r2 Mm1 => r = r2 ∧ Inv (n + 1) Mx1 Mm1)))) := by
        have fin : ∀ i w Mx', i ≤ m → frx Mx Mx' → (∀ Qm : Int32 → kM → Prop, (∀ Mm', frm Mm Mm' → rss S r Mx' Mm' (n + 1) (B n + 185 * i) → kWP l (rg_m, g2) mX6_drift 31 [(0, .inr (.inr (0, 0))), (1, .inl (nI m)), (2, .inl w), (3, .inl (nI i))] [] Mm' (kqi Qm)) → kWP l (rg_m, g2) mX6_drift 31 [(0, .inr (.inr (0, 0))), (1, .inl (nI m)), (2, .inl 0), (3, .inl 0)] [] Mm (kqi Qm)) → (i = m ∨ rwho (rx Mx' 0) r = -4) → kCT l (rg_m, g2) mX6_drift [.inr (.inr (0, 0)), .inl (nI m)] Mm (kqi (fun r2 Mm1 => w = r2 ∧ Inv (n + 1) Mx' Mm1)) := by
          intro i w Mx' him fx adv he
          refine kct (by decide) (Nat.le_of_ble_eq_true rfl) (bX6_drift_0 _ Mm _ (m_in _ 1 32 (by decide) (by decide) ⟨fun _ => m_nextIn 0 S r (by omega) okm ?_, fun z => absurd z c1'⟩))
          rw [← ew0, hw]
          refine ⟨fun _ => ?_, fun z => absurd z (nI_neg4 (by have := h0.2.1.2.2.2.1; omega))⟩
          refine adv _ (fun Mm' fm hrs => ?_)
          have hfin : w = w ∧ Inv (n + 1) Mx' Mm' := ⟨rfl, h.fin fx fm hrs.torel⟩
          refine bX6_drift_31 _ _ _ _ _ ⟨fun _ => bX6_drift_154 _ _ _ hfin, fun z => ?_⟩
          refine m_nextIn 0 S r (by omega) (hrs.1.ok hrs.2.1) ?_
          rw [← rwho_eq hrs.1 hrs.2.1]
          rcases he with he | he
          · subst he
            exact absurd (nI_le (Nat.le_refl _) (by omega)) z
          · rw [he]
            exact ⟨fun _ => bX6_drift_154 _ _ _ hfin, fun z => absurd rfl z⟩
        intro f
        induction f with
        | zero =>
          intro i w hi Mx' fx xs adv
          obtain rfl : i = m := by omega
          exact bX5_drift_29 _ _ _ _ _ ⟨fun _ => bX5_drift_110 _ _ _ (fin i w Mx' (Nat.le_refl _) fx adv (Or.inl rfl)), fun z => absurd (nI_le (Nat.le_refl i) (by omega)) z⟩
        | succ f ih =>
          intro i w hi Mx' fx xs adv
          refine bX5_drift_29 _ _ _ _ _ ⟨fun z => ?_, fun _ => ?_⟩
          · rw [q_le (by omega) (by omega)] at z
            omega
          · refine x_whoRides 0 S r xs.1 ?_
            rcases rwho_cases (rx Mx' 0) r with hw' | ⟨a, ha, hw', hb⟩
            · rw [hw']
              exact ⟨fun z => absurd z (by decide), fun _ => bX5_drift_110 _ _ _ (fin i w Mx' (by omega) fx adv (Or.inr hw'))⟩
            · rw [hw']
              obtain ⟨ok, u, x, u8, x8, hu, hx⟩ := xs
              obtain ⟨s, hs, e5⟩ := rwho_s ok hw' ha hb
              have h8 := ok.2.1
              have h4 := ok.2.2.2.1
              refine ⟨fun _ => ?_, fun z => absurd (nI_pos' (by omega)) z⟩
              refine x_mark x u x8 u8 hx hu (fun Mx1 a1 a2 a3 a4 a5 a6 => ?_)
              have erx : rx Mx1 0 = rx Mx' 0 := rx_cg (fun c j hc => a1 c 0 j (by omega))
              have edr : Mx1.1 1 0 3 = Mx'.1 1 0 3 := a1 1 0 3 (by omega)
              -- one wheel more, or none
              have go : ∀ (o : Int32) (y : Nat), y ≤ 30 → (o = 0 → y = 0) → (¬ o = 0 → y = 30) → (o = 0 ∨ o = 1) → (o = 0 ↔ ¬ (drw (Mx1.1 1 0 3) / 65536 - drw (Mx1.1 1 0 3) / 65536 / 6 * 6) = 0) → kWP l (rg_x, g1) mX5_drift 88 [(0, .inr (.inr (0, 0))), (1, .inl (nI m)), (2, .inl w), (3, .inl (nI i)), (5, .inl o)] [.inl (nI y), .inl (nI a), .inr (.inr (1, 0))] (ku Mx1 1 0 3 (drw (Mx1.1 1 0 3))) (kqi (fun r Mx1 => kCT l (rg_m, g2) mX6_drift [.inr (.inr (0, 0)), .inl (nI m)] Mm (kqi (fun r2 Mm1 => r = r2 ∧ Inv (n + 1) Mx1 Mm1)))) := by
                intro o y hy hy0 hy1 ho hoc
                refine bX5_drift_88 _ _ _ _ _ _ _ _ _ ?_
                refine x_rideStage 0 a s (nI y) (by omega) (by omega) (by rw [rx_u0, rup_ne (by omega), erx]; exact e5) (fun Mx2 b1 b2 b3 => ?_)
                rw [rx_u0, erx] at b3
                have h102 : kWP l (rg_x, g1) mX5_drift 102 [(0, .inr (.inr (0, 0))), (1, .inl (nI m)), (3, .inl (nI i))] [.inl o, .inl w] Mx2 (kqi (fun r Mx1 => kCT l (rg_m, g2) mX6_drift [.inr (.inr (0, 0)), .inl (nI m)] Mm (kqi (fun r2 Mm1 => r = r2 ∧ Inv (n + 1) Mx1 Mm1)))) := by
                  refine bX5_drift_102 _ _ _ _ _ _ ?_
                  rintro z5 rfl z6 rfl
                  rw [qa_1]
                  refine ih (i + 1) (w + o) (by omega) Mx2 ⟨fun c i j hc => ?_, ?_⟩ ⟨?_, (if u = 8 then 8 else u + 1), (x + 1) % 8, ?_, Nat.mod_lt _ (by decide), ?_, ?_⟩ (fun Qm hQ => ?_)
                  · rw [b1 c i j (by omega), ku_ne (by omega), a1 c i j (by omega)]
                    exact fx.1 c i j hc
                  · rw [b2, ku_2, a2]
                    exact fx.2
                  · rw [b3]
                    exact rride_ok (ok.up (by decide) (by decide)) (by rw [rup_ne (by omega)]; exact e5) hs
                  · split <;> omega
                  · rw [b1 2 0 0 (by omega), ku_ne (by omega)]
                    exact a5
                  · rw [b1 2 0 1 (by omega), ku_ne (by omega)]
                    exact a6
                  · refine adv Qm (fun Mm' fm hrs => ?_)
                    refine bX6_drift_31 _ _ _ _ _ ⟨fun z => ?_, fun _ => ?_⟩
                    · rw [q_le (by omega) (by omega)] at z
                      omega
                    · refine m_nextIn 0 S r (by omega) (hrs.1.ok hrs.2.1) ?_
                      rw [← rwho_eq hrs.1 hrs.2.1, hw']
                      refine ⟨fun z => absurd z (nI_neg4 (by omega)), fun _ => ?_⟩
                      obtain ⟨v, yy, v1, v2, v3, v4, v5, v6⟩ := hrs.2.2.2.1
                      have ev : v = u := (q_eq (by omega) (by omega)).mp (v3.symm.trans hu)
                      subst ev
                      refine m_minds v v1 v5 (fun Mm1 d1 d2 d3 d4 => ?_)
                      have hrel := rel.mark hrs.torel hu hx u8 x8 a1 a3 a4 a5 a6 d1 d3 d4
                      have hrs1 := hrs.of erx hrel
                      have ed : Mm1.1 1 0 20 = Mx1.1 1 0 3 := (hrs1.1 0 3 (by decide) (by first | (show _ < 4; omega) | (show _ < 8; omega) | exact fln_s (by assumption) (by omega) (by omega) (by omega) | exact fln_r (by assumption) (by omega) (by omega))).symm
                      rintro M4 rfl
                      rw [ql_20, ed, show Mx1.1 1 0 3 * 1103515245 + 12345 &&& 2147483647 = drw (Mx1.1 1 0 3) from rfl]
                      have hrs2 := hrs1.draw (drw (Mx1.1 1 0 3))
                      refine m_nextIn 0 S r (by omega) (hrs2.1.ok hrs2.2.1) ?_
                      rw [← rwho_eq hrs2.1 hrs2.2.1, rx_u0, rwho_up, erx, hw']
                      have e5m : rmd (ku Mm1 1 0 20 (drw (Mx1.1 1 0 3))) 0 5 a = nI s := by
                        rw [← hrs2.1 5 a (by decide) (fln_r hrs2.2.1 (by omega) ha), rx_u0, rup_ne (by omega), erx]
                        exact e5
                      have m102 : kWP l (rg_m, g2) mX6_drift 102 [(0, .inr (.inr (0, 0))), (1, .inl (nI m)), (2, .inl w), (3, .inl (nI i)), (4, .inl (nI a))] [.inl o] (ku Mm1 1 0 20 (drw (Mx1.1 1 0 3))) (kqi Qm) := by
                        refine bX6_drift_102 _ _ _ _ _ _ _ ?_
                        refine m_rides 0 a s (by omega) (by omega) (by omega) e5m (fun Mm2 f1 f2 f3 => ?_)
                        simp (disch := omega) only [qa_0, qa_1, qa_2, qa_3, qa_4, qa_5, qa_6, qa_7, qa_8, qa_9, qa_10, qa_12, qa_16, qa_20, qa_21, qa_22, qa_23, qa_24, qa_26, qa_27, qa_30, qa_31, qa_32, qa_35, qa_36, qa_40, qa_44, qa_48, qa_49, qa_70, qa_81, qa_90, qa_96, qa_168, qa_217, qa_434, qa_442, qa_446, qa_450, qa_454, qa_455, qa_456, qa_457, qa_458, qa_466, qa_474, qa_478, qb_0, qb_1, qb_2, qb_3, qb_4, qb_5, qb_6, qb_7, qb_8, qb_9, qb_10, qb_12, qb_16, qb_20, qb_21, qb_22, qb_23, qb_24, qb_26, qb_27, qb_30, qb_31, qb_32, qb_35, qb_36, qb_40, qb_44, qb_48, qb_49, qb_70, qb_81, qb_90, qb_96, qb_168, qb_217, qb_434, qb_442, qb_446, qb_450, qb_454, qb_455, qb_456, qb_457, qb_458, qb_466, qb_474, qb_478, qm_0, qm_1, qm_2, qm_3, qm_4, qm_5, qm_6, qm_7, qm_8, qm_9, qm_10, qm_12, qm_16, qm_20, qm_21, qm_22, qm_23, qm_24, qm_26, qm_27, qm_30, qm_31, qm_32, qm_35, qm_36, qm_40, qm_44, qm_48, qm_49, qm_70, qm_81, qm_90, qm_96, qm_168, qm_217, qm_434, qm_442, qm_446, qm_450, qm_454, qm_455, qm_456, qm_457, qm_458, qm_466, qm_474, qm_478, ql_0, ql_1, ql_2, ql_3, ql_4, ql_5, ql_6, ql_7, ql_8, ql_9, ql_10, ql_12, ql_16, ql_20, ql_21, ql_22, ql_23, ql_24, ql_26, ql_27, ql_30, ql_31, ql_32, ql_35, ql_36, ql_40, ql_44, ql_48, ql_49, ql_70, ql_81, ql_90, ql_96, ql_168, ql_217, ql_434, ql_442, ql_446, ql_450, ql_454, ql_455, ql_456, ql_457, ql_458, ql_466, ql_474, ql_478, nI_add, q_cl, q_in, true_and]
                        have m133 : kWP l (rg_m, g2) mX6_drift 133 [(0, .inr (.inr (0, 0))), (1, .inl (nI m)), (2, .inl w), (3, .inl (nI i)), (5, .inl o)] [.inl (nI y), .inl (Mm2.1 1 0 (12 + a)), .inl (nI (12 + a)), .inr (.inr (1, 0))] Mm2 (kqi Qm) := by
                          refine bX6_drift_133 _ _ _ _ _ _ _ _ _ ?_
                          simp (disch := omega) only [qa_0, qa_1, qa_2, qa_3, qa_4, qa_5, qa_6, qa_7, qa_8, qa_9, qa_10, qa_12, qa_16, qa_20, qa_21, qa_22, qa_23, qa_24, qa_26, qa_27, qa_30, qa_31, qa_32, qa_35, qa_36, qa_40, qa_44, qa_48, qa_49, qa_70, qa_81, qa_90, qa_96, qa_168, qa_217, qa_434, qa_442, qa_446, qa_450, qa_454, qa_455, qa_456, qa_457, qa_458, qa_466, qa_474, qa_478, qb_0, qb_1, qb_2, qb_3, qb_4, qb_5, qb_6, qb_7, qb_8, qb_9, qb_10, qb_12, qb_16, qb_20, qb_21, qb_22, qb_23, qb_24, qb_26, qb_27, qb_30, qb_31, qb_32, qb_35, qb_36, qb_40, qb_44, qb_48, qb_49, qb_70, qb_81, qb_90, qb_96, qb_168, qb_217, qb_434, qb_442, qb_446, qb_450, qb_454, qb_455, qb_456, qb_457, qb_458, qb_466, qb_474, qb_478, qm_0, qm_1, qm_2, qm_3, qm_4, qm_5, qm_6, qm_7, qm_8, qm_9, qm_10, qm_12, qm_16, qm_20, qm_21, qm_22, qm_23, qm_24, qm_26, qm_27, qm_30, qm_31, qm_32, qm_35, qm_36, qm_40, qm_44, qm_48, qm_49, qm_70, qm_81, qm_90, qm_96, qm_168, qm_217, qm_434, qm_442, qm_446, qm_450, qm_454, qm_455, qm_456, qm_457, qm_458, qm_466, qm_474, qm_478, ql_0, ql_1, ql_2, ql_3, ql_4, ql_5, ql_6, ql_7, ql_8, ql_9, ql_10, ql_12, ql_16, ql_20, ql_21, ql_22, ql_23, ql_24, ql_26, ql_27, ql_30, ql_31, ql_32, ql_35, ql_36, ql_40, ql_44, ql_48, ql_49, ql_70, ql_81, ql_90, ql_96, ql_168, ql_217, ql_434, ql_442, ql_446, ql_450, ql_454, ql_455, ql_456, ql_457, ql_458, ql_466, ql_474, ql_478, nI_add, q_cl, q_in, true_and]
                          rintro M5 rfl
                          have m146 : kWP l (rg_m, g2) mX6_drift 146 [(0, .inr (.inr (0, 0))), (1, .inl (nI m)), (3, .inl (nI i))] [.inl o, .inl w] (ku Mm2 1 0 (12 + a) (Mm2.1 1 0 (12 + a) + nI y)) (kqi Qm) := by
                            refine bX6_drift_146 _ _ _ _ _ _ ?_
                            rintro z1 rfl z2 rfl
                            rw [qa_1]
                            refine hQ _ ⟨fun c i j hc => ?_, ?_⟩ ?_
                            · rw [ku_ne (by omega), f1 c i j (by omega), ku_ne (by omega), d1 c i j (by omega)]
                              exact fm.1 c i j hc
                            · rw [ku_2, f2, ku_2, d2]
                              exact fm.2
                            · have em : req (rmd (ku Mm2 1 0 (12 + a) (Mm2.1 1 0 (12 + a) + nI y)) 0) (rride (rmd (ku Mm1 1 0 20 (drw (Mx1.1 1 0 3))) 0) a (nI y)) := by
                                refine (rmd_u (f := 6) (j := a) (by simp [wof]) (by decide) (by first | (show _ < 4; omega) | (show _ < 8; omega) | exact fln_s (by assumption) (by omega) (by omega) (by omega) | exact fln_r (by assumption) (by omega) (by omega))).trans ?_
                                have okm2 : rok (rmd Mm2 0) S r := f3.symm.ok (rride_ok (hrs2.1.ok hrs2.2.1) e5m hs)
                                have e6 : Mm2.1 1 0 (12 + a) = rride (rmd (ku Mm1 1 0 20 (drw (Mx1.1 1 0 3))) 0) a 0 6 a := by
                                  rw [← f3 6 a (by decide) (by first | (show _ < 4; omega) | (show _ < 8; omega) | exact fln_s (by assumption) (by omega) (by omega) (by omega) | exact fln_r (by assumption) (by omega) (by omega)), wof_rmd (by decide) (by first | (show _ < 4; omega) | (show _ < 8; omega) | exact fln_s (by assumption) (by omega) (by omega) (by omega) | exact fln_r (by assumption) (by omega) (by omega)), Nat.zero_add]
                                  rfl
                                rw [e6]
                                refine (req.up f3 _ _ _).trans ?_
                                rw [rride_more]
                                exact req.refl _
                              have := hrs2.ride (x := y) (Mx' := Mx2) ha (by rw [rx_u0, rup_ne (by omega), erx]; exact e5) hs hy (by unfold B; omega) (by rw [rx_u0, erx]; exact b3) em (fun c j hc => b1 c 0 j (by omega)) (fun j z1 z2 => by rw [ku_ne (by omega), f1 1 0 j (by omega)])
                              rw [show B n + 185 * (i + 1) = B n + 185 * i + 185 by omega]
                              exact this
                          rcases ho with ho | ho
                          · subst ho
                            exact ⟨fun _ => m146, fun z => absurd rfl z⟩
                          · subst ho
                            exact ⟨fun z => absurd z (by decide), fun _ => m146⟩
                        refine ⟨fun c => ?_, fun c => ?_⟩
                        · have := hy0 c
                          subst this
                          exact m133
                        · have := hy1 c
                          subst this
                          exact m133
                      rw [ku_eq]
                      refine ⟨fun c => ?_, fun c => ?_⟩
                      · have := hoc.mpr c
                        subst this
                        exact m102
                      · have : o = 1 := ho.resolve_left (fun z => (hoc.mp z) c)
                        subst this
                        exact m102
                rcases ho with ho | ho
                · subst ho
                  exact ⟨fun _ => h102, fun z => absurd rfl z⟩
                · subst ho
                  exact ⟨fun z => absurd z (by decide), fun _ => h102⟩
              refine x_drawWheel 0 (fun c => ⟨fun _ => ?_, fun z => absurd rfl z⟩) (fun c => ⟨fun z => absurd z (by decide), fun _ => ?_⟩)
              · exact go 0 0 (by omega) (fun _ => rfl) (fun z => absurd rfl z) (Or.inl rfl) ⟨fun _ => c, fun _ => rfl⟩
              · exact go 1 30 (by omega) (fun z => absurd z (by decide)) (fun _ => rfl) (Or.inr rfl) ⟨fun z => absurd z (by decide), fun z => absurd c z⟩
      exact key m 0 0 (by omega) Mx ⟨fun _ _ _ _ => rfl, rfl⟩ h0.x (fun Qm hQ => hQ Mm ⟨fun _ _ _ _ => rfl, rfl⟩ h0)
  · refine kct (by decide) (Nat.le_of_ble_eq_true rfl) (bX6_drift_0 _ Mm _ (m_in _ 1 32 (by decide) (by decide) ⟨fun z => absurd c1 z, fun _ => ⟨rfl, h.mono⟩⟩))
end KDR
