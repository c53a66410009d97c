/-! ===== ride, drift ===== -/
theorem tks_bd {k b : Int32} {m : Nat} (h1 : 1 ≤ m) (h9 : m ≤ 9) : ∃ t, t ≤ 145 ∧ tks k (nI m) b = nI t := by
  have key : ∀ mi, 1 ≤ mi → mi ≤ 10 → ∀ x : Int32, x = nI mi → ∃ t, t ≤ 145 ∧ (if k = 1 then nI m * x + 5 else if k = 2 then nI m * x + nI m * x / 2 else if k = 3 then (if b = 0 then nI m * x + nI m * x / 2 else nI m * x) else if k = 4 then nI m * x - x + 5 else nI m * x) = nI t := by
    intro mi m1 m10 x hx
    subst hx
    have hp : m * mi ≤ 90 := by
      have := Nat.mul_le_mul h9 m10
      omega
    have hq : mi ≤ m * mi := Nat.le_mul_of_pos_left mi h1
    have e1 : nI m * nI mi = nI (m * mi) := pk_mul m mi
    have e2 : nI (m * mi) / 2 = nI (m * mi / 2) := pk_div (a := m * mi) (d := 2) (by omega) (by decide) (by decide)
    have e3 : nI (m * mi) - nI mi = nI (m * mi - mi) := pk_sub hq
    rw [e1, e2, e3, qa_5, qa_5, nI_add]
    split
    · exact ⟨_, by omega, rfl⟩
    · split
      · exact ⟨_, by omega, rfl⟩
      · split
        · split
          · exact ⟨_, by omega, rfl⟩
          · exact ⟨_, by omega, rfl⟩
        · split
          · exact ⟨_, by omega, rfl⟩
          · exact ⟨_, by omega, rfl⟩
  unfold tks
  by_cases hb : b = 0
  · have := key 10 (by decide) (by decide) 10 rfl
    rw [if_pos hb]
    exact this
  · have := key 6 (by decide) (by decide) 6 rfl
    rw [if_neg hb]
    exact this
theorem rride_ne {R : Rc} {r f j : Nat} {more : Int32} (h3 : f ≠ 3) (h5 : f ≠ 5 ∨ j ≠ r) (h6 : f ≠ 6 ∨ j ≠ r) (h7 : f ≠ 7 ∨ j ≠ r) : rride R r more f j = R f j := by
  unfold rride
  rw [rup_ne (by omega), rup_ne (by omega), rup_ne (by omega), rup_ne (by omega)]
theorem rride_5 {R : Rc} {r : Nat} {more : Int32} : rride R r more 5 r = R 5 r + 1 := rup_eq
theorem rride_6 {R : Rc} {r : Nat} {more : Int32} : rride R r more 6 r = R 6 r + (rwt R r + rtk R r) + more := by
  unfold rride
  rw [rup_ne (by omega), rup_eq]
theorem rride_eq {R T : Rc} (h : req R T) {S n r s : Nat} {more : Int32} (ok : rok R S n) (hr : r < n) (hs : s < S) (e5 : R 5 r = nI s) : req (rride R r more) (rride T r more) := by
  have h8 := ok.2.1
  have hr4 := ok.2.2.2.1
  have h5 : R 5 r = T 5 r := h 5 r (by decide) (by first | (show _ < 4; omega) | (show _ < 8; omega) | exact fln_s (by assumption) (by omega) (by omega) (by omega) | exact fln_r (by assumption) (by omega) (by omega))
  have h6 : R 6 r = T 6 r := h 6 r (by decide) (by first | (show _ < 4; omega) | (show _ < 8; omega) | exact fln_s (by assumption) (by omega) (by omega) (by omega) | exact fln_r (by assumption) (by omega) (by omega))
  have h7 : R 7 r = T 7 r := h 7 r (by decide) (by first | (show _ < 4; omega) | (show _ < 8; omega) | exact fln_s (by assumption) (by omega) (by omega) (by omega) | exact fln_r (by assumption) (by omega) (by omega))
  have h8 : R 8 r = T 8 r := h 8 r (by decide) (by first | (show _ < 4; omega) | (show _ < 8; omega) | exact fln_s (by assumption) (by omega) (by omega) (by omega) | exact fln_r (by assumption) (by omega) (by omega))
  have h4 : R 4 r = T 4 r := h 4 r (by decide) (by first | (show _ < 4; omega) | (show _ < 8; omega) | exact fln_s (by assumption) (by omega) (by omega) (by omega) | exact fln_r (by assumption) (by omega) (by omega))
  have hc : (T 5 r).toNatClampNeg = s := by rw [← h5, e5, q_cl (by omega)]
  have h3 : R 3 s = T 3 s := h 3 s (by decide) (by first | (show _ < 4; omega) | (show _ < 8; omega) | exact fln_s (by assumption) (by omega) (by omega) (by omega) | exact fln_r (by assumption) (by omega) (by omega))
  have h1 : R 1 s = T 1 s := h 1 s (by decide) (by first | (show _ < 4; omega) | (show _ < 8; omega) | exact fln_s (by assumption) (by omega) (by omega) (by omega) | exact fln_r (by assumption) (by omega) (by omega))
  have h2 : R 2 s = T 2 s := h 2 s (by decide) (by first | (show _ < 4; omega) | (show _ < 8; omega) | exact fln_s (by assumption) (by omega) (by omega) (by omega) | exact fln_r (by assumption) (by omega) (by omega))
  have h02 : R 0 2 = T 0 2 := h 0 2 (by decide) (by first | (show _ < 4; omega) | (show _ < 8; omega) | exact fln_s (by assumption) (by omega) (by omega) (by omega) | exact fln_r (by assumption) (by omega) (by omega))
  have eb : rbest R r = rbest T r := by
    unfold rbest
    rw [h5, h8, hc, h3, h7, h02]
  have ec : rc1 R r = rc1 T r := by
    unfold rc1
    rw [eb, h7, h02]
  have et : rtp R r = rtp T r := by
    unfold rtp
    rw [ec, h5, hc, h2]
  have ew : rwt R r = rwt T r := by
    unfold rwt
    rw [ec, h5, hc, h2]
  have ek : rtk R r = rtk T r := by
    unfold rtk
    rw [eb, h5, hc, h4, h1]
  unfold rride
  rw [eb, ec, et, ew, ek, h5, h6, hc, h3]
  exact req.up (req.up (req.up (req.up h _ _ _) _ _ _) _ _ _) _ _ _
/-- a rider's minute behind a stage -/
theorem rride_min {R : Rc} {S n N r s t x : Nat} (ok : rok R S n) (bd : rbd R S n N) (hr : r < n) (e5 : R 5 r = nI s) (hs : s < S) (e6 : R 6 r = nI t) (hx : x ≤ 30) : ∃ t', t ≤ t' ∧ t' ≤ t + 185 ∧ rride R r (nI x) 6 r = nI t' := by
  have h8 := ok.2.1
  obtain ⟨m, m1, m9, em⟩ := bd.1 s hs
  have hc : (R 5 r).toNatClampNeg = s := by rw [e5, q_cl (by omega)]
  obtain ⟨k, k1, ek⟩ := tks_bd (k := R 4 r) (b := rbest R r) m1 m9
  have etk : rtk R r = nI k := by
    unfold rtk
    rw [hc, em]
    exact ek
  have ew : ∃ w, w ≤ 10 ∧ rwt R r = nI w := by
    unfold rwt
    split
    · exact ⟨10, by omega, rfl⟩
    · exact ⟨0, by omega, rfl⟩
  obtain ⟨w, w1, ew⟩ := ew
  refine ⟨t + (w + k) + x, by omega, by omega, ?_⟩
  rw [rride_6, e6, ew, etk, nI_add, nI_add, nI_add]
def rsx (S r : Nat) (Mx : kM) : Prop := rok (rx Mx 0) S r ∧ ∃ u x, u ≤ 8 ∧ x < 8 ∧ Mx.1 2 0 0 = nI u ∧ Mx.1 2 0 1 = nI x
def rss (S r : Nat) (Mx Mm : kM) (N c : Nat) : Prop := req (rx Mx 0) (rmd Mm 0) ∧ rok (rx Mx 0) S r ∧ rbd (rx Mx 0) S r N ∧ und Mx 0 Mm 0 S r N ∧ ∀ a, a < r → ∃ t, t ≤ c ∧ rx Mx 0 6 a = nI t
theorem rok_uniq {R : Rc} {S r S' r' : Nat} (h : rok R S r) (h' : rok R S' r') : S' = S ∧ r' = r := by
  have h8 := h.2.1
  have h8' := h'.2.1
  have h4 := h.2.2.2.1
  have h4' := h'.2.2.2.1
  exact ⟨(q_eq (by omega) (by omega)).mp (h'.1.symm.trans h.1), (q_eq (by omega) (by omega)).mp (h'.2.2.1.symm.trans h.2.2.1)⟩
theorem rride_ok {R : Rc} {S n r s : Nat} {more : Int32} (ok : rok R S n) (e5 : R 5 r = nI s) (hs : s < S) : rok (rride R r more) S n := by
  obtain ⟨b1, b2, b3, b4, b5⟩ := ok
  refine ⟨by rw [rride_ne (by omega) (by omega) (by omega) (by omega)]; exact b1, b2, by rw [rride_ne (by omega) (by omega) (by omega) (by omega)]; exact b3, b4, fun a ha => ?_⟩
  by_cases e : a = r
  · subst e
    rw [rride_5, e5, qa_1]
    exact ⟨s + 1, by omega, rfl⟩
  · rw [rride_ne (by omega) (by omega) (by omega) (by omega)]
    exact b5 a ha
/-- both sides have ridden a stage -/
theorem rss.ride {S r N c a s x : Nat} {Mx Mx' Mm Mm' : kM} (h : rss S r Mx Mm N c) (ha : a < r) (e5 : rx Mx 0 5 a = nI s) (hs : s < S) (hx : x ≤ 30) (hc : c + 185 ≤ B N) (ex : rx Mx' 0 = rride (rx Mx 0) a (nI x)) (em : req (rmd Mm' 0) (rride (rmd Mm 0) a (nI x))) (fx : ∀ c j, (c = 2 ∨ c = 15) → Mx'.1 c 0 j = Mx.1 c 0 j) (fm : ∀ j, 48 ≤ j → j < 217 → Mm'.1 1 0 j = Mm.1 1 0 j) : rss S r Mx' Mm' N (c + 185) := by
  obtain ⟨q, ok, bd, ud, mb⟩ := h
  have h8 := ok.2.1
  have h4 := ok.2.2.2.1
  obtain ⟨t, t1, t2⟩ := mb a ha
  obtain ⟨t', u1, u2, u3⟩ := rride_min ok bd ha e5 hs t2 hx
  refine ⟨?_, ?_, ⟨fun j hj => ?_, fun b hb => ?_⟩, ?_, fun b hb => ?_⟩
  · rw [ex]
    exact (rride_eq q ok ha hs e5).trans em.symm
  · rw [ex]
    exact rride_ok ok e5 hs
  · rw [ex, rride_ne (by omega) (by omega) (by omega) (by omega)]
    exact bd.1 j hj
  · rw [ex]
    by_cases e : b = a
    · subst e
      exact ⟨t', by omega, u3⟩
    · rw [rride_ne (by omega) (by omega) (by omega) (by omega)]
      exact bd.2 b hb
  · exact ud.cg (fun c j hc => fx c j (by omega)) (fun j b1 b2 => fm j (by omega) (by omega))
  · rw [ex]
    by_cases e : b = a
    · subst e
      exact ⟨t', by omega, u3⟩
    · rw [rride_ne (by omega) (by omega) (by omega) (by omega)]
      obtain ⟨t, t1, t2⟩ := mb b hb
      exact ⟨t, by omega, t2⟩
theorem rss.torel {S r N c : Nat} {Mx Mm : kM} (h : rss S r Mx Mm N c) : rel Mx 0 Mm 0 N := ⟨S, r, h.1, h.2.1, h.2.2.1, h.2.2.2.1⟩
theorem rss.of {S r N c : Nat} {Mx Mx1 Mm Mm1 : kM} (h : rss S r Mx Mm N c) (e : rx Mx1 0 = rx Mx 0) (hr : rel Mx1 0 Mm1 0 N) : rss S r Mx1 Mm1 N c := by
  obtain ⟨S', r', q, ok, bd, ud⟩ := hr
  have ok2 := ok
  rw [e] at ok2
  obtain ⟨rfl, rfl⟩ := rok_uniq h.2.1 ok2
  exact ⟨q, ok, bd, ud, by rw [e]; exact h.2.2.2.2⟩
/-- all but now is as it was -/
def frx (Mx Mx' : kM) : Prop := (∀ c i j, (c = 0 ∨ c = 4 ∨ c = 5 ∨ c = 17 ∨ i = 1 ∧ (c = 1 ∨ c = 2 ∨ 7 ≤ c ∧ c ≤ 15)) → Mx'.1 c i j = Mx.1 c i j) ∧ Mx'.2 = Mx.2
def frm (Mm Mm' : kM) : Prop := (∀ c i j, ¬ (c = 1 ∧ i = 0 ∧ j < 217) → Mm'.1 c i j = Mm.1 c i j) ∧ Mm'.2 = Mm.2
theorem Inv.fin {n : Nat} {Mx Mx' Mm Mm' : kM} (h : Inv n Mx Mm) (hx : frx Mx Mx') (hm : frm Mm Mm') (hr : rel Mx' 0 Mm' 0 (n + 1)) : Inv (n + 1) Mx' Mm' := h.now hx.1 hx.2 (fun j b1 b2 => hm.1 1 0 j (by omega)) (fun c j hc => hm.1 c 0 j (by omega)) hm.2 hr
theorem Inv.toRs {n : Nat} {Mx Mm : kM} (h : Inv n Mx Mm) : ∃ S r, rss S r Mx Mm (n + 1) (B n) := by
  obtain ⟨S, r, q, ok, bd, ud⟩ := h.1
  exact ⟨S, r, q, ok, bd.mono, ud.mono, bd.2⟩
theorem rss.x {S r N c : Nat} {Mx Mm : kM} (h : rss S r Mx Mm N c) : rsx S r Mx := by
  obtain ⟨q, ok, bd, ⟨u, x, a1, a2, a3, a4, -⟩, mb⟩ := h
  exact ⟨ok, u, x, a1, a2, a3, a4⟩
/-- who rides next has a stage ahead -/
theorem rwho_s {R : Rc} {S r a : Nat} (ok : rok R S r) (e : rwho R r = nI a) (ha : a < r) (hb : R 5 a < R 0 0) : ∃ s, s < S ∧ R 5 a = nI s := by
  obtain ⟨b, b1, b2⟩ := ok.2.2.2.2 a ha
  have h8 := ok.2.1
  rw [b2, ok.1, q_lt (by omega) (by omega)] at hb
  exact ⟨b, hb, b2⟩
section KRP
variable {l : Launch} {g1 g2 : va_G × (Nat → ClassId) × (Nat → Nat → Nat)} {Mx Mm : kM} {n : Nat}
theorem pair_ride (h : Inv n Mx Mm) (a1 : Int32) : kPair l g1 g2 mX5_ride mX6_ride [.inl a1] Mx Mm (Inv (n + 1)) := by
  obtain ⟨S, r, h0⟩ := h.toRs
  refine kct (by decide) (Nat.le_of_ble_eq_true rfl) (bX5_ride_0 a1 Mx _ (x_within _ _ _ ⟨fun c1 => ?_, fun c1 => ?_⟩))
  · have c1' := c1
    obtain ⟨m, m1, m2, rfl⟩ := wth_rg (lo := 1) (hi := 32) (by decide) (by decide) c1
    refine x_whoRides 0 S r h0.2.1 ?_
    have ew0 : rwho (rx Mx 0) r = rwho (rmd Mm 0) r := rwho_eq h0.1 h0.2.1
    have okm : rok (rmd Mm 0) S r := h0.1.ok h0.2.1
    rcases rwho_cases (rx Mx 0) r with hw | ⟨a, ha, hw, hb⟩
    · rw [hw]
      refine ⟨fun z => absurd z (by decide), fun _ => ?_⟩
      refine kct (by decide) (Nat.le_of_ble_eq_true rfl) (bX6_ride_0 _ Mm _ (m_in _ 1 32 (by decide) (by decide) ⟨fun _ => m_nextIn 0 S r (by omega) okm ?_, fun z => absurd z c1'⟩))
      rw [← ew0, hw]
      exact ⟨fun z => absurd rfl z, fun _ => ⟨rfl, h.mono⟩⟩
    · rw [hw]
      refine ⟨fun _ => ?_, fun z => absurd (nI_pos' (by have := h0.2.1.2.2.2.1; omega)) z⟩
      have key : ∀ f i, i + f = m → ∀ Mx', frx Mx Mx' → rsx S r Mx' → (∀ Qm : Int32 → kM → Prop, (∀ Mm', frm Mm Mm' → rss S r Mx' Mm' (n + 1) (B n + 185 * i) → kWP l (rg_m, g2) mX6_ride 29 [(0, .inr (.inr (0, 0))), (1, .inl (nI m)), (2, .inl (nI i))] [] Mm' (kqi Qm)) → kWP l (rg_m, g2) mX6_ride 29 [(0, .inr (.inr (0, 0))), (1, .inl (nI m)), (2, .inl 0)] [] Mm (kqi Qm)) → kWP l (rg_x, g1) mX5_ride 29 [(0, .inr (.inr (0, 0))), (1, .inl (nI m)), (2, .inl (nI i)), (3, .inl (nI i))] [] Mx' (kqi (fun r Mx1 => kCT l (rg_m, g2) mX6_ride [.inr (.inr (0, 0)), .inl (nI m)] Mm (kqi (fun r2 Mm1 => r = r2 ∧ Inv (n + 1) Mx1 Mm1)))) := by
        have fin : ∀ i Mx', i ≤ m → frx Mx Mx' → (∀ Qm : Int32 → kM → Prop, (∀ Mm', frm Mm Mm' → rss S r Mx' Mm' (n + 1) (B n + 185 * i) → kWP l (rg_m, g2) mX6_ride 29 [(0, .inr (.inr (0, 0))), (1, .inl (nI m)), (2, .inl (nI i))] [] Mm' (kqi Qm)) → kWP l (rg_m, g2) mX6_ride 29 [(0, .inr (.inr (0, 0))), (1, .inl (nI m)), (2, .inl 0)] [] Mm (kqi Qm)) → (i = m ∨ rwho (rx Mx' 0) r = -4) → kCT l (rg_m, g2) mX6_ride [.inr (.inr (0, 0)), .inl (nI m)] Mm (kqi (fun r2 Mm1 => nI i = r2 ∧ Inv (n + 1) Mx' Mm1)) := by
          intro i Mx' him fx adv he
          refine kct (by decide) (Nat.le_of_ble_eq_true rfl) (bX6_ride_0 _ Mm _ (m_in _ 1 32 (by decide) (by decide) ⟨fun _ => m_nextIn 0 S r (by omega) okm ?_, fun z => absurd z c1'⟩))
          rw [← ew0, hw]
          refine ⟨fun _ => ?_, fun z => absurd z (nI_neg4 (by have := h0.2.1.2.2.2.1; omega))⟩
          refine adv _ (fun Mm' fm hrs => ?_)
          have hfin : nI i = nI i ∧ Inv (n + 1) Mx' Mm' := ⟨rfl, h.fin fx fm hrs.torel⟩
          refine bX6_ride_29 _ _ _ _ ⟨fun _ => bX6_ride_64 _ _ _ hfin, fun z => ?_⟩
          refine m_nextIn 0 S r (by omega) (hrs.1.ok hrs.2.1) ?_
          rw [← rwho_eq hrs.1 hrs.2.1]
          rcases he with he | he
          · subst he
            exact absurd (nI_le (Nat.le_refl _) (by omega)) z
          · rw [he]
            exact ⟨fun _ => bX6_ride_64 _ _ _ hfin, fun z => absurd rfl z⟩
        intro f
        induction f with
        | zero =>
          intro i hi Mx' fx xs adv
          obtain rfl : i = m := by omega
          exact bX5_ride_29 _ _ _ _ _ ⟨fun _ => bX5_ride_81 _ _ _ (fin i Mx' (Nat.le_refl _) fx adv (Or.inl rfl)), fun z => absurd (nI_le (Nat.le_refl i) (by omega)) z⟩
        | succ f ih =>
          intro i hi Mx' fx xs adv
          refine bX5_ride_29 _ _ _ _ _ ⟨fun z => ?_, fun _ => ?_⟩
          · rw [q_le (by omega) (by omega)] at z
            omega
          · refine x_whoRides 0 S r xs.1 ?_
            rcases rwho_cases (rx Mx' 0) r with hw' | ⟨a, ha, hw', hb⟩
            · rw [hw']
              exact ⟨fun z => absurd z (by decide), fun _ => bX5_ride_81 _ _ _ (fin i Mx' (by omega) fx adv (Or.inr hw'))⟩
            · rw [hw']
              obtain ⟨ok, u, x, u8, x8, hu, hx⟩ := xs
              obtain ⟨s, hs, e5⟩ := rwho_s ok hw' ha hb
              have h8 := ok.2.1
              have h4 := ok.2.2.2.1
              refine ⟨fun _ => ?_, fun z => absurd (nI_pos' (by omega)) z⟩
              refine x_mark x u x8 u8 hx hu (fun Mx1 a1 a2 a3 a4 a5 a6 => ?_)
              have erx : rx Mx1 0 = rx Mx' 0 := rx_cg (fun c j hc => a1 c 0 j (by omega))
              refine x_rideStage 0 a s 0 (by omega) (by omega) (by rw [erx]; exact e5) (fun Mx2 b1 b2 b3 => ?_)
              rw [erx] at b3
              rintro z5 rfl z6 rfl
              rw [qa_1]
              refine ih (i + 1) (by omega) Mx2 ⟨fun c i j hc => ?_, ?_⟩ ⟨?_, (if u = 8 then 8 else u + 1), (x + 1) % 8, ?_, Nat.mod_lt _ (by decide), ?_, ?_⟩ (fun Qm hQ => ?_)
              · rw [b1 c i j (by omega), a1 c i j (by omega)]
                exact fx.1 c i j hc
              · rw [b2, a2]
                exact fx.2
              · rw [b3]
                exact rride_ok ok e5 hs
              · split <;> omega
              · rw [b1 2 0 0 (by omega)]
                exact a5
              · rw [b1 2 0 1 (by omega)]
                exact a6
              · refine adv Qm (fun Mm' fm hrs => ?_)
                refine bX6_ride_29 _ _ _ _ ⟨fun z => ?_, fun _ => ?_⟩
                · rw [q_le (by omega) (by omega)] at z
                  omega
                · refine m_nextIn 0 S r (by omega) (hrs.1.ok hrs.2.1) ?_
                  rw [← rwho_eq hrs.1 hrs.2.1, hw']
                  refine ⟨fun z => absurd z (nI_neg4 (by omega)), fun _ => ?_⟩
                  obtain ⟨v, y, v1, v2, v3, v4, v5, v6⟩ := hrs.2.2.2.1
                  have ev : v = u := (q_eq (by omega) (by omega)).mp (v3.symm.trans hu)
                  subst ev
                  refine m_minds v v1 v5 (fun Mm1 d1 d2 d3 d4 => ?_)
                  have hrel := rel.mark hrs.torel hu hx u8 x8 a1 a3 a4 a5 a6 d1 d3 d4
                  have hrs1 := hrs.of erx hrel
                  refine m_nextIn 0 S r (by omega) (hrs1.1.ok hrs1.2.1) ?_
                  rw [← rwho_eq hrs1.1 hrs1.2.1, erx, hw']
                  have e5m : rmd Mm1 0 5 a = nI s := by
                    rw [← hrs1.1 5 a (by decide) (fln_r hrs1.2.1 (by omega) ha), erx]
                    exact e5
                  refine m_rides 0 a s (by omega) (by omega) (by omega) e5m (fun Mm2 f1 f2 f3 => ?_)
                  rintro z7 rfl
                  rw [qa_1]
                  refine hQ Mm2 ⟨fun c i j hc => ?_, ?_⟩ ?_
                  · rw [f1 c i j (by omega), d1 c i j (by omega)]
                    exact fm.1 c i j hc
                  · rw [f2, d2]
                    exact fm.2
                  · have := hrs1.ride (x := 0) (Mx' := Mx2) (Mm' := Mm2) ha (by rw [erx]; exact e5) hs (by omega) (by unfold B; omega) (by rw [erx]; exact b3) f3 (fun c j hc => b1 c 0 j (by omega)) (fun j z1 z2 => f1 1 0 j (by omega))
                    rw [show B n + 185 * (i + 1) = B n + 185 * i + 185 by omega]
                    exact this
      exact key m 0 (by omega) Mx ⟨fun _ _ _ _ => rfl, rfl⟩ h0.x (fun Qm hQ => hQ Mm ⟨fun _ _ _ _ => rfl, rfl⟩ h0)
  · refine kct (by decide) (Nat.le_of_ble_eq_true rfl) (bX6_ride_0 _ Mm _ (m_in _ 1 32 (by decide) (by decide) ⟨fun z => absurd c1 z, fun _ => ⟨rfl, h.mono⟩⟩))
end KRP
