/-! ===== duel ===== -/
theorem dsx {i : Nat} (h : i ≤ 8) : ((1 : Int32) <<< (nI i &&& 31)) >>> (1 &&& 31) = nI (2 ^ i / 2) := by
  have : ∀ i : Fin 9, ((1 : Int32) <<< (nI i.1 &&& 31)) >>> (1 &&& 31) = nI (2 ^ i.1 / 2) := by decide
  exact this ⟨i, by omega⟩
theorem dsm {i : Nat} (h : i ≤ 8) (h0 : ¬ nI i = 0) : (1 : Int32) <<< ((nI i - 1) &&& 31) = nI (2 ^ i / 2) := by
  have : ∀ i : Fin 9, ¬ nI i.1 = 0 → (1 : Int32) <<< ((nI i.1 - 1) &&& 31) = nI (2 ^ i.1 / 2) := by decide
  exact this ⟨i, by omega⟩ h0
theorem dsm0 {i : Nat} (h : i ≤ 8) (h0 : nI i = 0) : (0 : Int32) = nI (2 ^ i / 2) := by
  have : ∀ i : Fin 9, nI i.1 = 0 → (0 : Int32) = nI (2 ^ i.1 / 2) := by decide
  exact this ⟨i, by omega⟩ h0
/-- the road where one buys at x alone, the other at y -/
def drc (R : Rc) (a b x y : Nat) : Rc := rup (rup R 8 a (nI (2 ^ x / 2))) 8 b (nI (2 ^ y / 2))
def xf2 (M M' : kM) : Prop := (∀ c i j, ¬ (i = 2 ∧ (c = 1 ∨ 7 ≤ c ∧ c ≤ 14) ∨ c = 16 ∨ c = 19 ∨ c = 20) → M'.1 c i j = M.1 c i j) ∧ M'.2 = M.2
theorem xf2.same {M M' : kM} (h : xf2 M M') : xsame M M' := ⟨fun c i j hc => h.1 c i j (by omega), h.2⟩
theorem xf2.r0 {M M' : kM} (h : xf2 M M') : rx M' 0 = rx M 0 := rx_cg (fun c j hc => h.1 c 0 j (by omega))
theorem xf2.fr {M M1 M2 : kM} (h : xf2 M M1) (h2 : xfr M1 M2) : xf2 M M2 := ⟨fun c i j hc => (h2.1 c i j (by omega)).trans (h.1 c i j hc), h2.2.trans h.2⟩
theorem xf2.u {M M1 : kM} (h : xf2 M M1) {c j : Nat} {v : Int32} (hc : c = 19 ∨ c = 20) : xf2 M (ku M1 c 0 j v) := ⟨fun a i d hd => (ku_ne (by omega)).trans (h.1 a i d hd), h.2⟩
def mf2 (M M' : kM) : Prop := (∀ c i j, ¬ (c = 1 ∧ i = 0 ∧ 434 ≤ j ∨ c = 6 ∨ c = 7 ∨ c = 8) → M'.1 c i j = M.1 c i j) ∧ M'.2 = M.2
theorem mf2.same {M M' : kM} (h : mf2 M M') : msame M M' := ⟨fun j hj => h.1 1 0 j (by omega), fun c j hc => h.1 c 0 j (by omega), h.2⟩
theorem mf2.r0 {M M' : kM} (h : mf2 M M') : req (rmd M' 0) (rmd M 0) := rmd_cg (fun j _ hj => h.1 1 0 j (by omega))
theorem mf2.fr {M M1 M2 : kM} (h : mf2 M M1) (h2 : mfr M1 M2) : mf2 M M2 := ⟨fun c i j hc => (h2.1 c i j (by omega)).trans (h.1 c i j hc), h2.2.trans h.2⟩
theorem mf2.u {M M1 : kM} (h : mf2 M M1) {c j : Nat} {v : Int32} (hc : c = 7 ∨ c = 8) : mf2 M (ku M1 c 0 j v) := ⟨fun a i d hd => (ku_ne (by omega)).trans (h.1 a i d hd), h.2⟩
def tbl (D : Nat → Nat → Int32) (C : Nat → Int32) (S i j : Nat) : Prop := ∀ x y, x ≤ S → y ≤ S → (x < i ∨ x = i ∧ y < j) → C (9 * x + y) = D x y
theorem tbl.put {D : Nat → Nat → Int32} {C : Nat → Int32} {S i j : Nat} (h : tbl D C S i j) (hS : S ≤ 8) (hj : j ≤ S) : tbl D (fcup C (9 * i + j) (D i j)) S i (j + 1) := by
  intro x y hx hy hc
  by_cases e : x = i ∧ y = j
  · obtain ⟨rfl, rfl⟩ := e
    exact fcup_eq
  · rw [fcup_ne (by omega)]
    exact h x y hx hy (by omega)
theorem tbl.row {D : Nat → Nat → Int32} {C : Nat → Int32} {S i : Nat} (h : tbl D C S i (S + 1)) : tbl D C S (i + 1) 0 := fun x y hx hy hc => h x y hx hy (by omega)
def frs (D E : Nat → Nat → Int32) (i j : Nat) : Nat → Nat → Bool
  | 0, _ => true
  | f + 1, k => if D k j < D i j then false else if E i k < E i j then false else frs D E i j f (k + 1)
def din (P : Nat → Nat → Bool) (i : Nat) : Nat → Nat → Nat → Int32 → Nat × Int32
  | 0, _, k, v => (k, v)
  | f + 1, j, k, v => if P i j = true then din P i f (j + 1) (k + 1) (if k = 0 then nI (100 * i + j) else v) else din P i f (j + 1) k v
def dou (P : Nat → Nat → Bool) (S : Nat) : Nat → Nat → Nat → Int32 → Nat × Int32
  | 0, _, k, v => (k, v)
  | f + 1, i, k, v => dou P S f (i + 1) (din P i (S + 1) 0 k v).1 (din P i (S + 1) 0 k v).2
theorem din_le {P : Nat → Nat → Bool} {i : Nat} : ∀ f j k v, (din P i f j k v).1 ≤ k + f
  | 0, _, _, _ => Nat.le_refl _
  | f + 1, j, k, v => by
    unfold din
    split
    · have := din_le (P := P) (i := i) f (j + 1) (k + 1) (if k = 0 then nI (100 * i + j) else v)
      omega
    · have := din_le (P := P) (i := i) f (j + 1) k v
      omega
theorem din_v {P : Nat → Nat → Bool} {i : Nat} (hi : i ≤ 8) : ∀ f j k v, j + f ≤ 9 → (k = 0 ↔ v = -4) → ((din P i f j k v).1 = 0 ↔ (din P i f j k v).2 = -4)
  | 0, _, _, _, _, h => h
  | f + 1, j, k, v, hj, h => by
    unfold din
    split
    · refine din_v hi f (j + 1) (k + 1) _ (by omega) ⟨fun z => by omega, fun z => ?_⟩
      by_cases hk : k = 0
      · rw [if_pos hk] at z
        exact absurd z (nI_neg4 (by omega))
      · rw [if_neg hk] at z
        exact absurd (h.mpr z) hk
    · exact din_v hi f (j + 1) k v (by omega) h
section KDU
variable {l : Launch} {g g1 g2 : va_G × (Nat → ClassId) × (Nat → Nat → Nat)} {M Mx Mm : kM} {n : Nat} {Q : Int32 → kM → Prop} {Qv : kM → Prop}
theorem x_fill (R : Rc) (a b S r : Nat) (ha : a < r) (hb : b < r) (hR : R = rx M 0) (ok : rok R S r) (h : ∀ M', xf2 M M' → (∀ x y, x ≤ S → y ≤ S → M'.1 19 0 (9 * x + y) = ffin fno r (drc R a b x y) 6 a) → (∀ x y, x ≤ S → y ≤ S → M'.1 20 0 (9 * x + y) = ffin fno r (drc R a b x y) 6 b) → Qv M') : kCT l (rg_x, g) mX5_fillDuel [.inr (.inr (0, 0)), .inl (nI a), .inl (nI b)] M (kqv Qv) := by
  have h8 := ok.2.1
  have h4 := ok.2.2.2.1
  have okd : ∀ x y, rok (drc R a b x y) S r := fun x y => (ok.up (by omega) (by omega)).up (by omega) (by omega)
  refine kct (by decide) (Nat.le_of_ble_eq_true rfl) (bX5_fillDuel_0 _ _ M Qv ?_)
  have key2 : ∀ f i, i + f = S + 1 → ∀ M1, xf2 M M1 → tbl (fun x y => ffin fno r (drc R a b x y) 6 a) (M1.1 19 0) S i 0 → tbl (fun x y => ffin fno r (drc R a b x y) 6 b) (M1.1 20 0) S i 0 → kWP l (rg_x, g) mX5_fillDuel 2 [(0, .inr (.inr (0, 0))), (1, .inl (nI a)), (2, .inl (nI b)), (3, .inl (nI i))] [] M1 (kqv Qv) := by
    intro f
    induction f with
    | zero =>
      intro i hi M1 fx t1 t2
      refine bX5_fillDuel_2 _ _ _ _ _ ?_
      rw [show M1.1 1 0 0 = nI S by rw [fx.1 1 0 0 (by omega), ← ok.1, hR]; rfl]
      exact ⟨fun _ => h M1 fx (fun x y hx hy => t1 x y hx hy (by omega)) (fun x y hx hy => t2 x y hx hy (by omega)), fun z => absurd ((q_lt (by omega) (by omega)).mpr (by omega)) z⟩
    | succ f ih =>
      intro i hi M1 fx t1 t2
      refine bX5_fillDuel_2 _ _ _ _ _ ?_
      rw [show M1.1 1 0 0 = nI S by rw [fx.1 1 0 0 (by omega), ← ok.1, hR]; rfl]
      refine ⟨fun z => ?_, fun _ => ?_⟩
      · rw [q_lt (by omega) (by omega)] at z
        omega
      · have inn : ∀ f j, j + f = S + 1 → ∀ M1, xf2 M M1 → tbl (fun x y => ffin fno r (drc R a b x y) 6 a) (M1.1 19 0) S i j → tbl (fun x y => ffin fno r (drc R a b x y) 6 b) (M1.1 20 0) S i j → kWP l (rg_x, g) mX5_fillDuel 16 [(0, .inr (.inr (0, 0))), (1, .inl (nI a)), (2, .inl (nI b)), (3, .inl (nI i)), (4, .inl (nI j))] [] M1 (kqv Qv) := by
          intro f
          induction f with
          | zero =>
            intro j hj M1 fx t1 t2
            obtain rfl : j = S + 1 := by omega
            refine bX5_fillDuel_16 _ _ _ _ _ _ ?_
            rw [show M1.1 1 0 0 = nI S by rw [fx.1 1 0 0 (by omega), ← ok.1, hR]; rfl]
            refine ⟨fun _ => ?_, fun z => absurd ((q_lt (by omega) (by omega)).mpr (by omega)) z⟩
            rintro z1 rfl
            rw [qa_1]
            exact ih (i + 1) (by omega) M1 fx t1.row t2.row
          | succ f ihj =>
            intro j hj M1 fx t1 t2
            refine bX5_fillDuel_16 _ _ _ _ _ _ ?_
            rw [show M1.1 1 0 0 = nI S by rw [fx.1 1 0 0 (by omega), ← ok.1, hR]; rfl]
            refine ⟨fun z => ?_, fun _ => x_begin S r (by rw [fx.r0, ← hR]; exact ok) (fun M2 b1 b2 b3 => ?_)⟩
            · rw [q_lt (by omega) (by omega)] at z
              omega
            · rw [fx.r0, ← hR] at b2
              rw [dsx (by omega), dsx (by omega), qr_9]
              simp (disch := omega) only [qa_0, qa_1, qa_2, qa_3, qa_4, qa_5, qa_6, qa_7, qa_8, qa_9, qa_10, qa_12, qa_16, qa_20, qa_21, qa_22, qa_23, qa_24, qa_26, qa_27, qa_30, qa_31, qa_32, qa_35, qa_36, qa_40, qa_44, qa_48, qa_49, qa_70, qa_81, qa_90, qa_96, qa_168, qa_217, qa_434, qa_442, qa_446, qa_450, qa_454, qa_455, qa_456, qa_457, qa_458, qa_466, qa_474, qa_478, qb_0, qb_1, qb_2, qb_3, qb_4, qb_5, qb_6, qb_7, qb_8, qb_9, qb_10, qb_12, qb_16, qb_20, qb_21, qb_22, qb_23, qb_24, qb_26, qb_27, qb_30, qb_31, qb_32, qb_35, qb_36, qb_40, qb_44, qb_48, qb_49, qb_70, qb_81, qb_90, qb_96, qb_168, qb_217, qb_434, qb_442, qb_446, qb_450, qb_454, qb_455, qb_456, qb_457, qb_458, qb_466, qb_474, qb_478, qm_0, qm_1, qm_2, qm_3, qm_4, qm_5, qm_6, qm_7, qm_8, qm_9, qm_10, qm_12, qm_16, qm_20, qm_21, qm_22, qm_23, qm_24, qm_26, qm_27, qm_30, qm_31, qm_32, qm_35, qm_36, qm_40, qm_44, qm_48, qm_49, qm_70, qm_81, qm_90, qm_96, qm_168, qm_217, qm_434, qm_442, qm_446, qm_450, qm_454, qm_455, qm_456, qm_457, qm_458, qm_466, qm_474, qm_478, ql_0, ql_1, ql_2, ql_3, ql_4, ql_5, ql_6, ql_7, ql_8, ql_9, ql_10, ql_12, ql_16, ql_20, ql_21, ql_22, ql_23, ql_24, ql_26, ql_27, ql_30, ql_31, ql_32, ql_35, ql_36, ql_40, ql_44, ql_48, ql_49, ql_70, ql_81, ql_90, ql_96, ql_168, ql_217, ql_434, ql_442, ql_446, ql_450, ql_454, ql_455, ql_456, ql_457, ql_458, ql_466, ql_474, ql_478, nI_add, q_cl, q_in, true_and]
              rintro M3 rfl M4 rfl
              have q4 : req (drc R a b i j) (rx (ku (ku M2 14 2 a (nI (2 ^ i / 2))) 14 2 b (nI (2 ^ j / 2))) 2) := by
                rw [rx_u8, rx_u8]
                exact ((b2.up _ _ _).up _ _ _).symm
              have fx4 := (fx.fr b1).fr ((xfr.u (c := 14) (j := a) (v := nI (2 ^ i / 2)) (by omega)).trans (xfr.u (c := 14) (j := b) (v := nI (2 ^ j / 2)) (by omega)))
              have e19 : ∀ c, c = 19 ∨ c = 20 → (ku (ku M2 14 2 a (nI (2 ^ i / 2))) 14 2 b (nI (2 ^ j / 2))).1 c 0 = M1.1 c 0 := fun c hc => funext (fun d => by rw [ku_ne (by omega), ku_ne (by omega), b1.1 c 0 d (by omega)])
              generalize ku (ku M2 14 2 a (nI (2 ^ i / 2))) 14 2 b (nI (2 ^ j / 2)) = M4 at q4 fx4 e19 ⊢
              refine x_rtf a 0 S r ha (q4.ok (okd i j)) (fun M5 d1 d2 d3 => ?_)
              rw [flse_0, ← ffin_cg (okd i j) q4 ha]
              rintro M7 rfl
              have er : rx (ku M5 19 0 (9 * i + j) (ffin (fun _ _ => 0) r (drc R a b i j) 6 a)) 2 = rx M5 2 := rx_o (by omega)
              refine x_rtf b 0 S r hb (by rw [er]; exact d2) (fun M8 f1 f2 f3 => ?_)
              rw [er, flse_0, d3 b hb, flse_0, ← ffin_cg (okd i j) q4 hb]
              rintro M10 rfl z11 rfl
              have fx8 := ((fx4.fr d1).u (c := 19) (j := 9 * i + j) (v := ffin (fun _ _ => 0) r (drc R a b i j) 6 a) (by omega)).fr f1
              refine ihj (j + 1) (by omega) _ (fx8.u (by omega)) ?_ ?_
              · have e : (ku M8 20 0 (9 * i + j) (ffin (fun _ _ => 0) r (drc R a b i j) 6 b)).1 19 0 = fcup (M1.1 19 0) (9 * i + j) (ffin (fun _ _ => 0) r (drc R a b i j) 6 a) := by
                  rw [← e19 19 (by omega)]
                  have : M4.1 19 0 = M5.1 19 0 := funext (fun d => (d1.1 19 0 d (by omega)).symm)
                  rw [this, ← ku_row]
                  exact funext (fun d => by rw [ku_ne (by omega), f1.1 19 0 d (by omega)])
                rw [e]
                exact t1.put h8 (by omega)
              · have e : (ku M8 20 0 (9 * i + j) (ffin (fun _ _ => 0) r (drc R a b i j) 6 b)).1 20 0 = fcup (M1.1 20 0) (9 * i + j) (ffin (fun _ _ => 0) r (drc R a b i j) 6 b) := by
                  rw [ku_row, ← e19 20 (by omega)]
                  have : M8.1 20 0 = M4.1 20 0 := funext (fun d => by rw [f1.1 20 0 d (by omega), ku_ne (by omega), d1.1 20 0 d (by omega)])
                  rw [this]
                rw [e]
                exact t2.put h8 (by omega)
        exact inn (S + 1) 0 (by omega) M1 fx t1 t2
  exact key2 (S + 1) 0 (by omega) M ⟨fun _ _ _ _ => rfl, rfl⟩ (fun x y hx hy hc => by omega) (fun x y hx hy hc => by omega)
theorem m_lay (R : Rc) (a b S r : Nat) (ha : a < r) (hb : b < r) (hR : req (rmd M 0) R) (ok : rok R S r) (h : ∀ M', mf2 M M' → (∀ x y, x ≤ S → y ≤ S → M'.1 7 0 (9 * x + y) = ffin fno r (drc R a b x y) 6 a) → (∀ x y, x ≤ S → y ≤ S → M'.1 8 0 (9 * x + y) = ffin fno r (drc R a b x y) 6 b) → Qv M') : kCT l (rg_m, g) mX6_layDuel [.inr (.inr (0, 0)), .inl (nI a), .inl (nI b)] M (kqv Qv) := by
  have h8 := ok.2.1
  have h4 := ok.2.2.2.1
  have okd : ∀ x y, rok (drc R a b x y) S r := fun x y => (ok.up (by omega) (by omega)).up (by omega) (by omega)
  have eS : M.1 1 0 21 = nI S := (hR 0 0 (by decide) (by first | (show _ < 4; omega) | (show _ < 8; omega) | exact fln_s (by assumption) (by omega) (by omega) (by omega) | exact fln_r (by assumption) (by omega) (by omega))).trans ok.1
  refine kct (by decide) (Nat.le_of_ble_eq_true rfl) (bX6_layDuel_0 _ _ M Qv ?_)
  have key2 : ∀ f i, i + f = S + 1 → ∀ M1, mf2 M M1 → tbl (fun x y => ffin fno r (drc R a b x y) 6 a) (M1.1 7 0) S i 0 → tbl (fun x y => ffin fno r (drc R a b x y) 6 b) (M1.1 8 0) S i 0 → kWP l (rg_m, g) mX6_layDuel 2 [(0, .inr (.inr (0, 0))), (1, .inl (nI a)), (2, .inl (nI b)), (3, .inl (nI i))] [] M1 (kqv Qv) := by
    intro f
    induction f with
    | zero =>
      intro i hi M1 fx t1 t2
      refine bX6_layDuel_2 _ _ _ _ _ ?_
      rw [ql_21, show M1.1 1 0 21 = nI S by rw [fx.1 1 0 21 (by omega), eS]]
      exact ⟨fun _ => h M1 fx (fun x y hx hy => t1 x y hx hy (by omega)) (fun x y hx hy => t2 x y hx hy (by omega)), fun z => absurd ((q_lt (by omega) (by omega)).mpr (by omega)) z⟩
    | succ f ih =>
      intro i hi M1 fx t1 t2
      refine bX6_layDuel_2 _ _ _ _ _ ?_
      rw [ql_21, show M1.1 1 0 21 = nI S by rw [fx.1 1 0 21 (by omega), eS]]
      refine ⟨fun z => ?_, fun _ => ?_⟩
      · rw [q_lt (by omega) (by omega)] at z
        omega
      · have inn : ∀ f j, j + f = S + 1 → ∀ M1, mf2 M M1 → tbl (fun x y => ffin fno r (drc R a b x y) 6 a) (M1.1 7 0) S i j → tbl (fun x y => ffin fno r (drc R a b x y) 6 b) (M1.1 8 0) S i j → kWP l (rg_m, g) mX6_layDuel 16 [(0, .inr (.inr (0, 0))), (1, .inl (nI a)), (2, .inl (nI b)), (3, .inl (nI i)), (4, .inl (nI j))] [] M1 (kqv Qv) := by
          intro f
          induction f with
          | zero =>
            intro j hj M1 fx t1 t2
            obtain rfl : j = S + 1 := by omega
            refine bX6_layDuel_16 _ _ _ _ _ _ ?_
            rw [ql_21, show M1.1 1 0 21 = nI S by rw [fx.1 1 0 21 (by omega), eS]]
            refine ⟨fun _ => ?_, fun z => absurd ((q_lt (by omega) (by omega)).mpr (by omega)) z⟩
            rintro z1 rfl
            rw [qa_1]
            exact ih (i + 1) (by omega) M1 fx t1.row t2.row
          | succ f ihj =>
            intro j hj M1 fx t1 t2
            refine bX6_layDuel_16 _ _ _ _ _ _ ?_
            rw [ql_21, show M1.1 1 0 21 = nI S by rw [fx.1 1 0 21 (by omega), eS]]
            refine ⟨fun z => ?_, fun _ => m_tries (fun M2 b1 b2 => ?_)⟩
            · rw [q_lt (by omega) (by omega)] at z
              omega
            · have b2' : req (rmd M2 434) R := b2.trans (fx.r0.trans hR)
              have k54 : kWP l (rg_m, g) mX6_layDuel 54 [(0, .inr (.inr (0, 0))), (1, .inl (nI a)), (2, .inl (nI b)), (3, .inl (nI i)), (4, .inl (nI j))] [.inl (nI (2 ^ i / 2)), .inl (nI (478 + a)), .inr (.inr (1, 0))] M2 (kqv Qv) := by
                refine bX6_layDuel_54 _ _ _ _ _ _ _ _ ?_
                simp (disch := omega) only [qa_0, qa_1, qa_2, qa_3, qa_4, qa_5, qa_6, qa_7, qa_8, qa_9, qa_10, qa_12, qa_16, qa_20, qa_21, qa_22, qa_23, qa_24, qa_26, qa_27, qa_30, qa_31, qa_32, qa_35, qa_36, qa_40, qa_44, qa_48, qa_49, qa_70, qa_81, qa_90, qa_96, qa_168, qa_217, qa_434, qa_442, qa_446, qa_450, qa_454, qa_455, qa_456, qa_457, qa_458, qa_466, qa_474, qa_478, qb_0, qb_1, qb_2, qb_3, qb_4, qb_5, qb_6, qb_7, qb_8, qb_9, qb_10, qb_12, qb_16, qb_20, qb_21, qb_22, qb_23, qb_24, qb_26, qb_27, qb_30, qb_31, qb_32, qb_35, qb_36, qb_40, qb_44, qb_48, qb_49, qb_70, qb_81, qb_90, qb_96, qb_168, qb_217, qb_434, qb_442, qb_446, qb_450, qb_454, qb_455, qb_456, qb_457, qb_458, qb_466, qb_474, qb_478, qm_0, qm_1, qm_2, qm_3, qm_4, qm_5, qm_6, qm_7, qm_8, qm_9, qm_10, qm_12, qm_16, qm_20, qm_21, qm_22, qm_23, qm_24, qm_26, qm_27, qm_30, qm_31, qm_32, qm_35, qm_36, qm_40, qm_44, qm_48, qm_49, qm_70, qm_81, qm_90, qm_96, qm_168, qm_217, qm_434, qm_442, qm_446, qm_450, qm_454, qm_455, qm_456, qm_457, qm_458, qm_466, qm_474, qm_478, ql_0, ql_1, ql_2, ql_3, ql_4, ql_5, ql_6, ql_7, ql_8, ql_9, ql_10, ql_12, ql_16, ql_20, ql_21, ql_22, ql_23, ql_24, ql_26, ql_27, ql_30, ql_31, ql_32, ql_35, ql_36, ql_40, ql_44, ql_48, ql_49, ql_70, ql_81, ql_90, ql_96, ql_168, ql_217, ql_434, ql_442, ql_446, ql_450, ql_454, ql_455, ql_456, ql_457, ql_458, ql_466, ql_474, ql_478, nI_add, q_cl, q_in, true_and]
                rintro M3 rfl
                have k79 : kWP l (rg_m, g) mX6_layDuel 79 [(0, .inr (.inr (0, 0))), (1, .inl (nI a)), (2, .inl (nI b)), (3, .inl (nI i)), (4, .inl (nI j))] [.inl (nI (2 ^ j / 2)), .inl (nI (478 + b)), .inr (.inr (1, 0))] (ku M2 1 0 (478 + a) (nI (2 ^ i / 2))) (kqv Qv) := by
                  refine bX6_layDuel_79 _ _ _ _ _ _ _ _ ?_
                  simp (disch := omega) only [qa_0, qa_1, qa_2, qa_3, qa_4, qa_5, qa_6, qa_7, qa_8, qa_9, qa_10, qa_12, qa_16, qa_20, qa_21, qa_22, qa_23, qa_24, qa_26, qa_27, qa_30, qa_31, qa_32, qa_35, qa_36, qa_40, qa_44, qa_48, qa_49, qa_70, qa_81, qa_90, qa_96, qa_168, qa_217, qa_434, qa_442, qa_446, qa_450, qa_454, qa_455, qa_456, qa_457, qa_458, qa_466, qa_474, qa_478, qb_0, qb_1, qb_2, qb_3, qb_4, qb_5, qb_6, qb_7, qb_8, qb_9, qb_10, qb_12, qb_16, qb_20, qb_21, qb_22, qb_23, qb_24, qb_26, qb_27, qb_30, qb_31, qb_32, qb_35, qb_36, qb_40, qb_44, qb_48, qb_49, qb_70, qb_81, qb_90, qb_96, qb_168, qb_217, qb_434, qb_442, qb_446, qb_450, qb_454, qb_455, qb_456, qb_457, qb_458, qb_466, qb_474, qb_478, qm_0, qm_1, qm_2, qm_3, qm_4, qm_5, qm_6, qm_7, qm_8, qm_9, qm_10, qm_12, qm_16, qm_20, qm_21, qm_22, qm_23, qm_24, qm_26, qm_27, qm_30, qm_31, qm_32, qm_35, qm_36, qm_40, qm_44, qm_48, qm_49, qm_70, qm_81, qm_90, qm_96, qm_168, qm_217, qm_434, qm_442, qm_446, qm_450, qm_454, qm_455, qm_456, qm_457, qm_458, qm_466, qm_474, qm_478, ql_0, ql_1, ql_2, ql_3, ql_4, ql_5, ql_6, ql_7, ql_8, ql_9, ql_10, ql_12, ql_16, ql_20, ql_21, ql_22, ql_23, ql_24, ql_26, ql_27, ql_30, ql_31, ql_32, ql_35, ql_36, ql_40, ql_44, ql_48, ql_49, ql_70, ql_81, ql_90, ql_96, ql_168, ql_217, ql_434, ql_442, ql_446, ql_450, ql_454, ql_455, ql_456, ql_457, ql_458, ql_466, ql_474, ql_478, nI_add, q_cl, q_in, true_and]
                  rintro M4 rfl
                  have q4 : req (drc R a b i j) (rmd (ku (ku M2 1 0 (478 + a) (nI (2 ^ i / 2))) 1 0 (478 + b) (nI (2 ^ j / 2))) 434) := by
                    refine req.symm ((rmd_u (h := 434) (f := 8) (j := b) (by simp [wof]; omega) (by decide) (by first | (show _ < 4; omega) | (show _ < 8; omega) | exact fln_s (by assumption) (by omega) (by omega) (by omega) | exact fln_r (by assumption) (by omega) (by omega))).trans ?_)
                    exact req.up ((rmd_u (h := 434) (f := 8) (j := a) (by simp [wof]; omega) (by decide) (by first | (show _ < 4; omega) | (show _ < 8; omega) | exact fln_s (by assumption) (by omega) (by omega) (by omega) | exact fln_r (by assumption) (by omega) (by omega))).trans (b2'.up _ _ _)) _ _ _
                  have fx4 := (fx.fr b1).fr ((mfr.u (j := 478 + a) (v := nI (2 ^ i / 2)) (by omega)).trans (mfr.u (j := 478 + b) (v := nI (2 ^ j / 2)) (by omega)))
                  have e19 : ∀ c, c = 7 ∨ c = 8 → (ku (ku M2 1 0 (478 + a) (nI (2 ^ i / 2))) 1 0 (478 + b) (nI (2 ^ j / 2))).1 c 0 = M1.1 c 0 := fun c hc => funext (fun d => by rw [ku_ne (by omega), ku_ne (by omega), b1.1 c 0 d (by omega)])
                  generalize ku (ku M2 1 0 (478 + a) (nI (2 ^ i / 2))) 1 0 (478 + b) (nI (2 ^ j / 2)) = M4 at q4 fx4 e19 ⊢
                  refine m_rid _ _ S r (q4.ok (okd i j)) (fun M5 d1 d2 => ?_)
                  have g6 : ∀ x, x < r → M5.1 1 0 (446 + x) = ffin fno r (drc R a b i j) 6 x := by
                    intro x hx
                    have := d2 x hx
                    rw [flse_0, ← ffin_cg (okd i j) q4 hx] at this
                    exact this
                  rintro M6 rfl M7 rfl z5 rfl
                  rw [ku_ne (d := 446 + b) (by omega), g6 a ha, g6 b hb]
                  refine ihj (j + 1) (by omega) _ (((fx4.fr d1).u (by omega)).u (by omega)) ?_ ?_
                  · have e : (ku (ku M5 7 0 (9 * i + j) (ffin fno r (drc R a b i j) 6 a)) 8 0 (9 * i + j) (ffin fno r (drc R a b i j) 6 b)).1 7 0 = fcup (M1.1 7 0) (9 * i + j) (ffin fno r (drc R a b i j) 6 a) := by
                      rw [← e19 7 (by omega)]
                      have : M4.1 7 0 = M5.1 7 0 := funext (fun d => (d1.1 7 0 d (by omega)).symm)
                      rw [this, ← ku_row]
                      exact funext (fun d => by rw [ku_ne (by omega)])
                    rw [e]
                    exact t1.put h8 (by omega)
                  · have e : (ku (ku M5 7 0 (9 * i + j) (ffin fno r (drc R a b i j) 6 a)) 8 0 (9 * i + j) (ffin fno r (drc R a b i j) 6 b)).1 8 0 = fcup (M1.1 8 0) (9 * i + j) (ffin fno r (drc R a b i j) 6 b) := by
                      rw [ku_row, ← e19 8 (by omega)]
                      have : (ku M5 7 0 (9 * i + j) (ffin fno r (drc R a b i j) 6 a)).1 8 0 = M4.1 8 0 := funext (fun d => by rw [ku_ne (by omega), d1.1 8 0 d (by omega)])
                      rw [this]
                    rw [e]
                    exact t2.put h8 (by omega)
                refine ⟨fun z => ?_, fun z => ?_⟩
                · rw [dsm (by omega) z]
                  exact k79
                · rw [← dsm0 (by omega) z] at k79
                  exact k79
              simp (disch := omega) only [qa_0, qa_1, qa_2, qa_3, qa_4, qa_5, qa_6, qa_7, qa_8, qa_9, qa_10, qa_12, qa_16, qa_20, qa_21, qa_22, qa_23, qa_24, qa_26, qa_27, qa_30, qa_31, qa_32, qa_35, qa_36, qa_40, qa_44, qa_48, qa_49, qa_70, qa_81, qa_90, qa_96, qa_168, qa_217, qa_434, qa_442, qa_446, qa_450, qa_454, qa_455, qa_456, qa_457, qa_458, qa_466, qa_474, qa_478, qb_0, qb_1, qb_2, qb_3, qb_4, qb_5, qb_6, qb_7, qb_8, qb_9, qb_10, qb_12, qb_16, qb_20, qb_21, qb_22, qb_23, qb_24, qb_26, qb_27, qb_30, qb_31, qb_32, qb_35, qb_36, qb_40, qb_44, qb_48, qb_49, qb_70, qb_81, qb_90, qb_96, qb_168, qb_217, qb_434, qb_442, qb_446, qb_450, qb_454, qb_455, qb_456, qb_457, qb_458, qb_466, qb_474, qb_478, qm_0, qm_1, qm_2, qm_3, qm_4, qm_5, qm_6, qm_7, qm_8, qm_9, qm_10, qm_12, qm_16, qm_20, qm_21, qm_22, qm_23, qm_24, qm_26, qm_27, qm_30, qm_31, qm_32, qm_35, qm_36, qm_40, qm_44, qm_48, qm_49, qm_70, qm_81, qm_90, qm_96, qm_168, qm_217, qm_434, qm_442, qm_446, qm_450, qm_454, qm_455, qm_456, qm_457, qm_458, qm_466, qm_474, qm_478, ql_0, ql_1, ql_2, ql_3, ql_4, ql_5, ql_6, ql_7, ql_8, ql_9, ql_10, ql_12, ql_16, ql_20, ql_21, ql_22, ql_23, ql_24, ql_26, ql_27, ql_30, ql_31, ql_32, ql_35, ql_36, ql_40, ql_44, ql_48, ql_49, ql_70, ql_81, ql_90, ql_96, ql_168, ql_217, ql_434, ql_442, ql_446, ql_450, ql_454, ql_455, ql_456, ql_457, ql_458, ql_466, ql_474, ql_478, nI_add, q_cl, q_in, true_and]
              refine ⟨fun z => ?_, fun z => ?_⟩
              · rw [dsm (by omega) z]
                exact k54
              · rw [← dsm0 (by omega) z] at k54
                exact k54
        exact inn (S + 1) 0 (by omega) M1 fx t1 t2
  exact key2 (S + 1) 0 (by omega) M ⟨fun _ _ _ _ => rfl, rfl⟩ (fun x y hx hy hc => by omega) (fun x y hx hy hc => by omega)
theorem x_isRest (D E : Nat → Nat → Int32) (S i j : Nat) (h8 : S ≤ 8) (hi : i ≤ S) (hj : j ≤ S) (eS : M.1 1 0 0 = nI S) (hD : ∀ x y, x ≤ S → y ≤ S → M.1 19 0 (9 * x + y) = D x y) (hE : ∀ x y, x ≤ S → y ≤ S → M.1 20 0 (9 * x + y) = E x y) (h : Q (if frs D E i j (S + 1) 0 = true then 1 else 0) M) : kCT l (rg_x, g) mX5_isRest [.inr (.inr (0, 0)), .inl (nI i), .inl (nI j)] M (kqi Q) := by
  refine kct (by decide) (Nat.le_of_ble_eq_true rfl) (bX5_isRest_0 _ _ M Q ?_)
  rintro z1 rfl
  rw [qr_9]
  simp (disch := omega) only [qa_0, qa_1, qa_2, qa_3, qa_4, qa_5, qa_6, qa_7, qa_8, qa_9, qa_10, qa_12, qa_16, qa_20, qa_21, qa_22, qa_23, qa_24, qa_26, qa_27, qa_30, qa_31, qa_32, qa_35, qa_36, qa_40, qa_44, qa_48, qa_49, qa_70, qa_81, qa_90, qa_96, qa_168, qa_217, qa_434, qa_442, qa_446, qa_450, qa_454, qa_455, qa_456, qa_457, qa_458, qa_466, qa_474, qa_478, qb_0, qb_1, qb_2, qb_3, qb_4, qb_5, qb_6, qb_7, qb_8, qb_9, qb_10, qb_12, qb_16, qb_20, qb_21, qb_22, qb_23, qb_24, qb_26, qb_27, qb_30, qb_31, qb_32, qb_35, qb_36, qb_40, qb_44, qb_48, qb_49, qb_70, qb_81, qb_90, qb_96, qb_168, qb_217, qb_434, qb_442, qb_446, qb_450, qb_454, qb_455, qb_456, qb_457, qb_458, qb_466, qb_474, qb_478, qm_0, qm_1, qm_2, qm_3, qm_4, qm_5, qm_6, qm_7, qm_8, qm_9, qm_10, qm_12, qm_16, qm_20, qm_21, qm_22, qm_23, qm_24, qm_26, qm_27, qm_30, qm_31, qm_32, qm_35, qm_36, qm_40, qm_44, qm_48, qm_49, qm_70, qm_81, qm_90, qm_96, qm_168, qm_217, qm_434, qm_442, qm_446, qm_450, qm_454, qm_455, qm_456, qm_457, qm_458, qm_466, qm_474, qm_478, ql_0, ql_1, ql_2, ql_3, ql_4, ql_5, ql_6, ql_7, ql_8, ql_9, ql_10, ql_12, ql_16, ql_20, ql_21, ql_22, ql_23, ql_24, ql_26, ql_27, ql_30, ql_31, ql_32, ql_35, ql_36, ql_40, ql_44, ql_48, ql_49, ql_70, ql_81, ql_90, ql_96, ql_168, ql_217, ql_434, ql_442, ql_446, ql_450, ql_454, ql_455, ql_456, ql_457, ql_458, ql_466, ql_474, ql_478, nI_add, q_cl, q_in, true_and]
  have key : ∀ f k, k + f = S + 1 → Q (if frs D E i j f k = true then 1 else 0) M → kWP l (rg_x, g) mX5_isRest 10 [(0, .inr (.inr (0, 0))), (1, .inl (nI i)), (2, .inl (nI j)), (3, .inl (nI (9 * i + j))), (4, .inl (nI k))] [] M (kqi Q) := by
    intro f
    induction f with
    | zero =>
      intro k hk hQ
      refine bX5_isRest_10 _ _ _ _ _ _ ?_
      rw [eS]
      exact ⟨fun _ => hQ, fun z => absurd ((q_lt (by omega) (by omega)).mpr (by omega)) z⟩
    | succ f ih =>
      intro k hk hQ
      refine bX5_isRest_10 _ _ _ _ _ _ ?_
      rw [eS, qr_9, qr_9]
      simp (disch := omega) only [qa_0, qa_1, qa_2, qa_3, qa_4, qa_5, qa_6, qa_7, qa_8, qa_9, qa_10, qa_12, qa_16, qa_20, qa_21, qa_22, qa_23, qa_24, qa_26, qa_27, qa_30, qa_31, qa_32, qa_35, qa_36, qa_40, qa_44, qa_48, qa_49, qa_70, qa_81, qa_90, qa_96, qa_168, qa_217, qa_434, qa_442, qa_446, qa_450, qa_454, qa_455, qa_456, qa_457, qa_458, qa_466, qa_474, qa_478, qb_0, qb_1, qb_2, qb_3, qb_4, qb_5, qb_6, qb_7, qb_8, qb_9, qb_10, qb_12, qb_16, qb_20, qb_21, qb_22, qb_23, qb_24, qb_26, qb_27, qb_30, qb_31, qb_32, qb_35, qb_36, qb_40, qb_44, qb_48, qb_49, qb_70, qb_81, qb_90, qb_96, qb_168, qb_217, qb_434, qb_442, qb_446, qb_450, qb_454, qb_455, qb_456, qb_457, qb_458, qb_466, qb_474, qb_478, qm_0, qm_1, qm_2, qm_3, qm_4, qm_5, qm_6, qm_7, qm_8, qm_9, qm_10, qm_12, qm_16, qm_20, qm_21, qm_22, qm_23, qm_24, qm_26, qm_27, qm_30, qm_31, qm_32, qm_35, qm_36, qm_40, qm_44, qm_48, qm_49, qm_70, qm_81, qm_90, qm_96, qm_168, qm_217, qm_434, qm_442, qm_446, qm_450, qm_454, qm_455, qm_456, qm_457, qm_458, qm_466, qm_474, qm_478, ql_0, ql_1, ql_2, ql_3, ql_4, ql_5, ql_6, ql_7, ql_8, ql_9, ql_10, ql_12, ql_16, ql_20, ql_21, ql_22, ql_23, ql_24, ql_26, ql_27, ql_30, ql_31, ql_32, ql_35, ql_36, ql_40, ql_44, ql_48, ql_49, ql_70, ql_81, ql_90, ql_96, ql_168, ql_217, ql_434, ql_442, ql_446, ql_450, ql_454, ql_455, ql_456, ql_457, ql_458, ql_466, ql_474, ql_478, nI_add, q_cl, q_in, true_and]
      rw [hD k j (by omega) hj, hD i j hi hj, hE i k hi (by omega), hE i j hi hj]
      unfold frs at hQ
      refine ⟨fun z => ?_, fun _ => ⟨fun z => ?_, fun z => ⟨fun z2 => ?_, fun z2 => ?_⟩⟩⟩
      · rw [q_lt (by omega) (by omega)] at z
        omega
      · rw [if_pos z] at hQ
        exact bX5_isRest_64 _ _ hQ
      · rintro z1 rfl
        rw [if_neg z, if_neg (Int32.not_lt.mpr z2)] at hQ
        exact ih (k + 1) (by omega) hQ
      · rw [if_neg z, if_pos (Int32.not_le.mp z2)] at hQ
        exact bX5_isRest_64 _ _ hQ
  exact key (S + 1) 0 (by omega) h
theorem m_rests (D E : Nat → Nat → Int32) (S i j : Nat) (h8 : S ≤ 8) (hi : i ≤ S) (hj : j ≤ S) (eS : M.1 1 0 21 = nI S) (hD : ∀ x y, x ≤ S → y ≤ S → M.1 7 0 (9 * x + y) = D x y) (hE : ∀ x y, x ≤ S → y ≤ S → M.1 8 0 (9 * x + y) = E x y) (h : Q (if frs D E i j (S + 1) 0 = true then 1 else 0) M) : kCT l (rg_m, g) mX6_rests [.inr (.inr (0, 0)), .inl (nI i), .inl (nI j)] M (kqi Q) := by
  refine kct (by decide) (Nat.le_of_ble_eq_true rfl) (bX6_rests_0 _ _ M Q ?_)
  have no : ∀ f k, k + f = S + 1 → Q 0 M → kWP l (rg_m, g) mX6_rests 5 [(0, .inr (.inr (0, 0))), (1, .inl (nI i)), (2, .inl (nI j)), (3, .inl 0), (4, .inl (nI k))] [] M (kqi Q) := by
    intro f
    induction f with
    | zero =>
      intro k hk hQ
      refine bX6_rests_5 _ _ _ _ _ _ ?_
      rw [ql_21, eS]
      exact ⟨fun _ => ⟨Or.inl rfl, hQ⟩, fun z => absurd ((q_lt (by omega) (by omega)).mpr (by omega)) z⟩
    | succ f ih =>
      intro k hk hQ
      refine bX6_rests_5 _ _ _ _ _ _ ?_
      rw [ql_21, eS]
      refine ⟨fun z => ?_, fun _ => ⟨fun _ => bX6_rests_77 _ _ _ _ _ (bX6_rests_78 _ _ _ _ _ _ ?_), fun z => absurd rfl z⟩⟩
      · rw [q_lt (by omega) (by omega)] at z
        omega
      · rintro z1 rfl
        rw [qa_1]
        exact ih (k + 1) (by omega) hQ
  have key : ∀ f k, k + f = S + 1 → Q (if frs D E i j f k = true then 1 else 0) M → kWP l (rg_m, g) mX6_rests 5 [(0, .inr (.inr (0, 0))), (1, .inl (nI i)), (2, .inl (nI j)), (3, .inl 1), (4, .inl (nI k))] [] M (kqi Q) := by
    intro f
    induction f with
    | zero =>
      intro k hk hQ
      refine bX6_rests_5 _ _ _ _ _ _ ?_
      rw [ql_21, eS]
      exact ⟨fun _ => ⟨Or.inr rfl, hQ⟩, fun z => absurd ((q_lt (by omega) (by omega)).mpr (by omega)) z⟩
    | succ f ih =>
      intro k hk hQ
      refine bX6_rests_5 _ _ _ _ _ _ ?_
      rw [ql_21, eS]
      simp (disch := omega) only [qa_0, qa_1, qa_2, qa_3, qa_4, qa_5, qa_6, qa_7, qa_8, qa_9, qa_10, qa_12, qa_16, qa_20, qa_21, qa_22, qa_23, qa_24, qa_26, qa_27, qa_30, qa_31, qa_32, qa_35, qa_36, qa_40, qa_44, qa_48, qa_49, qa_70, qa_81, qa_90, qa_96, qa_168, qa_217, qa_434, qa_442, qa_446, qa_450, qa_454, qa_455, qa_456, qa_457, qa_458, qa_466, qa_474, qa_478, qb_0, qb_1, qb_2, qb_3, qb_4, qb_5, qb_6, qb_7, qb_8, qb_9, qb_10, qb_12, qb_16, qb_20, qb_21, qb_22, qb_23, qb_24, qb_26, qb_27, qb_30, qb_31, qb_32, qb_35, qb_36, qb_40, qb_44, qb_48, qb_49, qb_70, qb_81, qb_90, qb_96, qb_168, qb_217, qb_434, qb_442, qb_446, qb_450, qb_454, qb_455, qb_456, qb_457, qb_458, qb_466, qb_474, qb_478, qm_0, qm_1, qm_2, qm_3, qm_4, qm_5, qm_6, qm_7, qm_8, qm_9, qm_10, qm_12, qm_16, qm_20, qm_21, qm_22, qm_23, qm_24, qm_26, qm_27, qm_30, qm_31, qm_32, qm_35, qm_36, qm_40, qm_44, qm_48, qm_49, qm_70, qm_81, qm_90, qm_96, qm_168, qm_217, qm_434, qm_442, qm_446, qm_450, qm_454, qm_455, qm_456, qm_457, qm_458, qm_466, qm_474, qm_478, ql_0, ql_1, ql_2, ql_3, ql_4, ql_5, ql_6, ql_7, ql_8, ql_9, ql_10, ql_12, ql_16, ql_20, ql_21, ql_22, ql_23, ql_24, ql_26, ql_27, ql_30, ql_31, ql_32, ql_35, ql_36, ql_40, ql_44, ql_48, ql_49, ql_70, ql_81, ql_90, ql_96, ql_168, ql_217, ql_434, ql_442, ql_446, ql_450, ql_454, ql_455, ql_456, ql_457, ql_458, ql_466, ql_474, ql_478, nI_add, q_cl, q_in, true_and]
      rw [hD k j (by omega) hj, hD i j hi hj, hE i k hi (by omega), hE i j hi hj]
      unfold frs at hQ
      refine ⟨fun z => ?_, fun _ => ⟨fun z => absurd z (by decide), fun _ => ⟨fun z => bX6_rests_77 _ _ _ _ _ (bX6_rests_78 _ _ _ _ _ _ ?_), fun z => ⟨fun z2 => bX6_rests_77 _ _ _ _ _ (bX6_rests_78 _ _ _ _ _ _ ?_), fun z2 => bX6_rests_78 _ _ _ _ _ _ ?_⟩⟩⟩⟩
      · rw [q_lt (by omega) (by omega)] at z
        omega
      · rintro z1 rfl
        rw [if_pos z] at hQ
        rw [qa_1]
        exact no f (k + 1) (by omega) hQ
      · rintro z1 rfl
        rw [if_neg z, if_pos z2] at hQ
        rw [qa_1]
        exact no f (k + 1) (by omega) hQ
      · rintro z1 rfl
        rw [if_neg z, if_neg z2] at hQ
        rw [qa_1]
        exact ih (k + 1) (by omega) hQ
  exact key (S + 1) 0 (by omega) h
theorem pair_duel (h : Inv n Mx Mm) (a1 a2 a3 : Int32) : kPair l g1 g2 mX5_duel mX6_duel [.inl a1, .inl a2, .inl a3] Mx Mm (Inv (n + 1)) := by
  have e1 := h.riders
  refine kct (by decide) (Nat.le_of_ble_eq_true rfl) (bX5_duel_0 a1 a2 a3 Mx _ (x_areTwo _ _ ⟨fun c => bX5_duel_16 _ _ ?_, fun c => x_isZeroOrOne _ ⟨fun c2 => ?_, fun c2 => bX5_duel_16 _ _ ?_⟩⟩))
  · rw [e1] at c
    exact kct (by decide) (Nat.le_of_ble_eq_true rfl) (bX6_duel_0 _ _ _ Mm _ (m_areTwo _ _ ⟨fun _ => bX6_duel_19 _ _ ⟨rfl, h.mono⟩, fun z => absurd c z⟩))
  · have c' := c
    obtain ⟨S, r, a, b, ok, ha, hb, hab, hr, rfl, rfl⟩ := h.areT c
    obtain ⟨S', r', q, -⟩ := h.1
    rw [e1] at c'
    have h8 := ok.2.1
    refine x_fill (rx Mx 0) a b S r ha hb rfl ok (fun M1 fx hD hE => ?_)
    have eS : M1.1 1 0 0 = nI S := (fx.1 1 0 0 (by omega)).trans ok.1
    generalize hDD : (fun x y => ffin fno r (drc (rx Mx 0) a b x y) 6 a) = D
    generalize hEE : (fun x y => ffin fno r (drc (rx Mx 0) a b x y) 6 b) = E
    have hD' : ∀ x y, x ≤ S → y ≤ S → M1.1 19 0 (9 * x + y) = D x y := by
      intro x y hx hy
      rw [← hDD]
      exact hD x y hx hy
    have hE' : ∀ x y, x ≤ S → y ≤ S → M1.1 20 0 (9 * x + y) = E x y := by
      intro x y hx hy
      rw [← hEE]
      exact hE x y hx hy
    let P : Nat → Nat → Bool := fun i j => frs D E i j (S + 1) 0
    have kx : ∀ f i, i + f = S + 1 → ∀ k v, k ≤ 9 * i → ∀ Q : Int32 → kM → Prop, Q (if a3 = 0 then nI (dou P S f i k v).1 else (dou P S f i k v).2) M1 → kWP l (rg_x, g1) mX5_duel 34 [(0, .inr (.inr (0, 0))), (3, .inl a3), (4, .inl (nI k)), (5, .inl v), (6, .inl (nI i))] [] M1 (kqi Q) := by
      intro f
      induction f with
      | zero =>
        intro i hi k v hk Q hQ
        refine bX5_duel_34 _ _ _ _ _ _ ?_
        rw [eS]
        refine ⟨fun _ => ⟨fun z => bX5_duel_118 _ _ _ ?_, fun z => bX5_duel_118 _ _ _ ?_⟩, fun z => absurd ((q_lt (by omega) (by omega)).mpr (by omega)) z⟩
        · rw [if_neg z] at hQ
          exact hQ
        · rw [if_pos z] at hQ
          exact hQ
      | succ f ih =>
        intro i hi k v hk Q hQ
        refine bX5_duel_34 _ _ _ _ _ _ ?_
        rw [eS]
        refine ⟨fun z => ?_, fun _ => ?_⟩
        · rw [q_lt (by omega) (by omega)] at z
          omega
        · have inn : ∀ f2 j, j + f2 = S + 1 → ∀ k2 v2, k2 ≤ 9 * i + j → Q (if a3 = 0 then nI (dou P S f (i + 1) (din P i f2 j k2 v2).1 (din P i f2 j k2 v2).2).1 else (dou P S f (i + 1) (din P i f2 j k2 v2).1 (din P i f2 j k2 v2).2).2) M1 → kWP l (rg_x, g1) mX5_duel 49 [(0, .inr (.inr (0, 0))), (3, .inl a3), (4, .inl (nI k2)), (5, .inl v2), (6, .inl (nI i)), (7, .inl (nI j))] [] M1 (kqi Q) := by
            intro f2
            induction f2 with
            | zero =>
              intro j hj k2 v2 hk2 hQ2
              refine bX5_duel_49 _ _ _ _ _ _ _ ?_
              rw [eS]
              refine ⟨fun _ => ?_, fun z => absurd ((q_lt (by omega) (by omega)).mpr (by omega)) z⟩
              rintro z1 rfl
              rw [qa_1]
              exact ih (i + 1) (by omega) k2 v2 (by omega) Q hQ2
            | succ f2 ih2 =>
              intro j hj k2 v2 hk2 hQ2
              refine bX5_duel_49 _ _ _ _ _ _ _ ?_
              rw [eS]
              refine ⟨fun z => ?_, fun _ => x_isRest D E S i j h8 (by omega) (by omega) eS hD' hE' ?_⟩
              · rw [q_lt (by omega) (by omega)] at z
                omega
              · unfold din at hQ2
                by_cases hp : P i j = true
                · rw [if_pos hp] at hQ2
                  rw [if_pos (show frs D E i j (S + 1) 0 = true from hp)]
                  refine ⟨fun z => absurd z (by decide), fun _ => ⟨fun z => bX5_duel_90 _ _ _ _ _ _ _ ?_, fun z => bX5_duel_90 _ _ _ _ _ _ _ ?_⟩⟩
                  · rw [if_neg (show ¬ k2 = 0 from fun e => z (by rw [e]; rfl))] at hQ2
                    rintro z1 rfl
                    refine bX5_duel_95 _ _ _ _ _ _ _ ?_
                    rintro z2 rfl
                    rw [qa_1, qa_1]
                    exact ih2 (j + 1) (by omega) (k2 + 1) v2 (by omega) hQ2
                  · rw [if_pos ((q_eq (b := 0) (by omega) (by omega)).mp z)] at hQ2
                    rintro z1 rfl
                    refine bX5_duel_95 _ _ _ _ _ _ _ ?_
                    rintro z2 rfl
                    rw [qa_1, qa_1, show (100 : Int32) * nI i = nI (100 * i) from pk_mul 100 i, nI_add]
                    exact ih2 (j + 1) (by omega) (k2 + 1) _ (by omega) hQ2
                · rw [if_neg hp] at hQ2
                  rw [if_neg (show ¬ frs D E i j (S + 1) 0 = true from hp)]
                  refine ⟨fun _ => bX5_duel_95 _ _ _ _ _ _ _ ?_, fun z => absurd rfl z⟩
                  rintro z2 rfl
                  rw [qa_1]
                  exact ih2 (j + 1) (by omega) k2 v2 (by omega) hQ2
          exact inn (S + 1) 0 (by omega) k v (by omega) hQ
    refine kx (S + 1) 0 (by omega) 0 (-4) (by omega) _ ?_
    refine kct (by decide) (Nat.le_of_ble_eq_true rfl) (bX6_duel_0 _ _ _ Mm _ (m_areTwo _ _ ⟨fun z => absurd z c', fun _ => m_in _ 0 1 (by decide) (by decide) ⟨fun _ => ?_, fun z => absurd z c2⟩⟩))
    refine m_lay (rx Mx 0) a b S r ha hb q.symm ok (fun M2 fm hD2 hE2 => ?_)
    have eSm : M2.1 1 0 21 = nI S := by
      rw [fm.1 1 0 21 (by omega), ← h.stages]
      exact ok.1
    have hD2' : ∀ x y, x ≤ S → y ≤ S → M2.1 7 0 (9 * x + y) = D x y := by
      intro x y hx hy
      rw [← hDD]
      exact hD2 x y hx hy
    have hE2' : ∀ x y, x ≤ S → y ≤ S → M2.1 8 0 (9 * x + y) = E x y := by
      intro x y hx hy
      rw [← hEE]
      exact hE2 x y hx hy
    have km : ∀ f i, i + f = S + 1 → ∀ k v, k ≤ 9 * i → (k = 0 ↔ v = -4) → ∀ Q : Int32 → kM → Prop, Q (if a3 = 0 then nI (dou P S f i k v).1 else (dou P S f i k v).2) M2 → kWP l (rg_m, g2) mX6_duel 37 [(0, .inr (.inr (0, 0))), (3, .inl a3), (4, .inl (nI k)), (5, .inl v), (6, .inl (nI i))] [] M2 (kqi Q) := by
      intro f
      induction f with
      | zero =>
        intro i hi k v hk hkv Q hQ
        refine bX6_duel_37 _ _ _ _ _ _ ?_
        rw [ql_21, eSm]
        refine ⟨fun _ => ⟨fun z => bX6_duel_139 _ _ _ ?_, fun z => bX6_duel_139 _ _ _ ?_⟩, fun z => absurd ((q_lt (by omega) (by omega)).mpr (by omega)) z⟩
        · rw [if_neg z] at hQ
          exact hQ
        · rw [if_pos z] at hQ
          exact hQ
      | succ f ih =>
        intro i hi k v hk hkv Q hQ
        refine bX6_duel_37 _ _ _ _ _ _ ?_
        rw [ql_21, eSm]
        refine ⟨fun z => ?_, fun _ => ?_⟩
        · rw [q_lt (by omega) (by omega)] at z
          omega
        · have inn : ∀ f2 j, j + f2 = S + 1 → ∀ k2 v2, k2 ≤ 9 * i + j → (k2 = 0 ↔ v2 = -4) → Q (if a3 = 0 then nI (dou P S f (i + 1) (din P i f2 j k2 v2).1 (din P i f2 j k2 v2).2).1 else (dou P S f (i + 1) (din P i f2 j k2 v2).1 (din P i f2 j k2 v2).2).2) M2 → kWP l (rg_m, g2) mX6_duel 52 [(0, .inr (.inr (0, 0))), (3, .inl a3), (4, .inl (nI k2)), (5, .inl v2), (6, .inl (nI i)), (7, .inl (nI j))] [] M2 (kqi Q) := by
            intro f2
            induction f2 with
            | zero =>
              intro j hj k2 v2 hk2 hkv2 hQ2
              refine bX6_duel_52 _ _ _ _ _ _ _ ?_
              rw [ql_21, eSm]
              refine ⟨fun _ => ?_, fun z => absurd ((q_lt (by omega) (by omega)).mpr (by omega)) z⟩
              rintro z1 rfl
              rw [qa_1]
              exact ih (i + 1) (by omega) k2 v2 (by omega) hkv2 Q hQ2
            | succ f2 ih2 =>
              intro j hj k2 v2 hk2 hkv2 hQ2
              refine bX6_duel_52 _ _ _ _ _ _ _ ?_
              rw [ql_21, eSm]
              refine ⟨fun z => ?_, fun _ => m_rests D E S i j h8 (by omega) (by omega) eSm hD2' hE2' ?_⟩
              · rw [q_lt (by omega) (by omega)] at z
                omega
              · unfold din at hQ2
                by_cases hp : P i j = true
                · rw [if_pos hp] at hQ2
                  rw [if_pos (show frs D E i j (S + 1) 0 = true from hp)]
                  refine ⟨fun z => absurd z (by decide), fun _ => ⟨fun z => bX6_duel_97 _ _ _ _ _ _ _ _ (bX6_duel_99 _ _ _ _ _ _ _ _ ⟨fun z => absurd z (by decide), fun _ => bX6_duel_113 _ _ _ _ _ _ _ _ ?_⟩), fun z => bX6_duel_99 _ _ _ _ _ _ _ _ ⟨fun z => absurd z (by decide), fun _ => bX6_duel_113 _ _ _ _ _ _ _ _ ?_⟩⟩⟩
                  · rw [if_neg (show ¬ k2 = 0 from fun e => z (hkv2.mp e))] at hQ2
                    rintro z1 rfl z2 rfl
                    rw [qa_1, qa_1]
                    exact ih2 (j + 1) (by omega) (k2 + 1) v2 (by omega) ⟨fun e => by omega, fun e => absurd e z⟩ hQ2
                  · rw [if_pos (hkv2.mpr z)] at hQ2
                    rintro z1 rfl z2 rfl
                    rw [qa_1, qa_1, show (100 : Int32) * nI i = nI (100 * i) from pk_mul 100 i, nI_add]
                    exact ih2 (j + 1) (by omega) (k2 + 1) _ (by omega) ⟨fun e => by omega, fun e => absurd e (nI_neg4 (by omega))⟩ hQ2
                · rw [if_neg hp] at hQ2
                  rw [if_neg (show ¬ frs D E i j (S + 1) 0 = true from hp)]
                  refine ⟨fun _ => bX6_duel_97 _ _ _ _ _ _ _ _ (bX6_duel_99 _ _ _ _ _ _ _ _ ⟨fun _ => bX6_duel_113 _ _ _ _ _ _ _ _ ?_, fun z => absurd rfl z⟩), fun z => absurd rfl z⟩
                  rintro z1 rfl z2 rfl
                  rw [Int32.add_zero, qa_1]
                  exact ih2 (j + 1) (by omega) k2 v2 (by omega) hkv2 hQ2
          exact inn (S + 1) 0 (by omega) k v (by omega) hkv hQ
    exact km (S + 1) 0 (by omega) 0 (-4) (by omega) ⟨fun _ => rfl, fun _ => rfl⟩ _ ⟨rfl, h.next fx.same fm.same⟩
  · rw [e1] at c
    exact kct (by decide) (Nat.le_of_ble_eq_true rfl) (bX6_duel_0 _ _ _ Mm _ (m_areTwo _ _ ⟨fun z => absurd z c, fun _ => m_in _ 0 1 (by decide) (by decide) ⟨fun z => absurd c2 z, fun _ => bX6_duel_19 _ _ ⟨rfl, h.mono⟩⟩⟩))
end KDU
