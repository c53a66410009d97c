/-! ===== numbers, kinds, sets on the tape ===== -/
def amr (t : Nat) (L : Nat → Nat) : Nat → Nat → Nat → Nat × Nat
  | 0, v, p => (v, p)
  | f + 1, v, p => if 48 ≤ tlc t L p ∧ tlc t L p ≤ 57 then amr t L f (10 * v + (tlc t L p - 48)) (p + 1) else (v, p)
theorem amr_le {t : Nat} {L : Nat → Nat} : ∀ f v p, p ≤ t → p ≤ (amr t L f v p).2 ∧ (amr t L f v p).2 ≤ t
  | 0, v, p, h => ⟨Nat.le_refl _, h⟩
  | f + 1, v, p, h => by
    unfold amr
    split
    · rename_i c
      have hp := tlc_pos (t := t) (L := L) (p := p) (by omega)
      have := amr_le (t := t) (L := L) f (10 * v + (tlc t L p - 48)) (p + 1) (by omega)
      exact ⟨by omega, this.2⟩
    · exact ⟨Nat.le_refl _, h⟩
theorem amr_bd {t : Nat} {L : Nat → Nat} : ∀ f v p c, v < c → (amr t L f v p).1 < c * 10 ^ f
  | 0, v, p, c, h => by
    show v < c * 1
    omega
  | f + 1, v, p, c, h => by
    unfold amr
    rw [Nat.pow_succ, Nat.mul_comm (10 ^ f) 10, ← Nat.mul_assoc]
    split
    · exact amr_bd f _ _ (c * 10) (by omega)
    · have := Nat.pow_pos (n := f) (show 0 < 10 by decide)
      have h2 := Nat.mul_le_mul (show v + 1 ≤ c * 10 by omega) this
      show v < c * 10 * 10 ^ f
      omega
def anf (q mx : Nat) (x : Nat × Nat) : TR (Nat × Nat) := if x.1 ≤ mx then .inr x else .inl q
def anb (t : Nat) (L : Nat → Nat) (mx p : Nat) : TR (Nat × Nat) := if 48 ≤ tlc t L (tsk t L p) ∧ tlc t L (tsk t L p) ≤ 57 then anf (tsk t L p) mx (amr t L 2 (tlc t L (tsk t L p) - 48) (tsk t L p + 1)) else .inl (tsk t L p)
theorem anb_ok {t : Nat} {L : Nat → Nat} {mx p v p' : Nat} (hp : p ≤ t) (h : anb t L mx p = .inr (v, p')) : v ≤ mx ∧ p' ≤ t := by
  unfold anb at h
  split at h
  · rename_i c
    have hq := tlc_pos (t := t) (L := L) (p := tsk t L p) (by omega)
    unfold anf at h
    split at h
    · rename_i c2
      have e := Sum.inr.inj h
      have := amr_le (t := t) (L := L) 2 (tlc t L (tsk t L p) - 48) (tsk t L p + 1) (by omega)
      rw [e] at this c2
      exact ⟨c2, this.2⟩
    · exact absurd h (by intro z; cases z)
  · exact absurd h (by intro z; cases z)
def akd (c : Nat) : Option Nat := if c = 112 then some 0 else if c = 115 then some 1 else if c = 111 then some 2 else if c = 98 then some 3 else if c = 114 then some 4 else none
theorem akd_le {c k : Nat} (h : akd c = some k) : k ≤ 4 := by
  unfold akd at h
  repeat' split at h
  all_goals first | (have := Option.some.inj h; omega) | (exact absurd h (by intro z; cases z))
def abl (t : Nat) (L : Nat → Nat) (S : Nat) : Nat → Nat → Nat → Nat → Nat × Nat
  | 0, m, _, p => (m, p)
  | f + 1, m, lo, p => match adg t L lo (S - 1) p with
    | .inl q => (m, q)
    | .inr (v, p') => abl t L S f (m ||| 2 ^ v) (v + 1) p'
theorem or_bit {m v : Nat} (hm : m < 256) (hv : v < 8) : nI m ||| ((1 : Int32) <<< (nI v &&& 31)) = nI (m ||| 2 ^ v) ∧ m ||| 2 ^ v < 256 ∧ m ||| 2 ^ v ≠ 0 := by
  have : ∀ m : Fin 256, ∀ v : Fin 8, nI m.1 ||| ((1 : Int32) <<< (nI v.1 &&& 31)) = nI (m.1 ||| 2 ^ v.1) ∧ m.1 ||| 2 ^ v.1 < 256 ∧ m.1 ||| 2 ^ v.1 ≠ 0 := by decide +kernel
  exact this ⟨m, hm⟩ ⟨v, hv⟩
theorem abl_all {t : Nat} {L : Nat → Nat} {S : Nat} (hS : S ≤ 8) : ∀ f m lo p, p ≤ t → m < 256 → (abl t L S f m lo p).1 < 256 ∧ (abl t L S f m lo p).2 ≤ t ∧ (m ≠ 0 → (abl t L S f m lo p).1 ≠ 0)
  | 0, m, lo, p, hp, hm => ⟨hm, hp, fun h => h⟩
  | f + 1, m, lo, p, hp, hm => by
    unfold abl
    rcases e : adg t L lo (S - 1) p with q | ⟨v, p'⟩
    · have := adg_no e
      exact ⟨hm, by rw [this.1]; exact tsk_le hp, fun h => h⟩
    · have h1 := adg_ok e
      have h2 := or_bit hm (show v < 8 by omega)
      have := abl_all (t := t) (L := L) hS f (m ||| 2 ^ v) (v + 1) p' (by omega) h2.2.1
      exact ⟨this.1, this.2.1, fun _ => this.2.2 h2.2.2⟩
section KTN
variable {l : Launch} {g : va_G × (Nat → ClassId) × (Nat → Nat → Nat)} {M : kM} {t : Nat} {L : Nat → Nat} {Q : Int32 → kM → Prop}
theorem x_readNumber (mx p : Nat) (hmx : mx ≤ 999) (hp : p ≤ t) (gd : tgd t L) (tx : ttx t L M) (ep : M.1 4 0 3 = nI p) (h1 : ∀ M' v p', anb t L mx p = .inr (v, p') → pfx M M' → M'.1 4 0 3 = nI p' → Q (nI v) M') (h0 : ∀ M' f, anb t L mx p = .inl f → pfx M M' → M'.1 4 0 3 = nI f → Q (-1) M') : kCT l (rg_x, g) mX4_readNumber [.inr (.inr (4, 0)), .inl (nI mx)] M (kqi Q) := by
  have ht := gd.1
  have hsk := tsk_le (L := L) hp
  refine kct (by decide) (Nat.le_of_ble_eq_true rfl) (bX4_readNumber_0 _ M Q (x_readDigit p 0 9 hp (by omega) (by omega) gd tx ep (fun M1 v p' e a1 a2 => ?_) (fun M1 f e a1 a2 => ?_)))
  · have hk := adg_ok e
    have e0 : anb t L mx p = anf (tsk t L p) mx (amr t L 2 v (tsk t L p + 1)) := by
      unfold anb
      rw [if_pos ⟨by omega, by omega⟩, show tlc t L (tsk t L p) - 48 = v by omega]
    rw [a2, show nI p' - 1 = nI (tsk t L p) by rw [hk.2.2.2.1]; exact nI_pred _]
    rintro z3 rfl
    have key : ∀ f k v p1, k + f = 3 → 1 ≤ k → v < 10 ^ k → p1 ≤ t → ∀ M1, pfx M M1 → M1.1 4 0 3 = nI p1 → anb t L mx p = anf (tsk t L p) mx (amr t L f v p1) → kWP l (rg_x, g) mX4_readNumber 18 [(0, .inr (.inr (4, 0))), (1, .inl (nI mx)), (2, .inl (nI v)), (3, .inl (nI (tsk t L p))), (4, .inl (nI k))] [] M1 (kqi Q) := by
      intro f
      have fin : ∀ k v p1, k ≤ 3 → v < 10 ^ k → ∀ M1, pfx M M1 → M1.1 4 0 3 = nI p1 → anb t L mx p = anf (tsk t L p) mx (v, p1) → kWP l (rg_x, g) mX4_readNumber 92 [(0, .inr (.inr (4, 0))), (1, .inl (nI mx)), (2, .inl (nI v)), (3, .inl (nI (tsk t L p)))] [] M1 (kqi Q) := by
        intro k v p1 hk hv M1 fx e1 ea
        have hv3 : v < 1000 := by
          have : 10 ^ k ≤ 10 ^ 3 := Nat.pow_le_pow_right (by decide) hk
          omega
        unfold anf at ea
        refine bX4_readNumber_92 _ _ _ _ _ ⟨fun z => ?_, fun z => ?_⟩
        · rw [q_le (by omega) (by omega)] at z
          rw [if_pos (show (v, p1).1 ≤ mx from z)] at ea
          exact h1 M1 _ _ ea fx e1
        · rw [q_le (by omega) (by omega)] at z
          rw [if_neg (show ¬ (v, p1).1 ≤ mx from z)] at ea
          rintro M2 rfl
          exact h0 _ _ ea (fx.trans pfx.u) ku_eq
      induction f with
      | zero =>
        intro k v p1 hk hk1 hv hp1 M1 fx e1 ea
        refine bX4_readNumber_18 _ _ _ _ _ _ ⟨fun _ => fin k v p1 (by omega) hv M1 fx e1 ea, fun _ => ⟨fun _ => fin k v p1 (by omega) hv M1 fx e1 ea, fun z => absurd ((q_le (a := 3) (by omega) (by omega)).mpr (by omega)) z⟩⟩
      | succ f ih =>
        intro k v p1 hk hk1 hv hp1 M1 fx e1 ea
        have hv3 : v < 1000 := by
          have : 10 ^ k ≤ 10 ^ 3 := Nat.pow_le_pow_right (by decide) (by omega)
          omega
        have stop : ¬ (48 ≤ tlc t L p1 ∧ tlc t L p1 ≤ 57) → kWP l (rg_x, g) mX4_readNumber 92 [(0, .inr (.inr (4, 0))), (1, .inl (nI mx)), (2, .inl (nI v)), (3, .inl (nI (tsk t L p)))] [] M1 (kqi Q) := by
          intro c
          unfold amr at ea
          rw [if_neg c] at ea
          exact fin k v p1 (by omega) hv M1 fx e1 ea
        refine bX4_readNumber_18 _ _ _ _ _ _ ⟨fun z => absurd z (nI_pos (by omega)), fun _ => ⟨fun z => ?_, fun _ => ?_⟩⟩
        · rw [show (3 : Int32) = nI 3 from rfl, q_le (by omega) (by omega)] at z
          omega
        · rw [show M1.1 4 0 2 = nI t from (fx.tt tx).1, e1]
          refine ⟨fun z => stop ?_, fun z => ?_⟩
          · rw [q_le (by omega) (by omega)] at z
            rw [tlc_end z]
            omega
          · rw [q_le (by omega) (by omega)] at z
            have hlt : p1 < t := by omega
            have hL := gd.2 p1 hlt
            simp (disch := omega) only [qa_0, qa_1, qa_2, qa_3, qa_4, qa_5, qa_6, qa_7, qa_8, qa_9, qa_10, qa_12, qa_16, qa_20, qa_21, qa_22, qa_23, qa_24, qa_26, qa_27, qa_30, qa_31, qa_32, qa_35, qa_36, qa_40, qa_44, qa_48, qa_49, qa_70, qa_81, qa_90, qa_96, qa_168, qa_217, qa_434, qa_442, qa_446, qa_450, qa_454, qa_455, qa_456, qa_457, qa_458, qa_466, qa_474, qa_478, qb_0, qb_1, qb_2, qb_3, qb_4, qb_5, qb_6, qb_7, qb_8, qb_9, qb_10, qb_12, qb_16, qb_20, qb_21, qb_22, qb_23, qb_24, qb_26, qb_27, qb_30, qb_31, qb_32, qb_35, qb_36, qb_40, qb_44, qb_48, qb_49, qb_70, qb_81, qb_90, qb_96, qb_168, qb_217, qb_434, qb_442, qb_446, qb_450, qb_454, qb_455, qb_456, qb_457, qb_458, qb_466, qb_474, qb_478, qm_0, qm_1, qm_2, qm_3, qm_4, qm_5, qm_6, qm_7, qm_8, qm_9, qm_10, qm_12, qm_16, qm_20, qm_21, qm_22, qm_23, qm_24, qm_26, qm_27, qm_30, qm_31, qm_32, qm_35, qm_36, qm_40, qm_44, qm_48, qm_49, qm_70, qm_81, qm_90, qm_96, qm_168, qm_217, qm_434, qm_442, qm_446, qm_450, qm_454, qm_455, qm_456, qm_457, qm_458, qm_466, qm_474, qm_478, ql_0, ql_1, ql_2, ql_3, ql_4, ql_5, ql_6, ql_7, ql_8, ql_9, ql_10, ql_12, ql_16, ql_20, ql_21, ql_22, ql_23, ql_24, ql_26, ql_27, ql_30, ql_31, ql_32, ql_35, ql_36, ql_40, ql_44, ql_48, ql_49, ql_70, ql_81, ql_90, ql_96, ql_168, ql_217, ql_434, ql_442, ql_446, ql_450, ql_454, ql_455, ql_456, ql_457, ql_458, ql_466, ql_474, ql_478, nI_add, q_cl, q_in, true_and]
            rw [(fx.tt tx).2 p1 hlt]
            have hw : ¬ wth (nI (L p1)) 48 57 = 0 ↔ 48 ≤ L p1 ∧ L p1 ≤ 57 := by
              rw [wth_ne, show (48 : Int32) = nI 48 from rfl, show (57 : Int32) = nI 57 from rfl, q_lt (by omega) (by omega), q_lt (by omega) (by omega)]
              omega
            refine x_within _ _ _ ⟨fun c => stop ?_, fun c => ?_⟩
            · rw [tlc_in hlt]
              exact fun w => hw.mpr w c
            · have c' := hw.mp c
              rw [e1]
              simp (disch := omega) only [qa_0, qa_1, qa_2, qa_3, qa_4, qa_5, qa_6, qa_7, qa_8, qa_9, qa_10, qa_12, qa_16, qa_20, qa_21, qa_22, qa_23, qa_24, qa_26, qa_27, qa_30, qa_31, qa_32, qa_35, qa_36, qa_40, qa_44, qa_48, qa_49, qa_70, qa_81, qa_90, qa_96, qa_168, qa_217, qa_434, qa_442, qa_446, qa_450, qa_454, qa_455, qa_456, qa_457, qa_458, qa_466, qa_474, qa_478, qb_0, qb_1, qb_2, qb_3, qb_4, qb_5, qb_6, qb_7, qb_8, qb_9, qb_10, qb_12, qb_16, qb_20, qb_21, qb_22, qb_23, qb_24, qb_26, qb_27, qb_30, qb_31, qb_32, qb_35, qb_36, qb_40, qb_44, qb_48, qb_49, qb_70, qb_81, qb_90, qb_96, qb_168, qb_217, qb_434, qb_442, qb_446, qb_450, qb_454, qb_455, qb_456, qb_457, qb_458, qb_466, qb_474, qb_478, qm_0, qm_1, qm_2, qm_3, qm_4, qm_5, qm_6, qm_7, qm_8, qm_9, qm_10, qm_12, qm_16, qm_20, qm_21, qm_22, qm_23, qm_24, qm_26, qm_27, qm_30, qm_31, qm_32, qm_35, qm_36, qm_40, qm_44, qm_48, qm_49, qm_70, qm_81, qm_90, qm_96, qm_168, qm_217, qm_434, qm_442, qm_446, qm_450, qm_454, qm_455, qm_456, qm_457, qm_458, qm_466, qm_474, qm_478, ql_0, ql_1, ql_2, ql_3, ql_4, ql_5, ql_6, ql_7, ql_8, ql_9, ql_10, ql_12, ql_16, ql_20, ql_21, ql_22, ql_23, ql_24, ql_26, ql_27, ql_30, ql_31, ql_32, ql_35, ql_36, ql_40, ql_44, ql_48, ql_49, ql_70, ql_81, ql_90, ql_96, ql_168, ql_217, ql_434, ql_442, ql_446, ql_450, ql_454, ql_455, ql_456, ql_457, ql_458, ql_466, ql_474, ql_478, nI_add, q_cl, q_in, true_and]
              rw [(fx.tt tx).2 p1 hlt, show nI (10 * v) + nI (L p1) - 48 = nI (10 * v + (L p1 - 48)) by
                rw [nI_add, show 10 * v + (L p1 - 48) = (10 * v + L p1) - 48 by omega]
                exact pk_sub (b := 48) (by omega)]
              rintro z3 rfl M4 rfl z5 rfl
              refine ih (k + 1) _ (p1 + 1) (by omega) (by omega) ?_ (by omega) _ (fx.trans pfx.u) ku_eq ?_
              · rw [Nat.pow_succ]
                omega
              · unfold amr at ea
                rw [tlc_in hlt, if_pos c'] at ea
                exact ea
    exact key 2 1 v (tsk t L p + 1) (by omega) (by omega) (by rw [Nat.pow_one]; omega) (by omega) M1 a1 (by rw [a2, hk.2.2.2.1]) e0
  · have hk := adg_no e
    have e0 : anb t L mx p = .inl f := by
      unfold anb
      rw [if_neg (by omega), hk.1]
    rintro z3 rfl
    refine bX4_readNumber_18 _ _ _ _ _ _ ⟨fun _ => bX4_readNumber_92 _ _ _ _ _ ⟨fun _ => h0 M1 f e0 a1 a2, fun z => absurd ?_ z⟩, fun z => absurd (by decide) z⟩
    rw [Int32.le_iff_toInt_le, nI_toInt (by omega)]
    have : (-1 : Int32).toInt = -1 := by decide
    omega
theorem m_number (mx p : Nat) (hmx : mx ≤ 999) (hp : p ≤ t) (gd : tgd t L) (tm : ttm t L M) (ep : M.1 0 0 7 = nI p) (h1 : ∀ M' v p', anb t L mx p = .inr (v, p') → pfm M M' → M'.1 0 0 7 = nI p' → Q (nI v) M') (h0 : ∀ M' f, anb t L mx p = .inl f → pfm M M' → M'.1 0 0 8 = nI f → Q (-1) M') : kCT l (rg_m, g) mX6_number [.inr (.inr (0, 0)), .inl (nI mx)] M (kqi Q) := by
  have ht := gd.1
  have hsk := tsk_le (L := L) hp
  refine kct (by decide) (Nat.le_of_ble_eq_true rfl) (bX6_number_0 _ M Q (m_here p hp gd tm ep (fun M1 a1 a8 a2 => ?_)))
  rw [a2]
  rintro z3 rfl
  have bad : ∀ M1, pfm M M1 → anb t L mx p = .inl (tsk t L p) → kWP l (rg_m, g) mX6_number 86 [(0, .inr (.inr (0, 0))), (2, .inl (nI (tsk t L p)))] [] M1 (kqi Q) := fun M1 fx ea => bX6_number_86 _ _ _ (m_fails _ (h0 _ _ ea (fx.trans (pfm.u (by omega))) ku_eq))
  have key : ∀ f v p1, tsk t L p + 3 = p1 + f → tsk t L p ≤ p1 → v < 10 ^ (p1 - tsk t L p) → p1 ≤ t → ∀ M1, pfm M M1 → M1.1 0 0 7 = nI p1 → (p1 = tsk t L p → v = 0 ∧ f = 3) → (¬ p1 = tsk t L p → anb t L mx p = anf (tsk t L p) mx (amr t L f v p1)) → kWP l (rg_m, g) mX6_number 12 [(0, .inr (.inr (0, 0))), (1, .inl (nI mx)), (2, .inl (nI (tsk t L p))), (3, .inl (nI v))] [] M1 (kqi Q) := by
    intro f
    have fin : ∀ v p1, tsk t L p ≤ p1 → p1 ≤ tsk t L p + 3 → p1 ≤ t → v < 1000 → ∀ M1, pfm M M1 → M1.1 0 0 7 = nI p1 → (p1 = tsk t L p → anb t L mx p = .inl (tsk t L p)) → (¬ p1 = tsk t L p → anb t L mx p = anf (tsk t L p) mx (v, p1)) → kWP l (rg_m, g) mX6_number 73 [(0, .inr (.inr (0, 0))), (1, .inl (nI mx)), (2, .inl (nI (tsk t L p))), (3, .inl (nI v))] [] M1 (kqi Q) := by
      intro v p1 g1 g2 g3 hv M1 fx e1 ea eb
      refine bX6_number_73 _ _ _ _ _ ?_
      rw [e1, q_eq (by omega) (by omega)]
      refine ⟨fun z => bad M1 fx (ea z), fun z => ?_⟩
      have eb := eb z
      unfold anf at eb
      refine ⟨fun z => ?_, fun z => ?_⟩
      · rw [q_le (by omega) (by omega)] at z
        rw [if_pos (show (v, p1).1 ≤ mx from z)] at eb
        exact h1 M1 _ _ eb fx e1
      · rw [q_le (by omega) (by omega)] at z
        rw [if_neg (show ¬ (v, p1).1 ≤ mx from z)] at eb
        exact bad M1 fx eb
    induction f with
    | zero =>
      intro v p1 hf hp0 hv hp1 M1 fx e1 ez ea
      refine bX6_number_12 _ _ _ _ _ ?_
      rw [e1, pk_sub hp0]
      refine ⟨fun _ => fin v p1 hp0 (by omega) hp1 ?_ M1 fx e1 (fun z => by omega) (fun z => ea z), fun z => absurd ((q_le (a := 3) (by omega) (by omega)).mpr (by omega)) z⟩
      rw [show p1 - tsk t L p = 3 by omega] at hv
      omega
    | succ f ih =>
      intro v p1 hf hp0 hv hp1 M1 fx e1 ez ea
      have hv3 : v < 1000 := by
        have : 10 ^ (p1 - tsk t L p) ≤ 10 ^ 3 := Nat.pow_le_pow_right (by decide) (by omega)
        omega
      have hw := wdm (p := p1) (lo := 0) (hi := 9) gd (by omega) (by omega)
      refine bX6_number_12 _ _ _ _ _ ?_
      rw [e1, pk_sub hp0]
      refine ⟨fun z => ?_, fun _ => m_letterAt p1 (by omega) gd (fx.tt tm) ?_⟩
      · rw [show (3 : Int32) = nI 3 from rfl, q_le (by omega) (by omega)] at z
        omega
      · have hin : ¬ wth (mlc t L p1) 48 57 = 0 ↔ 48 ≤ tlc t L p1 ∧ tlc t L p1 ≤ 57 := by
          unfold mlc tlc
          by_cases hlt : p1 < t
          · rw [if_pos hlt, if_pos hlt]
            have := gd.2 p1 hlt
            rw [wth_ne, show (48 : Int32) = nI 48 from rfl, show (57 : Int32) = nI 57 from rfl, q_lt (by omega) (by omega), q_lt (by omega) (by omega)]
            omega
          · rw [if_neg hlt, if_neg hlt]
            constructor
            · intro z
              exact absurd (by decide) z
            · omega
        refine m_in _ 48 57 (by decide) (by decide) ⟨fun c => ?_, fun c => ?_⟩
        · have c' : ¬ (48 ≤ tlc t L p1 ∧ tlc t L p1 ≤ 57) := fun w => hin.mpr w c
          refine fin v p1 hp0 (by omega) hp1 hv3 M1 fx e1 (fun z => ?_) (fun z => ?_)
          · unfold anb
            rw [← z, if_neg c', z]
          · have := ea z
            unfold amr at this
            rw [if_neg c'] at this
            exact this
        · have c' := hin.mp c
          have hlt : p1 < t := tlc_pos (L := L) (by omega)
          have hL := gd.2 p1 hlt
          rw [e1]
          refine m_letterAt p1 (by omega) gd (fx.tt tm) ?_
          rw [e1, qa_1, show (10 : Int32) * nI v + mlc t L p1 - 48 = nI (10 * v + (tlc t L p1 - 48)) by
            unfold mlc
            rw [if_pos hlt, tlc_in hlt, qm_10, nI_add, show 10 * v + (L p1 - 48) = (10 * v + L p1) - 48 by rw [tlc_in hlt] at c'; omega]
            exact pk_sub (b := 48) (by rw [tlc_in hlt] at c'; omega)]
          rintro z7 rfl M8 rfl
          refine ih _ (p1 + 1) (by omega) (by omega) ?_ (by omega) _ (fx.trans (pfm.u (by omega))) ku_eq (fun z => by omega) (fun _ => ?_)
          · rw [show p1 + 1 - tsk t L p = (p1 - tsk t L p) + 1 by omega, Nat.pow_succ]
            omega
          · by_cases z : p1 = tsk t L p
            · obtain ⟨rfl, z3⟩ := ez z
              obtain rfl : f = 2 := by omega
              unfold anb
              rw [← z, if_pos c', Nat.mul_zero, Nat.zero_add]
            · have := ea z
              unfold amr at this
              rw [if_pos c'] at this
              exact this
  exact key 3 0 (tsk t L p) rfl (Nat.le_refl _) (by rw [Nat.sub_self]; decide) hsk M1 a1 a2 (fun _ => ⟨rfl, rfl⟩) (fun z => absurd rfl z)
theorem x_kindOf (c : Nat) (hc : c ≤ 126) (h1 : ∀ k, akd c = some k → Q (nI k) M) (h0 : akd c = none → Q (-1) M) : kCT l (rg_x, g) mX4_kindOf [.inl (nI c)] M (kqi Q) := by
  have e : ∀ x : Nat, x ≤ 126 → (nI c = nI x ↔ c = x) := fun x hx => q_eq (by omega) (by omega)
  refine kct (by decide) (Nat.le_of_ble_eq_true rfl) (bX4_kindOf_0 _ M Q ⟨fun z => ?_, fun z => ?_, fun z => ?_, fun z => ?_, fun z => ?_, fun z1 z2 z3 z4 z5 => ?_⟩)
  · have := (e 98 (by omega)).mp z
    subst this
    exact h1 3 rfl
  · have := (e 111 (by omega)).mp z
    subst this
    exact h1 2 rfl
  · have := (e 112 (by omega)).mp z
    subst this
    exact h1 0 rfl
  · have := (e 114 (by omega)).mp z
    subst this
    exact h1 4 rfl
  · have := (e 115 (by omega)).mp z
    subst this
    exact h1 1 rfl
  · refine h0 ?_
    unfold akd
    rw [if_neg (fun w => z3 ((e 112 (by omega)).mpr w)), if_neg (fun w => z5 ((e 115 (by omega)).mpr w)), if_neg (fun w => z2 ((e 111 (by omega)).mpr w)), if_neg (fun w => z1 ((e 98 (by omega)).mpr w)), if_neg (fun w => z4 ((e 114 (by omega)).mpr w))]
theorem m_kindBy (p : Nat) (gd : tgd t L) (h1 : ∀ k, akd (tlc t L p) = some k → Q (nI k) M) (h0 : akd (tlc t L p) = none → Q (-1) M) : kCT l (rg_m, g) mX6_kindBy [.inl (mlc t L p)] M (kqi Q) := by
  have e : ∀ x : Nat, 0 < x → x < 128 → (mlc t L p = nI x ↔ tlc t L p = x) := fun x h0 hx => mlc_eq gd h0 hx
  refine kct (by decide) (Nat.le_of_ble_eq_true rfl) (bX6_kindBy_0 _ M Q ⟨fun z1 => ⟨fun z2 => ⟨fun z3 => ⟨fun z4 => ⟨fun z5 => bX6_kindBy_51 _ _ _ (h0 ?_), fun z => bX6_kindBy_51 _ _ _ (h1 4 ?_)⟩, fun z => bX6_kindBy_51 _ _ _ (h1 3 ?_)⟩, fun z => bX6_kindBy_51 _ _ _ (h1 2 ?_)⟩, fun z => bX6_kindBy_51 _ _ _ (h1 1 ?_)⟩, fun z => bX6_kindBy_51 _ _ _ (h1 0 ?_)⟩)
  · unfold akd
    rw [if_neg (fun w => z1 ((e 112 (by omega) (by omega)).mpr w)), if_neg (fun w => z2 ((e 115 (by omega) (by omega)).mpr w)), if_neg (fun w => z3 ((e 111 (by omega) (by omega)).mpr w)), if_neg (fun w => z4 ((e 98 (by omega) (by omega)).mpr w)), if_neg (fun w => z5 ((e 114 (by omega) (by omega)).mpr w))]
  · rw [(e 114 (by omega) (by omega)).mp z]
    rfl
  · rw [(e 98 (by omega) (by omega)).mp z]
    rfl
  · rw [(e 111 (by omega) (by omega)).mp z]
    rfl
  · rw [(e 115 (by omega) (by omega)).mp z]
    rfl
  · rw [(e 112 (by omega) (by omega)).mp z]
    rfl
end KTN
