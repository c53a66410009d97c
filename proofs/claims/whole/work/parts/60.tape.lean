/-! ===== the tape, letter by letter ===== -/
def tlc (t : Nat) (L : Nat → Nat) (p : Nat) : Nat := if p < t then L p else 0
def tskf (t : Nat) (L : Nat → Nat) : Nat → Nat → Nat
  | 0, p => p
  | f + 1, p => if tlc t L p = 32 then tskf t L f (p + 1) else p
def tsk (t : Nat) (L : Nat → Nat) (p : Nat) : Nat := tskf t L (t - p) p
def tgd (t : Nat) (L : Nat → Nat) : Prop := t ≤ 90 ∧ ∀ j, j < t → 32 ≤ L j ∧ L j ≤ 126
theorem tlc_end {t : Nat} {L : Nat → Nat} {p : Nat} (h : t ≤ p) : tlc t L p = 0 := if_neg (by omega)
theorem tlc_in {t : Nat} {L : Nat → Nat} {p : Nat} (h : p < t) : tlc t L p = L p := if_pos h
theorem tlc_le {t : Nat} {L : Nat → Nat} {p : Nat} (g : tgd t L) : tlc t L p ≤ 126 := by
  unfold tlc
  split
  · exact (g.2 p (by assumption)).2
  · omega
theorem tlc_pos {t : Nat} {L : Nat → Nat} {p : Nat} (h : 0 < tlc t L p) : p < t := by
  unfold tlc at h
  split at h
  · assumption
  · omega
theorem tlc_0 {t : Nat} {L : Nat → Nat} {p : Nat} (g : tgd t L) : tlc t L p = 0 ↔ t ≤ p := by
  constructor
  · intro h
    rcases Nat.lt_or_ge p t with c | c
    · rw [tlc_in c] at h
      have := (g.2 p c).1
      omega
    · exact c
  · exact tlc_end
theorem tsk_id {t : Nat} {L : Nat → Nat} {p : Nat} (h : tlc t L p ≠ 32) : tsk t L p = p := by
  unfold tsk
  generalize t - p = f
  cases f with
  | zero => rfl
  | succ f => exact if_neg h
theorem tsk_st {t : Nat} {L : Nat → Nat} {p : Nat} (h : tlc t L p = 32) : tsk t L p = tsk t L (p + 1) := by
  have hp : p < t := tlc_pos (L := L) (by omega)
  unfold tsk
  rw [show t - p = (t - (p + 1)) + 1 by omega]
  exact if_pos h
theorem tsk_all {t : Nat} {L : Nat → Nat} : ∀ f p, t - p = f → tlc t L (tsk t L p) ≠ 32 ∧ p ≤ tsk t L p ∧ (p ≤ t → tsk t L p ≤ t) := by
  intro f
  induction f with
  | zero =>
    intro p hp
    have e : tlc t L p = 0 := tlc_end (by omega)
    rw [tsk_id (by omega)]
    exact ⟨by omega, by omega, fun h => h⟩
  | succ f ih =>
    intro p hp
    by_cases c : tlc t L p = 32
    · rw [tsk_st c]
      have := ih (p + 1) (by omega)
      exact ⟨this.1, by omega, fun h => this.2.2 (by omega)⟩
    · rw [tsk_id c]
      exact ⟨c, by omega, fun h => h⟩
theorem tsk_ne {t : Nat} {L : Nat → Nat} {p : Nat} : tlc t L (tsk t L p) ≠ 32 := (tsk_all _ p rfl).1
theorem tsk_le {t : Nat} {L : Nat → Nat} {p : Nat} (h : p ≤ t) : tsk t L p ≤ t := (tsk_all _ p rfl).2.2 h
theorem tsk_tsk {t : Nat} {L : Nat → Nat} {p : Nat} : tsk t L (tsk t L p) = tsk t L p := tsk_id tsk_ne
def ttx (t : Nat) (L : Nat → Nat) (M : kM) : Prop := M.1 4 0 2 = nI t ∧ ∀ j, j < t → M.1 17 0 j = nI (L j)
def ttm (t : Nat) (L : Nat → Nat) (M : kM) : Prop := M.1 0 0 3 = nI t ∧ ∀ j, j < t → M.1 2 0 j = nI (L j)
def pfx (M M' : kM) : Prop := (∀ c i j, ¬ (c = 4 ∧ i = 0 ∧ j = 3) → M'.1 c i j = M.1 c i j) ∧ M'.2 = M.2
def pfm (M M' : kM) : Prop := (∀ c i j, ¬ (c = 0 ∧ i = 0 ∧ (j = 7 ∨ j = 8)) → M'.1 c i j = M.1 c i j) ∧ M'.2 = M.2
theorem pfx.refl (M : kM) : pfx M M := ⟨fun _ _ _ _ => rfl, rfl⟩
theorem pfm.refl (M : kM) : pfm M M := ⟨fun _ _ _ _ => rfl, rfl⟩
theorem pfx.trans {a b c : kM} (h : pfx a b) (h2 : pfx b c) : pfx a c := ⟨fun x i j hc => (h2.1 x i j hc).trans (h.1 x i j hc), h2.2.trans h.2⟩
theorem pfm.trans {a b c : kM} (h : pfm a b) (h2 : pfm b c) : pfm a c := ⟨fun x i j hc => (h2.1 x i j hc).trans (h.1 x i j hc), h2.2.trans h.2⟩
theorem pfx.u {M : kM} {v : Int32} : pfx M (ku M 4 0 3 v) := ⟨fun c i j hc => ku_ne (by omega), rfl⟩
theorem pfm.u {M : kM} {j : Nat} {v : Int32} (h : j = 7 ∨ j = 8) : pfm M (ku M 0 0 j v) := ⟨fun c i d hc => ku_ne (by omega), rfl⟩
theorem ttx.cg {t : Nat} {L : Nat → Nat} {M M' : kM} (h : ttx t L M) (hx : ∀ c j, (c = 4 ∧ j = 2 ∨ c = 17) → M'.1 c 0 j = M.1 c 0 j) : ttx t L M' := ⟨(hx 4 2 (by omega)).trans h.1, fun j hj => (hx 17 j (by omega)).trans (h.2 j hj)⟩
theorem ttm.cg {t : Nat} {L : Nat → Nat} {M M' : kM} (h : ttm t L M) (hx : ∀ c j, (c = 0 ∧ j = 3 ∨ c = 2) → M'.1 c 0 j = M.1 c 0 j) : ttm t L M' := ⟨(hx 0 3 (by omega)).trans h.1, fun j hj => (hx 2 j (by omega)).trans (h.2 j hj)⟩
theorem pfx.tt {t : Nat} {L : Nat → Nat} {M M' : kM} (h : pfx M M') (tx : ttx t L M) : ttx t L M' := tx.cg (fun c j hc => h.1 c 0 j (by omega))
theorem pfm.tt {t : Nat} {L : Nat → Nat} {M M' : kM} (h : pfm M M') (tx : ttm t L M) : ttm t L M' := tx.cg (fun c j hc => h.1 c 0 j (by omega))
def mlc (t : Nat) (L : Nat → Nat) (p : Nat) : Int32 := if p < t then nI (L p) else -1
theorem mlc_eq {t : Nat} {L : Nat → Nat} {p c : Nat} (g : tgd t L) (h0 : 0 < c) (hc : c < 128) : mlc t L p = nI c ↔ tlc t L p = c := by
  unfold mlc tlc
  by_cases h : p < t
  · rw [if_pos h, if_pos h]
    have := (g.2 p h).2
    exact q_eq (by omega) (by omega)
  · rw [if_neg h, if_neg h]
    refine ⟨fun z => ?_, fun z => by omega⟩
    have h1 := nI_toInt (n := c) (by omega)
    rw [← z] at h1
    have : (-1 : Int32).toInt = -1 := by decide
    omega
theorem wdg {c lo hi : Nat} (hc : c ≤ 126) (hl : lo ≤ 9) (hh : hi ≤ 9) : ¬ wth (nI c - 48) (nI lo) (nI hi) = 0 ↔ 48 + lo ≤ c ∧ c ≤ 48 + hi := by
  have e : (nI c - 48).toInt = (c : Int) - (48 : Nat) := pk_sub_toInt (a := c) (b := 48) (by omega) (by decide)
  rw [wth_ne, Int32.lt_iff_toInt_lt, Int32.lt_iff_toInt_lt, e, nI_toInt (by omega), nI_toInt (by omega)]
  omega
theorem wdm {t : Nat} {L : Nat → Nat} {p lo hi : Nat} (g : tgd t L) (hl : lo ≤ 9) (hh : hi ≤ 9) : ¬ wth (mlc t L p - 48) (nI lo) (nI hi) = 0 ↔ 48 + lo ≤ tlc t L p ∧ tlc t L p ≤ 48 + hi := by
  unfold mlc tlc
  by_cases h : p < t
  · rw [if_pos h, if_pos h]
    exact wdg (g.2 p h).2 hl hh
  · rw [if_neg h, if_neg h]
    have e : ((-1 : Int32) - 48).toInt = -49 := by decide
    rw [wth_ne, Int32.lt_iff_toInt_lt, Int32.lt_iff_toInt_lt, e, nI_toInt (by omega), nI_toInt (by omega)]
    omega
theorem mlc_dg {t : Nat} {L : Nat → Nat} {p : Nat} (g : tgd t L) (h : 48 ≤ tlc t L p) : mlc t L p - 48 = nI (tlc t L p - 48) := by
  have hp : p < t := tlc_pos (L := L) (by omega)
  unfold mlc
  rw [if_pos hp, ← tlc_in (L := L) hp]
  exact pk_sub (b := 48) h
abbrev TR (α : Type) : Type := Sum Nat α
def adg (t : Nat) (L : Nat → Nat) (lo hi p : Nat) : TR (Nat × Nat) := if 48 + lo ≤ tlc t L (tsk t L p) ∧ tlc t L (tsk t L p) ≤ 48 + hi then .inr (tlc t L (tsk t L p) - 48, tsk t L p + 1) else .inl (tsk t L p)
theorem adg_ok {t : Nat} {L : Nat → Nat} {lo hi p v p' : Nat} (h : adg t L lo hi p = .inr (v, p')) : lo ≤ v ∧ v ≤ hi ∧ p' ≤ t ∧ p' = tsk t L p + 1 ∧ 48 + v = tlc t L (tsk t L p) := by
  unfold adg at h
  split at h
  · rename_i c
    obtain ⟨rfl, rfl⟩ := Prod.mk.inj (Sum.inr.inj h)
    have := tlc_pos (t := t) (L := L) (p := tsk t L p) (by omega)
    omega
  · exact absurd h (by intro z; cases z)
theorem adg_no {t : Nat} {L : Nat → Nat} {lo hi p f : Nat} (h : adg t L lo hi p = .inl f) : f = tsk t L p ∧ ¬ (48 + lo ≤ tlc t L (tsk t L p) ∧ tlc t L (tsk t L p) ≤ 48 + hi) := by
  unfold adg at h
  split at h
  · exact absurd h (by intro z; cases z)
  · rename_i c
    exact ⟨(Sum.inl.inj h).symm, c⟩
section KTP
variable {l : Launch} {g : va_G × (Nat → ClassId) × (Nat → Nat → Nat)} {M : kM} {t : Nat} {L : Nat → Nat} {Q : Int32 → kM → Prop}
theorem x_letterHere (p : Nat) (hp : p ≤ t) (gd : tgd t L) (tx : ttx t L M) (ep : M.1 4 0 3 = nI p) (h : ∀ M', pfx M M' → M'.1 4 0 3 = nI (tsk t L p) → Q (nI (tlc t L (tsk t L p))) M') : kCT l (rg_x, g) mX4_letterHere [.inr (.inr (4, 0))] M (kqi Q) := by
  have ht := gd.1
  refine kct (by decide) (Nat.le_of_ble_eq_true rfl) ?_
  have key : ∀ f p1, t - p1 = f → p1 ≤ t → tsk t L p1 = tsk t L p → ∀ M1, pfx M M1 → M1.1 4 0 3 = nI p1 → kWP l (rg_x, g) mX4_letterHere 0 [(0, .inr (.inr (4, 0)))] [] M1 (kqi Q) := by
    intro f
    induction f with
    | zero =>
      intro p1 h1 h2 h3 M1 fx e1
      obtain rfl : p1 = t := by omega
      have e : tlc p1 L p1 = 0 := tlc_end (Nat.le_refl _)
      have h4 : tsk p1 L p1 = p1 := tsk_id (by omega)
      have hq := h M1 fx (by rw [← h3, h4]; exact e1)
      rw [← h3, h4, e] at hq
      refine bX4_letterHere_0 _ _ ?_
      rw [show M1.1 4 0 2 = nI p1 from (fx.tt tx).1, e1]
      refine ⟨fun _ => bX4_letterHere_38 _ _ ?_, fun z => absurd (nI_le (Nat.le_refl _) (by omega)) z⟩
      rw [show M1.1 4 0 2 = nI p1 from (fx.tt tx).1, e1]
      exact ⟨fun _ => bX4_letterHere_62 _ _ _ hq, fun z => absurd (nI_le (Nat.le_refl _) (by omega)) z⟩
    | succ f ih =>
      intro p1 h1 h2 h3 M1 fx e1
      have hlt : p1 < t := by omega
      have el : M1.1 17 0 p1 = nI (L p1) := (fx.tt tx).2 p1 hlt
      have hL := gd.2 p1 hlt
      refine bX4_letterHere_0 _ _ ?_
      rw [show M1.1 4 0 2 = nI t from (fx.tt tx).1, e1]
      refine ⟨fun z => ?_, fun _ => ?_⟩
      · rw [q_le (by omega) (by omega)] at z
        omega
      · simp (disch := omega) only [qa_0, qa_1, qa_2, qa_3, qa_4, qa_5, qa_6, qa_7, qa_8, qa_9, qa_10, qa_12, qa_16, qa_20, qa_21, qa_22, qa_23, qa_24, qa_26, qa_27, qa_30, qa_31, qa_32, qa_35, qa_36, qa_40, qa_44, qa_48, qa_49, qa_70, qa_81, qa_90, qa_96, qa_168, qa_217, qa_434, qa_442, qa_446, qa_450, qa_454, qa_455, qa_456, qa_457, qa_458, qa_466, qa_474, qa_478, qb_0, qb_1, qb_2, qb_3, qb_4, qb_5, qb_6, qb_7, qb_8, qb_9, qb_10, qb_12, qb_16, qb_20, qb_21, qb_22, qb_23, qb_24, qb_26, qb_27, qb_30, qb_31, qb_32, qb_35, qb_36, qb_40, qb_44, qb_48, qb_49, qb_70, qb_81, qb_90, qb_96, qb_168, qb_217, qb_434, qb_442, qb_446, qb_450, qb_454, qb_455, qb_456, qb_457, qb_458, qb_466, qb_474, qb_478, qm_0, qm_1, qm_2, qm_3, qm_4, qm_5, qm_6, qm_7, qm_8, qm_9, qm_10, qm_12, qm_16, qm_20, qm_21, qm_22, qm_23, qm_24, qm_26, qm_27, qm_30, qm_31, qm_32, qm_35, qm_36, qm_40, qm_44, qm_48, qm_49, qm_70, qm_81, qm_90, qm_96, qm_168, qm_217, qm_434, qm_442, qm_446, qm_450, qm_454, qm_455, qm_456, qm_457, qm_458, qm_466, qm_474, qm_478, ql_0, ql_1, ql_2, ql_3, ql_4, ql_5, ql_6, ql_7, ql_8, ql_9, ql_10, ql_12, ql_16, ql_20, ql_21, ql_22, ql_23, ql_24, ql_26, ql_27, ql_30, ql_31, ql_32, ql_35, ql_36, ql_40, ql_44, ql_48, ql_49, ql_70, ql_81, ql_90, ql_96, ql_168, ql_217, ql_434, ql_442, ql_446, ql_450, ql_454, ql_455, ql_456, ql_457, ql_458, ql_466, ql_474, ql_478, nI_add, q_cl, q_in, true_and]
        rw [el]
        refine ⟨fun z => bX4_letterHere_38 _ _ ?_, fun z => ?_⟩
        · rw [show M1.1 4 0 2 = nI t from (fx.tt tx).1, e1]
          have hne : tlc t L p1 ≠ 32 := by
            rw [tlc_in hlt]
            exact fun e => z (by rw [e]; rfl)
          have h4 : tsk t L p1 = p1 := tsk_id hne
          have hq := h M1 fx (by rw [← h3, h4]; exact e1)
          rw [← h3, h4, tlc_in hlt] at hq
          refine ⟨fun z => ?_, fun _ => ?_⟩
          · rw [q_le (by omega) (by omega)] at z
            omega
          · simp (disch := omega) only [qa_0, qa_1, qa_2, qa_3, qa_4, qa_5, qa_6, qa_7, qa_8, qa_9, qa_10, qa_12, qa_16, qa_20, qa_21, qa_22, qa_23, qa_24, qa_26, qa_27, qa_30, qa_31, qa_32, qa_35, qa_36, qa_40, qa_44, qa_48, qa_49, qa_70, qa_81, qa_90, qa_96, qa_168, qa_217, qa_434, qa_442, qa_446, qa_450, qa_454, qa_455, qa_456, qa_457, qa_458, qa_466, qa_474, qa_478, qb_0, qb_1, qb_2, qb_3, qb_4, qb_5, qb_6, qb_7, qb_8, qb_9, qb_10, qb_12, qb_16, qb_20, qb_21, qb_22, qb_23, qb_24, qb_26, qb_27, qb_30, qb_31, qb_32, qb_35, qb_36, qb_40, qb_44, qb_48, qb_49, qb_70, qb_81, qb_90, qb_96, qb_168, qb_217, qb_434, qb_442, qb_446, qb_450, qb_454, qb_455, qb_456, qb_457, qb_458, qb_466, qb_474, qb_478, qm_0, qm_1, qm_2, qm_3, qm_4, qm_5, qm_6, qm_7, qm_8, qm_9, qm_10, qm_12, qm_16, qm_20, qm_21, qm_22, qm_23, qm_24, qm_26, qm_27, qm_30, qm_31, qm_32, qm_35, qm_36, qm_40, qm_44, qm_48, qm_49, qm_70, qm_81, qm_90, qm_96, qm_168, qm_217, qm_434, qm_442, qm_446, qm_450, qm_454, qm_455, qm_456, qm_457, qm_458, qm_466, qm_474, qm_478, ql_0, ql_1, ql_2, ql_3, ql_4, ql_5, ql_6, ql_7, ql_8, ql_9, ql_10, ql_12, ql_16, ql_20, ql_21, ql_22, ql_23, ql_24, ql_26, ql_27, ql_30, ql_31, ql_32, ql_35, ql_36, ql_40, ql_44, ql_48, ql_49, ql_70, ql_81, ql_90, ql_96, ql_168, ql_217, ql_434, ql_442, ql_446, ql_450, ql_454, ql_455, ql_456, ql_457, ql_458, ql_466, ql_474, ql_478, nI_add, q_cl, q_in, true_and]
            rw [el]
            exact bX4_letterHere_62 _ _ _ hq
        · rintro M2 rfl
          have he : tlc t L p1 = 32 := by
            rw [tlc_in hlt]
            exact (q_eq (b := 32) (by omega) (by omega)).mp z
          refine ih (p1 + 1) (by omega) (by omega) (by rw [← h3, tsk_st he]) _ (fx.trans pfx.u) ku_eq
  exact key _ p rfl hp rfl M (pfx.refl M) ep
theorem m_letterAt (p : Nat) (hp : p < 1000) (gd : tgd t L) (tm : ttm t L M) (h : Q (mlc t L p) M) : kCT l (rg_m, g) mX6_letterAt [.inr (.inr (0, 0)), .inl (nI p)] M (kqi Q) := by
  have ht := gd.1
  refine kct (by decide) (Nat.le_of_ble_eq_true rfl) (bX6_letterAt_0 _ M Q ?_)
  rw [tm.1]
  unfold mlc at h
  refine ⟨fun z => bX6_letterAt_18 _ _ _ ?_, fun z => ?_⟩
  · rw [q_le (by omega) (by omega)] at z
    rw [if_neg (by omega)] at h
    exact h
  · rw [q_le (by omega) (by omega)] at z
    rw [if_pos (by omega)] at h
    simp (disch := omega) only [qa_0, qa_1, qa_2, qa_3, qa_4, qa_5, qa_6, qa_7, qa_8, qa_9, qa_10, qa_12, qa_16, qa_20, qa_21, qa_22, qa_23, qa_24, qa_26, qa_27, qa_30, qa_31, qa_32, qa_35, qa_36, qa_40, qa_44, qa_48, qa_49, qa_70, qa_81, qa_90, qa_96, qa_168, qa_217, qa_434, qa_442, qa_446, qa_450, qa_454, qa_455, qa_456, qa_457, qa_458, qa_466, qa_474, qa_478, qb_0, qb_1, qb_2, qb_3, qb_4, qb_5, qb_6, qb_7, qb_8, qb_9, qb_10, qb_12, qb_16, qb_20, qb_21, qb_22, qb_23, qb_24, qb_26, qb_27, qb_30, qb_31, qb_32, qb_35, qb_36, qb_40, qb_44, qb_48, qb_49, qb_70, qb_81, qb_90, qb_96, qb_168, qb_217, qb_434, qb_442, qb_446, qb_450, qb_454, qb_455, qb_456, qb_457, qb_458, qb_466, qb_474, qb_478, qm_0, qm_1, qm_2, qm_3, qm_4, qm_5, qm_6, qm_7, qm_8, qm_9, qm_10, qm_12, qm_16, qm_20, qm_21, qm_22, qm_23, qm_24, qm_26, qm_27, qm_30, qm_31, qm_32, qm_35, qm_36, qm_40, qm_44, qm_48, qm_49, qm_70, qm_81, qm_90, qm_96, qm_168, qm_217, qm_434, qm_442, qm_446, qm_450, qm_454, qm_455, qm_456, qm_457, qm_458, qm_466, qm_474, qm_478, ql_0, ql_1, ql_2, ql_3, ql_4, ql_5, ql_6, ql_7, ql_8, ql_9, ql_10, ql_12, ql_16, ql_20, ql_21, ql_22, ql_23, ql_24, ql_26, ql_27, ql_30, ql_31, ql_32, ql_35, ql_36, ql_40, ql_44, ql_48, ql_49, ql_70, ql_81, ql_90, ql_96, ql_168, ql_217, ql_434, ql_442, ql_446, ql_450, ql_454, ql_455, ql_456, ql_457, ql_458, ql_466, ql_474, ql_478, nI_add, q_cl, q_in, true_and]
    rw [tm.2 p (by omega)]
    exact bX6_letterAt_18 _ _ _ h
theorem m_here (p : Nat) (hp : p ≤ t) (gd : tgd t L) (tm : ttm t L M) (ep : M.1 0 0 7 = nI p) (h : ∀ M', pfm M M' → M'.1 0 0 8 = M.1 0 0 8 → M'.1 0 0 7 = nI (tsk t L p) → Q (mlc t L (tsk t L p)) M') : kCT l (rg_m, g) mX6_here [.inr (.inr (0, 0))] M (kqi Q) := by
  have ht := gd.1
  refine kct (by decide) (Nat.le_of_ble_eq_true rfl) ?_
  have key : ∀ f p1, t - p1 = f → p1 ≤ t → tsk t L p1 = tsk t L p → ∀ M1, pfm M M1 → M1.1 0 0 8 = M.1 0 0 8 → M1.1 0 0 7 = nI p1 → kWP l (rg_m, g) mX6_here 0 [(0, .inr (.inr (0, 0)))] [] M1 (kqi Q) := by
    intro f
    induction f with
    | zero =>
      intro p1 h1 h2 h3 M1 fx e8 e1
      have e : tlc t L p1 = 0 := tlc_end (by omega)
      have h4 : tsk t L p1 = p1 := tsk_id (by omega)
      have hq := h M1 fx e8 (by rw [← h3, h4]; exact e1)
      rw [← h3, h4] at hq
      refine bX6_here_0 _ _ ?_
      rw [e1]
      refine m_letterAt p1 (by omega) gd (fx.tt tm) ⟨fun _ => ?_, fun z => ?_⟩
      · rw [e1]
        exact m_letterAt p1 (by omega) gd (fx.tt tm) hq
      · have := (mlc_eq (c := 32) gd (by omega) (by omega)).mp z
        omega
    | succ f ih =>
      intro p1 h1 h2 h3 M1 fx e8 e1
      refine bX6_here_0 _ _ ?_
      rw [e1]
      refine m_letterAt p1 (by omega) gd (fx.tt tm) ⟨fun z => ?_, fun z => ?_⟩
      · have hne : tlc t L p1 ≠ 32 := fun e => z ((mlc_eq (c := 32) gd (by omega) (by omega)).mpr e)
        have h4 : tsk t L p1 = p1 := tsk_id hne
        have hq := h M1 fx e8 (by rw [← h3, h4]; exact e1)
        rw [← h3, h4] at hq
        rw [e1]
        exact m_letterAt p1 (by omega) gd (fx.tt tm) hq
      · have he := (mlc_eq (c := 32) gd (by omega) (by omega)).mp z
        rw [e1, qa_1]
        rintro M2 rfl
        exact ih (p1 + 1) (by omega) (by omega) (by rw [← h3, tsk_st he]) _ (fx.trans (pfm.u (by omega))) (by rw [ku_ne (by omega)]; exact e8) ku_eq
  exact key _ p rfl hp rfl M (pfm.refl M) rfl ep
theorem x_readDigit (p lo hi : Nat) (hp : p ≤ t) (hl : lo ≤ 9) (hh : hi ≤ 9) (gd : tgd t L) (tx : ttx t L M) (ep : M.1 4 0 3 = nI p) (h1 : ∀ M' v p', adg t L lo hi p = .inr (v, p') → pfx M M' → M'.1 4 0 3 = nI p' → Q (nI v) M') (h0 : ∀ M' f, adg t L lo hi p = .inl f → pfx M M' → M'.1 4 0 3 = nI f → Q (-1) M') : kCT l (rg_x, g) mX4_readDigit [.inr (.inr (4, 0)), .inl (nI lo), .inl (nI hi)] M (kqi Q) := by
  refine kct (by decide) (Nat.le_of_ble_eq_true rfl) (bX4_readDigit_0 _ _ M Q (x_letterHere p hp gd tx ep (fun M1 a1 a2 => ?_)))
  rintro z3 rfl
  have hd := wdg (c := tlc t L (tsk t L p)) (lo := lo) (hi := hi) (tlc_le gd) hl hh
  refine x_within _ _ _ ⟨fun c => ?_, fun c => ?_⟩
  · have c' := hd.mp c
    rw [a2, qa_1]
    rintro M6 rfl
    rw [show nI (tlc t L (tsk t L p)) - 48 = nI (tlc t L (tsk t L p) - 48) from pk_sub (b := 48) (by omega)]
    exact h1 _ _ _ (if_pos c') (a1.trans pfx.u) ku_eq
  · exact h0 M1 _ (if_neg (fun z => hd.mpr z c)) a1 a2
theorem m_fails (v : Int32) (h : Q 0 (ku M 0 0 8 v)) : kCT l (rg_m, g) mX6_fails [.inr (.inr (0, 0)), .inl v] M (kqi Q) := by
  refine kct (by decide) (Nat.le_of_ble_eq_true rfl) (bX6_fails_0 _ M Q ?_)
  rintro M1 rfl
  exact h
theorem m_digit (p lo hi : Nat) (hp : p ≤ t) (hl : lo ≤ 9) (hh : hi ≤ 9) (gd : tgd t L) (tm : ttm t L M) (ep : M.1 0 0 7 = nI p) (h1 : ∀ M' v p', adg t L lo hi p = .inr (v, p') → pfm M M' → M'.1 0 0 7 = nI p' → Q (nI v) M') (h0 : ∀ M' f, adg t L lo hi p = .inl f → pfm M M' → M'.1 0 0 7 = nI f → M'.1 0 0 8 = nI f → Q (-1) M') : kCT l (rg_m, g) mX6_digit [.inr (.inr (0, 0)), .inl (nI lo), .inl (nI hi)] M (kqi Q) := by
  refine kct (by decide) (Nat.le_of_ble_eq_true rfl) (bX6_digit_0 _ _ M Q (m_here p hp gd tm ep (fun M1 a1 a8 a2 => ?_)))
  rintro z3 rfl
  have hd := wdm (p := tsk t L p) (lo := lo) (hi := hi) gd hl hh
  refine m_in _ _ _ rfl rfl ⟨fun c => ?_, fun c => ?_⟩
  · have c' := hd.mp c
    rw [a2, qa_1]
    rintro M6 rfl
    rw [mlc_dg gd (by omega)]
    exact h1 _ _ _ (if_pos c') (a1.trans (pfm.u (by omega))) ku_eq
  · rw [a2]
    exact m_fails _ (h0 _ _ (if_neg (fun z => hd.mpr z c)) (a1.trans (pfm.u (by omega))) (by rw [ku_ne (by omega)]; exact a2) ku_eq)
/-- is this letter next: then it is taken -/
theorem x_takes (p c : Nat) (hp : p ≤ t) (hc0 : 0 < c) (hc : c < 128) (gd : tgd t L) (tx : ttx t L M) (ep : M.1 4 0 3 = nI p) (h1 : ∀ M', tlc t L (tsk t L p) = c → pfx M M' → M'.1 4 0 3 = nI (tsk t L p + 1) → Q 1 M') (h0 : ∀ M', ¬ tlc t L (tsk t L p) = c → pfx M M' → M'.1 4 0 3 = nI (tsk t L p) → Q 0 M') : kCT l (rg_x, g) mX4_takes [.inr (.inr (4, 0)), .inl (nI c)] M (kqi Q) := by
  refine kct (by decide) (Nat.le_of_ble_eq_true rfl) (bX4_takes_0 _ M Q (x_letterHere p hp gd tx ep (fun M1 a1 a2 => ?_)))
  have hl := tlc_le (p := tsk t L p) gd
  rw [q_eq (by omega) (by omega)]
  refine ⟨fun z => ?_, fun z => h0 M1 z a1 a2⟩
  rw [a2, qa_1]
  rintro M3 rfl
  exact h1 _ z (a1.trans pfx.u) ku_eq
end KTP
