/-! ===== loosened ===== -/
theorem ffin_bd {one off : Int32} {S n c i : Nat} {R : Rc} (ok : rok R S n) (ml : fml S R) (bd : fbd n c R) (hi : i < n) : ∃ t, t ≤ c + 5920 ∧ ffin (flse one off) n R 6 i = nI t := frun_bd (one := one) (off := off) 32 c (R, fun _ => 0) ok ml bd i hi
def fls (A : Nat → Int32) : Nat → Nat → Int32 → Int32 → Int32 × Int32
  | 0, _, w, v => (w, v)
  | f + 1, s, w, v => if A s ≤ v then fls A f (s + 1) w v else fls A f (s + 1) (nI s) (A s)
section KLO
variable {l : Launch} {g g1 g2 : va_G × (Nat → ClassId) × (Nat → Nat → Nat)} {M Mx Mm : kM} {n : Nat} {Q : Int32 → kM → Prop} {Qv : kM → Prop}
theorem pair_loosened (hn : n < 512) (h : Inv n Mx Mm) (a1 a2 : Int32) : kPair l g1 g2 mX5_loosened mX6_loosened [.inl a1, .inl a2] Mx Mm (Inv (n + 1)) := by
  have e1 := h.riders
  refine kct (by decide) (Nat.le_of_ble_eq_true rfl) (bX5_loosened_0 a1 a2 Mx _ (x_isRider _ ⟨fun c => bX5_loosened_15 _ _ ?_, fun c => x_isZeroOrOne _ ⟨fun c2 => ?_, fun c2 => bX5_loosened_15 _ _ ?_⟩⟩))
  · rw [e1] at c
    exact kct (by decide) (Nat.le_of_ble_eq_true rfl) (bX6_loosened_0 _ a2 Mm _ (m_isRider _ ⟨fun _ => bX6_loosened_18 _ _ ⟨rfl, h.mono⟩, fun z => absurd c z⟩))
  · have c' := c
    obtain ⟨S, r, i, ok, hi, hr, rfl⟩ := h.isR c
    obtain ⟨S', r', q, ok', bd, -⟩ := h.1
    obtain ⟨rfl, rfl⟩ := rok_uniq ok ok'
    rw [e1] at c'
    have h8 := ok.2.1
    obtain ⟨b, hb, e5⟩ := ok.2.2.2.2 i hi
    have e5' : Mx.1 11 0 i = nI b := e5
    let A : Nat → Int32 := fun s => ffin (flse (nI i) ((1 : Int32) <<< (nI s &&& 31))) r' (rx Mx 0) 6 i
    have hA : ∀ s, ∃ t, t < 100000000 ∧ A s = nI t := by
      intro s
      obtain ⟨t, t1, t2⟩ := ffin_bd (one := nI i) (off := (1 : Int32) <<< (nI s &&& 31)) (c := B n) ok bd.1 bd.2 hi
      exact ⟨t, by unfold B at t1; omega, t2⟩
    simp (disch := omega) only [qa_0, qa_1, qa_2, qa_3, qa_4, qa_5, qa_6, qa_7, qa_8, qa_9, qa_10, qa_12, qa_16, qa_20, qa_21, qa_22, qa_23, qa_24, qa_26, qa_27, qa_30, qa_31, qa_32, qa_35, qa_36, qa_40, qa_44, qa_48, qa_49, qa_70, qa_81, qa_90, qa_96, qa_168, qa_217, qa_434, qa_442, qa_446, qa_450, qa_454, qa_455, qa_456, qa_457, qa_458, qa_466, qa_474, qa_478, qb_0, qb_1, qb_2, qb_3, qb_4, qb_5, qb_6, qb_7, qb_8, qb_9, qb_10, qb_12, qb_16, qb_20, qb_21, qb_22, qb_23, qb_24, qb_26, qb_27, qb_30, qb_31, qb_32, qb_35, qb_36, qb_40, qb_44, qb_48, qb_49, qb_70, qb_81, qb_90, qb_96, qb_168, qb_217, qb_434, qb_442, qb_446, qb_450, qb_454, qb_455, qb_456, qb_457, qb_458, qb_466, qb_474, qb_478, qm_0, qm_1, qm_2, qm_3, qm_4, qm_5, qm_6, qm_7, qm_8, qm_9, qm_10, qm_12, qm_16, qm_20, qm_21, qm_22, qm_23, qm_24, qm_26, qm_27, qm_30, qm_31, qm_32, qm_35, qm_36, qm_40, qm_44, qm_48, qm_49, qm_70, qm_81, qm_90, qm_96, qm_168, qm_217, qm_434, qm_442, qm_446, qm_450, qm_454, qm_455, qm_456, qm_457, qm_458, qm_466, qm_474, qm_478, ql_0, ql_1, ql_2, ql_3, ql_4, ql_5, ql_6, ql_7, ql_8, ql_9, ql_10, ql_12, ql_16, ql_20, ql_21, ql_22, ql_23, ql_24, ql_26, ql_27, ql_30, ql_31, ql_32, ql_35, ql_36, ql_40, ql_44, ql_48, ql_49, ql_70, ql_81, ql_90, ql_96, ql_168, ql_217, ql_434, ql_442, ql_446, ql_450, ql_454, ql_455, ql_456, ql_457, ql_458, ql_466, ql_474, ql_478, nI_add, q_cl, q_in, true_and]
    rw [e5']
    rintro z5 rfl
    have kx : ∀ f s, s + f = S' → ∀ M1 w v, xfr Mx M1 → ∀ Q : Int32 → kM → Prop, (∀ M2, xfr Mx M2 → Q (if a2 = 0 then (fls A f s w v).1 else (fls A f s w v).2) M2) → kWP l (rg_x, g1) mX5_loosened 35 [(0, .inr (.inr (0, 0))), (1, .inl (nI i)), (2, .inl a2), (3, .inl w), (4, .inl v), (5, .inl (nI s))] [] M1 (kqi Q) := by
      intro f
      induction f with
      | zero =>
        intro s hs M1 w v fx Q hQ
        refine bX5_loosened_35 _ _ _ _ _ _ _ ?_
        rw [show M1.1 1 0 0 = nI S' from (fx.1 1 0 0 (by omega)).trans ok.1]
        have := hQ M1 fx
        refine ⟨fun _ => ⟨fun z => bX5_loosened_102 _ _ _ ?_, fun z => bX5_loosened_102 _ _ _ ?_⟩, fun z => absurd ((q_le (by omega) (by omega)).mpr (by omega)) z⟩
        · rw [if_neg z] at this
          exact this
        · rw [if_pos z] at this
          exact this
      | succ f ih =>
        intro s hs M1 w v fx Q hQ
        refine bX5_loosened_35 _ _ _ _ _ _ _ ?_
        rw [show M1.1 1 0 0 = nI S' from (fx.1 1 0 0 (by omega)).trans ok.1]
        refine ⟨fun z => ?_, fun _ => x_begin S' r' (by rw [fx.r0]; exact ok) (fun M2 b1 b2 b3 => ?_)⟩
        · rw [q_le (by omega) (by omega)] at z
          omega
        · rw [fx.r0] at b2
          refine x_rtf i _ S' r' hi (b2.symm.ok ok) (fun M4 d1 d2 d3 => ?_)
          rw [← ffin_cg ok b2.symm hi]
          have fx5 := (fx.trans b1).trans d1
          refine ⟨fun z => bX5_loosened_86 _ _ _ _ _ _ _ ?_, fun z => bX5_loosened_86 _ _ _ _ _ _ _ ?_⟩
          · rintro z1 rfl
            rw [qa_1]
            refine ih (s + 1) (by omega) M4 w v fx5 Q (fun M6 hM => ?_)
            have := hQ M6 hM
            unfold fls at this
            rw [if_pos (show A s ≤ v from z)] at this
            exact this
          · rintro z1 rfl
            rw [qa_1]
            refine ih (s + 1) (by omega) M4 _ _ fx5 Q (fun M6 hM => ?_)
            have := hQ M6 hM
            unfold fls at this
            rw [if_neg (show ¬ A s ≤ v from z)] at this
            exact this
    refine kx (S' - b) b (by omega) Mx _ _ (xfr.refl _) _ (fun Mx' fx' => ?_)
    refine kct (by decide) (Nat.le_of_ble_eq_true rfl) (bX6_loosened_0 _ _ Mm _ (m_isRider _ ⟨fun z => absurd z c', fun _ => m_in _ 0 1 (by decide) (by decide) ⟨fun _ => ?_, fun z => absurd z c2⟩⟩))
    simp (disch := omega) only [qa_0, qa_1, qa_2, qa_3, qa_4, qa_5, qa_6, qa_7, qa_8, qa_9, qa_10, qa_12, qa_16, qa_20, qa_21, qa_22, qa_23, qa_24, qa_26, qa_27, qa_30, qa_31, qa_32, qa_35, qa_36, qa_40, qa_44, qa_48, qa_49, qa_70, qa_81, qa_90, qa_96, qa_168, qa_217, qa_434, qa_442, qa_446, qa_450, qa_454, qa_455, qa_456, qa_457, qa_458, qa_466, qa_474, qa_478, qb_0, qb_1, qb_2, qb_3, qb_4, qb_5, qb_6, qb_7, qb_8, qb_9, qb_10, qb_12, qb_16, qb_20, qb_21, qb_22, qb_23, qb_24, qb_26, qb_27, qb_30, qb_31, qb_32, qb_35, qb_36, qb_40, qb_44, qb_48, qb_49, qb_70, qb_81, qb_90, qb_96, qb_168, qb_217, qb_434, qb_442, qb_446, qb_450, qb_454, qb_455, qb_456, qb_457, qb_458, qb_466, qb_474, qb_478, qm_0, qm_1, qm_2, qm_3, qm_4, qm_5, qm_6, qm_7, qm_8, qm_9, qm_10, qm_12, qm_16, qm_20, qm_21, qm_22, qm_23, qm_24, qm_26, qm_27, qm_30, qm_31, qm_32, qm_35, qm_36, qm_40, qm_44, qm_48, qm_49, qm_70, qm_81, qm_90, qm_96, qm_168, qm_217, qm_434, qm_442, qm_446, qm_450, qm_454, qm_455, qm_456, qm_457, qm_458, qm_466, qm_474, qm_478, ql_0, ql_1, ql_2, ql_3, ql_4, ql_5, ql_6, ql_7, ql_8, ql_9, ql_10, ql_12, ql_16, ql_20, ql_21, ql_22, ql_23, ql_24, ql_26, ql_27, ql_30, ql_31, ql_32, ql_35, ql_36, ql_40, ql_44, ql_48, ql_49, ql_70, ql_81, ql_90, ql_96, ql_168, ql_217, ql_434, ql_442, ql_446, ql_450, ql_454, ql_455, ql_456, ql_457, ql_458, ql_466, ql_474, ql_478, nI_add, q_cl, q_in, true_and]
    rw [show Mm.1 1 0 (8 + i) = nI b from (rmd_ap (f := 5) (j := i) q (by decide) (by first | (show _ < 4; omega) | (show _ < 8; omega) | exact fln_s (by assumption) (by omega) (by omega) (by omega) | exact fln_r (by assumption) (by omega) (by omega))).symm.trans e5]
    rintro z5 rfl
    have eS : Mm.1 1 0 21 = nI S' := by
      rw [← h.stages]
      exact ok.1
    have km : ∀ f s, s + f = S' → ∀ M1 w v, (w = -4 → v = -4) → mfr Mm M1 → ∀ Q : Int32 → kM → Prop, (∀ M2, mfr Mm M2 → Q (if a2 = 0 then (fls A f s w v).1 else (fls A f s w v).2) M2) → kWP l (rg_m, g2) mX6_loosened 38 [(0, .inr (.inr (0, 0))), (1, .inl (nI i)), (2, .inl a2), (3, .inl w), (4, .inl v), (5, .inl (nI s))] [] M1 (kqi Q) := by
      intro f
      induction f with
      | zero =>
        intro s hs M1 w v hwv fm Q hQ
        refine bX6_loosened_38 _ _ _ _ _ _ _ ?_
        rw [ql_21, show M1.1 1 0 21 = nI S' from (fm.1 1 0 21 (by omega)).trans eS]
        have := hQ M1 fm
        refine ⟨fun _ => ⟨fun z => bX6_loosened_127 _ _ _ ?_, fun z => bX6_loosened_127 _ _ _ ?_⟩, fun z => absurd ((q_le (by omega) (by omega)).mpr (by omega)) z⟩
        · rw [if_neg z] at this
          exact this
        · rw [if_pos z] at this
          exact this
      | succ f ih =>
        intro s hs M1 w v hwv fm Q hQ
        refine bX6_loosened_38 _ _ _ _ _ _ _ ?_
        rw [ql_21, show M1.1 1 0 21 = nI S' from (fm.1 1 0 21 (by omega)).trans eS]
        refine ⟨fun z => ?_, fun _ => m_tries (fun M2 b1 b2 => ?_)⟩
        · rw [q_le (by omega) (by omega)] at z
          omega
        · have b2' : req (rmd M2 434) (rx Mx 0) := b2.trans (fm.r0.trans q.symm)
          refine m_rid _ _ S' r' (b2'.symm.ok ok) (fun M4 d1 d2 => ?_)
          have g6 : M4.1 1 0 (446 + i) = A s := by
            have := d2 i hi
            rw [← ffin_cg ok b2'.symm hi] at this
            exact this
          have fm4 := (fm.trans b1).trans d1
          simp (disch := omega) only [qa_0, qa_1, qa_2, qa_3, qa_4, qa_5, qa_6, qa_7, qa_8, qa_9, qa_10, qa_12, qa_16, qa_20, qa_21, qa_22, qa_23, qa_24, qa_26, qa_27, qa_30, qa_31, qa_32, qa_35, qa_36, qa_40, qa_44, qa_48, qa_49, qa_70, qa_81, qa_90, qa_96, qa_168, qa_217, qa_434, qa_442, qa_446, qa_450, qa_454, qa_455, qa_456, qa_457, qa_458, qa_466, qa_474, qa_478, qb_0, qb_1, qb_2, qb_3, qb_4, qb_5, qb_6, qb_7, qb_8, qb_9, qb_10, qb_12, qb_16, qb_20, qb_21, qb_22, qb_23, qb_24, qb_26, qb_27, qb_30, qb_31, qb_32, qb_35, qb_36, qb_40, qb_44, qb_48, qb_49, qb_70, qb_81, qb_90, qb_96, qb_168, qb_217, qb_434, qb_442, qb_446, qb_450, qb_454, qb_455, qb_456, qb_457, qb_458, qb_466, qb_474, qb_478, qm_0, qm_1, qm_2, qm_3, qm_4, qm_5, qm_6, qm_7, qm_8, qm_9, qm_10, qm_12, qm_16, qm_20, qm_21, qm_22, qm_23, qm_24, qm_26, qm_27, qm_30, qm_31, qm_32, qm_35, qm_36, qm_40, qm_44, qm_48, qm_49, qm_70, qm_81, qm_90, qm_96, qm_168, qm_217, qm_434, qm_442, qm_446, qm_450, qm_454, qm_455, qm_456, qm_457, qm_458, qm_466, qm_474, qm_478, ql_0, ql_1, ql_2, ql_3, ql_4, ql_5, ql_6, ql_7, ql_8, ql_9, ql_10, ql_12, ql_16, ql_20, ql_21, ql_22, ql_23, ql_24, ql_26, ql_27, ql_30, ql_31, ql_32, ql_35, ql_36, ql_40, ql_44, ql_48, ql_49, ql_70, ql_81, ql_90, ql_96, ql_168, ql_217, ql_434, ql_442, ql_446, ql_450, ql_454, ql_455, ql_456, ql_457, ql_458, ql_466, ql_474, ql_478, nI_add, q_cl, q_in, true_and]
          rw [g6]
          rintro z3 rfl
          have up : ¬ A s ≤ v → kWP l (rg_m, g2) mX6_loosened 88 [(0, .inr (.inr (0, 0))), (1, .inl (nI i)), (2, .inl a2), (4, .inl v), (5, .inl (nI s)), (6, .inl (A s))] [] M4 (kqi Q) := by
            intro z
            refine bX6_loosened_88 _ _ _ _ _ _ _ (bX6_loosened_94 _ _ _ _ _ _ _ _ ⟨fun z2 => absurd z2 z, fun _ => bX6_loosened_109 _ _ _ _ _ _ _ ?_⟩)
            rintro z1 rfl
            rw [qa_1]
            refine ih (s + 1) (by omega) M4 _ _ (fun w => absurd w (nI_neg4 (by omega))) fm4 Q (fun M6 hM => ?_)
            have := hQ M6 hM
            unfold fls at this
            rw [if_neg z] at this
            exact this
          refine ⟨fun z => up ?_, fun _ => ⟨fun z => ?_, fun z => up z⟩⟩
          · obtain ⟨t, t1, t2⟩ := hA s
            rw [hwv z, t2]
            intro w
            rw [Int32.le_iff_toInt_le, nI_toInt (by omega)] at w
            have : (-4 : Int32).toInt = -4 := by decide
            omega
          · refine bX6_loosened_94 _ _ _ _ _ _ _ _ ⟨fun _ => bX6_loosened_109 _ _ _ _ _ _ _ ?_, fun z2 => absurd z z2⟩
            rintro z1 rfl
            rw [qa_1]
            refine ih (s + 1) (by omega) M4 w v hwv fm4 Q (fun M6 hM => ?_)
            have := hQ M6 hM
            unfold fls at this
            rw [if_pos z] at this
            exact this
    exact km (S' - b) b (by omega) Mm _ _ (fun _ => rfl) (mfr.refl _) _ (fun Mm' fm' => ⟨rfl, h.next fx'.same fm'.same⟩)
  · rw [e1] at c
    exact kct (by decide) (Nat.le_of_ble_eq_true rfl) (bX6_loosened_0 _ a2 Mm _ (m_isRider _ ⟨fun z => absurd z c, fun _ => m_in _ 0 1 (by decide) (by decide) ⟨fun z => absurd c2 z, fun _ => bX6_loosened_18 _ _ ⟨rfl, h.mono⟩⟩⟩))
end KLO
