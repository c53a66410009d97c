/-! ===== passed, film ===== -/
def fcm (n : Nat) (R : Rc) : Nat → Int32 := (frun fno n 32 (R, fun _ => 0)).2
theorem fcm_at {S n k i b s : Nat} {R T : Rc} {C : Nat → Int32} (ok : rok R S n) (q : req R T) (hi : i < n) (e5 : R 5 i = nI b) (th : ¬ (frun fno n k (R, C)).1 5 i < (frun fno n k (R, C)).1 0 0) (h1 : b + 1 ≤ s) (h2 : s ≤ S) : (frun fno n k (R, C)).2 (9 * i + s) = fcm n T (9 * i + s) := by
  have h8 := ok.2.1
  have sm : fsim n (fun r => (R 5 r).toNatClampNeg + 1) (R, C) (T, fun _ => 0) := ⟨q, fun r hr s a1 a2 => by
    have a1' : (R 5 r).toNatClampNeg + 1 ≤ s := a1
    have a2' : s ≤ (R 5 r).toNatClampNeg := a2
    omega⟩
  have := frun_cmp (k := k) (j := 32) (i := i) (X := (R, C)) (Y := (T, fun _ => 0)) ok sm hi th (frun_end 32 _ (q.ok ok) (frem_32 (q.ok ok)))
  have hb : b ≤ S := by
    obtain ⟨b', hb', e⟩ := ok.2.2.2.2 i hi
    have := (q_eq (by omega) (by omega)).mp (e5.symm.trans e)
    omega
  exact (this.2.2 s (by show (R 5 i).toNatClampNeg + 1 ≤ s; rw [e5, q_cl (by omega)]; exact h1) h2).symm
def rowv (Mx Mm : kM) (a1 a2 a3 a4 a5 v : Int32) : Prop :=
  (v = -1 ∧ (wth a1 0 (Mx.1 1 0 1 - 1) = 0 ∨ wth a2 0 3 = 0 ∨ wth a3 0 3 = 0 ∨ wth a5 1 8 = 0)) ∨
  ((¬ wth a1 0 (Mx.1 1 0 1 - 1) = 0 ∧ ¬ wth a2 0 3 = 0 ∧ ¬ wth a3 0 3 = 0 ∧ ¬ wth a5 1 8 = 0) ∧ ∃ s, s < 4 ∧ a2 = nI s ∧
    ((v = -11 ∧ Mm.1 5 0 s = -1) ∨
     ∃ z, z ≤ 24 ∧ ¬ Mm.1 5 0 s = -1 ∧ Mx.1 5 s 0 = Mm.1 4 0 s ∧ Mm.1 5 0 s = nI z ∧ (∀ j, j < 24 → Mx.2 18 s j = Mm.2 3 0 (24 * s + j)) ∧
       ((v = -12 ∧ ¬ Mm.1 4 0 s = a3) ∨ (v = -13 ∧ Mm.1 4 0 s = a3 ∧ ¬ hld z a4 a5) ∨
        (Mm.1 4 0 s = a3 ∧ hld z a4 a5 ∧ ((v = -2 ∧ ¬ a5 ≤ Mx.1 1 0 0 - Mx.1 11 0 a1.toNatClampNeg) ∨ (v = 0 ∧ a5 ≤ Mx.1 1 0 0 - Mx.1 11 0 a1.toNatClampNeg))))))
section KFL
variable {l : Launch} {g g1 g2 : va_G × (Nat → ClassId) × (Nat → Nat → Nat)} {M Mx Mm : kM} {n : Nat} {Q : Int32 → kM → Prop} {Qv : kM → Prop}
theorem x_rowFault (h : Inv n Mx Mm) (a1 a2 a3 a4 a5 : Int32) (H : ∀ v, rowv Mx Mm a1 a2 a3 a4 a5 v → Q v Mx) : kCT l (rg_x, g) mX5_rowFault [.inr (.inr (0, 0)), .inl a1, .inl a2, .inl a3, .inl a4, .inl a5] Mx (kqi Q) := by
  refine kct (by decide) (Nat.le_of_ble_eq_true rfl) (bX5_rowFault_0 a1 a2 a3 a4 a5 Mx Q (x_isRider _ ⟨fun c => bX5_rowFault_33 _ _ (H _ (Or.inl ⟨rfl, Or.inl c⟩)), fun c1 => x_isSheet _ ⟨fun c => bX5_rowFault_33 _ _ (H _ (Or.inl ⟨rfl, Or.inr (Or.inl c)⟩)), fun c2 => x_isLane _ ⟨fun c => bX5_rowFault_33 _ _ (H _ (Or.inl ⟨rfl, Or.inr (Or.inr (Or.inl c))⟩)), fun c3 => x_within _ _ _ ⟨fun c4 => ?_, fun c => bX5_rowFault_33 _ _ (H _ (Or.inl ⟨rfl, Or.inr (Or.inr (Or.inr c))⟩))⟩⟩⟩⟩))
  have cc : ¬ wth a1 0 (Mx.1 1 0 1 - 1) = 0 ∧ ¬ wth a2 0 3 = 0 ∧ ¬ wth a3 0 3 = 0 ∧ ¬ wth a5 1 8 = 0 := ⟨c1, c2, c3, c4⟩
  obtain ⟨S, r, i, ok, hi, hr, rfl⟩ := h.isR c1
  obtain ⟨s, s0, s3, rfl⟩ := wth_rg (lo := 0) (hi := 3) (by decide) (by decide) c2
  have ecl : (nI i).toNatClampNeg = i := q_cl (by omega)
  simp (disch := omega) only [qa_0, qa_1, qa_2, qa_3, qa_4, qa_5, qa_6, qa_7, qa_8, qa_9, qa_10, qa_12, qa_16, qa_20, qa_21, qa_22, qa_23, qa_24, qa_26, qa_27, qa_30, qa_31, qa_32, qa_35, qa_36, qa_40, qa_44, qa_48, qa_49, qa_70, qa_81, qa_90, qa_96, qa_168, qa_217, qa_434, qa_442, qa_446, qa_450, qa_454, qa_455, qa_456, qa_457, qa_458, qa_466, qa_474, qa_478, qb_0, qb_1, qb_2, qb_3, qb_4, qb_5, qb_6, qb_7, qb_8, qb_9, qb_10, qb_12, qb_16, qb_20, qb_21, qb_22, qb_23, qb_24, qb_26, qb_27, qb_30, qb_31, qb_32, qb_35, qb_36, qb_40, qb_44, qb_48, qb_49, qb_70, qb_81, qb_90, qb_96, qb_168, qb_217, qb_434, qb_442, qb_446, qb_450, qb_454, qb_455, qb_456, qb_457, qb_458, qb_466, qb_474, qb_478, qm_0, qm_1, qm_2, qm_3, qm_4, qm_5, qm_6, qm_7, qm_8, qm_9, qm_10, qm_12, qm_16, qm_20, qm_21, qm_22, qm_23, qm_24, qm_26, qm_27, qm_30, qm_31, qm_32, qm_35, qm_36, qm_40, qm_44, qm_48, qm_49, qm_70, qm_81, qm_90, qm_96, qm_168, qm_217, qm_434, qm_442, qm_446, qm_450, qm_454, qm_455, qm_456, qm_457, qm_458, qm_466, qm_474, qm_478, ql_0, ql_1, ql_2, ql_3, ql_4, ql_5, ql_6, ql_7, ql_8, ql_9, ql_10, ql_12, ql_16, ql_20, ql_21, ql_22, ql_23, ql_24, ql_26, ql_27, ql_30, ql_31, ql_32, ql_35, ql_36, ql_40, ql_44, ql_48, ql_49, ql_70, ql_81, ql_90, ql_96, ql_168, ql_217, ql_434, ql_442, ql_446, ql_450, ql_454, ql_455, ql_456, ql_457, ql_458, ql_466, ql_474, ql_478, nI_add, q_cl, q_in, true_and]
  rcases h.2.2.2 s (by omega) with ⟨i1, i2⟩ | ⟨z, z1, z2, z3, z4, z5, z6⟩
  · exact x_faultOf s 0 (by omega) (fun z => absurd i1 z) (fun _ => ⟨fun z => absurd z (by decide), fun _ => H _ (Or.inr ⟨cc, s, by omega, rfl, Or.inl ⟨rfl, i2⟩⟩)⟩) (fun z => absurd i1 z) (fun z => absurd i1 z) (fun z => absurd i1 z)
  · have nz : ¬ Mm.1 5 0 s = -1 := by
      rw [z5]
      intro q
      have h1 := nI_toInt (n := z) (by omega)
      rw [q] at h1
      have : (-1 : Int32).toInt = -1 := by decide
      omega
    have rest := fun v hv => H v (Or.inr ⟨cc, s, by omega, rfl, Or.inr ⟨z, z1, nz, z3, z5, z6, hv⟩⟩)
    refine x_faultOf s z z1 (fun _ => z4) (fun q => absurd q z2) (fun _ c => ⟨fun z => absurd z (by decide), fun _ => rest _ (Or.inl ⟨rfl, fun e => c (z3.trans e)⟩)⟩) (fun _ c c5 => ⟨fun z => absurd z (by decide), fun _ => rest _ (Or.inr (Or.inl ⟨rfl, z3.symm.trans c, c5⟩))⟩) (fun _ c c5 => ⟨fun _ => ⟨fun c6 => bX5_rowFault_87 _ _ _ ?_, fun c6 => bX5_rowFault_87 _ _ _ ?_⟩, fun z => absurd (by decide) z⟩)
    · exact rest _ (Or.inr (Or.inr ⟨z3.symm.trans c, c5, Or.inr ⟨rfl, by rw [ecl]; exact c6⟩⟩))
    · exact rest _ (Or.inr (Or.inr ⟨z3.symm.trans c, c5, Or.inl ⟨rfl, by rw [ecl]; exact c6⟩⟩))
theorem rowv.neg {a1 a2 a3 a4 a5 v : Int32} (hv : rowv Mx Mm a1 a2 a3 a4 a5 v) : v = 0 ∨ ¬ 0 ≤ v := by
  rcases hv with ⟨rfl, -⟩ | ⟨-, s, -, -, ⟨rfl, -⟩ | ⟨z, -, -, -, -, -, ⟨rfl, -⟩ | ⟨rfl, -⟩ | ⟨-, -, ⟨rfl, -⟩ | ⟨rfl, -⟩⟩⟩⟩
  · exact Or.inr (by decide)
  · exact Or.inr (by decide)
  · exact Or.inr (by decide)
  · exact Or.inr (by decide)
  · exact Or.inr (by decide)
  · exact Or.inl rfl
/-- all the numbers of a good row -/
theorem rowv.good (h : Inv n Mx Mm) {a1 a2 a3 a4 a5 : Int32} (hv : rowv Mx Mm a1 a2 a3 a4 a5 0) : ∃ S r i s z j m b, rok (rx Mx 0) S r ∧ i < r ∧ r ≤ 4 ∧ s < 4 ∧ z ≤ 24 ∧ 1 ≤ m ∧ m ≤ 8 ∧ j + m ≤ z ∧ rx Mx 0 5 i = nI b ∧ b + m ≤ S ∧ a1 = nI i ∧ a2 = nI s ∧ a4 = nI j ∧ a5 = nI m ∧ a3 = Mm.1 4 0 s ∧ Mx.1 5 s 0 = Mm.1 4 0 s ∧ Mm.1 5 0 s = nI z ∧ (∀ j, j < 24 → Mx.2 18 s j = Mm.2 3 0 (24 * s + j)) := by
  rcases hv with ⟨e, -⟩ | ⟨⟨c1, c2, c3, c4⟩, s, hs, rfl, ⟨e, -⟩ | ⟨z, z1, z2, z3, z4, z5, ⟨e, -⟩ | ⟨e, -⟩ | ⟨c5, c6, ⟨e, -⟩ | ⟨-, c7⟩⟩⟩⟩
  · exact absurd e (by decide)
  · exact absurd e (by decide)
  · exact absurd e (by decide)
  · exact absurd e (by decide)
  · exact absurd e (by decide)
  · obtain ⟨S, r, i, ok, hi, hr, rfl⟩ := h.isR c1
    obtain ⟨m, m1, m8, rfl⟩ := wth_rg (lo := 1) (hi := 8) (by decide) (by decide) c4
    obtain ⟨k1, k2, k3⟩ := c6
    obtain ⟨j, hj, rfl⟩ := nI_of k1
    rw [q_cl hj, q_cl (by omega)] at k3
    obtain ⟨b, hb, e5⟩ := ok.2.2.2.2 i hi
    have h8 := ok.2.1
    rw [q_cl (by omega), show Mx.1 1 0 0 = nI S from ok.1, show Mx.1 11 0 i = nI b from e5, pk_sub hb, q_le (by omega) (by omega)] at c7
    exact ⟨S, r, i, s, z, j, m, b, ok, hi, hr, hs, z1, m1, m8, k3, e5, by omega, rfl, rfl, rfl, rfl, c5.symm, z3, z4, z5⟩
theorem m_passed (h : Inv n Mx Mm) {a1 a2 a3 a4 a5 v : Int32} (hv : rowv Mx Mm a1 a2 a3 a4 a5 v) (h1 : ¬ v = 0 → Q v Mm) (h0 : v = 0 → kWP l (rg_m, g) mX6_passed 86 [(0, .inr (.inr (0, 0))), (1, .inl a1), (2, .inl a2), (4, .inl a4), (5, .inl a5), (7, .inl (Mx.1 11 0 a1.toNatClampNeg)), (8, .inl 0), (9, .inl 0)] [] Mm (kqi Q)) : kCT l (rg_m, g) mX6_passed [.inr (.inr (0, 0)), .inl a1, .inl a2, .inl a3, .inl a4, .inl a5] Mm (kqi Q) := by
  have e1 := h.riders
  rcases hv with ⟨rfl, hb⟩ | ⟨⟨c1, c2, c3, c4⟩, s, hs, rfl, hb⟩
  · have hq := h1 (by decide)
    rw [e1] at hb
    refine kct (by decide) (Nat.le_of_ble_eq_true rfl) (bX6_passed_0 a1 a2 a3 a4 a5 Mm Q (m_isRider _ ⟨fun _ => bX6_passed_29 _ _ hq, fun c1 => m_isLane _ _ ⟨fun _ => bX6_passed_29 _ _ hq, fun c2 => m_in _ 1 8 (by decide) (by decide) ⟨fun c3 => ?_, fun _ => bX6_passed_29 _ _ hq⟩⟩⟩))
    have c2' := lan_ne.mp c2
    rcases hb with hb | hb | hb | hb
    · exact absurd hb c1
    · exact absurd hb c2'.1
    · exact absurd hb c2'.2
    · exact absurd hb c3
  · have c1' := c1
    rw [e1] at c1'
    obtain ⟨S, r, i, ok, hi, hr, rfl⟩ := h.isR c1
    obtain ⟨S', r', q, -⟩ := h.1
    refine kct (by decide) (Nat.le_of_ble_eq_true rfl) (bX6_passed_0 (nI i) _ a3 a4 a5 Mm Q (m_isRider _ ⟨fun z => absurd z c1', fun _ => m_isLane _ _ ⟨fun z => absurd z (lan_ne.mpr ⟨c2, c3⟩), fun _ => m_in _ 1 8 (by decide) (by decide) ⟨fun _ => ?_, fun z => absurd z c4⟩⟩⟩))
    simp (disch := omega) only [qa_0, qa_1, qa_2, qa_3, qa_4, qa_5, qa_6, qa_7, qa_8, qa_9, qa_10, qa_12, qa_16, qa_20, qa_21, qa_22, qa_23, qa_24, qa_26, qa_27, qa_30, qa_31, qa_32, qa_35, qa_36, qa_40, qa_44, qa_48, qa_49, qa_70, qa_81, qa_90, qa_96, qa_168, qa_217, qa_434, qa_442, qa_446, qa_450, qa_454, qa_455, qa_456, qa_457, qa_458, qa_466, qa_474, qa_478, qb_0, qb_1, qb_2, qb_3, qb_4, qb_5, qb_6, qb_7, qb_8, qb_9, qb_10, qb_12, qb_16, qb_20, qb_21, qb_22, qb_23, qb_24, qb_26, qb_27, qb_30, qb_31, qb_32, qb_35, qb_36, qb_40, qb_44, qb_48, qb_49, qb_70, qb_81, qb_90, qb_96, qb_168, qb_217, qb_434, qb_442, qb_446, qb_450, qb_454, qb_455, qb_456, qb_457, qb_458, qb_466, qb_474, qb_478, qm_0, qm_1, qm_2, qm_3, qm_4, qm_5, qm_6, qm_7, qm_8, qm_9, qm_10, qm_12, qm_16, qm_20, qm_21, qm_22, qm_23, qm_24, qm_26, qm_27, qm_30, qm_31, qm_32, qm_35, qm_36, qm_40, qm_44, qm_48, qm_49, qm_70, qm_81, qm_90, qm_96, qm_168, qm_217, qm_434, qm_442, qm_446, qm_450, qm_454, qm_455, qm_456, qm_457, qm_458, qm_466, qm_474, qm_478, ql_0, ql_1, ql_2, ql_3, ql_4, ql_5, ql_6, ql_7, ql_8, ql_9, ql_10, ql_12, ql_16, ql_20, ql_21, ql_22, ql_23, ql_24, ql_26, ql_27, ql_30, ql_31, ql_32, ql_35, ql_36, ql_40, ql_44, ql_48, ql_49, ql_70, ql_81, ql_90, ql_96, ql_168, ql_217, ql_434, ql_442, ql_446, ql_450, ql_454, ql_455, ql_456, ql_457, ql_458, ql_466, ql_474, ql_478, nI_add, q_cl, q_in, true_and]
    have e5 : Mm.1 1 0 (8 + i) = Mx.1 11 0 i := (rmd_ap (f := 5) (j := i) q (by decide) (by first | (show _ < 4; omega) | (show _ < 8; omega) | exact fln_s (by assumption) (by omega) (by omega) (by omega) | exact fln_r (by assumption) (by omega) (by omega))).symm
    rw [q_cl (by omega)] at h0 hb
    rcases hb with ⟨rfl, i2⟩ | ⟨z, z1, nz, z3, z5, z6, hb⟩
    · exact m_against s 0 hs (by omega) (Or.inl i2) (fun _ => ⟨fun z => absurd z (by decide), fun _ => h1 (by decide)⟩) (fun z => absurd (i2.symm.trans z) (by decide)) (fun z => absurd (i2.symm.trans z) (by decide)) (fun z => absurd (i2.symm.trans z) (by decide))
    · rcases hb with ⟨rfl, d1⟩ | ⟨rfl, d1, d2⟩ | ⟨d1, d2, d3⟩
      · exact m_against s z hs z1 (Or.inr z5) (fun q => absurd q nz) (fun _ _ => ⟨fun z => absurd z (by decide), fun _ => h1 (by decide)⟩) (fun _ q => absurd q d1) (fun _ q => absurd q d1)
      · exact m_against s z hs z1 (Or.inr z5) (fun q => absurd q nz) (fun _ q => absurd d1 q) (fun _ _ _ => ⟨fun z => absurd z (by decide), fun _ => h1 (by decide)⟩) (fun _ _ q => absurd q d2)
      · refine m_against s z hs z1 (Or.inr z5) (fun q => absurd q nz) (fun _ q => absurd d1 q) (fun _ _ q => absurd d2 q) (fun _ _ _ => ⟨fun _ => ?_, fun z => absurd (by decide) z⟩)
        rw [e5, ← h.stages]
        rintro z9 rfl
        rcases d3 with ⟨rfl, d3⟩ | ⟨rfl, d3⟩
        · exact ⟨fun z => absurd z d3, fun _ => h1 (by decide)⟩
        · exact ⟨fun _ => h0 rfl, fun z => absurd d3 z⟩
theorem m_film (h : Inv n Mx Mm) {a1 a2 a3 a4 a5 v : Int32} (hv : rowv Mx Mm a1 a2 a3 a4 a5 v) (h1 : ¬ v = 0 → Q v Mm) (h0 : v = 0 → kCT l (rg_m, g) mX6_foretells [.inr (.inr (0, 0))] Mm (kqv (fun M => kWP l (rg_m, g) mX6_film 86 [(0, .inr (.inr (0, 0))), (1, .inl a1), (2, .inl a5), (3, .inl a2), (4, .inl a3), (5, .inl a4), (7, .inl (Mx.1 11 0 a1.toNatClampNeg)), (8, .inl 0)] [] M (kqi Q)))) : kCT l (rg_m, g) mX6_film [.inr (.inr (0, 0)), .inl a1, .inl a5, .inl a2, .inl a3, .inl a4] Mm (kqi Q) := by
  have e1 := h.riders
  rcases hv with ⟨rfl, hb⟩ | ⟨⟨c1, c2, c3, c4⟩, s, hs, rfl, hb⟩
  · have hq := h1 (by decide)
    rw [e1] at hb
    refine kct (by decide) (Nat.le_of_ble_eq_true rfl) (bX6_film_0 a1 a5 a2 a3 a4 Mm Q (m_isRider _ ⟨fun _ => bX6_film_29 _ _ hq, fun c1 => m_in _ 1 8 (by decide) (by decide) ⟨fun _ => bX6_film_29 _ _ hq, fun c3 => m_isLane _ _ ⟨fun c2 => ?_, fun _ => bX6_film_29 _ _ hq⟩⟩⟩))
    have c2' := lan_ne.mp c2
    rcases hb with hb | hb | hb | hb
    · exact absurd hb c1
    · exact absurd hb c2'.1
    · exact absurd hb c2'.2
    · exact absurd hb c3
  · have c1' := c1
    rw [e1] at c1'
    obtain ⟨S, r, i, ok, hi, hr, rfl⟩ := h.isR c1
    obtain ⟨S', r', q, -⟩ := h.1
    refine kct (by decide) (Nat.le_of_ble_eq_true rfl) (bX6_film_0 (nI i) a5 _ a3 a4 Mm Q (m_isRider _ ⟨fun z => absurd z c1', fun _ => m_in _ 1 8 (by decide) (by decide) ⟨fun z => absurd z c4, fun _ => m_isLane _ _ ⟨fun _ => ?_, fun z => absurd z (lan_ne.mpr ⟨c2, c3⟩)⟩⟩⟩))
    simp (disch := omega) only [qa_0, qa_1, qa_2, qa_3, qa_4, qa_5, qa_6, qa_7, qa_8, qa_9, qa_10, qa_12, qa_16, qa_20, qa_21, qa_22, qa_23, qa_24, qa_26, qa_27, qa_30, qa_31, qa_32, qa_35, qa_36, qa_40, qa_44, qa_48, qa_49, qa_70, qa_81, qa_90, qa_96, qa_168, qa_217, qa_434, qa_442, qa_446, qa_450, qa_454, qa_455, qa_456, qa_457, qa_458, qa_466, qa_474, qa_478, qb_0, qb_1, qb_2, qb_3, qb_4, qb_5, qb_6, qb_7, qb_8, qb_9, qb_10, qb_12, qb_16, qb_20, qb_21, qb_22, qb_23, qb_24, qb_26, qb_27, qb_30, qb_31, qb_32, qb_35, qb_36, qb_40, qb_44, qb_48, qb_49, qb_70, qb_81, qb_90, qb_96, qb_168, qb_217, qb_434, qb_442, qb_446, qb_450, qb_454, qb_455, qb_456, qb_457, qb_458, qb_466, qb_474, qb_478, qm_0, qm_1, qm_2, qm_3, qm_4, qm_5, qm_6, qm_7, qm_8, qm_9, qm_10, qm_12, qm_16, qm_20, qm_21, qm_22, qm_23, qm_24, qm_26, qm_27, qm_30, qm_31, qm_32, qm_35, qm_36, qm_40, qm_44, qm_48, qm_49, qm_70, qm_81, qm_90, qm_96, qm_168, qm_217, qm_434, qm_442, qm_446, qm_450, qm_454, qm_455, qm_456, qm_457, qm_458, qm_466, qm_474, qm_478, ql_0, ql_1, ql_2, ql_3, ql_4, ql_5, ql_6, ql_7, ql_8, ql_9, ql_10, ql_12, ql_16, ql_20, ql_21, ql_22, ql_23, ql_24, ql_26, ql_27, ql_30, ql_31, ql_32, ql_35, ql_36, ql_40, ql_44, ql_48, ql_49, ql_70, ql_81, ql_90, ql_96, ql_168, ql_217, ql_434, ql_442, ql_446, ql_450, ql_454, ql_455, ql_456, ql_457, ql_458, ql_466, ql_474, ql_478, nI_add, q_cl, q_in, true_and]
    have e5 : Mm.1 1 0 (8 + i) = Mx.1 11 0 i := (rmd_ap (f := 5) (j := i) q (by decide) (by first | (show _ < 4; omega) | (show _ < 8; omega) | exact fln_s (by assumption) (by omega) (by omega) (by omega) | exact fln_r (by assumption) (by omega) (by omega))).symm
    rw [q_cl (by omega)] at h0 hb
    rcases hb with ⟨rfl, i2⟩ | ⟨z, z1, nz, z3, z5, z6, hb⟩
    · exact m_against s 0 hs (by omega) (Or.inl i2) (fun _ => ⟨fun z => absurd z (by decide), fun _ => h1 (by decide)⟩) (fun z => absurd (i2.symm.trans z) (by decide)) (fun z => absurd (i2.symm.trans z) (by decide)) (fun z => absurd (i2.symm.trans z) (by decide))
    · rcases hb with ⟨rfl, d1⟩ | ⟨rfl, d1, d2⟩ | ⟨d1, d2, d3⟩
      · exact m_against s z hs z1 (Or.inr z5) (fun q => absurd q nz) (fun _ _ => ⟨fun z => absurd z (by decide), fun _ => h1 (by decide)⟩) (fun _ q => absurd q d1) (fun _ q => absurd q d1)
      · exact m_against s z hs z1 (Or.inr z5) (fun q => absurd q nz) (fun _ q => absurd d1 q) (fun _ _ _ => ⟨fun z => absurd z (by decide), fun _ => h1 (by decide)⟩) (fun _ _ q => absurd q d2)
      · refine m_against s z hs z1 (Or.inr z5) (fun q => absurd q nz) (fun _ q => absurd d1 q) (fun _ _ q => absurd d2 q) (fun _ _ _ => ⟨fun _ => ?_, fun z => absurd (by decide) z⟩)
        rw [e5, ← h.stages]
        rintro z9 rfl
        rcases d3 with ⟨rfl, d3⟩ | ⟨rfl, d3⟩
        · exact ⟨fun z => absurd z d3, fun _ => h1 (by decide)⟩
        · exact ⟨fun _ => h0 rfl, fun z => absurd d3 z⟩
/-- is the row told: from k on -/
def ftl (A : Nat → Int64) (D : Nat → Int32) : Nat → Nat → Bool
  | 0, _ => true
  | f + 1, k => if A k = (D k).toInt64 then ftl A D f (k + 1) else false
def fps (P : Nat → Bool) : Nat → Nat → Int32 → Int32
  | 0, _, v => v
  | f + 1, k, v => fps P f (k + 1) (if P k = true then v ||| ((1 : Int32) <<< (nI k &&& 31)) else v)
theorem x_isTold (A : Nat → Int64) (D : Nat → Int32) (i s j m b : Nat) (hi : i < 4) (hm : j + m ≤ 24) (hb : b + m ≤ 8) (e5 : M.1 11 0 i = nI b) (hA : ∀ k, k < m → M.2 18 s (j + k) = A k) (hD : ∀ k, k < m → M.1 16 0 (9 * i + (b + 1 + k)) = D k) (h : Q (if ftl A D m 0 = true then 1 else 0) M) : kCT l (rg_x, g) mX5_isTold [.inr (.inr (0, 0)), .inl (nI i), .inr (.inr (5, s)), .inl (nI j), .inl (nI m)] M (kqi Q) := by
  refine kct (by decide) (Nat.le_of_ble_eq_true rfl) (bX5_isTold_0 _ s _ _ M Q ?_)
  simp (disch := omega) only [qa_0, qa_1, qa_2, qa_3, qa_4, qa_5, qa_6, qa_7, qa_8, qa_9, qa_10, qa_12, qa_16, qa_20, qa_21, qa_22, qa_23, qa_24, qa_26, qa_27, qa_30, qa_31, qa_32, qa_35, qa_36, qa_40, qa_44, qa_48, qa_49, qa_70, qa_81, qa_90, qa_96, qa_168, qa_217, qa_434, qa_442, qa_446, qa_450, qa_454, qa_455, qa_456, qa_457, qa_458, qa_466, qa_474, qa_478, qb_0, qb_1, qb_2, qb_3, qb_4, qb_5, qb_6, qb_7, qb_8, qb_9, qb_10, qb_12, qb_16, qb_20, qb_21, qb_22, qb_23, qb_24, qb_26, qb_27, qb_30, qb_31, qb_32, qb_35, qb_36, qb_40, qb_44, qb_48, qb_49, qb_70, qb_81, qb_90, qb_96, qb_168, qb_217, qb_434, qb_442, qb_446, qb_450, qb_454, qb_455, qb_456, qb_457, qb_458, qb_466, qb_474, qb_478, qm_0, qm_1, qm_2, qm_3, qm_4, qm_5, qm_6, qm_7, qm_8, qm_9, qm_10, qm_12, qm_16, qm_20, qm_21, qm_22, qm_23, qm_24, qm_26, qm_27, qm_30, qm_31, qm_32, qm_35, qm_36, qm_40, qm_44, qm_48, qm_49, qm_70, qm_81, qm_90, qm_96, qm_168, qm_217, qm_434, qm_442, qm_446, qm_450, qm_454, qm_455, qm_456, qm_457, qm_458, qm_466, qm_474, qm_478, ql_0, ql_1, ql_2, ql_3, ql_4, ql_5, ql_6, ql_7, ql_8, ql_9, ql_10, ql_12, ql_16, ql_20, ql_21, ql_22, ql_23, ql_24, ql_26, ql_27, ql_30, ql_31, ql_32, ql_35, ql_36, ql_40, ql_44, ql_48, ql_49, ql_70, ql_81, ql_90, ql_96, ql_168, ql_217, ql_434, ql_442, ql_446, ql_450, ql_454, ql_455, ql_456, ql_457, ql_458, ql_466, ql_474, ql_478, nI_add, q_cl, q_in, true_and]
  rw [e5]
  rintro z1 rfl
  rw [qa_1]
  have key : ∀ f k, k + f = m → Q (if ftl A D f k = true then 1 else 0) M → kWP l (rg_x, g) mX5_isTold 16 [(0, .inr (.inr (0, 0))), (1, .inl (nI i)), (2, .inr (.inr (5, s))), (3, .inl (nI j)), (4, .inl (nI m)), (5, .inl (nI (b + 1))), (6, .inl (nI k))] [] M (kqi Q) := by
    intro f
    induction f with
    | zero =>
      intro k hk hQ
      exact bX5_isTold_16 _ s _ _ _ _ _ _ ⟨fun _ => hQ, fun z => absurd ((q_le (by omega) (by omega)).mpr (by omega)) z⟩
    | succ f ih =>
      intro k hk hQ
      refine bX5_isTold_16 _ s _ _ _ _ _ _ ⟨fun z => ?_, fun _ => ?_⟩
      · rw [q_le (by omega) (by omega)] at z
        omega
      · simp (disch := omega) only [qa_0, qa_1, qa_2, qa_3, qa_4, qa_5, qa_6, qa_7, qa_8, qa_9, qa_10, qa_12, qa_16, qa_20, qa_21, qa_22, qa_23, qa_24, qa_26, qa_27, qa_30, qa_31, qa_32, qa_35, qa_36, qa_40, qa_44, qa_48, qa_49, qa_70, qa_81, qa_90, qa_96, qa_168, qa_217, qa_434, qa_442, qa_446, qa_450, qa_454, qa_455, qa_456, qa_457, qa_458, qa_466, qa_474, qa_478, qb_0, qb_1, qb_2, qb_3, qb_4, qb_5, qb_6, qb_7, qb_8, qb_9, qb_10, qb_12, qb_16, qb_20, qb_21, qb_22, qb_23, qb_24, qb_26, qb_27, qb_30, qb_31, qb_32, qb_35, qb_36, qb_40, qb_44, qb_48, qb_49, qb_70, qb_81, qb_90, qb_96, qb_168, qb_217, qb_434, qb_442, qb_446, qb_450, qb_454, qb_455, qb_456, qb_457, qb_458, qb_466, qb_474, qb_478, qm_0, qm_1, qm_2, qm_3, qm_4, qm_5, qm_6, qm_7, qm_8, qm_9, qm_10, qm_12, qm_16, qm_20, qm_21, qm_22, qm_23, qm_24, qm_26, qm_27, qm_30, qm_31, qm_32, qm_35, qm_36, qm_40, qm_44, qm_48, qm_49, qm_70, qm_81, qm_90, qm_96, qm_168, qm_217, qm_434, qm_442, qm_446, qm_450, qm_454, qm_455, qm_456, qm_457, qm_458, qm_466, qm_474, qm_478, ql_0, ql_1, ql_2, ql_3, ql_4, ql_5, ql_6, ql_7, ql_8, ql_9, ql_10, ql_12, ql_16, ql_20, ql_21, ql_22, ql_23, ql_24, ql_26, ql_27, ql_30, ql_31, ql_32, ql_35, ql_36, ql_40, ql_44, ql_48, ql_49, ql_70, ql_81, ql_90, ql_96, ql_168, ql_217, ql_434, ql_442, ql_446, ql_450, ql_454, ql_455, ql_456, ql_457, ql_458, ql_466, ql_474, ql_478, nI_add, q_cl, q_in, true_and]
        refine x_cameTo i (b + 1 + k) hi (by omega) ?_
        rw [lg_cmp_eq, hA k (by omega), hD k (by omega)]
        unfold ftl at hQ
        refine ⟨fun z => ?_, fun z => ?_⟩
        · rintro z3 rfl
          rw [if_pos z] at hQ
          exact ih (k + 1) (by omega) hQ
        · rw [if_neg z] at hQ
          exact hQ
  exact key m 0 (by omega) h
theorem pair_passed (h : Inv n Mx Mm) (a1 a2 a3 a4 a5 : Int32) : kPair l g1 g2 mX5_passed mX6_passed [.inl a1, .inl a2, .inl a3, .inl a4, .inl a5] Mx Mm (Inv (n + 1)) := by
  refine kct (by decide) (Nat.le_of_ble_eq_true rfl) (bX5_passed_0 a1 a2 a3 a4 a5 Mx _ (x_rowFault h a1 a2 a3 a4 a5 (fun v hv => ⟨fun p => ?_, fun p => m_passed h hv (fun _ => ⟨rfl, h.mono⟩) (fun e => absurd (by rw [e]; decide) p)⟩)))
  have hv0 : v = 0 := (rowv.neg hv).resolve_right (fun z => z p)
  subst hv0
  obtain ⟨S, r, i, s, z, j, m, b, ok, hi, hr, hs, hz, m1, m8, hjm, e5, hbm, rfl, rfl, rfl, rfl, rfl, z3, z4, z6⟩ := rowv.good h hv
  obtain ⟨S', r', q, -⟩ := h.1
  have h8 := ok.2.1
  have okd : ∀ kd, rok (rup (rx Mx 0) 4 i (nI kd)) S r := fun kd => ok.up (by omega) (by omega)
  let D : Nat → Nat → Int32 := fun kd k => fcm r (rup (rx Mx 0) 4 i (nI kd)) (9 * i + (b + 1 + k))
  let A : Nat → Int64 := fun k => Mx.2 18 s (j + k)
  let P : Nat → Bool := fun kd => ftl A (D kd) m 0
  have kx : ∀ f kd, kd + f = 5 → ∀ M1 v, xfr Mx M1 → ∀ Q : Int32 → kM → Prop, (∀ M2, xfr Mx M2 → Q (fps P f kd v) M2) → kWP l (rg_x, g1) mX5_passed 27 [(0, .inr (.inr (0, 0))), (1, .inl (nI i)), (2, .inl (nI s)), (4, .inl (nI j)), (5, .inl (nI m)), (7, .inl v), (8, .inl (nI kd))] [] M1 (kqi Q) := by
    intro f
    induction f with
    | zero =>
      intro kd hk M1 v fx Q hQ
      exact bX5_passed_27 _ _ _ _ _ _ _ _ ⟨fun _ => hQ M1 fx, fun z => absurd ((q_le (a := 5) (by omega) (by omega)).mpr (by omega)) z⟩
    | succ f ih =>
      intro kd hk M1 v fx Q hQ
      refine bX5_passed_27 _ _ _ _ _ _ _ _ ⟨fun z => ?_, fun _ => x_begin S r (by rw [fx.r0]; exact ok) (fun M2 b1 b2 b3 => ?_)⟩
      · rw [show (5 : Int32) = nI 5 from rfl, q_le (by omega) (by omega)] at z
        omega
      · rw [fx.r0] at b2
        simp (disch := omega) only [qa_0, qa_1, qa_2, qa_3, qa_4, qa_5, qa_6, qa_7, qa_8, qa_9, qa_10, qa_12, qa_16, qa_20, qa_21, qa_22, qa_23, qa_24, qa_26, qa_27, qa_30, qa_31, qa_32, qa_35, qa_36, qa_40, qa_44, qa_48, qa_49, qa_70, qa_81, qa_90, qa_96, qa_168, qa_217, qa_434, qa_442, qa_446, qa_450, qa_454, qa_455, qa_456, qa_457, qa_458, qa_466, qa_474, qa_478, qb_0, qb_1, qb_2, qb_3, qb_4, qb_5, qb_6, qb_7, qb_8, qb_9, qb_10, qb_12, qb_16, qb_20, qb_21, qb_22, qb_23, qb_24, qb_26, qb_27, qb_30, qb_31, qb_32, qb_35, qb_36, qb_40, qb_44, qb_48, qb_49, qb_70, qb_81, qb_90, qb_96, qb_168, qb_217, qb_434, qb_442, qb_446, qb_450, qb_454, qb_455, qb_456, qb_457, qb_458, qb_466, qb_474, qb_478, qm_0, qm_1, qm_2, qm_3, qm_4, qm_5, qm_6, qm_7, qm_8, qm_9, qm_10, qm_12, qm_16, qm_20, qm_21, qm_22, qm_23, qm_24, qm_26, qm_27, qm_30, qm_31, qm_32, qm_35, qm_36, qm_40, qm_44, qm_48, qm_49, qm_70, qm_81, qm_90, qm_96, qm_168, qm_217, qm_434, qm_442, qm_446, qm_450, qm_454, qm_455, qm_456, qm_457, qm_458, qm_466, qm_474, qm_478, ql_0, ql_1, ql_2, ql_3, ql_4, ql_5, ql_6, ql_7, ql_8, ql_9, ql_10, ql_12, ql_16, ql_20, ql_21, ql_22, ql_23, ql_24, ql_26, ql_27, ql_30, ql_31, ql_32, ql_35, ql_36, ql_40, ql_44, ql_48, ql_49, ql_70, ql_81, ql_90, ql_96, ql_168, ql_217, ql_434, ql_442, ql_446, ql_450, ql_454, ql_455, ql_456, ql_457, ql_458, ql_466, ql_474, ql_478, nI_add, q_cl, q_in, true_and]
        rintro M3 rfl
        have q3 : req (rup (rx Mx 0) 4 i (nI kd)) (rx (ku M2 10 2 i (nI kd)) 2) := by
          rw [rx_u4]
          exact (b2.up _ _ _).symm
        have ok3 := q3.ok (okd kd)
        refine x_rideToForge i 0 S r hi ok3 (fun M4 k d1 d2 d3 => ?_)
        rw [flse_0] at d2
        have fx4 := ((fx.trans b1).trans (xfr.u (by omega))).trans d1
        have e1 : rx M4 2 = (frun fno r k (rx (ku M2 10 2 i (nI kd)) 2, (ku M2 10 2 i (nI kd)).1 16 0)).1 := congrArg Prod.fst d2
        have e2 : M4.1 16 0 = (frun fno r k (rx (ku M2 10 2 i (nI kd)) 2, (ku M2 10 2 i (nI kd)).1 16 0)).2 := congrArg Prod.snd d2
        refine x_isTold A (D kd) i s j m b (by omega) (by omega) (by omega) ((fx4.1 11 0 i (by omega)).trans e5) (fun k _ => by rw [fx4.2]) (fun k hk => ?_) ?_
        · rw [e2]
          refine fcm_at (b := b) ok3 q3.symm hi ?_ (by rw [← e1]; exact d3) (by omega) (by omega)
          rw [← q3 5 i (by decide) (by first | (show _ < 4; omega) | (show _ < 8; omega) | exact fln_s (by assumption) (by omega) (by omega) (by omega) | exact fln_r (by assumption) (by omega) (by omega)), rup_ne (by omega)]
          exact e5
        · have nx := fun M6 hM => hQ M6 hM
          unfold fps at nx
          by_cases hp : ftl A (D kd) m 0 = true
          · rw [if_pos hp]
            refine ⟨fun z => absurd z (by decide), fun _ => ?_⟩
            rintro z7 rfl
            refine bX5_passed_95 _ _ _ _ _ _ _ _ ?_
            rintro z1 rfl
            rw [qa_1]
            refine ih (kd + 1) (by omega) M4 _ fx4 Q (fun M6 hM => ?_)
            have := nx M6 hM
            rw [if_pos (show P kd = true from hp)] at this
            exact this
          · rw [if_neg hp]
            refine ⟨fun _ => bX5_passed_95 _ _ _ _ _ _ _ _ ?_, fun z => absurd rfl z⟩
            rintro z1 rfl
            rw [qa_1]
            refine ih (kd + 1) (by omega) M4 _ fx4 Q (fun M6 hM => ?_)
            have := nx M6 hM
            rw [if_neg (show ¬ P kd = true from hp)] at this
            exact this
  refine kx 5 0 (by omega) Mx 0 (xfr.refl _) _ (fun Mx' fx' => m_passed h hv (fun z => absurd rfl z) (fun _ => ?_))
  rw [q_cl (by omega), show Mx.1 11 0 i = nI b from e5]
  have km : ∀ f kd, kd + f = 5 → ∀ M1 v, mfr Mm M1 → ∀ Q : Int32 → kM → Prop, (∀ M2, mfr Mm M2 → Q (fps P f kd v) M2) → kWP l (rg_m, g2) mX6_passed 86 [(0, .inr (.inr (0, 0))), (1, .inl (nI i)), (2, .inl (nI s)), (4, .inl (nI j)), (5, .inl (nI m)), (7, .inl (nI b)), (8, .inl v), (9, .inl (nI kd))] [] M1 (kqi Q) := by
    intro f
    induction f with
    | zero =>
      intro kd hk M1 v fm Q hQ
      exact bX6_passed_86 _ _ _ _ _ _ _ _ _ ⟨fun _ => hQ M1 fm, fun z => absurd ((q_lt (a := 4) (by omega) (by omega)).mpr (by omega)) z⟩
    | succ f ih =>
      intro kd hk M1 v fm Q hQ
      refine bX6_passed_86 _ _ _ _ _ _ _ _ _ ⟨fun z => ?_, fun _ => m_tries (fun M2 b1 b2 => ?_)⟩
      · rw [show (4 : Int32) = nI 4 from rfl, q_lt (by omega) (by omega)] at z
        omega
      · simp (disch := omega) only [qa_0, qa_1, qa_2, qa_3, qa_4, qa_5, qa_6, qa_7, qa_8, qa_9, qa_10, qa_12, qa_16, qa_20, qa_21, qa_22, qa_23, qa_24, qa_26, qa_27, qa_30, qa_31, qa_32, qa_35, qa_36, qa_40, qa_44, qa_48, qa_49, qa_70, qa_81, qa_90, qa_96, qa_168, qa_217, qa_434, qa_442, qa_446, qa_450, qa_454, qa_455, qa_456, qa_457, qa_458, qa_466, qa_474, qa_478, qb_0, qb_1, qb_2, qb_3, qb_4, qb_5, qb_6, qb_7, qb_8, qb_9, qb_10, qb_12, qb_16, qb_20, qb_21, qb_22, qb_23, qb_24, qb_26, qb_27, qb_30, qb_31, qb_32, qb_35, qb_36, qb_40, qb_44, qb_48, qb_49, qb_70, qb_81, qb_90, qb_96, qb_168, qb_217, qb_434, qb_442, qb_446, qb_450, qb_454, qb_455, qb_456, qb_457, qb_458, qb_466, qb_474, qb_478, qm_0, qm_1, qm_2, qm_3, qm_4, qm_5, qm_6, qm_7, qm_8, qm_9, qm_10, qm_12, qm_16, qm_20, qm_21, qm_22, qm_23, qm_24, qm_26, qm_27, qm_30, qm_31, qm_32, qm_35, qm_36, qm_40, qm_44, qm_48, qm_49, qm_70, qm_81, qm_90, qm_96, qm_168, qm_217, qm_434, qm_442, qm_446, qm_450, qm_454, qm_455, qm_456, qm_457, qm_458, qm_466, qm_474, qm_478, ql_0, ql_1, ql_2, ql_3, ql_4, ql_5, ql_6, ql_7, ql_8, ql_9, ql_10, ql_12, ql_16, ql_20, ql_21, ql_22, ql_23, ql_24, ql_26, ql_27, ql_30, ql_31, ql_32, ql_35, ql_36, ql_40, ql_44, ql_48, ql_49, ql_70, ql_81, ql_90, ql_96, ql_168, ql_217, ql_434, ql_442, ql_446, ql_450, ql_454, ql_455, ql_456, ql_457, ql_458, ql_466, ql_474, ql_478, nI_add, q_cl, q_in, true_and]
        rintro M3 rfl
        have b2' : req (rmd M2 434) (rx Mx 0) := b2.trans (fm.r0.trans q.symm)
        have q3 : req (rup (rx Mx 0) 4 i (nI kd)) (rmd (ku M2 1 0 (474 + i) (nI kd)) 434) := ((rmd_u (h := 434) (f := 4) (j := i) (by simp [wof]; omega) (by decide) (by first | (show _ < 4; omega) | (show _ < 8; omega) | exact fln_s (by assumption) (by omega) (by omega) (by omega) | exact fln_r (by assumption) (by omega) (by omega))).trans (b2'.up _ _ _)).symm
        have ok3 := q3.ok (okd kd)
        refine m_ridesOn _ _ S r ok3 (fun M4 C k d1 d2 d3 d4 d5 d6 => ?_)
        rw [flse_0] at d4 d5 d6
        have fm4 := ((fm.trans b1).trans (mfr.u (by omega))).trans d1
        have hD : ∀ k', k' < m → M4.1 6 0 (9 * i + (b + 1 + k')) = D kd k' := by
          intro k' hk'
          rw [d6 _ (by omega)]
          refine fcm_at (b := b) ok3 q3.symm hi ?_ (rwho_none r d4 (by omega) i hi) (by omega) (by omega)
          rw [← q3 5 i (by decide) (by first | (show _ < 4; omega) | (show _ < 8; omega) | exact fln_s (by assumption) (by omega) (by omega) (by omega) | exact fln_r (by assumption) (by omega) (by omega)), rup_ne (by omega)]
          exact e5
        have hA : ∀ k', k' < m → M4.2 3 0 (24 * s + j + k') = A k' := by
          intro k' hk'
          rw [fm4.2, show 24 * s + j + k' = 24 * s + (j + k') by omega]
          exact (z6 (j + k') (by omega)).symm
        have k198 : ∀ y : Int32, (y = 0 ∧ ¬ P kd = true ∨ y = (1 : Int32) <<< (nI kd &&& 31) ∧ P kd = true) → kWP l (rg_m, g2) mX6_passed 198 [(0, .inr (.inr (0, 0))), (1, .inl (nI i)), (2, .inl (nI s)), (4, .inl (nI j)), (5, .inl (nI m)), (7, .inl (nI b)), (9, .inl (nI kd))] [.inl y, .inl v] M4 (kqi Q) := by
          intro y hy
          refine bX6_passed_198 _ _ _ _ _ _ _ _ _ _ ?_
          rintro z1 rfl z2 rfl
          rw [qa_1]
          refine ih (kd + 1) (by omega) M4 _ fm4 Q (fun M6 hM => ?_)
          have := hQ M6 hM
          unfold fps at this
          rcases hy with ⟨rfl, hp⟩ | ⟨rfl, hp⟩
          · rw [if_neg hp] at this
            rw [Int32.or_zero]
            exact this
          · rw [if_pos hp] at this
            exact this
        have no : ∀ f2 k2, k2 + f2 = m → ¬ P kd = true → kWP l (rg_m, g2) mX6_passed 121 [(0, .inr (.inr (0, 0))), (1, .inl (nI i)), (2, .inl (nI s)), (4, .inl (nI j)), (5, .inl (nI m)), (7, .inl (nI b)), (8, .inl v), (9, .inl (nI kd)), (10, .inl 0), (11, .inl (nI k2))] [] M4 (kqi Q) := by
          intro f2
          induction f2 with
          | zero =>
            intro k2 hk2 hp
            exact bX6_passed_121 _ _ _ _ _ _ _ _ _ _ _ ⟨fun _ => ⟨fun _ => k198 0 (Or.inl ⟨rfl, hp⟩), fun z => absurd rfl z⟩, fun z => absurd ((q_le (by omega) (by omega)).mpr (by omega)) z⟩
          | succ f2 ih2 =>
            intro k2 hk2 hp
            refine bX6_passed_121 _ _ _ _ _ _ _ _ _ _ _ ⟨fun z => ?_, fun _ => ⟨fun _ => bX6_passed_174 _ _ _ _ _ _ _ _ _ _ (bX6_passed_175 _ _ _ _ _ _ _ _ _ _ _ ?_), fun z => absurd rfl z⟩⟩
            · rw [q_le (by omega) (by omega)] at z
              omega
            · rintro z1 rfl
              rw [qa_1]
              exact ih2 (k2 + 1) (by omega) hp
        have yes : ∀ f2 k2, k2 + f2 = m → (P kd = ftl A (D kd) f2 k2) → kWP l (rg_m, g2) mX6_passed 121 [(0, .inr (.inr (0, 0))), (1, .inl (nI i)), (2, .inl (nI s)), (4, .inl (nI j)), (5, .inl (nI m)), (7, .inl (nI b)), (8, .inl v), (9, .inl (nI kd)), (10, .inl 1), (11, .inl (nI k2))] [] M4 (kqi Q) := by
          intro f2
          induction f2 with
          | zero =>
            intro k2 hk2 hp
            exact bX6_passed_121 _ _ _ _ _ _ _ _ _ _ _ ⟨fun _ => ⟨fun z => absurd z (by decide), fun _ => k198 _ (Or.inr ⟨rfl, hp⟩)⟩, fun z => absurd ((q_le (by omega) (by omega)).mpr (by omega)) z⟩
          | succ f2 ih2 =>
            intro k2 hk2 hp
            refine bX6_passed_121 _ _ _ _ _ _ _ _ _ _ _ ⟨fun z => ?_, fun _ => ⟨fun z => absurd z (by decide), fun _ => ?_⟩⟩
            · rw [q_le (by omega) (by omega)] at z
              omega
            · simp (disch := omega) only [qa_0, qa_1, qa_2, qa_3, qa_4, qa_5, qa_6, qa_7, qa_8, qa_9, qa_10, qa_12, qa_16, qa_20, qa_21, qa_22, qa_23, qa_24, qa_26, qa_27, qa_30, qa_31, qa_32, qa_35, qa_36, qa_40, qa_44, qa_48, qa_49, qa_70, qa_81, qa_90, qa_96, qa_168, qa_217, qa_434, qa_442, qa_446, qa_450, qa_454, qa_455, qa_456, qa_457, qa_458, qa_466, qa_474, qa_478, qb_0, qb_1, qb_2, qb_3, qb_4, qb_5, qb_6, qb_7, qb_8, qb_9, qb_10, qb_12, qb_16, qb_20, qb_21, qb_22, qb_23, qb_24, qb_26, qb_27, qb_30, qb_31, qb_32, qb_35, qb_36, qb_40, qb_44, qb_48, qb_49, qb_70, qb_81, qb_90, qb_96, qb_168, qb_217, qb_434, qb_442, qb_446, qb_450, qb_454, qb_455, qb_456, qb_457, qb_458, qb_466, qb_474, qb_478, qm_0, qm_1, qm_2, qm_3, qm_4, qm_5, qm_6, qm_7, qm_8, qm_9, qm_10, qm_12, qm_16, qm_20, qm_21, qm_22, qm_23, qm_24, qm_26, qm_27, qm_30, qm_31, qm_32, qm_35, qm_36, qm_40, qm_44, qm_48, qm_49, qm_70, qm_81, qm_90, qm_96, qm_168, qm_217, qm_434, qm_442, qm_446, qm_450, qm_454, qm_455, qm_456, qm_457, qm_458, qm_466, qm_474, qm_478, ql_0, ql_1, ql_2, ql_3, ql_4, ql_5, ql_6, ql_7, ql_8, ql_9, ql_10, ql_12, ql_16, ql_20, ql_21, ql_22, ql_23, ql_24, ql_26, ql_27, ql_30, ql_31, ql_32, ql_35, ql_36, ql_40, ql_44, ql_48, ql_49, ql_70, ql_81, ql_90, ql_96, ql_168, ql_217, ql_434, ql_442, ql_446, ql_450, ql_454, ql_455, ql_456, ql_457, ql_458, ql_466, ql_474, ql_478, nI_add, q_cl, q_in, true_and]
              rw [show 9 * i + b + 1 + k2 = 9 * i + (b + 1 + k2) by omega, hD k2 (by omega), hA k2 (by omega), lg_cmp_eq]
              unfold ftl at hp
              refine ⟨fun z => bX6_passed_174 _ _ _ _ _ _ _ _ _ _ (bX6_passed_175 _ _ _ _ _ _ _ _ _ _ _ ?_), fun z => bX6_passed_175 _ _ _ _ _ _ _ _ _ _ _ ?_⟩
              · rintro z1 rfl
                rw [if_neg (fun w => z w.symm)] at hp
                rw [qa_1]
                exact no f2 (k2 + 1) (by omega) (by rw [hp]; decide)
              · rintro z1 rfl
                rw [if_pos z.symm] at hp
                rw [qa_1]
                exact ih2 (k2 + 1) (by omega) hp
        exact yes m 0 (by omega) rfl
  exact km 5 0 (by omega) Mm 0 (mfr.refl _) _ (fun Mm' fm' => ⟨rfl, h.next fx'.same fm'.same⟩)
theorem pair_film (h : Inv n Mx Mm) (a1 a2 a3 a4 a5 : Int32) : kPair l g1 g2 mX5_film mX6_film [.inl a1, .inl a2, .inl a3, .inl a4, .inl a5] Mx Mm (Inv (n + 1)) := by
  refine kct (by decide) (Nat.le_of_ble_eq_true rfl) (bX5_film_0 a1 a2 a3 a4 a5 Mx _ (x_rowFault h a1 a3 a4 a5 a2 (fun v hv => ⟨fun p => ?_, fun p => m_film h hv (fun _ => ⟨rfl, h.mono⟩) (fun e => absurd (by rw [e]; decide) p)⟩)))
  have hv0 : v = 0 := (rowv.neg hv).resolve_right (fun z => z p)
  subst hv0
  obtain ⟨S, r, i, s, z, j, m, b, ok, hi, hr, hs, hz, m1, m8, hjm, e5, hbm, rfl, rfl, rfl, rfl, rfl, z3, z4, z6⟩ := rowv.good h hv
  obtain ⟨S', r', q, -⟩ := h.1
  have h8 := ok.2.1
  let D : Nat → Int32 := fun k => fcm r (rx Mx 0) (9 * i + (b + 1 + k))
  refine x_begin S r ok (fun M1 b1 b2 b3 => x_rideToForge i 0 S r hi (b2.symm.ok ok) (fun M2 k d1 d2 d3 => ?_))
  rw [flse_0] at d2
  have okx : rok (rx M1 2) S r := b2.symm.ok ok
  have fx := b1.trans d1
  have e1 : rx M2 2 = (frun fno r k (rx M1 2, M1.1 16 0)).1 := congrArg Prod.fst d2
  have e2 : M2.1 16 0 = (frun fno r k (rx M1 2, M1.1 16 0)).2 := congrArg Prod.snd d2
  have hDx : ∀ k', k' < m → M2.1 16 0 (9 * i + (b + 1 + k')) = D k' := by
    intro k' hk'
    rw [e2]
    refine fcm_at (b := b) okx b2 hi ?_ (by rw [← e1]; exact d3) (by omega) (by omega)
    rw [b2 5 i (by decide) (by first | (show _ < 4; omega) | (show _ < 8; omega) | exact fln_s (by assumption) (by omega) (by omega) (by omega) | exact fln_r (by assumption) (by omega) (by omega))]
    exact e5
  simp (disch := omega) only [qa_0, qa_1, qa_2, qa_3, qa_4, qa_5, qa_6, qa_7, qa_8, qa_9, qa_10, qa_12, qa_16, qa_20, qa_21, qa_22, qa_23, qa_24, qa_26, qa_27, qa_30, qa_31, qa_32, qa_35, qa_36, qa_40, qa_44, qa_48, qa_49, qa_70, qa_81, qa_90, qa_96, qa_168, qa_217, qa_434, qa_442, qa_446, qa_450, qa_454, qa_455, qa_456, qa_457, qa_458, qa_466, qa_474, qa_478, qb_0, qb_1, qb_2, qb_3, qb_4, qb_5, qb_6, qb_7, qb_8, qb_9, qb_10, qb_12, qb_16, qb_20, qb_21, qb_22, qb_23, qb_24, qb_26, qb_27, qb_30, qb_31, qb_32, qb_35, qb_36, qb_40, qb_44, qb_48, qb_49, qb_70, qb_81, qb_90, qb_96, qb_168, qb_217, qb_434, qb_442, qb_446, qb_450, qb_454, qb_455, qb_456, qb_457, qb_458, qb_466, qb_474, qb_478, qm_0, qm_1, qm_2, qm_3, qm_4, qm_5, qm_6, qm_7, qm_8, qm_9, qm_10, qm_12, qm_16, qm_20, qm_21, qm_22, qm_23, qm_24, qm_26, qm_27, qm_30, qm_31, qm_32, qm_35, qm_36, qm_40, qm_44, qm_48, qm_49, qm_70, qm_81, qm_90, qm_96, qm_168, qm_217, qm_434, qm_442, qm_446, qm_450, qm_454, qm_455, qm_456, qm_457, qm_458, qm_466, qm_474, qm_478, ql_0, ql_1, ql_2, ql_3, ql_4, ql_5, ql_6, ql_7, ql_8, ql_9, ql_10, ql_12, ql_16, ql_20, ql_21, ql_22, ql_23, ql_24, ql_26, ql_27, ql_30, ql_31, ql_32, ql_35, ql_36, ql_40, ql_44, ql_48, ql_49, ql_70, ql_81, ql_90, ql_96, ql_168, ql_217, ql_434, ql_442, ql_446, ql_450, ql_454, ql_455, ql_456, ql_457, ql_458, ql_466, ql_474, ql_478, nI_add, q_cl, q_in, true_and]
  rw [show M2.1 11 0 i = nI b from (fx.1 11 0 i (by omega)).trans e5]
  rintro z6' rfl
  rw [qa_1]
  have elx : M2.1 5 s 0 = Mm.1 4 0 s := (fx.1 5 s 0 (by omega)).trans z3
  have kx : ∀ f k, k + f = m → ∀ M3, M3.1 = M2.1 → (∀ c i' d, ¬ (c = 18 ∧ i' = s ∧ j ≤ d ∧ d < j + m) → M3.2 c i' d = M2.2 c i' d) → (∀ t, t < k → M3.2 18 s (j + t) = cutv (Mm.1 4 0 s) (D t).toInt64) → ∀ Q : Int32 → kM → Prop, (∀ M3, M3.1 = M2.1 → (∀ c i' d, ¬ (c = 18 ∧ i' = s ∧ j ≤ d ∧ d < j + m) → M3.2 c i' d = M2.2 c i' d) → (∀ t, t < m → M3.2 18 s (j + t) = cutv (Mm.1 4 0 s) (D t).toInt64) → Q (nI m) M3) → kWP l (rg_x, g1) mX5_film 58 [(0, .inr (.inr (0, 0))), (1, .inl (nI i)), (2, .inl (nI m)), (3, .inl (nI s)), (5, .inl (nI j)), (7, .inl (nI (b + 1))), (8, .inl (nI k))] [] M3 (kqi Q) := by
    intro f
    induction f with
    | zero =>
      intro k hk M3 c1 c2 c3 Q hQ
      obtain rfl : k = m := by omega
      exact bX5_film_58 _ _ _ _ _ _ _ _ ⟨fun _ => hQ M3 c1 c2 c3, fun z => absurd ((q_le (by omega) (by omega)).mpr (by omega)) z⟩
    | succ f ih =>
      intro k hk M3 c1 c2 c3 Q hQ
      refine bX5_film_58 _ _ _ _ _ _ _ _ ⟨fun z => ?_, fun _ => ?_⟩
      · rw [q_le (by omega) (by omega)] at z
        omega
      · simp (disch := omega) only [qa_0, qa_1, qa_2, qa_3, qa_4, qa_5, qa_6, qa_7, qa_8, qa_9, qa_10, qa_12, qa_16, qa_20, qa_21, qa_22, qa_23, qa_24, qa_26, qa_27, qa_30, qa_31, qa_32, qa_35, qa_36, qa_40, qa_44, qa_48, qa_49, qa_70, qa_81, qa_90, qa_96, qa_168, qa_217, qa_434, qa_442, qa_446, qa_450, qa_454, qa_455, qa_456, qa_457, qa_458, qa_466, qa_474, qa_478, qb_0, qb_1, qb_2, qb_3, qb_4, qb_5, qb_6, qb_7, qb_8, qb_9, qb_10, qb_12, qb_16, qb_20, qb_21, qb_22, qb_23, qb_24, qb_26, qb_27, qb_30, qb_31, qb_32, qb_35, qb_36, qb_40, qb_44, qb_48, qb_49, qb_70, qb_81, qb_90, qb_96, qb_168, qb_217, qb_434, qb_442, qb_446, qb_450, qb_454, qb_455, qb_456, qb_457, qb_458, qb_466, qb_474, qb_478, qm_0, qm_1, qm_2, qm_3, qm_4, qm_5, qm_6, qm_7, qm_8, qm_9, qm_10, qm_12, qm_16, qm_20, qm_21, qm_22, qm_23, qm_24, qm_26, qm_27, qm_30, qm_31, qm_32, qm_35, qm_36, qm_40, qm_44, qm_48, qm_49, qm_70, qm_81, qm_90, qm_96, qm_168, qm_217, qm_434, qm_442, qm_446, qm_450, qm_454, qm_455, qm_456, qm_457, qm_458, qm_466, qm_474, qm_478, ql_0, ql_1, ql_2, ql_3, ql_4, ql_5, ql_6, ql_7, ql_8, ql_9, ql_10, ql_12, ql_16, ql_20, ql_21, ql_22, ql_23, ql_24, ql_26, ql_27, ql_30, ql_31, ql_32, ql_35, ql_36, ql_40, ql_44, ql_48, ql_49, ql_70, ql_81, ql_90, ql_96, ql_168, ql_217, ql_434, ql_442, ql_446, ql_450, ql_454, ql_455, ql_456, ql_457, ql_458, ql_466, ql_474, ql_478, nI_add, q_cl, q_in, true_and]
        refine x_cameTo i (b + 1 + k) (by omega) (by omega) (x_put s (j + k) (by omega) _ ?_)
        rintro z4' rfl
        rw [c1, elx, hDx k (by omega)]
        refine ih (k + 1) (by omega) _ (by rw [kul_1]; exact c1) (fun c i' d hc => ?_) (fun t ht => ?_) Q hQ
        · rw [kul_ne (by omega)]
          exact c2 c i' d hc
        · by_cases e : t = k
          · subst e
            exact kul_eq
          · rw [kul_ne (by omega)]
            exact c3 t (by omega)
  refine kx m 0 (by omega) M2 rfl (fun _ _ _ _ => rfl) (fun t ht => by omega) _ (fun M3 c1 c2 c3 => m_film h hv (fun z => absurd rfl z) (fun _ => ?_))
  rw [q_cl (by omega), show Mx.1 11 0 i = nI b from e5]
  refine m_foretells S r (q.ok ok) (fun M4 R C k' f1 f2 f3 f4 f5 f6 f7 => ?_)
  have okR : rok R S r := f2.symm.ok (q.ok ok)
  have hDm : ∀ k, k < m → M4.1 6 0 (9 * i + b + 1 + k) = D k := by
    intro k hk
    rw [show 9 * i + b + 1 + k = 9 * i + (b + 1 + k) by omega, f7 _ (by omega)]
    refine fcm_at (b := b) okR (f2.trans q.symm) hi ?_ (rwho_none r f5 (by omega) i hi) (by omega) (by omega)
    rw [f2 5 i (by decide) (by first | (show _ < 4; omega) | (show _ < 8; omega) | exact fln_s (by assumption) (by omega) (by omega) (by omega) | exact fln_r (by assumption) (by omega) (by omega)), ← q 5 i (by decide) (by first | (show _ < 4; omega) | (show _ < 8; omega) | exact fln_s (by assumption) (by omega) (by omega) (by omega) | exact fln_r (by assumption) (by omega) (by omega))]
    exact e5
  have km : ∀ f k, k + f = m → ∀ M5, M5.1 = M4.1 → (∀ d, ¬ (24 * s + j ≤ d ∧ d < 24 * s + j + m) → M5.2 3 0 d = M4.2 3 0 d) → (∀ t, t < k → M5.2 3 0 (24 * s + j + t) = cutv (Mm.1 4 0 s) (D t).toInt64) → ∀ Q : Int32 → kM → Prop, (∀ M5, M5.1 = M4.1 → (∀ d, ¬ (24 * s + j ≤ d ∧ d < 24 * s + j + m) → M5.2 3 0 d = M4.2 3 0 d) → (∀ t, t < m → M5.2 3 0 (24 * s + j + t) = cutv (Mm.1 4 0 s) (D t).toInt64) → Q (nI m) M5) → kWP l (rg_m, g2) mX6_film 86 [(0, .inr (.inr (0, 0))), (1, .inl (nI i)), (2, .inl (nI m)), (3, .inl (nI s)), (4, .inl (Mm.1 4 0 s)), (5, .inl (nI j)), (7, .inl (nI b)), (8, .inl (nI k))] [] M5 (kqi Q) := by
    intro f
    induction f with
    | zero =>
      intro k hk M5 u1 u2 u3 Q hQ
      obtain rfl : k = m := by omega
      exact bX6_film_86 _ _ _ _ _ _ _ _ _ ⟨fun _ => hQ M5 u1 u2 u3, fun z => absurd ((q_le (by omega) (by omega)).mpr (by omega)) z⟩
    | succ f ih =>
      intro k hk M5 u1 u2 u3 Q hQ
      refine bX6_film_86 _ _ _ _ _ _ _ _ _ ⟨fun z => ?_, fun _ => ?_⟩
      · rw [q_le (by omega) (by omega)] at z
        omega
      · simp (disch := omega) only [qa_0, qa_1, qa_2, qa_3, qa_4, qa_5, qa_6, qa_7, qa_8, qa_9, qa_10, qa_12, qa_16, qa_20, qa_21, qa_22, qa_23, qa_24, qa_26, qa_27, qa_30, qa_31, qa_32, qa_35, qa_36, qa_40, qa_44, qa_48, qa_49, qa_70, qa_81, qa_90, qa_96, qa_168, qa_217, qa_434, qa_442, qa_446, qa_450, qa_454, qa_455, qa_456, qa_457, qa_458, qa_466, qa_474, qa_478, qb_0, qb_1, qb_2, qb_3, qb_4, qb_5, qb_6, qb_7, qb_8, qb_9, qb_10, qb_12, qb_16, qb_20, qb_21, qb_22, qb_23, qb_24, qb_26, qb_27, qb_30, qb_31, qb_32, qb_35, qb_36, qb_40, qb_44, qb_48, qb_49, qb_70, qb_81, qb_90, qb_96, qb_168, qb_217, qb_434, qb_442, qb_446, qb_450, qb_454, qb_455, qb_456, qb_457, qb_458, qb_466, qb_474, qb_478, qm_0, qm_1, qm_2, qm_3, qm_4, qm_5, qm_6, qm_7, qm_8, qm_9, qm_10, qm_12, qm_16, qm_20, qm_21, qm_22, qm_23, qm_24, qm_26, qm_27, qm_30, qm_31, qm_32, qm_35, qm_36, qm_40, qm_44, qm_48, qm_49, qm_70, qm_81, qm_90, qm_96, qm_168, qm_217, qm_434, qm_442, qm_446, qm_450, qm_454, qm_455, qm_456, qm_457, qm_458, qm_466, qm_474, qm_478, ql_0, ql_1, ql_2, ql_3, ql_4, ql_5, ql_6, ql_7, ql_8, ql_9, ql_10, ql_12, ql_16, ql_20, ql_21, ql_22, ql_23, ql_24, ql_26, ql_27, ql_30, ql_31, ql_32, ql_35, ql_36, ql_40, ql_44, ql_48, ql_49, ql_70, ql_81, ql_90, ql_96, ql_168, ql_217, ql_434, ql_442, ql_446, ql_450, ql_454, ql_455, ql_456, ql_457, ql_458, ql_466, ql_474, ql_478, nI_add, q_cl, q_in, true_and]
        rw [u1, hDm k (by omega)]
        refine m_cut _ _ ?_
        rintro M7 rfl z4' rfl
        refine ih (k + 1) (by omega) _ (by rw [kul_1]; exact u1) (fun d hd => ?_) (fun t ht => ?_) Q hQ
        · rw [kul_ne (by omega)]
          exact u2 d hd
        · by_cases e : t = k
          · subst e
            exact kul_eq
          · rw [kul_ne (by omega)]
            exact u3 t (by omega)
  refine km m 0 (by omega) M4 rfl (fun _ _ => rfl) (fun t ht => by omega) _ (fun M5 t1 t2 t3 => ⟨rfl, ?_⟩)
  have hI := h.same fx.same f1.same
  refine Inv.sheet hI s (fun c i j hc => by rw [c1]) (fun i' j' hi' => c2 18 i' j' (by omega)) (fun c j hc => by rw [t1]) (fun d hd => t2 d (by omega)) ?_
  rcases hI.2.2.2 s hs with ⟨w1, w2⟩ | ⟨zz, w1, w2, w3, w4, w5, w6⟩
  · refine absurd (w2.symm.trans ((f1.1 5 0 s (by omega)).trans z4)) ?_
    intro e
    have h1 := nI_toInt (n := z) (by omega)
    rw [← e] at h1
    have : (-1 : Int32).toInt = -1 := by decide
    omega
  · refine Or.inr ⟨zz, w1, by rw [c1]; exact w2, by rw [c1, t1]; exact w3, by rw [c1]; exact w4, by rw [t1]; exact w5, fun d hd => ?_⟩
    by_cases e : j ≤ d ∧ d < j + m
    · obtain ⟨t, rfl⟩ : ∃ t, d = j + t := ⟨d - j, by omega⟩
      rw [c3 t (by omega), show 24 * s + (j + t) = 24 * s + j + t by omega, t3 t (by omega)]
    · rw [c2 18 s d (by omega), t2 _ (by omega)]
      exact w6 d hd
end KFL
