def rg_x : kR := ([(0, 0), (1, 0), (1, 1), (1, 2), (1, 3), (2, 0), (2, 1), (3, 0), (4, 0), (5, 0), (5, 1), (5, 2), (5, 3), (6, 0), (7, 0), (7, 1), (7, 2), (7, 3), (8, 0), (8, 1), (8, 2), (8, 3), (9, 0), (9, 1), (9, 2), (9, 3), (10, 0), (10, 1), (10, 2), (10, 3), (11, 0), (11, 1), (11, 2), (11, 3), (12, 0), (12, 1), (12, 2), (12, 3), (13, 0), (13, 1), (13, 2), (13, 3), (14, 0), (14, 1), (14, 2), (14, 3), (15, 0), (15, 1), (16, 0), (17, 0), (18, 0), (18, 1), (18, 2), (18, 3), (19, 0), (20, 0)], fun c => match c with
  | 0 => .inr (5, [.inr (1, some 0), .inr (2, some 0), .inr (1, some 1), .inr (2, some 1), .inl 4, .inr (3, some 0), .inr (4, some 0), .inr (6, some 0), .inr (19, some 0), .inr (20, some 0)])
  | 1 => .inr (3, [.inl 0, .inl 1, .inl 2, .inl 3, .inr (7, none), .inr (8, none), .inr (9, none), .inr (10, none), .inr (11, none), .inr (12, none), .inr (13, none), .inr (14, none)])
  | 2 => .inr (2, [.inl 0, .inl 1, .inr (15, none)])
  | 3 => .inr (0, [.inr (1, some 2), .inr (16, some 0)])
  | 4 => .inr (4, [.inr (1, some 3), .inr (17, some 0), .inl 2, .inl 3])
  | 5 => .inr (1, [.inl 0, .inl 1, .inr (18, none)])
  | 6 => .inl (5 + 2, 4)
  | 7 => .inl (0, 8)
  | 8 => .inl (0, 8)
  | 9 => .inl (0, 8)
  | 10 => .inl (0, 4)
  | 11 => .inl (0, 4)
  | 12 => .inl (0, 4)
  | 13 => .inl (0, 4)
  | 14 => .inl (0, 4)
  | 15 => .inl (0, 168)
  | 16 => .inl (0, 36)
  | 17 => .inl (0, 90)
  | 18 => .inl (1, 24)
  | 19 => .inl (0, 81)
  | 20 => .inl (0, 81)
  | _ => .inl (0, 0))
def rg_m : kR := ([(0, 0), (1, 0), (2, 0), (3, 0), (4, 0), (5, 0), (6, 0), (7, 0), (8, 0), (9, 0)], fun c => match c with
  | 0 => .inr (6, [.inr (1, some 0), .inl 1, .inr (2, some 0), .inl 3, .inr (3, some 0), .inr (4, some 0), .inr (5, some 0), .inl 7, .inl 8, .inr (6, some 0), .inr (7, some 0), .inr (8, some 0), .inr (9, some 0)])
  | 1 => .inl (0, 483)
  | 2 => .inl (0, 90)
  | 3 => .inl (1, 96)
  | 4 => .inl (0, 4)
  | 5 => .inl (0, 4)
  | 6 => .inl (0, 36)
  | 7 => .inl (0, 81)
  | 8 => .inl (0, 81)
  | 9 => .inl (1, 24)
  | _ => .inl (0, 0))
theorem rg_x_ok : kOK rg_x := by
  refine ⟨by decide +kernel, ?_, ?_⟩
  · have h : ∀ q ∈ rg_x.1, ∀ ci fs, rg_x.2 q.1 = .inr (ci, fs) → ∀ (i : Nat) (f : kF), fs[i]? = some f → (match f with | .inl j => j = i | .inr (c', none) => (c', q.2) ∈ rg_x.1 | .inr (c', some k0) => (c', k0) ∈ rg_x.1) := by
      have h2 : ∀ q ∈ rg_x.1, (match rg_x.2 q.1 with | .inl _ => true | .inr (_, fs) => fs.zipIdx.all (fun z => match z.1 with | .inl j => j == z.2 | .inr (c', none) => rg_x.1.contains (c', q.2) | .inr (c', some k0) => rg_x.1.contains (c', k0))) = true := by decide +kernel
      intro q hq ci fs hx i f hf
      have h3 := h2 q hq
      rw [hx] at h3
      have h4 := List.all_eq_true.mp h3 (f, i) (List.mem_zipIdx_iff_getElem?.mpr hf)
      rcases f with j | ⟨c', _ | k0⟩
      · simpa using h4
      · simpa using h4
      · simpa using h4
    intro c k ci fs i f hq hx hf
    exact h (c, k) hq ci fs hx i f hf
  · have h2 : ∀ q ∈ rg_x.1, (match rg_x.2 q.1 with | .inl (t + 2, n) => (List.range n).all (fun j => rg_x.1.contains (t, j)) | _ => true) = true := by decide +kernel
    intro c k t n j hq hx hj
    have h3 := h2 (c, k) hq
    simp only [hx] at h3
    have h4 := List.all_eq_true.mp h3 j (List.mem_range.mpr hj)
    simpa using h4
theorem rg_m_ok : kOK rg_m := by
  refine ⟨by decide +kernel, ?_, ?_⟩
  · have h : ∀ q ∈ rg_m.1, ∀ ci fs, rg_m.2 q.1 = .inr (ci, fs) → ∀ (i : Nat) (f : kF), fs[i]? = some f → (match f with | .inl j => j = i | .inr (c', none) => (c', q.2) ∈ rg_m.1 | .inr (c', some k0) => (c', k0) ∈ rg_m.1) := by
      have h2 : ∀ q ∈ rg_m.1, (match rg_m.2 q.1 with | .inl _ => true | .inr (_, fs) => fs.zipIdx.all (fun z => match z.1 with | .inl j => j == z.2 | .inr (c', none) => rg_m.1.contains (c', q.2) | .inr (c', some k0) => rg_m.1.contains (c', k0))) = true := by decide +kernel
      intro q hq ci fs hx i f hf
      have h3 := h2 q hq
      rw [hx] at h3
      have h4 := List.all_eq_true.mp h3 (f, i) (List.mem_zipIdx_iff_getElem?.mpr hf)
      rcases f with j | ⟨c', _ | k0⟩
      · simpa using h4
      · simpa using h4
      · simpa using h4
    intro c k ci fs i f hq hx hf
    exact h (c, k) hq ci fs hx i f hf
  · have h2 : ∀ q ∈ rg_m.1, (match rg_m.2 q.1 with | .inl (t + 2, n) => (List.range n).all (fun j => rg_m.1.contains (t, j)) | _ => true) = true := by decide +kernel
    intro c k t n j hq hx hj
    have h3 := h2 (c, k) hq
    simp only [hx] at h3
    have h4 := List.all_eq_true.mp h3 j (List.mem_range.mpr hj)
    simpa using h4
theorem inkX0 : ∀ w ∈ u_ws RX0 TX0 2, w ∈ kw := by decide +kernel
theorem inkX1 : ∀ w ∈ u_ws RX1 TX1 3, w ∈ kw := by decide +kernel
theorem inkX2 : ∀ w ∈ u_ws RX2 TX2 3, w ∈ kw := by decide +kernel
theorem inkX3 : ∀ w ∈ u_ws RX3 TX3 12, w ∈ kw := by decide +kernel
theorem inkX4 : ∀ w ∈ u_ws RX4 TX4 4, w ∈ kw := by decide +kernel
theorem inkX5 : ∀ w ∈ u_ws RX5 TX5 10, w ∈ kw := by decide +kernel
theorem inkX6 : ∀ w ∈ u_ws RX6 TX6 13, w ∈ kw := by decide +kernel
theorem fl_X5_10 : kFl RX5 10 5 0 := ⟨RX5, TX5, 10, rfl, by decide, inkX5, kw_t 156 (by decide +kernel) (by decide +kernel)⟩
theorem fl_X5_19 : kFl RX5 19 5 1 := ⟨RX5, TX5, 10, rfl, by decide, inkX5, kw_t 157 (by decide +kernel) (by decide +kernel)⟩
theorem fl_X5_23 : kFl RX5 23 5 2 := ⟨RX5, TX5, 10, rfl, by decide, inkX5, kw_t 158 (by decide +kernel) (by decide +kernel)⟩
theorem fl_X5_26 : kFl RX5 26 5 3 := ⟨RX5, TX5, 10, rfl, by decide, inkX5, kw_t 159 (by decide +kernel) (by decide +kernel)⟩
theorem fl_X5_29 : kFl RX5 29 5 4 := ⟨RX5, TX5, 10, rfl, by decide, inkX5, kw_t 160 (by decide +kernel) (by decide +kernel)⟩
theorem fp_X5_29 : kFp RX5 29 5 4 (fun v => v = 0 ∨ v = 1) := ⟨RX5, TX5, 10, tyX5, rfl, by decide, inkX5, kw_t 160 (by decide +kernel) (by decide +kernel), tyX5_ok, nmX5, rfl, (by intro v hv; rcases hv with rfl | rfl <;> exact ⟨rfl, rfl⟩)⟩
theorem fl_X5_36 : kFl RX5 36 5 5 := ⟨RX5, TX5, 10, rfl, by decide, inkX5, kw_t 161 (by decide +kernel) (by decide +kernel)⟩
theorem fl_X5_43 : kFl RX5 43 5 6 := ⟨RX5, TX5, 10, rfl, by decide, inkX5, kw_t 162 (by decide +kernel) (by decide +kernel)⟩
theorem fl_X5_50 : kFl RX5 50 5 7 := ⟨RX5, TX5, 10, rfl, by decide, inkX5, kw_t 163 (by decide +kernel) (by decide +kernel)⟩
theorem fl_X5_54 : kFl RX5 54 5 8 := ⟨RX5, TX5, 10, rfl, by decide, inkX5, kw_t 164 (by decide +kernel) (by decide +kernel)⟩
theorem fl_X5_58 : kFl RX5 58 5 9 := ⟨RX5, TX5, 10, rfl, by decide, inkX5, kw_t 165 (by decide +kernel) (by decide +kernel)⟩
theorem fl_X5_65 : kFl RX5 65 3 0 := ⟨RX3, TX3, 12, rfl, by decide, inkX3, kw_t 26 (by decide +kernel) (by decide +kernel)⟩
theorem fp_X5_65 : kFp RX5 65 3 0 (fun _ => True) := ⟨RX3, TX3, 12, tyX3, rfl, by decide, inkX3, kw_t 26 (by decide +kernel) (by decide +kernel), tyX3_ok, nmX3, rfl, fun _ _ => ⟨rfl, rfl⟩⟩
theorem fl_X5_76 : kFl RX5 76 3 1 := ⟨RX3, TX3, 12, rfl, by decide, inkX3, kw_t 30 (by decide +kernel) (by decide +kernel)⟩
theorem fp_X5_76 : kFp RX5 76 3 1 (fun _ => True) := ⟨RX3, TX3, 12, tyX3, rfl, by decide, inkX3, kw_t 30 (by decide +kernel) (by decide +kernel), tyX3_ok, nmX3, rfl, fun _ _ => ⟨rfl, rfl⟩⟩
theorem fl_X5_82 : kFl RX5 82 3 4 := ⟨RX3, TX3, 12, rfl, by decide, inkX3, kw_t 37 (by decide +kernel) (by decide +kernel)⟩
theorem fl_X5_85 : kFl RX5 85 3 5 := ⟨RX3, TX3, 12, rfl, by decide, inkX3, kw_t 39 (by decide +kernel) (by decide +kernel)⟩
theorem fl_X5_88 : kFl RX5 88 3 6 := ⟨RX3, TX3, 12, rfl, by decide, inkX3, kw_t 41 (by decide +kernel) (by decide +kernel)⟩
theorem fl_X5_95 : kFl RX5 95 3 7 := ⟨RX3, TX3, 12, rfl, by decide, inkX3, kw_t 43 (by decide +kernel) (by decide +kernel)⟩
theorem fl_X5_98 : kFl RX5 98 3 8 := ⟨RX3, TX3, 12, rfl, by decide, inkX3, kw_t 46 (by decide +kernel) (by decide +kernel)⟩
theorem fl_X5_101 : kFl RX5 101 3 9 := ⟨RX3, TX3, 12, rfl, by decide, inkX3, kw_t 49 (by decide +kernel) (by decide +kernel)⟩
theorem fl_X5_104 : kFl RX5 104 3 10 := ⟨RX3, TX3, 12, rfl, by decide, inkX3, kw_t 51 (by decide +kernel) (by decide +kernel)⟩
theorem fl_X5_107 : kFl RX5 107 3 11 := ⟨RX3, TX3, 12, rfl, by decide, inkX3, kw_t 53 (by decide +kernel) (by decide +kernel)⟩
theorem fl_X5_114 : kFl RX5 114 3 2 := ⟨RX3, TX3, 12, rfl, by decide, inkX3, kw_t 33 (by decide +kernel) (by decide +kernel)⟩
theorem fp_X5_114 : kFp RX5 114 3 2 (fun _ => True) := ⟨RX3, TX3, 12, tyX3, rfl, by decide, inkX3, kw_t 33 (by decide +kernel) (by decide +kernel), tyX3_ok, nmX3, rfl, fun _ _ => ⟨rfl, rfl⟩⟩
theorem fl_X5_129 : kFl RX5 129 4 0 := ⟨RX4, TX4, 4, rfl, by decide, inkX4, kw_t 123 (by decide +kernel) (by decide +kernel)⟩
theorem fl_X5_146 : kFl RX5 146 2 0 := ⟨RX2, TX2, 3, rfl, by decide, inkX2, kw_t 88 (by decide +kernel) (by decide +kernel)⟩
theorem fp_X5_146 : kFp RX5 146 2 0 (fun _ => True) := ⟨RX2, TX2, 3, tyX2, rfl, by decide, inkX2, kw_t 88 (by decide +kernel) (by decide +kernel), tyX2_ok, nmX2, rfl, fun _ _ => ⟨rfl, rfl⟩⟩
theorem fl_X5_175 : kFl RX5 175 3 3 := ⟨RX3, TX3, 12, rfl, by decide, inkX3, kw_t 35 (by decide +kernel) (by decide +kernel)⟩
theorem fp_X5_175 : kFp RX5 175 3 3 (fun _ => True) := ⟨RX3, TX3, 12, tyX3, rfl, by decide, inkX3, kw_t 35 (by decide +kernel) (by decide +kernel), tyX3_ok, nmX3, rfl, fun _ _ => ⟨rfl, rfl⟩⟩
theorem fl_X5_187 : kFl RX5 187 0 0 := ⟨RX0, TX0, 2, rfl, by decide, inkX0, kw_t 107 (by decide +kernel) (by decide +kernel)⟩
theorem fl_X5_256 : kFl RX5 256 1 0 := ⟨RX1, TX1, 3, rfl, by decide, inkX1, kw_t 144 (by decide +kernel) (by decide +kernel)⟩
theorem fp_X5_256 : kFp RX5 256 1 0 (fun _ => True) := ⟨RX1, TX1, 3, tyX1, rfl, by decide, inkX1, kw_t 144 (by decide +kernel) (by decide +kernel), tyX1_ok, nmX1, rfl, fun _ _ => ⟨rfl, rfl⟩⟩
theorem fl_X5_262 : kFl RX5 262 1 2 := ⟨RX1, TX1, 3, rfl, by decide, inkX1, kw_t 147 (by decide +kernel) (by decide +kernel)⟩
theorem fl_X0_12 : kFl RX0 12 0 0 := ⟨RX0, TX0, 2, rfl, by decide, inkX0, kw_t 106 (by decide +kernel) (by decide +kernel)⟩
theorem fl_X0_18 : kFl RX0 18 0 1 := ⟨RX0, TX0, 2, rfl, by decide, inkX0, kw_t 108 (by decide +kernel) (by decide +kernel)⟩
theorem fl_X0_26 : kFl RX0 26 3 1 := ⟨RX3, TX3, 12, rfl, by decide, inkX3, kw_t 29 (by decide +kernel) (by decide +kernel)⟩
theorem fp_X0_26 : kFp RX0 26 3 1 (fun _ => True) := ⟨RX3, TX3, 12, tyX3, rfl, by decide, inkX3, kw_t 29 (by decide +kernel) (by decide +kernel), tyX3_ok, nmX3, rfl, fun _ _ => ⟨rfl, rfl⟩⟩
theorem fl_X0_42 : kFl RX0 42 3 8 := ⟨RX3, TX3, 12, rfl, by decide, inkX3, kw_t 45 (by decide +kernel) (by decide +kernel)⟩
theorem fl_X0_53 : kFl RX0 53 3 9 := ⟨RX3, TX3, 12, rfl, by decide, inkX3, kw_t 48 (by decide +kernel) (by decide +kernel)⟩
theorem fl_X1_11 : kFl RX1 11 1 0 := ⟨RX1, TX1, 3, rfl, by decide, inkX1, kw_t 143 (by decide +kernel) (by decide +kernel)⟩
theorem fp_X1_11 : kFp RX1 11 1 0 (fun _ => True) := ⟨RX1, TX1, 3, tyX1, rfl, by decide, inkX1, kw_t 143 (by decide +kernel) (by decide +kernel), tyX1_ok, nmX1, rfl, fun _ _ => ⟨rfl, rfl⟩⟩
theorem fl_X1_15 : kFl RX1 15 1 1 := ⟨RX1, TX1, 3, rfl, by decide, inkX1, kw_t 145 (by decide +kernel) (by decide +kernel)⟩
theorem fp_X1_15 : kFp RX1 15 1 1 (fun _ => True) := ⟨RX1, TX1, 3, tyX1, rfl, by decide, inkX1, kw_t 145 (by decide +kernel) (by decide +kernel), tyX1_ok, nmX1, rfl, fun _ _ => ⟨rfl, rfl⟩⟩
theorem fl_X1_18 : kFl RX1 18 1 2 := ⟨RX1, TX1, 3, rfl, by decide, inkX1, kw_t 146 (by decide +kernel) (by decide +kernel)⟩
theorem fl_X2_7 : kFl RX2 7 2 0 := ⟨RX2, TX2, 3, rfl, by decide, inkX2, kw_t 87 (by decide +kernel) (by decide +kernel)⟩
theorem fp_X2_7 : kFp RX2 7 2 0 (fun _ => True) := ⟨RX2, TX2, 3, tyX2, rfl, by decide, inkX2, kw_t 87 (by decide +kernel) (by decide +kernel), tyX2_ok, nmX2, rfl, fun _ _ => ⟨rfl, rfl⟩⟩
theorem fl_X2_13 : kFl RX2 13 2 1 := ⟨RX2, TX2, 3, rfl, by decide, inkX2, kw_t 89 (by decide +kernel) (by decide +kernel)⟩
theorem fp_X2_13 : kFp RX2 13 2 1 (fun _ => True) := ⟨RX2, TX2, 3, tyX2, rfl, by decide, inkX2, kw_t 89 (by decide +kernel) (by decide +kernel), tyX2_ok, nmX2, rfl, fun _ _ => ⟨rfl, rfl⟩⟩
theorem fl_X2_18 : kFl RX2 18 2 2 := ⟨RX2, TX2, 3, rfl, by decide, inkX2, kw_t 90 (by decide +kernel) (by decide +kernel)⟩
theorem fl_X3_9 : kFl RX3 9 3 0 := ⟨RX3, TX3, 12, rfl, by decide, inkX3, kw_t 25 (by decide +kernel) (by decide +kernel)⟩
theorem fp_X3_9 : kFp RX3 9 3 0 (fun _ => True) := ⟨RX3, TX3, 12, tyX3, rfl, by decide, inkX3, kw_t 25 (by decide +kernel) (by decide +kernel), tyX3_ok, nmX3, rfl, fun _ _ => ⟨rfl, rfl⟩⟩
theorem fl_X3_15 : kFl RX3 15 3 1 := ⟨RX3, TX3, 12, rfl, by decide, inkX3, kw_t 28 (by decide +kernel) (by decide +kernel)⟩
theorem fp_X3_15 : kFp RX3 15 3 1 (fun _ => True) := ⟨RX3, TX3, 12, tyX3, rfl, by decide, inkX3, kw_t 28 (by decide +kernel) (by decide +kernel), tyX3_ok, nmX3, rfl, fun _ _ => ⟨rfl, rfl⟩⟩
theorem fl_X3_18 : kFl RX3 18 3 2 := ⟨RX3, TX3, 12, rfl, by decide, inkX3, kw_t 32 (by decide +kernel) (by decide +kernel)⟩
theorem fp_X3_18 : kFp RX3 18 3 2 (fun _ => True) := ⟨RX3, TX3, 12, tyX3, rfl, by decide, inkX3, kw_t 32 (by decide +kernel) (by decide +kernel), tyX3_ok, nmX3, rfl, fun _ _ => ⟨rfl, rfl⟩⟩
theorem fl_X3_21 : kFl RX3 21 3 3 := ⟨RX3, TX3, 12, rfl, by decide, inkX3, kw_t 34 (by decide +kernel) (by decide +kernel)⟩
theorem fp_X3_21 : kFp RX3 21 3 3 (fun _ => True) := ⟨RX3, TX3, 12, tyX3, rfl, by decide, inkX3, kw_t 34 (by decide +kernel) (by decide +kernel), tyX3_ok, nmX3, rfl, fun _ _ => ⟨rfl, rfl⟩⟩
theorem fl_X3_24 : kFl RX3 24 3 4 := ⟨RX3, TX3, 12, rfl, by decide, inkX3, kw_t 36 (by decide +kernel) (by decide +kernel)⟩
theorem fl_X3_28 : kFl RX3 28 3 5 := ⟨RX3, TX3, 12, rfl, by decide, inkX3, kw_t 38 (by decide +kernel) (by decide +kernel)⟩
theorem fl_X3_31 : kFl RX3 31 3 6 := ⟨RX3, TX3, 12, rfl, by decide, inkX3, kw_t 40 (by decide +kernel) (by decide +kernel)⟩
theorem fl_X3_34 : kFl RX3 34 3 7 := ⟨RX3, TX3, 12, rfl, by decide, inkX3, kw_t 42 (by decide +kernel) (by decide +kernel)⟩
theorem fl_X3_37 : kFl RX3 37 3 8 := ⟨RX3, TX3, 12, rfl, by decide, inkX3, kw_t 44 (by decide +kernel) (by decide +kernel)⟩
theorem fl_X3_40 : kFl RX3 40 3 9 := ⟨RX3, TX3, 12, rfl, by decide, inkX3, kw_t 47 (by decide +kernel) (by decide +kernel)⟩
theorem fl_X3_43 : kFl RX3 43 3 10 := ⟨RX3, TX3, 12, rfl, by decide, inkX3, kw_t 50 (by decide +kernel) (by decide +kernel)⟩
theorem fl_X3_46 : kFl RX3 46 3 11 := ⟨RX3, TX3, 12, rfl, by decide, inkX3, kw_t 52 (by decide +kernel) (by decide +kernel)⟩
theorem fl_X4_12 : kFl RX4 12 4 0 := ⟨RX4, TX4, 4, rfl, by decide, inkX4, kw_t 122 (by decide +kernel) (by decide +kernel)⟩
theorem fl_X4_18 : kFl RX4 18 4 1 := ⟨RX4, TX4, 4, rfl, by decide, inkX4, kw_t 124 (by decide +kernel) (by decide +kernel)⟩
theorem fl_X4_22 : kFl RX4 22 4 2 := ⟨RX4, TX4, 4, rfl, by decide, inkX4, kw_t 125 (by decide +kernel) (by decide +kernel)⟩
theorem fp_X4_22 : kFp RX4 22 4 2 (fun _ => True) := ⟨RX4, TX4, 4, tyX4, rfl, by decide, inkX4, kw_t 125 (by decide +kernel) (by decide +kernel), tyX4_ok, nmX4, rfl, fun _ _ => ⟨rfl, rfl⟩⟩
theorem fl_X4_26 : kFl RX4 26 4 3 := ⟨RX4, TX4, 4, rfl, by decide, inkX4, kw_t 126 (by decide +kernel) (by decide +kernel)⟩
theorem fp_X4_26 : kFp RX4 26 4 3 (fun _ => True) := ⟨RX4, TX4, 4, tyX4, rfl, by decide, inkX4, kw_t 126 (by decide +kernel) (by decide +kernel), tyX4_ok, nmX4, rfl, fun _ _ => ⟨rfl, rfl⟩⟩
theorem fl_X4_29 : kFl RX4 29 3 0 := ⟨RX3, TX3, 12, rfl, by decide, inkX3, kw_t 27 (by decide +kernel) (by decide +kernel)⟩
theorem fp_X4_29 : kFp RX4 29 3 0 (fun _ => True) := ⟨RX3, TX3, 12, tyX3, rfl, by decide, inkX3, kw_t 27 (by decide +kernel) (by decide +kernel), tyX3_ok, nmX3, rfl, fun _ _ => ⟨rfl, rfl⟩⟩
theorem fl_X4_32 : kFl RX4 32 3 1 := ⟨RX3, TX3, 12, rfl, by decide, inkX3, kw_t 31 (by decide +kernel) (by decide +kernel)⟩
theorem fp_X4_32 : kFp RX4 32 3 1 (fun _ => True) := ⟨RX3, TX3, 12, tyX3, rfl, by decide, inkX3, kw_t 31 (by decide +kernel) (by decide +kernel), tyX3_ok, nmX3, rfl, fun _ _ => ⟨rfl, rfl⟩⟩
theorem fl_X4_77 : kFl RX4 77 3 11 := ⟨RX3, TX3, 12, rfl, by decide, inkX3, kw_t 54 (by decide +kernel) (by decide +kernel)⟩
theorem fl_X6_7 : kFl RX6 7 6 0 := ⟨RX6, TX6, 13, rfl, by decide, inkX6, kw_t 583 (by decide +kernel) (by decide +kernel)⟩
theorem fl_X6_13 : kFl RX6 13 6 2 := ⟨RX6, TX6, 13, rfl, by decide, inkX6, kw_t 585 (by decide +kernel) (by decide +kernel)⟩
theorem fl_X6_16 : kFl RX6 16 6 4 := ⟨RX6, TX6, 13, rfl, by decide, inkX6, kw_t 587 (by decide +kernel) (by decide +kernel)⟩
theorem fl_X6_20 : kFl RX6 20 6 5 := ⟨RX6, TX6, 13, rfl, by decide, inkX6, kw_t 588 (by decide +kernel) (by decide +kernel)⟩
theorem fl_X6_23 : kFl RX6 23 6 6 := ⟨RX6, TX6, 13, rfl, by decide, inkX6, kw_t 589 (by decide +kernel) (by decide +kernel)⟩
theorem fl_X6_26 : kFl RX6 26 6 9 := ⟨RX6, TX6, 13, rfl, by decide, inkX6, kw_t 592 (by decide +kernel) (by decide +kernel)⟩
theorem fl_X6_29 : kFl RX6 29 6 10 := ⟨RX6, TX6, 13, rfl, by decide, inkX6, kw_t 593 (by decide +kernel) (by decide +kernel)⟩
theorem fl_X6_32 : kFl RX6 32 6 11 := ⟨RX6, TX6, 13, rfl, by decide, inkX6, kw_t 594 (by decide +kernel) (by decide +kernel)⟩
theorem fl_X6_35 : kFl RX6 35 6 12 := ⟨RX6, TX6, 13, rfl, by decide, inkX6, kw_t 595 (by decide +kernel) (by decide +kernel)⟩
theorem fl_X6_70 : kFl RX6 70 6 3 := ⟨RX6, TX6, 13, rfl, by decide, inkX6, kw_t 586 (by decide +kernel) (by decide +kernel)⟩
theorem fp_X6_70 : kFp RX6 70 6 3 (fun _ => True) := ⟨RX6, TX6, 13, tyX6, rfl, by decide, inkX6, kw_t 586 (by decide +kernel) (by decide +kernel), tyX6_ok, nmX6, rfl, fun _ _ => ⟨rfl, rfl⟩⟩
theorem fl_X6_74 : kFl RX6 74 6 7 := ⟨RX6, TX6, 13, rfl, by decide, inkX6, kw_t 590 (by decide +kernel) (by decide +kernel)⟩
theorem fp_X6_74 : kFp RX6 74 6 7 (fun _ => True) := ⟨RX6, TX6, 13, tyX6, rfl, by decide, inkX6, kw_t 590 (by decide +kernel) (by decide +kernel), tyX6_ok, nmX6, rfl, fun _ _ => ⟨rfl, rfl⟩⟩
theorem fl_X6_81 : kFl RX6 81 6 8 := ⟨RX6, TX6, 13, rfl, by decide, inkX6, kw_t 591 (by decide +kernel) (by decide +kernel)⟩
theorem fp_X6_81 : kFp RX6 81 6 8 (fun _ => True) := ⟨RX6, TX6, 13, tyX6, rfl, by decide, inkX6, kw_t 591 (by decide +kernel) (by decide +kernel), tyX6_ok, nmX6, rfl, fun _ _ => ⟨rfl, rfl⟩⟩
theorem fl_X6_176 : kFl RX6 176 6 1 := ⟨RX6, TX6, 13, rfl, by decide, inkX6, kw_t 584 (by decide +kernel) (by decide +kernel)⟩
theorem fp_X6_176 : kFp RX6 176 6 1 (fun v => v = 0 ∨ v = 1) := ⟨RX6, TX6, 13, tyX6, rfl, by decide, inkX6, kw_t 584 (by decide +kernel) (by decide +kernel), tyX6_ok, nmX6, rfl, (by intro v hv; rcases hv with rfl | rfl <;> exact ⟨rfl, rfl⟩)⟩
abbrev mX0_begin : kX := (yX0_begin, cX0_begin, 3, none, 3)
theorem fm_X0_begin : kMb mX0_begin 1 := ⟨kw_t 399 (by decide +kernel) (by decide +kernel), kw_t 4 (by decide +kernel) (by decide +kernel), by decide +kernel, by decide⟩
theorem fi_X0_begin : Cond.instanceMethod mX0_begin.1 ∈ kw ∧ Cond.selects mX0_begin.1.cls mX0_begin.1 mX0_begin.1 ∈ kw := ⟨kw_t 397 (by decide +kernel) (by decide +kernel), kw_t 398 (by decide +kernel) (by decide +kernel)⟩
abbrev mX0_rideToForge : kX := (yX0_rideToForge, cX0_rideToForge, 6, some .int, 2)
theorem fm_X0_rideToForge : kMb mX0_rideToForge 2 := ⟨kw_t 412 (by decide +kernel) (by decide +kernel), kw_t 4 (by decide +kernel) (by decide +kernel), by decide +kernel, by decide⟩
theorem fi_X0_rideToForge : Cond.instanceMethod mX0_rideToForge.1 ∈ kw ∧ Cond.selects mX0_rideToForge.1.cls mX0_rideToForge.1 mX0_rideToForge.1 ∈ kw := ⟨kw_t 410 (by decide +kernel) (by decide +kernel), kw_t 411 (by decide +kernel) (by decide +kernel)⟩
abbrev mX0_whoIsFirst : kX := (yX0_whoIsFirst, cX0_whoIsFirst, 5, some .int, 3)
theorem fm_X0_whoIsFirst : kMb mX0_whoIsFirst 0 := ⟨kw_t 432 (by decide +kernel) (by decide +kernel), kw_t 4 (by decide +kernel) (by decide +kernel), by decide +kernel, by decide⟩
theorem fi_X0_whoIsFirst : Cond.instanceMethod mX0_whoIsFirst.1 ∈ kw ∧ Cond.selects mX0_whoIsFirst.1.cls mX0_whoIsFirst.1 mX0_whoIsFirst.1 ∈ kw := ⟨kw_t 430 (by decide +kernel) (by decide +kernel), kw_t 431 (by decide +kernel) (by decide +kernel)⟩
abbrev mX0_cameTo : kX := (yX0_cameTo, cX0_cameTo, 3, some .int, 0)
theorem fm_X0_cameTo : kMb mX0_cameTo 2 := ⟨kw_t 424 (by decide +kernel) (by decide +kernel), kw_t 4 (by decide +kernel) (by decide +kernel), by decide +kernel, by decide⟩
theorem fi_X0_cameTo : Cond.instanceMethod mX0_cameTo.1 ∈ kw ∧ Cond.selects mX0_cameTo.1.cls mX0_cameTo.1 mX0_cameTo.1 ∈ kw := ⟨kw_t 422 (by decide +kernel) (by decide +kernel), kw_t 423 (by decide +kernel) (by decide +kernel)⟩
abbrev mX0_noteWhere : kX := (yX0_noteWhere, cX0_noteWhere, 2, none, 0)
theorem fm_X0_noteWhere : kMb mX0_noteWhere 1 := ⟨kw_t 408 (by decide +kernel) (by decide +kernel), kw_t 4 (by decide +kernel) (by decide +kernel), by decide +kernel, by decide⟩
theorem fi_X0_noteWhere : Cond.instanceMethod mX0_noteWhere.1 ∈ kw ∧ Cond.selects mX0_noteWhere.1.cls mX0_noteWhere.1 mX0_noteWhere.1 ∈ kw := ⟨kw_t 407 (by decide +kernel) (by decide +kernel), kw_l 12 (by decide +kernel) (by decide +kernel)⟩
abbrev mX1_isMissing : kX := (yX1_isMissing, cX1_isMissing, 1, some .boolean, 0)
theorem fm_X1_isMissing : kMb mX1_isMissing 0 := ⟨kw_t 533 (by decide +kernel) (by decide +kernel), kw_t 6 (by decide +kernel) (by decide +kernel), by decide +kernel, by decide⟩
theorem fi_X1_isMissing : Cond.instanceMethod mX1_isMissing.1 ∈ kw ∧ Cond.selects mX1_isMissing.1.cls mX1_isMissing.1 mX1_isMissing.1 ∈ kw := ⟨kw_t 531 (by decide +kernel) (by decide +kernel), kw_t 532 (by decide +kernel) (by decide +kernel)⟩
abbrev mX1_lay : kX := (yX1_lay, cX1_lay, 4, none, 0)
theorem fm_X1_lay : kMb mX1_lay 2 := ⟨kw_t 557 (by decide +kernel) (by decide +kernel), kw_t 6 (by decide +kernel) (by decide +kernel), by decide +kernel, by decide⟩
theorem fi_X1_lay : Cond.instanceMethod mX1_lay.1 ∈ kw ∧ Cond.selects mX1_lay.1.cls mX1_lay.1 mX1_lay.1 ∈ kw := ⟨kw_t 555 (by decide +kernel) (by decide +kernel), kw_t 556 (by decide +kernel) (by decide +kernel)⟩
abbrev mX1_clear : kX := (yX1_clear, cX1_clear, 1, some .int, 0)
theorem fm_X1_clear : kMb mX1_clear 0 := ⟨kw_t 566 (by decide +kernel) (by decide +kernel), kw_t 6 (by decide +kernel) (by decide +kernel), by decide +kernel, by decide⟩
theorem fi_X1_clear : Cond.instanceMethod mX1_clear.1 ∈ kw ∧ Cond.selects mX1_clear.1.cls mX1_clear.1 mX1_clear.1 ∈ kw := ⟨kw_t 564 (by decide +kernel) (by decide +kernel), kw_t 565 (by decide +kernel) (by decide +kernel)⟩
abbrev mX1_holds : kX := (yX1_holds, cX1_holds, 3, some .boolean, 0)
theorem fm_X1_holds : kMb mX1_holds 2 := ⟨kw_t 537 (by decide +kernel) (by decide +kernel), kw_t 6 (by decide +kernel) (by decide +kernel), by decide +kernel, by decide⟩
theorem fi_X1_holds : Cond.instanceMethod mX1_holds.1 ∈ kw ∧ Cond.selects mX1_holds.1.cls mX1_holds.1 mX1_holds.1 ∈ kw := ⟨kw_t 535 (by decide +kernel) (by decide +kernel), kw_t 536 (by decide +kernel) (by decide +kernel)⟩
abbrev mX1_faultOf : kX := (yX1_faultOf, cX1_faultOf, 4, some .int, 1)
theorem fm_X1_faultOf : kMb mX1_faultOf 3 := ⟨kw_t 529 (by decide +kernel) (by decide +kernel), kw_t 6 (by decide +kernel) (by decide +kernel), by decide +kernel, by decide⟩
theorem fi_X1_faultOf : Cond.instanceMethod mX1_faultOf.1 ∈ kw ∧ Cond.selects mX1_faultOf.1.cls mX1_faultOf.1 mX1_faultOf.1 ∈ kw := ⟨kw_t 527 (by decide +kernel) (by decide +kernel), kw_t 528 (by decide +kernel) (by decide +kernel)⟩
abbrev mX1_put : kX := (yX1_put, cX1_put, 4, none, 0)
theorem fm_X1_put : kMb mX1_put 2 := ⟨kw_t 549 (by decide +kernel) (by decide +kernel), kw_t 6 (by decide +kernel) (by decide +kernel), by decide +kernel, by decide⟩
theorem fi_X1_put : Cond.instanceMethod mX1_put.1 ∈ kw ∧ Cond.selects mX1_put.1.cls mX1_put.1 mX1_put.1 ∈ kw := ⟨kw_t 547 (by decide +kernel) (by decide +kernel), kw_t 548 (by decide +kernel) (by decide +kernel)⟩
abbrev mX2_forget : kX := (yX2_forget, cX2_forget, 1, none, 0)
theorem fm_X2_forget : kMb mX2_forget 0 := ⟨kw_t 197 (by decide +kernel) (by decide +kernel), kw_t 3 (by decide +kernel) (by decide +kernel), by decide +kernel, by decide⟩
theorem fi_X2_forget : Cond.instanceMethod mX2_forget.1 ∈ kw ∧ Cond.selects mX2_forget.1.cls mX2_forget.1 mX2_forget.1 ∈ kw := ⟨kw_t 195 (by decide +kernel) (by decide +kernel), kw_t 196 (by decide +kernel) (by decide +kernel)⟩
abbrev mX2_mark : kX := (yX2_mark, cX2_mark, 2, none, 2)
theorem fm_X2_mark : kMb mX2_mark 1 := ⟨kw_t 333 (by decide +kernel) (by decide +kernel), kw_t 3 (by decide +kernel) (by decide +kernel), by decide +kernel, by decide⟩
theorem fi_X2_mark : Cond.instanceMethod mX2_mark.1 ∈ kw ∧ Cond.selects mX2_mark.1.cls mX2_mark.1 mX2_mark.1 ∈ kw := ⟨kw_t 331 (by decide +kernel) (by decide +kernel), kw_t 332 (by decide +kernel) (by decide +kernel)⟩
abbrev mX2_goBack : kX := (yX2_goBack, cX2_goBack, 2, none, 2)
theorem fm_X2_goBack : kMb mX2_goBack 1 := ⟨kw_t 380 (by decide +kernel) (by decide +kernel), kw_t 3 (by decide +kernel) (by decide +kernel), by decide +kernel, by decide⟩
theorem fi_X2_goBack : Cond.instanceMethod mX2_goBack.1 ∈ kw ∧ Cond.selects mX2_goBack.1.cls mX2_goBack.1 mX2_goBack.1 ∈ kw := ⟨kw_t 378 (by decide +kernel) (by decide +kernel), kw_t 379 (by decide +kernel) (by decide +kernel)⟩
abbrev mX2_takeAll : kX := (yX2_takeAll, cX2_takeAll, 2, none, 1)
theorem fm_X2_takeAll : kMb mX2_takeAll 1 := ⟨kw_t 506 (by decide +kernel) (by decide +kernel), kw_t 3 (by decide +kernel) (by decide +kernel), by decide +kernel, by decide⟩
theorem fi_X2_takeAll : Cond.instanceMethod mX2_takeAll.1 ∈ kw ∧ Cond.selects mX2_takeAll.1.cls mX2_takeAll.1 mX2_takeAll.1 ∈ kw := ⟨kw_t 504 (by decide +kernel) (by decide +kernel), kw_t 505 (by decide +kernel) (by decide +kernel)⟩
abbrev mX3_takeAll : kX := (yX3_takeAll, cX3_takeAll, 2, none, 2)
theorem fm_X3_takeAll : kMb mX3_takeAll 1 := ⟨kw_t 403 (by decide +kernel) (by decide +kernel), kw_t 2 (by decide +kernel) (by decide +kernel), by decide +kernel, by decide⟩
theorem fi_X3_takeAll : Cond.instanceMethod mX3_takeAll.1 ∈ kw ∧ Cond.selects mX3_takeAll.1.cls mX3_takeAll.1 mX3_takeAll.1 ∈ kw := ⟨kw_t 401 (by decide +kernel) (by decide +kernel), kw_t 402 (by decide +kernel) (by decide +kernel)⟩
abbrev mX3_takeRoad : kX := (yX3_takeRoad, cX3_takeRoad, 2, none, 1)
theorem fm_X3_takeRoad : kMb mX3_takeRoad 1 := ⟨kw_t 306 (by decide +kernel) (by decide +kernel), kw_t 2 (by decide +kernel) (by decide +kernel), by decide +kernel, by decide⟩
theorem fi_X3_takeRoad : Cond.instanceMethod mX3_takeRoad.1 ∈ kw ∧ Cond.selects mX3_takeRoad.1.cls mX3_takeRoad.1 mX3_takeRoad.1 ∈ kw := ⟨kw_t 304 (by decide +kernel) (by decide +kernel), kw_t 305 (by decide +kernel) (by decide +kernel)⟩
abbrev mX3_writeMoving : kX := (yX3_writeMoving, cX3_writeMoving, 3, none, 1)
theorem fm_X3_writeMoving : kMb mX3_writeMoving 2 := ⟨kw_t 337 (by decide +kernel) (by decide +kernel), kw_t 2 (by decide +kernel) (by decide +kernel), by decide +kernel, by decide⟩
theorem fi_X3_writeMoving : Cond.instanceMethod mX3_writeMoving.1 ∈ kw ∧ Cond.selects mX3_writeMoving.1.cls mX3_writeMoving.1 mX3_writeMoving.1 ∈ kw := ⟨kw_t 335 (by decide +kernel) (by decide +kernel), kw_t 336 (by decide +kernel) (by decide +kernel)⟩
abbrev mX3_readMoving : kX := (yX3_readMoving, cX3_readMoving, 3, none, 1)
theorem fm_X3_readMoving : kMb mX3_readMoving 2 := ⟨kw_t 384 (by decide +kernel) (by decide +kernel), kw_t 2 (by decide +kernel) (by decide +kernel), by decide +kernel, by decide⟩
theorem fi_X3_readMoving : Cond.instanceMethod mX3_readMoving.1 ∈ kw ∧ Cond.selects mX3_readMoving.1.cls mX3_readMoving.1 mX3_readMoving.1 ∈ kw := ⟨kw_t 382 (by decide +kernel) (by decide +kernel), kw_t 383 (by decide +kernel) (by decide +kernel)⟩
abbrev mX3_addStage : kX := (yX3_addStage, cX3_addStage, 4, some .int, 0)
theorem fm_X3_addStage : kMb mX3_addStage 3 := ⟨kw_t 201 (by decide +kernel) (by decide +kernel), kw_t 2 (by decide +kernel) (by decide +kernel), by decide +kernel, by decide⟩
theorem fi_X3_addStage : Cond.instanceMethod mX3_addStage.1 ∈ kw ∧ Cond.selects mX3_addStage.1.cls mX3_addStage.1 mX3_addStage.1 ∈ kw := ⟨kw_t 199 (by decide +kernel) (by decide +kernel), kw_t 200 (by decide +kernel) (by decide +kernel)⟩
abbrev mX3_addRider : kX := (yX3_addRider, cX3_addRider, 4, some .int, 0)
theorem fm_X3_addRider : kMb mX3_addRider 3 := ⟨kw_t 209 (by decide +kernel) (by decide +kernel), kw_t 2 (by decide +kernel) (by decide +kernel), by decide +kernel, by decide⟩
theorem fi_X3_addRider : Cond.instanceMethod mX3_addRider.1 ∈ kw ∧ Cond.selects mX3_addRider.1.cls mX3_addRider.1 mX3_addRider.1 ∈ kw := ⟨kw_t 207 (by decide +kernel) (by decide +kernel), kw_t 208 (by decide +kernel) (by decide +kernel)⟩
abbrev mX3_isThere : kX := (yX3_isThere, cX3_isThere, 2, some .boolean, 0)
theorem fm_X3_isThere : kMb mX3_isThere 1 := ⟨kw_t 229 (by decide +kernel) (by decide +kernel), kw_t 2 (by decide +kernel) (by decide +kernel), by decide +kernel, by decide⟩
theorem fi_X3_isThere : Cond.instanceMethod mX3_isThere.1 ∈ kw ∧ Cond.selects mX3_isThere.1.cls mX3_isThere.1 mX3_isThere.1 ∈ kw := ⟨kw_t 227 (by decide +kernel) (by decide +kernel), kw_t 228 (by decide +kernel) (by decide +kernel)⟩
abbrev mX3_whoIsThere : kX := (yX3_whoIsThere, cX3_whoIsThere, 3, some .int, 1)
theorem fm_X3_whoIsThere : kMb mX3_whoIsThere 0 := ⟨kw_t 317 (by decide +kernel) (by decide +kernel), kw_t 2 (by decide +kernel) (by decide +kernel), by decide +kernel, by decide⟩
theorem fi_X3_whoIsThere : Cond.instanceMethod mX3_whoIsThere.1 ∈ kw ∧ Cond.selects mX3_whoIsThere.1.cls mX3_whoIsThere.1 mX3_whoIsThere.1 ∈ kw := ⟨kw_t 315 (by decide +kernel) (by decide +kernel), kw_t 316 (by decide +kernel) (by decide +kernel)⟩
abbrev mX3_whoRides : kX := (yX3_whoRides, cX3_whoRides, 3, some .int, 1)
theorem fm_X3_whoRides : kMb mX3_whoRides 0 := ⟨kw_t 322 (by decide +kernel) (by decide +kernel), kw_t 2 (by decide +kernel) (by decide +kernel), by decide +kernel, by decide⟩
theorem fi_X3_whoRides : Cond.instanceMethod mX3_whoRides.1 ∈ kw ∧ Cond.selects mX3_whoRides.1.cls mX3_whoRides.1 mX3_whoRides.1 ∈ kw := ⟨kw_t 320 (by decide +kernel) (by decide +kernel), kw_t 321 (by decide +kernel) (by decide +kernel)⟩
abbrev mX3_rideStage : kX := (yX3_rideStage, cX3_rideStage, 5, none, 1)
theorem fm_X3_rideStage : kMb mX3_rideStage 2 := ⟨kw_t 344 (by decide +kernel) (by decide +kernel), kw_t 2 (by decide +kernel) (by decide +kernel), by decide +kernel, by decide⟩
theorem fi_X3_rideStage : Cond.instanceMethod mX3_rideStage.1 ∈ kw ∧ Cond.selects mX3_rideStage.1.cls mX3_rideStage.1 mX3_rideStage.1 ∈ kw := ⟨kw_t 342 (by decide +kernel) (by decide +kernel), kw_t 343 (by decide +kernel) (by decide +kernel)⟩
abbrev mX3_drawWheel : kX := (yX3_drawWheel, cX3_drawWheel, 1, some .boolean, 0)
theorem fm_X3_drawWheel : kMb mX3_drawWheel 0 := ⟨kw_t 369 (by decide +kernel) (by decide +kernel), kw_t 2 (by decide +kernel) (by decide +kernel), by decide +kernel, by decide⟩
theorem fi_X3_drawWheel : Cond.instanceMethod mX3_drawWheel.1 ∈ kw ∧ Cond.selects mX3_drawWheel.1.cls mX3_drawWheel.1 mX3_drawWheel.1 ∈ kw := ⟨kw_t 367 (by decide +kernel) (by decide +kernel), kw_t 368 (by decide +kernel) (by decide +kernel)⟩
abbrev mX4_isFull : kX := (yX4_isFull, cX4_isFull, 1, some .boolean, 0)
theorem fm_X4_isFull : kMb mX4_isFull 0 := ⟨kw_t 248 (by decide +kernel) (by decide +kernel), kw_t 5 (by decide +kernel) (by decide +kernel), by decide +kernel, by decide⟩
theorem fi_X4_isFull : Cond.instanceMethod mX4_isFull.1 ∈ kw ∧ Cond.selects mX4_isFull.1.cls mX4_isFull.1 mX4_isFull.1 ∈ kw := ⟨kw_t 246 (by decide +kernel) (by decide +kernel), kw_t 247 (by decide +kernel) (by decide +kernel)⟩
abbrev mX4_append : kX := (yX4_append, cX4_append, 2, some .int, 0)
theorem fm_X4_append : kMb mX4_append 1 := ⟨kw_t 252 (by decide +kernel) (by decide +kernel), kw_t 5 (by decide +kernel) (by decide +kernel), by decide +kernel, by decide⟩
theorem fi_X4_append : Cond.instanceMethod mX4_append.1 ∈ kw ∧ Cond.selects mX4_append.1.cls mX4_append.1 mX4_append.1 ∈ kw := ⟨kw_t 250 (by decide +kernel) (by decide +kernel), kw_t 251 (by decide +kernel) (by decide +kernel)⟩
abbrev mX4_readRoad : kX := (yX4_readRoad, cX4_readRoad, 2, some .int, 5)
theorem fm_X4_readRoad : kMb mX4_readRoad 0 := ⟨kw_t 260 (by decide +kernel) (by decide +kernel), kw_t 5 (by decide +kernel) (by decide +kernel), by decide +kernel, by decide⟩
theorem fi_X4_readRoad : Cond.instanceMethod mX4_readRoad.1 ∈ kw ∧ Cond.selects mX4_readRoad.1.cls mX4_readRoad.1 mX4_readRoad.1 ∈ kw := ⟨kw_t 258 (by decide +kernel) (by decide +kernel), kw_t 259 (by decide +kernel) (by decide +kernel)⟩
abbrev mX4_readStages : kX := (yX4_readStages, cX4_readStages, 2, some .boolean, 3)
theorem fm_X4_readStages : kMb mX4_readStages 0 := ⟨kw_t 264 (by decide +kernel) (by decide +kernel), kw_t 5 (by decide +kernel) (by decide +kernel), by decide +kernel, by decide⟩
theorem fi_X4_readStages : Cond.instanceMethod mX4_readStages.1 ∈ kw ∧ Cond.selects mX4_readStages.1.cls mX4_readStages.1 mX4_readStages.1 ∈ kw := ⟨kw_t 263 (by decide +kernel) (by decide +kernel), kw_l 2 (by decide +kernel) (by decide +kernel)⟩
abbrev mX4_readStage : kX := (yX4_readStage, cX4_readStage, 4, some .boolean, 2)
theorem fm_X4_readStage : kMb mX4_readStage 0 := ⟨kw_t 268 (by decide +kernel) (by decide +kernel), kw_t 5 (by decide +kernel) (by decide +kernel), by decide +kernel, by decide⟩
theorem fi_X4_readStage : Cond.instanceMethod mX4_readStage.1 ∈ kw ∧ Cond.selects mX4_readStage.1.cls mX4_readStage.1 mX4_readStage.1 ∈ kw := ⟨kw_t 267 (by decide +kernel) (by decide +kernel), kw_l 3 (by decide +kernel) (by decide +kernel)⟩
abbrev mX4_readRiders : kX := (yX4_readRiders, cX4_readRiders, 2, some .boolean, 4)
theorem fm_X4_readRiders : kMb mX4_readRiders 0 := ⟨kw_t 286 (by decide +kernel) (by decide +kernel), kw_t 5 (by decide +kernel) (by decide +kernel), by decide +kernel, by decide⟩
theorem fi_X4_readRiders : Cond.instanceMethod mX4_readRiders.1 ∈ kw ∧ Cond.selects mX4_readRiders.1.cls mX4_readRiders.1 mX4_readRiders.1 ∈ kw := ⟨kw_t 285 (by decide +kernel) (by decide +kernel), kw_l 7 (by decide +kernel) (by decide +kernel)⟩
abbrev mX4_readRider : kX := (yX4_readRider, cX4_readRider, 5, some .boolean, 3)
theorem fm_X4_readRider : kMb mX4_readRider 0 := ⟨kw_t 290 (by decide +kernel) (by decide +kernel), kw_t 5 (by decide +kernel) (by decide +kernel), by decide +kernel, by decide⟩
theorem fi_X4_readRider : Cond.instanceMethod mX4_readRider.1 ∈ kw ∧ Cond.selects mX4_readRider.1.cls mX4_readRider.1 mX4_readRider.1 ∈ kw := ⟨kw_t 289 (by decide +kernel) (by decide +kernel), kw_l 8 (by decide +kernel) (by decide +kernel)⟩
abbrev mX4_readBuying : kX := (yX4_readBuying, cX4_readBuying, 6, some .boolean, 2)
theorem fm_X4_readBuying : kMb mX4_readBuying 1 := ⟨kw_t 302 (by decide +kernel) (by decide +kernel), kw_t 5 (by decide +kernel) (by decide +kernel), by decide +kernel, by decide⟩
theorem fi_X4_readBuying : Cond.instanceMethod mX4_readBuying.1 ∈ kw ∧ Cond.selects mX4_readBuying.1.cls mX4_readBuying.1 mX4_readBuying.1 ∈ kw := ⟨kw_t 301 (by decide +kernel) (by decide +kernel), kw_l 10 (by decide +kernel) (by decide +kernel)⟩
abbrev mX4_readDigit : kX := (yX4_readDigit, cX4_readDigit, 4, some .int, 1)
theorem fm_X4_readDigit : kMb mX4_readDigit 2 := ⟨kw_t 272 (by decide +kernel) (by decide +kernel), kw_t 5 (by decide +kernel) (by decide +kernel), by decide +kernel, by decide⟩
theorem fi_X4_readDigit : Cond.instanceMethod mX4_readDigit.1 ∈ kw ∧ Cond.selects mX4_readDigit.1.cls mX4_readDigit.1 mX4_readDigit.1 ∈ kw := ⟨kw_t 271 (by decide +kernel) (by decide +kernel), kw_l 4 (by decide +kernel) (by decide +kernel)⟩
abbrev mX4_readNumber : kX := (yX4_readNumber, cX4_readNumber, 5, some .int, 2)
theorem fm_X4_readNumber : kMb mX4_readNumber 1 := ⟨kw_t 297 (by decide +kernel) (by decide +kernel), kw_t 5 (by decide +kernel) (by decide +kernel), by decide +kernel, by decide⟩
theorem fi_X4_readNumber : Cond.instanceMethod mX4_readNumber.1 ∈ kw ∧ Cond.selects mX4_readNumber.1.cls mX4_readNumber.1 mX4_readNumber.1 ∈ kw := ⟨kw_t 296 (by decide +kernel) (by decide +kernel), kw_l 9 (by decide +kernel) (by decide +kernel)⟩
abbrev mX4_takes : kX := (yX4_takes, cX4_takes, 2, some .boolean, 1)
theorem fm_X4_takes : kMb mX4_takes 1 := ⟨kw_t 282 (by decide +kernel) (by decide +kernel), kw_t 5 (by decide +kernel) (by decide +kernel), by decide +kernel, by decide⟩
theorem fi_X4_takes : Cond.instanceMethod mX4_takes.1 ∈ kw ∧ Cond.selects mX4_takes.1.cls mX4_takes.1 mX4_takes.1 ∈ kw := ⟨kw_t 281 (by decide +kernel) (by decide +kernel), kw_l 6 (by decide +kernel) (by decide +kernel)⟩
abbrev mX4_letterHere : kX := (yX4_letterHere, cX4_letterHere, 1, some .int, 0)
theorem fm_X4_letterHere : kMb mX4_letterHere 0 := ⟨kw_t 276 (by decide +kernel) (by decide +kernel), kw_t 5 (by decide +kernel) (by decide +kernel), by decide +kernel, by decide⟩
theorem fi_X4_letterHere : Cond.instanceMethod mX4_letterHere.1 ∈ kw ∧ Cond.selects mX4_letterHere.1.cls mX4_letterHere.1 mX4_letterHere.1 ∈ kw := ⟨kw_t 275 (by decide +kernel) (by decide +kernel), kw_l 5 (by decide +kernel) (by decide +kernel)⟩
abbrev mX4_kindOf : kX := (yX4_kindOf, cX4_kindOf, 1, some .int, 0)
theorem fm_X4_kindOf : kMb mX4_kindOf 1 := ⟨kw_t 293 (by decide +kernel) (by decide +kernel), kw_t 5 (by decide +kernel) (by decide +kernel), by decide +kernel, by decide⟩
theorem fs_X4_kindOf : Cond.static mX4_kindOf.1 ∈ kw := kw_t 292 (by decide +kernel) (by decide +kernel)
abbrev mX5_stage : kX := (yX5_stage, cX5_stage, 4, some .int, 1)
theorem fm_X5_stage : kMb mX5_stage 3 := ⟨kw_t 190 (by decide +kernel) (by decide +kernel), kw_t 1 (by decide +kernel) (by decide +kernel), by decide +kernel, by decide⟩
theorem fi_X5_stage : Cond.instanceMethod mX5_stage.1 ∈ kw ∧ Cond.selects mX5_stage.1.cls mX5_stage.1 mX5_stage.1 ∈ kw := ⟨kw_t 188 (by decide +kernel) (by decide +kernel), kw_t 189 (by decide +kernel) (by decide +kernel)⟩
abbrev mX5_rider : kX := (yX5_rider, cX5_rider, 4, some .int, 1)
theorem fm_X5_rider : kMb mX5_rider 3 := ⟨kw_t 205 (by decide +kernel) (by decide +kernel), kw_t 1 (by decide +kernel) (by decide +kernel), by decide +kernel, by decide⟩
theorem fi_X5_rider : Cond.instanceMethod mX5_rider.1 ∈ kw ∧ Cond.selects mX5_rider.1.cls mX5_rider.1 mX5_rider.1 ∈ kw := ⟨kw_t 203 (by decide +kernel) (by decide +kernel), kw_t 204 (by decide +kernel) (by decide +kernel)⟩
abbrev mX5_of : kX := (yX5_of, cX5_of, 3, some .int, 1)
theorem fm_X5_of : kMb mX5_of 2 := ⟨kw_t 213 (by decide +kernel) (by decide +kernel), kw_t 1 (by decide +kernel) (by decide +kernel), by decide +kernel, by decide⟩
theorem fi_X5_of : Cond.instanceMethod mX5_of.1 ∈ kw ∧ Cond.selects mX5_of.1.cls mX5_of.1 mX5_of.1 ∈ kw := ⟨kw_t 211 (by decide +kernel) (by decide +kernel), kw_t 212 (by decide +kernel) (by decide +kernel)⟩
abbrev mX5_at : kX := (yX5_at, cX5_at, 3, some .int, 2)
theorem fm_X5_at : kMb mX5_at 2 := ⟨kw_t 217 (by decide +kernel) (by decide +kernel), kw_t 1 (by decide +kernel) (by decide +kernel), by decide +kernel, by decide⟩
theorem fi_X5_at : Cond.instanceMethod mX5_at.1 ∈ kw ∧ Cond.selects mX5_at.1.cls mX5_at.1 mX5_at.1 ∈ kw := ⟨kw_t 215 (by decide +kernel) (by decide +kernel), kw_t 216 (by decide +kernel) (by decide +kernel)⟩
abbrev mX5_buys : kX := (yX5_buys, cX5_buys, 4, some .int, 2)
theorem fm_X5_buys : kMb mX5_buys 2 := ⟨kw_t 236 (by decide +kernel) (by decide +kernel), kw_t 1 (by decide +kernel) (by decide +kernel), by decide +kernel, by decide⟩
theorem fi_X5_buys : Cond.instanceMethod mX5_buys.1 ∈ kw ∧ Cond.selects mX5_buys.1.cls mX5_buys.1 mX5_buys.1 ∈ kw := ⟨kw_t 234 (by decide +kernel) (by decide +kernel), kw_t 235 (by decide +kernel) (by decide +kernel)⟩
abbrev mX5_price : kX := (yX5_price, cX5_price, 3, some .int, 1)
theorem fm_X5_price : kMb mX5_price 1 := ⟨kw_t 240 (by decide +kernel) (by decide +kernel), kw_t 1 (by decide +kernel) (by decide +kernel), by decide +kernel, by decide⟩
theorem fi_X5_price : Cond.instanceMethod mX5_price.1 ∈ kw ∧ Cond.selects mX5_price.1.cls mX5_price.1 mX5_price.1 ∈ kw := ⟨kw_t 238 (by decide +kernel) (by decide +kernel), kw_t 239 (by decide +kernel) (by decide +kernel)⟩
abbrev mX5_type : kX := (yX5_type, cX5_type, 2, some .int, 1)
theorem fm_X5_type : kMb mX5_type 1 := ⟨kw_t 244 (by decide +kernel) (by decide +kernel), kw_t 1 (by decide +kernel) (by decide +kernel), by decide +kernel, by decide⟩
theorem fi_X5_type : Cond.instanceMethod mX5_type.1 ∈ kw ∧ Cond.selects mX5_type.1.cls mX5_type.1 mX5_type.1 ∈ kw := ⟨kw_t 242 (by decide +kernel) (by decide +kernel), kw_t 243 (by decide +kernel) (by decide +kernel)⟩
abbrev mX5_road : kX := (yX5_road, cX5_road, 2, some .int, 6)
theorem fm_X5_road : kMb mX5_road 0 := ⟨kw_t 256 (by decide +kernel) (by decide +kernel), kw_t 1 (by decide +kernel) (by decide +kernel), by decide +kernel, by decide⟩
theorem fi_X5_road : Cond.instanceMethod mX5_road.1 ∈ kw ∧ Cond.selects mX5_road.1.cls mX5_road.1 mX5_road.1 ∈ kw := ⟨kw_t 254 (by decide +kernel) (by decide +kernel), kw_t 255 (by decide +kernel) (by decide +kernel)⟩
abbrev mX5_count : kX := (yX5_count, cX5_count, 2, some .int, 2)
theorem fm_X5_count : kMb mX5_count 1 := ⟨kw_t 313 (by decide +kernel) (by decide +kernel), kw_t 1 (by decide +kernel) (by decide +kernel), by decide +kernel, by decide⟩
theorem fi_X5_count : Cond.instanceMethod mX5_count.1 ∈ kw ∧ Cond.selects mX5_count.1.cls mX5_count.1 mX5_count.1 ∈ kw := ⟨kw_t 311 (by decide +kernel) (by decide +kernel), kw_t 312 (by decide +kernel) (by decide +kernel)⟩
abbrev mX5_ride : kX := (yX5_ride, cX5_ride, 5, some .int, 3)
theorem fm_X5_ride : kMb mX5_ride 1 := ⟨kw_t 329 (by decide +kernel) (by decide +kernel), kw_t 1 (by decide +kernel) (by decide +kernel), by decide +kernel, by decide⟩
theorem fi_X5_ride : Cond.instanceMethod mX5_ride.1 ∈ kw ∧ Cond.selects mX5_ride.1.cls mX5_ride.1 mX5_ride.1 ∈ kw := ⟨kw_t 327 (by decide +kernel) (by decide +kernel), kw_t 328 (by decide +kernel) (by decide +kernel)⟩
abbrev mX5_wheel : kX := (yX5_wheel, cX5_wheel, 2, some .int, 3)
theorem fm_X5_wheel : kMb mX5_wheel 1 := ⟨kw_t 352 (by decide +kernel) (by decide +kernel), kw_t 1 (by decide +kernel) (by decide +kernel), by decide +kernel, by decide⟩
theorem fi_X5_wheel : Cond.instanceMethod mX5_wheel.1 ∈ kw ∧ Cond.selects mX5_wheel.1.cls mX5_wheel.1 mX5_wheel.1 ∈ kw := ⟨kw_t 350 (by decide +kernel) (by decide +kernel), kw_t 351 (by decide +kernel) (by decide +kernel)⟩
abbrev mX5_give : kX := (yX5_give, cX5_give, 4, some .int, 3)
theorem fm_X5_give : kMb mX5_give 3 := ⟨kw_t 356 (by decide +kernel) (by decide +kernel), kw_t 1 (by decide +kernel) (by decide +kernel), by decide +kernel, by decide⟩
theorem fi_X5_give : Cond.instanceMethod mX5_give.1 ∈ kw ∧ Cond.selects mX5_give.1.cls mX5_give.1 mX5_give.1 ∈ kw := ⟨kw_t 354 (by decide +kernel) (by decide +kernel), kw_t 355 (by decide +kernel) (by decide +kernel)⟩
abbrev mX5_drift : kX := (yX5_drift, cX5_drift, 6, some .int, 3)
theorem fm_X5_drift : kMb mX5_drift 1 := ⟨kw_t 365 (by decide +kernel) (by decide +kernel), kw_t 1 (by decide +kernel) (by decide +kernel), by decide +kernel, by decide⟩
theorem fi_X5_drift : Cond.instanceMethod mX5_drift.1 ∈ kw ∧ Cond.selects mX5_drift.1.cls mX5_drift.1 mX5_drift.1 ∈ kw := ⟨kw_t 363 (by decide +kernel) (by decide +kernel), kw_t 364 (by decide +kernel) (by decide +kernel)⟩
abbrev mX5_undo : kX := (yX5_undo, cX5_undo, 1, some .int, 3)
theorem fm_X5_undo : kMb mX5_undo 0 := ⟨kw_t 376 (by decide +kernel) (by decide +kernel), kw_t 1 (by decide +kernel) (by decide +kernel), by decide +kernel, by decide⟩
theorem fi_X5_undo : Cond.instanceMethod mX5_undo.1 ∈ kw ∧ Cond.selects mX5_undo.1.cls mX5_undo.1 mX5_undo.1 ∈ kw := ⟨kw_t 374 (by decide +kernel) (by decide +kernel), kw_t 375 (by decide +kernel) (by decide +kernel)⟩
abbrev mX5_seed : kX := (yX5_seed, cX5_seed, 3, some .int, 0)
theorem fm_X5_seed : kMb mX5_seed 1 := ⟨kw_t 388 (by decide +kernel) (by decide +kernel), kw_t 1 (by decide +kernel) (by decide +kernel), by decide +kernel, by decide⟩
theorem fi_X5_seed : Cond.instanceMethod mX5_seed.1 ∈ kw ∧ Cond.selects mX5_seed.1.cls mX5_seed.1 mX5_seed.1 ∈ kw := ⟨kw_t 386 (by decide +kernel) (by decide +kernel), kw_t 387 (by decide +kernel) (by decide +kernel)⟩
abbrev mX5_ahead : kX := (yX5_ahead, cX5_ahead, 4, some .int, 4)
theorem fm_X5_ahead : kMb mX5_ahead 2 := ⟨kw_t 392 (by decide +kernel) (by decide +kernel), kw_t 1 (by decide +kernel) (by decide +kernel), by decide +kernel, by decide⟩
theorem fi_X5_ahead : Cond.instanceMethod mX5_ahead.1 ∈ kw ∧ Cond.selects mX5_ahead.1.cls mX5_ahead.1 mX5_ahead.1 ∈ kw := ⟨kw_t 390 (by decide +kernel) (by decide +kernel), kw_t 391 (by decide +kernel) (by decide +kernel)⟩
abbrev mX5_comes : kX := (yX5_comes, cX5_comes, 3, some .int, 4)
theorem fm_X5_comes : kMb mX5_comes 2 := ⟨kw_t 420 (by decide +kernel) (by decide +kernel), kw_t 1 (by decide +kernel) (by decide +kernel), by decide +kernel, by decide⟩
theorem fi_X5_comes : Cond.instanceMethod mX5_comes.1 ∈ kw ∧ Cond.selects mX5_comes.1.cls mX5_comes.1 mX5_comes.1 ∈ kw := ⟨kw_t 418 (by decide +kernel) (by decide +kernel), kw_t 419 (by decide +kernel) (by decide +kernel)⟩
abbrev mX5_first : kX := (yX5_first, cX5_first, 1, some .int, 4)
theorem fm_X5_first : kMb mX5_first 0 := ⟨kw_t 428 (by decide +kernel) (by decide +kernel), kw_t 1 (by decide +kernel) (by decide +kernel), by decide +kernel, by decide⟩
theorem fi_X5_first : Cond.instanceMethod mX5_first.1 ∈ kw ∧ Cond.selects mX5_first.1.cls mX5_first.1 mX5_first.1 ∈ kw := ⟨kw_t 426 (by decide +kernel) (by decide +kernel), kw_t 427 (by decide +kernel) (by decide +kernel)⟩
abbrev mX5_caught : kX := (yX5_caught, cX5_caught, 5, some .int, 4)
theorem fm_X5_caught : kMb mX5_caught 2 := ⟨kw_t 437 (by decide +kernel) (by decide +kernel), kw_t 1 (by decide +kernel) (by decide +kernel), by decide +kernel, by decide⟩
theorem fi_X5_caught : Cond.instanceMethod mX5_caught.1 ∈ kw ∧ Cond.selects mX5_caught.1.cls mX5_caught.1 mX5_caught.1 ∈ kw := ⟨kw_t 435 (by decide +kernel) (by decide +kernel), kw_t 436 (by decide +kernel) (by decide +kernel)⟩
abbrev mX5_best : kX := (yX5_best, cX5_best, 4, some .int, 6)
theorem fm_X5_best : kMb mX5_best 2 := ⟨kw_t 444 (by decide +kernel) (by decide +kernel), kw_t 1 (by decide +kernel) (by decide +kernel), by decide +kernel, by decide⟩
theorem fi_X5_best : Cond.instanceMethod mX5_best.1 ∈ kw ∧ Cond.selects mX5_best.1.cls mX5_best.1 mX5_best.1 ∈ kw := ⟨kw_t 442 (by decide +kernel) (by decide +kernel), kw_t 443 (by decide +kernel) (by decide +kernel)⟩
abbrev mX5_earlier : kX := (yX5_earlier, cX5_earlier, 5, some .int, 4)
theorem fm_X5_earlier : kMb mX5_earlier 2 := ⟨kw_t 462 (by decide +kernel) (by decide +kernel), kw_t 1 (by decide +kernel) (by decide +kernel), by decide +kernel, by decide⟩
theorem fi_X5_earlier : Cond.instanceMethod mX5_earlier.1 ∈ kw ∧ Cond.selects mX5_earlier.1.cls mX5_earlier.1 mX5_earlier.1 ∈ kw := ⟨kw_t 460 (by decide +kernel) (by decide +kernel), kw_t 461 (by decide +kernel) (by decide +kernel)⟩
abbrev mX5_purse : kX := (yX5_purse, cX5_purse, 4, some .int, 4)
theorem fm_X5_purse : kMb mX5_purse 2 := ⟨kw_t 466 (by decide +kernel) (by decide +kernel), kw_t 1 (by decide +kernel) (by decide +kernel), by decide +kernel, by decide⟩
theorem fi_X5_purse : Cond.instanceMethod mX5_purse.1 ∈ kw ∧ Cond.selects mX5_purse.1.cls mX5_purse.1 mX5_purse.1 ∈ kw := ⟨kw_t 464 (by decide +kernel) (by decide +kernel), kw_t 465 (by decide +kernel) (by decide +kernel)⟩
abbrev mX5_loosened : kX := (yX5_loosened, cX5_loosened, 7, some .int, 4)
theorem fm_X5_loosened : kMb mX5_loosened 2 := ⟨kw_t 470 (by decide +kernel) (by decide +kernel), kw_t 1 (by decide +kernel) (by decide +kernel), by decide +kernel, by decide⟩
theorem fi_X5_loosened : Cond.instanceMethod mX5_loosened.1 ∈ kw ∧ Cond.selects mX5_loosened.1.cls mX5_loosened.1 mX5_loosened.1 ∈ kw := ⟨kw_t 468 (by decide +kernel) (by decide +kernel), kw_t 469 (by decide +kernel) (by decide +kernel)⟩
abbrev mX5_duel : kX := (yX5_duel, cX5_duel, 8, some .int, 5)
theorem fm_X5_duel : kMb mX5_duel 3 := ⟨kw_t 474 (by decide +kernel) (by decide +kernel), kw_t 1 (by decide +kernel) (by decide +kernel), by decide +kernel, by decide⟩
theorem fi_X5_duel : Cond.instanceMethod mX5_duel.1 ∈ kw ∧ Cond.selects mX5_duel.1.cls mX5_duel.1 mX5_duel.1 ∈ kw := ⟨kw_t 472 (by decide +kernel) (by decide +kernel), kw_t 473 (by decide +kernel) (by decide +kernel)⟩
abbrev mX5_luck : kX := (yX5_luck, cX5_luck, 9, some .int, 5)
theorem fm_X5_luck : kMb mX5_luck 3 := ⟨kw_t 486 (by decide +kernel) (by decide +kernel), kw_t 1 (by decide +kernel) (by decide +kernel), by decide +kernel, by decide⟩
theorem fi_X5_luck : Cond.instanceMethod mX5_luck.1 ∈ kw ∧ Cond.selects mX5_luck.1.cls mX5_luck.1 mX5_luck.1 ∈ kw := ⟨kw_t 484 (by decide +kernel) (by decide +kernel), kw_t 485 (by decide +kernel) (by decide +kernel)⟩
abbrev mX5_image : kX := (yX5_image, cX5_image, 1, some .int, 3)
theorem fm_X5_image : kMb mX5_image 0 := ⟨kw_t 501 (by decide +kernel) (by decide +kernel), kw_t 1 (by decide +kernel) (by decide +kernel), by decide +kernel, by decide⟩
theorem fi_X5_image : Cond.instanceMethod mX5_image.1 ∈ kw ∧ Cond.selects mX5_image.1.cls mX5_image.1 mX5_image.1 ∈ kw := ⟨kw_t 499 (by decide +kernel) (by decide +kernel), kw_t 500 (by decide +kernel) (by decide +kernel)⟩
abbrev mX5_restore : kX := (yX5_restore, cX5_restore, 1, some .int, 3)
theorem fm_X5_restore : kMb mX5_restore 0 := ⟨kw_t 511 (by decide +kernel) (by decide +kernel), kw_t 1 (by decide +kernel) (by decide +kernel), by decide +kernel, by decide⟩
theorem fi_X5_restore : Cond.instanceMethod mX5_restore.1 ∈ kw ∧ Cond.selects mX5_restore.1.cls mX5_restore.1 mX5_restore.1 ∈ kw := ⟨kw_t 509 (by decide +kernel) (by decide +kernel), kw_t 510 (by decide +kernel) (by decide +kernel)⟩
abbrev mX5_passed : kX := (yX5_passed, cX5_passed, 9, some .int, 4)
theorem fm_X5_passed : kMb mX5_passed 5 := ⟨kw_t 515 (by decide +kernel) (by decide +kernel), kw_t 1 (by decide +kernel) (by decide +kernel), by decide +kernel, by decide⟩
theorem fi_X5_passed : Cond.instanceMethod mX5_passed.1 ∈ kw ∧ Cond.selects mX5_passed.1.cls mX5_passed.1 mX5_passed.1 ∈ kw := ⟨kw_t 513 (by decide +kernel) (by decide +kernel), kw_t 514 (by decide +kernel) (by decide +kernel)⟩
abbrev mX5_film : kX := (yX5_film, cX5_film, 9, some .int, 4)
theorem fm_X5_film : kMb mX5_film 5 := ⟨kw_t 545 (by decide +kernel) (by decide +kernel), kw_t 1 (by decide +kernel) (by decide +kernel), by decide +kernel, by decide⟩
theorem fi_X5_film : Cond.instanceMethod mX5_film.1 ∈ kw ∧ Cond.selects mX5_film.1.cls mX5_film.1 mX5_film.1 ∈ kw := ⟨kw_t 543 (by decide +kernel) (by decide +kernel), kw_t 544 (by decide +kernel) (by decide +kernel)⟩
abbrev mX5_sheet : kX := (yX5_sheet, cX5_sheet, 4, some .int, 2)
theorem fm_X5_sheet : kMb mX5_sheet 3 := ⟨kw_t 553 (by decide +kernel) (by decide +kernel), kw_t 1 (by decide +kernel) (by decide +kernel), by decide +kernel, by decide⟩
theorem fi_X5_sheet : Cond.instanceMethod mX5_sheet.1 ∈ kw ∧ Cond.selects mX5_sheet.1.cls mX5_sheet.1 mX5_sheet.1 ∈ kw := ⟨kw_t 551 (by decide +kernel) (by decide +kernel), kw_t 552 (by decide +kernel) (by decide +kernel)⟩
abbrev mX5_drop : kX := (yX5_drop, cX5_drop, 2, some .int, 2)
theorem fm_X5_drop : kMb mX5_drop 1 := ⟨kw_t 561 (by decide +kernel) (by decide +kernel), kw_t 1 (by decide +kernel) (by decide +kernel), by decide +kernel, by decide⟩
theorem fi_X5_drop : Cond.instanceMethod mX5_drop.1 ∈ kw ∧ Cond.selects mX5_drop.1.cls mX5_drop.1 mX5_drop.1 ∈ kw := ⟨kw_t 559 (by decide +kernel) (by decide +kernel), kw_t 560 (by decide +kernel) (by decide +kernel)⟩
abbrev mX5_item : kX := (yX5_item, cX5_item, 7, some .int, 2)
theorem fm_X5_item : kMb mX5_item 4 := ⟨kw_t 570 (by decide +kernel) (by decide +kernel), kw_t 1 (by decide +kernel) (by decide +kernel), by decide +kernel, by decide⟩
theorem fi_X5_item : Cond.instanceMethod mX5_item.1 ∈ kw ∧ Cond.selects mX5_item.1.cls mX5_item.1 mX5_item.1 ∈ kw := ⟨kw_t 568 (by decide +kernel) (by decide +kernel), kw_t 569 (by decide +kernel) (by decide +kernel)⟩
abbrev mX5_copy : kX := (yX5_copy, cX5_copy, 8, some .int, 2)
theorem fm_X5_copy : kMb mX5_copy 5 := ⟨kw_t 574 (by decide +kernel) (by decide +kernel), kw_t 1 (by decide +kernel) (by decide +kernel), by decide +kernel, by decide⟩
theorem fi_X5_copy : Cond.instanceMethod mX5_copy.1 ∈ kw ∧ Cond.selects mX5_copy.1.cls mX5_copy.1 mX5_copy.1 ∈ kw := ⟨kw_t 572 (by decide +kernel) (by decide +kernel), kw_t 573 (by decide +kernel) (by decide +kernel)⟩
abbrev mX5_within : kX := (yX5_within, cX5_within, 3, some .boolean, 0)
theorem fm_X5_within : kMb mX5_within 3 := ⟨kw_t 193 (by decide +kernel) (by decide +kernel), kw_t 1 (by decide +kernel) (by decide +kernel), by decide +kernel, by decide⟩
theorem fs_X5_within : Cond.static mX5_within.1 ∈ kw := kw_t 192 (by decide +kernel) (by decide +kernel)
abbrev mX5_isZeroOrOne : kX := (yX5_isZeroOrOne, cX5_isZeroOrOne, 1, some .boolean, 1)
theorem fm_X5_isZeroOrOne : kMb mX5_isZeroOrOne 1 := ⟨kw_t 395 (by decide +kernel) (by decide +kernel), kw_t 1 (by decide +kernel) (by decide +kernel), by decide +kernel, by decide⟩
theorem fs_X5_isZeroOrOne : Cond.static mX5_isZeroOrOne.1 ∈ kw := kw_t 394 (by decide +kernel) (by decide +kernel)
abbrev mX5_isSheet : kX := (yX5_isSheet, cX5_isSheet, 1, some .boolean, 1)
theorem fm_X5_isSheet : kMb mX5_isSheet 1 := ⟨kw_t 522 (by decide +kernel) (by decide +kernel), kw_t 1 (by decide +kernel) (by decide +kernel), by decide +kernel, by decide⟩
theorem fs_X5_isSheet : Cond.static mX5_isSheet.1 ∈ kw := kw_t 521 (by decide +kernel) (by decide +kernel)
abbrev mX5_isLane : kX := (yX5_isLane, cX5_isLane, 1, some .boolean, 1)
theorem fm_X5_isLane : kMb mX5_isLane 1 := ⟨kw_t 525 (by decide +kernel) (by decide +kernel), kw_t 1 (by decide +kernel) (by decide +kernel), by decide +kernel, by decide⟩
theorem fs_X5_isLane : Cond.static mX5_isLane.1 ∈ kw := kw_t 524 (by decide +kernel) (by decide +kernel)
abbrev mX5_isRider : kX := (yX5_isRider, cX5_isRider, 2, some .boolean, 1)
theorem fm_X5_isRider : kMb mX5_isRider 1 := ⟨kw_t 221 (by decide +kernel) (by decide +kernel), kw_t 1 (by decide +kernel) (by decide +kernel), by decide +kernel, by decide⟩
theorem fi_X5_isRider : Cond.instanceMethod mX5_isRider.1 ∈ kw ∧ Cond.selects mX5_isRider.1.cls mX5_isRider.1 mX5_isRider.1 ∈ kw := ⟨kw_t 220 (by decide +kernel) (by decide +kernel), kw_l 0 (by decide +kernel) (by decide +kernel)⟩
abbrev mX5_areTwo : kX := (yX5_areTwo, cX5_areTwo, 3, some .boolean, 2)
theorem fm_X5_areTwo : kMb mX5_areTwo 2 := ⟨kw_t 360 (by decide +kernel) (by decide +kernel), kw_t 1 (by decide +kernel) (by decide +kernel), by decide +kernel, by decide⟩
theorem fi_X5_areTwo : Cond.instanceMethod mX5_areTwo.1 ∈ kw ∧ Cond.selects mX5_areTwo.1.cls mX5_areTwo.1 mX5_areTwo.1 ∈ kw := ⟨kw_t 359 (by decide +kernel) (by decide +kernel), kw_l 11 (by decide +kernel) (by decide +kernel)⟩
abbrev mX5_has : kX := (yX5_has, cX5_has, 2, some .boolean, 0)
theorem fm_X5_has : kMb mX5_has 2 := ⟨kw_t 347 (by decide +kernel) (by decide +kernel), kw_t 1 (by decide +kernel) (by decide +kernel), by decide +kernel, by decide⟩
theorem fs_X5_has : Cond.static mX5_has.1 ∈ kw := kw_t 346 (by decide +kernel) (by decide +kernel)
abbrev mX5_sumOf : kX := (yX5_sumOf, cX5_sumOf, 4, some .int, 0)
theorem fm_X5_sumOf : kMb mX5_sumOf 2 := ⟨kw_t 325 (by decide +kernel) (by decide +kernel), kw_t 1 (by decide +kernel) (by decide +kernel), by decide +kernel, by decide⟩
theorem fs_X5_sumOf : Cond.static mX5_sumOf.1 ∈ kw := kw_t 324 (by decide +kernel) (by decide +kernel)
abbrev mX5_stageTakes : kX := (yX5_stageTakes, cX5_stageTakes, 3, some .int, 1)
theorem fm_X5_stageTakes : kMb mX5_stageTakes 2 := ⟨kw_t 225 (by decide +kernel) (by decide +kernel), kw_t 1 (by decide +kernel) (by decide +kernel), by decide +kernel, by decide⟩
theorem fi_X5_stageTakes : Cond.instanceMethod mX5_stageTakes.1 ∈ kw ∧ Cond.selects mX5_stageTakes.1.cls mX5_stageTakes.1 mX5_stageTakes.1 ∈ kw := ⟨kw_t 224 (by decide +kernel) (by decide +kernel), kw_l 1 (by decide +kernel) (by decide +kernel)⟩
abbrev mX5_minutesFor : kX := (yX5_minutesFor, cX5_minutesFor, 6, some .int, 0)
theorem fm_X5_minutesFor : kMb mX5_minutesFor 3 := ⟨kw_t 232 (by decide +kernel) (by decide +kernel), kw_t 1 (by decide +kernel) (by decide +kernel), by decide +kernel, by decide⟩
theorem fs_X5_minutesFor : Cond.static mX5_minutesFor.1 ∈ kw := kw_t 231 (by decide +kernel) (by decide +kernel)
abbrev mX5_minuteBuying : kX := (yX5_minuteBuying, cX5_minuteBuying, 3, some .int, 4)
theorem fm_X5_minuteBuying : kMb mX5_minuteBuying 2 := ⟨kw_t 452 (by decide +kernel) (by decide +kernel), kw_t 1 (by decide +kernel) (by decide +kernel), by decide +kernel, by decide⟩
theorem fi_X5_minuteBuying : Cond.instanceMethod mX5_minuteBuying.1 ∈ kw ∧ Cond.selects mX5_minuteBuying.1.cls mX5_minuteBuying.1 mX5_minuteBuying.1 ∈ kw := ⟨kw_t 451 (by decide +kernel) (by decide +kernel), kw_l 14 (by decide +kernel) (by decide +kernel)⟩
abbrev mX5_soonestSet : kX := (yX5_soonestSet, cX5_soonestSet, 9, some .int, 5)
theorem fm_X5_soonestSet : kMb mX5_soonestSet 1 := ⟨kw_t 448 (by decide +kernel) (by decide +kernel), kw_t 1 (by decide +kernel) (by decide +kernel), by decide +kernel, by decide⟩
theorem fi_X5_soonestSet : Cond.instanceMethod mX5_soonestSet.1 ∈ kw ∧ Cond.selects mX5_soonestSet.1.cls mX5_soonestSet.1 mX5_soonestSet.1 ∈ kw := ⟨kw_t 447 (by decide +kernel) (by decide +kernel), kw_l 13 (by decide +kernel) (by decide +kernel)⟩
abbrev mX5_fillDuel : kX := (yX5_fillDuel, cX5_fillDuel, 5, none, 4)
theorem fm_X5_fillDuel : kMb mX5_fillDuel 2 := ⟨kw_t 478 (by decide +kernel) (by decide +kernel), kw_t 1 (by decide +kernel) (by decide +kernel), by decide +kernel, by decide⟩
theorem fi_X5_fillDuel : Cond.instanceMethod mX5_fillDuel.1 ∈ kw ∧ Cond.selects mX5_fillDuel.1.cls mX5_fillDuel.1 mX5_fillDuel.1 ∈ kw := ⟨kw_t 477 (by decide +kernel) (by decide +kernel), kw_l 15 (by decide +kernel) (by decide +kernel)⟩
abbrev mX5_isRest : kX := (yX5_isRest, cX5_isRest, 5, some .boolean, 0)
theorem fm_X5_isRest : kMb mX5_isRest 2 := ⟨kw_t 482 (by decide +kernel) (by decide +kernel), kw_t 1 (by decide +kernel) (by decide +kernel), by decide +kernel, by decide⟩
theorem fi_X5_isRest : Cond.instanceMethod mX5_isRest.1 ∈ kw ∧ Cond.selects mX5_isRest.1.cls mX5_isRest.1 mX5_isRest.1 ∈ kw := ⟨kw_t 481 (by decide +kernel) (by decide +kernel), kw_l 16 (by decide +kernel) (by decide +kernel)⟩
abbrev mX5_isFirstWith : kX := (yX5_isFirstWith, cX5_isFirstWith, 3, some .boolean, 4)
theorem fm_X5_isFirstWith : kMb mX5_isFirstWith 2 := ⟨kw_t 494 (by decide +kernel) (by decide +kernel), kw_t 1 (by decide +kernel) (by decide +kernel), by decide +kernel, by decide⟩
theorem fi_X5_isFirstWith : Cond.instanceMethod mX5_isFirstWith.1 ∈ kw ∧ Cond.selects mX5_isFirstWith.1.cls mX5_isFirstWith.1 mX5_isFirstWith.1 ∈ kw := ⟨kw_t 493 (by decide +kernel) (by decide +kernel), kw_l 17 (by decide +kernel) (by decide +kernel)⟩
abbrev mX5_waysOf : kX := (yX5_waysOf, cX5_waysOf, 5, some .int, 1)
theorem fm_X5_waysOf : kMb mX5_waysOf 3 := ⟨kw_t 489 (by decide +kernel) (by decide +kernel), kw_t 1 (by decide +kernel) (by decide +kernel), by decide +kernel, by decide⟩
theorem fs_X5_waysOf : Cond.static mX5_waysOf.1 ∈ kw := kw_t 488 (by decide +kernel) (by decide +kernel)
abbrev mX5_sharedDivisor : kX := (yX5_sharedDivisor, cX5_sharedDivisor, 6, some .int, 0)
theorem fm_X5_sharedDivisor : kMb mX5_sharedDivisor 2 := ⟨kw_t 497 (by decide +kernel) (by decide +kernel), kw_t 1 (by decide +kernel) (by decide +kernel), by decide +kernel, by decide⟩
theorem fs_X5_sharedDivisor : Cond.static mX5_sharedDivisor.1 ∈ kw := kw_t 496 (by decide +kernel) (by decide +kernel)
abbrev mX5_rowFault : kX := (yX5_rowFault, cX5_rowFault, 7, some .int, 2)
theorem fm_X5_rowFault : kMb mX5_rowFault 5 := ⟨kw_t 519 (by decide +kernel) (by decide +kernel), kw_t 1 (by decide +kernel) (by decide +kernel), by decide +kernel, by decide⟩
theorem fi_X5_rowFault : Cond.instanceMethod mX5_rowFault.1 ∈ kw ∧ Cond.selects mX5_rowFault.1.cls mX5_rowFault.1 mX5_rowFault.1 ∈ kw := ⟨kw_t 518 (by decide +kernel) (by decide +kernel), kw_l 18 (by decide +kernel) (by decide +kernel)⟩
abbrev mX5_isTold : kX := (yX5_isTold, cX5_isTold, 7, some .boolean, 1)
theorem fm_X5_isTold : kMb mX5_isTold 4 := ⟨kw_t 541 (by decide +kernel) (by decide +kernel), kw_t 1 (by decide +kernel) (by decide +kernel), by decide +kernel, by decide⟩
theorem fi_X5_isTold : Cond.instanceMethod mX5_isTold.1 ∈ kw ∧ Cond.selects mX5_isTold.1.cls mX5_isTold.1 mX5_isTold.1 ∈ kw := ⟨kw_t 540 (by decide +kernel) (by decide +kernel), kw_l 19 (by decide +kernel) (by decide +kernel)⟩
abbrev mX6_in : kX := (yX6_in, cX6_in, 6, some .boolean, 0)
theorem fm_X6_in : kMb mX6_in 3 := ⟨kw_t 630 (by decide +kernel) (by decide +kernel), kw_t 7 (by decide +kernel) (by decide +kernel), by decide +kernel, by decide⟩
theorem fs_X6_in : Cond.static mX6_in.1 ∈ kw := kw_t 629 (by decide +kernel) (by decide +kernel)
abbrev mX6_has : kX := (yX6_has, cX6_has, 2, some .boolean, 0)
theorem fm_X6_has : kMb mX6_has 2 := ⟨kw_t 758 (by decide +kernel) (by decide +kernel), kw_t 7 (by decide +kernel) (by decide +kernel), by decide +kernel, by decide⟩
theorem fs_X6_has : Cond.static mX6_has.1 ∈ kw := kw_t 757 (by decide +kernel) (by decide +kernel)
abbrev mX6_ones : kX := (yX6_ones, cX6_ones, 3, some .int, 0)
theorem fm_X6_ones : kMb mX6_ones 1 := ⟨kw_t 825 (by decide +kernel) (by decide +kernel), kw_t 7 (by decide +kernel) (by decide +kernel), by decide +kernel, by decide⟩
theorem fs_X6_ones : Cond.static mX6_ones.1 ∈ kw := kw_t 824 (by decide +kernel) (by decide +kernel)
abbrev mX6_copyAll : kX := (yX6_copyAll, cX6_copyAll, 5, none, 0)
theorem fm_X6_copyAll : kMb mX6_copyAll 3 := ⟨kw_t 723 (by decide +kernel) (by decide +kernel), kw_t 7 (by decide +kernel) (by decide +kernel), by decide +kernel, by decide⟩
theorem fi_X6_copyAll : Cond.instanceMethod mX6_copyAll.1 ∈ kw ∧ Cond.selects mX6_copyAll.1.cls mX6_copyAll.1 mX6_copyAll.1 ∈ kw := ⟨kw_t 722 (by decide +kernel) (by decide +kernel), kw_l 32 (by decide +kernel) (by decide +kernel)⟩
abbrev mX6_isRider : kX := (yX6_isRider, cX6_isRider, 2, some .boolean, 1)
theorem fm_X6_isRider : kMb mX6_isRider 1 := ⟨kw_t 649 (by decide +kernel) (by decide +kernel), kw_t 7 (by decide +kernel) (by decide +kernel), by decide +kernel, by decide⟩
theorem fi_X6_isRider : Cond.instanceMethod mX6_isRider.1 ∈ kw ∧ Cond.selects mX6_isRider.1.cls mX6_isRider.1 mX6_isRider.1 ∈ kw := ⟨kw_t 648 (by decide +kernel) (by decide +kernel), kw_l 20 (by decide +kernel) (by decide +kernel)⟩
abbrev mX6_areTwo : kX := (yX6_areTwo, cX6_areTwo, 3, some .boolean, 2)
theorem fm_X6_areTwo : kMb mX6_areTwo 2 := ⟨kw_t 770 (by decide +kernel) (by decide +kernel), kw_t 7 (by decide +kernel) (by decide +kernel), by decide +kernel, by decide⟩
theorem fi_X6_areTwo : Cond.instanceMethod mX6_areTwo.1 ∈ kw ∧ Cond.selects mX6_areTwo.1.cls mX6_areTwo.1 mX6_areTwo.1 ∈ kw := ⟨kw_t 769 (by decide +kernel) (by decide +kernel), kw_l 39 (by decide +kernel) (by decide +kernel)⟩
abbrev mX6_stage : kX := (yX6_stage, cX6_stage, 5, some .int, 1)
theorem fm_X6_stage : kMb mX6_stage 3 := ⟨kw_t 626 (by decide +kernel) (by decide +kernel), kw_t 7 (by decide +kernel) (by decide +kernel), by decide +kernel, by decide⟩
theorem fi_X6_stage : Cond.instanceMethod mX6_stage.1 ∈ kw ∧ Cond.selects mX6_stage.1.cls mX6_stage.1 mX6_stage.1 ∈ kw := ⟨kw_t 624 (by decide +kernel) (by decide +kernel), kw_t 625 (by decide +kernel) (by decide +kernel)⟩
abbrev mX6_rider : kX := (yX6_rider, cX6_rider, 5, some .int, 1)
theorem fm_X6_rider : kMb mX6_rider 3 := ⟨kw_t 635 (by decide +kernel) (by decide +kernel), kw_t 7 (by decide +kernel) (by decide +kernel), by decide +kernel, by decide⟩
theorem fi_X6_rider : Cond.instanceMethod mX6_rider.1 ∈ kw ∧ Cond.selects mX6_rider.1.cls mX6_rider.1 mX6_rider.1 ∈ kw := ⟨kw_t 633 (by decide +kernel) (by decide +kernel), kw_t 634 (by decide +kernel) (by decide +kernel)⟩
abbrev mX6_of : kX := (yX6_of, cX6_of, 3, some .int, 1)
theorem fm_X6_of : kMb mX6_of 2 := ⟨kw_t 641 (by decide +kernel) (by decide +kernel), kw_t 7 (by decide +kernel) (by decide +kernel), by decide +kernel, by decide⟩
theorem fi_X6_of : Cond.instanceMethod mX6_of.1 ∈ kw ∧ Cond.selects mX6_of.1.cls mX6_of.1 mX6_of.1 ∈ kw := ⟨kw_t 639 (by decide +kernel) (by decide +kernel), kw_t 640 (by decide +kernel) (by decide +kernel)⟩
abbrev mX6_takes : kX := (yX6_takes, cX6_takes, 4, some .int, 0)
theorem fm_X6_takes : kMb mX6_takes 3 := ⟨kw_t 660 (by decide +kernel) (by decide +kernel), kw_t 7 (by decide +kernel) (by decide +kernel), by decide +kernel, by decide⟩
theorem fs_X6_takes : Cond.static mX6_takes.1 ∈ kw := kw_t 659 (by decide +kernel) (by decide +kernel)
abbrev mX6_isThere : kX := (yX6_isThere, cX6_isThere, 3, some .boolean, 0)
theorem fm_X6_isThere : kMb mX6_isThere 2 := ⟨kw_t 657 (by decide +kernel) (by decide +kernel), kw_t 7 (by decide +kernel) (by decide +kernel), by decide +kernel, by decide⟩
theorem fi_X6_isThere : Cond.instanceMethod mX6_isThere.1 ∈ kw ∧ Cond.selects mX6_isThere.1.cls mX6_isThere.1 mX6_isThere.1 ∈ kw := ⟨kw_t 656 (by decide +kernel) (by decide +kernel), kw_l 22 (by decide +kernel) (by decide +kernel)⟩
abbrev mX6_takesNow : kX := (yX6_takesNow, cX6_takesNow, 3, some .int, 1)
theorem fm_X6_takesNow : kMb mX6_takesNow 2 := ⟨kw_t 653 (by decide +kernel) (by decide +kernel), kw_t 7 (by decide +kernel) (by decide +kernel), by decide +kernel, by decide⟩
theorem fi_X6_takesNow : Cond.instanceMethod mX6_takesNow.1 ∈ kw ∧ Cond.selects mX6_takesNow.1.cls mX6_takesNow.1 mX6_takesNow.1 ∈ kw := ⟨kw_t 652 (by decide +kernel) (by decide +kernel), kw_l 21 (by decide +kernel) (by decide +kernel)⟩
abbrev mX6_at : kX := (yX6_at, cX6_at, 3, some .int, 2)
theorem fm_X6_at : kMb mX6_at 2 := ⟨kw_t 645 (by decide +kernel) (by decide +kernel), kw_t 7 (by decide +kernel) (by decide +kernel), by decide +kernel, by decide⟩
theorem fi_X6_at : Cond.instanceMethod mX6_at.1 ∈ kw ∧ Cond.selects mX6_at.1.cls mX6_at.1 mX6_at.1 ∈ kw := ⟨kw_t 643 (by decide +kernel) (by decide +kernel), kw_t 644 (by decide +kernel) (by decide +kernel)⟩
abbrev mX6_buys : kX := (yX6_buys, cX6_buys, 4, some .int, 2)
theorem fm_X6_buys : kMb mX6_buys 2 := ⟨kw_t 664 (by decide +kernel) (by decide +kernel), kw_t 7 (by decide +kernel) (by decide +kernel), by decide +kernel, by decide⟩
theorem fi_X6_buys : Cond.instanceMethod mX6_buys.1 ∈ kw ∧ Cond.selects mX6_buys.1.cls mX6_buys.1 mX6_buys.1 ∈ kw := ⟨kw_t 662 (by decide +kernel) (by decide +kernel), kw_t 663 (by decide +kernel) (by decide +kernel)⟩
abbrev mX6_price : kX := (yX6_price, cX6_price, 3, some .int, 1)
theorem fm_X6_price : kMb mX6_price 1 := ⟨kw_t 668 (by decide +kernel) (by decide +kernel), kw_t 7 (by decide +kernel) (by decide +kernel), by decide +kernel, by decide⟩
theorem fi_X6_price : Cond.instanceMethod mX6_price.1 ∈ kw ∧ Cond.selects mX6_price.1.cls mX6_price.1 mX6_price.1 ∈ kw := ⟨kw_t 666 (by decide +kernel) (by decide +kernel), kw_t 667 (by decide +kernel) (by decide +kernel)⟩
abbrev mX6_type : kX := (yX6_type, cX6_type, 2, some .int, 1)
theorem fm_X6_type : kMb mX6_type 1 := ⟨kw_t 672 (by decide +kernel) (by decide +kernel), kw_t 7 (by decide +kernel) (by decide +kernel), by decide +kernel, by decide⟩
theorem fi_X6_type : Cond.instanceMethod mX6_type.1 ∈ kw ∧ Cond.selects mX6_type.1.cls mX6_type.1 mX6_type.1 ∈ kw := ⟨kw_t 670 (by decide +kernel) (by decide +kernel), kw_t 671 (by decide +kernel) (by decide +kernel)⟩
abbrev mX6_letterAt : kX := (yX6_letterAt, cX6_letterAt, 2, some .int, 0)
theorem fm_X6_letterAt : kMb mX6_letterAt 1 := ⟨kw_t 698 (by decide +kernel) (by decide +kernel), kw_t 7 (by decide +kernel) (by decide +kernel), by decide +kernel, by decide⟩
theorem fi_X6_letterAt : Cond.instanceMethod mX6_letterAt.1 ∈ kw ∧ Cond.selects mX6_letterAt.1.cls mX6_letterAt.1 mX6_letterAt.1 ∈ kw := ⟨kw_t 697 (by decide +kernel) (by decide +kernel), kw_l 27 (by decide +kernel) (by decide +kernel)⟩
abbrev mX6_here : kX := (yX6_here, cX6_here, 1, some .int, 1)
theorem fm_X6_here : kMb mX6_here 0 := ⟨kw_t 694 (by decide +kernel) (by decide +kernel), kw_t 7 (by decide +kernel) (by decide +kernel), by decide +kernel, by decide⟩
theorem fi_X6_here : Cond.instanceMethod mX6_here.1 ∈ kw ∧ Cond.selects mX6_here.1.cls mX6_here.1 mX6_here.1 ∈ kw := ⟨kw_t 693 (by decide +kernel) (by decide +kernel), kw_l 26 (by decide +kernel) (by decide +kernel)⟩
abbrev mX6_fails : kX := (yX6_fails, cX6_fails, 2, some .boolean, 0)
theorem fm_X6_fails : kMb mX6_fails 1 := ⟨kw_t 702 (by decide +kernel) (by decide +kernel), kw_t 7 (by decide +kernel) (by decide +kernel), by decide +kernel, by decide⟩
theorem fi_X6_fails : Cond.instanceMethod mX6_fails.1 ∈ kw ∧ Cond.selects mX6_fails.1.cls mX6_fails.1 mX6_fails.1 ∈ kw := ⟨kw_t 701 (by decide +kernel) (by decide +kernel), kw_l 28 (by decide +kernel) (by decide +kernel)⟩
abbrev mX6_digit : kX := (yX6_digit, cX6_digit, 4, some .int, 2)
theorem fm_X6_digit : kMb mX6_digit 2 := ⟨kw_t 690 (by decide +kernel) (by decide +kernel), kw_t 7 (by decide +kernel) (by decide +kernel), by decide +kernel, by decide⟩
theorem fi_X6_digit : Cond.instanceMethod mX6_digit.1 ∈ kw ∧ Cond.selects mX6_digit.1.cls mX6_digit.1 mX6_digit.1 ∈ kw := ⟨kw_t 689 (by decide +kernel) (by decide +kernel), kw_l 25 (by decide +kernel) (by decide +kernel)⟩
abbrev mX6_number : kX := (yX6_number, cX6_number, 4, some .int, 2)
theorem fm_X6_number : kMb mX6_number 1 := ⟨kw_t 713 (by decide +kernel) (by decide +kernel), kw_t 7 (by decide +kernel) (by decide +kernel), by decide +kernel, by decide⟩
theorem fi_X6_number : Cond.instanceMethod mX6_number.1 ∈ kw ∧ Cond.selects mX6_number.1.cls mX6_number.1 mX6_number.1 ∈ kw := ⟨kw_t 712 (by decide +kernel) (by decide +kernel), kw_l 30 (by decide +kernel) (by decide +kernel)⟩
abbrev mX6_takesStage : kX := (yX6_takesStage, cX6_takesStage, 5, some .boolean, 3)
theorem fm_X6_takesStage : kMb mX6_takesStage 0 := ⟨kw_t 686 (by decide +kernel) (by decide +kernel), kw_t 7 (by decide +kernel) (by decide +kernel), by decide +kernel, by decide⟩
theorem fi_X6_takesStage : Cond.instanceMethod mX6_takesStage.1 ∈ kw ∧ Cond.selects mX6_takesStage.1.cls mX6_takesStage.1 mX6_takesStage.1 ∈ kw := ⟨kw_t 685 (by decide +kernel) (by decide +kernel), kw_l 24 (by decide +kernel) (by decide +kernel)⟩
abbrev mX6_kindBy : kX := (yX6_kindBy, cX6_kindBy, 1, some .int, 0)
theorem fm_X6_kindBy : kMb mX6_kindBy 1 := ⟨kw_t 709 (by decide +kernel) (by decide +kernel), kw_t 7 (by decide +kernel) (by decide +kernel), by decide +kernel, by decide⟩
theorem fs_X6_kindBy : Cond.static mX6_kindBy.1 ∈ kw := kw_t 708 (by decide +kernel) (by decide +kernel)
abbrev mX6_takesBuys : kX := (yX6_takesBuys, cX6_takesBuys, 4, some .boolean, 3)
theorem fm_X6_takesBuys : kMb mX6_takesBuys 1 := ⟨kw_t 719 (by decide +kernel) (by decide +kernel), kw_t 7 (by decide +kernel) (by decide +kernel), by decide +kernel, by decide⟩
theorem fi_X6_takesBuys : Cond.instanceMethod mX6_takesBuys.1 ∈ kw ∧ Cond.selects mX6_takesBuys.1.cls mX6_takesBuys.1 mX6_takesBuys.1 ∈ kw := ⟨kw_t 718 (by decide +kernel) (by decide +kernel), kw_l 31 (by decide +kernel) (by decide +kernel)⟩
abbrev mX6_takesRider : kX := (yX6_takesRider, cX6_takesRider, 5, some .boolean, 4)
theorem fm_X6_takesRider : kMb mX6_takesRider 0 := ⟨kw_t 706 (by decide +kernel) (by decide +kernel), kw_t 7 (by decide +kernel) (by decide +kernel), by decide +kernel, by decide⟩
theorem fi_X6_takesRider : Cond.instanceMethod mX6_takesRider.1 ∈ kw ∧ Cond.selects mX6_takesRider.1.cls mX6_takesRider.1 mX6_takesRider.1 ∈ kw := ⟨kw_t 705 (by decide +kernel) (by decide +kernel), kw_l 29 (by decide +kernel) (by decide +kernel)⟩
abbrev mX6_takesRoad : kX := (yX6_takesRoad, cX6_takesRoad, 1, some .boolean, 5)
theorem fm_X6_takesRoad : kMb mX6_takesRoad 0 := ⟨kw_t 682 (by decide +kernel) (by decide +kernel), kw_t 7 (by decide +kernel) (by decide +kernel), by decide +kernel, by decide⟩
theorem fi_X6_takesRoad : Cond.instanceMethod mX6_takesRoad.1 ∈ kw ∧ Cond.selects mX6_takesRoad.1.cls mX6_takesRoad.1 mX6_takesRoad.1 ∈ kw := ⟨kw_t 681 (by decide +kernel) (by decide +kernel), kw_l 23 (by decide +kernel) (by decide +kernel)⟩
abbrev mX6_road : kX := (yX6_road, cX6_road, 2, some .int, 6)
theorem fm_X6_road : kMb mX6_road 0 := ⟨kw_t 678 (by decide +kernel) (by decide +kernel), kw_t 7 (by decide +kernel) (by decide +kernel), by decide +kernel, by decide⟩
theorem fi_X6_road : Cond.instanceMethod mX6_road.1 ∈ kw ∧ Cond.selects mX6_road.1.cls mX6_road.1 mX6_road.1 ∈ kw := ⟨kw_t 676 (by decide +kernel) (by decide +kernel), kw_t 677 (by decide +kernel) (by decide +kernel)⟩
abbrev mX6_nextIn : kX := (yX6_nextIn, cX6_nextIn, 5, some .int, 1)
theorem fm_X6_nextIn : kMb mX6_nextIn 1 := ⟨kw_t 735 (by decide +kernel) (by decide +kernel), kw_t 7 (by decide +kernel) (by decide +kernel), by decide +kernel, by decide⟩
theorem fi_X6_nextIn : Cond.instanceMethod mX6_nextIn.1 ∈ kw ∧ Cond.selects mX6_nextIn.1.cls mX6_nextIn.1 mX6_nextIn.1 ∈ kw := ⟨kw_t 734 (by decide +kernel) (by decide +kernel), kw_l 34 (by decide +kernel) (by decide +kernel)⟩
abbrev mX6_rides : kX := (yX6_rides, cX6_rides, 6, none, 1)
theorem fm_X6_rides : kMb mX6_rides 2 := ⟨kw_t 755 (by decide +kernel) (by decide +kernel), kw_t 7 (by decide +kernel) (by decide +kernel), by decide +kernel, by decide⟩
theorem fi_X6_rides : Cond.instanceMethod mX6_rides.1 ∈ kw ∧ Cond.selects mX6_rides.1.cls mX6_rides.1 mX6_rides.1 ∈ kw := ⟨kw_t 754 (by decide +kernel) (by decide +kernel), kw_l 38 (by decide +kernel) (by decide +kernel)⟩
abbrev mX6_thereIn : kX := (yX6_thereIn, cX6_thereIn, 4, some .int, 1)
theorem fm_X6_thereIn : kMb mX6_thereIn 1 := ⟨kw_t 731 (by decide +kernel) (by decide +kernel), kw_t 7 (by decide +kernel) (by decide +kernel), by decide +kernel, by decide⟩
theorem fi_X6_thereIn : Cond.instanceMethod mX6_thereIn.1 ∈ kw ∧ Cond.selects mX6_thereIn.1.cls mX6_thereIn.1 mX6_thereIn.1 ∈ kw := ⟨kw_t 730 (by decide +kernel) (by decide +kernel), kw_l 33 (by decide +kernel) (by decide +kernel)⟩
abbrev mX6_coinsOfAll : kX := (yX6_coinsOfAll, cX6_coinsOfAll, 3, some .int, 0)
theorem fm_X6_coinsOfAll : kMb mX6_coinsOfAll 0 := ⟨kw_t 739 (by decide +kernel) (by decide +kernel), kw_t 7 (by decide +kernel) (by decide +kernel), by decide +kernel, by decide⟩
theorem fi_X6_coinsOfAll : Cond.instanceMethod mX6_coinsOfAll.1 ∈ kw ∧ Cond.selects mX6_coinsOfAll.1.cls mX6_coinsOfAll.1 mX6_coinsOfAll.1 ∈ kw := ⟨kw_t 738 (by decide +kernel) (by decide +kernel), kw_l 35 (by decide +kernel) (by decide +kernel)⟩
abbrev mX6_horsesOfAll : kX := (yX6_horsesOfAll, cX6_horsesOfAll, 3, some .int, 0)
theorem fm_X6_horsesOfAll : kMb mX6_horsesOfAll 0 := ⟨kw_t 743 (by decide +kernel) (by decide +kernel), kw_t 7 (by decide +kernel) (by decide +kernel), by decide +kernel, by decide⟩
theorem fi_X6_horsesOfAll : Cond.instanceMethod mX6_horsesOfAll.1 ∈ kw ∧ Cond.selects mX6_horsesOfAll.1.cls mX6_horsesOfAll.1 mX6_horsesOfAll.1 ∈ kw := ⟨kw_t 742 (by decide +kernel) (by decide +kernel), kw_l 36 (by decide +kernel) (by decide +kernel)⟩
abbrev mX6_count : kX := (yX6_count, cX6_count, 2, some .int, 2)
theorem fm_X6_count : kMb mX6_count 1 := ⟨kw_t 727 (by decide +kernel) (by decide +kernel), kw_t 7 (by decide +kernel) (by decide +kernel), by decide +kernel, by decide⟩
theorem fi_X6_count : Cond.instanceMethod mX6_count.1 ∈ kw ∧ Cond.selects mX6_count.1.cls mX6_count.1 mX6_count.1 ∈ kw := ⟨kw_t 725 (by decide +kernel) (by decide +kernel), kw_t 726 (by decide +kernel) (by decide +kernel)⟩
abbrev mX6_minds : kX := (yX6_minds, cX6_minds, 1, none, 1)
theorem fm_X6_minds : kMb mX6_minds 0 := ⟨kw_t 751 (by decide +kernel) (by decide +kernel), kw_t 7 (by decide +kernel) (by decide +kernel), by decide +kernel, by decide⟩
theorem fi_X6_minds : Cond.instanceMethod mX6_minds.1 ∈ kw ∧ Cond.selects mX6_minds.1.cls mX6_minds.1 mX6_minds.1 ∈ kw := ⟨kw_t 750 (by decide +kernel) (by decide +kernel), kw_l 37 (by decide +kernel) (by decide +kernel)⟩
abbrev mX6_ride : kX := (yX6_ride, cX6_ride, 3, some .int, 2)
theorem fm_X6_ride : kMb mX6_ride 1 := ⟨kw_t 747 (by decide +kernel) (by decide +kernel), kw_t 7 (by decide +kernel) (by decide +kernel), by decide +kernel, by decide⟩
theorem fi_X6_ride : Cond.instanceMethod mX6_ride.1 ∈ kw ∧ Cond.selects mX6_ride.1.cls mX6_ride.1 mX6_ride.1 ∈ kw := ⟨kw_t 745 (by decide +kernel) (by decide +kernel), kw_t 746 (by decide +kernel) (by decide +kernel)⟩
abbrev mX6_wheel : kX := (yX6_wheel, cX6_wheel, 2, some .int, 2)
theorem fm_X6_wheel : kMb mX6_wheel 1 := ⟨kw_t 762 (by decide +kernel) (by decide +kernel), kw_t 7 (by decide +kernel) (by decide +kernel), by decide +kernel, by decide⟩
theorem fi_X6_wheel : Cond.instanceMethod mX6_wheel.1 ∈ kw ∧ Cond.selects mX6_wheel.1.cls mX6_wheel.1 mX6_wheel.1 ∈ kw := ⟨kw_t 760 (by decide +kernel) (by decide +kernel), kw_t 761 (by decide +kernel) (by decide +kernel)⟩
abbrev mX6_give : kX := (yX6_give, cX6_give, 4, some .int, 3)
theorem fm_X6_give : kMb mX6_give 3 := ⟨kw_t 766 (by decide +kernel) (by decide +kernel), kw_t 7 (by decide +kernel) (by decide +kernel), by decide +kernel, by decide⟩
theorem fi_X6_give : Cond.instanceMethod mX6_give.1 ∈ kw ∧ Cond.selects mX6_give.1.cls mX6_give.1 mX6_give.1 ∈ kw := ⟨kw_t 764 (by decide +kernel) (by decide +kernel), kw_t 765 (by decide +kernel) (by decide +kernel)⟩
abbrev mX6_drift : kX := (yX6_drift, cX6_drift, 6, some .int, 2)
theorem fm_X6_drift : kMb mX6_drift 1 := ⟨kw_t 774 (by decide +kernel) (by decide +kernel), kw_t 7 (by decide +kernel) (by decide +kernel), by decide +kernel, by decide⟩
theorem fi_X6_drift : Cond.instanceMethod mX6_drift.1 ∈ kw ∧ Cond.selects mX6_drift.1.cls mX6_drift.1 mX6_drift.1 ∈ kw := ⟨kw_t 772 (by decide +kernel) (by decide +kernel), kw_t 773 (by decide +kernel) (by decide +kernel)⟩
abbrev mX6_undo : kX := (yX6_undo, cX6_undo, 1, some .int, 1)
theorem fm_X6_undo : kMb mX6_undo 0 := ⟨kw_t 781 (by decide +kernel) (by decide +kernel), kw_t 7 (by decide +kernel) (by decide +kernel), by decide +kernel, by decide⟩
theorem fi_X6_undo : Cond.instanceMethod mX6_undo.1 ∈ kw ∧ Cond.selects mX6_undo.1.cls mX6_undo.1 mX6_undo.1 ∈ kw := ⟨kw_t 779 (by decide +kernel) (by decide +kernel), kw_t 780 (by decide +kernel) (by decide +kernel)⟩
abbrev mX6_seed : kX := (yX6_seed, cX6_seed, 3, some .int, 0)
theorem fm_X6_seed : kMb mX6_seed 1 := ⟨kw_t 785 (by decide +kernel) (by decide +kernel), kw_t 7 (by decide +kernel) (by decide +kernel), by decide +kernel, by decide⟩
theorem fi_X6_seed : Cond.instanceMethod mX6_seed.1 ∈ kw ∧ Cond.selects mX6_seed.1.cls mX6_seed.1 mX6_seed.1 ∈ kw := ⟨kw_t 783 (by decide +kernel) (by decide +kernel), kw_t 784 (by decide +kernel) (by decide +kernel)⟩
abbrev mX6_tries : kX := (yX6_tries, cX6_tries, 1, none, 1)
theorem fm_X6_tries : kMb mX6_tries 0 := ⟨kw_t 797 (by decide +kernel) (by decide +kernel), kw_t 7 (by decide +kernel) (by decide +kernel), by decide +kernel, by decide⟩
theorem fi_X6_tries : Cond.instanceMethod mX6_tries.1 ∈ kw ∧ Cond.selects mX6_tries.1.cls mX6_tries.1 mX6_tries.1 ∈ kw := ⟨kw_t 796 (by decide +kernel) (by decide +kernel), kw_l 41 (by decide +kernel) (by decide +kernel)⟩
abbrev mX6_ridesOn : kX := (yX6_ridesOn, cX6_ridesOn, 5, none, 2)
theorem fm_X6_ridesOn : kMb mX6_ridesOn 2 := ⟨kw_t 801 (by decide +kernel) (by decide +kernel), kw_t 7 (by decide +kernel) (by decide +kernel), by decide +kernel, by decide⟩
theorem fi_X6_ridesOn : Cond.instanceMethod mX6_ridesOn.1 ∈ kw ∧ Cond.selects mX6_ridesOn.1.cls mX6_ridesOn.1 mX6_ridesOn.1 ∈ kw := ⟨kw_t 800 (by decide +kernel) (by decide +kernel), kw_l 42 (by decide +kernel) (by decide +kernel)⟩
abbrev mX6_foretells : kX := (yX6_foretells, cX6_foretells, 1, none, 3)
theorem fm_X6_foretells : kMb mX6_foretells 0 := ⟨kw_t 793 (by decide +kernel) (by decide +kernel), kw_t 7 (by decide +kernel) (by decide +kernel), by decide +kernel, by decide⟩
theorem fi_X6_foretells : Cond.instanceMethod mX6_foretells.1 ∈ kw ∧ Cond.selects mX6_foretells.1.cls mX6_foretells.1 mX6_foretells.1 ∈ kw := ⟨kw_t 792 (by decide +kernel) (by decide +kernel), kw_l 40 (by decide +kernel) (by decide +kernel)⟩
abbrev mX6_ahead : kX := (yX6_ahead, cX6_ahead, 3, some .int, 4)
theorem fm_X6_ahead : kMb mX6_ahead 2 := ⟨kw_t 789 (by decide +kernel) (by decide +kernel), kw_t 7 (by decide +kernel) (by decide +kernel), by decide +kernel, by decide⟩
theorem fi_X6_ahead : Cond.instanceMethod mX6_ahead.1 ∈ kw ∧ Cond.selects mX6_ahead.1.cls mX6_ahead.1 mX6_ahead.1 ∈ kw := ⟨kw_t 787 (by decide +kernel) (by decide +kernel), kw_t 788 (by decide +kernel) (by decide +kernel)⟩
abbrev mX6_comes : kX := (yX6_comes, cX6_comes, 3, some .int, 4)
theorem fm_X6_comes : kMb mX6_comes 2 := ⟨kw_t 805 (by decide +kernel) (by decide +kernel), kw_t 7 (by decide +kernel) (by decide +kernel), by decide +kernel, by decide⟩
theorem fi_X6_comes : Cond.instanceMethod mX6_comes.1 ∈ kw ∧ Cond.selects mX6_comes.1.cls mX6_comes.1 mX6_comes.1 ∈ kw := ⟨kw_t 803 (by decide +kernel) (by decide +kernel), kw_t 804 (by decide +kernel) (by decide +kernel)⟩
abbrev mX6_firstTried : kX := (yX6_firstTried, cX6_firstTried, 3, some .int, 0)
theorem fm_X6_firstTried : kMb mX6_firstTried 0 := ⟨kw_t 813 (by decide +kernel) (by decide +kernel), kw_t 7 (by decide +kernel) (by decide +kernel), by decide +kernel, by decide⟩
theorem fi_X6_firstTried : Cond.instanceMethod mX6_firstTried.1 ∈ kw ∧ Cond.selects mX6_firstTried.1.cls mX6_firstTried.1 mX6_firstTried.1 ∈ kw := ⟨kw_t 812 (by decide +kernel) (by decide +kernel), kw_l 43 (by decide +kernel) (by decide +kernel)⟩
abbrev mX6_first : kX := (yX6_first, cX6_first, 1, some .int, 4)
theorem fm_X6_first : kMb mX6_first 0 := ⟨kw_t 809 (by decide +kernel) (by decide +kernel), kw_t 7 (by decide +kernel) (by decide +kernel), by decide +kernel, by decide⟩
theorem fi_X6_first : Cond.instanceMethod mX6_first.1 ∈ kw ∧ Cond.selects mX6_first.1.cls mX6_first.1 mX6_first.1 ∈ kw := ⟨kw_t 807 (by decide +kernel) (by decide +kernel), kw_t 808 (by decide +kernel) (by decide +kernel)⟩
abbrev mX6_caught : kX := (yX6_caught, cX6_caught, 5, some .int, 4)
theorem fm_X6_caught : kMb mX6_caught 2 := ⟨kw_t 817 (by decide +kernel) (by decide +kernel), kw_t 7 (by decide +kernel) (by decide +kernel), by decide +kernel, by decide⟩
theorem fi_X6_caught : Cond.instanceMethod mX6_caught.1 ∈ kw ∧ Cond.selects mX6_caught.1.cls mX6_caught.1 mX6_caught.1 ∈ kw := ⟨kw_t 815 (by decide +kernel) (by decide +kernel), kw_t 816 (by decide +kernel) (by decide +kernel)⟩
abbrev mX6_best : kX := (yX6_best, cX6_best, 8, some .int, 3)
theorem fm_X6_best : kMb mX6_best 2 := ⟨kw_t 821 (by decide +kernel) (by decide +kernel), kw_t 7 (by decide +kernel) (by decide +kernel), by decide +kernel, by decide⟩
theorem fi_X6_best : Cond.instanceMethod mX6_best.1 ∈ kw ∧ Cond.selects mX6_best.1.cls mX6_best.1 mX6_best.1 ∈ kw := ⟨kw_t 819 (by decide +kernel) (by decide +kernel), kw_t 820 (by decide +kernel) (by decide +kernel)⟩
abbrev mX6_earlier : kX := (yX6_earlier, cX6_earlier, 4, some .int, 3)
theorem fm_X6_earlier : kMb mX6_earlier 2 := ⟨kw_t 829 (by decide +kernel) (by decide +kernel), kw_t 7 (by decide +kernel) (by decide +kernel), by decide +kernel, by decide⟩
theorem fi_X6_earlier : Cond.instanceMethod mX6_earlier.1 ∈ kw ∧ Cond.selects mX6_earlier.1.cls mX6_earlier.1 mX6_earlier.1 ∈ kw := ⟨kw_t 827 (by decide +kernel) (by decide +kernel), kw_t 828 (by decide +kernel) (by decide +kernel)⟩
abbrev mX6_purse : kX := (yX6_purse, cX6_purse, 4, some .int, 3)
theorem fm_X6_purse : kMb mX6_purse 2 := ⟨kw_t 833 (by decide +kernel) (by decide +kernel), kw_t 7 (by decide +kernel) (by decide +kernel), by decide +kernel, by decide⟩
theorem fi_X6_purse : Cond.instanceMethod mX6_purse.1 ∈ kw ∧ Cond.selects mX6_purse.1.cls mX6_purse.1 mX6_purse.1 ∈ kw := ⟨kw_t 831 (by decide +kernel) (by decide +kernel), kw_t 832 (by decide +kernel) (by decide +kernel)⟩
abbrev mX6_loosened : kX := (yX6_loosened, cX6_loosened, 7, some .int, 3)
theorem fm_X6_loosened : kMb mX6_loosened 2 := ⟨kw_t 838 (by decide +kernel) (by decide +kernel), kw_t 7 (by decide +kernel) (by decide +kernel), by decide +kernel, by decide⟩
theorem fi_X6_loosened : Cond.instanceMethod mX6_loosened.1 ∈ kw ∧ Cond.selects mX6_loosened.1.cls mX6_loosened.1 mX6_loosened.1 ∈ kw := ⟨kw_t 836 (by decide +kernel) (by decide +kernel), kw_t 837 (by decide +kernel) (by decide +kernel)⟩
abbrev mX6_layDuel : kX := (yX6_layDuel, cX6_layDuel, 5, none, 3)
theorem fm_X6_layDuel : kMb mX6_layDuel 2 := ⟨kw_t 846 (by decide +kernel) (by decide +kernel), kw_t 7 (by decide +kernel) (by decide +kernel), by decide +kernel, by decide⟩
theorem fi_X6_layDuel : Cond.instanceMethod mX6_layDuel.1 ∈ kw ∧ Cond.selects mX6_layDuel.1.cls mX6_layDuel.1 mX6_layDuel.1 ∈ kw := ⟨kw_t 845 (by decide +kernel) (by decide +kernel), kw_l 44 (by decide +kernel) (by decide +kernel)⟩
abbrev mX6_rests : kX := (yX6_rests, cX6_rests, 5, some .boolean, 0)
theorem fm_X6_rests : kMb mX6_rests 2 := ⟨kw_t 850 (by decide +kernel) (by decide +kernel), kw_t 7 (by decide +kernel) (by decide +kernel), by decide +kernel, by decide⟩
theorem fi_X6_rests : Cond.instanceMethod mX6_rests.1 ∈ kw ∧ Cond.selects mX6_rests.1.cls mX6_rests.1 mX6_rests.1 ∈ kw := ⟨kw_t 849 (by decide +kernel) (by decide +kernel), kw_l 45 (by decide +kernel) (by decide +kernel)⟩
abbrev mX6_duel : kX := (yX6_duel, cX6_duel, 9, some .int, 4)
theorem fm_X6_duel : kMb mX6_duel 3 := ⟨kw_t 842 (by decide +kernel) (by decide +kernel), kw_t 7 (by decide +kernel) (by decide +kernel), by decide +kernel, by decide⟩
theorem fi_X6_duel : Cond.instanceMethod mX6_duel.1 ∈ kw ∧ Cond.selects mX6_duel.1.cls mX6_duel.1 mX6_duel.1 ∈ kw := ⟨kw_t 840 (by decide +kernel) (by decide +kernel), kw_t 841 (by decide +kernel) (by decide +kernel)⟩
abbrev mX6_luck : kX := (yX6_luck, cX6_luck, 11, some .int, 3)
theorem fm_X6_luck : kMb mX6_luck 3 := ⟨kw_t 854 (by decide +kernel) (by decide +kernel), kw_t 7 (by decide +kernel) (by decide +kernel), by decide +kernel, by decide⟩
theorem fi_X6_luck : Cond.instanceMethod mX6_luck.1 ∈ kw ∧ Cond.selects mX6_luck.1.cls mX6_luck.1 mX6_luck.1 ∈ kw := ⟨kw_t 852 (by decide +kernel) (by decide +kernel), kw_t 853 (by decide +kernel) (by decide +kernel)⟩
abbrev mX6_image : kX := (yX6_image, cX6_image, 1, some .int, 1)
theorem fm_X6_image : kMb mX6_image 0 := ⟨kw_t 859 (by decide +kernel) (by decide +kernel), kw_t 7 (by decide +kernel) (by decide +kernel), by decide +kernel, by decide⟩
theorem fi_X6_image : Cond.instanceMethod mX6_image.1 ∈ kw ∧ Cond.selects mX6_image.1.cls mX6_image.1 mX6_image.1 ∈ kw := ⟨kw_t 857 (by decide +kernel) (by decide +kernel), kw_t 858 (by decide +kernel) (by decide +kernel)⟩
abbrev mX6_restore : kX := (yX6_restore, cX6_restore, 1, some .int, 1)
theorem fm_X6_restore : kMb mX6_restore 0 := ⟨kw_t 863 (by decide +kernel) (by decide +kernel), kw_t 7 (by decide +kernel) (by decide +kernel), by decide +kernel, by decide⟩
theorem fi_X6_restore : Cond.instanceMethod mX6_restore.1 ∈ kw ∧ Cond.selects mX6_restore.1.cls mX6_restore.1 mX6_restore.1 ∈ kw := ⟨kw_t 861 (by decide +kernel) (by decide +kernel), kw_t 862 (by decide +kernel) (by decide +kernel)⟩
abbrev mX6_isSheet : kX := (yX6_isSheet, cX6_isSheet, 1, some .boolean, 1)
theorem fm_X6_isSheet : kMb mX6_isSheet 1 := ⟨kw_t 873 (by decide +kernel) (by decide +kernel), kw_t 7 (by decide +kernel) (by decide +kernel), by decide +kernel, by decide⟩
theorem fs_X6_isSheet : Cond.static mX6_isSheet.1 ∈ kw := kw_t 872 (by decide +kernel) (by decide +kernel)
abbrev mX6_isLane : kX := (yX6_isLane, cX6_isLane, 2, some .boolean, 2)
theorem fm_X6_isLane : kMb mX6_isLane 2 := ⟨kw_t 870 (by decide +kernel) (by decide +kernel), kw_t 7 (by decide +kernel) (by decide +kernel), by decide +kernel, by decide⟩
theorem fs_X6_isLane : Cond.static mX6_isLane.1 ∈ kw := kw_t 869 (by decide +kernel) (by decide +kernel)
abbrev mX6_against : kX := (yX6_against, cX6_against, 5, some .int, 0)
theorem fm_X6_against : kMb mX6_against 4 := ⟨kw_t 879 (by decide +kernel) (by decide +kernel), kw_t 7 (by decide +kernel) (by decide +kernel), by decide +kernel, by decide⟩
theorem fi_X6_against : Cond.instanceMethod mX6_against.1 ∈ kw ∧ Cond.selects mX6_against.1.cls mX6_against.1 mX6_against.1 ∈ kw := ⟨kw_t 878 (by decide +kernel) (by decide +kernel), kw_l 46 (by decide +kernel) (by decide +kernel)⟩
abbrev mX6_cut : kX := (yX6_cut, cX6_cut, 3, some .long, 0)
theorem fm_X6_cut : kMb mX6_cut 2 := ⟨kw_t 886 (by decide +kernel) (by decide +kernel), kw_t 7 (by decide +kernel) (by decide +kernel), by decide +kernel, by decide⟩
theorem fs_X6_cut : Cond.static mX6_cut.1 ∈ kw := kw_t 885 (by decide +kernel) (by decide +kernel)
abbrev mX6_passed : kX := (yX6_passed, cX6_passed, 12, some .int, 3)
theorem fm_X6_passed : kMb mX6_passed 5 := ⟨kw_t 867 (by decide +kernel) (by decide +kernel), kw_t 7 (by decide +kernel) (by decide +kernel), by decide +kernel, by decide⟩
theorem fi_X6_passed : Cond.instanceMethod mX6_passed.1 ∈ kw ∧ Cond.selects mX6_passed.1.cls mX6_passed.1 mX6_passed.1 ∈ kw := ⟨kw_t 865 (by decide +kernel) (by decide +kernel), kw_t 866 (by decide +kernel) (by decide +kernel)⟩
abbrev mX6_film : kX := (yX6_film, cX6_film, 9, some .int, 4)
theorem fm_X6_film : kMb mX6_film 5 := ⟨kw_t 883 (by decide +kernel) (by decide +kernel), kw_t 7 (by decide +kernel) (by decide +kernel), by decide +kernel, by decide⟩
theorem fi_X6_film : Cond.instanceMethod mX6_film.1 ∈ kw ∧ Cond.selects mX6_film.1.cls mX6_film.1 mX6_film.1 ∈ kw := ⟨kw_t 881 (by decide +kernel) (by decide +kernel), kw_t 882 (by decide +kernel) (by decide +kernel)⟩
abbrev mX6_sheet : kX := (yX6_sheet, cX6_sheet, 5, some .int, 3)
theorem fm_X6_sheet : kMb mX6_sheet 3 := ⟨kw_t 890 (by decide +kernel) (by decide +kernel), kw_t 7 (by decide +kernel) (by decide +kernel), by decide +kernel, by decide⟩
theorem fi_X6_sheet : Cond.instanceMethod mX6_sheet.1 ∈ kw ∧ Cond.selects mX6_sheet.1.cls mX6_sheet.1 mX6_sheet.1 ∈ kw := ⟨kw_t 888 (by decide +kernel) (by decide +kernel), kw_t 889 (by decide +kernel) (by decide +kernel)⟩
abbrev mX6_drop : kX := (yX6_drop, cX6_drop, 3, some .int, 2)
theorem fm_X6_drop : kMb mX6_drop 1 := ⟨kw_t 894 (by decide +kernel) (by decide +kernel), kw_t 7 (by decide +kernel) (by decide +kernel), by decide +kernel, by decide⟩
theorem fi_X6_drop : Cond.instanceMethod mX6_drop.1 ∈ kw ∧ Cond.selects mX6_drop.1.cls mX6_drop.1 mX6_drop.1 ∈ kw := ⟨kw_t 892 (by decide +kernel) (by decide +kernel), kw_t 893 (by decide +kernel) (by decide +kernel)⟩
abbrev mX6_item : kX := (yX6_item, cX6_item, 7, some .int, 3)
theorem fm_X6_item : kMb mX6_item 4 := ⟨kw_t 898 (by decide +kernel) (by decide +kernel), kw_t 7 (by decide +kernel) (by decide +kernel), by decide +kernel, by decide⟩
theorem fi_X6_item : Cond.instanceMethod mX6_item.1 ∈ kw ∧ Cond.selects mX6_item.1.cls mX6_item.1 mX6_item.1 ∈ kw := ⟨kw_t 896 (by decide +kernel) (by decide +kernel), kw_t 897 (by decide +kernel) (by decide +kernel)⟩
abbrev mX6_copy : kX := (yX6_copy, cX6_copy, 7, some .int, 2)
theorem fm_X6_copy : kMb mX6_copy 5 := ⟨kw_t 902 (by decide +kernel) (by decide +kernel), kw_t 7 (by decide +kernel) (by decide +kernel), by decide +kernel, by decide⟩
theorem fi_X6_copy : Cond.instanceMethod mX6_copy.1 ∈ kw ∧ Cond.selects mX6_copy.1.cls mX6_copy.1 mX6_copy.1 ∈ kw := ⟨kw_t 900 (by decide +kernel) (by decide +kernel), kw_t 901 (by decide +kernel) (by decide +kernel)⟩
abbrev mJ6_bitCount_0f7a4 : kX := (yJ6_bitCount_0f7a4, cJ6_bitCount_0f7a4, 1, some .int, 0)
theorem fm_J6_bitCount_0f7a4 : kMb mJ6_bitCount_0f7a4 1 := ⟨kw_t 455 (by decide +kernel) (by decide +kernel), kw_t 10 (by decide +kernel) (by decide +kernel), by decide +kernel, by decide⟩
theorem fs_J6_bitCount_0f7a4 : Cond.static mJ6_bitCount_0f7a4.1 ∈ kw := kw_t 454 (by decide +kernel) (by decide +kernel)
abbrev mJ9_max_7cf53 : kX := (yJ9_max_7cf53, cJ9_max_7cf53, 2, some .int, 0)
theorem fm_J9_max_7cf53 : kMb mJ9_max_7cf53 2 := ⟨kw_t 440 (by decide +kernel) (by decide +kernel), kw_t 9 (by decide +kernel) (by decide +kernel), by decide +kernel, by decide⟩
theorem fs_J9_max_7cf53 : Cond.static mJ9_max_7cf53.1 ∈ kw := kw_t 439 (by decide +kernel) (by decide +kernel)
abbrev mJ9_min_7cf53 : kX := (yJ9_min_7cf53, cJ9_min_7cf53, 2, some .int, 0)
theorem fm_J9_min_7cf53 : kMb mJ9_min_7cf53 2 := ⟨kw_t 340 (by decide +kernel) (by decide +kernel), kw_t 9 (by decide +kernel) (by decide +kernel), by decide +kernel, by decide⟩
theorem fs_J9_min_7cf53 : Cond.static mJ9_min_7cf53.1 ∈ kw := kw_t 339 (by decide +kernel) (by decide +kernel)
theorem ml_X5_61 : Cond.methodLink RX5 61 yX5_within ∈ kw := kw_t 191 (by decide +kernel) (by decide +kernel)
theorem ml_X5_69 : Cond.methodLink RX5 69 yX2_forget ∈ kw := kw_t 194 (by decide +kernel) (by decide +kernel)
theorem ml_X5_72 : Cond.methodLink RX5 72 yX3_addStage ∈ kw := kw_t 198 (by decide +kernel) (by decide +kernel)
theorem ml_X5_79 : Cond.methodLink RX5 79 yX3_addRider ∈ kw := kw_t 206 (by decide +kernel) (by decide +kernel)
theorem ml_X5_91 : Cond.methodLink RX5 91 yX5_isRider ∈ kw := kw_t 218 (by decide +kernel) (by decide +kernel)
theorem ml_X5_110 : Cond.methodLink RX5 110 yX5_stageTakes ∈ kw := kw_t 222 (by decide +kernel) (by decide +kernel)
theorem ml_X5_117 : Cond.methodLink RX5 117 yX4_isFull ∈ kw := kw_t 245 (by decide +kernel) (by decide +kernel)
theorem ml_X5_121 : Cond.methodLink RX5 121 yX4_append ∈ kw := kw_t 249 (by decide +kernel) (by decide +kernel)
theorem ml_X5_125 : Cond.methodLink RX5 125 yX4_readRoad ∈ kw := kw_t 257 (by decide +kernel) (by decide +kernel)
theorem ml_X5_132 : Cond.methodLink RX5 132 yX3_takeRoad ∈ kw := kw_t 303 (by decide +kernel) (by decide +kernel)
theorem ml_X5_136 : Cond.methodLink RX5 136 yX3_whoIsThere ∈ kw := kw_t 314 (by decide +kernel) (by decide +kernel)
theorem ml_X5_139 : Cond.methodLink RX5 139 yX3_whoRides ∈ kw := kw_t 319 (by decide +kernel) (by decide +kernel)
theorem ml_X5_142 : Cond.methodLink RX5 142 yX5_sumOf ∈ kw := kw_t 323 (by decide +kernel) (by decide +kernel)
theorem ml_X5_149 : Cond.methodLink RX5 149 yX2_mark ∈ kw := kw_t 330 (by decide +kernel) (by decide +kernel)
theorem ml_X5_152 : Cond.methodLink RX5 152 yX3_rideStage ∈ kw := kw_t 341 (by decide +kernel) (by decide +kernel)
theorem ml_X5_156 : Cond.methodLink RX5 156 yX3_isThere ∈ kw := kw_t 226 (by decide +kernel) (by decide +kernel)
theorem ml_X5_159 : Cond.methodLink RX5 159 yX5_areTwo ∈ kw := kw_t 357 (by decide +kernel) (by decide +kernel)
theorem ml_X5_163 : Cond.methodLink RX5 163 yJ9_min_7cf53 ∈ kw := kw_t 361 (by decide +kernel) (by decide +kernel)
theorem ml_X5_169 : Cond.methodLink RX5 169 yX3_drawWheel ∈ kw := kw_t 366 (by decide +kernel) (by decide +kernel)
theorem ml_X5_172 : Cond.methodLink RX5 172 yX2_goBack ∈ kw := kw_t 377 (by decide +kernel) (by decide +kernel)
theorem ml_X5_178 : Cond.methodLink RX5 178 yX5_isZeroOrOne ∈ kw := kw_t 393 (by decide +kernel) (by decide +kernel)
theorem ml_X5_181 : Cond.methodLink RX5 181 yX0_begin ∈ kw := kw_t 396 (by decide +kernel) (by decide +kernel)
theorem ml_X5_184 : Cond.methodLink RX5 184 yX0_rideToForge ∈ kw := kw_t 409 (by decide +kernel) (by decide +kernel)
theorem ml_X5_190 : Cond.methodLink RX5 190 yX0_cameTo ∈ kw := kw_t 421 (by decide +kernel) (by decide +kernel)
theorem ml_X5_193 : Cond.methodLink RX5 193 yX0_whoIsFirst ∈ kw := kw_t 429 (by decide +kernel) (by decide +kernel)
theorem ml_X5_196 : Cond.methodLink RX5 196 yJ9_max_7cf53 ∈ kw := kw_t 438 (by decide +kernel) (by decide +kernel)
theorem ml_X5_199 : Cond.methodLink RX5 199 yX5_soonestSet ∈ kw := kw_t 445 (by decide +kernel) (by decide +kernel)
theorem ml_X5_202 : Cond.methodLink RX5 202 yX5_minuteBuying ∈ kw := kw_t 449 (by decide +kernel) (by decide +kernel)
theorem ml_X5_205 : Cond.methodLink RX5 205 yX5_fillDuel ∈ kw := kw_t 475 (by decide +kernel) (by decide +kernel)
theorem ml_X5_208 : Cond.methodLink RX5 208 yX5_isRest ∈ kw := kw_t 479 (by decide +kernel) (by decide +kernel)
theorem ml_X5_211 : Cond.methodLink RX5 211 yX5_waysOf ∈ kw := kw_t 487 (by decide +kernel) (by decide +kernel)
theorem ml_X5_214 : Cond.methodLink RX5 214 yX5_isFirstWith ∈ kw := kw_t 491 (by decide +kernel) (by decide +kernel)
theorem ml_X5_217 : Cond.methodLink RX5 217 yX5_sharedDivisor ∈ kw := kw_t 495 (by decide +kernel) (by decide +kernel)
theorem ml_X5_220 : Cond.methodLink RX5 220 yX3_takeAll ∈ kw := kw_t 502 (by decide +kernel) (by decide +kernel)
theorem ml_X5_223 : Cond.methodLink RX5 223 yX2_takeAll ∈ kw := kw_t 503 (by decide +kernel) (by decide +kernel)
theorem ml_X5_226 : Cond.methodLink RX5 226 yX5_rowFault ∈ kw := kw_t 516 (by decide +kernel) (by decide +kernel)
theorem ml_X5_230 : Cond.methodLink RX5 230 yX5_isTold ∈ kw := kw_t 538 (by decide +kernel) (by decide +kernel)
theorem ml_X5_234 : Cond.methodLink RX5 234 yX1_put ∈ kw := kw_t 546 (by decide +kernel) (by decide +kernel)
theorem ml_X5_238 : Cond.methodLink RX5 238 yX5_isSheet ∈ kw := kw_t 520 (by decide +kernel) (by decide +kernel)
theorem ml_X5_241 : Cond.methodLink RX5 241 yX5_isLane ∈ kw := kw_t 523 (by decide +kernel) (by decide +kernel)
theorem ml_X5_244 : Cond.methodLink RX5 244 yX1_lay ∈ kw := kw_t 554 (by decide +kernel) (by decide +kernel)
theorem ml_X5_247 : Cond.methodLink RX5 247 yX1_isMissing ∈ kw := kw_t 562 (by decide +kernel) (by decide +kernel)
theorem ml_X5_250 : Cond.methodLink RX5 250 yX1_clear ∈ kw := kw_t 563 (by decide +kernel) (by decide +kernel)
theorem ml_X5_253 : Cond.methodLink RX5 253 yX1_faultOf ∈ kw := kw_t 526 (by decide +kernel) (by decide +kernel)
theorem ml_X5_259 : Cond.methodLink RX5 259 yX1_holds ∈ kw := kw_t 575 (by decide +kernel) (by decide +kernel)
theorem ml_X5_266 : kcw RX5 266 := kw_t 576 (by decide +kernel) (by decide +kernel)
theorem ml_X5_272 : Cond.methodLink RX5 272 yX5_minutesFor ∈ kw := kw_t 230 (by decide +kernel) (by decide +kernel)
theorem ml_X5_276 : Cond.methodLink RX5 276 yJ6_bitCount_0f7a4 ∈ kw := kw_t 453 (by decide +kernel) (by decide +kernel)
theorem ml_X5_281 : Cond.methodLink RX5 281 yX5_has ∈ kw := kw_t 490 (by decide +kernel) (by decide +kernel)
theorem ml_X0_22 : Cond.methodLink RX0 22 yX3_takeAll ∈ kw := kw_t 400 (by decide +kernel) (by decide +kernel)
theorem ml_X0_30 : Cond.methodLink RX0 30 yX0_noteWhere ∈ kw := kw_t 405 (by decide +kernel) (by decide +kernel)
theorem ml_X0_34 : Cond.methodLink RX0 34 yX3_isThere ∈ kw := kw_t 413 (by decide +kernel) (by decide +kernel)
theorem ml_X0_38 : Cond.methodLink RX0 38 yX3_whoRides ∈ kw := kw_t 414 (by decide +kernel) (by decide +kernel)
theorem ml_X0_49 : Cond.methodLink RX0 49 yX3_rideStage ∈ kw := kw_t 416 (by decide +kernel) (by decide +kernel)
theorem ml_X0_56 : Cond.methodLink RX0 56 yX0_rideToForge ∈ kw := kw_t 433 (by decide +kernel) (by decide +kernel)
theorem ml_X1_22 : Cond.methodLink RX1 22 yX1_isMissing ∈ kw := kw_t 530 (by decide +kernel) (by decide +kernel)
theorem ml_X1_26 : Cond.methodLink RX1 26 yX1_holds ∈ kw := kw_t 534 (by decide +kernel) (by decide +kernel)
theorem ml_X2_22 : Cond.methodLink RX2 22 yX3_writeMoving ∈ kw := kw_t 334 (by decide +kernel) (by decide +kernel)
theorem ml_X2_26 : Cond.methodLink RX2 26 yJ9_min_7cf53 ∈ kw := kw_t 338 (by decide +kernel) (by decide +kernel)
theorem ml_X2_32 : Cond.methodLink RX2 32 yX3_readMoving ∈ kw := kw_t 381 (by decide +kernel) (by decide +kernel)
theorem ml_X2_35 : kcw RX2 35 := kw_t 507 (by decide +kernel) (by decide +kernel)
theorem ml_X3_49 : Cond.methodLink RX3 49 yX3_takeRoad ∈ kw := kw_t 404 (by decide +kernel) (by decide +kernel)
theorem ml_X3_53 : kcw RX3 53 := kw_t 307 (by decide +kernel) (by decide +kernel)
theorem ml_X3_59 : Cond.methodLink RX3 59 yX3_isThere ∈ kw := kw_t 318 (by decide +kernel) (by decide +kernel)
theorem ml_X4_35 : Cond.methodLink RX4 35 yX4_readStages ∈ kw := kw_t 261 (by decide +kernel) (by decide +kernel)
theorem ml_X4_39 : Cond.methodLink RX4 39 yX4_readRiders ∈ kw := kw_t 283 (by decide +kernel) (by decide +kernel)
theorem ml_X4_42 : Cond.methodLink RX4 42 yX4_readStage ∈ kw := kw_t 265 (by decide +kernel) (by decide +kernel)
theorem ml_X4_45 : Cond.methodLink RX4 45 yX4_takes ∈ kw := kw_t 279 (by decide +kernel) (by decide +kernel)
theorem ml_X4_49 : Cond.methodLink RX4 49 yX4_readDigit ∈ kw := kw_t 269 (by decide +kernel) (by decide +kernel)
theorem ml_X4_53 : Cond.methodLink RX4 53 yX3_addStage ∈ kw := kw_t 278 (by decide +kernel) (by decide +kernel)
theorem ml_X4_57 : Cond.methodLink RX4 57 yX4_readRider ∈ kw := kw_t 287 (by decide +kernel) (by decide +kernel)
theorem ml_X4_60 : Cond.methodLink RX4 60 yX4_letterHere ∈ kw := kw_t 273 (by decide +kernel) (by decide +kernel)
theorem ml_X4_64 : Cond.methodLink RX4 64 yX4_kindOf ∈ kw := kw_t 291 (by decide +kernel) (by decide +kernel)
theorem ml_X4_68 : Cond.methodLink RX4 68 yX4_readNumber ∈ kw := kw_t 294 (by decide +kernel) (by decide +kernel)
theorem ml_X4_71 : Cond.methodLink RX4 71 yX3_addRider ∈ kw := kw_t 298 (by decide +kernel) (by decide +kernel)
theorem ml_X4_74 : Cond.methodLink RX4 74 yX4_readBuying ∈ kw := kw_t 299 (by decide +kernel) (by decide +kernel)
theorem ml_X6_38 : Cond.methodLink RX6 38 yX6_in ∈ kw := kw_t 628 (by decide +kernel) (by decide +kernel)
theorem ml_X6_42 : Cond.methodLink RX6 42 yX6_isRider ∈ kw := kw_t 646 (by decide +kernel) (by decide +kernel)
theorem ml_X6_54 : Cond.methodLink RX6 54 yX6_isThere ∈ kw := kw_t 654 (by decide +kernel) (by decide +kernel)
theorem ml_X6_58 : Cond.methodLink RX6 58 yX6_takes ∈ kw := kw_t 658 (by decide +kernel) (by decide +kernel)
theorem ml_X6_62 : Cond.methodLink RX6 62 yX6_takesNow ∈ kw := kw_t 650 (by decide +kernel) (by decide +kernel)
theorem ml_X6_77 : Cond.methodLink RX6 77 yX6_letterAt ∈ kw := kw_t 695 (by decide +kernel) (by decide +kernel)
theorem ml_X6_84 : Cond.methodLink RX6 84 yX6_here ∈ kw := kw_t 691 (by decide +kernel) (by decide +kernel)
theorem ml_X6_88 : Cond.methodLink RX6 88 yX6_fails ∈ kw := kw_t 699 (by decide +kernel) (by decide +kernel)
theorem ml_X6_95 : Cond.methodLink RX6 95 yX6_digit ∈ kw := kw_t 687 (by decide +kernel) (by decide +kernel)
theorem ml_X6_99 : Cond.methodLink RX6 99 yX6_kindBy ∈ kw := kw_t 707 (by decide +kernel) (by decide +kernel)
theorem ml_X6_102 : Cond.methodLink RX6 102 yX6_number ∈ kw := kw_t 710 (by decide +kernel) (by decide +kernel)
theorem ml_X6_105 : Cond.methodLink RX6 105 yX6_takesBuys ∈ kw := kw_t 716 (by decide +kernel) (by decide +kernel)
theorem ml_X6_108 : Cond.methodLink RX6 108 yX6_takesStage ∈ kw := kw_t 683 (by decide +kernel) (by decide +kernel)
theorem ml_X6_112 : Cond.methodLink RX6 112 yX6_takesRider ∈ kw := kw_t 703 (by decide +kernel) (by decide +kernel)
theorem ml_X6_115 : Cond.methodLink RX6 115 yX6_takesRoad ∈ kw := kw_t 679 (by decide +kernel) (by decide +kernel)
theorem ml_X6_118 : Cond.methodLink RX6 118 yX6_copyAll ∈ kw := kw_t 720 (by decide +kernel) (by decide +kernel)
theorem ml_X6_122 : Cond.methodLink RX6 122 yX6_has ∈ kw := kw_t 756 (by decide +kernel) (by decide +kernel)
theorem ml_X6_125 : Cond.methodLink RX6 125 yX6_thereIn ∈ kw := kw_t 728 (by decide +kernel) (by decide +kernel)
theorem ml_X6_128 : Cond.methodLink RX6 128 yX6_nextIn ∈ kw := kw_t 732 (by decide +kernel) (by decide +kernel)
theorem ml_X6_131 : Cond.methodLink RX6 131 yX6_coinsOfAll ∈ kw := kw_t 736 (by decide +kernel) (by decide +kernel)
theorem ml_X6_134 : Cond.methodLink RX6 134 yX6_horsesOfAll ∈ kw := kw_t 740 (by decide +kernel) (by decide +kernel)
theorem ml_X6_137 : Cond.methodLink RX6 137 yX6_minds ∈ kw := kw_t 748 (by decide +kernel) (by decide +kernel)
theorem ml_X6_140 : Cond.methodLink RX6 140 yX6_rides ∈ kw := kw_t 752 (by decide +kernel) (by decide +kernel)
theorem ml_X6_144 : Cond.methodLink RX6 144 yX6_areTwo ∈ kw := kw_t 767 (by decide +kernel) (by decide +kernel)
theorem ml_X6_150 : Cond.methodLink RX6 150 yX6_tries ∈ kw := kw_t 794 (by decide +kernel) (by decide +kernel)
theorem ml_X6_153 : Cond.methodLink RX6 153 yX6_ridesOn ∈ kw := kw_t 798 (by decide +kernel) (by decide +kernel)
theorem ml_X6_156 : Cond.methodLink RX6 156 yX6_foretells ∈ kw := kw_t 790 (by decide +kernel) (by decide +kernel)
theorem ml_X6_159 : Cond.methodLink RX6 159 yX6_firstTried ∈ kw := kw_t 810 (by decide +kernel) (by decide +kernel)
theorem ml_X6_163 : Cond.methodLink RX6 163 yX6_ones ∈ kw := kw_t 823 (by decide +kernel) (by decide +kernel)
theorem ml_X6_168 : Cond.methodLink RX6 168 yX6_layDuel ∈ kw := kw_t 843 (by decide +kernel) (by decide +kernel)
theorem ml_X6_171 : Cond.methodLink RX6 171 yX6_rests ∈ kw := kw_t 847 (by decide +kernel) (by decide +kernel)
theorem ml_X6_182 : Cond.methodLink RX6 182 yX6_isSheet ∈ kw := kw_t 871 (by decide +kernel) (by decide +kernel)
theorem ml_X6_185 : Cond.methodLink RX6 185 yX6_isLane ∈ kw := kw_t 868 (by decide +kernel) (by decide +kernel)
theorem ml_X6_190 : Cond.methodLink RX6 190 yX6_against ∈ kw := kw_t 876 (by decide +kernel) (by decide +kernel)
theorem ml_X6_194 : Cond.methodLink RX6 194 yX6_cut ∈ kw := kw_t 884 (by decide +kernel) (by decide +kernel)
theorem cn_X3_71 : Cond.constant RX3 71 (1103515245) ∈ kw := kw_t 370 (by decide +kernel) (by decide +kernel)
theorem cn_X3_72 : Cond.constant RX3 72 (2147483647) ∈ kw := kw_t 371 (by decide +kernel) (by decide +kernel)
theorem cn_X3_73 : Cond.constant RX3 73 (65536) ∈ kw := kw_t 372 (by decide +kernel) (by decide +kernel)
theorem cn_X6_147 : Cond.constant RX6 147 (1103515245) ∈ kw := kw_t 775 (by decide +kernel) (by decide +kernel)
theorem cn_X6_148 : Cond.constant RX6 148 (2147483647) ∈ kw := kw_t 776 (by decide +kernel) (by decide +kernel)
theorem cn_X6_149 : Cond.constant RX6 149 (65536) ∈ kw := kw_t 777 (by decide +kernel) (by decide +kernel)
theorem cn_X6_162 : Cond.constant RX6 162 (1000000000) ∈ kw := kw_t 822 (by decide +kernel) (by decide +kernel)
theorem cn_J6_265 : Cond.constant RJ6 265 (1431655765) ∈ kw := kw_t 456 (by decide +kernel) (by decide +kernel)
theorem cn_J6_266 : Cond.constant RJ6 266 (858993459) ∈ kw := kw_t 457 (by decide +kernel) (by decide +kernel)
theorem cn_J6_267 : Cond.constant RJ6 267 (252645135) ∈ kw := kw_t 458 (by decide +kernel) (by decide +kernel)
theorem cn_X6_46 : Cond.constantLong RX6 46 (9) ∈ kw := kw_t 627 (by decide +kernel) (by decide +kernel)
theorem cn_X6_48 : Cond.constantLong RX6 48 (4) ∈ kw := kw_t 631 (by decide +kernel) (by decide +kernel)
theorem cn_X6_50 : Cond.constantLong RX6 50 (999) ∈ kw := kw_t 636 (by decide +kernel) (by decide +kernel)
theorem cn_X6_52 : Cond.constantLong RX6 52 (99) ∈ kw := kw_t 637 (by decide +kernel) (by decide +kernel)
theorem cn_X6_66 : Cond.constantLong RX6 66 (32) ∈ kw := kw_t 673 (by decide +kernel) (by decide +kernel)
theorem cn_X6_68 : Cond.constantLong RX6 68 (126) ∈ kw := kw_t 674 (by decide +kernel) (by decide +kernel)
theorem cn_X6_91 : Cond.constantLong RX6 91 (48) ∈ kw := kw_t 714 (by decide +kernel) (by decide +kernel)
theorem cn_X6_93 : Cond.constantLong RX6 93 (57) ∈ kw := kw_t 715 (by decide +kernel) (by decide +kernel)
theorem cn_X6_166 : Cond.constantLong RX6 166 (9999) ∈ kw := kw_t 834 (by decide +kernel) (by decide +kernel)
theorem cn_X6_174 : Cond.constantLong RX6 174 (10) ∈ kw := kw_t 855 (by decide +kernel) (by decide +kernel)
theorem cn_X6_180 : Cond.constantLong RX6 180 (3) ∈ kw := kw_t 874 (by decide +kernel) (by decide +kernel)
theorem cn_X6_188 : Cond.constantLong RX6 188 (8) ∈ kw := kw_t 875 (by decide +kernel) (by decide +kernel)
theorem ic_m1 : Int32.ofInt (-1) = -1 := by decide
theorem ic_0 : Int32.ofInt (0) = 0 := by decide
theorem ic_1 : Int32.ofInt (1) = 1 := by decide
theorem ic_2 : Int32.ofInt (2) = 2 := by decide
theorem ic_3 : Int32.ofInt (3) = 3 := by decide
theorem ic_4 : Int32.ofInt (4) = 4 := by decide
theorem ic_5 : Int32.ofInt (5) = 5 := by decide
theorem bp_m20 : (Int8.ofInt (-20)).toInt32 = -20 := by decide
theorem bp_m14 : (Int8.ofInt (-14)).toInt32 = -14 := by decide
theorem bp_m13 : (Int8.ofInt (-13)).toInt32 = -13 := by decide
theorem bp_m12 : (Int8.ofInt (-12)).toInt32 = -12 := by decide
theorem bp_m11 : (Int8.ofInt (-11)).toInt32 = -11 := by decide
theorem bp_m4 : (Int8.ofInt (-4)).toInt32 = -4 := by decide
theorem bp_m3 : (Int8.ofInt (-3)).toInt32 = -3 := by decide
theorem bp_m2 : (Int8.ofInt (-2)).toInt32 = -2 := by decide
theorem bp_6 : (Int8.ofInt (6)).toInt32 = 6 := by decide
theorem bp_7 : (Int8.ofInt (7)).toInt32 = 7 := by decide
theorem bp_8 : (Int8.ofInt (8)).toInt32 = 8 := by decide
theorem bp_9 : (Int8.ofInt (9)).toInt32 = 9 := by decide
theorem bp_10 : (Int8.ofInt (10)).toInt32 = 10 := by decide
theorem bp_12 : (Int8.ofInt (12)).toInt32 = 12 := by decide
theorem bp_16 : (Int8.ofInt (16)).toInt32 = 16 := by decide
theorem bp_20 : (Int8.ofInt (20)).toInt32 = 20 := by decide
theorem bp_21 : (Int8.ofInt (21)).toInt32 = 21 := by decide
theorem bp_22 : (Int8.ofInt (22)).toInt32 = 22 := by decide
theorem bp_23 : (Int8.ofInt (23)).toInt32 = 23 := by decide
theorem bp_24 : (Int8.ofInt (24)).toInt32 = 24 := by decide
theorem bp_30 : (Int8.ofInt (30)).toInt32 = 30 := by decide
theorem bp_32 : (Int8.ofInt (32)).toInt32 = 32 := by decide
theorem bp_36 : (Int8.ofInt (36)).toInt32 = 36 := by decide
theorem bp_40 : (Int8.ofInt (40)).toInt32 = 40 := by decide
theorem bp_44 : (Int8.ofInt (44)).toInt32 = 44 := by decide
theorem bp_47 : (Int8.ofInt (47)).toInt32 = 47 := by decide
theorem bp_48 : (Int8.ofInt (48)).toInt32 = 48 := by decide
theorem bp_49 : (Int8.ofInt (49)).toInt32 = 49 := by decide
theorem bp_57 : (Int8.ofInt (57)).toInt32 = 57 := by decide
theorem bp_58 : (Int8.ofInt (58)).toInt32 = 58 := by decide
theorem bp_59 : (Int8.ofInt (59)).toInt32 = 59 := by decide
theorem bp_63 : (Int8.ofInt (63)).toInt32 = 63 := by decide
theorem bp_64 : (Int8.ofInt (64)).toInt32 = 64 := by decide
theorem bp_70 : (Int8.ofInt (70)).toInt32 = 70 := by decide
theorem bp_90 : (Int8.ofInt (90)).toInt32 = 90 := by decide
theorem bp_98 : (Int8.ofInt (98)).toInt32 = 98 := by decide
theorem bp_99 : (Int8.ofInt (99)).toInt32 = 99 := by decide
theorem bp_100 : (Int8.ofInt (100)).toInt32 = 100 := by decide
theorem bp_111 : (Int8.ofInt (111)).toInt32 = 111 := by decide
theorem bp_112 : (Int8.ofInt (112)).toInt32 = 112 := by decide
theorem bp_114 : (Int8.ofInt (114)).toInt32 = 114 := by decide
theorem bp_115 : (Int8.ofInt (115)).toInt32 = 115 := by decide
theorem bp_126 : (Int8.ofInt (126)).toInt32 = 126 := by decide
theorem sp_147 : (Int16.ofInt (147)).toInt32 = 147 := by decide
theorem sp_217 : (Int16.ofInt (217)).toInt32 = 217 := by decide
theorem sp_300 : (Int16.ofInt (300)).toInt32 = 300 := by decide
theorem sp_434 : (Int16.ofInt (434)).toInt32 = 434 := by decide
theorem sp_442 : (Int16.ofInt (442)).toInt32 = 442 := by decide
theorem sp_446 : (Int16.ofInt (446)).toInt32 = 446 := by decide
theorem sp_450 : (Int16.ofInt (450)).toInt32 = 450 := by decide
theorem sp_454 : (Int16.ofInt (454)).toInt32 = 454 := by decide
theorem sp_455 : (Int16.ofInt (455)).toInt32 = 455 := by decide
theorem sp_456 : (Int16.ofInt (456)).toInt32 = 456 := by decide
theorem sp_457 : (Int16.ofInt (457)).toInt32 = 457 := by decide
theorem sp_458 : (Int16.ofInt (458)).toInt32 = 458 := by decide
theorem sp_466 : (Int16.ofInt (466)).toInt32 = 466 := by decide
theorem sp_474 : (Int16.ofInt (474)).toInt32 = 474 := by decide
theorem sp_478 : (Int16.ofInt (478)).toInt32 = 478 := by decide
theorem sp_999 : (Int16.ofInt (999)).toInt32 = 999 := by decide
theorem sp_9999 : (Int16.ofInt (9999)).toInt32 = 9999 := by decide
theorem sp_12345 : (Int16.ofInt (12345)).toInt32 = 12345 := by decide
def kqi (Q : Int32 → kM → Prop) : Option kV → kM → Prop := fun v M => ∃ r : Int32, v = some (.inl r) ∧ Q r M
def kql (Q : Int64 → kM → Prop) : Option kV → kM → Prop := fun v M => ∃ r : Int64, v = some (.inr (.inl r)) ∧ Q r M
def kqv (Q : kM → Prop) : Option kV → kM → Prop := fun v M => v = none ∧ Q M
