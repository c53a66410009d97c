set_option maxRecDepth 20000 in
theorem bX6_in_0 {l : Launch} {g : va_G × (Nat → ClassId) × (Nat → Nat → Nat)} (x0 : Int64) (x2 : Int64) (x4 : Int64) (M : kM) (Q : Int32 → kM → Prop)
    (h : (((lg_cmp x0 x2) < 0 → kWP l (rg_m, g) mX6_in 17 [] [] M (kqi Q)) ∧ (¬ (lg_cmp x0 x2) < 0 → ((0 < (lg_cmp x0 x4) → kWP l (rg_m, g) mX6_in 17 [] [] M (kqi Q)) ∧ (¬ 0 < (lg_cmp x0 x4) → kWP l (rg_m, g) mX6_in 18 [] [.inl 1] M (kqi Q)))))) :
    kWP l (rg_m, g) mX6_in 0 [(0, .inr (.inl x0)), (2, .inr (.inl x2)), (4, .inr (.inl x4))] [] M (kqi Q) := by
  refine kwp_lload_n (pc := 0) 0 rfl dX6_in_0 rfl ?_
  refine kwp_lload_n (pc := 1) 1 rfl dX6_in_1 rfl ?_
  refine kwp_lcmp (pc := 2) dX6_in_2 ?_
  refine kwp_if_lt (pc := 3) 17 dX6_in_3 (by decide) (fun hc => ?_) (fun hc => ?_)
  · have h := h.1 hc
    refine kwp_sub [] rfl ?_
    exact h
  · have h := h.2 hc
    refine kwp_lload_n (pc := 6) 0 rfl dX6_in_6 rfl ?_
    refine kwp_lload (pc := 7) 2 rfl dX6_in_7 ?_
    refine kwp_lcmp (pc := 9) dX6_in_9 ?_
    refine kwp_if_gt (pc := 10) 17 dX6_in_10 (by decide) (fun hc => ?_) (fun hc => ?_)
    · have h := h.1 hc
      refine kwp_sub [] rfl ?_
      exact h
    · have h := h.2 hc
      refine kwp_iconst (pc := 13) dX6_in_13 ic_1 ?_
      refine kwp_goto (pc := 14) 18 dX6_in_14 (by decide) ?_
      refine kwp_sub [] rfl ?_
      exact h

set_option maxRecDepth 20000 in
theorem bX6_in_17 {l : Launch} {g : va_G × (Nat → ClassId) × (Nat → Nat → Nat)}  (M : kM) (Q : Int32 → kM → Prop)
    (h : kWP l (rg_m, g) mX6_in 18 [] [.inl 0] M (kqi Q)) :
    kWP l (rg_m, g) mX6_in 17 [] [] M (kqi Q) := by
  refine kwp_iconst (pc := 17) dX6_in_17 ic_0 ?_
  exact h

set_option maxRecDepth 20000 in
theorem bX6_in_18 {l : Launch} {g : va_G × (Nat → ClassId) × (Nat → Nat → Nat)} (s0 : Int32) (M : kM) (Q : Int32 → kM → Prop)
    (h : ((s0 = 0 ∨ s0 = 1) ∧ Q s0 M)) :
    kWP l (rg_m, g) mX6_in 18 [] [.inl s0] M (kqi Q) := by
  exact kwp_zret (pc := 18) rfl h.1 dX6_in_18 ⟨_, rfl, h.2⟩

set_option maxRecDepth 20000 in
theorem bX6_has_0 {l : Launch} {g : va_G × (Nat → ClassId) × (Nat → Nat → Nat)} (x0 : Int32) (x1 : Int32) (M : kM) (Q : Int32 → kM → Prop)
    (h : ((¬ ((x0 >>> (x1 &&& 31)) &&& 1) = 1 → kWP l (rg_m, g) mX6_has 14 [] [.inl 0] M (kqi Q)) ∧ (((x0 >>> (x1 &&& 31)) &&& 1) = 1 → kWP l (rg_m, g) mX6_has 14 [] [.inl 1] M (kqi Q)))) :
    kWP l (rg_m, g) mX6_has 0 [(0, .inl x0), (1, .inl x1)] [] M (kqi Q) := by
  refine kwp_iload_n (pc := 0) 0 rfl dX6_has_0 rfl ?_
  refine kwp_iload_n (pc := 1) 1 rfl dX6_has_1 rfl ?_
  refine kwp_ishr (pc := 2) dX6_has_2 ?_
  refine kwp_iconst (pc := 3) dX6_has_3 ic_1 ?_
  refine kwp_iand (pc := 4) dX6_has_4 ?_
  refine kwp_iconst (pc := 5) dX6_has_5 ic_1 ?_
  refine kwp_icmp_ne (pc := 6) 13 dX6_has_6 (by decide) (fun hc => ?_) (fun hc => ?_)
  · have h := h.1 hc
    refine kwp_iconst (pc := 13) dX6_has_13 ic_0 ?_
    refine kwp_sub [] rfl ?_
    exact h
  · have h := h.2 hc
    refine kwp_iconst (pc := 9) dX6_has_9 ic_1 ?_
    refine kwp_goto (pc := 10) 14 dX6_has_10 (by decide) ?_
    refine kwp_sub [] rfl ?_
    exact h

set_option maxRecDepth 20000 in
theorem bX6_has_14 {l : Launch} {g : va_G × (Nat → ClassId) × (Nat → Nat → Nat)} (s0 : Int32) (M : kM) (Q : Int32 → kM → Prop)
    (h : ((s0 = 0 ∨ s0 = 1) ∧ Q s0 M)) :
    kWP l (rg_m, g) mX6_has 14 [] [.inl s0] M (kqi Q) := by
  exact kwp_zret (pc := 14) rfl h.1 dX6_has_14 ⟨_, rfl, h.2⟩

set_option maxRecDepth 20000 in
theorem bX6_ones_0 {l : Launch} {g : va_G × (Nat → ClassId) × (Nat → Nat → Nat)} (x0 : Int32) (M : kM) (Q : Int32 → kM → Prop)
    (h : kWP l (rg_m, g) mX6_ones 4 [(0, .inl x0), (1, .inl 0), (2, .inl 0)] [] M (kqi Q)) :
    kWP l (rg_m, g) mX6_ones 0 [(0, .inl x0)] [] M (kqi Q) := by
  refine kwp_iconst (pc := 0) dX6_ones_0 ic_0 ?_
  refine kwp_istore_n (pc := 1) (ls2 := [(1, .inl 0), (0, .inl x0)]) dX6_ones_1 rfl (by decide) rfl ?_
  refine kwp_iconst (pc := 2) dX6_ones_2 ic_0 ?_
  refine kwp_istore_n (pc := 3) (ls2 := [(2, .inl 0), (1, .inl 0), (0, .inl x0)]) dX6_ones_3 rfl (by decide) rfl ?_
  refine kwp_sub [2, 1, 0] rfl ?_
  exact h

set_option maxRecDepth 20000 in
theorem bX6_ones_4 {l : Launch} {g : va_G × (Nat → ClassId) × (Nat → Nat → Nat)} (x0 : Int32) (x1 : Int32) (x2 : Int32) (M : kM) (Q : Int32 → kM → Prop)
    (h : ((8 ≤ x2 → Q x1 M) ∧ (¬ 8 ≤ x2 → ∀ z1 : Int32, z1 = x1 + ((x0 >>> (x2 &&& 31)) &&& 1) → ∀ z2 : Int32, z2 = x2 + 1 → kWP l (rg_m, g) mX6_ones 4 [(0, .inl x0), (1, .inl z1), (2, .inl z2)] [] M (kqi Q)))) :
    kWP l (rg_m, g) mX6_ones 4 [(0, .inl x0), (1, .inl x1), (2, .inl x2)] [] M (kqi Q) := by
  refine kwp_iload_n (pc := 4) 2 rfl dX6_ones_4 rfl ?_
  refine kwp_bipush (pc := 5) dX6_ones_5 bp_8 ?_
  refine kwp_icmp_ge (pc := 7) 24 dX6_ones_7 (by decide) (fun hc => ?_) (fun hc => ?_)
  · have h := h.1 hc
    refine kwp_iload_n (pc := 24) 1 rfl dX6_ones_24 rfl ?_
    exact kwp_iret (pc := 25) rfl dX6_ones_25 ⟨_, rfl, h⟩
  · have h := h.2 hc
    refine kwp_iload_n (pc := 10) 1 rfl dX6_ones_10 rfl ?_
    refine kwp_iload_n (pc := 11) 0 rfl dX6_ones_11 rfl ?_
    refine kwp_iload_n (pc := 12) 2 rfl dX6_ones_12 rfl ?_
    refine kwp_ishr (pc := 13) dX6_ones_13 ?_
    refine kwp_iconst (pc := 14) dX6_ones_14 ic_1 ?_
    refine kwp_iand (pc := 15) dX6_ones_15 ?_
    refine kwp_iadd (pc := 16) dX6_ones_16 ?_
    obtain ⟨z1, ez1⟩ : ∃ z : Int32, z = x1 + ((x0 >>> (x2 &&& 31)) &&& 1) := ⟨_, rfl⟩
    rw [← ez1]
    have h := h z1 ez1
    refine kwp_istore_n (pc := 17) (ls2 := [(1, .inl z1), (0, .inl x0), (2, .inl x2)]) dX6_ones_17 rfl (by decide) rfl ?_
    obtain ⟨z2, ez2⟩ : ∃ z : Int32, z = x2 + 1 := ⟨_, rfl⟩
    have h := h z2 ez2
    refine kwp_iinc (pc := 18) (v := z2) (ls2 := [(2, .inl z2), (1, .inl z1), (0, .inl x0)]) 2 rfl dX6_ones_18 (by rw [ez2, ic_1]) (by decide) rfl ?_
    refine kwp_goto (pc := 21) 4 dX6_ones_21 (by decide) ?_
    refine kwp_sub [2, 1, 0] rfl ?_
    exact h

set_option maxRecDepth 20000 in
theorem bX6_copyAll_0 {l : Launch} {g : va_G × (Nat → ClassId) × (Nat → Nat → Nat)} (x1 : Int32) (x2 : Int32) (x3 : Int32) (M : kM) (Q : kM → Prop)
    (h : kWP l (rg_m, g) mX6_copyAll 3 [(0, .inr (.inr (0, 0))), (1, .inl x1), (2, .inl x2), (3, .inl x3), (4, .inl 0)] [] M (kqv Q)) :
    kWP l (rg_m, g) mX6_copyAll 0 [(0, .inr (.inr (0, 0))), (1, .inl x1), (2, .inl x2), (3, .inl x3)] [] M (kqv Q) := by
  refine kwp_iconst (pc := 0) dX6_copyAll_0 ic_0 ?_
  refine kwp_istore (pc := 1) (ls2 := [(4, .inl 0), (0, .inr (.inr (0, 0))), (1, .inl x1), (2, .inl x2), (3, .inl x3)]) dX6_copyAll_1 (by decide) rfl ?_
  refine kwp_sub [1, 2, 3, 4, 0] rfl ?_
  exact h

set_option maxRecDepth 20000 in
theorem bX6_copyAll_3 {l : Launch} {g : va_G × (Nat → ClassId) × (Nat → Nat → Nat)} (x1 : Int32) (x2 : Int32) (x3 : Int32) (x4 : Int32) (M : kM) (Q : kM → Prop)
    (h : ((x3 ≤ x4 → Q M) ∧ (¬ x3 ≤ x4 → vp_in (x1 + x4) 483 ∧ (vp_in (x2 + x4) 483 ∧ (∀ M1 : kM, M1 = ku M 1 0 (x2 + x4).toNatClampNeg (M.1 1 0 (x1 + x4).toNatClampNeg) → ∀ z2 : Int32, z2 = x4 + 1 → kWP l (rg_m, g) mX6_copyAll 3 [(0, .inr (.inr (0, 0))), (1, .inl x1), (2, .inl x2), (3, .inl x3), (4, .inl z2)] [] M1 (kqv Q)))))) :
    kWP l (rg_m, g) mX6_copyAll 3 [(0, .inr (.inr (0, 0))), (1, .inl x1), (2, .inl x2), (3, .inl x3), (4, .inl x4)] [] M (kqv Q) := by
  refine kwp_iload (pc := 3) 4 rfl dX6_copyAll_3 ?_
  refine kwp_iload_n (pc := 5) 3 rfl dX6_copyAll_5 rfl ?_
  refine kwp_icmp_ge (pc := 6) 33 dX6_copyAll_6 (by decide) (fun hc => ?_) (fun hc => ?_)
  · have h := h.1 hc
    exact kwp_vret (pc := 33) rfl dX6_copyAll_33 ⟨rfl, h⟩
  · have h := h.2 hc
    refine kwp_aload_n (pc := 9) 0 rfl dX6_copyAll_9 rfl ?_
    refine kwp_getc (pc := 10) fl_X6_7 rfl rfl dX6_copyAll_10 ?_
    refine kwp_iload_n (pc := 13) 2 rfl dX6_copyAll_13 rfl ?_
    refine kwp_iload (pc := 14) 4 rfl dX6_copyAll_14 ?_
    refine kwp_iadd (pc := 16) dX6_copyAll_16 ?_
    refine kwp_aload_n (pc := 17) 0 rfl dX6_copyAll_17 rfl ?_
    refine kwp_getc (pc := 18) fl_X6_7 rfl rfl dX6_copyAll_18 ?_
    refine kwp_iload_n (pc := 21) 1 rfl dX6_copyAll_21 rfl ?_
    refine kwp_iload (pc := 22) 4 rfl dX6_copyAll_22 ?_
    refine kwp_iadd (pc := 24) dX6_copyAll_24 ?_
    obtain ⟨hin, h⟩ := h
    refine kwp_iald (pc := 25) rfl hin dX6_copyAll_25 ?_
    obtain ⟨hin, h⟩ := h
    refine kwp_iast (pc := 26) rfl hin dX6_copyAll_26 ?_
    obtain ⟨M1, eM1⟩ : ∃ z : kM, z = ku M 1 0 (x2 + x4).toNatClampNeg (M.1 1 0 (x1 + x4).toNatClampNeg) := ⟨_, rfl⟩
    rw [← eM1]
    have h := h M1 eM1
    obtain ⟨z2, ez2⟩ : ∃ z : Int32, z = x4 + 1 := ⟨_, rfl⟩
    have h := h z2 ez2
    refine kwp_iinc (pc := 27) (v := z2) (ls2 := [(4, .inl z2), (0, .inr (.inr (0, 0))), (1, .inl x1), (2, .inl x2), (3, .inl x3)]) 4 rfl dX6_copyAll_27 (by rw [ez2, ic_1]) (by decide) rfl ?_
    refine kwp_goto (pc := 30) 3 dX6_copyAll_30 (by decide) ?_
    refine kwp_sub [1, 2, 3, 4, 0] rfl ?_
    exact h

set_option maxRecDepth 20000 in
theorem bX6_isRider_0 {l : Launch} {g : va_G × (Nat → ClassId) × (Nat → Nat → Nat)} (x1 : Int32) (M : kM) (Q : Int32 → kM → Prop)
    (h : kCT l (rg_m, g) mX6_in [.inr (.inl (x1.toInt64)), .inr (.inl 0), .inr (.inl (((M.1 1 0 (22 : Int32).toNatClampNeg) - 1).toInt64))] M (kqi (fun r2 M1 => ((r2 = 0 ∨ r2 = 1) ∧ Q r2 M1)))) :
    kWP l (rg_m, g) mX6_isRider 0 [(0, .inr (.inr (0, 0))), (1, .inl x1)] [] M (kqi Q) := by
  refine kwp_iload_n (pc := 0) 1 rfl dX6_isRider_0 rfl ?_
  refine kwp_i2l (pc := 1) dX6_isRider_1 ?_
  refine kwp_lconst (pc := 2) (v := 0) dX6_isRider_2 (by decide) ?_
  refine kwp_aload_n (pc := 3) 0 rfl dX6_isRider_3 rfl ?_
  refine kwp_getc (pc := 4) fl_X6_7 rfl rfl dX6_isRider_4 ?_
  refine kwp_bipush (pc := 7) dX6_isRider_7 bp_22 ?_
  refine kwp_iald (pc := 9) rfl (show vp_in (22 : Int32) 483 by unfold vp_in; decide) dX6_isRider_9 ?_
  refine kwp_iconst (pc := 10) dX6_isRider_10 ic_1 ?_
  refine kwp_isub (pc := 11) dX6_isRider_11 ?_
  refine kwp_i2l (pc := 12) dX6_isRider_12 ?_
  refine kwp_callS (pc := 13) (Y := mX6_in) (vs := [.inr (.inl (x1.toInt64)), .inr (.inl 0), .inr (.inl (((M.1 1 0 (22 : Int32).toNatClampNeg) - 1).toInt64))]) (rest := []) fm_X6_in fs_X6_in ml_X6_38 (by decide) rfl rfl (by simp [kcat]) dX6_isRider_13 ?_
  refine kCT.mono h (fun v M1 h => ?_)
  obtain ⟨r2, rfl, h⟩ := h
  change kWP l (rg_m, g) mX6_isRider 16 [(0, .inr (.inr (0, 0))), (1, .inl x1)] [.inl r2] M1 (kqi Q)
  exact kwp_zret (pc := 16) rfl h.1 dX6_isRider_16 ⟨_, rfl, h.2⟩

set_option maxRecDepth 20000 in
theorem bX6_areTwo_0 {l : Launch} {g : va_G × (Nat → ClassId) × (Nat → Nat → Nat)} (x1 : Int32) (x2 : Int32) (M : kM) (Q : Int32 → kM → Prop)
    (h : kCT l (rg_m, g) mX6_isRider [.inr (.inr (0, 0)), .inl x1] M (kqi (fun r2 M1 => ((r2 = 0 → kWP l (rg_m, g) mX6_areTwo 25 [] [] M1 (kqi Q)) ∧ (¬ r2 = 0 → kCT l (rg_m, g) mX6_isRider [.inr (.inr (0, 0)), .inl x2] M1 (kqi (fun r4 M3 => ((r4 = 0 → kWP l (rg_m, g) mX6_areTwo 25 [] [] M3 (kqi Q)) ∧ (¬ r4 = 0 → ((x1 = x2 → kWP l (rg_m, g) mX6_areTwo 25 [] [] M3 (kqi Q)) ∧ (¬ x1 = x2 → kWP l (rg_m, g) mX6_areTwo 26 [] [.inl 1] M3 (kqi Q)))))))))))) :
    kWP l (rg_m, g) mX6_areTwo 0 [(0, .inr (.inr (0, 0))), (1, .inl x1), (2, .inl x2)] [] M (kqi Q) := by
  refine kwp_aload_n (pc := 0) 0 rfl dX6_areTwo_0 rfl ?_
  refine kwp_iload_n (pc := 1) 1 rfl dX6_areTwo_1 rfl ?_
  refine kwp_callV (pc := 2) (Y := mX6_isRider) (vs := [.inl x1]) (rest := []) fm_X6_isRider fi_X6_isRider ml_X6_42 (by decide) rfl rfl rfl rfl (by simp [kcat]) dX6_areTwo_2 ?_
  refine kCT.mono h (fun v M1 h => ?_)
  obtain ⟨r2, rfl, h⟩ := h
  change kWP l (rg_m, g) mX6_areTwo 5 [(0, .inr (.inr (0, 0))), (1, .inl x1), (2, .inl x2)] [.inl r2] M1 (kqi Q)
  refine kwp_if_eq (pc := 5) 25 dX6_areTwo_5 (by decide) (fun hc => ?_) (fun hc => ?_)
  · have h := h.1 hc
    refine kwp_sub [] rfl ?_
    exact h
  · have h := h.2 hc
    refine kwp_aload_n (pc := 8) 0 rfl dX6_areTwo_8 rfl ?_
    refine kwp_iload_n (pc := 9) 2 rfl dX6_areTwo_9 rfl ?_
    refine kwp_callV (pc := 10) (Y := mX6_isRider) (vs := [.inl x2]) (rest := []) fm_X6_isRider fi_X6_isRider ml_X6_42 (by decide) rfl rfl rfl rfl (by simp [kcat]) dX6_areTwo_10 ?_
    refine kCT.mono h (fun v M3 h => ?_)
    obtain ⟨r4, rfl, h⟩ := h
    change kWP l (rg_m, g) mX6_areTwo 13 [(0, .inr (.inr (0, 0))), (1, .inl x1), (2, .inl x2)] [.inl r4] M3 (kqi Q)
    refine kwp_if_eq (pc := 13) 25 dX6_areTwo_13 (by decide) (fun hc => ?_) (fun hc => ?_)
    · have h := h.1 hc
      refine kwp_sub [] rfl ?_
      exact h
    · have h := h.2 hc
      refine kwp_iload_n (pc := 16) 1 rfl dX6_areTwo_16 rfl ?_
      refine kwp_iload_n (pc := 17) 2 rfl dX6_areTwo_17 rfl ?_
      refine kwp_icmp_eq (pc := 18) 25 dX6_areTwo_18 (by decide) (fun hc => ?_) (fun hc => ?_)
      · have h := h.1 hc
        refine kwp_sub [] rfl ?_
        exact h
      · have h := h.2 hc
        refine kwp_iconst (pc := 21) dX6_areTwo_21 ic_1 ?_
        refine kwp_goto (pc := 22) 26 dX6_areTwo_22 (by decide) ?_
        refine kwp_sub [] rfl ?_
        exact h

set_option maxRecDepth 20000 in
theorem bX6_areTwo_25 {l : Launch} {g : va_G × (Nat → ClassId) × (Nat → Nat → Nat)}  (M : kM) (Q : Int32 → kM → Prop)
    (h : kWP l (rg_m, g) mX6_areTwo 26 [] [.inl 0] M (kqi Q)) :
    kWP l (rg_m, g) mX6_areTwo 25 [] [] M (kqi Q) := by
  refine kwp_iconst (pc := 25) dX6_areTwo_25 ic_0 ?_
  exact h

set_option maxRecDepth 20000 in
theorem bX6_areTwo_26 {l : Launch} {g : va_G × (Nat → ClassId) × (Nat → Nat → Nat)} (s0 : Int32) (M : kM) (Q : Int32 → kM → Prop)
    (h : ((s0 = 0 ∨ s0 = 1) ∧ Q s0 M)) :
    kWP l (rg_m, g) mX6_areTwo 26 [] [.inl s0] M (kqi Q) := by
  exact kwp_zret (pc := 26) rfl h.1 dX6_areTwo_26 ⟨_, rfl, h.2⟩

set_option maxRecDepth 20000 in
theorem bX6_stage_0 {l : Launch} {g : va_G × (Nat → ClassId) × (Nat → Nat → Nat)} (x1 : Int32) (x2 : Int32) (x3 : Int32) (M : kM) (Q : Int32 → kM → Prop)
    (h : kCT l (rg_m, g) mX6_in [.inr (.inl (x1.toInt64)), .inr (.inl 1), .inr (.inl 9)] M (kqi (fun r2 M1 => ((r2 = 0 → kWP l (rg_m, g) mX6_stage 36 [] [] M1 (kqi Q)) ∧ (¬ r2 = 0 → kCT l (rg_m, g) mX6_in [.inr (.inl (x2.toInt64)), .inr (.inl 0), .inr (.inl 9)] M1 (kqi (fun r4 M3 => ((r4 = 0 → kWP l (rg_m, g) mX6_stage 36 [] [] M3 (kqi Q)) ∧ (¬ r4 = 0 → kCT l (rg_m, g) mX6_in [.inr (.inl (x3.toInt64)), .inr (.inl 0), .inr (.inl 4)] M3 (kqi (fun r6 M5 => ((¬ r6 = 0 → ((¬ (M5.1 1 0 (21 : Int32).toNatClampNeg) = 8 → ∀ z7 : Int32, z7 = M5.1 1 0 (21 : Int32).toNatClampNeg → vp_in ((24 : Int32) + z7) 483 ∧ (∀ M8 : kM, M8 = ku M5 1 0 ((24 : Int32) + z7).toNatClampNeg x1 → vp_in ((32 : Int32) + z7) 483 ∧ (∀ M9 : kM, M9 = ku M8 1 0 ((32 : Int32) + z7).toNatClampNeg x2 → vp_in ((0 : Int32) + z7) 483 ∧ (∀ M10 : kM, M10 = ku M9 1 0 ((0 : Int32) + z7).toNatClampNeg x3 → ∀ M11 : kM, M11 = ku M10 1 0 (21 : Int32).toNatClampNeg ((M10.1 1 0 (21 : Int32).toNatClampNeg) + 1) → ∀ M12 : kM, M12 = ku M11 1 0 (48 : Int32).toNatClampNeg 0 → Q z7 M12)))) ∧ ((M5.1 1 0 (21 : Int32).toNatClampNeg) = 8 → Q (-3) M5))) ∧ (r6 = 0 → kWP l (rg_m, g) mX6_stage 36 [] [] M5 (kqi Q)))))))))))))) :
    kWP l (rg_m, g) mX6_stage 0 [(0, .inr (.inr (0, 0))), (1, .inl x1), (2, .inl x2), (3, .inl x3)] [] M (kqi Q) := by
  refine kwp_iload_n (pc := 0) 1 rfl dX6_stage_0 rfl ?_
  refine kwp_i2l (pc := 1) dX6_stage_1 ?_
  refine kwp_lconst (pc := 2) (v := 1) dX6_stage_2 (by decide) ?_
  refine kwp_ldc2 (pc := 3) cn_X6_46 dX6_stage_3 ?_
  refine kwp_callS (pc := 6) (Y := mX6_in) (vs := [.inr (.inl (x1.toInt64)), .inr (.inl 1), .inr (.inl 9)]) (rest := []) fm_X6_in fs_X6_in ml_X6_38 (by decide) rfl rfl (by simp [kcat]) dX6_stage_6 ?_
  refine kCT.mono h (fun v M1 h => ?_)
  obtain ⟨r2, rfl, h⟩ := h
  change kWP l (rg_m, g) mX6_stage 9 [(0, .inr (.inr (0, 0))), (1, .inl x1), (2, .inl x2), (3, .inl x3)] [.inl r2] M1 (kqi Q)
  refine kwp_if_eq (pc := 9) 36 dX6_stage_9 (by decide) (fun hc => ?_) (fun hc => ?_)
  · have h := h.1 hc
    refine kwp_sub [] rfl ?_
    exact h
  · have h := h.2 hc
    refine kwp_iload_n (pc := 12) 2 rfl dX6_stage_12 rfl ?_
    refine kwp_i2l (pc := 13) dX6_stage_13 ?_
    refine kwp_lconst (pc := 14) (v := 0) dX6_stage_14 (by decide) ?_
    refine kwp_ldc2 (pc := 15) cn_X6_46 dX6_stage_15 ?_
    refine kwp_callS (pc := 18) (Y := mX6_in) (vs := [.inr (.inl (x2.toInt64)), .inr (.inl 0), .inr (.inl 9)]) (rest := []) fm_X6_in fs_X6_in ml_X6_38 (by decide) rfl rfl (by simp [kcat]) dX6_stage_18 ?_
    refine kCT.mono h (fun v M3 h => ?_)
    obtain ⟨r4, rfl, h⟩ := h
    change kWP l (rg_m, g) mX6_stage 21 [(0, .inr (.inr (0, 0))), (1, .inl x1), (2, .inl x2), (3, .inl x3)] [.inl r4] M3 (kqi Q)
    refine kwp_if_eq (pc := 21) 36 dX6_stage_21 (by decide) (fun hc => ?_) (fun hc => ?_)
    · have h := h.1 hc
      refine kwp_sub [] rfl ?_
      exact h
    · have h := h.2 hc
      refine kwp_iload_n (pc := 24) 3 rfl dX6_stage_24 rfl ?_
      refine kwp_i2l (pc := 25) dX6_stage_25 ?_
      refine kwp_lconst (pc := 26) (v := 0) dX6_stage_26 (by decide) ?_
      refine kwp_ldc2 (pc := 27) cn_X6_48 dX6_stage_27 ?_
      refine kwp_callS (pc := 30) (Y := mX6_in) (vs := [.inr (.inl (x3.toInt64)), .inr (.inl 0), .inr (.inl 4)]) (rest := []) fm_X6_in fs_X6_in ml_X6_38 (by decide) rfl rfl (by simp [kcat]) dX6_stage_30 ?_
      refine kCT.mono h (fun v M5 h => ?_)
      obtain ⟨r6, rfl, h⟩ := h
      change kWP l (rg_m, g) mX6_stage 33 [(0, .inr (.inr (0, 0))), (1, .inl x1), (2, .inl x2), (3, .inl x3)] [.inl r6] M5 (kqi Q)
      refine kwp_if_ne (pc := 33) 38 dX6_stage_33 (by decide) (fun hc => ?_) (fun hc => ?_)
      · have h := h.1 hc
        refine kwp_aload_n (pc := 38) 0 rfl dX6_stage_38 rfl ?_
        refine kwp_getc (pc := 39) fl_X6_7 rfl rfl dX6_stage_39 ?_
        refine kwp_bipush (pc := 42) dX6_stage_42 bp_21 ?_
        refine kwp_iald (pc := 44) rfl (show vp_in (21 : Int32) 483 by unfold vp_in; decide) dX6_stage_44 ?_
        refine kwp_bipush (pc := 45) dX6_stage_45 bp_8 ?_
        refine kwp_icmp_ne (pc := 47) 53 dX6_stage_47 (by decide) (fun hc => ?_) (fun hc => ?_)
        · have h := h.1 hc
          refine kwp_aload_n (pc := 53) 0 rfl dX6_stage_53 rfl ?_
          refine kwp_getc (pc := 54) fl_X6_7 rfl rfl dX6_stage_54 ?_
          refine kwp_bipush (pc := 57) dX6_stage_57 bp_21 ?_
          refine kwp_iald (pc := 59) rfl (show vp_in (21 : Int32) 483 by unfold vp_in; decide) dX6_stage_59 ?_
          obtain ⟨z7, ez7⟩ : ∃ z : Int32, z = M5.1 1 0 (21 : Int32).toNatClampNeg := ⟨_, rfl⟩
          rw [← ez7]
          have h := h z7 ez7
          refine kwp_istore (pc := 60) (ls2 := [(4, .inl z7), (0, .inr (.inr (0, 0))), (1, .inl x1), (2, .inl x2), (3, .inl x3)]) dX6_stage_60 (by decide) rfl ?_
          refine kwp_aload_n (pc := 62) 1 rfl dX6_stage_62 rfl ?_
          refine kwp_getc (pc := 63) fl_X6_7 rfl rfl dX6_stage_63 ?_
          refine kwp_bipush (pc := 66) dX6_stage_66 bp_24 ?_
          refine kwp_iload (pc := 68) 0 rfl dX6_stage_68 ?_
          refine kwp_iadd (pc := 70) dX6_stage_70 ?_
          refine kwp_iload_n (pc := 71) 2 rfl dX6_stage_71 rfl ?_
          obtain ⟨hin, h⟩ := h
          refine kwp_iast (pc := 72) rfl hin dX6_stage_72 ?_
          obtain ⟨M8, eM8⟩ : ∃ z : kM, z = ku M5 1 0 ((24 : Int32) + z7).toNatClampNeg x1 := ⟨_, rfl⟩
          rw [← eM8]
          have h := h M8 eM8
          refine kwp_aload_n (pc := 73) 1 rfl dX6_stage_73 rfl ?_
          refine kwp_getc (pc := 74) fl_X6_7 rfl rfl dX6_stage_74 ?_
          refine kwp_bipush (pc := 77) dX6_stage_77 bp_32 ?_
          refine kwp_iload (pc := 79) 0 rfl dX6_stage_79 ?_
          refine kwp_iadd (pc := 81) dX6_stage_81 ?_
          refine kwp_iload_n (pc := 82) 3 rfl dX6_stage_82 rfl ?_
          obtain ⟨hin, h⟩ := h
          refine kwp_iast (pc := 83) rfl hin dX6_stage_83 ?_
          obtain ⟨M9, eM9⟩ : ∃ z : kM, z = ku M8 1 0 ((32 : Int32) + z7).toNatClampNeg x2 := ⟨_, rfl⟩
          rw [← eM9]
          have h := h M9 eM9
          refine kwp_aload_n (pc := 84) 1 rfl dX6_stage_84 rfl ?_
          refine kwp_getc (pc := 85) fl_X6_7 rfl rfl dX6_stage_85 ?_
          refine kwp_iconst (pc := 88) dX6_stage_88 ic_0 ?_
          refine kwp_iload (pc := 89) 0 rfl dX6_stage_89 ?_
          refine kwp_iadd (pc := 91) dX6_stage_91 ?_
          refine kwp_iload_n (pc := 92) 4 rfl dX6_stage_92 rfl ?_
          obtain ⟨hin, h⟩ := h
          refine kwp_iast (pc := 93) rfl hin dX6_stage_93 ?_
          obtain ⟨M10, eM10⟩ : ∃ z : kM, z = ku M9 1 0 ((0 : Int32) + z7).toNatClampNeg x3 := ⟨_, rfl⟩
          rw [← eM10]
          have h := h M10 eM10
          refine kwp_aload_n (pc := 94) 1 rfl dX6_stage_94 rfl ?_
          refine kwp_getc (pc := 95) fl_X6_7 rfl rfl dX6_stage_95 ?_
          refine kwp_bipush (pc := 98) dX6_stage_98 bp_21 ?_
          refine kwp_dup2 (pc := 100) dX6_stage_100 rfl rfl ?_
          refine kwp_iald (pc := 101) rfl (show vp_in (21 : Int32) 483 by unfold vp_in; decide) dX6_stage_101 ?_
          refine kwp_iconst (pc := 102) dX6_stage_102 ic_1 ?_
          refine kwp_iadd (pc := 103) dX6_stage_103 ?_
          refine kwp_iast (pc := 104) rfl (show vp_in (21 : Int32) 483 by unfold vp_in; decide) dX6_stage_104 ?_
          obtain ⟨M11, eM11⟩ : ∃ z : kM, z = ku M10 1 0 (21 : Int32).toNatClampNeg ((M10.1 1 0 (21 : Int32).toNatClampNeg) + 1) := ⟨_, rfl⟩
          rw [← eM11]
          have h := h M11 eM11
          refine kwp_aload_n (pc := 105) 1 rfl dX6_stage_105 rfl ?_
          refine kwp_getc (pc := 106) fl_X6_7 rfl rfl dX6_stage_106 ?_
          refine kwp_bipush (pc := 109) dX6_stage_109 bp_48 ?_
          refine kwp_iconst (pc := 111) dX6_stage_111 ic_0 ?_
          refine kwp_iast (pc := 112) rfl (show vp_in (48 : Int32) 483 by unfold vp_in; decide) dX6_stage_112 ?_
          obtain ⟨M12, eM12⟩ : ∃ z : kM, z = ku M11 1 0 (48 : Int32).toNatClampNeg 0 := ⟨_, rfl⟩
          rw [← eM12]
          have h := h M12 eM12
          refine kwp_iload (pc := 113) 0 rfl dX6_stage_113 ?_
          exact kwp_iret (pc := 115) rfl dX6_stage_115 ⟨_, rfl, h⟩
        · have h := h.2 hc
          refine kwp_bipush (pc := 50) dX6_stage_50 bp_m3 ?_
          exact kwp_iret (pc := 52) rfl dX6_stage_52 ⟨_, rfl, h⟩
      · have h := h.2 hc
        refine kwp_sub [] rfl ?_
        exact h

set_option maxRecDepth 20000 in
theorem bX6_stage_36 {l : Launch} {g : va_G × (Nat → ClassId) × (Nat → Nat → Nat)}  (M : kM) (Q : Int32 → kM → Prop)
    (h : Q (-1) M) :
    kWP l (rg_m, g) mX6_stage 36 [] [] M (kqi Q) := by
  refine kwp_iconst (pc := 36) dX6_stage_36 ic_m1 ?_
  exact kwp_iret (pc := 37) rfl dX6_stage_37 ⟨_, rfl, h⟩

set_option maxRecDepth 20000 in
theorem bX6_rider_0 {l : Launch} {g : va_G × (Nat → ClassId) × (Nat → Nat → Nat)} (x1 : Int32) (x2 : Int32) (x3 : Int32) (M : kM) (Q : Int32 → kM → Prop)
    (h : kCT l (rg_m, g) mX6_in [.inr (.inl (x1.toInt64)), .inr (.inl 0), .inr (.inl 4)] M (kqi (fun r2 M1 => ((r2 = 0 → kWP l (rg_m, g) mX6_rider 36 [] [] M1 (kqi Q)) ∧ (¬ r2 = 0 → kCT l (rg_m, g) mX6_in [.inr (.inl (x2.toInt64)), .inr (.inl 0), .inr (.inl 999)] M1 (kqi (fun r4 M3 => ((r4 = 0 → kWP l (rg_m, g) mX6_rider 36 [] [] M3 (kqi Q)) ∧ (¬ r4 = 0 → kCT l (rg_m, g) mX6_in [.inr (.inl (x3.toInt64)), .inr (.inl 0), .inr (.inl 99)] M3 (kqi (fun r6 M5 => ((¬ r6 = 0 → ((¬ (M5.1 1 0 (22 : Int32).toNatClampNeg) = 4 → ∀ z7 : Int32, z7 = M5.1 1 0 (22 : Int32).toNatClampNeg → vp_in ((40 : Int32) + z7) 483 ∧ (∀ M8 : kM, M8 = ku M5 1 0 ((40 : Int32) + z7).toNatClampNeg x1 → vp_in ((12 : Int32) + z7) 483 ∧ (∀ M9 : kM, M9 = ku M8 1 0 ((12 : Int32) + z7).toNatClampNeg x2 → vp_in ((16 : Int32) + z7) 483 ∧ (∀ M10 : kM, M10 = ku M9 1 0 ((16 : Int32) + z7).toNatClampNeg x3 → vp_in ((8 : Int32) + z7) 483 ∧ (∀ M11 : kM, M11 = ku M10 1 0 ((8 : Int32) + z7).toNatClampNeg 0 → vp_in ((44 : Int32) + z7) 483 ∧ (∀ M12 : kM, M12 = ku M11 1 0 ((44 : Int32) + z7).toNatClampNeg 0 → ∀ M13 : kM, M13 = ku M12 1 0 (22 : Int32).toNatClampNeg ((M12.1 1 0 (22 : Int32).toNatClampNeg) + 1) → ∀ M14 : kM, M14 = ku M13 1 0 (48 : Int32).toNatClampNeg 0 → Q z7 M14)))))) ∧ ((M5.1 1 0 (22 : Int32).toNatClampNeg) = 4 → Q (-3) M5))) ∧ (r6 = 0 → kWP l (rg_m, g) mX6_rider 36 [] [] M5 (kqi Q)))))))))))))) :
    kWP l (rg_m, g) mX6_rider 0 [(0, .inr (.inr (0, 0))), (1, .inl x1), (2, .inl x2), (3, .inl x3)] [] M (kqi Q) := by
  refine kwp_iload_n (pc := 0) 1 rfl dX6_rider_0 rfl ?_
  refine kwp_i2l (pc := 1) dX6_rider_1 ?_
  refine kwp_lconst (pc := 2) (v := 0) dX6_rider_2 (by decide) ?_
  refine kwp_ldc2 (pc := 3) cn_X6_48 dX6_rider_3 ?_
  refine kwp_callS (pc := 6) (Y := mX6_in) (vs := [.inr (.inl (x1.toInt64)), .inr (.inl 0), .inr (.inl 4)]) (rest := []) fm_X6_in fs_X6_in ml_X6_38 (by decide) rfl rfl (by simp [kcat]) dX6_rider_6 ?_
  refine kCT.mono h (fun v M1 h => ?_)
  obtain ⟨r2, rfl, h⟩ := h
  change kWP l (rg_m, g) mX6_rider 9 [(0, .inr (.inr (0, 0))), (1, .inl x1), (2, .inl x2), (3, .inl x3)] [.inl r2] M1 (kqi Q)
  refine kwp_if_eq (pc := 9) 36 dX6_rider_9 (by decide) (fun hc => ?_) (fun hc => ?_)
  · have h := h.1 hc
    refine kwp_sub [] rfl ?_
    exact h
  · have h := h.2 hc
    refine kwp_iload_n (pc := 12) 2 rfl dX6_rider_12 rfl ?_
    refine kwp_i2l (pc := 13) dX6_rider_13 ?_
    refine kwp_lconst (pc := 14) (v := 0) dX6_rider_14 (by decide) ?_
    refine kwp_ldc2 (pc := 15) cn_X6_50 dX6_rider_15 ?_
    refine kwp_callS (pc := 18) (Y := mX6_in) (vs := [.inr (.inl (x2.toInt64)), .inr (.inl 0), .inr (.inl 999)]) (rest := []) fm_X6_in fs_X6_in ml_X6_38 (by decide) rfl rfl (by simp [kcat]) dX6_rider_18 ?_
    refine kCT.mono h (fun v M3 h => ?_)
    obtain ⟨r4, rfl, h⟩ := h
    change kWP l (rg_m, g) mX6_rider 21 [(0, .inr (.inr (0, 0))), (1, .inl x1), (2, .inl x2), (3, .inl x3)] [.inl r4] M3 (kqi Q)
    refine kwp_if_eq (pc := 21) 36 dX6_rider_21 (by decide) (fun hc => ?_) (fun hc => ?_)
    · have h := h.1 hc
      refine kwp_sub [] rfl ?_
      exact h
    · have h := h.2 hc
      refine kwp_iload_n (pc := 24) 3 rfl dX6_rider_24 rfl ?_
      refine kwp_i2l (pc := 25) dX6_rider_25 ?_
      refine kwp_lconst (pc := 26) (v := 0) dX6_rider_26 (by decide) ?_
      refine kwp_ldc2 (pc := 27) cn_X6_52 dX6_rider_27 ?_
      refine kwp_callS (pc := 30) (Y := mX6_in) (vs := [.inr (.inl (x3.toInt64)), .inr (.inl 0), .inr (.inl 99)]) (rest := []) fm_X6_in fs_X6_in ml_X6_38 (by decide) rfl rfl (by simp [kcat]) dX6_rider_30 ?_
      refine kCT.mono h (fun v M5 h => ?_)
      obtain ⟨r6, rfl, h⟩ := h
      change kWP l (rg_m, g) mX6_rider 33 [(0, .inr (.inr (0, 0))), (1, .inl x1), (2, .inl x2), (3, .inl x3)] [.inl r6] M5 (kqi Q)
      refine kwp_if_ne (pc := 33) 38 dX6_rider_33 (by decide) (fun hc => ?_) (fun hc => ?_)
      · have h := h.1 hc
        refine kwp_aload_n (pc := 38) 0 rfl dX6_rider_38 rfl ?_
        refine kwp_getc (pc := 39) fl_X6_7 rfl rfl dX6_rider_39 ?_
        refine kwp_bipush (pc := 42) dX6_rider_42 bp_22 ?_
        refine kwp_iald (pc := 44) rfl (show vp_in (22 : Int32) 483 by unfold vp_in; decide) dX6_rider_44 ?_
        refine kwp_iconst (pc := 45) dX6_rider_45 ic_4 ?_
        refine kwp_icmp_ne (pc := 46) 52 dX6_rider_46 (by decide) (fun hc => ?_) (fun hc => ?_)
        · have h := h.1 hc
          refine kwp_aload_n (pc := 52) 0 rfl dX6_rider_52 rfl ?_
          refine kwp_getc (pc := 53) fl_X6_7 rfl rfl dX6_rider_53 ?_
          refine kwp_bipush (pc := 56) dX6_rider_56 bp_22 ?_
          refine kwp_iald (pc := 58) rfl (show vp_in (22 : Int32) 483 by unfold vp_in; decide) dX6_rider_58 ?_
          obtain ⟨z7, ez7⟩ : ∃ z : Int32, z = M5.1 1 0 (22 : Int32).toNatClampNeg := ⟨_, rfl⟩
          rw [← ez7]
          have h := h z7 ez7
          refine kwp_istore (pc := 59) (ls2 := [(4, .inl z7), (0, .inr (.inr (0, 0))), (1, .inl x1), (2, .inl x2), (3, .inl x3)]) dX6_rider_59 (by decide) rfl ?_
          refine kwp_aload_n (pc := 61) 1 rfl dX6_rider_61 rfl ?_
          refine kwp_getc (pc := 62) fl_X6_7 rfl rfl dX6_rider_62 ?_
          refine kwp_bipush (pc := 65) dX6_rider_65 bp_40 ?_
          refine kwp_iload (pc := 67) 0 rfl dX6_rider_67 ?_
          refine kwp_iadd (pc := 69) dX6_rider_69 ?_
          refine kwp_iload_n (pc := 70) 2 rfl dX6_rider_70 rfl ?_
          obtain ⟨hin, h⟩ := h
          refine kwp_iast (pc := 71) rfl hin dX6_rider_71 ?_
          obtain ⟨M8, eM8⟩ : ∃ z : kM, z = ku M5 1 0 ((40 : Int32) + z7).toNatClampNeg x1 := ⟨_, rfl⟩
          rw [← eM8]
          have h := h M8 eM8
          refine kwp_aload_n (pc := 72) 1 rfl dX6_rider_72 rfl ?_
          refine kwp_getc (pc := 73) fl_X6_7 rfl rfl dX6_rider_73 ?_
          refine kwp_bipush (pc := 76) dX6_rider_76 bp_12 ?_
          refine kwp_iload (pc := 78) 0 rfl dX6_rider_78 ?_
          refine kwp_iadd (pc := 80) dX6_rider_80 ?_
          refine kwp_iload_n (pc := 81) 3 rfl dX6_rider_81 rfl ?_
          obtain ⟨hin, h⟩ := h
          refine kwp_iast (pc := 82) rfl hin dX6_rider_82 ?_
          obtain ⟨M9, eM9⟩ : ∃ z : kM, z = ku M8 1 0 ((12 : Int32) + z7).toNatClampNeg x2 := ⟨_, rfl⟩
          rw [← eM9]
          have h := h M9 eM9
          refine kwp_aload_n (pc := 83) 1 rfl dX6_rider_83 rfl ?_
          refine kwp_getc (pc := 84) fl_X6_7 rfl rfl dX6_rider_84 ?_
          refine kwp_bipush (pc := 87) dX6_rider_87 bp_16 ?_
          refine kwp_iload (pc := 89) 0 rfl dX6_rider_89 ?_
          refine kwp_iadd (pc := 91) dX6_rider_91 ?_
          refine kwp_iload_n (pc := 92) 4 rfl dX6_rider_92 rfl ?_
          obtain ⟨hin, h⟩ := h
          refine kwp_iast (pc := 93) rfl hin dX6_rider_93 ?_
          obtain ⟨M10, eM10⟩ : ∃ z : kM, z = ku M9 1 0 ((16 : Int32) + z7).toNatClampNeg x3 := ⟨_, rfl⟩
          rw [← eM10]
          have h := h M10 eM10
          refine kwp_aload_n (pc := 94) 1 rfl dX6_rider_94 rfl ?_
          refine kwp_getc (pc := 95) fl_X6_7 rfl rfl dX6_rider_95 ?_
          refine kwp_bipush (pc := 98) dX6_rider_98 bp_8 ?_
          refine kwp_iload (pc := 100) 0 rfl dX6_rider_100 ?_
          refine kwp_iadd (pc := 102) dX6_rider_102 ?_
          refine kwp_iconst (pc := 103) dX6_rider_103 ic_0 ?_
          obtain ⟨hin, h⟩ := h
          refine kwp_iast (pc := 104) rfl hin dX6_rider_104 ?_
          obtain ⟨M11, eM11⟩ : ∃ z : kM, z = ku M10 1 0 ((8 : Int32) + z7).toNatClampNeg 0 := ⟨_, rfl⟩
          rw [← eM11]
          have h := h M11 eM11
          refine kwp_aload_n (pc := 105) 1 rfl dX6_rider_105 rfl ?_
          refine kwp_getc (pc := 106) fl_X6_7 rfl rfl dX6_rider_106 ?_
          refine kwp_bipush (pc := 109) dX6_rider_109 bp_44 ?_
          refine kwp_iload (pc := 111) 0 rfl dX6_rider_111 ?_
          refine kwp_iadd (pc := 113) dX6_rider_113 ?_
          refine kwp_iconst (pc := 114) dX6_rider_114 ic_0 ?_
          obtain ⟨hin, h⟩ := h
          refine kwp_iast (pc := 115) rfl hin dX6_rider_115 ?_
          obtain ⟨M12, eM12⟩ : ∃ z : kM, z = ku M11 1 0 ((44 : Int32) + z7).toNatClampNeg 0 := ⟨_, rfl⟩
          rw [← eM12]
          have h := h M12 eM12
          refine kwp_aload_n (pc := 116) 1 rfl dX6_rider_116 rfl ?_
          refine kwp_getc (pc := 117) fl_X6_7 rfl rfl dX6_rider_117 ?_
          refine kwp_bipush (pc := 120) dX6_rider_120 bp_22 ?_
          refine kwp_dup2 (pc := 122) dX6_rider_122 rfl rfl ?_
          refine kwp_iald (pc := 123) rfl (show vp_in (22 : Int32) 483 by unfold vp_in; decide) dX6_rider_123 ?_
          refine kwp_iconst (pc := 124) dX6_rider_124 ic_1 ?_
          refine kwp_iadd (pc := 125) dX6_rider_125 ?_
          refine kwp_iast (pc := 126) rfl (show vp_in (22 : Int32) 483 by unfold vp_in; decide) dX6_rider_126 ?_
          obtain ⟨M13, eM13⟩ : ∃ z : kM, z = ku M12 1 0 (22 : Int32).toNatClampNeg ((M12.1 1 0 (22 : Int32).toNatClampNeg) + 1) := ⟨_, rfl⟩
          rw [← eM13]
          have h := h M13 eM13
          refine kwp_aload_n (pc := 127) 1 rfl dX6_rider_127 rfl ?_
          refine kwp_getc (pc := 128) fl_X6_7 rfl rfl dX6_rider_128 ?_
          refine kwp_bipush (pc := 131) dX6_rider_131 bp_48 ?_
          refine kwp_iconst (pc := 133) dX6_rider_133 ic_0 ?_
          refine kwp_iast (pc := 134) rfl (show vp_in (48 : Int32) 483 by unfold vp_in; decide) dX6_rider_134 ?_
          obtain ⟨M14, eM14⟩ : ∃ z : kM, z = ku M13 1 0 (48 : Int32).toNatClampNeg 0 := ⟨_, rfl⟩
          rw [← eM14]
          have h := h M14 eM14
          refine kwp_iload (pc := 135) 0 rfl dX6_rider_135 ?_
          exact kwp_iret (pc := 137) rfl dX6_rider_137 ⟨_, rfl, h⟩
        · have h := h.2 hc
          refine kwp_bipush (pc := 49) dX6_rider_49 bp_m3 ?_
          exact kwp_iret (pc := 51) rfl dX6_rider_51 ⟨_, rfl, h⟩
      · have h := h.2 hc
        refine kwp_sub [] rfl ?_
        exact h

set_option maxRecDepth 20000 in
theorem bX6_rider_36 {l : Launch} {g : va_G × (Nat → ClassId) × (Nat → Nat → Nat)}  (M : kM) (Q : Int32 → kM → Prop)
    (h : Q (-1) M) :
    kWP l (rg_m, g) mX6_rider 36 [] [] M (kqi Q) := by
  refine kwp_iconst (pc := 36) dX6_rider_36 ic_m1 ?_
  exact kwp_iret (pc := 37) rfl dX6_rider_37 ⟨_, rfl, h⟩

set_option maxRecDepth 20000 in
theorem bX6_of_0 {l : Launch} {g : va_G × (Nat → ClassId) × (Nat → Nat → Nat)} (x1 : Int32) (x2 : Int32) (M : kM) (Q : Int32 → kM → Prop)
    (h : kCT l (rg_m, g) mX6_in [.inr (.inl (x1.toInt64)), .inr (.inl 0), .inr (.inl (((M.1 1 0 (21 : Int32).toNatClampNeg) - 1).toInt64))] M (kqi (fun r2 M1 => ((¬ r2 = 0 → ((¬ x2 = 0 → ((¬ x2 = 1 → ((¬ x2 = 2 → kWP l (rg_m, g) mX6_of 71 [] [.inl (-1)] M1 (kqi Q)) ∧ (x2 = 2 → vp_in ((0 : Int32) + x1) 483 ∧ (kWP l (rg_m, g) mX6_of 71 [] [.inl (M1.1 1 0 ((0 : Int32) + x1).toNatClampNeg)] M1 (kqi Q))))) ∧ (x2 = 1 → vp_in ((32 : Int32) + x1) 483 ∧ (kWP l (rg_m, g) mX6_of 71 [] [.inl (M1.1 1 0 ((32 : Int32) + x1).toNatClampNeg)] M1 (kqi Q))))) ∧ (x2 = 0 → vp_in ((24 : Int32) + x1) 483 ∧ (kWP l (rg_m, g) mX6_of 71 [] [.inl (M1.1 1 0 ((24 : Int32) + x1).toNatClampNeg)] M1 (kqi Q))))) ∧ (r2 = 0 → Q (-1) M1))))) :
    kWP l (rg_m, g) mX6_of 0 [(0, .inr (.inr (0, 0))), (1, .inl x1), (2, .inl x2)] [] M (kqi Q) := by
  refine kwp_iload_n (pc := 0) 1 rfl dX6_of_0 rfl ?_
  refine kwp_i2l (pc := 1) dX6_of_1 ?_
  refine kwp_lconst (pc := 2) (v := 0) dX6_of_2 (by decide) ?_
  refine kwp_aload_n (pc := 3) 0 rfl dX6_of_3 rfl ?_
  refine kwp_getc (pc := 4) fl_X6_7 rfl rfl dX6_of_4 ?_
  refine kwp_bipush (pc := 7) dX6_of_7 bp_21 ?_
  refine kwp_iald (pc := 9) rfl (show vp_in (21 : Int32) 483 by unfold vp_in; decide) dX6_of_9 ?_
  refine kwp_iconst (pc := 10) dX6_of_10 ic_1 ?_
  refine kwp_isub (pc := 11) dX6_of_11 ?_
  refine kwp_i2l (pc := 12) dX6_of_12 ?_
  refine kwp_callS (pc := 13) (Y := mX6_in) (vs := [.inr (.inl (x1.toInt64)), .inr (.inl 0), .inr (.inl (((M.1 1 0 (21 : Int32).toNatClampNeg) - 1).toInt64))]) (rest := []) fm_X6_in fs_X6_in ml_X6_38 (by decide) rfl rfl (by simp [kcat]) dX6_of_13 ?_
  refine kCT.mono h (fun v M1 h => ?_)
  obtain ⟨r2, rfl, h⟩ := h
  change kWP l (rg_m, g) mX6_of 16 [(0, .inr (.inr (0, 0))), (1, .inl x1), (2, .inl x2)] [.inl r2] M1 (kqi Q)
  refine kwp_if_ne (pc := 16) 21 dX6_of_16 (by decide) (fun hc => ?_) (fun hc => ?_)
  · have h := h.1 hc
    refine kwp_iload_n (pc := 21) 2 rfl dX6_of_21 rfl ?_
    refine kwp_if_ne (pc := 22) 37 dX6_of_22 (by decide) (fun hc => ?_) (fun hc => ?_)
    · have h := h.1 hc
      refine kwp_iload_n (pc := 37) 2 rfl dX6_of_37 rfl ?_
      refine kwp_iconst (pc := 38) dX6_of_38 ic_1 ?_
      refine kwp_icmp_ne (pc := 39) 54 dX6_of_39 (by decide) (fun hc => ?_) (fun hc => ?_)
      · have h := h.1 hc
        refine kwp_iload_n (pc := 54) 2 rfl dX6_of_54 rfl ?_
        refine kwp_iconst (pc := 55) dX6_of_55 ic_2 ?_
        refine kwp_icmp_ne (pc := 56) 70 dX6_of_56 (by decide) (fun hc => ?_) (fun hc => ?_)
        · have h := h.1 hc
          refine kwp_iconst (pc := 70) dX6_of_70 ic_m1 ?_
          refine kwp_sub [] rfl ?_
          exact h
        · have h := h.2 hc
          refine kwp_aload_n (pc := 59) 0 rfl dX6_of_59 rfl ?_
          refine kwp_getc (pc := 60) fl_X6_7 rfl rfl dX6_of_60 ?_
          refine kwp_iconst (pc := 63) dX6_of_63 ic_0 ?_
          refine kwp_iload_n (pc := 64) 1 rfl dX6_of_64 rfl ?_
          refine kwp_iadd (pc := 65) dX6_of_65 ?_
          obtain ⟨hin, h⟩ := h
          refine kwp_iald (pc := 66) rfl hin dX6_of_66 ?_
          refine kwp_goto (pc := 67) 71 dX6_of_67 (by decide) ?_
          refine kwp_sub [] rfl ?_
          exact h
      · have h := h.2 hc
        refine kwp_aload_n (pc := 42) 0 rfl dX6_of_42 rfl ?_
        refine kwp_getc (pc := 43) fl_X6_7 rfl rfl dX6_of_43 ?_
        refine kwp_bipush (pc := 46) dX6_of_46 bp_32 ?_
        refine kwp_iload_n (pc := 48) 1 rfl dX6_of_48 rfl ?_
        refine kwp_iadd (pc := 49) dX6_of_49 ?_
        obtain ⟨hin, h⟩ := h
        refine kwp_iald (pc := 50) rfl hin dX6_of_50 ?_
        refine kwp_goto (pc := 51) 71 dX6_of_51 (by decide) ?_
        refine kwp_sub [] rfl ?_
        exact h
    · have h := h.2 hc
      refine kwp_aload_n (pc := 25) 0 rfl dX6_of_25 rfl ?_
      refine kwp_getc (pc := 26) fl_X6_7 rfl rfl dX6_of_26 ?_
      refine kwp_bipush (pc := 29) dX6_of_29 bp_24 ?_
      refine kwp_iload_n (pc := 31) 1 rfl dX6_of_31 rfl ?_
      refine kwp_iadd (pc := 32) dX6_of_32 ?_
      obtain ⟨hin, h⟩ := h
      refine kwp_iald (pc := 33) rfl hin dX6_of_33 ?_
      refine kwp_goto (pc := 34) 71 dX6_of_34 (by decide) ?_
      refine kwp_sub [] rfl ?_
      exact h
  · have h := h.2 hc
    refine kwp_iconst (pc := 19) dX6_of_19 ic_m1 ?_
    exact kwp_iret (pc := 20) rfl dX6_of_20 ⟨_, rfl, h⟩

set_option maxRecDepth 20000 in
theorem bX6_of_71 {l : Launch} {g : va_G × (Nat → ClassId) × (Nat → Nat → Nat)} (s0 : Int32) (M : kM) (Q : Int32 → kM → Prop)
    (h : Q s0 M) :
    kWP l (rg_m, g) mX6_of 71 [] [.inl s0] M (kqi Q) := by
  exact kwp_iret (pc := 71) rfl dX6_of_71 ⟨_, rfl, h⟩

set_option maxRecDepth 20000 in
theorem bX6_takes_0 {l : Launch} {g : va_G × (Nat → ClassId) × (Nat → Nat → Nat)} (x0 : Int32) (x1 : Int32) (x2 : Int32) (M : kM) (Q : Int32 → kM → Prop)
    (h : ((x2 = 0 → kWP l (rg_m, g) mX6_takes 11 [(0, .inl x0), (1, .inl x1), (2, .inl x2)] [.inl 10] M (kqi Q)) ∧ (¬ x2 = 0 → kWP l (rg_m, g) mX6_takes 11 [(0, .inl x0), (1, .inl x1), (2, .inl x2)] [.inl 6] M (kqi Q)))) :
    kWP l (rg_m, g) mX6_takes 0 [(0, .inl x0), (1, .inl x1), (2, .inl x2)] [] M (kqi Q) := by
  refine kwp_iload_n (pc := 0) 2 rfl dX6_takes_0 rfl ?_
  refine kwp_if_eq (pc := 1) 9 dX6_takes_1 (by decide) (fun hc => ?_) (fun hc => ?_)
  · have h := h.1 hc
    refine kwp_bipush (pc := 9) dX6_takes_9 bp_10 ?_
    exact h
  · have h := h.2 hc
    refine kwp_bipush (pc := 4) dX6_takes_4 bp_6 ?_
    refine kwp_goto (pc := 6) 11 dX6_takes_6 (by decide) ?_
    exact h

set_option maxRecDepth 20000 in
theorem bX6_takes_11 {l : Launch} {g : va_G × (Nat → ClassId) × (Nat → Nat → Nat)} (x0 : Int32) (x1 : Int32) (x2 : Int32) (s0 : Int32) (M : kM) (Q : Int32 → kM → Prop)
    (h : ∀ z1 : Int32, z1 = s0 * x1 → ((x0 = 1 → Q (z1 + 5) M) ∧ (x0 = 2 → Q (z1 + (z1 / 2)) M) ∧ (x0 = 3 → ((x2 = 0 → kWP l (rg_m, g) mX6_takes 67 [] [.inl (z1 + (z1 / 2))] M (kqi Q)) ∧ (¬ x2 = 0 → kWP l (rg_m, g) mX6_takes 67 [] [.inl z1] M (kqi Q)))) ∧ (x0 = 4 → ((x2 = 0 → kWP l (rg_m, g) mX6_takes 79 [(1, .inl x1)] [.inl 10] M (kqi Q)) ∧ (¬ x2 = 0 → kWP l (rg_m, g) mX6_takes 79 [(1, .inl x1)] [.inl 6] M (kqi Q)))) ∧ (¬ x0 = 1 → ¬ x0 = 2 → ¬ x0 = 3 → ¬ x0 = 4 → Q z1 M))) :
    kWP l (rg_m, g) mX6_takes 11 [(0, .inl x0), (1, .inl x1), (2, .inl x2)] [.inl s0] M (kqi Q) := by
  refine kwp_iload_n (pc := 11) 1 rfl dX6_takes_11 rfl ?_
  refine kwp_imul (pc := 12) dX6_takes_12 ?_
  obtain ⟨z1, ez1⟩ : ∃ z : Int32, z = s0 * x1 := ⟨_, rfl⟩
  rw [← ez1]
  have h := h z1 ez1
  refine kwp_istore_n (pc := 13) (ls2 := [(3, .inl z1), (0, .inl x0), (1, .inl x1), (2, .inl x2)]) dX6_takes_13 rfl (by decide) rfl ?_
  refine kwp_iload_n (pc := 14) 1 rfl dX6_takes_14 rfl ?_
  by_cases c0 : x0 = 1
  · refine kwp_tsIn (pc := 15) 44 dX6_takes_15 (by rw [c0]; decide) (by rw [c0]; decide) (off := 29) (by rw [c0]; decide) (by decide) ?_
    have h := h.1 c0
    refine kwp_iload_n (pc := 44) 0 rfl dX6_takes_44 rfl ?_
    refine kwp_iconst (pc := 45) dX6_takes_45 ic_5 ?_
    refine kwp_iadd (pc := 46) dX6_takes_46 ?_
    exact kwp_iret (pc := 47) rfl dX6_takes_47 ⟨_, rfl, h⟩
  · have h := h.2
    by_cases c1 : x0 = 2
    · refine kwp_tsIn (pc := 15) 48 dX6_takes_15 (by rw [c1]; decide) (by rw [c1]; decide) (off := 33) (by rw [c1]; decide) (by decide) ?_
      have h := h.1 c1
      refine kwp_iload_n (pc := 48) 0 rfl dX6_takes_48 rfl ?_
      refine kwp_iload_n (pc := 49) 0 rfl dX6_takes_49 rfl ?_
      refine kwp_iconst (pc := 50) dX6_takes_50 ic_2 ?_
      refine kwp_idiv (pc := 51) dX6_takes_51 (by decide) ?_
      refine kwp_iadd (pc := 52) dX6_takes_52 ?_
      exact kwp_iret (pc := 53) rfl dX6_takes_53 ⟨_, rfl, h⟩
    · have h := h.2
      by_cases c2 : x0 = 3
      · refine kwp_tsIn (pc := 15) 54 dX6_takes_15 (by rw [c2]; decide) (by rw [c2]; decide) (off := 39) (by rw [c2]; decide) (by decide) ?_
        have h := h.1 c2
        refine kwp_iload_n (pc := 54) 3 rfl dX6_takes_54 rfl ?_
        refine kwp_if_eq (pc := 55) 62 dX6_takes_55 (by decide) (fun hc => ?_) (fun hc => ?_)
        · have h := h.1 hc
          refine kwp_iload_n (pc := 62) 0 rfl dX6_takes_62 rfl ?_
          refine kwp_iload_n (pc := 63) 0 rfl dX6_takes_63 rfl ?_
          refine kwp_iconst (pc := 64) dX6_takes_64 ic_2 ?_
          refine kwp_idiv (pc := 65) dX6_takes_65 (by decide) ?_
          refine kwp_iadd (pc := 66) dX6_takes_66 ?_
          refine kwp_sub [] rfl ?_
          exact h
        · have h := h.2 hc
          refine kwp_iload_n (pc := 58) 0 rfl dX6_takes_58 rfl ?_
          refine kwp_goto (pc := 59) 67 dX6_takes_59 (by decide) ?_
          refine kwp_sub [] rfl ?_
          exact h
      · have h := h.2
        by_cases c3 : x0 = 4
        · refine kwp_tsIn (pc := 15) 68 dX6_takes_15 (by rw [c3]; decide) (by rw [c3]; decide) (off := 53) (by rw [c3]; decide) (by decide) ?_
          have h := h.1 c3
          refine kwp_iload_n (pc := 68) 3 rfl dX6_takes_68 rfl ?_
          refine kwp_if_eq (pc := 69) 77 dX6_takes_69 (by decide) (fun hc => ?_) (fun hc => ?_)
          · have h := h.1 hc
            refine kwp_bipush (pc := 77) dX6_takes_77 bp_10 ?_
            refine kwp_sub [2] rfl ?_
            exact h
          · have h := h.2 hc
            refine kwp_bipush (pc := 72) dX6_takes_72 bp_6 ?_
            refine kwp_goto (pc := 74) 79 dX6_takes_74 (by decide) ?_
            refine kwp_sub [2] rfl ?_
            exact h
        · have h := h.2
          have h := h c0 c1 c2 c3
          refine kwp_tsOut (pc := 15) 86 dX6_takes_15 (by have a0 := lv_neT c0 (a := 1) (by decide); have a1 := lv_neT c1 (a := 2) (by decide); have a2 := lv_neT c2 (a := 3) (by decide); have a3 := lv_neT c3 (a := 4) (by decide); omega) (by decide) ?_
          refine kwp_iload_n (pc := 86) 0 rfl dX6_takes_86 rfl ?_
          exact kwp_iret (pc := 87) rfl dX6_takes_87 ⟨_, rfl, h⟩

set_option maxRecDepth 20000 in
theorem bX6_takes_67 {l : Launch} {g : va_G × (Nat → ClassId) × (Nat → Nat → Nat)} (s0 : Int32) (M : kM) (Q : Int32 → kM → Prop)
    (h : Q s0 M) :
    kWP l (rg_m, g) mX6_takes 67 [] [.inl s0] M (kqi Q) := by
  exact kwp_iret (pc := 67) rfl dX6_takes_67 ⟨_, rfl, h⟩

set_option maxRecDepth 20000 in
theorem bX6_takes_79 {l : Launch} {g : va_G × (Nat → ClassId) × (Nat → Nat → Nat)} (x1 : Int32) (s0 : Int32) (M : kM) (Q : Int32 → kM → Prop)
    (h : Q ((s0 * (x1 - 1)) + 5) M) :
    kWP l (rg_m, g) mX6_takes 79 [(1, .inl x1)] [.inl s0] M (kqi Q) := by
  refine kwp_iload_n (pc := 79) 0 rfl dX6_takes_79 rfl ?_
  refine kwp_iconst (pc := 80) dX6_takes_80 ic_1 ?_
  refine kwp_isub (pc := 81) dX6_takes_81 ?_
  refine kwp_imul (pc := 82) dX6_takes_82 ?_
  refine kwp_iconst (pc := 83) dX6_takes_83 ic_5 ?_
  refine kwp_iadd (pc := 84) dX6_takes_84 ?_
  exact kwp_iret (pc := 85) rfl dX6_takes_85 ⟨_, rfl, h⟩

set_option maxRecDepth 20000 in
theorem bX6_isThere_0 {l : Launch} {g : va_G × (Nat → ClassId) × (Nat → Nat → Nat)} (x1 : Int32) (x2 : Int32) (M : kM) (Q : Int32 → kM → Prop)
    (h : vp_in ((x1 + 8) + x2) 483 ∧ (vp_in (x1 + 21) 483 ∧ (((¬ (M.1 1 0 ((x1 + 8) + x2).toNatClampNeg) = (M.1 1 0 (x1 + 21).toNatClampNeg) → kWP l (rg_m, g) mX6_isThere 28 [] [.inl 0] M (kqi Q)) ∧ ((M.1 1 0 ((x1 + 8) + x2).toNatClampNeg) = (M.1 1 0 (x1 + 21).toNatClampNeg) → kWP l (rg_m, g) mX6_isThere 28 [] [.inl 1] M (kqi Q)))))) :
    kWP l (rg_m, g) mX6_isThere 0 [(0, .inr (.inr (0, 0))), (1, .inl x1), (2, .inl x2)] [] M (kqi Q) := by
  refine kwp_aload_n (pc := 0) 0 rfl dX6_isThere_0 rfl ?_
  refine kwp_getc (pc := 1) fl_X6_7 rfl rfl dX6_isThere_1 ?_
  refine kwp_iload_n (pc := 4) 1 rfl dX6_isThere_4 rfl ?_
  refine kwp_bipush (pc := 5) dX6_isThere_5 bp_8 ?_
  refine kwp_iadd (pc := 7) dX6_isThere_7 ?_
  refine kwp_iload_n (pc := 8) 2 rfl dX6_isThere_8 rfl ?_
  refine kwp_iadd (pc := 9) dX6_isThere_9 ?_
  obtain ⟨hin, h⟩ := h
  refine kwp_iald (pc := 10) rfl hin dX6_isThere_10 ?_
  refine kwp_aload_n (pc := 11) 0 rfl dX6_isThere_11 rfl ?_
  refine kwp_getc (pc := 12) fl_X6_7 rfl rfl dX6_isThere_12 ?_
  refine kwp_iload_n (pc := 15) 1 rfl dX6_isThere_15 rfl ?_
  refine kwp_bipush (pc := 16) dX6_isThere_16 bp_21 ?_
  refine kwp_iadd (pc := 18) dX6_isThere_18 ?_
  obtain ⟨hin, h⟩ := h
  refine kwp_iald (pc := 19) rfl hin dX6_isThere_19 ?_
  refine kwp_icmp_ne (pc := 20) 27 dX6_isThere_20 (by decide) (fun hc => ?_) (fun hc => ?_)
  · have h := h.1 hc
    refine kwp_iconst (pc := 27) dX6_isThere_27 ic_0 ?_
    refine kwp_sub [] rfl ?_
    exact h
  · have h := h.2 hc
    refine kwp_iconst (pc := 23) dX6_isThere_23 ic_1 ?_
    refine kwp_goto (pc := 24) 28 dX6_isThere_24 (by decide) ?_
    refine kwp_sub [] rfl ?_
    exact h

set_option maxRecDepth 20000 in
theorem bX6_isThere_28 {l : Launch} {g : va_G × (Nat → ClassId) × (Nat → Nat → Nat)} (s0 : Int32) (M : kM) (Q : Int32 → kM → Prop)
    (h : ((s0 = 0 ∨ s0 = 1) ∧ Q s0 M)) :
    kWP l (rg_m, g) mX6_isThere 28 [] [.inl s0] M (kqi Q) := by
  exact kwp_zret (pc := 28) rfl h.1 dX6_isThere_28 ⟨_, rfl, h.2⟩

set_option maxRecDepth 20000 in
theorem bX6_takesNow_0 {l : Launch} {g : va_G × (Nat → ClassId) × (Nat → Nat → Nat)} (x1 : Int32) (x2 : Int32) (M : kM) (Q : Int32 → kM → Prop)
    (h : kCT l (rg_m, g) mX6_isThere [.inr (.inr (0, 0)), .inl 0, .inl x1] M (kqi (fun r2 M1 => ((r2 = 0 → vp_in ((40 : Int32) + x1) 483 ∧ (vp_in ((8 : Int32) + x1) 483 ∧ (vp_in ((24 : Int32) + (M1.1 1 0 ((8 : Int32) + x1).toNatClampNeg)) 483 ∧ (kCT l (rg_m, g) mX6_takes [.inl (M1.1 1 0 ((40 : Int32) + x1).toNatClampNeg), .inl (M1.1 1 0 ((24 : Int32) + (M1.1 1 0 ((8 : Int32) + x1).toNatClampNeg)).toNatClampNeg), .inl x2] M1 (kqi (fun r4 M3 => kWP l (rg_m, g) mX6_takesNow 44 [] [.inl r4] M3 (kqi Q))))))) ∧ (¬ r2 = 0 → kWP l (rg_m, g) mX6_takesNow 44 [] [.inl (-4)] M1 (kqi Q)))))) :
    kWP l (rg_m, g) mX6_takesNow 0 [(0, .inr (.inr (0, 0))), (1, .inl x1), (2, .inl x2)] [] M (kqi Q) := by
  refine kwp_aload_n (pc := 0) 0 rfl dX6_takesNow_0 rfl ?_
  refine kwp_iconst (pc := 1) dX6_takesNow_1 ic_0 ?_
  refine kwp_iload_n (pc := 2) 1 rfl dX6_takesNow_2 rfl ?_
  refine kwp_callV (pc := 3) (Y := mX6_isThere) (vs := [.inl 0, .inl x1]) (rest := []) fm_X6_isThere fi_X6_isThere ml_X6_54 (by decide) rfl rfl rfl rfl (by simp [kcat]) dX6_takesNow_3 ?_
  refine kCT.mono h (fun v M1 h => ?_)
  obtain ⟨r2, rfl, h⟩ := h
  change kWP l (rg_m, g) mX6_takesNow 6 [(0, .inr (.inr (0, 0))), (1, .inl x1), (2, .inl x2)] [.inl r2] M1 (kqi Q)
  refine kwp_if_eq (pc := 6) 14 dX6_takesNow_6 (by decide) (fun hc => ?_) (fun hc => ?_)
  · have h := h.1 hc
    refine kwp_aload_n (pc := 14) 0 rfl dX6_takesNow_14 rfl ?_
    refine kwp_getc (pc := 15) fl_X6_7 rfl rfl dX6_takesNow_15 ?_
    refine kwp_bipush (pc := 18) dX6_takesNow_18 bp_40 ?_
    refine kwp_iload_n (pc := 20) 1 rfl dX6_takesNow_20 rfl ?_
    refine kwp_iadd (pc := 21) dX6_takesNow_21 ?_
    obtain ⟨hin, h⟩ := h
    refine kwp_iald (pc := 22) rfl hin dX6_takesNow_22 ?_
    refine kwp_aload_n (pc := 23) 0 rfl dX6_takesNow_23 rfl ?_
    refine kwp_getc (pc := 24) fl_X6_7 rfl rfl dX6_takesNow_24 ?_
    refine kwp_bipush (pc := 27) dX6_takesNow_27 bp_24 ?_
    refine kwp_aload_n (pc := 29) 0 rfl dX6_takesNow_29 rfl ?_
    refine kwp_getc (pc := 30) fl_X6_7 rfl rfl dX6_takesNow_30 ?_
    refine kwp_bipush (pc := 33) dX6_takesNow_33 bp_8 ?_
    refine kwp_iload_n (pc := 35) 1 rfl dX6_takesNow_35 rfl ?_
    refine kwp_iadd (pc := 36) dX6_takesNow_36 ?_
    obtain ⟨hin, h⟩ := h
    refine kwp_iald (pc := 37) rfl hin dX6_takesNow_37 ?_
    refine kwp_iadd (pc := 38) dX6_takesNow_38 ?_
    obtain ⟨hin, h⟩ := h
    refine kwp_iald (pc := 39) rfl hin dX6_takesNow_39 ?_
    refine kwp_iload_n (pc := 40) 2 rfl dX6_takesNow_40 rfl ?_
    refine kwp_callS (pc := 41) (Y := mX6_takes) (vs := [.inl (M1.1 1 0 ((40 : Int32) + x1).toNatClampNeg), .inl (M1.1 1 0 ((24 : Int32) + (M1.1 1 0 ((8 : Int32) + x1).toNatClampNeg)).toNatClampNeg), .inl x2]) (rest := []) fm_X6_takes fs_X6_takes ml_X6_58 (by decide) rfl rfl (by simp [kcat]) dX6_takesNow_41 ?_
    refine kCT.mono h (fun v M3 h => ?_)
    obtain ⟨r4, rfl, h⟩ := h
    change kWP l (rg_m, g) mX6_takesNow 44 [(0, .inr (.inr (0, 0))), (1, .inl x1), (2, .inl x2)] [.inl r4] M3 (kqi Q)
    refine kwp_sub [] rfl ?_
    exact h
  · have h := h.2 hc
    refine kwp_bipush (pc := 9) dX6_takesNow_9 bp_m4 ?_
    refine kwp_goto (pc := 11) 44 dX6_takesNow_11 (by decide) ?_
    refine kwp_sub [] rfl ?_
    exact h

set_option maxRecDepth 20000 in
theorem bX6_takesNow_44 {l : Launch} {g : va_G × (Nat → ClassId) × (Nat → Nat → Nat)} (s0 : Int32) (M : kM) (Q : Int32 → kM → Prop)
    (h : Q s0 M) :
    kWP l (rg_m, g) mX6_takesNow 44 [] [.inl s0] M (kqi Q) := by
  exact kwp_iret (pc := 44) rfl dX6_takesNow_44 ⟨_, rfl, h⟩

set_option maxRecDepth 20000 in
theorem bX6_at_0 {l : Launch} {g : va_G × (Nat → ClassId) × (Nat → Nat → Nat)} (x1 : Int32) (x2 : Int32) (M : kM) (Q : Int32 → kM → Prop)
    (h : kCT l (rg_m, g) mX6_isRider [.inr (.inr (0, 0)), .inl x1] M (kqi (fun r2 M1 => ((¬ r2 = 0 → ((x2 = 0 → vp_in ((40 : Int32) + x1) 483 ∧ (Q (M1.1 1 0 ((40 : Int32) + x1).toNatClampNeg) M1)) ∧ (x2 = 1 → vp_in ((8 : Int32) + x1) 483 ∧ (Q (M1.1 1 0 ((8 : Int32) + x1).toNatClampNeg) M1)) ∧ (x2 = 2 → vp_in ((12 : Int32) + x1) 483 ∧ (Q (M1.1 1 0 ((12 : Int32) + x1).toNatClampNeg) M1)) ∧ (x2 = 3 → vp_in ((16 : Int32) + x1) 483 ∧ (Q (M1.1 1 0 ((16 : Int32) + x1).toNatClampNeg) M1)) ∧ (x2 = 4 → vp_in ((44 : Int32) + x1) 483 ∧ (Q (M1.1 1 0 ((44 : Int32) + x1).toNatClampNeg) M1)) ∧ (x2 = 5 → kCT l (rg_m, g) mX6_takesNow [.inr (.inr (0, 0)), .inl x1, .inl 1] M1 (kqi (fun r4 M3 => Q r4 M3))) ∧ (x2 = 6 → kCT l (rg_m, g) mX6_takesNow [.inr (.inr (0, 0)), .inl x1, .inl 0] M1 (kqi (fun r6 M5 => Q r6 M5))) ∧ (¬ x2 = 0 → ¬ x2 = 1 → ¬ x2 = 2 → ¬ x2 = 3 → ¬ x2 = 4 → ¬ x2 = 5 → ¬ x2 = 6 → Q (-1) M1))) ∧ (r2 = 0 → Q (-1) M1))))) :
    kWP l (rg_m, g) mX6_at 0 [(0, .inr (.inr (0, 0))), (1, .inl x1), (2, .inl x2)] [] M (kqi Q) := by
  refine kwp_aload_n (pc := 0) 0 rfl dX6_at_0 rfl ?_
  refine kwp_iload_n (pc := 1) 1 rfl dX6_at_1 rfl ?_
  refine kwp_callV (pc := 2) (Y := mX6_isRider) (vs := [.inl x1]) (rest := []) fm_X6_isRider fi_X6_isRider ml_X6_42 (by decide) rfl rfl rfl rfl (by simp [kcat]) dX6_at_2 ?_
  refine kCT.mono h (fun v M1 h => ?_)
  obtain ⟨r2, rfl, h⟩ := h
  change kWP l (rg_m, g) mX6_at 5 [(0, .inr (.inr (0, 0))), (1, .inl x1), (2, .inl x2)] [.inl r2] M1 (kqi Q)
  refine kwp_if_ne (pc := 5) 10 dX6_at_5 (by decide) (fun hc => ?_) (fun hc => ?_)
  · have h := h.1 hc
    refine kwp_iload_n (pc := 10) 2 rfl dX6_at_10 rfl ?_
    by_cases c0 : x2 = 0
    · refine kwp_tsIn (pc := 11) 52 dX6_at_11 (by rw [c0]; decide) (by rw [c0]; decide) (off := 41) (by rw [c0]; decide) (by decide) ?_
      have h := h.1 c0
      refine kwp_aload_n (pc := 52) 0 rfl dX6_at_52 rfl ?_
      refine kwp_getc (pc := 53) fl_X6_7 rfl rfl dX6_at_53 ?_
      refine kwp_bipush (pc := 56) dX6_at_56 bp_40 ?_
      refine kwp_iload_n (pc := 58) 1 rfl dX6_at_58 rfl ?_
      refine kwp_iadd (pc := 59) dX6_at_59 ?_
      obtain ⟨hin, h⟩ := h
      refine kwp_iald (pc := 60) rfl hin dX6_at_60 ?_
      exact kwp_iret (pc := 61) rfl dX6_at_61 ⟨_, rfl, h⟩
    · have h := h.2
      by_cases c1 : x2 = 1
      · refine kwp_tsIn (pc := 11) 62 dX6_at_11 (by rw [c1]; decide) (by rw [c1]; decide) (off := 51) (by rw [c1]; decide) (by decide) ?_
        have h := h.1 c1
        refine kwp_aload_n (pc := 62) 0 rfl dX6_at_62 rfl ?_
        refine kwp_getc (pc := 63) fl_X6_7 rfl rfl dX6_at_63 ?_
        refine kwp_bipush (pc := 66) dX6_at_66 bp_8 ?_
        refine kwp_iload_n (pc := 68) 1 rfl dX6_at_68 rfl ?_
        refine kwp_iadd (pc := 69) dX6_at_69 ?_
        obtain ⟨hin, h⟩ := h
        refine kwp_iald (pc := 70) rfl hin dX6_at_70 ?_
        exact kwp_iret (pc := 71) rfl dX6_at_71 ⟨_, rfl, h⟩
      · have h := h.2
        by_cases c2 : x2 = 2
        · refine kwp_tsIn (pc := 11) 72 dX6_at_11 (by rw [c2]; decide) (by rw [c2]; decide) (off := 61) (by rw [c2]; decide) (by decide) ?_
          have h := h.1 c2
          refine kwp_aload_n (pc := 72) 0 rfl dX6_at_72 rfl ?_
          refine kwp_getc (pc := 73) fl_X6_7 rfl rfl dX6_at_73 ?_
          refine kwp_bipush (pc := 76) dX6_at_76 bp_12 ?_
          refine kwp_iload_n (pc := 78) 1 rfl dX6_at_78 rfl ?_
          refine kwp_iadd (pc := 79) dX6_at_79 ?_
          obtain ⟨hin, h⟩ := h
          refine kwp_iald (pc := 80) rfl hin dX6_at_80 ?_
          exact kwp_iret (pc := 81) rfl dX6_at_81 ⟨_, rfl, h⟩
        · have h := h.2
          by_cases c3 : x2 = 3
          · refine kwp_tsIn (pc := 11) 82 dX6_at_11 (by rw [c3]; decide) (by rw [c3]; decide) (off := 71) (by rw [c3]; decide) (by decide) ?_
            have h := h.1 c3
            refine kwp_aload_n (pc := 82) 0 rfl dX6_at_82 rfl ?_
            refine kwp_getc (pc := 83) fl_X6_7 rfl rfl dX6_at_83 ?_
            refine kwp_bipush (pc := 86) dX6_at_86 bp_16 ?_
            refine kwp_iload_n (pc := 88) 1 rfl dX6_at_88 rfl ?_
            refine kwp_iadd (pc := 89) dX6_at_89 ?_
            obtain ⟨hin, h⟩ := h
            refine kwp_iald (pc := 90) rfl hin dX6_at_90 ?_
            exact kwp_iret (pc := 91) rfl dX6_at_91 ⟨_, rfl, h⟩
          · have h := h.2
            by_cases c4 : x2 = 4
            · refine kwp_tsIn (pc := 11) 92 dX6_at_11 (by rw [c4]; decide) (by rw [c4]; decide) (off := 81) (by rw [c4]; decide) (by decide) ?_
              have h := h.1 c4
              refine kwp_aload_n (pc := 92) 0 rfl dX6_at_92 rfl ?_
              refine kwp_getc (pc := 93) fl_X6_7 rfl rfl dX6_at_93 ?_
              refine kwp_bipush (pc := 96) dX6_at_96 bp_44 ?_
              refine kwp_iload_n (pc := 98) 1 rfl dX6_at_98 rfl ?_
              refine kwp_iadd (pc := 99) dX6_at_99 ?_
              obtain ⟨hin, h⟩ := h
              refine kwp_iald (pc := 100) rfl hin dX6_at_100 ?_
              exact kwp_iret (pc := 101) rfl dX6_at_101 ⟨_, rfl, h⟩
            · have h := h.2
              by_cases c5 : x2 = 5
              · refine kwp_tsIn (pc := 11) 102 dX6_at_11 (by rw [c5]; decide) (by rw [c5]; decide) (off := 91) (by rw [c5]; decide) (by decide) ?_
                have h := h.1 c5
                refine kwp_aload_n (pc := 102) 0 rfl dX6_at_102 rfl ?_
                refine kwp_iload_n (pc := 103) 1 rfl dX6_at_103 rfl ?_
                refine kwp_iconst (pc := 104) dX6_at_104 ic_1 ?_
                refine kwp_callV (pc := 105) (Y := mX6_takesNow) (vs := [.inl x1, .inl 1]) (rest := []) fm_X6_takesNow fi_X6_takesNow ml_X6_62 (by decide) rfl rfl rfl rfl (by simp [kcat]) dX6_at_105 ?_
                refine kCT.mono h (fun v M3 h => ?_)
                obtain ⟨r4, rfl, h⟩ := h
                change kWP l (rg_m, g) mX6_at 108 [(0, .inr (.inr (0, 0))), (1, .inl x1), (2, .inl x2)] [.inl r4] M3 (kqi Q)
                exact kwp_iret (pc := 108) rfl dX6_at_108 ⟨_, rfl, h⟩
              · have h := h.2
                by_cases c6 : x2 = 6
                · refine kwp_tsIn (pc := 11) 109 dX6_at_11 (by rw [c6]; decide) (by rw [c6]; decide) (off := 98) (by rw [c6]; decide) (by decide) ?_
                  have h := h.1 c6
                  refine kwp_aload_n (pc := 109) 0 rfl dX6_at_109 rfl ?_
                  refine kwp_iload_n (pc := 110) 1 rfl dX6_at_110 rfl ?_
                  refine kwp_iconst (pc := 111) dX6_at_111 ic_0 ?_
                  refine kwp_callV (pc := 112) (Y := mX6_takesNow) (vs := [.inl x1, .inl 0]) (rest := []) fm_X6_takesNow fi_X6_takesNow ml_X6_62 (by decide) rfl rfl rfl rfl (by simp [kcat]) dX6_at_112 ?_
                  refine kCT.mono h (fun v M5 h => ?_)
                  obtain ⟨r6, rfl, h⟩ := h
                  change kWP l (rg_m, g) mX6_at 115 [(0, .inr (.inr (0, 0))), (1, .inl x1), (2, .inl x2)] [.inl r6] M5 (kqi Q)
                  exact kwp_iret (pc := 115) rfl dX6_at_115 ⟨_, rfl, h⟩
                · have h := h.2
                  have h := h c0 c1 c2 c3 c4 c5 c6
                  refine kwp_tsOut (pc := 11) 116 dX6_at_11 (by have a0 := lv_neT c0 (a := 0) (by decide); have a1 := lv_neT c1 (a := 1) (by decide); have a2 := lv_neT c2 (a := 2) (by decide); have a3 := lv_neT c3 (a := 3) (by decide); have a4 := lv_neT c4 (a := 4) (by decide); have a5 := lv_neT c5 (a := 5) (by decide); have a6 := lv_neT c6 (a := 6) (by decide); omega) (by decide) ?_
                  refine kwp_iconst (pc := 116) dX6_at_116 ic_m1 ?_
                  exact kwp_iret (pc := 117) rfl dX6_at_117 ⟨_, rfl, h⟩
  · have h := h.2 hc
    refine kwp_iconst (pc := 8) dX6_at_8 ic_m1 ?_
    exact kwp_iret (pc := 9) rfl dX6_at_9 ⟨_, rfl, h⟩

set_option maxRecDepth 20000 in
theorem bX6_buys_0 {l : Launch} {g : va_G × (Nat → ClassId) × (Nat → Nat → Nat)} (x1 : Int32) (x2 : Int32) (M : kM) (Q : Int32 → kM → Prop)
    (h : kCT l (rg_m, g) mX6_isRider [.inr (.inr (0, 0)), .inl x1] M (kqi (fun r2 M1 => ((r2 = 0 → kWP l (rg_m, g) mX6_buys 29 [] [] M1 (kqi Q)) ∧ (¬ r2 = 0 → kCT l (rg_m, g) mX6_in [.inr (.inl (x2.toInt64)), .inr (.inl 0), .inr (.inl ((((1 : Int32) <<< ((M1.1 1 0 (21 : Int32).toNatClampNeg) &&& 31)) - 1).toInt64))] M1 (kqi (fun r4 M3 => ((¬ r4 = 0 → vp_in ((44 : Int32) + x1) 483 ∧ (∀ z5 : Int32, z5 = M3.1 1 0 ((44 : Int32) + x1).toNatClampNeg → vp_in ((44 : Int32) + x1) 483 ∧ (∀ M6 : kM, M6 = ku M3 1 0 ((44 : Int32) + x1).toNatClampNeg x2 → Q z5 M6))) ∧ (r4 = 0 → kWP l (rg_m, g) mX6_buys 29 [] [] M3 (kqi Q)))))))))) :
    kWP l (rg_m, g) mX6_buys 0 [(0, .inr (.inr (0, 0))), (1, .inl x1), (2, .inl x2)] [] M (kqi Q) := by
  refine kwp_aload_n (pc := 0) 0 rfl dX6_buys_0 rfl ?_
  refine kwp_iload_n (pc := 1) 1 rfl dX6_buys_1 rfl ?_
  refine kwp_callV (pc := 2) (Y := mX6_isRider) (vs := [.inl x1]) (rest := []) fm_X6_isRider fi_X6_isRider ml_X6_42 (by decide) rfl rfl rfl rfl (by simp [kcat]) dX6_buys_2 ?_
  refine kCT.mono h (fun v M1 h => ?_)
  obtain ⟨r2, rfl, h⟩ := h
  change kWP l (rg_m, g) mX6_buys 5 [(0, .inr (.inr (0, 0))), (1, .inl x1), (2, .inl x2)] [.inl r2] M1 (kqi Q)
  refine kwp_if_eq (pc := 5) 29 dX6_buys_5 (by decide) (fun hc => ?_) (fun hc => ?_)
  · have h := h.1 hc
    refine kwp_sub [] rfl ?_
    exact h
  · have h := h.2 hc
    refine kwp_iload_n (pc := 8) 2 rfl dX6_buys_8 rfl ?_
    refine kwp_i2l (pc := 9) dX6_buys_9 ?_
    refine kwp_lconst (pc := 10) (v := 0) dX6_buys_10 (by decide) ?_
    refine kwp_iconst (pc := 11) dX6_buys_11 ic_1 ?_
    refine kwp_aload_n (pc := 12) 0 rfl dX6_buys_12 rfl ?_
    refine kwp_getc (pc := 13) fl_X6_7 rfl rfl dX6_buys_13 ?_
    refine kwp_bipush (pc := 16) dX6_buys_16 bp_21 ?_
    refine kwp_iald (pc := 18) rfl (show vp_in (21 : Int32) 483 by unfold vp_in; decide) dX6_buys_18 ?_
    refine kwp_ishl (pc := 19) dX6_buys_19 ?_
    refine kwp_iconst (pc := 20) dX6_buys_20 ic_1 ?_
    refine kwp_isub (pc := 21) dX6_buys_21 ?_
    refine kwp_i2l (pc := 22) dX6_buys_22 ?_
    refine kwp_callS (pc := 23) (Y := mX6_in) (vs := [.inr (.inl (x2.toInt64)), .inr (.inl 0), .inr (.inl ((((1 : Int32) <<< ((M1.1 1 0 (21 : Int32).toNatClampNeg) &&& 31)) - 1).toInt64))]) (rest := []) fm_X6_in fs_X6_in ml_X6_38 (by decide) rfl rfl (by simp [kcat]) dX6_buys_23 ?_
    refine kCT.mono h (fun v M3 h => ?_)
    obtain ⟨r4, rfl, h⟩ := h
    change kWP l (rg_m, g) mX6_buys 26 [(0, .inr (.inr (0, 0))), (1, .inl x1), (2, .inl x2)] [.inl r4] M3 (kqi Q)
    refine kwp_if_ne (pc := 26) 31 dX6_buys_26 (by decide) (fun hc => ?_) (fun hc => ?_)
    · have h := h.1 hc
      refine kwp_aload_n (pc := 31) 0 rfl dX6_buys_31 rfl ?_
      refine kwp_getc (pc := 32) fl_X6_7 rfl rfl dX6_buys_32 ?_
      refine kwp_bipush (pc := 35) dX6_buys_35 bp_44 ?_
      refine kwp_iload_n (pc := 37) 1 rfl dX6_buys_37 rfl ?_
      refine kwp_iadd (pc := 38) dX6_buys_38 ?_
      obtain ⟨hin, h⟩ := h
      refine kwp_iald (pc := 39) rfl hin dX6_buys_39 ?_
      obtain ⟨z5, ez5⟩ : ∃ z : Int32, z = M3.1 1 0 ((44 : Int32) + x1).toNatClampNeg := ⟨_, rfl⟩
      rw [← ez5]
      have h := h z5 ez5
      refine kwp_istore_n (pc := 40) (ls2 := [(3, .inl z5), (0, .inr (.inr (0, 0))), (1, .inl x1), (2, .inl x2)]) dX6_buys_40 rfl (by decide) rfl ?_
      refine kwp_aload_n (pc := 41) 1 rfl dX6_buys_41 rfl ?_
      refine kwp_getc (pc := 42) fl_X6_7 rfl rfl dX6_buys_42 ?_
      refine kwp_bipush (pc := 45) dX6_buys_45 bp_44 ?_
      refine kwp_iload_n (pc := 47) 2 rfl dX6_buys_47 rfl ?_
      refine kwp_iadd (pc := 48) dX6_buys_48 ?_
      refine kwp_iload_n (pc := 49) 3 rfl dX6_buys_49 rfl ?_
      obtain ⟨hin, h⟩ := h
      refine kwp_iast (pc := 50) rfl hin dX6_buys_50 ?_
      obtain ⟨M6, eM6⟩ : ∃ z : kM, z = ku M3 1 0 ((44 : Int32) + x1).toNatClampNeg x2 := ⟨_, rfl⟩
      rw [← eM6]
      have h := h M6 eM6
      refine kwp_iload_n (pc := 51) 0 rfl dX6_buys_51 rfl ?_
      exact kwp_iret (pc := 52) rfl dX6_buys_52 ⟨_, rfl, h⟩
    · have h := h.2 hc
      refine kwp_sub [] rfl ?_
      exact h

set_option maxRecDepth 20000 in
theorem bX6_buys_29 {l : Launch} {g : va_G × (Nat → ClassId) × (Nat → Nat → Nat)}  (M : kM) (Q : Int32 → kM → Prop)
    (h : Q (-1) M) :
    kWP l (rg_m, g) mX6_buys 29 [] [] M (kqi Q) := by
  refine kwp_iconst (pc := 29) dX6_buys_29 ic_m1 ?_
  exact kwp_iret (pc := 30) rfl dX6_buys_30 ⟨_, rfl, h⟩

set_option maxRecDepth 20000 in
theorem bX6_price_0 {l : Launch} {g : va_G × (Nat → ClassId) × (Nat → Nat → Nat)} (x1 : Int32) (M : kM) (Q : Int32 → kM → Prop)
    (h : kCT l (rg_m, g) mX6_in [.inr (.inl (x1.toInt64)), .inr (.inl 1), .inr (.inl 9)] M (kqi (fun r2 M1 => ((¬ r2 = 0 → ∀ z3 : Int32, z3 = M1.1 1 0 (23 : Int32).toNatClampNeg → ∀ M4 : kM, M4 = ku M1 1 0 (23 : Int32).toNatClampNeg x1 → Q z3 M4) ∧ (r2 = 0 → Q (-1) M1))))) :
    kWP l (rg_m, g) mX6_price 0 [(0, .inr (.inr (0, 0))), (1, .inl x1)] [] M (kqi Q) := by
  refine kwp_iload_n (pc := 0) 1 rfl dX6_price_0 rfl ?_
  refine kwp_i2l (pc := 1) dX6_price_1 ?_
  refine kwp_lconst (pc := 2) (v := 1) dX6_price_2 (by decide) ?_
  refine kwp_ldc2 (pc := 3) cn_X6_46 dX6_price_3 ?_
  refine kwp_callS (pc := 6) (Y := mX6_in) (vs := [.inr (.inl (x1.toInt64)), .inr (.inl 1), .inr (.inl 9)]) (rest := []) fm_X6_in fs_X6_in ml_X6_38 (by decide) rfl rfl (by simp [kcat]) dX6_price_6 ?_
  refine kCT.mono h (fun v M1 h => ?_)
  obtain ⟨r2, rfl, h⟩ := h
  change kWP l (rg_m, g) mX6_price 9 [(0, .inr (.inr (0, 0))), (1, .inl x1)] [.inl r2] M1 (kqi Q)
  refine kwp_if_ne (pc := 9) 14 dX6_price_9 (by decide) (fun hc => ?_) (fun hc => ?_)
  · have h := h.1 hc
    refine kwp_aload_n (pc := 14) 0 rfl dX6_price_14 rfl ?_
    refine kwp_getc (pc := 15) fl_X6_7 rfl rfl dX6_price_15 ?_
    refine kwp_bipush (pc := 18) dX6_price_18 bp_23 ?_
    refine kwp_iald (pc := 20) rfl (show vp_in (23 : Int32) 483 by unfold vp_in; decide) dX6_price_20 ?_
    obtain ⟨z3, ez3⟩ : ∃ z : Int32, z = M1.1 1 0 (23 : Int32).toNatClampNeg := ⟨_, rfl⟩
    rw [← ez3]
    have h := h z3 ez3
    refine kwp_istore_n (pc := 21) (ls2 := [(2, .inl z3), (0, .inr (.inr (0, 0))), (1, .inl x1)]) dX6_price_21 rfl (by decide) rfl ?_
    refine kwp_aload_n (pc := 22) 1 rfl dX6_price_22 rfl ?_
    refine kwp_getc (pc := 23) fl_X6_7 rfl rfl dX6_price_23 ?_
    refine kwp_bipush (pc := 26) dX6_price_26 bp_23 ?_
    refine kwp_iload_n (pc := 28) 2 rfl dX6_price_28 rfl ?_
    refine kwp_iast (pc := 29) rfl (show vp_in (23 : Int32) 483 by unfold vp_in; decide) dX6_price_29 ?_
    obtain ⟨M4, eM4⟩ : ∃ z : kM, z = ku M1 1 0 (23 : Int32).toNatClampNeg x1 := ⟨_, rfl⟩
    rw [← eM4]
    have h := h M4 eM4
    refine kwp_iload_n (pc := 30) 0 rfl dX6_price_30 rfl ?_
    exact kwp_iret (pc := 31) rfl dX6_price_31 ⟨_, rfl, h⟩
  · have h := h.2 hc
    refine kwp_iconst (pc := 12) dX6_price_12 ic_m1 ?_
    exact kwp_iret (pc := 13) rfl dX6_price_13 ⟨_, rfl, h⟩

set_option maxRecDepth 20000 in
theorem bX6_type_0 {l : Launch} {g : va_G × (Nat → ClassId) × (Nat → Nat → Nat)} (x1 : Int32) (M : kM) (Q : Int32 → kM → Prop)
    (h : kCT l (rg_m, g) mX6_in [.inr (.inl (x1.toInt64)), .inr (.inl 32), .inr (.inl 126)] M (kqi (fun r2 M1 => ((¬ r2 = 0 → ((¬ (M1.1 0 0 3) = 90 → vp_in (M1.1 0 0 3) 90 ∧ (∀ M3 : kM, M3 = ku M1 2 0 (M1.1 0 0 3).toNatClampNeg x1 → ∀ M4 : kM, M4 = ku M3 0 0 3 ((M3.1 0 0 3) + 1) → Q (M4.1 0 0 3) M4)) ∧ ((M1.1 0 0 3) = 90 → Q (-3) M1))) ∧ (r2 = 0 → Q (-1) M1))))) :
    kWP l (rg_m, g) mX6_type 0 [(0, .inr (.inr (0, 0))), (1, .inl x1)] [] M (kqi Q) := by
  refine kwp_iload_n (pc := 0) 1 rfl dX6_type_0 rfl ?_
  refine kwp_i2l (pc := 1) dX6_type_1 ?_
  refine kwp_ldc2 (pc := 2) cn_X6_66 dX6_type_2 ?_
  refine kwp_ldc2 (pc := 5) cn_X6_68 dX6_type_5 ?_
  refine kwp_callS (pc := 8) (Y := mX6_in) (vs := [.inr (.inl (x1.toInt64)), .inr (.inl 32), .inr (.inl 126)]) (rest := []) fm_X6_in fs_X6_in ml_X6_38 (by decide) rfl rfl (by simp [kcat]) dX6_type_8 ?_
  refine kCT.mono h (fun v M1 h => ?_)
  obtain ⟨r2, rfl, h⟩ := h
  change kWP l (rg_m, g) mX6_type 11 [(0, .inr (.inr (0, 0))), (1, .inl x1)] [.inl r2] M1 (kqi Q)
  refine kwp_if_ne (pc := 11) 16 dX6_type_11 (by decide) (fun hc => ?_) (fun hc => ?_)
  · have h := h.1 hc
    refine kwp_aload_n (pc := 16) 0 rfl dX6_type_16 rfl ?_
    refine kwp_geti (pc := 17) fl_X6_70 rfl rfl dX6_type_17 ?_
    refine kwp_bipush (pc := 20) dX6_type_20 bp_90 ?_
    refine kwp_icmp_ne (pc := 22) 28 dX6_type_22 (by decide) (fun hc => ?_) (fun hc => ?_)
    · have h := h.1 hc
      refine kwp_aload_n (pc := 28) 0 rfl dX6_type_28 rfl ?_
      refine kwp_getc (pc := 29) fl_X6_13 rfl rfl dX6_type_29 ?_
      refine kwp_aload_n (pc := 32) 0 rfl dX6_type_32 rfl ?_
      refine kwp_geti (pc := 33) fl_X6_70 rfl rfl dX6_type_33 ?_
      refine kwp_iload_n (pc := 36) 1 rfl dX6_type_36 rfl ?_
      obtain ⟨hin, h⟩ := h
      refine kwp_iast (pc := 37) rfl hin dX6_type_37 ?_
      obtain ⟨M3, eM3⟩ : ∃ z : kM, z = ku M1 2 0 (M1.1 0 0 3).toNatClampNeg x1 := ⟨_, rfl⟩
      rw [← eM3]
      have h := h M3 eM3
      refine kwp_aload_n (pc := 38) 0 rfl dX6_type_38 rfl ?_
      refine kwp_dup (pc := 39) dX6_type_39 rfl ?_
      refine kwp_geti (pc := 40) fl_X6_70 rfl rfl dX6_type_40 ?_
      refine kwp_iconst (pc := 43) dX6_type_43 ic_1 ?_
      refine kwp_iadd (pc := 44) dX6_type_44 ?_
      refine kwp_put (pc := 45) fp_X6_70 rfl rfl trivial dX6_type_45 ?_
      obtain ⟨M4, eM4⟩ : ∃ z : kM, z = ku M3 0 0 3 ((M3.1 0 0 3) + 1) := ⟨_, rfl⟩
      rw [← eM4]
      have h := h M4 eM4
      refine kwp_aload_n (pc := 48) 0 rfl dX6_type_48 rfl ?_
      refine kwp_geti (pc := 49) fl_X6_70 rfl rfl dX6_type_49 ?_
      exact kwp_iret (pc := 52) rfl dX6_type_52 ⟨_, rfl, h⟩
    · have h := h.2 hc
      refine kwp_bipush (pc := 25) dX6_type_25 bp_m3 ?_
      exact kwp_iret (pc := 27) rfl dX6_type_27 ⟨_, rfl, h⟩
  · have h := h.2 hc
    refine kwp_iconst (pc := 14) dX6_type_14 ic_m1 ?_
    exact kwp_iret (pc := 15) rfl dX6_type_15 ⟨_, rfl, h⟩

set_option maxRecDepth 20000 in
theorem bX6_letterAt_0 {l : Launch} {g : va_G × (Nat → ClassId) × (Nat → Nat → Nat)} (x1 : Int32) (M : kM) (Q : Int32 → kM → Prop)
    (h : (((M.1 0 0 3) ≤ x1 → kWP l (rg_m, g) mX6_letterAt 18 [] [.inl (-1)] M (kqi Q)) ∧ (¬ (M.1 0 0 3) ≤ x1 → vp_in x1 90 ∧ (kWP l (rg_m, g) mX6_letterAt 18 [] [.inl (M.1 2 0 x1.toNatClampNeg)] M (kqi Q))))) :
    kWP l (rg_m, g) mX6_letterAt 0 [(0, .inr (.inr (0, 0))), (1, .inl x1)] [] M (kqi Q) := by
  refine kwp_iload_n (pc := 0) 1 rfl dX6_letterAt_0 rfl ?_
  refine kwp_aload_n (pc := 1) 0 rfl dX6_letterAt_1 rfl ?_
  refine kwp_geti (pc := 2) fl_X6_70 rfl rfl dX6_letterAt_2 ?_
  refine kwp_icmp_ge (pc := 5) 17 dX6_letterAt_5 (by decide) (fun hc => ?_) (fun hc => ?_)
  · have h := h.1 hc
    refine kwp_iconst (pc := 17) dX6_letterAt_17 ic_m1 ?_
    refine kwp_sub [] rfl ?_
    exact h
  · have h := h.2 hc
    refine kwp_aload_n (pc := 8) 0 rfl dX6_letterAt_8 rfl ?_
    refine kwp_getc (pc := 9) fl_X6_13 rfl rfl dX6_letterAt_9 ?_
    refine kwp_iload_n (pc := 12) 1 rfl dX6_letterAt_12 rfl ?_
    obtain ⟨hin, h⟩ := h
    refine kwp_iald (pc := 13) rfl hin dX6_letterAt_13 ?_
    refine kwp_goto (pc := 14) 18 dX6_letterAt_14 (by decide) ?_
    refine kwp_sub [] rfl ?_
    exact h

set_option maxRecDepth 20000 in
theorem bX6_letterAt_18 {l : Launch} {g : va_G × (Nat → ClassId) × (Nat → Nat → Nat)} (s0 : Int32) (M : kM) (Q : Int32 → kM → Prop)
    (h : Q s0 M) :
    kWP l (rg_m, g) mX6_letterAt 18 [] [.inl s0] M (kqi Q) := by
  exact kwp_iret (pc := 18) rfl dX6_letterAt_18 ⟨_, rfl, h⟩

set_option maxRecDepth 20000 in
theorem bX6_here_0 {l : Launch} {g : va_G × (Nat → ClassId) × (Nat → Nat → Nat)}  (M : kM) (Q : Int32 → kM → Prop)
    (h : kCT l (rg_m, g) mX6_letterAt [.inr (.inr (0, 0)), .inl (M.1 0 0 7)] M (kqi (fun r2 M1 => ((¬ r2 = 32 → kCT l (rg_m, g) mX6_letterAt [.inr (.inr (0, 0)), .inl (M1.1 0 0 7)] M1 (kqi (fun r4 M3 => Q r4 M3))) ∧ (r2 = 32 → ∀ M5 : kM, M5 = ku M1 0 0 7 ((M1.1 0 0 7) + 1) → kWP l (rg_m, g) mX6_here 0 [(0, .inr (.inr (0, 0)))] [] M5 (kqi Q)))))) :
    kWP l (rg_m, g) mX6_here 0 [(0, .inr (.inr (0, 0)))] [] M (kqi Q) := by
  refine kwp_aload_n (pc := 0) 0 rfl dX6_here_0 rfl ?_
  refine kwp_aload_n (pc := 1) 0 rfl dX6_here_1 rfl ?_
  refine kwp_geti (pc := 2) fl_X6_74 rfl rfl dX6_here_2 ?_
  refine kwp_callV (pc := 5) (Y := mX6_letterAt) (vs := [.inl (M.1 0 0 7)]) (rest := []) fm_X6_letterAt fi_X6_letterAt ml_X6_77 (by decide) rfl rfl rfl rfl (by simp [kcat]) dX6_here_5 ?_
  refine kCT.mono h (fun v M1 h => ?_)
  obtain ⟨r2, rfl, h⟩ := h
  change kWP l (rg_m, g) mX6_here 8 [(0, .inr (.inr (0, 0)))] [.inl r2] M1 (kqi Q)
  refine kwp_bipush (pc := 8) dX6_here_8 bp_32 ?_
  refine kwp_icmp_ne (pc := 10) 26 dX6_here_10 (by decide) (fun hc => ?_) (fun hc => ?_)
  · have h := h.1 hc
    refine kwp_aload_n (pc := 26) 0 rfl dX6_here_26 rfl ?_
    refine kwp_aload_n (pc := 27) 0 rfl dX6_here_27 rfl ?_
    refine kwp_geti (pc := 28) fl_X6_74 rfl rfl dX6_here_28 ?_
    refine kwp_callV (pc := 31) (Y := mX6_letterAt) (vs := [.inl (M1.1 0 0 7)]) (rest := []) fm_X6_letterAt fi_X6_letterAt ml_X6_77 (by decide) rfl rfl rfl rfl (by simp [kcat]) dX6_here_31 ?_
    refine kCT.mono h (fun v M3 h => ?_)
    obtain ⟨r4, rfl, h⟩ := h
    change kWP l (rg_m, g) mX6_here 34 [(0, .inr (.inr (0, 0)))] [.inl r4] M3 (kqi Q)
    exact kwp_iret (pc := 34) rfl dX6_here_34 ⟨_, rfl, h⟩
  · have h := h.2 hc
    refine kwp_aload_n (pc := 13) 0 rfl dX6_here_13 rfl ?_
    refine kwp_dup (pc := 14) dX6_here_14 rfl ?_
    refine kwp_geti (pc := 15) fl_X6_74 rfl rfl dX6_here_15 ?_
    refine kwp_iconst (pc := 18) dX6_here_18 ic_1 ?_
    refine kwp_iadd (pc := 19) dX6_here_19 ?_
    refine kwp_put (pc := 20) fp_X6_74 rfl rfl trivial dX6_here_20 ?_
    obtain ⟨M5, eM5⟩ : ∃ z : kM, z = ku M1 0 0 7 ((M1.1 0 0 7) + 1) := ⟨_, rfl⟩
    rw [← eM5]
    have h := h M5 eM5
    refine kwp_goto (pc := 23) 0 dX6_here_23 (by decide) ?_
    exact h

set_option maxRecDepth 20000 in
theorem bX6_fails_0 {l : Launch} {g : va_G × (Nat → ClassId) × (Nat → Nat → Nat)} (x1 : Int32) (M : kM) (Q : Int32 → kM → Prop)
    (h : ∀ M1 : kM, M1 = ku M 0 0 8 x1 → Q 0 M1) :
    kWP l (rg_m, g) mX6_fails 0 [(0, .inr (.inr (0, 0))), (1, .inl x1)] [] M (kqi Q) := by
  refine kwp_aload_n (pc := 0) 0 rfl dX6_fails_0 rfl ?_
  refine kwp_iload_n (pc := 1) 1 rfl dX6_fails_1 rfl ?_
  refine kwp_put (pc := 2) fp_X6_81 rfl rfl trivial dX6_fails_2 ?_
  obtain ⟨M1, eM1⟩ : ∃ z : kM, z = ku M 0 0 8 x1 := ⟨_, rfl⟩
  rw [← eM1]
  have h := h M1 eM1
  refine kwp_iconst (pc := 5) dX6_fails_5 ic_0 ?_
  exact kwp_zret (pc := 6) rfl (by decide) dX6_fails_6 ⟨_, rfl, h⟩

set_option maxRecDepth 20000 in
theorem bX6_digit_0 {l : Launch} {g : va_G × (Nat → ClassId) × (Nat → Nat → Nat)} (x1 : Int32) (x2 : Int32) (M : kM) (Q : Int32 → kM → Prop)
    (h : kCT l (rg_m, g) mX6_here [.inr (.inr (0, 0))] M (kqi (fun r2 M1 => ∀ z3 : Int32, z3 = r2 - 48 → kCT l (rg_m, g) mX6_in [.inr (.inl (z3.toInt64)), .inr (.inl (x1.toInt64)), .inr (.inl (x2.toInt64))] M1 (kqi (fun r5 M4 => ((¬ r5 = 0 → ∀ M6 : kM, M6 = ku M4 0 0 7 ((M4.1 0 0 7) + 1) → Q z3 M6) ∧ (r5 = 0 → kCT l (rg_m, g) mX6_fails [.inr (.inr (0, 0)), .inl (M4.1 0 0 7)] M4 (kqi (fun r8 M7 => Q (-1) M7))))))))) :
    kWP l (rg_m, g) mX6_digit 0 [(0, .inr (.inr (0, 0))), (1, .inl x1), (2, .inl x2)] [] M (kqi Q) := by
  refine kwp_aload_n (pc := 0) 0 rfl dX6_digit_0 rfl ?_
  refine kwp_callV (pc := 1) (Y := mX6_here) (vs := []) (rest := []) fm_X6_here fi_X6_here ml_X6_84 (by decide) rfl rfl rfl rfl (by simp [kcat]) dX6_digit_1 ?_
  refine kCT.mono h (fun v M1 h => ?_)
  obtain ⟨r2, rfl, h⟩ := h
  change kWP l (rg_m, g) mX6_digit 4 [(0, .inr (.inr (0, 0))), (1, .inl x1), (2, .inl x2)] [.inl r2] M1 (kqi Q)
  refine kwp_bipush (pc := 4) dX6_digit_4 bp_48 ?_
  refine kwp_isub (pc := 6) dX6_digit_6 ?_
  obtain ⟨z3, ez3⟩ : ∃ z : Int32, z = r2 - 48 := ⟨_, rfl⟩
  rw [← ez3]
  have h := h z3 ez3
  refine kwp_istore_n (pc := 7) (ls2 := [(3, .inl z3), (0, .inr (.inr (0, 0))), (1, .inl x1), (2, .inl x2)]) dX6_digit_7 rfl (by decide) rfl ?_
  refine kwp_iload_n (pc := 8) 0 rfl dX6_digit_8 rfl ?_
  refine kwp_i2l (pc := 9) dX6_digit_9 ?_
  refine kwp_iload_n (pc := 10) 2 rfl dX6_digit_10 rfl ?_
  refine kwp_i2l (pc := 11) dX6_digit_11 ?_
  refine kwp_iload_n (pc := 12) 3 rfl dX6_digit_12 rfl ?_
  refine kwp_i2l (pc := 13) dX6_digit_13 ?_
  refine kwp_callS (pc := 14) (Y := mX6_in) (vs := [.inr (.inl (z3.toInt64)), .inr (.inl (x1.toInt64)), .inr (.inl (x2.toInt64))]) (rest := []) fm_X6_in fs_X6_in ml_X6_38 (by decide) rfl rfl (by simp [kcat]) dX6_digit_14 ?_
  refine kCT.mono h (fun v M4 h => ?_)
  obtain ⟨r5, rfl, h⟩ := h
  change kWP l (rg_m, g) mX6_digit 17 [(3, .inl z3), (0, .inr (.inr (0, 0))), (1, .inl x1), (2, .inl x2)] [.inl r5] M4 (kqi Q)
  refine kwp_if_ne (pc := 17) 31 dX6_digit_17 (by decide) (fun hc => ?_) (fun hc => ?_)
  · have h := h.1 hc
    refine kwp_aload_n (pc := 31) 1 rfl dX6_digit_31 rfl ?_
    refine kwp_dup (pc := 32) dX6_digit_32 rfl ?_
    refine kwp_geti (pc := 33) fl_X6_74 rfl rfl dX6_digit_33 ?_
    refine kwp_iconst (pc := 36) dX6_digit_36 ic_1 ?_
    refine kwp_iadd (pc := 37) dX6_digit_37 ?_
    refine kwp_put (pc := 38) fp_X6_74 rfl rfl trivial dX6_digit_38 ?_
    obtain ⟨M6, eM6⟩ : ∃ z : kM, z = ku M4 0 0 7 ((M4.1 0 0 7) + 1) := ⟨_, rfl⟩
    rw [← eM6]
    have h := h M6 eM6
    refine kwp_iload_n (pc := 41) 0 rfl dX6_digit_41 rfl ?_
    exact kwp_iret (pc := 42) rfl dX6_digit_42 ⟨_, rfl, h⟩
  · have h := h.2 hc
    refine kwp_aload_n (pc := 20) 1 rfl dX6_digit_20 rfl ?_
    refine kwp_aload_n (pc := 21) 1 rfl dX6_digit_21 rfl ?_
    refine kwp_geti (pc := 22) fl_X6_74 rfl rfl dX6_digit_22 ?_
    refine kwp_callV (pc := 25) (Y := mX6_fails) (vs := [.inl (M4.1 0 0 7)]) (rest := []) fm_X6_fails fi_X6_fails ml_X6_88 (by decide) rfl rfl rfl rfl (by simp [kcat]) dX6_digit_25 ?_
    refine kCT.mono h (fun v M7 h => ?_)
    obtain ⟨r8, rfl, h⟩ := h
    change kWP l (rg_m, g) mX6_digit 28 [(3, .inl z3), (0, .inr (.inr (0, 0))), (1, .inl x1), (2, .inl x2)] [.inl r8] M7 (kqi Q)
    refine kwp_pop (pc := 28) dX6_digit_28 rfl ?_
    refine kwp_iconst (pc := 29) dX6_digit_29 ic_m1 ?_
    exact kwp_iret (pc := 30) rfl dX6_digit_30 ⟨_, rfl, h⟩

set_option maxRecDepth 20000 in
theorem bX6_number_0 {l : Launch} {g : va_G × (Nat → ClassId) × (Nat → Nat → Nat)} (x1 : Int32) (M : kM) (Q : Int32 → kM → Prop)
    (h : kCT l (rg_m, g) mX6_here [.inr (.inr (0, 0))] M (kqi (fun r2 M1 => ∀ z3 : Int32, z3 = M1.1 0 0 7 → kWP l (rg_m, g) mX6_number 12 [(0, .inr (.inr (0, 0))), (1, .inl x1), (2, .inl z3), (3, .inl 0)] [] M1 (kqi Q)))) :
    kWP l (rg_m, g) mX6_number 0 [(0, .inr (.inr (0, 0))), (1, .inl x1)] [] M (kqi Q) := by
  refine kwp_aload_n (pc := 0) 0 rfl dX6_number_0 rfl ?_
  refine kwp_callV (pc := 1) (Y := mX6_here) (vs := []) (rest := []) fm_X6_here fi_X6_here ml_X6_84 (by decide) rfl rfl rfl rfl (by simp [kcat]) dX6_number_1 ?_
  refine kCT.mono h (fun v M1 h => ?_)
  obtain ⟨r2, rfl, h⟩ := h
  change kWP l (rg_m, g) mX6_number 4 [(0, .inr (.inr (0, 0))), (1, .inl x1)] [.inl r2] M1 (kqi Q)
  refine kwp_pop (pc := 4) dX6_number_4 rfl ?_
  refine kwp_aload_n (pc := 5) 0 rfl dX6_number_5 rfl ?_
  refine kwp_geti (pc := 6) fl_X6_74 rfl rfl dX6_number_6 ?_
  obtain ⟨z3, ez3⟩ : ∃ z : Int32, z = M1.1 0 0 7 := ⟨_, rfl⟩
  rw [← ez3]
  have h := h z3 ez3
  refine kwp_istore_n (pc := 9) (ls2 := [(2, .inl z3), (0, .inr (.inr (0, 0))), (1, .inl x1)]) dX6_number_9 rfl (by decide) rfl ?_
  refine kwp_iconst (pc := 10) dX6_number_10 ic_0 ?_
  refine kwp_istore_n (pc := 11) (ls2 := [(3, .inl 0), (2, .inl z3), (0, .inr (.inr (0, 0))), (1, .inl x1)]) dX6_number_11 rfl (by decide) rfl ?_
  refine kwp_sub [2, 3, 1, 0] rfl ?_
  exact h

set_option maxRecDepth 20000 in
theorem bX6_number_12 {l : Launch} {g : va_G × (Nat → ClassId) × (Nat → Nat → Nat)} (x1 : Int32) (x2 : Int32) (x3 : Int32) (M : kM) (Q : Int32 → kM → Prop)
    (h : ((3 ≤ ((M.1 0 0 7) - x2) → kWP l (rg_m, g) mX6_number 73 [(0, .inr (.inr (0, 0))), (1, .inl x1), (2, .inl x2), (3, .inl x3)] [] M (kqi Q)) ∧ (¬ 3 ≤ ((M.1 0 0 7) - x2) → kCT l (rg_m, g) mX6_letterAt [.inr (.inr (0, 0)), .inl (M.1 0 0 7)] M (kqi (fun r2 M1 => kCT l (rg_m, g) mX6_in [.inr (.inl (r2.toInt64)), .inr (.inl 48), .inr (.inl 57)] M1 (kqi (fun r4 M3 => ((r4 = 0 → kWP l (rg_m, g) mX6_number 73 [(0, .inr (.inr (0, 0))), (1, .inl x1), (2, .inl x2), (3, .inl x3)] [] M3 (kqi Q)) ∧ (¬ r4 = 0 → kCT l (rg_m, g) mX6_letterAt [.inr (.inr (0, 0)), .inl (M3.1 0 0 7)] M3 (kqi (fun r6 M5 => ∀ z7 : Int32, z7 = (((10 : Int32) * x3) + r6) - 48 → ∀ M8 : kM, M8 = ku M5 0 0 7 ((M5.1 0 0 7) + 1) → kWP l (rg_m, g) mX6_number 12 [(0, .inr (.inr (0, 0))), (1, .inl x1), (2, .inl x2), (3, .inl z7)] [] M8 (kqi Q)))))))))))) :
    kWP l (rg_m, g) mX6_number 12 [(0, .inr (.inr (0, 0))), (1, .inl x1), (2, .inl x2), (3, .inl x3)] [] M (kqi Q) := by
  refine kwp_aload_n (pc := 12) 0 rfl dX6_number_12 rfl ?_
  refine kwp_geti (pc := 13) fl_X6_74 rfl rfl dX6_number_13 ?_
  refine kwp_iload_n (pc := 16) 2 rfl dX6_number_16 rfl ?_
  refine kwp_isub (pc := 17) dX6_number_17 ?_
  refine kwp_iconst (pc := 18) dX6_number_18 ic_3 ?_
  refine kwp_icmp_ge (pc := 19) 73 dX6_number_19 (by decide) (fun hc => ?_) (fun hc => ?_)
  · have h := h.1 hc
    exact h
  · have h := h.2 hc
    refine kwp_aload_n (pc := 22) 0 rfl dX6_number_22 rfl ?_
    refine kwp_aload_n (pc := 23) 0 rfl dX6_number_23 rfl ?_
    refine kwp_geti (pc := 24) fl_X6_74 rfl rfl dX6_number_24 ?_
    refine kwp_callV (pc := 27) (Y := mX6_letterAt) (vs := [.inl (M.1 0 0 7)]) (rest := []) fm_X6_letterAt fi_X6_letterAt ml_X6_77 (by decide) rfl rfl rfl rfl (by simp [kcat]) dX6_number_27 ?_
    refine kCT.mono h (fun v M1 h => ?_)
    obtain ⟨r2, rfl, h⟩ := h
    change kWP l (rg_m, g) mX6_number 30 [(0, .inr (.inr (0, 0))), (1, .inl x1), (2, .inl x2), (3, .inl x3)] [.inl r2] M1 (kqi Q)
    refine kwp_i2l (pc := 30) dX6_number_30 ?_
    refine kwp_ldc2 (pc := 31) cn_X6_91 dX6_number_31 ?_
    refine kwp_ldc2 (pc := 34) cn_X6_93 dX6_number_34 ?_
    refine kwp_callS (pc := 37) (Y := mX6_in) (vs := [.inr (.inl (r2.toInt64)), .inr (.inl 48), .inr (.inl 57)]) (rest := []) fm_X6_in fs_X6_in ml_X6_38 (by decide) rfl rfl (by simp [kcat]) dX6_number_37 ?_
    refine kCT.mono h (fun v M3 h => ?_)
    obtain ⟨r4, rfl, h⟩ := h
    change kWP l (rg_m, g) mX6_number 40 [(0, .inr (.inr (0, 0))), (1, .inl x1), (2, .inl x2), (3, .inl x3)] [.inl r4] M3 (kqi Q)
    refine kwp_if_eq (pc := 40) 73 dX6_number_40 (by decide) (fun hc => ?_) (fun hc => ?_)
    · have h := h.1 hc
      exact h
    · have h := h.2 hc
      refine kwp_bipush (pc := 43) dX6_number_43 bp_10 ?_
      refine kwp_iload_n (pc := 45) 3 rfl dX6_number_45 rfl ?_
      refine kwp_imul (pc := 46) dX6_number_46 ?_
      refine kwp_aload_n (pc := 47) 0 rfl dX6_number_47 rfl ?_
      refine kwp_aload_n (pc := 48) 0 rfl dX6_number_48 rfl ?_
      refine kwp_geti (pc := 49) fl_X6_74 rfl rfl dX6_number_49 ?_
      refine kwp_callV (pc := 52) (Y := mX6_letterAt) (vs := [.inl (M3.1 0 0 7)]) (rest := [.inl ((10 : Int32) * x3)]) fm_X6_letterAt fi_X6_letterAt ml_X6_77 (by decide) rfl rfl rfl rfl (by simp [kcat]) dX6_number_52 ?_
      refine kCT.mono h (fun v M5 h => ?_)
      obtain ⟨r6, rfl, h⟩ := h
      change kWP l (rg_m, g) mX6_number 55 [(0, .inr (.inr (0, 0))), (1, .inl x1), (2, .inl x2), (3, .inl x3)] [.inl r6, .inl ((10 : Int32) * x3)] M5 (kqi Q)
      refine kwp_iadd (pc := 55) dX6_number_55 ?_
      refine kwp_bipush (pc := 56) dX6_number_56 bp_48 ?_
      refine kwp_isub (pc := 58) dX6_number_58 ?_
      obtain ⟨z7, ez7⟩ : ∃ z : Int32, z = (((10 : Int32) * x3) + r6) - 48 := ⟨_, rfl⟩
      rw [← ez7]
      have h := h z7 ez7
      refine kwp_istore_n (pc := 59) (ls2 := [(3, .inl z7), (0, .inr (.inr (0, 0))), (1, .inl x1), (2, .inl x2)]) dX6_number_59 rfl (by decide) rfl ?_
      refine kwp_aload_n (pc := 60) 1 rfl dX6_number_60 rfl ?_
      refine kwp_dup (pc := 61) dX6_number_61 rfl ?_
      refine kwp_geti (pc := 62) fl_X6_74 rfl rfl dX6_number_62 ?_
      refine kwp_iconst (pc := 65) dX6_number_65 ic_1 ?_
      refine kwp_iadd (pc := 66) dX6_number_66 ?_
      refine kwp_put (pc := 67) fp_X6_74 rfl rfl trivial dX6_number_67 ?_
      obtain ⟨M8, eM8⟩ : ∃ z : kM, z = ku M5 0 0 7 ((M5.1 0 0 7) + 1) := ⟨_, rfl⟩
      rw [← eM8]
      have h := h M8 eM8
      refine kwp_goto (pc := 70) 12 dX6_number_70 (by decide) ?_
      refine kwp_sub [1, 2, 3, 0] rfl ?_
      exact h

set_option maxRecDepth 20000 in
theorem bX6_number_73 {l : Launch} {g : va_G × (Nat → ClassId) × (Nat → Nat → Nat)} (x1 : Int32) (x2 : Int32) (x3 : Int32) (M : kM) (Q : Int32 → kM → Prop)
    (h : (((M.1 0 0 7) = x2 → kWP l (rg_m, g) mX6_number 86 [(0, .inr (.inr (0, 0))), (2, .inl x2)] [] M (kqi Q)) ∧ (¬ (M.1 0 0 7) = x2 → ((x3 ≤ x1 → Q x3 M) ∧ (¬ x3 ≤ x1 → kWP l (rg_m, g) mX6_number 86 [(0, .inr (.inr (0, 0))), (2, .inl x2)] [] M (kqi Q)))))) :
    kWP l (rg_m, g) mX6_number 73 [(0, .inr (.inr (0, 0))), (1, .inl x1), (2, .inl x2), (3, .inl x3)] [] M (kqi Q) := by
  refine kwp_aload_n (pc := 73) 0 rfl dX6_number_73 rfl ?_
  refine kwp_geti (pc := 74) fl_X6_74 rfl rfl dX6_number_74 ?_
  refine kwp_iload_n (pc := 77) 2 rfl dX6_number_77 rfl ?_
  refine kwp_icmp_eq (pc := 78) 86 dX6_number_78 (by decide) (fun hc => ?_) (fun hc => ?_)
  · have h := h.1 hc
    refine kwp_sub [0, 2] rfl ?_
    exact h
  · have h := h.2 hc
    refine kwp_iload_n (pc := 81) 3 rfl dX6_number_81 rfl ?_
    refine kwp_iload_n (pc := 82) 1 rfl dX6_number_82 rfl ?_
    refine kwp_icmp_le (pc := 83) 94 dX6_number_83 (by decide) (fun hc => ?_) (fun hc => ?_)
    · have h := h.1 hc
      refine kwp_iload_n (pc := 94) 3 rfl dX6_number_94 rfl ?_
      exact kwp_iret (pc := 95) rfl dX6_number_95 ⟨_, rfl, h⟩
    · have h := h.2 hc
      refine kwp_sub [0, 2] rfl ?_
      exact h

set_option maxRecDepth 20000 in
theorem bX6_number_86 {l : Launch} {g : va_G × (Nat → ClassId) × (Nat → Nat → Nat)} (x2 : Int32) (M : kM) (Q : Int32 → kM → Prop)
    (h : kCT l (rg_m, g) mX6_fails [.inr (.inr (0, 0)), .inl x2] M (kqi (fun r2 M1 => Q (-1) M1))) :
    kWP l (rg_m, g) mX6_number 86 [(0, .inr (.inr (0, 0))), (2, .inl x2)] [] M (kqi Q) := by
  refine kwp_aload_n (pc := 86) 0 rfl dX6_number_86 rfl ?_
  refine kwp_iload_n (pc := 87) 1 rfl dX6_number_87 rfl ?_
  refine kwp_callV (pc := 88) (Y := mX6_fails) (vs := [.inl x2]) (rest := []) fm_X6_fails fi_X6_fails ml_X6_88 (by decide) rfl rfl rfl rfl (by simp [kcat]) dX6_number_88 ?_
  refine kCT.mono h (fun v M1 h => ?_)
  obtain ⟨r2, rfl, h⟩ := h
  change kWP l (rg_m, g) mX6_number 91 [(0, .inr (.inr (0, 0))), (2, .inl x2)] [.inl r2] M1 (kqi Q)
  refine kwp_pop (pc := 91) dX6_number_91 rfl ?_
  refine kwp_iconst (pc := 92) dX6_number_92 ic_m1 ?_
  exact kwp_iret (pc := 93) rfl dX6_number_93 ⟨_, rfl, h⟩

set_option maxRecDepth 20000 in
theorem bX6_takesStage_0 {l : Launch} {g : va_G × (Nat → ClassId) × (Nat → Nat → Nat)}  (M : kM) (Q : Int32 → kM → Prop)
    (h : ∀ z1 : Int32, z1 = M.1 1 0 (455 : Int32).toNatClampNeg → kCT l (rg_m, g) mX6_digit [.inr (.inr (0, 0)), .inl 1, .inl 9] M (kqi (fun r3 M2 => ((0 ≤ r3 → kCT l (rg_m, g) mX6_digit [.inr (.inr (0, 0)), .inl 0, .inl 9] M2 (kqi (fun r5 M4 => kWP l (rg_m, g) mX6_takesStage 32 [(0, .inr (.inr (0, 0))), (1, .inl z1), (2, .inl r3)] [.inl r5] M4 (kqi Q)))) ∧ (¬ 0 ≤ r3 → kWP l (rg_m, g) mX6_takesStage 32 [(0, .inr (.inr (0, 0))), (1, .inl z1), (2, .inl r3)] [.inl (-1)] M2 (kqi Q)))))) :
    kWP l (rg_m, g) mX6_takesStage 0 [(0, .inr (.inr (0, 0)))] [] M (kqi Q) := by
  refine kwp_aload_n (pc := 0) 0 rfl dX6_takesStage_0 rfl ?_
  refine kwp_getc (pc := 1) fl_X6_7 rfl rfl dX6_takesStage_1 ?_
  refine kwp_sipush (pc := 4) dX6_takesStage_4 sp_455 ?_
  refine kwp_iald (pc := 7) rfl (show vp_in (455 : Int32) 483 by unfold vp_in; decide) dX6_takesStage_7 ?_
  obtain ⟨z1, ez1⟩ : ∃ z : Int32, z = M.1 1 0 (455 : Int32).toNatClampNeg := ⟨_, rfl⟩
  rw [← ez1]
  have h := h z1 ez1
  refine kwp_istore_n (pc := 8) (ls2 := [(1, .inl z1), (0, .inr (.inr (0, 0)))]) dX6_takesStage_8 rfl (by decide) rfl ?_
  refine kwp_aload_n (pc := 9) 1 rfl dX6_takesStage_9 rfl ?_
  refine kwp_iconst (pc := 10) dX6_takesStage_10 ic_1 ?_
  refine kwp_bipush (pc := 11) dX6_takesStage_11 bp_9 ?_
  refine kwp_callV (pc := 13) (Y := mX6_digit) (vs := [.inl 1, .inl 9]) (rest := []) fm_X6_digit fi_X6_digit ml_X6_95 (by decide) rfl rfl rfl rfl (by simp [kcat]) dX6_takesStage_13 ?_
  refine kCT.mono h (fun v M2 h => ?_)
  obtain ⟨r3, rfl, h⟩ := h
  change kWP l (rg_m, g) mX6_takesStage 16 [(1, .inl z1), (0, .inr (.inr (0, 0)))] [.inl r3] M2 (kqi Q)
  refine kwp_istore_n (pc := 16) (ls2 := [(2, .inl r3), (1, .inl z1), (0, .inr (.inr (0, 0)))]) dX6_takesStage_16 rfl (by decide) rfl ?_
  refine kwp_iload_n (pc := 17) 0 rfl dX6_takesStage_17 rfl ?_
  refine kwp_if_ge (pc := 18) 25 dX6_takesStage_18 (by decide) (fun hc => ?_) (fun hc => ?_)
  · have h := h.1 hc
    refine kwp_aload_n (pc := 25) 2 rfl dX6_takesStage_25 rfl ?_
    refine kwp_iconst (pc := 26) dX6_takesStage_26 ic_0 ?_
    refine kwp_bipush (pc := 27) dX6_takesStage_27 bp_9 ?_
    refine kwp_callV (pc := 29) (Y := mX6_digit) (vs := [.inl 0, .inl 9]) (rest := []) fm_X6_digit fi_X6_digit ml_X6_95 (by decide) rfl rfl rfl rfl (by simp [kcat]) dX6_takesStage_29 ?_
    refine kCT.mono h (fun v M4 h => ?_)
    obtain ⟨r5, rfl, h⟩ := h
    change kWP l (rg_m, g) mX6_takesStage 32 [(2, .inl r3), (1, .inl z1), (0, .inr (.inr (0, 0)))] [.inl r5] M4 (kqi Q)
    refine kwp_sub [2, 1, 0] rfl ?_
    exact h
  · have h := h.2 hc
    refine kwp_iconst (pc := 21) dX6_takesStage_21 ic_m1 ?_
    refine kwp_goto (pc := 22) 32 dX6_takesStage_22 (by decide) ?_
    refine kwp_sub [2, 1, 0] rfl ?_
    exact h

set_option maxRecDepth 20000 in
theorem bX6_takesStage_32 {l : Launch} {g : va_G × (Nat → ClassId) × (Nat → Nat → Nat)} (x1 : Int32) (x2 : Int32) (s0 : Int32) (M : kM) (Q : Int32 → kM → Prop)
    (h : ((0 ≤ s0 → kCT l (rg_m, g) mX6_digit [.inr (.inr (0, 0)), .inl 0, .inl 4] M (kqi (fun r2 M1 => kWP l (rg_m, g) mX6_takesStage 47 [(0, .inr (.inr (0, 0))), (1, .inl x1), (2, .inl x2), (3, .inl s0)] [.inl r2] M1 (kqi Q)))) ∧ (¬ 0 ≤ s0 → kWP l (rg_m, g) mX6_takesStage 47 [(0, .inr (.inr (0, 0))), (1, .inl x1), (2, .inl x2), (3, .inl s0)] [.inl (-1)] M (kqi Q)))) :
    kWP l (rg_m, g) mX6_takesStage 32 [(0, .inr (.inr (0, 0))), (1, .inl x1), (2, .inl x2)] [.inl s0] M (kqi Q) := by
  refine kwp_istore_n (pc := 32) (ls2 := [(3, .inl s0), (0, .inr (.inr (0, 0))), (1, .inl x1), (2, .inl x2)]) dX6_takesStage_32 rfl (by decide) rfl ?_
  refine kwp_iload_n (pc := 33) 0 rfl dX6_takesStage_33 rfl ?_
  refine kwp_if_ge (pc := 34) 41 dX6_takesStage_34 (by decide) (fun hc => ?_) (fun hc => ?_)
  · have h := h.1 hc
    refine kwp_aload_n (pc := 41) 1 rfl dX6_takesStage_41 rfl ?_
    refine kwp_iconst (pc := 42) dX6_takesStage_42 ic_0 ?_
    refine kwp_iconst (pc := 43) dX6_takesStage_43 ic_4 ?_
    refine kwp_callV (pc := 44) (Y := mX6_digit) (vs := [.inl 0, .inl 4]) (rest := []) fm_X6_digit fi_X6_digit ml_X6_95 (by decide) rfl rfl rfl rfl (by simp [kcat]) dX6_takesStage_44 ?_
    refine kCT.mono h (fun v M1 h => ?_)
    obtain ⟨r2, rfl, h⟩ := h
    change kWP l (rg_m, g) mX6_takesStage 47 [(3, .inl s0), (0, .inr (.inr (0, 0))), (1, .inl x1), (2, .inl x2)] [.inl r2] M1 (kqi Q)
    refine kwp_sub [1, 2, 3, 0] rfl ?_
    exact h
  · have h := h.2 hc
    refine kwp_iconst (pc := 37) dX6_takesStage_37 ic_m1 ?_
    refine kwp_goto (pc := 38) 47 dX6_takesStage_38 (by decide) ?_
    refine kwp_sub [1, 2, 3, 0] rfl ?_
    exact h

set_option maxRecDepth 20000 in
theorem bX6_takesStage_47 {l : Launch} {g : va_G × (Nat → ClassId) × (Nat → Nat → Nat)} (x1 : Int32) (x2 : Int32) (x3 : Int32) (s0 : Int32) (M : kM) (Q : Int32 → kM → Prop)
    (h : ((0 ≤ s0 → vp_in ((458 : Int32) + x1) 483 ∧ (∀ M1 : kM, M1 = ku M 1 0 ((458 : Int32) + x1).toNatClampNeg x2 → vp_in ((466 : Int32) + x1) 483 ∧ (∀ M2 : kM, M2 = ku M1 1 0 ((466 : Int32) + x1).toNatClampNeg x3 → vp_in ((434 : Int32) + x1) 483 ∧ (∀ M3 : kM, M3 = ku M2 1 0 ((434 : Int32) + x1).toNatClampNeg s0 → ∀ M4 : kM, M4 = ku M3 1 0 (455 : Int32).toNatClampNeg ((M3.1 1 0 (455 : Int32).toNatClampNeg) + 1) → Q 1 M4)))) ∧ (¬ 0 ≤ s0 → Q 0 M))) :
    kWP l (rg_m, g) mX6_takesStage 47 [(0, .inr (.inr (0, 0))), (1, .inl x1), (2, .inl x2), (3, .inl x3)] [.inl s0] M (kqi Q) := by
  refine kwp_istore (pc := 47) (ls2 := [(4, .inl s0), (0, .inr (.inr (0, 0))), (1, .inl x1), (2, .inl x2), (3, .inl x3)]) dX6_takesStage_47 (by decide) rfl ?_
  refine kwp_iload (pc := 49) 0 rfl dX6_takesStage_49 ?_
  refine kwp_if_ge (pc := 51) 56 dX6_takesStage_51 (by decide) (fun hc => ?_) (fun hc => ?_)
  · have h := h.1 hc
    refine kwp_aload_n (pc := 56) 1 rfl dX6_takesStage_56 rfl ?_
    refine kwp_getc (pc := 57) fl_X6_7 rfl rfl dX6_takesStage_57 ?_
    refine kwp_sipush (pc := 60) dX6_takesStage_60 sp_458 ?_
    refine kwp_iload_n (pc := 63) 2 rfl dX6_takesStage_63 rfl ?_
    refine kwp_iadd (pc := 64) dX6_takesStage_64 ?_
    refine kwp_iload_n (pc := 65) 3 rfl dX6_takesStage_65 rfl ?_
    obtain ⟨hin, h⟩ := h
    refine kwp_iast (pc := 66) rfl hin dX6_takesStage_66 ?_
    obtain ⟨M1, eM1⟩ : ∃ z : kM, z = ku M 1 0 ((458 : Int32) + x1).toNatClampNeg x2 := ⟨_, rfl⟩
    rw [← eM1]
    have h := h M1 eM1
    refine kwp_aload_n (pc := 67) 1 rfl dX6_takesStage_67 rfl ?_
    refine kwp_getc (pc := 68) fl_X6_7 rfl rfl dX6_takesStage_68 ?_
    refine kwp_sipush (pc := 71) dX6_takesStage_71 sp_466 ?_
    refine kwp_iload_n (pc := 74) 2 rfl dX6_takesStage_74 rfl ?_
    refine kwp_iadd (pc := 75) dX6_takesStage_75 ?_
    refine kwp_iload_n (pc := 76) 4 rfl dX6_takesStage_76 rfl ?_
    obtain ⟨hin, h⟩ := h
    refine kwp_iast (pc := 77) rfl hin dX6_takesStage_77 ?_
    obtain ⟨M2, eM2⟩ : ∃ z : kM, z = ku M1 1 0 ((466 : Int32) + x1).toNatClampNeg x3 := ⟨_, rfl⟩
    rw [← eM2]
    have h := h M2 eM2
    refine kwp_aload_n (pc := 78) 1 rfl dX6_takesStage_78 rfl ?_
    refine kwp_getc (pc := 79) fl_X6_7 rfl rfl dX6_takesStage_79 ?_
    refine kwp_sipush (pc := 82) dX6_takesStage_82 sp_434 ?_
    refine kwp_iload_n (pc := 85) 2 rfl dX6_takesStage_85 rfl ?_
    refine kwp_iadd (pc := 86) dX6_takesStage_86 ?_
    refine kwp_iload (pc := 87) 0 rfl dX6_takesStage_87 ?_
    obtain ⟨hin, h⟩ := h
    refine kwp_iast (pc := 89) rfl hin dX6_takesStage_89 ?_
    obtain ⟨M3, eM3⟩ : ∃ z : kM, z = ku M2 1 0 ((434 : Int32) + x1).toNatClampNeg s0 := ⟨_, rfl⟩
    rw [← eM3]
    have h := h M3 eM3
    refine kwp_aload_n (pc := 90) 1 rfl dX6_takesStage_90 rfl ?_
    refine kwp_getc (pc := 91) fl_X6_7 rfl rfl dX6_takesStage_91 ?_
    refine kwp_sipush (pc := 94) dX6_takesStage_94 sp_455 ?_
    refine kwp_dup2 (pc := 97) dX6_takesStage_97 rfl rfl ?_
    refine kwp_iald (pc := 98) rfl (show vp_in (455 : Int32) 483 by unfold vp_in; decide) dX6_takesStage_98 ?_
    refine kwp_iconst (pc := 99) dX6_takesStage_99 ic_1 ?_
    refine kwp_iadd (pc := 100) dX6_takesStage_100 ?_
    refine kwp_iast (pc := 101) rfl (show vp_in (455 : Int32) 483 by unfold vp_in; decide) dX6_takesStage_101 ?_
    obtain ⟨M4, eM4⟩ : ∃ z : kM, z = ku M3 1 0 (455 : Int32).toNatClampNeg ((M3.1 1 0 (455 : Int32).toNatClampNeg) + 1) := ⟨_, rfl⟩
    rw [← eM4]
    have h := h M4 eM4
    refine kwp_iconst (pc := 102) dX6_takesStage_102 ic_1 ?_
    exact kwp_zret (pc := 103) rfl (by decide) dX6_takesStage_103 ⟨_, rfl, h⟩
  · have h := h.2 hc
    refine kwp_iconst (pc := 54) dX6_takesStage_54 ic_0 ?_
    exact kwp_zret (pc := 55) rfl (by decide) dX6_takesStage_55 ⟨_, rfl, h⟩

set_option maxRecDepth 20000 in
theorem bX6_kindBy_0 {l : Launch} {g : va_G × (Nat → ClassId) × (Nat → Nat → Nat)} (x0 : Int32) (M : kM) (Q : Int32 → kM → Prop)
    (h : ((¬ x0 = 112 → ((¬ x0 = 115 → ((¬ x0 = 111 → ((¬ x0 = 98 → ((¬ x0 = 114 → kWP l (rg_m, g) mX6_kindBy 51 [] [.inl (-1)] M (kqi Q)) ∧ (x0 = 114 → kWP l (rg_m, g) mX6_kindBy 51 [] [.inl 4] M (kqi Q)))) ∧ (x0 = 98 → kWP l (rg_m, g) mX6_kindBy 51 [] [.inl 3] M (kqi Q)))) ∧ (x0 = 111 → kWP l (rg_m, g) mX6_kindBy 51 [] [.inl 2] M (kqi Q)))) ∧ (x0 = 115 → kWP l (rg_m, g) mX6_kindBy 51 [] [.inl 1] M (kqi Q)))) ∧ (x0 = 112 → kWP l (rg_m, g) mX6_kindBy 51 [] [.inl 0] M (kqi Q)))) :
    kWP l (rg_m, g) mX6_kindBy 0 [(0, .inl x0)] [] M (kqi Q) := by
  refine kwp_iload_n (pc := 0) 0 rfl dX6_kindBy_0 rfl ?_
  refine kwp_bipush (pc := 1) dX6_kindBy_1 bp_112 ?_
  refine kwp_icmp_ne (pc := 3) 10 dX6_kindBy_3 (by decide) (fun hc => ?_) (fun hc => ?_)
  · have h := h.1 hc
    refine kwp_iload_n (pc := 10) 0 rfl dX6_kindBy_10 rfl ?_
    refine kwp_bipush (pc := 11) dX6_kindBy_11 bp_115 ?_
    refine kwp_icmp_ne (pc := 13) 20 dX6_kindBy_13 (by decide) (fun hc => ?_) (fun hc => ?_)
    · have h := h.1 hc
      refine kwp_iload_n (pc := 20) 0 rfl dX6_kindBy_20 rfl ?_
      refine kwp_bipush (pc := 21) dX6_kindBy_21 bp_111 ?_
      refine kwp_icmp_ne (pc := 23) 30 dX6_kindBy_23 (by decide) (fun hc => ?_) (fun hc => ?_)
      · have h := h.1 hc
        refine kwp_iload_n (pc := 30) 0 rfl dX6_kindBy_30 rfl ?_
        refine kwp_bipush (pc := 31) dX6_kindBy_31 bp_98 ?_
        refine kwp_icmp_ne (pc := 33) 40 dX6_kindBy_33 (by decide) (fun hc => ?_) (fun hc => ?_)
        · have h := h.1 hc
          refine kwp_iload_n (pc := 40) 0 rfl dX6_kindBy_40 rfl ?_
          refine kwp_bipush (pc := 41) dX6_kindBy_41 bp_114 ?_
          refine kwp_icmp_ne (pc := 43) 50 dX6_kindBy_43 (by decide) (fun hc => ?_) (fun hc => ?_)
          · have h := h.1 hc
            refine kwp_iconst (pc := 50) dX6_kindBy_50 ic_m1 ?_
            refine kwp_sub [] rfl ?_
            exact h
          · have h := h.2 hc
            refine kwp_iconst (pc := 46) dX6_kindBy_46 ic_4 ?_
            refine kwp_goto (pc := 47) 51 dX6_kindBy_47 (by decide) ?_
            refine kwp_sub [] rfl ?_
            exact h
        · have h := h.2 hc
          refine kwp_iconst (pc := 36) dX6_kindBy_36 ic_3 ?_
          refine kwp_goto (pc := 37) 51 dX6_kindBy_37 (by decide) ?_
          refine kwp_sub [] rfl ?_
          exact h
      · have h := h.2 hc
        refine kwp_iconst (pc := 26) dX6_kindBy_26 ic_2 ?_
        refine kwp_goto (pc := 27) 51 dX6_kindBy_27 (by decide) ?_
        refine kwp_sub [] rfl ?_
        exact h
    · have h := h.2 hc
      refine kwp_iconst (pc := 16) dX6_kindBy_16 ic_1 ?_
      refine kwp_goto (pc := 17) 51 dX6_kindBy_17 (by decide) ?_
      refine kwp_sub [] rfl ?_
      exact h
  · have h := h.2 hc
    refine kwp_iconst (pc := 6) dX6_kindBy_6 ic_0 ?_
    refine kwp_goto (pc := 7) 51 dX6_kindBy_7 (by decide) ?_
    refine kwp_sub [] rfl ?_
    exact h

set_option maxRecDepth 20000 in
theorem bX6_kindBy_51 {l : Launch} {g : va_G × (Nat → ClassId) × (Nat → Nat → Nat)} (s0 : Int32) (M : kM) (Q : Int32 → kM → Prop)
    (h : Q s0 M) :
    kWP l (rg_m, g) mX6_kindBy 51 [] [.inl s0] M (kqi Q) := by
  exact kwp_iret (pc := 51) rfl dX6_kindBy_51 ⟨_, rfl, h⟩

set_option maxRecDepth 20000 in
theorem bX6_takesBuys_0 {l : Launch} {g : va_G × (Nat → ClassId) × (Nat → Nat → Nat)} (x1 : Int32) (M : kM) (Q : Int32 → kM → Prop)
    (h : ∀ M1 : kM, M1 = ku M 0 0 7 ((M.1 0 0 7) + 1) → kWP l (rg_m, g) mX6_takesBuys 12 [(0, .inr (.inr (0, 0))), (1, .inl x1), (2, .inl 0)] [] M1 (kqi Q)) :
    kWP l (rg_m, g) mX6_takesBuys 0 [(0, .inr (.inr (0, 0))), (1, .inl x1)] [] M (kqi Q) := by
  refine kwp_aload_n (pc := 0) 0 rfl dX6_takesBuys_0 rfl ?_
  refine kwp_dup (pc := 1) dX6_takesBuys_1 rfl ?_
  refine kwp_geti (pc := 2) fl_X6_74 rfl rfl dX6_takesBuys_2 ?_
  refine kwp_iconst (pc := 5) dX6_takesBuys_5 ic_1 ?_
  refine kwp_iadd (pc := 6) dX6_takesBuys_6 ?_
  refine kwp_put (pc := 7) fp_X6_74 rfl rfl trivial dX6_takesBuys_7 ?_
  obtain ⟨M1, eM1⟩ : ∃ z : kM, z = ku M 0 0 7 ((M.1 0 0 7) + 1) := ⟨_, rfl⟩
  rw [← eM1]
  have h := h M1 eM1
  refine kwp_iconst (pc := 10) dX6_takesBuys_10 ic_0 ?_
  refine kwp_istore_n (pc := 11) (ls2 := [(2, .inl 0), (0, .inr (.inr (0, 0))), (1, .inl x1)]) dX6_takesBuys_11 rfl (by decide) rfl ?_
  refine kwp_sub [1, 2, 0] rfl ?_
  exact h

set_option maxRecDepth 20000 in
theorem bX6_takesBuys_12 {l : Launch} {g : va_G × (Nat → ClassId) × (Nat → Nat → Nat)} (x1 : Int32) (x2 : Int32) (M : kM) (Q : Int32 → kM → Prop)
    (h : ((x2 = 0 → kWP l (rg_m, g) mX6_takesBuys 33 [(0, .inr (.inr (0, 0))), (1, .inl x1), (2, .inl x2)] [] M (kqi Q)) ∧ (¬ x2 = 0 → kCT l (rg_m, g) mX6_here [.inr (.inr (0, 0))] M (kqi (fun r2 M1 => kCT l (rg_m, g) mX6_in [.inr (.inl (r2.toInt64)), .inr (.inl 48), .inr (.inl 57)] M1 (kqi (fun r4 M3 => ((r4 = 0 → Q 1 M3) ∧ (¬ r4 = 0 → kWP l (rg_m, g) mX6_takesBuys 33 [(0, .inr (.inr (0, 0))), (1, .inl x1), (2, .inl x2)] [] M3 (kqi Q)))))))))) :
    kWP l (rg_m, g) mX6_takesBuys 12 [(0, .inr (.inr (0, 0))), (1, .inl x1), (2, .inl x2)] [] M (kqi Q) := by
  refine kwp_iload_n (pc := 12) 2 rfl dX6_takesBuys_12 rfl ?_
  refine kwp_if_eq (pc := 13) 33 dX6_takesBuys_13 (by decide) (fun hc => ?_) (fun hc => ?_)
  · have h := h.1 hc
    exact h
  · have h := h.2 hc
    refine kwp_aload_n (pc := 16) 0 rfl dX6_takesBuys_16 rfl ?_
    refine kwp_callV (pc := 17) (Y := mX6_here) (vs := []) (rest := []) fm_X6_here fi_X6_here ml_X6_84 (by decide) rfl rfl rfl rfl (by simp [kcat]) dX6_takesBuys_17 ?_
    refine kCT.mono h (fun v M1 h => ?_)
    obtain ⟨r2, rfl, h⟩ := h
    change kWP l (rg_m, g) mX6_takesBuys 20 [(0, .inr (.inr (0, 0))), (1, .inl x1), (2, .inl x2)] [.inl r2] M1 (kqi Q)
    refine kwp_i2l (pc := 20) dX6_takesBuys_20 ?_
    refine kwp_ldc2 (pc := 21) cn_X6_91 dX6_takesBuys_21 ?_
    refine kwp_ldc2 (pc := 24) cn_X6_93 dX6_takesBuys_24 ?_
    refine kwp_callS (pc := 27) (Y := mX6_in) (vs := [.inr (.inl (r2.toInt64)), .inr (.inl 48), .inr (.inl 57)]) (rest := []) fm_X6_in fs_X6_in ml_X6_38 (by decide) rfl rfl (by simp [kcat]) dX6_takesBuys_27 ?_
    refine kCT.mono h (fun v M3 h => ?_)
    obtain ⟨r4, rfl, h⟩ := h
    change kWP l (rg_m, g) mX6_takesBuys 30 [(0, .inr (.inr (0, 0))), (1, .inl x1), (2, .inl x2)] [.inl r4] M3 (kqi Q)
    refine kwp_if_eq (pc := 30) 78 dX6_takesBuys_30 (by decide) (fun hc => ?_) (fun hc => ?_)
    · have h := h.1 hc
      refine kwp_iconst (pc := 78) dX6_takesBuys_78 ic_1 ?_
      exact kwp_zret (pc := 79) rfl (by decide) dX6_takesBuys_79 ⟨_, rfl, h⟩
    · have h := h.2 hc
      exact h

set_option maxRecDepth 20000 in
theorem bX6_takesBuys_33 {l : Launch} {g : va_G × (Nat → ClassId) × (Nat → Nat → Nat)} (x1 : Int32) (x2 : Int32) (M : kM) (Q : Int32 → kM → Prop)
    (h : kCT l (rg_m, g) mX6_digit [.inr (.inr (0, 0)), .inl x2, .inl ((M.1 1 0 (455 : Int32).toNatClampNeg) - 1)] M (kqi (fun r2 M1 => ((0 ≤ r2 → vp_in ((478 : Int32) + x1) 483 ∧ (vp_in ((478 : Int32) + x1) 483 ∧ (∀ M3 : kM, M3 = ku M1 1 0 ((478 : Int32) + x1).toNatClampNeg ((M1.1 1 0 ((478 : Int32) + x1).toNatClampNeg) ||| ((1 : Int32) <<< (r2 &&& 31))) → ∀ z4 : Int32, z4 = r2 + 1 → kWP l (rg_m, g) mX6_takesBuys 12 [(0, .inr (.inr (0, 0))), (1, .inl x1), (2, .inl z4)] [] M3 (kqi Q)))) ∧ (¬ 0 ≤ r2 → Q 0 M1))))) :
    kWP l (rg_m, g) mX6_takesBuys 33 [(0, .inr (.inr (0, 0))), (1, .inl x1), (2, .inl x2)] [] M (kqi Q) := by
  refine kwp_aload_n (pc := 33) 0 rfl dX6_takesBuys_33 rfl ?_
  refine kwp_iload_n (pc := 34) 2 rfl dX6_takesBuys_34 rfl ?_
  refine kwp_aload_n (pc := 35) 0 rfl dX6_takesBuys_35 rfl ?_
  refine kwp_getc (pc := 36) fl_X6_7 rfl rfl dX6_takesBuys_36 ?_
  refine kwp_sipush (pc := 39) dX6_takesBuys_39 sp_455 ?_
  refine kwp_iald (pc := 42) rfl (show vp_in (455 : Int32) 483 by unfold vp_in; decide) dX6_takesBuys_42 ?_
  refine kwp_iconst (pc := 43) dX6_takesBuys_43 ic_1 ?_
  refine kwp_isub (pc := 44) dX6_takesBuys_44 ?_
  refine kwp_callV (pc := 45) (Y := mX6_digit) (vs := [.inl x2, .inl ((M.1 1 0 (455 : Int32).toNatClampNeg) - 1)]) (rest := []) fm_X6_digit fi_X6_digit ml_X6_95 (by decide) rfl rfl rfl rfl (by simp [kcat]) dX6_takesBuys_45 ?_
  refine kCT.mono h (fun v M1 h => ?_)
  obtain ⟨r2, rfl, h⟩ := h
  change kWP l (rg_m, g) mX6_takesBuys 48 [(0, .inr (.inr (0, 0))), (1, .inl x1), (2, .inl x2)] [.inl r2] M1 (kqi Q)
  refine kwp_istore_n (pc := 48) (ls2 := [(3, .inl r2), (0, .inr (.inr (0, 0))), (1, .inl x1), (2, .inl x2)]) dX6_takesBuys_48 rfl (by decide) rfl ?_
  refine kwp_iload_n (pc := 49) 0 rfl dX6_takesBuys_49 rfl ?_
  refine kwp_if_ge (pc := 50) 55 dX6_takesBuys_50 (by decide) (fun hc => ?_) (fun hc => ?_)
  · have h := h.1 hc
    refine kwp_aload_n (pc := 55) 1 rfl dX6_takesBuys_55 rfl ?_
    refine kwp_getc (pc := 56) fl_X6_7 rfl rfl dX6_takesBuys_56 ?_
    refine kwp_sipush (pc := 59) dX6_takesBuys_59 sp_478 ?_
    refine kwp_iload_n (pc := 62) 2 rfl dX6_takesBuys_62 rfl ?_
    refine kwp_iadd (pc := 63) dX6_takesBuys_63 ?_
    refine kwp_dup2 (pc := 64) dX6_takesBuys_64 rfl rfl ?_
    obtain ⟨hin, h⟩ := h
    refine kwp_iald (pc := 65) rfl hin dX6_takesBuys_65 ?_
    refine kwp_iconst (pc := 66) dX6_takesBuys_66 ic_1 ?_
    refine kwp_iload_n (pc := 67) 0 rfl dX6_takesBuys_67 rfl ?_
    refine kwp_ishl (pc := 68) dX6_takesBuys_68 ?_
    refine kwp_ior (pc := 69) dX6_takesBuys_69 ?_
    obtain ⟨hin, h⟩ := h
    refine kwp_iast (pc := 70) rfl hin dX6_takesBuys_70 ?_
    obtain ⟨M3, eM3⟩ : ∃ z : kM, z = ku M1 1 0 ((478 : Int32) + x1).toNatClampNeg ((M1.1 1 0 ((478 : Int32) + x1).toNatClampNeg) ||| ((1 : Int32) <<< (r2 &&& 31))) := ⟨_, rfl⟩
    rw [← eM3]
    have h := h M3 eM3
    refine kwp_iload_n (pc := 71) 0 rfl dX6_takesBuys_71 rfl ?_
    refine kwp_iconst (pc := 72) dX6_takesBuys_72 ic_1 ?_
    refine kwp_iadd (pc := 73) dX6_takesBuys_73 ?_
    obtain ⟨z4, ez4⟩ : ∃ z : Int32, z = r2 + 1 := ⟨_, rfl⟩
    rw [← ez4]
    have h := h z4 ez4
    refine kwp_istore_n (pc := 74) (ls2 := [(2, .inl z4), (3, .inl r2), (0, .inr (.inr (0, 0))), (1, .inl x1)]) dX6_takesBuys_74 rfl (by decide) rfl ?_
    refine kwp_goto (pc := 75) 12 dX6_takesBuys_75 (by decide) ?_
    refine kwp_sub [2, 3, 0] rfl ?_
    exact h
  · have h := h.2 hc
    refine kwp_iconst (pc := 53) dX6_takesBuys_53 ic_0 ?_
    exact kwp_zret (pc := 54) rfl (by decide) dX6_takesBuys_54 ⟨_, rfl, h⟩

set_option maxRecDepth 20000 in
theorem bX6_takesRider_0 {l : Launch} {g : va_G × (Nat → ClassId) × (Nat → Nat → Nat)}  (M : kM) (Q : Int32 → kM → Prop)
    (h : ∀ z1 : Int32, z1 = M.1 1 0 (456 : Int32).toNatClampNeg → kCT l (rg_m, g) mX6_here [.inr (.inr (0, 0))] M (kqi (fun r3 M2 => kCT l (rg_m, g) mX6_kindBy [.inl r3] M2 (kqi (fun r5 M4 => ((0 ≤ r5 → ∀ M6 : kM, M6 = ku M4 0 0 7 ((M4.1 0 0 7) + 1) → kCT l (rg_m, g) mX6_number [.inr (.inr (0, 0)), .inl 999] M6 (kqi (fun r8 M7 => ((0 ≤ r8 → kCT l (rg_m, g) mX6_here [.inr (.inr (0, 0))] M7 (kqi (fun r10 M9 => ((r10 = 47 → ∀ M11 : kM, M11 = ku M9 0 0 7 ((M9.1 0 0 7) + 1) → kCT l (rg_m, g) mX6_number [.inr (.inr (0, 0)), .inl 99] M11 (kqi (fun r13 M12 => ((0 ≤ r13 → vp_in ((474 : Int32) + z1) 483 ∧ (∀ M14 : kM, M14 = ku M12 1 0 ((474 : Int32) + z1).toNatClampNeg r5 → vp_in ((446 : Int32) + z1) 483 ∧ (∀ M15 : kM, M15 = ku M14 1 0 ((446 : Int32) + z1).toNatClampNeg r8 → vp_in ((450 : Int32) + z1) 483 ∧ (∀ M16 : kM, M16 = ku M15 1 0 ((450 : Int32) + z1).toNatClampNeg r13 → ∀ M17 : kM, M17 = ku M16 1 0 (456 : Int32).toNatClampNeg ((M16.1 1 0 (456 : Int32).toNatClampNeg) + 1) → kCT l (rg_m, g) mX6_here [.inr (.inr (0, 0))] M17 (kqi (fun r19 M18 => ((¬ r19 = 58 → kWP l (rg_m, g) mX6_takesRider 160 [] [] M18 (kqi Q)) ∧ (r19 = 58 → kCT l (rg_m, g) mX6_takesBuys [.inr (.inr (0, 0)), .inl z1] M18 (kqi (fun r21 M20 => ((r21 = 0 → kWP l (rg_m, g) mX6_takesRider 165 [] [.inl 0] M20 (kqi Q)) ∧ (¬ r21 = 0 → kWP l (rg_m, g) mX6_takesRider 160 [] [] M20 (kqi Q))))))))))))) ∧ (¬ 0 ≤ r13 → Q 0 M12))))) ∧ (¬ r10 = 47 → kCT l (rg_m, g) mX6_fails [.inr (.inr (0, 0)), .inl (M9.1 0 0 7)] M9 (kqi (fun r23 M22 => ((r23 = 0 ∨ r23 = 1) ∧ Q r23 M22)))))))) ∧ (¬ 0 ≤ r8 → Q 0 M7))))) ∧ (¬ 0 ≤ r5 → kCT l (rg_m, g) mX6_fails [.inr (.inr (0, 0)), .inl (M4.1 0 0 7)] M4 (kqi (fun r25 M24 => ((r25 = 0 ∨ r25 = 1) ∧ Q r25 M24)))))))))) :
    kWP l (rg_m, g) mX6_takesRider 0 [(0, .inr (.inr (0, 0)))] [] M (kqi Q) := by
  refine kwp_aload_n (pc := 0) 0 rfl dX6_takesRider_0 rfl ?_
  refine kwp_getc (pc := 1) fl_X6_7 rfl rfl dX6_takesRider_1 ?_
  refine kwp_sipush (pc := 4) dX6_takesRider_4 sp_456 ?_
  refine kwp_iald (pc := 7) rfl (show vp_in (456 : Int32) 483 by unfold vp_in; decide) dX6_takesRider_7 ?_
  obtain ⟨z1, ez1⟩ : ∃ z : Int32, z = M.1 1 0 (456 : Int32).toNatClampNeg := ⟨_, rfl⟩
  rw [← ez1]
  have h := h z1 ez1
  refine kwp_istore_n (pc := 8) (ls2 := [(1, .inl z1), (0, .inr (.inr (0, 0)))]) dX6_takesRider_8 rfl (by decide) rfl ?_
  refine kwp_aload_n (pc := 9) 1 rfl dX6_takesRider_9 rfl ?_
  refine kwp_callV (pc := 10) (Y := mX6_here) (vs := []) (rest := []) fm_X6_here fi_X6_here ml_X6_84 (by decide) rfl rfl rfl rfl (by simp [kcat]) dX6_takesRider_10 ?_
  refine kCT.mono h (fun v M2 h => ?_)
  obtain ⟨r3, rfl, h⟩ := h
  change kWP l (rg_m, g) mX6_takesRider 13 [(1, .inl z1), (0, .inr (.inr (0, 0)))] [.inl r3] M2 (kqi Q)
  refine kwp_callS (pc := 13) (Y := mX6_kindBy) (vs := [.inl r3]) (rest := []) fm_X6_kindBy fs_X6_kindBy ml_X6_99 (by decide) rfl rfl (by simp [kcat]) dX6_takesRider_13 ?_
  refine kCT.mono h (fun v M4 h => ?_)
  obtain ⟨r5, rfl, h⟩ := h
  change kWP l (rg_m, g) mX6_takesRider 16 [(1, .inl z1), (0, .inr (.inr (0, 0)))] [.inl r5] M4 (kqi Q)
  refine kwp_istore_n (pc := 16) (ls2 := [(2, .inl r5), (1, .inl z1), (0, .inr (.inr (0, 0)))]) dX6_takesRider_16 rfl (by decide) rfl ?_
  refine kwp_iload_n (pc := 17) 0 rfl dX6_takesRider_17 rfl ?_
  refine kwp_if_ge (pc := 18) 30 dX6_takesRider_18 (by decide) (fun hc => ?_) (fun hc => ?_)
  · have h := h.1 hc
    refine kwp_aload_n (pc := 30) 2 rfl dX6_takesRider_30 rfl ?_
    refine kwp_dup (pc := 31) dX6_takesRider_31 rfl ?_
    refine kwp_geti (pc := 32) fl_X6_74 rfl rfl dX6_takesRider_32 ?_
    refine kwp_iconst (pc := 35) dX6_takesRider_35 ic_1 ?_
    refine kwp_iadd (pc := 36) dX6_takesRider_36 ?_
    refine kwp_put (pc := 37) fp_X6_74 rfl rfl trivial dX6_takesRider_37 ?_
    obtain ⟨M6, eM6⟩ : ∃ z : kM, z = ku M4 0 0 7 ((M4.1 0 0 7) + 1) := ⟨_, rfl⟩
    rw [← eM6]
    have h := h M6 eM6
    refine kwp_aload_n (pc := 40) 2 rfl dX6_takesRider_40 rfl ?_
    refine kwp_sipush (pc := 41) dX6_takesRider_41 sp_999 ?_
    refine kwp_callV (pc := 44) (Y := mX6_number) (vs := [.inl 999]) (rest := []) fm_X6_number fi_X6_number ml_X6_102 (by decide) rfl rfl rfl rfl (by simp [kcat]) dX6_takesRider_44 ?_
    refine kCT.mono h (fun v M7 h => ?_)
    obtain ⟨r8, rfl, h⟩ := h
    change kWP l (rg_m, g) mX6_takesRider 47 [(2, .inl r5), (1, .inl z1), (0, .inr (.inr (0, 0)))] [.inl r8] M7 (kqi Q)
    refine kwp_istore_n (pc := 47) (ls2 := [(3, .inl r8), (2, .inl r5), (1, .inl z1), (0, .inr (.inr (0, 0)))]) dX6_takesRider_47 rfl (by decide) rfl ?_
    refine kwp_iload_n (pc := 48) 0 rfl dX6_takesRider_48 rfl ?_
    refine kwp_if_ge (pc := 49) 54 dX6_takesRider_49 (by decide) (fun hc => ?_) (fun hc => ?_)
    · have h := h.1 hc
      refine kwp_aload_n (pc := 54) 3 rfl dX6_takesRider_54 rfl ?_
      refine kwp_callV (pc := 55) (Y := mX6_here) (vs := []) (rest := []) fm_X6_here fi_X6_here ml_X6_84 (by decide) rfl rfl rfl rfl (by simp [kcat]) dX6_takesRider_55 ?_
      refine kCT.mono h (fun v M9 h => ?_)
      obtain ⟨r10, rfl, h⟩ := h
      change kWP l (rg_m, g) mX6_takesRider 58 [(3, .inl r8), (2, .inl r5), (1, .inl z1), (0, .inr (.inr (0, 0)))] [.inl r10] M9 (kqi Q)
      refine kwp_bipush (pc := 58) dX6_takesRider_58 bp_47 ?_
      refine kwp_icmp_eq (pc := 60) 72 dX6_takesRider_60 (by decide) (fun hc => ?_) (fun hc => ?_)
      · have h := h.1 hc
        refine kwp_aload_n (pc := 72) 3 rfl dX6_takesRider_72 rfl ?_
        refine kwp_dup (pc := 73) dX6_takesRider_73 rfl ?_
        refine kwp_geti (pc := 74) fl_X6_74 rfl rfl dX6_takesRider_74 ?_
        refine kwp_iconst (pc := 77) dX6_takesRider_77 ic_1 ?_
        refine kwp_iadd (pc := 78) dX6_takesRider_78 ?_
        refine kwp_put (pc := 79) fp_X6_74 rfl rfl trivial dX6_takesRider_79 ?_
        obtain ⟨M11, eM11⟩ : ∃ z : kM, z = ku M9 0 0 7 ((M9.1 0 0 7) + 1) := ⟨_, rfl⟩
        rw [← eM11]
        have h := h M11 eM11
        refine kwp_aload_n (pc := 82) 3 rfl dX6_takesRider_82 rfl ?_
        refine kwp_bipush (pc := 83) dX6_takesRider_83 bp_99 ?_
        refine kwp_callV (pc := 85) (Y := mX6_number) (vs := [.inl 99]) (rest := []) fm_X6_number fi_X6_number ml_X6_102 (by decide) rfl rfl rfl rfl (by simp [kcat]) dX6_takesRider_85 ?_
        refine kCT.mono h (fun v M12 h => ?_)
        obtain ⟨r13, rfl, h⟩ := h
        change kWP l (rg_m, g) mX6_takesRider 88 [(3, .inl r8), (2, .inl r5), (1, .inl z1), (0, .inr (.inr (0, 0)))] [.inl r13] M12 (kqi Q)
        refine kwp_istore (pc := 88) (ls2 := [(4, .inl r13), (3, .inl r8), (2, .inl r5), (1, .inl z1), (0, .inr (.inr (0, 0)))]) dX6_takesRider_88 (by decide) rfl ?_
        refine kwp_iload (pc := 90) 0 rfl dX6_takesRider_90 ?_
        refine kwp_if_ge (pc := 92) 97 dX6_takesRider_92 (by decide) (fun hc => ?_) (fun hc => ?_)
        · have h := h.1 hc
          refine kwp_aload_n (pc := 97) 4 rfl dX6_takesRider_97 rfl ?_
          refine kwp_getc (pc := 98) fl_X6_7 rfl rfl dX6_takesRider_98 ?_
          refine kwp_sipush (pc := 101) dX6_takesRider_101 sp_474 ?_
          refine kwp_iload_n (pc := 104) 3 rfl dX6_takesRider_104 rfl ?_
          refine kwp_iadd (pc := 105) dX6_takesRider_105 ?_
          refine kwp_iload_n (pc := 106) 2 rfl dX6_takesRider_106 rfl ?_
          obtain ⟨hin, h⟩ := h
          refine kwp_iast (pc := 107) rfl hin dX6_takesRider_107 ?_
          obtain ⟨M14, eM14⟩ : ∃ z : kM, z = ku M12 1 0 ((474 : Int32) + z1).toNatClampNeg r5 := ⟨_, rfl⟩
          rw [← eM14]
          have h := h M14 eM14
          refine kwp_aload_n (pc := 108) 4 rfl dX6_takesRider_108 rfl ?_
          refine kwp_getc (pc := 109) fl_X6_7 rfl rfl dX6_takesRider_109 ?_
          refine kwp_sipush (pc := 112) dX6_takesRider_112 sp_446 ?_
          refine kwp_iload_n (pc := 115) 3 rfl dX6_takesRider_115 rfl ?_
          refine kwp_iadd (pc := 116) dX6_takesRider_116 ?_
          refine kwp_iload_n (pc := 117) 1 rfl dX6_takesRider_117 rfl ?_
          obtain ⟨hin, h⟩ := h
          refine kwp_iast (pc := 118) rfl hin dX6_takesRider_118 ?_
          obtain ⟨M15, eM15⟩ : ∃ z : kM, z = ku M14 1 0 ((446 : Int32) + z1).toNatClampNeg r8 := ⟨_, rfl⟩
          rw [← eM15]
          have h := h M15 eM15
          refine kwp_aload_n (pc := 119) 4 rfl dX6_takesRider_119 rfl ?_
          refine kwp_getc (pc := 120) fl_X6_7 rfl rfl dX6_takesRider_120 ?_
          refine kwp_sipush (pc := 123) dX6_takesRider_123 sp_450 ?_
          refine kwp_iload_n (pc := 126) 3 rfl dX6_takesRider_126 rfl ?_
          refine kwp_iadd (pc := 127) dX6_takesRider_127 ?_
          refine kwp_iload (pc := 128) 0 rfl dX6_takesRider_128 ?_
          obtain ⟨hin, h⟩ := h
          refine kwp_iast (pc := 130) rfl hin dX6_takesRider_130 ?_
          obtain ⟨M16, eM16⟩ : ∃ z : kM, z = ku M15 1 0 ((450 : Int32) + z1).toNatClampNeg r13 := ⟨_, rfl⟩
          rw [← eM16]
          have h := h M16 eM16
          refine kwp_aload_n (pc := 131) 4 rfl dX6_takesRider_131 rfl ?_
          refine kwp_getc (pc := 132) fl_X6_7 rfl rfl dX6_takesRider_132 ?_
          refine kwp_sipush (pc := 135) dX6_takesRider_135 sp_456 ?_
          refine kwp_dup2 (pc := 138) dX6_takesRider_138 rfl rfl ?_
          refine kwp_iald (pc := 139) rfl (show vp_in (456 : Int32) 483 by unfold vp_in; decide) dX6_takesRider_139 ?_
          refine kwp_iconst (pc := 140) dX6_takesRider_140 ic_1 ?_
          refine kwp_iadd (pc := 141) dX6_takesRider_141 ?_
          refine kwp_iast (pc := 142) rfl (show vp_in (456 : Int32) 483 by unfold vp_in; decide) dX6_takesRider_142 ?_
          obtain ⟨M17, eM17⟩ : ∃ z : kM, z = ku M16 1 0 (456 : Int32).toNatClampNeg ((M16.1 1 0 (456 : Int32).toNatClampNeg) + 1) := ⟨_, rfl⟩
          rw [← eM17]
          have h := h M17 eM17
          refine kwp_aload_n (pc := 143) 4 rfl dX6_takesRider_143 rfl ?_
          refine kwp_callV (pc := 144) (Y := mX6_here) (vs := []) (rest := []) fm_X6_here fi_X6_here ml_X6_84 (by decide) rfl rfl rfl rfl (by simp [kcat]) dX6_takesRider_144 ?_
          refine kCT.mono h (fun v M18 h => ?_)
          obtain ⟨r19, rfl, h⟩ := h
          change kWP l (rg_m, g) mX6_takesRider 147 [(4, .inl r13), (3, .inl r8), (2, .inl r5), (1, .inl z1), (0, .inr (.inr (0, 0)))] [.inl r19] M18 (kqi Q)
          refine kwp_bipush (pc := 147) dX6_takesRider_147 bp_58 ?_
          refine kwp_icmp_ne (pc := 149) 160 dX6_takesRider_149 (by decide) (fun hc => ?_) (fun hc => ?_)
          · have h := h.1 hc
            refine kwp_sub [] rfl ?_
            exact h
          · have h := h.2 hc
            refine kwp_aload_n (pc := 152) 4 rfl dX6_takesRider_152 rfl ?_
            refine kwp_iload_n (pc := 153) 3 rfl dX6_takesRider_153 rfl ?_
            refine kwp_callV (pc := 154) (Y := mX6_takesBuys) (vs := [.inl z1]) (rest := []) fm_X6_takesBuys fi_X6_takesBuys ml_X6_105 (by decide) rfl rfl rfl rfl (by simp [kcat]) dX6_takesRider_154 ?_
            refine kCT.mono h (fun v M20 h => ?_)
            obtain ⟨r21, rfl, h⟩ := h
            change kWP l (rg_m, g) mX6_takesRider 157 [(4, .inl r13), (3, .inl r8), (2, .inl r5), (1, .inl z1), (0, .inr (.inr (0, 0)))] [.inl r21] M20 (kqi Q)
            refine kwp_if_eq (pc := 157) 164 dX6_takesRider_157 (by decide) (fun hc => ?_) (fun hc => ?_)
            · have h := h.1 hc
              refine kwp_iconst (pc := 164) dX6_takesRider_164 ic_0 ?_
              refine kwp_sub [] rfl ?_
              exact h
            · have h := h.2 hc
              refine kwp_sub [] rfl ?_
              exact h
        · have h := h.2 hc
          refine kwp_iconst (pc := 95) dX6_takesRider_95 ic_0 ?_
          exact kwp_zret (pc := 96) rfl (by decide) dX6_takesRider_96 ⟨_, rfl, h⟩
      · have h := h.2 hc
        refine kwp_aload_n (pc := 63) 3 rfl dX6_takesRider_63 rfl ?_
        refine kwp_aload_n (pc := 64) 3 rfl dX6_takesRider_64 rfl ?_
        refine kwp_geti (pc := 65) fl_X6_74 rfl rfl dX6_takesRider_65 ?_
        refine kwp_callV (pc := 68) (Y := mX6_fails) (vs := [.inl (M9.1 0 0 7)]) (rest := []) fm_X6_fails fi_X6_fails ml_X6_88 (by decide) rfl rfl rfl rfl (by simp [kcat]) dX6_takesRider_68 ?_
        refine kCT.mono h (fun v M22 h => ?_)
        obtain ⟨r23, rfl, h⟩ := h
        change kWP l (rg_m, g) mX6_takesRider 71 [(3, .inl r8), (2, .inl r5), (1, .inl z1), (0, .inr (.inr (0, 0)))] [.inl r23] M22 (kqi Q)
        exact kwp_zret (pc := 71) rfl h.1 dX6_takesRider_71 ⟨_, rfl, h.2⟩
    · have h := h.2 hc
      refine kwp_iconst (pc := 52) dX6_takesRider_52 ic_0 ?_
      exact kwp_zret (pc := 53) rfl (by decide) dX6_takesRider_53 ⟨_, rfl, h⟩
  · have h := h.2 hc
    refine kwp_aload_n (pc := 21) 2 rfl dX6_takesRider_21 rfl ?_
    refine kwp_aload_n (pc := 22) 2 rfl dX6_takesRider_22 rfl ?_
    refine kwp_geti (pc := 23) fl_X6_74 rfl rfl dX6_takesRider_23 ?_
    refine kwp_callV (pc := 26) (Y := mX6_fails) (vs := [.inl (M4.1 0 0 7)]) (rest := []) fm_X6_fails fi_X6_fails ml_X6_88 (by decide) rfl rfl rfl rfl (by simp [kcat]) dX6_takesRider_26 ?_
    refine kCT.mono h (fun v M24 h => ?_)
    obtain ⟨r25, rfl, h⟩ := h
    change kWP l (rg_m, g) mX6_takesRider 29 [(2, .inl r5), (1, .inl z1), (0, .inr (.inr (0, 0)))] [.inl r25] M24 (kqi Q)
    exact kwp_zret (pc := 29) rfl h.1 dX6_takesRider_29 ⟨_, rfl, h.2⟩

set_option maxRecDepth 20000 in
theorem bX6_takesRider_160 {l : Launch} {g : va_G × (Nat → ClassId) × (Nat → Nat → Nat)}  (M : kM) (Q : Int32 → kM → Prop)
    (h : kWP l (rg_m, g) mX6_takesRider 165 [] [.inl 1] M (kqi Q)) :
    kWP l (rg_m, g) mX6_takesRider 160 [] [] M (kqi Q) := by
  refine kwp_iconst (pc := 160) dX6_takesRider_160 ic_1 ?_
  refine kwp_goto (pc := 161) 165 dX6_takesRider_161 (by decide) ?_
  exact h

set_option maxRecDepth 20000 in
theorem bX6_takesRider_165 {l : Launch} {g : va_G × (Nat → ClassId) × (Nat → Nat → Nat)} (s0 : Int32) (M : kM) (Q : Int32 → kM → Prop)
    (h : ((s0 = 0 ∨ s0 = 1) ∧ Q s0 M)) :
    kWP l (rg_m, g) mX6_takesRider 165 [] [.inl s0] M (kqi Q) := by
  exact kwp_zret (pc := 165) rfl h.1 dX6_takesRider_165 ⟨_, rfl, h.2⟩

set_option maxRecDepth 20000 in
theorem bX6_takesRoad_0 {l : Launch} {g : va_G × (Nat → ClassId) × (Nat → Nat → Nat)}  (M : kM) (Q : Int32 → kM → Prop)
    (h : kCT l (rg_m, g) mX6_takesStage [.inr (.inr (0, 0))] M (kqi (fun r2 M1 => ((¬ r2 = 0 → kWP l (rg_m, g) mX6_takesRoad 9 [(0, .inr (.inr (0, 0)))] [] M1 (kqi Q)) ∧ (r2 = 0 → Q 0 M1))))) :
    kWP l (rg_m, g) mX6_takesRoad 0 [(0, .inr (.inr (0, 0)))] [] M (kqi Q) := by
  refine kwp_aload_n (pc := 0) 0 rfl dX6_takesRoad_0 rfl ?_
  refine kwp_callV (pc := 1) (Y := mX6_takesStage) (vs := []) (rest := []) fm_X6_takesStage fi_X6_takesStage ml_X6_108 (by decide) rfl rfl rfl rfl (by simp [kcat]) dX6_takesRoad_1 ?_
  refine kCT.mono h (fun v M1 h => ?_)
  obtain ⟨r2, rfl, h⟩ := h
  change kWP l (rg_m, g) mX6_takesRoad 4 [(0, .inr (.inr (0, 0)))] [.inl r2] M1 (kqi Q)
  refine kwp_if_ne (pc := 4) 9 dX6_takesRoad_4 (by decide) (fun hc => ?_) (fun hc => ?_)
  · have h := h.1 hc
    exact h
  · have h := h.2 hc
    refine kwp_iconst (pc := 7) dX6_takesRoad_7 ic_0 ?_
    exact kwp_zret (pc := 8) rfl (by decide) dX6_takesRoad_8 ⟨_, rfl, h⟩

set_option maxRecDepth 20000 in
theorem bX6_takesRoad_9 {l : Launch} {g : va_G × (Nat → ClassId) × (Nat → Nat → Nat)}  (M : kM) (Q : Int32 → kM → Prop)
    (h : kCT l (rg_m, g) mX6_here [.inr (.inr (0, 0))] M (kqi (fun r2 M1 => ((¬ r2 = 44 → kWP l (rg_m, g) mX6_takesRoad 50 [(0, .inr (.inr (0, 0)))] [] M1 (kqi Q)) ∧ (r2 = 44 → ((8 ≤ (M1.1 1 0 (455 : Int32).toNatClampNeg) → kWP l (rg_m, g) mX6_takesRoad 50 [(0, .inr (.inr (0, 0)))] [] M1 (kqi Q)) ∧ (¬ 8 ≤ (M1.1 1 0 (455 : Int32).toNatClampNeg) → ∀ M3 : kM, M3 = ku M1 0 0 7 ((M1.1 0 0 7) + 1) → kCT l (rg_m, g) mX6_takesStage [.inr (.inr (0, 0))] M3 (kqi (fun r5 M4 => ((¬ r5 = 0 → kWP l (rg_m, g) mX6_takesRoad 9 [(0, .inr (.inr (0, 0)))] [] M4 (kqi Q)) ∧ (r5 = 0 → Q 0 M4))))))))))) :
    kWP l (rg_m, g) mX6_takesRoad 9 [(0, .inr (.inr (0, 0)))] [] M (kqi Q) := by
  refine kwp_aload_n (pc := 9) 0 rfl dX6_takesRoad_9 rfl ?_
  refine kwp_callV (pc := 10) (Y := mX6_here) (vs := []) (rest := []) fm_X6_here fi_X6_here ml_X6_84 (by decide) rfl rfl rfl rfl (by simp [kcat]) dX6_takesRoad_10 ?_
  refine kCT.mono h (fun v M1 h => ?_)
  obtain ⟨r2, rfl, h⟩ := h
  change kWP l (rg_m, g) mX6_takesRoad 13 [(0, .inr (.inr (0, 0)))] [.inl r2] M1 (kqi Q)
  refine kwp_bipush (pc := 13) dX6_takesRoad_13 bp_44 ?_
  refine kwp_icmp_ne (pc := 15) 50 dX6_takesRoad_15 (by decide) (fun hc => ?_) (fun hc => ?_)
  · have h := h.1 hc
    exact h
  · have h := h.2 hc
    refine kwp_aload_n (pc := 18) 0 rfl dX6_takesRoad_18 rfl ?_
    refine kwp_getc (pc := 19) fl_X6_7 rfl rfl dX6_takesRoad_19 ?_
    refine kwp_sipush (pc := 22) dX6_takesRoad_22 sp_455 ?_
    refine kwp_iald (pc := 25) rfl (show vp_in (455 : Int32) 483 by unfold vp_in; decide) dX6_takesRoad_25 ?_
    refine kwp_bipush (pc := 26) dX6_takesRoad_26 bp_8 ?_
    refine kwp_icmp_ge (pc := 28) 50 dX6_takesRoad_28 (by decide) (fun hc => ?_) (fun hc => ?_)
    · have h := h.1 hc
      exact h
    · have h := h.2 hc
      refine kwp_aload_n (pc := 31) 0 rfl dX6_takesRoad_31 rfl ?_
      refine kwp_dup (pc := 32) dX6_takesRoad_32 rfl ?_
      refine kwp_geti (pc := 33) fl_X6_74 rfl rfl dX6_takesRoad_33 ?_
      refine kwp_iconst (pc := 36) dX6_takesRoad_36 ic_1 ?_
      refine kwp_iadd (pc := 37) dX6_takesRoad_37 ?_
      refine kwp_put (pc := 38) fp_X6_74 rfl rfl trivial dX6_takesRoad_38 ?_
      obtain ⟨M3, eM3⟩ : ∃ z : kM, z = ku M1 0 0 7 ((M1.1 0 0 7) + 1) := ⟨_, rfl⟩
      rw [← eM3]
      have h := h M3 eM3
      refine kwp_aload_n (pc := 41) 0 rfl dX6_takesRoad_41 rfl ?_
      refine kwp_callV (pc := 42) (Y := mX6_takesStage) (vs := []) (rest := []) fm_X6_takesStage fi_X6_takesStage ml_X6_108 (by decide) rfl rfl rfl rfl (by simp [kcat]) dX6_takesRoad_42 ?_
      refine kCT.mono h (fun v M4 h => ?_)
      obtain ⟨r5, rfl, h⟩ := h
      change kWP l (rg_m, g) mX6_takesRoad 45 [(0, .inr (.inr (0, 0)))] [.inl r5] M4 (kqi Q)
      refine kwp_if_ne (pc := 45) 9 dX6_takesRoad_45 (by decide) (fun hc => ?_) (fun hc => ?_)
      · have h := h.1 hc
        exact h
      · have h := h.2 hc
        refine kwp_iconst (pc := 48) dX6_takesRoad_48 ic_0 ?_
        exact kwp_zret (pc := 49) rfl (by decide) dX6_takesRoad_49 ⟨_, rfl, h⟩

set_option maxRecDepth 20000 in
theorem bX6_takesRoad_50 {l : Launch} {g : va_G × (Nat → ClassId) × (Nat → Nat → Nat)}  (M : kM) (Q : Int32 → kM → Prop)
    (h : kCT l (rg_m, g) mX6_here [.inr (.inr (0, 0))] M (kqi (fun r2 M1 => ((r2 = 59 → ∀ M3 : kM, M3 = ku M1 0 0 7 ((M1.1 0 0 7) + 1) → kCT l (rg_m, g) mX6_takesRider [.inr (.inr (0, 0))] M3 (kqi (fun r5 M4 => ((¬ r5 = 0 → kWP l (rg_m, g) mX6_takesRoad 87 [(0, .inr (.inr (0, 0)))] [] M4 (kqi Q)) ∧ (r5 = 0 → Q 0 M4))))) ∧ (¬ r2 = 59 → kCT l (rg_m, g) mX6_fails [.inr (.inr (0, 0)), .inl (M1.1 0 0 7)] M1 (kqi (fun r7 M6 => ((r7 = 0 ∨ r7 = 1) ∧ Q r7 M6)))))))) :
    kWP l (rg_m, g) mX6_takesRoad 50 [(0, .inr (.inr (0, 0)))] [] M (kqi Q) := by
  refine kwp_aload_n (pc := 50) 0 rfl dX6_takesRoad_50 rfl ?_
  refine kwp_callV (pc := 51) (Y := mX6_here) (vs := []) (rest := []) fm_X6_here fi_X6_here ml_X6_84 (by decide) rfl rfl rfl rfl (by simp [kcat]) dX6_takesRoad_51 ?_
  refine kCT.mono h (fun v M1 h => ?_)
  obtain ⟨r2, rfl, h⟩ := h
  change kWP l (rg_m, g) mX6_takesRoad 54 [(0, .inr (.inr (0, 0)))] [.inl r2] M1 (kqi Q)
  refine kwp_bipush (pc := 54) dX6_takesRoad_54 bp_59 ?_
  refine kwp_icmp_eq (pc := 56) 68 dX6_takesRoad_56 (by decide) (fun hc => ?_) (fun hc => ?_)
  · have h := h.1 hc
    refine kwp_aload_n (pc := 68) 0 rfl dX6_takesRoad_68 rfl ?_
    refine kwp_dup (pc := 69) dX6_takesRoad_69 rfl ?_
    refine kwp_geti (pc := 70) fl_X6_74 rfl rfl dX6_takesRoad_70 ?_
    refine kwp_iconst (pc := 73) dX6_takesRoad_73 ic_1 ?_
    refine kwp_iadd (pc := 74) dX6_takesRoad_74 ?_
    refine kwp_put (pc := 75) fp_X6_74 rfl rfl trivial dX6_takesRoad_75 ?_
    obtain ⟨M3, eM3⟩ : ∃ z : kM, z = ku M1 0 0 7 ((M1.1 0 0 7) + 1) := ⟨_, rfl⟩
    rw [← eM3]
    have h := h M3 eM3
    refine kwp_aload_n (pc := 78) 0 rfl dX6_takesRoad_78 rfl ?_
    refine kwp_callV (pc := 79) (Y := mX6_takesRider) (vs := []) (rest := []) fm_X6_takesRider fi_X6_takesRider ml_X6_112 (by decide) rfl rfl rfl rfl (by simp [kcat]) dX6_takesRoad_79 ?_
    refine kCT.mono h (fun v M4 h => ?_)
    obtain ⟨r5, rfl, h⟩ := h
    change kWP l (rg_m, g) mX6_takesRoad 82 [(0, .inr (.inr (0, 0)))] [.inl r5] M4 (kqi Q)
    refine kwp_if_ne (pc := 82) 87 dX6_takesRoad_82 (by decide) (fun hc => ?_) (fun hc => ?_)
    · have h := h.1 hc
      exact h
    · have h := h.2 hc
      refine kwp_iconst (pc := 85) dX6_takesRoad_85 ic_0 ?_
      exact kwp_zret (pc := 86) rfl (by decide) dX6_takesRoad_86 ⟨_, rfl, h⟩
  · have h := h.2 hc
    refine kwp_aload_n (pc := 59) 0 rfl dX6_takesRoad_59 rfl ?_
    refine kwp_aload_n (pc := 60) 0 rfl dX6_takesRoad_60 rfl ?_
    refine kwp_geti (pc := 61) fl_X6_74 rfl rfl dX6_takesRoad_61 ?_
    refine kwp_callV (pc := 64) (Y := mX6_fails) (vs := [.inl (M1.1 0 0 7)]) (rest := []) fm_X6_fails fi_X6_fails ml_X6_88 (by decide) rfl rfl rfl rfl (by simp [kcat]) dX6_takesRoad_64 ?_
    refine kCT.mono h (fun v M6 h => ?_)
    obtain ⟨r7, rfl, h⟩ := h
    change kWP l (rg_m, g) mX6_takesRoad 67 [(0, .inr (.inr (0, 0)))] [.inl r7] M6 (kqi Q)
    exact kwp_zret (pc := 67) rfl h.1 dX6_takesRoad_67 ⟨_, rfl, h.2⟩

set_option maxRecDepth 20000 in
theorem bX6_takesRoad_87 {l : Launch} {g : va_G × (Nat → ClassId) × (Nat → Nat → Nat)}  (M : kM) (Q : Int32 → kM → Prop)
    (h : kCT l (rg_m, g) mX6_here [.inr (.inr (0, 0))] M (kqi (fun r2 M1 => ((¬ r2 = 44 → kWP l (rg_m, g) mX6_takesRoad 127 [(0, .inr (.inr (0, 0)))] [] M1 (kqi Q)) ∧ (r2 = 44 → ((4 ≤ (M1.1 1 0 (456 : Int32).toNatClampNeg) → kWP l (rg_m, g) mX6_takesRoad 127 [(0, .inr (.inr (0, 0)))] [] M1 (kqi Q)) ∧ (¬ 4 ≤ (M1.1 1 0 (456 : Int32).toNatClampNeg) → ∀ M3 : kM, M3 = ku M1 0 0 7 ((M1.1 0 0 7) + 1) → kCT l (rg_m, g) mX6_takesRider [.inr (.inr (0, 0))] M3 (kqi (fun r5 M4 => ((¬ r5 = 0 → kWP l (rg_m, g) mX6_takesRoad 87 [(0, .inr (.inr (0, 0)))] [] M4 (kqi Q)) ∧ (r5 = 0 → Q 0 M4))))))))))) :
    kWP l (rg_m, g) mX6_takesRoad 87 [(0, .inr (.inr (0, 0)))] [] M (kqi Q) := by
  refine kwp_aload_n (pc := 87) 0 rfl dX6_takesRoad_87 rfl ?_
  refine kwp_callV (pc := 88) (Y := mX6_here) (vs := []) (rest := []) fm_X6_here fi_X6_here ml_X6_84 (by decide) rfl rfl rfl rfl (by simp [kcat]) dX6_takesRoad_88 ?_
  refine kCT.mono h (fun v M1 h => ?_)
  obtain ⟨r2, rfl, h⟩ := h
  change kWP l (rg_m, g) mX6_takesRoad 91 [(0, .inr (.inr (0, 0)))] [.inl r2] M1 (kqi Q)
  refine kwp_bipush (pc := 91) dX6_takesRoad_91 bp_44 ?_
  refine kwp_icmp_ne (pc := 93) 127 dX6_takesRoad_93 (by decide) (fun hc => ?_) (fun hc => ?_)
  · have h := h.1 hc
    exact h
  · have h := h.2 hc
    refine kwp_aload_n (pc := 96) 0 rfl dX6_takesRoad_96 rfl ?_
    refine kwp_getc (pc := 97) fl_X6_7 rfl rfl dX6_takesRoad_97 ?_
    refine kwp_sipush (pc := 100) dX6_takesRoad_100 sp_456 ?_
    refine kwp_iald (pc := 103) rfl (show vp_in (456 : Int32) 483 by unfold vp_in; decide) dX6_takesRoad_103 ?_
    refine kwp_iconst (pc := 104) dX6_takesRoad_104 ic_4 ?_
    refine kwp_icmp_ge (pc := 105) 127 dX6_takesRoad_105 (by decide) (fun hc => ?_) (fun hc => ?_)
    · have h := h.1 hc
      exact h
    · have h := h.2 hc
      refine kwp_aload_n (pc := 108) 0 rfl dX6_takesRoad_108 rfl ?_
      refine kwp_dup (pc := 109) dX6_takesRoad_109 rfl ?_
      refine kwp_geti (pc := 110) fl_X6_74 rfl rfl dX6_takesRoad_110 ?_
      refine kwp_iconst (pc := 113) dX6_takesRoad_113 ic_1 ?_
      refine kwp_iadd (pc := 114) dX6_takesRoad_114 ?_
      refine kwp_put (pc := 115) fp_X6_74 rfl rfl trivial dX6_takesRoad_115 ?_
      obtain ⟨M3, eM3⟩ : ∃ z : kM, z = ku M1 0 0 7 ((M1.1 0 0 7) + 1) := ⟨_, rfl⟩
      rw [← eM3]
      have h := h M3 eM3
      refine kwp_aload_n (pc := 118) 0 rfl dX6_takesRoad_118 rfl ?_
      refine kwp_callV (pc := 119) (Y := mX6_takesRider) (vs := []) (rest := []) fm_X6_takesRider fi_X6_takesRider ml_X6_112 (by decide) rfl rfl rfl rfl (by simp [kcat]) dX6_takesRoad_119 ?_
      refine kCT.mono h (fun v M4 h => ?_)
      obtain ⟨r5, rfl, h⟩ := h
      change kWP l (rg_m, g) mX6_takesRoad 122 [(0, .inr (.inr (0, 0)))] [.inl r5] M4 (kqi Q)
      refine kwp_if_ne (pc := 122) 87 dX6_takesRoad_122 (by decide) (fun hc => ?_) (fun hc => ?_)
      · have h := h.1 hc
        exact h
      · have h := h.2 hc
        refine kwp_iconst (pc := 125) dX6_takesRoad_125 ic_0 ?_
        exact kwp_zret (pc := 126) rfl (by decide) dX6_takesRoad_126 ⟨_, rfl, h⟩

set_option maxRecDepth 20000 in
theorem bX6_takesRoad_127 {l : Launch} {g : va_G × (Nat → ClassId) × (Nat → Nat → Nat)}  (M : kM) (Q : Int32 → kM → Prop)
    (h : kCT l (rg_m, g) mX6_here [.inr (.inr (0, 0))] M (kqi (fun r2 M1 => ((r2 < 0 → kWP l (rg_m, g) mX6_takesRoad 145 [] [] M1 (kqi Q)) ∧ (¬ r2 < 0 → kCT l (rg_m, g) mX6_fails [.inr (.inr (0, 0)), .inl (M1.1 0 0 7)] M1 (kqi (fun r4 M3 => ((r4 = 0 → kWP l (rg_m, g) mX6_takesRoad 150 [] [.inl 0] M3 (kqi Q)) ∧ (¬ r4 = 0 → kWP l (rg_m, g) mX6_takesRoad 145 [] [] M3 (kqi Q)))))))))) :
    kWP l (rg_m, g) mX6_takesRoad 127 [(0, .inr (.inr (0, 0)))] [] M (kqi Q) := by
  refine kwp_aload_n (pc := 127) 0 rfl dX6_takesRoad_127 rfl ?_
  refine kwp_callV (pc := 128) (Y := mX6_here) (vs := []) (rest := []) fm_X6_here fi_X6_here ml_X6_84 (by decide) rfl rfl rfl rfl (by simp [kcat]) dX6_takesRoad_128 ?_
  refine kCT.mono h (fun v M1 h => ?_)
  obtain ⟨r2, rfl, h⟩ := h
  change kWP l (rg_m, g) mX6_takesRoad 131 [(0, .inr (.inr (0, 0)))] [.inl r2] M1 (kqi Q)
  refine kwp_if_lt (pc := 131) 145 dX6_takesRoad_131 (by decide) (fun hc => ?_) (fun hc => ?_)
  · have h := h.1 hc
    refine kwp_sub [] rfl ?_
    exact h
  · have h := h.2 hc
    refine kwp_aload_n (pc := 134) 0 rfl dX6_takesRoad_134 rfl ?_
    refine kwp_aload_n (pc := 135) 0 rfl dX6_takesRoad_135 rfl ?_
    refine kwp_geti (pc := 136) fl_X6_74 rfl rfl dX6_takesRoad_136 ?_
    refine kwp_callV (pc := 139) (Y := mX6_fails) (vs := [.inl (M1.1 0 0 7)]) (rest := []) fm_X6_fails fi_X6_fails ml_X6_88 (by decide) rfl rfl rfl rfl (by simp [kcat]) dX6_takesRoad_139 ?_
    refine kCT.mono h (fun v M3 h => ?_)
    obtain ⟨r4, rfl, h⟩ := h
    change kWP l (rg_m, g) mX6_takesRoad 142 [(0, .inr (.inr (0, 0)))] [.inl r4] M3 (kqi Q)
    refine kwp_if_eq (pc := 142) 149 dX6_takesRoad_142 (by decide) (fun hc => ?_) (fun hc => ?_)
    · have h := h.1 hc
      refine kwp_iconst (pc := 149) dX6_takesRoad_149 ic_0 ?_
      refine kwp_sub [] rfl ?_
      exact h
    · have h := h.2 hc
      refine kwp_sub [] rfl ?_
      exact h

set_option maxRecDepth 20000 in
theorem bX6_takesRoad_145 {l : Launch} {g : va_G × (Nat → ClassId) × (Nat → Nat → Nat)}  (M : kM) (Q : Int32 → kM → Prop)
    (h : kWP l (rg_m, g) mX6_takesRoad 150 [] [.inl 1] M (kqi Q)) :
    kWP l (rg_m, g) mX6_takesRoad 145 [] [] M (kqi Q) := by
  refine kwp_iconst (pc := 145) dX6_takesRoad_145 ic_1 ?_
  refine kwp_goto (pc := 146) 150 dX6_takesRoad_146 (by decide) ?_
  exact h

set_option maxRecDepth 20000 in
theorem bX6_takesRoad_150 {l : Launch} {g : va_G × (Nat → ClassId) × (Nat → Nat → Nat)} (s0 : Int32) (M : kM) (Q : Int32 → kM → Prop)
    (h : ((s0 = 0 ∨ s0 = 1) ∧ Q s0 M)) :
    kWP l (rg_m, g) mX6_takesRoad 150 [] [.inl s0] M (kqi Q) := by
  exact kwp_zret (pc := 150) rfl h.1 dX6_takesRoad_150 ⟨_, rfl, h.2⟩

set_option maxRecDepth 20000 in
theorem bX6_road_0 {l : Launch} {g : va_G × (Nat → ClassId) × (Nat → Nat → Nat)}  (M : kM) (Q : Int32 → kM → Prop)
    (h : kWP l (rg_m, g) mX6_road 2 [(0, .inr (.inr (0, 0))), (1, .inl 0)] [] M (kqi Q)) :
    kWP l (rg_m, g) mX6_road 0 [(0, .inr (.inr (0, 0)))] [] M (kqi Q) := by
  refine kwp_iconst (pc := 0) dX6_road_0 ic_0 ?_
  refine kwp_istore_n (pc := 1) (ls2 := [(1, .inl 0), (0, .inr (.inr (0, 0)))]) dX6_road_1 rfl (by decide) rfl ?_
  refine kwp_sub [1, 0] rfl ?_
  exact h

set_option maxRecDepth 20000 in
theorem bX6_road_2 {l : Launch} {g : va_G × (Nat → ClassId) × (Nat → Nat → Nat)} (x1 : Int32) (M : kM) (Q : Int32 → kM → Prop)
    (h : ((49 ≤ x1 → ∀ M1 : kM, M1 = ku M 1 0 (454 : Int32).toNatClampNeg (M.1 1 0 (20 : Int32).toNatClampNeg) → ∀ M2 : kM, M2 = ku M1 1 0 (457 : Int32).toNatClampNeg (M1.1 1 0 (23 : Int32).toNatClampNeg) → ∀ M3 : kM, M3 = ku M2 0 0 7 0 → kCT l (rg_m, g) mX6_takesRoad [.inr (.inr (0, 0))] M3 (kqi (fun r5 M4 => ∀ M6 : kM, M6 = ku M4 0 0 3 0 → ((¬ r5 = 0 → kCT l (rg_m, g) mX6_copyAll [.inr (.inr (0, 0)), .inl 434, .inl 0, .inl 49] M6 (kqv (fun M7 => Q (M7.1 1 0 (22 : Int32).toNatClampNeg) M7))) ∧ (r5 = 0 → Q ((-20 : Int32) - (M6.1 0 0 8)) M6))))) ∧ (¬ 49 ≤ x1 → vp_in ((434 : Int32) + x1) 483 ∧ (∀ M8 : kM, M8 = ku M 1 0 ((434 : Int32) + x1).toNatClampNeg 0 → ∀ z9 : Int32, z9 = x1 + 1 → kWP l (rg_m, g) mX6_road 2 [(0, .inr (.inr (0, 0))), (1, .inl z9)] [] M8 (kqi Q))))) :
    kWP l (rg_m, g) mX6_road 2 [(0, .inr (.inr (0, 0))), (1, .inl x1)] [] M (kqi Q) := by
  refine kwp_iload_n (pc := 2) 1 rfl dX6_road_2 rfl ?_
  refine kwp_bipush (pc := 3) dX6_road_3 bp_49 ?_
  refine kwp_icmp_ge (pc := 5) 25 dX6_road_5 (by decide) (fun hc => ?_) (fun hc => ?_)
  · have h := h.1 hc
    refine kwp_aload_n (pc := 25) 0 rfl dX6_road_25 rfl ?_
    refine kwp_getc (pc := 26) fl_X6_7 rfl rfl dX6_road_26 ?_
    refine kwp_sipush (pc := 29) dX6_road_29 sp_454 ?_
    refine kwp_aload_n (pc := 32) 0 rfl dX6_road_32 rfl ?_
    refine kwp_getc (pc := 33) fl_X6_7 rfl rfl dX6_road_33 ?_
    refine kwp_bipush (pc := 36) dX6_road_36 bp_20 ?_
    refine kwp_iald (pc := 38) rfl (show vp_in (20 : Int32) 483 by unfold vp_in; decide) dX6_road_38 ?_
    refine kwp_iast (pc := 39) rfl (show vp_in (454 : Int32) 483 by unfold vp_in; decide) dX6_road_39 ?_
    obtain ⟨M1, eM1⟩ : ∃ z : kM, z = ku M 1 0 (454 : Int32).toNatClampNeg (M.1 1 0 (20 : Int32).toNatClampNeg) := ⟨_, rfl⟩
    rw [← eM1]
    have h := h M1 eM1
    refine kwp_aload_n (pc := 40) 0 rfl dX6_road_40 rfl ?_
    refine kwp_getc (pc := 41) fl_X6_7 rfl rfl dX6_road_41 ?_
    refine kwp_sipush (pc := 44) dX6_road_44 sp_457 ?_
    refine kwp_aload_n (pc := 47) 0 rfl dX6_road_47 rfl ?_
    refine kwp_getc (pc := 48) fl_X6_7 rfl rfl dX6_road_48 ?_
    refine kwp_bipush (pc := 51) dX6_road_51 bp_23 ?_
    refine kwp_iald (pc := 53) rfl (show vp_in (23 : Int32) 483 by unfold vp_in; decide) dX6_road_53 ?_
    refine kwp_iast (pc := 54) rfl (show vp_in (457 : Int32) 483 by unfold vp_in; decide) dX6_road_54 ?_
    obtain ⟨M2, eM2⟩ : ∃ z : kM, z = ku M1 1 0 (457 : Int32).toNatClampNeg (M1.1 1 0 (23 : Int32).toNatClampNeg) := ⟨_, rfl⟩
    rw [← eM2]
    have h := h M2 eM2
    refine kwp_aload_n (pc := 55) 0 rfl dX6_road_55 rfl ?_
    refine kwp_iconst (pc := 56) dX6_road_56 ic_0 ?_
    refine kwp_put (pc := 57) fp_X6_74 rfl rfl trivial dX6_road_57 ?_
    obtain ⟨M3, eM3⟩ : ∃ z : kM, z = ku M2 0 0 7 0 := ⟨_, rfl⟩
    rw [← eM3]
    have h := h M3 eM3
    refine kwp_aload_n (pc := 60) 0 rfl dX6_road_60 rfl ?_
    refine kwp_callV (pc := 61) (Y := mX6_takesRoad) (vs := []) (rest := []) fm_X6_takesRoad fi_X6_takesRoad ml_X6_115 (by decide) rfl rfl rfl rfl (by simp [kcat]) dX6_road_61 ?_
    refine kCT.mono h (fun v M4 h => ?_)
    obtain ⟨r5, rfl, h⟩ := h
    change kWP l (rg_m, g) mX6_road 64 [(0, .inr (.inr (0, 0))), (1, .inl x1)] [.inl r5] M4 (kqi Q)
    refine kwp_istore_n (pc := 64) (ls2 := [(1, .inl r5), (0, .inr (.inr (0, 0)))]) dX6_road_64 rfl (by decide) rfl ?_
    refine kwp_aload_n (pc := 65) 1 rfl dX6_road_65 rfl ?_
    refine kwp_iconst (pc := 66) dX6_road_66 ic_0 ?_
    refine kwp_put (pc := 67) fp_X6_70 rfl rfl trivial dX6_road_67 ?_
    obtain ⟨M6, eM6⟩ : ∃ z : kM, z = ku M4 0 0 3 0 := ⟨_, rfl⟩
    rw [← eM6]
    have h := h M6 eM6
    refine kwp_iload_n (pc := 70) 0 rfl dX6_road_70 rfl ?_
    refine kwp_if_ne (pc := 71) 82 dX6_road_71 (by decide) (fun hc => ?_) (fun hc => ?_)
    · have h := h.1 hc
      refine kwp_aload_n (pc := 82) 1 rfl dX6_road_82 rfl ?_
      refine kwp_sipush (pc := 83) dX6_road_83 sp_434 ?_
      refine kwp_iconst (pc := 86) dX6_road_86 ic_0 ?_
      refine kwp_bipush (pc := 87) dX6_road_87 bp_49 ?_
      refine kwp_callV (pc := 89) (Y := mX6_copyAll) (vs := [.inl 434, .inl 0, .inl 49]) (rest := []) fm_X6_copyAll fi_X6_copyAll ml_X6_118 (by decide) rfl rfl rfl rfl (by simp [kcat]) dX6_road_89 ?_
      refine kCT.mono h (fun v M7 h => ?_)
      obtain ⟨rfl, h⟩ := h
      change kWP l (rg_m, g) mX6_road 92 [(1, .inl r5), (0, .inr (.inr (0, 0)))] [] M7 (kqi Q)
      refine kwp_aload_n (pc := 92) 1 rfl dX6_road_92 rfl ?_
      refine kwp_getc (pc := 93) fl_X6_7 rfl rfl dX6_road_93 ?_
      refine kwp_bipush (pc := 96) dX6_road_96 bp_22 ?_
      refine kwp_iald (pc := 98) rfl (show vp_in (22 : Int32) 483 by unfold vp_in; decide) dX6_road_98 ?_
      exact kwp_iret (pc := 99) rfl dX6_road_99 ⟨_, rfl, h⟩
    · have h := h.2 hc
      refine kwp_bipush (pc := 74) dX6_road_74 bp_m20 ?_
      refine kwp_aload_n (pc := 76) 1 rfl dX6_road_76 rfl ?_
      refine kwp_geti (pc := 77) fl_X6_81 rfl rfl dX6_road_77 ?_
      refine kwp_isub (pc := 80) dX6_road_80 ?_
      exact kwp_iret (pc := 81) rfl dX6_road_81 ⟨_, rfl, h⟩
  · have h := h.2 hc
    refine kwp_aload_n (pc := 8) 0 rfl dX6_road_8 rfl ?_
    refine kwp_getc (pc := 9) fl_X6_7 rfl rfl dX6_road_9 ?_
    refine kwp_sipush (pc := 12) dX6_road_12 sp_434 ?_
    refine kwp_iload_n (pc := 15) 1 rfl dX6_road_15 rfl ?_
    refine kwp_iadd (pc := 16) dX6_road_16 ?_
    refine kwp_iconst (pc := 17) dX6_road_17 ic_0 ?_
    obtain ⟨hin, h⟩ := h
    refine kwp_iast (pc := 18) rfl hin dX6_road_18 ?_
    obtain ⟨M8, eM8⟩ : ∃ z : kM, z = ku M 1 0 ((434 : Int32) + x1).toNatClampNeg 0 := ⟨_, rfl⟩
    rw [← eM8]
    have h := h M8 eM8
    obtain ⟨z9, ez9⟩ : ∃ z : Int32, z = x1 + 1 := ⟨_, rfl⟩
    have h := h z9 ez9
    refine kwp_iinc (pc := 19) (v := z9) (ls2 := [(1, .inl z9), (0, .inr (.inr (0, 0)))]) 1 rfl dX6_road_19 (by rw [ez9, ic_1]) (by decide) rfl ?_
    refine kwp_goto (pc := 22) 2 dX6_road_22 (by decide) ?_
    refine kwp_sub [1, 0] rfl ?_
    exact h

set_option maxRecDepth 20000 in
theorem bX6_nextIn_0 {l : Launch} {g : va_G × (Nat → ClassId) × (Nat → Nat → Nat)} (x1 : Int32) (M : kM) (Q : Int32 → kM → Prop)
    (h : kWP l (rg_m, g) mX6_nextIn 5 [(0, .inr (.inr (0, 0))), (1, .inl x1), (2, .inl (-4)), (3, .inl 0)] [] M (kqi Q)) :
    kWP l (rg_m, g) mX6_nextIn 0 [(0, .inr (.inr (0, 0))), (1, .inl x1)] [] M (kqi Q) := by
  refine kwp_bipush (pc := 0) dX6_nextIn_0 bp_m4 ?_
  refine kwp_istore_n (pc := 2) (ls2 := [(2, .inl (-4)), (0, .inr (.inr (0, 0))), (1, .inl x1)]) dX6_nextIn_2 rfl (by decide) rfl ?_
  refine kwp_iconst (pc := 3) dX6_nextIn_3 ic_0 ?_
  refine kwp_istore_n (pc := 4) (ls2 := [(3, .inl 0), (2, .inl (-4)), (0, .inr (.inr (0, 0))), (1, .inl x1)]) dX6_nextIn_4 rfl (by decide) rfl ?_
  refine kwp_sub [2, 3, 1, 0] rfl ?_
  exact h

set_option maxRecDepth 20000 in
theorem bX6_nextIn_5 {l : Launch} {g : va_G × (Nat → ClassId) × (Nat → Nat → Nat)} (x1 : Int32) (x2 : Int32) (x3 : Int32) (M : kM) (Q : Int32 → kM → Prop)
    (h : vp_in (x1 + 22) 483 ∧ ((((M.1 1 0 (x1 + 22).toNatClampNeg) ≤ x3 → Q x2 M) ∧ (¬ (M.1 1 0 (x1 + 22).toNatClampNeg) ≤ x3 → kCT l (rg_m, g) mX6_isThere [.inr (.inr (0, 0)), .inl x1, .inl x3] M (kqi (fun r2 M1 => ((¬ r2 = 0 → kWP l (rg_m, g) mX6_nextIn 62 [(0, .inr (.inr (0, 0))), (1, .inl x1), (2, .inl x2), (3, .inl x3)] [] M1 (kqi Q)) ∧ (r2 = 0 → ((x2 = (-4) → kWP l (rg_m, g) mX6_nextIn 58 [(0, .inr (.inr (0, 0))), (1, .inl x1), (2, .inl x2), (3, .inl x3)] [] M1 (kqi Q)) ∧ (¬ x2 = (-4) → vp_in ((x1 + 12) + x3) 483 ∧ (vp_in ((x1 + 12) + x2) 483 ∧ ((((M1.1 1 0 ((x1 + 12) + x2).toNatClampNeg) ≤ (M1.1 1 0 ((x1 + 12) + x3).toNatClampNeg) → kWP l (rg_m, g) mX6_nextIn 62 [(0, .inr (.inr (0, 0))), (1, .inl x1), (2, .inl x2), (3, .inl x3)] [] M1 (kqi Q)) ∧ (¬ (M1.1 1 0 ((x1 + 12) + x2).toNatClampNeg) ≤ (M1.1 1 0 ((x1 + 12) + x3).toNatClampNeg) → kWP l (rg_m, g) mX6_nextIn 58 [(0, .inr (.inr (0, 0))), (1, .inl x1), (2, .inl x2), (3, .inl x3)] [] M1 (kqi Q))))))))))))))) :
    kWP l (rg_m, g) mX6_nextIn 5 [(0, .inr (.inr (0, 0))), (1, .inl x1), (2, .inl x2), (3, .inl x3)] [] M (kqi Q) := by
  refine kwp_iload_n (pc := 5) 3 rfl dX6_nextIn_5 rfl ?_
  refine kwp_aload_n (pc := 6) 0 rfl dX6_nextIn_6 rfl ?_
  refine kwp_getc (pc := 7) fl_X6_7 rfl rfl dX6_nextIn_7 ?_
  refine kwp_iload_n (pc := 10) 1 rfl dX6_nextIn_10 rfl ?_
  refine kwp_bipush (pc := 11) dX6_nextIn_11 bp_22 ?_
  refine kwp_iadd (pc := 13) dX6_nextIn_13 ?_
  obtain ⟨hin, h⟩ := h
  refine kwp_iald (pc := 14) rfl hin dX6_nextIn_14 ?_
  refine kwp_icmp_ge (pc := 15) 82 dX6_nextIn_15 (by decide) (fun hc => ?_) (fun hc => ?_)
  · have h := h.1 hc
    refine kwp_iload_n (pc := 82) 2 rfl dX6_nextIn_82 rfl ?_
    exact kwp_iret (pc := 83) rfl dX6_nextIn_83 ⟨_, rfl, h⟩
  · have h := h.2 hc
    refine kwp_aload_n (pc := 18) 0 rfl dX6_nextIn_18 rfl ?_
    refine kwp_iload_n (pc := 19) 1 rfl dX6_nextIn_19 rfl ?_
    refine kwp_iload_n (pc := 20) 3 rfl dX6_nextIn_20 rfl ?_
    refine kwp_callV (pc := 21) (Y := mX6_isThere) (vs := [.inl x1, .inl x3]) (rest := []) fm_X6_isThere fi_X6_isThere ml_X6_54 (by decide) rfl rfl rfl rfl (by simp [kcat]) dX6_nextIn_21 ?_
    refine kCT.mono h (fun v M1 h => ?_)
    obtain ⟨r2, rfl, h⟩ := h
    change kWP l (rg_m, g) mX6_nextIn 24 [(0, .inr (.inr (0, 0))), (1, .inl x1), (2, .inl x2), (3, .inl x3)] [.inl r2] M1 (kqi Q)
    refine kwp_if_ne (pc := 24) 62 dX6_nextIn_24 (by decide) (fun hc => ?_) (fun hc => ?_)
    · have h := h.1 hc
      exact h
    · have h := h.2 hc
      refine kwp_iload_n (pc := 27) 2 rfl dX6_nextIn_27 rfl ?_
      refine kwp_bipush (pc := 28) dX6_nextIn_28 bp_m4 ?_
      refine kwp_icmp_eq (pc := 30) 58 dX6_nextIn_30 (by decide) (fun hc => ?_) (fun hc => ?_)
      · have h := h.1 hc
        exact h
      · have h := h.2 hc
        refine kwp_aload_n (pc := 33) 0 rfl dX6_nextIn_33 rfl ?_
        refine kwp_getc (pc := 34) fl_X6_7 rfl rfl dX6_nextIn_34 ?_
        refine kwp_iload_n (pc := 37) 1 rfl dX6_nextIn_37 rfl ?_
        refine kwp_bipush (pc := 38) dX6_nextIn_38 bp_12 ?_
        refine kwp_iadd (pc := 40) dX6_nextIn_40 ?_
        refine kwp_iload_n (pc := 41) 3 rfl dX6_nextIn_41 rfl ?_
        refine kwp_iadd (pc := 42) dX6_nextIn_42 ?_
        obtain ⟨hin, h⟩ := h
        refine kwp_iald (pc := 43) rfl hin dX6_nextIn_43 ?_
        refine kwp_aload_n (pc := 44) 0 rfl dX6_nextIn_44 rfl ?_
        refine kwp_getc (pc := 45) fl_X6_7 rfl rfl dX6_nextIn_45 ?_
        refine kwp_iload_n (pc := 48) 1 rfl dX6_nextIn_48 rfl ?_
        refine kwp_bipush (pc := 49) dX6_nextIn_49 bp_12 ?_
        refine kwp_iadd (pc := 51) dX6_nextIn_51 ?_
        refine kwp_iload_n (pc := 52) 2 rfl dX6_nextIn_52 rfl ?_
        refine kwp_iadd (pc := 53) dX6_nextIn_53 ?_
        obtain ⟨hin, h⟩ := h
        refine kwp_iald (pc := 54) rfl hin dX6_nextIn_54 ?_
        refine kwp_icmp_ge (pc := 55) 62 dX6_nextIn_55 (by decide) (fun hc => ?_) (fun hc => ?_)
        · have h := h.1 hc
          exact h
        · have h := h.2 hc
          exact h

set_option maxRecDepth 20000 in
theorem bX6_nextIn_58 {l : Launch} {g : va_G × (Nat → ClassId) × (Nat → Nat → Nat)} (x1 : Int32) (x2 : Int32) (x3 : Int32) (M : kM) (Q : Int32 → kM → Prop)
    (h : kWP l (rg_m, g) mX6_nextIn 63 [(0, .inr (.inr (0, 0))), (1, .inl x1), (2, .inl x2), (3, .inl x3)] [.inl 1] M (kqi Q)) :
    kWP l (rg_m, g) mX6_nextIn 58 [(0, .inr (.inr (0, 0))), (1, .inl x1), (2, .inl x2), (3, .inl x3)] [] M (kqi Q) := by
  refine kwp_iconst (pc := 58) dX6_nextIn_58 ic_1 ?_
  refine kwp_goto (pc := 59) 63 dX6_nextIn_59 (by decide) ?_
  exact h

set_option maxRecDepth 20000 in
theorem bX6_nextIn_62 {l : Launch} {g : va_G × (Nat → ClassId) × (Nat → Nat → Nat)} (x1 : Int32) (x2 : Int32) (x3 : Int32) (M : kM) (Q : Int32 → kM → Prop)
    (h : kWP l (rg_m, g) mX6_nextIn 63 [(0, .inr (.inr (0, 0))), (1, .inl x1), (2, .inl x2), (3, .inl x3)] [.inl 0] M (kqi Q)) :
    kWP l (rg_m, g) mX6_nextIn 62 [(0, .inr (.inr (0, 0))), (1, .inl x1), (2, .inl x2), (3, .inl x3)] [] M (kqi Q) := by
  refine kwp_iconst (pc := 62) dX6_nextIn_62 ic_0 ?_
  exact h

set_option maxRecDepth 20000 in
theorem bX6_nextIn_63 {l : Launch} {g : va_G × (Nat → ClassId) × (Nat → Nat → Nat)} (x1 : Int32) (x2 : Int32) (x3 : Int32) (s0 : Int32) (M : kM) (Q : Int32 → kM → Prop)
    (h : ((s0 = 0 → kWP l (rg_m, g) mX6_nextIn 75 [(0, .inr (.inr (0, 0))), (1, .inl x1), (3, .inl x3)] [.inl x2] M (kqi Q)) ∧ (¬ s0 = 0 → kWP l (rg_m, g) mX6_nextIn 75 [(0, .inr (.inr (0, 0))), (1, .inl x1), (3, .inl x3)] [.inl x3] M (kqi Q)))) :
    kWP l (rg_m, g) mX6_nextIn 63 [(0, .inr (.inr (0, 0))), (1, .inl x1), (2, .inl x2), (3, .inl x3)] [.inl s0] M (kqi Q) := by
  refine kwp_istore (pc := 63) (ls2 := [(4, .inl s0), (0, .inr (.inr (0, 0))), (1, .inl x1), (2, .inl x2), (3, .inl x3)]) dX6_nextIn_63 (by decide) rfl ?_
  refine kwp_iload (pc := 65) 0 rfl dX6_nextIn_65 ?_
  refine kwp_if_eq (pc := 67) 74 dX6_nextIn_67 (by decide) (fun hc => ?_) (fun hc => ?_)
  · have h := h.1 hc
    refine kwp_iload_n (pc := 74) 3 rfl dX6_nextIn_74 rfl ?_
    refine kwp_sub [1, 2, 4] rfl ?_
    exact h
  · have h := h.2 hc
    refine kwp_iload_n (pc := 70) 4 rfl dX6_nextIn_70 rfl ?_
    refine kwp_goto (pc := 71) 75 dX6_nextIn_71 (by decide) ?_
    refine kwp_sub [1, 2, 4] rfl ?_
    exact h

set_option maxRecDepth 20000 in
theorem bX6_nextIn_75 {l : Launch} {g : va_G × (Nat → ClassId) × (Nat → Nat → Nat)} (x1 : Int32) (x3 : Int32) (s0 : Int32) (M : kM) (Q : Int32 → kM → Prop)
    (h : ∀ z1 : Int32, z1 = x3 + 1 → kWP l (rg_m, g) mX6_nextIn 5 [(0, .inr (.inr (0, 0))), (1, .inl x1), (2, .inl s0), (3, .inl z1)] [] M (kqi Q)) :
    kWP l (rg_m, g) mX6_nextIn 75 [(0, .inr (.inr (0, 0))), (1, .inl x1), (3, .inl x3)] [.inl s0] M (kqi Q) := by
  refine kwp_istore_n (pc := 75) (ls2 := [(2, .inl s0), (0, .inr (.inr (0, 0))), (1, .inl x1), (3, .inl x3)]) dX6_nextIn_75 rfl (by decide) rfl ?_
  obtain ⟨z1, ez1⟩ : ∃ z : Int32, z = x3 + 1 := ⟨_, rfl⟩
  have h := h z1 ez1
  refine kwp_iinc (pc := 76) (v := z1) (ls2 := [(3, .inl z1), (2, .inl s0), (0, .inr (.inr (0, 0))), (1, .inl x1)]) 3 rfl dX6_nextIn_76 (by rw [ez1, ic_1]) (by decide) rfl ?_
  refine kwp_goto (pc := 79) 5 dX6_nextIn_79 (by decide) ?_
  refine kwp_sub [2, 3, 1, 0] rfl ?_
  exact h

set_option maxRecDepth 20000 in
theorem bX6_rides_0 {l : Launch} {g : va_G × (Nat → ClassId) × (Nat → Nat → Nat)} (x1 : Int32) (x2 : Int32) (M : kM) (Q : kM → Prop)
    (h : vp_in ((x1 + 8) + x2) 483 ∧ (∀ z1 : Int32, z1 = M.1 1 0 ((x1 + 8) + x2).toNatClampNeg → vp_in ((x1 + 44) + x2) 483 ∧ (kCT l (rg_m, g) mX6_has [.inl (M.1 1 0 ((x1 + 44) + x2).toNatClampNeg), .inl z1] M (kqi (fun r3 M2 => ((r3 = 0 → kWP l (rg_m, g) mX6_rides 70 [(0, .inr (.inr (0, 0))), (1, .inl x1), (2, .inl x2), (3, .inl z1)] [] M2 (kqv Q)) ∧ (¬ r3 = 0 → vp_in ((x1 + 0) + z1) 483 ∧ ((((M2.1 1 0 ((x1 + 0) + z1).toNatClampNeg) ≤ 0 → kWP l (rg_m, g) mX6_rides 70 [(0, .inr (.inr (0, 0))), (1, .inl x1), (2, .inl x2), (3, .inl z1)] [] M2 (kqv Q)) ∧ (¬ (M2.1 1 0 ((x1 + 0) + z1).toNatClampNeg) ≤ 0 → vp_in ((x1 + 16) + x2) 483 ∧ (vp_in (x1 + 23) 483 ∧ ((((M2.1 1 0 ((x1 + 16) + x2).toNatClampNeg) < (M2.1 1 0 (x1 + 23).toNatClampNeg) → kWP l (rg_m, g) mX6_rides 70 [(0, .inr (.inr (0, 0))), (1, .inl x1), (2, .inl x2), (3, .inl z1)] [] M2 (kqv Q)) ∧ (¬ (M2.1 1 0 ((x1 + 16) + x2).toNatClampNeg) < (M2.1 1 0 (x1 + 23).toNatClampNeg) → kWP l (rg_m, g) mX6_rides 71 [(0, .inr (.inr (0, 0))), (1, .inl x1), (2, .inl x2), (3, .inl z1)] [.inl 1] M2 (kqv Q))))))))))))))) :
    kWP l (rg_m, g) mX6_rides 0 [(0, .inr (.inr (0, 0))), (1, .inl x1), (2, .inl x2)] [] M (kqv Q) := by
  refine kwp_aload_n (pc := 0) 0 rfl dX6_rides_0 rfl ?_
  refine kwp_getc (pc := 1) fl_X6_7 rfl rfl dX6_rides_1 ?_
  refine kwp_iload_n (pc := 4) 1 rfl dX6_rides_4 rfl ?_
  refine kwp_bipush (pc := 5) dX6_rides_5 bp_8 ?_
  refine kwp_iadd (pc := 7) dX6_rides_7 ?_
  refine kwp_iload_n (pc := 8) 2 rfl dX6_rides_8 rfl ?_
  refine kwp_iadd (pc := 9) dX6_rides_9 ?_
  obtain ⟨hin, h⟩ := h
  refine kwp_iald (pc := 10) rfl hin dX6_rides_10 ?_
  obtain ⟨z1, ez1⟩ : ∃ z : Int32, z = M.1 1 0 ((x1 + 8) + x2).toNatClampNeg := ⟨_, rfl⟩
  rw [← ez1]
  have h := h z1 ez1
  refine kwp_istore_n (pc := 11) (ls2 := [(3, .inl z1), (0, .inr (.inr (0, 0))), (1, .inl x1), (2, .inl x2)]) dX6_rides_11 rfl (by decide) rfl ?_
  refine kwp_aload_n (pc := 12) 1 rfl dX6_rides_12 rfl ?_
  refine kwp_getc (pc := 13) fl_X6_7 rfl rfl dX6_rides_13 ?_
  refine kwp_iload_n (pc := 16) 2 rfl dX6_rides_16 rfl ?_
  refine kwp_bipush (pc := 17) dX6_rides_17 bp_44 ?_
  refine kwp_iadd (pc := 19) dX6_rides_19 ?_
  refine kwp_iload_n (pc := 20) 3 rfl dX6_rides_20 rfl ?_
  refine kwp_iadd (pc := 21) dX6_rides_21 ?_
  obtain ⟨hin, h⟩ := h
  refine kwp_iald (pc := 22) rfl hin dX6_rides_22 ?_
  refine kwp_iload_n (pc := 23) 0 rfl dX6_rides_23 rfl ?_
  refine kwp_callS (pc := 24) (Y := mX6_has) (vs := [.inl (M.1 1 0 ((x1 + 44) + x2).toNatClampNeg), .inl z1]) (rest := []) fm_X6_has fs_X6_has ml_X6_122 (by decide) rfl rfl (by simp [kcat]) dX6_rides_24 ?_
  refine kCT.mono h (fun v M2 h => ?_)
  obtain ⟨r3, rfl, h⟩ := h
  change kWP l (rg_m, g) mX6_rides 27 [(3, .inl z1), (0, .inr (.inr (0, 0))), (1, .inl x1), (2, .inl x2)] [.inl r3] M2 (kqv Q)
  refine kwp_if_eq (pc := 27) 70 dX6_rides_27 (by decide) (fun hc => ?_) (fun hc => ?_)
  · have h := h.1 hc
    refine kwp_sub [1, 2, 3, 0] rfl ?_
    exact h
  · have h := h.2 hc
    refine kwp_aload_n (pc := 30) 1 rfl dX6_rides_30 rfl ?_
    refine kwp_getc (pc := 31) fl_X6_7 rfl rfl dX6_rides_31 ?_
    refine kwp_iload_n (pc := 34) 2 rfl dX6_rides_34 rfl ?_
    refine kwp_iconst (pc := 35) dX6_rides_35 ic_0 ?_
    refine kwp_iadd (pc := 36) dX6_rides_36 ?_
    refine kwp_iload_n (pc := 37) 0 rfl dX6_rides_37 rfl ?_
    refine kwp_iadd (pc := 38) dX6_rides_38 ?_
    obtain ⟨hin, h⟩ := h
    refine kwp_iald (pc := 39) rfl hin dX6_rides_39 ?_
    refine kwp_if_le (pc := 40) 70 dX6_rides_40 (by decide) (fun hc => ?_) (fun hc => ?_)
    · have h := h.1 hc
      refine kwp_sub [1, 2, 3, 0] rfl ?_
      exact h
    · have h := h.2 hc
      refine kwp_aload_n (pc := 43) 1 rfl dX6_rides_43 rfl ?_
      refine kwp_getc (pc := 44) fl_X6_7 rfl rfl dX6_rides_44 ?_
      refine kwp_iload_n (pc := 47) 2 rfl dX6_rides_47 rfl ?_
      refine kwp_bipush (pc := 48) dX6_rides_48 bp_16 ?_
      refine kwp_iadd (pc := 50) dX6_rides_50 ?_
      refine kwp_iload_n (pc := 51) 3 rfl dX6_rides_51 rfl ?_
      refine kwp_iadd (pc := 52) dX6_rides_52 ?_
      obtain ⟨hin, h⟩ := h
      refine kwp_iald (pc := 53) rfl hin dX6_rides_53 ?_
      refine kwp_aload_n (pc := 54) 1 rfl dX6_rides_54 rfl ?_
      refine kwp_getc (pc := 55) fl_X6_7 rfl rfl dX6_rides_55 ?_
      refine kwp_iload_n (pc := 58) 2 rfl dX6_rides_58 rfl ?_
      refine kwp_bipush (pc := 59) dX6_rides_59 bp_23 ?_
      refine kwp_iadd (pc := 61) dX6_rides_61 ?_
      obtain ⟨hin, h⟩ := h
      refine kwp_iald (pc := 62) rfl hin dX6_rides_62 ?_
      refine kwp_icmp_lt (pc := 63) 70 dX6_rides_63 (by decide) (fun hc => ?_) (fun hc => ?_)
      · have h := h.1 hc
        refine kwp_sub [1, 2, 3, 0] rfl ?_
        exact h
      · have h := h.2 hc
        refine kwp_iconst (pc := 66) dX6_rides_66 ic_1 ?_
        refine kwp_goto (pc := 67) 71 dX6_rides_67 (by decide) ?_
        refine kwp_sub [1, 2, 3, 0] rfl ?_
        exact h

set_option maxRecDepth 20000 in
theorem bX6_rides_70 {l : Launch} {g : va_G × (Nat → ClassId) × (Nat → Nat → Nat)} (x1 : Int32) (x2 : Int32) (x3 : Int32) (M : kM) (Q : kM → Prop)
    (h : kWP l (rg_m, g) mX6_rides 71 [(0, .inr (.inr (0, 0))), (1, .inl x1), (2, .inl x2), (3, .inl x3)] [.inl 0] M (kqv Q)) :
    kWP l (rg_m, g) mX6_rides 70 [(0, .inr (.inr (0, 0))), (1, .inl x1), (2, .inl x2), (3, .inl x3)] [] M (kqv Q) := by
  refine kwp_iconst (pc := 70) dX6_rides_70 ic_0 ?_
  exact h

set_option maxRecDepth 20000 in
theorem bX6_rides_71 {l : Launch} {g : va_G × (Nat → ClassId) × (Nat → Nat → Nat)} (x1 : Int32) (x2 : Int32) (x3 : Int32) (s0 : Int32) (M : kM) (Q : kM → Prop)
    (h : vp_in ((x1 + 16) + x2) 483 ∧ (((s0 = 0 → kWP l (rg_m, g) mX6_rides 103 [(0, .inr (.inr (0, 0))), (1, .inl x1), (2, .inl x2), (3, .inl x3), (4, .inl s0)] [.inl 0, .inl (M.1 1 0 ((x1 + 16) + x2).toNatClampNeg), .inl ((x1 + 16) + x2), .inr (.inr (1, 0))] M (kqv Q)) ∧ (¬ s0 = 0 → vp_in (x1 + 23) 483 ∧ (kWP l (rg_m, g) mX6_rides 103 [(0, .inr (.inr (0, 0))), (1, .inl x1), (2, .inl x2), (3, .inl x3), (4, .inl s0)] [.inl (M.1 1 0 (x1 + 23).toNatClampNeg), .inl (M.1 1 0 ((x1 + 16) + x2).toNatClampNeg), .inl ((x1 + 16) + x2), .inr (.inr (1, 0))] M (kqv Q)))))) :
    kWP l (rg_m, g) mX6_rides 71 [(0, .inr (.inr (0, 0))), (1, .inl x1), (2, .inl x2), (3, .inl x3)] [.inl s0] M (kqv Q) := by
  refine kwp_istore (pc := 71) (ls2 := [(4, .inl s0), (0, .inr (.inr (0, 0))), (1, .inl x1), (2, .inl x2), (3, .inl x3)]) dX6_rides_71 (by decide) rfl ?_
  refine kwp_aload_n (pc := 73) 1 rfl dX6_rides_73 rfl ?_
  refine kwp_getc (pc := 74) fl_X6_7 rfl rfl dX6_rides_74 ?_
  refine kwp_iload_n (pc := 77) 2 rfl dX6_rides_77 rfl ?_
  refine kwp_bipush (pc := 78) dX6_rides_78 bp_16 ?_
  refine kwp_iadd (pc := 80) dX6_rides_80 ?_
  refine kwp_iload_n (pc := 81) 3 rfl dX6_rides_81 rfl ?_
  refine kwp_iadd (pc := 82) dX6_rides_82 ?_
  refine kwp_dup2 (pc := 83) dX6_rides_83 rfl rfl ?_
  obtain ⟨hin, h⟩ := h
  refine kwp_iald (pc := 84) rfl hin dX6_rides_84 ?_
  refine kwp_iload (pc := 85) 0 rfl dX6_rides_85 ?_
  refine kwp_if_eq (pc := 87) 102 dX6_rides_87 (by decide) (fun hc => ?_) (fun hc => ?_)
  · have h := h.1 hc
    refine kwp_iconst (pc := 102) dX6_rides_102 ic_0 ?_
    refine kwp_sub [1, 2, 3, 4, 0] rfl ?_
    exact h
  · have h := h.2 hc
    refine kwp_aload_n (pc := 90) 1 rfl dX6_rides_90 rfl ?_
    refine kwp_getc (pc := 91) fl_X6_7 rfl rfl dX6_rides_91 ?_
    refine kwp_iload_n (pc := 94) 2 rfl dX6_rides_94 rfl ?_
    refine kwp_bipush (pc := 95) dX6_rides_95 bp_23 ?_
    refine kwp_iadd (pc := 97) dX6_rides_97 ?_
    obtain ⟨hin, h⟩ := h
    refine kwp_iald (pc := 98) rfl hin dX6_rides_98 ?_
    refine kwp_goto (pc := 99) 103 dX6_rides_99 (by decide) ?_
    refine kwp_sub [1, 2, 3, 4, 0] rfl ?_
    exact h

set_option maxRecDepth 20000 in
theorem bX6_rides_103 {l : Launch} {g : va_G × (Nat → ClassId) × (Nat → Nat → Nat)} (x1 : Int32) (x2 : Int32) (x3 : Int32) (x4 : Int32) (s0 : Int32) (s1 : Int32) (s2 : Int32) (M : kM) (Q : kM → Prop)
    (h : vp_in s2 483 ∧ (∀ M1 : kM, M1 = ku M 1 0 s2.toNatClampNeg (s1 - s0) → vp_in ((x1 + 0) + x3) 483 ∧ (((x4 = 0 → kWP l (rg_m, g) mX6_rides 126 [(0, .inr (.inr (0, 0))), (1, .inl x1), (2, .inl x2), (3, .inl x3), (4, .inl x4)] [.inl 0, .inl (M1.1 1 0 ((x1 + 0) + x3).toNatClampNeg), .inl ((x1 + 0) + x3), .inr (.inr (1, 0))] M1 (kqv Q)) ∧ (¬ x4 = 0 → kWP l (rg_m, g) mX6_rides 126 [(0, .inr (.inr (0, 0))), (1, .inl x1), (2, .inl x2), (3, .inl x3), (4, .inl x4)] [.inl 1, .inl (M1.1 1 0 ((x1 + 0) + x3).toNatClampNeg), .inl ((x1 + 0) + x3), .inr (.inr (1, 0))] M1 (kqv Q)))))) :
    kWP l (rg_m, g) mX6_rides 103 [(0, .inr (.inr (0, 0))), (1, .inl x1), (2, .inl x2), (3, .inl x3), (4, .inl x4)] [.inl s0, .inl s1, .inl s2, .inr (.inr (1, 0))] M (kqv Q) := by
  refine kwp_isub (pc := 103) dX6_rides_103 ?_
  obtain ⟨hin, h⟩ := h
  refine kwp_iast (pc := 104) rfl hin dX6_rides_104 ?_
  obtain ⟨M1, eM1⟩ : ∃ z : kM, z = ku M 1 0 s2.toNatClampNeg (s1 - s0) := ⟨_, rfl⟩
  rw [← eM1]
  have h := h M1 eM1
  refine kwp_aload_n (pc := 105) 0 rfl dX6_rides_105 rfl ?_
  refine kwp_getc (pc := 106) fl_X6_7 rfl rfl dX6_rides_106 ?_
  refine kwp_iload_n (pc := 109) 1 rfl dX6_rides_109 rfl ?_
  refine kwp_iconst (pc := 110) dX6_rides_110 ic_0 ?_
  refine kwp_iadd (pc := 111) dX6_rides_111 ?_
  refine kwp_iload_n (pc := 112) 3 rfl dX6_rides_112 rfl ?_
  refine kwp_iadd (pc := 113) dX6_rides_113 ?_
  refine kwp_dup2 (pc := 114) dX6_rides_114 rfl rfl ?_
  obtain ⟨hin, h⟩ := h
  refine kwp_iald (pc := 115) rfl hin dX6_rides_115 ?_
  refine kwp_iload (pc := 116) 4 rfl dX6_rides_116 ?_
  refine kwp_if_eq (pc := 118) 125 dX6_rides_118 (by decide) (fun hc => ?_) (fun hc => ?_)
  · have h := h.1 hc
    refine kwp_iconst (pc := 125) dX6_rides_125 ic_0 ?_
    exact h
  · have h := h.2 hc
    refine kwp_iconst (pc := 121) dX6_rides_121 ic_1 ?_
    refine kwp_goto (pc := 122) 126 dX6_rides_122 (by decide) ?_
    exact h

set_option maxRecDepth 20000 in
theorem bX6_rides_126 {l : Launch} {g : va_G × (Nat → ClassId) × (Nat → Nat → Nat)} (x1 : Int32) (x2 : Int32) (x3 : Int32) (x4 : Int32) (s0 : Int32) (s1 : Int32) (s2 : Int32) (M : kM) (Q : kM → Prop)
    (h : vp_in s2 483 ∧ (∀ M1 : kM, M1 = ku M 1 0 s2.toNatClampNeg (s1 - s0) → vp_in ((x1 + 16) + x2) 483 ∧ (vp_in ((x1 + 32) + x3) 483 ∧ ((((M1.1 1 0 ((x1 + 16) + x2).toNatClampNeg) < (M1.1 1 0 ((x1 + 32) + x3).toNatClampNeg) → kWP l (rg_m, g) mX6_rides 158 [(0, .inr (.inr (0, 0))), (1, .inl x1), (2, .inl x2), (3, .inl x3), (4, .inl x4)] [.inl 0] M1 (kqv Q)) ∧ (¬ (M1.1 1 0 ((x1 + 16) + x2).toNatClampNeg) < (M1.1 1 0 ((x1 + 32) + x3).toNatClampNeg) → kWP l (rg_m, g) mX6_rides 158 [(0, .inr (.inr (0, 0))), (1, .inl x1), (2, .inl x2), (3, .inl x3), (4, .inl x4)] [.inl 1] M1 (kqv Q))))))) :
    kWP l (rg_m, g) mX6_rides 126 [(0, .inr (.inr (0, 0))), (1, .inl x1), (2, .inl x2), (3, .inl x3), (4, .inl x4)] [.inl s0, .inl s1, .inl s2, .inr (.inr (1, 0))] M (kqv Q) := by
  refine kwp_isub (pc := 126) dX6_rides_126 ?_
  obtain ⟨hin, h⟩ := h
  refine kwp_iast (pc := 127) rfl hin dX6_rides_127 ?_
  obtain ⟨M1, eM1⟩ : ∃ z : kM, z = ku M 1 0 s2.toNatClampNeg (s1 - s0) := ⟨_, rfl⟩
  rw [← eM1]
  have h := h M1 eM1
  refine kwp_aload_n (pc := 128) 0 rfl dX6_rides_128 rfl ?_
  refine kwp_getc (pc := 129) fl_X6_7 rfl rfl dX6_rides_129 ?_
  refine kwp_iload_n (pc := 132) 1 rfl dX6_rides_132 rfl ?_
  refine kwp_bipush (pc := 133) dX6_rides_133 bp_16 ?_
  refine kwp_iadd (pc := 135) dX6_rides_135 ?_
  refine kwp_iload_n (pc := 136) 2 rfl dX6_rides_136 rfl ?_
  refine kwp_iadd (pc := 137) dX6_rides_137 ?_
  obtain ⟨hin, h⟩ := h
  refine kwp_iald (pc := 138) rfl hin dX6_rides_138 ?_
  refine kwp_aload_n (pc := 139) 0 rfl dX6_rides_139 rfl ?_
  refine kwp_getc (pc := 140) fl_X6_7 rfl rfl dX6_rides_140 ?_
  refine kwp_iload_n (pc := 143) 1 rfl dX6_rides_143 rfl ?_
  refine kwp_bipush (pc := 144) dX6_rides_144 bp_32 ?_
  refine kwp_iadd (pc := 146) dX6_rides_146 ?_
  refine kwp_iload_n (pc := 147) 3 rfl dX6_rides_147 rfl ?_
  refine kwp_iadd (pc := 148) dX6_rides_148 ?_
  obtain ⟨hin, h⟩ := h
  refine kwp_iald (pc := 149) rfl hin dX6_rides_149 ?_
  refine kwp_icmp_lt (pc := 150) 157 dX6_rides_150 (by decide) (fun hc => ?_) (fun hc => ?_)
  · have h := h.1 hc
    refine kwp_iconst (pc := 157) dX6_rides_157 ic_0 ?_
    exact h
  · have h := h.2 hc
    refine kwp_iconst (pc := 153) dX6_rides_153 ic_1 ?_
    refine kwp_goto (pc := 154) 158 dX6_rides_154 (by decide) ?_
    exact h

set_option maxRecDepth 20000 in
theorem bX6_rides_158 {l : Launch} {g : va_G × (Nat → ClassId) × (Nat → Nat → Nat)} (x1 : Int32) (x2 : Int32) (x3 : Int32) (x4 : Int32) (s0 : Int32) (M : kM) (Q : kM → Prop)
    (h : vp_in ((x1 + 16) + x2) 483 ∧ (((s0 = 0 → kWP l (rg_m, g) mX6_rides 192 [(0, .inr (.inr (0, 0))), (1, .inl x1), (2, .inl x2), (3, .inl x3), (4, .inl x4), (5, .inl s0)] [.inl 0, .inl (M.1 1 0 ((x1 + 16) + x2).toNatClampNeg), .inl ((x1 + 16) + x2), .inr (.inr (1, 0))] M (kqv Q)) ∧ (¬ s0 = 0 → vp_in ((x1 + 32) + x3) 483 ∧ (kWP l (rg_m, g) mX6_rides 192 [(0, .inr (.inr (0, 0))), (1, .inl x1), (2, .inl x2), (3, .inl x3), (4, .inl x4), (5, .inl s0)] [.inl (M.1 1 0 ((x1 + 32) + x3).toNatClampNeg), .inl (M.1 1 0 ((x1 + 16) + x2).toNatClampNeg), .inl ((x1 + 16) + x2), .inr (.inr (1, 0))] M (kqv Q)))))) :
    kWP l (rg_m, g) mX6_rides 158 [(0, .inr (.inr (0, 0))), (1, .inl x1), (2, .inl x2), (3, .inl x3), (4, .inl x4)] [.inl s0] M (kqv Q) := by
  refine kwp_istore (pc := 158) (ls2 := [(5, .inl s0), (0, .inr (.inr (0, 0))), (1, .inl x1), (2, .inl x2), (3, .inl x3), (4, .inl x4)]) dX6_rides_158 (by decide) rfl ?_
  refine kwp_aload_n (pc := 160) 1 rfl dX6_rides_160 rfl ?_
  refine kwp_getc (pc := 161) fl_X6_7 rfl rfl dX6_rides_161 ?_
  refine kwp_iload_n (pc := 164) 2 rfl dX6_rides_164 rfl ?_
  refine kwp_bipush (pc := 165) dX6_rides_165 bp_16 ?_
  refine kwp_iadd (pc := 167) dX6_rides_167 ?_
  refine kwp_iload_n (pc := 168) 3 rfl dX6_rides_168 rfl ?_
  refine kwp_iadd (pc := 169) dX6_rides_169 ?_
  refine kwp_dup2 (pc := 170) dX6_rides_170 rfl rfl ?_
  obtain ⟨hin, h⟩ := h
  refine kwp_iald (pc := 171) rfl hin dX6_rides_171 ?_
  refine kwp_iload (pc := 172) 0 rfl dX6_rides_172 ?_
  refine kwp_if_eq (pc := 174) 191 dX6_rides_174 (by decide) (fun hc => ?_) (fun hc => ?_)
  · have h := h.1 hc
    refine kwp_iconst (pc := 191) dX6_rides_191 ic_0 ?_
    refine kwp_sub [1, 2, 3, 4, 5, 0] rfl ?_
    exact h
  · have h := h.2 hc
    refine kwp_aload_n (pc := 177) 1 rfl dX6_rides_177 rfl ?_
    refine kwp_getc (pc := 178) fl_X6_7 rfl rfl dX6_rides_178 ?_
    refine kwp_iload_n (pc := 181) 2 rfl dX6_rides_181 rfl ?_
    refine kwp_bipush (pc := 182) dX6_rides_182 bp_32 ?_
    refine kwp_iadd (pc := 184) dX6_rides_184 ?_
    refine kwp_iload_n (pc := 185) 4 rfl dX6_rides_185 rfl ?_
    refine kwp_iadd (pc := 186) dX6_rides_186 ?_
    obtain ⟨hin, h⟩ := h
    refine kwp_iald (pc := 187) rfl hin dX6_rides_187 ?_
    refine kwp_goto (pc := 188) 192 dX6_rides_188 (by decide) ?_
    refine kwp_sub [1, 2, 3, 4, 5, 0] rfl ?_
    exact h

set_option maxRecDepth 20000 in
theorem bX6_rides_192 {l : Launch} {g : va_G × (Nat → ClassId) × (Nat → Nat → Nat)} (x1 : Int32) (x2 : Int32) (x3 : Int32) (x4 : Int32) (x5 : Int32) (s0 : Int32) (s1 : Int32) (s2 : Int32) (M : kM) (Q : kM → Prop)
    (h : vp_in s2 483 ∧ (∀ M1 : kM, M1 = ku M 1 0 s2.toNatClampNeg (s1 - s0) → vp_in ((x1 + 12) + x2) 483 ∧ (((x5 = 0 → kWP l (rg_m, g) mX6_rides 217 [(0, .inr (.inr (0, 0))), (1, .inl x1), (2, .inl x2), (3, .inl x3), (4, .inl x4)] [.inl 10, .inl (M1.1 1 0 ((x1 + 12) + x2).toNatClampNeg), .inl ((x1 + 12) + x2), .inr (.inr (1, 0))] M1 (kqv Q)) ∧ (¬ x5 = 0 → kWP l (rg_m, g) mX6_rides 217 [(0, .inr (.inr (0, 0))), (1, .inl x1), (2, .inl x2), (3, .inl x3), (4, .inl x4)] [.inl 0, .inl (M1.1 1 0 ((x1 + 12) + x2).toNatClampNeg), .inl ((x1 + 12) + x2), .inr (.inr (1, 0))] M1 (kqv Q)))))) :
    kWP l (rg_m, g) mX6_rides 192 [(0, .inr (.inr (0, 0))), (1, .inl x1), (2, .inl x2), (3, .inl x3), (4, .inl x4), (5, .inl x5)] [.inl s0, .inl s1, .inl s2, .inr (.inr (1, 0))] M (kqv Q) := by
  refine kwp_isub (pc := 192) dX6_rides_192 ?_
  obtain ⟨hin, h⟩ := h
  refine kwp_iast (pc := 193) rfl hin dX6_rides_193 ?_
  obtain ⟨M1, eM1⟩ : ∃ z : kM, z = ku M 1 0 s2.toNatClampNeg (s1 - s0) := ⟨_, rfl⟩
  rw [← eM1]
  have h := h M1 eM1
  refine kwp_aload_n (pc := 194) 0 rfl dX6_rides_194 rfl ?_
  refine kwp_getc (pc := 195) fl_X6_7 rfl rfl dX6_rides_195 ?_
  refine kwp_iload_n (pc := 198) 1 rfl dX6_rides_198 rfl ?_
  refine kwp_bipush (pc := 199) dX6_rides_199 bp_12 ?_
  refine kwp_iadd (pc := 201) dX6_rides_201 ?_
  refine kwp_iload_n (pc := 202) 2 rfl dX6_rides_202 rfl ?_
  refine kwp_iadd (pc := 203) dX6_rides_203 ?_
  refine kwp_dup2 (pc := 204) dX6_rides_204 rfl rfl ?_
  obtain ⟨hin, h⟩ := h
  refine kwp_iald (pc := 205) rfl hin dX6_rides_205 ?_
  refine kwp_iload (pc := 206) 5 rfl dX6_rides_206 ?_
  refine kwp_if_eq (pc := 208) 215 dX6_rides_208 (by decide) (fun hc => ?_) (fun hc => ?_)
  · have h := h.1 hc
    refine kwp_bipush (pc := 215) dX6_rides_215 bp_10 ?_
    refine kwp_sub [0, 1, 2, 3, 4] rfl ?_
    exact h
  · have h := h.2 hc
    refine kwp_iconst (pc := 211) dX6_rides_211 ic_0 ?_
    refine kwp_goto (pc := 212) 217 dX6_rides_212 (by decide) ?_
    refine kwp_sub [0, 1, 2, 3, 4] rfl ?_
    exact h

set_option maxRecDepth 20000 in
theorem bX6_rides_217 {l : Launch} {g : va_G × (Nat → ClassId) × (Nat → Nat → Nat)} (x1 : Int32) (x2 : Int32) (x3 : Int32) (x4 : Int32) (s0 : Int32) (s1 : Int32) (s2 : Int32) (M : kM) (Q : kM → Prop)
    (h : vp_in ((x1 + 40) + x2) 483 ∧ (vp_in ((x1 + 24) + x3) 483 ∧ (kCT l (rg_m, g) mX6_takes [.inl (M.1 1 0 ((x1 + 40) + x2).toNatClampNeg), .inl (M.1 1 0 ((x1 + 24) + x3).toNatClampNeg), .inl x4] M (kqi (fun r2 M1 => vp_in s2 483 ∧ (∀ M3 : kM, M3 = ku M1 1 0 s2.toNatClampNeg (s1 + (s0 + r2)) → vp_in ((x1 + 8) + x2) 483 ∧ (vp_in ((x1 + 8) + x2) 483 ∧ (∀ M4 : kM, M4 = ku M3 1 0 ((x1 + 8) + x2).toNatClampNeg ((M3.1 1 0 ((x1 + 8) + x2).toNatClampNeg) + 1) → Q M4)))))))) :
    kWP l (rg_m, g) mX6_rides 217 [(0, .inr (.inr (0, 0))), (1, .inl x1), (2, .inl x2), (3, .inl x3), (4, .inl x4)] [.inl s0, .inl s1, .inl s2, .inr (.inr (1, 0))] M (kqv Q) := by
  refine kwp_aload_n (pc := 217) 0 rfl dX6_rides_217 rfl ?_
  refine kwp_getc (pc := 218) fl_X6_7 rfl rfl dX6_rides_218 ?_
  refine kwp_iload_n (pc := 221) 1 rfl dX6_rides_221 rfl ?_
  refine kwp_bipush (pc := 222) dX6_rides_222 bp_40 ?_
  refine kwp_iadd (pc := 224) dX6_rides_224 ?_
  refine kwp_iload_n (pc := 225) 2 rfl dX6_rides_225 rfl ?_
  refine kwp_iadd (pc := 226) dX6_rides_226 ?_
  obtain ⟨hin, h⟩ := h
  refine kwp_iald (pc := 227) rfl hin dX6_rides_227 ?_
  refine kwp_aload_n (pc := 228) 0 rfl dX6_rides_228 rfl ?_
  refine kwp_getc (pc := 229) fl_X6_7 rfl rfl dX6_rides_229 ?_
  refine kwp_iload_n (pc := 232) 1 rfl dX6_rides_232 rfl ?_
  refine kwp_bipush (pc := 233) dX6_rides_233 bp_24 ?_
  refine kwp_iadd (pc := 235) dX6_rides_235 ?_
  refine kwp_iload_n (pc := 236) 3 rfl dX6_rides_236 rfl ?_
  refine kwp_iadd (pc := 237) dX6_rides_237 ?_
  obtain ⟨hin, h⟩ := h
  refine kwp_iald (pc := 238) rfl hin dX6_rides_238 ?_
  refine kwp_iload (pc := 239) 4 rfl dX6_rides_239 ?_
  refine kwp_callS (pc := 241) (Y := mX6_takes) (vs := [.inl (M.1 1 0 ((x1 + 40) + x2).toNatClampNeg), .inl (M.1 1 0 ((x1 + 24) + x3).toNatClampNeg), .inl x4]) (rest := [.inl s0, .inl s1, .inl s2, .inr (.inr (1, 0))]) fm_X6_takes fs_X6_takes ml_X6_58 (by decide) rfl rfl (by simp [kcat]) dX6_rides_241 ?_
  refine kCT.mono h (fun v M1 h => ?_)
  obtain ⟨r2, rfl, h⟩ := h
  change kWP l (rg_m, g) mX6_rides 244 [(0, .inr (.inr (0, 0))), (1, .inl x1), (2, .inl x2), (3, .inl x3), (4, .inl x4)] [.inl r2, .inl s0, .inl s1, .inl s2, .inr (.inr (1, 0))] M1 (kqv Q)
  refine kwp_iadd (pc := 244) dX6_rides_244 ?_
  refine kwp_iadd (pc := 245) dX6_rides_245 ?_
  obtain ⟨hin, h⟩ := h
  refine kwp_iast (pc := 246) rfl hin dX6_rides_246 ?_
  obtain ⟨M3, eM3⟩ : ∃ z : kM, z = ku M1 1 0 s2.toNatClampNeg (s1 + (s0 + r2)) := ⟨_, rfl⟩
  rw [← eM3]
  have h := h M3 eM3
  refine kwp_aload_n (pc := 247) 0 rfl dX6_rides_247 rfl ?_
  refine kwp_getc (pc := 248) fl_X6_7 rfl rfl dX6_rides_248 ?_
  refine kwp_iload_n (pc := 251) 1 rfl dX6_rides_251 rfl ?_
  refine kwp_bipush (pc := 252) dX6_rides_252 bp_8 ?_
  refine kwp_iadd (pc := 254) dX6_rides_254 ?_
  refine kwp_iload_n (pc := 255) 2 rfl dX6_rides_255 rfl ?_
  refine kwp_iadd (pc := 256) dX6_rides_256 ?_
  refine kwp_dup2 (pc := 257) dX6_rides_257 rfl rfl ?_
  obtain ⟨hin, h⟩ := h
  refine kwp_iald (pc := 258) rfl hin dX6_rides_258 ?_
  refine kwp_iconst (pc := 259) dX6_rides_259 ic_1 ?_
  refine kwp_iadd (pc := 260) dX6_rides_260 ?_
  obtain ⟨hin, h⟩ := h
  refine kwp_iast (pc := 261) rfl hin dX6_rides_261 ?_
  obtain ⟨M4, eM4⟩ : ∃ z : kM, z = ku M3 1 0 ((x1 + 8) + x2).toNatClampNeg ((M3.1 1 0 ((x1 + 8) + x2).toNatClampNeg) + 1) := ⟨_, rfl⟩
  rw [← eM4]
  have h := h M4 eM4
  exact kwp_vret (pc := 262) rfl dX6_rides_262 ⟨rfl, h⟩

set_option maxRecDepth 20000 in
theorem bX6_thereIn_0 {l : Launch} {g : va_G × (Nat → ClassId) × (Nat → Nat → Nat)} (x1 : Int32) (M : kM) (Q : Int32 → kM → Prop)
    (h : kWP l (rg_m, g) mX6_thereIn 4 [(0, .inr (.inr (0, 0))), (1, .inl x1), (2, .inl 0), (3, .inl 0)] [] M (kqi Q)) :
    kWP l (rg_m, g) mX6_thereIn 0 [(0, .inr (.inr (0, 0))), (1, .inl x1)] [] M (kqi Q) := by
  refine kwp_iconst (pc := 0) dX6_thereIn_0 ic_0 ?_
  refine kwp_istore_n (pc := 1) (ls2 := [(2, .inl 0), (0, .inr (.inr (0, 0))), (1, .inl x1)]) dX6_thereIn_1 rfl (by decide) rfl ?_
  refine kwp_iconst (pc := 2) dX6_thereIn_2 ic_0 ?_
  refine kwp_istore_n (pc := 3) (ls2 := [(3, .inl 0), (2, .inl 0), (0, .inr (.inr (0, 0))), (1, .inl x1)]) dX6_thereIn_3 rfl (by decide) rfl ?_
  refine kwp_sub [2, 3, 1, 0] rfl ?_
  exact h

set_option maxRecDepth 20000 in
theorem bX6_thereIn_4 {l : Launch} {g : va_G × (Nat → ClassId) × (Nat → Nat → Nat)} (x1 : Int32) (x2 : Int32) (x3 : Int32) (M : kM) (Q : Int32 → kM → Prop)
    (h : vp_in (x1 + 22) 483 ∧ ((((M.1 1 0 (x1 + 22).toNatClampNeg) ≤ x3 → Q x2 M) ∧ (¬ (M.1 1 0 (x1 + 22).toNatClampNeg) ≤ x3 → kCT l (rg_m, g) mX6_isThere [.inr (.inr (0, 0)), .inl x1, .inl x3] M (kqi (fun r2 M1 => ((r2 = 0 → kWP l (rg_m, g) mX6_thereIn 34 [(0, .inr (.inr (0, 0))), (1, .inl x1), (3, .inl x3)] [.inl 0, .inl x2] M1 (kqi Q)) ∧ (¬ r2 = 0 → kWP l (rg_m, g) mX6_thereIn 34 [(0, .inr (.inr (0, 0))), (1, .inl x1), (3, .inl x3)] [.inl ((1 : Int32) <<< (x3 &&& 31)), .inl x2] M1 (kqi Q))))))))) :
    kWP l (rg_m, g) mX6_thereIn 4 [(0, .inr (.inr (0, 0))), (1, .inl x1), (2, .inl x2), (3, .inl x3)] [] M (kqi Q) := by
  refine kwp_iload_n (pc := 4) 3 rfl dX6_thereIn_4 rfl ?_
  refine kwp_aload_n (pc := 5) 0 rfl dX6_thereIn_5 rfl ?_
  refine kwp_getc (pc := 6) fl_X6_7 rfl rfl dX6_thereIn_6 ?_
  refine kwp_iload_n (pc := 9) 1 rfl dX6_thereIn_9 rfl ?_
  refine kwp_bipush (pc := 10) dX6_thereIn_10 bp_22 ?_
  refine kwp_iadd (pc := 12) dX6_thereIn_12 ?_
  obtain ⟨hin, h⟩ := h
  refine kwp_iald (pc := 13) rfl hin dX6_thereIn_13 ?_
  refine kwp_icmp_ge (pc := 14) 42 dX6_thereIn_14 (by decide) (fun hc => ?_) (fun hc => ?_)
  · have h := h.1 hc
    refine kwp_iload_n (pc := 42) 2 rfl dX6_thereIn_42 rfl ?_
    exact kwp_iret (pc := 43) rfl dX6_thereIn_43 ⟨_, rfl, h⟩
  · have h := h.2 hc
    refine kwp_iload_n (pc := 17) 2 rfl dX6_thereIn_17 rfl ?_
    refine kwp_aload_n (pc := 18) 0 rfl dX6_thereIn_18 rfl ?_
    refine kwp_iload_n (pc := 19) 1 rfl dX6_thereIn_19 rfl ?_
    refine kwp_iload_n (pc := 20) 3 rfl dX6_thereIn_20 rfl ?_
    refine kwp_callV (pc := 21) (Y := mX6_isThere) (vs := [.inl x1, .inl x3]) (rest := [.inl x2]) fm_X6_isThere fi_X6_isThere ml_X6_54 (by decide) rfl rfl rfl rfl (by simp [kcat]) dX6_thereIn_21 ?_
    refine kCT.mono h (fun v M1 h => ?_)
    obtain ⟨r2, rfl, h⟩ := h
    change kWP l (rg_m, g) mX6_thereIn 24 [(0, .inr (.inr (0, 0))), (1, .inl x1), (2, .inl x2), (3, .inl x3)] [.inl r2, .inl x2] M1 (kqi Q)
    refine kwp_if_eq (pc := 24) 33 dX6_thereIn_24 (by decide) (fun hc => ?_) (fun hc => ?_)
    · have h := h.1 hc
      refine kwp_iconst (pc := 33) dX6_thereIn_33 ic_0 ?_
      refine kwp_sub [0, 1, 3] rfl ?_
      exact h
    · have h := h.2 hc
      refine kwp_iconst (pc := 27) dX6_thereIn_27 ic_1 ?_
      refine kwp_iload_n (pc := 28) 3 rfl dX6_thereIn_28 rfl ?_
      refine kwp_ishl (pc := 29) dX6_thereIn_29 ?_
      refine kwp_goto (pc := 30) 34 dX6_thereIn_30 (by decide) ?_
      refine kwp_sub [0, 1, 3] rfl ?_
      exact h

set_option maxRecDepth 20000 in
theorem bX6_thereIn_34 {l : Launch} {g : va_G × (Nat → ClassId) × (Nat → Nat → Nat)} (x1 : Int32) (x3 : Int32) (s0 : Int32) (s1 : Int32) (M : kM) (Q : Int32 → kM → Prop)
    (h : ∀ z1 : Int32, z1 = s1 ||| s0 → ∀ z2 : Int32, z2 = x3 + 1 → kWP l (rg_m, g) mX6_thereIn 4 [(0, .inr (.inr (0, 0))), (1, .inl x1), (2, .inl z1), (3, .inl z2)] [] M (kqi Q)) :
    kWP l (rg_m, g) mX6_thereIn 34 [(0, .inr (.inr (0, 0))), (1, .inl x1), (3, .inl x3)] [.inl s0, .inl s1] M (kqi Q) := by
  refine kwp_ior (pc := 34) dX6_thereIn_34 ?_
  obtain ⟨z1, ez1⟩ : ∃ z : Int32, z = s1 ||| s0 := ⟨_, rfl⟩
  rw [← ez1]
  have h := h z1 ez1
  refine kwp_istore_n (pc := 35) (ls2 := [(2, .inl z1), (0, .inr (.inr (0, 0))), (1, .inl x1), (3, .inl x3)]) dX6_thereIn_35 rfl (by decide) rfl ?_
  obtain ⟨z2, ez2⟩ : ∃ z : Int32, z = x3 + 1 := ⟨_, rfl⟩
  have h := h z2 ez2
  refine kwp_iinc (pc := 36) (v := z2) (ls2 := [(3, .inl z2), (2, .inl z1), (0, .inr (.inr (0, 0))), (1, .inl x1)]) 3 rfl dX6_thereIn_36 (by rw [ez2, ic_1]) (by decide) rfl ?_
  refine kwp_goto (pc := 39) 4 dX6_thereIn_39 (by decide) ?_
  refine kwp_sub [2, 3, 1, 0] rfl ?_
  exact h

set_option maxRecDepth 20000 in
theorem bX6_coinsOfAll_0 {l : Launch} {g : va_G × (Nat → ClassId) × (Nat → Nat → Nat)}  (M : kM) (Q : Int32 → kM → Prop)
    (h : kWP l (rg_m, g) mX6_coinsOfAll 4 [(0, .inr (.inr (0, 0))), (1, .inl 0), (2, .inl 0)] [] M (kqi Q)) :
    kWP l (rg_m, g) mX6_coinsOfAll 0 [(0, .inr (.inr (0, 0)))] [] M (kqi Q) := by
  refine kwp_iconst (pc := 0) dX6_coinsOfAll_0 ic_0 ?_
  refine kwp_istore_n (pc := 1) (ls2 := [(1, .inl 0), (0, .inr (.inr (0, 0)))]) dX6_coinsOfAll_1 rfl (by decide) rfl ?_
  refine kwp_iconst (pc := 2) dX6_coinsOfAll_2 ic_0 ?_
  refine kwp_istore_n (pc := 3) (ls2 := [(2, .inl 0), (1, .inl 0), (0, .inr (.inr (0, 0)))]) dX6_coinsOfAll_3 rfl (by decide) rfl ?_
  refine kwp_sub [2, 1, 0] rfl ?_
  exact h

set_option maxRecDepth 20000 in
theorem bX6_coinsOfAll_4 {l : Launch} {g : va_G × (Nat → ClassId) × (Nat → Nat → Nat)} (x1 : Int32) (x2 : Int32) (M : kM) (Q : Int32 → kM → Prop)
    (h : (((M.1 1 0 (22 : Int32).toNatClampNeg) ≤ x2 → Q x1 M) ∧ (¬ (M.1 1 0 (22 : Int32).toNatClampNeg) ≤ x2 → vp_in ((16 : Int32) + x2) 483 ∧ (∀ z1 : Int32, z1 = x1 + (M.1 1 0 ((16 : Int32) + x2).toNatClampNeg) → ∀ z2 : Int32, z2 = x2 + 1 → kWP l (rg_m, g) mX6_coinsOfAll 4 [(0, .inr (.inr (0, 0))), (1, .inl z1), (2, .inl z2)] [] M (kqi Q))))) :
    kWP l (rg_m, g) mX6_coinsOfAll 4 [(0, .inr (.inr (0, 0))), (1, .inl x1), (2, .inl x2)] [] M (kqi Q) := by
  refine kwp_iload_n (pc := 4) 2 rfl dX6_coinsOfAll_4 rfl ?_
  refine kwp_aload_n (pc := 5) 0 rfl dX6_coinsOfAll_5 rfl ?_
  refine kwp_getc (pc := 6) fl_X6_7 rfl rfl dX6_coinsOfAll_6 ?_
  refine kwp_bipush (pc := 9) dX6_coinsOfAll_9 bp_22 ?_
  refine kwp_iald (pc := 11) rfl (show vp_in (22 : Int32) 483 by unfold vp_in; decide) dX6_coinsOfAll_11 ?_
  refine kwp_icmp_ge (pc := 12) 33 dX6_coinsOfAll_12 (by decide) (fun hc => ?_) (fun hc => ?_)
  · have h := h.1 hc
    refine kwp_iload_n (pc := 33) 1 rfl dX6_coinsOfAll_33 rfl ?_
    exact kwp_iret (pc := 34) rfl dX6_coinsOfAll_34 ⟨_, rfl, h⟩
  · have h := h.2 hc
    refine kwp_iload_n (pc := 15) 1 rfl dX6_coinsOfAll_15 rfl ?_
    refine kwp_aload_n (pc := 16) 0 rfl dX6_coinsOfAll_16 rfl ?_
    refine kwp_getc (pc := 17) fl_X6_7 rfl rfl dX6_coinsOfAll_17 ?_
    refine kwp_bipush (pc := 20) dX6_coinsOfAll_20 bp_16 ?_
    refine kwp_iload_n (pc := 22) 2 rfl dX6_coinsOfAll_22 rfl ?_
    refine kwp_iadd (pc := 23) dX6_coinsOfAll_23 ?_
    obtain ⟨hin, h⟩ := h
    refine kwp_iald (pc := 24) rfl hin dX6_coinsOfAll_24 ?_
    refine kwp_iadd (pc := 25) dX6_coinsOfAll_25 ?_
    obtain ⟨z1, ez1⟩ : ∃ z : Int32, z = x1 + (M.1 1 0 ((16 : Int32) + x2).toNatClampNeg) := ⟨_, rfl⟩
    rw [← ez1]
    have h := h z1 ez1
    refine kwp_istore_n (pc := 26) (ls2 := [(1, .inl z1), (0, .inr (.inr (0, 0))), (2, .inl x2)]) dX6_coinsOfAll_26 rfl (by decide) rfl ?_
    obtain ⟨z2, ez2⟩ : ∃ z : Int32, z = x2 + 1 := ⟨_, rfl⟩
    have h := h z2 ez2
    refine kwp_iinc (pc := 27) (v := z2) (ls2 := [(2, .inl z2), (1, .inl z1), (0, .inr (.inr (0, 0)))]) 2 rfl dX6_coinsOfAll_27 (by rw [ez2, ic_1]) (by decide) rfl ?_
    refine kwp_goto (pc := 30) 4 dX6_coinsOfAll_30 (by decide) ?_
    refine kwp_sub [2, 1, 0] rfl ?_
    exact h

set_option maxRecDepth 20000 in
theorem bX6_horsesOfAll_0 {l : Launch} {g : va_G × (Nat → ClassId) × (Nat → Nat → Nat)}  (M : kM) (Q : Int32 → kM → Prop)
    (h : kWP l (rg_m, g) mX6_horsesOfAll 4 [(0, .inr (.inr (0, 0))), (1, .inl 0), (2, .inl 0)] [] M (kqi Q)) :
    kWP l (rg_m, g) mX6_horsesOfAll 0 [(0, .inr (.inr (0, 0)))] [] M (kqi Q) := by
  refine kwp_iconst (pc := 0) dX6_horsesOfAll_0 ic_0 ?_
  refine kwp_istore_n (pc := 1) (ls2 := [(1, .inl 0), (0, .inr (.inr (0, 0)))]) dX6_horsesOfAll_1 rfl (by decide) rfl ?_
  refine kwp_iconst (pc := 2) dX6_horsesOfAll_2 ic_0 ?_
  refine kwp_istore_n (pc := 3) (ls2 := [(2, .inl 0), (1, .inl 0), (0, .inr (.inr (0, 0)))]) dX6_horsesOfAll_3 rfl (by decide) rfl ?_
  refine kwp_sub [2, 1, 0] rfl ?_
  exact h

set_option maxRecDepth 20000 in
theorem bX6_horsesOfAll_4 {l : Launch} {g : va_G × (Nat → ClassId) × (Nat → Nat → Nat)} (x1 : Int32) (x2 : Int32) (M : kM) (Q : Int32 → kM → Prop)
    (h : (((M.1 1 0 (21 : Int32).toNatClampNeg) ≤ x2 → Q x1 M) ∧ (¬ (M.1 1 0 (21 : Int32).toNatClampNeg) ≤ x2 → vp_in ((0 : Int32) + x2) 483 ∧ (∀ z1 : Int32, z1 = x1 + (M.1 1 0 ((0 : Int32) + x2).toNatClampNeg) → ∀ z2 : Int32, z2 = x2 + 1 → kWP l (rg_m, g) mX6_horsesOfAll 4 [(0, .inr (.inr (0, 0))), (1, .inl z1), (2, .inl z2)] [] M (kqi Q))))) :
    kWP l (rg_m, g) mX6_horsesOfAll 4 [(0, .inr (.inr (0, 0))), (1, .inl x1), (2, .inl x2)] [] M (kqi Q) := by
  refine kwp_iload_n (pc := 4) 2 rfl dX6_horsesOfAll_4 rfl ?_
  refine kwp_aload_n (pc := 5) 0 rfl dX6_horsesOfAll_5 rfl ?_
  refine kwp_getc (pc := 6) fl_X6_7 rfl rfl dX6_horsesOfAll_6 ?_
  refine kwp_bipush (pc := 9) dX6_horsesOfAll_9 bp_21 ?_
  refine kwp_iald (pc := 11) rfl (show vp_in (21 : Int32) 483 by unfold vp_in; decide) dX6_horsesOfAll_11 ?_
  refine kwp_icmp_ge (pc := 12) 32 dX6_horsesOfAll_12 (by decide) (fun hc => ?_) (fun hc => ?_)
  · have h := h.1 hc
    refine kwp_iload_n (pc := 32) 1 rfl dX6_horsesOfAll_32 rfl ?_
    exact kwp_iret (pc := 33) rfl dX6_horsesOfAll_33 ⟨_, rfl, h⟩
  · have h := h.2 hc
    refine kwp_iload_n (pc := 15) 1 rfl dX6_horsesOfAll_15 rfl ?_
    refine kwp_aload_n (pc := 16) 0 rfl dX6_horsesOfAll_16 rfl ?_
    refine kwp_getc (pc := 17) fl_X6_7 rfl rfl dX6_horsesOfAll_17 ?_
    refine kwp_iconst (pc := 20) dX6_horsesOfAll_20 ic_0 ?_
    refine kwp_iload_n (pc := 21) 2 rfl dX6_horsesOfAll_21 rfl ?_
    refine kwp_iadd (pc := 22) dX6_horsesOfAll_22 ?_
    obtain ⟨hin, h⟩ := h
    refine kwp_iald (pc := 23) rfl hin dX6_horsesOfAll_23 ?_
    refine kwp_iadd (pc := 24) dX6_horsesOfAll_24 ?_
    obtain ⟨z1, ez1⟩ : ∃ z : Int32, z = x1 + (M.1 1 0 ((0 : Int32) + x2).toNatClampNeg) := ⟨_, rfl⟩
    rw [← ez1]
    have h := h z1 ez1
    refine kwp_istore_n (pc := 25) (ls2 := [(1, .inl z1), (0, .inr (.inr (0, 0))), (2, .inl x2)]) dX6_horsesOfAll_25 rfl (by decide) rfl ?_
    obtain ⟨z2, ez2⟩ : ∃ z : Int32, z = x2 + 1 := ⟨_, rfl⟩
    have h := h z2 ez2
    refine kwp_iinc (pc := 26) (v := z2) (ls2 := [(2, .inl z2), (1, .inl z1), (0, .inr (.inr (0, 0)))]) 2 rfl dX6_horsesOfAll_26 (by rw [ez2, ic_1]) (by decide) rfl ?_
    refine kwp_goto (pc := 29) 4 dX6_horsesOfAll_29 (by decide) ?_
    refine kwp_sub [2, 1, 0] rfl ?_
    exact h

set_option maxRecDepth 20000 in
theorem bX6_count_0 {l : Launch} {g : va_G × (Nat → ClassId) × (Nat → Nat → Nat)} (x1 : Int32) (M : kM) (Q : Int32 → kM → Prop)
    (h : ((x1 = 0 → Q (M.1 1 0 (21 : Int32).toNatClampNeg) M) ∧ (x1 = 1 → Q (M.1 1 0 (22 : Int32).toNatClampNeg) M) ∧ (x1 = 2 → Q (M.1 1 0 (23 : Int32).toNatClampNeg) M) ∧ (x1 = 3 → kCT l (rg_m, g) mX6_thereIn [.inr (.inr (0, 0)), .inl 0] M (kqi (fun r2 M1 => Q r2 M1))) ∧ (x1 = 4 → kCT l (rg_m, g) mX6_nextIn [.inr (.inr (0, 0)), .inl 0] M (kqi (fun r4 M3 => Q r4 M3))) ∧ (x1 = 5 → kCT l (rg_m, g) mX6_coinsOfAll [.inr (.inr (0, 0))] M (kqi (fun r6 M5 => Q r6 M5))) ∧ (x1 = 6 → kCT l (rg_m, g) mX6_horsesOfAll [.inr (.inr (0, 0))] M (kqi (fun r8 M7 => Q r8 M7))) ∧ (x1 = 7 → Q (M.1 1 0 (48 : Int32).toNatClampNeg) M) ∧ (¬ x1 = 0 → ¬ x1 = 1 → ¬ x1 = 2 → ¬ x1 = 3 → ¬ x1 = 4 → ¬ x1 = 5 → ¬ x1 = 6 → ¬ x1 = 7 → Q (-1) M))) :
    kWP l (rg_m, g) mX6_count 0 [(0, .inr (.inr (0, 0))), (1, .inl x1)] [] M (kqi Q) := by
  refine kwp_iload_n (pc := 0) 1 rfl dX6_count_0 rfl ?_
  by_cases c0 : x1 = 0
  · refine kwp_tsIn (pc := 1) 48 dX6_count_1 (by rw [c0]; decide) (by rw [c0]; decide) (off := 47) (by rw [c0]; decide) (by decide) ?_
    have h := h.1 c0
    refine kwp_aload_n (pc := 48) 0 rfl dX6_count_48 rfl ?_
    refine kwp_getc (pc := 49) fl_X6_7 rfl rfl dX6_count_49 ?_
    refine kwp_bipush (pc := 52) dX6_count_52 bp_21 ?_
    refine kwp_iald (pc := 54) rfl (show vp_in (21 : Int32) 483 by unfold vp_in; decide) dX6_count_54 ?_
    exact kwp_iret (pc := 55) rfl dX6_count_55 ⟨_, rfl, h⟩
  · have h := h.2
    by_cases c1 : x1 = 1
    · refine kwp_tsIn (pc := 1) 56 dX6_count_1 (by rw [c1]; decide) (by rw [c1]; decide) (off := 55) (by rw [c1]; decide) (by decide) ?_
      have h := h.1 c1
      refine kwp_aload_n (pc := 56) 0 rfl dX6_count_56 rfl ?_
      refine kwp_getc (pc := 57) fl_X6_7 rfl rfl dX6_count_57 ?_
      refine kwp_bipush (pc := 60) dX6_count_60 bp_22 ?_
      refine kwp_iald (pc := 62) rfl (show vp_in (22 : Int32) 483 by unfold vp_in; decide) dX6_count_62 ?_
      exact kwp_iret (pc := 63) rfl dX6_count_63 ⟨_, rfl, h⟩
    · have h := h.2
      by_cases c2 : x1 = 2
      · refine kwp_tsIn (pc := 1) 64 dX6_count_1 (by rw [c2]; decide) (by rw [c2]; decide) (off := 63) (by rw [c2]; decide) (by decide) ?_
        have h := h.1 c2
        refine kwp_aload_n (pc := 64) 0 rfl dX6_count_64 rfl ?_
        refine kwp_getc (pc := 65) fl_X6_7 rfl rfl dX6_count_65 ?_
        refine kwp_bipush (pc := 68) dX6_count_68 bp_23 ?_
        refine kwp_iald (pc := 70) rfl (show vp_in (23 : Int32) 483 by unfold vp_in; decide) dX6_count_70 ?_
        exact kwp_iret (pc := 71) rfl dX6_count_71 ⟨_, rfl, h⟩
      · have h := h.2
        by_cases c3 : x1 = 3
        · refine kwp_tsIn (pc := 1) 72 dX6_count_1 (by rw [c3]; decide) (by rw [c3]; decide) (off := 71) (by rw [c3]; decide) (by decide) ?_
          have h := h.1 c3
          refine kwp_aload_n (pc := 72) 0 rfl dX6_count_72 rfl ?_
          refine kwp_iconst (pc := 73) dX6_count_73 ic_0 ?_
          refine kwp_callV (pc := 74) (Y := mX6_thereIn) (vs := [.inl 0]) (rest := []) fm_X6_thereIn fi_X6_thereIn ml_X6_125 (by decide) rfl rfl rfl rfl (by simp [kcat]) dX6_count_74 ?_
          refine kCT.mono h (fun v M1 h => ?_)
          obtain ⟨r2, rfl, h⟩ := h
          change kWP l (rg_m, g) mX6_count 77 [(0, .inr (.inr (0, 0))), (1, .inl x1)] [.inl r2] M1 (kqi Q)
          exact kwp_iret (pc := 77) rfl dX6_count_77 ⟨_, rfl, h⟩
        · have h := h.2
          by_cases c4 : x1 = 4
          · refine kwp_tsIn (pc := 1) 78 dX6_count_1 (by rw [c4]; decide) (by rw [c4]; decide) (off := 77) (by rw [c4]; decide) (by decide) ?_
            have h := h.1 c4
            refine kwp_aload_n (pc := 78) 0 rfl dX6_count_78 rfl ?_
            refine kwp_iconst (pc := 79) dX6_count_79 ic_0 ?_
            refine kwp_callV (pc := 80) (Y := mX6_nextIn) (vs := [.inl 0]) (rest := []) fm_X6_nextIn fi_X6_nextIn ml_X6_128 (by decide) rfl rfl rfl rfl (by simp [kcat]) dX6_count_80 ?_
            refine kCT.mono h (fun v M3 h => ?_)
            obtain ⟨r4, rfl, h⟩ := h
            change kWP l (rg_m, g) mX6_count 83 [(0, .inr (.inr (0, 0))), (1, .inl x1)] [.inl r4] M3 (kqi Q)
            exact kwp_iret (pc := 83) rfl dX6_count_83 ⟨_, rfl, h⟩
          · have h := h.2
            by_cases c5 : x1 = 5
            · refine kwp_tsIn (pc := 1) 84 dX6_count_1 (by rw [c5]; decide) (by rw [c5]; decide) (off := 83) (by rw [c5]; decide) (by decide) ?_
              have h := h.1 c5
              refine kwp_aload_n (pc := 84) 0 rfl dX6_count_84 rfl ?_
              refine kwp_callV (pc := 85) (Y := mX6_coinsOfAll) (vs := []) (rest := []) fm_X6_coinsOfAll fi_X6_coinsOfAll ml_X6_131 (by decide) rfl rfl rfl rfl (by simp [kcat]) dX6_count_85 ?_
              refine kCT.mono h (fun v M5 h => ?_)
              obtain ⟨r6, rfl, h⟩ := h
              change kWP l (rg_m, g) mX6_count 88 [(0, .inr (.inr (0, 0))), (1, .inl x1)] [.inl r6] M5 (kqi Q)
              exact kwp_iret (pc := 88) rfl dX6_count_88 ⟨_, rfl, h⟩
            · have h := h.2
              by_cases c6 : x1 = 6
              · refine kwp_tsIn (pc := 1) 89 dX6_count_1 (by rw [c6]; decide) (by rw [c6]; decide) (off := 88) (by rw [c6]; decide) (by decide) ?_
                have h := h.1 c6
                refine kwp_aload_n (pc := 89) 0 rfl dX6_count_89 rfl ?_
                refine kwp_callV (pc := 90) (Y := mX6_horsesOfAll) (vs := []) (rest := []) fm_X6_horsesOfAll fi_X6_horsesOfAll ml_X6_134 (by decide) rfl rfl rfl rfl (by simp [kcat]) dX6_count_90 ?_
                refine kCT.mono h (fun v M7 h => ?_)
                obtain ⟨r8, rfl, h⟩ := h
                change kWP l (rg_m, g) mX6_count 93 [(0, .inr (.inr (0, 0))), (1, .inl x1)] [.inl r8] M7 (kqi Q)
                exact kwp_iret (pc := 93) rfl dX6_count_93 ⟨_, rfl, h⟩
              · have h := h.2
                by_cases c7 : x1 = 7
                · refine kwp_tsIn (pc := 1) 94 dX6_count_1 (by rw [c7]; decide) (by rw [c7]; decide) (off := 93) (by rw [c7]; decide) (by decide) ?_
                  have h := h.1 c7
                  refine kwp_aload_n (pc := 94) 0 rfl dX6_count_94 rfl ?_
                  refine kwp_getc (pc := 95) fl_X6_7 rfl rfl dX6_count_95 ?_
                  refine kwp_bipush (pc := 98) dX6_count_98 bp_48 ?_
                  refine kwp_iald (pc := 100) rfl (show vp_in (48 : Int32) 483 by unfold vp_in; decide) dX6_count_100 ?_
                  exact kwp_iret (pc := 101) rfl dX6_count_101 ⟨_, rfl, h⟩
                · have h := h.2
                  have h := h c0 c1 c2 c3 c4 c5 c6 c7
                  refine kwp_tsOut (pc := 1) 102 dX6_count_1 (by have a0 := lv_neT c0 (a := 0) (by decide); have a1 := lv_neT c1 (a := 1) (by decide); have a2 := lv_neT c2 (a := 2) (by decide); have a3 := lv_neT c3 (a := 3) (by decide); have a4 := lv_neT c4 (a := 4) (by decide); have a5 := lv_neT c5 (a := 5) (by decide); have a6 := lv_neT c6 (a := 6) (by decide); have a7 := lv_neT c7 (a := 7) (by decide); omega) (by decide) ?_
                  refine kwp_iconst (pc := 102) dX6_count_102 ic_m1 ?_
                  exact kwp_iret (pc := 103) rfl dX6_count_103 ⟨_, rfl, h⟩

set_option maxRecDepth 20000 in
theorem bX6_minds_0 {l : Launch} {g : va_G × (Nat → ClassId) × (Nat → Nat → Nat)}  (M : kM) (Q : kM → Prop)
    (h : ((¬ (M.1 1 0 (48 : Int32).toNatClampNeg) = 8 → kWP l (rg_m, g) mX6_minds 34 [(0, .inr (.inr (0, 0)))] [] M (kqv Q)) ∧ ((M.1 1 0 (48 : Int32).toNatClampNeg) = 8 → kCT l (rg_m, g) mX6_copyAll [.inr (.inr (0, 0)), .inl 70, .inl 49, .inl 147] M (kqv (fun M1 => ∀ M2 : kM, M2 = ku M1 1 0 (48 : Int32).toNatClampNeg ((M1.1 1 0 (48 : Int32).toNatClampNeg) - 1) → kWP l (rg_m, g) mX6_minds 34 [(0, .inr (.inr (0, 0)))] [] M2 (kqv Q)))))) :
    kWP l (rg_m, g) mX6_minds 0 [(0, .inr (.inr (0, 0)))] [] M (kqv Q) := by
  refine kwp_aload_n (pc := 0) 0 rfl dX6_minds_0 rfl ?_
  refine kwp_getc (pc := 1) fl_X6_7 rfl rfl dX6_minds_1 ?_
  refine kwp_bipush (pc := 4) dX6_minds_4 bp_48 ?_
  refine kwp_iald (pc := 6) rfl (show vp_in (48 : Int32) 483 by unfold vp_in; decide) dX6_minds_6 ?_
  refine kwp_bipush (pc := 7) dX6_minds_7 bp_8 ?_
  refine kwp_icmp_ne (pc := 9) 34 dX6_minds_9 (by decide) (fun hc => ?_) (fun hc => ?_)
  · have h := h.1 hc
    exact h
  · have h := h.2 hc
    refine kwp_aload_n (pc := 12) 0 rfl dX6_minds_12 rfl ?_
    refine kwp_bipush (pc := 13) dX6_minds_13 bp_70 ?_
    refine kwp_bipush (pc := 15) dX6_minds_15 bp_49 ?_
    refine kwp_sipush (pc := 17) dX6_minds_17 sp_147 ?_
    refine kwp_callV (pc := 20) (Y := mX6_copyAll) (vs := [.inl 70, .inl 49, .inl 147]) (rest := []) fm_X6_copyAll fi_X6_copyAll ml_X6_118 (by decide) rfl rfl rfl rfl (by simp [kcat]) dX6_minds_20 ?_
    refine kCT.mono h (fun v M1 h => ?_)
    obtain ⟨rfl, h⟩ := h
    change kWP l (rg_m, g) mX6_minds 23 [(0, .inr (.inr (0, 0)))] [] M1 (kqv Q)
    refine kwp_aload_n (pc := 23) 0 rfl dX6_minds_23 rfl ?_
    refine kwp_getc (pc := 24) fl_X6_7 rfl rfl dX6_minds_24 ?_
    refine kwp_bipush (pc := 27) dX6_minds_27 bp_48 ?_
    refine kwp_dup2 (pc := 29) dX6_minds_29 rfl rfl ?_
    refine kwp_iald (pc := 30) rfl (show vp_in (48 : Int32) 483 by unfold vp_in; decide) dX6_minds_30 ?_
    refine kwp_iconst (pc := 31) dX6_minds_31 ic_1 ?_
    refine kwp_isub (pc := 32) dX6_minds_32 ?_
    refine kwp_iast (pc := 33) rfl (show vp_in (48 : Int32) 483 by unfold vp_in; decide) dX6_minds_33 ?_
    obtain ⟨M2, eM2⟩ : ∃ z : kM, z = ku M1 1 0 (48 : Int32).toNatClampNeg ((M1.1 1 0 (48 : Int32).toNatClampNeg) - 1) := ⟨_, rfl⟩
    rw [← eM2]
    have h := h M2 eM2
    exact h

set_option maxRecDepth 20000 in
theorem bX6_minds_34 {l : Launch} {g : va_G × (Nat → ClassId) × (Nat → Nat → Nat)}  (M : kM) (Q : kM → Prop)
    (h : kCT l (rg_m, g) mX6_copyAll [.inr (.inr (0, 0)), .inl 0, .inl ((49 : Int32) + ((21 : Int32) * (M.1 1 0 (48 : Int32).toNatClampNeg))), .inl 21] M (kqv (fun M1 => ∀ M2 : kM, M2 = ku M1 1 0 (48 : Int32).toNatClampNeg ((M1.1 1 0 (48 : Int32).toNatClampNeg) + 1) → Q M2))) :
    kWP l (rg_m, g) mX6_minds 34 [(0, .inr (.inr (0, 0)))] [] M (kqv Q) := by
  refine kwp_aload_n (pc := 34) 0 rfl dX6_minds_34 rfl ?_
  refine kwp_iconst (pc := 35) dX6_minds_35 ic_0 ?_
  refine kwp_bipush (pc := 36) dX6_minds_36 bp_49 ?_
  refine kwp_bipush (pc := 38) dX6_minds_38 bp_21 ?_
  refine kwp_aload_n (pc := 40) 0 rfl dX6_minds_40 rfl ?_
  refine kwp_getc (pc := 41) fl_X6_7 rfl rfl dX6_minds_41 ?_
  refine kwp_bipush (pc := 44) dX6_minds_44 bp_48 ?_
  refine kwp_iald (pc := 46) rfl (show vp_in (48 : Int32) 483 by unfold vp_in; decide) dX6_minds_46 ?_
  refine kwp_imul (pc := 47) dX6_minds_47 ?_
  refine kwp_iadd (pc := 48) dX6_minds_48 ?_
  refine kwp_bipush (pc := 49) dX6_minds_49 bp_21 ?_
  refine kwp_callV (pc := 51) (Y := mX6_copyAll) (vs := [.inl 0, .inl ((49 : Int32) + ((21 : Int32) * (M.1 1 0 (48 : Int32).toNatClampNeg))), .inl 21]) (rest := []) fm_X6_copyAll fi_X6_copyAll ml_X6_118 (by decide) rfl rfl rfl rfl (by simp [kcat]) dX6_minds_51 ?_
  refine kCT.mono h (fun v M1 h => ?_)
  obtain ⟨rfl, h⟩ := h
  change kWP l (rg_m, g) mX6_minds 54 [(0, .inr (.inr (0, 0)))] [] M1 (kqv Q)
  refine kwp_aload_n (pc := 54) 0 rfl dX6_minds_54 rfl ?_
  refine kwp_getc (pc := 55) fl_X6_7 rfl rfl dX6_minds_55 ?_
  refine kwp_bipush (pc := 58) dX6_minds_58 bp_48 ?_
  refine kwp_dup2 (pc := 60) dX6_minds_60 rfl rfl ?_
  refine kwp_iald (pc := 61) rfl (show vp_in (48 : Int32) 483 by unfold vp_in; decide) dX6_minds_61 ?_
  refine kwp_iconst (pc := 62) dX6_minds_62 ic_1 ?_
  refine kwp_iadd (pc := 63) dX6_minds_63 ?_
  refine kwp_iast (pc := 64) rfl (show vp_in (48 : Int32) 483 by unfold vp_in; decide) dX6_minds_64 ?_
  obtain ⟨M2, eM2⟩ : ∃ z : kM, z = ku M1 1 0 (48 : Int32).toNatClampNeg ((M1.1 1 0 (48 : Int32).toNatClampNeg) + 1) := ⟨_, rfl⟩
  rw [← eM2]
  have h := h M2 eM2
  exact kwp_vret (pc := 65) rfl dX6_minds_65 ⟨rfl, h⟩

set_option maxRecDepth 20000 in
theorem bX6_ride_0 {l : Launch} {g : va_G × (Nat → ClassId) × (Nat → Nat → Nat)} (x1 : Int32) (M : kM) (Q : Int32 → kM → Prop)
    (h : kCT l (rg_m, g) mX6_in [.inr (.inl (x1.toInt64)), .inr (.inl 1), .inr (.inl 32)] M (kqi (fun r2 M1 => ((¬ r2 = 0 → kCT l (rg_m, g) mX6_nextIn [.inr (.inr (0, 0)), .inl 0] M1 (kqi (fun r4 M3 => ((¬ r4 = (-4) → kWP l (rg_m, g) mX6_ride 29 [(0, .inr (.inr (0, 0))), (1, .inl x1), (2, .inl 0)] [] M3 (kqi Q)) ∧ (r4 = (-4) → Q (-2) M3))))) ∧ (r2 = 0 → Q (-1) M1))))) :
    kWP l (rg_m, g) mX6_ride 0 [(0, .inr (.inr (0, 0))), (1, .inl x1)] [] M (kqi Q) := by
  refine kwp_iload_n (pc := 0) 1 rfl dX6_ride_0 rfl ?_
  refine kwp_i2l (pc := 1) dX6_ride_1 ?_
  refine kwp_lconst (pc := 2) (v := 1) dX6_ride_2 (by decide) ?_
  refine kwp_ldc2 (pc := 3) cn_X6_66 dX6_ride_3 ?_
  refine kwp_callS (pc := 6) (Y := mX6_in) (vs := [.inr (.inl (x1.toInt64)), .inr (.inl 1), .inr (.inl 32)]) (rest := []) fm_X6_in fs_X6_in ml_X6_38 (by decide) rfl rfl (by simp [kcat]) dX6_ride_6 ?_
  refine kCT.mono h (fun v M1 h => ?_)
  obtain ⟨r2, rfl, h⟩ := h
  change kWP l (rg_m, g) mX6_ride 9 [(0, .inr (.inr (0, 0))), (1, .inl x1)] [.inl r2] M1 (kqi Q)
  refine kwp_if_ne (pc := 9) 14 dX6_ride_9 (by decide) (fun hc => ?_) (fun hc => ?_)
  · have h := h.1 hc
    refine kwp_aload_n (pc := 14) 0 rfl dX6_ride_14 rfl ?_
    refine kwp_iconst (pc := 15) dX6_ride_15 ic_0 ?_
    refine kwp_callV (pc := 16) (Y := mX6_nextIn) (vs := [.inl 0]) (rest := []) fm_X6_nextIn fi_X6_nextIn ml_X6_128 (by decide) rfl rfl rfl rfl (by simp [kcat]) dX6_ride_16 ?_
    refine kCT.mono h (fun v M3 h => ?_)
    obtain ⟨r4, rfl, h⟩ := h
    change kWP l (rg_m, g) mX6_ride 19 [(0, .inr (.inr (0, 0))), (1, .inl x1)] [.inl r4] M3 (kqi Q)
    refine kwp_bipush (pc := 19) dX6_ride_19 bp_m4 ?_
    refine kwp_icmp_ne (pc := 21) 27 dX6_ride_21 (by decide) (fun hc => ?_) (fun hc => ?_)
    · have h := h.1 hc
      refine kwp_iconst (pc := 27) dX6_ride_27 ic_0 ?_
      refine kwp_istore_n (pc := 28) (ls2 := [(2, .inl 0), (0, .inr (.inr (0, 0))), (1, .inl x1)]) dX6_ride_28 rfl (by decide) rfl ?_
      refine kwp_sub [1, 2, 0] rfl ?_
      exact h
    · have h := h.2 hc
      refine kwp_bipush (pc := 24) dX6_ride_24 bp_m2 ?_
      exact kwp_iret (pc := 26) rfl dX6_ride_26 ⟨_, rfl, h⟩
  · have h := h.2 hc
    refine kwp_iconst (pc := 12) dX6_ride_12 ic_m1 ?_
    exact kwp_iret (pc := 13) rfl dX6_ride_13 ⟨_, rfl, h⟩

set_option maxRecDepth 20000 in
theorem bX6_ride_29 {l : Launch} {g : va_G × (Nat → ClassId) × (Nat → Nat → Nat)} (x1 : Int32) (x2 : Int32) (M : kM) (Q : Int32 → kM → Prop)
    (h : ((x1 ≤ x2 → kWP l (rg_m, g) mX6_ride 64 [(2, .inl x2)] [] M (kqi Q)) ∧ (¬ x1 ≤ x2 → kCT l (rg_m, g) mX6_nextIn [.inr (.inr (0, 0)), .inl 0] M (kqi (fun r2 M1 => ((r2 = (-4) → kWP l (rg_m, g) mX6_ride 64 [(2, .inl x2)] [] M1 (kqi Q)) ∧ (¬ r2 = (-4) → kCT l (rg_m, g) mX6_minds [.inr (.inr (0, 0))] M1 (kqv (fun M3 => kCT l (rg_m, g) mX6_nextIn [.inr (.inr (0, 0)), .inl 0] M3 (kqi (fun r5 M4 => kCT l (rg_m, g) mX6_rides [.inr (.inr (0, 0)), .inl 0, .inl r5] M4 (kqv (fun M6 => ∀ z7 : Int32, z7 = x2 + 1 → kWP l (rg_m, g) mX6_ride 29 [(0, .inr (.inr (0, 0))), (1, .inl x1), (2, .inl z7)] [] M6 (kqi Q)))))))))))))) :
    kWP l (rg_m, g) mX6_ride 29 [(0, .inr (.inr (0, 0))), (1, .inl x1), (2, .inl x2)] [] M (kqi Q) := by
  refine kwp_iload_n (pc := 29) 2 rfl dX6_ride_29 rfl ?_
  refine kwp_iload_n (pc := 30) 1 rfl dX6_ride_30 rfl ?_
  refine kwp_icmp_ge (pc := 31) 64 dX6_ride_31 (by decide) (fun hc => ?_) (fun hc => ?_)
  · have h := h.1 hc
    refine kwp_sub [2] rfl ?_
    exact h
  · have h := h.2 hc
    refine kwp_aload_n (pc := 34) 0 rfl dX6_ride_34 rfl ?_
    refine kwp_iconst (pc := 35) dX6_ride_35 ic_0 ?_
    refine kwp_callV (pc := 36) (Y := mX6_nextIn) (vs := [.inl 0]) (rest := []) fm_X6_nextIn fi_X6_nextIn ml_X6_128 (by decide) rfl rfl rfl rfl (by simp [kcat]) dX6_ride_36 ?_
    refine kCT.mono h (fun v M1 h => ?_)
    obtain ⟨r2, rfl, h⟩ := h
    change kWP l (rg_m, g) mX6_ride 39 [(0, .inr (.inr (0, 0))), (1, .inl x1), (2, .inl x2)] [.inl r2] M1 (kqi Q)
    refine kwp_bipush (pc := 39) dX6_ride_39 bp_m4 ?_
    refine kwp_icmp_eq (pc := 41) 64 dX6_ride_41 (by decide) (fun hc => ?_) (fun hc => ?_)
    · have h := h.1 hc
      refine kwp_sub [2] rfl ?_
      exact h
    · have h := h.2 hc
      refine kwp_aload_n (pc := 44) 0 rfl dX6_ride_44 rfl ?_
      refine kwp_callV (pc := 45) (Y := mX6_minds) (vs := []) (rest := []) fm_X6_minds fi_X6_minds ml_X6_137 (by decide) rfl rfl rfl rfl (by simp [kcat]) dX6_ride_45 ?_
      refine kCT.mono h (fun v M3 h => ?_)
      obtain ⟨rfl, h⟩ := h
      change kWP l (rg_m, g) mX6_ride 48 [(0, .inr (.inr (0, 0))), (1, .inl x1), (2, .inl x2)] [] M3 (kqi Q)
      refine kwp_aload_n (pc := 48) 0 rfl dX6_ride_48 rfl ?_
      refine kwp_iconst (pc := 49) dX6_ride_49 ic_0 ?_
      refine kwp_aload_n (pc := 50) 0 rfl dX6_ride_50 rfl ?_
      refine kwp_iconst (pc := 51) dX6_ride_51 ic_0 ?_
      refine kwp_callV (pc := 52) (Y := mX6_nextIn) (vs := [.inl 0]) (rest := [.inl 0, .inr (.inr (0, 0))]) fm_X6_nextIn fi_X6_nextIn ml_X6_128 (by decide) rfl rfl rfl rfl (by simp [kcat]) dX6_ride_52 ?_
      refine kCT.mono h (fun v M4 h => ?_)
      obtain ⟨r5, rfl, h⟩ := h
      change kWP l (rg_m, g) mX6_ride 55 [(0, .inr (.inr (0, 0))), (1, .inl x1), (2, .inl x2)] [.inl r5, .inl 0, .inr (.inr (0, 0))] M4 (kqi Q)
      refine kwp_callV (pc := 55) (Y := mX6_rides) (vs := [.inl 0, .inl r5]) (rest := []) fm_X6_rides fi_X6_rides ml_X6_140 (by decide) rfl rfl rfl rfl (by simp [kcat]) dX6_ride_55 ?_
      refine kCT.mono h (fun v M6 h => ?_)
      obtain ⟨rfl, h⟩ := h
      change kWP l (rg_m, g) mX6_ride 58 [(0, .inr (.inr (0, 0))), (1, .inl x1), (2, .inl x2)] [] M6 (kqi Q)
      obtain ⟨z7, ez7⟩ : ∃ z : Int32, z = x2 + 1 := ⟨_, rfl⟩
      have h := h z7 ez7
      refine kwp_iinc (pc := 58) (v := z7) (ls2 := [(2, .inl z7), (0, .inr (.inr (0, 0))), (1, .inl x1)]) 2 rfl dX6_ride_58 (by rw [ez7, ic_1]) (by decide) rfl ?_
      refine kwp_goto (pc := 61) 29 dX6_ride_61 (by decide) ?_
      refine kwp_sub [1, 2, 0] rfl ?_
      exact h

set_option maxRecDepth 20000 in
theorem bX6_ride_64 {l : Launch} {g : va_G × (Nat → ClassId) × (Nat → Nat → Nat)} (x2 : Int32) (M : kM) (Q : Int32 → kM → Prop)
    (h : Q x2 M) :
    kWP l (rg_m, g) mX6_ride 64 [(2, .inl x2)] [] M (kqi Q) := by
  refine kwp_iload_n (pc := 64) 0 rfl dX6_ride_64 rfl ?_
  exact kwp_iret (pc := 65) rfl dX6_ride_65 ⟨_, rfl, h⟩

set_option maxRecDepth 20000 in
theorem bX6_wheel_0 {l : Launch} {g : va_G × (Nat → ClassId) × (Nat → Nat → Nat)} (x1 : Int32) (M : kM) (Q : Int32 → kM → Prop)
    (h : kCT l (rg_m, g) mX6_isRider [.inr (.inr (0, 0)), .inl x1] M (kqi (fun r2 M1 => ((¬ r2 = 0 → kCT l (rg_m, g) mX6_isThere [.inr (.inr (0, 0)), .inl 0, .inl x1] M1 (kqi (fun r4 M3 => ((r4 = 0 → kCT l (rg_m, g) mX6_minds [.inr (.inr (0, 0))] M3 (kqv (fun M5 => vp_in ((12 : Int32) + x1) 483 ∧ (vp_in ((12 : Int32) + x1) 483 ∧ (∀ M6 : kM, M6 = ku M5 1 0 ((12 : Int32) + x1).toNatClampNeg ((M5.1 1 0 ((12 : Int32) + x1).toNatClampNeg) + 30) → vp_in ((12 : Int32) + x1) 483 ∧ (Q (M6.1 1 0 ((12 : Int32) + x1).toNatClampNeg) M6)))))) ∧ (¬ r4 = 0 → Q (-2) M3))))) ∧ (r2 = 0 → Q (-1) M1))))) :
    kWP l (rg_m, g) mX6_wheel 0 [(0, .inr (.inr (0, 0))), (1, .inl x1)] [] M (kqi Q) := by
  refine kwp_aload_n (pc := 0) 0 rfl dX6_wheel_0 rfl ?_
  refine kwp_iload_n (pc := 1) 1 rfl dX6_wheel_1 rfl ?_
  refine kwp_callV (pc := 2) (Y := mX6_isRider) (vs := [.inl x1]) (rest := []) fm_X6_isRider fi_X6_isRider ml_X6_42 (by decide) rfl rfl rfl rfl (by simp [kcat]) dX6_wheel_2 ?_
  refine kCT.mono h (fun v M1 h => ?_)
  obtain ⟨r2, rfl, h⟩ := h
  change kWP l (rg_m, g) mX6_wheel 5 [(0, .inr (.inr (0, 0))), (1, .inl x1)] [.inl r2] M1 (kqi Q)
  refine kwp_if_ne (pc := 5) 10 dX6_wheel_5 (by decide) (fun hc => ?_) (fun hc => ?_)
  · have h := h.1 hc
    refine kwp_aload_n (pc := 10) 0 rfl dX6_wheel_10 rfl ?_
    refine kwp_iconst (pc := 11) dX6_wheel_11 ic_0 ?_
    refine kwp_iload_n (pc := 12) 1 rfl dX6_wheel_12 rfl ?_
    refine kwp_callV (pc := 13) (Y := mX6_isThere) (vs := [.inl 0, .inl x1]) (rest := []) fm_X6_isThere fi_X6_isThere ml_X6_54 (by decide) rfl rfl rfl rfl (by simp [kcat]) dX6_wheel_13 ?_
    refine kCT.mono h (fun v M3 h => ?_)
    obtain ⟨r4, rfl, h⟩ := h
    change kWP l (rg_m, g) mX6_wheel 16 [(0, .inr (.inr (0, 0))), (1, .inl x1)] [.inl r4] M3 (kqi Q)
    refine kwp_if_eq (pc := 16) 22 dX6_wheel_16 (by decide) (fun hc => ?_) (fun hc => ?_)
    · have h := h.1 hc
      refine kwp_aload_n (pc := 22) 0 rfl dX6_wheel_22 rfl ?_
      refine kwp_callV (pc := 23) (Y := mX6_minds) (vs := []) (rest := []) fm_X6_minds fi_X6_minds ml_X6_137 (by decide) rfl rfl rfl rfl (by simp [kcat]) dX6_wheel_23 ?_
      refine kCT.mono h (fun v M5 h => ?_)
      obtain ⟨rfl, h⟩ := h
      change kWP l (rg_m, g) mX6_wheel 26 [(0, .inr (.inr (0, 0))), (1, .inl x1)] [] M5 (kqi Q)
      refine kwp_aload_n (pc := 26) 0 rfl dX6_wheel_26 rfl ?_
      refine kwp_getc (pc := 27) fl_X6_7 rfl rfl dX6_wheel_27 ?_
      refine kwp_bipush (pc := 30) dX6_wheel_30 bp_12 ?_
      refine kwp_iload_n (pc := 32) 1 rfl dX6_wheel_32 rfl ?_
      refine kwp_iadd (pc := 33) dX6_wheel_33 ?_
      refine kwp_dup2 (pc := 34) dX6_wheel_34 rfl rfl ?_
      obtain ⟨hin, h⟩ := h
      refine kwp_iald (pc := 35) rfl hin dX6_wheel_35 ?_
      refine kwp_bipush (pc := 36) dX6_wheel_36 bp_30 ?_
      refine kwp_iadd (pc := 38) dX6_wheel_38 ?_
      obtain ⟨hin, h⟩ := h
      refine kwp_iast (pc := 39) rfl hin dX6_wheel_39 ?_
      obtain ⟨M6, eM6⟩ : ∃ z : kM, z = ku M5 1 0 ((12 : Int32) + x1).toNatClampNeg ((M5.1 1 0 ((12 : Int32) + x1).toNatClampNeg) + 30) := ⟨_, rfl⟩
      rw [← eM6]
      have h := h M6 eM6
      refine kwp_aload_n (pc := 40) 0 rfl dX6_wheel_40 rfl ?_
      refine kwp_getc (pc := 41) fl_X6_7 rfl rfl dX6_wheel_41 ?_
      refine kwp_bipush (pc := 44) dX6_wheel_44 bp_12 ?_
      refine kwp_iload_n (pc := 46) 1 rfl dX6_wheel_46 rfl ?_
      refine kwp_iadd (pc := 47) dX6_wheel_47 ?_
      obtain ⟨hin, h⟩ := h
      refine kwp_iald (pc := 48) rfl hin dX6_wheel_48 ?_
      exact kwp_iret (pc := 49) rfl dX6_wheel_49 ⟨_, rfl, h⟩
    · have h := h.2 hc
      refine kwp_bipush (pc := 19) dX6_wheel_19 bp_m2 ?_
      exact kwp_iret (pc := 21) rfl dX6_wheel_21 ⟨_, rfl, h⟩
  · have h := h.2 hc
    refine kwp_iconst (pc := 8) dX6_wheel_8 ic_m1 ?_
    exact kwp_iret (pc := 9) rfl dX6_wheel_9 ⟨_, rfl, h⟩

set_option maxRecDepth 20000 in
theorem bX6_give_0 {l : Launch} {g : va_G × (Nat → ClassId) × (Nat → Nat → Nat)} (x1 : Int32) (x2 : Int32) (x3 : Int32) (M : kM) (Q : Int32 → kM → Prop)
    (h : kCT l (rg_m, g) mX6_areTwo [.inr (.inr (0, 0)), .inl x1, .inl x2] M (kqi (fun r2 M1 => ((r2 = 0 → kWP l (rg_m, g) mX6_give 21 [] [] M1 (kqi Q)) ∧ (¬ r2 = 0 → kCT l (rg_m, g) mX6_in [.inr (.inl (x3.toInt64)), .inr (.inl 1), .inr (.inl 99)] M1 (kqi (fun r4 M3 => ((¬ r4 = 0 → vp_in ((16 : Int32) + x1) 483 ∧ (((x3 ≤ (M3.1 1 0 ((16 : Int32) + x1).toNatClampNeg) → kCT l (rg_m, g) mX6_minds [.inr (.inr (0, 0))] M3 (kqv (fun M5 => vp_in ((16 : Int32) + x1) 483 ∧ (vp_in ((16 : Int32) + x1) 483 ∧ (∀ M6 : kM, M6 = ku M5 1 0 ((16 : Int32) + x1).toNatClampNeg ((M5.1 1 0 ((16 : Int32) + x1).toNatClampNeg) - x3) → vp_in ((16 : Int32) + x2) 483 ∧ (((((M6.1 1 0 ((16 : Int32) + x2).toNatClampNeg) + x3) ≤ 99 → vp_in ((16 : Int32) + x2) 483 ∧ (kWP l (rg_m, g) mX6_give 96 [(0, .inr (.inr (0, 0))), (2, .inl x2)] [.inl ((M6.1 1 0 ((16 : Int32) + x2).toNatClampNeg) + x3), .inl ((16 : Int32) + x2), .inr (.inr (1, 0))] M6 (kqi Q))) ∧ (¬ ((M6.1 1 0 ((16 : Int32) + x2).toNatClampNeg) + x3) ≤ 99 → kWP l (rg_m, g) mX6_give 96 [(0, .inr (.inr (0, 0))), (2, .inl x2)] [.inl 99, .inl ((16 : Int32) + x2), .inr (.inr (1, 0))] M6 (kqi Q))))))))) ∧ (¬ x3 ≤ (M3.1 1 0 ((16 : Int32) + x1).toNatClampNeg) → Q (-2) M3)))) ∧ (r4 = 0 → kWP l (rg_m, g) mX6_give 21 [] [] M3 (kqi Q)))))))))) :
    kWP l (rg_m, g) mX6_give 0 [(0, .inr (.inr (0, 0))), (1, .inl x1), (2, .inl x2), (3, .inl x3)] [] M (kqi Q) := by
  refine kwp_aload_n (pc := 0) 0 rfl dX6_give_0 rfl ?_
  refine kwp_iload_n (pc := 1) 1 rfl dX6_give_1 rfl ?_
  refine kwp_iload_n (pc := 2) 2 rfl dX6_give_2 rfl ?_
  refine kwp_callV (pc := 3) (Y := mX6_areTwo) (vs := [.inl x1, .inl x2]) (rest := []) fm_X6_areTwo fi_X6_areTwo ml_X6_144 (by decide) rfl rfl rfl rfl (by simp [kcat]) dX6_give_3 ?_
  refine kCT.mono h (fun v M1 h => ?_)
  obtain ⟨r2, rfl, h⟩ := h
  change kWP l (rg_m, g) mX6_give 6 [(0, .inr (.inr (0, 0))), (1, .inl x1), (2, .inl x2), (3, .inl x3)] [.inl r2] M1 (kqi Q)
  refine kwp_if_eq (pc := 6) 21 dX6_give_6 (by decide) (fun hc => ?_) (fun hc => ?_)
  · have h := h.1 hc
    refine kwp_sub [] rfl ?_
    exact h
  · have h := h.2 hc
    refine kwp_iload_n (pc := 9) 3 rfl dX6_give_9 rfl ?_
    refine kwp_i2l (pc := 10) dX6_give_10 ?_
    refine kwp_lconst (pc := 11) (v := 1) dX6_give_11 (by decide) ?_
    refine kwp_ldc2 (pc := 12) cn_X6_52 dX6_give_12 ?_
    refine kwp_callS (pc := 15) (Y := mX6_in) (vs := [.inr (.inl (x3.toInt64)), .inr (.inl 1), .inr (.inl 99)]) (rest := []) fm_X6_in fs_X6_in ml_X6_38 (by decide) rfl rfl (by simp [kcat]) dX6_give_15 ?_
    refine kCT.mono h (fun v M3 h => ?_)
    obtain ⟨r4, rfl, h⟩ := h
    change kWP l (rg_m, g) mX6_give 18 [(0, .inr (.inr (0, 0))), (1, .inl x1), (2, .inl x2), (3, .inl x3)] [.inl r4] M3 (kqi Q)
    refine kwp_if_ne (pc := 18) 23 dX6_give_18 (by decide) (fun hc => ?_) (fun hc => ?_)
    · have h := h.1 hc
      refine kwp_aload_n (pc := 23) 0 rfl dX6_give_23 rfl ?_
      refine kwp_getc (pc := 24) fl_X6_7 rfl rfl dX6_give_24 ?_
      refine kwp_bipush (pc := 27) dX6_give_27 bp_16 ?_
      refine kwp_iload_n (pc := 29) 1 rfl dX6_give_29 rfl ?_
      refine kwp_iadd (pc := 30) dX6_give_30 ?_
      obtain ⟨hin, h⟩ := h
      refine kwp_iald (pc := 31) rfl hin dX6_give_31 ?_
      refine kwp_iload_n (pc := 32) 3 rfl dX6_give_32 rfl ?_
      refine kwp_icmp_ge (pc := 33) 39 dX6_give_33 (by decide) (fun hc => ?_) (fun hc => ?_)
      · have h := h.1 hc
        refine kwp_aload_n (pc := 39) 0 rfl dX6_give_39 rfl ?_
        refine kwp_callV (pc := 40) (Y := mX6_minds) (vs := []) (rest := []) fm_X6_minds fi_X6_minds ml_X6_137 (by decide) rfl rfl rfl rfl (by simp [kcat]) dX6_give_40 ?_
        refine kCT.mono h (fun v M5 h => ?_)
        obtain ⟨rfl, h⟩ := h
        change kWP l (rg_m, g) mX6_give 43 [(0, .inr (.inr (0, 0))), (1, .inl x1), (2, .inl x2), (3, .inl x3)] [] M5 (kqi Q)
        refine kwp_aload_n (pc := 43) 0 rfl dX6_give_43 rfl ?_
        refine kwp_getc (pc := 44) fl_X6_7 rfl rfl dX6_give_44 ?_
        refine kwp_bipush (pc := 47) dX6_give_47 bp_16 ?_
        refine kwp_iload_n (pc := 49) 1 rfl dX6_give_49 rfl ?_
        refine kwp_iadd (pc := 50) dX6_give_50 ?_
        refine kwp_dup2 (pc := 51) dX6_give_51 rfl rfl ?_
        obtain ⟨hin, h⟩ := h
        refine kwp_iald (pc := 52) rfl hin dX6_give_52 ?_
        refine kwp_iload_n (pc := 53) 3 rfl dX6_give_53 rfl ?_
        refine kwp_isub (pc := 54) dX6_give_54 ?_
        obtain ⟨hin, h⟩ := h
        refine kwp_iast (pc := 55) rfl hin dX6_give_55 ?_
        obtain ⟨M6, eM6⟩ : ∃ z : kM, z = ku M5 1 0 ((16 : Int32) + x1).toNatClampNeg ((M5.1 1 0 ((16 : Int32) + x1).toNatClampNeg) - x3) := ⟨_, rfl⟩
        rw [← eM6]
        have h := h M6 eM6
        refine kwp_aload_n (pc := 56) 0 rfl dX6_give_56 rfl ?_
        refine kwp_getc (pc := 57) fl_X6_7 rfl rfl dX6_give_57 ?_
        refine kwp_bipush (pc := 60) dX6_give_60 bp_16 ?_
        refine kwp_iload_n (pc := 62) 2 rfl dX6_give_62 rfl ?_
        refine kwp_iadd (pc := 63) dX6_give_63 ?_
        refine kwp_aload_n (pc := 64) 0 rfl dX6_give_64 rfl ?_
        refine kwp_getc (pc := 65) fl_X6_7 rfl rfl dX6_give_65 ?_
        refine kwp_bipush (pc := 68) dX6_give_68 bp_16 ?_
        refine kwp_iload_n (pc := 70) 2 rfl dX6_give_70 rfl ?_
        refine kwp_iadd (pc := 71) dX6_give_71 ?_
        obtain ⟨hin, h⟩ := h
        refine kwp_iald (pc := 72) rfl hin dX6_give_72 ?_
        refine kwp_iload_n (pc := 73) 3 rfl dX6_give_73 rfl ?_
        refine kwp_iadd (pc := 74) dX6_give_74 ?_
        refine kwp_bipush (pc := 75) dX6_give_75 bp_99 ?_
        refine kwp_icmp_le (pc := 77) 85 dX6_give_77 (by decide) (fun hc => ?_) (fun hc => ?_)
        · have h := h.1 hc
          refine kwp_aload_n (pc := 85) 0 rfl dX6_give_85 rfl ?_
          refine kwp_getc (pc := 86) fl_X6_7 rfl rfl dX6_give_86 ?_
          refine kwp_bipush (pc := 89) dX6_give_89 bp_16 ?_
          refine kwp_iload_n (pc := 91) 2 rfl dX6_give_91 rfl ?_
          refine kwp_iadd (pc := 92) dX6_give_92 ?_
          obtain ⟨hin, h⟩ := h
          refine kwp_iald (pc := 93) rfl hin dX6_give_93 ?_
          refine kwp_iload_n (pc := 94) 3 rfl dX6_give_94 rfl ?_
          refine kwp_iadd (pc := 95) dX6_give_95 ?_
          refine kwp_sub [0, 2] rfl ?_
          exact h
        · have h := h.2 hc
          refine kwp_bipush (pc := 80) dX6_give_80 bp_99 ?_
          refine kwp_goto (pc := 82) 96 dX6_give_82 (by decide) ?_
          refine kwp_sub [0, 2] rfl ?_
          exact h
      · have h := h.2 hc
        refine kwp_bipush (pc := 36) dX6_give_36 bp_m2 ?_
        exact kwp_iret (pc := 38) rfl dX6_give_38 ⟨_, rfl, h⟩
    · have h := h.2 hc
      refine kwp_sub [] rfl ?_
      exact h

set_option maxRecDepth 20000 in
theorem bX6_give_21 {l : Launch} {g : va_G × (Nat → ClassId) × (Nat → Nat → Nat)}  (M : kM) (Q : Int32 → kM → Prop)
    (h : Q (-1) M) :
    kWP l (rg_m, g) mX6_give 21 [] [] M (kqi Q) := by
  refine kwp_iconst (pc := 21) dX6_give_21 ic_m1 ?_
  exact kwp_iret (pc := 22) rfl dX6_give_22 ⟨_, rfl, h⟩

set_option maxRecDepth 20000 in
theorem bX6_give_96 {l : Launch} {g : va_G × (Nat → ClassId) × (Nat → Nat → Nat)} (x2 : Int32) (s0 : Int32) (s1 : Int32) (M : kM) (Q : Int32 → kM → Prop)
    (h : vp_in s1 483 ∧ (∀ M1 : kM, M1 = ku M 1 0 s1.toNatClampNeg s0 → vp_in ((16 : Int32) + x2) 483 ∧ (Q (M1.1 1 0 ((16 : Int32) + x2).toNatClampNeg) M1))) :
    kWP l (rg_m, g) mX6_give 96 [(0, .inr (.inr (0, 0))), (2, .inl x2)] [.inl s0, .inl s1, .inr (.inr (1, 0))] M (kqi Q) := by
  obtain ⟨hin, h⟩ := h
  refine kwp_iast (pc := 96) rfl hin dX6_give_96 ?_
  obtain ⟨M1, eM1⟩ : ∃ z : kM, z = ku M 1 0 s1.toNatClampNeg s0 := ⟨_, rfl⟩
  rw [← eM1]
  have h := h M1 eM1
  refine kwp_aload_n (pc := 97) 0 rfl dX6_give_97 rfl ?_
  refine kwp_getc (pc := 98) fl_X6_7 rfl rfl dX6_give_98 ?_
  refine kwp_bipush (pc := 101) dX6_give_101 bp_16 ?_
  refine kwp_iload_n (pc := 103) 1 rfl dX6_give_103 rfl ?_
  refine kwp_iadd (pc := 104) dX6_give_104 ?_
  obtain ⟨hin, h⟩ := h
  refine kwp_iald (pc := 105) rfl hin dX6_give_105 ?_
  exact kwp_iret (pc := 106) rfl dX6_give_106 ⟨_, rfl, h⟩

set_option maxRecDepth 20000 in
theorem bX6_drift_0 {l : Launch} {g : va_G × (Nat → ClassId) × (Nat → Nat → Nat)} (x1 : Int32) (M : kM) (Q : Int32 → kM → Prop)
    (h : kCT l (rg_m, g) mX6_in [.inr (.inl (x1.toInt64)), .inr (.inl 1), .inr (.inl 32)] M (kqi (fun r2 M1 => ((¬ r2 = 0 → kCT l (rg_m, g) mX6_nextIn [.inr (.inr (0, 0)), .inl 0] M1 (kqi (fun r4 M3 => ((¬ r4 = (-4) → kWP l (rg_m, g) mX6_drift 31 [(0, .inr (.inr (0, 0))), (1, .inl x1), (2, .inl 0), (3, .inl 0)] [] M3 (kqi Q)) ∧ (r4 = (-4) → Q (-2) M3))))) ∧ (r2 = 0 → Q (-1) M1))))) :
    kWP l (rg_m, g) mX6_drift 0 [(0, .inr (.inr (0, 0))), (1, .inl x1)] [] M (kqi Q) := by
  refine kwp_iload_n (pc := 0) 1 rfl dX6_drift_0 rfl ?_
  refine kwp_i2l (pc := 1) dX6_drift_1 ?_
  refine kwp_lconst (pc := 2) (v := 1) dX6_drift_2 (by decide) ?_
  refine kwp_ldc2 (pc := 3) cn_X6_66 dX6_drift_3 ?_
  refine kwp_callS (pc := 6) (Y := mX6_in) (vs := [.inr (.inl (x1.toInt64)), .inr (.inl 1), .inr (.inl 32)]) (rest := []) fm_X6_in fs_X6_in ml_X6_38 (by decide) rfl rfl (by simp [kcat]) dX6_drift_6 ?_
  refine kCT.mono h (fun v M1 h => ?_)
  obtain ⟨r2, rfl, h⟩ := h
  change kWP l (rg_m, g) mX6_drift 9 [(0, .inr (.inr (0, 0))), (1, .inl x1)] [.inl r2] M1 (kqi Q)
  refine kwp_if_ne (pc := 9) 14 dX6_drift_9 (by decide) (fun hc => ?_) (fun hc => ?_)
  · have h := h.1 hc
    refine kwp_aload_n (pc := 14) 0 rfl dX6_drift_14 rfl ?_
    refine kwp_iconst (pc := 15) dX6_drift_15 ic_0 ?_
    refine kwp_callV (pc := 16) (Y := mX6_nextIn) (vs := [.inl 0]) (rest := []) fm_X6_nextIn fi_X6_nextIn ml_X6_128 (by decide) rfl rfl rfl rfl (by simp [kcat]) dX6_drift_16 ?_
    refine kCT.mono h (fun v M3 h => ?_)
    obtain ⟨r4, rfl, h⟩ := h
    change kWP l (rg_m, g) mX6_drift 19 [(0, .inr (.inr (0, 0))), (1, .inl x1)] [.inl r4] M3 (kqi Q)
    refine kwp_bipush (pc := 19) dX6_drift_19 bp_m4 ?_
    refine kwp_icmp_ne (pc := 21) 27 dX6_drift_21 (by decide) (fun hc => ?_) (fun hc => ?_)
    · have h := h.1 hc
      refine kwp_iconst (pc := 27) dX6_drift_27 ic_0 ?_
      refine kwp_istore_n (pc := 28) (ls2 := [(2, .inl 0), (0, .inr (.inr (0, 0))), (1, .inl x1)]) dX6_drift_28 rfl (by decide) rfl ?_
      refine kwp_iconst (pc := 29) dX6_drift_29 ic_0 ?_
      refine kwp_istore_n (pc := 30) (ls2 := [(3, .inl 0), (2, .inl 0), (0, .inr (.inr (0, 0))), (1, .inl x1)]) dX6_drift_30 rfl (by decide) rfl ?_
      refine kwp_sub [2, 3, 1, 0] rfl ?_
      exact h
    · have h := h.2 hc
      refine kwp_bipush (pc := 24) dX6_drift_24 bp_m2 ?_
      exact kwp_iret (pc := 26) rfl dX6_drift_26 ⟨_, rfl, h⟩
  · have h := h.2 hc
    refine kwp_iconst (pc := 12) dX6_drift_12 ic_m1 ?_
    exact kwp_iret (pc := 13) rfl dX6_drift_13 ⟨_, rfl, h⟩

set_option maxRecDepth 20000 in
theorem bX6_drift_31 {l : Launch} {g : va_G × (Nat → ClassId) × (Nat → Nat → Nat)} (x1 : Int32) (x2 : Int32) (x3 : Int32) (M : kM) (Q : Int32 → kM → Prop)
    (h : ((x1 ≤ x3 → kWP l (rg_m, g) mX6_drift 154 [(2, .inl x2)] [] M (kqi Q)) ∧ (¬ x1 ≤ x3 → kCT l (rg_m, g) mX6_nextIn [.inr (.inr (0, 0)), .inl 0] M (kqi (fun r2 M1 => ((r2 = (-4) → kWP l (rg_m, g) mX6_drift 154 [(2, .inl x2)] [] M1 (kqi Q)) ∧ (¬ r2 = (-4) → kCT l (rg_m, g) mX6_minds [.inr (.inr (0, 0))] M1 (kqv (fun M3 => ∀ M4 : kM, M4 = ku M3 1 0 (20 : Int32).toNatClampNeg ((((M3.1 1 0 (20 : Int32).toNatClampNeg) * 1103515245) + 12345) &&& 2147483647) → kCT l (rg_m, g) mX6_nextIn [.inr (.inr (0, 0)), .inl 0] M4 (kqi (fun r6 M5 => ((¬ (((M5.1 1 0 (20 : Int32).toNatClampNeg) / 65536) - ((M5.1 1 0 (20 : Int32).toNatClampNeg) / 65536) / 6 * 6) = 0 → kWP l (rg_m, g) mX6_drift 102 [(0, .inr (.inr (0, 0))), (1, .inl x1), (2, .inl x2), (3, .inl x3), (4, .inl r6)] [.inl 0] M5 (kqi Q)) ∧ ((((M5.1 1 0 (20 : Int32).toNatClampNeg) / 65536) - ((M5.1 1 0 (20 : Int32).toNatClampNeg) / 65536) / 6 * 6) = 0 → kWP l (rg_m, g) mX6_drift 102 [(0, .inr (.inr (0, 0))), (1, .inl x1), (2, .inl x2), (3, .inl x3), (4, .inl r6)] [.inl 1] M5 (kqi Q)))))))))))))) :
    kWP l (rg_m, g) mX6_drift 31 [(0, .inr (.inr (0, 0))), (1, .inl x1), (2, .inl x2), (3, .inl x3)] [] M (kqi Q) := by
  refine kwp_iload_n (pc := 31) 3 rfl dX6_drift_31 rfl ?_
  refine kwp_iload_n (pc := 32) 1 rfl dX6_drift_32 rfl ?_
  refine kwp_icmp_ge (pc := 33) 154 dX6_drift_33 (by decide) (fun hc => ?_) (fun hc => ?_)
  · have h := h.1 hc
    refine kwp_sub [2] rfl ?_
    exact h
  · have h := h.2 hc
    refine kwp_aload_n (pc := 36) 0 rfl dX6_drift_36 rfl ?_
    refine kwp_iconst (pc := 37) dX6_drift_37 ic_0 ?_
    refine kwp_callV (pc := 38) (Y := mX6_nextIn) (vs := [.inl 0]) (rest := []) fm_X6_nextIn fi_X6_nextIn ml_X6_128 (by decide) rfl rfl rfl rfl (by simp [kcat]) dX6_drift_38 ?_
    refine kCT.mono h (fun v M1 h => ?_)
    obtain ⟨r2, rfl, h⟩ := h
    change kWP l (rg_m, g) mX6_drift 41 [(0, .inr (.inr (0, 0))), (1, .inl x1), (2, .inl x2), (3, .inl x3)] [.inl r2] M1 (kqi Q)
    refine kwp_bipush (pc := 41) dX6_drift_41 bp_m4 ?_
    refine kwp_icmp_eq (pc := 43) 154 dX6_drift_43 (by decide) (fun hc => ?_) (fun hc => ?_)
    · have h := h.1 hc
      refine kwp_sub [2] rfl ?_
      exact h
    · have h := h.2 hc
      refine kwp_aload_n (pc := 46) 0 rfl dX6_drift_46 rfl ?_
      refine kwp_callV (pc := 47) (Y := mX6_minds) (vs := []) (rest := []) fm_X6_minds fi_X6_minds ml_X6_137 (by decide) rfl rfl rfl rfl (by simp [kcat]) dX6_drift_47 ?_
      refine kCT.mono h (fun v M3 h => ?_)
      obtain ⟨rfl, h⟩ := h
      change kWP l (rg_m, g) mX6_drift 50 [(0, .inr (.inr (0, 0))), (1, .inl x1), (2, .inl x2), (3, .inl x3)] [] M3 (kqi Q)
      refine kwp_aload_n (pc := 50) 0 rfl dX6_drift_50 rfl ?_
      refine kwp_getc (pc := 51) fl_X6_7 rfl rfl dX6_drift_51 ?_
      refine kwp_bipush (pc := 54) dX6_drift_54 bp_20 ?_
      refine kwp_aload_n (pc := 56) 0 rfl dX6_drift_56 rfl ?_
      refine kwp_getc (pc := 57) fl_X6_7 rfl rfl dX6_drift_57 ?_
      refine kwp_bipush (pc := 60) dX6_drift_60 bp_20 ?_
      refine kwp_iald (pc := 62) rfl (show vp_in (20 : Int32) 483 by unfold vp_in; decide) dX6_drift_62 ?_
      refine kwp_ldc (pc := 63) cn_X6_147 dX6_drift_63 ?_
      refine kwp_imul (pc := 65) dX6_drift_65 ?_
      refine kwp_sipush (pc := 66) dX6_drift_66 sp_12345 ?_
      refine kwp_iadd (pc := 69) dX6_drift_69 ?_
      refine kwp_ldc (pc := 70) cn_X6_148 dX6_drift_70 ?_
      refine kwp_iand (pc := 72) dX6_drift_72 ?_
      refine kwp_iast (pc := 73) rfl (show vp_in (20 : Int32) 483 by unfold vp_in; decide) dX6_drift_73 ?_
      obtain ⟨M4, eM4⟩ : ∃ z : kM, z = ku M3 1 0 (20 : Int32).toNatClampNeg ((((M3.1 1 0 (20 : Int32).toNatClampNeg) * 1103515245) + 12345) &&& 2147483647) := ⟨_, rfl⟩
      rw [← eM4]
      have h := h M4 eM4
      refine kwp_aload_n (pc := 74) 0 rfl dX6_drift_74 rfl ?_
      refine kwp_iconst (pc := 75) dX6_drift_75 ic_0 ?_
      refine kwp_callV (pc := 76) (Y := mX6_nextIn) (vs := [.inl 0]) (rest := []) fm_X6_nextIn fi_X6_nextIn ml_X6_128 (by decide) rfl rfl rfl rfl (by simp [kcat]) dX6_drift_76 ?_
      refine kCT.mono h (fun v M5 h => ?_)
      obtain ⟨r6, rfl, h⟩ := h
      change kWP l (rg_m, g) mX6_drift 79 [(0, .inr (.inr (0, 0))), (1, .inl x1), (2, .inl x2), (3, .inl x3)] [.inl r6] M5 (kqi Q)
      refine kwp_istore (pc := 79) (ls2 := [(4, .inl r6), (0, .inr (.inr (0, 0))), (1, .inl x1), (2, .inl x2), (3, .inl x3)]) dX6_drift_79 (by decide) rfl ?_
      refine kwp_aload_n (pc := 81) 1 rfl dX6_drift_81 rfl ?_
      refine kwp_getc (pc := 82) fl_X6_7 rfl rfl dX6_drift_82 ?_
      refine kwp_bipush (pc := 85) dX6_drift_85 bp_20 ?_
      refine kwp_iald (pc := 87) rfl (show vp_in (20 : Int32) 483 by unfold vp_in; decide) dX6_drift_87 ?_
      refine kwp_ldc (pc := 88) cn_X6_149 dX6_drift_88 ?_
      refine kwp_idiv (pc := 90) dX6_drift_90 (by decide) ?_
      refine kwp_bipush (pc := 91) dX6_drift_91 bp_6 ?_
      refine kwp_irem (pc := 93) dX6_drift_93 (by decide) ?_
      refine kwp_if_ne (pc := 94) 101 dX6_drift_94 (by decide) (fun hc => ?_) (fun hc => ?_)
      · have h := h.1 hc
        refine kwp_iconst (pc := 101) dX6_drift_101 ic_0 ?_
        refine kwp_sub [1, 2, 3, 4, 0] rfl ?_
        exact h
      · have h := h.2 hc
        refine kwp_iconst (pc := 97) dX6_drift_97 ic_1 ?_
        refine kwp_goto (pc := 98) 102 dX6_drift_98 (by decide) ?_
        refine kwp_sub [1, 2, 3, 4, 0] rfl ?_
        exact h

set_option maxRecDepth 20000 in
theorem bX6_drift_102 {l : Launch} {g : va_G × (Nat → ClassId) × (Nat → Nat → Nat)} (x1 : Int32) (x2 : Int32) (x3 : Int32) (x4 : Int32) (s0 : Int32) (M : kM) (Q : Int32 → kM → Prop)
    (h : kCT l (rg_m, g) mX6_rides [.inr (.inr (0, 0)), .inl 0, .inl x4] M (kqv (fun M1 => vp_in ((12 : Int32) + x4) 483 ∧ (((s0 = 0 → kWP l (rg_m, g) mX6_drift 133 [(0, .inr (.inr (0, 0))), (1, .inl x1), (2, .inl x2), (3, .inl x3), (5, .inl s0)] [.inl 0, .inl (M1.1 1 0 ((12 : Int32) + x4).toNatClampNeg), .inl ((12 : Int32) + x4), .inr (.inr (1, 0))] M1 (kqi Q)) ∧ (¬ s0 = 0 → kWP l (rg_m, g) mX6_drift 133 [(0, .inr (.inr (0, 0))), (1, .inl x1), (2, .inl x2), (3, .inl x3), (5, .inl s0)] [.inl 30, .inl (M1.1 1 0 ((12 : Int32) + x4).toNatClampNeg), .inl ((12 : Int32) + x4), .inr (.inr (1, 0))] M1 (kqi Q))))))) :
    kWP l (rg_m, g) mX6_drift 102 [(0, .inr (.inr (0, 0))), (1, .inl x1), (2, .inl x2), (3, .inl x3), (4, .inl x4)] [.inl s0] M (kqi Q) := by
  refine kwp_istore (pc := 102) (ls2 := [(5, .inl s0), (0, .inr (.inr (0, 0))), (1, .inl x1), (2, .inl x2), (3, .inl x3), (4, .inl x4)]) dX6_drift_102 (by decide) rfl ?_
  refine kwp_aload_n (pc := 104) 1 rfl dX6_drift_104 rfl ?_
  refine kwp_iconst (pc := 105) dX6_drift_105 ic_0 ?_
  refine kwp_iload (pc := 106) 5 rfl dX6_drift_106 ?_
  refine kwp_callV (pc := 108) (Y := mX6_rides) (vs := [.inl 0, .inl x4]) (rest := []) fm_X6_rides fi_X6_rides ml_X6_140 (by decide) rfl rfl rfl rfl (by simp [kcat]) dX6_drift_108 ?_
  refine kCT.mono h (fun v M1 h => ?_)
  obtain ⟨rfl, h⟩ := h
  change kWP l (rg_m, g) mX6_drift 111 [(5, .inl s0), (0, .inr (.inr (0, 0))), (1, .inl x1), (2, .inl x2), (3, .inl x3), (4, .inl x4)] [] M1 (kqi Q)
  refine kwp_aload_n (pc := 111) 1 rfl dX6_drift_111 rfl ?_
  refine kwp_getc (pc := 112) fl_X6_7 rfl rfl dX6_drift_112 ?_
  refine kwp_bipush (pc := 115) dX6_drift_115 bp_12 ?_
  refine kwp_iload (pc := 117) 5 rfl dX6_drift_117 ?_
  refine kwp_iadd (pc := 119) dX6_drift_119 ?_
  refine kwp_dup2 (pc := 120) dX6_drift_120 rfl rfl ?_
  obtain ⟨hin, h⟩ := h
  refine kwp_iald (pc := 121) rfl hin dX6_drift_121 ?_
  refine kwp_iload (pc := 122) 0 rfl dX6_drift_122 ?_
  refine kwp_if_eq (pc := 124) 132 dX6_drift_124 (by decide) (fun hc => ?_) (fun hc => ?_)
  · have h := h.1 hc
    refine kwp_iconst (pc := 132) dX6_drift_132 ic_0 ?_
    refine kwp_sub [1, 2, 3, 4, 0] rfl ?_
    exact h
  · have h := h.2 hc
    refine kwp_bipush (pc := 127) dX6_drift_127 bp_30 ?_
    refine kwp_goto (pc := 129) 133 dX6_drift_129 (by decide) ?_
    refine kwp_sub [1, 2, 3, 4, 0] rfl ?_
    exact h

set_option maxRecDepth 20000 in
theorem bX6_drift_133 {l : Launch} {g : va_G × (Nat → ClassId) × (Nat → Nat → Nat)} (x1 : Int32) (x2 : Int32) (x3 : Int32) (x5 : Int32) (s0 : Int32) (s1 : Int32) (s2 : Int32) (M : kM) (Q : Int32 → kM → Prop)
    (h : vp_in s2 483 ∧ (∀ M1 : kM, M1 = ku M 1 0 s2.toNatClampNeg (s1 + s0) → ((x5 = 0 → kWP l (rg_m, g) mX6_drift 146 [(0, .inr (.inr (0, 0))), (1, .inl x1), (3, .inl x3)] [.inl 0, .inl x2] M1 (kqi Q)) ∧ (¬ x5 = 0 → kWP l (rg_m, g) mX6_drift 146 [(0, .inr (.inr (0, 0))), (1, .inl x1), (3, .inl x3)] [.inl 1, .inl x2] M1 (kqi Q))))) :
    kWP l (rg_m, g) mX6_drift 133 [(0, .inr (.inr (0, 0))), (1, .inl x1), (2, .inl x2), (3, .inl x3), (5, .inl x5)] [.inl s0, .inl s1, .inl s2, .inr (.inr (1, 0))] M (kqi Q) := by
  refine kwp_iadd (pc := 133) dX6_drift_133 ?_
  obtain ⟨hin, h⟩ := h
  refine kwp_iast (pc := 134) rfl hin dX6_drift_134 ?_
  obtain ⟨M1, eM1⟩ : ∃ z : kM, z = ku M 1 0 s2.toNatClampNeg (s1 + s0) := ⟨_, rfl⟩
  rw [← eM1]
  have h := h M1 eM1
  refine kwp_iload_n (pc := 135) 2 rfl dX6_drift_135 rfl ?_
  refine kwp_iload (pc := 136) 4 rfl dX6_drift_136 ?_
  refine kwp_if_eq (pc := 138) 145 dX6_drift_138 (by decide) (fun hc => ?_) (fun hc => ?_)
  · have h := h.1 hc
    refine kwp_iconst (pc := 145) dX6_drift_145 ic_0 ?_
    refine kwp_sub [0, 1, 3] rfl ?_
    exact h
  · have h := h.2 hc
    refine kwp_iconst (pc := 141) dX6_drift_141 ic_1 ?_
    refine kwp_goto (pc := 142) 146 dX6_drift_142 (by decide) ?_
    refine kwp_sub [0, 1, 3] rfl ?_
    exact h

set_option maxRecDepth 20000 in
theorem bX6_drift_146 {l : Launch} {g : va_G × (Nat → ClassId) × (Nat → Nat → Nat)} (x1 : Int32) (x3 : Int32) (s0 : Int32) (s1 : Int32) (M : kM) (Q : Int32 → kM → Prop)
    (h : ∀ z1 : Int32, z1 = s1 + s0 → ∀ z2 : Int32, z2 = x3 + 1 → kWP l (rg_m, g) mX6_drift 31 [(0, .inr (.inr (0, 0))), (1, .inl x1), (2, .inl z1), (3, .inl z2)] [] M (kqi Q)) :
    kWP l (rg_m, g) mX6_drift 146 [(0, .inr (.inr (0, 0))), (1, .inl x1), (3, .inl x3)] [.inl s0, .inl s1] M (kqi Q) := by
  refine kwp_iadd (pc := 146) dX6_drift_146 ?_
  obtain ⟨z1, ez1⟩ : ∃ z : Int32, z = s1 + s0 := ⟨_, rfl⟩
  rw [← ez1]
  have h := h z1 ez1
  refine kwp_istore_n (pc := 147) (ls2 := [(2, .inl z1), (0, .inr (.inr (0, 0))), (1, .inl x1), (3, .inl x3)]) dX6_drift_147 rfl (by decide) rfl ?_
  obtain ⟨z2, ez2⟩ : ∃ z : Int32, z = x3 + 1 := ⟨_, rfl⟩
  have h := h z2 ez2
  refine kwp_iinc (pc := 148) (v := z2) (ls2 := [(3, .inl z2), (2, .inl z1), (0, .inr (.inr (0, 0))), (1, .inl x1)]) 3 rfl dX6_drift_148 (by rw [ez2, ic_1]) (by decide) rfl ?_
  refine kwp_goto (pc := 151) 31 dX6_drift_151 (by decide) ?_
  refine kwp_sub [2, 3, 1, 0] rfl ?_
  exact h

set_option maxRecDepth 20000 in
theorem bX6_drift_154 {l : Launch} {g : va_G × (Nat → ClassId) × (Nat → Nat → Nat)} (x2 : Int32) (M : kM) (Q : Int32 → kM → Prop)
    (h : Q x2 M) :
    kWP l (rg_m, g) mX6_drift 154 [(2, .inl x2)] [] M (kqi Q) := by
  refine kwp_iload_n (pc := 154) 0 rfl dX6_drift_154 rfl ?_
  exact kwp_iret (pc := 155) rfl dX6_drift_155 ⟨_, rfl, h⟩

set_option maxRecDepth 20000 in
theorem bX6_undo_0 {l : Launch} {g : va_G × (Nat → ClassId) × (Nat → Nat → Nat)}  (M : kM) (Q : Int32 → kM → Prop)
    (h : ((¬ (M.1 1 0 (48 : Int32).toNatClampNeg) = 0 → ∀ M1 : kM, M1 = ku M 1 0 (48 : Int32).toNatClampNeg ((M.1 1 0 (48 : Int32).toNatClampNeg) - 1) → kCT l (rg_m, g) mX6_copyAll [.inr (.inr (0, 0)), .inl ((49 : Int32) + ((21 : Int32) * (M1.1 1 0 (48 : Int32).toNatClampNeg))), .inl 0, .inl 21] M1 (kqv (fun M2 => Q (M2.1 1 0 (48 : Int32).toNatClampNeg) M2))) ∧ ((M.1 1 0 (48 : Int32).toNatClampNeg) = 0 → Q (-4) M))) :
    kWP l (rg_m, g) mX6_undo 0 [(0, .inr (.inr (0, 0)))] [] M (kqi Q) := by
  refine kwp_aload_n (pc := 0) 0 rfl dX6_undo_0 rfl ?_
  refine kwp_getc (pc := 1) fl_X6_7 rfl rfl dX6_undo_1 ?_
  refine kwp_bipush (pc := 4) dX6_undo_4 bp_48 ?_
  refine kwp_iald (pc := 6) rfl (show vp_in (48 : Int32) 483 by unfold vp_in; decide) dX6_undo_6 ?_
  refine kwp_if_ne (pc := 7) 13 dX6_undo_7 (by decide) (fun hc => ?_) (fun hc => ?_)
  · have h := h.1 hc
    refine kwp_aload_n (pc := 13) 0 rfl dX6_undo_13 rfl ?_
    refine kwp_getc (pc := 14) fl_X6_7 rfl rfl dX6_undo_14 ?_
    refine kwp_bipush (pc := 17) dX6_undo_17 bp_48 ?_
    refine kwp_dup2 (pc := 19) dX6_undo_19 rfl rfl ?_
    refine kwp_iald (pc := 20) rfl (show vp_in (48 : Int32) 483 by unfold vp_in; decide) dX6_undo_20 ?_
    refine kwp_iconst (pc := 21) dX6_undo_21 ic_1 ?_
    refine kwp_isub (pc := 22) dX6_undo_22 ?_
    refine kwp_iast (pc := 23) rfl (show vp_in (48 : Int32) 483 by unfold vp_in; decide) dX6_undo_23 ?_
    obtain ⟨M1, eM1⟩ : ∃ z : kM, z = ku M 1 0 (48 : Int32).toNatClampNeg ((M.1 1 0 (48 : Int32).toNatClampNeg) - 1) := ⟨_, rfl⟩
    rw [← eM1]
    have h := h M1 eM1
    refine kwp_aload_n (pc := 24) 0 rfl dX6_undo_24 rfl ?_
    refine kwp_bipush (pc := 25) dX6_undo_25 bp_49 ?_
    refine kwp_bipush (pc := 27) dX6_undo_27 bp_21 ?_
    refine kwp_aload_n (pc := 29) 0 rfl dX6_undo_29 rfl ?_
    refine kwp_getc (pc := 30) fl_X6_7 rfl rfl dX6_undo_30 ?_
    refine kwp_bipush (pc := 33) dX6_undo_33 bp_48 ?_
    refine kwp_iald (pc := 35) rfl (show vp_in (48 : Int32) 483 by unfold vp_in; decide) dX6_undo_35 ?_
    refine kwp_imul (pc := 36) dX6_undo_36 ?_
    refine kwp_iadd (pc := 37) dX6_undo_37 ?_
    refine kwp_iconst (pc := 38) dX6_undo_38 ic_0 ?_
    refine kwp_bipush (pc := 39) dX6_undo_39 bp_21 ?_
    refine kwp_callV (pc := 41) (Y := mX6_copyAll) (vs := [.inl ((49 : Int32) + ((21 : Int32) * (M1.1 1 0 (48 : Int32).toNatClampNeg))), .inl 0, .inl 21]) (rest := []) fm_X6_copyAll fi_X6_copyAll ml_X6_118 (by decide) rfl rfl rfl rfl (by simp [kcat]) dX6_undo_41 ?_
    refine kCT.mono h (fun v M2 h => ?_)
    obtain ⟨rfl, h⟩ := h
    change kWP l (rg_m, g) mX6_undo 44 [(0, .inr (.inr (0, 0)))] [] M2 (kqi Q)
    refine kwp_aload_n (pc := 44) 0 rfl dX6_undo_44 rfl ?_
    refine kwp_getc (pc := 45) fl_X6_7 rfl rfl dX6_undo_45 ?_
    refine kwp_bipush (pc := 48) dX6_undo_48 bp_48 ?_
    refine kwp_iald (pc := 50) rfl (show vp_in (48 : Int32) 483 by unfold vp_in; decide) dX6_undo_50 ?_
    exact kwp_iret (pc := 51) rfl dX6_undo_51 ⟨_, rfl, h⟩
  · have h := h.2 hc
    refine kwp_bipush (pc := 10) dX6_undo_10 bp_m4 ?_
    exact kwp_iret (pc := 12) rfl dX6_undo_12 ⟨_, rfl, h⟩

set_option maxRecDepth 20000 in
theorem bX6_seed_0 {l : Launch} {g : va_G × (Nat → ClassId) × (Nat → Nat → Nat)} (x1 : Int32) (M : kM) (Q : Int32 → kM → Prop)
    (h : ((0 ≤ x1 → ∀ z1 : Int32, z1 = M.1 1 0 (20 : Int32).toNatClampNeg → ∀ M2 : kM, M2 = ku M 1 0 (20 : Int32).toNatClampNeg x1 → Q z1 M2) ∧ (¬ 0 ≤ x1 → Q (-1) M))) :
    kWP l (rg_m, g) mX6_seed 0 [(0, .inr (.inr (0, 0))), (1, .inl x1)] [] M (kqi Q) := by
  refine kwp_iload_n (pc := 0) 1 rfl dX6_seed_0 rfl ?_
  refine kwp_if_ge (pc := 1) 6 dX6_seed_1 (by decide) (fun hc => ?_) (fun hc => ?_)
  · have h := h.1 hc
    refine kwp_aload_n (pc := 6) 0 rfl dX6_seed_6 rfl ?_
    refine kwp_getc (pc := 7) fl_X6_7 rfl rfl dX6_seed_7 ?_
    refine kwp_bipush (pc := 10) dX6_seed_10 bp_20 ?_
    refine kwp_iald (pc := 12) rfl (show vp_in (20 : Int32) 483 by unfold vp_in; decide) dX6_seed_12 ?_
    obtain ⟨z1, ez1⟩ : ∃ z : Int32, z = M.1 1 0 (20 : Int32).toNatClampNeg := ⟨_, rfl⟩
    rw [← ez1]
    have h := h z1 ez1
    refine kwp_istore_n (pc := 13) (ls2 := [(2, .inl z1), (0, .inr (.inr (0, 0))), (1, .inl x1)]) dX6_seed_13 rfl (by decide) rfl ?_
    refine kwp_aload_n (pc := 14) 1 rfl dX6_seed_14 rfl ?_
    refine kwp_getc (pc := 15) fl_X6_7 rfl rfl dX6_seed_15 ?_
    refine kwp_bipush (pc := 18) dX6_seed_18 bp_20 ?_
    refine kwp_iload_n (pc := 20) 2 rfl dX6_seed_20 rfl ?_
    refine kwp_iast (pc := 21) rfl (show vp_in (20 : Int32) 483 by unfold vp_in; decide) dX6_seed_21 ?_
    obtain ⟨M2, eM2⟩ : ∃ z : kM, z = ku M 1 0 (20 : Int32).toNatClampNeg x1 := ⟨_, rfl⟩
    rw [← eM2]
    have h := h M2 eM2
    refine kwp_iload_n (pc := 22) 0 rfl dX6_seed_22 rfl ?_
    exact kwp_iret (pc := 23) rfl dX6_seed_23 ⟨_, rfl, h⟩
  · have h := h.2 hc
    refine kwp_iconst (pc := 4) dX6_seed_4 ic_m1 ?_
    exact kwp_iret (pc := 5) rfl dX6_seed_5 ⟨_, rfl, h⟩

set_option maxRecDepth 20000 in
theorem bX6_tries_0 {l : Launch} {g : va_G × (Nat → ClassId) × (Nat → Nat → Nat)}  (M : kM) (Q : kM → Prop)
    (h : kCT l (rg_m, g) mX6_copyAll [.inr (.inr (0, 0)), .inl 0, .inl 434, .inl 49] M (kqv (fun M1 => Q M1))) :
    kWP l (rg_m, g) mX6_tries 0 [(0, .inr (.inr (0, 0)))] [] M (kqv Q) := by
  refine kwp_aload_n (pc := 0) 0 rfl dX6_tries_0 rfl ?_
  refine kwp_iconst (pc := 1) dX6_tries_1 ic_0 ?_
  refine kwp_sipush (pc := 2) dX6_tries_2 sp_434 ?_
  refine kwp_bipush (pc := 5) dX6_tries_5 bp_49 ?_
  refine kwp_callV (pc := 7) (Y := mX6_copyAll) (vs := [.inl 0, .inl 434, .inl 49]) (rest := []) fm_X6_copyAll fi_X6_copyAll ml_X6_118 (by decide) rfl rfl rfl rfl (by simp [kcat]) dX6_tries_7 ?_
  refine kCT.mono h (fun v M1 h => ?_)
  obtain ⟨rfl, h⟩ := h
  change kWP l (rg_m, g) mX6_tries 10 [(0, .inr (.inr (0, 0)))] [] M1 (kqv Q)
  exact kwp_vret (pc := 10) rfl dX6_tries_10 ⟨rfl, h⟩

set_option maxRecDepth 20000 in
theorem bX6_ridesOn_0 {l : Launch} {g : va_G × (Nat → ClassId) × (Nat → Nat → Nat)} (x1 : Int32) (x2 : Int32) (M : kM) (Q : kM → Prop)
    (h : kWP l (rg_m, g) mX6_ridesOn 2 [(0, .inr (.inr (0, 0))), (1, .inl x1), (2, .inl x2), (3, .inl 0)] [] M (kqv Q)) :
    kWP l (rg_m, g) mX6_ridesOn 0 [(0, .inr (.inr (0, 0))), (1, .inl x1), (2, .inl x2)] [] M (kqv Q) := by
  refine kwp_iconst (pc := 0) dX6_ridesOn_0 ic_0 ?_
  refine kwp_istore_n (pc := 1) (ls2 := [(3, .inl 0), (0, .inr (.inr (0, 0))), (1, .inl x1), (2, .inl x2)]) dX6_ridesOn_1 rfl (by decide) rfl ?_
  refine kwp_sub [1, 2, 3, 0] rfl ?_
  exact h

set_option maxRecDepth 20000 in
theorem bX6_ridesOn_2 {l : Launch} {g : va_G × (Nat → ClassId) × (Nat → Nat → Nat)} (x1 : Int32) (x2 : Int32) (x3 : Int32) (M : kM) (Q : kM → Prop)
    (h : ((36 ≤ x3 → kWP l (rg_m, g) mX6_ridesOn 24 [(0, .inr (.inr (0, 0))), (1, .inl x1), (2, .inl x2), (3, .inl 0)] [] M (kqv Q)) ∧ (¬ 36 ≤ x3 → vp_in x3 36 ∧ (∀ M1 : kM, M1 = ku M 6 0 x3.toNatClampNeg (-4) → ∀ z2 : Int32, z2 = x3 + 1 → kWP l (rg_m, g) mX6_ridesOn 2 [(0, .inr (.inr (0, 0))), (1, .inl x1), (2, .inl x2), (3, .inl z2)] [] M1 (kqv Q))))) :
    kWP l (rg_m, g) mX6_ridesOn 2 [(0, .inr (.inr (0, 0))), (1, .inl x1), (2, .inl x2), (3, .inl x3)] [] M (kqv Q) := by
  refine kwp_iload_n (pc := 2) 3 rfl dX6_ridesOn_2 rfl ?_
  refine kwp_bipush (pc := 3) dX6_ridesOn_3 bp_36 ?_
  refine kwp_icmp_ge (pc := 5) 22 dX6_ridesOn_5 (by decide) (fun hc => ?_) (fun hc => ?_)
  · have h := h.1 hc
    refine kwp_iconst (pc := 22) dX6_ridesOn_22 ic_0 ?_
    refine kwp_istore_n (pc := 23) (ls2 := [(3, .inl 0), (0, .inr (.inr (0, 0))), (1, .inl x1), (2, .inl x2)]) dX6_ridesOn_23 rfl (by decide) rfl ?_
    refine kwp_sub [1, 2, 3, 0] rfl ?_
    exact h
  · have h := h.2 hc
    refine kwp_aload_n (pc := 8) 0 rfl dX6_ridesOn_8 rfl ?_
    refine kwp_getc (pc := 9) fl_X6_26 rfl rfl dX6_ridesOn_9 ?_
    refine kwp_iload_n (pc := 12) 3 rfl dX6_ridesOn_12 rfl ?_
    refine kwp_bipush (pc := 13) dX6_ridesOn_13 bp_m4 ?_
    obtain ⟨hin, h⟩ := h
    refine kwp_iast (pc := 15) rfl hin dX6_ridesOn_15 ?_
    obtain ⟨M1, eM1⟩ : ∃ z : kM, z = ku M 6 0 x3.toNatClampNeg (-4) := ⟨_, rfl⟩
    rw [← eM1]
    have h := h M1 eM1
    obtain ⟨z2, ez2⟩ : ∃ z : Int32, z = x3 + 1 := ⟨_, rfl⟩
    have h := h z2 ez2
    refine kwp_iinc (pc := 16) (v := z2) (ls2 := [(3, .inl z2), (0, .inr (.inr (0, 0))), (1, .inl x1), (2, .inl x2)]) 3 rfl dX6_ridesOn_16 (by rw [ez2, ic_1]) (by decide) rfl ?_
    refine kwp_goto (pc := 19) 2 dX6_ridesOn_19 (by decide) ?_
    refine kwp_sub [1, 2, 3, 0] rfl ?_
    exact h

set_option maxRecDepth 20000 in
theorem bX6_ridesOn_24 {l : Launch} {g : va_G × (Nat → ClassId) × (Nat → Nat → Nat)} (x1 : Int32) (x2 : Int32) (x3 : Int32) (M : kM) (Q : kM → Prop)
    (h : (((M.1 1 0 (456 : Int32).toNatClampNeg) ≤ x3 → kCT l (rg_m, g) mX6_nextIn [.inr (.inr (0, 0)), .inl 434] M (kqi (fun r2 M1 => kWP l (rg_m, g) mX6_ridesOn 80 [(0, .inr (.inr (0, 0))), (1, .inl x1), (2, .inl x2), (3, .inl r2)] [] M1 (kqv Q)))) ∧ (¬ (M.1 1 0 (456 : Int32).toNatClampNeg) ≤ x3 → vp_in ((442 : Int32) + x3) 483 ∧ (vp_in ((446 : Int32) + x3) 483 ∧ (vp_in (((9 : Int32) * x3) + (M.1 1 0 ((442 : Int32) + x3).toNatClampNeg)) 36 ∧ (∀ M3 : kM, M3 = ku M 6 0 (((9 : Int32) * x3) + (M.1 1 0 ((442 : Int32) + x3).toNatClampNeg)).toNatClampNeg (M.1 1 0 ((446 : Int32) + x3).toNatClampNeg) → ∀ z4 : Int32, z4 = x3 + 1 → kWP l (rg_m, g) mX6_ridesOn 24 [(0, .inr (.inr (0, 0))), (1, .inl x1), (2, .inl x2), (3, .inl z4)] [] M3 (kqv Q))))))) :
    kWP l (rg_m, g) mX6_ridesOn 24 [(0, .inr (.inr (0, 0))), (1, .inl x1), (2, .inl x2), (3, .inl x3)] [] M (kqv Q) := by
  refine kwp_iload_n (pc := 24) 3 rfl dX6_ridesOn_24 rfl ?_
  refine kwp_aload_n (pc := 25) 0 rfl dX6_ridesOn_25 rfl ?_
  refine kwp_getc (pc := 26) fl_X6_7 rfl rfl dX6_ridesOn_26 ?_
  refine kwp_sipush (pc := 29) dX6_ridesOn_29 sp_456 ?_
  refine kwp_iald (pc := 32) rfl (show vp_in (456 : Int32) 483 by unfold vp_in; decide) dX6_ridesOn_32 ?_
  refine kwp_icmp_ge (pc := 33) 72 dX6_ridesOn_33 (by decide) (fun hc => ?_) (fun hc => ?_)
  · have h := h.1 hc
    refine kwp_aload_n (pc := 72) 0 rfl dX6_ridesOn_72 rfl ?_
    refine kwp_sipush (pc := 73) dX6_ridesOn_73 sp_434 ?_
    refine kwp_callV (pc := 76) (Y := mX6_nextIn) (vs := [.inl 434]) (rest := []) fm_X6_nextIn fi_X6_nextIn ml_X6_128 (by decide) rfl rfl rfl rfl (by simp [kcat]) dX6_ridesOn_76 ?_
    refine kCT.mono h (fun v M1 h => ?_)
    obtain ⟨r2, rfl, h⟩ := h
    change kWP l (rg_m, g) mX6_ridesOn 79 [(0, .inr (.inr (0, 0))), (1, .inl x1), (2, .inl x2), (3, .inl x3)] [.inl r2] M1 (kqv Q)
    refine kwp_istore_n (pc := 79) (ls2 := [(3, .inl r2), (0, .inr (.inr (0, 0))), (1, .inl x1), (2, .inl x2)]) dX6_ridesOn_79 rfl (by decide) rfl ?_
    refine kwp_sub [1, 2, 3, 0] rfl ?_
    exact h
  · have h := h.2 hc
    refine kwp_aload_n (pc := 36) 0 rfl dX6_ridesOn_36 rfl ?_
    refine kwp_getc (pc := 37) fl_X6_26 rfl rfl dX6_ridesOn_37 ?_
    refine kwp_bipush (pc := 40) dX6_ridesOn_40 bp_9 ?_
    refine kwp_iload_n (pc := 42) 3 rfl dX6_ridesOn_42 rfl ?_
    refine kwp_imul (pc := 43) dX6_ridesOn_43 ?_
    refine kwp_aload_n (pc := 44) 0 rfl dX6_ridesOn_44 rfl ?_
    refine kwp_getc (pc := 45) fl_X6_7 rfl rfl dX6_ridesOn_45 ?_
    refine kwp_sipush (pc := 48) dX6_ridesOn_48 sp_442 ?_
    refine kwp_iload_n (pc := 51) 3 rfl dX6_ridesOn_51 rfl ?_
    refine kwp_iadd (pc := 52) dX6_ridesOn_52 ?_
    obtain ⟨hin, h⟩ := h
    refine kwp_iald (pc := 53) rfl hin dX6_ridesOn_53 ?_
    refine kwp_iadd (pc := 54) dX6_ridesOn_54 ?_
    refine kwp_aload_n (pc := 55) 0 rfl dX6_ridesOn_55 rfl ?_
    refine kwp_getc (pc := 56) fl_X6_7 rfl rfl dX6_ridesOn_56 ?_
    refine kwp_sipush (pc := 59) dX6_ridesOn_59 sp_446 ?_
    refine kwp_iload_n (pc := 62) 3 rfl dX6_ridesOn_62 rfl ?_
    refine kwp_iadd (pc := 63) dX6_ridesOn_63 ?_
    obtain ⟨hin, h⟩ := h
    refine kwp_iald (pc := 64) rfl hin dX6_ridesOn_64 ?_
    obtain ⟨hin, h⟩ := h
    refine kwp_iast (pc := 65) rfl hin dX6_ridesOn_65 ?_
    obtain ⟨M3, eM3⟩ : ∃ z : kM, z = ku M 6 0 (((9 : Int32) * x3) + (M.1 1 0 ((442 : Int32) + x3).toNatClampNeg)).toNatClampNeg (M.1 1 0 ((446 : Int32) + x3).toNatClampNeg) := ⟨_, rfl⟩
    rw [← eM3]
    have h := h M3 eM3
    obtain ⟨z4, ez4⟩ : ∃ z : Int32, z = x3 + 1 := ⟨_, rfl⟩
    have h := h z4 ez4
    refine kwp_iinc (pc := 66) (v := z4) (ls2 := [(3, .inl z4), (0, .inr (.inr (0, 0))), (1, .inl x1), (2, .inl x2)]) 3 rfl dX6_ridesOn_66 (by rw [ez4, ic_1]) (by decide) rfl ?_
    refine kwp_goto (pc := 69) 24 dX6_ridesOn_69 (by decide) ?_
    refine kwp_sub [1, 2, 3, 0] rfl ?_
    exact h

set_option maxRecDepth 20000 in
theorem bX6_ridesOn_80 {l : Launch} {g : va_G × (Nat → ClassId) × (Nat → Nat → Nat)} (x1 : Int32) (x2 : Int32) (x3 : Int32) (M : kM) (Q : kM → Prop)
    (h : ((x3 = (-4) → Q M) ∧ (¬ x3 = (-4) → ((¬ x3 = x1 → kWP l (rg_m, g) mX6_ridesOn 112 [(0, .inr (.inr (0, 0))), (1, .inl x1), (2, .inl x2), (3, .inl x3)] [] M (kqv Q)) ∧ (x3 = x1 → vp_in ((442 : Int32) + x3) 483 ∧ (kCT l (rg_m, g) mX6_has [.inl x2, .inl (M.1 1 0 ((442 : Int32) + x3).toNatClampNeg)] M (kqi (fun r2 M1 => ((r2 = 0 → kWP l (rg_m, g) mX6_ridesOn 112 [(0, .inr (.inr (0, 0))), (1, .inl x1), (2, .inl x2), (3, .inl x3)] [] M1 (kqv Q)) ∧ (¬ r2 = 0 → kWP l (rg_m, g) mX6_ridesOn 113 [(0, .inr (.inr (0, 0))), (1, .inl x1), (2, .inl x2), (3, .inl x3)] [.inl 1] M1 (kqv Q))))))))))) :
    kWP l (rg_m, g) mX6_ridesOn 80 [(0, .inr (.inr (0, 0))), (1, .inl x1), (2, .inl x2), (3, .inl x3)] [] M (kqv Q) := by
  refine kwp_iload_n (pc := 80) 3 rfl dX6_ridesOn_80 rfl ?_
  refine kwp_bipush (pc := 81) dX6_ridesOn_81 bp_m4 ?_
  refine kwp_icmp_eq (pc := 83) 188 dX6_ridesOn_83 (by decide) (fun hc => ?_) (fun hc => ?_)
  · have h := h.1 hc
    exact kwp_vret (pc := 188) rfl dX6_ridesOn_188 ⟨rfl, h⟩
  · have h := h.2 hc
    refine kwp_iload_n (pc := 86) 3 rfl dX6_ridesOn_86 rfl ?_
    refine kwp_iload_n (pc := 87) 1 rfl dX6_ridesOn_87 rfl ?_
    refine kwp_icmp_ne (pc := 88) 112 dX6_ridesOn_88 (by decide) (fun hc => ?_) (fun hc => ?_)
    · have h := h.1 hc
      exact h
    · have h := h.2 hc
      refine kwp_iload_n (pc := 91) 2 rfl dX6_ridesOn_91 rfl ?_
      refine kwp_aload_n (pc := 92) 0 rfl dX6_ridesOn_92 rfl ?_
      refine kwp_getc (pc := 93) fl_X6_7 rfl rfl dX6_ridesOn_93 ?_
      refine kwp_sipush (pc := 96) dX6_ridesOn_96 sp_442 ?_
      refine kwp_iload_n (pc := 99) 3 rfl dX6_ridesOn_99 rfl ?_
      refine kwp_iadd (pc := 100) dX6_ridesOn_100 ?_
      obtain ⟨hin, h⟩ := h
      refine kwp_iald (pc := 101) rfl hin dX6_ridesOn_101 ?_
      refine kwp_callS (pc := 102) (Y := mX6_has) (vs := [.inl x2, .inl (M.1 1 0 ((442 : Int32) + x3).toNatClampNeg)]) (rest := []) fm_X6_has fs_X6_has ml_X6_122 (by decide) rfl rfl (by simp [kcat]) dX6_ridesOn_102 ?_
      refine kCT.mono h (fun v M1 h => ?_)
      obtain ⟨r2, rfl, h⟩ := h
      change kWP l (rg_m, g) mX6_ridesOn 105 [(0, .inr (.inr (0, 0))), (1, .inl x1), (2, .inl x2), (3, .inl x3)] [.inl r2] M1 (kqv Q)
      refine kwp_if_eq (pc := 105) 112 dX6_ridesOn_105 (by decide) (fun hc => ?_) (fun hc => ?_)
      · have h := h.1 hc
        exact h
      · have h := h.2 hc
        refine kwp_iconst (pc := 108) dX6_ridesOn_108 ic_1 ?_
        refine kwp_goto (pc := 109) 113 dX6_ridesOn_109 (by decide) ?_
        exact h

set_option maxRecDepth 20000 in
theorem bX6_ridesOn_112 {l : Launch} {g : va_G × (Nat → ClassId) × (Nat → Nat → Nat)} (x1 : Int32) (x2 : Int32) (x3 : Int32) (M : kM) (Q : kM → Prop)
    (h : kWP l (rg_m, g) mX6_ridesOn 113 [(0, .inr (.inr (0, 0))), (1, .inl x1), (2, .inl x2), (3, .inl x3)] [.inl 0] M (kqv Q)) :
    kWP l (rg_m, g) mX6_ridesOn 112 [(0, .inr (.inr (0, 0))), (1, .inl x1), (2, .inl x2), (3, .inl x3)] [] M (kqv Q) := by
  refine kwp_iconst (pc := 112) dX6_ridesOn_112 ic_0 ?_
  exact h

set_option maxRecDepth 20000 in
theorem bX6_ridesOn_113 {l : Launch} {g : va_G × (Nat → ClassId) × (Nat → Nat → Nat)} (x1 : Int32) (x2 : Int32) (x3 : Int32) (s0 : Int32) (M : kM) (Q : kM → Prop)
    (h : kCT l (rg_m, g) mX6_rides [.inr (.inr (0, 0)), .inl 434, .inl x3] M (kqv (fun M1 => vp_in ((446 : Int32) + x3) 483 ∧ (((s0 = 0 → kWP l (rg_m, g) mX6_ridesOn 145 [(0, .inr (.inr (0, 0))), (1, .inl x1), (2, .inl x2), (3, .inl x3)] [.inl 0, .inl (M1.1 1 0 ((446 : Int32) + x3).toNatClampNeg), .inl ((446 : Int32) + x3), .inr (.inr (1, 0))] M1 (kqv Q)) ∧ (¬ s0 = 0 → kWP l (rg_m, g) mX6_ridesOn 145 [(0, .inr (.inr (0, 0))), (1, .inl x1), (2, .inl x2), (3, .inl x3)] [.inl 30, .inl (M1.1 1 0 ((446 : Int32) + x3).toNatClampNeg), .inl ((446 : Int32) + x3), .inr (.inr (1, 0))] M1 (kqv Q))))))) :
    kWP l (rg_m, g) mX6_ridesOn 113 [(0, .inr (.inr (0, 0))), (1, .inl x1), (2, .inl x2), (3, .inl x3)] [.inl s0] M (kqv Q) := by
  refine kwp_istore (pc := 113) (ls2 := [(4, .inl s0), (0, .inr (.inr (0, 0))), (1, .inl x1), (2, .inl x2), (3, .inl x3)]) dX6_ridesOn_113 (by decide) rfl ?_
  refine kwp_aload_n (pc := 115) 1 rfl dX6_ridesOn_115 rfl ?_
  refine kwp_sipush (pc := 116) dX6_ridesOn_116 sp_434 ?_
  refine kwp_iload_n (pc := 119) 4 rfl dX6_ridesOn_119 rfl ?_
  refine kwp_callV (pc := 120) (Y := mX6_rides) (vs := [.inl 434, .inl x3]) (rest := []) fm_X6_rides fi_X6_rides ml_X6_140 (by decide) rfl rfl rfl rfl (by simp [kcat]) dX6_ridesOn_120 ?_
  refine kCT.mono h (fun v M1 h => ?_)
  obtain ⟨rfl, h⟩ := h
  change kWP l (rg_m, g) mX6_ridesOn 123 [(4, .inl s0), (0, .inr (.inr (0, 0))), (1, .inl x1), (2, .inl x2), (3, .inl x3)] [] M1 (kqv Q)
  refine kwp_aload_n (pc := 123) 1 rfl dX6_ridesOn_123 rfl ?_
  refine kwp_getc (pc := 124) fl_X6_7 rfl rfl dX6_ridesOn_124 ?_
  refine kwp_sipush (pc := 127) dX6_ridesOn_127 sp_446 ?_
  refine kwp_iload_n (pc := 130) 4 rfl dX6_ridesOn_130 rfl ?_
  refine kwp_iadd (pc := 131) dX6_ridesOn_131 ?_
  refine kwp_dup2 (pc := 132) dX6_ridesOn_132 rfl rfl ?_
  obtain ⟨hin, h⟩ := h
  refine kwp_iald (pc := 133) rfl hin dX6_ridesOn_133 ?_
  refine kwp_iload (pc := 134) 0 rfl dX6_ridesOn_134 ?_
  refine kwp_if_eq (pc := 136) 144 dX6_ridesOn_136 (by decide) (fun hc => ?_) (fun hc => ?_)
  · have h := h.1 hc
    refine kwp_iconst (pc := 144) dX6_ridesOn_144 ic_0 ?_
    refine kwp_sub [1, 2, 3, 4] rfl ?_
    exact h
  · have h := h.2 hc
    refine kwp_bipush (pc := 139) dX6_ridesOn_139 bp_30 ?_
    refine kwp_goto (pc := 141) 145 dX6_ridesOn_141 (by decide) ?_
    refine kwp_sub [1, 2, 3, 4] rfl ?_
    exact h

set_option maxRecDepth 20000 in
theorem bX6_ridesOn_145 {l : Launch} {g : va_G × (Nat → ClassId) × (Nat → Nat → Nat)} (x1 : Int32) (x2 : Int32) (x3 : Int32) (s0 : Int32) (s1 : Int32) (s2 : Int32) (M : kM) (Q : kM → Prop)
    (h : vp_in s2 483 ∧ (∀ M1 : kM, M1 = ku M 1 0 s2.toNatClampNeg (s1 + s0) → vp_in ((442 : Int32) + x3) 483 ∧ (vp_in ((446 : Int32) + x3) 483 ∧ (vp_in (((9 : Int32) * x3) + (M1.1 1 0 ((442 : Int32) + x3).toNatClampNeg)) 36 ∧ (∀ M2 : kM, M2 = ku M1 6 0 (((9 : Int32) * x3) + (M1.1 1 0 ((442 : Int32) + x3).toNatClampNeg)).toNatClampNeg (M1.1 1 0 ((446 : Int32) + x3).toNatClampNeg) → kCT l (rg_m, g) mX6_nextIn [.inr (.inr (0, 0)), .inl 434] M2 (kqi (fun r4 M3 => kWP l (rg_m, g) mX6_ridesOn 80 [(0, .inr (.inr (0, 0))), (1, .inl x1), (2, .inl x2), (3, .inl r4)] [] M3 (kqv Q)))))))) :
    kWP l (rg_m, g) mX6_ridesOn 145 [(0, .inr (.inr (0, 0))), (1, .inl x1), (2, .inl x2), (3, .inl x3)] [.inl s0, .inl s1, .inl s2, .inr (.inr (1, 0))] M (kqv Q) := by
  refine kwp_iadd (pc := 145) dX6_ridesOn_145 ?_
  obtain ⟨hin, h⟩ := h
  refine kwp_iast (pc := 146) rfl hin dX6_ridesOn_146 ?_
  obtain ⟨M1, eM1⟩ : ∃ z : kM, z = ku M 1 0 s2.toNatClampNeg (s1 + s0) := ⟨_, rfl⟩
  rw [← eM1]
  have h := h M1 eM1
  refine kwp_aload_n (pc := 147) 0 rfl dX6_ridesOn_147 rfl ?_
  refine kwp_getc (pc := 148) fl_X6_26 rfl rfl dX6_ridesOn_148 ?_
  refine kwp_bipush (pc := 151) dX6_ridesOn_151 bp_9 ?_
  refine kwp_iload_n (pc := 153) 3 rfl dX6_ridesOn_153 rfl ?_
  refine kwp_imul (pc := 154) dX6_ridesOn_154 ?_
  refine kwp_aload_n (pc := 155) 0 rfl dX6_ridesOn_155 rfl ?_
  refine kwp_getc (pc := 156) fl_X6_7 rfl rfl dX6_ridesOn_156 ?_
  refine kwp_sipush (pc := 159) dX6_ridesOn_159 sp_442 ?_
  refine kwp_iload_n (pc := 162) 3 rfl dX6_ridesOn_162 rfl ?_
  refine kwp_iadd (pc := 163) dX6_ridesOn_163 ?_
  obtain ⟨hin, h⟩ := h
  refine kwp_iald (pc := 164) rfl hin dX6_ridesOn_164 ?_
  refine kwp_iadd (pc := 165) dX6_ridesOn_165 ?_
  refine kwp_aload_n (pc := 166) 0 rfl dX6_ridesOn_166 rfl ?_
  refine kwp_getc (pc := 167) fl_X6_7 rfl rfl dX6_ridesOn_167 ?_
  refine kwp_sipush (pc := 170) dX6_ridesOn_170 sp_446 ?_
  refine kwp_iload_n (pc := 173) 3 rfl dX6_ridesOn_173 rfl ?_
  refine kwp_iadd (pc := 174) dX6_ridesOn_174 ?_
  obtain ⟨hin, h⟩ := h
  refine kwp_iald (pc := 175) rfl hin dX6_ridesOn_175 ?_
  obtain ⟨hin, h⟩ := h
  refine kwp_iast (pc := 176) rfl hin dX6_ridesOn_176 ?_
  obtain ⟨M2, eM2⟩ : ∃ z : kM, z = ku M1 6 0 (((9 : Int32) * x3) + (M1.1 1 0 ((442 : Int32) + x3).toNatClampNeg)).toNatClampNeg (M1.1 1 0 ((446 : Int32) + x3).toNatClampNeg) := ⟨_, rfl⟩
  rw [← eM2]
  have h := h M2 eM2
  refine kwp_aload_n (pc := 177) 0 rfl dX6_ridesOn_177 rfl ?_
  refine kwp_sipush (pc := 178) dX6_ridesOn_178 sp_434 ?_
  refine kwp_callV (pc := 181) (Y := mX6_nextIn) (vs := [.inl 434]) (rest := []) fm_X6_nextIn fi_X6_nextIn ml_X6_128 (by decide) rfl rfl rfl rfl (by simp [kcat]) dX6_ridesOn_181 ?_
  refine kCT.mono h (fun v M3 h => ?_)
  obtain ⟨r4, rfl, h⟩ := h
  change kWP l (rg_m, g) mX6_ridesOn 184 [(0, .inr (.inr (0, 0))), (1, .inl x1), (2, .inl x2), (3, .inl x3)] [.inl r4] M3 (kqv Q)
  refine kwp_istore_n (pc := 184) (ls2 := [(3, .inl r4), (0, .inr (.inr (0, 0))), (1, .inl x1), (2, .inl x2)]) dX6_ridesOn_184 rfl (by decide) rfl ?_
  refine kwp_goto (pc := 185) 80 dX6_ridesOn_185 (by decide) ?_
  refine kwp_sub [1, 2, 3, 0] rfl ?_
  exact h

set_option maxRecDepth 20000 in
theorem bX6_foretells_0 {l : Launch} {g : va_G × (Nat → ClassId) × (Nat → Nat → Nat)}  (M : kM) (Q : kM → Prop)
    (h : kCT l (rg_m, g) mX6_tries [.inr (.inr (0, 0))] M (kqv (fun M1 => kCT l (rg_m, g) mX6_ridesOn [.inr (.inr (0, 0)), .inl (-4), .inl 0] M1 (kqv (fun M2 => Q M2))))) :
    kWP l (rg_m, g) mX6_foretells 0 [(0, .inr (.inr (0, 0)))] [] M (kqv Q) := by
  refine kwp_aload_n (pc := 0) 0 rfl dX6_foretells_0 rfl ?_
  refine kwp_callV (pc := 1) (Y := mX6_tries) (vs := []) (rest := []) fm_X6_tries fi_X6_tries ml_X6_150 (by decide) rfl rfl rfl rfl (by simp [kcat]) dX6_foretells_1 ?_
  refine kCT.mono h (fun v M1 h => ?_)
  obtain ⟨rfl, h⟩ := h
  change kWP l (rg_m, g) mX6_foretells 4 [(0, .inr (.inr (0, 0)))] [] M1 (kqv Q)
  refine kwp_aload_n (pc := 4) 0 rfl dX6_foretells_4 rfl ?_
  refine kwp_bipush (pc := 5) dX6_foretells_5 bp_m4 ?_
  refine kwp_iconst (pc := 7) dX6_foretells_7 ic_0 ?_
  refine kwp_callV (pc := 8) (Y := mX6_ridesOn) (vs := [.inl (-4), .inl 0]) (rest := []) fm_X6_ridesOn fi_X6_ridesOn ml_X6_153 (by decide) rfl rfl rfl rfl (by simp [kcat]) dX6_foretells_8 ?_
  refine kCT.mono h (fun v M2 h => ?_)
  obtain ⟨rfl, h⟩ := h
  change kWP l (rg_m, g) mX6_foretells 11 [(0, .inr (.inr (0, 0)))] [] M2 (kqv Q)
  exact kwp_vret (pc := 11) rfl dX6_foretells_11 ⟨rfl, h⟩

set_option maxRecDepth 20000 in
theorem bX6_ahead_0 {l : Launch} {g : va_G × (Nat → ClassId) × (Nat → Nat → Nat)} (x1 : Int32) (x2 : Int32) (M : kM) (Q : Int32 → kM → Prop)
    (h : kCT l (rg_m, g) mX6_isRider [.inr (.inr (0, 0)), .inl x1] M (kqi (fun r2 M1 => ((r2 = 0 → kWP l (rg_m, g) mX6_ahead 18 [] [] M1 (kqi Q)) ∧ (¬ r2 = 0 → kCT l (rg_m, g) mX6_in [.inr (.inl (x2.toInt64)), .inr (.inl 0), .inr (.inl 1)] M1 (kqi (fun r4 M3 => ((¬ r4 = 0 → kCT l (rg_m, g) mX6_foretells [.inr (.inr (0, 0))] M3 (kqv (fun M5 => ((¬ x2 = 0 → kWP l (rg_m, g) mX6_ahead 42 [(1, .inl x1)] [.inl 16, .inl 434, .inr (.inr (1, 0))] M5 (kqi Q)) ∧ (x2 = 0 → kWP l (rg_m, g) mX6_ahead 42 [(1, .inl x1)] [.inl 12, .inl 434, .inr (.inr (1, 0))] M5 (kqi Q)))))) ∧ (r4 = 0 → kWP l (rg_m, g) mX6_ahead 18 [] [] M3 (kqi Q)))))))))) :
    kWP l (rg_m, g) mX6_ahead 0 [(0, .inr (.inr (0, 0))), (1, .inl x1), (2, .inl x2)] [] M (kqi Q) := by
  refine kwp_aload_n (pc := 0) 0 rfl dX6_ahead_0 rfl ?_
  refine kwp_iload_n (pc := 1) 1 rfl dX6_ahead_1 rfl ?_
  refine kwp_callV (pc := 2) (Y := mX6_isRider) (vs := [.inl x1]) (rest := []) fm_X6_isRider fi_X6_isRider ml_X6_42 (by decide) rfl rfl rfl rfl (by simp [kcat]) dX6_ahead_2 ?_
  refine kCT.mono h (fun v M1 h => ?_)
  obtain ⟨r2, rfl, h⟩ := h
  change kWP l (rg_m, g) mX6_ahead 5 [(0, .inr (.inr (0, 0))), (1, .inl x1), (2, .inl x2)] [.inl r2] M1 (kqi Q)
  refine kwp_if_eq (pc := 5) 18 dX6_ahead_5 (by decide) (fun hc => ?_) (fun hc => ?_)
  · have h := h.1 hc
    refine kwp_sub [] rfl ?_
    exact h
  · have h := h.2 hc
    refine kwp_iload_n (pc := 8) 2 rfl dX6_ahead_8 rfl ?_
    refine kwp_i2l (pc := 9) dX6_ahead_9 ?_
    refine kwp_lconst (pc := 10) (v := 0) dX6_ahead_10 (by decide) ?_
    refine kwp_lconst (pc := 11) (v := 1) dX6_ahead_11 (by decide) ?_
    refine kwp_callS (pc := 12) (Y := mX6_in) (vs := [.inr (.inl (x2.toInt64)), .inr (.inl 0), .inr (.inl 1)]) (rest := []) fm_X6_in fs_X6_in ml_X6_38 (by decide) rfl rfl (by simp [kcat]) dX6_ahead_12 ?_
    refine kCT.mono h (fun v M3 h => ?_)
    obtain ⟨r4, rfl, h⟩ := h
    change kWP l (rg_m, g) mX6_ahead 15 [(0, .inr (.inr (0, 0))), (1, .inl x1), (2, .inl x2)] [.inl r4] M3 (kqi Q)
    refine kwp_if_ne (pc := 15) 20 dX6_ahead_15 (by decide) (fun hc => ?_) (fun hc => ?_)
    · have h := h.1 hc
      refine kwp_aload_n (pc := 20) 0 rfl dX6_ahead_20 rfl ?_
      refine kwp_callV (pc := 21) (Y := mX6_foretells) (vs := []) (rest := []) fm_X6_foretells fi_X6_foretells ml_X6_156 (by decide) rfl rfl rfl rfl (by simp [kcat]) dX6_ahead_21 ?_
      refine kCT.mono h (fun v M5 h => ?_)
      obtain ⟨rfl, h⟩ := h
      change kWP l (rg_m, g) mX6_ahead 24 [(0, .inr (.inr (0, 0))), (1, .inl x1), (2, .inl x2)] [] M5 (kqi Q)
      refine kwp_aload_n (pc := 24) 0 rfl dX6_ahead_24 rfl ?_
      refine kwp_getc (pc := 25) fl_X6_7 rfl rfl dX6_ahead_25 ?_
      refine kwp_sipush (pc := 28) dX6_ahead_28 sp_434 ?_
      refine kwp_iload_n (pc := 31) 2 rfl dX6_ahead_31 rfl ?_
      refine kwp_if_ne (pc := 32) 40 dX6_ahead_32 (by decide) (fun hc => ?_) (fun hc => ?_)
      · have h := h.1 hc
        refine kwp_bipush (pc := 40) dX6_ahead_40 bp_16 ?_
        refine kwp_sub [1] rfl ?_
        exact h
      · have h := h.2 hc
        refine kwp_bipush (pc := 35) dX6_ahead_35 bp_12 ?_
        refine kwp_goto (pc := 37) 42 dX6_ahead_37 (by decide) ?_
        refine kwp_sub [1] rfl ?_
        exact h
    · have h := h.2 hc
      refine kwp_sub [] rfl ?_
      exact h

set_option maxRecDepth 20000 in
theorem bX6_ahead_18 {l : Launch} {g : va_G × (Nat → ClassId) × (Nat → Nat → Nat)}  (M : kM) (Q : Int32 → kM → Prop)
    (h : Q (-1) M) :
    kWP l (rg_m, g) mX6_ahead 18 [] [] M (kqi Q) := by
  refine kwp_iconst (pc := 18) dX6_ahead_18 ic_m1 ?_
  exact kwp_iret (pc := 19) rfl dX6_ahead_19 ⟨_, rfl, h⟩

set_option maxRecDepth 20000 in
theorem bX6_ahead_42 {l : Launch} {g : va_G × (Nat → ClassId) × (Nat → Nat → Nat)} (x1 : Int32) (s0 : Int32) (s1 : Int32) (M : kM) (Q : Int32 → kM → Prop)
    (h : vp_in ((s1 + s0) + x1) 483 ∧ (Q (M.1 1 0 ((s1 + s0) + x1).toNatClampNeg) M)) :
    kWP l (rg_m, g) mX6_ahead 42 [(1, .inl x1)] [.inl s0, .inl s1, .inr (.inr (1, 0))] M (kqi Q) := by
  refine kwp_iadd (pc := 42) dX6_ahead_42 ?_
  refine kwp_iload_n (pc := 43) 0 rfl dX6_ahead_43 rfl ?_
  refine kwp_iadd (pc := 44) dX6_ahead_44 ?_
  obtain ⟨hin, h⟩ := h
  refine kwp_iald (pc := 45) rfl hin dX6_ahead_45 ?_
  exact kwp_iret (pc := 46) rfl dX6_ahead_46 ⟨_, rfl, h⟩

set_option maxRecDepth 20000 in
theorem bX6_comes_0 {l : Launch} {g : va_G × (Nat → ClassId) × (Nat → Nat → Nat)} (x1 : Int32) (x2 : Int32) (M : kM) (Q : Int32 → kM → Prop)
    (h : kCT l (rg_m, g) mX6_isRider [.inr (.inr (0, 0)), .inl x1] M (kqi (fun r2 M1 => ((r2 = 0 → kWP l (rg_m, g) mX6_comes 25 [] [] M1 (kqi Q)) ∧ (¬ r2 = 0 → kCT l (rg_m, g) mX6_in [.inr (.inl (x2.toInt64)), .inr (.inl 0), .inr (.inl ((M1.1 1 0 (21 : Int32).toNatClampNeg).toInt64))] M1 (kqi (fun r4 M3 => ((¬ r4 = 0 → kCT l (rg_m, g) mX6_foretells [.inr (.inr (0, 0))] M3 (kqv (fun M5 => vp_in (((9 : Int32) * x1) + x2) 36 ∧ (Q (M5.1 6 0 (((9 : Int32) * x1) + x2).toNatClampNeg) M5)))) ∧ (r4 = 0 → kWP l (rg_m, g) mX6_comes 25 [] [] M3 (kqi Q)))))))))) :
    kWP l (rg_m, g) mX6_comes 0 [(0, .inr (.inr (0, 0))), (1, .inl x1), (2, .inl x2)] [] M (kqi Q) := by
  refine kwp_aload_n (pc := 0) 0 rfl dX6_comes_0 rfl ?_
  refine kwp_iload_n (pc := 1) 1 rfl dX6_comes_1 rfl ?_
  refine kwp_callV (pc := 2) (Y := mX6_isRider) (vs := [.inl x1]) (rest := []) fm_X6_isRider fi_X6_isRider ml_X6_42 (by decide) rfl rfl rfl rfl (by simp [kcat]) dX6_comes_2 ?_
  refine kCT.mono h (fun v M1 h => ?_)
  obtain ⟨r2, rfl, h⟩ := h
  change kWP l (rg_m, g) mX6_comes 5 [(0, .inr (.inr (0, 0))), (1, .inl x1), (2, .inl x2)] [.inl r2] M1 (kqi Q)
  refine kwp_if_eq (pc := 5) 25 dX6_comes_5 (by decide) (fun hc => ?_) (fun hc => ?_)
  · have h := h.1 hc
    refine kwp_sub [] rfl ?_
    exact h
  · have h := h.2 hc
    refine kwp_iload_n (pc := 8) 2 rfl dX6_comes_8 rfl ?_
    refine kwp_i2l (pc := 9) dX6_comes_9 ?_
    refine kwp_lconst (pc := 10) (v := 0) dX6_comes_10 (by decide) ?_
    refine kwp_aload_n (pc := 11) 0 rfl dX6_comes_11 rfl ?_
    refine kwp_getc (pc := 12) fl_X6_7 rfl rfl dX6_comes_12 ?_
    refine kwp_bipush (pc := 15) dX6_comes_15 bp_21 ?_
    refine kwp_iald (pc := 17) rfl (show vp_in (21 : Int32) 483 by unfold vp_in; decide) dX6_comes_17 ?_
    refine kwp_i2l (pc := 18) dX6_comes_18 ?_
    refine kwp_callS (pc := 19) (Y := mX6_in) (vs := [.inr (.inl (x2.toInt64)), .inr (.inl 0), .inr (.inl ((M1.1 1 0 (21 : Int32).toNatClampNeg).toInt64))]) (rest := []) fm_X6_in fs_X6_in ml_X6_38 (by decide) rfl rfl (by simp [kcat]) dX6_comes_19 ?_
    refine kCT.mono h (fun v M3 h => ?_)
    obtain ⟨r4, rfl, h⟩ := h
    change kWP l (rg_m, g) mX6_comes 22 [(0, .inr (.inr (0, 0))), (1, .inl x1), (2, .inl x2)] [.inl r4] M3 (kqi Q)
    refine kwp_if_ne (pc := 22) 27 dX6_comes_22 (by decide) (fun hc => ?_) (fun hc => ?_)
    · have h := h.1 hc
      refine kwp_aload_n (pc := 27) 0 rfl dX6_comes_27 rfl ?_
      refine kwp_callV (pc := 28) (Y := mX6_foretells) (vs := []) (rest := []) fm_X6_foretells fi_X6_foretells ml_X6_156 (by decide) rfl rfl rfl rfl (by simp [kcat]) dX6_comes_28 ?_
      refine kCT.mono h (fun v M5 h => ?_)
      obtain ⟨rfl, h⟩ := h
      change kWP l (rg_m, g) mX6_comes 31 [(0, .inr (.inr (0, 0))), (1, .inl x1), (2, .inl x2)] [] M5 (kqi Q)
      refine kwp_aload_n (pc := 31) 0 rfl dX6_comes_31 rfl ?_
      refine kwp_getc (pc := 32) fl_X6_26 rfl rfl dX6_comes_32 ?_
      refine kwp_bipush (pc := 35) dX6_comes_35 bp_9 ?_
      refine kwp_iload_n (pc := 37) 1 rfl dX6_comes_37 rfl ?_
      refine kwp_imul (pc := 38) dX6_comes_38 ?_
      refine kwp_iload_n (pc := 39) 2 rfl dX6_comes_39 rfl ?_
      refine kwp_iadd (pc := 40) dX6_comes_40 ?_
      obtain ⟨hin, h⟩ := h
      refine kwp_iald (pc := 41) rfl hin dX6_comes_41 ?_
      exact kwp_iret (pc := 42) rfl dX6_comes_42 ⟨_, rfl, h⟩
    · have h := h.2 hc
      refine kwp_sub [] rfl ?_
      exact h

set_option maxRecDepth 20000 in
theorem bX6_comes_25 {l : Launch} {g : va_G × (Nat → ClassId) × (Nat → Nat → Nat)}  (M : kM) (Q : Int32 → kM → Prop)
    (h : Q (-1) M) :
    kWP l (rg_m, g) mX6_comes 25 [] [] M (kqi Q) := by
  refine kwp_iconst (pc := 25) dX6_comes_25 ic_m1 ?_
  exact kwp_iret (pc := 26) rfl dX6_comes_26 ⟨_, rfl, h⟩

set_option maxRecDepth 20000 in
theorem bX6_firstTried_0 {l : Launch} {g : va_G × (Nat → ClassId) × (Nat → Nat → Nat)}  (M : kM) (Q : Int32 → kM → Prop)
    (h : kWP l (rg_m, g) mX6_firstTried 5 [(0, .inr (.inr (0, 0))), (1, .inl (-4)), (2, .inl 0)] [] M (kqi Q)) :
    kWP l (rg_m, g) mX6_firstTried 0 [(0, .inr (.inr (0, 0)))] [] M (kqi Q) := by
  refine kwp_bipush (pc := 0) dX6_firstTried_0 bp_m4 ?_
  refine kwp_istore_n (pc := 2) (ls2 := [(1, .inl (-4)), (0, .inr (.inr (0, 0)))]) dX6_firstTried_2 rfl (by decide) rfl ?_
  refine kwp_iconst (pc := 3) dX6_firstTried_3 ic_0 ?_
  refine kwp_istore_n (pc := 4) (ls2 := [(2, .inl 0), (1, .inl (-4)), (0, .inr (.inr (0, 0)))]) dX6_firstTried_4 rfl (by decide) rfl ?_
  refine kwp_sub [2, 1, 0] rfl ?_
  exact h

set_option maxRecDepth 20000 in
theorem bX6_firstTried_5 {l : Launch} {g : va_G × (Nat → ClassId) × (Nat → Nat → Nat)} (x1 : Int32) (x2 : Int32) (M : kM) (Q : Int32 → kM → Prop)
    (h : (((M.1 1 0 (22 : Int32).toNatClampNeg) ≤ x2 → Q x1 M) ∧ (¬ (M.1 1 0 (22 : Int32).toNatClampNeg) ≤ x2 → ((x1 = (-4) → kWP l (rg_m, g) mX6_firstTried 45 [(0, .inr (.inr (0, 0))), (2, .inl x2)] [] M (kqi Q)) ∧ (¬ x1 = (-4) → vp_in ((446 : Int32) + x2) 483 ∧ (vp_in ((446 : Int32) + x1) 483 ∧ ((((M.1 1 0 ((446 : Int32) + x1).toNatClampNeg) ≤ (M.1 1 0 ((446 : Int32) + x2).toNatClampNeg) → kWP l (rg_m, g) mX6_firstTried 50 [(0, .inr (.inr (0, 0))), (2, .inl x2)] [.inl x1] M (kqi Q)) ∧ (¬ (M.1 1 0 ((446 : Int32) + x1).toNatClampNeg) ≤ (M.1 1 0 ((446 : Int32) + x2).toNatClampNeg) → kWP l (rg_m, g) mX6_firstTried 45 [(0, .inr (.inr (0, 0))), (2, .inl x2)] [] M (kqi Q)))))))))) :
    kWP l (rg_m, g) mX6_firstTried 5 [(0, .inr (.inr (0, 0))), (1, .inl x1), (2, .inl x2)] [] M (kqi Q) := by
  refine kwp_iload_n (pc := 5) 2 rfl dX6_firstTried_5 rfl ?_
  refine kwp_aload_n (pc := 6) 0 rfl dX6_firstTried_6 rfl ?_
  refine kwp_getc (pc := 7) fl_X6_7 rfl rfl dX6_firstTried_7 ?_
  refine kwp_bipush (pc := 10) dX6_firstTried_10 bp_22 ?_
  refine kwp_iald (pc := 12) rfl (show vp_in (22 : Int32) 483 by unfold vp_in; decide) dX6_firstTried_12 ?_
  refine kwp_icmp_ge (pc := 13) 57 dX6_firstTried_13 (by decide) (fun hc => ?_) (fun hc => ?_)
  · have h := h.1 hc
    refine kwp_iload_n (pc := 57) 1 rfl dX6_firstTried_57 rfl ?_
    exact kwp_iret (pc := 58) rfl dX6_firstTried_58 ⟨_, rfl, h⟩
  · have h := h.2 hc
    refine kwp_iload_n (pc := 16) 1 rfl dX6_firstTried_16 rfl ?_
    refine kwp_bipush (pc := 17) dX6_firstTried_17 bp_m4 ?_
    refine kwp_icmp_eq (pc := 19) 45 dX6_firstTried_19 (by decide) (fun hc => ?_) (fun hc => ?_)
    · have h := h.1 hc
      refine kwp_sub [0, 2] rfl ?_
      exact h
    · have h := h.2 hc
      refine kwp_aload_n (pc := 22) 0 rfl dX6_firstTried_22 rfl ?_
      refine kwp_getc (pc := 23) fl_X6_7 rfl rfl dX6_firstTried_23 ?_
      refine kwp_sipush (pc := 26) dX6_firstTried_26 sp_446 ?_
      refine kwp_iload_n (pc := 29) 2 rfl dX6_firstTried_29 rfl ?_
      refine kwp_iadd (pc := 30) dX6_firstTried_30 ?_
      obtain ⟨hin, h⟩ := h
      refine kwp_iald (pc := 31) rfl hin dX6_firstTried_31 ?_
      refine kwp_aload_n (pc := 32) 0 rfl dX6_firstTried_32 rfl ?_
      refine kwp_getc (pc := 33) fl_X6_7 rfl rfl dX6_firstTried_33 ?_
      refine kwp_sipush (pc := 36) dX6_firstTried_36 sp_446 ?_
      refine kwp_iload_n (pc := 39) 1 rfl dX6_firstTried_39 rfl ?_
      refine kwp_iadd (pc := 40) dX6_firstTried_40 ?_
      obtain ⟨hin, h⟩ := h
      refine kwp_iald (pc := 41) rfl hin dX6_firstTried_41 ?_
      refine kwp_icmp_ge (pc := 42) 49 dX6_firstTried_42 (by decide) (fun hc => ?_) (fun hc => ?_)
      · have h := h.1 hc
        refine kwp_iload_n (pc := 49) 1 rfl dX6_firstTried_49 rfl ?_
        refine kwp_sub [0, 2] rfl ?_
        exact h
      · have h := h.2 hc
        refine kwp_sub [0, 2] rfl ?_
        exact h

set_option maxRecDepth 20000 in
theorem bX6_firstTried_45 {l : Launch} {g : va_G × (Nat → ClassId) × (Nat → Nat → Nat)} (x2 : Int32) (M : kM) (Q : Int32 → kM → Prop)
    (h : kWP l (rg_m, g) mX6_firstTried 50 [(0, .inr (.inr (0, 0))), (2, .inl x2)] [.inl x2] M (kqi Q)) :
    kWP l (rg_m, g) mX6_firstTried 45 [(0, .inr (.inr (0, 0))), (2, .inl x2)] [] M (kqi Q) := by
  refine kwp_iload_n (pc := 45) 1 rfl dX6_firstTried_45 rfl ?_
  refine kwp_goto (pc := 46) 50 dX6_firstTried_46 (by decide) ?_
  exact h

set_option maxRecDepth 20000 in
theorem bX6_firstTried_50 {l : Launch} {g : va_G × (Nat → ClassId) × (Nat → Nat → Nat)} (x2 : Int32) (s0 : Int32) (M : kM) (Q : Int32 → kM → Prop)
    (h : ∀ z1 : Int32, z1 = x2 + 1 → kWP l (rg_m, g) mX6_firstTried 5 [(0, .inr (.inr (0, 0))), (1, .inl s0), (2, .inl z1)] [] M (kqi Q)) :
    kWP l (rg_m, g) mX6_firstTried 50 [(0, .inr (.inr (0, 0))), (2, .inl x2)] [.inl s0] M (kqi Q) := by
  refine kwp_istore_n (pc := 50) (ls2 := [(1, .inl s0), (0, .inr (.inr (0, 0))), (2, .inl x2)]) dX6_firstTried_50 rfl (by decide) rfl ?_
  obtain ⟨z1, ez1⟩ : ∃ z : Int32, z = x2 + 1 := ⟨_, rfl⟩
  have h := h z1 ez1
  refine kwp_iinc (pc := 51) (v := z1) (ls2 := [(2, .inl z1), (1, .inl s0), (0, .inr (.inr (0, 0)))]) 2 rfl dX6_firstTried_51 (by rw [ez1, ic_1]) (by decide) rfl ?_
  refine kwp_goto (pc := 54) 5 dX6_firstTried_54 (by decide) ?_
  refine kwp_sub [2, 1, 0] rfl ?_
  exact h

set_option maxRecDepth 20000 in
theorem bX6_first_0 {l : Launch} {g : va_G × (Nat → ClassId) × (Nat → Nat → Nat)}  (M : kM) (Q : Int32 → kM → Prop)
    (h : kCT l (rg_m, g) mX6_foretells [.inr (.inr (0, 0))] M (kqv (fun M1 => kCT l (rg_m, g) mX6_firstTried [.inr (.inr (0, 0))] M1 (kqi (fun r3 M2 => Q r3 M2))))) :
    kWP l (rg_m, g) mX6_first 0 [(0, .inr (.inr (0, 0)))] [] M (kqi Q) := by
  refine kwp_aload_n (pc := 0) 0 rfl dX6_first_0 rfl ?_
  refine kwp_callV (pc := 1) (Y := mX6_foretells) (vs := []) (rest := []) fm_X6_foretells fi_X6_foretells ml_X6_156 (by decide) rfl rfl rfl rfl (by simp [kcat]) dX6_first_1 ?_
  refine kCT.mono h (fun v M1 h => ?_)
  obtain ⟨rfl, h⟩ := h
  change kWP l (rg_m, g) mX6_first 4 [(0, .inr (.inr (0, 0)))] [] M1 (kqi Q)
  refine kwp_aload_n (pc := 4) 0 rfl dX6_first_4 rfl ?_
  refine kwp_callV (pc := 5) (Y := mX6_firstTried) (vs := []) (rest := []) fm_X6_firstTried fi_X6_firstTried ml_X6_159 (by decide) rfl rfl rfl rfl (by simp [kcat]) dX6_first_5 ?_
  refine kCT.mono h (fun v M2 h => ?_)
  obtain ⟨r3, rfl, h⟩ := h
  change kWP l (rg_m, g) mX6_first 8 [(0, .inr (.inr (0, 0)))] [.inl r3] M2 (kqi Q)
  exact kwp_iret (pc := 8) rfl dX6_first_8 ⟨_, rfl, h⟩

set_option maxRecDepth 20000 in
theorem bX6_caught_0 {l : Launch} {g : va_G × (Nat → ClassId) × (Nat → Nat → Nat)} (x1 : Int32) (x2 : Int32) (M : kM) (Q : Int32 → kM → Prop)
    (h : kCT l (rg_m, g) mX6_areTwo [.inr (.inr (0, 0)), .inl x1, .inl x2] M (kqi (fun r2 M1 => ((¬ r2 = 0 → kCT l (rg_m, g) mX6_foretells [.inr (.inr (0, 0))] M1 (kqv (fun M3 => vp_in ((8 : Int32) + x1) 483 ∧ (vp_in ((8 : Int32) + x2) 483 ∧ ((((M3.1 1 0 ((8 : Int32) + x1).toNatClampNeg) ≤ (M3.1 1 0 ((8 : Int32) + x2).toNatClampNeg) → vp_in ((8 : Int32) + x2) 483 ∧ (kWP l (rg_m, g) mX6_caught 57 [(0, .inr (.inr (0, 0))), (1, .inl x1), (2, .inl x2)] [.inl (M3.1 1 0 ((8 : Int32) + x2).toNatClampNeg)] M3 (kqi Q))) ∧ (¬ (M3.1 1 0 ((8 : Int32) + x1).toNatClampNeg) ≤ (M3.1 1 0 ((8 : Int32) + x2).toNatClampNeg) → vp_in ((8 : Int32) + x1) 483 ∧ (kWP l (rg_m, g) mX6_caught 57 [(0, .inr (.inr (0, 0))), (1, .inl x1), (2, .inl x2)] [.inl (M3.1 1 0 ((8 : Int32) + x1).toNatClampNeg)] M3 (kqi Q))))))))) ∧ (r2 = 0 → Q (-1) M1))))) :
    kWP l (rg_m, g) mX6_caught 0 [(0, .inr (.inr (0, 0))), (1, .inl x1), (2, .inl x2)] [] M (kqi Q) := by
  refine kwp_aload_n (pc := 0) 0 rfl dX6_caught_0 rfl ?_
  refine kwp_iload_n (pc := 1) 1 rfl dX6_caught_1 rfl ?_
  refine kwp_iload_n (pc := 2) 2 rfl dX6_caught_2 rfl ?_
  refine kwp_callV (pc := 3) (Y := mX6_areTwo) (vs := [.inl x1, .inl x2]) (rest := []) fm_X6_areTwo fi_X6_areTwo ml_X6_144 (by decide) rfl rfl rfl rfl (by simp [kcat]) dX6_caught_3 ?_
  refine kCT.mono h (fun v M1 h => ?_)
  obtain ⟨r2, rfl, h⟩ := h
  change kWP l (rg_m, g) mX6_caught 6 [(0, .inr (.inr (0, 0))), (1, .inl x1), (2, .inl x2)] [.inl r2] M1 (kqi Q)
  refine kwp_if_ne (pc := 6) 11 dX6_caught_6 (by decide) (fun hc => ?_) (fun hc => ?_)
  · have h := h.1 hc
    refine kwp_aload_n (pc := 11) 0 rfl dX6_caught_11 rfl ?_
    refine kwp_callV (pc := 12) (Y := mX6_foretells) (vs := []) (rest := []) fm_X6_foretells fi_X6_foretells ml_X6_156 (by decide) rfl rfl rfl rfl (by simp [kcat]) dX6_caught_12 ?_
    refine kCT.mono h (fun v M3 h => ?_)
    obtain ⟨rfl, h⟩ := h
    change kWP l (rg_m, g) mX6_caught 15 [(0, .inr (.inr (0, 0))), (1, .inl x1), (2, .inl x2)] [] M3 (kqi Q)
    refine kwp_aload_n (pc := 15) 0 rfl dX6_caught_15 rfl ?_
    refine kwp_getc (pc := 16) fl_X6_7 rfl rfl dX6_caught_16 ?_
    refine kwp_bipush (pc := 19) dX6_caught_19 bp_8 ?_
    refine kwp_iload_n (pc := 21) 1 rfl dX6_caught_21 rfl ?_
    refine kwp_iadd (pc := 22) dX6_caught_22 ?_
    obtain ⟨hin, h⟩ := h
    refine kwp_iald (pc := 23) rfl hin dX6_caught_23 ?_
    refine kwp_aload_n (pc := 24) 0 rfl dX6_caught_24 rfl ?_
    refine kwp_getc (pc := 25) fl_X6_7 rfl rfl dX6_caught_25 ?_
    refine kwp_bipush (pc := 28) dX6_caught_28 bp_8 ?_
    refine kwp_iload_n (pc := 30) 2 rfl dX6_caught_30 rfl ?_
    refine kwp_iadd (pc := 31) dX6_caught_31 ?_
    obtain ⟨hin, h⟩ := h
    refine kwp_iald (pc := 32) rfl hin dX6_caught_32 ?_
    refine kwp_icmp_le (pc := 33) 48 dX6_caught_33 (by decide) (fun hc => ?_) (fun hc => ?_)
    · have h := h.1 hc
      refine kwp_aload_n (pc := 48) 0 rfl dX6_caught_48 rfl ?_
      refine kwp_getc (pc := 49) fl_X6_7 rfl rfl dX6_caught_49 ?_
      refine kwp_bipush (pc := 52) dX6_caught_52 bp_8 ?_
      refine kwp_iload_n (pc := 54) 2 rfl dX6_caught_54 rfl ?_
      refine kwp_iadd (pc := 55) dX6_caught_55 ?_
      obtain ⟨hin, h⟩ := h
      refine kwp_iald (pc := 56) rfl hin dX6_caught_56 ?_
      exact h
    · have h := h.2 hc
      refine kwp_aload_n (pc := 36) 0 rfl dX6_caught_36 rfl ?_
      refine kwp_getc (pc := 37) fl_X6_7 rfl rfl dX6_caught_37 ?_
      refine kwp_bipush (pc := 40) dX6_caught_40 bp_8 ?_
      refine kwp_iload_n (pc := 42) 1 rfl dX6_caught_42 rfl ?_
      refine kwp_iadd (pc := 43) dX6_caught_43 ?_
      obtain ⟨hin, h⟩ := h
      refine kwp_iald (pc := 44) rfl hin dX6_caught_44 ?_
      refine kwp_goto (pc := 45) 57 dX6_caught_45 (by decide) ?_
      exact h
  · have h := h.2 hc
    refine kwp_iconst (pc := 9) dX6_caught_9 ic_m1 ?_
    exact kwp_iret (pc := 10) rfl dX6_caught_10 ⟨_, rfl, h⟩

set_option maxRecDepth 20000 in
theorem bX6_caught_57 {l : Launch} {g : va_G × (Nat → ClassId) × (Nat → Nat → Nat)} (x1 : Int32) (x2 : Int32) (s0 : Int32) (M : kM) (Q : Int32 → kM → Prop)
    (h : ((1 ≤ s0 → kWP l (rg_m, g) mX6_caught 68 [(0, .inr (.inr (0, 0))), (1, .inl x1), (2, .inl x2)] [.inl s0] M (kqi Q)) ∧ (¬ 1 ≤ s0 → kWP l (rg_m, g) mX6_caught 68 [(0, .inr (.inr (0, 0))), (1, .inl x1), (2, .inl x2)] [.inl 1] M (kqi Q)))) :
    kWP l (rg_m, g) mX6_caught 57 [(0, .inr (.inr (0, 0))), (1, .inl x1), (2, .inl x2)] [.inl s0] M (kqi Q) := by
  refine kwp_istore_n (pc := 57) (ls2 := [(3, .inl s0), (0, .inr (.inr (0, 0))), (1, .inl x1), (2, .inl x2)]) dX6_caught_57 rfl (by decide) rfl ?_
  refine kwp_iload_n (pc := 58) 0 rfl dX6_caught_58 rfl ?_
  refine kwp_iconst (pc := 59) dX6_caught_59 ic_1 ?_
  refine kwp_icmp_ge (pc := 60) 67 dX6_caught_60 (by decide) (fun hc => ?_) (fun hc => ?_)
  · have h := h.1 hc
    refine kwp_iload_n (pc := 67) 0 rfl dX6_caught_67 rfl ?_
    refine kwp_sub [1, 2, 3] rfl ?_
    exact h
  · have h := h.2 hc
    refine kwp_iconst (pc := 63) dX6_caught_63 ic_1 ?_
    refine kwp_goto (pc := 64) 68 dX6_caught_64 (by decide) ?_
    refine kwp_sub [1, 2, 3] rfl ?_
    exact h

set_option maxRecDepth 20000 in
theorem bX6_caught_68 {l : Launch} {g : va_G × (Nat → ClassId) × (Nat → Nat → Nat)} (x1 : Int32) (x2 : Int32) (s0 : Int32) (M : kM) (Q : Int32 → kM → Prop)
    (h : kWP l (rg_m, g) mX6_caught 70 [(0, .inr (.inr (0, 0))), (1, .inl x1), (2, .inl x2), (4, .inl s0)] [] M (kqi Q)) :
    kWP l (rg_m, g) mX6_caught 68 [(0, .inr (.inr (0, 0))), (1, .inl x1), (2, .inl x2)] [.inl s0] M (kqi Q) := by
  refine kwp_istore (pc := 68) (ls2 := [(4, .inl s0), (0, .inr (.inr (0, 0))), (1, .inl x1), (2, .inl x2)]) dX6_caught_68 (by decide) rfl ?_
  refine kwp_sub [1, 2, 3, 0] rfl ?_
  exact h

set_option maxRecDepth 20000 in
theorem bX6_caught_70 {l : Launch} {g : va_G × (Nat → ClassId) × (Nat → Nat → Nat)} (x1 : Int32) (x2 : Int32) (x4 : Int32) (M : kM) (Q : Int32 → kM → Prop)
    (h : (((M.1 1 0 (21 : Int32).toNatClampNeg) < x4 → Q (-4) M) ∧ (¬ (M.1 1 0 (21 : Int32).toNatClampNeg) < x4 → vp_in (((9 : Int32) * x2) + x4) 36 ∧ (vp_in (((9 : Int32) * x1) + x4) 36 ∧ ((((M.1 6 0 (((9 : Int32) * x1) + x4).toNatClampNeg) < (M.1 6 0 (((9 : Int32) * x2) + x4).toNatClampNeg) → ∀ z1 : Int32, z1 = x4 + 1 → kWP l (rg_m, g) mX6_caught 70 [(0, .inr (.inr (0, 0))), (1, .inl x1), (2, .inl x2), (4, .inl z1)] [] M (kqi Q)) ∧ (¬ (M.1 6 0 (((9 : Int32) * x1) + x4).toNatClampNeg) < (M.1 6 0 (((9 : Int32) * x2) + x4).toNatClampNeg) → Q x4 M))))))) :
    kWP l (rg_m, g) mX6_caught 70 [(0, .inr (.inr (0, 0))), (1, .inl x1), (2, .inl x2), (4, .inl x4)] [] M (kqi Q) := by
  refine kwp_iload (pc := 70) 3 rfl dX6_caught_70 ?_
  refine kwp_aload_n (pc := 72) 0 rfl dX6_caught_72 rfl ?_
  refine kwp_getc (pc := 73) fl_X6_7 rfl rfl dX6_caught_73 ?_
  refine kwp_bipush (pc := 76) dX6_caught_76 bp_21 ?_
  refine kwp_iald (pc := 78) rfl (show vp_in (21 : Int32) 483 by unfold vp_in; decide) dX6_caught_78 ?_
  refine kwp_icmp_gt (pc := 79) 118 dX6_caught_79 (by decide) (fun hc => ?_) (fun hc => ?_)
  · have h := h.1 hc
    refine kwp_bipush (pc := 118) dX6_caught_118 bp_m4 ?_
    exact kwp_iret (pc := 120) rfl dX6_caught_120 ⟨_, rfl, h⟩
  · have h := h.2 hc
    refine kwp_aload_n (pc := 82) 0 rfl dX6_caught_82 rfl ?_
    refine kwp_getc (pc := 83) fl_X6_26 rfl rfl dX6_caught_83 ?_
    refine kwp_bipush (pc := 86) dX6_caught_86 bp_9 ?_
    refine kwp_iload_n (pc := 88) 2 rfl dX6_caught_88 rfl ?_
    refine kwp_imul (pc := 89) dX6_caught_89 ?_
    refine kwp_iload (pc := 90) 3 rfl dX6_caught_90 ?_
    refine kwp_iadd (pc := 92) dX6_caught_92 ?_
    obtain ⟨hin, h⟩ := h
    refine kwp_iald (pc := 93) rfl hin dX6_caught_93 ?_
    refine kwp_aload_n (pc := 94) 0 rfl dX6_caught_94 rfl ?_
    refine kwp_getc (pc := 95) fl_X6_26 rfl rfl dX6_caught_95 ?_
    refine kwp_bipush (pc := 98) dX6_caught_98 bp_9 ?_
    refine kwp_iload_n (pc := 100) 1 rfl dX6_caught_100 rfl ?_
    refine kwp_imul (pc := 101) dX6_caught_101 ?_
    refine kwp_iload (pc := 102) 3 rfl dX6_caught_102 ?_
    refine kwp_iadd (pc := 104) dX6_caught_104 ?_
    obtain ⟨hin, h⟩ := h
    refine kwp_iald (pc := 105) rfl hin dX6_caught_105 ?_
    refine kwp_icmp_gt (pc := 106) 112 dX6_caught_106 (by decide) (fun hc => ?_) (fun hc => ?_)
    · have h := h.1 hc
      obtain ⟨z1, ez1⟩ : ∃ z : Int32, z = x4 + 1 := ⟨_, rfl⟩
      have h := h z1 ez1
      refine kwp_iinc (pc := 112) (v := z1) (ls2 := [(4, .inl z1), (0, .inr (.inr (0, 0))), (1, .inl x1), (2, .inl x2)]) 3 rfl dX6_caught_112 (by rw [ez1, ic_1]) (by decide) rfl ?_
      refine kwp_goto (pc := 115) 70 dX6_caught_115 (by decide) ?_
      refine kwp_sub [1, 2, 3, 0] rfl ?_
      exact h
    · have h := h.2 hc
      refine kwp_iload (pc := 109) 3 rfl dX6_caught_109 ?_
      exact kwp_iret (pc := 111) rfl dX6_caught_111 ⟨_, rfl, h⟩

set_option maxRecDepth 20000 in
theorem bX6_best_0 {l : Launch} {g : va_G × (Nat → ClassId) × (Nat → Nat → Nat)} (x1 : Int32) (x2 : Int32) (M : kM) (Q : Int32 → kM → Prop)
    (h : kCT l (rg_m, g) mX6_isRider [.inr (.inr (0, 0)), .inl x1] M (kqi (fun r2 M1 => ((r2 = 0 → kWP l (rg_m, g) mX6_best 18 [] [] M1 (kqi Q)) ∧ (¬ r2 = 0 → kCT l (rg_m, g) mX6_in [.inr (.inl (x2.toInt64)), .inr (.inl 0), .inr (.inl 1)] M1 (kqi (fun r4 M3 => ((¬ r4 = 0 → kWP l (rg_m, g) mX6_best 29 [(0, .inr (.inr (0, 0))), (1, .inl x1), (2, .inl x2), (3, .inl 0), (4, .inl 1000000000), (5, .inl 0)] [] M3 (kqi Q)) ∧ (r4 = 0 → kWP l (rg_m, g) mX6_best 18 [] [] M3 (kqi Q)))))))))) :
    kWP l (rg_m, g) mX6_best 0 [(0, .inr (.inr (0, 0))), (1, .inl x1), (2, .inl x2)] [] M (kqi Q) := by
  refine kwp_aload_n (pc := 0) 0 rfl dX6_best_0 rfl ?_
  refine kwp_iload_n (pc := 1) 1 rfl dX6_best_1 rfl ?_
  refine kwp_callV (pc := 2) (Y := mX6_isRider) (vs := [.inl x1]) (rest := []) fm_X6_isRider fi_X6_isRider ml_X6_42 (by decide) rfl rfl rfl rfl (by simp [kcat]) dX6_best_2 ?_
  refine kCT.mono h (fun v M1 h => ?_)
  obtain ⟨r2, rfl, h⟩ := h
  change kWP l (rg_m, g) mX6_best 5 [(0, .inr (.inr (0, 0))), (1, .inl x1), (2, .inl x2)] [.inl r2] M1 (kqi Q)
  refine kwp_if_eq (pc := 5) 18 dX6_best_5 (by decide) (fun hc => ?_) (fun hc => ?_)
  · have h := h.1 hc
    refine kwp_sub [] rfl ?_
    exact h
  · have h := h.2 hc
    refine kwp_iload_n (pc := 8) 2 rfl dX6_best_8 rfl ?_
    refine kwp_i2l (pc := 9) dX6_best_9 ?_
    refine kwp_lconst (pc := 10) (v := 0) dX6_best_10 (by decide) ?_
    refine kwp_lconst (pc := 11) (v := 1) dX6_best_11 (by decide) ?_
    refine kwp_callS (pc := 12) (Y := mX6_in) (vs := [.inr (.inl (x2.toInt64)), .inr (.inl 0), .inr (.inl 1)]) (rest := []) fm_X6_in fs_X6_in ml_X6_38 (by decide) rfl rfl (by simp [kcat]) dX6_best_12 ?_
    refine kCT.mono h (fun v M3 h => ?_)
    obtain ⟨r4, rfl, h⟩ := h
    change kWP l (rg_m, g) mX6_best 15 [(0, .inr (.inr (0, 0))), (1, .inl x1), (2, .inl x2)] [.inl r4] M3 (kqi Q)
    refine kwp_if_ne (pc := 15) 20 dX6_best_15 (by decide) (fun hc => ?_) (fun hc => ?_)
    · have h := h.1 hc
      refine kwp_iconst (pc := 20) dX6_best_20 ic_0 ?_
      refine kwp_istore_n (pc := 21) (ls2 := [(3, .inl 0), (0, .inr (.inr (0, 0))), (1, .inl x1), (2, .inl x2)]) dX6_best_21 rfl (by decide) rfl ?_
      refine kwp_ldc (pc := 22) cn_X6_162 dX6_best_22 ?_
      refine kwp_istore (pc := 24) (ls2 := [(4, .inl 1000000000), (3, .inl 0), (0, .inr (.inr (0, 0))), (1, .inl x1), (2, .inl x2)]) dX6_best_24 (by decide) rfl ?_
      refine kwp_iconst (pc := 26) dX6_best_26 ic_0 ?_
      refine kwp_istore (pc := 27) (ls2 := [(5, .inl 0), (4, .inl 1000000000), (3, .inl 0), (0, .inr (.inr (0, 0))), (1, .inl x1), (2, .inl x2)]) dX6_best_27 (by decide) rfl ?_
      refine kwp_sub [3, 4, 5, 2, 1, 0] rfl ?_
      exact h
    · have h := h.2 hc
      refine kwp_sub [] rfl ?_
      exact h

set_option maxRecDepth 20000 in
theorem bX6_best_18 {l : Launch} {g : va_G × (Nat → ClassId) × (Nat → Nat → Nat)}  (M : kM) (Q : Int32 → kM → Prop)
    (h : Q (-1) M) :
    kWP l (rg_m, g) mX6_best 18 [] [] M (kqi Q) := by
  refine kwp_iconst (pc := 18) dX6_best_18 ic_m1 ?_
  exact kwp_iret (pc := 19) rfl dX6_best_19 ⟨_, rfl, h⟩

set_option maxRecDepth 20000 in
theorem bX6_best_29 {l : Launch} {g : va_G × (Nat → ClassId) × (Nat → Nat → Nat)} (x1 : Int32) (x2 : Int32) (x3 : Int32) (x4 : Int32) (x5 : Int32) (M : kM) (Q : Int32 → kM → Prop)
    (h : ((((1 : Int32) <<< ((M.1 1 0 (21 : Int32).toNatClampNeg) &&& 31)) ≤ x5 → ((¬ x2 = 0 → kWP l (rg_m, g) mX6_best 153 [] [.inl x4] M (kqi Q)) ∧ (x2 = 0 → kWP l (rg_m, g) mX6_best 153 [] [.inl x3] M (kqi Q)))) ∧ (¬ ((1 : Int32) <<< ((M.1 1 0 (21 : Int32).toNatClampNeg) &&& 31)) ≤ x5 → kCT l (rg_m, g) mX6_tries [.inr (.inr (0, 0))] M (kqv (fun M1 => vp_in ((478 : Int32) + x1) 483 ∧ (∀ M2 : kM, M2 = ku M1 1 0 ((478 : Int32) + x1).toNatClampNeg x5 → kCT l (rg_m, g) mX6_ridesOn [.inr (.inr (0, 0)), .inl (-4), .inl 0] M2 (kqv (fun M3 => vp_in ((446 : Int32) + x1) 483 ∧ (∀ z4 : Int32, z4 = M3.1 1 0 ((446 : Int32) + x1).toNatClampNeg → ((z4 < x4 → kWP l (rg_m, g) mX6_best 104 [(0, .inr (.inr (0, 0))), (1, .inl x1), (2, .inl x2), (3, .inl x3), (4, .inl x4), (5, .inl x5), (6, .inl z4)] [] M3 (kqi Q)) ∧ (¬ z4 < x4 → ((¬ z4 = x4 → kWP l (rg_m, g) mX6_best 108 [(0, .inr (.inr (0, 0))), (1, .inl x1), (2, .inl x2), (3, .inl x3), (4, .inl x4), (5, .inl x5), (6, .inl z4)] [] M3 (kqi Q)) ∧ (z4 = x4 → kCT l (rg_m, g) mX6_ones [.inl x5] M3 (kqi (fun r6 M5 => kCT l (rg_m, g) mX6_ones [.inl x3] M5 (kqi (fun r8 M7 => ((r8 ≤ r6 → kWP l (rg_m, g) mX6_best 108 [(0, .inr (.inr (0, 0))), (1, .inl x1), (2, .inl x2), (3, .inl x3), (4, .inl x4), (5, .inl x5), (6, .inl z4)] [] M7 (kqi Q)) ∧ (¬ r8 ≤ r6 → kWP l (rg_m, g) mX6_best 104 [(0, .inr (.inr (0, 0))), (1, .inl x1), (2, .inl x2), (3, .inl x3), (4, .inl x4), (5, .inl x5), (6, .inl z4)] [] M7 (kqi Q)))))))))))))))))))) :
    kWP l (rg_m, g) mX6_best 29 [(0, .inr (.inr (0, 0))), (1, .inl x1), (2, .inl x2), (3, .inl x3), (4, .inl x4), (5, .inl x5)] [] M (kqi Q) := by
  refine kwp_iload (pc := 29) 5 rfl dX6_best_29 ?_
  refine kwp_iconst (pc := 31) dX6_best_31 ic_1 ?_
  refine kwp_aload_n (pc := 32) 0 rfl dX6_best_32 rfl ?_
  refine kwp_getc (pc := 33) fl_X6_7 rfl rfl dX6_best_33 ?_
  refine kwp_bipush (pc := 36) dX6_best_36 bp_21 ?_
  refine kwp_iald (pc := 38) rfl (show vp_in (21 : Int32) 483 by unfold vp_in; decide) dX6_best_38 ?_
  refine kwp_ishl (pc := 39) dX6_best_39 ?_
  refine kwp_icmp_ge (pc := 40) 143 dX6_best_40 (by decide) (fun hc => ?_) (fun hc => ?_)
  · have h := h.1 hc
    refine kwp_iload_n (pc := 143) 2 rfl dX6_best_143 rfl ?_
    refine kwp_if_ne (pc := 144) 151 dX6_best_144 (by decide) (fun hc => ?_) (fun hc => ?_)
    · have h := h.1 hc
      refine kwp_iload (pc := 151) 4 rfl dX6_best_151 ?_
      refine kwp_sub [] rfl ?_
      exact h
    · have h := h.2 hc
      refine kwp_iload_n (pc := 147) 3 rfl dX6_best_147 rfl ?_
      refine kwp_goto (pc := 148) 153 dX6_best_148 (by decide) ?_
      refine kwp_sub [] rfl ?_
      exact h
  · have h := h.2 hc
    refine kwp_aload_n (pc := 43) 0 rfl dX6_best_43 rfl ?_
    refine kwp_callV (pc := 44) (Y := mX6_tries) (vs := []) (rest := []) fm_X6_tries fi_X6_tries ml_X6_150 (by decide) rfl rfl rfl rfl (by simp [kcat]) dX6_best_44 ?_
    refine kCT.mono h (fun v M1 h => ?_)
    obtain ⟨rfl, h⟩ := h
    change kWP l (rg_m, g) mX6_best 47 [(0, .inr (.inr (0, 0))), (1, .inl x1), (2, .inl x2), (3, .inl x3), (4, .inl x4), (5, .inl x5)] [] M1 (kqi Q)
    refine kwp_aload_n (pc := 47) 0 rfl dX6_best_47 rfl ?_
    refine kwp_getc (pc := 48) fl_X6_7 rfl rfl dX6_best_48 ?_
    refine kwp_sipush (pc := 51) dX6_best_51 sp_478 ?_
    refine kwp_iload_n (pc := 54) 1 rfl dX6_best_54 rfl ?_
    refine kwp_iadd (pc := 55) dX6_best_55 ?_
    refine kwp_iload (pc := 56) 5 rfl dX6_best_56 ?_
    obtain ⟨hin, h⟩ := h
    refine kwp_iast (pc := 58) rfl hin dX6_best_58 ?_
    obtain ⟨M2, eM2⟩ : ∃ z : kM, z = ku M1 1 0 ((478 : Int32) + x1).toNatClampNeg x5 := ⟨_, rfl⟩
    rw [← eM2]
    have h := h M2 eM2
    refine kwp_aload_n (pc := 59) 0 rfl dX6_best_59 rfl ?_
    refine kwp_bipush (pc := 60) dX6_best_60 bp_m4 ?_
    refine kwp_iconst (pc := 62) dX6_best_62 ic_0 ?_
    refine kwp_callV (pc := 63) (Y := mX6_ridesOn) (vs := [.inl (-4), .inl 0]) (rest := []) fm_X6_ridesOn fi_X6_ridesOn ml_X6_153 (by decide) rfl rfl rfl rfl (by simp [kcat]) dX6_best_63 ?_
    refine kCT.mono h (fun v M3 h => ?_)
    obtain ⟨rfl, h⟩ := h
    change kWP l (rg_m, g) mX6_best 66 [(0, .inr (.inr (0, 0))), (1, .inl x1), (2, .inl x2), (3, .inl x3), (4, .inl x4), (5, .inl x5)] [] M3 (kqi Q)
    refine kwp_aload_n (pc := 66) 0 rfl dX6_best_66 rfl ?_
    refine kwp_getc (pc := 67) fl_X6_7 rfl rfl dX6_best_67 ?_
    refine kwp_sipush (pc := 70) dX6_best_70 sp_446 ?_
    refine kwp_iload_n (pc := 73) 1 rfl dX6_best_73 rfl ?_
    refine kwp_iadd (pc := 74) dX6_best_74 ?_
    obtain ⟨hin, h⟩ := h
    refine kwp_iald (pc := 75) rfl hin dX6_best_75 ?_
    obtain ⟨z4, ez4⟩ : ∃ z : Int32, z = M3.1 1 0 ((446 : Int32) + x1).toNatClampNeg := ⟨_, rfl⟩
    rw [← ez4]
    have h := h z4 ez4
    refine kwp_istore (pc := 76) (ls2 := [(6, .inl z4), (0, .inr (.inr (0, 0))), (1, .inl x1), (2, .inl x2), (3, .inl x3), (4, .inl x4), (5, .inl x5)]) dX6_best_76 (by decide) rfl ?_
    refine kwp_iload (pc := 78) 0 rfl dX6_best_78 ?_
    refine kwp_iload (pc := 80) 5 rfl dX6_best_80 ?_
    refine kwp_icmp_lt (pc := 82) 104 dX6_best_82 (by decide) (fun hc => ?_) (fun hc => ?_)
    · have h := h.1 hc
      refine kwp_sub [1, 2, 3, 4, 5, 6, 0] rfl ?_
      exact h
    · have h := h.2 hc
      refine kwp_iload (pc := 85) 0 rfl dX6_best_85 ?_
      refine kwp_iload (pc := 87) 5 rfl dX6_best_87 ?_
      refine kwp_icmp_ne (pc := 89) 108 dX6_best_89 (by decide) (fun hc => ?_) (fun hc => ?_)
      · have h := h.1 hc
        refine kwp_sub [1, 2, 3, 4, 5, 6, 0] rfl ?_
        exact h
      · have h := h.2 hc
        refine kwp_iload (pc := 92) 6 rfl dX6_best_92 ?_
        refine kwp_callS (pc := 94) (Y := mX6_ones) (vs := [.inl x5]) (rest := []) fm_X6_ones fs_X6_ones ml_X6_163 (by decide) rfl rfl (by simp [kcat]) dX6_best_94 ?_
        refine kCT.mono h (fun v M5 h => ?_)
        obtain ⟨r6, rfl, h⟩ := h
        change kWP l (rg_m, g) mX6_best 97 [(6, .inl z4), (0, .inr (.inr (0, 0))), (1, .inl x1), (2, .inl x2), (3, .inl x3), (4, .inl x4), (5, .inl x5)] [.inl r6] M5 (kqi Q)
        refine kwp_iload_n (pc := 97) 4 rfl dX6_best_97 rfl ?_
        refine kwp_callS (pc := 98) (Y := mX6_ones) (vs := [.inl x3]) (rest := [.inl r6]) fm_X6_ones fs_X6_ones ml_X6_163 (by decide) rfl rfl (by simp [kcat]) dX6_best_98 ?_
        refine kCT.mono h (fun v M7 h => ?_)
        obtain ⟨r8, rfl, h⟩ := h
        change kWP l (rg_m, g) mX6_best 101 [(6, .inl z4), (0, .inr (.inr (0, 0))), (1, .inl x1), (2, .inl x2), (3, .inl x3), (4, .inl x4), (5, .inl x5)] [.inl r8, .inl r6] M7 (kqi Q)
        refine kwp_icmp_ge (pc := 101) 108 dX6_best_101 (by decide) (fun hc => ?_) (fun hc => ?_)
        · have h := h.1 hc
          refine kwp_sub [1, 2, 3, 4, 5, 6, 0] rfl ?_
          exact h
        · have h := h.2 hc
          refine kwp_sub [1, 2, 3, 4, 5, 6, 0] rfl ?_
          exact h

set_option maxRecDepth 20000 in
theorem bX6_best_104 {l : Launch} {g : va_G × (Nat → ClassId) × (Nat → Nat → Nat)} (x1 : Int32) (x2 : Int32) (x3 : Int32) (x4 : Int32) (x5 : Int32) (x6 : Int32) (M : kM) (Q : Int32 → kM → Prop)
    (h : kWP l (rg_m, g) mX6_best 109 [(0, .inr (.inr (0, 0))), (1, .inl x1), (2, .inl x2), (3, .inl x3), (4, .inl x4), (5, .inl x5), (6, .inl x6)] [.inl 1] M (kqi Q)) :
    kWP l (rg_m, g) mX6_best 104 [(0, .inr (.inr (0, 0))), (1, .inl x1), (2, .inl x2), (3, .inl x3), (4, .inl x4), (5, .inl x5), (6, .inl x6)] [] M (kqi Q) := by
  refine kwp_iconst (pc := 104) dX6_best_104 ic_1 ?_
  refine kwp_goto (pc := 105) 109 dX6_best_105 (by decide) ?_
  exact h

set_option maxRecDepth 20000 in
theorem bX6_best_108 {l : Launch} {g : va_G × (Nat → ClassId) × (Nat → Nat → Nat)} (x1 : Int32) (x2 : Int32) (x3 : Int32) (x4 : Int32) (x5 : Int32) (x6 : Int32) (M : kM) (Q : Int32 → kM → Prop)
    (h : kWP l (rg_m, g) mX6_best 109 [(0, .inr (.inr (0, 0))), (1, .inl x1), (2, .inl x2), (3, .inl x3), (4, .inl x4), (5, .inl x5), (6, .inl x6)] [.inl 0] M (kqi Q)) :
    kWP l (rg_m, g) mX6_best 108 [(0, .inr (.inr (0, 0))), (1, .inl x1), (2, .inl x2), (3, .inl x3), (4, .inl x4), (5, .inl x5), (6, .inl x6)] [] M (kqi Q) := by
  refine kwp_iconst (pc := 108) dX6_best_108 ic_0 ?_
  exact h

set_option maxRecDepth 20000 in
theorem bX6_best_109 {l : Launch} {g : va_G × (Nat → ClassId) × (Nat → Nat → Nat)} (x1 : Int32) (x2 : Int32) (x3 : Int32) (x4 : Int32) (x5 : Int32) (x6 : Int32) (s0 : Int32) (M : kM) (Q : Int32 → kM → Prop)
    (h : ((s0 = 0 → kWP l (rg_m, g) mX6_best 122 [(0, .inr (.inr (0, 0))), (1, .inl x1), (2, .inl x2), (4, .inl x4), (5, .inl x5), (6, .inl x6), (7, .inl s0)] [.inl x3] M (kqi Q)) ∧ (¬ s0 = 0 → kWP l (rg_m, g) mX6_best 122 [(0, .inr (.inr (0, 0))), (1, .inl x1), (2, .inl x2), (4, .inl x4), (5, .inl x5), (6, .inl x6), (7, .inl s0)] [.inl x5] M (kqi Q)))) :
    kWP l (rg_m, g) mX6_best 109 [(0, .inr (.inr (0, 0))), (1, .inl x1), (2, .inl x2), (3, .inl x3), (4, .inl x4), (5, .inl x5), (6, .inl x6)] [.inl s0] M (kqi Q) := by
  refine kwp_istore (pc := 109) (ls2 := [(7, .inl s0), (0, .inr (.inr (0, 0))), (1, .inl x1), (2, .inl x2), (3, .inl x3), (4, .inl x4), (5, .inl x5), (6, .inl x6)]) dX6_best_109 (by decide) rfl ?_
  refine kwp_iload (pc := 111) 0 rfl dX6_best_111 ?_
  refine kwp_if_eq (pc := 113) 121 dX6_best_113 (by decide) (fun hc => ?_) (fun hc => ?_)
  · have h := h.1 hc
    refine kwp_iload_n (pc := 121) 4 rfl dX6_best_121 rfl ?_
    refine kwp_sub [1, 2, 3, 5, 6, 7, 0] rfl ?_
    exact h
  · have h := h.2 hc
    refine kwp_iload (pc := 116) 6 rfl dX6_best_116 ?_
    refine kwp_goto (pc := 118) 122 dX6_best_118 (by decide) ?_
    refine kwp_sub [1, 2, 3, 5, 6, 7, 0] rfl ?_
    exact h

set_option maxRecDepth 20000 in
theorem bX6_best_122 {l : Launch} {g : va_G × (Nat → ClassId) × (Nat → Nat → Nat)} (x1 : Int32) (x2 : Int32) (x4 : Int32) (x5 : Int32) (x6 : Int32) (x7 : Int32) (s0 : Int32) (M : kM) (Q : Int32 → kM → Prop)
    (h : ((x7 = 0 → kWP l (rg_m, g) mX6_best 135 [(0, .inr (.inr (0, 0))), (1, .inl x1), (2, .inl x2), (3, .inl s0), (5, .inl x5)] [.inl x4] M (kqi Q)) ∧ (¬ x7 = 0 → kWP l (rg_m, g) mX6_best 135 [(0, .inr (.inr (0, 0))), (1, .inl x1), (2, .inl x2), (3, .inl s0), (5, .inl x5)] [.inl x6] M (kqi Q)))) :
    kWP l (rg_m, g) mX6_best 122 [(0, .inr (.inr (0, 0))), (1, .inl x1), (2, .inl x2), (4, .inl x4), (5, .inl x5), (6, .inl x6), (7, .inl x7)] [.inl s0] M (kqi Q) := by
  refine kwp_istore_n (pc := 122) (ls2 := [(3, .inl s0), (0, .inr (.inr (0, 0))), (1, .inl x1), (2, .inl x2), (4, .inl x4), (5, .inl x5), (6, .inl x6), (7, .inl x7)]) dX6_best_122 rfl (by decide) rfl ?_
  refine kwp_iload (pc := 123) 7 rfl dX6_best_123 ?_
  refine kwp_if_eq (pc := 125) 133 dX6_best_125 (by decide) (fun hc => ?_) (fun hc => ?_)
  · have h := h.1 hc
    refine kwp_iload (pc := 133) 4 rfl dX6_best_133 ?_
    refine kwp_sub [1, 2, 3, 0, 5] rfl ?_
    exact h
  · have h := h.2 hc
    refine kwp_iload (pc := 128) 6 rfl dX6_best_128 ?_
    refine kwp_goto (pc := 130) 135 dX6_best_130 (by decide) ?_
    refine kwp_sub [1, 2, 3, 0, 5] rfl ?_
    exact h

set_option maxRecDepth 20000 in
theorem bX6_best_135 {l : Launch} {g : va_G × (Nat → ClassId) × (Nat → Nat → Nat)} (x1 : Int32) (x2 : Int32) (x3 : Int32) (x5 : Int32) (s0 : Int32) (M : kM) (Q : Int32 → kM → Prop)
    (h : ∀ z1 : Int32, z1 = x5 + 1 → kWP l (rg_m, g) mX6_best 29 [(0, .inr (.inr (0, 0))), (1, .inl x1), (2, .inl x2), (3, .inl x3), (4, .inl s0), (5, .inl z1)] [] M (kqi Q)) :
    kWP l (rg_m, g) mX6_best 135 [(0, .inr (.inr (0, 0))), (1, .inl x1), (2, .inl x2), (3, .inl x3), (5, .inl x5)] [.inl s0] M (kqi Q) := by
  refine kwp_istore (pc := 135) (ls2 := [(4, .inl s0), (0, .inr (.inr (0, 0))), (1, .inl x1), (2, .inl x2), (3, .inl x3), (5, .inl x5)]) dX6_best_135 (by decide) rfl ?_
  obtain ⟨z1, ez1⟩ : ∃ z : Int32, z = x5 + 1 := ⟨_, rfl⟩
  have h := h z1 ez1
  refine kwp_iinc (pc := 137) (v := z1) (ls2 := [(5, .inl z1), (4, .inl s0), (0, .inr (.inr (0, 0))), (1, .inl x1), (2, .inl x2), (3, .inl x3)]) 5 rfl dX6_best_137 (by rw [ez1, ic_1]) (by decide) rfl ?_
  refine kwp_goto (pc := 140) 29 dX6_best_140 (by decide) ?_
  refine kwp_sub [2, 3, 4, 5, 1, 0] rfl ?_
  exact h

set_option maxRecDepth 20000 in
theorem bX6_best_153 {l : Launch} {g : va_G × (Nat → ClassId) × (Nat → Nat → Nat)} (s0 : Int32) (M : kM) (Q : Int32 → kM → Prop)
    (h : Q s0 M) :
    kWP l (rg_m, g) mX6_best 153 [] [.inl s0] M (kqi Q) := by
  exact kwp_iret (pc := 153) rfl dX6_best_153 ⟨_, rfl, h⟩

set_option maxRecDepth 20000 in
theorem bX6_earlier_0 {l : Launch} {g : va_G × (Nat → ClassId) × (Nat → Nat → Nat)} (x1 : Int32) (x2 : Int32) (M : kM) (Q : Int32 → kM → Prop)
    (h : kCT l (rg_m, g) mX6_areTwo [.inr (.inr (0, 0)), .inl x1, .inl x2] M (kqi (fun r2 M1 => ((¬ r2 = 0 → kWP l (rg_m, g) mX6_earlier 13 [(0, .inr (.inr (0, 0))), (1, .inl x1), (2, .inl x2), (3, .inl 0)] [] M1 (kqi Q)) ∧ (r2 = 0 → Q (-1) M1))))) :
    kWP l (rg_m, g) mX6_earlier 0 [(0, .inr (.inr (0, 0))), (1, .inl x1), (2, .inl x2)] [] M (kqi Q) := by
  refine kwp_aload_n (pc := 0) 0 rfl dX6_earlier_0 rfl ?_
  refine kwp_iload_n (pc := 1) 1 rfl dX6_earlier_1 rfl ?_
  refine kwp_iload_n (pc := 2) 2 rfl dX6_earlier_2 rfl ?_
  refine kwp_callV (pc := 3) (Y := mX6_areTwo) (vs := [.inl x1, .inl x2]) (rest := []) fm_X6_areTwo fi_X6_areTwo ml_X6_144 (by decide) rfl rfl rfl rfl (by simp [kcat]) dX6_earlier_3 ?_
  refine kCT.mono h (fun v M1 h => ?_)
  obtain ⟨r2, rfl, h⟩ := h
  change kWP l (rg_m, g) mX6_earlier 6 [(0, .inr (.inr (0, 0))), (1, .inl x1), (2, .inl x2)] [.inl r2] M1 (kqi Q)
  refine kwp_if_ne (pc := 6) 11 dX6_earlier_6 (by decide) (fun hc => ?_) (fun hc => ?_)
  · have h := h.1 hc
    refine kwp_iconst (pc := 11) dX6_earlier_11 ic_0 ?_
    refine kwp_istore_n (pc := 12) (ls2 := [(3, .inl 0), (0, .inr (.inr (0, 0))), (1, .inl x1), (2, .inl x2)]) dX6_earlier_12 rfl (by decide) rfl ?_
    refine kwp_sub [1, 2, 3, 0] rfl ?_
    exact h
  · have h := h.2 hc
    refine kwp_iconst (pc := 9) dX6_earlier_9 ic_m1 ?_
    exact kwp_iret (pc := 10) rfl dX6_earlier_10 ⟨_, rfl, h⟩

set_option maxRecDepth 20000 in
theorem bX6_earlier_13 {l : Launch} {g : va_G × (Nat → ClassId) × (Nat → Nat → Nat)} (x1 : Int32) (x2 : Int32) (x3 : Int32) (M : kM) (Q : Int32 → kM → Prop)
    (h : ((300 < x3 → kWP l (rg_m, g) mX6_earlier 89 [] [] M (kqi Q)) ∧ (¬ 300 < x3 → vp_in ((12 : Int32) + x1) 483 ∧ ((((M.1 1 0 ((12 : Int32) + x1).toNatClampNeg) < x3 → kWP l (rg_m, g) mX6_earlier 89 [] [] M (kqi Q)) ∧ (¬ (M.1 1 0 ((12 : Int32) + x1).toNatClampNeg) < x3 → kCT l (rg_m, g) mX6_tries [.inr (.inr (0, 0))] M (kqv (fun M1 => vp_in ((446 : Int32) + x1) 483 ∧ (vp_in ((446 : Int32) + x1) 483 ∧ (∀ M2 : kM, M2 = ku M1 1 0 ((446 : Int32) + x1).toNatClampNeg ((M1.1 1 0 ((446 : Int32) + x1).toNatClampNeg) - x3) → kCT l (rg_m, g) mX6_ridesOn [.inr (.inr (0, 0)), .inl (-4), .inl 0] M2 (kqv (fun M3 => vp_in ((446 : Int32) + x1) 483 ∧ (vp_in ((446 : Int32) + x2) 483 ∧ ((((M3.1 1 0 ((446 : Int32) + x2).toNatClampNeg) ≤ (M3.1 1 0 ((446 : Int32) + x1).toNatClampNeg) → ∀ z4 : Int32, z4 = x3 + 1 → kWP l (rg_m, g) mX6_earlier 13 [(0, .inr (.inr (0, 0))), (1, .inl x1), (2, .inl x2), (3, .inl z4)] [] M3 (kqi Q)) ∧ (¬ (M3.1 1 0 ((446 : Int32) + x2).toNatClampNeg) ≤ (M3.1 1 0 ((446 : Int32) + x1).toNatClampNeg) → Q x3 M3)))))))))))))))) :
    kWP l (rg_m, g) mX6_earlier 13 [(0, .inr (.inr (0, 0))), (1, .inl x1), (2, .inl x2), (3, .inl x3)] [] M (kqi Q) := by
  refine kwp_iload_n (pc := 13) 3 rfl dX6_earlier_13 rfl ?_
  refine kwp_sipush (pc := 14) dX6_earlier_14 sp_300 ?_
  refine kwp_icmp_gt (pc := 17) 89 dX6_earlier_17 (by decide) (fun hc => ?_) (fun hc => ?_)
  · have h := h.1 hc
    refine kwp_sub [] rfl ?_
    exact h
  · have h := h.2 hc
    refine kwp_iload_n (pc := 20) 3 rfl dX6_earlier_20 rfl ?_
    refine kwp_aload_n (pc := 21) 0 rfl dX6_earlier_21 rfl ?_
    refine kwp_getc (pc := 22) fl_X6_7 rfl rfl dX6_earlier_22 ?_
    refine kwp_bipush (pc := 25) dX6_earlier_25 bp_12 ?_
    refine kwp_iload_n (pc := 27) 1 rfl dX6_earlier_27 rfl ?_
    refine kwp_iadd (pc := 28) dX6_earlier_28 ?_
    obtain ⟨hin, h⟩ := h
    refine kwp_iald (pc := 29) rfl hin dX6_earlier_29 ?_
    refine kwp_icmp_gt (pc := 30) 89 dX6_earlier_30 (by decide) (fun hc => ?_) (fun hc => ?_)
    · have h := h.1 hc
      refine kwp_sub [] rfl ?_
      exact h
    · have h := h.2 hc
      refine kwp_aload_n (pc := 33) 0 rfl dX6_earlier_33 rfl ?_
      refine kwp_callV (pc := 34) (Y := mX6_tries) (vs := []) (rest := []) fm_X6_tries fi_X6_tries ml_X6_150 (by decide) rfl rfl rfl rfl (by simp [kcat]) dX6_earlier_34 ?_
      refine kCT.mono h (fun v M1 h => ?_)
      obtain ⟨rfl, h⟩ := h
      change kWP l (rg_m, g) mX6_earlier 37 [(0, .inr (.inr (0, 0))), (1, .inl x1), (2, .inl x2), (3, .inl x3)] [] M1 (kqi Q)
      refine kwp_aload_n (pc := 37) 0 rfl dX6_earlier_37 rfl ?_
      refine kwp_getc (pc := 38) fl_X6_7 rfl rfl dX6_earlier_38 ?_
      refine kwp_sipush (pc := 41) dX6_earlier_41 sp_446 ?_
      refine kwp_iload_n (pc := 44) 1 rfl dX6_earlier_44 rfl ?_
      refine kwp_iadd (pc := 45) dX6_earlier_45 ?_
      refine kwp_dup2 (pc := 46) dX6_earlier_46 rfl rfl ?_
      obtain ⟨hin, h⟩ := h
      refine kwp_iald (pc := 47) rfl hin dX6_earlier_47 ?_
      refine kwp_iload_n (pc := 48) 3 rfl dX6_earlier_48 rfl ?_
      refine kwp_isub (pc := 49) dX6_earlier_49 ?_
      obtain ⟨hin, h⟩ := h
      refine kwp_iast (pc := 50) rfl hin dX6_earlier_50 ?_
      obtain ⟨M2, eM2⟩ : ∃ z : kM, z = ku M1 1 0 ((446 : Int32) + x1).toNatClampNeg ((M1.1 1 0 ((446 : Int32) + x1).toNatClampNeg) - x3) := ⟨_, rfl⟩
      rw [← eM2]
      have h := h M2 eM2
      refine kwp_aload_n (pc := 51) 0 rfl dX6_earlier_51 rfl ?_
      refine kwp_bipush (pc := 52) dX6_earlier_52 bp_m4 ?_
      refine kwp_iconst (pc := 54) dX6_earlier_54 ic_0 ?_
      refine kwp_callV (pc := 55) (Y := mX6_ridesOn) (vs := [.inl (-4), .inl 0]) (rest := []) fm_X6_ridesOn fi_X6_ridesOn ml_X6_153 (by decide) rfl rfl rfl rfl (by simp [kcat]) dX6_earlier_55 ?_
      refine kCT.mono h (fun v M3 h => ?_)
      obtain ⟨rfl, h⟩ := h
      change kWP l (rg_m, g) mX6_earlier 58 [(0, .inr (.inr (0, 0))), (1, .inl x1), (2, .inl x2), (3, .inl x3)] [] M3 (kqi Q)
      refine kwp_aload_n (pc := 58) 0 rfl dX6_earlier_58 rfl ?_
      refine kwp_getc (pc := 59) fl_X6_7 rfl rfl dX6_earlier_59 ?_
      refine kwp_sipush (pc := 62) dX6_earlier_62 sp_446 ?_
      refine kwp_iload_n (pc := 65) 1 rfl dX6_earlier_65 rfl ?_
      refine kwp_iadd (pc := 66) dX6_earlier_66 ?_
      obtain ⟨hin, h⟩ := h
      refine kwp_iald (pc := 67) rfl hin dX6_earlier_67 ?_
      refine kwp_aload_n (pc := 68) 0 rfl dX6_earlier_68 rfl ?_
      refine kwp_getc (pc := 69) fl_X6_7 rfl rfl dX6_earlier_69 ?_
      refine kwp_sipush (pc := 72) dX6_earlier_72 sp_446 ?_
      refine kwp_iload_n (pc := 75) 2 rfl dX6_earlier_75 rfl ?_
      refine kwp_iadd (pc := 76) dX6_earlier_76 ?_
      obtain ⟨hin, h⟩ := h
      refine kwp_iald (pc := 77) rfl hin dX6_earlier_77 ?_
      refine kwp_icmp_ge (pc := 78) 83 dX6_earlier_78 (by decide) (fun hc => ?_) (fun hc => ?_)
      · have h := h.1 hc
        obtain ⟨z4, ez4⟩ : ∃ z : Int32, z = x3 + 1 := ⟨_, rfl⟩
        have h := h z4 ez4
        refine kwp_iinc (pc := 83) (v := z4) (ls2 := [(3, .inl z4), (0, .inr (.inr (0, 0))), (1, .inl x1), (2, .inl x2)]) 3 rfl dX6_earlier_83 (by rw [ez4, ic_1]) (by decide) rfl ?_
        refine kwp_goto (pc := 86) 13 dX6_earlier_86 (by decide) ?_
        refine kwp_sub [1, 2, 3, 0] rfl ?_
        exact h
      · have h := h.2 hc
        refine kwp_iload_n (pc := 81) 3 rfl dX6_earlier_81 rfl ?_
        exact kwp_iret (pc := 82) rfl dX6_earlier_82 ⟨_, rfl, h⟩

set_option maxRecDepth 20000 in
theorem bX6_earlier_89 {l : Launch} {g : va_G × (Nat → ClassId) × (Nat → Nat → Nat)}  (M : kM) (Q : Int32 → kM → Prop)
    (h : Q (-4) M) :
    kWP l (rg_m, g) mX6_earlier 89 [] [] M (kqi Q) := by
  refine kwp_bipush (pc := 89) dX6_earlier_89 bp_m4 ?_
  exact kwp_iret (pc := 91) rfl dX6_earlier_91 ⟨_, rfl, h⟩

set_option maxRecDepth 20000 in
theorem bX6_purse_0 {l : Launch} {g : va_G × (Nat → ClassId) × (Nat → Nat → Nat)} (x1 : Int32) (x2 : Int32) (M : kM) (Q : Int32 → kM → Prop)
    (h : kCT l (rg_m, g) mX6_isRider [.inr (.inr (0, 0)), .inl x1] M (kqi (fun r2 M1 => ((r2 = 0 → kWP l (rg_m, g) mX6_purse 20 [] [] M1 (kqi Q)) ∧ (¬ r2 = 0 → kCT l (rg_m, g) mX6_in [.inr (.inl (x2.toInt64)), .inr (.inl 0), .inr (.inl 9999)] M1 (kqi (fun r4 M3 => ((¬ r4 = 0 → kWP l (rg_m, g) mX6_purse 24 [(0, .inr (.inr (0, 0))), (1, .inl x1), (2, .inl x2), (3, .inl 0)] [] M3 (kqi Q)) ∧ (r4 = 0 → kWP l (rg_m, g) mX6_purse 20 [] [] M3 (kqi Q)))))))))) :
    kWP l (rg_m, g) mX6_purse 0 [(0, .inr (.inr (0, 0))), (1, .inl x1), (2, .inl x2)] [] M (kqi Q) := by
  refine kwp_aload_n (pc := 0) 0 rfl dX6_purse_0 rfl ?_
  refine kwp_iload_n (pc := 1) 1 rfl dX6_purse_1 rfl ?_
  refine kwp_callV (pc := 2) (Y := mX6_isRider) (vs := [.inl x1]) (rest := []) fm_X6_isRider fi_X6_isRider ml_X6_42 (by decide) rfl rfl rfl rfl (by simp [kcat]) dX6_purse_2 ?_
  refine kCT.mono h (fun v M1 h => ?_)
  obtain ⟨r2, rfl, h⟩ := h
  change kWP l (rg_m, g) mX6_purse 5 [(0, .inr (.inr (0, 0))), (1, .inl x1), (2, .inl x2)] [.inl r2] M1 (kqi Q)
  refine kwp_if_eq (pc := 5) 20 dX6_purse_5 (by decide) (fun hc => ?_) (fun hc => ?_)
  · have h := h.1 hc
    refine kwp_sub [] rfl ?_
    exact h
  · have h := h.2 hc
    refine kwp_iload_n (pc := 8) 2 rfl dX6_purse_8 rfl ?_
    refine kwp_i2l (pc := 9) dX6_purse_9 ?_
    refine kwp_lconst (pc := 10) (v := 0) dX6_purse_10 (by decide) ?_
    refine kwp_ldc2 (pc := 11) cn_X6_166 dX6_purse_11 ?_
    refine kwp_callS (pc := 14) (Y := mX6_in) (vs := [.inr (.inl (x2.toInt64)), .inr (.inl 0), .inr (.inl 9999)]) (rest := []) fm_X6_in fs_X6_in ml_X6_38 (by decide) rfl rfl (by simp [kcat]) dX6_purse_14 ?_
    refine kCT.mono h (fun v M3 h => ?_)
    obtain ⟨r4, rfl, h⟩ := h
    change kWP l (rg_m, g) mX6_purse 17 [(0, .inr (.inr (0, 0))), (1, .inl x1), (2, .inl x2)] [.inl r4] M3 (kqi Q)
    refine kwp_if_ne (pc := 17) 22 dX6_purse_17 (by decide) (fun hc => ?_) (fun hc => ?_)
    · have h := h.1 hc
      refine kwp_iconst (pc := 22) dX6_purse_22 ic_0 ?_
      refine kwp_istore_n (pc := 23) (ls2 := [(3, .inl 0), (0, .inr (.inr (0, 0))), (1, .inl x1), (2, .inl x2)]) dX6_purse_23 rfl (by decide) rfl ?_
      refine kwp_sub [1, 2, 3, 0] rfl ?_
      exact h
    · have h := h.2 hc
      refine kwp_sub [] rfl ?_
      exact h

set_option maxRecDepth 20000 in
theorem bX6_purse_20 {l : Launch} {g : va_G × (Nat → ClassId) × (Nat → Nat → Nat)}  (M : kM) (Q : Int32 → kM → Prop)
    (h : Q (-1) M) :
    kWP l (rg_m, g) mX6_purse 20 [] [] M (kqi Q) := by
  refine kwp_iconst (pc := 20) dX6_purse_20 ic_m1 ?_
  exact kwp_iret (pc := 21) rfl dX6_purse_21 ⟨_, rfl, h⟩

set_option maxRecDepth 20000 in
theorem bX6_purse_24 {l : Launch} {g : va_G × (Nat → ClassId) × (Nat → Nat → Nat)} (x1 : Int32) (x2 : Int32) (x3 : Int32) (M : kM) (Q : Int32 → kM → Prop)
    (h : ((100 ≤ x3 → Q (-4) M) ∧ (¬ 100 ≤ x3 → kCT l (rg_m, g) mX6_tries [.inr (.inr (0, 0))] M (kqv (fun M1 => vp_in ((450 : Int32) + x1) 483 ∧ (∀ M2 : kM, M2 = ku M1 1 0 ((450 : Int32) + x1).toNatClampNeg x3 → kCT l (rg_m, g) mX6_ridesOn [.inr (.inr (0, 0)), .inl (-4), .inl 0] M2 (kqv (fun M3 => vp_in ((446 : Int32) + x1) 483 ∧ (((x2 < (M3.1 1 0 ((446 : Int32) + x1).toNatClampNeg) → ∀ z4 : Int32, z4 = x3 + 1 → kWP l (rg_m, g) mX6_purse 24 [(0, .inr (.inr (0, 0))), (1, .inl x1), (2, .inl x2), (3, .inl z4)] [] M3 (kqi Q)) ∧ (¬ x2 < (M3.1 1 0 ((446 : Int32) + x1).toNatClampNeg) → Q x3 M3))))))))))) :
    kWP l (rg_m, g) mX6_purse 24 [(0, .inr (.inr (0, 0))), (1, .inl x1), (2, .inl x2), (3, .inl x3)] [] M (kqi Q) := by
  refine kwp_iload_n (pc := 24) 3 rfl dX6_purse_24 rfl ?_
  refine kwp_bipush (pc := 25) dX6_purse_25 bp_100 ?_
  refine kwp_icmp_ge (pc := 27) 74 dX6_purse_27 (by decide) (fun hc => ?_) (fun hc => ?_)
  · have h := h.1 hc
    refine kwp_bipush (pc := 74) dX6_purse_74 bp_m4 ?_
    exact kwp_iret (pc := 76) rfl dX6_purse_76 ⟨_, rfl, h⟩
  · have h := h.2 hc
    refine kwp_aload_n (pc := 30) 0 rfl dX6_purse_30 rfl ?_
    refine kwp_callV (pc := 31) (Y := mX6_tries) (vs := []) (rest := []) fm_X6_tries fi_X6_tries ml_X6_150 (by decide) rfl rfl rfl rfl (by simp [kcat]) dX6_purse_31 ?_
    refine kCT.mono h (fun v M1 h => ?_)
    obtain ⟨rfl, h⟩ := h
    change kWP l (rg_m, g) mX6_purse 34 [(0, .inr (.inr (0, 0))), (1, .inl x1), (2, .inl x2), (3, .inl x3)] [] M1 (kqi Q)
    refine kwp_aload_n (pc := 34) 0 rfl dX6_purse_34 rfl ?_
    refine kwp_getc (pc := 35) fl_X6_7 rfl rfl dX6_purse_35 ?_
    refine kwp_sipush (pc := 38) dX6_purse_38 sp_450 ?_
    refine kwp_iload_n (pc := 41) 1 rfl dX6_purse_41 rfl ?_
    refine kwp_iadd (pc := 42) dX6_purse_42 ?_
    refine kwp_iload_n (pc := 43) 3 rfl dX6_purse_43 rfl ?_
    obtain ⟨hin, h⟩ := h
    refine kwp_iast (pc := 44) rfl hin dX6_purse_44 ?_
    obtain ⟨M2, eM2⟩ : ∃ z : kM, z = ku M1 1 0 ((450 : Int32) + x1).toNatClampNeg x3 := ⟨_, rfl⟩
    rw [← eM2]
    have h := h M2 eM2
    refine kwp_aload_n (pc := 45) 0 rfl dX6_purse_45 rfl ?_
    refine kwp_bipush (pc := 46) dX6_purse_46 bp_m4 ?_
    refine kwp_iconst (pc := 48) dX6_purse_48 ic_0 ?_
    refine kwp_callV (pc := 49) (Y := mX6_ridesOn) (vs := [.inl (-4), .inl 0]) (rest := []) fm_X6_ridesOn fi_X6_ridesOn ml_X6_153 (by decide) rfl rfl rfl rfl (by simp [kcat]) dX6_purse_49 ?_
    refine kCT.mono h (fun v M3 h => ?_)
    obtain ⟨rfl, h⟩ := h
    change kWP l (rg_m, g) mX6_purse 52 [(0, .inr (.inr (0, 0))), (1, .inl x1), (2, .inl x2), (3, .inl x3)] [] M3 (kqi Q)
    refine kwp_aload_n (pc := 52) 0 rfl dX6_purse_52 rfl ?_
    refine kwp_getc (pc := 53) fl_X6_7 rfl rfl dX6_purse_53 ?_
    refine kwp_sipush (pc := 56) dX6_purse_56 sp_446 ?_
    refine kwp_iload_n (pc := 59) 1 rfl dX6_purse_59 rfl ?_
    refine kwp_iadd (pc := 60) dX6_purse_60 ?_
    obtain ⟨hin, h⟩ := h
    refine kwp_iald (pc := 61) rfl hin dX6_purse_61 ?_
    refine kwp_iload_n (pc := 62) 2 rfl dX6_purse_62 rfl ?_
    refine kwp_icmp_gt (pc := 63) 68 dX6_purse_63 (by decide) (fun hc => ?_) (fun hc => ?_)
    · have h := h.1 hc
      obtain ⟨z4, ez4⟩ : ∃ z : Int32, z = x3 + 1 := ⟨_, rfl⟩
      have h := h z4 ez4
      refine kwp_iinc (pc := 68) (v := z4) (ls2 := [(3, .inl z4), (0, .inr (.inr (0, 0))), (1, .inl x1), (2, .inl x2)]) 3 rfl dX6_purse_68 (by rw [ez4, ic_1]) (by decide) rfl ?_
      refine kwp_goto (pc := 71) 24 dX6_purse_71 (by decide) ?_
      refine kwp_sub [1, 2, 3, 0] rfl ?_
      exact h
    · have h := h.2 hc
      refine kwp_iload_n (pc := 66) 3 rfl dX6_purse_66 rfl ?_
      exact kwp_iret (pc := 67) rfl dX6_purse_67 ⟨_, rfl, h⟩

set_option maxRecDepth 20000 in
theorem bX6_loosened_0 {l : Launch} {g : va_G × (Nat → ClassId) × (Nat → Nat → Nat)} (x1 : Int32) (x2 : Int32) (M : kM) (Q : Int32 → kM → Prop)
    (h : kCT l (rg_m, g) mX6_isRider [.inr (.inr (0, 0)), .inl x1] M (kqi (fun r2 M1 => ((r2 = 0 → kWP l (rg_m, g) mX6_loosened 18 [] [] M1 (kqi Q)) ∧ (¬ r2 = 0 → kCT l (rg_m, g) mX6_in [.inr (.inl (x2.toInt64)), .inr (.inl 0), .inr (.inl 1)] M1 (kqi (fun r4 M3 => ((¬ r4 = 0 → vp_in ((8 : Int32) + x1) 483 ∧ (∀ z5 : Int32, z5 = M3.1 1 0 ((8 : Int32) + x1).toNatClampNeg → kWP l (rg_m, g) mX6_loosened 38 [(0, .inr (.inr (0, 0))), (1, .inl x1), (2, .inl x2), (3, .inl (-4)), (4, .inl (-4)), (5, .inl z5)] [] M3 (kqi Q))) ∧ (r4 = 0 → kWP l (rg_m, g) mX6_loosened 18 [] [] M3 (kqi Q)))))))))) :
    kWP l (rg_m, g) mX6_loosened 0 [(0, .inr (.inr (0, 0))), (1, .inl x1), (2, .inl x2)] [] M (kqi Q) := by
  refine kwp_aload_n (pc := 0) 0 rfl dX6_loosened_0 rfl ?_
  refine kwp_iload_n (pc := 1) 1 rfl dX6_loosened_1 rfl ?_
  refine kwp_callV (pc := 2) (Y := mX6_isRider) (vs := [.inl x1]) (rest := []) fm_X6_isRider fi_X6_isRider ml_X6_42 (by decide) rfl rfl rfl rfl (by simp [kcat]) dX6_loosened_2 ?_
  refine kCT.mono h (fun v M1 h => ?_)
  obtain ⟨r2, rfl, h⟩ := h
  change kWP l (rg_m, g) mX6_loosened 5 [(0, .inr (.inr (0, 0))), (1, .inl x1), (2, .inl x2)] [.inl r2] M1 (kqi Q)
  refine kwp_if_eq (pc := 5) 18 dX6_loosened_5 (by decide) (fun hc => ?_) (fun hc => ?_)
  · have h := h.1 hc
    refine kwp_sub [] rfl ?_
    exact h
  · have h := h.2 hc
    refine kwp_iload_n (pc := 8) 2 rfl dX6_loosened_8 rfl ?_
    refine kwp_i2l (pc := 9) dX6_loosened_9 ?_
    refine kwp_lconst (pc := 10) (v := 0) dX6_loosened_10 (by decide) ?_
    refine kwp_lconst (pc := 11) (v := 1) dX6_loosened_11 (by decide) ?_
    refine kwp_callS (pc := 12) (Y := mX6_in) (vs := [.inr (.inl (x2.toInt64)), .inr (.inl 0), .inr (.inl 1)]) (rest := []) fm_X6_in fs_X6_in ml_X6_38 (by decide) rfl rfl (by simp [kcat]) dX6_loosened_12 ?_
    refine kCT.mono h (fun v M3 h => ?_)
    obtain ⟨r4, rfl, h⟩ := h
    change kWP l (rg_m, g) mX6_loosened 15 [(0, .inr (.inr (0, 0))), (1, .inl x1), (2, .inl x2)] [.inl r4] M3 (kqi Q)
    refine kwp_if_ne (pc := 15) 20 dX6_loosened_15 (by decide) (fun hc => ?_) (fun hc => ?_)
    · have h := h.1 hc
      refine kwp_bipush (pc := 20) dX6_loosened_20 bp_m4 ?_
      refine kwp_istore_n (pc := 22) (ls2 := [(3, .inl (-4)), (0, .inr (.inr (0, 0))), (1, .inl x1), (2, .inl x2)]) dX6_loosened_22 rfl (by decide) rfl ?_
      refine kwp_bipush (pc := 23) dX6_loosened_23 bp_m4 ?_
      refine kwp_istore (pc := 25) (ls2 := [(4, .inl (-4)), (3, .inl (-4)), (0, .inr (.inr (0, 0))), (1, .inl x1), (2, .inl x2)]) dX6_loosened_25 (by decide) rfl ?_
      refine kwp_aload_n (pc := 27) 2 rfl dX6_loosened_27 rfl ?_
      refine kwp_getc (pc := 28) fl_X6_7 rfl rfl dX6_loosened_28 ?_
      refine kwp_bipush (pc := 31) dX6_loosened_31 bp_8 ?_
      refine kwp_iload_n (pc := 33) 3 rfl dX6_loosened_33 rfl ?_
      refine kwp_iadd (pc := 34) dX6_loosened_34 ?_
      obtain ⟨hin, h⟩ := h
      refine kwp_iald (pc := 35) rfl hin dX6_loosened_35 ?_
      obtain ⟨z5, ez5⟩ : ∃ z : Int32, z = M3.1 1 0 ((8 : Int32) + x1).toNatClampNeg := ⟨_, rfl⟩
      rw [← ez5]
      have h := h z5 ez5
      refine kwp_istore (pc := 36) (ls2 := [(5, .inl z5), (4, .inl (-4)), (3, .inl (-4)), (0, .inr (.inr (0, 0))), (1, .inl x1), (2, .inl x2)]) dX6_loosened_36 (by decide) rfl ?_
      refine kwp_sub [3, 4, 5, 2, 1, 0] rfl ?_
      exact h
    · have h := h.2 hc
      refine kwp_sub [] rfl ?_
      exact h

set_option maxRecDepth 20000 in
theorem bX6_loosened_18 {l : Launch} {g : va_G × (Nat → ClassId) × (Nat → Nat → Nat)}  (M : kM) (Q : Int32 → kM → Prop)
    (h : Q (-1) M) :
    kWP l (rg_m, g) mX6_loosened 18 [] [] M (kqi Q) := by
  refine kwp_iconst (pc := 18) dX6_loosened_18 ic_m1 ?_
  exact kwp_iret (pc := 19) rfl dX6_loosened_19 ⟨_, rfl, h⟩

set_option maxRecDepth 20000 in
theorem bX6_loosened_38 {l : Launch} {g : va_G × (Nat → ClassId) × (Nat → Nat → Nat)} (x1 : Int32) (x2 : Int32) (x3 : Int32) (x4 : Int32) (x5 : Int32) (M : kM) (Q : Int32 → kM → Prop)
    (h : (((M.1 1 0 (21 : Int32).toNatClampNeg) ≤ x5 → ((¬ x2 = 0 → kWP l (rg_m, g) mX6_loosened 127 [] [.inl x4] M (kqi Q)) ∧ (x2 = 0 → kWP l (rg_m, g) mX6_loosened 127 [] [.inl x3] M (kqi Q)))) ∧ (¬ (M.1 1 0 (21 : Int32).toNatClampNeg) ≤ x5 → kCT l (rg_m, g) mX6_tries [.inr (.inr (0, 0))] M (kqv (fun M1 => kCT l (rg_m, g) mX6_ridesOn [.inr (.inr (0, 0)), .inl x1, .inl ((1 : Int32) <<< (x5 &&& 31))] M1 (kqv (fun M2 => vp_in ((446 : Int32) + x1) 483 ∧ (∀ z3 : Int32, z3 = M2.1 1 0 ((446 : Int32) + x1).toNatClampNeg → ((x3 = (-4) → kWP l (rg_m, g) mX6_loosened 88 [(0, .inr (.inr (0, 0))), (1, .inl x1), (2, .inl x2), (4, .inl x4), (5, .inl x5), (6, .inl z3)] [] M2 (kqi Q)) ∧ (¬ x3 = (-4) → ((z3 ≤ x4 → kWP l (rg_m, g) mX6_loosened 94 [(0, .inr (.inr (0, 0))), (1, .inl x1), (2, .inl x2), (4, .inl x4), (5, .inl x5), (6, .inl z3)] [.inl x3] M2 (kqi Q)) ∧ (¬ z3 ≤ x4 → kWP l (rg_m, g) mX6_loosened 88 [(0, .inr (.inr (0, 0))), (1, .inl x1), (2, .inl x2), (4, .inl x4), (5, .inl x5), (6, .inl z3)] [] M2 (kqi Q))))))))))))) :
    kWP l (rg_m, g) mX6_loosened 38 [(0, .inr (.inr (0, 0))), (1, .inl x1), (2, .inl x2), (3, .inl x3), (4, .inl x4), (5, .inl x5)] [] M (kqi Q) := by
  refine kwp_iload (pc := 38) 5 rfl dX6_loosened_38 ?_
  refine kwp_aload_n (pc := 40) 0 rfl dX6_loosened_40 rfl ?_
  refine kwp_getc (pc := 41) fl_X6_7 rfl rfl dX6_loosened_41 ?_
  refine kwp_bipush (pc := 44) dX6_loosened_44 bp_21 ?_
  refine kwp_iald (pc := 46) rfl (show vp_in (21 : Int32) 483 by unfold vp_in; decide) dX6_loosened_46 ?_
  refine kwp_icmp_ge (pc := 47) 117 dX6_loosened_47 (by decide) (fun hc => ?_) (fun hc => ?_)
  · have h := h.1 hc
    refine kwp_iload_n (pc := 117) 2 rfl dX6_loosened_117 rfl ?_
    refine kwp_if_ne (pc := 118) 125 dX6_loosened_118 (by decide) (fun hc => ?_) (fun hc => ?_)
    · have h := h.1 hc
      refine kwp_iload (pc := 125) 4 rfl dX6_loosened_125 ?_
      refine kwp_sub [] rfl ?_
      exact h
    · have h := h.2 hc
      refine kwp_iload_n (pc := 121) 3 rfl dX6_loosened_121 rfl ?_
      refine kwp_goto (pc := 122) 127 dX6_loosened_122 (by decide) ?_
      refine kwp_sub [] rfl ?_
      exact h
  · have h := h.2 hc
    refine kwp_aload_n (pc := 50) 0 rfl dX6_loosened_50 rfl ?_
    refine kwp_callV (pc := 51) (Y := mX6_tries) (vs := []) (rest := []) fm_X6_tries fi_X6_tries ml_X6_150 (by decide) rfl rfl rfl rfl (by simp [kcat]) dX6_loosened_51 ?_
    refine kCT.mono h (fun v M1 h => ?_)
    obtain ⟨rfl, h⟩ := h
    change kWP l (rg_m, g) mX6_loosened 54 [(0, .inr (.inr (0, 0))), (1, .inl x1), (2, .inl x2), (3, .inl x3), (4, .inl x4), (5, .inl x5)] [] M1 (kqi Q)
    refine kwp_aload_n (pc := 54) 0 rfl dX6_loosened_54 rfl ?_
    refine kwp_iload_n (pc := 55) 1 rfl dX6_loosened_55 rfl ?_
    refine kwp_iconst (pc := 56) dX6_loosened_56 ic_1 ?_
    refine kwp_iload (pc := 57) 5 rfl dX6_loosened_57 ?_
    refine kwp_ishl (pc := 59) dX6_loosened_59 ?_
    refine kwp_callV (pc := 60) (Y := mX6_ridesOn) (vs := [.inl x1, .inl ((1 : Int32) <<< (x5 &&& 31))]) (rest := []) fm_X6_ridesOn fi_X6_ridesOn ml_X6_153 (by decide) rfl rfl rfl rfl (by simp [kcat]) dX6_loosened_60 ?_
    refine kCT.mono h (fun v M2 h => ?_)
    obtain ⟨rfl, h⟩ := h
    change kWP l (rg_m, g) mX6_loosened 63 [(0, .inr (.inr (0, 0))), (1, .inl x1), (2, .inl x2), (3, .inl x3), (4, .inl x4), (5, .inl x5)] [] M2 (kqi Q)
    refine kwp_aload_n (pc := 63) 0 rfl dX6_loosened_63 rfl ?_
    refine kwp_getc (pc := 64) fl_X6_7 rfl rfl dX6_loosened_64 ?_
    refine kwp_sipush (pc := 67) dX6_loosened_67 sp_446 ?_
    refine kwp_iload_n (pc := 70) 1 rfl dX6_loosened_70 rfl ?_
    refine kwp_iadd (pc := 71) dX6_loosened_71 ?_
    obtain ⟨hin, h⟩ := h
    refine kwp_iald (pc := 72) rfl hin dX6_loosened_72 ?_
    obtain ⟨z3, ez3⟩ : ∃ z : Int32, z = M2.1 1 0 ((446 : Int32) + x1).toNatClampNeg := ⟨_, rfl⟩
    rw [← ez3]
    have h := h z3 ez3
    refine kwp_istore (pc := 73) (ls2 := [(6, .inl z3), (0, .inr (.inr (0, 0))), (1, .inl x1), (2, .inl x2), (3, .inl x3), (4, .inl x4), (5, .inl x5)]) dX6_loosened_73 (by decide) rfl ?_
    refine kwp_iload_n (pc := 75) 4 rfl dX6_loosened_75 rfl ?_
    refine kwp_bipush (pc := 76) dX6_loosened_76 bp_m4 ?_
    refine kwp_icmp_eq (pc := 78) 88 dX6_loosened_78 (by decide) (fun hc => ?_) (fun hc => ?_)
    · have h := h.1 hc
      refine kwp_sub [1, 2, 3, 5, 6, 0] rfl ?_
      exact h
    · have h := h.2 hc
      refine kwp_iload (pc := 81) 0 rfl dX6_loosened_81 ?_
      refine kwp_iload (pc := 83) 5 rfl dX6_loosened_83 ?_
      refine kwp_icmp_le (pc := 85) 93 dX6_loosened_85 (by decide) (fun hc => ?_) (fun hc => ?_)
      · have h := h.1 hc
        refine kwp_iload_n (pc := 93) 4 rfl dX6_loosened_93 rfl ?_
        refine kwp_sub [1, 2, 3, 5, 6, 0] rfl ?_
        exact h
      · have h := h.2 hc
        refine kwp_sub [1, 2, 3, 5, 6, 0] rfl ?_
        exact h

set_option maxRecDepth 20000 in
theorem bX6_loosened_88 {l : Launch} {g : va_G × (Nat → ClassId) × (Nat → Nat → Nat)} (x1 : Int32) (x2 : Int32) (x4 : Int32) (x5 : Int32) (x6 : Int32) (M : kM) (Q : Int32 → kM → Prop)
    (h : kWP l (rg_m, g) mX6_loosened 94 [(0, .inr (.inr (0, 0))), (1, .inl x1), (2, .inl x2), (4, .inl x4), (5, .inl x5), (6, .inl x6)] [.inl x5] M (kqi Q)) :
    kWP l (rg_m, g) mX6_loosened 88 [(0, .inr (.inr (0, 0))), (1, .inl x1), (2, .inl x2), (4, .inl x4), (5, .inl x5), (6, .inl x6)] [] M (kqi Q) := by
  refine kwp_iload (pc := 88) 4 rfl dX6_loosened_88 ?_
  refine kwp_goto (pc := 90) 94 dX6_loosened_90 (by decide) ?_
  exact h

set_option maxRecDepth 20000 in
theorem bX6_loosened_94 {l : Launch} {g : va_G × (Nat → ClassId) × (Nat → Nat → Nat)} (x1 : Int32) (x2 : Int32) (x4 : Int32) (x5 : Int32) (x6 : Int32) (s0 : Int32) (M : kM) (Q : Int32 → kM → Prop)
    (h : ((x6 ≤ x4 → kWP l (rg_m, g) mX6_loosened 109 [(0, .inr (.inr (0, 0))), (1, .inl x1), (2, .inl x2), (3, .inl s0), (5, .inl x5)] [.inl x4] M (kqi Q)) ∧ (¬ x6 ≤ x4 → kWP l (rg_m, g) mX6_loosened 109 [(0, .inr (.inr (0, 0))), (1, .inl x1), (2, .inl x2), (3, .inl s0), (5, .inl x5)] [.inl x6] M (kqi Q)))) :
    kWP l (rg_m, g) mX6_loosened 94 [(0, .inr (.inr (0, 0))), (1, .inl x1), (2, .inl x2), (4, .inl x4), (5, .inl x5), (6, .inl x6)] [.inl s0] M (kqi Q) := by
  refine kwp_istore_n (pc := 94) (ls2 := [(3, .inl s0), (0, .inr (.inr (0, 0))), (1, .inl x1), (2, .inl x2), (4, .inl x4), (5, .inl x5), (6, .inl x6)]) dX6_loosened_94 rfl (by decide) rfl ?_
  refine kwp_iload (pc := 95) 6 rfl dX6_loosened_95 ?_
  refine kwp_iload (pc := 97) 4 rfl dX6_loosened_97 ?_
  refine kwp_icmp_le (pc := 99) 107 dX6_loosened_99 (by decide) (fun hc => ?_) (fun hc => ?_)
  · have h := h.1 hc
    refine kwp_iload (pc := 107) 4 rfl dX6_loosened_107 ?_
    refine kwp_sub [1, 2, 3, 0, 5] rfl ?_
    exact h
  · have h := h.2 hc
    refine kwp_iload (pc := 102) 6 rfl dX6_loosened_102 ?_
    refine kwp_goto (pc := 104) 109 dX6_loosened_104 (by decide) ?_
    refine kwp_sub [1, 2, 3, 0, 5] rfl ?_
    exact h

set_option maxRecDepth 20000 in
theorem bX6_loosened_109 {l : Launch} {g : va_G × (Nat → ClassId) × (Nat → Nat → Nat)} (x1 : Int32) (x2 : Int32) (x3 : Int32) (x5 : Int32) (s0 : Int32) (M : kM) (Q : Int32 → kM → Prop)
    (h : ∀ z1 : Int32, z1 = x5 + 1 → kWP l (rg_m, g) mX6_loosened 38 [(0, .inr (.inr (0, 0))), (1, .inl x1), (2, .inl x2), (3, .inl x3), (4, .inl s0), (5, .inl z1)] [] M (kqi Q)) :
    kWP l (rg_m, g) mX6_loosened 109 [(0, .inr (.inr (0, 0))), (1, .inl x1), (2, .inl x2), (3, .inl x3), (5, .inl x5)] [.inl s0] M (kqi Q) := by
  refine kwp_istore (pc := 109) (ls2 := [(4, .inl s0), (0, .inr (.inr (0, 0))), (1, .inl x1), (2, .inl x2), (3, .inl x3), (5, .inl x5)]) dX6_loosened_109 (by decide) rfl ?_
  obtain ⟨z1, ez1⟩ : ∃ z : Int32, z = x5 + 1 := ⟨_, rfl⟩
  have h := h z1 ez1
  refine kwp_iinc (pc := 111) (v := z1) (ls2 := [(5, .inl z1), (4, .inl s0), (0, .inr (.inr (0, 0))), (1, .inl x1), (2, .inl x2), (3, .inl x3)]) 5 rfl dX6_loosened_111 (by rw [ez1, ic_1]) (by decide) rfl ?_
  refine kwp_goto (pc := 114) 38 dX6_loosened_114 (by decide) ?_
  refine kwp_sub [2, 3, 4, 5, 1, 0] rfl ?_
  exact h

set_option maxRecDepth 20000 in
theorem bX6_loosened_127 {l : Launch} {g : va_G × (Nat → ClassId) × (Nat → Nat → Nat)} (s0 : Int32) (M : kM) (Q : Int32 → kM → Prop)
    (h : Q s0 M) :
    kWP l (rg_m, g) mX6_loosened 127 [] [.inl s0] M (kqi Q) := by
  exact kwp_iret (pc := 127) rfl dX6_loosened_127 ⟨_, rfl, h⟩

set_option maxRecDepth 20000 in
theorem bX6_layDuel_0 {l : Launch} {g : va_G × (Nat → ClassId) × (Nat → Nat → Nat)} (x1 : Int32) (x2 : Int32) (M : kM) (Q : kM → Prop)
    (h : kWP l (rg_m, g) mX6_layDuel 2 [(0, .inr (.inr (0, 0))), (1, .inl x1), (2, .inl x2), (3, .inl 0)] [] M (kqv Q)) :
    kWP l (rg_m, g) mX6_layDuel 0 [(0, .inr (.inr (0, 0))), (1, .inl x1), (2, .inl x2)] [] M (kqv Q) := by
  refine kwp_iconst (pc := 0) dX6_layDuel_0 ic_0 ?_
  refine kwp_istore_n (pc := 1) (ls2 := [(3, .inl 0), (0, .inr (.inr (0, 0))), (1, .inl x1), (2, .inl x2)]) dX6_layDuel_1 rfl (by decide) rfl ?_
  refine kwp_sub [1, 2, 3, 0] rfl ?_
  exact h

set_option maxRecDepth 20000 in
theorem bX6_layDuel_2 {l : Launch} {g : va_G × (Nat → ClassId) × (Nat → Nat → Nat)} (x1 : Int32) (x2 : Int32) (x3 : Int32) (M : kM) (Q : kM → Prop)
    (h : (((M.1 1 0 (21 : Int32).toNatClampNeg) < x3 → Q M) ∧ (¬ (M.1 1 0 (21 : Int32).toNatClampNeg) < x3 → kWP l (rg_m, g) mX6_layDuel 16 [(0, .inr (.inr (0, 0))), (1, .inl x1), (2, .inl x2), (3, .inl x3), (4, .inl 0)] [] M (kqv Q)))) :
    kWP l (rg_m, g) mX6_layDuel 2 [(0, .inr (.inr (0, 0))), (1, .inl x1), (2, .inl x2), (3, .inl x3)] [] M (kqv Q) := by
  refine kwp_iload_n (pc := 2) 3 rfl dX6_layDuel_2 rfl ?_
  refine kwp_aload_n (pc := 3) 0 rfl dX6_layDuel_3 rfl ?_
  refine kwp_getc (pc := 4) fl_X6_7 rfl rfl dX6_layDuel_4 ?_
  refine kwp_bipush (pc := 7) dX6_layDuel_7 bp_21 ?_
  refine kwp_iald (pc := 9) rfl (show vp_in (21 : Int32) 483 by unfold vp_in; decide) dX6_layDuel_9 ?_
  refine kwp_icmp_gt (pc := 10) 143 dX6_layDuel_10 (by decide) (fun hc => ?_) (fun hc => ?_)
  · have h := h.1 hc
    exact kwp_vret (pc := 143) rfl dX6_layDuel_143 ⟨rfl, h⟩
  · have h := h.2 hc
    refine kwp_iconst (pc := 13) dX6_layDuel_13 ic_0 ?_
    refine kwp_istore (pc := 14) (ls2 := [(4, .inl 0), (0, .inr (.inr (0, 0))), (1, .inl x1), (2, .inl x2), (3, .inl x3)]) dX6_layDuel_14 (by decide) rfl ?_
    refine kwp_sub [1, 2, 3, 4, 0] rfl ?_
    exact h

set_option maxRecDepth 20000 in
theorem bX6_layDuel_16 {l : Launch} {g : va_G × (Nat → ClassId) × (Nat → Nat → Nat)} (x1 : Int32) (x2 : Int32) (x3 : Int32) (x4 : Int32) (M : kM) (Q : kM → Prop)
    (h : (((M.1 1 0 (21 : Int32).toNatClampNeg) < x4 → ∀ z1 : Int32, z1 = x3 + 1 → kWP l (rg_m, g) mX6_layDuel 2 [(0, .inr (.inr (0, 0))), (1, .inl x1), (2, .inl x2), (3, .inl z1)] [] M (kqv Q)) ∧ (¬ (M.1 1 0 (21 : Int32).toNatClampNeg) < x4 → kCT l (rg_m, g) mX6_tries [.inr (.inr (0, 0))] M (kqv (fun M2 => ((¬ x3 = 0 → kWP l (rg_m, g) mX6_layDuel 54 [(0, .inr (.inr (0, 0))), (1, .inl x1), (2, .inl x2), (3, .inl x3), (4, .inl x4)] [.inl ((1 : Int32) <<< ((x3 - 1) &&& 31)), .inl ((478 : Int32) + x1), .inr (.inr (1, 0))] M2 (kqv Q)) ∧ (x3 = 0 → kWP l (rg_m, g) mX6_layDuel 54 [(0, .inr (.inr (0, 0))), (1, .inl x1), (2, .inl x2), (3, .inl x3), (4, .inl x4)] [.inl 0, .inl ((478 : Int32) + x1), .inr (.inr (1, 0))] M2 (kqv Q)))))))) :
    kWP l (rg_m, g) mX6_layDuel 16 [(0, .inr (.inr (0, 0))), (1, .inl x1), (2, .inl x2), (3, .inl x3), (4, .inl x4)] [] M (kqv Q) := by
  refine kwp_iload (pc := 16) 4 rfl dX6_layDuel_16 ?_
  refine kwp_aload_n (pc := 18) 0 rfl dX6_layDuel_18 rfl ?_
  refine kwp_getc (pc := 19) fl_X6_7 rfl rfl dX6_layDuel_19 ?_
  refine kwp_bipush (pc := 22) dX6_layDuel_22 bp_21 ?_
  refine kwp_iald (pc := 24) rfl (show vp_in (21 : Int32) 483 by unfold vp_in; decide) dX6_layDuel_24 ?_
  refine kwp_icmp_gt (pc := 25) 137 dX6_layDuel_25 (by decide) (fun hc => ?_) (fun hc => ?_)
  · have h := h.1 hc
    obtain ⟨z1, ez1⟩ : ∃ z : Int32, z = x3 + 1 := ⟨_, rfl⟩
    have h := h z1 ez1
    refine kwp_iinc (pc := 137) (v := z1) (ls2 := [(3, .inl z1), (0, .inr (.inr (0, 0))), (1, .inl x1), (2, .inl x2), (4, .inl x4)]) 3 rfl dX6_layDuel_137 (by rw [ez1, ic_1]) (by decide) rfl ?_
    refine kwp_goto (pc := 140) 2 dX6_layDuel_140 (by decide) ?_
    refine kwp_sub [1, 2, 3, 0] rfl ?_
    exact h
  · have h := h.2 hc
    refine kwp_aload_n (pc := 28) 0 rfl dX6_layDuel_28 rfl ?_
    refine kwp_callV (pc := 29) (Y := mX6_tries) (vs := []) (rest := []) fm_X6_tries fi_X6_tries ml_X6_150 (by decide) rfl rfl rfl rfl (by simp [kcat]) dX6_layDuel_29 ?_
    refine kCT.mono h (fun v M2 h => ?_)
    obtain ⟨rfl, h⟩ := h
    change kWP l (rg_m, g) mX6_layDuel 32 [(0, .inr (.inr (0, 0))), (1, .inl x1), (2, .inl x2), (3, .inl x3), (4, .inl x4)] [] M2 (kqv Q)
    refine kwp_aload_n (pc := 32) 0 rfl dX6_layDuel_32 rfl ?_
    refine kwp_getc (pc := 33) fl_X6_7 rfl rfl dX6_layDuel_33 ?_
    refine kwp_sipush (pc := 36) dX6_layDuel_36 sp_478 ?_
    refine kwp_iload_n (pc := 39) 1 rfl dX6_layDuel_39 rfl ?_
    refine kwp_iadd (pc := 40) dX6_layDuel_40 ?_
    refine kwp_iload_n (pc := 41) 3 rfl dX6_layDuel_41 rfl ?_
    refine kwp_if_ne (pc := 42) 49 dX6_layDuel_42 (by decide) (fun hc => ?_) (fun hc => ?_)
    · have h := h.1 hc
      refine kwp_iconst (pc := 49) dX6_layDuel_49 ic_1 ?_
      refine kwp_iload_n (pc := 50) 3 rfl dX6_layDuel_50 rfl ?_
      refine kwp_iconst (pc := 51) dX6_layDuel_51 ic_1 ?_
      refine kwp_isub (pc := 52) dX6_layDuel_52 ?_
      refine kwp_ishl (pc := 53) dX6_layDuel_53 ?_
      exact h
    · have h := h.2 hc
      refine kwp_iconst (pc := 45) dX6_layDuel_45 ic_0 ?_
      refine kwp_goto (pc := 46) 54 dX6_layDuel_46 (by decide) ?_
      exact h

set_option maxRecDepth 20000 in
theorem bX6_layDuel_54 {l : Launch} {g : va_G × (Nat → ClassId) × (Nat → Nat → Nat)} (x1 : Int32) (x2 : Int32) (x3 : Int32) (x4 : Int32) (s0 : Int32) (s1 : Int32) (M : kM) (Q : kM → Prop)
    (h : vp_in s1 483 ∧ (∀ M1 : kM, M1 = ku M 1 0 s1.toNatClampNeg s0 → ((¬ x4 = 0 → kWP l (rg_m, g) mX6_layDuel 79 [(0, .inr (.inr (0, 0))), (1, .inl x1), (2, .inl x2), (3, .inl x3), (4, .inl x4)] [.inl ((1 : Int32) <<< ((x4 - 1) &&& 31)), .inl ((478 : Int32) + x2), .inr (.inr (1, 0))] M1 (kqv Q)) ∧ (x4 = 0 → kWP l (rg_m, g) mX6_layDuel 79 [(0, .inr (.inr (0, 0))), (1, .inl x1), (2, .inl x2), (3, .inl x3), (4, .inl x4)] [.inl 0, .inl ((478 : Int32) + x2), .inr (.inr (1, 0))] M1 (kqv Q))))) :
    kWP l (rg_m, g) mX6_layDuel 54 [(0, .inr (.inr (0, 0))), (1, .inl x1), (2, .inl x2), (3, .inl x3), (4, .inl x4)] [.inl s0, .inl s1, .inr (.inr (1, 0))] M (kqv Q) := by
  obtain ⟨hin, h⟩ := h
  refine kwp_iast (pc := 54) rfl hin dX6_layDuel_54 ?_
  obtain ⟨M1, eM1⟩ : ∃ z : kM, z = ku M 1 0 s1.toNatClampNeg s0 := ⟨_, rfl⟩
  rw [← eM1]
  have h := h M1 eM1
  refine kwp_aload_n (pc := 55) 0 rfl dX6_layDuel_55 rfl ?_
  refine kwp_getc (pc := 56) fl_X6_7 rfl rfl dX6_layDuel_56 ?_
  refine kwp_sipush (pc := 59) dX6_layDuel_59 sp_478 ?_
  refine kwp_iload_n (pc := 62) 2 rfl dX6_layDuel_62 rfl ?_
  refine kwp_iadd (pc := 63) dX6_layDuel_63 ?_
  refine kwp_iload (pc := 64) 4 rfl dX6_layDuel_64 ?_
  refine kwp_if_ne (pc := 66) 73 dX6_layDuel_66 (by decide) (fun hc => ?_) (fun hc => ?_)
  · have h := h.1 hc
    refine kwp_iconst (pc := 73) dX6_layDuel_73 ic_1 ?_
    refine kwp_iload (pc := 74) 4 rfl dX6_layDuel_74 ?_
    refine kwp_iconst (pc := 76) dX6_layDuel_76 ic_1 ?_
    refine kwp_isub (pc := 77) dX6_layDuel_77 ?_
    refine kwp_ishl (pc := 78) dX6_layDuel_78 ?_
    exact h
  · have h := h.2 hc
    refine kwp_iconst (pc := 69) dX6_layDuel_69 ic_0 ?_
    refine kwp_goto (pc := 70) 79 dX6_layDuel_70 (by decide) ?_
    exact h

set_option maxRecDepth 20000 in
theorem bX6_layDuel_79 {l : Launch} {g : va_G × (Nat → ClassId) × (Nat → Nat → Nat)} (x1 : Int32) (x2 : Int32) (x3 : Int32) (x4 : Int32) (s0 : Int32) (s1 : Int32) (M : kM) (Q : kM → Prop)
    (h : vp_in s1 483 ∧ (∀ M1 : kM, M1 = ku M 1 0 s1.toNatClampNeg s0 → kCT l (rg_m, g) mX6_ridesOn [.inr (.inr (0, 0)), .inl (-4), .inl 0] M1 (kqv (fun M2 => vp_in ((446 : Int32) + x1) 483 ∧ (vp_in (((9 : Int32) * x3) + x4) 81 ∧ (∀ M3 : kM, M3 = ku M2 7 0 (((9 : Int32) * x3) + x4).toNatClampNeg (M2.1 1 0 ((446 : Int32) + x1).toNatClampNeg) → vp_in ((446 : Int32) + x2) 483 ∧ (vp_in (((9 : Int32) * x3) + x4) 81 ∧ (∀ M4 : kM, M4 = ku M3 8 0 (((9 : Int32) * x3) + x4).toNatClampNeg (M3.1 1 0 ((446 : Int32) + x2).toNatClampNeg) → ∀ z5 : Int32, z5 = x4 + 1 → kWP l (rg_m, g) mX6_layDuel 16 [(0, .inr (.inr (0, 0))), (1, .inl x1), (2, .inl x2), (3, .inl x3), (4, .inl z5)] [] M4 (kqv Q))))))))) :
    kWP l (rg_m, g) mX6_layDuel 79 [(0, .inr (.inr (0, 0))), (1, .inl x1), (2, .inl x2), (3, .inl x3), (4, .inl x4)] [.inl s0, .inl s1, .inr (.inr (1, 0))] M (kqv Q) := by
  obtain ⟨hin, h⟩ := h
  refine kwp_iast (pc := 79) rfl hin dX6_layDuel_79 ?_
  obtain ⟨M1, eM1⟩ : ∃ z : kM, z = ku M 1 0 s1.toNatClampNeg s0 := ⟨_, rfl⟩
  rw [← eM1]
  have h := h M1 eM1
  refine kwp_aload_n (pc := 80) 0 rfl dX6_layDuel_80 rfl ?_
  refine kwp_bipush (pc := 81) dX6_layDuel_81 bp_m4 ?_
  refine kwp_iconst (pc := 83) dX6_layDuel_83 ic_0 ?_
  refine kwp_callV (pc := 84) (Y := mX6_ridesOn) (vs := [.inl (-4), .inl 0]) (rest := []) fm_X6_ridesOn fi_X6_ridesOn ml_X6_153 (by decide) rfl rfl rfl rfl (by simp [kcat]) dX6_layDuel_84 ?_
  refine kCT.mono h (fun v M2 h => ?_)
  obtain ⟨rfl, h⟩ := h
  change kWP l (rg_m, g) mX6_layDuel 87 [(0, .inr (.inr (0, 0))), (1, .inl x1), (2, .inl x2), (3, .inl x3), (4, .inl x4)] [] M2 (kqv Q)
  refine kwp_aload_n (pc := 87) 0 rfl dX6_layDuel_87 rfl ?_
  refine kwp_getc (pc := 88) fl_X6_29 rfl rfl dX6_layDuel_88 ?_
  refine kwp_bipush (pc := 91) dX6_layDuel_91 bp_9 ?_
  refine kwp_iload_n (pc := 93) 3 rfl dX6_layDuel_93 rfl ?_
  refine kwp_imul (pc := 94) dX6_layDuel_94 ?_
  refine kwp_iload (pc := 95) 4 rfl dX6_layDuel_95 ?_
  refine kwp_iadd (pc := 97) dX6_layDuel_97 ?_
  refine kwp_aload_n (pc := 98) 0 rfl dX6_layDuel_98 rfl ?_
  refine kwp_getc (pc := 99) fl_X6_7 rfl rfl dX6_layDuel_99 ?_
  refine kwp_sipush (pc := 102) dX6_layDuel_102 sp_446 ?_
  refine kwp_iload_n (pc := 105) 1 rfl dX6_layDuel_105 rfl ?_
  refine kwp_iadd (pc := 106) dX6_layDuel_106 ?_
  obtain ⟨hin, h⟩ := h
  refine kwp_iald (pc := 107) rfl hin dX6_layDuel_107 ?_
  obtain ⟨hin, h⟩ := h
  refine kwp_iast (pc := 108) rfl hin dX6_layDuel_108 ?_
  obtain ⟨M3, eM3⟩ : ∃ z : kM, z = ku M2 7 0 (((9 : Int32) * x3) + x4).toNatClampNeg (M2.1 1 0 ((446 : Int32) + x1).toNatClampNeg) := ⟨_, rfl⟩
  rw [← eM3]
  have h := h M3 eM3
  refine kwp_aload_n (pc := 109) 0 rfl dX6_layDuel_109 rfl ?_
  refine kwp_getc (pc := 110) fl_X6_32 rfl rfl dX6_layDuel_110 ?_
  refine kwp_bipush (pc := 113) dX6_layDuel_113 bp_9 ?_
  refine kwp_iload_n (pc := 115) 3 rfl dX6_layDuel_115 rfl ?_
  refine kwp_imul (pc := 116) dX6_layDuel_116 ?_
  refine kwp_iload (pc := 117) 4 rfl dX6_layDuel_117 ?_
  refine kwp_iadd (pc := 119) dX6_layDuel_119 ?_
  refine kwp_aload_n (pc := 120) 0 rfl dX6_layDuel_120 rfl ?_
  refine kwp_getc (pc := 121) fl_X6_7 rfl rfl dX6_layDuel_121 ?_
  refine kwp_sipush (pc := 124) dX6_layDuel_124 sp_446 ?_
  refine kwp_iload_n (pc := 127) 2 rfl dX6_layDuel_127 rfl ?_
  refine kwp_iadd (pc := 128) dX6_layDuel_128 ?_
  obtain ⟨hin, h⟩ := h
  refine kwp_iald (pc := 129) rfl hin dX6_layDuel_129 ?_
  obtain ⟨hin, h⟩ := h
  refine kwp_iast (pc := 130) rfl hin dX6_layDuel_130 ?_
  obtain ⟨M4, eM4⟩ : ∃ z : kM, z = ku M3 8 0 (((9 : Int32) * x3) + x4).toNatClampNeg (M3.1 1 0 ((446 : Int32) + x2).toNatClampNeg) := ⟨_, rfl⟩
  rw [← eM4]
  have h := h M4 eM4
  obtain ⟨z5, ez5⟩ : ∃ z : Int32, z = x4 + 1 := ⟨_, rfl⟩
  have h := h z5 ez5
  refine kwp_iinc (pc := 131) (v := z5) (ls2 := [(4, .inl z5), (0, .inr (.inr (0, 0))), (1, .inl x1), (2, .inl x2), (3, .inl x3)]) 4 rfl dX6_layDuel_131 (by rw [ez5, ic_1]) (by decide) rfl ?_
  refine kwp_goto (pc := 134) 16 dX6_layDuel_134 (by decide) ?_
  refine kwp_sub [1, 2, 3, 4, 0] rfl ?_
  exact h

set_option maxRecDepth 20000 in
theorem bX6_rests_0 {l : Launch} {g : va_G × (Nat → ClassId) × (Nat → Nat → Nat)} (x1 : Int32) (x2 : Int32) (M : kM) (Q : Int32 → kM → Prop)
    (h : kWP l (rg_m, g) mX6_rests 5 [(0, .inr (.inr (0, 0))), (1, .inl x1), (2, .inl x2), (3, .inl 1), (4, .inl 0)] [] M (kqi Q)) :
    kWP l (rg_m, g) mX6_rests 0 [(0, .inr (.inr (0, 0))), (1, .inl x1), (2, .inl x2)] [] M (kqi Q) := by
  refine kwp_iconst (pc := 0) dX6_rests_0 ic_1 ?_
  refine kwp_istore_n (pc := 1) (ls2 := [(3, .inl 1), (0, .inr (.inr (0, 0))), (1, .inl x1), (2, .inl x2)]) dX6_rests_1 rfl (by decide) rfl ?_
  refine kwp_iconst (pc := 2) dX6_rests_2 ic_0 ?_
  refine kwp_istore (pc := 3) (ls2 := [(4, .inl 0), (3, .inl 1), (0, .inr (.inr (0, 0))), (1, .inl x1), (2, .inl x2)]) dX6_rests_3 (by decide) rfl ?_
  refine kwp_sub [2, 3, 4, 1, 0] rfl ?_
  exact h

set_option maxRecDepth 20000 in
theorem bX6_rests_5 {l : Launch} {g : va_G × (Nat → ClassId) × (Nat → Nat → Nat)} (x1 : Int32) (x2 : Int32) (x3 : Int32) (x4 : Int32) (M : kM) (Q : Int32 → kM → Prop)
    (h : (((M.1 1 0 (21 : Int32).toNatClampNeg) < x4 → ((x3 = 0 ∨ x3 = 1) ∧ Q x3 M)) ∧ (¬ (M.1 1 0 (21 : Int32).toNatClampNeg) < x4 → ((x3 = 0 → kWP l (rg_m, g) mX6_rests 77 [(0, .inr (.inr (0, 0))), (1, .inl x1), (2, .inl x2), (4, .inl x4)] [] M (kqi Q)) ∧ (¬ x3 = 0 → vp_in (((9 : Int32) * x4) + x2) 81 ∧ (vp_in (((9 : Int32) * x1) + x2) 81 ∧ ((((M.1 7 0 (((9 : Int32) * x4) + x2).toNatClampNeg) < (M.1 7 0 (((9 : Int32) * x1) + x2).toNatClampNeg) → kWP l (rg_m, g) mX6_rests 77 [(0, .inr (.inr (0, 0))), (1, .inl x1), (2, .inl x2), (4, .inl x4)] [] M (kqi Q)) ∧ (¬ (M.1 7 0 (((9 : Int32) * x4) + x2).toNatClampNeg) < (M.1 7 0 (((9 : Int32) * x1) + x2).toNatClampNeg) → vp_in (((9 : Int32) * x1) + x4) 81 ∧ (vp_in (((9 : Int32) * x1) + x2) 81 ∧ ((((M.1 8 0 (((9 : Int32) * x1) + x4).toNatClampNeg) < (M.1 8 0 (((9 : Int32) * x1) + x2).toNatClampNeg) → kWP l (rg_m, g) mX6_rests 77 [(0, .inr (.inr (0, 0))), (1, .inl x1), (2, .inl x2), (4, .inl x4)] [] M (kqi Q)) ∧ (¬ (M.1 8 0 (((9 : Int32) * x1) + x4).toNatClampNeg) < (M.1 8 0 (((9 : Int32) * x1) + x2).toNatClampNeg) → kWP l (rg_m, g) mX6_rests 78 [(0, .inr (.inr (0, 0))), (1, .inl x1), (2, .inl x2), (4, .inl x4)] [.inl 1] M (kqi Q)))))))))))))) :
    kWP l (rg_m, g) mX6_rests 5 [(0, .inr (.inr (0, 0))), (1, .inl x1), (2, .inl x2), (3, .inl x3), (4, .inl x4)] [] M (kqi Q) := by
  refine kwp_iload (pc := 5) 4 rfl dX6_rests_5 ?_
  refine kwp_aload_n (pc := 7) 0 rfl dX6_rests_7 rfl ?_
  refine kwp_getc (pc := 8) fl_X6_7 rfl rfl dX6_rests_8 ?_
  refine kwp_bipush (pc := 11) dX6_rests_11 bp_21 ?_
  refine kwp_iald (pc := 13) rfl (show vp_in (21 : Int32) 483 by unfold vp_in; decide) dX6_rests_13 ?_
  refine kwp_icmp_gt (pc := 14) 85 dX6_rests_14 (by decide) (fun hc => ?_) (fun hc => ?_)
  · have h := h.1 hc
    refine kwp_iload_n (pc := 85) 3 rfl dX6_rests_85 rfl ?_
    exact kwp_zret (pc := 86) rfl h.1 dX6_rests_86 ⟨_, rfl, h.2⟩
  · have h := h.2 hc
    refine kwp_iload_n (pc := 17) 3 rfl dX6_rests_17 rfl ?_
    refine kwp_if_eq (pc := 18) 77 dX6_rests_18 (by decide) (fun hc => ?_) (fun hc => ?_)
    · have h := h.1 hc
      refine kwp_sub [0, 1, 2, 4] rfl ?_
      exact h
    · have h := h.2 hc
      refine kwp_aload_n (pc := 21) 0 rfl dX6_rests_21 rfl ?_
      refine kwp_getc (pc := 22) fl_X6_29 rfl rfl dX6_rests_22 ?_
      refine kwp_bipush (pc := 25) dX6_rests_25 bp_9 ?_
      refine kwp_iload (pc := 27) 4 rfl dX6_rests_27 ?_
      refine kwp_imul (pc := 29) dX6_rests_29 ?_
      refine kwp_iload_n (pc := 30) 2 rfl dX6_rests_30 rfl ?_
      refine kwp_iadd (pc := 31) dX6_rests_31 ?_
      obtain ⟨hin, h⟩ := h
      refine kwp_iald (pc := 32) rfl hin dX6_rests_32 ?_
      refine kwp_aload_n (pc := 33) 0 rfl dX6_rests_33 rfl ?_
      refine kwp_getc (pc := 34) fl_X6_29 rfl rfl dX6_rests_34 ?_
      refine kwp_bipush (pc := 37) dX6_rests_37 bp_9 ?_
      refine kwp_iload_n (pc := 39) 1 rfl dX6_rests_39 rfl ?_
      refine kwp_imul (pc := 40) dX6_rests_40 ?_
      refine kwp_iload_n (pc := 41) 2 rfl dX6_rests_41 rfl ?_
      refine kwp_iadd (pc := 42) dX6_rests_42 ?_
      obtain ⟨hin, h⟩ := h
      refine kwp_iald (pc := 43) rfl hin dX6_rests_43 ?_
      refine kwp_icmp_lt (pc := 44) 77 dX6_rests_44 (by decide) (fun hc => ?_) (fun hc => ?_)
      · have h := h.1 hc
        refine kwp_sub [0, 1, 2, 4] rfl ?_
        exact h
      · have h := h.2 hc
        refine kwp_aload_n (pc := 47) 0 rfl dX6_rests_47 rfl ?_
        refine kwp_getc (pc := 48) fl_X6_32 rfl rfl dX6_rests_48 ?_
        refine kwp_bipush (pc := 51) dX6_rests_51 bp_9 ?_
        refine kwp_iload_n (pc := 53) 1 rfl dX6_rests_53 rfl ?_
        refine kwp_imul (pc := 54) dX6_rests_54 ?_
        refine kwp_iload (pc := 55) 4 rfl dX6_rests_55 ?_
        refine kwp_iadd (pc := 57) dX6_rests_57 ?_
        obtain ⟨hin, h⟩ := h
        refine kwp_iald (pc := 58) rfl hin dX6_rests_58 ?_
        refine kwp_aload_n (pc := 59) 0 rfl dX6_rests_59 rfl ?_
        refine kwp_getc (pc := 60) fl_X6_32 rfl rfl dX6_rests_60 ?_
        refine kwp_bipush (pc := 63) dX6_rests_63 bp_9 ?_
        refine kwp_iload_n (pc := 65) 1 rfl dX6_rests_65 rfl ?_
        refine kwp_imul (pc := 66) dX6_rests_66 ?_
        refine kwp_iload_n (pc := 67) 2 rfl dX6_rests_67 rfl ?_
        refine kwp_iadd (pc := 68) dX6_rests_68 ?_
        obtain ⟨hin, h⟩ := h
        refine kwp_iald (pc := 69) rfl hin dX6_rests_69 ?_
        refine kwp_icmp_lt (pc := 70) 77 dX6_rests_70 (by decide) (fun hc => ?_) (fun hc => ?_)
        · have h := h.1 hc
          refine kwp_sub [0, 1, 2, 4] rfl ?_
          exact h
        · have h := h.2 hc
          refine kwp_iconst (pc := 73) dX6_rests_73 ic_1 ?_
          refine kwp_goto (pc := 74) 78 dX6_rests_74 (by decide) ?_
          refine kwp_sub [0, 1, 2, 4] rfl ?_
          exact h

set_option maxRecDepth 20000 in
theorem bX6_rests_77 {l : Launch} {g : va_G × (Nat → ClassId) × (Nat → Nat → Nat)} (x1 : Int32) (x2 : Int32) (x4 : Int32) (M : kM) (Q : Int32 → kM → Prop)
    (h : kWP l (rg_m, g) mX6_rests 78 [(0, .inr (.inr (0, 0))), (1, .inl x1), (2, .inl x2), (4, .inl x4)] [.inl 0] M (kqi Q)) :
    kWP l (rg_m, g) mX6_rests 77 [(0, .inr (.inr (0, 0))), (1, .inl x1), (2, .inl x2), (4, .inl x4)] [] M (kqi Q) := by
  refine kwp_iconst (pc := 77) dX6_rests_77 ic_0 ?_
  exact h

set_option maxRecDepth 20000 in
theorem bX6_rests_78 {l : Launch} {g : va_G × (Nat → ClassId) × (Nat → Nat → Nat)} (x1 : Int32) (x2 : Int32) (x4 : Int32) (s0 : Int32) (M : kM) (Q : Int32 → kM → Prop)
    (h : ∀ z1 : Int32, z1 = x4 + 1 → kWP l (rg_m, g) mX6_rests 5 [(0, .inr (.inr (0, 0))), (1, .inl x1), (2, .inl x2), (3, .inl s0), (4, .inl z1)] [] M (kqi Q)) :
    kWP l (rg_m, g) mX6_rests 78 [(0, .inr (.inr (0, 0))), (1, .inl x1), (2, .inl x2), (4, .inl x4)] [.inl s0] M (kqi Q) := by
  refine kwp_istore_n (pc := 78) (ls2 := [(3, .inl s0), (0, .inr (.inr (0, 0))), (1, .inl x1), (2, .inl x2), (4, .inl x4)]) dX6_rests_78 rfl (by decide) rfl ?_
  obtain ⟨z1, ez1⟩ : ∃ z : Int32, z = x4 + 1 := ⟨_, rfl⟩
  have h := h z1 ez1
  refine kwp_iinc (pc := 79) (v := z1) (ls2 := [(4, .inl z1), (3, .inl s0), (0, .inr (.inr (0, 0))), (1, .inl x1), (2, .inl x2)]) 4 rfl dX6_rests_79 (by rw [ez1, ic_1]) (by decide) rfl ?_
  refine kwp_goto (pc := 82) 5 dX6_rests_82 (by decide) ?_
  refine kwp_sub [2, 3, 4, 1, 0] rfl ?_
  exact h

set_option maxRecDepth 20000 in
theorem bX6_duel_0 {l : Launch} {g : va_G × (Nat → ClassId) × (Nat → Nat → Nat)} (x1 : Int32) (x2 : Int32) (x3 : Int32) (M : kM) (Q : Int32 → kM → Prop)
    (h : kCT l (rg_m, g) mX6_areTwo [.inr (.inr (0, 0)), .inl x1, .inl x2] M (kqi (fun r2 M1 => ((r2 = 0 → kWP l (rg_m, g) mX6_duel 19 [] [] M1 (kqi Q)) ∧ (¬ r2 = 0 → kCT l (rg_m, g) mX6_in [.inr (.inl (x3.toInt64)), .inr (.inl 0), .inr (.inl 1)] M1 (kqi (fun r4 M3 => ((¬ r4 = 0 → kCT l (rg_m, g) mX6_layDuel [.inr (.inr (0, 0)), .inl x1, .inl x2] M3 (kqv (fun M5 => kWP l (rg_m, g) mX6_duel 37 [(0, .inr (.inr (0, 0))), (3, .inl x3), (4, .inl 0), (5, .inl (-4)), (6, .inl 0)] [] M5 (kqi Q)))) ∧ (r4 = 0 → kWP l (rg_m, g) mX6_duel 19 [] [] M3 (kqi Q)))))))))) :
    kWP l (rg_m, g) mX6_duel 0 [(0, .inr (.inr (0, 0))), (1, .inl x1), (2, .inl x2), (3, .inl x3)] [] M (kqi Q) := by
  refine kwp_aload_n (pc := 0) 0 rfl dX6_duel_0 rfl ?_
  refine kwp_iload_n (pc := 1) 1 rfl dX6_duel_1 rfl ?_
  refine kwp_iload_n (pc := 2) 2 rfl dX6_duel_2 rfl ?_
  refine kwp_callV (pc := 3) (Y := mX6_areTwo) (vs := [.inl x1, .inl x2]) (rest := []) fm_X6_areTwo fi_X6_areTwo ml_X6_144 (by decide) rfl rfl rfl rfl (by simp [kcat]) dX6_duel_3 ?_
  refine kCT.mono h (fun v M1 h => ?_)
  obtain ⟨r2, rfl, h⟩ := h
  change kWP l (rg_m, g) mX6_duel 6 [(0, .inr (.inr (0, 0))), (1, .inl x1), (2, .inl x2), (3, .inl x3)] [.inl r2] M1 (kqi Q)
  refine kwp_if_eq (pc := 6) 19 dX6_duel_6 (by decide) (fun hc => ?_) (fun hc => ?_)
  · have h := h.1 hc
    refine kwp_sub [] rfl ?_
    exact h
  · have h := h.2 hc
    refine kwp_iload_n (pc := 9) 3 rfl dX6_duel_9 rfl ?_
    refine kwp_i2l (pc := 10) dX6_duel_10 ?_
    refine kwp_lconst (pc := 11) (v := 0) dX6_duel_11 (by decide) ?_
    refine kwp_lconst (pc := 12) (v := 1) dX6_duel_12 (by decide) ?_
    refine kwp_callS (pc := 13) (Y := mX6_in) (vs := [.inr (.inl (x3.toInt64)), .inr (.inl 0), .inr (.inl 1)]) (rest := []) fm_X6_in fs_X6_in ml_X6_38 (by decide) rfl rfl (by simp [kcat]) dX6_duel_13 ?_
    refine kCT.mono h (fun v M3 h => ?_)
    obtain ⟨r4, rfl, h⟩ := h
    change kWP l (rg_m, g) mX6_duel 16 [(0, .inr (.inr (0, 0))), (1, .inl x1), (2, .inl x2), (3, .inl x3)] [.inl r4] M3 (kqi Q)
    refine kwp_if_ne (pc := 16) 21 dX6_duel_16 (by decide) (fun hc => ?_) (fun hc => ?_)
    · have h := h.1 hc
      refine kwp_aload_n (pc := 21) 0 rfl dX6_duel_21 rfl ?_
      refine kwp_iload_n (pc := 22) 1 rfl dX6_duel_22 rfl ?_
      refine kwp_iload_n (pc := 23) 2 rfl dX6_duel_23 rfl ?_
      refine kwp_callV (pc := 24) (Y := mX6_layDuel) (vs := [.inl x1, .inl x2]) (rest := []) fm_X6_layDuel fi_X6_layDuel ml_X6_168 (by decide) rfl rfl rfl rfl (by simp [kcat]) dX6_duel_24 ?_
      refine kCT.mono h (fun v M5 h => ?_)
      obtain ⟨rfl, h⟩ := h
      change kWP l (rg_m, g) mX6_duel 27 [(0, .inr (.inr (0, 0))), (1, .inl x1), (2, .inl x2), (3, .inl x3)] [] M5 (kqi Q)
      refine kwp_iconst (pc := 27) dX6_duel_27 ic_0 ?_
      refine kwp_istore (pc := 28) (ls2 := [(4, .inl 0), (0, .inr (.inr (0, 0))), (1, .inl x1), (2, .inl x2), (3, .inl x3)]) dX6_duel_28 (by decide) rfl ?_
      refine kwp_bipush (pc := 30) dX6_duel_30 bp_m4 ?_
      refine kwp_istore (pc := 32) (ls2 := [(5, .inl (-4)), (4, .inl 0), (0, .inr (.inr (0, 0))), (1, .inl x1), (2, .inl x2), (3, .inl x3)]) dX6_duel_32 (by decide) rfl ?_
      refine kwp_iconst (pc := 34) dX6_duel_34 ic_0 ?_
      refine kwp_istore (pc := 35) (ls2 := [(6, .inl 0), (5, .inl (-4)), (4, .inl 0), (0, .inr (.inr (0, 0))), (1, .inl x1), (2, .inl x2), (3, .inl x3)]) dX6_duel_35 (by decide) rfl ?_
      refine kwp_sub [3, 6, 2, 1, 0] rfl ?_
      exact h
    · have h := h.2 hc
      refine kwp_sub [] rfl ?_
      exact h

set_option maxRecDepth 20000 in
theorem bX6_duel_19 {l : Launch} {g : va_G × (Nat → ClassId) × (Nat → Nat → Nat)}  (M : kM) (Q : Int32 → kM → Prop)
    (h : Q (-1) M) :
    kWP l (rg_m, g) mX6_duel 19 [] [] M (kqi Q) := by
  refine kwp_iconst (pc := 19) dX6_duel_19 ic_m1 ?_
  exact kwp_iret (pc := 20) rfl dX6_duel_20 ⟨_, rfl, h⟩

set_option maxRecDepth 20000 in
theorem bX6_duel_37 {l : Launch} {g : va_G × (Nat → ClassId) × (Nat → Nat → Nat)} (x3 : Int32) (x4 : Int32) (x5 : Int32) (x6 : Int32) (M : kM) (Q : Int32 → kM → Prop)
    (h : (((M.1 1 0 (21 : Int32).toNatClampNeg) < x6 → ((¬ x3 = 0 → kWP l (rg_m, g) mX6_duel 139 [] [.inl x5] M (kqi Q)) ∧ (x3 = 0 → kWP l (rg_m, g) mX6_duel 139 [] [.inl x4] M (kqi Q)))) ∧ (¬ (M.1 1 0 (21 : Int32).toNatClampNeg) < x6 → kWP l (rg_m, g) mX6_duel 52 [(0, .inr (.inr (0, 0))), (3, .inl x3), (4, .inl x4), (5, .inl x5), (6, .inl x6), (7, .inl 0)] [] M (kqi Q)))) :
    kWP l (rg_m, g) mX6_duel 37 [(0, .inr (.inr (0, 0))), (3, .inl x3), (4, .inl x4), (5, .inl x5), (6, .inl x6)] [] M (kqi Q) := by
  refine kwp_iload (pc := 37) 4 rfl dX6_duel_37 ?_
  refine kwp_aload_n (pc := 39) 0 rfl dX6_duel_39 rfl ?_
  refine kwp_getc (pc := 40) fl_X6_7 rfl rfl dX6_duel_40 ?_
  refine kwp_bipush (pc := 43) dX6_duel_43 bp_21 ?_
  refine kwp_iald (pc := 45) rfl (show vp_in (21 : Int32) 483 by unfold vp_in; decide) dX6_duel_45 ?_
  refine kwp_icmp_gt (pc := 46) 128 dX6_duel_46 (by decide) (fun hc => ?_) (fun hc => ?_)
  · have h := h.1 hc
    refine kwp_iload_n (pc := 128) 1 rfl dX6_duel_128 rfl ?_
    refine kwp_if_ne (pc := 129) 137 dX6_duel_129 (by decide) (fun hc => ?_) (fun hc => ?_)
    · have h := h.1 hc
      refine kwp_iload (pc := 137) 3 rfl dX6_duel_137 ?_
      refine kwp_sub [] rfl ?_
      exact h
    · have h := h.2 hc
      refine kwp_iload (pc := 132) 2 rfl dX6_duel_132 ?_
      refine kwp_goto (pc := 134) 139 dX6_duel_134 (by decide) ?_
      refine kwp_sub [] rfl ?_
      exact h
  · have h := h.2 hc
    refine kwp_iconst (pc := 49) dX6_duel_49 ic_0 ?_
    refine kwp_istore (pc := 50) (ls2 := [(7, .inl 0), (0, .inr (.inr (0, 0))), (3, .inl x3), (4, .inl x4), (5, .inl x5), (6, .inl x6)]) dX6_duel_50 (by decide) rfl ?_
    refine kwp_sub [1, 2, 3, 4, 5, 0] rfl ?_
    exact h

set_option maxRecDepth 20000 in
theorem bX6_duel_52 {l : Launch} {g : va_G × (Nat → ClassId) × (Nat → Nat → Nat)} (x3 : Int32) (x4 : Int32) (x5 : Int32) (x6 : Int32) (x7 : Int32) (M : kM) (Q : Int32 → kM → Prop)
    (h : (((M.1 1 0 (21 : Int32).toNatClampNeg) < x7 → ∀ z1 : Int32, z1 = x6 + 1 → kWP l (rg_m, g) mX6_duel 37 [(0, .inr (.inr (0, 0))), (3, .inl x3), (4, .inl x4), (5, .inl x5), (6, .inl z1)] [] M (kqi Q)) ∧ (¬ (M.1 1 0 (21 : Int32).toNatClampNeg) < x7 → kCT l (rg_m, g) mX6_rests [.inr (.inr (0, 0)), .inl x6, .inl x7] M (kqi (fun r3 M2 => ((r3 = 0 → kWP l (rg_m, g) mX6_duel 97 [(0, .inr (.inr (0, 0))), (3, .inl x3), (4, .inl x4), (5, .inl x5), (6, .inl x6), (7, .inl x7), (8, .inl r3)] [] M2 (kqi Q)) ∧ (¬ r3 = 0 → ((¬ x5 = (-4) → kWP l (rg_m, g) mX6_duel 97 [(0, .inr (.inr (0, 0))), (3, .inl x3), (4, .inl x4), (5, .inl x5), (6, .inl x6), (7, .inl x7), (8, .inl r3)] [] M2 (kqi Q)) ∧ (x5 = (-4) → kWP l (rg_m, g) mX6_duel 99 [(0, .inr (.inr (0, 0))), (3, .inl x3), (4, .inl x4), (6, .inl x6), (7, .inl x7), (8, .inl r3)] [.inl (((100 : Int32) * x6) + x7)] M2 (kqi Q)))))))))) :
    kWP l (rg_m, g) mX6_duel 52 [(0, .inr (.inr (0, 0))), (3, .inl x3), (4, .inl x4), (5, .inl x5), (6, .inl x6), (7, .inl x7)] [] M (kqi Q) := by
  refine kwp_iload (pc := 52) 5 rfl dX6_duel_52 ?_
  refine kwp_aload_n (pc := 54) 0 rfl dX6_duel_54 rfl ?_
  refine kwp_getc (pc := 55) fl_X6_7 rfl rfl dX6_duel_55 ?_
  refine kwp_bipush (pc := 58) dX6_duel_58 bp_21 ?_
  refine kwp_iald (pc := 60) rfl (show vp_in (21 : Int32) 483 by unfold vp_in; decide) dX6_duel_60 ?_
  refine kwp_icmp_gt (pc := 61) 122 dX6_duel_61 (by decide) (fun hc => ?_) (fun hc => ?_)
  · have h := h.1 hc
    obtain ⟨z1, ez1⟩ : ∃ z : Int32, z = x6 + 1 := ⟨_, rfl⟩
    have h := h z1 ez1
    refine kwp_iinc (pc := 122) (v := z1) (ls2 := [(6, .inl z1), (0, .inr (.inr (0, 0))), (3, .inl x3), (4, .inl x4), (5, .inl x5), (7, .inl x7)]) 4 rfl dX6_duel_122 (by rw [ez1, ic_1]) (by decide) rfl ?_
    refine kwp_goto (pc := 125) 37 dX6_duel_125 (by decide) ?_
    refine kwp_sub [1, 2, 3, 4, 0] rfl ?_
    exact h
  · have h := h.2 hc
    refine kwp_aload_n (pc := 64) 0 rfl dX6_duel_64 rfl ?_
    refine kwp_iload (pc := 65) 4 rfl dX6_duel_65 ?_
    refine kwp_iload (pc := 67) 5 rfl dX6_duel_67 ?_
    refine kwp_callV (pc := 69) (Y := mX6_rests) (vs := [.inl x6, .inl x7]) (rest := []) fm_X6_rests fi_X6_rests ml_X6_171 (by decide) rfl rfl rfl rfl (by simp [kcat]) dX6_duel_69 ?_
    refine kCT.mono h (fun v M2 h => ?_)
    obtain ⟨r3, rfl, h⟩ := h
    change kWP l (rg_m, g) mX6_duel 72 [(0, .inr (.inr (0, 0))), (3, .inl x3), (4, .inl x4), (5, .inl x5), (6, .inl x6), (7, .inl x7)] [.inl r3] M2 (kqi Q)
    refine kwp_istore (pc := 72) (ls2 := [(8, .inl r3), (0, .inr (.inr (0, 0))), (3, .inl x3), (4, .inl x4), (5, .inl x5), (6, .inl x6), (7, .inl x7)]) dX6_duel_72 (by decide) rfl ?_
    refine kwp_iload (pc := 74) 0 rfl dX6_duel_74 ?_
    refine kwp_if_eq (pc := 76) 97 dX6_duel_76 (by decide) (fun hc => ?_) (fun hc => ?_)
    · have h := h.1 hc
      refine kwp_sub [1, 2, 3, 4, 5, 6, 0] rfl ?_
      exact h
    · have h := h.2 hc
      refine kwp_iload (pc := 79) 4 rfl dX6_duel_79 ?_
      refine kwp_bipush (pc := 81) dX6_duel_81 bp_m4 ?_
      refine kwp_icmp_ne (pc := 83) 97 dX6_duel_83 (by decide) (fun hc => ?_) (fun hc => ?_)
      · have h := h.1 hc
        refine kwp_sub [1, 2, 3, 4, 5, 6, 0] rfl ?_
        exact h
      · have h := h.2 hc
        refine kwp_bipush (pc := 86) dX6_duel_86 bp_100 ?_
        refine kwp_iload (pc := 88) 5 rfl dX6_duel_88 ?_
        refine kwp_imul (pc := 90) dX6_duel_90 ?_
        refine kwp_iload (pc := 91) 6 rfl dX6_duel_91 ?_
        refine kwp_iadd (pc := 93) dX6_duel_93 ?_
        refine kwp_goto (pc := 94) 99 dX6_duel_94 (by decide) ?_
        refine kwp_sub [1, 2, 3, 5, 6, 0] rfl ?_
        exact h

set_option maxRecDepth 20000 in
theorem bX6_duel_97 {l : Launch} {g : va_G × (Nat → ClassId) × (Nat → Nat → Nat)} (x3 : Int32) (x4 : Int32) (x5 : Int32) (x6 : Int32) (x7 : Int32) (x8 : Int32) (M : kM) (Q : Int32 → kM → Prop)
    (h : kWP l (rg_m, g) mX6_duel 99 [(0, .inr (.inr (0, 0))), (3, .inl x3), (4, .inl x4), (6, .inl x6), (7, .inl x7), (8, .inl x8)] [.inl x5] M (kqi Q)) :
    kWP l (rg_m, g) mX6_duel 97 [(0, .inr (.inr (0, 0))), (3, .inl x3), (4, .inl x4), (5, .inl x5), (6, .inl x6), (7, .inl x7), (8, .inl x8)] [] M (kqi Q) := by
  refine kwp_iload (pc := 97) 3 rfl dX6_duel_97 ?_
  refine kwp_sub [0, 1, 2, 4, 5, 6] rfl ?_
  exact h

set_option maxRecDepth 20000 in
theorem bX6_duel_99 {l : Launch} {g : va_G × (Nat → ClassId) × (Nat → Nat → Nat)} (x3 : Int32) (x4 : Int32) (x6 : Int32) (x7 : Int32) (x8 : Int32) (s0 : Int32) (M : kM) (Q : Int32 → kM → Prop)
    (h : ((x8 = 0 → kWP l (rg_m, g) mX6_duel 113 [(0, .inr (.inr (0, 0))), (3, .inl x3), (5, .inl s0), (6, .inl x6), (7, .inl x7)] [.inl 0, .inl x4] M (kqi Q)) ∧ (¬ x8 = 0 → kWP l (rg_m, g) mX6_duel 113 [(0, .inr (.inr (0, 0))), (3, .inl x3), (5, .inl s0), (6, .inl x6), (7, .inl x7)] [.inl 1, .inl x4] M (kqi Q)))) :
    kWP l (rg_m, g) mX6_duel 99 [(0, .inr (.inr (0, 0))), (3, .inl x3), (4, .inl x4), (6, .inl x6), (7, .inl x7), (8, .inl x8)] [.inl s0] M (kqi Q) := by
  refine kwp_istore (pc := 99) (ls2 := [(5, .inl s0), (0, .inr (.inr (0, 0))), (3, .inl x3), (4, .inl x4), (6, .inl x6), (7, .inl x7), (8, .inl x8)]) dX6_duel_99 (by decide) rfl ?_
  refine kwp_iload (pc := 101) 3 rfl dX6_duel_101 ?_
  refine kwp_iload (pc := 103) 6 rfl dX6_duel_103 ?_
  refine kwp_if_eq (pc := 105) 112 dX6_duel_105 (by decide) (fun hc => ?_) (fun hc => ?_)
  · have h := h.1 hc
    refine kwp_iconst (pc := 112) dX6_duel_112 ic_0 ?_
    refine kwp_sub [1, 2, 0, 4, 5] rfl ?_
    exact h
  · have h := h.2 hc
    refine kwp_iconst (pc := 108) dX6_duel_108 ic_1 ?_
    refine kwp_goto (pc := 109) 113 dX6_duel_109 (by decide) ?_
    refine kwp_sub [1, 2, 0, 4, 5] rfl ?_
    exact h

set_option maxRecDepth 20000 in
theorem bX6_duel_113 {l : Launch} {g : va_G × (Nat → ClassId) × (Nat → Nat → Nat)} (x3 : Int32) (x5 : Int32) (x6 : Int32) (x7 : Int32) (s0 : Int32) (s1 : Int32) (M : kM) (Q : Int32 → kM → Prop)
    (h : ∀ z1 : Int32, z1 = s1 + s0 → ∀ z2 : Int32, z2 = x7 + 1 → kWP l (rg_m, g) mX6_duel 52 [(0, .inr (.inr (0, 0))), (3, .inl x3), (4, .inl z1), (5, .inl x5), (6, .inl x6), (7, .inl z2)] [] M (kqi Q)) :
    kWP l (rg_m, g) mX6_duel 113 [(0, .inr (.inr (0, 0))), (3, .inl x3), (5, .inl x5), (6, .inl x6), (7, .inl x7)] [.inl s0, .inl s1] M (kqi Q) := by
  refine kwp_iadd (pc := 113) dX6_duel_113 ?_
  obtain ⟨z1, ez1⟩ : ∃ z : Int32, z = s1 + s0 := ⟨_, rfl⟩
  rw [← ez1]
  have h := h z1 ez1
  refine kwp_istore (pc := 114) (ls2 := [(4, .inl z1), (0, .inr (.inr (0, 0))), (3, .inl x3), (5, .inl x5), (6, .inl x6), (7, .inl x7)]) dX6_duel_114 (by decide) rfl ?_
  obtain ⟨z2, ez2⟩ : ∃ z : Int32, z = x7 + 1 := ⟨_, rfl⟩
  have h := h z2 ez2
  refine kwp_iinc (pc := 116) (v := z2) (ls2 := [(7, .inl z2), (4, .inl z1), (0, .inr (.inr (0, 0))), (3, .inl x3), (5, .inl x5), (6, .inl x6)]) 5 rfl dX6_duel_116 (by rw [ez2, ic_1]) (by decide) rfl ?_
  refine kwp_goto (pc := 119) 52 dX6_duel_119 (by decide) ?_
  refine kwp_sub [2, 3, 1, 4, 5, 0] rfl ?_
  exact h

set_option maxRecDepth 20000 in
theorem bX6_duel_139 {l : Launch} {g : va_G × (Nat → ClassId) × (Nat → Nat → Nat)} (s0 : Int32) (M : kM) (Q : Int32 → kM → Prop)
    (h : Q s0 M) :
    kWP l (rg_m, g) mX6_duel 139 [] [.inl s0] M (kqi Q) := by
  exact kwp_iret (pc := 139) rfl dX6_duel_139 ⟨_, rfl, h⟩

set_option maxRecDepth 20000 in
theorem bX6_luck_0 {l : Launch} {g : va_G × (Nat → ClassId) × (Nat → Nat → Nat)} (x1 : Int32) (x2 : Int32) (x3 : Int32) (M : kM) (Q : Int32 → kM → Prop)
    (h : kCT l (rg_m, g) mX6_isRider [.inr (.inr (0, 0)), .inl x1] M (kqi (fun r2 M1 => ((r2 = 0 → kWP l (rg_m, g) mX6_luck 30 [] [] M1 (kqi Q)) ∧ (¬ r2 = 0 → kCT l (rg_m, g) mX6_in [.inr (.inl (x2.toInt64)), .inr (.inl 0), .inr (.inl 10)] M1 (kqi (fun r4 M3 => ((r4 = 0 → kWP l (rg_m, g) mX6_luck 30 [] [] M3 (kqi Q)) ∧ (¬ r4 = 0 → kCT l (rg_m, g) mX6_in [.inr (.inl (x3.toInt64)), .inr (.inl 0), .inr (.inl 1)] M3 (kqi (fun r6 M5 => ((¬ r6 = 0 → vp_in ((8 : Int32) + x1) 483 ∧ (∀ z7 : Int32, z7 = M5.1 1 0 ((8 : Int32) + x1).toNatClampNeg → ∀ z8 : Int32, z8 = (M5.1 1 0 (21 : Int32).toNatClampNeg) - z7 → kWP l (rg_m, g) mX6_luck 64 [(0, .inr (.inr (0, 0))), (1, .inl x1), (2, .inl x2), (3, .inl x3), (4, .inl z7), (5, .inl z8), (6, .inl 0), (7, .inl 1), (8, .inl 0)] [] M5 (kqi Q))) ∧ (r6 = 0 → kWP l (rg_m, g) mX6_luck 30 [] [] M5 (kqi Q)))))))))))))) :
    kWP l (rg_m, g) mX6_luck 0 [(0, .inr (.inr (0, 0))), (1, .inl x1), (2, .inl x2), (3, .inl x3)] [] M (kqi Q) := by
  refine kwp_aload_n (pc := 0) 0 rfl dX6_luck_0 rfl ?_
  refine kwp_iload_n (pc := 1) 1 rfl dX6_luck_1 rfl ?_
  refine kwp_callV (pc := 2) (Y := mX6_isRider) (vs := [.inl x1]) (rest := []) fm_X6_isRider fi_X6_isRider ml_X6_42 (by decide) rfl rfl rfl rfl (by simp [kcat]) dX6_luck_2 ?_
  refine kCT.mono h (fun v M1 h => ?_)
  obtain ⟨r2, rfl, h⟩ := h
  change kWP l (rg_m, g) mX6_luck 5 [(0, .inr (.inr (0, 0))), (1, .inl x1), (2, .inl x2), (3, .inl x3)] [.inl r2] M1 (kqi Q)
  refine kwp_if_eq (pc := 5) 30 dX6_luck_5 (by decide) (fun hc => ?_) (fun hc => ?_)
  · have h := h.1 hc
    refine kwp_sub [] rfl ?_
    exact h
  · have h := h.2 hc
    refine kwp_iload_n (pc := 8) 2 rfl dX6_luck_8 rfl ?_
    refine kwp_i2l (pc := 9) dX6_luck_9 ?_
    refine kwp_lconst (pc := 10) (v := 0) dX6_luck_10 (by decide) ?_
    refine kwp_ldc2 (pc := 11) cn_X6_174 dX6_luck_11 ?_
    refine kwp_callS (pc := 14) (Y := mX6_in) (vs := [.inr (.inl (x2.toInt64)), .inr (.inl 0), .inr (.inl 10)]) (rest := []) fm_X6_in fs_X6_in ml_X6_38 (by decide) rfl rfl (by simp [kcat]) dX6_luck_14 ?_
    refine kCT.mono h (fun v M3 h => ?_)
    obtain ⟨r4, rfl, h⟩ := h
    change kWP l (rg_m, g) mX6_luck 17 [(0, .inr (.inr (0, 0))), (1, .inl x1), (2, .inl x2), (3, .inl x3)] [.inl r4] M3 (kqi Q)
    refine kwp_if_eq (pc := 17) 30 dX6_luck_17 (by decide) (fun hc => ?_) (fun hc => ?_)
    · have h := h.1 hc
      refine kwp_sub [] rfl ?_
      exact h
    · have h := h.2 hc
      refine kwp_iload_n (pc := 20) 3 rfl dX6_luck_20 rfl ?_
      refine kwp_i2l (pc := 21) dX6_luck_21 ?_
      refine kwp_lconst (pc := 22) (v := 0) dX6_luck_22 (by decide) ?_
      refine kwp_lconst (pc := 23) (v := 1) dX6_luck_23 (by decide) ?_
      refine kwp_callS (pc := 24) (Y := mX6_in) (vs := [.inr (.inl (x3.toInt64)), .inr (.inl 0), .inr (.inl 1)]) (rest := []) fm_X6_in fs_X6_in ml_X6_38 (by decide) rfl rfl (by simp [kcat]) dX6_luck_24 ?_
      refine kCT.mono h (fun v M5 h => ?_)
      obtain ⟨r6, rfl, h⟩ := h
      change kWP l (rg_m, g) mX6_luck 27 [(0, .inr (.inr (0, 0))), (1, .inl x1), (2, .inl x2), (3, .inl x3)] [.inl r6] M5 (kqi Q)
      refine kwp_if_ne (pc := 27) 32 dX6_luck_27 (by decide) (fun hc => ?_) (fun hc => ?_)
      · have h := h.1 hc
        refine kwp_aload_n (pc := 32) 0 rfl dX6_luck_32 rfl ?_
        refine kwp_getc (pc := 33) fl_X6_7 rfl rfl dX6_luck_33 ?_
        refine kwp_bipush (pc := 36) dX6_luck_36 bp_8 ?_
        refine kwp_iload_n (pc := 38) 1 rfl dX6_luck_38 rfl ?_
        refine kwp_iadd (pc := 39) dX6_luck_39 ?_
        obtain ⟨hin, h⟩ := h
        refine kwp_iald (pc := 40) rfl hin dX6_luck_40 ?_
        obtain ⟨z7, ez7⟩ : ∃ z : Int32, z = M5.1 1 0 ((8 : Int32) + x1).toNatClampNeg := ⟨_, rfl⟩
        rw [← ez7]
        have h := h z7 ez7
        refine kwp_istore (pc := 41) (ls2 := [(4, .inl z7), (0, .inr (.inr (0, 0))), (1, .inl x1), (2, .inl x2), (3, .inl x3)]) dX6_luck_41 (by decide) rfl ?_
        refine kwp_aload_n (pc := 43) 1 rfl dX6_luck_43 rfl ?_
        refine kwp_getc (pc := 44) fl_X6_7 rfl rfl dX6_luck_44 ?_
        refine kwp_bipush (pc := 47) dX6_luck_47 bp_21 ?_
        refine kwp_iald (pc := 49) rfl (show vp_in (21 : Int32) 483 by unfold vp_in; decide) dX6_luck_49 ?_
        refine kwp_iload (pc := 50) 0 rfl dX6_luck_50 ?_
        refine kwp_isub (pc := 52) dX6_luck_52 ?_
        obtain ⟨z8, ez8⟩ : ∃ z : Int32, z = (M5.1 1 0 (21 : Int32).toNatClampNeg) - z7 := ⟨_, rfl⟩
        rw [← ez8]
        have h := h z8 ez8
        refine kwp_istore (pc := 53) (ls2 := [(5, .inl z8), (4, .inl z7), (0, .inr (.inr (0, 0))), (1, .inl x1), (2, .inl x2), (3, .inl x3)]) dX6_luck_53 (by decide) rfl ?_
        refine kwp_iconst (pc := 55) dX6_luck_55 ic_0 ?_
        refine kwp_istore (pc := 56) (ls2 := [(6, .inl 0), (5, .inl z8), (4, .inl z7), (0, .inr (.inr (0, 0))), (1, .inl x1), (2, .inl x2), (3, .inl x3)]) dX6_luck_56 (by decide) rfl ?_
        refine kwp_iconst (pc := 58) dX6_luck_58 ic_1 ?_
        refine kwp_istore (pc := 59) (ls2 := [(7, .inl 1), (6, .inl 0), (5, .inl z8), (4, .inl z7), (0, .inr (.inr (0, 0))), (1, .inl x1), (2, .inl x2), (3, .inl x3)]) dX6_luck_59 (by decide) rfl ?_
        refine kwp_iconst (pc := 61) dX6_luck_61 ic_0 ?_
        refine kwp_istore (pc := 62) (ls2 := [(8, .inl 0), (7, .inl 1), (6, .inl 0), (5, .inl z8), (4, .inl z7), (0, .inr (.inr (0, 0))), (1, .inl x1), (2, .inl x2), (3, .inl x3)]) dX6_luck_62 (by decide) rfl ?_
        refine kwp_sub [5, 6, 7, 8, 4, 3, 2, 1, 0] rfl ?_
        exact h
      · have h := h.2 hc
        refine kwp_sub [] rfl ?_
        exact h

set_option maxRecDepth 20000 in
theorem bX6_luck_30 {l : Launch} {g : va_G × (Nat → ClassId) × (Nat → Nat → Nat)}  (M : kM) (Q : Int32 → kM → Prop)
    (h : Q (-1) M) :
    kWP l (rg_m, g) mX6_luck 30 [] [] M (kqi Q) := by
  refine kwp_iconst (pc := 30) dX6_luck_30 ic_m1 ?_
  exact kwp_iret (pc := 31) rfl dX6_luck_31 ⟨_, rfl, h⟩

set_option maxRecDepth 20000 in
theorem bX6_luck_64 {l : Launch} {g : va_G × (Nat → ClassId) × (Nat → Nat → Nat)} (x1 : Int32) (x2 : Int32) (x3 : Int32) (x4 : Int32) (x5 : Int32) (x6 : Int32) (x7 : Int32) (x8 : Int32) (M : kM) (Q : Int32 → kM → Prop)
    (h : ((x5 ≤ x8 → kWP l (rg_m, g) mX6_luck 87 [(0, .inr (.inr (0, 0))), (1, .inl x1), (2, .inl x2), (3, .inl x3), (4, .inl x4), (5, .inl x5), (6, .inl x6), (7, .inl x7), (8, .inl 0)] [] M (kqi Q)) ∧ (¬ x5 ≤ x8 → ∀ z1 : Int32, z1 = x7 * 10 → ∀ z2 : Int32, z2 = x8 + 1 → kWP l (rg_m, g) mX6_luck 64 [(0, .inr (.inr (0, 0))), (1, .inl x1), (2, .inl x2), (3, .inl x3), (4, .inl x4), (5, .inl x5), (6, .inl x6), (7, .inl z1), (8, .inl z2)] [] M (kqi Q)))) :
    kWP l (rg_m, g) mX6_luck 64 [(0, .inr (.inr (0, 0))), (1, .inl x1), (2, .inl x2), (3, .inl x3), (4, .inl x4), (5, .inl x5), (6, .inl x6), (7, .inl x7), (8, .inl x8)] [] M (kqi Q) := by
  refine kwp_iload (pc := 64) 8 rfl dX6_luck_64 ?_
  refine kwp_iload (pc := 66) 5 rfl dX6_luck_66 ?_
  refine kwp_icmp_ge (pc := 68) 84 dX6_luck_68 (by decide) (fun hc => ?_) (fun hc => ?_)
  · have h := h.1 hc
    refine kwp_iconst (pc := 84) dX6_luck_84 ic_0 ?_
    refine kwp_istore (pc := 85) (ls2 := [(8, .inl 0), (0, .inr (.inr (0, 0))), (1, .inl x1), (2, .inl x2), (3, .inl x3), (4, .inl x4), (5, .inl x5), (6, .inl x6), (7, .inl x7)]) dX6_luck_85 (by decide) rfl ?_
    refine kwp_sub [1, 2, 3, 4, 5, 6, 7, 8, 0] rfl ?_
    exact h
  · have h := h.2 hc
    refine kwp_iload (pc := 71) 7 rfl dX6_luck_71 ?_
    refine kwp_bipush (pc := 73) dX6_luck_73 bp_10 ?_
    refine kwp_imul (pc := 75) dX6_luck_75 ?_
    obtain ⟨z1, ez1⟩ : ∃ z : Int32, z = x7 * 10 := ⟨_, rfl⟩
    rw [← ez1]
    have h := h z1 ez1
    refine kwp_istore (pc := 76) (ls2 := [(7, .inl z1), (0, .inr (.inr (0, 0))), (1, .inl x1), (2, .inl x2), (3, .inl x3), (4, .inl x4), (5, .inl x5), (6, .inl x6), (8, .inl x8)]) dX6_luck_76 (by decide) rfl ?_
    obtain ⟨z2, ez2⟩ : ∃ z : Int32, z = x8 + 1 := ⟨_, rfl⟩
    have h := h z2 ez2
    refine kwp_iinc (pc := 78) (v := z2) (ls2 := [(8, .inl z2), (7, .inl z1), (0, .inr (.inr (0, 0))), (1, .inl x1), (2, .inl x2), (3, .inl x3), (4, .inl x4), (5, .inl x5), (6, .inl x6)]) 8 rfl dX6_luck_78 (by rw [ez2, ic_1]) (by decide) rfl ?_
    refine kwp_goto (pc := 81) 64 dX6_luck_81 (by decide) ?_
    refine kwp_sub [2, 3, 4, 5, 6, 7, 8, 1, 0] rfl ?_
    exact h

set_option maxRecDepth 20000 in
theorem bX6_luck_87 {l : Launch} {g : va_G × (Nat → ClassId) × (Nat → Nat → Nat)} (x1 : Int32) (x2 : Int32) (x3 : Int32) (x4 : Int32) (x5 : Int32) (x6 : Int32) (x7 : Int32) (x8 : Int32) (M : kM) (Q : Int32 → kM → Prop)
    (h : ((((1 : Int32) <<< (x5 &&& 31)) ≤ x8 → kWP l (rg_m, g) mX6_luck 185 [(3, .inl x3), (6, .inl x6), (7, .inl x7), (8, .inl x6), (9, .inl x7)] [] M (kqi Q)) ∧ (¬ ((1 : Int32) <<< (x5 &&& 31)) ≤ x8 → kWP l (rg_m, g) mX6_luck 102 [(0, .inr (.inr (0, 0))), (1, .inl x1), (2, .inl x2), (3, .inl x3), (4, .inl x4), (5, .inl x5), (6, .inl x6), (7, .inl x7), (8, .inl x8), (9, .inl 1), (10, .inl 0)] [] M (kqi Q)))) :
    kWP l (rg_m, g) mX6_luck 87 [(0, .inr (.inr (0, 0))), (1, .inl x1), (2, .inl x2), (3, .inl x3), (4, .inl x4), (5, .inl x5), (6, .inl x6), (7, .inl x7), (8, .inl x8)] [] M (kqi Q) := by
  refine kwp_iload (pc := 87) 8 rfl dX6_luck_87 ?_
  refine kwp_iconst (pc := 89) dX6_luck_89 ic_1 ?_
  refine kwp_iload (pc := 90) 5 rfl dX6_luck_90 ?_
  refine kwp_ishl (pc := 92) dX6_luck_92 ?_
  refine kwp_icmp_ge (pc := 93) 177 dX6_luck_93 (by decide) (fun hc => ?_) (fun hc => ?_)
  · have h := h.1 hc
    refine kwp_iload (pc := 177) 6 rfl dX6_luck_177 ?_
    refine kwp_istore (pc := 179) (ls2 := [(8, .inl x6), (0, .inr (.inr (0, 0))), (1, .inl x1), (2, .inl x2), (3, .inl x3), (4, .inl x4), (5, .inl x5), (6, .inl x6), (7, .inl x7)]) dX6_luck_179 (by decide) rfl ?_
    refine kwp_iload (pc := 181) 8 rfl dX6_luck_181 ?_
    refine kwp_istore (pc := 183) (ls2 := [(9, .inl x7), (8, .inl x6), (0, .inr (.inr (0, 0))), (1, .inl x1), (2, .inl x2), (3, .inl x3), (4, .inl x4), (5, .inl x5), (6, .inl x6), (7, .inl x7)]) dX6_luck_183 (by decide) rfl ?_
    refine kwp_sub [5, 8, 9, 1, 0] rfl ?_
    exact h
  · have h := h.2 hc
    refine kwp_iconst (pc := 96) dX6_luck_96 ic_1 ?_
    refine kwp_istore (pc := 97) (ls2 := [(9, .inl 1), (0, .inr (.inr (0, 0))), (1, .inl x1), (2, .inl x2), (3, .inl x3), (4, .inl x4), (5, .inl x5), (6, .inl x6), (7, .inl x7), (8, .inl x8)]) dX6_luck_97 (by decide) rfl ?_
    refine kwp_iconst (pc := 99) dX6_luck_99 ic_0 ?_
    refine kwp_istore (pc := 100) (ls2 := [(10, .inl 0), (9, .inl 1), (0, .inr (.inr (0, 0))), (1, .inl x1), (2, .inl x2), (3, .inl x3), (4, .inl x4), (5, .inl x5), (6, .inl x6), (7, .inl x7), (8, .inl x8)]) dX6_luck_100 (by decide) rfl ?_
    refine kwp_sub [2, 3, 4, 5, 6, 7, 8, 9, 10, 1, 0] rfl ?_
    exact h

set_option maxRecDepth 20000 in
theorem bX6_luck_102 {l : Launch} {g : va_G × (Nat → ClassId) × (Nat → Nat → Nat)} (x1 : Int32) (x2 : Int32) (x3 : Int32) (x4 : Int32) (x5 : Int32) (x6 : Int32) (x7 : Int32) (x8 : Int32) (x9 : Int32) (x10 : Int32) (M : kM) (Q : Int32 → kM → Prop)
    (h : ((x5 ≤ x10 → kCT l (rg_m, g) mX6_tries [.inr (.inr (0, 0))] M (kqv (fun M1 => kCT l (rg_m, g) mX6_ridesOn [.inr (.inr (0, 0)), .inl x1, .inl (x8 <<< (x4 &&& 31))] M1 (kqv (fun M2 => kCT l (rg_m, g) mX6_firstTried [.inr (.inr (0, 0))] M2 (kqi (fun r4 M3 => ((¬ r4 = x1 → kWP l (rg_m, g) mX6_luck 168 [(0, .inr (.inr (0, 0))), (1, .inl x1), (2, .inl x2), (3, .inl x3), (4, .inl x4), (5, .inl x5), (7, .inl x7), (8, .inl x8)] [.inl 0, .inl x6] M3 (kqi Q)) ∧ (r4 = x1 → kWP l (rg_m, g) mX6_luck 168 [(0, .inr (.inr (0, 0))), (1, .inl x1), (2, .inl x2), (3, .inl x3), (4, .inl x4), (5, .inl x5), (7, .inl x7), (8, .inl x8)] [.inl x9, .inl x6] M3 (kqi Q)))))))))) ∧ (¬ x5 ≤ x10 → kCT l (rg_m, g) mX6_has [.inl x8, .inl x10] M (kqi (fun r6 M5 => ((r6 = 0 → kWP l (rg_m, g) mX6_luck 129 [(0, .inr (.inr (0, 0))), (1, .inl x1), (2, .inl x2), (3, .inl x3), (4, .inl x4), (5, .inl x5), (6, .inl x6), (7, .inl x7), (8, .inl x8), (10, .inl x10)] [.inl ((10 : Int32) - x2), .inl x9] M5 (kqi Q)) ∧ (¬ r6 = 0 → kWP l (rg_m, g) mX6_luck 129 [(0, .inr (.inr (0, 0))), (1, .inl x1), (2, .inl x2), (3, .inl x3), (4, .inl x4), (5, .inl x5), (6, .inl x6), (7, .inl x7), (8, .inl x8), (10, .inl x10)] [.inl x2, .inl x9] M5 (kqi Q)))))))) :
    kWP l (rg_m, g) mX6_luck 102 [(0, .inr (.inr (0, 0))), (1, .inl x1), (2, .inl x2), (3, .inl x3), (4, .inl x4), (5, .inl x5), (6, .inl x6), (7, .inl x7), (8, .inl x8), (9, .inl x9), (10, .inl x10)] [] M (kqi Q) := by
  refine kwp_iload (pc := 102) 10 rfl dX6_luck_102 ?_
  refine kwp_iload (pc := 104) 5 rfl dX6_luck_104 ?_
  refine kwp_icmp_ge (pc := 106) 138 dX6_luck_106 (by decide) (fun hc => ?_) (fun hc => ?_)
  · have h := h.1 hc
    refine kwp_aload_n (pc := 138) 0 rfl dX6_luck_138 rfl ?_
    refine kwp_callV (pc := 139) (Y := mX6_tries) (vs := []) (rest := []) fm_X6_tries fi_X6_tries ml_X6_150 (by decide) rfl rfl rfl rfl (by simp [kcat]) dX6_luck_139 ?_
    refine kCT.mono h (fun v M1 h => ?_)
    obtain ⟨rfl, h⟩ := h
    change kWP l (rg_m, g) mX6_luck 142 [(0, .inr (.inr (0, 0))), (1, .inl x1), (2, .inl x2), (3, .inl x3), (4, .inl x4), (5, .inl x5), (6, .inl x6), (7, .inl x7), (8, .inl x8), (9, .inl x9), (10, .inl x10)] [] M1 (kqi Q)
    refine kwp_aload_n (pc := 142) 0 rfl dX6_luck_142 rfl ?_
    refine kwp_iload_n (pc := 143) 1 rfl dX6_luck_143 rfl ?_
    refine kwp_iload (pc := 144) 8 rfl dX6_luck_144 ?_
    refine kwp_iload (pc := 146) 4 rfl dX6_luck_146 ?_
    refine kwp_ishl (pc := 148) dX6_luck_148 ?_
    refine kwp_callV (pc := 149) (Y := mX6_ridesOn) (vs := [.inl x1, .inl (x8 <<< (x4 &&& 31))]) (rest := []) fm_X6_ridesOn fi_X6_ridesOn ml_X6_153 (by decide) rfl rfl rfl rfl (by simp [kcat]) dX6_luck_149 ?_
    refine kCT.mono h (fun v M2 h => ?_)
    obtain ⟨rfl, h⟩ := h
    change kWP l (rg_m, g) mX6_luck 152 [(0, .inr (.inr (0, 0))), (1, .inl x1), (2, .inl x2), (3, .inl x3), (4, .inl x4), (5, .inl x5), (6, .inl x6), (7, .inl x7), (8, .inl x8), (9, .inl x9), (10, .inl x10)] [] M2 (kqi Q)
    refine kwp_iload (pc := 152) 6 rfl dX6_luck_152 ?_
    refine kwp_aload_n (pc := 154) 0 rfl dX6_luck_154 rfl ?_
    refine kwp_callV (pc := 155) (Y := mX6_firstTried) (vs := []) (rest := [.inl x6]) fm_X6_firstTried fi_X6_firstTried ml_X6_159 (by decide) rfl rfl rfl rfl (by simp [kcat]) dX6_luck_155 ?_
    refine kCT.mono h (fun v M3 h => ?_)
    obtain ⟨r4, rfl, h⟩ := h
    change kWP l (rg_m, g) mX6_luck 158 [(0, .inr (.inr (0, 0))), (1, .inl x1), (2, .inl x2), (3, .inl x3), (4, .inl x4), (5, .inl x5), (6, .inl x6), (7, .inl x7), (8, .inl x8), (9, .inl x9), (10, .inl x10)] [.inl r4, .inl x6] M3 (kqi Q)
    refine kwp_iload_n (pc := 158) 1 rfl dX6_luck_158 rfl ?_
    refine kwp_icmp_ne (pc := 159) 167 dX6_luck_159 (by decide) (fun hc => ?_) (fun hc => ?_)
    · have h := h.1 hc
      refine kwp_iconst (pc := 167) dX6_luck_167 ic_0 ?_
      refine kwp_sub [0, 1, 2, 3, 4, 5, 7, 8] rfl ?_
      exact h
    · have h := h.2 hc
      refine kwp_iload (pc := 162) 9 rfl dX6_luck_162 ?_
      refine kwp_goto (pc := 164) 168 dX6_luck_164 (by decide) ?_
      refine kwp_sub [0, 1, 2, 3, 4, 5, 7, 8] rfl ?_
      exact h
  · have h := h.2 hc
    refine kwp_iload (pc := 109) 9 rfl dX6_luck_109 ?_
    refine kwp_iload (pc := 111) 8 rfl dX6_luck_111 ?_
    refine kwp_iload (pc := 113) 10 rfl dX6_luck_113 ?_
    refine kwp_callS (pc := 115) (Y := mX6_has) (vs := [.inl x8, .inl x10]) (rest := [.inl x9]) fm_X6_has fs_X6_has ml_X6_122 (by decide) rfl rfl (by simp [kcat]) dX6_luck_115 ?_
    refine kCT.mono h (fun v M5 h => ?_)
    obtain ⟨r6, rfl, h⟩ := h
    change kWP l (rg_m, g) mX6_luck 118 [(0, .inr (.inr (0, 0))), (1, .inl x1), (2, .inl x2), (3, .inl x3), (4, .inl x4), (5, .inl x5), (6, .inl x6), (7, .inl x7), (8, .inl x8), (9, .inl x9), (10, .inl x10)] [.inl r6, .inl x9] M5 (kqi Q)
    refine kwp_if_eq (pc := 118) 125 dX6_luck_118 (by decide) (fun hc => ?_) (fun hc => ?_)
    · have h := h.1 hc
      refine kwp_bipush (pc := 125) dX6_luck_125 bp_10 ?_
      refine kwp_iload_n (pc := 127) 2 rfl dX6_luck_127 rfl ?_
      refine kwp_isub (pc := 128) dX6_luck_128 ?_
      refine kwp_sub [0, 1, 2, 3, 4, 5, 6, 7, 8, 10] rfl ?_
      exact h
    · have h := h.2 hc
      refine kwp_iload_n (pc := 121) 2 rfl dX6_luck_121 rfl ?_
      refine kwp_goto (pc := 122) 129 dX6_luck_122 (by decide) ?_
      refine kwp_sub [0, 1, 2, 3, 4, 5, 6, 7, 8, 10] rfl ?_
      exact h

set_option maxRecDepth 20000 in
theorem bX6_luck_129 {l : Launch} {g : va_G × (Nat → ClassId) × (Nat → Nat → Nat)} (x1 : Int32) (x2 : Int32) (x3 : Int32) (x4 : Int32) (x5 : Int32) (x6 : Int32) (x7 : Int32) (x8 : Int32) (x10 : Int32) (s0 : Int32) (s1 : Int32) (M : kM) (Q : Int32 → kM → Prop)
    (h : ∀ z1 : Int32, z1 = s1 * s0 → ∀ z2 : Int32, z2 = x10 + 1 → kWP l (rg_m, g) mX6_luck 102 [(0, .inr (.inr (0, 0))), (1, .inl x1), (2, .inl x2), (3, .inl x3), (4, .inl x4), (5, .inl x5), (6, .inl x6), (7, .inl x7), (8, .inl x8), (9, .inl z1), (10, .inl z2)] [] M (kqi Q)) :
    kWP l (rg_m, g) mX6_luck 129 [(0, .inr (.inr (0, 0))), (1, .inl x1), (2, .inl x2), (3, .inl x3), (4, .inl x4), (5, .inl x5), (6, .inl x6), (7, .inl x7), (8, .inl x8), (10, .inl x10)] [.inl s0, .inl s1] M (kqi Q) := by
  refine kwp_imul (pc := 129) dX6_luck_129 ?_
  obtain ⟨z1, ez1⟩ : ∃ z : Int32, z = s1 * s0 := ⟨_, rfl⟩
  rw [← ez1]
  have h := h z1 ez1
  refine kwp_istore (pc := 130) (ls2 := [(9, .inl z1), (0, .inr (.inr (0, 0))), (1, .inl x1), (2, .inl x2), (3, .inl x3), (4, .inl x4), (5, .inl x5), (6, .inl x6), (7, .inl x7), (8, .inl x8), (10, .inl x10)]) dX6_luck_130 (by decide) rfl ?_
  obtain ⟨z2, ez2⟩ : ∃ z : Int32, z = x10 + 1 := ⟨_, rfl⟩
  have h := h z2 ez2
  refine kwp_iinc (pc := 132) (v := z2) (ls2 := [(10, .inl z2), (9, .inl z1), (0, .inr (.inr (0, 0))), (1, .inl x1), (2, .inl x2), (3, .inl x3), (4, .inl x4), (5, .inl x5), (6, .inl x6), (7, .inl x7), (8, .inl x8)]) 10 rfl dX6_luck_132 (by rw [ez2, ic_1]) (by decide) rfl ?_
  refine kwp_goto (pc := 135) 102 dX6_luck_135 (by decide) ?_
  refine kwp_sub [2, 3, 4, 5, 6, 7, 8, 9, 10, 1, 0] rfl ?_
  exact h

set_option maxRecDepth 20000 in
theorem bX6_luck_168 {l : Launch} {g : va_G × (Nat → ClassId) × (Nat → Nat → Nat)} (x1 : Int32) (x2 : Int32) (x3 : Int32) (x4 : Int32) (x5 : Int32) (x7 : Int32) (x8 : Int32) (s0 : Int32) (s1 : Int32) (M : kM) (Q : Int32 → kM → Prop)
    (h : ∀ z1 : Int32, z1 = s1 + s0 → ∀ z2 : Int32, z2 = x8 + 1 → kWP l (rg_m, g) mX6_luck 87 [(0, .inr (.inr (0, 0))), (1, .inl x1), (2, .inl x2), (3, .inl x3), (4, .inl x4), (5, .inl x5), (6, .inl z1), (7, .inl x7), (8, .inl z2)] [] M (kqi Q)) :
    kWP l (rg_m, g) mX6_luck 168 [(0, .inr (.inr (0, 0))), (1, .inl x1), (2, .inl x2), (3, .inl x3), (4, .inl x4), (5, .inl x5), (7, .inl x7), (8, .inl x8)] [.inl s0, .inl s1] M (kqi Q) := by
  refine kwp_iadd (pc := 168) dX6_luck_168 ?_
  obtain ⟨z1, ez1⟩ : ∃ z : Int32, z = s1 + s0 := ⟨_, rfl⟩
  rw [← ez1]
  have h := h z1 ez1
  refine kwp_istore (pc := 169) (ls2 := [(6, .inl z1), (0, .inr (.inr (0, 0))), (1, .inl x1), (2, .inl x2), (3, .inl x3), (4, .inl x4), (5, .inl x5), (7, .inl x7), (8, .inl x8)]) dX6_luck_169 (by decide) rfl ?_
  obtain ⟨z2, ez2⟩ : ∃ z : Int32, z = x8 + 1 := ⟨_, rfl⟩
  have h := h z2 ez2
  refine kwp_iinc (pc := 171) (v := z2) (ls2 := [(8, .inl z2), (6, .inl z1), (0, .inr (.inr (0, 0))), (1, .inl x1), (2, .inl x2), (3, .inl x3), (4, .inl x4), (5, .inl x5), (7, .inl x7)]) 8 rfl dX6_luck_171 (by rw [ez2, ic_1]) (by decide) rfl ?_
  refine kwp_goto (pc := 174) 87 dX6_luck_174 (by decide) ?_
  refine kwp_sub [2, 3, 4, 5, 6, 7, 1, 8, 0] rfl ?_
  exact h

set_option maxRecDepth 20000 in
theorem bX6_luck_185 {l : Launch} {g : va_G × (Nat → ClassId) × (Nat → Nat → Nat)} (x3 : Int32) (x6 : Int32) (x7 : Int32) (x8 : Int32) (x9 : Int32) (M : kM) (Q : Int32 → kM → Prop)
    (h : ((x9 = 0 → ((¬ x3 = 0 → ¬ x8 = 0 ∧ (kWP l (rg_m, g) mX6_luck 225 [] [.inl (x7 / x8)] M (kqi Q))) ∧ (x3 = 0 → ¬ x8 = 0 ∧ (kWP l (rg_m, g) mX6_luck 225 [] [.inl (x6 / x8)] M (kqi Q))))) ∧ (¬ x9 = 0 → ¬ x9 = 0 ∧ (∀ z1 : Int32, z1 = x8 - x8 / x9 * x9 → kWP l (rg_m, g) mX6_luck 185 [(3, .inl x3), (6, .inl x6), (7, .inl x7), (8, .inl x9), (9, .inl z1)] [] M (kqi Q))))) :
    kWP l (rg_m, g) mX6_luck 185 [(3, .inl x3), (6, .inl x6), (7, .inl x7), (8, .inl x8), (9, .inl x9)] [] M (kqi Q) := by
  refine kwp_iload (pc := 185) 4 rfl dX6_luck_185 ?_
  refine kwp_if_eq (pc := 187) 208 dX6_luck_187 (by decide) (fun hc => ?_) (fun hc => ?_)
  · have h := h.1 hc
    refine kwp_iload_n (pc := 208) 0 rfl dX6_luck_208 rfl ?_
    refine kwp_if_ne (pc := 209) 220 dX6_luck_209 (by decide) (fun hc => ?_) (fun hc => ?_)
    · have h := h.1 hc
      refine kwp_iload (pc := 220) 2 rfl dX6_luck_220 ?_
      refine kwp_iload (pc := 222) 3 rfl dX6_luck_222 ?_
      obtain ⟨hne, h⟩ := h
      refine kwp_idiv (pc := 224) dX6_luck_224 hne ?_
      refine kwp_sub [] rfl ?_
      exact h
    · have h := h.2 hc
      refine kwp_iload (pc := 212) 1 rfl dX6_luck_212 ?_
      refine kwp_iload (pc := 214) 3 rfl dX6_luck_214 ?_
      obtain ⟨hne, h⟩ := h
      refine kwp_idiv (pc := 216) dX6_luck_216 hne ?_
      refine kwp_goto (pc := 217) 225 dX6_luck_217 (by decide) ?_
      refine kwp_sub [] rfl ?_
      exact h
  · have h := h.2 hc
    refine kwp_iload (pc := 190) 3 rfl dX6_luck_190 ?_
    refine kwp_iload (pc := 192) 4 rfl dX6_luck_192 ?_
    obtain ⟨hne, h⟩ := h
    refine kwp_irem (pc := 194) dX6_luck_194 hne ?_
    obtain ⟨z1, ez1⟩ : ∃ z : Int32, z = x8 - x8 / x9 * x9 := ⟨_, rfl⟩
    rw [← ez1]
    have h := h z1 ez1
    refine kwp_istore (pc := 195) (ls2 := [(10, .inl z1), (3, .inl x3), (6, .inl x6), (7, .inl x7), (8, .inl x8), (9, .inl x9)]) dX6_luck_195 (by decide) rfl ?_
    refine kwp_iload (pc := 197) 5 rfl dX6_luck_197 ?_
    refine kwp_istore (pc := 199) (ls2 := [(8, .inl x9), (10, .inl z1), (3, .inl x3), (6, .inl x6), (7, .inl x7), (9, .inl x9)]) dX6_luck_199 (by decide) rfl ?_
    refine kwp_iload (pc := 201) 1 rfl dX6_luck_201 ?_
    refine kwp_istore (pc := 203) (ls2 := [(9, .inl z1), (8, .inl x9), (10, .inl z1), (3, .inl x3), (6, .inl x6), (7, .inl x7)]) dX6_luck_203 (by decide) rfl ?_
    refine kwp_goto (pc := 205) 185 dX6_luck_205 (by decide) ?_
    refine kwp_sub [3, 4, 5, 1, 0] rfl ?_
    exact h

set_option maxRecDepth 20000 in
theorem bX6_luck_225 {l : Launch} {g : va_G × (Nat → ClassId) × (Nat → Nat → Nat)} (s0 : Int32) (M : kM) (Q : Int32 → kM → Prop)
    (h : Q s0 M) :
    kWP l (rg_m, g) mX6_luck 225 [] [.inl s0] M (kqi Q) := by
  exact kwp_iret (pc := 225) rfl dX6_luck_225 ⟨_, rfl, h⟩

set_option maxRecDepth 20000 in
theorem bX6_image_0 {l : Launch} {g : va_G × (Nat → ClassId) × (Nat → Nat → Nat)}  (M : kM) (Q : Int32 → kM → Prop)
    (h : kCT l (rg_m, g) mX6_copyAll [.inr (.inr (0, 0)), .inl 0, .inl 217, .inl 217] M (kqv (fun M1 => ∀ M2 : kM, M2 = ku M1 0 0 1 1 → Q 1 M2))) :
    kWP l (rg_m, g) mX6_image 0 [(0, .inr (.inr (0, 0)))] [] M (kqi Q) := by
  refine kwp_aload_n (pc := 0) 0 rfl dX6_image_0 rfl ?_
  refine kwp_iconst (pc := 1) dX6_image_1 ic_0 ?_
  refine kwp_sipush (pc := 2) dX6_image_2 sp_217 ?_
  refine kwp_sipush (pc := 5) dX6_image_5 sp_217 ?_
  refine kwp_callV (pc := 8) (Y := mX6_copyAll) (vs := [.inl 0, .inl 217, .inl 217]) (rest := []) fm_X6_copyAll fi_X6_copyAll ml_X6_118 (by decide) rfl rfl rfl rfl (by simp [kcat]) dX6_image_8 ?_
  refine kCT.mono h (fun v M1 h => ?_)
  obtain ⟨rfl, h⟩ := h
  change kWP l (rg_m, g) mX6_image 11 [(0, .inr (.inr (0, 0)))] [] M1 (kqi Q)
  refine kwp_aload_n (pc := 11) 0 rfl dX6_image_11 rfl ?_
  refine kwp_iconst (pc := 12) dX6_image_12 ic_1 ?_
  refine kwp_put (pc := 13) fp_X6_176 rfl rfl (by decide) dX6_image_13 ?_
  obtain ⟨M2, eM2⟩ : ∃ z : kM, z = ku M1 0 0 1 1 := ⟨_, rfl⟩
  rw [← eM2]
  have h := h M2 eM2
  refine kwp_iconst (pc := 16) dX6_image_16 ic_1 ?_
  exact kwp_iret (pc := 17) rfl dX6_image_17 ⟨_, rfl, h⟩

set_option maxRecDepth 20000 in
theorem bX6_restore_0 {l : Launch} {g : va_G × (Nat → ClassId) × (Nat → Nat → Nat)}  (M : kM) (Q : Int32 → kM → Prop)
    (h : ((¬ (M.1 0 0 1) = 0 → kCT l (rg_m, g) mX6_copyAll [.inr (.inr (0, 0)), .inl 217, .inl 0, .inl 217] M (kqv (fun M1 => Q 1 M1))) ∧ ((M.1 0 0 1) = 0 → Q (-4) M))) :
    kWP l (rg_m, g) mX6_restore 0 [(0, .inr (.inr (0, 0)))] [] M (kqi Q) := by
  refine kwp_aload_n (pc := 0) 0 rfl dX6_restore_0 rfl ?_
  refine kwp_geti (pc := 1) fl_X6_176 rfl rfl dX6_restore_1 ?_
  refine kwp_if_ne (pc := 4) 10 dX6_restore_4 (by decide) (fun hc => ?_) (fun hc => ?_)
  · have h := h.1 hc
    refine kwp_aload_n (pc := 10) 0 rfl dX6_restore_10 rfl ?_
    refine kwp_sipush (pc := 11) dX6_restore_11 sp_217 ?_
    refine kwp_iconst (pc := 14) dX6_restore_14 ic_0 ?_
    refine kwp_sipush (pc := 15) dX6_restore_15 sp_217 ?_
    refine kwp_callV (pc := 18) (Y := mX6_copyAll) (vs := [.inl 217, .inl 0, .inl 217]) (rest := []) fm_X6_copyAll fi_X6_copyAll ml_X6_118 (by decide) rfl rfl rfl rfl (by simp [kcat]) dX6_restore_18 ?_
    refine kCT.mono h (fun v M1 h => ?_)
    obtain ⟨rfl, h⟩ := h
    change kWP l (rg_m, g) mX6_restore 21 [(0, .inr (.inr (0, 0)))] [] M1 (kqi Q)
    refine kwp_iconst (pc := 21) dX6_restore_21 ic_1 ?_
    exact kwp_iret (pc := 22) rfl dX6_restore_22 ⟨_, rfl, h⟩
  · have h := h.2 hc
    refine kwp_bipush (pc := 7) dX6_restore_7 bp_m4 ?_
    exact kwp_iret (pc := 9) rfl dX6_restore_9 ⟨_, rfl, h⟩

set_option maxRecDepth 20000 in
theorem bX6_isSheet_0 {l : Launch} {g : va_G × (Nat → ClassId) × (Nat → Nat → Nat)} (x0 : Int32) (M : kM) (Q : Int32 → kM → Prop)
    (h : kCT l (rg_m, g) mX6_in [.inr (.inl (x0.toInt64)), .inr (.inl 0), .inr (.inl 3)] M (kqi (fun r2 M1 => ((r2 = 0 ∨ r2 = 1) ∧ Q r2 M1)))) :
    kWP l (rg_m, g) mX6_isSheet 0 [(0, .inl x0)] [] M (kqi Q) := by
  refine kwp_iload_n (pc := 0) 0 rfl dX6_isSheet_0 rfl ?_
  refine kwp_i2l (pc := 1) dX6_isSheet_1 ?_
  refine kwp_lconst (pc := 2) (v := 0) dX6_isSheet_2 (by decide) ?_
  refine kwp_ldc2 (pc := 3) cn_X6_180 dX6_isSheet_3 ?_
  refine kwp_callS (pc := 6) (Y := mX6_in) (vs := [.inr (.inl (x0.toInt64)), .inr (.inl 0), .inr (.inl 3)]) (rest := []) fm_X6_in fs_X6_in ml_X6_38 (by decide) rfl rfl (by simp [kcat]) dX6_isSheet_6 ?_
  refine kCT.mono h (fun v M1 h => ?_)
  obtain ⟨r2, rfl, h⟩ := h
  change kWP l (rg_m, g) mX6_isSheet 9 [(0, .inl x0)] [.inl r2] M1 (kqi Q)
  exact kwp_zret (pc := 9) rfl h.1 dX6_isSheet_9 ⟨_, rfl, h.2⟩

set_option maxRecDepth 20000 in
theorem bX6_isLane_0 {l : Launch} {g : va_G × (Nat → ClassId) × (Nat → Nat → Nat)} (x0 : Int32) (x1 : Int32) (M : kM) (Q : Int32 → kM → Prop)
    (h : kCT l (rg_m, g) mX6_isSheet [.inl x0] M (kqi (fun r2 M1 => ((r2 = 0 → kWP l (rg_m, g) mX6_isLane 23 [] [] M1 (kqi Q)) ∧ (¬ r2 = 0 → kCT l (rg_m, g) mX6_in [.inr (.inl (x1.toInt64)), .inr (.inl 0), .inr (.inl 3)] M1 (kqi (fun r4 M3 => ((r4 = 0 → kWP l (rg_m, g) mX6_isLane 23 [] [] M3 (kqi Q)) ∧ (¬ r4 = 0 → kWP l (rg_m, g) mX6_isLane 24 [] [.inl 1] M3 (kqi Q)))))))))) :
    kWP l (rg_m, g) mX6_isLane 0 [(0, .inl x0), (1, .inl x1)] [] M (kqi Q) := by
  refine kwp_iload_n (pc := 0) 0 rfl dX6_isLane_0 rfl ?_
  refine kwp_callS (pc := 1) (Y := mX6_isSheet) (vs := [.inl x0]) (rest := []) fm_X6_isSheet fs_X6_isSheet ml_X6_182 (by decide) rfl rfl (by simp [kcat]) dX6_isLane_1 ?_
  refine kCT.mono h (fun v M1 h => ?_)
  obtain ⟨r2, rfl, h⟩ := h
  change kWP l (rg_m, g) mX6_isLane 4 [(0, .inl x0), (1, .inl x1)] [.inl r2] M1 (kqi Q)
  refine kwp_if_eq (pc := 4) 23 dX6_isLane_4 (by decide) (fun hc => ?_) (fun hc => ?_)
  · have h := h.1 hc
    refine kwp_sub [] rfl ?_
    exact h
  · have h := h.2 hc
    refine kwp_iload_n (pc := 7) 1 rfl dX6_isLane_7 rfl ?_
    refine kwp_i2l (pc := 8) dX6_isLane_8 ?_
    refine kwp_lconst (pc := 9) (v := 0) dX6_isLane_9 (by decide) ?_
    refine kwp_ldc2 (pc := 10) cn_X6_180 dX6_isLane_10 ?_
    refine kwp_callS (pc := 13) (Y := mX6_in) (vs := [.inr (.inl (x1.toInt64)), .inr (.inl 0), .inr (.inl 3)]) (rest := []) fm_X6_in fs_X6_in ml_X6_38 (by decide) rfl rfl (by simp [kcat]) dX6_isLane_13 ?_
    refine kCT.mono h (fun v M3 h => ?_)
    obtain ⟨r4, rfl, h⟩ := h
    change kWP l (rg_m, g) mX6_isLane 16 [(0, .inl x0), (1, .inl x1)] [.inl r4] M3 (kqi Q)
    refine kwp_if_eq (pc := 16) 23 dX6_isLane_16 (by decide) (fun hc => ?_) (fun hc => ?_)
    · have h := h.1 hc
      refine kwp_sub [] rfl ?_
      exact h
    · have h := h.2 hc
      refine kwp_iconst (pc := 19) dX6_isLane_19 ic_1 ?_
      refine kwp_goto (pc := 20) 24 dX6_isLane_20 (by decide) ?_
      refine kwp_sub [] rfl ?_
      exact h

set_option maxRecDepth 20000 in
theorem bX6_isLane_23 {l : Launch} {g : va_G × (Nat → ClassId) × (Nat → Nat → Nat)}  (M : kM) (Q : Int32 → kM → Prop)
    (h : kWP l (rg_m, g) mX6_isLane 24 [] [.inl 0] M (kqi Q)) :
    kWP l (rg_m, g) mX6_isLane 23 [] [] M (kqi Q) := by
  refine kwp_iconst (pc := 23) dX6_isLane_23 ic_0 ?_
  exact h

set_option maxRecDepth 20000 in
theorem bX6_isLane_24 {l : Launch} {g : va_G × (Nat → ClassId) × (Nat → Nat → Nat)} (s0 : Int32) (M : kM) (Q : Int32 → kM → Prop)
    (h : ((s0 = 0 ∨ s0 = 1) ∧ Q s0 M)) :
    kWP l (rg_m, g) mX6_isLane 24 [] [.inl s0] M (kqi Q) := by
  exact kwp_zret (pc := 24) rfl h.1 dX6_isLane_24 ⟨_, rfl, h.2⟩

set_option maxRecDepth 20000 in
theorem bX6_against_0 {l : Launch} {g : va_G × (Nat → ClassId) × (Nat → Nat → Nat)} (x1 : Int32) (x2 : Int32) (x3 : Int32) (x4 : Int32) (M : kM) (Q : Int32 → kM → Prop)
    (h : vp_in x1 4 ∧ (((0 ≤ (M.1 5 0 x1.toNatClampNeg) → vp_in x1 4 ∧ ((((M.1 4 0 x1.toNatClampNeg) = x2 → ((x3 < 0 → kWP l (rg_m, g) mX6_against 51 [] [] M (kqi Q)) ∧ (¬ x3 < 0 → ((x4 < 0 → kWP l (rg_m, g) mX6_against 51 [] [] M (kqi Q)) ∧ (¬ x4 < 0 → vp_in x1 4 ∧ ((((lg_cmp (x3.toInt64 + x4.toInt64) ((M.1 5 0 x1.toNatClampNeg).toInt64)) ≤ 0 → kWP l (rg_m, g) mX6_against 57 [] [.inl 0] M (kqi Q)) ∧ (¬ (lg_cmp (x3.toInt64 + x4.toInt64) ((M.1 5 0 x1.toNatClampNeg).toInt64)) ≤ 0 → kWP l (rg_m, g) mX6_against 51 [] [] M (kqi Q))))))))) ∧ (¬ (M.1 4 0 x1.toNatClampNeg) = x2 → Q (-12) M)))) ∧ (¬ 0 ≤ (M.1 5 0 x1.toNatClampNeg) → Q (-11) M)))) :
    kWP l (rg_m, g) mX6_against 0 [(0, .inr (.inr (0, 0))), (1, .inl x1), (2, .inl x2), (3, .inl x3), (4, .inl x4)] [] M (kqi Q) := by
  refine kwp_aload_n (pc := 0) 0 rfl dX6_against_0 rfl ?_
  refine kwp_getc (pc := 1) fl_X6_23 rfl rfl dX6_against_1 ?_
  refine kwp_iload_n (pc := 4) 1 rfl dX6_against_4 rfl ?_
  obtain ⟨hin, h⟩ := h
  refine kwp_iald (pc := 5) rfl hin dX6_against_5 ?_
  refine kwp_if_ge (pc := 6) 12 dX6_against_6 (by decide) (fun hc => ?_) (fun hc => ?_)
  · have h := h.1 hc
    refine kwp_aload_n (pc := 12) 0 rfl dX6_against_12 rfl ?_
    refine kwp_getc (pc := 13) fl_X6_20 rfl rfl dX6_against_13 ?_
    refine kwp_iload_n (pc := 16) 1 rfl dX6_against_16 rfl ?_
    obtain ⟨hin, h⟩ := h
    refine kwp_iald (pc := 17) rfl hin dX6_against_17 ?_
    refine kwp_iload_n (pc := 18) 2 rfl dX6_against_18 rfl ?_
    refine kwp_icmp_eq (pc := 19) 25 dX6_against_19 (by decide) (fun hc => ?_) (fun hc => ?_)
    · have h := h.1 hc
      refine kwp_iload_n (pc := 25) 3 rfl dX6_against_25 rfl ?_
      refine kwp_if_lt (pc := 26) 51 dX6_against_26 (by decide) (fun hc => ?_) (fun hc => ?_)
      · have h := h.1 hc
        refine kwp_sub [] rfl ?_
        exact h
      · have h := h.2 hc
        refine kwp_iload (pc := 29) 4 rfl dX6_against_29 ?_
        refine kwp_if_lt (pc := 31) 51 dX6_against_31 (by decide) (fun hc => ?_) (fun hc => ?_)
        · have h := h.1 hc
          refine kwp_sub [] rfl ?_
          exact h
        · have h := h.2 hc
          refine kwp_iload_n (pc := 34) 3 rfl dX6_against_34 rfl ?_
          refine kwp_i2l (pc := 35) dX6_against_35 ?_
          refine kwp_iload (pc := 36) 4 rfl dX6_against_36 ?_
          refine kwp_i2l (pc := 38) dX6_against_38 ?_
          refine kwp_ladd (pc := 39) dX6_against_39 ?_
          refine kwp_aload_n (pc := 40) 0 rfl dX6_against_40 rfl ?_
          refine kwp_getc (pc := 41) fl_X6_23 rfl rfl dX6_against_41 ?_
          refine kwp_iload_n (pc := 44) 1 rfl dX6_against_44 rfl ?_
          obtain ⟨hin, h⟩ := h
          refine kwp_iald (pc := 45) rfl hin dX6_against_45 ?_
          refine kwp_i2l (pc := 46) dX6_against_46 ?_
          refine kwp_lcmp (pc := 47) dX6_against_47 ?_
          refine kwp_if_le (pc := 48) 56 dX6_against_48 (by decide) (fun hc => ?_) (fun hc => ?_)
          · have h := h.1 hc
            refine kwp_iconst (pc := 56) dX6_against_56 ic_0 ?_
            refine kwp_sub [] rfl ?_
            exact h
          · have h := h.2 hc
            refine kwp_sub [] rfl ?_
            exact h
    · have h := h.2 hc
      refine kwp_bipush (pc := 22) dX6_against_22 bp_m12 ?_
      exact kwp_iret (pc := 24) rfl dX6_against_24 ⟨_, rfl, h⟩
  · have h := h.2 hc
    refine kwp_bipush (pc := 9) dX6_against_9 bp_m11 ?_
    exact kwp_iret (pc := 11) rfl dX6_against_11 ⟨_, rfl, h⟩

set_option maxRecDepth 20000 in
theorem bX6_against_51 {l : Launch} {g : va_G × (Nat → ClassId) × (Nat → Nat → Nat)}  (M : kM) (Q : Int32 → kM → Prop)
    (h : kWP l (rg_m, g) mX6_against 57 [] [.inl (-13)] M (kqi Q)) :
    kWP l (rg_m, g) mX6_against 51 [] [] M (kqi Q) := by
  refine kwp_bipush (pc := 51) dX6_against_51 bp_m13 ?_
  refine kwp_goto (pc := 53) 57 dX6_against_53 (by decide) ?_
  exact h

set_option maxRecDepth 20000 in
theorem bX6_against_57 {l : Launch} {g : va_G × (Nat → ClassId) × (Nat → Nat → Nat)} (s0 : Int32) (M : kM) (Q : Int32 → kM → Prop)
    (h : Q s0 M) :
    kWP l (rg_m, g) mX6_against 57 [] [.inl s0] M (kqi Q) := by
  exact kwp_iret (pc := 57) rfl dX6_against_57 ⟨_, rfl, h⟩

set_option maxRecDepth 20000 in
theorem bX6_cut_0 {l : Launch} {g : va_G × (Nat → ClassId) × (Nat → Nat → Nat)} (x0 : Int32) (x1 : Int64) (M : kM) (Q : Int64 → kM → Prop)
    (h : ((¬ x0 = 0 → ((¬ x0 = 1 → ((¬ x0 = 2 → kWP l (rg_m, g) mX6_cut 35 [] [.inr (.inl x1)] M (kql Q)) ∧ (x0 = 2 → kWP l (rg_m, g) mX6_cut 35 [] [.inr (.inl (x1.toInt32.toInt64))] M (kql Q)))) ∧ (x0 = 1 → kWP l (rg_m, g) mX6_cut 35 [] [.inr (.inl (x1.toInt32.toInt16.toInt32.toInt64))] M (kql Q)))) ∧ (x0 = 0 → kWP l (rg_m, g) mX6_cut 35 [] [.inr (.inl (x1.toInt32.toInt8.toInt32.toInt64))] M (kql Q)))) :
    kWP l (rg_m, g) mX6_cut 0 [(0, .inl x0), (1, .inr (.inl x1))] [] M (kql Q) := by
  refine kwp_iload_n (pc := 0) 0 rfl dX6_cut_0 rfl ?_
  refine kwp_if_ne (pc := 1) 11 dX6_cut_1 (by decide) (fun hc => ?_) (fun hc => ?_)
  · have h := h.1 hc
    refine kwp_iload_n (pc := 11) 0 rfl dX6_cut_11 rfl ?_
    refine kwp_iconst (pc := 12) dX6_cut_12 ic_1 ?_
    refine kwp_icmp_ne (pc := 13) 23 dX6_cut_13 (by decide) (fun hc => ?_) (fun hc => ?_)
    · have h := h.1 hc
      refine kwp_iload_n (pc := 23) 0 rfl dX6_cut_23 rfl ?_
      refine kwp_iconst (pc := 24) dX6_cut_24 ic_2 ?_
      refine kwp_icmp_ne (pc := 25) 34 dX6_cut_25 (by decide) (fun hc => ?_) (fun hc => ?_)
      · have h := h.1 hc
        refine kwp_lload_n (pc := 34) 1 rfl dX6_cut_34 rfl ?_
        refine kwp_sub [] rfl ?_
        exact h
      · have h := h.2 hc
        refine kwp_lload_n (pc := 28) 1 rfl dX6_cut_28 rfl ?_
        refine kwp_l2i (pc := 29) dX6_cut_29 ?_
        refine kwp_i2l (pc := 30) dX6_cut_30 ?_
        refine kwp_goto (pc := 31) 35 dX6_cut_31 (by decide) ?_
        refine kwp_sub [] rfl ?_
        exact h
    · have h := h.2 hc
      refine kwp_lload_n (pc := 16) 1 rfl dX6_cut_16 rfl ?_
      refine kwp_l2i (pc := 17) dX6_cut_17 ?_
      refine kwp_i2s (pc := 18) dX6_cut_18 ?_
      refine kwp_i2l (pc := 19) dX6_cut_19 ?_
      refine kwp_goto (pc := 20) 35 dX6_cut_20 (by decide) ?_
      refine kwp_sub [] rfl ?_
      exact h
  · have h := h.2 hc
    refine kwp_lload_n (pc := 4) 1 rfl dX6_cut_4 rfl ?_
    refine kwp_l2i (pc := 5) dX6_cut_5 ?_
    refine kwp_i2b (pc := 6) dX6_cut_6 ?_
    refine kwp_i2l (pc := 7) dX6_cut_7 ?_
    refine kwp_goto (pc := 8) 35 dX6_cut_8 (by decide) ?_
    refine kwp_sub [] rfl ?_
    exact h

set_option maxRecDepth 20000 in
theorem bX6_cut_35 {l : Launch} {g : va_G × (Nat → ClassId) × (Nat → Nat → Nat)} (s0 : Int64) (M : kM) (Q : Int64 → kM → Prop)
    (h : Q s0 M) :
    kWP l (rg_m, g) mX6_cut 35 [] [.inr (.inl s0)] M (kql Q) := by
  exact kwp_lret (pc := 35) rfl dX6_cut_35 ⟨_, rfl, h⟩

set_option maxRecDepth 20000 in
theorem bX6_passed_0 {l : Launch} {g : va_G × (Nat → ClassId) × (Nat → Nat → Nat)} (x1 : Int32) (x2 : Int32) (x3 : Int32) (x4 : Int32) (x5 : Int32) (M : kM) (Q : Int32 → kM → Prop)
    (h : kCT l (rg_m, g) mX6_isRider [.inr (.inr (0, 0)), .inl x1] M (kqi (fun r2 M1 => ((r2 = 0 → kWP l (rg_m, g) mX6_passed 29 [] [] M1 (kqi Q)) ∧ (¬ r2 = 0 → kCT l (rg_m, g) mX6_isLane [.inl x2, .inl x3] M1 (kqi (fun r4 M3 => ((r4 = 0 → kWP l (rg_m, g) mX6_passed 29 [] [] M3 (kqi Q)) ∧ (¬ r4 = 0 → kCT l (rg_m, g) mX6_in [.inr (.inl (x5.toInt64)), .inr (.inl 1), .inr (.inl 8)] M3 (kqi (fun r6 M5 => ((¬ r6 = 0 → kCT l (rg_m, g) mX6_against [.inr (.inr (0, 0)), .inl x2, .inl x3, .inl x4, .inl x5] M5 (kqi (fun r8 M7 => ((0 ≤ r8 → vp_in ((8 : Int32) + x1) 483 ∧ (∀ z9 : Int32, z9 = M7.1 1 0 ((8 : Int32) + x1).toNatClampNeg → ((x5 ≤ ((M7.1 1 0 (21 : Int32).toNatClampNeg) - z9) → kWP l (rg_m, g) mX6_passed 86 [(0, .inr (.inr (0, 0))), (1, .inl x1), (2, .inl x2), (4, .inl x4), (5, .inl x5), (7, .inl z9), (8, .inl 0), (9, .inl 0)] [] M7 (kqi Q)) ∧ (¬ x5 ≤ ((M7.1 1 0 (21 : Int32).toNatClampNeg) - z9) → Q (-2) M7)))) ∧ (¬ 0 ≤ r8 → Q r8 M7))))) ∧ (r6 = 0 → kWP l (rg_m, g) mX6_passed 29 [] [] M5 (kqi Q)))))))))))))) :
    kWP l (rg_m, g) mX6_passed 0 [(0, .inr (.inr (0, 0))), (1, .inl x1), (2, .inl x2), (3, .inl x3), (4, .inl x4), (5, .inl x5)] [] M (kqi Q) := by
  refine kwp_aload_n (pc := 0) 0 rfl dX6_passed_0 rfl ?_
  refine kwp_iload_n (pc := 1) 1 rfl dX6_passed_1 rfl ?_
  refine kwp_callV (pc := 2) (Y := mX6_isRider) (vs := [.inl x1]) (rest := []) fm_X6_isRider fi_X6_isRider ml_X6_42 (by decide) rfl rfl rfl rfl (by simp [kcat]) dX6_passed_2 ?_
  refine kCT.mono h (fun v M1 h => ?_)
  obtain ⟨r2, rfl, h⟩ := h
  change kWP l (rg_m, g) mX6_passed 5 [(0, .inr (.inr (0, 0))), (1, .inl x1), (2, .inl x2), (3, .inl x3), (4, .inl x4), (5, .inl x5)] [.inl r2] M1 (kqi Q)
  refine kwp_if_eq (pc := 5) 29 dX6_passed_5 (by decide) (fun hc => ?_) (fun hc => ?_)
  · have h := h.1 hc
    refine kwp_sub [] rfl ?_
    exact h
  · have h := h.2 hc
    refine kwp_iload_n (pc := 8) 2 rfl dX6_passed_8 rfl ?_
    refine kwp_iload_n (pc := 9) 3 rfl dX6_passed_9 rfl ?_
    refine kwp_callS (pc := 10) (Y := mX6_isLane) (vs := [.inl x2, .inl x3]) (rest := []) fm_X6_isLane fs_X6_isLane ml_X6_185 (by decide) rfl rfl (by simp [kcat]) dX6_passed_10 ?_
    refine kCT.mono h (fun v M3 h => ?_)
    obtain ⟨r4, rfl, h⟩ := h
    change kWP l (rg_m, g) mX6_passed 13 [(0, .inr (.inr (0, 0))), (1, .inl x1), (2, .inl x2), (3, .inl x3), (4, .inl x4), (5, .inl x5)] [.inl r4] M3 (kqi Q)
    refine kwp_if_eq (pc := 13) 29 dX6_passed_13 (by decide) (fun hc => ?_) (fun hc => ?_)
    · have h := h.1 hc
      refine kwp_sub [] rfl ?_
      exact h
    · have h := h.2 hc
      refine kwp_iload (pc := 16) 5 rfl dX6_passed_16 ?_
      refine kwp_i2l (pc := 18) dX6_passed_18 ?_
      refine kwp_lconst (pc := 19) (v := 1) dX6_passed_19 (by decide) ?_
      refine kwp_ldc2 (pc := 20) cn_X6_188 dX6_passed_20 ?_
      refine kwp_callS (pc := 23) (Y := mX6_in) (vs := [.inr (.inl (x5.toInt64)), .inr (.inl 1), .inr (.inl 8)]) (rest := []) fm_X6_in fs_X6_in ml_X6_38 (by decide) rfl rfl (by simp [kcat]) dX6_passed_23 ?_
      refine kCT.mono h (fun v M5 h => ?_)
      obtain ⟨r6, rfl, h⟩ := h
      change kWP l (rg_m, g) mX6_passed 26 [(0, .inr (.inr (0, 0))), (1, .inl x1), (2, .inl x2), (3, .inl x3), (4, .inl x4), (5, .inl x5)] [.inl r6] M5 (kqi Q)
      refine kwp_if_ne (pc := 26) 31 dX6_passed_26 (by decide) (fun hc => ?_) (fun hc => ?_)
      · have h := h.1 hc
        refine kwp_aload_n (pc := 31) 0 rfl dX6_passed_31 rfl ?_
        refine kwp_iload_n (pc := 32) 2 rfl dX6_passed_32 rfl ?_
        refine kwp_iload_n (pc := 33) 3 rfl dX6_passed_33 rfl ?_
        refine kwp_iload (pc := 34) 4 rfl dX6_passed_34 ?_
        refine kwp_iload (pc := 36) 5 rfl dX6_passed_36 ?_
        refine kwp_callV (pc := 38) (Y := mX6_against) (vs := [.inl x2, .inl x3, .inl x4, .inl x5]) (rest := []) fm_X6_against fi_X6_against ml_X6_190 (by decide) rfl rfl rfl rfl (by simp [kcat]) dX6_passed_38 ?_
        refine kCT.mono h (fun v M7 h => ?_)
        obtain ⟨r8, rfl, h⟩ := h
        change kWP l (rg_m, g) mX6_passed 41 [(0, .inr (.inr (0, 0))), (1, .inl x1), (2, .inl x2), (3, .inl x3), (4, .inl x4), (5, .inl x5)] [.inl r8] M7 (kqi Q)
        refine kwp_istore (pc := 41) (ls2 := [(6, .inl r8), (0, .inr (.inr (0, 0))), (1, .inl x1), (2, .inl x2), (3, .inl x3), (4, .inl x4), (5, .inl x5)]) dX6_passed_41 (by decide) rfl ?_
        refine kwp_iload (pc := 43) 0 rfl dX6_passed_43 ?_
        refine kwp_if_ge (pc := 45) 51 dX6_passed_45 (by decide) (fun hc => ?_) (fun hc => ?_)
        · have h := h.1 hc
          refine kwp_aload_n (pc := 51) 1 rfl dX6_passed_51 rfl ?_
          refine kwp_getc (pc := 52) fl_X6_7 rfl rfl dX6_passed_52 ?_
          refine kwp_bipush (pc := 55) dX6_passed_55 bp_8 ?_
          refine kwp_iload_n (pc := 57) 2 rfl dX6_passed_57 rfl ?_
          refine kwp_iadd (pc := 58) dX6_passed_58 ?_
          obtain ⟨hin, h⟩ := h
          refine kwp_iald (pc := 59) rfl hin dX6_passed_59 ?_
          obtain ⟨z9, ez9⟩ : ∃ z : Int32, z = M7.1 1 0 ((8 : Int32) + x1).toNatClampNeg := ⟨_, rfl⟩
          rw [← ez9]
          have h := h z9 ez9
          refine kwp_istore (pc := 60) (ls2 := [(7, .inl z9), (6, .inl r8), (0, .inr (.inr (0, 0))), (1, .inl x1), (2, .inl x2), (3, .inl x3), (4, .inl x4), (5, .inl x5)]) dX6_passed_60 (by decide) rfl ?_
          refine kwp_iload (pc := 62) 7 rfl dX6_passed_62 ?_
          refine kwp_aload_n (pc := 64) 2 rfl dX6_passed_64 rfl ?_
          refine kwp_getc (pc := 65) fl_X6_7 rfl rfl dX6_passed_65 ?_
          refine kwp_bipush (pc := 68) dX6_passed_68 bp_21 ?_
          refine kwp_iald (pc := 70) rfl (show vp_in (21 : Int32) 483 by unfold vp_in; decide) dX6_passed_70 ?_
          refine kwp_iload (pc := 71) 0 rfl dX6_passed_71 ?_
          refine kwp_isub (pc := 73) dX6_passed_73 ?_
          refine kwp_icmp_le (pc := 74) 80 dX6_passed_74 (by decide) (fun hc => ?_) (fun hc => ?_)
          · have h := h.1 hc
            refine kwp_iconst (pc := 80) dX6_passed_80 ic_0 ?_
            refine kwp_istore (pc := 81) (ls2 := [(8, .inl 0), (7, .inl z9), (6, .inl r8), (0, .inr (.inr (0, 0))), (1, .inl x1), (2, .inl x2), (3, .inl x3), (4, .inl x4), (5, .inl x5)]) dX6_passed_81 (by decide) rfl ?_
            refine kwp_iconst (pc := 83) dX6_passed_83 ic_0 ?_
            refine kwp_istore (pc := 84) (ls2 := [(9, .inl 0), (8, .inl 0), (7, .inl z9), (6, .inl r8), (0, .inr (.inr (0, 0))), (1, .inl x1), (2, .inl x2), (3, .inl x3), (4, .inl x4), (5, .inl x5)]) dX6_passed_84 (by decide) rfl ?_
            refine kwp_sub [4, 5, 6, 8, 9, 2, 1, 0] rfl ?_
            exact h
          · have h := h.2 hc
            refine kwp_bipush (pc := 77) dX6_passed_77 bp_m2 ?_
            exact kwp_iret (pc := 79) rfl dX6_passed_79 ⟨_, rfl, h⟩
        · have h := h.2 hc
          refine kwp_iload (pc := 48) 0 rfl dX6_passed_48 ?_
          exact kwp_iret (pc := 50) rfl dX6_passed_50 ⟨_, rfl, h⟩
      · have h := h.2 hc
        refine kwp_sub [] rfl ?_
        exact h

set_option maxRecDepth 20000 in
theorem bX6_passed_29 {l : Launch} {g : va_G × (Nat → ClassId) × (Nat → Nat → Nat)}  (M : kM) (Q : Int32 → kM → Prop)
    (h : Q (-1) M) :
    kWP l (rg_m, g) mX6_passed 29 [] [] M (kqi Q) := by
  refine kwp_iconst (pc := 29) dX6_passed_29 ic_m1 ?_
  exact kwp_iret (pc := 30) rfl dX6_passed_30 ⟨_, rfl, h⟩

set_option maxRecDepth 20000 in
theorem bX6_passed_86 {l : Launch} {g : va_G × (Nat → ClassId) × (Nat → Nat → Nat)} (x1 : Int32) (x2 : Int32) (x4 : Int32) (x5 : Int32) (x7 : Int32) (x8 : Int32) (x9 : Int32) (M : kM) (Q : Int32 → kM → Prop)
    (h : ((4 < x9 → Q x8 M) ∧ (¬ 4 < x9 → kCT l (rg_m, g) mX6_tries [.inr (.inr (0, 0))] M (kqv (fun M1 => vp_in ((474 : Int32) + x1) 483 ∧ (∀ M2 : kM, M2 = ku M1 1 0 ((474 : Int32) + x1).toNatClampNeg x9 → kCT l (rg_m, g) mX6_ridesOn [.inr (.inr (0, 0)), .inl (-4), .inl 0] M2 (kqv (fun M3 => kWP l (rg_m, g) mX6_passed 121 [(0, .inr (.inr (0, 0))), (1, .inl x1), (2, .inl x2), (4, .inl x4), (5, .inl x5), (7, .inl x7), (8, .inl x8), (9, .inl x9), (10, .inl 1), (11, .inl 0)] [] M3 (kqi Q))))))))) :
    kWP l (rg_m, g) mX6_passed 86 [(0, .inr (.inr (0, 0))), (1, .inl x1), (2, .inl x2), (4, .inl x4), (5, .inl x5), (7, .inl x7), (8, .inl x8), (9, .inl x9)] [] M (kqi Q) := by
  refine kwp_iload (pc := 86) 7 rfl dX6_passed_86 ?_
  refine kwp_iconst (pc := 88) dX6_passed_88 ic_4 ?_
  refine kwp_icmp_gt (pc := 89) 207 dX6_passed_89 (by decide) (fun hc => ?_) (fun hc => ?_)
  · have h := h.1 hc
    refine kwp_iload (pc := 207) 6 rfl dX6_passed_207 ?_
    exact kwp_iret (pc := 209) rfl dX6_passed_209 ⟨_, rfl, h⟩
  · have h := h.2 hc
    refine kwp_aload_n (pc := 92) 0 rfl dX6_passed_92 rfl ?_
    refine kwp_callV (pc := 93) (Y := mX6_tries) (vs := []) (rest := []) fm_X6_tries fi_X6_tries ml_X6_150 (by decide) rfl rfl rfl rfl (by simp [kcat]) dX6_passed_93 ?_
    refine kCT.mono h (fun v M1 h => ?_)
    obtain ⟨rfl, h⟩ := h
    change kWP l (rg_m, g) mX6_passed 96 [(0, .inr (.inr (0, 0))), (1, .inl x1), (2, .inl x2), (4, .inl x4), (5, .inl x5), (7, .inl x7), (8, .inl x8), (9, .inl x9)] [] M1 (kqi Q)
    refine kwp_aload_n (pc := 96) 0 rfl dX6_passed_96 rfl ?_
    refine kwp_getc (pc := 97) fl_X6_7 rfl rfl dX6_passed_97 ?_
    refine kwp_sipush (pc := 100) dX6_passed_100 sp_474 ?_
    refine kwp_iload_n (pc := 103) 1 rfl dX6_passed_103 rfl ?_
    refine kwp_iadd (pc := 104) dX6_passed_104 ?_
    refine kwp_iload (pc := 105) 7 rfl dX6_passed_105 ?_
    obtain ⟨hin, h⟩ := h
    refine kwp_iast (pc := 107) rfl hin dX6_passed_107 ?_
    obtain ⟨M2, eM2⟩ : ∃ z : kM, z = ku M1 1 0 ((474 : Int32) + x1).toNatClampNeg x9 := ⟨_, rfl⟩
    rw [← eM2]
    have h := h M2 eM2
    refine kwp_aload_n (pc := 108) 0 rfl dX6_passed_108 rfl ?_
    refine kwp_bipush (pc := 109) dX6_passed_109 bp_m4 ?_
    refine kwp_iconst (pc := 111) dX6_passed_111 ic_0 ?_
    refine kwp_callV (pc := 112) (Y := mX6_ridesOn) (vs := [.inl (-4), .inl 0]) (rest := []) fm_X6_ridesOn fi_X6_ridesOn ml_X6_153 (by decide) rfl rfl rfl rfl (by simp [kcat]) dX6_passed_112 ?_
    refine kCT.mono h (fun v M3 h => ?_)
    obtain ⟨rfl, h⟩ := h
    change kWP l (rg_m, g) mX6_passed 115 [(0, .inr (.inr (0, 0))), (1, .inl x1), (2, .inl x2), (4, .inl x4), (5, .inl x5), (7, .inl x7), (8, .inl x8), (9, .inl x9)] [] M3 (kqi Q)
    refine kwp_iconst (pc := 115) dX6_passed_115 ic_1 ?_
    refine kwp_istore (pc := 116) (ls2 := [(10, .inl 1), (0, .inr (.inr (0, 0))), (1, .inl x1), (2, .inl x2), (4, .inl x4), (5, .inl x5), (7, .inl x7), (8, .inl x8), (9, .inl x9)]) dX6_passed_116 (by decide) rfl ?_
    refine kwp_iconst (pc := 118) dX6_passed_118 ic_0 ?_
    refine kwp_istore (pc := 119) (ls2 := [(11, .inl 0), (10, .inl 1), (0, .inr (.inr (0, 0))), (1, .inl x1), (2, .inl x2), (4, .inl x4), (5, .inl x5), (7, .inl x7), (8, .inl x8), (9, .inl x9)]) dX6_passed_119 (by decide) rfl ?_
    refine kwp_sub [2, 3, 4, 5, 6, 7, 8, 9, 1, 0] rfl ?_
    exact h

set_option maxRecDepth 20000 in
theorem bX6_passed_121 {l : Launch} {g : va_G × (Nat → ClassId) × (Nat → Nat → Nat)} (x1 : Int32) (x2 : Int32) (x4 : Int32) (x5 : Int32) (x7 : Int32) (x8 : Int32) (x9 : Int32) (x10 : Int32) (x11 : Int32) (M : kM) (Q : Int32 → kM → Prop)
    (h : ((x5 ≤ x11 → ((x10 = 0 → kWP l (rg_m, g) mX6_passed 198 [(0, .inr (.inr (0, 0))), (1, .inl x1), (2, .inl x2), (4, .inl x4), (5, .inl x5), (7, .inl x7), (9, .inl x9)] [.inl 0, .inl x8] M (kqi Q)) ∧ (¬ x10 = 0 → kWP l (rg_m, g) mX6_passed 198 [(0, .inr (.inr (0, 0))), (1, .inl x1), (2, .inl x2), (4, .inl x4), (5, .inl x5), (7, .inl x7), (9, .inl x9)] [.inl ((1 : Int32) <<< (x9 &&& 31)), .inl x8] M (kqi Q)))) ∧ (¬ x5 ≤ x11 → ((x10 = 0 → kWP l (rg_m, g) mX6_passed 174 [(0, .inr (.inr (0, 0))), (1, .inl x1), (2, .inl x2), (4, .inl x4), (5, .inl x5), (7, .inl x7), (8, .inl x8), (9, .inl x9), (11, .inl x11)] [] M (kqi Q)) ∧ (¬ x10 = 0 → vp_in (((((9 : Int32) * x1) + x7) + 1) + x11) 36 ∧ (vp_in ((((24 : Int32) * x2) + x4) + x11) 96 ∧ (((¬ (lg_cmp ((M.1 6 0 (((((9 : Int32) * x1) + x7) + 1) + x11).toNatClampNeg).toInt64) (M.2 3 0 ((((24 : Int32) * x2) + x4) + x11).toNatClampNeg)) = 0 → kWP l (rg_m, g) mX6_passed 174 [(0, .inr (.inr (0, 0))), (1, .inl x1), (2, .inl x2), (4, .inl x4), (5, .inl x5), (7, .inl x7), (8, .inl x8), (9, .inl x9), (11, .inl x11)] [] M (kqi Q)) ∧ ((lg_cmp ((M.1 6 0 (((((9 : Int32) * x1) + x7) + 1) + x11).toNatClampNeg).toInt64) (M.2 3 0 ((((24 : Int32) * x2) + x4) + x11).toNatClampNeg)) = 0 → kWP l (rg_m, g) mX6_passed 175 [(0, .inr (.inr (0, 0))), (1, .inl x1), (2, .inl x2), (4, .inl x4), (5, .inl x5), (7, .inl x7), (8, .inl x8), (9, .inl x9), (11, .inl x11)] [.inl 1] M (kqi Q)))))))))) :
    kWP l (rg_m, g) mX6_passed 121 [(0, .inr (.inr (0, 0))), (1, .inl x1), (2, .inl x2), (4, .inl x4), (5, .inl x5), (7, .inl x7), (8, .inl x8), (9, .inl x9), (10, .inl x10), (11, .inl x11)] [] M (kqi Q) := by
  refine kwp_iload (pc := 121) 9 rfl dX6_passed_121 ?_
  refine kwp_iload (pc := 123) 4 rfl dX6_passed_123 ?_
  refine kwp_icmp_ge (pc := 125) 183 dX6_passed_125 (by decide) (fun hc => ?_) (fun hc => ?_)
  · have h := h.1 hc
    refine kwp_iload (pc := 183) 6 rfl dX6_passed_183 ?_
    refine kwp_iload (pc := 185) 8 rfl dX6_passed_185 ?_
    refine kwp_if_eq (pc := 187) 197 dX6_passed_187 (by decide) (fun hc => ?_) (fun hc => ?_)
    · have h := h.1 hc
      refine kwp_iconst (pc := 197) dX6_passed_197 ic_0 ?_
      refine kwp_sub [0, 1, 2, 3, 4, 5, 7] rfl ?_
      exact h
    · have h := h.2 hc
      refine kwp_iconst (pc := 190) dX6_passed_190 ic_1 ?_
      refine kwp_iload (pc := 191) 7 rfl dX6_passed_191 ?_
      refine kwp_ishl (pc := 193) dX6_passed_193 ?_
      refine kwp_goto (pc := 194) 198 dX6_passed_194 (by decide) ?_
      refine kwp_sub [0, 1, 2, 3, 4, 5, 7] rfl ?_
      exact h
  · have h := h.2 hc
    refine kwp_iload (pc := 128) 8 rfl dX6_passed_128 ?_
    refine kwp_if_eq (pc := 130) 174 dX6_passed_130 (by decide) (fun hc => ?_) (fun hc => ?_)
    · have h := h.1 hc
      refine kwp_sub [0, 1, 2, 3, 4, 5, 6, 7, 9] rfl ?_
      exact h
    · have h := h.2 hc
      refine kwp_aload_n (pc := 133) 0 rfl dX6_passed_133 rfl ?_
      refine kwp_getc (pc := 134) fl_X6_26 rfl rfl dX6_passed_134 ?_
      refine kwp_bipush (pc := 137) dX6_passed_137 bp_9 ?_
      refine kwp_iload_n (pc := 139) 1 rfl dX6_passed_139 rfl ?_
      refine kwp_imul (pc := 140) dX6_passed_140 ?_
      refine kwp_iload (pc := 141) 5 rfl dX6_passed_141 ?_
      refine kwp_iadd (pc := 143) dX6_passed_143 ?_
      refine kwp_iconst (pc := 144) dX6_passed_144 ic_1 ?_
      refine kwp_iadd (pc := 145) dX6_passed_145 ?_
      refine kwp_iload (pc := 146) 9 rfl dX6_passed_146 ?_
      refine kwp_iadd (pc := 148) dX6_passed_148 ?_
      obtain ⟨hin, h⟩ := h
      refine kwp_iald (pc := 149) rfl hin dX6_passed_149 ?_
      refine kwp_i2l (pc := 150) dX6_passed_150 ?_
      refine kwp_aload_n (pc := 151) 0 rfl dX6_passed_151 rfl ?_
      refine kwp_getc (pc := 152) fl_X6_16 rfl rfl dX6_passed_152 ?_
      refine kwp_bipush (pc := 155) dX6_passed_155 bp_24 ?_
      refine kwp_iload_n (pc := 157) 2 rfl dX6_passed_157 rfl ?_
      refine kwp_imul (pc := 158) dX6_passed_158 ?_
      refine kwp_iload (pc := 159) 3 rfl dX6_passed_159 ?_
      refine kwp_iadd (pc := 161) dX6_passed_161 ?_
      refine kwp_iload (pc := 162) 9 rfl dX6_passed_162 ?_
      refine kwp_iadd (pc := 164) dX6_passed_164 ?_
      obtain ⟨hin, h⟩ := h
      refine kwp_lald (pc := 165) rfl hin dX6_passed_165 ?_
      refine kwp_lcmp (pc := 166) dX6_passed_166 ?_
      refine kwp_if_ne (pc := 167) 174 dX6_passed_167 (by decide) (fun hc => ?_) (fun hc => ?_)
      · have h := h.1 hc
        refine kwp_sub [0, 1, 2, 3, 4, 5, 6, 7, 9] rfl ?_
        exact h
      · have h := h.2 hc
        refine kwp_iconst (pc := 170) dX6_passed_170 ic_1 ?_
        refine kwp_goto (pc := 171) 175 dX6_passed_171 (by decide) ?_
        refine kwp_sub [0, 1, 2, 3, 4, 5, 6, 7, 9] rfl ?_
        exact h

set_option maxRecDepth 20000 in
theorem bX6_passed_174 {l : Launch} {g : va_G × (Nat → ClassId) × (Nat → Nat → Nat)} (x1 : Int32) (x2 : Int32) (x4 : Int32) (x5 : Int32) (x7 : Int32) (x8 : Int32) (x9 : Int32) (x11 : Int32) (M : kM) (Q : Int32 → kM → Prop)
    (h : kWP l (rg_m, g) mX6_passed 175 [(0, .inr (.inr (0, 0))), (1, .inl x1), (2, .inl x2), (4, .inl x4), (5, .inl x5), (7, .inl x7), (8, .inl x8), (9, .inl x9), (11, .inl x11)] [.inl 0] M (kqi Q)) :
    kWP l (rg_m, g) mX6_passed 174 [(0, .inr (.inr (0, 0))), (1, .inl x1), (2, .inl x2), (4, .inl x4), (5, .inl x5), (7, .inl x7), (8, .inl x8), (9, .inl x9), (11, .inl x11)] [] M (kqi Q) := by
  refine kwp_iconst (pc := 174) dX6_passed_174 ic_0 ?_
  exact h

set_option maxRecDepth 20000 in
theorem bX6_passed_175 {l : Launch} {g : va_G × (Nat → ClassId) × (Nat → Nat → Nat)} (x1 : Int32) (x2 : Int32) (x4 : Int32) (x5 : Int32) (x7 : Int32) (x8 : Int32) (x9 : Int32) (x11 : Int32) (s0 : Int32) (M : kM) (Q : Int32 → kM → Prop)
    (h : ∀ z1 : Int32, z1 = x11 + 1 → kWP l (rg_m, g) mX6_passed 121 [(0, .inr (.inr (0, 0))), (1, .inl x1), (2, .inl x2), (4, .inl x4), (5, .inl x5), (7, .inl x7), (8, .inl x8), (9, .inl x9), (10, .inl s0), (11, .inl z1)] [] M (kqi Q)) :
    kWP l (rg_m, g) mX6_passed 175 [(0, .inr (.inr (0, 0))), (1, .inl x1), (2, .inl x2), (4, .inl x4), (5, .inl x5), (7, .inl x7), (8, .inl x8), (9, .inl x9), (11, .inl x11)] [.inl s0] M (kqi Q) := by
  refine kwp_istore (pc := 175) (ls2 := [(10, .inl s0), (0, .inr (.inr (0, 0))), (1, .inl x1), (2, .inl x2), (4, .inl x4), (5, .inl x5), (7, .inl x7), (8, .inl x8), (9, .inl x9), (11, .inl x11)]) dX6_passed_175 (by decide) rfl ?_
  obtain ⟨z1, ez1⟩ : ∃ z : Int32, z = x11 + 1 := ⟨_, rfl⟩
  have h := h z1 ez1
  refine kwp_iinc (pc := 177) (v := z1) (ls2 := [(11, .inl z1), (10, .inl s0), (0, .inr (.inr (0, 0))), (1, .inl x1), (2, .inl x2), (4, .inl x4), (5, .inl x5), (7, .inl x7), (8, .inl x8), (9, .inl x9)]) 9 rfl dX6_passed_177 (by rw [ez1, ic_1]) (by decide) rfl ?_
  refine kwp_goto (pc := 180) 121 dX6_passed_180 (by decide) ?_
  refine kwp_sub [2, 3, 4, 5, 6, 7, 8, 9, 1, 0] rfl ?_
  exact h

set_option maxRecDepth 20000 in
theorem bX6_passed_198 {l : Launch} {g : va_G × (Nat → ClassId) × (Nat → Nat → Nat)} (x1 : Int32) (x2 : Int32) (x4 : Int32) (x5 : Int32) (x7 : Int32) (x9 : Int32) (s0 : Int32) (s1 : Int32) (M : kM) (Q : Int32 → kM → Prop)
    (h : ∀ z1 : Int32, z1 = s1 ||| s0 → ∀ z2 : Int32, z2 = x9 + 1 → kWP l (rg_m, g) mX6_passed 86 [(0, .inr (.inr (0, 0))), (1, .inl x1), (2, .inl x2), (4, .inl x4), (5, .inl x5), (7, .inl x7), (8, .inl z1), (9, .inl z2)] [] M (kqi Q)) :
    kWP l (rg_m, g) mX6_passed 198 [(0, .inr (.inr (0, 0))), (1, .inl x1), (2, .inl x2), (4, .inl x4), (5, .inl x5), (7, .inl x7), (9, .inl x9)] [.inl s0, .inl s1] M (kqi Q) := by
  refine kwp_ior (pc := 198) dX6_passed_198 ?_
  obtain ⟨z1, ez1⟩ : ∃ z : Int32, z = s1 ||| s0 := ⟨_, rfl⟩
  rw [← ez1]
  have h := h z1 ez1
  refine kwp_istore (pc := 199) (ls2 := [(8, .inl z1), (0, .inr (.inr (0, 0))), (1, .inl x1), (2, .inl x2), (4, .inl x4), (5, .inl x5), (7, .inl x7), (9, .inl x9)]) dX6_passed_199 (by decide) rfl ?_
  obtain ⟨z2, ez2⟩ : ∃ z : Int32, z = x9 + 1 := ⟨_, rfl⟩
  have h := h z2 ez2
  refine kwp_iinc (pc := 201) (v := z2) (ls2 := [(9, .inl z2), (8, .inl z1), (0, .inr (.inr (0, 0))), (1, .inl x1), (2, .inl x2), (4, .inl x4), (5, .inl x5), (7, .inl x7)]) 7 rfl dX6_passed_201 (by rw [ez2, ic_1]) (by decide) rfl ?_
  refine kwp_goto (pc := 204) 86 dX6_passed_204 (by decide) ?_
  refine kwp_sub [2, 3, 4, 5, 6, 7, 1, 0] rfl ?_
  exact h

set_option maxRecDepth 20000 in
theorem bX6_film_0 {l : Launch} {g : va_G × (Nat → ClassId) × (Nat → Nat → Nat)} (x1 : Int32) (x2 : Int32) (x3 : Int32) (x4 : Int32) (x5 : Int32) (M : kM) (Q : Int32 → kM → Prop)
    (h : kCT l (rg_m, g) mX6_isRider [.inr (.inr (0, 0)), .inl x1] M (kqi (fun r2 M1 => ((r2 = 0 → kWP l (rg_m, g) mX6_film 29 [] [] M1 (kqi Q)) ∧ (¬ r2 = 0 → kCT l (rg_m, g) mX6_in [.inr (.inl (x2.toInt64)), .inr (.inl 1), .inr (.inl 8)] M1 (kqi (fun r4 M3 => ((r4 = 0 → kWP l (rg_m, g) mX6_film 29 [] [] M3 (kqi Q)) ∧ (¬ r4 = 0 → kCT l (rg_m, g) mX6_isLane [.inl x3, .inl x4] M3 (kqi (fun r6 M5 => ((¬ r6 = 0 → kCT l (rg_m, g) mX6_against [.inr (.inr (0, 0)), .inl x3, .inl x4, .inl x5, .inl x2] M5 (kqi (fun r8 M7 => ((0 ≤ r8 → vp_in ((8 : Int32) + x1) 483 ∧ (∀ z9 : Int32, z9 = M7.1 1 0 ((8 : Int32) + x1).toNatClampNeg → ((x2 ≤ ((M7.1 1 0 (21 : Int32).toNatClampNeg) - z9) → kCT l (rg_m, g) mX6_foretells [.inr (.inr (0, 0))] M7 (kqv (fun M10 => kWP l (rg_m, g) mX6_film 86 [(0, .inr (.inr (0, 0))), (1, .inl x1), (2, .inl x2), (3, .inl x3), (4, .inl x4), (5, .inl x5), (7, .inl z9), (8, .inl 0)] [] M10 (kqi Q)))) ∧ (¬ x2 ≤ ((M7.1 1 0 (21 : Int32).toNatClampNeg) - z9) → Q (-2) M7)))) ∧ (¬ 0 ≤ r8 → Q r8 M7))))) ∧ (r6 = 0 → kWP l (rg_m, g) mX6_film 29 [] [] M5 (kqi Q)))))))))))))) :
    kWP l (rg_m, g) mX6_film 0 [(0, .inr (.inr (0, 0))), (1, .inl x1), (2, .inl x2), (3, .inl x3), (4, .inl x4), (5, .inl x5)] [] M (kqi Q) := by
  refine kwp_aload_n (pc := 0) 0 rfl dX6_film_0 rfl ?_
  refine kwp_iload_n (pc := 1) 1 rfl dX6_film_1 rfl ?_
  refine kwp_callV (pc := 2) (Y := mX6_isRider) (vs := [.inl x1]) (rest := []) fm_X6_isRider fi_X6_isRider ml_X6_42 (by decide) rfl rfl rfl rfl (by simp [kcat]) dX6_film_2 ?_
  refine kCT.mono h (fun v M1 h => ?_)
  obtain ⟨r2, rfl, h⟩ := h
  change kWP l (rg_m, g) mX6_film 5 [(0, .inr (.inr (0, 0))), (1, .inl x1), (2, .inl x2), (3, .inl x3), (4, .inl x4), (5, .inl x5)] [.inl r2] M1 (kqi Q)
  refine kwp_if_eq (pc := 5) 29 dX6_film_5 (by decide) (fun hc => ?_) (fun hc => ?_)
  · have h := h.1 hc
    refine kwp_sub [] rfl ?_
    exact h
  · have h := h.2 hc
    refine kwp_iload_n (pc := 8) 2 rfl dX6_film_8 rfl ?_
    refine kwp_i2l (pc := 9) dX6_film_9 ?_
    refine kwp_lconst (pc := 10) (v := 1) dX6_film_10 (by decide) ?_
    refine kwp_ldc2 (pc := 11) cn_X6_188 dX6_film_11 ?_
    refine kwp_callS (pc := 14) (Y := mX6_in) (vs := [.inr (.inl (x2.toInt64)), .inr (.inl 1), .inr (.inl 8)]) (rest := []) fm_X6_in fs_X6_in ml_X6_38 (by decide) rfl rfl (by simp [kcat]) dX6_film_14 ?_
    refine kCT.mono h (fun v M3 h => ?_)
    obtain ⟨r4, rfl, h⟩ := h
    change kWP l (rg_m, g) mX6_film 17 [(0, .inr (.inr (0, 0))), (1, .inl x1), (2, .inl x2), (3, .inl x3), (4, .inl x4), (5, .inl x5)] [.inl r4] M3 (kqi Q)
    refine kwp_if_eq (pc := 17) 29 dX6_film_17 (by decide) (fun hc => ?_) (fun hc => ?_)
    · have h := h.1 hc
      refine kwp_sub [] rfl ?_
      exact h
    · have h := h.2 hc
      refine kwp_iload_n (pc := 20) 3 rfl dX6_film_20 rfl ?_
      refine kwp_iload (pc := 21) 4 rfl dX6_film_21 ?_
      refine kwp_callS (pc := 23) (Y := mX6_isLane) (vs := [.inl x3, .inl x4]) (rest := []) fm_X6_isLane fs_X6_isLane ml_X6_185 (by decide) rfl rfl (by simp [kcat]) dX6_film_23 ?_
      refine kCT.mono h (fun v M5 h => ?_)
      obtain ⟨r6, rfl, h⟩ := h
      change kWP l (rg_m, g) mX6_film 26 [(0, .inr (.inr (0, 0))), (1, .inl x1), (2, .inl x2), (3, .inl x3), (4, .inl x4), (5, .inl x5)] [.inl r6] M5 (kqi Q)
      refine kwp_if_ne (pc := 26) 31 dX6_film_26 (by decide) (fun hc => ?_) (fun hc => ?_)
      · have h := h.1 hc
        refine kwp_aload_n (pc := 31) 0 rfl dX6_film_31 rfl ?_
        refine kwp_iload_n (pc := 32) 3 rfl dX6_film_32 rfl ?_
        refine kwp_iload (pc := 33) 4 rfl dX6_film_33 ?_
        refine kwp_iload (pc := 35) 5 rfl dX6_film_35 ?_
        refine kwp_iload_n (pc := 37) 2 rfl dX6_film_37 rfl ?_
        refine kwp_callV (pc := 38) (Y := mX6_against) (vs := [.inl x3, .inl x4, .inl x5, .inl x2]) (rest := []) fm_X6_against fi_X6_against ml_X6_190 (by decide) rfl rfl rfl rfl (by simp [kcat]) dX6_film_38 ?_
        refine kCT.mono h (fun v M7 h => ?_)
        obtain ⟨r8, rfl, h⟩ := h
        change kWP l (rg_m, g) mX6_film 41 [(0, .inr (.inr (0, 0))), (1, .inl x1), (2, .inl x2), (3, .inl x3), (4, .inl x4), (5, .inl x5)] [.inl r8] M7 (kqi Q)
        refine kwp_istore (pc := 41) (ls2 := [(6, .inl r8), (0, .inr (.inr (0, 0))), (1, .inl x1), (2, .inl x2), (3, .inl x3), (4, .inl x4), (5, .inl x5)]) dX6_film_41 (by decide) rfl ?_
        refine kwp_iload (pc := 43) 0 rfl dX6_film_43 ?_
        refine kwp_if_ge (pc := 45) 51 dX6_film_45 (by decide) (fun hc => ?_) (fun hc => ?_)
        · have h := h.1 hc
          refine kwp_aload_n (pc := 51) 1 rfl dX6_film_51 rfl ?_
          refine kwp_getc (pc := 52) fl_X6_7 rfl rfl dX6_film_52 ?_
          refine kwp_bipush (pc := 55) dX6_film_55 bp_8 ?_
          refine kwp_iload_n (pc := 57) 2 rfl dX6_film_57 rfl ?_
          refine kwp_iadd (pc := 58) dX6_film_58 ?_
          obtain ⟨hin, h⟩ := h
          refine kwp_iald (pc := 59) rfl hin dX6_film_59 ?_
          obtain ⟨z9, ez9⟩ : ∃ z : Int32, z = M7.1 1 0 ((8 : Int32) + x1).toNatClampNeg := ⟨_, rfl⟩
          rw [← ez9]
          have h := h z9 ez9
          refine kwp_istore (pc := 60) (ls2 := [(7, .inl z9), (6, .inl r8), (0, .inr (.inr (0, 0))), (1, .inl x1), (2, .inl x2), (3, .inl x3), (4, .inl x4), (5, .inl x5)]) dX6_film_60 (by decide) rfl ?_
          refine kwp_iload_n (pc := 62) 4 rfl dX6_film_62 rfl ?_
          refine kwp_aload_n (pc := 63) 2 rfl dX6_film_63 rfl ?_
          refine kwp_getc (pc := 64) fl_X6_7 rfl rfl dX6_film_64 ?_
          refine kwp_bipush (pc := 67) dX6_film_67 bp_21 ?_
          refine kwp_iald (pc := 69) rfl (show vp_in (21 : Int32) 483 by unfold vp_in; decide) dX6_film_69 ?_
          refine kwp_iload (pc := 70) 0 rfl dX6_film_70 ?_
          refine kwp_isub (pc := 72) dX6_film_72 ?_
          refine kwp_icmp_le (pc := 73) 79 dX6_film_73 (by decide) (fun hc => ?_) (fun hc => ?_)
          · have h := h.1 hc
            refine kwp_aload_n (pc := 79) 2 rfl dX6_film_79 rfl ?_
            refine kwp_callV (pc := 80) (Y := mX6_foretells) (vs := []) (rest := []) fm_X6_foretells fi_X6_foretells ml_X6_156 (by decide) rfl rfl rfl rfl (by simp [kcat]) dX6_film_80 ?_
            refine kCT.mono h (fun v M10 h => ?_)
            obtain ⟨rfl, h⟩ := h
            change kWP l (rg_m, g) mX6_film 83 [(7, .inl z9), (6, .inl r8), (0, .inr (.inr (0, 0))), (1, .inl x1), (2, .inl x2), (3, .inl x3), (4, .inl x4), (5, .inl x5)] [] M10 (kqi Q)
            refine kwp_iconst (pc := 83) dX6_film_83 ic_0 ?_
            refine kwp_istore (pc := 84) (ls2 := [(8, .inl 0), (7, .inl z9), (6, .inl r8), (0, .inr (.inr (0, 0))), (1, .inl x1), (2, .inl x2), (3, .inl x3), (4, .inl x4), (5, .inl x5)]) dX6_film_84 (by decide) rfl ?_
            refine kwp_sub [3, 4, 5, 6, 7, 8, 1, 0] rfl ?_
            exact h
          · have h := h.2 hc
            refine kwp_bipush (pc := 76) dX6_film_76 bp_m2 ?_
            exact kwp_iret (pc := 78) rfl dX6_film_78 ⟨_, rfl, h⟩
        · have h := h.2 hc
          refine kwp_iload (pc := 48) 0 rfl dX6_film_48 ?_
          exact kwp_iret (pc := 50) rfl dX6_film_50 ⟨_, rfl, h⟩
      · have h := h.2 hc
        refine kwp_sub [] rfl ?_
        exact h

set_option maxRecDepth 20000 in
theorem bX6_film_29 {l : Launch} {g : va_G × (Nat → ClassId) × (Nat → Nat → Nat)}  (M : kM) (Q : Int32 → kM → Prop)
    (h : Q (-1) M) :
    kWP l (rg_m, g) mX6_film 29 [] [] M (kqi Q) := by
  refine kwp_iconst (pc := 29) dX6_film_29 ic_m1 ?_
  exact kwp_iret (pc := 30) rfl dX6_film_30 ⟨_, rfl, h⟩

set_option maxRecDepth 20000 in
theorem bX6_film_86 {l : Launch} {g : va_G × (Nat → ClassId) × (Nat → Nat → Nat)} (x1 : Int32) (x2 : Int32) (x3 : Int32) (x4 : Int32) (x5 : Int32) (x7 : Int32) (x8 : Int32) (M : kM) (Q : Int32 → kM → Prop)
    (h : ((x2 ≤ x8 → Q x2 M) ∧ (¬ x2 ≤ x8 → vp_in (((((9 : Int32) * x1) + x7) + 1) + x8) 36 ∧ (kCT l (rg_m, g) mX6_cut [.inl x4, .inr (.inl ((M.1 6 0 (((((9 : Int32) * x1) + x7) + 1) + x8).toNatClampNeg).toInt64))] M (kql (fun r2 M1 => vp_in ((((24 : Int32) * x3) + x5) + x8) 96 ∧ (∀ M3 : kM, M3 = kul M1 3 0 ((((24 : Int32) * x3) + x5) + x8).toNatClampNeg r2 → ∀ z4 : Int32, z4 = x8 + 1 → kWP l (rg_m, g) mX6_film 86 [(0, .inr (.inr (0, 0))), (1, .inl x1), (2, .inl x2), (3, .inl x3), (4, .inl x4), (5, .inl x5), (7, .inl x7), (8, .inl z4)] [] M3 (kqi Q)))))))) :
    kWP l (rg_m, g) mX6_film 86 [(0, .inr (.inr (0, 0))), (1, .inl x1), (2, .inl x2), (3, .inl x3), (4, .inl x4), (5, .inl x5), (7, .inl x7), (8, .inl x8)] [] M (kqi Q) := by
  refine kwp_iload (pc := 86) 7 rfl dX6_film_86 ?_
  refine kwp_iload_n (pc := 88) 2 rfl dX6_film_88 rfl ?_
  refine kwp_icmp_ge (pc := 89) 136 dX6_film_89 (by decide) (fun hc => ?_) (fun hc => ?_)
  · have h := h.1 hc
    refine kwp_iload_n (pc := 136) 2 rfl dX6_film_136 rfl ?_
    exact kwp_iret (pc := 137) rfl dX6_film_137 ⟨_, rfl, h⟩
  · have h := h.2 hc
    refine kwp_aload_n (pc := 92) 0 rfl dX6_film_92 rfl ?_
    refine kwp_getc (pc := 93) fl_X6_16 rfl rfl dX6_film_93 ?_
    refine kwp_bipush (pc := 96) dX6_film_96 bp_24 ?_
    refine kwp_iload_n (pc := 98) 3 rfl dX6_film_98 rfl ?_
    refine kwp_imul (pc := 99) dX6_film_99 ?_
    refine kwp_iload (pc := 100) 5 rfl dX6_film_100 ?_
    refine kwp_iadd (pc := 102) dX6_film_102 ?_
    refine kwp_iload (pc := 103) 7 rfl dX6_film_103 ?_
    refine kwp_iadd (pc := 105) dX6_film_105 ?_
    refine kwp_iload (pc := 106) 4 rfl dX6_film_106 ?_
    refine kwp_aload_n (pc := 108) 0 rfl dX6_film_108 rfl ?_
    refine kwp_getc (pc := 109) fl_X6_26 rfl rfl dX6_film_109 ?_
    refine kwp_bipush (pc := 112) dX6_film_112 bp_9 ?_
    refine kwp_iload_n (pc := 114) 1 rfl dX6_film_114 rfl ?_
    refine kwp_imul (pc := 115) dX6_film_115 ?_
    refine kwp_iload (pc := 116) 6 rfl dX6_film_116 ?_
    refine kwp_iadd (pc := 118) dX6_film_118 ?_
    refine kwp_iconst (pc := 119) dX6_film_119 ic_1 ?_
    refine kwp_iadd (pc := 120) dX6_film_120 ?_
    refine kwp_iload (pc := 121) 7 rfl dX6_film_121 ?_
    refine kwp_iadd (pc := 123) dX6_film_123 ?_
    obtain ⟨hin, h⟩ := h
    refine kwp_iald (pc := 124) rfl hin dX6_film_124 ?_
    refine kwp_i2l (pc := 125) dX6_film_125 ?_
    refine kwp_callS (pc := 126) (Y := mX6_cut) (vs := [.inl x4, .inr (.inl ((M.1 6 0 (((((9 : Int32) * x1) + x7) + 1) + x8).toNatClampNeg).toInt64))]) (rest := [.inl ((((24 : Int32) * x3) + x5) + x8), .inr (.inr (3, 0))]) fm_X6_cut fs_X6_cut ml_X6_194 (by decide) rfl rfl (by simp [kcat]) dX6_film_126 ?_
    refine kCT.mono h (fun v M1 h => ?_)
    obtain ⟨r2, rfl, h⟩ := h
    change kWP l (rg_m, g) mX6_film 129 [(0, .inr (.inr (0, 0))), (1, .inl x1), (2, .inl x2), (3, .inl x3), (4, .inl x4), (5, .inl x5), (7, .inl x7), (8, .inl x8)] [.inr (.inl r2), .inl ((((24 : Int32) * x3) + x5) + x8), .inr (.inr (3, 0))] M1 (kqi Q)
    obtain ⟨hin, h⟩ := h
    refine kwp_last (pc := 129) rfl hin dX6_film_129 ?_
    obtain ⟨M3, eM3⟩ : ∃ z : kM, z = kul M1 3 0 ((((24 : Int32) * x3) + x5) + x8).toNatClampNeg r2 := ⟨_, rfl⟩
    rw [← eM3]
    have h := h M3 eM3
    obtain ⟨z4, ez4⟩ : ∃ z : Int32, z = x8 + 1 := ⟨_, rfl⟩
    have h := h z4 ez4
    refine kwp_iinc (pc := 130) (v := z4) (ls2 := [(8, .inl z4), (0, .inr (.inr (0, 0))), (1, .inl x1), (2, .inl x2), (3, .inl x3), (4, .inl x4), (5, .inl x5), (7, .inl x7)]) 7 rfl dX6_film_130 (by rw [ez4, ic_1]) (by decide) rfl ?_
    refine kwp_goto (pc := 133) 86 dX6_film_133 (by decide) ?_
    refine kwp_sub [1, 2, 3, 4, 5, 6, 7, 0] rfl ?_
    exact h

set_option maxRecDepth 20000 in
theorem bX6_sheet_0 {l : Launch} {g : va_G × (Nat → ClassId) × (Nat → Nat → Nat)} (x1 : Int32) (x2 : Int32) (x3 : Int32) (M : kM) (Q : Int32 → kM → Prop)
    (h : kCT l (rg_m, g) mX6_isLane [.inl x1, .inl x2] M (kqi (fun r2 M1 => ((r2 = 0 → kWP l (rg_m, g) mX6_sheet 14 [] [] M1 (kqi Q)) ∧ (¬ r2 = 0 → ((x3 ≤ 24 → ((0 ≤ x3 → vp_in x1 4 ∧ (∀ M3 : kM, M3 = ku M1 4 0 x1.toNatClampNeg x2 → vp_in x1 4 ∧ (∀ M4 : kM, M4 = ku M3 5 0 x1.toNatClampNeg x3 → kWP l (rg_m, g) mX6_sheet 40 [(0, .inr (.inr (0, 0))), (1, .inl x1), (3, .inl x3), (4, .inl 0)] [] M4 (kqi Q)))) ∧ (¬ 0 ≤ x3 → Q (-14) M1))) ∧ (¬ x3 ≤ 24 → kWP l (rg_m, g) mX6_sheet 14 [] [] M1 (kqi Q)))))))) :
    kWP l (rg_m, g) mX6_sheet 0 [(0, .inr (.inr (0, 0))), (1, .inl x1), (2, .inl x2), (3, .inl x3)] [] M (kqi Q) := by
  refine kwp_iload_n (pc := 0) 1 rfl dX6_sheet_0 rfl ?_
  refine kwp_iload_n (pc := 1) 2 rfl dX6_sheet_1 rfl ?_
  refine kwp_callS (pc := 2) (Y := mX6_isLane) (vs := [.inl x1, .inl x2]) (rest := []) fm_X6_isLane fs_X6_isLane ml_X6_185 (by decide) rfl rfl (by simp [kcat]) dX6_sheet_2 ?_
  refine kCT.mono h (fun v M1 h => ?_)
  obtain ⟨r2, rfl, h⟩ := h
  change kWP l (rg_m, g) mX6_sheet 5 [(0, .inr (.inr (0, 0))), (1, .inl x1), (2, .inl x2), (3, .inl x3)] [.inl r2] M1 (kqi Q)
  refine kwp_if_eq (pc := 5) 14 dX6_sheet_5 (by decide) (fun hc => ?_) (fun hc => ?_)
  · have h := h.1 hc
    refine kwp_sub [] rfl ?_
    exact h
  · have h := h.2 hc
    refine kwp_iload_n (pc := 8) 3 rfl dX6_sheet_8 rfl ?_
    refine kwp_bipush (pc := 9) dX6_sheet_9 bp_24 ?_
    refine kwp_icmp_le (pc := 11) 16 dX6_sheet_11 (by decide) (fun hc => ?_) (fun hc => ?_)
    · have h := h.1 hc
      refine kwp_iload_n (pc := 16) 3 rfl dX6_sheet_16 rfl ?_
      refine kwp_if_ge (pc := 17) 23 dX6_sheet_17 (by decide) (fun hc => ?_) (fun hc => ?_)
      · have h := h.1 hc
        refine kwp_aload_n (pc := 23) 0 rfl dX6_sheet_23 rfl ?_
        refine kwp_getc (pc := 24) fl_X6_20 rfl rfl dX6_sheet_24 ?_
        refine kwp_iload_n (pc := 27) 1 rfl dX6_sheet_27 rfl ?_
        refine kwp_iload_n (pc := 28) 2 rfl dX6_sheet_28 rfl ?_
        obtain ⟨hin, h⟩ := h
        refine kwp_iast (pc := 29) rfl hin dX6_sheet_29 ?_
        obtain ⟨M3, eM3⟩ : ∃ z : kM, z = ku M1 4 0 x1.toNatClampNeg x2 := ⟨_, rfl⟩
        rw [← eM3]
        have h := h M3 eM3
        refine kwp_aload_n (pc := 30) 0 rfl dX6_sheet_30 rfl ?_
        refine kwp_getc (pc := 31) fl_X6_23 rfl rfl dX6_sheet_31 ?_
        refine kwp_iload_n (pc := 34) 1 rfl dX6_sheet_34 rfl ?_
        refine kwp_iload_n (pc := 35) 3 rfl dX6_sheet_35 rfl ?_
        obtain ⟨hin, h⟩ := h
        refine kwp_iast (pc := 36) rfl hin dX6_sheet_36 ?_
        obtain ⟨M4, eM4⟩ : ∃ z : kM, z = ku M3 5 0 x1.toNatClampNeg x3 := ⟨_, rfl⟩
        rw [← eM4]
        have h := h M4 eM4
        refine kwp_iconst (pc := 37) dX6_sheet_37 ic_0 ?_
        refine kwp_istore (pc := 38) (ls2 := [(4, .inl 0), (0, .inr (.inr (0, 0))), (1, .inl x1), (2, .inl x2), (3, .inl x3)]) dX6_sheet_38 (by decide) rfl ?_
        refine kwp_sub [1, 2, 4, 0] rfl ?_
        exact h
      · have h := h.2 hc
        refine kwp_bipush (pc := 20) dX6_sheet_20 bp_m14 ?_
        exact kwp_iret (pc := 22) rfl dX6_sheet_22 ⟨_, rfl, h⟩
    · have h := h.2 hc
      refine kwp_sub [] rfl ?_
      exact h

set_option maxRecDepth 20000 in
theorem bX6_sheet_14 {l : Launch} {g : va_G × (Nat → ClassId) × (Nat → Nat → Nat)}  (M : kM) (Q : Int32 → kM → Prop)
    (h : Q (-1) M) :
    kWP l (rg_m, g) mX6_sheet 14 [] [] M (kqi Q) := by
  refine kwp_iconst (pc := 14) dX6_sheet_14 ic_m1 ?_
  exact kwp_iret (pc := 15) rfl dX6_sheet_15 ⟨_, rfl, h⟩

set_option maxRecDepth 20000 in
theorem bX6_sheet_40 {l : Launch} {g : va_G × (Nat → ClassId) × (Nat → Nat → Nat)} (x1 : Int32) (x3 : Int32) (x4 : Int32) (M : kM) (Q : Int32 → kM → Prop)
    (h : ((24 ≤ x4 → Q x3 M) ∧ (¬ 24 ≤ x4 → vp_in (((24 : Int32) * x1) + x4) 96 ∧ (∀ M1 : kM, M1 = kul M 3 0 (((24 : Int32) * x1) + x4).toNatClampNeg 0 → ∀ z2 : Int32, z2 = x4 + 1 → kWP l (rg_m, g) mX6_sheet 40 [(0, .inr (.inr (0, 0))), (1, .inl x1), (3, .inl x3), (4, .inl z2)] [] M1 (kqi Q))))) :
    kWP l (rg_m, g) mX6_sheet 40 [(0, .inr (.inr (0, 0))), (1, .inl x1), (3, .inl x3), (4, .inl x4)] [] M (kqi Q) := by
  refine kwp_iload (pc := 40) 3 rfl dX6_sheet_40 ?_
  refine kwp_bipush (pc := 42) dX6_sheet_42 bp_24 ?_
  refine kwp_icmp_ge (pc := 44) 66 dX6_sheet_44 (by decide) (fun hc => ?_) (fun hc => ?_)
  · have h := h.1 hc
    refine kwp_iload_n (pc := 66) 2 rfl dX6_sheet_66 rfl ?_
    exact kwp_iret (pc := 67) rfl dX6_sheet_67 ⟨_, rfl, h⟩
  · have h := h.2 hc
    refine kwp_aload_n (pc := 47) 0 rfl dX6_sheet_47 rfl ?_
    refine kwp_getc (pc := 48) fl_X6_16 rfl rfl dX6_sheet_48 ?_
    refine kwp_bipush (pc := 51) dX6_sheet_51 bp_24 ?_
    refine kwp_iload_n (pc := 53) 1 rfl dX6_sheet_53 rfl ?_
    refine kwp_imul (pc := 54) dX6_sheet_54 ?_
    refine kwp_iload (pc := 55) 3 rfl dX6_sheet_55 ?_
    refine kwp_iadd (pc := 57) dX6_sheet_57 ?_
    refine kwp_lconst (pc := 58) (v := 0) dX6_sheet_58 (by decide) ?_
    obtain ⟨hin, h⟩ := h
    refine kwp_last (pc := 59) rfl hin dX6_sheet_59 ?_
    obtain ⟨M1, eM1⟩ : ∃ z : kM, z = kul M 3 0 (((24 : Int32) * x1) + x4).toNatClampNeg 0 := ⟨_, rfl⟩
    rw [← eM1]
    have h := h M1 eM1
    obtain ⟨z2, ez2⟩ : ∃ z : Int32, z = x4 + 1 := ⟨_, rfl⟩
    have h := h z2 ez2
    refine kwp_iinc (pc := 60) (v := z2) (ls2 := [(4, .inl z2), (0, .inr (.inr (0, 0))), (1, .inl x1), (3, .inl x3)]) 3 rfl dX6_sheet_60 (by rw [ez2, ic_1]) (by decide) rfl ?_
    refine kwp_goto (pc := 63) 40 dX6_sheet_63 (by decide) ?_
    refine kwp_sub [1, 2, 3, 0] rfl ?_
    exact h

set_option maxRecDepth 20000 in
theorem bX6_drop_0 {l : Launch} {g : va_G × (Nat → ClassId) × (Nat → Nat → Nat)} (x1 : Int32) (M : kM) (Q : Int32 → kM → Prop)
    (h : kCT l (rg_m, g) mX6_isSheet [.inl x1] M (kqi (fun r2 M1 => ((¬ r2 = 0 → vp_in x1 4 ∧ (((0 ≤ (M1.1 5 0 x1.toNatClampNeg) → vp_in x1 4 ∧ (∀ z3 : Int32, z3 = M1.1 5 0 x1.toNatClampNeg → vp_in x1 4 ∧ (∀ M4 : kM, M4 = ku M1 5 0 x1.toNatClampNeg (-1) → Q z3 M4))) ∧ (¬ 0 ≤ (M1.1 5 0 x1.toNatClampNeg) → Q (-11) M1)))) ∧ (r2 = 0 → Q (-1) M1))))) :
    kWP l (rg_m, g) mX6_drop 0 [(0, .inr (.inr (0, 0))), (1, .inl x1)] [] M (kqi Q) := by
  refine kwp_iload_n (pc := 0) 1 rfl dX6_drop_0 rfl ?_
  refine kwp_callS (pc := 1) (Y := mX6_isSheet) (vs := [.inl x1]) (rest := []) fm_X6_isSheet fs_X6_isSheet ml_X6_182 (by decide) rfl rfl (by simp [kcat]) dX6_drop_1 ?_
  refine kCT.mono h (fun v M1 h => ?_)
  obtain ⟨r2, rfl, h⟩ := h
  change kWP l (rg_m, g) mX6_drop 4 [(0, .inr (.inr (0, 0))), (1, .inl x1)] [.inl r2] M1 (kqi Q)
  refine kwp_if_ne (pc := 4) 9 dX6_drop_4 (by decide) (fun hc => ?_) (fun hc => ?_)
  · have h := h.1 hc
    refine kwp_aload_n (pc := 9) 0 rfl dX6_drop_9 rfl ?_
    refine kwp_getc (pc := 10) fl_X6_23 rfl rfl dX6_drop_10 ?_
    refine kwp_iload_n (pc := 13) 1 rfl dX6_drop_13 rfl ?_
    obtain ⟨hin, h⟩ := h
    refine kwp_iald (pc := 14) rfl hin dX6_drop_14 ?_
    refine kwp_if_ge (pc := 15) 21 dX6_drop_15 (by decide) (fun hc => ?_) (fun hc => ?_)
    · have h := h.1 hc
      refine kwp_aload_n (pc := 21) 0 rfl dX6_drop_21 rfl ?_
      refine kwp_getc (pc := 22) fl_X6_23 rfl rfl dX6_drop_22 ?_
      refine kwp_iload_n (pc := 25) 1 rfl dX6_drop_25 rfl ?_
      obtain ⟨hin, h⟩ := h
      refine kwp_iald (pc := 26) rfl hin dX6_drop_26 ?_
      obtain ⟨z3, ez3⟩ : ∃ z : Int32, z = M1.1 5 0 x1.toNatClampNeg := ⟨_, rfl⟩
      rw [← ez3]
      have h := h z3 ez3
      refine kwp_istore_n (pc := 27) (ls2 := [(2, .inl z3), (0, .inr (.inr (0, 0))), (1, .inl x1)]) dX6_drop_27 rfl (by decide) rfl ?_
      refine kwp_aload_n (pc := 28) 1 rfl dX6_drop_28 rfl ?_
      refine kwp_getc (pc := 29) fl_X6_23 rfl rfl dX6_drop_29 ?_
      refine kwp_iload_n (pc := 32) 2 rfl dX6_drop_32 rfl ?_
      refine kwp_iconst (pc := 33) dX6_drop_33 ic_m1 ?_
      obtain ⟨hin, h⟩ := h
      refine kwp_iast (pc := 34) rfl hin dX6_drop_34 ?_
      obtain ⟨M4, eM4⟩ : ∃ z : kM, z = ku M1 5 0 x1.toNatClampNeg (-1) := ⟨_, rfl⟩
      rw [← eM4]
      have h := h M4 eM4
      refine kwp_iload_n (pc := 35) 0 rfl dX6_drop_35 rfl ?_
      exact kwp_iret (pc := 36) rfl dX6_drop_36 ⟨_, rfl, h⟩
    · have h := h.2 hc
      refine kwp_bipush (pc := 18) dX6_drop_18 bp_m11 ?_
      exact kwp_iret (pc := 20) rfl dX6_drop_20 ⟨_, rfl, h⟩
  · have h := h.2 hc
    refine kwp_iconst (pc := 7) dX6_drop_7 ic_m1 ?_
    exact kwp_iret (pc := 8) rfl dX6_drop_8 ⟨_, rfl, h⟩

set_option maxRecDepth 20000 in
theorem bX6_item_0 {l : Launch} {g : va_G × (Nat → ClassId) × (Nat → Nat → Nat)} (x1 : Int32) (x2 : Int32) (x3 : Int32) (x4 : Int64) (M : kM) (Q : Int32 → kM → Prop)
    (h : kCT l (rg_m, g) mX6_isLane [.inl x1, .inl x2] M (kqi (fun r2 M1 => ((¬ r2 = 0 → kCT l (rg_m, g) mX6_against [.inr (.inr (0, 0)), .inl x1, .inl x2, .inl x3, .inl 1] M1 (kqi (fun r4 M3 => ((0 ≤ r4 → kCT l (rg_m, g) mX6_cut [.inl x2, .inr (.inl x4)] M3 (kql (fun r6 M5 => vp_in (((24 : Int32) * x1) + x3) 96 ∧ (∀ M7 : kM, M7 = kul M5 3 0 (((24 : Int32) * x1) + x3).toNatClampNeg r6 → Q 1 M7)))) ∧ (¬ 0 ≤ r4 → Q r4 M3))))) ∧ (r2 = 0 → Q (-1) M1))))) :
    kWP l (rg_m, g) mX6_item 0 [(0, .inr (.inr (0, 0))), (1, .inl x1), (2, .inl x2), (3, .inl x3), (4, .inr (.inl x4))] [] M (kqi Q) := by
  refine kwp_iload_n (pc := 0) 1 rfl dX6_item_0 rfl ?_
  refine kwp_iload_n (pc := 1) 2 rfl dX6_item_1 rfl ?_
  refine kwp_callS (pc := 2) (Y := mX6_isLane) (vs := [.inl x1, .inl x2]) (rest := []) fm_X6_isLane fs_X6_isLane ml_X6_185 (by decide) rfl rfl (by simp [kcat]) dX6_item_2 ?_
  refine kCT.mono h (fun v M1 h => ?_)
  obtain ⟨r2, rfl, h⟩ := h
  change kWP l (rg_m, g) mX6_item 5 [(0, .inr (.inr (0, 0))), (1, .inl x1), (2, .inl x2), (3, .inl x3), (4, .inr (.inl x4))] [.inl r2] M1 (kqi Q)
  refine kwp_if_ne (pc := 5) 10 dX6_item_5 (by decide) (fun hc => ?_) (fun hc => ?_)
  · have h := h.1 hc
    refine kwp_aload_n (pc := 10) 0 rfl dX6_item_10 rfl ?_
    refine kwp_iload_n (pc := 11) 1 rfl dX6_item_11 rfl ?_
    refine kwp_iload_n (pc := 12) 2 rfl dX6_item_12 rfl ?_
    refine kwp_iload_n (pc := 13) 3 rfl dX6_item_13 rfl ?_
    refine kwp_iconst (pc := 14) dX6_item_14 ic_1 ?_
    refine kwp_callV (pc := 15) (Y := mX6_against) (vs := [.inl x1, .inl x2, .inl x3, .inl 1]) (rest := []) fm_X6_against fi_X6_against ml_X6_190 (by decide) rfl rfl rfl rfl (by simp [kcat]) dX6_item_15 ?_
    refine kCT.mono h (fun v M3 h => ?_)
    obtain ⟨r4, rfl, h⟩ := h
    change kWP l (rg_m, g) mX6_item 18 [(0, .inr (.inr (0, 0))), (1, .inl x1), (2, .inl x2), (3, .inl x3), (4, .inr (.inl x4))] [.inl r4] M3 (kqi Q)
    refine kwp_istore (pc := 18) (ls2 := [(6, .inl r4), (0, .inr (.inr (0, 0))), (1, .inl x1), (2, .inl x2), (3, .inl x3), (4, .inr (.inl x4))]) dX6_item_18 (by decide) rfl ?_
    refine kwp_iload (pc := 20) 0 rfl dX6_item_20 ?_
    refine kwp_if_ge (pc := 22) 28 dX6_item_22 (by decide) (fun hc => ?_) (fun hc => ?_)
    · have h := h.1 hc
      refine kwp_aload_n (pc := 28) 1 rfl dX6_item_28 rfl ?_
      refine kwp_getc (pc := 29) fl_X6_16 rfl rfl dX6_item_29 ?_
      refine kwp_bipush (pc := 32) dX6_item_32 bp_24 ?_
      refine kwp_iload_n (pc := 34) 2 rfl dX6_item_34 rfl ?_
      refine kwp_imul (pc := 35) dX6_item_35 ?_
      refine kwp_iload_n (pc := 36) 4 rfl dX6_item_36 rfl ?_
      refine kwp_iadd (pc := 37) dX6_item_37 ?_
      refine kwp_iload_n (pc := 38) 3 rfl dX6_item_38 rfl ?_
      refine kwp_lload (pc := 39) 5 rfl dX6_item_39 ?_
      refine kwp_callS (pc := 41) (Y := mX6_cut) (vs := [.inl x2, .inr (.inl x4)]) (rest := [.inl (((24 : Int32) * x1) + x3), .inr (.inr (3, 0))]) fm_X6_cut fs_X6_cut ml_X6_194 (by decide) rfl rfl (by simp [kcat]) dX6_item_41 ?_
      refine kCT.mono h (fun v M5 h => ?_)
      obtain ⟨r6, rfl, h⟩ := h
      change kWP l (rg_m, g) mX6_item 44 [(6, .inl r4), (0, .inr (.inr (0, 0))), (1, .inl x1), (2, .inl x2), (3, .inl x3), (4, .inr (.inl x4))] [.inr (.inl r6), .inl (((24 : Int32) * x1) + x3), .inr (.inr (3, 0))] M5 (kqi Q)
      obtain ⟨hin, h⟩ := h
      refine kwp_last (pc := 44) rfl hin dX6_item_44 ?_
      obtain ⟨M7, eM7⟩ : ∃ z : kM, z = kul M5 3 0 (((24 : Int32) * x1) + x3).toNatClampNeg r6 := ⟨_, rfl⟩
      rw [← eM7]
      have h := h M7 eM7
      refine kwp_iconst (pc := 45) dX6_item_45 ic_1 ?_
      exact kwp_iret (pc := 46) rfl dX6_item_46 ⟨_, rfl, h⟩
    · have h := h.2 hc
      refine kwp_iload (pc := 25) 0 rfl dX6_item_25 ?_
      exact kwp_iret (pc := 27) rfl dX6_item_27 ⟨_, rfl, h⟩
  · have h := h.2 hc
    refine kwp_iconst (pc := 8) dX6_item_8 ic_m1 ?_
    exact kwp_iret (pc := 9) rfl dX6_item_9 ⟨_, rfl, h⟩

set_option maxRecDepth 20000 in
theorem bX6_copy_0 {l : Launch} {g : va_G × (Nat → ClassId) × (Nat → Nat → Nat)} (x1 : Int32) (x2 : Int32) (x3 : Int32) (x4 : Int32) (x5 : Int32) (M : kM) (Q : Int32 → kM → Prop)
    (h : kCT l (rg_m, g) mX6_isSheet [.inl x1] M (kqi (fun r2 M1 => ((r2 = 0 → kWP l (rg_m, g) mX6_copy 14 [] [] M1 (kqi Q)) ∧ (¬ r2 = 0 → kCT l (rg_m, g) mX6_isSheet [.inl x3] M1 (kqi (fun r4 M3 => ((¬ r4 = 0 → vp_in x1 4 ∧ ((((M3.1 5 0 x1.toNatClampNeg) < 0 → kWP l (rg_m, g) mX6_copy 34 [] [] M3 (kqi Q)) ∧ (¬ (M3.1 5 0 x1.toNatClampNeg) < 0 → vp_in x3 4 ∧ (((0 ≤ (M3.1 5 0 x3.toNatClampNeg) → vp_in x1 4 ∧ (vp_in x3 4 ∧ ((((M3.1 4 0 x1.toNatClampNeg) = (M3.1 4 0 x3.toNatClampNeg) → vp_in x1 4 ∧ (kCT l (rg_m, g) mX6_against [.inr (.inr (0, 0)), .inl x1, .inl (M3.1 4 0 x1.toNatClampNeg), .inl x2, .inl x5] M3 (kqi (fun r6 M5 => ((r6 < 0 → kWP l (rg_m, g) mX6_copy 90 [] [] M5 (kqi Q)) ∧ (¬ r6 < 0 → vp_in x3 4 ∧ (kCT l (rg_m, g) mX6_against [.inr (.inr (0, 0)), .inl x3, .inl (M5.1 4 0 x3.toNatClampNeg), .inl x4, .inl x5] M5 (kqi (fun r8 M7 => ((0 ≤ r8 → kWP l (rg_m, g) mX6_copy 96 [(0, .inr (.inr (0, 0))), (1, .inl x1), (2, .inl x2), (3, .inl x3), (4, .inl x4), (5, .inl x5), (6, .inl 0)] [] M7 (kqi Q)) ∧ (¬ 0 ≤ r8 → kWP l (rg_m, g) mX6_copy 90 [] [] M7 (kqi Q)))))))))))) ∧ (¬ (M3.1 4 0 x1.toNatClampNeg) = (M3.1 4 0 x3.toNatClampNeg) → Q (-12) M3))))) ∧ (¬ 0 ≤ (M3.1 5 0 x3.toNatClampNeg) → kWP l (rg_m, g) mX6_copy 34 [] [] M3 (kqi Q)))))))) ∧ (r4 = 0 → kWP l (rg_m, g) mX6_copy 14 [] [] M3 (kqi Q)))))))))) :
    kWP l (rg_m, g) mX6_copy 0 [(0, .inr (.inr (0, 0))), (1, .inl x1), (2, .inl x2), (3, .inl x3), (4, .inl x4), (5, .inl x5)] [] M (kqi Q) := by
  refine kwp_iload_n (pc := 0) 1 rfl dX6_copy_0 rfl ?_
  refine kwp_callS (pc := 1) (Y := mX6_isSheet) (vs := [.inl x1]) (rest := []) fm_X6_isSheet fs_X6_isSheet ml_X6_182 (by decide) rfl rfl (by simp [kcat]) dX6_copy_1 ?_
  refine kCT.mono h (fun v M1 h => ?_)
  obtain ⟨r2, rfl, h⟩ := h
  change kWP l (rg_m, g) mX6_copy 4 [(0, .inr (.inr (0, 0))), (1, .inl x1), (2, .inl x2), (3, .inl x3), (4, .inl x4), (5, .inl x5)] [.inl r2] M1 (kqi Q)
  refine kwp_if_eq (pc := 4) 14 dX6_copy_4 (by decide) (fun hc => ?_) (fun hc => ?_)
  · have h := h.1 hc
    refine kwp_sub [] rfl ?_
    exact h
  · have h := h.2 hc
    refine kwp_iload_n (pc := 7) 3 rfl dX6_copy_7 rfl ?_
    refine kwp_callS (pc := 8) (Y := mX6_isSheet) (vs := [.inl x3]) (rest := []) fm_X6_isSheet fs_X6_isSheet ml_X6_182 (by decide) rfl rfl (by simp [kcat]) dX6_copy_8 ?_
    refine kCT.mono h (fun v M3 h => ?_)
    obtain ⟨r4, rfl, h⟩ := h
    change kWP l (rg_m, g) mX6_copy 11 [(0, .inr (.inr (0, 0))), (1, .inl x1), (2, .inl x2), (3, .inl x3), (4, .inl x4), (5, .inl x5)] [.inl r4] M3 (kqi Q)
    refine kwp_if_ne (pc := 11) 16 dX6_copy_11 (by decide) (fun hc => ?_) (fun hc => ?_)
    · have h := h.1 hc
      refine kwp_aload_n (pc := 16) 0 rfl dX6_copy_16 rfl ?_
      refine kwp_getc (pc := 17) fl_X6_23 rfl rfl dX6_copy_17 ?_
      refine kwp_iload_n (pc := 20) 1 rfl dX6_copy_20 rfl ?_
      obtain ⟨hin, h⟩ := h
      refine kwp_iald (pc := 21) rfl hin dX6_copy_21 ?_
      refine kwp_if_lt (pc := 22) 34 dX6_copy_22 (by decide) (fun hc => ?_) (fun hc => ?_)
      · have h := h.1 hc
        refine kwp_sub [] rfl ?_
        exact h
      · have h := h.2 hc
        refine kwp_aload_n (pc := 25) 0 rfl dX6_copy_25 rfl ?_
        refine kwp_getc (pc := 26) fl_X6_23 rfl rfl dX6_copy_26 ?_
        refine kwp_iload_n (pc := 29) 3 rfl dX6_copy_29 rfl ?_
        obtain ⟨hin, h⟩ := h
        refine kwp_iald (pc := 30) rfl hin dX6_copy_30 ?_
        refine kwp_if_ge (pc := 31) 37 dX6_copy_31 (by decide) (fun hc => ?_) (fun hc => ?_)
        · have h := h.1 hc
          refine kwp_aload_n (pc := 37) 0 rfl dX6_copy_37 rfl ?_
          refine kwp_getc (pc := 38) fl_X6_20 rfl rfl dX6_copy_38 ?_
          refine kwp_iload_n (pc := 41) 1 rfl dX6_copy_41 rfl ?_
          obtain ⟨hin, h⟩ := h
          refine kwp_iald (pc := 42) rfl hin dX6_copy_42 ?_
          refine kwp_aload_n (pc := 43) 0 rfl dX6_copy_43 rfl ?_
          refine kwp_getc (pc := 44) fl_X6_20 rfl rfl dX6_copy_44 ?_
          refine kwp_iload_n (pc := 47) 3 rfl dX6_copy_47 rfl ?_
          obtain ⟨hin, h⟩ := h
          refine kwp_iald (pc := 48) rfl hin dX6_copy_48 ?_
          refine kwp_icmp_eq (pc := 49) 55 dX6_copy_49 (by decide) (fun hc => ?_) (fun hc => ?_)
          · have h := h.1 hc
            refine kwp_aload_n (pc := 55) 0 rfl dX6_copy_55 rfl ?_
            refine kwp_iload_n (pc := 56) 1 rfl dX6_copy_56 rfl ?_
            refine kwp_aload_n (pc := 57) 0 rfl dX6_copy_57 rfl ?_
            refine kwp_getc (pc := 58) fl_X6_20 rfl rfl dX6_copy_58 ?_
            refine kwp_iload_n (pc := 61) 1 rfl dX6_copy_61 rfl ?_
            obtain ⟨hin, h⟩ := h
            refine kwp_iald (pc := 62) rfl hin dX6_copy_62 ?_
            refine kwp_iload_n (pc := 63) 2 rfl dX6_copy_63 rfl ?_
            refine kwp_iload (pc := 64) 5 rfl dX6_copy_64 ?_
            refine kwp_callV (pc := 66) (Y := mX6_against) (vs := [.inl x1, .inl (M3.1 4 0 x1.toNatClampNeg), .inl x2, .inl x5]) (rest := []) fm_X6_against fi_X6_against ml_X6_190 (by decide) rfl rfl rfl rfl (by simp [kcat]) dX6_copy_66 ?_
            refine kCT.mono h (fun v M5 h => ?_)
            obtain ⟨r6, rfl, h⟩ := h
            change kWP l (rg_m, g) mX6_copy 69 [(0, .inr (.inr (0, 0))), (1, .inl x1), (2, .inl x2), (3, .inl x3), (4, .inl x4), (5, .inl x5)] [.inl r6] M5 (kqi Q)
            refine kwp_if_lt (pc := 69) 90 dX6_copy_69 (by decide) (fun hc => ?_) (fun hc => ?_)
            · have h := h.1 hc
              refine kwp_sub [] rfl ?_
              exact h
            · have h := h.2 hc
              refine kwp_aload_n (pc := 72) 0 rfl dX6_copy_72 rfl ?_
              refine kwp_iload_n (pc := 73) 3 rfl dX6_copy_73 rfl ?_
              refine kwp_aload_n (pc := 74) 0 rfl dX6_copy_74 rfl ?_
              refine kwp_getc (pc := 75) fl_X6_20 rfl rfl dX6_copy_75 ?_
              refine kwp_iload_n (pc := 78) 3 rfl dX6_copy_78 rfl ?_
              obtain ⟨hin, h⟩ := h
              refine kwp_iald (pc := 79) rfl hin dX6_copy_79 ?_
              refine kwp_iload (pc := 80) 4 rfl dX6_copy_80 ?_
              refine kwp_iload (pc := 82) 5 rfl dX6_copy_82 ?_
              refine kwp_callV (pc := 84) (Y := mX6_against) (vs := [.inl x3, .inl (M5.1 4 0 x3.toNatClampNeg), .inl x4, .inl x5]) (rest := []) fm_X6_against fi_X6_against ml_X6_190 (by decide) rfl rfl rfl rfl (by simp [kcat]) dX6_copy_84 ?_
              refine kCT.mono h (fun v M7 h => ?_)
              obtain ⟨r8, rfl, h⟩ := h
              change kWP l (rg_m, g) mX6_copy 87 [(0, .inr (.inr (0, 0))), (1, .inl x1), (2, .inl x2), (3, .inl x3), (4, .inl x4), (5, .inl x5)] [.inl r8] M7 (kqi Q)
              refine kwp_if_ge (pc := 87) 93 dX6_copy_87 (by decide) (fun hc => ?_) (fun hc => ?_)
              · have h := h.1 hc
                refine kwp_iconst (pc := 93) dX6_copy_93 ic_0 ?_
                refine kwp_istore (pc := 94) (ls2 := [(6, .inl 0), (0, .inr (.inr (0, 0))), (1, .inl x1), (2, .inl x2), (3, .inl x3), (4, .inl x4), (5, .inl x5)]) dX6_copy_94 (by decide) rfl ?_
                refine kwp_sub [1, 2, 3, 4, 5, 6, 0] rfl ?_
                exact h
              · have h := h.2 hc
                refine kwp_sub [] rfl ?_
                exact h
          · have h := h.2 hc
            refine kwp_bipush (pc := 52) dX6_copy_52 bp_m12 ?_
            exact kwp_iret (pc := 54) rfl dX6_copy_54 ⟨_, rfl, h⟩
        · have h := h.2 hc
          refine kwp_sub [] rfl ?_
          exact h
    · have h := h.2 hc
      refine kwp_sub [] rfl ?_
      exact h

set_option maxRecDepth 20000 in
theorem bX6_copy_14 {l : Launch} {g : va_G × (Nat → ClassId) × (Nat → Nat → Nat)}  (M : kM) (Q : Int32 → kM → Prop)
    (h : Q (-1) M) :
    kWP l (rg_m, g) mX6_copy 14 [] [] M (kqi Q) := by
  refine kwp_iconst (pc := 14) dX6_copy_14 ic_m1 ?_
  exact kwp_iret (pc := 15) rfl dX6_copy_15 ⟨_, rfl, h⟩

set_option maxRecDepth 20000 in
theorem bX6_copy_34 {l : Launch} {g : va_G × (Nat → ClassId) × (Nat → Nat → Nat)}  (M : kM) (Q : Int32 → kM → Prop)
    (h : Q (-11) M) :
    kWP l (rg_m, g) mX6_copy 34 [] [] M (kqi Q) := by
  refine kwp_bipush (pc := 34) dX6_copy_34 bp_m11 ?_
  exact kwp_iret (pc := 36) rfl dX6_copy_36 ⟨_, rfl, h⟩

set_option maxRecDepth 20000 in
theorem bX6_copy_90 {l : Launch} {g : va_G × (Nat → ClassId) × (Nat → Nat → Nat)}  (M : kM) (Q : Int32 → kM → Prop)
    (h : Q (-13) M) :
    kWP l (rg_m, g) mX6_copy 90 [] [] M (kqi Q) := by
  refine kwp_bipush (pc := 90) dX6_copy_90 bp_m13 ?_
  exact kwp_iret (pc := 92) rfl dX6_copy_92 ⟨_, rfl, h⟩

set_option maxRecDepth 20000 in
theorem bX6_copy_96 {l : Launch} {g : va_G × (Nat → ClassId) × (Nat → Nat → Nat)} (x1 : Int32) (x2 : Int32) (x3 : Int32) (x4 : Int32) (x5 : Int32) (x6 : Int32) (M : kM) (Q : Int32 → kM → Prop)
    (h : ((x5 ≤ x6 → kWP l (rg_m, g) mX6_copy 133 [(0, .inr (.inr (0, 0))), (3, .inl x3), (4, .inl x4), (5, .inl x5), (6, .inl 0)] [] M (kqi Q)) ∧ (¬ x5 ≤ x6 → vp_in ((((24 : Int32) * x1) + x2) + x6) 96 ∧ (vp_in x6 24 ∧ (∀ M1 : kM, M1 = kul M 9 0 x6.toNatClampNeg (M.2 3 0 ((((24 : Int32) * x1) + x2) + x6).toNatClampNeg) → ∀ z2 : Int32, z2 = x6 + 1 → kWP l (rg_m, g) mX6_copy 96 [(0, .inr (.inr (0, 0))), (1, .inl x1), (2, .inl x2), (3, .inl x3), (4, .inl x4), (5, .inl x5), (6, .inl z2)] [] M1 (kqi Q)))))) :
    kWP l (rg_m, g) mX6_copy 96 [(0, .inr (.inr (0, 0))), (1, .inl x1), (2, .inl x2), (3, .inl x3), (4, .inl x4), (5, .inl x5), (6, .inl x6)] [] M (kqi Q) := by
  refine kwp_iload (pc := 96) 6 rfl dX6_copy_96 ?_
  refine kwp_iload (pc := 98) 5 rfl dX6_copy_98 ?_
  refine kwp_icmp_ge (pc := 100) 130 dX6_copy_100 (by decide) (fun hc => ?_) (fun hc => ?_)
  · have h := h.1 hc
    refine kwp_iconst (pc := 130) dX6_copy_130 ic_0 ?_
    refine kwp_istore (pc := 131) (ls2 := [(6, .inl 0), (0, .inr (.inr (0, 0))), (1, .inl x1), (2, .inl x2), (3, .inl x3), (4, .inl x4), (5, .inl x5)]) dX6_copy_131 (by decide) rfl ?_
    refine kwp_sub [1, 4, 5, 6, 0] rfl ?_
    exact h
  · have h := h.2 hc
    refine kwp_aload_n (pc := 103) 0 rfl dX6_copy_103 rfl ?_
    refine kwp_getc (pc := 104) fl_X6_35 rfl rfl dX6_copy_104 ?_
    refine kwp_iload (pc := 107) 6 rfl dX6_copy_107 ?_
    refine kwp_aload_n (pc := 109) 0 rfl dX6_copy_109 rfl ?_
    refine kwp_getc (pc := 110) fl_X6_16 rfl rfl dX6_copy_110 ?_
    refine kwp_bipush (pc := 113) dX6_copy_113 bp_24 ?_
    refine kwp_iload_n (pc := 115) 1 rfl dX6_copy_115 rfl ?_
    refine kwp_imul (pc := 116) dX6_copy_116 ?_
    refine kwp_iload_n (pc := 117) 2 rfl dX6_copy_117 rfl ?_
    refine kwp_iadd (pc := 118) dX6_copy_118 ?_
    refine kwp_iload (pc := 119) 6 rfl dX6_copy_119 ?_
    refine kwp_iadd (pc := 121) dX6_copy_121 ?_
    obtain ⟨hin, h⟩ := h
    refine kwp_lald (pc := 122) rfl hin dX6_copy_122 ?_
    obtain ⟨hin, h⟩ := h
    refine kwp_last (pc := 123) rfl hin dX6_copy_123 ?_
    obtain ⟨M1, eM1⟩ : ∃ z : kM, z = kul M 9 0 x6.toNatClampNeg (M.2 3 0 ((((24 : Int32) * x1) + x2) + x6).toNatClampNeg) := ⟨_, rfl⟩
    rw [← eM1]
    have h := h M1 eM1
    obtain ⟨z2, ez2⟩ : ∃ z : Int32, z = x6 + 1 := ⟨_, rfl⟩
    have h := h z2 ez2
    refine kwp_iinc (pc := 124) (v := z2) (ls2 := [(6, .inl z2), (0, .inr (.inr (0, 0))), (1, .inl x1), (2, .inl x2), (3, .inl x3), (4, .inl x4), (5, .inl x5)]) 6 rfl dX6_copy_124 (by rw [ez2, ic_1]) (by decide) rfl ?_
    refine kwp_goto (pc := 127) 96 dX6_copy_127 (by decide) ?_
    refine kwp_sub [1, 2, 3, 4, 5, 6, 0] rfl ?_
    exact h

set_option maxRecDepth 20000 in
theorem bX6_copy_133 {l : Launch} {g : va_G × (Nat → ClassId) × (Nat → Nat → Nat)} (x3 : Int32) (x4 : Int32) (x5 : Int32) (x6 : Int32) (M : kM) (Q : Int32 → kM → Prop)
    (h : ((x5 ≤ x6 → Q x5 M) ∧ (¬ x5 ≤ x6 → vp_in x6 24 ∧ (vp_in ((((24 : Int32) * x3) + x4) + x6) 96 ∧ (∀ M1 : kM, M1 = kul M 3 0 ((((24 : Int32) * x3) + x4) + x6).toNatClampNeg (M.2 9 0 x6.toNatClampNeg) → ∀ z2 : Int32, z2 = x6 + 1 → kWP l (rg_m, g) mX6_copy 133 [(0, .inr (.inr (0, 0))), (3, .inl x3), (4, .inl x4), (5, .inl x5), (6, .inl z2)] [] M1 (kqi Q)))))) :
    kWP l (rg_m, g) mX6_copy 133 [(0, .inr (.inr (0, 0))), (3, .inl x3), (4, .inl x4), (5, .inl x5), (6, .inl x6)] [] M (kqi Q) := by
  refine kwp_iload (pc := 133) 4 rfl dX6_copy_133 ?_
  refine kwp_iload (pc := 135) 3 rfl dX6_copy_135 ?_
  refine kwp_icmp_ge (pc := 137) 168 dX6_copy_137 (by decide) (fun hc => ?_) (fun hc => ?_)
  · have h := h.1 hc
    refine kwp_iload (pc := 168) 3 rfl dX6_copy_168 ?_
    exact kwp_iret (pc := 170) rfl dX6_copy_170 ⟨_, rfl, h⟩
  · have h := h.2 hc
    refine kwp_aload_n (pc := 140) 0 rfl dX6_copy_140 rfl ?_
    refine kwp_getc (pc := 141) fl_X6_16 rfl rfl dX6_copy_141 ?_
    refine kwp_bipush (pc := 144) dX6_copy_144 bp_24 ?_
    refine kwp_iload_n (pc := 146) 1 rfl dX6_copy_146 rfl ?_
    refine kwp_imul (pc := 147) dX6_copy_147 ?_
    refine kwp_iload (pc := 148) 2 rfl dX6_copy_148 ?_
    refine kwp_iadd (pc := 150) dX6_copy_150 ?_
    refine kwp_iload (pc := 151) 4 rfl dX6_copy_151 ?_
    refine kwp_iadd (pc := 153) dX6_copy_153 ?_
    refine kwp_aload_n (pc := 154) 0 rfl dX6_copy_154 rfl ?_
    refine kwp_getc (pc := 155) fl_X6_35 rfl rfl dX6_copy_155 ?_
    refine kwp_iload (pc := 158) 4 rfl dX6_copy_158 ?_
    obtain ⟨hin, h⟩ := h
    refine kwp_lald (pc := 160) rfl hin dX6_copy_160 ?_
    obtain ⟨hin, h⟩ := h
    refine kwp_last (pc := 161) rfl hin dX6_copy_161 ?_
    obtain ⟨M1, eM1⟩ : ∃ z : kM, z = kul M 3 0 ((((24 : Int32) * x3) + x4) + x6).toNatClampNeg (M.2 9 0 x6.toNatClampNeg) := ⟨_, rfl⟩
    rw [← eM1]
    have h := h M1 eM1
    obtain ⟨z2, ez2⟩ : ∃ z : Int32, z = x6 + 1 := ⟨_, rfl⟩
    have h := h z2 ez2
    refine kwp_iinc (pc := 162) (v := z2) (ls2 := [(6, .inl z2), (0, .inr (.inr (0, 0))), (3, .inl x3), (4, .inl x4), (5, .inl x5)]) 4 rfl dX6_copy_162 (by rw [ez2, ic_1]) (by decide) rfl ?_
    refine kwp_goto (pc := 165) 133 dX6_copy_165 (by decide) ?_
    refine kwp_sub [1, 2, 3, 4, 0] rfl ?_
    exact h
