set_option maxRecDepth 20000 in
theorem bX0_begin_0 {l : Launch} {g : va_G × (Nat → ClassId) × (Nat → Nat → Nat)} (k1 : Nat) (M : kM) (Q : kM → Prop)
    (h : kCT l (rg_x, g) mX3_takeAll [.inr (.inr (1, 2)), .inr (.inr (1, k1))] M (kqv (fun M1 => kWP l (rg_x, g) mX0_begin 10 [(0, .inr (.inr (3, 0))), (2, .inl 0)] [] M1 (kqv Q)))) :
    kWP l (rg_x, g) mX0_begin 0 [(0, .inr (.inr (3, 0))), (1, .inr (.inr (1, k1)))] [] M (kqv Q) := by
  refine kwp_aload_n (pc := 0) 0 rfl dX0_begin_0 rfl ?_
  refine kwp_getc (pc := 1) fl_X0_12 rfl rfl dX0_begin_1 ?_
  refine kwp_aload_n (pc := 4) 1 rfl dX0_begin_4 rfl ?_
  refine kwp_callV (pc := 5) (Y := mX3_takeAll) (vs := [.inr (.inr (1, k1))]) (rest := []) fm_X3_takeAll fi_X3_takeAll ml_X0_22 (by decide) rfl rfl rfl rfl (by simp [kcat]) dX0_begin_5 ?_
  refine kCT.mono h (fun v M1 h => ?_)
  obtain ⟨rfl, h⟩ := h
  change kWP l (rg_x, g) mX0_begin 8 [(0, .inr (.inr (3, 0))), (1, .inr (.inr (1, k1)))] [] M1 (kqv Q)
  refine kwp_iconst (pc := 8) dX0_begin_8 ic_0 ?_
  refine kwp_istore_n (pc := 9) (ls2 := [(2, .inl 0), (0, .inr (.inr (3, 0))), (1, .inr (.inr (1, k1)))]) dX0_begin_9 rfl (by decide) rfl ?_
  refine kwp_sub [1, 0] rfl ?_
  exact h

set_option maxRecDepth 20000 in
theorem bX0_begin_10 {l : Launch} {g : va_G × (Nat → ClassId) × (Nat → Nat → Nat)} (x2 : Int32) (M : kM) (Q : kM → Prop)
    (h : (((M.1 1 2 1) ≤ x2 → Q M) ∧ (¬ (M.1 1 2 1) ≤ x2 → kCT l (rg_x, g) mX0_noteWhere [.inr (.inr (3, 0)), .inl x2] M (kqv (fun M1 => ∀ z2 : Int32, z2 = x2 + 1 → kWP l (rg_x, g) mX0_begin 10 [(0, .inr (.inr (3, 0))), (2, .inl z2)] [] M1 (kqv Q)))))) :
    kWP l (rg_x, g) mX0_begin 10 [(0, .inr (.inr (3, 0))), (2, .inl x2)] [] M (kqv Q) := by
  refine kwp_iload_n (pc := 10) 1 rfl dX0_begin_10 rfl ?_
  refine kwp_aload_n (pc := 11) 0 rfl dX0_begin_11 rfl ?_
  refine kwp_getc (pc := 12) fl_X0_12 rfl rfl dX0_begin_12 ?_
  refine kwp_geti (pc := 15) fl_X0_26 rfl rfl dX0_begin_15 ?_
  refine kwp_icmp_ge (pc := 18) 32 dX0_begin_18 (by decide) (fun hc => ?_) (fun hc => ?_)
  · have h := h.1 hc
    exact kwp_vret (pc := 32) rfl dX0_begin_32 ⟨rfl, h⟩
  · have h := h.2 hc
    refine kwp_aload_n (pc := 21) 0 rfl dX0_begin_21 rfl ?_
    refine kwp_iload_n (pc := 22) 1 rfl dX0_begin_22 rfl ?_
    refine kwp_callV (pc := 23) (Y := mX0_noteWhere) (vs := [.inl x2]) (rest := []) fm_X0_noteWhere fi_X0_noteWhere ml_X0_30 (by decide) rfl rfl rfl rfl (by simp [kcat]) dX0_begin_23 ?_
    refine kCT.mono h (fun v M1 h => ?_)
    obtain ⟨rfl, h⟩ := h
    change kWP l (rg_x, g) mX0_begin 26 [(0, .inr (.inr (3, 0))), (2, .inl x2)] [] M1 (kqv Q)
    obtain ⟨z2, ez2⟩ : ∃ z : Int32, z = x2 + 1 := ⟨_, rfl⟩
    have h := h z2 ez2
    refine kwp_iinc (pc := 26) (v := z2) (ls2 := [(2, .inl z2), (0, .inr (.inr (3, 0)))]) 1 rfl dX0_begin_26 (by rw [ez2, ic_1]) (by decide) rfl ?_
    refine kwp_goto (pc := 29) 10 dX0_begin_29 (by decide) ?_
    refine kwp_sub [1, 0] rfl ?_
    exact h

set_option maxRecDepth 20000 in
theorem bX0_rideToForge_0 {l : Launch} {g : va_G × (Nat → ClassId) × (Nat → Nat → Nat)} (x1 : Int32) (x2 : Int32) (M : kM) (Q : Int32 → kM → Prop)
    (h : kWP l (rg_x, g) mX0_rideToForge 2 [(0, .inr (.inr (3, 0))), (1, .inl x1), (2, .inl x2), (3, .inl 0)] [] M (kqi Q)) :
    kWP l (rg_x, g) mX0_rideToForge 0 [(0, .inr (.inr (3, 0))), (1, .inl x1), (2, .inl x2)] [] M (kqi Q) := by
  refine kwp_iconst (pc := 0) dX0_rideToForge_0 ic_0 ?_
  refine kwp_istore_n (pc := 1) (ls2 := [(3, .inl 0), (0, .inr (.inr (3, 0))), (1, .inl x1), (2, .inl x2)]) dX0_rideToForge_1 rfl (by decide) rfl ?_
  refine kwp_sub [1, 2, 3, 0] rfl ?_
  exact h

set_option maxRecDepth 20000 in
theorem bX0_rideToForge_2 {l : Launch} {g : va_G × (Nat → ClassId) × (Nat → Nat → Nat)} (x1 : Int32) (x2 : Int32) (x3 : Int32) (M : kM) (Q : Int32 → kM → Prop)
    (h : ((32 ≤ x3 → kWP l (rg_x, g) mX0_rideToForge 98 [(0, .inr (.inr (3, 0))), (1, .inl x1)] [] M (kqi Q)) ∧ (¬ 32 ≤ x3 → kCT l (rg_x, g) mX3_isThere [.inr (.inr (1, 2)), .inl x1] M (kqi (fun r2 M1 => ((¬ r2 = 0 → kWP l (rg_x, g) mX0_rideToForge 98 [(0, .inr (.inr (3, 0))), (1, .inl x1)] [] M1 (kqi Q)) ∧ (r2 = 0 → kCT l (rg_x, g) mX3_whoRides [.inr (.inr (1, 2))] M1 (kqi (fun r4 M3 => ((0 ≤ r4 → ((¬ r4 = x1 → kWP l (rg_x, g) mX0_rideToForge 63 [(0, .inr (.inr (3, 0))), (1, .inl x1), (2, .inl x2), (3, .inl x3), (4, .inl r4)] [] M3 (kqi Q)) ∧ (r4 = x1 → vp_in r4 4 ∧ (kCT l (rg_x, g) mX5_has [.inl x2, .inl (M3.1 11 2 r4.toNatClampNeg)] M3 (kqi (fun r6 M5 => ((r6 = 0 → kWP l (rg_x, g) mX0_rideToForge 63 [(0, .inr (.inr (3, 0))), (1, .inl x1), (2, .inl x2), (3, .inl x3), (4, .inl r4)] [] M5 (kqi Q)) ∧ (¬ r6 = 0 → kWP l (rg_x, g) mX0_rideToForge 64 [(0, .inr (.inr (3, 0))), (1, .inl x1), (2, .inl x2), (3, .inl x3), (4, .inl r4)] [.inl 1] M5 (kqi Q))))))))) ∧ (¬ 0 ≤ r4 → kWP l (rg_x, g) mX0_rideToForge 98 [(0, .inr (.inr (3, 0))), (1, .inl x1)] [] M3 (kqi Q)))))))))))) :
    kWP l (rg_x, g) mX0_rideToForge 2 [(0, .inr (.inr (3, 0))), (1, .inl x1), (2, .inl x2), (3, .inl x3)] [] M (kqi Q) := by
  refine kwp_iload_n (pc := 2) 3 rfl dX0_rideToForge_2 rfl ?_
  refine kwp_bipush (pc := 3) dX0_rideToForge_3 bp_32 ?_
  refine kwp_icmp_ge (pc := 5) 98 dX0_rideToForge_5 (by decide) (fun hc => ?_) (fun hc => ?_)
  · have h := h.1 hc
    refine kwp_sub [0, 1] rfl ?_
    exact h
  · have h := h.2 hc
    refine kwp_aload_n (pc := 8) 0 rfl dX0_rideToForge_8 rfl ?_
    refine kwp_getc (pc := 9) fl_X0_12 rfl rfl dX0_rideToForge_9 ?_
    refine kwp_iload_n (pc := 12) 1 rfl dX0_rideToForge_12 rfl ?_
    refine kwp_callV (pc := 13) (Y := mX3_isThere) (vs := [.inl x1]) (rest := []) fm_X3_isThere fi_X3_isThere ml_X0_34 (by decide) rfl rfl rfl rfl (by simp [kcat]) dX0_rideToForge_13 ?_
    refine kCT.mono h (fun v M1 h => ?_)
    obtain ⟨r2, rfl, h⟩ := h
    change kWP l (rg_x, g) mX0_rideToForge 16 [(0, .inr (.inr (3, 0))), (1, .inl x1), (2, .inl x2), (3, .inl x3)] [.inl r2] M1 (kqi Q)
    refine kwp_if_ne (pc := 16) 98 dX0_rideToForge_16 (by decide) (fun hc => ?_) (fun hc => ?_)
    · have h := h.1 hc
      refine kwp_sub [0, 1] rfl ?_
      exact h
    · have h := h.2 hc
      refine kwp_aload_n (pc := 19) 0 rfl dX0_rideToForge_19 rfl ?_
      refine kwp_getc (pc := 20) fl_X0_12 rfl rfl dX0_rideToForge_20 ?_
      refine kwp_callV (pc := 23) (Y := mX3_whoRides) (vs := []) (rest := []) fm_X3_whoRides fi_X3_whoRides ml_X0_38 (by decide) rfl rfl rfl rfl (by simp [kcat]) dX0_rideToForge_23 ?_
      refine kCT.mono h (fun v M3 h => ?_)
      obtain ⟨r4, rfl, h⟩ := h
      change kWP l (rg_x, g) mX0_rideToForge 26 [(0, .inr (.inr (3, 0))), (1, .inl x1), (2, .inl x2), (3, .inl x3)] [.inl r4] M3 (kqi Q)
      refine kwp_istore (pc := 26) (ls2 := [(4, .inl r4), (0, .inr (.inr (3, 0))), (1, .inl x1), (2, .inl x2), (3, .inl x3)]) dX0_rideToForge_26 (by decide) rfl ?_
      refine kwp_iload (pc := 28) 0 rfl dX0_rideToForge_28 ?_
      refine kwp_if_ge (pc := 30) 36 dX0_rideToForge_30 (by decide) (fun hc => ?_) (fun hc => ?_)
      · have h := h.1 hc
        refine kwp_iload (pc := 36) 0 rfl dX0_rideToForge_36 ?_
        refine kwp_iload_n (pc := 38) 2 rfl dX0_rideToForge_38 rfl ?_
        refine kwp_icmp_ne (pc := 39) 63 dX0_rideToForge_39 (by decide) (fun hc => ?_) (fun hc => ?_)
        · have h := h.1 hc
          refine kwp_sub [1, 2, 3, 4, 0] rfl ?_
          exact h
        · have h := h.2 hc
          refine kwp_iload_n (pc := 42) 3 rfl dX0_rideToForge_42 rfl ?_
          refine kwp_aload_n (pc := 43) 1 rfl dX0_rideToForge_43 rfl ?_
          refine kwp_getc (pc := 44) fl_X0_12 rfl rfl dX0_rideToForge_44 ?_
          refine kwp_getr (pc := 47) fl_X0_42 rfl rfl dX0_rideToForge_47 ?_
          refine kwp_iload (pc := 50) 0 rfl dX0_rideToForge_50 ?_
          obtain ⟨hin, h⟩ := h
          refine kwp_iald (pc := 52) rfl hin dX0_rideToForge_52 ?_
          refine kwp_callN (pc := 53) (Y := mX5_has) (host := RX5) (vs := [.inl x2, .inl (M3.1 11 2 r4.toNatClampNeg)]) (rest := []) fm_X5_has fs_X5_has (by decide +kernel) (by decide) rfl rfl (by simp [kcat]) dX0_rideToForge_53 ?_
          refine kCT.mono h (fun v M5 h => ?_)
          obtain ⟨r6, rfl, h⟩ := h
          change kWP l (rg_x, g) mX0_rideToForge 56 [(4, .inl r4), (0, .inr (.inr (3, 0))), (1, .inl x1), (2, .inl x2), (3, .inl x3)] [.inl r6] M5 (kqi Q)
          refine kwp_if_eq (pc := 56) 63 dX0_rideToForge_56 (by decide) (fun hc => ?_) (fun hc => ?_)
          · have h := h.1 hc
            refine kwp_sub [1, 2, 3, 4, 0] rfl ?_
            exact h
          · have h := h.2 hc
            refine kwp_iconst (pc := 59) dX0_rideToForge_59 ic_1 ?_
            refine kwp_goto (pc := 60) 64 dX0_rideToForge_60 (by decide) ?_
            refine kwp_sub [1, 2, 3, 4, 0] rfl ?_
            exact h
      · have h := h.2 hc
        refine kwp_goto (pc := 33) 98 dX0_rideToForge_33 (by decide) ?_
        refine kwp_sub [1, 2] rfl ?_
        exact h

set_option maxRecDepth 20000 in
theorem bX0_rideToForge_63 {l : Launch} {g : va_G × (Nat → ClassId) × (Nat → Nat → Nat)} (x1 : Int32) (x2 : Int32) (x3 : Int32) (x4 : Int32) (M : kM) (Q : Int32 → kM → Prop)
    (h : kWP l (rg_x, g) mX0_rideToForge 64 [(0, .inr (.inr (3, 0))), (1, .inl x1), (2, .inl x2), (3, .inl x3), (4, .inl x4)] [.inl 0] M (kqi Q)) :
    kWP l (rg_x, g) mX0_rideToForge 63 [(0, .inr (.inr (3, 0))), (1, .inl x1), (2, .inl x2), (3, .inl x3), (4, .inl x4)] [] M (kqi Q) := by
  refine kwp_iconst (pc := 63) dX0_rideToForge_63 ic_0 ?_
  exact h

set_option maxRecDepth 20000 in
theorem bX0_rideToForge_64 {l : Launch} {g : va_G × (Nat → ClassId) × (Nat → Nat → Nat)} (x1 : Int32) (x2 : Int32) (x3 : Int32) (x4 : Int32) (s0 : Int32) (M : kM) (Q : Int32 → kM → Prop)
    (h : ((s0 = 0 → kWP l (rg_x, g) mX0_rideToForge 83 [(0, .inr (.inr (3, 0))), (1, .inl x1), (2, .inl x2), (3, .inl x3), (4, .inl x4)] [.inl 0, .inl x4, .inr (.inr (1, 2))] M (kqi Q)) ∧ (¬ s0 = 0 → kWP l (rg_x, g) mX0_rideToForge 83 [(0, .inr (.inr (3, 0))), (1, .inl x1), (2, .inl x2), (3, .inl x3), (4, .inl x4)] [.inl 30, .inl x4, .inr (.inr (1, 2))] M (kqi Q)))) :
    kWP l (rg_x, g) mX0_rideToForge 64 [(0, .inr (.inr (3, 0))), (1, .inl x1), (2, .inl x2), (3, .inl x3), (4, .inl x4)] [.inl s0] M (kqi Q) := by
  refine kwp_istore (pc := 64) (ls2 := [(5, .inl s0), (0, .inr (.inr (3, 0))), (1, .inl x1), (2, .inl x2), (3, .inl x3), (4, .inl x4)]) dX0_rideToForge_64 (by decide) rfl ?_
  refine kwp_aload_n (pc := 66) 1 rfl dX0_rideToForge_66 rfl ?_
  refine kwp_getc (pc := 67) fl_X0_12 rfl rfl dX0_rideToForge_67 ?_
  refine kwp_iload (pc := 70) 5 rfl dX0_rideToForge_70 ?_
  refine kwp_iload (pc := 72) 0 rfl dX0_rideToForge_72 ?_
  refine kwp_if_eq (pc := 74) 82 dX0_rideToForge_74 (by decide) (fun hc => ?_) (fun hc => ?_)
  · have h := h.1 hc
    refine kwp_iconst (pc := 82) dX0_rideToForge_82 ic_0 ?_
    refine kwp_sub [1, 2, 3, 4, 5] rfl ?_
    exact h
  · have h := h.2 hc
    refine kwp_bipush (pc := 77) dX0_rideToForge_77 bp_30 ?_
    refine kwp_goto (pc := 79) 83 dX0_rideToForge_79 (by decide) ?_
    refine kwp_sub [1, 2, 3, 4, 5] rfl ?_
    exact h

set_option maxRecDepth 20000 in
theorem bX0_rideToForge_83 {l : Launch} {g : va_G × (Nat → ClassId) × (Nat → Nat → Nat)} (x1 : Int32) (x2 : Int32) (x3 : Int32) (x4 : Int32) (s0 : Int32) (s1 : Int32) (t2 : Nat) (M : kM) (Q : Int32 → kM → Prop)
    (h : kCT l (rg_x, g) mX3_rideStage [.inr (.inr (1, t2)), .inl s1, .inl s0] M (kqv (fun M1 => kCT l (rg_x, g) mX0_noteWhere [.inr (.inr (3, 0)), .inl x4] M1 (kqv (fun M2 => ∀ z3 : Int32, z3 = x3 + 1 → kWP l (rg_x, g) mX0_rideToForge 2 [(0, .inr (.inr (3, 0))), (1, .inl x1), (2, .inl x2), (3, .inl z3)] [] M2 (kqi Q)))))) :
    kWP l (rg_x, g) mX0_rideToForge 83 [(0, .inr (.inr (3, 0))), (1, .inl x1), (2, .inl x2), (3, .inl x3), (4, .inl x4)] [.inl s0, .inl s1, .inr (.inr (1, t2))] M (kqi Q) := by
  refine kwp_callV (pc := 83) (Y := mX3_rideStage) (vs := [.inl s1, .inl s0]) (rest := []) fm_X3_rideStage fi_X3_rideStage ml_X0_49 (by decide) rfl rfl rfl rfl (by simp [kcat]) dX0_rideToForge_83 ?_
  refine kCT.mono h (fun v M1 h => ?_)
  obtain ⟨rfl, h⟩ := h
  change kWP l (rg_x, g) mX0_rideToForge 86 [(0, .inr (.inr (3, 0))), (1, .inl x1), (2, .inl x2), (3, .inl x3), (4, .inl x4)] [] M1 (kqi Q)
  refine kwp_aload_n (pc := 86) 0 rfl dX0_rideToForge_86 rfl ?_
  refine kwp_iload (pc := 87) 4 rfl dX0_rideToForge_87 ?_
  refine kwp_callV (pc := 89) (Y := mX0_noteWhere) (vs := [.inl x4]) (rest := []) fm_X0_noteWhere fi_X0_noteWhere ml_X0_30 (by decide) rfl rfl rfl rfl (by simp [kcat]) dX0_rideToForge_89 ?_
  refine kCT.mono h (fun v M2 h => ?_)
  obtain ⟨rfl, h⟩ := h
  change kWP l (rg_x, g) mX0_rideToForge 92 [(0, .inr (.inr (3, 0))), (1, .inl x1), (2, .inl x2), (3, .inl x3), (4, .inl x4)] [] M2 (kqi Q)
  obtain ⟨z3, ez3⟩ : ∃ z : Int32, z = x3 + 1 := ⟨_, rfl⟩
  have h := h z3 ez3
  refine kwp_iinc (pc := 92) (v := z3) (ls2 := [(3, .inl z3), (0, .inr (.inr (3, 0))), (1, .inl x1), (2, .inl x2), (4, .inl x4)]) 3 rfl dX0_rideToForge_92 (by rw [ez3, ic_1]) (by decide) rfl ?_
  refine kwp_goto (pc := 95) 2 dX0_rideToForge_95 (by decide) ?_
  refine kwp_sub [1, 2, 3, 0] rfl ?_
  exact h

set_option maxRecDepth 20000 in
theorem bX0_rideToForge_98 {l : Launch} {g : va_G × (Nat → ClassId) × (Nat → Nat → Nat)} (x1 : Int32) (M : kM) (Q : Int32 → kM → Prop)
    (h : vp_in x1 4 ∧ (Q (M.1 12 2 x1.toNatClampNeg) M)) :
    kWP l (rg_x, g) mX0_rideToForge 98 [(0, .inr (.inr (3, 0))), (1, .inl x1)] [] M (kqi Q) := by
  refine kwp_aload_n (pc := 98) 0 rfl dX0_rideToForge_98 rfl ?_
  refine kwp_getc (pc := 99) fl_X0_12 rfl rfl dX0_rideToForge_99 ?_
  refine kwp_getr (pc := 102) fl_X0_53 rfl rfl dX0_rideToForge_102 ?_
  refine kwp_iload_n (pc := 105) 1 rfl dX0_rideToForge_105 rfl ?_
  obtain ⟨hin, h⟩ := h
  refine kwp_iald (pc := 106) rfl hin dX0_rideToForge_106 ?_
  exact kwp_iret (pc := 107) rfl dX0_rideToForge_107 ⟨_, rfl, h⟩

set_option maxRecDepth 20000 in
theorem bX0_whoIsFirst_0 {l : Launch} {g : va_G × (Nat → ClassId) × (Nat → Nat → Nat)}  (M : kM) (Q : Int32 → kM → Prop)
    (h : kWP l (rg_x, g) mX0_whoIsFirst 7 [(0, .inr (.inr (3, 0))), (1, .inl (-4)), (2, .inl 0), (3, .inl 0)] [] M (kqi Q)) :
    kWP l (rg_x, g) mX0_whoIsFirst 0 [(0, .inr (.inr (3, 0)))] [] M (kqi Q) := by
  refine kwp_bipush (pc := 0) dX0_whoIsFirst_0 bp_m4 ?_
  refine kwp_istore_n (pc := 2) (ls2 := [(1, .inl (-4)), (0, .inr (.inr (3, 0)))]) dX0_whoIsFirst_2 rfl (by decide) rfl ?_
  refine kwp_iconst (pc := 3) dX0_whoIsFirst_3 ic_0 ?_
  refine kwp_istore_n (pc := 4) (ls2 := [(2, .inl 0), (1, .inl (-4)), (0, .inr (.inr (3, 0)))]) dX0_whoIsFirst_4 rfl (by decide) rfl ?_
  refine kwp_iconst (pc := 5) dX0_whoIsFirst_5 ic_0 ?_
  refine kwp_istore_n (pc := 6) (ls2 := [(3, .inl 0), (2, .inl 0), (1, .inl (-4)), (0, .inr (.inr (3, 0)))]) dX0_whoIsFirst_6 rfl (by decide) rfl ?_
  refine kwp_sub [3, 2, 1, 0] rfl ?_
  exact h

set_option maxRecDepth 20000 in
theorem bX0_whoIsFirst_7 {l : Launch} {g : va_G × (Nat → ClassId) × (Nat → Nat → Nat)} (x1 : Int32) (x2 : Int32) (x3 : Int32) (M : kM) (Q : Int32 → kM → Prop)
    (h : (((M.1 1 2 1) ≤ x3 → Q x1 M) ∧ (¬ (M.1 1 2 1) ≤ x3 → kCT l (rg_x, g) mX0_rideToForge [.inr (.inr (3, 0)), .inl x3, .inl 0] M (kqi (fun r2 M1 => ((x1 < 0 → kWP l (rg_x, g) mX0_whoIsFirst 36 [(0, .inr (.inr (3, 0))), (3, .inl x3), (4, .inl r2)] [] M1 (kqi Q)) ∧ (¬ x1 < 0 → ((x2 ≤ r2 → kWP l (rg_x, g) mX0_whoIsFirst 41 [(0, .inr (.inr (3, 0))), (1, .inl x1), (2, .inl x2), (3, .inl x3)] [] M1 (kqi Q)) ∧ (¬ x2 ≤ r2 → kWP l (rg_x, g) mX0_whoIsFirst 36 [(0, .inr (.inr (3, 0))), (3, .inl x3), (4, .inl r2)] [] M1 (kqi Q)))))))))) :
    kWP l (rg_x, g) mX0_whoIsFirst 7 [(0, .inr (.inr (3, 0))), (1, .inl x1), (2, .inl x2), (3, .inl x3)] [] M (kqi Q) := by
  refine kwp_iload_n (pc := 7) 3 rfl dX0_whoIsFirst_7 rfl ?_
  refine kwp_aload_n (pc := 8) 0 rfl dX0_whoIsFirst_8 rfl ?_
  refine kwp_getc (pc := 9) fl_X0_12 rfl rfl dX0_whoIsFirst_9 ?_
  refine kwp_geti (pc := 12) fl_X0_26 rfl rfl dX0_whoIsFirst_12 ?_
  refine kwp_icmp_ge (pc := 15) 47 dX0_whoIsFirst_15 (by decide) (fun hc => ?_) (fun hc => ?_)
  · have h := h.1 hc
    refine kwp_iload_n (pc := 47) 1 rfl dX0_whoIsFirst_47 rfl ?_
    exact kwp_iret (pc := 48) rfl dX0_whoIsFirst_48 ⟨_, rfl, h⟩
  · have h := h.2 hc
    refine kwp_aload_n (pc := 18) 0 rfl dX0_whoIsFirst_18 rfl ?_
    refine kwp_iload_n (pc := 19) 3 rfl dX0_whoIsFirst_19 rfl ?_
    refine kwp_iconst (pc := 20) dX0_whoIsFirst_20 ic_0 ?_
    refine kwp_callV (pc := 21) (Y := mX0_rideToForge) (vs := [.inl x3, .inl 0]) (rest := []) fm_X0_rideToForge fi_X0_rideToForge ml_X0_56 (by decide) rfl rfl rfl rfl (by simp [kcat]) dX0_whoIsFirst_21 ?_
    refine kCT.mono h (fun v M1 h => ?_)
    obtain ⟨r2, rfl, h⟩ := h
    change kWP l (rg_x, g) mX0_whoIsFirst 24 [(0, .inr (.inr (3, 0))), (1, .inl x1), (2, .inl x2), (3, .inl x3)] [.inl r2] M1 (kqi Q)
    refine kwp_istore (pc := 24) (ls2 := [(4, .inl r2), (0, .inr (.inr (3, 0))), (1, .inl x1), (2, .inl x2), (3, .inl x3)]) dX0_whoIsFirst_24 (by decide) rfl ?_
    refine kwp_iload_n (pc := 26) 2 rfl dX0_whoIsFirst_26 rfl ?_
    refine kwp_if_lt (pc := 27) 36 dX0_whoIsFirst_27 (by decide) (fun hc => ?_) (fun hc => ?_)
    · have h := h.1 hc
      refine kwp_sub [1, 4, 0] rfl ?_
      exact h
    · have h := h.2 hc
      refine kwp_iload (pc := 30) 0 rfl dX0_whoIsFirst_30 ?_
      refine kwp_iload_n (pc := 32) 3 rfl dX0_whoIsFirst_32 rfl ?_
      refine kwp_icmp_ge (pc := 33) 41 dX0_whoIsFirst_33 (by decide) (fun hc => ?_) (fun hc => ?_)
      · have h := h.1 hc
        refine kwp_sub [1, 2, 3, 4] rfl ?_
        exact h
      · have h := h.2 hc
        refine kwp_sub [1, 4, 0] rfl ?_
        exact h

set_option maxRecDepth 20000 in
theorem bX0_whoIsFirst_36 {l : Launch} {g : va_G × (Nat → ClassId) × (Nat → Nat → Nat)} (x3 : Int32) (x4 : Int32) (M : kM) (Q : Int32 → kM → Prop)
    (h : kWP l (rg_x, g) mX0_whoIsFirst 41 [(0, .inr (.inr (3, 0))), (1, .inl x3), (2, .inl x4), (3, .inl x3)] [] M (kqi Q)) :
    kWP l (rg_x, g) mX0_whoIsFirst 36 [(0, .inr (.inr (3, 0))), (3, .inl x3), (4, .inl x4)] [] M (kqi Q) := by
  refine kwp_iload_n (pc := 36) 1 rfl dX0_whoIsFirst_36 rfl ?_
  refine kwp_istore_n (pc := 37) (ls2 := [(1, .inl x3), (0, .inr (.inr (3, 0))), (3, .inl x3), (4, .inl x4)]) dX0_whoIsFirst_37 rfl (by decide) rfl ?_
  refine kwp_iload (pc := 38) 3 rfl dX0_whoIsFirst_38 ?_
  refine kwp_istore_n (pc := 40) (ls2 := [(2, .inl x4), (1, .inl x3), (0, .inr (.inr (3, 0))), (3, .inl x3), (4, .inl x4)]) dX0_whoIsFirst_40 rfl (by decide) rfl ?_
  refine kwp_sub [2, 1, 0, 3] rfl ?_
  exact h

set_option maxRecDepth 20000 in
theorem bX0_whoIsFirst_41 {l : Launch} {g : va_G × (Nat → ClassId) × (Nat → Nat → Nat)} (x1 : Int32) (x2 : Int32) (x3 : Int32) (M : kM) (Q : Int32 → kM → Prop)
    (h : ∀ z1 : Int32, z1 = x3 + 1 → kWP l (rg_x, g) mX0_whoIsFirst 7 [(0, .inr (.inr (3, 0))), (1, .inl x1), (2, .inl x2), (3, .inl z1)] [] M (kqi Q)) :
    kWP l (rg_x, g) mX0_whoIsFirst 41 [(0, .inr (.inr (3, 0))), (1, .inl x1), (2, .inl x2), (3, .inl x3)] [] M (kqi Q) := by
  obtain ⟨z1, ez1⟩ : ∃ z : Int32, z = x3 + 1 := ⟨_, rfl⟩
  have h := h z1 ez1
  refine kwp_iinc (pc := 41) (v := z1) (ls2 := [(3, .inl z1), (0, .inr (.inr (3, 0))), (1, .inl x1), (2, .inl x2)]) 3 rfl dX0_whoIsFirst_41 (by rw [ez1, ic_1]) (by decide) rfl ?_
  refine kwp_goto (pc := 44) 7 dX0_whoIsFirst_44 (by decide) ?_
  refine kwp_sub [1, 2, 3, 0] rfl ?_
  exact h

set_option maxRecDepth 20000 in
theorem bX0_cameTo_0 {l : Launch} {g : va_G × (Nat → ClassId) × (Nat → Nat → Nat)} (x1 : Int32) (x2 : Int32) (M : kM) (Q : Int32 → kM → Prop)
    (h : vp_in ((x1 * 9) + x2) 36 ∧ (Q (M.1 16 0 ((x1 * 9) + x2).toNatClampNeg) M)) :
    kWP l (rg_x, g) mX0_cameTo 0 [(0, .inr (.inr (3, 0))), (1, .inl x1), (2, .inl x2)] [] M (kqi Q) := by
  refine kwp_aload_n (pc := 0) 0 rfl dX0_cameTo_0 rfl ?_
  refine kwp_getc (pc := 1) fl_X0_18 rfl rfl dX0_cameTo_1 ?_
  refine kwp_iload_n (pc := 4) 1 rfl dX0_cameTo_4 rfl ?_
  refine kwp_bipush (pc := 5) dX0_cameTo_5 bp_9 ?_
  refine kwp_imul (pc := 7) dX0_cameTo_7 ?_
  refine kwp_iload_n (pc := 8) 2 rfl dX0_cameTo_8 rfl ?_
  refine kwp_iadd (pc := 9) dX0_cameTo_9 ?_
  obtain ⟨hin, h⟩ := h
  refine kwp_iald (pc := 10) rfl hin dX0_cameTo_10 ?_
  exact kwp_iret (pc := 11) rfl dX0_cameTo_11 ⟨_, rfl, h⟩

set_option maxRecDepth 20000 in
theorem bX0_noteWhere_0 {l : Launch} {g : va_G × (Nat → ClassId) × (Nat → Nat → Nat)} (x1 : Int32) (M : kM) (Q : kM → Prop)
    (h : vp_in x1 4 ∧ (vp_in x1 4 ∧ (vp_in ((x1 * 9) + (M.1 11 2 x1.toNatClampNeg)) 36 ∧ (∀ M1 : kM, M1 = ku M 16 0 ((x1 * 9) + (M.1 11 2 x1.toNatClampNeg)).toNatClampNeg (M.1 12 2 x1.toNatClampNeg) → Q M1)))) :
    kWP l (rg_x, g) mX0_noteWhere 0 [(0, .inr (.inr (3, 0))), (1, .inl x1)] [] M (kqv Q) := by
  refine kwp_aload_n (pc := 0) 0 rfl dX0_noteWhere_0 rfl ?_
  refine kwp_getc (pc := 1) fl_X0_18 rfl rfl dX0_noteWhere_1 ?_
  refine kwp_iload_n (pc := 4) 1 rfl dX0_noteWhere_4 rfl ?_
  refine kwp_bipush (pc := 5) dX0_noteWhere_5 bp_9 ?_
  refine kwp_imul (pc := 7) dX0_noteWhere_7 ?_
  refine kwp_aload_n (pc := 8) 0 rfl dX0_noteWhere_8 rfl ?_
  refine kwp_getc (pc := 9) fl_X0_12 rfl rfl dX0_noteWhere_9 ?_
  refine kwp_getr (pc := 12) fl_X0_42 rfl rfl dX0_noteWhere_12 ?_
  refine kwp_iload_n (pc := 15) 1 rfl dX0_noteWhere_15 rfl ?_
  obtain ⟨hin, h⟩ := h
  refine kwp_iald (pc := 16) rfl hin dX0_noteWhere_16 ?_
  refine kwp_iadd (pc := 17) dX0_noteWhere_17 ?_
  refine kwp_aload_n (pc := 18) 0 rfl dX0_noteWhere_18 rfl ?_
  refine kwp_getc (pc := 19) fl_X0_12 rfl rfl dX0_noteWhere_19 ?_
  refine kwp_getr (pc := 22) fl_X0_53 rfl rfl dX0_noteWhere_22 ?_
  refine kwp_iload_n (pc := 25) 1 rfl dX0_noteWhere_25 rfl ?_
  obtain ⟨hin, h⟩ := h
  refine kwp_iald (pc := 26) rfl hin dX0_noteWhere_26 ?_
  obtain ⟨hin, h⟩ := h
  refine kwp_iast (pc := 27) rfl hin dX0_noteWhere_27 ?_
  obtain ⟨M1, eM1⟩ : ∃ z : kM, z = ku M 16 0 ((x1 * 9) + (M.1 11 2 x1.toNatClampNeg)).toNatClampNeg (M.1 12 2 x1.toNatClampNeg) := ⟨_, rfl⟩
  rw [← eM1]
  have h := h M1 eM1
  exact kwp_vret (pc := 28) rfl dX0_noteWhere_28 ⟨rfl, h⟩

set_option maxRecDepth 20000 in
theorem bX1_isMissing_0 {l : Launch} {g : va_G × (Nat → ClassId) × (Nat → Nat → Nat)} (k0 : Nat) (M : kM) (Q : Int32 → kM → Prop)
    (h : ((¬ (M.1 5 k0 0) = (-1) → kWP l (rg_x, g) mX1_isMissing 13 [] [.inl 0] M (kqi Q)) ∧ ((M.1 5 k0 0) = (-1) → kWP l (rg_x, g) mX1_isMissing 13 [] [.inl 1] M (kqi Q)))) :
    kWP l (rg_x, g) mX1_isMissing 0 [(0, .inr (.inr (5, k0)))] [] M (kqi Q) := by
  refine kwp_aload_n (pc := 0) 0 rfl dX1_isMissing_0 rfl ?_
  refine kwp_geti (pc := 1) fl_X1_11 rfl rfl dX1_isMissing_1 ?_
  refine kwp_iconst (pc := 4) dX1_isMissing_4 ic_m1 ?_
  refine kwp_icmp_ne (pc := 5) 12 dX1_isMissing_5 (by decide) (fun hc => ?_) (fun hc => ?_)
  · have h := h.1 hc
    refine kwp_iconst (pc := 12) dX1_isMissing_12 ic_0 ?_
    refine kwp_sub [] rfl ?_
    exact h
  · have h := h.2 hc
    refine kwp_iconst (pc := 8) dX1_isMissing_8 ic_1 ?_
    refine kwp_goto (pc := 9) 13 dX1_isMissing_9 (by decide) ?_
    refine kwp_sub [] rfl ?_
    exact h

set_option maxRecDepth 20000 in
theorem bX1_isMissing_13 {l : Launch} {g : va_G × (Nat → ClassId) × (Nat → Nat → Nat)} (s0 : Int32) (M : kM) (Q : Int32 → kM → Prop)
    (h : ((s0 = 0 ∨ s0 = 1) ∧ Q s0 M)) :
    kWP l (rg_x, g) mX1_isMissing 13 [] [.inl s0] M (kqi Q) := by
  exact kwp_zret (pc := 13) rfl h.1 dX1_isMissing_13 ⟨_, rfl, h.2⟩

set_option maxRecDepth 20000 in
theorem bX1_lay_0 {l : Launch} {g : va_G × (Nat → ClassId) × (Nat → Nat → Nat)} (k0 : Nat) (x1 : Int32) (x2 : Int32) (M : kM) (Q : kM → Prop)
    (h : ∀ M1 : kM, M1 = ku M 5 k0 0 x1 → ∀ M2 : kM, M2 = ku M1 5 k0 1 x2 → kWP l (rg_x, g) mX1_lay 12 [(0, .inr (.inr (5, k0))), (3, .inl 0)] [] M2 (kqv Q)) :
    kWP l (rg_x, g) mX1_lay 0 [(0, .inr (.inr (5, k0))), (1, .inl x1), (2, .inl x2)] [] M (kqv Q) := by
  refine kwp_aload_n (pc := 0) 0 rfl dX1_lay_0 rfl ?_
  refine kwp_iload_n (pc := 1) 1 rfl dX1_lay_1 rfl ?_
  refine kwp_put (pc := 2) fp_X1_11 rfl rfl trivial dX1_lay_2 ?_
  obtain ⟨M1, eM1⟩ : ∃ z : kM, z = ku M 5 k0 0 x1 := ⟨_, rfl⟩
  rw [← eM1]
  have h := h M1 eM1
  refine kwp_aload_n (pc := 5) 0 rfl dX1_lay_5 rfl ?_
  refine kwp_iload_n (pc := 6) 2 rfl dX1_lay_6 rfl ?_
  refine kwp_put (pc := 7) fp_X1_15 rfl rfl trivial dX1_lay_7 ?_
  obtain ⟨M2, eM2⟩ : ∃ z : kM, z = ku M1 5 k0 1 x2 := ⟨_, rfl⟩
  rw [← eM2]
  have h := h M2 eM2
  refine kwp_iconst (pc := 10) dX1_lay_10 ic_0 ?_
  refine kwp_istore_n (pc := 11) (ls2 := [(3, .inl 0), (0, .inr (.inr (5, k0))), (1, .inl x1), (2, .inl x2)]) dX1_lay_11 rfl (by decide) rfl ?_
  refine kwp_sub [1, 0] rfl ?_
  exact h

set_option maxRecDepth 20000 in
theorem bX1_lay_12 {l : Launch} {g : va_G × (Nat → ClassId) × (Nat → Nat → Nat)} (k0 : Nat) (x3 : Int32) (M : kM) (Q : kM → Prop)
    (h : ((24 ≤ x3 → Q M) ∧ (¬ 24 ≤ x3 → vp_in x3 24 ∧ (∀ M1 : kM, M1 = kul M 18 k0 x3.toNatClampNeg 0 → ∀ z2 : Int32, z2 = x3 + 1 → kWP l (rg_x, g) mX1_lay 12 [(0, .inr (.inr (5, k0))), (3, .inl z2)] [] M1 (kqv Q))))) :
    kWP l (rg_x, g) mX1_lay 12 [(0, .inr (.inr (5, k0))), (3, .inl x3)] [] M (kqv Q) := by
  refine kwp_iload_n (pc := 12) 1 rfl dX1_lay_12 rfl ?_
  refine kwp_bipush (pc := 13) dX1_lay_13 bp_24 ?_
  refine kwp_icmp_ge (pc := 15) 31 dX1_lay_15 (by decide) (fun hc => ?_) (fun hc => ?_)
  · have h := h.1 hc
    exact kwp_vret (pc := 31) rfl dX1_lay_31 ⟨rfl, h⟩
  · have h := h.2 hc
    refine kwp_aload_n (pc := 18) 0 rfl dX1_lay_18 rfl ?_
    refine kwp_getr (pc := 19) fl_X1_18 rfl rfl dX1_lay_19 ?_
    refine kwp_iload_n (pc := 22) 1 rfl dX1_lay_22 rfl ?_
    refine kwp_lconst (pc := 23) (v := 0) dX1_lay_23 (by decide) ?_
    obtain ⟨hin, h⟩ := h
    refine kwp_last (pc := 24) rfl hin dX1_lay_24 ?_
    obtain ⟨M1, eM1⟩ : ∃ z : kM, z = kul M 18 k0 x3.toNatClampNeg 0 := ⟨_, rfl⟩
    rw [← eM1]
    have h := h M1 eM1
    obtain ⟨z2, ez2⟩ : ∃ z : Int32, z = x3 + 1 := ⟨_, rfl⟩
    have h := h z2 ez2
    refine kwp_iinc (pc := 25) (v := z2) (ls2 := [(3, .inl z2), (0, .inr (.inr (5, k0)))]) 1 rfl dX1_lay_25 (by rw [ez2, ic_1]) (by decide) rfl ?_
    refine kwp_goto (pc := 28) 12 dX1_lay_28 (by decide) ?_
    refine kwp_sub [1, 0] rfl ?_
    exact h

set_option maxRecDepth 20000 in
theorem bX1_clear_0 {l : Launch} {g : va_G × (Nat → ClassId) × (Nat → Nat → Nat)} (k0 : Nat) (M : kM) (Q : Int32 → kM → Prop)
    (h : ∀ M1 : kM, M1 = ku M 5 k0 0 (-1) → Q (M1.1 5 k0 1) M1) :
    kWP l (rg_x, g) mX1_clear 0 [(0, .inr (.inr (5, k0)))] [] M (kqi Q) := by
  refine kwp_aload_n (pc := 0) 0 rfl dX1_clear_0 rfl ?_
  refine kwp_iconst (pc := 1) dX1_clear_1 ic_m1 ?_
  refine kwp_put (pc := 2) fp_X1_11 rfl rfl trivial dX1_clear_2 ?_
  obtain ⟨M1, eM1⟩ : ∃ z : kM, z = ku M 5 k0 0 (-1) := ⟨_, rfl⟩
  rw [← eM1]
  have h := h M1 eM1
  refine kwp_aload_n (pc := 5) 0 rfl dX1_clear_5 rfl ?_
  refine kwp_geti (pc := 6) fl_X1_15 rfl rfl dX1_clear_6 ?_
  exact kwp_iret (pc := 9) rfl dX1_clear_9 ⟨_, rfl, h⟩

set_option maxRecDepth 20000 in
theorem bX1_holds_0 {l : Launch} {g : va_G × (Nat → ClassId) × (Nat → Nat → Nat)} (k0 : Nat) (x1 : Int32) (x2 : Int32) (M : kM) (Q : Int32 → kM → Prop)
    (h : ((x1 < 0 → kWP l (rg_x, g) mX1_holds 22 [] [] M (kqi Q)) ∧ (¬ x1 < 0 → ((x2 < 0 → kWP l (rg_x, g) mX1_holds 22 [] [] M (kqi Q)) ∧ (¬ x2 < 0 → ((((M.1 5 k0 1) - x1) < x2 → kWP l (rg_x, g) mX1_holds 22 [] [] M (kqi Q)) ∧ (¬ ((M.1 5 k0 1) - x1) < x2 → kWP l (rg_x, g) mX1_holds 23 [] [.inl 1] M (kqi Q)))))))) :
    kWP l (rg_x, g) mX1_holds 0 [(0, .inr (.inr (5, k0))), (1, .inl x1), (2, .inl x2)] [] M (kqi Q) := by
  refine kwp_iload_n (pc := 0) 1 rfl dX1_holds_0 rfl ?_
  refine kwp_if_lt (pc := 1) 22 dX1_holds_1 (by decide) (fun hc => ?_) (fun hc => ?_)
  · have h := h.1 hc
    refine kwp_sub [] rfl ?_
    exact h
  · have h := h.2 hc
    refine kwp_iload_n (pc := 4) 2 rfl dX1_holds_4 rfl ?_
    refine kwp_if_lt (pc := 5) 22 dX1_holds_5 (by decide) (fun hc => ?_) (fun hc => ?_)
    · have h := h.1 hc
      refine kwp_sub [] rfl ?_
      exact h
    · have h := h.2 hc
      refine kwp_iload_n (pc := 8) 2 rfl dX1_holds_8 rfl ?_
      refine kwp_aload_n (pc := 9) 0 rfl dX1_holds_9 rfl ?_
      refine kwp_geti (pc := 10) fl_X1_15 rfl rfl dX1_holds_10 ?_
      refine kwp_iload_n (pc := 13) 1 rfl dX1_holds_13 rfl ?_
      refine kwp_isub (pc := 14) dX1_holds_14 ?_
      refine kwp_icmp_gt (pc := 15) 22 dX1_holds_15 (by decide) (fun hc => ?_) (fun hc => ?_)
      · have h := h.1 hc
        refine kwp_sub [] rfl ?_
        exact h
      · have h := h.2 hc
        refine kwp_iconst (pc := 18) dX1_holds_18 ic_1 ?_
        refine kwp_goto (pc := 19) 23 dX1_holds_19 (by decide) ?_
        refine kwp_sub [] rfl ?_
        exact h

set_option maxRecDepth 20000 in
theorem bX1_holds_22 {l : Launch} {g : va_G × (Nat → ClassId) × (Nat → Nat → Nat)}  (M : kM) (Q : Int32 → kM → Prop)
    (h : kWP l (rg_x, g) mX1_holds 23 [] [.inl 0] M (kqi Q)) :
    kWP l (rg_x, g) mX1_holds 22 [] [] M (kqi Q) := by
  refine kwp_iconst (pc := 22) dX1_holds_22 ic_0 ?_
  exact h

set_option maxRecDepth 20000 in
theorem bX1_holds_23 {l : Launch} {g : va_G × (Nat → ClassId) × (Nat → Nat → Nat)} (s0 : Int32) (M : kM) (Q : Int32 → kM → Prop)
    (h : ((s0 = 0 ∨ s0 = 1) ∧ Q s0 M)) :
    kWP l (rg_x, g) mX1_holds 23 [] [.inl s0] M (kqi Q) := by
  exact kwp_zret (pc := 23) rfl h.1 dX1_holds_23 ⟨_, rfl, h.2⟩

set_option maxRecDepth 20000 in
theorem bX1_faultOf_0 {l : Launch} {g : va_G × (Nat → ClassId) × (Nat → Nat → Nat)} (k0 : Nat) (x1 : Int32) (x2 : Int32) (x3 : Int32) (M : kM) (Q : Int32 → kM → Prop)
    (h : kCT l (rg_x, g) mX1_isMissing [.inr (.inr (5, k0))] M (kqi (fun r2 M1 => ((r2 = 0 → (((M1.1 5 k0 0) = x1 → kCT l (rg_x, g) mX1_holds [.inr (.inr (5, k0)), .inl x2, .inl x3] M1 (kqi (fun r4 M3 => ((r4 = 0 → kWP l (rg_x, g) mX1_faultOf 36 [] [.inl (-13)] M3 (kqi Q)) ∧ (¬ r4 = 0 → kWP l (rg_x, g) mX1_faultOf 36 [] [.inl 0] M3 (kqi Q)))))) ∧ (¬ (M1.1 5 k0 0) = x1 → Q (-12) M1))) ∧ (¬ r2 = 0 → Q (-11) M1))))) :
    kWP l (rg_x, g) mX1_faultOf 0 [(0, .inr (.inr (5, k0))), (1, .inl x1), (2, .inl x2), (3, .inl x3)] [] M (kqi Q) := by
  refine kwp_aload_n (pc := 0) 0 rfl dX1_faultOf_0 rfl ?_
  refine kwp_callV (pc := 1) (Y := mX1_isMissing) (vs := []) (rest := []) fm_X1_isMissing fi_X1_isMissing ml_X1_22 (by decide) rfl rfl rfl rfl (by simp [kcat]) dX1_faultOf_1 ?_
  refine kCT.mono h (fun v M1 h => ?_)
  obtain ⟨r2, rfl, h⟩ := h
  change kWP l (rg_x, g) mX1_faultOf 4 [(0, .inr (.inr (5, k0))), (1, .inl x1), (2, .inl x2), (3, .inl x3)] [.inl r2] M1 (kqi Q)
  refine kwp_if_eq (pc := 4) 10 dX1_faultOf_4 (by decide) (fun hc => ?_) (fun hc => ?_)
  · have h := h.1 hc
    refine kwp_aload_n (pc := 10) 0 rfl dX1_faultOf_10 rfl ?_
    refine kwp_geti (pc := 11) fl_X1_11 rfl rfl dX1_faultOf_11 ?_
    refine kwp_iload_n (pc := 14) 1 rfl dX1_faultOf_14 rfl ?_
    refine kwp_icmp_eq (pc := 15) 21 dX1_faultOf_15 (by decide) (fun hc => ?_) (fun hc => ?_)
    · have h := h.1 hc
      refine kwp_aload_n (pc := 21) 0 rfl dX1_faultOf_21 rfl ?_
      refine kwp_iload_n (pc := 22) 2 rfl dX1_faultOf_22 rfl ?_
      refine kwp_iload_n (pc := 23) 3 rfl dX1_faultOf_23 rfl ?_
      refine kwp_callV (pc := 24) (Y := mX1_holds) (vs := [.inl x2, .inl x3]) (rest := []) fm_X1_holds fi_X1_holds ml_X1_26 (by decide) rfl rfl rfl rfl (by simp [kcat]) dX1_faultOf_24 ?_
      refine kCT.mono h (fun v M3 h => ?_)
      obtain ⟨r4, rfl, h⟩ := h
      change kWP l (rg_x, g) mX1_faultOf 27 [(0, .inr (.inr (5, k0))), (1, .inl x1), (2, .inl x2), (3, .inl x3)] [.inl r4] M3 (kqi Q)
      refine kwp_if_eq (pc := 27) 34 dX1_faultOf_27 (by decide) (fun hc => ?_) (fun hc => ?_)
      · have h := h.1 hc
        refine kwp_bipush (pc := 34) dX1_faultOf_34 bp_m13 ?_
        refine kwp_sub [] rfl ?_
        exact h
      · have h := h.2 hc
        refine kwp_iconst (pc := 30) dX1_faultOf_30 ic_0 ?_
        refine kwp_goto (pc := 31) 36 dX1_faultOf_31 (by decide) ?_
        refine kwp_sub [] rfl ?_
        exact h
    · have h := h.2 hc
      refine kwp_bipush (pc := 18) dX1_faultOf_18 bp_m12 ?_
      exact kwp_iret (pc := 20) rfl dX1_faultOf_20 ⟨_, rfl, h⟩
  · have h := h.2 hc
    refine kwp_bipush (pc := 7) dX1_faultOf_7 bp_m11 ?_
    exact kwp_iret (pc := 9) rfl dX1_faultOf_9 ⟨_, rfl, h⟩

set_option maxRecDepth 20000 in
theorem bX1_faultOf_36 {l : Launch} {g : va_G × (Nat → ClassId) × (Nat → Nat → Nat)} (s0 : Int32) (M : kM) (Q : Int32 → kM → Prop)
    (h : Q s0 M) :
    kWP l (rg_x, g) mX1_faultOf 36 [] [.inl s0] M (kqi Q) := by
  exact kwp_iret (pc := 36) rfl dX1_faultOf_36 ⟨_, rfl, h⟩

set_option maxRecDepth 20000 in
theorem bX1_put_0 {l : Launch} {g : va_G × (Nat → ClassId) × (Nat → Nat → Nat)} (k0 : Nat) (x1 : Int32) (x2 : Int64) (M : kM) (Q : kM → Prop)
    (h : (((M.1 5 k0 0) = 0 → vp_in x1 24 ∧ (∀ M1 : kM, M1 = kul M 18 k0 x1.toNatClampNeg x2.toInt32.toInt8.toInt32.toInt64 → kWP l (rg_x, g) mX1_put 77 [] [] M1 (kqv Q))) ∧ ((M.1 5 k0 0) = 1 → vp_in x1 24 ∧ (∀ M2 : kM, M2 = kul M 18 k0 x1.toNatClampNeg x2.toInt32.toInt16.toInt32.toInt64 → kWP l (rg_x, g) mX1_put 77 [] [] M2 (kqv Q))) ∧ ((M.1 5 k0 0) = 2 → vp_in x1 24 ∧ (∀ M3 : kM, M3 = kul M 18 k0 x1.toNatClampNeg x2.toInt32.toInt64 → kWP l (rg_x, g) mX1_put 77 [] [] M3 (kqv Q))) ∧ (¬ (M.1 5 k0 0) = 0 → ¬ (M.1 5 k0 0) = 1 → ¬ (M.1 5 k0 0) = 2 → vp_in x1 24 ∧ (∀ M4 : kM, M4 = kul M 18 k0 x1.toNatClampNeg x2 → kWP l (rg_x, g) mX1_put 77 [] [] M4 (kqv Q))))) :
    kWP l (rg_x, g) mX1_put 0 [(0, .inr (.inr (5, k0))), (1, .inl x1), (2, .inr (.inl x2))] [] M (kqv Q) := by
  refine kwp_aload_n (pc := 0) 0 rfl dX1_put_0 rfl ?_
  refine kwp_geti (pc := 1) fl_X1_11 rfl rfl dX1_put_1 ?_
  by_cases c0 : (M.1 5 k0 0) = 0
  · refine kwp_tsIn (pc := 4) 32 dX1_put_4 (by rw [c0]; decide) (by rw [c0]; decide) (off := 28) (by rw [c0]; decide) (by decide) ?_
    have h := h.1 c0
    refine kwp_aload_n (pc := 32) 0 rfl dX1_put_32 rfl ?_
    refine kwp_getr (pc := 33) fl_X1_18 rfl rfl dX1_put_33 ?_
    refine kwp_iload_n (pc := 36) 1 rfl dX1_put_36 rfl ?_
    refine kwp_lload_n (pc := 37) 2 rfl dX1_put_37 rfl ?_
    refine kwp_l2i (pc := 38) dX1_put_38 ?_
    refine kwp_i2b (pc := 39) dX1_put_39 ?_
    refine kwp_i2l (pc := 40) dX1_put_40 ?_
    obtain ⟨hin, h⟩ := h
    refine kwp_last (pc := 41) rfl hin dX1_put_41 ?_
    obtain ⟨M1, eM1⟩ : ∃ z : kM, z = kul M 18 k0 x1.toNatClampNeg x2.toInt32.toInt8.toInt32.toInt64 := ⟨_, rfl⟩
    rw [← eM1]
    have h := h M1 eM1
    refine kwp_goto (pc := 42) 77 dX1_put_42 (by decide) ?_
    refine kwp_sub [] rfl ?_
    exact h
  · have h := h.2
    by_cases c1 : (M.1 5 k0 0) = 1
    · refine kwp_tsIn (pc := 4) 45 dX1_put_4 (by rw [c1]; decide) (by rw [c1]; decide) (off := 41) (by rw [c1]; decide) (by decide) ?_
      have h := h.1 c1
      refine kwp_aload_n (pc := 45) 0 rfl dX1_put_45 rfl ?_
      refine kwp_getr (pc := 46) fl_X1_18 rfl rfl dX1_put_46 ?_
      refine kwp_iload_n (pc := 49) 1 rfl dX1_put_49 rfl ?_
      refine kwp_lload_n (pc := 50) 2 rfl dX1_put_50 rfl ?_
      refine kwp_l2i (pc := 51) dX1_put_51 ?_
      refine kwp_i2s (pc := 52) dX1_put_52 ?_
      refine kwp_i2l (pc := 53) dX1_put_53 ?_
      obtain ⟨hin, h⟩ := h
      refine kwp_last (pc := 54) rfl hin dX1_put_54 ?_
      obtain ⟨M2, eM2⟩ : ∃ z : kM, z = kul M 18 k0 x1.toNatClampNeg x2.toInt32.toInt16.toInt32.toInt64 := ⟨_, rfl⟩
      rw [← eM2]
      have h := h M2 eM2
      refine kwp_goto (pc := 55) 77 dX1_put_55 (by decide) ?_
      refine kwp_sub [] rfl ?_
      exact h
    · have h := h.2
      by_cases c2 : (M.1 5 k0 0) = 2
      · refine kwp_tsIn (pc := 4) 58 dX1_put_4 (by rw [c2]; decide) (by rw [c2]; decide) (off := 54) (by rw [c2]; decide) (by decide) ?_
        have h := h.1 c2
        refine kwp_aload_n (pc := 58) 0 rfl dX1_put_58 rfl ?_
        refine kwp_getr (pc := 59) fl_X1_18 rfl rfl dX1_put_59 ?_
        refine kwp_iload_n (pc := 62) 1 rfl dX1_put_62 rfl ?_
        refine kwp_lload_n (pc := 63) 2 rfl dX1_put_63 rfl ?_
        refine kwp_l2i (pc := 64) dX1_put_64 ?_
        refine kwp_i2l (pc := 65) dX1_put_65 ?_
        obtain ⟨hin, h⟩ := h
        refine kwp_last (pc := 66) rfl hin dX1_put_66 ?_
        obtain ⟨M3, eM3⟩ : ∃ z : kM, z = kul M 18 k0 x1.toNatClampNeg x2.toInt32.toInt64 := ⟨_, rfl⟩
        rw [← eM3]
        have h := h M3 eM3
        refine kwp_goto (pc := 67) 77 dX1_put_67 (by decide) ?_
        refine kwp_sub [] rfl ?_
        exact h
      · have h := h.2
        have h := h c0 c1 c2
        refine kwp_tsOut (pc := 4) 70 dX1_put_4 (by have a0 := lv_neT c0 (a := 0) (by decide); have a1 := lv_neT c1 (a := 1) (by decide); have a2 := lv_neT c2 (a := 2) (by decide); omega) (by decide) ?_
        refine kwp_aload_n (pc := 70) 0 rfl dX1_put_70 rfl ?_
        refine kwp_getr (pc := 71) fl_X1_18 rfl rfl dX1_put_71 ?_
        refine kwp_iload_n (pc := 74) 1 rfl dX1_put_74 rfl ?_
        refine kwp_lload_n (pc := 75) 2 rfl dX1_put_75 rfl ?_
        obtain ⟨hin, h⟩ := h
        refine kwp_last (pc := 76) rfl hin dX1_put_76 ?_
        obtain ⟨M4, eM4⟩ : ∃ z : kM, z = kul M 18 k0 x1.toNatClampNeg x2 := ⟨_, rfl⟩
        rw [← eM4]
        have h := h M4 eM4
        refine kwp_sub [] rfl ?_
        exact h

set_option maxRecDepth 20000 in
theorem bX1_put_77 {l : Launch} {g : va_G × (Nat → ClassId) × (Nat → Nat → Nat)}  (M : kM) (Q : kM → Prop)
    (h : Q M) :
    kWP l (rg_x, g) mX1_put 77 [] [] M (kqv Q) := by
  exact kwp_vret (pc := 77) rfl dX1_put_77 ⟨rfl, h⟩

set_option maxRecDepth 20000 in
theorem bX2_forget_0 {l : Launch} {g : va_G × (Nat → ClassId) × (Nat → Nat → Nat)} (k0 : Nat) (M : kM) (Q : kM → Prop)
    (h : ∀ M1 : kM, M1 = ku M 2 k0 0 0 → Q M1) :
    kWP l (rg_x, g) mX2_forget 0 [(0, .inr (.inr (2, k0)))] [] M (kqv Q) := by
  refine kwp_aload_n (pc := 0) 0 rfl dX2_forget_0 rfl ?_
  refine kwp_iconst (pc := 1) dX2_forget_1 ic_0 ?_
  refine kwp_put (pc := 2) fp_X2_7 rfl rfl trivial dX2_forget_2 ?_
  obtain ⟨M1, eM1⟩ : ∃ z : kM, z = ku M 2 k0 0 0 := ⟨_, rfl⟩
  rw [← eM1]
  have h := h M1 eM1
  exact kwp_vret (pc := 5) rfl dX2_forget_5 ⟨rfl, h⟩

set_option maxRecDepth 20000 in
theorem bX2_mark_0 {l : Launch} {g : va_G × (Nat → ClassId) × (Nat → Nat → Nat)} (k0 : Nat) (k1 : Nat) (M : kM) (Q : kM → Prop)
    (h : kCT l (rg_x, g) mX3_writeMoving [.inr (.inr (1, k1)), .inr (.inr (15, k0)), .inl ((M.1 2 k0 1) * 21)] M (kqv (fun M1 => ∀ M2 : kM, M2 = ku M1 2 k0 1 (((M1.1 2 k0 1) + 1) - ((M1.1 2 k0 1) + 1) / 8 * 8) → ∀ M3 : kM, M3 = ku M2 2 k0 0 (mni 8 ((M2.1 2 k0 0) + 1)) → Q M3))) :
    kWP l (rg_x, g) mX2_mark 0 [(0, .inr (.inr (2, k0))), (1, .inr (.inr (1, k1)))] [] M (kqv Q) := by
  refine kwp_aload_n (pc := 0) 1 rfl dX2_mark_0 rfl ?_
  refine kwp_aload_n (pc := 1) 0 rfl dX2_mark_1 rfl ?_
  refine kwp_getr (pc := 2) fl_X2_18 rfl rfl dX2_mark_2 ?_
  refine kwp_aload_n (pc := 5) 0 rfl dX2_mark_5 rfl ?_
  refine kwp_geti (pc := 6) fl_X2_13 rfl rfl dX2_mark_6 ?_
  refine kwp_bipush (pc := 9) dX2_mark_9 bp_21 ?_
  refine kwp_imul (pc := 11) dX2_mark_11 ?_
  refine kwp_callV (pc := 12) (Y := mX3_writeMoving) (vs := [.inr (.inr (15, k0)), .inl ((M.1 2 k0 1) * 21)]) (rest := []) fm_X3_writeMoving fi_X3_writeMoving ml_X2_22 (by decide) rfl rfl rfl rfl (by simp [kcat]) dX2_mark_12 ?_
  refine kCT.mono h (fun v M1 h => ?_)
  obtain ⟨rfl, h⟩ := h
  change kWP l (rg_x, g) mX2_mark 15 [(0, .inr (.inr (2, k0))), (1, .inr (.inr (1, k1)))] [] M1 (kqv Q)
  refine kwp_aload_n (pc := 15) 0 rfl dX2_mark_15 rfl ?_
  refine kwp_aload_n (pc := 16) 0 rfl dX2_mark_16 rfl ?_
  refine kwp_geti (pc := 17) fl_X2_13 rfl rfl dX2_mark_17 ?_
  refine kwp_iconst (pc := 20) dX2_mark_20 ic_1 ?_
  refine kwp_iadd (pc := 21) dX2_mark_21 ?_
  refine kwp_bipush (pc := 22) dX2_mark_22 bp_8 ?_
  refine kwp_irem (pc := 24) dX2_mark_24 (by decide) ?_
  refine kwp_put (pc := 25) fp_X2_13 rfl rfl trivial dX2_mark_25 ?_
  obtain ⟨M2, eM2⟩ : ∃ z : kM, z = ku M1 2 k0 1 (((M1.1 2 k0 1) + 1) - ((M1.1 2 k0 1) + 1) / 8 * 8) := ⟨_, rfl⟩
  rw [← eM2]
  have h := h M2 eM2
  refine kwp_aload_n (pc := 28) 0 rfl dX2_mark_28 rfl ?_
  refine kwp_bipush (pc := 29) dX2_mark_29 bp_8 ?_
  refine kwp_aload_n (pc := 31) 0 rfl dX2_mark_31 rfl ?_
  refine kwp_geti (pc := 32) fl_X2_7 rfl rfl dX2_mark_32 ?_
  refine kwp_iconst (pc := 35) dX2_mark_35 ic_1 ?_
  refine kwp_iadd (pc := 36) dX2_mark_36 ?_
  refine kwp_mmin (pc := 37) ml_X2_26 (by simp [kcat]) (by decide) dX2_mark_37 ?_
  refine kwp_put (pc := 40) fp_X2_7 rfl rfl trivial dX2_mark_40 ?_
  obtain ⟨M3, eM3⟩ : ∃ z : kM, z = ku M2 2 k0 0 (mni 8 ((M2.1 2 k0 0) + 1)) := ⟨_, rfl⟩
  rw [← eM3]
  have h := h M3 eM3
  exact kwp_vret (pc := 43) rfl dX2_mark_43 ⟨rfl, h⟩

set_option maxRecDepth 20000 in
theorem bX2_goBack_0 {l : Launch} {g : va_G × (Nat → ClassId) × (Nat → Nat → Nat)} (k0 : Nat) (k1 : Nat) (M : kM) (Q : kM → Prop)
    (h : ∀ M1 : kM, M1 = ku M 2 k0 1 ((((M.1 2 k0 1) + 8) - 1) - (((M.1 2 k0 1) + 8) - 1) / 8 * 8) → ∀ M2 : kM, M2 = ku M1 2 k0 0 ((M1.1 2 k0 0) - 1) → kCT l (rg_x, g) mX3_readMoving [.inr (.inr (1, k1)), .inr (.inr (15, k0)), .inl ((M2.1 2 k0 1) * 21)] M2 (kqv (fun M3 => Q M3))) :
    kWP l (rg_x, g) mX2_goBack 0 [(0, .inr (.inr (2, k0))), (1, .inr (.inr (1, k1)))] [] M (kqv Q) := by
  refine kwp_aload_n (pc := 0) 0 rfl dX2_goBack_0 rfl ?_
  refine kwp_aload_n (pc := 1) 0 rfl dX2_goBack_1 rfl ?_
  refine kwp_geti (pc := 2) fl_X2_13 rfl rfl dX2_goBack_2 ?_
  refine kwp_bipush (pc := 5) dX2_goBack_5 bp_8 ?_
  refine kwp_iadd (pc := 7) dX2_goBack_7 ?_
  refine kwp_iconst (pc := 8) dX2_goBack_8 ic_1 ?_
  refine kwp_isub (pc := 9) dX2_goBack_9 ?_
  refine kwp_bipush (pc := 10) dX2_goBack_10 bp_8 ?_
  refine kwp_irem (pc := 12) dX2_goBack_12 (by decide) ?_
  refine kwp_put (pc := 13) fp_X2_13 rfl rfl trivial dX2_goBack_13 ?_
  obtain ⟨M1, eM1⟩ : ∃ z : kM, z = ku M 2 k0 1 ((((M.1 2 k0 1) + 8) - 1) - (((M.1 2 k0 1) + 8) - 1) / 8 * 8) := ⟨_, rfl⟩
  rw [← eM1]
  have h := h M1 eM1
  refine kwp_aload_n (pc := 16) 0 rfl dX2_goBack_16 rfl ?_
  refine kwp_dup (pc := 17) dX2_goBack_17 rfl ?_
  refine kwp_geti (pc := 18) fl_X2_7 rfl rfl dX2_goBack_18 ?_
  refine kwp_iconst (pc := 21) dX2_goBack_21 ic_1 ?_
  refine kwp_isub (pc := 22) dX2_goBack_22 ?_
  refine kwp_put (pc := 23) fp_X2_7 rfl rfl trivial dX2_goBack_23 ?_
  obtain ⟨M2, eM2⟩ : ∃ z : kM, z = ku M1 2 k0 0 ((M1.1 2 k0 0) - 1) := ⟨_, rfl⟩
  rw [← eM2]
  have h := h M2 eM2
  refine kwp_aload_n (pc := 26) 1 rfl dX2_goBack_26 rfl ?_
  refine kwp_aload_n (pc := 27) 0 rfl dX2_goBack_27 rfl ?_
  refine kwp_getr (pc := 28) fl_X2_18 rfl rfl dX2_goBack_28 ?_
  refine kwp_aload_n (pc := 31) 0 rfl dX2_goBack_31 rfl ?_
  refine kwp_geti (pc := 32) fl_X2_13 rfl rfl dX2_goBack_32 ?_
  refine kwp_bipush (pc := 35) dX2_goBack_35 bp_21 ?_
  refine kwp_imul (pc := 37) dX2_goBack_37 ?_
  refine kwp_callV (pc := 38) (Y := mX3_readMoving) (vs := [.inr (.inr (15, k0)), .inl ((M2.1 2 k0 1) * 21)]) (rest := []) fm_X3_readMoving fi_X3_readMoving ml_X2_32 (by decide) rfl rfl rfl rfl (by simp [kcat]) dX2_goBack_38 ?_
  refine kCT.mono h (fun v M3 h => ?_)
  obtain ⟨rfl, h⟩ := h
  change kWP l (rg_x, g) mX2_goBack 41 [(0, .inr (.inr (2, k0))), (1, .inr (.inr (1, k1)))] [] M3 (kqv Q)
  exact kwp_vret (pc := 41) rfl dX2_goBack_41 ⟨rfl, h⟩

set_option maxRecDepth 20000 in
theorem bX2_takeAll_0 {l : Launch} {g : va_G × (Nat → ClassId) × (Nat → Nat → Nat)} (k0 : Nat) (k1 : Nat) (M : kM) (Q : kM → Prop)
    (h : ∀ M1 : kM, M1 = ku M 2 k0 0 (M.1 2 k1 0) → ∀ M2 : kM, M2 = ku M1 2 k0 1 (M1.1 2 k1 1) → ∀ M3 : kM, M3 = kcp M2 15 k1 (0 : Int32).toNatClampNeg 15 k0 (0 : Int32).toNatClampNeg (168 : Int32).toNatClampNeg → Q M3) :
    kWP l (rg_x, g) mX2_takeAll 0 [(0, .inr (.inr (2, k0))), (1, .inr (.inr (2, k1)))] [] M (kqv Q) := by
  refine kwp_aload_n (pc := 0) 0 rfl dX2_takeAll_0 rfl ?_
  refine kwp_aload_n (pc := 1) 1 rfl dX2_takeAll_1 rfl ?_
  refine kwp_geti (pc := 2) fl_X2_7 rfl rfl dX2_takeAll_2 ?_
  refine kwp_put (pc := 5) fp_X2_7 rfl rfl trivial dX2_takeAll_5 ?_
  obtain ⟨M1, eM1⟩ : ∃ z : kM, z = ku M 2 k0 0 (M.1 2 k1 0) := ⟨_, rfl⟩
  rw [← eM1]
  have h := h M1 eM1
  refine kwp_aload_n (pc := 8) 0 rfl dX2_takeAll_8 rfl ?_
  refine kwp_aload_n (pc := 9) 1 rfl dX2_takeAll_9 rfl ?_
  refine kwp_geti (pc := 10) fl_X2_13 rfl rfl dX2_takeAll_10 ?_
  refine kwp_put (pc := 13) fp_X2_13 rfl rfl trivial dX2_takeAll_13 ?_
  obtain ⟨M2, eM2⟩ : ∃ z : kM, z = ku M1 2 k0 1 (M1.1 2 k1 1) := ⟨_, rfl⟩
  rw [← eM2]
  have h := h M2 eM2
  refine kwp_aload_n (pc := 16) 1 rfl dX2_takeAll_16 rfl ?_
  refine kwp_getr (pc := 17) fl_X2_18 rfl rfl dX2_takeAll_17 ?_
  refine kwp_iconst (pc := 20) dX2_takeAll_20 ic_0 ?_
  refine kwp_aload_n (pc := 21) 0 rfl dX2_takeAll_21 rfl ?_
  refine kwp_getr (pc := 22) fl_X2_18 rfl rfl dX2_takeAll_22 ?_
  refine kwp_iconst (pc := 25) dX2_takeAll_25 ic_0 ?_
  refine kwp_aload_n (pc := 26) 0 rfl dX2_takeAll_26 rfl ?_
  refine kwp_getr (pc := 27) fl_X2_18 rfl rfl dX2_takeAll_27 ?_
  refine kwp_alen (pc := 30) (v := 168) rfl (by decide) dX2_takeAll_30 ?_
  refine kwp_copyi (pc := 31) ml_X2_35 rfl rfl (by decide) (by decide) (by decide) (by decide) (by decide) (by decide) (by decide) dX2_takeAll_31 ?_
  obtain ⟨M3, eM3⟩ : ∃ z : kM, z = kcp M2 15 k1 (0 : Int32).toNatClampNeg 15 k0 (0 : Int32).toNatClampNeg (168 : Int32).toNatClampNeg := ⟨_, rfl⟩
  rw [← eM3]
  have h := h M3 eM3
  exact kwp_vret (pc := 34) rfl dX2_takeAll_34 ⟨rfl, h⟩

set_option maxRecDepth 20000 in
theorem bX3_takeAll_0 {l : Launch} {g : va_G × (Nat → ClassId) × (Nat → Nat → Nat)} (k0 : Nat) (k1 : Nat) (M : kM) (Q : kM → Prop)
    (h : kCT l (rg_x, g) mX3_takeRoad [.inr (.inr (1, k0)), .inr (.inr (1, k1))] M (kqv (fun M1 => ∀ M2 : kM, M2 = ku M1 1 k0 2 (M1.1 1 k1 2) → ∀ M3 : kM, M3 = ku M2 1 k0 3 (M2.1 1 k1 3) → Q M3))) :
    kWP l (rg_x, g) mX3_takeAll 0 [(0, .inr (.inr (1, k0))), (1, .inr (.inr (1, k1)))] [] M (kqv Q) := by
  refine kwp_aload_n (pc := 0) 0 rfl dX3_takeAll_0 rfl ?_
  refine kwp_aload_n (pc := 1) 1 rfl dX3_takeAll_1 rfl ?_
  refine kwp_callV (pc := 2) (Y := mX3_takeRoad) (vs := [.inr (.inr (1, k1))]) (rest := []) fm_X3_takeRoad fi_X3_takeRoad ml_X3_49 (by decide) rfl rfl rfl rfl (by simp [kcat]) dX3_takeAll_2 ?_
  refine kCT.mono h (fun v M1 h => ?_)
  obtain ⟨rfl, h⟩ := h
  change kWP l (rg_x, g) mX3_takeAll 5 [(0, .inr (.inr (1, k0))), (1, .inr (.inr (1, k1)))] [] M1 (kqv Q)
  refine kwp_aload_n (pc := 5) 0 rfl dX3_takeAll_5 rfl ?_
  refine kwp_aload_n (pc := 6) 1 rfl dX3_takeAll_6 rfl ?_
  refine kwp_geti (pc := 7) fl_X3_18 rfl rfl dX3_takeAll_7 ?_
  refine kwp_put (pc := 10) fp_X3_18 rfl rfl trivial dX3_takeAll_10 ?_
  obtain ⟨M2, eM2⟩ : ∃ z : kM, z = ku M1 1 k0 2 (M1.1 1 k1 2) := ⟨_, rfl⟩
  rw [← eM2]
  have h := h M2 eM2
  refine kwp_aload_n (pc := 13) 0 rfl dX3_takeAll_13 rfl ?_
  refine kwp_aload_n (pc := 14) 1 rfl dX3_takeAll_14 rfl ?_
  refine kwp_geti (pc := 15) fl_X3_21 rfl rfl dX3_takeAll_15 ?_
  refine kwp_put (pc := 18) fp_X3_21 rfl rfl trivial dX3_takeAll_18 ?_
  obtain ⟨M3, eM3⟩ : ∃ z : kM, z = ku M2 1 k0 3 (M2.1 1 k1 3) := ⟨_, rfl⟩
  rw [← eM3]
  have h := h M3 eM3
  exact kwp_vret (pc := 21) rfl dX3_takeAll_21 ⟨rfl, h⟩

set_option maxRecDepth 20000 in
theorem bX3_takeRoad_0 {l : Launch} {g : va_G × (Nat → ClassId) × (Nat → Nat → Nat)} (k0 : Nat) (k1 : Nat) (M : kM) (Q : kM → Prop)
    (h : ∀ M1 : kM, M1 = ku M 1 k0 0 (M.1 1 k1 0) → ∀ M2 : kM, M2 = ku M1 1 k0 1 (M1.1 1 k1 1) → ∀ M3 : kM, M3 = kcp M2 7 k1 (0 : Int32).toNatClampNeg 7 k0 (0 : Int32).toNatClampNeg (8 : Int32).toNatClampNeg → ∀ M4 : kM, M4 = kcp M3 8 k1 (0 : Int32).toNatClampNeg 8 k0 (0 : Int32).toNatClampNeg (8 : Int32).toNatClampNeg → ∀ M5 : kM, M5 = kcp M4 9 k1 (0 : Int32).toNatClampNeg 9 k0 (0 : Int32).toNatClampNeg (8 : Int32).toNatClampNeg → ∀ M6 : kM, M6 = kcp M5 10 k1 (0 : Int32).toNatClampNeg 10 k0 (0 : Int32).toNatClampNeg (4 : Int32).toNatClampNeg → ∀ M7 : kM, M7 = kcp M6 11 k1 (0 : Int32).toNatClampNeg 11 k0 (0 : Int32).toNatClampNeg (4 : Int32).toNatClampNeg → ∀ M8 : kM, M8 = kcp M7 12 k1 (0 : Int32).toNatClampNeg 12 k0 (0 : Int32).toNatClampNeg (4 : Int32).toNatClampNeg → ∀ M9 : kM, M9 = kcp M8 13 k1 (0 : Int32).toNatClampNeg 13 k0 (0 : Int32).toNatClampNeg (4 : Int32).toNatClampNeg → ∀ M10 : kM, M10 = kcp M9 14 k1 (0 : Int32).toNatClampNeg 14 k0 (0 : Int32).toNatClampNeg (4 : Int32).toNatClampNeg → Q M10) :
    kWP l (rg_x, g) mX3_takeRoad 0 [(0, .inr (.inr (1, k0))), (1, .inr (.inr (1, k1)))] [] M (kqv Q) := by
  refine kwp_aload_n (pc := 0) 0 rfl dX3_takeRoad_0 rfl ?_
  refine kwp_aload_n (pc := 1) 1 rfl dX3_takeRoad_1 rfl ?_
  refine kwp_geti (pc := 2) fl_X3_9 rfl rfl dX3_takeRoad_2 ?_
  refine kwp_put (pc := 5) fp_X3_9 rfl rfl trivial dX3_takeRoad_5 ?_
  obtain ⟨M1, eM1⟩ : ∃ z : kM, z = ku M 1 k0 0 (M.1 1 k1 0) := ⟨_, rfl⟩
  rw [← eM1]
  have h := h M1 eM1
  refine kwp_aload_n (pc := 8) 0 rfl dX3_takeRoad_8 rfl ?_
  refine kwp_aload_n (pc := 9) 1 rfl dX3_takeRoad_9 rfl ?_
  refine kwp_geti (pc := 10) fl_X3_15 rfl rfl dX3_takeRoad_10 ?_
  refine kwp_put (pc := 13) fp_X3_15 rfl rfl trivial dX3_takeRoad_13 ?_
  obtain ⟨M2, eM2⟩ : ∃ z : kM, z = ku M1 1 k0 1 (M1.1 1 k1 1) := ⟨_, rfl⟩
  rw [← eM2]
  have h := h M2 eM2
  refine kwp_aload_n (pc := 16) 1 rfl dX3_takeRoad_16 rfl ?_
  refine kwp_getr (pc := 17) fl_X3_24 rfl rfl dX3_takeRoad_17 ?_
  refine kwp_iconst (pc := 20) dX3_takeRoad_20 ic_0 ?_
  refine kwp_aload_n (pc := 21) 0 rfl dX3_takeRoad_21 rfl ?_
  refine kwp_getr (pc := 22) fl_X3_24 rfl rfl dX3_takeRoad_22 ?_
  refine kwp_iconst (pc := 25) dX3_takeRoad_25 ic_0 ?_
  refine kwp_bipush (pc := 26) dX3_takeRoad_26 bp_8 ?_
  refine kwp_copyi (pc := 28) ml_X3_53 rfl rfl (by decide) (by decide) (by decide) (by decide) (by decide) (by decide) (by decide) dX3_takeRoad_28 ?_
  obtain ⟨M3, eM3⟩ : ∃ z : kM, z = kcp M2 7 k1 (0 : Int32).toNatClampNeg 7 k0 (0 : Int32).toNatClampNeg (8 : Int32).toNatClampNeg := ⟨_, rfl⟩
  rw [← eM3]
  have h := h M3 eM3
  refine kwp_aload_n (pc := 31) 1 rfl dX3_takeRoad_31 rfl ?_
  refine kwp_getr (pc := 32) fl_X3_28 rfl rfl dX3_takeRoad_32 ?_
  refine kwp_iconst (pc := 35) dX3_takeRoad_35 ic_0 ?_
  refine kwp_aload_n (pc := 36) 0 rfl dX3_takeRoad_36 rfl ?_
  refine kwp_getr (pc := 37) fl_X3_28 rfl rfl dX3_takeRoad_37 ?_
  refine kwp_iconst (pc := 40) dX3_takeRoad_40 ic_0 ?_
  refine kwp_bipush (pc := 41) dX3_takeRoad_41 bp_8 ?_
  refine kwp_copyi (pc := 43) ml_X3_53 rfl rfl (by decide) (by decide) (by decide) (by decide) (by decide) (by decide) (by decide) dX3_takeRoad_43 ?_
  obtain ⟨M4, eM4⟩ : ∃ z : kM, z = kcp M3 8 k1 (0 : Int32).toNatClampNeg 8 k0 (0 : Int32).toNatClampNeg (8 : Int32).toNatClampNeg := ⟨_, rfl⟩
  rw [← eM4]
  have h := h M4 eM4
  refine kwp_aload_n (pc := 46) 1 rfl dX3_takeRoad_46 rfl ?_
  refine kwp_getr (pc := 47) fl_X3_31 rfl rfl dX3_takeRoad_47 ?_
  refine kwp_iconst (pc := 50) dX3_takeRoad_50 ic_0 ?_
  refine kwp_aload_n (pc := 51) 0 rfl dX3_takeRoad_51 rfl ?_
  refine kwp_getr (pc := 52) fl_X3_31 rfl rfl dX3_takeRoad_52 ?_
  refine kwp_iconst (pc := 55) dX3_takeRoad_55 ic_0 ?_
  refine kwp_bipush (pc := 56) dX3_takeRoad_56 bp_8 ?_
  refine kwp_copyi (pc := 58) ml_X3_53 rfl rfl (by decide) (by decide) (by decide) (by decide) (by decide) (by decide) (by decide) dX3_takeRoad_58 ?_
  obtain ⟨M5, eM5⟩ : ∃ z : kM, z = kcp M4 9 k1 (0 : Int32).toNatClampNeg 9 k0 (0 : Int32).toNatClampNeg (8 : Int32).toNatClampNeg := ⟨_, rfl⟩
  rw [← eM5]
  have h := h M5 eM5
  refine kwp_aload_n (pc := 61) 1 rfl dX3_takeRoad_61 rfl ?_
  refine kwp_getr (pc := 62) fl_X3_34 rfl rfl dX3_takeRoad_62 ?_
  refine kwp_iconst (pc := 65) dX3_takeRoad_65 ic_0 ?_
  refine kwp_aload_n (pc := 66) 0 rfl dX3_takeRoad_66 rfl ?_
  refine kwp_getr (pc := 67) fl_X3_34 rfl rfl dX3_takeRoad_67 ?_
  refine kwp_iconst (pc := 70) dX3_takeRoad_70 ic_0 ?_
  refine kwp_iconst (pc := 71) dX3_takeRoad_71 ic_4 ?_
  refine kwp_copyi (pc := 72) ml_X3_53 rfl rfl (by decide) (by decide) (by decide) (by decide) (by decide) (by decide) (by decide) dX3_takeRoad_72 ?_
  obtain ⟨M6, eM6⟩ : ∃ z : kM, z = kcp M5 10 k1 (0 : Int32).toNatClampNeg 10 k0 (0 : Int32).toNatClampNeg (4 : Int32).toNatClampNeg := ⟨_, rfl⟩
  rw [← eM6]
  have h := h M6 eM6
  refine kwp_aload_n (pc := 75) 1 rfl dX3_takeRoad_75 rfl ?_
  refine kwp_getr (pc := 76) fl_X3_37 rfl rfl dX3_takeRoad_76 ?_
  refine kwp_iconst (pc := 79) dX3_takeRoad_79 ic_0 ?_
  refine kwp_aload_n (pc := 80) 0 rfl dX3_takeRoad_80 rfl ?_
  refine kwp_getr (pc := 81) fl_X3_37 rfl rfl dX3_takeRoad_81 ?_
  refine kwp_iconst (pc := 84) dX3_takeRoad_84 ic_0 ?_
  refine kwp_iconst (pc := 85) dX3_takeRoad_85 ic_4 ?_
  refine kwp_copyi (pc := 86) ml_X3_53 rfl rfl (by decide) (by decide) (by decide) (by decide) (by decide) (by decide) (by decide) dX3_takeRoad_86 ?_
  obtain ⟨M7, eM7⟩ : ∃ z : kM, z = kcp M6 11 k1 (0 : Int32).toNatClampNeg 11 k0 (0 : Int32).toNatClampNeg (4 : Int32).toNatClampNeg := ⟨_, rfl⟩
  rw [← eM7]
  have h := h M7 eM7
  refine kwp_aload_n (pc := 89) 1 rfl dX3_takeRoad_89 rfl ?_
  refine kwp_getr (pc := 90) fl_X3_40 rfl rfl dX3_takeRoad_90 ?_
  refine kwp_iconst (pc := 93) dX3_takeRoad_93 ic_0 ?_
  refine kwp_aload_n (pc := 94) 0 rfl dX3_takeRoad_94 rfl ?_
  refine kwp_getr (pc := 95) fl_X3_40 rfl rfl dX3_takeRoad_95 ?_
  refine kwp_iconst (pc := 98) dX3_takeRoad_98 ic_0 ?_
  refine kwp_iconst (pc := 99) dX3_takeRoad_99 ic_4 ?_
  refine kwp_copyi (pc := 100) ml_X3_53 rfl rfl (by decide) (by decide) (by decide) (by decide) (by decide) (by decide) (by decide) dX3_takeRoad_100 ?_
  obtain ⟨M8, eM8⟩ : ∃ z : kM, z = kcp M7 12 k1 (0 : Int32).toNatClampNeg 12 k0 (0 : Int32).toNatClampNeg (4 : Int32).toNatClampNeg := ⟨_, rfl⟩
  rw [← eM8]
  have h := h M8 eM8
  refine kwp_aload_n (pc := 103) 1 rfl dX3_takeRoad_103 rfl ?_
  refine kwp_getr (pc := 104) fl_X3_43 rfl rfl dX3_takeRoad_104 ?_
  refine kwp_iconst (pc := 107) dX3_takeRoad_107 ic_0 ?_
  refine kwp_aload_n (pc := 108) 0 rfl dX3_takeRoad_108 rfl ?_
  refine kwp_getr (pc := 109) fl_X3_43 rfl rfl dX3_takeRoad_109 ?_
  refine kwp_iconst (pc := 112) dX3_takeRoad_112 ic_0 ?_
  refine kwp_iconst (pc := 113) dX3_takeRoad_113 ic_4 ?_
  refine kwp_copyi (pc := 114) ml_X3_53 rfl rfl (by decide) (by decide) (by decide) (by decide) (by decide) (by decide) (by decide) dX3_takeRoad_114 ?_
  obtain ⟨M9, eM9⟩ : ∃ z : kM, z = kcp M8 13 k1 (0 : Int32).toNatClampNeg 13 k0 (0 : Int32).toNatClampNeg (4 : Int32).toNatClampNeg := ⟨_, rfl⟩
  rw [← eM9]
  have h := h M9 eM9
  refine kwp_aload_n (pc := 117) 1 rfl dX3_takeRoad_117 rfl ?_
  refine kwp_getr (pc := 118) fl_X3_46 rfl rfl dX3_takeRoad_118 ?_
  refine kwp_iconst (pc := 121) dX3_takeRoad_121 ic_0 ?_
  refine kwp_aload_n (pc := 122) 0 rfl dX3_takeRoad_122 rfl ?_
  refine kwp_getr (pc := 123) fl_X3_46 rfl rfl dX3_takeRoad_123 ?_
  refine kwp_iconst (pc := 126) dX3_takeRoad_126 ic_0 ?_
  refine kwp_iconst (pc := 127) dX3_takeRoad_127 ic_4 ?_
  refine kwp_copyi (pc := 128) ml_X3_53 rfl rfl (by decide) (by decide) (by decide) (by decide) (by decide) (by decide) (by decide) dX3_takeRoad_128 ?_
  obtain ⟨M10, eM10⟩ : ∃ z : kM, z = kcp M9 14 k1 (0 : Int32).toNatClampNeg 14 k0 (0 : Int32).toNatClampNeg (4 : Int32).toNatClampNeg := ⟨_, rfl⟩
  rw [← eM10]
  have h := h M10 eM10
  exact kwp_vret (pc := 131) rfl dX3_takeRoad_131 ⟨rfl, h⟩

set_option maxRecDepth 20000 in
theorem bX3_writeMoving_0 {l : Launch} {g : va_G × (Nat → ClassId) × (Nat → Nat → Nat)} (k0 : Nat) (k1 : Nat) (x2 : Int32) (M : kM) (Q : kM → Prop)
    (h : (¬ (0 : Int32) < 0 ∧ ¬ x2 < 0 ∧ ¬ (4 : Int32) < 0 ∧ (0 : Int32).toNatClampNeg + (4 : Int32).toNatClampNeg ≤ 4 ∧ x2.toNatClampNeg + (4 : Int32).toNatClampNeg ≤ 168) ∧ (∀ M1 : kM, M1 = kcp M 11 k0 (0 : Int32).toNatClampNeg 15 k1 x2.toNatClampNeg (4 : Int32).toNatClampNeg → (¬ (0 : Int32) < 0 ∧ ¬ (x2 + 4) < 0 ∧ ¬ (4 : Int32) < 0 ∧ (0 : Int32).toNatClampNeg + (4 : Int32).toNatClampNeg ≤ 4 ∧ (x2 + 4).toNatClampNeg + (4 : Int32).toNatClampNeg ≤ 168) ∧ (∀ M2 : kM, M2 = kcp M1 12 k0 (0 : Int32).toNatClampNeg 15 k1 (x2 + 4).toNatClampNeg (4 : Int32).toNatClampNeg → (¬ (0 : Int32) < 0 ∧ ¬ (x2 + 8) < 0 ∧ ¬ (4 : Int32) < 0 ∧ (0 : Int32).toNatClampNeg + (4 : Int32).toNatClampNeg ≤ 4 ∧ (x2 + 8).toNatClampNeg + (4 : Int32).toNatClampNeg ≤ 168) ∧ (∀ M3 : kM, M3 = kcp M2 13 k0 (0 : Int32).toNatClampNeg 15 k1 (x2 + 8).toNatClampNeg (4 : Int32).toNatClampNeg → (¬ (0 : Int32) < 0 ∧ ¬ (x2 + 12) < 0 ∧ ¬ (8 : Int32) < 0 ∧ (0 : Int32).toNatClampNeg + (8 : Int32).toNatClampNeg ≤ 8 ∧ (x2 + 12).toNatClampNeg + (8 : Int32).toNatClampNeg ≤ 168) ∧ (∀ M4 : kM, M4 = kcp M3 9 k0 (0 : Int32).toNatClampNeg 15 k1 (x2 + 12).toNatClampNeg (8 : Int32).toNatClampNeg → vp_in (x2 + 20) 168 ∧ (∀ M5 : kM, M5 = ku M4 15 k1 (x2 + 20).toNatClampNeg (M4.1 1 k0 3) → Q M5)))))) :
    kWP l (rg_x, g) mX3_writeMoving 0 [(0, .inr (.inr (1, k0))), (1, .inr (.inr (15, k1))), (2, .inl x2)] [] M (kqv Q) := by
  refine kwp_aload_n (pc := 0) 0 rfl dX3_writeMoving_0 rfl ?_
  refine kwp_getr (pc := 1) fl_X3_37 rfl rfl dX3_writeMoving_1 ?_
  refine kwp_iconst (pc := 4) dX3_writeMoving_4 ic_0 ?_
  refine kwp_aload_n (pc := 5) 1 rfl dX3_writeMoving_5 rfl ?_
  refine kwp_iload_n (pc := 6) 2 rfl dX3_writeMoving_6 rfl ?_
  refine kwp_iconst (pc := 7) dX3_writeMoving_7 ic_4 ?_
  obtain ⟨⟨u1, u2, u3, u4, u5⟩, h⟩ := h
  refine kwp_copyi (pc := 8) ml_X3_53 rfl rfl u1 u2 u3 u4 u5 (by decide) (by decide) dX3_writeMoving_8 ?_
  obtain ⟨M1, eM1⟩ : ∃ z : kM, z = kcp M 11 k0 (0 : Int32).toNatClampNeg 15 k1 x2.toNatClampNeg (4 : Int32).toNatClampNeg := ⟨_, rfl⟩
  rw [← eM1]
  have h := h M1 eM1
  refine kwp_aload_n (pc := 11) 0 rfl dX3_writeMoving_11 rfl ?_
  refine kwp_getr (pc := 12) fl_X3_40 rfl rfl dX3_writeMoving_12 ?_
  refine kwp_iconst (pc := 15) dX3_writeMoving_15 ic_0 ?_
  refine kwp_aload_n (pc := 16) 1 rfl dX3_writeMoving_16 rfl ?_
  refine kwp_iload_n (pc := 17) 2 rfl dX3_writeMoving_17 rfl ?_
  refine kwp_iconst (pc := 18) dX3_writeMoving_18 ic_4 ?_
  refine kwp_iadd (pc := 19) dX3_writeMoving_19 ?_
  refine kwp_iconst (pc := 20) dX3_writeMoving_20 ic_4 ?_
  obtain ⟨⟨u1, u2, u3, u4, u5⟩, h⟩ := h
  refine kwp_copyi (pc := 21) ml_X3_53 rfl rfl u1 u2 u3 u4 u5 (by decide) (by decide) dX3_writeMoving_21 ?_
  obtain ⟨M2, eM2⟩ : ∃ z : kM, z = kcp M1 12 k0 (0 : Int32).toNatClampNeg 15 k1 (x2 + 4).toNatClampNeg (4 : Int32).toNatClampNeg := ⟨_, rfl⟩
  rw [← eM2]
  have h := h M2 eM2
  refine kwp_aload_n (pc := 24) 0 rfl dX3_writeMoving_24 rfl ?_
  refine kwp_getr (pc := 25) fl_X3_43 rfl rfl dX3_writeMoving_25 ?_
  refine kwp_iconst (pc := 28) dX3_writeMoving_28 ic_0 ?_
  refine kwp_aload_n (pc := 29) 1 rfl dX3_writeMoving_29 rfl ?_
  refine kwp_iload_n (pc := 30) 2 rfl dX3_writeMoving_30 rfl ?_
  refine kwp_bipush (pc := 31) dX3_writeMoving_31 bp_8 ?_
  refine kwp_iadd (pc := 33) dX3_writeMoving_33 ?_
  refine kwp_iconst (pc := 34) dX3_writeMoving_34 ic_4 ?_
  obtain ⟨⟨u1, u2, u3, u4, u5⟩, h⟩ := h
  refine kwp_copyi (pc := 35) ml_X3_53 rfl rfl u1 u2 u3 u4 u5 (by decide) (by decide) dX3_writeMoving_35 ?_
  obtain ⟨M3, eM3⟩ : ∃ z : kM, z = kcp M2 13 k0 (0 : Int32).toNatClampNeg 15 k1 (x2 + 8).toNatClampNeg (4 : Int32).toNatClampNeg := ⟨_, rfl⟩
  rw [← eM3]
  have h := h M3 eM3
  refine kwp_aload_n (pc := 38) 0 rfl dX3_writeMoving_38 rfl ?_
  refine kwp_getr (pc := 39) fl_X3_31 rfl rfl dX3_writeMoving_39 ?_
  refine kwp_iconst (pc := 42) dX3_writeMoving_42 ic_0 ?_
  refine kwp_aload_n (pc := 43) 1 rfl dX3_writeMoving_43 rfl ?_
  refine kwp_iload_n (pc := 44) 2 rfl dX3_writeMoving_44 rfl ?_
  refine kwp_bipush (pc := 45) dX3_writeMoving_45 bp_12 ?_
  refine kwp_iadd (pc := 47) dX3_writeMoving_47 ?_
  refine kwp_bipush (pc := 48) dX3_writeMoving_48 bp_8 ?_
  obtain ⟨⟨u1, u2, u3, u4, u5⟩, h⟩ := h
  refine kwp_copyi (pc := 50) ml_X3_53 rfl rfl u1 u2 u3 u4 u5 (by decide) (by decide) dX3_writeMoving_50 ?_
  obtain ⟨M4, eM4⟩ : ∃ z : kM, z = kcp M3 9 k0 (0 : Int32).toNatClampNeg 15 k1 (x2 + 12).toNatClampNeg (8 : Int32).toNatClampNeg := ⟨_, rfl⟩
  rw [← eM4]
  have h := h M4 eM4
  refine kwp_aload_n (pc := 53) 1 rfl dX3_writeMoving_53 rfl ?_
  refine kwp_iload_n (pc := 54) 2 rfl dX3_writeMoving_54 rfl ?_
  refine kwp_bipush (pc := 55) dX3_writeMoving_55 bp_20 ?_
  refine kwp_iadd (pc := 57) dX3_writeMoving_57 ?_
  refine kwp_aload_n (pc := 58) 0 rfl dX3_writeMoving_58 rfl ?_
  refine kwp_geti (pc := 59) fl_X3_21 rfl rfl dX3_writeMoving_59 ?_
  obtain ⟨hin, h⟩ := h
  refine kwp_iast (pc := 62) rfl hin dX3_writeMoving_62 ?_
  obtain ⟨M5, eM5⟩ : ∃ z : kM, z = ku M4 15 k1 (x2 + 20).toNatClampNeg (M4.1 1 k0 3) := ⟨_, rfl⟩
  rw [← eM5]
  have h := h M5 eM5
  exact kwp_vret (pc := 63) rfl dX3_writeMoving_63 ⟨rfl, h⟩

set_option maxRecDepth 20000 in
theorem bX3_readMoving_0 {l : Launch} {g : va_G × (Nat → ClassId) × (Nat → Nat → Nat)} (k0 : Nat) (k1 : Nat) (x2 : Int32) (M : kM) (Q : kM → Prop)
    (h : (¬ x2 < 0 ∧ ¬ (0 : Int32) < 0 ∧ ¬ (4 : Int32) < 0 ∧ x2.toNatClampNeg + (4 : Int32).toNatClampNeg ≤ 168 ∧ (0 : Int32).toNatClampNeg + (4 : Int32).toNatClampNeg ≤ 4) ∧ (∀ M1 : kM, M1 = kcp M 15 k1 x2.toNatClampNeg 11 k0 (0 : Int32).toNatClampNeg (4 : Int32).toNatClampNeg → (¬ (x2 + 4) < 0 ∧ ¬ (0 : Int32) < 0 ∧ ¬ (4 : Int32) < 0 ∧ (x2 + 4).toNatClampNeg + (4 : Int32).toNatClampNeg ≤ 168 ∧ (0 : Int32).toNatClampNeg + (4 : Int32).toNatClampNeg ≤ 4) ∧ (∀ M2 : kM, M2 = kcp M1 15 k1 (x2 + 4).toNatClampNeg 12 k0 (0 : Int32).toNatClampNeg (4 : Int32).toNatClampNeg → (¬ (x2 + 8) < 0 ∧ ¬ (0 : Int32) < 0 ∧ ¬ (4 : Int32) < 0 ∧ (x2 + 8).toNatClampNeg + (4 : Int32).toNatClampNeg ≤ 168 ∧ (0 : Int32).toNatClampNeg + (4 : Int32).toNatClampNeg ≤ 4) ∧ (∀ M3 : kM, M3 = kcp M2 15 k1 (x2 + 8).toNatClampNeg 13 k0 (0 : Int32).toNatClampNeg (4 : Int32).toNatClampNeg → (¬ (x2 + 12) < 0 ∧ ¬ (0 : Int32) < 0 ∧ ¬ (8 : Int32) < 0 ∧ (x2 + 12).toNatClampNeg + (8 : Int32).toNatClampNeg ≤ 168 ∧ (0 : Int32).toNatClampNeg + (8 : Int32).toNatClampNeg ≤ 8) ∧ (∀ M4 : kM, M4 = kcp M3 15 k1 (x2 + 12).toNatClampNeg 9 k0 (0 : Int32).toNatClampNeg (8 : Int32).toNatClampNeg → vp_in (x2 + 20) 168 ∧ (∀ M5 : kM, M5 = ku M4 1 k0 3 (M4.1 15 k1 (x2 + 20).toNatClampNeg) → Q M5)))))) :
    kWP l (rg_x, g) mX3_readMoving 0 [(0, .inr (.inr (1, k0))), (1, .inr (.inr (15, k1))), (2, .inl x2)] [] M (kqv Q) := by
  refine kwp_aload_n (pc := 0) 1 rfl dX3_readMoving_0 rfl ?_
  refine kwp_iload_n (pc := 1) 2 rfl dX3_readMoving_1 rfl ?_
  refine kwp_aload_n (pc := 2) 0 rfl dX3_readMoving_2 rfl ?_
  refine kwp_getr (pc := 3) fl_X3_37 rfl rfl dX3_readMoving_3 ?_
  refine kwp_iconst (pc := 6) dX3_readMoving_6 ic_0 ?_
  refine kwp_iconst (pc := 7) dX3_readMoving_7 ic_4 ?_
  obtain ⟨⟨u1, u2, u3, u4, u5⟩, h⟩ := h
  refine kwp_copyi (pc := 8) ml_X3_53 rfl rfl u1 u2 u3 u4 u5 (by decide) (by decide) dX3_readMoving_8 ?_
  obtain ⟨M1, eM1⟩ : ∃ z : kM, z = kcp M 15 k1 x2.toNatClampNeg 11 k0 (0 : Int32).toNatClampNeg (4 : Int32).toNatClampNeg := ⟨_, rfl⟩
  rw [← eM1]
  have h := h M1 eM1
  refine kwp_aload_n (pc := 11) 1 rfl dX3_readMoving_11 rfl ?_
  refine kwp_iload_n (pc := 12) 2 rfl dX3_readMoving_12 rfl ?_
  refine kwp_iconst (pc := 13) dX3_readMoving_13 ic_4 ?_
  refine kwp_iadd (pc := 14) dX3_readMoving_14 ?_
  refine kwp_aload_n (pc := 15) 0 rfl dX3_readMoving_15 rfl ?_
  refine kwp_getr (pc := 16) fl_X3_40 rfl rfl dX3_readMoving_16 ?_
  refine kwp_iconst (pc := 19) dX3_readMoving_19 ic_0 ?_
  refine kwp_iconst (pc := 20) dX3_readMoving_20 ic_4 ?_
  obtain ⟨⟨u1, u2, u3, u4, u5⟩, h⟩ := h
  refine kwp_copyi (pc := 21) ml_X3_53 rfl rfl u1 u2 u3 u4 u5 (by decide) (by decide) dX3_readMoving_21 ?_
  obtain ⟨M2, eM2⟩ : ∃ z : kM, z = kcp M1 15 k1 (x2 + 4).toNatClampNeg 12 k0 (0 : Int32).toNatClampNeg (4 : Int32).toNatClampNeg := ⟨_, rfl⟩
  rw [← eM2]
  have h := h M2 eM2
  refine kwp_aload_n (pc := 24) 1 rfl dX3_readMoving_24 rfl ?_
  refine kwp_iload_n (pc := 25) 2 rfl dX3_readMoving_25 rfl ?_
  refine kwp_bipush (pc := 26) dX3_readMoving_26 bp_8 ?_
  refine kwp_iadd (pc := 28) dX3_readMoving_28 ?_
  refine kwp_aload_n (pc := 29) 0 rfl dX3_readMoving_29 rfl ?_
  refine kwp_getr (pc := 30) fl_X3_43 rfl rfl dX3_readMoving_30 ?_
  refine kwp_iconst (pc := 33) dX3_readMoving_33 ic_0 ?_
  refine kwp_iconst (pc := 34) dX3_readMoving_34 ic_4 ?_
  obtain ⟨⟨u1, u2, u3, u4, u5⟩, h⟩ := h
  refine kwp_copyi (pc := 35) ml_X3_53 rfl rfl u1 u2 u3 u4 u5 (by decide) (by decide) dX3_readMoving_35 ?_
  obtain ⟨M3, eM3⟩ : ∃ z : kM, z = kcp M2 15 k1 (x2 + 8).toNatClampNeg 13 k0 (0 : Int32).toNatClampNeg (4 : Int32).toNatClampNeg := ⟨_, rfl⟩
  rw [← eM3]
  have h := h M3 eM3
  refine kwp_aload_n (pc := 38) 1 rfl dX3_readMoving_38 rfl ?_
  refine kwp_iload_n (pc := 39) 2 rfl dX3_readMoving_39 rfl ?_
  refine kwp_bipush (pc := 40) dX3_readMoving_40 bp_12 ?_
  refine kwp_iadd (pc := 42) dX3_readMoving_42 ?_
  refine kwp_aload_n (pc := 43) 0 rfl dX3_readMoving_43 rfl ?_
  refine kwp_getr (pc := 44) fl_X3_31 rfl rfl dX3_readMoving_44 ?_
  refine kwp_iconst (pc := 47) dX3_readMoving_47 ic_0 ?_
  refine kwp_bipush (pc := 48) dX3_readMoving_48 bp_8 ?_
  obtain ⟨⟨u1, u2, u3, u4, u5⟩, h⟩ := h
  refine kwp_copyi (pc := 50) ml_X3_53 rfl rfl u1 u2 u3 u4 u5 (by decide) (by decide) dX3_readMoving_50 ?_
  obtain ⟨M4, eM4⟩ : ∃ z : kM, z = kcp M3 15 k1 (x2 + 12).toNatClampNeg 9 k0 (0 : Int32).toNatClampNeg (8 : Int32).toNatClampNeg := ⟨_, rfl⟩
  rw [← eM4]
  have h := h M4 eM4
  refine kwp_aload_n (pc := 53) 0 rfl dX3_readMoving_53 rfl ?_
  refine kwp_aload_n (pc := 54) 1 rfl dX3_readMoving_54 rfl ?_
  refine kwp_iload_n (pc := 55) 2 rfl dX3_readMoving_55 rfl ?_
  refine kwp_bipush (pc := 56) dX3_readMoving_56 bp_20 ?_
  refine kwp_iadd (pc := 58) dX3_readMoving_58 ?_
  obtain ⟨hin, h⟩ := h
  refine kwp_iald (pc := 59) rfl hin dX3_readMoving_59 ?_
  refine kwp_put (pc := 60) fp_X3_21 rfl rfl trivial dX3_readMoving_60 ?_
  obtain ⟨M5, eM5⟩ : ∃ z : kM, z = ku M4 1 k0 3 (M4.1 15 k1 (x2 + 20).toNatClampNeg) := ⟨_, rfl⟩
  rw [← eM5]
  have h := h M5 eM5
  exact kwp_vret (pc := 63) rfl dX3_readMoving_63 ⟨rfl, h⟩

set_option maxRecDepth 20000 in
theorem bX3_addStage_0 {l : Launch} {g : va_G × (Nat → ClassId) × (Nat → Nat → Nat)} (k0 : Nat) (x1 : Int32) (x2 : Int32) (x3 : Int32) (M : kM) (Q : Int32 → kM → Prop)
    (h : vp_in (M.1 1 k0 0) 8 ∧ (∀ M1 : kM, M1 = ku M 7 k0 (M.1 1 k0 0).toNatClampNeg x1 → vp_in (M1.1 1 k0 0) 8 ∧ (∀ M2 : kM, M2 = ku M1 8 k0 (M1.1 1 k0 0).toNatClampNeg x2 → vp_in (M2.1 1 k0 0) 8 ∧ (∀ M3 : kM, M3 = ku M2 9 k0 (M2.1 1 k0 0).toNatClampNeg x3 → ∀ M4 : kM, M4 = ku M3 1 k0 0 ((M3.1 1 k0 0) + 1) → Q ((M4.1 1 k0 0) - 1) M4)))) :
    kWP l (rg_x, g) mX3_addStage 0 [(0, .inr (.inr (1, k0))), (1, .inl x1), (2, .inl x2), (3, .inl x3)] [] M (kqi Q) := by
  refine kwp_aload_n (pc := 0) 0 rfl dX3_addStage_0 rfl ?_
  refine kwp_getr (pc := 1) fl_X3_24 rfl rfl dX3_addStage_1 ?_
  refine kwp_aload_n (pc := 4) 0 rfl dX3_addStage_4 rfl ?_
  refine kwp_geti (pc := 5) fl_X3_9 rfl rfl dX3_addStage_5 ?_
  refine kwp_iload_n (pc := 8) 1 rfl dX3_addStage_8 rfl ?_
  obtain ⟨hin, h⟩ := h
  refine kwp_iast (pc := 9) rfl hin dX3_addStage_9 ?_
  obtain ⟨M1, eM1⟩ : ∃ z : kM, z = ku M 7 k0 (M.1 1 k0 0).toNatClampNeg x1 := ⟨_, rfl⟩
  rw [← eM1]
  have h := h M1 eM1
  refine kwp_aload_n (pc := 10) 0 rfl dX3_addStage_10 rfl ?_
  refine kwp_getr (pc := 11) fl_X3_28 rfl rfl dX3_addStage_11 ?_
  refine kwp_aload_n (pc := 14) 0 rfl dX3_addStage_14 rfl ?_
  refine kwp_geti (pc := 15) fl_X3_9 rfl rfl dX3_addStage_15 ?_
  refine kwp_iload_n (pc := 18) 2 rfl dX3_addStage_18 rfl ?_
  obtain ⟨hin, h⟩ := h
  refine kwp_iast (pc := 19) rfl hin dX3_addStage_19 ?_
  obtain ⟨M2, eM2⟩ : ∃ z : kM, z = ku M1 8 k0 (M1.1 1 k0 0).toNatClampNeg x2 := ⟨_, rfl⟩
  rw [← eM2]
  have h := h M2 eM2
  refine kwp_aload_n (pc := 20) 0 rfl dX3_addStage_20 rfl ?_
  refine kwp_getr (pc := 21) fl_X3_31 rfl rfl dX3_addStage_21 ?_
  refine kwp_aload_n (pc := 24) 0 rfl dX3_addStage_24 rfl ?_
  refine kwp_geti (pc := 25) fl_X3_9 rfl rfl dX3_addStage_25 ?_
  refine kwp_iload_n (pc := 28) 3 rfl dX3_addStage_28 rfl ?_
  obtain ⟨hin, h⟩ := h
  refine kwp_iast (pc := 29) rfl hin dX3_addStage_29 ?_
  obtain ⟨M3, eM3⟩ : ∃ z : kM, z = ku M2 9 k0 (M2.1 1 k0 0).toNatClampNeg x3 := ⟨_, rfl⟩
  rw [← eM3]
  have h := h M3 eM3
  refine kwp_aload_n (pc := 30) 0 rfl dX3_addStage_30 rfl ?_
  refine kwp_dup (pc := 31) dX3_addStage_31 rfl ?_
  refine kwp_geti (pc := 32) fl_X3_9 rfl rfl dX3_addStage_32 ?_
  refine kwp_iconst (pc := 35) dX3_addStage_35 ic_1 ?_
  refine kwp_iadd (pc := 36) dX3_addStage_36 ?_
  refine kwp_put (pc := 37) fp_X3_9 rfl rfl trivial dX3_addStage_37 ?_
  obtain ⟨M4, eM4⟩ : ∃ z : kM, z = ku M3 1 k0 0 ((M3.1 1 k0 0) + 1) := ⟨_, rfl⟩
  rw [← eM4]
  have h := h M4 eM4
  refine kwp_aload_n (pc := 40) 0 rfl dX3_addStage_40 rfl ?_
  refine kwp_geti (pc := 41) fl_X3_9 rfl rfl dX3_addStage_41 ?_
  refine kwp_iconst (pc := 44) dX3_addStage_44 ic_1 ?_
  refine kwp_isub (pc := 45) dX3_addStage_45 ?_
  exact kwp_iret (pc := 46) rfl dX3_addStage_46 ⟨_, rfl, h⟩

set_option maxRecDepth 20000 in
theorem bX3_addRider_0 {l : Launch} {g : va_G × (Nat → ClassId) × (Nat → Nat → Nat)} (k0 : Nat) (x1 : Int32) (x2 : Int32) (x3 : Int32) (M : kM) (Q : Int32 → kM → Prop)
    (h : vp_in (M.1 1 k0 1) 4 ∧ (∀ M1 : kM, M1 = ku M 10 k0 (M.1 1 k0 1).toNatClampNeg x1 → vp_in (M1.1 1 k0 1) 4 ∧ (∀ M2 : kM, M2 = ku M1 11 k0 (M1.1 1 k0 1).toNatClampNeg 0 → vp_in (M2.1 1 k0 1) 4 ∧ (∀ M3 : kM, M3 = ku M2 12 k0 (M2.1 1 k0 1).toNatClampNeg x2 → vp_in (M3.1 1 k0 1) 4 ∧ (∀ M4 : kM, M4 = ku M3 13 k0 (M3.1 1 k0 1).toNatClampNeg x3 → vp_in (M4.1 1 k0 1) 4 ∧ (∀ M5 : kM, M5 = ku M4 14 k0 (M4.1 1 k0 1).toNatClampNeg 0 → ∀ M6 : kM, M6 = ku M5 1 k0 1 ((M5.1 1 k0 1) + 1) → Q ((M6.1 1 k0 1) - 1) M6)))))) :
    kWP l (rg_x, g) mX3_addRider 0 [(0, .inr (.inr (1, k0))), (1, .inl x1), (2, .inl x2), (3, .inl x3)] [] M (kqi Q) := by
  refine kwp_aload_n (pc := 0) 0 rfl dX3_addRider_0 rfl ?_
  refine kwp_getr (pc := 1) fl_X3_34 rfl rfl dX3_addRider_1 ?_
  refine kwp_aload_n (pc := 4) 0 rfl dX3_addRider_4 rfl ?_
  refine kwp_geti (pc := 5) fl_X3_15 rfl rfl dX3_addRider_5 ?_
  refine kwp_iload_n (pc := 8) 1 rfl dX3_addRider_8 rfl ?_
  obtain ⟨hin, h⟩ := h
  refine kwp_iast (pc := 9) rfl hin dX3_addRider_9 ?_
  obtain ⟨M1, eM1⟩ : ∃ z : kM, z = ku M 10 k0 (M.1 1 k0 1).toNatClampNeg x1 := ⟨_, rfl⟩
  rw [← eM1]
  have h := h M1 eM1
  refine kwp_aload_n (pc := 10) 0 rfl dX3_addRider_10 rfl ?_
  refine kwp_getr (pc := 11) fl_X3_37 rfl rfl dX3_addRider_11 ?_
  refine kwp_aload_n (pc := 14) 0 rfl dX3_addRider_14 rfl ?_
  refine kwp_geti (pc := 15) fl_X3_15 rfl rfl dX3_addRider_15 ?_
  refine kwp_iconst (pc := 18) dX3_addRider_18 ic_0 ?_
  obtain ⟨hin, h⟩ := h
  refine kwp_iast (pc := 19) rfl hin dX3_addRider_19 ?_
  obtain ⟨M2, eM2⟩ : ∃ z : kM, z = ku M1 11 k0 (M1.1 1 k0 1).toNatClampNeg 0 := ⟨_, rfl⟩
  rw [← eM2]
  have h := h M2 eM2
  refine kwp_aload_n (pc := 20) 0 rfl dX3_addRider_20 rfl ?_
  refine kwp_getr (pc := 21) fl_X3_40 rfl rfl dX3_addRider_21 ?_
  refine kwp_aload_n (pc := 24) 0 rfl dX3_addRider_24 rfl ?_
  refine kwp_geti (pc := 25) fl_X3_15 rfl rfl dX3_addRider_25 ?_
  refine kwp_iload_n (pc := 28) 2 rfl dX3_addRider_28 rfl ?_
  obtain ⟨hin, h⟩ := h
  refine kwp_iast (pc := 29) rfl hin dX3_addRider_29 ?_
  obtain ⟨M3, eM3⟩ : ∃ z : kM, z = ku M2 12 k0 (M2.1 1 k0 1).toNatClampNeg x2 := ⟨_, rfl⟩
  rw [← eM3]
  have h := h M3 eM3
  refine kwp_aload_n (pc := 30) 0 rfl dX3_addRider_30 rfl ?_
  refine kwp_getr (pc := 31) fl_X3_43 rfl rfl dX3_addRider_31 ?_
  refine kwp_aload_n (pc := 34) 0 rfl dX3_addRider_34 rfl ?_
  refine kwp_geti (pc := 35) fl_X3_15 rfl rfl dX3_addRider_35 ?_
  refine kwp_iload_n (pc := 38) 3 rfl dX3_addRider_38 rfl ?_
  obtain ⟨hin, h⟩ := h
  refine kwp_iast (pc := 39) rfl hin dX3_addRider_39 ?_
  obtain ⟨M4, eM4⟩ : ∃ z : kM, z = ku M3 13 k0 (M3.1 1 k0 1).toNatClampNeg x3 := ⟨_, rfl⟩
  rw [← eM4]
  have h := h M4 eM4
  refine kwp_aload_n (pc := 40) 0 rfl dX3_addRider_40 rfl ?_
  refine kwp_getr (pc := 41) fl_X3_46 rfl rfl dX3_addRider_41 ?_
  refine kwp_aload_n (pc := 44) 0 rfl dX3_addRider_44 rfl ?_
  refine kwp_geti (pc := 45) fl_X3_15 rfl rfl dX3_addRider_45 ?_
  refine kwp_iconst (pc := 48) dX3_addRider_48 ic_0 ?_
  obtain ⟨hin, h⟩ := h
  refine kwp_iast (pc := 49) rfl hin dX3_addRider_49 ?_
  obtain ⟨M5, eM5⟩ : ∃ z : kM, z = ku M4 14 k0 (M4.1 1 k0 1).toNatClampNeg 0 := ⟨_, rfl⟩
  rw [← eM5]
  have h := h M5 eM5
  refine kwp_aload_n (pc := 50) 0 rfl dX3_addRider_50 rfl ?_
  refine kwp_dup (pc := 51) dX3_addRider_51 rfl ?_
  refine kwp_geti (pc := 52) fl_X3_15 rfl rfl dX3_addRider_52 ?_
  refine kwp_iconst (pc := 55) dX3_addRider_55 ic_1 ?_
  refine kwp_iadd (pc := 56) dX3_addRider_56 ?_
  refine kwp_put (pc := 57) fp_X3_15 rfl rfl trivial dX3_addRider_57 ?_
  obtain ⟨M6, eM6⟩ : ∃ z : kM, z = ku M5 1 k0 1 ((M5.1 1 k0 1) + 1) := ⟨_, rfl⟩
  rw [← eM6]
  have h := h M6 eM6
  refine kwp_aload_n (pc := 60) 0 rfl dX3_addRider_60 rfl ?_
  refine kwp_geti (pc := 61) fl_X3_15 rfl rfl dX3_addRider_61 ?_
  refine kwp_iconst (pc := 64) dX3_addRider_64 ic_1 ?_
  refine kwp_isub (pc := 65) dX3_addRider_65 ?_
  exact kwp_iret (pc := 66) rfl dX3_addRider_66 ⟨_, rfl, h⟩

set_option maxRecDepth 20000 in
theorem bX3_isThere_0 {l : Launch} {g : va_G × (Nat → ClassId) × (Nat → Nat → Nat)} (k0 : Nat) (x1 : Int32) (M : kM) (Q : Int32 → kM → Prop)
    (h : vp_in x1 4 ∧ ((((M.1 11 k0 x1.toNatClampNeg) < (M.1 1 k0 0) → kWP l (rg_x, g) mX3_isThere 18 [] [.inl 0] M (kqi Q)) ∧ (¬ (M.1 11 k0 x1.toNatClampNeg) < (M.1 1 k0 0) → kWP l (rg_x, g) mX3_isThere 18 [] [.inl 1] M (kqi Q))))) :
    kWP l (rg_x, g) mX3_isThere 0 [(0, .inr (.inr (1, k0))), (1, .inl x1)] [] M (kqi Q) := by
  refine kwp_aload_n (pc := 0) 0 rfl dX3_isThere_0 rfl ?_
  refine kwp_getr (pc := 1) fl_X3_37 rfl rfl dX3_isThere_1 ?_
  refine kwp_iload_n (pc := 4) 1 rfl dX3_isThere_4 rfl ?_
  obtain ⟨hin, h⟩ := h
  refine kwp_iald (pc := 5) rfl hin dX3_isThere_5 ?_
  refine kwp_aload_n (pc := 6) 0 rfl dX3_isThere_6 rfl ?_
  refine kwp_geti (pc := 7) fl_X3_9 rfl rfl dX3_isThere_7 ?_
  refine kwp_icmp_lt (pc := 10) 17 dX3_isThere_10 (by decide) (fun hc => ?_) (fun hc => ?_)
  · have h := h.1 hc
    refine kwp_iconst (pc := 17) dX3_isThere_17 ic_0 ?_
    refine kwp_sub [] rfl ?_
    exact h
  · have h := h.2 hc
    refine kwp_iconst (pc := 13) dX3_isThere_13 ic_1 ?_
    refine kwp_goto (pc := 14) 18 dX3_isThere_14 (by decide) ?_
    refine kwp_sub [] rfl ?_
    exact h

set_option maxRecDepth 20000 in
theorem bX3_isThere_18 {l : Launch} {g : va_G × (Nat → ClassId) × (Nat → Nat → Nat)} (s0 : Int32) (M : kM) (Q : Int32 → kM → Prop)
    (h : ((s0 = 0 ∨ s0 = 1) ∧ Q s0 M)) :
    kWP l (rg_x, g) mX3_isThere 18 [] [.inl s0] M (kqi Q) := by
  exact kwp_zret (pc := 18) rfl h.1 dX3_isThere_18 ⟨_, rfl, h.2⟩

set_option maxRecDepth 20000 in
theorem bX3_whoIsThere_0 {l : Launch} {g : va_G × (Nat → ClassId) × (Nat → Nat → Nat)} (k0 : Nat) (M : kM) (Q : Int32 → kM → Prop)
    (h : kWP l (rg_x, g) mX3_whoIsThere 4 [(0, .inr (.inr (1, k0))), (1, .inl 0), (2, .inl 0)] [] M (kqi Q)) :
    kWP l (rg_x, g) mX3_whoIsThere 0 [(0, .inr (.inr (1, k0)))] [] M (kqi Q) := by
  refine kwp_iconst (pc := 0) dX3_whoIsThere_0 ic_0 ?_
  refine kwp_istore_n (pc := 1) (ls2 := [(1, .inl 0), (0, .inr (.inr (1, k0)))]) dX3_whoIsThere_1 rfl (by decide) rfl ?_
  refine kwp_iconst (pc := 2) dX3_whoIsThere_2 ic_0 ?_
  refine kwp_istore_n (pc := 3) (ls2 := [(2, .inl 0), (1, .inl 0), (0, .inr (.inr (1, k0)))]) dX3_whoIsThere_3 rfl (by decide) rfl ?_
  refine kwp_sub [2, 1, 0] rfl ?_
  exact h

set_option maxRecDepth 20000 in
theorem bX3_whoIsThere_4 {l : Launch} {g : va_G × (Nat → ClassId) × (Nat → Nat → Nat)} (k0 : Nat) (x1 : Int32) (x2 : Int32) (M : kM) (Q : Int32 → kM → Prop)
    (h : (((M.1 1 k0 1) ≤ x2 → Q x1 M) ∧ (¬ (M.1 1 k0 1) ≤ x2 → kCT l (rg_x, g) mX3_isThere [.inr (.inr (1, k0)), .inl x2] M (kqi (fun r2 M1 => ((r2 = 0 → kWP l (rg_x, g) mX3_whoIsThere 28 [(0, .inr (.inr (1, k0))), (2, .inl x2)] [.inl 0, .inl x1] M1 (kqi Q)) ∧ (¬ r2 = 0 → kWP l (rg_x, g) mX3_whoIsThere 28 [(0, .inr (.inr (1, k0))), (2, .inl x2)] [.inl ((1 : Int32) <<< (x2 &&& 31)), .inl x1] M1 (kqi Q)))))))) :
    kWP l (rg_x, g) mX3_whoIsThere 4 [(0, .inr (.inr (1, k0))), (1, .inl x1), (2, .inl x2)] [] M (kqi Q) := by
  refine kwp_iload_n (pc := 4) 2 rfl dX3_whoIsThere_4 rfl ?_
  refine kwp_aload_n (pc := 5) 0 rfl dX3_whoIsThere_5 rfl ?_
  refine kwp_geti (pc := 6) fl_X3_15 rfl rfl dX3_whoIsThere_6 ?_
  refine kwp_icmp_ge (pc := 9) 36 dX3_whoIsThere_9 (by decide) (fun hc => ?_) (fun hc => ?_)
  · have h := h.1 hc
    refine kwp_iload_n (pc := 36) 1 rfl dX3_whoIsThere_36 rfl ?_
    exact kwp_iret (pc := 37) rfl dX3_whoIsThere_37 ⟨_, rfl, h⟩
  · have h := h.2 hc
    refine kwp_iload_n (pc := 12) 1 rfl dX3_whoIsThere_12 rfl ?_
    refine kwp_aload_n (pc := 13) 0 rfl dX3_whoIsThere_13 rfl ?_
    refine kwp_iload_n (pc := 14) 2 rfl dX3_whoIsThere_14 rfl ?_
    refine kwp_callV (pc := 15) (Y := mX3_isThere) (vs := [.inl x2]) (rest := [.inl x1]) fm_X3_isThere fi_X3_isThere ml_X3_59 (by decide) rfl rfl rfl rfl (by simp [kcat]) dX3_whoIsThere_15 ?_
    refine kCT.mono h (fun v M1 h => ?_)
    obtain ⟨r2, rfl, h⟩ := h
    change kWP l (rg_x, g) mX3_whoIsThere 18 [(0, .inr (.inr (1, k0))), (1, .inl x1), (2, .inl x2)] [.inl r2, .inl x1] M1 (kqi Q)
    refine kwp_if_eq (pc := 18) 27 dX3_whoIsThere_18 (by decide) (fun hc => ?_) (fun hc => ?_)
    · have h := h.1 hc
      refine kwp_iconst (pc := 27) dX3_whoIsThere_27 ic_0 ?_
      refine kwp_sub [0, 2] rfl ?_
      exact h
    · have h := h.2 hc
      refine kwp_iconst (pc := 21) dX3_whoIsThere_21 ic_1 ?_
      refine kwp_iload_n (pc := 22) 2 rfl dX3_whoIsThere_22 rfl ?_
      refine kwp_ishl (pc := 23) dX3_whoIsThere_23 ?_
      refine kwp_goto (pc := 24) 28 dX3_whoIsThere_24 (by decide) ?_
      refine kwp_sub [0, 2] rfl ?_
      exact h

set_option maxRecDepth 20000 in
theorem bX3_whoIsThere_28 {l : Launch} {g : va_G × (Nat → ClassId) × (Nat → Nat → Nat)} (k0 : Nat) (x2 : Int32) (s0 : Int32) (s1 : Int32) (M : kM) (Q : Int32 → kM → Prop)
    (h : ∀ z1 : Int32, z1 = s1 ||| s0 → ∀ z2 : Int32, z2 = x2 + 1 → kWP l (rg_x, g) mX3_whoIsThere 4 [(0, .inr (.inr (1, k0))), (1, .inl z1), (2, .inl z2)] [] M (kqi Q)) :
    kWP l (rg_x, g) mX3_whoIsThere 28 [(0, .inr (.inr (1, k0))), (2, .inl x2)] [.inl s0, .inl s1] M (kqi Q) := by
  refine kwp_ior (pc := 28) dX3_whoIsThere_28 ?_
  obtain ⟨z1, ez1⟩ : ∃ z : Int32, z = s1 ||| s0 := ⟨_, rfl⟩
  rw [← ez1]
  have h := h z1 ez1
  refine kwp_istore_n (pc := 29) (ls2 := [(1, .inl z1), (0, .inr (.inr (1, k0))), (2, .inl x2)]) dX3_whoIsThere_29 rfl (by decide) rfl ?_
  obtain ⟨z2, ez2⟩ : ∃ z : Int32, z = x2 + 1 := ⟨_, rfl⟩
  have h := h z2 ez2
  refine kwp_iinc (pc := 30) (v := z2) (ls2 := [(2, .inl z2), (1, .inl z1), (0, .inr (.inr (1, k0)))]) 2 rfl dX3_whoIsThere_30 (by rw [ez2, ic_1]) (by decide) rfl ?_
  refine kwp_goto (pc := 33) 4 dX3_whoIsThere_33 (by decide) ?_
  refine kwp_sub [2, 1, 0] rfl ?_
  exact h

set_option maxRecDepth 20000 in
theorem bX3_whoRides_0 {l : Launch} {g : va_G × (Nat → ClassId) × (Nat → Nat → Nat)} (k0 : Nat) (M : kM) (Q : Int32 → kM → Prop)
    (h : kWP l (rg_x, g) mX3_whoRides 5 [(0, .inr (.inr (1, k0))), (1, .inl (-4)), (2, .inl 0)] [] M (kqi Q)) :
    kWP l (rg_x, g) mX3_whoRides 0 [(0, .inr (.inr (1, k0)))] [] M (kqi Q) := by
  refine kwp_bipush (pc := 0) dX3_whoRides_0 bp_m4 ?_
  refine kwp_istore_n (pc := 2) (ls2 := [(1, .inl (-4)), (0, .inr (.inr (1, k0)))]) dX3_whoRides_2 rfl (by decide) rfl ?_
  refine kwp_iconst (pc := 3) dX3_whoRides_3 ic_0 ?_
  refine kwp_istore_n (pc := 4) (ls2 := [(2, .inl 0), (1, .inl (-4)), (0, .inr (.inr (1, k0)))]) dX3_whoRides_4 rfl (by decide) rfl ?_
  refine kwp_sub [2, 1, 0] rfl ?_
  exact h

set_option maxRecDepth 20000 in
theorem bX3_whoRides_5 {l : Launch} {g : va_G × (Nat → ClassId) × (Nat → Nat → Nat)} (k0 : Nat) (x1 : Int32) (x2 : Int32) (M : kM) (Q : Int32 → kM → Prop)
    (h : (((M.1 1 k0 1) ≤ x2 → Q x1 M) ∧ (¬ (M.1 1 k0 1) ≤ x2 → kCT l (rg_x, g) mX3_isThere [.inr (.inr (1, k0)), .inl x2] M (kqi (fun r2 M1 => ((¬ r2 = 0 → kWP l (rg_x, g) mX3_whoRides 42 [(0, .inr (.inr (1, k0))), (1, .inl x1), (2, .inl x2)] [] M1 (kqi Q)) ∧ (r2 = 0 → ((x1 < 0 → kWP l (rg_x, g) mX3_whoRides 40 [(0, .inr (.inr (1, k0))), (2, .inl x2)] [] M1 (kqi Q)) ∧ (¬ x1 < 0 → vp_in x2 4 ∧ (vp_in x1 4 ∧ ((((M1.1 12 k0 x1.toNatClampNeg) ≤ (M1.1 12 k0 x2.toNatClampNeg) → kWP l (rg_x, g) mX3_whoRides 42 [(0, .inr (.inr (1, k0))), (1, .inl x1), (2, .inl x2)] [] M1 (kqi Q)) ∧ (¬ (M1.1 12 k0 x1.toNatClampNeg) ≤ (M1.1 12 k0 x2.toNatClampNeg) → kWP l (rg_x, g) mX3_whoRides 40 [(0, .inr (.inr (1, k0))), (2, .inl x2)] [] M1 (kqi Q)))))))))))))) :
    kWP l (rg_x, g) mX3_whoRides 5 [(0, .inr (.inr (1, k0))), (1, .inl x1), (2, .inl x2)] [] M (kqi Q) := by
  refine kwp_iload_n (pc := 5) 2 rfl dX3_whoRides_5 rfl ?_
  refine kwp_aload_n (pc := 6) 0 rfl dX3_whoRides_6 rfl ?_
  refine kwp_geti (pc := 7) fl_X3_15 rfl rfl dX3_whoRides_7 ?_
  refine kwp_icmp_ge (pc := 10) 48 dX3_whoRides_10 (by decide) (fun hc => ?_) (fun hc => ?_)
  · have h := h.1 hc
    refine kwp_iload_n (pc := 48) 1 rfl dX3_whoRides_48 rfl ?_
    exact kwp_iret (pc := 49) rfl dX3_whoRides_49 ⟨_, rfl, h⟩
  · have h := h.2 hc
    refine kwp_aload_n (pc := 13) 0 rfl dX3_whoRides_13 rfl ?_
    refine kwp_iload_n (pc := 14) 2 rfl dX3_whoRides_14 rfl ?_
    refine kwp_callV (pc := 15) (Y := mX3_isThere) (vs := [.inl x2]) (rest := []) fm_X3_isThere fi_X3_isThere ml_X3_59 (by decide) rfl rfl rfl rfl (by simp [kcat]) dX3_whoRides_15 ?_
    refine kCT.mono h (fun v M1 h => ?_)
    obtain ⟨r2, rfl, h⟩ := h
    change kWP l (rg_x, g) mX3_whoRides 18 [(0, .inr (.inr (1, k0))), (1, .inl x1), (2, .inl x2)] [.inl r2] M1 (kqi Q)
    refine kwp_if_ne (pc := 18) 42 dX3_whoRides_18 (by decide) (fun hc => ?_) (fun hc => ?_)
    · have h := h.1 hc
      exact h
    · have h := h.2 hc
      refine kwp_iload_n (pc := 21) 1 rfl dX3_whoRides_21 rfl ?_
      refine kwp_if_lt (pc := 22) 40 dX3_whoRides_22 (by decide) (fun hc => ?_) (fun hc => ?_)
      · have h := h.1 hc
        refine kwp_sub [0, 2] rfl ?_
        exact h
      · have h := h.2 hc
        refine kwp_aload_n (pc := 25) 0 rfl dX3_whoRides_25 rfl ?_
        refine kwp_getr (pc := 26) fl_X3_40 rfl rfl dX3_whoRides_26 ?_
        refine kwp_iload_n (pc := 29) 2 rfl dX3_whoRides_29 rfl ?_
        obtain ⟨hin, h⟩ := h
        refine kwp_iald (pc := 30) rfl hin dX3_whoRides_30 ?_
        refine kwp_aload_n (pc := 31) 0 rfl dX3_whoRides_31 rfl ?_
        refine kwp_getr (pc := 32) fl_X3_40 rfl rfl dX3_whoRides_32 ?_
        refine kwp_iload_n (pc := 35) 1 rfl dX3_whoRides_35 rfl ?_
        obtain ⟨hin, h⟩ := h
        refine kwp_iald (pc := 36) rfl hin dX3_whoRides_36 ?_
        refine kwp_icmp_ge (pc := 37) 42 dX3_whoRides_37 (by decide) (fun hc => ?_) (fun hc => ?_)
        · have h := h.1 hc
          exact h
        · have h := h.2 hc
          refine kwp_sub [0, 2] rfl ?_
          exact h

set_option maxRecDepth 20000 in
theorem bX3_whoRides_40 {l : Launch} {g : va_G × (Nat → ClassId) × (Nat → Nat → Nat)} (k0 : Nat) (x2 : Int32) (M : kM) (Q : Int32 → kM → Prop)
    (h : kWP l (rg_x, g) mX3_whoRides 42 [(0, .inr (.inr (1, k0))), (1, .inl x2), (2, .inl x2)] [] M (kqi Q)) :
    kWP l (rg_x, g) mX3_whoRides 40 [(0, .inr (.inr (1, k0))), (2, .inl x2)] [] M (kqi Q) := by
  refine kwp_iload_n (pc := 40) 1 rfl dX3_whoRides_40 rfl ?_
  refine kwp_istore_n (pc := 41) (ls2 := [(1, .inl x2), (0, .inr (.inr (1, k0))), (2, .inl x2)]) dX3_whoRides_41 rfl (by decide) rfl ?_
  refine kwp_sub [1, 0, 2] rfl ?_
  exact h

set_option maxRecDepth 20000 in
theorem bX3_whoRides_42 {l : Launch} {g : va_G × (Nat → ClassId) × (Nat → Nat → Nat)} (k0 : Nat) (x1 : Int32) (x2 : Int32) (M : kM) (Q : Int32 → kM → Prop)
    (h : ∀ z1 : Int32, z1 = x2 + 1 → kWP l (rg_x, g) mX3_whoRides 5 [(0, .inr (.inr (1, k0))), (1, .inl x1), (2, .inl z1)] [] M (kqi Q)) :
    kWP l (rg_x, g) mX3_whoRides 42 [(0, .inr (.inr (1, k0))), (1, .inl x1), (2, .inl x2)] [] M (kqi Q) := by
  obtain ⟨z1, ez1⟩ : ∃ z : Int32, z = x2 + 1 := ⟨_, rfl⟩
  have h := h z1 ez1
  refine kwp_iinc (pc := 42) (v := z1) (ls2 := [(2, .inl z1), (0, .inr (.inr (1, k0))), (1, .inl x1)]) 2 rfl dX3_whoRides_42 (by rw [ez1, ic_1]) (by decide) rfl ?_
  refine kwp_goto (pc := 45) 5 dX3_whoRides_45 (by decide) ?_
  refine kwp_sub [1, 2, 0] rfl ?_
  exact h

set_option maxRecDepth 20000 in
theorem bX3_rideStage_0 {l : Launch} {g : va_G × (Nat → ClassId) × (Nat → Nat → Nat)} (k0 : Nat) (x1 : Int32) (x2 : Int32) (M : kM) (Q : kM → Prop)
    (h : vp_in x1 4 ∧ (∀ z1 : Int32, z1 = M.1 11 k0 x1.toNatClampNeg → vp_in x1 4 ∧ (kCT l (rg_x, g) mX5_has [.inl (M.1 14 k0 x1.toNatClampNeg), .inl z1] M (kqi (fun r3 M2 => ((r3 = 0 → kWP l (rg_x, g) mX3_rideStage 46 [(0, .inr (.inr (1, k0))), (1, .inl x1), (2, .inl x2), (3, .inl z1)] [] M2 (kqv Q)) ∧ (¬ r3 = 0 → vp_in z1 8 ∧ ((((M2.1 9 k0 z1.toNatClampNeg) ≤ 0 → kWP l (rg_x, g) mX3_rideStage 46 [(0, .inr (.inr (1, k0))), (1, .inl x1), (2, .inl x2), (3, .inl z1)] [] M2 (kqv Q)) ∧ (¬ (M2.1 9 k0 z1.toNatClampNeg) ≤ 0 → vp_in x1 4 ∧ ((((M2.1 13 k0 x1.toNatClampNeg) < (M2.1 1 k0 2) → kWP l (rg_x, g) mX3_rideStage 46 [(0, .inr (.inr (1, k0))), (1, .inl x1), (2, .inl x2), (3, .inl z1)] [] M2 (kqv Q)) ∧ (¬ (M2.1 13 k0 x1.toNatClampNeg) < (M2.1 1 k0 2) → kWP l (rg_x, g) mX3_rideStage 47 [(0, .inr (.inr (1, k0))), (1, .inl x1), (2, .inl x2), (3, .inl z1)] [.inl 1] M2 (kqv Q)))))))))))))) :
    kWP l (rg_x, g) mX3_rideStage 0 [(0, .inr (.inr (1, k0))), (1, .inl x1), (2, .inl x2)] [] M (kqv Q) := by
  refine kwp_aload_n (pc := 0) 0 rfl dX3_rideStage_0 rfl ?_
  refine kwp_getr (pc := 1) fl_X3_37 rfl rfl dX3_rideStage_1 ?_
  refine kwp_iload_n (pc := 4) 1 rfl dX3_rideStage_4 rfl ?_
  obtain ⟨hin, h⟩ := h
  refine kwp_iald (pc := 5) rfl hin dX3_rideStage_5 ?_
  obtain ⟨z1, ez1⟩ : ∃ z : Int32, z = M.1 11 k0 x1.toNatClampNeg := ⟨_, rfl⟩
  rw [← ez1]
  have h := h z1 ez1
  refine kwp_istore_n (pc := 6) (ls2 := [(3, .inl z1), (0, .inr (.inr (1, k0))), (1, .inl x1), (2, .inl x2)]) dX3_rideStage_6 rfl (by decide) rfl ?_
  refine kwp_aload_n (pc := 7) 1 rfl dX3_rideStage_7 rfl ?_
  refine kwp_getr (pc := 8) fl_X3_46 rfl rfl dX3_rideStage_8 ?_
  refine kwp_iload_n (pc := 11) 2 rfl dX3_rideStage_11 rfl ?_
  obtain ⟨hin, h⟩ := h
  refine kwp_iald (pc := 12) rfl hin dX3_rideStage_12 ?_
  refine kwp_iload_n (pc := 13) 0 rfl dX3_rideStage_13 rfl ?_
  refine kwp_callN (pc := 14) (Y := mX5_has) (host := RX5) (vs := [.inl (M.1 14 k0 x1.toNatClampNeg), .inl z1]) (rest := []) fm_X5_has fs_X5_has (by decide +kernel) (by decide) rfl rfl (by simp [kcat]) dX3_rideStage_14 ?_
  refine kCT.mono h (fun v M2 h => ?_)
  obtain ⟨r3, rfl, h⟩ := h
  change kWP l (rg_x, g) mX3_rideStage 17 [(3, .inl z1), (0, .inr (.inr (1, k0))), (1, .inl x1), (2, .inl x2)] [.inl r3] M2 (kqv Q)
  refine kwp_if_eq (pc := 17) 46 dX3_rideStage_17 (by decide) (fun hc => ?_) (fun hc => ?_)
  · have h := h.1 hc
    refine kwp_sub [1, 2, 3, 0] rfl ?_
    exact h
  · have h := h.2 hc
    refine kwp_aload_n (pc := 20) 1 rfl dX3_rideStage_20 rfl ?_
    refine kwp_getr (pc := 21) fl_X3_31 rfl rfl dX3_rideStage_21 ?_
    refine kwp_iload_n (pc := 24) 0 rfl dX3_rideStage_24 rfl ?_
    obtain ⟨hin, h⟩ := h
    refine kwp_iald (pc := 25) rfl hin dX3_rideStage_25 ?_
    refine kwp_if_le (pc := 26) 46 dX3_rideStage_26 (by decide) (fun hc => ?_) (fun hc => ?_)
    · have h := h.1 hc
      refine kwp_sub [1, 2, 3, 0] rfl ?_
      exact h
    · have h := h.2 hc
      refine kwp_aload_n (pc := 29) 1 rfl dX3_rideStage_29 rfl ?_
      refine kwp_getr (pc := 30) fl_X3_43 rfl rfl dX3_rideStage_30 ?_
      refine kwp_iload_n (pc := 33) 2 rfl dX3_rideStage_33 rfl ?_
      obtain ⟨hin, h⟩ := h
      refine kwp_iald (pc := 34) rfl hin dX3_rideStage_34 ?_
      refine kwp_aload_n (pc := 35) 1 rfl dX3_rideStage_35 rfl ?_
      refine kwp_geti (pc := 36) fl_X3_18 rfl rfl dX3_rideStage_36 ?_
      refine kwp_icmp_lt (pc := 39) 46 dX3_rideStage_39 (by decide) (fun hc => ?_) (fun hc => ?_)
      · have h := h.1 hc
        refine kwp_sub [1, 2, 3, 0] rfl ?_
        exact h
      · have h := h.2 hc
        refine kwp_iconst (pc := 42) dX3_rideStage_42 ic_1 ?_
        refine kwp_goto (pc := 43) 47 dX3_rideStage_43 (by decide) ?_
        refine kwp_sub [1, 2, 3, 0] rfl ?_
        exact h

set_option maxRecDepth 20000 in
theorem bX3_rideStage_46 {l : Launch} {g : va_G × (Nat → ClassId) × (Nat → Nat → Nat)} (k0 : Nat) (x1 : Int32) (x2 : Int32) (x3 : Int32) (M : kM) (Q : kM → Prop)
    (h : kWP l (rg_x, g) mX3_rideStage 47 [(0, .inr (.inr (1, k0))), (1, .inl x1), (2, .inl x2), (3, .inl x3)] [.inl 0] M (kqv Q)) :
    kWP l (rg_x, g) mX3_rideStage 46 [(0, .inr (.inr (1, k0))), (1, .inl x1), (2, .inl x2), (3, .inl x3)] [] M (kqv Q) := by
  refine kwp_iconst (pc := 46) dX3_rideStage_46 ic_0 ?_
  exact h

set_option maxRecDepth 20000 in
theorem bX3_rideStage_47 {l : Launch} {g : va_G × (Nat → ClassId) × (Nat → Nat → Nat)} (k0 : Nat) (x1 : Int32) (x2 : Int32) (x3 : Int32) (s0 : Int32) (M : kM) (Q : kM → Prop)
    (h : ((s0 = 0 → kWP l (rg_x, g) mX3_rideStage 77 [(0, .inr (.inr (1, k0))), (1, .inl x1), (2, .inl x2), (3, .inl x3), (4, .inl s0)] [] M (kqv Q)) ∧ (¬ s0 = 0 → vp_in x1 4 ∧ (vp_in x1 4 ∧ (∀ M1 : kM, M1 = ku M 13 k0 x1.toNatClampNeg ((M.1 13 k0 x1.toNatClampNeg) - (M.1 1 k0 2)) → vp_in x3 8 ∧ (vp_in x3 8 ∧ (∀ M2 : kM, M2 = ku M1 9 k0 x3.toNatClampNeg ((M1.1 9 k0 x3.toNatClampNeg) - 1) → kWP l (rg_x, g) mX3_rideStage 77 [(0, .inr (.inr (1, k0))), (1, .inl x1), (2, .inl x2), (3, .inl x3), (4, .inl s0)] [] M2 (kqv Q)))))))) :
    kWP l (rg_x, g) mX3_rideStage 47 [(0, .inr (.inr (1, k0))), (1, .inl x1), (2, .inl x2), (3, .inl x3)] [.inl s0] M (kqv Q) := by
  refine kwp_istore (pc := 47) (ls2 := [(4, .inl s0), (0, .inr (.inr (1, k0))), (1, .inl x1), (2, .inl x2), (3, .inl x3)]) dX3_rideStage_47 (by decide) rfl ?_
  refine kwp_iload (pc := 49) 0 rfl dX3_rideStage_49 ?_
  refine kwp_if_eq (pc := 51) 77 dX3_rideStage_51 (by decide) (fun hc => ?_) (fun hc => ?_)
  · have h := h.1 hc
    refine kwp_sub [1, 2, 3, 4, 0] rfl ?_
    exact h
  · have h := h.2 hc
    refine kwp_aload_n (pc := 54) 1 rfl dX3_rideStage_54 rfl ?_
    refine kwp_getr (pc := 55) fl_X3_43 rfl rfl dX3_rideStage_55 ?_
    refine kwp_iload_n (pc := 58) 2 rfl dX3_rideStage_58 rfl ?_
    refine kwp_dup2 (pc := 59) dX3_rideStage_59 rfl rfl ?_
    obtain ⟨hin, h⟩ := h
    refine kwp_iald (pc := 60) rfl hin dX3_rideStage_60 ?_
    refine kwp_aload_n (pc := 61) 1 rfl dX3_rideStage_61 rfl ?_
    refine kwp_geti (pc := 62) fl_X3_18 rfl rfl dX3_rideStage_62 ?_
    refine kwp_isub (pc := 65) dX3_rideStage_65 ?_
    obtain ⟨hin, h⟩ := h
    refine kwp_iast (pc := 66) rfl hin dX3_rideStage_66 ?_
    obtain ⟨M1, eM1⟩ : ∃ z : kM, z = ku M 13 k0 x1.toNatClampNeg ((M.1 13 k0 x1.toNatClampNeg) - (M.1 1 k0 2)) := ⟨_, rfl⟩
    rw [← eM1]
    have h := h M1 eM1
    refine kwp_aload_n (pc := 67) 1 rfl dX3_rideStage_67 rfl ?_
    refine kwp_getr (pc := 68) fl_X3_31 rfl rfl dX3_rideStage_68 ?_
    refine kwp_iload_n (pc := 71) 4 rfl dX3_rideStage_71 rfl ?_
    refine kwp_dup2 (pc := 72) dX3_rideStage_72 rfl rfl ?_
    obtain ⟨hin, h⟩ := h
    refine kwp_iald (pc := 73) rfl hin dX3_rideStage_73 ?_
    refine kwp_iconst (pc := 74) dX3_rideStage_74 ic_1 ?_
    refine kwp_isub (pc := 75) dX3_rideStage_75 ?_
    obtain ⟨hin, h⟩ := h
    refine kwp_iast (pc := 76) rfl hin dX3_rideStage_76 ?_
    obtain ⟨M2, eM2⟩ : ∃ z : kM, z = ku M1 9 k0 x3.toNatClampNeg ((M1.1 9 k0 x3.toNatClampNeg) - 1) := ⟨_, rfl⟩
    rw [← eM2]
    have h := h M2 eM2
    refine kwp_sub [1, 2, 3, 4, 0] rfl ?_
    exact h

set_option maxRecDepth 20000 in
theorem bX3_rideStage_77 {l : Launch} {g : va_G × (Nat → ClassId) × (Nat → Nat → Nat)} (k0 : Nat) (x1 : Int32) (x2 : Int32) (x3 : Int32) (x4 : Int32) (M : kM) (Q : kM → Prop)
    (h : vp_in x1 4 ∧ (vp_in x3 8 ∧ ((((M.1 13 k0 x1.toNatClampNeg) < (M.1 8 k0 x3.toNatClampNeg) → vp_in x1 4 ∧ (vp_in x1 4 ∧ (∀ M1 : kM, M1 = ku M 12 k0 x1.toNatClampNeg ((M.1 12 k0 x1.toNatClampNeg) + 10) → kWP l (rg_x, g) mX3_rideStage 121 [(0, .inr (.inr (1, k0))), (1, .inl x1), (2, .inl x2), (3, .inl x3), (4, .inl x4)] [] M1 (kqv Q)))) ∧ (¬ (M.1 13 k0 x1.toNatClampNeg) < (M.1 8 k0 x3.toNatClampNeg) → vp_in x1 4 ∧ (vp_in x3 8 ∧ (vp_in x1 4 ∧ (∀ M2 : kM, M2 = ku M 13 k0 x1.toNatClampNeg ((M.1 13 k0 x1.toNatClampNeg) - (M.1 8 k0 x3.toNatClampNeg)) → kWP l (rg_x, g) mX3_rideStage 121 [(0, .inr (.inr (1, k0))), (1, .inl x1), (2, .inl x2), (3, .inl x3), (4, .inl x4)] [] M2 (kqv Q))))))))) :
    kWP l (rg_x, g) mX3_rideStage 77 [(0, .inr (.inr (1, k0))), (1, .inl x1), (2, .inl x2), (3, .inl x3), (4, .inl x4)] [] M (kqv Q) := by
  refine kwp_aload_n (pc := 77) 0 rfl dX3_rideStage_77 rfl ?_
  refine kwp_getr (pc := 78) fl_X3_43 rfl rfl dX3_rideStage_78 ?_
  refine kwp_iload_n (pc := 81) 1 rfl dX3_rideStage_81 rfl ?_
  obtain ⟨hin, h⟩ := h
  refine kwp_iald (pc := 82) rfl hin dX3_rideStage_82 ?_
  refine kwp_aload_n (pc := 83) 0 rfl dX3_rideStage_83 rfl ?_
  refine kwp_getr (pc := 84) fl_X3_28 rfl rfl dX3_rideStage_84 ?_
  refine kwp_iload_n (pc := 87) 3 rfl dX3_rideStage_87 rfl ?_
  obtain ⟨hin, h⟩ := h
  refine kwp_iald (pc := 88) rfl hin dX3_rideStage_88 ?_
  refine kwp_icmp_lt (pc := 89) 110 dX3_rideStage_89 (by decide) (fun hc => ?_) (fun hc => ?_)
  · have h := h.1 hc
    refine kwp_aload_n (pc := 110) 0 rfl dX3_rideStage_110 rfl ?_
    refine kwp_getr (pc := 111) fl_X3_40 rfl rfl dX3_rideStage_111 ?_
    refine kwp_iload_n (pc := 114) 1 rfl dX3_rideStage_114 rfl ?_
    refine kwp_dup2 (pc := 115) dX3_rideStage_115 rfl rfl ?_
    obtain ⟨hin, h⟩ := h
    refine kwp_iald (pc := 116) rfl hin dX3_rideStage_116 ?_
    refine kwp_bipush (pc := 117) dX3_rideStage_117 bp_10 ?_
    refine kwp_iadd (pc := 119) dX3_rideStage_119 ?_
    obtain ⟨hin, h⟩ := h
    refine kwp_iast (pc := 120) rfl hin dX3_rideStage_120 ?_
    obtain ⟨M1, eM1⟩ : ∃ z : kM, z = ku M 12 k0 x1.toNatClampNeg ((M.1 12 k0 x1.toNatClampNeg) + 10) := ⟨_, rfl⟩
    rw [← eM1]
    have h := h M1 eM1
    exact h
  · have h := h.2 hc
    refine kwp_aload_n (pc := 92) 0 rfl dX3_rideStage_92 rfl ?_
    refine kwp_getr (pc := 93) fl_X3_43 rfl rfl dX3_rideStage_93 ?_
    refine kwp_iload_n (pc := 96) 1 rfl dX3_rideStage_96 rfl ?_
    refine kwp_dup2 (pc := 97) dX3_rideStage_97 rfl rfl ?_
    obtain ⟨hin, h⟩ := h
    refine kwp_iald (pc := 98) rfl hin dX3_rideStage_98 ?_
    refine kwp_aload_n (pc := 99) 0 rfl dX3_rideStage_99 rfl ?_
    refine kwp_getr (pc := 100) fl_X3_28 rfl rfl dX3_rideStage_100 ?_
    refine kwp_iload_n (pc := 103) 3 rfl dX3_rideStage_103 rfl ?_
    obtain ⟨hin, h⟩ := h
    refine kwp_iald (pc := 104) rfl hin dX3_rideStage_104 ?_
    refine kwp_isub (pc := 105) dX3_rideStage_105 ?_
    obtain ⟨hin, h⟩ := h
    refine kwp_iast (pc := 106) rfl hin dX3_rideStage_106 ?_
    obtain ⟨M2, eM2⟩ : ∃ z : kM, z = ku M 13 k0 x1.toNatClampNeg ((M.1 13 k0 x1.toNatClampNeg) - (M.1 8 k0 x3.toNatClampNeg)) := ⟨_, rfl⟩
    rw [← eM2]
    have h := h M2 eM2
    refine kwp_goto (pc := 107) 121 dX3_rideStage_107 (by decide) ?_
    exact h

set_option maxRecDepth 20000 in
theorem bX3_rideStage_121 {l : Launch} {g : va_G × (Nat → ClassId) × (Nat → Nat → Nat)} (k0 : Nat) (x1 : Int32) (x2 : Int32) (x3 : Int32) (x4 : Int32) (M : kM) (Q : kM → Prop)
    (h : vp_in x1 4 ∧ (vp_in x1 4 ∧ (vp_in x3 8 ∧ (kCT l (rg_x, g) mX5_minutesFor [.inl (M.1 10 k0 x1.toNatClampNeg), .inl (M.1 7 k0 x3.toNatClampNeg), .inl x4] M (kqi (fun r2 M1 => vp_in x1 4 ∧ (∀ M3 : kM, M3 = ku M1 12 k0 x1.toNatClampNeg ((M.1 12 k0 x1.toNatClampNeg) + (r2 + x2)) → vp_in x1 4 ∧ (∀ M4 : kM, M4 = ku M3 11 k0 x1.toNatClampNeg (x3 + 1) → Q M4)))))))) :
    kWP l (rg_x, g) mX3_rideStage 121 [(0, .inr (.inr (1, k0))), (1, .inl x1), (2, .inl x2), (3, .inl x3), (4, .inl x4)] [] M (kqv Q) := by
  refine kwp_aload_n (pc := 121) 0 rfl dX3_rideStage_121 rfl ?_
  refine kwp_getr (pc := 122) fl_X3_40 rfl rfl dX3_rideStage_122 ?_
  refine kwp_iload_n (pc := 125) 1 rfl dX3_rideStage_125 rfl ?_
  refine kwp_dup2 (pc := 126) dX3_rideStage_126 rfl rfl ?_
  obtain ⟨hin, h⟩ := h
  refine kwp_iald (pc := 127) rfl hin dX3_rideStage_127 ?_
  refine kwp_aload_n (pc := 128) 0 rfl dX3_rideStage_128 rfl ?_
  refine kwp_getr (pc := 129) fl_X3_34 rfl rfl dX3_rideStage_129 ?_
  refine kwp_iload_n (pc := 132) 1 rfl dX3_rideStage_132 rfl ?_
  obtain ⟨hin, h⟩ := h
  refine kwp_iald (pc := 133) rfl hin dX3_rideStage_133 ?_
  refine kwp_aload_n (pc := 134) 0 rfl dX3_rideStage_134 rfl ?_
  refine kwp_getr (pc := 135) fl_X3_24 rfl rfl dX3_rideStage_135 ?_
  refine kwp_iload_n (pc := 138) 3 rfl dX3_rideStage_138 rfl ?_
  obtain ⟨hin, h⟩ := h
  refine kwp_iald (pc := 139) rfl hin dX3_rideStage_139 ?_
  refine kwp_iload (pc := 140) 4 rfl dX3_rideStage_140 ?_
  refine kwp_callN (pc := 142) (Y := mX5_minutesFor) (host := RX5) (vs := [.inl (M.1 10 k0 x1.toNatClampNeg), .inl (M.1 7 k0 x3.toNatClampNeg), .inl x4]) (rest := [.inl (M.1 12 k0 x1.toNatClampNeg), .inl x1, .inr (.inr (12, k0))]) fm_X5_minutesFor fs_X5_minutesFor (by decide +kernel) (by decide) rfl rfl (by simp [kcat]) dX3_rideStage_142 ?_
  refine kCT.mono h (fun v M1 h => ?_)
  obtain ⟨r2, rfl, h⟩ := h
  change kWP l (rg_x, g) mX3_rideStage 145 [(0, .inr (.inr (1, k0))), (1, .inl x1), (2, .inl x2), (3, .inl x3), (4, .inl x4)] [.inl r2, .inl (M.1 12 k0 x1.toNatClampNeg), .inl x1, .inr (.inr (12, k0))] M1 (kqv Q)
  refine kwp_iload_n (pc := 145) 2 rfl dX3_rideStage_145 rfl ?_
  refine kwp_iadd (pc := 146) dX3_rideStage_146 ?_
  refine kwp_iadd (pc := 147) dX3_rideStage_147 ?_
  obtain ⟨hin, h⟩ := h
  refine kwp_iast (pc := 148) rfl hin dX3_rideStage_148 ?_
  obtain ⟨M3, eM3⟩ : ∃ z : kM, z = ku M1 12 k0 x1.toNatClampNeg ((M.1 12 k0 x1.toNatClampNeg) + (r2 + x2)) := ⟨_, rfl⟩
  rw [← eM3]
  have h := h M3 eM3
  refine kwp_aload_n (pc := 149) 0 rfl dX3_rideStage_149 rfl ?_
  refine kwp_getr (pc := 150) fl_X3_37 rfl rfl dX3_rideStage_150 ?_
  refine kwp_iload_n (pc := 153) 1 rfl dX3_rideStage_153 rfl ?_
  refine kwp_iload_n (pc := 154) 3 rfl dX3_rideStage_154 rfl ?_
  refine kwp_iconst (pc := 155) dX3_rideStage_155 ic_1 ?_
  refine kwp_iadd (pc := 156) dX3_rideStage_156 ?_
  obtain ⟨hin, h⟩ := h
  refine kwp_iast (pc := 157) rfl hin dX3_rideStage_157 ?_
  obtain ⟨M4, eM4⟩ : ∃ z : kM, z = ku M3 11 k0 x1.toNatClampNeg (x3 + 1) := ⟨_, rfl⟩
  rw [← eM4]
  have h := h M4 eM4
  exact kwp_vret (pc := 158) rfl dX3_rideStage_158 ⟨rfl, h⟩

set_option maxRecDepth 20000 in
theorem bX3_drawWheel_0 {l : Launch} {g : va_G × (Nat → ClassId) × (Nat → Nat → Nat)} (k0 : Nat) (M : kM) (Q : Int32 → kM → Prop)
    (h : ∀ M1 : kM, M1 = ku M 1 k0 3 ((((M.1 1 k0 3) * 1103515245) + 12345) &&& 2147483647) → ((¬ (((M1.1 1 k0 3) / 65536) - ((M1.1 1 k0 3) / 65536) / 6 * 6) = 0 → kWP l (rg_x, g) mX3_drawWheel 36 [] [.inl 0] M1 (kqi Q)) ∧ ((((M1.1 1 k0 3) / 65536) - ((M1.1 1 k0 3) / 65536) / 6 * 6) = 0 → kWP l (rg_x, g) mX3_drawWheel 36 [] [.inl 1] M1 (kqi Q)))) :
    kWP l (rg_x, g) mX3_drawWheel 0 [(0, .inr (.inr (1, k0)))] [] M (kqi Q) := by
  refine kwp_aload_n (pc := 0) 0 rfl dX3_drawWheel_0 rfl ?_
  refine kwp_aload_n (pc := 1) 0 rfl dX3_drawWheel_1 rfl ?_
  refine kwp_geti (pc := 2) fl_X3_21 rfl rfl dX3_drawWheel_2 ?_
  refine kwp_ldc (pc := 5) cn_X3_71 dX3_drawWheel_5 ?_
  refine kwp_imul (pc := 7) dX3_drawWheel_7 ?_
  refine kwp_sipush (pc := 8) dX3_drawWheel_8 sp_12345 ?_
  refine kwp_iadd (pc := 11) dX3_drawWheel_11 ?_
  refine kwp_ldc (pc := 12) cn_X3_72 dX3_drawWheel_12 ?_
  refine kwp_iand (pc := 14) dX3_drawWheel_14 ?_
  refine kwp_put (pc := 15) fp_X3_21 rfl rfl trivial dX3_drawWheel_15 ?_
  obtain ⟨M1, eM1⟩ : ∃ z : kM, z = ku M 1 k0 3 ((((M.1 1 k0 3) * 1103515245) + 12345) &&& 2147483647) := ⟨_, rfl⟩
  rw [← eM1]
  have h := h M1 eM1
  refine kwp_aload_n (pc := 18) 0 rfl dX3_drawWheel_18 rfl ?_
  refine kwp_geti (pc := 19) fl_X3_21 rfl rfl dX3_drawWheel_19 ?_
  refine kwp_ldc (pc := 22) cn_X3_73 dX3_drawWheel_22 ?_
  refine kwp_idiv (pc := 24) dX3_drawWheel_24 (by decide) ?_
  refine kwp_bipush (pc := 25) dX3_drawWheel_25 bp_6 ?_
  refine kwp_irem (pc := 27) dX3_drawWheel_27 (by decide) ?_
  refine kwp_if_ne (pc := 28) 35 dX3_drawWheel_28 (by decide) (fun hc => ?_) (fun hc => ?_)
  · have h := h.1 hc
    refine kwp_iconst (pc := 35) dX3_drawWheel_35 ic_0 ?_
    refine kwp_sub [] rfl ?_
    exact h
  · have h := h.2 hc
    refine kwp_iconst (pc := 31) dX3_drawWheel_31 ic_1 ?_
    refine kwp_goto (pc := 32) 36 dX3_drawWheel_32 (by decide) ?_
    refine kwp_sub [] rfl ?_
    exact h

set_option maxRecDepth 20000 in
theorem bX3_drawWheel_36 {l : Launch} {g : va_G × (Nat → ClassId) × (Nat → Nat → Nat)} (s0 : Int32) (M : kM) (Q : Int32 → kM → Prop)
    (h : ((s0 = 0 ∨ s0 = 1) ∧ Q s0 M)) :
    kWP l (rg_x, g) mX3_drawWheel 36 [] [.inl s0] M (kqi Q) := by
  exact kwp_zret (pc := 36) rfl h.1 dX3_drawWheel_36 ⟨_, rfl, h.2⟩

set_option maxRecDepth 20000 in
theorem bJ6_bitCount_0f7a4_0 {l : Launch} {g : kG} (x0 : Int32) (M : kM) (Q : Int32 → kM → Prop)
    (h : ∀ z1 : Int32, z1 = x0 - (((x0.toUInt32 >>> ((1 : Int32).toUInt32 &&& Int32.toUInt32 31)).toInt32) &&& 1431655765) → ∀ z2 : Int32, z2 = (z1 &&& 858993459) + (((z1.toUInt32 >>> ((2 : Int32).toUInt32 &&& Int32.toUInt32 31)).toInt32) &&& 858993459) → ∀ z3 : Int32, z3 = (z2 + ((z2.toUInt32 >>> ((4 : Int32).toUInt32 &&& Int32.toUInt32 31)).toInt32)) &&& 252645135 → ∀ z4 : Int32, z4 = z3 + ((z3.toUInt32 >>> ((8 : Int32).toUInt32 &&& Int32.toUInt32 31)).toInt32) → ∀ z5 : Int32, z5 = z4 + ((z4.toUInt32 >>> ((16 : Int32).toUInt32 &&& Int32.toUInt32 31)).toInt32) → Q (z5 &&& 63) M) :
    kWP l g mJ6_bitCount_0f7a4 0 [(0, .inl x0)] [] M (kqi Q) := by
  refine kwp_iload_n (pc := 0) 0 rfl dJ6_bitCount_0f7a4_0 rfl ?_
  refine kwp_iload_n (pc := 1) 0 rfl dJ6_bitCount_0f7a4_1 rfl ?_
  refine kwp_iconst (pc := 2) dJ6_bitCount_0f7a4_2 ic_1 ?_
  refine kwp_iushr (pc := 3) dJ6_bitCount_0f7a4_3 rfl ?_
  refine kwp_ldcw (pc := 4) cn_J6_265 dJ6_bitCount_0f7a4_4 ?_
  refine kwp_iand (pc := 7) dJ6_bitCount_0f7a4_7 ?_
  refine kwp_isub (pc := 8) dJ6_bitCount_0f7a4_8 ?_
  obtain ⟨z1, ez1⟩ : ∃ z : Int32, z = x0 - (((x0.toUInt32 >>> ((1 : Int32).toUInt32 &&& Int32.toUInt32 31)).toInt32) &&& 1431655765) := ⟨_, rfl⟩
  rw [← ez1]
  have h := h z1 ez1
  refine kwp_istore_n (pc := 9) (ls2 := [(0, .inl z1)]) dJ6_bitCount_0f7a4_9 rfl (by decide) rfl ?_
  refine kwp_iload_n (pc := 10) 0 rfl dJ6_bitCount_0f7a4_10 rfl ?_
  refine kwp_ldcw (pc := 11) cn_J6_266 dJ6_bitCount_0f7a4_11 ?_
  refine kwp_iand (pc := 14) dJ6_bitCount_0f7a4_14 ?_
  refine kwp_iload_n (pc := 15) 0 rfl dJ6_bitCount_0f7a4_15 rfl ?_
  refine kwp_iconst (pc := 16) dJ6_bitCount_0f7a4_16 ic_2 ?_
  refine kwp_iushr (pc := 17) dJ6_bitCount_0f7a4_17 rfl ?_
  refine kwp_ldcw (pc := 18) cn_J6_266 dJ6_bitCount_0f7a4_18 ?_
  refine kwp_iand (pc := 21) dJ6_bitCount_0f7a4_21 ?_
  refine kwp_iadd (pc := 22) dJ6_bitCount_0f7a4_22 ?_
  obtain ⟨z2, ez2⟩ : ∃ z : Int32, z = (z1 &&& 858993459) + (((z1.toUInt32 >>> ((2 : Int32).toUInt32 &&& Int32.toUInt32 31)).toInt32) &&& 858993459) := ⟨_, rfl⟩
  rw [← ez2]
  have h := h z2 ez2
  refine kwp_istore_n (pc := 23) (ls2 := [(0, .inl z2)]) dJ6_bitCount_0f7a4_23 rfl (by decide) rfl ?_
  refine kwp_iload_n (pc := 24) 0 rfl dJ6_bitCount_0f7a4_24 rfl ?_
  refine kwp_iload_n (pc := 25) 0 rfl dJ6_bitCount_0f7a4_25 rfl ?_
  refine kwp_iconst (pc := 26) dJ6_bitCount_0f7a4_26 ic_4 ?_
  refine kwp_iushr (pc := 27) dJ6_bitCount_0f7a4_27 rfl ?_
  refine kwp_iadd (pc := 28) dJ6_bitCount_0f7a4_28 ?_
  refine kwp_ldcw (pc := 29) cn_J6_267 dJ6_bitCount_0f7a4_29 ?_
  refine kwp_iand (pc := 32) dJ6_bitCount_0f7a4_32 ?_
  obtain ⟨z3, ez3⟩ : ∃ z : Int32, z = (z2 + ((z2.toUInt32 >>> ((4 : Int32).toUInt32 &&& Int32.toUInt32 31)).toInt32)) &&& 252645135 := ⟨_, rfl⟩
  rw [← ez3]
  have h := h z3 ez3
  refine kwp_istore_n (pc := 33) (ls2 := [(0, .inl z3)]) dJ6_bitCount_0f7a4_33 rfl (by decide) rfl ?_
  refine kwp_iload_n (pc := 34) 0 rfl dJ6_bitCount_0f7a4_34 rfl ?_
  refine kwp_iload_n (pc := 35) 0 rfl dJ6_bitCount_0f7a4_35 rfl ?_
  refine kwp_bipush (pc := 36) dJ6_bitCount_0f7a4_36 bp_8 ?_
  refine kwp_iushr (pc := 38) dJ6_bitCount_0f7a4_38 rfl ?_
  refine kwp_iadd (pc := 39) dJ6_bitCount_0f7a4_39 ?_
  obtain ⟨z4, ez4⟩ : ∃ z : Int32, z = z3 + ((z3.toUInt32 >>> ((8 : Int32).toUInt32 &&& Int32.toUInt32 31)).toInt32) := ⟨_, rfl⟩
  rw [← ez4]
  have h := h z4 ez4
  refine kwp_istore_n (pc := 40) (ls2 := [(0, .inl z4)]) dJ6_bitCount_0f7a4_40 rfl (by decide) rfl ?_
  refine kwp_iload_n (pc := 41) 0 rfl dJ6_bitCount_0f7a4_41 rfl ?_
  refine kwp_iload_n (pc := 42) 0 rfl dJ6_bitCount_0f7a4_42 rfl ?_
  refine kwp_bipush (pc := 43) dJ6_bitCount_0f7a4_43 bp_16 ?_
  refine kwp_iushr (pc := 45) dJ6_bitCount_0f7a4_45 rfl ?_
  refine kwp_iadd (pc := 46) dJ6_bitCount_0f7a4_46 ?_
  obtain ⟨z5, ez5⟩ : ∃ z : Int32, z = z4 + ((z4.toUInt32 >>> ((16 : Int32).toUInt32 &&& Int32.toUInt32 31)).toInt32) := ⟨_, rfl⟩
  rw [← ez5]
  have h := h z5 ez5
  refine kwp_istore_n (pc := 47) (ls2 := [(0, .inl z5)]) dJ6_bitCount_0f7a4_47 rfl (by decide) rfl ?_
  refine kwp_iload_n (pc := 48) 0 rfl dJ6_bitCount_0f7a4_48 rfl ?_
  refine kwp_bipush (pc := 49) dJ6_bitCount_0f7a4_49 bp_63 ?_
  refine kwp_iand (pc := 51) dJ6_bitCount_0f7a4_51 ?_
  exact kwp_iret (pc := 52) rfl dJ6_bitCount_0f7a4_52 ⟨_, rfl, h⟩

set_option maxRecDepth 20000 in
theorem bJ9_max_7cf53_0 {l : Launch} {g : kG} (x0 : Int32) (x1 : Int32) (M : kM) (Q : Int32 → kM → Prop)
    (h : ((x0 < x1 → kWP l g mJ9_max_7cf53 10 [] [.inl x1] M (kqi Q)) ∧ (¬ x0 < x1 → kWP l g mJ9_max_7cf53 10 [] [.inl x0] M (kqi Q)))) :
    kWP l g mJ9_max_7cf53 0 [(0, .inl x0), (1, .inl x1)] [] M (kqi Q) := by
  refine kwp_iload_n (pc := 0) 0 rfl dJ9_max_7cf53_0 rfl ?_
  refine kwp_iload_n (pc := 1) 1 rfl dJ9_max_7cf53_1 rfl ?_
  refine kwp_icmp_lt (pc := 2) 9 dJ9_max_7cf53_2 (by decide) (fun hc => ?_) (fun hc => ?_)
  · have h := h.1 hc
    refine kwp_iload_n (pc := 9) 1 rfl dJ9_max_7cf53_9 rfl ?_
    refine kwp_sub [] rfl ?_
    exact h
  · have h := h.2 hc
    refine kwp_iload_n (pc := 5) 0 rfl dJ9_max_7cf53_5 rfl ?_
    refine kwp_goto (pc := 6) 10 dJ9_max_7cf53_6 (by decide) ?_
    refine kwp_sub [] rfl ?_
    exact h

set_option maxRecDepth 20000 in
theorem bJ9_max_7cf53_10 {l : Launch} {g : kG} (s0 : Int32) (M : kM) (Q : Int32 → kM → Prop)
    (h : Q s0 M) :
    kWP l g mJ9_max_7cf53 10 [] [.inl s0] M (kqi Q) := by
  exact kwp_iret (pc := 10) rfl dJ9_max_7cf53_10 ⟨_, rfl, h⟩

set_option maxRecDepth 20000 in
theorem bJ9_min_7cf53_0 {l : Launch} {g : kG} (x0 : Int32) (x1 : Int32) (M : kM) (Q : Int32 → kM → Prop)
    (h : ((x1 < x0 → kWP l g mJ9_min_7cf53 10 [] [.inl x1] M (kqi Q)) ∧ (¬ x1 < x0 → kWP l g mJ9_min_7cf53 10 [] [.inl x0] M (kqi Q)))) :
    kWP l g mJ9_min_7cf53 0 [(0, .inl x0), (1, .inl x1)] [] M (kqi Q) := by
  refine kwp_iload_n (pc := 0) 0 rfl dJ9_min_7cf53_0 rfl ?_
  refine kwp_iload_n (pc := 1) 1 rfl dJ9_min_7cf53_1 rfl ?_
  refine kwp_icmp_gt (pc := 2) 9 dJ9_min_7cf53_2 (by decide) (fun hc => ?_) (fun hc => ?_)
  · have h := h.1 hc
    refine kwp_iload_n (pc := 9) 1 rfl dJ9_min_7cf53_9 rfl ?_
    refine kwp_sub [] rfl ?_
    exact h
  · have h := h.2 hc
    refine kwp_iload_n (pc := 5) 0 rfl dJ9_min_7cf53_5 rfl ?_
    refine kwp_goto (pc := 6) 10 dJ9_min_7cf53_6 (by decide) ?_
    refine kwp_sub [] rfl ?_
    exact h

set_option maxRecDepth 20000 in
theorem bJ9_min_7cf53_10 {l : Launch} {g : kG} (s0 : Int32) (M : kM) (Q : Int32 → kM → Prop)
    (h : Q s0 M) :
    kWP l g mJ9_min_7cf53 10 [] [.inl s0] M (kqi Q) := by
  exact kwp_iret (pc := 10) rfl dJ9_min_7cf53_10 ⟨_, rfl, h⟩
