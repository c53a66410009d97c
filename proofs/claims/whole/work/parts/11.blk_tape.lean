set_option maxRecDepth 20000 in
theorem bX4_isFull_0 {l : Launch} {g : va_G × (Nat → ClassId) × (Nat → Nat → Nat)}  (M : kM) (Q : Int32 → kM → Prop)
    (h : (((M.1 4 0 2) < 90 → kWP l (rg_x, g) mX4_isFull 14 [] [.inl 0] M (kqi Q)) ∧ (¬ (M.1 4 0 2) < 90 → kWP l (rg_x, g) mX4_isFull 14 [] [.inl 1] M (kqi Q)))) :
    kWP l (rg_x, g) mX4_isFull 0 [(0, .inr (.inr (4, 0)))] [] M (kqi Q) := by
  refine kwp_aload_n (pc := 0) 0 rfl dX4_isFull_0 rfl ?_
  refine kwp_geti (pc := 1) fl_X4_22 rfl rfl dX4_isFull_1 ?_
  refine kwp_bipush (pc := 4) dX4_isFull_4 bp_90 ?_
  refine kwp_icmp_lt (pc := 6) 13 dX4_isFull_6 (by decide) (fun hc => ?_) (fun hc => ?_)
  · have h := h.1 hc
    refine kwp_iconst (pc := 13) dX4_isFull_13 ic_0 ?_
    refine kwp_sub [] rfl ?_
    exact h
  · have h := h.2 hc
    refine kwp_iconst (pc := 9) dX4_isFull_9 ic_1 ?_
    refine kwp_goto (pc := 10) 14 dX4_isFull_10 (by decide) ?_
    refine kwp_sub [] rfl ?_
    exact h

set_option maxRecDepth 20000 in
theorem bX4_isFull_14 {l : Launch} {g : va_G × (Nat → ClassId) × (Nat → Nat → Nat)} (s0 : Int32) (M : kM) (Q : Int32 → kM → Prop)
    (h : ((s0 = 0 ∨ s0 = 1) ∧ Q s0 M)) :
    kWP l (rg_x, g) mX4_isFull 14 [] [.inl s0] M (kqi Q) := by
  exact kwp_zret (pc := 14) rfl h.1 dX4_isFull_14 ⟨_, rfl, h.2⟩

set_option maxRecDepth 20000 in
theorem bX4_append_0 {l : Launch} {g : va_G × (Nat → ClassId) × (Nat → Nat → Nat)} (x1 : Int32) (M : kM) (Q : Int32 → kM → Prop)
    (h : vp_in (M.1 4 0 2) 90 ∧ (∀ M1 : kM, M1 = ku M 17 0 (M.1 4 0 2).toNatClampNeg x1 → ∀ M2 : kM, M2 = ku M1 4 0 2 ((M1.1 4 0 2) + 1) → Q (M2.1 4 0 2) M2)) :
    kWP l (rg_x, g) mX4_append 0 [(0, .inr (.inr (4, 0))), (1, .inl x1)] [] M (kqi Q) := by
  refine kwp_aload_n (pc := 0) 0 rfl dX4_append_0 rfl ?_
  refine kwp_getc (pc := 1) fl_X4_18 rfl rfl dX4_append_1 ?_
  refine kwp_aload_n (pc := 4) 0 rfl dX4_append_4 rfl ?_
  refine kwp_geti (pc := 5) fl_X4_22 rfl rfl dX4_append_5 ?_
  refine kwp_iload_n (pc := 8) 1 rfl dX4_append_8 rfl ?_
  obtain ⟨hin, h⟩ := h
  refine kwp_iast (pc := 9) rfl hin dX4_append_9 ?_
  obtain ⟨M1, eM1⟩ : ∃ z : kM, z = ku M 17 0 (M.1 4 0 2).toNatClampNeg x1 := ⟨_, rfl⟩
  rw [← eM1]
  have h := h M1 eM1
  refine kwp_aload_n (pc := 10) 0 rfl dX4_append_10 rfl ?_
  refine kwp_dup (pc := 11) dX4_append_11 rfl ?_
  refine kwp_geti (pc := 12) fl_X4_22 rfl rfl dX4_append_12 ?_
  refine kwp_iconst (pc := 15) dX4_append_15 ic_1 ?_
  refine kwp_iadd (pc := 16) dX4_append_16 ?_
  refine kwp_put (pc := 17) fp_X4_22 rfl rfl trivial dX4_append_17 ?_
  obtain ⟨M2, eM2⟩ : ∃ z : kM, z = ku M1 4 0 2 ((M1.1 4 0 2) + 1) := ⟨_, rfl⟩
  rw [← eM2]
  have h := h M2 eM2
  refine kwp_aload_n (pc := 20) 0 rfl dX4_append_20 rfl ?_
  refine kwp_geti (pc := 21) fl_X4_22 rfl rfl dX4_append_21 ?_
  exact kwp_iret (pc := 24) rfl dX4_append_24 ⟨_, rfl, h⟩

set_option maxRecDepth 20000 in
theorem bX4_readRoad_0 {l : Launch} {g : va_G × (Nat → ClassId) × (Nat → Nat → Nat)}  (M : kM) (Q : Int32 → kM → Prop)
    (h : ∀ M1 : kM, M1 = ku M 4 0 3 0 → ∀ M2 : kM, M2 = ku M1 1 3 0 0 → ∀ M3 : kM, M3 = ku M2 1 3 1 0 → kCT l (rg_x, g) mX4_readStages [.inr (.inr (4, 0))] M3 (kqi (fun r5 M4 => ((r5 = 0 → kWP l (rg_x, g) mX4_readRoad 45 [(0, .inr (.inr (4, 0)))] [] M4 (kqi Q)) ∧ (¬ r5 = 0 → kCT l (rg_x, g) mX4_readRiders [.inr (.inr (4, 0))] M4 (kqi (fun r7 M6 => ((r7 = 0 → kWP l (rg_x, g) mX4_readRoad 45 [(0, .inr (.inr (4, 0)))] [] M6 (kqi Q)) ∧ (¬ r7 = 0 → kWP l (rg_x, g) mX4_readRoad 52 [(0, .inr (.inr (4, 0)))] [.inl (M6.1 1 3 1)] M6 (kqi Q)))))))))) :
    kWP l (rg_x, g) mX4_readRoad 0 [(0, .inr (.inr (4, 0)))] [] M (kqi Q) := by
  refine kwp_aload_n (pc := 0) 0 rfl dX4_readRoad_0 rfl ?_
  refine kwp_iconst (pc := 1) dX4_readRoad_1 ic_0 ?_
  refine kwp_put (pc := 2) fp_X4_26 rfl rfl trivial dX4_readRoad_2 ?_
  obtain ⟨M1, eM1⟩ : ∃ z : kM, z = ku M 4 0 3 0 := ⟨_, rfl⟩
  rw [← eM1]
  have h := h M1 eM1
  refine kwp_aload_n (pc := 5) 0 rfl dX4_readRoad_5 rfl ?_
  refine kwp_getc (pc := 6) fl_X4_12 rfl rfl dX4_readRoad_6 ?_
  refine kwp_iconst (pc := 9) dX4_readRoad_9 ic_0 ?_
  refine kwp_put (pc := 10) fp_X4_29 rfl rfl trivial dX4_readRoad_10 ?_
  obtain ⟨M2, eM2⟩ : ∃ z : kM, z = ku M1 1 3 0 0 := ⟨_, rfl⟩
  rw [← eM2]
  have h := h M2 eM2
  refine kwp_aload_n (pc := 13) 0 rfl dX4_readRoad_13 rfl ?_
  refine kwp_getc (pc := 14) fl_X4_12 rfl rfl dX4_readRoad_14 ?_
  refine kwp_iconst (pc := 17) dX4_readRoad_17 ic_0 ?_
  refine kwp_put (pc := 18) fp_X4_32 rfl rfl trivial dX4_readRoad_18 ?_
  obtain ⟨M3, eM3⟩ : ∃ z : kM, z = ku M2 1 3 1 0 := ⟨_, rfl⟩
  rw [← eM3]
  have h := h M3 eM3
  refine kwp_aload_n (pc := 21) 0 rfl dX4_readRoad_21 rfl ?_
  refine kwp_callV (pc := 22) (Y := mX4_readStages) (vs := []) (rest := []) fm_X4_readStages fi_X4_readStages ml_X4_35 (by decide) rfl rfl rfl rfl (by simp [kcat]) dX4_readRoad_22 ?_
  refine kCT.mono h (fun v M4 h => ?_)
  obtain ⟨r5, rfl, h⟩ := h
  change kWP l (rg_x, g) mX4_readRoad 25 [(0, .inr (.inr (4, 0)))] [.inl r5] M4 (kqi Q)
  refine kwp_if_eq (pc := 25) 45 dX4_readRoad_25 (by decide) (fun hc => ?_) (fun hc => ?_)
  · have h := h.1 hc
    exact h
  · have h := h.2 hc
    refine kwp_aload_n (pc := 28) 0 rfl dX4_readRoad_28 rfl ?_
    refine kwp_callV (pc := 29) (Y := mX4_readRiders) (vs := []) (rest := []) fm_X4_readRiders fi_X4_readRiders ml_X4_39 (by decide) rfl rfl rfl rfl (by simp [kcat]) dX4_readRoad_29 ?_
    refine kCT.mono h (fun v M6 h => ?_)
    obtain ⟨r7, rfl, h⟩ := h
    change kWP l (rg_x, g) mX4_readRoad 32 [(0, .inr (.inr (4, 0)))] [.inl r7] M6 (kqi Q)
    refine kwp_if_eq (pc := 32) 45 dX4_readRoad_32 (by decide) (fun hc => ?_) (fun hc => ?_)
    · have h := h.1 hc
      exact h
    · have h := h.2 hc
      refine kwp_aload_n (pc := 35) 0 rfl dX4_readRoad_35 rfl ?_
      refine kwp_getc (pc := 36) fl_X4_12 rfl rfl dX4_readRoad_36 ?_
      refine kwp_geti (pc := 39) fl_X4_32 rfl rfl dX4_readRoad_39 ?_
      refine kwp_goto (pc := 42) 52 dX4_readRoad_42 (by decide) ?_
      exact h

set_option maxRecDepth 20000 in
theorem bX4_readRoad_45 {l : Launch} {g : va_G × (Nat → ClassId) × (Nat → Nat → Nat)}  (M : kM) (Q : Int32 → kM → Prop)
    (h : kWP l (rg_x, g) mX4_readRoad 52 [(0, .inr (.inr (4, 0)))] [.inl ((-20 : Int32) - (M.1 4 0 3))] M (kqi Q)) :
    kWP l (rg_x, g) mX4_readRoad 45 [(0, .inr (.inr (4, 0)))] [] M (kqi Q) := by
  refine kwp_bipush (pc := 45) dX4_readRoad_45 bp_m20 ?_
  refine kwp_aload_n (pc := 47) 0 rfl dX4_readRoad_47 rfl ?_
  refine kwp_geti (pc := 48) fl_X4_26 rfl rfl dX4_readRoad_48 ?_
  refine kwp_isub (pc := 51) dX4_readRoad_51 ?_
  exact h

set_option maxRecDepth 20000 in
theorem bX4_readRoad_52 {l : Launch} {g : va_G × (Nat → ClassId) × (Nat → Nat → Nat)} (s0 : Int32) (M : kM) (Q : Int32 → kM → Prop)
    (h : ∀ M1 : kM, M1 = ku M 4 0 2 0 → Q s0 M1) :
    kWP l (rg_x, g) mX4_readRoad 52 [(0, .inr (.inr (4, 0)))] [.inl s0] M (kqi Q) := by
  refine kwp_istore_n (pc := 52) (ls2 := [(1, .inl s0), (0, .inr (.inr (4, 0)))]) dX4_readRoad_52 rfl (by decide) rfl ?_
  refine kwp_aload_n (pc := 53) 1 rfl dX4_readRoad_53 rfl ?_
  refine kwp_iconst (pc := 54) dX4_readRoad_54 ic_0 ?_
  refine kwp_put (pc := 55) fp_X4_22 rfl rfl trivial dX4_readRoad_55 ?_
  obtain ⟨M1, eM1⟩ : ∃ z : kM, z = ku M 4 0 2 0 := ⟨_, rfl⟩
  rw [← eM1]
  have h := h M1 eM1
  refine kwp_iload_n (pc := 58) 0 rfl dX4_readRoad_58 rfl ?_
  exact kwp_iret (pc := 59) rfl dX4_readRoad_59 ⟨_, rfl, h⟩

set_option maxRecDepth 20000 in
theorem bX4_readStages_0 {l : Launch} {g : va_G × (Nat → ClassId) × (Nat → Nat → Nat)}  (M : kM) (Q : Int32 → kM → Prop)
    (h : kWP l (rg_x, g) mX4_readStages 2 [(0, .inr (.inr (4, 0))), (1, .inl 0)] [] M (kqi Q)) :
    kWP l (rg_x, g) mX4_readStages 0 [(0, .inr (.inr (4, 0)))] [] M (kqi Q) := by
  refine kwp_iconst (pc := 0) dX4_readStages_0 ic_0 ?_
  refine kwp_istore_n (pc := 1) (ls2 := [(1, .inl 0), (0, .inr (.inr (4, 0)))]) dX4_readStages_1 rfl (by decide) rfl ?_
  refine kwp_sub [1, 0] rfl ?_
  exact h

set_option maxRecDepth 20000 in
theorem bX4_readStages_2 {l : Launch} {g : va_G × (Nat → ClassId) × (Nat → Nat → Nat)} (x1 : Int32) (M : kM) (Q : Int32 → kM → Prop)
    (h : ((8 ≤ x1 → Q 0 M) ∧ (¬ 8 ≤ x1 → kCT l (rg_x, g) mX4_readStage [.inr (.inr (4, 0))] M (kqi (fun r2 M1 => ((¬ r2 = 0 → kCT l (rg_x, g) mX4_takes [.inr (.inr (4, 0)), .inl 59] M1 (kqi (fun r4 M3 => ((r4 = 0 → ((x1 = 7 → kWP l (rg_x, g) mX4_readStages 43 [] [] M3 (kqi Q)) ∧ (¬ x1 = 7 → kCT l (rg_x, g) mX4_takes [.inr (.inr (4, 0)), .inl 44] M3 (kqi (fun r6 M5 => ((¬ r6 = 0 → ∀ z7 : Int32, z7 = x1 + 1 → kWP l (rg_x, g) mX4_readStages 2 [(0, .inr (.inr (4, 0))), (1, .inl z7)] [] M5 (kqi Q)) ∧ (r6 = 0 → kWP l (rg_x, g) mX4_readStages 43 [] [] M5 (kqi Q)))))))) ∧ (¬ r4 = 0 → Q 1 M3))))) ∧ (r2 = 0 → Q 0 M1))))))) :
    kWP l (rg_x, g) mX4_readStages 2 [(0, .inr (.inr (4, 0))), (1, .inl x1)] [] M (kqi Q) := by
  refine kwp_iload_n (pc := 2) 1 rfl dX4_readStages_2 rfl ?_
  refine kwp_bipush (pc := 3) dX4_readStages_3 bp_8 ?_
  refine kwp_icmp_ge (pc := 5) 51 dX4_readStages_5 (by decide) (fun hc => ?_) (fun hc => ?_)
  · have h := h.1 hc
    refine kwp_iconst (pc := 51) dX4_readStages_51 ic_0 ?_
    exact kwp_zret (pc := 52) rfl (by decide) dX4_readStages_52 ⟨_, rfl, h⟩
  · have h := h.2 hc
    refine kwp_aload_n (pc := 8) 0 rfl dX4_readStages_8 rfl ?_
    refine kwp_callV (pc := 9) (Y := mX4_readStage) (vs := []) (rest := []) fm_X4_readStage fi_X4_readStage ml_X4_42 (by decide) rfl rfl rfl rfl (by simp [kcat]) dX4_readStages_9 ?_
    refine kCT.mono h (fun v M1 h => ?_)
    obtain ⟨r2, rfl, h⟩ := h
    change kWP l (rg_x, g) mX4_readStages 12 [(0, .inr (.inr (4, 0))), (1, .inl x1)] [.inl r2] M1 (kqi Q)
    refine kwp_if_ne (pc := 12) 17 dX4_readStages_12 (by decide) (fun hc => ?_) (fun hc => ?_)
    · have h := h.1 hc
      refine kwp_aload_n (pc := 17) 0 rfl dX4_readStages_17 rfl ?_
      refine kwp_bipush (pc := 18) dX4_readStages_18 bp_59 ?_
      refine kwp_callV (pc := 20) (Y := mX4_takes) (vs := [.inl 59]) (rest := []) fm_X4_takes fi_X4_takes ml_X4_45 (by decide) rfl rfl rfl rfl (by simp [kcat]) dX4_readStages_20 ?_
      refine kCT.mono h (fun v M3 h => ?_)
      obtain ⟨r4, rfl, h⟩ := h
      change kWP l (rg_x, g) mX4_readStages 23 [(0, .inr (.inr (4, 0))), (1, .inl x1)] [.inl r4] M3 (kqi Q)
      refine kwp_if_eq (pc := 23) 28 dX4_readStages_23 (by decide) (fun hc => ?_) (fun hc => ?_)
      · have h := h.1 hc
        refine kwp_iload_n (pc := 28) 1 rfl dX4_readStages_28 rfl ?_
        refine kwp_bipush (pc := 29) dX4_readStages_29 bp_7 ?_
        refine kwp_icmp_eq (pc := 31) 43 dX4_readStages_31 (by decide) (fun hc => ?_) (fun hc => ?_)
        · have h := h.1 hc
          refine kwp_sub [] rfl ?_
          exact h
        · have h := h.2 hc
          refine kwp_aload_n (pc := 34) 0 rfl dX4_readStages_34 rfl ?_
          refine kwp_bipush (pc := 35) dX4_readStages_35 bp_44 ?_
          refine kwp_callV (pc := 37) (Y := mX4_takes) (vs := [.inl 44]) (rest := []) fm_X4_takes fi_X4_takes ml_X4_45 (by decide) rfl rfl rfl rfl (by simp [kcat]) dX4_readStages_37 ?_
          refine kCT.mono h (fun v M5 h => ?_)
          obtain ⟨r6, rfl, h⟩ := h
          change kWP l (rg_x, g) mX4_readStages 40 [(0, .inr (.inr (4, 0))), (1, .inl x1)] [.inl r6] M5 (kqi Q)
          refine kwp_if_ne (pc := 40) 45 dX4_readStages_40 (by decide) (fun hc => ?_) (fun hc => ?_)
          · have h := h.1 hc
            obtain ⟨z7, ez7⟩ : ∃ z : Int32, z = x1 + 1 := ⟨_, rfl⟩
            have h := h z7 ez7
            refine kwp_iinc (pc := 45) (v := z7) (ls2 := [(1, .inl z7), (0, .inr (.inr (4, 0)))]) 1 rfl dX4_readStages_45 (by rw [ez7, ic_1]) (by decide) rfl ?_
            refine kwp_goto (pc := 48) 2 dX4_readStages_48 (by decide) ?_
            refine kwp_sub [1, 0] rfl ?_
            exact h
          · have h := h.2 hc
            refine kwp_sub [] rfl ?_
            exact h
      · have h := h.2 hc
        refine kwp_iconst (pc := 26) dX4_readStages_26 ic_1 ?_
        exact kwp_zret (pc := 27) rfl (by decide) dX4_readStages_27 ⟨_, rfl, h⟩
    · have h := h.2 hc
      refine kwp_iconst (pc := 15) dX4_readStages_15 ic_0 ?_
      exact kwp_zret (pc := 16) rfl (by decide) dX4_readStages_16 ⟨_, rfl, h⟩

set_option maxRecDepth 20000 in
theorem bX4_readStages_43 {l : Launch} {g : va_G × (Nat → ClassId) × (Nat → Nat → Nat)}  (M : kM) (Q : Int32 → kM → Prop)
    (h : Q 0 M) :
    kWP l (rg_x, g) mX4_readStages 43 [] [] M (kqi Q) := by
  refine kwp_iconst (pc := 43) dX4_readStages_43 ic_0 ?_
  exact kwp_zret (pc := 44) rfl (by decide) dX4_readStages_44 ⟨_, rfl, h⟩

set_option maxRecDepth 20000 in
theorem bX4_readStage_0 {l : Launch} {g : va_G × (Nat → ClassId) × (Nat → Nat → Nat)}  (M : kM) (Q : Int32 → kM → Prop)
    (h : kCT l (rg_x, g) mX4_readDigit [.inr (.inr (4, 0)), .inl 1, .inl 9] M (kqi (fun r2 M1 => ((0 ≤ r2 → kCT l (rg_x, g) mX4_readDigit [.inr (.inr (4, 0)), .inl 0, .inl 9] M1 (kqi (fun r4 M3 => kWP l (rg_x, g) mX4_readStage 23 [(0, .inr (.inr (4, 0))), (1, .inl r2)] [.inl r4] M3 (kqi Q)))) ∧ (¬ 0 ≤ r2 → kWP l (rg_x, g) mX4_readStage 23 [(0, .inr (.inr (4, 0))), (1, .inl r2)] [.inl (-1)] M1 (kqi Q)))))) :
    kWP l (rg_x, g) mX4_readStage 0 [(0, .inr (.inr (4, 0)))] [] M (kqi Q) := by
  refine kwp_aload_n (pc := 0) 0 rfl dX4_readStage_0 rfl ?_
  refine kwp_iconst (pc := 1) dX4_readStage_1 ic_1 ?_
  refine kwp_bipush (pc := 2) dX4_readStage_2 bp_9 ?_
  refine kwp_callV (pc := 4) (Y := mX4_readDigit) (vs := [.inl 1, .inl 9]) (rest := []) fm_X4_readDigit fi_X4_readDigit ml_X4_49 (by decide) rfl rfl rfl rfl (by simp [kcat]) dX4_readStage_4 ?_
  refine kCT.mono h (fun v M1 h => ?_)
  obtain ⟨r2, rfl, h⟩ := h
  change kWP l (rg_x, g) mX4_readStage 7 [(0, .inr (.inr (4, 0)))] [.inl r2] M1 (kqi Q)
  refine kwp_istore_n (pc := 7) (ls2 := [(1, .inl r2), (0, .inr (.inr (4, 0)))]) dX4_readStage_7 rfl (by decide) rfl ?_
  refine kwp_iload_n (pc := 8) 0 rfl dX4_readStage_8 rfl ?_
  refine kwp_if_ge (pc := 9) 16 dX4_readStage_9 (by decide) (fun hc => ?_) (fun hc => ?_)
  · have h := h.1 hc
    refine kwp_aload_n (pc := 16) 1 rfl dX4_readStage_16 rfl ?_
    refine kwp_iconst (pc := 17) dX4_readStage_17 ic_0 ?_
    refine kwp_bipush (pc := 18) dX4_readStage_18 bp_9 ?_
    refine kwp_callV (pc := 20) (Y := mX4_readDigit) (vs := [.inl 0, .inl 9]) (rest := []) fm_X4_readDigit fi_X4_readDigit ml_X4_49 (by decide) rfl rfl rfl rfl (by simp [kcat]) dX4_readStage_20 ?_
    refine kCT.mono h (fun v M3 h => ?_)
    obtain ⟨r4, rfl, h⟩ := h
    change kWP l (rg_x, g) mX4_readStage 23 [(1, .inl r2), (0, .inr (.inr (4, 0)))] [.inl r4] M3 (kqi Q)
    refine kwp_sub [1, 0] rfl ?_
    exact h
  · have h := h.2 hc
    refine kwp_iconst (pc := 12) dX4_readStage_12 ic_m1 ?_
    refine kwp_goto (pc := 13) 23 dX4_readStage_13 (by decide) ?_
    refine kwp_sub [1, 0] rfl ?_
    exact h

set_option maxRecDepth 20000 in
theorem bX4_readStage_23 {l : Launch} {g : va_G × (Nat → ClassId) × (Nat → Nat → Nat)} (x1 : Int32) (s0 : Int32) (M : kM) (Q : Int32 → kM → Prop)
    (h : ((0 ≤ s0 → kCT l (rg_x, g) mX4_readDigit [.inr (.inr (4, 0)), .inl 0, .inl 4] M (kqi (fun r2 M1 => kWP l (rg_x, g) mX4_readStage 38 [(0, .inr (.inr (4, 0))), (1, .inl x1), (2, .inl s0)] [.inl r2] M1 (kqi Q)))) ∧ (¬ 0 ≤ s0 → kWP l (rg_x, g) mX4_readStage 38 [(0, .inr (.inr (4, 0))), (1, .inl x1), (2, .inl s0)] [.inl (-1)] M (kqi Q)))) :
    kWP l (rg_x, g) mX4_readStage 23 [(0, .inr (.inr (4, 0))), (1, .inl x1)] [.inl s0] M (kqi Q) := by
  refine kwp_istore_n (pc := 23) (ls2 := [(2, .inl s0), (0, .inr (.inr (4, 0))), (1, .inl x1)]) dX4_readStage_23 rfl (by decide) rfl ?_
  refine kwp_iload_n (pc := 24) 0 rfl dX4_readStage_24 rfl ?_
  refine kwp_if_ge (pc := 25) 32 dX4_readStage_25 (by decide) (fun hc => ?_) (fun hc => ?_)
  · have h := h.1 hc
    refine kwp_aload_n (pc := 32) 1 rfl dX4_readStage_32 rfl ?_
    refine kwp_iconst (pc := 33) dX4_readStage_33 ic_0 ?_
    refine kwp_iconst (pc := 34) dX4_readStage_34 ic_4 ?_
    refine kwp_callV (pc := 35) (Y := mX4_readDigit) (vs := [.inl 0, .inl 4]) (rest := []) fm_X4_readDigit fi_X4_readDigit ml_X4_49 (by decide) rfl rfl rfl rfl (by simp [kcat]) dX4_readStage_35 ?_
    refine kCT.mono h (fun v M1 h => ?_)
    obtain ⟨r2, rfl, h⟩ := h
    change kWP l (rg_x, g) mX4_readStage 38 [(2, .inl s0), (0, .inr (.inr (4, 0))), (1, .inl x1)] [.inl r2] M1 (kqi Q)
    refine kwp_sub [1, 2, 0] rfl ?_
    exact h
  · have h := h.2 hc
    refine kwp_iconst (pc := 28) dX4_readStage_28 ic_m1 ?_
    refine kwp_goto (pc := 29) 38 dX4_readStage_29 (by decide) ?_
    refine kwp_sub [1, 2, 0] rfl ?_
    exact h

set_option maxRecDepth 20000 in
theorem bX4_readStage_38 {l : Launch} {g : va_G × (Nat → ClassId) × (Nat → Nat → Nat)} (x1 : Int32) (x2 : Int32) (s0 : Int32) (M : kM) (Q : Int32 → kM → Prop)
    (h : ((0 ≤ s0 → kCT l (rg_x, g) mX3_addStage [.inr (.inr (1, 3)), .inl x1, .inl x2, .inl s0] M (kqi (fun r2 M1 => Q 1 M1))) ∧ (¬ 0 ≤ s0 → Q 0 M))) :
    kWP l (rg_x, g) mX4_readStage 38 [(0, .inr (.inr (4, 0))), (1, .inl x1), (2, .inl x2)] [.inl s0] M (kqi Q) := by
  refine kwp_istore_n (pc := 38) (ls2 := [(3, .inl s0), (0, .inr (.inr (4, 0))), (1, .inl x1), (2, .inl x2)]) dX4_readStage_38 rfl (by decide) rfl ?_
  refine kwp_iload_n (pc := 39) 0 rfl dX4_readStage_39 rfl ?_
  refine kwp_if_ge (pc := 40) 45 dX4_readStage_40 (by decide) (fun hc => ?_) (fun hc => ?_)
  · have h := h.1 hc
    refine kwp_aload_n (pc := 45) 1 rfl dX4_readStage_45 rfl ?_
    refine kwp_getc (pc := 46) fl_X4_12 rfl rfl dX4_readStage_46 ?_
    refine kwp_iload_n (pc := 49) 2 rfl dX4_readStage_49 rfl ?_
    refine kwp_iload_n (pc := 50) 3 rfl dX4_readStage_50 rfl ?_
    refine kwp_iload_n (pc := 51) 0 rfl dX4_readStage_51 rfl ?_
    refine kwp_callV (pc := 52) (Y := mX3_addStage) (vs := [.inl x1, .inl x2, .inl s0]) (rest := []) fm_X3_addStage fi_X3_addStage ml_X4_53 (by decide) rfl rfl rfl rfl (by simp [kcat]) dX4_readStage_52 ?_
    refine kCT.mono h (fun v M1 h => ?_)
    obtain ⟨r2, rfl, h⟩ := h
    change kWP l (rg_x, g) mX4_readStage 55 [(3, .inl s0), (0, .inr (.inr (4, 0))), (1, .inl x1), (2, .inl x2)] [.inl r2] M1 (kqi Q)
    refine kwp_pop (pc := 55) dX4_readStage_55 rfl ?_
    refine kwp_iconst (pc := 56) dX4_readStage_56 ic_1 ?_
    exact kwp_zret (pc := 57) rfl (by decide) dX4_readStage_57 ⟨_, rfl, h⟩
  · have h := h.2 hc
    refine kwp_iconst (pc := 43) dX4_readStage_43 ic_0 ?_
    exact kwp_zret (pc := 44) rfl (by decide) dX4_readStage_44 ⟨_, rfl, h⟩

set_option maxRecDepth 20000 in
theorem bX4_readRiders_0 {l : Launch} {g : va_G × (Nat → ClassId) × (Nat → Nat → Nat)}  (M : kM) (Q : Int32 → kM → Prop)
    (h : kWP l (rg_x, g) mX4_readRiders 2 [(0, .inr (.inr (4, 0))), (1, .inl 0)] [] M (kqi Q)) :
    kWP l (rg_x, g) mX4_readRiders 0 [(0, .inr (.inr (4, 0)))] [] M (kqi Q) := by
  refine kwp_iconst (pc := 0) dX4_readRiders_0 ic_0 ?_
  refine kwp_istore_n (pc := 1) (ls2 := [(1, .inl 0), (0, .inr (.inr (4, 0)))]) dX4_readRiders_1 rfl (by decide) rfl ?_
  refine kwp_sub [1, 0] rfl ?_
  exact h

set_option maxRecDepth 20000 in
theorem bX4_readRiders_2 {l : Launch} {g : va_G × (Nat → ClassId) × (Nat → Nat → Nat)} (x1 : Int32) (M : kM) (Q : Int32 → kM → Prop)
    (h : ((4 ≤ x1 → Q 0 M) ∧ (¬ 4 ≤ x1 → kCT l (rg_x, g) mX4_readRider [.inr (.inr (4, 0))] M (kqi (fun r2 M1 => ((¬ r2 = 0 → kCT l (rg_x, g) mX4_letterHere [.inr (.inr (4, 0))] M1 (kqi (fun r4 M3 => ((¬ r4 = 0 → ((x1 = 3 → kWP l (rg_x, g) mX4_readRiders 39 [] [] M3 (kqi Q)) ∧ (¬ x1 = 3 → kCT l (rg_x, g) mX4_takes [.inr (.inr (4, 0)), .inl 44] M3 (kqi (fun r6 M5 => ((¬ r6 = 0 → ∀ z7 : Int32, z7 = x1 + 1 → kWP l (rg_x, g) mX4_readRiders 2 [(0, .inr (.inr (4, 0))), (1, .inl z7)] [] M5 (kqi Q)) ∧ (r6 = 0 → kWP l (rg_x, g) mX4_readRiders 39 [] [] M5 (kqi Q)))))))) ∧ (r4 = 0 → Q 1 M3))))) ∧ (r2 = 0 → Q 0 M1))))))) :
    kWP l (rg_x, g) mX4_readRiders 2 [(0, .inr (.inr (4, 0))), (1, .inl x1)] [] M (kqi Q) := by
  refine kwp_iload_n (pc := 2) 1 rfl dX4_readRiders_2 rfl ?_
  refine kwp_iconst (pc := 3) dX4_readRiders_3 ic_4 ?_
  refine kwp_icmp_ge (pc := 4) 47 dX4_readRiders_4 (by decide) (fun hc => ?_) (fun hc => ?_)
  · have h := h.1 hc
    refine kwp_iconst (pc := 47) dX4_readRiders_47 ic_0 ?_
    exact kwp_zret (pc := 48) rfl (by decide) dX4_readRiders_48 ⟨_, rfl, h⟩
  · have h := h.2 hc
    refine kwp_aload_n (pc := 7) 0 rfl dX4_readRiders_7 rfl ?_
    refine kwp_callV (pc := 8) (Y := mX4_readRider) (vs := []) (rest := []) fm_X4_readRider fi_X4_readRider ml_X4_57 (by decide) rfl rfl rfl rfl (by simp [kcat]) dX4_readRiders_8 ?_
    refine kCT.mono h (fun v M1 h => ?_)
    obtain ⟨r2, rfl, h⟩ := h
    change kWP l (rg_x, g) mX4_readRiders 11 [(0, .inr (.inr (4, 0))), (1, .inl x1)] [.inl r2] M1 (kqi Q)
    refine kwp_if_ne (pc := 11) 16 dX4_readRiders_11 (by decide) (fun hc => ?_) (fun hc => ?_)
    · have h := h.1 hc
      refine kwp_aload_n (pc := 16) 0 rfl dX4_readRiders_16 rfl ?_
      refine kwp_callV (pc := 17) (Y := mX4_letterHere) (vs := []) (rest := []) fm_X4_letterHere fi_X4_letterHere ml_X4_60 (by decide) rfl rfl rfl rfl (by simp [kcat]) dX4_readRiders_17 ?_
      refine kCT.mono h (fun v M3 h => ?_)
      obtain ⟨r4, rfl, h⟩ := h
      change kWP l (rg_x, g) mX4_readRiders 20 [(0, .inr (.inr (4, 0))), (1, .inl x1)] [.inl r4] M3 (kqi Q)
      refine kwp_if_ne (pc := 20) 25 dX4_readRiders_20 (by decide) (fun hc => ?_) (fun hc => ?_)
      · have h := h.1 hc
        refine kwp_iload_n (pc := 25) 1 rfl dX4_readRiders_25 rfl ?_
        refine kwp_iconst (pc := 26) dX4_readRiders_26 ic_3 ?_
        refine kwp_icmp_eq (pc := 27) 39 dX4_readRiders_27 (by decide) (fun hc => ?_) (fun hc => ?_)
        · have h := h.1 hc
          refine kwp_sub [] rfl ?_
          exact h
        · have h := h.2 hc
          refine kwp_aload_n (pc := 30) 0 rfl dX4_readRiders_30 rfl ?_
          refine kwp_bipush (pc := 31) dX4_readRiders_31 bp_44 ?_
          refine kwp_callV (pc := 33) (Y := mX4_takes) (vs := [.inl 44]) (rest := []) fm_X4_takes fi_X4_takes ml_X4_45 (by decide) rfl rfl rfl rfl (by simp [kcat]) dX4_readRiders_33 ?_
          refine kCT.mono h (fun v M5 h => ?_)
          obtain ⟨r6, rfl, h⟩ := h
          change kWP l (rg_x, g) mX4_readRiders 36 [(0, .inr (.inr (4, 0))), (1, .inl x1)] [.inl r6] M5 (kqi Q)
          refine kwp_if_ne (pc := 36) 41 dX4_readRiders_36 (by decide) (fun hc => ?_) (fun hc => ?_)
          · have h := h.1 hc
            obtain ⟨z7, ez7⟩ : ∃ z : Int32, z = x1 + 1 := ⟨_, rfl⟩
            have h := h z7 ez7
            refine kwp_iinc (pc := 41) (v := z7) (ls2 := [(1, .inl z7), (0, .inr (.inr (4, 0)))]) 1 rfl dX4_readRiders_41 (by rw [ez7, ic_1]) (by decide) rfl ?_
            refine kwp_goto (pc := 44) 2 dX4_readRiders_44 (by decide) ?_
            refine kwp_sub [1, 0] rfl ?_
            exact h
          · have h := h.2 hc
            refine kwp_sub [] rfl ?_
            exact h
      · have h := h.2 hc
        refine kwp_iconst (pc := 23) dX4_readRiders_23 ic_1 ?_
        exact kwp_zret (pc := 24) rfl (by decide) dX4_readRiders_24 ⟨_, rfl, h⟩
    · have h := h.2 hc
      refine kwp_iconst (pc := 14) dX4_readRiders_14 ic_0 ?_
      exact kwp_zret (pc := 15) rfl (by decide) dX4_readRiders_15 ⟨_, rfl, h⟩

set_option maxRecDepth 20000 in
theorem bX4_readRiders_39 {l : Launch} {g : va_G × (Nat → ClassId) × (Nat → Nat → Nat)}  (M : kM) (Q : Int32 → kM → Prop)
    (h : Q 0 M) :
    kWP l (rg_x, g) mX4_readRiders 39 [] [] M (kqi Q) := by
  refine kwp_iconst (pc := 39) dX4_readRiders_39 ic_0 ?_
  exact kwp_zret (pc := 40) rfl (by decide) dX4_readRiders_40 ⟨_, rfl, h⟩

set_option maxRecDepth 20000 in
theorem bX4_readRider_0 {l : Launch} {g : va_G × (Nat → ClassId) × (Nat → Nat → Nat)}  (M : kM) (Q : Int32 → kM → Prop)
    (h : kCT l (rg_x, g) mX4_letterHere [.inr (.inr (4, 0))] M (kqi (fun r2 M1 => kCT l (rg_x, g) mX4_kindOf [.inl r2] M1 (kqi (fun r4 M3 => ((0 ≤ r4 → ∀ M5 : kM, M5 = ku M3 4 0 3 ((M3.1 4 0 3) + 1) → kCT l (rg_x, g) mX4_readNumber [.inr (.inr (4, 0)), .inl 999] M5 (kqi (fun r7 M6 => ((r7 < 0 → kWP l (rg_x, g) mX4_readRider 45 [] [] M6 (kqi Q)) ∧ (¬ r7 < 0 → kCT l (rg_x, g) mX4_takes [.inr (.inr (4, 0)), .inl 47] M6 (kqi (fun r9 M8 => ((¬ r9 = 0 → kCT l (rg_x, g) mX4_readNumber [.inr (.inr (4, 0)), .inl 99] M8 (kqi (fun r11 M10 => ((0 ≤ r11 → kCT l (rg_x, g) mX3_addRider [.inr (.inr (1, 3)), .inl r4, .inl r7, .inl r11] M10 (kqi (fun r13 M12 => kCT l (rg_x, g) mX4_takes [.inr (.inr (4, 0)), .inl 58] M12 (kqi (fun r15 M14 => ((r15 = 0 → kWP l (rg_x, g) mX4_readRider 90 [] [] M14 (kqi Q)) ∧ (¬ r15 = 0 → kCT l (rg_x, g) mX4_readBuying [.inr (.inr (4, 0)), .inl r13] M14 (kqi (fun r17 M16 => ((r17 = 0 → kWP l (rg_x, g) mX4_readRider 95 [] [.inl 0] M16 (kqi Q)) ∧ (¬ r17 = 0 → kWP l (rg_x, g) mX4_readRider 90 [] [] M16 (kqi Q)))))))))))) ∧ (¬ 0 ≤ r11 → Q 0 M10))))) ∧ (r9 = 0 → kWP l (rg_x, g) mX4_readRider 45 [] [] M8 (kqi Q)))))))))) ∧ (¬ 0 ≤ r4 → Q 0 M3))))))) :
    kWP l (rg_x, g) mX4_readRider 0 [(0, .inr (.inr (4, 0)))] [] M (kqi Q) := by
  refine kwp_aload_n (pc := 0) 0 rfl dX4_readRider_0 rfl ?_
  refine kwp_callV (pc := 1) (Y := mX4_letterHere) (vs := []) (rest := []) fm_X4_letterHere fi_X4_letterHere ml_X4_60 (by decide) rfl rfl rfl rfl (by simp [kcat]) dX4_readRider_1 ?_
  refine kCT.mono h (fun v M1 h => ?_)
  obtain ⟨r2, rfl, h⟩ := h
  change kWP l (rg_x, g) mX4_readRider 4 [(0, .inr (.inr (4, 0)))] [.inl r2] M1 (kqi Q)
  refine kwp_callS (pc := 4) (Y := mX4_kindOf) (vs := [.inl r2]) (rest := []) fm_X4_kindOf fs_X4_kindOf ml_X4_64 (by decide) rfl rfl (by simp [kcat]) dX4_readRider_4 ?_
  refine kCT.mono h (fun v M3 h => ?_)
  obtain ⟨r4, rfl, h⟩ := h
  change kWP l (rg_x, g) mX4_readRider 7 [(0, .inr (.inr (4, 0)))] [.inl r4] M3 (kqi Q)
  refine kwp_istore_n (pc := 7) (ls2 := [(1, .inl r4), (0, .inr (.inr (4, 0)))]) dX4_readRider_7 rfl (by decide) rfl ?_
  refine kwp_iload_n (pc := 8) 0 rfl dX4_readRider_8 rfl ?_
  refine kwp_if_ge (pc := 9) 14 dX4_readRider_9 (by decide) (fun hc => ?_) (fun hc => ?_)
  · have h := h.1 hc
    refine kwp_aload_n (pc := 14) 1 rfl dX4_readRider_14 rfl ?_
    refine kwp_dup (pc := 15) dX4_readRider_15 rfl ?_
    refine kwp_geti (pc := 16) fl_X4_26 rfl rfl dX4_readRider_16 ?_
    refine kwp_iconst (pc := 19) dX4_readRider_19 ic_1 ?_
    refine kwp_iadd (pc := 20) dX4_readRider_20 ?_
    refine kwp_put (pc := 21) fp_X4_26 rfl rfl trivial dX4_readRider_21 ?_
    obtain ⟨M5, eM5⟩ : ∃ z : kM, z = ku M3 4 0 3 ((M3.1 4 0 3) + 1) := ⟨_, rfl⟩
    rw [← eM5]
    have h := h M5 eM5
    refine kwp_aload_n (pc := 24) 1 rfl dX4_readRider_24 rfl ?_
    refine kwp_sipush (pc := 25) dX4_readRider_25 sp_999 ?_
    refine kwp_callV (pc := 28) (Y := mX4_readNumber) (vs := [.inl 999]) (rest := []) fm_X4_readNumber fi_X4_readNumber ml_X4_68 (by decide) rfl rfl rfl rfl (by simp [kcat]) dX4_readRider_28 ?_
    refine kCT.mono h (fun v M6 h => ?_)
    obtain ⟨r7, rfl, h⟩ := h
    change kWP l (rg_x, g) mX4_readRider 31 [(1, .inl r4), (0, .inr (.inr (4, 0)))] [.inl r7] M6 (kqi Q)
    refine kwp_istore_n (pc := 31) (ls2 := [(2, .inl r7), (1, .inl r4), (0, .inr (.inr (4, 0)))]) dX4_readRider_31 rfl (by decide) rfl ?_
    refine kwp_iload_n (pc := 32) 0 rfl dX4_readRider_32 rfl ?_
    refine kwp_if_lt (pc := 33) 45 dX4_readRider_33 (by decide) (fun hc => ?_) (fun hc => ?_)
    · have h := h.1 hc
      refine kwp_sub [] rfl ?_
      exact h
    · have h := h.2 hc
      refine kwp_aload_n (pc := 36) 2 rfl dX4_readRider_36 rfl ?_
      refine kwp_bipush (pc := 37) dX4_readRider_37 bp_47 ?_
      refine kwp_callV (pc := 39) (Y := mX4_takes) (vs := [.inl 47]) (rest := []) fm_X4_takes fi_X4_takes ml_X4_45 (by decide) rfl rfl rfl rfl (by simp [kcat]) dX4_readRider_39 ?_
      refine kCT.mono h (fun v M8 h => ?_)
      obtain ⟨r9, rfl, h⟩ := h
      change kWP l (rg_x, g) mX4_readRider 42 [(2, .inl r7), (1, .inl r4), (0, .inr (.inr (4, 0)))] [.inl r9] M8 (kqi Q)
      refine kwp_if_ne (pc := 42) 47 dX4_readRider_42 (by decide) (fun hc => ?_) (fun hc => ?_)
      · have h := h.1 hc
        refine kwp_aload_n (pc := 47) 2 rfl dX4_readRider_47 rfl ?_
        refine kwp_bipush (pc := 48) dX4_readRider_48 bp_99 ?_
        refine kwp_callV (pc := 50) (Y := mX4_readNumber) (vs := [.inl 99]) (rest := []) fm_X4_readNumber fi_X4_readNumber ml_X4_68 (by decide) rfl rfl rfl rfl (by simp [kcat]) dX4_readRider_50 ?_
        refine kCT.mono h (fun v M10 h => ?_)
        obtain ⟨r11, rfl, h⟩ := h
        change kWP l (rg_x, g) mX4_readRider 53 [(2, .inl r7), (1, .inl r4), (0, .inr (.inr (4, 0)))] [.inl r11] M10 (kqi Q)
        refine kwp_istore_n (pc := 53) (ls2 := [(3, .inl r11), (2, .inl r7), (1, .inl r4), (0, .inr (.inr (4, 0)))]) dX4_readRider_53 rfl (by decide) rfl ?_
        refine kwp_iload_n (pc := 54) 0 rfl dX4_readRider_54 rfl ?_
        refine kwp_if_ge (pc := 55) 60 dX4_readRider_55 (by decide) (fun hc => ?_) (fun hc => ?_)
        · have h := h.1 hc
          refine kwp_aload_n (pc := 60) 3 rfl dX4_readRider_60 rfl ?_
          refine kwp_getc (pc := 61) fl_X4_12 rfl rfl dX4_readRider_61 ?_
          refine kwp_iload_n (pc := 64) 2 rfl dX4_readRider_64 rfl ?_
          refine kwp_iload_n (pc := 65) 1 rfl dX4_readRider_65 rfl ?_
          refine kwp_iload_n (pc := 66) 0 rfl dX4_readRider_66 rfl ?_
          refine kwp_callV (pc := 67) (Y := mX3_addRider) (vs := [.inl r4, .inl r7, .inl r11]) (rest := []) fm_X3_addRider fi_X3_addRider ml_X4_71 (by decide) rfl rfl rfl rfl (by simp [kcat]) dX4_readRider_67 ?_
          refine kCT.mono h (fun v M12 h => ?_)
          obtain ⟨r13, rfl, h⟩ := h
          change kWP l (rg_x, g) mX4_readRider 70 [(3, .inl r11), (2, .inl r7), (1, .inl r4), (0, .inr (.inr (4, 0)))] [.inl r13] M12 (kqi Q)
          refine kwp_istore (pc := 70) (ls2 := [(4, .inl r13), (3, .inl r11), (2, .inl r7), (1, .inl r4), (0, .inr (.inr (4, 0)))]) dX4_readRider_70 (by decide) rfl ?_
          refine kwp_aload_n (pc := 72) 4 rfl dX4_readRider_72 rfl ?_
          refine kwp_bipush (pc := 73) dX4_readRider_73 bp_58 ?_
          refine kwp_callV (pc := 75) (Y := mX4_takes) (vs := [.inl 58]) (rest := []) fm_X4_takes fi_X4_takes ml_X4_45 (by decide) rfl rfl rfl rfl (by simp [kcat]) dX4_readRider_75 ?_
          refine kCT.mono h (fun v M14 h => ?_)
          obtain ⟨r15, rfl, h⟩ := h
          change kWP l (rg_x, g) mX4_readRider 78 [(4, .inl r13), (3, .inl r11), (2, .inl r7), (1, .inl r4), (0, .inr (.inr (4, 0)))] [.inl r15] M14 (kqi Q)
          refine kwp_if_eq (pc := 78) 90 dX4_readRider_78 (by decide) (fun hc => ?_) (fun hc => ?_)
          · have h := h.1 hc
            refine kwp_sub [] rfl ?_
            exact h
          · have h := h.2 hc
            refine kwp_aload_n (pc := 81) 4 rfl dX4_readRider_81 rfl ?_
            refine kwp_iload (pc := 82) 0 rfl dX4_readRider_82 ?_
            refine kwp_callV (pc := 84) (Y := mX4_readBuying) (vs := [.inl r13]) (rest := []) fm_X4_readBuying fi_X4_readBuying ml_X4_74 (by decide) rfl rfl rfl rfl (by simp [kcat]) dX4_readRider_84 ?_
            refine kCT.mono h (fun v M16 h => ?_)
            obtain ⟨r17, rfl, h⟩ := h
            change kWP l (rg_x, g) mX4_readRider 87 [(4, .inl r13), (3, .inl r11), (2, .inl r7), (1, .inl r4), (0, .inr (.inr (4, 0)))] [.inl r17] M16 (kqi Q)
            refine kwp_if_eq (pc := 87) 94 dX4_readRider_87 (by decide) (fun hc => ?_) (fun hc => ?_)
            · have h := h.1 hc
              refine kwp_iconst (pc := 94) dX4_readRider_94 ic_0 ?_
              refine kwp_sub [] rfl ?_
              exact h
            · have h := h.2 hc
              refine kwp_sub [] rfl ?_
              exact h
        · have h := h.2 hc
          refine kwp_iconst (pc := 58) dX4_readRider_58 ic_0 ?_
          exact kwp_zret (pc := 59) rfl (by decide) dX4_readRider_59 ⟨_, rfl, h⟩
      · have h := h.2 hc
        refine kwp_sub [] rfl ?_
        exact h
  · have h := h.2 hc
    refine kwp_iconst (pc := 12) dX4_readRider_12 ic_0 ?_
    exact kwp_zret (pc := 13) rfl (by decide) dX4_readRider_13 ⟨_, rfl, h⟩

set_option maxRecDepth 20000 in
theorem bX4_readRider_45 {l : Launch} {g : va_G × (Nat → ClassId) × (Nat → Nat → Nat)}  (M : kM) (Q : Int32 → kM → Prop)
    (h : Q 0 M) :
    kWP l (rg_x, g) mX4_readRider 45 [] [] M (kqi Q) := by
  refine kwp_iconst (pc := 45) dX4_readRider_45 ic_0 ?_
  exact kwp_zret (pc := 46) rfl (by decide) dX4_readRider_46 ⟨_, rfl, h⟩

set_option maxRecDepth 20000 in
theorem bX4_readRider_90 {l : Launch} {g : va_G × (Nat → ClassId) × (Nat → Nat → Nat)}  (M : kM) (Q : Int32 → kM → Prop)
    (h : kWP l (rg_x, g) mX4_readRider 95 [] [.inl 1] M (kqi Q)) :
    kWP l (rg_x, g) mX4_readRider 90 [] [] M (kqi Q) := by
  refine kwp_iconst (pc := 90) dX4_readRider_90 ic_1 ?_
  refine kwp_goto (pc := 91) 95 dX4_readRider_91 (by decide) ?_
  exact h

set_option maxRecDepth 20000 in
theorem bX4_readRider_95 {l : Launch} {g : va_G × (Nat → ClassId) × (Nat → Nat → Nat)} (s0 : Int32) (M : kM) (Q : Int32 → kM → Prop)
    (h : ((s0 = 0 ∨ s0 = 1) ∧ Q s0 M)) :
    kWP l (rg_x, g) mX4_readRider 95 [] [.inl s0] M (kqi Q) := by
  exact kwp_zret (pc := 95) rfl h.1 dX4_readRider_95 ⟨_, rfl, h.2⟩

set_option maxRecDepth 20000 in
theorem bX4_readBuying_0 {l : Launch} {g : va_G × (Nat → ClassId) × (Nat → Nat → Nat)} (x1 : Int32) (M : kM) (Q : Int32 → kM → Prop)
    (h : kWP l (rg_x, g) mX4_readBuying 7 [(0, .inr (.inr (4, 0))), (1, .inl x1), (2, .inl 0), (3, .inl 0), (4, .inl 0)] [] M (kqi Q)) :
    kWP l (rg_x, g) mX4_readBuying 0 [(0, .inr (.inr (4, 0))), (1, .inl x1)] [] M (kqi Q) := by
  refine kwp_iconst (pc := 0) dX4_readBuying_0 ic_0 ?_
  refine kwp_istore_n (pc := 1) (ls2 := [(2, .inl 0), (0, .inr (.inr (4, 0))), (1, .inl x1)]) dX4_readBuying_1 rfl (by decide) rfl ?_
  refine kwp_iconst (pc := 2) dX4_readBuying_2 ic_0 ?_
  refine kwp_istore_n (pc := 3) (ls2 := [(3, .inl 0), (2, .inl 0), (0, .inr (.inr (4, 0))), (1, .inl x1)]) dX4_readBuying_3 rfl (by decide) rfl ?_
  refine kwp_iconst (pc := 4) dX4_readBuying_4 ic_0 ?_
  refine kwp_istore (pc := 5) (ls2 := [(4, .inl 0), (3, .inl 0), (2, .inl 0), (0, .inr (.inr (4, 0))), (1, .inl x1)]) dX4_readBuying_5 (by decide) rfl ?_
  refine kwp_sub [3, 4, 2, 1, 0] rfl ?_
  exact h

set_option maxRecDepth 20000 in
theorem bX4_readBuying_7 {l : Launch} {g : va_G × (Nat → ClassId) × (Nat → Nat → Nat)} (x1 : Int32) (x2 : Int32) (x3 : Int32) (x4 : Int32) (M : kM) (Q : Int32 → kM → Prop)
    (h : ((8 ≤ x4 → kWP l (rg_x, g) mX4_readBuying 56 [(0, .inr (.inr (4, 0))), (1, .inl x1), (2, .inl x2)] [] M (kqi Q)) ∧ (¬ 8 ≤ x4 → kCT l (rg_x, g) mX4_readDigit [.inr (.inr (4, 0)), .inl x3, .inl ((M.1 1 3 0) - 1)] M (kqi (fun r2 M1 => ((0 ≤ r2 → ∀ z3 : Int32, z3 = x2 ||| ((1 : Int32) <<< (r2 &&& 31)) → ∀ z4 : Int32, z4 = r2 + 1 → ∀ z5 : Int32, z5 = x4 + 1 → kWP l (rg_x, g) mX4_readBuying 7 [(0, .inr (.inr (4, 0))), (1, .inl x1), (2, .inl z3), (3, .inl z4), (4, .inl z5)] [] M1 (kqi Q)) ∧ (¬ 0 ≤ r2 → kWP l (rg_x, g) mX4_readBuying 56 [(0, .inr (.inr (4, 0))), (1, .inl x1), (2, .inl x2)] [] M1 (kqi Q)))))))) :
    kWP l (rg_x, g) mX4_readBuying 7 [(0, .inr (.inr (4, 0))), (1, .inl x1), (2, .inl x2), (3, .inl x3), (4, .inl x4)] [] M (kqi Q) := by
  refine kwp_iload (pc := 7) 4 rfl dX4_readBuying_7 ?_
  refine kwp_bipush (pc := 9) dX4_readBuying_9 bp_8 ?_
  refine kwp_icmp_ge (pc := 11) 56 dX4_readBuying_11 (by decide) (fun hc => ?_) (fun hc => ?_)
  · have h := h.1 hc
    refine kwp_sub [0, 1, 2] rfl ?_
    exact h
  · have h := h.2 hc
    refine kwp_aload_n (pc := 14) 0 rfl dX4_readBuying_14 rfl ?_
    refine kwp_iload_n (pc := 15) 3 rfl dX4_readBuying_15 rfl ?_
    refine kwp_aload_n (pc := 16) 0 rfl dX4_readBuying_16 rfl ?_
    refine kwp_getc (pc := 17) fl_X4_12 rfl rfl dX4_readBuying_17 ?_
    refine kwp_geti (pc := 20) fl_X4_29 rfl rfl dX4_readBuying_20 ?_
    refine kwp_iconst (pc := 23) dX4_readBuying_23 ic_1 ?_
    refine kwp_isub (pc := 24) dX4_readBuying_24 ?_
    refine kwp_callV (pc := 25) (Y := mX4_readDigit) (vs := [.inl x3, .inl ((M.1 1 3 0) - 1)]) (rest := []) fm_X4_readDigit fi_X4_readDigit ml_X4_49 (by decide) rfl rfl rfl rfl (by simp [kcat]) dX4_readBuying_25 ?_
    refine kCT.mono h (fun v M1 h => ?_)
    obtain ⟨r2, rfl, h⟩ := h
    change kWP l (rg_x, g) mX4_readBuying 28 [(0, .inr (.inr (4, 0))), (1, .inl x1), (2, .inl x2), (3, .inl x3), (4, .inl x4)] [.inl r2] M1 (kqi Q)
    refine kwp_istore (pc := 28) (ls2 := [(5, .inl r2), (0, .inr (.inr (4, 0))), (1, .inl x1), (2, .inl x2), (3, .inl x3), (4, .inl x4)]) dX4_readBuying_28 (by decide) rfl ?_
    refine kwp_iload (pc := 30) 0 rfl dX4_readBuying_30 ?_
    refine kwp_if_ge (pc := 32) 38 dX4_readBuying_32 (by decide) (fun hc => ?_) (fun hc => ?_)
    · have h := h.1 hc
      refine kwp_iload_n (pc := 38) 3 rfl dX4_readBuying_38 rfl ?_
      refine kwp_iconst (pc := 39) dX4_readBuying_39 ic_1 ?_
      refine kwp_iload (pc := 40) 0 rfl dX4_readBuying_40 ?_
      refine kwp_ishl (pc := 42) dX4_readBuying_42 ?_
      refine kwp_ior (pc := 43) dX4_readBuying_43 ?_
      obtain ⟨z3, ez3⟩ : ∃ z : Int32, z = x2 ||| ((1 : Int32) <<< (r2 &&& 31)) := ⟨_, rfl⟩
      rw [← ez3]
      have h := h z3 ez3
      refine kwp_istore_n (pc := 44) (ls2 := [(2, .inl z3), (5, .inl r2), (0, .inr (.inr (4, 0))), (1, .inl x1), (3, .inl x3), (4, .inl x4)]) dX4_readBuying_44 rfl (by decide) rfl ?_
      refine kwp_iload (pc := 45) 1 rfl dX4_readBuying_45 ?_
      refine kwp_iconst (pc := 47) dX4_readBuying_47 ic_1 ?_
      refine kwp_iadd (pc := 48) dX4_readBuying_48 ?_
      obtain ⟨z4, ez4⟩ : ∃ z : Int32, z = r2 + 1 := ⟨_, rfl⟩
      rw [← ez4]
      have h := h z4 ez4
      refine kwp_istore_n (pc := 49) (ls2 := [(3, .inl z4), (2, .inl z3), (5, .inl r2), (0, .inr (.inr (4, 0))), (1, .inl x1), (4, .inl x4)]) dX4_readBuying_49 rfl (by decide) rfl ?_
      obtain ⟨z5, ez5⟩ : ∃ z : Int32, z = x4 + 1 := ⟨_, rfl⟩
      have h := h z5 ez5
      refine kwp_iinc (pc := 50) (v := z5) (ls2 := [(4, .inl z5), (3, .inl z4), (2, .inl z3), (5, .inl r2), (0, .inr (.inr (4, 0))), (1, .inl x1)]) 5 rfl dX4_readBuying_50 (by rw [ez5, ic_1]) (by decide) rfl ?_
      refine kwp_goto (pc := 53) 7 dX4_readBuying_53 (by decide) ?_
      refine kwp_sub [4, 5, 2, 1, 0] rfl ?_
      exact h
    · have h := h.2 hc
      refine kwp_goto (pc := 35) 56 dX4_readBuying_35 (by decide) ?_
      refine kwp_sub [1, 2, 3] rfl ?_
      exact h

set_option maxRecDepth 20000 in
theorem bX4_readBuying_56 {l : Launch} {g : va_G × (Nat → ClassId) × (Nat → Nat → Nat)} (x1 : Int32) (x2 : Int32) (M : kM) (Q : Int32 → kM → Prop)
    (h : vp_in x1 4 ∧ (∀ M1 : kM, M1 = ku M 14 3 x1.toNatClampNeg x2 → ((x2 = 0 → kWP l (rg_x, g) mX4_readBuying 75 [] [.inl 0] M1 (kqi Q)) ∧ (¬ x2 = 0 → kWP l (rg_x, g) mX4_readBuying 75 [] [.inl 1] M1 (kqi Q))))) :
    kWP l (rg_x, g) mX4_readBuying 56 [(0, .inr (.inr (4, 0))), (1, .inl x1), (2, .inl x2)] [] M (kqi Q) := by
  refine kwp_aload_n (pc := 56) 0 rfl dX4_readBuying_56 rfl ?_
  refine kwp_getc (pc := 57) fl_X4_12 rfl rfl dX4_readBuying_57 ?_
  refine kwp_getr (pc := 60) fl_X4_77 rfl rfl dX4_readBuying_60 ?_
  refine kwp_iload_n (pc := 63) 1 rfl dX4_readBuying_63 rfl ?_
  refine kwp_iload_n (pc := 64) 2 rfl dX4_readBuying_64 rfl ?_
  obtain ⟨hin, h⟩ := h
  refine kwp_iast (pc := 65) rfl hin dX4_readBuying_65 ?_
  obtain ⟨M1, eM1⟩ : ∃ z : kM, z = ku M 14 3 x1.toNatClampNeg x2 := ⟨_, rfl⟩
  rw [← eM1]
  have h := h M1 eM1
  refine kwp_iload_n (pc := 66) 2 rfl dX4_readBuying_66 rfl ?_
  refine kwp_if_eq (pc := 67) 74 dX4_readBuying_67 (by decide) (fun hc => ?_) (fun hc => ?_)
  · have h := h.1 hc
    refine kwp_iconst (pc := 74) dX4_readBuying_74 ic_0 ?_
    refine kwp_sub [] rfl ?_
    exact h
  · have h := h.2 hc
    refine kwp_iconst (pc := 70) dX4_readBuying_70 ic_1 ?_
    refine kwp_goto (pc := 71) 75 dX4_readBuying_71 (by decide) ?_
    refine kwp_sub [] rfl ?_
    exact h

set_option maxRecDepth 20000 in
theorem bX4_readBuying_75 {l : Launch} {g : va_G × (Nat → ClassId) × (Nat → Nat → Nat)} (s0 : Int32) (M : kM) (Q : Int32 → kM → Prop)
    (h : ((s0 = 0 ∨ s0 = 1) ∧ Q s0 M)) :
    kWP l (rg_x, g) mX4_readBuying 75 [] [.inl s0] M (kqi Q) := by
  exact kwp_zret (pc := 75) rfl h.1 dX4_readBuying_75 ⟨_, rfl, h.2⟩

set_option maxRecDepth 20000 in
theorem bX4_readDigit_0 {l : Launch} {g : va_G × (Nat → ClassId) × (Nat → Nat → Nat)} (x1 : Int32) (x2 : Int32) (M : kM) (Q : Int32 → kM → Prop)
    (h : kCT l (rg_x, g) mX4_letterHere [.inr (.inr (4, 0))] M (kqi (fun r2 M1 => ∀ z3 : Int32, z3 = r2 - 48 → kCT l (rg_x, g) mX5_within [.inl z3, .inl x1, .inl x2] M1 (kqi (fun r5 M4 => ((¬ r5 = 0 → ∀ M6 : kM, M6 = ku M4 4 0 3 ((M4.1 4 0 3) + 1) → Q z3 M6) ∧ (r5 = 0 → Q (-1) M4))))))) :
    kWP l (rg_x, g) mX4_readDigit 0 [(0, .inr (.inr (4, 0))), (1, .inl x1), (2, .inl x2)] [] M (kqi Q) := by
  refine kwp_aload_n (pc := 0) 0 rfl dX4_readDigit_0 rfl ?_
  refine kwp_callV (pc := 1) (Y := mX4_letterHere) (vs := []) (rest := []) fm_X4_letterHere fi_X4_letterHere ml_X4_60 (by decide) rfl rfl rfl rfl (by simp [kcat]) dX4_readDigit_1 ?_
  refine kCT.mono h (fun v M1 h => ?_)
  obtain ⟨r2, rfl, h⟩ := h
  change kWP l (rg_x, g) mX4_readDigit 4 [(0, .inr (.inr (4, 0))), (1, .inl x1), (2, .inl x2)] [.inl r2] M1 (kqi Q)
  refine kwp_bipush (pc := 4) dX4_readDigit_4 bp_48 ?_
  refine kwp_isub (pc := 6) dX4_readDigit_6 ?_
  obtain ⟨z3, ez3⟩ : ∃ z : Int32, z = r2 - 48 := ⟨_, rfl⟩
  rw [← ez3]
  have h := h z3 ez3
  refine kwp_istore_n (pc := 7) (ls2 := [(3, .inl z3), (0, .inr (.inr (4, 0))), (1, .inl x1), (2, .inl x2)]) dX4_readDigit_7 rfl (by decide) rfl ?_
  refine kwp_iload_n (pc := 8) 0 rfl dX4_readDigit_8 rfl ?_
  refine kwp_iload_n (pc := 9) 2 rfl dX4_readDigit_9 rfl ?_
  refine kwp_iload_n (pc := 10) 3 rfl dX4_readDigit_10 rfl ?_
  refine kwp_callN (pc := 11) (Y := mX5_within) (host := RX5) (vs := [.inl z3, .inl x1, .inl x2]) (rest := []) fm_X5_within fs_X5_within (by decide +kernel) (by decide) rfl rfl (by simp [kcat]) dX4_readDigit_11 ?_
  refine kCT.mono h (fun v M4 h => ?_)
  obtain ⟨r5, rfl, h⟩ := h
  change kWP l (rg_x, g) mX4_readDigit 14 [(3, .inl z3), (0, .inr (.inr (4, 0))), (1, .inl x1), (2, .inl x2)] [.inl r5] M4 (kqi Q)
  refine kwp_if_ne (pc := 14) 19 dX4_readDigit_14 (by decide) (fun hc => ?_) (fun hc => ?_)
  · have h := h.1 hc
    refine kwp_aload_n (pc := 19) 1 rfl dX4_readDigit_19 rfl ?_
    refine kwp_dup (pc := 20) dX4_readDigit_20 rfl ?_
    refine kwp_geti (pc := 21) fl_X4_26 rfl rfl dX4_readDigit_21 ?_
    refine kwp_iconst (pc := 24) dX4_readDigit_24 ic_1 ?_
    refine kwp_iadd (pc := 25) dX4_readDigit_25 ?_
    refine kwp_put (pc := 26) fp_X4_26 rfl rfl trivial dX4_readDigit_26 ?_
    obtain ⟨M6, eM6⟩ : ∃ z : kM, z = ku M4 4 0 3 ((M4.1 4 0 3) + 1) := ⟨_, rfl⟩
    rw [← eM6]
    have h := h M6 eM6
    refine kwp_iload_n (pc := 29) 0 rfl dX4_readDigit_29 rfl ?_
    exact kwp_iret (pc := 30) rfl dX4_readDigit_30 ⟨_, rfl, h⟩
  · have h := h.2 hc
    refine kwp_iconst (pc := 17) dX4_readDigit_17 ic_m1 ?_
    exact kwp_iret (pc := 18) rfl dX4_readDigit_18 ⟨_, rfl, h⟩

set_option maxRecDepth 20000 in
theorem bX4_readNumber_0 {l : Launch} {g : va_G × (Nat → ClassId) × (Nat → Nat → Nat)} (x1 : Int32) (M : kM) (Q : Int32 → kM → Prop)
    (h : kCT l (rg_x, g) mX4_readDigit [.inr (.inr (4, 0)), .inl 0, .inl 9] M (kqi (fun r2 M1 => ∀ z3 : Int32, z3 = (M1.1 4 0 3) - 1 → kWP l (rg_x, g) mX4_readNumber 18 [(0, .inr (.inr (4, 0))), (1, .inl x1), (2, .inl r2), (3, .inl z3), (4, .inl 1)] [] M1 (kqi Q)))) :
    kWP l (rg_x, g) mX4_readNumber 0 [(0, .inr (.inr (4, 0))), (1, .inl x1)] [] M (kqi Q) := by
  refine kwp_aload_n (pc := 0) 0 rfl dX4_readNumber_0 rfl ?_
  refine kwp_iconst (pc := 1) dX4_readNumber_1 ic_0 ?_
  refine kwp_bipush (pc := 2) dX4_readNumber_2 bp_9 ?_
  refine kwp_callV (pc := 4) (Y := mX4_readDigit) (vs := [.inl 0, .inl 9]) (rest := []) fm_X4_readDigit fi_X4_readDigit ml_X4_49 (by decide) rfl rfl rfl rfl (by simp [kcat]) dX4_readNumber_4 ?_
  refine kCT.mono h (fun v M1 h => ?_)
  obtain ⟨r2, rfl, h⟩ := h
  change kWP l (rg_x, g) mX4_readNumber 7 [(0, .inr (.inr (4, 0))), (1, .inl x1)] [.inl r2] M1 (kqi Q)
  refine kwp_istore_n (pc := 7) (ls2 := [(2, .inl r2), (0, .inr (.inr (4, 0))), (1, .inl x1)]) dX4_readNumber_7 rfl (by decide) rfl ?_
  refine kwp_aload_n (pc := 8) 1 rfl dX4_readNumber_8 rfl ?_
  refine kwp_geti (pc := 9) fl_X4_26 rfl rfl dX4_readNumber_9 ?_
  refine kwp_iconst (pc := 12) dX4_readNumber_12 ic_1 ?_
  refine kwp_isub (pc := 13) dX4_readNumber_13 ?_
  obtain ⟨z3, ez3⟩ : ∃ z : Int32, z = (M1.1 4 0 3) - 1 := ⟨_, rfl⟩
  rw [← ez3]
  have h := h z3 ez3
  refine kwp_istore_n (pc := 14) (ls2 := [(3, .inl z3), (2, .inl r2), (0, .inr (.inr (4, 0))), (1, .inl x1)]) dX4_readNumber_14 rfl (by decide) rfl ?_
  refine kwp_iconst (pc := 15) dX4_readNumber_15 ic_1 ?_
  refine kwp_istore (pc := 16) (ls2 := [(4, .inl 1), (3, .inl z3), (2, .inl r2), (0, .inr (.inr (4, 0))), (1, .inl x1)]) dX4_readNumber_16 (by decide) rfl ?_
  refine kwp_sub [3, 4, 2, 1, 0] rfl ?_
  exact h

set_option maxRecDepth 20000 in
theorem bX4_readNumber_18 {l : Launch} {g : va_G × (Nat → ClassId) × (Nat → Nat → Nat)} (x1 : Int32) (x2 : Int32) (x3 : Int32) (x4 : Int32) (M : kM) (Q : Int32 → kM → Prop)
    (h : ((x2 < 0 → kWP l (rg_x, g) mX4_readNumber 92 [(0, .inr (.inr (4, 0))), (1, .inl x1), (2, .inl x2), (3, .inl x3)] [] M (kqi Q)) ∧ (¬ x2 < 0 → ((3 ≤ x4 → kWP l (rg_x, g) mX4_readNumber 92 [(0, .inr (.inr (4, 0))), (1, .inl x1), (2, .inl x2), (3, .inl x3)] [] M (kqi Q)) ∧ (¬ 3 ≤ x4 → (((M.1 4 0 2) ≤ (M.1 4 0 3) → kWP l (rg_x, g) mX4_readNumber 92 [(0, .inr (.inr (4, 0))), (1, .inl x1), (2, .inl x2), (3, .inl x3)] [] M (kqi Q)) ∧ (¬ (M.1 4 0 2) ≤ (M.1 4 0 3) → vp_in (M.1 4 0 3) 90 ∧ (kCT l (rg_x, g) mX5_within [.inl (M.1 17 0 (M.1 4 0 3).toNatClampNeg), .inl 48, .inl 57] M (kqi (fun r2 M1 => ((r2 = 0 → kWP l (rg_x, g) mX4_readNumber 92 [(0, .inr (.inr (4, 0))), (1, .inl x1), (2, .inl x2), (3, .inl x3)] [] M1 (kqi Q)) ∧ (¬ r2 = 0 → vp_in (M1.1 4 0 3) 90 ∧ (∀ z3 : Int32, z3 = (((10 : Int32) * x2) + (M1.1 17 0 (M1.1 4 0 3).toNatClampNeg)) - 48 → ∀ M4 : kM, M4 = ku M1 4 0 3 ((M1.1 4 0 3) + 1) → ∀ z5 : Int32, z5 = x4 + 1 → kWP l (rg_x, g) mX4_readNumber 18 [(0, .inr (.inr (4, 0))), (1, .inl x1), (2, .inl z3), (3, .inl x3), (4, .inl z5)] [] M4 (kqi Q)))))))))))))) :
    kWP l (rg_x, g) mX4_readNumber 18 [(0, .inr (.inr (4, 0))), (1, .inl x1), (2, .inl x2), (3, .inl x3), (4, .inl x4)] [] M (kqi Q) := by
  refine kwp_iload_n (pc := 18) 2 rfl dX4_readNumber_18 rfl ?_
  refine kwp_if_lt (pc := 19) 92 dX4_readNumber_19 (by decide) (fun hc => ?_) (fun hc => ?_)
  · have h := h.1 hc
    refine kwp_sub [0, 1, 2, 3] rfl ?_
    exact h
  · have h := h.2 hc
    refine kwp_iload (pc := 22) 4 rfl dX4_readNumber_22 ?_
    refine kwp_iconst (pc := 24) dX4_readNumber_24 ic_3 ?_
    refine kwp_icmp_ge (pc := 25) 92 dX4_readNumber_25 (by decide) (fun hc => ?_) (fun hc => ?_)
    · have h := h.1 hc
      refine kwp_sub [0, 1, 2, 3] rfl ?_
      exact h
    · have h := h.2 hc
      refine kwp_aload_n (pc := 28) 0 rfl dX4_readNumber_28 rfl ?_
      refine kwp_geti (pc := 29) fl_X4_26 rfl rfl dX4_readNumber_29 ?_
      refine kwp_aload_n (pc := 32) 0 rfl dX4_readNumber_32 rfl ?_
      refine kwp_geti (pc := 33) fl_X4_22 rfl rfl dX4_readNumber_33 ?_
      refine kwp_icmp_ge (pc := 36) 92 dX4_readNumber_36 (by decide) (fun hc => ?_) (fun hc => ?_)
      · have h := h.1 hc
        refine kwp_sub [0, 1, 2, 3] rfl ?_
        exact h
      · have h := h.2 hc
        refine kwp_aload_n (pc := 39) 0 rfl dX4_readNumber_39 rfl ?_
        refine kwp_getc (pc := 40) fl_X4_18 rfl rfl dX4_readNumber_40 ?_
        refine kwp_aload_n (pc := 43) 0 rfl dX4_readNumber_43 rfl ?_
        refine kwp_geti (pc := 44) fl_X4_26 rfl rfl dX4_readNumber_44 ?_
        obtain ⟨hin, h⟩ := h
        refine kwp_iald (pc := 47) rfl hin dX4_readNumber_47 ?_
        refine kwp_bipush (pc := 48) dX4_readNumber_48 bp_48 ?_
        refine kwp_bipush (pc := 50) dX4_readNumber_50 bp_57 ?_
        refine kwp_callN (pc := 52) (Y := mX5_within) (host := RX5) (vs := [.inl (M.1 17 0 (M.1 4 0 3).toNatClampNeg), .inl 48, .inl 57]) (rest := []) fm_X5_within fs_X5_within (by decide +kernel) (by decide) rfl rfl (by simp [kcat]) dX4_readNumber_52 ?_
        refine kCT.mono h (fun v M1 h => ?_)
        obtain ⟨r2, rfl, h⟩ := h
        change kWP l (rg_x, g) mX4_readNumber 55 [(0, .inr (.inr (4, 0))), (1, .inl x1), (2, .inl x2), (3, .inl x3), (4, .inl x4)] [.inl r2] M1 (kqi Q)
        refine kwp_if_eq (pc := 55) 92 dX4_readNumber_55 (by decide) (fun hc => ?_) (fun hc => ?_)
        · have h := h.1 hc
          refine kwp_sub [0, 1, 2, 3] rfl ?_
          exact h
        · have h := h.2 hc
          refine kwp_bipush (pc := 58) dX4_readNumber_58 bp_10 ?_
          refine kwp_iload_n (pc := 60) 2 rfl dX4_readNumber_60 rfl ?_
          refine kwp_imul (pc := 61) dX4_readNumber_61 ?_
          refine kwp_aload_n (pc := 62) 0 rfl dX4_readNumber_62 rfl ?_
          refine kwp_getc (pc := 63) fl_X4_18 rfl rfl dX4_readNumber_63 ?_
          refine kwp_aload_n (pc := 66) 0 rfl dX4_readNumber_66 rfl ?_
          refine kwp_geti (pc := 67) fl_X4_26 rfl rfl dX4_readNumber_67 ?_
          obtain ⟨hin, h⟩ := h
          refine kwp_iald (pc := 70) rfl hin dX4_readNumber_70 ?_
          refine kwp_iadd (pc := 71) dX4_readNumber_71 ?_
          refine kwp_bipush (pc := 72) dX4_readNumber_72 bp_48 ?_
          refine kwp_isub (pc := 74) dX4_readNumber_74 ?_
          obtain ⟨z3, ez3⟩ : ∃ z : Int32, z = (((10 : Int32) * x2) + (M1.1 17 0 (M1.1 4 0 3).toNatClampNeg)) - 48 := ⟨_, rfl⟩
          rw [← ez3]
          have h := h z3 ez3
          refine kwp_istore_n (pc := 75) (ls2 := [(2, .inl z3), (0, .inr (.inr (4, 0))), (1, .inl x1), (3, .inl x3), (4, .inl x4)]) dX4_readNumber_75 rfl (by decide) rfl ?_
          refine kwp_aload_n (pc := 76) 1 rfl dX4_readNumber_76 rfl ?_
          refine kwp_dup (pc := 77) dX4_readNumber_77 rfl ?_
          refine kwp_geti (pc := 78) fl_X4_26 rfl rfl dX4_readNumber_78 ?_
          refine kwp_iconst (pc := 81) dX4_readNumber_81 ic_1 ?_
          refine kwp_iadd (pc := 82) dX4_readNumber_82 ?_
          refine kwp_put (pc := 83) fp_X4_26 rfl rfl trivial dX4_readNumber_83 ?_
          obtain ⟨M4, eM4⟩ : ∃ z : kM, z = ku M1 4 0 3 ((M1.1 4 0 3) + 1) := ⟨_, rfl⟩
          rw [← eM4]
          have h := h M4 eM4
          obtain ⟨z5, ez5⟩ : ∃ z : Int32, z = x4 + 1 := ⟨_, rfl⟩
          have h := h z5 ez5
          refine kwp_iinc (pc := 86) (v := z5) (ls2 := [(4, .inl z5), (2, .inl z3), (0, .inr (.inr (4, 0))), (1, .inl x1), (3, .inl x3)]) 4 rfl dX4_readNumber_86 (by rw [ez5, ic_1]) (by decide) rfl ?_
          refine kwp_goto (pc := 89) 18 dX4_readNumber_89 (by decide) ?_
          refine kwp_sub [2, 3, 1, 4, 0] rfl ?_
          exact h

set_option maxRecDepth 20000 in
theorem bX4_readNumber_92 {l : Launch} {g : va_G × (Nat → ClassId) × (Nat → Nat → Nat)} (x1 : Int32) (x2 : Int32) (x3 : Int32) (M : kM) (Q : Int32 → kM → Prop)
    (h : ((x2 ≤ x1 → Q x2 M) ∧ (¬ x2 ≤ x1 → ∀ M1 : kM, M1 = ku M 4 0 3 x3 → Q (-1) M1))) :
    kWP l (rg_x, g) mX4_readNumber 92 [(0, .inr (.inr (4, 0))), (1, .inl x1), (2, .inl x2), (3, .inl x3)] [] M (kqi Q) := by
  refine kwp_iload_n (pc := 92) 2 rfl dX4_readNumber_92 rfl ?_
  refine kwp_iload_n (pc := 93) 1 rfl dX4_readNumber_93 rfl ?_
  refine kwp_icmp_le (pc := 94) 104 dX4_readNumber_94 (by decide) (fun hc => ?_) (fun hc => ?_)
  · have h := h.1 hc
    refine kwp_iload_n (pc := 104) 2 rfl dX4_readNumber_104 rfl ?_
    exact kwp_iret (pc := 105) rfl dX4_readNumber_105 ⟨_, rfl, h⟩
  · have h := h.2 hc
    refine kwp_aload_n (pc := 97) 0 rfl dX4_readNumber_97 rfl ?_
    refine kwp_iload_n (pc := 98) 3 rfl dX4_readNumber_98 rfl ?_
    refine kwp_put (pc := 99) fp_X4_26 rfl rfl trivial dX4_readNumber_99 ?_
    obtain ⟨M1, eM1⟩ : ∃ z : kM, z = ku M 4 0 3 x3 := ⟨_, rfl⟩
    rw [← eM1]
    have h := h M1 eM1
    refine kwp_iconst (pc := 102) dX4_readNumber_102 ic_m1 ?_
    exact kwp_iret (pc := 103) rfl dX4_readNumber_103 ⟨_, rfl, h⟩

set_option maxRecDepth 20000 in
theorem bX4_takes_0 {l : Launch} {g : va_G × (Nat → ClassId) × (Nat → Nat → Nat)} (x1 : Int32) (M : kM) (Q : Int32 → kM → Prop)
    (h : kCT l (rg_x, g) mX4_letterHere [.inr (.inr (4, 0))] M (kqi (fun r2 M1 => ((r2 = x1 → ∀ M3 : kM, M3 = ku M1 4 0 3 ((M1.1 4 0 3) + 1) → Q 1 M3) ∧ (¬ r2 = x1 → Q 0 M1))))) :
    kWP l (rg_x, g) mX4_takes 0 [(0, .inr (.inr (4, 0))), (1, .inl x1)] [] M (kqi Q) := by
  refine kwp_aload_n (pc := 0) 0 rfl dX4_takes_0 rfl ?_
  refine kwp_callV (pc := 1) (Y := mX4_letterHere) (vs := []) (rest := []) fm_X4_letterHere fi_X4_letterHere ml_X4_60 (by decide) rfl rfl rfl rfl (by simp [kcat]) dX4_takes_1 ?_
  refine kCT.mono h (fun v M1 h => ?_)
  obtain ⟨r2, rfl, h⟩ := h
  change kWP l (rg_x, g) mX4_takes 4 [(0, .inr (.inr (4, 0))), (1, .inl x1)] [.inl r2] M1 (kqi Q)
  refine kwp_iload_n (pc := 4) 1 rfl dX4_takes_4 rfl ?_
  refine kwp_icmp_eq (pc := 5) 10 dX4_takes_5 (by decide) (fun hc => ?_) (fun hc => ?_)
  · have h := h.1 hc
    refine kwp_aload_n (pc := 10) 0 rfl dX4_takes_10 rfl ?_
    refine kwp_dup (pc := 11) dX4_takes_11 rfl ?_
    refine kwp_geti (pc := 12) fl_X4_26 rfl rfl dX4_takes_12 ?_
    refine kwp_iconst (pc := 15) dX4_takes_15 ic_1 ?_
    refine kwp_iadd (pc := 16) dX4_takes_16 ?_
    refine kwp_put (pc := 17) fp_X4_26 rfl rfl trivial dX4_takes_17 ?_
    obtain ⟨M3, eM3⟩ : ∃ z : kM, z = ku M1 4 0 3 ((M1.1 4 0 3) + 1) := ⟨_, rfl⟩
    rw [← eM3]
    have h := h M3 eM3
    refine kwp_iconst (pc := 20) dX4_takes_20 ic_1 ?_
    exact kwp_zret (pc := 21) rfl (by decide) dX4_takes_21 ⟨_, rfl, h⟩
  · have h := h.2 hc
    refine kwp_iconst (pc := 8) dX4_takes_8 ic_0 ?_
    exact kwp_zret (pc := 9) rfl (by decide) dX4_takes_9 ⟨_, rfl, h⟩

set_option maxRecDepth 20000 in
theorem bX4_letterHere_0 {l : Launch} {g : va_G × (Nat → ClassId) × (Nat → Nat → Nat)}  (M : kM) (Q : Int32 → kM → Prop)
    (h : (((M.1 4 0 2) ≤ (M.1 4 0 3) → kWP l (rg_x, g) mX4_letterHere 38 [(0, .inr (.inr (4, 0)))] [] M (kqi Q)) ∧ (¬ (M.1 4 0 2) ≤ (M.1 4 0 3) → vp_in (M.1 4 0 3) 90 ∧ (((¬ (M.1 17 0 (M.1 4 0 3).toNatClampNeg) = 32 → kWP l (rg_x, g) mX4_letterHere 38 [(0, .inr (.inr (4, 0)))] [] M (kqi Q)) ∧ ((M.1 17 0 (M.1 4 0 3).toNatClampNeg) = 32 → ∀ M1 : kM, M1 = ku M 4 0 3 ((M.1 4 0 3) + 1) → kWP l (rg_x, g) mX4_letterHere 0 [(0, .inr (.inr (4, 0)))] [] M1 (kqi Q))))))) :
    kWP l (rg_x, g) mX4_letterHere 0 [(0, .inr (.inr (4, 0)))] [] M (kqi Q) := by
  refine kwp_aload_n (pc := 0) 0 rfl dX4_letterHere_0 rfl ?_
  refine kwp_geti (pc := 1) fl_X4_26 rfl rfl dX4_letterHere_1 ?_
  refine kwp_aload_n (pc := 4) 0 rfl dX4_letterHere_4 rfl ?_
  refine kwp_geti (pc := 5) fl_X4_22 rfl rfl dX4_letterHere_5 ?_
  refine kwp_icmp_ge (pc := 8) 38 dX4_letterHere_8 (by decide) (fun hc => ?_) (fun hc => ?_)
  · have h := h.1 hc
    exact h
  · have h := h.2 hc
    refine kwp_aload_n (pc := 11) 0 rfl dX4_letterHere_11 rfl ?_
    refine kwp_getc (pc := 12) fl_X4_18 rfl rfl dX4_letterHere_12 ?_
    refine kwp_aload_n (pc := 15) 0 rfl dX4_letterHere_15 rfl ?_
    refine kwp_geti (pc := 16) fl_X4_26 rfl rfl dX4_letterHere_16 ?_
    obtain ⟨hin, h⟩ := h
    refine kwp_iald (pc := 19) rfl hin dX4_letterHere_19 ?_
    refine kwp_bipush (pc := 20) dX4_letterHere_20 bp_32 ?_
    refine kwp_icmp_ne (pc := 22) 38 dX4_letterHere_22 (by decide) (fun hc => ?_) (fun hc => ?_)
    · have h := h.1 hc
      exact h
    · have h := h.2 hc
      refine kwp_aload_n (pc := 25) 0 rfl dX4_letterHere_25 rfl ?_
      refine kwp_dup (pc := 26) dX4_letterHere_26 rfl ?_
      refine kwp_geti (pc := 27) fl_X4_26 rfl rfl dX4_letterHere_27 ?_
      refine kwp_iconst (pc := 30) dX4_letterHere_30 ic_1 ?_
      refine kwp_iadd (pc := 31) dX4_letterHere_31 ?_
      refine kwp_put (pc := 32) fp_X4_26 rfl rfl trivial dX4_letterHere_32 ?_
      obtain ⟨M1, eM1⟩ : ∃ z : kM, z = ku M 4 0 3 ((M.1 4 0 3) + 1) := ⟨_, rfl⟩
      rw [← eM1]
      have h := h M1 eM1
      refine kwp_goto (pc := 35) 0 dX4_letterHere_35 (by decide) ?_
      exact h

set_option maxRecDepth 20000 in
theorem bX4_letterHere_38 {l : Launch} {g : va_G × (Nat → ClassId) × (Nat → Nat → Nat)}  (M : kM) (Q : Int32 → kM → Prop)
    (h : (((M.1 4 0 2) ≤ (M.1 4 0 3) → kWP l (rg_x, g) mX4_letterHere 62 [] [.inl 0] M (kqi Q)) ∧ (¬ (M.1 4 0 2) ≤ (M.1 4 0 3) → vp_in (M.1 4 0 3) 90 ∧ (kWP l (rg_x, g) mX4_letterHere 62 [] [.inl (M.1 17 0 (M.1 4 0 3).toNatClampNeg)] M (kqi Q))))) :
    kWP l (rg_x, g) mX4_letterHere 38 [(0, .inr (.inr (4, 0)))] [] M (kqi Q) := by
  refine kwp_aload_n (pc := 38) 0 rfl dX4_letterHere_38 rfl ?_
  refine kwp_geti (pc := 39) fl_X4_26 rfl rfl dX4_letterHere_39 ?_
  refine kwp_aload_n (pc := 42) 0 rfl dX4_letterHere_42 rfl ?_
  refine kwp_geti (pc := 43) fl_X4_22 rfl rfl dX4_letterHere_43 ?_
  refine kwp_icmp_ge (pc := 46) 61 dX4_letterHere_46 (by decide) (fun hc => ?_) (fun hc => ?_)
  · have h := h.1 hc
    refine kwp_iconst (pc := 61) dX4_letterHere_61 ic_0 ?_
    refine kwp_sub [] rfl ?_
    exact h
  · have h := h.2 hc
    refine kwp_aload_n (pc := 49) 0 rfl dX4_letterHere_49 rfl ?_
    refine kwp_getc (pc := 50) fl_X4_18 rfl rfl dX4_letterHere_50 ?_
    refine kwp_aload_n (pc := 53) 0 rfl dX4_letterHere_53 rfl ?_
    refine kwp_geti (pc := 54) fl_X4_26 rfl rfl dX4_letterHere_54 ?_
    obtain ⟨hin, h⟩ := h
    refine kwp_iald (pc := 57) rfl hin dX4_letterHere_57 ?_
    refine kwp_goto (pc := 58) 62 dX4_letterHere_58 (by decide) ?_
    refine kwp_sub [] rfl ?_
    exact h

set_option maxRecDepth 20000 in
theorem bX4_letterHere_62 {l : Launch} {g : va_G × (Nat → ClassId) × (Nat → Nat → Nat)} (s0 : Int32) (M : kM) (Q : Int32 → kM → Prop)
    (h : Q s0 M) :
    kWP l (rg_x, g) mX4_letterHere 62 [] [.inl s0] M (kqi Q) := by
  exact kwp_iret (pc := 62) rfl dX4_letterHere_62 ⟨_, rfl, h⟩

set_option maxRecDepth 20000 in
theorem bX4_kindOf_0 {l : Launch} {g : va_G × (Nat → ClassId) × (Nat → Nat → Nat)} (x0 : Int32) (M : kM) (Q : Int32 → kM → Prop)
    (h : ((x0 = 98 → Q 3 M) ∧ (x0 = 111 → Q 2 M) ∧ (x0 = 112 → Q 0 M) ∧ (x0 = 114 → Q 4 M) ∧ (x0 = 115 → Q 1 M) ∧ (¬ x0 = 98 → ¬ x0 = 111 → ¬ x0 = 112 → ¬ x0 = 114 → ¬ x0 = 115 → Q (-1) M))) :
    kWP l (rg_x, g) mX4_kindOf 0 [(0, .inl x0)] [] M (kqi Q) := by
  refine kwp_iload_n (pc := 0) 0 rfl dX4_kindOf_0 rfl ?_
  by_cases c0 : x0 = 98
  · refine kwp_lsw (pc := 1) 58 dX4_kindOf_1 (by decide) (off := 57) (by rw [c0]; decide) (by decide) ?_
    have h := h.1 c0
    refine kwp_iconst (pc := 58) dX4_kindOf_58 ic_3 ?_
    exact kwp_iret (pc := 59) rfl dX4_kindOf_59 ⟨_, rfl, h⟩
  · have h := h.2
    by_cases c1 : x0 = 111
    · refine kwp_lsw (pc := 1) 56 dX4_kindOf_1 (by decide) (off := 55) (by rw [c1]; decide) (by decide) ?_
      have h := h.1 c1
      refine kwp_iconst (pc := 56) dX4_kindOf_56 ic_2 ?_
      exact kwp_iret (pc := 57) rfl dX4_kindOf_57 ⟨_, rfl, h⟩
    · have h := h.2
      by_cases c2 : x0 = 112
      · refine kwp_lsw (pc := 1) 52 dX4_kindOf_1 (by decide) (off := 51) (by rw [c2]; decide) (by decide) ?_
        have h := h.1 c2
        refine kwp_iconst (pc := 52) dX4_kindOf_52 ic_0 ?_
        exact kwp_iret (pc := 53) rfl dX4_kindOf_53 ⟨_, rfl, h⟩
      · have h := h.2
        by_cases c3 : x0 = 114
        · refine kwp_lsw (pc := 1) 60 dX4_kindOf_1 (by decide) (off := 59) (by rw [c3]; decide) (by decide) ?_
          have h := h.1 c3
          refine kwp_iconst (pc := 60) dX4_kindOf_60 ic_4 ?_
          exact kwp_iret (pc := 61) rfl dX4_kindOf_61 ⟨_, rfl, h⟩
        · have h := h.2
          by_cases c4 : x0 = 115
          · refine kwp_lsw (pc := 1) 54 dX4_kindOf_1 (by decide) (off := 53) (by rw [c4]; decide) (by decide) ?_
            have h := h.1 c4
            refine kwp_iconst (pc := 54) dX4_kindOf_54 ic_1 ?_
            exact kwp_iret (pc := 55) rfl dX4_kindOf_55 ⟨_, rfl, h⟩
          · have h := h.2
            have h := h c0 c1 c2 c3 c4
            refine kwp_lsw (pc := 1) 62 dX4_kindOf_1 (by decide) (off := 61) (by rw [lv_osw c0 (by decide)]; rw [lv_osw c1 (by decide)]; rw [lv_osw c2 (by decide)]; rw [lv_osw c3 (by decide)]; rw [lv_osw c4 (by decide)]; rfl) (by decide) ?_
            refine kwp_iconst (pc := 62) dX4_kindOf_62 ic_m1 ?_
            exact kwp_iret (pc := 63) rfl dX4_kindOf_63 ⟨_, rfl, h⟩
