set_option maxRecDepth 20000 in
theorem bX5_stage_0 {l : Launch} {g : va_G × (Nat → ClassId) × (Nat → Nat → Nat)} (x1 : Int32) (x2 : Int32) (x3 : Int32) (M : kM) (Q : Int32 → kM → Prop)
    (h : kCT l (rg_x, g) mX5_within [.inl x1, .inl 1, .inl 9] M (kqi (fun r2 M1 => ((r2 = 0 → kWP l (rg_x, g) mX5_stage 29 [] [] M1 (kqi Q)) ∧ (¬ r2 = 0 → kCT l (rg_x, g) mX5_within [.inl x2, .inl 0, .inl 9] M1 (kqi (fun r4 M3 => ((r4 = 0 → kWP l (rg_x, g) mX5_stage 29 [] [] M3 (kqi Q)) ∧ (¬ r4 = 0 → kCT l (rg_x, g) mX5_within [.inl x3, .inl 0, .inl 4] M3 (kqi (fun r6 M5 => ((¬ r6 = 0 → (((M5.1 1 0 0) < 8 → kCT l (rg_x, g) mX2_forget [.inr (.inr (2, 0))] M5 (kqv (fun M7 => kCT l (rg_x, g) mX3_addStage [.inr (.inr (1, 0)), .inl x1, .inl x2, .inl x3] M7 (kqi (fun r9 M8 => Q r9 M8))))) ∧ (¬ (M5.1 1 0 0) < 8 → Q (-3) M5))) ∧ (r6 = 0 → kWP l (rg_x, g) mX5_stage 29 [] [] M5 (kqi Q)))))))))))))) :
    kWP l (rg_x, g) mX5_stage 0 [(0, .inr (.inr (0, 0))), (1, .inl x1), (2, .inl x2), (3, .inl x3)] [] M (kqi Q) := by
  refine kwp_iload_n (pc := 0) 1 rfl dX5_stage_0 rfl ?_
  refine kwp_iconst (pc := 1) dX5_stage_1 ic_1 ?_
  refine kwp_bipush (pc := 2) dX5_stage_2 bp_9 ?_
  refine kwp_callS (pc := 4) (Y := mX5_within) (vs := [.inl x1, .inl 1, .inl 9]) (rest := []) fm_X5_within fs_X5_within ml_X5_61 (by decide) rfl rfl (by simp [kcat]) dX5_stage_4 ?_
  refine kCT.mono h (fun v M1 h => ?_)
  obtain ⟨r2, rfl, h⟩ := h
  change kWP l (rg_x, g) mX5_stage 7 [(0, .inr (.inr (0, 0))), (1, .inl x1), (2, .inl x2), (3, .inl x3)] [.inl r2] M1 (kqi Q)
  refine kwp_if_eq (pc := 7) 29 dX5_stage_7 (by decide) (fun hc => ?_) (fun hc => ?_)
  · have h := h.1 hc
    refine kwp_sub [] rfl ?_
    exact h
  · have h := h.2 hc
    refine kwp_iload_n (pc := 10) 2 rfl dX5_stage_10 rfl ?_
    refine kwp_iconst (pc := 11) dX5_stage_11 ic_0 ?_
    refine kwp_bipush (pc := 12) dX5_stage_12 bp_9 ?_
    refine kwp_callS (pc := 14) (Y := mX5_within) (vs := [.inl x2, .inl 0, .inl 9]) (rest := []) fm_X5_within fs_X5_within ml_X5_61 (by decide) rfl rfl (by simp [kcat]) dX5_stage_14 ?_
    refine kCT.mono h (fun v M3 h => ?_)
    obtain ⟨r4, rfl, h⟩ := h
    change kWP l (rg_x, g) mX5_stage 17 [(0, .inr (.inr (0, 0))), (1, .inl x1), (2, .inl x2), (3, .inl x3)] [.inl r4] M3 (kqi Q)
    refine kwp_if_eq (pc := 17) 29 dX5_stage_17 (by decide) (fun hc => ?_) (fun hc => ?_)
    · have h := h.1 hc
      refine kwp_sub [] rfl ?_
      exact h
    · have h := h.2 hc
      refine kwp_iload_n (pc := 20) 3 rfl dX5_stage_20 rfl ?_
      refine kwp_iconst (pc := 21) dX5_stage_21 ic_0 ?_
      refine kwp_iconst (pc := 22) dX5_stage_22 ic_4 ?_
      refine kwp_callS (pc := 23) (Y := mX5_within) (vs := [.inl x3, .inl 0, .inl 4]) (rest := []) fm_X5_within fs_X5_within ml_X5_61 (by decide) rfl rfl (by simp [kcat]) dX5_stage_23 ?_
      refine kCT.mono h (fun v M5 h => ?_)
      obtain ⟨r6, rfl, h⟩ := h
      change kWP l (rg_x, g) mX5_stage 26 [(0, .inr (.inr (0, 0))), (1, .inl x1), (2, .inl x2), (3, .inl x3)] [.inl r6] M5 (kqi Q)
      refine kwp_if_ne (pc := 26) 31 dX5_stage_26 (by decide) (fun hc => ?_) (fun hc => ?_)
      · have h := h.1 hc
        refine kwp_aload_n (pc := 31) 0 rfl dX5_stage_31 rfl ?_
        refine kwp_getc (pc := 32) fl_X5_10 rfl rfl dX5_stage_32 ?_
        refine kwp_geti (pc := 35) fl_X5_65 rfl rfl dX5_stage_35 ?_
        refine kwp_bipush (pc := 38) dX5_stage_38 bp_8 ?_
        refine kwp_icmp_lt (pc := 40) 46 dX5_stage_40 (by decide) (fun hc => ?_) (fun hc => ?_)
        · have h := h.1 hc
          refine kwp_aload_n (pc := 46) 0 rfl dX5_stage_46 rfl ?_
          refine kwp_getc (pc := 47) fl_X5_19 rfl rfl dX5_stage_47 ?_
          refine kwp_callV (pc := 50) (Y := mX2_forget) (vs := []) (rest := []) fm_X2_forget fi_X2_forget ml_X5_69 (by decide) rfl rfl rfl rfl (by simp [kcat]) dX5_stage_50 ?_
          refine kCT.mono h (fun v M7 h => ?_)
          obtain ⟨rfl, h⟩ := h
          change kWP l (rg_x, g) mX5_stage 53 [(0, .inr (.inr (0, 0))), (1, .inl x1), (2, .inl x2), (3, .inl x3)] [] M7 (kqi Q)
          refine kwp_aload_n (pc := 53) 0 rfl dX5_stage_53 rfl ?_
          refine kwp_getc (pc := 54) fl_X5_10 rfl rfl dX5_stage_54 ?_
          refine kwp_iload_n (pc := 57) 1 rfl dX5_stage_57 rfl ?_
          refine kwp_iload_n (pc := 58) 2 rfl dX5_stage_58 rfl ?_
          refine kwp_iload_n (pc := 59) 3 rfl dX5_stage_59 rfl ?_
          refine kwp_callV (pc := 60) (Y := mX3_addStage) (vs := [.inl x1, .inl x2, .inl x3]) (rest := []) fm_X3_addStage fi_X3_addStage ml_X5_72 (by decide) rfl rfl rfl rfl (by simp [kcat]) dX5_stage_60 ?_
          refine kCT.mono h (fun v M8 h => ?_)
          obtain ⟨r9, rfl, h⟩ := h
          change kWP l (rg_x, g) mX5_stage 63 [(0, .inr (.inr (0, 0))), (1, .inl x1), (2, .inl x2), (3, .inl x3)] [.inl r9] M8 (kqi Q)
          exact kwp_iret (pc := 63) rfl dX5_stage_63 ⟨_, rfl, h⟩
        · have h := h.2 hc
          refine kwp_bipush (pc := 43) dX5_stage_43 bp_m3 ?_
          exact kwp_iret (pc := 45) rfl dX5_stage_45 ⟨_, rfl, h⟩
      · have h := h.2 hc
        refine kwp_sub [] rfl ?_
        exact h

set_option maxRecDepth 20000 in
theorem bX5_stage_29 {l : Launch} {g : va_G × (Nat → ClassId) × (Nat → Nat → Nat)}  (M : kM) (Q : Int32 → kM → Prop)
    (h : Q (-1) M) :
    kWP l (rg_x, g) mX5_stage 29 [] [] M (kqi Q) := by
  refine kwp_iconst (pc := 29) dX5_stage_29 ic_m1 ?_
  exact kwp_iret (pc := 30) rfl dX5_stage_30 ⟨_, rfl, h⟩

set_option maxRecDepth 20000 in
theorem bX5_rider_0 {l : Launch} {g : va_G × (Nat → ClassId) × (Nat → Nat → Nat)} (x1 : Int32) (x2 : Int32) (x3 : Int32) (M : kM) (Q : Int32 → kM → Prop)
    (h : kCT l (rg_x, g) mX5_within [.inl x1, .inl 0, .inl 4] M (kqi (fun r2 M1 => ((r2 = 0 → kWP l (rg_x, g) mX5_rider 30 [] [] M1 (kqi Q)) ∧ (¬ r2 = 0 → kCT l (rg_x, g) mX5_within [.inl x2, .inl 0, .inl 999] M1 (kqi (fun r4 M3 => ((r4 = 0 → kWP l (rg_x, g) mX5_rider 30 [] [] M3 (kqi Q)) ∧ (¬ r4 = 0 → kCT l (rg_x, g) mX5_within [.inl x3, .inl 0, .inl 99] M3 (kqi (fun r6 M5 => ((¬ r6 = 0 → (((M5.1 1 0 1) < 4 → kCT l (rg_x, g) mX2_forget [.inr (.inr (2, 0))] M5 (kqv (fun M7 => kCT l (rg_x, g) mX3_addRider [.inr (.inr (1, 0)), .inl x1, .inl x2, .inl x3] M7 (kqi (fun r9 M8 => Q r9 M8))))) ∧ (¬ (M5.1 1 0 1) < 4 → Q (-3) M5))) ∧ (r6 = 0 → kWP l (rg_x, g) mX5_rider 30 [] [] M5 (kqi Q)))))))))))))) :
    kWP l (rg_x, g) mX5_rider 0 [(0, .inr (.inr (0, 0))), (1, .inl x1), (2, .inl x2), (3, .inl x3)] [] M (kqi Q) := by
  refine kwp_iload_n (pc := 0) 1 rfl dX5_rider_0 rfl ?_
  refine kwp_iconst (pc := 1) dX5_rider_1 ic_0 ?_
  refine kwp_iconst (pc := 2) dX5_rider_2 ic_4 ?_
  refine kwp_callS (pc := 3) (Y := mX5_within) (vs := [.inl x1, .inl 0, .inl 4]) (rest := []) fm_X5_within fs_X5_within ml_X5_61 (by decide) rfl rfl (by simp [kcat]) dX5_rider_3 ?_
  refine kCT.mono h (fun v M1 h => ?_)
  obtain ⟨r2, rfl, h⟩ := h
  change kWP l (rg_x, g) mX5_rider 6 [(0, .inr (.inr (0, 0))), (1, .inl x1), (2, .inl x2), (3, .inl x3)] [.inl r2] M1 (kqi Q)
  refine kwp_if_eq (pc := 6) 30 dX5_rider_6 (by decide) (fun hc => ?_) (fun hc => ?_)
  · have h := h.1 hc
    refine kwp_sub [] rfl ?_
    exact h
  · have h := h.2 hc
    refine kwp_iload_n (pc := 9) 2 rfl dX5_rider_9 rfl ?_
    refine kwp_iconst (pc := 10) dX5_rider_10 ic_0 ?_
    refine kwp_sipush (pc := 11) dX5_rider_11 sp_999 ?_
    refine kwp_callS (pc := 14) (Y := mX5_within) (vs := [.inl x2, .inl 0, .inl 999]) (rest := []) fm_X5_within fs_X5_within ml_X5_61 (by decide) rfl rfl (by simp [kcat]) dX5_rider_14 ?_
    refine kCT.mono h (fun v M3 h => ?_)
    obtain ⟨r4, rfl, h⟩ := h
    change kWP l (rg_x, g) mX5_rider 17 [(0, .inr (.inr (0, 0))), (1, .inl x1), (2, .inl x2), (3, .inl x3)] [.inl r4] M3 (kqi Q)
    refine kwp_if_eq (pc := 17) 30 dX5_rider_17 (by decide) (fun hc => ?_) (fun hc => ?_)
    · have h := h.1 hc
      refine kwp_sub [] rfl ?_
      exact h
    · have h := h.2 hc
      refine kwp_iload_n (pc := 20) 3 rfl dX5_rider_20 rfl ?_
      refine kwp_iconst (pc := 21) dX5_rider_21 ic_0 ?_
      refine kwp_bipush (pc := 22) dX5_rider_22 bp_99 ?_
      refine kwp_callS (pc := 24) (Y := mX5_within) (vs := [.inl x3, .inl 0, .inl 99]) (rest := []) fm_X5_within fs_X5_within ml_X5_61 (by decide) rfl rfl (by simp [kcat]) dX5_rider_24 ?_
      refine kCT.mono h (fun v M5 h => ?_)
      obtain ⟨r6, rfl, h⟩ := h
      change kWP l (rg_x, g) mX5_rider 27 [(0, .inr (.inr (0, 0))), (1, .inl x1), (2, .inl x2), (3, .inl x3)] [.inl r6] M5 (kqi Q)
      refine kwp_if_ne (pc := 27) 32 dX5_rider_27 (by decide) (fun hc => ?_) (fun hc => ?_)
      · have h := h.1 hc
        refine kwp_aload_n (pc := 32) 0 rfl dX5_rider_32 rfl ?_
        refine kwp_getc (pc := 33) fl_X5_10 rfl rfl dX5_rider_33 ?_
        refine kwp_geti (pc := 36) fl_X5_76 rfl rfl dX5_rider_36 ?_
        refine kwp_iconst (pc := 39) dX5_rider_39 ic_4 ?_
        refine kwp_icmp_lt (pc := 40) 46 dX5_rider_40 (by decide) (fun hc => ?_) (fun hc => ?_)
        · have h := h.1 hc
          refine kwp_aload_n (pc := 46) 0 rfl dX5_rider_46 rfl ?_
          refine kwp_getc (pc := 47) fl_X5_19 rfl rfl dX5_rider_47 ?_
          refine kwp_callV (pc := 50) (Y := mX2_forget) (vs := []) (rest := []) fm_X2_forget fi_X2_forget ml_X5_69 (by decide) rfl rfl rfl rfl (by simp [kcat]) dX5_rider_50 ?_
          refine kCT.mono h (fun v M7 h => ?_)
          obtain ⟨rfl, h⟩ := h
          change kWP l (rg_x, g) mX5_rider 53 [(0, .inr (.inr (0, 0))), (1, .inl x1), (2, .inl x2), (3, .inl x3)] [] M7 (kqi Q)
          refine kwp_aload_n (pc := 53) 0 rfl dX5_rider_53 rfl ?_
          refine kwp_getc (pc := 54) fl_X5_10 rfl rfl dX5_rider_54 ?_
          refine kwp_iload_n (pc := 57) 1 rfl dX5_rider_57 rfl ?_
          refine kwp_iload_n (pc := 58) 2 rfl dX5_rider_58 rfl ?_
          refine kwp_iload_n (pc := 59) 3 rfl dX5_rider_59 rfl ?_
          refine kwp_callV (pc := 60) (Y := mX3_addRider) (vs := [.inl x1, .inl x2, .inl x3]) (rest := []) fm_X3_addRider fi_X3_addRider ml_X5_79 (by decide) rfl rfl rfl rfl (by simp [kcat]) dX5_rider_60 ?_
          refine kCT.mono h (fun v M8 h => ?_)
          obtain ⟨r9, rfl, h⟩ := h
          change kWP l (rg_x, g) mX5_rider 63 [(0, .inr (.inr (0, 0))), (1, .inl x1), (2, .inl x2), (3, .inl x3)] [.inl r9] M8 (kqi Q)
          exact kwp_iret (pc := 63) rfl dX5_rider_63 ⟨_, rfl, h⟩
        · have h := h.2 hc
          refine kwp_bipush (pc := 43) dX5_rider_43 bp_m3 ?_
          exact kwp_iret (pc := 45) rfl dX5_rider_45 ⟨_, rfl, h⟩
      · have h := h.2 hc
        refine kwp_sub [] rfl ?_
        exact h

set_option maxRecDepth 20000 in
theorem bX5_rider_30 {l : Launch} {g : va_G × (Nat → ClassId) × (Nat → Nat → Nat)}  (M : kM) (Q : Int32 → kM → Prop)
    (h : Q (-1) M) :
    kWP l (rg_x, g) mX5_rider 30 [] [] M (kqi Q) := by
  refine kwp_iconst (pc := 30) dX5_rider_30 ic_m1 ?_
  exact kwp_iret (pc := 31) rfl dX5_rider_31 ⟨_, rfl, h⟩

set_option maxRecDepth 20000 in
theorem bX5_of_0 {l : Launch} {g : va_G × (Nat → ClassId) × (Nat → Nat → Nat)} (x1 : Int32) (x2 : Int32) (M : kM) (Q : Int32 → kM → Prop)
    (h : kCT l (rg_x, g) mX5_within [.inl x1, .inl 0, .inl ((M.1 1 0 0) - 1)] M (kqi (fun r2 M1 => ((¬ r2 = 0 → ((x2 = 0 → vp_in x1 8 ∧ (Q (M1.1 7 0 x1.toNatClampNeg) M1)) ∧ (x2 = 1 → vp_in x1 8 ∧ (Q (M1.1 8 0 x1.toNatClampNeg) M1)) ∧ (x2 = 2 → vp_in x1 8 ∧ (Q (M1.1 9 0 x1.toNatClampNeg) M1)) ∧ (¬ x2 = 0 → ¬ x2 = 1 → ¬ x2 = 2 → Q (-1) M1))) ∧ (r2 = 0 → Q (-1) M1))))) :
    kWP l (rg_x, g) mX5_of 0 [(0, .inr (.inr (0, 0))), (1, .inl x1), (2, .inl x2)] [] M (kqi Q) := by
  refine kwp_iload_n (pc := 0) 1 rfl dX5_of_0 rfl ?_
  refine kwp_iconst (pc := 1) dX5_of_1 ic_0 ?_
  refine kwp_aload_n (pc := 2) 0 rfl dX5_of_2 rfl ?_
  refine kwp_getc (pc := 3) fl_X5_10 rfl rfl dX5_of_3 ?_
  refine kwp_geti (pc := 6) fl_X5_65 rfl rfl dX5_of_6 ?_
  refine kwp_iconst (pc := 9) dX5_of_9 ic_1 ?_
  refine kwp_isub (pc := 10) dX5_of_10 ?_
  refine kwp_callS (pc := 11) (Y := mX5_within) (vs := [.inl x1, .inl 0, .inl ((M.1 1 0 0) - 1)]) (rest := []) fm_X5_within fs_X5_within ml_X5_61 (by decide) rfl rfl (by simp [kcat]) dX5_of_11 ?_
  refine kCT.mono h (fun v M1 h => ?_)
  obtain ⟨r2, rfl, h⟩ := h
  change kWP l (rg_x, g) mX5_of 14 [(0, .inr (.inr (0, 0))), (1, .inl x1), (2, .inl x2)] [.inl r2] M1 (kqi Q)
  refine kwp_if_ne (pc := 14) 19 dX5_of_14 (by decide) (fun hc => ?_) (fun hc => ?_)
  · have h := h.1 hc
    refine kwp_iload_n (pc := 19) 2 rfl dX5_of_19 rfl ?_
    by_cases c0 : x2 = 0
    · refine kwp_tsIn (pc := 20) 48 dX5_of_20 (by rw [c0]; decide) (by rw [c0]; decide) (off := 28) (by rw [c0]; decide) (by decide) ?_
      have h := h.1 c0
      refine kwp_aload_n (pc := 48) 0 rfl dX5_of_48 rfl ?_
      refine kwp_getc (pc := 49) fl_X5_10 rfl rfl dX5_of_49 ?_
      refine kwp_getr (pc := 52) fl_X5_82 rfl rfl dX5_of_52 ?_
      refine kwp_iload_n (pc := 55) 1 rfl dX5_of_55 rfl ?_
      obtain ⟨hin, h⟩ := h
      refine kwp_iald (pc := 56) rfl hin dX5_of_56 ?_
      exact kwp_iret (pc := 57) rfl dX5_of_57 ⟨_, rfl, h⟩
    · have h := h.2
      by_cases c1 : x2 = 1
      · refine kwp_tsIn (pc := 20) 58 dX5_of_20 (by rw [c1]; decide) (by rw [c1]; decide) (off := 38) (by rw [c1]; decide) (by decide) ?_
        have h := h.1 c1
        refine kwp_aload_n (pc := 58) 0 rfl dX5_of_58 rfl ?_
        refine kwp_getc (pc := 59) fl_X5_10 rfl rfl dX5_of_59 ?_
        refine kwp_getr (pc := 62) fl_X5_85 rfl rfl dX5_of_62 ?_
        refine kwp_iload_n (pc := 65) 1 rfl dX5_of_65 rfl ?_
        obtain ⟨hin, h⟩ := h
        refine kwp_iald (pc := 66) rfl hin dX5_of_66 ?_
        exact kwp_iret (pc := 67) rfl dX5_of_67 ⟨_, rfl, h⟩
      · have h := h.2
        by_cases c2 : x2 = 2
        · refine kwp_tsIn (pc := 20) 68 dX5_of_20 (by rw [c2]; decide) (by rw [c2]; decide) (off := 48) (by rw [c2]; decide) (by decide) ?_
          have h := h.1 c2
          refine kwp_aload_n (pc := 68) 0 rfl dX5_of_68 rfl ?_
          refine kwp_getc (pc := 69) fl_X5_10 rfl rfl dX5_of_69 ?_
          refine kwp_getr (pc := 72) fl_X5_88 rfl rfl dX5_of_72 ?_
          refine kwp_iload_n (pc := 75) 1 rfl dX5_of_75 rfl ?_
          obtain ⟨hin, h⟩ := h
          refine kwp_iald (pc := 76) rfl hin dX5_of_76 ?_
          exact kwp_iret (pc := 77) rfl dX5_of_77 ⟨_, rfl, h⟩
        · have h := h.2
          have h := h c0 c1 c2
          refine kwp_tsOut (pc := 20) 78 dX5_of_20 (by have a0 := lv_neT c0 (a := 0) (by decide); have a1 := lv_neT c1 (a := 1) (by decide); have a2 := lv_neT c2 (a := 2) (by decide); omega) (by decide) ?_
          refine kwp_iconst (pc := 78) dX5_of_78 ic_m1 ?_
          exact kwp_iret (pc := 79) rfl dX5_of_79 ⟨_, rfl, h⟩
  · have h := h.2 hc
    refine kwp_iconst (pc := 17) dX5_of_17 ic_m1 ?_
    exact kwp_iret (pc := 18) rfl dX5_of_18 ⟨_, rfl, h⟩

set_option maxRecDepth 20000 in
theorem bX5_at_0 {l : Launch} {g : va_G × (Nat → ClassId) × (Nat → Nat → Nat)} (x1 : Int32) (x2 : Int32) (M : kM) (Q : Int32 → kM → Prop)
    (h : kCT l (rg_x, g) mX5_isRider [.inr (.inr (0, 0)), .inl x1] M (kqi (fun r2 M1 => ((¬ r2 = 0 → ((x2 = 0 → vp_in x1 4 ∧ (Q (M1.1 10 0 x1.toNatClampNeg) M1)) ∧ (x2 = 1 → vp_in x1 4 ∧ (Q (M1.1 11 0 x1.toNatClampNeg) M1)) ∧ (x2 = 2 → vp_in x1 4 ∧ (Q (M1.1 12 0 x1.toNatClampNeg) M1)) ∧ (x2 = 3 → vp_in x1 4 ∧ (Q (M1.1 13 0 x1.toNatClampNeg) M1)) ∧ (x2 = 4 → vp_in x1 4 ∧ (Q (M1.1 14 0 x1.toNatClampNeg) M1)) ∧ (x2 = 5 → kCT l (rg_x, g) mX5_stageTakes [.inr (.inr (0, 0)), .inl x1, .inl 1] M1 (kqi (fun r4 M3 => Q r4 M3))) ∧ (x2 = 6 → kCT l (rg_x, g) mX5_stageTakes [.inr (.inr (0, 0)), .inl x1, .inl 0] M1 (kqi (fun r6 M5 => Q r6 M5))) ∧ (¬ x2 = 0 → ¬ x2 = 1 → ¬ x2 = 2 → ¬ x2 = 3 → ¬ x2 = 4 → ¬ x2 = 5 → ¬ x2 = 6 → Q (-1) M1))) ∧ (r2 = 0 → Q (-1) M1))))) :
    kWP l (rg_x, g) mX5_at 0 [(0, .inr (.inr (0, 0))), (1, .inl x1), (2, .inl x2)] [] M (kqi Q) := by
  refine kwp_aload_n (pc := 0) 0 rfl dX5_at_0 rfl ?_
  refine kwp_iload_n (pc := 1) 1 rfl dX5_at_1 rfl ?_
  refine kwp_callV (pc := 2) (Y := mX5_isRider) (vs := [.inl x1]) (rest := []) fm_X5_isRider fi_X5_isRider ml_X5_91 (by decide) rfl rfl rfl rfl (by simp [kcat]) dX5_at_2 ?_
  refine kCT.mono h (fun v M1 h => ?_)
  obtain ⟨r2, rfl, h⟩ := h
  change kWP l (rg_x, g) mX5_at 5 [(0, .inr (.inr (0, 0))), (1, .inl x1), (2, .inl x2)] [.inl r2] M1 (kqi Q)
  refine kwp_if_ne (pc := 5) 10 dX5_at_5 (by decide) (fun hc => ?_) (fun hc => ?_)
  · have h := h.1 hc
    refine kwp_iload_n (pc := 10) 2 rfl dX5_at_10 rfl ?_
    by_cases c0 : x2 = 0
    · refine kwp_tsIn (pc := 11) 52 dX5_at_11 (by rw [c0]; decide) (by rw [c0]; decide) (off := 41) (by rw [c0]; decide) (by decide) ?_
      have h := h.1 c0
      refine kwp_aload_n (pc := 52) 0 rfl dX5_at_52 rfl ?_
      refine kwp_getc (pc := 53) fl_X5_10 rfl rfl dX5_at_53 ?_
      refine kwp_getr (pc := 56) fl_X5_95 rfl rfl dX5_at_56 ?_
      refine kwp_iload_n (pc := 59) 1 rfl dX5_at_59 rfl ?_
      obtain ⟨hin, h⟩ := h
      refine kwp_iald (pc := 60) rfl hin dX5_at_60 ?_
      exact kwp_iret (pc := 61) rfl dX5_at_61 ⟨_, rfl, h⟩
    · have h := h.2
      by_cases c1 : x2 = 1
      · refine kwp_tsIn (pc := 11) 62 dX5_at_11 (by rw [c1]; decide) (by rw [c1]; decide) (off := 51) (by rw [c1]; decide) (by decide) ?_
        have h := h.1 c1
        refine kwp_aload_n (pc := 62) 0 rfl dX5_at_62 rfl ?_
        refine kwp_getc (pc := 63) fl_X5_10 rfl rfl dX5_at_63 ?_
        refine kwp_getr (pc := 66) fl_X5_98 rfl rfl dX5_at_66 ?_
        refine kwp_iload_n (pc := 69) 1 rfl dX5_at_69 rfl ?_
        obtain ⟨hin, h⟩ := h
        refine kwp_iald (pc := 70) rfl hin dX5_at_70 ?_
        exact kwp_iret (pc := 71) rfl dX5_at_71 ⟨_, rfl, h⟩
      · have h := h.2
        by_cases c2 : x2 = 2
        · refine kwp_tsIn (pc := 11) 72 dX5_at_11 (by rw [c2]; decide) (by rw [c2]; decide) (off := 61) (by rw [c2]; decide) (by decide) ?_
          have h := h.1 c2
          refine kwp_aload_n (pc := 72) 0 rfl dX5_at_72 rfl ?_
          refine kwp_getc (pc := 73) fl_X5_10 rfl rfl dX5_at_73 ?_
          refine kwp_getr (pc := 76) fl_X5_101 rfl rfl dX5_at_76 ?_
          refine kwp_iload_n (pc := 79) 1 rfl dX5_at_79 rfl ?_
          obtain ⟨hin, h⟩ := h
          refine kwp_iald (pc := 80) rfl hin dX5_at_80 ?_
          exact kwp_iret (pc := 81) rfl dX5_at_81 ⟨_, rfl, h⟩
        · have h := h.2
          by_cases c3 : x2 = 3
          · refine kwp_tsIn (pc := 11) 82 dX5_at_11 (by rw [c3]; decide) (by rw [c3]; decide) (off := 71) (by rw [c3]; decide) (by decide) ?_
            have h := h.1 c3
            refine kwp_aload_n (pc := 82) 0 rfl dX5_at_82 rfl ?_
            refine kwp_getc (pc := 83) fl_X5_10 rfl rfl dX5_at_83 ?_
            refine kwp_getr (pc := 86) fl_X5_104 rfl rfl dX5_at_86 ?_
            refine kwp_iload_n (pc := 89) 1 rfl dX5_at_89 rfl ?_
            obtain ⟨hin, h⟩ := h
            refine kwp_iald (pc := 90) rfl hin dX5_at_90 ?_
            exact kwp_iret (pc := 91) rfl dX5_at_91 ⟨_, rfl, h⟩
          · have h := h.2
            by_cases c4 : x2 = 4
            · refine kwp_tsIn (pc := 11) 92 dX5_at_11 (by rw [c4]; decide) (by rw [c4]; decide) (off := 81) (by rw [c4]; decide) (by decide) ?_
              have h := h.1 c4
              refine kwp_aload_n (pc := 92) 0 rfl dX5_at_92 rfl ?_
              refine kwp_getc (pc := 93) fl_X5_10 rfl rfl dX5_at_93 ?_
              refine kwp_getr (pc := 96) fl_X5_107 rfl rfl dX5_at_96 ?_
              refine kwp_iload_n (pc := 99) 1 rfl dX5_at_99 rfl ?_
              obtain ⟨hin, h⟩ := h
              refine kwp_iald (pc := 100) rfl hin dX5_at_100 ?_
              exact kwp_iret (pc := 101) rfl dX5_at_101 ⟨_, rfl, h⟩
            · have h := h.2
              by_cases c5 : x2 = 5
              · refine kwp_tsIn (pc := 11) 102 dX5_at_11 (by rw [c5]; decide) (by rw [c5]; decide) (off := 91) (by rw [c5]; decide) (by decide) ?_
                have h := h.1 c5
                refine kwp_aload_n (pc := 102) 0 rfl dX5_at_102 rfl ?_
                refine kwp_iload_n (pc := 103) 1 rfl dX5_at_103 rfl ?_
                refine kwp_iconst (pc := 104) dX5_at_104 ic_1 ?_
                refine kwp_callV (pc := 105) (Y := mX5_stageTakes) (vs := [.inl x1, .inl 1]) (rest := []) fm_X5_stageTakes fi_X5_stageTakes ml_X5_110 (by decide) rfl rfl rfl rfl (by simp [kcat]) dX5_at_105 ?_
                refine kCT.mono h (fun v M3 h => ?_)
                obtain ⟨r4, rfl, h⟩ := h
                change kWP l (rg_x, g) mX5_at 108 [(0, .inr (.inr (0, 0))), (1, .inl x1), (2, .inl x2)] [.inl r4] M3 (kqi Q)
                exact kwp_iret (pc := 108) rfl dX5_at_108 ⟨_, rfl, h⟩
              · have h := h.2
                by_cases c6 : x2 = 6
                · refine kwp_tsIn (pc := 11) 109 dX5_at_11 (by rw [c6]; decide) (by rw [c6]; decide) (off := 98) (by rw [c6]; decide) (by decide) ?_
                  have h := h.1 c6
                  refine kwp_aload_n (pc := 109) 0 rfl dX5_at_109 rfl ?_
                  refine kwp_iload_n (pc := 110) 1 rfl dX5_at_110 rfl ?_
                  refine kwp_iconst (pc := 111) dX5_at_111 ic_0 ?_
                  refine kwp_callV (pc := 112) (Y := mX5_stageTakes) (vs := [.inl x1, .inl 0]) (rest := []) fm_X5_stageTakes fi_X5_stageTakes ml_X5_110 (by decide) rfl rfl rfl rfl (by simp [kcat]) dX5_at_112 ?_
                  refine kCT.mono h (fun v M5 h => ?_)
                  obtain ⟨r6, rfl, h⟩ := h
                  change kWP l (rg_x, g) mX5_at 115 [(0, .inr (.inr (0, 0))), (1, .inl x1), (2, .inl x2)] [.inl r6] M5 (kqi Q)
                  exact kwp_iret (pc := 115) rfl dX5_at_115 ⟨_, rfl, h⟩
                · have h := h.2
                  have h := h c0 c1 c2 c3 c4 c5 c6
                  refine kwp_tsOut (pc := 11) 116 dX5_at_11 (by have a0 := lv_neT c0 (a := 0) (by decide); have a1 := lv_neT c1 (a := 1) (by decide); have a2 := lv_neT c2 (a := 2) (by decide); have a3 := lv_neT c3 (a := 3) (by decide); have a4 := lv_neT c4 (a := 4) (by decide); have a5 := lv_neT c5 (a := 5) (by decide); have a6 := lv_neT c6 (a := 6) (by decide); omega) (by decide) ?_
                  refine kwp_iconst (pc := 116) dX5_at_116 ic_m1 ?_
                  exact kwp_iret (pc := 117) rfl dX5_at_117 ⟨_, rfl, h⟩
  · have h := h.2 hc
    refine kwp_iconst (pc := 8) dX5_at_8 ic_m1 ?_
    exact kwp_iret (pc := 9) rfl dX5_at_9 ⟨_, rfl, h⟩

set_option maxRecDepth 20000 in
theorem bX5_buys_0 {l : Launch} {g : va_G × (Nat → ClassId) × (Nat → Nat → Nat)} (x1 : Int32) (x2 : Int32) (M : kM) (Q : Int32 → kM → Prop)
    (h : kCT l (rg_x, g) mX5_isRider [.inr (.inr (0, 0)), .inl x1] M (kqi (fun r2 M1 => ((r2 = 0 → kWP l (rg_x, g) mX5_buys 27 [] [] M1 (kqi Q)) ∧ (¬ r2 = 0 → kCT l (rg_x, g) mX5_within [.inl x2, .inl 0, .inl (((1 : Int32) <<< ((M1.1 1 0 0) &&& 31)) - 1)] M1 (kqi (fun r4 M3 => ((¬ r4 = 0 → vp_in x1 4 ∧ (∀ z5 : Int32, z5 = M3.1 14 0 x1.toNatClampNeg → vp_in x1 4 ∧ (∀ M6 : kM, M6 = ku M3 14 0 x1.toNatClampNeg x2 → Q z5 M6))) ∧ (r4 = 0 → kWP l (rg_x, g) mX5_buys 27 [] [] M3 (kqi Q)))))))))) :
    kWP l (rg_x, g) mX5_buys 0 [(0, .inr (.inr (0, 0))), (1, .inl x1), (2, .inl x2)] [] M (kqi Q) := by
  refine kwp_aload_n (pc := 0) 0 rfl dX5_buys_0 rfl ?_
  refine kwp_iload_n (pc := 1) 1 rfl dX5_buys_1 rfl ?_
  refine kwp_callV (pc := 2) (Y := mX5_isRider) (vs := [.inl x1]) (rest := []) fm_X5_isRider fi_X5_isRider ml_X5_91 (by decide) rfl rfl rfl rfl (by simp [kcat]) dX5_buys_2 ?_
  refine kCT.mono h (fun v M1 h => ?_)
  obtain ⟨r2, rfl, h⟩ := h
  change kWP l (rg_x, g) mX5_buys 5 [(0, .inr (.inr (0, 0))), (1, .inl x1), (2, .inl x2)] [.inl r2] M1 (kqi Q)
  refine kwp_if_eq (pc := 5) 27 dX5_buys_5 (by decide) (fun hc => ?_) (fun hc => ?_)
  · have h := h.1 hc
    refine kwp_sub [] rfl ?_
    exact h
  · have h := h.2 hc
    refine kwp_iload_n (pc := 8) 2 rfl dX5_buys_8 rfl ?_
    refine kwp_iconst (pc := 9) dX5_buys_9 ic_0 ?_
    refine kwp_iconst (pc := 10) dX5_buys_10 ic_1 ?_
    refine kwp_aload_n (pc := 11) 0 rfl dX5_buys_11 rfl ?_
    refine kwp_getc (pc := 12) fl_X5_10 rfl rfl dX5_buys_12 ?_
    refine kwp_geti (pc := 15) fl_X5_65 rfl rfl dX5_buys_15 ?_
    refine kwp_ishl (pc := 18) dX5_buys_18 ?_
    refine kwp_iconst (pc := 19) dX5_buys_19 ic_1 ?_
    refine kwp_isub (pc := 20) dX5_buys_20 ?_
    refine kwp_callS (pc := 21) (Y := mX5_within) (vs := [.inl x2, .inl 0, .inl (((1 : Int32) <<< ((M1.1 1 0 0) &&& 31)) - 1)]) (rest := []) fm_X5_within fs_X5_within ml_X5_61 (by decide) rfl rfl (by simp [kcat]) dX5_buys_21 ?_
    refine kCT.mono h (fun v M3 h => ?_)
    obtain ⟨r4, rfl, h⟩ := h
    change kWP l (rg_x, g) mX5_buys 24 [(0, .inr (.inr (0, 0))), (1, .inl x1), (2, .inl x2)] [.inl r4] M3 (kqi Q)
    refine kwp_if_ne (pc := 24) 29 dX5_buys_24 (by decide) (fun hc => ?_) (fun hc => ?_)
    · have h := h.1 hc
      refine kwp_aload_n (pc := 29) 0 rfl dX5_buys_29 rfl ?_
      refine kwp_getc (pc := 30) fl_X5_10 rfl rfl dX5_buys_30 ?_
      refine kwp_getr (pc := 33) fl_X5_107 rfl rfl dX5_buys_33 ?_
      refine kwp_iload_n (pc := 36) 1 rfl dX5_buys_36 rfl ?_
      obtain ⟨hin, h⟩ := h
      refine kwp_iald (pc := 37) rfl hin dX5_buys_37 ?_
      obtain ⟨z5, ez5⟩ : ∃ z : Int32, z = M3.1 14 0 x1.toNatClampNeg := ⟨_, rfl⟩
      rw [← ez5]
      have h := h z5 ez5
      refine kwp_istore_n (pc := 38) (ls2 := [(3, .inl z5), (0, .inr (.inr (0, 0))), (1, .inl x1), (2, .inl x2)]) dX5_buys_38 rfl (by decide) rfl ?_
      refine kwp_aload_n (pc := 39) 1 rfl dX5_buys_39 rfl ?_
      refine kwp_getc (pc := 40) fl_X5_10 rfl rfl dX5_buys_40 ?_
      refine kwp_getr (pc := 43) fl_X5_107 rfl rfl dX5_buys_43 ?_
      refine kwp_iload_n (pc := 46) 2 rfl dX5_buys_46 rfl ?_
      refine kwp_iload_n (pc := 47) 3 rfl dX5_buys_47 rfl ?_
      obtain ⟨hin, h⟩ := h
      refine kwp_iast (pc := 48) rfl hin dX5_buys_48 ?_
      obtain ⟨M6, eM6⟩ : ∃ z : kM, z = ku M3 14 0 x1.toNatClampNeg x2 := ⟨_, rfl⟩
      rw [← eM6]
      have h := h M6 eM6
      refine kwp_iload_n (pc := 49) 0 rfl dX5_buys_49 rfl ?_
      exact kwp_iret (pc := 50) rfl dX5_buys_50 ⟨_, rfl, h⟩
    · have h := h.2 hc
      refine kwp_sub [] rfl ?_
      exact h

set_option maxRecDepth 20000 in
theorem bX5_buys_27 {l : Launch} {g : va_G × (Nat → ClassId) × (Nat → Nat → Nat)}  (M : kM) (Q : Int32 → kM → Prop)
    (h : Q (-1) M) :
    kWP l (rg_x, g) mX5_buys 27 [] [] M (kqi Q) := by
  refine kwp_iconst (pc := 27) dX5_buys_27 ic_m1 ?_
  exact kwp_iret (pc := 28) rfl dX5_buys_28 ⟨_, rfl, h⟩

set_option maxRecDepth 20000 in
theorem bX5_price_0 {l : Launch} {g : va_G × (Nat → ClassId) × (Nat → Nat → Nat)} (x1 : Int32) (M : kM) (Q : Int32 → kM → Prop)
    (h : kCT l (rg_x, g) mX5_within [.inl x1, .inl 1, .inl 9] M (kqi (fun r2 M1 => ((¬ r2 = 0 → ∀ z3 : Int32, z3 = M1.1 1 0 2 → ∀ M4 : kM, M4 = ku M1 1 0 2 x1 → Q z3 M4) ∧ (r2 = 0 → Q (-1) M1))))) :
    kWP l (rg_x, g) mX5_price 0 [(0, .inr (.inr (0, 0))), (1, .inl x1)] [] M (kqi Q) := by
  refine kwp_iload_n (pc := 0) 1 rfl dX5_price_0 rfl ?_
  refine kwp_iconst (pc := 1) dX5_price_1 ic_1 ?_
  refine kwp_bipush (pc := 2) dX5_price_2 bp_9 ?_
  refine kwp_callS (pc := 4) (Y := mX5_within) (vs := [.inl x1, .inl 1, .inl 9]) (rest := []) fm_X5_within fs_X5_within ml_X5_61 (by decide) rfl rfl (by simp [kcat]) dX5_price_4 ?_
  refine kCT.mono h (fun v M1 h => ?_)
  obtain ⟨r2, rfl, h⟩ := h
  change kWP l (rg_x, g) mX5_price 7 [(0, .inr (.inr (0, 0))), (1, .inl x1)] [.inl r2] M1 (kqi Q)
  refine kwp_if_ne (pc := 7) 12 dX5_price_7 (by decide) (fun hc => ?_) (fun hc => ?_)
  · have h := h.1 hc
    refine kwp_aload_n (pc := 12) 0 rfl dX5_price_12 rfl ?_
    refine kwp_getc (pc := 13) fl_X5_10 rfl rfl dX5_price_13 ?_
    refine kwp_geti (pc := 16) fl_X5_114 rfl rfl dX5_price_16 ?_
    obtain ⟨z3, ez3⟩ : ∃ z : Int32, z = M1.1 1 0 2 := ⟨_, rfl⟩
    rw [← ez3]
    have h := h z3 ez3
    refine kwp_istore_n (pc := 19) (ls2 := [(2, .inl z3), (0, .inr (.inr (0, 0))), (1, .inl x1)]) dX5_price_19 rfl (by decide) rfl ?_
    refine kwp_aload_n (pc := 20) 1 rfl dX5_price_20 rfl ?_
    refine kwp_getc (pc := 21) fl_X5_10 rfl rfl dX5_price_21 ?_
    refine kwp_iload_n (pc := 24) 2 rfl dX5_price_24 rfl ?_
    refine kwp_put (pc := 25) fp_X5_114 rfl rfl trivial dX5_price_25 ?_
    obtain ⟨M4, eM4⟩ : ∃ z : kM, z = ku M1 1 0 2 x1 := ⟨_, rfl⟩
    rw [← eM4]
    have h := h M4 eM4
    refine kwp_iload_n (pc := 28) 0 rfl dX5_price_28 rfl ?_
    exact kwp_iret (pc := 29) rfl dX5_price_29 ⟨_, rfl, h⟩
  · have h := h.2 hc
    refine kwp_iconst (pc := 10) dX5_price_10 ic_m1 ?_
    exact kwp_iret (pc := 11) rfl dX5_price_11 ⟨_, rfl, h⟩

set_option maxRecDepth 20000 in
theorem bX5_type_0 {l : Launch} {g : va_G × (Nat → ClassId) × (Nat → Nat → Nat)} (x1 : Int32) (M : kM) (Q : Int32 → kM → Prop)
    (h : kCT l (rg_x, g) mX5_within [.inl x1, .inl 32, .inl 126] M (kqi (fun r2 M1 => ((¬ r2 = 0 → kCT l (rg_x, g) mX4_isFull [.inr (.inr (4, 0))] M1 (kqi (fun r4 M3 => ((r4 = 0 → kCT l (rg_x, g) mX4_append [.inr (.inr (4, 0)), .inl x1] M3 (kqi (fun r6 M5 => kWP l (rg_x, g) mX5_type 36 [] [.inl r6] M5 (kqi Q)))) ∧ (¬ r4 = 0 → kWP l (rg_x, g) mX5_type 36 [] [.inl (-3)] M3 (kqi Q)))))) ∧ (r2 = 0 → Q (-1) M1))))) :
    kWP l (rg_x, g) mX5_type 0 [(0, .inr (.inr (0, 0))), (1, .inl x1)] [] M (kqi Q) := by
  refine kwp_iload_n (pc := 0) 1 rfl dX5_type_0 rfl ?_
  refine kwp_bipush (pc := 1) dX5_type_1 bp_32 ?_
  refine kwp_bipush (pc := 3) dX5_type_3 bp_126 ?_
  refine kwp_callS (pc := 5) (Y := mX5_within) (vs := [.inl x1, .inl 32, .inl 126]) (rest := []) fm_X5_within fs_X5_within ml_X5_61 (by decide) rfl rfl (by simp [kcat]) dX5_type_5 ?_
  refine kCT.mono h (fun v M1 h => ?_)
  obtain ⟨r2, rfl, h⟩ := h
  change kWP l (rg_x, g) mX5_type 8 [(0, .inr (.inr (0, 0))), (1, .inl x1)] [.inl r2] M1 (kqi Q)
  refine kwp_if_ne (pc := 8) 13 dX5_type_8 (by decide) (fun hc => ?_) (fun hc => ?_)
  · have h := h.1 hc
    refine kwp_aload_n (pc := 13) 0 rfl dX5_type_13 rfl ?_
    refine kwp_getc (pc := 14) fl_X5_43 rfl rfl dX5_type_14 ?_
    refine kwp_callV (pc := 17) (Y := mX4_isFull) (vs := []) (rest := []) fm_X4_isFull fi_X4_isFull ml_X5_117 (by decide) rfl rfl rfl rfl (by simp [kcat]) dX5_type_17 ?_
    refine kCT.mono h (fun v M3 h => ?_)
    obtain ⟨r4, rfl, h⟩ := h
    change kWP l (rg_x, g) mX5_type 20 [(0, .inr (.inr (0, 0))), (1, .inl x1)] [.inl r4] M3 (kqi Q)
    refine kwp_if_eq (pc := 20) 28 dX5_type_20 (by decide) (fun hc => ?_) (fun hc => ?_)
    · have h := h.1 hc
      refine kwp_aload_n (pc := 28) 0 rfl dX5_type_28 rfl ?_
      refine kwp_getc (pc := 29) fl_X5_43 rfl rfl dX5_type_29 ?_
      refine kwp_iload_n (pc := 32) 1 rfl dX5_type_32 rfl ?_
      refine kwp_callV (pc := 33) (Y := mX4_append) (vs := [.inl x1]) (rest := []) fm_X4_append fi_X4_append ml_X5_121 (by decide) rfl rfl rfl rfl (by simp [kcat]) dX5_type_33 ?_
      refine kCT.mono h (fun v M5 h => ?_)
      obtain ⟨r6, rfl, h⟩ := h
      change kWP l (rg_x, g) mX5_type 36 [(0, .inr (.inr (0, 0))), (1, .inl x1)] [.inl r6] M5 (kqi Q)
      refine kwp_sub [] rfl ?_
      exact h
    · have h := h.2 hc
      refine kwp_bipush (pc := 23) dX5_type_23 bp_m3 ?_
      refine kwp_goto (pc := 25) 36 dX5_type_25 (by decide) ?_
      refine kwp_sub [] rfl ?_
      exact h
  · have h := h.2 hc
    refine kwp_iconst (pc := 11) dX5_type_11 ic_m1 ?_
    exact kwp_iret (pc := 12) rfl dX5_type_12 ⟨_, rfl, h⟩

set_option maxRecDepth 20000 in
theorem bX5_type_36 {l : Launch} {g : va_G × (Nat → ClassId) × (Nat → Nat → Nat)} (s0 : Int32) (M : kM) (Q : Int32 → kM → Prop)
    (h : Q s0 M) :
    kWP l (rg_x, g) mX5_type 36 [] [.inl s0] M (kqi Q) := by
  exact kwp_iret (pc := 36) rfl dX5_type_36 ⟨_, rfl, h⟩

set_option maxRecDepth 20000 in
theorem bX5_road_0 {l : Launch} {g : va_G × (Nat → ClassId) × (Nat → Nat → Nat)}  (M : kM) (Q : Int32 → kM → Prop)
    (h : kCT l (rg_x, g) mX4_readRoad [.inr (.inr (4, 0))] M (kqi (fun r2 M1 => ((r2 < 0 → kWP l (rg_x, g) mX5_road 33 [(1, .inl r2)] [] M1 (kqi Q)) ∧ (¬ r2 < 0 → kCT l (rg_x, g) mX3_takeRoad [.inr (.inr (1, 0)), .inr (.inr (1, 3))] M1 (kqv (fun M3 => kCT l (rg_x, g) mX2_forget [.inr (.inr (2, 0))] M3 (kqv (fun M4 => kWP l (rg_x, g) mX5_road 33 [(1, .inl r2)] [] M4 (kqi Q)))))))))) :
    kWP l (rg_x, g) mX5_road 0 [(0, .inr (.inr (0, 0)))] [] M (kqi Q) := by
  refine kwp_aload_n (pc := 0) 0 rfl dX5_road_0 rfl ?_
  refine kwp_getc (pc := 1) fl_X5_43 rfl rfl dX5_road_1 ?_
  refine kwp_callV (pc := 4) (Y := mX4_readRoad) (vs := []) (rest := []) fm_X4_readRoad fi_X4_readRoad ml_X5_125 (by decide) rfl rfl rfl rfl (by simp [kcat]) dX5_road_4 ?_
  refine kCT.mono h (fun v M1 h => ?_)
  obtain ⟨r2, rfl, h⟩ := h
  change kWP l (rg_x, g) mX5_road 7 [(0, .inr (.inr (0, 0)))] [.inl r2] M1 (kqi Q)
  refine kwp_istore_n (pc := 7) (ls2 := [(1, .inl r2), (0, .inr (.inr (0, 0)))]) dX5_road_7 rfl (by decide) rfl ?_
  refine kwp_iload_n (pc := 8) 0 rfl dX5_road_8 rfl ?_
  refine kwp_if_lt (pc := 9) 33 dX5_road_9 (by decide) (fun hc => ?_) (fun hc => ?_)
  · have h := h.1 hc
    refine kwp_sub [0] rfl ?_
    exact h
  · have h := h.2 hc
    refine kwp_aload_n (pc := 12) 1 rfl dX5_road_12 rfl ?_
    refine kwp_getc (pc := 13) fl_X5_10 rfl rfl dX5_road_13 ?_
    refine kwp_aload_n (pc := 16) 1 rfl dX5_road_16 rfl ?_
    refine kwp_getc (pc := 17) fl_X5_43 rfl rfl dX5_road_17 ?_
    refine kwp_getc (pc := 20) fl_X5_129 rfl rfl dX5_road_20 ?_
    refine kwp_callV (pc := 23) (Y := mX3_takeRoad) (vs := [.inr (.inr (1, 3))]) (rest := []) fm_X3_takeRoad fi_X3_takeRoad ml_X5_132 (by decide) rfl rfl rfl rfl (by simp [kcat]) dX5_road_23 ?_
    refine kCT.mono h (fun v M3 h => ?_)
    obtain ⟨rfl, h⟩ := h
    change kWP l (rg_x, g) mX5_road 26 [(1, .inl r2), (0, .inr (.inr (0, 0)))] [] M3 (kqi Q)
    refine kwp_aload_n (pc := 26) 1 rfl dX5_road_26 rfl ?_
    refine kwp_getc (pc := 27) fl_X5_19 rfl rfl dX5_road_27 ?_
    refine kwp_callV (pc := 30) (Y := mX2_forget) (vs := []) (rest := []) fm_X2_forget fi_X2_forget ml_X5_69 (by decide) rfl rfl rfl rfl (by simp [kcat]) dX5_road_30 ?_
    refine kCT.mono h (fun v M4 h => ?_)
    obtain ⟨rfl, h⟩ := h
    change kWP l (rg_x, g) mX5_road 33 [(1, .inl r2), (0, .inr (.inr (0, 0)))] [] M4 (kqi Q)
    refine kwp_sub [0] rfl ?_
    exact h

set_option maxRecDepth 20000 in
theorem bX5_road_33 {l : Launch} {g : va_G × (Nat → ClassId) × (Nat → Nat → Nat)} (x1 : Int32) (M : kM) (Q : Int32 → kM → Prop)
    (h : Q x1 M) :
    kWP l (rg_x, g) mX5_road 33 [(1, .inl x1)] [] M (kqi Q) := by
  refine kwp_iload_n (pc := 33) 0 rfl dX5_road_33 rfl ?_
  exact kwp_iret (pc := 34) rfl dX5_road_34 ⟨_, rfl, h⟩

set_option maxRecDepth 20000 in
theorem bX5_count_0 {l : Launch} {g : va_G × (Nat → ClassId) × (Nat → Nat → Nat)} (x1 : Int32) (M : kM) (Q : Int32 → kM → Prop)
    (h : ((x1 = 0 → Q (M.1 1 0 0) M) ∧ (x1 = 1 → Q (M.1 1 0 1) M) ∧ (x1 = 2 → Q (M.1 1 0 2) M) ∧ (x1 = 3 → kCT l (rg_x, g) mX3_whoIsThere [.inr (.inr (1, 0))] M (kqi (fun r2 M1 => Q r2 M1))) ∧ (x1 = 4 → kCT l (rg_x, g) mX3_whoRides [.inr (.inr (1, 0))] M (kqi (fun r4 M3 => Q r4 M3))) ∧ (x1 = 5 → kCT l (rg_x, g) mX5_sumOf [.inr (.inr (13, 0)), .inl (M.1 1 0 1)] M (kqi (fun r6 M5 => Q r6 M5))) ∧ (x1 = 6 → kCT l (rg_x, g) mX5_sumOf [.inr (.inr (9, 0)), .inl (M.1 1 0 0)] M (kqi (fun r8 M7 => Q r8 M7))) ∧ (x1 = 7 → Q (M.1 2 0 0) M) ∧ (¬ x1 = 0 → ¬ x1 = 1 → ¬ x1 = 2 → ¬ x1 = 3 → ¬ x1 = 4 → ¬ x1 = 5 → ¬ x1 = 6 → ¬ x1 = 7 → Q (-1) M))) :
    kWP l (rg_x, g) mX5_count 0 [(0, .inr (.inr (0, 0))), (1, .inl x1)] [] M (kqi Q) := by
  refine kwp_iload_n (pc := 0) 1 rfl dX5_count_0 rfl ?_
  by_cases c0 : x1 = 0
  · refine kwp_tsIn (pc := 1) 48 dX5_count_1 (by rw [c0]; decide) (by rw [c0]; decide) (off := 47) (by rw [c0]; decide) (by decide) ?_
    have h := h.1 c0
    refine kwp_aload_n (pc := 48) 0 rfl dX5_count_48 rfl ?_
    refine kwp_getc (pc := 49) fl_X5_10 rfl rfl dX5_count_49 ?_
    refine kwp_geti (pc := 52) fl_X5_65 rfl rfl dX5_count_52 ?_
    exact kwp_iret (pc := 55) rfl dX5_count_55 ⟨_, rfl, h⟩
  · have h := h.2
    by_cases c1 : x1 = 1
    · refine kwp_tsIn (pc := 1) 56 dX5_count_1 (by rw [c1]; decide) (by rw [c1]; decide) (off := 55) (by rw [c1]; decide) (by decide) ?_
      have h := h.1 c1
      refine kwp_aload_n (pc := 56) 0 rfl dX5_count_56 rfl ?_
      refine kwp_getc (pc := 57) fl_X5_10 rfl rfl dX5_count_57 ?_
      refine kwp_geti (pc := 60) fl_X5_76 rfl rfl dX5_count_60 ?_
      exact kwp_iret (pc := 63) rfl dX5_count_63 ⟨_, rfl, h⟩
    · have h := h.2
      by_cases c2 : x1 = 2
      · refine kwp_tsIn (pc := 1) 64 dX5_count_1 (by rw [c2]; decide) (by rw [c2]; decide) (off := 63) (by rw [c2]; decide) (by decide) ?_
        have h := h.1 c2
        refine kwp_aload_n (pc := 64) 0 rfl dX5_count_64 rfl ?_
        refine kwp_getc (pc := 65) fl_X5_10 rfl rfl dX5_count_65 ?_
        refine kwp_geti (pc := 68) fl_X5_114 rfl rfl dX5_count_68 ?_
        exact kwp_iret (pc := 71) rfl dX5_count_71 ⟨_, rfl, h⟩
      · have h := h.2
        by_cases c3 : x1 = 3
        · refine kwp_tsIn (pc := 1) 72 dX5_count_1 (by rw [c3]; decide) (by rw [c3]; decide) (off := 71) (by rw [c3]; decide) (by decide) ?_
          have h := h.1 c3
          refine kwp_aload_n (pc := 72) 0 rfl dX5_count_72 rfl ?_
          refine kwp_getc (pc := 73) fl_X5_10 rfl rfl dX5_count_73 ?_
          refine kwp_callV (pc := 76) (Y := mX3_whoIsThere) (vs := []) (rest := []) fm_X3_whoIsThere fi_X3_whoIsThere ml_X5_136 (by decide) rfl rfl rfl rfl (by simp [kcat]) dX5_count_76 ?_
          refine kCT.mono h (fun v M1 h => ?_)
          obtain ⟨r2, rfl, h⟩ := h
          change kWP l (rg_x, g) mX5_count 79 [(0, .inr (.inr (0, 0))), (1, .inl x1)] [.inl r2] M1 (kqi Q)
          exact kwp_iret (pc := 79) rfl dX5_count_79 ⟨_, rfl, h⟩
        · have h := h.2
          by_cases c4 : x1 = 4
          · refine kwp_tsIn (pc := 1) 80 dX5_count_1 (by rw [c4]; decide) (by rw [c4]; decide) (off := 79) (by rw [c4]; decide) (by decide) ?_
            have h := h.1 c4
            refine kwp_aload_n (pc := 80) 0 rfl dX5_count_80 rfl ?_
            refine kwp_getc (pc := 81) fl_X5_10 rfl rfl dX5_count_81 ?_
            refine kwp_callV (pc := 84) (Y := mX3_whoRides) (vs := []) (rest := []) fm_X3_whoRides fi_X3_whoRides ml_X5_139 (by decide) rfl rfl rfl rfl (by simp [kcat]) dX5_count_84 ?_
            refine kCT.mono h (fun v M3 h => ?_)
            obtain ⟨r4, rfl, h⟩ := h
            change kWP l (rg_x, g) mX5_count 87 [(0, .inr (.inr (0, 0))), (1, .inl x1)] [.inl r4] M3 (kqi Q)
            exact kwp_iret (pc := 87) rfl dX5_count_87 ⟨_, rfl, h⟩
          · have h := h.2
            by_cases c5 : x1 = 5
            · refine kwp_tsIn (pc := 1) 88 dX5_count_1 (by rw [c5]; decide) (by rw [c5]; decide) (off := 87) (by rw [c5]; decide) (by decide) ?_
              have h := h.1 c5
              refine kwp_aload_n (pc := 88) 0 rfl dX5_count_88 rfl ?_
              refine kwp_getc (pc := 89) fl_X5_10 rfl rfl dX5_count_89 ?_
              refine kwp_getr (pc := 92) fl_X5_104 rfl rfl dX5_count_92 ?_
              refine kwp_aload_n (pc := 95) 0 rfl dX5_count_95 rfl ?_
              refine kwp_getc (pc := 96) fl_X5_10 rfl rfl dX5_count_96 ?_
              refine kwp_geti (pc := 99) fl_X5_76 rfl rfl dX5_count_99 ?_
              refine kwp_callS (pc := 102) (Y := mX5_sumOf) (vs := [.inr (.inr (13, 0)), .inl (M.1 1 0 1)]) (rest := []) fm_X5_sumOf fs_X5_sumOf ml_X5_142 (by decide) rfl rfl (by simp [kcat]) dX5_count_102 ?_
              refine kCT.mono h (fun v M5 h => ?_)
              obtain ⟨r6, rfl, h⟩ := h
              change kWP l (rg_x, g) mX5_count 105 [(0, .inr (.inr (0, 0))), (1, .inl x1)] [.inl r6] M5 (kqi Q)
              exact kwp_iret (pc := 105) rfl dX5_count_105 ⟨_, rfl, h⟩
            · have h := h.2
              by_cases c6 : x1 = 6
              · refine kwp_tsIn (pc := 1) 106 dX5_count_1 (by rw [c6]; decide) (by rw [c6]; decide) (off := 105) (by rw [c6]; decide) (by decide) ?_
                have h := h.1 c6
                refine kwp_aload_n (pc := 106) 0 rfl dX5_count_106 rfl ?_
                refine kwp_getc (pc := 107) fl_X5_10 rfl rfl dX5_count_107 ?_
                refine kwp_getr (pc := 110) fl_X5_88 rfl rfl dX5_count_110 ?_
                refine kwp_aload_n (pc := 113) 0 rfl dX5_count_113 rfl ?_
                refine kwp_getc (pc := 114) fl_X5_10 rfl rfl dX5_count_114 ?_
                refine kwp_geti (pc := 117) fl_X5_65 rfl rfl dX5_count_117 ?_
                refine kwp_callS (pc := 120) (Y := mX5_sumOf) (vs := [.inr (.inr (9, 0)), .inl (M.1 1 0 0)]) (rest := []) fm_X5_sumOf fs_X5_sumOf ml_X5_142 (by decide) rfl rfl (by simp [kcat]) dX5_count_120 ?_
                refine kCT.mono h (fun v M7 h => ?_)
                obtain ⟨r8, rfl, h⟩ := h
                change kWP l (rg_x, g) mX5_count 123 [(0, .inr (.inr (0, 0))), (1, .inl x1)] [.inl r8] M7 (kqi Q)
                exact kwp_iret (pc := 123) rfl dX5_count_123 ⟨_, rfl, h⟩
              · have h := h.2
                by_cases c7 : x1 = 7
                · refine kwp_tsIn (pc := 1) 124 dX5_count_1 (by rw [c7]; decide) (by rw [c7]; decide) (off := 123) (by rw [c7]; decide) (by decide) ?_
                  have h := h.1 c7
                  refine kwp_aload_n (pc := 124) 0 rfl dX5_count_124 rfl ?_
                  refine kwp_getc (pc := 125) fl_X5_19 rfl rfl dX5_count_125 ?_
                  refine kwp_geti (pc := 128) fl_X5_146 rfl rfl dX5_count_128 ?_
                  exact kwp_iret (pc := 131) rfl dX5_count_131 ⟨_, rfl, h⟩
                · have h := h.2
                  have h := h c0 c1 c2 c3 c4 c5 c6 c7
                  refine kwp_tsOut (pc := 1) 132 dX5_count_1 (by have a0 := lv_neT c0 (a := 0) (by decide); have a1 := lv_neT c1 (a := 1) (by decide); have a2 := lv_neT c2 (a := 2) (by decide); have a3 := lv_neT c3 (a := 3) (by decide); have a4 := lv_neT c4 (a := 4) (by decide); have a5 := lv_neT c5 (a := 5) (by decide); have a6 := lv_neT c6 (a := 6) (by decide); have a7 := lv_neT c7 (a := 7) (by decide); omega) (by decide) ?_
                  refine kwp_iconst (pc := 132) dX5_count_132 ic_m1 ?_
                  exact kwp_iret (pc := 133) rfl dX5_count_133 ⟨_, rfl, h⟩

set_option maxRecDepth 20000 in
theorem bX5_ride_0 {l : Launch} {g : va_G × (Nat → ClassId) × (Nat → Nat → Nat)} (x1 : Int32) (M : kM) (Q : Int32 → kM → Prop)
    (h : kCT l (rg_x, g) mX5_within [.inl x1, .inl 1, .inl 32] M (kqi (fun r2 M1 => ((¬ r2 = 0 → kCT l (rg_x, g) mX3_whoRides [.inr (.inr (1, 0))] M1 (kqi (fun r4 M3 => ((0 ≤ r4 → kWP l (rg_x, g) mX5_ride 29 [(0, .inr (.inr (0, 0))), (1, .inl x1), (2, .inl 0), (3, .inl 0)] [] M3 (kqi Q)) ∧ (¬ 0 ≤ r4 → Q (-2) M3))))) ∧ (r2 = 0 → Q (-1) M1))))) :
    kWP l (rg_x, g) mX5_ride 0 [(0, .inr (.inr (0, 0))), (1, .inl x1)] [] M (kqi Q) := by
  refine kwp_iload_n (pc := 0) 1 rfl dX5_ride_0 rfl ?_
  refine kwp_iconst (pc := 1) dX5_ride_1 ic_1 ?_
  refine kwp_bipush (pc := 2) dX5_ride_2 bp_32 ?_
  refine kwp_callS (pc := 4) (Y := mX5_within) (vs := [.inl x1, .inl 1, .inl 32]) (rest := []) fm_X5_within fs_X5_within ml_X5_61 (by decide) rfl rfl (by simp [kcat]) dX5_ride_4 ?_
  refine kCT.mono h (fun v M1 h => ?_)
  obtain ⟨r2, rfl, h⟩ := h
  change kWP l (rg_x, g) mX5_ride 7 [(0, .inr (.inr (0, 0))), (1, .inl x1)] [.inl r2] M1 (kqi Q)
  refine kwp_if_ne (pc := 7) 12 dX5_ride_7 (by decide) (fun hc => ?_) (fun hc => ?_)
  · have h := h.1 hc
    refine kwp_aload_n (pc := 12) 0 rfl dX5_ride_12 rfl ?_
    refine kwp_getc (pc := 13) fl_X5_10 rfl rfl dX5_ride_13 ?_
    refine kwp_callV (pc := 16) (Y := mX3_whoRides) (vs := []) (rest := []) fm_X3_whoRides fi_X3_whoRides ml_X5_139 (by decide) rfl rfl rfl rfl (by simp [kcat]) dX5_ride_16 ?_
    refine kCT.mono h (fun v M3 h => ?_)
    obtain ⟨r4, rfl, h⟩ := h
    change kWP l (rg_x, g) mX5_ride 19 [(0, .inr (.inr (0, 0))), (1, .inl x1)] [.inl r4] M3 (kqi Q)
    refine kwp_if_ge (pc := 19) 25 dX5_ride_19 (by decide) (fun hc => ?_) (fun hc => ?_)
    · have h := h.1 hc
      refine kwp_iconst (pc := 25) dX5_ride_25 ic_0 ?_
      refine kwp_istore_n (pc := 26) (ls2 := [(2, .inl 0), (0, .inr (.inr (0, 0))), (1, .inl x1)]) dX5_ride_26 rfl (by decide) rfl ?_
      refine kwp_iconst (pc := 27) dX5_ride_27 ic_0 ?_
      refine kwp_istore_n (pc := 28) (ls2 := [(3, .inl 0), (2, .inl 0), (0, .inr (.inr (0, 0))), (1, .inl x1)]) dX5_ride_28 rfl (by decide) rfl ?_
      refine kwp_sub [2, 3, 1, 0] rfl ?_
      exact h
    · have h := h.2 hc
      refine kwp_bipush (pc := 22) dX5_ride_22 bp_m2 ?_
      exact kwp_iret (pc := 24) rfl dX5_ride_24 ⟨_, rfl, h⟩
  · have h := h.2 hc
    refine kwp_iconst (pc := 10) dX5_ride_10 ic_m1 ?_
    exact kwp_iret (pc := 11) rfl dX5_ride_11 ⟨_, rfl, h⟩

set_option maxRecDepth 20000 in
theorem bX5_ride_29 {l : Launch} {g : va_G × (Nat → ClassId) × (Nat → Nat → Nat)} (x1 : Int32) (x2 : Int32) (x3 : Int32) (M : kM) (Q : Int32 → kM → Prop)
    (h : ((x1 ≤ x3 → kWP l (rg_x, g) mX5_ride 81 [(2, .inl x2)] [] M (kqi Q)) ∧ (¬ x1 ≤ x3 → kCT l (rg_x, g) mX3_whoRides [.inr (.inr (1, 0))] M (kqi (fun r2 M1 => ((0 ≤ r2 → kCT l (rg_x, g) mX2_mark [.inr (.inr (2, 0)), .inr (.inr (1, 0))] M1 (kqv (fun M3 => kCT l (rg_x, g) mX3_rideStage [.inr (.inr (1, 0)), .inl r2, .inl 0] M3 (kqv (fun M4 => ∀ z5 : Int32, z5 = x2 + 1 → ∀ z6 : Int32, z6 = x3 + 1 → kWP l (rg_x, g) mX5_ride 29 [(0, .inr (.inr (0, 0))), (1, .inl x1), (2, .inl z5), (3, .inl z6)] [] M4 (kqi Q)))))) ∧ (¬ 0 ≤ r2 → kWP l (rg_x, g) mX5_ride 81 [(2, .inl x2)] [] M1 (kqi Q)))))))) :
    kWP l (rg_x, g) mX5_ride 29 [(0, .inr (.inr (0, 0))), (1, .inl x1), (2, .inl x2), (3, .inl x3)] [] M (kqi Q) := by
  refine kwp_iload_n (pc := 29) 3 rfl dX5_ride_29 rfl ?_
  refine kwp_iload_n (pc := 30) 1 rfl dX5_ride_30 rfl ?_
  refine kwp_icmp_ge (pc := 31) 81 dX5_ride_31 (by decide) (fun hc => ?_) (fun hc => ?_)
  · have h := h.1 hc
    refine kwp_sub [2] rfl ?_
    exact h
  · have h := h.2 hc
    refine kwp_aload_n (pc := 34) 0 rfl dX5_ride_34 rfl ?_
    refine kwp_getc (pc := 35) fl_X5_10 rfl rfl dX5_ride_35 ?_
    refine kwp_callV (pc := 38) (Y := mX3_whoRides) (vs := []) (rest := []) fm_X3_whoRides fi_X3_whoRides ml_X5_139 (by decide) rfl rfl rfl rfl (by simp [kcat]) dX5_ride_38 ?_
    refine kCT.mono h (fun v M1 h => ?_)
    obtain ⟨r2, rfl, h⟩ := h
    change kWP l (rg_x, g) mX5_ride 41 [(0, .inr (.inr (0, 0))), (1, .inl x1), (2, .inl x2), (3, .inl x3)] [.inl r2] M1 (kqi Q)
    refine kwp_istore (pc := 41) (ls2 := [(4, .inl r2), (0, .inr (.inr (0, 0))), (1, .inl x1), (2, .inl x2), (3, .inl x3)]) dX5_ride_41 (by decide) rfl ?_
    refine kwp_iload (pc := 43) 0 rfl dX5_ride_43 ?_
    refine kwp_if_ge (pc := 45) 51 dX5_ride_45 (by decide) (fun hc => ?_) (fun hc => ?_)
    · have h := h.1 hc
      refine kwp_aload_n (pc := 51) 1 rfl dX5_ride_51 rfl ?_
      refine kwp_getc (pc := 52) fl_X5_19 rfl rfl dX5_ride_52 ?_
      refine kwp_aload_n (pc := 55) 1 rfl dX5_ride_55 rfl ?_
      refine kwp_getc (pc := 56) fl_X5_10 rfl rfl dX5_ride_56 ?_
      refine kwp_callV (pc := 59) (Y := mX2_mark) (vs := [.inr (.inr (1, 0))]) (rest := []) fm_X2_mark fi_X2_mark ml_X5_149 (by decide) rfl rfl rfl rfl (by simp [kcat]) dX5_ride_59 ?_
      refine kCT.mono h (fun v M3 h => ?_)
      obtain ⟨rfl, h⟩ := h
      change kWP l (rg_x, g) mX5_ride 62 [(4, .inl r2), (0, .inr (.inr (0, 0))), (1, .inl x1), (2, .inl x2), (3, .inl x3)] [] M3 (kqi Q)
      refine kwp_aload_n (pc := 62) 1 rfl dX5_ride_62 rfl ?_
      refine kwp_getc (pc := 63) fl_X5_10 rfl rfl dX5_ride_63 ?_
      refine kwp_iload (pc := 66) 0 rfl dX5_ride_66 ?_
      refine kwp_iconst (pc := 68) dX5_ride_68 ic_0 ?_
      refine kwp_callV (pc := 69) (Y := mX3_rideStage) (vs := [.inl r2, .inl 0]) (rest := []) fm_X3_rideStage fi_X3_rideStage ml_X5_152 (by decide) rfl rfl rfl rfl (by simp [kcat]) dX5_ride_69 ?_
      refine kCT.mono h (fun v M4 h => ?_)
      obtain ⟨rfl, h⟩ := h
      change kWP l (rg_x, g) mX5_ride 72 [(4, .inl r2), (0, .inr (.inr (0, 0))), (1, .inl x1), (2, .inl x2), (3, .inl x3)] [] M4 (kqi Q)
      obtain ⟨z5, ez5⟩ : ∃ z : Int32, z = x2 + 1 := ⟨_, rfl⟩
      have h := h z5 ez5
      refine kwp_iinc (pc := 72) (v := z5) (ls2 := [(2, .inl z5), (4, .inl r2), (0, .inr (.inr (0, 0))), (1, .inl x1), (3, .inl x3)]) 3 rfl dX5_ride_72 (by rw [ez5, ic_1]) (by decide) rfl ?_
      obtain ⟨z6, ez6⟩ : ∃ z : Int32, z = x3 + 1 := ⟨_, rfl⟩
      have h := h z6 ez6
      refine kwp_iinc (pc := 75) (v := z6) (ls2 := [(3, .inl z6), (2, .inl z5), (4, .inl r2), (0, .inr (.inr (0, 0))), (1, .inl x1)]) 4 rfl dX5_ride_75 (by rw [ez6, ic_1]) (by decide) rfl ?_
      refine kwp_goto (pc := 78) 29 dX5_ride_78 (by decide) ?_
      refine kwp_sub [3, 4, 1, 0] rfl ?_
      exact h
    · have h := h.2 hc
      refine kwp_goto (pc := 48) 81 dX5_ride_48 (by decide) ?_
      refine kwp_sub [3] rfl ?_
      exact h

set_option maxRecDepth 20000 in
theorem bX5_ride_81 {l : Launch} {g : va_G × (Nat → ClassId) × (Nat → Nat → Nat)} (x2 : Int32) (M : kM) (Q : Int32 → kM → Prop)
    (h : Q x2 M) :
    kWP l (rg_x, g) mX5_ride 81 [(2, .inl x2)] [] M (kqi Q) := by
  refine kwp_iload_n (pc := 81) 0 rfl dX5_ride_81 rfl ?_
  exact kwp_iret (pc := 82) rfl dX5_ride_82 ⟨_, rfl, h⟩

set_option maxRecDepth 20000 in
theorem bX5_wheel_0 {l : Launch} {g : va_G × (Nat → ClassId) × (Nat → Nat → Nat)} (x1 : Int32) (M : kM) (Q : Int32 → kM → Prop)
    (h : kCT l (rg_x, g) mX5_isRider [.inr (.inr (0, 0)), .inl x1] M (kqi (fun r2 M1 => ((¬ r2 = 0 → kCT l (rg_x, g) mX3_isThere [.inr (.inr (1, 0)), .inl x1] M1 (kqi (fun r4 M3 => ((r4 = 0 → kCT l (rg_x, g) mX2_mark [.inr (.inr (2, 0)), .inr (.inr (1, 0))] M3 (kqv (fun M5 => vp_in x1 4 ∧ (vp_in x1 4 ∧ (∀ M6 : kM, M6 = ku M5 12 0 x1.toNatClampNeg ((M5.1 12 0 x1.toNatClampNeg) + 30) → vp_in x1 4 ∧ (Q (M6.1 12 0 x1.toNatClampNeg) M6)))))) ∧ (¬ r4 = 0 → Q (-2) M3))))) ∧ (r2 = 0 → Q (-1) M1))))) :
    kWP l (rg_x, g) mX5_wheel 0 [(0, .inr (.inr (0, 0))), (1, .inl x1)] [] M (kqi Q) := by
  refine kwp_aload_n (pc := 0) 0 rfl dX5_wheel_0 rfl ?_
  refine kwp_iload_n (pc := 1) 1 rfl dX5_wheel_1 rfl ?_
  refine kwp_callV (pc := 2) (Y := mX5_isRider) (vs := [.inl x1]) (rest := []) fm_X5_isRider fi_X5_isRider ml_X5_91 (by decide) rfl rfl rfl rfl (by simp [kcat]) dX5_wheel_2 ?_
  refine kCT.mono h (fun v M1 h => ?_)
  obtain ⟨r2, rfl, h⟩ := h
  change kWP l (rg_x, g) mX5_wheel 5 [(0, .inr (.inr (0, 0))), (1, .inl x1)] [.inl r2] M1 (kqi Q)
  refine kwp_if_ne (pc := 5) 10 dX5_wheel_5 (by decide) (fun hc => ?_) (fun hc => ?_)
  · have h := h.1 hc
    refine kwp_aload_n (pc := 10) 0 rfl dX5_wheel_10 rfl ?_
    refine kwp_getc (pc := 11) fl_X5_10 rfl rfl dX5_wheel_11 ?_
    refine kwp_iload_n (pc := 14) 1 rfl dX5_wheel_14 rfl ?_
    refine kwp_callV (pc := 15) (Y := mX3_isThere) (vs := [.inl x1]) (rest := []) fm_X3_isThere fi_X3_isThere ml_X5_156 (by decide) rfl rfl rfl rfl (by simp [kcat]) dX5_wheel_15 ?_
    refine kCT.mono h (fun v M3 h => ?_)
    obtain ⟨r4, rfl, h⟩ := h
    change kWP l (rg_x, g) mX5_wheel 18 [(0, .inr (.inr (0, 0))), (1, .inl x1)] [.inl r4] M3 (kqi Q)
    refine kwp_if_eq (pc := 18) 24 dX5_wheel_18 (by decide) (fun hc => ?_) (fun hc => ?_)
    · have h := h.1 hc
      refine kwp_aload_n (pc := 24) 0 rfl dX5_wheel_24 rfl ?_
      refine kwp_getc (pc := 25) fl_X5_19 rfl rfl dX5_wheel_25 ?_
      refine kwp_aload_n (pc := 28) 0 rfl dX5_wheel_28 rfl ?_
      refine kwp_getc (pc := 29) fl_X5_10 rfl rfl dX5_wheel_29 ?_
      refine kwp_callV (pc := 32) (Y := mX2_mark) (vs := [.inr (.inr (1, 0))]) (rest := []) fm_X2_mark fi_X2_mark ml_X5_149 (by decide) rfl rfl rfl rfl (by simp [kcat]) dX5_wheel_32 ?_
      refine kCT.mono h (fun v M5 h => ?_)
      obtain ⟨rfl, h⟩ := h
      change kWP l (rg_x, g) mX5_wheel 35 [(0, .inr (.inr (0, 0))), (1, .inl x1)] [] M5 (kqi Q)
      refine kwp_aload_n (pc := 35) 0 rfl dX5_wheel_35 rfl ?_
      refine kwp_getc (pc := 36) fl_X5_10 rfl rfl dX5_wheel_36 ?_
      refine kwp_getr (pc := 39) fl_X5_101 rfl rfl dX5_wheel_39 ?_
      refine kwp_iload_n (pc := 42) 1 rfl dX5_wheel_42 rfl ?_
      refine kwp_dup2 (pc := 43) dX5_wheel_43 rfl rfl ?_
      obtain ⟨hin, h⟩ := h
      refine kwp_iald (pc := 44) rfl hin dX5_wheel_44 ?_
      refine kwp_bipush (pc := 45) dX5_wheel_45 bp_30 ?_
      refine kwp_iadd (pc := 47) dX5_wheel_47 ?_
      obtain ⟨hin, h⟩ := h
      refine kwp_iast (pc := 48) rfl hin dX5_wheel_48 ?_
      obtain ⟨M6, eM6⟩ : ∃ z : kM, z = ku M5 12 0 x1.toNatClampNeg ((M5.1 12 0 x1.toNatClampNeg) + 30) := ⟨_, rfl⟩
      rw [← eM6]
      have h := h M6 eM6
      refine kwp_aload_n (pc := 49) 0 rfl dX5_wheel_49 rfl ?_
      refine kwp_getc (pc := 50) fl_X5_10 rfl rfl dX5_wheel_50 ?_
      refine kwp_getr (pc := 53) fl_X5_101 rfl rfl dX5_wheel_53 ?_
      refine kwp_iload_n (pc := 56) 1 rfl dX5_wheel_56 rfl ?_
      obtain ⟨hin, h⟩ := h
      refine kwp_iald (pc := 57) rfl hin dX5_wheel_57 ?_
      exact kwp_iret (pc := 58) rfl dX5_wheel_58 ⟨_, rfl, h⟩
    · have h := h.2 hc
      refine kwp_bipush (pc := 21) dX5_wheel_21 bp_m2 ?_
      exact kwp_iret (pc := 23) rfl dX5_wheel_23 ⟨_, rfl, h⟩
  · have h := h.2 hc
    refine kwp_iconst (pc := 8) dX5_wheel_8 ic_m1 ?_
    exact kwp_iret (pc := 9) rfl dX5_wheel_9 ⟨_, rfl, h⟩

set_option maxRecDepth 20000 in
theorem bX5_give_0 {l : Launch} {g : va_G × (Nat → ClassId) × (Nat → Nat → Nat)} (x1 : Int32) (x2 : Int32) (x3 : Int32) (M : kM) (Q : Int32 → kM → Prop)
    (h : kCT l (rg_x, g) mX5_areTwo [.inr (.inr (0, 0)), .inl x1, .inl x2] M (kqi (fun r2 M1 => ((r2 = 0 → kWP l (rg_x, g) mX5_give 19 [] [] M1 (kqi Q)) ∧ (¬ r2 = 0 → kCT l (rg_x, g) mX5_within [.inl x3, .inl 1, .inl 99] M1 (kqi (fun r4 M3 => ((¬ r4 = 0 → vp_in x1 4 ∧ (((x3 ≤ (M3.1 13 0 x1.toNatClampNeg) → kCT l (rg_x, g) mX2_mark [.inr (.inr (2, 0)), .inr (.inr (1, 0))] M3 (kqv (fun M5 => vp_in x1 4 ∧ (vp_in x1 4 ∧ (∀ M6 : kM, M6 = ku M5 13 0 x1.toNatClampNeg ((M5.1 13 0 x1.toNatClampNeg) - x3) → vp_in x2 4 ∧ (vp_in x2 4 ∧ (∀ M7 : kM, M7 = ku M6 13 0 x2.toNatClampNeg (mni 99 ((M6.1 13 0 x2.toNatClampNeg) + x3)) → vp_in x2 4 ∧ (Q (M7.1 13 0 x2.toNatClampNeg) M7)))))))) ∧ (¬ x3 ≤ (M3.1 13 0 x1.toNatClampNeg) → Q (-2) M3)))) ∧ (r4 = 0 → kWP l (rg_x, g) mX5_give 19 [] [] M3 (kqi Q)))))))))) :
    kWP l (rg_x, g) mX5_give 0 [(0, .inr (.inr (0, 0))), (1, .inl x1), (2, .inl x2), (3, .inl x3)] [] M (kqi Q) := by
  refine kwp_aload_n (pc := 0) 0 rfl dX5_give_0 rfl ?_
  refine kwp_iload_n (pc := 1) 1 rfl dX5_give_1 rfl ?_
  refine kwp_iload_n (pc := 2) 2 rfl dX5_give_2 rfl ?_
  refine kwp_callV (pc := 3) (Y := mX5_areTwo) (vs := [.inl x1, .inl x2]) (rest := []) fm_X5_areTwo fi_X5_areTwo ml_X5_159 (by decide) rfl rfl rfl rfl (by simp [kcat]) dX5_give_3 ?_
  refine kCT.mono h (fun v M1 h => ?_)
  obtain ⟨r2, rfl, h⟩ := h
  change kWP l (rg_x, g) mX5_give 6 [(0, .inr (.inr (0, 0))), (1, .inl x1), (2, .inl x2), (3, .inl x3)] [.inl r2] M1 (kqi Q)
  refine kwp_if_eq (pc := 6) 19 dX5_give_6 (by decide) (fun hc => ?_) (fun hc => ?_)
  · have h := h.1 hc
    refine kwp_sub [] rfl ?_
    exact h
  · have h := h.2 hc
    refine kwp_iload_n (pc := 9) 3 rfl dX5_give_9 rfl ?_
    refine kwp_iconst (pc := 10) dX5_give_10 ic_1 ?_
    refine kwp_bipush (pc := 11) dX5_give_11 bp_99 ?_
    refine kwp_callS (pc := 13) (Y := mX5_within) (vs := [.inl x3, .inl 1, .inl 99]) (rest := []) fm_X5_within fs_X5_within ml_X5_61 (by decide) rfl rfl (by simp [kcat]) dX5_give_13 ?_
    refine kCT.mono h (fun v M3 h => ?_)
    obtain ⟨r4, rfl, h⟩ := h
    change kWP l (rg_x, g) mX5_give 16 [(0, .inr (.inr (0, 0))), (1, .inl x1), (2, .inl x2), (3, .inl x3)] [.inl r4] M3 (kqi Q)
    refine kwp_if_ne (pc := 16) 21 dX5_give_16 (by decide) (fun hc => ?_) (fun hc => ?_)
    · have h := h.1 hc
      refine kwp_aload_n (pc := 21) 0 rfl dX5_give_21 rfl ?_
      refine kwp_getc (pc := 22) fl_X5_10 rfl rfl dX5_give_22 ?_
      refine kwp_getr (pc := 25) fl_X5_104 rfl rfl dX5_give_25 ?_
      refine kwp_iload_n (pc := 28) 1 rfl dX5_give_28 rfl ?_
      obtain ⟨hin, h⟩ := h
      refine kwp_iald (pc := 29) rfl hin dX5_give_29 ?_
      refine kwp_iload_n (pc := 30) 3 rfl dX5_give_30 rfl ?_
      refine kwp_icmp_ge (pc := 31) 37 dX5_give_31 (by decide) (fun hc => ?_) (fun hc => ?_)
      · have h := h.1 hc
        refine kwp_aload_n (pc := 37) 0 rfl dX5_give_37 rfl ?_
        refine kwp_getc (pc := 38) fl_X5_19 rfl rfl dX5_give_38 ?_
        refine kwp_aload_n (pc := 41) 0 rfl dX5_give_41 rfl ?_
        refine kwp_getc (pc := 42) fl_X5_10 rfl rfl dX5_give_42 ?_
        refine kwp_callV (pc := 45) (Y := mX2_mark) (vs := [.inr (.inr (1, 0))]) (rest := []) fm_X2_mark fi_X2_mark ml_X5_149 (by decide) rfl rfl rfl rfl (by simp [kcat]) dX5_give_45 ?_
        refine kCT.mono h (fun v M5 h => ?_)
        obtain ⟨rfl, h⟩ := h
        change kWP l (rg_x, g) mX5_give 48 [(0, .inr (.inr (0, 0))), (1, .inl x1), (2, .inl x2), (3, .inl x3)] [] M5 (kqi Q)
        refine kwp_aload_n (pc := 48) 0 rfl dX5_give_48 rfl ?_
        refine kwp_getc (pc := 49) fl_X5_10 rfl rfl dX5_give_49 ?_
        refine kwp_getr (pc := 52) fl_X5_104 rfl rfl dX5_give_52 ?_
        refine kwp_iload_n (pc := 55) 1 rfl dX5_give_55 rfl ?_
        refine kwp_dup2 (pc := 56) dX5_give_56 rfl rfl ?_
        obtain ⟨hin, h⟩ := h
        refine kwp_iald (pc := 57) rfl hin dX5_give_57 ?_
        refine kwp_iload_n (pc := 58) 3 rfl dX5_give_58 rfl ?_
        refine kwp_isub (pc := 59) dX5_give_59 ?_
        obtain ⟨hin, h⟩ := h
        refine kwp_iast (pc := 60) rfl hin dX5_give_60 ?_
        obtain ⟨M6, eM6⟩ : ∃ z : kM, z = ku M5 13 0 x1.toNatClampNeg ((M5.1 13 0 x1.toNatClampNeg) - x3) := ⟨_, rfl⟩
        rw [← eM6]
        have h := h M6 eM6
        refine kwp_aload_n (pc := 61) 0 rfl dX5_give_61 rfl ?_
        refine kwp_getc (pc := 62) fl_X5_10 rfl rfl dX5_give_62 ?_
        refine kwp_getr (pc := 65) fl_X5_104 rfl rfl dX5_give_65 ?_
        refine kwp_iload_n (pc := 68) 2 rfl dX5_give_68 rfl ?_
        refine kwp_bipush (pc := 69) dX5_give_69 bp_99 ?_
        refine kwp_aload_n (pc := 71) 0 rfl dX5_give_71 rfl ?_
        refine kwp_getc (pc := 72) fl_X5_10 rfl rfl dX5_give_72 ?_
        refine kwp_getr (pc := 75) fl_X5_104 rfl rfl dX5_give_75 ?_
        refine kwp_iload_n (pc := 78) 2 rfl dX5_give_78 rfl ?_
        obtain ⟨hin, h⟩ := h
        refine kwp_iald (pc := 79) rfl hin dX5_give_79 ?_
        refine kwp_iload_n (pc := 80) 3 rfl dX5_give_80 rfl ?_
        refine kwp_iadd (pc := 81) dX5_give_81 ?_
        refine kwp_mmin (pc := 82) ml_X5_163 (by simp [kcat]) (by decide) dX5_give_82 ?_
        obtain ⟨hin, h⟩ := h
        refine kwp_iast (pc := 85) rfl hin dX5_give_85 ?_
        obtain ⟨M7, eM7⟩ : ∃ z : kM, z = ku M6 13 0 x2.toNatClampNeg (mni 99 ((M6.1 13 0 x2.toNatClampNeg) + x3)) := ⟨_, rfl⟩
        rw [← eM7]
        have h := h M7 eM7
        refine kwp_aload_n (pc := 86) 0 rfl dX5_give_86 rfl ?_
        refine kwp_getc (pc := 87) fl_X5_10 rfl rfl dX5_give_87 ?_
        refine kwp_getr (pc := 90) fl_X5_104 rfl rfl dX5_give_90 ?_
        refine kwp_iload_n (pc := 93) 2 rfl dX5_give_93 rfl ?_
        obtain ⟨hin, h⟩ := h
        refine kwp_iald (pc := 94) rfl hin dX5_give_94 ?_
        exact kwp_iret (pc := 95) rfl dX5_give_95 ⟨_, rfl, h⟩
      · have h := h.2 hc
        refine kwp_bipush (pc := 34) dX5_give_34 bp_m2 ?_
        exact kwp_iret (pc := 36) rfl dX5_give_36 ⟨_, rfl, h⟩
    · have h := h.2 hc
      refine kwp_sub [] rfl ?_
      exact h

set_option maxRecDepth 20000 in
theorem bX5_give_19 {l : Launch} {g : va_G × (Nat → ClassId) × (Nat → Nat → Nat)}  (M : kM) (Q : Int32 → kM → Prop)
    (h : Q (-1) M) :
    kWP l (rg_x, g) mX5_give 19 [] [] M (kqi Q) := by
  refine kwp_iconst (pc := 19) dX5_give_19 ic_m1 ?_
  exact kwp_iret (pc := 20) rfl dX5_give_20 ⟨_, rfl, h⟩

set_option maxRecDepth 20000 in
theorem bX5_drift_0 {l : Launch} {g : va_G × (Nat → ClassId) × (Nat → Nat → Nat)} (x1 : Int32) (M : kM) (Q : Int32 → kM → Prop)
    (h : kCT l (rg_x, g) mX5_within [.inl x1, .inl 1, .inl 32] M (kqi (fun r2 M1 => ((¬ r2 = 0 → kCT l (rg_x, g) mX3_whoRides [.inr (.inr (1, 0))] M1 (kqi (fun r4 M3 => ((0 ≤ r4 → kWP l (rg_x, g) mX5_drift 29 [(0, .inr (.inr (0, 0))), (1, .inl x1), (2, .inl 0), (3, .inl 0)] [] M3 (kqi Q)) ∧ (¬ 0 ≤ r4 → Q (-2) M3))))) ∧ (r2 = 0 → Q (-1) M1))))) :
    kWP l (rg_x, g) mX5_drift 0 [(0, .inr (.inr (0, 0))), (1, .inl x1)] [] M (kqi Q) := by
  refine kwp_iload_n (pc := 0) 1 rfl dX5_drift_0 rfl ?_
  refine kwp_iconst (pc := 1) dX5_drift_1 ic_1 ?_
  refine kwp_bipush (pc := 2) dX5_drift_2 bp_32 ?_
  refine kwp_callS (pc := 4) (Y := mX5_within) (vs := [.inl x1, .inl 1, .inl 32]) (rest := []) fm_X5_within fs_X5_within ml_X5_61 (by decide) rfl rfl (by simp [kcat]) dX5_drift_4 ?_
  refine kCT.mono h (fun v M1 h => ?_)
  obtain ⟨r2, rfl, h⟩ := h
  change kWP l (rg_x, g) mX5_drift 7 [(0, .inr (.inr (0, 0))), (1, .inl x1)] [.inl r2] M1 (kqi Q)
  refine kwp_if_ne (pc := 7) 12 dX5_drift_7 (by decide) (fun hc => ?_) (fun hc => ?_)
  · have h := h.1 hc
    refine kwp_aload_n (pc := 12) 0 rfl dX5_drift_12 rfl ?_
    refine kwp_getc (pc := 13) fl_X5_10 rfl rfl dX5_drift_13 ?_
    refine kwp_callV (pc := 16) (Y := mX3_whoRides) (vs := []) (rest := []) fm_X3_whoRides fi_X3_whoRides ml_X5_139 (by decide) rfl rfl rfl rfl (by simp [kcat]) dX5_drift_16 ?_
    refine kCT.mono h (fun v M3 h => ?_)
    obtain ⟨r4, rfl, h⟩ := h
    change kWP l (rg_x, g) mX5_drift 19 [(0, .inr (.inr (0, 0))), (1, .inl x1)] [.inl r4] M3 (kqi Q)
    refine kwp_if_ge (pc := 19) 25 dX5_drift_19 (by decide) (fun hc => ?_) (fun hc => ?_)
    · have h := h.1 hc
      refine kwp_iconst (pc := 25) dX5_drift_25 ic_0 ?_
      refine kwp_istore_n (pc := 26) (ls2 := [(2, .inl 0), (0, .inr (.inr (0, 0))), (1, .inl x1)]) dX5_drift_26 rfl (by decide) rfl ?_
      refine kwp_iconst (pc := 27) dX5_drift_27 ic_0 ?_
      refine kwp_istore_n (pc := 28) (ls2 := [(3, .inl 0), (2, .inl 0), (0, .inr (.inr (0, 0))), (1, .inl x1)]) dX5_drift_28 rfl (by decide) rfl ?_
      refine kwp_sub [2, 3, 1, 0] rfl ?_
      exact h
    · have h := h.2 hc
      refine kwp_bipush (pc := 22) dX5_drift_22 bp_m2 ?_
      exact kwp_iret (pc := 24) rfl dX5_drift_24 ⟨_, rfl, h⟩
  · have h := h.2 hc
    refine kwp_iconst (pc := 10) dX5_drift_10 ic_m1 ?_
    exact kwp_iret (pc := 11) rfl dX5_drift_11 ⟨_, rfl, h⟩

set_option maxRecDepth 20000 in
theorem bX5_drift_29 {l : Launch} {g : va_G × (Nat → ClassId) × (Nat → Nat → Nat)} (x1 : Int32) (x2 : Int32) (x3 : Int32) (M : kM) (Q : Int32 → kM → Prop)
    (h : ((x1 ≤ x3 → kWP l (rg_x, g) mX5_drift 110 [(2, .inl x2)] [] M (kqi Q)) ∧ (¬ x1 ≤ x3 → kCT l (rg_x, g) mX3_whoRides [.inr (.inr (1, 0))] M (kqi (fun r2 M1 => ((0 ≤ r2 → kCT l (rg_x, g) mX2_mark [.inr (.inr (2, 0)), .inr (.inr (1, 0))] M1 (kqv (fun M3 => kCT l (rg_x, g) mX3_drawWheel [.inr (.inr (1, 0))] M3 (kqi (fun r5 M4 => ((r5 = 0 → kWP l (rg_x, g) mX5_drift 88 [(0, .inr (.inr (0, 0))), (1, .inl x1), (2, .inl x2), (3, .inl x3), (5, .inl r5)] [.inl 0, .inl r2, .inr (.inr (1, 0))] M4 (kqi Q)) ∧ (¬ r5 = 0 → kWP l (rg_x, g) mX5_drift 88 [(0, .inr (.inr (0, 0))), (1, .inl x1), (2, .inl x2), (3, .inl x3), (5, .inl r5)] [.inl 30, .inl r2, .inr (.inr (1, 0))] M4 (kqi Q)))))))) ∧ (¬ 0 ≤ r2 → kWP l (rg_x, g) mX5_drift 110 [(2, .inl x2)] [] M1 (kqi Q)))))))) :
    kWP l (rg_x, g) mX5_drift 29 [(0, .inr (.inr (0, 0))), (1, .inl x1), (2, .inl x2), (3, .inl x3)] [] M (kqi Q) := by
  refine kwp_iload_n (pc := 29) 3 rfl dX5_drift_29 rfl ?_
  refine kwp_iload_n (pc := 30) 1 rfl dX5_drift_30 rfl ?_
  refine kwp_icmp_ge (pc := 31) 110 dX5_drift_31 (by decide) (fun hc => ?_) (fun hc => ?_)
  · have h := h.1 hc
    refine kwp_sub [2] rfl ?_
    exact h
  · have h := h.2 hc
    refine kwp_aload_n (pc := 34) 0 rfl dX5_drift_34 rfl ?_
    refine kwp_getc (pc := 35) fl_X5_10 rfl rfl dX5_drift_35 ?_
    refine kwp_callV (pc := 38) (Y := mX3_whoRides) (vs := []) (rest := []) fm_X3_whoRides fi_X3_whoRides ml_X5_139 (by decide) rfl rfl rfl rfl (by simp [kcat]) dX5_drift_38 ?_
    refine kCT.mono h (fun v M1 h => ?_)
    obtain ⟨r2, rfl, h⟩ := h
    change kWP l (rg_x, g) mX5_drift 41 [(0, .inr (.inr (0, 0))), (1, .inl x1), (2, .inl x2), (3, .inl x3)] [.inl r2] M1 (kqi Q)
    refine kwp_istore (pc := 41) (ls2 := [(4, .inl r2), (0, .inr (.inr (0, 0))), (1, .inl x1), (2, .inl x2), (3, .inl x3)]) dX5_drift_41 (by decide) rfl ?_
    refine kwp_iload (pc := 43) 0 rfl dX5_drift_43 ?_
    refine kwp_if_ge (pc := 45) 51 dX5_drift_45 (by decide) (fun hc => ?_) (fun hc => ?_)
    · have h := h.1 hc
      refine kwp_aload_n (pc := 51) 1 rfl dX5_drift_51 rfl ?_
      refine kwp_getc (pc := 52) fl_X5_19 rfl rfl dX5_drift_52 ?_
      refine kwp_aload_n (pc := 55) 1 rfl dX5_drift_55 rfl ?_
      refine kwp_getc (pc := 56) fl_X5_10 rfl rfl dX5_drift_56 ?_
      refine kwp_callV (pc := 59) (Y := mX2_mark) (vs := [.inr (.inr (1, 0))]) (rest := []) fm_X2_mark fi_X2_mark ml_X5_149 (by decide) rfl rfl rfl rfl (by simp [kcat]) dX5_drift_59 ?_
      refine kCT.mono h (fun v M3 h => ?_)
      obtain ⟨rfl, h⟩ := h
      change kWP l (rg_x, g) mX5_drift 62 [(4, .inl r2), (0, .inr (.inr (0, 0))), (1, .inl x1), (2, .inl x2), (3, .inl x3)] [] M3 (kqi Q)
      refine kwp_aload_n (pc := 62) 1 rfl dX5_drift_62 rfl ?_
      refine kwp_getc (pc := 63) fl_X5_10 rfl rfl dX5_drift_63 ?_
      refine kwp_callV (pc := 66) (Y := mX3_drawWheel) (vs := []) (rest := []) fm_X3_drawWheel fi_X3_drawWheel ml_X5_169 (by decide) rfl rfl rfl rfl (by simp [kcat]) dX5_drift_66 ?_
      refine kCT.mono h (fun v M4 h => ?_)
      obtain ⟨r5, rfl, h⟩ := h
      change kWP l (rg_x, g) mX5_drift 69 [(4, .inl r2), (0, .inr (.inr (0, 0))), (1, .inl x1), (2, .inl x2), (3, .inl x3)] [.inl r5] M4 (kqi Q)
      refine kwp_istore (pc := 69) (ls2 := [(5, .inl r5), (4, .inl r2), (0, .inr (.inr (0, 0))), (1, .inl x1), (2, .inl x2), (3, .inl x3)]) dX5_drift_69 (by decide) rfl ?_
      refine kwp_aload_n (pc := 71) 2 rfl dX5_drift_71 rfl ?_
      refine kwp_getc (pc := 72) fl_X5_10 rfl rfl dX5_drift_72 ?_
      refine kwp_iload (pc := 75) 1 rfl dX5_drift_75 ?_
      refine kwp_iload (pc := 77) 0 rfl dX5_drift_77 ?_
      refine kwp_if_eq (pc := 79) 87 dX5_drift_79 (by decide) (fun hc => ?_) (fun hc => ?_)
      · have h := h.1 hc
        refine kwp_iconst (pc := 87) dX5_drift_87 ic_0 ?_
        refine kwp_sub [2, 3, 4, 5, 0] rfl ?_
        exact h
      · have h := h.2 hc
        refine kwp_bipush (pc := 82) dX5_drift_82 bp_30 ?_
        refine kwp_goto (pc := 84) 88 dX5_drift_84 (by decide) ?_
        refine kwp_sub [2, 3, 4, 5, 0] rfl ?_
        exact h
    · have h := h.2 hc
      refine kwp_goto (pc := 48) 110 dX5_drift_48 (by decide) ?_
      refine kwp_sub [3] rfl ?_
      exact h

set_option maxRecDepth 20000 in
theorem bX5_drift_88 {l : Launch} {g : va_G × (Nat → ClassId) × (Nat → Nat → Nat)} (x1 : Int32) (x2 : Int32) (x3 : Int32) (x5 : Int32) (s0 : Int32) (s1 : Int32) (t2 : Nat) (M : kM) (Q : Int32 → kM → Prop)
    (h : kCT l (rg_x, g) mX3_rideStage [.inr (.inr (1, t2)), .inl s1, .inl s0] M (kqv (fun M1 => ((x5 = 0 → kWP l (rg_x, g) mX5_drift 102 [(0, .inr (.inr (0, 0))), (1, .inl x1), (3, .inl x3)] [.inl 0, .inl x2] M1 (kqi Q)) ∧ (¬ x5 = 0 → kWP l (rg_x, g) mX5_drift 102 [(0, .inr (.inr (0, 0))), (1, .inl x1), (3, .inl x3)] [.inl 1, .inl x2] M1 (kqi Q)))))) :
    kWP l (rg_x, g) mX5_drift 88 [(0, .inr (.inr (0, 0))), (1, .inl x1), (2, .inl x2), (3, .inl x3), (5, .inl x5)] [.inl s0, .inl s1, .inr (.inr (1, t2))] M (kqi Q) := by
  refine kwp_callV (pc := 88) (Y := mX3_rideStage) (vs := [.inl s1, .inl s0]) (rest := []) fm_X3_rideStage fi_X3_rideStage ml_X5_152 (by decide) rfl rfl rfl rfl (by simp [kcat]) dX5_drift_88 ?_
  refine kCT.mono h (fun v M1 h => ?_)
  obtain ⟨rfl, h⟩ := h
  change kWP l (rg_x, g) mX5_drift 91 [(0, .inr (.inr (0, 0))), (1, .inl x1), (2, .inl x2), (3, .inl x3), (5, .inl x5)] [] M1 (kqi Q)
  refine kwp_iload_n (pc := 91) 2 rfl dX5_drift_91 rfl ?_
  refine kwp_iload (pc := 92) 4 rfl dX5_drift_92 ?_
  refine kwp_if_eq (pc := 94) 101 dX5_drift_94 (by decide) (fun hc => ?_) (fun hc => ?_)
  · have h := h.1 hc
    refine kwp_iconst (pc := 101) dX5_drift_101 ic_0 ?_
    refine kwp_sub [0, 1, 3] rfl ?_
    exact h
  · have h := h.2 hc
    refine kwp_iconst (pc := 97) dX5_drift_97 ic_1 ?_
    refine kwp_goto (pc := 98) 102 dX5_drift_98 (by decide) ?_
    refine kwp_sub [0, 1, 3] rfl ?_
    exact h

set_option maxRecDepth 20000 in
theorem bX5_drift_102 {l : Launch} {g : va_G × (Nat → ClassId) × (Nat → Nat → Nat)} (x1 : Int32) (x3 : Int32) (s0 : Int32) (s1 : Int32) (M : kM) (Q : Int32 → kM → Prop)
    (h : ∀ z1 : Int32, z1 = s1 + s0 → ∀ z2 : Int32, z2 = x3 + 1 → kWP l (rg_x, g) mX5_drift 29 [(0, .inr (.inr (0, 0))), (1, .inl x1), (2, .inl z1), (3, .inl z2)] [] M (kqi Q)) :
    kWP l (rg_x, g) mX5_drift 102 [(0, .inr (.inr (0, 0))), (1, .inl x1), (3, .inl x3)] [.inl s0, .inl s1] M (kqi Q) := by
  refine kwp_iadd (pc := 102) dX5_drift_102 ?_
  obtain ⟨z1, ez1⟩ : ∃ z : Int32, z = s1 + s0 := ⟨_, rfl⟩
  rw [← ez1]
  have h := h z1 ez1
  refine kwp_istore_n (pc := 103) (ls2 := [(2, .inl z1), (0, .inr (.inr (0, 0))), (1, .inl x1), (3, .inl x3)]) dX5_drift_103 rfl (by decide) rfl ?_
  obtain ⟨z2, ez2⟩ : ∃ z : Int32, z = x3 + 1 := ⟨_, rfl⟩
  have h := h z2 ez2
  refine kwp_iinc (pc := 104) (v := z2) (ls2 := [(3, .inl z2), (2, .inl z1), (0, .inr (.inr (0, 0))), (1, .inl x1)]) 3 rfl dX5_drift_104 (by rw [ez2, ic_1]) (by decide) rfl ?_
  refine kwp_goto (pc := 107) 29 dX5_drift_107 (by decide) ?_
  refine kwp_sub [2, 3, 1, 0] rfl ?_
  exact h

set_option maxRecDepth 20000 in
theorem bX5_drift_110 {l : Launch} {g : va_G × (Nat → ClassId) × (Nat → Nat → Nat)} (x2 : Int32) (M : kM) (Q : Int32 → kM → Prop)
    (h : Q x2 M) :
    kWP l (rg_x, g) mX5_drift 110 [(2, .inl x2)] [] M (kqi Q) := by
  refine kwp_iload_n (pc := 110) 0 rfl dX5_drift_110 rfl ?_
  exact kwp_iret (pc := 111) rfl dX5_drift_111 ⟨_, rfl, h⟩

set_option maxRecDepth 20000 in
theorem bX5_undo_0 {l : Launch} {g : va_G × (Nat → ClassId) × (Nat → Nat → Nat)}  (M : kM) (Q : Int32 → kM → Prop)
    (h : ((¬ (M.1 2 0 0) = 0 → kCT l (rg_x, g) mX2_goBack [.inr (.inr (2, 0)), .inr (.inr (1, 0))] M (kqv (fun M1 => Q (M1.1 2 0 0) M1))) ∧ ((M.1 2 0 0) = 0 → Q (-4) M))) :
    kWP l (rg_x, g) mX5_undo 0 [(0, .inr (.inr (0, 0)))] [] M (kqi Q) := by
  refine kwp_aload_n (pc := 0) 0 rfl dX5_undo_0 rfl ?_
  refine kwp_getc (pc := 1) fl_X5_19 rfl rfl dX5_undo_1 ?_
  refine kwp_geti (pc := 4) fl_X5_146 rfl rfl dX5_undo_4 ?_
  refine kwp_if_ne (pc := 7) 13 dX5_undo_7 (by decide) (fun hc => ?_) (fun hc => ?_)
  · have h := h.1 hc
    refine kwp_aload_n (pc := 13) 0 rfl dX5_undo_13 rfl ?_
    refine kwp_getc (pc := 14) fl_X5_19 rfl rfl dX5_undo_14 ?_
    refine kwp_aload_n (pc := 17) 0 rfl dX5_undo_17 rfl ?_
    refine kwp_getc (pc := 18) fl_X5_10 rfl rfl dX5_undo_18 ?_
    refine kwp_callV (pc := 21) (Y := mX2_goBack) (vs := [.inr (.inr (1, 0))]) (rest := []) fm_X2_goBack fi_X2_goBack ml_X5_172 (by decide) rfl rfl rfl rfl (by simp [kcat]) dX5_undo_21 ?_
    refine kCT.mono h (fun v M1 h => ?_)
    obtain ⟨rfl, h⟩ := h
    change kWP l (rg_x, g) mX5_undo 24 [(0, .inr (.inr (0, 0)))] [] M1 (kqi Q)
    refine kwp_aload_n (pc := 24) 0 rfl dX5_undo_24 rfl ?_
    refine kwp_getc (pc := 25) fl_X5_19 rfl rfl dX5_undo_25 ?_
    refine kwp_geti (pc := 28) fl_X5_146 rfl rfl dX5_undo_28 ?_
    exact kwp_iret (pc := 31) rfl dX5_undo_31 ⟨_, rfl, h⟩
  · have h := h.2 hc
    refine kwp_bipush (pc := 10) dX5_undo_10 bp_m4 ?_
    exact kwp_iret (pc := 12) rfl dX5_undo_12 ⟨_, rfl, h⟩

set_option maxRecDepth 20000 in
theorem bX5_seed_0 {l : Launch} {g : va_G × (Nat → ClassId) × (Nat → Nat → Nat)} (x1 : Int32) (M : kM) (Q : Int32 → kM → Prop)
    (h : ((0 ≤ x1 → ∀ z1 : Int32, z1 = M.1 1 0 3 → ∀ M2 : kM, M2 = ku M 1 0 3 x1 → Q z1 M2) ∧ (¬ 0 ≤ x1 → Q (-1) M))) :
    kWP l (rg_x, g) mX5_seed 0 [(0, .inr (.inr (0, 0))), (1, .inl x1)] [] M (kqi Q) := by
  refine kwp_iload_n (pc := 0) 1 rfl dX5_seed_0 rfl ?_
  refine kwp_if_ge (pc := 1) 6 dX5_seed_1 (by decide) (fun hc => ?_) (fun hc => ?_)
  · have h := h.1 hc
    refine kwp_aload_n (pc := 6) 0 rfl dX5_seed_6 rfl ?_
    refine kwp_getc (pc := 7) fl_X5_10 rfl rfl dX5_seed_7 ?_
    refine kwp_geti (pc := 10) fl_X5_175 rfl rfl dX5_seed_10 ?_
    obtain ⟨z1, ez1⟩ : ∃ z : Int32, z = M.1 1 0 3 := ⟨_, rfl⟩
    rw [← ez1]
    have h := h z1 ez1
    refine kwp_istore_n (pc := 13) (ls2 := [(2, .inl z1), (0, .inr (.inr (0, 0))), (1, .inl x1)]) dX5_seed_13 rfl (by decide) rfl ?_
    refine kwp_aload_n (pc := 14) 1 rfl dX5_seed_14 rfl ?_
    refine kwp_getc (pc := 15) fl_X5_10 rfl rfl dX5_seed_15 ?_
    refine kwp_iload_n (pc := 18) 2 rfl dX5_seed_18 rfl ?_
    refine kwp_put (pc := 19) fp_X5_175 rfl rfl trivial dX5_seed_19 ?_
    obtain ⟨M2, eM2⟩ : ∃ z : kM, z = ku M 1 0 3 x1 := ⟨_, rfl⟩
    rw [← eM2]
    have h := h M2 eM2
    refine kwp_iload_n (pc := 22) 0 rfl dX5_seed_22 rfl ?_
    exact kwp_iret (pc := 23) rfl dX5_seed_23 ⟨_, rfl, h⟩
  · have h := h.2 hc
    refine kwp_iconst (pc := 4) dX5_seed_4 ic_m1 ?_
    exact kwp_iret (pc := 5) rfl dX5_seed_5 ⟨_, rfl, h⟩

set_option maxRecDepth 20000 in
theorem bX5_ahead_0 {l : Launch} {g : va_G × (Nat → ClassId) × (Nat → Nat → Nat)} (x1 : Int32) (x2 : Int32) (M : kM) (Q : Int32 → kM → Prop)
    (h : kCT l (rg_x, g) mX5_isRider [.inr (.inr (0, 0)), .inl x1] M (kqi (fun r2 M1 => ((r2 = 0 → kWP l (rg_x, g) mX5_ahead 15 [] [] M1 (kqi Q)) ∧ (¬ r2 = 0 → kCT l (rg_x, g) mX5_isZeroOrOne [.inl x2] M1 (kqi (fun r4 M3 => ((¬ r4 = 0 → kCT l (rg_x, g) mX0_begin [.inr (.inr (3, 0)), .inr (.inr (1, 0))] M3 (kqv (fun M5 => kCT l (rg_x, g) mX0_rideToForge [.inr (.inr (3, 0)), .inl x1, .inl 0] M5 (kqi (fun r7 M6 => ((¬ x2 = 0 → vp_in x1 4 ∧ (kWP l (rg_x, g) mX5_ahead 58 [] [.inl (M6.1 13 2 x1.toNatClampNeg)] M6 (kqi Q))) ∧ (x2 = 0 → kWP l (rg_x, g) mX5_ahead 58 [] [.inl r7] M6 (kqi Q)))))))) ∧ (r4 = 0 → kWP l (rg_x, g) mX5_ahead 15 [] [] M3 (kqi Q)))))))))) :
    kWP l (rg_x, g) mX5_ahead 0 [(0, .inr (.inr (0, 0))), (1, .inl x1), (2, .inl x2)] [] M (kqi Q) := by
  refine kwp_aload_n (pc := 0) 0 rfl dX5_ahead_0 rfl ?_
  refine kwp_iload_n (pc := 1) 1 rfl dX5_ahead_1 rfl ?_
  refine kwp_callV (pc := 2) (Y := mX5_isRider) (vs := [.inl x1]) (rest := []) fm_X5_isRider fi_X5_isRider ml_X5_91 (by decide) rfl rfl rfl rfl (by simp [kcat]) dX5_ahead_2 ?_
  refine kCT.mono h (fun v M1 h => ?_)
  obtain ⟨r2, rfl, h⟩ := h
  change kWP l (rg_x, g) mX5_ahead 5 [(0, .inr (.inr (0, 0))), (1, .inl x1), (2, .inl x2)] [.inl r2] M1 (kqi Q)
  refine kwp_if_eq (pc := 5) 15 dX5_ahead_5 (by decide) (fun hc => ?_) (fun hc => ?_)
  · have h := h.1 hc
    refine kwp_sub [] rfl ?_
    exact h
  · have h := h.2 hc
    refine kwp_iload_n (pc := 8) 2 rfl dX5_ahead_8 rfl ?_
    refine kwp_callS (pc := 9) (Y := mX5_isZeroOrOne) (vs := [.inl x2]) (rest := []) fm_X5_isZeroOrOne fs_X5_isZeroOrOne ml_X5_178 (by decide) rfl rfl (by simp [kcat]) dX5_ahead_9 ?_
    refine kCT.mono h (fun v M3 h => ?_)
    obtain ⟨r4, rfl, h⟩ := h
    change kWP l (rg_x, g) mX5_ahead 12 [(0, .inr (.inr (0, 0))), (1, .inl x1), (2, .inl x2)] [.inl r4] M3 (kqi Q)
    refine kwp_if_ne (pc := 12) 17 dX5_ahead_12 (by decide) (fun hc => ?_) (fun hc => ?_)
    · have h := h.1 hc
      refine kwp_aload_n (pc := 17) 0 rfl dX5_ahead_17 rfl ?_
      refine kwp_getc (pc := 18) fl_X5_36 rfl rfl dX5_ahead_18 ?_
      refine kwp_aload_n (pc := 21) 0 rfl dX5_ahead_21 rfl ?_
      refine kwp_getc (pc := 22) fl_X5_10 rfl rfl dX5_ahead_22 ?_
      refine kwp_callV (pc := 25) (Y := mX0_begin) (vs := [.inr (.inr (1, 0))]) (rest := []) fm_X0_begin fi_X0_begin ml_X5_181 (by decide) rfl rfl rfl rfl (by simp [kcat]) dX5_ahead_25 ?_
      refine kCT.mono h (fun v M5 h => ?_)
      obtain ⟨rfl, h⟩ := h
      change kWP l (rg_x, g) mX5_ahead 28 [(0, .inr (.inr (0, 0))), (1, .inl x1), (2, .inl x2)] [] M5 (kqi Q)
      refine kwp_aload_n (pc := 28) 0 rfl dX5_ahead_28 rfl ?_
      refine kwp_getc (pc := 29) fl_X5_36 rfl rfl dX5_ahead_29 ?_
      refine kwp_iload_n (pc := 32) 1 rfl dX5_ahead_32 rfl ?_
      refine kwp_iconst (pc := 33) dX5_ahead_33 ic_0 ?_
      refine kwp_callV (pc := 34) (Y := mX0_rideToForge) (vs := [.inl x1, .inl 0]) (rest := []) fm_X0_rideToForge fi_X0_rideToForge ml_X5_184 (by decide) rfl rfl rfl rfl (by simp [kcat]) dX5_ahead_34 ?_
      refine kCT.mono h (fun v M6 h => ?_)
      obtain ⟨r7, rfl, h⟩ := h
      change kWP l (rg_x, g) mX5_ahead 37 [(0, .inr (.inr (0, 0))), (1, .inl x1), (2, .inl x2)] [.inl r7] M6 (kqi Q)
      refine kwp_istore_n (pc := 37) (ls2 := [(3, .inl r7), (0, .inr (.inr (0, 0))), (1, .inl x1), (2, .inl x2)]) dX5_ahead_37 rfl (by decide) rfl ?_
      refine kwp_iload_n (pc := 38) 3 rfl dX5_ahead_38 rfl ?_
      refine kwp_if_ne (pc := 39) 46 dX5_ahead_39 (by decide) (fun hc => ?_) (fun hc => ?_)
      · have h := h.1 hc
        refine kwp_aload_n (pc := 46) 1 rfl dX5_ahead_46 rfl ?_
        refine kwp_getc (pc := 47) fl_X5_36 rfl rfl dX5_ahead_47 ?_
        refine kwp_getc (pc := 50) fl_X5_187 rfl rfl dX5_ahead_50 ?_
        refine kwp_getr (pc := 53) fl_X5_104 rfl rfl dX5_ahead_53 ?_
        refine kwp_iload_n (pc := 56) 2 rfl dX5_ahead_56 rfl ?_
        obtain ⟨hin, h⟩ := h
        refine kwp_iald (pc := 57) rfl hin dX5_ahead_57 ?_
        refine kwp_sub [] rfl ?_
        exact h
      · have h := h.2 hc
        refine kwp_iload_n (pc := 42) 0 rfl dX5_ahead_42 rfl ?_
        refine kwp_goto (pc := 43) 58 dX5_ahead_43 (by decide) ?_
        refine kwp_sub [] rfl ?_
        exact h
    · have h := h.2 hc
      refine kwp_sub [] rfl ?_
      exact h

set_option maxRecDepth 20000 in
theorem bX5_ahead_15 {l : Launch} {g : va_G × (Nat → ClassId) × (Nat → Nat → Nat)}  (M : kM) (Q : Int32 → kM → Prop)
    (h : Q (-1) M) :
    kWP l (rg_x, g) mX5_ahead 15 [] [] M (kqi Q) := by
  refine kwp_iconst (pc := 15) dX5_ahead_15 ic_m1 ?_
  exact kwp_iret (pc := 16) rfl dX5_ahead_16 ⟨_, rfl, h⟩

set_option maxRecDepth 20000 in
theorem bX5_ahead_58 {l : Launch} {g : va_G × (Nat → ClassId) × (Nat → Nat → Nat)} (s0 : Int32) (M : kM) (Q : Int32 → kM → Prop)
    (h : Q s0 M) :
    kWP l (rg_x, g) mX5_ahead 58 [] [.inl s0] M (kqi Q) := by
  exact kwp_iret (pc := 58) rfl dX5_ahead_58 ⟨_, rfl, h⟩

set_option maxRecDepth 20000 in
theorem bX5_comes_0 {l : Launch} {g : va_G × (Nat → ClassId) × (Nat → Nat → Nat)} (x1 : Int32) (x2 : Int32) (M : kM) (Q : Int32 → kM → Prop)
    (h : kCT l (rg_x, g) mX5_isRider [.inr (.inr (0, 0)), .inl x1] M (kqi (fun r2 M1 => ((r2 = 0 → kWP l (rg_x, g) mX5_comes 23 [] [] M1 (kqi Q)) ∧ (¬ r2 = 0 → kCT l (rg_x, g) mX5_within [.inl x2, .inl 0, .inl (M1.1 1 0 0)] M1 (kqi (fun r4 M3 => ((¬ r4 = 0 → vp_in x1 4 ∧ ((((M3.1 11 0 x1.toNatClampNeg) ≤ x2 → kCT l (rg_x, g) mX0_begin [.inr (.inr (3, 0)), .inr (.inr (1, 0))] M3 (kqv (fun M5 => kCT l (rg_x, g) mX0_rideToForge [.inr (.inr (3, 0)), .inl x1, .inl 0] M5 (kqi (fun r7 M6 => kCT l (rg_x, g) mX0_cameTo [.inr (.inr (3, 0)), .inl x1, .inl x2] M6 (kqi (fun r9 M8 => Q r9 M8))))))) ∧ (¬ (M3.1 11 0 x1.toNatClampNeg) ≤ x2 → Q (-4) M3)))) ∧ (r4 = 0 → kWP l (rg_x, g) mX5_comes 23 [] [] M3 (kqi Q)))))))))) :
    kWP l (rg_x, g) mX5_comes 0 [(0, .inr (.inr (0, 0))), (1, .inl x1), (2, .inl x2)] [] M (kqi Q) := by
  refine kwp_aload_n (pc := 0) 0 rfl dX5_comes_0 rfl ?_
  refine kwp_iload_n (pc := 1) 1 rfl dX5_comes_1 rfl ?_
  refine kwp_callV (pc := 2) (Y := mX5_isRider) (vs := [.inl x1]) (rest := []) fm_X5_isRider fi_X5_isRider ml_X5_91 (by decide) rfl rfl rfl rfl (by simp [kcat]) dX5_comes_2 ?_
  refine kCT.mono h (fun v M1 h => ?_)
  obtain ⟨r2, rfl, h⟩ := h
  change kWP l (rg_x, g) mX5_comes 5 [(0, .inr (.inr (0, 0))), (1, .inl x1), (2, .inl x2)] [.inl r2] M1 (kqi Q)
  refine kwp_if_eq (pc := 5) 23 dX5_comes_5 (by decide) (fun hc => ?_) (fun hc => ?_)
  · have h := h.1 hc
    refine kwp_sub [] rfl ?_
    exact h
  · have h := h.2 hc
    refine kwp_iload_n (pc := 8) 2 rfl dX5_comes_8 rfl ?_
    refine kwp_iconst (pc := 9) dX5_comes_9 ic_0 ?_
    refine kwp_aload_n (pc := 10) 0 rfl dX5_comes_10 rfl ?_
    refine kwp_getc (pc := 11) fl_X5_10 rfl rfl dX5_comes_11 ?_
    refine kwp_geti (pc := 14) fl_X5_65 rfl rfl dX5_comes_14 ?_
    refine kwp_callS (pc := 17) (Y := mX5_within) (vs := [.inl x2, .inl 0, .inl (M1.1 1 0 0)]) (rest := []) fm_X5_within fs_X5_within ml_X5_61 (by decide) rfl rfl (by simp [kcat]) dX5_comes_17 ?_
    refine kCT.mono h (fun v M3 h => ?_)
    obtain ⟨r4, rfl, h⟩ := h
    change kWP l (rg_x, g) mX5_comes 20 [(0, .inr (.inr (0, 0))), (1, .inl x1), (2, .inl x2)] [.inl r4] M3 (kqi Q)
    refine kwp_if_ne (pc := 20) 25 dX5_comes_20 (by decide) (fun hc => ?_) (fun hc => ?_)
    · have h := h.1 hc
      refine kwp_iload_n (pc := 25) 2 rfl dX5_comes_25 rfl ?_
      refine kwp_aload_n (pc := 26) 0 rfl dX5_comes_26 rfl ?_
      refine kwp_getc (pc := 27) fl_X5_10 rfl rfl dX5_comes_27 ?_
      refine kwp_getr (pc := 30) fl_X5_98 rfl rfl dX5_comes_30 ?_
      refine kwp_iload_n (pc := 33) 1 rfl dX5_comes_33 rfl ?_
      obtain ⟨hin, h⟩ := h
      refine kwp_iald (pc := 34) rfl hin dX5_comes_34 ?_
      refine kwp_icmp_ge (pc := 35) 41 dX5_comes_35 (by decide) (fun hc => ?_) (fun hc => ?_)
      · have h := h.1 hc
        refine kwp_aload_n (pc := 41) 0 rfl dX5_comes_41 rfl ?_
        refine kwp_getc (pc := 42) fl_X5_36 rfl rfl dX5_comes_42 ?_
        refine kwp_aload_n (pc := 45) 0 rfl dX5_comes_45 rfl ?_
        refine kwp_getc (pc := 46) fl_X5_10 rfl rfl dX5_comes_46 ?_
        refine kwp_callV (pc := 49) (Y := mX0_begin) (vs := [.inr (.inr (1, 0))]) (rest := []) fm_X0_begin fi_X0_begin ml_X5_181 (by decide) rfl rfl rfl rfl (by simp [kcat]) dX5_comes_49 ?_
        refine kCT.mono h (fun v M5 h => ?_)
        obtain ⟨rfl, h⟩ := h
        change kWP l (rg_x, g) mX5_comes 52 [(0, .inr (.inr (0, 0))), (1, .inl x1), (2, .inl x2)] [] M5 (kqi Q)
        refine kwp_aload_n (pc := 52) 0 rfl dX5_comes_52 rfl ?_
        refine kwp_getc (pc := 53) fl_X5_36 rfl rfl dX5_comes_53 ?_
        refine kwp_iload_n (pc := 56) 1 rfl dX5_comes_56 rfl ?_
        refine kwp_iconst (pc := 57) dX5_comes_57 ic_0 ?_
        refine kwp_callV (pc := 58) (Y := mX0_rideToForge) (vs := [.inl x1, .inl 0]) (rest := []) fm_X0_rideToForge fi_X0_rideToForge ml_X5_184 (by decide) rfl rfl rfl rfl (by simp [kcat]) dX5_comes_58 ?_
        refine kCT.mono h (fun v M6 h => ?_)
        obtain ⟨r7, rfl, h⟩ := h
        change kWP l (rg_x, g) mX5_comes 61 [(0, .inr (.inr (0, 0))), (1, .inl x1), (2, .inl x2)] [.inl r7] M6 (kqi Q)
        refine kwp_pop (pc := 61) dX5_comes_61 rfl ?_
        refine kwp_aload_n (pc := 62) 0 rfl dX5_comes_62 rfl ?_
        refine kwp_getc (pc := 63) fl_X5_36 rfl rfl dX5_comes_63 ?_
        refine kwp_iload_n (pc := 66) 1 rfl dX5_comes_66 rfl ?_
        refine kwp_iload_n (pc := 67) 2 rfl dX5_comes_67 rfl ?_
        refine kwp_callV (pc := 68) (Y := mX0_cameTo) (vs := [.inl x1, .inl x2]) (rest := []) fm_X0_cameTo fi_X0_cameTo ml_X5_190 (by decide) rfl rfl rfl rfl (by simp [kcat]) dX5_comes_68 ?_
        refine kCT.mono h (fun v M8 h => ?_)
        obtain ⟨r9, rfl, h⟩ := h
        change kWP l (rg_x, g) mX5_comes 71 [(0, .inr (.inr (0, 0))), (1, .inl x1), (2, .inl x2)] [.inl r9] M8 (kqi Q)
        exact kwp_iret (pc := 71) rfl dX5_comes_71 ⟨_, rfl, h⟩
      · have h := h.2 hc
        refine kwp_bipush (pc := 38) dX5_comes_38 bp_m4 ?_
        exact kwp_iret (pc := 40) rfl dX5_comes_40 ⟨_, rfl, h⟩
    · have h := h.2 hc
      refine kwp_sub [] rfl ?_
      exact h

set_option maxRecDepth 20000 in
theorem bX5_comes_23 {l : Launch} {g : va_G × (Nat → ClassId) × (Nat → Nat → Nat)}  (M : kM) (Q : Int32 → kM → Prop)
    (h : Q (-1) M) :
    kWP l (rg_x, g) mX5_comes 23 [] [] M (kqi Q) := by
  refine kwp_iconst (pc := 23) dX5_comes_23 ic_m1 ?_
  exact kwp_iret (pc := 24) rfl dX5_comes_24 ⟨_, rfl, h⟩

set_option maxRecDepth 20000 in
theorem bX5_first_0 {l : Launch} {g : va_G × (Nat → ClassId) × (Nat → Nat → Nat)}  (M : kM) (Q : Int32 → kM → Prop)
    (h : kCT l (rg_x, g) mX0_begin [.inr (.inr (3, 0)), .inr (.inr (1, 0))] M (kqv (fun M1 => kCT l (rg_x, g) mX0_whoIsFirst [.inr (.inr (3, 0))] M1 (kqi (fun r3 M2 => Q r3 M2))))) :
    kWP l (rg_x, g) mX5_first 0 [(0, .inr (.inr (0, 0)))] [] M (kqi Q) := by
  refine kwp_aload_n (pc := 0) 0 rfl dX5_first_0 rfl ?_
  refine kwp_getc (pc := 1) fl_X5_36 rfl rfl dX5_first_1 ?_
  refine kwp_aload_n (pc := 4) 0 rfl dX5_first_4 rfl ?_
  refine kwp_getc (pc := 5) fl_X5_10 rfl rfl dX5_first_5 ?_
  refine kwp_callV (pc := 8) (Y := mX0_begin) (vs := [.inr (.inr (1, 0))]) (rest := []) fm_X0_begin fi_X0_begin ml_X5_181 (by decide) rfl rfl rfl rfl (by simp [kcat]) dX5_first_8 ?_
  refine kCT.mono h (fun v M1 h => ?_)
  obtain ⟨rfl, h⟩ := h
  change kWP l (rg_x, g) mX5_first 11 [(0, .inr (.inr (0, 0)))] [] M1 (kqi Q)
  refine kwp_aload_n (pc := 11) 0 rfl dX5_first_11 rfl ?_
  refine kwp_getc (pc := 12) fl_X5_36 rfl rfl dX5_first_12 ?_
  refine kwp_callV (pc := 15) (Y := mX0_whoIsFirst) (vs := []) (rest := []) fm_X0_whoIsFirst fi_X0_whoIsFirst ml_X5_193 (by decide) rfl rfl rfl rfl (by simp [kcat]) dX5_first_15 ?_
  refine kCT.mono h (fun v M2 h => ?_)
  obtain ⟨r3, rfl, h⟩ := h
  change kWP l (rg_x, g) mX5_first 18 [(0, .inr (.inr (0, 0)))] [.inl r3] M2 (kqi Q)
  exact kwp_iret (pc := 18) rfl dX5_first_18 ⟨_, rfl, h⟩

set_option maxRecDepth 20000 in
theorem bX5_caught_0 {l : Launch} {g : va_G × (Nat → ClassId) × (Nat → Nat → Nat)} (x1 : Int32) (x2 : Int32) (M : kM) (Q : Int32 → kM → Prop)
    (h : kCT l (rg_x, g) mX5_areTwo [.inr (.inr (0, 0)), .inl x1, .inl x2] M (kqi (fun r2 M1 => ((¬ r2 = 0 → kCT l (rg_x, g) mX0_begin [.inr (.inr (3, 0)), .inr (.inr (1, 0))] M1 (kqv (fun M3 => kCT l (rg_x, g) mX0_rideToForge [.inr (.inr (3, 0)), .inl x1, .inl 0] M3 (kqi (fun r5 M4 => kCT l (rg_x, g) mX0_rideToForge [.inr (.inr (3, 0)), .inl x2, .inl 0] M4 (kqi (fun r7 M6 => vp_in x1 4 ∧ (vp_in x2 4 ∧ (∀ z8 : Int32, z8 = mxi 1 (mxi (M6.1 11 0 x1.toNatClampNeg) (M6.1 11 0 x2.toNatClampNeg)) → kWP l (rg_x, g) mX5_caught 71 [(0, .inr (.inr (0, 0))), (1, .inl x1), (2, .inl x2), (4, .inl z8)] [] M6 (kqi Q)))))))))) ∧ (r2 = 0 → Q (-1) M1))))) :
    kWP l (rg_x, g) mX5_caught 0 [(0, .inr (.inr (0, 0))), (1, .inl x1), (2, .inl x2)] [] M (kqi Q) := by
  refine kwp_aload_n (pc := 0) 0 rfl dX5_caught_0 rfl ?_
  refine kwp_iload_n (pc := 1) 1 rfl dX5_caught_1 rfl ?_
  refine kwp_iload_n (pc := 2) 2 rfl dX5_caught_2 rfl ?_
  refine kwp_callV (pc := 3) (Y := mX5_areTwo) (vs := [.inl x1, .inl x2]) (rest := []) fm_X5_areTwo fi_X5_areTwo ml_X5_159 (by decide) rfl rfl rfl rfl (by simp [kcat]) dX5_caught_3 ?_
  refine kCT.mono h (fun v M1 h => ?_)
  obtain ⟨r2, rfl, h⟩ := h
  change kWP l (rg_x, g) mX5_caught 6 [(0, .inr (.inr (0, 0))), (1, .inl x1), (2, .inl x2)] [.inl r2] M1 (kqi Q)
  refine kwp_if_ne (pc := 6) 11 dX5_caught_6 (by decide) (fun hc => ?_) (fun hc => ?_)
  · have h := h.1 hc
    refine kwp_aload_n (pc := 11) 0 rfl dX5_caught_11 rfl ?_
    refine kwp_getc (pc := 12) fl_X5_36 rfl rfl dX5_caught_12 ?_
    refine kwp_aload_n (pc := 15) 0 rfl dX5_caught_15 rfl ?_
    refine kwp_getc (pc := 16) fl_X5_10 rfl rfl dX5_caught_16 ?_
    refine kwp_callV (pc := 19) (Y := mX0_begin) (vs := [.inr (.inr (1, 0))]) (rest := []) fm_X0_begin fi_X0_begin ml_X5_181 (by decide) rfl rfl rfl rfl (by simp [kcat]) dX5_caught_19 ?_
    refine kCT.mono h (fun v M3 h => ?_)
    obtain ⟨rfl, h⟩ := h
    change kWP l (rg_x, g) mX5_caught 22 [(0, .inr (.inr (0, 0))), (1, .inl x1), (2, .inl x2)] [] M3 (kqi Q)
    refine kwp_aload_n (pc := 22) 0 rfl dX5_caught_22 rfl ?_
    refine kwp_getc (pc := 23) fl_X5_36 rfl rfl dX5_caught_23 ?_
    refine kwp_iload_n (pc := 26) 1 rfl dX5_caught_26 rfl ?_
    refine kwp_iconst (pc := 27) dX5_caught_27 ic_0 ?_
    refine kwp_callV (pc := 28) (Y := mX0_rideToForge) (vs := [.inl x1, .inl 0]) (rest := []) fm_X0_rideToForge fi_X0_rideToForge ml_X5_184 (by decide) rfl rfl rfl rfl (by simp [kcat]) dX5_caught_28 ?_
    refine kCT.mono h (fun v M4 h => ?_)
    obtain ⟨r5, rfl, h⟩ := h
    change kWP l (rg_x, g) mX5_caught 31 [(0, .inr (.inr (0, 0))), (1, .inl x1), (2, .inl x2)] [.inl r5] M4 (kqi Q)
    refine kwp_pop (pc := 31) dX5_caught_31 rfl ?_
    refine kwp_aload_n (pc := 32) 0 rfl dX5_caught_32 rfl ?_
    refine kwp_getc (pc := 33) fl_X5_36 rfl rfl dX5_caught_33 ?_
    refine kwp_iload_n (pc := 36) 2 rfl dX5_caught_36 rfl ?_
    refine kwp_iconst (pc := 37) dX5_caught_37 ic_0 ?_
    refine kwp_callV (pc := 38) (Y := mX0_rideToForge) (vs := [.inl x2, .inl 0]) (rest := []) fm_X0_rideToForge fi_X0_rideToForge ml_X5_184 (by decide) rfl rfl rfl rfl (by simp [kcat]) dX5_caught_38 ?_
    refine kCT.mono h (fun v M6 h => ?_)
    obtain ⟨r7, rfl, h⟩ := h
    change kWP l (rg_x, g) mX5_caught 41 [(0, .inr (.inr (0, 0))), (1, .inl x1), (2, .inl x2)] [.inl r7] M6 (kqi Q)
    refine kwp_pop (pc := 41) dX5_caught_41 rfl ?_
    refine kwp_iconst (pc := 42) dX5_caught_42 ic_1 ?_
    refine kwp_aload_n (pc := 43) 0 rfl dX5_caught_43 rfl ?_
    refine kwp_getc (pc := 44) fl_X5_10 rfl rfl dX5_caught_44 ?_
    refine kwp_getr (pc := 47) fl_X5_98 rfl rfl dX5_caught_47 ?_
    refine kwp_iload_n (pc := 50) 1 rfl dX5_caught_50 rfl ?_
    obtain ⟨hin, h⟩ := h
    refine kwp_iald (pc := 51) rfl hin dX5_caught_51 ?_
    refine kwp_aload_n (pc := 52) 0 rfl dX5_caught_52 rfl ?_
    refine kwp_getc (pc := 53) fl_X5_10 rfl rfl dX5_caught_53 ?_
    refine kwp_getr (pc := 56) fl_X5_98 rfl rfl dX5_caught_56 ?_
    refine kwp_iload_n (pc := 59) 2 rfl dX5_caught_59 rfl ?_
    obtain ⟨hin, h⟩ := h
    refine kwp_iald (pc := 60) rfl hin dX5_caught_60 ?_
    refine kwp_mmax (pc := 61) ml_X5_196 (by simp [kcat]) (by decide) dX5_caught_61 ?_
    refine kwp_mmax (pc := 64) ml_X5_196 (by simp [kcat]) (by decide) dX5_caught_64 ?_
    obtain ⟨z8, ez8⟩ : ∃ z : Int32, z = mxi 1 (mxi (M6.1 11 0 x1.toNatClampNeg) (M6.1 11 0 x2.toNatClampNeg)) := ⟨_, rfl⟩
    rw [← ez8]
    have h := h z8 ez8
    refine kwp_istore_n (pc := 67) (ls2 := [(3, .inl z8), (0, .inr (.inr (0, 0))), (1, .inl x1), (2, .inl x2)]) dX5_caught_67 rfl (by decide) rfl ?_
    refine kwp_iload_n (pc := 68) 0 rfl dX5_caught_68 rfl ?_
    refine kwp_istore (pc := 69) (ls2 := [(4, .inl z8), (3, .inl z8), (0, .inr (.inr (0, 0))), (1, .inl x1), (2, .inl x2)]) dX5_caught_69 (by decide) rfl ?_
    refine kwp_sub [2, 3, 4, 0] rfl ?_
    exact h
  · have h := h.2 hc
    refine kwp_iconst (pc := 9) dX5_caught_9 ic_m1 ?_
    exact kwp_iret (pc := 10) rfl dX5_caught_10 ⟨_, rfl, h⟩

set_option maxRecDepth 20000 in
theorem bX5_caught_71 {l : Launch} {g : va_G × (Nat → ClassId) × (Nat → Nat → Nat)} (x1 : Int32) (x2 : Int32) (x4 : Int32) (M : kM) (Q : Int32 → kM → Prop)
    (h : (((M.1 1 0 0) < x4 → Q (-4) M) ∧ (¬ (M.1 1 0 0) < x4 → kCT l (rg_x, g) mX0_cameTo [.inr (.inr (3, 0)), .inl x2, .inl x4] M (kqi (fun r2 M1 => kCT l (rg_x, g) mX0_cameTo [.inr (.inr (3, 0)), .inl x1, .inl x4] M1 (kqi (fun r4 M3 => ((r4 < r2 → ∀ z5 : Int32, z5 = x4 + 1 → kWP l (rg_x, g) mX5_caught 71 [(0, .inr (.inr (0, 0))), (1, .inl x1), (2, .inl x2), (4, .inl z5)] [] M3 (kqi Q)) ∧ (¬ r4 < r2 → Q x4 M3))))))))) :
    kWP l (rg_x, g) mX5_caught 71 [(0, .inr (.inr (0, 0))), (1, .inl x1), (2, .inl x2), (4, .inl x4)] [] M (kqi Q) := by
  refine kwp_iload (pc := 71) 3 rfl dX5_caught_71 ?_
  refine kwp_aload_n (pc := 73) 0 rfl dX5_caught_73 rfl ?_
  refine kwp_getc (pc := 74) fl_X5_10 rfl rfl dX5_caught_74 ?_
  refine kwp_geti (pc := 77) fl_X5_65 rfl rfl dX5_caught_77 ?_
  refine kwp_icmp_gt (pc := 80) 115 dX5_caught_80 (by decide) (fun hc => ?_) (fun hc => ?_)
  · have h := h.1 hc
    refine kwp_bipush (pc := 115) dX5_caught_115 bp_m4 ?_
    exact kwp_iret (pc := 117) rfl dX5_caught_117 ⟨_, rfl, h⟩
  · have h := h.2 hc
    refine kwp_aload_n (pc := 83) 0 rfl dX5_caught_83 rfl ?_
    refine kwp_getc (pc := 84) fl_X5_36 rfl rfl dX5_caught_84 ?_
    refine kwp_iload_n (pc := 87) 2 rfl dX5_caught_87 rfl ?_
    refine kwp_iload (pc := 88) 3 rfl dX5_caught_88 ?_
    refine kwp_callV (pc := 90) (Y := mX0_cameTo) (vs := [.inl x2, .inl x4]) (rest := []) fm_X0_cameTo fi_X0_cameTo ml_X5_190 (by decide) rfl rfl rfl rfl (by simp [kcat]) dX5_caught_90 ?_
    refine kCT.mono h (fun v M1 h => ?_)
    obtain ⟨r2, rfl, h⟩ := h
    change kWP l (rg_x, g) mX5_caught 93 [(0, .inr (.inr (0, 0))), (1, .inl x1), (2, .inl x2), (4, .inl x4)] [.inl r2] M1 (kqi Q)
    refine kwp_aload_n (pc := 93) 0 rfl dX5_caught_93 rfl ?_
    refine kwp_getc (pc := 94) fl_X5_36 rfl rfl dX5_caught_94 ?_
    refine kwp_iload_n (pc := 97) 1 rfl dX5_caught_97 rfl ?_
    refine kwp_iload (pc := 98) 3 rfl dX5_caught_98 ?_
    refine kwp_callV (pc := 100) (Y := mX0_cameTo) (vs := [.inl x1, .inl x4]) (rest := [.inl r2]) fm_X0_cameTo fi_X0_cameTo ml_X5_190 (by decide) rfl rfl rfl rfl (by simp [kcat]) dX5_caught_100 ?_
    refine kCT.mono h (fun v M3 h => ?_)
    obtain ⟨r4, rfl, h⟩ := h
    change kWP l (rg_x, g) mX5_caught 103 [(0, .inr (.inr (0, 0))), (1, .inl x1), (2, .inl x2), (4, .inl x4)] [.inl r4, .inl r2] M3 (kqi Q)
    refine kwp_icmp_gt (pc := 103) 109 dX5_caught_103 (by decide) (fun hc => ?_) (fun hc => ?_)
    · have h := h.1 hc
      obtain ⟨z5, ez5⟩ : ∃ z : Int32, z = x4 + 1 := ⟨_, rfl⟩
      have h := h z5 ez5
      refine kwp_iinc (pc := 109) (v := z5) (ls2 := [(4, .inl z5), (0, .inr (.inr (0, 0))), (1, .inl x1), (2, .inl x2)]) 3 rfl dX5_caught_109 (by rw [ez5, ic_1]) (by decide) rfl ?_
      refine kwp_goto (pc := 112) 71 dX5_caught_112 (by decide) ?_
      refine kwp_sub [1, 2, 3, 0] rfl ?_
      exact h
    · have h := h.2 hc
      refine kwp_iload (pc := 106) 3 rfl dX5_caught_106 ?_
      exact kwp_iret (pc := 108) rfl dX5_caught_108 ⟨_, rfl, h⟩

set_option maxRecDepth 20000 in
theorem bX5_best_0 {l : Launch} {g : va_G × (Nat → ClassId) × (Nat → Nat → Nat)} (x1 : Int32) (x2 : Int32) (M : kM) (Q : Int32 → kM → Prop)
    (h : kCT l (rg_x, g) mX5_isRider [.inr (.inr (0, 0)), .inl x1] M (kqi (fun r2 M1 => ((r2 = 0 → kWP l (rg_x, g) mX5_best 15 [] [] M1 (kqi Q)) ∧ (¬ r2 = 0 → kCT l (rg_x, g) mX5_isZeroOrOne [.inl x2] M1 (kqi (fun r4 M3 => ((¬ r4 = 0 → kCT l (rg_x, g) mX5_soonestSet [.inr (.inr (0, 0)), .inl x1] M3 (kqi (fun r6 M5 => ((¬ x2 = 0 → kCT l (rg_x, g) mX5_minuteBuying [.inr (.inr (0, 0)), .inl x1, .inl r6] M5 (kqi (fun r8 M7 => kWP l (rg_x, g) mX5_best 37 [] [.inl r8] M7 (kqi Q)))) ∧ (x2 = 0 → kWP l (rg_x, g) mX5_best 37 [] [.inl r6] M5 (kqi Q)))))) ∧ (r4 = 0 → kWP l (rg_x, g) mX5_best 15 [] [] M3 (kqi Q)))))))))) :
    kWP l (rg_x, g) mX5_best 0 [(0, .inr (.inr (0, 0))), (1, .inl x1), (2, .inl x2)] [] M (kqi Q) := by
  refine kwp_aload_n (pc := 0) 0 rfl dX5_best_0 rfl ?_
  refine kwp_iload_n (pc := 1) 1 rfl dX5_best_1 rfl ?_
  refine kwp_callV (pc := 2) (Y := mX5_isRider) (vs := [.inl x1]) (rest := []) fm_X5_isRider fi_X5_isRider ml_X5_91 (by decide) rfl rfl rfl rfl (by simp [kcat]) dX5_best_2 ?_
  refine kCT.mono h (fun v M1 h => ?_)
  obtain ⟨r2, rfl, h⟩ := h
  change kWP l (rg_x, g) mX5_best 5 [(0, .inr (.inr (0, 0))), (1, .inl x1), (2, .inl x2)] [.inl r2] M1 (kqi Q)
  refine kwp_if_eq (pc := 5) 15 dX5_best_5 (by decide) (fun hc => ?_) (fun hc => ?_)
  · have h := h.1 hc
    refine kwp_sub [] rfl ?_
    exact h
  · have h := h.2 hc
    refine kwp_iload_n (pc := 8) 2 rfl dX5_best_8 rfl ?_
    refine kwp_callS (pc := 9) (Y := mX5_isZeroOrOne) (vs := [.inl x2]) (rest := []) fm_X5_isZeroOrOne fs_X5_isZeroOrOne ml_X5_178 (by decide) rfl rfl (by simp [kcat]) dX5_best_9 ?_
    refine kCT.mono h (fun v M3 h => ?_)
    obtain ⟨r4, rfl, h⟩ := h
    change kWP l (rg_x, g) mX5_best 12 [(0, .inr (.inr (0, 0))), (1, .inl x1), (2, .inl x2)] [.inl r4] M3 (kqi Q)
    refine kwp_if_ne (pc := 12) 17 dX5_best_12 (by decide) (fun hc => ?_) (fun hc => ?_)
    · have h := h.1 hc
      refine kwp_aload_n (pc := 17) 0 rfl dX5_best_17 rfl ?_
      refine kwp_iload_n (pc := 18) 1 rfl dX5_best_18 rfl ?_
      refine kwp_callV (pc := 19) (Y := mX5_soonestSet) (vs := [.inl x1]) (rest := []) fm_X5_soonestSet fi_X5_soonestSet ml_X5_199 (by decide) rfl rfl rfl rfl (by simp [kcat]) dX5_best_19 ?_
      refine kCT.mono h (fun v M5 h => ?_)
      obtain ⟨r6, rfl, h⟩ := h
      change kWP l (rg_x, g) mX5_best 22 [(0, .inr (.inr (0, 0))), (1, .inl x1), (2, .inl x2)] [.inl r6] M5 (kqi Q)
      refine kwp_istore_n (pc := 22) (ls2 := [(3, .inl r6), (0, .inr (.inr (0, 0))), (1, .inl x1), (2, .inl x2)]) dX5_best_22 rfl (by decide) rfl ?_
      refine kwp_iload_n (pc := 23) 3 rfl dX5_best_23 rfl ?_
      refine kwp_if_ne (pc := 24) 31 dX5_best_24 (by decide) (fun hc => ?_) (fun hc => ?_)
      · have h := h.1 hc
        refine kwp_aload_n (pc := 31) 1 rfl dX5_best_31 rfl ?_
        refine kwp_iload_n (pc := 32) 2 rfl dX5_best_32 rfl ?_
        refine kwp_iload_n (pc := 33) 0 rfl dX5_best_33 rfl ?_
        refine kwp_callV (pc := 34) (Y := mX5_minuteBuying) (vs := [.inl x1, .inl r6]) (rest := []) fm_X5_minuteBuying fi_X5_minuteBuying ml_X5_202 (by decide) rfl rfl rfl rfl (by simp [kcat]) dX5_best_34 ?_
        refine kCT.mono h (fun v M7 h => ?_)
        obtain ⟨r8, rfl, h⟩ := h
        change kWP l (rg_x, g) mX5_best 37 [(3, .inl r6), (0, .inr (.inr (0, 0))), (1, .inl x1), (2, .inl x2)] [.inl r8] M7 (kqi Q)
        refine kwp_sub [] rfl ?_
        exact h
      · have h := h.2 hc
        refine kwp_iload_n (pc := 27) 0 rfl dX5_best_27 rfl ?_
        refine kwp_goto (pc := 28) 37 dX5_best_28 (by decide) ?_
        refine kwp_sub [] rfl ?_
        exact h
    · have h := h.2 hc
      refine kwp_sub [] rfl ?_
      exact h

set_option maxRecDepth 20000 in
theorem bX5_best_15 {l : Launch} {g : va_G × (Nat → ClassId) × (Nat → Nat → Nat)}  (M : kM) (Q : Int32 → kM → Prop)
    (h : Q (-1) M) :
    kWP l (rg_x, g) mX5_best 15 [] [] M (kqi Q) := by
  refine kwp_iconst (pc := 15) dX5_best_15 ic_m1 ?_
  exact kwp_iret (pc := 16) rfl dX5_best_16 ⟨_, rfl, h⟩

set_option maxRecDepth 20000 in
theorem bX5_best_37 {l : Launch} {g : va_G × (Nat → ClassId) × (Nat → Nat → Nat)} (s0 : Int32) (M : kM) (Q : Int32 → kM → Prop)
    (h : Q s0 M) :
    kWP l (rg_x, g) mX5_best 37 [] [.inl s0] M (kqi Q) := by
  exact kwp_iret (pc := 37) rfl dX5_best_37 ⟨_, rfl, h⟩

set_option maxRecDepth 20000 in
theorem bX5_earlier_0 {l : Launch} {g : va_G × (Nat → ClassId) × (Nat → Nat → Nat)} (x1 : Int32) (x2 : Int32) (M : kM) (Q : Int32 → kM → Prop)
    (h : kCT l (rg_x, g) mX5_areTwo [.inr (.inr (0, 0)), .inl x1, .inl x2] M (kqi (fun r2 M1 => ((¬ r2 = 0 → vp_in x1 4 ∧ (∀ z3 : Int32, z3 = mni 300 (M1.1 12 0 x1.toNatClampNeg) → kWP l (rg_x, g) mX5_earlier 30 [(0, .inr (.inr (0, 0))), (1, .inl x1), (2, .inl x2), (3, .inl z3), (4, .inl 0)] [] M1 (kqi Q))) ∧ (r2 = 0 → Q (-1) M1))))) :
    kWP l (rg_x, g) mX5_earlier 0 [(0, .inr (.inr (0, 0))), (1, .inl x1), (2, .inl x2)] [] M (kqi Q) := by
  refine kwp_aload_n (pc := 0) 0 rfl dX5_earlier_0 rfl ?_
  refine kwp_iload_n (pc := 1) 1 rfl dX5_earlier_1 rfl ?_
  refine kwp_iload_n (pc := 2) 2 rfl dX5_earlier_2 rfl ?_
  refine kwp_callV (pc := 3) (Y := mX5_areTwo) (vs := [.inl x1, .inl x2]) (rest := []) fm_X5_areTwo fi_X5_areTwo ml_X5_159 (by decide) rfl rfl rfl rfl (by simp [kcat]) dX5_earlier_3 ?_
  refine kCT.mono h (fun v M1 h => ?_)
  obtain ⟨r2, rfl, h⟩ := h
  change kWP l (rg_x, g) mX5_earlier 6 [(0, .inr (.inr (0, 0))), (1, .inl x1), (2, .inl x2)] [.inl r2] M1 (kqi Q)
  refine kwp_if_ne (pc := 6) 11 dX5_earlier_6 (by decide) (fun hc => ?_) (fun hc => ?_)
  · have h := h.1 hc
    refine kwp_sipush (pc := 11) dX5_earlier_11 sp_300 ?_
    refine kwp_aload_n (pc := 14) 0 rfl dX5_earlier_14 rfl ?_
    refine kwp_getc (pc := 15) fl_X5_10 rfl rfl dX5_earlier_15 ?_
    refine kwp_getr (pc := 18) fl_X5_101 rfl rfl dX5_earlier_18 ?_
    refine kwp_iload_n (pc := 21) 1 rfl dX5_earlier_21 rfl ?_
    obtain ⟨hin, h⟩ := h
    refine kwp_iald (pc := 22) rfl hin dX5_earlier_22 ?_
    refine kwp_mmin (pc := 23) ml_X5_163 (by simp [kcat]) (by decide) dX5_earlier_23 ?_
    obtain ⟨z3, ez3⟩ : ∃ z : Int32, z = mni 300 (M1.1 12 0 x1.toNatClampNeg) := ⟨_, rfl⟩
    rw [← ez3]
    have h := h z3 ez3
    refine kwp_istore_n (pc := 26) (ls2 := [(3, .inl z3), (0, .inr (.inr (0, 0))), (1, .inl x1), (2, .inl x2)]) dX5_earlier_26 rfl (by decide) rfl ?_
    refine kwp_iconst (pc := 27) dX5_earlier_27 ic_0 ?_
    refine kwp_istore (pc := 28) (ls2 := [(4, .inl 0), (3, .inl z3), (0, .inr (.inr (0, 0))), (1, .inl x1), (2, .inl x2)]) dX5_earlier_28 (by decide) rfl ?_
    refine kwp_sub [2, 3, 4, 1, 0] rfl ?_
    exact h
  · have h := h.2 hc
    refine kwp_iconst (pc := 9) dX5_earlier_9 ic_m1 ?_
    exact kwp_iret (pc := 10) rfl dX5_earlier_10 ⟨_, rfl, h⟩

set_option maxRecDepth 20000 in
theorem bX5_earlier_30 {l : Launch} {g : va_G × (Nat → ClassId) × (Nat → Nat → Nat)} (x1 : Int32) (x2 : Int32) (x3 : Int32) (x4 : Int32) (M : kM) (Q : Int32 → kM → Prop)
    (h : ((x3 < x4 → Q (-4) M) ∧ (¬ x3 < x4 → kCT l (rg_x, g) mX0_begin [.inr (.inr (3, 0)), .inr (.inr (1, 0))] M (kqv (fun M1 => vp_in x1 4 ∧ (vp_in x1 4 ∧ (∀ M2 : kM, M2 = ku M1 12 2 x1.toNatClampNeg ((M1.1 12 2 x1.toNatClampNeg) - x4) → kCT l (rg_x, g) mX0_rideToForge [.inr (.inr (3, 0)), .inl x1, .inl 0] M2 (kqi (fun r4 M3 => kCT l (rg_x, g) mX0_rideToForge [.inr (.inr (3, 0)), .inl x2, .inl 0] M3 (kqi (fun r6 M5 => ((r6 ≤ r4 → ∀ z7 : Int32, z7 = x4 + 1 → kWP l (rg_x, g) mX5_earlier 30 [(0, .inr (.inr (0, 0))), (1, .inl x1), (2, .inl x2), (3, .inl x3), (4, .inl z7)] [] M5 (kqi Q)) ∧ (¬ r6 ≤ r4 → Q x4 M5))))))))))))) :
    kWP l (rg_x, g) mX5_earlier 30 [(0, .inr (.inr (0, 0))), (1, .inl x1), (2, .inl x2), (3, .inl x3), (4, .inl x4)] [] M (kqi Q) := by
  refine kwp_iload (pc := 30) 4 rfl dX5_earlier_30 ?_
  refine kwp_iload_n (pc := 32) 3 rfl dX5_earlier_32 rfl ?_
  refine kwp_icmp_gt (pc := 33) 94 dX5_earlier_33 (by decide) (fun hc => ?_) (fun hc => ?_)
  · have h := h.1 hc
    refine kwp_bipush (pc := 94) dX5_earlier_94 bp_m4 ?_
    exact kwp_iret (pc := 96) rfl dX5_earlier_96 ⟨_, rfl, h⟩
  · have h := h.2 hc
    refine kwp_aload_n (pc := 36) 0 rfl dX5_earlier_36 rfl ?_
    refine kwp_getc (pc := 37) fl_X5_36 rfl rfl dX5_earlier_37 ?_
    refine kwp_aload_n (pc := 40) 0 rfl dX5_earlier_40 rfl ?_
    refine kwp_getc (pc := 41) fl_X5_10 rfl rfl dX5_earlier_41 ?_
    refine kwp_callV (pc := 44) (Y := mX0_begin) (vs := [.inr (.inr (1, 0))]) (rest := []) fm_X0_begin fi_X0_begin ml_X5_181 (by decide) rfl rfl rfl rfl (by simp [kcat]) dX5_earlier_44 ?_
    refine kCT.mono h (fun v M1 h => ?_)
    obtain ⟨rfl, h⟩ := h
    change kWP l (rg_x, g) mX5_earlier 47 [(0, .inr (.inr (0, 0))), (1, .inl x1), (2, .inl x2), (3, .inl x3), (4, .inl x4)] [] M1 (kqi Q)
    refine kwp_aload_n (pc := 47) 0 rfl dX5_earlier_47 rfl ?_
    refine kwp_getc (pc := 48) fl_X5_36 rfl rfl dX5_earlier_48 ?_
    refine kwp_getc (pc := 51) fl_X5_187 rfl rfl dX5_earlier_51 ?_
    refine kwp_getr (pc := 54) fl_X5_101 rfl rfl dX5_earlier_54 ?_
    refine kwp_iload_n (pc := 57) 1 rfl dX5_earlier_57 rfl ?_
    refine kwp_dup2 (pc := 58) dX5_earlier_58 rfl rfl ?_
    obtain ⟨hin, h⟩ := h
    refine kwp_iald (pc := 59) rfl hin dX5_earlier_59 ?_
    refine kwp_iload (pc := 60) 4 rfl dX5_earlier_60 ?_
    refine kwp_isub (pc := 62) dX5_earlier_62 ?_
    obtain ⟨hin, h⟩ := h
    refine kwp_iast (pc := 63) rfl hin dX5_earlier_63 ?_
    obtain ⟨M2, eM2⟩ : ∃ z : kM, z = ku M1 12 2 x1.toNatClampNeg ((M1.1 12 2 x1.toNatClampNeg) - x4) := ⟨_, rfl⟩
    rw [← eM2]
    have h := h M2 eM2
    refine kwp_aload_n (pc := 64) 0 rfl dX5_earlier_64 rfl ?_
    refine kwp_getc (pc := 65) fl_X5_36 rfl rfl dX5_earlier_65 ?_
    refine kwp_iload_n (pc := 68) 1 rfl dX5_earlier_68 rfl ?_
    refine kwp_iconst (pc := 69) dX5_earlier_69 ic_0 ?_
    refine kwp_callV (pc := 70) (Y := mX0_rideToForge) (vs := [.inl x1, .inl 0]) (rest := []) fm_X0_rideToForge fi_X0_rideToForge ml_X5_184 (by decide) rfl rfl rfl rfl (by simp [kcat]) dX5_earlier_70 ?_
    refine kCT.mono h (fun v M3 h => ?_)
    obtain ⟨r4, rfl, h⟩ := h
    change kWP l (rg_x, g) mX5_earlier 73 [(0, .inr (.inr (0, 0))), (1, .inl x1), (2, .inl x2), (3, .inl x3), (4, .inl x4)] [.inl r4] M3 (kqi Q)
    refine kwp_aload_n (pc := 73) 0 rfl dX5_earlier_73 rfl ?_
    refine kwp_getc (pc := 74) fl_X5_36 rfl rfl dX5_earlier_74 ?_
    refine kwp_iload_n (pc := 77) 2 rfl dX5_earlier_77 rfl ?_
    refine kwp_iconst (pc := 78) dX5_earlier_78 ic_0 ?_
    refine kwp_callV (pc := 79) (Y := mX0_rideToForge) (vs := [.inl x2, .inl 0]) (rest := [.inl r4]) fm_X0_rideToForge fi_X0_rideToForge ml_X5_184 (by decide) rfl rfl rfl rfl (by simp [kcat]) dX5_earlier_79 ?_
    refine kCT.mono h (fun v M5 h => ?_)
    obtain ⟨r6, rfl, h⟩ := h
    change kWP l (rg_x, g) mX5_earlier 82 [(0, .inr (.inr (0, 0))), (1, .inl x1), (2, .inl x2), (3, .inl x3), (4, .inl x4)] [.inl r6, .inl r4] M5 (kqi Q)
    refine kwp_icmp_ge (pc := 82) 88 dX5_earlier_82 (by decide) (fun hc => ?_) (fun hc => ?_)
    · have h := h.1 hc
      obtain ⟨z7, ez7⟩ : ∃ z : Int32, z = x4 + 1 := ⟨_, rfl⟩
      have h := h z7 ez7
      refine kwp_iinc (pc := 88) (v := z7) (ls2 := [(4, .inl z7), (0, .inr (.inr (0, 0))), (1, .inl x1), (2, .inl x2), (3, .inl x3)]) 4 rfl dX5_earlier_88 (by rw [ez7, ic_1]) (by decide) rfl ?_
      refine kwp_goto (pc := 91) 30 dX5_earlier_91 (by decide) ?_
      refine kwp_sub [1, 2, 3, 4, 0] rfl ?_
      exact h
    · have h := h.2 hc
      refine kwp_iload (pc := 85) 4 rfl dX5_earlier_85 ?_
      exact kwp_iret (pc := 87) rfl dX5_earlier_87 ⟨_, rfl, h⟩

set_option maxRecDepth 20000 in
theorem bX5_purse_0 {l : Launch} {g : va_G × (Nat → ClassId) × (Nat → Nat → Nat)} (x1 : Int32) (x2 : Int32) (M : kM) (Q : Int32 → kM → Prop)
    (h : kCT l (rg_x, g) mX5_isRider [.inr (.inr (0, 0)), .inl x1] M (kqi (fun r2 M1 => ((r2 = 0 → kWP l (rg_x, g) mX5_purse 19 [] [] M1 (kqi Q)) ∧ (¬ r2 = 0 → kCT l (rg_x, g) mX5_within [.inl x2, .inl 0, .inl 9999] M1 (kqi (fun r4 M3 => ((¬ r4 = 0 → kWP l (rg_x, g) mX5_purse 23 [(0, .inr (.inr (0, 0))), (1, .inl x1), (2, .inl x2), (3, .inl 0)] [] M3 (kqi Q)) ∧ (r4 = 0 → kWP l (rg_x, g) mX5_purse 19 [] [] M3 (kqi Q)))))))))) :
    kWP l (rg_x, g) mX5_purse 0 [(0, .inr (.inr (0, 0))), (1, .inl x1), (2, .inl x2)] [] M (kqi Q) := by
  refine kwp_aload_n (pc := 0) 0 rfl dX5_purse_0 rfl ?_
  refine kwp_iload_n (pc := 1) 1 rfl dX5_purse_1 rfl ?_
  refine kwp_callV (pc := 2) (Y := mX5_isRider) (vs := [.inl x1]) (rest := []) fm_X5_isRider fi_X5_isRider ml_X5_91 (by decide) rfl rfl rfl rfl (by simp [kcat]) dX5_purse_2 ?_
  refine kCT.mono h (fun v M1 h => ?_)
  obtain ⟨r2, rfl, h⟩ := h
  change kWP l (rg_x, g) mX5_purse 5 [(0, .inr (.inr (0, 0))), (1, .inl x1), (2, .inl x2)] [.inl r2] M1 (kqi Q)
  refine kwp_if_eq (pc := 5) 19 dX5_purse_5 (by decide) (fun hc => ?_) (fun hc => ?_)
  · have h := h.1 hc
    refine kwp_sub [] rfl ?_
    exact h
  · have h := h.2 hc
    refine kwp_iload_n (pc := 8) 2 rfl dX5_purse_8 rfl ?_
    refine kwp_iconst (pc := 9) dX5_purse_9 ic_0 ?_
    refine kwp_sipush (pc := 10) dX5_purse_10 sp_9999 ?_
    refine kwp_callS (pc := 13) (Y := mX5_within) (vs := [.inl x2, .inl 0, .inl 9999]) (rest := []) fm_X5_within fs_X5_within ml_X5_61 (by decide) rfl rfl (by simp [kcat]) dX5_purse_13 ?_
    refine kCT.mono h (fun v M3 h => ?_)
    obtain ⟨r4, rfl, h⟩ := h
    change kWP l (rg_x, g) mX5_purse 16 [(0, .inr (.inr (0, 0))), (1, .inl x1), (2, .inl x2)] [.inl r4] M3 (kqi Q)
    refine kwp_if_ne (pc := 16) 21 dX5_purse_16 (by decide) (fun hc => ?_) (fun hc => ?_)
    · have h := h.1 hc
      refine kwp_iconst (pc := 21) dX5_purse_21 ic_0 ?_
      refine kwp_istore_n (pc := 22) (ls2 := [(3, .inl 0), (0, .inr (.inr (0, 0))), (1, .inl x1), (2, .inl x2)]) dX5_purse_22 rfl (by decide) rfl ?_
      refine kwp_sub [1, 2, 3, 0] rfl ?_
      exact h
    · have h := h.2 hc
      refine kwp_sub [] rfl ?_
      exact h

set_option maxRecDepth 20000 in
theorem bX5_purse_19 {l : Launch} {g : va_G × (Nat → ClassId) × (Nat → Nat → Nat)}  (M : kM) (Q : Int32 → kM → Prop)
    (h : Q (-1) M) :
    kWP l (rg_x, g) mX5_purse 19 [] [] M (kqi Q) := by
  refine kwp_iconst (pc := 19) dX5_purse_19 ic_m1 ?_
  exact kwp_iret (pc := 20) rfl dX5_purse_20 ⟨_, rfl, h⟩

set_option maxRecDepth 20000 in
theorem bX5_purse_23 {l : Launch} {g : va_G × (Nat → ClassId) × (Nat → Nat → Nat)} (x1 : Int32) (x2 : Int32) (x3 : Int32) (M : kM) (Q : Int32 → kM → Prop)
    (h : ((99 < x3 → Q (-4) M) ∧ (¬ 99 < x3 → kCT l (rg_x, g) mX0_begin [.inr (.inr (3, 0)), .inr (.inr (1, 0))] M (kqv (fun M1 => vp_in x1 4 ∧ (∀ M2 : kM, M2 = ku M1 13 2 x1.toNatClampNeg x3 → kCT l (rg_x, g) mX0_rideToForge [.inr (.inr (3, 0)), .inl x1, .inl 0] M2 (kqi (fun r4 M3 => ((x2 < r4 → ∀ z5 : Int32, z5 = x3 + 1 → kWP l (rg_x, g) mX5_purse 23 [(0, .inr (.inr (0, 0))), (1, .inl x1), (2, .inl x2), (3, .inl z5)] [] M3 (kqi Q)) ∧ (¬ x2 < r4 → Q x3 M3)))))))))) :
    kWP l (rg_x, g) mX5_purse 23 [(0, .inr (.inr (0, 0))), (1, .inl x1), (2, .inl x2), (3, .inl x3)] [] M (kqi Q) := by
  refine kwp_iload_n (pc := 23) 3 rfl dX5_purse_23 rfl ?_
  refine kwp_bipush (pc := 24) dX5_purse_24 bp_99 ?_
  refine kwp_icmp_gt (pc := 26) 74 dX5_purse_26 (by decide) (fun hc => ?_) (fun hc => ?_)
  · have h := h.1 hc
    refine kwp_bipush (pc := 74) dX5_purse_74 bp_m4 ?_
    exact kwp_iret (pc := 76) rfl dX5_purse_76 ⟨_, rfl, h⟩
  · have h := h.2 hc
    refine kwp_aload_n (pc := 29) 0 rfl dX5_purse_29 rfl ?_
    refine kwp_getc (pc := 30) fl_X5_36 rfl rfl dX5_purse_30 ?_
    refine kwp_aload_n (pc := 33) 0 rfl dX5_purse_33 rfl ?_
    refine kwp_getc (pc := 34) fl_X5_10 rfl rfl dX5_purse_34 ?_
    refine kwp_callV (pc := 37) (Y := mX0_begin) (vs := [.inr (.inr (1, 0))]) (rest := []) fm_X0_begin fi_X0_begin ml_X5_181 (by decide) rfl rfl rfl rfl (by simp [kcat]) dX5_purse_37 ?_
    refine kCT.mono h (fun v M1 h => ?_)
    obtain ⟨rfl, h⟩ := h
    change kWP l (rg_x, g) mX5_purse 40 [(0, .inr (.inr (0, 0))), (1, .inl x1), (2, .inl x2), (3, .inl x3)] [] M1 (kqi Q)
    refine kwp_aload_n (pc := 40) 0 rfl dX5_purse_40 rfl ?_
    refine kwp_getc (pc := 41) fl_X5_36 rfl rfl dX5_purse_41 ?_
    refine kwp_getc (pc := 44) fl_X5_187 rfl rfl dX5_purse_44 ?_
    refine kwp_getr (pc := 47) fl_X5_104 rfl rfl dX5_purse_47 ?_
    refine kwp_iload_n (pc := 50) 1 rfl dX5_purse_50 rfl ?_
    refine kwp_iload_n (pc := 51) 3 rfl dX5_purse_51 rfl ?_
    obtain ⟨hin, h⟩ := h
    refine kwp_iast (pc := 52) rfl hin dX5_purse_52 ?_
    obtain ⟨M2, eM2⟩ : ∃ z : kM, z = ku M1 13 2 x1.toNatClampNeg x3 := ⟨_, rfl⟩
    rw [← eM2]
    have h := h M2 eM2
    refine kwp_aload_n (pc := 53) 0 rfl dX5_purse_53 rfl ?_
    refine kwp_getc (pc := 54) fl_X5_36 rfl rfl dX5_purse_54 ?_
    refine kwp_iload_n (pc := 57) 1 rfl dX5_purse_57 rfl ?_
    refine kwp_iconst (pc := 58) dX5_purse_58 ic_0 ?_
    refine kwp_callV (pc := 59) (Y := mX0_rideToForge) (vs := [.inl x1, .inl 0]) (rest := []) fm_X0_rideToForge fi_X0_rideToForge ml_X5_184 (by decide) rfl rfl rfl rfl (by simp [kcat]) dX5_purse_59 ?_
    refine kCT.mono h (fun v M3 h => ?_)
    obtain ⟨r4, rfl, h⟩ := h
    change kWP l (rg_x, g) mX5_purse 62 [(0, .inr (.inr (0, 0))), (1, .inl x1), (2, .inl x2), (3, .inl x3)] [.inl r4] M3 (kqi Q)
    refine kwp_iload_n (pc := 62) 2 rfl dX5_purse_62 rfl ?_
    refine kwp_icmp_gt (pc := 63) 68 dX5_purse_63 (by decide) (fun hc => ?_) (fun hc => ?_)
    · have h := h.1 hc
      obtain ⟨z5, ez5⟩ : ∃ z : Int32, z = x3 + 1 := ⟨_, rfl⟩
      have h := h z5 ez5
      refine kwp_iinc (pc := 68) (v := z5) (ls2 := [(3, .inl z5), (0, .inr (.inr (0, 0))), (1, .inl x1), (2, .inl x2)]) 3 rfl dX5_purse_68 (by rw [ez5, ic_1]) (by decide) rfl ?_
      refine kwp_goto (pc := 71) 23 dX5_purse_71 (by decide) ?_
      refine kwp_sub [1, 2, 3, 0] rfl ?_
      exact h
    · have h := h.2 hc
      refine kwp_iload_n (pc := 66) 3 rfl dX5_purse_66 rfl ?_
      exact kwp_iret (pc := 67) rfl dX5_purse_67 ⟨_, rfl, h⟩

set_option maxRecDepth 20000 in
theorem bX5_loosened_0 {l : Launch} {g : va_G × (Nat → ClassId) × (Nat → Nat → Nat)} (x1 : Int32) (x2 : Int32) (M : kM) (Q : Int32 → kM → Prop)
    (h : kCT l (rg_x, g) mX5_isRider [.inr (.inr (0, 0)), .inl x1] M (kqi (fun r2 M1 => ((r2 = 0 → kWP l (rg_x, g) mX5_loosened 15 [] [] M1 (kqi Q)) ∧ (¬ r2 = 0 → kCT l (rg_x, g) mX5_isZeroOrOne [.inl x2] M1 (kqi (fun r4 M3 => ((¬ r4 = 0 → vp_in x1 4 ∧ (∀ z5 : Int32, z5 = M3.1 11 0 x1.toNatClampNeg → kWP l (rg_x, g) mX5_loosened 35 [(0, .inr (.inr (0, 0))), (1, .inl x1), (2, .inl x2), (3, .inl (-4)), (4, .inl (-4)), (5, .inl z5)] [] M3 (kqi Q))) ∧ (r4 = 0 → kWP l (rg_x, g) mX5_loosened 15 [] [] M3 (kqi Q)))))))))) :
    kWP l (rg_x, g) mX5_loosened 0 [(0, .inr (.inr (0, 0))), (1, .inl x1), (2, .inl x2)] [] M (kqi Q) := by
  refine kwp_aload_n (pc := 0) 0 rfl dX5_loosened_0 rfl ?_
  refine kwp_iload_n (pc := 1) 1 rfl dX5_loosened_1 rfl ?_
  refine kwp_callV (pc := 2) (Y := mX5_isRider) (vs := [.inl x1]) (rest := []) fm_X5_isRider fi_X5_isRider ml_X5_91 (by decide) rfl rfl rfl rfl (by simp [kcat]) dX5_loosened_2 ?_
  refine kCT.mono h (fun v M1 h => ?_)
  obtain ⟨r2, rfl, h⟩ := h
  change kWP l (rg_x, g) mX5_loosened 5 [(0, .inr (.inr (0, 0))), (1, .inl x1), (2, .inl x2)] [.inl r2] M1 (kqi Q)
  refine kwp_if_eq (pc := 5) 15 dX5_loosened_5 (by decide) (fun hc => ?_) (fun hc => ?_)
  · have h := h.1 hc
    refine kwp_sub [] rfl ?_
    exact h
  · have h := h.2 hc
    refine kwp_iload_n (pc := 8) 2 rfl dX5_loosened_8 rfl ?_
    refine kwp_callS (pc := 9) (Y := mX5_isZeroOrOne) (vs := [.inl x2]) (rest := []) fm_X5_isZeroOrOne fs_X5_isZeroOrOne ml_X5_178 (by decide) rfl rfl (by simp [kcat]) dX5_loosened_9 ?_
    refine kCT.mono h (fun v M3 h => ?_)
    obtain ⟨r4, rfl, h⟩ := h
    change kWP l (rg_x, g) mX5_loosened 12 [(0, .inr (.inr (0, 0))), (1, .inl x1), (2, .inl x2)] [.inl r4] M3 (kqi Q)
    refine kwp_if_ne (pc := 12) 17 dX5_loosened_12 (by decide) (fun hc => ?_) (fun hc => ?_)
    · have h := h.1 hc
      refine kwp_bipush (pc := 17) dX5_loosened_17 bp_m4 ?_
      refine kwp_istore_n (pc := 19) (ls2 := [(3, .inl (-4)), (0, .inr (.inr (0, 0))), (1, .inl x1), (2, .inl x2)]) dX5_loosened_19 rfl (by decide) rfl ?_
      refine kwp_bipush (pc := 20) dX5_loosened_20 bp_m4 ?_
      refine kwp_istore (pc := 22) (ls2 := [(4, .inl (-4)), (3, .inl (-4)), (0, .inr (.inr (0, 0))), (1, .inl x1), (2, .inl x2)]) dX5_loosened_22 (by decide) rfl ?_
      refine kwp_aload_n (pc := 24) 2 rfl dX5_loosened_24 rfl ?_
      refine kwp_getc (pc := 25) fl_X5_10 rfl rfl dX5_loosened_25 ?_
      refine kwp_getr (pc := 28) fl_X5_98 rfl rfl dX5_loosened_28 ?_
      refine kwp_iload_n (pc := 31) 3 rfl dX5_loosened_31 rfl ?_
      obtain ⟨hin, h⟩ := h
      refine kwp_iald (pc := 32) rfl hin dX5_loosened_32 ?_
      obtain ⟨z5, ez5⟩ : ∃ z : Int32, z = M3.1 11 0 x1.toNatClampNeg := ⟨_, rfl⟩
      rw [← ez5]
      have h := h z5 ez5
      refine kwp_istore (pc := 33) (ls2 := [(5, .inl z5), (4, .inl (-4)), (3, .inl (-4)), (0, .inr (.inr (0, 0))), (1, .inl x1), (2, .inl x2)]) dX5_loosened_33 (by decide) rfl ?_
      refine kwp_sub [3, 4, 5, 2, 1, 0] rfl ?_
      exact h
    · have h := h.2 hc
      refine kwp_sub [] rfl ?_
      exact h

set_option maxRecDepth 20000 in
theorem bX5_loosened_15 {l : Launch} {g : va_G × (Nat → ClassId) × (Nat → Nat → Nat)}  (M : kM) (Q : Int32 → kM → Prop)
    (h : Q (-1) M) :
    kWP l (rg_x, g) mX5_loosened 15 [] [] M (kqi Q) := by
  refine kwp_iconst (pc := 15) dX5_loosened_15 ic_m1 ?_
  exact kwp_iret (pc := 16) rfl dX5_loosened_16 ⟨_, rfl, h⟩

set_option maxRecDepth 20000 in
theorem bX5_loosened_35 {l : Launch} {g : va_G × (Nat → ClassId) × (Nat → Nat → Nat)} (x1 : Int32) (x2 : Int32) (x3 : Int32) (x4 : Int32) (x5 : Int32) (M : kM) (Q : Int32 → kM → Prop)
    (h : (((M.1 1 0 0) ≤ x5 → ((¬ x2 = 0 → kWP l (rg_x, g) mX5_loosened 102 [] [.inl x4] M (kqi Q)) ∧ (x2 = 0 → kWP l (rg_x, g) mX5_loosened 102 [] [.inl x3] M (kqi Q)))) ∧ (¬ (M.1 1 0 0) ≤ x5 → kCT l (rg_x, g) mX0_begin [.inr (.inr (3, 0)), .inr (.inr (1, 0))] M (kqv (fun M1 => kCT l (rg_x, g) mX0_rideToForge [.inr (.inr (3, 0)), .inl x1, .inl ((1 : Int32) <<< (x5 &&& 31))] M1 (kqi (fun r3 M2 => ((r3 ≤ x4 → kWP l (rg_x, g) mX5_loosened 86 [(0, .inr (.inr (0, 0))), (1, .inl x1), (2, .inl x2), (3, .inl x3), (4, .inl x4), (5, .inl x5)] [] M2 (kqi Q)) ∧ (¬ r3 ≤ x4 → kWP l (rg_x, g) mX5_loosened 86 [(0, .inr (.inr (0, 0))), (1, .inl x1), (2, .inl x2), (3, .inl x5), (4, .inl r3), (5, .inl x5)] [] M2 (kqi Q)))))))))) :
    kWP l (rg_x, g) mX5_loosened 35 [(0, .inr (.inr (0, 0))), (1, .inl x1), (2, .inl x2), (3, .inl x3), (4, .inl x4), (5, .inl x5)] [] M (kqi Q) := by
  refine kwp_iload (pc := 35) 5 rfl dX5_loosened_35 ?_
  refine kwp_aload_n (pc := 37) 0 rfl dX5_loosened_37 rfl ?_
  refine kwp_getc (pc := 38) fl_X5_10 rfl rfl dX5_loosened_38 ?_
  refine kwp_geti (pc := 41) fl_X5_65 rfl rfl dX5_loosened_41 ?_
  refine kwp_icmp_ge (pc := 44) 92 dX5_loosened_44 (by decide) (fun hc => ?_) (fun hc => ?_)
  · have h := h.1 hc
    refine kwp_iload_n (pc := 92) 2 rfl dX5_loosened_92 rfl ?_
    refine kwp_if_ne (pc := 93) 100 dX5_loosened_93 (by decide) (fun hc => ?_) (fun hc => ?_)
    · have h := h.1 hc
      refine kwp_iload (pc := 100) 4 rfl dX5_loosened_100 ?_
      refine kwp_sub [] rfl ?_
      exact h
    · have h := h.2 hc
      refine kwp_iload_n (pc := 96) 3 rfl dX5_loosened_96 rfl ?_
      refine kwp_goto (pc := 97) 102 dX5_loosened_97 (by decide) ?_
      refine kwp_sub [] rfl ?_
      exact h
  · have h := h.2 hc
    refine kwp_aload_n (pc := 47) 0 rfl dX5_loosened_47 rfl ?_
    refine kwp_getc (pc := 48) fl_X5_36 rfl rfl dX5_loosened_48 ?_
    refine kwp_aload_n (pc := 51) 0 rfl dX5_loosened_51 rfl ?_
    refine kwp_getc (pc := 52) fl_X5_10 rfl rfl dX5_loosened_52 ?_
    refine kwp_callV (pc := 55) (Y := mX0_begin) (vs := [.inr (.inr (1, 0))]) (rest := []) fm_X0_begin fi_X0_begin ml_X5_181 (by decide) rfl rfl rfl rfl (by simp [kcat]) dX5_loosened_55 ?_
    refine kCT.mono h (fun v M1 h => ?_)
    obtain ⟨rfl, h⟩ := h
    change kWP l (rg_x, g) mX5_loosened 58 [(0, .inr (.inr (0, 0))), (1, .inl x1), (2, .inl x2), (3, .inl x3), (4, .inl x4), (5, .inl x5)] [] M1 (kqi Q)
    refine kwp_aload_n (pc := 58) 0 rfl dX5_loosened_58 rfl ?_
    refine kwp_getc (pc := 59) fl_X5_36 rfl rfl dX5_loosened_59 ?_
    refine kwp_iload_n (pc := 62) 1 rfl dX5_loosened_62 rfl ?_
    refine kwp_iconst (pc := 63) dX5_loosened_63 ic_1 ?_
    refine kwp_iload (pc := 64) 5 rfl dX5_loosened_64 ?_
    refine kwp_ishl (pc := 66) dX5_loosened_66 ?_
    refine kwp_callV (pc := 67) (Y := mX0_rideToForge) (vs := [.inl x1, .inl ((1 : Int32) <<< (x5 &&& 31))]) (rest := []) fm_X0_rideToForge fi_X0_rideToForge ml_X5_184 (by decide) rfl rfl rfl rfl (by simp [kcat]) dX5_loosened_67 ?_
    refine kCT.mono h (fun v M2 h => ?_)
    obtain ⟨r3, rfl, h⟩ := h
    change kWP l (rg_x, g) mX5_loosened 70 [(0, .inr (.inr (0, 0))), (1, .inl x1), (2, .inl x2), (3, .inl x3), (4, .inl x4), (5, .inl x5)] [.inl r3] M2 (kqi Q)
    refine kwp_istore (pc := 70) (ls2 := [(6, .inl r3), (0, .inr (.inr (0, 0))), (1, .inl x1), (2, .inl x2), (3, .inl x3), (4, .inl x4), (5, .inl x5)]) dX5_loosened_70 (by decide) rfl ?_
    refine kwp_iload (pc := 72) 0 rfl dX5_loosened_72 ?_
    refine kwp_iload (pc := 74) 5 rfl dX5_loosened_74 ?_
    refine kwp_icmp_le (pc := 76) 86 dX5_loosened_76 (by decide) (fun hc => ?_) (fun hc => ?_)
    · have h := h.1 hc
      refine kwp_sub [1, 2, 3, 4, 5, 6] rfl ?_
      exact h
    · have h := h.2 hc
      refine kwp_iload (pc := 79) 0 rfl dX5_loosened_79 ?_
      refine kwp_istore (pc := 81) (ls2 := [(4, .inl r3), (6, .inl r3), (0, .inr (.inr (0, 0))), (1, .inl x1), (2, .inl x2), (3, .inl x3), (5, .inl x5)]) dX5_loosened_81 (by decide) rfl ?_
      refine kwp_iload (pc := 83) 6 rfl dX5_loosened_83 ?_
      refine kwp_istore_n (pc := 85) (ls2 := [(3, .inl x5), (4, .inl r3), (6, .inl r3), (0, .inr (.inr (0, 0))), (1, .inl x1), (2, .inl x2), (5, .inl x5)]) dX5_loosened_85 rfl (by decide) rfl ?_
      refine kwp_sub [3, 4, 5, 0, 1, 6] rfl ?_
      exact h

set_option maxRecDepth 20000 in
theorem bX5_loosened_86 {l : Launch} {g : va_G × (Nat → ClassId) × (Nat → Nat → Nat)} (x1 : Int32) (x2 : Int32) (x3 : Int32) (x4 : Int32) (x5 : Int32) (M : kM) (Q : Int32 → kM → Prop)
    (h : ∀ z1 : Int32, z1 = x5 + 1 → kWP l (rg_x, g) mX5_loosened 35 [(0, .inr (.inr (0, 0))), (1, .inl x1), (2, .inl x2), (3, .inl x3), (4, .inl x4), (5, .inl z1)] [] M (kqi Q)) :
    kWP l (rg_x, g) mX5_loosened 86 [(0, .inr (.inr (0, 0))), (1, .inl x1), (2, .inl x2), (3, .inl x3), (4, .inl x4), (5, .inl x5)] [] M (kqi Q) := by
  obtain ⟨z1, ez1⟩ : ∃ z : Int32, z = x5 + 1 := ⟨_, rfl⟩
  have h := h z1 ez1
  refine kwp_iinc (pc := 86) (v := z1) (ls2 := [(5, .inl z1), (0, .inr (.inr (0, 0))), (1, .inl x1), (2, .inl x2), (3, .inl x3), (4, .inl x4)]) 5 rfl dX5_loosened_86 (by rw [ez1, ic_1]) (by decide) rfl ?_
  refine kwp_goto (pc := 89) 35 dX5_loosened_89 (by decide) ?_
  refine kwp_sub [1, 2, 3, 4, 5, 0] rfl ?_
  exact h

set_option maxRecDepth 20000 in
theorem bX5_loosened_102 {l : Launch} {g : va_G × (Nat → ClassId) × (Nat → Nat → Nat)} (s0 : Int32) (M : kM) (Q : Int32 → kM → Prop)
    (h : Q s0 M) :
    kWP l (rg_x, g) mX5_loosened 102 [] [.inl s0] M (kqi Q) := by
  exact kwp_iret (pc := 102) rfl dX5_loosened_102 ⟨_, rfl, h⟩

set_option maxRecDepth 20000 in
theorem bX5_duel_0 {l : Launch} {g : va_G × (Nat → ClassId) × (Nat → Nat → Nat)} (x1 : Int32) (x2 : Int32) (x3 : Int32) (M : kM) (Q : Int32 → kM → Prop)
    (h : kCT l (rg_x, g) mX5_areTwo [.inr (.inr (0, 0)), .inl x1, .inl x2] M (kqi (fun r2 M1 => ((r2 = 0 → kWP l (rg_x, g) mX5_duel 16 [] [] M1 (kqi Q)) ∧ (¬ r2 = 0 → kCT l (rg_x, g) mX5_isZeroOrOne [.inl x3] M1 (kqi (fun r4 M3 => ((¬ r4 = 0 → kCT l (rg_x, g) mX5_fillDuel [.inr (.inr (0, 0)), .inl x1, .inl x2] M3 (kqv (fun M5 => kWP l (rg_x, g) mX5_duel 34 [(0, .inr (.inr (0, 0))), (3, .inl x3), (4, .inl 0), (5, .inl (-4)), (6, .inl 0)] [] M5 (kqi Q)))) ∧ (r4 = 0 → kWP l (rg_x, g) mX5_duel 16 [] [] M3 (kqi Q)))))))))) :
    kWP l (rg_x, g) mX5_duel 0 [(0, .inr (.inr (0, 0))), (1, .inl x1), (2, .inl x2), (3, .inl x3)] [] M (kqi Q) := by
  refine kwp_aload_n (pc := 0) 0 rfl dX5_duel_0 rfl ?_
  refine kwp_iload_n (pc := 1) 1 rfl dX5_duel_1 rfl ?_
  refine kwp_iload_n (pc := 2) 2 rfl dX5_duel_2 rfl ?_
  refine kwp_callV (pc := 3) (Y := mX5_areTwo) (vs := [.inl x1, .inl x2]) (rest := []) fm_X5_areTwo fi_X5_areTwo ml_X5_159 (by decide) rfl rfl rfl rfl (by simp [kcat]) dX5_duel_3 ?_
  refine kCT.mono h (fun v M1 h => ?_)
  obtain ⟨r2, rfl, h⟩ := h
  change kWP l (rg_x, g) mX5_duel 6 [(0, .inr (.inr (0, 0))), (1, .inl x1), (2, .inl x2), (3, .inl x3)] [.inl r2] M1 (kqi Q)
  refine kwp_if_eq (pc := 6) 16 dX5_duel_6 (by decide) (fun hc => ?_) (fun hc => ?_)
  · have h := h.1 hc
    refine kwp_sub [] rfl ?_
    exact h
  · have h := h.2 hc
    refine kwp_iload_n (pc := 9) 3 rfl dX5_duel_9 rfl ?_
    refine kwp_callS (pc := 10) (Y := mX5_isZeroOrOne) (vs := [.inl x3]) (rest := []) fm_X5_isZeroOrOne fs_X5_isZeroOrOne ml_X5_178 (by decide) rfl rfl (by simp [kcat]) dX5_duel_10 ?_
    refine kCT.mono h (fun v M3 h => ?_)
    obtain ⟨r4, rfl, h⟩ := h
    change kWP l (rg_x, g) mX5_duel 13 [(0, .inr (.inr (0, 0))), (1, .inl x1), (2, .inl x2), (3, .inl x3)] [.inl r4] M3 (kqi Q)
    refine kwp_if_ne (pc := 13) 18 dX5_duel_13 (by decide) (fun hc => ?_) (fun hc => ?_)
    · have h := h.1 hc
      refine kwp_aload_n (pc := 18) 0 rfl dX5_duel_18 rfl ?_
      refine kwp_iload_n (pc := 19) 1 rfl dX5_duel_19 rfl ?_
      refine kwp_iload_n (pc := 20) 2 rfl dX5_duel_20 rfl ?_
      refine kwp_callV (pc := 21) (Y := mX5_fillDuel) (vs := [.inl x1, .inl x2]) (rest := []) fm_X5_fillDuel fi_X5_fillDuel ml_X5_205 (by decide) rfl rfl rfl rfl (by simp [kcat]) dX5_duel_21 ?_
      refine kCT.mono h (fun v M5 h => ?_)
      obtain ⟨rfl, h⟩ := h
      change kWP l (rg_x, g) mX5_duel 24 [(0, .inr (.inr (0, 0))), (1, .inl x1), (2, .inl x2), (3, .inl x3)] [] M5 (kqi Q)
      refine kwp_iconst (pc := 24) dX5_duel_24 ic_0 ?_
      refine kwp_istore (pc := 25) (ls2 := [(4, .inl 0), (0, .inr (.inr (0, 0))), (1, .inl x1), (2, .inl x2), (3, .inl x3)]) dX5_duel_25 (by decide) rfl ?_
      refine kwp_bipush (pc := 27) dX5_duel_27 bp_m4 ?_
      refine kwp_istore (pc := 29) (ls2 := [(5, .inl (-4)), (4, .inl 0), (0, .inr (.inr (0, 0))), (1, .inl x1), (2, .inl x2), (3, .inl x3)]) dX5_duel_29 (by decide) rfl ?_
      refine kwp_iconst (pc := 31) dX5_duel_31 ic_0 ?_
      refine kwp_istore (pc := 32) (ls2 := [(6, .inl 0), (5, .inl (-4)), (4, .inl 0), (0, .inr (.inr (0, 0))), (1, .inl x1), (2, .inl x2), (3, .inl x3)]) dX5_duel_32 (by decide) rfl ?_
      refine kwp_sub [3, 6, 2, 1, 0] rfl ?_
      exact h
    · have h := h.2 hc
      refine kwp_sub [] rfl ?_
      exact h

set_option maxRecDepth 20000 in
theorem bX5_duel_16 {l : Launch} {g : va_G × (Nat → ClassId) × (Nat → Nat → Nat)}  (M : kM) (Q : Int32 → kM → Prop)
    (h : Q (-1) M) :
    kWP l (rg_x, g) mX5_duel 16 [] [] M (kqi Q) := by
  refine kwp_iconst (pc := 16) dX5_duel_16 ic_m1 ?_
  exact kwp_iret (pc := 17) rfl dX5_duel_17 ⟨_, rfl, h⟩

set_option maxRecDepth 20000 in
theorem bX5_duel_34 {l : Launch} {g : va_G × (Nat → ClassId) × (Nat → Nat → Nat)} (x3 : Int32) (x4 : Int32) (x5 : Int32) (x6 : Int32) (M : kM) (Q : Int32 → kM → Prop)
    (h : (((M.1 1 0 0) < x6 → ((¬ x3 = 0 → kWP l (rg_x, g) mX5_duel 118 [] [.inl x5] M (kqi Q)) ∧ (x3 = 0 → kWP l (rg_x, g) mX5_duel 118 [] [.inl x4] M (kqi Q)))) ∧ (¬ (M.1 1 0 0) < x6 → kWP l (rg_x, g) mX5_duel 49 [(0, .inr (.inr (0, 0))), (3, .inl x3), (4, .inl x4), (5, .inl x5), (6, .inl x6), (7, .inl 0)] [] M (kqi Q)))) :
    kWP l (rg_x, g) mX5_duel 34 [(0, .inr (.inr (0, 0))), (3, .inl x3), (4, .inl x4), (5, .inl x5), (6, .inl x6)] [] M (kqi Q) := by
  refine kwp_iload (pc := 34) 4 rfl dX5_duel_34 ?_
  refine kwp_aload_n (pc := 36) 0 rfl dX5_duel_36 rfl ?_
  refine kwp_getc (pc := 37) fl_X5_10 rfl rfl dX5_duel_37 ?_
  refine kwp_geti (pc := 40) fl_X5_65 rfl rfl dX5_duel_40 ?_
  refine kwp_icmp_gt (pc := 43) 107 dX5_duel_43 (by decide) (fun hc => ?_) (fun hc => ?_)
  · have h := h.1 hc
    refine kwp_iload_n (pc := 107) 1 rfl dX5_duel_107 rfl ?_
    refine kwp_if_ne (pc := 108) 116 dX5_duel_108 (by decide) (fun hc => ?_) (fun hc => ?_)
    · have h := h.1 hc
      refine kwp_iload (pc := 116) 3 rfl dX5_duel_116 ?_
      refine kwp_sub [] rfl ?_
      exact h
    · have h := h.2 hc
      refine kwp_iload (pc := 111) 2 rfl dX5_duel_111 ?_
      refine kwp_goto (pc := 113) 118 dX5_duel_113 (by decide) ?_
      refine kwp_sub [] rfl ?_
      exact h
  · have h := h.2 hc
    refine kwp_iconst (pc := 46) dX5_duel_46 ic_0 ?_
    refine kwp_istore (pc := 47) (ls2 := [(7, .inl 0), (0, .inr (.inr (0, 0))), (3, .inl x3), (4, .inl x4), (5, .inl x5), (6, .inl x6)]) dX5_duel_47 (by decide) rfl ?_
    refine kwp_sub [1, 2, 3, 4, 5, 0] rfl ?_
    exact h

set_option maxRecDepth 20000 in
theorem bX5_duel_49 {l : Launch} {g : va_G × (Nat → ClassId) × (Nat → Nat → Nat)} (x3 : Int32) (x4 : Int32) (x5 : Int32) (x6 : Int32) (x7 : Int32) (M : kM) (Q : Int32 → kM → Prop)
    (h : (((M.1 1 0 0) < x7 → ∀ z1 : Int32, z1 = x6 + 1 → kWP l (rg_x, g) mX5_duel 34 [(0, .inr (.inr (0, 0))), (3, .inl x3), (4, .inl x4), (5, .inl x5), (6, .inl z1)] [] M (kqi Q)) ∧ (¬ (M.1 1 0 0) < x7 → kCT l (rg_x, g) mX5_isRest [.inr (.inr (0, 0)), .inl x6, .inl x7] M (kqi (fun r3 M2 => ((r3 = 0 → kWP l (rg_x, g) mX5_duel 95 [(0, .inr (.inr (0, 0))), (3, .inl x3), (4, .inl x4), (5, .inl x5), (6, .inl x6), (7, .inl x7)] [] M2 (kqi Q)) ∧ (¬ r3 = 0 → ((¬ x4 = 0 → kWP l (rg_x, g) mX5_duel 90 [(0, .inr (.inr (0, 0))), (3, .inl x3), (4, .inl x4), (6, .inl x6), (7, .inl x7)] [.inl x5] M2 (kqi Q)) ∧ (x4 = 0 → kWP l (rg_x, g) mX5_duel 90 [(0, .inr (.inr (0, 0))), (3, .inl x3), (4, .inl x4), (6, .inl x6), (7, .inl x7)] [.inl (((100 : Int32) * x6) + x7)] M2 (kqi Q)))))))))) :
    kWP l (rg_x, g) mX5_duel 49 [(0, .inr (.inr (0, 0))), (3, .inl x3), (4, .inl x4), (5, .inl x5), (6, .inl x6), (7, .inl x7)] [] M (kqi Q) := by
  refine kwp_iload (pc := 49) 5 rfl dX5_duel_49 ?_
  refine kwp_aload_n (pc := 51) 0 rfl dX5_duel_51 rfl ?_
  refine kwp_getc (pc := 52) fl_X5_10 rfl rfl dX5_duel_52 ?_
  refine kwp_geti (pc := 55) fl_X5_65 rfl rfl dX5_duel_55 ?_
  refine kwp_icmp_gt (pc := 58) 101 dX5_duel_58 (by decide) (fun hc => ?_) (fun hc => ?_)
  · have h := h.1 hc
    obtain ⟨z1, ez1⟩ : ∃ z : Int32, z = x6 + 1 := ⟨_, rfl⟩
    have h := h z1 ez1
    refine kwp_iinc (pc := 101) (v := z1) (ls2 := [(6, .inl z1), (0, .inr (.inr (0, 0))), (3, .inl x3), (4, .inl x4), (5, .inl x5), (7, .inl x7)]) 4 rfl dX5_duel_101 (by rw [ez1, ic_1]) (by decide) rfl ?_
    refine kwp_goto (pc := 104) 34 dX5_duel_104 (by decide) ?_
    refine kwp_sub [1, 2, 3, 4, 0] rfl ?_
    exact h
  · have h := h.2 hc
    refine kwp_aload_n (pc := 61) 0 rfl dX5_duel_61 rfl ?_
    refine kwp_iload (pc := 62) 4 rfl dX5_duel_62 ?_
    refine kwp_iload (pc := 64) 5 rfl dX5_duel_64 ?_
    refine kwp_callV (pc := 66) (Y := mX5_isRest) (vs := [.inl x6, .inl x7]) (rest := []) fm_X5_isRest fi_X5_isRest ml_X5_208 (by decide) rfl rfl rfl rfl (by simp [kcat]) dX5_duel_66 ?_
    refine kCT.mono h (fun v M2 h => ?_)
    obtain ⟨r3, rfl, h⟩ := h
    change kWP l (rg_x, g) mX5_duel 69 [(0, .inr (.inr (0, 0))), (3, .inl x3), (4, .inl x4), (5, .inl x5), (6, .inl x6), (7, .inl x7)] [.inl r3] M2 (kqi Q)
    refine kwp_if_eq (pc := 69) 95 dX5_duel_69 (by decide) (fun hc => ?_) (fun hc => ?_)
    · have h := h.1 hc
      exact h
    · have h := h.2 hc
      refine kwp_iload (pc := 72) 2 rfl dX5_duel_72 ?_
      refine kwp_if_ne (pc := 74) 88 dX5_duel_74 (by decide) (fun hc => ?_) (fun hc => ?_)
      · have h := h.1 hc
        refine kwp_iload (pc := 88) 3 rfl dX5_duel_88 ?_
        refine kwp_sub [0, 1, 2, 4, 5] rfl ?_
        exact h
      · have h := h.2 hc
        refine kwp_bipush (pc := 77) dX5_duel_77 bp_100 ?_
        refine kwp_iload (pc := 79) 4 rfl dX5_duel_79 ?_
        refine kwp_imul (pc := 81) dX5_duel_81 ?_
        refine kwp_iload (pc := 82) 5 rfl dX5_duel_82 ?_
        refine kwp_iadd (pc := 84) dX5_duel_84 ?_
        refine kwp_goto (pc := 85) 90 dX5_duel_85 (by decide) ?_
        refine kwp_sub [0, 1, 2, 4, 5] rfl ?_
        exact h

set_option maxRecDepth 20000 in
theorem bX5_duel_90 {l : Launch} {g : va_G × (Nat → ClassId) × (Nat → Nat → Nat)} (x3 : Int32) (x4 : Int32) (x6 : Int32) (x7 : Int32) (s0 : Int32) (M : kM) (Q : Int32 → kM → Prop)
    (h : ∀ z1 : Int32, z1 = x4 + 1 → kWP l (rg_x, g) mX5_duel 95 [(0, .inr (.inr (0, 0))), (3, .inl x3), (4, .inl z1), (5, .inl s0), (6, .inl x6), (7, .inl x7)] [] M (kqi Q)) :
    kWP l (rg_x, g) mX5_duel 90 [(0, .inr (.inr (0, 0))), (3, .inl x3), (4, .inl x4), (6, .inl x6), (7, .inl x7)] [.inl s0] M (kqi Q) := by
  refine kwp_istore (pc := 90) (ls2 := [(5, .inl s0), (0, .inr (.inr (0, 0))), (3, .inl x3), (4, .inl x4), (6, .inl x6), (7, .inl x7)]) dX5_duel_90 (by decide) rfl ?_
  obtain ⟨z1, ez1⟩ : ∃ z : Int32, z = x4 + 1 := ⟨_, rfl⟩
  have h := h z1 ez1
  refine kwp_iinc (pc := 92) (v := z1) (ls2 := [(4, .inl z1), (5, .inl s0), (0, .inr (.inr (0, 0))), (3, .inl x3), (6, .inl x6), (7, .inl x7)]) 3 rfl dX5_duel_92 (by rw [ez1, ic_1]) (by decide) rfl ?_
  refine kwp_sub [2, 3, 0, 1, 4, 5] rfl ?_
  exact h

set_option maxRecDepth 20000 in
theorem bX5_duel_95 {l : Launch} {g : va_G × (Nat → ClassId) × (Nat → Nat → Nat)} (x3 : Int32) (x4 : Int32) (x5 : Int32) (x6 : Int32) (x7 : Int32) (M : kM) (Q : Int32 → kM → Prop)
    (h : ∀ z1 : Int32, z1 = x7 + 1 → kWP l (rg_x, g) mX5_duel 49 [(0, .inr (.inr (0, 0))), (3, .inl x3), (4, .inl x4), (5, .inl x5), (6, .inl x6), (7, .inl z1)] [] M (kqi Q)) :
    kWP l (rg_x, g) mX5_duel 95 [(0, .inr (.inr (0, 0))), (3, .inl x3), (4, .inl x4), (5, .inl x5), (6, .inl x6), (7, .inl x7)] [] M (kqi Q) := by
  obtain ⟨z1, ez1⟩ : ∃ z : Int32, z = x7 + 1 := ⟨_, rfl⟩
  have h := h z1 ez1
  refine kwp_iinc (pc := 95) (v := z1) (ls2 := [(7, .inl z1), (0, .inr (.inr (0, 0))), (3, .inl x3), (4, .inl x4), (5, .inl x5), (6, .inl x6)]) 5 rfl dX5_duel_95 (by rw [ez1, ic_1]) (by decide) rfl ?_
  refine kwp_goto (pc := 98) 49 dX5_duel_98 (by decide) ?_
  refine kwp_sub [1, 2, 3, 4, 5, 0] rfl ?_
  exact h

set_option maxRecDepth 20000 in
theorem bX5_duel_118 {l : Launch} {g : va_G × (Nat → ClassId) × (Nat → Nat → Nat)} (s0 : Int32) (M : kM) (Q : Int32 → kM → Prop)
    (h : Q s0 M) :
    kWP l (rg_x, g) mX5_duel 118 [] [.inl s0] M (kqi Q) := by
  exact kwp_iret (pc := 118) rfl dX5_duel_118 ⟨_, rfl, h⟩

set_option maxRecDepth 20000 in
theorem bX5_luck_0 {l : Launch} {g : va_G × (Nat → ClassId) × (Nat → Nat → Nat)} (x1 : Int32) (x2 : Int32) (x3 : Int32) (M : kM) (Q : Int32 → kM → Prop)
    (h : kCT l (rg_x, g) mX5_isRider [.inr (.inr (0, 0)), .inl x1] M (kqi (fun r2 M1 => ((r2 = 0 → kWP l (rg_x, g) mX5_luck 25 [] [] M1 (kqi Q)) ∧ (¬ r2 = 0 → kCT l (rg_x, g) mX5_within [.inl x2, .inl 0, .inl 10] M1 (kqi (fun r4 M3 => ((r4 = 0 → kWP l (rg_x, g) mX5_luck 25 [] [] M3 (kqi Q)) ∧ (¬ r4 = 0 → kCT l (rg_x, g) mX5_isZeroOrOne [.inl x3] M3 (kqi (fun r6 M5 => ((¬ r6 = 0 → vp_in x1 4 ∧ (∀ z7 : Int32, z7 = (M5.1 1 0 0) - (M5.1 11 0 x1.toNatClampNeg) → kWP l (rg_x, g) mX5_luck 55 [(0, .inr (.inr (0, 0))), (1, .inl x1), (2, .inl x2), (3, .inl x3), (4, .inl z7), (5, .inl 0), (6, .inl 1), (7, .inl 0)] [] M5 (kqi Q))) ∧ (r6 = 0 → kWP l (rg_x, g) mX5_luck 25 [] [] M5 (kqi Q)))))))))))))) :
    kWP l (rg_x, g) mX5_luck 0 [(0, .inr (.inr (0, 0))), (1, .inl x1), (2, .inl x2), (3, .inl x3)] [] M (kqi Q) := by
  refine kwp_aload_n (pc := 0) 0 rfl dX5_luck_0 rfl ?_
  refine kwp_iload_n (pc := 1) 1 rfl dX5_luck_1 rfl ?_
  refine kwp_callV (pc := 2) (Y := mX5_isRider) (vs := [.inl x1]) (rest := []) fm_X5_isRider fi_X5_isRider ml_X5_91 (by decide) rfl rfl rfl rfl (by simp [kcat]) dX5_luck_2 ?_
  refine kCT.mono h (fun v M1 h => ?_)
  obtain ⟨r2, rfl, h⟩ := h
  change kWP l (rg_x, g) mX5_luck 5 [(0, .inr (.inr (0, 0))), (1, .inl x1), (2, .inl x2), (3, .inl x3)] [.inl r2] M1 (kqi Q)
  refine kwp_if_eq (pc := 5) 25 dX5_luck_5 (by decide) (fun hc => ?_) (fun hc => ?_)
  · have h := h.1 hc
    refine kwp_sub [] rfl ?_
    exact h
  · have h := h.2 hc
    refine kwp_iload_n (pc := 8) 2 rfl dX5_luck_8 rfl ?_
    refine kwp_iconst (pc := 9) dX5_luck_9 ic_0 ?_
    refine kwp_bipush (pc := 10) dX5_luck_10 bp_10 ?_
    refine kwp_callS (pc := 12) (Y := mX5_within) (vs := [.inl x2, .inl 0, .inl 10]) (rest := []) fm_X5_within fs_X5_within ml_X5_61 (by decide) rfl rfl (by simp [kcat]) dX5_luck_12 ?_
    refine kCT.mono h (fun v M3 h => ?_)
    obtain ⟨r4, rfl, h⟩ := h
    change kWP l (rg_x, g) mX5_luck 15 [(0, .inr (.inr (0, 0))), (1, .inl x1), (2, .inl x2), (3, .inl x3)] [.inl r4] M3 (kqi Q)
    refine kwp_if_eq (pc := 15) 25 dX5_luck_15 (by decide) (fun hc => ?_) (fun hc => ?_)
    · have h := h.1 hc
      refine kwp_sub [] rfl ?_
      exact h
    · have h := h.2 hc
      refine kwp_iload_n (pc := 18) 3 rfl dX5_luck_18 rfl ?_
      refine kwp_callS (pc := 19) (Y := mX5_isZeroOrOne) (vs := [.inl x3]) (rest := []) fm_X5_isZeroOrOne fs_X5_isZeroOrOne ml_X5_178 (by decide) rfl rfl (by simp [kcat]) dX5_luck_19 ?_
      refine kCT.mono h (fun v M5 h => ?_)
      obtain ⟨r6, rfl, h⟩ := h
      change kWP l (rg_x, g) mX5_luck 22 [(0, .inr (.inr (0, 0))), (1, .inl x1), (2, .inl x2), (3, .inl x3)] [.inl r6] M5 (kqi Q)
      refine kwp_if_ne (pc := 22) 27 dX5_luck_22 (by decide) (fun hc => ?_) (fun hc => ?_)
      · have h := h.1 hc
        refine kwp_aload_n (pc := 27) 0 rfl dX5_luck_27 rfl ?_
        refine kwp_getc (pc := 28) fl_X5_10 rfl rfl dX5_luck_28 ?_
        refine kwp_geti (pc := 31) fl_X5_65 rfl rfl dX5_luck_31 ?_
        refine kwp_aload_n (pc := 34) 0 rfl dX5_luck_34 rfl ?_
        refine kwp_getc (pc := 35) fl_X5_10 rfl rfl dX5_luck_35 ?_
        refine kwp_getr (pc := 38) fl_X5_98 rfl rfl dX5_luck_38 ?_
        refine kwp_iload_n (pc := 41) 1 rfl dX5_luck_41 rfl ?_
        obtain ⟨hin, h⟩ := h
        refine kwp_iald (pc := 42) rfl hin dX5_luck_42 ?_
        refine kwp_isub (pc := 43) dX5_luck_43 ?_
        obtain ⟨z7, ez7⟩ : ∃ z : Int32, z = (M5.1 1 0 0) - (M5.1 11 0 x1.toNatClampNeg) := ⟨_, rfl⟩
        rw [← ez7]
        have h := h z7 ez7
        refine kwp_istore (pc := 44) (ls2 := [(4, .inl z7), (0, .inr (.inr (0, 0))), (1, .inl x1), (2, .inl x2), (3, .inl x3)]) dX5_luck_44 (by decide) rfl ?_
        refine kwp_iconst (pc := 46) dX5_luck_46 ic_0 ?_
        refine kwp_istore (pc := 47) (ls2 := [(5, .inl 0), (4, .inl z7), (0, .inr (.inr (0, 0))), (1, .inl x1), (2, .inl x2), (3, .inl x3)]) dX5_luck_47 (by decide) rfl ?_
        refine kwp_iconst (pc := 49) dX5_luck_49 ic_1 ?_
        refine kwp_istore (pc := 50) (ls2 := [(6, .inl 1), (5, .inl 0), (4, .inl z7), (0, .inr (.inr (0, 0))), (1, .inl x1), (2, .inl x2), (3, .inl x3)]) dX5_luck_50 (by decide) rfl ?_
        refine kwp_iconst (pc := 52) dX5_luck_52 ic_0 ?_
        refine kwp_istore (pc := 53) (ls2 := [(7, .inl 0), (6, .inl 1), (5, .inl 0), (4, .inl z7), (0, .inr (.inr (0, 0))), (1, .inl x1), (2, .inl x2), (3, .inl x3)]) dX5_luck_53 (by decide) rfl ?_
        refine kwp_sub [4, 5, 6, 7, 3, 2, 1, 0] rfl ?_
        exact h
      · have h := h.2 hc
        refine kwp_sub [] rfl ?_
        exact h

set_option maxRecDepth 20000 in
theorem bX5_luck_25 {l : Launch} {g : va_G × (Nat → ClassId) × (Nat → Nat → Nat)}  (M : kM) (Q : Int32 → kM → Prop)
    (h : Q (-1) M) :
    kWP l (rg_x, g) mX5_luck 25 [] [] M (kqi Q) := by
  refine kwp_iconst (pc := 25) dX5_luck_25 ic_m1 ?_
  exact kwp_iret (pc := 26) rfl dX5_luck_26 ⟨_, rfl, h⟩

set_option maxRecDepth 20000 in
theorem bX5_luck_55 {l : Launch} {g : va_G × (Nat → ClassId) × (Nat → Nat → Nat)} (x1 : Int32) (x2 : Int32) (x3 : Int32) (x4 : Int32) (x5 : Int32) (x6 : Int32) (x7 : Int32) (M : kM) (Q : Int32 → kM → Prop)
    (h : ((x4 ≤ x7 → kWP l (rg_x, g) mX5_luck 78 [(0, .inr (.inr (0, 0))), (1, .inl x1), (2, .inl x2), (3, .inl x3), (4, .inl x4), (5, .inl x5), (6, .inl x6), (7, .inl 0)] [] M (kqi Q)) ∧ (¬ x4 ≤ x7 → ∀ z1 : Int32, z1 = x6 * 10 → ∀ z2 : Int32, z2 = x7 + 1 → kWP l (rg_x, g) mX5_luck 55 [(0, .inr (.inr (0, 0))), (1, .inl x1), (2, .inl x2), (3, .inl x3), (4, .inl x4), (5, .inl x5), (6, .inl z1), (7, .inl z2)] [] M (kqi Q)))) :
    kWP l (rg_x, g) mX5_luck 55 [(0, .inr (.inr (0, 0))), (1, .inl x1), (2, .inl x2), (3, .inl x3), (4, .inl x4), (5, .inl x5), (6, .inl x6), (7, .inl x7)] [] M (kqi Q) := by
  refine kwp_iload (pc := 55) 7 rfl dX5_luck_55 ?_
  refine kwp_iload (pc := 57) 4 rfl dX5_luck_57 ?_
  refine kwp_icmp_ge (pc := 59) 75 dX5_luck_59 (by decide) (fun hc => ?_) (fun hc => ?_)
  · have h := h.1 hc
    refine kwp_iconst (pc := 75) dX5_luck_75 ic_0 ?_
    refine kwp_istore (pc := 76) (ls2 := [(7, .inl 0), (0, .inr (.inr (0, 0))), (1, .inl x1), (2, .inl x2), (3, .inl x3), (4, .inl x4), (5, .inl x5), (6, .inl x6)]) dX5_luck_76 (by decide) rfl ?_
    refine kwp_sub [1, 2, 3, 4, 5, 6, 7, 0] rfl ?_
    exact h
  · have h := h.2 hc
    refine kwp_iload (pc := 62) 6 rfl dX5_luck_62 ?_
    refine kwp_bipush (pc := 64) dX5_luck_64 bp_10 ?_
    refine kwp_imul (pc := 66) dX5_luck_66 ?_
    obtain ⟨z1, ez1⟩ : ∃ z : Int32, z = x6 * 10 := ⟨_, rfl⟩
    rw [← ez1]
    have h := h z1 ez1
    refine kwp_istore (pc := 67) (ls2 := [(6, .inl z1), (0, .inr (.inr (0, 0))), (1, .inl x1), (2, .inl x2), (3, .inl x3), (4, .inl x4), (5, .inl x5), (7, .inl x7)]) dX5_luck_67 (by decide) rfl ?_
    obtain ⟨z2, ez2⟩ : ∃ z : Int32, z = x7 + 1 := ⟨_, rfl⟩
    have h := h z2 ez2
    refine kwp_iinc (pc := 69) (v := z2) (ls2 := [(7, .inl z2), (6, .inl z1), (0, .inr (.inr (0, 0))), (1, .inl x1), (2, .inl x2), (3, .inl x3), (4, .inl x4), (5, .inl x5)]) 7 rfl dX5_luck_69 (by rw [ez2, ic_1]) (by decide) rfl ?_
    refine kwp_goto (pc := 72) 55 dX5_luck_72 (by decide) ?_
    refine kwp_sub [2, 3, 4, 5, 6, 7, 1, 0] rfl ?_
    exact h

set_option maxRecDepth 20000 in
theorem bX5_luck_78 {l : Launch} {g : va_G × (Nat → ClassId) × (Nat → Nat → Nat)} (x1 : Int32) (x2 : Int32) (x3 : Int32) (x4 : Int32) (x5 : Int32) (x6 : Int32) (x7 : Int32) (M : kM) (Q : Int32 → kM → Prop)
    (h : ((((1 : Int32) <<< (x4 &&& 31)) ≤ x7 → kCT l (rg_x, g) mX5_sharedDivisor [.inl x5, .inl x6] M (kqi (fun r2 M1 => ∀ z3 : Int32, z3 = mxi 1 r2 → ((¬ x3 = 0 → kWP l (rg_x, g) mX5_luck 159 [(7, .inl z3)] [.inl x6] M1 (kqi Q)) ∧ (x3 = 0 → kWP l (rg_x, g) mX5_luck 159 [(7, .inl z3)] [.inl x5] M1 (kqi Q)))))) ∧ (¬ ((1 : Int32) <<< (x4 &&& 31)) ≤ x7 → kCT l (rg_x, g) mX5_waysOf [.inl x7, .inl x4, .inl x2] M (kqi (fun r5 M4 => ((r5 ≤ 0 → kWP l (rg_x, g) mX5_luck 129 [(0, .inr (.inr (0, 0))), (1, .inl x1), (2, .inl x2), (3, .inl x3), (4, .inl x4), (5, .inl x5), (6, .inl x6), (7, .inl x7)] [] M4 (kqi Q)) ∧ (¬ r5 ≤ 0 → vp_in x1 4 ∧ (kCT l (rg_x, g) mX5_isFirstWith [.inr (.inr (0, 0)), .inl x1, .inl (x7 <<< ((M4.1 11 0 x1.toNatClampNeg) &&& 31))] M4 (kqi (fun r7 M6 => ((r7 = 0 → kWP l (rg_x, g) mX5_luck 129 [(0, .inr (.inr (0, 0))), (1, .inl x1), (2, .inl x2), (3, .inl x3), (4, .inl x4), (5, .inl x5), (6, .inl x6), (7, .inl x7)] [] M6 (kqi Q)) ∧ (¬ r7 = 0 → ∀ z8 : Int32, z8 = x5 + r5 → kWP l (rg_x, g) mX5_luck 129 [(0, .inr (.inr (0, 0))), (1, .inl x1), (2, .inl x2), (3, .inl x3), (4, .inl x4), (5, .inl z8), (6, .inl x6), (7, .inl x7)] [] M6 (kqi Q))))))))))))) :
    kWP l (rg_x, g) mX5_luck 78 [(0, .inr (.inr (0, 0))), (1, .inl x1), (2, .inl x2), (3, .inl x3), (4, .inl x4), (5, .inl x5), (6, .inl x6), (7, .inl x7)] [] M (kqi Q) := by
  refine kwp_iload (pc := 78) 7 rfl dX5_luck_78 ?_
  refine kwp_iconst (pc := 80) dX5_luck_80 ic_1 ?_
  refine kwp_iload (pc := 81) 4 rfl dX5_luck_81 ?_
  refine kwp_ishl (pc := 83) dX5_luck_83 ?_
  refine kwp_icmp_ge (pc := 84) 135 dX5_luck_84 (by decide) (fun hc => ?_) (fun hc => ?_)
  · have h := h.1 hc
    refine kwp_iconst (pc := 135) dX5_luck_135 ic_1 ?_
    refine kwp_iload (pc := 136) 5 rfl dX5_luck_136 ?_
    refine kwp_iload (pc := 138) 6 rfl dX5_luck_138 ?_
    refine kwp_callS (pc := 140) (Y := mX5_sharedDivisor) (vs := [.inl x5, .inl x6]) (rest := [.inl 1]) fm_X5_sharedDivisor fs_X5_sharedDivisor ml_X5_217 (by decide) rfl rfl (by simp [kcat]) dX5_luck_140 ?_
    refine kCT.mono h (fun v M1 h => ?_)
    obtain ⟨r2, rfl, h⟩ := h
    change kWP l (rg_x, g) mX5_luck 143 [(0, .inr (.inr (0, 0))), (1, .inl x1), (2, .inl x2), (3, .inl x3), (4, .inl x4), (5, .inl x5), (6, .inl x6), (7, .inl x7)] [.inl r2, .inl 1] M1 (kqi Q)
    refine kwp_mmax (pc := 143) ml_X5_196 (by simp [kcat]) (by decide) dX5_luck_143 ?_
    obtain ⟨z3, ez3⟩ : ∃ z : Int32, z = mxi 1 r2 := ⟨_, rfl⟩
    rw [← ez3]
    have h := h z3 ez3
    refine kwp_istore (pc := 146) (ls2 := [(7, .inl z3), (0, .inr (.inr (0, 0))), (1, .inl x1), (2, .inl x2), (3, .inl x3), (4, .inl x4), (5, .inl x5), (6, .inl x6)]) dX5_luck_146 (by decide) rfl ?_
    refine kwp_iload_n (pc := 148) 4 rfl dX5_luck_148 rfl ?_
    refine kwp_if_ne (pc := 149) 157 dX5_luck_149 (by decide) (fun hc => ?_) (fun hc => ?_)
    · have h := h.1 hc
      refine kwp_iload (pc := 157) 7 rfl dX5_luck_157 ?_
      refine kwp_sub [0] rfl ?_
      exact h
    · have h := h.2 hc
      refine kwp_iload (pc := 152) 6 rfl dX5_luck_152 ?_
      refine kwp_goto (pc := 154) 159 dX5_luck_154 (by decide) ?_
      refine kwp_sub [0] rfl ?_
      exact h
  · have h := h.2 hc
    refine kwp_iload (pc := 87) 7 rfl dX5_luck_87 ?_
    refine kwp_iload (pc := 89) 4 rfl dX5_luck_89 ?_
    refine kwp_iload_n (pc := 91) 2 rfl dX5_luck_91 rfl ?_
    refine kwp_callS (pc := 92) (Y := mX5_waysOf) (vs := [.inl x7, .inl x4, .inl x2]) (rest := []) fm_X5_waysOf fs_X5_waysOf ml_X5_211 (by decide) rfl rfl (by simp [kcat]) dX5_luck_92 ?_
    refine kCT.mono h (fun v M4 h => ?_)
    obtain ⟨r5, rfl, h⟩ := h
    change kWP l (rg_x, g) mX5_luck 95 [(0, .inr (.inr (0, 0))), (1, .inl x1), (2, .inl x2), (3, .inl x3), (4, .inl x4), (5, .inl x5), (6, .inl x6), (7, .inl x7)] [.inl r5] M4 (kqi Q)
    refine kwp_istore (pc := 95) (ls2 := [(8, .inl r5), (0, .inr (.inr (0, 0))), (1, .inl x1), (2, .inl x2), (3, .inl x3), (4, .inl x4), (5, .inl x5), (6, .inl x6), (7, .inl x7)]) dX5_luck_95 (by decide) rfl ?_
    refine kwp_iload (pc := 97) 0 rfl dX5_luck_97 ?_
    refine kwp_if_le (pc := 99) 129 dX5_luck_99 (by decide) (fun hc => ?_) (fun hc => ?_)
    · have h := h.1 hc
      refine kwp_sub [1, 2, 3, 4, 5, 6, 7, 8] rfl ?_
      exact h
    · have h := h.2 hc
      refine kwp_aload_n (pc := 102) 1 rfl dX5_luck_102 rfl ?_
      refine kwp_iload_n (pc := 103) 2 rfl dX5_luck_103 rfl ?_
      refine kwp_iload (pc := 104) 8 rfl dX5_luck_104 ?_
      refine kwp_aload_n (pc := 106) 1 rfl dX5_luck_106 rfl ?_
      refine kwp_getc (pc := 107) fl_X5_10 rfl rfl dX5_luck_107 ?_
      refine kwp_getr (pc := 110) fl_X5_98 rfl rfl dX5_luck_110 ?_
      refine kwp_iload_n (pc := 113) 2 rfl dX5_luck_113 rfl ?_
      obtain ⟨hin, h⟩ := h
      refine kwp_iald (pc := 114) rfl hin dX5_luck_114 ?_
      refine kwp_ishl (pc := 115) dX5_luck_115 ?_
      refine kwp_callV (pc := 116) (Y := mX5_isFirstWith) (vs := [.inl x1, .inl (x7 <<< ((M4.1 11 0 x1.toNatClampNeg) &&& 31))]) (rest := []) fm_X5_isFirstWith fi_X5_isFirstWith ml_X5_214 (by decide) rfl rfl rfl rfl (by simp [kcat]) dX5_luck_116 ?_
      refine kCT.mono h (fun v M6 h => ?_)
      obtain ⟨r7, rfl, h⟩ := h
      change kWP l (rg_x, g) mX5_luck 119 [(8, .inl r5), (0, .inr (.inr (0, 0))), (1, .inl x1), (2, .inl x2), (3, .inl x3), (4, .inl x4), (5, .inl x5), (6, .inl x6), (7, .inl x7)] [.inl r7] M6 (kqi Q)
      refine kwp_if_eq (pc := 119) 129 dX5_luck_119 (by decide) (fun hc => ?_) (fun hc => ?_)
      · have h := h.1 hc
        refine kwp_sub [1, 2, 3, 4, 5, 6, 7, 8] rfl ?_
        exact h
      · have h := h.2 hc
        refine kwp_iload (pc := 122) 6 rfl dX5_luck_122 ?_
        refine kwp_iload (pc := 124) 0 rfl dX5_luck_124 ?_
        refine kwp_iadd (pc := 126) dX5_luck_126 ?_
        obtain ⟨z8, ez8⟩ : ∃ z : Int32, z = x5 + r5 := ⟨_, rfl⟩
        rw [← ez8]
        have h := h z8 ez8
        refine kwp_istore (pc := 127) (ls2 := [(5, .inl z8), (8, .inl r5), (0, .inr (.inr (0, 0))), (1, .inl x1), (2, .inl x2), (3, .inl x3), (4, .inl x4), (6, .inl x6), (7, .inl x7)]) dX5_luck_127 (by decide) rfl ?_
        refine kwp_sub [2, 3, 4, 5, 6, 0, 7, 8] rfl ?_
        exact h

set_option maxRecDepth 20000 in
theorem bX5_luck_129 {l : Launch} {g : va_G × (Nat → ClassId) × (Nat → Nat → Nat)} (x1 : Int32) (x2 : Int32) (x3 : Int32) (x4 : Int32) (x5 : Int32) (x6 : Int32) (x7 : Int32) (M : kM) (Q : Int32 → kM → Prop)
    (h : ∀ z1 : Int32, z1 = x7 + 1 → kWP l (rg_x, g) mX5_luck 78 [(0, .inr (.inr (0, 0))), (1, .inl x1), (2, .inl x2), (3, .inl x3), (4, .inl x4), (5, .inl x5), (6, .inl x6), (7, .inl z1)] [] M (kqi Q)) :
    kWP l (rg_x, g) mX5_luck 129 [(0, .inr (.inr (0, 0))), (1, .inl x1), (2, .inl x2), (3, .inl x3), (4, .inl x4), (5, .inl x5), (6, .inl x6), (7, .inl x7)] [] M (kqi Q) := by
  obtain ⟨z1, ez1⟩ : ∃ z : Int32, z = x7 + 1 := ⟨_, rfl⟩
  have h := h z1 ez1
  refine kwp_iinc (pc := 129) (v := z1) (ls2 := [(7, .inl z1), (0, .inr (.inr (0, 0))), (1, .inl x1), (2, .inl x2), (3, .inl x3), (4, .inl x4), (5, .inl x5), (6, .inl x6)]) 7 rfl dX5_luck_129 (by rw [ez1, ic_1]) (by decide) rfl ?_
  refine kwp_goto (pc := 132) 78 dX5_luck_132 (by decide) ?_
  refine kwp_sub [1, 2, 3, 4, 5, 6, 7, 0] rfl ?_
  exact h

set_option maxRecDepth 20000 in
theorem bX5_luck_159 {l : Launch} {g : va_G × (Nat → ClassId) × (Nat → Nat → Nat)} (x7 : Int32) (s0 : Int32) (M : kM) (Q : Int32 → kM → Prop)
    (h : ¬ x7 = 0 ∧ (Q (s0 / x7) M)) :
    kWP l (rg_x, g) mX5_luck 159 [(7, .inl x7)] [.inl s0] M (kqi Q) := by
  refine kwp_iload (pc := 159) 0 rfl dX5_luck_159 ?_
  obtain ⟨hne, h⟩ := h
  refine kwp_idiv (pc := 161) dX5_luck_161 hne ?_
  exact kwp_iret (pc := 162) rfl dX5_luck_162 ⟨_, rfl, h⟩

set_option maxRecDepth 20000 in
theorem bX5_image_0 {l : Launch} {g : va_G × (Nat → ClassId) × (Nat → Nat → Nat)}  (M : kM) (Q : Int32 → kM → Prop)
    (h : kCT l (rg_x, g) mX3_takeAll [.inr (.inr (1, 1)), .inr (.inr (1, 0))] M (kqv (fun M1 => kCT l (rg_x, g) mX2_takeAll [.inr (.inr (2, 1)), .inr (.inr (2, 0))] M1 (kqv (fun M2 => ∀ M3 : kM, M3 = ku M2 0 0 4 1 → Q 1 M3))))) :
    kWP l (rg_x, g) mX5_image 0 [(0, .inr (.inr (0, 0)))] [] M (kqi Q) := by
  refine kwp_aload_n (pc := 0) 0 rfl dX5_image_0 rfl ?_
  refine kwp_getc (pc := 1) fl_X5_23 rfl rfl dX5_image_1 ?_
  refine kwp_aload_n (pc := 4) 0 rfl dX5_image_4 rfl ?_
  refine kwp_getc (pc := 5) fl_X5_10 rfl rfl dX5_image_5 ?_
  refine kwp_callV (pc := 8) (Y := mX3_takeAll) (vs := [.inr (.inr (1, 0))]) (rest := []) fm_X3_takeAll fi_X3_takeAll ml_X5_220 (by decide) rfl rfl rfl rfl (by simp [kcat]) dX5_image_8 ?_
  refine kCT.mono h (fun v M1 h => ?_)
  obtain ⟨rfl, h⟩ := h
  change kWP l (rg_x, g) mX5_image 11 [(0, .inr (.inr (0, 0)))] [] M1 (kqi Q)
  refine kwp_aload_n (pc := 11) 0 rfl dX5_image_11 rfl ?_
  refine kwp_getc (pc := 12) fl_X5_26 rfl rfl dX5_image_12 ?_
  refine kwp_aload_n (pc := 15) 0 rfl dX5_image_15 rfl ?_
  refine kwp_getc (pc := 16) fl_X5_19 rfl rfl dX5_image_16 ?_
  refine kwp_callV (pc := 19) (Y := mX2_takeAll) (vs := [.inr (.inr (2, 0))]) (rest := []) fm_X2_takeAll fi_X2_takeAll ml_X5_223 (by decide) rfl rfl rfl rfl (by simp [kcat]) dX5_image_19 ?_
  refine kCT.mono h (fun v M2 h => ?_)
  obtain ⟨rfl, h⟩ := h
  change kWP l (rg_x, g) mX5_image 22 [(0, .inr (.inr (0, 0)))] [] M2 (kqi Q)
  refine kwp_aload_n (pc := 22) 0 rfl dX5_image_22 rfl ?_
  refine kwp_iconst (pc := 23) dX5_image_23 ic_1 ?_
  refine kwp_put (pc := 24) fp_X5_29 rfl rfl (by decide) dX5_image_24 ?_
  obtain ⟨M3, eM3⟩ : ∃ z : kM, z = ku M2 0 0 4 1 := ⟨_, rfl⟩
  rw [← eM3]
  have h := h M3 eM3
  refine kwp_iconst (pc := 27) dX5_image_27 ic_1 ?_
  exact kwp_iret (pc := 28) rfl dX5_image_28 ⟨_, rfl, h⟩

set_option maxRecDepth 20000 in
theorem bX5_restore_0 {l : Launch} {g : va_G × (Nat → ClassId) × (Nat → Nat → Nat)}  (M : kM) (Q : Int32 → kM → Prop)
    (h : ((¬ (M.1 0 0 4) = 0 → kCT l (rg_x, g) mX3_takeAll [.inr (.inr (1, 0)), .inr (.inr (1, 1))] M (kqv (fun M1 => kCT l (rg_x, g) mX2_takeAll [.inr (.inr (2, 0)), .inr (.inr (2, 1))] M1 (kqv (fun M2 => Q 1 M2))))) ∧ ((M.1 0 0 4) = 0 → Q (-4) M))) :
    kWP l (rg_x, g) mX5_restore 0 [(0, .inr (.inr (0, 0)))] [] M (kqi Q) := by
  refine kwp_aload_n (pc := 0) 0 rfl dX5_restore_0 rfl ?_
  refine kwp_geti (pc := 1) fl_X5_29 rfl rfl dX5_restore_1 ?_
  refine kwp_if_ne (pc := 4) 10 dX5_restore_4 (by decide) (fun hc => ?_) (fun hc => ?_)
  · have h := h.1 hc
    refine kwp_aload_n (pc := 10) 0 rfl dX5_restore_10 rfl ?_
    refine kwp_getc (pc := 11) fl_X5_10 rfl rfl dX5_restore_11 ?_
    refine kwp_aload_n (pc := 14) 0 rfl dX5_restore_14 rfl ?_
    refine kwp_getc (pc := 15) fl_X5_23 rfl rfl dX5_restore_15 ?_
    refine kwp_callV (pc := 18) (Y := mX3_takeAll) (vs := [.inr (.inr (1, 1))]) (rest := []) fm_X3_takeAll fi_X3_takeAll ml_X5_220 (by decide) rfl rfl rfl rfl (by simp [kcat]) dX5_restore_18 ?_
    refine kCT.mono h (fun v M1 h => ?_)
    obtain ⟨rfl, h⟩ := h
    change kWP l (rg_x, g) mX5_restore 21 [(0, .inr (.inr (0, 0)))] [] M1 (kqi Q)
    refine kwp_aload_n (pc := 21) 0 rfl dX5_restore_21 rfl ?_
    refine kwp_getc (pc := 22) fl_X5_19 rfl rfl dX5_restore_22 ?_
    refine kwp_aload_n (pc := 25) 0 rfl dX5_restore_25 rfl ?_
    refine kwp_getc (pc := 26) fl_X5_26 rfl rfl dX5_restore_26 ?_
    refine kwp_callV (pc := 29) (Y := mX2_takeAll) (vs := [.inr (.inr (2, 1))]) (rest := []) fm_X2_takeAll fi_X2_takeAll ml_X5_223 (by decide) rfl rfl rfl rfl (by simp [kcat]) dX5_restore_29 ?_
    refine kCT.mono h (fun v M2 h => ?_)
    obtain ⟨rfl, h⟩ := h
    change kWP l (rg_x, g) mX5_restore 32 [(0, .inr (.inr (0, 0)))] [] M2 (kqi Q)
    refine kwp_iconst (pc := 32) dX5_restore_32 ic_1 ?_
    exact kwp_iret (pc := 33) rfl dX5_restore_33 ⟨_, rfl, h⟩
  · have h := h.2 hc
    refine kwp_bipush (pc := 7) dX5_restore_7 bp_m4 ?_
    exact kwp_iret (pc := 9) rfl dX5_restore_9 ⟨_, rfl, h⟩

set_option maxRecDepth 20000 in
theorem bX5_passed_0 {l : Launch} {g : va_G × (Nat → ClassId) × (Nat → Nat → Nat)} (x1 : Int32) (x2 : Int32) (x3 : Int32) (x4 : Int32) (x5 : Int32) (M : kM) (Q : Int32 → kM → Prop)
    (h : kCT l (rg_x, g) mX5_rowFault [.inr (.inr (0, 0)), .inl x1, .inl x2, .inl x3, .inl x4, .inl x5] M (kqi (fun r2 M1 => ((0 ≤ r2 → kWP l (rg_x, g) mX5_passed 27 [(0, .inr (.inr (0, 0))), (1, .inl x1), (2, .inl x2), (4, .inl x4), (5, .inl x5), (7, .inl 0), (8, .inl 0)] [] M1 (kqi Q)) ∧ (¬ 0 ≤ r2 → Q r2 M1))))) :
    kWP l (rg_x, g) mX5_passed 0 [(0, .inr (.inr (0, 0))), (1, .inl x1), (2, .inl x2), (3, .inl x3), (4, .inl x4), (5, .inl x5)] [] M (kqi Q) := by
  refine kwp_aload_n (pc := 0) 0 rfl dX5_passed_0 rfl ?_
  refine kwp_iload_n (pc := 1) 1 rfl dX5_passed_1 rfl ?_
  refine kwp_iload_n (pc := 2) 2 rfl dX5_passed_2 rfl ?_
  refine kwp_iload_n (pc := 3) 3 rfl dX5_passed_3 rfl ?_
  refine kwp_iload (pc := 4) 4 rfl dX5_passed_4 ?_
  refine kwp_iload (pc := 6) 5 rfl dX5_passed_6 ?_
  refine kwp_callV (pc := 8) (Y := mX5_rowFault) (vs := [.inl x1, .inl x2, .inl x3, .inl x4, .inl x5]) (rest := []) fm_X5_rowFault fi_X5_rowFault ml_X5_226 (by decide) rfl rfl rfl rfl (by simp [kcat]) dX5_passed_8 ?_
  refine kCT.mono h (fun v M1 h => ?_)
  obtain ⟨r2, rfl, h⟩ := h
  change kWP l (rg_x, g) mX5_passed 11 [(0, .inr (.inr (0, 0))), (1, .inl x1), (2, .inl x2), (3, .inl x3), (4, .inl x4), (5, .inl x5)] [.inl r2] M1 (kqi Q)
  refine kwp_istore (pc := 11) (ls2 := [(6, .inl r2), (0, .inr (.inr (0, 0))), (1, .inl x1), (2, .inl x2), (3, .inl x3), (4, .inl x4), (5, .inl x5)]) dX5_passed_11 (by decide) rfl ?_
  refine kwp_iload (pc := 13) 0 rfl dX5_passed_13 ?_
  refine kwp_if_ge (pc := 15) 21 dX5_passed_15 (by decide) (fun hc => ?_) (fun hc => ?_)
  · have h := h.1 hc
    refine kwp_iconst (pc := 21) dX5_passed_21 ic_0 ?_
    refine kwp_istore (pc := 22) (ls2 := [(7, .inl 0), (6, .inl r2), (0, .inr (.inr (0, 0))), (1, .inl x1), (2, .inl x2), (3, .inl x3), (4, .inl x4), (5, .inl x5)]) dX5_passed_22 (by decide) rfl ?_
    refine kwp_iconst (pc := 24) dX5_passed_24 ic_0 ?_
    refine kwp_istore (pc := 25) (ls2 := [(8, .inl 0), (7, .inl 0), (6, .inl r2), (0, .inr (.inr (0, 0))), (1, .inl x1), (2, .inl x2), (3, .inl x3), (4, .inl x4), (5, .inl x5)]) dX5_passed_25 (by decide) rfl ?_
    refine kwp_sub [3, 4, 5, 7, 8, 1, 0] rfl ?_
    exact h
  · have h := h.2 hc
    refine kwp_iload (pc := 18) 0 rfl dX5_passed_18 ?_
    exact kwp_iret (pc := 20) rfl dX5_passed_20 ⟨_, rfl, h⟩

set_option maxRecDepth 20000 in
theorem bX5_passed_27 {l : Launch} {g : va_G × (Nat → ClassId) × (Nat → Nat → Nat)} (x1 : Int32) (x2 : Int32) (x4 : Int32) (x5 : Int32) (x7 : Int32) (x8 : Int32) (M : kM) (Q : Int32 → kM → Prop)
    (h : ((5 ≤ x8 → Q x7 M) ∧ (¬ 5 ≤ x8 → kCT l (rg_x, g) mX0_begin [.inr (.inr (3, 0)), .inr (.inr (1, 0))] M (kqv (fun M1 => vp_in x1 4 ∧ (∀ M2 : kM, M2 = ku M1 10 2 x1.toNatClampNeg x8 → kCT l (rg_x, g) mX0_rideToForge [.inr (.inr (3, 0)), .inl x1, .inl 0] M2 (kqi (fun r4 M3 => vp_in x2 4 ∧ (kCT l (rg_x, g) mX5_isTold [.inr (.inr (0, 0)), .inl x1, .inr (.inr (5, x2.toNatClampNeg)), .inl x4, .inl x5] M3 (kqi (fun r6 M5 => ((r6 = 0 → kWP l (rg_x, g) mX5_passed 95 [(0, .inr (.inr (0, 0))), (1, .inl x1), (2, .inl x2), (4, .inl x4), (5, .inl x5), (7, .inl x7), (8, .inl x8)] [] M5 (kqi Q)) ∧ (¬ r6 = 0 → ∀ z7 : Int32, z7 = x7 ||| ((1 : Int32) <<< (x8 &&& 31)) → kWP l (rg_x, g) mX5_passed 95 [(0, .inr (.inr (0, 0))), (1, .inl x1), (2, .inl x2), (4, .inl x4), (5, .inl x5), (7, .inl z7), (8, .inl x8)] [] M5 (kqi Q)))))))))))))) :
    kWP l (rg_x, g) mX5_passed 27 [(0, .inr (.inr (0, 0))), (1, .inl x1), (2, .inl x2), (4, .inl x4), (5, .inl x5), (7, .inl x7), (8, .inl x8)] [] M (kqi Q) := by
  refine kwp_iload (pc := 27) 6 rfl dX5_passed_27 ?_
  refine kwp_iconst (pc := 29) dX5_passed_29 ic_5 ?_
  refine kwp_icmp_ge (pc := 30) 101 dX5_passed_30 (by decide) (fun hc => ?_) (fun hc => ?_)
  · have h := h.1 hc
    refine kwp_iload (pc := 101) 5 rfl dX5_passed_101 ?_
    exact kwp_iret (pc := 103) rfl dX5_passed_103 ⟨_, rfl, h⟩
  · have h := h.2 hc
    refine kwp_aload_n (pc := 33) 0 rfl dX5_passed_33 rfl ?_
    refine kwp_getc (pc := 34) fl_X5_36 rfl rfl dX5_passed_34 ?_
    refine kwp_aload_n (pc := 37) 0 rfl dX5_passed_37 rfl ?_
    refine kwp_getc (pc := 38) fl_X5_10 rfl rfl dX5_passed_38 ?_
    refine kwp_callV (pc := 41) (Y := mX0_begin) (vs := [.inr (.inr (1, 0))]) (rest := []) fm_X0_begin fi_X0_begin ml_X5_181 (by decide) rfl rfl rfl rfl (by simp [kcat]) dX5_passed_41 ?_
    refine kCT.mono h (fun v M1 h => ?_)
    obtain ⟨rfl, h⟩ := h
    change kWP l (rg_x, g) mX5_passed 44 [(0, .inr (.inr (0, 0))), (1, .inl x1), (2, .inl x2), (4, .inl x4), (5, .inl x5), (7, .inl x7), (8, .inl x8)] [] M1 (kqi Q)
    refine kwp_aload_n (pc := 44) 0 rfl dX5_passed_44 rfl ?_
    refine kwp_getc (pc := 45) fl_X5_36 rfl rfl dX5_passed_45 ?_
    refine kwp_getc (pc := 48) fl_X5_187 rfl rfl dX5_passed_48 ?_
    refine kwp_getr (pc := 51) fl_X5_95 rfl rfl dX5_passed_51 ?_
    refine kwp_iload_n (pc := 54) 1 rfl dX5_passed_54 rfl ?_
    refine kwp_iload (pc := 55) 6 rfl dX5_passed_55 ?_
    obtain ⟨hin, h⟩ := h
    refine kwp_iast (pc := 57) rfl hin dX5_passed_57 ?_
    obtain ⟨M2, eM2⟩ : ∃ z : kM, z = ku M1 10 2 x1.toNatClampNeg x8 := ⟨_, rfl⟩
    rw [← eM2]
    have h := h M2 eM2
    refine kwp_aload_n (pc := 58) 0 rfl dX5_passed_58 rfl ?_
    refine kwp_getc (pc := 59) fl_X5_36 rfl rfl dX5_passed_59 ?_
    refine kwp_iload_n (pc := 62) 1 rfl dX5_passed_62 rfl ?_
    refine kwp_iconst (pc := 63) dX5_passed_63 ic_0 ?_
    refine kwp_callV (pc := 64) (Y := mX0_rideToForge) (vs := [.inl x1, .inl 0]) (rest := []) fm_X0_rideToForge fi_X0_rideToForge ml_X5_184 (by decide) rfl rfl rfl rfl (by simp [kcat]) dX5_passed_64 ?_
    refine kCT.mono h (fun v M3 h => ?_)
    obtain ⟨r4, rfl, h⟩ := h
    change kWP l (rg_x, g) mX5_passed 67 [(0, .inr (.inr (0, 0))), (1, .inl x1), (2, .inl x2), (4, .inl x4), (5, .inl x5), (7, .inl x7), (8, .inl x8)] [.inl r4] M3 (kqi Q)
    refine kwp_pop (pc := 67) dX5_passed_67 rfl ?_
    refine kwp_aload_n (pc := 68) 0 rfl dX5_passed_68 rfl ?_
    refine kwp_iload_n (pc := 69) 1 rfl dX5_passed_69 rfl ?_
    refine kwp_aload_n (pc := 70) 0 rfl dX5_passed_70 rfl ?_
    refine kwp_getc (pc := 71) fl_X5_50 rfl rfl dX5_passed_71 ?_
    refine kwp_iload_n (pc := 74) 2 rfl dX5_passed_74 rfl ?_
    obtain ⟨hin, h⟩ := h
    refine kwp_aald (pc := 75) rfl hin dX5_passed_75 ?_
    refine kwp_iload (pc := 76) 3 rfl dX5_passed_76 ?_
    refine kwp_iload (pc := 78) 4 rfl dX5_passed_78 ?_
    refine kwp_callV (pc := 80) (Y := mX5_isTold) (vs := [.inl x1, .inr (.inr (5, x2.toNatClampNeg)), .inl x4, .inl x5]) (rest := []) fm_X5_isTold fi_X5_isTold ml_X5_230 (by decide) rfl rfl rfl rfl (by simp [kcat]) dX5_passed_80 ?_
    refine kCT.mono h (fun v M5 h => ?_)
    obtain ⟨r6, rfl, h⟩ := h
    change kWP l (rg_x, g) mX5_passed 83 [(0, .inr (.inr (0, 0))), (1, .inl x1), (2, .inl x2), (4, .inl x4), (5, .inl x5), (7, .inl x7), (8, .inl x8)] [.inl r6] M5 (kqi Q)
    refine kwp_if_eq (pc := 83) 95 dX5_passed_83 (by decide) (fun hc => ?_) (fun hc => ?_)
    · have h := h.1 hc
      exact h
    · have h := h.2 hc
      refine kwp_iload (pc := 86) 5 rfl dX5_passed_86 ?_
      refine kwp_iconst (pc := 88) dX5_passed_88 ic_1 ?_
      refine kwp_iload (pc := 89) 6 rfl dX5_passed_89 ?_
      refine kwp_ishl (pc := 91) dX5_passed_91 ?_
      refine kwp_ior (pc := 92) dX5_passed_92 ?_
      obtain ⟨z7, ez7⟩ : ∃ z : Int32, z = x7 ||| ((1 : Int32) <<< (x8 &&& 31)) := ⟨_, rfl⟩
      rw [← ez7]
      have h := h z7 ez7
      refine kwp_istore (pc := 93) (ls2 := [(7, .inl z7), (0, .inr (.inr (0, 0))), (1, .inl x1), (2, .inl x2), (4, .inl x4), (5, .inl x5), (8, .inl x8)]) dX5_passed_93 (by decide) rfl ?_
      refine kwp_sub [1, 2, 3, 4, 5, 0, 6] rfl ?_
      exact h

set_option maxRecDepth 20000 in
theorem bX5_passed_95 {l : Launch} {g : va_G × (Nat → ClassId) × (Nat → Nat → Nat)} (x1 : Int32) (x2 : Int32) (x4 : Int32) (x5 : Int32) (x7 : Int32) (x8 : Int32) (M : kM) (Q : Int32 → kM → Prop)
    (h : ∀ z1 : Int32, z1 = x8 + 1 → kWP l (rg_x, g) mX5_passed 27 [(0, .inr (.inr (0, 0))), (1, .inl x1), (2, .inl x2), (4, .inl x4), (5, .inl x5), (7, .inl x7), (8, .inl z1)] [] M (kqi Q)) :
    kWP l (rg_x, g) mX5_passed 95 [(0, .inr (.inr (0, 0))), (1, .inl x1), (2, .inl x2), (4, .inl x4), (5, .inl x5), (7, .inl x7), (8, .inl x8)] [] M (kqi Q) := by
  obtain ⟨z1, ez1⟩ : ∃ z : Int32, z = x8 + 1 := ⟨_, rfl⟩
  have h := h z1 ez1
  refine kwp_iinc (pc := 95) (v := z1) (ls2 := [(8, .inl z1), (0, .inr (.inr (0, 0))), (1, .inl x1), (2, .inl x2), (4, .inl x4), (5, .inl x5), (7, .inl x7)]) 6 rfl dX5_passed_95 (by rw [ez1, ic_1]) (by decide) rfl ?_
  refine kwp_goto (pc := 98) 27 dX5_passed_98 (by decide) ?_
  refine kwp_sub [1, 2, 3, 4, 5, 6, 0] rfl ?_
  exact h

set_option maxRecDepth 20000 in
theorem bX5_film_0 {l : Launch} {g : va_G × (Nat → ClassId) × (Nat → Nat → Nat)} (x1 : Int32) (x2 : Int32) (x3 : Int32) (x4 : Int32) (x5 : Int32) (M : kM) (Q : Int32 → kM → Prop)
    (h : kCT l (rg_x, g) mX5_rowFault [.inr (.inr (0, 0)), .inl x1, .inl x3, .inl x4, .inl x5, .inl x2] M (kqi (fun r2 M1 => ((0 ≤ r2 → kCT l (rg_x, g) mX0_begin [.inr (.inr (3, 0)), .inr (.inr (1, 0))] M1 (kqv (fun M3 => kCT l (rg_x, g) mX0_rideToForge [.inr (.inr (3, 0)), .inl x1, .inl 0] M3 (kqi (fun r5 M4 => vp_in x1 4 ∧ (∀ z6 : Int32, z6 = (M4.1 11 0 x1.toNatClampNeg) + 1 → kWP l (rg_x, g) mX5_film 58 [(0, .inr (.inr (0, 0))), (1, .inl x1), (2, .inl x2), (3, .inl x3), (5, .inl x5), (7, .inl z6), (8, .inl 0)] [] M4 (kqi Q))))))) ∧ (¬ 0 ≤ r2 → Q r2 M1))))) :
    kWP l (rg_x, g) mX5_film 0 [(0, .inr (.inr (0, 0))), (1, .inl x1), (2, .inl x2), (3, .inl x3), (4, .inl x4), (5, .inl x5)] [] M (kqi Q) := by
  refine kwp_aload_n (pc := 0) 0 rfl dX5_film_0 rfl ?_
  refine kwp_iload_n (pc := 1) 1 rfl dX5_film_1 rfl ?_
  refine kwp_iload_n (pc := 2) 3 rfl dX5_film_2 rfl ?_
  refine kwp_iload (pc := 3) 4 rfl dX5_film_3 ?_
  refine kwp_iload (pc := 5) 5 rfl dX5_film_5 ?_
  refine kwp_iload_n (pc := 7) 2 rfl dX5_film_7 rfl ?_
  refine kwp_callV (pc := 8) (Y := mX5_rowFault) (vs := [.inl x1, .inl x3, .inl x4, .inl x5, .inl x2]) (rest := []) fm_X5_rowFault fi_X5_rowFault ml_X5_226 (by decide) rfl rfl rfl rfl (by simp [kcat]) dX5_film_8 ?_
  refine kCT.mono h (fun v M1 h => ?_)
  obtain ⟨r2, rfl, h⟩ := h
  change kWP l (rg_x, g) mX5_film 11 [(0, .inr (.inr (0, 0))), (1, .inl x1), (2, .inl x2), (3, .inl x3), (4, .inl x4), (5, .inl x5)] [.inl r2] M1 (kqi Q)
  refine kwp_istore (pc := 11) (ls2 := [(6, .inl r2), (0, .inr (.inr (0, 0))), (1, .inl x1), (2, .inl x2), (3, .inl x3), (4, .inl x4), (5, .inl x5)]) dX5_film_11 (by decide) rfl ?_
  refine kwp_iload (pc := 13) 0 rfl dX5_film_13 ?_
  refine kwp_if_ge (pc := 15) 21 dX5_film_15 (by decide) (fun hc => ?_) (fun hc => ?_)
  · have h := h.1 hc
    refine kwp_aload_n (pc := 21) 1 rfl dX5_film_21 rfl ?_
    refine kwp_getc (pc := 22) fl_X5_36 rfl rfl dX5_film_22 ?_
    refine kwp_aload_n (pc := 25) 1 rfl dX5_film_25 rfl ?_
    refine kwp_getc (pc := 26) fl_X5_10 rfl rfl dX5_film_26 ?_
    refine kwp_callV (pc := 29) (Y := mX0_begin) (vs := [.inr (.inr (1, 0))]) (rest := []) fm_X0_begin fi_X0_begin ml_X5_181 (by decide) rfl rfl rfl rfl (by simp [kcat]) dX5_film_29 ?_
    refine kCT.mono h (fun v M3 h => ?_)
    obtain ⟨rfl, h⟩ := h
    change kWP l (rg_x, g) mX5_film 32 [(6, .inl r2), (0, .inr (.inr (0, 0))), (1, .inl x1), (2, .inl x2), (3, .inl x3), (4, .inl x4), (5, .inl x5)] [] M3 (kqi Q)
    refine kwp_aload_n (pc := 32) 1 rfl dX5_film_32 rfl ?_
    refine kwp_getc (pc := 33) fl_X5_36 rfl rfl dX5_film_33 ?_
    refine kwp_iload_n (pc := 36) 2 rfl dX5_film_36 rfl ?_
    refine kwp_iconst (pc := 37) dX5_film_37 ic_0 ?_
    refine kwp_callV (pc := 38) (Y := mX0_rideToForge) (vs := [.inl x1, .inl 0]) (rest := []) fm_X0_rideToForge fi_X0_rideToForge ml_X5_184 (by decide) rfl rfl rfl rfl (by simp [kcat]) dX5_film_38 ?_
    refine kCT.mono h (fun v M4 h => ?_)
    obtain ⟨r5, rfl, h⟩ := h
    change kWP l (rg_x, g) mX5_film 41 [(6, .inl r2), (0, .inr (.inr (0, 0))), (1, .inl x1), (2, .inl x2), (3, .inl x3), (4, .inl x4), (5, .inl x5)] [.inl r5] M4 (kqi Q)
    refine kwp_pop (pc := 41) dX5_film_41 rfl ?_
    refine kwp_aload_n (pc := 42) 1 rfl dX5_film_42 rfl ?_
    refine kwp_getc (pc := 43) fl_X5_10 rfl rfl dX5_film_43 ?_
    refine kwp_getr (pc := 46) fl_X5_98 rfl rfl dX5_film_46 ?_
    refine kwp_iload_n (pc := 49) 2 rfl dX5_film_49 rfl ?_
    obtain ⟨hin, h⟩ := h
    refine kwp_iald (pc := 50) rfl hin dX5_film_50 ?_
    refine kwp_iconst (pc := 51) dX5_film_51 ic_1 ?_
    refine kwp_iadd (pc := 52) dX5_film_52 ?_
    obtain ⟨z6, ez6⟩ : ∃ z : Int32, z = (M4.1 11 0 x1.toNatClampNeg) + 1 := ⟨_, rfl⟩
    rw [← ez6]
    have h := h z6 ez6
    refine kwp_istore (pc := 53) (ls2 := [(7, .inl z6), (6, .inl r2), (0, .inr (.inr (0, 0))), (1, .inl x1), (2, .inl x2), (3, .inl x3), (4, .inl x4), (5, .inl x5)]) dX5_film_53 (by decide) rfl ?_
    refine kwp_iconst (pc := 55) dX5_film_55 ic_0 ?_
    refine kwp_istore (pc := 56) (ls2 := [(8, .inl 0), (7, .inl z6), (6, .inl r2), (0, .inr (.inr (0, 0))), (1, .inl x1), (2, .inl x2), (3, .inl x3), (4, .inl x4), (5, .inl x5)]) dX5_film_56 (by decide) rfl ?_
    refine kwp_sub [3, 4, 5, 6, 8, 1, 0] rfl ?_
    exact h
  · have h := h.2 hc
    refine kwp_iload (pc := 18) 0 rfl dX5_film_18 ?_
    exact kwp_iret (pc := 20) rfl dX5_film_20 ⟨_, rfl, h⟩

set_option maxRecDepth 20000 in
theorem bX5_film_58 {l : Launch} {g : va_G × (Nat → ClassId) × (Nat → Nat → Nat)} (x1 : Int32) (x2 : Int32) (x3 : Int32) (x5 : Int32) (x7 : Int32) (x8 : Int32) (M : kM) (Q : Int32 → kM → Prop)
    (h : ((x2 ≤ x8 → Q x2 M) ∧ (¬ x2 ≤ x8 → vp_in x3 4 ∧ (kCT l (rg_x, g) mX0_cameTo [.inr (.inr (3, 0)), .inl x1, .inl (x7 + x8)] M (kqi (fun r2 M1 => kCT l (rg_x, g) mX1_put [.inr (.inr (5, x3.toNatClampNeg)), .inl (x5 + x8), .inr (.inl (r2.toInt64))] M1 (kqv (fun M3 => ∀ z4 : Int32, z4 = x8 + 1 → kWP l (rg_x, g) mX5_film 58 [(0, .inr (.inr (0, 0))), (1, .inl x1), (2, .inl x2), (3, .inl x3), (5, .inl x5), (7, .inl x7), (8, .inl z4)] [] M3 (kqi Q))))))))) :
    kWP l (rg_x, g) mX5_film 58 [(0, .inr (.inr (0, 0))), (1, .inl x1), (2, .inl x2), (3, .inl x3), (5, .inl x5), (7, .inl x7), (8, .inl x8)] [] M (kqi Q) := by
  refine kwp_iload (pc := 58) 6 rfl dX5_film_58 ?_
  refine kwp_iload_n (pc := 60) 2 rfl dX5_film_60 rfl ?_
  refine kwp_icmp_ge (pc := 61) 98 dX5_film_61 (by decide) (fun hc => ?_) (fun hc => ?_)
  · have h := h.1 hc
    refine kwp_iload_n (pc := 98) 2 rfl dX5_film_98 rfl ?_
    exact kwp_iret (pc := 99) rfl dX5_film_99 ⟨_, rfl, h⟩
  · have h := h.2 hc
    refine kwp_aload_n (pc := 64) 0 rfl dX5_film_64 rfl ?_
    refine kwp_getc (pc := 65) fl_X5_50 rfl rfl dX5_film_65 ?_
    refine kwp_iload_n (pc := 68) 3 rfl dX5_film_68 rfl ?_
    obtain ⟨hin, h⟩ := h
    refine kwp_aald (pc := 69) rfl hin dX5_film_69 ?_
    refine kwp_iload (pc := 70) 4 rfl dX5_film_70 ?_
    refine kwp_iload (pc := 72) 6 rfl dX5_film_72 ?_
    refine kwp_iadd (pc := 74) dX5_film_74 ?_
    refine kwp_aload_n (pc := 75) 0 rfl dX5_film_75 rfl ?_
    refine kwp_getc (pc := 76) fl_X5_36 rfl rfl dX5_film_76 ?_
    refine kwp_iload_n (pc := 79) 1 rfl dX5_film_79 rfl ?_
    refine kwp_iload (pc := 80) 5 rfl dX5_film_80 ?_
    refine kwp_iload (pc := 82) 6 rfl dX5_film_82 ?_
    refine kwp_iadd (pc := 84) dX5_film_84 ?_
    refine kwp_callV (pc := 85) (Y := mX0_cameTo) (vs := [.inl x1, .inl (x7 + x8)]) (rest := [.inl (x5 + x8), .inr (.inr (5, x3.toNatClampNeg))]) fm_X0_cameTo fi_X0_cameTo ml_X5_190 (by decide) rfl rfl rfl rfl (by simp [kcat]) dX5_film_85 ?_
    refine kCT.mono h (fun v M1 h => ?_)
    obtain ⟨r2, rfl, h⟩ := h
    change kWP l (rg_x, g) mX5_film 88 [(0, .inr (.inr (0, 0))), (1, .inl x1), (2, .inl x2), (3, .inl x3), (5, .inl x5), (7, .inl x7), (8, .inl x8)] [.inl r2, .inl (x5 + x8), .inr (.inr (5, x3.toNatClampNeg))] M1 (kqi Q)
    refine kwp_i2l (pc := 88) dX5_film_88 ?_
    refine kwp_callV (pc := 89) (Y := mX1_put) (vs := [.inl (x5 + x8), .inr (.inl (r2.toInt64))]) (rest := []) fm_X1_put fi_X1_put ml_X5_234 (by decide) rfl rfl rfl rfl (by simp [kcat]) dX5_film_89 ?_
    refine kCT.mono h (fun v M3 h => ?_)
    obtain ⟨rfl, h⟩ := h
    change kWP l (rg_x, g) mX5_film 92 [(0, .inr (.inr (0, 0))), (1, .inl x1), (2, .inl x2), (3, .inl x3), (5, .inl x5), (7, .inl x7), (8, .inl x8)] [] M3 (kqi Q)
    obtain ⟨z4, ez4⟩ : ∃ z : Int32, z = x8 + 1 := ⟨_, rfl⟩
    have h := h z4 ez4
    refine kwp_iinc (pc := 92) (v := z4) (ls2 := [(8, .inl z4), (0, .inr (.inr (0, 0))), (1, .inl x1), (2, .inl x2), (3, .inl x3), (5, .inl x5), (7, .inl x7)]) 6 rfl dX5_film_92 (by rw [ez4, ic_1]) (by decide) rfl ?_
    refine kwp_goto (pc := 95) 58 dX5_film_95 (by decide) ?_
    refine kwp_sub [1, 2, 3, 4, 5, 6, 0] rfl ?_
    exact h

set_option maxRecDepth 20000 in
theorem bX5_sheet_0 {l : Launch} {g : va_G × (Nat → ClassId) × (Nat → Nat → Nat)} (x1 : Int32) (x2 : Int32) (x3 : Int32) (M : kM) (Q : Int32 → kM → Prop)
    (h : kCT l (rg_x, g) mX5_isSheet [.inl x1] M (kqi (fun r2 M1 => ((r2 = 0 → kWP l (rg_x, g) mX5_sheet 20 [] [] M1 (kqi Q)) ∧ (¬ r2 = 0 → kCT l (rg_x, g) mX5_isLane [.inl x2] M1 (kqi (fun r4 M3 => ((r4 = 0 → kWP l (rg_x, g) mX5_sheet 20 [] [] M3 (kqi Q)) ∧ (¬ r4 = 0 → ((x3 ≤ 24 → ((0 ≤ x3 → vp_in x1 4 ∧ (kCT l (rg_x, g) mX1_lay [.inr (.inr (5, x1.toNatClampNeg)), .inl x2, .inl x3] M3 (kqv (fun M5 => Q x3 M5)))) ∧ (¬ 0 ≤ x3 → Q (-14) M3))) ∧ (¬ x3 ≤ 24 → kWP l (rg_x, g) mX5_sheet 20 [] [] M3 (kqi Q)))))))))))) :
    kWP l (rg_x, g) mX5_sheet 0 [(0, .inr (.inr (0, 0))), (1, .inl x1), (2, .inl x2), (3, .inl x3)] [] M (kqi Q) := by
  refine kwp_iload_n (pc := 0) 1 rfl dX5_sheet_0 rfl ?_
  refine kwp_callS (pc := 1) (Y := mX5_isSheet) (vs := [.inl x1]) (rest := []) fm_X5_isSheet fs_X5_isSheet ml_X5_238 (by decide) rfl rfl (by simp [kcat]) dX5_sheet_1 ?_
  refine kCT.mono h (fun v M1 h => ?_)
  obtain ⟨r2, rfl, h⟩ := h
  change kWP l (rg_x, g) mX5_sheet 4 [(0, .inr (.inr (0, 0))), (1, .inl x1), (2, .inl x2), (3, .inl x3)] [.inl r2] M1 (kqi Q)
  refine kwp_if_eq (pc := 4) 20 dX5_sheet_4 (by decide) (fun hc => ?_) (fun hc => ?_)
  · have h := h.1 hc
    refine kwp_sub [] rfl ?_
    exact h
  · have h := h.2 hc
    refine kwp_iload_n (pc := 7) 2 rfl dX5_sheet_7 rfl ?_
    refine kwp_callS (pc := 8) (Y := mX5_isLane) (vs := [.inl x2]) (rest := []) fm_X5_isLane fs_X5_isLane ml_X5_241 (by decide) rfl rfl (by simp [kcat]) dX5_sheet_8 ?_
    refine kCT.mono h (fun v M3 h => ?_)
    obtain ⟨r4, rfl, h⟩ := h
    change kWP l (rg_x, g) mX5_sheet 11 [(0, .inr (.inr (0, 0))), (1, .inl x1), (2, .inl x2), (3, .inl x3)] [.inl r4] M3 (kqi Q)
    refine kwp_if_eq (pc := 11) 20 dX5_sheet_11 (by decide) (fun hc => ?_) (fun hc => ?_)
    · have h := h.1 hc
      refine kwp_sub [] rfl ?_
      exact h
    · have h := h.2 hc
      refine kwp_iload_n (pc := 14) 3 rfl dX5_sheet_14 rfl ?_
      refine kwp_bipush (pc := 15) dX5_sheet_15 bp_24 ?_
      refine kwp_icmp_le (pc := 17) 22 dX5_sheet_17 (by decide) (fun hc => ?_) (fun hc => ?_)
      · have h := h.1 hc
        refine kwp_iload_n (pc := 22) 3 rfl dX5_sheet_22 rfl ?_
        refine kwp_if_ge (pc := 23) 29 dX5_sheet_23 (by decide) (fun hc => ?_) (fun hc => ?_)
        · have h := h.1 hc
          refine kwp_aload_n (pc := 29) 0 rfl dX5_sheet_29 rfl ?_
          refine kwp_getc (pc := 30) fl_X5_50 rfl rfl dX5_sheet_30 ?_
          refine kwp_iload_n (pc := 33) 1 rfl dX5_sheet_33 rfl ?_
          obtain ⟨hin, h⟩ := h
          refine kwp_aald (pc := 34) rfl hin dX5_sheet_34 ?_
          refine kwp_iload_n (pc := 35) 2 rfl dX5_sheet_35 rfl ?_
          refine kwp_iload_n (pc := 36) 3 rfl dX5_sheet_36 rfl ?_
          refine kwp_callV (pc := 37) (Y := mX1_lay) (vs := [.inl x2, .inl x3]) (rest := []) fm_X1_lay fi_X1_lay ml_X5_244 (by decide) rfl rfl rfl rfl (by simp [kcat]) dX5_sheet_37 ?_
          refine kCT.mono h (fun v M5 h => ?_)
          obtain ⟨rfl, h⟩ := h
          change kWP l (rg_x, g) mX5_sheet 40 [(0, .inr (.inr (0, 0))), (1, .inl x1), (2, .inl x2), (3, .inl x3)] [] M5 (kqi Q)
          refine kwp_iload_n (pc := 40) 3 rfl dX5_sheet_40 rfl ?_
          exact kwp_iret (pc := 41) rfl dX5_sheet_41 ⟨_, rfl, h⟩
        · have h := h.2 hc
          refine kwp_bipush (pc := 26) dX5_sheet_26 bp_m14 ?_
          exact kwp_iret (pc := 28) rfl dX5_sheet_28 ⟨_, rfl, h⟩
      · have h := h.2 hc
        refine kwp_sub [] rfl ?_
        exact h

set_option maxRecDepth 20000 in
theorem bX5_sheet_20 {l : Launch} {g : va_G × (Nat → ClassId) × (Nat → Nat → Nat)}  (M : kM) (Q : Int32 → kM → Prop)
    (h : Q (-1) M) :
    kWP l (rg_x, g) mX5_sheet 20 [] [] M (kqi Q) := by
  refine kwp_iconst (pc := 20) dX5_sheet_20 ic_m1 ?_
  exact kwp_iret (pc := 21) rfl dX5_sheet_21 ⟨_, rfl, h⟩

set_option maxRecDepth 20000 in
theorem bX5_drop_0 {l : Launch} {g : va_G × (Nat → ClassId) × (Nat → Nat → Nat)} (x1 : Int32) (M : kM) (Q : Int32 → kM → Prop)
    (h : kCT l (rg_x, g) mX5_isSheet [.inl x1] M (kqi (fun r2 M1 => ((¬ r2 = 0 → vp_in x1 4 ∧ (kCT l (rg_x, g) mX1_isMissing [.inr (.inr (5, x1.toNatClampNeg))] M1 (kqi (fun r4 M3 => ((r4 = 0 → vp_in x1 4 ∧ (kCT l (rg_x, g) mX1_clear [.inr (.inr (5, x1.toNatClampNeg))] M3 (kqi (fun r6 M5 => kWP l (rg_x, g) mX5_drop 35 [] [.inl r6] M5 (kqi Q))))) ∧ (¬ r4 = 0 → kWP l (rg_x, g) mX5_drop 35 [] [.inl (-11)] M3 (kqi Q))))))) ∧ (r2 = 0 → Q (-1) M1))))) :
    kWP l (rg_x, g) mX5_drop 0 [(0, .inr (.inr (0, 0))), (1, .inl x1)] [] M (kqi Q) := by
  refine kwp_iload_n (pc := 0) 1 rfl dX5_drop_0 rfl ?_
  refine kwp_callS (pc := 1) (Y := mX5_isSheet) (vs := [.inl x1]) (rest := []) fm_X5_isSheet fs_X5_isSheet ml_X5_238 (by decide) rfl rfl (by simp [kcat]) dX5_drop_1 ?_
  refine kCT.mono h (fun v M1 h => ?_)
  obtain ⟨r2, rfl, h⟩ := h
  change kWP l (rg_x, g) mX5_drop 4 [(0, .inr (.inr (0, 0))), (1, .inl x1)] [.inl r2] M1 (kqi Q)
  refine kwp_if_ne (pc := 4) 9 dX5_drop_4 (by decide) (fun hc => ?_) (fun hc => ?_)
  · have h := h.1 hc
    refine kwp_aload_n (pc := 9) 0 rfl dX5_drop_9 rfl ?_
    refine kwp_getc (pc := 10) fl_X5_50 rfl rfl dX5_drop_10 ?_
    refine kwp_iload_n (pc := 13) 1 rfl dX5_drop_13 rfl ?_
    obtain ⟨hin, h⟩ := h
    refine kwp_aald (pc := 14) rfl hin dX5_drop_14 ?_
    refine kwp_callV (pc := 15) (Y := mX1_isMissing) (vs := []) (rest := []) fm_X1_isMissing fi_X1_isMissing ml_X5_247 (by decide) rfl rfl rfl rfl (by simp [kcat]) dX5_drop_15 ?_
    refine kCT.mono h (fun v M3 h => ?_)
    obtain ⟨r4, rfl, h⟩ := h
    change kWP l (rg_x, g) mX5_drop 18 [(0, .inr (.inr (0, 0))), (1, .inl x1)] [.inl r4] M3 (kqi Q)
    refine kwp_if_eq (pc := 18) 26 dX5_drop_18 (by decide) (fun hc => ?_) (fun hc => ?_)
    · have h := h.1 hc
      refine kwp_aload_n (pc := 26) 0 rfl dX5_drop_26 rfl ?_
      refine kwp_getc (pc := 27) fl_X5_50 rfl rfl dX5_drop_27 ?_
      refine kwp_iload_n (pc := 30) 1 rfl dX5_drop_30 rfl ?_
      obtain ⟨hin, h⟩ := h
      refine kwp_aald (pc := 31) rfl hin dX5_drop_31 ?_
      refine kwp_callV (pc := 32) (Y := mX1_clear) (vs := []) (rest := []) fm_X1_clear fi_X1_clear ml_X5_250 (by decide) rfl rfl rfl rfl (by simp [kcat]) dX5_drop_32 ?_
      refine kCT.mono h (fun v M5 h => ?_)
      obtain ⟨r6, rfl, h⟩ := h
      change kWP l (rg_x, g) mX5_drop 35 [(0, .inr (.inr (0, 0))), (1, .inl x1)] [.inl r6] M5 (kqi Q)
      refine kwp_sub [] rfl ?_
      exact h
    · have h := h.2 hc
      refine kwp_bipush (pc := 21) dX5_drop_21 bp_m11 ?_
      refine kwp_goto (pc := 23) 35 dX5_drop_23 (by decide) ?_
      refine kwp_sub [] rfl ?_
      exact h
  · have h := h.2 hc
    refine kwp_iconst (pc := 7) dX5_drop_7 ic_m1 ?_
    exact kwp_iret (pc := 8) rfl dX5_drop_8 ⟨_, rfl, h⟩

set_option maxRecDepth 20000 in
theorem bX5_drop_35 {l : Launch} {g : va_G × (Nat → ClassId) × (Nat → Nat → Nat)} (s0 : Int32) (M : kM) (Q : Int32 → kM → Prop)
    (h : Q s0 M) :
    kWP l (rg_x, g) mX5_drop 35 [] [.inl s0] M (kqi Q) := by
  exact kwp_iret (pc := 35) rfl dX5_drop_35 ⟨_, rfl, h⟩

set_option maxRecDepth 20000 in
theorem bX5_item_0 {l : Launch} {g : va_G × (Nat → ClassId) × (Nat → Nat → Nat)} (x1 : Int32) (x2 : Int32) (x3 : Int32) (x4 : Int64) (M : kM) (Q : Int32 → kM → Prop)
    (h : kCT l (rg_x, g) mX5_isSheet [.inl x1] M (kqi (fun r2 M1 => ((r2 = 0 → kWP l (rg_x, g) mX5_item 14 [] [] M1 (kqi Q)) ∧ (¬ r2 = 0 → kCT l (rg_x, g) mX5_isLane [.inl x2] M1 (kqi (fun r4 M3 => ((¬ r4 = 0 → vp_in x1 4 ∧ (kCT l (rg_x, g) mX1_faultOf [.inr (.inr (5, x1.toNatClampNeg)), .inl x2, .inl x3, .inl 1] M3 (kqi (fun r6 M5 => ((0 ≤ r6 → vp_in x1 4 ∧ (kCT l (rg_x, g) mX1_put [.inr (.inr (5, x1.toNatClampNeg)), .inl x3, .inr (.inl x4)] M5 (kqv (fun M7 => Q 1 M7)))) ∧ (¬ 0 ≤ r6 → Q r6 M5)))))) ∧ (r4 = 0 → kWP l (rg_x, g) mX5_item 14 [] [] M3 (kqi Q)))))))))) :
    kWP l (rg_x, g) mX5_item 0 [(0, .inr (.inr (0, 0))), (1, .inl x1), (2, .inl x2), (3, .inl x3), (4, .inr (.inl x4))] [] M (kqi Q) := by
  refine kwp_iload_n (pc := 0) 1 rfl dX5_item_0 rfl ?_
  refine kwp_callS (pc := 1) (Y := mX5_isSheet) (vs := [.inl x1]) (rest := []) fm_X5_isSheet fs_X5_isSheet ml_X5_238 (by decide) rfl rfl (by simp [kcat]) dX5_item_1 ?_
  refine kCT.mono h (fun v M1 h => ?_)
  obtain ⟨r2, rfl, h⟩ := h
  change kWP l (rg_x, g) mX5_item 4 [(0, .inr (.inr (0, 0))), (1, .inl x1), (2, .inl x2), (3, .inl x3), (4, .inr (.inl x4))] [.inl r2] M1 (kqi Q)
  refine kwp_if_eq (pc := 4) 14 dX5_item_4 (by decide) (fun hc => ?_) (fun hc => ?_)
  · have h := h.1 hc
    refine kwp_sub [] rfl ?_
    exact h
  · have h := h.2 hc
    refine kwp_iload_n (pc := 7) 2 rfl dX5_item_7 rfl ?_
    refine kwp_callS (pc := 8) (Y := mX5_isLane) (vs := [.inl x2]) (rest := []) fm_X5_isLane fs_X5_isLane ml_X5_241 (by decide) rfl rfl (by simp [kcat]) dX5_item_8 ?_
    refine kCT.mono h (fun v M3 h => ?_)
    obtain ⟨r4, rfl, h⟩ := h
    change kWP l (rg_x, g) mX5_item 11 [(0, .inr (.inr (0, 0))), (1, .inl x1), (2, .inl x2), (3, .inl x3), (4, .inr (.inl x4))] [.inl r4] M3 (kqi Q)
    refine kwp_if_ne (pc := 11) 16 dX5_item_11 (by decide) (fun hc => ?_) (fun hc => ?_)
    · have h := h.1 hc
      refine kwp_aload_n (pc := 16) 0 rfl dX5_item_16 rfl ?_
      refine kwp_getc (pc := 17) fl_X5_50 rfl rfl dX5_item_17 ?_
      refine kwp_iload_n (pc := 20) 1 rfl dX5_item_20 rfl ?_
      obtain ⟨hin, h⟩ := h
      refine kwp_aald (pc := 21) rfl hin dX5_item_21 ?_
      refine kwp_iload_n (pc := 22) 2 rfl dX5_item_22 rfl ?_
      refine kwp_iload_n (pc := 23) 3 rfl dX5_item_23 rfl ?_
      refine kwp_iconst (pc := 24) dX5_item_24 ic_1 ?_
      refine kwp_callV (pc := 25) (Y := mX1_faultOf) (vs := [.inl x2, .inl x3, .inl 1]) (rest := []) fm_X1_faultOf fi_X1_faultOf ml_X5_253 (by decide) rfl rfl rfl rfl (by simp [kcat]) dX5_item_25 ?_
      refine kCT.mono h (fun v M5 h => ?_)
      obtain ⟨r6, rfl, h⟩ := h
      change kWP l (rg_x, g) mX5_item 28 [(0, .inr (.inr (0, 0))), (1, .inl x1), (2, .inl x2), (3, .inl x3), (4, .inr (.inl x4))] [.inl r6] M5 (kqi Q)
      refine kwp_istore (pc := 28) (ls2 := [(6, .inl r6), (0, .inr (.inr (0, 0))), (1, .inl x1), (2, .inl x2), (3, .inl x3), (4, .inr (.inl x4))]) dX5_item_28 (by decide) rfl ?_
      refine kwp_iload (pc := 30) 0 rfl dX5_item_30 ?_
      refine kwp_if_ge (pc := 32) 38 dX5_item_32 (by decide) (fun hc => ?_) (fun hc => ?_)
      · have h := h.1 hc
        refine kwp_aload_n (pc := 38) 1 rfl dX5_item_38 rfl ?_
        refine kwp_getc (pc := 39) fl_X5_50 rfl rfl dX5_item_39 ?_
        refine kwp_iload_n (pc := 42) 2 rfl dX5_item_42 rfl ?_
        obtain ⟨hin, h⟩ := h
        refine kwp_aald (pc := 43) rfl hin dX5_item_43 ?_
        refine kwp_iload_n (pc := 44) 4 rfl dX5_item_44 rfl ?_
        refine kwp_lload (pc := 45) 5 rfl dX5_item_45 ?_
        refine kwp_callV (pc := 47) (Y := mX1_put) (vs := [.inl x3, .inr (.inl x4)]) (rest := []) fm_X1_put fi_X1_put ml_X5_234 (by decide) rfl rfl rfl rfl (by simp [kcat]) dX5_item_47 ?_
        refine kCT.mono h (fun v M7 h => ?_)
        obtain ⟨rfl, h⟩ := h
        change kWP l (rg_x, g) mX5_item 50 [(6, .inl r6), (0, .inr (.inr (0, 0))), (1, .inl x1), (2, .inl x2), (3, .inl x3), (4, .inr (.inl x4))] [] M7 (kqi Q)
        refine kwp_iconst (pc := 50) dX5_item_50 ic_1 ?_
        exact kwp_iret (pc := 51) rfl dX5_item_51 ⟨_, rfl, h⟩
      · have h := h.2 hc
        refine kwp_iload (pc := 35) 0 rfl dX5_item_35 ?_
        exact kwp_iret (pc := 37) rfl dX5_item_37 ⟨_, rfl, h⟩
    · have h := h.2 hc
      refine kwp_sub [] rfl ?_
      exact h

set_option maxRecDepth 20000 in
theorem bX5_item_14 {l : Launch} {g : va_G × (Nat → ClassId) × (Nat → Nat → Nat)}  (M : kM) (Q : Int32 → kM → Prop)
    (h : Q (-1) M) :
    kWP l (rg_x, g) mX5_item 14 [] [] M (kqi Q) := by
  refine kwp_iconst (pc := 14) dX5_item_14 ic_m1 ?_
  exact kwp_iret (pc := 15) rfl dX5_item_15 ⟨_, rfl, h⟩

set_option maxRecDepth 20000 in
theorem bX5_copy_0 {l : Launch} {g : va_G × (Nat → ClassId) × (Nat → Nat → Nat)} (x1 : Int32) (x2 : Int32) (x3 : Int32) (x4 : Int32) (x5 : Int32) (M : kM) (Q : Int32 → kM → Prop)
    (h : kCT l (rg_x, g) mX5_isSheet [.inl x1] M (kqi (fun r2 M1 => ((r2 = 0 → kWP l (rg_x, g) mX5_copy 14 [] [] M1 (kqi Q)) ∧ (¬ r2 = 0 → kCT l (rg_x, g) mX5_isSheet [.inl x3] M1 (kqi (fun r4 M3 => ((¬ r4 = 0 → vp_in x1 4 ∧ (vp_in x3 4 ∧ (kCT l (rg_x, g) mX1_isMissing [.inr (.inr (5, x1.toNatClampNeg))] M3 (kqi (fun r6 M5 => ((¬ r6 = 0 → kWP l (rg_x, g) mX5_copy 48 [] [] M5 (kqi Q)) ∧ (r6 = 0 → kCT l (rg_x, g) mX1_isMissing [.inr (.inr (5, x3.toNatClampNeg))] M5 (kqi (fun r8 M7 => ((r8 = 0 → (((M7.1 5 x1.toNatClampNeg 0) = (M7.1 5 x3.toNatClampNeg 0) → kCT l (rg_x, g) mX1_holds [.inr (.inr (5, x1.toNatClampNeg)), .inl x2, .inl x5] M7 (kqi (fun r10 M9 => ((r10 = 0 → kWP l (rg_x, g) mX5_copy 90 [] [] M9 (kqi Q)) ∧ (¬ r10 = 0 → kCT l (rg_x, g) mX1_holds [.inr (.inr (5, x3.toNatClampNeg)), .inl x4, .inl x5] M9 (kqi (fun r12 M11 => ((¬ r12 = 0 → (¬ x2 < 0 ∧ ¬ x4 < 0 ∧ ¬ x5 < 0 ∧ x2.toNatClampNeg + x5.toNatClampNeg ≤ 24 ∧ x4.toNatClampNeg + x5.toNatClampNeg ≤ 24) ∧ (∀ M13 : kM, M13 = kcpl M11 18 x1.toNatClampNeg x2.toNatClampNeg 18 x3.toNatClampNeg x4.toNatClampNeg x5.toNatClampNeg → Q x5 M13)) ∧ (r12 = 0 → kWP l (rg_x, g) mX5_copy 90 [] [] M11 (kqi Q)))))))))) ∧ (¬ (M7.1 5 x1.toNatClampNeg 0) = (M7.1 5 x3.toNatClampNeg 0) → Q (-12) M7))) ∧ (¬ r8 = 0 → kWP l (rg_x, g) mX5_copy 48 [] [] M7 (kqi Q)))))))))))) ∧ (r4 = 0 → kWP l (rg_x, g) mX5_copy 14 [] [] M3 (kqi Q)))))))))) :
    kWP l (rg_x, g) mX5_copy 0 [(0, .inr (.inr (0, 0))), (1, .inl x1), (2, .inl x2), (3, .inl x3), (4, .inl x4), (5, .inl x5)] [] M (kqi Q) := by
  refine kwp_iload_n (pc := 0) 1 rfl dX5_copy_0 rfl ?_
  refine kwp_callS (pc := 1) (Y := mX5_isSheet) (vs := [.inl x1]) (rest := []) fm_X5_isSheet fs_X5_isSheet ml_X5_238 (by decide) rfl rfl (by simp [kcat]) dX5_copy_1 ?_
  refine kCT.mono h (fun v M1 h => ?_)
  obtain ⟨r2, rfl, h⟩ := h
  change kWP l (rg_x, g) mX5_copy 4 [(0, .inr (.inr (0, 0))), (1, .inl x1), (2, .inl x2), (3, .inl x3), (4, .inl x4), (5, .inl x5)] [.inl r2] M1 (kqi Q)
  refine kwp_if_eq (pc := 4) 14 dX5_copy_4 (by decide) (fun hc => ?_) (fun hc => ?_)
  · have h := h.1 hc
    refine kwp_sub [] rfl ?_
    exact h
  · have h := h.2 hc
    refine kwp_iload_n (pc := 7) 3 rfl dX5_copy_7 rfl ?_
    refine kwp_callS (pc := 8) (Y := mX5_isSheet) (vs := [.inl x3]) (rest := []) fm_X5_isSheet fs_X5_isSheet ml_X5_238 (by decide) rfl rfl (by simp [kcat]) dX5_copy_8 ?_
    refine kCT.mono h (fun v M3 h => ?_)
    obtain ⟨r4, rfl, h⟩ := h
    change kWP l (rg_x, g) mX5_copy 11 [(0, .inr (.inr (0, 0))), (1, .inl x1), (2, .inl x2), (3, .inl x3), (4, .inl x4), (5, .inl x5)] [.inl r4] M3 (kqi Q)
    refine kwp_if_ne (pc := 11) 16 dX5_copy_11 (by decide) (fun hc => ?_) (fun hc => ?_)
    · have h := h.1 hc
      refine kwp_aload_n (pc := 16) 0 rfl dX5_copy_16 rfl ?_
      refine kwp_getc (pc := 17) fl_X5_50 rfl rfl dX5_copy_17 ?_
      refine kwp_iload_n (pc := 20) 1 rfl dX5_copy_20 rfl ?_
      obtain ⟨hin, h⟩ := h
      refine kwp_aald (pc := 21) rfl hin dX5_copy_21 ?_
      refine kwp_astore (pc := 22) (ls2 := [(6, .inr (.inr (5, x1.toNatClampNeg))), (0, .inr (.inr (0, 0))), (1, .inl x1), (2, .inl x2), (3, .inl x3), (4, .inl x4), (5, .inl x5)]) dX5_copy_22 (by decide) rfl ?_
      refine kwp_aload_n (pc := 24) 1 rfl dX5_copy_24 rfl ?_
      refine kwp_getc (pc := 25) fl_X5_50 rfl rfl dX5_copy_25 ?_
      refine kwp_iload_n (pc := 28) 4 rfl dX5_copy_28 rfl ?_
      obtain ⟨hin, h⟩ := h
      refine kwp_aald (pc := 29) rfl hin dX5_copy_29 ?_
      refine kwp_astore (pc := 30) (ls2 := [(7, .inr (.inr (5, x3.toNatClampNeg))), (6, .inr (.inr (5, x1.toNatClampNeg))), (0, .inr (.inr (0, 0))), (1, .inl x1), (2, .inl x2), (3, .inl x3), (4, .inl x4), (5, .inl x5)]) dX5_copy_30 (by decide) rfl ?_
      refine kwp_aload (pc := 32) 1 rfl dX5_copy_32 ?_
      refine kwp_callV (pc := 34) (Y := mX1_isMissing) (vs := []) (rest := []) fm_X1_isMissing fi_X1_isMissing ml_X5_247 (by decide) rfl rfl rfl rfl (by simp [kcat]) dX5_copy_34 ?_
      refine kCT.mono h (fun v M5 h => ?_)
      obtain ⟨r6, rfl, h⟩ := h
      change kWP l (rg_x, g) mX5_copy 37 [(7, .inr (.inr (5, x3.toNatClampNeg))), (6, .inr (.inr (5, x1.toNatClampNeg))), (0, .inr (.inr (0, 0))), (1, .inl x1), (2, .inl x2), (3, .inl x3), (4, .inl x4), (5, .inl x5)] [.inl r6] M5 (kqi Q)
      refine kwp_if_ne (pc := 37) 48 dX5_copy_37 (by decide) (fun hc => ?_) (fun hc => ?_)
      · have h := h.1 hc
        refine kwp_sub [] rfl ?_
        exact h
      · have h := h.2 hc
        refine kwp_aload (pc := 40) 0 rfl dX5_copy_40 ?_
        refine kwp_callV (pc := 42) (Y := mX1_isMissing) (vs := []) (rest := []) fm_X1_isMissing fi_X1_isMissing ml_X5_247 (by decide) rfl rfl rfl rfl (by simp [kcat]) dX5_copy_42 ?_
        refine kCT.mono h (fun v M7 h => ?_)
        obtain ⟨r8, rfl, h⟩ := h
        change kWP l (rg_x, g) mX5_copy 45 [(7, .inr (.inr (5, x3.toNatClampNeg))), (6, .inr (.inr (5, x1.toNatClampNeg))), (0, .inr (.inr (0, 0))), (1, .inl x1), (2, .inl x2), (3, .inl x3), (4, .inl x4), (5, .inl x5)] [.inl r8] M7 (kqi Q)
        refine kwp_if_eq (pc := 45) 51 dX5_copy_45 (by decide) (fun hc => ?_) (fun hc => ?_)
        · have h := h.1 hc
          refine kwp_aload (pc := 51) 1 rfl dX5_copy_51 ?_
          refine kwp_geti (pc := 53) fl_X5_256 rfl rfl dX5_copy_53 ?_
          refine kwp_aload (pc := 56) 0 rfl dX5_copy_56 ?_
          refine kwp_geti (pc := 58) fl_X5_256 rfl rfl dX5_copy_58 ?_
          refine kwp_icmp_eq (pc := 61) 67 dX5_copy_61 (by decide) (fun hc => ?_) (fun hc => ?_)
          · have h := h.1 hc
            refine kwp_aload (pc := 67) 1 rfl dX5_copy_67 ?_
            refine kwp_iload_n (pc := 69) 4 rfl dX5_copy_69 rfl ?_
            refine kwp_iload (pc := 70) 7 rfl dX5_copy_70 ?_
            refine kwp_callV (pc := 72) (Y := mX1_holds) (vs := [.inl x2, .inl x5]) (rest := []) fm_X1_holds fi_X1_holds ml_X5_259 (by decide) rfl rfl rfl rfl (by simp [kcat]) dX5_copy_72 ?_
            refine kCT.mono h (fun v M9 h => ?_)
            obtain ⟨r10, rfl, h⟩ := h
            change kWP l (rg_x, g) mX5_copy 75 [(7, .inr (.inr (5, x3.toNatClampNeg))), (6, .inr (.inr (5, x1.toNatClampNeg))), (0, .inr (.inr (0, 0))), (1, .inl x1), (2, .inl x2), (3, .inl x3), (4, .inl x4), (5, .inl x5)] [.inl r10] M9 (kqi Q)
            refine kwp_if_eq (pc := 75) 90 dX5_copy_75 (by decide) (fun hc => ?_) (fun hc => ?_)
            · have h := h.1 hc
              refine kwp_sub [] rfl ?_
              exact h
            · have h := h.2 hc
              refine kwp_aload (pc := 78) 0 rfl dX5_copy_78 ?_
              refine kwp_iload (pc := 80) 6 rfl dX5_copy_80 ?_
              refine kwp_iload (pc := 82) 7 rfl dX5_copy_82 ?_
              refine kwp_callV (pc := 84) (Y := mX1_holds) (vs := [.inl x4, .inl x5]) (rest := []) fm_X1_holds fi_X1_holds ml_X5_259 (by decide) rfl rfl rfl rfl (by simp [kcat]) dX5_copy_84 ?_
              refine kCT.mono h (fun v M11 h => ?_)
              obtain ⟨r12, rfl, h⟩ := h
              change kWP l (rg_x, g) mX5_copy 87 [(7, .inr (.inr (5, x3.toNatClampNeg))), (6, .inr (.inr (5, x1.toNatClampNeg))), (0, .inr (.inr (0, 0))), (1, .inl x1), (2, .inl x2), (3, .inl x3), (4, .inl x4), (5, .inl x5)] [.inl r12] M11 (kqi Q)
              refine kwp_if_ne (pc := 87) 93 dX5_copy_87 (by decide) (fun hc => ?_) (fun hc => ?_)
              · have h := h.1 hc
                refine kwp_aload (pc := 93) 1 rfl dX5_copy_93 ?_
                refine kwp_getr (pc := 95) fl_X5_262 rfl rfl dX5_copy_95 ?_
                refine kwp_iload_n (pc := 98) 4 rfl dX5_copy_98 rfl ?_
                refine kwp_aload (pc := 99) 0 rfl dX5_copy_99 ?_
                refine kwp_getr (pc := 101) fl_X5_262 rfl rfl dX5_copy_101 ?_
                refine kwp_iload (pc := 104) 6 rfl dX5_copy_104 ?_
                refine kwp_iload (pc := 106) 7 rfl dX5_copy_106 ?_
                obtain ⟨⟨u1, u2, u3, u4, u5⟩, h⟩ := h
                refine kwp_copyl (pc := 108) ml_X5_266 rfl rfl u1 u2 u3 u4 u5 (by decide) (by decide) dX5_copy_108 ?_
                obtain ⟨M13, eM13⟩ : ∃ z : kM, z = kcpl M11 18 x1.toNatClampNeg x2.toNatClampNeg 18 x3.toNatClampNeg x4.toNatClampNeg x5.toNatClampNeg := ⟨_, rfl⟩
                rw [← eM13]
                have h := h M13 eM13
                refine kwp_iload (pc := 111) 7 rfl dX5_copy_111 ?_
                exact kwp_iret (pc := 113) rfl dX5_copy_113 ⟨_, rfl, h⟩
              · have h := h.2 hc
                refine kwp_sub [] rfl ?_
                exact h
          · have h := h.2 hc
            refine kwp_bipush (pc := 64) dX5_copy_64 bp_m12 ?_
            exact kwp_iret (pc := 66) rfl dX5_copy_66 ⟨_, rfl, h⟩
        · have h := h.2 hc
          refine kwp_sub [] rfl ?_
          exact h
    · have h := h.2 hc
      refine kwp_sub [] rfl ?_
      exact h

set_option maxRecDepth 20000 in
theorem bX5_copy_14 {l : Launch} {g : va_G × (Nat → ClassId) × (Nat → Nat → Nat)}  (M : kM) (Q : Int32 → kM → Prop)
    (h : Q (-1) M) :
    kWP l (rg_x, g) mX5_copy 14 [] [] M (kqi Q) := by
  refine kwp_iconst (pc := 14) dX5_copy_14 ic_m1 ?_
  exact kwp_iret (pc := 15) rfl dX5_copy_15 ⟨_, rfl, h⟩

set_option maxRecDepth 20000 in
theorem bX5_copy_48 {l : Launch} {g : va_G × (Nat → ClassId) × (Nat → Nat → Nat)}  (M : kM) (Q : Int32 → kM → Prop)
    (h : Q (-11) M) :
    kWP l (rg_x, g) mX5_copy 48 [] [] M (kqi Q) := by
  refine kwp_bipush (pc := 48) dX5_copy_48 bp_m11 ?_
  exact kwp_iret (pc := 50) rfl dX5_copy_50 ⟨_, rfl, h⟩

set_option maxRecDepth 20000 in
theorem bX5_copy_90 {l : Launch} {g : va_G × (Nat → ClassId) × (Nat → Nat → Nat)}  (M : kM) (Q : Int32 → kM → Prop)
    (h : Q (-13) M) :
    kWP l (rg_x, g) mX5_copy 90 [] [] M (kqi Q) := by
  refine kwp_bipush (pc := 90) dX5_copy_90 bp_m13 ?_
  exact kwp_iret (pc := 92) rfl dX5_copy_92 ⟨_, rfl, h⟩

set_option maxRecDepth 20000 in
theorem bX5_within_0 {l : Launch} {g : va_G × (Nat → ClassId) × (Nat → Nat → Nat)} (x0 : Int32) (x1 : Int32) (x2 : Int32) (M : kM) (Q : Int32 → kM → Prop)
    (h : ((x0 < x1 → kWP l (rg_x, g) mX5_within 14 [] [] M (kqi Q)) ∧ (¬ x0 < x1 → ((x2 < x0 → kWP l (rg_x, g) mX5_within 14 [] [] M (kqi Q)) ∧ (¬ x2 < x0 → kWP l (rg_x, g) mX5_within 15 [] [.inl 1] M (kqi Q)))))) :
    kWP l (rg_x, g) mX5_within 0 [(0, .inl x0), (1, .inl x1), (2, .inl x2)] [] M (kqi Q) := by
  refine kwp_iload_n (pc := 0) 0 rfl dX5_within_0 rfl ?_
  refine kwp_iload_n (pc := 1) 1 rfl dX5_within_1 rfl ?_
  refine kwp_icmp_lt (pc := 2) 14 dX5_within_2 (by decide) (fun hc => ?_) (fun hc => ?_)
  · have h := h.1 hc
    refine kwp_sub [] rfl ?_
    exact h
  · have h := h.2 hc
    refine kwp_iload_n (pc := 5) 0 rfl dX5_within_5 rfl ?_
    refine kwp_iload_n (pc := 6) 2 rfl dX5_within_6 rfl ?_
    refine kwp_icmp_gt (pc := 7) 14 dX5_within_7 (by decide) (fun hc => ?_) (fun hc => ?_)
    · have h := h.1 hc
      refine kwp_sub [] rfl ?_
      exact h
    · have h := h.2 hc
      refine kwp_iconst (pc := 10) dX5_within_10 ic_1 ?_
      refine kwp_goto (pc := 11) 15 dX5_within_11 (by decide) ?_
      refine kwp_sub [] rfl ?_
      exact h

set_option maxRecDepth 20000 in
theorem bX5_within_14 {l : Launch} {g : va_G × (Nat → ClassId) × (Nat → Nat → Nat)}  (M : kM) (Q : Int32 → kM → Prop)
    (h : kWP l (rg_x, g) mX5_within 15 [] [.inl 0] M (kqi Q)) :
    kWP l (rg_x, g) mX5_within 14 [] [] M (kqi Q) := by
  refine kwp_iconst (pc := 14) dX5_within_14 ic_0 ?_
  exact h

set_option maxRecDepth 20000 in
theorem bX5_within_15 {l : Launch} {g : va_G × (Nat → ClassId) × (Nat → Nat → Nat)} (s0 : Int32) (M : kM) (Q : Int32 → kM → Prop)
    (h : ((s0 = 0 ∨ s0 = 1) ∧ Q s0 M)) :
    kWP l (rg_x, g) mX5_within 15 [] [.inl s0] M (kqi Q) := by
  exact kwp_zret (pc := 15) rfl h.1 dX5_within_15 ⟨_, rfl, h.2⟩

set_option maxRecDepth 20000 in
theorem bX5_isZeroOrOne_0 {l : Launch} {g : va_G × (Nat → ClassId) × (Nat → Nat → Nat)} (x0 : Int32) (M : kM) (Q : Int32 → kM → Prop)
    (h : kCT l (rg_x, g) mX5_within [.inl x0, .inl 0, .inl 1] M (kqi (fun r2 M1 => ((r2 = 0 ∨ r2 = 1) ∧ Q r2 M1)))) :
    kWP l (rg_x, g) mX5_isZeroOrOne 0 [(0, .inl x0)] [] M (kqi Q) := by
  refine kwp_iload_n (pc := 0) 0 rfl dX5_isZeroOrOne_0 rfl ?_
  refine kwp_iconst (pc := 1) dX5_isZeroOrOne_1 ic_0 ?_
  refine kwp_iconst (pc := 2) dX5_isZeroOrOne_2 ic_1 ?_
  refine kwp_callS (pc := 3) (Y := mX5_within) (vs := [.inl x0, .inl 0, .inl 1]) (rest := []) fm_X5_within fs_X5_within ml_X5_61 (by decide) rfl rfl (by simp [kcat]) dX5_isZeroOrOne_3 ?_
  refine kCT.mono h (fun v M1 h => ?_)
  obtain ⟨r2, rfl, h⟩ := h
  change kWP l (rg_x, g) mX5_isZeroOrOne 6 [(0, .inl x0)] [.inl r2] M1 (kqi Q)
  exact kwp_zret (pc := 6) rfl h.1 dX5_isZeroOrOne_6 ⟨_, rfl, h.2⟩

set_option maxRecDepth 20000 in
theorem bX5_isSheet_0 {l : Launch} {g : va_G × (Nat → ClassId) × (Nat → Nat → Nat)} (x0 : Int32) (M : kM) (Q : Int32 → kM → Prop)
    (h : kCT l (rg_x, g) mX5_within [.inl x0, .inl 0, .inl 3] M (kqi (fun r2 M1 => ((r2 = 0 ∨ r2 = 1) ∧ Q r2 M1)))) :
    kWP l (rg_x, g) mX5_isSheet 0 [(0, .inl x0)] [] M (kqi Q) := by
  refine kwp_iload_n (pc := 0) 0 rfl dX5_isSheet_0 rfl ?_
  refine kwp_iconst (pc := 1) dX5_isSheet_1 ic_0 ?_
  refine kwp_iconst (pc := 2) dX5_isSheet_2 ic_3 ?_
  refine kwp_callS (pc := 3) (Y := mX5_within) (vs := [.inl x0, .inl 0, .inl 3]) (rest := []) fm_X5_within fs_X5_within ml_X5_61 (by decide) rfl rfl (by simp [kcat]) dX5_isSheet_3 ?_
  refine kCT.mono h (fun v M1 h => ?_)
  obtain ⟨r2, rfl, h⟩ := h
  change kWP l (rg_x, g) mX5_isSheet 6 [(0, .inl x0)] [.inl r2] M1 (kqi Q)
  exact kwp_zret (pc := 6) rfl h.1 dX5_isSheet_6 ⟨_, rfl, h.2⟩

set_option maxRecDepth 20000 in
theorem bX5_isLane_0 {l : Launch} {g : va_G × (Nat → ClassId) × (Nat → Nat → Nat)} (x0 : Int32) (M : kM) (Q : Int32 → kM → Prop)
    (h : kCT l (rg_x, g) mX5_within [.inl x0, .inl 0, .inl 3] M (kqi (fun r2 M1 => ((r2 = 0 ∨ r2 = 1) ∧ Q r2 M1)))) :
    kWP l (rg_x, g) mX5_isLane 0 [(0, .inl x0)] [] M (kqi Q) := by
  refine kwp_iload_n (pc := 0) 0 rfl dX5_isLane_0 rfl ?_
  refine kwp_iconst (pc := 1) dX5_isLane_1 ic_0 ?_
  refine kwp_iconst (pc := 2) dX5_isLane_2 ic_3 ?_
  refine kwp_callS (pc := 3) (Y := mX5_within) (vs := [.inl x0, .inl 0, .inl 3]) (rest := []) fm_X5_within fs_X5_within ml_X5_61 (by decide) rfl rfl (by simp [kcat]) dX5_isLane_3 ?_
  refine kCT.mono h (fun v M1 h => ?_)
  obtain ⟨r2, rfl, h⟩ := h
  change kWP l (rg_x, g) mX5_isLane 6 [(0, .inl x0)] [.inl r2] M1 (kqi Q)
  exact kwp_zret (pc := 6) rfl h.1 dX5_isLane_6 ⟨_, rfl, h.2⟩

set_option maxRecDepth 20000 in
theorem bX5_isRider_0 {l : Launch} {g : va_G × (Nat → ClassId) × (Nat → Nat → Nat)} (x1 : Int32) (M : kM) (Q : Int32 → kM → Prop)
    (h : kCT l (rg_x, g) mX5_within [.inl x1, .inl 0, .inl ((M.1 1 0 1) - 1)] M (kqi (fun r2 M1 => ((r2 = 0 ∨ r2 = 1) ∧ Q r2 M1)))) :
    kWP l (rg_x, g) mX5_isRider 0 [(0, .inr (.inr (0, 0))), (1, .inl x1)] [] M (kqi Q) := by
  refine kwp_iload_n (pc := 0) 1 rfl dX5_isRider_0 rfl ?_
  refine kwp_iconst (pc := 1) dX5_isRider_1 ic_0 ?_
  refine kwp_aload_n (pc := 2) 0 rfl dX5_isRider_2 rfl ?_
  refine kwp_getc (pc := 3) fl_X5_10 rfl rfl dX5_isRider_3 ?_
  refine kwp_geti (pc := 6) fl_X5_76 rfl rfl dX5_isRider_6 ?_
  refine kwp_iconst (pc := 9) dX5_isRider_9 ic_1 ?_
  refine kwp_isub (pc := 10) dX5_isRider_10 ?_
  refine kwp_callS (pc := 11) (Y := mX5_within) (vs := [.inl x1, .inl 0, .inl ((M.1 1 0 1) - 1)]) (rest := []) fm_X5_within fs_X5_within ml_X5_61 (by decide) rfl rfl (by simp [kcat]) dX5_isRider_11 ?_
  refine kCT.mono h (fun v M1 h => ?_)
  obtain ⟨r2, rfl, h⟩ := h
  change kWP l (rg_x, g) mX5_isRider 14 [(0, .inr (.inr (0, 0))), (1, .inl x1)] [.inl r2] M1 (kqi Q)
  exact kwp_zret (pc := 14) rfl h.1 dX5_isRider_14 ⟨_, rfl, h.2⟩

set_option maxRecDepth 20000 in
theorem bX5_areTwo_0 {l : Launch} {g : va_G × (Nat → ClassId) × (Nat → Nat → Nat)} (x1 : Int32) (x2 : Int32) (M : kM) (Q : Int32 → kM → Prop)
    (h : kCT l (rg_x, g) mX5_isRider [.inr (.inr (0, 0)), .inl x1] M (kqi (fun r2 M1 => ((r2 = 0 → kWP l (rg_x, g) mX5_areTwo 25 [] [] M1 (kqi Q)) ∧ (¬ r2 = 0 → kCT l (rg_x, g) mX5_isRider [.inr (.inr (0, 0)), .inl x2] M1 (kqi (fun r4 M3 => ((r4 = 0 → kWP l (rg_x, g) mX5_areTwo 25 [] [] M3 (kqi Q)) ∧ (¬ r4 = 0 → ((x1 = x2 → kWP l (rg_x, g) mX5_areTwo 25 [] [] M3 (kqi Q)) ∧ (¬ x1 = x2 → kWP l (rg_x, g) mX5_areTwo 26 [] [.inl 1] M3 (kqi Q)))))))))))) :
    kWP l (rg_x, g) mX5_areTwo 0 [(0, .inr (.inr (0, 0))), (1, .inl x1), (2, .inl x2)] [] M (kqi Q) := by
  refine kwp_aload_n (pc := 0) 0 rfl dX5_areTwo_0 rfl ?_
  refine kwp_iload_n (pc := 1) 1 rfl dX5_areTwo_1 rfl ?_
  refine kwp_callV (pc := 2) (Y := mX5_isRider) (vs := [.inl x1]) (rest := []) fm_X5_isRider fi_X5_isRider ml_X5_91 (by decide) rfl rfl rfl rfl (by simp [kcat]) dX5_areTwo_2 ?_
  refine kCT.mono h (fun v M1 h => ?_)
  obtain ⟨r2, rfl, h⟩ := h
  change kWP l (rg_x, g) mX5_areTwo 5 [(0, .inr (.inr (0, 0))), (1, .inl x1), (2, .inl x2)] [.inl r2] M1 (kqi Q)
  refine kwp_if_eq (pc := 5) 25 dX5_areTwo_5 (by decide) (fun hc => ?_) (fun hc => ?_)
  · have h := h.1 hc
    refine kwp_sub [] rfl ?_
    exact h
  · have h := h.2 hc
    refine kwp_aload_n (pc := 8) 0 rfl dX5_areTwo_8 rfl ?_
    refine kwp_iload_n (pc := 9) 2 rfl dX5_areTwo_9 rfl ?_
    refine kwp_callV (pc := 10) (Y := mX5_isRider) (vs := [.inl x2]) (rest := []) fm_X5_isRider fi_X5_isRider ml_X5_91 (by decide) rfl rfl rfl rfl (by simp [kcat]) dX5_areTwo_10 ?_
    refine kCT.mono h (fun v M3 h => ?_)
    obtain ⟨r4, rfl, h⟩ := h
    change kWP l (rg_x, g) mX5_areTwo 13 [(0, .inr (.inr (0, 0))), (1, .inl x1), (2, .inl x2)] [.inl r4] M3 (kqi Q)
    refine kwp_if_eq (pc := 13) 25 dX5_areTwo_13 (by decide) (fun hc => ?_) (fun hc => ?_)
    · have h := h.1 hc
      refine kwp_sub [] rfl ?_
      exact h
    · have h := h.2 hc
      refine kwp_iload_n (pc := 16) 1 rfl dX5_areTwo_16 rfl ?_
      refine kwp_iload_n (pc := 17) 2 rfl dX5_areTwo_17 rfl ?_
      refine kwp_icmp_eq (pc := 18) 25 dX5_areTwo_18 (by decide) (fun hc => ?_) (fun hc => ?_)
      · have h := h.1 hc
        refine kwp_sub [] rfl ?_
        exact h
      · have h := h.2 hc
        refine kwp_iconst (pc := 21) dX5_areTwo_21 ic_1 ?_
        refine kwp_goto (pc := 22) 26 dX5_areTwo_22 (by decide) ?_
        refine kwp_sub [] rfl ?_
        exact h

set_option maxRecDepth 20000 in
theorem bX5_areTwo_25 {l : Launch} {g : va_G × (Nat → ClassId) × (Nat → Nat → Nat)}  (M : kM) (Q : Int32 → kM → Prop)
    (h : kWP l (rg_x, g) mX5_areTwo 26 [] [.inl 0] M (kqi Q)) :
    kWP l (rg_x, g) mX5_areTwo 25 [] [] M (kqi Q) := by
  refine kwp_iconst (pc := 25) dX5_areTwo_25 ic_0 ?_
  exact h

set_option maxRecDepth 20000 in
theorem bX5_areTwo_26 {l : Launch} {g : va_G × (Nat → ClassId) × (Nat → Nat → Nat)} (s0 : Int32) (M : kM) (Q : Int32 → kM → Prop)
    (h : ((s0 = 0 ∨ s0 = 1) ∧ Q s0 M)) :
    kWP l (rg_x, g) mX5_areTwo 26 [] [.inl s0] M (kqi Q) := by
  exact kwp_zret (pc := 26) rfl h.1 dX5_areTwo_26 ⟨_, rfl, h.2⟩

set_option maxRecDepth 20000 in
theorem bX5_has_0 {l : Launch} {g : va_G × (Nat → ClassId) × (Nat → Nat → Nat)} (x0 : Int32) (x1 : Int32) (M : kM) (Q : Int32 → kM → Prop)
    (h : ((((x0 >>> (x1 &&& 31)) &&& 1) = 0 → kWP l (rg_x, g) mX5_has 13 [] [.inl 0] M (kqi Q)) ∧ (¬ ((x0 >>> (x1 &&& 31)) &&& 1) = 0 → kWP l (rg_x, g) mX5_has 13 [] [.inl 1] M (kqi Q)))) :
    kWP l (rg_x, g) mX5_has 0 [(0, .inl x0), (1, .inl x1)] [] M (kqi Q) := by
  refine kwp_iload_n (pc := 0) 0 rfl dX5_has_0 rfl ?_
  refine kwp_iload_n (pc := 1) 1 rfl dX5_has_1 rfl ?_
  refine kwp_ishr (pc := 2) dX5_has_2 ?_
  refine kwp_iconst (pc := 3) dX5_has_3 ic_1 ?_
  refine kwp_iand (pc := 4) dX5_has_4 ?_
  refine kwp_if_eq (pc := 5) 12 dX5_has_5 (by decide) (fun hc => ?_) (fun hc => ?_)
  · have h := h.1 hc
    refine kwp_iconst (pc := 12) dX5_has_12 ic_0 ?_
    refine kwp_sub [] rfl ?_
    exact h
  · have h := h.2 hc
    refine kwp_iconst (pc := 8) dX5_has_8 ic_1 ?_
    refine kwp_goto (pc := 9) 13 dX5_has_9 (by decide) ?_
    refine kwp_sub [] rfl ?_
    exact h

set_option maxRecDepth 20000 in
theorem bX5_has_13 {l : Launch} {g : va_G × (Nat → ClassId) × (Nat → Nat → Nat)} (s0 : Int32) (M : kM) (Q : Int32 → kM → Prop)
    (h : ((s0 = 0 ∨ s0 = 1) ∧ Q s0 M)) :
    kWP l (rg_x, g) mX5_has 13 [] [.inl s0] M (kqi Q) := by
  exact kwp_zret (pc := 13) rfl h.1 dX5_has_13 ⟨_, rfl, h.2⟩

set_option maxRecDepth 20000 in
theorem bX5_sumOfc_0 {l : Launch} {g : va_G × (Nat → ClassId) × (Nat → Nat → Nat)} (x1 : Int32) (M : kM) (Q : Int32 → kM → Prop)
    (h : kWP l (rg_x, g) mX5_sumOf 4 [(0, .inr (.inr (13, 0))), (1, .inl x1), (2, .inl 0), (3, .inl 0)] [] M (kqi Q)) :
    kWP l (rg_x, g) mX5_sumOf 0 [(0, .inr (.inr (13, 0))), (1, .inl x1)] [] M (kqi Q) := by
  refine kwp_iconst (pc := 0) dX5_sumOf_0 ic_0 ?_
  refine kwp_istore_n (pc := 1) (ls2 := [(2, .inl 0), (0, .inr (.inr (13, 0))), (1, .inl x1)]) dX5_sumOf_1 rfl (by decide) rfl ?_
  refine kwp_iconst (pc := 2) dX5_sumOf_2 ic_0 ?_
  refine kwp_istore_n (pc := 3) (ls2 := [(3, .inl 0), (2, .inl 0), (0, .inr (.inr (13, 0))), (1, .inl x1)]) dX5_sumOf_3 rfl (by decide) rfl ?_
  refine kwp_sub [2, 3, 1, 0] rfl ?_
  exact h

set_option maxRecDepth 20000 in
theorem bX5_sumOfc_4 {l : Launch} {g : va_G × (Nat → ClassId) × (Nat → Nat → Nat)} (x1 : Int32) (x2 : Int32) (x3 : Int32) (M : kM) (Q : Int32 → kM → Prop)
    (h : ((x1 ≤ x3 → Q x2 M) ∧ (¬ x1 ≤ x3 → vp_in x3 4 ∧ (∀ z1 : Int32, z1 = x2 + (M.1 13 0 x3.toNatClampNeg) → ∀ z2 : Int32, z2 = x3 + 1 → kWP l (rg_x, g) mX5_sumOf 4 [(0, .inr (.inr (13, 0))), (1, .inl x1), (2, .inl z1), (3, .inl z2)] [] M (kqi Q))))) :
    kWP l (rg_x, g) mX5_sumOf 4 [(0, .inr (.inr (13, 0))), (1, .inl x1), (2, .inl x2), (3, .inl x3)] [] M (kqi Q) := by
  refine kwp_iload_n (pc := 4) 3 rfl dX5_sumOf_4 rfl ?_
  refine kwp_iload_n (pc := 5) 1 rfl dX5_sumOf_5 rfl ?_
  refine kwp_icmp_ge (pc := 6) 21 dX5_sumOf_6 (by decide) (fun hc => ?_) (fun hc => ?_)
  · have h := h.1 hc
    refine kwp_iload_n (pc := 21) 2 rfl dX5_sumOf_21 rfl ?_
    exact kwp_iret (pc := 22) rfl dX5_sumOf_22 ⟨_, rfl, h⟩
  · have h := h.2 hc
    refine kwp_iload_n (pc := 9) 2 rfl dX5_sumOf_9 rfl ?_
    refine kwp_aload_n (pc := 10) 0 rfl dX5_sumOf_10 rfl ?_
    refine kwp_iload_n (pc := 11) 3 rfl dX5_sumOf_11 rfl ?_
    obtain ⟨hin, h⟩ := h
    refine kwp_iald (pc := 12) rfl hin dX5_sumOf_12 ?_
    refine kwp_iadd (pc := 13) dX5_sumOf_13 ?_
    obtain ⟨z1, ez1⟩ : ∃ z : Int32, z = x2 + (M.1 13 0 x3.toNatClampNeg) := ⟨_, rfl⟩
    rw [← ez1]
    have h := h z1 ez1
    refine kwp_istore_n (pc := 14) (ls2 := [(2, .inl z1), (0, .inr (.inr (13, 0))), (1, .inl x1), (3, .inl x3)]) dX5_sumOf_14 rfl (by decide) rfl ?_
    obtain ⟨z2, ez2⟩ : ∃ z : Int32, z = x3 + 1 := ⟨_, rfl⟩
    have h := h z2 ez2
    refine kwp_iinc (pc := 15) (v := z2) (ls2 := [(3, .inl z2), (2, .inl z1), (0, .inr (.inr (13, 0))), (1, .inl x1)]) 3 rfl dX5_sumOf_15 (by rw [ez2, ic_1]) (by decide) rfl ?_
    refine kwp_goto (pc := 18) 4 dX5_sumOf_18 (by decide) ?_
    refine kwp_sub [2, 3, 1, 0] rfl ?_
    exact h

set_option maxRecDepth 20000 in
theorem bX5_sumOfh_0 {l : Launch} {g : va_G × (Nat → ClassId) × (Nat → Nat → Nat)} (x1 : Int32) (M : kM) (Q : Int32 → kM → Prop)
    (h : kWP l (rg_x, g) mX5_sumOf 4 [(0, .inr (.inr (9, 0))), (1, .inl x1), (2, .inl 0), (3, .inl 0)] [] M (kqi Q)) :
    kWP l (rg_x, g) mX5_sumOf 0 [(0, .inr (.inr (9, 0))), (1, .inl x1)] [] M (kqi Q) := by
  refine kwp_iconst (pc := 0) dX5_sumOf_0 ic_0 ?_
  refine kwp_istore_n (pc := 1) (ls2 := [(2, .inl 0), (0, .inr (.inr (9, 0))), (1, .inl x1)]) dX5_sumOf_1 rfl (by decide) rfl ?_
  refine kwp_iconst (pc := 2) dX5_sumOf_2 ic_0 ?_
  refine kwp_istore_n (pc := 3) (ls2 := [(3, .inl 0), (2, .inl 0), (0, .inr (.inr (9, 0))), (1, .inl x1)]) dX5_sumOf_3 rfl (by decide) rfl ?_
  refine kwp_sub [2, 3, 1, 0] rfl ?_
  exact h

set_option maxRecDepth 20000 in
theorem bX5_sumOfh_4 {l : Launch} {g : va_G × (Nat → ClassId) × (Nat → Nat → Nat)} (x1 : Int32) (x2 : Int32) (x3 : Int32) (M : kM) (Q : Int32 → kM → Prop)
    (h : ((x1 ≤ x3 → Q x2 M) ∧ (¬ x1 ≤ x3 → vp_in x3 8 ∧ (∀ z1 : Int32, z1 = x2 + (M.1 9 0 x3.toNatClampNeg) → ∀ z2 : Int32, z2 = x3 + 1 → kWP l (rg_x, g) mX5_sumOf 4 [(0, .inr (.inr (9, 0))), (1, .inl x1), (2, .inl z1), (3, .inl z2)] [] M (kqi Q))))) :
    kWP l (rg_x, g) mX5_sumOf 4 [(0, .inr (.inr (9, 0))), (1, .inl x1), (2, .inl x2), (3, .inl x3)] [] M (kqi Q) := by
  refine kwp_iload_n (pc := 4) 3 rfl dX5_sumOf_4 rfl ?_
  refine kwp_iload_n (pc := 5) 1 rfl dX5_sumOf_5 rfl ?_
  refine kwp_icmp_ge (pc := 6) 21 dX5_sumOf_6 (by decide) (fun hc => ?_) (fun hc => ?_)
  · have h := h.1 hc
    refine kwp_iload_n (pc := 21) 2 rfl dX5_sumOf_21 rfl ?_
    exact kwp_iret (pc := 22) rfl dX5_sumOf_22 ⟨_, rfl, h⟩
  · have h := h.2 hc
    refine kwp_iload_n (pc := 9) 2 rfl dX5_sumOf_9 rfl ?_
    refine kwp_aload_n (pc := 10) 0 rfl dX5_sumOf_10 rfl ?_
    refine kwp_iload_n (pc := 11) 3 rfl dX5_sumOf_11 rfl ?_
    obtain ⟨hin, h⟩ := h
    refine kwp_iald (pc := 12) rfl hin dX5_sumOf_12 ?_
    refine kwp_iadd (pc := 13) dX5_sumOf_13 ?_
    obtain ⟨z1, ez1⟩ : ∃ z : Int32, z = x2 + (M.1 9 0 x3.toNatClampNeg) := ⟨_, rfl⟩
    rw [← ez1]
    have h := h z1 ez1
    refine kwp_istore_n (pc := 14) (ls2 := [(2, .inl z1), (0, .inr (.inr (9, 0))), (1, .inl x1), (3, .inl x3)]) dX5_sumOf_14 rfl (by decide) rfl ?_
    obtain ⟨z2, ez2⟩ : ∃ z : Int32, z = x3 + 1 := ⟨_, rfl⟩
    have h := h z2 ez2
    refine kwp_iinc (pc := 15) (v := z2) (ls2 := [(3, .inl z2), (2, .inl z1), (0, .inr (.inr (9, 0))), (1, .inl x1)]) 3 rfl dX5_sumOf_15 (by rw [ez2, ic_1]) (by decide) rfl ?_
    refine kwp_goto (pc := 18) 4 dX5_sumOf_18 (by decide) ?_
    refine kwp_sub [2, 3, 1, 0] rfl ?_
    exact h

set_option maxRecDepth 20000 in
theorem bX5_stageTakes_0 {l : Launch} {g : va_G × (Nat → ClassId) × (Nat → Nat → Nat)} (x1 : Int32) (x2 : Int32) (M : kM) (Q : Int32 → kM → Prop)
    (h : kCT l (rg_x, g) mX3_isThere [.inr (.inr (1, 0)), .inl x1] M (kqi (fun r2 M1 => ((r2 = 0 → vp_in x1 4 ∧ (vp_in x1 4 ∧ (vp_in (M1.1 11 0 x1.toNatClampNeg) 8 ∧ (kCT l (rg_x, g) mX5_minutesFor [.inl (M1.1 10 0 x1.toNatClampNeg), .inl (M1.1 7 0 (M1.1 11 0 x1.toNatClampNeg).toNatClampNeg), .inl x2] M1 (kqi (fun r4 M3 => Q r4 M3)))))) ∧ (¬ r2 = 0 → Q (-4) M1))))) :
    kWP l (rg_x, g) mX5_stageTakes 0 [(0, .inr (.inr (0, 0))), (1, .inl x1), (2, .inl x2)] [] M (kqi Q) := by
  refine kwp_aload_n (pc := 0) 0 rfl dX5_stageTakes_0 rfl ?_
  refine kwp_getc (pc := 1) fl_X5_10 rfl rfl dX5_stageTakes_1 ?_
  refine kwp_iload_n (pc := 4) 1 rfl dX5_stageTakes_4 rfl ?_
  refine kwp_callV (pc := 5) (Y := mX3_isThere) (vs := [.inl x1]) (rest := []) fm_X3_isThere fi_X3_isThere ml_X5_156 (by decide) rfl rfl rfl rfl (by simp [kcat]) dX5_stageTakes_5 ?_
  refine kCT.mono h (fun v M1 h => ?_)
  obtain ⟨r2, rfl, h⟩ := h
  change kWP l (rg_x, g) mX5_stageTakes 8 [(0, .inr (.inr (0, 0))), (1, .inl x1), (2, .inl x2)] [.inl r2] M1 (kqi Q)
  refine kwp_if_eq (pc := 8) 14 dX5_stageTakes_8 (by decide) (fun hc => ?_) (fun hc => ?_)
  · have h := h.1 hc
    refine kwp_aload_n (pc := 14) 0 rfl dX5_stageTakes_14 rfl ?_
    refine kwp_getc (pc := 15) fl_X5_10 rfl rfl dX5_stageTakes_15 ?_
    refine kwp_getr (pc := 18) fl_X5_95 rfl rfl dX5_stageTakes_18 ?_
    refine kwp_iload_n (pc := 21) 1 rfl dX5_stageTakes_21 rfl ?_
    obtain ⟨hin, h⟩ := h
    refine kwp_iald (pc := 22) rfl hin dX5_stageTakes_22 ?_
    refine kwp_aload_n (pc := 23) 0 rfl dX5_stageTakes_23 rfl ?_
    refine kwp_getc (pc := 24) fl_X5_10 rfl rfl dX5_stageTakes_24 ?_
    refine kwp_getr (pc := 27) fl_X5_82 rfl rfl dX5_stageTakes_27 ?_
    refine kwp_aload_n (pc := 30) 0 rfl dX5_stageTakes_30 rfl ?_
    refine kwp_getc (pc := 31) fl_X5_10 rfl rfl dX5_stageTakes_31 ?_
    refine kwp_getr (pc := 34) fl_X5_98 rfl rfl dX5_stageTakes_34 ?_
    refine kwp_iload_n (pc := 37) 1 rfl dX5_stageTakes_37 rfl ?_
    obtain ⟨hin, h⟩ := h
    refine kwp_iald (pc := 38) rfl hin dX5_stageTakes_38 ?_
    obtain ⟨hin, h⟩ := h
    refine kwp_iald (pc := 39) rfl hin dX5_stageTakes_39 ?_
    refine kwp_iload_n (pc := 40) 2 rfl dX5_stageTakes_40 rfl ?_
    refine kwp_callS (pc := 41) (Y := mX5_minutesFor) (vs := [.inl (M1.1 10 0 x1.toNatClampNeg), .inl (M1.1 7 0 (M1.1 11 0 x1.toNatClampNeg).toNatClampNeg), .inl x2]) (rest := []) fm_X5_minutesFor fs_X5_minutesFor ml_X5_272 (by decide) rfl rfl (by simp [kcat]) dX5_stageTakes_41 ?_
    refine kCT.mono h (fun v M3 h => ?_)
    obtain ⟨r4, rfl, h⟩ := h
    change kWP l (rg_x, g) mX5_stageTakes 44 [(0, .inr (.inr (0, 0))), (1, .inl x1), (2, .inl x2)] [.inl r4] M3 (kqi Q)
    exact kwp_iret (pc := 44) rfl dX5_stageTakes_44 ⟨_, rfl, h⟩
  · have h := h.2 hc
    refine kwp_bipush (pc := 11) dX5_stageTakes_11 bp_m4 ?_
    exact kwp_iret (pc := 13) rfl dX5_stageTakes_13 ⟨_, rfl, h⟩

set_option maxRecDepth 20000 in
theorem bX5_minutesFor_0 {l : Launch} {g : va_G × (Nat → ClassId) × (Nat → Nat → Nat)} (x0 : Int32) (x1 : Int32) (x2 : Int32) (M : kM) (Q : Int32 → kM → Prop)
    (h : ((x2 = 0 → kWP l (rg_x, g) mX5_minutesFor 11 [(0, .inl x0), (1, .inl x1), (2, .inl x2)] [.inl 10] M (kqi Q)) ∧ (¬ x2 = 0 → kWP l (rg_x, g) mX5_minutesFor 11 [(0, .inl x0), (1, .inl x1), (2, .inl x2)] [.inl 6] M (kqi Q)))) :
    kWP l (rg_x, g) mX5_minutesFor 0 [(0, .inl x0), (1, .inl x1), (2, .inl x2)] [] M (kqi Q) := by
  refine kwp_iload_n (pc := 0) 2 rfl dX5_minutesFor_0 rfl ?_
  refine kwp_if_eq (pc := 1) 9 dX5_minutesFor_1 (by decide) (fun hc => ?_) (fun hc => ?_)
  · have h := h.1 hc
    refine kwp_bipush (pc := 9) dX5_minutesFor_9 bp_10 ?_
    exact h
  · have h := h.2 hc
    refine kwp_bipush (pc := 4) dX5_minutesFor_4 bp_6 ?_
    refine kwp_goto (pc := 6) 11 dX5_minutesFor_6 (by decide) ?_
    exact h

set_option maxRecDepth 20000 in
theorem bX5_minutesFor_11 {l : Launch} {g : va_G × (Nat → ClassId) × (Nat → Nat → Nat)} (x0 : Int32) (x1 : Int32) (x2 : Int32) (s0 : Int32) (M : kM) (Q : Int32 → kM → Prop)
    (h : ∀ z1 : Int32, z1 = x1 * s0 → ∀ z2 : Int32, z2 = z1 + (z1 / 2) → ((x0 = 1 → Q (z1 + 5) M) ∧ (x0 = 2 → Q z2 M) ∧ (x0 = 3 → ((x2 = 0 → kWP l (rg_x, g) mX5_minutesFor 75 [] [.inl z2] M (kqi Q)) ∧ (¬ x2 = 0 → kWP l (rg_x, g) mX5_minutesFor 75 [] [.inl z1] M (kqi Q)))) ∧ (x0 = 4 → Q ((z1 - s0) + 5) M) ∧ (¬ x0 = 1 → ¬ x0 = 2 → ¬ x0 = 3 → ¬ x0 = 4 → Q z1 M))) :
    kWP l (rg_x, g) mX5_minutesFor 11 [(0, .inl x0), (1, .inl x1), (2, .inl x2)] [.inl s0] M (kqi Q) := by
  refine kwp_istore_n (pc := 11) (ls2 := [(3, .inl s0), (0, .inl x0), (1, .inl x1), (2, .inl x2)]) dX5_minutesFor_11 rfl (by decide) rfl ?_
  refine kwp_iload_n (pc := 12) 2 rfl dX5_minutesFor_12 rfl ?_
  refine kwp_iload_n (pc := 13) 0 rfl dX5_minutesFor_13 rfl ?_
  refine kwp_imul (pc := 14) dX5_minutesFor_14 ?_
  obtain ⟨z1, ez1⟩ : ∃ z : Int32, z = x1 * s0 := ⟨_, rfl⟩
  rw [← ez1]
  have h := h z1 ez1
  refine kwp_istore (pc := 15) (ls2 := [(4, .inl z1), (3, .inl s0), (0, .inl x0), (1, .inl x1), (2, .inl x2)]) dX5_minutesFor_15 (by decide) rfl ?_
  refine kwp_iload (pc := 17) 0 rfl dX5_minutesFor_17 ?_
  refine kwp_iload (pc := 19) 0 rfl dX5_minutesFor_19 ?_
  refine kwp_iconst (pc := 21) dX5_minutesFor_21 ic_2 ?_
  refine kwp_idiv (pc := 22) dX5_minutesFor_22 (by decide) ?_
  refine kwp_iadd (pc := 23) dX5_minutesFor_23 ?_
  obtain ⟨z2, ez2⟩ : ∃ z : Int32, z = z1 + (z1 / 2) := ⟨_, rfl⟩
  rw [← ez2]
  have h := h z2 ez2
  refine kwp_istore (pc := 24) (ls2 := [(5, .inl z2), (4, .inl z1), (3, .inl s0), (0, .inl x0), (1, .inl x1), (2, .inl x2)]) dX5_minutesFor_24 (by decide) rfl ?_
  refine kwp_iload_n (pc := 26) 3 rfl dX5_minutesFor_26 rfl ?_
  by_cases c0 : x0 = 1
  · refine kwp_tsIn (pc := 27) 56 dX5_minutesFor_27 (by rw [c0]; decide) (by rw [c0]; decide) (off := 29) (by rw [c0]; decide) (by decide) ?_
    have h := h.1 c0
    refine kwp_iload (pc := 56) 1 rfl dX5_minutesFor_56 ?_
    refine kwp_iconst (pc := 58) dX5_minutesFor_58 ic_5 ?_
    refine kwp_iadd (pc := 59) dX5_minutesFor_59 ?_
    exact kwp_iret (pc := 60) rfl dX5_minutesFor_60 ⟨_, rfl, h⟩
  · have h := h.2
    by_cases c1 : x0 = 2
    · refine kwp_tsIn (pc := 27) 61 dX5_minutesFor_27 (by rw [c1]; decide) (by rw [c1]; decide) (off := 34) (by rw [c1]; decide) (by decide) ?_
      have h := h.1 c1
      refine kwp_iload (pc := 61) 0 rfl dX5_minutesFor_61 ?_
      exact kwp_iret (pc := 63) rfl dX5_minutesFor_63 ⟨_, rfl, h⟩
    · have h := h.2
      by_cases c2 : x0 = 3
      · refine kwp_tsIn (pc := 27) 64 dX5_minutesFor_27 (by rw [c2]; decide) (by rw [c2]; decide) (off := 37) (by rw [c2]; decide) (by decide) ?_
        have h := h.1 c2
        refine kwp_iload_n (pc := 64) 5 rfl dX5_minutesFor_64 rfl ?_
        refine kwp_if_eq (pc := 65) 73 dX5_minutesFor_65 (by decide) (fun hc => ?_) (fun hc => ?_)
        · have h := h.1 hc
          refine kwp_iload (pc := 73) 0 rfl dX5_minutesFor_73 ?_
          refine kwp_sub [] rfl ?_
          exact h
        · have h := h.2 hc
          refine kwp_iload (pc := 68) 1 rfl dX5_minutesFor_68 ?_
          refine kwp_goto (pc := 70) 75 dX5_minutesFor_70 (by decide) ?_
          refine kwp_sub [] rfl ?_
          exact h
      · have h := h.2
        by_cases c3 : x0 = 4
        · refine kwp_tsIn (pc := 27) 76 dX5_minutesFor_27 (by rw [c3]; decide) (by rw [c3]; decide) (off := 49) (by rw [c3]; decide) (by decide) ?_
          have h := h.1 c3
          refine kwp_iload (pc := 76) 1 rfl dX5_minutesFor_76 ?_
          refine kwp_iload_n (pc := 78) 2 rfl dX5_minutesFor_78 rfl ?_
          refine kwp_isub (pc := 79) dX5_minutesFor_79 ?_
          refine kwp_iconst (pc := 80) dX5_minutesFor_80 ic_5 ?_
          refine kwp_iadd (pc := 81) dX5_minutesFor_81 ?_
          exact kwp_iret (pc := 82) rfl dX5_minutesFor_82 ⟨_, rfl, h⟩
        · have h := h.2
          have h := h c0 c1 c2 c3
          refine kwp_tsOut (pc := 27) 83 dX5_minutesFor_27 (by have a0 := lv_neT c0 (a := 1) (by decide); have a1 := lv_neT c1 (a := 2) (by decide); have a2 := lv_neT c2 (a := 3) (by decide); have a3 := lv_neT c3 (a := 4) (by decide); omega) (by decide) ?_
          refine kwp_iload (pc := 83) 1 rfl dX5_minutesFor_83 ?_
          exact kwp_iret (pc := 85) rfl dX5_minutesFor_85 ⟨_, rfl, h⟩

set_option maxRecDepth 20000 in
theorem bX5_minutesFor_75 {l : Launch} {g : va_G × (Nat → ClassId) × (Nat → Nat → Nat)} (s0 : Int32) (M : kM) (Q : Int32 → kM → Prop)
    (h : Q s0 M) :
    kWP l (rg_x, g) mX5_minutesFor 75 [] [.inl s0] M (kqi Q) := by
  exact kwp_iret (pc := 75) rfl dX5_minutesFor_75 ⟨_, rfl, h⟩

set_option maxRecDepth 20000 in
theorem bX5_minuteBuying_0 {l : Launch} {g : va_G × (Nat → ClassId) × (Nat → Nat → Nat)} (x1 : Int32) (x2 : Int32) (M : kM) (Q : Int32 → kM → Prop)
    (h : kCT l (rg_x, g) mX0_begin [.inr (.inr (3, 0)), .inr (.inr (1, 0))] M (kqv (fun M1 => vp_in x1 4 ∧ (∀ M2 : kM, M2 = ku M1 14 2 x1.toNatClampNeg x2 → kCT l (rg_x, g) mX0_rideToForge [.inr (.inr (3, 0)), .inl x1, .inl 0] M2 (kqi (fun r4 M3 => Q r4 M3)))))) :
    kWP l (rg_x, g) mX5_minuteBuying 0 [(0, .inr (.inr (0, 0))), (1, .inl x1), (2, .inl x2)] [] M (kqi Q) := by
  refine kwp_aload_n (pc := 0) 0 rfl dX5_minuteBuying_0 rfl ?_
  refine kwp_getc (pc := 1) fl_X5_36 rfl rfl dX5_minuteBuying_1 ?_
  refine kwp_aload_n (pc := 4) 0 rfl dX5_minuteBuying_4 rfl ?_
  refine kwp_getc (pc := 5) fl_X5_10 rfl rfl dX5_minuteBuying_5 ?_
  refine kwp_callV (pc := 8) (Y := mX0_begin) (vs := [.inr (.inr (1, 0))]) (rest := []) fm_X0_begin fi_X0_begin ml_X5_181 (by decide) rfl rfl rfl rfl (by simp [kcat]) dX5_minuteBuying_8 ?_
  refine kCT.mono h (fun v M1 h => ?_)
  obtain ⟨rfl, h⟩ := h
  change kWP l (rg_x, g) mX5_minuteBuying 11 [(0, .inr (.inr (0, 0))), (1, .inl x1), (2, .inl x2)] [] M1 (kqi Q)
  refine kwp_aload_n (pc := 11) 0 rfl dX5_minuteBuying_11 rfl ?_
  refine kwp_getc (pc := 12) fl_X5_36 rfl rfl dX5_minuteBuying_12 ?_
  refine kwp_getc (pc := 15) fl_X5_187 rfl rfl dX5_minuteBuying_15 ?_
  refine kwp_getr (pc := 18) fl_X5_107 rfl rfl dX5_minuteBuying_18 ?_
  refine kwp_iload_n (pc := 21) 1 rfl dX5_minuteBuying_21 rfl ?_
  refine kwp_iload_n (pc := 22) 2 rfl dX5_minuteBuying_22 rfl ?_
  obtain ⟨hin, h⟩ := h
  refine kwp_iast (pc := 23) rfl hin dX5_minuteBuying_23 ?_
  obtain ⟨M2, eM2⟩ : ∃ z : kM, z = ku M1 14 2 x1.toNatClampNeg x2 := ⟨_, rfl⟩
  rw [← eM2]
  have h := h M2 eM2
  refine kwp_aload_n (pc := 24) 0 rfl dX5_minuteBuying_24 rfl ?_
  refine kwp_getc (pc := 25) fl_X5_36 rfl rfl dX5_minuteBuying_25 ?_
  refine kwp_iload_n (pc := 28) 1 rfl dX5_minuteBuying_28 rfl ?_
  refine kwp_iconst (pc := 29) dX5_minuteBuying_29 ic_0 ?_
  refine kwp_callV (pc := 30) (Y := mX0_rideToForge) (vs := [.inl x1, .inl 0]) (rest := []) fm_X0_rideToForge fi_X0_rideToForge ml_X5_184 (by decide) rfl rfl rfl rfl (by simp [kcat]) dX5_minuteBuying_30 ?_
  refine kCT.mono h (fun v M3 h => ?_)
  obtain ⟨r4, rfl, h⟩ := h
  change kWP l (rg_x, g) mX5_minuteBuying 33 [(0, .inr (.inr (0, 0))), (1, .inl x1), (2, .inl x2)] [.inl r4] M3 (kqi Q)
  exact kwp_iret (pc := 33) rfl dX5_minuteBuying_33 ⟨_, rfl, h⟩

set_option maxRecDepth 20000 in
theorem bX5_soonestSet_0 {l : Launch} {g : va_G × (Nat → ClassId) × (Nat → Nat → Nat)} (x1 : Int32) (M : kM) (Q : Int32 → kM → Prop)
    (h : vp_in x1 4 ∧ (∀ z1 : Int32, z1 = M.1 11 0 x1.toNatClampNeg → kCT l (rg_x, g) mX5_minuteBuying [.inr (.inr (0, 0)), .inl x1, .inl 0] M (kqi (fun r3 M2 => kWP l (rg_x, g) mX5_soonestSet 23 [(0, .inr (.inr (0, 0))), (1, .inl x1), (2, .inl z1), (3, .inl 0), (4, .inl r3), (5, .inl 1)] [] M2 (kqi Q))))) :
    kWP l (rg_x, g) mX5_soonestSet 0 [(0, .inr (.inr (0, 0))), (1, .inl x1)] [] M (kqi Q) := by
  refine kwp_aload_n (pc := 0) 0 rfl dX5_soonestSet_0 rfl ?_
  refine kwp_getc (pc := 1) fl_X5_10 rfl rfl dX5_soonestSet_1 ?_
  refine kwp_getr (pc := 4) fl_X5_98 rfl rfl dX5_soonestSet_4 ?_
  refine kwp_iload_n (pc := 7) 1 rfl dX5_soonestSet_7 rfl ?_
  obtain ⟨hin, h⟩ := h
  refine kwp_iald (pc := 8) rfl hin dX5_soonestSet_8 ?_
  obtain ⟨z1, ez1⟩ : ∃ z : Int32, z = M.1 11 0 x1.toNatClampNeg := ⟨_, rfl⟩
  rw [← ez1]
  have h := h z1 ez1
  refine kwp_istore_n (pc := 9) (ls2 := [(2, .inl z1), (0, .inr (.inr (0, 0))), (1, .inl x1)]) dX5_soonestSet_9 rfl (by decide) rfl ?_
  refine kwp_iconst (pc := 10) dX5_soonestSet_10 ic_0 ?_
  refine kwp_istore_n (pc := 11) (ls2 := [(3, .inl 0), (2, .inl z1), (0, .inr (.inr (0, 0))), (1, .inl x1)]) dX5_soonestSet_11 rfl (by decide) rfl ?_
  refine kwp_aload_n (pc := 12) 2 rfl dX5_soonestSet_12 rfl ?_
  refine kwp_iload_n (pc := 13) 3 rfl dX5_soonestSet_13 rfl ?_
  refine kwp_iconst (pc := 14) dX5_soonestSet_14 ic_0 ?_
  refine kwp_callV (pc := 15) (Y := mX5_minuteBuying) (vs := [.inl x1, .inl 0]) (rest := []) fm_X5_minuteBuying fi_X5_minuteBuying ml_X5_202 (by decide) rfl rfl rfl rfl (by simp [kcat]) dX5_soonestSet_15 ?_
  refine kCT.mono h (fun v M2 h => ?_)
  obtain ⟨r3, rfl, h⟩ := h
  change kWP l (rg_x, g) mX5_soonestSet 18 [(3, .inl 0), (2, .inl z1), (0, .inr (.inr (0, 0))), (1, .inl x1)] [.inl r3] M2 (kqi Q)
  refine kwp_istore (pc := 18) (ls2 := [(4, .inl r3), (3, .inl 0), (2, .inl z1), (0, .inr (.inr (0, 0))), (1, .inl x1)]) dX5_soonestSet_18 (by decide) rfl ?_
  refine kwp_iconst (pc := 20) dX5_soonestSet_20 ic_1 ?_
  refine kwp_istore (pc := 21) (ls2 := [(5, .inl 1), (4, .inl r3), (3, .inl 0), (2, .inl z1), (0, .inr (.inr (0, 0))), (1, .inl x1)]) dX5_soonestSet_21 (by decide) rfl ?_
  refine kwp_sub [4, 5, 3, 2, 1, 0] rfl ?_
  exact h

set_option maxRecDepth 20000 in
theorem bX5_soonestSet_23 {l : Launch} {g : va_G × (Nat → ClassId) × (Nat → Nat → Nat)} (x1 : Int32) (x2 : Int32) (x3 : Int32) (x4 : Int32) (x5 : Int32) (M : kM) (Q : Int32 → kM → Prop)
    (h : ((((1 : Int32) <<< (((M.1 1 0 0) - x2) &&& 31)) ≤ x5 → Q x3 M) ∧ (¬ ((1 : Int32) <<< (((M.1 1 0 0) - x2) &&& 31)) ≤ x5 → ∀ z1 : Int32, z1 = x5 <<< (x2 &&& 31) → kCT l (rg_x, g) mX5_minuteBuying [.inr (.inr (0, 0)), .inl x1, .inl z1] M (kqi (fun r3 M2 => kCT l (rg_x, g) mJ6_bitCount_0f7a4 [.inl z1] M2 (kqi (fun r5 M4 => kCT l (rg_x, g) mJ6_bitCount_0f7a4 [.inl x3] M4 (kqi (fun r7 M6 => ((r7 ≤ r5 → kWP l (rg_x, g) mX5_soonestSet 71 [(0, .inr (.inr (0, 0))), (1, .inl x1), (2, .inl x2), (3, .inl x3), (4, .inl x4), (5, .inl x5), (6, .inl z1), (7, .inl r3)] [.inl 0] M6 (kqi Q)) ∧ (¬ r7 ≤ r5 → kWP l (rg_x, g) mX5_soonestSet 71 [(0, .inr (.inr (0, 0))), (1, .inl x1), (2, .inl x2), (3, .inl x3), (4, .inl x4), (5, .inl x5), (6, .inl z1), (7, .inl r3)] [.inl 1] M6 (kqi Q)))))))))))) :
    kWP l (rg_x, g) mX5_soonestSet 23 [(0, .inr (.inr (0, 0))), (1, .inl x1), (2, .inl x2), (3, .inl x3), (4, .inl x4), (5, .inl x5)] [] M (kqi Q) := by
  refine kwp_iload (pc := 23) 5 rfl dX5_soonestSet_23 ?_
  refine kwp_iconst (pc := 25) dX5_soonestSet_25 ic_1 ?_
  refine kwp_aload_n (pc := 26) 0 rfl dX5_soonestSet_26 rfl ?_
  refine kwp_getc (pc := 27) fl_X5_10 rfl rfl dX5_soonestSet_27 ?_
  refine kwp_geti (pc := 30) fl_X5_65 rfl rfl dX5_soonestSet_30 ?_
  refine kwp_iload_n (pc := 33) 2 rfl dX5_soonestSet_33 rfl ?_
  refine kwp_isub (pc := 34) dX5_soonestSet_34 ?_
  refine kwp_ishl (pc := 35) dX5_soonestSet_35 ?_
  refine kwp_icmp_ge (pc := 36) 105 dX5_soonestSet_36 (by decide) (fun hc => ?_) (fun hc => ?_)
  · have h := h.1 hc
    refine kwp_iload_n (pc := 105) 3 rfl dX5_soonestSet_105 rfl ?_
    exact kwp_iret (pc := 106) rfl dX5_soonestSet_106 ⟨_, rfl, h⟩
  · have h := h.2 hc
    refine kwp_iload (pc := 39) 5 rfl dX5_soonestSet_39 ?_
    refine kwp_iload_n (pc := 41) 2 rfl dX5_soonestSet_41 rfl ?_
    refine kwp_ishl (pc := 42) dX5_soonestSet_42 ?_
    obtain ⟨z1, ez1⟩ : ∃ z : Int32, z = x5 <<< (x2 &&& 31) := ⟨_, rfl⟩
    rw [← ez1]
    have h := h z1 ez1
    refine kwp_istore (pc := 43) (ls2 := [(6, .inl z1), (0, .inr (.inr (0, 0))), (1, .inl x1), (2, .inl x2), (3, .inl x3), (4, .inl x4), (5, .inl x5)]) dX5_soonestSet_43 (by decide) rfl ?_
    refine kwp_aload_n (pc := 45) 1 rfl dX5_soonestSet_45 rfl ?_
    refine kwp_iload_n (pc := 46) 2 rfl dX5_soonestSet_46 rfl ?_
    refine kwp_iload (pc := 47) 0 rfl dX5_soonestSet_47 ?_
    refine kwp_callV (pc := 49) (Y := mX5_minuteBuying) (vs := [.inl x1, .inl z1]) (rest := []) fm_X5_minuteBuying fi_X5_minuteBuying ml_X5_202 (by decide) rfl rfl rfl rfl (by simp [kcat]) dX5_soonestSet_49 ?_
    refine kCT.mono h (fun v M2 h => ?_)
    obtain ⟨r3, rfl, h⟩ := h
    change kWP l (rg_x, g) mX5_soonestSet 52 [(6, .inl z1), (0, .inr (.inr (0, 0))), (1, .inl x1), (2, .inl x2), (3, .inl x3), (4, .inl x4), (5, .inl x5)] [.inl r3] M2 (kqi Q)
    refine kwp_istore (pc := 52) (ls2 := [(7, .inl r3), (6, .inl z1), (0, .inr (.inr (0, 0))), (1, .inl x1), (2, .inl x2), (3, .inl x3), (4, .inl x4), (5, .inl x5)]) dX5_soonestSet_52 (by decide) rfl ?_
    refine kwp_iload (pc := 54) 1 rfl dX5_soonestSet_54 ?_
    refine kwp_callS (pc := 56) (Y := mJ6_bitCount_0f7a4) (vs := [.inl z1]) (rest := []) fm_J6_bitCount_0f7a4 fs_J6_bitCount_0f7a4 ml_X5_276 (by decide) rfl rfl (by simp [kcat]) dX5_soonestSet_56 ?_
    refine kCT.mono h (fun v M4 h => ?_)
    obtain ⟨r5, rfl, h⟩ := h
    change kWP l (rg_x, g) mX5_soonestSet 59 [(7, .inl r3), (6, .inl z1), (0, .inr (.inr (0, 0))), (1, .inl x1), (2, .inl x2), (3, .inl x3), (4, .inl x4), (5, .inl x5)] [.inl r5] M4 (kqi Q)
    refine kwp_iload_n (pc := 59) 5 rfl dX5_soonestSet_59 rfl ?_
    refine kwp_callS (pc := 60) (Y := mJ6_bitCount_0f7a4) (vs := [.inl x3]) (rest := [.inl r5]) fm_J6_bitCount_0f7a4 fs_J6_bitCount_0f7a4 ml_X5_276 (by decide) rfl rfl (by simp [kcat]) dX5_soonestSet_60 ?_
    refine kCT.mono h (fun v M6 h => ?_)
    obtain ⟨r7, rfl, h⟩ := h
    change kWP l (rg_x, g) mX5_soonestSet 63 [(7, .inl r3), (6, .inl z1), (0, .inr (.inr (0, 0))), (1, .inl x1), (2, .inl x2), (3, .inl x3), (4, .inl x4), (5, .inl x5)] [.inl r7, .inl r5] M6 (kqi Q)
    refine kwp_icmp_ge (pc := 63) 70 dX5_soonestSet_63 (by decide) (fun hc => ?_) (fun hc => ?_)
    · have h := h.1 hc
      refine kwp_iconst (pc := 70) dX5_soonestSet_70 ic_0 ?_
      refine kwp_sub [2, 3, 4, 5, 6, 7, 1, 0] rfl ?_
      exact h
    · have h := h.2 hc
      refine kwp_iconst (pc := 66) dX5_soonestSet_66 ic_1 ?_
      refine kwp_goto (pc := 67) 71 dX5_soonestSet_67 (by decide) ?_
      refine kwp_sub [2, 3, 4, 5, 6, 7, 1, 0] rfl ?_
      exact h

set_option maxRecDepth 20000 in
theorem bX5_soonestSet_71 {l : Launch} {g : va_G × (Nat → ClassId) × (Nat → Nat → Nat)} (x1 : Int32) (x2 : Int32) (x3 : Int32) (x4 : Int32) (x5 : Int32) (x6 : Int32) (x7 : Int32) (s0 : Int32) (M : kM) (Q : Int32 → kM → Prop)
    (h : ((x7 < x4 → kWP l (rg_x, g) mX5_soonestSet 92 [(0, .inr (.inr (0, 0))), (1, .inl x1), (2, .inl x2), (5, .inl x5), (6, .inl x6), (7, .inl x7)] [] M (kqi Q)) ∧ (¬ x7 < x4 → ((¬ x7 = x4 → kWP l (rg_x, g) mX5_soonestSet 99 [(0, .inr (.inr (0, 0))), (1, .inl x1), (2, .inl x2), (3, .inl x3), (4, .inl x4), (5, .inl x5)] [] M (kqi Q)) ∧ (x7 = x4 → ((s0 = 0 → kWP l (rg_x, g) mX5_soonestSet 99 [(0, .inr (.inr (0, 0))), (1, .inl x1), (2, .inl x2), (3, .inl x3), (4, .inl x4), (5, .inl x5)] [] M (kqi Q)) ∧ (¬ s0 = 0 → kWP l (rg_x, g) mX5_soonestSet 92 [(0, .inr (.inr (0, 0))), (1, .inl x1), (2, .inl x2), (5, .inl x5), (6, .inl x6), (7, .inl x7)] [] M (kqi Q)))))))) :
    kWP l (rg_x, g) mX5_soonestSet 71 [(0, .inr (.inr (0, 0))), (1, .inl x1), (2, .inl x2), (3, .inl x3), (4, .inl x4), (5, .inl x5), (6, .inl x6), (7, .inl x7)] [.inl s0] M (kqi Q) := by
  refine kwp_istore (pc := 71) (ls2 := [(8, .inl s0), (0, .inr (.inr (0, 0))), (1, .inl x1), (2, .inl x2), (3, .inl x3), (4, .inl x4), (5, .inl x5), (6, .inl x6), (7, .inl x7)]) dX5_soonestSet_71 (by decide) rfl ?_
  refine kwp_iload (pc := 73) 8 rfl dX5_soonestSet_73 ?_
  refine kwp_iload (pc := 75) 5 rfl dX5_soonestSet_75 ?_
  refine kwp_icmp_lt (pc := 77) 92 dX5_soonestSet_77 (by decide) (fun hc => ?_) (fun hc => ?_)
  · have h := h.1 hc
    refine kwp_sub [1, 2, 3, 6, 7, 8] rfl ?_
    exact h
  · have h := h.2 hc
    refine kwp_iload (pc := 80) 8 rfl dX5_soonestSet_80 ?_
    refine kwp_iload (pc := 82) 5 rfl dX5_soonestSet_82 ?_
    refine kwp_icmp_ne (pc := 84) 99 dX5_soonestSet_84 (by decide) (fun hc => ?_) (fun hc => ?_)
    · have h := h.1 hc
      refine kwp_sub [1, 2, 3, 4, 5, 6] rfl ?_
      exact h
    · have h := h.2 hc
      refine kwp_iload (pc := 87) 0 rfl dX5_soonestSet_87 ?_
      refine kwp_if_eq (pc := 89) 99 dX5_soonestSet_89 (by decide) (fun hc => ?_) (fun hc => ?_)
      · have h := h.1 hc
        refine kwp_sub [1, 2, 3, 4, 5, 6] rfl ?_
        exact h
      · have h := h.2 hc
        refine kwp_sub [1, 2, 3, 6, 7, 8] rfl ?_
        exact h

set_option maxRecDepth 20000 in
theorem bX5_soonestSet_92 {l : Launch} {g : va_G × (Nat → ClassId) × (Nat → Nat → Nat)} (x1 : Int32) (x2 : Int32) (x5 : Int32) (x6 : Int32) (x7 : Int32) (M : kM) (Q : Int32 → kM → Prop)
    (h : kWP l (rg_x, g) mX5_soonestSet 99 [(0, .inr (.inr (0, 0))), (1, .inl x1), (2, .inl x2), (3, .inl x6), (4, .inl x7), (5, .inl x5)] [] M (kqi Q)) :
    kWP l (rg_x, g) mX5_soonestSet 92 [(0, .inr (.inr (0, 0))), (1, .inl x1), (2, .inl x2), (5, .inl x5), (6, .inl x6), (7, .inl x7)] [] M (kqi Q) := by
  refine kwp_iload (pc := 92) 5 rfl dX5_soonestSet_92 ?_
  refine kwp_istore (pc := 94) (ls2 := [(4, .inl x7), (0, .inr (.inr (0, 0))), (1, .inl x1), (2, .inl x2), (5, .inl x5), (6, .inl x6), (7, .inl x7)]) dX5_soonestSet_94 (by decide) rfl ?_
  refine kwp_iload (pc := 96) 5 rfl dX5_soonestSet_96 ?_
  refine kwp_istore_n (pc := 98) (ls2 := [(3, .inl x6), (4, .inl x7), (0, .inr (.inr (0, 0))), (1, .inl x1), (2, .inl x2), (5, .inl x5), (6, .inl x6), (7, .inl x7)]) dX5_soonestSet_98 rfl (by decide) rfl ?_
  refine kwp_sub [2, 3, 4, 0, 1, 5] rfl ?_
  exact h

set_option maxRecDepth 20000 in
theorem bX5_soonestSet_99 {l : Launch} {g : va_G × (Nat → ClassId) × (Nat → Nat → Nat)} (x1 : Int32) (x2 : Int32) (x3 : Int32) (x4 : Int32) (x5 : Int32) (M : kM) (Q : Int32 → kM → Prop)
    (h : ∀ z1 : Int32, z1 = x5 + 1 → kWP l (rg_x, g) mX5_soonestSet 23 [(0, .inr (.inr (0, 0))), (1, .inl x1), (2, .inl x2), (3, .inl x3), (4, .inl x4), (5, .inl z1)] [] M (kqi Q)) :
    kWP l (rg_x, g) mX5_soonestSet 99 [(0, .inr (.inr (0, 0))), (1, .inl x1), (2, .inl x2), (3, .inl x3), (4, .inl x4), (5, .inl x5)] [] M (kqi Q) := by
  obtain ⟨z1, ez1⟩ : ∃ z : Int32, z = x5 + 1 := ⟨_, rfl⟩
  have h := h z1 ez1
  refine kwp_iinc (pc := 99) (v := z1) (ls2 := [(5, .inl z1), (0, .inr (.inr (0, 0))), (1, .inl x1), (2, .inl x2), (3, .inl x3), (4, .inl x4)]) 5 rfl dX5_soonestSet_99 (by rw [ez1, ic_1]) (by decide) rfl ?_
  refine kwp_goto (pc := 102) 23 dX5_soonestSet_102 (by decide) ?_
  refine kwp_sub [1, 2, 3, 4, 5, 0] rfl ?_
  exact h

set_option maxRecDepth 20000 in
theorem bX5_fillDuel_0 {l : Launch} {g : va_G × (Nat → ClassId) × (Nat → Nat → Nat)} (x1 : Int32) (x2 : Int32) (M : kM) (Q : kM → Prop)
    (h : kWP l (rg_x, g) mX5_fillDuel 2 [(0, .inr (.inr (0, 0))), (1, .inl x1), (2, .inl x2), (3, .inl 0)] [] M (kqv Q)) :
    kWP l (rg_x, g) mX5_fillDuel 0 [(0, .inr (.inr (0, 0))), (1, .inl x1), (2, .inl x2)] [] M (kqv Q) := by
  refine kwp_iconst (pc := 0) dX5_fillDuel_0 ic_0 ?_
  refine kwp_istore_n (pc := 1) (ls2 := [(3, .inl 0), (0, .inr (.inr (0, 0))), (1, .inl x1), (2, .inl x2)]) dX5_fillDuel_1 rfl (by decide) rfl ?_
  refine kwp_sub [1, 2, 3, 0] rfl ?_
  exact h

set_option maxRecDepth 20000 in
theorem bX5_fillDuel_2 {l : Launch} {g : va_G × (Nat → ClassId) × (Nat → Nat → Nat)} (x1 : Int32) (x2 : Int32) (x3 : Int32) (M : kM) (Q : kM → Prop)
    (h : (((M.1 1 0 0) < x3 → Q M) ∧ (¬ (M.1 1 0 0) < x3 → kWP l (rg_x, g) mX5_fillDuel 16 [(0, .inr (.inr (0, 0))), (1, .inl x1), (2, .inl x2), (3, .inl x3), (4, .inl 0)] [] M (kqv Q)))) :
    kWP l (rg_x, g) mX5_fillDuel 2 [(0, .inr (.inr (0, 0))), (1, .inl x1), (2, .inl x2), (3, .inl x3)] [] M (kqv Q) := by
  refine kwp_iload_n (pc := 2) 3 rfl dX5_fillDuel_2 rfl ?_
  refine kwp_aload_n (pc := 3) 0 rfl dX5_fillDuel_3 rfl ?_
  refine kwp_getc (pc := 4) fl_X5_10 rfl rfl dX5_fillDuel_4 ?_
  refine kwp_geti (pc := 7) fl_X5_65 rfl rfl dX5_fillDuel_7 ?_
  refine kwp_icmp_gt (pc := 10) 128 dX5_fillDuel_10 (by decide) (fun hc => ?_) (fun hc => ?_)
  · have h := h.1 hc
    exact kwp_vret (pc := 128) rfl dX5_fillDuel_128 ⟨rfl, h⟩
  · have h := h.2 hc
    refine kwp_iconst (pc := 13) dX5_fillDuel_13 ic_0 ?_
    refine kwp_istore (pc := 14) (ls2 := [(4, .inl 0), (0, .inr (.inr (0, 0))), (1, .inl x1), (2, .inl x2), (3, .inl x3)]) dX5_fillDuel_14 (by decide) rfl ?_
    refine kwp_sub [1, 2, 3, 4, 0] rfl ?_
    exact h

set_option maxRecDepth 20000 in
theorem bX5_fillDuel_16 {l : Launch} {g : va_G × (Nat → ClassId) × (Nat → Nat → Nat)} (x1 : Int32) (x2 : Int32) (x3 : Int32) (x4 : Int32) (M : kM) (Q : kM → Prop)
    (h : (((M.1 1 0 0) < x4 → ∀ z1 : Int32, z1 = x3 + 1 → kWP l (rg_x, g) mX5_fillDuel 2 [(0, .inr (.inr (0, 0))), (1, .inl x1), (2, .inl x2), (3, .inl z1)] [] M (kqv Q)) ∧ (¬ (M.1 1 0 0) < x4 → kCT l (rg_x, g) mX0_begin [.inr (.inr (3, 0)), .inr (.inr (1, 0))] M (kqv (fun M2 => vp_in x1 4 ∧ (∀ M3 : kM, M3 = ku M2 14 2 x1.toNatClampNeg (((1 : Int32) <<< (x3 &&& 31)) >>> (1 &&& 31)) → vp_in x2 4 ∧ (∀ M4 : kM, M4 = ku M3 14 2 x2.toNatClampNeg (((1 : Int32) <<< (x4 &&& 31)) >>> (1 &&& 31)) → kCT l (rg_x, g) mX0_rideToForge [.inr (.inr (3, 0)), .inl x1, .inl 0] M4 (kqi (fun r6 M5 => vp_in ((x3 * 9) + x4) 81 ∧ (∀ M7 : kM, M7 = ku M5 19 0 ((x3 * 9) + x4).toNatClampNeg r6 → kCT l (rg_x, g) mX0_rideToForge [.inr (.inr (3, 0)), .inl x2, .inl 0] M7 (kqi (fun r9 M8 => vp_in ((x3 * 9) + x4) 81 ∧ (∀ M10 : kM, M10 = ku M8 20 0 ((x3 * 9) + x4).toNatClampNeg r9 → ∀ z11 : Int32, z11 = x4 + 1 → kWP l (rg_x, g) mX5_fillDuel 16 [(0, .inr (.inr (0, 0))), (1, .inl x1), (2, .inl x2), (3, .inl x3), (4, .inl z11)] [] M10 (kqv Q)))))))))))))) :
    kWP l (rg_x, g) mX5_fillDuel 16 [(0, .inr (.inr (0, 0))), (1, .inl x1), (2, .inl x2), (3, .inl x3), (4, .inl x4)] [] M (kqv Q) := by
  refine kwp_iload (pc := 16) 4 rfl dX5_fillDuel_16 ?_
  refine kwp_aload_n (pc := 18) 0 rfl dX5_fillDuel_18 rfl ?_
  refine kwp_getc (pc := 19) fl_X5_10 rfl rfl dX5_fillDuel_19 ?_
  refine kwp_geti (pc := 22) fl_X5_65 rfl rfl dX5_fillDuel_22 ?_
  refine kwp_icmp_gt (pc := 25) 122 dX5_fillDuel_25 (by decide) (fun hc => ?_) (fun hc => ?_)
  · have h := h.1 hc
    obtain ⟨z1, ez1⟩ : ∃ z : Int32, z = x3 + 1 := ⟨_, rfl⟩
    have h := h z1 ez1
    refine kwp_iinc (pc := 122) (v := z1) (ls2 := [(3, .inl z1), (0, .inr (.inr (0, 0))), (1, .inl x1), (2, .inl x2), (4, .inl x4)]) 3 rfl dX5_fillDuel_122 (by rw [ez1, ic_1]) (by decide) rfl ?_
    refine kwp_goto (pc := 125) 2 dX5_fillDuel_125 (by decide) ?_
    refine kwp_sub [1, 2, 3, 0] rfl ?_
    exact h
  · have h := h.2 hc
    refine kwp_aload_n (pc := 28) 0 rfl dX5_fillDuel_28 rfl ?_
    refine kwp_getc (pc := 29) fl_X5_36 rfl rfl dX5_fillDuel_29 ?_
    refine kwp_aload_n (pc := 32) 0 rfl dX5_fillDuel_32 rfl ?_
    refine kwp_getc (pc := 33) fl_X5_10 rfl rfl dX5_fillDuel_33 ?_
    refine kwp_callV (pc := 36) (Y := mX0_begin) (vs := [.inr (.inr (1, 0))]) (rest := []) fm_X0_begin fi_X0_begin ml_X5_181 (by decide) rfl rfl rfl rfl (by simp [kcat]) dX5_fillDuel_36 ?_
    refine kCT.mono h (fun v M2 h => ?_)
    obtain ⟨rfl, h⟩ := h
    change kWP l (rg_x, g) mX5_fillDuel 39 [(0, .inr (.inr (0, 0))), (1, .inl x1), (2, .inl x2), (3, .inl x3), (4, .inl x4)] [] M2 (kqv Q)
    refine kwp_aload_n (pc := 39) 0 rfl dX5_fillDuel_39 rfl ?_
    refine kwp_getc (pc := 40) fl_X5_36 rfl rfl dX5_fillDuel_40 ?_
    refine kwp_getc (pc := 43) fl_X5_187 rfl rfl dX5_fillDuel_43 ?_
    refine kwp_getr (pc := 46) fl_X5_107 rfl rfl dX5_fillDuel_46 ?_
    refine kwp_iload_n (pc := 49) 1 rfl dX5_fillDuel_49 rfl ?_
    refine kwp_iconst (pc := 50) dX5_fillDuel_50 ic_1 ?_
    refine kwp_iload_n (pc := 51) 3 rfl dX5_fillDuel_51 rfl ?_
    refine kwp_ishl (pc := 52) dX5_fillDuel_52 ?_
    refine kwp_iconst (pc := 53) dX5_fillDuel_53 ic_1 ?_
    refine kwp_ishr (pc := 54) dX5_fillDuel_54 ?_
    obtain ⟨hin, h⟩ := h
    refine kwp_iast (pc := 55) rfl hin dX5_fillDuel_55 ?_
    obtain ⟨M3, eM3⟩ : ∃ z : kM, z = ku M2 14 2 x1.toNatClampNeg (((1 : Int32) <<< (x3 &&& 31)) >>> (1 &&& 31)) := ⟨_, rfl⟩
    rw [← eM3]
    have h := h M3 eM3
    refine kwp_aload_n (pc := 56) 0 rfl dX5_fillDuel_56 rfl ?_
    refine kwp_getc (pc := 57) fl_X5_36 rfl rfl dX5_fillDuel_57 ?_
    refine kwp_getc (pc := 60) fl_X5_187 rfl rfl dX5_fillDuel_60 ?_
    refine kwp_getr (pc := 63) fl_X5_107 rfl rfl dX5_fillDuel_63 ?_
    refine kwp_iload_n (pc := 66) 2 rfl dX5_fillDuel_66 rfl ?_
    refine kwp_iconst (pc := 67) dX5_fillDuel_67 ic_1 ?_
    refine kwp_iload (pc := 68) 4 rfl dX5_fillDuel_68 ?_
    refine kwp_ishl (pc := 70) dX5_fillDuel_70 ?_
    refine kwp_iconst (pc := 71) dX5_fillDuel_71 ic_1 ?_
    refine kwp_ishr (pc := 72) dX5_fillDuel_72 ?_
    obtain ⟨hin, h⟩ := h
    refine kwp_iast (pc := 73) rfl hin dX5_fillDuel_73 ?_
    obtain ⟨M4, eM4⟩ : ∃ z : kM, z = ku M3 14 2 x2.toNatClampNeg (((1 : Int32) <<< (x4 &&& 31)) >>> (1 &&& 31)) := ⟨_, rfl⟩
    rw [← eM4]
    have h := h M4 eM4
    refine kwp_aload_n (pc := 74) 0 rfl dX5_fillDuel_74 rfl ?_
    refine kwp_getc (pc := 75) fl_X5_54 rfl rfl dX5_fillDuel_75 ?_
    refine kwp_iload_n (pc := 78) 3 rfl dX5_fillDuel_78 rfl ?_
    refine kwp_bipush (pc := 79) dX5_fillDuel_79 bp_9 ?_
    refine kwp_imul (pc := 81) dX5_fillDuel_81 ?_
    refine kwp_iload (pc := 82) 4 rfl dX5_fillDuel_82 ?_
    refine kwp_iadd (pc := 84) dX5_fillDuel_84 ?_
    refine kwp_aload_n (pc := 85) 0 rfl dX5_fillDuel_85 rfl ?_
    refine kwp_getc (pc := 86) fl_X5_36 rfl rfl dX5_fillDuel_86 ?_
    refine kwp_iload_n (pc := 89) 1 rfl dX5_fillDuel_89 rfl ?_
    refine kwp_iconst (pc := 90) dX5_fillDuel_90 ic_0 ?_
    refine kwp_callV (pc := 91) (Y := mX0_rideToForge) (vs := [.inl x1, .inl 0]) (rest := [.inl ((x3 * 9) + x4), .inr (.inr (19, 0))]) fm_X0_rideToForge fi_X0_rideToForge ml_X5_184 (by decide) rfl rfl rfl rfl (by simp [kcat]) dX5_fillDuel_91 ?_
    refine kCT.mono h (fun v M5 h => ?_)
    obtain ⟨r6, rfl, h⟩ := h
    change kWP l (rg_x, g) mX5_fillDuel 94 [(0, .inr (.inr (0, 0))), (1, .inl x1), (2, .inl x2), (3, .inl x3), (4, .inl x4)] [.inl r6, .inl ((x3 * 9) + x4), .inr (.inr (19, 0))] M5 (kqv Q)
    obtain ⟨hin, h⟩ := h
    refine kwp_iast (pc := 94) rfl hin dX5_fillDuel_94 ?_
    obtain ⟨M7, eM7⟩ : ∃ z : kM, z = ku M5 19 0 ((x3 * 9) + x4).toNatClampNeg r6 := ⟨_, rfl⟩
    rw [← eM7]
    have h := h M7 eM7
    refine kwp_aload_n (pc := 95) 0 rfl dX5_fillDuel_95 rfl ?_
    refine kwp_getc (pc := 96) fl_X5_58 rfl rfl dX5_fillDuel_96 ?_
    refine kwp_iload_n (pc := 99) 3 rfl dX5_fillDuel_99 rfl ?_
    refine kwp_bipush (pc := 100) dX5_fillDuel_100 bp_9 ?_
    refine kwp_imul (pc := 102) dX5_fillDuel_102 ?_
    refine kwp_iload (pc := 103) 4 rfl dX5_fillDuel_103 ?_
    refine kwp_iadd (pc := 105) dX5_fillDuel_105 ?_
    refine kwp_aload_n (pc := 106) 0 rfl dX5_fillDuel_106 rfl ?_
    refine kwp_getc (pc := 107) fl_X5_36 rfl rfl dX5_fillDuel_107 ?_
    refine kwp_iload_n (pc := 110) 2 rfl dX5_fillDuel_110 rfl ?_
    refine kwp_iconst (pc := 111) dX5_fillDuel_111 ic_0 ?_
    refine kwp_callV (pc := 112) (Y := mX0_rideToForge) (vs := [.inl x2, .inl 0]) (rest := [.inl ((x3 * 9) + x4), .inr (.inr (20, 0))]) fm_X0_rideToForge fi_X0_rideToForge ml_X5_184 (by decide) rfl rfl rfl rfl (by simp [kcat]) dX5_fillDuel_112 ?_
    refine kCT.mono h (fun v M8 h => ?_)
    obtain ⟨r9, rfl, h⟩ := h
    change kWP l (rg_x, g) mX5_fillDuel 115 [(0, .inr (.inr (0, 0))), (1, .inl x1), (2, .inl x2), (3, .inl x3), (4, .inl x4)] [.inl r9, .inl ((x3 * 9) + x4), .inr (.inr (20, 0))] M8 (kqv Q)
    obtain ⟨hin, h⟩ := h
    refine kwp_iast (pc := 115) rfl hin dX5_fillDuel_115 ?_
    obtain ⟨M10, eM10⟩ : ∃ z : kM, z = ku M8 20 0 ((x3 * 9) + x4).toNatClampNeg r9 := ⟨_, rfl⟩
    rw [← eM10]
    have h := h M10 eM10
    obtain ⟨z11, ez11⟩ : ∃ z : Int32, z = x4 + 1 := ⟨_, rfl⟩
    have h := h z11 ez11
    refine kwp_iinc (pc := 116) (v := z11) (ls2 := [(4, .inl z11), (0, .inr (.inr (0, 0))), (1, .inl x1), (2, .inl x2), (3, .inl x3)]) 4 rfl dX5_fillDuel_116 (by rw [ez11, ic_1]) (by decide) rfl ?_
    refine kwp_goto (pc := 119) 16 dX5_fillDuel_119 (by decide) ?_
    refine kwp_sub [1, 2, 3, 4, 0] rfl ?_
    exact h

set_option maxRecDepth 20000 in
theorem bX5_isRest_0 {l : Launch} {g : va_G × (Nat → ClassId) × (Nat → Nat → Nat)} (x1 : Int32) (x2 : Int32) (M : kM) (Q : Int32 → kM → Prop)
    (h : ∀ z1 : Int32, z1 = (x1 * 9) + x2 → kWP l (rg_x, g) mX5_isRest 10 [(0, .inr (.inr (0, 0))), (1, .inl x1), (2, .inl x2), (3, .inl z1), (4, .inl 0)] [] M (kqi Q)) :
    kWP l (rg_x, g) mX5_isRest 0 [(0, .inr (.inr (0, 0))), (1, .inl x1), (2, .inl x2)] [] M (kqi Q) := by
  refine kwp_iload_n (pc := 0) 1 rfl dX5_isRest_0 rfl ?_
  refine kwp_bipush (pc := 1) dX5_isRest_1 bp_9 ?_
  refine kwp_imul (pc := 3) dX5_isRest_3 ?_
  refine kwp_iload_n (pc := 4) 2 rfl dX5_isRest_4 rfl ?_
  refine kwp_iadd (pc := 5) dX5_isRest_5 ?_
  obtain ⟨z1, ez1⟩ : ∃ z : Int32, z = (x1 * 9) + x2 := ⟨_, rfl⟩
  rw [← ez1]
  have h := h z1 ez1
  refine kwp_istore_n (pc := 6) (ls2 := [(3, .inl z1), (0, .inr (.inr (0, 0))), (1, .inl x1), (2, .inl x2)]) dX5_isRest_6 rfl (by decide) rfl ?_
  refine kwp_iconst (pc := 7) dX5_isRest_7 ic_0 ?_
  refine kwp_istore (pc := 8) (ls2 := [(4, .inl 0), (3, .inl z1), (0, .inr (.inr (0, 0))), (1, .inl x1), (2, .inl x2)]) dX5_isRest_8 (by decide) rfl ?_
  refine kwp_sub [2, 3, 4, 1, 0] rfl ?_
  exact h

set_option maxRecDepth 20000 in
theorem bX5_isRest_10 {l : Launch} {g : va_G × (Nat → ClassId) × (Nat → Nat → Nat)} (x1 : Int32) (x2 : Int32) (x3 : Int32) (x4 : Int32) (M : kM) (Q : Int32 → kM → Prop)
    (h : (((M.1 1 0 0) < x4 → Q 1 M) ∧ (¬ (M.1 1 0 0) < x4 → vp_in ((x4 * 9) + x2) 81 ∧ (vp_in x3 81 ∧ ((((M.1 19 0 ((x4 * 9) + x2).toNatClampNeg) < (M.1 19 0 x3.toNatClampNeg) → kWP l (rg_x, g) mX5_isRest 64 [] [] M (kqi Q)) ∧ (¬ (M.1 19 0 ((x4 * 9) + x2).toNatClampNeg) < (M.1 19 0 x3.toNatClampNeg) → vp_in ((x1 * 9) + x4) 81 ∧ (vp_in x3 81 ∧ ((((M.1 20 0 x3.toNatClampNeg) ≤ (M.1 20 0 ((x1 * 9) + x4).toNatClampNeg) → ∀ z1 : Int32, z1 = x4 + 1 → kWP l (rg_x, g) mX5_isRest 10 [(0, .inr (.inr (0, 0))), (1, .inl x1), (2, .inl x2), (3, .inl x3), (4, .inl z1)] [] M (kqi Q)) ∧ (¬ (M.1 20 0 x3.toNatClampNeg) ≤ (M.1 20 0 ((x1 * 9) + x4).toNatClampNeg) → kWP l (rg_x, g) mX5_isRest 64 [] [] M (kqi Q)))))))))))) :
    kWP l (rg_x, g) mX5_isRest 10 [(0, .inr (.inr (0, 0))), (1, .inl x1), (2, .inl x2), (3, .inl x3), (4, .inl x4)] [] M (kqi Q) := by
  refine kwp_iload (pc := 10) 4 rfl dX5_isRest_10 ?_
  refine kwp_aload_n (pc := 12) 0 rfl dX5_isRest_12 rfl ?_
  refine kwp_getc (pc := 13) fl_X5_10 rfl rfl dX5_isRest_13 ?_
  refine kwp_geti (pc := 16) fl_X5_65 rfl rfl dX5_isRest_16 ?_
  refine kwp_icmp_gt (pc := 19) 72 dX5_isRest_19 (by decide) (fun hc => ?_) (fun hc => ?_)
  · have h := h.1 hc
    refine kwp_iconst (pc := 72) dX5_isRest_72 ic_1 ?_
    exact kwp_zret (pc := 73) rfl (by decide) dX5_isRest_73 ⟨_, rfl, h⟩
  · have h := h.2 hc
    refine kwp_aload_n (pc := 22) 0 rfl dX5_isRest_22 rfl ?_
    refine kwp_getc (pc := 23) fl_X5_54 rfl rfl dX5_isRest_23 ?_
    refine kwp_iload (pc := 26) 4 rfl dX5_isRest_26 ?_
    refine kwp_bipush (pc := 28) dX5_isRest_28 bp_9 ?_
    refine kwp_imul (pc := 30) dX5_isRest_30 ?_
    refine kwp_iload_n (pc := 31) 2 rfl dX5_isRest_31 rfl ?_
    refine kwp_iadd (pc := 32) dX5_isRest_32 ?_
    obtain ⟨hin, h⟩ := h
    refine kwp_iald (pc := 33) rfl hin dX5_isRest_33 ?_
    refine kwp_aload_n (pc := 34) 0 rfl dX5_isRest_34 rfl ?_
    refine kwp_getc (pc := 35) fl_X5_54 rfl rfl dX5_isRest_35 ?_
    refine kwp_iload_n (pc := 38) 3 rfl dX5_isRest_38 rfl ?_
    obtain ⟨hin, h⟩ := h
    refine kwp_iald (pc := 39) rfl hin dX5_isRest_39 ?_
    refine kwp_icmp_lt (pc := 40) 64 dX5_isRest_40 (by decide) (fun hc => ?_) (fun hc => ?_)
    · have h := h.1 hc
      refine kwp_sub [] rfl ?_
      exact h
    · have h := h.2 hc
      refine kwp_aload_n (pc := 43) 0 rfl dX5_isRest_43 rfl ?_
      refine kwp_getc (pc := 44) fl_X5_58 rfl rfl dX5_isRest_44 ?_
      refine kwp_iload_n (pc := 47) 1 rfl dX5_isRest_47 rfl ?_
      refine kwp_bipush (pc := 48) dX5_isRest_48 bp_9 ?_
      refine kwp_imul (pc := 50) dX5_isRest_50 ?_
      refine kwp_iload (pc := 51) 4 rfl dX5_isRest_51 ?_
      refine kwp_iadd (pc := 53) dX5_isRest_53 ?_
      obtain ⟨hin, h⟩ := h
      refine kwp_iald (pc := 54) rfl hin dX5_isRest_54 ?_
      refine kwp_aload_n (pc := 55) 0 rfl dX5_isRest_55 rfl ?_
      refine kwp_getc (pc := 56) fl_X5_58 rfl rfl dX5_isRest_56 ?_
      refine kwp_iload_n (pc := 59) 3 rfl dX5_isRest_59 rfl ?_
      obtain ⟨hin, h⟩ := h
      refine kwp_iald (pc := 60) rfl hin dX5_isRest_60 ?_
      refine kwp_icmp_ge (pc := 61) 66 dX5_isRest_61 (by decide) (fun hc => ?_) (fun hc => ?_)
      · have h := h.1 hc
        obtain ⟨z1, ez1⟩ : ∃ z : Int32, z = x4 + 1 := ⟨_, rfl⟩
        have h := h z1 ez1
        refine kwp_iinc (pc := 66) (v := z1) (ls2 := [(4, .inl z1), (0, .inr (.inr (0, 0))), (1, .inl x1), (2, .inl x2), (3, .inl x3)]) 4 rfl dX5_isRest_66 (by rw [ez1, ic_1]) (by decide) rfl ?_
        refine kwp_goto (pc := 69) 10 dX5_isRest_69 (by decide) ?_
        refine kwp_sub [1, 2, 3, 4, 0] rfl ?_
        exact h
      · have h := h.2 hc
        refine kwp_sub [] rfl ?_
        exact h

set_option maxRecDepth 20000 in
theorem bX5_isRest_64 {l : Launch} {g : va_G × (Nat → ClassId) × (Nat → Nat → Nat)}  (M : kM) (Q : Int32 → kM → Prop)
    (h : Q 0 M) :
    kWP l (rg_x, g) mX5_isRest 64 [] [] M (kqi Q) := by
  refine kwp_iconst (pc := 64) dX5_isRest_64 ic_0 ?_
  exact kwp_zret (pc := 65) rfl (by decide) dX5_isRest_65 ⟨_, rfl, h⟩

set_option maxRecDepth 20000 in
theorem bX5_isFirstWith_0 {l : Launch} {g : va_G × (Nat → ClassId) × (Nat → Nat → Nat)} (x1 : Int32) (x2 : Int32) (M : kM) (Q : Int32 → kM → Prop)
    (h : kCT l (rg_x, g) mX0_begin [.inr (.inr (3, 0)), .inr (.inr (1, 0))] M (kqv (fun M1 => kCT l (rg_x, g) mX0_rideToForge [.inr (.inr (3, 0)), .inl x1, .inl x2] M1 (kqi (fun r3 M2 => kCT l (rg_x, g) mX0_whoIsFirst [.inr (.inr (3, 0))] M2 (kqi (fun r5 M4 => ((¬ r5 = x1 → kWP l (rg_x, g) mX5_isFirstWith 37 [] [.inl 0] M4 (kqi Q)) ∧ (r5 = x1 → kWP l (rg_x, g) mX5_isFirstWith 37 [] [.inl 1] M4 (kqi Q)))))))))) :
    kWP l (rg_x, g) mX5_isFirstWith 0 [(0, .inr (.inr (0, 0))), (1, .inl x1), (2, .inl x2)] [] M (kqi Q) := by
  refine kwp_aload_n (pc := 0) 0 rfl dX5_isFirstWith_0 rfl ?_
  refine kwp_getc (pc := 1) fl_X5_36 rfl rfl dX5_isFirstWith_1 ?_
  refine kwp_aload_n (pc := 4) 0 rfl dX5_isFirstWith_4 rfl ?_
  refine kwp_getc (pc := 5) fl_X5_10 rfl rfl dX5_isFirstWith_5 ?_
  refine kwp_callV (pc := 8) (Y := mX0_begin) (vs := [.inr (.inr (1, 0))]) (rest := []) fm_X0_begin fi_X0_begin ml_X5_181 (by decide) rfl rfl rfl rfl (by simp [kcat]) dX5_isFirstWith_8 ?_
  refine kCT.mono h (fun v M1 h => ?_)
  obtain ⟨rfl, h⟩ := h
  change kWP l (rg_x, g) mX5_isFirstWith 11 [(0, .inr (.inr (0, 0))), (1, .inl x1), (2, .inl x2)] [] M1 (kqi Q)
  refine kwp_aload_n (pc := 11) 0 rfl dX5_isFirstWith_11 rfl ?_
  refine kwp_getc (pc := 12) fl_X5_36 rfl rfl dX5_isFirstWith_12 ?_
  refine kwp_iload_n (pc := 15) 1 rfl dX5_isFirstWith_15 rfl ?_
  refine kwp_iload_n (pc := 16) 2 rfl dX5_isFirstWith_16 rfl ?_
  refine kwp_callV (pc := 17) (Y := mX0_rideToForge) (vs := [.inl x1, .inl x2]) (rest := []) fm_X0_rideToForge fi_X0_rideToForge ml_X5_184 (by decide) rfl rfl rfl rfl (by simp [kcat]) dX5_isFirstWith_17 ?_
  refine kCT.mono h (fun v M2 h => ?_)
  obtain ⟨r3, rfl, h⟩ := h
  change kWP l (rg_x, g) mX5_isFirstWith 20 [(0, .inr (.inr (0, 0))), (1, .inl x1), (2, .inl x2)] [.inl r3] M2 (kqi Q)
  refine kwp_pop (pc := 20) dX5_isFirstWith_20 rfl ?_
  refine kwp_aload_n (pc := 21) 0 rfl dX5_isFirstWith_21 rfl ?_
  refine kwp_getc (pc := 22) fl_X5_36 rfl rfl dX5_isFirstWith_22 ?_
  refine kwp_callV (pc := 25) (Y := mX0_whoIsFirst) (vs := []) (rest := []) fm_X0_whoIsFirst fi_X0_whoIsFirst ml_X5_193 (by decide) rfl rfl rfl rfl (by simp [kcat]) dX5_isFirstWith_25 ?_
  refine kCT.mono h (fun v M4 h => ?_)
  obtain ⟨r5, rfl, h⟩ := h
  change kWP l (rg_x, g) mX5_isFirstWith 28 [(0, .inr (.inr (0, 0))), (1, .inl x1), (2, .inl x2)] [.inl r5] M4 (kqi Q)
  refine kwp_iload_n (pc := 28) 1 rfl dX5_isFirstWith_28 rfl ?_
  refine kwp_icmp_ne (pc := 29) 36 dX5_isFirstWith_29 (by decide) (fun hc => ?_) (fun hc => ?_)
  · have h := h.1 hc
    refine kwp_iconst (pc := 36) dX5_isFirstWith_36 ic_0 ?_
    refine kwp_sub [] rfl ?_
    exact h
  · have h := h.2 hc
    refine kwp_iconst (pc := 32) dX5_isFirstWith_32 ic_1 ?_
    refine kwp_goto (pc := 33) 37 dX5_isFirstWith_33 (by decide) ?_
    refine kwp_sub [] rfl ?_
    exact h

set_option maxRecDepth 20000 in
theorem bX5_isFirstWith_37 {l : Launch} {g : va_G × (Nat → ClassId) × (Nat → Nat → Nat)} (s0 : Int32) (M : kM) (Q : Int32 → kM → Prop)
    (h : ((s0 = 0 ∨ s0 = 1) ∧ Q s0 M)) :
    kWP l (rg_x, g) mX5_isFirstWith 37 [] [.inl s0] M (kqi Q) := by
  exact kwp_zret (pc := 37) rfl h.1 dX5_isFirstWith_37 ⟨_, rfl, h.2⟩

set_option maxRecDepth 20000 in
theorem bX5_waysOf_0 {l : Launch} {g : va_G × (Nat → ClassId) × (Nat → Nat → Nat)} (x0 : Int32) (x1 : Int32) (x2 : Int32) (M : kM) (Q : Int32 → kM → Prop)
    (h : kWP l (rg_x, g) mX5_waysOf 5 [(0, .inl x0), (1, .inl x1), (2, .inl x2), (3, .inl 1), (4, .inl 0)] [] M (kqi Q)) :
    kWP l (rg_x, g) mX5_waysOf 0 [(0, .inl x0), (1, .inl x1), (2, .inl x2)] [] M (kqi Q) := by
  refine kwp_iconst (pc := 0) dX5_waysOf_0 ic_1 ?_
  refine kwp_istore_n (pc := 1) (ls2 := [(3, .inl 1), (0, .inl x0), (1, .inl x1), (2, .inl x2)]) dX5_waysOf_1 rfl (by decide) rfl ?_
  refine kwp_iconst (pc := 2) dX5_waysOf_2 ic_0 ?_
  refine kwp_istore (pc := 3) (ls2 := [(4, .inl 0), (3, .inl 1), (0, .inl x0), (1, .inl x1), (2, .inl x2)]) dX5_waysOf_3 (by decide) rfl ?_
  refine kwp_sub [2, 3, 4, 1, 0] rfl ?_
  exact h

set_option maxRecDepth 20000 in
theorem bX5_waysOf_5 {l : Launch} {g : va_G × (Nat → ClassId) × (Nat → Nat → Nat)} (x0 : Int32) (x1 : Int32) (x2 : Int32) (x3 : Int32) (x4 : Int32) (M : kM) (Q : Int32 → kM → Prop)
    (h : ((x1 ≤ x4 → Q x3 M) ∧ (¬ x1 ≤ x4 → kCT l (rg_x, g) mX5_has [.inl x0, .inl x4] M (kqi (fun r2 M1 => ((r2 = 0 → kWP l (rg_x, g) mX5_waysOf 29 [(0, .inl x0), (1, .inl x1), (2, .inl x2), (4, .inl x4)] [.inl ((10 : Int32) - x2), .inl x3] M1 (kqi Q)) ∧ (¬ r2 = 0 → kWP l (rg_x, g) mX5_waysOf 29 [(0, .inl x0), (1, .inl x1), (2, .inl x2), (4, .inl x4)] [.inl x2, .inl x3] M1 (kqi Q)))))))) :
    kWP l (rg_x, g) mX5_waysOf 5 [(0, .inl x0), (1, .inl x1), (2, .inl x2), (3, .inl x3), (4, .inl x4)] [] M (kqi Q) := by
  refine kwp_iload (pc := 5) 4 rfl dX5_waysOf_5 ?_
  refine kwp_iload_n (pc := 7) 1 rfl dX5_waysOf_7 rfl ?_
  refine kwp_icmp_ge (pc := 8) 37 dX5_waysOf_8 (by decide) (fun hc => ?_) (fun hc => ?_)
  · have h := h.1 hc
    refine kwp_iload_n (pc := 37) 3 rfl dX5_waysOf_37 rfl ?_
    exact kwp_iret (pc := 38) rfl dX5_waysOf_38 ⟨_, rfl, h⟩
  · have h := h.2 hc
    refine kwp_iload_n (pc := 11) 3 rfl dX5_waysOf_11 rfl ?_
    refine kwp_iload_n (pc := 12) 0 rfl dX5_waysOf_12 rfl ?_
    refine kwp_iload (pc := 13) 4 rfl dX5_waysOf_13 ?_
    refine kwp_callS (pc := 15) (Y := mX5_has) (vs := [.inl x0, .inl x4]) (rest := [.inl x3]) fm_X5_has fs_X5_has ml_X5_281 (by decide) rfl rfl (by simp [kcat]) dX5_waysOf_15 ?_
    refine kCT.mono h (fun v M1 h => ?_)
    obtain ⟨r2, rfl, h⟩ := h
    change kWP l (rg_x, g) mX5_waysOf 18 [(0, .inl x0), (1, .inl x1), (2, .inl x2), (3, .inl x3), (4, .inl x4)] [.inl r2, .inl x3] M1 (kqi Q)
    refine kwp_if_eq (pc := 18) 25 dX5_waysOf_18 (by decide) (fun hc => ?_) (fun hc => ?_)
    · have h := h.1 hc
      refine kwp_bipush (pc := 25) dX5_waysOf_25 bp_10 ?_
      refine kwp_iload_n (pc := 27) 2 rfl dX5_waysOf_27 rfl ?_
      refine kwp_isub (pc := 28) dX5_waysOf_28 ?_
      refine kwp_sub [0, 1, 2, 4] rfl ?_
      exact h
    · have h := h.2 hc
      refine kwp_iload_n (pc := 21) 2 rfl dX5_waysOf_21 rfl ?_
      refine kwp_goto (pc := 22) 29 dX5_waysOf_22 (by decide) ?_
      refine kwp_sub [0, 1, 2, 4] rfl ?_
      exact h

set_option maxRecDepth 20000 in
theorem bX5_waysOf_29 {l : Launch} {g : va_G × (Nat → ClassId) × (Nat → Nat → Nat)} (x0 : Int32) (x1 : Int32) (x2 : Int32) (x4 : Int32) (s0 : Int32) (s1 : Int32) (M : kM) (Q : Int32 → kM → Prop)
    (h : ∀ z1 : Int32, z1 = s1 * s0 → ∀ z2 : Int32, z2 = x4 + 1 → kWP l (rg_x, g) mX5_waysOf 5 [(0, .inl x0), (1, .inl x1), (2, .inl x2), (3, .inl z1), (4, .inl z2)] [] M (kqi Q)) :
    kWP l (rg_x, g) mX5_waysOf 29 [(0, .inl x0), (1, .inl x1), (2, .inl x2), (4, .inl x4)] [.inl s0, .inl s1] M (kqi Q) := by
  refine kwp_imul (pc := 29) dX5_waysOf_29 ?_
  obtain ⟨z1, ez1⟩ : ∃ z : Int32, z = s1 * s0 := ⟨_, rfl⟩
  rw [← ez1]
  have h := h z1 ez1
  refine kwp_istore_n (pc := 30) (ls2 := [(3, .inl z1), (0, .inl x0), (1, .inl x1), (2, .inl x2), (4, .inl x4)]) dX5_waysOf_30 rfl (by decide) rfl ?_
  obtain ⟨z2, ez2⟩ : ∃ z : Int32, z = x4 + 1 := ⟨_, rfl⟩
  have h := h z2 ez2
  refine kwp_iinc (pc := 31) (v := z2) (ls2 := [(4, .inl z2), (3, .inl z1), (0, .inl x0), (1, .inl x1), (2, .inl x2)]) 4 rfl dX5_waysOf_31 (by rw [ez2, ic_1]) (by decide) rfl ?_
  refine kwp_goto (pc := 34) 5 dX5_waysOf_34 (by decide) ?_
  refine kwp_sub [2, 3, 4, 1, 0] rfl ?_
  exact h

set_option maxRecDepth 20000 in
theorem bX5_sharedDivisor_0 {l : Launch} {g : va_G × (Nat → ClassId) × (Nat → Nat → Nat)} (x0 : Int32) (x1 : Int32) (M : kM) (Q : Int32 → kM → Prop)
    (h : kWP l (rg_x, g) mX5_sharedDivisor 7 [(2, .inl x0), (3, .inl x1), (4, .inl 0)] [] M (kqi Q)) :
    kWP l (rg_x, g) mX5_sharedDivisor 0 [(0, .inl x0), (1, .inl x1)] [] M (kqi Q) := by
  refine kwp_iload_n (pc := 0) 0 rfl dX5_sharedDivisor_0 rfl ?_
  refine kwp_istore_n (pc := 1) (ls2 := [(2, .inl x0), (0, .inl x0), (1, .inl x1)]) dX5_sharedDivisor_1 rfl (by decide) rfl ?_
  refine kwp_iload_n (pc := 2) 2 rfl dX5_sharedDivisor_2 rfl ?_
  refine kwp_istore_n (pc := 3) (ls2 := [(3, .inl x1), (2, .inl x0), (0, .inl x0), (1, .inl x1)]) dX5_sharedDivisor_3 rfl (by decide) rfl ?_
  refine kwp_iconst (pc := 4) dX5_sharedDivisor_4 ic_0 ?_
  refine kwp_istore (pc := 5) (ls2 := [(4, .inl 0), (3, .inl x1), (2, .inl x0), (0, .inl x0), (1, .inl x1)]) dX5_sharedDivisor_5 (by decide) rfl ?_
  refine kwp_sub [2, 1, 0] rfl ?_
  exact h

set_option maxRecDepth 20000 in
theorem bX5_sharedDivisor_7 {l : Launch} {g : va_G × (Nat → ClassId) × (Nat → Nat → Nat)} (x2 : Int32) (x3 : Int32) (x4 : Int32) (M : kM) (Q : Int32 → kM → Prop)
    (h : ((64 ≤ x4 → kWP l (rg_x, g) mX5_sharedDivisor 34 [(2, .inl x2)] [] M (kqi Q)) ∧ (¬ 64 ≤ x4 → ((x3 = 0 → kWP l (rg_x, g) mX5_sharedDivisor 34 [(2, .inl x2)] [] M (kqi Q)) ∧ (¬ x3 = 0 → ¬ x3 = 0 ∧ (∀ z1 : Int32, z1 = x2 - x2 / x3 * x3 → ∀ z2 : Int32, z2 = x4 + 1 → kWP l (rg_x, g) mX5_sharedDivisor 7 [(2, .inl x3), (3, .inl z1), (4, .inl z2)] [] M (kqi Q))))))) :
    kWP l (rg_x, g) mX5_sharedDivisor 7 [(2, .inl x2), (3, .inl x3), (4, .inl x4)] [] M (kqi Q) := by
  refine kwp_iload (pc := 7) 2 rfl dX5_sharedDivisor_7 ?_
  refine kwp_bipush (pc := 9) dX5_sharedDivisor_9 bp_64 ?_
  refine kwp_icmp_ge (pc := 11) 34 dX5_sharedDivisor_11 (by decide) (fun hc => ?_) (fun hc => ?_)
  · have h := h.1 hc
    refine kwp_sub [0] rfl ?_
    exact h
  · have h := h.2 hc
    refine kwp_iload_n (pc := 14) 1 rfl dX5_sharedDivisor_14 rfl ?_
    refine kwp_if_eq (pc := 15) 34 dX5_sharedDivisor_15 (by decide) (fun hc => ?_) (fun hc => ?_)
    · have h := h.1 hc
      refine kwp_sub [0] rfl ?_
      exact h
    · have h := h.2 hc
      refine kwp_iload_n (pc := 18) 0 rfl dX5_sharedDivisor_18 rfl ?_
      refine kwp_iload_n (pc := 19) 1 rfl dX5_sharedDivisor_19 rfl ?_
      obtain ⟨hne, h⟩ := h
      refine kwp_irem (pc := 20) dX5_sharedDivisor_20 hne ?_
      obtain ⟨z1, ez1⟩ : ∃ z : Int32, z = x2 - x2 / x3 * x3 := ⟨_, rfl⟩
      rw [← ez1]
      have h := h z1 ez1
      refine kwp_istore (pc := 21) (ls2 := [(5, .inl z1), (2, .inl x2), (3, .inl x3), (4, .inl x4)]) dX5_sharedDivisor_21 (by decide) rfl ?_
      refine kwp_iload_n (pc := 23) 2 rfl dX5_sharedDivisor_23 rfl ?_
      refine kwp_istore_n (pc := 24) (ls2 := [(2, .inl x3), (5, .inl z1), (3, .inl x3), (4, .inl x4)]) dX5_sharedDivisor_24 rfl (by decide) rfl ?_
      refine kwp_iload (pc := 25) 1 rfl dX5_sharedDivisor_25 ?_
      refine kwp_istore_n (pc := 27) (ls2 := [(3, .inl z1), (2, .inl x3), (5, .inl z1), (4, .inl x4)]) dX5_sharedDivisor_27 rfl (by decide) rfl ?_
      obtain ⟨z2, ez2⟩ : ∃ z : Int32, z = x4 + 1 := ⟨_, rfl⟩
      have h := h z2 ez2
      refine kwp_iinc (pc := 28) (v := z2) (ls2 := [(4, .inl z2), (3, .inl z1), (2, .inl x3), (5, .inl z1)]) 3 rfl dX5_sharedDivisor_28 (by rw [ez2, ic_1]) (by decide) rfl ?_
      refine kwp_goto (pc := 31) 7 dX5_sharedDivisor_31 (by decide) ?_
      refine kwp_sub [2, 1, 0] rfl ?_
      exact h

set_option maxRecDepth 20000 in
theorem bX5_sharedDivisor_34 {l : Launch} {g : va_G × (Nat → ClassId) × (Nat → Nat → Nat)} (x2 : Int32) (M : kM) (Q : Int32 → kM → Prop)
    (h : Q x2 M) :
    kWP l (rg_x, g) mX5_sharedDivisor 34 [(2, .inl x2)] [] M (kqi Q) := by
  refine kwp_iload_n (pc := 34) 0 rfl dX5_sharedDivisor_34 rfl ?_
  exact kwp_iret (pc := 35) rfl dX5_sharedDivisor_35 ⟨_, rfl, h⟩

set_option maxRecDepth 20000 in
theorem bX5_rowFault_0 {l : Launch} {g : va_G × (Nat → ClassId) × (Nat → Nat → Nat)} (x1 : Int32) (x2 : Int32) (x3 : Int32) (x4 : Int32) (x5 : Int32) (M : kM) (Q : Int32 → kM → Prop)
    (h : kCT l (rg_x, g) mX5_isRider [.inr (.inr (0, 0)), .inl x1] M (kqi (fun r2 M1 => ((r2 = 0 → kWP l (rg_x, g) mX5_rowFault 33 [] [] M1 (kqi Q)) ∧ (¬ r2 = 0 → kCT l (rg_x, g) mX5_isSheet [.inl x2] M1 (kqi (fun r4 M3 => ((r4 = 0 → kWP l (rg_x, g) mX5_rowFault 33 [] [] M3 (kqi Q)) ∧ (¬ r4 = 0 → kCT l (rg_x, g) mX5_isLane [.inl x3] M3 (kqi (fun r6 M5 => ((r6 = 0 → kWP l (rg_x, g) mX5_rowFault 33 [] [] M5 (kqi Q)) ∧ (¬ r6 = 0 → kCT l (rg_x, g) mX5_within [.inl x5, .inl 1, .inl 8] M5 (kqi (fun r8 M7 => ((¬ r8 = 0 → vp_in x2 4 ∧ (kCT l (rg_x, g) mX1_faultOf [.inr (.inr (5, x2.toNatClampNeg)), .inl x3, .inl x4, .inl x5] M7 (kqi (fun r10 M9 => ((0 ≤ r10 → vp_in x1 4 ∧ (((x5 ≤ ((M9.1 1 0 0) - (M9.1 11 0 x1.toNatClampNeg)) → kWP l (rg_x, g) mX5_rowFault 87 [] [.inl 0] M9 (kqi Q)) ∧ (¬ x5 ≤ ((M9.1 1 0 0) - (M9.1 11 0 x1.toNatClampNeg)) → kWP l (rg_x, g) mX5_rowFault 87 [] [.inl (-2)] M9 (kqi Q))))) ∧ (¬ 0 ≤ r10 → Q r10 M9)))))) ∧ (r8 = 0 → kWP l (rg_x, g) mX5_rowFault 33 [] [] M7 (kqi Q)))))))))))))))))) :
    kWP l (rg_x, g) mX5_rowFault 0 [(0, .inr (.inr (0, 0))), (1, .inl x1), (2, .inl x2), (3, .inl x3), (4, .inl x4), (5, .inl x5)] [] M (kqi Q) := by
  refine kwp_aload_n (pc := 0) 0 rfl dX5_rowFault_0 rfl ?_
  refine kwp_iload_n (pc := 1) 1 rfl dX5_rowFault_1 rfl ?_
  refine kwp_callV (pc := 2) (Y := mX5_isRider) (vs := [.inl x1]) (rest := []) fm_X5_isRider fi_X5_isRider ml_X5_91 (by decide) rfl rfl rfl rfl (by simp [kcat]) dX5_rowFault_2 ?_
  refine kCT.mono h (fun v M1 h => ?_)
  obtain ⟨r2, rfl, h⟩ := h
  change kWP l (rg_x, g) mX5_rowFault 5 [(0, .inr (.inr (0, 0))), (1, .inl x1), (2, .inl x2), (3, .inl x3), (4, .inl x4), (5, .inl x5)] [.inl r2] M1 (kqi Q)
  refine kwp_if_eq (pc := 5) 33 dX5_rowFault_5 (by decide) (fun hc => ?_) (fun hc => ?_)
  · have h := h.1 hc
    refine kwp_sub [] rfl ?_
    exact h
  · have h := h.2 hc
    refine kwp_iload_n (pc := 8) 2 rfl dX5_rowFault_8 rfl ?_
    refine kwp_callS (pc := 9) (Y := mX5_isSheet) (vs := [.inl x2]) (rest := []) fm_X5_isSheet fs_X5_isSheet ml_X5_238 (by decide) rfl rfl (by simp [kcat]) dX5_rowFault_9 ?_
    refine kCT.mono h (fun v M3 h => ?_)
    obtain ⟨r4, rfl, h⟩ := h
    change kWP l (rg_x, g) mX5_rowFault 12 [(0, .inr (.inr (0, 0))), (1, .inl x1), (2, .inl x2), (3, .inl x3), (4, .inl x4), (5, .inl x5)] [.inl r4] M3 (kqi Q)
    refine kwp_if_eq (pc := 12) 33 dX5_rowFault_12 (by decide) (fun hc => ?_) (fun hc => ?_)
    · have h := h.1 hc
      refine kwp_sub [] rfl ?_
      exact h
    · have h := h.2 hc
      refine kwp_iload_n (pc := 15) 3 rfl dX5_rowFault_15 rfl ?_
      refine kwp_callS (pc := 16) (Y := mX5_isLane) (vs := [.inl x3]) (rest := []) fm_X5_isLane fs_X5_isLane ml_X5_241 (by decide) rfl rfl (by simp [kcat]) dX5_rowFault_16 ?_
      refine kCT.mono h (fun v M5 h => ?_)
      obtain ⟨r6, rfl, h⟩ := h
      change kWP l (rg_x, g) mX5_rowFault 19 [(0, .inr (.inr (0, 0))), (1, .inl x1), (2, .inl x2), (3, .inl x3), (4, .inl x4), (5, .inl x5)] [.inl r6] M5 (kqi Q)
      refine kwp_if_eq (pc := 19) 33 dX5_rowFault_19 (by decide) (fun hc => ?_) (fun hc => ?_)
      · have h := h.1 hc
        refine kwp_sub [] rfl ?_
        exact h
      · have h := h.2 hc
        refine kwp_iload (pc := 22) 5 rfl dX5_rowFault_22 ?_
        refine kwp_iconst (pc := 24) dX5_rowFault_24 ic_1 ?_
        refine kwp_bipush (pc := 25) dX5_rowFault_25 bp_8 ?_
        refine kwp_callS (pc := 27) (Y := mX5_within) (vs := [.inl x5, .inl 1, .inl 8]) (rest := []) fm_X5_within fs_X5_within ml_X5_61 (by decide) rfl rfl (by simp [kcat]) dX5_rowFault_27 ?_
        refine kCT.mono h (fun v M7 h => ?_)
        obtain ⟨r8, rfl, h⟩ := h
        change kWP l (rg_x, g) mX5_rowFault 30 [(0, .inr (.inr (0, 0))), (1, .inl x1), (2, .inl x2), (3, .inl x3), (4, .inl x4), (5, .inl x5)] [.inl r8] M7 (kqi Q)
        refine kwp_if_ne (pc := 30) 35 dX5_rowFault_30 (by decide) (fun hc => ?_) (fun hc => ?_)
        · have h := h.1 hc
          refine kwp_aload_n (pc := 35) 0 rfl dX5_rowFault_35 rfl ?_
          refine kwp_getc (pc := 36) fl_X5_50 rfl rfl dX5_rowFault_36 ?_
          refine kwp_iload_n (pc := 39) 2 rfl dX5_rowFault_39 rfl ?_
          obtain ⟨hin, h⟩ := h
          refine kwp_aald (pc := 40) rfl hin dX5_rowFault_40 ?_
          refine kwp_iload_n (pc := 41) 3 rfl dX5_rowFault_41 rfl ?_
          refine kwp_iload (pc := 42) 4 rfl dX5_rowFault_42 ?_
          refine kwp_iload (pc := 44) 5 rfl dX5_rowFault_44 ?_
          refine kwp_callV (pc := 46) (Y := mX1_faultOf) (vs := [.inl x3, .inl x4, .inl x5]) (rest := []) fm_X1_faultOf fi_X1_faultOf ml_X5_253 (by decide) rfl rfl rfl rfl (by simp [kcat]) dX5_rowFault_46 ?_
          refine kCT.mono h (fun v M9 h => ?_)
          obtain ⟨r10, rfl, h⟩ := h
          change kWP l (rg_x, g) mX5_rowFault 49 [(0, .inr (.inr (0, 0))), (1, .inl x1), (2, .inl x2), (3, .inl x3), (4, .inl x4), (5, .inl x5)] [.inl r10] M9 (kqi Q)
          refine kwp_istore (pc := 49) (ls2 := [(6, .inl r10), (0, .inr (.inr (0, 0))), (1, .inl x1), (2, .inl x2), (3, .inl x3), (4, .inl x4), (5, .inl x5)]) dX5_rowFault_49 (by decide) rfl ?_
          refine kwp_iload (pc := 51) 0 rfl dX5_rowFault_51 ?_
          refine kwp_if_ge (pc := 53) 59 dX5_rowFault_53 (by decide) (fun hc => ?_) (fun hc => ?_)
          · have h := h.1 hc
            refine kwp_iload (pc := 59) 6 rfl dX5_rowFault_59 ?_
            refine kwp_aload_n (pc := 61) 1 rfl dX5_rowFault_61 rfl ?_
            refine kwp_getc (pc := 62) fl_X5_10 rfl rfl dX5_rowFault_62 ?_
            refine kwp_geti (pc := 65) fl_X5_65 rfl rfl dX5_rowFault_65 ?_
            refine kwp_aload_n (pc := 68) 1 rfl dX5_rowFault_68 rfl ?_
            refine kwp_getc (pc := 69) fl_X5_10 rfl rfl dX5_rowFault_69 ?_
            refine kwp_getr (pc := 72) fl_X5_98 rfl rfl dX5_rowFault_72 ?_
            refine kwp_iload_n (pc := 75) 2 rfl dX5_rowFault_75 rfl ?_
            obtain ⟨hin, h⟩ := h
            refine kwp_iald (pc := 76) rfl hin dX5_rowFault_76 ?_
            refine kwp_isub (pc := 77) dX5_rowFault_77 ?_
            refine kwp_icmp_le (pc := 78) 86 dX5_rowFault_78 (by decide) (fun hc => ?_) (fun hc => ?_)
            · have h := h.1 hc
              refine kwp_iconst (pc := 86) dX5_rowFault_86 ic_0 ?_
              refine kwp_sub [] rfl ?_
              exact h
            · have h := h.2 hc
              refine kwp_bipush (pc := 81) dX5_rowFault_81 bp_m2 ?_
              refine kwp_goto (pc := 83) 87 dX5_rowFault_83 (by decide) ?_
              refine kwp_sub [] rfl ?_
              exact h
          · have h := h.2 hc
            refine kwp_iload (pc := 56) 0 rfl dX5_rowFault_56 ?_
            exact kwp_iret (pc := 58) rfl dX5_rowFault_58 ⟨_, rfl, h⟩
        · have h := h.2 hc
          refine kwp_sub [] rfl ?_
          exact h

set_option maxRecDepth 20000 in
theorem bX5_rowFault_33 {l : Launch} {g : va_G × (Nat → ClassId) × (Nat → Nat → Nat)}  (M : kM) (Q : Int32 → kM → Prop)
    (h : Q (-1) M) :
    kWP l (rg_x, g) mX5_rowFault 33 [] [] M (kqi Q) := by
  refine kwp_iconst (pc := 33) dX5_rowFault_33 ic_m1 ?_
  exact kwp_iret (pc := 34) rfl dX5_rowFault_34 ⟨_, rfl, h⟩

set_option maxRecDepth 20000 in
theorem bX5_rowFault_87 {l : Launch} {g : va_G × (Nat → ClassId) × (Nat → Nat → Nat)} (s0 : Int32) (M : kM) (Q : Int32 → kM → Prop)
    (h : Q s0 M) :
    kWP l (rg_x, g) mX5_rowFault 87 [] [.inl s0] M (kqi Q) := by
  exact kwp_iret (pc := 87) rfl dX5_rowFault_87 ⟨_, rfl, h⟩

set_option maxRecDepth 20000 in
theorem bX5_isTold_0 {l : Launch} {g : va_G × (Nat → ClassId) × (Nat → Nat → Nat)} (x1 : Int32) (k2 : Nat) (x3 : Int32) (x4 : Int32) (M : kM) (Q : Int32 → kM → Prop)
    (h : vp_in x1 4 ∧ (∀ z1 : Int32, z1 = (M.1 11 0 x1.toNatClampNeg) + 1 → kWP l (rg_x, g) mX5_isTold 16 [(0, .inr (.inr (0, 0))), (1, .inl x1), (2, .inr (.inr (5, k2))), (3, .inl x3), (4, .inl x4), (5, .inl z1), (6, .inl 0)] [] M (kqi Q))) :
    kWP l (rg_x, g) mX5_isTold 0 [(0, .inr (.inr (0, 0))), (1, .inl x1), (2, .inr (.inr (5, k2))), (3, .inl x3), (4, .inl x4)] [] M (kqi Q) := by
  refine kwp_aload_n (pc := 0) 0 rfl dX5_isTold_0 rfl ?_
  refine kwp_getc (pc := 1) fl_X5_10 rfl rfl dX5_isTold_1 ?_
  refine kwp_getr (pc := 4) fl_X5_98 rfl rfl dX5_isTold_4 ?_
  refine kwp_iload_n (pc := 7) 1 rfl dX5_isTold_7 rfl ?_
  obtain ⟨hin, h⟩ := h
  refine kwp_iald (pc := 8) rfl hin dX5_isTold_8 ?_
  refine kwp_iconst (pc := 9) dX5_isTold_9 ic_1 ?_
  refine kwp_iadd (pc := 10) dX5_isTold_10 ?_
  obtain ⟨z1, ez1⟩ : ∃ z : Int32, z = (M.1 11 0 x1.toNatClampNeg) + 1 := ⟨_, rfl⟩
  rw [← ez1]
  have h := h z1 ez1
  refine kwp_istore (pc := 11) (ls2 := [(5, .inl z1), (0, .inr (.inr (0, 0))), (1, .inl x1), (2, .inr (.inr (5, k2))), (3, .inl x3), (4, .inl x4)]) dX5_isTold_11 (by decide) rfl ?_
  refine kwp_iconst (pc := 13) dX5_isTold_13 ic_0 ?_
  refine kwp_istore (pc := 14) (ls2 := [(6, .inl 0), (5, .inl z1), (0, .inr (.inr (0, 0))), (1, .inl x1), (2, .inr (.inr (5, k2))), (3, .inl x3), (4, .inl x4)]) dX5_isTold_14 (by decide) rfl ?_
  refine kwp_sub [2, 3, 4, 5, 6, 1, 0] rfl ?_
  exact h

set_option maxRecDepth 20000 in
theorem bX5_isTold_16 {l : Launch} {g : va_G × (Nat → ClassId) × (Nat → Nat → Nat)} (x1 : Int32) (k2 : Nat) (x3 : Int32) (x4 : Int32) (x5 : Int32) (x6 : Int32) (M : kM) (Q : Int32 → kM → Prop)
    (h : ((x4 ≤ x6 → Q 1 M) ∧ (¬ x4 ≤ x6 → vp_in (x3 + x6) 24 ∧ (kCT l (rg_x, g) mX0_cameTo [.inr (.inr (3, 0)), .inl x1, .inl (x5 + x6)] M (kqi (fun r2 M1 => (((lg_cmp (M.2 18 k2 (x3 + x6).toNatClampNeg) r2.toInt64) = 0 → ∀ z3 : Int32, z3 = x6 + 1 → kWP l (rg_x, g) mX5_isTold 16 [(0, .inr (.inr (0, 0))), (1, .inl x1), (2, .inr (.inr (5, k2))), (3, .inl x3), (4, .inl x4), (5, .inl x5), (6, .inl z3)] [] M1 (kqi Q)) ∧ (¬ (lg_cmp (M.2 18 k2 (x3 + x6).toNatClampNeg) r2.toInt64) = 0 → Q 0 M1)))))))) :
    kWP l (rg_x, g) mX5_isTold 16 [(0, .inr (.inr (0, 0))), (1, .inl x1), (2, .inr (.inr (5, k2))), (3, .inl x3), (4, .inl x4), (5, .inl x5), (6, .inl x6)] [] M (kqi Q) := by
  refine kwp_iload (pc := 16) 6 rfl dX5_isTold_16 ?_
  refine kwp_iload (pc := 18) 4 rfl dX5_isTold_18 ?_
  refine kwp_icmp_ge (pc := 20) 58 dX5_isTold_20 (by decide) (fun hc => ?_) (fun hc => ?_)
  · have h := h.1 hc
    refine kwp_iconst (pc := 58) dX5_isTold_58 ic_1 ?_
    exact kwp_zret (pc := 59) rfl (by decide) dX5_isTold_59 ⟨_, rfl, h⟩
  · have h := h.2 hc
    refine kwp_aload_n (pc := 23) 2 rfl dX5_isTold_23 rfl ?_
    refine kwp_getr (pc := 24) fl_X5_262 rfl rfl dX5_isTold_24 ?_
    refine kwp_iload_n (pc := 27) 3 rfl dX5_isTold_27 rfl ?_
    refine kwp_iload (pc := 28) 6 rfl dX5_isTold_28 ?_
    refine kwp_iadd (pc := 30) dX5_isTold_30 ?_
    obtain ⟨hin, h⟩ := h
    refine kwp_lald (pc := 31) rfl hin dX5_isTold_31 ?_
    refine kwp_aload_n (pc := 32) 0 rfl dX5_isTold_32 rfl ?_
    refine kwp_getc (pc := 33) fl_X5_36 rfl rfl dX5_isTold_33 ?_
    refine kwp_iload_n (pc := 36) 1 rfl dX5_isTold_36 rfl ?_
    refine kwp_iload (pc := 37) 5 rfl dX5_isTold_37 ?_
    refine kwp_iload (pc := 39) 6 rfl dX5_isTold_39 ?_
    refine kwp_iadd (pc := 41) dX5_isTold_41 ?_
    refine kwp_callV (pc := 42) (Y := mX0_cameTo) (vs := [.inl x1, .inl (x5 + x6)]) (rest := [.inr (.inl (M.2 18 k2 (x3 + x6).toNatClampNeg))]) fm_X0_cameTo fi_X0_cameTo ml_X5_190 (by decide) rfl rfl rfl rfl (by simp [kcat]) dX5_isTold_42 ?_
    refine kCT.mono h (fun v M1 h => ?_)
    obtain ⟨r2, rfl, h⟩ := h
    change kWP l (rg_x, g) mX5_isTold 45 [(0, .inr (.inr (0, 0))), (1, .inl x1), (2, .inr (.inr (5, k2))), (3, .inl x3), (4, .inl x4), (5, .inl x5), (6, .inl x6)] [.inl r2, .inr (.inl (M.2 18 k2 (x3 + x6).toNatClampNeg))] M1 (kqi Q)
    refine kwp_i2l (pc := 45) dX5_isTold_45 ?_
    refine kwp_lcmp (pc := 46) dX5_isTold_46 ?_
    refine kwp_if_eq (pc := 47) 52 dX5_isTold_47 (by decide) (fun hc => ?_) (fun hc => ?_)
    · have h := h.1 hc
      obtain ⟨z3, ez3⟩ : ∃ z : Int32, z = x6 + 1 := ⟨_, rfl⟩
      have h := h z3 ez3
      refine kwp_iinc (pc := 52) (v := z3) (ls2 := [(6, .inl z3), (0, .inr (.inr (0, 0))), (1, .inl x1), (2, .inr (.inr (5, k2))), (3, .inl x3), (4, .inl x4), (5, .inl x5)]) 6 rfl dX5_isTold_52 (by rw [ez3, ic_1]) (by decide) rfl ?_
      refine kwp_goto (pc := 55) 16 dX5_isTold_55 (by decide) ?_
      refine kwp_sub [1, 2, 3, 4, 5, 6, 0] rfl ?_
      exact h
    · have h := h.2 hc
      refine kwp_iconst (pc := 50) dX5_isTold_50 ic_0 ?_
      exact kwp_zret (pc := 51) rfl (by decide) dX5_isTold_51 ⟨_, rfl, h⟩
