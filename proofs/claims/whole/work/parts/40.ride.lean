/-! ===== one stage ridden ===== -/
def rbest (R : Rc) (r : Nat) : Int32 := if hs (R 8 r) (R 5 r) = 0 then 0 else if R 3 (R 5 r).toNatClampNeg ≤ 0 then 0 else if R 7 r < R 0 2 then 0 else 1
/-- coins behind the best horses; what is paid as toll, what is waited -/
def rc1 (R : Rc) (r : Nat) : Int32 := R 7 r - (if rbest R r = 0 then 0 else R 0 2)
def rtp (R : Rc) (r : Nat) : Int32 := if rc1 R r < R 2 (R 5 r).toNatClampNeg then 0 else R 2 (R 5 r).toNatClampNeg
def rwt (R : Rc) (r : Nat) : Int32 := if rc1 R r < R 2 (R 5 r).toNatClampNeg then 10 else 0
def rtk (R : Rc) (r : Nat) : Int32 := tks (R 4 r) (R 1 (R 5 r).toNatClampNeg) (rbest R r)
def rride (R : Rc) (r : Nat) (more : Int32) : Rc :=
  rup (rup (rup (rup R 3 (R 5 r).toNatClampNeg (R 3 (R 5 r).toNatClampNeg - (if rbest R r = 0 then 0 else 1))) 7 r (rc1 R r - rtp R r)) 6 r (R 6 r + (rwt R r + rtk R r) + more)) 5 r (R 5 r + 1)
theorem rup_rup {R : Rc} {f j : Nat} {v w : Int32} : rup (rup R f j v) f j w = rup R f j w := by
  funext a b
  unfold rup
  by_cases q : a = f ∧ b = j
  · rw [if_pos q, if_pos q]
  · rw [if_neg q, if_neg q, if_neg q]
theorem rup_id {R : Rc} {f j : Nat} : rup R f j (R f j) = R := by
  funext a b
  unfold rup
  by_cases q : a = f ∧ b = j
  · rw [if_pos q, q.1, q.2]
  · rw [if_neg q]
theorem rbest_01 (R : Rc) (r : Nat) : rbest R r = 0 ∨ rbest R r = 1 := by
  unfold rbest
  split
  · exact Or.inl rfl
  · split
    · exact Or.inl rfl
    · split
      · exact Or.inl rfl
      · exact Or.inr rfl
theorem isub0 (x : Int32) : x - 0 = x := Int32.sub_zero x
section KRI
variable {l : Launch} {g : va_G × (Nat → ClassId) × (Nat → Nat → Nat)} {M : kM} {Qv : kM → Prop}
theorem x_rideStage (k r s : Nat) (more : Int32) (hr : r < 4) (hs8 : s < 8) (e5 : rx M k 5 r = nI s)
    (h : ∀ M', (∀ c i j, ¬ (i = k ∧ (c = 9 ∨ c = 11 ∨ c = 12 ∨ c = 13)) → M'.1 c i j = M.1 c i j) → M'.2 = M.2 → rx M' k = rride (rx M k) r more → Qv M') :
    kCT l (rg_x, g) mX3_rideStage [.inr (.inr (1, k)), .inl (nI r), .inl more] M (kqv Qv) := by
  have e5' : M.1 11 k r = nI s := e5
  have hcl : (rx M k 5 r).toNatClampNeg = s := by rw [e5, q_cl (by omega)]
  -- the last stretch
  have k121 : ∀ M1 : kM, (∀ c i j, ¬ (i = k ∧ (c = 9 ∨ c = 12 ∨ c = 13)) → M1.1 c i j = M.1 c i j) → M1.2 = M.2 → M1.1 12 k r = M.1 12 k r + rwt (rx M k) r → rx M1 k = rup (rup (rup (rx M k) 3 s (rx M k 3 s - (if rbest (rx M k) r = 0 then 0 else 1))) 7 r (rc1 (rx M k) r - rtp (rx M k) r)) 6 r (rx M k 6 r + rwt (rx M k) r) → kWP l (rg_x, g) mX3_rideStage 121 [(0, .inr (.inr (1, k))), (1, .inl (nI r)), (2, .inl more), (3, .inl (nI s)), (4, .inl (rbest (rx M k) r))] [] M1 (kqv Qv) := by
    intro M1 a1 a2 a3 a4
    refine bX3_rideStage_121 k _ _ _ _ M1 Qv ?_
    simp (disch := omega) only [qa_0, qa_1, qa_2, qa_3, qa_4, qa_5, qa_6, qa_7, qa_8, qa_9, qa_10, qa_12, qa_16, qa_20, qa_21, qa_22, qa_23, qa_24, qa_26, qa_27, qa_30, qa_31, qa_32, qa_35, qa_36, qa_40, qa_44, qa_48, qa_49, qa_70, qa_81, qa_90, qa_96, qa_168, qa_217, qa_434, qa_442, qa_446, qa_450, qa_454, qa_455, qa_456, qa_457, qa_458, qa_466, qa_474, qa_478, qb_0, qb_1, qb_2, qb_3, qb_4, qb_5, qb_6, qb_7, qb_8, qb_9, qb_10, qb_12, qb_16, qb_20, qb_21, qb_22, qb_23, qb_24, qb_26, qb_27, qb_30, qb_31, qb_32, qb_35, qb_36, qb_40, qb_44, qb_48, qb_49, qb_70, qb_81, qb_90, qb_96, qb_168, qb_217, qb_434, qb_442, qb_446, qb_450, qb_454, qb_455, qb_456, qb_457, qb_458, qb_466, qb_474, qb_478, qm_0, qm_1, qm_2, qm_3, qm_4, qm_5, qm_6, qm_7, qm_8, qm_9, qm_10, qm_12, qm_16, qm_20, qm_21, qm_22, qm_23, qm_24, qm_26, qm_27, qm_30, qm_31, qm_32, qm_35, qm_36, qm_40, qm_44, qm_48, qm_49, qm_70, qm_81, qm_90, qm_96, qm_168, qm_217, qm_434, qm_442, qm_446, qm_450, qm_454, qm_455, qm_456, qm_457, qm_458, qm_466, qm_474, qm_478, ql_0, ql_1, ql_2, ql_3, ql_4, ql_5, ql_6, ql_7, ql_8, ql_9, ql_10, ql_12, ql_16, ql_20, ql_21, ql_22, ql_23, ql_24, ql_26, ql_27, ql_30, ql_31, ql_32, ql_35, ql_36, ql_40, ql_44, ql_48, ql_49, ql_70, ql_81, ql_90, ql_96, ql_168, ql_217, ql_434, ql_442, ql_446, ql_450, ql_454, ql_455, ql_456, ql_457, ql_458, ql_466, ql_474, ql_478, nI_add, q_cl, q_in, true_and]
    refine x_minutesFor _ _ _ ?_
    rintro M3 rfl M4 rfl
    refine h _ (fun c i j hc => by rw [ku_ne (by omega), ku_ne (by omega), a1 c i j (by omega)]) a2 ?_
    rw [rx_u5, rx_u6, a4, rup_rup, a1 10 k r (by omega), a1 7 k s (by omega), a3]
    unfold rride
    rw [hcl]
    have e1 : rx M k 5 r + 1 = nI (s + 1) := by rw [e5, qa_1]
    rw [e1]
    have e2 : M.1 12 k r + rwt (rx M k) r + (tks (M.1 10 k r) (M.1 7 k s) (rbest (rx M k) r) + more) = rx M k 6 r + (rwt (rx M k) r + rtk (rx M k) r) + more := by
      unfold rtk
      rw [hcl]
      show M.1 12 k r + _ + (tks (M.1 10 k r) (M.1 7 k s) _ + more) = M.1 12 k r + (_ + tks (M.1 10 k r) (M.1 7 k s) _) + more
      rw [Int32.add_assoc, Int32.add_assoc, Int32.add_assoc]
    rw [e2]
  have k77 : ∀ M1 : kM, (∀ c i j, ¬ (i = k ∧ (c = 9 ∨ c = 13)) → M1.1 c i j = M.1 c i j) → M1.2 = M.2 → M1.1 13 k r = rc1 (rx M k) r → rx M1 k = rup (rup (rx M k) 3 s (rx M k 3 s - (if rbest (rx M k) r = 0 then 0 else 1))) 7 r (rc1 (rx M k) r) → kWP l (rg_x, g) mX3_rideStage 77 [(0, .inr (.inr (1, k))), (1, .inl (nI r)), (2, .inl more), (3, .inl (nI s)), (4, .inl (rbest (rx M k) r))] [] M1 (kqv Qv) := by
    intro M1 a1 a2 a3 a4
    refine bX3_rideStage_77 k _ _ _ _ M1 Qv ?_
    simp (disch := omega) only [qa_0, qa_1, qa_2, qa_3, qa_4, qa_5, qa_6, qa_7, qa_8, qa_9, qa_10, qa_12, qa_16, qa_20, qa_21, qa_22, qa_23, qa_24, qa_26, qa_27, qa_30, qa_31, qa_32, qa_35, qa_36, qa_40, qa_44, qa_48, qa_49, qa_70, qa_81, qa_90, qa_96, qa_168, qa_217, qa_434, qa_442, qa_446, qa_450, qa_454, qa_455, qa_456, qa_457, qa_458, qa_466, qa_474, qa_478, qb_0, qb_1, qb_2, qb_3, qb_4, qb_5, qb_6, qb_7, qb_8, qb_9, qb_10, qb_12, qb_16, qb_20, qb_21, qb_22, qb_23, qb_24, qb_26, qb_27, qb_30, qb_31, qb_32, qb_35, qb_36, qb_40, qb_44, qb_48, qb_49, qb_70, qb_81, qb_90, qb_96, qb_168, qb_217, qb_434, qb_442, qb_446, qb_450, qb_454, qb_455, qb_456, qb_457, qb_458, qb_466, qb_474, qb_478, qm_0, qm_1, qm_2, qm_3, qm_4, qm_5, qm_6, qm_7, qm_8, qm_9, qm_10, qm_12, qm_16, qm_20, qm_21, qm_22, qm_23, qm_24, qm_26, qm_27, qm_30, qm_31, qm_32, qm_35, qm_36, qm_40, qm_44, qm_48, qm_49, qm_70, qm_81, qm_90, qm_96, qm_168, qm_217, qm_434, qm_442, qm_446, qm_450, qm_454, qm_455, qm_456, qm_457, qm_458, qm_466, qm_474, qm_478, ql_0, ql_1, ql_2, ql_3, ql_4, ql_5, ql_6, ql_7, ql_8, ql_9, ql_10, ql_12, ql_16, ql_20, ql_21, ql_22, ql_23, ql_24, ql_26, ql_27, ql_30, ql_31, ql_32, ql_35, ql_36, ql_40, ql_44, ql_48, ql_49, ql_70, ql_81, ql_90, ql_96, ql_168, ql_217, ql_434, ql_442, ql_446, ql_450, ql_454, ql_455, ql_456, ql_457, ql_458, ql_466, ql_474, ql_478, nI_add, q_cl, q_in, true_and]
    rw [a3, a1 8 k s (by omega), a1 12 k r (by omega)]
    have et : rx M k 2 (rx M k 5 r).toNatClampNeg = M.1 8 k s := by rw [hcl]; rfl
    refine ⟨fun c => ?_, fun c => ?_⟩
    · have e1 : rtp (rx M k) r = 0 := by unfold rtp; rw [et, if_pos c]
      have e2 : rwt (rx M k) r = 10 := by unfold rwt; rw [et, if_pos c]
      rintro M2 rfl
      refine k121 _ (fun c i j hc => by rw [ku_ne (by omega), a1 c i j (by omega)]) a2 (by rw [ku_eq, e2]) ?_
      rw [rx_u6, a4, e1, e2, isub0]
      rfl
    · have e1 : rtp (rx M k) r = M.1 8 k s := by unfold rtp; rw [et, if_neg c]
      have e2 : rwt (rx M k) r = 0 := by unfold rwt; rw [et, if_neg c]
      rintro M2 rfl
      refine k121 _ (fun c i j hc => by rw [ku_ne (by omega), a1 c i j (by omega)]) a2 (by rw [ku_ne (by omega), a1 12 k r (by omega), e2, Int32.add_zero]) ?_
      rw [rx_u7, a4, e1, e2, rup_rup, Int32.add_zero]
      have : rx M k 6 r = rup (rup (rx M k) 3 s (rx M k 3 s - if rbest (rx M k) r = 0 then 0 else 1)) 7 r (rc1 (rx M k) r - M.1 8 k s) 6 r := by
        rw [rup_ne (by omega), rup_ne (by omega)]
      rw [this, rup_id]
  have k47 : kWP l (rg_x, g) mX3_rideStage 47 [(0, .inr (.inr (1, k))), (1, .inl (nI r)), (2, .inl more), (3, .inl (nI s))] [.inl (rbest (rx M k) r)] M (kqv Qv) := by
    refine bX3_rideStage_47 k _ _ _ _ M Qv ?_
    simp (disch := omega) only [qa_0, qa_1, qa_2, qa_3, qa_4, qa_5, qa_6, qa_7, qa_8, qa_9, qa_10, qa_12, qa_16, qa_20, qa_21, qa_22, qa_23, qa_24, qa_26, qa_27, qa_30, qa_31, qa_32, qa_35, qa_36, qa_40, qa_44, qa_48, qa_49, qa_70, qa_81, qa_90, qa_96, qa_168, qa_217, qa_434, qa_442, qa_446, qa_450, qa_454, qa_455, qa_456, qa_457, qa_458, qa_466, qa_474, qa_478, qb_0, qb_1, qb_2, qb_3, qb_4, qb_5, qb_6, qb_7, qb_8, qb_9, qb_10, qb_12, qb_16, qb_20, qb_21, qb_22, qb_23, qb_24, qb_26, qb_27, qb_30, qb_31, qb_32, qb_35, qb_36, qb_40, qb_44, qb_48, qb_49, qb_70, qb_81, qb_90, qb_96, qb_168, qb_217, qb_434, qb_442, qb_446, qb_450, qb_454, qb_455, qb_456, qb_457, qb_458, qb_466, qb_474, qb_478, qm_0, qm_1, qm_2, qm_3, qm_4, qm_5, qm_6, qm_7, qm_8, qm_9, qm_10, qm_12, qm_16, qm_20, qm_21, qm_22, qm_23, qm_24, qm_26, qm_27, qm_30, qm_31, qm_32, qm_35, qm_36, qm_40, qm_44, qm_48, qm_49, qm_70, qm_81, qm_90, qm_96, qm_168, qm_217, qm_434, qm_442, qm_446, qm_450, qm_454, qm_455, qm_456, qm_457, qm_458, qm_466, qm_474, qm_478, ql_0, ql_1, ql_2, ql_3, ql_4, ql_5, ql_6, ql_7, ql_8, ql_9, ql_10, ql_12, ql_16, ql_20, ql_21, ql_22, ql_23, ql_24, ql_26, ql_27, ql_30, ql_31, ql_32, ql_35, ql_36, ql_40, ql_44, ql_48, ql_49, ql_70, ql_81, ql_90, ql_96, ql_168, ql_217, ql_434, ql_442, ql_446, ql_450, ql_454, ql_455, ql_456, ql_457, ql_458, ql_466, ql_474, ql_478, nI_add, q_cl, q_in, true_and]
    refine ⟨fun c => ?_, fun c => ?_⟩
    · have e1 : rc1 (rx M k) r = rx M k 7 r := by unfold rc1; rw [if_pos c, isub0]
      refine k77 M (fun _ _ _ _ => rfl) rfl (by rw [e1]; rfl) ?_
      rw [e1, if_pos c, isub0, rup_id, rup_id]
    · have e1 : rc1 (rx M k) r = rx M k 7 r - rx M k 0 2 := by unfold rc1; rw [if_neg c]
      rintro M1 rfl M2 rfl
      refine k77 _ (fun c i j hc => by rw [ku_ne (by omega), ku_ne (by omega)]) rfl (by rw [ku_ne (by omega), ku_eq, e1]; rfl) ?_
      rw [rx_u3, rx_u7, e1, if_neg c, ku_ne (by omega), rup_comm (by omega)]
      rfl
  refine kct (by decide) (Nat.le_of_ble_eq_true rfl) (bX3_rideStage_0 k (nI r) more M Qv ?_)
  simp (disch := omega) only [qa_0, qa_1, qa_2, qa_3, qa_4, qa_5, qa_6, qa_7, qa_8, qa_9, qa_10, qa_12, qa_16, qa_20, qa_21, qa_22, qa_23, qa_24, qa_26, qa_27, qa_30, qa_31, qa_32, qa_35, qa_36, qa_40, qa_44, qa_48, qa_49, qa_70, qa_81, qa_90, qa_96, qa_168, qa_217, qa_434, qa_442, qa_446, qa_450, qa_454, qa_455, qa_456, qa_457, qa_458, qa_466, qa_474, qa_478, qb_0, qb_1, qb_2, qb_3, qb_4, qb_5, qb_6, qb_7, qb_8, qb_9, qb_10, qb_12, qb_16, qb_20, qb_21, qb_22, qb_23, qb_24, qb_26, qb_27, qb_30, qb_31, qb_32, qb_35, qb_36, qb_40, qb_44, qb_48, qb_49, qb_70, qb_81, qb_90, qb_96, qb_168, qb_217, qb_434, qb_442, qb_446, qb_450, qb_454, qb_455, qb_456, qb_457, qb_458, qb_466, qb_474, qb_478, qm_0, qm_1, qm_2, qm_3, qm_4, qm_5, qm_6, qm_7, qm_8, qm_9, qm_10, qm_12, qm_16, qm_20, qm_21, qm_22, qm_23, qm_24, qm_26, qm_27, qm_30, qm_31, qm_32, qm_35, qm_36, qm_40, qm_44, qm_48, qm_49, qm_70, qm_81, qm_90, qm_96, qm_168, qm_217, qm_434, qm_442, qm_446, qm_450, qm_454, qm_455, qm_456, qm_457, qm_458, qm_466, qm_474, qm_478, ql_0, ql_1, ql_2, ql_3, ql_4, ql_5, ql_6, ql_7, ql_8, ql_9, ql_10, ql_12, ql_16, ql_20, ql_21, ql_22, ql_23, ql_24, ql_26, ql_27, ql_30, ql_31, ql_32, ql_35, ql_36, ql_40, ql_44, ql_48, ql_49, ql_70, ql_81, ql_90, ql_96, ql_168, ql_217, ql_434, ql_442, ql_446, ql_450, ql_454, ql_455, ql_456, ql_457, ql_458, ql_466, ql_474, ql_478, nI_add, q_cl, q_in, true_and]
  rintro z1 rfl
  rw [e5']
  have eb : rbest (rx M k) r = if hs (M.1 14 k r) (nI s) = 0 then 0 else if M.1 9 k s ≤ 0 then 0 else if M.1 13 k r < M.1 1 k 2 then 0 else 1 := by
    unfold rbest
    rw [hcl, e5]
    rfl
  refine x_has _ _ ⟨fun c => ?_, fun c => ?_⟩
  · rw [if_pos c] at eb
    rw [eb] at k47
    exact bX3_rideStage_46 k _ _ _ M Qv k47
  · rw [if_neg c] at eb
    simp (disch := omega) only [qa_0, qa_1, qa_2, qa_3, qa_4, qa_5, qa_6, qa_7, qa_8, qa_9, qa_10, qa_12, qa_16, qa_20, qa_21, qa_22, qa_23, qa_24, qa_26, qa_27, qa_30, qa_31, qa_32, qa_35, qa_36, qa_40, qa_44, qa_48, qa_49, qa_70, qa_81, qa_90, qa_96, qa_168, qa_217, qa_434, qa_442, qa_446, qa_450, qa_454, qa_455, qa_456, qa_457, qa_458, qa_466, qa_474, qa_478, qb_0, qb_1, qb_2, qb_3, qb_4, qb_5, qb_6, qb_7, qb_8, qb_9, qb_10, qb_12, qb_16, qb_20, qb_21, qb_22, qb_23, qb_24, qb_26, qb_27, qb_30, qb_31, qb_32, qb_35, qb_36, qb_40, qb_44, qb_48, qb_49, qb_70, qb_81, qb_90, qb_96, qb_168, qb_217, qb_434, qb_442, qb_446, qb_450, qb_454, qb_455, qb_456, qb_457, qb_458, qb_466, qb_474, qb_478, qm_0, qm_1, qm_2, qm_3, qm_4, qm_5, qm_6, qm_7, qm_8, qm_9, qm_10, qm_12, qm_16, qm_20, qm_21, qm_22, qm_23, qm_24, qm_26, qm_27, qm_30, qm_31, qm_32, qm_35, qm_36, qm_40, qm_44, qm_48, qm_49, qm_70, qm_81, qm_90, qm_96, qm_168, qm_217, qm_434, qm_442, qm_446, qm_450, qm_454, qm_455, qm_456, qm_457, qm_458, qm_466, qm_474, qm_478, ql_0, ql_1, ql_2, ql_3, ql_4, ql_5, ql_6, ql_7, ql_8, ql_9, ql_10, ql_12, ql_16, ql_20, ql_21, ql_22, ql_23, ql_24, ql_26, ql_27, ql_30, ql_31, ql_32, ql_35, ql_36, ql_40, ql_44, ql_48, ql_49, ql_70, ql_81, ql_90, ql_96, ql_168, ql_217, ql_434, ql_442, ql_446, ql_450, ql_454, ql_455, ql_456, ql_457, ql_458, ql_466, ql_474, ql_478, nI_add, q_cl, q_in, true_and]
    refine ⟨fun c2 => ?_, fun c2 => ⟨fun c3 => ?_, fun c3 => ?_⟩⟩
    · rw [if_pos c2] at eb
      rw [eb] at k47
      exact bX3_rideStage_46 k _ _ _ M Qv k47
    · rw [if_neg c2, if_pos c3] at eb
      rw [eb] at k47
      exact bX3_rideStage_46 k _ _ _ M Qv k47
    · rw [if_neg c2, if_neg c3] at eb
      rw [eb] at k47
      exact k47
theorem m_rides (h0 r s : Nat) (hh : h0 ≤ 434) (hr : r < 4) (hs8 : s < 8) (e5 : rmd M h0 5 r = nI s)
    (h : ∀ M', (∀ c i j, ¬ (c = 1 ∧ i = 0 ∧ h0 ≤ j ∧ j < h0 + 20) → M'.1 c i j = M.1 c i j) → M'.2 = M.2 → req (rmd M' h0) (rride (rmd M h0) r 0) → Qv M') :
    kCT l (rg_m, g) mX6_rides [.inr (.inr (0, 0)), .inl (nI h0), .inl (nI r)] M (kqv Qv) := by
  have e5' : M.1 1 0 (h0 + 8 + r) = nI s := e5
  have hcl : (rmd M h0 5 r).toNatClampNeg = s := by rw [e5, q_cl (by omega)]
  have et : rmd M h0 2 (rmd M h0 5 r).toNatClampNeg = M.1 1 0 (h0 + 32 + s) := by rw [hcl]; rfl
  have k71 : kWP l (rg_m, g) mX6_rides 71 [(0, .inr (.inr (0, 0))), (1, .inl (nI h0)), (2, .inl (nI r)), (3, .inl (nI s))] [.inl (rbest (rmd M h0) r)] M (kqv Qv) := by
    have k103 : kWP l (rg_m, g) mX6_rides 103 [(0, .inr (.inr (0, 0))), (1, .inl (nI h0)), (2, .inl (nI r)), (3, .inl (nI s)), (4, .inl (rbest (rmd M h0) r))] [.inl (if rbest (rmd M h0) r = 0 then 0 else rmd M h0 0 2), .inl (M.1 1 0 (h0 + 16 + r)), .inl (nI (h0 + 16 + r)), .inr (.inr (1, 0))] M (kqv Qv) := by
      refine bX6_rides_103 _ _ _ _ _ _ _ M Qv ?_
      simp (disch := omega) only [qa_0, qa_1, qa_2, qa_3, qa_4, qa_5, qa_6, qa_7, qa_8, qa_9, qa_10, qa_12, qa_16, qa_20, qa_21, qa_22, qa_23, qa_24, qa_26, qa_27, qa_30, qa_31, qa_32, qa_35, qa_36, qa_40, qa_44, qa_48, qa_49, qa_70, qa_81, qa_90, qa_96, qa_168, qa_217, qa_434, qa_442, qa_446, qa_450, qa_454, qa_455, qa_456, qa_457, qa_458, qa_466, qa_474, qa_478, qb_0, qb_1, qb_2, qb_3, qb_4, qb_5, qb_6, qb_7, qb_8, qb_9, qb_10, qb_12, qb_16, qb_20, qb_21, qb_22, qb_23, qb_24, qb_26, qb_27, qb_30, qb_31, qb_32, qb_35, qb_36, qb_40, qb_44, qb_48, qb_49, qb_70, qb_81, qb_90, qb_96, qb_168, qb_217, qb_434, qb_442, qb_446, qb_450, qb_454, qb_455, qb_456, qb_457, qb_458, qb_466, qb_474, qb_478, qm_0, qm_1, qm_2, qm_3, qm_4, qm_5, qm_6, qm_7, qm_8, qm_9, qm_10, qm_12, qm_16, qm_20, qm_21, qm_22, qm_23, qm_24, qm_26, qm_27, qm_30, qm_31, qm_32, qm_35, qm_36, qm_40, qm_44, qm_48, qm_49, qm_70, qm_81, qm_90, qm_96, qm_168, qm_217, qm_434, qm_442, qm_446, qm_450, qm_454, qm_455, qm_456, qm_457, qm_458, qm_466, qm_474, qm_478, ql_0, ql_1, ql_2, ql_3, ql_4, ql_5, ql_6, ql_7, ql_8, ql_9, ql_10, ql_12, ql_16, ql_20, ql_21, ql_22, ql_23, ql_24, ql_26, ql_27, ql_30, ql_31, ql_32, ql_35, ql_36, ql_40, ql_44, ql_48, ql_49, ql_70, ql_81, ql_90, ql_96, ql_168, ql_217, ql_434, ql_442, ql_446, ql_450, ql_454, ql_455, ql_456, ql_457, ql_458, ql_466, ql_474, ql_478, nI_add, q_cl, q_in, true_and]
      rintro M1 rfl
      have ec1 : M.1 1 0 (h0 + 16 + r) - (if rbest (rmd M h0) r = 0 then 0 else rmd M h0 0 2) = rc1 (rmd M h0) r := rfl
      rw [ec1, ku_ne (by omega)]
      have k126 : kWP l (rg_m, g) mX6_rides 126 [(0, .inr (.inr (0, 0))), (1, .inl (nI h0)), (2, .inl (nI r)), (3, .inl (nI s)), (4, .inl (rbest (rmd M h0) r))] [.inl (if rbest (rmd M h0) r = 0 then 0 else 1), .inl (M.1 1 0 (h0 + 0 + s)), .inl (nI (h0 + 0 + s)), .inr (.inr (1, 0))] (ku M 1 0 (h0 + 16 + r) (rc1 (rmd M h0) r)) (kqv Qv) := by
        refine bX6_rides_126 _ _ _ _ _ _ _ _ Qv ?_
        simp (disch := omega) only [qa_0, qa_1, qa_2, qa_3, qa_4, qa_5, qa_6, qa_7, qa_8, qa_9, qa_10, qa_12, qa_16, qa_20, qa_21, qa_22, qa_23, qa_24, qa_26, qa_27, qa_30, qa_31, qa_32, qa_35, qa_36, qa_40, qa_44, qa_48, qa_49, qa_70, qa_81, qa_90, qa_96, qa_168, qa_217, qa_434, qa_442, qa_446, qa_450, qa_454, qa_455, qa_456, qa_457, qa_458, qa_466, qa_474, qa_478, qb_0, qb_1, qb_2, qb_3, qb_4, qb_5, qb_6, qb_7, qb_8, qb_9, qb_10, qb_12, qb_16, qb_20, qb_21, qb_22, qb_23, qb_24, qb_26, qb_27, qb_30, qb_31, qb_32, qb_35, qb_36, qb_40, qb_44, qb_48, qb_49, qb_70, qb_81, qb_90, qb_96, qb_168, qb_217, qb_434, qb_442, qb_446, qb_450, qb_454, qb_455, qb_456, qb_457, qb_458, qb_466, qb_474, qb_478, qm_0, qm_1, qm_2, qm_3, qm_4, qm_5, qm_6, qm_7, qm_8, qm_9, qm_10, qm_12, qm_16, qm_20, qm_21, qm_22, qm_23, qm_24, qm_26, qm_27, qm_30, qm_31, qm_32, qm_35, qm_36, qm_40, qm_44, qm_48, qm_49, qm_70, qm_81, qm_90, qm_96, qm_168, qm_217, qm_434, qm_442, qm_446, qm_450, qm_454, qm_455, qm_456, qm_457, qm_458, qm_466, qm_474, qm_478, ql_0, ql_1, ql_2, ql_3, ql_4, ql_5, ql_6, ql_7, ql_8, ql_9, ql_10, ql_12, ql_16, ql_20, ql_21, ql_22, ql_23, ql_24, ql_26, ql_27, ql_30, ql_31, ql_32, ql_35, ql_36, ql_40, ql_44, ql_48, ql_49, ql_70, ql_81, ql_90, ql_96, ql_168, ql_217, ql_434, ql_442, ql_446, ql_450, ql_454, ql_455, ql_456, ql_457, ql_458, ql_466, ql_474, ql_478, nI_add, q_cl, q_in, true_and]
        rintro M2 rfl
        rw [ku_ne (d := h0 + 16 + r) (by omega), ku_eq, ku_ne (d := h0 + 32 + s) (by omega), ku_ne (d := h0 + 32 + s) (by omega)]
        have k192 : ∀ pays : Int32, (pays = 0 ↔ rc1 (rmd M h0) r < M.1 1 0 (h0 + 32 + s)) → kWP l (rg_m, g) mX6_rides 192 [(0, .inr (.inr (0, 0))), (1, .inl (nI h0)), (2, .inl (nI r)), (3, .inl (nI s)), (4, .inl (rbest (rmd M h0) r)), (5, .inl pays)] [.inl (rtp (rmd M h0) r), .inl (rc1 (rmd M h0) r), .inl (nI (h0 + 16 + r)), .inr (.inr (1, 0))] (ku (ku M 1 0 (h0 + 16 + r) (rc1 (rmd M h0) r)) 1 0 (h0 + 0 + s) (M.1 1 0 (h0 + 0 + s) - if rbest (rmd M h0) r = 0 then 0 else 1)) (kqv Qv) := by
          intro pays hp
          refine bX6_rides_192 _ _ _ _ _ _ _ _ _ Qv ?_
          simp (disch := omega) only [qa_0, qa_1, qa_2, qa_3, qa_4, qa_5, qa_6, qa_7, qa_8, qa_9, qa_10, qa_12, qa_16, qa_20, qa_21, qa_22, qa_23, qa_24, qa_26, qa_27, qa_30, qa_31, qa_32, qa_35, qa_36, qa_40, qa_44, qa_48, qa_49, qa_70, qa_81, qa_90, qa_96, qa_168, qa_217, qa_434, qa_442, qa_446, qa_450, qa_454, qa_455, qa_456, qa_457, qa_458, qa_466, qa_474, qa_478, qb_0, qb_1, qb_2, qb_3, qb_4, qb_5, qb_6, qb_7, qb_8, qb_9, qb_10, qb_12, qb_16, qb_20, qb_21, qb_22, qb_23, qb_24, qb_26, qb_27, qb_30, qb_31, qb_32, qb_35, qb_36, qb_40, qb_44, qb_48, qb_49, qb_70, qb_81, qb_90, qb_96, qb_168, qb_217, qb_434, qb_442, qb_446, qb_450, qb_454, qb_455, qb_456, qb_457, qb_458, qb_466, qb_474, qb_478, qm_0, qm_1, qm_2, qm_3, qm_4, qm_5, qm_6, qm_7, qm_8, qm_9, qm_10, qm_12, qm_16, qm_20, qm_21, qm_22, qm_23, qm_24, qm_26, qm_27, qm_30, qm_31, qm_32, qm_35, qm_36, qm_40, qm_44, qm_48, qm_49, qm_70, qm_81, qm_90, qm_96, qm_168, qm_217, qm_434, qm_442, qm_446, qm_450, qm_454, qm_455, qm_456, qm_457, qm_458, qm_466, qm_474, qm_478, ql_0, ql_1, ql_2, ql_3, ql_4, ql_5, ql_6, ql_7, ql_8, ql_9, ql_10, ql_12, ql_16, ql_20, ql_21, ql_22, ql_23, ql_24, ql_26, ql_27, ql_30, ql_31, ql_32, ql_35, ql_36, ql_40, ql_44, ql_48, ql_49, ql_70, ql_81, ql_90, ql_96, ql_168, ql_217, ql_434, ql_442, ql_446, ql_450, ql_454, ql_455, ql_456, ql_457, ql_458, ql_466, ql_474, ql_478, nI_add, q_cl, q_in, true_and]
          rintro M3 rfl
          rw [ku_ne (d := h0 + 12 + r) (by omega), ku_ne (d := h0 + 12 + r) (by omega), ku_ne (d := h0 + 12 + r) (by omega)]
          have k217 : ∀ d : Int32, d = rwt (rmd M h0) r → kWP l (rg_m, g) mX6_rides 217 [(0, .inr (.inr (0, 0))), (1, .inl (nI h0)), (2, .inl (nI r)), (3, .inl (nI s)), (4, .inl (rbest (rmd M h0) r))] [.inl d, .inl (M.1 1 0 (h0 + 12 + r)), .inl (nI (h0 + 12 + r)), .inr (.inr (1, 0))] (ku (ku (ku M 1 0 (h0 + 16 + r) (rc1 (rmd M h0) r)) 1 0 (h0 + 0 + s) (M.1 1 0 (h0 + 0 + s) - if rbest (rmd M h0) r = 0 then 0 else 1)) 1 0 (h0 + 16 + r) (rc1 (rmd M h0) r - rtp (rmd M h0) r)) (kqv Qv) := by
            intro d hd
            refine bX6_rides_217 _ _ _ _ _ _ _ _ Qv ?_
            simp (disch := omega) only [qa_0, qa_1, qa_2, qa_3, qa_4, qa_5, qa_6, qa_7, qa_8, qa_9, qa_10, qa_12, qa_16, qa_20, qa_21, qa_22, qa_23, qa_24, qa_26, qa_27, qa_30, qa_31, qa_32, qa_35, qa_36, qa_40, qa_44, qa_48, qa_49, qa_70, qa_81, qa_90, qa_96, qa_168, qa_217, qa_434, qa_442, qa_446, qa_450, qa_454, qa_455, qa_456, qa_457, qa_458, qa_466, qa_474, qa_478, qb_0, qb_1, qb_2, qb_3, qb_4, qb_5, qb_6, qb_7, qb_8, qb_9, qb_10, qb_12, qb_16, qb_20, qb_21, qb_22, qb_23, qb_24, qb_26, qb_27, qb_30, qb_31, qb_32, qb_35, qb_36, qb_40, qb_44, qb_48, qb_49, qb_70, qb_81, qb_90, qb_96, qb_168, qb_217, qb_434, qb_442, qb_446, qb_450, qb_454, qb_455, qb_456, qb_457, qb_458, qb_466, qb_474, qb_478, qm_0, qm_1, qm_2, qm_3, qm_4, qm_5, qm_6, qm_7, qm_8, qm_9, qm_10, qm_12, qm_16, qm_20, qm_21, qm_22, qm_23, qm_24, qm_26, qm_27, qm_30, qm_31, qm_32, qm_35, qm_36, qm_40, qm_44, qm_48, qm_49, qm_70, qm_81, qm_90, qm_96, qm_168, qm_217, qm_434, qm_442, qm_446, qm_450, qm_454, qm_455, qm_456, qm_457, qm_458, qm_466, qm_474, qm_478, ql_0, ql_1, ql_2, ql_3, ql_4, ql_5, ql_6, ql_7, ql_8, ql_9, ql_10, ql_12, ql_16, ql_20, ql_21, ql_22, ql_23, ql_24, ql_26, ql_27, ql_30, ql_31, ql_32, ql_35, ql_36, ql_40, ql_44, ql_48, ql_49, ql_70, ql_81, ql_90, ql_96, ql_168, ql_217, ql_434, ql_442, ql_446, ql_450, ql_454, ql_455, ql_456, ql_457, ql_458, ql_466, ql_474, ql_478, nI_add, q_cl, q_in, true_and]
            refine m_takes _ _ _ ?_
            rintro M4 rfl M5 rfl
            simp (disch := omega) only [ku_ne, e5', qa_0, qa_1, qa_2, qa_3, qa_4, qa_5, qa_6, qa_7, qa_8, qa_9, qa_10, qa_12, qa_16, qa_20, qa_21, qa_22, qa_23, qa_24, qa_26, qa_27, qa_30, qa_31, qa_32, qa_35, qa_36, qa_40, qa_44, qa_48, qa_49, qa_70, qa_81, qa_90, qa_96, qa_168, qa_217, qa_434, qa_442, qa_446, qa_450, qa_454, qa_455, qa_456, qa_457, qa_458, qa_466, qa_474, qa_478, qb_0, qb_1, qb_2, qb_3, qb_4, qb_5, qb_6, qb_7, qb_8, qb_9, qb_10, qb_12, qb_16, qb_20, qb_21, qb_22, qb_23, qb_24, qb_26, qb_27, qb_30, qb_31, qb_32, qb_35, qb_36, qb_40, qb_44, qb_48, qb_49, qb_70, qb_81, qb_90, qb_96, qb_168, qb_217, qb_434, qb_442, qb_446, qb_450, qb_454, qb_455, qb_456, qb_457, qb_458, qb_466, qb_474, qb_478, qm_0, qm_1, qm_2, qm_3, qm_4, qm_5, qm_6, qm_7, qm_8, qm_9, qm_10, qm_12, qm_16, qm_20, qm_21, qm_22, qm_23, qm_24, qm_26, qm_27, qm_30, qm_31, qm_32, qm_35, qm_36, qm_40, qm_44, qm_48, qm_49, qm_70, qm_81, qm_90, qm_96, qm_168, qm_217, qm_434, qm_442, qm_446, qm_450, qm_454, qm_455, qm_456, qm_457, qm_458, qm_466, qm_474, qm_478, ql_0, ql_1, ql_2, ql_3, ql_4, ql_5, ql_6, ql_7, ql_8, ql_9, ql_10, ql_12, ql_16, ql_20, ql_21, ql_22, ql_23, ql_24, ql_26, ql_27, ql_30, ql_31, ql_32, ql_35, ql_36, ql_40, ql_44, ql_48, ql_49, ql_70, ql_81, ql_90, ql_96, ql_168, ql_217, ql_434, ql_442, ql_446, ql_450, ql_454, ql_455, ql_456, ql_457, ql_458, ql_466, ql_474, ql_478, nI_add, q_cl, q_in, true_and]
            refine h _ (fun c i j hc => by simp (disch := omega) only [ku_ne]) rfl ?_
            refine (rmd_u (f := 5) (j := r) (by simp [wof]; omega) (by decide) (by first | (show _ < 4; omega) | (show _ < 8; omega) | exact fln_s (by assumption) (by omega) (by omega) (by omega) | exact fln_r (by assumption) (by omega) (by omega))).trans ?_
            refine (req.up (rmd_u (f := 6) (j := r) (by simp [wof]; omega) (by decide) (by first | (show _ < 4; omega) | (show _ < 8; omega) | exact fln_s (by assumption) (by omega) (by omega) (by omega) | exact fln_r (by assumption) (by omega) (by omega))) _ _ _).trans ?_
            refine (req.up (req.up (rmd_u (f := 7) (j := r) (by simp [wof]; omega) (by decide) (by first | (show _ < 4; omega) | (show _ < 8; omega) | exact fln_s (by assumption) (by omega) (by omega) (by omega) | exact fln_r (by assumption) (by omega) (by omega))) _ _ _) _ _ _).trans ?_
            refine (req.up (req.up (req.up (rmd_u (f := 3) (j := s) (by simp [wof]) (by decide) (by first | (show _ < 4; omega) | (show _ < 8; omega) | exact fln_s (by assumption) (by omega) (by omega) (by omega) | exact fln_r (by assumption) (by omega) (by omega))) _ _ _) _ _ _) _ _ _).trans ?_
            refine (req.up (req.up (req.up (req.up (rmd_u (f := 7) (j := r) (by simp [wof]; omega) (by decide) (by first | (show _ < 4; omega) | (show _ < 8; omega) | exact fln_s (by assumption) (by omega) (by omega) (by omega) | exact fln_r (by assumption) (by omega) (by omega))) _ _ _) _ _ _) _ _ _) _ _ _).trans ?_
            rw [rup_comm (f := 7) (f' := 3) (by omega), rup_rup]
            unfold rride
            rw [hcl, Int32.add_zero, hd]
            have e1 : rmd M h0 5 r + 1 = nI (s + 1) := by rw [e5, qa_1]
            rw [e1]
            unfold rtk
            rw [hcl]
            exact req.refl _
          refine ⟨fun c => k217 10 ?_, fun c => k217 0 ?_⟩
          · unfold rwt; rw [et, if_pos (hp.mp c)]
          · unfold rwt; rw [et, if_neg (fun z => c (hp.mpr z))]
        refine ⟨fun c => ?_, fun c => ?_⟩
        · refine bX6_rides_158 _ _ _ _ _ _ Qv ?_
          simp (disch := omega) only [qa_0, qa_1, qa_2, qa_3, qa_4, qa_5, qa_6, qa_7, qa_8, qa_9, qa_10, qa_12, qa_16, qa_20, qa_21, qa_22, qa_23, qa_24, qa_26, qa_27, qa_30, qa_31, qa_32, qa_35, qa_36, qa_40, qa_44, qa_48, qa_49, qa_70, qa_81, qa_90, qa_96, qa_168, qa_217, qa_434, qa_442, qa_446, qa_450, qa_454, qa_455, qa_456, qa_457, qa_458, qa_466, qa_474, qa_478, qb_0, qb_1, qb_2, qb_3, qb_4, qb_5, qb_6, qb_7, qb_8, qb_9, qb_10, qb_12, qb_16, qb_20, qb_21, qb_22, qb_23, qb_24, qb_26, qb_27, qb_30, qb_31, qb_32, qb_35, qb_36, qb_40, qb_44, qb_48, qb_49, qb_70, qb_81, qb_90, qb_96, qb_168, qb_217, qb_434, qb_442, qb_446, qb_450, qb_454, qb_455, qb_456, qb_457, qb_458, qb_466, qb_474, qb_478, qm_0, qm_1, qm_2, qm_3, qm_4, qm_5, qm_6, qm_7, qm_8, qm_9, qm_10, qm_12, qm_16, qm_20, qm_21, qm_22, qm_23, qm_24, qm_26, qm_27, qm_30, qm_31, qm_32, qm_35, qm_36, qm_40, qm_44, qm_48, qm_49, qm_70, qm_81, qm_90, qm_96, qm_168, qm_217, qm_434, qm_442, qm_446, qm_450, qm_454, qm_455, qm_456, qm_457, qm_458, qm_466, qm_474, qm_478, ql_0, ql_1, ql_2, ql_3, ql_4, ql_5, ql_6, ql_7, ql_8, ql_9, ql_10, ql_12, ql_16, ql_20, ql_21, ql_22, ql_23, ql_24, ql_26, ql_27, ql_30, ql_31, ql_32, ql_35, ql_36, ql_40, ql_44, ql_48, ql_49, ql_70, ql_81, ql_90, ql_96, ql_168, ql_217, ql_434, ql_442, ql_446, ql_450, ql_454, ql_455, ql_456, ql_457, ql_458, ql_466, ql_474, ql_478, nI_add, q_cl, q_in, true_and]
          rw [ku_ne (d := h0 + 16 + r) (by omega), ku_eq]
          refine ⟨fun _ => ?_, fun z => absurd trivial z⟩
          have := k192 0 ⟨fun _ => c, fun _ => rfl⟩
          rw [show rtp (rmd M h0) r = 0 by unfold rtp; rw [et, if_pos c]] at this
          exact this
        · refine bX6_rides_158 _ _ _ _ _ _ Qv ?_
          simp (disch := omega) only [qa_0, qa_1, qa_2, qa_3, qa_4, qa_5, qa_6, qa_7, qa_8, qa_9, qa_10, qa_12, qa_16, qa_20, qa_21, qa_22, qa_23, qa_24, qa_26, qa_27, qa_30, qa_31, qa_32, qa_35, qa_36, qa_40, qa_44, qa_48, qa_49, qa_70, qa_81, qa_90, qa_96, qa_168, qa_217, qa_434, qa_442, qa_446, qa_450, qa_454, qa_455, qa_456, qa_457, qa_458, qa_466, qa_474, qa_478, qb_0, qb_1, qb_2, qb_3, qb_4, qb_5, qb_6, qb_7, qb_8, qb_9, qb_10, qb_12, qb_16, qb_20, qb_21, qb_22, qb_23, qb_24, qb_26, qb_27, qb_30, qb_31, qb_32, qb_35, qb_36, qb_40, qb_44, qb_48, qb_49, qb_70, qb_81, qb_90, qb_96, qb_168, qb_217, qb_434, qb_442, qb_446, qb_450, qb_454, qb_455, qb_456, qb_457, qb_458, qb_466, qb_474, qb_478, qm_0, qm_1, qm_2, qm_3, qm_4, qm_5, qm_6, qm_7, qm_8, qm_9, qm_10, qm_12, qm_16, qm_20, qm_21, qm_22, qm_23, qm_24, qm_26, qm_27, qm_30, qm_31, qm_32, qm_35, qm_36, qm_40, qm_44, qm_48, qm_49, qm_70, qm_81, qm_90, qm_96, qm_168, qm_217, qm_434, qm_442, qm_446, qm_450, qm_454, qm_455, qm_456, qm_457, qm_458, qm_466, qm_474, qm_478, ql_0, ql_1, ql_2, ql_3, ql_4, ql_5, ql_6, ql_7, ql_8, ql_9, ql_10, ql_12, ql_16, ql_20, ql_21, ql_22, ql_23, ql_24, ql_26, ql_27, ql_30, ql_31, ql_32, ql_35, ql_36, ql_40, ql_44, ql_48, ql_49, ql_70, ql_81, ql_90, ql_96, ql_168, ql_217, ql_434, ql_442, ql_446, ql_450, ql_454, ql_455, ql_456, ql_457, ql_458, ql_466, ql_474, ql_478, nI_add, q_cl, q_in, true_and]
          rw [ku_ne (d := h0 + 16 + r) (by omega), ku_eq, ku_ne (d := h0 + 32 + s) (by omega), ku_ne (d := h0 + 32 + s) (by omega)]
          refine ⟨fun z => absurd z (by decide), fun _ => ?_⟩
          have := k192 1 ⟨fun z => absurd z (by decide), fun z => absurd z c⟩
          rw [show rtp (rmd M h0) r = M.1 1 0 (h0 + 32 + s) by unfold rtp; rw [et, if_neg c]] at this
          exact this
      refine ⟨fun c => ?_, fun c => ?_⟩
      · rw [if_pos c] at k126
        exact k126
      · rw [if_neg c] at k126
        exact k126
    refine bX6_rides_71 _ _ _ _ M Qv ?_
    simp (disch := omega) only [qa_0, qa_1, qa_2, qa_3, qa_4, qa_5, qa_6, qa_7, qa_8, qa_9, qa_10, qa_12, qa_16, qa_20, qa_21, qa_22, qa_23, qa_24, qa_26, qa_27, qa_30, qa_31, qa_32, qa_35, qa_36, qa_40, qa_44, qa_48, qa_49, qa_70, qa_81, qa_90, qa_96, qa_168, qa_217, qa_434, qa_442, qa_446, qa_450, qa_454, qa_455, qa_456, qa_457, qa_458, qa_466, qa_474, qa_478, qb_0, qb_1, qb_2, qb_3, qb_4, qb_5, qb_6, qb_7, qb_8, qb_9, qb_10, qb_12, qb_16, qb_20, qb_21, qb_22, qb_23, qb_24, qb_26, qb_27, qb_30, qb_31, qb_32, qb_35, qb_36, qb_40, qb_44, qb_48, qb_49, qb_70, qb_81, qb_90, qb_96, qb_168, qb_217, qb_434, qb_442, qb_446, qb_450, qb_454, qb_455, qb_456, qb_457, qb_458, qb_466, qb_474, qb_478, qm_0, qm_1, qm_2, qm_3, qm_4, qm_5, qm_6, qm_7, qm_8, qm_9, qm_10, qm_12, qm_16, qm_20, qm_21, qm_22, qm_23, qm_24, qm_26, qm_27, qm_30, qm_31, qm_32, qm_35, qm_36, qm_40, qm_44, qm_48, qm_49, qm_70, qm_81, qm_90, qm_96, qm_168, qm_217, qm_434, qm_442, qm_446, qm_450, qm_454, qm_455, qm_456, qm_457, qm_458, qm_466, qm_474, qm_478, ql_0, ql_1, ql_2, ql_3, ql_4, ql_5, ql_6, ql_7, ql_8, ql_9, ql_10, ql_12, ql_16, ql_20, ql_21, ql_22, ql_23, ql_24, ql_26, ql_27, ql_30, ql_31, ql_32, ql_35, ql_36, ql_40, ql_44, ql_48, ql_49, ql_70, ql_81, ql_90, ql_96, ql_168, ql_217, ql_434, ql_442, ql_446, ql_450, ql_454, ql_455, ql_456, ql_457, ql_458, ql_466, ql_474, ql_478, nI_add, q_cl, q_in, true_and]
    refine ⟨fun c => ?_, fun c => ?_⟩
    · rw [if_pos c] at k103
      exact k103
    · rw [if_neg c] at k103
      exact k103
  refine kct (by decide) (Nat.le_of_ble_eq_true rfl) (bX6_rides_0 (nI h0) (nI r) M Qv ?_)
  simp (disch := omega) only [qa_0, qa_1, qa_2, qa_3, qa_4, qa_5, qa_6, qa_7, qa_8, qa_9, qa_10, qa_12, qa_16, qa_20, qa_21, qa_22, qa_23, qa_24, qa_26, qa_27, qa_30, qa_31, qa_32, qa_35, qa_36, qa_40, qa_44, qa_48, qa_49, qa_70, qa_81, qa_90, qa_96, qa_168, qa_217, qa_434, qa_442, qa_446, qa_450, qa_454, qa_455, qa_456, qa_457, qa_458, qa_466, qa_474, qa_478, qb_0, qb_1, qb_2, qb_3, qb_4, qb_5, qb_6, qb_7, qb_8, qb_9, qb_10, qb_12, qb_16, qb_20, qb_21, qb_22, qb_23, qb_24, qb_26, qb_27, qb_30, qb_31, qb_32, qb_35, qb_36, qb_40, qb_44, qb_48, qb_49, qb_70, qb_81, qb_90, qb_96, qb_168, qb_217, qb_434, qb_442, qb_446, qb_450, qb_454, qb_455, qb_456, qb_457, qb_458, qb_466, qb_474, qb_478, qm_0, qm_1, qm_2, qm_3, qm_4, qm_5, qm_6, qm_7, qm_8, qm_9, qm_10, qm_12, qm_16, qm_20, qm_21, qm_22, qm_23, qm_24, qm_26, qm_27, qm_30, qm_31, qm_32, qm_35, qm_36, qm_40, qm_44, qm_48, qm_49, qm_70, qm_81, qm_90, qm_96, qm_168, qm_217, qm_434, qm_442, qm_446, qm_450, qm_454, qm_455, qm_456, qm_457, qm_458, qm_466, qm_474, qm_478, ql_0, ql_1, ql_2, ql_3, ql_4, ql_5, ql_6, ql_7, ql_8, ql_9, ql_10, ql_12, ql_16, ql_20, ql_21, ql_22, ql_23, ql_24, ql_26, ql_27, ql_30, ql_31, ql_32, ql_35, ql_36, ql_40, ql_44, ql_48, ql_49, ql_70, ql_81, ql_90, ql_96, ql_168, ql_217, ql_434, ql_442, ql_446, ql_450, ql_454, ql_455, ql_456, ql_457, ql_458, ql_466, ql_474, ql_478, nI_add, q_cl, q_in, true_and]
  rintro z1 rfl
  rw [e5']
  have eb : rbest (rmd M h0) r = if hs (M.1 1 0 (h0 + 44 + r)) (nI s) = 0 then 0 else if M.1 1 0 (h0 + 0 + s) ≤ 0 then 0 else if M.1 1 0 (h0 + 16 + r) < M.1 1 0 (h0 + 23) then 0 else 1 := by
    unfold rbest
    rw [hcl, e5]
    rfl
  refine m_has _ _ ⟨fun c => ?_, fun c => ?_⟩
  · rw [if_pos c] at eb
    rw [eb] at k71
    exact bX6_rides_70 _ _ _ M Qv k71
  · rw [if_neg c] at eb
    simp (disch := omega) only [qa_0, qa_1, qa_2, qa_3, qa_4, qa_5, qa_6, qa_7, qa_8, qa_9, qa_10, qa_12, qa_16, qa_20, qa_21, qa_22, qa_23, qa_24, qa_26, qa_27, qa_30, qa_31, qa_32, qa_35, qa_36, qa_40, qa_44, qa_48, qa_49, qa_70, qa_81, qa_90, qa_96, qa_168, qa_217, qa_434, qa_442, qa_446, qa_450, qa_454, qa_455, qa_456, qa_457, qa_458, qa_466, qa_474, qa_478, qb_0, qb_1, qb_2, qb_3, qb_4, qb_5, qb_6, qb_7, qb_8, qb_9, qb_10, qb_12, qb_16, qb_20, qb_21, qb_22, qb_23, qb_24, qb_26, qb_27, qb_30, qb_31, qb_32, qb_35, qb_36, qb_40, qb_44, qb_48, qb_49, qb_70, qb_81, qb_90, qb_96, qb_168, qb_217, qb_434, qb_442, qb_446, qb_450, qb_454, qb_455, qb_456, qb_457, qb_458, qb_466, qb_474, qb_478, qm_0, qm_1, qm_2, qm_3, qm_4, qm_5, qm_6, qm_7, qm_8, qm_9, qm_10, qm_12, qm_16, qm_20, qm_21, qm_22, qm_23, qm_24, qm_26, qm_27, qm_30, qm_31, qm_32, qm_35, qm_36, qm_40, qm_44, qm_48, qm_49, qm_70, qm_81, qm_90, qm_96, qm_168, qm_217, qm_434, qm_442, qm_446, qm_450, qm_454, qm_455, qm_456, qm_457, qm_458, qm_466, qm_474, qm_478, ql_0, ql_1, ql_2, ql_3, ql_4, ql_5, ql_6, ql_7, ql_8, ql_9, ql_10, ql_12, ql_16, ql_20, ql_21, ql_22, ql_23, ql_24, ql_26, ql_27, ql_30, ql_31, ql_32, ql_35, ql_36, ql_40, ql_44, ql_48, ql_49, ql_70, ql_81, ql_90, ql_96, ql_168, ql_217, ql_434, ql_442, ql_446, ql_450, ql_454, ql_455, ql_456, ql_457, ql_458, ql_466, ql_474, ql_478, nI_add, q_cl, q_in, true_and]
    refine ⟨fun c2 => ?_, fun c2 => ⟨fun c3 => ?_, fun c3 => ?_⟩⟩
    · rw [if_pos c2] at eb
      rw [eb] at k71
      exact bX6_rides_70 _ _ _ M Qv k71
    · rw [if_neg c2, if_pos c3] at eb
      rw [eb] at k71
      exact bX6_rides_70 _ _ _ M Qv k71
    · rw [if_neg c2, if_neg c3] at eb
      rw [eb] at k71
      exact k71
end KRI
