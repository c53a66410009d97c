/-! ===== numbers ===== -/
theorem qa_0 (a : Nat) : nI a + 0 = nI (a + 0) := nI_add a 0
theorem qb_0 (a : Nat) : 0 + nI a = nI (0 + a) := nI_add 0 a
theorem qm_0 (a : Nat) : 0 * nI a = nI (0 * a) := pk_mul 0 a
theorem ql_0 : (0 : Int32).toNatClampNeg = 0 := by decide
theorem qa_1 (a : Nat) : nI a + 1 = nI (a + 1) := nI_add a 1
theorem qb_1 (a : Nat) : 1 + nI a = nI (1 + a) := nI_add 1 a
theorem qm_1 (a : Nat) : 1 * nI a = nI (1 * a) := pk_mul 1 a
theorem ql_1 : (1 : Int32).toNatClampNeg = 1 := by decide
theorem qa_2 (a : Nat) : nI a + 2 = nI (a + 2) := nI_add a 2
theorem qb_2 (a : Nat) : 2 + nI a = nI (2 + a) := nI_add 2 a
theorem qm_2 (a : Nat) : 2 * nI a = nI (2 * a) := pk_mul 2 a
theorem ql_2 : (2 : Int32).toNatClampNeg = 2 := by decide
theorem qa_3 (a : Nat) : nI a + 3 = nI (a + 3) := nI_add a 3
theorem qb_3 (a : Nat) : 3 + nI a = nI (3 + a) := nI_add 3 a
theorem qm_3 (a : Nat) : 3 * nI a = nI (3 * a) := pk_mul 3 a
theorem ql_3 : (3 : Int32).toNatClampNeg = 3 := by decide
theorem qa_4 (a : Nat) : nI a + 4 = nI (a + 4) := nI_add a 4
theorem qb_4 (a : Nat) : 4 + nI a = nI (4 + a) := nI_add 4 a
theorem qm_4 (a : Nat) : 4 * nI a = nI (4 * a) := pk_mul 4 a
theorem ql_4 : (4 : Int32).toNatClampNeg = 4 := by decide
theorem qa_5 (a : Nat) : nI a + 5 = nI (a + 5) := nI_add a 5
theorem qb_5 (a : Nat) : 5 + nI a = nI (5 + a) := nI_add 5 a
theorem qm_5 (a : Nat) : 5 * nI a = nI (5 * a) := pk_mul 5 a
theorem ql_5 : (5 : Int32).toNatClampNeg = 5 := by decide
theorem qa_6 (a : Nat) : nI a + 6 = nI (a + 6) := nI_add a 6
theorem qb_6 (a : Nat) : 6 + nI a = nI (6 + a) := nI_add 6 a
theorem qm_6 (a : Nat) : 6 * nI a = nI (6 * a) := pk_mul 6 a
theorem ql_6 : (6 : Int32).toNatClampNeg = 6 := by decide
theorem qa_7 (a : Nat) : nI a + 7 = nI (a + 7) := nI_add a 7
theorem qb_7 (a : Nat) : 7 + nI a = nI (7 + a) := nI_add 7 a
theorem qm_7 (a : Nat) : 7 * nI a = nI (7 * a) := pk_mul 7 a
theorem ql_7 : (7 : Int32).toNatClampNeg = 7 := by decide
theorem qa_8 (a : Nat) : nI a + 8 = nI (a + 8) := nI_add a 8
theorem qb_8 (a : Nat) : 8 + nI a = nI (8 + a) := nI_add 8 a
theorem qm_8 (a : Nat) : 8 * nI a = nI (8 * a) := pk_mul 8 a
theorem ql_8 : (8 : Int32).toNatClampNeg = 8 := by decide
theorem qa_9 (a : Nat) : nI a + 9 = nI (a + 9) := nI_add a 9
theorem qb_9 (a : Nat) : 9 + nI a = nI (9 + a) := nI_add 9 a
theorem qm_9 (a : Nat) : 9 * nI a = nI (9 * a) := pk_mul 9 a
theorem ql_9 : (9 : Int32).toNatClampNeg = 9 := by decide
theorem qa_10 (a : Nat) : nI a + 10 = nI (a + 10) := nI_add a 10
theorem qb_10 (a : Nat) : 10 + nI a = nI (10 + a) := nI_add 10 a
theorem qm_10 (a : Nat) : 10 * nI a = nI (10 * a) := pk_mul 10 a
theorem ql_10 : (10 : Int32).toNatClampNeg = 10 := by decide
theorem qa_12 (a : Nat) : nI a + 12 = nI (a + 12) := nI_add a 12
theorem qb_12 (a : Nat) : 12 + nI a = nI (12 + a) := nI_add 12 a
theorem qm_12 (a : Nat) : 12 * nI a = nI (12 * a) := pk_mul 12 a
theorem ql_12 : (12 : Int32).toNatClampNeg = 12 := by decide
theorem qa_16 (a : Nat) : nI a + 16 = nI (a + 16) := nI_add a 16
theorem qb_16 (a : Nat) : 16 + nI a = nI (16 + a) := nI_add 16 a
theorem qm_16 (a : Nat) : 16 * nI a = nI (16 * a) := pk_mul 16 a
theorem ql_16 : (16 : Int32).toNatClampNeg = 16 := by decide
theorem qa_20 (a : Nat) : nI a + 20 = nI (a + 20) := nI_add a 20
theorem qb_20 (a : Nat) : 20 + nI a = nI (20 + a) := nI_add 20 a
theorem qm_20 (a : Nat) : 20 * nI a = nI (20 * a) := pk_mul 20 a
theorem ql_20 : (20 : Int32).toNatClampNeg = 20 := by decide
theorem qa_21 (a : Nat) : nI a + 21 = nI (a + 21) := nI_add a 21
theorem qb_21 (a : Nat) : 21 + nI a = nI (21 + a) := nI_add 21 a
theorem qm_21 (a : Nat) : 21 * nI a = nI (21 * a) := pk_mul 21 a
theorem ql_21 : (21 : Int32).toNatClampNeg = 21 := by decide
theorem qa_22 (a : Nat) : nI a + 22 = nI (a + 22) := nI_add a 22
theorem qb_22 (a : Nat) : 22 + nI a = nI (22 + a) := nI_add 22 a
theorem qm_22 (a : Nat) : 22 * nI a = nI (22 * a) := pk_mul 22 a
theorem ql_22 : (22 : Int32).toNatClampNeg = 22 := by decide
theorem qa_23 (a : Nat) : nI a + 23 = nI (a + 23) := nI_add a 23
theorem qb_23 (a : Nat) : 23 + nI a = nI (23 + a) := nI_add 23 a
theorem qm_23 (a : Nat) : 23 * nI a = nI (23 * a) := pk_mul 23 a
theorem ql_23 : (23 : Int32).toNatClampNeg = 23 := by decide
theorem qa_24 (a : Nat) : nI a + 24 = nI (a + 24) := nI_add a 24
theorem qb_24 (a : Nat) : 24 + nI a = nI (24 + a) := nI_add 24 a
theorem qm_24 (a : Nat) : 24 * nI a = nI (24 * a) := pk_mul 24 a
theorem ql_24 : (24 : Int32).toNatClampNeg = 24 := by decide
theorem qa_26 (a : Nat) : nI a + 26 = nI (a + 26) := nI_add a 26
theorem qb_26 (a : Nat) : 26 + nI a = nI (26 + a) := nI_add 26 a
theorem qm_26 (a : Nat) : 26 * nI a = nI (26 * a) := pk_mul 26 a
theorem ql_26 : (26 : Int32).toNatClampNeg = 26 := by decide
theorem qa_27 (a : Nat) : nI a + 27 = nI (a + 27) := nI_add a 27
theorem qb_27 (a : Nat) : 27 + nI a = nI (27 + a) := nI_add 27 a
theorem qm_27 (a : Nat) : 27 * nI a = nI (27 * a) := pk_mul 27 a
theorem ql_27 : (27 : Int32).toNatClampNeg = 27 := by decide
theorem qa_30 (a : Nat) : nI a + 30 = nI (a + 30) := nI_add a 30
theorem qb_30 (a : Nat) : 30 + nI a = nI (30 + a) := nI_add 30 a
theorem qm_30 (a : Nat) : 30 * nI a = nI (30 * a) := pk_mul 30 a
theorem ql_30 : (30 : Int32).toNatClampNeg = 30 := by decide
theorem qa_31 (a : Nat) : nI a + 31 = nI (a + 31) := nI_add a 31
theorem qb_31 (a : Nat) : 31 + nI a = nI (31 + a) := nI_add 31 a
theorem qm_31 (a : Nat) : 31 * nI a = nI (31 * a) := pk_mul 31 a
theorem ql_31 : (31 : Int32).toNatClampNeg = 31 := by decide
theorem qa_32 (a : Nat) : nI a + 32 = nI (a + 32) := nI_add a 32
theorem qb_32 (a : Nat) : 32 + nI a = nI (32 + a) := nI_add 32 a
theorem qm_32 (a : Nat) : 32 * nI a = nI (32 * a) := pk_mul 32 a
theorem ql_32 : (32 : Int32).toNatClampNeg = 32 := by decide
theorem qa_35 (a : Nat) : nI a + 35 = nI (a + 35) := nI_add a 35
theorem qb_35 (a : Nat) : 35 + nI a = nI (35 + a) := nI_add 35 a
theorem qm_35 (a : Nat) : 35 * nI a = nI (35 * a) := pk_mul 35 a
theorem ql_35 : (35 : Int32).toNatClampNeg = 35 := by decide
theorem qa_36 (a : Nat) : nI a + 36 = nI (a + 36) := nI_add a 36
theorem qb_36 (a : Nat) : 36 + nI a = nI (36 + a) := nI_add 36 a
theorem qm_36 (a : Nat) : 36 * nI a = nI (36 * a) := pk_mul 36 a
theorem ql_36 : (36 : Int32).toNatClampNeg = 36 := by decide
theorem qa_40 (a : Nat) : nI a + 40 = nI (a + 40) := nI_add a 40
theorem qb_40 (a : Nat) : 40 + nI a = nI (40 + a) := nI_add 40 a
theorem qm_40 (a : Nat) : 40 * nI a = nI (40 * a) := pk_mul 40 a
theorem ql_40 : (40 : Int32).toNatClampNeg = 40 := by decide
theorem qa_44 (a : Nat) : nI a + 44 = nI (a + 44) := nI_add a 44
theorem qb_44 (a : Nat) : 44 + nI a = nI (44 + a) := nI_add 44 a
theorem qm_44 (a : Nat) : 44 * nI a = nI (44 * a) := pk_mul 44 a
theorem ql_44 : (44 : Int32).toNatClampNeg = 44 := by decide
theorem qa_48 (a : Nat) : nI a + 48 = nI (a + 48) := nI_add a 48
theorem qb_48 (a : Nat) : 48 + nI a = nI (48 + a) := nI_add 48 a
theorem qm_48 (a : Nat) : 48 * nI a = nI (48 * a) := pk_mul 48 a
theorem ql_48 : (48 : Int32).toNatClampNeg = 48 := by decide
theorem qa_49 (a : Nat) : nI a + 49 = nI (a + 49) := nI_add a 49
theorem qb_49 (a : Nat) : 49 + nI a = nI (49 + a) := nI_add 49 a
theorem qm_49 (a : Nat) : 49 * nI a = nI (49 * a) := pk_mul 49 a
theorem ql_49 : (49 : Int32).toNatClampNeg = 49 := by decide
theorem qa_70 (a : Nat) : nI a + 70 = nI (a + 70) := nI_add a 70
theorem qb_70 (a : Nat) : 70 + nI a = nI (70 + a) := nI_add 70 a
theorem qm_70 (a : Nat) : 70 * nI a = nI (70 * a) := pk_mul 70 a
theorem ql_70 : (70 : Int32).toNatClampNeg = 70 := by decide
theorem qa_81 (a : Nat) : nI a + 81 = nI (a + 81) := nI_add a 81
theorem qb_81 (a : Nat) : 81 + nI a = nI (81 + a) := nI_add 81 a
theorem qm_81 (a : Nat) : 81 * nI a = nI (81 * a) := pk_mul 81 a
theorem ql_81 : (81 : Int32).toNatClampNeg = 81 := by decide
theorem qa_90 (a : Nat) : nI a + 90 = nI (a + 90) := nI_add a 90
theorem qb_90 (a : Nat) : 90 + nI a = nI (90 + a) := nI_add 90 a
theorem qm_90 (a : Nat) : 90 * nI a = nI (90 * a) := pk_mul 90 a
theorem ql_90 : (90 : Int32).toNatClampNeg = 90 := by decide
theorem qa_96 (a : Nat) : nI a + 96 = nI (a + 96) := nI_add a 96
theorem qb_96 (a : Nat) : 96 + nI a = nI (96 + a) := nI_add 96 a
theorem qm_96 (a : Nat) : 96 * nI a = nI (96 * a) := pk_mul 96 a
theorem ql_96 : (96 : Int32).toNatClampNeg = 96 := by decide
theorem qa_168 (a : Nat) : nI a + 168 = nI (a + 168) := nI_add a 168
theorem qb_168 (a : Nat) : 168 + nI a = nI (168 + a) := nI_add 168 a
theorem qm_168 (a : Nat) : 168 * nI a = nI (168 * a) := pk_mul 168 a
theorem ql_168 : (168 : Int32).toNatClampNeg = 168 := by decide
theorem qa_217 (a : Nat) : nI a + 217 = nI (a + 217) := nI_add a 217
theorem qb_217 (a : Nat) : 217 + nI a = nI (217 + a) := nI_add 217 a
theorem qm_217 (a : Nat) : 217 * nI a = nI (217 * a) := pk_mul 217 a
theorem ql_217 : (217 : Int32).toNatClampNeg = 217 := by decide
theorem qa_434 (a : Nat) : nI a + 434 = nI (a + 434) := nI_add a 434
theorem qb_434 (a : Nat) : 434 + nI a = nI (434 + a) := nI_add 434 a
theorem qm_434 (a : Nat) : 434 * nI a = nI (434 * a) := pk_mul 434 a
theorem ql_434 : (434 : Int32).toNatClampNeg = 434 := by decide
theorem qa_442 (a : Nat) : nI a + 442 = nI (a + 442) := nI_add a 442
theorem qb_442 (a : Nat) : 442 + nI a = nI (442 + a) := nI_add 442 a
theorem qm_442 (a : Nat) : 442 * nI a = nI (442 * a) := pk_mul 442 a
theorem ql_442 : (442 : Int32).toNatClampNeg = 442 := by decide
theorem qa_446 (a : Nat) : nI a + 446 = nI (a + 446) := nI_add a 446
theorem qb_446 (a : Nat) : 446 + nI a = nI (446 + a) := nI_add 446 a
theorem qm_446 (a : Nat) : 446 * nI a = nI (446 * a) := pk_mul 446 a
theorem ql_446 : (446 : Int32).toNatClampNeg = 446 := by decide
theorem qa_450 (a : Nat) : nI a + 450 = nI (a + 450) := nI_add a 450
theorem qb_450 (a : Nat) : 450 + nI a = nI (450 + a) := nI_add 450 a
theorem qm_450 (a : Nat) : 450 * nI a = nI (450 * a) := pk_mul 450 a
theorem ql_450 : (450 : Int32).toNatClampNeg = 450 := by decide
theorem qa_454 (a : Nat) : nI a + 454 = nI (a + 454) := nI_add a 454
theorem qb_454 (a : Nat) : 454 + nI a = nI (454 + a) := nI_add 454 a
theorem qm_454 (a : Nat) : 454 * nI a = nI (454 * a) := pk_mul 454 a
theorem ql_454 : (454 : Int32).toNatClampNeg = 454 := by decide
theorem qa_455 (a : Nat) : nI a + 455 = nI (a + 455) := nI_add a 455
theorem qb_455 (a : Nat) : 455 + nI a = nI (455 + a) := nI_add 455 a
theorem qm_455 (a : Nat) : 455 * nI a = nI (455 * a) := pk_mul 455 a
theorem ql_455 : (455 : Int32).toNatClampNeg = 455 := by decide
theorem qa_456 (a : Nat) : nI a + 456 = nI (a + 456) := nI_add a 456
theorem qb_456 (a : Nat) : 456 + nI a = nI (456 + a) := nI_add 456 a
theorem qm_456 (a : Nat) : 456 * nI a = nI (456 * a) := pk_mul 456 a
theorem ql_456 : (456 : Int32).toNatClampNeg = 456 := by decide
theorem qa_457 (a : Nat) : nI a + 457 = nI (a + 457) := nI_add a 457
theorem qb_457 (a : Nat) : 457 + nI a = nI (457 + a) := nI_add 457 a
theorem qm_457 (a : Nat) : 457 * nI a = nI (457 * a) := pk_mul 457 a
theorem ql_457 : (457 : Int32).toNatClampNeg = 457 := by decide
theorem qa_458 (a : Nat) : nI a + 458 = nI (a + 458) := nI_add a 458
theorem qb_458 (a : Nat) : 458 + nI a = nI (458 + a) := nI_add 458 a
theorem qm_458 (a : Nat) : 458 * nI a = nI (458 * a) := pk_mul 458 a
theorem ql_458 : (458 : Int32).toNatClampNeg = 458 := by decide
theorem qa_466 (a : Nat) : nI a + 466 = nI (a + 466) := nI_add a 466
theorem qb_466 (a : Nat) : 466 + nI a = nI (466 + a) := nI_add 466 a
theorem qm_466 (a : Nat) : 466 * nI a = nI (466 * a) := pk_mul 466 a
theorem ql_466 : (466 : Int32).toNatClampNeg = 466 := by decide
theorem qa_474 (a : Nat) : nI a + 474 = nI (a + 474) := nI_add a 474
theorem qb_474 (a : Nat) : 474 + nI a = nI (474 + a) := nI_add 474 a
theorem qm_474 (a : Nat) : 474 * nI a = nI (474 * a) := pk_mul 474 a
theorem ql_474 : (474 : Int32).toNatClampNeg = 474 := by decide
theorem qa_478 (a : Nat) : nI a + 478 = nI (a + 478) := nI_add a 478
theorem qb_478 (a : Nat) : 478 + nI a = nI (478 + a) := nI_add 478 a
theorem qm_478 (a : Nat) : 478 * nI a = nI (478 * a) := pk_mul 478 a
theorem ql_478 : (478 : Int32).toNatClampNeg = 478 := by decide
theorem q_in {n N : Nat} (h : n < N) (hN : N < 2147483648) : vp_in (nI n) N ↔ True := ⟨fun _ => trivial, fun _ => vp_in_nI h hN⟩
theorem q_cl {n : Nat} (h : n < 2147483648) : (nI n).toNatClampNeg = n := nI_clamp h
theorem q_lt {a b : Nat} (ha : a < 2147483648) (hb : b < 2147483648) : nI a < nI b ↔ a < b := nI_ltI ha hb
theorem q_le {a b : Nat} (ha : a < 2147483648) (hb : b < 2147483648) : nI a ≤ nI b ↔ a ≤ b := nI_leI ha hb
theorem q_eq {a b : Nat} (ha : a < 2147483648) (hb : b < 2147483648) : nI a = nI b ↔ a = b := nI_eq ha hb
