section KR
variable {l : Launch} {g : kG} {X : kX} {pc : Nat} {ls : List (Nat × kV)} {st : List kV} {M : kM} {Q : Option kV → kM → Prop}
theorem kwp_iconst {n : Int} {v : Int32} (hd : decode X.2.1 pc = .ok (.iconst n, 1)) (hv : Int32.ofInt n = v) (k : kWP l g X (pc + 1) ls (.inl v :: st) M Q) : kWP l g X pc ls (st) M Q := fun p e s m args below meth c C H locs lA hP hS hl hf hg => lv_iconst C.1 C.2.1 hd hv (k p e s m args below meth c C H locs lA hP hS hl hf (kwf_cons trivial hg))
theorem kwp_bipush {n : Int} {v : Int32} (hd : decode X.2.1 pc = .ok (.bipush n, 2)) (hv : (Int8.ofInt n).toInt32 = v) (k : kWP l g X (pc + 2) ls (.inl v :: st) M Q) : kWP l g X pc ls (st) M Q := fun p e s m args below meth c C H locs lA hP hS hl hf hg => lv_bipush C.1 C.2.1 hd hv (k p e s m args below meth c C H locs lA hP hS hl hf (kwf_cons trivial hg))
theorem kwp_sipush {n : Int} {v : Int32} (hd : decode X.2.1 pc = .ok (.sipush n, 3)) (hv : (Int16.ofInt n).toInt32 = v) (k : kWP l g X (pc + 3) ls (.inl v :: st) M Q) : kWP l g X pc ls (st) M Q := fun p e s m args below meth c C H locs lA hP hS hl hf hg => lv_sipush C.1 C.2.1 hd hv (k p e s m args below meth c C H locs lA hP hS hl hf (kwf_cons trivial hg))
theorem kwp_lconst {n : Fin 2} {v : Int64} (hd : decode X.2.1 pc = .ok (.lconst n, 1)) (hv : Int64.ofNat (n : Nat) = v) (k : kWP l g X (pc + 1) ls (.inr (.inl v) :: st) M Q) : kWP l g X pc ls (st) M Q := fun p e s m args below meth c C H locs lA hP hS hl hf hg => lv_lconst C.1 C.2.1 hd hv (k p e s m args below meth c C H locs lA hP hS hl hf (kwf_cons trivial hg))
theorem kwp_ldc {idx : Nat} {v : Int32} (hc : Cond.constant X.1.cls idx v ∈ kw) (hd : decode X.2.1 pc = .ok (.ldc idx, 2)) (k : kWP l g X (pc + 2) ls (.inl v :: st) M Q) : kWP l g X pc ls (st) M Q := fun p e s m args below meth c C H locs lA hP hS hl hf hg => lv_ldc C.1 C.2.1 C.2.2.2.2.1 (C.2.2.2.2.2.1 _ hc) hd (k p e s m args below meth c C H locs lA hP hS hl hf (kwf_cons trivial hg))
theorem kwp_ldcw {idx : Nat} {v : Int32} (hc : Cond.constant X.1.cls idx v ∈ kw) (hd : decode X.2.1 pc = .ok (.ldc_w idx, 3)) (k : kWP l g X (pc + 3) ls (.inl v :: st) M Q) : kWP l g X pc ls (st) M Q := fun p e s m args below meth c C H locs lA hP hS hl hf hg => lv_ldcw C.1 C.2.1 C.2.2.2.2.1 (C.2.2.2.2.2.1 _ hc) hd (k p e s m args below meth c C H locs lA hP hS hl hf (kwf_cons trivial hg))
theorem kwp_ldc2 {idx : Nat} {v : Int64} (hc : Cond.constantLong X.1.cls idx v ∈ kw) (hd : decode X.2.1 pc = .ok (.ldc2_w idx, 3)) (k : kWP l g X (pc + 3) ls (.inr (.inl v) :: st) M Q) : kWP l g X pc ls (st) M Q := fun p e s m args below meth c C H locs lA hP hS hl hf hg => lv_ldc2 C.1 C.2.1 C.2.2.2.2.1 (C.2.2.2.2.2.1 _ hc) hd (k p e s m args below meth c C H locs lA hP hS hl hf (kwf_cons trivial hg))
theorem kat {g : kG} {lA : Array Slot} {n q i : Nat} {ls : List (Nat × kV)} {v : kV} (hl : lv_has lA n (ls.map (kloc g))) (hq : ls[q]? = some (i, v)) : lA[i]? = some (.val (kval g v)) := lv_at hl q (by rw [List.getElem?_map, hq]; rfl)
theorem kwp_iload_n {k4 : Fin 4} {i : Nat} {x : Int32} (q : Nat) (hq : ls[q]? = some (i, .inl x)) (hd : decode X.2.1 pc = .ok (.iload_n k4, 1)) (hi : (k4 : Nat) = i) (k : kWP l g X (pc + 1) ls (.inl x :: st) M Q) : kWP l g X pc ls (st) M Q := fun p e s m args below meth c C H locs lA hP hS hl hf hg => lv_iload_n C.1 C.2.1 hd hi (kat hl hq) (k p e s m args below meth c C H locs lA hP hS hl hf (kwf_cons trivial hg))
theorem kwp_iload {i : Nat} {x : Int32} (q : Nat) (hq : ls[q]? = some (i, .inl x)) (hd : decode X.2.1 pc = .ok (.iload i, 2)) (k : kWP l g X (pc + 2) ls (.inl x :: st) M Q) : kWP l g X pc ls (st) M Q := fun p e s m args below meth c C H locs lA hP hS hl hf hg => lv_iload C.1 C.2.1 hd (kat hl hq) (k p e s m args below meth c C H locs lA hP hS hl hf (kwf_cons trivial hg))
theorem kwp_lload_n {k4 : Fin 4} {i : Nat} {x : Int64} (q : Nat) (hq : ls[q]? = some (i, .inr (.inl x))) (hd : decode X.2.1 pc = .ok (.lload_n k4, 1)) (hi : (k4 : Nat) = i) (k : kWP l g X (pc + 1) ls (.inr (.inl x) :: st) M Q) : kWP l g X pc ls (st) M Q := fun p e s m args below meth c C H locs lA hP hS hl hf hg => lv_lload_n C.1 C.2.1 hd hi (kat hl hq) (k p e s m args below meth c C H locs lA hP hS hl hf (kwf_cons trivial hg))
theorem kwp_lload {i : Nat} {x : Int64} (q : Nat) (hq : ls[q]? = some (i, .inr (.inl x))) (hd : decode X.2.1 pc = .ok (.lload i, 2)) (k : kWP l g X (pc + 2) ls (.inr (.inl x) :: st) M Q) : kWP l g X pc ls (st) M Q := fun p e s m args below meth c C H locs lA hP hS hl hf hg => lv_lload C.1 C.2.1 hd (kat hl hq) (k p e s m args below meth c C H locs lA hP hS hl hf (kwf_cons trivial hg))
theorem kwp_aload_n {k4 : Fin 4} {i : Nat} {x : Nat × Nat} (q : Nat) (hq : ls[q]? = some (i, .inr (.inr x))) (hd : decode X.2.1 pc = .ok (.aload_n k4, 1)) (hi : (k4 : Nat) = i) (k : kWP l g X (pc + 1) ls (.inr (.inr x) :: st) M Q) : kWP l g X pc ls (st) M Q := fun p e s m args below meth c C H locs lA hP hS hl hf hg => lv_aload_n C.1 C.2.1 hd hi (kat hl hq) (k p e s m args below meth c C H locs lA hP hS hl hf (kwf_cons (hf _ (List.mem_of_getElem? hq)) hg))
theorem kwp_aload {i : Nat} {x : Nat × Nat} (q : Nat) (hq : ls[q]? = some (i, .inr (.inr x))) (hd : decode X.2.1 pc = .ok (.aload i, 2)) (k : kWP l g X (pc + 2) ls (.inr (.inr x) :: st) M Q) : kWP l g X pc ls (st) M Q := fun p e s m args below meth c C H locs lA hP hS hl hf hg => lv_aload C.1 C.2.1 hd (kat hl hq) (k p e s m args below meth c C H locs lA hP hS hl hf (kwf_cons (hf _ (List.mem_of_getElem? hq)) hg))
def kst (ls : List (Nat × kV)) (i : Nat) (v : kV) : List (Nat × kV) := (i, v) :: ls.filter (fun q => !(q.1 == i) && !(q.1 + 1 == i && kcat q.2 == 2))
theorem kst_map (g : kG) (ls : List (Nat × kV)) (i : Nat) (v : kV) : (i, kval g v) :: (ls.map (kloc g)).filter (fun q => !(q.1 == i) && !(q.1 + 1 == i && q.2.category == 2)) = (kst ls i v).map (kloc g) := by
  unfold kst
  rw [List.map_cons, List.filter_map]
  congr 1
  congr 2
  funext q
  simp only [Function.comp, kloc, kcat_eq]
theorem kst_wf {g : kG} {ls : List (Nat × kV)} {i : Nat} {v : kV} (hv : kwf g v) (h : ∀ q ∈ ls, kwf g q.2) : ∀ q ∈ kst ls i v, kwf g q.2 := by
  intro q hq
  rcases List.mem_cons.mp hq with rfl | hq
  · exact hv
  · exact h q (List.mem_filter.mp hq).1
theorem kwp_istore_n {k4 : Fin 4} {i : Nat} {x : Int32} {ls2 : List (Nat × kV)} (hd : decode X.2.1 pc = .ok (.istore_n k4, 1)) (hi : (k4 : Nat) = i) (hn : i < X.2.2.1) (hq : kst ls i (.inl x) = ls2) (k : kWP l g X (pc + 1) ls2 (st) M Q) : kWP l g X pc ls (.inl x :: st) M Q := fun p e s m args below meth c C H locs lA hP hS hl hf hg => lv_istore_n (lv' := ls2.map (kloc g)) C.1 C.2.1 hd hi hl hn (by rw [← hq]; exact kst_map g ls i (.inl x)) (fun lA2 hl2 => k p e s m args below meth c C H locs lA2 hP hS hl2 (by rw [← hq]; exact kst_wf trivial hf) (kwf_tl hg))
theorem kwp_istore {i : Nat} {x : Int32} {ls2 : List (Nat × kV)} (hd : decode X.2.1 pc = .ok (.istore i, 2)) (hn : i < X.2.2.1) (hq : kst ls i (.inl x) = ls2) (k : kWP l g X (pc + 2) ls2 (st) M Q) : kWP l g X pc ls (.inl x :: st) M Q := fun p e s m args below meth c C H locs lA hP hS hl hf hg => lv_istore (lv' := ls2.map (kloc g)) C.1 C.2.1 hd hl hn (by rw [← hq]; exact kst_map g ls i (.inl x)) (fun lA2 hl2 => k p e s m args below meth c C H locs lA2 hP hS hl2 (by rw [← hq]; exact kst_wf trivial hf) (kwf_tl hg))
theorem kwp_astore_n {k4 : Fin 4} {i : Nat} {x : Nat × Nat} {ls2 : List (Nat × kV)} (hd : decode X.2.1 pc = .ok (.astore_n k4, 1)) (hi : (k4 : Nat) = i) (hn : i < X.2.2.1) (hq : kst ls i (.inr (.inr x)) = ls2) (k : kWP l g X (pc + 1) ls2 (st) M Q) : kWP l g X pc ls (.inr (.inr x) :: st) M Q := fun p e s m args below meth c C H locs lA hP hS hl hf hg => lv_astore_n (lv' := ls2.map (kloc g)) C.1 C.2.1 hd hi hl hn (by rw [← hq]; exact kst_map g ls i (.inr (.inr x))) (fun lA2 hl2 => k p e s m args below meth c C H locs lA2 hP hS hl2 (by rw [← hq]; exact kst_wf (kwf_hd hg) hf) (kwf_tl hg))
theorem kwp_astore {i : Nat} {x : Nat × Nat} {ls2 : List (Nat × kV)} (hd : decode X.2.1 pc = .ok (.astore i, 2)) (hn : i < X.2.2.1) (hq : kst ls i (.inr (.inr x)) = ls2) (k : kWP l g X (pc + 2) ls2 (st) M Q) : kWP l g X pc ls (.inr (.inr x) :: st) M Q := fun p e s m args below meth c C H locs lA hP hS hl hf hg => lv_astore (lv' := ls2.map (kloc g)) C.1 C.2.1 hd hl hn (by rw [← hq]; exact kst_map g ls i (.inr (.inr x))) (fun lA2 hl2 => k p e s m args below meth c C H locs lA2 hP hS hl2 (by rw [← hq]; exact kst_wf (kwf_hd hg) hf) (kwf_tl hg))
theorem kwp_iinc {i : Nat} {n : Int} {x v : Int32} {ls2 : List (Nat × kV)} (q : Nat) (hq0 : ls[q]? = some (i, .inl x)) (hd : decode X.2.1 pc = .ok (.iinc i n, 3)) (hv : x + Int32.ofInt n = v) (hn : i < X.2.2.1) (hq : kst ls i (.inl v) = ls2) (k : kWP l g X (pc + 3) ls2 (st) M Q) : kWP l g X pc ls (st) M Q := fun p e s m args below meth c C H locs lA hP hS hl hf hg => lv_iinc (k := q) (lv' := ls2.map (kloc g)) C.1 C.2.1 hd hl (by rw [List.getElem?_map, hq0]; rfl) hv hn (by rw [← hq]; exact kst_map g ls i (.inl v)) (fun lA2 hl2 => k p e s m args below meth c C H locs lA2 hP hS hl2 (by rw [← hq]; exact kst_wf trivial hf) hg)
theorem kwp_sub {ls2 : List (Nat × kV)} (ks : List Nat) (h : ks.filterMap (fun k => ls[k]?) = ls2) (k : kWP l g X pc ls2 st M Q) : kWP l g X pc ls st M Q := by
  intro p e s m args below meth c C H locs lA hP hS hl hf hg
  have hm : ∀ q ∈ ls2, q ∈ ls := by
    intro q hq
    rw [← h] at hq
    obtain ⟨i, -, hi⟩ := List.mem_filterMap.mp hq
    exact List.mem_of_getElem? hi
  refine k p e s m args below meth c C H locs lA hP hS ⟨hl.1, hl.2.1, fun q hq => ?_⟩ (fun q hq => hf q (hm q hq)) hg
  obtain ⟨z, hz, rfl⟩ := List.mem_map.mp hq
  exact hl.2.2 _ (List.mem_map.mpr ⟨z, hm z hz, rfl⟩)
theorem kwp_iadd {x y : Int32} (hd : decode X.2.1 pc = .ok (.iadd, 1)) (k : kWP l g X (pc + 1) ls (.inl (x + y) :: st) M Q) : kWP l g X pc ls (.inl y :: .inl x :: st) M Q := fun p e s m args below meth c C H locs lA hP hS hl hf hg => lv_iadd C.1 C.2.1 hd (k p e s m args below meth c C H locs lA hP hS hl hf (kwf_cons trivial (kwf_tl (kwf_tl hg))))
theorem kwp_isub {x y : Int32} (hd : decode X.2.1 pc = .ok (.isub, 1)) (k : kWP l g X (pc + 1) ls (.inl (x - y) :: st) M Q) : kWP l g X pc ls (.inl y :: .inl x :: st) M Q := fun p e s m args below meth c C H locs lA hP hS hl hf hg => lv_isub C.1 C.2.1 hd (k p e s m args below meth c C H locs lA hP hS hl hf (kwf_cons trivial (kwf_tl (kwf_tl hg))))
theorem kwp_imul {x y : Int32} (hd : decode X.2.1 pc = .ok (.imul, 1)) (k : kWP l g X (pc + 1) ls (.inl (x * y) :: st) M Q) : kWP l g X pc ls (.inl y :: .inl x :: st) M Q := fun p e s m args below meth c C H locs lA hP hS hl hf hg => lv_imul C.1 C.2.1 hd (k p e s m args below meth c C H locs lA hP hS hl hf (kwf_cons trivial (kwf_tl (kwf_tl hg))))
theorem kwp_iand {x y : Int32} (hd : decode X.2.1 pc = .ok (.iand, 1)) (k : kWP l g X (pc + 1) ls (.inl (x &&& y) :: st) M Q) : kWP l g X pc ls (.inl y :: .inl x :: st) M Q := fun p e s m args below meth c C H locs lA hP hS hl hf hg => lv_iand C.1 C.2.1 hd (k p e s m args below meth c C H locs lA hP hS hl hf (kwf_cons trivial (kwf_tl (kwf_tl hg))))
theorem kwp_ior {x y : Int32} (hd : decode X.2.1 pc = .ok (.ior, 1)) (k : kWP l g X (pc + 1) ls (.inl (x ||| y) :: st) M Q) : kWP l g X pc ls (.inl y :: .inl x :: st) M Q := fun p e s m args below meth c C H locs lA hP hS hl hf hg => lv_ior C.1 C.2.1 hd (k p e s m args below meth c C H locs lA hP hS hl hf (kwf_cons trivial (kwf_tl (kwf_tl hg))))
theorem kwp_ixor {x y : Int32} (hd : decode X.2.1 pc = .ok (.ixor, 1)) (k : kWP l g X (pc + 1) ls (.inl (x ^^^ y) :: st) M Q) : kWP l g X pc ls (.inl y :: .inl x :: st) M Q := fun p e s m args below meth c C H locs lA hP hS hl hf hg => lv_ixor C.1 C.2.1 hd (k p e s m args below meth c C H locs lA hP hS hl hf (kwf_cons trivial (kwf_tl (kwf_tl hg))))
theorem kwp_ishl {x y : Int32} (hd : decode X.2.1 pc = .ok (.ishl, 1)) (k : kWP l g X (pc + 1) ls (.inl (x <<< (y &&& 31)) :: st) M Q) : kWP l g X pc ls (.inl y :: .inl x :: st) M Q := fun p e s m args below meth c C H locs lA hP hS hl hf hg => lv_ishl C.1 C.2.1 hd (k p e s m args below meth c C H locs lA hP hS hl hf (kwf_cons trivial (kwf_tl (kwf_tl hg))))
theorem kwp_ishr {x y : Int32} (hd : decode X.2.1 pc = .ok (.ishr, 1)) (k : kWP l g X (pc + 1) ls (.inl (x >>> (y &&& 31)) :: st) M Q) : kWP l g X pc ls (.inl y :: .inl x :: st) M Q := fun p e s m args below meth c C H locs lA hP hS hl hf hg => lv_ishr C.1 C.2.1 hd (k p e s m args below meth c C H locs lA hP hS hl hf (kwf_cons trivial (kwf_tl (kwf_tl hg))))
theorem kwp_iushr {x y v : Int32} (hd : decode X.2.1 pc = .ok (.iushr, 1)) (hv : (x.toUInt32 >>> (y.toUInt32 &&& Int32.toUInt32 31)).toInt32 = v) (k : kWP l g X (pc + 1) ls (.inl v :: st) M Q) : kWP l g X pc ls (.inl y :: .inl x :: st) M Q := fun p e s m args below meth c C H locs lA hP hS hl hf hg => lv_iushr C.1 C.2.1 hd hv (k p e s m args below meth c C H locs lA hP hS hl hf (kwf_cons trivial (kwf_tl (kwf_tl hg))))
theorem kwp_idiv {x y : Int32} (hd : decode X.2.1 pc = .ok (.idiv, 1)) (hne : ¬ y = 0) (k : kWP l g X (pc + 1) ls (.inl (x / y) :: st) M Q) : kWP l g X pc ls (.inl y :: .inl x :: st) M Q := fun p e s m args below meth c C H locs lA hP hS hl hf hg => lv_idiv C.1 C.2.1 hd hne (k p e s m args below meth c C H locs lA hP hS hl hf (kwf_cons trivial (kwf_tl (kwf_tl hg))))
theorem kwp_irem {x y : Int32} (hd : decode X.2.1 pc = .ok (.irem, 1)) (hne : ¬ y = 0) (k : kWP l g X (pc + 1) ls (.inl (x - x / y * y) :: st) M Q) : kWP l g X pc ls (.inl y :: .inl x :: st) M Q := fun p e s m args below meth c C H locs lA hP hS hl hf hg => lv_irem C.1 C.2.1 hd hne (k p e s m args below meth c C H locs lA hP hS hl hf (kwf_cons trivial (kwf_tl (kwf_tl hg))))
theorem kwp_ladd {x y : Int64} (hd : decode X.2.1 pc = .ok (.ladd, 1)) (k : kWP l g X (pc + 1) ls (.inr (.inl (x + y)) :: st) M Q) : kWP l g X pc ls (.inr (.inl y) :: .inr (.inl x) :: st) M Q := fun p e s m args below meth c C H locs lA hP hS hl hf hg => lv_ladd C.1 C.2.1 hd (k p e s m args below meth c C H locs lA hP hS hl hf (kwf_cons trivial (kwf_tl (kwf_tl hg))))
theorem kwp_i2l {x : Int32} (hd : decode X.2.1 pc = .ok (.i2l, 1)) (k : kWP l g X (pc + 1) ls (.inr (.inl x.toInt64) :: st) M Q) : kWP l g X pc ls (.inl x :: st) M Q := fun p e s m args below meth c C H locs lA hP hS hl hf hg => lv_i2l C.1 C.2.1 hd rfl (k p e s m args below meth c C H locs lA hP hS hl hf (kwf_cons trivial (kwf_tl hg)))
theorem kwp_l2i {x : Int64} (hd : decode X.2.1 pc = .ok (.l2i, 1)) (k : kWP l g X (pc + 1) ls (.inl x.toInt32 :: st) M Q) : kWP l g X pc ls (.inr (.inl x) :: st) M Q := fun p e s m args below meth c C H locs lA hP hS hl hf hg => lv_l2i C.1 C.2.1 hd rfl (k p e s m args below meth c C H locs lA hP hS hl hf (kwf_cons trivial (kwf_tl hg)))
theorem kwp_i2b {x : Int32} (hd : decode X.2.1 pc = .ok (.i2b, 1)) (k : kWP l g X (pc + 1) ls (.inl x.toInt8.toInt32 :: st) M Q) : kWP l g X pc ls (.inl x :: st) M Q := fun p e s m args below meth c C H locs lA hP hS hl hf hg => lv_i2b C.1 C.2.1 hd rfl (k p e s m args below meth c C H locs lA hP hS hl hf (kwf_cons trivial (kwf_tl hg)))
theorem kwp_i2s {x : Int32} (hd : decode X.2.1 pc = .ok (.i2s, 1)) (k : kWP l g X (pc + 1) ls (.inl x.toInt16.toInt32 :: st) M Q) : kWP l g X pc ls (.inl x :: st) M Q := fun p e s m args below meth c C H locs lA hP hS hl hf hg => lv_i2s C.1 C.2.1 hd rfl (k p e s m args below meth c C H locs lA hP hS hl hf (kwf_cons trivial (kwf_tl hg)))
theorem kwp_lcmp {x y : Int64} (hd : decode X.2.1 pc = .ok (.lcmp, 1)) (k : kWP l g X (pc + 1) ls (.inl (lg_cmp x y) :: st) M Q) : kWP l g X pc ls (.inr (.inl y) :: .inr (.inl x) :: st) M Q := fun p e s m args below meth c C H locs lA hP hS hl hf hg => W.lcmp C.1 C.2.1 hd (k p e s m args below meth c C H locs lA hP hS hl hf (kwf_cons trivial (kwf_tl (kwf_tl hg))))
theorem kwp_dup {v : kV} (hd : decode X.2.1 pc = .ok (.dup, 1)) (hc : kcat v = 1) (k : kWP l g X (pc + 1) ls (v :: v :: st) M Q) : kWP l g X pc ls (v :: st) M Q := fun p e s m args below meth c C H locs lA hP hS hl hf hg => lv_dup C.1 C.2.1 hd (by rw [kcat_eq]; exact hc) (k p e s m args below meth c C H locs lA hP hS hl hf (kwf_cons (kwf_hd hg) hg))
theorem kwp_pop {v : kV} (hd : decode X.2.1 pc = .ok (.pop, 1)) (hc : kcat v = 1) (k : kWP l g X (pc + 1) ls (st) M Q) : kWP l g X pc ls (v :: st) M Q := fun p e s m args below meth c C H locs lA hP hS hl hf hg => lv_pop C.1 C.2.1 hd (by rw [kcat_eq]; exact hc) (k p e s m args below meth c C H locs lA hP hS hl hf (kwf_tl hg))
theorem kwp_dup2 {v w : kV} (hd : decode X.2.1 pc = .ok (.dup2, 1)) (hc : kcat v = 1) (hc2 : kcat w = 1) (k : kWP l g X (pc + 1) ls (v :: w :: v :: w :: st) M Q) : kWP l g X pc ls (v :: w :: st) M Q := fun p e s m args below meth c C H locs lA hP hS hl hf hg => lv_dup2_11 C.1 C.2.1 hd (by rw [kcat_eq]; exact hc) (by rw [kcat_eq]; exact hc2) (k p e s m args below meth c C H locs lA hP hS hl hf (kwf_cons (kwf_hd hg) (kwf_cons (kwf_hd (kwf_tl hg)) hg)))
theorem kwp_dup_x1 {v w : kV} (hd : decode X.2.1 pc = .ok (.dup_x1, 1)) (hc : kcat v = 1) (hc2 : kcat w = 1) (k : kWP l g X (pc + 1) ls (v :: w :: v :: st) M Q) : kWP l g X pc ls (v :: w :: st) M Q := fun p e s m args below meth c C H locs lA hP hS hl hf hg => lv_dup_x1 C.1 C.2.1 hd (by rw [kcat_eq]; exact hc) (by rw [kcat_eq]; exact hc2) (k p e s m args below meth c C H locs lA hP hS hl hf (kwf_cons (kwf_hd hg) (kwf_cons (kwf_hd (kwf_tl hg)) (kwf_cons (kwf_hd hg) (kwf_tl (kwf_tl hg))))))
theorem kwp_if_eq {x : Int32} {off : Int} (tgt : Nat) (hd : decode X.2.1 pc = .ok (.ifCond .eq off, 3)) (ht : (pc : Int) + off = (tgt : Int)) (kt : x = 0 → kWP l g X tgt ls st M Q) (kf : ¬ x = 0 → kWP l g X (pc + 3) ls st M Q) : kWP l g X pc ls (.inl x :: st) M Q := fun p e s m args below meth c C H locs lA hP hS hl hf hg => lv_if_eq C.1 C.2.1 hd ht (fun h => kt h p e s m args below meth c C H locs lA hP hS hl hf (kwf_tl hg)) (fun h => kf h p e s m args below meth c C H locs lA hP hS hl hf (kwf_tl hg))
theorem kwp_icmp_eq {x y : Int32} {off : Int} (tgt : Nat) (hd : decode X.2.1 pc = .ok (.if_icmp .eq off, 3)) (ht : (pc : Int) + off = (tgt : Int)) (kt : x = y → kWP l g X tgt ls st M Q) (kf : ¬ x = y → kWP l g X (pc + 3) ls st M Q) : kWP l g X pc ls (.inl y :: .inl x :: st) M Q := fun p e s m args below meth c C H locs lA hP hS hl hf hg => lv_icmp_eq C.1 C.2.1 hd ht (fun h => kt h p e s m args below meth c C H locs lA hP hS hl hf (kwf_tl (kwf_tl hg))) (fun h => kf h p e s m args below meth c C H locs lA hP hS hl hf (kwf_tl (kwf_tl hg)))
theorem kwp_if_ne {x : Int32} {off : Int} (tgt : Nat) (hd : decode X.2.1 pc = .ok (.ifCond .ne off, 3)) (ht : (pc : Int) + off = (tgt : Int)) (kt : ¬ x = 0 → kWP l g X tgt ls st M Q) (kf : x = 0 → kWP l g X (pc + 3) ls st M Q) : kWP l g X pc ls (.inl x :: st) M Q := fun p e s m args below meth c C H locs lA hP hS hl hf hg => lv_if_ne C.1 C.2.1 hd ht (fun h => kt h p e s m args below meth c C H locs lA hP hS hl hf (kwf_tl hg)) (fun h => kf h p e s m args below meth c C H locs lA hP hS hl hf (kwf_tl hg))
theorem kwp_icmp_ne {x y : Int32} {off : Int} (tgt : Nat) (hd : decode X.2.1 pc = .ok (.if_icmp .ne off, 3)) (ht : (pc : Int) + off = (tgt : Int)) (kt : ¬ x = y → kWP l g X tgt ls st M Q) (kf : x = y → kWP l g X (pc + 3) ls st M Q) : kWP l g X pc ls (.inl y :: .inl x :: st) M Q := fun p e s m args below meth c C H locs lA hP hS hl hf hg => lv_icmp_ne C.1 C.2.1 hd ht (fun h => kt h p e s m args below meth c C H locs lA hP hS hl hf (kwf_tl (kwf_tl hg))) (fun h => kf h p e s m args below meth c C H locs lA hP hS hl hf (kwf_tl (kwf_tl hg)))
theorem kwp_if_lt {x : Int32} {off : Int} (tgt : Nat) (hd : decode X.2.1 pc = .ok (.ifCond .lt off, 3)) (ht : (pc : Int) + off = (tgt : Int)) (kt : x < 0 → kWP l g X tgt ls st M Q) (kf : ¬ x < 0 → kWP l g X (pc + 3) ls st M Q) : kWP l g X pc ls (.inl x :: st) M Q := fun p e s m args below meth c C H locs lA hP hS hl hf hg => lv_if_lt C.1 C.2.1 hd ht (fun h => kt h p e s m args below meth c C H locs lA hP hS hl hf (kwf_tl hg)) (fun h => kf h p e s m args below meth c C H locs lA hP hS hl hf (kwf_tl hg))
theorem kwp_icmp_lt {x y : Int32} {off : Int} (tgt : Nat) (hd : decode X.2.1 pc = .ok (.if_icmp .lt off, 3)) (ht : (pc : Int) + off = (tgt : Int)) (kt : x < y → kWP l g X tgt ls st M Q) (kf : ¬ x < y → kWP l g X (pc + 3) ls st M Q) : kWP l g X pc ls (.inl y :: .inl x :: st) M Q := fun p e s m args below meth c C H locs lA hP hS hl hf hg => lv_icmp_lt C.1 C.2.1 hd ht (fun h => kt h p e s m args below meth c C H locs lA hP hS hl hf (kwf_tl (kwf_tl hg))) (fun h => kf h p e s m args below meth c C H locs lA hP hS hl hf (kwf_tl (kwf_tl hg)))
theorem kwp_if_ge {x : Int32} {off : Int} (tgt : Nat) (hd : decode X.2.1 pc = .ok (.ifCond .ge off, 3)) (ht : (pc : Int) + off = (tgt : Int)) (kt : 0 ≤ x → kWP l g X tgt ls st M Q) (kf : ¬ 0 ≤ x → kWP l g X (pc + 3) ls st M Q) : kWP l g X pc ls (.inl x :: st) M Q := fun p e s m args below meth c C H locs lA hP hS hl hf hg => lv_if_ge C.1 C.2.1 hd ht (fun h => kt h p e s m args below meth c C H locs lA hP hS hl hf (kwf_tl hg)) (fun h => kf h p e s m args below meth c C H locs lA hP hS hl hf (kwf_tl hg))
theorem kwp_icmp_ge {x y : Int32} {off : Int} (tgt : Nat) (hd : decode X.2.1 pc = .ok (.if_icmp .ge off, 3)) (ht : (pc : Int) + off = (tgt : Int)) (kt : y ≤ x → kWP l g X tgt ls st M Q) (kf : ¬ y ≤ x → kWP l g X (pc + 3) ls st M Q) : kWP l g X pc ls (.inl y :: .inl x :: st) M Q := fun p e s m args below meth c C H locs lA hP hS hl hf hg => lv_icmp_ge C.1 C.2.1 hd ht (fun h => kt h p e s m args below meth c C H locs lA hP hS hl hf (kwf_tl (kwf_tl hg))) (fun h => kf h p e s m args below meth c C H locs lA hP hS hl hf (kwf_tl (kwf_tl hg)))
theorem kwp_if_gt {x : Int32} {off : Int} (tgt : Nat) (hd : decode X.2.1 pc = .ok (.ifCond .gt off, 3)) (ht : (pc : Int) + off = (tgt : Int)) (kt : 0 < x → kWP l g X tgt ls st M Q) (kf : ¬ 0 < x → kWP l g X (pc + 3) ls st M Q) : kWP l g X pc ls (.inl x :: st) M Q := fun p e s m args below meth c C H locs lA hP hS hl hf hg => lv_if_gt C.1 C.2.1 hd ht (fun h => kt h p e s m args below meth c C H locs lA hP hS hl hf (kwf_tl hg)) (fun h => kf h p e s m args below meth c C H locs lA hP hS hl hf (kwf_tl hg))
theorem kwp_icmp_gt {x y : Int32} {off : Int} (tgt : Nat) (hd : decode X.2.1 pc = .ok (.if_icmp .gt off, 3)) (ht : (pc : Int) + off = (tgt : Int)) (kt : y < x → kWP l g X tgt ls st M Q) (kf : ¬ y < x → kWP l g X (pc + 3) ls st M Q) : kWP l g X pc ls (.inl y :: .inl x :: st) M Q := fun p e s m args below meth c C H locs lA hP hS hl hf hg => lv_icmp_gt C.1 C.2.1 hd ht (fun h => kt h p e s m args below meth c C H locs lA hP hS hl hf (kwf_tl (kwf_tl hg))) (fun h => kf h p e s m args below meth c C H locs lA hP hS hl hf (kwf_tl (kwf_tl hg)))
theorem kwp_if_le {x : Int32} {off : Int} (tgt : Nat) (hd : decode X.2.1 pc = .ok (.ifCond .le off, 3)) (ht : (pc : Int) + off = (tgt : Int)) (kt : x ≤ 0 → kWP l g X tgt ls st M Q) (kf : ¬ x ≤ 0 → kWP l g X (pc + 3) ls st M Q) : kWP l g X pc ls (.inl x :: st) M Q := fun p e s m args below meth c C H locs lA hP hS hl hf hg => lv_if_le C.1 C.2.1 hd ht (fun h => kt h p e s m args below meth c C H locs lA hP hS hl hf (kwf_tl hg)) (fun h => kf h p e s m args below meth c C H locs lA hP hS hl hf (kwf_tl hg))
theorem kwp_icmp_le {x y : Int32} {off : Int} (tgt : Nat) (hd : decode X.2.1 pc = .ok (.if_icmp .le off, 3)) (ht : (pc : Int) + off = (tgt : Int)) (kt : x ≤ y → kWP l g X tgt ls st M Q) (kf : ¬ x ≤ y → kWP l g X (pc + 3) ls st M Q) : kWP l g X pc ls (.inl y :: .inl x :: st) M Q := fun p e s m args below meth c C H locs lA hP hS hl hf hg => lv_icmp_le C.1 C.2.1 hd ht (fun h => kt h p e s m args below meth c C H locs lA hP hS hl hf (kwf_tl (kwf_tl hg))) (fun h => kf h p e s m args below meth c C H locs lA hP hS hl hf (kwf_tl (kwf_tl hg)))
theorem kwp_goto {off : Int} (tgt : Nat) (hd : decode X.2.1 pc = .ok (.goto off, 3)) (ht : (pc : Int) + off = (tgt : Int)) (k : kWP l g X tgt ls (st) M Q) : kWP l g X pc ls (st) M Q := fun p e s m args below meth c C H locs lA hP hS hl hf hg => lv_goto C.1 C.2.1 hd ht (k p e s m args below meth c C H locs lA hP hS hl hf hg)
theorem kwp_tsOut {dflt lo hi : Int} {offs : Array Int} {len : Nat} {x : Int32} (tgt : Nat) (hd : decode X.2.1 pc = .ok (.tableswitch dflt lo hi offs, len)) (h : x.toInt < lo ∨ hi < x.toInt) (ht : (pc : Int) + dflt = (tgt : Int)) (k : kWP l g X tgt ls (st) M Q) : kWP l g X pc ls (.inl x :: st) M Q := fun p e s m args below meth c C H locs lA hP hS hl hf hg => lv_tableOut C.1 C.2.1 hd h ht (k p e s m args below meth c C H locs lA hP hS hl hf (kwf_tl hg))
theorem kwp_tsIn {dflt lo hi : Int} {offs : Array Int} {len : Nat} {x : Int32} {off : Int} (tgt : Nat) (hd : decode X.2.1 pc = .ok (.tableswitch dflt lo hi offs, len)) (h1 : ¬ x.toInt < lo) (h2 : ¬ hi < x.toInt) (ho : offs[(x.toInt - lo).toNat]? = some off) (ht : (pc : Int) + off = (tgt : Int)) (k : kWP l g X tgt ls (st) M Q) : kWP l g X pc ls (.inl x :: st) M Q := fun p e s m args below meth c C H locs lA hP hS hl hf hg => lv_tableIn C.1 C.2.1 hd h1 h2 ho ht (k p e s m args below meth c C H locs lA hP hS hl hf (kwf_tl hg))
theorem kwp_lsw {dflt : Int} {ps : Array (Int × Int)} {len : Nat} {x : Int32} {off : Int} (tgt : Nat) (hd : decode X.2.1 pc = .ok (.lookupswitch dflt ps, len)) (hp : (ps.toList.zip (ps.toList.drop 1)).all (fun (a, next) => a.1 < next.1) = true) (ho : Op.lookupswitch.offset ps.toList dflt x.toInt = off) (ht : (pc : Int) + off = (tgt : Int)) (k : kWP l g X tgt ls (st) M Q) : kWP l g X pc ls (.inl x :: st) M Q := fun p e s m args below meth c C H locs lA hP hS hl hf hg => lv_lookup C.1 C.2.1 hd hp ho ht (k p e s m args below meth c C H locs lA hP hS hl hf (kwf_tl hg))
theorem kwp_iret {x : Int32} (hr : X.2.2.2.1 = some .int) (hd : decode X.2.1 pc = .ok (.ireturn, 1)) (h : Q (some (.inl x)) M) : kWP l g X pc ls ([.inl x]) M Q := fun p e s m args below meth c C H locs lA hP hS hl hf hg => W.iret C.1 C.2.1 (C.2.2.1.trans hr) (fun t ht hW => ⟨⟨some (.inl x), M, rfl, h, (fun x hx => by cases hx <;> exact trivial), by rw [ht]; exact hP⟩, hS.F ht⟩) hS.2.2 hd C.2.2.2.2.2.2.1
theorem kwp_zret {x : Int32} (hr : X.2.2.2.1 = some .boolean) (hx : x = 0 ∨ x = 1) (hd : decode X.2.1 pc = .ok (.ireturn, 1)) (h : Q (some (.inl x)) M) : kWP l g X pc ls ([.inl x]) M Q := fun p e s m args below meth c C H locs lA hP hS hl hf hg => W.zret C.1 C.2.1 (C.2.2.1.trans hr) (by rcases hx with rfl | rfl <;> rfl) (fun t ht hW => ⟨⟨some (.inl x), M, rfl, h, (fun x hx => by cases hx <;> exact trivial), by rw [ht]; exact hP⟩, hS.F ht⟩) hS.2.2 hd C.2.2.2.2.2.2.1
theorem kwp_lret {x : Int64} (hr : X.2.2.2.1 = some .long) (hd : decode X.2.1 pc = .ok (.lreturn, 1)) (h : Q (some (.inr (.inl x))) M) : kWP l g X pc ls ([.inr (.inl x)]) M Q := fun p e s m args below meth c C H locs lA hP hS hl hf hg => W.lret C.1 C.2.1 (C.2.2.1.trans hr) (fun t ht hW => ⟨⟨some (.inr (.inl x)), M, rfl, h, (fun x hx => by cases hx <;> exact trivial), by rw [ht]; exact hP⟩, hS.F ht⟩) hS.2.2 hd C.2.2.2.2.2.2.1
theorem kwp_vret (hr : X.2.2.2.1 = none) (hd : decode X.2.1 pc = .ok (.return_, 1)) (h : Q none M) : kWP l g X pc ls ([]) M Q := fun p e s m args below meth c C H locs lA hP hS hl hf hg => W.vret C.1 C.2.1 (C.2.2.1.trans hr) (fun t ht hW => ⟨⟨none, M, rfl, h, (fun x hx => by cases hx <;> exact trivial), by rw [ht]; exact hP⟩, hS.F ht⟩) hS.2.2 hd C.2.2.2.2.2.2.1
/-- a field's link from inside a class: the class of the cell, the field's place -/
def kFl (own : String) (idx ci i : Nat) : Prop := ∃ (C : String) (T : u_T) (N : Nat), vwCl[ci]? = some (C, T, N) ∧ i < N ∧ (∀ w ∈ u_ws C T N, w ∈ kw) ∧ Cond.fieldLink own idx (T i).1 (T i).2.1 (T i).2.2.1 ∈ kw
/-- the same, and what may be put there -/
def kFp (own : String) (idx ci i : Nat) (P : Int32 → Prop) : Prop := ∃ (C : String) (T : u_T) (N : Nat) (ty0 : Nat → FieldType), vwCl[ci]? = some (C, T, N) ∧ i < N ∧ (∀ w ∈ u_ws C T N, w ∈ kw) ∧ Cond.fieldLink own idx (T i).1 (T i).2.1 (T i).2.2.1 ∈ kw ∧ (∀ k, k < N → parseFieldDescriptor (T k).2.2.1 = some (ty0 k)) ∧ (∀ a, a < N → ∀ b, b < N → a ≠ b → (T a).2.1 ≠ (T b).2.1) ∧ (T i).2.2.2 = false ∧ ∀ v, P v → narrow (ty0 i) (.int v) = .int v ∧ fits (ty0 i) (.int v) = true
theorem kone {g : kG} {M : kM} {H : Heap} {c k : Nat} (hP : kP g M H) (h : (c, k) ∈ g.1.1) : va_P g.2.1 vwCl [(g.2.2.2 c k, kcell g M c k)] H := by
  intro i q hq
  have hz : i < 1 := (List.getElem?_eq_some_iff.mp hq).1
  rw [show i = 0 by omega] at hq
  cases hq
  exact hP c k h
theorem kwp_geti {idx c k ci i : Nat} {fs : List kF} (F : kFl X.1.cls idx ci i) (hx : g.1.2 c = .inr (ci, fs)) (hf2 : fs[i]? = some (.inl i)) (hd : decode X.2.1 pc = .ok (.getfield idx, 3)) (kk : kWP l g X (pc + 3) ls (.inl (M.1 c k i) :: st) M Q) : kWP l g X pc ls (.inr (.inr (c, k)) :: st) M Q := by
  intro p e s m args below meth cd C H locs lA hP hS hl hf hg
  obtain ⟨CC, T, N, f1, f2, f3, f4⟩ := F
  exact va_get C.1 C.2.1 C.2.2.2.2.2.1 f3 C.2.2.2.2.1 C.2.2.2.2.2.2.2.1.1 (kone hP (kwf_hd hg)) 0 (by rw [kcell_o hx]; rfl) f1 i f2 (C.2.2.2.2.2.1 _ f4) (fun _ h => h) (by rw [List.getElem?_map, hf2]; rfl) hd (kk p e s m args below meth cd C H locs lA hP hS hl hf (kwf_cons trivial (kwf_tl hg)))
theorem kwp_getr {idx c k ci i : Nat} {fs : List kF} {c2 : Nat} (F : kFl X.1.cls idx ci i) (hx : g.1.2 c = .inr (ci, fs)) (hf2 : fs[i]? = some (.inr (c2, none))) (hd : decode X.2.1 pc = .ok (.getfield idx, 3)) (kk : kWP l g X (pc + 3) ls (.inr (.inr (c2, k)) :: st) M Q) : kWP l g X pc ls (.inr (.inr (c, k)) :: st) M Q := by
  intro p e s m args below meth cd C H locs lA hP hS hl hf hg
  obtain ⟨CC, T, N, f1, f2, f3, f4⟩ := F
  exact va_get C.1 C.2.1 C.2.2.2.2.2.1 f3 C.2.2.2.2.1 C.2.2.2.2.2.2.2.1.1 (kone hP (kwf_hd hg)) 0 (by rw [kcell_o hx]; rfl) f1 i f2 (C.2.2.2.2.2.1 _ f4) (fun _ h => h) (by rw [List.getElem?_map, hf2]; rfl) hd (kk p e s m args below meth cd C H locs lA hP hS hl hf (kwf_cons (C.2.2.2.2.2.2.2.2.2.2.1 c k ci fs i _ (kwf_hd hg) hx hf2) (kwf_tl hg)))
theorem kwp_getc {idx c k ci i : Nat} {fs : List kF} {c2 k2 : Nat} (F : kFl X.1.cls idx ci i) (hx : g.1.2 c = .inr (ci, fs)) (hf2 : fs[i]? = some (.inr (c2, some k2))) (hd : decode X.2.1 pc = .ok (.getfield idx, 3)) (kk : kWP l g X (pc + 3) ls (.inr (.inr (c2, k2)) :: st) M Q) : kWP l g X pc ls (.inr (.inr (c, k)) :: st) M Q := by
  intro p e s m args below meth cd C H locs lA hP hS hl hf hg
  obtain ⟨CC, T, N, f1, f2, f3, f4⟩ := F
  exact va_get C.1 C.2.1 C.2.2.2.2.2.1 f3 C.2.2.2.2.1 C.2.2.2.2.2.2.2.1.1 (kone hP (kwf_hd hg)) 0 (by rw [kcell_o hx]; rfl) f1 i f2 (C.2.2.2.2.2.1 _ f4) (fun _ h => h) (by rw [List.getElem?_map, hf2]; rfl) hd (kk p e s m args below meth cd C H locs lA hP hS hl hf (kwf_cons (C.2.2.2.2.2.2.2.2.2.2.1 c k ci fs i _ (kwf_hd hg) hx hf2) (kwf_tl hg)))
theorem kset_fld {g : kG} {M : kM} {c k i : Nat} {fs : List kF} {v : Int32} (hf : fs[i]? = some (.inl i)) (hu : ∀ (a j : Nat), fs[a]? = some (.inl j) → j = a) : fs.map (kfld g (ku M c k i v) c k) = (fs.map (kfld g M c k)).set i (.int v) := by
  apply List.ext_getElem?
  intro a
  rw [List.getElem?_map]
  have hlen : i < fs.length := (List.getElem?_eq_some_iff.mp hf).1
  by_cases ha : a = i
  · subst ha
    rw [List.getElem?_set_self (by rw [List.length_map]; exact hlen), hf]
    simp [kfld, ku]
  · rw [List.getElem?_set_ne (fun h => ha h.symm), List.getElem?_map]
    cases hfa : fs[a]? with
    | none => rfl
    | some f =>
      rcases f with j | ⟨c', _ | k0⟩
      · have hj := hu a j hfa
        subst hj
        simp [kfld, ku, ha]
      · rfl
      · rfl
theorem kwp_put {idx c k ci i : Nat} {fs : List kF} {P : Int32 → Prop} {v : Int32} (F : kFp X.1.cls idx ci i P) (hx : g.1.2 c = .inr (ci, fs)) (hf2 : fs[i]? = some (.inl i)) (hv : P v) (hd : decode X.2.1 pc = .ok (.putfield idx, 3)) (kk : kWP l g X (pc + 3) ls st (ku M c k i v) Q) : kWP l g X pc ls (.inl v :: .inr (.inr (c, k)) :: st) M Q := by
  intro p e s m args below meth cd C H locs lA hP hS hl hf hg
  obtain ⟨CC, T, N, ty0, f1, f2, f3, f4, f5, f6, f7, f8⟩ := F
  have hin : (c, k) ∈ g.1.1 := kwf_hd (kwf_tl hg)
  obtain ⟨q, hq, hq2⟩ := kall_at (M := M) hin
  rw [kcell_o hx] at hq2
  have hlen : i < (fs.map (kfld g M c k)).length := by rw [List.length_map]; exact (List.getElem?_eq_some_iff.mp hf2).1
  refine va_put C.1 C.2.1 C.2.2.2.2.2.1 f3 ty0 f5 f6 C.2.2.2.2.1 C.2.2.2.2.2.2.2.1.1 (kall_P hP) (kall_D C.2.2.2.2.2.2.2.2.2.1 C.2.2.2.2.2.2.2.2.1) hS q hq2 f1 i f2 (C.2.2.2.2.2.1 _ f4) (fun _ h => h) f7 (f5 i f2) (f8 v hv).1 (f8 v hv).2 hlen hd (fun H1 locs1 hP1 _ hS1 => ?_)
  refine kk p e s m args below meth cd C H1 locs1 lA (kP_set hq hP1 ?_ ku_o) hS1 hl hf (kwf_tl (kwf_tl hg))
  rw [kcell_o hx]
  exact congrArg (fun z => (.inr (ci, z) : va_E)) (kset_fld hf2 (fun a j ha => C.2.2.2.2.2.2.2.2.2.2.1 c k ci fs a _ hin hx ha))
theorem kwp_iald {c k n : Nat} {i : Int32} (hx : g.1.2 c = .inl (0, n)) (hin : vp_in i n) (hd : decode X.2.1 pc = .ok (.iaload, 1)) (kk : kWP l g X (pc + 1) ls (.inl (M.1 c k i.toNatClampNeg) :: st) M Q) : kWP l g X pc ls (.inl i :: .inr (.inr (c, k)) :: st) M Q := by
  intro p e s m args below meth cd C H locs lA hP hS hl hf hg
  exact va_iald C.1 C.2.1 C.2.2.2.2.2.2.2.1.1 (kone hP (kwf_hd (kwf_tl hg))) 0 0 (by rw [kcell_i hx]; rfl) rfl hin hd (kk p e s m args below meth cd C H locs lA hP hS hl hf (kwf_cons trivial (kwf_tl (kwf_tl hg))))
theorem kwp_lald {c k n : Nat} {i : Int32} (hx : g.1.2 c = .inl (1, n)) (hin : vp_in i n) (hd : decode X.2.1 pc = .ok (.laload, 1)) (kk : kWP l g X (pc + 1) ls (.inr (.inl (M.2 c k i.toNatClampNeg)) :: st) M Q) : kWP l g X pc ls (.inl i :: .inr (.inr (c, k)) :: st) M Q := by
  intro p e s m args below meth cd C H locs lA hP hS hl hf hg
  exact va_lald C.1 C.2.1 C.2.2.2.2.2.2.2.1.1 (kone hP (kwf_hd (kwf_tl hg))) 0 1 (by rw [kcell_l hx]; rfl) rfl hin hd (kk p e s m args below meth cd C H locs lA hP hS hl hf (kwf_cons trivial (kwf_tl (kwf_tl hg))))
theorem kwp_aald {c k n t : Nat} {i : Int32} (hx : g.1.2 c = .inl (t + 2, n)) (hin : vp_in i n) (hd : decode X.2.1 pc = .ok (.aaload, 1)) (kk : kWP l g X (pc + 1) ls (.inr (.inr (t, i.toNatClampNeg)) :: st) M Q) : kWP l g X pc ls (.inl i :: .inr (.inr (c, k)) :: st) M Q := by
  intro p e s m args below meth cd C H locs lA hP hS hl hf hg
  have hlt : i.toNatClampNeg < n := Nat.not_le.mp fun q => hin (Or.inr q)
  exact va_aldq (f := fun j => some (g.2.2.2 t j)) C.1 C.2.1 C.2.2.2.2.2.2.2.1.1 (kone hP (kwf_hd (kwf_tl hg))) 0 2 (by rw [kcell_r hx]; rfl) rfl hin hd (kk p e s m args below meth cd C H locs lA hP hS hl hf (kwf_cons (C.2.2.2.2.2.2.2.2.2.2.2 c k t n _ (kwf_hd (kwf_tl hg)) hx hlt) (kwf_tl (kwf_tl hg))))
theorem kwp_alen {c k n : Nat} {v : Int32} (hx : g.1.2 c = .inl (0, n)) (hv : Int32.ofNat n = v) (hd : decode X.2.1 pc = .ok (.arraylength, 1)) (kk : kWP l g X (pc + 1) ls (.inl v :: st) M Q) : kWP l g X pc ls (.inr (.inr (c, k)) :: st) M Q := by
  intro p e s m args below meth cd C H locs lA hP hS hl hf hg
  exact va_alen C.1 C.2.1 C.2.2.2.2.2.2.2.1.1 (kone hP (kwf_hd hg)) 0 0 (by rw [kcell_i hx]; rfl) rfl hv hd (kk p e s m args below meth cd C H locs lA hP hS hl hf (kwf_cons trivial (kwf_tl hg)))
theorem kwp_iast {c k n : Nat} {i v : Int32} (hx : g.1.2 c = .inl (0, n)) (hin : vp_in i n) (hd : decode X.2.1 pc = .ok (.iastore, 1)) (kk : kWP l g X (pc + 1) ls st (ku M c k i.toNatClampNeg v) Q) : kWP l g X pc ls (.inl v :: .inl i :: .inr (.inr (c, k)) :: st) M Q := by
  intro p e s m args below meth cd C H locs lA hP hS hl hf hg
  obtain ⟨q, hq, hq2⟩ := kall_at (M := M) (kwf_hd (kwf_tl (kwf_tl hg)) : (c, k) ∈ g.1.1)
  rw [kcell_i hx] at hq2
  refine va_iast C.1 C.2.1 C.2.2.2.2.2.2.2.1.1 (kall_P hP) (kall_D C.2.2.2.2.2.2.2.2.2.1 C.2.2.2.2.2.2.2.2.1) hS q 0 hq2 rfl hin hd (fun H1 locs1 hP1 _ hS1 => ?_)
  refine kk p e s m args below meth cd C H1 locs1 lA (kP_set hq hP1 ?_ ku_o) hS1 hl hf (kwf_tl (kwf_tl (kwf_tl hg)))
  rw [kcell_i hx, ku_upd]
theorem kwp_last {c k n : Nat} {i : Int32} {v : Int64} (hx : g.1.2 c = .inl (1, n)) (hin : vp_in i n) (hd : decode X.2.1 pc = .ok (.lastore, 1)) (kk : kWP l g X (pc + 1) ls st (kul M c k i.toNatClampNeg v) Q) : kWP l g X pc ls (.inr (.inl v) :: .inl i :: .inr (.inr (c, k)) :: st) M Q := by
  intro p e s m args below meth cd C H locs lA hP hS hl hf hg
  obtain ⟨q, hq, hq2⟩ := kall_at (M := M) (kwf_hd (kwf_tl (kwf_tl hg)) : (c, k) ∈ g.1.1)
  rw [kcell_l hx] at hq2
  refine va_last C.1 C.2.1 C.2.2.2.2.2.2.2.1.1 (kall_P hP) (kall_D C.2.2.2.2.2.2.2.2.2.1 C.2.2.2.2.2.2.2.2.1) hS q 1 hq2 rfl hin hd (fun H1 locs1 hP1 _ hS1 => ?_)
  refine kk p e s m args below meth cd C H1 locs1 lA (kP_set hq hP1 ?_ kul_o) hS1 hl hf (kwf_tl (kwf_tl (kwf_tl hg)))
  rw [kcell_l hx, kul_upd]
/-- a stretch that lies within -/
def kin (a n N : Int32) (m : Nat) : Prop := ¬ a < 0 ∧ ¬ n < 0 ∧ a.toNatClampNeg + n.toNatClampNeg ≤ m
def kcw (own : String) (idx : Nat) : Prop := Cond.methodLink own idx arraycopyName ∈ kw
theorem kac : Cond.native arraycopyName ∈ kw ∧ Cond.static arraycopyName ∈ kw ∧ Cond.initialized "java/lang/System" ∈ kw := ⟨by decide +kernel, by decide +kernel, by decide +kernel⟩
theorem kwp_copyi {c k n0 c2 k2 n2 idx : Nat} {sp dp n : Int32} (F : kcw X.1.cls idx) (hx : g.1.2 c = .inl (0, n0)) (hx2 : g.1.2 c2 = .inl (0, n2)) (h1 : ¬ sp < 0) (h2 : ¬ dp < 0) (h3 : ¬ n < 0) (h4 : sp.toNatClampNeg + n.toNatClampNeg ≤ n0) (h5 : dp.toNatClampNeg + n.toNatClampNeg ≤ n2) (hr : (st.map kcat).sum ≤ 8) (hdep : 1 ≤ X.2.2.2.2) (hd : decode X.2.1 pc = .ok (.invokestatic idx, 3)) (kk : kWP l g X (pc + 3) ls st (kcp M c k sp.toNatClampNeg c2 k2 dp.toNatClampNeg n.toNatClampNeg) Q) : kWP l g X pc ls (.inl n :: .inl dp :: .inr (.inr (c2, k2)) :: .inl sp :: .inr (.inr (c, k)) :: st) M Q := by
  intro p e s m args below meth cd C H locs lA hP hS hl hf hg
  have hin2 : (c2, k2) ∈ g.1.1 := kwf_hd (kwf_tl (kwf_tl hg))
  have hin : (c, k) ∈ g.1.1 := kwf_hd (kwf_tl (kwf_tl (kwf_tl (kwf_tl hg))))
  obtain ⟨q, hq, hq2⟩ := kall_at (M := M) hin
  obtain ⟨r, hr1, hr2⟩ := kall_at (M := M) hin2
  rw [kcell_i hx] at hq2
  rw [kcell_i hx2] at hr2
  have hts := C.2.2.2.2.2.1
  have hcat : ((st.map (kval g)).map fun v => v.category).sum = (st.map kcat).sum := by rw [List.map_map]; congr 1; exact List.map_congr_left (fun v _ => kcat_eq g v)
  refine va_copyi C.1 C.2.1 (C.2.2.2.1.trans hl.1.symm) C.2.2.2.2.1 (hts _ F) (hts _ kac.1) (hts _ kac.2.1) (hts _ kac.2.2) C.2.2.2.2.2.2.2.1.1 (kall_P hP) (kall_D C.2.2.2.2.2.2.2.2.2.1 C.2.2.2.2.2.2.2.2.1) hS q r 0 0 hq2 hr2 rfl rfl rfl h1 h2 h3 h4 h5 (fun _ _ => rfl) hdep ?_ hd (fun H1 locs1 hP1 _ hS1 => ?_)
  · rw [hcat]
    have h9 : nativeFrameWords "java/lang/System" "arraycopy" 5 + 11 ≤ 26 := by decide +kernel
    show _ ≤ 34 * X.2.2.2.2
    omega
  refine kk p e s m args below meth cd C H1 locs1 lA (kP_set hr1 hP1 ?_ kcp_o) hS1 hl hf (kwf_tl (kwf_tl (kwf_tl (kwf_tl (kwf_tl hg)))))
  rw [kcell_i hx2, kcp_cpy]
theorem kwp_copyl {c k n0 c2 k2 n2 idx : Nat} {sp dp n : Int32} (F : kcw X.1.cls idx) (hx : g.1.2 c = .inl (1, n0)) (hx2 : g.1.2 c2 = .inl (1, n2)) (h1 : ¬ sp < 0) (h2 : ¬ dp < 0) (h3 : ¬ n < 0) (h4 : sp.toNatClampNeg + n.toNatClampNeg ≤ n0) (h5 : dp.toNatClampNeg + n.toNatClampNeg ≤ n2) (hr : (st.map kcat).sum ≤ 8) (hdep : 1 ≤ X.2.2.2.2) (hd : decode X.2.1 pc = .ok (.invokestatic idx, 3)) (kk : kWP l g X (pc + 3) ls st (kcpl M c k sp.toNatClampNeg c2 k2 dp.toNatClampNeg n.toNatClampNeg) Q) : kWP l g X pc ls (.inl n :: .inl dp :: .inr (.inr (c2, k2)) :: .inl sp :: .inr (.inr (c, k)) :: st) M Q := by
  intro p e s m args below meth cd C H locs lA hP hS hl hf hg
  have hin2 : (c2, k2) ∈ g.1.1 := kwf_hd (kwf_tl (kwf_tl hg))
  have hin : (c, k) ∈ g.1.1 := kwf_hd (kwf_tl (kwf_tl (kwf_tl (kwf_tl hg))))
  obtain ⟨q, hq, hq2⟩ := kall_at (M := M) hin
  obtain ⟨r, hr1, hr2⟩ := kall_at (M := M) hin2
  rw [kcell_l hx] at hq2
  rw [kcell_l hx2] at hr2
  have hts := C.2.2.2.2.2.1
  have hcat : ((st.map (kval g)).map fun v => v.category).sum = (st.map kcat).sum := by rw [List.map_map]; congr 1; exact List.map_congr_left (fun v _ => kcat_eq g v)
  refine va_copyl C.1 C.2.1 (C.2.2.2.1.trans hl.1.symm) C.2.2.2.2.1 (hts _ F) (hts _ kac.1) (hts _ kac.2.1) (hts _ kac.2.2) C.2.2.2.2.2.2.2.1.1 (kall_P hP) (kall_D C.2.2.2.2.2.2.2.2.2.1 C.2.2.2.2.2.2.2.2.1) hS q r 1 1 hq2 hr2 rfl rfl rfl h1 h2 h3 h4 h5 (fun _ _ => rfl) hdep ?_ hd (fun H1 locs1 hP1 _ hS1 => ?_)
  · rw [hcat]
    have h9 : nativeFrameWords "java/lang/System" "arraycopy" 5 + 11 ≤ 26 := by decide +kernel
    show _ ≤ 34 * X.2.2.2.2
    omega
  refine kk p e s m args below meth cd C H1 locs1 lA (kP_set hr1 hP1 ?_ kcpl_o) hS1 hl hf (kwf_tl (kwf_tl (kwf_tl (kwf_tl (kwf_tl hg)))))
  rw [kcell_l hx2, kcpl_cpy]
/-! ===== calls ===== -/
def kMb (Y : kX) (n : Nat) : Prop := Cond.code Y.1 Y.2.1 Y.2.2.1 Y.2.2.2.1 ∈ kw ∧ Cond.initialized Y.1.cls ∈ kw ∧ (Y.1.cls ≠ "java/lang/invoke/MethodHandle" ∧ Y.1.cls ≠ "java/lang/invoke/VarHandle" ∧ (parseMethodDescriptor Y.1.desc).map (fun d => d.parameters.length) = some n) ∧ Y.2.2.1 ≤ 15
theorem kgood {Y : kX} {n : Nat} (h : kMb Y n) : GoodIn kw (kws Y) := fun w hw => (List.mem_cons.mp hw).elim (fun e => by rw [e]; exact kw_good h.1) (fun h => kw_good h)
theorem kroom {a b m : Nat} (h : a < b) (hm : m ≤ 15) : (krm a).frames + 1 ≤ (krm b).frames ∧ 8 + (m + 11) + (krm a).locals ≤ (krm b).locals := by
  refine ⟨h, ?_⟩
  show 8 + (m + 11) + 34 * a ≤ 34 * b
  omega
theorem kNmem {w : Cond} (h : w ∈ kN) : ∃ (a : String) (i : Nat) (x : MethodName) (hh : String), w = .methodLinkNest a i x hh := by
  simp only [kN, List.mem_cons, List.not_mem_nil, or_false] at h
  rcases h with rfl | rfl | rfl | rfl <;> exact ⟨_, _, _, _, rfl⟩
theorem kK.warm {g : kG} {s U : State} (h : kK g s) (hW : s.WarmedH U.vm) : kK g U := ⟨va_K.moved hW.alike h.1, fun w hw => by
  obtain ⟨a, i, x, hh, rfl⟩ := kNmem hw
  exact va_Nw.warmM hW (h.2 _ hw)⟩
theorem kK.calling {g : kG} {U : State} (h : kK g U) (f : JFrame) (mk : MethodId) (a : Array Value) : kK g (U.calling f mk a) := ⟨va_K.moved (u := U) (U := U.calling f mk a) (Vm.Alike.refl U.vm) h.1, fun w hw => by
  obtain ⟨a, i, x, hh, rfl⟩ := kNmem hw
  exact va_Nw.same rfl rfl (h.2 _ hw)⟩
theorem kblind {g : kG} {vs : List Value} {M : kM} : FrameBlind (va_Pc vs (fun U => kP g M U.heap ∧ kK g U)) := fun _ _ f mk q => ⟨q.1, q.2.1, q.2.2.calling f mk _⟩
theorem kgo {g : kG} {p : Program} {l : Launch} {e : Env} {R : Room} {s : State} {m : MethodId} {args : Array Value} {below : List Frame} {meth : Method} {c : Code} {H : Heap} {locs : List Loc} {pc cells slots : Nat} {lA : Array Slot} {st0 rest : List Value} {Q1 : Option kV → kM → Prop} {a : Array Value} {Qf : State → Prop} {A0 : Nat → Prop} (hr : va_Run p l e R s m args below meth c H locs cells slots 0 0 (F0 m pc lA st0) rest (kQ g Q1 a) (kA g)) (hA : ∀ q, kA g q → A0 q) (hS : va_S A0 s.heap H locs)
    (kk : ∀ (v : Option kV) (M1 : kM) (H1 : Heap) (locs1 : List Loc), Q1 v M1 → (∀ x, v = some x → kwf g x) → kP g M1 H1 → H.size ≤ H1.size → (∀ q : Nat, q < H.size → ¬ kA g q → H1[q]? = H[q]?) → va_S A0 s.heap H1 locs1 → W p l e R s m args below meth c H1 locs1 cells slots Qf (F0 m (pc + 3) lA ((v.map (kval g)).toList ++ rest))) : W p l e R s m args below meth c H locs cells slots Qf (F0 m pc lA st0) := by
  intro T hT X
  obtain ⟨v, st₀, t, T', L, h0, X', hL, e1, e2, ⟨⟨v', M1, hv, hq, hw, hp⟩, hz, hk⟩, st⟩ := hr T hT X
  have hv' : v = v'.map (kval g) := by injection hv
  subst hv'
  rw [h0] at hz hk
  obtain ⟨t2, a1, b1⟩ := kk v' M1 T'.heap (locs ++ L) hq hw (by rw [e1]; exact hp) (by rw [e1]; exact hz) (fun q h1 h2 => by rw [e1]; exact hk q h1 h2)
    ⟨Nat.le_trans hS.1 (by rw [e1]; exact hz), fun q h1 h2 => by rw [e1, hk q (Nat.lt_of_lt_of_le h1 hS.1) (fun z => h2 (hA q z))]; exact hS.2.1 q h1 h2, fun q hq => by
      rcases List.mem_append.mp hq with h | h
      · exact hS.2.2 q h
      · exact hA _ (hL q h)⟩ T' rfl X'
  exact ⟨t2, st t2 a1, b1⟩
theorem kval_out (g : kG) (v : Option kV) (rest : List kV) : (v.map (kval g)).toList ++ rest.map (kval g) = (v.toList ++ rest).map (kval g) := by cases v <;> rfl
theorem kwf_out {g : kG} {v : Option kV} {rest : List kV} (hv : ∀ x, v = some x → kwf g x) (hr : ∀ w ∈ rest, kwf g w) : ∀ w ∈ v.toList ++ rest, kwf g w := by
  cases v with
  | none => exact hr
  | some x => exact kwf_cons (hv x rfl) hr
theorem krev (g : kG) (vs rest : List kV) : (vs.reverse ++ rest).map (kval g) = (vs.map (kval g)).reverse ++ rest.map (kval g) := by rw [List.map_append, List.map_reverse]
theorem kcats (g : kG) (st : List kV) : ((st.map (kval g)).map fun v => v.category).sum = (st.map kcat).sum := by rw [List.map_map]; congr 1; exact List.map_congr_left (fun v _ => kcat_eq g v)
theorem kwp_callS {Y : kX} {idx n : Nat} {vs rest : List kV} (F : kMb Y n) (F2 : Cond.static Y.1 ∈ kw) (F3 : Cond.methodLink X.1.cls idx Y.1 ∈ kw) (hdep : Y.2.2.2.2 < X.2.2.2.2) (hn : vs.length = n) (hst : vs.reverse ++ rest = st) (hr : (rest.map kcat).sum ≤ 8) (hd : decode X.2.1 pc = .ok (.invokestatic idx, 3)) (k : kCT l g Y vs M (fun v M1 => kWP l g X (pc + 3) ls (v.toList ++ rest) M1 Q)) : kWP l g X pc ls st M Q := by
  subst hst
  intro p e s m args below meth cd C H locs lA hP hS hl hf hg
  have hts := C.2.2.2.2.2.1
  have hwv : ∀ v ∈ vs, kwf g v := fun v hv => hg v (List.mem_append_left _ (List.mem_reverse.mpr hv))
  have hwr : ∀ v ∈ rest, kwf g v := fun v hv => hg v (List.mem_append_right _ hv)
  have hM := k C.2.2.2.2.2.2.2.2.1 C.2.2.2.2.2.2.2.2.2 hwv
  refine kgo (g := g) (rest := rest.map (kval g)) (va_runS (As := vs.map (kval g)) (rest := rest.map (kval g)) ⟨C.1, C.2.1, C.2.2.2.1, C.2.2.2.2.1, hts⟩ hM ⟨callB_of n hts (kgood F) rfl rfl rfl (hts _ F.2.1) (hts _ F3) F.2.2.1 (kroom hdep F.2.2.2), hts _ F2⟩ ⟨kblind, fun U hU hW => ⟨rfl, by rw [hU]; exact hP, C.2.2.2.2.2.2.2.1.warm hW⟩⟩ rfl (by rw [List.length_map]; exact hn) hl.1 (krev g vs rest) (lv_room (by rw [kcats]; exact hr)) hd ⟨Nat.zero_le _, Nat.zero_le _⟩) (fun _ h => h) hS (fun v M1 H1 locs1 h1 h2 h3 _ _ h4 => ?_)
  rw [kval_out]
  exact h1 p e s m args below meth cd C H1 locs1 lA h3 h4 hl hf (kwf_out h2 hwr)
theorem kwp_callN {Y : kX} {idx n : Nat} {host : String} {vs rest : List kV} (F : kMb Y n) (F2 : Cond.static Y.1 ∈ kw) (F3 : Cond.methodLinkNest X.1.cls idx Y.1 host ∈ kN) (hdep : Y.2.2.2.2 < X.2.2.2.2) (hn : vs.length = n) (hst : vs.reverse ++ rest = st) (hr : (rest.map kcat).sum ≤ 8) (hd : decode X.2.1 pc = .ok (.invokestatic idx, 3)) (k : kCT l g Y vs M (fun v M1 => kWP l g X (pc + 3) ls (v.toList ++ rest) M1 Q)) : kWP l g X pc ls st M Q := by
  subst hst
  intro p e s m args below meth cd C H locs lA hP hS hl hf hg
  have hts := C.2.2.2.2.2.1
  have hwv : ∀ v ∈ vs, kwf g v := fun v hv => hg v (List.mem_append_left _ (List.mem_reverse.mpr hv))
  have hwr : ∀ v ∈ rest, kwf g v := fun v hv => hg v (List.mem_append_right _ hv)
  have hM := k C.2.2.2.2.2.2.2.2.1 C.2.2.2.2.2.2.2.2.2 hwv
  refine kgo (g := g) (rest := rest.map (kval g)) (va_runSN (As := vs.map (kval g)) (rest := rest.map (kval g)) ⟨C.1, C.2.1, C.2.2.2.1, C.2.2.2.2.1, hts⟩ hM ⟨va_cnB n hts (kgood F) rfl rfl rfl (C.2.2.2.2.2.2.2.1.2 _ F3) (hts _ F.2.1) F.2.2.1 (kroom hdep F.2.2.2), hts _ F2, trivial⟩ ⟨kblind, fun U hU hW => ⟨rfl, by rw [hU]; exact hP, C.2.2.2.2.2.2.2.1.warm hW⟩⟩ rfl (by rw [List.length_map]; exact hn) hl.1 (krev g vs rest) (lv_room (by rw [kcats]; exact hr)) hd ⟨Nat.zero_le _, Nat.zero_le _⟩) (fun _ h => h) hS (fun v M1 H1 locs1 h1 h2 h3 _ _ h4 => ?_)
  rw [kval_out]
  exact h1 p e s m args below meth cd C H1 locs1 lA h3 h4 hl hf (kwf_out h2 hwr)
theorem kwp_callV {Y : kX} {idx n c0 k0 ci N : Nat} {T : u_T} {fs : List kF} {vs rest : List kV} (F : kMb Y n) (F2 : Cond.instanceMethod Y.1 ∈ kw ∧ Cond.selects Y.1.cls Y.1 Y.1 ∈ kw) (F3 : Cond.methodLink X.1.cls idx Y.1 ∈ kw) (hdep : Y.2.2.2.2 < X.2.2.2.2) (hx : g.1.2 c0 = .inr (ci, fs)) (hc : vwCl[ci]? = some (Y.1.cls, T, N)) (hn : vs.length = n) (hst : vs.reverse ++ (.inr (.inr (c0, k0)) :: rest) = st) (hr : (rest.map kcat).sum ≤ 8) (hd : decode X.2.1 pc = .ok (.invokevirtual idx, 3)) (k : kCT l g Y (.inr (.inr (c0, k0)) :: vs) M (fun v M1 => kWP l g X (pc + 3) ls (v.toList ++ rest) M1 Q)) : kWP l g X pc ls st M Q := by
  subst hst
  intro p e s m args below meth cd C H locs lA hP hS hl hf hg
  have hts := C.2.2.2.2.2.1
  have hin : (c0, k0) ∈ g.1.1 := hg (.inr (.inr (c0, k0))) (List.mem_append_right _ List.mem_cons_self)
  have hwv : ∀ v ∈ vs, kwf g v := fun v hv => hg v (List.mem_append_left _ (List.mem_reverse.mpr hv))
  have hwr : ∀ v ∈ rest, kwf g v := fun v hv => hg v (List.mem_append_right _ (List.mem_cons_of_mem _ hv))
  have hM := k C.2.2.2.2.2.2.2.2.1 C.2.2.2.2.2.2.2.2.2 (kwf_cons hin hwv)
  refine kgo (g := g) (rest := rest.map (kval g)) (va_runV (C := Y.1.cls) (b := g.2.2.2 c0 k0) (As := vs.map (kval g)) (rest := rest.map (kval g)) ⟨C.1, C.2.1, C.2.2.2.1, C.2.2.2.2.1, hts⟩ hM ⟨callB_of n hts (kgood F) rfl rfl rfl (hts _ F.2.1) (hts _ F3) F.2.2.1 (kroom hdep F.2.2.2), hts _ F2.1, hts _ F2.2⟩ ⟨kblind, va_recv C.2.2.2.2.2.2.2.1.1 (kone hP hin) hc (q0 := 0) (by rw [kcell_o hx]; rfl), fun U hU hW => ⟨rfl, by rw [hU]; exact hP, C.2.2.2.2.2.2.2.1.warm hW⟩⟩ rfl (by rw [List.length_map]; exact hn) hl.1 (krev g vs (.inr (.inr (c0, k0)) :: rest)) (lv_room (by rw [kcats]; exact hr)) hd ⟨Nat.zero_le _, Nat.zero_le _⟩) (fun _ h => h) hS (fun v M1 H1 locs1 h1 h2 h3 _ _ h4 => ?_)
  rw [kval_out]
  exact h1 p e s m args below meth cd C H1 locs1 lA h3 h4 hl hf (kwf_out h2 hwr)
/-- a contract says less behind more -/
theorem kCT.mono {X : kX} {vs : List kV} {Q1 Q2 : Option kV → kM → Prop} (h : kCT l g X vs M Q1) (hQ : ∀ v M1, Q1 v M1 → Q2 v M1) : kCT l g X vs M Q2 := by
  intro hJ hOK hw
  intro p e h1 h2 h3 s m args below h4 h5 h6 h7
  obtain ⟨n, o, a, b, c, ⟨⟨v, M1, d1, d2, d3⟩, d4⟩, d5⟩ := h hJ hOK hw p e h1 h2 h3 s m args below h4 h5 h6 h7
  exact ⟨n, o, a, b, c, ⟨⟨v, M1, d1, hQ v M1 d2, d3⟩, d4⟩, d5⟩
theorem kWP.mono {Q1 Q2 : Option kV → kM → Prop} (h : kWP l g X pc ls st M Q1) (hQ : ∀ v M1, Q1 v M1 → Q2 v M1) : kWP l g X pc ls st M Q2 := by
  intro p e s m args below meth c C H locs lA hP hS hl hf hg T hT XX
  obtain ⟨t, a, o, b1, b2, b3, b4⟩ := h p e s m args below meth c C H locs lA hP hS hl hf hg T hT XX
  exact ⟨t, a, o, b1, b2, ⟨(let ⟨v, M1, a, b, c⟩ := b3.1; ⟨v, M1, a, hQ v M1 b, c⟩), b3.2⟩, b4⟩
end KR
