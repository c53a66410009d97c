/-! Math.max, Math.min: the kit's own rows -/
def mxi (a b : Int32) : Int32 := if a < b then b else a
def mni (a b : Int32) : Int32 := if b < a then b else a
theorem kw_max : Cond.code Lib.Math.max.name Lib.Math.max.code 2 (some .int) ∈ kw ∧ Cond.static Lib.Math.max.name ∈ kw ∧ Cond.initialized "java/lang/Math" ∈ kw := ⟨kw_t 440 (by decide +kernel) (by decide +kernel), kw_t 439 (by decide +kernel) (by decide +kernel), kw_t 9 (by decide +kernel) (by decide +kernel)⟩
theorem kw_min : Cond.code Lib.Math.min.name Lib.Math.min.code 2 (some .int) ∈ kw ∧ Cond.static Lib.Math.min.name ∈ kw := ⟨kw_t 340 (by decide +kernel) (by decide +kernel), kw_t 339 (by decide +kernel) (by decide +kernel)⟩
theorem kwp_mmax {l : Launch} {g : kG} {X : kX} {pc : Nat} {ls : List (Nat × kV)} {st : List kV} {M : kM} {Q : Option kV → kM → Prop} {x y : Int32} {idx : Nat} (F : Cond.methodLink X.1.cls idx Lib.Math.max.name ∈ kw) (hr : (st.map kcat).sum ≤ 8) (hdep : 1 ≤ X.2.2.2.2) (hd : decode X.2.1 pc = .ok (.invokestatic idx, 3)) (kk : kWP l g X (pc + 3) ls (.inl (mxi x y) :: st) M Q) : kWP l g X pc ls (.inl y :: .inl x :: st) M Q := by
  intro p e s m args below meth cd C H locs lA hP hS hl hf hg
  have hts := C.2.2.2.2.2.1
  refine va_mmax C.1 C.2.1 (C.2.2.2.1.trans hl.1.symm) C.2.2.2.2.1 (hts _ F) (hts _ kw_max.2.1) (hts _ kw_max.2.2) (hts _ kw_max.1) hdep ?_ (Nat.zero_le _) (Nat.zero_le _) hd ?_
  · rw [kcats]
    show _ ≤ 34 * X.2.2.2.2
    omega
  · exact kk p e s m args below meth cd C H locs lA hP hS hl hf (kwf_cons trivial (kwf_tl (kwf_tl hg)))
theorem kwp_mmin {l : Launch} {g : kG} {X : kX} {pc : Nat} {ls : List (Nat × kV)} {st : List kV} {M : kM} {Q : Option kV → kM → Prop} {x y : Int32} {idx : Nat} (F : Cond.methodLink X.1.cls idx Lib.Math.min.name ∈ kw) (hr : (st.map kcat).sum ≤ 8) (hdep : 1 ≤ X.2.2.2.2) (hd : decode X.2.1 pc = .ok (.invokestatic idx, 3)) (kk : kWP l g X (pc + 3) ls (.inl (mni x y) :: st) M Q) : kWP l g X pc ls (.inl y :: .inl x :: st) M Q := by
  intro p e s m args below meth cd C H locs lA hP hS hl hf hg
  have hts := C.2.2.2.2.2.1
  refine va_mmin C.1 C.2.1 (C.2.2.2.1.trans hl.1.symm) C.2.2.2.2.1 (hts _ F) (hts _ kw_min.2) (hts _ kw_max.2.2) (hts _ kw_min.1) hdep ?_ (Nat.zero_le _) (Nat.zero_le _) hd ?_
  · rw [kcats]
    show _ ≤ 34 * X.2.2.2.2
    omega
  · exact kk p e s m args below meth cd C H locs lA hP hS hl hf (kwf_cons trivial (kwf_tl (kwf_tl hg)))
