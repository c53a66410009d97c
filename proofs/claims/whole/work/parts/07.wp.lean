/-! ===== the words that hold everywhere ===== -/
def kw : List Cond := lw_tbl.filter goodWord
theorem kw_t {w : Cond} (i : Nat) (h : tables_1[i]? = some w) (hg : goodWord w = true) : w ∈ kw := List.mem_filter.mpr ⟨by unfold lw_tbl; exact List.mem_append_right _ (List.mem_of_getElem? h), hg⟩
theorem kw_l {w : Cond} (i : Nat) (h : (k2_sels lw_privs)[i]? = some w) (hg : goodWord w = true) : w ∈ kw := List.mem_filter.mpr ⟨by unfold lw_tbl; exact List.mem_append_left _ (List.mem_of_getElem? h), hg⟩
theorem kw_good {w : Cond} (h : w ∈ kw) : w ∈ kw ∧ ((w.onTables && w.keeps) = true ∨ ∃ ty, w = .arrayClass ty) := ⟨h, good_of_word (List.mem_filter.mp h).2⟩
theorem kw_tbl {args : Array Value} {s : State} (h : ∀ w ∈ lw_tbl, w.before args s = true) : ∀ w ∈ kw, w.before args s = true := fun w hw => h w (List.mem_filter.mp hw).1
/-! ===== a machine of fixed cells: values, memory, regions ===== -/
abbrev kV : Type := Int32 ⊕ Int64 ⊕ (Nat × Nat)
abbrev kM : Type := (Nat → Nat → Nat → Int32) × (Nat → Nat → Nat → Int64)
abbrev kF : Type := Nat ⊕ (Nat × Option Nat)
abbrev kR : Type := List (Nat × Nat) × (Nat → (Nat × Nat) ⊕ (Nat × List kF))
abbrev kG : Type := kR × va_G × (Nat → ClassId) × (Nat → Nat → Nat)
abbrev kX : Type := MethodName × ByteArray × Nat × Option FieldType × Nat
def kval (g : kG) : kV → Value
  | .inl x => .int x
  | .inr (.inl x) => .long x
  | .inr (.inr q) => .ref (g.2.2.2 q.1 q.2)
def kwf (g : kG) : kV → Prop
  | .inl _ => True
  | .inr (.inl _) => True
  | .inr (.inr q) => q ∈ g.1.1
def kfld (g : kG) (M : kM) (c k : Nat) : kF → Value
  | .inl j => .int (M.1 c k j)
  | .inr (c', none) => .ref (g.2.2.2 c' k)
  | .inr (c', some k0) => .ref (g.2.2.2 c' k0)
def kcell (g : kG) (M : kM) (c k : Nat) : va_E := match g.1.2 c with
  | .inl (0, n) => .inl (g.2.2.1 0, n, .inl (M.1 c k))
  | .inl (1, n) => .inl (g.2.2.1 1, n, .inr (.inl (M.2 c k)))
  | .inl (t + 2, n) => .inl (g.2.2.1 2, n, .inr (.inr (.inr (.inr (fun j => some (g.2.2.2 t j))))))
  | .inr (ci, fs) => .inr (ci, fs.map (kfld g M c k))
theorem kcell_i {g : kG} {M : kM} {c k n : Nat} (h : g.1.2 c = .inl (0, n)) : kcell g M c k = .inl (g.2.2.1 0, n, .inl (M.1 c k)) := by simp only [kcell, h]
theorem kcell_l {g : kG} {M : kM} {c k n : Nat} (h : g.1.2 c = .inl (1, n)) : kcell g M c k = .inl (g.2.2.1 1, n, .inr (.inl (M.2 c k))) := by simp only [kcell, h]
theorem kcell_r {g : kG} {M : kM} {c k n t : Nat} (h : g.1.2 c = .inl (t + 2, n)) : kcell g M c k = .inl (g.2.2.1 2, n, .inr (.inr (.inr (.inr (fun j => some (g.2.2.2 t j)))))) := by simp only [kcell, h]
theorem kcell_o {g : kG} {M : kM} {c k ci : Nat} {fs : List kF} (h : g.1.2 c = .inr (ci, fs)) : kcell g M c k = .inr (ci, fs.map (kfld g M c k)) := by simp only [kcell, h]
theorem kcell_same {g : kG} {M M' : kM} {c k : Nat} (h1 : M'.1 c k = M.1 c k) (h2 : M'.2 c k = M.2 c k) : kcell g M' c k = kcell g M c k := by
  have hf : kfld g M' c k = kfld g M c k := by
    funext f
    rcases f with j | ⟨c', _ | k0⟩
    · simp only [kfld, h1]
    · rfl
    · rfl
  simp only [kcell, h1, h2, hf]
def kP (g : kG) (M : kM) (H : Heap) : Prop := ∀ c k, (c, k) ∈ g.1.1 → va_at g.2.1 vwCl (g.2.2.2 c k, kcell g M c k) H
def kJ (g : kG) : Prop := ∀ c k c' k', (c, k) ∈ g.1.1 → (c', k') ∈ g.1.1 → g.2.2.2 c k = g.2.2.2 c' k' → c = c' ∧ k = k'
def kA (g : kG) : Nat → Prop := fun q => ∃ c k, (c, k) ∈ g.1.1 ∧ q = g.2.2.2 c k
def kN : List Cond := [.methodLinkNest RX0 45 yX5_has RX5, .methodLinkNest RX3 63 yX5_has RX5, .methodLinkNest RX3 67 yX5_minutesFor RX5, .methodLinkNest RX4 80 yX5_within RX5]
def kTy (g : kG) : List (ClassId × FieldType) := [(g.2.2.1 0, .int), (g.2.2.1 1, .long), (g.2.2.1 2, .object RX1)]
def kK (g : kG) (U : State) : Prop := va_K g.2.1 vwCl (kTy g) U ∧ ∀ w ∈ kN, va_Nw w U
/-- what the tables of a region must be: no cell twice, references lead to cells, a number's field has its own place -/
def kOK (r : kR) : Prop := r.1.Nodup ∧ (∀ (c k ci : Nat) (fs : List kF) (i : Nat) (f : kF), (c, k) ∈ r.1 → r.2 c = .inr (ci, fs) → fs[i]? = some f → match f with
  | .inl j => j = i
  | .inr (c', none) => (c', k) ∈ r.1
  | .inr (c', some k0) => (c', k0) ∈ r.1) ∧ ∀ c k t n j : Nat, (c, k) ∈ r.1 → r.2 c = .inl (t + 2, n) → j < n → (t, j) ∈ r.1
def kall (g : kG) (M : kM) : va_W := g.1.1.map (fun q => (g.2.2.2 q.1 q.2, kcell g M q.1 q.2))
theorem kall_P {g : kG} {M : kM} {H : Heap} (h : kP g M H) : va_P g.2.1 vwCl (kall g M) H := by
  intro i p hp
  unfold kall at hp
  rw [List.getElem?_map] at hp
  cases hi : g.1.1[i]? with
  | none => rw [hi] at hp; cases hp
  | some q =>
    rw [hi] at hp
    cases hp
    exact h q.1 q.2 (List.mem_of_getElem? hi)
theorem kall_D {g : kG} {M : kM} (hn : g.1.1.Nodup) (hJ : kJ g) : va_D (kA g) (kall g M) := by
  refine ⟨fun i j p q hi hj he => ?_, fun i p hi => ?_⟩
  · unfold kall at hi hj
    rw [List.getElem?_map] at hi hj
    cases h1 : g.1.1[i]? with
    | none => rw [h1] at hi; cases hi
    | some a =>
      cases h2 : g.1.1[j]? with
      | none => rw [h2] at hj; cases hj
      | some b =>
        rw [h1] at hi
        rw [h2] at hj
        cases hi
        cases hj
        have hab := hJ a.1 a.2 b.1 b.2 (List.mem_of_getElem? h1) (List.mem_of_getElem? h2) he
        have e : a = b := Prod.ext hab.1 hab.2
        subst e
        obtain ⟨hi', e1⟩ := List.getElem?_eq_some_iff.mp h1
        obtain ⟨hj', e2⟩ := List.getElem?_eq_some_iff.mp h2
        have hpw := List.pairwise_iff_getElem.mp hn
        rcases Nat.lt_trichotomy i j with h | h | h
        · exact absurd (e1.trans e2.symm) (hpw i j hi' hj' h)
        · exact h
        · exact absurd (e2.trans e1.symm) (hpw j i hj' hi' h)
  · unfold kall at hi
    rw [List.getElem?_map] at hi
    cases h1 : g.1.1[i]? with
    | none => rw [h1] at hi; cases hi
    | some a =>
      rw [h1] at hi
      cases hi
      exact ⟨a.1, a.2, List.mem_of_getElem? h1, rfl⟩
theorem kall_at {g : kG} {M : kM} {c k : Nat} (h : (c, k) ∈ g.1.1) : ∃ i : Nat, g.1.1[i]? = some (c, k) ∧ (kall g M)[i]? = some (g.2.2.2 c k, kcell g M c k) := by
  obtain ⟨i, hi⟩ := List.getElem?_of_mem h
  exact ⟨i, hi, by unfold kall; rw [List.getElem?_map, hi]; rfl⟩
/-- behind a store into one cell -/
theorem kP_set {g : kG} {M M' : kM} {H : Heap} {i c k : Nat} {e : va_E} (hi : g.1.1[i]? = some (c, k)) (h : va_P g.2.1 vwCl ((kall g M).set i (g.2.2.2 c k, e)) H) (he : kcell g M' c k = e)
    (ho : ∀ a b, ¬ (a = c ∧ b = k) → M'.1 a b = M.1 a b ∧ M'.2 a b = M.2 a b) : kP g M' H := by
  intro a b hab
  have hlen : i < (kall g M).length := by
    have := (List.getElem?_eq_some_iff.mp hi).1
    unfold kall
    rw [List.length_map]
    exact this
  by_cases hq : a = c ∧ b = k
  · obtain ⟨rfl, rfl⟩ := hq
    rw [he]
    exact h i _ (List.getElem?_set_self hlen)
  · obtain ⟨j, hj, hj2⟩ := kall_at (M := M) hab
    have hne : i ≠ j := by
      rintro rfl
      rw [hi] at hj
      cases hj
      exact hq ⟨rfl, rfl⟩
    have := h j (g.2.2.2 a b, kcell g M a b) (by rw [List.getElem?_set_ne hne]; exact hj2)
    rw [kcell_same (ho a b hq).1 (ho a b hq).2]
    exact this
def ku (M : kM) (c k j : Nat) (v : Int32) : kM := (fun a b d => if a = c ∧ b = k ∧ d = j then v else M.1 a b d, M.2)
def kul (M : kM) (c k j : Nat) (v : Int64) : kM := (M.1, fun a b d => if a = c ∧ b = k ∧ d = j then v else M.2 a b d)
def kcp (M : kM) (c0 k0 sp c k dp n : Nat) : kM := (fun a b d => if a = c ∧ b = k ∧ dp ≤ d ∧ d < dp + n then M.1 c0 k0 (sp + (d - dp)) else M.1 a b d, M.2)
def kcpl (M : kM) (c0 k0 sp c k dp n : Nat) : kM := (M.1, fun a b d => if a = c ∧ b = k ∧ dp ≤ d ∧ d < dp + n then M.2 c0 k0 (sp + (d - dp)) else M.2 a b d)
theorem ku_o {M : kM} {c k j : Nat} {v : Int32} : ∀ a b, ¬ (a = c ∧ b = k) → (ku M c k j v).1 a b = M.1 a b ∧ (ku M c k j v).2 a b = M.2 a b := fun a b h => ⟨by funext d; unfold ku; exact if_neg (fun q => h ⟨q.1, q.2.1⟩), rfl⟩
theorem kul_o {M : kM} {c k j : Nat} {v : Int64} : ∀ a b, ¬ (a = c ∧ b = k) → (kul M c k j v).1 a b = M.1 a b ∧ (kul M c k j v).2 a b = M.2 a b := fun a b h => ⟨rfl, by funext d; unfold kul; exact if_neg (fun q => h ⟨q.1, q.2.1⟩)⟩
theorem kcp_o {M : kM} {c0 k0 sp c k dp n : Nat} : ∀ a b, ¬ (a = c ∧ b = k) → (kcp M c0 k0 sp c k dp n).1 a b = M.1 a b ∧ (kcp M c0 k0 sp c k dp n).2 a b = M.2 a b := fun a b h => ⟨by funext d; unfold kcp; exact if_neg (fun q => h ⟨q.1, q.2.1⟩), rfl⟩
theorem kcpl_o {M : kM} {c0 k0 sp c k dp n : Nat} : ∀ a b, ¬ (a = c ∧ b = k) → (kcpl M c0 k0 sp c k dp n).1 a b = M.1 a b ∧ (kcpl M c0 k0 sp c k dp n).2 a b = M.2 a b := fun a b h => ⟨rfl, by funext d; unfold kcpl; exact if_neg (fun q => h ⟨q.1, q.2.1⟩)⟩
theorem ku_upd {M : kM} {c k j : Nat} {v : Int32} : (ku M c k j v).1 c k = upd (M.1 c k) j v := by
  funext d
  unfold ku upd
  by_cases h : d = j
  · subst h; simp
  · simp [h]
theorem kul_upd {M : kM} {c k j : Nat} {v : Int64} : (kul M c k j v).2 c k = vp_updL (M.2 c k) j v := by
  funext d
  unfold kul vp_updL
  by_cases h : d = j
  · subst h; simp
  · simp [h]
theorem kcp_cpy {M : kM} {c0 k0 sp c k dp n : Nat} : (kcp M c0 k0 sp c k dp n).1 c k = va_cpy (M.1 c0 k0) (M.1 c k) sp dp n := by
  funext d
  simp only [kcp, va_cpy, true_and]
theorem kcpl_cpy {M : kM} {c0 k0 sp c k dp n : Nat} : (kcpl M c0 k0 sp c k dp n).2 c k = va_cpy (M.2 c0 k0) (M.2 c k) sp dp n := by
  funext d
  simp only [kcpl, va_cpy, true_and]
/-! ===== judgements ===== -/
def kws (X : kX) : List Cond := .code X.1 X.2.1 X.2.2.1 X.2.2.2.1 :: kw
def krm (d : Nat) : Room := { frames := d, cells := 0, slots := 0, locals := 34 * d }
def kC (g : kG) (X : kX) (p : Program) (s : State) (m : MethodId) (args : Array Value) (meth : Method) (c : Code) : Prop :=
  p.tables.exec = Jvm.exec ∧ c.code = X.2.1 ∧ meth.sig.returnType = X.2.2.2.1 ∧ c.maxLocals = X.2.2.1 ∧ s.vm.findClass X.1.cls = some m.cls ∧ (∀ w ∈ kw, w.before args s = true) ∧ meth.locks = false ∧ kK g s ∧ kJ g ∧ kOK g.1
def kQ (g : kG) (Q : Option kV → kM → Prop) : Array Value → State → Outcome → State → Prop := fun _ st oc t => (∃ (v : Option kV) (M : kM), oc = .returned (v.map (kval g)) ∧ Q v M ∧ (∀ x, v = some x → kwf g x) ∧ kP g M t.heap) ∧ va_F (kA g) st t
def kloc (g : kG) (q : Nat × kV) : Nat × Value := (q.1, kval g q.2)
def kWP (l : Launch) (g : kG) (X : kX) (pc : Nat) (ls : List (Nat × kV)) (st : List kV) (M : kM) (Q : Option kV → kM → Prop) : Prop :=
  ∀ (p : Program) (e : Env) (s : State) (m : MethodId) (args : Array Value) (below : List Frame) (meth : Method) (c : Code), kC g X p s m args meth c → ∀ (H : Heap) (locs : List Loc) (lA : Array Slot), kP g M H → va_S (kA g) s.heap H locs → lv_has lA X.2.2.1 (ls.map (kloc g)) → (∀ q ∈ ls, kwf g q.2) → (∀ v ∈ st, kwf g v) →
    W p l e (krm X.2.2.2.2) s m args below meth c H locs 0 0 (MQ below (kQ g Q) args s 0 0 (kA g)) (F0 m pc lA (st.map (kval g)))
def kCT (l : Launch) (g : kG) (X : kX) (vs : List kV) (M : kM) (Q : Option kV → kM → Prop) : Prop :=
  kJ g → kOK g.1 → (∀ v ∈ vs, kwf g v) → Met l X.1 (kws X) (krm X.2.2.2.2) (va_Pc (vs.map (kval g)) (fun U => kP g M U.heap ∧ kK g U)) (kQ g Q) 0 0 (kA g)
def kargs : Nat → List kV → List (Nat × kV)
  | _, [] => []
  | i, .inl x :: vs => (i, .inl x) :: kargs (i + 1) vs
  | i, .inr (.inl x) :: vs => (i, .inr (.inl x)) :: kargs (i + 2) vs
  | i, .inr (.inr x) :: vs => (i, .inr (.inr x)) :: kargs (i + 1) vs
theorem kargs_map (g : kG) : ∀ (vs : List kV) (i : Nat), lv_args i (vs.map (kval g)) = (kargs i vs).map (kloc g)
  | [], _ => rfl
  | .inl x :: vs, i => by
    have := kargs_map g vs (i + 1)
    simp only [List.map_cons, lv_args, kargs, kval, kloc, Value.category] at this ⊢
    rw [← this]
    rfl
  | .inr (.inl x) :: vs, i => by
    have := kargs_map g vs (i + 2)
    simp only [List.map_cons, lv_args, kargs, kval, kloc, Value.category] at this ⊢
    rw [← this]
    rfl
  | .inr (.inr x) :: vs, i => by
    have := kargs_map g vs (i + 1)
    simp only [List.map_cons, lv_args, kargs, kval, kloc, Value.category] at this ⊢
    rw [← this]
    rfl
theorem kargs_wf {g : kG} : ∀ (vs : List kV) (i : Nat), (∀ v ∈ vs, kwf g v) → ∀ q ∈ kargs i vs, kwf g q.2
  | [], _, _, q, hq => by cases hq
  | .inl x :: vs, i, h, q, hq => by
    rcases List.mem_cons.mp hq with rfl | hq
    · exact trivial
    · exact kargs_wf vs (i + 1) (fun v hv => h v (List.mem_cons_of_mem _ hv)) q hq
  | .inr (.inl x) :: vs, i, h, q, hq => by
    rcases List.mem_cons.mp hq with rfl | hq
    · exact trivial
    · exact kargs_wf vs (i + 2) (fun v hv => h v (List.mem_cons_of_mem _ hv)) q hq
  | .inr (.inr x) :: vs, i, h, q, hq => by
    rcases List.mem_cons.mp hq with rfl | hq
    · exact h _ List.mem_cons_self
    · exact kargs_wf vs (i + 1) (fun v hv => h v (List.mem_cons_of_mem _ hv)) q hq
def kcat : kV → Nat
  | .inl _ => 1
  | .inr (.inl _) => 2
  | .inr (.inr _) => 1
theorem kcat_eq (g : kG) (v : kV) : (kval g v).category = kcat v := by rcases v with x | x | x <;> rfl
theorem klen (g : kG) : ∀ vs : List kV, (lg_sl (vs.map (kval g))).length = (vs.map kcat).sum
  | [] => rfl
  | v :: vs => by
    have := klen g vs
    rcases v with x | x | x <;> simp [lg_sl, kval, Value.category, kcat] at this ⊢ <;> omega
/-- a method's contract out of its body -/
theorem kct {l : Launch} {g : kG} {X : kX} {vs : List kV} {M : kM} {Q : Option kV → kM → Prop} (hy : plainName X.1.cls = true) (hlen : (vs.map kcat).sum ≤ X.2.2.1) (h : kWP l g X 0 (kargs 0 vs) [] M Q) : kCT l g X vs M Q := by
  intro hJ hOK hwf
  refine Met.ofW (cc := X.2.1) (maxL := X.2.2.1) (ret := X.2.2.2.1) (ws' := kw) hy rfl ?_
  intro p e s m args below meth c s₁ B hml hv
  obtain ⟨rfl, hP, hK⟩ := hv
  have hts := atoms_spec (ws := kws X) B.pre
  have hl := lv_entry (vs.map (kval g)) (n := X.2.2.1) (by rw [klen]; exact hlen)
  rw [kargs_map] at hl
  rw [lg_entry_eq]
  exact h p e s m _ below meth c ⟨B.exec, B.bytes, B.returns, hml, findClass_of_methodNamed B.named, fun w hw => hts w (List.mem_cons_of_mem _ hw), B.notSynchronized, hK, hJ, hOK⟩ s.heap [] _ hP va_S.rf hl (kargs_wf vs 0 hwf) (fun v hv => by cases hv)
theorem kwf_cons {g : kG} {v : kV} {st : List kV} (h : kwf g v) (hr : ∀ v ∈ st, kwf g v) : ∀ w ∈ v :: st, kwf g w := fun w hw => (List.mem_cons.mp hw).elim (fun e => e ▸ h) (hr w)
theorem kwf_tl {g : kG} {v : kV} {st : List kV} (hr : ∀ w ∈ v :: st, kwf g w) : ∀ w ∈ st, kwf g w := fun w hw => hr w (List.mem_cons_of_mem _ hw)
theorem kwf_hd {g : kG} {v : kV} {st : List kV} (hr : ∀ w ∈ v :: st, kwf g w) : kwf g v := hr v List.mem_cons_self
