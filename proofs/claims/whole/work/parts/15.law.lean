-- ===== end of PART A; then your names; then what follows =====
/-! THE CLAIM OUT OF ONE WALK OF THE LAW'S BODY. Your part is whole_start (and what it stands on); all else here is the same for every law, but numbers. -/
def R_law : String := "BorderForgeLaw"
def lw_P (b : Addr) (xs : List Int32) (args : Array Value) (s : State) : Prop := args = #[.ref b] ∧ s.IntsAt b xs ∧ xs.length ≤ 3072 ∧ (Jvm.Cond.and given_1 narrow_1).before args s = true
def lw_Q (_ : Array Value) (s : State) (o : Outcome) (t : State) : Prop := o = .returned (some (.int 1)) ∧ Framed s o t [] 66 1894
def lw_Z (below : List Frame) (a : Array Value) (s : State) : State → Prop := fun t => ∃ o, t.status = .running ∧ Ended t below o ∧ lw_Q a s o t
/-- the law's own end, with 1 on the stack, nothing written that was there before, its room as the claim has it -/
theorem lw_ret {p : Program} {l : Launch} {e : Env} {s : State} {m : MethodId} {below : List Frame} {meth : Method} {c : Code} {b : Nat} (hx : p.tables.exec = Jvm.exec) (hb : c.code = code) (hr : meth.sig.returnType = ret) (hlocks : meth.locks = false) {pc : Nat} {H : Heap} {ls : Array Slot} (hdg : decode code pc = .ok (.ireturn, 1)) : W p l e room_1 s m #[Value.ref b] below meth c H [] 66 1894 (lw_Z below #[Value.ref b] s) (F0 m pc ls [.int 1]) := by
  intro T hT X
  obtain ⟨fs, hret, hrun, hended, hW, hframe⟩ := X.leave (v := some (.int 1)) (hlocks := hlocks) (fun h => by rw [hr] at h; cases h)
  have hmeth' : T.vm.method? m = some meth := X.method'
  refine ⟨T.setFrames fs, ?_, .returned (some (.int 1)), hrun, hended, rfl, ⟨_, rfl⟩, hW, hframe⟩
  jvm_step X.here [X.here.top, hx, hb, hdg, hmeth', hr, ret, narrow_b1]
  (try refine ⟨rfl, ?_⟩); (try refine ⟨rfl, ?_⟩)
  first | (intro acts; rw [hret _ acts rfl rfl rfl]) | rw [hret _ _ rfl rfl rfl]
  exact Steps.refl _
/-- what holds at the law's entry: the machine, the code, the tables' words (any of lw_tbl by 'hts w (by decide +kernel)'), the script of L ints xs at the cell b, what the Statement gives of the start (any of its parts by flat_of_before) -/
def lw_At (p : Program) (s : State) (m : MethodId) (meth : Method) (c : Code) (b L : Nat) (xs : Nat → Int32) : Prop :=
  p.tables.exec = Jvm.exec ∧ c.code = code ∧ meth.sig.returnType = ret ∧ c.maxLocals = 4 ∧ s.vm.findClass R_law = some m.cls ∧ (∀ w ∈ lw_tbl, w.before #[Value.ref b] s = true) ∧ va_X b L xs s s.heap ∧ b < s.heap.size ∧ meth.locks = false ∧ (Jvm.Cond.and given_1 narrow_1).before #[Value.ref b] s = true
theorem cn_L_142 : Cond.constantLong RL 142 (4294967295) ∈ kw := kw_t 903 (by decide +kernel) (by decide +kernel)
/-! ===== the law over pairs of contracts ===== -/
theorem h00x : ((0, 0) : Nat × Nat) ∈ rg_x.1 := by decide
theorem h00m : ((0, 0) : Nat × Nat) ∈ rg_m.1 := by decide
def kAl (s : State) : Nat → Prop := fun q => s.heap.size ≤ q
def kSep (g : kG) (s : State) : Prop := kK g s ∧ kJ g ∧ kOK g.1 ∧ ∀ q, kA g q → s.heap.size ≤ q
theorem kP.kept {g g2 : kG} {M : kM} {H H1 : Heap} (hP : kP g M H) (hd : ∀ q, kA g q → ¬ kA g2 q) (hk : ∀ q : Nat, q < H.size → ¬ kA g2 q → H1[q]? = H[q]?) : kP g M H1 := fun c k h => (hP c k h).kept (hk _ (hP c k h).lt (hd _ ⟨c, k, h, rfl⟩))
theorem lcall {p : Program} {l : Launch} {e : Env} {s : State} {m : MethodId} {below : List Frame} {meth : Method} {c : Code} {b L : Nat} {xs : Nat → Int32} {g : kG} {Y : kX} {idx n ci N pc : Nat} {T : u_T} {fs : List kF} {vs : List kV} {rest : List Value} {lA : Array Slot} {Qf : State → Prop} {Q1 : Int32 → kM → Prop} {M : kM} {H : Heap} {locs : List Loc}
    (C0 : lw_At p s m meth c b L xs) (G : kSep g s) (hP : kP g M H) (hS : va_S (kAl s) s.heap H locs) (F : kMb Y n) (F2 : Cond.instanceMethod Y.1 ∈ kw ∧ Cond.selects Y.1.cls Y.1 Y.1 ∈ kw) (F3 : Cond.methodLink RL idx Y.1 ∈ kw) (hdep : Y.2.2.2.2 ≤ 8) (hx : g.1.2 0 = .inr (ci, fs)) (h00 : ((0, 0) : Nat × Nat) ∈ g.1.1) (hc : vwCl[ci]? = some (Y.1.cls, T, N)) (hn : vs.length = n) (hv : ∀ v ∈ vs, kwf g v) (hsz : lA.size = 4) (hr : (rest.map fun v => v.category).sum ≤ 8) (hd : decode code pc = .ok (.invokevirtual idx, 3))
    (k : kCT l g Y (.inr (.inr (0, 0)) :: vs) M (kqi Q1))
    (kk : ∀ (r : Int32) (M1 : kM) (H1 : Heap) (locs1 : List Loc), Q1 r M1 → kP g M1 H1 → (∀ q : Nat, q < H.size → ¬ kA g q → H1[q]? = H[q]?) → va_S (kAl s) s.heap H1 locs1 → W p l e room_1 s m #[Value.ref b] below meth c H1 locs1 66 1894 Qf (F0 m (pc + 3) lA (.int r :: rest))) :
    W p l e room_1 s m #[Value.ref b] below meth c H locs 66 1894 Qf (F0 m pc lA ((vs.map (kval g)).reverse ++ .ref (g.2.2.2 0 0) :: rest)) := by
  obtain ⟨hx1, hb, hr1, hml, hown, hts0, hX, hbl, hlocks, hgv⟩ := C0
  have hts := kw_tbl hts0
  have hM := k G.2.1 G.2.2.1 (kwf_cons h00 hv)
  refine kgo (g := g) (rest := rest) (va_runV (C := Y.1.cls) (b := g.2.2.2 0 0) (As := vs.map (kval g)) (rest := rest) ⟨hx1, hb, hml, hown, hts⟩ hM ⟨callB_of n hts (kgood F) rfl rfl rfl (hts _ F.2.1) (hts _ F3) F.2.2.1 ?_, hts _ F2.1, hts _ F2.2⟩ ⟨kblind, va_recv G.1.1 (kone hP h00) hc (q0 := 0) (by rw [kcell_o hx]; rfl), fun U hU hW => ⟨rfl, by rw [hU]; exact hP, G.1.warm hW⟩⟩ rfl (by rw [List.length_map]; exact hn) hsz rfl (lv_room hr) hd ⟨Nat.le_refl _, Nat.le_refl _⟩) G.2.2.2 hS (fun v M1 H1 locs1 h1 h2 h3 _ h5 h4 => ?_)
  · have h6 := F.2.2.2
    refine ⟨Nat.succ_le_succ hdep, ?_⟩
    show 8 + (Y.2.2.1 + 11) + 34 * Y.2.2.2.2 ≤ 328
    omega
  · obtain ⟨r, rfl, h1⟩ := h1
    exact kk r M1 H1 locs1 h1 h3 h5 h4
/-- one of the script's ints on the stack -/
theorem lpush {p : Program} {l : Launch} {e : Env} {s : State} {m : MethodId} {below : List Frame} {meth : Method} {c : Code} {b L : Nat} {xs : Nat → Int32} {pc i k : Nat} {q1 q2 : Nat} {lA : Array Slot} {rest : List Value} {Qf : State → Prop} {H : Heap} {locs : List Loc} {x3 : Int32} {n : Int}
    (C0 : lw_At p s m meth c b L xs) (hL : L ≤ 3072) (hS : va_S (kAl s) s.heap H locs) (hl : lv_has lA 4 [(0, .ref b), (1, .ref q1), (2, .ref q2), (3, .int x3)]) (hi : x3 = nI i) (hk : i + k < L) (hn : Int32.ofInt n = nI k)
    (d0 : decode code pc = .ok (.aload_n 0, 1)) (d1 : decode code (pc + 1) = .ok (.iload_n 3, 1)) (d2 : decode code (pc + 1 + 1) = .ok (.iconst n, 1)) (d3 : decode code (pc + 1 + 1 + 1) = .ok (.iadd, 1)) (d4 : decode code (pc + 1 + 1 + 1 + 1) = .ok (.iaload, 1))
    (kk : W p l e room_1 s m #[Value.ref b] below meth c H locs 66 1894 Qf (F0 m (pc + 5) lA (.int (xs (i + k)) :: rest))) : W p l e room_1 s m #[Value.ref b] below meth c H locs 66 1894 Qf (F0 m pc lA rest) := by
  obtain ⟨hx1, hb, hr1, hml, hown, hts0, hX, hbl, hlocks, hgv⟩ := C0
  refine lv_aload_n hx1 hb d0 rfl (lv_at hl 0 rfl) ?_
  refine lv_iload_n hx1 hb d1 rfl (lv_at hl 3 rfl) ?_
  refine lv_iconst hx1 hb d2 hn ?_
  refine lv_iadd hx1 hb d3 ?_
  have e1 : x3 + nI k = nI (i + k) := by rw [hi, nI_add]
  rw [e1]
  have e2 : (nI (i + k)).toNatClampNeg = i + k := nI_clamp (by omega)
  refine va_sld (A := kAl s) hx1 hb hX hbl (Nat.not_le.mpr hbl) hS (vp_in_nI hk (by omega)) d4 ?_
  rw [e2]
  exact kk
def kPair (l : Launch) (g1 g2 : va_G × (Nat → ClassId) × (Nat → Nat → Nat)) (Y Z : kX) (vs : List kV) (Mx Mm : kM) (Post : kM → kM → Prop) : Prop := kCT l (rg_x, g1) Y (.inr (.inr (0, 0)) :: vs) Mx (kqi (fun r Mx1 => kCT l (rg_m, g2) Z (.inr (.inr (0, 0)) :: vs) Mm (kqi (fun r2 Mm1 => r = r2 ∧ Post Mx1 Mm1))))
def lS (g1 g2 : va_G × (Nat → ClassId) × (Nat → Nat → Nat)) (s : State) (Mx Mm : kM) (H : Heap) (locs : List Loc) : Prop := kP (rg_x, g1) Mx H ∧ kP (rg_m, g2) Mm H ∧ va_S (kAl s) s.heap H locs
def lG (g1 g2 : va_G × (Nat → ClassId) × (Nat → Nat → Nat)) (s : State) : Prop := kSep (rg_x, g1) s ∧ kSep (rg_m, g2) s ∧ (∀ q, kA (rg_x, g1) q → ¬ kA (rg_m, g2) q)
theorem ml_L_13 : Cond.methodLink RL 13 yX5_stage ∈ kw := kw_t 187 (by decide +kernel) (by decide +kernel)
theorem ml_L_17 : Cond.methodLink RL 17 yX6_stage ∈ kw := kw_t 623 (by decide +kernel) (by decide +kernel)
theorem ml_L_18 : Cond.methodLink RL 18 yX5_rider ∈ kw := kw_t 202 (by decide +kernel) (by decide +kernel)
theorem ml_L_21 : Cond.methodLink RL 21 yX6_rider ∈ kw := kw_t 632 (by decide +kernel) (by decide +kernel)
theorem ml_L_22 : Cond.methodLink RL 22 yX5_of ∈ kw := kw_t 210 (by decide +kernel) (by decide +kernel)
theorem ml_L_26 : Cond.methodLink RL 26 yX6_of ∈ kw := kw_t 638 (by decide +kernel) (by decide +kernel)
theorem ml_L_27 : Cond.methodLink RL 27 yX5_at ∈ kw := kw_t 214 (by decide +kernel) (by decide +kernel)
theorem ml_L_30 : Cond.methodLink RL 30 yX6_at ∈ kw := kw_t 642 (by decide +kernel) (by decide +kernel)
theorem ml_L_31 : Cond.methodLink RL 31 yX5_buys ∈ kw := kw_t 233 (by decide +kernel) (by decide +kernel)
theorem ml_L_34 : Cond.methodLink RL 34 yX6_buys ∈ kw := kw_t 661 (by decide +kernel) (by decide +kernel)
theorem ml_L_35 : Cond.methodLink RL 35 yX5_price ∈ kw := kw_t 237 (by decide +kernel) (by decide +kernel)
theorem ml_L_39 : Cond.methodLink RL 39 yX6_price ∈ kw := kw_t 665 (by decide +kernel) (by decide +kernel)
theorem ml_L_40 : Cond.methodLink RL 40 yX5_type ∈ kw := kw_t 241 (by decide +kernel) (by decide +kernel)
theorem ml_L_43 : Cond.methodLink RL 43 yX6_type ∈ kw := kw_t 669 (by decide +kernel) (by decide +kernel)
theorem ml_L_44 : Cond.methodLink RL 44 yX5_road ∈ kw := kw_t 253 (by decide +kernel) (by decide +kernel)
theorem ml_L_48 : Cond.methodLink RL 48 yX6_road ∈ kw := kw_t 675 (by decide +kernel) (by decide +kernel)
theorem ml_L_49 : Cond.methodLink RL 49 yX5_count ∈ kw := kw_t 310 (by decide +kernel) (by decide +kernel)
theorem ml_L_52 : Cond.methodLink RL 52 yX6_count ∈ kw := kw_t 724 (by decide +kernel) (by decide +kernel)
theorem ml_L_53 : Cond.methodLink RL 53 yX5_ride ∈ kw := kw_t 326 (by decide +kernel) (by decide +kernel)
theorem ml_L_56 : Cond.methodLink RL 56 yX6_ride ∈ kw := kw_t 744 (by decide +kernel) (by decide +kernel)
theorem ml_L_57 : Cond.methodLink RL 57 yX5_wheel ∈ kw := kw_t 349 (by decide +kernel) (by decide +kernel)
theorem ml_L_60 : Cond.methodLink RL 60 yX6_wheel ∈ kw := kw_t 759 (by decide +kernel) (by decide +kernel)
theorem ml_L_61 : Cond.methodLink RL 61 yX5_give ∈ kw := kw_t 353 (by decide +kernel) (by decide +kernel)
theorem ml_L_64 : Cond.methodLink RL 64 yX6_give ∈ kw := kw_t 763 (by decide +kernel) (by decide +kernel)
theorem ml_L_65 : Cond.methodLink RL 65 yX5_drift ∈ kw := kw_t 362 (by decide +kernel) (by decide +kernel)
theorem ml_L_68 : Cond.methodLink RL 68 yX6_drift ∈ kw := kw_t 771 (by decide +kernel) (by decide +kernel)
theorem ml_L_69 : Cond.methodLink RL 69 yX5_undo ∈ kw := kw_t 373 (by decide +kernel) (by decide +kernel)
theorem ml_L_72 : Cond.methodLink RL 72 yX6_undo ∈ kw := kw_t 778 (by decide +kernel) (by decide +kernel)
theorem ml_L_73 : Cond.methodLink RL 73 yX5_seed ∈ kw := kw_t 385 (by decide +kernel) (by decide +kernel)
theorem ml_L_76 : Cond.methodLink RL 76 yX6_seed ∈ kw := kw_t 782 (by decide +kernel) (by decide +kernel)
theorem ml_L_77 : Cond.methodLink RL 77 yX5_ahead ∈ kw := kw_t 389 (by decide +kernel) (by decide +kernel)
theorem ml_L_80 : Cond.methodLink RL 80 yX6_ahead ∈ kw := kw_t 786 (by decide +kernel) (by decide +kernel)
theorem ml_L_81 : Cond.methodLink RL 81 yX5_comes ∈ kw := kw_t 417 (by decide +kernel) (by decide +kernel)
theorem ml_L_84 : Cond.methodLink RL 84 yX6_comes ∈ kw := kw_t 802 (by decide +kernel) (by decide +kernel)
theorem ml_L_85 : Cond.methodLink RL 85 yX5_first ∈ kw := kw_t 425 (by decide +kernel) (by decide +kernel)
theorem ml_L_88 : Cond.methodLink RL 88 yX6_first ∈ kw := kw_t 806 (by decide +kernel) (by decide +kernel)
theorem ml_L_89 : Cond.methodLink RL 89 yX5_caught ∈ kw := kw_t 434 (by decide +kernel) (by decide +kernel)
theorem ml_L_92 : Cond.methodLink RL 92 yX6_caught ∈ kw := kw_t 814 (by decide +kernel) (by decide +kernel)
theorem ml_L_93 : Cond.methodLink RL 93 yX5_best ∈ kw := kw_t 441 (by decide +kernel) (by decide +kernel)
theorem ml_L_96 : Cond.methodLink RL 96 yX6_best ∈ kw := kw_t 818 (by decide +kernel) (by decide +kernel)
theorem ml_L_97 : Cond.methodLink RL 97 yX5_earlier ∈ kw := kw_t 459 (by decide +kernel) (by decide +kernel)
theorem ml_L_100 : Cond.methodLink RL 100 yX6_earlier ∈ kw := kw_t 826 (by decide +kernel) (by decide +kernel)
theorem ml_L_101 : Cond.methodLink RL 101 yX5_purse ∈ kw := kw_t 463 (by decide +kernel) (by decide +kernel)
theorem ml_L_104 : Cond.methodLink RL 104 yX6_purse ∈ kw := kw_t 830 (by decide +kernel) (by decide +kernel)
theorem ml_L_105 : Cond.methodLink RL 105 yX5_loosened ∈ kw := kw_t 467 (by decide +kernel) (by decide +kernel)
theorem ml_L_108 : Cond.methodLink RL 108 yX6_loosened ∈ kw := kw_t 835 (by decide +kernel) (by decide +kernel)
theorem ml_L_109 : Cond.methodLink RL 109 yX5_duel ∈ kw := kw_t 471 (by decide +kernel) (by decide +kernel)
theorem ml_L_112 : Cond.methodLink RL 112 yX6_duel ∈ kw := kw_t 839 (by decide +kernel) (by decide +kernel)
theorem ml_L_113 : Cond.methodLink RL 113 yX5_luck ∈ kw := kw_t 483 (by decide +kernel) (by decide +kernel)
theorem ml_L_116 : Cond.methodLink RL 116 yX6_luck ∈ kw := kw_t 851 (by decide +kernel) (by decide +kernel)
theorem ml_L_117 : Cond.methodLink RL 117 yX5_image ∈ kw := kw_t 498 (by decide +kernel) (by decide +kernel)
theorem ml_L_120 : Cond.methodLink RL 120 yX6_image ∈ kw := kw_t 856 (by decide +kernel) (by decide +kernel)
theorem ml_L_121 : Cond.methodLink RL 121 yX5_restore ∈ kw := kw_t 508 (by decide +kernel) (by decide +kernel)
theorem ml_L_124 : Cond.methodLink RL 124 yX6_restore ∈ kw := kw_t 860 (by decide +kernel) (by decide +kernel)
theorem ml_L_125 : Cond.methodLink RL 125 yX5_passed ∈ kw := kw_t 512 (by decide +kernel) (by decide +kernel)
theorem ml_L_129 : Cond.methodLink RL 129 yX6_passed ∈ kw := kw_t 864 (by decide +kernel) (by decide +kernel)
theorem ml_L_130 : Cond.methodLink RL 130 yX5_film ∈ kw := kw_t 542 (by decide +kernel) (by decide +kernel)
theorem ml_L_133 : Cond.methodLink RL 133 yX6_film ∈ kw := kw_t 880 (by decide +kernel) (by decide +kernel)
theorem ml_L_134 : Cond.methodLink RL 134 yX5_sheet ∈ kw := kw_t 550 (by decide +kernel) (by decide +kernel)
theorem ml_L_137 : Cond.methodLink RL 137 yX6_sheet ∈ kw := kw_t 887 (by decide +kernel) (by decide +kernel)
theorem ml_L_138 : Cond.methodLink RL 138 yX5_drop ∈ kw := kw_t 558 (by decide +kernel) (by decide +kernel)
theorem ml_L_141 : Cond.methodLink RL 141 yX6_drop ∈ kw := kw_t 891 (by decide +kernel) (by decide +kernel)
theorem ml_L_144 : Cond.methodLink RL 144 yX5_item ∈ kw := kw_t 567 (by decide +kernel) (by decide +kernel)
theorem ml_L_148 : Cond.methodLink RL 148 yX6_item ∈ kw := kw_t 895 (by decide +kernel) (by decide +kernel)
theorem ml_L_149 : Cond.methodLink RL 149 yX5_copy ∈ kw := kw_t 571 (by decide +kernel) (by decide +kernel)
theorem ml_L_152 : Cond.methodLink RL 152 yX6_copy ∈ kw := kw_t 899 (by decide +kernel) (by decide +kernel)
set_option maxHeartbeats 4000000 in
set_option maxRecDepth 100000 in
theorem lcase_0 {p : Program} {l : Launch} {e : Env} {s : State} {m : MethodId} {below : List Frame} {meth : Method} {c : Code} {b L : Nat} {xs : Nat → Int32} {g1 g2 : va_G × (Nat → ClassId) × (Nat → Nat → Nat)} {i : Nat} {lA : Array Slot} {Qf : State → Prop} {Mx Mm : kM} {H : Heap} {locs : List Loc} {x3 : Int32} {Post : kM → kM → Prop} (C0 : lw_At p s m meth c b L xs) (hL : L ≤ 3072) (G : lG g1 g2 s) (hS : lS g1 g2 s Mx Mm H locs) (hl : lv_has lA 4 [(0, .ref b), (1, .ref (g1.2.2 0 0)), (2, .ref (g2.2.2 0 0)), (3, .int x3)]) (hi : x3 = nI i) (hk : i + 6 ≤ L) (h : kPair l g1 g2 mX5_stage mX6_stage [.inl (xs (i + 1)), .inl (xs (i + 2)), .inl (xs (i + 3))] Mx Mm Post) (kk : ∀ (Mx1 Mm1 : kM) (H1 : Heap) (locs1 : List Loc), Post Mx1 Mm1 → lS g1 g2 s Mx1 Mm1 H1 locs1 → W p l e room_1 s m #[Value.ref b] below meth c H1 locs1 66 1894 Qf (F0 m 1289 lA [])) : W p l e room_1 s m #[Value.ref b] below meth c H locs 66 1894 Qf (F0 m 180 lA []) := by
  have hS0 := hS
  refine lv_aload_n (pc := 180) C0.1 C0.2.1 dL_law_180 rfl (lv_at hl 1 rfl) ?_
  refine lpush (pc := 181) C0 hL hS.2.2 hl hi (k := 1) (by omega) (by decide) dL_law_181 dL_law_182 dL_law_183 dL_law_184 dL_law_185 ?_
  refine lpush (pc := 186) C0 hL hS.2.2 hl hi (k := 2) (by omega) (by decide) dL_law_186 dL_law_187 dL_law_188 dL_law_189 dL_law_190 ?_
  refine lpush (pc := 191) C0 hL hS.2.2 hl hi (k := 3) (by omega) (by decide) dL_law_191 dL_law_192 dL_law_193 dL_law_194 dL_law_195 ?_
  refine lcall (pc := 196) (vs := [.inl (xs (i + 1)), .inl (xs (i + 2)), .inl (xs (i + 3))]) (rest := []) (Q1 := fun r Mx1 => kCT l (rg_m, g2) mX6_stage (.inr (.inr (0, 0)) :: [.inl (xs (i + 1)), .inl (xs (i + 2)), .inl (xs (i + 3))]) Mm (kqi (fun r2 Mm1 => r = r2 ∧ Post Mx1 Mm1))) C0 G.1 hS.1 hS.2.2 fm_X5_stage fi_X5_stage ml_L_13 (by decide) (g := (rg_x, g1)) rfl h00x rfl rfl (fun v hv => by simp only [List.mem_cons, List.not_mem_nil, or_false] at hv; rcases hv with rfl | rfl | rfl <;> exact trivial) hl.1 (Nat.le_of_ble_eq_true rfl) dL_law_196 h (fun r Mx1 H1 locs1 h hP1 hq hS1 => ?_)
  have hP2 := hS.2.1.kept (fun q a z => G.2.2 q z a) hq
  refine lv_aload_n (pc := 199) C0.1 C0.2.1 dL_law_199 rfl (lv_at hl 2 rfl) ?_
  refine lpush (pc := 200) C0 hL hS1 hl hi (k := 1) (by omega) (by decide) dL_law_200 dL_law_201 dL_law_202 dL_law_203 dL_law_204 ?_
  refine lpush (pc := 205) C0 hL hS1 hl hi (k := 2) (by omega) (by decide) dL_law_205 dL_law_206 dL_law_207 dL_law_208 dL_law_209 ?_
  refine lpush (pc := 210) C0 hL hS1 hl hi (k := 3) (by omega) (by decide) dL_law_210 dL_law_211 dL_law_212 dL_law_213 dL_law_214 ?_
  refine lcall (pc := 215) (vs := [.inl (xs (i + 1)), .inl (xs (i + 2)), .inl (xs (i + 3))]) (rest := [.int r]) C0 G.2.1 hP2 hS1 fm_X6_stage fi_X6_stage ml_L_17 (by decide) (g := (rg_m, g2)) rfl h00m rfl rfl (fun v hv => by simp only [List.mem_cons, List.not_mem_nil, or_false] at hv; rcases hv with rfl | rfl | rfl <;> exact trivial) hl.1 (Nat.le_of_ble_eq_true rfl) dL_law_215 h (fun r2 Mm1 H2 locs2 h hP3 hq2 hS2 => ?_)
  have hP4 := hP1.kept (fun q a z => G.2.2 q a z) hq2
  refine lv_icmp_eq (pc := 218) (tgt := 1289) C0.1 C0.2.1 dL_law_218 (by decide) (fun _ => ?_) (fun hc => absurd h.1 hc)
  exact kk Mx1 Mm1 H2 locs2 h.2 ⟨hP4, hP3, hS2⟩
set_option maxHeartbeats 4000000 in
set_option maxRecDepth 100000 in
theorem lcase_1 {p : Program} {l : Launch} {e : Env} {s : State} {m : MethodId} {below : List Frame} {meth : Method} {c : Code} {b L : Nat} {xs : Nat → Int32} {g1 g2 : va_G × (Nat → ClassId) × (Nat → Nat → Nat)} {i : Nat} {lA : Array Slot} {Qf : State → Prop} {Mx Mm : kM} {H : Heap} {locs : List Loc} {x3 : Int32} {Post : kM → kM → Prop} (C0 : lw_At p s m meth c b L xs) (hL : L ≤ 3072) (G : lG g1 g2 s) (hS : lS g1 g2 s Mx Mm H locs) (hl : lv_has lA 4 [(0, .ref b), (1, .ref (g1.2.2 0 0)), (2, .ref (g2.2.2 0 0)), (3, .int x3)]) (hi : x3 = nI i) (hk : i + 6 ≤ L) (h : kPair l g1 g2 mX5_rider mX6_rider [.inl (xs (i + 1)), .inl (xs (i + 2)), .inl (xs (i + 3))] Mx Mm Post) (kk : ∀ (Mx1 Mm1 : kM) (H1 : Heap) (locs1 : List Loc), Post Mx1 Mm1 → lS g1 g2 s Mx1 Mm1 H1 locs1 → W p l e room_1 s m #[Value.ref b] below meth c H1 locs1 66 1894 Qf (F0 m 1289 lA [])) : W p l e room_1 s m #[Value.ref b] below meth c H locs 66 1894 Qf (F0 m 223 lA []) := by
  have hS0 := hS
  refine lv_aload_n (pc := 223) C0.1 C0.2.1 dL_law_223 rfl (lv_at hl 1 rfl) ?_
  refine lpush (pc := 224) C0 hL hS.2.2 hl hi (k := 1) (by omega) (by decide) dL_law_224 dL_law_225 dL_law_226 dL_law_227 dL_law_228 ?_
  refine lpush (pc := 229) C0 hL hS.2.2 hl hi (k := 2) (by omega) (by decide) dL_law_229 dL_law_230 dL_law_231 dL_law_232 dL_law_233 ?_
  refine lpush (pc := 234) C0 hL hS.2.2 hl hi (k := 3) (by omega) (by decide) dL_law_234 dL_law_235 dL_law_236 dL_law_237 dL_law_238 ?_
  refine lcall (pc := 239) (vs := [.inl (xs (i + 1)), .inl (xs (i + 2)), .inl (xs (i + 3))]) (rest := []) (Q1 := fun r Mx1 => kCT l (rg_m, g2) mX6_rider (.inr (.inr (0, 0)) :: [.inl (xs (i + 1)), .inl (xs (i + 2)), .inl (xs (i + 3))]) Mm (kqi (fun r2 Mm1 => r = r2 ∧ Post Mx1 Mm1))) C0 G.1 hS.1 hS.2.2 fm_X5_rider fi_X5_rider ml_L_18 (by decide) (g := (rg_x, g1)) rfl h00x rfl rfl (fun v hv => by simp only [List.mem_cons, List.not_mem_nil, or_false] at hv; rcases hv with rfl | rfl | rfl <;> exact trivial) hl.1 (Nat.le_of_ble_eq_true rfl) dL_law_239 h (fun r Mx1 H1 locs1 h hP1 hq hS1 => ?_)
  have hP2 := hS.2.1.kept (fun q a z => G.2.2 q z a) hq
  refine lv_aload_n (pc := 242) C0.1 C0.2.1 dL_law_242 rfl (lv_at hl 2 rfl) ?_
  refine lpush (pc := 243) C0 hL hS1 hl hi (k := 1) (by omega) (by decide) dL_law_243 dL_law_244 dL_law_245 dL_law_246 dL_law_247 ?_
  refine lpush (pc := 248) C0 hL hS1 hl hi (k := 2) (by omega) (by decide) dL_law_248 dL_law_249 dL_law_250 dL_law_251 dL_law_252 ?_
  refine lpush (pc := 253) C0 hL hS1 hl hi (k := 3) (by omega) (by decide) dL_law_253 dL_law_254 dL_law_255 dL_law_256 dL_law_257 ?_
  refine lcall (pc := 258) (vs := [.inl (xs (i + 1)), .inl (xs (i + 2)), .inl (xs (i + 3))]) (rest := [.int r]) C0 G.2.1 hP2 hS1 fm_X6_rider fi_X6_rider ml_L_21 (by decide) (g := (rg_m, g2)) rfl h00m rfl rfl (fun v hv => by simp only [List.mem_cons, List.not_mem_nil, or_false] at hv; rcases hv with rfl | rfl | rfl <;> exact trivial) hl.1 (Nat.le_of_ble_eq_true rfl) dL_law_258 h (fun r2 Mm1 H2 locs2 h hP3 hq2 hS2 => ?_)
  have hP4 := hP1.kept (fun q a z => G.2.2 q a z) hq2
  refine lv_icmp_eq (pc := 261) (tgt := 1289) C0.1 C0.2.1 dL_law_261 (by decide) (fun _ => ?_) (fun hc => absurd h.1 hc)
  exact kk Mx1 Mm1 H2 locs2 h.2 ⟨hP4, hP3, hS2⟩
set_option maxHeartbeats 4000000 in
set_option maxRecDepth 100000 in
theorem lcase_2 {p : Program} {l : Launch} {e : Env} {s : State} {m : MethodId} {below : List Frame} {meth : Method} {c : Code} {b L : Nat} {xs : Nat → Int32} {g1 g2 : va_G × (Nat → ClassId) × (Nat → Nat → Nat)} {i : Nat} {lA : Array Slot} {Qf : State → Prop} {Mx Mm : kM} {H : Heap} {locs : List Loc} {x3 : Int32} {Post : kM → kM → Prop} (C0 : lw_At p s m meth c b L xs) (hL : L ≤ 3072) (G : lG g1 g2 s) (hS : lS g1 g2 s Mx Mm H locs) (hl : lv_has lA 4 [(0, .ref b), (1, .ref (g1.2.2 0 0)), (2, .ref (g2.2.2 0 0)), (3, .int x3)]) (hi : x3 = nI i) (hk : i + 6 ≤ L) (h : kPair l g1 g2 mX5_of mX6_of [.inl (xs (i + 1)), .inl (xs (i + 2))] Mx Mm Post) (kk : ∀ (Mx1 Mm1 : kM) (H1 : Heap) (locs1 : List Loc), Post Mx1 Mm1 → lS g1 g2 s Mx1 Mm1 H1 locs1 → W p l e room_1 s m #[Value.ref b] below meth c H1 locs1 66 1894 Qf (F0 m 1289 lA [])) : W p l e room_1 s m #[Value.ref b] below meth c H locs 66 1894 Qf (F0 m 266 lA []) := by
  have hS0 := hS
  refine lv_aload_n (pc := 266) C0.1 C0.2.1 dL_law_266 rfl (lv_at hl 1 rfl) ?_
  refine lpush (pc := 267) C0 hL hS.2.2 hl hi (k := 1) (by omega) (by decide) dL_law_267 dL_law_268 dL_law_269 dL_law_270 dL_law_271 ?_
  refine lpush (pc := 272) C0 hL hS.2.2 hl hi (k := 2) (by omega) (by decide) dL_law_272 dL_law_273 dL_law_274 dL_law_275 dL_law_276 ?_
  refine lcall (pc := 277) (vs := [.inl (xs (i + 1)), .inl (xs (i + 2))]) (rest := []) (Q1 := fun r Mx1 => kCT l (rg_m, g2) mX6_of (.inr (.inr (0, 0)) :: [.inl (xs (i + 1)), .inl (xs (i + 2))]) Mm (kqi (fun r2 Mm1 => r = r2 ∧ Post Mx1 Mm1))) C0 G.1 hS.1 hS.2.2 fm_X5_of fi_X5_of ml_L_22 (by decide) (g := (rg_x, g1)) rfl h00x rfl rfl (fun v hv => by simp only [List.mem_cons, List.not_mem_nil, or_false] at hv; rcases hv with rfl | rfl <;> exact trivial) hl.1 (Nat.le_of_ble_eq_true rfl) dL_law_277 h (fun r Mx1 H1 locs1 h hP1 hq hS1 => ?_)
  have hP2 := hS.2.1.kept (fun q a z => G.2.2 q z a) hq
  refine lv_aload_n (pc := 280) C0.1 C0.2.1 dL_law_280 rfl (lv_at hl 2 rfl) ?_
  refine lpush (pc := 281) C0 hL hS1 hl hi (k := 1) (by omega) (by decide) dL_law_281 dL_law_282 dL_law_283 dL_law_284 dL_law_285 ?_
  refine lpush (pc := 286) C0 hL hS1 hl hi (k := 2) (by omega) (by decide) dL_law_286 dL_law_287 dL_law_288 dL_law_289 dL_law_290 ?_
  refine lcall (pc := 291) (vs := [.inl (xs (i + 1)), .inl (xs (i + 2))]) (rest := [.int r]) C0 G.2.1 hP2 hS1 fm_X6_of fi_X6_of ml_L_26 (by decide) (g := (rg_m, g2)) rfl h00m rfl rfl (fun v hv => by simp only [List.mem_cons, List.not_mem_nil, or_false] at hv; rcases hv with rfl | rfl <;> exact trivial) hl.1 (Nat.le_of_ble_eq_true rfl) dL_law_291 h (fun r2 Mm1 H2 locs2 h hP3 hq2 hS2 => ?_)
  have hP4 := hP1.kept (fun q a z => G.2.2 q a z) hq2
  refine lv_icmp_eq (pc := 294) (tgt := 1289) C0.1 C0.2.1 dL_law_294 (by decide) (fun _ => ?_) (fun hc => absurd h.1 hc)
  exact kk Mx1 Mm1 H2 locs2 h.2 ⟨hP4, hP3, hS2⟩
set_option maxHeartbeats 4000000 in
set_option maxRecDepth 100000 in
theorem lcase_3 {p : Program} {l : Launch} {e : Env} {s : State} {m : MethodId} {below : List Frame} {meth : Method} {c : Code} {b L : Nat} {xs : Nat → Int32} {g1 g2 : va_G × (Nat → ClassId) × (Nat → Nat → Nat)} {i : Nat} {lA : Array Slot} {Qf : State → Prop} {Mx Mm : kM} {H : Heap} {locs : List Loc} {x3 : Int32} {Post : kM → kM → Prop} (C0 : lw_At p s m meth c b L xs) (hL : L ≤ 3072) (G : lG g1 g2 s) (hS : lS g1 g2 s Mx Mm H locs) (hl : lv_has lA 4 [(0, .ref b), (1, .ref (g1.2.2 0 0)), (2, .ref (g2.2.2 0 0)), (3, .int x3)]) (hi : x3 = nI i) (hk : i + 6 ≤ L) (h : kPair l g1 g2 mX5_at mX6_at [.inl (xs (i + 1)), .inl (xs (i + 2))] Mx Mm Post) (kk : ∀ (Mx1 Mm1 : kM) (H1 : Heap) (locs1 : List Loc), Post Mx1 Mm1 → lS g1 g2 s Mx1 Mm1 H1 locs1 → W p l e room_1 s m #[Value.ref b] below meth c H1 locs1 66 1894 Qf (F0 m 1289 lA [])) : W p l e room_1 s m #[Value.ref b] below meth c H locs 66 1894 Qf (F0 m 299 lA []) := by
  have hS0 := hS
  refine lv_aload_n (pc := 299) C0.1 C0.2.1 dL_law_299 rfl (lv_at hl 1 rfl) ?_
  refine lpush (pc := 300) C0 hL hS.2.2 hl hi (k := 1) (by omega) (by decide) dL_law_300 dL_law_301 dL_law_302 dL_law_303 dL_law_304 ?_
  refine lpush (pc := 305) C0 hL hS.2.2 hl hi (k := 2) (by omega) (by decide) dL_law_305 dL_law_306 dL_law_307 dL_law_308 dL_law_309 ?_
  refine lcall (pc := 310) (vs := [.inl (xs (i + 1)), .inl (xs (i + 2))]) (rest := []) (Q1 := fun r Mx1 => kCT l (rg_m, g2) mX6_at (.inr (.inr (0, 0)) :: [.inl (xs (i + 1)), .inl (xs (i + 2))]) Mm (kqi (fun r2 Mm1 => r = r2 ∧ Post Mx1 Mm1))) C0 G.1 hS.1 hS.2.2 fm_X5_at fi_X5_at ml_L_27 (by decide) (g := (rg_x, g1)) rfl h00x rfl rfl (fun v hv => by simp only [List.mem_cons, List.not_mem_nil, or_false] at hv; rcases hv with rfl | rfl <;> exact trivial) hl.1 (Nat.le_of_ble_eq_true rfl) dL_law_310 h (fun r Mx1 H1 locs1 h hP1 hq hS1 => ?_)
  have hP2 := hS.2.1.kept (fun q a z => G.2.2 q z a) hq
  refine lv_aload_n (pc := 313) C0.1 C0.2.1 dL_law_313 rfl (lv_at hl 2 rfl) ?_
  refine lpush (pc := 314) C0 hL hS1 hl hi (k := 1) (by omega) (by decide) dL_law_314 dL_law_315 dL_law_316 dL_law_317 dL_law_318 ?_
  refine lpush (pc := 319) C0 hL hS1 hl hi (k := 2) (by omega) (by decide) dL_law_319 dL_law_320 dL_law_321 dL_law_322 dL_law_323 ?_
  refine lcall (pc := 324) (vs := [.inl (xs (i + 1)), .inl (xs (i + 2))]) (rest := [.int r]) C0 G.2.1 hP2 hS1 fm_X6_at fi_X6_at ml_L_30 (by decide) (g := (rg_m, g2)) rfl h00m rfl rfl (fun v hv => by simp only [List.mem_cons, List.not_mem_nil, or_false] at hv; rcases hv with rfl | rfl <;> exact trivial) hl.1 (Nat.le_of_ble_eq_true rfl) dL_law_324 h (fun r2 Mm1 H2 locs2 h hP3 hq2 hS2 => ?_)
  have hP4 := hP1.kept (fun q a z => G.2.2 q a z) hq2
  refine lv_icmp_eq (pc := 327) (tgt := 1289) C0.1 C0.2.1 dL_law_327 (by decide) (fun _ => ?_) (fun hc => absurd h.1 hc)
  exact kk Mx1 Mm1 H2 locs2 h.2 ⟨hP4, hP3, hS2⟩
set_option maxHeartbeats 4000000 in
set_option maxRecDepth 100000 in
theorem lcase_4 {p : Program} {l : Launch} {e : Env} {s : State} {m : MethodId} {below : List Frame} {meth : Method} {c : Code} {b L : Nat} {xs : Nat → Int32} {g1 g2 : va_G × (Nat → ClassId) × (Nat → Nat → Nat)} {i : Nat} {lA : Array Slot} {Qf : State → Prop} {Mx Mm : kM} {H : Heap} {locs : List Loc} {x3 : Int32} {Post : kM → kM → Prop} (C0 : lw_At p s m meth c b L xs) (hL : L ≤ 3072) (G : lG g1 g2 s) (hS : lS g1 g2 s Mx Mm H locs) (hl : lv_has lA 4 [(0, .ref b), (1, .ref (g1.2.2 0 0)), (2, .ref (g2.2.2 0 0)), (3, .int x3)]) (hi : x3 = nI i) (hk : i + 6 ≤ L) (h : kPair l g1 g2 mX5_buys mX6_buys [.inl (xs (i + 1)), .inl (xs (i + 2))] Mx Mm Post) (kk : ∀ (Mx1 Mm1 : kM) (H1 : Heap) (locs1 : List Loc), Post Mx1 Mm1 → lS g1 g2 s Mx1 Mm1 H1 locs1 → W p l e room_1 s m #[Value.ref b] below meth c H1 locs1 66 1894 Qf (F0 m 1289 lA [])) : W p l e room_1 s m #[Value.ref b] below meth c H locs 66 1894 Qf (F0 m 332 lA []) := by
  have hS0 := hS
  refine lv_aload_n (pc := 332) C0.1 C0.2.1 dL_law_332 rfl (lv_at hl 1 rfl) ?_
  refine lpush (pc := 333) C0 hL hS.2.2 hl hi (k := 1) (by omega) (by decide) dL_law_333 dL_law_334 dL_law_335 dL_law_336 dL_law_337 ?_
  refine lpush (pc := 338) C0 hL hS.2.2 hl hi (k := 2) (by omega) (by decide) dL_law_338 dL_law_339 dL_law_340 dL_law_341 dL_law_342 ?_
  refine lcall (pc := 343) (vs := [.inl (xs (i + 1)), .inl (xs (i + 2))]) (rest := []) (Q1 := fun r Mx1 => kCT l (rg_m, g2) mX6_buys (.inr (.inr (0, 0)) :: [.inl (xs (i + 1)), .inl (xs (i + 2))]) Mm (kqi (fun r2 Mm1 => r = r2 ∧ Post Mx1 Mm1))) C0 G.1 hS.1 hS.2.2 fm_X5_buys fi_X5_buys ml_L_31 (by decide) (g := (rg_x, g1)) rfl h00x rfl rfl (fun v hv => by simp only [List.mem_cons, List.not_mem_nil, or_false] at hv; rcases hv with rfl | rfl <;> exact trivial) hl.1 (Nat.le_of_ble_eq_true rfl) dL_law_343 h (fun r Mx1 H1 locs1 h hP1 hq hS1 => ?_)
  have hP2 := hS.2.1.kept (fun q a z => G.2.2 q z a) hq
  refine lv_aload_n (pc := 346) C0.1 C0.2.1 dL_law_346 rfl (lv_at hl 2 rfl) ?_
  refine lpush (pc := 347) C0 hL hS1 hl hi (k := 1) (by omega) (by decide) dL_law_347 dL_law_348 dL_law_349 dL_law_350 dL_law_351 ?_
  refine lpush (pc := 352) C0 hL hS1 hl hi (k := 2) (by omega) (by decide) dL_law_352 dL_law_353 dL_law_354 dL_law_355 dL_law_356 ?_
  refine lcall (pc := 357) (vs := [.inl (xs (i + 1)), .inl (xs (i + 2))]) (rest := [.int r]) C0 G.2.1 hP2 hS1 fm_X6_buys fi_X6_buys ml_L_34 (by decide) (g := (rg_m, g2)) rfl h00m rfl rfl (fun v hv => by simp only [List.mem_cons, List.not_mem_nil, or_false] at hv; rcases hv with rfl | rfl <;> exact trivial) hl.1 (Nat.le_of_ble_eq_true rfl) dL_law_357 h (fun r2 Mm1 H2 locs2 h hP3 hq2 hS2 => ?_)
  have hP4 := hP1.kept (fun q a z => G.2.2 q a z) hq2
  refine lv_icmp_eq (pc := 360) (tgt := 1289) C0.1 C0.2.1 dL_law_360 (by decide) (fun _ => ?_) (fun hc => absurd h.1 hc)
  exact kk Mx1 Mm1 H2 locs2 h.2 ⟨hP4, hP3, hS2⟩
set_option maxHeartbeats 4000000 in
set_option maxRecDepth 100000 in
theorem lcase_5 {p : Program} {l : Launch} {e : Env} {s : State} {m : MethodId} {below : List Frame} {meth : Method} {c : Code} {b L : Nat} {xs : Nat → Int32} {g1 g2 : va_G × (Nat → ClassId) × (Nat → Nat → Nat)} {i : Nat} {lA : Array Slot} {Qf : State → Prop} {Mx Mm : kM} {H : Heap} {locs : List Loc} {x3 : Int32} {Post : kM → kM → Prop} (C0 : lw_At p s m meth c b L xs) (hL : L ≤ 3072) (G : lG g1 g2 s) (hS : lS g1 g2 s Mx Mm H locs) (hl : lv_has lA 4 [(0, .ref b), (1, .ref (g1.2.2 0 0)), (2, .ref (g2.2.2 0 0)), (3, .int x3)]) (hi : x3 = nI i) (hk : i + 6 ≤ L) (h : kPair l g1 g2 mX5_price mX6_price [.inl (xs (i + 1))] Mx Mm Post) (kk : ∀ (Mx1 Mm1 : kM) (H1 : Heap) (locs1 : List Loc), Post Mx1 Mm1 → lS g1 g2 s Mx1 Mm1 H1 locs1 → W p l e room_1 s m #[Value.ref b] below meth c H1 locs1 66 1894 Qf (F0 m 1289 lA [])) : W p l e room_1 s m #[Value.ref b] below meth c H locs 66 1894 Qf (F0 m 365 lA []) := by
  have hS0 := hS
  refine lv_aload_n (pc := 365) C0.1 C0.2.1 dL_law_365 rfl (lv_at hl 1 rfl) ?_
  refine lpush (pc := 366) C0 hL hS.2.2 hl hi (k := 1) (by omega) (by decide) dL_law_366 dL_law_367 dL_law_368 dL_law_369 dL_law_370 ?_
  refine lcall (pc := 371) (vs := [.inl (xs (i + 1))]) (rest := []) (Q1 := fun r Mx1 => kCT l (rg_m, g2) mX6_price (.inr (.inr (0, 0)) :: [.inl (xs (i + 1))]) Mm (kqi (fun r2 Mm1 => r = r2 ∧ Post Mx1 Mm1))) C0 G.1 hS.1 hS.2.2 fm_X5_price fi_X5_price ml_L_35 (by decide) (g := (rg_x, g1)) rfl h00x rfl rfl (fun v hv => by simp only [List.mem_cons, List.not_mem_nil, or_false] at hv; rcases hv with rfl <;> exact trivial) hl.1 (Nat.le_of_ble_eq_true rfl) dL_law_371 h (fun r Mx1 H1 locs1 h hP1 hq hS1 => ?_)
  have hP2 := hS.2.1.kept (fun q a z => G.2.2 q z a) hq
  refine lv_aload_n (pc := 374) C0.1 C0.2.1 dL_law_374 rfl (lv_at hl 2 rfl) ?_
  refine lpush (pc := 375) C0 hL hS1 hl hi (k := 1) (by omega) (by decide) dL_law_375 dL_law_376 dL_law_377 dL_law_378 dL_law_379 ?_
  refine lcall (pc := 380) (vs := [.inl (xs (i + 1))]) (rest := [.int r]) C0 G.2.1 hP2 hS1 fm_X6_price fi_X6_price ml_L_39 (by decide) (g := (rg_m, g2)) rfl h00m rfl rfl (fun v hv => by simp only [List.mem_cons, List.not_mem_nil, or_false] at hv; rcases hv with rfl <;> exact trivial) hl.1 (Nat.le_of_ble_eq_true rfl) dL_law_380 h (fun r2 Mm1 H2 locs2 h hP3 hq2 hS2 => ?_)
  have hP4 := hP1.kept (fun q a z => G.2.2 q a z) hq2
  refine lv_icmp_eq (pc := 383) (tgt := 1289) C0.1 C0.2.1 dL_law_383 (by decide) (fun _ => ?_) (fun hc => absurd h.1 hc)
  exact kk Mx1 Mm1 H2 locs2 h.2 ⟨hP4, hP3, hS2⟩
set_option maxHeartbeats 4000000 in
set_option maxRecDepth 100000 in
theorem lcase_6 {p : Program} {l : Launch} {e : Env} {s : State} {m : MethodId} {below : List Frame} {meth : Method} {c : Code} {b L : Nat} {xs : Nat → Int32} {g1 g2 : va_G × (Nat → ClassId) × (Nat → Nat → Nat)} {i : Nat} {lA : Array Slot} {Qf : State → Prop} {Mx Mm : kM} {H : Heap} {locs : List Loc} {x3 : Int32} {Post : kM → kM → Prop} (C0 : lw_At p s m meth c b L xs) (hL : L ≤ 3072) (G : lG g1 g2 s) (hS : lS g1 g2 s Mx Mm H locs) (hl : lv_has lA 4 [(0, .ref b), (1, .ref (g1.2.2 0 0)), (2, .ref (g2.2.2 0 0)), (3, .int x3)]) (hi : x3 = nI i) (hk : i + 6 ≤ L) (h : kPair l g1 g2 mX5_type mX6_type [.inl (xs (i + 1))] Mx Mm Post) (kk : ∀ (Mx1 Mm1 : kM) (H1 : Heap) (locs1 : List Loc), Post Mx1 Mm1 → lS g1 g2 s Mx1 Mm1 H1 locs1 → W p l e room_1 s m #[Value.ref b] below meth c H1 locs1 66 1894 Qf (F0 m 1289 lA [])) : W p l e room_1 s m #[Value.ref b] below meth c H locs 66 1894 Qf (F0 m 388 lA []) := by
  have hS0 := hS
  refine lv_aload_n (pc := 388) C0.1 C0.2.1 dL_law_388 rfl (lv_at hl 1 rfl) ?_
  refine lpush (pc := 389) C0 hL hS.2.2 hl hi (k := 1) (by omega) (by decide) dL_law_389 dL_law_390 dL_law_391 dL_law_392 dL_law_393 ?_
  refine lcall (pc := 394) (vs := [.inl (xs (i + 1))]) (rest := []) (Q1 := fun r Mx1 => kCT l (rg_m, g2) mX6_type (.inr (.inr (0, 0)) :: [.inl (xs (i + 1))]) Mm (kqi (fun r2 Mm1 => r = r2 ∧ Post Mx1 Mm1))) C0 G.1 hS.1 hS.2.2 fm_X5_type fi_X5_type ml_L_40 (by decide) (g := (rg_x, g1)) rfl h00x rfl rfl (fun v hv => by simp only [List.mem_cons, List.not_mem_nil, or_false] at hv; rcases hv with rfl <;> exact trivial) hl.1 (Nat.le_of_ble_eq_true rfl) dL_law_394 h (fun r Mx1 H1 locs1 h hP1 hq hS1 => ?_)
  have hP2 := hS.2.1.kept (fun q a z => G.2.2 q z a) hq
  refine lv_aload_n (pc := 397) C0.1 C0.2.1 dL_law_397 rfl (lv_at hl 2 rfl) ?_
  refine lpush (pc := 398) C0 hL hS1 hl hi (k := 1) (by omega) (by decide) dL_law_398 dL_law_399 dL_law_400 dL_law_401 dL_law_402 ?_
  refine lcall (pc := 403) (vs := [.inl (xs (i + 1))]) (rest := [.int r]) C0 G.2.1 hP2 hS1 fm_X6_type fi_X6_type ml_L_43 (by decide) (g := (rg_m, g2)) rfl h00m rfl rfl (fun v hv => by simp only [List.mem_cons, List.not_mem_nil, or_false] at hv; rcases hv with rfl <;> exact trivial) hl.1 (Nat.le_of_ble_eq_true rfl) dL_law_403 h (fun r2 Mm1 H2 locs2 h hP3 hq2 hS2 => ?_)
  have hP4 := hP1.kept (fun q a z => G.2.2 q a z) hq2
  refine lv_icmp_eq (pc := 406) (tgt := 1289) C0.1 C0.2.1 dL_law_406 (by decide) (fun _ => ?_) (fun hc => absurd h.1 hc)
  exact kk Mx1 Mm1 H2 locs2 h.2 ⟨hP4, hP3, hS2⟩
set_option maxHeartbeats 4000000 in
set_option maxRecDepth 100000 in
theorem lcase_7 {p : Program} {l : Launch} {e : Env} {s : State} {m : MethodId} {below : List Frame} {meth : Method} {c : Code} {b L : Nat} {xs : Nat → Int32} {g1 g2 : va_G × (Nat → ClassId) × (Nat → Nat → Nat)} {i : Nat} {lA : Array Slot} {Qf : State → Prop} {Mx Mm : kM} {H : Heap} {locs : List Loc} {x3 : Int32} {Post : kM → kM → Prop} (C0 : lw_At p s m meth c b L xs) (hL : L ≤ 3072) (G : lG g1 g2 s) (hS : lS g1 g2 s Mx Mm H locs) (hl : lv_has lA 4 [(0, .ref b), (1, .ref (g1.2.2 0 0)), (2, .ref (g2.2.2 0 0)), (3, .int x3)]) (hi : x3 = nI i) (hk : i + 6 ≤ L) (h : kPair l g1 g2 mX5_road mX6_road [] Mx Mm Post) (kk : ∀ (Mx1 Mm1 : kM) (H1 : Heap) (locs1 : List Loc), Post Mx1 Mm1 → lS g1 g2 s Mx1 Mm1 H1 locs1 → W p l e room_1 s m #[Value.ref b] below meth c H1 locs1 66 1894 Qf (F0 m 1289 lA [])) : W p l e room_1 s m #[Value.ref b] below meth c H locs 66 1894 Qf (F0 m 411 lA []) := by
  have hS0 := hS
  refine lv_aload_n (pc := 411) C0.1 C0.2.1 dL_law_411 rfl (lv_at hl 1 rfl) ?_
  refine lcall (pc := 412) (vs := []) (rest := []) (Q1 := fun r Mx1 => kCT l (rg_m, g2) mX6_road (.inr (.inr (0, 0)) :: []) Mm (kqi (fun r2 Mm1 => r = r2 ∧ Post Mx1 Mm1))) C0 G.1 hS.1 hS.2.2 fm_X5_road fi_X5_road ml_L_44 (by decide) (g := (rg_x, g1)) rfl h00x rfl rfl (fun v hv => by cases hv) hl.1 (Nat.le_of_ble_eq_true rfl) dL_law_412 h (fun r Mx1 H1 locs1 h hP1 hq hS1 => ?_)
  have hP2 := hS.2.1.kept (fun q a z => G.2.2 q z a) hq
  refine lv_aload_n (pc := 415) C0.1 C0.2.1 dL_law_415 rfl (lv_at hl 2 rfl) ?_
  refine lcall (pc := 416) (vs := []) (rest := [.int r]) C0 G.2.1 hP2 hS1 fm_X6_road fi_X6_road ml_L_48 (by decide) (g := (rg_m, g2)) rfl h00m rfl rfl (fun v hv => by cases hv) hl.1 (Nat.le_of_ble_eq_true rfl) dL_law_416 h (fun r2 Mm1 H2 locs2 h hP3 hq2 hS2 => ?_)
  have hP4 := hP1.kept (fun q a z => G.2.2 q a z) hq2
  refine lv_icmp_eq (pc := 419) (tgt := 1289) C0.1 C0.2.1 dL_law_419 (by decide) (fun _ => ?_) (fun hc => absurd h.1 hc)
  exact kk Mx1 Mm1 H2 locs2 h.2 ⟨hP4, hP3, hS2⟩
set_option maxHeartbeats 4000000 in
set_option maxRecDepth 100000 in
theorem lcase_8 {p : Program} {l : Launch} {e : Env} {s : State} {m : MethodId} {below : List Frame} {meth : Method} {c : Code} {b L : Nat} {xs : Nat → Int32} {g1 g2 : va_G × (Nat → ClassId) × (Nat → Nat → Nat)} {i : Nat} {lA : Array Slot} {Qf : State → Prop} {Mx Mm : kM} {H : Heap} {locs : List Loc} {x3 : Int32} {Post : kM → kM → Prop} (C0 : lw_At p s m meth c b L xs) (hL : L ≤ 3072) (G : lG g1 g2 s) (hS : lS g1 g2 s Mx Mm H locs) (hl : lv_has lA 4 [(0, .ref b), (1, .ref (g1.2.2 0 0)), (2, .ref (g2.2.2 0 0)), (3, .int x3)]) (hi : x3 = nI i) (hk : i + 6 ≤ L) (h : kPair l g1 g2 mX5_count mX6_count [.inl (xs (i + 1))] Mx Mm Post) (kk : ∀ (Mx1 Mm1 : kM) (H1 : Heap) (locs1 : List Loc), Post Mx1 Mm1 → lS g1 g2 s Mx1 Mm1 H1 locs1 → W p l e room_1 s m #[Value.ref b] below meth c H1 locs1 66 1894 Qf (F0 m 1289 lA [])) : W p l e room_1 s m #[Value.ref b] below meth c H locs 66 1894 Qf (F0 m 424 lA []) := by
  have hS0 := hS
  refine lv_aload_n (pc := 424) C0.1 C0.2.1 dL_law_424 rfl (lv_at hl 1 rfl) ?_
  refine lpush (pc := 425) C0 hL hS.2.2 hl hi (k := 1) (by omega) (by decide) dL_law_425 dL_law_426 dL_law_427 dL_law_428 dL_law_429 ?_
  refine lcall (pc := 430) (vs := [.inl (xs (i + 1))]) (rest := []) (Q1 := fun r Mx1 => kCT l (rg_m, g2) mX6_count (.inr (.inr (0, 0)) :: [.inl (xs (i + 1))]) Mm (kqi (fun r2 Mm1 => r = r2 ∧ Post Mx1 Mm1))) C0 G.1 hS.1 hS.2.2 fm_X5_count fi_X5_count ml_L_49 (by decide) (g := (rg_x, g1)) rfl h00x rfl rfl (fun v hv => by simp only [List.mem_cons, List.not_mem_nil, or_false] at hv; rcases hv with rfl <;> exact trivial) hl.1 (Nat.le_of_ble_eq_true rfl) dL_law_430 h (fun r Mx1 H1 locs1 h hP1 hq hS1 => ?_)
  have hP2 := hS.2.1.kept (fun q a z => G.2.2 q z a) hq
  refine lv_aload_n (pc := 433) C0.1 C0.2.1 dL_law_433 rfl (lv_at hl 2 rfl) ?_
  refine lpush (pc := 434) C0 hL hS1 hl hi (k := 1) (by omega) (by decide) dL_law_434 dL_law_435 dL_law_436 dL_law_437 dL_law_438 ?_
  refine lcall (pc := 439) (vs := [.inl (xs (i + 1))]) (rest := [.int r]) C0 G.2.1 hP2 hS1 fm_X6_count fi_X6_count ml_L_52 (by decide) (g := (rg_m, g2)) rfl h00m rfl rfl (fun v hv => by simp only [List.mem_cons, List.not_mem_nil, or_false] at hv; rcases hv with rfl <;> exact trivial) hl.1 (Nat.le_of_ble_eq_true rfl) dL_law_439 h (fun r2 Mm1 H2 locs2 h hP3 hq2 hS2 => ?_)
  have hP4 := hP1.kept (fun q a z => G.2.2 q a z) hq2
  refine lv_icmp_eq (pc := 442) (tgt := 1289) C0.1 C0.2.1 dL_law_442 (by decide) (fun _ => ?_) (fun hc => absurd h.1 hc)
  exact kk Mx1 Mm1 H2 locs2 h.2 ⟨hP4, hP3, hS2⟩
set_option maxHeartbeats 4000000 in
set_option maxRecDepth 100000 in
theorem lcase_9 {p : Program} {l : Launch} {e : Env} {s : State} {m : MethodId} {below : List Frame} {meth : Method} {c : Code} {b L : Nat} {xs : Nat → Int32} {g1 g2 : va_G × (Nat → ClassId) × (Nat → Nat → Nat)} {i : Nat} {lA : Array Slot} {Qf : State → Prop} {Mx Mm : kM} {H : Heap} {locs : List Loc} {x3 : Int32} {Post : kM → kM → Prop} (C0 : lw_At p s m meth c b L xs) (hL : L ≤ 3072) (G : lG g1 g2 s) (hS : lS g1 g2 s Mx Mm H locs) (hl : lv_has lA 4 [(0, .ref b), (1, .ref (g1.2.2 0 0)), (2, .ref (g2.2.2 0 0)), (3, .int x3)]) (hi : x3 = nI i) (hk : i + 6 ≤ L) (h : kPair l g1 g2 mX5_ride mX6_ride [.inl (xs (i + 1))] Mx Mm Post) (kk : ∀ (Mx1 Mm1 : kM) (H1 : Heap) (locs1 : List Loc), Post Mx1 Mm1 → lS g1 g2 s Mx1 Mm1 H1 locs1 → W p l e room_1 s m #[Value.ref b] below meth c H1 locs1 66 1894 Qf (F0 m 1289 lA [])) : W p l e room_1 s m #[Value.ref b] below meth c H locs 66 1894 Qf (F0 m 447 lA []) := by
  have hS0 := hS
  refine lv_aload_n (pc := 447) C0.1 C0.2.1 dL_law_447 rfl (lv_at hl 1 rfl) ?_
  refine lpush (pc := 448) C0 hL hS.2.2 hl hi (k := 1) (by omega) (by decide) dL_law_448 dL_law_449 dL_law_450 dL_law_451 dL_law_452 ?_
  refine lcall (pc := 453) (vs := [.inl (xs (i + 1))]) (rest := []) (Q1 := fun r Mx1 => kCT l (rg_m, g2) mX6_ride (.inr (.inr (0, 0)) :: [.inl (xs (i + 1))]) Mm (kqi (fun r2 Mm1 => r = r2 ∧ Post Mx1 Mm1))) C0 G.1 hS.1 hS.2.2 fm_X5_ride fi_X5_ride ml_L_53 (by decide) (g := (rg_x, g1)) rfl h00x rfl rfl (fun v hv => by simp only [List.mem_cons, List.not_mem_nil, or_false] at hv; rcases hv with rfl <;> exact trivial) hl.1 (Nat.le_of_ble_eq_true rfl) dL_law_453 h (fun r Mx1 H1 locs1 h hP1 hq hS1 => ?_)
  have hP2 := hS.2.1.kept (fun q a z => G.2.2 q z a) hq
  refine lv_aload_n (pc := 456) C0.1 C0.2.1 dL_law_456 rfl (lv_at hl 2 rfl) ?_
  refine lpush (pc := 457) C0 hL hS1 hl hi (k := 1) (by omega) (by decide) dL_law_457 dL_law_458 dL_law_459 dL_law_460 dL_law_461 ?_
  refine lcall (pc := 462) (vs := [.inl (xs (i + 1))]) (rest := [.int r]) C0 G.2.1 hP2 hS1 fm_X6_ride fi_X6_ride ml_L_56 (by decide) (g := (rg_m, g2)) rfl h00m rfl rfl (fun v hv => by simp only [List.mem_cons, List.not_mem_nil, or_false] at hv; rcases hv with rfl <;> exact trivial) hl.1 (Nat.le_of_ble_eq_true rfl) dL_law_462 h (fun r2 Mm1 H2 locs2 h hP3 hq2 hS2 => ?_)
  have hP4 := hP1.kept (fun q a z => G.2.2 q a z) hq2
  refine lv_icmp_eq (pc := 465) (tgt := 1289) C0.1 C0.2.1 dL_law_465 (by decide) (fun _ => ?_) (fun hc => absurd h.1 hc)
  exact kk Mx1 Mm1 H2 locs2 h.2 ⟨hP4, hP3, hS2⟩
set_option maxHeartbeats 4000000 in
set_option maxRecDepth 100000 in
theorem lcase_10 {p : Program} {l : Launch} {e : Env} {s : State} {m : MethodId} {below : List Frame} {meth : Method} {c : Code} {b L : Nat} {xs : Nat → Int32} {g1 g2 : va_G × (Nat → ClassId) × (Nat → Nat → Nat)} {i : Nat} {lA : Array Slot} {Qf : State → Prop} {Mx Mm : kM} {H : Heap} {locs : List Loc} {x3 : Int32} {Post : kM → kM → Prop} (C0 : lw_At p s m meth c b L xs) (hL : L ≤ 3072) (G : lG g1 g2 s) (hS : lS g1 g2 s Mx Mm H locs) (hl : lv_has lA 4 [(0, .ref b), (1, .ref (g1.2.2 0 0)), (2, .ref (g2.2.2 0 0)), (3, .int x3)]) (hi : x3 = nI i) (hk : i + 6 ≤ L) (h : kPair l g1 g2 mX5_wheel mX6_wheel [.inl (xs (i + 1))] Mx Mm Post) (kk : ∀ (Mx1 Mm1 : kM) (H1 : Heap) (locs1 : List Loc), Post Mx1 Mm1 → lS g1 g2 s Mx1 Mm1 H1 locs1 → W p l e room_1 s m #[Value.ref b] below meth c H1 locs1 66 1894 Qf (F0 m 1289 lA [])) : W p l e room_1 s m #[Value.ref b] below meth c H locs 66 1894 Qf (F0 m 470 lA []) := by
  have hS0 := hS
  refine lv_aload_n (pc := 470) C0.1 C0.2.1 dL_law_470 rfl (lv_at hl 1 rfl) ?_
  refine lpush (pc := 471) C0 hL hS.2.2 hl hi (k := 1) (by omega) (by decide) dL_law_471 dL_law_472 dL_law_473 dL_law_474 dL_law_475 ?_
  refine lcall (pc := 476) (vs := [.inl (xs (i + 1))]) (rest := []) (Q1 := fun r Mx1 => kCT l (rg_m, g2) mX6_wheel (.inr (.inr (0, 0)) :: [.inl (xs (i + 1))]) Mm (kqi (fun r2 Mm1 => r = r2 ∧ Post Mx1 Mm1))) C0 G.1 hS.1 hS.2.2 fm_X5_wheel fi_X5_wheel ml_L_57 (by decide) (g := (rg_x, g1)) rfl h00x rfl rfl (fun v hv => by simp only [List.mem_cons, List.not_mem_nil, or_false] at hv; rcases hv with rfl <;> exact trivial) hl.1 (Nat.le_of_ble_eq_true rfl) dL_law_476 h (fun r Mx1 H1 locs1 h hP1 hq hS1 => ?_)
  have hP2 := hS.2.1.kept (fun q a z => G.2.2 q z a) hq
  refine lv_aload_n (pc := 479) C0.1 C0.2.1 dL_law_479 rfl (lv_at hl 2 rfl) ?_
  refine lpush (pc := 480) C0 hL hS1 hl hi (k := 1) (by omega) (by decide) dL_law_480 dL_law_481 dL_law_482 dL_law_483 dL_law_484 ?_
  refine lcall (pc := 485) (vs := [.inl (xs (i + 1))]) (rest := [.int r]) C0 G.2.1 hP2 hS1 fm_X6_wheel fi_X6_wheel ml_L_60 (by decide) (g := (rg_m, g2)) rfl h00m rfl rfl (fun v hv => by simp only [List.mem_cons, List.not_mem_nil, or_false] at hv; rcases hv with rfl <;> exact trivial) hl.1 (Nat.le_of_ble_eq_true rfl) dL_law_485 h (fun r2 Mm1 H2 locs2 h hP3 hq2 hS2 => ?_)
  have hP4 := hP1.kept (fun q a z => G.2.2 q a z) hq2
  refine lv_icmp_eq (pc := 488) (tgt := 1289) C0.1 C0.2.1 dL_law_488 (by decide) (fun _ => ?_) (fun hc => absurd h.1 hc)
  exact kk Mx1 Mm1 H2 locs2 h.2 ⟨hP4, hP3, hS2⟩
set_option maxHeartbeats 4000000 in
set_option maxRecDepth 100000 in
theorem lcase_11 {p : Program} {l : Launch} {e : Env} {s : State} {m : MethodId} {below : List Frame} {meth : Method} {c : Code} {b L : Nat} {xs : Nat → Int32} {g1 g2 : va_G × (Nat → ClassId) × (Nat → Nat → Nat)} {i : Nat} {lA : Array Slot} {Qf : State → Prop} {Mx Mm : kM} {H : Heap} {locs : List Loc} {x3 : Int32} {Post : kM → kM → Prop} (C0 : lw_At p s m meth c b L xs) (hL : L ≤ 3072) (G : lG g1 g2 s) (hS : lS g1 g2 s Mx Mm H locs) (hl : lv_has lA 4 [(0, .ref b), (1, .ref (g1.2.2 0 0)), (2, .ref (g2.2.2 0 0)), (3, .int x3)]) (hi : x3 = nI i) (hk : i + 6 ≤ L) (h : kPair l g1 g2 mX5_give mX6_give [.inl (xs (i + 1)), .inl (xs (i + 2)), .inl (xs (i + 3))] Mx Mm Post) (kk : ∀ (Mx1 Mm1 : kM) (H1 : Heap) (locs1 : List Loc), Post Mx1 Mm1 → lS g1 g2 s Mx1 Mm1 H1 locs1 → W p l e room_1 s m #[Value.ref b] below meth c H1 locs1 66 1894 Qf (F0 m 1289 lA [])) : W p l e room_1 s m #[Value.ref b] below meth c H locs 66 1894 Qf (F0 m 493 lA []) := by
  have hS0 := hS
  refine lv_aload_n (pc := 493) C0.1 C0.2.1 dL_law_493 rfl (lv_at hl 1 rfl) ?_
  refine lpush (pc := 494) C0 hL hS.2.2 hl hi (k := 1) (by omega) (by decide) dL_law_494 dL_law_495 dL_law_496 dL_law_497 dL_law_498 ?_
  refine lpush (pc := 499) C0 hL hS.2.2 hl hi (k := 2) (by omega) (by decide) dL_law_499 dL_law_500 dL_law_501 dL_law_502 dL_law_503 ?_
  refine lpush (pc := 504) C0 hL hS.2.2 hl hi (k := 3) (by omega) (by decide) dL_law_504 dL_law_505 dL_law_506 dL_law_507 dL_law_508 ?_
  refine lcall (pc := 509) (vs := [.inl (xs (i + 1)), .inl (xs (i + 2)), .inl (xs (i + 3))]) (rest := []) (Q1 := fun r Mx1 => kCT l (rg_m, g2) mX6_give (.inr (.inr (0, 0)) :: [.inl (xs (i + 1)), .inl (xs (i + 2)), .inl (xs (i + 3))]) Mm (kqi (fun r2 Mm1 => r = r2 ∧ Post Mx1 Mm1))) C0 G.1 hS.1 hS.2.2 fm_X5_give fi_X5_give ml_L_61 (by decide) (g := (rg_x, g1)) rfl h00x rfl rfl (fun v hv => by simp only [List.mem_cons, List.not_mem_nil, or_false] at hv; rcases hv with rfl | rfl | rfl <;> exact trivial) hl.1 (Nat.le_of_ble_eq_true rfl) dL_law_509 h (fun r Mx1 H1 locs1 h hP1 hq hS1 => ?_)
  have hP2 := hS.2.1.kept (fun q a z => G.2.2 q z a) hq
  refine lv_aload_n (pc := 512) C0.1 C0.2.1 dL_law_512 rfl (lv_at hl 2 rfl) ?_
  refine lpush (pc := 513) C0 hL hS1 hl hi (k := 1) (by omega) (by decide) dL_law_513 dL_law_514 dL_law_515 dL_law_516 dL_law_517 ?_
  refine lpush (pc := 518) C0 hL hS1 hl hi (k := 2) (by omega) (by decide) dL_law_518 dL_law_519 dL_law_520 dL_law_521 dL_law_522 ?_
  refine lpush (pc := 523) C0 hL hS1 hl hi (k := 3) (by omega) (by decide) dL_law_523 dL_law_524 dL_law_525 dL_law_526 dL_law_527 ?_
  refine lcall (pc := 528) (vs := [.inl (xs (i + 1)), .inl (xs (i + 2)), .inl (xs (i + 3))]) (rest := [.int r]) C0 G.2.1 hP2 hS1 fm_X6_give fi_X6_give ml_L_64 (by decide) (g := (rg_m, g2)) rfl h00m rfl rfl (fun v hv => by simp only [List.mem_cons, List.not_mem_nil, or_false] at hv; rcases hv with rfl | rfl | rfl <;> exact trivial) hl.1 (Nat.le_of_ble_eq_true rfl) dL_law_528 h (fun r2 Mm1 H2 locs2 h hP3 hq2 hS2 => ?_)
  have hP4 := hP1.kept (fun q a z => G.2.2 q a z) hq2
  refine lv_icmp_eq (pc := 531) (tgt := 1289) C0.1 C0.2.1 dL_law_531 (by decide) (fun _ => ?_) (fun hc => absurd h.1 hc)
  exact kk Mx1 Mm1 H2 locs2 h.2 ⟨hP4, hP3, hS2⟩
set_option maxHeartbeats 4000000 in
set_option maxRecDepth 100000 in
theorem lcase_12 {p : Program} {l : Launch} {e : Env} {s : State} {m : MethodId} {below : List Frame} {meth : Method} {c : Code} {b L : Nat} {xs : Nat → Int32} {g1 g2 : va_G × (Nat → ClassId) × (Nat → Nat → Nat)} {i : Nat} {lA : Array Slot} {Qf : State → Prop} {Mx Mm : kM} {H : Heap} {locs : List Loc} {x3 : Int32} {Post : kM → kM → Prop} (C0 : lw_At p s m meth c b L xs) (hL : L ≤ 3072) (G : lG g1 g2 s) (hS : lS g1 g2 s Mx Mm H locs) (hl : lv_has lA 4 [(0, .ref b), (1, .ref (g1.2.2 0 0)), (2, .ref (g2.2.2 0 0)), (3, .int x3)]) (hi : x3 = nI i) (hk : i + 6 ≤ L) (h : kPair l g1 g2 mX5_drift mX6_drift [.inl (xs (i + 1))] Mx Mm Post) (kk : ∀ (Mx1 Mm1 : kM) (H1 : Heap) (locs1 : List Loc), Post Mx1 Mm1 → lS g1 g2 s Mx1 Mm1 H1 locs1 → W p l e room_1 s m #[Value.ref b] below meth c H1 locs1 66 1894 Qf (F0 m 1289 lA [])) : W p l e room_1 s m #[Value.ref b] below meth c H locs 66 1894 Qf (F0 m 536 lA []) := by
  have hS0 := hS
  refine lv_aload_n (pc := 536) C0.1 C0.2.1 dL_law_536 rfl (lv_at hl 1 rfl) ?_
  refine lpush (pc := 537) C0 hL hS.2.2 hl hi (k := 1) (by omega) (by decide) dL_law_537 dL_law_538 dL_law_539 dL_law_540 dL_law_541 ?_
  refine lcall (pc := 542) (vs := [.inl (xs (i + 1))]) (rest := []) (Q1 := fun r Mx1 => kCT l (rg_m, g2) mX6_drift (.inr (.inr (0, 0)) :: [.inl (xs (i + 1))]) Mm (kqi (fun r2 Mm1 => r = r2 ∧ Post Mx1 Mm1))) C0 G.1 hS.1 hS.2.2 fm_X5_drift fi_X5_drift ml_L_65 (by decide) (g := (rg_x, g1)) rfl h00x rfl rfl (fun v hv => by simp only [List.mem_cons, List.not_mem_nil, or_false] at hv; rcases hv with rfl <;> exact trivial) hl.1 (Nat.le_of_ble_eq_true rfl) dL_law_542 h (fun r Mx1 H1 locs1 h hP1 hq hS1 => ?_)
  have hP2 := hS.2.1.kept (fun q a z => G.2.2 q z a) hq
  refine lv_aload_n (pc := 545) C0.1 C0.2.1 dL_law_545 rfl (lv_at hl 2 rfl) ?_
  refine lpush (pc := 546) C0 hL hS1 hl hi (k := 1) (by omega) (by decide) dL_law_546 dL_law_547 dL_law_548 dL_law_549 dL_law_550 ?_
  refine lcall (pc := 551) (vs := [.inl (xs (i + 1))]) (rest := [.int r]) C0 G.2.1 hP2 hS1 fm_X6_drift fi_X6_drift ml_L_68 (by decide) (g := (rg_m, g2)) rfl h00m rfl rfl (fun v hv => by simp only [List.mem_cons, List.not_mem_nil, or_false] at hv; rcases hv with rfl <;> exact trivial) hl.1 (Nat.le_of_ble_eq_true rfl) dL_law_551 h (fun r2 Mm1 H2 locs2 h hP3 hq2 hS2 => ?_)
  have hP4 := hP1.kept (fun q a z => G.2.2 q a z) hq2
  refine lv_icmp_eq (pc := 554) (tgt := 1289) C0.1 C0.2.1 dL_law_554 (by decide) (fun _ => ?_) (fun hc => absurd h.1 hc)
  exact kk Mx1 Mm1 H2 locs2 h.2 ⟨hP4, hP3, hS2⟩
set_option maxHeartbeats 4000000 in
set_option maxRecDepth 100000 in
theorem lcase_13 {p : Program} {l : Launch} {e : Env} {s : State} {m : MethodId} {below : List Frame} {meth : Method} {c : Code} {b L : Nat} {xs : Nat → Int32} {g1 g2 : va_G × (Nat → ClassId) × (Nat → Nat → Nat)} {i : Nat} {lA : Array Slot} {Qf : State → Prop} {Mx Mm : kM} {H : Heap} {locs : List Loc} {x3 : Int32} {Post : kM → kM → Prop} (C0 : lw_At p s m meth c b L xs) (hL : L ≤ 3072) (G : lG g1 g2 s) (hS : lS g1 g2 s Mx Mm H locs) (hl : lv_has lA 4 [(0, .ref b), (1, .ref (g1.2.2 0 0)), (2, .ref (g2.2.2 0 0)), (3, .int x3)]) (hi : x3 = nI i) (hk : i + 6 ≤ L) (h : kPair l g1 g2 mX5_undo mX6_undo [] Mx Mm Post) (kk : ∀ (Mx1 Mm1 : kM) (H1 : Heap) (locs1 : List Loc), Post Mx1 Mm1 → lS g1 g2 s Mx1 Mm1 H1 locs1 → W p l e room_1 s m #[Value.ref b] below meth c H1 locs1 66 1894 Qf (F0 m 1289 lA [])) : W p l e room_1 s m #[Value.ref b] below meth c H locs 66 1894 Qf (F0 m 559 lA []) := by
  have hS0 := hS
  refine lv_aload_n (pc := 559) C0.1 C0.2.1 dL_law_559 rfl (lv_at hl 1 rfl) ?_
  refine lcall (pc := 560) (vs := []) (rest := []) (Q1 := fun r Mx1 => kCT l (rg_m, g2) mX6_undo (.inr (.inr (0, 0)) :: []) Mm (kqi (fun r2 Mm1 => r = r2 ∧ Post Mx1 Mm1))) C0 G.1 hS.1 hS.2.2 fm_X5_undo fi_X5_undo ml_L_69 (by decide) (g := (rg_x, g1)) rfl h00x rfl rfl (fun v hv => by cases hv) hl.1 (Nat.le_of_ble_eq_true rfl) dL_law_560 h (fun r Mx1 H1 locs1 h hP1 hq hS1 => ?_)
  have hP2 := hS.2.1.kept (fun q a z => G.2.2 q z a) hq
  refine lv_aload_n (pc := 563) C0.1 C0.2.1 dL_law_563 rfl (lv_at hl 2 rfl) ?_
  refine lcall (pc := 564) (vs := []) (rest := [.int r]) C0 G.2.1 hP2 hS1 fm_X6_undo fi_X6_undo ml_L_72 (by decide) (g := (rg_m, g2)) rfl h00m rfl rfl (fun v hv => by cases hv) hl.1 (Nat.le_of_ble_eq_true rfl) dL_law_564 h (fun r2 Mm1 H2 locs2 h hP3 hq2 hS2 => ?_)
  have hP4 := hP1.kept (fun q a z => G.2.2 q a z) hq2
  refine lv_icmp_eq (pc := 567) (tgt := 1289) C0.1 C0.2.1 dL_law_567 (by decide) (fun _ => ?_) (fun hc => absurd h.1 hc)
  exact kk Mx1 Mm1 H2 locs2 h.2 ⟨hP4, hP3, hS2⟩
set_option maxHeartbeats 4000000 in
set_option maxRecDepth 100000 in
theorem lcase_14 {p : Program} {l : Launch} {e : Env} {s : State} {m : MethodId} {below : List Frame} {meth : Method} {c : Code} {b L : Nat} {xs : Nat → Int32} {g1 g2 : va_G × (Nat → ClassId) × (Nat → Nat → Nat)} {i : Nat} {lA : Array Slot} {Qf : State → Prop} {Mx Mm : kM} {H : Heap} {locs : List Loc} {x3 : Int32} {Post : kM → kM → Prop} (C0 : lw_At p s m meth c b L xs) (hL : L ≤ 3072) (G : lG g1 g2 s) (hS : lS g1 g2 s Mx Mm H locs) (hl : lv_has lA 4 [(0, .ref b), (1, .ref (g1.2.2 0 0)), (2, .ref (g2.2.2 0 0)), (3, .int x3)]) (hi : x3 = nI i) (hk : i + 6 ≤ L) (h : kPair l g1 g2 mX5_seed mX6_seed [.inl (xs (i + 1))] Mx Mm Post) (kk : ∀ (Mx1 Mm1 : kM) (H1 : Heap) (locs1 : List Loc), Post Mx1 Mm1 → lS g1 g2 s Mx1 Mm1 H1 locs1 → W p l e room_1 s m #[Value.ref b] below meth c H1 locs1 66 1894 Qf (F0 m 1289 lA [])) : W p l e room_1 s m #[Value.ref b] below meth c H locs 66 1894 Qf (F0 m 572 lA []) := by
  have hS0 := hS
  refine lv_aload_n (pc := 572) C0.1 C0.2.1 dL_law_572 rfl (lv_at hl 1 rfl) ?_
  refine lpush (pc := 573) C0 hL hS.2.2 hl hi (k := 1) (by omega) (by decide) dL_law_573 dL_law_574 dL_law_575 dL_law_576 dL_law_577 ?_
  refine lcall (pc := 578) (vs := [.inl (xs (i + 1))]) (rest := []) (Q1 := fun r Mx1 => kCT l (rg_m, g2) mX6_seed (.inr (.inr (0, 0)) :: [.inl (xs (i + 1))]) Mm (kqi (fun r2 Mm1 => r = r2 ∧ Post Mx1 Mm1))) C0 G.1 hS.1 hS.2.2 fm_X5_seed fi_X5_seed ml_L_73 (by decide) (g := (rg_x, g1)) rfl h00x rfl rfl (fun v hv => by simp only [List.mem_cons, List.not_mem_nil, or_false] at hv; rcases hv with rfl <;> exact trivial) hl.1 (Nat.le_of_ble_eq_true rfl) dL_law_578 h (fun r Mx1 H1 locs1 h hP1 hq hS1 => ?_)
  have hP2 := hS.2.1.kept (fun q a z => G.2.2 q z a) hq
  refine lv_aload_n (pc := 581) C0.1 C0.2.1 dL_law_581 rfl (lv_at hl 2 rfl) ?_
  refine lpush (pc := 582) C0 hL hS1 hl hi (k := 1) (by omega) (by decide) dL_law_582 dL_law_583 dL_law_584 dL_law_585 dL_law_586 ?_
  refine lcall (pc := 587) (vs := [.inl (xs (i + 1))]) (rest := [.int r]) C0 G.2.1 hP2 hS1 fm_X6_seed fi_X6_seed ml_L_76 (by decide) (g := (rg_m, g2)) rfl h00m rfl rfl (fun v hv => by simp only [List.mem_cons, List.not_mem_nil, or_false] at hv; rcases hv with rfl <;> exact trivial) hl.1 (Nat.le_of_ble_eq_true rfl) dL_law_587 h (fun r2 Mm1 H2 locs2 h hP3 hq2 hS2 => ?_)
  have hP4 := hP1.kept (fun q a z => G.2.2 q a z) hq2
  refine lv_icmp_eq (pc := 590) (tgt := 1289) C0.1 C0.2.1 dL_law_590 (by decide) (fun _ => ?_) (fun hc => absurd h.1 hc)
  exact kk Mx1 Mm1 H2 locs2 h.2 ⟨hP4, hP3, hS2⟩
set_option maxHeartbeats 4000000 in
set_option maxRecDepth 100000 in
theorem lcase_15 {p : Program} {l : Launch} {e : Env} {s : State} {m : MethodId} {below : List Frame} {meth : Method} {c : Code} {b L : Nat} {xs : Nat → Int32} {g1 g2 : va_G × (Nat → ClassId) × (Nat → Nat → Nat)} {i : Nat} {lA : Array Slot} {Qf : State → Prop} {Mx Mm : kM} {H : Heap} {locs : List Loc} {x3 : Int32} {Post : kM → kM → Prop} (C0 : lw_At p s m meth c b L xs) (hL : L ≤ 3072) (G : lG g1 g2 s) (hS : lS g1 g2 s Mx Mm H locs) (hl : lv_has lA 4 [(0, .ref b), (1, .ref (g1.2.2 0 0)), (2, .ref (g2.2.2 0 0)), (3, .int x3)]) (hi : x3 = nI i) (hk : i + 6 ≤ L) (h : kPair l g1 g2 mX5_ahead mX6_ahead [.inl (xs (i + 1)), .inl (xs (i + 2))] Mx Mm Post) (kk : ∀ (Mx1 Mm1 : kM) (H1 : Heap) (locs1 : List Loc), Post Mx1 Mm1 → lS g1 g2 s Mx1 Mm1 H1 locs1 → W p l e room_1 s m #[Value.ref b] below meth c H1 locs1 66 1894 Qf (F0 m 1289 lA [])) : W p l e room_1 s m #[Value.ref b] below meth c H locs 66 1894 Qf (F0 m 595 lA []) := by
  have hS0 := hS
  refine lv_aload_n (pc := 595) C0.1 C0.2.1 dL_law_595 rfl (lv_at hl 1 rfl) ?_
  refine lpush (pc := 596) C0 hL hS.2.2 hl hi (k := 1) (by omega) (by decide) dL_law_596 dL_law_597 dL_law_598 dL_law_599 dL_law_600 ?_
  refine lpush (pc := 601) C0 hL hS.2.2 hl hi (k := 2) (by omega) (by decide) dL_law_601 dL_law_602 dL_law_603 dL_law_604 dL_law_605 ?_
  refine lcall (pc := 606) (vs := [.inl (xs (i + 1)), .inl (xs (i + 2))]) (rest := []) (Q1 := fun r Mx1 => kCT l (rg_m, g2) mX6_ahead (.inr (.inr (0, 0)) :: [.inl (xs (i + 1)), .inl (xs (i + 2))]) Mm (kqi (fun r2 Mm1 => r = r2 ∧ Post Mx1 Mm1))) C0 G.1 hS.1 hS.2.2 fm_X5_ahead fi_X5_ahead ml_L_77 (by decide) (g := (rg_x, g1)) rfl h00x rfl rfl (fun v hv => by simp only [List.mem_cons, List.not_mem_nil, or_false] at hv; rcases hv with rfl | rfl <;> exact trivial) hl.1 (Nat.le_of_ble_eq_true rfl) dL_law_606 h (fun r Mx1 H1 locs1 h hP1 hq hS1 => ?_)
  have hP2 := hS.2.1.kept (fun q a z => G.2.2 q z a) hq
  refine lv_aload_n (pc := 609) C0.1 C0.2.1 dL_law_609 rfl (lv_at hl 2 rfl) ?_
  refine lpush (pc := 610) C0 hL hS1 hl hi (k := 1) (by omega) (by decide) dL_law_610 dL_law_611 dL_law_612 dL_law_613 dL_law_614 ?_
  refine lpush (pc := 615) C0 hL hS1 hl hi (k := 2) (by omega) (by decide) dL_law_615 dL_law_616 dL_law_617 dL_law_618 dL_law_619 ?_
  refine lcall (pc := 620) (vs := [.inl (xs (i + 1)), .inl (xs (i + 2))]) (rest := [.int r]) C0 G.2.1 hP2 hS1 fm_X6_ahead fi_X6_ahead ml_L_80 (by decide) (g := (rg_m, g2)) rfl h00m rfl rfl (fun v hv => by simp only [List.mem_cons, List.not_mem_nil, or_false] at hv; rcases hv with rfl | rfl <;> exact trivial) hl.1 (Nat.le_of_ble_eq_true rfl) dL_law_620 h (fun r2 Mm1 H2 locs2 h hP3 hq2 hS2 => ?_)
  have hP4 := hP1.kept (fun q a z => G.2.2 q a z) hq2
  refine lv_icmp_eq (pc := 623) (tgt := 1289) C0.1 C0.2.1 dL_law_623 (by decide) (fun _ => ?_) (fun hc => absurd h.1 hc)
  exact kk Mx1 Mm1 H2 locs2 h.2 ⟨hP4, hP3, hS2⟩
set_option maxHeartbeats 4000000 in
set_option maxRecDepth 100000 in
theorem lcase_16 {p : Program} {l : Launch} {e : Env} {s : State} {m : MethodId} {below : List Frame} {meth : Method} {c : Code} {b L : Nat} {xs : Nat → Int32} {g1 g2 : va_G × (Nat → ClassId) × (Nat → Nat → Nat)} {i : Nat} {lA : Array Slot} {Qf : State → Prop} {Mx Mm : kM} {H : Heap} {locs : List Loc} {x3 : Int32} {Post : kM → kM → Prop} (C0 : lw_At p s m meth c b L xs) (hL : L ≤ 3072) (G : lG g1 g2 s) (hS : lS g1 g2 s Mx Mm H locs) (hl : lv_has lA 4 [(0, .ref b), (1, .ref (g1.2.2 0 0)), (2, .ref (g2.2.2 0 0)), (3, .int x3)]) (hi : x3 = nI i) (hk : i + 6 ≤ L) (h : kPair l g1 g2 mX5_comes mX6_comes [.inl (xs (i + 1)), .inl (xs (i + 2))] Mx Mm Post) (kk : ∀ (Mx1 Mm1 : kM) (H1 : Heap) (locs1 : List Loc), Post Mx1 Mm1 → lS g1 g2 s Mx1 Mm1 H1 locs1 → W p l e room_1 s m #[Value.ref b] below meth c H1 locs1 66 1894 Qf (F0 m 1289 lA [])) : W p l e room_1 s m #[Value.ref b] below meth c H locs 66 1894 Qf (F0 m 628 lA []) := by
  have hS0 := hS
  refine lv_aload_n (pc := 628) C0.1 C0.2.1 dL_law_628 rfl (lv_at hl 1 rfl) ?_
  refine lpush (pc := 629) C0 hL hS.2.2 hl hi (k := 1) (by omega) (by decide) dL_law_629 dL_law_630 dL_law_631 dL_law_632 dL_law_633 ?_
  refine lpush (pc := 634) C0 hL hS.2.2 hl hi (k := 2) (by omega) (by decide) dL_law_634 dL_law_635 dL_law_636 dL_law_637 dL_law_638 ?_
  refine lcall (pc := 639) (vs := [.inl (xs (i + 1)), .inl (xs (i + 2))]) (rest := []) (Q1 := fun r Mx1 => kCT l (rg_m, g2) mX6_comes (.inr (.inr (0, 0)) :: [.inl (xs (i + 1)), .inl (xs (i + 2))]) Mm (kqi (fun r2 Mm1 => r = r2 ∧ Post Mx1 Mm1))) C0 G.1 hS.1 hS.2.2 fm_X5_comes fi_X5_comes ml_L_81 (by decide) (g := (rg_x, g1)) rfl h00x rfl rfl (fun v hv => by simp only [List.mem_cons, List.not_mem_nil, or_false] at hv; rcases hv with rfl | rfl <;> exact trivial) hl.1 (Nat.le_of_ble_eq_true rfl) dL_law_639 h (fun r Mx1 H1 locs1 h hP1 hq hS1 => ?_)
  have hP2 := hS.2.1.kept (fun q a z => G.2.2 q z a) hq
  refine lv_aload_n (pc := 642) C0.1 C0.2.1 dL_law_642 rfl (lv_at hl 2 rfl) ?_
  refine lpush (pc := 643) C0 hL hS1 hl hi (k := 1) (by omega) (by decide) dL_law_643 dL_law_644 dL_law_645 dL_law_646 dL_law_647 ?_
  refine lpush (pc := 648) C0 hL hS1 hl hi (k := 2) (by omega) (by decide) dL_law_648 dL_law_649 dL_law_650 dL_law_651 dL_law_652 ?_
  refine lcall (pc := 653) (vs := [.inl (xs (i + 1)), .inl (xs (i + 2))]) (rest := [.int r]) C0 G.2.1 hP2 hS1 fm_X6_comes fi_X6_comes ml_L_84 (by decide) (g := (rg_m, g2)) rfl h00m rfl rfl (fun v hv => by simp only [List.mem_cons, List.not_mem_nil, or_false] at hv; rcases hv with rfl | rfl <;> exact trivial) hl.1 (Nat.le_of_ble_eq_true rfl) dL_law_653 h (fun r2 Mm1 H2 locs2 h hP3 hq2 hS2 => ?_)
  have hP4 := hP1.kept (fun q a z => G.2.2 q a z) hq2
  refine lv_icmp_eq (pc := 656) (tgt := 1289) C0.1 C0.2.1 dL_law_656 (by decide) (fun _ => ?_) (fun hc => absurd h.1 hc)
  exact kk Mx1 Mm1 H2 locs2 h.2 ⟨hP4, hP3, hS2⟩
set_option maxHeartbeats 4000000 in
set_option maxRecDepth 100000 in
theorem lcase_17 {p : Program} {l : Launch} {e : Env} {s : State} {m : MethodId} {below : List Frame} {meth : Method} {c : Code} {b L : Nat} {xs : Nat → Int32} {g1 g2 : va_G × (Nat → ClassId) × (Nat → Nat → Nat)} {i : Nat} {lA : Array Slot} {Qf : State → Prop} {Mx Mm : kM} {H : Heap} {locs : List Loc} {x3 : Int32} {Post : kM → kM → Prop} (C0 : lw_At p s m meth c b L xs) (hL : L ≤ 3072) (G : lG g1 g2 s) (hS : lS g1 g2 s Mx Mm H locs) (hl : lv_has lA 4 [(0, .ref b), (1, .ref (g1.2.2 0 0)), (2, .ref (g2.2.2 0 0)), (3, .int x3)]) (hi : x3 = nI i) (hk : i + 6 ≤ L) (h : kPair l g1 g2 mX5_first mX6_first [] Mx Mm Post) (kk : ∀ (Mx1 Mm1 : kM) (H1 : Heap) (locs1 : List Loc), Post Mx1 Mm1 → lS g1 g2 s Mx1 Mm1 H1 locs1 → W p l e room_1 s m #[Value.ref b] below meth c H1 locs1 66 1894 Qf (F0 m 1289 lA [])) : W p l e room_1 s m #[Value.ref b] below meth c H locs 66 1894 Qf (F0 m 661 lA []) := by
  have hS0 := hS
  refine lv_aload_n (pc := 661) C0.1 C0.2.1 dL_law_661 rfl (lv_at hl 1 rfl) ?_
  refine lcall (pc := 662) (vs := []) (rest := []) (Q1 := fun r Mx1 => kCT l (rg_m, g2) mX6_first (.inr (.inr (0, 0)) :: []) Mm (kqi (fun r2 Mm1 => r = r2 ∧ Post Mx1 Mm1))) C0 G.1 hS.1 hS.2.2 fm_X5_first fi_X5_first ml_L_85 (by decide) (g := (rg_x, g1)) rfl h00x rfl rfl (fun v hv => by cases hv) hl.1 (Nat.le_of_ble_eq_true rfl) dL_law_662 h (fun r Mx1 H1 locs1 h hP1 hq hS1 => ?_)
  have hP2 := hS.2.1.kept (fun q a z => G.2.2 q z a) hq
  refine lv_aload_n (pc := 665) C0.1 C0.2.1 dL_law_665 rfl (lv_at hl 2 rfl) ?_
  refine lcall (pc := 666) (vs := []) (rest := [.int r]) C0 G.2.1 hP2 hS1 fm_X6_first fi_X6_first ml_L_88 (by decide) (g := (rg_m, g2)) rfl h00m rfl rfl (fun v hv => by cases hv) hl.1 (Nat.le_of_ble_eq_true rfl) dL_law_666 h (fun r2 Mm1 H2 locs2 h hP3 hq2 hS2 => ?_)
  have hP4 := hP1.kept (fun q a z => G.2.2 q a z) hq2
  refine lv_icmp_eq (pc := 669) (tgt := 1289) C0.1 C0.2.1 dL_law_669 (by decide) (fun _ => ?_) (fun hc => absurd h.1 hc)
  exact kk Mx1 Mm1 H2 locs2 h.2 ⟨hP4, hP3, hS2⟩
set_option maxHeartbeats 4000000 in
set_option maxRecDepth 100000 in
theorem lcase_18 {p : Program} {l : Launch} {e : Env} {s : State} {m : MethodId} {below : List Frame} {meth : Method} {c : Code} {b L : Nat} {xs : Nat → Int32} {g1 g2 : va_G × (Nat → ClassId) × (Nat → Nat → Nat)} {i : Nat} {lA : Array Slot} {Qf : State → Prop} {Mx Mm : kM} {H : Heap} {locs : List Loc} {x3 : Int32} {Post : kM → kM → Prop} (C0 : lw_At p s m meth c b L xs) (hL : L ≤ 3072) (G : lG g1 g2 s) (hS : lS g1 g2 s Mx Mm H locs) (hl : lv_has lA 4 [(0, .ref b), (1, .ref (g1.2.2 0 0)), (2, .ref (g2.2.2 0 0)), (3, .int x3)]) (hi : x3 = nI i) (hk : i + 6 ≤ L) (h : kPair l g1 g2 mX5_caught mX6_caught [.inl (xs (i + 1)), .inl (xs (i + 2))] Mx Mm Post) (kk : ∀ (Mx1 Mm1 : kM) (H1 : Heap) (locs1 : List Loc), Post Mx1 Mm1 → lS g1 g2 s Mx1 Mm1 H1 locs1 → W p l e room_1 s m #[Value.ref b] below meth c H1 locs1 66 1894 Qf (F0 m 1289 lA [])) : W p l e room_1 s m #[Value.ref b] below meth c H locs 66 1894 Qf (F0 m 674 lA []) := by
  have hS0 := hS
  refine lv_aload_n (pc := 674) C0.1 C0.2.1 dL_law_674 rfl (lv_at hl 1 rfl) ?_
  refine lpush (pc := 675) C0 hL hS.2.2 hl hi (k := 1) (by omega) (by decide) dL_law_675 dL_law_676 dL_law_677 dL_law_678 dL_law_679 ?_
  refine lpush (pc := 680) C0 hL hS.2.2 hl hi (k := 2) (by omega) (by decide) dL_law_680 dL_law_681 dL_law_682 dL_law_683 dL_law_684 ?_
  refine lcall (pc := 685) (vs := [.inl (xs (i + 1)), .inl (xs (i + 2))]) (rest := []) (Q1 := fun r Mx1 => kCT l (rg_m, g2) mX6_caught (.inr (.inr (0, 0)) :: [.inl (xs (i + 1)), .inl (xs (i + 2))]) Mm (kqi (fun r2 Mm1 => r = r2 ∧ Post Mx1 Mm1))) C0 G.1 hS.1 hS.2.2 fm_X5_caught fi_X5_caught ml_L_89 (by decide) (g := (rg_x, g1)) rfl h00x rfl rfl (fun v hv => by simp only [List.mem_cons, List.not_mem_nil, or_false] at hv; rcases hv with rfl | rfl <;> exact trivial) hl.1 (Nat.le_of_ble_eq_true rfl) dL_law_685 h (fun r Mx1 H1 locs1 h hP1 hq hS1 => ?_)
  have hP2 := hS.2.1.kept (fun q a z => G.2.2 q z a) hq
  refine lv_aload_n (pc := 688) C0.1 C0.2.1 dL_law_688 rfl (lv_at hl 2 rfl) ?_
  refine lpush (pc := 689) C0 hL hS1 hl hi (k := 1) (by omega) (by decide) dL_law_689 dL_law_690 dL_law_691 dL_law_692 dL_law_693 ?_
  refine lpush (pc := 694) C0 hL hS1 hl hi (k := 2) (by omega) (by decide) dL_law_694 dL_law_695 dL_law_696 dL_law_697 dL_law_698 ?_
  refine lcall (pc := 699) (vs := [.inl (xs (i + 1)), .inl (xs (i + 2))]) (rest := [.int r]) C0 G.2.1 hP2 hS1 fm_X6_caught fi_X6_caught ml_L_92 (by decide) (g := (rg_m, g2)) rfl h00m rfl rfl (fun v hv => by simp only [List.mem_cons, List.not_mem_nil, or_false] at hv; rcases hv with rfl | rfl <;> exact trivial) hl.1 (Nat.le_of_ble_eq_true rfl) dL_law_699 h (fun r2 Mm1 H2 locs2 h hP3 hq2 hS2 => ?_)
  have hP4 := hP1.kept (fun q a z => G.2.2 q a z) hq2
  refine lv_icmp_eq (pc := 702) (tgt := 1289) C0.1 C0.2.1 dL_law_702 (by decide) (fun _ => ?_) (fun hc => absurd h.1 hc)
  exact kk Mx1 Mm1 H2 locs2 h.2 ⟨hP4, hP3, hS2⟩
set_option maxHeartbeats 4000000 in
set_option maxRecDepth 100000 in
theorem lcase_19 {p : Program} {l : Launch} {e : Env} {s : State} {m : MethodId} {below : List Frame} {meth : Method} {c : Code} {b L : Nat} {xs : Nat → Int32} {g1 g2 : va_G × (Nat → ClassId) × (Nat → Nat → Nat)} {i : Nat} {lA : Array Slot} {Qf : State → Prop} {Mx Mm : kM} {H : Heap} {locs : List Loc} {x3 : Int32} {Post : kM → kM → Prop} (C0 : lw_At p s m meth c b L xs) (hL : L ≤ 3072) (G : lG g1 g2 s) (hS : lS g1 g2 s Mx Mm H locs) (hl : lv_has lA 4 [(0, .ref b), (1, .ref (g1.2.2 0 0)), (2, .ref (g2.2.2 0 0)), (3, .int x3)]) (hi : x3 = nI i) (hk : i + 6 ≤ L) (h : kPair l g1 g2 mX5_best mX6_best [.inl (xs (i + 1)), .inl (xs (i + 2))] Mx Mm Post) (kk : ∀ (Mx1 Mm1 : kM) (H1 : Heap) (locs1 : List Loc), Post Mx1 Mm1 → lS g1 g2 s Mx1 Mm1 H1 locs1 → W p l e room_1 s m #[Value.ref b] below meth c H1 locs1 66 1894 Qf (F0 m 1289 lA [])) : W p l e room_1 s m #[Value.ref b] below meth c H locs 66 1894 Qf (F0 m 707 lA []) := by
  have hS0 := hS
  refine lv_aload_n (pc := 707) C0.1 C0.2.1 dL_law_707 rfl (lv_at hl 1 rfl) ?_
  refine lpush (pc := 708) C0 hL hS.2.2 hl hi (k := 1) (by omega) (by decide) dL_law_708 dL_law_709 dL_law_710 dL_law_711 dL_law_712 ?_
  refine lpush (pc := 713) C0 hL hS.2.2 hl hi (k := 2) (by omega) (by decide) dL_law_713 dL_law_714 dL_law_715 dL_law_716 dL_law_717 ?_
  refine lcall (pc := 718) (vs := [.inl (xs (i + 1)), .inl (xs (i + 2))]) (rest := []) (Q1 := fun r Mx1 => kCT l (rg_m, g2) mX6_best (.inr (.inr (0, 0)) :: [.inl (xs (i + 1)), .inl (xs (i + 2))]) Mm (kqi (fun r2 Mm1 => r = r2 ∧ Post Mx1 Mm1))) C0 G.1 hS.1 hS.2.2 fm_X5_best fi_X5_best ml_L_93 (by decide) (g := (rg_x, g1)) rfl h00x rfl rfl (fun v hv => by simp only [List.mem_cons, List.not_mem_nil, or_false] at hv; rcases hv with rfl | rfl <;> exact trivial) hl.1 (Nat.le_of_ble_eq_true rfl) dL_law_718 h (fun r Mx1 H1 locs1 h hP1 hq hS1 => ?_)
  have hP2 := hS.2.1.kept (fun q a z => G.2.2 q z a) hq
  refine lv_aload_n (pc := 721) C0.1 C0.2.1 dL_law_721 rfl (lv_at hl 2 rfl) ?_
  refine lpush (pc := 722) C0 hL hS1 hl hi (k := 1) (by omega) (by decide) dL_law_722 dL_law_723 dL_law_724 dL_law_725 dL_law_726 ?_
  refine lpush (pc := 727) C0 hL hS1 hl hi (k := 2) (by omega) (by decide) dL_law_727 dL_law_728 dL_law_729 dL_law_730 dL_law_731 ?_
  refine lcall (pc := 732) (vs := [.inl (xs (i + 1)), .inl (xs (i + 2))]) (rest := [.int r]) C0 G.2.1 hP2 hS1 fm_X6_best fi_X6_best ml_L_96 (by decide) (g := (rg_m, g2)) rfl h00m rfl rfl (fun v hv => by simp only [List.mem_cons, List.not_mem_nil, or_false] at hv; rcases hv with rfl | rfl <;> exact trivial) hl.1 (Nat.le_of_ble_eq_true rfl) dL_law_732 h (fun r2 Mm1 H2 locs2 h hP3 hq2 hS2 => ?_)
  have hP4 := hP1.kept (fun q a z => G.2.2 q a z) hq2
  refine lv_icmp_eq (pc := 735) (tgt := 1289) C0.1 C0.2.1 dL_law_735 (by decide) (fun _ => ?_) (fun hc => absurd h.1 hc)
  exact kk Mx1 Mm1 H2 locs2 h.2 ⟨hP4, hP3, hS2⟩
set_option maxHeartbeats 4000000 in
set_option maxRecDepth 100000 in
theorem lcase_20 {p : Program} {l : Launch} {e : Env} {s : State} {m : MethodId} {below : List Frame} {meth : Method} {c : Code} {b L : Nat} {xs : Nat → Int32} {g1 g2 : va_G × (Nat → ClassId) × (Nat → Nat → Nat)} {i : Nat} {lA : Array Slot} {Qf : State → Prop} {Mx Mm : kM} {H : Heap} {locs : List Loc} {x3 : Int32} {Post : kM → kM → Prop} (C0 : lw_At p s m meth c b L xs) (hL : L ≤ 3072) (G : lG g1 g2 s) (hS : lS g1 g2 s Mx Mm H locs) (hl : lv_has lA 4 [(0, .ref b), (1, .ref (g1.2.2 0 0)), (2, .ref (g2.2.2 0 0)), (3, .int x3)]) (hi : x3 = nI i) (hk : i + 6 ≤ L) (h : kPair l g1 g2 mX5_earlier mX6_earlier [.inl (xs (i + 1)), .inl (xs (i + 2))] Mx Mm Post) (kk : ∀ (Mx1 Mm1 : kM) (H1 : Heap) (locs1 : List Loc), Post Mx1 Mm1 → lS g1 g2 s Mx1 Mm1 H1 locs1 → W p l e room_1 s m #[Value.ref b] below meth c H1 locs1 66 1894 Qf (F0 m 1289 lA [])) : W p l e room_1 s m #[Value.ref b] below meth c H locs 66 1894 Qf (F0 m 740 lA []) := by
  have hS0 := hS
  refine lv_aload_n (pc := 740) C0.1 C0.2.1 dL_law_740 rfl (lv_at hl 1 rfl) ?_
  refine lpush (pc := 741) C0 hL hS.2.2 hl hi (k := 1) (by omega) (by decide) dL_law_741 dL_law_742 dL_law_743 dL_law_744 dL_law_745 ?_
  refine lpush (pc := 746) C0 hL hS.2.2 hl hi (k := 2) (by omega) (by decide) dL_law_746 dL_law_747 dL_law_748 dL_law_749 dL_law_750 ?_
  refine lcall (pc := 751) (vs := [.inl (xs (i + 1)), .inl (xs (i + 2))]) (rest := []) (Q1 := fun r Mx1 => kCT l (rg_m, g2) mX6_earlier (.inr (.inr (0, 0)) :: [.inl (xs (i + 1)), .inl (xs (i + 2))]) Mm (kqi (fun r2 Mm1 => r = r2 ∧ Post Mx1 Mm1))) C0 G.1 hS.1 hS.2.2 fm_X5_earlier fi_X5_earlier ml_L_97 (by decide) (g := (rg_x, g1)) rfl h00x rfl rfl (fun v hv => by simp only [List.mem_cons, List.not_mem_nil, or_false] at hv; rcases hv with rfl | rfl <;> exact trivial) hl.1 (Nat.le_of_ble_eq_true rfl) dL_law_751 h (fun r Mx1 H1 locs1 h hP1 hq hS1 => ?_)
  have hP2 := hS.2.1.kept (fun q a z => G.2.2 q z a) hq
  refine lv_aload_n (pc := 754) C0.1 C0.2.1 dL_law_754 rfl (lv_at hl 2 rfl) ?_
  refine lpush (pc := 755) C0 hL hS1 hl hi (k := 1) (by omega) (by decide) dL_law_755 dL_law_756 dL_law_757 dL_law_758 dL_law_759 ?_
  refine lpush (pc := 760) C0 hL hS1 hl hi (k := 2) (by omega) (by decide) dL_law_760 dL_law_761 dL_law_762 dL_law_763 dL_law_764 ?_
  refine lcall (pc := 765) (vs := [.inl (xs (i + 1)), .inl (xs (i + 2))]) (rest := [.int r]) C0 G.2.1 hP2 hS1 fm_X6_earlier fi_X6_earlier ml_L_100 (by decide) (g := (rg_m, g2)) rfl h00m rfl rfl (fun v hv => by simp only [List.mem_cons, List.not_mem_nil, or_false] at hv; rcases hv with rfl | rfl <;> exact trivial) hl.1 (Nat.le_of_ble_eq_true rfl) dL_law_765 h (fun r2 Mm1 H2 locs2 h hP3 hq2 hS2 => ?_)
  have hP4 := hP1.kept (fun q a z => G.2.2 q a z) hq2
  refine lv_icmp_eq (pc := 768) (tgt := 1289) C0.1 C0.2.1 dL_law_768 (by decide) (fun _ => ?_) (fun hc => absurd h.1 hc)
  exact kk Mx1 Mm1 H2 locs2 h.2 ⟨hP4, hP3, hS2⟩
set_option maxHeartbeats 4000000 in
set_option maxRecDepth 100000 in
theorem lcase_21 {p : Program} {l : Launch} {e : Env} {s : State} {m : MethodId} {below : List Frame} {meth : Method} {c : Code} {b L : Nat} {xs : Nat → Int32} {g1 g2 : va_G × (Nat → ClassId) × (Nat → Nat → Nat)} {i : Nat} {lA : Array Slot} {Qf : State → Prop} {Mx Mm : kM} {H : Heap} {locs : List Loc} {x3 : Int32} {Post : kM → kM → Prop} (C0 : lw_At p s m meth c b L xs) (hL : L ≤ 3072) (G : lG g1 g2 s) (hS : lS g1 g2 s Mx Mm H locs) (hl : lv_has lA 4 [(0, .ref b), (1, .ref (g1.2.2 0 0)), (2, .ref (g2.2.2 0 0)), (3, .int x3)]) (hi : x3 = nI i) (hk : i + 6 ≤ L) (h : kPair l g1 g2 mX5_purse mX6_purse [.inl (xs (i + 1)), .inl (xs (i + 2))] Mx Mm Post) (kk : ∀ (Mx1 Mm1 : kM) (H1 : Heap) (locs1 : List Loc), Post Mx1 Mm1 → lS g1 g2 s Mx1 Mm1 H1 locs1 → W p l e room_1 s m #[Value.ref b] below meth c H1 locs1 66 1894 Qf (F0 m 1289 lA [])) : W p l e room_1 s m #[Value.ref b] below meth c H locs 66 1894 Qf (F0 m 773 lA []) := by
  have hS0 := hS
  refine lv_aload_n (pc := 773) C0.1 C0.2.1 dL_law_773 rfl (lv_at hl 1 rfl) ?_
  refine lpush (pc := 774) C0 hL hS.2.2 hl hi (k := 1) (by omega) (by decide) dL_law_774 dL_law_775 dL_law_776 dL_law_777 dL_law_778 ?_
  refine lpush (pc := 779) C0 hL hS.2.2 hl hi (k := 2) (by omega) (by decide) dL_law_779 dL_law_780 dL_law_781 dL_law_782 dL_law_783 ?_
  refine lcall (pc := 784) (vs := [.inl (xs (i + 1)), .inl (xs (i + 2))]) (rest := []) (Q1 := fun r Mx1 => kCT l (rg_m, g2) mX6_purse (.inr (.inr (0, 0)) :: [.inl (xs (i + 1)), .inl (xs (i + 2))]) Mm (kqi (fun r2 Mm1 => r = r2 ∧ Post Mx1 Mm1))) C0 G.1 hS.1 hS.2.2 fm_X5_purse fi_X5_purse ml_L_101 (by decide) (g := (rg_x, g1)) rfl h00x rfl rfl (fun v hv => by simp only [List.mem_cons, List.not_mem_nil, or_false] at hv; rcases hv with rfl | rfl <;> exact trivial) hl.1 (Nat.le_of_ble_eq_true rfl) dL_law_784 h (fun r Mx1 H1 locs1 h hP1 hq hS1 => ?_)
  have hP2 := hS.2.1.kept (fun q a z => G.2.2 q z a) hq
  refine lv_aload_n (pc := 787) C0.1 C0.2.1 dL_law_787 rfl (lv_at hl 2 rfl) ?_
  refine lpush (pc := 788) C0 hL hS1 hl hi (k := 1) (by omega) (by decide) dL_law_788 dL_law_789 dL_law_790 dL_law_791 dL_law_792 ?_
  refine lpush (pc := 793) C0 hL hS1 hl hi (k := 2) (by omega) (by decide) dL_law_793 dL_law_794 dL_law_795 dL_law_796 dL_law_797 ?_
  refine lcall (pc := 798) (vs := [.inl (xs (i + 1)), .inl (xs (i + 2))]) (rest := [.int r]) C0 G.2.1 hP2 hS1 fm_X6_purse fi_X6_purse ml_L_104 (by decide) (g := (rg_m, g2)) rfl h00m rfl rfl (fun v hv => by simp only [List.mem_cons, List.not_mem_nil, or_false] at hv; rcases hv with rfl | rfl <;> exact trivial) hl.1 (Nat.le_of_ble_eq_true rfl) dL_law_798 h (fun r2 Mm1 H2 locs2 h hP3 hq2 hS2 => ?_)
  have hP4 := hP1.kept (fun q a z => G.2.2 q a z) hq2
  refine lv_icmp_eq (pc := 801) (tgt := 1289) C0.1 C0.2.1 dL_law_801 (by decide) (fun _ => ?_) (fun hc => absurd h.1 hc)
  exact kk Mx1 Mm1 H2 locs2 h.2 ⟨hP4, hP3, hS2⟩
set_option maxHeartbeats 4000000 in
set_option maxRecDepth 100000 in
theorem lcase_22 {p : Program} {l : Launch} {e : Env} {s : State} {m : MethodId} {below : List Frame} {meth : Method} {c : Code} {b L : Nat} {xs : Nat → Int32} {g1 g2 : va_G × (Nat → ClassId) × (Nat → Nat → Nat)} {i : Nat} {lA : Array Slot} {Qf : State → Prop} {Mx Mm : kM} {H : Heap} {locs : List Loc} {x3 : Int32} {Post : kM → kM → Prop} (C0 : lw_At p s m meth c b L xs) (hL : L ≤ 3072) (G : lG g1 g2 s) (hS : lS g1 g2 s Mx Mm H locs) (hl : lv_has lA 4 [(0, .ref b), (1, .ref (g1.2.2 0 0)), (2, .ref (g2.2.2 0 0)), (3, .int x3)]) (hi : x3 = nI i) (hk : i + 6 ≤ L) (h : kPair l g1 g2 mX5_loosened mX6_loosened [.inl (xs (i + 1)), .inl (xs (i + 2))] Mx Mm Post) (kk : ∀ (Mx1 Mm1 : kM) (H1 : Heap) (locs1 : List Loc), Post Mx1 Mm1 → lS g1 g2 s Mx1 Mm1 H1 locs1 → W p l e room_1 s m #[Value.ref b] below meth c H1 locs1 66 1894 Qf (F0 m 1289 lA [])) : W p l e room_1 s m #[Value.ref b] below meth c H locs 66 1894 Qf (F0 m 806 lA []) := by
  have hS0 := hS
  refine lv_aload_n (pc := 806) C0.1 C0.2.1 dL_law_806 rfl (lv_at hl 1 rfl) ?_
  refine lpush (pc := 807) C0 hL hS.2.2 hl hi (k := 1) (by omega) (by decide) dL_law_807 dL_law_808 dL_law_809 dL_law_810 dL_law_811 ?_
  refine lpush (pc := 812) C0 hL hS.2.2 hl hi (k := 2) (by omega) (by decide) dL_law_812 dL_law_813 dL_law_814 dL_law_815 dL_law_816 ?_
  refine lcall (pc := 817) (vs := [.inl (xs (i + 1)), .inl (xs (i + 2))]) (rest := []) (Q1 := fun r Mx1 => kCT l (rg_m, g2) mX6_loosened (.inr (.inr (0, 0)) :: [.inl (xs (i + 1)), .inl (xs (i + 2))]) Mm (kqi (fun r2 Mm1 => r = r2 ∧ Post Mx1 Mm1))) C0 G.1 hS.1 hS.2.2 fm_X5_loosened fi_X5_loosened ml_L_105 (by decide) (g := (rg_x, g1)) rfl h00x rfl rfl (fun v hv => by simp only [List.mem_cons, List.not_mem_nil, or_false] at hv; rcases hv with rfl | rfl <;> exact trivial) hl.1 (Nat.le_of_ble_eq_true rfl) dL_law_817 h (fun r Mx1 H1 locs1 h hP1 hq hS1 => ?_)
  have hP2 := hS.2.1.kept (fun q a z => G.2.2 q z a) hq
  refine lv_aload_n (pc := 820) C0.1 C0.2.1 dL_law_820 rfl (lv_at hl 2 rfl) ?_
  refine lpush (pc := 821) C0 hL hS1 hl hi (k := 1) (by omega) (by decide) dL_law_821 dL_law_822 dL_law_823 dL_law_824 dL_law_825 ?_
  refine lpush (pc := 826) C0 hL hS1 hl hi (k := 2) (by omega) (by decide) dL_law_826 dL_law_827 dL_law_828 dL_law_829 dL_law_830 ?_
  refine lcall (pc := 831) (vs := [.inl (xs (i + 1)), .inl (xs (i + 2))]) (rest := [.int r]) C0 G.2.1 hP2 hS1 fm_X6_loosened fi_X6_loosened ml_L_108 (by decide) (g := (rg_m, g2)) rfl h00m rfl rfl (fun v hv => by simp only [List.mem_cons, List.not_mem_nil, or_false] at hv; rcases hv with rfl | rfl <;> exact trivial) hl.1 (Nat.le_of_ble_eq_true rfl) dL_law_831 h (fun r2 Mm1 H2 locs2 h hP3 hq2 hS2 => ?_)
  have hP4 := hP1.kept (fun q a z => G.2.2 q a z) hq2
  refine lv_icmp_eq (pc := 834) (tgt := 1289) C0.1 C0.2.1 dL_law_834 (by decide) (fun _ => ?_) (fun hc => absurd h.1 hc)
  exact kk Mx1 Mm1 H2 locs2 h.2 ⟨hP4, hP3, hS2⟩
set_option maxHeartbeats 4000000 in
set_option maxRecDepth 100000 in
theorem lcase_23 {p : Program} {l : Launch} {e : Env} {s : State} {m : MethodId} {below : List Frame} {meth : Method} {c : Code} {b L : Nat} {xs : Nat → Int32} {g1 g2 : va_G × (Nat → ClassId) × (Nat → Nat → Nat)} {i : Nat} {lA : Array Slot} {Qf : State → Prop} {Mx Mm : kM} {H : Heap} {locs : List Loc} {x3 : Int32} {Post : kM → kM → Prop} (C0 : lw_At p s m meth c b L xs) (hL : L ≤ 3072) (G : lG g1 g2 s) (hS : lS g1 g2 s Mx Mm H locs) (hl : lv_has lA 4 [(0, .ref b), (1, .ref (g1.2.2 0 0)), (2, .ref (g2.2.2 0 0)), (3, .int x3)]) (hi : x3 = nI i) (hk : i + 6 ≤ L) (h : kPair l g1 g2 mX5_duel mX6_duel [.inl (xs (i + 1)), .inl (xs (i + 2)), .inl (xs (i + 3))] Mx Mm Post) (kk : ∀ (Mx1 Mm1 : kM) (H1 : Heap) (locs1 : List Loc), Post Mx1 Mm1 → lS g1 g2 s Mx1 Mm1 H1 locs1 → W p l e room_1 s m #[Value.ref b] below meth c H1 locs1 66 1894 Qf (F0 m 1289 lA [])) : W p l e room_1 s m #[Value.ref b] below meth c H locs 66 1894 Qf (F0 m 839 lA []) := by
  have hS0 := hS
  refine lv_aload_n (pc := 839) C0.1 C0.2.1 dL_law_839 rfl (lv_at hl 1 rfl) ?_
  refine lpush (pc := 840) C0 hL hS.2.2 hl hi (k := 1) (by omega) (by decide) dL_law_840 dL_law_841 dL_law_842 dL_law_843 dL_law_844 ?_
  refine lpush (pc := 845) C0 hL hS.2.2 hl hi (k := 2) (by omega) (by decide) dL_law_845 dL_law_846 dL_law_847 dL_law_848 dL_law_849 ?_
  refine lpush (pc := 850) C0 hL hS.2.2 hl hi (k := 3) (by omega) (by decide) dL_law_850 dL_law_851 dL_law_852 dL_law_853 dL_law_854 ?_
  refine lcall (pc := 855) (vs := [.inl (xs (i + 1)), .inl (xs (i + 2)), .inl (xs (i + 3))]) (rest := []) (Q1 := fun r Mx1 => kCT l (rg_m, g2) mX6_duel (.inr (.inr (0, 0)) :: [.inl (xs (i + 1)), .inl (xs (i + 2)), .inl (xs (i + 3))]) Mm (kqi (fun r2 Mm1 => r = r2 ∧ Post Mx1 Mm1))) C0 G.1 hS.1 hS.2.2 fm_X5_duel fi_X5_duel ml_L_109 (by decide) (g := (rg_x, g1)) rfl h00x rfl rfl (fun v hv => by simp only [List.mem_cons, List.not_mem_nil, or_false] at hv; rcases hv with rfl | rfl | rfl <;> exact trivial) hl.1 (Nat.le_of_ble_eq_true rfl) dL_law_855 h (fun r Mx1 H1 locs1 h hP1 hq hS1 => ?_)
  have hP2 := hS.2.1.kept (fun q a z => G.2.2 q z a) hq
  refine lv_aload_n (pc := 858) C0.1 C0.2.1 dL_law_858 rfl (lv_at hl 2 rfl) ?_
  refine lpush (pc := 859) C0 hL hS1 hl hi (k := 1) (by omega) (by decide) dL_law_859 dL_law_860 dL_law_861 dL_law_862 dL_law_863 ?_
  refine lpush (pc := 864) C0 hL hS1 hl hi (k := 2) (by omega) (by decide) dL_law_864 dL_law_865 dL_law_866 dL_law_867 dL_law_868 ?_
  refine lpush (pc := 869) C0 hL hS1 hl hi (k := 3) (by omega) (by decide) dL_law_869 dL_law_870 dL_law_871 dL_law_872 dL_law_873 ?_
  refine lcall (pc := 874) (vs := [.inl (xs (i + 1)), .inl (xs (i + 2)), .inl (xs (i + 3))]) (rest := [.int r]) C0 G.2.1 hP2 hS1 fm_X6_duel fi_X6_duel ml_L_112 (by decide) (g := (rg_m, g2)) rfl h00m rfl rfl (fun v hv => by simp only [List.mem_cons, List.not_mem_nil, or_false] at hv; rcases hv with rfl | rfl | rfl <;> exact trivial) hl.1 (Nat.le_of_ble_eq_true rfl) dL_law_874 h (fun r2 Mm1 H2 locs2 h hP3 hq2 hS2 => ?_)
  have hP4 := hP1.kept (fun q a z => G.2.2 q a z) hq2
  refine lv_icmp_eq (pc := 877) (tgt := 1289) C0.1 C0.2.1 dL_law_877 (by decide) (fun _ => ?_) (fun hc => absurd h.1 hc)
  exact kk Mx1 Mm1 H2 locs2 h.2 ⟨hP4, hP3, hS2⟩
set_option maxHeartbeats 4000000 in
set_option maxRecDepth 100000 in
theorem lcase_24 {p : Program} {l : Launch} {e : Env} {s : State} {m : MethodId} {below : List Frame} {meth : Method} {c : Code} {b L : Nat} {xs : Nat → Int32} {g1 g2 : va_G × (Nat → ClassId) × (Nat → Nat → Nat)} {i : Nat} {lA : Array Slot} {Qf : State → Prop} {Mx Mm : kM} {H : Heap} {locs : List Loc} {x3 : Int32} {Post : kM → kM → Prop} (C0 : lw_At p s m meth c b L xs) (hL : L ≤ 3072) (G : lG g1 g2 s) (hS : lS g1 g2 s Mx Mm H locs) (hl : lv_has lA 4 [(0, .ref b), (1, .ref (g1.2.2 0 0)), (2, .ref (g2.2.2 0 0)), (3, .int x3)]) (hi : x3 = nI i) (hk : i + 6 ≤ L) (h : kPair l g1 g2 mX5_luck mX6_luck [.inl (xs (i + 1)), .inl (xs (i + 2)), .inl (xs (i + 3))] Mx Mm Post) (kk : ∀ (Mx1 Mm1 : kM) (H1 : Heap) (locs1 : List Loc), Post Mx1 Mm1 → lS g1 g2 s Mx1 Mm1 H1 locs1 → W p l e room_1 s m #[Value.ref b] below meth c H1 locs1 66 1894 Qf (F0 m 1289 lA [])) : W p l e room_1 s m #[Value.ref b] below meth c H locs 66 1894 Qf (F0 m 882 lA []) := by
  have hS0 := hS
  refine lv_aload_n (pc := 882) C0.1 C0.2.1 dL_law_882 rfl (lv_at hl 1 rfl) ?_
  refine lpush (pc := 883) C0 hL hS.2.2 hl hi (k := 1) (by omega) (by decide) dL_law_883 dL_law_884 dL_law_885 dL_law_886 dL_law_887 ?_
  refine lpush (pc := 888) C0 hL hS.2.2 hl hi (k := 2) (by omega) (by decide) dL_law_888 dL_law_889 dL_law_890 dL_law_891 dL_law_892 ?_
  refine lpush (pc := 893) C0 hL hS.2.2 hl hi (k := 3) (by omega) (by decide) dL_law_893 dL_law_894 dL_law_895 dL_law_896 dL_law_897 ?_
  refine lcall (pc := 898) (vs := [.inl (xs (i + 1)), .inl (xs (i + 2)), .inl (xs (i + 3))]) (rest := []) (Q1 := fun r Mx1 => kCT l (rg_m, g2) mX6_luck (.inr (.inr (0, 0)) :: [.inl (xs (i + 1)), .inl (xs (i + 2)), .inl (xs (i + 3))]) Mm (kqi (fun r2 Mm1 => r = r2 ∧ Post Mx1 Mm1))) C0 G.1 hS.1 hS.2.2 fm_X5_luck fi_X5_luck ml_L_113 (by decide) (g := (rg_x, g1)) rfl h00x rfl rfl (fun v hv => by simp only [List.mem_cons, List.not_mem_nil, or_false] at hv; rcases hv with rfl | rfl | rfl <;> exact trivial) hl.1 (Nat.le_of_ble_eq_true rfl) dL_law_898 h (fun r Mx1 H1 locs1 h hP1 hq hS1 => ?_)
  have hP2 := hS.2.1.kept (fun q a z => G.2.2 q z a) hq
  refine lv_aload_n (pc := 901) C0.1 C0.2.1 dL_law_901 rfl (lv_at hl 2 rfl) ?_
  refine lpush (pc := 902) C0 hL hS1 hl hi (k := 1) (by omega) (by decide) dL_law_902 dL_law_903 dL_law_904 dL_law_905 dL_law_906 ?_
  refine lpush (pc := 907) C0 hL hS1 hl hi (k := 2) (by omega) (by decide) dL_law_907 dL_law_908 dL_law_909 dL_law_910 dL_law_911 ?_
  refine lpush (pc := 912) C0 hL hS1 hl hi (k := 3) (by omega) (by decide) dL_law_912 dL_law_913 dL_law_914 dL_law_915 dL_law_916 ?_
  refine lcall (pc := 917) (vs := [.inl (xs (i + 1)), .inl (xs (i + 2)), .inl (xs (i + 3))]) (rest := [.int r]) C0 G.2.1 hP2 hS1 fm_X6_luck fi_X6_luck ml_L_116 (by decide) (g := (rg_m, g2)) rfl h00m rfl rfl (fun v hv => by simp only [List.mem_cons, List.not_mem_nil, or_false] at hv; rcases hv with rfl | rfl | rfl <;> exact trivial) hl.1 (Nat.le_of_ble_eq_true rfl) dL_law_917 h (fun r2 Mm1 H2 locs2 h hP3 hq2 hS2 => ?_)
  have hP4 := hP1.kept (fun q a z => G.2.2 q a z) hq2
  refine lv_icmp_eq (pc := 920) (tgt := 1289) C0.1 C0.2.1 dL_law_920 (by decide) (fun _ => ?_) (fun hc => absurd h.1 hc)
  exact kk Mx1 Mm1 H2 locs2 h.2 ⟨hP4, hP3, hS2⟩
set_option maxHeartbeats 4000000 in
set_option maxRecDepth 100000 in
theorem lcase_25 {p : Program} {l : Launch} {e : Env} {s : State} {m : MethodId} {below : List Frame} {meth : Method} {c : Code} {b L : Nat} {xs : Nat → Int32} {g1 g2 : va_G × (Nat → ClassId) × (Nat → Nat → Nat)} {i : Nat} {lA : Array Slot} {Qf : State → Prop} {Mx Mm : kM} {H : Heap} {locs : List Loc} {x3 : Int32} {Post : kM → kM → Prop} (C0 : lw_At p s m meth c b L xs) (hL : L ≤ 3072) (G : lG g1 g2 s) (hS : lS g1 g2 s Mx Mm H locs) (hl : lv_has lA 4 [(0, .ref b), (1, .ref (g1.2.2 0 0)), (2, .ref (g2.2.2 0 0)), (3, .int x3)]) (hi : x3 = nI i) (hk : i + 6 ≤ L) (h : kPair l g1 g2 mX5_image mX6_image [] Mx Mm Post) (kk : ∀ (Mx1 Mm1 : kM) (H1 : Heap) (locs1 : List Loc), Post Mx1 Mm1 → lS g1 g2 s Mx1 Mm1 H1 locs1 → W p l e room_1 s m #[Value.ref b] below meth c H1 locs1 66 1894 Qf (F0 m 1289 lA [])) : W p l e room_1 s m #[Value.ref b] below meth c H locs 66 1894 Qf (F0 m 925 lA []) := by
  have hS0 := hS
  refine lv_aload_n (pc := 925) C0.1 C0.2.1 dL_law_925 rfl (lv_at hl 1 rfl) ?_
  refine lcall (pc := 926) (vs := []) (rest := []) (Q1 := fun r Mx1 => kCT l (rg_m, g2) mX6_image (.inr (.inr (0, 0)) :: []) Mm (kqi (fun r2 Mm1 => r = r2 ∧ Post Mx1 Mm1))) C0 G.1 hS.1 hS.2.2 fm_X5_image fi_X5_image ml_L_117 (by decide) (g := (rg_x, g1)) rfl h00x rfl rfl (fun v hv => by cases hv) hl.1 (Nat.le_of_ble_eq_true rfl) dL_law_926 h (fun r Mx1 H1 locs1 h hP1 hq hS1 => ?_)
  have hP2 := hS.2.1.kept (fun q a z => G.2.2 q z a) hq
  refine lv_aload_n (pc := 929) C0.1 C0.2.1 dL_law_929 rfl (lv_at hl 2 rfl) ?_
  refine lcall (pc := 930) (vs := []) (rest := [.int r]) C0 G.2.1 hP2 hS1 fm_X6_image fi_X6_image ml_L_120 (by decide) (g := (rg_m, g2)) rfl h00m rfl rfl (fun v hv => by cases hv) hl.1 (Nat.le_of_ble_eq_true rfl) dL_law_930 h (fun r2 Mm1 H2 locs2 h hP3 hq2 hS2 => ?_)
  have hP4 := hP1.kept (fun q a z => G.2.2 q a z) hq2
  refine lv_icmp_eq (pc := 933) (tgt := 1289) C0.1 C0.2.1 dL_law_933 (by decide) (fun _ => ?_) (fun hc => absurd h.1 hc)
  exact kk Mx1 Mm1 H2 locs2 h.2 ⟨hP4, hP3, hS2⟩
set_option maxHeartbeats 4000000 in
set_option maxRecDepth 100000 in
theorem lcase_26 {p : Program} {l : Launch} {e : Env} {s : State} {m : MethodId} {below : List Frame} {meth : Method} {c : Code} {b L : Nat} {xs : Nat → Int32} {g1 g2 : va_G × (Nat → ClassId) × (Nat → Nat → Nat)} {i : Nat} {lA : Array Slot} {Qf : State → Prop} {Mx Mm : kM} {H : Heap} {locs : List Loc} {x3 : Int32} {Post : kM → kM → Prop} (C0 : lw_At p s m meth c b L xs) (hL : L ≤ 3072) (G : lG g1 g2 s) (hS : lS g1 g2 s Mx Mm H locs) (hl : lv_has lA 4 [(0, .ref b), (1, .ref (g1.2.2 0 0)), (2, .ref (g2.2.2 0 0)), (3, .int x3)]) (hi : x3 = nI i) (hk : i + 6 ≤ L) (h : kPair l g1 g2 mX5_restore mX6_restore [] Mx Mm Post) (kk : ∀ (Mx1 Mm1 : kM) (H1 : Heap) (locs1 : List Loc), Post Mx1 Mm1 → lS g1 g2 s Mx1 Mm1 H1 locs1 → W p l e room_1 s m #[Value.ref b] below meth c H1 locs1 66 1894 Qf (F0 m 1289 lA [])) : W p l e room_1 s m #[Value.ref b] below meth c H locs 66 1894 Qf (F0 m 938 lA []) := by
  have hS0 := hS
  refine lv_aload_n (pc := 938) C0.1 C0.2.1 dL_law_938 rfl (lv_at hl 1 rfl) ?_
  refine lcall (pc := 939) (vs := []) (rest := []) (Q1 := fun r Mx1 => kCT l (rg_m, g2) mX6_restore (.inr (.inr (0, 0)) :: []) Mm (kqi (fun r2 Mm1 => r = r2 ∧ Post Mx1 Mm1))) C0 G.1 hS.1 hS.2.2 fm_X5_restore fi_X5_restore ml_L_121 (by decide) (g := (rg_x, g1)) rfl h00x rfl rfl (fun v hv => by cases hv) hl.1 (Nat.le_of_ble_eq_true rfl) dL_law_939 h (fun r Mx1 H1 locs1 h hP1 hq hS1 => ?_)
  have hP2 := hS.2.1.kept (fun q a z => G.2.2 q z a) hq
  refine lv_aload_n (pc := 942) C0.1 C0.2.1 dL_law_942 rfl (lv_at hl 2 rfl) ?_
  refine lcall (pc := 943) (vs := []) (rest := [.int r]) C0 G.2.1 hP2 hS1 fm_X6_restore fi_X6_restore ml_L_124 (by decide) (g := (rg_m, g2)) rfl h00m rfl rfl (fun v hv => by cases hv) hl.1 (Nat.le_of_ble_eq_true rfl) dL_law_943 h (fun r2 Mm1 H2 locs2 h hP3 hq2 hS2 => ?_)
  have hP4 := hP1.kept (fun q a z => G.2.2 q a z) hq2
  refine lv_icmp_eq (pc := 946) (tgt := 1289) C0.1 C0.2.1 dL_law_946 (by decide) (fun _ => ?_) (fun hc => absurd h.1 hc)
  exact kk Mx1 Mm1 H2 locs2 h.2 ⟨hP4, hP3, hS2⟩
set_option maxHeartbeats 4000000 in
set_option maxRecDepth 100000 in
theorem lcase_27 {p : Program} {l : Launch} {e : Env} {s : State} {m : MethodId} {below : List Frame} {meth : Method} {c : Code} {b L : Nat} {xs : Nat → Int32} {g1 g2 : va_G × (Nat → ClassId) × (Nat → Nat → Nat)} {i : Nat} {lA : Array Slot} {Qf : State → Prop} {Mx Mm : kM} {H : Heap} {locs : List Loc} {x3 : Int32} {Post : kM → kM → Prop} (C0 : lw_At p s m meth c b L xs) (hL : L ≤ 3072) (G : lG g1 g2 s) (hS : lS g1 g2 s Mx Mm H locs) (hl : lv_has lA 4 [(0, .ref b), (1, .ref (g1.2.2 0 0)), (2, .ref (g2.2.2 0 0)), (3, .int x3)]) (hi : x3 = nI i) (hk : i + 6 ≤ L) (h : kPair l g1 g2 mX5_passed mX6_passed [.inl (xs (i + 1)), .inl (xs (i + 2)), .inl (xs (i + 3)), .inl (xs (i + 4)), .inl (xs (i + 5))] Mx Mm Post) (kk : ∀ (Mx1 Mm1 : kM) (H1 : Heap) (locs1 : List Loc), Post Mx1 Mm1 → lS g1 g2 s Mx1 Mm1 H1 locs1 → W p l e room_1 s m #[Value.ref b] below meth c H1 locs1 66 1894 Qf (F0 m 1289 lA [])) : W p l e room_1 s m #[Value.ref b] below meth c H locs 66 1894 Qf (F0 m 951 lA []) := by
  have hS0 := hS
  refine lv_aload_n (pc := 951) C0.1 C0.2.1 dL_law_951 rfl (lv_at hl 1 rfl) ?_
  refine lpush (pc := 952) C0 hL hS.2.2 hl hi (k := 1) (by omega) (by decide) dL_law_952 dL_law_953 dL_law_954 dL_law_955 dL_law_956 ?_
  refine lpush (pc := 957) C0 hL hS.2.2 hl hi (k := 2) (by omega) (by decide) dL_law_957 dL_law_958 dL_law_959 dL_law_960 dL_law_961 ?_
  refine lpush (pc := 962) C0 hL hS.2.2 hl hi (k := 3) (by omega) (by decide) dL_law_962 dL_law_963 dL_law_964 dL_law_965 dL_law_966 ?_
  refine lpush (pc := 967) C0 hL hS.2.2 hl hi (k := 4) (by omega) (by decide) dL_law_967 dL_law_968 dL_law_969 dL_law_970 dL_law_971 ?_
  refine lpush (pc := 972) C0 hL hS.2.2 hl hi (k := 5) (by omega) (by decide) dL_law_972 dL_law_973 dL_law_974 dL_law_975 dL_law_976 ?_
  refine lcall (pc := 977) (vs := [.inl (xs (i + 1)), .inl (xs (i + 2)), .inl (xs (i + 3)), .inl (xs (i + 4)), .inl (xs (i + 5))]) (rest := []) (Q1 := fun r Mx1 => kCT l (rg_m, g2) mX6_passed (.inr (.inr (0, 0)) :: [.inl (xs (i + 1)), .inl (xs (i + 2)), .inl (xs (i + 3)), .inl (xs (i + 4)), .inl (xs (i + 5))]) Mm (kqi (fun r2 Mm1 => r = r2 ∧ Post Mx1 Mm1))) C0 G.1 hS.1 hS.2.2 fm_X5_passed fi_X5_passed ml_L_125 (by decide) (g := (rg_x, g1)) rfl h00x rfl rfl (fun v hv => by simp only [List.mem_cons, List.not_mem_nil, or_false] at hv; rcases hv with rfl | rfl | rfl | rfl | rfl <;> exact trivial) hl.1 (Nat.le_of_ble_eq_true rfl) dL_law_977 h (fun r Mx1 H1 locs1 h hP1 hq hS1 => ?_)
  have hP2 := hS.2.1.kept (fun q a z => G.2.2 q z a) hq
  refine lv_aload_n (pc := 980) C0.1 C0.2.1 dL_law_980 rfl (lv_at hl 2 rfl) ?_
  refine lpush (pc := 981) C0 hL hS1 hl hi (k := 1) (by omega) (by decide) dL_law_981 dL_law_982 dL_law_983 dL_law_984 dL_law_985 ?_
  refine lpush (pc := 986) C0 hL hS1 hl hi (k := 2) (by omega) (by decide) dL_law_986 dL_law_987 dL_law_988 dL_law_989 dL_law_990 ?_
  refine lpush (pc := 991) C0 hL hS1 hl hi (k := 3) (by omega) (by decide) dL_law_991 dL_law_992 dL_law_993 dL_law_994 dL_law_995 ?_
  refine lpush (pc := 996) C0 hL hS1 hl hi (k := 4) (by omega) (by decide) dL_law_996 dL_law_997 dL_law_998 dL_law_999 dL_law_1000 ?_
  refine lpush (pc := 1001) C0 hL hS1 hl hi (k := 5) (by omega) (by decide) dL_law_1001 dL_law_1002 dL_law_1003 dL_law_1004 dL_law_1005 ?_
  refine lcall (pc := 1006) (vs := [.inl (xs (i + 1)), .inl (xs (i + 2)), .inl (xs (i + 3)), .inl (xs (i + 4)), .inl (xs (i + 5))]) (rest := [.int r]) C0 G.2.1 hP2 hS1 fm_X6_passed fi_X6_passed ml_L_129 (by decide) (g := (rg_m, g2)) rfl h00m rfl rfl (fun v hv => by simp only [List.mem_cons, List.not_mem_nil, or_false] at hv; rcases hv with rfl | rfl | rfl | rfl | rfl <;> exact trivial) hl.1 (Nat.le_of_ble_eq_true rfl) dL_law_1006 h (fun r2 Mm1 H2 locs2 h hP3 hq2 hS2 => ?_)
  have hP4 := hP1.kept (fun q a z => G.2.2 q a z) hq2
  refine lv_icmp_eq (pc := 1009) (tgt := 1289) C0.1 C0.2.1 dL_law_1009 (by decide) (fun _ => ?_) (fun hc => absurd h.1 hc)
  exact kk Mx1 Mm1 H2 locs2 h.2 ⟨hP4, hP3, hS2⟩
set_option maxHeartbeats 4000000 in
set_option maxRecDepth 100000 in
theorem lcase_28 {p : Program} {l : Launch} {e : Env} {s : State} {m : MethodId} {below : List Frame} {meth : Method} {c : Code} {b L : Nat} {xs : Nat → Int32} {g1 g2 : va_G × (Nat → ClassId) × (Nat → Nat → Nat)} {i : Nat} {lA : Array Slot} {Qf : State → Prop} {Mx Mm : kM} {H : Heap} {locs : List Loc} {x3 : Int32} {Post : kM → kM → Prop} (C0 : lw_At p s m meth c b L xs) (hL : L ≤ 3072) (G : lG g1 g2 s) (hS : lS g1 g2 s Mx Mm H locs) (hl : lv_has lA 4 [(0, .ref b), (1, .ref (g1.2.2 0 0)), (2, .ref (g2.2.2 0 0)), (3, .int x3)]) (hi : x3 = nI i) (hk : i + 6 ≤ L) (h : kPair l g1 g2 mX5_film mX6_film [.inl (xs (i + 1)), .inl (xs (i + 2)), .inl (xs (i + 3)), .inl (xs (i + 4)), .inl (xs (i + 5))] Mx Mm Post) (kk : ∀ (Mx1 Mm1 : kM) (H1 : Heap) (locs1 : List Loc), Post Mx1 Mm1 → lS g1 g2 s Mx1 Mm1 H1 locs1 → W p l e room_1 s m #[Value.ref b] below meth c H1 locs1 66 1894 Qf (F0 m 1289 lA [])) : W p l e room_1 s m #[Value.ref b] below meth c H locs 66 1894 Qf (F0 m 1014 lA []) := by
  have hS0 := hS
  refine lv_aload_n (pc := 1014) C0.1 C0.2.1 dL_law_1014 rfl (lv_at hl 1 rfl) ?_
  refine lpush (pc := 1015) C0 hL hS.2.2 hl hi (k := 1) (by omega) (by decide) dL_law_1015 dL_law_1016 dL_law_1017 dL_law_1018 dL_law_1019 ?_
  refine lpush (pc := 1020) C0 hL hS.2.2 hl hi (k := 2) (by omega) (by decide) dL_law_1020 dL_law_1021 dL_law_1022 dL_law_1023 dL_law_1024 ?_
  refine lpush (pc := 1025) C0 hL hS.2.2 hl hi (k := 3) (by omega) (by decide) dL_law_1025 dL_law_1026 dL_law_1027 dL_law_1028 dL_law_1029 ?_
  refine lpush (pc := 1030) C0 hL hS.2.2 hl hi (k := 4) (by omega) (by decide) dL_law_1030 dL_law_1031 dL_law_1032 dL_law_1033 dL_law_1034 ?_
  refine lpush (pc := 1035) C0 hL hS.2.2 hl hi (k := 5) (by omega) (by decide) dL_law_1035 dL_law_1036 dL_law_1037 dL_law_1038 dL_law_1039 ?_
  refine lcall (pc := 1040) (vs := [.inl (xs (i + 1)), .inl (xs (i + 2)), .inl (xs (i + 3)), .inl (xs (i + 4)), .inl (xs (i + 5))]) (rest := []) (Q1 := fun r Mx1 => kCT l (rg_m, g2) mX6_film (.inr (.inr (0, 0)) :: [.inl (xs (i + 1)), .inl (xs (i + 2)), .inl (xs (i + 3)), .inl (xs (i + 4)), .inl (xs (i + 5))]) Mm (kqi (fun r2 Mm1 => r = r2 ∧ Post Mx1 Mm1))) C0 G.1 hS.1 hS.2.2 fm_X5_film fi_X5_film ml_L_130 (by decide) (g := (rg_x, g1)) rfl h00x rfl rfl (fun v hv => by simp only [List.mem_cons, List.not_mem_nil, or_false] at hv; rcases hv with rfl | rfl | rfl | rfl | rfl <;> exact trivial) hl.1 (Nat.le_of_ble_eq_true rfl) dL_law_1040 h (fun r Mx1 H1 locs1 h hP1 hq hS1 => ?_)
  have hP2 := hS.2.1.kept (fun q a z => G.2.2 q z a) hq
  refine lv_aload_n (pc := 1043) C0.1 C0.2.1 dL_law_1043 rfl (lv_at hl 2 rfl) ?_
  refine lpush (pc := 1044) C0 hL hS1 hl hi (k := 1) (by omega) (by decide) dL_law_1044 dL_law_1045 dL_law_1046 dL_law_1047 dL_law_1048 ?_
  refine lpush (pc := 1049) C0 hL hS1 hl hi (k := 2) (by omega) (by decide) dL_law_1049 dL_law_1050 dL_law_1051 dL_law_1052 dL_law_1053 ?_
  refine lpush (pc := 1054) C0 hL hS1 hl hi (k := 3) (by omega) (by decide) dL_law_1054 dL_law_1055 dL_law_1056 dL_law_1057 dL_law_1058 ?_
  refine lpush (pc := 1059) C0 hL hS1 hl hi (k := 4) (by omega) (by decide) dL_law_1059 dL_law_1060 dL_law_1061 dL_law_1062 dL_law_1063 ?_
  refine lpush (pc := 1064) C0 hL hS1 hl hi (k := 5) (by omega) (by decide) dL_law_1064 dL_law_1065 dL_law_1066 dL_law_1067 dL_law_1068 ?_
  refine lcall (pc := 1069) (vs := [.inl (xs (i + 1)), .inl (xs (i + 2)), .inl (xs (i + 3)), .inl (xs (i + 4)), .inl (xs (i + 5))]) (rest := [.int r]) C0 G.2.1 hP2 hS1 fm_X6_film fi_X6_film ml_L_133 (by decide) (g := (rg_m, g2)) rfl h00m rfl rfl (fun v hv => by simp only [List.mem_cons, List.not_mem_nil, or_false] at hv; rcases hv with rfl | rfl | rfl | rfl | rfl <;> exact trivial) hl.1 (Nat.le_of_ble_eq_true rfl) dL_law_1069 h (fun r2 Mm1 H2 locs2 h hP3 hq2 hS2 => ?_)
  have hP4 := hP1.kept (fun q a z => G.2.2 q a z) hq2
  refine lv_icmp_eq (pc := 1072) (tgt := 1289) C0.1 C0.2.1 dL_law_1072 (by decide) (fun _ => ?_) (fun hc => absurd h.1 hc)
  exact kk Mx1 Mm1 H2 locs2 h.2 ⟨hP4, hP3, hS2⟩
set_option maxHeartbeats 4000000 in
set_option maxRecDepth 100000 in
theorem lcase_29 {p : Program} {l : Launch} {e : Env} {s : State} {m : MethodId} {below : List Frame} {meth : Method} {c : Code} {b L : Nat} {xs : Nat → Int32} {g1 g2 : va_G × (Nat → ClassId) × (Nat → Nat → Nat)} {i : Nat} {lA : Array Slot} {Qf : State → Prop} {Mx Mm : kM} {H : Heap} {locs : List Loc} {x3 : Int32} {Post : kM → kM → Prop} (C0 : lw_At p s m meth c b L xs) (hL : L ≤ 3072) (G : lG g1 g2 s) (hS : lS g1 g2 s Mx Mm H locs) (hl : lv_has lA 4 [(0, .ref b), (1, .ref (g1.2.2 0 0)), (2, .ref (g2.2.2 0 0)), (3, .int x3)]) (hi : x3 = nI i) (hk : i + 6 ≤ L) (h : kPair l g1 g2 mX5_sheet mX6_sheet [.inl (xs (i + 1)), .inl (xs (i + 2)), .inl (xs (i + 3))] Mx Mm Post) (kk : ∀ (Mx1 Mm1 : kM) (H1 : Heap) (locs1 : List Loc), Post Mx1 Mm1 → lS g1 g2 s Mx1 Mm1 H1 locs1 → W p l e room_1 s m #[Value.ref b] below meth c H1 locs1 66 1894 Qf (F0 m 1289 lA [])) : W p l e room_1 s m #[Value.ref b] below meth c H locs 66 1894 Qf (F0 m 1077 lA []) := by
  have hS0 := hS
  refine lv_aload_n (pc := 1077) C0.1 C0.2.1 dL_law_1077 rfl (lv_at hl 1 rfl) ?_
  refine lpush (pc := 1078) C0 hL hS.2.2 hl hi (k := 1) (by omega) (by decide) dL_law_1078 dL_law_1079 dL_law_1080 dL_law_1081 dL_law_1082 ?_
  refine lpush (pc := 1083) C0 hL hS.2.2 hl hi (k := 2) (by omega) (by decide) dL_law_1083 dL_law_1084 dL_law_1085 dL_law_1086 dL_law_1087 ?_
  refine lpush (pc := 1088) C0 hL hS.2.2 hl hi (k := 3) (by omega) (by decide) dL_law_1088 dL_law_1089 dL_law_1090 dL_law_1091 dL_law_1092 ?_
  refine lcall (pc := 1093) (vs := [.inl (xs (i + 1)), .inl (xs (i + 2)), .inl (xs (i + 3))]) (rest := []) (Q1 := fun r Mx1 => kCT l (rg_m, g2) mX6_sheet (.inr (.inr (0, 0)) :: [.inl (xs (i + 1)), .inl (xs (i + 2)), .inl (xs (i + 3))]) Mm (kqi (fun r2 Mm1 => r = r2 ∧ Post Mx1 Mm1))) C0 G.1 hS.1 hS.2.2 fm_X5_sheet fi_X5_sheet ml_L_134 (by decide) (g := (rg_x, g1)) rfl h00x rfl rfl (fun v hv => by simp only [List.mem_cons, List.not_mem_nil, or_false] at hv; rcases hv with rfl | rfl | rfl <;> exact trivial) hl.1 (Nat.le_of_ble_eq_true rfl) dL_law_1093 h (fun r Mx1 H1 locs1 h hP1 hq hS1 => ?_)
  have hP2 := hS.2.1.kept (fun q a z => G.2.2 q z a) hq
  refine lv_aload_n (pc := 1096) C0.1 C0.2.1 dL_law_1096 rfl (lv_at hl 2 rfl) ?_
  refine lpush (pc := 1097) C0 hL hS1 hl hi (k := 1) (by omega) (by decide) dL_law_1097 dL_law_1098 dL_law_1099 dL_law_1100 dL_law_1101 ?_
  refine lpush (pc := 1102) C0 hL hS1 hl hi (k := 2) (by omega) (by decide) dL_law_1102 dL_law_1103 dL_law_1104 dL_law_1105 dL_law_1106 ?_
  refine lpush (pc := 1107) C0 hL hS1 hl hi (k := 3) (by omega) (by decide) dL_law_1107 dL_law_1108 dL_law_1109 dL_law_1110 dL_law_1111 ?_
  refine lcall (pc := 1112) (vs := [.inl (xs (i + 1)), .inl (xs (i + 2)), .inl (xs (i + 3))]) (rest := [.int r]) C0 G.2.1 hP2 hS1 fm_X6_sheet fi_X6_sheet ml_L_137 (by decide) (g := (rg_m, g2)) rfl h00m rfl rfl (fun v hv => by simp only [List.mem_cons, List.not_mem_nil, or_false] at hv; rcases hv with rfl | rfl | rfl <;> exact trivial) hl.1 (Nat.le_of_ble_eq_true rfl) dL_law_1112 h (fun r2 Mm1 H2 locs2 h hP3 hq2 hS2 => ?_)
  have hP4 := hP1.kept (fun q a z => G.2.2 q a z) hq2
  refine lv_icmp_eq (pc := 1115) (tgt := 1289) C0.1 C0.2.1 dL_law_1115 (by decide) (fun _ => ?_) (fun hc => absurd h.1 hc)
  exact kk Mx1 Mm1 H2 locs2 h.2 ⟨hP4, hP3, hS2⟩
set_option maxHeartbeats 4000000 in
set_option maxRecDepth 100000 in
theorem lcase_30 {p : Program} {l : Launch} {e : Env} {s : State} {m : MethodId} {below : List Frame} {meth : Method} {c : Code} {b L : Nat} {xs : Nat → Int32} {g1 g2 : va_G × (Nat → ClassId) × (Nat → Nat → Nat)} {i : Nat} {lA : Array Slot} {Qf : State → Prop} {Mx Mm : kM} {H : Heap} {locs : List Loc} {x3 : Int32} {Post : kM → kM → Prop} (C0 : lw_At p s m meth c b L xs) (hL : L ≤ 3072) (G : lG g1 g2 s) (hS : lS g1 g2 s Mx Mm H locs) (hl : lv_has lA 4 [(0, .ref b), (1, .ref (g1.2.2 0 0)), (2, .ref (g2.2.2 0 0)), (3, .int x3)]) (hi : x3 = nI i) (hk : i + 6 ≤ L) (h : kPair l g1 g2 mX5_drop mX6_drop [.inl (xs (i + 1))] Mx Mm Post) (kk : ∀ (Mx1 Mm1 : kM) (H1 : Heap) (locs1 : List Loc), Post Mx1 Mm1 → lS g1 g2 s Mx1 Mm1 H1 locs1 → W p l e room_1 s m #[Value.ref b] below meth c H1 locs1 66 1894 Qf (F0 m 1289 lA [])) : W p l e room_1 s m #[Value.ref b] below meth c H locs 66 1894 Qf (F0 m 1120 lA []) := by
  have hS0 := hS
  refine lv_aload_n (pc := 1120) C0.1 C0.2.1 dL_law_1120 rfl (lv_at hl 1 rfl) ?_
  refine lpush (pc := 1121) C0 hL hS.2.2 hl hi (k := 1) (by omega) (by decide) dL_law_1121 dL_law_1122 dL_law_1123 dL_law_1124 dL_law_1125 ?_
  refine lcall (pc := 1126) (vs := [.inl (xs (i + 1))]) (rest := []) (Q1 := fun r Mx1 => kCT l (rg_m, g2) mX6_drop (.inr (.inr (0, 0)) :: [.inl (xs (i + 1))]) Mm (kqi (fun r2 Mm1 => r = r2 ∧ Post Mx1 Mm1))) C0 G.1 hS.1 hS.2.2 fm_X5_drop fi_X5_drop ml_L_138 (by decide) (g := (rg_x, g1)) rfl h00x rfl rfl (fun v hv => by simp only [List.mem_cons, List.not_mem_nil, or_false] at hv; rcases hv with rfl <;> exact trivial) hl.1 (Nat.le_of_ble_eq_true rfl) dL_law_1126 h (fun r Mx1 H1 locs1 h hP1 hq hS1 => ?_)
  have hP2 := hS.2.1.kept (fun q a z => G.2.2 q z a) hq
  refine lv_aload_n (pc := 1129) C0.1 C0.2.1 dL_law_1129 rfl (lv_at hl 2 rfl) ?_
  refine lpush (pc := 1130) C0 hL hS1 hl hi (k := 1) (by omega) (by decide) dL_law_1130 dL_law_1131 dL_law_1132 dL_law_1133 dL_law_1134 ?_
  refine lcall (pc := 1135) (vs := [.inl (xs (i + 1))]) (rest := [.int r]) C0 G.2.1 hP2 hS1 fm_X6_drop fi_X6_drop ml_L_141 (by decide) (g := (rg_m, g2)) rfl h00m rfl rfl (fun v hv => by simp only [List.mem_cons, List.not_mem_nil, or_false] at hv; rcases hv with rfl <;> exact trivial) hl.1 (Nat.le_of_ble_eq_true rfl) dL_law_1135 h (fun r2 Mm1 H2 locs2 h hP3 hq2 hS2 => ?_)
  have hP4 := hP1.kept (fun q a z => G.2.2 q a z) hq2
  refine lv_icmp_eq (pc := 1138) (tgt := 1289) C0.1 C0.2.1 dL_law_1138 (by decide) (fun _ => ?_) (fun hc => absurd h.1 hc)
  exact kk Mx1 Mm1 H2 locs2 h.2 ⟨hP4, hP3, hS2⟩
set_option maxHeartbeats 4000000 in
set_option maxRecDepth 100000 in
theorem lcase_31 {p : Program} {l : Launch} {e : Env} {s : State} {m : MethodId} {below : List Frame} {meth : Method} {c : Code} {b L : Nat} {xs : Nat → Int32} {g1 g2 : va_G × (Nat → ClassId) × (Nat → Nat → Nat)} {i : Nat} {lA : Array Slot} {Qf : State → Prop} {Mx Mm : kM} {H : Heap} {locs : List Loc} {x3 : Int32} {Post : kM → kM → Prop} (C0 : lw_At p s m meth c b L xs) (hL : L ≤ 3072) (G : lG g1 g2 s) (hS : lS g1 g2 s Mx Mm H locs) (hl : lv_has lA 4 [(0, .ref b), (1, .ref (g1.2.2 0 0)), (2, .ref (g2.2.2 0 0)), (3, .int x3)]) (hi : x3 = nI i) (hk : i + 6 ≤ L) (h : kPair l g1 g2 mX5_item mX6_item [.inl (xs (i + 1)), .inl (xs (i + 2)), .inl (xs (i + 3)), .inr (.inl (((xs (i + 4)).toInt64 <<< ((32 : Int32).toInt64 &&& 63)) ||| ((xs (i + 5)).toInt64 &&& 4294967295)))] Mx Mm Post) (kk : ∀ (Mx1 Mm1 : kM) (H1 : Heap) (locs1 : List Loc), Post Mx1 Mm1 → lS g1 g2 s Mx1 Mm1 H1 locs1 → W p l e room_1 s m #[Value.ref b] below meth c H1 locs1 66 1894 Qf (F0 m 1289 lA [])) : W p l e room_1 s m #[Value.ref b] below meth c H locs 66 1894 Qf (F0 m 1143 lA []) := by
  have hS0 := hS
  refine lv_aload_n (pc := 1143) C0.1 C0.2.1 dL_law_1143 rfl (lv_at hl 1 rfl) ?_
  refine lpush (pc := 1144) C0 hL hS.2.2 hl hi (k := 1) (by omega) (by decide) dL_law_1144 dL_law_1145 dL_law_1146 dL_law_1147 dL_law_1148 ?_
  refine lpush (pc := 1149) C0 hL hS.2.2 hl hi (k := 2) (by omega) (by decide) dL_law_1149 dL_law_1150 dL_law_1151 dL_law_1152 dL_law_1153 ?_
  refine lpush (pc := 1154) C0 hL hS.2.2 hl hi (k := 3) (by omega) (by decide) dL_law_1154 dL_law_1155 dL_law_1156 dL_law_1157 dL_law_1158 ?_
  refine lpush (pc := 1159) C0 hL hS.2.2 hl hi (k := 4) (by omega) (by decide) dL_law_1159 dL_law_1160 dL_law_1161 dL_law_1162 dL_law_1163 ?_
  refine lv_i2l (pc := 1164) C0.1 C0.2.1 dL_law_1164 rfl ?_
  refine lv_bipush (pc := 1165) (v := 32) C0.1 C0.2.1 dL_law_1165 (by decide) ?_
  refine lv_lshl (pc := 1167) C0.1 C0.2.1 dL_law_1167 rfl ?_
  refine lpush (pc := 1168) C0 hL hS.2.2 hl hi (k := 5) (by omega) (by decide) dL_law_1168 dL_law_1169 dL_law_1170 dL_law_1171 dL_law_1172 ?_
  refine lv_i2l (pc := 1173) C0.1 C0.2.1 dL_law_1173 rfl ?_
  refine lv_ldc2 (pc := 1174) C0.1 C0.2.1 C0.2.2.2.2.1 (kw_tbl C0.2.2.2.2.2.1 _ cn_L_142) dL_law_1174 ?_
  refine lv_land (pc := 1177) C0.1 C0.2.1 dL_law_1177 ?_
  refine lv_lor (pc := 1178) C0.1 C0.2.1 dL_law_1178 ?_
  refine lcall (pc := 1179) (vs := [.inl (xs (i + 1)), .inl (xs (i + 2)), .inl (xs (i + 3)), .inr (.inl (((xs (i + 4)).toInt64 <<< ((32 : Int32).toInt64 &&& 63)) ||| ((xs (i + 5)).toInt64 &&& 4294967295)))]) (rest := []) (Q1 := fun r Mx1 => kCT l (rg_m, g2) mX6_item (.inr (.inr (0, 0)) :: [.inl (xs (i + 1)), .inl (xs (i + 2)), .inl (xs (i + 3)), .inr (.inl (((xs (i + 4)).toInt64 <<< ((32 : Int32).toInt64 &&& 63)) ||| ((xs (i + 5)).toInt64 &&& 4294967295)))]) Mm (kqi (fun r2 Mm1 => r = r2 ∧ Post Mx1 Mm1))) C0 G.1 hS.1 hS.2.2 fm_X5_item fi_X5_item ml_L_144 (by decide) (g := (rg_x, g1)) rfl h00x rfl rfl (fun v hv => by simp only [List.mem_cons, List.not_mem_nil, or_false] at hv; rcases hv with rfl | rfl | rfl | rfl <;> exact trivial) hl.1 (Nat.le_of_ble_eq_true rfl) dL_law_1179 h (fun r Mx1 H1 locs1 h hP1 hq hS1 => ?_)
  have hP2 := hS.2.1.kept (fun q a z => G.2.2 q z a) hq
  refine lv_aload_n (pc := 1182) C0.1 C0.2.1 dL_law_1182 rfl (lv_at hl 2 rfl) ?_
  refine lpush (pc := 1183) C0 hL hS1 hl hi (k := 1) (by omega) (by decide) dL_law_1183 dL_law_1184 dL_law_1185 dL_law_1186 dL_law_1187 ?_
  refine lpush (pc := 1188) C0 hL hS1 hl hi (k := 2) (by omega) (by decide) dL_law_1188 dL_law_1189 dL_law_1190 dL_law_1191 dL_law_1192 ?_
  refine lpush (pc := 1193) C0 hL hS1 hl hi (k := 3) (by omega) (by decide) dL_law_1193 dL_law_1194 dL_law_1195 dL_law_1196 dL_law_1197 ?_
  refine lpush (pc := 1198) C0 hL hS1 hl hi (k := 4) (by omega) (by decide) dL_law_1198 dL_law_1199 dL_law_1200 dL_law_1201 dL_law_1202 ?_
  refine lv_i2l (pc := 1203) C0.1 C0.2.1 dL_law_1203 rfl ?_
  refine lv_bipush (pc := 1204) (v := 32) C0.1 C0.2.1 dL_law_1204 (by decide) ?_
  refine lv_lshl (pc := 1206) C0.1 C0.2.1 dL_law_1206 rfl ?_
  refine lpush (pc := 1207) C0 hL hS1 hl hi (k := 5) (by omega) (by decide) dL_law_1207 dL_law_1208 dL_law_1209 dL_law_1210 dL_law_1211 ?_
  refine lv_i2l (pc := 1212) C0.1 C0.2.1 dL_law_1212 rfl ?_
  refine lv_ldc2 (pc := 1213) C0.1 C0.2.1 C0.2.2.2.2.1 (kw_tbl C0.2.2.2.2.2.1 _ cn_L_142) dL_law_1213 ?_
  refine lv_land (pc := 1216) C0.1 C0.2.1 dL_law_1216 ?_
  refine lv_lor (pc := 1217) C0.1 C0.2.1 dL_law_1217 ?_
  refine lcall (pc := 1218) (vs := [.inl (xs (i + 1)), .inl (xs (i + 2)), .inl (xs (i + 3)), .inr (.inl (((xs (i + 4)).toInt64 <<< ((32 : Int32).toInt64 &&& 63)) ||| ((xs (i + 5)).toInt64 &&& 4294967295)))]) (rest := [.int r]) C0 G.2.1 hP2 hS1 fm_X6_item fi_X6_item ml_L_148 (by decide) (g := (rg_m, g2)) rfl h00m rfl rfl (fun v hv => by simp only [List.mem_cons, List.not_mem_nil, or_false] at hv; rcases hv with rfl | rfl | rfl | rfl <;> exact trivial) hl.1 (Nat.le_of_ble_eq_true rfl) dL_law_1218 h (fun r2 Mm1 H2 locs2 h hP3 hq2 hS2 => ?_)
  have hP4 := hP1.kept (fun q a z => G.2.2 q a z) hq2
  refine lv_icmp_eq (pc := 1221) (tgt := 1289) C0.1 C0.2.1 dL_law_1221 (by decide) (fun _ => ?_) (fun hc => absurd h.1 hc)
  exact kk Mx1 Mm1 H2 locs2 h.2 ⟨hP4, hP3, hS2⟩
set_option maxHeartbeats 4000000 in
set_option maxRecDepth 100000 in
theorem lcase_32 {p : Program} {l : Launch} {e : Env} {s : State} {m : MethodId} {below : List Frame} {meth : Method} {c : Code} {b L : Nat} {xs : Nat → Int32} {g1 g2 : va_G × (Nat → ClassId) × (Nat → Nat → Nat)} {i : Nat} {lA : Array Slot} {Qf : State → Prop} {Mx Mm : kM} {H : Heap} {locs : List Loc} {x3 : Int32} {Post : kM → kM → Prop} (C0 : lw_At p s m meth c b L xs) (hL : L ≤ 3072) (G : lG g1 g2 s) (hS : lS g1 g2 s Mx Mm H locs) (hl : lv_has lA 4 [(0, .ref b), (1, .ref (g1.2.2 0 0)), (2, .ref (g2.2.2 0 0)), (3, .int x3)]) (hi : x3 = nI i) (hk : i + 6 ≤ L) (h : kPair l g1 g2 mX5_copy mX6_copy [.inl (xs (i + 1)), .inl (xs (i + 2)), .inl (xs (i + 3)), .inl (xs (i + 4)), .inl (xs (i + 5))] Mx Mm Post) (kk : ∀ (Mx1 Mm1 : kM) (H1 : Heap) (locs1 : List Loc), Post Mx1 Mm1 → lS g1 g2 s Mx1 Mm1 H1 locs1 → W p l e room_1 s m #[Value.ref b] below meth c H1 locs1 66 1894 Qf (F0 m 1289 lA [])) : W p l e room_1 s m #[Value.ref b] below meth c H locs 66 1894 Qf (F0 m 1226 lA []) := by
  have hS0 := hS
  refine lv_aload_n (pc := 1226) C0.1 C0.2.1 dL_law_1226 rfl (lv_at hl 1 rfl) ?_
  refine lpush (pc := 1227) C0 hL hS.2.2 hl hi (k := 1) (by omega) (by decide) dL_law_1227 dL_law_1228 dL_law_1229 dL_law_1230 dL_law_1231 ?_
  refine lpush (pc := 1232) C0 hL hS.2.2 hl hi (k := 2) (by omega) (by decide) dL_law_1232 dL_law_1233 dL_law_1234 dL_law_1235 dL_law_1236 ?_
  refine lpush (pc := 1237) C0 hL hS.2.2 hl hi (k := 3) (by omega) (by decide) dL_law_1237 dL_law_1238 dL_law_1239 dL_law_1240 dL_law_1241 ?_
  refine lpush (pc := 1242) C0 hL hS.2.2 hl hi (k := 4) (by omega) (by decide) dL_law_1242 dL_law_1243 dL_law_1244 dL_law_1245 dL_law_1246 ?_
  refine lpush (pc := 1247) C0 hL hS.2.2 hl hi (k := 5) (by omega) (by decide) dL_law_1247 dL_law_1248 dL_law_1249 dL_law_1250 dL_law_1251 ?_
  refine lcall (pc := 1252) (vs := [.inl (xs (i + 1)), .inl (xs (i + 2)), .inl (xs (i + 3)), .inl (xs (i + 4)), .inl (xs (i + 5))]) (rest := []) (Q1 := fun r Mx1 => kCT l (rg_m, g2) mX6_copy (.inr (.inr (0, 0)) :: [.inl (xs (i + 1)), .inl (xs (i + 2)), .inl (xs (i + 3)), .inl (xs (i + 4)), .inl (xs (i + 5))]) Mm (kqi (fun r2 Mm1 => r = r2 ∧ Post Mx1 Mm1))) C0 G.1 hS.1 hS.2.2 fm_X5_copy fi_X5_copy ml_L_149 (by decide) (g := (rg_x, g1)) rfl h00x rfl rfl (fun v hv => by simp only [List.mem_cons, List.not_mem_nil, or_false] at hv; rcases hv with rfl | rfl | rfl | rfl | rfl <;> exact trivial) hl.1 (Nat.le_of_ble_eq_true rfl) dL_law_1252 h (fun r Mx1 H1 locs1 h hP1 hq hS1 => ?_)
  have hP2 := hS.2.1.kept (fun q a z => G.2.2 q z a) hq
  refine lv_aload_n (pc := 1255) C0.1 C0.2.1 dL_law_1255 rfl (lv_at hl 2 rfl) ?_
  refine lpush (pc := 1256) C0 hL hS1 hl hi (k := 1) (by omega) (by decide) dL_law_1256 dL_law_1257 dL_law_1258 dL_law_1259 dL_law_1260 ?_
  refine lpush (pc := 1261) C0 hL hS1 hl hi (k := 2) (by omega) (by decide) dL_law_1261 dL_law_1262 dL_law_1263 dL_law_1264 dL_law_1265 ?_
  refine lpush (pc := 1266) C0 hL hS1 hl hi (k := 3) (by omega) (by decide) dL_law_1266 dL_law_1267 dL_law_1268 dL_law_1269 dL_law_1270 ?_
  refine lpush (pc := 1271) C0 hL hS1 hl hi (k := 4) (by omega) (by decide) dL_law_1271 dL_law_1272 dL_law_1273 dL_law_1274 dL_law_1275 ?_
  refine lpush (pc := 1276) C0 hL hS1 hl hi (k := 5) (by omega) (by decide) dL_law_1276 dL_law_1277 dL_law_1278 dL_law_1279 dL_law_1280 ?_
  refine lcall (pc := 1281) (vs := [.inl (xs (i + 1)), .inl (xs (i + 2)), .inl (xs (i + 3)), .inl (xs (i + 4)), .inl (xs (i + 5))]) (rest := [.int r]) C0 G.2.1 hP2 hS1 fm_X6_copy fi_X6_copy ml_L_152 (by decide) (g := (rg_m, g2)) rfl h00m rfl rfl (fun v hv => by simp only [List.mem_cons, List.not_mem_nil, or_false] at hv; rcases hv with rfl | rfl | rfl | rfl | rfl <;> exact trivial) hl.1 (Nat.le_of_ble_eq_true rfl) dL_law_1281 h (fun r2 Mm1 H2 locs2 h hP3 hq2 hS2 => ?_)
  have hP4 := hP1.kept (fun q a z => G.2.2 q a z) hq2
  refine lv_icmp_eq (pc := 1284) (tgt := 1289) C0.1 C0.2.1 dL_law_1284 (by decide) (fun _ => ?_) (fun hc => absurd h.1 hc)
  exact kk Mx1 Mm1 H2 locs2 h.2 ⟨hP4, hP3, hS2⟩
def kAll (l : Launch) (g1 g2 : va_G × (Nat → ClassId) × (Nat → Nat → Nat)) (Inv : Nat → kM → kM → Prop) : Prop := ∀ (n : Nat) (Mx Mm : kM), n < 512 → Inv n Mx Mm → (∀ a1 a2 a3 : Int32, kPair l g1 g2 mX5_stage mX6_stage [.inl a1, .inl a2, .inl a3] Mx Mm (Inv (n + 1))) ∧ (∀ a1 a2 a3 : Int32, kPair l g1 g2 mX5_rider mX6_rider [.inl a1, .inl a2, .inl a3] Mx Mm (Inv (n + 1))) ∧ (∀ a1 a2 : Int32, kPair l g1 g2 mX5_of mX6_of [.inl a1, .inl a2] Mx Mm (Inv (n + 1))) ∧ (∀ a1 a2 : Int32, kPair l g1 g2 mX5_at mX6_at [.inl a1, .inl a2] Mx Mm (Inv (n + 1))) ∧ (∀ a1 a2 : Int32, kPair l g1 g2 mX5_buys mX6_buys [.inl a1, .inl a2] Mx Mm (Inv (n + 1))) ∧ (∀ a1 : Int32, kPair l g1 g2 mX5_price mX6_price [.inl a1] Mx Mm (Inv (n + 1))) ∧ (∀ a1 : Int32, kPair l g1 g2 mX5_type mX6_type [.inl a1] Mx Mm (Inv (n + 1))) ∧ kPair l g1 g2 mX5_road mX6_road [] Mx Mm (Inv (n + 1)) ∧ (∀ a1 : Int32, kPair l g1 g2 mX5_count mX6_count [.inl a1] Mx Mm (Inv (n + 1))) ∧ (∀ a1 : Int32, kPair l g1 g2 mX5_ride mX6_ride [.inl a1] Mx Mm (Inv (n + 1))) ∧ (∀ a1 : Int32, kPair l g1 g2 mX5_wheel mX6_wheel [.inl a1] Mx Mm (Inv (n + 1))) ∧ (∀ a1 a2 a3 : Int32, kPair l g1 g2 mX5_give mX6_give [.inl a1, .inl a2, .inl a3] Mx Mm (Inv (n + 1))) ∧ (∀ a1 : Int32, kPair l g1 g2 mX5_drift mX6_drift [.inl a1] Mx Mm (Inv (n + 1))) ∧ kPair l g1 g2 mX5_undo mX6_undo [] Mx Mm (Inv (n + 1)) ∧ (∀ a1 : Int32, kPair l g1 g2 mX5_seed mX6_seed [.inl a1] Mx Mm (Inv (n + 1))) ∧ (∀ a1 a2 : Int32, kPair l g1 g2 mX5_ahead mX6_ahead [.inl a1, .inl a2] Mx Mm (Inv (n + 1))) ∧ (∀ a1 a2 : Int32, kPair l g1 g2 mX5_comes mX6_comes [.inl a1, .inl a2] Mx Mm (Inv (n + 1))) ∧ kPair l g1 g2 mX5_first mX6_first [] Mx Mm (Inv (n + 1)) ∧ (∀ a1 a2 : Int32, kPair l g1 g2 mX5_caught mX6_caught [.inl a1, .inl a2] Mx Mm (Inv (n + 1))) ∧ (∀ a1 a2 : Int32, kPair l g1 g2 mX5_best mX6_best [.inl a1, .inl a2] Mx Mm (Inv (n + 1))) ∧ (∀ a1 a2 : Int32, kPair l g1 g2 mX5_earlier mX6_earlier [.inl a1, .inl a2] Mx Mm (Inv (n + 1))) ∧ (∀ a1 a2 : Int32, kPair l g1 g2 mX5_purse mX6_purse [.inl a1, .inl a2] Mx Mm (Inv (n + 1))) ∧ (∀ a1 a2 : Int32, kPair l g1 g2 mX5_loosened mX6_loosened [.inl a1, .inl a2] Mx Mm (Inv (n + 1))) ∧ (∀ a1 a2 a3 : Int32, kPair l g1 g2 mX5_duel mX6_duel [.inl a1, .inl a2, .inl a3] Mx Mm (Inv (n + 1))) ∧ (∀ a1 a2 a3 : Int32, kPair l g1 g2 mX5_luck mX6_luck [.inl a1, .inl a2, .inl a3] Mx Mm (Inv (n + 1))) ∧ kPair l g1 g2 mX5_image mX6_image [] Mx Mm (Inv (n + 1)) ∧ kPair l g1 g2 mX5_restore mX6_restore [] Mx Mm (Inv (n + 1)) ∧ (∀ a1 a2 a3 a4 a5 : Int32, kPair l g1 g2 mX5_passed mX6_passed [.inl a1, .inl a2, .inl a3, .inl a4, .inl a5] Mx Mm (Inv (n + 1))) ∧ (∀ a1 a2 a3 a4 a5 : Int32, kPair l g1 g2 mX5_film mX6_film [.inl a1, .inl a2, .inl a3, .inl a4, .inl a5] Mx Mm (Inv (n + 1))) ∧ (∀ a1 a2 a3 : Int32, kPair l g1 g2 mX5_sheet mX6_sheet [.inl a1, .inl a2, .inl a3] Mx Mm (Inv (n + 1))) ∧ (∀ a1 : Int32, kPair l g1 g2 mX5_drop mX6_drop [.inl a1] Mx Mm (Inv (n + 1))) ∧ (∀ (a1 a2 a3 : Int32) (a4 : Int64), kPair l g1 g2 mX5_item mX6_item [.inl a1, .inl a2, .inl a3, .inr (.inl a4)] Mx Mm (Inv (n + 1))) ∧ (∀ a1 a2 a3 a4 a5 : Int32, kPair l g1 g2 mX5_copy mX6_copy [.inl a1, .inl a2, .inl a3, .inl a4, .inl a5] Mx Mm (Inv (n + 1)))
set_option maxHeartbeats 4000000 in
set_option maxRecDepth 100000 in
theorem law_loop {p : Program} {l : Launch} {e : Env} {s : State} {m : MethodId} {below : List Frame} {meth : Method} {c : Code} {b L : Nat} {xs : Nat → Int32} {g1 g2 : va_G × (Nat → ClassId) × (Nat → Nat → Nat)} {Inv : Nat → kM → kM → Prop} (hL : L ≤ 3072) (C0 : lw_At p s m meth c b L xs) (G : lG g1 g2 s) (hA : kAll l g1 g2 Inv) (hI : ∀ n Mx Mm, Inv n Mx Mm → Inv (n + 1) Mx Mm) :
    ∀ (f n i : Nat), i = 6 * n → L + 6 ≤ i + 6 * f → i ≤ L → ∀ (Mx Mm : kM), Inv n Mx Mm → ∀ (H : Heap) (locs : List Loc) (lA : Array Slot) (x3 : Int32), x3 = nI i → lS g1 g2 s Mx Mm H locs → lv_has lA 4 [(0, .ref b), (1, .ref (g1.2.2 0 0)), (2, .ref (g2.2.2 0 0)), (3, .int x3)] → W p l e room_1 s m #[Value.ref b] below meth c H locs 66 1894 (lw_Z below #[Value.ref b] s) (F0 m 18 lA []) := by
  intro f
  induction f with
  | zero =>
    intro n i hn hf hi
    omega
  | succ f ih =>
    intro n i hn hf hi Mx Mm hInv H locs lA x3 h3 hS hl
    have hx := C0.1
    have hb := C0.2.1
    obtain ⟨_, _, hr, hml, hown, hts0, hX, hbl, hlocks, hgv⟩ := id C0
    have hbA : ¬ kAl s b := Nat.not_le.mpr hbl
    refine lv_iload_n (pc := 18) hx hb dL_law_18 rfl (lv_at hl 3 rfl) ?_
    refine lv_aload_n (pc := 19) hx hb dL_law_19 rfl (lv_at hl 0 rfl) ?_
    refine va_slen (pc := 20) hx hb hX hbl hbA hS.2.2 dL_law_20 ?_
    refine lv_bipush (pc := 21) (v := 6) hx hb dL_law_21 (by decide) ?_
    refine lv_isub (pc := 23) hx hb dL_law_23 ?_
    have hcmp : (Int32.ofNat L - 6 < x3) ↔ L < i + 6 := by
      have e1 : (Int32.ofNat L - 6).toInt = (L : Int) - 6 := by
        have := pk_sub_toInt (a := L) (b := 6) (by omega) (by omega)
        exact this
      rw [Int32.lt_iff_toInt_lt, e1, h3, nI_toInt (by omega)]
      omega
    refine lv_icmp_gt (pc := 24) (tgt := 1295) hx hb dL_law_24 (by decide) (fun hc => ?_) (fun hc => ?_)
    · refine lv_iconst (pc := 1295) (v := 1) hx hb dL_law_1295 (by decide) ?_
      refine va_forget (fun q hq => hS.2.2.2.2 q hq) ?_
      exact lw_ret hx hb hr hlocks dL_law_1296
    · have hk : i + 6 ≤ L := by
        rcases Nat.lt_or_ge L (i + 6) with q | q
        · exact absurd (hcmp.mpr q) hc
        · exact q
      have hn5 : n < 512 := by omega
      have hN : ∀ (Mx1 Mm1 : kM) (H1 : Heap) (locs1 : List Loc), Inv (n + 1) Mx1 Mm1 → lS g1 g2 s Mx1 Mm1 H1 locs1 → W p l e room_1 s m #[Value.ref b] below meth c H1 locs1 66 1894 (lw_Z below #[Value.ref b] s) (F0 m 1289 lA []) := by
        intro Mx1 Mm1 H1 locs1 hI1 hS1
        obtain ⟨x4, e4⟩ : ∃ z : Int32, z = x3 + 6 := ⟨_, rfl⟩
        refine lv_iinc (pc := 1289) (v := x4) (lv' := [(3, .int x4), (0, .ref b), (1, .ref (g1.2.2 0 0)), (2, .ref (g2.2.2 0 0))]) hx hb dL_law_1289 hl (k := 3) rfl (by rw [e4]; rfl) (by decide) rfl (fun lB hl2 => ?_)
        refine lv_goto (pc := 1292) (tgt := 18) hx hb dL_law_1292 (by decide) ?_
        exact ih (n + 1) (i + 6) (by omega) (by omega) hk Mx1 Mm1 hI1 H1 locs1 lB x4 (by rw [e4, h3]; exact nI_add i 6) hS1 (lv_sub hl2 [1, 2, 3, 0] rfl)
      have hA1 := hA n Mx Mm hn5 hInv
      refine lv_aload_n (pc := 27) hx hb dL_law_27 rfl (lv_at hl 0 rfl) ?_
      refine lv_iload_n (pc := 28) hx hb dL_law_28 rfl (lv_at hl 3 rfl) ?_
      refine va_sld (pc := 29) (A := kAl s) hx hb hX hbl hbA hS.2.2 (by rw [h3]; exact vp_in_nI (by omega) (by omega)) dL_law_29 ?_
      refine lv_bipush (pc := 30) (v := 63) hx hb dL_law_30 (by decide) ?_
      refine lv_iand (pc := 32) hx hb dL_law_32 ?_
      generalize xs x3.toNatClampNeg &&& 63 = v
      by_cases c0 : v = 0
      · refine lv_tableIn (pc := 33) (tgt := 180) (off := 147) hx hb dL_law_33 (by rw [c0]; decide) (by rw [c0]; decide) (by rw [c0]; decide) (by decide) ?_
        exact lcase_0 C0 hL G hS hl h3 hk (hA1.1 (xs (i + 1)) (xs (i + 2)) (xs (i + 3))) hN
      by_cases c1 : v = 1
      · refine lv_tableIn (pc := 33) (tgt := 223) (off := 190) hx hb dL_law_33 (by rw [c1]; decide) (by rw [c1]; decide) (by rw [c1]; decide) (by decide) ?_
        exact lcase_1 C0 hL G hS hl h3 hk (hA1.2.1 (xs (i + 1)) (xs (i + 2)) (xs (i + 3))) hN
      by_cases c2 : v = 2
      · refine lv_tableIn (pc := 33) (tgt := 266) (off := 233) hx hb dL_law_33 (by rw [c2]; decide) (by rw [c2]; decide) (by rw [c2]; decide) (by decide) ?_
        exact lcase_2 C0 hL G hS hl h3 hk (hA1.2.2.1 (xs (i + 1)) (xs (i + 2))) hN
      by_cases c3 : v = 3
      · refine lv_tableIn (pc := 33) (tgt := 299) (off := 266) hx hb dL_law_33 (by rw [c3]; decide) (by rw [c3]; decide) (by rw [c3]; decide) (by decide) ?_
        exact lcase_3 C0 hL G hS hl h3 hk (hA1.2.2.2.1 (xs (i + 1)) (xs (i + 2))) hN
      by_cases c4 : v = 4
      · refine lv_tableIn (pc := 33) (tgt := 332) (off := 299) hx hb dL_law_33 (by rw [c4]; decide) (by rw [c4]; decide) (by rw [c4]; decide) (by decide) ?_
        exact lcase_4 C0 hL G hS hl h3 hk (hA1.2.2.2.2.1 (xs (i + 1)) (xs (i + 2))) hN
      by_cases c5 : v = 5
      · refine lv_tableIn (pc := 33) (tgt := 365) (off := 332) hx hb dL_law_33 (by rw [c5]; decide) (by rw [c5]; decide) (by rw [c5]; decide) (by decide) ?_
        exact lcase_5 C0 hL G hS hl h3 hk (hA1.2.2.2.2.2.1 (xs (i + 1))) hN
      by_cases c6 : v = 6
      · refine lv_tableIn (pc := 33) (tgt := 388) (off := 355) hx hb dL_law_33 (by rw [c6]; decide) (by rw [c6]; decide) (by rw [c6]; decide) (by decide) ?_
        exact lcase_6 C0 hL G hS hl h3 hk (hA1.2.2.2.2.2.2.1 (xs (i + 1))) hN
      by_cases c7 : v = 7
      · refine lv_tableIn (pc := 33) (tgt := 411) (off := 378) hx hb dL_law_33 (by rw [c7]; decide) (by rw [c7]; decide) (by rw [c7]; decide) (by decide) ?_
        exact lcase_7 C0 hL G hS hl h3 hk (hA1.2.2.2.2.2.2.2.1) hN
      by_cases c8 : v = 8
      · refine lv_tableIn (pc := 33) (tgt := 424) (off := 391) hx hb dL_law_33 (by rw [c8]; decide) (by rw [c8]; decide) (by rw [c8]; decide) (by decide) ?_
        exact lcase_8 C0 hL G hS hl h3 hk (hA1.2.2.2.2.2.2.2.2.1 (xs (i + 1))) hN
      by_cases c9 : v = 9
      · refine lv_tableIn (pc := 33) (tgt := 447) (off := 414) hx hb dL_law_33 (by rw [c9]; decide) (by rw [c9]; decide) (by rw [c9]; decide) (by decide) ?_
        exact lcase_9 C0 hL G hS hl h3 hk (hA1.2.2.2.2.2.2.2.2.2.1 (xs (i + 1))) hN
      by_cases c10 : v = 10
      · refine lv_tableIn (pc := 33) (tgt := 470) (off := 437) hx hb dL_law_33 (by rw [c10]; decide) (by rw [c10]; decide) (by rw [c10]; decide) (by decide) ?_
        exact lcase_10 C0 hL G hS hl h3 hk (hA1.2.2.2.2.2.2.2.2.2.2.1 (xs (i + 1))) hN
      by_cases c11 : v = 11
      · refine lv_tableIn (pc := 33) (tgt := 493) (off := 460) hx hb dL_law_33 (by rw [c11]; decide) (by rw [c11]; decide) (by rw [c11]; decide) (by decide) ?_
        exact lcase_11 C0 hL G hS hl h3 hk (hA1.2.2.2.2.2.2.2.2.2.2.2.1 (xs (i + 1)) (xs (i + 2)) (xs (i + 3))) hN
      by_cases c12 : v = 12
      · refine lv_tableIn (pc := 33) (tgt := 536) (off := 503) hx hb dL_law_33 (by rw [c12]; decide) (by rw [c12]; decide) (by rw [c12]; decide) (by decide) ?_
        exact lcase_12 C0 hL G hS hl h3 hk (hA1.2.2.2.2.2.2.2.2.2.2.2.2.1 (xs (i + 1))) hN
      by_cases c13 : v = 13
      · refine lv_tableIn (pc := 33) (tgt := 559) (off := 526) hx hb dL_law_33 (by rw [c13]; decide) (by rw [c13]; decide) (by rw [c13]; decide) (by decide) ?_
        exact lcase_13 C0 hL G hS hl h3 hk (hA1.2.2.2.2.2.2.2.2.2.2.2.2.2.1) hN
      by_cases c14 : v = 14
      · refine lv_tableIn (pc := 33) (tgt := 572) (off := 539) hx hb dL_law_33 (by rw [c14]; decide) (by rw [c14]; decide) (by rw [c14]; decide) (by decide) ?_
        exact lcase_14 C0 hL G hS hl h3 hk (hA1.2.2.2.2.2.2.2.2.2.2.2.2.2.2.1 (xs (i + 1))) hN
      by_cases c15 : v = 15
      · refine lv_tableIn (pc := 33) (tgt := 595) (off := 562) hx hb dL_law_33 (by rw [c15]; decide) (by rw [c15]; decide) (by rw [c15]; decide) (by decide) ?_
        exact lcase_15 C0 hL G hS hl h3 hk (hA1.2.2.2.2.2.2.2.2.2.2.2.2.2.2.2.1 (xs (i + 1)) (xs (i + 2))) hN
      by_cases c16 : v = 16
      · refine lv_tableIn (pc := 33) (tgt := 628) (off := 595) hx hb dL_law_33 (by rw [c16]; decide) (by rw [c16]; decide) (by rw [c16]; decide) (by decide) ?_
        exact lcase_16 C0 hL G hS hl h3 hk (hA1.2.2.2.2.2.2.2.2.2.2.2.2.2.2.2.2.1 (xs (i + 1)) (xs (i + 2))) hN
      by_cases c17 : v = 17
      · refine lv_tableIn (pc := 33) (tgt := 661) (off := 628) hx hb dL_law_33 (by rw [c17]; decide) (by rw [c17]; decide) (by rw [c17]; decide) (by decide) ?_
        exact lcase_17 C0 hL G hS hl h3 hk (hA1.2.2.2.2.2.2.2.2.2.2.2.2.2.2.2.2.2.1) hN
      by_cases c18 : v = 18
      · refine lv_tableIn (pc := 33) (tgt := 674) (off := 641) hx hb dL_law_33 (by rw [c18]; decide) (by rw [c18]; decide) (by rw [c18]; decide) (by decide) ?_
        exact lcase_18 C0 hL G hS hl h3 hk (hA1.2.2.2.2.2.2.2.2.2.2.2.2.2.2.2.2.2.2.1 (xs (i + 1)) (xs (i + 2))) hN
      by_cases c19 : v = 19
      · refine lv_tableIn (pc := 33) (tgt := 707) (off := 674) hx hb dL_law_33 (by rw [c19]; decide) (by rw [c19]; decide) (by rw [c19]; decide) (by decide) ?_
        exact lcase_19 C0 hL G hS hl h3 hk (hA1.2.2.2.2.2.2.2.2.2.2.2.2.2.2.2.2.2.2.2.1 (xs (i + 1)) (xs (i + 2))) hN
      by_cases c20 : v = 20
      · refine lv_tableIn (pc := 33) (tgt := 740) (off := 707) hx hb dL_law_33 (by rw [c20]; decide) (by rw [c20]; decide) (by rw [c20]; decide) (by decide) ?_
        exact lcase_20 C0 hL G hS hl h3 hk (hA1.2.2.2.2.2.2.2.2.2.2.2.2.2.2.2.2.2.2.2.2.1 (xs (i + 1)) (xs (i + 2))) hN
      by_cases c21 : v = 21
      · refine lv_tableIn (pc := 33) (tgt := 773) (off := 740) hx hb dL_law_33 (by rw [c21]; decide) (by rw [c21]; decide) (by rw [c21]; decide) (by decide) ?_
        exact lcase_21 C0 hL G hS hl h3 hk (hA1.2.2.2.2.2.2.2.2.2.2.2.2.2.2.2.2.2.2.2.2.2.1 (xs (i + 1)) (xs (i + 2))) hN
      by_cases c22 : v = 22
      · refine lv_tableIn (pc := 33) (tgt := 806) (off := 773) hx hb dL_law_33 (by rw [c22]; decide) (by rw [c22]; decide) (by rw [c22]; decide) (by decide) ?_
        exact lcase_22 C0 hL G hS hl h3 hk (hA1.2.2.2.2.2.2.2.2.2.2.2.2.2.2.2.2.2.2.2.2.2.2.1 (xs (i + 1)) (xs (i + 2))) hN
      by_cases c23 : v = 23
      · refine lv_tableIn (pc := 33) (tgt := 839) (off := 806) hx hb dL_law_33 (by rw [c23]; decide) (by rw [c23]; decide) (by rw [c23]; decide) (by decide) ?_
        exact lcase_23 C0 hL G hS hl h3 hk (hA1.2.2.2.2.2.2.2.2.2.2.2.2.2.2.2.2.2.2.2.2.2.2.2.1 (xs (i + 1)) (xs (i + 2)) (xs (i + 3))) hN
      by_cases c24 : v = 24
      · refine lv_tableIn (pc := 33) (tgt := 882) (off := 849) hx hb dL_law_33 (by rw [c24]; decide) (by rw [c24]; decide) (by rw [c24]; decide) (by decide) ?_
        exact lcase_24 C0 hL G hS hl h3 hk (hA1.2.2.2.2.2.2.2.2.2.2.2.2.2.2.2.2.2.2.2.2.2.2.2.2.1 (xs (i + 1)) (xs (i + 2)) (xs (i + 3))) hN
      by_cases c25 : v = 25
      · refine lv_tableIn (pc := 33) (tgt := 925) (off := 892) hx hb dL_law_33 (by rw [c25]; decide) (by rw [c25]; decide) (by rw [c25]; decide) (by decide) ?_
        exact lcase_25 C0 hL G hS hl h3 hk (hA1.2.2.2.2.2.2.2.2.2.2.2.2.2.2.2.2.2.2.2.2.2.2.2.2.2.1) hN
      by_cases c26 : v = 26
      · refine lv_tableIn (pc := 33) (tgt := 938) (off := 905) hx hb dL_law_33 (by rw [c26]; decide) (by rw [c26]; decide) (by rw [c26]; decide) (by decide) ?_
        exact lcase_26 C0 hL G hS hl h3 hk (hA1.2.2.2.2.2.2.2.2.2.2.2.2.2.2.2.2.2.2.2.2.2.2.2.2.2.2.1) hN
      by_cases c27 : v = 27
      · refine lv_tableIn (pc := 33) (tgt := 951) (off := 918) hx hb dL_law_33 (by rw [c27]; decide) (by rw [c27]; decide) (by rw [c27]; decide) (by decide) ?_
        exact lcase_27 C0 hL G hS hl h3 hk (hA1.2.2.2.2.2.2.2.2.2.2.2.2.2.2.2.2.2.2.2.2.2.2.2.2.2.2.2.1 (xs (i + 1)) (xs (i + 2)) (xs (i + 3)) (xs (i + 4)) (xs (i + 5))) hN
      by_cases c28 : v = 28
      · refine lv_tableIn (pc := 33) (tgt := 1014) (off := 981) hx hb dL_law_33 (by rw [c28]; decide) (by rw [c28]; decide) (by rw [c28]; decide) (by decide) ?_
        exact lcase_28 C0 hL G hS hl h3 hk (hA1.2.2.2.2.2.2.2.2.2.2.2.2.2.2.2.2.2.2.2.2.2.2.2.2.2.2.2.2.1 (xs (i + 1)) (xs (i + 2)) (xs (i + 3)) (xs (i + 4)) (xs (i + 5))) hN
      by_cases c29 : v = 29
      · refine lv_tableIn (pc := 33) (tgt := 1077) (off := 1044) hx hb dL_law_33 (by rw [c29]; decide) (by rw [c29]; decide) (by rw [c29]; decide) (by decide) ?_
        exact lcase_29 C0 hL G hS hl h3 hk (hA1.2.2.2.2.2.2.2.2.2.2.2.2.2.2.2.2.2.2.2.2.2.2.2.2.2.2.2.2.2.1 (xs (i + 1)) (xs (i + 2)) (xs (i + 3))) hN
      by_cases c30 : v = 30
      · refine lv_tableIn (pc := 33) (tgt := 1120) (off := 1087) hx hb dL_law_33 (by rw [c30]; decide) (by rw [c30]; decide) (by rw [c30]; decide) (by decide) ?_
        exact lcase_30 C0 hL G hS hl h3 hk (hA1.2.2.2.2.2.2.2.2.2.2.2.2.2.2.2.2.2.2.2.2.2.2.2.2.2.2.2.2.2.2.1 (xs (i + 1))) hN
      by_cases c31 : v = 31
      · refine lv_tableIn (pc := 33) (tgt := 1143) (off := 1110) hx hb dL_law_33 (by rw [c31]; decide) (by rw [c31]; decide) (by rw [c31]; decide) (by decide) ?_
        exact lcase_31 C0 hL G hS hl h3 hk (hA1.2.2.2.2.2.2.2.2.2.2.2.2.2.2.2.2.2.2.2.2.2.2.2.2.2.2.2.2.2.2.2.1 (xs (i + 1)) (xs (i + 2)) (xs (i + 3)) _) hN
      by_cases c32 : v = 32
      · refine lv_tableIn (pc := 33) (tgt := 1226) (off := 1193) hx hb dL_law_33 (by rw [c32]; decide) (by rw [c32]; decide) (by rw [c32]; decide) (by decide) ?_
        exact lcase_32 C0 hL G hS hl h3 hk (hA1.2.2.2.2.2.2.2.2.2.2.2.2.2.2.2.2.2.2.2.2.2.2.2.2.2.2.2.2.2.2.2.2 (xs (i + 1)) (xs (i + 2)) (xs (i + 3)) (xs (i + 4)) (xs (i + 5))) hN
      refine lv_tableOut (pc := 33) (tgt := 1289) hx hb dL_law_33 (by have b0 := lv_neT c0 (a := 0) (by decide); have b1 := lv_neT c1 (a := 1) (by decide); have b2 := lv_neT c2 (a := 2) (by decide); have b3 := lv_neT c3 (a := 3) (by decide); have b4 := lv_neT c4 (a := 4) (by decide); have b5 := lv_neT c5 (a := 5) (by decide); have b6 := lv_neT c6 (a := 6) (by decide); have b7 := lv_neT c7 (a := 7) (by decide); have b8 := lv_neT c8 (a := 8) (by decide); have b9 := lv_neT c9 (a := 9) (by decide); have b10 := lv_neT c10 (a := 10) (by decide); have b11 := lv_neT c11 (a := 11) (by decide); have b12 := lv_neT c12 (a := 12) (by decide); have b13 := lv_neT c13 (a := 13) (by decide); have b14 := lv_neT c14 (a := 14) (by decide); have b15 := lv_neT c15 (a := 15) (by decide); have b16 := lv_neT c16 (a := 16) (by decide); have b17 := lv_neT c17 (a := 17) (by decide); have b18 := lv_neT c18 (a := 18) (by decide); have b19 := lv_neT c19 (a := 19) (by decide); have b20 := lv_neT c20 (a := 20) (by decide); have b21 := lv_neT c21 (a := 21) (by decide); have b22 := lv_neT c22 (a := 22) (by decide); have b23 := lv_neT c23 (a := 23) (by decide); have b24 := lv_neT c24 (a := 24) (by decide); have b25 := lv_neT c25 (a := 25) (by decide); have b26 := lv_neT c26 (a := 26) (by decide); have b27 := lv_neT c27 (a := 27) (by decide); have b28 := lv_neT c28 (a := 28) (by decide); have b29 := lv_neT c29 (a := 29) (by decide); have b30 := lv_neT c30 (a := 30) (by decide); have b31 := lv_neT c31 (a := 31) (by decide); have b32 := lv_neT c32 (a := 32) (by decide); omega) (by decide) ?_
      exact hN Mx Mm H locs (hI n Mx Mm hInv) hS
