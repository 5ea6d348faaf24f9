def R_law : String := "DoorBellLaw"
def lw_P (b : Addr) (xs : List Int32) (args : Array Value) (s : State) : Prop := args = #[.ref b] ∧ s.IntsAt b xs ∧ xs.length ≤ 3072 ∧ (Jvm.Cond.and given_1 narrow_1).before args s = true
def lw_Q (_ : Array Value) (s : State) (o : Outcome) (t : State) : Prop := o = .returned (some (.int 1)) ∧ Framed s o t [] 600000 7302250
def lw_Z (below : List Frame) (a : Array Value) (s : State) : State → Prop := fun t => ∃ o, t.status = .running ∧ Ended t below o ∧ lw_Q a s o t
/-- the law's own end, with 1 on the stack, nothing written that was there before, its room as the claim has it -/
theorem lw_ret {p : Program} {l : Launch} {e : Env} {s : State} {m : MethodId} {below : List Frame} {meth : Method} {c : Code} {b : Nat} (hx : p.tables.exec = Jvm.exec) (hb : c.code = code) (hr : meth.sig.returnType = ret) (hlocks : meth.locks = false) {pc : Nat} {H : Heap} {ls : Array Slot} (hdg : decode code pc = .ok (.ireturn, 1)) : W p l e room_1 s m #[Value.ref b] below meth c H [] 600000 7302250 (lw_Z below #[Value.ref b] s) (F0 m pc ls [.int 1]) := by
  intro T hT X
  obtain ⟨fs, hret, hrun, hended, hW, hframe⟩ := X.leave (v := some (.int 1)) (hlocks := hlocks) (fun h => by rw [hr] at h; cases h)
  have hmeth' : T.vm.method? m = some meth := X.method'
  refine ⟨T.setFrames fs, ?_, .returned (some (.int 1)), hrun, hended, rfl, ⟨_, rfl⟩, hW, hframe⟩
  jvm_step X.here [X.here.top, hx, hb, hdg, hmeth', hr, ret, narrow_b1]
  (try refine ⟨rfl, ?_⟩); (try refine ⟨rfl, ?_⟩)
  first | (intro acts; rw [hret _ acts rfl rfl rfl]) | rw [hret _ _ rfl rfl rfl]
  exact Steps.refl _
/-- what holds at the law's entry: the machine, the code, the tables' words (any of lw_tbl by 'hts w (by decide +kernel)'), the script of L ints xs at the cell b, what the Statement gives of the start (any of its parts by flat_of_before) -/
def lw_At (p : Program) (s : State) (m : MethodId) (meth : Method) (c : Code) (b L : Nat) (xs : Nat → Int32) : Prop :=
  p.tables.exec = Jvm.exec ∧ c.code = code ∧ meth.sig.returnType = ret ∧ c.maxLocals = 4 ∧ s.vm.findClass R_law = some m.cls ∧ (∀ w ∈ lw_tbl, w.before #[Value.ref b] s = true) ∧ va_X b L xs s s.heap ∧ b < s.heap.size ∧ meth.locks = false ∧ (Jvm.Cond.and given_1 narrow_1).before #[Value.ref b] s = true
/-! THE LAW'S LOOP, over the world behind the constructors -/
abbrev KL : Type := (Program × Launch × Env × State) × (MethodId × List Frame × Method × Code) × (Nat × Nat × (Nat → Int32)) × Gm
abbrev AL (κ : KL) : Nat → Prop := fun q => κ.1.2.2.2.heap.size ≤ q
def Lx (κ : KL) : Prop :=
  κ.1.1.tables.exec = Jvm.exec ∧ κ.2.1.2.2.2.code = code ∧ κ.2.1.2.2.1.sig.returnType = ret ∧ κ.2.1.2.2.2.maxLocals = 4 ∧ κ.1.2.2.2.vm.findClass RL = some κ.2.1.1.cls ∧ (∀ w ∈ TB, w.before #[Value.ref κ.2.2.1.1] κ.1.2.2.2 = true) ∧
  va_X κ.2.2.1.1 κ.2.2.1.2.1 κ.2.2.1.2.2 κ.1.2.2.2 κ.1.2.2.2.heap ∧ κ.2.2.1.1 < κ.1.2.2.2.heap.size ∧ κ.2.1.2.2.1.locks = false ∧ va_K κ.2.2.2.2.1 vwCl (tyK κ.2.2.2) κ.1.2.2.2 ∧ inj κ.2.2.2 ∧ sTt κ.2.2.2 κ.1.2.2.2 κ.1.2.2.2.heap ∧ (∀ i, i < 79 → κ.1.2.2.2.heap.size ≤ κ.2.2.2.1 i) ∧ κ.2.2.1.2.1 ≤ 3072
def Wl (κ : KL) (pc : Nat) (lv : List (Nat × Value)) (st : List Value) (σ : St) : Prop :=
  ∀ (H : Heap) (locs : List Loc) (ls : Array Slot), va_P κ.2.2.2.2.1 vwCl (wd κ.2.2.2 σ) H → va_S (AL κ) κ.1.2.2.2.heap H locs → lv_has ls 4 lv →
    W κ.1.1 κ.1.2.1 κ.1.2.2.1 room_1 κ.1.2.2.2 κ.2.1.1 #[Value.ref κ.2.2.1.1] κ.2.1.2.1 κ.2.1.2.2.1 κ.2.1.2.2.2 H locs 1000 10000 (lw_Z κ.2.1.2.1 #[Value.ref κ.2.2.1.1] κ.1.2.2.2) (F0 κ.2.1.1 pc ls st)
abbrev aL (κ : KL) (i : Nat) : Value := .ref (κ.2.2.2.1 i)
section QROWS
variable {κ : KL} {pc : Nat} {lv lv' : List (Nat × Value)} {st stk : List Value} {σ : St}
theorem q_iconst {n : Int} {v : Int32} (hc : Lx κ) (hd : decode code pc = .ok (.iconst n, 1)) (hv : Int32.ofInt n = v) (k : Wl κ (pc + 1) lv (.int v :: st) σ) : Wl κ pc lv (st) σ :=
  fun H locs ls hP hS hl => lv_iconst hc.1 hc.2.1 hd hv (k H locs ls hP hS hl)
theorem q_bipush {n : Int} {v : Int32} (hc : Lx κ) (hd : decode code pc = .ok (.bipush n, 2)) (hv : (Int8.ofInt n).toInt32 = v) (k : Wl κ (pc + 2) lv (.int v :: st) σ) : Wl κ pc lv (st) σ :=
  fun H locs ls hP hS hl => lv_bipush hc.1 hc.2.1 hd hv (k H locs ls hP hS hl)
theorem q_iload_n {i : Fin 4} {x : Int32} (q : Nat) (hc : Lx κ) (hd : decode code pc = .ok (.iload_n i, 1)) (hq : lv[q]? = some ((i : Nat), .int x)) (k : Wl κ (pc + 1) lv (.int x :: st) σ) : Wl κ pc lv st σ :=
  fun H locs ls hP hS hl => lv_iload_n hc.1 hc.2.1 hd rfl (lv_at hl q hq) (k H locs ls hP hS hl)
theorem q_aload_n {i : Fin 4} {x : Nat} (q : Nat) (hc : Lx κ) (hd : decode code pc = .ok (.aload_n i, 1)) (hq : lv[q]? = some ((i : Nat), .ref x)) (k : Wl κ (pc + 1) lv (.ref x :: st) σ) : Wl κ pc lv st σ :=
  fun H locs ls hP hS hl => lv_aload_n hc.1 hc.2.1 hd rfl (lv_at hl q hq) (k H locs ls hP hS hl)
theorem q_iadd {x y : Int32} (hc : Lx κ) (hd : decode code pc = .ok (.iadd, 1))  (k : Wl κ (pc + 1) lv (.int (x + y) :: st) σ) : Wl κ pc lv (.int y :: .int x :: st) σ :=
  fun H locs ls hP hS hl => lv_iadd hc.1 hc.2.1 hd (k H locs ls hP hS hl)
theorem q_isub {x y : Int32} (hc : Lx κ) (hd : decode code pc = .ok (.isub, 1))  (k : Wl κ (pc + 1) lv (.int (x - y) :: st) σ) : Wl κ pc lv (.int y :: .int x :: st) σ :=
  fun H locs ls hP hS hl => lv_isub hc.1 hc.2.1 hd (k H locs ls hP hS hl)
theorem q_iand {x y : Int32} (hc : Lx κ) (hd : decode code pc = .ok (.iand, 1))  (k : Wl κ (pc + 1) lv (.int (x &&& y) :: st) σ) : Wl κ pc lv (.int y :: .int x :: st) σ :=
  fun H locs ls hP hS hl => lv_iand hc.1 hc.2.1 hd (k H locs ls hP hS hl)
theorem q_lcmp {x y : Int64} (hc : Lx κ) (hd : decode code pc = .ok (.lcmp, 1))  (k : Wl κ (pc + 1) lv (.int (lg_cmp x y) :: st) σ) : Wl κ pc lv (.long y :: .long x :: st) σ :=
  fun H locs ls hP hS hl => W.lcmp hc.1 hc.2.1 hd (k H locs ls hP hS hl)
theorem q_iinc {i : Nat} {n : Int} {x v : Int32} (q : Nat) (hc : Lx κ) (hd : decode code pc = .ok (.iinc i n, 3)) (hq : lv[q]? = some (i, .int x)) (hv : x + Int32.ofInt n = v) (hn : i < 4) (hl : (i, Value.int v) :: lv.filter (fun q => !(q.1 == i) && !(q.1 + 1 == i && q.2.category == 2)) = lv') (k : Wl κ (pc + 3) lv' st σ) : Wl κ pc lv st σ :=
  fun H locs ls hP hS h => lv_iinc hc.1 hc.2.1 hd h hq hv hn hl (fun ls' h' => k H locs ls' hP hS h')
theorem q_goto {off : Int} (tgt : Nat) (hc : Lx κ) (hd : decode code pc = .ok (.goto off, 3)) (ht : (pc : Int) + off = (tgt : Int)) (k : Wl κ tgt lv st σ) : Wl κ pc lv st σ :=
  fun H locs ls hP hS hl => lv_goto hc.1 hc.2.1 hd ht (k H locs ls hP hS hl)
theorem q_sub (ks : List Nat) (hk : lv_pick lv ks = lv') (k : Wl κ pc lv' st σ) : Wl κ pc lv st σ :=
  fun H locs ls hP hS hl => k H locs ls hP hS (lv_sub hl ks hk)
theorem q_gt {x y : Int32} {off : Int} (tgt : Nat) (hc : Lx κ) (hd : decode code pc = .ok (.if_icmp .gt off, 3)) (ht : (pc : Int) + off = (tgt : Int)) (kt : y < x → Wl κ tgt lv st σ) (kf : ¬ y < x → Wl κ (pc + 3) lv st σ) : Wl κ pc lv (.int y :: .int x :: st) σ :=
  fun H locs ls hP hS hl => lv_icmp_gt hc.1 hc.2.1 hd ht (fun q => kt q H locs ls hP hS hl) (fun q => kf q H locs ls hP hS hl)
theorem q_eq {x y : Int32} {off : Int} (tgt : Nat) (hc : Lx κ) (hd : decode code pc = .ok (.if_icmp .eq off, 3)) (ht : (pc : Int) + off = (tgt : Int)) (he : x = y) (k : Wl κ tgt lv st σ) : Wl κ pc lv (.int y :: .int x :: st) σ :=
  fun H locs ls hP hS hl => lv_icmp_eq hc.1 hc.2.1 hd ht (fun _ => k H locs ls hP hS hl) (fun q => absurd he q)
theorem q_eq0 {x : Int32} {off : Int} (tgt : Nat) (hc : Lx κ) (hd : decode code pc = .ok (.ifCond .eq off, 3)) (ht : (pc : Int) + off = (tgt : Int)) (he : x = 0) (k : Wl κ tgt lv st σ) : Wl κ pc lv (.int x :: st) σ :=
  fun H locs ls hP hS hl => lv_if_eq hc.1 hc.2.1 hd ht (fun _ => k H locs ls hP hS hl) (fun q => absurd he q)
theorem q_tswIn {dflt lo hi off : Int} {offs : Array Int} {len : Nat} {x : Int32} (y : Int32) (tgt : Nat) (hc : Lx κ) (hd : decode code pc = .ok (.tableswitch dflt lo hi offs, len)) (hxy : x = y) (h1 : ¬ y.toInt < lo) (h2 : ¬ hi < y.toInt) (ho : offs[(y.toInt - lo).toNat]? = some off) (ht : (pc : Int) + off = (tgt : Int)) (k : Wl κ tgt lv st σ) : Wl κ pc lv (.int x :: st) σ :=
  fun H locs ls hP hS hl => lv_tableIn hc.1 hc.2.1 hd (by rw [hxy]; exact h1) (by rw [hxy]; exact h2) (by rw [hxy]; exact ho) ht (k H locs ls hP hS hl)
theorem q_tswOut {dflt lo hi : Int} {offs : Array Int} {len : Nat} {x : Int32} (tgt : Nat) (hc : Lx κ) (hd : decode code pc = .ok (.tableswitch dflt lo hi offs, len)) (h : x.toInt < lo ∨ hi < x.toInt) (ht : (pc : Int) + dflt = (tgt : Int)) (k : Wl κ tgt lv st σ) : Wl κ pc lv (.int x :: st) σ :=
  fun H locs ls hP hS hl => lv_tableOut hc.1 hc.2.1 hd h ht (k H locs ls hP hS hl)
theorem q_sld {i : Int32} (hc : Lx κ) (hd : decode code pc = .ok (.iaload, 1)) (hin : vp_in i κ.2.2.1.2.1) (k : Wl κ (pc + 1) lv (.int (κ.2.2.1.2.2 i.toNatClampNeg) :: st) σ) : Wl κ pc lv (.int i :: .ref κ.2.2.1.1 :: st) σ :=
  fun H locs ls hP hS hl => va_sld hc.1 hc.2.1 hc.2.2.2.2.2.2.1 hc.2.2.2.2.2.2.2.1 (A := AL κ) (Nat.not_le.mpr hc.2.2.2.2.2.2.2.1) hS hin hd (k H locs ls hP hS hl)
theorem q_slen (hc : Lx κ) (hd : decode code pc = .ok (.arraylength, 1)) (k : Wl κ (pc + 1) lv (.int (nI κ.2.2.1.2.1) :: st) σ) : Wl κ pc lv (.ref κ.2.2.1.1 :: st) σ :=
  fun H locs ls hP hS hl => va_slen hc.1 hc.2.1 hc.2.2.2.2.2.2.1 hc.2.2.2.2.2.2.2.1 (A := AL κ) (Nat.not_le.mpr hc.2.2.2.2.2.2.2.1) hS hd (k H locs ls hP hS hl)
theorem q_ret (hc : Lx κ) (hd : decode code pc = .ok (.ireturn, 1)) : Wl κ pc lv [.int 1] σ := by
  intro H locs ls hP hS hl
  refine va_forget (fun q hq => hS.2.2 q hq) ?_
  refine W.widen (k := 600000) (n := 7302250) (by decide) (by decide) ?_
  exact lw_ret hc.1 hc.2.1 hc.2.2.1 hc.2.2.2.2.2.2.2.2.1 hd
variable {bytes : ByteArray} {maxL d' n index : Nat} {C : String} {ret' : Option FieldType} {As : List Value} {y : MethodName} {av : (Nat → Nat) → List Value}
theorem preL {H : Heap} {locs : List Loc} {U : State} (hc : Lx κ) (hP : va_P κ.2.2.2.2.1 vwCl (wd κ.2.2.2 σ) H) (hS : va_S (AL κ) κ.1.2.2.2.heap H locs) (hU : U.heap = H) (hW : κ.1.2.2.2.WarmedH U.vm) : PreW κ.2.2.2 σ U := by
  obtain ⟨hx, hbb, hr, hml, hown, hts, hX, hbl, hlk, hK, hj, hsT, hA, hL⟩ := hc
  exact ⟨by rw [hU]; exact hP, va_K.moved hW.alike hK, hj, by rw [hU]; exact sTt.moved hW.alike (hsT.kept (fun a h1 h2 => hS.2.1 a h1 (Nat.not_le.mpr h1)))⟩
theorem aaL (hc : Lx κ) (q : Nat) (h : AA κ.2.2.2 q) : AL κ q := by
  obtain ⟨i, hi, rfl⟩ := h
  exact hc.2.2.2.2.2.2.2.2.2.2.2.2.1 i hi
theorem q_cI {k : Int32 → St → Prop} {T : u_T} {K N o : Nat} (As : List Value) (hc : Lx κ) (hd : decode code pc = .ok (.invokevirtual index, 3)) (hw : CWV RL index C y bytes maxL ret' n) (hM : CI κ.1.2.1 y bytes maxL d' ret' av σ k) (hcl : vwCl[K]? = some (C, T, N)) (hK : K < 8) (ho : kd o = K) (hav : av κ.2.2.2.1 = aL κ o :: As) (hn : As.length = n) (hstk : stk = As.reverse ++ aL κ o :: st) (hst : (st.map fun v => v.category).sum ≤ 8) (hdd : d' ≤ 100) (hm : maxL ≤ 40) (kk : (∀ (r : Int32) (σ2 : St), k r σ2 → Wl κ (pc + 3) lv (.int r :: st) σ2)) : Wl κ pc lv stk σ := by
  intro H locs ls hP hS hl
  have hc' := hc
  obtain ⟨hx, hbb, hr, hml, hown, hts, hX, hbl, hlk, hKK, hj, hsT, hA, hL⟩ := hc'
  have hMg := hM κ.2.2.2
  rw [hav] at hMg
  exact va_calli (va_runV (As := As) (rest := st) (C := C) ⟨hx, hbb, hml, hown, hts⟩ hMg ⟨callB_of n hts (goodTB hw.1.2.2.2.2) rfl rfl rfl (hts _ hw.1.2.2.2.1) (hts _ hw.1.1) hw.2 ⟨by show d' + 1 ≤ 2048; omega, by show 8 + (maxL + 11) + 60 * d' ≤ 84000; omega⟩, hts _ hw.1.2.1, hts _ hw.1.2.2.1⟩ ⟨PreW_blind _ _ _, va_recv hKK hP hcl (wd_obj κ.2.2.2 σ ho hK), fun U hU hW => ⟨rfl, preL hc hP hS hU hW⟩⟩ rfl hn hl.1 hstk (lv_room hst) hd ⟨by decide, by decide⟩) hS (fun q _ h => aaL hc q h) (fun q h => aaL hc q h) (fun r σ2 t H1 locs1 ht hvm hp hB hz hk hS1 => kk r σ2 hp H1 locs1 ls (by rw [← ht]; exact hB) hS1 hl)
theorem q_cL {k : Int64 → St → Prop} {T : u_T} {K N o : Nat} (As : List Value) (hc : Lx κ) (hd : decode code pc = .ok (.invokevirtual index, 3)) (hw : CWV RL index C y bytes maxL ret' n) (hM : CL κ.1.2.1 y bytes maxL d' ret' av σ k) (hcl : vwCl[K]? = some (C, T, N)) (hK : K < 8) (ho : kd o = K) (hav : av κ.2.2.2.1 = aL κ o :: As) (hn : As.length = n) (hstk : stk = As.reverse ++ aL κ o :: st) (hst : (st.map fun v => v.category).sum ≤ 8) (hdd : d' ≤ 100) (hm : maxL ≤ 40) (kk : (∀ (r : Int64) (σ2 : St), k r σ2 → Wl κ (pc + 3) lv (.long r :: st) σ2)) : Wl κ pc lv stk σ := by
  intro H locs ls hP hS hl
  have hc' := hc
  obtain ⟨hx, hbb, hr, hml, hown, hts, hX, hbl, hlk, hKK, hj, hsT, hA, hL⟩ := hc'
  have hMg := hM κ.2.2.2
  rw [hav] at hMg
  exact va_calll (va_runV (As := As) (rest := st) (C := C) ⟨hx, hbb, hml, hown, hts⟩ hMg ⟨callB_of n hts (goodTB hw.1.2.2.2.2) rfl rfl rfl (hts _ hw.1.2.2.2.1) (hts _ hw.1.1) hw.2 ⟨by show d' + 1 ≤ 2048; omega, by show 8 + (maxL + 11) + 60 * d' ≤ 84000; omega⟩, hts _ hw.1.2.1, hts _ hw.1.2.2.1⟩ ⟨PreW_blind _ _ _, va_recv hKK hP hcl (wd_obj κ.2.2.2 σ ho hK), fun U hU hW => ⟨rfl, preL hc hP hS hU hW⟩⟩ rfl hn hl.1 hstk (lv_room hst) hd ⟨by decide, by decide⟩) hS (fun q _ h => aaL hc q h) (fun q h => aaL hc q h) (fun r σ2 t H1 locs1 ht hvm hp hB hz hk hS1 => kk r σ2 hp H1 locs1 ls (by rw [← ht]; exact hB) hS1 hl)
end QROWS
theorem cL_102 : CWV RL 102 RX7 yX7_who cX7_who 10 (some .int) 4 := ⟨⟨TB_t 983 (by decide +kernel), TB_t 984 (by decide +kernel), TB_t 985 (by decide +kernel), TB_t 8 (by decide +kernel), TB_t 986 (by decide +kernel)⟩, by decide +kernel⟩
theorem cL_103 : CWV RL 103 RX6 yX6_sleeps cX6_sleeps 6 (some .long) 3 := ⟨⟨TB_t 578 (by decide +kernel), TB_t 579 (by decide +kernel), TB_t 580 (by decide +kernel), TB_t 1 (by decide +kernel), TB_t 581 (by decide +kernel)⟩, by decide +kernel⟩
theorem cL_107 : CWV RL 107 RX7 yX7_sleeps cX7_sleeps 14 (some .long) 3 := ⟨⟨TB_t 987 (by decide +kernel), TB_t 988 (by decide +kernel), TB_t 989 (by decide +kernel), TB_t 8 (by decide +kernel), TB_t 990 (by decide +kernel)⟩, by decide +kernel⟩
theorem cL_108 : CWV RL 108 RX6 yX6_reaches cX6_reaches 4 (some .int) 2 := ⟨⟨TB_t 592 (by decide +kernel), TB_t 593 (by decide +kernel), TB_t 594 (by decide +kernel), TB_t 1 (by decide +kernel), TB_t 595 (by decide +kernel)⟩, by decide +kernel⟩
theorem cL_111 : CWV RL 111 RX7 yX7_reaches cX7_reaches 5 (some .int) 2 := ⟨⟨TB_t 993 (by decide +kernel), TB_t 994 (by decide +kernel), TB_t 995 (by decide +kernel), TB_t 8 (by decide +kernel), TB_t 996 (by decide +kernel)⟩, by decide +kernel⟩
theorem cL_112 : CWV RL 112 RX6 yX6_rather cX6_rather 7 (some .int) 3 := ⟨⟨TB_t 600 (by decide +kernel), TB_t 601 (by decide +kernel), TB_t 602 (by decide +kernel), TB_t 1 (by decide +kernel), TB_t 603 (by decide +kernel)⟩, by decide +kernel⟩
theorem cL_115 : CWV RL 115 RX7 yX7_rather cX7_rather 11 (some .int) 3 := ⟨⟨TB_t 997 (by decide +kernel), TB_t 998 (by decide +kernel), TB_t 999 (by decide +kernel), TB_t 8 (by decide +kernel), TB_t 1000 (by decide +kernel)⟩, by decide +kernel⟩
theorem cL_116 : CWV RL 116 RX6 yX6_drawn cX6_drawn 8 (some .int) 3 := ⟨⟨TB_t 613 (by decide +kernel), TB_t 614 (by decide +kernel), TB_t 615 (by decide +kernel), TB_t 1 (by decide +kernel), TB_t 616 (by decide +kernel)⟩, by decide +kernel⟩
theorem cL_119 : CWV RL 119 RX7 yX7_drawn cX7_drawn 11 (some .int) 3 := ⟨⟨TB_t 1001 (by decide +kernel), TB_t 1002 (by decide +kernel), TB_t 1003 (by decide +kernel), TB_t 8 (by decide +kernel), TB_t 1004 (by decide +kernel)⟩, by decide +kernel⟩
theorem cL_120 : CWV RL 120 RX6 yX6_image cX6_image 2 (some .int) 1 := ⟨⟨TB_t 631 (by decide +kernel), TB_t 632 (by decide +kernel), TB_t 633 (by decide +kernel), TB_t 1 (by decide +kernel), TB_t 634 (by decide +kernel)⟩, by decide +kernel⟩
theorem cL_123 : CWV RL 123 RX7 yX7_image cX7_image 2 (some .int) 1 := ⟨⟨TB_t 1011 (by decide +kernel), TB_t 1012 (by decide +kernel), TB_t 1013 (by decide +kernel), TB_t 8 (by decide +kernel), TB_t 1014 (by decide +kernel)⟩, by decide +kernel⟩
theorem cL_124 : CWV RL 124 RX6 yX6_restore cX6_restore 2 (some .int) 1 := ⟨⟨TB_t 635 (by decide +kernel), TB_t 636 (by decide +kernel), TB_t 637 (by decide +kernel), TB_t 1 (by decide +kernel), TB_t 638 (by decide +kernel)⟩, by decide +kernel⟩
theorem cL_127 : CWV RL 127 RX7 yX7_restore cX7_restore 2 (some .int) 1 := ⟨⟨TB_t 1015 (by decide +kernel), TB_t 1016 (by decide +kernel), TB_t 1017 (by decide +kernel), TB_t 8 (by decide +kernel), TB_t 1018 (by decide +kernel)⟩, by decide +kernel⟩
theorem cL_128 : CWV RL 128 RX6 yX6_kind cX6_kind 2 (some .int) 1 := ⟨⟨TB_t 639 (by decide +kernel), TB_t 640 (by decide +kernel), TB_t 641 (by decide +kernel), TB_t 1 (by decide +kernel), TB_t 642 (by decide +kernel)⟩, by decide +kernel⟩
theorem cL_13 : CWV RL 13 RX6 yX6_row cX6_row 4 (some .int) 3 := ⟨⟨TB_t 229 (by decide +kernel), TB_t 230 (by decide +kernel), TB_t 231 (by decide +kernel), TB_t 1 (by decide +kernel), TB_t 232 (by decide +kernel)⟩, by decide +kernel⟩
theorem cL_131 : CWV RL 131 RX7 yX7_kind cX7_kind 2 (some .int) 1 := ⟨⟨TB_t 1019 (by decide +kernel), TB_t 1020 (by decide +kernel), TB_t 1021 (by decide +kernel), TB_t 8 (by decide +kernel), TB_t 1022 (by decide +kernel)⟩, by decide +kernel⟩
theorem cL_132 : CWV RL 132 RX6 yX6_as cX6_as 3 (some .int) 2 := ⟨⟨TB_t 643 (by decide +kernel), TB_t 644 (by decide +kernel), TB_t 645 (by decide +kernel), TB_t 1 (by decide +kernel), TB_t 646 (by decide +kernel)⟩, by decide +kernel⟩
theorem cL_135 : CWV RL 135 RX7 yX7_as cX7_as 5 (some .int) 2 := ⟨⟨TB_t 1027 (by decide +kernel), TB_t 1028 (by decide +kernel), TB_t 1029 (by decide +kernel), TB_t 8 (by decide +kernel), TB_t 1030 (by decide +kernel)⟩, by decide +kernel⟩
theorem cL_136 : CWV RL 136 RX6 yX6_ask cX6_ask 3 (some .int) 2 := ⟨⟨TB_t 650 (by decide +kernel), TB_t 651 (by decide +kernel), TB_t 652 (by decide +kernel), TB_t 1 (by decide +kernel), TB_t 653 (by decide +kernel)⟩, by decide +kernel⟩
theorem cL_139 : CWV RL 139 RX7 yX7_ask cX7_ask 3 (some .int) 2 := ⟨⟨TB_t 1034 (by decide +kernel), TB_t 1035 (by decide +kernel), TB_t 1036 (by decide +kernel), TB_t 8 (by decide +kernel), TB_t 1037 (by decide +kernel)⟩, by decide +kernel⟩
theorem cL_140 : CWV RL 140 RX6 yX6_trace cX6_trace 2 (some .int) 1 := ⟨⟨TB_t 670 (by decide +kernel), TB_t 671 (by decide +kernel), TB_t 672 (by decide +kernel), TB_t 1 (by decide +kernel), TB_t 673 (by decide +kernel)⟩, by decide +kernel⟩
theorem cL_143 : CWV RL 143 RX7 yX7_trace cX7_trace 2 (some .int) 1 := ⟨⟨TB_t 1062 (by decide +kernel), TB_t 1063 (by decide +kernel), TB_t 1064 (by decide +kernel), TB_t 8 (by decide +kernel), TB_t 1065 (by decide +kernel)⟩, by decide +kernel⟩
theorem cL_144 : CWV RL 144 RX6 yX6_count cX6_count 2 (some .int) 1 := ⟨⟨TB_t 674 (by decide +kernel), TB_t 675 (by decide +kernel), TB_t 676 (by decide +kernel), TB_t 1 (by decide +kernel), TB_t 677 (by decide +kernel)⟩, by decide +kernel⟩
theorem cL_147 : CWV RL 147 RX7 yX7_count cX7_count 5 (some .int) 1 := ⟨⟨TB_t 1066 (by decide +kernel), TB_t 1067 (by decide +kernel), TB_t 1068 (by decide +kernel), TB_t 8 (by decide +kernel), TB_t 1069 (by decide +kernel)⟩, by decide +kernel⟩
theorem cL_148 : CWV RL 148 RX6 yX6_status cX6_status 1 (some .int) 0 := ⟨⟨TB_t 686 (by decide +kernel), TB_t 687 (by decide +kernel), TB_t 688 (by decide +kernel), TB_t 1 (by decide +kernel), TB_t 689 (by decide +kernel)⟩, by decide +kernel⟩
theorem cL_151 : CWV RL 151 RX7 yX7_status cX7_status 1 (some .int) 0 := ⟨⟨TB_t 1070 (by decide +kernel), TB_t 1071 (by decide +kernel), TB_t 1072 (by decide +kernel), TB_t 8 (by decide +kernel), TB_t 1073 (by decide +kernel)⟩, by decide +kernel⟩
theorem cL_17 : CWV RL 17 RX7 yX7_row cX7_row 5 (some .int) 3 := ⟨⟨TB_t 767 (by decide +kernel), TB_t 768 (by decide +kernel), TB_t 769 (by decide +kernel), TB_t 8 (by decide +kernel), TB_t 770 (by decide +kernel)⟩, by decide +kernel⟩
theorem cL_18 : CWV RL 18 RX6 yX6_set cX6_set 6 (some .int) 3 := ⟨⟨TB_t 250 (by decide +kernel), TB_t 251 (by decide +kernel), TB_t 252 (by decide +kernel), TB_t 1 (by decide +kernel), TB_t 253 (by decide +kernel)⟩, by decide +kernel⟩
theorem cL_21 : CWV RL 21 RX7 yX7_set cX7_set 4 (some .int) 3 := ⟨⟨TB_t 787 (by decide +kernel), TB_t 788 (by decide +kernel), TB_t 789 (by decide +kernel), TB_t 8 (by decide +kernel), TB_t 790 (by decide +kernel)⟩, by decide +kernel⟩
theorem cL_22 : CWV RL 22 RX6 yX6_copy cX6_copy 8 (some .int) 5 := ⟨⟨TB_t 269 (by decide +kernel), TB_t 270 (by decide +kernel), TB_t 271 (by decide +kernel), TB_t 1 (by decide +kernel), TB_t 272 (by decide +kernel)⟩, by decide +kernel⟩
theorem cL_26 : CWV RL 26 RX7 yX7_copy cX7_copy 9 (some .int) 5 := ⟨⟨TB_t 791 (by decide +kernel), TB_t 792 (by decide +kernel), TB_t 793 (by decide +kernel), TB_t 8 (by decide +kernel), TB_t 794 (by decide +kernel)⟩, by decide +kernel⟩
theorem cL_27 : CWV RL 27 RX6 yX6_drop cX6_drop 4 (some .int) 1 := ⟨⟨TB_t 276 (by decide +kernel), TB_t 277 (by decide +kernel), TB_t 278 (by decide +kernel), TB_t 1 (by decide +kernel), TB_t 279 (by decide +kernel)⟩, by decide +kernel⟩
theorem cL_31 : CWV RL 31 RX7 yX7_drop cX7_drop 2 (some .int) 1 := ⟨⟨TB_t 798 (by decide +kernel), TB_t 799 (by decide +kernel), TB_t 800 (by decide +kernel), TB_t 8 (by decide +kernel), TB_t 801 (by decide +kernel)⟩, by decide +kernel⟩
theorem cL_32 : CWV RL 32 RX6 yX6_feed cX6_feed 2 (some .int) 1 := ⟨⟨TB_t 280 (by decide +kernel), TB_t 281 (by decide +kernel), TB_t 282 (by decide +kernel), TB_t 1 (by decide +kernel), TB_t 283 (by decide +kernel)⟩, by decide +kernel⟩
theorem cL_35 : CWV RL 35 RX7 yX7_feed cX7_feed 2 (some .int) 1 := ⟨⟨TB_t 802 (by decide +kernel), TB_t 803 (by decide +kernel), TB_t 804 (by decide +kernel), TB_t 8 (by decide +kernel), TB_t 805 (by decide +kernel)⟩, by decide +kernel⟩
theorem cL_36 : CWV RL 36 RX6 yX6_street cX6_street 2 (some .int) 0 := ⟨⟨TB_t 289 (by decide +kernel), TB_t 290 (by decide +kernel), TB_t 291 (by decide +kernel), TB_t 1 (by decide +kernel), TB_t 292 (by decide +kernel)⟩, by decide +kernel⟩
theorem cL_40 : CWV RL 40 RX7 yX7_street cX7_street 2 (some .int) 0 := ⟨⟨TB_t 807 (by decide +kernel), TB_t 808 (by decide +kernel), TB_t 809 (by decide +kernel), TB_t 8 (by decide +kernel), TB_t 810 (by decide +kernel)⟩, by decide +kernel⟩
theorem cL_41 : CWV RL 41 RX6 yX6_fault cX6_fault 1 (some .int) 0 := ⟨⟨TB_t 361 (by decide +kernel), TB_t 362 (by decide +kernel), TB_t 363 (by decide +kernel), TB_t 1 (by decide +kernel), TB_t 364 (by decide +kernel)⟩, by decide +kernel⟩
theorem cL_44 : CWV RL 44 RX7 yX7_fault cX7_fault 1 (some .int) 0 := ⟨⟨TB_t 850 (by decide +kernel), TB_t 851 (by decide +kernel), TB_t 852 (by decide +kernel), TB_t 8 (by decide +kernel), TB_t 853 (by decide +kernel)⟩, by decide +kernel⟩
theorem cL_45 : CWV RL 45 RX6 yX6_undo cX6_undo 1 (some .int) 0 := ⟨⟨TB_t 365 (by decide +kernel), TB_t 366 (by decide +kernel), TB_t 367 (by decide +kernel), TB_t 1 (by decide +kernel), TB_t 368 (by decide +kernel)⟩, by decide +kernel⟩
theorem cL_48 : CWV RL 48 RX7 yX7_undo cX7_undo 1 (some .int) 0 := ⟨⟨TB_t 854 (by decide +kernel), TB_t 855 (by decide +kernel), TB_t 856 (by decide +kernel), TB_t 8 (by decide +kernel), TB_t 857 (by decide +kernel)⟩, by decide +kernel⟩
theorem cL_49 : CWV RL 49 RX6 yX6_stretch cX6_stretch 4 (some .int) 2 := ⟨⟨TB_t 385 (by decide +kernel), TB_t 386 (by decide +kernel), TB_t 387 (by decide +kernel), TB_t 1 (by decide +kernel), TB_t 388 (by decide +kernel)⟩, by decide +kernel⟩
theorem cL_53 : CWV RL 53 RX7 yX7_stretch cX7_stretch 4 (some .int) 2 := ⟨⟨TB_t 859 (by decide +kernel), TB_t 860 (by decide +kernel), TB_t 861 (by decide +kernel), TB_t 8 (by decide +kernel), TB_t 862 (by decide +kernel)⟩, by decide +kernel⟩
theorem cL_54 : CWV RL 54 RX6 yX6_sound cX6_sound 5 (some .int) 3 := ⟨⟨TB_t 404 (by decide +kernel), TB_t 405 (by decide +kernel), TB_t 406 (by decide +kernel), TB_t 1 (by decide +kernel), TB_t 407 (by decide +kernel)⟩, by decide +kernel⟩
theorem cL_57 : CWV RL 57 RX7 yX7_sound cX7_sound 5 (some .int) 3 := ⟨⟨TB_t 875 (by decide +kernel), TB_t 876 (by decide +kernel), TB_t 877 (by decide +kernel), TB_t 8 (by decide +kernel), TB_t 878 (by decide +kernel)⟩, by decide +kernel⟩
theorem cL_58 : CWV RL 58 RX6 yX6_days cX6_days 4 (some .int) 1 := ⟨⟨TB_t 415 (by decide +kernel), TB_t 416 (by decide +kernel), TB_t 417 (by decide +kernel), TB_t 1 (by decide +kernel), TB_t 418 (by decide +kernel)⟩, by decide +kernel⟩
theorem cL_61 : CWV RL 61 RX7 yX7_days cX7_days 4 (some .int) 1 := ⟨⟨TB_t 883 (by decide +kernel), TB_t 884 (by decide +kernel), TB_t 885 (by decide +kernel), TB_t 8 (by decide +kernel), TB_t 886 (by decide +kernel)⟩, by decide +kernel⟩
theorem cL_62 : CWV RL 62 RX6 yX6_door cX6_door 3 (some .int) 2 := ⟨⟨TB_t 455 (by decide +kernel), TB_t 456 (by decide +kernel), TB_t 457 (by decide +kernel), TB_t 1 (by decide +kernel), TB_t 458 (by decide +kernel)⟩, by decide +kernel⟩
theorem cL_65 : CWV RL 65 RX7 yX7_door cX7_door 3 (some .int) 2 := ⟨⟨TB_t 918 (by decide +kernel), TB_t 919 (by decide +kernel), TB_t 920 (by decide +kernel), TB_t 8 (by decide +kernel), TB_t 921 (by decide +kernel)⟩, by decide +kernel⟩
theorem cL_66 : CWV RL 66 RX6 yX6_caller cX6_caller 3 (some .int) 2 := ⟨⟨TB_t 465 (by decide +kernel), TB_t 466 (by decide +kernel), TB_t 467 (by decide +kernel), TB_t 1 (by decide +kernel), TB_t 468 (by decide +kernel)⟩, by decide +kernel⟩
theorem cL_69 : CWV RL 69 RX7 yX7_caller cX7_caller 3 (some .int) 2 := ⟨⟨TB_t 926 (by decide +kernel), TB_t 927 (by decide +kernel), TB_t 928 (by decide +kernel), TB_t 8 (by decide +kernel), TB_t 929 (by decide +kernel)⟩, by decide +kernel⟩
theorem cL_70 : CWV RL 70 RX6 yX6_used cX6_used 2 (some .int) 1 := ⟨⟨TB_t 481 (by decide +kernel), TB_t 482 (by decide +kernel), TB_t 483 (by decide +kernel), TB_t 1 (by decide +kernel), TB_t 484 (by decide +kernel)⟩, by decide +kernel⟩
theorem cL_73 : CWV RL 73 RX7 yX7_used cX7_used 2 (some .int) 1 := ⟨⟨TB_t 934 (by decide +kernel), TB_t 935 (by decide +kernel), TB_t 936 (by decide +kernel), TB_t 8 (by decide +kernel), TB_t 937 (by decide +kernel)⟩, by decide +kernel⟩
theorem cL_74 : CWV RL 74 RX6 yX6_meets cX6_meets 1 (some .int) 0 := ⟨⟨TB_t 485 (by decide +kernel), TB_t 486 (by decide +kernel), TB_t 487 (by decide +kernel), TB_t 1 (by decide +kernel), TB_t 488 (by decide +kernel)⟩, by decide +kernel⟩
theorem cL_77 : CWV RL 77 RX7 yX7_meets cX7_meets 1 (some .int) 0 := ⟨⟨TB_t 938 (by decide +kernel), TB_t 939 (by decide +kernel), TB_t 940 (by decide +kernel), TB_t 8 (by decide +kernel), TB_t 941 (by decide +kernel)⟩, by decide +kernel⟩
theorem cL_78 : CWV RL 78 RX6 yX6_nothing cX6_nothing 1 (some .int) 0 := ⟨⟨TB_t 490 (by decide +kernel), TB_t 491 (by decide +kernel), TB_t 492 (by decide +kernel), TB_t 1 (by decide +kernel), TB_t 493 (by decide +kernel)⟩, by decide +kernel⟩
theorem cL_81 : CWV RL 81 RX7 yX7_nothing cX7_nothing 4 (some .int) 0 := ⟨⟨TB_t 942 (by decide +kernel), TB_t 943 (by decide +kernel), TB_t 944 (by decide +kernel), TB_t 8 (by decide +kernel), TB_t 945 (by decide +kernel)⟩, by decide +kernel⟩
theorem cL_82 : CWV RL 82 RX6 yX6_ahead cX6_ahead 6 (some .int) 3 := ⟨⟨TB_t 500 (by decide +kernel), TB_t 501 (by decide +kernel), TB_t 502 (by decide +kernel), TB_t 1 (by decide +kernel), TB_t 503 (by decide +kernel)⟩, by decide +kernel⟩
theorem cL_85 : CWV RL 85 RX7 yX7_ahead cX7_ahead 5 (some .int) 3 := ⟨⟨TB_t 947 (by decide +kernel), TB_t 948 (by decide +kernel), TB_t 949 (by decide +kernel), TB_t 8 (by decide +kernel), TB_t 950 (by decide +kernel)⟩, by decide +kernel⟩
theorem cL_86 : CWV RL 86 RX6 yX6_soon cX6_soon 2 (some .int) 1 := ⟨⟨TB_t 511 (by decide +kernel), TB_t 512 (by decide +kernel), TB_t 513 (by decide +kernel), TB_t 1 (by decide +kernel), TB_t 514 (by decide +kernel)⟩, by decide +kernel⟩
theorem cL_89 : CWV RL 89 RX7 yX7_soon cX7_soon 3 (some .int) 1 := ⟨⟨TB_t 951 (by decide +kernel), TB_t 952 (by decide +kernel), TB_t 953 (by decide +kernel), TB_t 8 (by decide +kernel), TB_t 954 (by decide +kernel)⟩, by decide +kernel⟩
theorem cL_90 : CWV RL 90 RX6 yX6_least cX6_least 4 (some .int) 3 := ⟨⟨TB_t 515 (by decide +kernel), TB_t 516 (by decide +kernel), TB_t 517 (by decide +kernel), TB_t 1 (by decide +kernel), TB_t 518 (by decide +kernel)⟩, by decide +kernel⟩
theorem cL_93 : CWV RL 93 RX7 yX7_least cX7_least 5 (some .int) 3 := ⟨⟨TB_t 955 (by decide +kernel), TB_t 956 (by decide +kernel), TB_t 957 (by decide +kernel), TB_t 8 (by decide +kernel), TB_t 958 (by decide +kernel)⟩, by decide +kernel⟩
theorem cL_94 : CWV RL 94 RX6 yX6_whichDoor cX6_whichDoor 3 (some .int) 2 := ⟨⟨TB_t 560 (by decide +kernel), TB_t 561 (by decide +kernel), TB_t 562 (by decide +kernel), TB_t 1 (by decide +kernel), TB_t 563 (by decide +kernel)⟩, by decide +kernel⟩
theorem cL_97 : CWV RL 97 RX7 yX7_whichDoor cX7_whichDoor 6 (some .int) 2 := ⟨⟨TB_t 979 (by decide +kernel), TB_t 980 (by decide +kernel), TB_t 981 (by decide +kernel), TB_t 8 (by decide +kernel), TB_t 982 (by decide +kernel)⟩, by decide +kernel⟩
theorem cL_98 : CWV RL 98 RX6 yX6_who cX6_who 9 (some .int) 4 := ⟨⟨TB_t 569 (by decide +kernel), TB_t 570 (by decide +kernel), TB_t 571 (by decide +kernel), TB_t 1 (by decide +kernel), TB_t 572 (by decide +kernel)⟩, by decide +kernel⟩
/-- what is left to show, call by call: answers are alike, and Rel is kept -/
def Sp0 (Rel : St → Prop) : Prop := ∀ (a b c : Int32) (σ : St), Rel σ → x6_row a b c σ (fun r σ1 => x7_row a b c σ1 (fun r2 σ2 => r = r2 ∧ Rel σ2))
def Sp1 (Rel : St → Prop) : Prop := ∀ (a b c : Int32) (σ : St), Rel σ → x6_set a b c σ (fun r σ1 => x7_set a b c σ1 (fun r2 σ2 => r = r2 ∧ Rel σ2))
def Sp2 (Rel : St → Prop) : Prop := ∀ (a b c d e : Int32) (σ : St), Rel σ → x6_copy a b c d e σ (fun r σ1 => x7_copy a b c d e σ1 (fun r2 σ2 => r = r2 ∧ Rel σ2))
def Sp3 (Rel : St → Prop) : Prop := ∀ (a : Int32) (σ : St), Rel σ → x6_drop a σ (fun r σ1 => x7_drop a σ1 (fun r2 σ2 => r = r2 ∧ Rel σ2))
def Sp4 (Rel : St → Prop) : Prop := ∀ (a : Int32) (σ : St), Rel σ → x6_feed a σ (fun r σ1 => x7_feed a σ1 (fun r2 σ2 => r = r2 ∧ Rel σ2))
def Sp5 (Rel : St → Prop) : Prop := ∀ (σ : St), Rel σ → x6_street  σ (fun r σ1 => x7_street  σ1 (fun r2 σ2 => r = r2 ∧ Rel σ2))
def Sp6 (Rel : St → Prop) : Prop := ∀ (σ : St), Rel σ → x6_fault  σ (fun r σ1 => x7_fault  σ1 (fun r2 σ2 => r = r2 ∧ Rel σ2))
def Sp7 (Rel : St → Prop) : Prop := ∀ (σ : St), Rel σ → x6_undo  σ (fun r σ1 => x7_undo  σ1 (fun r2 σ2 => r = r2 ∧ Rel σ2))
def Sp8 (Rel : St → Prop) : Prop := ∀ (a b : Int32) (σ : St), Rel σ → x6_stretch a b σ (fun r σ1 => x7_stretch a b σ1 (fun r2 σ2 => r = r2 ∧ Rel σ2))
def Sp9 (Rel : St → Prop) : Prop := ∀ (a b c : Int32) (σ : St), Rel σ → x6_sound a b c σ (fun r σ1 => x7_sound a b c σ1 (fun r2 σ2 => r = r2 ∧ Rel σ2))
def Sp10 (Rel : St → Prop) : Prop := ∀ (a : Int32) (σ : St), Rel σ → x6_days a σ (fun r σ1 => x7_days a σ1 (fun r2 σ2 => r = r2 ∧ Rel σ2))
def Sp11 (Rel : St → Prop) : Prop := ∀ (a b : Int32) (σ : St), Rel σ → x6_door a b σ (fun r σ1 => x7_door a b σ1 (fun r2 σ2 => r = r2 ∧ Rel σ2))
def Sp12 (Rel : St → Prop) : Prop := ∀ (a b : Int32) (σ : St), Rel σ → x6_caller a b σ (fun r σ1 => x7_caller a b σ1 (fun r2 σ2 => r = r2 ∧ Rel σ2))
def Sp13 (Rel : St → Prop) : Prop := ∀ (a : Int32) (σ : St), Rel σ → x6_used a σ (fun r σ1 => x7_used a σ1 (fun r2 σ2 => r = r2 ∧ Rel σ2))
def Sp14 (Rel : St → Prop) : Prop := ∀ (σ : St), Rel σ → x6_meets  σ (fun r σ1 => x7_meets  σ1 (fun r2 σ2 => r = r2 ∧ Rel σ2))
def Sp15 (Rel : St → Prop) : Prop := ∀ (σ : St), Rel σ → x6_nothing  σ (fun r σ1 => x7_nothing  σ1 (fun r2 σ2 => r = r2 ∧ Rel σ2))
def Sp16 (Rel : St → Prop) : Prop := ∀ (a b c : Int32) (σ : St), Rel σ → x6_ahead a b c σ (fun r σ1 => x7_ahead a b c σ1 (fun r2 σ2 => r = r2 ∧ Rel σ2))
def Sp17 (Rel : St → Prop) : Prop := ∀ (a : Int32) (σ : St), Rel σ → x6_soon a σ (fun r σ1 => x7_soon a σ1 (fun r2 σ2 => r = r2 ∧ Rel σ2))
def Sp18 (Rel : St → Prop) : Prop := ∀ (a b c : Int32) (σ : St), Rel σ → x6_least a b c σ (fun r σ1 => x7_least a b c σ1 (fun r2 σ2 => r = r2 ∧ Rel σ2))
def Sp19 (Rel : St → Prop) : Prop := ∀ (a b : Int32) (σ : St), Rel σ → x6_whichDoor a b σ (fun r σ1 => x7_whichDoor a b σ1 (fun r2 σ2 => r = r2 ∧ Rel σ2))
def Sp20 (Rel : St → Prop) : Prop := ∀ (a b c d : Int32) (σ : St), Rel σ → x6_who a b c d σ (fun r σ1 => x7_who a b c d σ1 (fun r2 σ2 => r = r2 ∧ Rel σ2))
def Sp21 (Rel : St → Prop) : Prop := ∀ (a b c : Int32) (σ : St), Rel σ → x6_sleeps a b c σ (fun r σ1 => x7_sleeps a b c σ1 (fun r2 σ2 => r = r2 ∧ Rel σ2))
def Sp22 (Rel : St → Prop) : Prop := ∀ (a b : Int32) (σ : St), Rel σ → x6_reaches a b σ (fun r σ1 => x7_reaches a b σ1 (fun r2 σ2 => r = r2 ∧ Rel σ2))
def Sp23 (Rel : St → Prop) : Prop := ∀ (a b c : Int32) (σ : St), Rel σ → x6_rather a b c σ (fun r σ1 => x7_rather a b c σ1 (fun r2 σ2 => r = r2 ∧ Rel σ2))
def Sp24 (Rel : St → Prop) : Prop := ∀ (a b c : Int32) (σ : St), Rel σ → x6_drawn a b c σ (fun r σ1 => x7_drawn a b c σ1 (fun r2 σ2 => r = r2 ∧ Rel σ2))
def Sp25 (Rel : St → Prop) : Prop := ∀ (a : Int32) (σ : St), Rel σ → x6_image a σ (fun r σ1 => x7_image a σ1 (fun r2 σ2 => r = r2 ∧ Rel σ2))
def Sp26 (Rel : St → Prop) : Prop := ∀ (a : Int32) (σ : St), Rel σ → x6_restore a σ (fun r σ1 => x7_restore a σ1 (fun r2 σ2 => r = r2 ∧ Rel σ2))
def Sp27 (Rel : St → Prop) : Prop := ∀ (a : Int32) (σ : St), Rel σ → x6_kind a σ (fun r σ1 => x7_kind a σ1 (fun r2 σ2 => r = r2 ∧ Rel σ2))
def Sp28 (Rel : St → Prop) : Prop := ∀ (a b : Int32) (σ : St), Rel σ → x6_as a b σ (fun r σ1 => x7_as a b σ1 (fun r2 σ2 => r = r2 ∧ Rel σ2))
def Sp29 (Rel : St → Prop) : Prop := ∀ (a b : Int32) (σ : St), Rel σ → x6_ask a b σ (fun r σ1 => x7_ask a b σ1 (fun r2 σ2 => r = r2 ∧ Rel σ2))
def Sp30 (Rel : St → Prop) : Prop := ∀ (a : Int32) (σ : St), Rel σ → x6_trace a σ (fun r σ1 => x7_trace a σ1 (fun r2 σ2 => r = r2 ∧ Rel σ2))
def Sp31 (Rel : St → Prop) : Prop := ∀ (a : Int32) (σ : St), Rel σ → x6_count a σ (fun r σ1 => x7_count a σ1 (fun r2 σ2 => r = r2 ∧ Rel σ2))
def Sp32 (Rel : St → Prop) : Prop := ∀ (σ : St), Rel σ → x6_status  σ (fun r σ1 => x7_status  σ1 (fun r2 σ2 => r = r2 ∧ Rel σ2))
def SpAll (Rel : St → Prop) : Prop := Sp0 Rel ∧ Sp1 Rel ∧ Sp2 Rel ∧ Sp3 Rel ∧ Sp4 Rel ∧ Sp5 Rel ∧ Sp6 Rel ∧ Sp7 Rel ∧ Sp8 Rel ∧ Sp9 Rel ∧ Sp10 Rel ∧ Sp11 Rel ∧ Sp12 Rel ∧ Sp13 Rel ∧ Sp14 Rel ∧ Sp15 Rel ∧ Sp16 Rel ∧ Sp17 Rel ∧ Sp18 Rel ∧ Sp19 Rel ∧ Sp20 Rel ∧ Sp21 Rel ∧ Sp22 Rel ∧ Sp23 Rel ∧ Sp24 Rel ∧ Sp25 Rel ∧ Sp26 Rel ∧ Sp27 Rel ∧ Sp28 Rel ∧ Sp29 Rel ∧ Sp30 Rel ∧ Sp31 Rel ∧ Sp32 Rel
theorem ixL {L i : Nat} (hL : L ≤ 3072) (h : i + 6 ≤ L) (j : Nat) (hj : j < 6) : vp_in (nI i + nI j) L ∧ vp_in (nI i) L := by
  rw [nI_add]
  exact ⟨vp_in_nI (by omega) (by omega), vp_in_nI (by omega) (by omega)⟩
theorem lcmp_self (x : Int64) : lg_cmp x x = 0 := by
  unfold lg_cmp
  rw [if_neg (by simp), if_pos rfl]
set_option maxRecDepth 100000 in
set_option maxHeartbeats 4000000 in
theorem lw_case0 {Rel : St → Prop} (hS : Sp0 Rel) {κ : KL} (hc : Lx κ) {σ : St} (hR : Rel σ) {i : Nat} (hi : i + 6 ≤ κ.2.2.1.2.1) (kn : ∀ σ2, Rel σ2 → Wl κ 1180 [(0, .ref κ.2.2.1.1), (1, aL κ 0), (2, aL κ 65), (3, .int (nI i))] [] σ2) : Wl κ 180 [(0, .ref κ.2.2.1.1), (1, aL κ 0), (2, aL κ 65), (3, .int (nI i))] [] σ := by
  have hL := hc.2.2.2.2.2.2.2.2.2.2.2.2.2
  refine q_aload_n 1 hc dL_law_180 rfl ?_
  refine q_aload_n 0 hc dL_law_181 rfl ?_
  refine q_iload_n 3 hc dL_law_182 rfl ?_
  refine q_iconst (v := nI 1) hc dL_law_183 (by decide) ?_
  refine q_iadd hc dL_law_184 ?_
  refine q_sld hc dL_law_185 (ixL hL hi 1 (by decide)).1 ?_
  refine q_aload_n 0 hc dL_law_186 rfl ?_
  refine q_iload_n 3 hc dL_law_187 rfl ?_
  refine q_iconst (v := nI 2) hc dL_law_188 (by decide) ?_
  refine q_iadd hc dL_law_189 ?_
  refine q_sld hc dL_law_190 (ixL hL hi 2 (by decide)).1 ?_
  refine q_aload_n 0 hc dL_law_191 rfl ?_
  refine q_iload_n 3 hc dL_law_192 rfl ?_
  refine q_iconst (v := nI 3) hc dL_law_193 (by decide) ?_
  refine q_iadd hc dL_law_194 ?_
  refine q_sld hc dL_law_195 (ixL hL hi 3 (by decide)).1 ?_
  have h := hS (κ.2.2.1.2.2 (nI i + nI 1).toNatClampNeg) (κ.2.2.1.2.2 (nI i + nI 2).toNatClampNeg) (κ.2.2.1.2.2 (nI i + nI 3).toNatClampNeg) σ hR
  refine q_cI [.int (κ.2.2.1.2.2 (nI i + nI 1).toNatClampNeg), .int (κ.2.2.1.2.2 (nI i + nI 2).toNatClampNeg), .int (κ.2.2.1.2.2 (nI i + nI 3).toNatClampNeg)] hc dL_law_196 cL_13 (t6_row h) rfl (by decide) rfl rfl rfl rfl (Nat.le_of_ble_eq_true rfl) (by decide) (by decide) (fun r1 σ1 h => ?_)
  refine q_aload_n 2 hc dL_law_199 rfl ?_
  refine q_aload_n 0 hc dL_law_200 rfl ?_
  refine q_iload_n 3 hc dL_law_201 rfl ?_
  refine q_iconst (v := nI 1) hc dL_law_202 (by decide) ?_
  refine q_iadd hc dL_law_203 ?_
  refine q_sld hc dL_law_204 (ixL hL hi 1 (by decide)).1 ?_
  refine q_aload_n 0 hc dL_law_205 rfl ?_
  refine q_iload_n 3 hc dL_law_206 rfl ?_
  refine q_iconst (v := nI 2) hc dL_law_207 (by decide) ?_
  refine q_iadd hc dL_law_208 ?_
  refine q_sld hc dL_law_209 (ixL hL hi 2 (by decide)).1 ?_
  refine q_aload_n 0 hc dL_law_210 rfl ?_
  refine q_iload_n 3 hc dL_law_211 rfl ?_
  refine q_iconst (v := nI 3) hc dL_law_212 (by decide) ?_
  refine q_iadd hc dL_law_213 ?_
  refine q_sld hc dL_law_214 (ixL hL hi 3 (by decide)).1 ?_
  refine q_cI [.int (κ.2.2.1.2.2 (nI i + nI 1).toNatClampNeg), .int (κ.2.2.1.2.2 (nI i + nI 2).toNatClampNeg), .int (κ.2.2.1.2.2 (nI i + nI 3).toNatClampNeg)] hc dL_law_215 cL_17 (t7_row h) rfl (by decide) rfl rfl rfl rfl (Nat.le_of_ble_eq_true rfl) (by decide) (by decide) (fun r2 σ2 h => ?_)
  exact q_eq 1180 hc dL_law_218 (by decide) h.1 (kn σ2 h.2)
set_option maxRecDepth 100000 in
set_option maxHeartbeats 4000000 in
theorem lw_case1 {Rel : St → Prop} (hS : Sp1 Rel) {κ : KL} (hc : Lx κ) {σ : St} (hR : Rel σ) {i : Nat} (hi : i + 6 ≤ κ.2.2.1.2.1) (kn : ∀ σ2, Rel σ2 → Wl κ 1180 [(0, .ref κ.2.2.1.1), (1, aL κ 0), (2, aL κ 65), (3, .int (nI i))] [] σ2) : Wl κ 223 [(0, .ref κ.2.2.1.1), (1, aL κ 0), (2, aL κ 65), (3, .int (nI i))] [] σ := by
  have hL := hc.2.2.2.2.2.2.2.2.2.2.2.2.2
  refine q_aload_n 1 hc dL_law_223 rfl ?_
  refine q_aload_n 0 hc dL_law_224 rfl ?_
  refine q_iload_n 3 hc dL_law_225 rfl ?_
  refine q_iconst (v := nI 1) hc dL_law_226 (by decide) ?_
  refine q_iadd hc dL_law_227 ?_
  refine q_sld hc dL_law_228 (ixL hL hi 1 (by decide)).1 ?_
  refine q_aload_n 0 hc dL_law_229 rfl ?_
  refine q_iload_n 3 hc dL_law_230 rfl ?_
  refine q_iconst (v := nI 2) hc dL_law_231 (by decide) ?_
  refine q_iadd hc dL_law_232 ?_
  refine q_sld hc dL_law_233 (ixL hL hi 2 (by decide)).1 ?_
  refine q_aload_n 0 hc dL_law_234 rfl ?_
  refine q_iload_n 3 hc dL_law_235 rfl ?_
  refine q_iconst (v := nI 3) hc dL_law_236 (by decide) ?_
  refine q_iadd hc dL_law_237 ?_
  refine q_sld hc dL_law_238 (ixL hL hi 3 (by decide)).1 ?_
  have h := hS (κ.2.2.1.2.2 (nI i + nI 1).toNatClampNeg) (κ.2.2.1.2.2 (nI i + nI 2).toNatClampNeg) (κ.2.2.1.2.2 (nI i + nI 3).toNatClampNeg) σ hR
  refine q_cI [.int (κ.2.2.1.2.2 (nI i + nI 1).toNatClampNeg), .int (κ.2.2.1.2.2 (nI i + nI 2).toNatClampNeg), .int (κ.2.2.1.2.2 (nI i + nI 3).toNatClampNeg)] hc dL_law_239 cL_18 (t6_set h) rfl (by decide) rfl rfl rfl rfl (Nat.le_of_ble_eq_true rfl) (by decide) (by decide) (fun r1 σ1 h => ?_)
  refine q_aload_n 2 hc dL_law_242 rfl ?_
  refine q_aload_n 0 hc dL_law_243 rfl ?_
  refine q_iload_n 3 hc dL_law_244 rfl ?_
  refine q_iconst (v := nI 1) hc dL_law_245 (by decide) ?_
  refine q_iadd hc dL_law_246 ?_
  refine q_sld hc dL_law_247 (ixL hL hi 1 (by decide)).1 ?_
  refine q_aload_n 0 hc dL_law_248 rfl ?_
  refine q_iload_n 3 hc dL_law_249 rfl ?_
  refine q_iconst (v := nI 2) hc dL_law_250 (by decide) ?_
  refine q_iadd hc dL_law_251 ?_
  refine q_sld hc dL_law_252 (ixL hL hi 2 (by decide)).1 ?_
  refine q_aload_n 0 hc dL_law_253 rfl ?_
  refine q_iload_n 3 hc dL_law_254 rfl ?_
  refine q_iconst (v := nI 3) hc dL_law_255 (by decide) ?_
  refine q_iadd hc dL_law_256 ?_
  refine q_sld hc dL_law_257 (ixL hL hi 3 (by decide)).1 ?_
  refine q_cI [.int (κ.2.2.1.2.2 (nI i + nI 1).toNatClampNeg), .int (κ.2.2.1.2.2 (nI i + nI 2).toNatClampNeg), .int (κ.2.2.1.2.2 (nI i + nI 3).toNatClampNeg)] hc dL_law_258 cL_21 (t7_set h) rfl (by decide) rfl rfl rfl rfl (Nat.le_of_ble_eq_true rfl) (by decide) (by decide) (fun r2 σ2 h => ?_)
  exact q_eq 1180 hc dL_law_261 (by decide) h.1 (kn σ2 h.2)
set_option maxRecDepth 100000 in
set_option maxHeartbeats 4000000 in
theorem lw_case2 {Rel : St → Prop} (hS : Sp2 Rel) {κ : KL} (hc : Lx κ) {σ : St} (hR : Rel σ) {i : Nat} (hi : i + 6 ≤ κ.2.2.1.2.1) (kn : ∀ σ2, Rel σ2 → Wl κ 1180 [(0, .ref κ.2.2.1.1), (1, aL κ 0), (2, aL κ 65), (3, .int (nI i))] [] σ2) : Wl κ 266 [(0, .ref κ.2.2.1.1), (1, aL κ 0), (2, aL κ 65), (3, .int (nI i))] [] σ := by
  have hL := hc.2.2.2.2.2.2.2.2.2.2.2.2.2
  refine q_aload_n 1 hc dL_law_266 rfl ?_
  refine q_aload_n 0 hc dL_law_267 rfl ?_
  refine q_iload_n 3 hc dL_law_268 rfl ?_
  refine q_iconst (v := nI 1) hc dL_law_269 (by decide) ?_
  refine q_iadd hc dL_law_270 ?_
  refine q_sld hc dL_law_271 (ixL hL hi 1 (by decide)).1 ?_
  refine q_aload_n 0 hc dL_law_272 rfl ?_
  refine q_iload_n 3 hc dL_law_273 rfl ?_
  refine q_iconst (v := nI 2) hc dL_law_274 (by decide) ?_
  refine q_iadd hc dL_law_275 ?_
  refine q_sld hc dL_law_276 (ixL hL hi 2 (by decide)).1 ?_
  refine q_aload_n 0 hc dL_law_277 rfl ?_
  refine q_iload_n 3 hc dL_law_278 rfl ?_
  refine q_iconst (v := nI 3) hc dL_law_279 (by decide) ?_
  refine q_iadd hc dL_law_280 ?_
  refine q_sld hc dL_law_281 (ixL hL hi 3 (by decide)).1 ?_
  refine q_aload_n 0 hc dL_law_282 rfl ?_
  refine q_iload_n 3 hc dL_law_283 rfl ?_
  refine q_iconst (v := nI 4) hc dL_law_284 (by decide) ?_
  refine q_iadd hc dL_law_285 ?_
  refine q_sld hc dL_law_286 (ixL hL hi 4 (by decide)).1 ?_
  refine q_aload_n 0 hc dL_law_287 rfl ?_
  refine q_iload_n 3 hc dL_law_288 rfl ?_
  refine q_iconst (v := nI 5) hc dL_law_289 (by decide) ?_
  refine q_iadd hc dL_law_290 ?_
  refine q_sld hc dL_law_291 (ixL hL hi 5 (by decide)).1 ?_
  have h := hS (κ.2.2.1.2.2 (nI i + nI 1).toNatClampNeg) (κ.2.2.1.2.2 (nI i + nI 2).toNatClampNeg) (κ.2.2.1.2.2 (nI i + nI 3).toNatClampNeg) (κ.2.2.1.2.2 (nI i + nI 4).toNatClampNeg) (κ.2.2.1.2.2 (nI i + nI 5).toNatClampNeg) σ hR
  refine q_cI [.int (κ.2.2.1.2.2 (nI i + nI 1).toNatClampNeg), .int (κ.2.2.1.2.2 (nI i + nI 2).toNatClampNeg), .int (κ.2.2.1.2.2 (nI i + nI 3).toNatClampNeg), .int (κ.2.2.1.2.2 (nI i + nI 4).toNatClampNeg), .int (κ.2.2.1.2.2 (nI i + nI 5).toNatClampNeg)] hc dL_law_292 cL_22 (t6_copy h) rfl (by decide) rfl rfl rfl rfl (Nat.le_of_ble_eq_true rfl) (by decide) (by decide) (fun r1 σ1 h => ?_)
  refine q_aload_n 2 hc dL_law_295 rfl ?_
  refine q_aload_n 0 hc dL_law_296 rfl ?_
  refine q_iload_n 3 hc dL_law_297 rfl ?_
  refine q_iconst (v := nI 1) hc dL_law_298 (by decide) ?_
  refine q_iadd hc dL_law_299 ?_
  refine q_sld hc dL_law_300 (ixL hL hi 1 (by decide)).1 ?_
  refine q_aload_n 0 hc dL_law_301 rfl ?_
  refine q_iload_n 3 hc dL_law_302 rfl ?_
  refine q_iconst (v := nI 2) hc dL_law_303 (by decide) ?_
  refine q_iadd hc dL_law_304 ?_
  refine q_sld hc dL_law_305 (ixL hL hi 2 (by decide)).1 ?_
  refine q_aload_n 0 hc dL_law_306 rfl ?_
  refine q_iload_n 3 hc dL_law_307 rfl ?_
  refine q_iconst (v := nI 3) hc dL_law_308 (by decide) ?_
  refine q_iadd hc dL_law_309 ?_
  refine q_sld hc dL_law_310 (ixL hL hi 3 (by decide)).1 ?_
  refine q_aload_n 0 hc dL_law_311 rfl ?_
  refine q_iload_n 3 hc dL_law_312 rfl ?_
  refine q_iconst (v := nI 4) hc dL_law_313 (by decide) ?_
  refine q_iadd hc dL_law_314 ?_
  refine q_sld hc dL_law_315 (ixL hL hi 4 (by decide)).1 ?_
  refine q_aload_n 0 hc dL_law_316 rfl ?_
  refine q_iload_n 3 hc dL_law_317 rfl ?_
  refine q_iconst (v := nI 5) hc dL_law_318 (by decide) ?_
  refine q_iadd hc dL_law_319 ?_
  refine q_sld hc dL_law_320 (ixL hL hi 5 (by decide)).1 ?_
  refine q_cI [.int (κ.2.2.1.2.2 (nI i + nI 1).toNatClampNeg), .int (κ.2.2.1.2.2 (nI i + nI 2).toNatClampNeg), .int (κ.2.2.1.2.2 (nI i + nI 3).toNatClampNeg), .int (κ.2.2.1.2.2 (nI i + nI 4).toNatClampNeg), .int (κ.2.2.1.2.2 (nI i + nI 5).toNatClampNeg)] hc dL_law_321 cL_26 (t7_copy h) rfl (by decide) rfl rfl rfl rfl (Nat.le_of_ble_eq_true rfl) (by decide) (by decide) (fun r2 σ2 h => ?_)
  exact q_eq 1180 hc dL_law_324 (by decide) h.1 (kn σ2 h.2)
set_option maxRecDepth 100000 in
set_option maxHeartbeats 4000000 in
theorem lw_case3 {Rel : St → Prop} (hS : Sp3 Rel) {κ : KL} (hc : Lx κ) {σ : St} (hR : Rel σ) {i : Nat} (hi : i + 6 ≤ κ.2.2.1.2.1) (kn : ∀ σ2, Rel σ2 → Wl κ 1180 [(0, .ref κ.2.2.1.1), (1, aL κ 0), (2, aL κ 65), (3, .int (nI i))] [] σ2) : Wl κ 329 [(0, .ref κ.2.2.1.1), (1, aL κ 0), (2, aL κ 65), (3, .int (nI i))] [] σ := by
  have hL := hc.2.2.2.2.2.2.2.2.2.2.2.2.2
  refine q_aload_n 1 hc dL_law_329 rfl ?_
  refine q_aload_n 0 hc dL_law_330 rfl ?_
  refine q_iload_n 3 hc dL_law_331 rfl ?_
  refine q_iconst (v := nI 1) hc dL_law_332 (by decide) ?_
  refine q_iadd hc dL_law_333 ?_
  refine q_sld hc dL_law_334 (ixL hL hi 1 (by decide)).1 ?_
  have h := hS (κ.2.2.1.2.2 (nI i + nI 1).toNatClampNeg) σ hR
  refine q_cI [.int (κ.2.2.1.2.2 (nI i + nI 1).toNatClampNeg)] hc dL_law_335 cL_27 (t6_drop h) rfl (by decide) rfl rfl rfl rfl (Nat.le_of_ble_eq_true rfl) (by decide) (by decide) (fun r1 σ1 h => ?_)
  refine q_aload_n 2 hc dL_law_338 rfl ?_
  refine q_aload_n 0 hc dL_law_339 rfl ?_
  refine q_iload_n 3 hc dL_law_340 rfl ?_
  refine q_iconst (v := nI 1) hc dL_law_341 (by decide) ?_
  refine q_iadd hc dL_law_342 ?_
  refine q_sld hc dL_law_343 (ixL hL hi 1 (by decide)).1 ?_
  refine q_cI [.int (κ.2.2.1.2.2 (nI i + nI 1).toNatClampNeg)] hc dL_law_344 cL_31 (t7_drop h) rfl (by decide) rfl rfl rfl rfl (Nat.le_of_ble_eq_true rfl) (by decide) (by decide) (fun r2 σ2 h => ?_)
  exact q_eq 1180 hc dL_law_347 (by decide) h.1 (kn σ2 h.2)
set_option maxRecDepth 100000 in
set_option maxHeartbeats 4000000 in
theorem lw_case4 {Rel : St → Prop} (hS : Sp4 Rel) {κ : KL} (hc : Lx κ) {σ : St} (hR : Rel σ) {i : Nat} (hi : i + 6 ≤ κ.2.2.1.2.1) (kn : ∀ σ2, Rel σ2 → Wl κ 1180 [(0, .ref κ.2.2.1.1), (1, aL κ 0), (2, aL κ 65), (3, .int (nI i))] [] σ2) : Wl κ 352 [(0, .ref κ.2.2.1.1), (1, aL κ 0), (2, aL κ 65), (3, .int (nI i))] [] σ := by
  have hL := hc.2.2.2.2.2.2.2.2.2.2.2.2.2
  refine q_aload_n 1 hc dL_law_352 rfl ?_
  refine q_aload_n 0 hc dL_law_353 rfl ?_
  refine q_iload_n 3 hc dL_law_354 rfl ?_
  refine q_iconst (v := nI 1) hc dL_law_355 (by decide) ?_
  refine q_iadd hc dL_law_356 ?_
  refine q_sld hc dL_law_357 (ixL hL hi 1 (by decide)).1 ?_
  have h := hS (κ.2.2.1.2.2 (nI i + nI 1).toNatClampNeg) σ hR
  refine q_cI [.int (κ.2.2.1.2.2 (nI i + nI 1).toNatClampNeg)] hc dL_law_358 cL_32 (t6_feed h) rfl (by decide) rfl rfl rfl rfl (Nat.le_of_ble_eq_true rfl) (by decide) (by decide) (fun r1 σ1 h => ?_)
  refine q_aload_n 2 hc dL_law_361 rfl ?_
  refine q_aload_n 0 hc dL_law_362 rfl ?_
  refine q_iload_n 3 hc dL_law_363 rfl ?_
  refine q_iconst (v := nI 1) hc dL_law_364 (by decide) ?_
  refine q_iadd hc dL_law_365 ?_
  refine q_sld hc dL_law_366 (ixL hL hi 1 (by decide)).1 ?_
  refine q_cI [.int (κ.2.2.1.2.2 (nI i + nI 1).toNatClampNeg)] hc dL_law_367 cL_35 (t7_feed h) rfl (by decide) rfl rfl rfl rfl (Nat.le_of_ble_eq_true rfl) (by decide) (by decide) (fun r2 σ2 h => ?_)
  exact q_eq 1180 hc dL_law_370 (by decide) h.1 (kn σ2 h.2)
set_option maxRecDepth 100000 in
set_option maxHeartbeats 4000000 in
theorem lw_case5 {Rel : St → Prop} (hS : Sp5 Rel) {κ : KL} (hc : Lx κ) {σ : St} (hR : Rel σ) {i : Nat} (hi : i + 6 ≤ κ.2.2.1.2.1) (kn : ∀ σ2, Rel σ2 → Wl κ 1180 [(0, .ref κ.2.2.1.1), (1, aL κ 0), (2, aL κ 65), (3, .int (nI i))] [] σ2) : Wl κ 375 [(0, .ref κ.2.2.1.1), (1, aL κ 0), (2, aL κ 65), (3, .int (nI i))] [] σ := by
  have hL := hc.2.2.2.2.2.2.2.2.2.2.2.2.2
  refine q_aload_n 1 hc dL_law_375 rfl ?_
  have h := hS  σ hR
  refine q_cI [] hc dL_law_376 cL_36 (t6_street h) rfl (by decide) rfl rfl rfl rfl (Nat.le_of_ble_eq_true rfl) (by decide) (by decide) (fun r1 σ1 h => ?_)
  refine q_aload_n 2 hc dL_law_379 rfl ?_
  refine q_cI [] hc dL_law_380 cL_40 (t7_street h) rfl (by decide) rfl rfl rfl rfl (Nat.le_of_ble_eq_true rfl) (by decide) (by decide) (fun r2 σ2 h => ?_)
  exact q_eq 1180 hc dL_law_383 (by decide) h.1 (kn σ2 h.2)
set_option maxRecDepth 100000 in
set_option maxHeartbeats 4000000 in
theorem lw_case6 {Rel : St → Prop} (hS : Sp6 Rel) {κ : KL} (hc : Lx κ) {σ : St} (hR : Rel σ) {i : Nat} (hi : i + 6 ≤ κ.2.2.1.2.1) (kn : ∀ σ2, Rel σ2 → Wl κ 1180 [(0, .ref κ.2.2.1.1), (1, aL κ 0), (2, aL κ 65), (3, .int (nI i))] [] σ2) : Wl κ 388 [(0, .ref κ.2.2.1.1), (1, aL κ 0), (2, aL κ 65), (3, .int (nI i))] [] σ := by
  have hL := hc.2.2.2.2.2.2.2.2.2.2.2.2.2
  refine q_aload_n 1 hc dL_law_388 rfl ?_
  have h := hS  σ hR
  refine q_cI [] hc dL_law_389 cL_41 (t6_fault h) rfl (by decide) rfl rfl rfl rfl (Nat.le_of_ble_eq_true rfl) (by decide) (by decide) (fun r1 σ1 h => ?_)
  refine q_aload_n 2 hc dL_law_392 rfl ?_
  refine q_cI [] hc dL_law_393 cL_44 (t7_fault h) rfl (by decide) rfl rfl rfl rfl (Nat.le_of_ble_eq_true rfl) (by decide) (by decide) (fun r2 σ2 h => ?_)
  exact q_eq 1180 hc dL_law_396 (by decide) h.1 (kn σ2 h.2)
set_option maxRecDepth 100000 in
set_option maxHeartbeats 4000000 in
theorem lw_case7 {Rel : St → Prop} (hS : Sp7 Rel) {κ : KL} (hc : Lx κ) {σ : St} (hR : Rel σ) {i : Nat} (hi : i + 6 ≤ κ.2.2.1.2.1) (kn : ∀ σ2, Rel σ2 → Wl κ 1180 [(0, .ref κ.2.2.1.1), (1, aL κ 0), (2, aL κ 65), (3, .int (nI i))] [] σ2) : Wl κ 401 [(0, .ref κ.2.2.1.1), (1, aL κ 0), (2, aL κ 65), (3, .int (nI i))] [] σ := by
  have hL := hc.2.2.2.2.2.2.2.2.2.2.2.2.2
  refine q_aload_n 1 hc dL_law_401 rfl ?_
  have h := hS  σ hR
  refine q_cI [] hc dL_law_402 cL_45 (t6_undo h) rfl (by decide) rfl rfl rfl rfl (Nat.le_of_ble_eq_true rfl) (by decide) (by decide) (fun r1 σ1 h => ?_)
  refine q_aload_n 2 hc dL_law_405 rfl ?_
  refine q_cI [] hc dL_law_406 cL_48 (t7_undo h) rfl (by decide) rfl rfl rfl rfl (Nat.le_of_ble_eq_true rfl) (by decide) (by decide) (fun r2 σ2 h => ?_)
  exact q_eq 1180 hc dL_law_409 (by decide) h.1 (kn σ2 h.2)
set_option maxRecDepth 100000 in
set_option maxHeartbeats 4000000 in
theorem lw_case8 {Rel : St → Prop} (hS : Sp8 Rel) {κ : KL} (hc : Lx κ) {σ : St} (hR : Rel σ) {i : Nat} (hi : i + 6 ≤ κ.2.2.1.2.1) (kn : ∀ σ2, Rel σ2 → Wl κ 1180 [(0, .ref κ.2.2.1.1), (1, aL κ 0), (2, aL κ 65), (3, .int (nI i))] [] σ2) : Wl κ 414 [(0, .ref κ.2.2.1.1), (1, aL κ 0), (2, aL κ 65), (3, .int (nI i))] [] σ := by
  have hL := hc.2.2.2.2.2.2.2.2.2.2.2.2.2
  refine q_aload_n 1 hc dL_law_414 rfl ?_
  refine q_aload_n 0 hc dL_law_415 rfl ?_
  refine q_iload_n 3 hc dL_law_416 rfl ?_
  refine q_iconst (v := nI 1) hc dL_law_417 (by decide) ?_
  refine q_iadd hc dL_law_418 ?_
  refine q_sld hc dL_law_419 (ixL hL hi 1 (by decide)).1 ?_
  refine q_aload_n 0 hc dL_law_420 rfl ?_
  refine q_iload_n 3 hc dL_law_421 rfl ?_
  refine q_iconst (v := nI 2) hc dL_law_422 (by decide) ?_
  refine q_iadd hc dL_law_423 ?_
  refine q_sld hc dL_law_424 (ixL hL hi 2 (by decide)).1 ?_
  have h := hS (κ.2.2.1.2.2 (nI i + nI 1).toNatClampNeg) (κ.2.2.1.2.2 (nI i + nI 2).toNatClampNeg) σ hR
  refine q_cI [.int (κ.2.2.1.2.2 (nI i + nI 1).toNatClampNeg), .int (κ.2.2.1.2.2 (nI i + nI 2).toNatClampNeg)] hc dL_law_425 cL_49 (t6_stretch h) rfl (by decide) rfl rfl rfl rfl (Nat.le_of_ble_eq_true rfl) (by decide) (by decide) (fun r1 σ1 h => ?_)
  refine q_aload_n 2 hc dL_law_428 rfl ?_
  refine q_aload_n 0 hc dL_law_429 rfl ?_
  refine q_iload_n 3 hc dL_law_430 rfl ?_
  refine q_iconst (v := nI 1) hc dL_law_431 (by decide) ?_
  refine q_iadd hc dL_law_432 ?_
  refine q_sld hc dL_law_433 (ixL hL hi 1 (by decide)).1 ?_
  refine q_aload_n 0 hc dL_law_434 rfl ?_
  refine q_iload_n 3 hc dL_law_435 rfl ?_
  refine q_iconst (v := nI 2) hc dL_law_436 (by decide) ?_
  refine q_iadd hc dL_law_437 ?_
  refine q_sld hc dL_law_438 (ixL hL hi 2 (by decide)).1 ?_
  refine q_cI [.int (κ.2.2.1.2.2 (nI i + nI 1).toNatClampNeg), .int (κ.2.2.1.2.2 (nI i + nI 2).toNatClampNeg)] hc dL_law_439 cL_53 (t7_stretch h) rfl (by decide) rfl rfl rfl rfl (Nat.le_of_ble_eq_true rfl) (by decide) (by decide) (fun r2 σ2 h => ?_)
  exact q_eq 1180 hc dL_law_442 (by decide) h.1 (kn σ2 h.2)
set_option maxRecDepth 100000 in
set_option maxHeartbeats 4000000 in
theorem lw_case9 {Rel : St → Prop} (hS : Sp9 Rel) {κ : KL} (hc : Lx κ) {σ : St} (hR : Rel σ) {i : Nat} (hi : i + 6 ≤ κ.2.2.1.2.1) (kn : ∀ σ2, Rel σ2 → Wl κ 1180 [(0, .ref κ.2.2.1.1), (1, aL κ 0), (2, aL κ 65), (3, .int (nI i))] [] σ2) : Wl κ 447 [(0, .ref κ.2.2.1.1), (1, aL κ 0), (2, aL κ 65), (3, .int (nI i))] [] σ := by
  have hL := hc.2.2.2.2.2.2.2.2.2.2.2.2.2
  refine q_aload_n 1 hc dL_law_447 rfl ?_
  refine q_aload_n 0 hc dL_law_448 rfl ?_
  refine q_iload_n 3 hc dL_law_449 rfl ?_
  refine q_iconst (v := nI 1) hc dL_law_450 (by decide) ?_
  refine q_iadd hc dL_law_451 ?_
  refine q_sld hc dL_law_452 (ixL hL hi 1 (by decide)).1 ?_
  refine q_aload_n 0 hc dL_law_453 rfl ?_
  refine q_iload_n 3 hc dL_law_454 rfl ?_
  refine q_iconst (v := nI 2) hc dL_law_455 (by decide) ?_
  refine q_iadd hc dL_law_456 ?_
  refine q_sld hc dL_law_457 (ixL hL hi 2 (by decide)).1 ?_
  refine q_aload_n 0 hc dL_law_458 rfl ?_
  refine q_iload_n 3 hc dL_law_459 rfl ?_
  refine q_iconst (v := nI 3) hc dL_law_460 (by decide) ?_
  refine q_iadd hc dL_law_461 ?_
  refine q_sld hc dL_law_462 (ixL hL hi 3 (by decide)).1 ?_
  have h := hS (κ.2.2.1.2.2 (nI i + nI 1).toNatClampNeg) (κ.2.2.1.2.2 (nI i + nI 2).toNatClampNeg) (κ.2.2.1.2.2 (nI i + nI 3).toNatClampNeg) σ hR
  refine q_cI [.int (κ.2.2.1.2.2 (nI i + nI 1).toNatClampNeg), .int (κ.2.2.1.2.2 (nI i + nI 2).toNatClampNeg), .int (κ.2.2.1.2.2 (nI i + nI 3).toNatClampNeg)] hc dL_law_463 cL_54 (t6_sound h) rfl (by decide) rfl rfl rfl rfl (Nat.le_of_ble_eq_true rfl) (by decide) (by decide) (fun r1 σ1 h => ?_)
  refine q_aload_n 2 hc dL_law_466 rfl ?_
  refine q_aload_n 0 hc dL_law_467 rfl ?_
  refine q_iload_n 3 hc dL_law_468 rfl ?_
  refine q_iconst (v := nI 1) hc dL_law_469 (by decide) ?_
  refine q_iadd hc dL_law_470 ?_
  refine q_sld hc dL_law_471 (ixL hL hi 1 (by decide)).1 ?_
  refine q_aload_n 0 hc dL_law_472 rfl ?_
  refine q_iload_n 3 hc dL_law_473 rfl ?_
  refine q_iconst (v := nI 2) hc dL_law_474 (by decide) ?_
  refine q_iadd hc dL_law_475 ?_
  refine q_sld hc dL_law_476 (ixL hL hi 2 (by decide)).1 ?_
  refine q_aload_n 0 hc dL_law_477 rfl ?_
  refine q_iload_n 3 hc dL_law_478 rfl ?_
  refine q_iconst (v := nI 3) hc dL_law_479 (by decide) ?_
  refine q_iadd hc dL_law_480 ?_
  refine q_sld hc dL_law_481 (ixL hL hi 3 (by decide)).1 ?_
  refine q_cI [.int (κ.2.2.1.2.2 (nI i + nI 1).toNatClampNeg), .int (κ.2.2.1.2.2 (nI i + nI 2).toNatClampNeg), .int (κ.2.2.1.2.2 (nI i + nI 3).toNatClampNeg)] hc dL_law_482 cL_57 (t7_sound h) rfl (by decide) rfl rfl rfl rfl (Nat.le_of_ble_eq_true rfl) (by decide) (by decide) (fun r2 σ2 h => ?_)
  exact q_eq 1180 hc dL_law_485 (by decide) h.1 (kn σ2 h.2)
set_option maxRecDepth 100000 in
set_option maxHeartbeats 4000000 in
theorem lw_case10 {Rel : St → Prop} (hS : Sp10 Rel) {κ : KL} (hc : Lx κ) {σ : St} (hR : Rel σ) {i : Nat} (hi : i + 6 ≤ κ.2.2.1.2.1) (kn : ∀ σ2, Rel σ2 → Wl κ 1180 [(0, .ref κ.2.2.1.1), (1, aL κ 0), (2, aL κ 65), (3, .int (nI i))] [] σ2) : Wl κ 490 [(0, .ref κ.2.2.1.1), (1, aL κ 0), (2, aL κ 65), (3, .int (nI i))] [] σ := by
  have hL := hc.2.2.2.2.2.2.2.2.2.2.2.2.2
  refine q_aload_n 1 hc dL_law_490 rfl ?_
  refine q_aload_n 0 hc dL_law_491 rfl ?_
  refine q_iload_n 3 hc dL_law_492 rfl ?_
  refine q_iconst (v := nI 1) hc dL_law_493 (by decide) ?_
  refine q_iadd hc dL_law_494 ?_
  refine q_sld hc dL_law_495 (ixL hL hi 1 (by decide)).1 ?_
  have h := hS (κ.2.2.1.2.2 (nI i + nI 1).toNatClampNeg) σ hR
  refine q_cI [.int (κ.2.2.1.2.2 (nI i + nI 1).toNatClampNeg)] hc dL_law_496 cL_58 (t6_days h) rfl (by decide) rfl rfl rfl rfl (Nat.le_of_ble_eq_true rfl) (by decide) (by decide) (fun r1 σ1 h => ?_)
  refine q_aload_n 2 hc dL_law_499 rfl ?_
  refine q_aload_n 0 hc dL_law_500 rfl ?_
  refine q_iload_n 3 hc dL_law_501 rfl ?_
  refine q_iconst (v := nI 1) hc dL_law_502 (by decide) ?_
  refine q_iadd hc dL_law_503 ?_
  refine q_sld hc dL_law_504 (ixL hL hi 1 (by decide)).1 ?_
  refine q_cI [.int (κ.2.2.1.2.2 (nI i + nI 1).toNatClampNeg)] hc dL_law_505 cL_61 (t7_days h) rfl (by decide) rfl rfl rfl rfl (Nat.le_of_ble_eq_true rfl) (by decide) (by decide) (fun r2 σ2 h => ?_)
  exact q_eq 1180 hc dL_law_508 (by decide) h.1 (kn σ2 h.2)
set_option maxRecDepth 100000 in
set_option maxHeartbeats 4000000 in
theorem lw_case11 {Rel : St → Prop} (hS : Sp11 Rel) {κ : KL} (hc : Lx κ) {σ : St} (hR : Rel σ) {i : Nat} (hi : i + 6 ≤ κ.2.2.1.2.1) (kn : ∀ σ2, Rel σ2 → Wl κ 1180 [(0, .ref κ.2.2.1.1), (1, aL κ 0), (2, aL κ 65), (3, .int (nI i))] [] σ2) : Wl κ 513 [(0, .ref κ.2.2.1.1), (1, aL κ 0), (2, aL κ 65), (3, .int (nI i))] [] σ := by
  have hL := hc.2.2.2.2.2.2.2.2.2.2.2.2.2
  refine q_aload_n 1 hc dL_law_513 rfl ?_
  refine q_aload_n 0 hc dL_law_514 rfl ?_
  refine q_iload_n 3 hc dL_law_515 rfl ?_
  refine q_iconst (v := nI 1) hc dL_law_516 (by decide) ?_
  refine q_iadd hc dL_law_517 ?_
  refine q_sld hc dL_law_518 (ixL hL hi 1 (by decide)).1 ?_
  refine q_aload_n 0 hc dL_law_519 rfl ?_
  refine q_iload_n 3 hc dL_law_520 rfl ?_
  refine q_iconst (v := nI 2) hc dL_law_521 (by decide) ?_
  refine q_iadd hc dL_law_522 ?_
  refine q_sld hc dL_law_523 (ixL hL hi 2 (by decide)).1 ?_
  have h := hS (κ.2.2.1.2.2 (nI i + nI 1).toNatClampNeg) (κ.2.2.1.2.2 (nI i + nI 2).toNatClampNeg) σ hR
  refine q_cI [.int (κ.2.2.1.2.2 (nI i + nI 1).toNatClampNeg), .int (κ.2.2.1.2.2 (nI i + nI 2).toNatClampNeg)] hc dL_law_524 cL_62 (t6_door h) rfl (by decide) rfl rfl rfl rfl (Nat.le_of_ble_eq_true rfl) (by decide) (by decide) (fun r1 σ1 h => ?_)
  refine q_aload_n 2 hc dL_law_527 rfl ?_
  refine q_aload_n 0 hc dL_law_528 rfl ?_
  refine q_iload_n 3 hc dL_law_529 rfl ?_
  refine q_iconst (v := nI 1) hc dL_law_530 (by decide) ?_
  refine q_iadd hc dL_law_531 ?_
  refine q_sld hc dL_law_532 (ixL hL hi 1 (by decide)).1 ?_
  refine q_aload_n 0 hc dL_law_533 rfl ?_
  refine q_iload_n 3 hc dL_law_534 rfl ?_
  refine q_iconst (v := nI 2) hc dL_law_535 (by decide) ?_
  refine q_iadd hc dL_law_536 ?_
  refine q_sld hc dL_law_537 (ixL hL hi 2 (by decide)).1 ?_
  refine q_cI [.int (κ.2.2.1.2.2 (nI i + nI 1).toNatClampNeg), .int (κ.2.2.1.2.2 (nI i + nI 2).toNatClampNeg)] hc dL_law_538 cL_65 (t7_door h) rfl (by decide) rfl rfl rfl rfl (Nat.le_of_ble_eq_true rfl) (by decide) (by decide) (fun r2 σ2 h => ?_)
  exact q_eq 1180 hc dL_law_541 (by decide) h.1 (kn σ2 h.2)
set_option maxRecDepth 100000 in
set_option maxHeartbeats 4000000 in
theorem lw_case12 {Rel : St → Prop} (hS : Sp12 Rel) {κ : KL} (hc : Lx κ) {σ : St} (hR : Rel σ) {i : Nat} (hi : i + 6 ≤ κ.2.2.1.2.1) (kn : ∀ σ2, Rel σ2 → Wl κ 1180 [(0, .ref κ.2.2.1.1), (1, aL κ 0), (2, aL κ 65), (3, .int (nI i))] [] σ2) : Wl κ 546 [(0, .ref κ.2.2.1.1), (1, aL κ 0), (2, aL κ 65), (3, .int (nI i))] [] σ := by
  have hL := hc.2.2.2.2.2.2.2.2.2.2.2.2.2
  refine q_aload_n 1 hc dL_law_546 rfl ?_
  refine q_aload_n 0 hc dL_law_547 rfl ?_
  refine q_iload_n 3 hc dL_law_548 rfl ?_
  refine q_iconst (v := nI 1) hc dL_law_549 (by decide) ?_
  refine q_iadd hc dL_law_550 ?_
  refine q_sld hc dL_law_551 (ixL hL hi 1 (by decide)).1 ?_
  refine q_aload_n 0 hc dL_law_552 rfl ?_
  refine q_iload_n 3 hc dL_law_553 rfl ?_
  refine q_iconst (v := nI 2) hc dL_law_554 (by decide) ?_
  refine q_iadd hc dL_law_555 ?_
  refine q_sld hc dL_law_556 (ixL hL hi 2 (by decide)).1 ?_
  have h := hS (κ.2.2.1.2.2 (nI i + nI 1).toNatClampNeg) (κ.2.2.1.2.2 (nI i + nI 2).toNatClampNeg) σ hR
  refine q_cI [.int (κ.2.2.1.2.2 (nI i + nI 1).toNatClampNeg), .int (κ.2.2.1.2.2 (nI i + nI 2).toNatClampNeg)] hc dL_law_557 cL_66 (t6_caller h) rfl (by decide) rfl rfl rfl rfl (Nat.le_of_ble_eq_true rfl) (by decide) (by decide) (fun r1 σ1 h => ?_)
  refine q_aload_n 2 hc dL_law_560 rfl ?_
  refine q_aload_n 0 hc dL_law_561 rfl ?_
  refine q_iload_n 3 hc dL_law_562 rfl ?_
  refine q_iconst (v := nI 1) hc dL_law_563 (by decide) ?_
  refine q_iadd hc dL_law_564 ?_
  refine q_sld hc dL_law_565 (ixL hL hi 1 (by decide)).1 ?_
  refine q_aload_n 0 hc dL_law_566 rfl ?_
  refine q_iload_n 3 hc dL_law_567 rfl ?_
  refine q_iconst (v := nI 2) hc dL_law_568 (by decide) ?_
  refine q_iadd hc dL_law_569 ?_
  refine q_sld hc dL_law_570 (ixL hL hi 2 (by decide)).1 ?_
  refine q_cI [.int (κ.2.2.1.2.2 (nI i + nI 1).toNatClampNeg), .int (κ.2.2.1.2.2 (nI i + nI 2).toNatClampNeg)] hc dL_law_571 cL_69 (t7_caller h) rfl (by decide) rfl rfl rfl rfl (Nat.le_of_ble_eq_true rfl) (by decide) (by decide) (fun r2 σ2 h => ?_)
  exact q_eq 1180 hc dL_law_574 (by decide) h.1 (kn σ2 h.2)
set_option maxRecDepth 100000 in
set_option maxHeartbeats 4000000 in
theorem lw_case13 {Rel : St → Prop} (hS : Sp13 Rel) {κ : KL} (hc : Lx κ) {σ : St} (hR : Rel σ) {i : Nat} (hi : i + 6 ≤ κ.2.2.1.2.1) (kn : ∀ σ2, Rel σ2 → Wl κ 1180 [(0, .ref κ.2.2.1.1), (1, aL κ 0), (2, aL κ 65), (3, .int (nI i))] [] σ2) : Wl κ 579 [(0, .ref κ.2.2.1.1), (1, aL κ 0), (2, aL κ 65), (3, .int (nI i))] [] σ := by
  have hL := hc.2.2.2.2.2.2.2.2.2.2.2.2.2
  refine q_aload_n 1 hc dL_law_579 rfl ?_
  refine q_aload_n 0 hc dL_law_580 rfl ?_
  refine q_iload_n 3 hc dL_law_581 rfl ?_
  refine q_iconst (v := nI 1) hc dL_law_582 (by decide) ?_
  refine q_iadd hc dL_law_583 ?_
  refine q_sld hc dL_law_584 (ixL hL hi 1 (by decide)).1 ?_
  have h := hS (κ.2.2.1.2.2 (nI i + nI 1).toNatClampNeg) σ hR
  refine q_cI [.int (κ.2.2.1.2.2 (nI i + nI 1).toNatClampNeg)] hc dL_law_585 cL_70 (t6_used h) rfl (by decide) rfl rfl rfl rfl (Nat.le_of_ble_eq_true rfl) (by decide) (by decide) (fun r1 σ1 h => ?_)
  refine q_aload_n 2 hc dL_law_588 rfl ?_
  refine q_aload_n 0 hc dL_law_589 rfl ?_
  refine q_iload_n 3 hc dL_law_590 rfl ?_
  refine q_iconst (v := nI 1) hc dL_law_591 (by decide) ?_
  refine q_iadd hc dL_law_592 ?_
  refine q_sld hc dL_law_593 (ixL hL hi 1 (by decide)).1 ?_
  refine q_cI [.int (κ.2.2.1.2.2 (nI i + nI 1).toNatClampNeg)] hc dL_law_594 cL_73 (t7_used h) rfl (by decide) rfl rfl rfl rfl (Nat.le_of_ble_eq_true rfl) (by decide) (by decide) (fun r2 σ2 h => ?_)
  exact q_eq 1180 hc dL_law_597 (by decide) h.1 (kn σ2 h.2)
set_option maxRecDepth 100000 in
set_option maxHeartbeats 4000000 in
theorem lw_case14 {Rel : St → Prop} (hS : Sp14 Rel) {κ : KL} (hc : Lx κ) {σ : St} (hR : Rel σ) {i : Nat} (hi : i + 6 ≤ κ.2.2.1.2.1) (kn : ∀ σ2, Rel σ2 → Wl κ 1180 [(0, .ref κ.2.2.1.1), (1, aL κ 0), (2, aL κ 65), (3, .int (nI i))] [] σ2) : Wl κ 602 [(0, .ref κ.2.2.1.1), (1, aL κ 0), (2, aL κ 65), (3, .int (nI i))] [] σ := by
  have hL := hc.2.2.2.2.2.2.2.2.2.2.2.2.2
  refine q_aload_n 1 hc dL_law_602 rfl ?_
  have h := hS  σ hR
  refine q_cI [] hc dL_law_603 cL_74 (t6_meets h) rfl (by decide) rfl rfl rfl rfl (Nat.le_of_ble_eq_true rfl) (by decide) (by decide) (fun r1 σ1 h => ?_)
  refine q_aload_n 2 hc dL_law_606 rfl ?_
  refine q_cI [] hc dL_law_607 cL_77 (t7_meets h) rfl (by decide) rfl rfl rfl rfl (Nat.le_of_ble_eq_true rfl) (by decide) (by decide) (fun r2 σ2 h => ?_)
  exact q_eq 1180 hc dL_law_610 (by decide) h.1 (kn σ2 h.2)
set_option maxRecDepth 100000 in
set_option maxHeartbeats 4000000 in
theorem lw_case15 {Rel : St → Prop} (hS : Sp15 Rel) {κ : KL} (hc : Lx κ) {σ : St} (hR : Rel σ) {i : Nat} (hi : i + 6 ≤ κ.2.2.1.2.1) (kn : ∀ σ2, Rel σ2 → Wl κ 1180 [(0, .ref κ.2.2.1.1), (1, aL κ 0), (2, aL κ 65), (3, .int (nI i))] [] σ2) : Wl κ 615 [(0, .ref κ.2.2.1.1), (1, aL κ 0), (2, aL κ 65), (3, .int (nI i))] [] σ := by
  have hL := hc.2.2.2.2.2.2.2.2.2.2.2.2.2
  refine q_aload_n 1 hc dL_law_615 rfl ?_
  have h := hS  σ hR
  refine q_cI [] hc dL_law_616 cL_78 (t6_nothing h) rfl (by decide) rfl rfl rfl rfl (Nat.le_of_ble_eq_true rfl) (by decide) (by decide) (fun r1 σ1 h => ?_)
  refine q_aload_n 2 hc dL_law_619 rfl ?_
  refine q_cI [] hc dL_law_620 cL_81 (t7_nothing h) rfl (by decide) rfl rfl rfl rfl (Nat.le_of_ble_eq_true rfl) (by decide) (by decide) (fun r2 σ2 h => ?_)
  exact q_eq 1180 hc dL_law_623 (by decide) h.1 (kn σ2 h.2)
set_option maxRecDepth 100000 in
set_option maxHeartbeats 4000000 in
theorem lw_case16 {Rel : St → Prop} (hS : Sp16 Rel) {κ : KL} (hc : Lx κ) {σ : St} (hR : Rel σ) {i : Nat} (hi : i + 6 ≤ κ.2.2.1.2.1) (kn : ∀ σ2, Rel σ2 → Wl κ 1180 [(0, .ref κ.2.2.1.1), (1, aL κ 0), (2, aL κ 65), (3, .int (nI i))] [] σ2) : Wl κ 628 [(0, .ref κ.2.2.1.1), (1, aL κ 0), (2, aL κ 65), (3, .int (nI i))] [] σ := by
  have hL := hc.2.2.2.2.2.2.2.2.2.2.2.2.2
  refine q_aload_n 1 hc dL_law_628 rfl ?_
  refine q_aload_n 0 hc dL_law_629 rfl ?_
  refine q_iload_n 3 hc dL_law_630 rfl ?_
  refine q_iconst (v := nI 1) hc dL_law_631 (by decide) ?_
  refine q_iadd hc dL_law_632 ?_
  refine q_sld hc dL_law_633 (ixL hL hi 1 (by decide)).1 ?_
  refine q_aload_n 0 hc dL_law_634 rfl ?_
  refine q_iload_n 3 hc dL_law_635 rfl ?_
  refine q_iconst (v := nI 2) hc dL_law_636 (by decide) ?_
  refine q_iadd hc dL_law_637 ?_
  refine q_sld hc dL_law_638 (ixL hL hi 2 (by decide)).1 ?_
  refine q_aload_n 0 hc dL_law_639 rfl ?_
  refine q_iload_n 3 hc dL_law_640 rfl ?_
  refine q_iconst (v := nI 3) hc dL_law_641 (by decide) ?_
  refine q_iadd hc dL_law_642 ?_
  refine q_sld hc dL_law_643 (ixL hL hi 3 (by decide)).1 ?_
  have h := hS (κ.2.2.1.2.2 (nI i + nI 1).toNatClampNeg) (κ.2.2.1.2.2 (nI i + nI 2).toNatClampNeg) (κ.2.2.1.2.2 (nI i + nI 3).toNatClampNeg) σ hR
  refine q_cI [.int (κ.2.2.1.2.2 (nI i + nI 1).toNatClampNeg), .int (κ.2.2.1.2.2 (nI i + nI 2).toNatClampNeg), .int (κ.2.2.1.2.2 (nI i + nI 3).toNatClampNeg)] hc dL_law_644 cL_82 (t6_ahead h) rfl (by decide) rfl rfl rfl rfl (Nat.le_of_ble_eq_true rfl) (by decide) (by decide) (fun r1 σ1 h => ?_)
  refine q_aload_n 2 hc dL_law_647 rfl ?_
  refine q_aload_n 0 hc dL_law_648 rfl ?_
  refine q_iload_n 3 hc dL_law_649 rfl ?_
  refine q_iconst (v := nI 1) hc dL_law_650 (by decide) ?_
  refine q_iadd hc dL_law_651 ?_
  refine q_sld hc dL_law_652 (ixL hL hi 1 (by decide)).1 ?_
  refine q_aload_n 0 hc dL_law_653 rfl ?_
  refine q_iload_n 3 hc dL_law_654 rfl ?_
  refine q_iconst (v := nI 2) hc dL_law_655 (by decide) ?_
  refine q_iadd hc dL_law_656 ?_
  refine q_sld hc dL_law_657 (ixL hL hi 2 (by decide)).1 ?_
  refine q_aload_n 0 hc dL_law_658 rfl ?_
  refine q_iload_n 3 hc dL_law_659 rfl ?_
  refine q_iconst (v := nI 3) hc dL_law_660 (by decide) ?_
  refine q_iadd hc dL_law_661 ?_
  refine q_sld hc dL_law_662 (ixL hL hi 3 (by decide)).1 ?_
  refine q_cI [.int (κ.2.2.1.2.2 (nI i + nI 1).toNatClampNeg), .int (κ.2.2.1.2.2 (nI i + nI 2).toNatClampNeg), .int (κ.2.2.1.2.2 (nI i + nI 3).toNatClampNeg)] hc dL_law_663 cL_85 (t7_ahead h) rfl (by decide) rfl rfl rfl rfl (Nat.le_of_ble_eq_true rfl) (by decide) (by decide) (fun r2 σ2 h => ?_)
  exact q_eq 1180 hc dL_law_666 (by decide) h.1 (kn σ2 h.2)
set_option maxRecDepth 100000 in
set_option maxHeartbeats 4000000 in
theorem lw_case17 {Rel : St → Prop} (hS : Sp17 Rel) {κ : KL} (hc : Lx κ) {σ : St} (hR : Rel σ) {i : Nat} (hi : i + 6 ≤ κ.2.2.1.2.1) (kn : ∀ σ2, Rel σ2 → Wl κ 1180 [(0, .ref κ.2.2.1.1), (1, aL κ 0), (2, aL κ 65), (3, .int (nI i))] [] σ2) : Wl κ 671 [(0, .ref κ.2.2.1.1), (1, aL κ 0), (2, aL κ 65), (3, .int (nI i))] [] σ := by
  have hL := hc.2.2.2.2.2.2.2.2.2.2.2.2.2
  refine q_aload_n 1 hc dL_law_671 rfl ?_
  refine q_aload_n 0 hc dL_law_672 rfl ?_
  refine q_iload_n 3 hc dL_law_673 rfl ?_
  refine q_iconst (v := nI 1) hc dL_law_674 (by decide) ?_
  refine q_iadd hc dL_law_675 ?_
  refine q_sld hc dL_law_676 (ixL hL hi 1 (by decide)).1 ?_
  have h := hS (κ.2.2.1.2.2 (nI i + nI 1).toNatClampNeg) σ hR
  refine q_cI [.int (κ.2.2.1.2.2 (nI i + nI 1).toNatClampNeg)] hc dL_law_677 cL_86 (t6_soon h) rfl (by decide) rfl rfl rfl rfl (Nat.le_of_ble_eq_true rfl) (by decide) (by decide) (fun r1 σ1 h => ?_)
  refine q_aload_n 2 hc dL_law_680 rfl ?_
  refine q_aload_n 0 hc dL_law_681 rfl ?_
  refine q_iload_n 3 hc dL_law_682 rfl ?_
  refine q_iconst (v := nI 1) hc dL_law_683 (by decide) ?_
  refine q_iadd hc dL_law_684 ?_
  refine q_sld hc dL_law_685 (ixL hL hi 1 (by decide)).1 ?_
  refine q_cI [.int (κ.2.2.1.2.2 (nI i + nI 1).toNatClampNeg)] hc dL_law_686 cL_89 (t7_soon h) rfl (by decide) rfl rfl rfl rfl (Nat.le_of_ble_eq_true rfl) (by decide) (by decide) (fun r2 σ2 h => ?_)
  exact q_eq 1180 hc dL_law_689 (by decide) h.1 (kn σ2 h.2)
set_option maxRecDepth 100000 in
set_option maxHeartbeats 4000000 in
theorem lw_case18 {Rel : St → Prop} (hS : Sp18 Rel) {κ : KL} (hc : Lx κ) {σ : St} (hR : Rel σ) {i : Nat} (hi : i + 6 ≤ κ.2.2.1.2.1) (kn : ∀ σ2, Rel σ2 → Wl κ 1180 [(0, .ref κ.2.2.1.1), (1, aL κ 0), (2, aL κ 65), (3, .int (nI i))] [] σ2) : Wl κ 694 [(0, .ref κ.2.2.1.1), (1, aL κ 0), (2, aL κ 65), (3, .int (nI i))] [] σ := by
  have hL := hc.2.2.2.2.2.2.2.2.2.2.2.2.2
  refine q_aload_n 1 hc dL_law_694 rfl ?_
  refine q_aload_n 0 hc dL_law_695 rfl ?_
  refine q_iload_n 3 hc dL_law_696 rfl ?_
  refine q_iconst (v := nI 1) hc dL_law_697 (by decide) ?_
  refine q_iadd hc dL_law_698 ?_
  refine q_sld hc dL_law_699 (ixL hL hi 1 (by decide)).1 ?_
  refine q_aload_n 0 hc dL_law_700 rfl ?_
  refine q_iload_n 3 hc dL_law_701 rfl ?_
  refine q_iconst (v := nI 2) hc dL_law_702 (by decide) ?_
  refine q_iadd hc dL_law_703 ?_
  refine q_sld hc dL_law_704 (ixL hL hi 2 (by decide)).1 ?_
  refine q_aload_n 0 hc dL_law_705 rfl ?_
  refine q_iload_n 3 hc dL_law_706 rfl ?_
  refine q_iconst (v := nI 3) hc dL_law_707 (by decide) ?_
  refine q_iadd hc dL_law_708 ?_
  refine q_sld hc dL_law_709 (ixL hL hi 3 (by decide)).1 ?_
  have h := hS (κ.2.2.1.2.2 (nI i + nI 1).toNatClampNeg) (κ.2.2.1.2.2 (nI i + nI 2).toNatClampNeg) (κ.2.2.1.2.2 (nI i + nI 3).toNatClampNeg) σ hR
  refine q_cI [.int (κ.2.2.1.2.2 (nI i + nI 1).toNatClampNeg), .int (κ.2.2.1.2.2 (nI i + nI 2).toNatClampNeg), .int (κ.2.2.1.2.2 (nI i + nI 3).toNatClampNeg)] hc dL_law_710 cL_90 (t6_least h) rfl (by decide) rfl rfl rfl rfl (Nat.le_of_ble_eq_true rfl) (by decide) (by decide) (fun r1 σ1 h => ?_)
  refine q_aload_n 2 hc dL_law_713 rfl ?_
  refine q_aload_n 0 hc dL_law_714 rfl ?_
  refine q_iload_n 3 hc dL_law_715 rfl ?_
  refine q_iconst (v := nI 1) hc dL_law_716 (by decide) ?_
  refine q_iadd hc dL_law_717 ?_
  refine q_sld hc dL_law_718 (ixL hL hi 1 (by decide)).1 ?_
  refine q_aload_n 0 hc dL_law_719 rfl ?_
  refine q_iload_n 3 hc dL_law_720 rfl ?_
  refine q_iconst (v := nI 2) hc dL_law_721 (by decide) ?_
  refine q_iadd hc dL_law_722 ?_
  refine q_sld hc dL_law_723 (ixL hL hi 2 (by decide)).1 ?_
  refine q_aload_n 0 hc dL_law_724 rfl ?_
  refine q_iload_n 3 hc dL_law_725 rfl ?_
  refine q_iconst (v := nI 3) hc dL_law_726 (by decide) ?_
  refine q_iadd hc dL_law_727 ?_
  refine q_sld hc dL_law_728 (ixL hL hi 3 (by decide)).1 ?_
  refine q_cI [.int (κ.2.2.1.2.2 (nI i + nI 1).toNatClampNeg), .int (κ.2.2.1.2.2 (nI i + nI 2).toNatClampNeg), .int (κ.2.2.1.2.2 (nI i + nI 3).toNatClampNeg)] hc dL_law_729 cL_93 (t7_least h) rfl (by decide) rfl rfl rfl rfl (Nat.le_of_ble_eq_true rfl) (by decide) (by decide) (fun r2 σ2 h => ?_)
  exact q_eq 1180 hc dL_law_732 (by decide) h.1 (kn σ2 h.2)
set_option maxRecDepth 100000 in
set_option maxHeartbeats 4000000 in
theorem lw_case19 {Rel : St → Prop} (hS : Sp19 Rel) {κ : KL} (hc : Lx κ) {σ : St} (hR : Rel σ) {i : Nat} (hi : i + 6 ≤ κ.2.2.1.2.1) (kn : ∀ σ2, Rel σ2 → Wl κ 1180 [(0, .ref κ.2.2.1.1), (1, aL κ 0), (2, aL κ 65), (3, .int (nI i))] [] σ2) : Wl κ 737 [(0, .ref κ.2.2.1.1), (1, aL κ 0), (2, aL κ 65), (3, .int (nI i))] [] σ := by
  have hL := hc.2.2.2.2.2.2.2.2.2.2.2.2.2
  refine q_aload_n 1 hc dL_law_737 rfl ?_
  refine q_aload_n 0 hc dL_law_738 rfl ?_
  refine q_iload_n 3 hc dL_law_739 rfl ?_
  refine q_iconst (v := nI 1) hc dL_law_740 (by decide) ?_
  refine q_iadd hc dL_law_741 ?_
  refine q_sld hc dL_law_742 (ixL hL hi 1 (by decide)).1 ?_
  refine q_aload_n 0 hc dL_law_743 rfl ?_
  refine q_iload_n 3 hc dL_law_744 rfl ?_
  refine q_iconst (v := nI 2) hc dL_law_745 (by decide) ?_
  refine q_iadd hc dL_law_746 ?_
  refine q_sld hc dL_law_747 (ixL hL hi 2 (by decide)).1 ?_
  have h := hS (κ.2.2.1.2.2 (nI i + nI 1).toNatClampNeg) (κ.2.2.1.2.2 (nI i + nI 2).toNatClampNeg) σ hR
  refine q_cI [.int (κ.2.2.1.2.2 (nI i + nI 1).toNatClampNeg), .int (κ.2.2.1.2.2 (nI i + nI 2).toNatClampNeg)] hc dL_law_748 cL_94 (t6_whichDoor h) rfl (by decide) rfl rfl rfl rfl (Nat.le_of_ble_eq_true rfl) (by decide) (by decide) (fun r1 σ1 h => ?_)
  refine q_aload_n 2 hc dL_law_751 rfl ?_
  refine q_aload_n 0 hc dL_law_752 rfl ?_
  refine q_iload_n 3 hc dL_law_753 rfl ?_
  refine q_iconst (v := nI 1) hc dL_law_754 (by decide) ?_
  refine q_iadd hc dL_law_755 ?_
  refine q_sld hc dL_law_756 (ixL hL hi 1 (by decide)).1 ?_
  refine q_aload_n 0 hc dL_law_757 rfl ?_
  refine q_iload_n 3 hc dL_law_758 rfl ?_
  refine q_iconst (v := nI 2) hc dL_law_759 (by decide) ?_
  refine q_iadd hc dL_law_760 ?_
  refine q_sld hc dL_law_761 (ixL hL hi 2 (by decide)).1 ?_
  refine q_cI [.int (κ.2.2.1.2.2 (nI i + nI 1).toNatClampNeg), .int (κ.2.2.1.2.2 (nI i + nI 2).toNatClampNeg)] hc dL_law_762 cL_97 (t7_whichDoor h) rfl (by decide) rfl rfl rfl rfl (Nat.le_of_ble_eq_true rfl) (by decide) (by decide) (fun r2 σ2 h => ?_)
  exact q_eq 1180 hc dL_law_765 (by decide) h.1 (kn σ2 h.2)
set_option maxRecDepth 100000 in
set_option maxHeartbeats 4000000 in
theorem lw_case20 {Rel : St → Prop} (hS : Sp20 Rel) {κ : KL} (hc : Lx κ) {σ : St} (hR : Rel σ) {i : Nat} (hi : i + 6 ≤ κ.2.2.1.2.1) (kn : ∀ σ2, Rel σ2 → Wl κ 1180 [(0, .ref κ.2.2.1.1), (1, aL κ 0), (2, aL κ 65), (3, .int (nI i))] [] σ2) : Wl κ 770 [(0, .ref κ.2.2.1.1), (1, aL κ 0), (2, aL κ 65), (3, .int (nI i))] [] σ := by
  have hL := hc.2.2.2.2.2.2.2.2.2.2.2.2.2
  refine q_aload_n 1 hc dL_law_770 rfl ?_
  refine q_aload_n 0 hc dL_law_771 rfl ?_
  refine q_iload_n 3 hc dL_law_772 rfl ?_
  refine q_iconst (v := nI 1) hc dL_law_773 (by decide) ?_
  refine q_iadd hc dL_law_774 ?_
  refine q_sld hc dL_law_775 (ixL hL hi 1 (by decide)).1 ?_
  refine q_aload_n 0 hc dL_law_776 rfl ?_
  refine q_iload_n 3 hc dL_law_777 rfl ?_
  refine q_iconst (v := nI 2) hc dL_law_778 (by decide) ?_
  refine q_iadd hc dL_law_779 ?_
  refine q_sld hc dL_law_780 (ixL hL hi 2 (by decide)).1 ?_
  refine q_aload_n 0 hc dL_law_781 rfl ?_
  refine q_iload_n 3 hc dL_law_782 rfl ?_
  refine q_iconst (v := nI 3) hc dL_law_783 (by decide) ?_
  refine q_iadd hc dL_law_784 ?_
  refine q_sld hc dL_law_785 (ixL hL hi 3 (by decide)).1 ?_
  refine q_aload_n 0 hc dL_law_786 rfl ?_
  refine q_iload_n 3 hc dL_law_787 rfl ?_
  refine q_iconst (v := nI 4) hc dL_law_788 (by decide) ?_
  refine q_iadd hc dL_law_789 ?_
  refine q_sld hc dL_law_790 (ixL hL hi 4 (by decide)).1 ?_
  have h := hS (κ.2.2.1.2.2 (nI i + nI 1).toNatClampNeg) (κ.2.2.1.2.2 (nI i + nI 2).toNatClampNeg) (κ.2.2.1.2.2 (nI i + nI 3).toNatClampNeg) (κ.2.2.1.2.2 (nI i + nI 4).toNatClampNeg) σ hR
  refine q_cI [.int (κ.2.2.1.2.2 (nI i + nI 1).toNatClampNeg), .int (κ.2.2.1.2.2 (nI i + nI 2).toNatClampNeg), .int (κ.2.2.1.2.2 (nI i + nI 3).toNatClampNeg), .int (κ.2.2.1.2.2 (nI i + nI 4).toNatClampNeg)] hc dL_law_791 cL_98 (t6_who h) rfl (by decide) rfl rfl rfl rfl (Nat.le_of_ble_eq_true rfl) (by decide) (by decide) (fun r1 σ1 h => ?_)
  refine q_aload_n 2 hc dL_law_794 rfl ?_
  refine q_aload_n 0 hc dL_law_795 rfl ?_
  refine q_iload_n 3 hc dL_law_796 rfl ?_
  refine q_iconst (v := nI 1) hc dL_law_797 (by decide) ?_
  refine q_iadd hc dL_law_798 ?_
  refine q_sld hc dL_law_799 (ixL hL hi 1 (by decide)).1 ?_
  refine q_aload_n 0 hc dL_law_800 rfl ?_
  refine q_iload_n 3 hc dL_law_801 rfl ?_
  refine q_iconst (v := nI 2) hc dL_law_802 (by decide) ?_
  refine q_iadd hc dL_law_803 ?_
  refine q_sld hc dL_law_804 (ixL hL hi 2 (by decide)).1 ?_
  refine q_aload_n 0 hc dL_law_805 rfl ?_
  refine q_iload_n 3 hc dL_law_806 rfl ?_
  refine q_iconst (v := nI 3) hc dL_law_807 (by decide) ?_
  refine q_iadd hc dL_law_808 ?_
  refine q_sld hc dL_law_809 (ixL hL hi 3 (by decide)).1 ?_
  refine q_aload_n 0 hc dL_law_810 rfl ?_
  refine q_iload_n 3 hc dL_law_811 rfl ?_
  refine q_iconst (v := nI 4) hc dL_law_812 (by decide) ?_
  refine q_iadd hc dL_law_813 ?_
  refine q_sld hc dL_law_814 (ixL hL hi 4 (by decide)).1 ?_
  refine q_cI [.int (κ.2.2.1.2.2 (nI i + nI 1).toNatClampNeg), .int (κ.2.2.1.2.2 (nI i + nI 2).toNatClampNeg), .int (κ.2.2.1.2.2 (nI i + nI 3).toNatClampNeg), .int (κ.2.2.1.2.2 (nI i + nI 4).toNatClampNeg)] hc dL_law_815 cL_102 (t7_who h) rfl (by decide) rfl rfl rfl rfl (Nat.le_of_ble_eq_true rfl) (by decide) (by decide) (fun r2 σ2 h => ?_)
  exact q_eq 1180 hc dL_law_818 (by decide) h.1 (kn σ2 h.2)
set_option maxRecDepth 100000 in
set_option maxHeartbeats 4000000 in
theorem lw_case21 {Rel : St → Prop} (hS : Sp21 Rel) {κ : KL} (hc : Lx κ) {σ : St} (hR : Rel σ) {i : Nat} (hi : i + 6 ≤ κ.2.2.1.2.1) (kn : ∀ σ2, Rel σ2 → Wl κ 1180 [(0, .ref κ.2.2.1.1), (1, aL κ 0), (2, aL κ 65), (3, .int (nI i))] [] σ2) : Wl κ 823 [(0, .ref κ.2.2.1.1), (1, aL κ 0), (2, aL κ 65), (3, .int (nI i))] [] σ := by
  have hL := hc.2.2.2.2.2.2.2.2.2.2.2.2.2
  refine q_aload_n 1 hc dL_law_823 rfl ?_
  refine q_aload_n 0 hc dL_law_824 rfl ?_
  refine q_iload_n 3 hc dL_law_825 rfl ?_
  refine q_iconst (v := nI 1) hc dL_law_826 (by decide) ?_
  refine q_iadd hc dL_law_827 ?_
  refine q_sld hc dL_law_828 (ixL hL hi 1 (by decide)).1 ?_
  refine q_aload_n 0 hc dL_law_829 rfl ?_
  refine q_iload_n 3 hc dL_law_830 rfl ?_
  refine q_iconst (v := nI 2) hc dL_law_831 (by decide) ?_
  refine q_iadd hc dL_law_832 ?_
  refine q_sld hc dL_law_833 (ixL hL hi 2 (by decide)).1 ?_
  refine q_aload_n 0 hc dL_law_834 rfl ?_
  refine q_iload_n 3 hc dL_law_835 rfl ?_
  refine q_iconst (v := nI 3) hc dL_law_836 (by decide) ?_
  refine q_iadd hc dL_law_837 ?_
  refine q_sld hc dL_law_838 (ixL hL hi 3 (by decide)).1 ?_
  have h := hS (κ.2.2.1.2.2 (nI i + nI 1).toNatClampNeg) (κ.2.2.1.2.2 (nI i + nI 2).toNatClampNeg) (κ.2.2.1.2.2 (nI i + nI 3).toNatClampNeg) σ hR
  refine q_cL [.int (κ.2.2.1.2.2 (nI i + nI 1).toNatClampNeg), .int (κ.2.2.1.2.2 (nI i + nI 2).toNatClampNeg), .int (κ.2.2.1.2.2 (nI i + nI 3).toNatClampNeg)] hc dL_law_839 cL_103 (t6_sleeps h) rfl (by decide) rfl rfl rfl rfl (Nat.le_of_ble_eq_true rfl) (by decide) (by decide) (fun r1 σ1 h => ?_)
  refine q_aload_n 2 hc dL_law_842 rfl ?_
  refine q_aload_n 0 hc dL_law_843 rfl ?_
  refine q_iload_n 3 hc dL_law_844 rfl ?_
  refine q_iconst (v := nI 1) hc dL_law_845 (by decide) ?_
  refine q_iadd hc dL_law_846 ?_
  refine q_sld hc dL_law_847 (ixL hL hi 1 (by decide)).1 ?_
  refine q_aload_n 0 hc dL_law_848 rfl ?_
  refine q_iload_n 3 hc dL_law_849 rfl ?_
  refine q_iconst (v := nI 2) hc dL_law_850 (by decide) ?_
  refine q_iadd hc dL_law_851 ?_
  refine q_sld hc dL_law_852 (ixL hL hi 2 (by decide)).1 ?_
  refine q_aload_n 0 hc dL_law_853 rfl ?_
  refine q_iload_n 3 hc dL_law_854 rfl ?_
  refine q_iconst (v := nI 3) hc dL_law_855 (by decide) ?_
  refine q_iadd hc dL_law_856 ?_
  refine q_sld hc dL_law_857 (ixL hL hi 3 (by decide)).1 ?_
  refine q_cL [.int (κ.2.2.1.2.2 (nI i + nI 1).toNatClampNeg), .int (κ.2.2.1.2.2 (nI i + nI 2).toNatClampNeg), .int (κ.2.2.1.2.2 (nI i + nI 3).toNatClampNeg)] hc dL_law_858 cL_107 (t7_sleeps h) rfl (by decide) rfl rfl rfl rfl (Nat.le_of_ble_eq_true rfl) (by decide) (by decide) (fun r2 σ2 h => ?_)
  refine q_lcmp hc dL_law_861 ?_
  exact q_eq0 1180 hc dL_law_862 (by decide) (by rw [h.1]; exact lcmp_self _) (kn σ2 h.2)
set_option maxRecDepth 100000 in
set_option maxHeartbeats 4000000 in
theorem lw_case22 {Rel : St → Prop} (hS : Sp22 Rel) {κ : KL} (hc : Lx κ) {σ : St} (hR : Rel σ) {i : Nat} (hi : i + 6 ≤ κ.2.2.1.2.1) (kn : ∀ σ2, Rel σ2 → Wl κ 1180 [(0, .ref κ.2.2.1.1), (1, aL κ 0), (2, aL κ 65), (3, .int (nI i))] [] σ2) : Wl κ 867 [(0, .ref κ.2.2.1.1), (1, aL κ 0), (2, aL κ 65), (3, .int (nI i))] [] σ := by
  have hL := hc.2.2.2.2.2.2.2.2.2.2.2.2.2
  refine q_aload_n 1 hc dL_law_867 rfl ?_
  refine q_aload_n 0 hc dL_law_868 rfl ?_
  refine q_iload_n 3 hc dL_law_869 rfl ?_
  refine q_iconst (v := nI 1) hc dL_law_870 (by decide) ?_
  refine q_iadd hc dL_law_871 ?_
  refine q_sld hc dL_law_872 (ixL hL hi 1 (by decide)).1 ?_
  refine q_aload_n 0 hc dL_law_873 rfl ?_
  refine q_iload_n 3 hc dL_law_874 rfl ?_
  refine q_iconst (v := nI 2) hc dL_law_875 (by decide) ?_
  refine q_iadd hc dL_law_876 ?_
  refine q_sld hc dL_law_877 (ixL hL hi 2 (by decide)).1 ?_
  have h := hS (κ.2.2.1.2.2 (nI i + nI 1).toNatClampNeg) (κ.2.2.1.2.2 (nI i + nI 2).toNatClampNeg) σ hR
  refine q_cI [.int (κ.2.2.1.2.2 (nI i + nI 1).toNatClampNeg), .int (κ.2.2.1.2.2 (nI i + nI 2).toNatClampNeg)] hc dL_law_878 cL_108 (t6_reaches h) rfl (by decide) rfl rfl rfl rfl (Nat.le_of_ble_eq_true rfl) (by decide) (by decide) (fun r1 σ1 h => ?_)
  refine q_aload_n 2 hc dL_law_881 rfl ?_
  refine q_aload_n 0 hc dL_law_882 rfl ?_
  refine q_iload_n 3 hc dL_law_883 rfl ?_
  refine q_iconst (v := nI 1) hc dL_law_884 (by decide) ?_
  refine q_iadd hc dL_law_885 ?_
  refine q_sld hc dL_law_886 (ixL hL hi 1 (by decide)).1 ?_
  refine q_aload_n 0 hc dL_law_887 rfl ?_
  refine q_iload_n 3 hc dL_law_888 rfl ?_
  refine q_iconst (v := nI 2) hc dL_law_889 (by decide) ?_
  refine q_iadd hc dL_law_890 ?_
  refine q_sld hc dL_law_891 (ixL hL hi 2 (by decide)).1 ?_
  refine q_cI [.int (κ.2.2.1.2.2 (nI i + nI 1).toNatClampNeg), .int (κ.2.2.1.2.2 (nI i + nI 2).toNatClampNeg)] hc dL_law_892 cL_111 (t7_reaches h) rfl (by decide) rfl rfl rfl rfl (Nat.le_of_ble_eq_true rfl) (by decide) (by decide) (fun r2 σ2 h => ?_)
  exact q_eq 1180 hc dL_law_895 (by decide) h.1 (kn σ2 h.2)
set_option maxRecDepth 100000 in
set_option maxHeartbeats 4000000 in
theorem lw_case23 {Rel : St → Prop} (hS : Sp23 Rel) {κ : KL} (hc : Lx κ) {σ : St} (hR : Rel σ) {i : Nat} (hi : i + 6 ≤ κ.2.2.1.2.1) (kn : ∀ σ2, Rel σ2 → Wl κ 1180 [(0, .ref κ.2.2.1.1), (1, aL κ 0), (2, aL κ 65), (3, .int (nI i))] [] σ2) : Wl κ 900 [(0, .ref κ.2.2.1.1), (1, aL κ 0), (2, aL κ 65), (3, .int (nI i))] [] σ := by
  have hL := hc.2.2.2.2.2.2.2.2.2.2.2.2.2
  refine q_aload_n 1 hc dL_law_900 rfl ?_
  refine q_aload_n 0 hc dL_law_901 rfl ?_
  refine q_iload_n 3 hc dL_law_902 rfl ?_
  refine q_iconst (v := nI 1) hc dL_law_903 (by decide) ?_
  refine q_iadd hc dL_law_904 ?_
  refine q_sld hc dL_law_905 (ixL hL hi 1 (by decide)).1 ?_
  refine q_aload_n 0 hc dL_law_906 rfl ?_
  refine q_iload_n 3 hc dL_law_907 rfl ?_
  refine q_iconst (v := nI 2) hc dL_law_908 (by decide) ?_
  refine q_iadd hc dL_law_909 ?_
  refine q_sld hc dL_law_910 (ixL hL hi 2 (by decide)).1 ?_
  refine q_aload_n 0 hc dL_law_911 rfl ?_
  refine q_iload_n 3 hc dL_law_912 rfl ?_
  refine q_iconst (v := nI 3) hc dL_law_913 (by decide) ?_
  refine q_iadd hc dL_law_914 ?_
  refine q_sld hc dL_law_915 (ixL hL hi 3 (by decide)).1 ?_
  have h := hS (κ.2.2.1.2.2 (nI i + nI 1).toNatClampNeg) (κ.2.2.1.2.2 (nI i + nI 2).toNatClampNeg) (κ.2.2.1.2.2 (nI i + nI 3).toNatClampNeg) σ hR
  refine q_cI [.int (κ.2.2.1.2.2 (nI i + nI 1).toNatClampNeg), .int (κ.2.2.1.2.2 (nI i + nI 2).toNatClampNeg), .int (κ.2.2.1.2.2 (nI i + nI 3).toNatClampNeg)] hc dL_law_916 cL_112 (t6_rather h) rfl (by decide) rfl rfl rfl rfl (Nat.le_of_ble_eq_true rfl) (by decide) (by decide) (fun r1 σ1 h => ?_)
  refine q_aload_n 2 hc dL_law_919 rfl ?_
  refine q_aload_n 0 hc dL_law_920 rfl ?_
  refine q_iload_n 3 hc dL_law_921 rfl ?_
  refine q_iconst (v := nI 1) hc dL_law_922 (by decide) ?_
  refine q_iadd hc dL_law_923 ?_
  refine q_sld hc dL_law_924 (ixL hL hi 1 (by decide)).1 ?_
  refine q_aload_n 0 hc dL_law_925 rfl ?_
  refine q_iload_n 3 hc dL_law_926 rfl ?_
  refine q_iconst (v := nI 2) hc dL_law_927 (by decide) ?_
  refine q_iadd hc dL_law_928 ?_
  refine q_sld hc dL_law_929 (ixL hL hi 2 (by decide)).1 ?_
  refine q_aload_n 0 hc dL_law_930 rfl ?_
  refine q_iload_n 3 hc dL_law_931 rfl ?_
  refine q_iconst (v := nI 3) hc dL_law_932 (by decide) ?_
  refine q_iadd hc dL_law_933 ?_
  refine q_sld hc dL_law_934 (ixL hL hi 3 (by decide)).1 ?_
  refine q_cI [.int (κ.2.2.1.2.2 (nI i + nI 1).toNatClampNeg), .int (κ.2.2.1.2.2 (nI i + nI 2).toNatClampNeg), .int (κ.2.2.1.2.2 (nI i + nI 3).toNatClampNeg)] hc dL_law_935 cL_115 (t7_rather h) rfl (by decide) rfl rfl rfl rfl (Nat.le_of_ble_eq_true rfl) (by decide) (by decide) (fun r2 σ2 h => ?_)
  exact q_eq 1180 hc dL_law_938 (by decide) h.1 (kn σ2 h.2)
set_option maxRecDepth 100000 in
set_option maxHeartbeats 4000000 in
theorem lw_case24 {Rel : St → Prop} (hS : Sp24 Rel) {κ : KL} (hc : Lx κ) {σ : St} (hR : Rel σ) {i : Nat} (hi : i + 6 ≤ κ.2.2.1.2.1) (kn : ∀ σ2, Rel σ2 → Wl κ 1180 [(0, .ref κ.2.2.1.1), (1, aL κ 0), (2, aL κ 65), (3, .int (nI i))] [] σ2) : Wl κ 943 [(0, .ref κ.2.2.1.1), (1, aL κ 0), (2, aL κ 65), (3, .int (nI i))] [] σ := by
  have hL := hc.2.2.2.2.2.2.2.2.2.2.2.2.2
  refine q_aload_n 1 hc dL_law_943 rfl ?_
  refine q_aload_n 0 hc dL_law_944 rfl ?_
  refine q_iload_n 3 hc dL_law_945 rfl ?_
  refine q_iconst (v := nI 1) hc dL_law_946 (by decide) ?_
  refine q_iadd hc dL_law_947 ?_
  refine q_sld hc dL_law_948 (ixL hL hi 1 (by decide)).1 ?_
  refine q_aload_n 0 hc dL_law_949 rfl ?_
  refine q_iload_n 3 hc dL_law_950 rfl ?_
  refine q_iconst (v := nI 2) hc dL_law_951 (by decide) ?_
  refine q_iadd hc dL_law_952 ?_
  refine q_sld hc dL_law_953 (ixL hL hi 2 (by decide)).1 ?_
  refine q_aload_n 0 hc dL_law_954 rfl ?_
  refine q_iload_n 3 hc dL_law_955 rfl ?_
  refine q_iconst (v := nI 3) hc dL_law_956 (by decide) ?_
  refine q_iadd hc dL_law_957 ?_
  refine q_sld hc dL_law_958 (ixL hL hi 3 (by decide)).1 ?_
  have h := hS (κ.2.2.1.2.2 (nI i + nI 1).toNatClampNeg) (κ.2.2.1.2.2 (nI i + nI 2).toNatClampNeg) (κ.2.2.1.2.2 (nI i + nI 3).toNatClampNeg) σ hR
  refine q_cI [.int (κ.2.2.1.2.2 (nI i + nI 1).toNatClampNeg), .int (κ.2.2.1.2.2 (nI i + nI 2).toNatClampNeg), .int (κ.2.2.1.2.2 (nI i + nI 3).toNatClampNeg)] hc dL_law_959 cL_116 (t6_drawn h) rfl (by decide) rfl rfl rfl rfl (Nat.le_of_ble_eq_true rfl) (by decide) (by decide) (fun r1 σ1 h => ?_)
  refine q_aload_n 2 hc dL_law_962 rfl ?_
  refine q_aload_n 0 hc dL_law_963 rfl ?_
  refine q_iload_n 3 hc dL_law_964 rfl ?_
  refine q_iconst (v := nI 1) hc dL_law_965 (by decide) ?_
  refine q_iadd hc dL_law_966 ?_
  refine q_sld hc dL_law_967 (ixL hL hi 1 (by decide)).1 ?_
  refine q_aload_n 0 hc dL_law_968 rfl ?_
  refine q_iload_n 3 hc dL_law_969 rfl ?_
  refine q_iconst (v := nI 2) hc dL_law_970 (by decide) ?_
  refine q_iadd hc dL_law_971 ?_
  refine q_sld hc dL_law_972 (ixL hL hi 2 (by decide)).1 ?_
  refine q_aload_n 0 hc dL_law_973 rfl ?_
  refine q_iload_n 3 hc dL_law_974 rfl ?_
  refine q_iconst (v := nI 3) hc dL_law_975 (by decide) ?_
  refine q_iadd hc dL_law_976 ?_
  refine q_sld hc dL_law_977 (ixL hL hi 3 (by decide)).1 ?_
  refine q_cI [.int (κ.2.2.1.2.2 (nI i + nI 1).toNatClampNeg), .int (κ.2.2.1.2.2 (nI i + nI 2).toNatClampNeg), .int (κ.2.2.1.2.2 (nI i + nI 3).toNatClampNeg)] hc dL_law_978 cL_119 (t7_drawn h) rfl (by decide) rfl rfl rfl rfl (Nat.le_of_ble_eq_true rfl) (by decide) (by decide) (fun r2 σ2 h => ?_)
  exact q_eq 1180 hc dL_law_981 (by decide) h.1 (kn σ2 h.2)
set_option maxRecDepth 100000 in
set_option maxHeartbeats 4000000 in
theorem lw_case25 {Rel : St → Prop} (hS : Sp25 Rel) {κ : KL} (hc : Lx κ) {σ : St} (hR : Rel σ) {i : Nat} (hi : i + 6 ≤ κ.2.2.1.2.1) (kn : ∀ σ2, Rel σ2 → Wl κ 1180 [(0, .ref κ.2.2.1.1), (1, aL κ 0), (2, aL κ 65), (3, .int (nI i))] [] σ2) : Wl κ 986 [(0, .ref κ.2.2.1.1), (1, aL κ 0), (2, aL κ 65), (3, .int (nI i))] [] σ := by
  have hL := hc.2.2.2.2.2.2.2.2.2.2.2.2.2
  refine q_aload_n 1 hc dL_law_986 rfl ?_
  refine q_aload_n 0 hc dL_law_987 rfl ?_
  refine q_iload_n 3 hc dL_law_988 rfl ?_
  refine q_iconst (v := nI 1) hc dL_law_989 (by decide) ?_
  refine q_iadd hc dL_law_990 ?_
  refine q_sld hc dL_law_991 (ixL hL hi 1 (by decide)).1 ?_
  have h := hS (κ.2.2.1.2.2 (nI i + nI 1).toNatClampNeg) σ hR
  refine q_cI [.int (κ.2.2.1.2.2 (nI i + nI 1).toNatClampNeg)] hc dL_law_992 cL_120 (t6_image h) rfl (by decide) rfl rfl rfl rfl (Nat.le_of_ble_eq_true rfl) (by decide) (by decide) (fun r1 σ1 h => ?_)
  refine q_aload_n 2 hc dL_law_995 rfl ?_
  refine q_aload_n 0 hc dL_law_996 rfl ?_
  refine q_iload_n 3 hc dL_law_997 rfl ?_
  refine q_iconst (v := nI 1) hc dL_law_998 (by decide) ?_
  refine q_iadd hc dL_law_999 ?_
  refine q_sld hc dL_law_1000 (ixL hL hi 1 (by decide)).1 ?_
  refine q_cI [.int (κ.2.2.1.2.2 (nI i + nI 1).toNatClampNeg)] hc dL_law_1001 cL_123 (t7_image h) rfl (by decide) rfl rfl rfl rfl (Nat.le_of_ble_eq_true rfl) (by decide) (by decide) (fun r2 σ2 h => ?_)
  exact q_eq 1180 hc dL_law_1004 (by decide) h.1 (kn σ2 h.2)
set_option maxRecDepth 100000 in
set_option maxHeartbeats 4000000 in
theorem lw_case26 {Rel : St → Prop} (hS : Sp26 Rel) {κ : KL} (hc : Lx κ) {σ : St} (hR : Rel σ) {i : Nat} (hi : i + 6 ≤ κ.2.2.1.2.1) (kn : ∀ σ2, Rel σ2 → Wl κ 1180 [(0, .ref κ.2.2.1.1), (1, aL κ 0), (2, aL κ 65), (3, .int (nI i))] [] σ2) : Wl κ 1009 [(0, .ref κ.2.2.1.1), (1, aL κ 0), (2, aL κ 65), (3, .int (nI i))] [] σ := by
  have hL := hc.2.2.2.2.2.2.2.2.2.2.2.2.2
  refine q_aload_n 1 hc dL_law_1009 rfl ?_
  refine q_aload_n 0 hc dL_law_1010 rfl ?_
  refine q_iload_n 3 hc dL_law_1011 rfl ?_
  refine q_iconst (v := nI 1) hc dL_law_1012 (by decide) ?_
  refine q_iadd hc dL_law_1013 ?_
  refine q_sld hc dL_law_1014 (ixL hL hi 1 (by decide)).1 ?_
  have h := hS (κ.2.2.1.2.2 (nI i + nI 1).toNatClampNeg) σ hR
  refine q_cI [.int (κ.2.2.1.2.2 (nI i + nI 1).toNatClampNeg)] hc dL_law_1015 cL_124 (t6_restore h) rfl (by decide) rfl rfl rfl rfl (Nat.le_of_ble_eq_true rfl) (by decide) (by decide) (fun r1 σ1 h => ?_)
  refine q_aload_n 2 hc dL_law_1018 rfl ?_
  refine q_aload_n 0 hc dL_law_1019 rfl ?_
  refine q_iload_n 3 hc dL_law_1020 rfl ?_
  refine q_iconst (v := nI 1) hc dL_law_1021 (by decide) ?_
  refine q_iadd hc dL_law_1022 ?_
  refine q_sld hc dL_law_1023 (ixL hL hi 1 (by decide)).1 ?_
  refine q_cI [.int (κ.2.2.1.2.2 (nI i + nI 1).toNatClampNeg)] hc dL_law_1024 cL_127 (t7_restore h) rfl (by decide) rfl rfl rfl rfl (Nat.le_of_ble_eq_true rfl) (by decide) (by decide) (fun r2 σ2 h => ?_)
  exact q_eq 1180 hc dL_law_1027 (by decide) h.1 (kn σ2 h.2)
set_option maxRecDepth 100000 in
set_option maxHeartbeats 4000000 in
theorem lw_case27 {Rel : St → Prop} (hS : Sp27 Rel) {κ : KL} (hc : Lx κ) {σ : St} (hR : Rel σ) {i : Nat} (hi : i + 6 ≤ κ.2.2.1.2.1) (kn : ∀ σ2, Rel σ2 → Wl κ 1180 [(0, .ref κ.2.2.1.1), (1, aL κ 0), (2, aL κ 65), (3, .int (nI i))] [] σ2) : Wl κ 1032 [(0, .ref κ.2.2.1.1), (1, aL κ 0), (2, aL κ 65), (3, .int (nI i))] [] σ := by
  have hL := hc.2.2.2.2.2.2.2.2.2.2.2.2.2
  refine q_aload_n 1 hc dL_law_1032 rfl ?_
  refine q_aload_n 0 hc dL_law_1033 rfl ?_
  refine q_iload_n 3 hc dL_law_1034 rfl ?_
  refine q_iconst (v := nI 1) hc dL_law_1035 (by decide) ?_
  refine q_iadd hc dL_law_1036 ?_
  refine q_sld hc dL_law_1037 (ixL hL hi 1 (by decide)).1 ?_
  have h := hS (κ.2.2.1.2.2 (nI i + nI 1).toNatClampNeg) σ hR
  refine q_cI [.int (κ.2.2.1.2.2 (nI i + nI 1).toNatClampNeg)] hc dL_law_1038 cL_128 (t6_kind h) rfl (by decide) rfl rfl rfl rfl (Nat.le_of_ble_eq_true rfl) (by decide) (by decide) (fun r1 σ1 h => ?_)
  refine q_aload_n 2 hc dL_law_1041 rfl ?_
  refine q_aload_n 0 hc dL_law_1042 rfl ?_
  refine q_iload_n 3 hc dL_law_1043 rfl ?_
  refine q_iconst (v := nI 1) hc dL_law_1044 (by decide) ?_
  refine q_iadd hc dL_law_1045 ?_
  refine q_sld hc dL_law_1046 (ixL hL hi 1 (by decide)).1 ?_
  refine q_cI [.int (κ.2.2.1.2.2 (nI i + nI 1).toNatClampNeg)] hc dL_law_1047 cL_131 (t7_kind h) rfl (by decide) rfl rfl rfl rfl (Nat.le_of_ble_eq_true rfl) (by decide) (by decide) (fun r2 σ2 h => ?_)
  exact q_eq 1180 hc dL_law_1050 (by decide) h.1 (kn σ2 h.2)
set_option maxRecDepth 100000 in
set_option maxHeartbeats 4000000 in
theorem lw_case28 {Rel : St → Prop} (hS : Sp28 Rel) {κ : KL} (hc : Lx κ) {σ : St} (hR : Rel σ) {i : Nat} (hi : i + 6 ≤ κ.2.2.1.2.1) (kn : ∀ σ2, Rel σ2 → Wl κ 1180 [(0, .ref κ.2.2.1.1), (1, aL κ 0), (2, aL κ 65), (3, .int (nI i))] [] σ2) : Wl κ 1055 [(0, .ref κ.2.2.1.1), (1, aL κ 0), (2, aL κ 65), (3, .int (nI i))] [] σ := by
  have hL := hc.2.2.2.2.2.2.2.2.2.2.2.2.2
  refine q_aload_n 1 hc dL_law_1055 rfl ?_
  refine q_aload_n 0 hc dL_law_1056 rfl ?_
  refine q_iload_n 3 hc dL_law_1057 rfl ?_
  refine q_iconst (v := nI 1) hc dL_law_1058 (by decide) ?_
  refine q_iadd hc dL_law_1059 ?_
  refine q_sld hc dL_law_1060 (ixL hL hi 1 (by decide)).1 ?_
  refine q_aload_n 0 hc dL_law_1061 rfl ?_
  refine q_iload_n 3 hc dL_law_1062 rfl ?_
  refine q_iconst (v := nI 2) hc dL_law_1063 (by decide) ?_
  refine q_iadd hc dL_law_1064 ?_
  refine q_sld hc dL_law_1065 (ixL hL hi 2 (by decide)).1 ?_
  have h := hS (κ.2.2.1.2.2 (nI i + nI 1).toNatClampNeg) (κ.2.2.1.2.2 (nI i + nI 2).toNatClampNeg) σ hR
  refine q_cI [.int (κ.2.2.1.2.2 (nI i + nI 1).toNatClampNeg), .int (κ.2.2.1.2.2 (nI i + nI 2).toNatClampNeg)] hc dL_law_1066 cL_132 (t6_as h) rfl (by decide) rfl rfl rfl rfl (Nat.le_of_ble_eq_true rfl) (by decide) (by decide) (fun r1 σ1 h => ?_)
  refine q_aload_n 2 hc dL_law_1069 rfl ?_
  refine q_aload_n 0 hc dL_law_1070 rfl ?_
  refine q_iload_n 3 hc dL_law_1071 rfl ?_
  refine q_iconst (v := nI 1) hc dL_law_1072 (by decide) ?_
  refine q_iadd hc dL_law_1073 ?_
  refine q_sld hc dL_law_1074 (ixL hL hi 1 (by decide)).1 ?_
  refine q_aload_n 0 hc dL_law_1075 rfl ?_
  refine q_iload_n 3 hc dL_law_1076 rfl ?_
  refine q_iconst (v := nI 2) hc dL_law_1077 (by decide) ?_
  refine q_iadd hc dL_law_1078 ?_
  refine q_sld hc dL_law_1079 (ixL hL hi 2 (by decide)).1 ?_
  refine q_cI [.int (κ.2.2.1.2.2 (nI i + nI 1).toNatClampNeg), .int (κ.2.2.1.2.2 (nI i + nI 2).toNatClampNeg)] hc dL_law_1080 cL_135 (t7_as h) rfl (by decide) rfl rfl rfl rfl (Nat.le_of_ble_eq_true rfl) (by decide) (by decide) (fun r2 σ2 h => ?_)
  exact q_eq 1180 hc dL_law_1083 (by decide) h.1 (kn σ2 h.2)
set_option maxRecDepth 100000 in
set_option maxHeartbeats 4000000 in
theorem lw_case29 {Rel : St → Prop} (hS : Sp29 Rel) {κ : KL} (hc : Lx κ) {σ : St} (hR : Rel σ) {i : Nat} (hi : i + 6 ≤ κ.2.2.1.2.1) (kn : ∀ σ2, Rel σ2 → Wl κ 1180 [(0, .ref κ.2.2.1.1), (1, aL κ 0), (2, aL κ 65), (3, .int (nI i))] [] σ2) : Wl κ 1088 [(0, .ref κ.2.2.1.1), (1, aL κ 0), (2, aL κ 65), (3, .int (nI i))] [] σ := by
  have hL := hc.2.2.2.2.2.2.2.2.2.2.2.2.2
  refine q_aload_n 1 hc dL_law_1088 rfl ?_
  refine q_aload_n 0 hc dL_law_1089 rfl ?_
  refine q_iload_n 3 hc dL_law_1090 rfl ?_
  refine q_iconst (v := nI 1) hc dL_law_1091 (by decide) ?_
  refine q_iadd hc dL_law_1092 ?_
  refine q_sld hc dL_law_1093 (ixL hL hi 1 (by decide)).1 ?_
  refine q_aload_n 0 hc dL_law_1094 rfl ?_
  refine q_iload_n 3 hc dL_law_1095 rfl ?_
  refine q_iconst (v := nI 2) hc dL_law_1096 (by decide) ?_
  refine q_iadd hc dL_law_1097 ?_
  refine q_sld hc dL_law_1098 (ixL hL hi 2 (by decide)).1 ?_
  have h := hS (κ.2.2.1.2.2 (nI i + nI 1).toNatClampNeg) (κ.2.2.1.2.2 (nI i + nI 2).toNatClampNeg) σ hR
  refine q_cI [.int (κ.2.2.1.2.2 (nI i + nI 1).toNatClampNeg), .int (κ.2.2.1.2.2 (nI i + nI 2).toNatClampNeg)] hc dL_law_1099 cL_136 (t6_ask h) rfl (by decide) rfl rfl rfl rfl (Nat.le_of_ble_eq_true rfl) (by decide) (by decide) (fun r1 σ1 h => ?_)
  refine q_aload_n 2 hc dL_law_1102 rfl ?_
  refine q_aload_n 0 hc dL_law_1103 rfl ?_
  refine q_iload_n 3 hc dL_law_1104 rfl ?_
  refine q_iconst (v := nI 1) hc dL_law_1105 (by decide) ?_
  refine q_iadd hc dL_law_1106 ?_
  refine q_sld hc dL_law_1107 (ixL hL hi 1 (by decide)).1 ?_
  refine q_aload_n 0 hc dL_law_1108 rfl ?_
  refine q_iload_n 3 hc dL_law_1109 rfl ?_
  refine q_iconst (v := nI 2) hc dL_law_1110 (by decide) ?_
  refine q_iadd hc dL_law_1111 ?_
  refine q_sld hc dL_law_1112 (ixL hL hi 2 (by decide)).1 ?_
  refine q_cI [.int (κ.2.2.1.2.2 (nI i + nI 1).toNatClampNeg), .int (κ.2.2.1.2.2 (nI i + nI 2).toNatClampNeg)] hc dL_law_1113 cL_139 (t7_ask h) rfl (by decide) rfl rfl rfl rfl (Nat.le_of_ble_eq_true rfl) (by decide) (by decide) (fun r2 σ2 h => ?_)
  exact q_eq 1180 hc dL_law_1116 (by decide) h.1 (kn σ2 h.2)
set_option maxRecDepth 100000 in
set_option maxHeartbeats 4000000 in
theorem lw_case30 {Rel : St → Prop} (hS : Sp30 Rel) {κ : KL} (hc : Lx κ) {σ : St} (hR : Rel σ) {i : Nat} (hi : i + 6 ≤ κ.2.2.1.2.1) (kn : ∀ σ2, Rel σ2 → Wl κ 1180 [(0, .ref κ.2.2.1.1), (1, aL κ 0), (2, aL κ 65), (3, .int (nI i))] [] σ2) : Wl κ 1121 [(0, .ref κ.2.2.1.1), (1, aL κ 0), (2, aL κ 65), (3, .int (nI i))] [] σ := by
  have hL := hc.2.2.2.2.2.2.2.2.2.2.2.2.2
  refine q_aload_n 1 hc dL_law_1121 rfl ?_
  refine q_aload_n 0 hc dL_law_1122 rfl ?_
  refine q_iload_n 3 hc dL_law_1123 rfl ?_
  refine q_iconst (v := nI 1) hc dL_law_1124 (by decide) ?_
  refine q_iadd hc dL_law_1125 ?_
  refine q_sld hc dL_law_1126 (ixL hL hi 1 (by decide)).1 ?_
  have h := hS (κ.2.2.1.2.2 (nI i + nI 1).toNatClampNeg) σ hR
  refine q_cI [.int (κ.2.2.1.2.2 (nI i + nI 1).toNatClampNeg)] hc dL_law_1127 cL_140 (t6_trace h) rfl (by decide) rfl rfl rfl rfl (Nat.le_of_ble_eq_true rfl) (by decide) (by decide) (fun r1 σ1 h => ?_)
  refine q_aload_n 2 hc dL_law_1130 rfl ?_
  refine q_aload_n 0 hc dL_law_1131 rfl ?_
  refine q_iload_n 3 hc dL_law_1132 rfl ?_
  refine q_iconst (v := nI 1) hc dL_law_1133 (by decide) ?_
  refine q_iadd hc dL_law_1134 ?_
  refine q_sld hc dL_law_1135 (ixL hL hi 1 (by decide)).1 ?_
  refine q_cI [.int (κ.2.2.1.2.2 (nI i + nI 1).toNatClampNeg)] hc dL_law_1136 cL_143 (t7_trace h) rfl (by decide) rfl rfl rfl rfl (Nat.le_of_ble_eq_true rfl) (by decide) (by decide) (fun r2 σ2 h => ?_)
  exact q_eq 1180 hc dL_law_1139 (by decide) h.1 (kn σ2 h.2)
set_option maxRecDepth 100000 in
set_option maxHeartbeats 4000000 in
theorem lw_case31 {Rel : St → Prop} (hS : Sp31 Rel) {κ : KL} (hc : Lx κ) {σ : St} (hR : Rel σ) {i : Nat} (hi : i + 6 ≤ κ.2.2.1.2.1) (kn : ∀ σ2, Rel σ2 → Wl κ 1180 [(0, .ref κ.2.2.1.1), (1, aL κ 0), (2, aL κ 65), (3, .int (nI i))] [] σ2) : Wl κ 1144 [(0, .ref κ.2.2.1.1), (1, aL κ 0), (2, aL κ 65), (3, .int (nI i))] [] σ := by
  have hL := hc.2.2.2.2.2.2.2.2.2.2.2.2.2
  refine q_aload_n 1 hc dL_law_1144 rfl ?_
  refine q_aload_n 0 hc dL_law_1145 rfl ?_
  refine q_iload_n 3 hc dL_law_1146 rfl ?_
  refine q_iconst (v := nI 1) hc dL_law_1147 (by decide) ?_
  refine q_iadd hc dL_law_1148 ?_
  refine q_sld hc dL_law_1149 (ixL hL hi 1 (by decide)).1 ?_
  have h := hS (κ.2.2.1.2.2 (nI i + nI 1).toNatClampNeg) σ hR
  refine q_cI [.int (κ.2.2.1.2.2 (nI i + nI 1).toNatClampNeg)] hc dL_law_1150 cL_144 (t6_count h) rfl (by decide) rfl rfl rfl rfl (Nat.le_of_ble_eq_true rfl) (by decide) (by decide) (fun r1 σ1 h => ?_)
  refine q_aload_n 2 hc dL_law_1153 rfl ?_
  refine q_aload_n 0 hc dL_law_1154 rfl ?_
  refine q_iload_n 3 hc dL_law_1155 rfl ?_
  refine q_iconst (v := nI 1) hc dL_law_1156 (by decide) ?_
  refine q_iadd hc dL_law_1157 ?_
  refine q_sld hc dL_law_1158 (ixL hL hi 1 (by decide)).1 ?_
  refine q_cI [.int (κ.2.2.1.2.2 (nI i + nI 1).toNatClampNeg)] hc dL_law_1159 cL_147 (t7_count h) rfl (by decide) rfl rfl rfl rfl (Nat.le_of_ble_eq_true rfl) (by decide) (by decide) (fun r2 σ2 h => ?_)
  exact q_eq 1180 hc dL_law_1162 (by decide) h.1 (kn σ2 h.2)
set_option maxRecDepth 100000 in
set_option maxHeartbeats 4000000 in
theorem lw_case32 {Rel : St → Prop} (hS : Sp32 Rel) {κ : KL} (hc : Lx κ) {σ : St} (hR : Rel σ) {i : Nat} (hi : i + 6 ≤ κ.2.2.1.2.1) (kn : ∀ σ2, Rel σ2 → Wl κ 1180 [(0, .ref κ.2.2.1.1), (1, aL κ 0), (2, aL κ 65), (3, .int (nI i))] [] σ2) : Wl κ 1167 [(0, .ref κ.2.2.1.1), (1, aL κ 0), (2, aL κ 65), (3, .int (nI i))] [] σ := by
  have hL := hc.2.2.2.2.2.2.2.2.2.2.2.2.2
  refine q_aload_n 1 hc dL_law_1167 rfl ?_
  have h := hS  σ hR
  refine q_cI [] hc dL_law_1168 cL_148 (t6_status h) rfl (by decide) rfl rfl rfl rfl (Nat.le_of_ble_eq_true rfl) (by decide) (by decide) (fun r1 σ1 h => ?_)
  refine q_aload_n 2 hc dL_law_1171 rfl ?_
  refine q_cI [] hc dL_law_1172 cL_151 (t7_status h) rfl (by decide) rfl rfl rfl rfl (Nat.le_of_ble_eq_true rfl) (by decide) (by decide) (fun r2 σ2 h => ?_)
  exact q_eq 1180 hc dL_law_1175 (by decide) h.1 (kn σ2 h.2)
set_option maxRecDepth 100000 in
set_option maxHeartbeats 4000000 in
theorem law_loop {Rel : St → Prop} (hA : SpAll Rel) {κ : KL} (hc : Lx κ) : ∀ (n i : Nat) (σ : St), i ≤ κ.2.2.1.2.1 → κ.2.2.1.2.1 ≤ i + 6 * n → Rel σ → Wl κ 18 [(0, .ref κ.2.2.1.1), (1, aL κ 0), (2, aL κ 65), (3, .int (nI i))] [] σ := by
  have hL := hc.2.2.2.2.2.2.2.2.2.2.2.2.2
  obtain ⟨g0, g1, g2, g3, g4, g5, g6, g7, g8, g9, g10, g11, g12, g13, g14, g15, g16, g17, g18, g19, g20, g21, g22, g23, g24, g25, g26, g27, g28, g29, g30, g31, g32⟩ := hA
  intro n
  induction n with
  | zero =>
    intro i σ h1 h2 hR
    refine q_iload_n 3 hc dL_law_18 rfl ?_
    refine q_aload_n 0 hc dL_law_19 rfl ?_
    refine q_slen hc dL_law_20 ?_
    refine q_bipush (v := nI 6) hc dL_law_21 (by decide) ?_
    refine q_isub hc dL_law_23 ?_
    refine q_gt 1186 hc dL_law_24 (by decide) (fun _ => ?_) (fun q => ?_)
    · refine q_iconst (v := 1) hc dL_law_1186 (by decide) ?_
      exact q_ret hc dL_law_1187
    · exfalso
      apply q
      rw [Int32.lt_iff_toInt_lt, pk_sub_toInt (by omega) (by omega), nI_toInt (by omega)]
      omega
  | succ n ih =>
    intro i σ h1 h2 hR
    refine q_iload_n 3 hc dL_law_18 rfl ?_
    refine q_aload_n 0 hc dL_law_19 rfl ?_
    refine q_slen hc dL_law_20 ?_
    refine q_bipush (v := nI 6) hc dL_law_21 (by decide) ?_
    refine q_isub hc dL_law_23 ?_
    refine q_gt 1186 hc dL_law_24 (by decide) (fun _ => ?_) (fun q => ?_)
    · refine q_iconst (v := 1) hc dL_law_1186 (by decide) ?_
      exact q_ret hc dL_law_1187
    · have hi : i + 6 ≤ κ.2.2.1.2.1 := by
        rw [Int32.lt_iff_toInt_lt, pk_sub_toInt (by omega) (by omega), nI_toInt (by omega)] at q
        omega
      have kn : ∀ σ2, Rel σ2 → Wl κ 1180 [(0, .ref κ.2.2.1.1), (1, aL κ 0), (2, aL κ 65), (3, .int (nI i))] [] σ2 := by
        intro σ2 hR2
        refine q_iinc (v := nI (i + 6)) (lv' := [(3, .int (nI (i + 6))), (0, .ref κ.2.2.1.1), (1, aL κ 0), (2, aL κ 65)]) 3 hc dL_law_1180 rfl (by show nI i + nI 6 = _; rw [nI_add]) (by decide) rfl ?_
        refine q_goto 18 hc dL_law_1183 (by decide) ?_
        refine q_sub [1, 2, 3, 0] rfl ?_
        exact ih (i + 6) σ2 hi (by omega) hR2
      refine q_aload_n 0 hc dL_law_27 rfl ?_
      refine q_iload_n 3 hc dL_law_28 rfl ?_
      refine q_sld hc dL_law_29 (ixL hL hi 0 (by decide)).2 ?_
      refine q_bipush (v := 63) hc dL_law_30 (by decide) ?_
      refine q_iand hc dL_law_32 ?_
      generalize κ.2.2.1.2.2 (nI i).toNatClampNeg &&& 63 = x
      by_cases e0 : x = 0
      · refine q_tswIn 0 180 hc dL_law_33 e0 (by decide) (by decide) rfl (by decide) ?_
        exact lw_case0 g0 hc hR hi kn
      by_cases e1 : x = 1
      · refine q_tswIn 1 223 hc dL_law_33 e1 (by decide) (by decide) rfl (by decide) ?_
        exact lw_case1 g1 hc hR hi kn
      by_cases e2 : x = 2
      · refine q_tswIn 2 266 hc dL_law_33 e2 (by decide) (by decide) rfl (by decide) ?_
        exact lw_case2 g2 hc hR hi kn
      by_cases e3 : x = 3
      · refine q_tswIn 3 329 hc dL_law_33 e3 (by decide) (by decide) rfl (by decide) ?_
        exact lw_case3 g3 hc hR hi kn
      by_cases e4 : x = 4
      · refine q_tswIn 4 352 hc dL_law_33 e4 (by decide) (by decide) rfl (by decide) ?_
        exact lw_case4 g4 hc hR hi kn
      by_cases e5 : x = 5
      · refine q_tswIn 5 375 hc dL_law_33 e5 (by decide) (by decide) rfl (by decide) ?_
        exact lw_case5 g5 hc hR hi kn
      by_cases e6 : x = 6
      · refine q_tswIn 6 388 hc dL_law_33 e6 (by decide) (by decide) rfl (by decide) ?_
        exact lw_case6 g6 hc hR hi kn
      by_cases e7 : x = 7
      · refine q_tswIn 7 401 hc dL_law_33 e7 (by decide) (by decide) rfl (by decide) ?_
        exact lw_case7 g7 hc hR hi kn
      by_cases e8 : x = 8
      · refine q_tswIn 8 414 hc dL_law_33 e8 (by decide) (by decide) rfl (by decide) ?_
        exact lw_case8 g8 hc hR hi kn
      by_cases e9 : x = 9
      · refine q_tswIn 9 447 hc dL_law_33 e9 (by decide) (by decide) rfl (by decide) ?_
        exact lw_case9 g9 hc hR hi kn
      by_cases e10 : x = 10
      · refine q_tswIn 10 490 hc dL_law_33 e10 (by decide) (by decide) rfl (by decide) ?_
        exact lw_case10 g10 hc hR hi kn
      by_cases e11 : x = 11
      · refine q_tswIn 11 513 hc dL_law_33 e11 (by decide) (by decide) rfl (by decide) ?_
        exact lw_case11 g11 hc hR hi kn
      by_cases e12 : x = 12
      · refine q_tswIn 12 546 hc dL_law_33 e12 (by decide) (by decide) rfl (by decide) ?_
        exact lw_case12 g12 hc hR hi kn
      by_cases e13 : x = 13
      · refine q_tswIn 13 579 hc dL_law_33 e13 (by decide) (by decide) rfl (by decide) ?_
        exact lw_case13 g13 hc hR hi kn
      by_cases e14 : x = 14
      · refine q_tswIn 14 602 hc dL_law_33 e14 (by decide) (by decide) rfl (by decide) ?_
        exact lw_case14 g14 hc hR hi kn
      by_cases e15 : x = 15
      · refine q_tswIn 15 615 hc dL_law_33 e15 (by decide) (by decide) rfl (by decide) ?_
        exact lw_case15 g15 hc hR hi kn
      by_cases e16 : x = 16
      · refine q_tswIn 16 628 hc dL_law_33 e16 (by decide) (by decide) rfl (by decide) ?_
        exact lw_case16 g16 hc hR hi kn
      by_cases e17 : x = 17
      · refine q_tswIn 17 671 hc dL_law_33 e17 (by decide) (by decide) rfl (by decide) ?_
        exact lw_case17 g17 hc hR hi kn
      by_cases e18 : x = 18
      · refine q_tswIn 18 694 hc dL_law_33 e18 (by decide) (by decide) rfl (by decide) ?_
        exact lw_case18 g18 hc hR hi kn
      by_cases e19 : x = 19
      · refine q_tswIn 19 737 hc dL_law_33 e19 (by decide) (by decide) rfl (by decide) ?_
        exact lw_case19 g19 hc hR hi kn
      by_cases e20 : x = 20
      · refine q_tswIn 20 770 hc dL_law_33 e20 (by decide) (by decide) rfl (by decide) ?_
        exact lw_case20 g20 hc hR hi kn
      by_cases e21 : x = 21
      · refine q_tswIn 21 823 hc dL_law_33 e21 (by decide) (by decide) rfl (by decide) ?_
        exact lw_case21 g21 hc hR hi kn
      by_cases e22 : x = 22
      · refine q_tswIn 22 867 hc dL_law_33 e22 (by decide) (by decide) rfl (by decide) ?_
        exact lw_case22 g22 hc hR hi kn
      by_cases e23 : x = 23
      · refine q_tswIn 23 900 hc dL_law_33 e23 (by decide) (by decide) rfl (by decide) ?_
        exact lw_case23 g23 hc hR hi kn
      by_cases e24 : x = 24
      · refine q_tswIn 24 943 hc dL_law_33 e24 (by decide) (by decide) rfl (by decide) ?_
        exact lw_case24 g24 hc hR hi kn
      by_cases e25 : x = 25
      · refine q_tswIn 25 986 hc dL_law_33 e25 (by decide) (by decide) rfl (by decide) ?_
        exact lw_case25 g25 hc hR hi kn
      by_cases e26 : x = 26
      · refine q_tswIn 26 1009 hc dL_law_33 e26 (by decide) (by decide) rfl (by decide) ?_
        exact lw_case26 g26 hc hR hi kn
      by_cases e27 : x = 27
      · refine q_tswIn 27 1032 hc dL_law_33 e27 (by decide) (by decide) rfl (by decide) ?_
        exact lw_case27 g27 hc hR hi kn
      by_cases e28 : x = 28
      · refine q_tswIn 28 1055 hc dL_law_33 e28 (by decide) (by decide) rfl (by decide) ?_
        exact lw_case28 g28 hc hR hi kn
      by_cases e29 : x = 29
      · refine q_tswIn 29 1088 hc dL_law_33 e29 (by decide) (by decide) rfl (by decide) ?_
        exact lw_case29 g29 hc hR hi kn
      by_cases e30 : x = 30
      · refine q_tswIn 30 1121 hc dL_law_33 e30 (by decide) (by decide) rfl (by decide) ?_
        exact lw_case30 g30 hc hR hi kn
      by_cases e31 : x = 31
      · refine q_tswIn 31 1144 hc dL_law_33 e31 (by decide) (by decide) rfl (by decide) ?_
        exact lw_case31 g31 hc hR hi kn
      by_cases e32 : x = 32
      · refine q_tswIn 32 1167 hc dL_law_33 e32 (by decide) (by decide) rfl (by decide) ?_
        exact lw_case32 g32 hc hR hi kn
      refine q_tswOut 1180 hc dL_law_33 (by have a0 := lv_neT e0 (a := 0) (by decide); have a1 := lv_neT e1 (a := 1) (by decide); have a2 := lv_neT e2 (a := 2) (by decide); have a3 := lv_neT e3 (a := 3) (by decide); have a4 := lv_neT e4 (a := 4) (by decide); have a5 := lv_neT e5 (a := 5) (by decide); have a6 := lv_neT e6 (a := 6) (by decide); have a7 := lv_neT e7 (a := 7) (by decide); have a8 := lv_neT e8 (a := 8) (by decide); have a9 := lv_neT e9 (a := 9) (by decide); have a10 := lv_neT e10 (a := 10) (by decide); have a11 := lv_neT e11 (a := 11) (by decide); have a12 := lv_neT e12 (a := 12) (by decide); have a13 := lv_neT e13 (a := 13) (by decide); have a14 := lv_neT e14 (a := 14) (by decide); have a15 := lv_neT e15 (a := 15) (by decide); have a16 := lv_neT e16 (a := 16) (by decide); have a17 := lv_neT e17 (a := 17) (by decide); have a18 := lv_neT e18 (a := 18) (by decide); have a19 := lv_neT e19 (a := 19) (by decide); have a20 := lv_neT e20 (a := 20) (by decide); have a21 := lv_neT e21 (a := 21) (by decide); have a22 := lv_neT e22 (a := 22) (by decide); have a23 := lv_neT e23 (a := 23) (by decide); have a24 := lv_neT e24 (a := 24) (by decide); have a25 := lv_neT e25 (a := 25) (by decide); have a26 := lv_neT e26 (a := 26) (by decide); have a27 := lv_neT e27 (a := 27) (by decide); have a28 := lv_neT e28 (a := 28) (by decide); have a29 := lv_neT e29 (a := 29) (by decide); have a30 := lv_neT e30 (a := 30) (by decide); have a31 := lv_neT e31 (a := 31) (by decide); have a32 := lv_neT e32 (a := 32) (by decide); omega) (by decide) ?_
      exact kn σ hR
