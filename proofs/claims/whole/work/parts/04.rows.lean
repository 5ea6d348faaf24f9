/-- a value gets a name -/
def lt {α : Type} (a : α) (f : α → Prop) : Prop := f a
def imax (x y : Int32) : Int32 := if x < y then y else x
def imin (x y : Int32) : Int32 := if y < x then y else x
def cpOk (sp dp n : Int32) (la lb : Nat) : Prop := ¬ sp < 0 ∧ ¬ dp < 0 ∧ ¬ n < 0 ∧ sp.toNatClampNeg + n.toNatClampNeg ≤ la ∧ dp.toNatClampNeg + n.toNatClampNeg ≤ lb
section ROWS
variable {κ : KT} {cc : ByteArray} {nL d pc : Nat} {own : String} {ret : Option FieldType} {Q : State → Prop} {lv lv' : List (Nat × Value)} {st : List Value} {σ : St}
theorem lrem_eq_mod (x y : Int64) : x - (x / y) * y = x % y := by
  apply Int64.toInt_inj.mp
  have h1 := Int64.le_toInt (x % y)
  have h2 := Int64.toInt_lt (x % y)
  rw [Int64.toInt_sub, Int64.toInt_mul, Int64.toInt_div, Int.bmod_mul_bmod, Int.sub_bmod_bmod, Int.mul_comm (x.toInt.tdiv y.toInt), ← Int.tmod_def, ← Int64.toInt_mod]
  exact Int.bmod_eq_of_le_mul_two (by omega) (by omega)
theorem r_iconst {n : Int} {v : Int32} (hc : Cx κ cc nL own d ret) (hd : decode cc pc = .ok (.iconst n, 1)) (hv : Int32.ofInt n = v) (k : Wd κ nL Q (pc + 1) lv (.int v :: st) σ) : Wd κ nL Q pc lv (st) σ :=
  fun H locs ls hP hS hl => lv_iconst hc.1 hc.2.1 hd hv (k H locs ls hP hS hl)
theorem r_bipush {n : Int} {v : Int32} (hc : Cx κ cc nL own d ret) (hd : decode cc pc = .ok (.bipush n, 2)) (hv : (Int8.ofInt n).toInt32 = v) (k : Wd κ nL Q (pc + 2) lv (.int v :: st) σ) : Wd κ nL Q pc lv (st) σ :=
  fun H locs ls hP hS hl => lv_bipush hc.1 hc.2.1 hd hv (k H locs ls hP hS hl)
theorem r_sipush {n : Int} {v : Int32} (hc : Cx κ cc nL own d ret) (hd : decode cc pc = .ok (.sipush n, 3)) (hv : (Int16.ofInt n).toInt32 = v) (k : Wd κ nL Q (pc + 3) lv (.int v :: st) σ) : Wd κ nL Q pc lv (st) σ :=
  fun H locs ls hP hS hl => lv_sipush hc.1 hc.2.1 hd hv (k H locs ls hP hS hl)
theorem r_lconst {n : Fin 2} {v : Int64} (hc : Cx κ cc nL own d ret) (hd : decode cc pc = .ok (.lconst n, 1)) (hv : Int64.ofNat (n : Nat) = v) (k : Wd κ nL Q (pc + 1) lv (.long v :: st) σ) : Wd κ nL Q pc lv (st) σ :=
  fun H locs ls hP hS hl => lv_lconst hc.1 hc.2.1 hd hv (k H locs ls hP hS hl)
theorem r_ldc {index : Nat} {v : Int32} (hc : Cx κ cc nL own d ret) (hd : decode cc pc = .ok (.ldc index, 2)) (hw : Cond.constant own index v ∈ TB) (k : Wd κ nL Q (pc + 2) lv (.int v :: st) σ) : Wd κ nL Q pc lv st σ :=
  fun H locs ls hP hS hl => lv_ldc hc.1 hc.2.1 hc.2.2.2.1 (hc.2.2.2.2.1 _ hw) hd (k H locs ls hP hS hl)
theorem r_ldcw {index : Nat} {v : Int32} (hc : Cx κ cc nL own d ret) (hd : decode cc pc = .ok (.ldc_w index, 3)) (hw : Cond.constant own index v ∈ TB) (k : Wd κ nL Q (pc + 3) lv (.int v :: st) σ) : Wd κ nL Q pc lv st σ :=
  fun H locs ls hP hS hl => lv_ldcw hc.1 hc.2.1 hc.2.2.2.1 (hc.2.2.2.2.1 _ hw) hd (k H locs ls hP hS hl)
theorem r_ldc2 {index : Nat} {v : Int64} (hc : Cx κ cc nL own d ret) (hd : decode cc pc = .ok (.ldc2_w index, 3)) (hw : Cond.constantLong own index v ∈ TB) (k : Wd κ nL Q (pc + 3) lv (.long v :: st) σ) : Wd κ nL Q pc lv st σ :=
  fun H locs ls hP hS hl => lv_ldc2 hc.1 hc.2.1 hc.2.2.2.1 (hc.2.2.2.2.1 _ hw) hd (k H locs ls hP hS hl)
theorem r_iload_n {i : Fin 4} {x : Int32} (q : Nat) (hc : Cx κ cc nL own d ret) (hd : decode cc pc = .ok (.iload_n i, 1)) (hq : lv[q]? = some ((i : Nat), .int x)) (k : Wd κ nL Q (pc + 1) lv (.int x :: st) σ) : Wd κ nL Q pc lv st σ :=
  fun H locs ls hP hS hl => lv_iload_n hc.1 hc.2.1 hd rfl (lv_at hl q hq) (k H locs ls hP hS hl)
theorem r_iload {i : Nat} {x : Int32} (q : Nat) (hc : Cx κ cc nL own d ret) (hd : decode cc pc = .ok (.iload i, 2)) (hq : lv[q]? = some (i, .int x)) (k : Wd κ nL Q (pc + 2) lv (.int x :: st) σ) : Wd κ nL Q pc lv st σ :=
  fun H locs ls hP hS hl => lv_iload hc.1 hc.2.1 hd (lv_at hl q hq) (k H locs ls hP hS hl)
theorem r_istore_n {i : Fin 4} {x : Int32} (hc : Cx κ cc nL own d ret) (hd : decode cc pc = .ok (.istore_n i, 1)) (hn : (i : Nat) < nL) (hl : ((i : Nat), Value.int x) :: lv.filter (fun q => !(q.1 == (i : Nat)) && !(q.1 + 1 == (i : Nat) && q.2.category == 2)) = lv') (k : Wd κ nL Q (pc + 1) lv' st σ) : Wd κ nL Q pc lv (.int x :: st) σ :=
  fun H locs ls hP hS h => lv_istore_n hc.1 hc.2.1 hd rfl h hn hl (fun ls' h' => k H locs ls' hP hS h')
theorem r_istore {i : Nat} {x : Int32} (hc : Cx κ cc nL own d ret) (hd : decode cc pc = .ok (.istore i, 2)) (hn : i < nL) (hl : (i, Value.int x) :: lv.filter (fun q => !(q.1 == i) && !(q.1 + 1 == i && q.2.category == 2)) = lv') (k : Wd κ nL Q (pc + 2) lv' st σ) : Wd κ nL Q pc lv (.int x :: st) σ :=
  fun H locs ls hP hS h => lv_istore hc.1 hc.2.1 hd h hn hl (fun ls' h' => k H locs ls' hP hS h')
theorem r_aload_n {i : Fin 4} {x : Nat} (q : Nat) (hc : Cx κ cc nL own d ret) (hd : decode cc pc = .ok (.aload_n i, 1)) (hq : lv[q]? = some ((i : Nat), .ref x)) (k : Wd κ nL Q (pc + 1) lv (.ref x :: st) σ) : Wd κ nL Q pc lv st σ :=
  fun H locs ls hP hS hl => lv_aload_n hc.1 hc.2.1 hd rfl (lv_at hl q hq) (k H locs ls hP hS hl)
theorem r_aload {i : Nat} {x : Nat} (q : Nat) (hc : Cx κ cc nL own d ret) (hd : decode cc pc = .ok (.aload i, 2)) (hq : lv[q]? = some (i, .ref x)) (k : Wd κ nL Q (pc + 2) lv (.ref x :: st) σ) : Wd κ nL Q pc lv st σ :=
  fun H locs ls hP hS hl => lv_aload hc.1 hc.2.1 hd (lv_at hl q hq) (k H locs ls hP hS hl)
theorem r_astore_n {i : Fin 4} {x : Nat} (hc : Cx κ cc nL own d ret) (hd : decode cc pc = .ok (.astore_n i, 1)) (hn : (i : Nat) < nL) (hl : ((i : Nat), Value.ref x) :: lv.filter (fun q => !(q.1 == (i : Nat)) && !(q.1 + 1 == (i : Nat) && q.2.category == 2)) = lv') (k : Wd κ nL Q (pc + 1) lv' st σ) : Wd κ nL Q pc lv (.ref x :: st) σ :=
  fun H locs ls hP hS h => lv_astore_n hc.1 hc.2.1 hd rfl h hn hl (fun ls' h' => k H locs ls' hP hS h')
theorem r_astore {i : Nat} {x : Nat} (hc : Cx κ cc nL own d ret) (hd : decode cc pc = .ok (.astore i, 2)) (hn : i < nL) (hl : (i, Value.ref x) :: lv.filter (fun q => !(q.1 == i) && !(q.1 + 1 == i && q.2.category == 2)) = lv') (k : Wd κ nL Q (pc + 2) lv' st σ) : Wd κ nL Q pc lv (.ref x :: st) σ :=
  fun H locs ls hP hS h => lv_astore hc.1 hc.2.1 hd h hn hl (fun ls' h' => k H locs ls' hP hS h')
theorem r_lload_n {i : Fin 4} {x : Int64} (q : Nat) (hc : Cx κ cc nL own d ret) (hd : decode cc pc = .ok (.lload_n i, 1)) (hq : lv[q]? = some ((i : Nat), .long x)) (k : Wd κ nL Q (pc + 1) lv (.long x :: st) σ) : Wd κ nL Q pc lv st σ :=
  fun H locs ls hP hS hl => lv_lload_n hc.1 hc.2.1 hd rfl (lv_at hl q hq) (k H locs ls hP hS hl)
theorem r_lload {i : Nat} {x : Int64} (q : Nat) (hc : Cx κ cc nL own d ret) (hd : decode cc pc = .ok (.lload i, 2)) (hq : lv[q]? = some (i, .long x)) (k : Wd κ nL Q (pc + 2) lv (.long x :: st) σ) : Wd κ nL Q pc lv st σ :=
  fun H locs ls hP hS hl => lv_lload hc.1 hc.2.1 hd (lv_at hl q hq) (k H locs ls hP hS hl)
theorem r_lstore_n {i : Fin 4} {x : Int64} (hc : Cx κ cc nL own d ret) (hd : decode cc pc = .ok (.lstore_n i, 1)) (hn : (i : Nat) + 1 < nL) (hl : ((i : Nat), Value.long x) :: lv.filter (fun q => !(q.1 == (i : Nat)) && (!(q.1 == (i : Nat) + 1) && !(q.1 + 1 == (i : Nat) && q.2.category == 2))) = lv') (k : Wd κ nL Q (pc + 1) lv' st σ) : Wd κ nL Q pc lv (.long x :: st) σ :=
  fun H locs ls hP hS h => lv_lstore_n hc.1 hc.2.1 hd rfl h hn hl (fun ls' h' => k H locs ls' hP hS h')
theorem r_lstore {i : Nat} {x : Int64} (hc : Cx κ cc nL own d ret) (hd : decode cc pc = .ok (.lstore i, 2)) (hn : i + 1 < nL) (hl : (i, Value.long x) :: lv.filter (fun q => !(q.1 == i) && (!(q.1 == i + 1) && !(q.1 + 1 == i && q.2.category == 2))) = lv') (k : Wd κ nL Q (pc + 2) lv' st σ) : Wd κ nL Q pc lv (.long x :: st) σ :=
  fun H locs ls hP hS h => lv_lstore hc.1 hc.2.1 hd h hn hl (fun ls' h' => k H locs ls' hP hS h')
theorem r_iinc {i : Nat} {n : Int} {x v : Int32} (q : Nat) (hc : Cx κ cc nL own d ret) (hd : decode cc pc = .ok (.iinc i n, 3)) (hq : lv[q]? = some (i, .int x)) (hv : Int32.ofInt n = v) (hn : i < nL) (hl : (i, Value.int (x + v)) :: lv.filter (fun q => !(q.1 == i) && !(q.1 + 1 == i && q.2.category == 2)) = lv') (k : Wd κ nL Q (pc + 3) lv' st σ) : Wd κ nL Q pc lv st σ :=
  fun H locs ls hP hS h => lv_iinc hc.1 hc.2.1 hd h hq (by rw [hv]) hn hl (fun ls' h' => k H locs ls' hP hS h')
theorem r_iadd {x y : Int32} (hc : Cx κ cc nL own d ret) (hd : decode cc pc = .ok (.iadd, 1))  (k : Wd κ nL Q (pc + 1) lv (.int (x + y) :: st) σ) : Wd κ nL Q pc lv (.int y :: .int x :: st) σ :=
  fun H locs ls hP hS hl => lv_iadd hc.1 hc.2.1 hd (k H locs ls hP hS hl)
theorem r_isub {x y : Int32} (hc : Cx κ cc nL own d ret) (hd : decode cc pc = .ok (.isub, 1))  (k : Wd κ nL Q (pc + 1) lv (.int (x - y) :: st) σ) : Wd κ nL Q pc lv (.int y :: .int x :: st) σ :=
  fun H locs ls hP hS hl => lv_isub hc.1 hc.2.1 hd (k H locs ls hP hS hl)
theorem r_imul {x y : Int32} (hc : Cx κ cc nL own d ret) (hd : decode cc pc = .ok (.imul, 1))  (k : Wd κ nL Q (pc + 1) lv (.int (x * y) :: st) σ) : Wd κ nL Q pc lv (.int y :: .int x :: st) σ :=
  fun H locs ls hP hS hl => lv_imul hc.1 hc.2.1 hd (k H locs ls hP hS hl)
theorem r_iand {x y : Int32} (hc : Cx κ cc nL own d ret) (hd : decode cc pc = .ok (.iand, 1))  (k : Wd κ nL Q (pc + 1) lv (.int (x &&& y) :: st) σ) : Wd κ nL Q pc lv (.int y :: .int x :: st) σ :=
  fun H locs ls hP hS hl => lv_iand hc.1 hc.2.1 hd (k H locs ls hP hS hl)
theorem r_ior {x y : Int32} (hc : Cx κ cc nL own d ret) (hd : decode cc pc = .ok (.ior, 1))  (k : Wd κ nL Q (pc + 1) lv (.int (x ||| y) :: st) σ) : Wd κ nL Q pc lv (.int y :: .int x :: st) σ :=
  fun H locs ls hP hS hl => lv_ior hc.1 hc.2.1 hd (k H locs ls hP hS hl)
theorem r_ixor {x y : Int32} (hc : Cx κ cc nL own d ret) (hd : decode cc pc = .ok (.ixor, 1))  (k : Wd κ nL Q (pc + 1) lv (.int (x ^^^ y) :: st) σ) : Wd κ nL Q pc lv (.int y :: .int x :: st) σ :=
  fun H locs ls hP hS hl => lv_ixor hc.1 hc.2.1 hd (k H locs ls hP hS hl)
theorem r_ishl {x y : Int32} (hc : Cx κ cc nL own d ret) (hd : decode cc pc = .ok (.ishl, 1))  (k : Wd κ nL Q (pc + 1) lv (.int (x <<< (y &&& 31)) :: st) σ) : Wd κ nL Q pc lv (.int y :: .int x :: st) σ :=
  fun H locs ls hP hS hl => lv_ishl hc.1 hc.2.1 hd (k H locs ls hP hS hl)
theorem r_ishr {x y : Int32} (hc : Cx κ cc nL own d ret) (hd : decode cc pc = .ok (.ishr, 1))  (k : Wd κ nL Q (pc + 1) lv (.int (x >>> (y &&& 31)) :: st) σ) : Wd κ nL Q pc lv (.int y :: .int x :: st) σ :=
  fun H locs ls hP hS hl => lv_ishr hc.1 hc.2.1 hd (k H locs ls hP hS hl)
theorem r_ladd {x y : Int64} (hc : Cx κ cc nL own d ret) (hd : decode cc pc = .ok (.ladd, 1))  (k : Wd κ nL Q (pc + 1) lv (.long (x + y) :: st) σ) : Wd κ nL Q pc lv (.long y :: .long x :: st) σ :=
  fun H locs ls hP hS hl => lv_ladd hc.1 hc.2.1 hd (k H locs ls hP hS hl)
theorem r_lsub {x y : Int64} (hc : Cx κ cc nL own d ret) (hd : decode cc pc = .ok (.lsub, 1))  (k : Wd κ nL Q (pc + 1) lv (.long (x - y) :: st) σ) : Wd κ nL Q pc lv (.long y :: .long x :: st) σ :=
  fun H locs ls hP hS hl => lv_lsub hc.1 hc.2.1 hd (k H locs ls hP hS hl)
theorem r_lmul {x y : Int64} (hc : Cx κ cc nL own d ret) (hd : decode cc pc = .ok (.lmul, 1))  (k : Wd κ nL Q (pc + 1) lv (.long (x * y) :: st) σ) : Wd κ nL Q pc lv (.long y :: .long x :: st) σ :=
  fun H locs ls hP hS hl => lv_lmul hc.1 hc.2.1 hd (k H locs ls hP hS hl)
theorem r_lcmp {x y : Int64} (hc : Cx κ cc nL own d ret) (hd : decode cc pc = .ok (.lcmp, 1))  (k : Wd κ nL Q (pc + 1) lv (.int (lg_cmp x y) :: st) σ) : Wd κ nL Q pc lv (.long y :: .long x :: st) σ :=
  fun H locs ls hP hS hl => W.lcmp hc.1 hc.2.1 hd (k H locs ls hP hS hl)
theorem r_ineg {x : Int32} (hc : Cx κ cc nL own d ret) (hd : decode cc pc = .ok (.ineg, 1))  (k : Wd κ nL Q (pc + 1) lv (.int (-x) :: st) σ) : Wd κ nL Q pc lv (.int x :: st) σ :=
  fun H locs ls hP hS hl => lv_ineg hc.1 hc.2.1 hd (k H locs ls hP hS hl)
theorem r_i2l {x : Int32} (hc : Cx κ cc nL own d ret) (hd : decode cc pc = .ok (.i2l, 1))  (k : Wd κ nL Q (pc + 1) lv (.long x.toInt64 :: st) σ) : Wd κ nL Q pc lv (.int x :: st) σ :=
  fun H locs ls hP hS hl => lv_i2l hc.1 hc.2.1 hd rfl (k H locs ls hP hS hl)
theorem r_l2i {x : Int64} (hc : Cx κ cc nL own d ret) (hd : decode cc pc = .ok (.l2i, 1))  (k : Wd κ nL Q (pc + 1) lv (.int x.toInt32 :: st) σ) : Wd κ nL Q pc lv (.long x :: st) σ :=
  fun H locs ls hP hS hl => lv_l2i hc.1 hc.2.1 hd rfl (k H locs ls hP hS hl)
theorem r_i2b {x : Int32} (hc : Cx κ cc nL own d ret) (hd : decode cc pc = .ok (.i2b, 1))  (k : Wd κ nL Q (pc + 1) lv (.int x.toInt8.toInt32 :: st) σ) : Wd κ nL Q pc lv (.int x :: st) σ :=
  fun H locs ls hP hS hl => lv_i2b hc.1 hc.2.1 hd rfl (k H locs ls hP hS hl)
theorem r_i2s {x : Int32} (hc : Cx κ cc nL own d ret) (hd : decode cc pc = .ok (.i2s, 1))  (k : Wd κ nL Q (pc + 1) lv (.int x.toInt16.toInt32 :: st) σ) : Wd κ nL Q pc lv (.int x :: st) σ :=
  fun H locs ls hP hS hl => lv_i2s hc.1 hc.2.1 hd rfl (k H locs ls hP hS hl)
theorem r_iushr {x y : Int32} (hc : Cx κ cc nL own d ret) (hd : decode cc pc = .ok (.iushr, 1))  (k : Wd κ nL Q (pc + 1) lv (.int (x.toUInt32 >>> (y.toUInt32 &&& Int32.toUInt32 31)).toInt32 :: st) σ) : Wd κ nL Q pc lv (.int y :: .int x :: st) σ :=
  fun H locs ls hP hS hl => lv_iushr hc.1 hc.2.1 hd rfl (k H locs ls hP hS hl)
theorem r_dup {v : Value} (hc : Cx κ cc nL own d ret) (hd : decode cc pc = .ok (.dup, 1)) (hv : v.category = 1) (k : Wd κ nL Q (pc + 1) lv (v :: v :: st) σ) : Wd κ nL Q pc lv (v :: st) σ :=
  fun H locs ls hP hS hl => lv_dup hc.1 hc.2.1 hd hv (k H locs ls hP hS hl)
theorem r_pop {v : Value} (hc : Cx κ cc nL own d ret) (hd : decode cc pc = .ok (.pop, 1)) (hv : v.category = 1) (k : Wd κ nL Q (pc + 1) lv (st) σ) : Wd κ nL Q pc lv (v :: st) σ :=
  fun H locs ls hP hS hl => lv_pop hc.1 hc.2.1 hd hv (k H locs ls hP hS hl)
theorem r_dup2 {v u : Value} (hc : Cx κ cc nL own d ret) (hd : decode cc pc = .ok (.dup2, 1)) (hv : v.category = 1) (hu : u.category = 1) (k : Wd κ nL Q (pc + 1) lv (v :: u :: v :: u :: st) σ) : Wd κ nL Q pc lv (v :: u :: st) σ :=
  fun H locs ls hP hS hl => lv_dup2_11 hc.1 hc.2.1 hd hv hu (k H locs ls hP hS hl)
theorem r_goto {off : Int} (tgt : Nat) (hc : Cx κ cc nL own d ret) (hd : decode cc pc = .ok (.goto off, 3)) (ht : (pc : Int) + off = (tgt : Int)) (k : Wd κ nL Q tgt lv st σ) : Wd κ nL Q pc lv st σ :=
  fun H locs ls hP hS hl => lv_goto hc.1 hc.2.1 hd ht (k H locs ls hP hS hl)
theorem r_idiv {x y : Int32} {B : Prop} (hc : Cx κ cc nL own d ret) (hd : decode cc pc = .ok (.idiv, 1)) (h : ¬ y = 0 ∧ B) (k : B → Wd κ nL Q (pc + 1) lv (.int (x / y) :: st) σ) : Wd κ nL Q pc lv (.int y :: .int x :: st) σ :=
  fun H locs ls hP hS hl => lv_idiv hc.1 hc.2.1 hd h.1 (k h.2 H locs ls hP hS hl)
theorem r_irem {x y : Int32} {B : Prop} (hc : Cx κ cc nL own d ret) (hd : decode cc pc = .ok (.irem, 1)) (h : ¬ y = 0 ∧ B) (k : B → Wd κ nL Q (pc + 1) lv (.int (x % y) :: st) σ) : Wd κ nL Q pc lv (.int y :: .int x :: st) σ :=
  fun H locs ls hP hS hl => lv_irem hc.1 hc.2.1 hd h.1 (by rw [irem_eq_mod x y]; exact k h.2 H locs ls hP hS hl)
theorem r_ldiv {x y : Int64} {B : Prop} (hc : Cx κ cc nL own d ret) (hd : decode cc pc = .ok (.ldiv, 1)) (h : ¬ y = 0 ∧ B) (k : B → Wd κ nL Q (pc + 1) lv (.long (x / y) :: st) σ) : Wd κ nL Q pc lv (.long y :: .long x :: st) σ :=
  fun H locs ls hP hS hl => lv_ldiv hc.1 hc.2.1 hd h.1 (k h.2 H locs ls hP hS hl)
theorem r_lrem {x y : Int64} {B : Prop} (hc : Cx κ cc nL own d ret) (hd : decode cc pc = .ok (.lrem, 1)) (h : ¬ y = 0 ∧ B) (k : B → Wd κ nL Q (pc + 1) lv (.long (x % y) :: st) σ) : Wd κ nL Q pc lv (.long y :: .long x :: st) σ :=
  fun H locs ls hP hS hl => lv_lrem hc.1 hc.2.1 hd h.1 (by rw [lrem_eq_mod x y]; exact k h.2 H locs ls hP hS hl)
theorem r_if_eq {x : Int32} {off : Int} {B C : Prop} (tgt : Nat) (hc : Cx κ cc nL own d ret) (hd : decode cc pc = .ok (.ifCond .eq off, 3)) (ht : (pc : Int) + off = (tgt : Int)) (h : if x = 0 then B else C) (kt : B → Wd κ nL Q (tgt) lv st σ) (kf : C → Wd κ nL Q (pc + 3) lv st σ) : Wd κ nL Q pc lv (.int x :: st) σ := by
  intro H locs ls hP hS hl
  refine lv_if_eq hc.1 hc.2.1 hd ht (fun q => ?_) (fun q => ?_)
  · first | (rw [if_pos q] at h; exact kt h H locs ls hP hS hl) | (rw [if_neg q] at h; exact kf h H locs ls hP hS hl)
  · first | (rw [if_pos q] at h; exact kt h H locs ls hP hS hl) | (rw [if_neg q] at h; exact kf h H locs ls hP hS hl)
theorem r_if_ne {x : Int32} {off : Int} {B C : Prop} (tgt : Nat) (hc : Cx κ cc nL own d ret) (hd : decode cc pc = .ok (.ifCond .ne off, 3)) (ht : (pc : Int) + off = (tgt : Int)) (h : if x = 0 then B else C) (kt : B → Wd κ nL Q (pc + 3) lv st σ) (kf : C → Wd κ nL Q (tgt) lv st σ) : Wd κ nL Q pc lv (.int x :: st) σ := by
  intro H locs ls hP hS hl
  refine lv_if_ne hc.1 hc.2.1 hd ht (fun q => ?_) (fun q => ?_)
  · first | (rw [if_pos q] at h; exact kt h H locs ls hP hS hl) | (rw [if_neg q] at h; exact kf h H locs ls hP hS hl)
  · first | (rw [if_pos q] at h; exact kt h H locs ls hP hS hl) | (rw [if_neg q] at h; exact kf h H locs ls hP hS hl)
theorem r_if_lt {x : Int32} {off : Int} {B C : Prop} (tgt : Nat) (hc : Cx κ cc nL own d ret) (hd : decode cc pc = .ok (.ifCond .lt off, 3)) (ht : (pc : Int) + off = (tgt : Int)) (h : if x < 0 then B else C) (kt : B → Wd κ nL Q (tgt) lv st σ) (kf : C → Wd κ nL Q (pc + 3) lv st σ) : Wd κ nL Q pc lv (.int x :: st) σ := by
  intro H locs ls hP hS hl
  refine lv_if_lt hc.1 hc.2.1 hd ht (fun q => ?_) (fun q => ?_)
  · first | (rw [if_pos q] at h; exact kt h H locs ls hP hS hl) | (rw [if_neg q] at h; exact kf h H locs ls hP hS hl)
  · first | (rw [if_pos q] at h; exact kt h H locs ls hP hS hl) | (rw [if_neg q] at h; exact kf h H locs ls hP hS hl)
theorem r_if_ge {x : Int32} {off : Int} {B C : Prop} (tgt : Nat) (hc : Cx κ cc nL own d ret) (hd : decode cc pc = .ok (.ifCond .ge off, 3)) (ht : (pc : Int) + off = (tgt : Int)) (h : if 0 ≤ x then B else C) (kt : B → Wd κ nL Q (tgt) lv st σ) (kf : C → Wd κ nL Q (pc + 3) lv st σ) : Wd κ nL Q pc lv (.int x :: st) σ := by
  intro H locs ls hP hS hl
  refine lv_if_ge hc.1 hc.2.1 hd ht (fun q => ?_) (fun q => ?_)
  · first | (rw [if_pos q] at h; exact kt h H locs ls hP hS hl) | (rw [if_neg q] at h; exact kf h H locs ls hP hS hl)
  · first | (rw [if_pos q] at h; exact kt h H locs ls hP hS hl) | (rw [if_neg q] at h; exact kf h H locs ls hP hS hl)
theorem r_if_gt {x : Int32} {off : Int} {B C : Prop} (tgt : Nat) (hc : Cx κ cc nL own d ret) (hd : decode cc pc = .ok (.ifCond .gt off, 3)) (ht : (pc : Int) + off = (tgt : Int)) (h : if 0 < x then B else C) (kt : B → Wd κ nL Q (tgt) lv st σ) (kf : C → Wd κ nL Q (pc + 3) lv st σ) : Wd κ nL Q pc lv (.int x :: st) σ := by
  intro H locs ls hP hS hl
  refine lv_if_gt hc.1 hc.2.1 hd ht (fun q => ?_) (fun q => ?_)
  · first | (rw [if_pos q] at h; exact kt h H locs ls hP hS hl) | (rw [if_neg q] at h; exact kf h H locs ls hP hS hl)
  · first | (rw [if_pos q] at h; exact kt h H locs ls hP hS hl) | (rw [if_neg q] at h; exact kf h H locs ls hP hS hl)
theorem r_if_le {x : Int32} {off : Int} {B C : Prop} (tgt : Nat) (hc : Cx κ cc nL own d ret) (hd : decode cc pc = .ok (.ifCond .le off, 3)) (ht : (pc : Int) + off = (tgt : Int)) (h : if x ≤ 0 then B else C) (kt : B → Wd κ nL Q (tgt) lv st σ) (kf : C → Wd κ nL Q (pc + 3) lv st σ) : Wd κ nL Q pc lv (.int x :: st) σ := by
  intro H locs ls hP hS hl
  refine lv_if_le hc.1 hc.2.1 hd ht (fun q => ?_) (fun q => ?_)
  · first | (rw [if_pos q] at h; exact kt h H locs ls hP hS hl) | (rw [if_neg q] at h; exact kf h H locs ls hP hS hl)
  · first | (rw [if_pos q] at h; exact kt h H locs ls hP hS hl) | (rw [if_neg q] at h; exact kf h H locs ls hP hS hl)
theorem r_icmp_eq {x y : Int32} {off : Int} {B C : Prop} (tgt : Nat) (hc : Cx κ cc nL own d ret) (hd : decode cc pc = .ok (.if_icmp .eq off, 3)) (ht : (pc : Int) + off = (tgt : Int)) (h : if x = y then B else C) (kt : B → Wd κ nL Q (tgt) lv st σ) (kf : C → Wd κ nL Q (pc + 3) lv st σ) : Wd κ nL Q pc lv (.int y :: .int x :: st) σ := by
  intro H locs ls hP hS hl
  refine lv_icmp_eq hc.1 hc.2.1 hd ht (fun q => ?_) (fun q => ?_)
  · first | (rw [if_pos q] at h; exact kt h H locs ls hP hS hl) | (rw [if_neg q] at h; exact kf h H locs ls hP hS hl)
  · first | (rw [if_pos q] at h; exact kt h H locs ls hP hS hl) | (rw [if_neg q] at h; exact kf h H locs ls hP hS hl)
theorem r_icmp_ne {x y : Int32} {off : Int} {B C : Prop} (tgt : Nat) (hc : Cx κ cc nL own d ret) (hd : decode cc pc = .ok (.if_icmp .ne off, 3)) (ht : (pc : Int) + off = (tgt : Int)) (h : if x = y then B else C) (kt : B → Wd κ nL Q (pc + 3) lv st σ) (kf : C → Wd κ nL Q (tgt) lv st σ) : Wd κ nL Q pc lv (.int y :: .int x :: st) σ := by
  intro H locs ls hP hS hl
  refine lv_icmp_ne hc.1 hc.2.1 hd ht (fun q => ?_) (fun q => ?_)
  · first | (rw [if_pos q] at h; exact kt h H locs ls hP hS hl) | (rw [if_neg q] at h; exact kf h H locs ls hP hS hl)
  · first | (rw [if_pos q] at h; exact kt h H locs ls hP hS hl) | (rw [if_neg q] at h; exact kf h H locs ls hP hS hl)
theorem r_icmp_lt {x y : Int32} {off : Int} {B C : Prop} (tgt : Nat) (hc : Cx κ cc nL own d ret) (hd : decode cc pc = .ok (.if_icmp .lt off, 3)) (ht : (pc : Int) + off = (tgt : Int)) (h : if x < y then B else C) (kt : B → Wd κ nL Q (tgt) lv st σ) (kf : C → Wd κ nL Q (pc + 3) lv st σ) : Wd κ nL Q pc lv (.int y :: .int x :: st) σ := by
  intro H locs ls hP hS hl
  refine lv_icmp_lt hc.1 hc.2.1 hd ht (fun q => ?_) (fun q => ?_)
  · first | (rw [if_pos q] at h; exact kt h H locs ls hP hS hl) | (rw [if_neg q] at h; exact kf h H locs ls hP hS hl)
  · first | (rw [if_pos q] at h; exact kt h H locs ls hP hS hl) | (rw [if_neg q] at h; exact kf h H locs ls hP hS hl)
theorem r_icmp_ge {x y : Int32} {off : Int} {B C : Prop} (tgt : Nat) (hc : Cx κ cc nL own d ret) (hd : decode cc pc = .ok (.if_icmp .ge off, 3)) (ht : (pc : Int) + off = (tgt : Int)) (h : if y ≤ x then B else C) (kt : B → Wd κ nL Q (tgt) lv st σ) (kf : C → Wd κ nL Q (pc + 3) lv st σ) : Wd κ nL Q pc lv (.int y :: .int x :: st) σ := by
  intro H locs ls hP hS hl
  refine lv_icmp_ge hc.1 hc.2.1 hd ht (fun q => ?_) (fun q => ?_)
  · first | (rw [if_pos q] at h; exact kt h H locs ls hP hS hl) | (rw [if_neg q] at h; exact kf h H locs ls hP hS hl)
  · first | (rw [if_pos q] at h; exact kt h H locs ls hP hS hl) | (rw [if_neg q] at h; exact kf h H locs ls hP hS hl)
theorem r_icmp_gt {x y : Int32} {off : Int} {B C : Prop} (tgt : Nat) (hc : Cx κ cc nL own d ret) (hd : decode cc pc = .ok (.if_icmp .gt off, 3)) (ht : (pc : Int) + off = (tgt : Int)) (h : if y < x then B else C) (kt : B → Wd κ nL Q (tgt) lv st σ) (kf : C → Wd κ nL Q (pc + 3) lv st σ) : Wd κ nL Q pc lv (.int y :: .int x :: st) σ := by
  intro H locs ls hP hS hl
  refine lv_icmp_gt hc.1 hc.2.1 hd ht (fun q => ?_) (fun q => ?_)
  · first | (rw [if_pos q] at h; exact kt h H locs ls hP hS hl) | (rw [if_neg q] at h; exact kf h H locs ls hP hS hl)
  · first | (rw [if_pos q] at h; exact kt h H locs ls hP hS hl) | (rw [if_neg q] at h; exact kf h H locs ls hP hS hl)
theorem r_icmp_le {x y : Int32} {off : Int} {B C : Prop} (tgt : Nat) (hc : Cx κ cc nL own d ret) (hd : decode cc pc = .ok (.if_icmp .le off, 3)) (ht : (pc : Int) + off = (tgt : Int)) (h : if x ≤ y then B else C) (kt : B → Wd κ nL Q (tgt) lv st σ) (kf : C → Wd κ nL Q (pc + 3) lv st σ) : Wd κ nL Q pc lv (.int y :: .int x :: st) σ := by
  intro H locs ls hP hS hl
  refine lv_icmp_le hc.1 hc.2.1 hd ht (fun q => ?_) (fun q => ?_)
  · first | (rw [if_pos q] at h; exact kt h H locs ls hP hS hl) | (rw [if_neg q] at h; exact kf h H locs ls hP hS hl)
  · first | (rw [if_pos q] at h; exact kt h H locs ls hP hS hl) | (rw [if_neg q] at h; exact kf h H locs ls hP hS hl)
theorem r_tswIn {dflt lo hi off : Int} {offs : Array Int} {len : Nat} {x : Int32} (y : Int32) (tgt : Nat) (hc : Cx κ cc nL own d ret) (hd : decode cc pc = .ok (.tableswitch dflt lo hi offs, len)) (hxy : x = y) (h1 : ¬ y.toInt < lo) (h2 : ¬ hi < y.toInt) (ho : offs[(y.toInt - lo).toNat]? = some off) (ht : (pc : Int) + off = (tgt : Int)) (k : Wd κ nL Q tgt lv st σ) : Wd κ nL Q pc lv (.int x :: st) σ :=
  fun H locs ls hP hS hl => lv_tableIn hc.1 hc.2.1 hd (by rw [hxy]; exact h1) (by rw [hxy]; exact h2) (by rw [hxy]; exact ho) ht (k H locs ls hP hS hl)
theorem r_tswOut {dflt lo hi : Int} {offs : Array Int} {len : Nat} {x : Int32} (tgt : Nat) (hc : Cx κ cc nL own d ret) (hd : decode cc pc = .ok (.tableswitch dflt lo hi offs, len)) (h : x.toInt < lo ∨ hi < x.toInt) (ht : (pc : Int) + dflt = (tgt : Int)) (k : Wd κ nL Q tgt lv st σ) : Wd κ nL Q pc lv (.int x :: st) σ :=
  fun H locs ls hP hS hl => lv_tableOut hc.1 hc.2.1 hd h ht (k H locs ls hP hS hl)
theorem r_lsw {dflt off : Int} {ps : Array (Int × Int)} {len : Nat} {x : Int32} (tgt : Nat) (hc : Cx κ cc nL own d ret) (hd : decode cc pc = .ok (.lookupswitch dflt ps, len)) (hp : (ps.toList.zip (ps.toList.drop 1)).all (fun (a, next) => a.1 < next.1) = true) (ho : Op.lookupswitch.offset ps.toList dflt x.toInt = off) (ht : (pc : Int) + off = (tgt : Int)) (k : Wd κ nL Q tgt lv st σ) : Wd κ nL Q pc lv (.int x :: st) σ :=
  fun H locs ls hP hS hl => lv_lookup hc.1 hc.2.1 hd hp ho ht (k H locs ls hP hS hl)
theorem r_sub (ks : List Nat) (hk : lv_pick lv ks = lv') (k : Wd κ nL Q pc lv' st σ) : Wd κ nL Q pc lv st σ :=
  fun H locs ls hP hS hl => k H locs ls hP hS (lv_sub hl ks hk)
theorem r_get {T : u_T} {N K f o index : Nat} {C : String} {v : Value} (hc : Cx κ cc nL own d ret) (hd : decode cc pc = .ok (.getfield index, 3)) (hw : Cond.fieldLink own index C (T f).2.1 (T f).2.2.1 ∈ TB) (hin : ∀ w ∈ u_ws C T N, w ∈ TB) (hcl : vwCl[K]? = some (C, T, N)) (hT : (T f).1 = C) (hf : f < N) (hK : K < 8) (ho : kd o = K) (hv : (flds κ.2.2.1 (σ o) o K)[f]? = some v) (k : Wd κ nL Q (pc + 3) lv (v :: st) σ) : Wd κ nL Q pc lv (aK κ o :: st) σ :=
  fun H locs ls hP hS hl => va_get (D := κ.2.2.2.1) (ci := K) (C := C) (T := T) (N := N) hc.1 hc.2.1 hc.2.2.2.2.1 hin hc.2.2.2.1 hc.2.2.2.2.2.1 hP o (wd_obj κ.2.2 σ ho hK) hcl f hf (hc.2.2.2.2.1 _ hw) (fun x h => by rw [hT] at h; exact h) hv hd (k H locs ls hP hS hl)
theorem flds_up (ad : Nat → Nat) (r : Nat → Int32) (i K f : Nat) (v x : Int32) (h : (flds ad r i K)[f]? = some (.int x)) : flds ad (upd r f v) i K = (flds ad r i K).set f (.int v) := by
  match K, f, h with
  | 0, 0, h => exact absurd h (by simp [flds])
  | 0, 1, h => exact absurd h (by simp [flds])
  | 0, 2, h => exact absurd h (by simp [flds])
  | 0, 3, _ => rfl
  | 0, 4, _ => rfl
  | 0, n + 5, h => exact absurd h (by simp [flds])
  | 1, 0, h => exact absurd h (by simp [flds])
  | 1, 1, _ => rfl
  | 1, n + 2, h => exact absurd h (by simp [flds])
  | 2, 0, h => exact absurd h (by simp [flds])
  | 2, 1, _ => rfl
  | 2, 2, _ => rfl
  | 2, 3, _ => rfl
  | 2, n + 4, h => exact absurd h (by simp [flds])
  | 3, 0, h => exact absurd h (by simp [flds])
  | 3, 1, _ => rfl
  | 3, 2, _ => rfl
  | 3, 3, _ => rfl
  | 3, 4, _ => rfl
  | 3, n + 5, h => exact absurd h (by simp [flds])
  | 4, 0, h => exact absurd h (by simp [flds])
  | 4, 1, _ => rfl
  | 4, 2, _ => rfl
  | 4, n + 3, h => exact absurd h (by simp [flds])
  | 5, 0, h => exact absurd h (by simp [flds])
  | 5, 1, h => exact absurd h (by simp [flds])
  | 5, 2, h => exact absurd h (by simp [flds])
  | 5, 3, h => exact absurd h (by simp [flds])
  | 5, 4, h => exact absurd h (by simp [flds])
  | 5, 5, h => exact absurd h (by simp [flds])
  | 5, 6, h => exact absurd h (by simp [flds])
  | 5, 7, h => exact absurd h (by simp [flds])
  | 5, 8, _ => rfl
  | 5, 9, _ => rfl
  | 5, 10, _ => rfl
  | 5, 11, _ => rfl
  | 5, 12, _ => rfl
  | 5, n + 13, h => exact absurd h (by simp [flds])
  | 6, 0, h => exact absurd h (by simp [flds])
  | 6, 1, h => exact absurd h (by simp [flds])
  | 6, 2, h => exact absurd h (by simp [flds])
  | 6, 3, h => exact absurd h (by simp [flds])
  | 6, 4, h => exact absurd h (by simp [flds])
  | 6, 5, h => exact absurd h (by simp [flds])
  | 6, 6, h => exact absurd h (by simp [flds])
  | 6, 7, h => exact absurd h (by simp [flds])
  | 6, 8, _ => rfl
  | 6, 9, _ => rfl
  | 6, n + 10, h => exact absurd h (by simp [flds])
  | 7, 0, h => exact absurd h (by simp [flds])
  | 7, 1, h => exact absurd h (by simp [flds])
  | 7, 2, h => exact absurd h (by simp [flds])
  | 7, 3, _ => rfl
  | 7, 4, _ => rfl
  | 7, 5, h => exact absurd h (by simp [flds])
  | 7, 6, _ => rfl
  | 7, 7, _ => rfl
  | 7, 8, _ => rfl
  | 7, 9, _ => rfl
  | 7, 10, _ => rfl
  | 7, 11, _ => rfl
  | 7, 12, h => exact absurd h (by simp [flds])
  | 7, 13, h => exact absurd h (by simp [flds])
  | 7, 14, h => exact absurd h (by simp [flds])
  | 7, 15, h => exact absurd h (by simp [flds])
  | 7, 16, h => exact absurd h (by simp [flds])
  | 7, 17, h => exact absurd h (by simp [flds])
  | 7, 18, _ => rfl
  | 7, 19, h => exact absurd h (by simp [flds])
  | 7, 20, _ => rfl
  | 7, 21, h => exact absurd h (by simp [flds])
  | 7, 22, h => exact absurd h (by simp [flds])
  | 7, n + 23, h => exact absurd h (by simp [flds])
  | n + 8, f, h => exact absurd h (by simp [flds])
theorem st_up_same (σ : St) (i j : Nat) (v : Int32) : st_up σ i j v i = upd (σ i) j v := by unfold st_up; rw [if_pos rfl]
theorem st_up_ne (σ : St) {i a : Nat} (j : Nat) (v : Int32) (h : a ≠ i) : st_up σ i j v a = σ a := by unfold st_up; rw [if_neg h]
theorem wd_put (Γ : Gm) (σ : St) {i K f : Nat} {x : Int32} (v : Int32) (hi : kd i = K) (hK : K < 8) (hf : (flds Γ.1 (σ i) i K)[f]? = some (.int x)) : (wd Γ σ).set i (Γ.1 i, .inr (K, (flds Γ.1 (σ i) i K).set f (.int v))) = wd Γ (st_up σ i f v) := by
  refine wd_set Γ (kd_lt hi (by omega)) ?_ (fun j hj => st_up_ne σ f v hj)
  rw [st_up_same, hi]
  unfold cellK
  rw [if_neg (by omega), if_neg (by omega), if_neg (by omega), if_neg (by omega), flds_up _ _ _ _ _ _ _ hf]
theorem wd_sto (Γ : Gm) (σ : St) {i : Nat} (j : Nat) (v : Int32) (hi : kd i = 8) : (wd Γ σ).set i (Γ.1 i, .inl (Γ.2.2.1.1, ln i, .inl (upd (σ i) j v))) = wd Γ (st_up σ i j v) := by
  refine wd_set Γ (kd_lt hi (by omega)) ?_ (fun a ha => st_up_ne σ j v ha)
  rw [st_up_same, hi]; rfl
theorem wd_stz (Γ : Gm) (σ : St) {i : Nat} (j : Nat) (v : Int32) (hi : kd i = 9) : (wd Γ σ).set i (Γ.1 i, .inl (Γ.2.2.1.2.1, ln i, .inl (upd (σ i) j v))) = wd Γ (st_up σ i j v) := by
  refine wd_set Γ (kd_lt hi (by omega)) ?_ (fun a ha => st_up_ne σ j v ha)
  rw [st_up_same, hi]; rfl
theorem wd_cpy (Γ : Gm) (σ : St) {a b : Nat} (sp dp n : Nat) (hb : kd b = 8) : (wd Γ σ).set b (Γ.1 b, .inl (Γ.2.2.1.1, ln b, .inl (va_cpy (σ a) (σ b) sp dp n))) = wd Γ (st_cp σ a sp b dp n) := by
  refine wd_set Γ (kd_lt hb (by omega)) ?_ (fun j hj => by unfold st_cp; rw [if_neg hj])
  unfold st_cp; rw [if_pos rfl, hb]; rfl
theorem r_put {T : u_T} {ty0 : Nat → FieldType} {N K f o index : Nat} {C : String} {x v : Int32} (hc : Cx κ cc nL own d ret) (hd : decode cc pc = .ok (.putfield index, 3)) (hw : Cond.fieldLink own index C (T f).2.1 (T f).2.2.1 ∈ TB) (hin : ∀ w ∈ u_ws C T N, w ∈ TB) (hty : ∀ k, k < N → parseFieldDescriptor (T k).2.2.1 = some (ty0 k)) (hnm : ∀ a, a < N → ∀ b, b < N → a ≠ b → (T a).2.1 ≠ (T b).2.1) (hcl : vwCl[K]? = some (C, T, N)) (hT : (T f).1 = C) (hfin : (T f).2.2.2 = false) (hI : ty0 f = .int) (hf : f < N) (hK : K < 8) (ho : kd o = K) (hv : (flds κ.2.2.1 (σ o) o K)[f]? = some (.int x)) (k : Wd κ nL Q (pc + 3) lv st (st_up σ o f v)) : Wd κ nL Q pc lv (.int v :: aK κ o :: st) σ := by
  intro H locs ls hP hS hl
  refine va_put (D := κ.2.2.2.1) (ci := K) (C := C) (T := T) (N := N) (A := AA κ.2.2) hc.1 hc.2.1 hc.2.2.2.2.1 hin ty0 hty hnm hc.2.2.2.1 hc.2.2.2.2.2.1 hP (wd_D hc.2.2.2.2.2.2.1 σ) hS o (wd_obj κ.2.2 σ ho hK) hcl f hf (hc.2.2.2.2.1 _ hw) (fun x h => by rw [hT] at h; exact h) hfin (ty := .int) (by rw [hty f hf, hI]) rfl rfl (List.getElem?_eq_some_iff.mp hv).1 hd (fun H1 locs1 hP1 _ hS1 => ?_)
  rw [wd_put κ.2.2 σ v ho hK hv] at hP1
  exact k H1 locs1 ls hP1 hS1 hl
theorem r_iald {o : Nat} {i : Int32} {B : Prop} (hc : Cx κ cc nL own d ret) (hd : decode cc pc = .ok (.iaload, 1)) (ho : kd o = 8) (h : vp_in i (ln o) ∧ B) (k : B → Wd κ nL Q (pc + 1) lv (.int (σ o i.toNatClampNeg) :: st) σ) : Wd κ nL Q pc lv (.int i :: aK κ o :: st) σ :=
  fun H locs ls hP hS hl => va_iald (D := κ.2.2.2.1) hc.1 hc.2.1 hc.2.2.2.2.2.1 hP o 0 (wd_int κ.2.2 σ ho) rfl h.1 hd (k h.2 H locs ls hP hS hl)
theorem r_iast {o : Nat} {i v : Int32} {B : Prop} (hc : Cx κ cc nL own d ret) (hd : decode cc pc = .ok (.iastore, 1)) (ho : kd o = 8) (h : vp_in i (ln o) ∧ B) (k : B → Wd κ nL Q (pc + 1) lv st (st_up σ o i.toNatClampNeg v)) : Wd κ nL Q pc lv (.int v :: .int i :: aK κ o :: st) σ := by
  intro H locs ls hP hS hl
  refine va_iast (D := κ.2.2.2.1) (A := AA κ.2.2) hc.1 hc.2.1 hc.2.2.2.2.2.1 hP (wd_D hc.2.2.2.2.2.2.1 σ) hS o 0 (wd_int κ.2.2 σ ho) rfl h.1 hd (fun H1 locs1 hP1 _ hS1 => ?_)
  rw [wd_sto κ.2.2 σ _ v ho] at hP1
  exact k h.2 H1 locs1 ls hP1 hS1 hl
theorem r_zald {o : Nat} {i : Int32} {B : Prop} (hc : Cx κ cc nL own d ret) (hd : decode cc pc = .ok (.baload, 1)) (ho : kd o = 9) (h : vp_in i (ln o) ∧ B) (k : B → Wd κ nL Q (pc + 1) lv (.int (σ o i.toNatClampNeg) :: st) σ) : Wd κ nL Q pc lv (.int i :: aK κ o :: st) σ :=
  fun H locs ls hP hS hl => va_zald (D := κ.2.2.2.1) hc.1 hc.2.1 hc.2.2.2.2.2.1 hP o 1 (wd_boo κ.2.2 σ ho) rfl h.1 hd (k h.2 H locs ls hP hS hl)
theorem r_zast1 {o : Nat} {i : Int32} {B : Prop} (hc : Cx κ cc nL own d ret) (hd : decode cc pc = .ok (.bastore, 1)) (ho : kd o = 9) (h : vp_in i (ln o) ∧ B) (k : B → Wd κ nL Q (pc + 1) lv st (st_up σ o i.toNatClampNeg 1)) : Wd κ nL Q pc lv (.int 1 :: .int i :: aK κ o :: st) σ := by
  intro H locs ls hP hS hl
  refine va_zast (D := κ.2.2.2.1) (A := AA κ.2.2) hc.1 hc.2.1 hc.2.2.2.2.2.1 hP (wd_D hc.2.2.2.2.2.2.1 σ) hS o 1 (wd_boo κ.2.2 σ ho) rfl h.1 hd (fun H1 locs1 hP1 _ hS1 => ?_)
  rw [show vp_nar .boolean 1 = 1 by decide, wd_stz κ.2.2 σ _ 1 ho] at hP1
  exact k h.2 H1 locs1 ls hP1 hS1 hl
theorem r_rows {i : Int32} {B : Prop} (hc : Cx κ cc nL own d ret) (hd : decode cc pc = .ok (.aaload, 1)) (h : vp_in i 8 ∧ B) (k : B → Wd κ nL Q (pc + 1) lv (aK κ (2 + 2 * i.toNatClampNeg) :: st) σ) : Wd κ nL Q pc lv (.int i :: aK κ 1 :: st) σ :=
  fun H locs ls hP hS hl => va_aldq (D := κ.2.2.2.1) hc.1 hc.2.1 hc.2.2.2.2.2.1 hP 1 2 (wd_rows κ.2.2 σ) rfl h.1 hd (k h.2 H locs ls hP hS hl)
theorem r_imgs {i : Int32} {B : Prop} (hc : Cx κ cc nL own d ret) (hd : decode cc pc = .ok (.aaload, 1)) (h : vp_in i 2 ∧ B) (k : B → Wd κ nL Q (pc + 1) lv (aK κ (37 + 9 * i.toNatClampNeg) :: st) σ) : Wd κ nL Q pc lv (.int i :: aK κ 18 :: st) σ :=
  fun H locs ls hP hS hl => va_aldq (D := κ.2.2.2.1) hc.1 hc.2.1 hc.2.2.2.2.2.1 hP 18 3 (wd_imgs κ.2.2 σ) rfl h.1 hd (k h.2 H locs ls hP hS hl)
theorem r_gs_size {index : Nat} (hc : Cx κ cc nL own d ret) (hd : decode cc pc = .ok (.getstatic index, 3)) (hw : Cond.fieldLink own index RX1 "SIZE_BODIES" "[I" ∈ TB) (k : Wd κ nL Q (pc + 3) lv (.ref κ.2.2.2.2.2.1 :: st) σ) : Wd κ nL Q pc lv st σ :=
  fun H locs ls hP hS hl => va_gets (A := AA κ.2.2) hc.1 hc.2.1 hc.2.2.2.2.2.2.2.1.1 hS hc.2.2.2.1 (hc.2.2.2.2.1 _ hw) (fun x h => h) hd (k H locs ls hP hS hl)
theorem r_ld_size {i : Int32} {B : Prop} (hc : Cx κ cc nL own d ret) (hd : decode cc pc = .ok (.iaload, 1)) (h : vp_in i 6 ∧ B) (k : B → Wd κ nL Q (pc + 1) lv (.int (szB i.toNatClampNeg) :: st) σ) : Wd κ nL Q pc lv (.int i :: .ref κ.2.2.2.2.2.1 :: st) σ :=
  fun H locs ls hP hS hl => va_ti (A := AA κ.2.2) hc.1 hc.2.1 hc.2.2.2.2.2.2.2.1.2.1 hS h.1 rfl hd (k h.2 H locs ls hP hS hl)
theorem r_gs_mark {index : Nat} (hc : Cx κ cc nL own d ret) (hd : decode cc pc = .ok (.getstatic index, 3)) (hw : Cond.fieldLink own index RX1 "MARK_BODIES" "[I" ∈ TB) (k : Wd κ nL Q (pc + 3) lv (.ref κ.2.2.2.2.2.2 :: st) σ) : Wd κ nL Q pc lv st σ :=
  fun H locs ls hP hS hl => va_gets (A := AA κ.2.2) hc.1 hc.2.1 hc.2.2.2.2.2.2.2.1.2.2.1 hS hc.2.2.2.1 (hc.2.2.2.2.1 _ hw) (fun x h => h) hd (k H locs ls hP hS hl)
theorem r_ld_mark {i : Int32} {B : Prop} (hc : Cx κ cc nL own d ret) (hd : decode cc pc = .ok (.iaload, 1)) (h : vp_in i 6 ∧ B) (k : B → Wd κ nL Q (pc + 1) lv (.int (mkB i.toNatClampNeg) :: st) σ) : Wd κ nL Q pc lv (.int i :: .ref κ.2.2.2.2.2.2 :: st) σ :=
  fun H locs ls hP hS hl => va_ti (A := AA κ.2.2) hc.1 hc.2.1 hc.2.2.2.2.2.2.2.1.2.2.2 hS h.1 rfl hd (k h.2 H locs ls hP hS hl)
theorem r_max {index : Nat} {x y : Int32} (hc : Cx κ cc nL own d ret) (hd : decode cc pc = .ok (.invokestatic index, 3)) (hw : Cond.methodLink own index Lib.Math.max.name ∈ TB) (hs : Cond.static Lib.Math.max.name ∈ TB) (hi : Cond.initialized "java/lang/Math" ∈ TB) (hco : Cond.code Lib.Math.max.name Lib.Math.max.code 2 (some .int) ∈ TB) (hd1 : 1 ≤ d) (hst : (st.map fun v => v.category).sum ≤ 40) (k : Wd κ nL Q (pc + 3) lv (.int (imax x y) :: st) σ) : Wd κ nL Q pc lv (.int y :: .int x :: st) σ := by
  intro H locs ls hP hS hl
  obtain ⟨hx, hb, hml, hown, hts, hK, hj, hsT, hR, hr, hlk⟩ := hc
  refine va_mmax hx hb (hml.trans hl.1.symm) hown (hts _ hw) (hts _ hs) (hts _ hi) (hts _ hco) (by rw [hR]; exact hd1) (by rw [hR]; show _ ≤ 60 * d; omega) (Nat.zero_le _) (Nat.zero_le _) hd (k H locs ls hP hS hl)
theorem r_min {index : Nat} {x y : Int32} (hc : Cx κ cc nL own d ret) (hd : decode cc pc = .ok (.invokestatic index, 3)) (hw : Cond.methodLink own index Lib.Math.min.name ∈ TB) (hs : Cond.static Lib.Math.min.name ∈ TB) (hi : Cond.initialized "java/lang/Math" ∈ TB) (hco : Cond.code Lib.Math.min.name Lib.Math.min.code 2 (some .int) ∈ TB) (hd1 : 1 ≤ d) (hst : (st.map fun v => v.category).sum ≤ 40) (k : Wd κ nL Q (pc + 3) lv (.int (imin x y) :: st) σ) : Wd κ nL Q pc lv (.int y :: .int x :: st) σ := by
  intro H locs ls hP hS hl
  obtain ⟨hx, hb, hml, hown, hts, hK, hj, hsT, hR, hr, hlk⟩ := hc
  refine va_mmin hx hb (hml.trans hl.1.symm) hown (hts _ hw) (hts _ hs) (hts _ hi) (hts _ hco) (by rw [hR]; exact hd1) (by rw [hR]; show _ ≤ 60 * d; omega) (Nat.zero_le _) (Nat.zero_le _) hd (k H locs ls hP hS hl)
theorem r_cpy {index a b : Nat} {sp dp n : Int32} {B : Prop} (hc : Cx κ cc nL own d ret) (hd : decode cc pc = .ok (.invokestatic index, 3)) (hw : Cond.methodLink own index arraycopyName ∈ TB) (hn : Cond.native arraycopyName ∈ TB) (hs : Cond.static arraycopyName ∈ TB) (hi : Cond.initialized "java/lang/System" ∈ TB) (ha : kd a = 8) (hb : kd b = 8) (hd1 : 1 ≤ d) (hst : (st.map fun v => v.category).sum ≤ 8) (h : cpOk sp dp n (ln a) (ln b) ∧ B) (k : B → Wd κ nL Q (pc + 3) lv st (st_cp σ a sp.toNatClampNeg b dp.toNatClampNeg n.toNatClampNeg)) : Wd κ nL Q pc lv (.int n :: .int dp :: aK κ b :: .int sp :: aK κ a :: st) σ := by
  intro H locs ls hP hS hl
  obtain ⟨hx, hbb, hml, hown, hts, hK, hj, hsT, hR, hr, hlk⟩ := hc
  obtain ⟨⟨h1, h2, h3, h4, h5⟩, hB⟩ := h
  have e : nativeFrameWords "java/lang/System" "arraycopy" 5 + 11 ≤ 50 := by decide +kernel
  have hf1 : 1 ≤ κ.1.2.2.2.1.frames := by rw [hR]; exact hd1
  have hf2 : (st.map fun v => v.category).sum + (nativeFrameWords "java/lang/System" "arraycopy" 5 + 11) ≤ κ.1.2.2.2.1.locals := by rw [hR]; show _ ≤ 60 * d; omega
  refine va_copyi (D := κ.2.2.2.1) (A := AA κ.2.2) hx hbb (hml.trans hl.1.symm) hown (hts _ hw) (hts _ hn) (hts _ hs) (hts _ hi) hK hP (wd_D hj σ) hS a b 0 0 (ty := .int) (wd_int κ.2.2 σ ha) (wd_int κ.2.2 σ hb) rfl rfl rfl h1 h2 h3 h4 h5 (fun i hi => rfl) hf1 hf2 hd (fun H1 locs1 hP1 _ hS1 => ?_)
  rw [wd_cpy κ.2.2 σ _ _ _ hb] at hP1
  exact k hB H1 locs1 ls hP1 hS1 hl
theorem r_iret {k : Int32 → St → Prop} {v : Int32} (hc : Cx κ cc nL own d (some .int)) (hd : decode cc pc = .ok (.ireturn, 1)) (h : k v σ) : Wd κ nL (QI κ k) pc lv [.int v] σ :=
  fun H locs ls hP hS hl => W.iret (v := v) hc.1 hc.2.1 hc.2.2.2.2.2.2.2.2.2.1 (fun t ht hW => ⟨⟨v, σ, rfl, h, by show va_P _ _ _ _; rw [ht]; exact hP⟩, hS.F ht⟩) hS.2.2 hd hc.2.2.2.2.2.2.2.2.2.2
theorem r_zret {k : Int32 → St → Prop} {v : Int32} (hc : Cx κ cc nL own d (some .boolean)) (hd : decode cc pc = .ok (.ireturn, 1)) (h : isB v ∧ k v σ) : Wd κ nL (QI κ k) pc lv [.int v] σ :=
  fun H locs ls hP hS hl => W.zret (v := v) hc.1 hc.2.1 hc.2.2.2.2.2.2.2.2.2.1 (isB_narrow h.1) (fun t ht hW => ⟨⟨v, σ, rfl, h.2, by show va_P _ _ _ _; rw [ht]; exact hP⟩, hS.F ht⟩) hS.2.2 hd hc.2.2.2.2.2.2.2.2.2.2
theorem r_lret {k : Int64 → St → Prop} {v : Int64} (hc : Cx κ cc nL own d (some .long)) (hd : decode cc pc = .ok (.lreturn, 1)) (h : k v σ) : Wd κ nL (QL κ k) pc lv [.long v] σ :=
  fun H locs ls hP hS hl => W.lret (v := v) hc.1 hc.2.1 hc.2.2.2.2.2.2.2.2.2.1 (fun t ht hW => ⟨⟨v, σ, rfl, h, by show va_P _ _ _ _; rw [ht]; exact hP⟩, hS.F ht⟩) hS.2.2 hd hc.2.2.2.2.2.2.2.2.2.2
theorem r_vret {k : St → Prop} (hc : Cx κ cc nL own d none) (hd : decode cc pc = .ok (.return_, 1)) (h : k σ) : Wd κ nL (QV κ k) pc lv [] σ :=
  fun H locs ls hP hS hl => W.vret hc.1 hc.2.1 hc.2.2.2.2.2.2.2.2.2.1 (fun t ht hW => ⟨⟨σ, rfl, h, by show va_P _ _ _ _; rw [ht]; exact hP⟩, hS.F ht⟩) hS.2.2 hd hc.2.2.2.2.2.2.2.2.2.2
end ROWS
section CALLS
theorem PreW_blind (av : List Value) (Γ : Gm) (σ : St) : FrameBlind (va_Pc av (PreW Γ σ)) := fun a U g mk q => ⟨q.1, q.2.1, va_K.moved (u := U) (U := U.calling g mk a) (Vm.Alike.refl U.vm) q.2.2.1, q.2.2.2.1, sTt.moved (u := U) (U := U.calling g mk a) (Vm.Alike.refl U.vm) q.2.2.2.2⟩
theorem goodTB {y : MethodName} {bytes : ByteArray} {maxL : Nat} {ret : Option FieldType} (h : Cond.code y bytes maxL ret ∈ TB) : GoodIn TB (.code y bytes maxL ret :: TB) := fun w hw => by
  rcases List.mem_cons.mp hw with rfl | hw
  · exact ⟨h, TB_good h⟩
  · exact ⟨hw, TB_good hw⟩
/-- the words of a call -/
def CWV (own : String) (index : Nat) (C : String) (y : MethodName) (bytes : ByteArray) (maxL : Nat) (ret : Option FieldType) (n : Nat) : Prop := (Cond.methodLink own index y ∈ TB ∧ Cond.instanceMethod y ∈ TB ∧ Cond.selects C y y ∈ TB ∧ Cond.initialized y.cls ∈ TB ∧ Cond.code y bytes maxL ret ∈ TB) ∧ (y.cls ≠ "java/lang/invoke/MethodHandle" ∧ y.cls ≠ "java/lang/invoke/VarHandle" ∧ (parseMethodDescriptor y.desc).map (fun d => d.parameters.length) = some n)
def CWS (own : String) (index : Nat) (y : MethodName) (bytes : ByteArray) (maxL : Nat) (ret : Option FieldType) (n : Nat) : Prop := (Cond.methodLink own index y ∈ TB ∧ Cond.static y ∈ TB ∧ Cond.initialized y.cls ∈ TB ∧ Cond.code y bytes maxL ret ∈ TB) ∧ (y.cls ≠ "java/lang/invoke/MethodHandle" ∧ y.cls ≠ "java/lang/invoke/VarHandle" ∧ (parseMethodDescriptor y.desc).map (fun d => d.parameters.length) = some n)
variable {κ : KT} {cc bytes : ByteArray} {nL d pc maxL d' n index : Nat} {own C : String} {ret ret' : Option FieldType} {Q : State → Prop} {lv : List (Nat × Value)} {st stk As : List Value} {σ : St} {y : MethodName} {av : (Nat → Nat) → List Value}
theorem pre_of {own : String} {H : Heap} {locs : List Loc} {U : State} (hc : Cx κ cc nL own d ret) (hP : va_P κ.2.2.2.1 vwCl (wd κ.2.2 σ) H) (hS : va_S (AA κ.2.2) κ.1.2.2.2.2.heap H locs) (hU : U.heap = H) (hW : κ.1.2.2.2.2.WarmedH U.vm) : PreW κ.2.2 σ U := by
  obtain ⟨hx, hbb, hml, hown, hts, hK, hj, hsT, hR, hr, hlk⟩ := hc
  exact ⟨by rw [hU]; exact hP, va_K.moved hW.alike hK, hj, by rw [hU]; exact sTt.moved hW.alike (hsT.kept hS.2.1)⟩
theorem callB_x {own : String} (hc : Cx κ cc nL own d ret) (h : (Cond.methodLink own index y ∈ TB ∧ Cond.initialized y.cls ∈ TB ∧ Cond.code y bytes maxL ret' ∈ TB) ∧ (y.cls ≠ "java/lang/invoke/MethodHandle" ∧ y.cls ≠ "java/lang/invoke/VarHandle" ∧ (parseMethodDescriptor y.desc).map (fun d => d.parameters.length) = some n)) (hdd : d' + 1 ≤ d) (hm : maxL ≤ 40) : CallB κ.1.2.2.2.1 κ.1.2.2.2.2 κ.2.1.2.1 own index y bytes maxL ret' (.code y bytes maxL ret' :: TB) (rmD d') 0 0 n := by
  obtain ⟨hx, hbb, hml, hown, hts, hK, hj, hsT, hR, hr, hlk⟩ := hc
  exact callB_of n hts (goodTB h.1.2.2) rfl rfl rfl (hts _ h.1.2.1) (hts _ h.1.1) h.2 (by rw [hR]; exact ⟨hdd, by show 8 + (maxL + 11) + 60 * d' ≤ 60 * d; omega⟩)

theorem r_cvI {k : Int32 → St → Prop} {T : u_T} {K N o : Nat} (As : List Value) (hc : Cx κ cc nL own d ret) (hd : decode cc pc = .ok (.invokevirtual index, 3)) (hw : CWV own index C y bytes maxL ret' n) (hM : CI κ.1.2.1 y bytes maxL d' ret' av σ k) (hcl : vwCl[K]? = some (C, T, N)) (hK : K < 8) (ho : kd o = K) (hav : av κ.2.2.1 = aK κ o :: As) (hn : As.length = n) (hstk : stk = As.reverse ++ aK κ o :: st) (hst : (st.map fun v => v.category).sum ≤ 8) (hdd : d' + 1 ≤ d) (hm : maxL ≤ 40) (kk : (∀ (r : Int32) (σ2 : St), k r σ2 → Wd κ nL Q (pc + 3) lv (.int r :: st) σ2)) : Wd κ nL Q pc lv stk σ := by
  intro H locs ls hP hS hl
  have hc' := hc
  obtain ⟨hx, hbb, hml, hown, hts, hKK, hj, hsT, hR, hr, hlk⟩ := hc'
  have hMg := hM κ.2.2
  rw [hav] at hMg
  exact va_calli (va_runV (As := As) (rest := st) (C := C) ⟨hx, hbb, hml, hown, hts⟩ hMg ⟨callB_x hc ⟨⟨hw.1.1, hw.1.2.2.2.1, hw.1.2.2.2.2⟩, hw.2⟩ hdd hm, hts _ hw.1.2.1, hts _ hw.1.2.2.1⟩ ⟨PreW_blind _ _ _, va_recv hKK hP hcl (wd_obj κ.2.2 σ ho hK), fun U hU hW => ⟨rfl, pre_of hc hP hS hU hW⟩⟩ rfl hn hl.1 hstk (lv_room hst) hd ⟨Nat.zero_le _, Nat.zero_le _⟩) hS (fun q _ h => h) (fun q h => h) (fun r σ2 t H1 locs1 ht hvm hp hB hz hk hS1 => kk r σ2 hp H1 locs1 ls (by rw [← ht]; exact hB) hS1 hl)
theorem r_csI {k : Int32 → St → Prop} (As : List Value) (hc : Cx κ cc nL own d ret) (hd : decode cc pc = .ok (.invokestatic index, 3)) (hw : CWS own index y bytes maxL ret' n) (hM : CI κ.1.2.1 y bytes maxL d' ret' av σ k) (hav : av κ.2.2.1 = As) (hn : As.length = n) (hstk : stk = As.reverse ++ st) (hst : (st.map fun v => v.category).sum ≤ 8) (hdd : d' + 1 ≤ d) (hm : maxL ≤ 40) (kk : (∀ (r : Int32) (σ2 : St), k r σ2 → Wd κ nL Q (pc + 3) lv (.int r :: st) σ2)) : Wd κ nL Q pc lv stk σ := by
  intro H locs ls hP hS hl
  have hc' := hc
  obtain ⟨hx, hbb, hml, hown, hts, hKK, hj, hsT, hR, hr, hlk⟩ := hc'
  have hMg := hM κ.2.2
  rw [hav] at hMg
  exact va_calli (va_runS (As := As) (rest := st) ⟨hx, hbb, hml, hown, hts⟩ hMg ⟨callB_x hc ⟨⟨hw.1.1, hw.1.2.2.1, hw.1.2.2.2⟩, hw.2⟩ hdd hm, hts _ hw.1.2.1⟩ ⟨PreW_blind _ _ _, fun U hU hW => ⟨rfl, pre_of hc hP hS hU hW⟩⟩ rfl hn hl.1 hstk (lv_room hst) hd ⟨Nat.zero_le _, Nat.zero_le _⟩) hS (fun q _ h => h) (fun q h => h) (fun r σ2 t H1 locs1 ht hvm hp hB hz hk hS1 => kk r σ2 hp H1 locs1 ls (by rw [← ht]; exact hB) hS1 hl)
theorem CI.of {k : Int32 → St → Prop} {l : Launch} {lv : (Nat → Nat) → List (Nat × Value)} (hy : plainName y.cls = true) (hlen : ∀ ad, (lg_sl (av ad)).length ≤ nL) (hlv : ∀ ad, lv_args 0 (av ad) = lv ad) (body : ∀ κ : KT, Cx κ cc nL y.cls d ret → Wd κ nL (QI κ k) 0 (lv κ.2.2.1) [] σ) : CI l y cc nL d ret av σ k := by
  intro Γ
  refine Met.ofW (cc := cc) (maxL := nL) (ret := ret) hy rfl ?_
  intro p e s m args below meth c s₁ B hml hv
  obtain ⟨rfl, hP, hK, hj, hT⟩ := hv
  have hts := atoms_spec (ws := .code y cc nL ret :: TB) B.pre
  rw [lg_entry_eq]
  exact body ((p, l, e, (headSpec (.code y cc nL ret :: TB) (rmD d)).room, s), (m, (av Γ.1).toArray, below, meth, c), Γ) ⟨B.exec, B.bytes, hml, findClass_of_methodNamed B.named, fun w hw => hts w (List.mem_cons_of_mem _ hw), hK, hj, hT, rfl, B.returns, B.notSynchronized⟩ s.heap [] _ hP va_S.rf (by rw [← hlv]; exact lv_entry (av Γ.1) (hlen Γ.1))
theorem r_cvL {k : Int64 → St → Prop} {T : u_T} {K N o : Nat} (As : List Value) (hc : Cx κ cc nL own d ret) (hd : decode cc pc = .ok (.invokevirtual index, 3)) (hw : CWV own index C y bytes maxL ret' n) (hM : CL κ.1.2.1 y bytes maxL d' ret' av σ k) (hcl : vwCl[K]? = some (C, T, N)) (hK : K < 8) (ho : kd o = K) (hav : av κ.2.2.1 = aK κ o :: As) (hn : As.length = n) (hstk : stk = As.reverse ++ aK κ o :: st) (hst : (st.map fun v => v.category).sum ≤ 8) (hdd : d' + 1 ≤ d) (hm : maxL ≤ 40) (kk : (∀ (r : Int64) (σ2 : St), k r σ2 → Wd κ nL Q (pc + 3) lv (.long r :: st) σ2)) : Wd κ nL Q pc lv stk σ := by
  intro H locs ls hP hS hl
  have hc' := hc
  obtain ⟨hx, hbb, hml, hown, hts, hKK, hj, hsT, hR, hr, hlk⟩ := hc'
  have hMg := hM κ.2.2
  rw [hav] at hMg
  exact va_calll (va_runV (As := As) (rest := st) (C := C) ⟨hx, hbb, hml, hown, hts⟩ hMg ⟨callB_x hc ⟨⟨hw.1.1, hw.1.2.2.2.1, hw.1.2.2.2.2⟩, hw.2⟩ hdd hm, hts _ hw.1.2.1, hts _ hw.1.2.2.1⟩ ⟨PreW_blind _ _ _, va_recv hKK hP hcl (wd_obj κ.2.2 σ ho hK), fun U hU hW => ⟨rfl, pre_of hc hP hS hU hW⟩⟩ rfl hn hl.1 hstk (lv_room hst) hd ⟨Nat.zero_le _, Nat.zero_le _⟩) hS (fun q _ h => h) (fun q h => h) (fun r σ2 t H1 locs1 ht hvm hp hB hz hk hS1 => kk r σ2 hp H1 locs1 ls (by rw [← ht]; exact hB) hS1 hl)
theorem r_csL {k : Int64 → St → Prop} (As : List Value) (hc : Cx κ cc nL own d ret) (hd : decode cc pc = .ok (.invokestatic index, 3)) (hw : CWS own index y bytes maxL ret' n) (hM : CL κ.1.2.1 y bytes maxL d' ret' av σ k) (hav : av κ.2.2.1 = As) (hn : As.length = n) (hstk : stk = As.reverse ++ st) (hst : (st.map fun v => v.category).sum ≤ 8) (hdd : d' + 1 ≤ d) (hm : maxL ≤ 40) (kk : (∀ (r : Int64) (σ2 : St), k r σ2 → Wd κ nL Q (pc + 3) lv (.long r :: st) σ2)) : Wd κ nL Q pc lv stk σ := by
  intro H locs ls hP hS hl
  have hc' := hc
  obtain ⟨hx, hbb, hml, hown, hts, hKK, hj, hsT, hR, hr, hlk⟩ := hc'
  have hMg := hM κ.2.2
  rw [hav] at hMg
  exact va_calll (va_runS (As := As) (rest := st) ⟨hx, hbb, hml, hown, hts⟩ hMg ⟨callB_x hc ⟨⟨hw.1.1, hw.1.2.2.1, hw.1.2.2.2⟩, hw.2⟩ hdd hm, hts _ hw.1.2.1⟩ ⟨PreW_blind _ _ _, fun U hU hW => ⟨rfl, pre_of hc hP hS hU hW⟩⟩ rfl hn hl.1 hstk (lv_room hst) hd ⟨Nat.zero_le _, Nat.zero_le _⟩) hS (fun q _ h => h) (fun q h => h) (fun r σ2 t H1 locs1 ht hvm hp hB hz hk hS1 => kk r σ2 hp H1 locs1 ls (by rw [← ht]; exact hB) hS1 hl)
theorem CL.of {k : Int64 → St → Prop} {l : Launch} {lv : (Nat → Nat) → List (Nat × Value)} (hy : plainName y.cls = true) (hlen : ∀ ad, (lg_sl (av ad)).length ≤ nL) (hlv : ∀ ad, lv_args 0 (av ad) = lv ad) (body : ∀ κ : KT, Cx κ cc nL y.cls d ret → Wd κ nL (QL κ k) 0 (lv κ.2.2.1) [] σ) : CL l y cc nL d ret av σ k := by
  intro Γ
  refine Met.ofW (cc := cc) (maxL := nL) (ret := ret) hy rfl ?_
  intro p e s m args below meth c s₁ B hml hv
  obtain ⟨rfl, hP, hK, hj, hT⟩ := hv
  have hts := atoms_spec (ws := .code y cc nL ret :: TB) B.pre
  rw [lg_entry_eq]
  exact body ((p, l, e, (headSpec (.code y cc nL ret :: TB) (rmD d)).room, s), (m, (av Γ.1).toArray, below, meth, c), Γ) ⟨B.exec, B.bytes, hml, findClass_of_methodNamed B.named, fun w hw => hts w (List.mem_cons_of_mem _ hw), hK, hj, hT, rfl, B.returns, B.notSynchronized⟩ s.heap [] _ hP va_S.rf (by rw [← hlv]; exact lv_entry (av Γ.1) (hlen Γ.1))
theorem r_cvV {k : St → Prop} {T : u_T} {K N o : Nat} (As : List Value) (hc : Cx κ cc nL own d ret) (hd : decode cc pc = .ok (.invokevirtual index, 3)) (hw : CWV own index C y bytes maxL ret' n) (hM : CV κ.1.2.1 y bytes maxL d' ret' av σ k) (hcl : vwCl[K]? = some (C, T, N)) (hK : K < 8) (ho : kd o = K) (hav : av κ.2.2.1 = aK κ o :: As) (hn : As.length = n) (hstk : stk = As.reverse ++ aK κ o :: st) (hst : (st.map fun v => v.category).sum ≤ 8) (hdd : d' + 1 ≤ d) (hm : maxL ≤ 40) (kk : (∀ σ2 : St, k σ2 → Wd κ nL Q (pc + 3) lv (st) σ2)) : Wd κ nL Q pc lv stk σ := by
  intro H locs ls hP hS hl
  have hc' := hc
  obtain ⟨hx, hbb, hml, hown, hts, hKK, hj, hsT, hR, hr, hlk⟩ := hc'
  have hMg := hM κ.2.2
  rw [hav] at hMg
  exact va_callv (va_runV (As := As) (rest := st) (C := C) ⟨hx, hbb, hml, hown, hts⟩ hMg ⟨callB_x hc ⟨⟨hw.1.1, hw.1.2.2.2.1, hw.1.2.2.2.2⟩, hw.2⟩ hdd hm, hts _ hw.1.2.1, hts _ hw.1.2.2.1⟩ ⟨PreW_blind _ _ _, va_recv hKK hP hcl (wd_obj κ.2.2 σ ho hK), fun U hU hW => ⟨rfl, pre_of hc hP hS hU hW⟩⟩ rfl hn hl.1 hstk (lv_room hst) hd ⟨Nat.zero_le _, Nat.zero_le _⟩) hS (fun q _ h => h) (fun q h => h) (fun σ2 t H1 locs1 ht hvm hp hB hz hk hS1 => kk σ2 hp H1 locs1 ls (by rw [← ht]; exact hB) hS1 hl)
theorem r_csV {k : St → Prop} (As : List Value) (hc : Cx κ cc nL own d ret) (hd : decode cc pc = .ok (.invokestatic index, 3)) (hw : CWS own index y bytes maxL ret' n) (hM : CV κ.1.2.1 y bytes maxL d' ret' av σ k) (hav : av κ.2.2.1 = As) (hn : As.length = n) (hstk : stk = As.reverse ++ st) (hst : (st.map fun v => v.category).sum ≤ 8) (hdd : d' + 1 ≤ d) (hm : maxL ≤ 40) (kk : (∀ σ2 : St, k σ2 → Wd κ nL Q (pc + 3) lv (st) σ2)) : Wd κ nL Q pc lv stk σ := by
  intro H locs ls hP hS hl
  have hc' := hc
  obtain ⟨hx, hbb, hml, hown, hts, hKK, hj, hsT, hR, hr, hlk⟩ := hc'
  have hMg := hM κ.2.2
  rw [hav] at hMg
  exact va_callv (va_runS (As := As) (rest := st) ⟨hx, hbb, hml, hown, hts⟩ hMg ⟨callB_x hc ⟨⟨hw.1.1, hw.1.2.2.1, hw.1.2.2.2⟩, hw.2⟩ hdd hm, hts _ hw.1.2.1⟩ ⟨PreW_blind _ _ _, fun U hU hW => ⟨rfl, pre_of hc hP hS hU hW⟩⟩ rfl hn hl.1 hstk (lv_room hst) hd ⟨Nat.zero_le _, Nat.zero_le _⟩) hS (fun q _ h => h) (fun q h => h) (fun σ2 t H1 locs1 ht hvm hp hB hz hk hS1 => kk σ2 hp H1 locs1 ls (by rw [← ht]; exact hB) hS1 hl)
theorem CV.of {k : St → Prop} {l : Launch} {lv : (Nat → Nat) → List (Nat × Value)} (hy : plainName y.cls = true) (hlen : ∀ ad, (lg_sl (av ad)).length ≤ nL) (hlv : ∀ ad, lv_args 0 (av ad) = lv ad) (body : ∀ κ : KT, Cx κ cc nL y.cls d ret → Wd κ nL (QV κ k) 0 (lv κ.2.2.1) [] σ) : CV l y cc nL d ret av σ k := by
  intro Γ
  refine Met.ofW (cc := cc) (maxL := nL) (ret := ret) hy rfl ?_
  intro p e s m args below meth c s₁ B hml hv
  obtain ⟨rfl, hP, hK, hj, hT⟩ := hv
  have hts := atoms_spec (ws := .code y cc nL ret :: TB) B.pre
  rw [lg_entry_eq]
  exact body ((p, l, e, (headSpec (.code y cc nL ret :: TB) (rmD d)).room, s), (m, (av Γ.1).toArray, below, meth, c), Γ) ⟨B.exec, B.bytes, hml, findClass_of_methodNamed B.named, fun w hw => hts w (List.mem_cons_of_mem _ hw), hK, hj, hT, rfl, B.returns, B.notSynchronized⟩ s.heap [] _ hP va_S.rf (by rw [← hlv]; exact lv_entry (av Γ.1) (hlen Γ.1))
end CALLS
