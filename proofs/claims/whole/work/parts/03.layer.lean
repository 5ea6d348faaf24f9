/-! THE WORLD: 79 cells that stand behind the two constructors; nothing is made later. A state is what the int slots hold. -/
def kdL : List Nat := [6, 10, 4, 8, 4, 8, 4, 8, 4, 8, 4, 8, 4, 8, 4, 8, 4, 8, 11, 5, 8, 8, 8, 8, 8, 8, 8, 8, 5, 8, 8, 8, 8, 8, 8, 8, 8, 5, 8, 8, 8, 8, 8, 8, 8, 8, 5, 8, 8, 8, 8, 8, 8, 8, 8, 3, 8, 0, 8, 8, 8, 2, 8, 1, 8, 7, 8, 8, 8, 8, 8, 8, 8, 8, 9, 8, 8, 8, 8]
def lnL : List Nat := [0, 8, 0, 40, 0, 40, 0, 40, 0, 40, 0, 40, 0, 40, 0, 40, 0, 40, 2, 0, 6, 6, 6, 6, 6, 6, 6, 6, 0, 6, 6, 6, 6, 6, 6, 6, 6, 0, 6, 6, 6, 6, 6, 6, 6, 6, 0, 6, 6, 6, 6, 6, 6, 6, 6, 0, 100, 0, 24, 24, 24, 0, 12, 0, 16, 0, 8, 8, 320, 100, 53, 53, 53, 106, 2, 1272, 16, 6, 28]
def kd (i : Nat) : Nat := kdL.getD i 99
def ln (i : Nat) : Nat := lnL.getD i 0
abbrev St : Type := Nat → Nat → Int32
def st_up (σ : St) (i j : Nat) (v : Int32) : St := fun a => if a = i then upd (σ a) j v else σ a
def st_cp (σ : St) (a sp b dp n : Nat) : St := fun i => if i = b then va_cpy (σ a) (σ b) sp dp n else σ i
/-- addresses; classes' numbers and slots; the array classes of int, boolean, Row, Street; the two constant arrays -/
abbrev Gm : Type := (Nat → Nat) × ((Nat → ClassId) × (Nat → Nat → Nat)) × (ClassId × ClassId × ClassId × ClassId) × (Nat × Nat)
def flds (ad : Nat → Nat) (r : Nat → Int32) (i : Nat) : Nat → List Value
  | 0 => [.ref (ad 58), .ref (ad 59), .ref (ad 60), .int (r 3), .int (r 4)]
  | 1 => [.ref (ad 64), .int (r 1)]
  | 2 => [.ref (ad 62), .int (r 1), .int (r 2), .int (r 3)]
  | 3 => [.ref (ad 56), .int (r 1), .int (r 2), .int (r 3), .int (r 4)]
  | 4 => [.ref (ad (i + 1)), .int (r 1), .int (r 2)]
  | 5 => [.ref (ad (i + 1)), .ref (ad (i + 2)), .ref (ad (i + 3)), .ref (ad (i + 4)), .ref (ad (i + 5)), .ref (ad (i + 6)), .ref (ad (i + 7)), .ref (ad (i + 8)), .int (r 8), .int (r 9), .int (r 10), .int (r 11), .int (r 12)]
  | 6 => [.ref (ad 1), .ref (ad 18), .ref (ad 19), .ref (ad 28), .ref (ad 55), .ref (ad 57), .ref (ad 61), .ref (ad 63), .int (r 8), .int (r 9)]
  | 7 => [.ref (ad 66), .ref (ad 67), .ref (ad 68), .int (r 3), .int (r 4), .ref (ad 69), .int (r 6), .int (r 7), .int (r 8), .int (r 9), .int (r 10), .int (r 11), .ref (ad 70), .ref (ad 71), .ref (ad 72), .ref (ad 73), .ref (ad 74), .ref (ad 75), .int (r 18), .ref (ad 76), .int (r 20), .ref (ad 77), .ref (ad 78)]
  | _ => []
def cellK (Γ : Gm) (r : Nat → Int32) (i : Nat) (K : Nat) : va_E :=
  if K = 8 then .inl (Γ.2.2.1.1, ln i, .inl r)
  else if K = 9 then .inl (Γ.2.2.1.2.1, ln i, .inl r)
  else if K = 10 then .inl (Γ.2.2.1.2.2.1, ln i, .inr (.inr (.inr (.inr (fun j => some (Γ.1 (2 + 2 * j)))))))
  else if K = 11 then .inl (Γ.2.2.1.2.2.2, ln i, .inr (.inr (.inr (.inr (fun j => some (Γ.1 (37 + 9 * j)))))))
  else .inr (K, flds Γ.1 r i K)
def wd (Γ : Gm) (σ : St) : va_W := (List.range 79).map (fun i => (Γ.1 i, cellK Γ (σ i) i (kd i)))
theorem wd_at (Γ : Gm) (σ : St) {i : Nat} (h : i < 79) : (wd Γ σ)[i]? = some (Γ.1 i, cellK Γ (σ i) i (kd i)) := by
  unfold wd
  rw [List.getElem?_map, List.getElem?_range h]
  rfl
theorem wd_len (Γ : Gm) (σ : St) : (wd Γ σ).length = 79 := by unfold wd; simp
theorem kd_lt {i K : Nat} (h : kd i = K) (hK : K < 99) : i < 79 := by
  rcases Nat.lt_or_ge i 79 with q | q
  · exact q
  · exfalso
    have h1 : kdL[i]? = none := List.getElem?_eq_none (by show 79 ≤ i; exact q)
    have h2 : kd i = 99 := by unfold kd; rw [List.getD_eq_getElem?_getD, h1]; rfl
    omega
theorem wd_kd (Γ : Gm) (σ : St) {i K : Nat} (h : kd i = K) (hK : K < 99) : (wd Γ σ)[i]? = some (Γ.1 i, cellK Γ (σ i) i K) := by
  rw [wd_at Γ σ (kd_lt h hK), h]
theorem wd_obj (Γ : Gm) (σ : St) {i K : Nat} (h : kd i = K) (hK : K < 8) : (wd Γ σ)[i]? = some (Γ.1 i, .inr (K, flds Γ.1 (σ i) i K)) := by
  rw [wd_kd Γ σ h (by omega)]
  unfold cellK
  rw [if_neg (by omega), if_neg (by omega), if_neg (by omega), if_neg (by omega)]
theorem wd_int (Γ : Gm) (σ : St) {i : Nat} (h : kd i = 8) : (wd Γ σ)[i]? = some (Γ.1 i, .inl (Γ.2.2.1.1, ln i, .inl (σ i))) := by
  rw [wd_kd Γ σ h (by omega)]; rfl
theorem wd_boo (Γ : Gm) (σ : St) {i : Nat} (h : kd i = 9) : (wd Γ σ)[i]? = some (Γ.1 i, .inl (Γ.2.2.1.2.1, ln i, .inl (σ i))) := by
  rw [wd_kd Γ σ h (by omega)]; rfl
theorem wd_rows (Γ : Gm) (σ : St) : (wd Γ σ)[1]? = some (Γ.1 1, .inl (Γ.2.2.1.2.2.1, 8, .inr (.inr (.inr (.inr (fun j => some (Γ.1 (2 + 2 * j)))))))) := by
  rw [wd_kd Γ σ (i := 1) (K := 10) rfl (by omega)]; rfl
theorem wd_imgs (Γ : Gm) (σ : St) : (wd Γ σ)[18]? = some (Γ.1 18, .inl (Γ.2.2.1.2.2.2, 2, .inr (.inr (.inr (.inr (fun j => some (Γ.1 (37 + 9 * j)))))))) := by
  rw [wd_kd Γ σ (i := 18) (K := 11) rfl (by omega)]; rfl
theorem wd_set (Γ : Gm) {σ σ' : St} {i : Nat} {e : va_E} (hi : i < 79) (he : cellK Γ (σ' i) i (kd i) = e) (ho : ∀ j, j ≠ i → σ' j = σ j) : (wd Γ σ).set i (Γ.1 i, e) = wd Γ σ' := by
  apply List.ext_getElem?
  intro j
  rw [List.getElem?_set]
  by_cases hj : i = j
  · subst hj
    rw [if_pos rfl, if_pos (by rw [wd_len]; exact hi), wd_at Γ σ' hi, he]
  · rw [if_neg hj]
    rcases Nat.lt_or_ge j 79 with q | q
    · rw [wd_at Γ σ q, wd_at Γ σ' q, ho j (fun z => hj z.symm)]
    · rw [List.getElem?_eq_none (by rw [wd_len]; exact q), List.getElem?_eq_none (by rw [wd_len]; exact q)]
def inj (Γ : Gm) : Prop := ∀ i j : Nat, i < 79 → j < 79 → Γ.1 i = Γ.1 j → i = j
def AA (Γ : Gm) : Nat → Prop := fun q => ∃ i : Nat, i < 79 ∧ q = Γ.1 i
theorem wd_D {Γ : Gm} (h : inj Γ) (σ : St) : va_D (AA Γ) (wd Γ σ) := by
  have key : ∀ (i : Nat) (q : Nat × va_E), (wd Γ σ)[i]? = some q → i < 79 ∧ q.1 = Γ.1 i := by
    intro i q hq
    rcases Nat.lt_or_ge i 79 with z | z
    · rw [wd_at Γ σ z] at hq
      cases hq
      exact ⟨z, rfl⟩
    · rw [List.getElem?_eq_none (by rw [wd_len]; exact z)] at hq
      cases hq
  refine ⟨fun i j p q hp hq e => ?_, fun k q hq => ?_⟩
  · obtain ⟨h1, h2⟩ := key i p hp
    obtain ⟨h3, h4⟩ := key j q hq
    exact h i j h1 h3 (by rw [← h2, ← h4]; exact e)
  · obtain ⟨h1, h2⟩ := key k q hq
    exact ⟨k, h1, h2⟩
abbrev tyK (Γ : Gm) : List (ClassId × FieldType) := [(Γ.2.2.1.1, .int), (Γ.2.2.1.2.1, .boolean), (Γ.2.2.1.2.2.1, .object RX4), (Γ.2.2.1.2.2.2, .object RX5)]
def szB : Nat → Int32 := fun j => if j = 0 then 10 else if j = 1 then 11 else if j = 2 then 12 else if j = 3 then 11 else if j = 4 then 13 else 14
def mkB : Nat → Int32 := fun j => if j = 0 then 20 else if j = 1 then 21 else if j = 2 then 24 else if j = 3 then 22 else if j = 4 then 23 else 23
def sTt (Γ : Gm) (U : State) (H : Heap) : Prop := va_Z RX1 "SIZE_BODIES" "[I" (.ref Γ.2.2.2.1) (AA Γ) U H ∧ va_T .int Γ.2.2.2.1 6 (fun j => .int (szB j)) (AA Γ) U H ∧ va_Z RX1 "MARK_BODIES" "[I" (.ref Γ.2.2.2.2) (AA Γ) U H ∧ va_T .int Γ.2.2.2.2 6 (fun j => .int (mkB j)) (AA Γ) U H
theorem sTt.kept {Γ : Gm} {U : State} {H H1 : Heap} (h : sTt Γ U H) (hq : ∀ a : Nat, a < H.size → ¬ AA Γ a → H1[a]? = H[a]?) : sTt Γ U H1 := ⟨h.1.kept hq, h.2.1.kept hq, h.2.2.1.kept hq, h.2.2.2.kept hq⟩
theorem sTt.moved {Γ : Gm} {u U : State} {H : Heap} (hvm : u.vm.Alike U.vm) (h : sTt Γ u H) : sTt Γ U H := ⟨h.1.moved hvm, h.2.1.moved hvm, h.2.2.1.moved hvm, h.2.2.2.moved hvm⟩
def TB : List Cond := lw_tbl.filter goodWord
theorem TB_in {w : Cond} (h : w ∈ TB) : w ∈ lw_tbl := (List.mem_filter.mp h).1
theorem TB_good {w : Cond} (h : w ∈ TB) : (w.onTables && w.keeps) = true ∨ ∃ ty, w = .arrayClass ty := good_of_word (List.mem_filter.mp h).2
theorem TB_of {w : Cond} (h : w ∈ lw_tbl) (hg : goodWord w = true) : w ∈ TB := List.mem_filter.mpr ⟨h, hg⟩
/-- the room that d calls, one in another, take -/
def rmD (d : Nat) : Room := { frames := d, cells := 0, slots := 0, locals := 60 * d }
/-- a method's start -/
def PreW (Γ : Gm) (σ : St) (U : State) : Prop := va_P Γ.2.1 vwCl (wd Γ σ) U.heap ∧ va_K Γ.2.1 vwCl (tyK Γ) U ∧ inj Γ ∧ sTt Γ U U.heap
def PosW (Γ : Gm) (σ : St) (t : State) : Prop := va_P Γ.2.1 vwCl (wd Γ σ) t.heap
abbrev KT : Type := (Program × Launch × Env × Room × State) × (MethodId × Array Value × List Frame × Method × Code) × Gm
/-- what holds all through a method: machine, code, room, words, tables -/
def Cx (κ : KT) (cc : ByteArray) (nL : Nat) (own : String) (d : Nat) (ret : Option FieldType) : Prop :=
  κ.1.1.tables.exec = Jvm.exec ∧ κ.2.1.2.2.2.2.code = cc ∧ κ.2.1.2.2.2.2.maxLocals = nL ∧ κ.1.2.2.2.2.vm.findClass own = some κ.2.1.1.cls ∧ (∀ w ∈ TB, w.before κ.2.1.2.1 κ.1.2.2.2.2 = true) ∧
  va_K κ.2.2.2.1 vwCl (tyK κ.2.2) κ.1.2.2.2.2 ∧ inj κ.2.2 ∧ sTt κ.2.2 κ.1.2.2.2.2 κ.1.2.2.2.2.heap ∧ κ.1.2.2.2.1 = rmD d ∧ κ.2.1.2.2.2.1.sig.returnType = ret ∧ κ.2.1.2.2.2.1.locks = false
/-- the machine, at pc with these locals and this stack and the state σ, comes to Q -/
def Wd (κ : KT) (nL : Nat) (Q : State → Prop) (pc : Nat) (lv : List (Nat × Value)) (st : List Value) (σ : St) : Prop :=
  ∀ (H : Heap) (locs : List Loc) (ls : Array Slot), va_P κ.2.2.2.1 vwCl (wd κ.2.2 σ) H → va_S (AA κ.2.2) κ.1.2.2.2.2.heap H locs → lv_has ls nL lv →
    W κ.1.1 κ.1.2.1 κ.1.2.2.1 κ.1.2.2.2.1 κ.1.2.2.2.2 κ.2.1.1 κ.2.1.2.1 κ.2.1.2.2.1 κ.2.1.2.2.2.1 κ.2.1.2.2.2.2 H locs 0 0 Q (F0 κ.2.1.1 pc ls st)
abbrev aK (κ : KT) (i : Nat) : Value := .ref (κ.2.2.1 i)
def isB (v : Int32) : Prop := v = 0 ∨ v = 1
theorem isB_narrow {v : Int32} (h : isB v) : narrow .boolean (.int v) = .int v := by rcases h with rfl | rfl <;> decide
def QI (κ : KT) (k : Int32 → St → Prop) : State → Prop := MQ κ.2.1.2.2.1 (va_Qi k (PosW κ.2.2) (AA κ.2.2)) κ.2.1.2.1 κ.1.2.2.2.2 0 0 (AA κ.2.2)
def QL (κ : KT) (k : Int64 → St → Prop) : State → Prop := MQ κ.2.1.2.2.1 (va_Ql k (PosW κ.2.2) (AA κ.2.2)) κ.2.1.2.1 κ.1.2.2.2.2 0 0 (AA κ.2.2)
def QV (κ : KT) (k : St → Prop) : State → Prop := MQ κ.2.1.2.2.1 (va_Qv k (PosW κ.2.2) (AA κ.2.2)) κ.2.1.2.1 κ.1.2.2.2.2 0 0 (AA κ.2.2)
/-- contracts -/
def CI (l : Launch) (y : MethodName) (cc : ByteArray) (nL d : Nat) (ret : Option FieldType) (av : (Nat → Nat) → List Value) (σ : St) (k : Int32 → St → Prop) : Prop :=
  ∀ Γ : Gm, Met l y (.code y cc nL ret :: TB) (rmD d) (va_Pc (av Γ.1) (PreW Γ σ)) (va_Qi k (PosW Γ) (AA Γ)) 0 0 (AA Γ)
def CL (l : Launch) (y : MethodName) (cc : ByteArray) (nL d : Nat) (ret : Option FieldType) (av : (Nat → Nat) → List Value) (σ : St) (k : Int64 → St → Prop) : Prop :=
  ∀ Γ : Gm, Met l y (.code y cc nL ret :: TB) (rmD d) (va_Pc (av Γ.1) (PreW Γ σ)) (va_Ql k (PosW Γ) (AA Γ)) 0 0 (AA Γ)
def CV (l : Launch) (y : MethodName) (cc : ByteArray) (nL d : Nat) (ret : Option FieldType) (av : (Nat → Nat) → List Value) (σ : St) (k : St → Prop) : Prop :=
  ∀ Γ : Gm, Met l y (.code y cc nL ret :: TB) (rmD d) (va_Pc (av Γ.1) (PreW Γ σ)) (va_Qv k (PosW Γ) (AA Γ)) 0 0 (AA Γ)
