/-! A STREET, as numbers: 0 seconds, 1 sounds, 2 how many doors, 3 callers, 4 day, 5.. opens, 11.. stretch, 17.. cough, 23.. dog, 29.. kind, 35.. patience, 41.. place, 47.. met -/
abbrev Fn : Type := Nat → Nat
def hd (F : Fn) (d : Nat) : Nat := if F (23 + d) = 1 ∨ (0 < d ∧ F (22 + d) = 1) ∨ (d + 1 < F 2 ∧ F (24 + d) = 1) then 1 else 0
def op (F : Fn) (d : Nat) : Nat := F (5 + d) + F (11 + d) + 2 * hd F d - F (17 + d)
def syk (kind pat str cgh hrd : Nat) : Nat := if kind = 1 then pat + 2 * cgh else if kind = 2 then pat + 2 * cgh + str else if kind = 3 then 2 * (pat + 2 * cgh) else if kind = 4 then min pat 3 else if hrd = 1 then min (min pat 3) 1 else min pat 3
def mtA (F : Fn) (c kind d : Nat) : Bool := decide (op F d ≤ syk kind (F (35 + c)) (F (11 + d)) (F (17 + d)) (hd F d))
def mt (F : Fn) (c : Nat) : Bool := mtA F c (F (29 + c)) (F (41 + c))
def mts (F : Fn) : Nat := mskL (mt F) (F 3)
def pas (F : Fn) : Fn := fun j => if j = 4 then F 4 + 1 else if 41 ≤ j ∧ j < 41 + F 3 ∧ mt F (j - 41) = false then (F j + 1) % F 2 else if 47 ≤ j ∧ j < 47 + F 3 ∧ mt F (j - 47) = true then F j + 1 else F j
/-- the bounds of a street -/
def WF (F : Fn) : Prop := (∀ j, j < 53 → F j ≤ 5000) ∧ F 0 ≤ 60 ∧ F 1 ≤ 12 ∧ F 2 ≤ 6 ∧ F 3 ≤ 6 ∧ (∀ d, d < F 2 → (1 ≤ F (5 + d) ∧ F (5 + d) ≤ 20) ∧ F (11 + d) ≤ 5 ∧ F (17 + d) ≤ 1 ∧ F (23 + d) ≤ 1) ∧ (∀ d, d < 6 → F 2 ≤ d → F (11 + d) = 0 ∧ F (17 + d) = 0 ∧ F (23 + d) = 0) ∧ (∀ c, c < F 3 → (1 ≤ F (29 + c) ∧ F (29 + c) ≤ 5) ∧ F (35 + c) ≤ 20 ∧ F (41 + c) < F 2 ∧ F (47 + c) ≤ F 4) ∧ (∀ c, c < 6 → F 3 ≤ c → F (47 + c) = 0)
def StM (a o : Nat) (σ : St) (F : Fn) : Prop := ∀ j, j < 53 → σ a (o + j) = nI (F j)
def StC (b : Nat) (σ : St) (F : Fn) : Prop := σ b 8 = nI (F 2) ∧ σ b 9 = nI (F 3) ∧ σ b 10 = nI (F 0) ∧ σ b 11 = nI (F 1) ∧ σ b 12 = nI (F 4) ∧ (∀ d, d < F 2 → σ (b + 1) d = nI (F (5 + d)) ∧ σ (b + 2) d = nI (F (11 + d)) ∧ σ (b + 3) d = nI (F (17 + d)) ∧ σ (b + 4) d = nI (F (23 + d))) ∧ (∀ c, c < F 3 → σ (b + 5) c = nI (F (29 + c)) ∧ σ (b + 6) c = nI (F (41 + c)) ∧ σ (b + 7) c = nI (F (35 + c)) ∧ σ (b + 8) c = nI (F (47 + c)))
theorem hd_le (F : Fn) (d : Nat) : hd F d ≤ 1 := by unfold hd; split <;> omega
theorem hd_01 (F : Fn) (d : Nat) : hd F d = 0 ∨ hd F d = 1 := by have := hd_le F d; omega
theorem op_le {F : Fn} (h : WF F) {d : Nat} (hd' : d < F 2) : op F d ≤ 27 := by
  have h1 := h.2.2.2.2.2.1 d hd'
  have h2 := hd_le F d
  unfold op; omega
theorem syk_le {k p s c h : Nat} (hp : p ≤ 20) (hs : s ≤ 5) (hc : c ≤ 1) : syk k p s c h ≤ 44 := by
  unfold syk
  repeat' split
  all_goals omega
section MODEL
variable {a : Nat} {σ : St} {F : Fn} {k : Int32 → St → Prop}
theorem in_t {x lo hi : Int32} (h1 : ¬ x < lo) (h2 : ¬ hi < x) (h : k 1 σ) : x7_in x lo hi σ k := by
  unfold x7_in x7_in_15
  rw [if_neg h1, if_neg h2]
  exact ⟨Or.inr rfl, h⟩
theorem in_f {x lo hi : Int32} (h1 : x < lo ∨ hi < x) (h : k 0 σ) : x7_in x lo hi σ k := by
  unfold x7_in x7_in_14 x7_in_15
  by_cases q : x < lo
  · rw [if_pos q]; exact ⟨Or.inl rfl, h⟩
  · rw [if_neg q, if_pos (by rcases h1 with z | z; exact absurd z q; exact z)]; exact ⟨Or.inl rfl, h⟩
theorem s7_isHeard {d : Nat} (ha : ln a = 53) (hS : StM a 0 σ F) (hF : WF F) (hd' : d < F 2) (h : k (nI (hd F d)) σ) : x7_isHeard a (nI d) σ k := by
  have hB : ∀ j, j < 53 → F j < 2 ^ 31 := fun j hj => by have := hF.1 j hj; omega
  have h6 : F 2 ≤ 6 := hF.2.2.2.1
  have hv : ∀ j, j < 53 → σ a j = nI (F j) := fun j hj => by have := hS j hj; rwa [Nat.zero_add] at this
  unfold x7_isHeard x7_isHeard_20 x7_isHeard_21 x7_isHeard_47 x7_isHeard_48 x7_isHeard_67 x7_isHeard_72
  simp (disch := (first | omega | exact hB _ (by omega))) only [lI, nI_add, pk_mul, nI_leI, nI_ltI, nI_eq, nI_clamp, vpI, pk_sub, isB0, isB1, ha, hv, true_and]
  have e1 : 23 + d - 1 = 22 + d := by omega
  have e2 : 23 + d + 1 = 24 + d := by omega
  rw [e1, e2]
  unfold hd at h
  have b1 : 23 + d < 53 := by omega
  have b2 : 24 + d < 53 := by omega
  have b3 : 22 + d < 53 := by omega
  by_cases c1 : F (23 + d) = 1
  · rw [if_pos (Or.inl c1)] at h
    simp only [c1, if_true, b1, b2, b3, true_and, h]
    repeat' split
    all_goals first | trivial | (simp only [true_and]; trivial) | (exact ⟨by decide, trivial⟩)
  · by_cases c2 : 0 < d ∧ F (22 + d) = 1
    · rw [if_pos (Or.inr (Or.inl c2))] at h
      have n0 : ¬ d ≤ 0 := by omega
      simp only [c1, c2.2, n0, if_true, if_false, b1, b2, b3, true_and, h]
      repeat' split
      all_goals first | trivial | omega | (exact ⟨by decide, trivial⟩)
    · by_cases c3 : d + 1 < F 2 ∧ F (24 + d) = 1
      · rw [if_pos (Or.inr (Or.inr c3))] at h
        have n0 : ¬ F 2 ≤ d + 1 := by omega
        simp only [c1, c3.2, n0, if_true, if_false, b1, b2, b3, true_and, h]
        repeat' split
        all_goals first | trivial | omega | (exact ⟨by decide, trivial⟩)
      · rw [if_neg (by rintro (q | q | q); exact c1 q; exact c2 q; exact c3 q)] at h
        simp only [c1, if_false, b1, b2, b3, true_and, h]
        repeat' split
        all_goals first | trivial | omega | (exact ⟨by decide, trivial⟩)
theorem s7_opensAt {s st cg hr : Nat} (h1 : s ≤ 5000) (h2 : st ≤ 5000) (h3 : cg ≤ s) (h4 : hr ≤ 1) (h : k (nI (s + st + 2 * hr - cg)) σ) : x7_opensAt (nI s) (nI st) (nI cg) (nI hr) σ k := by
  unfold x7_opensAt x7_opensAt_12 x7_opensAt_28 lt
  rcases (show hr = 0 ∨ hr = 1 by omega) with rfl | rfl
  · simp (disch := omega) only [lI, nI_add, pk_mul, nI_leI, nI_ltI, nI_eq, nI_clamp, vpI, pk_sub, isB0, isB1, if_true, Nat.mul_zero, Nat.add_zero] at h ⊢
    rw [if_pos (by omega)]; exact h
  · simp (disch := omega) only [lI, nI_add, pk_mul, nI_leI, nI_ltI, nI_eq, nI_clamp, vpI, pk_sub, isB0, isB1, Nat.mul_one] at h ⊢
    rw [if_neg (by decide), if_pos (by omega)]; exact h
theorem s7_staysAt {kd' p s c hr : Nat} (h0 : 1 ≤ kd' ∧ kd' ≤ 5) (h1 : p ≤ 5000) (h2 : s ≤ 5000) (h3 : c ≤ 5000) (h4 : hr ≤ 1) (h : k (nI (syk kd' p s c hr)) σ) : x7_staysAt (nI kd') (nI p) (nI s) (nI c) (nI hr) σ k := by
  unfold x7_staysAt x7_staysAt_17 x7_staysAt_83 x7_staysAt_85 lt
  simp (disch := omega) only [lI, nI_add, pk_mul, nI_leI, nI_ltI, nI_eq, nI_clamp, vpI, pk_sub, isB0, isB1]
  unfold syk at h
  by_cases hp : p ≤ 3
  · rw [if_pos hp]
    rcases (show kd' = 1 ∨ kd' = 2 ∨ kd' = 3 ∨ kd' = 4 ∨ kd' = 5 by omega) with rfl | rfl | rfl | rfl | rfl
    · simpa using h
    · simpa using h
    · simpa using h
    · have e : min p 3 = p := by omega
      simpa [e] using h
    · have e : min p 3 = p := by omega
      rcases (show hr = 0 ∨ hr = 1 by omega) with rfl | rfl
      · simpa [e] using h
      · simp [e] at h ⊢
        by_cases h1 : p ≤ 1
        · rw [if_pos h1]; rwa [show min p 1 = p by omega] at h
        · rw [if_neg h1]; rwa [show min p 1 = 1 by omega] at h
  · rw [if_neg hp]
    rcases (show kd' = 1 ∨ kd' = 2 ∨ kd' = 3 ∨ kd' = 4 ∨ kd' = 5 by omega) with rfl | rfl | rfl | rfl | rfl
    · simpa using h
    · simpa using h
    · simpa using h
    · have e : min p 3 = 3 := by omega
      simpa [e] using h
    · have e : min p 3 = 3 := by omega
      rcases (show hr = 0 ∨ hr = 1 by omega) with rfl | rfl
      · simpa [e] using h
      · simpa [e] using h
theorem s7_opensOf {d : Nat} (ha : ln a = 53) (hS : StM a 0 σ F) (hF : WF F) (hd' : d < F 2) (h : k (nI (op F d)) σ) : x7_opensOf a (nI d) σ k := by
  have hB : ∀ j, j < 53 → F j < 2 ^ 31 := fun j hj => by have := hF.1 j hj; omega
  have h6 : F 2 ≤ 6 := hF.2.2.2.1
  have hv : ∀ j, j < 53 → σ a j = nI (F j) := fun j hj => by have := hS j hj; rwa [Nat.zero_add] at this
  have hw := hF.2.2.2.2.2.1 d hd'
  unfold x7_opensOf
  simp (disch := (first | omega | exact hB _ (by omega))) only [lI, nI_add, pk_mul, nI_leI, nI_ltI, nI_eq, nI_clamp, vpI, pk_sub, isB0, isB1, ha, hv]
  refine ⟨by omega, by omega, by omega, s7_isHeard ha hS hF hd' (s7_opensAt (by omega) (by omega) (by omega) (hd_le F d) h)⟩
theorem s7_staysOf {c : Nat} (ha : ln a = 53) (hS : StM a 0 σ F) (hF : WF F) (hc : c < F 3) (h : k (nI (syk (F (29 + c)) (F (35 + c)) (F (11 + F (41 + c))) (F (17 + F (41 + c))) (hd F (F (41 + c))))) σ) : x7_staysOf a (nI c) σ k := by
  have hB : ∀ j, j < 53 → F j < 2 ^ 31 := fun j hj => by have := hF.1 j hj; omega
  have h6 : F 2 ≤ 6 := hF.2.2.2.1
  have h63 : F 3 ≤ 6 := hF.2.2.2.2.1
  have hv : ∀ j, j < 53 → σ a j = nI (F j) := fun j hj => by have := hS j hj; rwa [Nat.zero_add] at this
  have hw := hF.2.2.2.2.2.2.2.1 c hc
  have hw2 := hF.2.2.2.2.2.1 _ hw.2.2.1
  unfold x7_staysOf lt
  simp (disch := (first | omega | exact hB _ (by omega))) only [lI, nI_add, pk_mul, nI_leI, nI_ltI, nI_eq, nI_clamp, vpI, pk_sub, isB0, isB1, ha, hv]
  have hp := hw.2.2.1
  generalize F (41 + c) = d at *
  refine ⟨by omega, by omega, by omega, by omega, by omega, s7_isHeard ha hS hF hp (s7_staysAt hw.1 (by omega) (by omega) (by omega) (hd_le F d) h)⟩
theorem s7_doesMeet {c : Nat} (ha : ln a = 53) (hS : StM a 0 σ F) (hF : WF F) (hc : c < F 3) (h : k (nI (if mt F c then 1 else 0)) σ) : x7_doesMeet a (nI c) σ k := by
  have h63 : F 3 ≤ 6 := hF.2.2.2.2.1
  have hv : ∀ j, j < 53 → σ a j = nI (F j) := fun j hj => by have := hS j hj; rwa [Nat.zero_add] at this
  have hw := hF.2.2.2.2.2.2.2.1 c hc
  have hw2 := hF.2.2.2.2.2.1 _ hw.2.2.1
  unfold x7_doesMeet x7_doesMeet_23
  simp (disch := omega) only [lI, nI_add, pk_mul, nI_leI, nI_ltI, nI_eq, nI_clamp, vpI, pk_sub, isB0, isB1, ha, hv]
  refine ⟨by omega, s7_opensOf ha hS hF hw.2.2.1 (s7_staysOf ha hS hF hc ?_)⟩
  have b1 := op_le hF hw.2.2.1
  have b2 := syk_le (k := F (29 + c)) (h := hd F (F (41 + c))) hw.2.1 hw2.2.1 hw2.2.2.1
  simp (disch := omega) only [lI, nI_add, pk_mul, nI_leI, nI_ltI, nI_eq, nI_clamp, vpI, pk_sub, isB0, isB1, true_and]
  unfold mt mtA at h
  by_cases q : op F (F (41 + c)) ≤ syk (F (29 + c)) (F (35 + c)) (F (11 + F (41 + c))) (F (17 + F (41 + c))) (hd F (F (41 + c)))
  · rw [if_neg (by omega)]; simpa [q] using h
  · rw [if_pos (by omega)]; simpa [q] using h
theorem s7_meeters_4 (ha : ln a = 53) (hS : StM a 0 σ F) (hF : WF F) (h : k (nI (mts F)) σ) : ∀ n c, c ≤ F 3 → F 3 < c + n → x7_meetersOf_4 a k n (nI (mskL (mt F) c)) (nI c) σ := by
  have h63 : F 3 ≤ 6 := hF.2.2.2.2.1
  have hv : ∀ j, j < 53 → σ a j = nI (F j) := fun j hj => by have := hS j hj; rwa [Nat.zero_add] at this
  intro n
  induction n with
  | zero => intro c h1 h2; omega
  | succ n ih =>
    intro c h1 h2
    unfold x7_meetersOf_4 x7_meetersOf_27 lt
    simp (disch := omega) only [lI, nI_add, pk_mul, nI_leI, nI_ltI, nI_eq, nI_clamp, vpI, pk_sub, isB0, isB1, ha, hv]
    refine ⟨by omega, ?_⟩
    by_cases q : F 3 ≤ c
    · rw [if_pos q]
      have : c = F 3 := by omega
      subst this; exact h
    · rw [if_neg q]
      refine s7_doesMeet ha hS hF (by omega) ?_
      have hlt := mskL_64 (mt F) (n := c) (by omega)
      have hc8 := shl1 c (by omega)
      have hp : 2 ^ c < 64 := Nat.pow_lt_pow_right (n := 6) (by decide) (by omega)
      have ih' := ih (c + 1) (by omega) (by omega)
      cases hm : mt F c with
      | true =>
        show if nI 1 = nI 0 then _ else _
        rw [if_neg (by decide)]
        show x7_meetersOf_4 a k n (nI (mskL (mt F) c) ||| nI 1 <<< (nI c &&& nI 31)) (nI (c + 1)) σ
        rw [hc8, orI _ hlt _ hp]
        unfold mskL at ih'
        rwa [hm, if_pos rfl] at ih'
      | false =>
        show if nI 0 = nI 0 then _ else _
        rw [if_pos (by decide)]
        show x7_meetersOf_4 a k n (nI (mskL (mt F) c) ||| nI 0) (nI (c + 1)) σ
        rw [orI _ hlt _ (by decide), Nat.or_zero]
        unfold mskL at ih'
        rwa [hm, if_neg (by decide)] at ih'
theorem s7_meetersOf (ha : ln a = 53) (hS : StM a 0 σ F) (hF : WF F) (h : k (nI (mts F)) σ) : x7_meetersOf a σ k := by
  unfold x7_meetersOf
  refine ⟨8, ?_⟩
  exact s7_meeters_4 ha hS hF h 8 0 (Nat.zero_le _) (by have := hF.2.2.2.2.1; omega)
end MODEL
