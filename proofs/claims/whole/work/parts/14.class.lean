/-! A STREET of the class -/
theorem StC.congr {b : Nat} {σ : St} {F G : Fn} (h : StC b σ F) (h2 : F 2 ≤ 6) (h3 : F 3 ≤ 6) (e : ∀ j, j < 53 → F j = G j) : StC b σ G := by
  obtain ⟨a1, a2, a3, a4, a5, a6, a7⟩ := h
  refine ⟨by rw [← e 2 (by decide)]; exact a1, by rw [← e 3 (by decide)]; exact a2, by rw [← e 0 (by decide)]; exact a3, by rw [← e 1 (by decide)]; exact a4, by rw [← e 4 (by decide)]; exact a5, fun d hd => ?_, fun c hc => ?_⟩
  · rw [← e 2 (by decide)] at hd
    rw [← e (5 + d) (by omega), ← e (11 + d) (by omega), ← e (17 + d) (by omega), ← e (23 + d) (by omega)]
    exact a6 d hd
  · rw [← e 3 (by decide)] at hc
    rw [← e (29 + c) (by omega), ← e (41 + c) (by omega), ← e (35 + c) (by omega), ← e (47 + c) (by omega)]
    exact a7 c hc
/-- nothing but the cells of the street b has changed -/
def frS (b : Nat) (σ σ' : St) : Prop := ∀ i, (i < b ∨ b + 8 < i) → σ' i = σ i
theorem frS.rf {b : Nat} {σ : St} : frS b σ σ := fun _ _ => rfl
theorem frS.tr {b : Nat} {σ σ1 σ2 : St} (h : frS b σ σ1) (g : frS b σ1 σ2) : frS b σ σ2 := fun i hi => (g i hi).trans (h i hi)
theorem frS.up {b : Nat} {σ σ1 : St} (h : frS b σ σ1) {i : Nat} (j : Nat) (v : Int32) (h1 : b ≤ i) (h2 : i ≤ b + 8) : frS b σ (st_up σ1 i j v) := fun a ha => by rw [st_up_ne _ _ _ (by omega)]; exact h a ha
theorem StC.fr {b o : Nat} {σ σ' : St} {F : Fn} (h : StC o σ F) (g : frS b σ σ') (hb : o + 8 < b ∨ b + 8 < o) : StC o σ' F := by
  obtain ⟨a1, a2, a3, a4, a5, a6, a7⟩ := h
  have e : ∀ i, o ≤ i → i ≤ o + 8 → σ' i = σ i := fun i h1 h2 => g i (by omega)
  rw [← e o (by omega) (by omega)] at a1 a2 a3 a4 a5
  refine ⟨a1, a2, a3, a4, a5, fun d hd => ?_, fun c hc => ?_⟩
  · rw [e (o + 1) (by omega) (by omega), e (o + 2) (by omega) (by omega), e (o + 3) (by omega) (by omega), e (o + 4) (by omega) (by omega)]; exact a6 d hd
  · rw [e (o + 5) (by omega) (by omega), e (o + 6) (by omega) (by omega), e (o + 7) (by omega) (by omega), e (o + 8) (by omega) (by omega)]; exact a7 c hc
theorem StC.cells {o : Nat} {σ σ' : St} {F : Fn} (h : StC o σ F) (e : ∀ i, o ≤ i → i ≤ o + 8 → σ' i = σ i) : StC o σ' F := by
  obtain ⟨a1, a2, a3, a4, a5, a6, a7⟩ := h
  rw [← e o (by omega) (by omega)] at a1 a2 a3 a4 a5
  refine ⟨a1, a2, a3, a4, a5, fun d hd => ?_, fun c hc => ?_⟩
  · rw [e (o + 1) (by omega) (by omega), e (o + 2) (by omega) (by omega), e (o + 3) (by omega) (by omega), e (o + 4) (by omega) (by omega)]; exact a6 d hd
  · rw [e (o + 5) (by omega) (by omega), e (o + 6) (by omega) (by omega), e (o + 7) (by omega) (by omega), e (o + 8) (by omega) (by omega)]; exact a7 c hc
theorem StC.up_day {b : Nat} {σ : St} {F : Fn} (h : StC b σ F) (h2 : F 2 ≤ 6) (h3 : F 3 ≤ 6) (v : Nat) : StC b (st_up σ b 12 (nI v)) (fup F 4 v) := by
  obtain ⟨a1, a2, a3, a4, a5, a6, a7⟩ := h
  refine ⟨by rw [up_n _ _ (Or.inr (by decide)), fup_n _ _ (by decide)]; exact a1, by rw [up_n _ _ (Or.inr (by decide)), fup_n _ _ (by decide)]; exact a2, by rw [up_n _ _ (Or.inr (by decide)), fup_n _ _ (by decide)]; exact a3, by rw [up_n _ _ (Or.inr (by decide)), fup_n _ _ (by decide)]; exact a4, by rw [up_s, fup_s], fun d hd => ?_, fun c hc => ?_⟩
  · rw [fup_n _ _ (by decide)] at hd
    rw [up_n _ _ (Or.inl (by omega)), fup_n _ _ (by omega), up_n _ _ (Or.inl (by omega)), fup_n _ _ (by omega), up_n _ _ (Or.inl (by omega)), fup_n _ _ (by omega), up_n _ _ (Or.inl (by omega)), fup_n _ _ (by omega)]
    exact a6 d hd
  · rw [fup_n _ _ (by decide)] at hc
    rw [up_n _ _ (Or.inl (by omega)), fup_n _ _ (by omega), up_n _ _ (Or.inl (by omega)), fup_n _ _ (by omega), up_n _ _ (Or.inl (by omega)), fup_n _ _ (by omega), up_n _ _ (Or.inl (by omega)), fup_n _ _ (by omega)]
    exact a7 c hc
theorem StC.up_str {b : Nat} {σ : St} {F : Fn} (h : StC b σ F) (h2 : F 2 ≤ 6) (h3 : F 3 ≤ 6) {j : Nat} (hj : j < 6) (v : Nat) : StC b (st_up σ (b + 2) j (nI v)) (fup F (11 + j) v) := by
  obtain ⟨a1, a2, a3, a4, a5, a6, a7⟩ := h
  refine ⟨by rw [up_n _ _ (Or.inl (by omega)), fup_n _ _ (by omega)]; exact a1, by rw [up_n _ _ (Or.inl (by omega)), fup_n _ _ (by omega)]; exact a2, by rw [up_n _ _ (Or.inl (by omega)), fup_n _ _ (by omega)]; exact a3, by rw [up_n _ _ (Or.inl (by omega)), fup_n _ _ (by omega)]; exact a4, by rw [up_n _ _ (Or.inl (by omega)), fup_n _ _ (by omega)]; exact a5, fun d hd => ?_, fun c hc => ?_⟩
  · rw [fup_n _ _ (by omega)] at hd
    exact ⟨by rw [up_n _ _ (Or.inl (by omega)), fup_n _ _ (by omega)]; exact (a6 d hd).1, by
      by_cases e : d = j
      · subst e; rw [up_s, fup_s]
      · rw [up_n _ _ (Or.inr e), fup_n _ _ (by omega)]; exact (a6 d hd).2.1, by rw [up_n _ _ (Or.inl (by omega)), fup_n _ _ (by omega)]; exact (a6 d hd).2.2.1, by rw [up_n _ _ (Or.inl (by omega)), fup_n _ _ (by omega)]; exact (a6 d hd).2.2.2⟩
  · rw [fup_n _ _ (by omega)] at hc
    exact ⟨by rw [up_n _ _ (Or.inl (by omega)), fup_n _ _ (by omega)]; exact (a7 c hc).1, by rw [up_n _ _ (Or.inl (by omega)), fup_n _ _ (by omega)]; exact (a7 c hc).2.1, by rw [up_n _ _ (Or.inl (by omega)), fup_n _ _ (by omega)]; exact (a7 c hc).2.2.1, by rw [up_n _ _ (Or.inl (by omega)), fup_n _ _ (by omega)]; exact (a7 c hc).2.2.2⟩
theorem StC.up_cgh {b : Nat} {σ : St} {F : Fn} (h : StC b σ F) (h2 : F 2 ≤ 6) (h3 : F 3 ≤ 6) {j : Nat} (hj : j < 6) (v : Nat) : StC b (st_up σ (b + 3) j (nI v)) (fup F (17 + j) v) := by
  obtain ⟨a1, a2, a3, a4, a5, a6, a7⟩ := h
  refine ⟨by rw [up_n _ _ (Or.inl (by omega)), fup_n _ _ (by omega)]; exact a1, by rw [up_n _ _ (Or.inl (by omega)), fup_n _ _ (by omega)]; exact a2, by rw [up_n _ _ (Or.inl (by omega)), fup_n _ _ (by omega)]; exact a3, by rw [up_n _ _ (Or.inl (by omega)), fup_n _ _ (by omega)]; exact a4, by rw [up_n _ _ (Or.inl (by omega)), fup_n _ _ (by omega)]; exact a5, fun d hd => ?_, fun c hc => ?_⟩
  · rw [fup_n _ _ (by omega)] at hd
    exact ⟨by rw [up_n _ _ (Or.inl (by omega)), fup_n _ _ (by omega)]; exact (a6 d hd).1, by rw [up_n _ _ (Or.inl (by omega)), fup_n _ _ (by omega)]; exact (a6 d hd).2.1, by
      by_cases e : d = j
      · subst e; rw [up_s, fup_s]
      · rw [up_n _ _ (Or.inr e), fup_n _ _ (by omega)]; exact (a6 d hd).2.2.1, by rw [up_n _ _ (Or.inl (by omega)), fup_n _ _ (by omega)]; exact (a6 d hd).2.2.2⟩
  · rw [fup_n _ _ (by omega)] at hc
    exact ⟨by rw [up_n _ _ (Or.inl (by omega)), fup_n _ _ (by omega)]; exact (a7 c hc).1, by rw [up_n _ _ (Or.inl (by omega)), fup_n _ _ (by omega)]; exact (a7 c hc).2.1, by rw [up_n _ _ (Or.inl (by omega)), fup_n _ _ (by omega)]; exact (a7 c hc).2.2.1, by rw [up_n _ _ (Or.inl (by omega)), fup_n _ _ (by omega)]; exact (a7 c hc).2.2.2⟩
theorem StC.up_dog {b : Nat} {σ : St} {F : Fn} (h : StC b σ F) (h2 : F 2 ≤ 6) (h3 : F 3 ≤ 6) {j : Nat} (hj : j < 6) (v : Nat) : StC b (st_up σ (b + 4) j (nI v)) (fup F (23 + j) v) := by
  obtain ⟨a1, a2, a3, a4, a5, a6, a7⟩ := h
  refine ⟨by rw [up_n _ _ (Or.inl (by omega)), fup_n _ _ (by omega)]; exact a1, by rw [up_n _ _ (Or.inl (by omega)), fup_n _ _ (by omega)]; exact a2, by rw [up_n _ _ (Or.inl (by omega)), fup_n _ _ (by omega)]; exact a3, by rw [up_n _ _ (Or.inl (by omega)), fup_n _ _ (by omega)]; exact a4, by rw [up_n _ _ (Or.inl (by omega)), fup_n _ _ (by omega)]; exact a5, fun d hd => ?_, fun c hc => ?_⟩
  · rw [fup_n _ _ (by omega)] at hd
    exact ⟨by rw [up_n _ _ (Or.inl (by omega)), fup_n _ _ (by omega)]; exact (a6 d hd).1, by rw [up_n _ _ (Or.inl (by omega)), fup_n _ _ (by omega)]; exact (a6 d hd).2.1, by rw [up_n _ _ (Or.inl (by omega)), fup_n _ _ (by omega)]; exact (a6 d hd).2.2.1, by
      by_cases e : d = j
      · subst e; rw [up_s, fup_s]
      · rw [up_n _ _ (Or.inr e), fup_n _ _ (by omega)]; exact (a6 d hd).2.2.2⟩
  · rw [fup_n _ _ (by omega)] at hc
    exact ⟨by rw [up_n _ _ (Or.inl (by omega)), fup_n _ _ (by omega)]; exact (a7 c hc).1, by rw [up_n _ _ (Or.inl (by omega)), fup_n _ _ (by omega)]; exact (a7 c hc).2.1, by rw [up_n _ _ (Or.inl (by omega)), fup_n _ _ (by omega)]; exact (a7 c hc).2.2.1, by rw [up_n _ _ (Or.inl (by omega)), fup_n _ _ (by omega)]; exact (a7 c hc).2.2.2⟩
theorem StC.up_place {b : Nat} {σ : St} {F : Fn} (h : StC b σ F) (h2 : F 2 ≤ 6) (h3 : F 3 ≤ 6) {j : Nat} (hj : j < 6) (v : Nat) : StC b (st_up σ (b + 6) j (nI v)) (fup F (41 + j) v) := by
  obtain ⟨a1, a2, a3, a4, a5, a6, a7⟩ := h
  refine ⟨by rw [up_n _ _ (Or.inl (by omega)), fup_n _ _ (by omega)]; exact a1, by rw [up_n _ _ (Or.inl (by omega)), fup_n _ _ (by omega)]; exact a2, by rw [up_n _ _ (Or.inl (by omega)), fup_n _ _ (by omega)]; exact a3, by rw [up_n _ _ (Or.inl (by omega)), fup_n _ _ (by omega)]; exact a4, by rw [up_n _ _ (Or.inl (by omega)), fup_n _ _ (by omega)]; exact a5, fun d hd => ?_, fun c hc => ?_⟩
  · rw [fup_n _ _ (by omega)] at hd
    exact ⟨by rw [up_n _ _ (Or.inl (by omega)), fup_n _ _ (by omega)]; exact (a6 d hd).1, by rw [up_n _ _ (Or.inl (by omega)), fup_n _ _ (by omega)]; exact (a6 d hd).2.1, by rw [up_n _ _ (Or.inl (by omega)), fup_n _ _ (by omega)]; exact (a6 d hd).2.2.1, by rw [up_n _ _ (Or.inl (by omega)), fup_n _ _ (by omega)]; exact (a6 d hd).2.2.2⟩
  · rw [fup_n _ _ (by omega)] at hc
    exact ⟨by rw [up_n _ _ (Or.inl (by omega)), fup_n _ _ (by omega)]; exact (a7 c hc).1, by
      by_cases e : c = j
      · subst e; rw [up_s, fup_s]
      · rw [up_n _ _ (Or.inr e), fup_n _ _ (by omega)]; exact (a7 c hc).2.1, by rw [up_n _ _ (Or.inl (by omega)), fup_n _ _ (by omega)]; exact (a7 c hc).2.2.1, by rw [up_n _ _ (Or.inl (by omega)), fup_n _ _ (by omega)]; exact (a7 c hc).2.2.2⟩
theorem StC.up_met {b : Nat} {σ : St} {F : Fn} (h : StC b σ F) (h2 : F 2 ≤ 6) (h3 : F 3 ≤ 6) {j : Nat} (hj : j < 6) (v : Nat) : StC b (st_up σ (b + 8) j (nI v)) (fup F (47 + j) v) := by
  obtain ⟨a1, a2, a3, a4, a5, a6, a7⟩ := h
  refine ⟨by rw [up_n _ _ (Or.inl (by omega)), fup_n _ _ (by omega)]; exact a1, by rw [up_n _ _ (Or.inl (by omega)), fup_n _ _ (by omega)]; exact a2, by rw [up_n _ _ (Or.inl (by omega)), fup_n _ _ (by omega)]; exact a3, by rw [up_n _ _ (Or.inl (by omega)), fup_n _ _ (by omega)]; exact a4, by rw [up_n _ _ (Or.inl (by omega)), fup_n _ _ (by omega)]; exact a5, fun d hd => ?_, fun c hc => ?_⟩
  · rw [fup_n _ _ (by omega)] at hd
    exact ⟨by rw [up_n _ _ (Or.inl (by omega)), fup_n _ _ (by omega)]; exact (a6 d hd).1, by rw [up_n _ _ (Or.inl (by omega)), fup_n _ _ (by omega)]; exact (a6 d hd).2.1, by rw [up_n _ _ (Or.inl (by omega)), fup_n _ _ (by omega)]; exact (a6 d hd).2.2.1, by rw [up_n _ _ (Or.inl (by omega)), fup_n _ _ (by omega)]; exact (a6 d hd).2.2.2⟩
  · rw [fup_n _ _ (by omega)] at hc
    exact ⟨by rw [up_n _ _ (Or.inl (by omega)), fup_n _ _ (by omega)]; exact (a7 c hc).1, by rw [up_n _ _ (Or.inl (by omega)), fup_n _ _ (by omega)]; exact (a7 c hc).2.1, by rw [up_n _ _ (Or.inl (by omega)), fup_n _ _ (by omega)]; exact (a7 c hc).2.2.1, by
      by_cases e : c = j
      · subst e; rw [up_s, fup_s]
      · rw [up_n _ _ (Or.inr e), fup_n _ _ (by omega)]; exact (a7 c hc).2.2.2⟩
section CLASS
variable {b : Nat} {σ : St} {F : Fn} {k : Int32 → St → Prop}
theorem k5_c {b : Nat} (h : kd b = 5) : b = 19 ∨ b = 28 ∨ b = 37 ∨ b = 46 := by
  have h1 := kd_lt h (by decide)
  have key : ∀ b, b < 79 → kd b = 5 → b = 19 ∨ b = 28 ∨ b = 37 ∨ b = 46 := by decide +kernel
  exact key b h1 h
theorem s5_hasDoor_t {n j : Nat} (h8 : σ b 8 = nI n) (hn : n ≤ 6) (hj : j < n) (h : k (nI 1) σ) : x5_hasDoor b (nI j) σ k := by
  unfold x5_hasDoor x5_hasDoor_16 x5_hasDoor_17
  rw [h8, if_neg (nI_pos (by omega)), if_neg (nI_ge hj (by omega))]
  exact ⟨Or.inr rfl, h⟩
theorem s5_hasDoor_f {n : Nat} {x : Int32} (h8 : σ b 8 = nI n) (hn : n ≤ 6) (hx : ¬ has x n) (h : k (nI 0) σ) : x5_hasDoor b x σ k := by
  unfold x5_hasDoor x5_hasDoor_16 x5_hasDoor_17
  rw [h8]
  rcases has_no (by omega) hx with q | q
  · rw [if_pos q]; exact ⟨Or.inl rfl, h⟩
  · by_cases z : x < 0
    · rw [if_pos z]; exact ⟨Or.inl rfl, h⟩
    · rw [if_neg z, if_pos q]; exact ⟨Or.inl rfl, h⟩
theorem s5_hasCaller_t {n j : Nat} (h9 : σ b 9 = nI n) (hn : n ≤ 6) (hj : j < n) (h : k (nI 1) σ) : x5_hasCaller b (nI j) σ k := by
  unfold x5_hasCaller x5_hasCaller_16 x5_hasCaller_17
  rw [h9, if_neg (nI_pos (by omega)), if_neg (nI_ge hj (by omega))]
  exact ⟨Or.inr rfl, h⟩
theorem s5_hasCaller_f {n : Nat} {x : Int32} (h9 : σ b 9 = nI n) (hn : n ≤ 6) (hx : ¬ has x n) (h : k (nI 0) σ) : x5_hasCaller b x σ k := by
  unfold x5_hasCaller x5_hasCaller_16 x5_hasCaller_17
  rw [h9]
  rcases has_no (by omega) hx with q | q
  · rw [if_pos q]; exact ⟨Or.inl rfl, h⟩
  · by_cases z : x < 0
    · rw [if_pos z]; exact ⟨Or.inl rfl, h⟩
    · rw [if_neg z, if_pos q]; exact ⟨Or.inl rfl, h⟩
theorem heard_st (hb : kd b = 5) (hS : StC b σ F) (hF : WF F) {d j n : Nat} (hd' : d < F 2) (hj : j ≤ d + 1) (h1 : j < F 2 → F (23 + j) = 1 → k (nI 1) σ) (h0 : ¬ (j < F 2 ∧ F (23 + j) = 1) → x5_heardAt_4 b (nI d) k n (nI (j + 1)) σ) : x5_heardAt_4 b (nI d) k (n + 1) (nI j) σ := by
  have h6 := hF.2.2.2.1
  unfold x5_heardAt_4 x5_heardAt_31
  simp (disch := omega) only [lI, nI_add, pk_mul, nI_leI, nI_ltI, nI_eq, nI_clamp, vpI, pk_sub, isB0, isB1]
  rw [if_neg (by omega)]
  by_cases q : j < F 2
  · refine s5_hasDoor_t hS.1 h6 q ?_
    show if _ then _ else _
    rw [if_neg (by decide)]
    have e := (hS.2.2.2.2.2.1 j q).2.2.2
    have hw := hF.2.2.2.2.2.1 j q
    simp (disch := omega) only [lI, nI_add, pk_mul, nI_leI, nI_ltI, nI_eq, nI_clamp, vpI, pk_sub, isB0, isB1, n5_4 hb, e]
    refine ⟨by omega, ?_⟩
    by_cases c : F (23 + j) = 1
    · rw [if_pos c]; exact h1 q c
    · rw [if_neg c]; exact h0 (fun z => c z.2)
  · refine s5_hasDoor_f hS.1 h6 (by rintro ⟨i, hi, e⟩; rw [nI_eq (by omega) (by omega)] at e; omega) ?_
    show if _ then _ else _
    rw [if_pos (by decide)]
    exact h0 (fun z => q z.1)
theorem heard_end {d n : Nat} (hd' : d < 100) (h : k (nI 0) σ) : x5_heardAt_4 b (nI d) k (n + 1) (nI (d + 2)) σ := by
  unfold x5_heardAt_4
  simp (disch := omega) only [lI, nI_add, pk_mul, nI_leI, nI_ltI, nI_eq, nI_clamp, vpI, pk_sub, isB0, isB1]
  rw [if_pos (by omega)]
  exact h
theorem s5_heardAt (hb : kd b = 5) (hS : StC b σ F) (hF : WF F) {d : Nat} (hd' : d < F 2) (h : k (nI (hd F d)) σ) : x5_heardAt b (nI d) σ k := by
  have h6 := hF.2.2.2.1
  unfold x5_heardAt lt
  refine ⟨4, ?_⟩
  unfold hd at h
  have last : ∀ n, ¬ F (23 + d) = 1 → ¬ (0 < d ∧ F (22 + d) = 1) → x5_heardAt_4 b (nI d) k (n + 2) (nI (d + 1)) σ := by
    intro n c1 c2
    refine heard_st hb hS hF hd' (by omega) (fun q c => ?_) (fun c => ?_)
    · rw [if_pos (Or.inr (Or.inr ⟨q, by rw [show 24 + d = 23 + (d + 1) by omega]; exact c⟩))] at h; exact h
    · refine heard_end (by omega) ?_
      rw [if_neg (by rintro (q | q | q); exact c1 q; exact c2 q; exact c ⟨q.1, by rw [show 23 + (d + 1) = 24 + d by omega]; exact q.2⟩)] at h
      exact h
  have mid : ∀ n, ¬ (0 < d ∧ F (22 + d) = 1) → x5_heardAt_4 b (nI d) k (n + 3) (nI d) σ := by
    intro n c2
    refine heard_st hb hS hF hd' (by omega) (fun q c => ?_) (fun c => ?_)
    · rw [if_pos (Or.inl c)] at h; exact h
    · exact last n (fun z => c ⟨hd', z⟩) c2
  rcases Nat.eq_zero_or_pos d with rfl | hp
  · unfold x5_heardAt_4
    rw [if_neg (by decide)]
    refine s5_hasDoor_f hS.1 h6 (by rintro ⟨i, hi, e⟩; rcases (show i = 0 ∨ i = 1 ∨ i = 2 ∨ i = 3 ∨ i = 4 ∨ i = 5 by omega) with rfl | rfl | rfl | rfl | rfl | rfl <;> revert e <;> decide) ?_
    show if _ then _ else _
    rw [if_pos (by decide)]
    exact mid 0 (by omega)
  · have e : nI d - 1 = nI (d - 1) := pk_sub hp
    rw [e]
    refine heard_st hb hS hF hd' (by omega) (fun q c => ?_) (fun c => ?_)
    · rw [if_pos (Or.inr (Or.inl ⟨hp, by rw [show 22 + d = 23 + (d - 1) by omega]; exact c⟩))] at h; exact h
    · rw [show d - 1 + 1 = d by omega]
      exact mid 0 (fun z => c ⟨by omega, by rw [show 23 + (d - 1) = 22 + d by omega]; exact z.2⟩)
theorem s5_opening {s st cg hr : Nat} (h1 : s ≤ 5000) (h2 : st ≤ 5000) (h3 : cg ≤ s) (h4 : hr ≤ 1) (h : k (nI (s + st + 2 * hr - cg)) σ) : x5_opening (nI s) (nI st) (nI cg) (nI hr) σ k := by
  unfold x5_opening imax
  simp (disch := omega) only [lI, nI_add, pk_mul, nI_leI, nI_ltI, nI_eq, nI_clamp, vpI, pk_sub, isB0, isB1]
  by_cases q : 0 < s + st + 2 * hr - cg
  · rw [if_pos q]; exact h
  · rw [if_neg q]; rwa [show s + st + 2 * hr - cg = 0 by omega] at h
theorem iminI {x y : Nat} (hx : x < 2 ^ 31) (hy : y < 2 ^ 31) : imin (nI x) (nI y) = nI (min x y) := by
  unfold imin
  simp (disch := omega) only [lI, nI_add, pk_mul, nI_leI, nI_ltI, nI_eq, nI_clamp, vpI, pk_sub, isB0, isB1]
  by_cases q : y < x
  · rw [if_pos q, show min x y = y by omega]
  · rw [if_neg q, show min x y = x by omega]
theorem s5_staying {kd' p s c hr : Nat} (h0 : 1 ≤ kd' ∧ kd' ≤ 5) (h1 : p ≤ 5000) (h2 : s ≤ 5000) (h3 : c ≤ 5000) (h4 : hr ≤ 1) (h : k (nI (syk kd' p s c hr)) σ) : x5_staying (nI kd') (nI p) (nI s) (nI c) (nI hr) σ k := by
  unfold x5_staying x5_staying_74 lt
  simp (disch := omega) only [lI, nI_add, pk_mul, nI_leI, nI_ltI, nI_eq, nI_clamp, vpI, pk_sub, isB0, isB1, iminI]
  unfold syk at h
  rcases (show kd' = 1 ∨ kd' = 2 ∨ kd' = 3 ∨ kd' = 4 ∨ kd' = 5 by omega) with rfl | rfl | rfl | rfl | rfl
  · simpa using h
  · simpa using h
  · simpa using h
  · simpa using h
  · simp at h ⊢
    by_cases q : hr = 1
    · rw [if_pos q] at h ⊢; exact h
    · rw [if_neg q] at h ⊢; exact h
theorem s5_opensBehind (hb : kd b = 5) (hS : StC b σ F) (hF : WF F) {d : Nat} (hd' : d < F 2) (h : k (nI (op F d)) σ) : x5_opensBehind b (nI d) σ k := by
  have h6 := hF.2.2.2.1
  have hw := hF.2.2.2.2.2.1 d hd'
  have e := hS.2.2.2.2.2.1 d hd'
  unfold x5_opensBehind
  simp (disch := omega) only [lI, nI_add, pk_mul, nI_leI, nI_ltI, nI_eq, nI_clamp, vpI, pk_sub, isB0, isB1, n5_1 hb, n5_2 hb, n5_3 hb, e.1, e.2.1, e.2.2.1]
  exact ⟨by omega, by omega, by omega, s5_heardAt hb hS hF hd' (s5_opening (by omega) (by omega) (by omega) (hd_le F d) h)⟩
theorem s5_staysAs (hb : kd b = 5) (hS : StC b σ F) (hF : WF F) {c kd' d : Nat} (hc : c < F 3) (hk : 1 ≤ kd' ∧ kd' ≤ 5) (hd' : d < F 2) (h : k (nI (syk kd' (F (35 + c)) (F (11 + d)) (F (17 + d)) (hd F d))) σ) : x5_staysAs b (nI c) (nI kd') (nI d) σ k := by
  have h6 := hF.2.2.2.1
  have h63 := hF.2.2.2.2.1
  have hw := hF.2.2.2.2.2.1 d hd'
  have hw2 := hF.2.2.2.2.2.2.2.1 c hc
  have e := hS.2.2.2.2.2.1 d hd'
  have e2 := hS.2.2.2.2.2.2 c hc
  unfold x5_staysAs
  simp (disch := omega) only [lI, nI_add, pk_mul, nI_leI, nI_ltI, nI_eq, nI_clamp, vpI, pk_sub, isB0, isB1, n5_7 hb, n5_2 hb, n5_3 hb, e.2.1, e.2.2.1, e2.2.2.1]
  exact ⟨by omega, by omega, by omega, s5_heardAt hb hS hF hd' (s5_staying hk (by omega) (by omega) (by omega) (hd_le F d) h)⟩
theorem s5_meetsAs (hb : kd b = 5) (hS : StC b σ F) (hF : WF F) {c kd' d : Nat} (hc : c < F 3) (hk : 1 ≤ kd' ∧ kd' ≤ 5) (hd' : d < F 2) (h : k (nI (if mtA F c kd' d then 1 else 0)) σ) : x5_meetsAs b (nI c) (nI kd') (nI d) σ k := by
  have hw := hF.2.2.2.2.2.1 d hd'
  have hw2 := hF.2.2.2.2.2.2.2.1 c hc
  unfold x5_meetsAs x5_meetsAs_20
  refine s5_opensBehind hb hS hF hd' (s5_staysAs hb hS hF hc hk hd' ?_)
  have b1 := op_le hF hd'
  have b2 := syk_le (k := kd') (h := hd F d) hw2.2.1 hw.2.1 hw.2.2.1
  simp (disch := omega) only [lI, nI_add, pk_mul, nI_leI, nI_ltI, nI_eq, nI_clamp, vpI, pk_sub, isB0, isB1, true_and]
  unfold mtA at h
  by_cases q : op F d ≤ syk kd' (F (35 + c)) (F (11 + d)) (F (17 + d)) (hd F d)
  · rw [if_neg (by omega)]; simpa [q] using h
  · rw [if_pos (by omega)]; simpa [q] using h
theorem s5_isMeeting (hb : kd b = 5) (hS : StC b σ F) (hF : WF F) {c : Nat} (hc : c < F 3) (h : k (nI (if mt F c then 1 else 0)) σ) : x5_isMeeting b (nI c) σ k := by
  have h63 := hF.2.2.2.2.1
  have hw2 := hF.2.2.2.2.2.2.2.1 c hc
  have e2 := hS.2.2.2.2.2.2 c hc
  unfold x5_isMeeting
  simp (disch := omega) only [lI, nI_add, pk_mul, nI_leI, nI_ltI, nI_eq, nI_clamp, vpI, pk_sub, isB0, isB1, n5_5 hb, n5_6 hb, e2.1, e2.2.1]
  refine ⟨by omega, by omega, s5_meetsAs hb hS hF hc hw2.1 hw2.2.2.1 ?_⟩
  refine ⟨?_, h⟩
  split
  · exact Or.inr rfl
  · exact Or.inl rfl
theorem s5_staysHowLong (hb : kd b = 5) (hS : StC b σ F) (hF : WF F) {c : Nat} (hc : c < F 3) (h : k (nI (syk (F (29 + c)) (F (35 + c)) (F (11 + F (41 + c))) (F (17 + F (41 + c))) (hd F (F (41 + c))))) σ) : x5_staysHowLong b (nI c) σ k := by
  have h63 := hF.2.2.2.2.1
  have hw2 := hF.2.2.2.2.2.2.2.1 c hc
  have e2 := hS.2.2.2.2.2.2 c hc
  unfold x5_staysHowLong
  simp (disch := omega) only [lI, nI_add, pk_mul, nI_leI, nI_ltI, nI_eq, nI_clamp, vpI, pk_sub, isB0, isB1, n5_5 hb, n5_6 hb, e2.1, e2.2.1]
  exact ⟨by omega, by omega, s5_staysAs hb hS hF hc hw2.1 hw2.2.2.1 h⟩
theorem s5_meeting_4 (hb : kd b = 5) (hS : StC b σ F) (hF : WF F) (h : k (nI (mts F)) σ) : ∀ n c, c ≤ F 3 → F 3 < c + n → x5_meetingNow_4 b k n (nI (mskL (mt F) c)) (nI c) σ := by
  have h63 : F 3 ≤ 6 := hF.2.2.2.2.1
  intro n
  induction n with
  | zero => intro c h1 h2; omega
  | succ n ih =>
    intro c h1 h2
    unfold x5_meetingNow_4 x5_meetingNow_38 lt
    rw [hS.2.1]
    simp (disch := omega) only [lI, nI_add, pk_mul, nI_leI, nI_ltI, nI_eq, nI_clamp, vpI, pk_sub, isB0, isB1]
    by_cases q : F 3 ≤ c
    · rw [if_pos q]
      have : c = F 3 := by omega
      subst this; exact h
    · rw [if_neg q]
      have hc : c < F 3 := by omega
      have e2 := hS.2.2.2.2.2.2 c hc
      have hw2 := hF.2.2.2.2.2.2.2.1 c hc
      simp (disch := omega) only [lI, nI_add, pk_mul, nI_leI, nI_ltI, nI_eq, nI_clamp, vpI, pk_sub, isB0, isB1, n5_5 hb, n5_6 hb, e2.1, e2.2.1]
      refine ⟨by omega, by omega, s5_meetsAs hb hS hF hc hw2.1 hw2.2.2.1 ?_⟩
      have hlt := mskL_64 (mt F) (n := c) (by omega)
      have hc8 := shl1 c (by omega)
      have hp : 2 ^ c < 64 := Nat.pow_lt_pow_right (n := 6) (by decide) (by omega)
      have ih' := ih (c + 1) (by omega) (by omega)
      show if nI (if mt F c then 1 else 0) = nI 0 then _ else _
      cases hm : mt F c with
      | true =>
        rw [if_neg (by decide)]
        show x5_meetingNow_4 b k n (nI (mskL (mt F) c) ||| nI 1 <<< (nI c &&& nI 31)) (nI (c + 1)) σ
        rw [hc8, orI _ hlt _ hp]
        unfold mskL at ih'
        rwa [hm, if_pos rfl] at ih'
      | false =>
        rw [if_pos (by decide)]
        show x5_meetingNow_4 b k n (nI (mskL (mt F) c)) (nI (c + 1)) σ
        unfold mskL at ih'
        rwa [hm, if_neg (by decide)] at ih'
theorem s5_meetingNow (hb : kd b = 5) (hS : StC b σ F) (hF : WF F) (h : k (nI (mts F)) σ) : x5_meetingNow b σ k := by
  unfold x5_meetingNow
  exact ⟨8, s5_meeting_4 hb hS hF h 8 0 (Nat.zero_le _) (by have := hF.2.2.2.2.1; omega)⟩
theorem s5_placeAfter {n p c x : Nat} (hb : kd b = 5) (h8 : σ b 8 = nI n) (hn : 1 ≤ n ∧ n ≤ 6) (hc : c < 6) (hp : σ (b + 6) c = nI p) (hp2 : p ≤ 5000) (hx : x ≤ 5000) (h : k (nI ((p + x) % n)) σ) : x5_placeAfter b (nI c) (nI x) σ k := by
  unfold x5_placeAfter x5_placeAfter_24
  rw [h8]
  simp (disch := omega) only [lI, nI_add, pk_mul, nI_leI, nI_ltI, nI_eq, nI_clamp, vpI, pk_sub, isB0, isB1, n5_6 hb, hp, remI]
  rw [if_neg (by omega)]
  exact ⟨by omega, by omega, h⟩
theorem s5_passDay_7 (hb : kd b = 5) (hF : WF F) {σ0 : St} (h : ∀ σ, StC b σ (pas F) → frS b σ0 σ → k (nI (mts F)) σ) : ∀ n c σ, c ≤ F 3 → F 3 < c + n → StC b σ (pasP F c) → frS b σ0 σ → x5_passDay_7 b k n (nI (mts F)) (nI c) σ := by
  have h63 : F 3 ≤ 6 := hF.2.2.2.2.1
  have h62 : F 2 ≤ 6 := hF.2.2.2.1
  have hB : ∀ j, j < 53 → F j < 5001 := fun j hj => by have := hF.1 j hj; omega
  intro n
  induction n with
  | zero => intro c σ h1 h2; omega
  | succ n ih =>
    intro c σ h1 h2 hS hfr
    have e2 : pasP F c 2 = F 2 := pasP_lo F c (by decide)
    have e3 : pasP F c 3 = F 3 := pasP_lo F c (by decide)
    have e4 : pasP F c 4 = F 4 := pasP_lo F c (by decide)
    have b4 := hB 4 (by decide)
    unfold x5_passDay_7 x5_passDay_49 lt
    rw [hS.2.1, hS.2.2.2.2.1, e3, e4]
    simp (disch := omega) only [lI, nI_add, pk_mul, nI_leI, nI_ltI, nI_eq, nI_clamp, vpI, pk_sub, isB0, isB1]
    by_cases q : F 3 ≤ c
    · rw [if_pos q]
      have hc : c = F 3 := by omega
      subst hc
      refine h _ ?_ (hfr.up _ _ (by omega) (by omega))
      exact (hS.up_day (by omega) (by omega) (F 4 + 1)).congr (by rw [fup_n _ _ (by decide)]; omega) (by rw [fup_n _ _ (by decide)]; omega) (fun j _ => pasP_end F j)
    · rw [if_neg q]
      have hcl : c < F 3 := by omega
      have hat := pasP_at F (c := c) (i := c) (by omega) (by omega) (Nat.le_refl _)
      have ec := hS.2.2.2.2.2.2 c (by omega)
      have b41 := hB (41 + c) (by omega)
      have b47 := hB (47 + c) (by omega)
      have hw := hF.2.2.2.2.2.2.2.1 c hcl
      have hg : mts F / 2 ^ c % 2 = if mt F c then 1 else 0 := mskL_get (mt F) hcl
      rw [bitI (mts F) (mskL_64 _ h63) c (by omega), hg]
      cases hm : mt F c with
      | true =>
        rw [if_pos rfl]
        rw [ec.2.2.2, hat.2]
        simp (disch := omega) only [lI, nI_add, pk_mul, nI_leI, nI_ltI, nI_eq, nI_clamp, vpI, pk_sub, isB0, isB1, n5_8 hb]
        refine ⟨by omega, by omega, ih (c + 1) _ (by omega) (by omega) ?_ (hfr.up _ _ (by omega) (by omega))⟩
        refine (hS.up_met (by omega) (by omega) (j := c) (by omega) (F (47 + c) + 1)).congr (by rw [fup_n _ _ (by omega)]; omega) (by rw [fup_n _ _ (by omega)]; omega) (fun j hj => pasP_t F (by omega) hm j hj)
      | false =>
        rw [if_neg (by decide)]
        refine s5_placeAfter (n := F 2) (p := F (41 + c)) hb (by rw [hS.1, e2]) (by omega) (by omega) (by rw [ec.2.1, hat.1]) (by omega) (by decide) ?_
        simp (disch := omega) only [lI, nI_add, pk_mul, nI_leI, nI_ltI, nI_eq, nI_clamp, vpI, pk_sub, isB0, isB1, n5_6 hb]
        refine ⟨by omega, ih (c + 1) _ (by omega) (by omega) ?_ (hfr.up _ _ (by omega) (by omega))⟩
        refine (hS.up_place (by omega) (by omega) (j := c) (by omega) ((F (41 + c) + 1) % F 2)).congr (by rw [fup_n _ _ (by omega)]; omega) (by rw [fup_n _ _ (by omega)]; omega) (fun j hj => pasP_f F (by omega) hm j hj)
theorem s5_passDay (hb : kd b = 5) (hS : StC b σ F) (hF : WF F) (h : ∀ σ', StC b σ' (pas F) → frS b σ σ' → k (nI (mts F)) σ') : x5_passDay b σ k := by
  unfold x5_passDay
  refine s5_meetingNow hb hS hF ⟨8, ?_⟩
  exact s5_passDay_7 hb hF h 8 0 σ (Nat.zero_le _) (by have := hF.2.2.2.2.1; omega) (hS.congr hF.2.2.2.1 hF.2.2.2.2.1 (fun j _ => (pasP_0 F j).symm)) frS.rf
theorem s5_sum_4 {a m : Nat} {g : Nat → Nat} (hm : m ≤ ln a) (hm6 : m ≤ 40) (hg : ∀ i, i < m → σ a i = nI (g i) ∧ g i ≤ 5000) (h : k (nI (smL g m)) σ) : ∀ n c, c ≤ m → m < c + n → x5_sum_4 a (nI m) k n (nI (smL g c)) (nI c) σ := by
  intro n
  induction n with
  | zero => intro c h1 h2; omega
  | succ n ih =>
    intro c h1 h2
    unfold x5_sum_4 lt
    simp (disch := omega) only [lI, nI_add, pk_mul, nI_leI, nI_ltI, nI_eq, nI_clamp, vpI, pk_sub, isB0, isB1]
    by_cases q : m ≤ c
    · rw [if_pos q]
      have : c = m := by omega
      subst this; exact h
    · rw [if_neg q, (hg c (by omega)).1, nI_add]
      exact ⟨by omega, ih (c + 1) (by omega) (by omega)⟩
theorem s5_sum {a m : Nat} {g : Nat → Nat} (hm : m ≤ ln a) (hm6 : m ≤ 40) (hg : ∀ i, i < m → σ a i = nI (g i) ∧ g i ≤ 5000) (h : k (nI (smL g m)) σ) : x5_sum a (nI m) σ k := by
  unfold x5_sum
  exact ⟨m + 1, s5_sum_4 hm hm6 hg h (m + 1) 0 (Nat.zero_le _) (by omega)⟩
theorem s5_usedSeconds (hb : kd b = 5) (hS : StC b σ F) (hF : WF F) (h : k (nI (smL (fun d => F (11 + d)) (F 2))) σ) : x5_usedSeconds b σ k := by
  unfold x5_usedSeconds
  rw [hS.1]
  exact s5_sum (by rw [n5_2 hb]; exact hF.2.2.2.1) (by have := hF.2.2.2.1; omega) (fun i hi => ⟨(hS.2.2.2.2.2.1 i hi).2.1, by have := hF.2.2.2.2.2.1 i hi; omega⟩) h
theorem s5_usedSounds (hb : kd b = 5) (hS : StC b σ F) (hF : WF F) (h : k (nI (smL (fun d => F (17 + d)) (F 2) + smL (fun d => F (23 + d)) (F 2))) σ) : x5_usedSounds b σ k := by
  unfold x5_usedSounds
  rw [hS.1]
  refine s5_sum (by rw [n5_3 hb]; exact hF.2.2.2.1) (by have := hF.2.2.2.1; omega) (fun i hi => ⟨(hS.2.2.2.2.2.1 i hi).2.2.1, by have := hF.2.2.2.2.2.1 i hi; omega⟩) ?_
  show x5_sum (b + 4) (σ b 8) σ _
  rw [hS.1]
  refine s5_sum (by rw [n5_4 hb]; exact hF.2.2.2.1) (by have := hF.2.2.2.1; omega) (fun i hi => ⟨(hS.2.2.2.2.2.1 i hi).2.2.2, by have := hF.2.2.2.2.2.1 i hi; omega⟩) ?_
  rw [nI_add]; exact h
theorem s5_metsAdded (hb : kd b = 5) (hS : StC b σ F) (hF : WF F) (h : k (nI (smL (fun c => F (47 + c)) (F 3))) σ) : x5_metsAdded b σ k := by
  have h63 := hF.2.2.2.2.1
  unfold x5_metsAdded
  rw [hS.2.1]
  exact s5_sum (by rw [n5_8 hb]; exact h63) (by omega) (fun i hi => ⟨(hS.2.2.2.2.2.2 i hi).2.2.2, hF.1 _ (by omega)⟩) h
theorem s5_placesAdded (hb : kd b = 5) (hS : StC b σ F) (hF : WF F) (h : k (nI (smL (fun c => F (41 + c)) (F 3))) σ) : x5_placesAdded b σ k := by
  have h63 := hF.2.2.2.2.1
  unfold x5_placesAdded
  rw [hS.2.1]
  exact s5_sum (by rw [n5_6 hb]; exact h63) (by omega) (fun i hi => ⟨(hS.2.2.2.2.2.2 i hi).2.1, hF.1 _ (by omega)⟩) h
theorem s5_isTold_t {n : Nat} (h8 : σ b 8 = nI n) (hn : 0 < n ∧ n ≤ 6) (h : k (nI 1) σ) : x5_isTold b σ k := by
  unfold x5_isTold x5_isTold_12
  rw [h8, if_neg (nI_nle hn.1 (by omega))]
  exact ⟨Or.inr rfl, h⟩
theorem s5_isTold_f (h8 : σ b 8 = nI 0) (h : k (nI 0) σ) : x5_isTold b σ k := by
  unfold x5_isTold x5_isTold_12
  rw [h8, if_pos (by decide)]
  exact ⟨Or.inl rfl, h⟩
end CLASS
theorem s5_takeOver {b o : Nat} {σ : St} {F : Fn} {k : St → Prop} (hb : kd b = 5) (ho : kd o = 5) (hn : b ≠ o) (hS : StC o σ F) (h2 : F 2 ≤ 6) (h3 : F 3 ≤ 6) (h : ∀ σ', StC b σ' F → frS b σ σ' → k σ') : x5_takeOver b o σ k := by
  have hd' : b + 8 < o ∨ o + 8 < b := by
    rcases k5_c hb with rfl | rfl | rfl | rfl <;> rcases k5_c ho with rfl | rfl | rfl | rfl <;> first | exact absurd rfl hn | omega
  have ok : cpOk 0 0 6 6 6 := by unfold cpOk; decide
  have z0 : (0 : Int32).toNatClampNeg = 0 := by decide
  have z6 : (6 : Int32).toNatClampNeg = 6 := by decide
  unfold x5_takeOver lt
  rw [n5_1 hb, n5_1 ho]
  rw [n5_2 hb, n5_2 ho]
  rw [n5_3 hb, n5_3 ho]
  rw [n5_4 hb, n5_4 ho]
  rw [n5_5 hb, n5_5 ho]
  rw [n5_6 hb, n5_6 ho]
  rw [n5_7 hb, n5_7 ho]
  rw [n5_8 hb, n5_8 ho]
  rw [z0, z6]
  refine ⟨ok, ?_⟩
  have e1 : ∀ a, a ≠ b + 1 → st_cp σ (o + 1) 0 (b + 1) 0 6 a = σ a := fun a ha => cp_n _ ha
  have f1 : ∀ j, j < 6 → st_cp σ (o + 1) 0 (b + 1) 0 6 (b + 1) j = σ (o + 1) j := fun j hj => by rw [cp_in _ (Nat.zero_le _) (by omega), Nat.zero_add, Nat.sub_zero]
  generalize st_cp σ (o + 1) 0 (b + 1) 0 6 = σ1 at e1 f1 ⊢
  refine ⟨ok, ?_⟩
  have e2 : ∀ a, a ≠ b + 2 → st_cp σ1 (o + 2) 0 (b + 2) 0 6 a = σ1 a := fun a ha => cp_n _ ha
  have f2 : ∀ j, j < 6 → st_cp σ1 (o + 2) 0 (b + 2) 0 6 (b + 2) j = σ1 (o + 2) j := fun j hj => by rw [cp_in _ (Nat.zero_le _) (by omega), Nat.zero_add, Nat.sub_zero]
  generalize st_cp σ1 (o + 2) 0 (b + 2) 0 6 = σ2 at e2 f2 ⊢
  refine ⟨ok, ?_⟩
  have e3 : ∀ a, a ≠ b + 3 → st_cp σ2 (o + 3) 0 (b + 3) 0 6 a = σ2 a := fun a ha => cp_n _ ha
  have f3 : ∀ j, j < 6 → st_cp σ2 (o + 3) 0 (b + 3) 0 6 (b + 3) j = σ2 (o + 3) j := fun j hj => by rw [cp_in _ (Nat.zero_le _) (by omega), Nat.zero_add, Nat.sub_zero]
  generalize st_cp σ2 (o + 3) 0 (b + 3) 0 6 = σ3 at e3 f3 ⊢
  refine ⟨ok, ?_⟩
  have e4 : ∀ a, a ≠ b + 4 → st_cp σ3 (o + 4) 0 (b + 4) 0 6 a = σ3 a := fun a ha => cp_n _ ha
  have f4 : ∀ j, j < 6 → st_cp σ3 (o + 4) 0 (b + 4) 0 6 (b + 4) j = σ3 (o + 4) j := fun j hj => by rw [cp_in _ (Nat.zero_le _) (by omega), Nat.zero_add, Nat.sub_zero]
  generalize st_cp σ3 (o + 4) 0 (b + 4) 0 6 = σ4 at e4 f4 ⊢
  refine ⟨ok, ?_⟩
  have e5 : ∀ a, a ≠ b + 5 → st_cp σ4 (o + 5) 0 (b + 5) 0 6 a = σ4 a := fun a ha => cp_n _ ha
  have f5 : ∀ j, j < 6 → st_cp σ4 (o + 5) 0 (b + 5) 0 6 (b + 5) j = σ4 (o + 5) j := fun j hj => by rw [cp_in _ (Nat.zero_le _) (by omega), Nat.zero_add, Nat.sub_zero]
  generalize st_cp σ4 (o + 5) 0 (b + 5) 0 6 = σ5 at e5 f5 ⊢
  refine ⟨ok, ?_⟩
  have e6 : ∀ a, a ≠ b + 6 → st_cp σ5 (o + 6) 0 (b + 6) 0 6 a = σ5 a := fun a ha => cp_n _ ha
  have f6 : ∀ j, j < 6 → st_cp σ5 (o + 6) 0 (b + 6) 0 6 (b + 6) j = σ5 (o + 6) j := fun j hj => by rw [cp_in _ (Nat.zero_le _) (by omega), Nat.zero_add, Nat.sub_zero]
  generalize st_cp σ5 (o + 6) 0 (b + 6) 0 6 = σ6 at e6 f6 ⊢
  refine ⟨ok, ?_⟩
  have e7 : ∀ a, a ≠ b + 7 → st_cp σ6 (o + 7) 0 (b + 7) 0 6 a = σ6 a := fun a ha => cp_n _ ha
  have f7 : ∀ j, j < 6 → st_cp σ6 (o + 7) 0 (b + 7) 0 6 (b + 7) j = σ6 (o + 7) j := fun j hj => by rw [cp_in _ (Nat.zero_le _) (by omega), Nat.zero_add, Nat.sub_zero]
  generalize st_cp σ6 (o + 7) 0 (b + 7) 0 6 = σ7 at e7 f7 ⊢
  refine ⟨ok, ?_⟩
  have e8 : ∀ a, a ≠ b + 8 → st_cp σ7 (o + 8) 0 (b + 8) 0 6 a = σ7 a := fun a ha => cp_n _ ha
  have f8 : ∀ j, j < 6 → st_cp σ7 (o + 8) 0 (b + 8) 0 6 (b + 8) j = σ7 (o + 8) j := fun j hj => by rw [cp_in _ (Nat.zero_le _) (by omega), Nat.zero_add, Nat.sub_zero]
  generalize st_cp σ7 (o + 8) 0 (b + 8) 0 6 = σ8 at e8 f8 ⊢
  have g : ∀ a, (a < b ∨ b + 8 < a ∨ a = b) → σ8 a = σ a := fun a ha => by rw [e8 a (by omega), e7 a (by omega), e6 a (by omega), e5 a (by omega), e4 a (by omega), e3 a (by omega), e2 a (by omega), e1 a (by omega)]
  have c1 : ∀ j, j < 6 → σ8 (b + 1) j = σ (o + 1) j := fun j hj => by rw [e8 _ (by omega), e7 _ (by omega), e6 _ (by omega), e5 _ (by omega), e4 _ (by omega), e3 _ (by omega), e2 _ (by omega), f1 j hj]
  have c2 : ∀ j, j < 6 → σ8 (b + 2) j = σ (o + 2) j := fun j hj => by rw [e8 _ (by omega), e7 _ (by omega), e6 _ (by omega), e5 _ (by omega), e4 _ (by omega), e3 _ (by omega), f2 j hj, e1 _ (by omega)]
  have c3 : ∀ j, j < 6 → σ8 (b + 3) j = σ (o + 3) j := fun j hj => by rw [e8 _ (by omega), e7 _ (by omega), e6 _ (by omega), e5 _ (by omega), e4 _ (by omega), f3 j hj, e2 _ (by omega), e1 _ (by omega)]
  have c4 : ∀ j, j < 6 → σ8 (b + 4) j = σ (o + 4) j := fun j hj => by rw [e8 _ (by omega), e7 _ (by omega), e6 _ (by omega), e5 _ (by omega), f4 j hj, e3 _ (by omega), e2 _ (by omega), e1 _ (by omega)]
  have c5 : ∀ j, j < 6 → σ8 (b + 5) j = σ (o + 5) j := fun j hj => by rw [e8 _ (by omega), e7 _ (by omega), e6 _ (by omega), f5 j hj, e4 _ (by omega), e3 _ (by omega), e2 _ (by omega), e1 _ (by omega)]
  have c6 : ∀ j, j < 6 → σ8 (b + 6) j = σ (o + 6) j := fun j hj => by rw [e8 _ (by omega), e7 _ (by omega), f6 j hj, e5 _ (by omega), e4 _ (by omega), e3 _ (by omega), e2 _ (by omega), e1 _ (by omega)]
  have c7 : ∀ j, j < 6 → σ8 (b + 7) j = σ (o + 7) j := fun j hj => by rw [e8 _ (by omega), f7 j hj, e6 _ (by omega), e5 _ (by omega), e4 _ (by omega), e3 _ (by omega), e2 _ (by omega), e1 _ (by omega)]
  have c8 : ∀ j, j < 6 → σ8 (b + 8) j = σ (o + 8) j := fun j hj => by rw [f8 j hj, e7 _ (by omega), e6 _ (by omega), e5 _ (by omega), e4 _ (by omega), e3 _ (by omega), e2 _ (by omega), e1 _ (by omega)]
  obtain ⟨a1, a2, a3, a4, a5, a6, a7⟩ := hS
  have ro : σ8 o = σ o := g o (by omega)
  have u1 : σ8 o 8 = nI (F 2) := by rw [ro]; exact a1
  try dsimp only
  rw [u1]
  have w1 : ∀ a, a ≠ b → st_up σ8 b 8 (nI (F 2)) a = σ8 a := fun a ha => st_up_ne _ _ _ ha
  have x1 : st_up σ8 b 8 (nI (F 2)) b 8 = nI (F 2) := up_s _ _ _ _
  have y1 : ∀ j, j ≠ 8 → st_up σ8 b 8 (nI (F 2)) b j = σ8 b j := fun j hj => up_n _ _ (Or.inr hj)
  generalize st_up σ8 b 8 (nI (F 2)) = τ1 at w1 x1 y1 ⊢
  have u2 : τ1 o 9 = nI (F 3) := by rw [w1 o (by omega), ro]; exact a2
  try dsimp only
  rw [u2]
  have w2 : ∀ a, a ≠ b → st_up τ1 b 9 (nI (F 3)) a = τ1 a := fun a ha => st_up_ne _ _ _ ha
  have x2 : st_up τ1 b 9 (nI (F 3)) b 9 = nI (F 3) := up_s _ _ _ _
  have y2 : ∀ j, j ≠ 9 → st_up τ1 b 9 (nI (F 3)) b j = τ1 b j := fun j hj => up_n _ _ (Or.inr hj)
  generalize st_up τ1 b 9 (nI (F 3)) = τ2 at w2 x2 y2 ⊢
  have u3 : τ2 o 10 = nI (F 0) := by rw [w2 o (by omega), w1 o (by omega), ro]; exact a3
  try dsimp only
  rw [u3]
  have w3 : ∀ a, a ≠ b → st_up τ2 b 10 (nI (F 0)) a = τ2 a := fun a ha => st_up_ne _ _ _ ha
  have x3 : st_up τ2 b 10 (nI (F 0)) b 10 = nI (F 0) := up_s _ _ _ _
  have y3 : ∀ j, j ≠ 10 → st_up τ2 b 10 (nI (F 0)) b j = τ2 b j := fun j hj => up_n _ _ (Or.inr hj)
  generalize st_up τ2 b 10 (nI (F 0)) = τ3 at w3 x3 y3 ⊢
  have u4 : τ3 o 11 = nI (F 1) := by rw [w3 o (by omega), w2 o (by omega), w1 o (by omega), ro]; exact a4
  try dsimp only
  rw [u4]
  have w4 : ∀ a, a ≠ b → st_up τ3 b 11 (nI (F 1)) a = τ3 a := fun a ha => st_up_ne _ _ _ ha
  have x4 : st_up τ3 b 11 (nI (F 1)) b 11 = nI (F 1) := up_s _ _ _ _
  have y4 : ∀ j, j ≠ 11 → st_up τ3 b 11 (nI (F 1)) b j = τ3 b j := fun j hj => up_n _ _ (Or.inr hj)
  generalize st_up τ3 b 11 (nI (F 1)) = τ4 at w4 x4 y4 ⊢
  have u5 : τ4 o 12 = nI (F 4) := by rw [w4 o (by omega), w3 o (by omega), w2 o (by omega), w1 o (by omega), ro]; exact a5
  try dsimp only
  rw [u5]
  have w5 : ∀ a, a ≠ b → st_up τ4 b 12 (nI (F 4)) a = τ4 a := fun a ha => st_up_ne _ _ _ ha
  have x5 : st_up τ4 b 12 (nI (F 4)) b 12 = nI (F 4) := up_s _ _ _ _
  have y5 : ∀ j, j ≠ 12 → st_up τ4 b 12 (nI (F 4)) b j = τ4 b j := fun j hj => up_n _ _ (Or.inr hj)
  generalize st_up τ4 b 12 (nI (F 4)) = τ5 at w5 x5 y5 ⊢
  have gg : ∀ a, a ≠ b → τ5 a = σ8 a := fun a ha => by rw [w5 a ha, w4 a ha, w3 a ha, w2 a ha, w1 a ha]
  refine h τ5 ⟨?_, ?_, ?_, ?_, ?_, fun d hd => ?_, fun c hc => ?_⟩ (fun i hi => by rw [gg i (by omega), g i (by omega)])
  · rw [y5 8 (by decide), y4 8 (by decide), y3 8 (by decide), y2 8 (by decide)]; exact x1
  · rw [y5 9 (by decide), y4 9 (by decide), y3 9 (by decide)]; exact x2
  · rw [y5 10 (by decide), y4 10 (by decide)]; exact x3
  · rw [y5 11 (by decide)]; exact x4
  · exact x5
  · rw [gg _ (by omega), gg _ (by omega), gg _ (by omega), gg _ (by omega), c1 d (by omega), c2 d (by omega), c3 d (by omega), c4 d (by omega)]; exact a6 d hd
  · rw [gg _ (by omega), gg _ (by omega), gg _ (by omega), gg _ (by omega), c5 c (by omega), c6 c (by omega), c7 c (by omega), c8 c (by omega)]; exact a7 c hc
