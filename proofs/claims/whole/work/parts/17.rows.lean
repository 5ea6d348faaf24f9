/-! ROWS -/
def on12 (σ σ' : St) : Prop := ∀ i j, cm i j ≠ 0 → cm i j ≠ 1 → cm i j ≠ 2 → σ' i j = σ i j
theorem on12.rf {σ : St} : on12 σ σ := fun _ _ _ _ _ => rfl
theorem on12.tr {σ σ1 σ2 : St} (h : on12 σ σ1) (g : on12 σ1 σ2) : on12 σ σ2 := fun i j h1 h2 h3 => (g i j h1 h2 h3).trans (h i j h1 h2 h3)
theorem onl.o1 {σ σ1 : St} (h : onl 1 σ σ1) : on12 σ σ1 := fun i j h1 h2 _ => h i j h1 h2
theorem onl.o2 {σ σ1 : St} (h : onl 2 σ σ1) : on12 σ σ1 := fun i j h1 _ h3 => h i j h1 h3
theorem Rel.m12 {σ σ' : St} (h : Rel σ) (e : on12 σ σ') (g1 : R1 σ') (g2 : R2 σ') : Rel σ' := by
  have a : ∀ c, c ≠ 0 → c ≠ 1 → c ≠ 2 → agr c σ σ' := fun c h0 h1 h2 i j q => e i j (by rw [q]; exact h0) (by rw [q]; exact h1) (by rw [q]; exact h2)
  exact ⟨g1, g2, h.2.2.1.congr (a 3 (by decide) (by decide) (by decide)), h.2.2.2.1.congr (a 4 (by decide) (by decide) (by decide)), h.2.2.2.2.1.congr (a 5 (by decide) (by decide) (by decide)), h.2.2.2.2.2.congr (a 6 (by decide) (by decide) (by decide))⟩
theorem R1.one {σ σ' : St} (h : R1 σ) {r : Nat} (hr : RowR r σ') (e : ∀ q, q < 8 → q ≠ r → (∀ j, σ' (2 + 2 * q) j = σ (2 + 2 * q) j) ∧ (∀ j, σ' (3 + 2 * q) j = σ (3 + 2 * q) j) ∧ σ' 66 q = σ 66 q ∧ σ' 67 q = σ 67 q ∧ ∀ i, i < 40 → σ' 68 (40 * q + i) = σ 68 (40 * q + i)) : R1 σ' := by
  intro q hq
  by_cases z : q = r
  · subst z; exact hr
  · obtain ⟨e1, e2, e3, e4, e5⟩ := e q hq z
    rcases h q hq with a | ⟨L, n, h1, h2, h3, h4, h5, h6, h7⟩
    · exact Or.inl ⟨by rw [e1]; exact a.1, by rw [e3]; exact a.2⟩
    · exact Or.inr ⟨L, n, h1, h2, by rw [e1]; exact h3, by rw [e3]; exact h4, by rw [e1]; exact h5, by rw [e4]; exact h6, fun i hi => by rw [e2, e5 i hi]; exact h7 i hi⟩
/-- a finding, or none, is told by both -/
def stt (v : Int32) (σ : St) : St := st_up (st_up σ 0 9 v) 65 3 v
theorem stt_on (v : Int32) (σ : St) : onl 2 σ (stt v σ) := by
  unfold stt
  exact onl.up (c := 2) (onl.up (c := 2) onl.rf (Or.inr rfl)) (Or.inr rfl)
theorem stt_R2 (v : Int32) (σ : St) : R2 (stt v σ) := by
  unfold R2 stt
  rw [up_n _ _ (Or.inl (by decide)), up_s, up_s]
theorem Rel.stt {σ : St} (h : Rel σ) (v : Int32) : Rel (stt v σ) := h.m2 (stt_on v σ) (stt_R2 v σ)
/-- n items from x on are there, of N -/
def pt (x y N : Int32) : Prop := ¬ x < 0 ∧ ¬ y < 0 ∧ ¬ N < y ∧ ¬ N - y < x
theorem pt_nat {x y : Int32} {n : Nat} (hn : n ≤ 40) (h : pt x y (nI n)) : ∃ i m, x = nI i ∧ y = nI m ∧ i + m ≤ n := by
  obtain ⟨h1, h2, h3, h4⟩ := h
  obtain ⟨m, hm, rfl⟩ := nI_of h2
  rw [nI_ltI (by omega) hm] at h3
  rw [pk_sub (by omega)] at h4
  obtain ⟨i, hi, rfl⟩ := nI_of h1
  rw [nI_ltI (by omega) hi] at h4
  exact ⟨i, m, rfl, rfl, by omega⟩
theorem pt_of {i m n : Nat} (hn : n ≤ 40) (h : i + m ≤ n) : pt (nI i) (nI m) (nI n) := by
  refine ⟨nI_pos (by omega), nI_pos (by omega), ?_, ?_⟩
  · rw [nI_ltI (by omega) (by omega)]; omega
  · rw [pk_sub (by omega), nI_ltI (by omega) (by omega)]; omega
theorem pt_1 {x : Int32} {n : Nat} (hn : n ≤ 40) : pt x 1 (nI n) ↔ has x n := by
  constructor
  · intro h
    obtain ⟨i, m, rfl, e, h2⟩ := pt_nat hn h
    have e : nI 1 = nI m := e
    have : m < 2 ^ 31 := by omega
    rw [nI_eq (by decide) this] at e
    exact ⟨i, by omega, rfl⟩
  · rintro ⟨j, hj, rfl⟩
    exact pt_of (m := 1) hn (by omega)
section ROWS1
variable {o : Nat} {σ : St} {k : Int32 → St → Prop}
theorem s6_isRow_t {j : Nat} (hj : j < 8) (h : k (nI 1) σ) : x6_isRow (nI j) σ k := by
  unfold x6_isRow x6_isRow_15
  rw [if_neg (nI_pos (by omega)), show (8 : Int32) = nI 8 from rfl, if_neg (nI_ge hj (by decide))]
  exact ⟨Or.inr rfl, h⟩
theorem s6_isRow_f {x : Int32} (hx : ¬ has x 8) (h : k (nI 0) σ) : x6_isRow x σ k := by
  unfold x6_isRow x6_isRow_14 x6_isRow_15
  by_cases z : x < 0
  · rw [if_pos z]; exact ⟨Or.inl rfl, h⟩
  · rw [if_neg z, if_pos (show (8 : Int32) ≤ x from (has_no (by decide) hx).resolve_left z)]; exact ⟨Or.inl rfl, h⟩
theorem s7_isRow_t {j : Nat} (hj : j < 8) (h : k (nI 1) σ) : x7_isRow (nI j) σ k := in_lit_t (m := 7) (by omega) (by decide) ⟨Or.inr rfl, h⟩
theorem s7_isRow_f {x : Int32} (hx : ¬ has x 8) (h : k (nI 0) σ) : x7_isRow x σ k := in_lit_f (m := 7) (by decide) hx ⟨Or.inl rfl, h⟩
theorem s4_isMissing_t (h1 : σ o 1 = -1) (h : k (nI 1) σ) : x4_isMissing o σ k := by
  unfold x4_isMissing x4_isMissing_13
  rw [if_pos h1]; exact ⟨Or.inr rfl, h⟩
theorem s4_isMissing_f {L : Nat} (hL : L ≤ 2) (h1 : σ o 1 = nI L) (h : k (nI 0) σ) : x4_isMissing o σ k := by
  unfold x4_isMissing x4_isMissing_13
  rw [h1, if_neg (by rcases (show L = 0 ∨ L = 1 ∨ L = 2 by omega) with rfl | rfl | rfl <;> decide)]
  exact ⟨Or.inl rfl, h⟩
theorem s4_spans_t {x y : Int32} (hp : pt x y (σ o 2)) (h : k (nI 1) σ) : x4_spans o x y σ k := by
  unfold x4_spans x4_spans_31
  rw [if_neg hp.1, if_neg hp.2.1, if_neg hp.2.2.1, if_neg hp.2.2.2]
  exact ⟨Or.inr rfl, h⟩
theorem s4_spans_f {x y : Int32} (hp : ¬ pt x y (σ o 2)) (h : k (nI 0) σ) : x4_spans o x y σ k := by
  unfold x4_spans x4_spans_30 x4_spans_31
  by_cases a1 : x < 0
  · rw [if_pos a1]; exact ⟨Or.inl rfl, h⟩
  rw [if_neg a1]
  by_cases a2 : y < 0
  · rw [if_pos a2]; exact ⟨Or.inl rfl, h⟩
  rw [if_neg a2]
  by_cases a3 : σ o 2 < y
  · rw [if_pos a3]; exact ⟨Or.inl rfl, h⟩
  rw [if_neg a3]
  by_cases a4 : σ o 2 - y < x
  · rw [if_pos a4]; exact ⟨Or.inl rfl, h⟩
  exact absurd ⟨a1, a2, a3, a4⟩ hp
theorem s7_isPart_t {x y N : Int32} (hp : pt x y N) (h : k (nI 1) σ) : x7_isPart x y N σ k := by
  unfold x7_isPart x7_isPart_25
  rw [if_neg hp.1, if_neg hp.2.1, if_neg hp.2.2.1, if_neg hp.2.2.2]
  exact ⟨Or.inr rfl, h⟩
theorem s7_isPart_f {x y N : Int32} (hp : ¬ pt x y N) (h : k (nI 0) σ) : x7_isPart x y N σ k := by
  unfold x7_isPart x7_isPart_24 x7_isPart_25
  by_cases a1 : x < 0
  · rw [if_pos a1]; exact ⟨Or.inl rfl, h⟩
  rw [if_neg a1]
  by_cases a2 : y < 0
  · rw [if_pos a2]; exact ⟨Or.inl rfl, h⟩
  rw [if_neg a2]
  by_cases a3 : N < y
  · rw [if_pos a3]; exact ⟨Or.inl rfl, h⟩
  rw [if_neg a3]
  by_cases a4 : N - y < x
  · rw [if_pos a4]; exact ⟨Or.inl rfl, h⟩
  exact absurd ⟨a1, a2, a3, a4⟩ hp
theorem s6_findingAt_m {x y : Int32} (h1 : σ o 1 = -1) (h : k 1 σ) : x6_findingAt o x y σ k := by
  unfold x6_findingAt
  refine s4_isMissing_t h1 ?_
  show if _ then _ else _
  rw [if_neg (by decide)]; exact h
theorem s6_findingAt_p {x y : Int32} {L : Nat} (hL : L ≤ 2) (h1 : σ o 1 = nI L) (hp : ¬ pt x y (σ o 2)) (h : k 2 σ) : x6_findingAt o x y σ k := by
  unfold x6_findingAt x6_findingAt_23
  refine s4_isMissing_f hL h1 ?_
  show if _ then _ else _
  rw [if_pos (by decide)]
  refine s4_spans_f hp ?_
  show if _ then _ else _
  rw [if_pos (by decide)]; exact h
theorem s6_findingAt_t {x y : Int32} {L : Nat} (hL : L ≤ 2) (h1 : σ o 1 = nI L) (hp : pt x y (σ o 2)) (h : k 0 σ) : x6_findingAt o x y σ k := by
  unfold x6_findingAt x6_findingAt_23
  refine s4_isMissing_f hL h1 ?_
  show if _ then _ else _
  rw [if_pos (by decide)]
  refine s4_spans_t hp ?_
  show if _ then _ else _
  rw [if_neg (by decide)]; exact h
theorem lane_ge {L : Nat} (h : L ≤ 2) : (0 : Int32) ≤ nI L := nI_pos' (by omega)
end ROWS1
theorem s4_begin {o : Nat} {σ : St} {x y : Int32} {k : St → Prop} (ho : kd o = 4) (h : ∀ σ', σ' o 1 = x → σ' o 2 = y → (∀ j, j < 40 → σ' (o + 1) j = 0) → (∀ i, i ≠ o → i ≠ o + 1 → σ' i = σ i) → k σ') : x4_begin o x y σ k := by
  have key : ∀ n c τ, c ≤ 40 → 40 < c + n → τ o 1 = x → τ o 2 = y → (∀ j, j < c → τ (o + 1) j = 0) → (∀ i, i ≠ o → i ≠ o + 1 → τ i = σ i) → x4_begin_12 o x y k n (nI c) τ := by
    intro n
    induction n with
    | zero => intro c τ h1 h2; omega
    | succ n ih =>
      intro c τ h1 h2 a1 a2 a3 a4
      unfold x4_begin_12 lt
      simp (disch := omega) only [lI, nI_add, pk_mul, nI_leI, nI_ltI, nI_eq, nI_clamp, vpI, pk_sub, isB0, isB1, n4_1 ho]
      by_cases q : 40 ≤ c
      · rw [if_pos q]
        exact h τ a1 a2 (fun j hj => a3 j (by omega)) a4
      · rw [if_neg q]
        refine ⟨by omega, ih (c + 1) _ (by omega) (by omega) ?_ ?_ ?_ ?_⟩
        · rw [up_n _ _ (Or.inl (by omega))]; exact a1
        · rw [up_n _ _ (Or.inl (by omega))]; exact a2
        · intro j hj
          by_cases z : j = c
          · subst z; rw [up_s]; rfl
          · rw [up_n _ _ (Or.inr z)]; exact a3 j (by omega)
        · intro i h1 h2; rw [st_up_ne _ _ _ h2]; exact a4 i h1 h2
  unfold x4_begin lt
  refine ⟨41, key 41 0 _ (by decide) (by decide) ?_ ?_ (fun j hj => absurd hj (Nat.not_lt_zero _)) ?_⟩
  · rw [up_n _ _ (Or.inr (by decide)), up_s]
  · rw [up_s]
  · intro i h1 h2; rw [st_up_ne _ _ _ h1, st_up_ne _ _ _ h1]
theorem s7_row_52 {r : Nat} {x2 x3 : Int32} {σ : St} {k : Int32 → St → Prop} (hr : r < 8) (h : ∀ σ', (∀ i, i < 40 → σ' 68 (40 * r + i) = 0) → (∀ j, j < 40 * r ∨ 40 * r + 40 ≤ j → σ' 68 j = σ 68 j) → (∀ i, i ≠ 68 → σ' i = σ i) → x7_done x3 σ' (fun r7 σ8 => k r7 σ8)) : ∀ n c τ, c ≤ 40 → 40 < c + n → (∀ i, i < c → τ 68 (40 * r + i) = 0) → (∀ j, j < 40 * r ∨ 40 * r + 40 ≤ j → τ 68 j = σ 68 j) → (∀ i, i ≠ 68 → τ i = σ i) → x7_row_52 (nI r) x2 x3 k n (nI c) τ := by
  intro n
  induction n with
  | zero => intro c τ h1 h2; omega
  | succ n ih =>
    intro c τ h1 h2 a1 a2 a3
    unfold x7_row_52 lt
    simp (disch := omega) only [lI, nI_add, pk_mul, nI_leI, nI_ltI, nI_eq, nI_clamp, vpI, pk_sub, isB0, isB1, show ln 68 = 320 from rfl]
    by_cases q : 40 ≤ c
    · rw [if_pos q]
      exact h τ (fun i hi => a1 i (by omega)) a2 a3
    · rw [if_neg q]
      refine ⟨by omega, ih (c + 1) _ (by omega) (by omega) ?_ ?_ ?_⟩
      · intro i hi
        by_cases z : i = c
        · subst z; rw [up_s]; rfl
        · rw [up_n _ _ (Or.inr (by omega))]; exact a1 i (by omega)
      · intro j hj; rw [up_n _ _ (Or.inr (by omega))]; exact a2 j hj
      · intro i hi; rw [st_up_ne _ _ _ hi]; exact a3 i hi
theorem has3 {x : Int32} (h : ¬ has x 3) : x < 0 ∨ 2 < x := by
  rcases has_no (by decide) h with q | q
  · exact Or.inl q
  · right
    have : nI 2 < nI 3 := nI_lt (by decide) (by decide)
    exact Int32.lt_of_lt_of_le this q
theorem sp0 : Sp0 Rel := by
  intro a b c σ hR
  unfold x6_row x6_row_22 x7_row x7_row_22
  by_cases ha : has a 8
  · obtain ⟨r, hr, rfl⟩ := ha
    refine s6_isRow_t hr ?_
    show if _ then _ else _
    rw [if_neg (by decide)]
    by_cases hb : has b 3
    · obtain ⟨L, hL, rfl⟩ := hb
      rw [if_neg (nI_pos (by omega)), if_neg (by rw [show (2 : Int32) = nI 2 from rfl, nI_ltI (by omega) (by omega)]; omega)]
      by_cases hc : c ≤ 40
      · rw [if_pos hc]
        by_cases hc0 : 0 ≤ c
        · rw [if_pos hc0]
          obtain ⟨n, hn, rfl⟩ := nI_of2 (M := 40) (n := 40) (by decide) (Int32.not_lt.mpr hc0) hc
          have hk4 : kd (2 + 2 * r) = 4 := by have := k_row ((vpI (n := r) (by omega)).mpr hr); rwa [nI_clamp (by omega)] at this
          rw [nI_clamp (by omega)]
          refine ⟨(vpI (by omega)).mpr hr, ?_⟩
          refine s4_begin hk4 (fun τ e1 e2 e3 e4 => ?_)
          unfold x6_foundNone lt
          refine s7_isRow_t hr ?_
          show if _ then _ else _
          rw [if_neg (by decide)]
          refine in_lit_t (m := 2) (by omega) (by decide) ?_
          show if _ then _ else _
          rw [if_neg (by decide), if_pos hc, if_pos hc0]
          refine ⟨(vpI (by omega)).mpr (by show r < 8; exact hr), (vpI (by omega)).mpr (by show r < 8; exact hr), 41, ?_⟩
          refine s7_row_52 hr (fun υ f1 f2 f3 => ?_) 41 0 _ (by decide) (by decide) (fun i hi => absurd hi (Nat.not_lt_zero _)) (fun _ _ => rfl) (fun _ _ => rfl)
          unfold x7_done lt
          refine ⟨rfl, ?_⟩
          have g68 : ∀ i, i ≠ 68 → i ≠ 67 → i ≠ 66 → i ≠ 0 → υ i = τ i := fun i h1 h2 h3 h4 => by rw [f3 i h1, st_up_ne _ _ _ h2, st_up_ne _ _ _ h3, st_up_ne _ _ _ h4]
          have fin : ∀ i, i ≠ 65 → st_up υ 65 3 0 i = υ i := fun i hi => st_up_ne _ _ _ hi
          refine hR.m12 (fun i j h0 h1 h2 => ?_) ?_ ?_
          · have n68 : i ≠ 68 := fun z => h1 (by subst z; rfl)
            have n67 : i ≠ 67 := fun z => h1 (by subst z; rfl)
            have n66 : i ≠ 66 := fun z => h1 (by subst z; rfl)
            have nr : ¬ (2 ≤ i ∧ i ≤ 17) := fun z => h1 (cm_ro i j z)
            rw [up_n _ _ (by by_cases z : i = 65; right; rintro rfl; subst z; exact h2 rfl; exact Or.inl z), f3 i n68, st_up_ne _ _ _ n67, st_up_ne _ _ _ n66]
            rw [up_n _ _ (by by_cases z : i = 0; right; rintro rfl; subst z; exact h2 rfl; exact Or.inl z), e4 i (by omega) (by omega)]
          · refine hR.1.one (r := r) (Or.inr ⟨L, n, by omega, hn, ?_, ?_, ?_, ?_, ?_⟩) (fun q hq hqr => ⟨?_, ?_, ?_, ?_, ?_⟩)
            · rw [fin _ (by omega), g68 _ (by omega) (by omega) (by omega) (by omega)]; exact e1
            · rw [fin _ (by omega), f3 _ (by decide), st_up_ne _ _ _ (by decide), up_s]
            · rw [fin _ (by omega), g68 _ (by omega) (by omega) (by omega) (by omega)]; exact e2
            · rw [fin _ (by omega), f3 _ (by decide), up_s]
            · intro i hi
              rw [fin _ (by omega), fin _ (by decide), g68 _ (by omega) (by omega) (by omega) (by omega), f1 i hi, show 3 + 2 * r = 2 + 2 * r + 1 by omega]
              exact e3 i hi
            · intro j; rw [fin _ (by omega), g68 _ (by omega) (by omega) (by omega) (by omega), e4 _ (by omega) (by omega)]
            · intro j; rw [fin _ (by omega), g68 _ (by omega) (by omega) (by omega) (by omega), e4 _ (by omega) (by omega)]
            · rw [fin _ (by decide), f3 _ (by decide), st_up_ne _ _ _ (by decide), up_n _ _ (Or.inr hqr), st_up_ne _ _ _ (by decide), e4 _ (by omega) (by omega)]
            · rw [fin _ (by decide), f3 _ (by decide), up_n _ _ (Or.inr hqr), st_up_ne _ _ _ (by decide), st_up_ne _ _ _ (by decide), e4 _ (by omega) (by omega)]
            · intro i hi; rw [fin _ (by decide), f2 _ (by omega), st_up_ne _ _ _ (by decide), st_up_ne _ _ _ (by decide), st_up_ne _ _ _ (by decide), e4 _ (by omega) (by omega)]
          · unfold R2
            rw [up_s, fin _ (by decide), f3 _ (by decide), st_up_ne _ _ _ (by decide), st_up_ne _ _ _ (by decide), up_s]
        · rw [if_neg hc0]
          unfold x6_found lt
          refine s7_isRow_t hr ?_
          show if _ then _ else _
          rw [if_neg (by decide)]
          refine in_lit_t (m := 2) (by omega) (by decide) ?_
          show if _ then _ else _
          rw [if_neg (by decide), if_pos hc, if_neg hc0]
          exact ⟨rfl, hR.stt 4⟩
      · rw [if_neg hc]
        refine s7_isRow_t hr ?_
        show if _ then _ else _
        rw [if_neg (by decide)]
        refine in_lit_t (m := 2) (by omega) (by decide) ?_
        show if _ then _ else _
        rw [if_neg (by decide), if_neg hc]
        exact ⟨rfl, hR⟩
    · have e6 : ∀ A B : Prop, A → (if b < 0 then A else if 2 < b then A else B) := by
        intro A B h
        rcases has3 hb with q | q
        · rw [if_pos q]; exact h
        · by_cases z : b < 0
          · rw [if_pos z]; exact h
          · rw [if_neg z, if_pos q]; exact h
      refine e6 _ _ ?_
      refine s7_isRow_t hr ?_
      show if _ then _ else _
      rw [if_neg (by decide)]
      refine in_lit_f (m := 2) (by decide) hb ?_
      show if _ then _ else _
      rw [if_pos (by decide)]
      exact ⟨rfl, hR⟩
  · refine s6_isRow_f ha ?_
    show if _ then _ else _
    rw [if_pos (by decide)]
    refine s7_isRow_f ha ?_
    show if _ then _ else _
    rw [if_pos (by decide)]
    exact ⟨rfl, hR⟩
def nrw (L : Nat) (v : Int32) : Int32 := if L = 0 then v.toInt8.toInt32 else if L = 1 then v.toInt16.toInt32 else v
theorem s4_narrowed {o : Nat} {σ : St} {k : Int32 → St → Prop} {L : Nat} {v : Int32} (hL : L ≤ 2) (h1 : σ o 1 = nI L) (h : k (nrw L v) σ) : x4_narrowed o v σ k := by
  unfold x4_narrowed x4_narrowed_24
  rw [h1]
  rcases (show L = 0 ∨ L = 1 ∨ L = 2 by omega) with rfl | rfl | rfl
  · rw [if_pos (by decide)]; exact h
  · rw [if_neg (by decide), if_pos (by decide)]; exact h
  · rw [if_neg (by decide), if_neg (by decide)]; exact h
theorem krow {r : Nat} (hr : r < 8) : kd (2 + 2 * r) = 4 := by
  have := k_row ((vpI (n := r) (by omega)).mpr hr)
  rwa [nI_clamp (by omega)] at this
theorem neg1_lt : ¬ (0 : Int32) ≤ -1 := by decide
theorem sp3 : Sp3 Rel := by
  intro a σ hR
  unfold x6_drop x7_drop
  by_cases ha : has a 8
  · obtain ⟨r, hr, rfl⟩ := ha
    refine s6_isRow_t hr ?_
    show if _ then _ else _
    rw [if_neg (by decide), nI_clamp (by omega)]
    refine ⟨(vpI (by omega)).mpr hr, ?_⟩
    rcases hR.1 r hr with ⟨m1, m2⟩ | ⟨L, n, hL, hn, h3, h4, h5, h6, h7⟩
    · refine s4_isMissing_t m1 ?_
      show if _ then _ else _
      rw [if_neg (by decide)]
      unfold x6_found lt
      refine s7_isRow_t hr ?_
      show if _ then _ else _
      rw [if_neg (by decide), up_n _ _ (Or.inl (by decide)), m2, if_neg neg1_lt]
      exact ⟨(vpI (by omega)).mpr (by show r < 8; exact hr), rfl, hR.stt 1⟩
    · refine s4_isMissing_f hL h3 ?_
      show if _ then _ else _
      rw [if_pos (by decide), h5]
      unfold lt
      refine s4_begin (krow hr) (fun τ e1 e2 e3 e4 => ?_)
      unfold x6_foundNone lt
      refine s7_isRow_t hr ?_
      show if _ then _ else _
      rw [if_neg (by decide), up_n _ _ (Or.inl (by decide)), e4 66 (by omega) (by omega), h4, if_pos (lane_ge hL)]
      refine ⟨(vpI (by omega)).mpr (by show r < 8; exact hr), (vpI (by omega)).mpr (by show r < 8; exact hr), (vpI (by omega)).mpr (by show r < 8; exact hr), ?_⟩
      unfold x7_done lt
      refine ⟨?_, ?_⟩
      · rw [st_up_ne _ _ _ (by decide), st_up_ne _ _ _ (by decide), e4 67 (by omega) (by omega), h6]
      refine hR.m12 (fun i j h0 h1 h2 => ?_) ?_ ?_
      · have n66 : i ≠ 66 := fun z => h1 (by subst z; rfl)
        have nr : ¬ (2 ≤ i ∧ i ≤ 17) := fun z => h1 (cm_ro i j z)
        rw [up_n _ _ (by by_cases z : i = 65; right; rintro rfl; subst z; exact h2 rfl; exact Or.inl z), st_up_ne _ _ _ n66]
        rw [up_n _ _ (by by_cases z : i = 0; right; rintro rfl; subst z; exact h2 rfl; exact Or.inl z), e4 i (by omega) (by omega)]
      · refine hR.1.one (r := r) (Or.inl ⟨?_, ?_⟩) (fun q hq hqr => ⟨?_, ?_, ?_, ?_, ?_⟩)
        · rw [st_up_ne _ _ _ (by omega), st_up_ne _ _ _ (by omega), st_up_ne _ _ _ (by omega)]; exact e1
        · rw [st_up_ne _ _ _ (by decide), up_s]
        · intro j; rw [st_up_ne _ _ _ (by omega), st_up_ne _ _ _ (by omega), st_up_ne _ _ _ (by omega), e4 _ (by omega) (by omega)]
        · intro j; rw [st_up_ne _ _ _ (by omega), st_up_ne _ _ _ (by omega), st_up_ne _ _ _ (by omega), e4 _ (by omega) (by omega)]
        · rw [st_up_ne _ _ _ (by decide), up_n _ _ (Or.inr hqr), st_up_ne _ _ _ (by decide), e4 _ (by omega) (by omega)]
        · rw [st_up_ne _ _ _ (by decide), st_up_ne _ _ _ (by decide), st_up_ne _ _ _ (by decide), e4 _ (by omega) (by omega)]
        · intro i hi; rw [st_up_ne _ _ _ (by decide), st_up_ne _ _ _ (by decide), st_up_ne _ _ _ (by decide), e4 _ (by omega) (by omega)]
      · unfold R2
        rw [up_s, st_up_ne _ _ _ (by decide), st_up_ne _ _ _ (by decide), up_s]
  · refine s6_isRow_f ha ?_
    show if _ then _ else _
    rw [if_pos (by decide)]
    refine s7_isRow_f ha ?_
    show if _ then _ else _
    rw [if_pos (by decide)]
    exact ⟨rfl, hR⟩
theorem sp1 : Sp1 Rel := by
  intro a b c σ hR
  unfold x6_set x7_set
  by_cases ha : has a 8
  · obtain ⟨r, hr, rfl⟩ := ha
    have v8 : vp_in (nI r) (ln 66) := (vpI (by omega)).mpr (by show r < 8; exact hr)
    refine s6_isRow_t hr ?_
    show if _ then _ else _
    rw [if_neg (by decide), nI_clamp (by omega)]
    refine ⟨(vpI (by omega)).mpr hr, ?_⟩
    rcases hR.1 r hr with ⟨m1, m2⟩ | ⟨L, n, hL, hn, h3, h4, h5, h6, h7⟩
    · refine s6_findingAt_m m1 ?_
      show if _ then _ else _
      rw [if_neg (by decide)]
      unfold x6_found lt
      refine s7_isRow_t hr ?_
      show if _ then _ else _
      rw [if_neg (by decide), up_n _ _ (Or.inl (by decide)), m2, if_neg neg1_lt]
      exact ⟨v8, rfl, hR.stt 1⟩
    · by_cases hb : has b n
      · have hp : pt b 1 (σ (2 + 2 * r) 2) := by rw [h5, pt_1 hn]; exact hb
        obtain ⟨i, hi, rfl⟩ := hb
        refine s6_findingAt_t hL h3 hp ?_
        show if _ then _ else _
        rw [if_pos rfl]
        refine s4_narrowed hL h3 ?_
        rw [nI_clamp (by omega), n4_1 (krow hr)]
        refine ⟨(vpI (by omega)).mpr (by omega), (vpI (by omega)).mpr (by omega), ?_⟩
        unfold x6_foundNone lt
        rw [up_s]
        refine s7_isRow_t hr ?_
        show if _ then _ else _
        have g66 : st_up (st_up σ (2 + 2 * r + 1) i (nrw L c)) 0 9 0 66 r = nI L := by rw [st_up_ne _ _ _ (by decide), st_up_ne _ _ _ (by omega)]; exact h4
        have g67 : st_up (st_up σ (2 + 2 * r + 1) i (nrw L c)) 0 9 0 67 r = nI n := by rw [st_up_ne _ _ _ (by decide), st_up_ne _ _ _ (by omega)]; exact h6
        rw [if_neg (by decide), g66, g67, if_pos (lane_ge hL)]
        refine ⟨v8, v8, ?_⟩
        refine in_has_t hi (by omega) ?_
        show if _ then _ else _
        rw [if_neg (by decide), g66]
        refine ⟨v8, ?_⟩
        have e40 : (40 * nI r + nI i : Int32) = nI (40 * r + i) := by rw [show (40 : Int32) = nI 40 from rfl, pk_mul, nI_add]
        have fin : ∀ k : Int32 → St → Prop, k (nrw L c) (st_up (st_up (st_up (st_up σ (2 + 2 * r + 1) i (nrw L c)) 0 9 0) 68 (40 * r + i) (nrw L c)) 65 3 0) → x7_set_87 (nI r) (nI i) c (nrw L c) (40 * nI r + nI i) 68 (st_up (st_up σ (2 + 2 * r + 1) i (nrw L c)) 0 9 0) k := by
          intro k h
          unfold x7_set_87 lt
          rw [e40, nI_clamp (by omega)]
          refine ⟨(vpI (by omega)).mpr (by show 40 * r + i < 320; omega), (vpI (by omega)).mpr (by show 40 * r + i < 320; omega), ?_⟩
          unfold x7_done lt
          rw [up_s]; exact h
        have ende : nrw L c = nrw L c ∧ Rel (st_up (st_up (st_up (st_up σ (2 + 2 * r + 1) i (nrw L c)) 0 9 0) 68 (40 * r + i) (nrw L c)) 65 3 0) := by
          refine ⟨rfl, hR.m12 (fun a j h0 h1 h2 => ?_) ?_ ?_⟩
          · have n68 : a ≠ 68 := fun z => h1 (by subst z; rfl)
            have nr : ¬ (2 ≤ a ∧ a ≤ 17) := fun z => h1 (cm_ro a j z)
            rw [up_n _ _ (by by_cases z : a = 65; right; rintro rfl; subst z; exact h2 rfl; exact Or.inl z), st_up_ne _ _ _ n68]
            rw [up_n _ _ (by by_cases z : a = 0; right; rintro rfl; subst z; exact h2 rfl; exact Or.inl z), st_up_ne _ _ _ (by omega)]
          · refine hR.1.one (r := r) (Or.inr ⟨L, n, hL, hn, ?_, ?_, ?_, ?_, ?_⟩) (fun q hq hqr => ⟨?_, ?_, ?_, ?_, ?_⟩)
            · rw [st_up_ne _ _ _ (by omega), st_up_ne _ _ _ (by omega), st_up_ne _ _ _ (by omega), st_up_ne _ _ _ (by omega)]; exact h3
            · rw [st_up_ne _ _ _ (by decide), st_up_ne _ _ _ (by decide)]; exact g66
            · rw [st_up_ne _ _ _ (by omega), st_up_ne _ _ _ (by omega), st_up_ne _ _ _ (by omega), st_up_ne _ _ _ (by omega)]; exact h5
            · rw [st_up_ne _ _ _ (by decide), st_up_ne _ _ _ (by decide)]; exact g67
            · intro j hj
              rw [show 3 + 2 * r = 2 + 2 * r + 1 by omega, st_up_ne _ _ _ (by omega), st_up_ne _ _ _ (by omega), st_up_ne _ _ _ (by omega), st_up_ne (i := 65) (a := 68) _ _ _ (by decide)]
              by_cases z : j = i
              · subst z; rw [up_s, up_s]
              · rw [up_n _ _ (Or.inr z), up_n _ _ (Or.inr (by omega)), st_up_ne _ _ _ (by decide), st_up_ne _ _ _ (by omega), show 2 + 2 * r + 1 = 3 + 2 * r by omega]; exact h7 j hj
            · intro j; rw [st_up_ne _ _ _ (by omega), st_up_ne _ _ _ (by omega), st_up_ne _ _ _ (by omega), st_up_ne _ _ _ (by omega)]
            · intro j; rw [st_up_ne _ _ _ (by omega), st_up_ne _ _ _ (by omega), st_up_ne _ _ _ (by omega), st_up_ne _ _ _ (by omega)]
            · rw [st_up_ne _ _ _ (by decide), st_up_ne _ _ _ (by decide), st_up_ne _ _ _ (by decide), st_up_ne _ _ _ (by omega)]
            · rw [st_up_ne _ _ _ (by decide), st_up_ne _ _ _ (by decide), st_up_ne _ _ _ (by decide), st_up_ne _ _ _ (by omega)]
            · intro j hj; rw [st_up_ne _ _ _ (by decide), up_n _ _ (Or.inr (by omega)), st_up_ne _ _ _ (by decide), st_up_ne _ _ _ (by omega)]
          · unfold R2
            rw [up_s, st_up_ne _ _ _ (by decide), st_up_ne _ _ _ (by decide), up_s]
        rcases (show L = 0 ∨ L = 1 ∨ L = 2 by omega) with rfl | rfl | rfl
        · rw [if_pos (by decide)]; exact fin _ ende
        · rw [if_neg (by decide)]
          refine ⟨v8, ?_⟩
          rw [if_pos (by decide)]; exact fin _ ende
        · rw [if_neg (by decide)]
          refine ⟨v8, ?_⟩
          rw [if_neg (by decide)]; exact fin _ ende
      · refine s6_findingAt_p hL h3 (by rw [h5, pt_1 hn]; exact hb) ?_
        show if _ then _ else _
        rw [if_neg (by decide)]
        unfold x6_found lt
        refine s7_isRow_t hr ?_
        show if _ then _ else _
        rw [if_neg (by decide), st_up_ne _ _ _ (by decide), st_up_ne _ _ _ (by decide), h4, h6, if_pos (lane_ge hL)]
        refine ⟨v8, v8, in_has_f (by omega) hb ?_⟩
        show if _ then _ else _
        rw [if_pos (by decide)]
        exact ⟨rfl, hR.stt 2⟩
  · refine s6_isRow_f ha ?_
    show if _ then _ else _
    rw [if_pos (by decide)]
    refine s7_isRow_f ha ?_
    show if _ then _ else _
    rw [if_pos (by decide)]
    exact ⟨rfl, hR⟩
