/-! COPY -/
theorem s7_copy_f {a i b j n : Nat} {σ : St} {k : Int32 → St → Prop} (ha : a < 8) (hb : b < 8) (hi : i + n ≤ 40) (hj : j + n ≤ 40) (hd : 40 * b + j ≤ 40 * a + i ∨ 40 * a + i + n ≤ 40 * b + j) (h : ∀ σ', (∀ t, t < n → σ' 68 (40 * b + j + t) = σ 68 (40 * a + i + t)) → (∀ q, q < 40 * b + j ∨ 40 * b + j + n ≤ q → σ' 68 q = σ 68 q) → (∀ c, c ≠ 68 → σ' c = σ c) → k (nI n) (st_up σ' 65 3 0)) : ∀ m c τ, c ≤ n → n < c + m → (∀ t, t < c → τ 68 (40 * b + j + t) = σ 68 (40 * a + i + t)) → (∀ q, q < 40 * b + j ∨ 40 * b + j + c ≤ q → τ 68 q = σ 68 q) → (∀ c, c ≠ 68 → τ c = σ c) → x7_copy_120 (nI a) (nI i) (nI b) (nI j) (nI n) k m (nI 0) (nI c) τ := by
  intro m
  induction m with
  | zero => intro c τ h1 h2; omega
  | succ m ih =>
    intro c τ h1 h2 g1 g2 g3
    unfold x7_copy_120 x7_copy_144
    by_cases z : n ≤ c
    · have : c = n := by omega
      subst this
      rw [if_pos (nI_le z (by omega))]
      unfold x7_done lt
      exact h τ g1 g2 g3
    · have e1 : (40 * nI a + nI i + nI c : Int32) = nI (40 * a + i + c) := by rw [show (40 : Int32) = nI 40 from rfl, pk_mul, nI_add, nI_add]
      have e2 : (40 * nI b + nI j + nI c : Int32) = nI (40 * b + j + c) := by rw [show (40 : Int32) = nI 40 from rfl, pk_mul, nI_add, nI_add]
      rw [if_neg (nI_ge (by omega) (by omega)), if_pos (show nI 0 = 0 from rfl), e1, e2, nI_clamp (by omega), nI_clamp (by omega), show nI c + 1 = nI (c + 1) from nI_1 c]
      unfold lt
      refine ⟨(vpI (by omega)).mpr (by show _ < 320; omega), (vpI (by omega)).mpr (by show _ < 320; omega), ih (c + 1) _ (by omega) (by omega) (fun t ht => ?_) (fun q hq => ?_) (fun c' hc => ?_)⟩
      · by_cases y : t = c
        · subst y; rw [up_s]; exact g2 _ (by omega)
        · rw [up_n _ _ (Or.inr (by omega))]; exact g1 t (by omega)
      · rw [up_n _ _ (Or.inr (by omega))]; exact g2 q (by omega)
      · rw [st_up_ne _ _ _ hc]; exact g3 c' hc
theorem s7_copy_b {a i b j n : Nat} {σ : St} {k : Int32 → St → Prop} (ha : a < 8) (hb : b < 8) (hi : i + n ≤ 40) (hj : j + n ≤ 40) (hd : 40 * a + i ≤ 40 * b + j) (h : ∀ σ', (∀ t, t < n → σ' 68 (40 * b + j + t) = σ 68 (40 * a + i + t)) → (∀ q, q < 40 * b + j ∨ 40 * b + j + n ≤ q → σ' 68 q = σ 68 q) → (∀ c, c ≠ 68 → σ' c = σ c) → k (nI n) (st_up σ' 65 3 0)) : ∀ m c τ, c ≤ n → n < c + m → (∀ t, n - c ≤ t → t < n → τ 68 (40 * b + j + t) = σ 68 (40 * a + i + t)) → (∀ q, q < 40 * b + j + (n - c) ∨ 40 * b + j + n ≤ q → τ 68 q = σ 68 q) → (∀ c, c ≠ 68 → τ c = σ c) → x7_copy_120 (nI a) (nI i) (nI b) (nI j) (nI n) k m (nI 1) (nI c) τ := by
  intro m
  induction m with
  | zero => intro c τ h1 h2; omega
  | succ m ih =>
    intro c τ h1 h2 g1 g2 g3
    unfold x7_copy_120 x7_copy_144
    by_cases z : n ≤ c
    · have : c = n := by omega
      subst this
      rw [if_pos (nI_le z (by omega))]
      unfold x7_done lt
      exact h τ (fun t ht => g1 t (by omega) ht) (fun q hq => g2 q (by omega)) g3
    · have e0 : (nI n - 1 - nI c : Int32) = nI (n - 1 - c) := by rw [show (1 : Int32) = nI 1 from rfl, pk_sub (by omega), pk_sub (by omega)]
      have e1 : (40 * nI a + nI i + nI (n - 1 - c) : Int32) = nI (40 * a + i + (n - 1 - c)) := by rw [show (40 : Int32) = nI 40 from rfl, pk_mul, nI_add, nI_add]
      have e2 : (40 * nI b + nI j + nI (n - 1 - c) : Int32) = nI (40 * b + j + (n - 1 - c)) := by rw [show (40 : Int32) = nI 40 from rfl, pk_mul, nI_add, nI_add]
      rw [if_neg (nI_ge (by omega) (by omega)), if_neg (by decide), e0, e1, e2, nI_clamp (by omega), nI_clamp (by omega), show nI c + 1 = nI (c + 1) from nI_1 c]
      unfold lt
      refine ⟨(vpI (by omega)).mpr (by show _ < 320; omega), (vpI (by omega)).mpr (by show _ < 320; omega), ih (c + 1) _ (by omega) (by omega) (fun t ht1 ht => ?_) (fun q hq => ?_) (fun c' hc => ?_)⟩
      · by_cases y : t = n - 1 - c
        · subst y; rw [up_s]; exact g2 _ (by omega)
        · rw [up_n _ _ (Or.inr (by omega))]; exact g1 t (by omega) ht
      · rw [up_n _ _ (Or.inr (by omega))]; exact g2 q (by omega)
      · rw [st_up_ne _ _ _ hc]; exact g3 c' hc
theorem sp2 : Sp2 Rel := by
  intro x1 x2 x3 x4 x5 σ hR
  by_cases ha : has x1 8
  · obtain ⟨a, ha, rfl⟩ := ha
    by_cases hb : has x3 8
    · obtain ⟨b, hb, rfl⟩ := hb
      have va : vp_in (nI a) (ln 66) := (vpI (by omega)).mpr (by show _ < 8; exact ha)
      have vb : vp_in (nI b) (ln 66) := (vpI (by omega)).mpr (by show _ < 8; exact hb)
      have va7 : vp_in (nI a) (ln 67) := va
      have vb7 : vp_in (nI b) (ln 67) := vb
      have e7 : ∀ τ : St, ∀ k : Int32 → St → Prop, (if τ 66 a < 0 then x7_finds 1 τ k else if 0 ≤ τ 66 b then (if τ 66 a = τ 66 b then x7_isPart x2 x5 (τ 67 a) τ (fun r7 σ8 => (if r7 = 0 then x7_copy_93 (nI a) x2 (nI b) x4 x5 σ8 k else (vp_in (nI b) (ln 67) ∧ x7_isPart x4 x5 (σ8 67 b) σ8 (fun r11 σ12 => (if r11 = 0 then x7_copy_93 (nI a) x2 (nI b) x4 x5 σ12 k else (if nI a = nI b then (if x4 ≤ x2 then x7_copy_114 (nI a) x2 (nI b) x4 x5 σ12 k else x7_copy_115 (nI a) x2 (nI b) x4 x5 1 σ12 k) else x7_copy_114 (nI a) x2 (nI b) x4 x5 σ12 k)))))) else x7_finds 5 τ k) else x7_finds 1 τ k) → x7_copy (nI a) x2 (nI b) x4 x5 τ k := by
        intro τ k hk
        unfold x7_copy x7_copy_35
        refine s7_isRow_t ha ?_
        show if _ then _ else _
        rw [if_neg (by decide)]
        refine s7_isRow_t hb ?_
        show if _ then _ else _
        rw [if_neg (by decide), nI_clamp (by omega), nI_clamp (by omega)]
        refine ⟨va, ?_⟩
        by_cases z : τ 66 a < 0
        · rw [if_pos z] at hk ⊢; exact hk
        · rw [if_neg z] at hk ⊢
          refine ⟨vb, ?_⟩
          by_cases y : 0 ≤ τ 66 b
          · rw [if_pos y] at hk ⊢
            refine ⟨va, vb, ?_⟩
            by_cases w : τ 66 a = τ 66 b
            · rw [if_pos w] at hk ⊢; exact ⟨va, hk⟩
            · rw [if_neg w] at hk ⊢; exact hk
          · rw [if_neg y] at hk ⊢; exact hk
      unfold x6_copy x6_copy_49
      refine s6_isRow_t ha ?_
      show if _ then _ else _
      rw [if_neg (by decide)]
      refine s6_isRow_t hb ?_
      show if _ then _ else _
      rw [if_neg (by decide), nI_clamp (by omega), nI_clamp (by omega)]
      refine ⟨(vpI (by omega)).mpr ha, (vpI (by omega)).mpr hb, ?_⟩
      rcases hR.1 a ha with ⟨m1, m2⟩ | ⟨L, N, hL, hN, h3, h4, h5, h6, h7⟩
      · refine s4_isMissing_t m1 ?_
        show if _ then _ else _
        rw [if_neg (by decide)]
        unfold x6_found lt
        refine e7 _ _ ?_
        rw [up_n _ _ (Or.inl (by decide)), m2, if_pos (by decide)]
        exact ⟨rfl, hR.stt 1⟩
      · refine s4_isMissing_f hL h3 ?_
        show if _ then _ else _
        rw [if_pos (show nI 0 = 0 from rfl)]
        rcases hR.1 b hb with ⟨m1, m2⟩ | ⟨L', N', hL', hN', h3', h4', h5', h6', h7'⟩
        · refine s4_isMissing_t m1 ?_
          show if _ then _ else _
          rw [if_neg (by decide)]
          unfold x6_found lt
          refine e7 _ _ ?_
          rw [up_n _ _ (Or.inl (by decide)), h4, if_neg (nI_pos (by omega)), up_n _ _ (Or.inl (by decide)), m2, if_neg neg1_lt]
          exact ⟨rfl, hR.stt 1⟩
        · refine s4_isMissing_f hL' h3' ?_
          show if _ then _ else _
          rw [if_pos (show nI 0 = 0 from rfl), h3, h3']
          by_cases hLL : L = L'
          · subst hLL
            rw [if_pos rfl]
            have base : ∀ τ : St, (∀ i, i = 66 ∨ i = 67 → τ i = σ i) → ∀ k : Int32 → St → Prop, x7_isPart x2 x5 (nI N) τ (fun r7 σ8 => (if r7 = 0 then x7_copy_93 (nI a) x2 (nI b) x4 x5 σ8 k else (vp_in (nI b) (ln 67) ∧ x7_isPart x4 x5 (σ8 67 b) σ8 (fun r11 σ12 => (if r11 = 0 then x7_copy_93 (nI a) x2 (nI b) x4 x5 σ12 k else (if nI a = nI b then (if x4 ≤ x2 then x7_copy_114 (nI a) x2 (nI b) x4 x5 σ12 k else x7_copy_115 (nI a) x2 (nI b) x4 x5 1 σ12 k) else x7_copy_114 (nI a) x2 (nI b) x4 x5 σ12 k)))))) → x7_copy (nI a) x2 (nI b) x4 x5 τ k := by
              intro τ hτ k hk
              refine e7 _ _ ?_
              rw [hτ 66 (Or.inl rfl), hτ 67 (Or.inr rfl), h4, h4', if_neg (nI_pos (by omega)), if_pos (lane_ge hL), if_pos rfl, h6]
              exact hk
            by_cases hp : pt x2 x5 (nI N)
            · refine s4_spans_t (by rw [h5]; exact hp) ?_
              show if _ then _ else _
              rw [if_neg (by decide)]
              by_cases hq : pt x4 x5 (nI N')
              · refine s4_spans_t (by rw [h5']; exact hq) ?_
                show if _ then _ else _
                rw [if_neg (by decide)]
                have hp' := hp
                have hq' := hq
                obtain ⟨i, n, rfl, rfl, hin⟩ := pt_nat hN hp
                obtain ⟨j, n', rfl, en, hjn⟩ := pt_nat hN' hq
                rw [nI_eq (by omega) (by omega)] at en
                subst en
                rw [nI_clamp (by omega), nI_clamp (by omega), nI_clamp (by omega), n4_1 (krow ha), n4_1 (krow hb)]
                refine ⟨⟨nI_pos (by omega), nI_pos (by omega), nI_pos (by omega), by rw [nI_clamp (by omega), nI_clamp (by omega)]; omega, by rw [nI_clamp (by omega), nI_clamp (by omega)]; omega⟩, ?_⟩
                unfold lt x6_foundNone lt
                have o1 : ∀ c, c ≠ 0 → c ≠ 2 + 2 * b + 1 → st_up (st_cp σ (2 + 2 * a + 1) i (2 + 2 * b + 1) j n) 0 9 0 c = σ c := fun c h1 h2 => by rw [st_up_ne _ _ _ h1, cp_n _ h2]
                refine base _ (fun c hc => o1 c (by omega) (by omega)) _ ?_
                refine s7_isPart_t hp' ?_
                show if _ then _ else _
                rw [if_neg (by decide), o1 67 (by decide) (by omega), h6']
                refine ⟨vb7, s7_isPart_t hq' ?_⟩
                show if _ then _ else _
                rw [if_neg (by decide)]
                have fin : ∀ σ' : St, (∀ t, t < n → σ' 68 (40 * b + j + t) = st_up (st_cp σ (2 + 2 * a + 1) i (2 + 2 * b + 1) j n) 0 9 0 68 (40 * a + i + t)) → (∀ q, q < 40 * b + j ∨ 40 * b + j + n ≤ q → σ' 68 q = st_up (st_cp σ (2 + 2 * a + 1) i (2 + 2 * b + 1) j n) 0 9 0 68 q) → (∀ c, c ≠ 68 → σ' c = st_up (st_cp σ (2 + 2 * a + 1) i (2 + 2 * b + 1) j n) 0 9 0 c) → nI n = nI n ∧ Rel (st_up σ' 65 3 0) := by
                  intro σ' f1 f2 f3
                  rw [o1 68 (by decide) (by omega)] at f1 f2
                  refine ⟨rfl, hR.m12 (fun c s h0 h1 h2 => ?_) ?_ ?_⟩
                  · have n68 : c ≠ 68 := fun z => h1 (by subst z; rfl)
                    have nr : ¬ (2 ≤ c ∧ c ≤ 17) := fun z => h1 (cm_ro c s z)
                    rw [up_n _ _ (by by_cases z : c = 65; right; rintro rfl; subst z; exact h2 rfl; exact Or.inl z), f3 c n68]
                    rw [up_n _ _ (by by_cases z : c = 0; right; rintro rfl; subst z; exact h2 rfl; exact Or.inl z), cp_n _ (by omega)]
                  · refine hR.1.one (r := b) (Or.inr ⟨L, N', hL', hN', ?_, ?_, ?_, ?_, ?_⟩) (fun q hq hqr => ⟨?_, ?_, ?_, ?_, ?_⟩)
                    · rw [st_up_ne _ _ _ (by omega), f3 _ (by omega), o1 _ (by omega) (by omega)]; exact h3'
                    · rw [st_up_ne _ _ _ (by omega), f3 _ (by omega), o1 _ (by omega) (by omega)]; exact h4'
                    · rw [st_up_ne _ _ _ (by omega), f3 _ (by omega), o1 _ (by omega) (by omega)]; exact h5'
                    · rw [st_up_ne _ _ _ (by omega), f3 _ (by omega), o1 _ (by omega) (by omega)]; exact h6'
                    · intro s hs
                      rw [show 3 + 2 * b = 2 + 2 * b + 1 by omega, st_up_ne (a := 2 + 2 * b + 1) _ _ _ (by omega), f3 _ (by omega), st_up_ne (a := 2 + 2 * b + 1) _ _ _ (by omega), st_up_ne (a := 68) _ _ _ (by omega)]
                      by_cases z : j ≤ s ∧ s < j + n
                      · have := f1 (s - j) (by omega)
                        rw [show 40 * b + j + (s - j) = 40 * b + s by omega] at this
                        rw [cp_in _ z.1 z.2, this, show 40 * a + i + (s - j) = 40 * a + (i + (s - j)) by omega, ← h7 (i + (s - j)) (by omega), show 3 + 2 * a = 2 + 2 * a + 1 by omega]
                      · rw [cp_out _ (by omega), f2 _ (by omega), ← h7' s hs, show 3 + 2 * b = 2 + 2 * b + 1 by omega]
                    · intro s; rw [st_up_ne _ _ _ (by omega), f3 _ (by omega), o1 _ (by omega) (by omega)]
                    · intro s; rw [st_up_ne _ _ _ (by omega), f3 _ (by omega), o1 _ (by omega) (by omega)]
                    · rw [st_up_ne _ _ _ (by omega), f3 _ (by omega), o1 _ (by omega) (by omega)]
                    · rw [st_up_ne _ _ _ (by omega), f3 _ (by omega), o1 _ (by omega) (by omega)]
                    · intro s hs; rw [st_up_ne _ _ _ (by omega)]; exact f2 _ (by omega)
                  · unfold R2
                    rw [up_s, st_up_ne _ _ _ (by decide), f3 0 (by decide), up_s]
                have up0 : (40 * b + j ≤ 40 * a + i ∨ 40 * a + i + n ≤ 40 * b + j) → x7_copy_114 (nI a) (nI i) (nI b) (nI j) (nI n) (st_up (st_cp σ (2 + 2 * a + 1) i (2 + 2 * b + 1) j n) 0 9 0) (fun r2 σ2 => nI n = r2 ∧ Rel σ2) := by
                  intro hd
                  unfold x7_copy_114 x7_copy_115
                  exact ⟨n + 1, s7_copy_f ha hb (by omega) (by omega) hd (fun σ' f1 f2 f3 => fin σ' f1 f2 f3) (n + 1) 0 _ (Nat.zero_le _) (by omega) (fun t ht => absurd ht (Nat.not_lt_zero _)) (fun _ _ => rfl) (fun _ _ => rfl)⟩
                by_cases hab : a = b
                · rw [if_pos (by rw [hab])]
                  by_cases hji : j ≤ i
                  · rw [if_pos (nI_le hji (by omega))]
                    exact up0 (by omega)
                  · rw [if_neg (nI_ge (by omega) (by omega))]
                    unfold x7_copy_115
                    exact ⟨n + 1, s7_copy_b ha hb (by omega) (by omega) (by omega) (fun σ' f1 f2 f3 => fin σ' f1 f2 f3) (n + 1) 0 _ (Nat.zero_le _) (by omega) (fun t ht ht2 => by omega) (fun _ _ => rfl) (fun _ _ => rfl)⟩
                · rw [if_neg (by rw [nI_eq (by omega) (by omega)]; exact hab)]
                  exact up0 (by omega)
              · refine s4_spans_f (by rw [h5']; exact hq) ?_
                show if _ then _ else _
                rw [if_pos (by decide)]
                unfold x6_copy_97 x6_found lt
                refine base _ (fun c hc => st_up_ne _ _ _ (by omega)) _ ?_
                refine s7_isPart_t hp ?_
                show if _ then _ else _
                rw [if_neg (by decide), st_up_ne _ _ _ (by decide), h6']
                refine ⟨vb7, s7_isPart_f hq ?_⟩
                show if _ then _ else _
                rw [if_pos (by decide)]
                exact ⟨rfl, hR.stt 2⟩
            · refine s4_spans_f (by rw [h5]; exact hp) ?_
              show if _ then _ else _
              rw [if_pos (by decide)]
              unfold x6_copy_97 x6_found lt
              refine base _ (fun c hc => st_up_ne _ _ _ (by omega)) _ ?_
              refine s7_isPart_f hp ?_
              show if _ then _ else _
              rw [if_pos (by decide)]
              exact ⟨rfl, hR.stt 2⟩
          · rw [if_neg (by rw [nI_eq (by omega) (by omega)]; exact hLL)]
            unfold x6_found lt
            refine e7 _ _ ?_
            rw [up_n _ _ (Or.inl (by decide)), up_n _ _ (Or.inl (by decide)), h4, h4', if_neg (nI_pos (by omega)), if_pos (lane_ge hL'), if_neg (by rw [nI_eq (by omega) (by omega)]; exact hLL)]
            exact ⟨rfl, hR.stt 5⟩
    · unfold x6_copy x6_copy_14 x7_copy x7_copy_14
      refine s6_isRow_t ha ?_
      show if _ then _ else _
      rw [if_neg (by decide)]
      refine s6_isRow_f hb ?_
      show if _ then _ else _
      rw [if_pos (by decide)]
      refine s7_isRow_t ha ?_
      show if _ then _ else _
      rw [if_neg (by decide)]
      refine s7_isRow_f hb ?_
      show if _ then _ else _
      rw [if_pos (by decide)]
      exact ⟨rfl, hR⟩
  · unfold x6_copy x6_copy_14 x7_copy x7_copy_14
    refine s6_isRow_f ha ?_
    show if _ then _ else _
    rw [if_pos (by decide)]
    refine s7_isRow_f ha ?_
    show if _ then _ else _
    rw [if_pos (by decide)]
    exact ⟨rfl, hR⟩
