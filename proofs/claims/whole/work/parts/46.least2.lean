/-! LEAST, both -/
theorem s6_41 {σ : St} {F : Fn} {M N : Nat} {x1 x2 x3 : Int32} {k : Int32 → St → Prop} (e1 : x1 = nI M) (e2 : x2 = nI N) (hC : StC 19 σ F) (hF : WF F) (hM' : M < 2 ^ F 3) (hN' : N < 2 ^ F 3) (hMN : M &&& N = 0) (hx : x3 = -1 ∨ has x3 (F 2)) (hk0 : (¬ ∃ a, Vd (ftF F M N) (F 2) a) → ∀ σ', (∀ i, i ≠ 61 → i ≠ 62 → σ' i = σ i) → k (-1000000) σ') (hk1 : ∀ b, Best (ftF F M N) (F 2) b → ∀ σ', (∀ i, i ≠ 61 → i ≠ 62 → σ' i = σ i) → (x3 = -1 → k (nI (tsr b (F 2) 0)) σ') ∧ (∀ d, d < F 2 → x3 = nI d → k (nI (b d)) σ')) : x6_least_41 x1 x2 x3 σ k := by
  subst e1 e2
  have h62 := hF.2.2.2.1
  have h64 : 2 ^ F 2 ≤ 64 := show 2 ^ F 2 ≤ 2 ^ 6 from Nat.pow_le_pow_right (by decide) h62
  unfold x6_least_41 x6_least_97
  refine s2_weigh hC hF hM' hN' hMN (fun σ1 w1 f1 => ?_)
  refine s2_choose h62 w1 (fun hno σ2 f2 => ?_) (fun gs T σ2 tp w2 g3 g2 f2 => ?_)
  · show if _ then _ else _
    rw [if_pos rfl]
    exact hk0 (choose_none hno) σ2 (fun i a b => by rw [f2 i a, f1 i a b])
  · show if _ then _ else _
    rw [if_neg (by decide)]
    obtain ⟨hB, hT⟩ := choose_best tp
    have hh := hk1 _ hB σ2 (fun i a b => by rw [f2 i a, f1 i a b])
    rw [hT] at hh
    by_cases z : x3 = -1
    · rw [if_pos z, g3]
      exact hh.1 z
    · rw [if_neg z]
      rcases hx with q | ⟨d, hd, rfl⟩
      · exact absurd q z
      · rw [g2]
        have := tp.1
        refine s2_codeAt h62 w2 hd (by omega) ?_
        obtain ⟨v, hv⟩ := (totO_some _ _ tp.2.1).1 d hd
        have e : sq F M N gs d = v := by unfold sq; rw [hv]; rfl
        have hq := hh.2 d hd rfl
        rw [e] at hq
        rw [hv]; exact hq
theorem s7_35 {σ : St} {F : Fn} {M N : Nat} {x1 x2 x3 : Int32} {k : Int32 → St → Prop} {b : Nat → Nat} (e1 : x1 = nI M) (e2 : x2 = nI N) (hM : StM 70 0 σ F) (hF : WF F) (h0 : 0 < F 2) (m64 : M < 64) (n64 : N < 64) (hx : x3 = -1 ∨ has x3 (F 2)) (hd : Best (ftF F M N) (F 2) b ∨ ¬ ∃ a, Vd (ftF F M N) (F 2) a) (hk0 : (¬ ∃ a, Vd (ftF F M N) (F 2) a) → ∀ σ', (∀ i, i ≠ 77 → i ≠ 78 → σ' i = σ i) → k (-1000000) σ') (hk1 : Best (ftF F M N) (F 2) b → ∀ σ', (∀ i, i ≠ 77 → i ≠ 78 → σ' i = σ i) → (x3 = -1 → k (nI (tsr b (F 2) 0)) σ') ∧ (∀ d, d < F 2 → x3 = nI d → k (nI (b d)) σ')) : x7_least_35 x1 x2 x3 σ k := by
  subst e1 e2
  have h62 := hF.2.2.2.1
  unfold x7_least_35 x7_least_71
  refine s7_layLeast hM hF h0 m64 n64 (fun hn σ2 f2 => ?_) (fun hB σ2 l2 f2 => ?_) hd
  · show if _ then _ else _
    rw [if_neg (by decide)]
    exact hk0 hn σ2 f2
  · have hb7 := Best_le hB
    have hh := hk1 hB σ2 f2
    show if _ then _ else _
    rw [if_pos (show nI (tsr b (F 2) 0) < 9999 by rw [show (9999 : Int32) = nI 9999 from rfl, nI_ltI (by omega) (by decide)]; omega)]
    rcases hx with q | ⟨d, hd', rfl⟩
    · subst q
      rw [if_neg (by decide)]
      exact hh.1 rfl
    · rw [if_pos (nI_pos' (by omega)), nI_clamp (by omega), l2 d hd']
      exact ⟨(vpI (by omega)).mpr (by show _ < 6; omega), hh.2 d hd' rfl⟩
theorem onl_7778 {σ σ' : St} (h : ∀ c, c ≠ 77 → c ≠ 78 → σ' c = σ c) : onl 0 σ σ' := fun i j h1 _ => by
  by_cases a : i = 77
  · subst a; exact absurd rfl h1
  · by_cases b : i = 78
    · subst b; exact absurd rfl h1
    · rw [h i a b]
theorem sp18 : Sp18 Rel := by
  intro x y z σ hR
  obtain ⟨F, ⟨hF, h4, hC, hM⟩, hI, n', nx, S, hA⟩ := hR.2.2.2.2.2
  have h62 := hF.2.2.2.1
  have h63 := hF.2.2.2.2.1
  have h64 : 2 ^ F 3 ≤ 64 := show 2 ^ F 3 ≤ 2 ^ 6 from Nat.pow_le_pow_right (by decide) h63
  by_cases h0 : 0 < F 2
  · by_cases hs : setsOk x y (F 3)
    · by_cases hz : z = -1 ∨ has z (F 2)
      · have e6 : ∀ k : Int32 → St → Prop, x6_least_41 x y z σ k → x6_least x y z σ k := by
          intro k hk
          unfold x6_least
          refine s5_isTold_t hC.1 ⟨h0, h62⟩ ?_
          show if _ then _ else _
          rw [if_neg (by decide)]
          refine s6_apart_t hC hF hs ?_
          show if _ then _ else _
          rw [if_neg (by decide)]
          by_cases w : z = -1
          · rw [if_pos w]; exact hk
          · rw [if_neg w]
            rcases hz with q | ⟨d, hd, rfl⟩
            · exact absurd q w
            · refine s5_hasDoor_t hC.1 h62 hd ?_
              show if _ then _ else _
              rw [if_neg (by decide)]; exact hk
        have e7 : ∀ τ : St, StM 70 0 τ F → ∀ k : Int32 → St → Prop, x7_least_35 x y z τ k → x7_least x y z τ k := by
          intro τ hMt k hk
          unfold x7_least
          refine s7_isStreet_t hMt hF h0 ?_
          show if _ then _ else _
          rw [if_neg (by decide)]
          refine s7_sets_t hMt hF hs ?_
          show if _ then _ else _
          rw [if_neg (by decide)]
          by_cases w : z = -1
          · rw [if_pos w]; exact hk
          · rw [if_neg w]
            rcases hz with q | ⟨d, hd, rfl⟩
            · exact absurd q w
            · refine s7_isDoorAt_t hMt hF hd ?_
              show if _ then _ else _
              rw [if_neg (by decide)]; exact hk
        obtain ⟨⟨M, hM', eM⟩, ⟨N, hN', eN⟩, h3⟩ := id hs
        have hMN : M &&& N = 0 := by
          rw [eM, eN, andI _ (by omega) _ (by omega)] at h3
          have h3 : nI (M &&& N) = nI 0 := h3
          rwa [nI_eq (by have := @Nat.and_le_left M N; omega) (by decide)] at h3
        refine e6 _ (s6_41 eM eN hC hF hM' hN' hMN hz (fun hno σ1 f1 => ?_) (fun b hB σ1 f1 => ⟨fun w => ?_, fun d hd w => ?_⟩))
        · have hM1 : StM 70 0 σ1 F := hM.cell (f1 70 (by decide) (by decide))
          refine e7 σ1 hM1 _ (s7_35 (b := fun _ => 0) eM eN hM1 hF h0 (by omega) (by omega) hz (Or.inr hno) (fun _ σ2 f2 => ?_) (fun hB => absurd ⟨_, hB.1⟩ hno))
          exact ⟨rfl, hR.scr ((onl_6162 f1).tr (onl_7778 f2))⟩
        · have hM1 : StM 70 0 σ1 F := hM.cell (f1 70 (by decide) (by decide))
          refine e7 σ1 hM1 _ (s7_35 (b := b) eM eN hM1 hF h0 (by omega) (by omega) hz (Or.inl hB) (fun hno => absurd ⟨_, hB.1⟩ hno) (fun _ σ2 f2 => ⟨fun _ => ?_, fun d hd w2 => ?_⟩))
          · exact ⟨rfl, hR.scr ((onl_6162 f1).tr (onl_7778 f2))⟩
          · rw [w] at w2
            exact absurd (show nI d < 0 by rw [← w2]; decide) (nI_pos (by omega))
        · have hM1 : StM 70 0 σ1 F := hM.cell (f1 70 (by decide) (by decide))
          refine e7 σ1 hM1 _ (s7_35 (b := b) eM eN hM1 hF h0 (by omega) (by omega) hz (Or.inl hB) (fun hno => absurd ⟨_, hB.1⟩ hno) (fun _ σ2 f2 => ⟨fun w2 => ?_, fun d' hd' w2 => ?_⟩))
          · rw [w2] at w
            exact absurd (show nI d < 0 by rw [← w]; decide) (nI_pos (by omega))
          · rw [w, nI_eq (by omega) (by omega)] at w2
            subst w2
            exact ⟨rfl, hR.scr ((onl_6162 f1).tr (onl_7778 f2))⟩
      · have nz : ¬ z = -1 := fun q => hz (Or.inl q)
        have nh : ¬ has z (F 2) := fun q => hz (Or.inr q)
        have e6 : ∀ k : Int32 → St → Prop, k (-1000001) σ → x6_least x y z σ k := by
          intro k hk
          unfold x6_least x6_least_38
          refine s5_isTold_t hC.1 ⟨h0, h62⟩ ?_
          show if _ then _ else _
          rw [if_neg (by decide)]
          refine s6_apart_t hC hF hs ?_
          show if _ then _ else _
          rw [if_neg (by decide), if_neg nz]
          refine s5_hasDoor_f hC.1 h62 nh ?_
          show if _ then _ else _
          rw [if_pos (by decide)]; exact hk
        refine e6 _ ?_
        unfold x7_least x7_least_32
        refine s7_isStreet_t hM hF h0 ?_
        show if _ then _ else _
        rw [if_neg (by decide)]
        refine s7_sets_t hM hF hs ?_
        show if _ then _ else _
        rw [if_neg (by decide), if_neg nz]
        refine s7_isDoorAt_f hM hF nh ?_
        show if _ then _ else _
        rw [if_pos (by decide)]
        exact ⟨rfl, hR⟩
    · have e6 : ∀ k : Int32 → St → Prop, k (-1000001) σ → x6_least x y z σ k := by
        intro k hk
        unfold x6_least x6_least_38
        refine s5_isTold_t hC.1 ⟨h0, h62⟩ ?_
        show if _ then _ else _
        rw [if_neg (by decide)]
        refine s6_apart_f hC hF hs ?_
        show if _ then _ else _
        rw [if_pos (by decide)]; exact hk
      refine e6 _ ?_
      unfold x7_least x7_least_32
      refine s7_isStreet_t hM hF h0 ?_
      show if _ then _ else _
      rw [if_neg (by decide)]
      refine s7_sets_f hM hF hs ?_
      show if _ then _ else _
      rw [if_pos (by decide)]
      exact ⟨rfl, hR⟩
  · have q : F 2 = 0 := by omega
    have e6 : ∀ k : Int32 → St → Prop, k (-1000002) σ → x6_least x y z σ k := by
      intro k hk
      unfold x6_least
      refine s5_isTold_f (by rw [hC.1, q]) ?_
      show if _ then _ else _
      rw [if_pos (by decide)]; exact hk
    refine e6 _ ?_
    unfold x7_least
    refine s7_isStreet_f hM q ?_
    show if _ then _ else _
    rw [if_pos (by decide)]
    exact ⟨rfl, hR⟩
