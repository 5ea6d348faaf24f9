/-! STREET, both -/
theorem s6_street {σ : St} {k : Int32 → St → Prop} {T : Nat → Nat} {L : Nat} {res : Res} (hL : L ≤ 100) (hl5 : σ 55 1 = nI L) (hT5 : ∀ i, i < L → σ 56 i = nI (T i) ∧ T i ≤ 255) (hres : res = allP T L) (h1 : ∀ G σ3, res = .inr G → (∀ i, ¬ (19 ≤ i ∧ i ≤ 36) → i ≠ 55 → i ≠ 57 → σ3 i = σ i) → σ3 55 1 = nI 0 → StC 19 σ3 G → σ3 57 3 = nI 0 → σ3 57 4 = nI 0 → k (nI (G 3)) σ3) (h0 : ∀ q e σ3, res = .inl (q, e) → (∀ i, ¬ (28 ≤ i ∧ i ≤ 36) → i ≠ 0 → i ≠ 55 → σ3 i = σ i) → (∀ j, j ≠ 8 → σ3 0 j = σ 0 j) → σ3 0 8 = nI e → σ3 55 1 = nI 0 → k (-1000100 - nI q) σ3) : x6_street σ k := by
  unfold x6_street
  refine c_all (σ0 := σ) (KR := fun r => res = r) hT5 hL hl5 (fun _ _ => rfl) hres (fun G hG hg2 hK σ1 p i1 s1 => ?_) (fun q e hK σ1 f => ?_)
  · have h62 := hG.1.2.2.2.1
    have h63 := hG.1.2.2.2.2.1
    unfold lt
    show if _ then _ else _
    rw [if_neg (by decide)]
    have s1' : StC 28 (st_up σ1 55 1 0) G := s1.k55 (fun i hi => st_up_ne _ _ _ hi)
    refine s5_takeOver rfl rfl (by decide) s1' h62 h63 (fun σ2 c2 f2 => ?_)
    unfold x0_forgetAll
    simp only [lt]
    have c3 : StC 19 (st_up (st_up σ2 57 3 0) 57 4 0) G := c2.cells (fun i a b => by rw [st_up_ne _ _ _ (by omega), st_up_ne _ _ _ (by omega)])
    rw [c3.2.1]
    refine h1 G _ hK (fun i a b c => ?_) ?_ c3 ?_ ?_
    · rw [st_up_ne _ _ _ c, st_up_ne _ _ _ c, f2 i (by omega), st_up_ne _ _ _ b, i1.2.2 i b (by omega)]
    · rw [st_up_ne _ _ _ (by decide), st_up_ne _ _ _ (by decide), f2 55 (by omega), up_s]; rfl
    · rw [up_n _ _ (Or.inr (by decide)), up_s]; rfl
    · rw [up_s]; rfl
  · unfold lt
    show if _ then _ else _
    rw [if_pos rfl]
    have e3 : st_up (st_up σ1 55 1 0) 0 8 (nI e) 55 3 = nI q := by rw [st_up_ne _ _ _ (by decide), up_n _ _ (Or.inr (by decide))]; exact f.1
    rw [show st_up σ1 55 1 0 55 4 = nI e by rw [up_n _ _ (Or.inr (by decide))]; exact f.2.1]
    dsimp only
    rw [e3]
    refine h0 q e _ hK (fun i a b c => ?_) (fun j hj => ?_) (up_s _ _ _ _) ?_
    · rw [st_up_ne _ _ _ b, st_up_ne _ _ _ c, f.2.2 i c (by omega)]
    · rw [up_n _ _ (Or.inr hj), st_up_ne _ _ _ (by decide), f.2.2 0 (by decide) (by decide)]
    · rw [st_up_ne _ _ _ (by decide), up_s]; rfl
theorem sp5 : Sp5 Rel := by
  intro σ hR
  obtain ⟨L, hL, hl5, hl6, ht⟩ := hR.2.2.2.1
  obtain ⟨T, hT5, hT6⟩ := tape_T ht
  obtain ⟨res, hres⟩ : ∃ r, r = allP T L := ⟨_, rfl⟩
  exact s6_street hL hl5 hT5 hres (fun G σ3 hK f3 l55 c3 g3 g4 => st_ok hR hL hl6 hT6 hres hK f3 l55 c3 g3 g4) (fun q e σ3 hK f3 g0 g8 l55 => st_no hR hL hl6 hT6 hres hK f3 g0 g8 l55)
