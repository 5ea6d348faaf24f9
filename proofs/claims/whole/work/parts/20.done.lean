/-! WHAT IS DONE -/
theorem WF.up_str {F : Fn} (h : WF F) {d v : Nat} (hd' : d < F 2) (hv : v ≤ 5) : WF (fup F (11 + d) v) := by
  obtain ⟨a0, a1, a2, a3, a4, a5, a6, a7, a8⟩ := h
  have n : ∀ j, j ≠ 11 + d → fup F (11 + d) v j = F j := fun j hj => fup_n _ _ hj
  have e0 := n 0 (by omega)
  have e1 := n 1 (by omega)
  have e2 := n 2 (by omega)
  have e3 := n 3 (by omega)
  have e4 := n 4 (by omega)
  refine ⟨fun j hj => ?_, by rw [e0]; exact a1, by rw [e1]; exact a2, by rw [e2]; exact a3, by rw [e3]; exact a4, fun x hx => ?_, fun x hx hx2 => ?_, fun c hc => ?_, fun c hc hc2 => ?_⟩
  · by_cases z : j = 11 + d
    · subst z; rw [fup_s]; omega
    · rw [n j z]; exact a0 j hj
  · rw [e2] at hx
    have b := a5 x hx
    by_cases z : x = d
    · subst z
      rw [n _ (by omega), fup_s, n _ (by omega), n _ (by omega)]; exact ⟨b.1, hv, b.2.2⟩
    · rw [n _ (by omega), n _ (by omega), n _ (by omega), n _ (by omega)]; exact b
  · rw [e2] at hx2
    rw [n _ (by omega), n _ (by omega), n _ (by omega)]; exact a6 x hx hx2
  · rw [e3] at hc
    rw [e2, e4, n (29 + c) (by omega), n (35 + c) (by omega), n (41 + c) (by omega), n (47 + c) (by omega)]; exact a7 c hc
  · rw [e3] at hc2
    rw [n _ (by omega)]; exact a8 c hc hc2
theorem WF.up_cgh {F : Fn} (h : WF F) {d v : Nat} (hd' : d < F 2) (hv : v ≤ 1) : WF (fup F (17 + d) v) := by
  obtain ⟨a0, a1, a2, a3, a4, a5, a6, a7, a8⟩ := h
  have n : ∀ j, j ≠ 17 + d → fup F (17 + d) v j = F j := fun j hj => fup_n _ _ hj
  have e0 := n 0 (by omega)
  have e1 := n 1 (by omega)
  have e2 := n 2 (by omega)
  have e3 := n 3 (by omega)
  have e4 := n 4 (by omega)
  refine ⟨fun j hj => ?_, by rw [e0]; exact a1, by rw [e1]; exact a2, by rw [e2]; exact a3, by rw [e3]; exact a4, fun x hx => ?_, fun x hx hx2 => ?_, fun c hc => ?_, fun c hc hc2 => ?_⟩
  · by_cases z : j = 17 + d
    · subst z; rw [fup_s]; omega
    · rw [n j z]; exact a0 j hj
  · rw [e2] at hx
    have b := a5 x hx
    by_cases z : x = d
    · subst z
      rw [n _ (by omega), n _ (by omega), fup_s, n _ (by omega)]; exact ⟨b.1, b.2.1, hv, b.2.2.2⟩
    · rw [n _ (by omega), n _ (by omega), n _ (by omega), n _ (by omega)]; exact b
  · rw [e2] at hx2
    rw [n _ (by omega), n _ (by omega), n _ (by omega)]; exact a6 x hx hx2
  · rw [e3] at hc
    rw [e2, e4, n (29 + c) (by omega), n (35 + c) (by omega), n (41 + c) (by omega), n (47 + c) (by omega)]; exact a7 c hc
  · rw [e3] at hc2
    rw [n _ (by omega)]; exact a8 c hc hc2
theorem WF.up_dog {F : Fn} (h : WF F) {d v : Nat} (hd' : d < F 2) (hv : v ≤ 1) : WF (fup F (23 + d) v) := by
  obtain ⟨a0, a1, a2, a3, a4, a5, a6, a7, a8⟩ := h
  have n : ∀ j, j ≠ 23 + d → fup F (23 + d) v j = F j := fun j hj => fup_n _ _ hj
  have e0 := n 0 (by omega)
  have e1 := n 1 (by omega)
  have e2 := n 2 (by omega)
  have e3 := n 3 (by omega)
  have e4 := n 4 (by omega)
  refine ⟨fun j hj => ?_, by rw [e0]; exact a1, by rw [e1]; exact a2, by rw [e2]; exact a3, by rw [e3]; exact a4, fun x hx => ?_, fun x hx hx2 => ?_, fun c hc => ?_, fun c hc hc2 => ?_⟩
  · by_cases z : j = 23 + d
    · subst z; rw [fup_s]; omega
    · rw [n j z]; exact a0 j hj
  · rw [e2] at hx
    have b := a5 x hx
    by_cases z : x = d
    · subst z
      rw [n _ (by omega), n _ (by omega), n _ (by omega), fup_s]; exact ⟨b.1, b.2.1, b.2.2.1, hv⟩
    · rw [n _ (by omega), n _ (by omega), n _ (by omega), n _ (by omega)]; exact b
  · rw [e2] at hx2
    rw [n _ (by omega), n _ (by omega), n _ (by omega)]; exact a6 x hx hx2
  · rw [e3] at hc
    rw [e2, e4, n (29 + c) (by omega), n (35 + c) (by omega), n (41 + c) (by omega), n (47 + c) (by omega)]; exact a7 c hc
  · rw [e3] at hc2
    rw [n _ (by omega)]; exact a8 c hc hc2
theorem ImgR.cells {q : Nat} (hq : q < 2) {σ σ' : St} (e : ∀ i, 37 ≤ i → i ≤ 54 → σ' i = σ i) (e3 : σ' 73 = σ 73) (e4 : σ' 74 = σ 74) (h : ImgR q σ) : ImgR q σ' := by
  rcases h with h | ⟨G, h1, h2, h3, h4, h5, h6⟩
  · exact Or.inl ⟨by rw [e4]; exact h.1, by rw [e _ (by omega) (by omega)]; exact h.2⟩
  · exact Or.inr ⟨G, by rw [e4]; exact h1, h2, h3, h4, h5.cells (fun i h1 h2 => e i (by omega) (by omega)), h6.cell e3⟩
/-- what an act of both may change: the street here, the ring, the model's street, its snapshots and their number -/
def actC (σ σ' : St) : Prop := (∀ i, (i < 19 ∨ 27 < i) → (i < 57 ∨ 60 < i) → i ≠ 65 → i ≠ 70 → i ≠ 75 → σ' i = σ i) ∧ ∀ j, j ≠ 18 → σ' 65 j = σ 65 j
theorem actC.rf {σ : St} : actC σ σ := ⟨fun _ _ _ _ _ _ => rfl, fun _ _ => rfl⟩
theorem actC.tr {σ σ1 σ2 : St} (h : actC σ σ1) (g : actC σ1 σ2) : actC σ σ2 := ⟨fun i a b c d e => (g.1 i a b c d e).trans (h.1 i a b c d e), fun j hj => (g.2 j hj).trans (h.2 j hj)⟩
theorem actC.onl {σ σ' : St} (h : actC σ σ') : onl 6 σ σ' := by
  intro i j h1 h2
  by_cases z : i = 65
  · subst z; exact h.2 j (fun q => h2 (by subst q; rfl))
  · rw [h.1 i ?_ ?_ z ?_ ?_]
    · by_cases q : 19 ≤ i ∧ i ≤ 27
      · exact absurd (cm_he i j q) h2
      · omega
    · by_cases q : 57 ≤ i ∧ i ≤ 60
      · exfalso; apply h2; rcases (show i = 57 ∨ i = 58 ∨ i = 59 ∨ i = 60 by omega) with rfl | rfl | rfl | rfl <;> rfl
      · omega
    · rintro rfl; exact h2 rfl
    · rintro rfl; exact h2 rfl
theorem actC.img {σ σ' : St} (h : actC σ σ') {q : Nat} (hq : q < 2) (g : ImgR q σ) : ImgR q σ' := g.cells hq (fun i a b => h.1 i (by omega) (by omega) (by omega) (by omega) (by omega)) (h.1 73 (by omega) (by omega) (by decide) (by decide) (by decide)) (h.1 74 (by omega) (by omega) (by decide) (by decide) (by decide))
theorem has6 {x : Int32} {k : Nat} (hk : k < 2 ^ 30) (h : ¬ has x (k + 1)) : x < 0 ∨ ¬ x ≤ nI k := by
  rcases has_no (by omega) h with q | q
  · exact Or.inl q
  · right
    intro w
    have : nI k < nI (k + 1) := nI_lt (by omega) (by omega)
    exact Int32.not_le.mpr (Int32.lt_of_lt_of_le this q) w
theorem sp8 : Sp8 Rel := by
  intro a b σ hR
  obtain ⟨F, ⟨hF, h4, hC, hM⟩, hI, n, nx, S, rc, hG, hS, hCh⟩ := hR.2.2.2.2.2
  have h62 := hF.2.2.2.1
  have h63 := hF.2.2.2.2.1
  by_cases ha : has a (F 2)
  · obtain ⟨d, hd', rfl⟩ := ha
    by_cases hb : has b 6
    · obtain ⟨v, hv, rfl⟩ := hb
      have hw := hF.2.2.2.2.2.1 d hd'
      have ed := (hC.2.2.2.2.2.1 d hd').2.1
      unfold x6_stretch
      refine s5_hasDoor_t hC.1 h62 hd' ?_
      show if _ then _ else _
      rw [if_neg (by decide), if_neg (nI_pos (by omega)), if_pos (by rw [show (5 : Int32) = nI 5 from rfl, nI_leI (by omega) (by decide)]; omega), nI_clamp (by omega)]
      simp only [lt]
      rw [show (19 + 2 : Nat) = 21 from rfl]
      rw [show σ 21 d = nI (F (11 + d)) from ed]
      refine ⟨(vpI (by omega)).mpr (by show d < 6; omega), ?_⟩
      refine s5_usedSeconds rfl hC hF ?_
      rw [hC.2.2.1]
      have m0 : ∀ τ : St, StM 70 0 τ F → τ 70 (0 : Int32).toNatClampNeg = nI (F 0) := fun τ hτ => m70 hτ (j := 0) (by decide)
      have e11 : ((11 : Int32) + nI d).toNatClampNeg = 11 + d := by rw [show (11 : Int32) = nI 11 from rfl, nI_add, nI_clamp (by omega)]
      have v11 : vp_in ((11 : Int32) + nI d) (ln 70) := by rw [show (11 : Int32) = nI 11 from rfl, nI_add]; exact vq (by omega)
      by_cases q : nI (smL (fun d => F (11 + d)) (F 2)) - nI (F (11 + d)) + nI v ≤ nI (F 0)
      · rw [if_pos q]
        refine ⟨(vpI (by omega)).mpr (by show d < 6; omega), ?_⟩
        have hG1 : RingR (st_up σ 21 d (nI v)) n nx rc := hG.congr (fun i a b => st_up_ne _ _ _ (by omega))
        refine s0_keep (w := 2) (d := d) (v := F (11 + d)) hG1 (fun σ2 r1 r2 => ?_)
        have c2 : actC σ σ2 := ⟨fun i a1 a2 a3 a4 a5 => by rw [r2 i a2, st_up_ne _ _ _ (by omega)], fun j _ => by rw [r2 65 (by decide), st_up_ne _ _ _ (by decide)]⟩
        have hM2 : StM 70 0 σ2 F := hM.cell (by rw [r2 70 (by decide), st_up_ne _ _ _ (by decide)])
        have hS2 : SnapR σ2 n S := hS.congr (by rw [r2 65 (by decide), st_up_ne _ _ _ (by decide)]) (by rw [r2 75 (by decide), st_up_ne _ _ _ (by decide)])
        have hC2 : StC 19 σ2 (fup F (11 + d) v) := (hC.up_str h62 h63 (j := d) (by omega) v).cells (fun i a b => r2 i (by omega))
        unfold x7_stretch
        refine s7_isDoorAt_t hM2 hF hd' ?_
        show if _ then _ else _
        rw [if_neg (by decide)]
        refine in_lit_t (m := 5) (by omega) (by decide) ?_
        show if _ then _ else _
        rw [if_neg (by decide), e11]
        simp only [lt]
        rw [m70 hM2 (by omega)]
        refine ⟨v11, s7_secondsUsed hM2 hF ?_⟩
        rw [m0 σ2 hM2, if_pos q]
        refine ⟨vq (j := 0) (by decide), ?_⟩
        refine s7_act hG.1 hS2 hM2 (fun σ3 b1 b2 b3 => ?_)
        refine ⟨v11, rfl, ?_⟩
        have c3 : actC σ (st_up σ3 70 (11 + d) (nI v)) := c2.tr ⟨fun i a1 a2 a3 a4 a5 => by rw [st_up_ne _ _ _ a4, b2 i a5 a3], fun j hj => by rw [st_up_ne _ _ _ (by decide), b3 j hj]⟩
        refine hR.m6 c3.onl ⟨fup F (11 + d) v, ⟨hF.up_str hd' (by omega), by rw [fup_n _ _ (by omega)]; exact h4, ?_, ?_⟩, fun q hq => c3.img hq (hI q hq), min (n + 1) 24, (nx + 1) % 24, psh n S F, psh n rc (2, d, F (11 + d)), ?_, ?_, ?_⟩
        · exact hC2.cells (fun i a b => by rw [st_up_ne _ _ _ (by omega), b2 i (by omega) (by omega)])
        · have hM3 : StM 70 0 σ3 F := hM2.cell (b2 70 (by decide) (by decide))
          have := hM3.up (j := 11 + d) v
          rw [Nat.zero_add] at this
          exact this
        · exact r1.congr (fun i a b => by rw [st_up_ne _ _ _ (by omega), b2 i (by omega) (by omega)])
        · exact b1.congr (by rw [st_up_ne _ _ _ (by decide)]) (st_up_ne _ _ _ (by decide))
        · refine hCh.push hG.1 hF h4 (Or.inr (Or.inr (Or.inl ⟨rfl, hd', hw.2.1, fun j _ => ?_⟩)))
          show F j = fup (fup F (11 + d) v) (11 + d) (F (11 + d)) j
          by_cases z : j = 11 + d
          · subst z; rw [fup_s]
          · rw [fup_n _ _ z, fup_n _ _ z]
      · rw [if_neg q]
        unfold x7_stretch
        refine s7_isDoorAt_t hM hF hd' ?_
        show if _ then _ else _
        rw [if_neg (by decide)]
        refine in_lit_t (m := 5) (by omega) (by decide) ?_
        show if _ then _ else _
        rw [if_neg (by decide), e11]
        simp only [lt]
        rw [m70 hM (by omega)]
        refine ⟨v11, s7_secondsUsed hM hF ?_⟩
        rw [m0 σ hM, if_neg q]
        exact ⟨vq (j := 0) (by decide), trivial, hR⟩
    · have e6 : ∀ k : Int32 → St → Prop, k (-1000001) σ → x6_stretch (nI d) b σ k := by
        intro k h
        unfold x6_stretch x6_stretch_20
        refine s5_hasDoor_t hC.1 h62 hd' ?_
        show if _ then _ else _
        rw [if_neg (by decide)]
        by_cases z : b < 0
        · rw [if_pos z]; exact h
        · rw [if_neg z, if_neg (show ¬ b ≤ 5 from (has6 (k := 5) (by decide) hb).resolve_left z)]; exact h
      refine e6 _ ?_
      unfold x7_stretch x7_stretch_17
      refine s7_isDoorAt_t hM hF hd' ?_
      show if _ then _ else _
      rw [if_neg (by decide)]
      refine in_lit_f (m := 5) (by decide) hb ?_
      show if _ then _ else _
      rw [if_pos (by decide)]
      exact ⟨rfl, hR⟩
  · unfold x6_stretch x6_stretch_20 x7_stretch x7_stretch_17
    refine s5_hasDoor_f hC.1 h62 ha ?_
    show if _ then _ else _
    rw [if_pos (by decide)]
    refine s7_isDoorAt_f hM hF ha ?_
    show if _ then _ else _
    rw [if_pos (by decide)]
    exact ⟨rfl, hR⟩
theorem snd_cgh {σ : St} {F : Fn} (hR : Rel σ) {n nx : Nat} {S : Nat → Fn} {rc : Nat → Nat × Nat × Nat} (hF : WF F) (h4 : F 4 ≤ 999) (hC : StC 19 σ F) (hM : StM 70 0 σ F) (hI : ∀ q, q < 2 → ImgR q σ) (hG : RingR σ n nx rc) (hS : SnapR σ n S) (hCh : Chn n rc S F) {d v : Nat} (hd' : d < F 2) (hv : v < 2) (hne : F (17 + d) ≠ v) {k7 : St → (Int32 → St → Prop) → Prop} (h7 : ∀ σ2, StM 70 0 σ2 F → ∀ k : Int32 → St → Prop, x7_sound_81 (nI d) (nI 0) (nI v) (17 + nI d) σ2 k → k7 σ2 k) : x6_sound_87 (nI d) (nI 0) (nI v) 22 σ (fun r σ1 => k7 σ1 (fun r2 σ2 => r = r2 ∧ Rel σ2)) := by
  have h62 := hF.2.2.2.1
  have h63 := hF.2.2.2.2.1
  have hw := hF.2.2.2.2.2.1 d hd'
  have hF' : WF (fup F (17 + d) v) := hF.up_cgh hd' (by omega)
  unfold x6_sound_87
  simp only [lt]
  rw [nI_clamp (by omega), show (1 : Int32) - nI v = nI (1 - v) from pk_sub (a := 1) (by omega), show 1 - v = F (17 + d) by omega]
  refine ⟨(vpI (by omega)).mpr (by show d < 6; omega), ?_⟩
  have hG1 : RingR (st_up σ 22 d (nI v)) n nx rc := hG.congr (fun i a b => st_up_ne _ _ _ (by omega))
  refine s0_keep (w := 0) (d := d) (v := F (17 + d)) hG1 (fun σ2 r1 r2 => ?_)
  have c2 : actC σ σ2 := ⟨fun i a1 a2 a3 a4 a5 => by rw [r2 i a2, st_up_ne _ _ _ (by omega)], fun j _ => by rw [r2 65 (by decide), st_up_ne _ _ _ (by decide)]⟩
  have hM2 : StM 70 0 σ2 F := hM.cell (by rw [r2 70 (by decide), st_up_ne _ _ _ (by decide)])
  have hS2 : SnapR σ2 n S := hS.congr (by rw [r2 65 (by decide), st_up_ne _ _ _ (by decide)]) (by rw [r2 75 (by decide), st_up_ne _ _ _ (by decide)])
  have hC2 : StC 19 σ2 (fup F (17 + d) v) := (hC.up_cgh h62 h63 (j := d) (by omega) v).cells (fun i a b => r2 i (by omega))
  refine s5_usedSounds rfl hC2 hF' ?_
  refine h7 σ2 hM2 _ ?_
  unfold x7_sound_81
  have e11 : ((17 : Int32) + nI d).toNatClampNeg = 17 + d := by rw [show (17 : Int32) = nI 17 from rfl, nI_add, nI_clamp (by omega)]
  have v11 : vp_in ((17 : Int32) + nI d) (ln 70) := by rw [show (17 : Int32) = nI 17 from rfl, nI_add]; exact vq (by omega)
  refine s7_act hG.1 hS2 hM2 (fun σ3 b1 b2 b3 => ?_)
  simp only [lt]
  rw [e11]
  refine ⟨v11, ?_⟩
  have hM4 : StM 70 0 (st_up σ3 70 (17 + d) (nI v)) (fup F (17 + d) v) := by
    have hM3 : StM 70 0 σ3 F := hM2.cell (b2 70 (by decide) (by decide))
    have := hM3.up (j := 17 + d) v
    rw [Nat.zero_add] at this
    exact this
  refine s7_soundsUsed hM4 hF' ⟨rfl, ?_⟩
  have c3 : actC σ (st_up σ3 70 (17 + d) (nI v)) := c2.tr ⟨fun i a1 a2 a3 a4 a5 => by rw [st_up_ne _ _ _ a4, b2 i a5 a3], fun j hj => by rw [st_up_ne _ _ _ (by decide), b3 j hj]⟩
  refine hR.m6 c3.onl ⟨fup F (17 + d) v, ⟨hF', by rw [fup_n _ _ (by omega)]; exact h4, ?_, hM4⟩, fun q hq => c3.img hq (hI q hq), min (n + 1) 24, (nx + 1) % 24, psh n S F, psh n rc (0, d, F (17 + d)), ?_, ?_, ?_⟩
  · exact hC2.cells (fun i a b => by rw [st_up_ne _ _ _ (by omega), b2 i (by omega) (by omega)])
  · exact r1.congr (fun i a b => by rw [st_up_ne _ _ _ (by omega), b2 i (by omega) (by omega)])
  · exact b1.congr (by rw [st_up_ne _ _ _ (by decide)]) (st_up_ne _ _ _ (by decide))
  · refine hCh.push hG.1 hF h4 (Or.inl ⟨rfl, hd', by show F (17 + d) ≤ 1; omega, fun j _ => ?_⟩)
    show F j = fup (fup F (17 + d) v) (17 + d) (F (17 + d)) j
    by_cases z : j = 17 + d
    · subst z; rw [fup_s]
    · rw [fup_n _ _ z, fup_n _ _ z]
theorem snd49_cgh {σ : St} {F : Fn} (hR : Rel σ) {n nx : Nat} {S : Nat → Fn} {rc : Nat → Nat × Nat × Nat} (hF : WF F) (h4 : F 4 ≤ 999) (hC : StC 19 σ F) (hM : StM 70 0 σ F) (hI : ∀ q, q < 2 → ImgR q σ) (hG : RingR σ n nx rc) (hS : SnapR σ n S) (hCh : Chn n rc S F) {d v : Nat} (hd' : d < F 2) (hv : v < 2) {k7 : St → (Int32 → St → Prop) → Prop} (h7 : ∀ σ2, StM 70 0 σ2 F → ∀ k : Int32 → St → Prop, x7_sound_40 (nI d) (nI 0) (nI v) 17 σ2 k → k7 σ2 k) : x6_sound_49 (nI d) (nI 0) (nI v) 22 σ (fun r σ1 => k7 σ1 (fun r2 σ2 => r = r2 ∧ Rel σ2)) := by
  have h62 := hF.2.2.2.1
  have hw := hF.2.2.2.2.2.1 d hd'
  have ed : σ 22 d = nI (F (17 + d)) := (hC.2.2.2.2.2.1 d hd').2.2.1
  have e11 : ((17 : Int32) + nI d).toNatClampNeg = 17 + d := by rw [show (17 : Int32) = nI 17 from rfl, nI_add, nI_clamp (by omega)]
  have v11 : vp_in ((17 : Int32) + nI d) (ln 70) := by rw [show (17 : Int32) = nI 17 from rfl, nI_add]; exact vq (by omega)
  have m1 : ∀ τ : St, StM 70 0 τ F → τ 70 (1 : Int32).toNatClampNeg = nI (F 1) := fun τ hτ => m70 hτ (j := 1) (by decide)
  have go : ∀ σ2, StM 70 0 σ2 F → ∀ k : Int32 → St → Prop, (if F (17 + d) = v then k (-1000002) σ2 else (if v = 1 then (if smL (fun d => F (17 + d)) (F 2) + smL (fun d => F (23 + d)) (F 2) + 1 ≤ F 1 then x7_sound_81 (nI d) (nI 0) (nI v) (17 + nI d) σ2 k else k (-1000003) σ2) else x7_sound_81 (nI d) (nI 0) (nI v) (17 + nI d) σ2 k)) → k7 σ2 k := by
    intro σ2 hM2 k hk
    refine h7 σ2 hM2 k ?_
    unfold x7_sound_40
    simp only [lt]
    rw [e11, m70 hM2 (by omega)]
    refine ⟨v11, ?_⟩
    have u1 : smL (fun d => F (17 + d)) (F 2) ≤ 6 := Nat.le_trans (smL_le (B := 1) (F 2) (fun i hi => (hF.2.2.2.2.2.1 i hi).2.2.1)) (by omega)
    have u2 : smL (fun d => F (23 + d)) (F 2) ≤ 6 := Nat.le_trans (smL_le (B := 1) (F 2) (fun i hi => (hF.2.2.2.2.2.1 i hi).2.2.2)) (by omega)
    have u3 := hF.2.2.1
    by_cases c1 : F (17 + d) = v
    · rw [if_pos (by rw [c1])]; rwa [if_pos c1] at hk
    rw [if_neg (by rw [nI_eq (by omega) (by omega)]; exact c1)]
    rw [if_neg c1] at hk
    by_cases c2 : v = 1
    · rw [if_pos (by rw [c2]; rfl)]
      rw [if_pos c2] at hk
      refine s7_soundsUsed hM2 hF ?_
      rw [m1 σ2 hM2, show (1 : Int32) = nI 1 from rfl, nI_add]
      refine ⟨vq (j := 1) (by decide), ?_⟩
      by_cases c3 : smL (fun d => F (17 + d)) (F 2) + smL (fun d => F (23 + d)) (F 2) + 1 ≤ F 1
      · rw [if_pos (by rw [nI_leI (by omega) (by omega)]; exact c3)]; rwa [if_pos c3] at hk
      · rw [if_neg (by rw [nI_leI (by omega) (by omega)]; exact c3)]; rwa [if_neg c3] at hk
    · rw [if_neg (by rw [show (1 : Int32) = nI 1 from rfl, nI_eq (by omega) (by decide)]; exact c2)]
      rwa [if_neg c2] at hk
  unfold x6_sound_49
  rw [nI_clamp (by omega), ed]
  refine ⟨(vpI (by omega)).mpr (by show d < 6; omega), ?_⟩
  by_cases c1 : F (17 + d) = v
  · rw [if_pos (by rw [c1])]
    refine go σ hM _ ?_
    rw [if_pos c1]; exact ⟨rfl, hR⟩
  rw [if_neg (by rw [nI_eq (by omega) (by omega)]; exact c1)]
  have u1 : smL (fun d => F (17 + d)) (F 2) ≤ 6 := Nat.le_trans (smL_le (B := 1) (F 2) (fun i hi => (hF.2.2.2.2.2.1 i hi).2.2.1)) (by omega)
  have u2 : smL (fun d => F (23 + d)) (F 2) ≤ 6 := Nat.le_trans (smL_le (B := 1) (F 2) (fun i hi => (hF.2.2.2.2.2.1 i hi).2.2.2)) (by omega)
  have u3 := hF.2.2.1
  by_cases c2 : v = 1
  · rw [if_pos (by rw [c2]; rfl)]
    refine s5_usedSounds rfl hC hF ?_
    rw [hC.2.2.2.1]
    by_cases c3 : smL (fun d => F (17 + d)) (F 2) + smL (fun d => F (23 + d)) (F 2) + 1 ≤ F 1
    · rw [if_pos (by rw [nI_ltI (by omega) (by omega)]; omega)]
      refine snd_cgh hR hF h4 hC hM hI hG hS hCh hd' hv c1 (fun σ2 hM2 k hk => go σ2 hM2 k ?_)
      rw [if_neg c1, if_pos c2, if_pos c3]; exact hk
    · rw [if_neg (by rw [nI_ltI (by omega) (by omega)]; omega)]
      refine go σ hM _ ?_
      rw [if_neg c1, if_pos c2, if_neg c3]; exact ⟨rfl, hR⟩
  · rw [if_neg (by rw [show (1 : Int32) = nI 1 from rfl, nI_eq (by omega) (by decide)]; exact c2)]
    refine snd_cgh hR hF h4 hC hM hI hG hS hCh hd' hv c1 (fun σ2 hM2 k hk => go σ2 hM2 k ?_)
    rw [if_neg c1, if_neg c2]; exact hk

theorem snd_dog {σ : St} {F : Fn} (hR : Rel σ) {n nx : Nat} {S : Nat → Fn} {rc : Nat → Nat × Nat × Nat} (hF : WF F) (h4 : F 4 ≤ 999) (hC : StC 19 σ F) (hM : StM 70 0 σ F) (hI : ∀ q, q < 2 → ImgR q σ) (hG : RingR σ n nx rc) (hS : SnapR σ n S) (hCh : Chn n rc S F) {d v : Nat} (hd' : d < F 2) (hv : v < 2) (hne : F (23 + d) ≠ v) {k7 : St → (Int32 → St → Prop) → Prop} (h7 : ∀ σ2, StM 70 0 σ2 F → ∀ k : Int32 → St → Prop, x7_sound_81 (nI d) (nI 1) (nI v) (23 + nI d) σ2 k → k7 σ2 k) : x6_sound_87 (nI d) (nI 1) (nI v) 23 σ (fun r σ1 => k7 σ1 (fun r2 σ2 => r = r2 ∧ Rel σ2)) := by
  have h62 := hF.2.2.2.1
  have h63 := hF.2.2.2.2.1
  have hw := hF.2.2.2.2.2.1 d hd'
  have hF' : WF (fup F (23 + d) v) := hF.up_dog hd' (by omega)
  unfold x6_sound_87
  simp only [lt]
  rw [nI_clamp (by omega), show (1 : Int32) - nI v = nI (1 - v) from pk_sub (a := 1) (by omega), show 1 - v = F (23 + d) by omega]
  refine ⟨(vpI (by omega)).mpr (by show d < 6; omega), ?_⟩
  have hG1 : RingR (st_up σ 23 d (nI v)) n nx rc := hG.congr (fun i a b => st_up_ne _ _ _ (by omega))
  refine s0_keep (w := 1) (d := d) (v := F (23 + d)) hG1 (fun σ2 r1 r2 => ?_)
  have c2 : actC σ σ2 := ⟨fun i a1 a2 a3 a4 a5 => by rw [r2 i a2, st_up_ne _ _ _ (by omega)], fun j _ => by rw [r2 65 (by decide), st_up_ne _ _ _ (by decide)]⟩
  have hM2 : StM 70 0 σ2 F := hM.cell (by rw [r2 70 (by decide), st_up_ne _ _ _ (by decide)])
  have hS2 : SnapR σ2 n S := hS.congr (by rw [r2 65 (by decide), st_up_ne _ _ _ (by decide)]) (by rw [r2 75 (by decide), st_up_ne _ _ _ (by decide)])
  have hC2 : StC 19 σ2 (fup F (23 + d) v) := (hC.up_dog h62 h63 (j := d) (by omega) v).cells (fun i a b => r2 i (by omega))
  refine s5_usedSounds rfl hC2 hF' ?_
  refine h7 σ2 hM2 _ ?_
  unfold x7_sound_81
  have e11 : ((23 : Int32) + nI d).toNatClampNeg = 23 + d := by rw [show (23 : Int32) = nI 23 from rfl, nI_add, nI_clamp (by omega)]
  have v11 : vp_in ((23 : Int32) + nI d) (ln 70) := by rw [show (23 : Int32) = nI 23 from rfl, nI_add]; exact vq (by omega)
  refine s7_act hG.1 hS2 hM2 (fun σ3 b1 b2 b3 => ?_)
  simp only [lt]
  rw [e11]
  refine ⟨v11, ?_⟩
  have hM4 : StM 70 0 (st_up σ3 70 (23 + d) (nI v)) (fup F (23 + d) v) := by
    have hM3 : StM 70 0 σ3 F := hM2.cell (b2 70 (by decide) (by decide))
    have := hM3.up (j := 23 + d) v
    rw [Nat.zero_add] at this
    exact this
  refine s7_soundsUsed hM4 hF' ⟨rfl, ?_⟩
  have c3 : actC σ (st_up σ3 70 (23 + d) (nI v)) := c2.tr ⟨fun i a1 a2 a3 a4 a5 => by rw [st_up_ne _ _ _ a4, b2 i a5 a3], fun j hj => by rw [st_up_ne _ _ _ (by decide), b3 j hj]⟩
  refine hR.m6 c3.onl ⟨fup F (23 + d) v, ⟨hF', by rw [fup_n _ _ (by omega)]; exact h4, ?_, hM4⟩, fun q hq => c3.img hq (hI q hq), min (n + 1) 24, (nx + 1) % 24, psh n S F, psh n rc (1, d, F (23 + d)), ?_, ?_, ?_⟩
  · exact hC2.cells (fun i a b => by rw [st_up_ne _ _ _ (by omega), b2 i (by omega) (by omega)])
  · exact r1.congr (fun i a b => by rw [st_up_ne _ _ _ (by omega), b2 i (by omega) (by omega)])
  · exact b1.congr (by rw [st_up_ne _ _ _ (by decide)]) (st_up_ne _ _ _ (by decide))
  · refine hCh.push hG.1 hF h4 (Or.inr (Or.inl ⟨rfl, hd', by show F (23 + d) ≤ 1; omega, fun j _ => ?_⟩))
    show F j = fup (fup F (23 + d) v) (23 + d) (F (23 + d)) j
    by_cases z : j = 23 + d
    · subst z; rw [fup_s]
    · rw [fup_n _ _ z, fup_n _ _ z]
theorem snd49_dog {σ : St} {F : Fn} (hR : Rel σ) {n nx : Nat} {S : Nat → Fn} {rc : Nat → Nat × Nat × Nat} (hF : WF F) (h4 : F 4 ≤ 999) (hC : StC 19 σ F) (hM : StM 70 0 σ F) (hI : ∀ q, q < 2 → ImgR q σ) (hG : RingR σ n nx rc) (hS : SnapR σ n S) (hCh : Chn n rc S F) {d v : Nat} (hd' : d < F 2) (hv : v < 2) {k7 : St → (Int32 → St → Prop) → Prop} (h7 : ∀ σ2, StM 70 0 σ2 F → ∀ k : Int32 → St → Prop, x7_sound_40 (nI d) (nI 1) (nI v) 23 σ2 k → k7 σ2 k) : x6_sound_49 (nI d) (nI 1) (nI v) 23 σ (fun r σ1 => k7 σ1 (fun r2 σ2 => r = r2 ∧ Rel σ2)) := by
  have h62 := hF.2.2.2.1
  have hw := hF.2.2.2.2.2.1 d hd'
  have ed : σ 23 d = nI (F (23 + d)) := (hC.2.2.2.2.2.1 d hd').2.2.2
  have e11 : ((23 : Int32) + nI d).toNatClampNeg = 23 + d := by rw [show (23 : Int32) = nI 23 from rfl, nI_add, nI_clamp (by omega)]
  have v11 : vp_in ((23 : Int32) + nI d) (ln 70) := by rw [show (23 : Int32) = nI 23 from rfl, nI_add]; exact vq (by omega)
  have m1 : ∀ τ : St, StM 70 0 τ F → τ 70 (1 : Int32).toNatClampNeg = nI (F 1) := fun τ hτ => m70 hτ (j := 1) (by decide)
  have go : ∀ σ2, StM 70 0 σ2 F → ∀ k : Int32 → St → Prop, (if F (23 + d) = v then k (-1000002) σ2 else (if v = 1 then (if smL (fun d => F (17 + d)) (F 2) + smL (fun d => F (23 + d)) (F 2) + 1 ≤ F 1 then x7_sound_81 (nI d) (nI 1) (nI v) (23 + nI d) σ2 k else k (-1000003) σ2) else x7_sound_81 (nI d) (nI 1) (nI v) (23 + nI d) σ2 k)) → k7 σ2 k := by
    intro σ2 hM2 k hk
    refine h7 σ2 hM2 k ?_
    unfold x7_sound_40
    simp only [lt]
    rw [e11, m70 hM2 (by omega)]
    refine ⟨v11, ?_⟩
    have u1 : smL (fun d => F (17 + d)) (F 2) ≤ 6 := Nat.le_trans (smL_le (B := 1) (F 2) (fun i hi => (hF.2.2.2.2.2.1 i hi).2.2.1)) (by omega)
    have u2 : smL (fun d => F (23 + d)) (F 2) ≤ 6 := Nat.le_trans (smL_le (B := 1) (F 2) (fun i hi => (hF.2.2.2.2.2.1 i hi).2.2.2)) (by omega)
    have u3 := hF.2.2.1
    by_cases c1 : F (23 + d) = v
    · rw [if_pos (by rw [c1])]; rwa [if_pos c1] at hk
    rw [if_neg (by rw [nI_eq (by omega) (by omega)]; exact c1)]
    rw [if_neg c1] at hk
    by_cases c2 : v = 1
    · rw [if_pos (by rw [c2]; rfl)]
      rw [if_pos c2] at hk
      refine s7_soundsUsed hM2 hF ?_
      rw [m1 σ2 hM2, show (1 : Int32) = nI 1 from rfl, nI_add]
      refine ⟨vq (j := 1) (by decide), ?_⟩
      by_cases c3 : smL (fun d => F (17 + d)) (F 2) + smL (fun d => F (23 + d)) (F 2) + 1 ≤ F 1
      · rw [if_pos (by rw [nI_leI (by omega) (by omega)]; exact c3)]; rwa [if_pos c3] at hk
      · rw [if_neg (by rw [nI_leI (by omega) (by omega)]; exact c3)]; rwa [if_neg c3] at hk
    · rw [if_neg (by rw [show (1 : Int32) = nI 1 from rfl, nI_eq (by omega) (by decide)]; exact c2)]
      rwa [if_neg c2] at hk
  unfold x6_sound_49
  rw [nI_clamp (by omega), ed]
  refine ⟨(vpI (by omega)).mpr (by show d < 6; omega), ?_⟩
  by_cases c1 : F (23 + d) = v
  · rw [if_pos (by rw [c1])]
    refine go σ hM _ ?_
    rw [if_pos c1]; exact ⟨rfl, hR⟩
  rw [if_neg (by rw [nI_eq (by omega) (by omega)]; exact c1)]
  have u1 : smL (fun d => F (17 + d)) (F 2) ≤ 6 := Nat.le_trans (smL_le (B := 1) (F 2) (fun i hi => (hF.2.2.2.2.2.1 i hi).2.2.1)) (by omega)
  have u2 : smL (fun d => F (23 + d)) (F 2) ≤ 6 := Nat.le_trans (smL_le (B := 1) (F 2) (fun i hi => (hF.2.2.2.2.2.1 i hi).2.2.2)) (by omega)
  have u3 := hF.2.2.1
  by_cases c2 : v = 1
  · rw [if_pos (by rw [c2]; rfl)]
    refine s5_usedSounds rfl hC hF ?_
    rw [hC.2.2.2.1]
    by_cases c3 : smL (fun d => F (17 + d)) (F 2) + smL (fun d => F (23 + d)) (F 2) + 1 ≤ F 1
    · rw [if_pos (by rw [nI_ltI (by omega) (by omega)]; omega)]
      refine snd_dog hR hF h4 hC hM hI hG hS hCh hd' hv c1 (fun σ2 hM2 k hk => go σ2 hM2 k ?_)
      rw [if_neg c1, if_pos c2, if_pos c3]; exact hk
    · rw [if_neg (by rw [nI_ltI (by omega) (by omega)]; omega)]
      refine go σ hM _ ?_
      rw [if_neg c1, if_pos c2, if_neg c3]; exact ⟨rfl, hR⟩
  · rw [if_neg (by rw [show (1 : Int32) = nI 1 from rfl, nI_eq (by omega) (by decide)]; exact c2)]
    refine snd_dog hR hF h4 hC hM hI hG hS hCh hd' hv c1 (fun σ2 hM2 k hk => go σ2 hM2 k ?_)
    rw [if_neg c1, if_neg c2]; exact hk
theorem sp9 : Sp9 Rel := by
  intro a b c σ hR
  obtain ⟨F, ⟨hF, h4, hC, hM⟩, hI, n, nx, S, rc, hG, hS, hCh⟩ := hR.2.2.2.2.2
  have h62 := hF.2.2.2.1
  unfold x6_sound
  by_cases ha : has a (F 2)
  · obtain ⟨d, hd', rfl⟩ := ha
    refine s5_hasDoor_t hC.1 h62 hd' ?_
    show if _ then _ else _
    rw [if_neg (by decide)]
    by_cases hb : has b 2
    · obtain ⟨w, hw, rfl⟩ := hb
      refine s6_isBit_t hw ?_
      show if _ then _ else _
      rw [if_neg (by decide)]
      by_cases hc : has c 2
      · obtain ⟨v, hv, rfl⟩ := hc
        refine s6_isBit_t hv ?_
        show if _ then _ else _
        rw [if_neg (by decide)]
        rcases (show w = 0 ∨ w = 1 by omega) with rfl | rfl
        · rw [if_pos (by decide)]
          refine snd49_cgh (k7 := x7_sound (nI d) (nI 0) (nI v)) hR hF h4 hC hM hI hG hS hCh hd' hv (fun σ2 hM2 k hk => ?_)
          unfold x7_sound
          refine s7_isDoorAt_t hM2 hF hd' ?_
          show if _ then _ else _
          rw [if_neg (by decide)]
          refine in_lit_t (m := 1) (by omega) (by decide) ?_
          show if _ then _ else _
          rw [if_neg (by decide)]
          refine in_lit_t (m := 1) (by omega) (by decide) ?_
          show if _ then _ else _
          rw [if_neg (by decide), if_pos (by decide)]
          exact hk
        · rw [if_neg (by decide)]
          refine snd49_dog (k7 := x7_sound (nI d) (nI 1) (nI v)) hR hF h4 hC hM hI hG hS hCh hd' hv (fun σ2 hM2 k hk => ?_)
          unfold x7_sound
          refine s7_isDoorAt_t hM2 hF hd' ?_
          show if _ then _ else _
          rw [if_neg (by decide)]
          refine in_lit_t (m := 1) (by omega) (by decide) ?_
          show if _ then _ else _
          rw [if_neg (by decide)]
          refine in_lit_t (m := 1) (by omega) (by decide) ?_
          show if _ then _ else _
          rw [if_neg (by decide), if_neg (by decide)]
          exact hk
      · refine s6_isBit_f hc ?_
        show if _ then _ else _
        rw [if_pos (by decide)]
        show x7_sound _ _ _ _ _
        unfold x7_sound x7_sound_26
        refine s7_isDoorAt_t hM hF hd' ?_
        show if _ then _ else _
        rw [if_neg (by decide)]
        refine in_lit_t (m := 1) (by omega) (by decide) ?_
        show if _ then _ else _
        rw [if_neg (by decide)]
        refine in_lit_f (m := 1) (by decide) hc ?_
        show if _ then _ else _
        rw [if_pos (by decide)]
        exact ⟨rfl, hR⟩
    · refine s6_isBit_f hb ?_
      show if _ then _ else _
      rw [if_pos (by decide)]
      show x7_sound _ _ _ _ _
      unfold x7_sound x7_sound_26
      refine s7_isDoorAt_t hM hF hd' ?_
      show if _ then _ else _
      rw [if_neg (by decide)]
      refine in_lit_f (m := 1) (by decide) hb ?_
      show if _ then _ else _
      rw [if_pos (by decide)]
      exact ⟨rfl, hR⟩
  · refine s5_hasDoor_f hC.1 h62 ha ?_
    show if _ then _ else _
    rw [if_pos (by decide)]
    show x7_sound _ _ _ _ _
    unfold x7_sound x7_sound_26
    refine s7_isDoorAt_f hM hF ha ?_
    show if _ then _ else _
    rw [if_pos (by decide)]
    exact ⟨rfl, hR⟩
