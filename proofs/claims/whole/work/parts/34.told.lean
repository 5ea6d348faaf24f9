/-! STREET: what is told, by the class -/
def PG (G : Fn) : Prop := WF G ∧ G 4 = 0 ∧ (∀ j, 11 ≤ j → j < 29 → G j = 0) ∧ (∀ j, 47 ≤ j → j < 53 → G j = 0)
theorem beg_0 (a b : Nat) {j : Nat} (hj : 2 ≤ j) : beg a b j = 0 := by
  unfold beg; rw [if_neg (by omega), if_neg (by omega)]
theorem beg_PG {a b : Nat} (ha : a ≤ 60) (hb : b ≤ 12) : PG (beg a b) := by
  have z := fun j hj => beg_0 a b (j := j) hj
  have e0 : beg a b 0 = a := rfl
  have e1 : beg a b 1 = b := rfl
  refine ⟨⟨fun j hj => ?_, by rw [e0]; exact ha, by rw [e1]; exact hb, by rw [z 2 (by decide)]; decide, by rw [z 3 (by decide)]; decide, fun d hd => ?_, fun d h1 h2 => ⟨z _ (by omega), z _ (by omega), z _ (by omega)⟩, fun c hc => ?_, fun c h1 h2 => z _ (by omega)⟩, z 4 (by decide), fun j h1 h2 => z j (by omega), fun j h1 h2 => z j (by omega)⟩
  · rcases (show j = 0 ∨ j = 1 ∨ 2 ≤ j by omega) with rfl | rfl | q
    · rw [e0]; omega
    · rw [e1]; omega
    · rw [z j q]; omega
  · rw [z 2 (by decide)] at hd; exact absurd hd (Nat.not_lt_zero _)
  · rw [z 3 (by decide)] at hc; exact absurd hc (Nat.not_lt_zero _)
theorem addD_at (G : Fn) (v : Nat) : addD G v 2 = G 2 + 1 ∧ addD G v (5 + G 2) = v ∧ ∀ j, j ≠ 2 → j ≠ 5 + G 2 → addD G v j = G j := by
  unfold addD
  refine ⟨fup_s _ _ _, ?_, fun j h1 h2 => ?_⟩
  · rw [fup_n _ _ (by omega), fup_s]
  · rw [fup_n _ _ h1, fup_n _ _ h2]
theorem addC_at (G : Fn) (q a w : Nat) (h3 : G 3 < 6) : addC G q a w 3 = G 3 + 1 ∧ addC G q a w (29 + G 3) = q ∧ addC G q a w (41 + G 3) = a ∧ addC G q a w (35 + G 3) = w ∧ ∀ j, j ≠ 3 → j ≠ 29 + G 3 → j ≠ 41 + G 3 → j ≠ 35 + G 3 → addC G q a w j = G j := by
  unfold addC
  refine ⟨fup_s _ _ _, ?_, ?_, ?_, fun j h1 h2 h3 h4 => ?_⟩
  · rw [fup_n _ _ (by omega), fup_n _ _ (by omega), fup_n _ _ (by omega), fup_s]
  · rw [fup_n _ _ (by omega), fup_n _ _ (by omega), fup_s]
  · rw [fup_n _ _ (by omega), fup_s]
  · rw [fup_n _ _ h1, fup_n _ _ h4, fup_n _ _ h3, fup_n _ _ h2]
theorem addD_PG {G : Fn} (h : PG G) {v : Nat} (h2 : G 2 < 6) (hv : 1 ≤ v ∧ v ≤ 20) : PG (addD G v) := by
  obtain ⟨⟨a0, a1, a2, a3, a4, a5, a6, a7, a8⟩, b1, b2, b3⟩ := h
  obtain ⟨e2, ev, en⟩ := addD_at G v
  refine ⟨⟨fun j hj => ?_, ?_, ?_, ?_, ?_, fun d hd => ?_, fun d h1 h2' => ?_, fun c hc => ?_, fun c h1 h2' => ?_⟩, ?_, fun j h1 h2' => ?_, fun j h1 h2' => ?_⟩
  · by_cases z : j = 2
    · subst z; rw [e2]; omega
    · by_cases y : j = 5 + G 2
      · subst y; rw [ev]; omega
      · rw [en j z y]; exact a0 j hj
  · rw [en 0 (by omega) (by omega)]; exact a1
  · rw [en 1 (by omega) (by omega)]; exact a2
  · rw [e2]; omega
  · rw [en 3 (by omega) (by omega)]; exact a4
  · rw [e2] at hd
    rw [en (11 + d) (by omega) (by omega), en (17 + d) (by omega) (by omega), en (23 + d) (by omega) (by omega), b2 _ (by omega) (by omega), b2 _ (by omega) (by omega), b2 _ (by omega) (by omega)]
    refine ⟨?_, by decide, by decide, by decide⟩
    by_cases y : d = G 2
    · subst y; rw [ev]; exact hv
    · rw [en (5 + d) (by omega) (by omega)]; exact (a5 d (by omega)).1
  · rw [en (11 + d) (by omega) (by omega), en (17 + d) (by omega) (by omega), en (23 + d) (by omega) (by omega), b2 _ (by omega) (by omega), b2 _ (by omega) (by omega), b2 _ (by omega) (by omega)]
    exact ⟨rfl, rfl, rfl⟩
  · rw [en 3 (by omega) (by omega)] at hc
    rw [en (29 + c) (by omega) (by omega), en (35 + c) (by omega) (by omega), en (41 + c) (by omega) (by omega), en (47 + c) (by omega) (by omega), e2, en 4 (by omega) (by omega)]
    have := a7 c hc
    exact ⟨this.1, this.2.1, by omega, this.2.2.2⟩
  · rw [en 3 (by omega) (by omega)] at h2'
    rw [en (47 + c) (by omega) (by omega)]; exact a8 c h1 h2'
  · rw [en 4 (by omega) (by omega)]; exact b1
  · rw [en j (by omega) (by omega)]; exact b2 j h1 h2'
  · rw [en j (by omega) (by omega)]; exact b3 j h1 h2'
theorem addC_PG {G : Fn} (h : PG G) {q a w : Nat} (h3 : G 3 < 6) (hq : 1 ≤ q ∧ q ≤ 5) (ha : a < G 2) (hw : w ≤ 20) : PG (addC G q a w) := by
  obtain ⟨⟨a0, a1, a2, a3, a4, a5, a6, a7, a8⟩, b1, b2, b3⟩ := h
  obtain ⟨e3, eq, ea, ew, en⟩ := addC_at G q a w h3
  have ez : ∀ j, j < 29 → j ≠ 3 → addC G q a w j = G j := fun j h1 h2 => en j h2 (by omega) (by omega) (by omega)
  have ex : ∀ j, 47 ≤ j → addC G q a w j = G j := fun j h1 => en j (by omega) (by omega) (by omega) (by omega)
  refine ⟨⟨fun j hj => ?_, ?_, ?_, ?_, ?_, fun d hd => ?_, fun d h1 h2' => ?_, fun c hc => ?_, fun c h1 h2' => ?_⟩, ?_, fun j h1 h2' => ?_, fun j h1 h2' => ?_⟩
  · by_cases z : j = 3
    · subst z; rw [e3]; omega
    · by_cases y : j = 29 + G 3
      · subst y; rw [eq]; omega
      · by_cases x : j = 41 + G 3
        · subst x; rw [ea]; omega
        · by_cases x' : j = 35 + G 3
          · subst x'; rw [ew]; omega
          · rw [en j z y x x']; exact a0 j hj
  · rw [ez 0 (by omega) (by omega)]; exact a1
  · rw [ez 1 (by omega) (by omega)]; exact a2
  · rw [ez 2 (by omega) (by omega)]; exact a3
  · rw [e3]; omega
  · rw [ez 2 (by omega) (by omega)] at hd
    rw [ez (5 + d) (by omega) (by omega), ez (11 + d) (by omega) (by omega), ez (17 + d) (by omega) (by omega), ez (23 + d) (by omega) (by omega)]
    exact a5 d hd
  · rw [ez 2 (by omega) (by omega)] at h2'
    rw [ez (11 + d) (by omega) (by omega), ez (17 + d) (by omega) (by omega), ez (23 + d) (by omega) (by omega)]
    exact a6 d h1 h2'
  · rw [e3] at hc
    rw [ex (47 + c) (by omega), b3 (47 + c) (by omega) (by omega), ez 2 (by omega) (by omega)]
    by_cases y : c = G 3
    · subst y; rw [eq, ea, ew]; exact ⟨hq, hw, ha, Nat.zero_le _⟩
    · rw [en (29 + c) (by omega) (by omega) (by omega) (by omega), en (35 + c) (by omega) (by omega) (by omega) (by omega), en (41 + c) (by omega) (by omega) (by omega) (by omega)]
      have := a7 c (by omega)
      exact ⟨this.1, this.2.1, this.2.2.1, Nat.zero_le _⟩
  · rw [ex (47 + c) (by omega)]; exact b3 _ (by omega) (by omega)
  · rw [ez 4 (by omega) (by omega)]; exact b1
  · rw [ez j (by omega) (by omega)]; exact b2 j h1 h2'
  · rw [ex j (by omega)]; exact b3 j h1 h2'
section READC2
variable {σ0 σ : St} {T : Nat → Nat} {L p : Nat} {G : Fn}
theorem c_begin {a b : Nat} {k : St → Prop} (hI : RdI σ0 L p σ) (h : ∀ σ', RdI σ0 L p σ' → StC 28 σ' (beg a b) → k σ') : x5_begin 28 (nI a) (nI b) σ k := by
  unfold x5_begin lt
  have n55 : ∀ i, i ≠ 28 → st_up (st_up (st_up (st_up (st_up σ 28 8 0) 28 9 0) 28 10 (nI a)) 28 11 (nI b)) 28 12 0 i = σ i := fun i hi => by
    rw [st_up_ne _ _ _ hi, st_up_ne _ _ _ hi, st_up_ne _ _ _ hi, st_up_ne _ _ _ hi, st_up_ne _ _ _ hi]
  refine h _ ⟨by rw [n55 55 (by decide)]; exact hI.1, by rw [n55 55 (by decide)]; exact hI.2.1, fun i h1 h2 => by rw [n55 i (by omega)]; exact hI.2.2 i h1 h2⟩ ⟨?_, ?_, ?_, ?_, ?_, fun d hd => ?_, fun c hc => ?_⟩
  · rw [up_n _ _ (Or.inr (by decide)), up_n _ _ (Or.inr (by decide)), up_n _ _ (Or.inr (by decide)), up_n _ _ (Or.inr (by decide)), up_s]; rfl
  · rw [up_n _ _ (Or.inr (by decide)), up_n _ _ (Or.inr (by decide)), up_n _ _ (Or.inr (by decide)), up_s]; rfl
  · rw [up_n _ _ (Or.inr (by decide)), up_n _ _ (Or.inr (by decide)), up_s]; rfl
  · rw [up_n _ _ (Or.inr (by decide)), up_s]; rfl
  · rw [up_s]; rfl
  · rw [beg_0 a b (by decide)] at hd; exact absurd hd (Nat.not_lt_zero _)
  · rw [beg_0 a b (by decide)] at hc; exact absurd hc (Nat.not_lt_zero _)
theorem c_addD {v : Nat} {k : St → Prop} (hI : RdI σ0 L p σ) (hS : StC 28 σ G) (hG : PG G) (h2 : G 2 < 6) (h : ∀ σ', RdI σ0 L p σ' → StC 28 σ' (addD G v) → k σ') : x5_addDoor 28 (nI v) σ k := by
  obtain ⟨s1, s2, s3, s4, s5, s6, s7⟩ := hS
  obtain ⟨e2, ev, en⟩ := addD_at G v
  have h63 := hG.1.2.2.2.2.1
  unfold x5_addDoor lt
  dsimp only
  rw [s1, nI_clamp (by omega), up_n (i := 28 + 1) (a := 28) _ _ (Or.inl (by decide)), s1, show nI (G 2) + 1 = nI (G 2 + 1) from nI_1 _]
  refine ⟨(vpI (by omega)).mpr (by show _ < 6; omega), ?_⟩
  rw [up_s, show nI (G 2 + 1) - 1 = nI (G 2) by rw [show (1 : Int32) = nI 1 from rfl, pk_sub (by omega)]; rfl]
  unfold x5_clearDoor x5_clearDoor_29
  refine s5_hasDoor_t (n := G 2 + 1) (by rw [up_s]) (by omega) (by omega) ?_
  show if _ then _ else _
  rw [if_neg (by decide), nI_clamp (by omega)]
  unfold lt
  have v6 : vp_in (nI (G 2)) 6 := (vpI (by omega)).mpr h2
  refine ⟨v6, v6, v6, ?_⟩
  have fr : ∀ i, (i < 28 ∨ 36 < i) → st_up (st_up (st_up (st_up (st_up σ (28 + 1) (G 2) (nI v)) 28 8 (nI (G 2 + 1))) (28 + 2) (G 2) 0) (28 + 3) (G 2) 0) (28 + 4) (G 2) 0 i = σ i := fun i hi => by
    rw [st_up_ne _ _ _ (by omega), st_up_ne _ _ _ (by omega), st_up_ne _ _ _ (by omega), st_up_ne _ _ _ (by omega), st_up_ne _ _ _ (by omega)]
  have f28 : ∀ j, j ≠ 8 → st_up (st_up (st_up (st_up (st_up σ (28 + 1) (G 2) (nI v)) 28 8 (nI (G 2 + 1))) (28 + 2) (G 2) 0) (28 + 3) (G 2) 0) (28 + 4) (G 2) 0 28 j = σ 28 j := fun j hj => by
    rw [st_up_ne _ _ _ (by decide), st_up_ne _ _ _ (by decide), st_up_ne _ _ _ (by decide), up_n _ _ (Or.inr hj), st_up_ne _ _ _ (by decide)]
  have f5 : ∀ i, 33 ≤ i → st_up (st_up (st_up (st_up (st_up σ (28 + 1) (G 2) (nI v)) 28 8 (nI (G 2 + 1))) (28 + 2) (G 2) 0) (28 + 3) (G 2) 0) (28 + 4) (G 2) 0 i = σ i := fun i hi => by
    rw [st_up_ne _ _ _ (by omega), st_up_ne _ _ _ (by omega), st_up_ne _ _ _ (by omega), st_up_ne _ _ _ (by omega), st_up_ne _ _ _ (by omega)]
  refine h _ ⟨by rw [fr 55 (by decide)]; exact hI.1, by rw [fr 55 (by decide)]; exact hI.2.1, fun i h1 h2 => by rw [fr i h2]; exact hI.2.2 i h1 h2⟩ ⟨?_, ?_, ?_, ?_, ?_, fun d hd => ?_, fun c hc => ?_⟩
  · rw [st_up_ne _ _ _ (by decide), st_up_ne _ _ _ (by decide), st_up_ne _ _ _ (by decide), up_s, e2]
  · rw [f28 9 (by decide), en 3 (by omega) (by omega)]; exact s2
  · rw [f28 10 (by decide), en 0 (by omega) (by omega)]; exact s3
  · rw [f28 11 (by decide), en 1 (by omega) (by omega)]; exact s4
  · rw [f28 12 (by decide), en 4 (by omega) (by omega)]; exact s5
  · rw [e2] at hd
    rw [en (11 + d) (by omega) (by omega), en (17 + d) (by omega) (by omega), en (23 + d) (by omega) (by omega)]
    by_cases y : d = G 2
    · subst y
      rw [ev, hG.2.2.1 (11 + G 2) (by omega) (by omega), hG.2.2.1 (17 + G 2) (by omega) (by omega), hG.2.2.1 (23 + G 2) (by omega) (by omega)]
      refine ⟨?_, ?_, ?_, ?_⟩
      · rw [st_up_ne _ _ _ (by decide), st_up_ne _ _ _ (by decide), st_up_ne _ _ _ (by decide), st_up_ne _ _ _ (by decide), up_s]
      · rw [st_up_ne _ _ _ (by decide), st_up_ne _ _ _ (by decide), up_s]; rfl
      · rw [st_up_ne _ _ _ (by decide), up_s]; rfl
      · rw [up_s]; rfl
    · rw [en (5 + d) (by omega) (by omega)]
      have := s6 d (by omega)
      refine ⟨?_, ?_, ?_, ?_⟩
      · rw [st_up_ne _ _ _ (by decide), st_up_ne _ _ _ (by decide), st_up_ne _ _ _ (by decide), st_up_ne _ _ _ (by decide), up_n _ _ (Or.inr y)]; exact this.1
      · rw [st_up_ne _ _ _ (by decide), st_up_ne _ _ _ (by decide), up_n _ _ (Or.inr y), st_up_ne _ _ _ (by decide), st_up_ne _ _ _ (by decide)]; exact this.2.1
      · rw [st_up_ne _ _ _ (by decide), up_n _ _ (Or.inr y), st_up_ne _ _ _ (by decide), st_up_ne _ _ _ (by decide), st_up_ne _ _ _ (by decide)]; exact this.2.2.1
      · rw [up_n _ _ (Or.inr y), st_up_ne _ _ _ (by decide), st_up_ne _ _ _ (by decide), st_up_ne _ _ _ (by decide), st_up_ne _ _ _ (by decide)]; exact this.2.2.2
  · rw [en 3 (by omega) (by omega)] at hc
    rw [en (29 + c) (by omega) (by omega), en (41 + c) (by omega) (by omega), en (35 + c) (by omega) (by omega), en (47 + c) (by omega) (by omega), f5 (28 + 5) (by decide), f5 (28 + 6) (by decide), f5 (28 + 7) (by decide), f5 (28 + 8) (by decide)]
    exact s7 c hc
theorem c_addC {q a w : Nat} {k : St → Prop} (hI : RdI σ0 L p σ) (hS : StC 28 σ G) (hG : PG G) (h3 : G 3 < 6) (h : ∀ σ', RdI σ0 L p σ' → StC 28 σ' (addC G q a w) → k σ') : x5_addCaller 28 (nI q) (nI a) (nI w) σ k := by
  obtain ⟨s1, s2, s3, s4, s5, s6, s7⟩ := hS
  obtain ⟨e3, eq, ea, ew, en⟩ := addC_at G q a w h3
  have h62 := hG.1.2.2.2.1
  have ez : ∀ j, j < 29 → j ≠ 3 → addC G q a w j = G j := fun j h1 h2 => en j h2 (by omega) (by omega) (by omega)
  unfold x5_addCaller lt
  dsimp only
  rw [s2, nI_clamp (by omega)]
  simp (disch := decide) only [up_n (i := 28 + 5) (a := 28) _ _ (Or.inl (by decide)), up_n (i := 28 + 6) (a := 28) _ _ (Or.inl (by decide)), up_n (i := 28 + 7) (a := 28) _ _ (Or.inl (by decide)), up_n (i := 28 + 8) (a := 28) _ _ (Or.inl (by decide)), s2]
  rw [nI_clamp (by omega), show nI (G 3) + 1 = nI (G 3 + 1) from nI_1 _]
  have v6 : vp_in (nI (G 3)) 6 := (vpI (by omega)).mpr h3
  refine ⟨v6, v6, v6, v6, ?_⟩
  have fr : ∀ i, (i < 28 ∨ 36 < i) → st_up (st_up (st_up (st_up (st_up σ (28 + 5) (G 3) (nI q)) (28 + 6) (G 3) (nI a)) (28 + 7) (G 3) (nI w)) (28 + 8) (G 3) 0) 28 9 (nI (G 3 + 1)) i = σ i := fun i hi => by
    rw [st_up_ne _ _ _ (by omega), st_up_ne _ _ _ (by omega), st_up_ne _ _ _ (by omega), st_up_ne _ _ _ (by omega), st_up_ne _ _ _ (by omega)]
  have f28 : ∀ j, j ≠ 9 → st_up (st_up (st_up (st_up (st_up σ (28 + 5) (G 3) (nI q)) (28 + 6) (G 3) (nI a)) (28 + 7) (G 3) (nI w)) (28 + 8) (G 3) 0) 28 9 (nI (G 3 + 1)) 28 j = σ 28 j := fun j hj => by
    rw [up_n _ _ (Or.inr hj), st_up_ne _ _ _ (by decide), st_up_ne _ _ _ (by decide), st_up_ne _ _ _ (by decide), st_up_ne _ _ _ (by decide)]
  have f5 : ∀ i, 29 ≤ i → i ≤ 32 → st_up (st_up (st_up (st_up (st_up σ (28 + 5) (G 3) (nI q)) (28 + 6) (G 3) (nI a)) (28 + 7) (G 3) (nI w)) (28 + 8) (G 3) 0) 28 9 (nI (G 3 + 1)) i = σ i := fun i h1 h2 => by
    rw [st_up_ne _ _ _ (by omega), st_up_ne _ _ _ (by omega), st_up_ne _ _ _ (by omega), st_up_ne _ _ _ (by omega), st_up_ne _ _ _ (by omega)]
  refine h _ ⟨by rw [fr 55 (by decide)]; exact hI.1, by rw [fr 55 (by decide)]; exact hI.2.1, fun i h1 h2 => by rw [fr i h2]; exact hI.2.2 i h1 h2⟩ ⟨?_, ?_, ?_, ?_, ?_, fun d hd => ?_, fun c hc => ?_⟩
  · rw [f28 8 (by decide), ez 2 (by decide) (by decide)]; exact s1
  · rw [up_s, e3]
  · rw [f28 10 (by decide), ez 0 (by decide) (by decide)]; exact s3
  · rw [f28 11 (by decide), ez 1 (by decide) (by decide)]; exact s4
  · rw [f28 12 (by decide), ez 4 (by decide) (by decide)]; exact s5
  · rw [ez 2 (by decide) (by decide)] at hd
    rw [ez (5 + d) (by omega) (by omega), ez (11 + d) (by omega) (by omega), ez (17 + d) (by omega) (by omega), ez (23 + d) (by omega) (by omega), f5 (28 + 1) (by decide) (by decide), f5 (28 + 2) (by decide) (by decide), f5 (28 + 3) (by decide) (by decide), f5 (28 + 4) (by decide) (by decide)]
    exact s6 d hd
  · rw [e3] at hc
    rw [en (47 + c) (by omega) (by omega) (by omega) (by omega)]
    by_cases y : c = G 3
    · subst y
      rw [eq, ea, ew, hG.2.2.2 (47 + G 3) (by omega) (by omega)]
      refine ⟨?_, ?_, ?_, ?_⟩
      · rw [st_up_ne _ _ _ (by decide), st_up_ne _ _ _ (by decide), st_up_ne _ _ _ (by decide), st_up_ne _ _ _ (by decide), up_s]
      · rw [st_up_ne _ _ _ (by decide), st_up_ne _ _ _ (by decide), st_up_ne _ _ _ (by decide), up_s]
      · rw [st_up_ne _ _ _ (by decide), st_up_ne _ _ _ (by decide), up_s]
      · rw [st_up_ne _ _ _ (by decide), up_s]; rfl
    · rw [en (29 + c) (by omega) (by omega) (by omega) (by omega), en (35 + c) (by omega) (by omega) (by omega) (by omega), en (41 + c) (by omega) (by omega) (by omega) (by omega)]
      have := s7 c (by omega)
      refine ⟨?_, ?_, ?_, ?_⟩
      · rw [st_up_ne _ _ _ (by decide), st_up_ne _ _ _ (by decide), st_up_ne _ _ _ (by decide), st_up_ne _ _ _ (by decide), up_n _ _ (Or.inr y)]; exact this.1
      · rw [st_up_ne _ _ _ (by decide), st_up_ne _ _ _ (by decide), st_up_ne _ _ _ (by decide), up_n _ _ (Or.inr y), st_up_ne _ _ _ (by decide)]; exact this.2.1
      · rw [st_up_ne _ _ _ (by decide), st_up_ne _ _ _ (by decide), up_n _ _ (Or.inr y), st_up_ne _ _ _ (by decide), st_up_ne _ _ _ (by decide)]; exact this.2.2.1
      · rw [st_up_ne _ _ _ (by decide), up_n _ _ (Or.inr y), st_up_ne _ _ _ (by decide), st_up_ne _ _ _ (by decide), st_up_ne _ _ _ (by decide)]; exact this.2.2.2
theorem RdI.same {σ' : St} (h : RdI σ0 L p σ) : RdI σ0 L p σ := h
theorem StC.k55 {σ' : St} (h : StC 28 σ G) (e : ∀ i, i ≠ 55 → σ' i = σ i) : StC 28 σ' G := h.cells (fun i h1 h2 => e i (by omega))
theorem c_law {k : Int32 → St → Prop} (hT : ∀ i, i < L → σ0 56 i = nI (T i) ∧ T i ≤ 255) (hL : L ≤ 100) (hp : p ≤ L) (hI : RdI σ0 L p σ) {ok : Nat → Nat → Nat → Res} {KR : Res → Prop} (hK : KR (lawP T L p ok)) (h1 : ∀ p' a b, p < p' → p' ≤ L → a ≤ 60 → b ≤ 12 → KR (ok p' a b) → ∀ σ', RdI σ0 L p' σ' → StC 28 σ' (beg a b) → k 1 σ') (h0 : ∀ q e, KR (.inl (q, e)) → ∀ σ', RdF σ0 q e σ' → k 0 σ') : x3_readLaw 28 σ k := by
  have z : ¬ (-1 : Int32) = 0 := by decide
  unfold x3_readLaw x3_readLaw_32 x3_readLaw_55
  unfold lawP at hK
  refine c_sign hT hL hp (by decide) hI hK (fun p1 _ hK1 σ1 i1 _ => ?_) (fun q e hq σ' f => ?_)
  · show if _ then _ else _
    rw [if_neg (by decide)]
    refine c_num (lo := 0) (hi := 60) hT hL (by omega) (by decide) (by decide) i1 hK1 (fun p2 a g1 g2 _ ha hK2 σ2 i2 _ => ?_) (fun q e hq σ' f => ?_)
    · show if _ then _ else _
      rw [if_neg (nI_pos (by omega))]
      refine c_sign hT hL (by omega) (by decide) i2 hK2 (fun p3 _ hK3 σ3 i3 _ => ?_) (fun q e hq σ' f => ?_)
      · show if _ then _ else _
        rw [if_neg (by decide)]
        refine c_num (lo := 0) (hi := 12) hT hL (by omega) (by decide) (by decide) i3 hK3 (fun p4 b g3 g4 _ hb hK4 σ4 i4 _ => ?_) (fun q e hq σ' f => ?_)
        · show if _ then _ else _
          rw [if_neg (nI_pos (by omega))]
          refine c_sign hT hL (by omega) (by decide) i4 hK4 (fun p5 _ hK5 σ5 i5 _ => ?_) (fun q e hq σ' f => ?_)
          · show if _ then _ else _
            rw [if_neg (by decide)]
            refine c_begin i5 (fun σ6 i6 s6 => ?_)
            exact ⟨Or.inr rfl, h1 _ a b (by omega) (by omega) ha hb hK5 σ6 i6 s6⟩
          · show if _ then _ else _
            rw [if_pos rfl]; exact ⟨Or.inl rfl, h0 q e hq σ' f⟩
        · show if _ then _ else _
          rw [if_pos (by decide)]; exact ⟨Or.inl rfl, h0 q e hq σ' f⟩
      · show if _ then _ else _
        rw [if_pos rfl]; exact ⟨Or.inl rfl, h0 q e hq σ' f⟩
    · show if _ then _ else _
      rw [if_pos (by decide)]; exact ⟨Or.inl rfl, h0 q e hq σ' f⟩
  · show if _ then _ else _
    rw [if_pos rfl]; exact ⟨Or.inl rfl, h0 q e hq σ' f⟩
theorem c_door {k : Int32 → St → Prop} (hT : ∀ i, i < L → σ0 56 i = nI (T i) ∧ T i ≤ 255) (hL : L ≤ 100) (hp : p ≤ L) (hI : RdI σ0 L p σ) (hS : StC 28 σ G) (hG : PG G) {ok : Nat → Fn → Res} {KR : Res → Prop} (hK : KR (doorP T L p G ok)) (h1 : ∀ p' v, p < p' → p' ≤ L → G 2 < 6 → 1 ≤ v → v ≤ 20 → KR (ok p' (addD G v)) → ∀ σ', RdI σ0 L p' σ' → StC 28 σ' (addD G v) → k 1 σ') (h0 : ∀ q e, KR (.inl (q, e)) → ∀ σ', RdF σ0 q e σ' → k 0 σ') : x3_readDoor 28 σ k := by
  have h62 := hG.1.2.2.2.1
  unfold x3_readDoor
  unfold doorP at hK
  have go : G 2 < 6 → KR (sgP T L 100 p fun p1 => nmP T L 1 20 p1 fun p2 v => sgP T L 59 p2 fun p3 => ok p3 (addD G v)) → x3_readDoor_24 28 σ k := by
    intro h2 hK
    unfold x3_readDoor_24 x3_readDoor_56
    refine c_sign hT hL hp (by decide) hI hK (fun p1 _ hK1 σ1 i1 n1 => ?_) (fun q e hq σ' f => ?_)
    · show if _ then _ else _
      rw [if_neg (by decide)]
      refine c_num (lo := 1) (hi := 20) hT hL (by omega) (by decide) (by decide) i1 hK1 (fun p2 v g1 g2 hv1 hv2 hK2 σ2 i2 n2 => ?_) (fun q e hq σ' f => ?_)
      · show if _ then _ else _
        rw [if_neg (nI_pos (by omega))]
        refine c_sign hT hL (by omega) (by decide) i2 hK2 (fun p3 _ hK3 σ3 i3 n3 => ?_) (fun q e hq σ' f => ?_)
        · show if _ then _ else _
          rw [if_neg (by decide)]
          refine c_addD i3 (((hS.k55 n1).k55 n2).k55 n3) hG h2 (fun σ4 i4 s4 => ?_)
          exact ⟨Or.inr rfl, h1 _ v (by omega) (by omega) h2 hv1 hv2 hK3 σ4 i4 s4⟩
        · show if _ then _ else _
          rw [if_pos rfl]; exact ⟨Or.inl rfl, h0 q e hq σ' f⟩
      · show if _ then _ else _
        rw [if_pos (by decide)]; exact ⟨Or.inl rfl, h0 q e hq σ' f⟩
    · show if _ then _ else _
      rw [if_pos rfl]; exact ⟨Or.inl rfl, h0 q e hq σ' f⟩
  have no : ¬ (p < L ∧ T p = 100) → KR (.inl (p, 1)) → x3_readDoor_24 28 σ k := by
    intro nq hK
    unfold x3_readDoor_24
    refine c_sign (c := 100) (KR := KR) (ok := fun _ => .inl (p, 1)) hT hL hp (by decide) hI (by unfold sgP; rw [if_neg nq]; exact hK) (fun a b => absurd ⟨a, b⟩ nq) (fun q e hq σ' f => ?_)
    show if _ then _ else _
    rw [if_pos rfl]; exact ⟨Or.inl rfl, h0 q e hq σ' f⟩
  refine c_next (c := 100) hT hL hp (by decide) hI (fun q => ?_) (fun q => ?_)
  · show if _ then _ else _
    rw [if_neg (by decide), hS.1]
    by_cases z : G 2 = 6
    · rw [if_pos ⟨q.1, q.2, z⟩] at hK
      rw [z, if_neg (by decide)]
      refine c_fail (e := 3) hI (fun σ' f => ?_)
      exact ⟨Or.inl rfl, h0 _ _ hK σ' f⟩
    · rw [if_neg (fun y => z y.2.2)] at hK
      rw [if_pos (by rw [show (6 : Int32) = nI 6 from rfl, nI_ltI (by omega) (by decide)]; omega)]
      exact go (by omega) hK
  · show if _ then _ else _
    rw [if_pos rfl]
    rw [if_neg (fun y => q ⟨y.1, y.2.1⟩)] at hK
    unfold sgP at hK
    rw [if_neg q] at hK
    exact no q hK
theorem c_sort {v : Nat} {k : Int32 → St → Prop} (hv : v ≤ 255) (h : k (nI (srt v)) σ) : x3_kindOfSort (nI v) σ k := by
  unfold x3_kindOfSort
  unfold srt at h
  have c : ∀ n : Nat, n < 256 → (nI v = nI n ↔ v = n) := fun n hn => nI_eq (by omega) (by omega)
  have c1 : nI v = 98 ↔ v = 98 := c 98 (by decide)
  have c2 : nI v = 107 ↔ v = 107 := c 107 (by decide)
  have c3 : nI v = 108 ↔ v = 108 := c 108 (by decide)
  have c4 : nI v = 112 ↔ v = 112 := c 112 (by decide)
  have c5 : nI v = 117 ↔ v = 117 := c 117 (by decide)
  by_cases a1 : v = 98
  · rw [if_pos a1] at h; rw [if_pos (c1.mpr a1)]; exact h
  · rw [if_neg a1] at h; rw [if_neg (fun q => a1 (c1.mp q))]
    by_cases a2 : v = 107
    · rw [if_pos a2] at h; rw [if_pos (c2.mpr a2)]; exact h
    · rw [if_neg a2] at h; rw [if_neg (fun q => a2 (c2.mp q))]
      by_cases a3 : v = 108
      · rw [if_pos a3] at h; rw [if_pos (c3.mpr a3)]; exact h
      · rw [if_neg a3] at h; rw [if_neg (fun q => a3 (c3.mp q))]
        by_cases a4 : v = 112
        · rw [if_pos a4] at h; rw [if_pos (c4.mpr a4)]; exact h
        · rw [if_neg a4] at h; rw [if_neg (fun q => a4 (c4.mp q))]
          by_cases a5 : v = 117
          · rw [if_pos a5] at h; rw [if_pos (c5.mpr a5)]; exact h
          · rw [if_neg a5] at h; rw [if_neg (fun q => a5 (c5.mp q))]; exact h
theorem srt_le (v : Nat) : srt v ≤ 5 := by unfold srt; repeat' split
                                           all_goals omega
theorem c_call {k : Int32 → St → Prop} (hT : ∀ i, i < L → σ0 56 i = nI (T i) ∧ T i ≤ 255) (hL : L ≤ 100) (hp : p < L) (hI : RdI σ0 L p σ) (hS : StC 28 σ G) (hG : PG G) (hg2 : 0 < G 2) {ok : Nat → Fn → Res} {KR : Res → Prop} (hK : KR (callP T L p G ok)) (h1 : ∀ p' a w, p < p' → p' ≤ L → G 3 < 6 → 1 ≤ srt (T p) → a < G 2 → w ≤ 20 → KR (ok p' (addC G (srt (T p)) a w)) → ∀ σ', RdI σ0 L p' σ' → StC 28 σ' (addC G (srt (T p)) a w) → k 1 σ') (h0 : ∀ q e, KR (.inl (q, e)) → ∀ σ', RdF σ0 q e σ' → k 0 σ') : x3_readCaller 28 σ k := by
  have h63 := hG.1.2.2.2.2.1
  have h62 := hG.1.2.2.2.1
  unfold x3_readCaller
  unfold callP at hK
  rw [hI.1, hI.2.1, if_neg (nI_ge (by omega) (by omega)), nI_clamp (by omega), c_tape hT hI hp]
  refine ⟨(vpI (by omega)).mpr (by show _ < 100; omega), c_sort (hT p hp).2 ?_⟩
  unfold x3_readCaller_27
  have hs5 := srt_le (T p)
  by_cases z : srt (T p) = 0
  · rw [if_pos z] at hK
    rw [z, if_pos (by decide)]
    refine c_fail (e := 1) hI (fun σ' f => ?_)
    exact ⟨Or.inl rfl, h0 _ _ hK σ' f⟩
  · rw [if_neg z] at hK
    rw [if_neg (by rw [show (0 : Int32) = nI 0 from rfl, nI_eq (by omega) (by decide)]; exact z), hS.2.1]
    by_cases y : G 3 = 6
    · rw [if_pos y] at hK
      rw [y, if_neg (by decide)]
      refine c_fail (e := 3) hI (fun σ' f => ?_)
      exact ⟨Or.inl rfl, h0 _ _ hK σ' f⟩
    · rw [if_neg y] at hK
      rw [if_pos (by rw [show (6 : Int32) = nI 6 from rfl, nI_ltI (by omega) (by decide)]; omega), hI.2.1, show nI p + 1 = nI (p + 1) from nI_1 p]
      unfold lt x3_readCaller_88 x3_readCaller_113
      have i1 : RdI σ0 L (p + 1) (st_up σ 55 2 (nI (p + 1))) := hI.at rfl
      have n1 : ∀ i, i ≠ 55 → st_up σ 55 2 (nI (p + 1)) i = σ i := fun i hi => st_up_ne _ _ _ hi
      dsimp only
      rw [n1 28 (by decide), hS.1, show nI (G 2) - 1 = nI (G 2 - 1) by rw [show (1 : Int32) = nI 1 from rfl, pk_sub (by omega)]]
      refine c_num (lo := 0) (hi := G 2 - 1) hT hL (by omega) (by decide) (by omega) i1 hK (fun p2 a g1 g2 _ ha hK2 σ2 i2 n2 => ?_) (fun q e hq σ' f => ?_)
      · show if _ then _ else _
        rw [if_neg (nI_pos (by omega))]
        refine c_sign hT hL (by omega) (by decide) i2 hK2 (fun p3 _ hK3 σ3 i3 n3 => ?_) (fun q e hq σ' f => ?_)
        · show if _ then _ else _
          rw [if_neg (by decide)]
          refine c_num (lo := 0) (hi := 20) hT hL (by omega) (by decide) (by decide) i3 hK3 (fun p4 w g3 g4 _ hw hK4 σ4 i4 n4 => ?_) (fun q e hq σ' f => ?_)
          · show if _ then _ else _
            rw [if_neg (nI_pos (by omega))]
            refine c_sign hT hL (by omega) (by decide) i4 hK4 (fun p5 _ hK5 σ5 i5 n5 => ?_) (fun q e hq σ' f => ?_)
            · show if _ then _ else _
              rw [if_neg (by decide)]
              refine c_addC i5 (((((hS.k55 n1).k55 n2).k55 n3).k55 n4).k55 n5) hG (by omega) (fun σ6 i6 s6 => ?_)
              exact ⟨Or.inr rfl, h1 _ a w (by omega) (by omega) (by omega) (by omega) (by omega) hw hK5 σ6 i6 s6⟩
            · show if _ then _ else _
              rw [if_pos rfl]; exact ⟨Or.inl rfl, h0 q e hq σ' f⟩
          · show if _ then _ else _
            rw [if_pos (by decide)]; exact ⟨Or.inl rfl, h0 q e hq σ' f⟩
        · show if _ then _ else _
          rw [if_pos rfl]; exact ⟨Or.inl rfl, h0 q e hq σ' f⟩
      · show if _ then _ else _
        rw [if_pos (by decide)]; exact ⟨Or.inl rfl, h0 q e hq σ' f⟩
end READC2
theorem addD_23 {G : Fn} {v : Nat} : addD G v 2 = G 2 + 1 := (addD_at G v).1
theorem c_loop {σ0 : St} {T : Nat → Nat} {L : Nat} {k : Int32 → St → Prop} (hT : ∀ i, i < L → σ0 56 i = nI (T i) ∧ T i ≤ 255) (hL : L ≤ 100) {KR : Res → Prop} (h1 : ∀ G, PG G → 0 < G 2 → KR (.inr G) → ∀ σ' p, RdI σ0 L p σ' → StC 28 σ' G → k 1 σ') (h0 : ∀ q e, KR (.inl (q, e)) → ∀ σ', RdF σ0 q e σ' → k 0 σ') : ∀ n p t G σ, p ≤ L → L < p + n → t ≤ p → RdI σ0 L p σ → StC 28 σ G → PG G → 0 < G 2 → KR (loopP T L n p G) → x3_readInto_25 28 k n (nI t) σ := by
  intro n
  induction n with
  | zero => intro p t G σ g1 g2; omega
  | succ n ih =>
    intro p t G σ g1 g2 g3 hI hS hG hg2 hK
    unfold x3_readInto_25 x3_readInto_96
    unfold loopP at hK
    by_cases z : L ≤ p
    · rw [if_pos z] at hK
      by_cases y : 100 ≤ t
      · rw [if_pos (show (100 : Int32) ≤ nI t from nI_le y (by omega))]
        exact ⟨Or.inr rfl, h1 G hG hg2 hK σ p hI hS⟩
      · rw [if_neg (show ¬ (100 : Int32) ≤ nI t from nI_ge (show t < 100 by omega) (by decide)), hI.1, hI.2.1, if_pos (nI_le z (by omega))]
        exact ⟨Or.inr rfl, h1 G hG hg2 hK σ p hI hS⟩
    · rw [if_neg z] at hK
      rw [if_neg (show ¬ (100 : Int32) ≤ nI t from nI_ge (show t < 100 by omega) (by decide)), hI.1, hI.2.1, if_neg (nI_ge (by omega) (by omega)), hS.2.1]
      have h63 := hG.1.2.2.2.2.1
      have call : KR (callP T L p G (loopP T L n)) → x3_readInto_63 28 (x3_readInto_25 28 k n) (nI t) 0 σ k := by
        intro hK
        unfold x3_readInto_63 x3_readInto_81
        rw [if_pos rfl]
        refine c_call hT hL (by omega) hI hS hG hg2 hK (fun p' a w b1 b2 b3 b4 b5 b6 hK' σ' i' s' => ?_) (fun q e hq σ' f => ?_)
        · show if _ then _ else _
          rw [if_neg (by decide), show nI t + 1 = nI (t + 1) from nI_1 t]
          refine ih p' (t + 1) _ σ' b2 (by omega) (by omega) i' s' (addC_PG hG b3 ⟨b4, srt_le _⟩ b5 b6) ?_ hK'
          rw [(addC_at G _ a w b3).2.2.2.2 2 (by omega) (by omega) (by omega) (by omega)]; exact hg2
        · show if _ then _ else _
          rw [if_pos rfl]; exact ⟨Or.inl rfl, h0 q e hq σ' f⟩
      unfold x3_readInto_62
      by_cases y : G 3 = 0
      · rw [if_pos (by rw [y]; rfl)]
        refine c_next (c := 100) hT hL g1 (by decide) hI (fun q => ?_) (fun q => ?_)
        · rw [if_pos ⟨y, q.2⟩] at hK
          show if _ then _ else _
          rw [if_neg (by decide)]
          unfold x3_readInto_63 x3_readInto_81
          rw [if_neg (by decide)]
          refine c_door hT hL g1 hI hS hG hK (fun p' v b1 b2 b3 b4 b5 hK' σ' i' s' => ?_) (fun q e hq σ' f => ?_)
          · show if _ then _ else _
            rw [if_neg (by decide), show nI t + 1 = nI (t + 1) from nI_1 t]
            refine ih p' (t + 1) _ σ' b2 (by omega) (by omega) i' s' (addD_PG hG b3 ⟨b4, b5⟩) ?_ hK'
            rw [addD_23]; omega
          · show if _ then _ else _
            rw [if_pos rfl]; exact ⟨Or.inl rfl, h0 q e hq σ' f⟩
        · rw [if_neg (fun y => q ⟨by omega, y.2⟩)] at hK
          show if _ then _ else _
          rw [if_pos rfl]
          exact call hK
      · rw [if_neg (by rw [show (0 : Int32) = nI 0 from rfl, nI_eq (by omega) (by decide)]; exact y)]
        rw [if_neg (fun q => y q.1)] at hK
        exact call hK
theorem c_all {σ0 σ : St} {T : Nat → Nat} {L : Nat} {k : Int32 → St → Prop} (hT : ∀ i, i < L → σ0 56 i = nI (T i) ∧ T i ≤ 255) (hL : L ≤ 100) (hl : σ 55 1 = nI L) (hfr : ∀ i, i ≠ 55 → σ i = σ0 i) {KR : Res → Prop} (hK : KR (allP T L)) (h1 : ∀ G, PG G → 0 < G 2 → KR (.inr G) → ∀ σ' p, RdI σ0 L p σ' → StC 28 σ' G → k 1 σ') (h0 : ∀ q e, KR (.inl (q, e)) → ∀ σ', RdF σ0 q e σ' → k 0 σ') : x3_readInto 28 σ k := by
  unfold x3_readInto x3_readInto_21 lt
  have i0 : RdI σ0 L 0 (st_up σ 55 2 0) := ⟨by rw [up_n _ _ (Or.inr (by decide))]; exact hl, up_s _ _ _ _, fun i a b => by rw [st_up_ne _ _ _ a]; exact hfr i a⟩
  unfold allP at hK
  refine c_law hT hL (Nat.zero_le _) i0 hK (fun p' a b g1 g2 ha hb hK1 σ1 i1 s1 => ?_) (fun q e hq σ' f => ?_)
  · show if _ then _ else _
    rw [if_neg (by decide)]
    refine c_door hT hL g2 i1 s1 (beg_PG ha hb) hK1 (fun p2 v b1 b2 b3 b4 b5 hK2 σ2 i2 s2 => ?_) (fun q e hq σ' f => ?_)
    · show if _ then _ else _
      rw [if_neg (by decide)]
      exact ⟨101, c_loop hT hL h1 h0 101 p2 0 _ σ2 b2 (by omega) (Nat.zero_le _) i2 s2 (addD_PG (beg_PG ha hb) b3 ⟨b4, b5⟩) (by rw [addD_23]; omega) hK2⟩
    · show if _ then _ else _
      rw [if_pos rfl]; exact ⟨Or.inl rfl, h0 q e hq σ' f⟩
  · show if _ then _ else _
    rw [if_pos rfl]; exact ⟨Or.inl rfl, h0 q e hq σ' f⟩
