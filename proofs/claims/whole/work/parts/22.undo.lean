/-! UNDO -/
theorem back_mod {x D : Nat} (h : x < D) : ((x + 1) % D + (D - 1)) % D = x := by
  rcases Nat.lt_or_ge (x + 1) D with q | q
  · rw [Nat.mod_eq_of_lt q, show x + 1 + (D - 1) = x + D by omega, Nat.add_mod_right, Nat.mod_eq_of_lt h]
  · have : x + 1 = D := by omega
    rw [this, Nat.mod_self, Nat.zero_add, Nat.mod_eq_of_lt (by omega)]; omega
/-- c callers are put back -/
def bakP (S : Fn) (c : Nat) : Fn := fun j => if (41 ≤ j ∧ j < 41 + c) ∨ (47 ≤ j ∧ j < 47 + c) then S j else pas S j
theorem bakP_lo (S : Fn) (c : Nat) {j : Nat} (h : j < 41) : bakP S c j = pas S j := if_neg (by omega)
theorem bakP_at (S : Fn) {c i : Nat} (hc : c ≤ 6) (hi : i < 6) (h : c ≤ i) : bakP S c (41 + i) = pas S (41 + i) ∧ bakP S c (47 + i) = pas S (47 + i) := ⟨if_neg (by omega), if_neg (by omega)⟩
theorem bakP_st (S : Fn) {c : Nat} (hc : c < 6) (h41 : pas S (41 + c) = S (41 + c) ∨ pas S (47 + c) = S (47 + c)) (j : Nat) (hj : j < 53) : (pas S (41 + c) = S (41 + c) → fup (bakP S c) (47 + c) (S (47 + c)) j = bakP S (c + 1) j) ∧ (pas S (47 + c) = S (47 + c) → fup (bakP S c) (41 + c) (S (41 + c)) j = bakP S (c + 1) j) := by
  constructor
  · intro e
    by_cases z : j = 47 + c
    · subst z; rw [fup_s]; unfold bakP; rw [if_pos (by omega)]
    · rw [fup_n _ _ z]
      unfold bakP
      by_cases z2 : j = 41 + c
      · subst z2; rw [if_neg (by omega), if_pos (by omega)]; exact e
      · by_cases q : (41 ≤ j ∧ j < 41 + c) ∨ (47 ≤ j ∧ j < 47 + c)
        · rw [if_pos q, if_pos (by omega)]
        · rw [if_neg q, if_neg (by omega)]
  · intro e
    by_cases z : j = 41 + c
    · subst z; rw [fup_s]; unfold bakP; rw [if_pos (by omega)]
    · rw [fup_n _ _ z]
      unfold bakP
      by_cases z2 : j = 47 + c
      · subst z2; rw [if_neg (by omega), if_pos (by omega)]; exact e
      · by_cases q : (41 ≤ j ∧ j < 41 + c) ∨ (47 ≤ j ∧ j < 47 + c)
        · rw [if_pos q, if_pos (by omega)]
        · rw [if_neg q, if_neg (by omega)]
theorem bakP_end {S : Fn} (h3 : S 3 ≤ 6) (j : Nat) (hj : j < 53) : fup (bakP S (S 3)) 4 (S 4) j = S j := by
  by_cases z : j = 4
  · subst z; rw [fup_s]
  · rw [fup_n _ _ z]
    unfold bakP
    by_cases q : (41 ≤ j ∧ j < 41 + S 3) ∨ (47 ≤ j ∧ j < 47 + S 3)
    · rw [if_pos q]
    · rw [if_neg q]
      unfold pas
      rw [if_neg z, if_neg (fun w => q (Or.inl ⟨w.1, w.2.1⟩)), if_neg (fun w => q (Or.inr ⟨w.1, w.2.1⟩))]
theorem s5_takeBackDay {b : Nat} {σ : St} {S : Fn} {k : St → Prop} (hb : kd b = 5) (hF : WF S) (hS : StC b σ (pas S)) (h : ∀ σ', StC b σ' S → frS b σ σ' → k σ') : x5_takeBackDay b (nI (mts S)) σ k := by
  have h63 : S 3 ≤ 6 := hF.2.2.2.2.1
  have h62 : S 2 ≤ 6 := hF.2.2.2.1
  have hB : ∀ j, j < 53 → S j < 5001 := fun j hj => by have := hF.1 j hj; omega
  have p2 : pas S 2 = S 2 := pas_lo S (by decide) (by decide)
  have p3 : pas S 3 = S 3 := pas_lo S (by decide) (by decide)
  have key : ∀ n c τ, c ≤ S 3 → S 3 < c + n → StC b τ (bakP S c) → frS b σ τ → x5_takeBackDay_2 b (nI (mts S)) k n (nI c) τ := by
    intro n
    induction n with
    | zero => intro c τ h1 h2; omega
    | succ n ih =>
      intro c τ h1 h2 hS hfr
      have e2 : bakP S c 2 = S 2 := by rw [bakP_lo S c (by decide)]; exact p2
      have e3 : bakP S c 3 = S 3 := by rw [bakP_lo S c (by decide)]; exact p3
      have e4 : bakP S c 4 = S 4 + 1 := by rw [bakP_lo S c (by decide)]; exact pas_4 S
      have b4 := hB 4 (by decide)
      unfold x5_takeBackDay_2 x5_takeBackDay_49
      simp only [lt]
      rw [hS.2.1, hS.2.2.2.2.1, e3, e4, hS.1, e2]
      simp (disch := omega) only [lI, nI_add, nI_clamp, nI_leI]
      by_cases q : S 3 ≤ c
      · rw [if_pos q]
        have hc : c = S 3 := by omega
        subst hc
        rw [pk_sub (by omega), Nat.add_sub_cancel]
        refine h _ ?_ (hfr.up _ _ (by omega) (by omega))
        exact (hS.up_day (by omega) (by omega) (S 4)).congr (by rw [fup_n _ _ (by decide)]; omega) (by rw [fup_n _ _ (by decide)]; omega) (fun j hj => bakP_end h63 j hj)
      · rw [if_neg q]
        have hcl : c < S 3 := by omega
        have hat := bakP_at S (c := c) (i := c) (by omega) (by omega) (Nat.le_refl _)
        have ec := hS.2.2.2.2.2.2 c (by omega)
        have hw := hF.2.2.2.2.2.2.2.1 c hcl
        have b47 := hB (47 + c) (by omega)
        have hg : mts S / 2 ^ c % 2 = if mt S c then 1 else 0 := mskL_get (mt S) hcl
        rw [bitI (mts S) (mskL_64 _ h63) c (by omega), hg]
        have p41 := pas_41 S h63 hcl
        have p47 := pas_47 S h63 hcl
        cases hm : mt S c with
        | true =>
          rw [hm, if_pos rfl] at p41 p47
          rw [if_pos rfl, ec.2.2.2, hat.2, p47, pk_sub (by omega), Nat.add_sub_cancel]
          rw [n5_8 hb]
          refine ⟨(vpI (by omega)).mpr (by omega), (vpI (by omega)).mpr (by omega), ih (c + 1) _ (by omega) (by omega) ?_ (hfr.up _ _ (by omega) (by omega))⟩
          exact (hS.up_met (by omega) (by omega) (j := c) (by omega) (S (47 + c))).congr (by rw [fup_n _ _ (by omega)]; omega) (by rw [fup_n _ _ (by omega)]; omega) (fun j hj => (bakP_st S (by omega) (Or.inl p41) j hj).1 p41)
        | false =>
          rw [hm, if_neg (by decide)] at p41 p47
          rw [if_neg (by decide), pk_sub (by omega)]
          refine s5_placeAfter (n := S 2) (p := (S (41 + c) + 1) % S 2) hb (by rw [hS.1, e2]) (by omega) (by omega) (by rw [ec.2.1, hat.1, p41]) (by have := Nat.mod_lt (S (41 + c) + 1) (show 0 < S 2 by omega); omega) (by omega) ?_
          rw [back_mod hw.2.2.1]
          try dsimp only
          rw [n5_6 hb]
          refine ⟨(vpI (by omega)).mpr (by omega), ih (c + 1) _ (by omega) (by omega) ?_ (hfr.up _ _ (by omega) (by omega))⟩
          exact (hS.up_place (by omega) (by omega) (j := c) (by omega) (S (41 + c))).congr (by rw [fup_n _ _ (by omega)]; omega) (by rw [fup_n _ _ (by omega)]; omega) (fun j hj => (bakP_st S (by omega) (Or.inr p47) j hj).2 p47)
  unfold x5_takeBackDay
  refine ⟨8, key 8 0 σ (Nat.zero_le _) (by omega) ?_ frS.rf⟩
  exact hS.congr (by omega) (by omega) (fun j _ => (if_neg (by omega)).symm)
theorem sp7 : Sp7 Rel := by
  intro σ hR
  obtain ⟨F, ⟨hF, h4, hC, hM⟩, hI, n, nx, S, rc, hG, hS, hCh⟩ := hR.2.2.2.2.2
  obtain ⟨hn, hnx, g4, g3, g5⟩ := hG
  have h62 := hF.2.2.2.1
  have h63 := hF.2.2.2.2.1
  unfold x6_undo
  rw [g4]
  rcases Nat.eq_zero_or_pos n with h0 | h0
  · subst h0
    rw [if_pos (by decide)]
    show x7_undo _ _
    unfold x7_undo
    rw [hS.1, if_pos (by decide)]
    exact ⟨rfl, hR⟩
  · obtain ⟨m, rfl⟩ : ∃ m, n = m + 1 := ⟨n - 1, by omega⟩
    rw [if_neg (nI_ne0 h0 (by omega))]
    obtain ⟨w1, w2, w3⟩ := hCh m (by omega)
    rw [if_neg (by omega)] at w3
    obtain ⟨q1, q2, q3⟩ := g5 m (by omega)
    have epos : (nx + 24 - (m + 1) + m) % 24 = (nx + 23) % 24 := by congr 1; omega
    rw [epos] at q1 q2 q3
    generalize hP : (nx + 23) % 24 = P at q1 q2 q3
    have hP24 : P < 24 := by omega
    unfold x0_takeBackLatest x0_takeBackLatest_119
    simp only [lt]
    refine ⟨by decide, ?_⟩
    have z1 : (σ 57 3 + 24 - 1) % 24 = nI P := by
      rw [g3, show (24 : Int32) = nI 24 from rfl, nI_add, show (1 : Int32) = nI 1 from rfl, pk_sub (by omega), remI (by omega) (by decide) (by decide), show nx + 24 - 1 = nx + 23 by omega, hP]
    rw [z1]
    have z2 : st_up σ 57 3 (nI P) 57 4 = nI (m + 1) := by rw [up_n _ _ (Or.inr (by decide))]; exact g4
    have z3 : imax (nI (m + 1) - 1) 0 = nI m := by
      rw [show (1 : Int32) = nI 1 from rfl, pk_sub (by omega), Nat.add_sub_cancel]
      unfold imax
      rcases Nat.eq_zero_or_pos m with q | q
      · subst q; decide
      · rw [if_neg (by rw [show (0 : Int32) = nI 0 from rfl, nI_ltI (by omega) (by decide)]; omega)]
    rw [z2, z3]
    have z4 : st_up (st_up σ 57 3 (nI P)) 57 4 (nI m) 57 3 = nI P := by rw [up_n _ _ (Or.inr (by decide)), up_s]
    rw [z4, nI_clamp (by omega)]
    have fr : ∀ i, i ≠ 57 → st_up (st_up σ 57 3 (nI P)) 57 4 (nI m) i = σ i := fun i hi => by rw [st_up_ne _ _ _ hi, st_up_ne _ _ _ hi]
    have z5 : st_up (st_up σ 57 3 (nI P)) 57 4 (nI m) 57 4 = nI m := by rw [up_s]
    generalize hτ : st_up (st_up σ 57 3 (nI P)) 57 4 (nI m) = τ at fr z4 z5
    rw [fr 59 (by decide), fr 60 (by decide), fr 58 (by decide), q1, q2, q3]
    have v24 : ∀ c, ln c = 24 → vp_in (nI P) (ln c) := fun c hc => by rw [hc]; exact (vpI (by omega)).mpr hP24
    refine ⟨v24 59 rfl, v24 60 rfl, v24 58 rfl, ?_⟩
    -- the end, once the street of the class is S m
    have fin : ∀ υ : St, StC 19 υ (S m) → (∀ i, (i < 19 ∨ 27 < i) → υ i = τ i) → x7_undo υ (fun r2 σ2 => υ 57 4 = r2 ∧ Rel σ2) := by
      intro υ hC' hfr
      have u : ∀ i, (i < 19 ∨ 27 < i) → i ≠ 57 → υ i = σ i := fun i h1 h2 => by rw [hfr i h1, fr i h2]
      unfold x7_undo
      simp only [lt]
      rw [u 65 (by decide) (by decide), hS.1, if_neg (nI_ne0 h0 (by omega)), show (1 : Int32) = nI 1 from rfl, pk_sub (by omega), Nat.add_sub_cancel, up_s, show (53 : Int32) = nI 53 from rfl, pk_mul, show (0 : Int32) = nI 0 from rfl]
      refine s7_lay (by decide) (by show 53 * m + 53 ≤ 1272; omega) (by decide) (by omega) (by decide) (fun σ3 c1 c2 c3 => ?_)
      rw [c3 65 (by decide), up_s]
      refine ⟨by rw [hfr 57 (by decide)]; exact z5, ?_⟩
      have ag : ∀ i, (i < 19 ∨ 27 < i) → i ≠ 57 → i ≠ 65 → i ≠ 70 → σ3 i = σ i := fun i h1 h2 h3 h4 => by rw [c3 i h4, st_up_ne _ _ _ h3, u i h1 h2]
      have c4 : actC σ σ3 := ⟨fun i a1 a2 a3 a4 a5 => ag i a1 (by omega) a3 a4, fun j hj => by rw [c3 65 (by decide), up_n _ _ (Or.inr hj), u 65 (by decide) (by decide)]⟩
      refine hR.m6 c4.onl ⟨S m, ⟨w1, w2, ?_, ?_⟩, fun p hp => c4.img hp (hI p hp), m, P, S, rc, ⟨by omega, hP24, ?_, ?_, fun i hi => ?_⟩, ⟨by rw [c3 65 (by decide), up_s], fun i hi => ?_⟩, fun i hi => ?_⟩
      · exact hC'.cells (fun i a b => by rw [c3 i (by omega), st_up_ne _ _ _ (by omega)])
      · intro j hj
        rw [c1 j hj, st_up_ne _ _ _ (by decide), u 75 (by decide) (by decide)]
        exact hS.2 m (by omega) j hj
      · rw [c3 57 (by decide), st_up_ne _ _ _ (by decide), hfr 57 (by decide)]; exact z5
      · rw [c3 57 (by decide), st_up_ne _ _ _ (by decide), hfr 57 (by decide)]; exact z4
      · rw [ag 58 (by decide) (by decide) (by decide) (by decide), ag 59 (by decide) (by decide) (by decide) (by decide), ag 60 (by decide) (by decide) (by decide) (by decide)]
        have := g5 i (by omega)
        rw [show (P + 24 - m + i) % 24 = (nx + 24 - (m + 1) + i) % 24 by omega]
        exact this
      · exact (hS.2 i (by omega)).cell (ag 75 (by decide) (by decide) (by decide) (by decide))
      · obtain ⟨x1, x2, x3⟩ := hCh i (by omega)
        refine ⟨x1, x2, ?_⟩
        rw [if_pos (by omega)] at x3
        by_cases z : i + 1 < m
        · rw [if_pos z]; exact x3
        · rw [if_neg z]; rwa [show i + 1 = m by omega] at x3
    have hCτ : StC 19 τ F := hC.cells (fun i a b => fr i (by omega))
    have hSF : ∀ (T : Fn) (υ : St), (∀ j, j < 53 → S m j = T j) → T 2 ≤ 6 → T 3 ≤ 6 → StC 19 υ T → StC 19 υ (S m) := fun T υ e t2 t3 hT => hT.congr t2 t3 (fun j hj => (e j hj).symm)
    rcases w3 with ⟨e1, e2, e3, e4⟩ | ⟨e1, e2, e3, e4⟩ | ⟨e1, e2, e3, e4⟩ | ⟨e1, e2, e3⟩
    · have hd6 : (rc m).2.1 < 6 := by have := w1.2.2.2.1; omega
      rw [e1, if_pos (by decide), nI_clamp (by omega)]
      refine ⟨(vpI (by omega)).mpr (by show (rc m).2.1 < 6; exact hd6), fin _ ?_ (fun i hi => st_up_ne _ _ _ (by omega))⟩
      exact hSF _ _ e4 (by rw [fup_n _ _ (by omega)]; exact h62) (by rw [fup_n _ _ (by omega)]; exact h63) (hCτ.up_cgh h62 h63 hd6 _)
    · have hd6 : (rc m).2.1 < 6 := by have := w1.2.2.2.1; omega
      rw [e1, if_neg (by decide), if_pos (by decide), nI_clamp (by omega)]
      refine ⟨(vpI (by omega)).mpr (by show (rc m).2.1 < 6; exact hd6), fin _ ?_ (fun i hi => st_up_ne _ _ _ (by omega))⟩
      exact hSF _ _ e4 (by rw [fup_n _ _ (by omega)]; exact h62) (by rw [fup_n _ _ (by omega)]; exact h63) (hCτ.up_dog h62 h63 hd6 _)
    · have hd6 : (rc m).2.1 < 6 := by have := w1.2.2.2.1; omega
      rw [e1, if_neg (by decide), if_neg (by decide), if_pos (by decide), nI_clamp (by omega)]
      refine ⟨(vpI (by omega)).mpr (by show (rc m).2.1 < 6; exact hd6), fin _ ?_ (fun i hi => st_up_ne _ _ _ (by omega))⟩
      exact hSF _ _ e4 (by rw [fup_n _ _ (by omega)]; exact h62) (by rw [fup_n _ _ (by omega)]; exact h63) (hCτ.up_str h62 h63 hd6 _)
    · rw [e1, if_neg (by decide), if_neg (by decide), if_neg (by decide), e2]
      refine s5_takeBackDay rfl w1 (hCτ.congr h62 h63 e3) (fun υ a1 a2 => fin υ a1 (fun i hi => a2 i (by omega)))
