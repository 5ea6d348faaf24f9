/-! DAYS, UNDO, IMAGES -/
theorem pas_WF' {F : Fn} (h : WF F) (h4 : F 4 ≤ 4999) : WF (pas F) := by
  have h2 : pas F 2 = F 2 := pas_lo F (by decide) (by decide)
  have h3 : pas F 3 = F 3 := pas_lo F (by decide) (by decide)
  have h63 := h.2.2.2.2.1
  refine ⟨fun j hj => ?_, ?_, ?_, ?_, ?_, ?_, ?_, ?_, ?_⟩
  · have b := h.1 j hj
    by_cases z4 : j = 4
    · subst z4; rw [pas_4]; omega
    · by_cases z41 : 41 ≤ j ∧ j < 41 + F 3
      · obtain ⟨c, rfl⟩ : ∃ c, j = 41 + c := ⟨j - 41, by omega⟩
        have hw := h.2.2.2.2.2.2.2.1 c (by omega)
        rw [pas_41 F h63 (by omega)]
        split
        · exact b
        · exact Nat.le_trans (Nat.le_of_lt (Nat.mod_lt _ (by omega))) (by have := h.2.2.2.1; omega)
      · by_cases z47 : 47 ≤ j ∧ j < 47 + F 3
        · obtain ⟨c, rfl⟩ : ∃ c, j = 47 + c := ⟨j - 47, by omega⟩
          have hw := h.2.2.2.2.2.2.2.1 c (by omega)
          rw [pas_47 F h63 (by omega)]
          split <;> omega
        · unfold pas
          rw [if_neg z4, if_neg (fun q => z41 ⟨q.1, q.2.1⟩), if_neg (fun q => z47 ⟨q.1, q.2.1⟩)]
          exact b
  · rw [pas_lo F (by decide) (by decide)]; exact h.2.1
  · rw [pas_lo F (by decide) (by decide)]; exact h.2.2.1
  · rw [h2]; exact h.2.2.2.1
  · rw [h3]; exact h.2.2.2.2.1
  · intro d hd'
    rw [h2] at hd'
    have := h.2.2.2.1
    rw [pas_lo F (by omega) (by omega), pas_lo F (by omega) (by omega), pas_lo F (by omega) (by omega), pas_lo F (by omega) (by omega)]
    exact h.2.2.2.2.2.1 d hd'
  · intro d hd6 hd'
    rw [h2] at hd'
    rw [pas_lo F (by omega) (by omega), pas_lo F (by omega) (by omega), pas_lo F (by omega) (by omega)]
    exact h.2.2.2.2.2.2.1 d hd6 hd'
  · intro c hc
    rw [h3] at hc
    have hw := h.2.2.2.2.2.2.2.1 c hc
    rw [pas_lo F (by omega) (by omega), pas_lo F (by omega) (by omega), pas_41 F h63 hc, pas_47 F h63 hc, h2, pas_4]
    refine ⟨hw.1, hw.2.1, ?_, ?_⟩
    · split
      · exact hw.2.2.1
      · exact Nat.mod_lt _ (by omega)
    · split <;> omega
  · intro c hc hc2
    rw [h3] at hc2
    rw [pas_47o F hc2 hc]
    exact h.2.2.2.2.2.2.2.2 c hc hc2
def pasN (F : Fn) : Nat → Fn
  | 0 => F
  | t + 1 => pas (pasN F t)
theorem pasN_4 (F : Fn) : ∀ t, pasN F t 4 = F 4 + t := by
  intro t
  induction t with
  | zero => rfl
  | succ t ih => show pas (pasN F t) 4 = _; rw [pas_4, ih]; omega
theorem pasN_lo (F : Fn) {j : Nat} (h : j < 41) (h4 : j ≠ 4) : ∀ t, pasN F t j = F j := by
  intro t
  induction t with
  | zero => rfl
  | succ t ih => show pas (pasN F t) j = _; rw [pas_lo _ h h4, ih]
theorem pasN_WF {F : Fn} (h : WF F) : ∀ t, F 4 + t ≤ 5000 → WF (pasN F t) := by
  intro t
  induction t with
  | zero => intro _; exact h
  | succ t ih => intro h4; exact pas_WF' (ih (by omega)) (by rw [pasN_4]; omega)
def rcT (n : Nat) (rc : Nat → Nat × Nat × Nat) (F : Fn) : Nat → Nat → Nat × Nat × Nat
  | 0 => rc
  | t + 1 => psh (min (n + t) 24) (rcT n rc F t) (3, 0, mts (pasN F t))
def sT (n : Nat) (S : Nat → Fn) (F : Fn) : Nat → Nat → Fn
  | 0 => S
  | t + 1 => psh (min (n + t) 24) (sT n S F t) (pasN F t)
theorem Chn.days {n : Nat} {rc : Nat → Nat × Nat × Nat} {S : Nat → Fn} {F : Fn} (hn : n ≤ 24) (h : Chn n rc S F) (hF : WF F) : ∀ t, F 4 + t ≤ 999 → Chn (min (n + t) 24) (rcT n rc F t) (sT n S F t) (pasN F t) := by
  intro t
  induction t with
  | zero => intro _; rw [show min (n + 0) 24 = n by omega]; exact h
  | succ t ih =>
    intro h4
    have := (ih (by omega)).push (x := (3, 0, mts (pasN F t))) (F' := pasN F (t + 1)) (by omega) (pasN_WF hF t (by omega)) (by rw [pasN_4]; omega) (Or.inr (Or.inr (Or.inr ⟨rfl, rfl, fun _ _ => rfl⟩)))
    rw [show min (min (n + t) 24 + 1) 24 = min (n + (t + 1)) 24 by omega] at this
    exact this
/-- what came of the last of t days -/
def lastM (F : Fn) : Nat → Nat
  | 0 => 0
  | t + 1 => mts (pasN F t)
theorem s6_days_49 {σ : St} {n nx m : Nat} {rc : Nat → Nat × Nat × Nat} {F : Fn} {k : Int32 → St → Prop} (hF : WF F) (hm : m ≤ 24) (h4 : F 4 + m ≤ 999) (hk : ∀ σ', StC 19 σ' (pasN F m) → RingR σ' (min (n + m) 24) ((nx + m) % 24) (rcT n rc F m) → (∀ i, (i < 19 ∨ 27 < i) → (i < 57 ∨ 60 < i) → σ' i = σ i) → k (nI (lastM F m)) σ') : ∀ f t τ, t ≤ m → m < t + f → StC 19 τ (pasN F t) → RingR τ (min (n + t) 24) ((nx + t) % 24) (rcT n rc F t) → (∀ i, (i < 19 ∨ 27 < i) → (i < 57 ∨ 60 < i) → τ i = σ i) → x6_days_49 (nI m) k f (nI (lastM F t)) (nI t) τ := by
  intro f
  induction f with
  | zero => intro t τ h1 h2; omega
  | succ f ih =>
    intro t τ h1 h2 a1 a2 a3
    unfold x6_days_49
    by_cases q : m ≤ t
    · have : t = m := by omega
      subst this
      rw [if_pos (nI_le (by omega) (by omega))]
      exact hk τ a1 a2 a3
    · rw [if_neg (nI_ge (by omega) (by omega))]
      refine s5_passDay rfl a1 (pasN_WF hF t (by omega)) (fun τ1 b1 b2 => ?_)
      have hG : RingR τ1 (min (n + t) 24) ((nx + t) % 24) (rcT n rc F t) := a2.congr (fun i c1 c2 => b2 i (by omega))
      refine s0_keep (w := 3) (d := 0) (v := mts (pasN F t)) hG (fun τ2 r1 r2 => ?_)
      rw [show nI t + 1 = nI (t + 1) from nI_1 t]
      refine ih (t + 1) τ2 (by omega) (by omega) ?_ ?_ ?_
      · exact b1.cells (fun i c1 c2 => r2 i (by omega))
      · rw [show min (min (n + t) 24 + 1) 24 = min (n + (t + 1)) 24 by omega, show ((nx + t) % 24 + 1) % 24 = (nx + (t + 1)) % 24 by omega] at r1
        exact r1
      · intro i c1 c2; rw [r2 i c2, b2 i (by omega), a3 i c1 c2]
theorem s7_days_44 {σ : St} {n m : Nat} {S : Nat → Fn} {F : Fn} {k : Int32 → St → Prop} (hF : WF F) (hm : m ≤ 24) (h4 : F 4 + m ≤ 999) (hk : ∀ σ', StM 70 0 σ' (pasN F m) → SnapR σ' (min (n + m) 24) (sT n S F m) → (∀ i, i ≠ 65 → i ≠ 70 → i ≠ 75 → σ' i = σ i) → (∀ j, j ≠ 18 → σ' 65 j = σ 65 j) → k (nI (lastM F m)) σ') : ∀ f t τ, t ≤ m → m < t + f → StM 70 0 τ (pasN F t) → SnapR τ (min (n + t) 24) (sT n S F t) → (∀ i, i ≠ 65 → i ≠ 70 → i ≠ 75 → τ i = σ i) → (∀ j, j ≠ 18 → τ 65 j = σ 65 j) → x7_days_44 (nI m) k f (nI (lastM F t)) (nI t) τ := by
  intro f
  induction f with
  | zero => intro t τ h1 h2; omega
  | succ f ih =>
    intro t τ h1 h2 a1 a2 a3 a4
    unfold x7_days_44
    by_cases q : m ≤ t
    · have : t = m := by omega
      subst this
      rw [if_pos (nI_le (by omega) (by omega))]
      exact hk τ a1 a2 a3 a4
    · rw [if_neg (nI_ge (by omega) (by omega))]
      refine s7_act (by omega) a2 a1 (fun τ1 b1 b2 b3 => ?_)
      have hM1 : StM 70 0 τ1 (pasN F t) := a1.cell (b2 70 (by decide) (by decide))
      refine s7_pass rfl hM1 (pasN_WF hF t (by omega)) (fun τ2 r1 r2 => ?_)
      rw [show nI t + 1 = nI (t + 1) from nI_1 t]
      refine ih (t + 1) τ2 (by omega) (by omega) r1 ?_ ?_ ?_
      · rw [show min (min (n + t) 24 + 1) 24 = min (n + (t + 1)) 24 by omega] at b1
        exact b1.congr (by rw [r2 65 (by decide)]) (r2 75 (by decide))
      · intro i c1 c2 c3; rw [r2 i c2, b2 i c3 c1, a3 i c1 c2 c3]
      · intro j hj; rw [r2 65 (by decide), b3 j hj, a4 j hj]
theorem sp10 : Sp10 Rel := by
  intro a σ hR
  obtain ⟨F, ⟨hF, h4, hC, hM⟩, hI, n, nx, S, rc, hG, hS, hCh⟩ := hR.2.2.2.2.2
  have hn := hG.1
  have hnx := hG.2.1
  rcases Nat.eq_zero_or_pos (F 2) with h0 | h0
  · unfold x6_days x7_days
    refine s5_isTold_f (by rw [hC.1, h0]) ?_
    show if _ then _ else _
    rw [if_pos (by decide)]
    refine s7_isStreet_f hM h0 ?_
    show if _ then _ else _
    rw [if_pos (by decide)]
    exact ⟨rfl, hR⟩
  · by_cases ha : has a 25 ∧ a ≠ 0
    · obtain ⟨⟨m, hm, rfl⟩, hm0⟩ := ha
      have hm1 : 1 ≤ m := by
        rcases Nat.eq_zero_or_pos m with z | z
        · subst z; exact absurd rfl hm0
        · exact z
      unfold x6_days
      refine s5_isTold_t hC.1 ⟨h0, hF.2.2.2.1⟩ ?_
      show if _ then _ else _
      rw [if_neg (by decide), if_neg (by rw [show (1 : Int32) = nI 1 from rfl, nI_ltI (by omega) (by decide)]; omega), if_pos (by rw [show (24 : Int32) = nI 24 from rfl, nI_leI (by omega) (by decide)]; omega), hC.2.2.2.2.1, nI_add, show (999 : Int32) = nI 999 from rfl]
      have m4 : ∀ τ : St, StM 70 0 τ F → τ 70 (4 : Int32).toNatClampNeg = nI (F 4) := fun τ hτ => m70 hτ (j := 4) (by decide)
      have e7 : ∀ τ : St, StM 70 0 τ F → ∀ k : Int32 → St → Prop, (if F 4 + m ≤ 999 then ∃ n44, x7_days_44 (nI m) k n44 0 0 τ else k (-1000003) τ) → x7_days (nI m) τ k := by
        intro τ hτ k h
        unfold x7_days
        refine s7_isStreet_t hτ hF h0 ?_
        show if _ then _ else _
        rw [if_neg (by decide)]
        refine in_t (by rw [show (1 : Int32) = nI 1 from rfl, nI_ltI (by omega) (by decide)]; omega) (by rw [show (24 : Int32) = nI 24 from rfl, nI_ltI (by decide) (by omega)]; omega) ?_
        show if _ then _ else _
        rw [if_neg (by decide), m4 τ hτ, nI_add, show (999 : Int32) = nI 999 from rfl]
        refine ⟨vq (j := 4) (by decide), ?_⟩
        by_cases q : F 4 + m ≤ 999
        · rw [if_pos (nI_le q (by decide))]; rwa [if_pos q] at h
        · rw [if_neg (nI_ge (by omega) (by omega))]; rwa [if_neg q] at h
      by_cases q : F 4 + m ≤ 999
      · rw [if_pos (nI_le q (by decide))]
        refine ⟨m + 1, s6_days_49 (σ := σ) (n := n) (nx := nx) (rc := rc) hF (by omega) q (fun σ1 c1 c2 c3 => ?_) (m + 1) 0 σ (Nat.zero_le _) (by omega) hC ?_ (fun _ _ _ => rfl)⟩
        · have hM1 : StM 70 0 σ1 F := hM.cell (c3 70 (by decide) (by decide))
          have hS1 : SnapR σ1 n S := hS.congr (by rw [c3 65 (by decide) (by decide)]) (c3 75 (by decide) (by decide))
          refine e7 σ1 hM1 _ ?_
          rw [if_pos q]
          refine ⟨m + 1, s7_days_44 (σ := σ1) (n := n) (S := S) hF (by omega) q (fun σ2 d1 d2 d3 d4 => ?_) (m + 1) 0 σ1 (Nat.zero_le _) (by omega) hM1 (by rw [show min (n + 0) 24 = n by omega]; exact hS1) (fun _ _ _ _ => rfl) (fun _ _ => rfl)⟩
          have c4 : actC σ σ2 := ⟨fun i a1 a2 a3 a4 a5 => by rw [d3 i a3 a4 a5, c3 i a1 a2], fun j hj => by rw [d4 j hj, c3 65 (by decide) (by decide)]⟩
          refine ⟨rfl, hR.m6 c4.onl ⟨pasN F m, ⟨pasN_WF hF m (by omega), by rw [pasN_4]; omega, ?_, d1⟩, fun q hq => c4.img hq (hI q hq), min (n + m) 24, (nx + m) % 24, sT n S F m, rcT n rc F m, ?_, d2, hCh.days hn hF m q⟩⟩
          · exact c1.cells (fun i a b => d3 i (by omega) (by omega) (by omega))
          · exact c2.congr (fun i a b => d3 i (by omega) (by omega) (by omega))
        · rw [show min (n + 0) 24 = n by omega, show (nx + 0) % 24 = nx by omega]; exact hG
      · rw [if_neg (nI_ge (by omega) (by omega))]
        refine e7 σ hM _ ?_
        rw [if_neg q]
        exact ⟨rfl, hR⟩
    · have hbad : a < 1 ∨ 24 < a := by
        by_cases z : has a 25
        · left
          obtain ⟨j, hj, rfl⟩ := z
          have : j = 0 := by
            rcases Nat.eq_zero_or_pos j with q | q
            · exact q
            · exact absurd ⟨⟨j, hj, rfl⟩, fun e => by
                have e : nI j = nI 0 := e
                rw [nI_eq (by omega) (by decide)] at e
                omega⟩ ha
          subst this; decide
        · rcases has_no (by decide) z with q | q
          · exact Or.inl (Int32.lt_of_lt_of_le q (by decide))
          · exact Or.inr (Int32.lt_of_lt_of_le (show nI 24 < nI 25 from nI_lt (by decide) (by decide)) q)
      have e6 : ∀ k : Int32 → St → Prop, k (-1000001) σ → x6_days a σ k := by
        intro k h
        unfold x6_days x6_days_24
        refine s5_isTold_t hC.1 ⟨h0, hF.2.2.2.1⟩ ?_
        show if _ then _ else _
        rw [if_neg (by decide)]
        by_cases z : a < 1
        · rw [if_pos z]; exact h
        · rw [if_neg z, if_neg (Int32.not_le.mpr (hbad.resolve_left z))]; exact h
      refine e6 _ ?_
      unfold x7_days
      refine s7_isStreet_t hM hF h0 ?_
      show if _ then _ else _
      rw [if_neg (by decide)]
      refine in_f hbad ?_
      show if _ then _ else _
      rw [if_pos (by decide)]
      exact ⟨rfl, hR⟩
/-! images -/
theorem kimg {q : Nat} (hq : q < 2) : kd (37 + 9 * q) = 5 := by
  rcases (show q = 0 ∨ q = 1 by omega) with rfl | rfl <;> rfl
theorem sp25 : Sp25 Rel := by
  intro a σ hR
  obtain ⟨F, ⟨hF, h4, hC, hM⟩, hI, n, nx, S, rc, hG, hS, hCh⟩ := hR.2.2.2.2.2
  unfold x6_image
  by_cases ha : has a 2
  · obtain ⟨q, hq, rfl⟩ := ha
    refine s6_isBit_t hq ?_
    show if _ then _ else _
    rw [if_neg (by decide)]
    rcases Nat.eq_zero_or_pos (F 2) with h0 | h0
    · refine s5_isTold_f (by rw [hC.1, h0]) ?_
      show if _ then _ else _
      rw [if_pos (by decide)]
      unfold x7_image
      refine in_lit_t (m := 1) (by omega) (by decide) ?_
      show if _ then _ else _
      rw [if_neg (by decide)]
      refine s7_isStreet_f hM h0 ?_
      show if _ then _ else _
      rw [if_pos (by decide)]
      exact ⟨rfl, hR⟩
    · refine s5_isTold_t hC.1 ⟨h0, hF.2.2.2.1⟩ ?_
      show if _ then _ else _
      rw [if_neg (by decide), nI_clamp (by omega)]
      refine ⟨(vpI (by omega)).mpr hq, ?_⟩
      refine s5_takeOver (kimg hq) rfl (by omega) hC hF.2.2.2.1 hF.2.2.2.2.1 (fun σ1 b1 b2 => ?_)
      have hM1 : StM 70 0 σ1 F := hM.cell (b2 70 (by omega))
      unfold x7_image
      refine in_lit_t (m := 1) (by omega) (by decide) ?_
      show if _ then _ else _
      rw [if_neg (by decide)]
      refine s7_isStreet_t hM1 hF h0 ?_
      show if _ then _ else _
      rw [if_neg (by decide), show (53 : Int32) = nI 53 from rfl, pk_mul, show (0 : Int32) = nI 0 from rfl]
      refine s7_lay (by decide) (by decide) (by show 53 * q + 53 ≤ 106; omega) (by decide) (by omega) (fun σ2 c1 c2 c3 => ?_)
      simp only [lt]
      rw [nI_clamp (by omega)]
      refine ⟨(vpI (by omega)).mpr (by show q < 2; exact hq), trivial, ?_⟩
      have ag : ∀ i, i ≠ 73 → i ≠ 74 → (i < 37 + 9 * q ∨ 37 + 9 * q + 8 < i) → st_up σ2 74 q 1 i = σ i := fun i h1 h2 h3 => by rw [st_up_ne _ _ _ h2, c3 i h1, b2 i h3]
      refine hR.m6 (fun i j h1 h2 => ?_) ⟨F, ⟨hF, h4, ?_, ?_⟩, fun p hp => ?_, n, nx, S, rc, ?_, ?_, hCh⟩
      · have n3 : i ≠ 73 := fun z => h2 (by subst z; rfl)
        have n4 : i ≠ 74 := fun z => h2 (by subst z; rfl)
        have n5 : ¬ (37 ≤ i ∧ i ≤ 54) := fun z => h2 (cm_im i j z)
        rw [ag i n3 n4 (by omega)]
      · exact hC.cells (fun i a b => ag i (by omega) (by omega) (by omega))
      · exact hM.cell (ag 70 (by decide) (by decide) (by omega))
      · by_cases z : p = q
        · subst z
          refine Or.inr ⟨F, by rw [up_s], hF, h4, h0, ?_, ?_⟩
          · exact b1.cells (fun i a b => by rw [st_up_ne _ _ _ (by omega), c3 i (by omega)])
          · intro j hj
            rw [st_up_ne _ _ _ (by decide), c1 j hj, b2 70 (by omega)]
            exact hM j hj
        · have hp' := hI p hp
          rcases hp' with h | ⟨G, g1, g2, g3, g4, g5, g6⟩
          · refine Or.inl ⟨?_, ?_⟩
            · rw [up_n _ _ (Or.inr z), c3 74 (by decide), b2 74 (by omega)]; exact h.1
            · rw [ag _ (by omega) (by omega) (by omega)]; exact h.2
          · refine Or.inr ⟨G, ?_, g2, g3, g4, ?_, ?_⟩
            · rw [up_n _ _ (Or.inr z), c3 74 (by decide), b2 74 (by omega)]; exact g1
            · exact g5.cells (fun i a b => ag i (by omega) (by omega) (by omega))
            · intro j hj
              rw [st_up_ne _ _ _ (by decide), c2 _ (by omega), b2 73 (by omega)]
              exact g6 j hj
      · exact hG.congr (fun i a b => ag i (by omega) (by omega) (by omega))
      · exact hS.congr (by rw [ag 65 (by decide) (by decide) (by omega)]) (ag 75 (by decide) (by decide) (by omega))
  · refine s6_isBit_f ha ?_
    show if _ then _ else _
    rw [if_pos (by decide)]
    unfold x7_image
    refine in_lit_f (m := 1) (by decide) ha ?_
    show if _ then _ else _
    rw [if_pos (by decide)]
    exact ⟨rfl, hR⟩
theorem sp26 : Sp26 Rel := by
  intro a σ hR
  obtain ⟨F, ⟨hF, h4, hC, hM⟩, hI, n, nx, S, rc, hG, hS, hCh⟩ := hR.2.2.2.2.2
  unfold x6_restore
  by_cases ha : has a 2
  · obtain ⟨q, hq, rfl⟩ := ha
    refine s6_isBit_t hq ?_
    show if _ then _ else _
    rw [if_neg (by decide), nI_clamp (by omega)]
    refine ⟨(vpI (by omega)).mpr hq, ?_⟩
    have v74 : vp_in (nI q) (ln 74) := (vpI (by omega)).mpr (by show q < 2; exact hq)
    rcases hI q hq with h | ⟨G, g1, g2, g3, g4, g5, g6⟩
    · refine s5_isTold_f h.2 ?_
      show if _ then _ else _
      rw [if_pos (by decide)]
      unfold x7_restore
      refine in_lit_t (m := 1) (by omega) (by decide) ?_
      show if _ then _ else _
      rw [if_neg (by decide), nI_clamp (by omega), h.1, if_pos rfl]
      exact ⟨v74, rfl, hR⟩
    · refine s5_isTold_t g5.1 ⟨g4, g2.2.2.2.1⟩ ?_
      show if _ then _ else _
      rw [if_neg (by decide)]
      refine ⟨(vpI (by omega)).mpr hq, ?_⟩
      refine s5_takeOver rfl (kimg hq) (by omega) g5 g2.2.2.2.1 g2.2.2.2.2.1 (fun σ1 b1 b2 => ?_)
      unfold x0_forgetAll x7_restore
      simp only [lt]
      refine in_lit_t (m := 1) (by omega) (by decide) ?_
      show if _ then _ else _
      rw [if_neg (by decide), nI_clamp (by omega)]
      have e74 : st_up (st_up σ1 57 3 0) 57 4 0 74 q = 1 := by rw [st_up_ne _ _ _ (by decide), st_up_ne _ _ _ (by decide), b2 74 (by omega)]; exact g1
      rw [e74, if_neg (by decide), show (53 : Int32) = nI 53 from rfl, pk_mul, show (0 : Int32) = nI 0 from rfl]
      refine ⟨v74, ?_⟩
      refine s7_lay (by decide) (by show 53 * q + 53 ≤ 106; omega) (by decide) (by omega) (by decide) (fun σ2 c1 c2 c3 => ?_)
      refine ⟨trivial, ?_⟩
      have ag : ∀ i, (i < 19 ∨ 27 < i) → i ≠ 57 → i ≠ 65 → i ≠ 70 → st_up σ2 65 18 (nI 0) i = σ i := fun i h1 h2 h3 h4 => by rw [st_up_ne _ _ _ h3, c3 i h4, st_up_ne _ _ _ h2, st_up_ne _ _ _ h2, b2 i (by omega)]
      have c4 : actC σ (st_up σ2 65 18 (nI 0)) := ⟨fun i a1 a2 a3 a4 a5 => ag i a1 (by omega) a3 a4, fun j hj => by rw [up_n _ _ (Or.inr hj), c3 65 (by decide), st_up_ne _ _ _ (by decide), st_up_ne _ _ _ (by decide), b2 65 (by omega)]⟩
      refine hR.m6 c4.onl ⟨G, ⟨g2, g3, ?_, ?_⟩, fun p hp => c4.img hp (hI p hp), 0, 0, fun _ _ => 0, fun _ => (0, 0, 0), ⟨by decide, by decide, ?_, ?_, fun i hi => absurd hi (Nat.not_lt_zero _)⟩, ⟨by rw [up_s], fun i hi => absurd hi (Nat.not_lt_zero _)⟩, fun i hi => absurd hi (Nat.not_lt_zero _)⟩
      · exact b1.cells (fun i a b => by rw [st_up_ne _ _ _ (by omega), c3 i (by omega), st_up_ne _ _ _ (by omega), st_up_ne _ _ _ (by omega)])
      · intro j hj
        rw [st_up_ne _ _ _ (by decide), c1 j hj, st_up_ne _ _ _ (by decide), st_up_ne _ _ _ (by decide), b2 73 (by omega)]
        exact g6 j hj
      · rw [st_up_ne _ _ _ (by decide), c3 57 (by decide), up_s]
      · rw [st_up_ne _ _ _ (by decide), c3 57 (by decide), up_n _ _ (Or.inr (by decide)), up_s]
  · refine s6_isBit_f ha ?_
    show if _ then _ else _
    rw [if_pos (by decide)]
    unfold x7_restore
    refine in_lit_f (m := 1) (by decide) ha ?_
    show if _ then _ else _
    rw [if_pos (by decide)]
    exact ⟨rfl, hR⟩
