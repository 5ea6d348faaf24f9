/-! WHAT IS AHEAD -/
def srch (P : Nat → Bool) : Nat → Nat → Nat
  | 0, w => w
  | n + 1, w => if P w then w else srch P n (w + 1)
theorem srch_le (P : Nat → Bool) : ∀ n w, w ≤ srch P n w ∧ srch P n w ≤ w + n := by
  intro n
  induction n with
  | zero => intro w; exact ⟨Nat.le_refl _, Nat.le_refl _⟩
  | succ n ih =>
    intro w
    unfold srch
    split
    · omega
    · have := ih (w + 1); omega
theorem srch_no (P : Nat → Bool) : ∀ n w j, w ≤ j → j < srch P n w → P j = false := by
  intro n
  induction n with
  | zero => intro w j h1 h2; unfold srch at h2; omega
  | succ n ih =>
    intro w j h1 h2
    unfold srch at h2
    by_cases hp : P w = true
    · rw [if_pos hp] at h2; omega
    · rw [if_neg hp] at h2
      by_cases z : j = w
      · subst z; simpa using hp
      · exact ih (w + 1) j (by omega) h2
theorem srch_yes (P : Nat → Bool) : ∀ n w, srch P n w < w + n → P (srch P n w) = true := by
  intro n
  induction n with
  | zero => intro w h; unfold srch at h; omega
  | succ n ih =>
    intro w h
    unfold srch at h ⊢
    by_cases hp : P w = true
    · rw [if_pos hp]; exact hp
    · rw [if_neg hp] at h ⊢; exact ih (w + 1) (by omega)
/-- does the caller c, of that kind, meet when it has gone on w doors -/
def Pw (F : Fn) (c kd' : Nat) (w : Nat) : Bool := mtA F c kd' ((F (41 + c) + w) % F 2)
/-- in how many days it meets first; 100000: never -/
def wI (F : Fn) (c kd' : Nat) : Nat := if srch (Pw F c kd') (F 2) 0 < F 2 then srch (Pw F c kd') (F 2) 0 else 100000
theorem wI_cases (F : Fn) (c kd' : Nat) : wI F c kd' < F 2 ∨ wI F c kd' = 100000 := by
  unfold wI
  split
  · exact Or.inl (by assumption)
  · exact Or.inr rfl
theorem wI_no {F : Fn} {c kd' : Nat} (h2 : 0 < F 2) (h6 : F 2 ≤ 6) {t : Nat} (ht : t < wI F c kd') : Pw F c kd' t = false := by
  unfold wI at ht
  by_cases q : srch (Pw F c kd') (F 2) 0 < F 2
  · rw [if_pos q] at ht
    exact srch_no _ _ 0 t (Nat.zero_le _) ht
  · have e : srch (Pw F c kd') (F 2) 0 = F 2 := by have := srch_le (Pw F c kd') (F 2) 0; omega
    have := srch_no (Pw F c kd') (F 2) 0 (t % F 2) (Nat.zero_le _) (by rw [e]; exact Nat.mod_lt _ h2)
    unfold Pw at this ⊢
    rw [Nat.add_mod, Nat.mod_mod, ← Nat.add_mod] at this
    exact this
theorem wI_yes {F : Fn} {c kd' : Nat} (h : wI F c kd' < F 2) (h6 : F 2 ≤ 6) : Pw F c kd' (wI F c kd') = true := by
  unfold wI at h ⊢
  by_cases q : srch (Pw F c kd') (F 2) 0 < F 2
  · rw [if_pos q]
    exact srch_yes _ _ 0 (by omega)
  · rw [if_neg q] at h; omega
theorem mtA_congr {F G : Fn} (e : ∀ j, j < 41 → j ≠ 4 → ¬ (29 ≤ j ∧ j < 35) → G j = F j) {c kd' d : Nat} (hc : c < 6) (hd6 : d < 6) (h6 : F 2 ≤ 6) : mtA G c kd' d = mtA F c kd' d := by
  have e2 : G 2 = F 2 := e 2 (by decide) (by decide) (by decide)
  have eh : hd G d = hd F d := by
    unfold hd
    have a1 : G (23 + d) = F (23 + d) := e _ (by omega) (by omega) (by omega)
    have a2 : G (22 + d) = F (22 + d) := e _ (by omega) (by omega) (by omega)
    have a3 : (d + 1 < G 2 ∧ G (24 + d) = 1) ↔ (d + 1 < F 2 ∧ F (24 + d) = 1) := by
      rw [e2]
      by_cases q : d + 1 < F 2
      · rw [e (24 + d) (by omega) (by omega) (by omega)]
      · simp [q]
    rw [a1, a2]
    simp only [a3]
  unfold mtA op
  rw [eh, e (5 + d) (by omega) (by omega) (by omega), e (11 + d) (by omega) (by omega) (by omega), e (17 + d) (by omega) (by omega) (by omega), e (35 + c) (by omega) (by omega) (by omega)]
theorem run_at {F : Fn} (hF : WF F) {c : Nat} (hc : c < F 3) : ∀ t, t < 5000 → pasN F t (41 + c) = (F (41 + c) + min t (wI F c (F (29 + c)))) % F 2 ∧ pasN F t (47 + c) = F (47 + c) + (t - wI F c (F (29 + c))) ∧ mt (pasN F t) c = decide (wI F c (F (29 + c)) ≤ t) := by
  have h62 := hF.2.2.2.1
  have h63 := hF.2.2.2.2.1
  have hw := hF.2.2.2.2.2.2.2.1 c hc
  have hD : 0 < F 2 := by omega
  have st : ∀ t d, d < 6 → mtA (pasN F t) c (F (29 + c)) d = mtA F c (F (29 + c)) d := fun t d hd6 => mtA_congr (fun j h1 h2 _ => pasN_lo F h1 h2 t) (by omega) hd6 h62
  have mtt : ∀ t, t < 5000 → pasN F t (41 + c) = (F (41 + c) + min t (wI F c (F (29 + c)))) % F 2 → mt (pasN F t) c = decide (wI F c (F (29 + c)) ≤ t) := by
    intro t h5 ht
    unfold mt
    rw [pasN_lo F (j := 29 + c) (by omega) (by omega) t, ht, st t _ (by have := Nat.mod_lt (F (41 + c) + min t (wI F c (F (29 + c)))) hD; omega)]
    by_cases q : wI F c (F (29 + c)) ≤ t
    · rw [show min t (wI F c (F (29 + c))) = wI F c (F (29 + c)) by omega]
      have hlt : wI F c (F (29 + c)) < F 2 ∨ wI F c (F (29 + c)) = 100000 := wI_cases _ _ _
      rcases hlt with z | z
      · have := wI_yes z h62
        unfold Pw at this
        rw [this]; simp [q]
      · exfalso; omega
    · rw [show min t (wI F c (F (29 + c))) = t by omega]
      have := wI_no (kd' := F (29 + c)) (c := c) hD h62 (t := t) (by omega)
      unfold Pw at this
      rw [this]; simp [q]
  intro t
  induction t with
  | zero =>
    intro h5
    have e : pasN F 0 (41 + c) = (F (41 + c) + min 0 (wI F c (F (29 + c)))) % F 2 := by
      rw [Nat.zero_min, Nat.add_zero, Nat.mod_eq_of_lt hw.2.2.1]; rfl
    exact ⟨e, by rw [Nat.zero_sub, Nat.add_zero]; rfl, mtt 0 h5 e⟩
  | succ t ih =>
    intro h5
    obtain ⟨i1, i2, i3⟩ := ih (by omega)
    have p3 : pasN F t 3 = F 3 := pasN_lo F (by decide) (by decide) t
    have p2 : pasN F t 2 = F 2 := pasN_lo F (by decide) (by decide) t
    have q41 : pasN F (t + 1) (41 + c) = _ := pas_41 (pasN F t) (c := c) (by omega) (by omega)
    have q47 : pasN F (t + 1) (47 + c) = _ := pas_47 (pasN F t) (c := c) (by omega) (by omega)
    rw [i3] at q41 q47
    have e : pasN F (t + 1) (41 + c) = (F (41 + c) + min (t + 1) (wI F c (F (29 + c)))) % F 2 := by
      rw [q41, i1, p2]
      by_cases q : wI F c (F (29 + c)) ≤ t
      · rw [if_pos (by simpa using q), show min (t + 1) (wI F c (F (29 + c))) = min t (wI F c (F (29 + c))) by omega]
      · rw [if_neg (by simpa using q), show min t (wI F c (F (29 + c))) = t by omega, show min (t + 1) (wI F c (F (29 + c))) = t + 1 by omega, Nat.mod_add_mod, Nat.add_assoc]
    refine ⟨e, ?_, mtt (t + 1) h5 e⟩
    rw [q47, i2]
    by_cases q : wI F c (F (29 + c)) ≤ t
    · rw [if_pos (by simpa using q)]; omega
    · rw [if_neg (by simpa using q)]; omega
/-- what firstMeeting answers -/
def fmI (F : Fn) (c kd' : Nat) : Int32 := if wI F c kd' < 6 then nI (wI F c kd') else -1000000
theorem s5_firstMeeting {b : Nat} {σ : St} {F : Fn} {k : Int32 → St → Prop} (hb : kd b = 5) (hS : StC b σ F) (hF : WF F) {c kd' : Nat} (hc : c < F 3) (hk : 1 ≤ kd' ∧ kd' ≤ 5) (h : k (fmI F c kd') σ) : x5_firstMeeting b (nI c) (nI kd') σ k := by
  have h62 := hF.2.2.2.1
  have h63 := hF.2.2.2.2.1
  have hw := hF.2.2.2.2.2.2.2.1 c hc
  have key : ∀ n w, w ≤ F 2 → F 2 = w + n → (k (if srch (Pw F c kd') n w < F 2 then nI (srch (Pw F c kd') n w) else -1000000) σ) → x5_firstMeeting_2 b (nI c) (nI kd') k (n + 1) (nI w) σ := by
    intro n
    induction n with
    | zero =>
      intro w h1 h2 h
      unfold x5_firstMeeting_2
      rw [hS.1, if_pos (nI_le (by omega) (by omega))]
      unfold srch at h
      rwa [if_neg (by omega)] at h
    | succ n ih =>
      intro w h1 h2 h
      unfold x5_firstMeeting_2
      rw [hS.1, if_neg (nI_ge (by omega) (by omega))]
      refine s5_placeAfter (n := F 2) (p := F (41 + c)) hb hS.1 (by omega) (by omega) (hS.2.2.2.2.2.2 c hc).2.1 (by omega) (by omega) ?_
      refine s5_meetsAs hb hS hF hc hk (Nat.mod_lt _ (by omega)) ?_
      show if nI (if Pw F c kd' w then 1 else 0) = 0 then _ else _
      have es : srch (Pw F c kd') (n + 1) w = if Pw F c kd' w = true then w else srch (Pw F c kd') n (w + 1) := rfl
      cases hp : Pw F c kd' w with
      | true =>
        rw [hp, if_pos rfl] at es
        rw [if_neg (by decide)]
        rw [es, if_pos (by omega)] at h
        exact h
      | false =>
        rw [hp, if_neg (by decide)] at es
        rw [if_pos (by decide), show nI w + 1 = nI (w + 1) from nI_1 w]
        rw [es] at h
        exact ih (w + 1) (by omega) (by omega) h
  unfold x5_firstMeeting
  refine ⟨F 2 + 1, key (F 2) 0 (Nat.zero_le _) (by omega) ?_⟩
  unfold fmI wI at h
  by_cases q : srch (Pw F c kd') (F 2) 0 < F 2
  · rw [if_pos q]
    rw [if_pos q, if_pos (by omega)] at h
    exact h
  · rw [if_neg q]
    rw [if_neg q, if_neg (by decide)] at h
    exact h
theorem m72 {σ : St} {F : Fn} (hM : StM 72 0 σ F) {j : Nat} (h : j < 53) : σ 72 j = nI (F j) := by have := hM j h; rwa [Nat.zero_add] at this
theorem onl_72 {σ σ' : St} (h : ∀ i, i ≠ 72 → σ' i = σ i) : onl 0 σ σ' := onl.cell (a := 72) (fun j => Or.inl rfl) h
theorem sp17 : Sp17 Rel := by
  intro a σ hR
  obtain ⟨F, ⟨hF, h4, hC, hM⟩, hI, n, nx, S, hA⟩ := hR.2.2.2.2.2
  have h62 := hF.2.2.2.1
  have h63 := hF.2.2.2.2.1
  unfold x6_soon x6_soon_33
  by_cases ha : has a (F 3)
  · obtain ⟨c, hc, rfl⟩ := ha
    have hw := hF.2.2.2.2.2.2.2.1 c hc
    refine s5_hasCaller_t hC.2.1 h63 hc ?_
    show if _ then _ else _
    rw [if_neg (by decide), nI_clamp (by omega)]
    refine ⟨(vpI (by omega)).mpr (by show c < 6; omega), ?_⟩
    rw [show σ (19 + 5) c = nI (F (29 + c)) from (hC.2.2.2.2.2.2 c hc).1]
    refine s5_firstMeeting rfl hC hF hc hw.1 ?_
    show x7_soon _ _ _
    unfold x7_soon
    refine s7_isOne_t hM hF hc ?_
    show if _ then _ else _
    rw [if_neg (by decide), show (0 : Int32) = nI 0 from rfl]
    refine s7_lay (by decide) (by decide) (by decide) (by decide) (by decide) (fun σ1 c1 c2 c3 => ?_)
    have hM1 : StM 72 0 σ1 F := fun j hj => by rw [c1 j hj]; exact hM j hj
    have key : ∀ f t τ, t ≤ 61 → 61 < t + f → t ≤ wI F c (F (29 + c)) → StM 72 0 τ (pasN F t) → (∀ i, i ≠ 72 → τ i = σ i) → x7_soon_26 (nI c) (fun r2 σ2 => fmI F c (F (29 + c)) = r2 ∧ Rel σ2) f (nI t) τ := by
      intro f
      induction f with
      | zero => intro t τ h1 h2; omega
      | succ f ih =>
        intro t τ h1 h2 h3 b1 b2
        unfold x7_soon_26
        have hWF := pasN_WF hF t (by omega)
        have wc := wI_cases F c (F (29 + c))
        by_cases q : 60 < t
        · rw [if_pos (by rw [show (60 : Int32) = nI 60 from rfl, nI_ltI (by decide) (by omega)]; exact q)]
          refine ⟨?_, hR.scr (onl_72 b2)⟩
          unfold fmI
          rw [if_neg (by omega)]
        · rw [if_neg (by rw [show (60 : Int32) = nI 60 from rfl, nI_ltI (by decide) (by omega)]; exact q)]
          have p3 : pasN F t 3 = F 3 := pasN_lo F (by decide) (by decide) t
          refine s7_pass rfl b1 hWF (fun τ1 d1 d2 => ?_)
          have b3 : ∀ i, i ≠ 72 → τ1 i = σ i := fun i hi => by rw [d2 i hi, b2 i hi]
          refine s7_has (mskL_64 _ hWF.2.2.2.2.1) (by omega) ?_
          have hg : mts (pasN F t) / 2 ^ c % 2 = if mt (pasN F t) c then 1 else 0 := mskL_get (mt (pasN F t)) (by omega)
          show if _ then _ else _
          rw [hg, (run_at hF hc t (by omega)).2.2]
          by_cases z : wI F c (F (29 + c)) ≤ t
          · rw [show (if decide (wI F c (F (29 + c)) ≤ t) = true then 1 else 0) = 1 by simp [z], if_neg (by decide)]
            refine ⟨?_, hR.scr (onl_72 b3)⟩
            unfold fmI
            rw [if_pos (by omega), show wI F c (F (29 + c)) = t by omega]
          · rw [show (if decide (wI F c (F (29 + c)) ≤ t) = true then 1 else 0) = 0 by simp; omega, if_pos (by decide), show nI t + 1 = nI (t + 1) from nI_1 t]
            exact ih (t + 1) τ1 (by omega) (by omega) (by omega) d1 b3
    exact ⟨62, key 62 0 σ1 (by decide) (by decide) (Nat.zero_le _) hM1 c3⟩
  · refine s5_hasCaller_f hC.2.1 h63 ha ?_
    show if _ then _ else _
    rw [if_pos (by decide)]
    show x7_soon _ _ _
    unfold x7_soon
    refine s7_isOne_f hM hF ha ?_
    show if _ then _ else _
    rw [if_pos (by decide)]
    exact ⟨rfl, hR⟩
def vAh (F : Fn) (c n w : Nat) : Int32 := if w = 0 then nI ((F (41 + c) + min n (wI F c (F (29 + c)))) % F 2) else nI (F (47 + c) + (n - wI F c (F (29 + c))))
theorem s6_ahead {σ : St} {F : Fn} {k : Int32 → St → Prop} (hC : StC 19 σ F) (hF : WF F) {c n w : Nat} (hc : c < F 3) (hn : n ≤ 60) (hw' : w < 2) (h : k (vAh F c n w) σ) : x6_ahead (nI c) (nI n) (nI w) σ k := by
  have h62 := hF.2.2.2.1
  have h63 := hF.2.2.2.2.1
  have hw := hF.2.2.2.2.2.2.2.1 c hc
  have hb47 := hF.1 (47 + c) (by omega)
  have hb41 := hF.1 (41 + c) (by omega)
  have wc := wI_cases F c (F (29 + c))
  have ec := hC.2.2.2.2.2.2 c hc
  unfold x6_ahead
  refine s5_hasCaller_t hC.2.1 h63 hc ?_
  show if _ then _ else _
  rw [if_neg (by decide), if_neg (nI_pos (by omega)), if_neg (by rw [show (60 : Int32) = nI 60 from rfl, nI_ltI (by decide) (by omega)]; omega)]
  refine s6_isBit_t hw' ?_
  show if _ then _ else _
  rw [if_neg (by decide), nI_clamp (by omega)]
  refine ⟨(vpI (by omega)).mpr (by show c < 6; omega), ?_⟩
  rw [show σ (19 + 5) c = nI (F (29 + c)) from ec.1]
  refine s5_firstMeeting rfl hC hF hc hw.1 ?_
  have go : x6_ahead_67 (nI c) (nI n) (nI w) (nI (min n (wI F c (F (29 + c))))) σ k := by
    unfold x6_ahead_67 x6_ahead_100
    unfold vAh at h
    rcases (show w = 0 ∨ w = 1 by omega) with rfl | rfl
    · rw [if_pos (by decide)]
      rw [if_pos rfl] at h
      exact s5_placeAfter (n := F 2) (p := F (41 + c)) rfl hC.1 (by omega) (by omega) ec.2.1 (by omega) (by omega) h
    · rw [if_neg (by decide), nI_clamp (by omega)]
      rw [if_neg (by decide)] at h
      refine ⟨(vpI (by omega)).mpr (by show c < 6; omega), ?_⟩
      rw [show σ (19 + 8) c = nI (F (47 + c)) from ec.2.2.2, nI_add, pk_sub (by omega), show F (47 + c) + n - min n (wI F c (F (29 + c))) = F (47 + c) + (n - wI F c (F (29 + c))) by omega]
      exact h
  unfold fmI
  show if _ then _ else _
  by_cases q : wI F c (F (29 + c)) < 6
  · rw [if_pos q, if_neg (by generalize wI F c (F (29 + c)) = W at q; rcases (show W = 0 ∨ W = 1 ∨ W = 2 ∨ W = 3 ∨ W = 4 ∨ W = 5 by omega) with rfl | rfl | rfl | rfl | rfl | rfl <;> decide), iminI (by omega) (by omega)]
    exact go
  · rw [if_neg q, if_pos rfl]
    rw [show min n (wI F c (F (29 + c))) = n by omega] at go
    exact go
theorem s7_ahead {σ : St} {F : Fn} {k : Int32 → St → Prop} (hM : StM 70 0 σ F) (hF : WF F) (h4 : F 4 ≤ 999) {c n w : Nat} (hc : c < F 3) (hn : n ≤ 60) (hw' : w < 2) (h : ∀ σ', (∀ i, i ≠ 72 → σ' i = σ i) → k (vAh F c n w) σ') : x7_ahead (nI c) (nI n) (nI w) σ k := by
  have h63 := hF.2.2.2.2.1
  unfold x7_ahead
  refine s7_isOne_t hM hF hc ?_
  show if _ then _ else _
  rw [if_neg (by decide)]
  refine in_lit_t (m := 60) hn (by decide) ?_
  show if _ then _ else _
  rw [if_neg (by decide)]
  refine in_lit_t (m := 1) (by omega) (by decide) ?_
  show if _ then _ else _
  rw [if_neg (by decide), show (0 : Int32) = nI 0 from rfl]
  refine s7_lay (by decide) (by decide) (by decide) (by decide) (by decide) (fun σ1 c1 c2 c3 => ?_)
  have hM1 : StM 72 0 σ1 F := fun j hj => by rw [c1 j hj]; exact hM j hj
  have key : ∀ f t τ, t ≤ n → n < t + f → StM 72 0 τ (pasN F t) → (∀ i, i ≠ 72 → τ i = σ i) → x7_ahead_46 (nI c) (nI n) (nI w) k f (nI t) τ := by
    intro f
    induction f with
    | zero => intro t τ h1 h2; omega
    | succ f ih =>
      intro t τ h1 h2 b1 b2
      unfold x7_ahead_46 x7_ahead_91
      by_cases q : n ≤ t
      · have : t = n := by omega
        subst this
        rw [if_pos (nI_le (by omega) (by omega))]
        have hh := h τ b2
        unfold vAh at hh
        have ra := run_at hF hc t (by omega)
        rw [← ra.1, ← ra.2.1] at hh
        rw [show (41 : Int32) + nI c = nI (41 + c) from nI_add 41 c, show (47 : Int32) + nI c = nI (47 + c) from nI_add 47 c, nI_clamp (by omega), nI_clamp (by omega), m72 b1 (by omega), m72 b1 (by omega)]
        rcases (show w = 0 ∨ w = 1 by omega) with rfl | rfl
        · rw [if_pos (by decide)]
          rw [if_pos rfl] at hh
          exact ⟨(vpI (by omega)).mpr (by show 41 + c < 53; omega), hh⟩
        · rw [if_neg (by decide)]
          rw [if_neg (by decide)] at hh
          exact ⟨(vpI (by omega)).mpr (by show 47 + c < 53; omega), hh⟩
      · rw [if_neg (nI_ge (by omega) (by omega))]
        refine s7_pass rfl b1 (pasN_WF hF t (by omega)) (fun τ1 d1 d2 => ?_)
        rw [show nI t + 1 = nI (t + 1) from nI_1 t]
        exact ih (t + 1) τ1 (by omega) (by omega) d1 (fun i hi => by rw [d2 i hi, b2 i hi])
  exact ⟨n + 1, key (n + 1) 0 σ1 (Nat.zero_le _) (by omega) hM1 c3⟩
theorem sp16 : Sp16 Rel := by
  intro a b e σ hR
  obtain ⟨F, ⟨hF, h4, hC, hM⟩, hI, n, nx, S, hA⟩ := hR.2.2.2.2.2
  have h63 := hF.2.2.2.2.1
  by_cases ha : has a (F 3)
  · obtain ⟨c, hc, rfl⟩ := ha
    by_cases hb : has b 61
    · obtain ⟨m, hm, rfl⟩ := hb
      by_cases he : has e 2
      · obtain ⟨w, hw, rfl⟩ := he
        exact s6_ahead hC hF hc (by omega) hw (s7_ahead hM hF h4 hc (by omega) hw (fun σ' e => ⟨rfl, hR.scr (onl_72 e)⟩))
      · unfold x6_ahead x6_ahead_28 x7_ahead x7_ahead_27
        refine s5_hasCaller_t hC.2.1 h63 hc ?_
        show if _ then _ else _
        rw [if_neg (by decide), if_neg (nI_pos (by omega)), if_neg (by rw [show (60 : Int32) = nI 60 from rfl, nI_ltI (by decide) (by omega)]; omega)]
        refine s6_isBit_f he ?_
        show if _ then _ else _
        rw [if_pos (by decide)]
        refine s7_isOne_t hM hF hc ?_
        show if _ then _ else _
        rw [if_neg (by decide)]
        refine in_lit_t (m := 60) (by omega) (by decide) ?_
        show if _ then _ else _
        rw [if_neg (by decide)]
        refine in_lit_f (m := 1) (by decide) he ?_
        show if _ then _ else _
        rw [if_pos (by decide)]
        exact ⟨rfl, hR⟩
    · have e6 : ∀ k : Int32 → St → Prop, k (-1000001) σ → x6_ahead (nI c) b e σ k := by
        intro k h
        unfold x6_ahead x6_ahead_28
        refine s5_hasCaller_t hC.2.1 h63 hc ?_
        show if _ then _ else _
        rw [if_neg (by decide)]
        by_cases z : b < 0
        · rw [if_pos z]; exact h
        · rw [if_neg z, if_pos (show (60 : Int32) < b from Int32.not_le.mp ((has6 (k := 60) (by decide) hb).resolve_left z))]; exact h
      refine e6 _ ?_
      unfold x7_ahead x7_ahead_27
      refine s7_isOne_t hM hF hc ?_
      show if _ then _ else _
      rw [if_neg (by decide)]
      refine in_lit_f (m := 60) (by decide) hb ?_
      show if _ then _ else _
      rw [if_pos (by decide)]
      exact ⟨rfl, hR⟩
  · unfold x6_ahead x6_ahead_28 x7_ahead x7_ahead_27
    refine s5_hasCaller_f hC.2.1 h63 ha ?_
    show if _ then _ else _
    rw [if_pos (by decide)]
    refine s7_isOne_f hM hF ha ?_
    show if _ then _ else _
    rw [if_pos (by decide)]
    exact ⟨rfl, hR⟩
