/-! A DAY, in the model -/
def fup (F : Fn) (j v : Nat) : Fn := fun i => if i = j then v else F i
theorem fup_s (F : Fn) (j v : Nat) : fup F j v j = v := if_pos rfl
theorem fup_n (F : Fn) {i j : Nat} (v : Nat) (h : i ≠ j) : fup F j v i = F i := if_neg h
theorem StM.congr {a o : Nat} {σ : St} {F G : Fn} (h : StM a o σ F) (e : ∀ j, j < 53 → F j = G j) : StM a o σ G := fun j hj => by rw [← e j hj]; exact h j hj
theorem StM.cell {a o : Nat} {σ σ' : St} {F : Fn} (h : StM a o σ F) (e : σ' a = σ a) : StM a o σ' F := fun j hj => by rw [e]; exact h j hj
theorem StM.up {a o : Nat} {σ : St} {F : Fn} (h : StM a o σ F) {j : Nat} (v : Nat) : StM a o (st_up σ a (o + j) (nI v)) (fup F j v) := by
  intro i hi
  by_cases e : i = j
  · subst e; rw [up_s, fup_s]
  · rw [up_n _ _ (Or.inr (by omega)), fup_n _ _ e]; exact h i hi
def pasP (F : Fn) (c : Nat) : Fn := fun j => if 41 ≤ j ∧ j < 41 + c ∧ mt F (j - 41) = false then (F j + 1) % F 2 else if 47 ≤ j ∧ j < 47 + c ∧ mt F (j - 47) = true then F j + 1 else F j
theorem pasP_0 (F : Fn) (j : Nat) : pasP F 0 j = F j := by unfold pasP; rw [if_neg (by omega), if_neg (by omega)]
theorem pasP_lo (F : Fn) (c : Nat) {j : Nat} (h : j < 41) : pasP F c j = F j := by unfold pasP; rw [if_neg (by omega), if_neg (by omega)]
theorem pasP_at (F : Fn) {c i : Nat} (hc : c ≤ 6) (hi : i < 6) (h : c ≤ i) : pasP F c (41 + i) = F (41 + i) ∧ pasP F c (47 + i) = F (47 + i) := by
  unfold pasP
  rw [if_neg (by omega), if_neg (by omega), if_neg (by omega), if_neg (by omega)]
  exact ⟨rfl, rfl⟩
theorem pasP_t (F : Fn) {c : Nat} (hc : c < 6) (hm : mt F c = true) (j : Nat) (hj : j < 53) : fup (pasP F c) (47 + c) (F (47 + c) + 1) j = pasP F (c + 1) j := by
  by_cases e : j = 47 + c
  · subst e
    rw [fup_s]
    unfold pasP
    rw [if_neg (by omega), if_pos ⟨by omega, by omega, by rw [Nat.add_sub_cancel_left]; exact hm⟩]
  · rw [fup_n _ _ e]
    unfold pasP
    by_cases e2 : j = 41 + c
    · subst e2
      rw [if_neg (by omega), if_neg (by omega), if_neg (by rw [Nat.add_sub_cancel_left, hm]; rintro ⟨_, _, q⟩; cases q), if_neg (by omega)]
    · have a1 : (41 ≤ j ∧ j < 41 + c ∧ mt F (j - 41) = false) ↔ (41 ≤ j ∧ j < 41 + (c + 1) ∧ mt F (j - 41) = false) := ⟨fun q => ⟨q.1, by omega, q.2.2⟩, fun q => ⟨q.1, by omega, q.2.2⟩⟩
      have a2 : (47 ≤ j ∧ j < 47 + c ∧ mt F (j - 47) = true) ↔ (47 ≤ j ∧ j < 47 + (c + 1) ∧ mt F (j - 47) = true) := ⟨fun q => ⟨q.1, by omega, q.2.2⟩, fun q => ⟨q.1, by omega, q.2.2⟩⟩
      simp only [a1, a2]
theorem pasP_f (F : Fn) {c : Nat} (hc : c < 6) (hm : mt F c = false) (j : Nat) (hj : j < 53) : fup (pasP F c) (41 + c) ((F (41 + c) + 1) % F 2) j = pasP F (c + 1) j := by
  by_cases e : j = 41 + c
  · subst e
    rw [fup_s]
    unfold pasP
    rw [if_pos ⟨by omega, by omega, by rw [Nat.add_sub_cancel_left]; exact hm⟩]
  · rw [fup_n _ _ e]
    unfold pasP
    by_cases e2 : j = 47 + c
    · subst e2
      rw [if_neg (by omega), if_neg (by omega), if_neg (by omega), if_neg (by rw [Nat.add_sub_cancel_left, hm]; rintro ⟨_, _, q⟩; cases q)]
    · have a1 : (41 ≤ j ∧ j < 41 + c ∧ mt F (j - 41) = false) ↔ (41 ≤ j ∧ j < 41 + (c + 1) ∧ mt F (j - 41) = false) := ⟨fun q => ⟨q.1, by omega, q.2.2⟩, fun q => ⟨q.1, by omega, q.2.2⟩⟩
      have a2 : (47 ≤ j ∧ j < 47 + c ∧ mt F (j - 47) = true) ↔ (47 ≤ j ∧ j < 47 + (c + 1) ∧ mt F (j - 47) = true) := ⟨fun q => ⟨q.1, by omega, q.2.2⟩, fun q => ⟨q.1, by omega, q.2.2⟩⟩
      simp only [a1, a2]
theorem pasP_end (F : Fn) (j : Nat) : fup (pasP F (F 3)) 4 (F 4 + 1) j = pas F j := by
  unfold fup pas pasP
  rfl
theorem pas_lo (F : Fn) {j : Nat} (h : j < 41) (h4 : j ≠ 4) : pas F j = F j := by rw [← pasP_end, fup_n _ _ h4, pasP_lo F _ h]
theorem pas_4 (F : Fn) : pas F 4 = F 4 + 1 := by rw [← pasP_end, fup_s]
theorem pas_41 (F : Fn) {c : Nat} (h3 : F 3 ≤ 6) (hc : c < F 3) : pas F (41 + c) = if mt F c then F (41 + c) else (F (41 + c) + 1) % F 2 := by
  unfold pas
  rw [if_neg (by omega)]
  cases hm : mt F c with
  | true => rw [if_neg (by rw [Nat.add_sub_cancel_left, hm]; rintro ⟨_, _, q⟩; cases q), if_neg (by omega)]; rfl
  | false => rw [if_pos ⟨by omega, by omega, by rw [Nat.add_sub_cancel_left]; exact hm⟩]; rfl
theorem pas_47 (F : Fn) {c : Nat} (h3 : F 3 ≤ 6) (hc : c < F 3) : pas F (47 + c) = if mt F c then F (47 + c) + 1 else F (47 + c) := by
  unfold pas
  rw [if_neg (by omega), if_neg (by omega)]
  cases hm : mt F c with
  | true => rw [if_pos ⟨by omega, by omega, by rw [Nat.add_sub_cancel_left]; exact hm⟩]; rfl
  | false => rw [if_neg (by rw [Nat.add_sub_cancel_left, hm]; rintro ⟨_, _, q⟩; cases q)]; rfl
theorem pas_47o (F : Fn) {c : Nat} (h3 : F 3 ≤ c) (hc : c < 6) : pas F (47 + c) = F (47 + c) := by
  unfold pas
  rw [if_neg (by omega), if_neg (by omega), if_neg (by omega)]
theorem pas_le (F : Fn) (j : Nat) : pas F j ≤ F j + 1 := by
  unfold pas
  split
  · subst_vars; omega
  · split
    · exact Nat.mod_le _ _
    · split <;> omega
theorem pas_WF {F : Fn} (h : WF F) (h4 : ∀ j, j < 53 → F j ≤ 4999) : WF (pas F) := by
  have h2 : pas F 2 = F 2 := pas_lo F (by decide) (by decide)
  have h3 : pas F 3 = F 3 := pas_lo F (by decide) (by decide)
  refine ⟨fun j hj => Nat.le_trans (pas_le F j) (by have := h4 j hj; omega), ?_, ?_, ?_, ?_, ?_, ?_, ?_, ?_⟩
  · rw [pas_lo F (by decide) (by decide)]; exact h.2.1
  · rw [pas_lo F (by decide) (by decide)]; exact h.2.2.1
  · rw [h2]; exact h.2.2.2.1
  · rw [h3]; exact h.2.2.2.2.1
  · intro d hd'
    rw [h2] at hd'
    have := h.2.2.2.1
    rw [pas_lo F (by omega) (by omega), pas_lo F (by omega) (by omega), pas_lo F (by omega) (by omega), pas_lo F (by omega) (by omega)]
    exact h.2.2.2.2.2.1 d hd'
  · intro d hd6 hd'
    rw [h2] at hd'
    rw [pas_lo F (by omega) (by omega), pas_lo F (by omega) (by omega), pas_lo F (by omega) (by omega)]
    exact h.2.2.2.2.2.2.1 d hd6 hd'
  · intro c hc
    rw [h3] at hc
    have h63 := h.2.2.2.2.1
    have hw := h.2.2.2.2.2.2.2.1 c hc
    rw [pas_lo F (by omega) (by omega), pas_lo F (by omega) (by omega), pas_41 F h63 hc, pas_47 F h63 hc, h2, pas_4]
    refine ⟨hw.1, hw.2.1, ?_, ?_⟩
    · split
      · exact hw.2.2.1
      · exact Nat.mod_lt _ (by omega)
    · split <;> omega
  · intro c hc hc2
    rw [h3] at hc2
    rw [pas_47o F hc2 hc]
    exact h.2.2.2.2.2.2.2.2 c hc hc2
section MODEL2
variable {a : Nat} {F : Fn} {k : Int32 → St → Prop}
theorem s7_has {s c : Nat} {σ : St} (hs : s < 64) (hc : c < 8) (h : k (nI (s / 2 ^ c % 2)) σ) : x7_has (nI s) (nI c) σ k := by
  unfold x7_has x7_has_14
  simp only [lI, bitI s hs c hc]
  have := Nat.mod_lt (s / 2 ^ c) (show 0 < 2 by decide)
  rcases (show s / 2 ^ c % 2 = 0 ∨ s / 2 ^ c % 2 = 1 by omega) with e | e
  · rw [e] at h ⊢; rw [if_neg (by decide)]; exact ⟨Or.inl rfl, h⟩
  · rw [e] at h ⊢; rw [if_pos rfl]; exact ⟨Or.inr rfl, h⟩
theorem s7_pass_7 (ha : ln a = 53) (hF : WF F) {σ0 : St} (h : ∀ σ, StM a 0 σ (pas F) → (∀ i, i ≠ a → σ i = σ0 i) → k (nI (mts F)) σ) : ∀ n c σ, c ≤ F 3 → F 3 < c + n → StM a 0 σ (pasP F c) → (∀ i, i ≠ a → σ i = σ0 i) → x7_pass_7 a k n (nI (mts F)) (nI c) σ := by
  have h63 : F 3 ≤ 6 := hF.2.2.2.2.1
  have h62 : F 2 ≤ 6 := hF.2.2.2.1
  have hB : ∀ j, j < 53 → F j < 5001 := fun j hj => by have := hF.1 j hj; omega
  intro n
  induction n with
  | zero => intro c σ h1 h2; omega
  | succ n ih =>
    intro c σ h1 h2 hS hfr
    have hv : ∀ j, j < 53 → σ a j = nI (pasP F c j) := fun j hj => by have := hS j hj; rwa [Nat.zero_add] at this
    unfold x7_pass_7 x7_pass_53 lt
    have e3 : σ a 3 = nI (F 3) := by rw [hv 3 (by decide), pasP_lo F c (by decide)]
    have e4 : σ a 4 = nI (F 4) := by rw [hv 4 (by decide), pasP_lo F c (by decide)]
    have e2 : σ a 2 = nI (F 2) := by rw [hv 2 (by decide), pasP_lo F c (by decide)]
    have b4 := hB 4 (by decide)
    simp (disch := omega) only [lI, nI_add, pk_mul, nI_leI, nI_ltI, nI_eq, nI_clamp, vpI, pk_sub, isB0, isB1, ha, e3, e4]
    refine ⟨by omega, ?_⟩
    by_cases q : F 3 ≤ c
    · rw [if_pos q]
      have hc : c = F 3 := by omega
      subst hc
      refine ⟨by omega, by omega, h _ ?_ ?_⟩
      · have := hS.up (j := 4) (F 4 + 1)
        rw [Nat.zero_add] at this
        exact this.congr (fun j _ => pasP_end F j)
      · intro i hi; rw [st_up_ne _ _ _ hi]; exact hfr i hi
    · rw [if_neg q]
      have hcl : c < F 3 := by omega
      have hw := hF.2.2.2.2.2.2.2.1 c hcl
      have hat := pasP_at F (c := c) (i := c) (by omega) (by omega) (Nat.le_refl _)
      have e41 : σ a (41 + c) = nI (F (41 + c)) := by rw [hv _ (by omega), hat.1]
      have e47 : σ a (47 + c) = nI (F (47 + c)) := by rw [hv _ (by omega), hat.2]
      have b41 := hB (41 + c) (by omega)
      have b47 := hB (47 + c) (by omega)
      refine s7_has (mskL_64 _ h63) (by omega) ?_
      show if _ then _ else _
      have hg : mts F / 2 ^ c % 2 = if mt F c then 1 else 0 := mskL_get (mt F) hcl
      rw [hg]
      cases hm : mt F c with
      | true =>
        rw [if_neg (by decide)]
        simp (disch := omega) only [lI, nI_add, pk_mul, nI_leI, nI_ltI, nI_eq, nI_clamp, vpI, pk_sub, isB0, isB1, ha, e47]
        refine ⟨by omega, by omega, ih (c + 1) _ (by omega) (by omega) ?_ ?_⟩
        · have := hS.up (j := 47 + c) (F (47 + c) + 1)
          rw [Nat.zero_add] at this
          exact this.congr (fun j hj => pasP_t F (by omega) hm j hj)
        · intro i hi; rw [st_up_ne _ _ _ hi]; exact hfr i hi
      | false =>
        rw [if_pos (by decide)]
        simp (disch := omega) only [lI, nI_add, pk_mul, nI_leI, nI_ltI, nI_eq, nI_clamp, vpI, pk_sub, isB0, isB1, ha, e41, e2, remI]
        refine ⟨by omega, by omega, by omega, by omega, ih (c + 1) _ (by omega) (by omega) ?_ ?_⟩
        · have := hS.up (j := 41 + c) ((F (41 + c) + 1) % F 2)
          rw [Nat.zero_add] at this
          exact this.congr (fun j hj => pasP_f F (by omega) hm j hj)
        · intro i hi; rw [st_up_ne _ _ _ hi]; exact hfr i hi
theorem s7_pass {σ : St} (ha : ln a = 53) (hS : StM a 0 σ F) (hF : WF F) (h : ∀ σ', StM a 0 σ' (pas F) → (∀ i, i ≠ a → σ' i = σ i) → k (nI (mts F)) σ') : x7_pass a σ k := by
  unfold x7_pass
  refine s7_meetersOf ha hS hF ⟨8, ?_⟩
  exact s7_pass_7 ha hF h 8 0 σ (Nat.zero_le _) (by have := hF.2.2.2.2.1; omega) (hS.congr (fun j _ => (pasP_0 F j).symm)) (fun _ _ => rfl)
end MODEL2
