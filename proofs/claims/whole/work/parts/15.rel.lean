/-! WHAT THE TWO HAVE IN COMMON -/
/-- which part a slot belongs to: 0 nothing that lasts, 1 rows, 2 status, 3 fault, 4 tape, 5 trace, 6 street, images, acts -/
def cm (i j : Nat) : Nat :=
  if i = 0 then (if j = 8 then 3 else if j = 9 then 2 else 0)
  else if i ≤ 17 then (if i = 1 then 0 else 1)
  else if i = 18 then 0
  else if i ≤ 27 then 6
  else if i ≤ 36 then 0
  else if i ≤ 54 then 6
  else if i = 55 then (if j = 1 then 4 else 0)
  else if i = 56 then 4
  else if i ≤ 60 then 6
  else if i ≤ 62 then 0
  else if i = 63 then (if j = 1 then 5 else 0)
  else if i = 64 then 5
  else if i = 65 then (if j = 3 then 2 else if j = 4 then 4 else if j = 10 then 3 else if j = 18 then 6 else if j = 20 then 5 else 0)
  else if i ≤ 68 then 1
  else if i = 69 then 4
  else if i = 70 then 6
  else if i ≤ 72 then 0
  else if i ≤ 75 then 6
  else if i = 76 then 5
  else 0
def agr (c : Nat) (σ σ' : St) : Prop := ∀ i j, cm i j = c → σ' i j = σ i j
/-- nothing that lasts has changed, but what is of the part c -/
def onl (c : Nat) (σ σ' : St) : Prop := ∀ i j, cm i j ≠ 0 → cm i j ≠ c → σ' i j = σ i j
theorem onl.rf {c : Nat} {σ : St} : onl c σ σ := fun _ _ _ _ => rfl
theorem onl.tr {c : Nat} {σ σ1 σ2 : St} (h : onl c σ σ1) (g : onl c σ1 σ2) : onl c σ σ2 := fun i j h1 h2 => (g i j h1 h2).trans (h i j h1 h2)
theorem onl.up {c : Nat} {σ σ1 : St} (h : onl c σ σ1) {i j : Nat} {v : Int32} (hc : cm i j = 0 ∨ cm i j = c) : onl c σ (st_up σ1 i j v) := fun a b h1 h2 => by
  rw [up_n _ _ (by
    by_cases e : a = i
    · right; rintro rfl; subst e; rcases hc with q | q
      · exact h1 q
      · exact h2 q
    · exact Or.inl e)]
  exact h a b h1 h2
theorem onl.cell {c : Nat} {σ σ1 : St} {a : Nat} (ha : ∀ j, cm a j = 0 ∨ cm a j = c) (h : ∀ i, i ≠ a → σ1 i = σ i) : onl c σ σ1 := fun i j h1 h2 => by
  by_cases e : i = a
  · subst e; rcases ha j with q | q
    · exact absurd q h1
    · exact absurd q h2
  · rw [h i e]
theorem onl.wk {c : Nat} {σ σ1 : St} (h : onl 0 σ σ1) : onl c σ σ1 := fun i j h1 _ => h i j h1 h1
theorem onl.agr {c d : Nat} {σ σ1 : St} (h : onl c σ σ1) (h1 : d ≠ 0) (h2 : d ≠ c) : agr d σ σ1 := fun i j e => h i j (by rw [e]; exact h1) (by rw [e]; exact h2)
theorem cm_tr (i j : Nat) (h : 28 ≤ i ∧ i ≤ 36) : cm i j = 0 := by
  unfold cm
  rw [if_neg (by omega), if_neg (by omega), if_neg (by omega), if_neg (by omega), if_pos (by omega)]
theorem cm_he (i j : Nat) (h : 19 ≤ i ∧ i ≤ 27) : cm i j = 6 := by
  unfold cm
  rw [if_neg (by omega), if_neg (by omega), if_neg (by omega), if_pos (by omega)]
theorem cm_im (i j : Nat) (h : 37 ≤ i ∧ i ≤ 54) : cm i j = 6 := by
  unfold cm
  rw [if_neg (by omega), if_neg (by omega), if_neg (by omega), if_neg (by omega), if_neg (by omega), if_pos (by omega)]
theorem cm_ro (i j : Nat) (h : 2 ≤ i ∧ i ≤ 17) : cm i j = 1 := by
  unfold cm
  rw [if_neg (by omega), if_pos (by omega), if_neg (by omega)]
theorem frS.trial {σ σ1 : St} (h : frS 28 σ σ1) : onl 0 σ σ1 := fun i j h1 _ => by
  by_cases e : 28 ≤ i ∧ i ≤ 36
  · exact absurd (cm_tr i j e) h1
  · rw [h i (by omega)]
theorem frS.here {σ σ1 : St} (h : frS 19 σ σ1) : onl 6 σ σ1 := fun i j _ h2 => by
  by_cases e : 19 ≤ i ∧ i ≤ 27
  · exact absurd (cm_he i j e) h2
  · rw [h i (by omega)]
theorem frS.img {b : Nat} {σ σ1 : St} (h : frS b σ σ1) (hb : b = 37 ∨ b = 46) : onl 6 σ σ1 := fun i j _ h2 => by
  by_cases e : 37 ≤ i ∧ i ≤ 54
  · exact absurd (cm_im i j e) h2
  · rw [h i (by omega)]
/-- a row -/
def RowR (r : Nat) (σ : St) : Prop := (σ (2 + 2 * r) 1 = -1 ∧ σ 66 r = -1) ∨ (∃ L n : Nat, L ≤ 2 ∧ n ≤ 40 ∧ σ (2 + 2 * r) 1 = nI L ∧ σ 66 r = nI L ∧ σ (2 + 2 * r) 2 = nI n ∧ σ 67 r = nI n ∧ ∀ i, i < 40 → σ (3 + 2 * r) i = σ 68 (40 * r + i))
def R1 (σ : St) : Prop := ∀ r, r < 8 → RowR r σ
def R2 (σ : St) : Prop := σ 0 9 = σ 65 3
def R3 (σ : St) : Prop := σ 0 8 = σ 65 10
def R4 (σ : St) : Prop := ∃ n, n ≤ 100 ∧ σ 55 1 = nI n ∧ σ 65 4 = nI n ∧ ∀ i, i < n → ∃ v, v ≤ 255 ∧ σ 56 i = nI v ∧ σ 69 i = nI v
def R5 (σ : St) : Prop := ∃ n, n ≤ 16 ∧ σ 63 1 = nI n ∧ σ 65 20 = nI n ∧ ∀ i, i < n → σ 64 i = σ 76 i
def ImgR (q : Nat) (σ : St) : Prop := (σ 74 q = 0 ∧ σ (37 + 9 * q) 8 = nI 0) ∨ (∃ G : Fn, σ 74 q = 1 ∧ WF G ∧ G 4 ≤ 999 ∧ 0 < G 2 ∧ StC (37 + 9 * q) σ G ∧ StM 73 (53 * q) σ G)
/-- what the record (w, d, v) says: undone, T becomes S -/
def UnR (w d v : Nat) (T S : Fn) : Prop := (w = 0 ∧ d < S 2 ∧ v ≤ 1 ∧ ∀ j, j < 53 → S j = fup T (17 + d) v j) ∨ (w = 1 ∧ d < S 2 ∧ v ≤ 1 ∧ ∀ j, j < 53 → S j = fup T (23 + d) v j) ∨ (w = 2 ∧ d < S 2 ∧ v ≤ 5 ∧ ∀ j, j < 53 → S j = fup T (11 + d) v j) ∨ (w = 3 ∧ v = mts S ∧ ∀ j, j < 53 → T j = pas S j)
def RingR (σ : St) (n nx : Nat) (rc : Nat → Nat × Nat × Nat) : Prop := n ≤ 24 ∧ nx < 24 ∧ σ 57 4 = nI n ∧ σ 57 3 = nI nx ∧ ∀ i, i < n → σ 58 ((nx + 24 - n + i) % 24) = nI (rc i).1 ∧ σ 59 ((nx + 24 - n + i) % 24) = nI (rc i).2.1 ∧ σ 60 ((nx + 24 - n + i) % 24) = nI (rc i).2.2
def SnapR (σ : St) (n : Nat) (S : Nat → Fn) : Prop := σ 65 18 = nI n ∧ ∀ i, i < n → StM 75 (53 * i) σ (S i)
def Chn (n : Nat) (rc : Nat → Nat × Nat × Nat) (S : Nat → Fn) (F : Fn) : Prop := ∀ i, i < n → WF (S i) ∧ S i 4 ≤ 999 ∧ UnR (rc i).1 (rc i).2.1 (rc i).2.2 (if i + 1 < n then S (i + 1) else F) (S i)
def ActR (σ : St) (F : Fn) (n nx : Nat) (S : Nat → Fn) : Prop := ∃ rc, RingR σ n nx rc ∧ SnapR σ n S ∧ Chn n rc S F
def HerR (σ : St) (F : Fn) : Prop := WF F ∧ F 4 ≤ 999 ∧ StC 19 σ F ∧ StM 70 0 σ F
def R6 (σ : St) : Prop := ∃ F, HerR σ F ∧ (∀ q, q < 2 → ImgR q σ) ∧ ∃ n nx S, ActR σ F n nx S
def Rel (σ : St) : Prop := R1 σ ∧ R2 σ ∧ R3 σ ∧ R4 σ ∧ R5 σ ∧ R6 σ
theorem RowR.congr {r : Nat} {σ σ' : St} (hr : r < 8) (e : agr 1 σ σ') (h : RowR r σ) : RowR r σ' := by
  have c1 : ∀ j, σ' (2 + 2 * r) j = σ (2 + 2 * r) j := fun j => e _ _ (cm_ro _ _ (by omega))
  have c2 : ∀ j, σ' (3 + 2 * r) j = σ (3 + 2 * r) j := fun j => e _ _ (cm_ro _ _ (by omega))
  have c3 : ∀ j, σ' 66 j = σ 66 j := fun j => e _ _ rfl
  have c4 : ∀ j, σ' 67 j = σ 67 j := fun j => e _ _ rfl
  have c5 : ∀ j, σ' 68 j = σ 68 j := fun j => e _ _ rfl
  rcases h with h | ⟨L, n, h1, h2, h3, h4, h5, h6, h7⟩
  · exact Or.inl ⟨by rw [c1]; exact h.1, by rw [c3]; exact h.2⟩
  · exact Or.inr ⟨L, n, h1, h2, by rw [c1]; exact h3, by rw [c3]; exact h4, by rw [c1]; exact h5, by rw [c4]; exact h6, fun i hi => by rw [c2, c5]; exact h7 i hi⟩
theorem R1.congr {σ σ' : St} (e : agr 1 σ σ') (h : R1 σ) : R1 σ' := fun r hr => (h r hr).congr hr e
theorem R2.congr {σ σ' : St} (e : agr 2 σ σ') (h : R2 σ) : R2 σ' := by unfold R2; rw [e 0 9 rfl, e 65 3 rfl]; exact h
theorem R3.congr {σ σ' : St} (e : agr 3 σ σ') (h : R3 σ) : R3 σ' := by unfold R3; rw [e 0 8 rfl, e 65 10 rfl]; exact h
theorem R4.congr {σ σ' : St} (e : agr 4 σ σ') (h : R4 σ) : R4 σ' := by
  obtain ⟨n, h1, h2, h3, h4⟩ := h
  exact ⟨n, h1, by rw [e 55 1 rfl]; exact h2, by rw [e 65 4 rfl]; exact h3, fun i hi => by rw [e 56 i rfl, e 69 i rfl]; exact h4 i hi⟩
theorem R5.congr {σ σ' : St} (e : agr 5 σ σ') (h : R5 σ) : R5 σ' := by
  obtain ⟨n, h1, h2, h3, h4⟩ := h
  exact ⟨n, h1, by rw [e 63 1 rfl]; exact h2, by rw [e 65 20 rfl]; exact h3, fun i hi => by rw [e 64 i rfl, e 76 i rfl]; exact h4 i hi⟩
theorem HerR.congr {F : Fn} {σ σ' : St} (e : agr 6 σ σ') (h : HerR σ F) : HerR σ' F :=
  ⟨h.1, h.2.1, h.2.2.1.cells (fun i h1 h2 => funext fun j => e i j (cm_he i j (by omega))), h.2.2.2.cell (funext fun j => e 70 j rfl)⟩
theorem ImgR.congr {q : Nat} (hq : q < 2) {σ σ' : St} (e : agr 6 σ σ') (h : ImgR q σ) : ImgR q σ' := by
  rcases h with h | ⟨G, h1, h2, h3, h4, h5, h6⟩
  · exact Or.inl ⟨by rw [e 74 q rfl]; exact h.1, by rw [e _ _ (cm_im _ _ (by omega))]; exact h.2⟩
  · exact Or.inr ⟨G, by rw [e 74 q rfl]; exact h1, h2, h3, h4, h5.cells (fun i h1 h2 => funext fun j => e i j (cm_im i j (by omega))), h6.cell (funext fun j => e 73 j rfl)⟩
theorem RingR.congr {n nx : Nat} {rc : Nat → Nat × Nat × Nat} {σ σ' : St} (e : ∀ i, 57 ≤ i → i ≤ 60 → σ' i = σ i) (h : RingR σ n nx rc) : RingR σ' n nx rc := by
  obtain ⟨h1, h2, h3, h4, h5⟩ := h
  refine ⟨h1, h2, by rw [e 57 (by decide) (by decide)]; exact h3, by rw [e 57 (by decide) (by decide)]; exact h4, fun i hi => ?_⟩
  rw [e 58 (by decide) (by decide), e 59 (by decide) (by decide), e 60 (by decide) (by decide)]
  exact h5 i hi
theorem SnapR.congr {n : Nat} {S : Nat → Fn} {σ σ' : St} (e1 : σ' 65 18 = σ 65 18) (e2 : σ' 75 = σ 75) (h : SnapR σ n S) : SnapR σ' n S := ⟨by rw [e1]; exact h.1, fun i hi => (h.2 i hi).cell e2⟩
theorem ActR.congr {F : Fn} {n nx : Nat} {S : Nat → Fn} {σ σ' : St} (e : agr 6 σ σ') (h : ActR σ F n nx S) : ActR σ' F n nx S := by
  obtain ⟨rc, h1, h2, h3⟩ := h
  refine ⟨rc, h1.congr (fun i a b => funext fun j => ?_), h2.congr (e 65 18 rfl) (funext fun j => e 75 j rfl), h3⟩
  rcases (show i = 57 ∨ i = 58 ∨ i = 59 ∨ i = 60 by omega) with rfl | rfl | rfl | rfl <;> exact e _ _ rfl
theorem R6.congr {σ σ' : St} (e : agr 6 σ σ') (h : R6 σ) : R6 σ' := by
  obtain ⟨F, h1, h2, n, nx, S, h3⟩ := h
  exact ⟨F, h1.congr e, fun q hq => (h2 q hq).congr hq e, n, nx, S, h3.congr e⟩
theorem Rel.scr {σ σ' : St} (h : Rel σ) (e : onl 0 σ σ') : Rel σ' := ⟨h.1.congr (e.agr (by decide) (by decide)), h.2.1.congr (e.agr (by decide) (by decide)), h.2.2.1.congr (e.agr (by decide) (by decide)), h.2.2.2.1.congr (e.agr (by decide) (by decide)), h.2.2.2.2.1.congr (e.agr (by decide) (by decide)), h.2.2.2.2.2.congr (e.agr (by decide) (by decide))⟩
theorem Rel.m1 {σ σ' : St} (h : Rel σ) (e : onl 1 σ σ') (g : R1 σ') : Rel σ' := ⟨g, h.2.1.congr (e.agr (by decide) (by decide)), h.2.2.1.congr (e.agr (by decide) (by decide)), h.2.2.2.1.congr (e.agr (by decide) (by decide)), h.2.2.2.2.1.congr (e.agr (by decide) (by decide)), h.2.2.2.2.2.congr (e.agr (by decide) (by decide))⟩
theorem Rel.m2 {σ σ' : St} (h : Rel σ) (e : onl 2 σ σ') (g : R2 σ') : Rel σ' := ⟨h.1.congr (e.agr (by decide) (by decide)), g, h.2.2.1.congr (e.agr (by decide) (by decide)), h.2.2.2.1.congr (e.agr (by decide) (by decide)), h.2.2.2.2.1.congr (e.agr (by decide) (by decide)), h.2.2.2.2.2.congr (e.agr (by decide) (by decide))⟩
theorem Rel.m3 {σ σ' : St} (h : Rel σ) (e : onl 3 σ σ') (g : R3 σ') : Rel σ' := ⟨h.1.congr (e.agr (by decide) (by decide)), h.2.1.congr (e.agr (by decide) (by decide)), g, h.2.2.2.1.congr (e.agr (by decide) (by decide)), h.2.2.2.2.1.congr (e.agr (by decide) (by decide)), h.2.2.2.2.2.congr (e.agr (by decide) (by decide))⟩
theorem Rel.m4 {σ σ' : St} (h : Rel σ) (e : onl 4 σ σ') (g : R4 σ') : Rel σ' := ⟨h.1.congr (e.agr (by decide) (by decide)), h.2.1.congr (e.agr (by decide) (by decide)), h.2.2.1.congr (e.agr (by decide) (by decide)), g, h.2.2.2.2.1.congr (e.agr (by decide) (by decide)), h.2.2.2.2.2.congr (e.agr (by decide) (by decide))⟩
theorem Rel.m5 {σ σ' : St} (h : Rel σ) (e : onl 5 σ σ') (g : R5 σ') : Rel σ' := ⟨h.1.congr (e.agr (by decide) (by decide)), h.2.1.congr (e.agr (by decide) (by decide)), h.2.2.1.congr (e.agr (by decide) (by decide)), h.2.2.2.1.congr (e.agr (by decide) (by decide)), g, h.2.2.2.2.2.congr (e.agr (by decide) (by decide))⟩
theorem Rel.m6 {σ σ' : St} (h : Rel σ) (e : onl 6 σ σ') (g : R6 σ') : Rel σ' := ⟨h.1.congr (e.agr (by decide) (by decide)), h.2.1.congr (e.agr (by decide) (by decide)), h.2.2.1.congr (e.agr (by decide) (by decide)), h.2.2.2.1.congr (e.agr (by decide) (by decide)), h.2.2.2.2.1.congr (e.agr (by decide) (by decide)), g⟩
/-- at the start -/
theorem Rel0 : Rel σ0 := by
  have hz : ∀ j, j < 53 → nI ((fun _ => 0 : Fn) j) = 0 := fun _ _ => rfl
  have hWF : WF (fun _ => 0) := ⟨fun _ _ => Nat.zero_le _, Nat.zero_le _, Nat.zero_le _, Nat.zero_le _, Nat.zero_le _, fun d h => absurd h (Nat.not_lt_zero _), fun _ _ _ => ⟨rfl, rfl, rfl⟩, fun d h => absurd h (Nat.not_lt_zero _), fun _ _ _ => rfl⟩
  refine ⟨fun r hr => ?_, rfl, rfl, ⟨0, by decide, rfl, rfl, fun i hi => absurd hi (Nat.not_lt_zero _)⟩, ⟨0, by decide, rfl, rfl, fun i hi => absurd hi (Nat.not_lt_zero _)⟩, fun _ => 0, ⟨hWF, Nat.zero_le _, ⟨rfl, rfl, rfl, rfl, rfl, fun d h => absurd h (Nat.not_lt_zero _), fun d h => absurd h (Nat.not_lt_zero _)⟩, fun j _ => rfl⟩, fun q hq => ?_, 0, 0, fun _ _ => 0, fun _ => (0, 0, 0), ⟨by decide, by decide, rfl, rfl, fun i hi => absurd hi (Nat.not_lt_zero _)⟩, ⟨rfl, fun i hi => absurd hi (Nat.not_lt_zero _)⟩, fun i hi => absurd hi (Nat.not_lt_zero _)⟩
  · left
    rcases (show r = 0 ∨ r = 1 ∨ r = 2 ∨ r = 3 ∨ r = 4 ∨ r = 5 ∨ r = 6 ∨ r = 7 by omega) with rfl | rfl | rfl | rfl | rfl | rfl | rfl | rfl <;> exact ⟨rfl, rfl⟩
  · left
    rcases (show q = 0 ∨ q = 1 by omega) with rfl | rfl <;> exact ⟨rfl, rfl⟩
