/-! NUMBERS -/
theorem lI (n : Nat) : (OfNat.ofNat n : Int32) = nI n := rfl
theorem vpI {n N : Nat} (h : n < 2 ^ 31) : vp_in (nI n) N ↔ n < N := by
  unfold vp_in
  rw [nI_clamp h]
  have := nI_pos h
  constructor
  · intro q; omega
  · intro q; rintro (z | z)
    · exact this z
    · omega
theorem isB0 : isB (nI 0) ↔ True := iff_true_intro (Or.inl rfl)
theorem isB1 : isB (nI 1) ↔ True := iff_true_intro (Or.inr rfl)
theorem remI {a d : Nat} (ha : a < 2 ^ 31) (h0 : 0 < d) (hd : d < 2 ^ 31) : nI a % nI d = nI (a % d) := by rw [← irem_eq_mod, pk_rem ha h0 hd]
theorem divI {a d : Nat} (ha : a < 2 ^ 31) (h0 : 0 < d) (hd : d < 2 ^ 31) : nI a / nI d = nI (a / d) := pk_div ha h0 hd
theorem shl1 : ∀ c, c < 8 → nI 1 <<< (nI c &&& nI 31) = nI (2 ^ c) := by decide +kernel
theorem orI : ∀ a, a < 64 → ∀ b, b < 64 → nI a ||| nI b = nI (a ||| b) := by decide +kernel
theorem andI : ∀ a, a < 64 → ∀ b, b < 64 → nI a &&& nI b = nI (a &&& b) := by decide +kernel
theorem xorI : ∀ a, a < 64 → ∀ b, b < 64 → nI a ^^^ nI b = nI (a ^^^ b) := by decide +kernel
theorem bitI : ∀ a, a < 64 → ∀ c, c < 8 → (nI a >>> (nI c &&& nI 31)) &&& nI 1 = nI (a / 2 ^ c % 2) := by decide +kernel
def mskL (P : Nat → Bool) : Nat → Nat
  | 0 => 0
  | n + 1 => if P n then mskL P n ||| 2 ^ n else mskL P n
theorem mskL_lt (P : Nat → Bool) : ∀ n, mskL P n < 2 ^ n := by
  intro n
  induction n with
  | zero => exact Nat.one_pos
  | succ n ih =>
    unfold mskL
    have h1 : mskL P n < 2 ^ (n + 1) := Nat.lt_of_lt_of_le ih (Nat.pow_le_pow_right (by decide) (by omega))
    split
    · exact Nat.or_lt_two_pow h1 (Nat.pow_lt_pow_right (by decide) (by omega))
    · exact h1
theorem mskL_64 (P : Nat → Bool) {n : Nat} (h : n ≤ 6) : mskL P n < 64 := Nat.lt_of_lt_of_le (mskL_lt P n) (show 2 ^ n ≤ 2 ^ 6 from Nat.pow_le_pow_right (by decide) h)
theorem mskL_bit (P : Nat → Bool) : ∀ n c, (mskL P n).testBit c = (decide (c < n) && P c) := by
  intro n
  induction n with
  | zero => intro c; simp [mskL]
  | succ n ih =>
    intro c
    unfold mskL
    by_cases hp : P n = true
    · rw [if_pos hp, Nat.testBit_or, ih, Nat.testBit_two_pow]
      by_cases hc : n = c
      · subst hc; simp [hp]
      · have : decide (n = c) = false := by simp [hc]
        rw [this, Bool.or_false]
        congr 1
        apply Bool.eq_iff_iff.mpr
        simp; omega
    · rw [if_neg hp, ih]
      by_cases hc : n = c
      · subst hc; simp [hp]
      · congr 1
        apply Bool.eq_iff_iff.mpr
        simp; omega
theorem mskL_get (P : Nat → Bool) {n c : Nat} (h : c < n) : mskL P n / 2 ^ c % 2 = if P c then 1 else 0 := by
  have := mskL_bit P n c
  rw [Nat.testBit_eq_decide_div_mod_eq] at this
  simp only [h, decide_true, Bool.true_and] at this
  by_cases hp : P c = true
  · rw [hp] at this; simp only [hp, if_true]; simpa using this
  · have e : P c = false := by simpa using hp
    rw [e] at this
    have : ¬ mskL P n / 2 ^ c % 2 = 1 := by simpa using this
    simp only [e]
    have := Nat.mod_lt (mskL P n / 2 ^ c) (show 0 < 2 by decide)
    simp; omega
def smL (g : Nat → Nat) : Nat → Nat
  | 0 => 0
  | n + 1 => smL g n + g n
theorem smL_le {g : Nat → Nat} {B : Nat} : ∀ n, (∀ i, i < n → g i ≤ B) → smL g n ≤ n * B := by
  intro n
  induction n with
  | zero => intro _; simp [smL]
  | succ n ih =>
    intro h
    have := ih (fun i hi => h i (by omega))
    have := h n (by omega)
    unfold smL
    rw [Nat.succ_mul]
    omega
theorem smL_congr {g g' : Nat → Nat} : ∀ n, (∀ i, i < n → g i = g' i) → smL g n = smL g' n := by
  intro n
  induction n with
  | zero => intro _; rfl
  | succ n ih => intro h; unfold smL; rw [ih (fun i hi => h i (by omega)), h n (by omega)]
theorem smL_zero {g : Nat → Nat} {m : Nat} : ∀ n, m ≤ n → (∀ i, m ≤ i → i < n → g i = 0) → smL g n = smL g m := by
  intro n
  induction n with
  | zero => intro h _; rw [Nat.le_zero.mp h]
  | succ n ih =>
    intro h hz
    rcases Nat.lt_or_ge n m with q | q
    · rw [show m = n + 1 by omega]
    · show smL g n + g n = smL g m
      rw [hz n q (by omega), ih q (fun i h1 h2 => hz i h1 (by omega)), Nat.add_zero]
/-! a place told by an int -/
def has (x : Int32) (n : Nat) : Prop := ∃ j, j < n ∧ x = nI j
theorem has_no {x : Int32} {n : Nat} (hn : n < 2 ^ 31) (h : ¬ has x n) : x < 0 ∨ nI n ≤ x := by
  rcases pk_ix x hn with q | q | ⟨j, hj, rfl⟩
  · exact Or.inl q
  · exact Or.inr q
  · exact absurd ⟨j, hj, rfl⟩ h
theorem has_iff {x : Int32} {n : Nat} (hn : n < 2 ^ 31) : has x n ↔ ¬ x < 0 ∧ ¬ nI n ≤ x := by
  constructor
  · rintro ⟨j, hj, rfl⟩
    exact ⟨nI_pos (by omega), nI_ge hj hn⟩
  · rintro ⟨h1, h2⟩
    rcases pk_ix x hn with q | q | h
    · exact absurd q h1
    · exact absurd q h2
    · exact h
theorem le_pred {x : Int32} {n : Nat} (hn : n < 2 ^ 31) : (nI n - 1 < x) ↔ (nI n ≤ x) := by
  rw [Int32.lt_iff_toInt_lt, Int32.le_iff_toInt_le, nI_toInt hn]
  have e : (nI n - 1).toInt = (n : Int) - 1 := by
    rcases Nat.eq_zero_or_pos n with rfl | h
    · decide
    · rw [show (1 : Int32) = nI 1 from rfl, pk_sub h, nI_toInt (by omega)]; omega
  rw [e]
  omega
/-! states -/
theorem up_s (σ : St) (i j : Nat) (v : Int32) : st_up σ i j v i j = v := by rw [st_up_same]; exact pk_us
theorem up_n (σ : St) {i j a b : Nat} (v : Int32) (h : a ≠ i ∨ b ≠ j) : st_up σ i j v a b = σ a b := by
  by_cases ha : a = i
  · subst ha
    rw [st_up_same]
    exact pk_un (by rcases h with h | h; exact absurd rfl h; exact h)
  · rw [st_up_ne σ j v ha]
theorem cp_in (σ : St) {a sp b dp n j : Nat} (h1 : dp ≤ j) (h2 : j < dp + n) : st_cp σ a sp b dp n b j = σ a (sp + (j - dp)) := by
  unfold st_cp; rw [if_pos rfl]; exact pk_cpy_in h1 h2
theorem cp_out (σ : St) {a sp b dp n j : Nat} (h : j < dp ∨ dp + n ≤ j) : st_cp σ a sp b dp n b j = σ b j := by
  unfold st_cp; rw [if_pos rfl]; exact pk_cpy_out h
theorem cp_n (σ : St) {a sp b dp n i : Nat} (h : i ≠ b) : st_cp σ a sp b dp n i = σ i := by
  unfold st_cp; rw [if_neg h]
