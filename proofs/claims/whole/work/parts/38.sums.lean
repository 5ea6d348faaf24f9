/-! SLEEPS: sums -/
def prL (g : Nat → Nat) : Nat → Nat
  | 0 => 1
  | n + 1 => prL g n * g n
def wgt (p m d : Nat) : Nat := if m / 2 ^ d % 2 = 1 then p else 10 - p
def patM (D q m : Nat) : Nat := (if 1 ≤ q then m / 2 ^ (q - 1) % 2 else 0) + 2 * (m / 2 ^ q % 2) + 4 * (if q + 1 < D then m / 2 ^ (q + 1) % 2 else 0)
def patC (D q a : Nat) : Nat := (if 1 ≤ q then a % 2 else 0) + 2 * (a / 2 % 2) + 4 * (if q + 1 < D then a / 4 % 2 else 0)
theorem patM_lt (D q m : Nat) : patM D q m < 8 := by
  unfold patM; split <;> split <;> omega
theorem patC_lt (D q m : Nat) : patC D q m < 8 := by
  unfold patC; split <;> split <;> omega
theorem sl_fin : ∀ D, D < 7 → ∀ q, q < D → ∀ p, p < 11 → ∀ t, t < 8 → smL (fun m => if patM D q m = t then prL (wgt p m) D else 0) (2 ^ D) * 1000 = smL (fun a => if patC D q a = t then prL (wgt p a) 3 else 0) 8 * 10 ^ D := by decide +kernel
theorem smL_grp (G : Nat → Bool) (w pat : Nat → Nat) (hp : ∀ m, pat m < 8) : ∀ n, smL (fun m => if G (pat m) then w m else 0) n = smL (fun t => (if G t then 1 else 0) * smL (fun m => if pat m = t then w m else 0) n) 8 := by
  intro n
  induction n with
  | zero =>
    show 0 = _
    rw [smL_congr (g' := fun _ => 0) 8 (fun t _ => by show _ * 0 = 0; exact Nat.mul_zero _)]
    rfl
  | succ n ih =>
    have e : ∀ t, (if G t then 1 else 0) * smL (fun m => if pat m = t then w m else 0) (n + 1) = (if G t then 1 else 0) * smL (fun m => if pat m = t then w m else 0) n + (if G t then 1 else 0) * (if pat n = t then w n else 0) := fun t => Nat.mul_add _ _ _
    rw [smL_congr 8 (fun t _ => e t), smL_add, ← ih]
    show smL (fun m => if G (pat m) then w m else 0) n + (if G (pat n) then w n else 0) = _
    congr 1
    have := hp n
    rcases (show pat n = 0 ∨ pat n = 1 ∨ pat n = 2 ∨ pat n = 3 ∨ pat n = 4 ∨ pat n = 5 ∨ pat n = 6 ∨ pat n = 7 by omega) with q | q | q | q | q | q | q | q <;> simp [smL, q] <;> split <;> simp
/-- of 10 ^ D cases as many as of 1000 -/
theorem sl_eq (G : Nat → Bool) {D q p : Nat} (hD : D ≤ 6) (hq : q < D) (hp : p ≤ 10) : smL (fun m => if G (patM D q m) then prL (wgt p m) D else 0) (2 ^ D) * 1000 = smL (fun a => if G (patC D q a) then prL (wgt p a) 3 else 0) 8 * 10 ^ D := by
  rw [smL_grp G _ _ (patM_lt D q), smL_grp G _ _ (patC_lt D q)]
  have key : ∀ (f g : Nat → Nat) (n : Nat), (∀ t, t < n → f t * 1000 = g t * 10 ^ D) → smL f n * 1000 = smL g n * 10 ^ D := by
    intro f g n
    induction n with
    | zero => intro _; show 0 * 1000 = 0 * 10 ^ D; omega
    | succ n ih =>
      intro h
      show (smL f n + f n) * 1000 = (smL g n + g n) * 10 ^ D
      rw [Nat.add_mul, Nat.add_mul, ih (fun t ht => h t (by omega)), h n (by omega)]
  refine key _ _ 8 (fun t ht => ?_)
  have := sl_fin D (by omega) q hq p (by omega) t ht
  rw [Nat.mul_assoc, Nat.mul_assoc, this]
theorem sl_1000 : ∀ p, p < 11 → smL (fun a => prL (wgt p a) 3) 8 = 1000 := by decide +kernel
theorem smL_mono {f g : Nat → Nat} : ∀ n, (∀ i, i < n → f i ≤ g i) → smL f n ≤ smL g n := by
  intro n
  induction n with
  | zero => intro _; exact Nat.le_refl _
  | succ n ih =>
    intro h
    have := ih (fun i hi => h i (by omega))
    have := h n (by omega)
    unfold smL; omega
theorem prL_le {g : Nat → Nat} (h : ∀ i, g i ≤ 10) : ∀ n, prL g n ≤ 10 ^ n := by
  intro n
  induction n with
  | zero => exact Nat.le_refl _
  | succ n ih =>
    show prL g n * g n ≤ 10 ^ n * 10
    exact Nat.mul_le_mul ih (h n)
theorem wgt_le {p : Nat} (hp : p ≤ 10) (m i : Nat) : wgt p m i ≤ 10 := by unfold wgt; split <;> omega
/-- two fractions that are one, made short -/
theorem frac {x y a b : Nat} (hy : 0 < y) (hb : 0 < b) (h : x * b = a * y) : x / Nat.gcd x y = a / Nat.gcd b a ∧ y / Nat.gcd x y = b / Nat.gcd b a := by
  have hg : 0 < Nat.gcd x y := Nat.gcd_pos_of_pos_right _ hy
  have hh : 0 < Nat.gcd b a := Nat.gcd_pos_of_pos_left _ hb
  have e : Nat.gcd x y * b = y * Nat.gcd b a := by
    rw [← Nat.gcd_mul_right, h, Nat.mul_comm a y, Nat.gcd_mul_left, Nat.gcd_comm a b]
  obtain ⟨x', hx⟩ := Nat.gcd_dvd_left x y
  obtain ⟨y', hy'⟩ := Nat.gcd_dvd_right x y
  obtain ⟨b', hb'⟩ := Nat.gcd_dvd_left b a
  obtain ⟨a', ha'⟩ := Nat.gcd_dvd_right b a
  generalize Nat.gcd x y = g at *
  generalize Nat.gcd b a = h' at *
  subst hx hy' hb' ha'
  rw [Nat.mul_div_cancel_left _ hg, Nat.mul_div_cancel_left _ hg, Nat.mul_div_cancel_left _ hh, Nat.mul_div_cancel_left _ hh]
  have e2 : y' = b' := by
    have : (g * h') * b' = (g * h') * y' := by
      rw [Nat.mul_assoc, e, Nat.mul_assoc, Nat.mul_assoc, Nat.mul_comm h' y']
    exact (Nat.eq_of_mul_eq_mul_left (Nat.mul_pos hg hh) this).symm
  refine ⟨?_, e2⟩
  subst e2
  have hy0 : 0 < y' := Nat.pos_of_mul_pos_left hy
  have : (g * h' * y') * x' = (g * h' * y') * a' := by
    calc (g * h' * y') * x' = g * x' * (h' * y') := by ac_rfl
      _ = h' * a' * (g * y') := h
      _ = (g * h' * y') * a' := by ac_rfl
  exact Nat.eq_of_mul_eq_mul_left (Nat.mul_pos (Nat.mul_pos hg hh) hy0) this
def eu : Nat → Nat → Nat → Nat
  | 0, a, _ => a
  | n + 1, a, b => if b = 0 then a else eu n b (a % b)
theorem eu_gcd : ∀ x, x < 1001 → eu 64 1000 x = Nat.gcd 1000 x := by decide +kernel
