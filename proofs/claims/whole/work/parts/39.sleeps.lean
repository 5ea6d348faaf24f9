/-! SLEEPS -/
def clr (F : Fn) (P : Nat → Bool) : Fn := fun j => if (11 ≤ j ∧ j < 29) ∧ P ((j - 11) % 6) = true then 0 else F j
theorem clr_o (F : Fn) (P : Nat → Bool) {j : Nat} (h : j < 11 ∨ 29 ≤ j) : clr F P j = F j := if_neg (fun q => by omega)
theorem clr_i (F : Fn) (P : Nat → Bool) {d : Nat} (h : d < 6) : clr F P (11 + d) = (if P d then 0 else F (11 + d)) ∧ clr F P (17 + d) = (if P d then 0 else F (17 + d)) ∧ clr F P (23 + d) = (if P d then 0 else F (23 + d)) := by
  unfold clr
  rw [show (11 + d - 11) % 6 = d by omega, show (17 + d - 11) % 6 = d by omega, show (23 + d - 11) % 6 = d by omega]
  refine ⟨?_, ?_, ?_⟩ <;> by_cases z : P d = true <;> simp [z] <;> omega
theorem clr_WF {F : Fn} (h : WF F) (P : Nat → Bool) : WF (clr F P) := by
  obtain ⟨a0, a1, a2, a3, a4, a5, a6, a7, a8⟩ := h
  have o := fun j h => clr_o F P (j := j) h
  refine ⟨fun j hj => ?_, by rw [o 0 (by decide)]; exact a1, by rw [o 1 (by decide)]; exact a2, by rw [o 2 (by decide)]; exact a3, by rw [o 3 (by decide)]; exact a4, fun d hd => ?_, fun d h1 h2 => ?_, fun c hc => ?_, fun c h1 h2 => ?_⟩
  · unfold clr
    split
    · exact Nat.zero_le _
    · exact a0 j hj
  · rw [o 2 (by decide)] at hd
    have b := a5 d hd
    have i := clr_i F P (d := d) (by omega)
    rw [o (5 + d) (by omega), i.1, i.2.1, i.2.2]
    refine ⟨b.1, ?_, ?_, ?_⟩ <;> split <;> omega
  · rw [o 2 (by decide)] at h2
    have b := a6 d h1 h2
    have i := clr_i F P (d := d) h1
    rw [i.1, i.2.1, i.2.2, b.1, b.2.1, b.2.2]
    refine ⟨?_, ?_, ?_⟩ <;> split <;> rfl
  · rw [o 3 (by decide)] at hc
    rw [o (29 + c) (by omega), o (35 + c) (by omega), o (41 + c) (by omega), o (47 + c) (by omega), o 2 (by decide), o 4 (by decide)]
    exact a7 c hc
  · rw [o 3 (by decide)] at h2
    rw [o (47 + c) (by omega)]; exact a8 c h1 h2
theorem clr_congr {F : Fn} {P Q : Nat → Bool} (h : ∀ d, d < 6 → P d ≠ Q d → F (11 + d) = 0 ∧ F (17 + d) = 0 ∧ F (23 + d) = 0) : ∀ j, clr F P j = clr F Q j := by
  intro j
  by_cases z : 11 ≤ j ∧ j < 29
  · have hd : (j - 11) % 6 < 6 := Nat.mod_lt _ (by decide)
    by_cases e : P ((j - 11) % 6) = Q ((j - 11) % 6)
    · unfold clr; rw [e]
    · have f := h _ hd e
      have f0 : F j = 0 := by
        rcases (show j = 11 + (j - 11) % 6 ∨ j = 17 + (j - 11) % 6 ∨ j = 23 + (j - 11) % 6 by omega) with q | q | q
        · rw [q]; exact f.1
        · rw [q]; exact f.2.1
        · rw [q]; exact f.2.2
      unfold clr
      split <;> split <;> simp [f0]
  · rw [clr_o F P (by omega), clr_o F Q (by omega)]
theorem mt_loc {F G : Fn} {c q : Nat} (e41 : F (41 + c) = q) (h6 : q < 6) (g41 : G (41 + c) = q) (e2 : G 2 = F 2) (e5 : G (5 + q) = F (5 + q)) (e11 : G (11 + q) = F (11 + q)) (e17 : G (17 + q) = F (17 + q)) (e23 : G (23 + q) = F (23 + q)) (e22 : 0 < q → G (22 + q) = F (22 + q)) (e24 : q + 1 < F 2 → G (24 + q) = F (24 + q)) (e29 : G (29 + c) = F (29 + c)) (e35 : G (35 + c) = F (35 + c)) : mt G c = mt F c := by
  have hh : hd G q = hd F q := by
    unfold hd
    rw [e23, e2]
    by_cases z : 0 < q
    · rw [e22 z]
      by_cases y : q + 1 < F 2
      · rw [e24 y]
      · simp [y]
    · by_cases y : q + 1 < F 2
      · rw [e24 y]; simp [z]
      · simp [z, y]
  unfold mt mtA op
  rw [e41, g41, e29, e35, e5, e11, e17, hh]
theorem mt_clr {F : Fn} (hF : WF F) {c : Nat} (hc : c < F 3) {P Q : Nat → Bool} (h0 : 0 < F (41 + c) → P (F (41 + c) - 1) = Q (F (41 + c) - 1)) (h1 : P (F (41 + c)) = Q (F (41 + c))) (h2 : F (41 + c) + 1 < F 2 → P (F (41 + c) + 1) = Q (F (41 + c) + 1)) : mt (clr F P) c = mt (clr F Q) c := by
  have h62 := hF.2.2.2.1
  have h63 := hF.2.2.2.2.1
  have hq := (hF.2.2.2.2.2.2.2.1 c hc).2.2.1
  have o := fun P j h => clr_o F P (j := j) h
  generalize hqq : F (41 + c) = q at *
  have i := fun P => clr_i F P (d := q) (by omega)
  refine mt_loc (q := q) (by rw [o Q (41 + c) (by omega)]; exact hqq) (by omega) (by rw [o P (41 + c) (by omega)]; exact hqq) ?_ ?_ ?_ ?_ ?_ (fun z => ?_) (fun z => ?_) ?_ ?_
  · rw [o P 2 (by decide), o Q 2 (by decide)]
  · rw [o P (5 + q) (by omega), o Q (5 + q) (by omega)]
  · rw [(i P).1, (i Q).1, h1]
  · rw [(i P).2.1, (i Q).2.1, h1]
  · rw [(i P).2.2, (i Q).2.2, h1]
  · have j := fun P => (clr_i F P (d := q - 1) (by omega)).2.2
    rw [show 22 + q = 23 + (q - 1) by omega, j P, j Q, h0 z]
  · rw [o Q 2 (by decide)] at z
    have j := fun P => (clr_i F P (d := q + 1) (by omega)).2.2
    rw [show 24 + q = 23 + (q + 1) by omega, j P, j Q, h2 z]
  · rw [o P (29 + c) (by omega), o Q (29 + c) (by omega)]
  · rw [o P (35 + c) (by omega), o Q (35 + c) (by omega)]
/-- who is asleep, by the class: a tells of the three doors, k of them are asked -/
def p3 (q a k d : Nat) : Bool := decide (q ≤ d + 1 ∧ d + 1 - q < k) && bt a (d + 1 - q)
def pm (m n d : Nat) : Bool := decide (d < n) && bt m d
def mtP (F : Fn) (c t : Nat) : Bool := mt (clr F (p3 (F (41 + c)) t 3)) c
def upM (F : Fn) (c p : Nat) : Nat := smL (fun m => if mtP F c (patM (F 2) (F (41 + c)) m) then prL (wgt p m) (F 2) else 0) (2 ^ F 2)
def csC (F : Fn) (c p : Nat) : Nat := smL (fun a => if mtP F c (patC (F 2) (F (41 + c)) a) then prL (wgt p a) 3 else 0) 8
theorem bt_dm (a c : Nat) : bt a c = decide (a / 2 ^ c % 2 = 1) := rfl
theorem mtP_C {F : Fn} (hF : WF F) {c a : Nat} (hc : c < F 3) (ha : a < 8) : mtP F c (patC (F 2) (F (41 + c)) a) = mtP F c a := by
  have hq := (hF.2.2.2.2.2.2.2.1 c hc).2.2.1
  unfold mtP
  refine mt_clr hF hc (fun z => ?_) ?_ (fun z => ?_) <;> generalize F (41 + c) = q at * <;> unfold p3
  · have e : ∀ q', 0 < q' → q' - 1 + 1 - q' = 0 := fun q' _ => by omega
    rw [e q z]
    have : patC (F 2) q a % 2 = a % 2 := by unfold patC; rw [if_pos (by omega)]; split <;> omega
    unfold bt
    rw [Nat.pow_zero, Nat.div_one, Nat.div_one, this]
  · rw [show q + 1 - q = 1 by omega]
    have : patC (F 2) q a / 2 % 2 = a / 2 % 2 := by unfold patC; split <;> split <;> omega
    unfold bt
    rw [Nat.pow_one, this]
  · rw [show q + 1 + 1 - q = 2 by omega]
    have : patC (F 2) q a / 4 % 2 = a / 4 % 2 := by unfold patC; rw [if_pos z]; split <;> omega
    unfold bt
    rw [show 2 ^ 2 = 4 from rfl, this]
theorem mtP_M {F : Fn} (hF : WF F) {c m : Nat} (hc : c < F 3) : mtP F c (patM (F 2) (F (41 + c)) m) = mt (clr F (pm m (F 2))) c := by
  have hq := (hF.2.2.2.2.2.2.2.1 c hc).2.2.1
  unfold mtP
  refine mt_clr hF hc (fun z => ?_) ?_ (fun z => ?_) <;> generalize F (41 + c) = q at * <;> unfold p3 pm
  · rw [show q - 1 + 1 - q = 0 by omega]
    have : patM (F 2) q m % 2 = m / 2 ^ (q - 1) % 2 := by unfold patM; rw [if_pos (by omega)]; split <;> omega
    unfold bt
    rw [Nat.pow_zero, Nat.div_one, this, decide_eq_true (show q ≤ q - 1 + 1 ∧ 0 < 3 by omega), decide_eq_true (show q - 1 < F 2 by omega)]
  · rw [show q + 1 - q = 1 by omega]
    have : patM (F 2) q m / 2 % 2 = m / 2 ^ q % 2 := by unfold patM; split <;> split <;> omega
    unfold bt
    rw [Nat.pow_one, this, decide_eq_true (show q ≤ q + 1 ∧ 1 < 3 by omega), decide_eq_true (show q < F 2 by omega)]
  · rw [show q + 1 + 1 - q = 2 by omega]
    have : patM (F 2) q m / 4 % 2 = m / 2 ^ (q + 1) % 2 := by unfold patM; rw [if_pos z]; split <;> omega
    unfold bt
    rw [show 2 ^ 2 = 4 from rfl, this, decide_eq_true (show q ≤ q + 1 + 1 ∧ 2 < 3 by omega), decide_eq_true (show q + 1 < F 2 by omega)]
