/-! LEAST: layings, as rows of codes: 4 times the stretch, 2 times the cough, the dog -/
section LAY
variable (ft : Nat → Nat → Nat → Bool) (D : Nat)
def h3 (x y z : Nat) : Nat := if x = 1 ∨ y = 1 ∨ z = 1 then 1 else 0
def hh (a : Nat → Nat) (d : Nat) : Nat := h3 (if 0 < d then a (d - 1) % 2 else 0) (a d % 2) (if d + 1 < D then a (d + 1) % 2 else 0)
def hsf (a : Nat → Nat) (pv d0 e : Nat) : Nat := h3 (if e = d0 then pv else a (e - 1) % 2) (a e % 2) (if e + 1 < D then a (e + 1) % 2 else 0)
def Vd (a : Nat → Nat) : Prop := ∀ d, d < D → a d < 24 ∧ ft d (a d / 2) (hh D a d) = true
def Vs (a : Nat → Nat) (pv d0 : Nat) : Prop := ∀ e, d0 ≤ e → e < D → a e < 24 ∧ ft e (a e / 2) (hsf D a pv d0 e) = true
def tsr (a : Nat → Nat) : Nat → Nat → Nat
  | 0, _ => 0
  | n + 1, d => cst (a d) + tsr a n (d + 1)
def lxl (a b : Nat → Nat) : Prop := ∃ d, d < D ∧ (∀ e, e < d → a e = b e) ∧ a d < b d
def Best (b : Nat → Nat) : Prop := Vd ft D b ∧ ∀ a, Vd ft D a → tsr b D 0 ≤ tsr a D 0 ∧ (tsr a D 0 = tsr b D 0 → ¬ lxl D a b)
def hdd (dd nx : Nat) : Nat := h3 (dd / 2) (dd % 2) nx
def trm (C : Nat → Nat) (d dd t nx : Nat) : Nat := if ft d t (hdd dd nx) then t / 2 + t % 2 + dd % 2 + C (2 * (dd % 2) + nx) else 9999
def cbn (C : Nat → Nat) (n d dd t : Nat) : Nat := if n = 0 then min 9999 (trm ft C d dd t 0) else min (min 9999 (trm ft C d dd t 0)) (trm ft C d dd t 1)
def mnL (f : Nat → Nat) : Nat → Nat
  | 0 => 9999
  | n + 1 => min (mnL f n) (f n)
def CT : Nat → Nat → Nat
  | 0 => fun _ => 0
  | n + 1 => fun dd => mnL (fun t => cbn ft (CT n) n (D - (n + 1)) dd t) 12
end LAY
section LAY2
variable {ft : Nat → Nat → Nat → Bool} {D : Nat}
theorem mnL_le {f : Nat → Nat} : ∀ n t, t < n → mnL f n ≤ f t := by
  intro n
  induction n with
  | zero => intro t h; omega
  | succ n ih =>
    intro t h
    unfold mnL
    by_cases z : t = n
    · subst z; omega
    · have := ih t (by omega); omega
theorem mnL_9 {f : Nat → Nat} : ∀ n, mnL f n ≤ 9999 := by
  intro n
  induction n with
  | zero => exact Nat.le_refl _
  | succ n ih => unfold mnL; omega
theorem mnL_at {f : Nat → Nat} : ∀ n, mnL f n < 9999 → ∃ t, t < n ∧ f t = mnL f n := by
  intro n
  induction n with
  | zero => intro h; exact absurd h (Nat.lt_irrefl _)
  | succ n ih =>
    intro h
    unfold mnL at h ⊢
    by_cases z : mnL f n ≤ f n
    · obtain ⟨t, h1, h2⟩ := ih (by omega)
      exact ⟨t, by omega, by omega⟩
    · exact ⟨n, by omega, by omega⟩
theorem tsr_sm (a : Nat → Nat) : ∀ n d, smL (fun i => cst (a i)) d + tsr a n d = smL (fun i => cst (a i)) (d + n) := by
  intro n
  induction n with
  | zero => intro d; rfl
  | succ n ih =>
    intro d
    have := ih (d + 1)
    show smL (fun i => cst (a i)) d + (cst (a d) + tsr a n (d + 1)) = smL (fun i => cst (a i)) (d + (n + 1))
    have e : smL (fun i => cst (a i)) (d + 1) = smL (fun i => cst (a i)) d + cst (a d) := rfl
    rw [show d + (n + 1) = d + 1 + n by omega, ← this, e]
    omega
theorem tsr_congr {a b : Nat → Nat} : ∀ n d, (∀ e, d ≤ e → e < d + n → a e = b e) → tsr a n d = tsr b n d := by
  intro n
  induction n with
  | zero => intro d _; rfl
  | succ n ih =>
    intro d h
    unfold tsr
    rw [h d (Nat.le_refl _) (by omega), ih (d + 1) (fun e h1 h2 => h e (by omega) (by omega))]
theorem cst_le {b : Nat} (h : b < 24) : cst b ≤ 7 := by unfold cst; omega
theorem tsr_le {a : Nat → Nat} : ∀ n d, (∀ e, d ≤ e → e < d + n → a e < 24) → tsr a n d ≤ 7 * n := by
  intro n
  induction n with
  | zero => intro d _; exact Nat.le_refl _
  | succ n ih =>
    intro d h
    have := ih (d + 1) (fun e h1 h2 => h e (by omega) (by omega))
    have := cst_le (h d (Nat.le_refl _) (by omega))
    unfold tsr; omega
theorem Vd_Vs {a : Nat → Nat} : Vd ft D a ↔ Vs ft D a 0 0 := by
  have e : ∀ d, hh D a d = hsf D a 0 0 d := by
    intro d
    unfold hh hsf
    by_cases z : d = 0
    · subst z; rw [if_neg (Nat.lt_irrefl 0), if_pos rfl]
    · rw [if_neg z, if_pos (show 0 < d by omega)]
  constructor
  · intro h x _ hx
    rw [← e]; exact h x hx
  · intro h x hx
    rw [e]; exact h x (Nat.zero_le _) hx
theorem Vs_tail {a : Nat → Nat} {pv d : Nat} (h : Vs ft D a pv d) : Vs ft D a (a d % 2) (d + 1) := by
  intro e h1 h2
  have := h e (by omega) h2
  have q : hsf D a (a d % 2) (d + 1) e = hsf D a pv d e := by
    unfold hsf
    rw [if_neg (show ¬ e = d by omega)]
    by_cases z : e = d + 1
    · subst z; rw [if_pos rfl]; rfl
    · rw [if_neg z]
  rw [q]; exact this
theorem cb_low : ∀ n d, d + (n + 1) = D → ∀ a pv, pv ≤ 1 → Vs ft D a pv d → cbn ft (CT ft D n) n d (2 * pv + a d % 2) (a d / 2) ≤ tsr a (n + 1) d ∧ CT ft D (n + 1) (2 * pv + a d % 2) ≤ tsr a (n + 1) d := by
  intro n
  induction n with
  | zero =>
    intro d hd a pv hpv hV
    have hv := hV d (Nat.le_refl _) (by omega)
    have eh : hdd (2 * pv + a d % 2) 0 = hsf D a pv d d := by
      unfold hdd hsf
      rw [if_pos rfl, if_neg (show ¬ d + 1 < D by omega), show (2 * pv + a d % 2) / 2 = pv by omega, show (2 * pv + a d % 2) % 2 = a d % 2 by omega]
    have ht : trm ft (CT ft D 0) d (2 * pv + a d % 2) (a d / 2) 0 = tsr a 1 d := by
      unfold trm
      rw [eh, hv.2, if_pos rfl]
      show _ + 0 = cst (a d) + 0
      unfold cst; omega
    have hc : cbn ft (CT ft D 0) 0 d (2 * pv + a d % 2) (a d / 2) ≤ tsr a 1 d := by
      unfold cbn; rw [if_pos rfl, ht]; omega
    refine ⟨hc, ?_⟩
    have := mnL_le (f := fun t => cbn ft (CT ft D 0) 0 (D - (0 + 1)) (2 * pv + a d % 2) t) 12 (a d / 2) (by omega)
    rw [show D - (0 + 1) = d by omega] at this
    show mnL (fun t => cbn ft (CT ft D 0) 0 (D - (0 + 1)) (2 * pv + a d % 2) t) 12 ≤ _
    rw [show D - (0 + 1) = d by omega]
    exact Nat.le_trans this hc
  | succ n ih =>
    intro d hd a pv hpv hV
    have hv := hV d (Nat.le_refl _) (by omega)
    have tl := (ih (d + 1) (by omega) a (a d % 2) (by omega) (Vs_tail hV)).2
    have eh : hdd (2 * pv + a d % 2) (a (d + 1) % 2) = hsf D a pv d d := by
      unfold hdd hsf
      rw [if_pos rfl, if_pos (show d + 1 < D by omega), show (2 * pv + a d % 2) / 2 = pv by omega, show (2 * pv + a d % 2) % 2 = a d % 2 by omega]
    have ht : trm ft (CT ft D (n + 1)) d (2 * pv + a d % 2) (a d / 2) (a (d + 1) % 2) ≤ tsr a (n + 1 + 1) d := by
      unfold trm
      rw [eh, hv.2, if_pos rfl, show (2 * pv + a d % 2) % 2 = a d % 2 by omega]
      show _ ≤ cst (a d) + tsr a (n + 1) (d + 1)
      unfold cst; omega
    have hc : cbn ft (CT ft D (n + 1)) (n + 1) d (2 * pv + a d % 2) (a d / 2) ≤ tsr a (n + 1 + 1) d := by
      unfold cbn
      rw [if_neg (by omega)]
      rcases (show a (d + 1) % 2 = 0 ∨ a (d + 1) % 2 = 1 by omega) with q | q <;> rw [q] at ht <;> omega
    refine ⟨hc, ?_⟩
    have := mnL_le (f := fun t => cbn ft (CT ft D (n + 1)) (n + 1) (D - (n + 1 + 1)) (2 * pv + a d % 2) t) 12 (a d / 2) (by omega)
    show mnL (fun t => cbn ft (CT ft D (n + 1)) (n + 1) (D - (n + 1 + 1)) (2 * pv + a d % 2) t) 12 ≤ _
    rw [show D - (n + 1 + 1) = d by omega] at this ⊢
    exact Nat.le_trans this hc
/-- what is told as least can be laid -/
theorem cb_at : ∀ n d, d + (n + 1) = D → (∀ dd t, dd < 4 → t < 12 → cbn ft (CT ft D n) n d dd t < 9999 → ∃ a, Vs ft D a (dd / 2) d ∧ a d = 2 * t + dd % 2 ∧ tsr a (n + 1) d = cbn ft (CT ft D n) n d dd t) ∧ (∀ dd, dd < 4 → CT ft D (n + 1) dd < 9999 → ∃ a, Vs ft D a (dd / 2) d ∧ a d % 2 = dd % 2 ∧ tsr a (n + 1) d = CT ft D (n + 1) dd) := by
  intro n
  induction n with
  | zero =>
    intro d hd
    have A : ∀ dd t, dd < 4 → t < 12 → cbn ft (CT ft D 0) 0 d dd t < 9999 → ∃ a, Vs ft D a (dd / 2) d ∧ a d = 2 * t + dd % 2 ∧ tsr a (0 + 1) d = cbn ft (CT ft D 0) 0 d dd t := by
      intro dd t hdd' ht h
      unfold cbn at h ⊢
      rw [if_pos rfl] at h ⊢
      have h9 : trm ft (CT ft D 0) d dd t 0 < 9999 := by omega
      rw [show min 9999 (trm ft (CT ft D 0) d dd t 0) = trm ft (CT ft D 0) d dd t 0 by omega]
      unfold trm at h9 ⊢
      by_cases hf : ft d t (hdd dd 0) = true
      · rw [if_pos hf]
        refine ⟨fun _ => 2 * t + dd % 2, fun e h1 h2 => ?_, rfl, ?_⟩
        · have : e = d := by omega
          subst this
          refine ⟨by show 2 * t + dd % 2 < 24; omega, ?_⟩
          have eh : hsf D (fun _ => 2 * t + dd % 2) (dd / 2) e e = hdd dd 0 := by
            unfold hdd hsf
            dsimp only
            rw [if_pos rfl, if_neg (show ¬ e + 1 < D by omega), show (2 * t + dd % 2) % 2 = dd % 2 by omega]
          show ft e ((2 * t + dd % 2) / 2) _ = true
          rw [eh, show (2 * t + dd % 2) / 2 = t by omega]; exact hf
        · show cst (2 * t + dd % 2) + 0 = t / 2 + t % 2 + dd % 2 + 0
          unfold cst; omega
      · rw [if_neg hf] at h9; exact absurd h9 (Nat.lt_irrefl _)
    refine ⟨A, fun dd hdd' h => ?_⟩
    have h : mnL (fun t => cbn ft (CT ft D 0) 0 (D - (0 + 1)) dd t) 12 < 9999 := h
    obtain ⟨t, ht, e⟩ := mnL_at 12 h
    have e : cbn ft (CT ft D 0) 0 (D - (0 + 1)) dd t = CT ft D (0 + 1) dd := e
    rw [show D - (0 + 1) = d by omega] at e
    obtain ⟨a, a1, a2, a3⟩ := A dd t hdd' ht (by rw [e]; exact h)
    exact ⟨a, a1, by omega, by rw [a3, e]⟩
  | succ n ih =>
    intro d hd
    have A : ∀ dd t, dd < 4 → t < 12 → cbn ft (CT ft D (n + 1)) (n + 1) d dd t < 9999 → ∃ a, Vs ft D a (dd / 2) d ∧ a d = 2 * t + dd % 2 ∧ tsr a (n + 1 + 1) d = cbn ft (CT ft D (n + 1)) (n + 1) d dd t := by
      intro dd t hdd' ht h
      have key : ∀ nx, nx < 2 → cbn ft (CT ft D (n + 1)) (n + 1) d dd t = trm ft (CT ft D (n + 1)) d dd t nx → trm ft (CT ft D (n + 1)) d dd t nx < 9999 → ∃ a, Vs ft D a (dd / 2) d ∧ a d = 2 * t + dd % 2 ∧ tsr a (n + 1 + 1) d = cbn ft (CT ft D (n + 1)) (n + 1) d dd t := by
        intro nx hnx ee h9
        rw [ee]
        unfold trm at h9 ⊢
        by_cases hf : ft d t (hdd dd nx) = true
        · rw [if_pos hf] at h9 ⊢
          obtain ⟨a', b1, b2, b3⟩ := (ih (d + 1) (by omega)).2 (2 * (dd % 2) + nx) (by omega) (by omega)
          rw [show (2 * (dd % 2) + nx) / 2 = dd % 2 by omega] at b1
          rw [show (2 * (dd % 2) + nx) % 2 = nx by omega] at b2
          refine ⟨fun e => if e = d then 2 * t + dd % 2 else a' e, fun e h1 h2 => ?_, if_pos rfl, ?_⟩
          · by_cases z : e = d
            · subst z
              dsimp only
              rw [if_pos rfl]
              refine ⟨by omega, ?_⟩
              have eh : hsf D (fun x => if x = e then 2 * t + dd % 2 else a' x) (dd / 2) e e = hdd dd nx := by
                unfold hdd hsf
                dsimp only
                rw [if_pos rfl, if_pos rfl, if_pos (show e + 1 < D by omega), if_neg (show ¬ e + 1 = e by omega), b2, show (2 * t + dd % 2) % 2 = dd % 2 by omega]
              rw [eh, show (2 * t + dd % 2) / 2 = t by omega]; exact hf
            · have hb := b1 e (by omega) h2
              dsimp only
              rw [if_neg z]
              refine ⟨hb.1, ?_⟩
              have eh : hsf D (fun x => if x = d then 2 * t + dd % 2 else a' x) (dd / 2) d e = hsf D a' (dd % 2) (d + 1) e := by
                unfold hsf
                dsimp only
                rw [if_neg z, if_neg z, if_neg (show ¬ e + 1 = d by omega)]
                by_cases y : e = d + 1
                · subst y
                  rw [if_pos rfl, if_pos (show d + 1 - 1 = d by omega), show (2 * t + dd % 2) % 2 = dd % 2 by omega]
                · rw [if_neg y, if_neg (show ¬ e - 1 = d by omega)]
              rw [eh]; exact hb.2
          · have e1 : tsr (fun e => if e = d then 2 * t + dd % 2 else a' e) (n + 1) (d + 1) = tsr a' (n + 1) (d + 1) := tsr_congr (n + 1) (d + 1) (fun e g1 g2 => if_neg (by omega))
            show cst (if d = d then 2 * t + dd % 2 else a' d) + tsr (fun e => if e = d then 2 * t + dd % 2 else a' e) (n + 1) (d + 1) = _
            rw [e1, b3, if_pos rfl]
            unfold cst; omega
        · rw [if_neg hf] at h9; exact absurd h9 (Nat.lt_irrefl _)
      have hc : cbn ft (CT ft D (n + 1)) (n + 1) d dd t = min (min 9999 (trm ft (CT ft D (n + 1)) d dd t 0)) (trm ft (CT ft D (n + 1)) d dd t 1) := by
        unfold cbn; rw [if_neg (by omega)]
      by_cases z : trm ft (CT ft D (n + 1)) d dd t 0 ≤ trm ft (CT ft D (n + 1)) d dd t 1
      · exact key 0 (by decide) (by omega) (by omega)
      · exact key 1 (by decide) (by omega) (by omega)
    refine ⟨A, fun dd hdd' h => ?_⟩
    have h : mnL (fun t => cbn ft (CT ft D (n + 1)) (n + 1) (D - (n + 1 + 1)) dd t) 12 < 9999 := h
    obtain ⟨t, ht, e⟩ := mnL_at 12 h
    have e : cbn ft (CT ft D (n + 1)) (n + 1) (D - (n + 1 + 1)) dd t = CT ft D (n + 1 + 1) dd := e
    rw [show D - (n + 1 + 1) = d by omega] at e
    obtain ⟨a, a1, a2, a3⟩ := A dd t hdd' ht (by rw [e]; exact h)
    exact ⟨a, a1, by omega, by rw [a3, e]⟩
theorem CT_9 {n dd : Nat} : CT ft D n dd ≤ 9999 := by
  cases n with
  | zero => exact Nat.zero_le _
  | succ n => exact mnL_9 12
/-- what both have told as least -/
theorem all_no (hD : 0 < D) (h : ¬ ∃ a, Vd ft D a) : min (CT ft D D 0) (CT ft D D 1) = 9999 := by
  obtain ⟨n, rfl⟩ : ∃ n, D = n + 1 := ⟨D - 1, by omega⟩
  have no : ∀ dd, dd < 2 → ¬ CT ft (n + 1) (n + 1) dd < 9999 := by
    intro dd hdd' q
    obtain ⟨a, a1, _, _⟩ := (cb_at (ft := ft) (D := n + 1) n 0 (by omega)).2 dd (by omega) q
    rw [show dd / 2 = 0 by omega] at a1
    exact h ⟨a, Vd_Vs.mpr a1⟩
  have := CT_9 (ft := ft) (D := n + 1) (n := n + 1) (dd := 0)
  have := CT_9 (ft := ft) (D := n + 1) (n := n + 1) (dd := 1)
  have := no 0 (by decide)
  have := no 1 (by decide)
  omega
theorem Best_le {b : Nat → Nat} (hB : Best ft D b) : tsr b D 0 ≤ 7 * D := tsr_le D 0 (fun e _ h => (hB.1 e (by omega)).1)
theorem all_yes (hD : 0 < D) (hD6 : D ≤ 6) {b : Nat → Nat} (hB : Best ft D b) : min (CT ft D D 0) (CT ft D D 1) = tsr b D 0 := by
  obtain ⟨n, rfl⟩ : ∃ n, D = n + 1 := ⟨D - 1, by omega⟩
  have hb := Best_le hB
  have lo := (cb_low (ft := ft) (D := n + 1) n 0 (by omega) b 0 (by decide) (Vd_Vs.mp hB.1)).2
  have hi : ∀ dd, dd < 2 → CT ft (n + 1) (n + 1) dd < 9999 → tsr b (n + 1) 0 ≤ CT ft (n + 1) (n + 1) dd := by
    intro dd hdd' q
    obtain ⟨a, a1, _, a3⟩ := (cb_at (ft := ft) (D := n + 1) n 0 (by omega)).2 dd (by omega) q
    rw [show dd / 2 = 0 by omega] at a1
    rw [← a3]
    exact (hB.2 a (Vd_Vs.mpr a1)).1
  have h0 := hi 0 (by decide)
  have h1 := hi 1 (by decide)
  rcases (show b 0 % 2 = 0 ∨ b 0 % 2 = 1 by omega) with q | q <;> rw [q] at lo
  · have lo : CT ft (n + 1) (n + 1) 0 ≤ tsr b (n + 1) 0 := lo
    omega
  · have lo : CT ft (n + 1) (n + 1) 1 ≤ tsr b (n + 1) 0 := lo
    omega
/-- the dogs that are heard at the door before d, if e is laid at d -/
def hpv (b : Nat → Nat) (d e : Nat) : Nat := h3 (if 1 < d then b (d - 2) % 2 else 0) (b (d - 1) % 2) (e % 2)
def pvo (b : Nat → Nat) (d : Nat) : Nat := if d = 0 then 0 else b (d - 1) % 2
theorem Vd_cat {b a : Nat → Nat} {d : Nat} (hd : d < D) (hb : Vd ft D b) (ha : Vs ft D a (pvo b d) d) (hp : 0 < d → ft (d - 1) (b (d - 1) / 2) (hpv b d (a d)) = true) : Vd ft D (fun e => if e < d then b e else a e) := by
  intro e he
  dsimp only
  by_cases z : e < d
  · rw [if_pos z]
    refine ⟨(hb e he).1, ?_⟩
    by_cases y : e + 1 = d
    · have q : hh D (fun e => if e < d then b e else a e) e = hpv b d (a d) := by
        unfold hh hpv
        dsimp only
        rw [if_pos z, if_neg (show ¬ e + 1 < d by omega), if_pos (show e + 1 < D by omega), if_pos (show e - 1 < d by omega), show d - 1 = e by omega, show e + 1 = d from y, show d - 2 = e - 1 by omega]
        by_cases x : 0 < e
        · rw [if_pos x, if_pos (show 1 < d by omega)]
        · rw [if_neg x, if_neg (show ¬ 1 < d by omega)]
      have := hp (by omega)
      rw [show d - 1 = e by omega] at this
      rw [q]; exact this
    · have q : hh D (fun e => if e < d then b e else a e) e = hh D b e := by
        unfold hh
        dsimp only
        rw [if_pos z, if_pos (show e - 1 < d by omega), if_pos (show e + 1 < d by omega)]
      rw [q]; exact (hb e he).2
  · rw [if_neg z]
    have := ha e (by omega) he
    refine ⟨this.1, ?_⟩
    have q : hh D (fun e => if e < d then b e else a e) e = hsf D a (pvo b d) d e := by
      unfold hh hsf pvo
      dsimp only
      rw [if_neg z, if_neg (show ¬ e + 1 < d by omega)]
      by_cases y : e = d
      · subst y
        rw [if_pos rfl]
        by_cases x : e = 0
        · rw [if_neg (show ¬ 0 < e by omega), if_pos x]
        · rw [if_neg x, if_pos (show 0 < e by omega), if_pos (show e - 1 < e by omega)]
      · rw [if_neg y, if_pos (show 0 < e by omega), if_neg (show ¬ e - 1 < d by omega)]
    rw [q]; exact this.2
theorem tsr_cat {b a : Nat → Nat} {d : Nat} (hd : d ≤ D) : tsr (fun e => if e < d then b e else a e) D 0 = smL (fun i => cst (b i)) d + tsr a (D - d) d := by
  have h1 := tsr_sm (fun e => if e < d then b e else a e) D 0
  have h2 := tsr_sm (fun e => if e < d then b e else a e) (D - d) d
  rw [show d + (D - d) = D by omega] at h2
  rw [Nat.zero_add] at h1
  have e1 : smL (fun i => cst (if i < d then b i else a i)) d = smL (fun i => cst (b i)) d := smL_congr d (fun i hi => by rw [if_pos hi])
  have e2 : tsr (fun e => if e < d then b e else a e) (D - d) d = tsr a (D - d) d := tsr_congr _ _ (fun e g1 g2 => if_neg (by omega))
  have e0 : smL (fun i => cst (if i < d then b i else a i)) 0 = 0 := rfl
  omega
/-- the first of what may be laid at d is what the best has there -/
def cnd (ft : Nat → Nat → Nat → Bool) (D : Nat) (b : Nat → Nat) (d e : Nat) : Prop := (0 < d → ft (d - 1) (b (d - 1) / 2) (hpv b d e) = true) ∧ cbn ft (CT ft D (D - d - 1)) (D - d - 1) d (2 * pvo b d + e % 2) (e / 2) = tsr b D 0 - smL (fun i => cst (b i)) d
theorem cnd_yes (hD6 : D ≤ 6) {b : Nat → Nat} (hB : Best ft D b) {d : Nat} (hd : d < D) : cnd ft D b d (b d) := by
  have hb7 := Best_le hB
  have hpv1 : pvo b d ≤ 1 := by unfold pvo; split <;> omega
  have eh : 0 < d → hpv b d (b d) = hh D b (d - 1) := by
    intro hd0
    unfold hpv hh
    rw [show d - 1 + 1 = d by omega, show d - 1 - 1 = d - 2 by omega, if_pos hd]
    by_cases w : 1 < d
    · rw [if_pos w, if_pos (by omega)]
    · rw [if_neg w, if_neg (by omega)]
  have hp : 0 < d → ft (d - 1) (b (d - 1) / 2) (hpv b d (b d)) = true := fun hd0 => by
    rw [eh hd0]; exact (hB.1 (d - 1) (by omega)).2
  refine ⟨hp, ?_⟩
  have hV : Vs ft D b (pvo b d) d := by
    intro e h1 h2
    have := hB.1 e h2
    refine ⟨this.1, ?_⟩
    have q : hsf D b (pvo b d) d e = hh D b e := by
      unfold hh hsf pvo
      by_cases y : e = d
      · subst y
        rw [if_pos rfl]
        by_cases x : e = 0
        · rw [if_neg (show ¬ 0 < e by omega), if_pos x]
        · rw [if_neg x, if_pos (show 0 < e by omega)]
      · rw [if_neg y, if_pos (show 0 < e by omega)]
    rw [q]; exact this.2
  have lo := (cb_low (ft := ft) (D := D) (D - d - 1) d (by omega) b (pvo b d) hpv1 hV).1
  rw [show D - d - 1 + 1 = D - d by omega] at lo
  have s1 := tsr_sm b (D - d) d
  have s2 := tsr_sm b D 0
  have e0 : smL (fun i => cst (b i)) 0 = 0 := rfl
  rw [show d + (D - d) = D by omega] at s1
  rw [Nat.zero_add] at s2
  by_cases z : cbn ft (CT ft D (D - d - 1)) (D - d - 1) d (2 * pvo b d + b d % 2) (b d / 2) < tsr b (D - d) d
  · have h24 := (hB.1 d hd).1
    obtain ⟨a, a1, a2, a3⟩ := (cb_at (ft := ft) (D := D) (D - d - 1) d (by omega)).1 (2 * pvo b d + b d % 2) (b d / 2) (by omega) (by omega) (by omega)
    rw [show (2 * pvo b d + b d % 2) / 2 = pvo b d by omega] at a1
    rw [show (2 * pvo b d + b d % 2) % 2 = b d % 2 by omega, show 2 * (b d / 2) + b d % 2 = b d by omega] at a2
    rw [show D - d - 1 + 1 = D - d by omega] at a3
    have hz := Vd_cat hd hB.1 a1 (fun h => by rw [a2]; exact hp h)
    have := (hB.2 _ hz).1
    rw [tsr_cat (by omega)] at this
    omega
  · omega
theorem cnd_no (hD6 : D ≤ 6) {b : Nat → Nat} (hB : Best ft D b) {d e : Nat} (hd : d < D) (he : e < b d) : ¬ cnd ft D b d e := by
  rintro ⟨hp, hc⟩
  have hb7 := Best_le hB
  have h24 := (hB.1 d hd).1
  have hpv1 : pvo b d ≤ 1 := by unfold pvo; split <;> omega
  have s1 := tsr_sm b (D - d) d
  have s2 := tsr_sm b D 0
  have e0 : smL (fun i => cst (b i)) 0 = 0 := rfl
  rw [show d + (D - d) = D by omega] at s1
  rw [Nat.zero_add] at s2
  obtain ⟨a, a1, a2, a3⟩ := (cb_at (ft := ft) (D := D) (D - d - 1) d (by omega)).1 (2 * pvo b d + e % 2) (e / 2) (by omega) (by omega) (by omega)
  rw [show (2 * pvo b d + e % 2) / 2 = pvo b d by omega] at a1
  rw [show (2 * pvo b d + e % 2) % 2 = e % 2 by omega, show 2 * (e / 2) + e % 2 = e by omega] at a2
  rw [show D - d - 1 + 1 = D - d by omega] at a3
  have hz := Vd_cat hd hB.1 a1 (fun h => by rw [a2]; exact hp h)
  refine (hB.2 _ hz).2 ?_ ⟨d, hd, fun x hx => if_pos hx, ?_⟩
  · rw [tsr_cat (by omega)]; omega
  · show (if d < d then b d else a d) < b d
    rw [if_neg (Nat.lt_irrefl _), a2]; exact he
theorem lxl_trans {a b c : Nat → Nat} (h1 : lxl D a b) (h2 : lxl D b c) : lxl D a c := by
  obtain ⟨d, hd, e1, l1⟩ := h1
  obtain ⟨d', hd', e2, l2⟩ := h2
  rcases Nat.lt_trichotomy d d' with q | q | q
  · exact ⟨d, hd, fun e he => by rw [e1 e he, e2 e (by omega)], by rw [← e2 d q]; exact l1⟩
  · subst q
    exact ⟨d, hd, fun e he => by rw [e1 e he, e2 e he], by omega⟩
  · exact ⟨d', hd', fun e he => by rw [e1 e (by omega), e2 e he], by rw [e1 d' q]; exact l2⟩
theorem lxl_tri (a b : Nat → Nat) : ∀ n, lxl n a b ∨ lxl n b a ∨ ∀ d, d < n → a d = b d := by
  intro n
  induction n with
  | zero => exact Or.inr (Or.inr (fun d hd => absurd hd (Nat.not_lt_zero _)))
  | succ n ih =>
    rcases ih with ⟨d, hd, e, l⟩ | ⟨d, hd, e, l⟩ | h
    · exact Or.inl ⟨d, by omega, e, l⟩
    · exact Or.inr (Or.inl ⟨d, by omega, e, l⟩)
    · rcases Nat.lt_trichotomy (a n) (b n) with q | q | q
      · exact Or.inl ⟨n, by omega, h, q⟩
      · refine Or.inr (Or.inr (fun d hd => ?_))
        by_cases z : d = n
        · subst z; exact q
        · exact h d (by omega)
      · exact Or.inr (Or.inl ⟨n, by omega, fun e he => (h e he).symm, q⟩)
/-- not before x, and x not before y: not before y -/
theorem lxl_le {a x y : Nat → Nat} (h1 : ¬ lxl D a x) (h2 : ¬ lxl D x y) : ¬ lxl D a y := by
  intro h
  rcases lxl_tri a x D with q | q | q
  · exact h1 q
  · exact h2 (lxl_trans q h)
  · refine h2 ?_
    obtain ⟨d, hd, e, l⟩ := h
    exact ⟨d, hd, fun i hi => by rw [← q i (by omega)]; exact e i hi, by rw [← q d hd]; exact l⟩
end LAY2
