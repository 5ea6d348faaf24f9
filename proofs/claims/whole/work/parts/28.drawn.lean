/-! LONGS -/
def jN (n : Nat) : Int64 := Int64.ofNat n
theorem jN_toInt {n : Nat} (h : n < 2 ^ 63) : (jN n).toInt = n := Int64.toInt_ofNat_of_lt h
theorem jN_mul (a b : Nat) : jN a * jN b = jN (a * b) := (Int64.ofNat_mul a b).symm
theorem jN_add (a b : Nat) : jN a + jN b = jN (a + b) := (Int64.ofNat_add a b).symm
theorem jN_mod {a b : Nat} (ha : a < 2 ^ 63) (hb : b < 2 ^ 63) : jN a % jN b = jN (a % b) := by
  apply Int64.toInt_inj.mp
  rw [Int64.toInt_mod, jN_toInt ha, jN_toInt hb, jN_toInt (Nat.lt_of_le_of_lt (Nat.mod_le a b) ha), Int.ofNat_tmod]
theorem jN_eq {a b : Nat} (ha : a < 2 ^ 63) (hb : b < 2 ^ 63) : jN a = jN b ↔ a = b := by
  constructor
  · intro h
    have : (jN a).toInt = (jN b).toInt := by rw [h]
    rw [jN_toInt ha, jN_toInt hb] at this
    exact Int.ofNat.inj this
  · rintro rfl; rfl
theorem nI_64 {n : Nat} (h : n < 2 ^ 31) : (nI n).toInt64 = jN n := by
  apply Int64.toInt_inj.mp
  rw [Int32.toInt_toInt64, nI_toInt h, jN_toInt (by omega)]
theorem jN_32 {n : Nat} (h : n < 2 ^ 31) : (jN n).toInt32 = nI n := by
  apply Int32.toInt_inj.mp
  rw [Int64.toInt_toInt32, jN_toInt (by omega), nI_toInt h]
  exact Int.bmod_eq_of_le (by omega) (by omega)
theorem cmp_fold {x m : Nat} {P : Int32 → Prop} (hx : x < 2 ^ 63) (hm : m < 2 ^ 63) (h : P (nI (if x % m = 0 then 1 else 0))) : if lg_cmp (jN x % jN m) 0 = 0 then P 1 else P 0 := by
  rw [jN_mod hx hm]
  have hlt : x % m < 2 ^ 63 := Nat.lt_of_le_of_lt (Nat.mod_le x m) hx
  by_cases z : x % m = 0
  · rw [z, if_pos (by decide)]
    rw [if_pos z] at h; exact h
  · rw [if_neg z] at h
    rw [if_neg]
    · exact h
    · unfold lg_cmp
      intro q
      have ne : ¬ jN (x % m) = 0 := by
        rw [show (0 : Int64) = jN 0 from rfl, jN_eq hlt (by decide)]; exact z
      by_cases g : jN (x % m) > 0
      · rw [if_pos g] at q; exact absurd q (by decide)
      · rw [if_neg g, if_neg ne] at q; exact absurd q (by decide)
/-! DRAWN -/
def drw (F : Fn) (x : Nat) : Fn := fup (fup (fup F (11 + x % F 2) (x % 6)) (17 + x % F 2) (if x % 2 = 0 then 1 else 0)) (23 + x % F 2) (if x % 3 = 0 then 1 else 0)
theorem drw_n (F : Fn) (x : Nat) {j : Nat} (h2 : 0 < F 2) (h6 : F 2 ≤ 6) (h : j < 11 ∨ 29 ≤ j) : drw F x j = F j := by
  have := Nat.mod_lt x h2
  unfold drw
  rw [fup_n _ _ (by omega), fup_n _ _ (by omega), fup_n _ _ (by omega)]
theorem WF.drw {F : Fn} (hF : WF F) (h2 : 0 < F 2) (x : Nat) : WF (drw F x) := by
  have := Nat.mod_lt x h2
  have a1 := hF.up_str (v := x % 6) this (by omega)
  have a2 := a1.up_cgh (d := x % F 2) (v := if x % 2 = 0 then 1 else 0) (by rw [fup_n _ _ (by omega)]; exact this) (by split <;> omega)
  exact a2.up_dog (d := x % F 2) (v := if x % 3 = 0 then 1 else 0) (by rw [fup_n _ _ (by omega), fup_n _ _ (by omega)]; exact this) (by split <;> omega)
theorem s5_layByDraw {σ : St} {F : Fn} {k : St → Prop} (hS : StC 28 σ F) (hF : WF F) (h0 : 0 < F 2) {x : Nat} (hx : x < 2 ^ 31) (h : ∀ σ', StC 28 σ' (drw F x) → frS 28 σ σ' → k σ') : x5_layByDraw 28 (jN x) σ k := by
  have h62 := hF.2.2.2.1
  have h63 := hF.2.2.2.2.1
  have hd := Nat.mod_lt x h0
  unfold x5_layByDraw
  rw [hS.1, if_neg (by rw [show (0 : Int32) = nI 0 from rfl, nI_leI (by omega) (by decide)]; omega), nI_64 (by omega), jN_mod (by omega) (by omega), jN_32 (by omega), show (6 : Int64) = jN 6 from rfl, jN_mod (by omega) (by decide), jN_32 (by omega)]
  refine ⟨by rw [show (0 : Int64) = jN 0 from rfl, jN_eq (by omega) (by decide)]; omega, ?_⟩
  unfold lt
  have v6 : vp_in (nI (x % F 2)) 6 := (vpI (by omega)).mpr (by omega)
  refine ⟨by decide, v6, by decide, ?_⟩
  rw [nI_clamp (by omega)]
  have t1 := hS.up_str h62 h63 (j := x % F 2) (by omega) (x % 6)
  refine cmp_fold (P := fun s => x5_layByDraw_48 28 (jN x) (nI (x % F 2)) s (nI (x % F 2)) (28 + 3) _ k) (by omega) (by decide) ?_
  have e1 : ∀ j, j < 11 → fup F (11 + x % F 2) (x % 6) j = F j := fun j hj => fup_n _ _ (by omega)
  have t2 := t1.up_cgh (by rw [e1 2 (by decide)]; exact h62) (by rw [e1 3 (by decide)]; exact h63) (j := x % F 2) (by omega) (if x % 2 = 0 then 1 else 0)
  unfold x5_layByDraw_48 lt
  rw [nI_clamp (by omega)]
  refine ⟨v6, by decide, ?_⟩
  refine cmp_fold (P := fun s => x5_layByDraw_69 28 (jN x) s (nI (x % F 2)) (28 + 4) _ k) (by omega) (by decide) ?_
  have e2 : ∀ j, j < 11 → fup (fup F (11 + x % F 2) (x % 6)) (17 + x % F 2) (if x % 2 = 0 then 1 else 0) j = F j := fun j hj => by rw [fup_n _ _ (by omega), e1 j hj]
  have t3 := t2.up_dog (by rw [e2 2 (by decide)]; exact h62) (by rw [e2 3 (by decide)]; exact h63) (j := x % F 2) (by omega) (if x % 3 = 0 then 1 else 0)
  unfold x5_layByDraw_69 x5_layByDraw_70 lt
  rw [nI_clamp (by omega)]
  refine ⟨v6, h _ t3 (((frS.rf.up _ _ (by decide) (by decide)).up _ _ (by decide) (by decide)).up _ _ (by decide) (by decide))⟩
def dx (s : Nat) : Nat → Nat
  | 0 => s
  | t + 1 => dx s t * 16807 % 2147483647
theorem dx_lt {s : Nat} (hs : s < 2147483647) : ∀ t, dx s t < 2147483647
  | 0 => hs
  | _ + 1 => Nat.mod_lt _ (by decide)
theorem dx_step {s : Nat} (hs : s < 2147483647) (t : Nat) : jN (dx s t) * 16807 % 2147483647 = jN (dx s (t + 1)) := by
  have := dx_lt hs t
  rw [show (16807 : Int64) = jN 16807 from rfl, show (2147483647 : Int64) = jN 2147483647 from rfl, jN_mul, jN_mod (by omega) (by decide)]
  rfl
def dF (F : Fn) (s : Nat) : Nat → Fn
  | 0 => F
  | t + 1 => pas (drw (dF F s t) (dx s (t + 1)))
def dM (F : Fn) (s : Nat) : Nat → Nat
  | 0 => 0
  | t + 1 => dM F s t + smL (fun i => if mt (drw (dF F s t) (dx s (t + 1))) i then 1 else 0) (F 3)
theorem dF_ok {F : Fn} (hF : WF F) (h0 : 0 < F 2) (h4 : F 4 ≤ 999) (s : Nat) : ∀ t, t ≤ 60 → WF (dF F s t) ∧ dF F s t 2 = F 2 ∧ dF F s t 3 = F 3 ∧ dF F s t 4 = F 4 + t := by
  intro t
  induction t with
  | zero => intro _; exact ⟨hF, rfl, rfl, rfl⟩
  | succ t ih =>
    intro ht
    obtain ⟨a1, a2, a3, a4⟩ := ih (by omega)
    have h6 := a1.2.2.2.1
    have e := fun j h => drw_n (dF F s t) (dx s (t + 1)) (j := j) (by omega) h6 h
    have b := a1.drw (by omega) (dx s (t + 1))
    refine ⟨pas_WF' b (by rw [e 4 (by decide)]; omega), ?_, ?_, ?_⟩
    · show pasN (drw (dF F s t) (dx s (t + 1))) 1 2 = F 2
      rw [pasN_lo _ (by decide) (by decide), e 2 (by decide), a2]
    · show pasN (drw (dF F s t) (dx s (t + 1))) 1 3 = F 3
      rw [pasN_lo _ (by decide) (by decide), e 3 (by decide), a3]
    · show pasN (drw (dF F s t) (dx s (t + 1))) 1 4 = F 4 + (t + 1)
      rw [pasN_4, e 4 (by decide), a4]; omega
theorem dM_le (F : Fn) (s : Nat) (h3 : F 3 ≤ 6) : ∀ t, dM F s t ≤ 6 * t := by
  intro t
  induction t with
  | zero => exact Nat.zero_le _
  | succ t ih =>
    have := smL_le (g := fun i => if mt (drw (dF F s t) (dx s (t + 1))) i then 1 else 0) (B := 1) (F 3) (fun i _ => by show (if _ then 1 else 0) ≤ 1; split <;> omega)
    unfold dM; omega
def vDr (F : Fn) (s n w : Nat) : Int32 := if w = 0 then nI (dM F s n) else nI (smL (fun c => dF F s n (41 + c)) (F 3))
theorem s6_drawn_66 {x2 : Int32} {σ : St} {F : Fn} {s n w : Nat} {k : Int32 → St → Prop} (hF : WF F) (h0 : 0 < F 2) (h4 : F 4 ≤ 999) (hs : s < 2147483647) (hn : n ≤ 60) (hw : w < 2) (h : ∀ σ', frS 28 σ σ' → k (vDr F s n w) σ') : ∀ m t τ, t ≤ n → n < t + m → StC 28 τ (dF F s t) → frS 28 σ τ → x6_drawn_66 (nI n) x2 (nI w) k m (nI (dM F s t)) (jN (dx s t)) (nI t) τ := by
  intro m
  induction m with
  | zero => intro t τ h1 h2; omega
  | succ m ih =>
    intro t τ h1 h2 b1 b2
    unfold x6_drawn_66 x6_drawn_130
    obtain ⟨a1, a2, a3, a4⟩ := dF_ok hF h0 h4 s t (by omega)
    by_cases z : n ≤ t
    · have : t = n := by omega
      subst this
      rw [if_pos (nI_le z (by omega))]
      have hh := h τ b2
      unfold vDr at hh
      rcases (show w = 0 ∨ w = 1 by omega) with rfl | rfl
      · rw [if_pos rfl] at hh
        rw [if_pos (by decide)]; exact hh
      · rw [if_neg (by decide)] at hh
        rw [if_neg (by decide)]
        refine s5_placesAdded rfl b1 a1 ?_
        rw [a3]; exact hh
    · rw [if_neg (nI_ge (by omega) (by omega)), dx_step hs t]
      refine ⟨by decide, ?_⟩
      unfold lt
      have hx := dx_lt hs (t + 1)
      refine s5_layByDraw b1 a1 (by omega) (by omega) (fun τ1 c1 c2 => ?_)
      have w1 := a1.drw (by omega) (dx s (t + 1))
      refine s5_passDay rfl c1 w1 (fun τ2 d1 d2 => ?_)
      have e3 : drw (dF F s t) (dx s (t + 1)) 3 = F 3 := by rw [drw_n _ _ (by omega) a1.2.2.2.1 (by decide), a3]
      have h63 := hF.2.2.2.2.1
      refine s_bitCount (mskL_64 _ w1.2.2.2.2.1) ?_
      rw [show mts (drw (dF F s t) (dx s (t + 1))) = mskL (mt (drw (dF F s t) (dx s (t + 1)))) (drw (dF F s t) (dx s (t + 1)) 3) from rfl, bc_msk _ w1.2.2.2.2.1, e3, nI_add, show nI t + 1 = nI (t + 1) from nI_1 t]
      exact ih (t + 1) τ2 (by omega) (by omega) d1 ((b2.tr c2).tr d2)
theorem s7_drawn_218 {x1 x2 : Int32} {τ : St} {F G : Fn} {w d : Nat} {k : Int32 → St → Prop} (hM : StM 70 0 τ F) (hF : WF F) (hG : StM 72 0 τ G) (hw : w < 2) (h : k (if w = 0 then nI d else nI (smL (fun c => G (41 + c)) (F 3))) τ) : ∀ m c, c ≤ F 3 → F 3 < c + m → x7_drawn_218 x1 x2 (nI w) k m (nI d) (nI (smL (fun c => G (41 + c)) c)) (nI c) τ := by
  have h63 := hF.2.2.2.2.1
  intro m
  induction m with
  | zero => intro c h1 h2; omega
  | succ m ih =>
    intro c h1 h2
    unfold x7_drawn_218 x7_drawn_261
    rw [show (3 : Int32).toNatClampNeg = 3 from rfl, m70 hM (show 3 < 53 by decide)]
    refine ⟨vq (j := 3) (by decide), ?_⟩
    by_cases z : F 3 ≤ c
    · have : c = F 3 := by omega
      subst this
      rw [if_pos (nI_le z (by omega))]
      rcases (show w = 0 ∨ w = 1 by omega) with rfl | rfl
      · rw [if_pos rfl] at h
        rw [if_pos (by decide)]; exact h
      · rw [if_neg (by decide)] at h
        rw [if_neg (by decide)]; exact h
    · rw [if_neg (nI_ge (by omega) (by omega)), show (41 : Int32) + nI c = nI (41 + c) from nI_add 41 c, nI_clamp (by omega), m72 hG (by omega)]
      refine ⟨(vpI (by omega)).mpr (by show _ < 53; omega), ?_⟩
      unfold lt
      rw [nI_add, show nI c + 1 = nI (c + 1) from nI_1 c]
      exact ih (c + 1) (by omega) (by omega)
theorem s7_drawn_177 {x1 x2 x3 : Int32} {τ : St} {F : Fn} {X : Int64} {d v : Nat} {i7 : Int32} {R : Int64 → Int32 → Int32 → St → Prop} {k : Int32 → St → Prop} (hM : StM 70 0 τ F) (hF : WF F) (hv : v < 64) (h : R X (nI (d + smL (fun i => v / 2 ^ i % 2) (F 3))) (i7 + 1) τ) : ∀ m c, c ≤ F 3 → F 3 < c + m → x7_drawn_177 x1 x2 x3 R k m X (nI (d + smL (fun i => v / 2 ^ i % 2) c)) i7 (nI v) (nI c) τ := by
  have h63 := hF.2.2.2.2.1
  intro m
  induction m with
  | zero => intro c h1 h2; omega
  | succ m ih =>
    intro c h1 h2
    unfold x7_drawn_177
    rw [show (3 : Int32).toNatClampNeg = 3 from rfl, m70 hM (show 3 < 53 by decide)]
    refine ⟨vq (j := 3) (by decide), ?_⟩
    by_cases z : F 3 ≤ c
    · have : c = F 3 := by omega
      subst this
      rw [if_pos (nI_le z (by omega))]
      exact h
    · rw [if_neg (nI_ge (by omega) (by omega)), show (nI v >>> (nI c &&& 31)) &&& 1 = nI (v / 2 ^ c % 2) from bitI v hv c (by omega)]
      unfold lt
      rw [nI_add, show nI c + 1 = nI (c + 1) from nI_1 c, Nat.add_assoc]
      exact ih (c + 1) (by omega) (by omega)
theorem s7_drawn_65 {x2 : Int32} {σ : St} {F : Fn} {s n w : Nat} {k : Int32 → St → Prop} (hM : StM 70 0 σ F) (hF : WF F) (h0 : 0 < F 2) (h4 : F 4 ≤ 999) (hs : s < 2147483647) (hn : n ≤ 60) (hw : w < 2) (h : ∀ σ', (∀ i, i ≠ 72 → σ' i = σ i) → k (vDr F s n w) σ') : ∀ m t τ, t ≤ n → n < t + m → StM 72 0 τ (dF F s t) → (∀ i, i ≠ 72 → τ i = σ i) → x7_drawn_65 (nI n) x2 (nI w) k m (jN (dx s t)) (nI (dM F s t)) (nI t) τ := by
  intro m
  induction m with
  | zero => intro t τ h1 h2; omega
  | succ m ih =>
    intro t τ h1 h2 b1 b2
    unfold x7_drawn_65
    obtain ⟨a1, a2, a3, a4⟩ := dF_ok hF h0 h4 s t (by omega)
    have h63 := hF.2.2.2.2.1
    have h62 := hF.2.2.2.1
    have hMt : StM 70 0 τ F := hM.cell (b2 70 (by decide))
    by_cases z : n ≤ t
    · have : t = n := by omega
      subst this
      rw [if_pos (nI_le z (by omega))]
      have hh := h τ b2
      exact ⟨7, s7_drawn_218 hMt hF b1 hw hh 7 0 (Nat.zero_le _) (by omega)⟩
    · rw [if_neg (nI_ge (by omega) (by omega)), dx_step hs t]
      refine ⟨by decide, ?_⟩
      unfold lt
      dsimp only
      have hx := dx_lt hs (t + 1)
      have hd := Nat.mod_lt (dx s (t + 1)) h0
      rw [show (2 : Int32).toNatClampNeg = 2 from rfl, m70 hMt (show 2 < 53 by decide), nI_64 (by omega), jN_mod (by omega) (by omega), jN_32 (by omega), show (6 : Int64) = jN 6 from rfl, jN_mod (by omega) (by decide), jN_32 (by omega)]
      refine ⟨vq (j := 2) (by decide), by rw [show (0 : Int64) = jN 0 from rfl, jN_eq (by omega) (by decide)]; omega, by decide, ?_⟩
      rw [show (11 : Int32) + nI (dx s (t + 1) % F 2) = nI (11 + dx s (t + 1) % F 2) from nI_add 11 _, show (17 : Int32) + nI (dx s (t + 1) % F 2) = nI (17 + dx s (t + 1) % F 2) from nI_add 17 _, nI_clamp (by omega)]
      refine ⟨(vpI (by omega)).mpr (by show _ < 53; omega), by decide, ?_⟩
      have t1 := b1.up (j := 11 + dx s (t + 1) % F 2) (dx s (t + 1) % 6)
      rw [Nat.zero_add] at t1
      refine cmp_fold (P := fun q => x7_drawn_138 (nI n) x2 (nI w) (x7_drawn_65 (nI n) x2 (nI w) k m) (jN (dx s (t + 1))) (nI (dM F s t)) (nI t) (nI (dx s (t + 1) % F 2)) q (nI (17 + dx s (t + 1) % F 2)) 72 _ k) (by omega) (by decide) ?_
      have t2 := t1.up (j := 17 + dx s (t + 1) % F 2) (if dx s (t + 1) % 2 = 0 then 1 else 0)
      rw [Nat.zero_add] at t2
      unfold x7_drawn_138 lt
      rw [show (23 : Int32) + nI (dx s (t + 1) % F 2) = nI (23 + dx s (t + 1) % F 2) from nI_add 23 _, nI_clamp (by omega)]
      refine ⟨(vpI (by omega)).mpr (by show _ < 53; omega), by decide, ?_⟩
      refine cmp_fold (P := fun q => x7_drawn_164 (nI n) x2 (nI w) (x7_drawn_65 (nI n) x2 (nI w) k m) (jN (dx s (t + 1))) (nI (dM F s t)) (nI t) q (nI (23 + dx s (t + 1) % F 2)) 72 _ k) (by omega) (by decide) ?_
      have t3 := t2.up (j := 23 + dx s (t + 1) % F 2) (if dx s (t + 1) % 3 = 0 then 1 else 0)
      rw [Nat.zero_add] at t3
      unfold x7_drawn_164 lt
      rw [nI_clamp (by omega)]
      refine ⟨(vpI (by omega)).mpr (by show _ < 53; omega), ?_⟩
      have e : fup (fup (fup (dF F s t) (11 + dx s (t + 1) % F 2) (dx s (t + 1) % 6)) (17 + dx s (t + 1) % F 2) (if dx s (t + 1) % 2 = 0 then 1 else 0)) (23 + dx s (t + 1) % F 2) (if dx s (t + 1) % 3 = 0 then 1 else 0) = drw (dF F s t) (dx s (t + 1)) := by
        unfold drw; rw [a2]
      rw [e] at t3
      have w1 := a1.drw (by omega) (dx s (t + 1))
      refine s7_pass rfl t3 w1 (fun τ2 d1 d2 => ?_)
      have b3 : ∀ i, i ≠ 72 → τ2 i = σ i := fun i hi => by rw [d2 i hi, st_up_ne _ _ _ hi, st_up_ne _ _ _ hi, st_up_ne _ _ _ hi, b2 i hi]
      have e3 : drw (dF F s t) (dx s (t + 1)) 3 = F 3 := by rw [drw_n _ _ (by omega) a1.2.2.2.1 (by decide), a3]
      refine ⟨7, s7_drawn_177 (hM.cell (b3 70 (by decide))) hF (mskL_64 _ w1.2.2.2.2.1) ?_ 7 0 (Nat.zero_le _) (by omega)⟩
      rw [show nI t + 1 = nI (t + 1) from nI_1 t]
      have es : dM F s t + smL (fun i => mskL (mt (drw (dF F s t) (dx s (t + 1)))) (drw (dF F s t) (dx s (t + 1)) 3) / 2 ^ i % 2) (F 3) = dM F s (t + 1) :=
        congrArg (dM F s t + ·) (smL_congr (F 3) (fun i hi => mskL_get (mt (drw (dF F s t) (dx s (t + 1)))) (n := drw (dF F s t) (dx s (t + 1)) 3) (by rw [e3]; exact hi)))
      rw [es]
      exact ih (t + 1) τ2 (by omega) (by omega) d1 b3
theorem sp24 : Sp24 Rel := by
  intro a b e σ hR
  obtain ⟨F, ⟨hF, h4, hC, hM⟩, hI, n', nx, S, hA⟩ := hR.2.2.2.2.2
  have h62 := hF.2.2.2.1
  have h63 := hF.2.2.2.2.1
  by_cases h0 : 0 < F 2
  · by_cases ha : has a 61
    · obtain ⟨n, hn, rfl⟩ := ha
      have na1 : ¬ nI n < 0 := nI_pos (by omega)
      have na2 : ¬ (60 : Int32) < nI n := by rw [show (60 : Int32) = nI 60 from rfl, nI_ltI (by decide) (by omega)]; omega
      by_cases hb : has b 1000000 ∧ b ≠ 0
      · obtain ⟨⟨s, hs, rfl⟩, hs0⟩ := hb
        have hs1 : 1 ≤ s := by
          rcases Nat.eq_zero_or_pos s with z | z
          · subst z; exact absurd rfl hs0
          · exact z
        have nb1 : ¬ nI s < 1 := by rw [show (1 : Int32) = nI 1 from rfl, nI_ltI (by omega) (by decide)]; omega
        have nb2 : ¬ (999999 : Int32) < nI s := by rw [show (999999 : Int32) = nI 999999 from rfl, nI_ltI (by decide) (by omega)]; omega
        by_cases he : has e 2
        · obtain ⟨w, hw, rfl⟩ := he
          unfold x6_drawn
          refine s5_isTold_t hC.1 ⟨h0, h62⟩ ?_
          show if _ then _ else _
          rw [if_neg (by decide), if_neg na1, if_neg na2, if_neg nb1, if_neg nb2]
          refine s6_isBit_t hw ?_
          show if _ then _ else _
          rw [if_neg (by decide)]
          refine s5_takeOver rfl rfl (by decide) hC h62 h63 (fun σ1 c1 c2 => ?_)
          rw [nI_64 (by omega)]
          refine ⟨61, s6_drawn_66 (s := s) hF h0 h4 (by omega) (by omega) hw (fun σ2 d2 => ?_) 61 0 σ1 (Nat.zero_le _) (by omega) c1 frS.rf⟩
          have fr := c2.tr d2
          have hM2 : StM 70 0 σ2 F := hM.cell (fr 70 (by decide))
          unfold x7_drawn
          refine s7_isStreet_t hM2 hF h0 ?_
          show if _ then _ else _
          rw [if_neg (by decide)]
          refine in_t na1 na2 ?_
          show if _ then _ else _
          rw [if_neg (by decide)]
          refine in_t nb1 nb2 ?_
          show if _ then _ else _
          rw [if_neg (by decide)]
          refine in_lit_t (m := 1) (by omega) (by decide) ?_
          show if _ then _ else _
          rw [if_neg (by decide), show (0 : Int32) = nI 0 from rfl]
          refine s7_lay (by decide) (by decide) (by decide) (by decide) (by decide) (fun σ3 e1 e2 e3 => ?_)
          have hM3 : StM 72 0 σ3 F := fun j hj => by rw [e1 j hj]; exact hM2 j hj
          rw [nI_64 (by omega)]
          refine ⟨61, s7_drawn_65 (s := s) (σ := σ2) hM2 hF h0 h4 (by omega) (by omega) hw (fun σ4 g2 => ?_) 61 0 σ3 (Nat.zero_le _) (by omega) hM3 e3⟩
          exact ⟨rfl, hR.scr (fr.trial.tr (onl_72 g2))⟩
        · unfold x6_drawn x6_drawn_42
          refine s5_isTold_t hC.1 ⟨h0, h62⟩ ?_
          show if _ then _ else _
          rw [if_neg (by decide), if_neg na1, if_neg na2, if_neg nb1, if_neg nb2]
          refine s6_isBit_f he ?_
          show if _ then _ else _
          rw [if_pos (by decide)]
          unfold x7_drawn x7_drawn_39
          refine s7_isStreet_t hM hF h0 ?_
          show if _ then _ else _
          rw [if_neg (by decide)]
          refine in_t na1 na2 ?_
          show if _ then _ else _
          rw [if_neg (by decide)]
          refine in_t nb1 nb2 ?_
          show if _ then _ else _
          rw [if_neg (by decide)]
          refine in_lit_f (m := 1) (by decide) he ?_
          show if _ then _ else _
          rw [if_pos (by decide)]
          exact ⟨rfl, hR⟩
      · have hbad : b < 1 ∨ (999999 : Int32) < b := in12 (m := 999999) (by decide) hb
        have e6 : ∀ k : Int32 → St → Prop, k (-1000001) σ → x6_drawn (nI n) b e σ k := by
          intro k h
          unfold x6_drawn x6_drawn_42
          refine s5_isTold_t hC.1 ⟨h0, h62⟩ ?_
          show if _ then _ else _
          rw [if_neg (by decide), if_neg na1, if_neg na2]
          by_cases z : b < 1
          · rw [if_pos z]; exact h
          · rw [if_neg z, if_pos (hbad.resolve_left z)]; exact h
        refine e6 _ ?_
        unfold x7_drawn x7_drawn_39
        refine s7_isStreet_t hM hF h0 ?_
        show if _ then _ else _
        rw [if_neg (by decide)]
        refine in_t na1 na2 ?_
        show if _ then _ else _
        rw [if_neg (by decide)]
        refine in_f hbad ?_
        show if _ then _ else _
        rw [if_pos (by decide)]
        exact ⟨rfl, hR⟩
    · have hbad : a < 0 ∨ (60 : Int32) < a := by
        rcases has6 (k := 60) (by decide) ha with q | q
        · exact Or.inl q
        · exact Or.inr (Int32.not_le.mp q)
      have e6 : ∀ k : Int32 → St → Prop, k (-1000001) σ → x6_drawn a b e σ k := by
        intro k h
        unfold x6_drawn x6_drawn_42
        refine s5_isTold_t hC.1 ⟨h0, h62⟩ ?_
        show if _ then _ else _
        rw [if_neg (by decide)]
        by_cases z : a < 0
        · rw [if_pos z]; exact h
        · rw [if_neg z, if_pos (hbad.resolve_left z)]; exact h
      refine e6 _ ?_
      unfold x7_drawn x7_drawn_39
      refine s7_isStreet_t hM hF h0 ?_
      show if _ then _ else _
      rw [if_neg (by decide)]
      refine in_f hbad ?_
      show if _ then _ else _
      rw [if_pos (by decide)]
      exact ⟨rfl, hR⟩
  · have z : F 2 = 0 := by omega
    unfold x6_drawn x7_drawn
    refine s5_isTold_f (by rw [hC.1, z]) ?_
    show if _ then _ else _
    rw [if_pos (by decide)]
    refine s7_isStreet_f hM z ?_
    show if _ then _ else _
    rw [if_pos (by decide)]
    exact ⟨rfl, hR⟩
