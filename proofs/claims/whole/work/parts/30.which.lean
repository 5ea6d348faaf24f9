/-! SETS -/
theorem all_bits : ∀ n, n < 7 → ((1 : Int32) <<< (nI n &&& 31)) - 1 = nI (2 ^ n - 1) := by decide +kernel
theorem set_in : ∀ n, n < 7 → ∀ j, j < 64 → j < 2 ^ n → nI j &&& (nI (2 ^ n - 1) ^^^ (-1)) = 0 := by decide +kernel
theorem set_out {x : Int32} {n : Nat} (hn : n < 7) (h : x &&& (nI (2 ^ n - 1) ^^^ (-1)) = 0) : has x (2 ^ n) := by
  have hb : x.toBitVec &&& ((nI (2 ^ n - 1)).toBitVec ^^^ (-1 : Int32).toBitVec) = (0 : Int32).toBitVec := by
    rw [← Int32.toBitVec_xor, ← Int32.toBitVec_and, h]
  have hlt : x.toBitVec.toNat < 2 ^ n := by
    apply Nat.lt_pow_two_of_testBit
    intro i hi
    by_cases h32 : i < 32
    · have e := congrArg (fun v : BitVec 32 => v.getLsbD i) hb
      simp only [BitVec.getLsbD_and, BitVec.getLsbD_xor] at e
      have e1 : ((nI (2 ^ n - 1)).toBitVec).getLsbD i = false := by
        show (BitVec.ofNat 32 (2 ^ n - 1)).getLsbD i = false
        rw [BitVec.getLsbD_ofNat, Nat.testBit_lt_two_pow (Nat.lt_of_lt_of_le (show 2 ^ n - 1 < 2 ^ n from Nat.sub_lt (Nat.two_pow_pos n) (by decide)) (Nat.pow_le_pow_right (by decide) hi)), Bool.and_false]
      have e2 : ((-1 : Int32).toBitVec).getLsbD i = true := by
        show (BitVec.allOnes 32).getLsbD i = true
        rw [BitVec.getLsbD_allOnes]; simpa using h32
      have e3 : ((0 : Int32).toBitVec).getLsbD i = false := by
        show (BitVec.ofNat 32 0).getLsbD i = false
        simp
      rw [e1, e2, e3] at e
      simpa [BitVec.getLsbD] using e
    · exact Nat.testBit_lt_two_pow (Nat.lt_of_lt_of_le x.toBitVec.isLt (Nat.pow_le_pow_right (by decide) (by omega)))
  refine ⟨x.toBitVec.toNat, hlt, ?_⟩
  apply Int32.toBitVec_inj.mp
  show x.toBitVec = BitVec.ofNat 32 x.toBitVec.toNat
  rw [BitVec.ofNat_toNat, BitVec.setWidth_eq]
def setsOk (x y : Int32) (n : Nat) : Prop := has x (2 ^ n) ∧ has y (2 ^ n) ∧ x &&& y = 0
theorem s6_apart_t {σ : St} {F : Fn} {x y : Int32} {k : Int32 → St → Prop} (hC : StC 19 σ F) (hF : WF F) (h : setsOk x y (F 3)) (hk : k 1 σ) : x6_areApartSets x y σ k := by
  have h63 := hF.2.2.2.2.1
  obtain ⟨⟨M, hM, rfl⟩, ⟨N, hN, rfl⟩, h3⟩ := h
  have h64 : 2 ^ F 3 ≤ 64 := show 2 ^ F 3 ≤ 2 ^ 6 from Nat.pow_le_pow_right (by decide) h63
  unfold x6_areApartSets x5_allCallers x6_areApartSets_35
  dsimp only
  rw [hC.2.1, all_bits _ (by omega), if_pos (set_in _ (by omega) _ (by omega) hM), if_pos (set_in _ (by omega) _ (by omega) hN), if_pos h3]
  exact ⟨Or.inr rfl, hk⟩
theorem s6_apart_f {σ : St} {F : Fn} {x y : Int32} {k : Int32 → St → Prop} (hC : StC 19 σ F) (hF : WF F) (h : ¬ setsOk x y (F 3)) (hk : k 0 σ) : x6_areApartSets x y σ k := by
  have h63 := hF.2.2.2.2.1
  unfold x6_areApartSets x5_allCallers x6_areApartSets_34 x6_areApartSets_35
  dsimp only
  rw [hC.2.1, all_bits _ (by omega)]
  by_cases z1 : x &&& (nI (2 ^ F 3 - 1) ^^^ (-1)) = 0
  · rw [if_pos z1]
    by_cases z2 : y &&& (nI (2 ^ F 3 - 1) ^^^ (-1)) = 0
    · rw [if_pos z2, if_neg (fun z3 => h ⟨set_out (by omega) z1, set_out (by omega) z2, z3⟩)]
      exact ⟨Or.inl rfl, hk⟩
    · rw [if_neg z2]; exact ⟨Or.inl rfl, hk⟩
  · rw [if_neg z1]; exact ⟨Or.inl rfl, hk⟩
theorem s7_sets_t {σ : St} {F : Fn} {x y : Int32} {k : Int32 → St → Prop} (hM : StM 70 0 σ F) (hF : WF F) (h : setsOk x y (F 3)) (hk : k 1 σ) : x7_areSets x y σ k := by
  have h63 := hF.2.2.2.2.1
  obtain ⟨⟨M, hM', rfl⟩, ⟨N, hN', rfl⟩, h3⟩ := h
  have h64 : 2 ^ F 3 ≤ 64 := show 2 ^ F 3 ≤ 2 ^ 6 from Nat.pow_le_pow_right (by decide) h63
  unfold x7_areSets x7_areSets_40 lt
  rw [show (3 : Int32).toNatClampNeg = 3 from rfl, m70 hM (show 3 < 53 by decide), all_bits _ (by omega)]
  refine ⟨vq (j := 3) (by decide), ?_⟩
  refine in_lit_t (by omega) (by omega) ?_
  show if _ then _ else _
  rw [if_neg (by decide)]
  refine in_lit_t (by omega) (by omega) ?_
  show if _ then _ else _
  rw [if_neg (by decide), if_pos h3]
  exact ⟨Or.inr rfl, hk⟩
theorem s7_sets_f {σ : St} {F : Fn} {x y : Int32} {k : Int32 → St → Prop} (hM : StM 70 0 σ F) (hF : WF F) (h : ¬ setsOk x y (F 3)) (hk : k 0 σ) : x7_areSets x y σ k := by
  have h63 := hF.2.2.2.2.1
  have h64 : 2 ^ F 3 ≤ 64 := show 2 ^ F 3 ≤ 2 ^ 6 from Nat.pow_le_pow_right (by decide) h63
  have hpos : 0 < 2 ^ F 3 := Nat.two_pow_pos _
  have e : 2 ^ F 3 - 1 + 1 = 2 ^ F 3 := by omega
  unfold x7_areSets x7_areSets_39 x7_areSets_40 lt
  rw [show (3 : Int32).toNatClampNeg = 3 from rfl, m70 hM (show 3 < 53 by decide), all_bits _ (by omega)]
  refine ⟨vq (j := 3) (by decide), ?_⟩
  by_cases z1 : has x (2 ^ F 3)
  · have z1' := z1
    obtain ⟨M, hM', rfl⟩ := z1
    refine in_lit_t (by omega) (by omega) ?_
    show if _ then _ else _
    rw [if_neg (by decide)]
    by_cases z2 : has y (2 ^ F 3)
    · have z2' := z2
      obtain ⟨N, hN', rfl⟩ := z2
      refine in_lit_t (by omega) (by omega) ?_
      show if _ then _ else _
      rw [if_neg (by decide), if_neg (fun z3 => h ⟨z1', z2', z3⟩)]
      exact ⟨Or.inl rfl, hk⟩
    · refine in_lit_f (by omega) (by rw [e]; exact z2) ?_
      show if _ then _ else _
      rw [if_pos (by decide)]
      exact ⟨Or.inl rfl, hk⟩
  · refine in_lit_f (by omega) (by rw [e]; exact z1) ?_
    show if _ then _ else _
    rw [if_pos (by decide)]
    exact ⟨Or.inl rfl, hk⟩
/-! FITS -/
def bt (M c : Nat) : Bool := decide (M / 2 ^ c % 2 = 1)
def mcF (F : Fn) (d s g h c : Nat) : Bool := decide (F (5 + d) + s + 2 * h - g ≤ syk (F (29 + c)) (F (35 + c)) s g h)
def ftC (F : Fn) (M N d s g h c : Nat) : Bool := decide (F (41 + c) ≠ d) || ((!bt M c || mcF F d s g h c) && (!bt N c || !mcF F d s g h c))
def allL (P : Nat → Bool) : Nat → Bool
  | 0 => true
  | n + 1 => allL P n && P n
theorem allL_t {P : Nat → Bool} : ∀ n, allL P n = true ↔ ∀ i, i < n → P i = true := by
  intro n
  induction n with
  | zero => exact ⟨fun _ i hi => absurd hi (Nat.not_lt_zero _), fun _ => rfl⟩
  | succ n ih =>
    unfold allL
    rw [Bool.and_eq_true, ih]
    constructor
    · rintro ⟨h1, h2⟩ i hi
      by_cases z : i = n
      · subst z; exact h2
      · exact h1 i (by omega)
    · intro h; exact ⟨fun i hi => h i (by omega), h n (by omega)⟩
def fit (F : Fn) (M N d s g h : Nat) : Bool := allL (ftC F M N d s g h) (F 3)
theorem s7_fits_23 {σ : St} {F : Fn} {k : Int32 → St → Prop} (hM : StM 70 0 σ F) (hF : WF F) {M N d s g h : Nat} (hd : d < F 2) (hs : s ≤ 5) (hg : g ≤ 1) (hh : h ≤ 1) (m64 : M < 64) (n64 : N < 64) (hk : k (nI (if fit F M N d s g h then 1 else 0)) σ) : ∀ m c, c ≤ F 3 → F 3 < c + m → x7_fits_23 (nI d) (nI s) (nI g) (nI h) (nI M) (nI N) k m (nI (if allL (ftC F M N d s g h) c then 1 else 0)) (nI (F (5 + d) + s + 2 * h - g)) (nI c) σ := by
  have h63 := hF.2.2.2.2.1
  have h62 := hF.2.2.2.1
  have hw5 := hF.2.2.2.2.2.1 d hd
  intro m
  induction m with
  | zero => intro c h1 h2; omega
  | succ m ih =>
    intro c h1 h2
    unfold x7_fits_23
    rw [show (3 : Int32).toNatClampNeg = 3 from rfl, m70 hM (show 3 < 53 by decide)]
    refine ⟨vq (j := 3) (by decide), ?_⟩
    by_cases z : F 3 ≤ c
    · have : c = F 3 := by omega
      subst this
      rw [if_pos (nI_le z (by omega))]
      exact ⟨by cases allL (ftC F M N d s g h) (F 3); exact Or.inl rfl; exact Or.inr rfl, hk⟩
    · have hw := hF.2.2.2.2.2.2.2.1 c (by omega)
      rw [if_neg (nI_ge (by omega) (by omega)), show (29 : Int32) + nI c = nI (29 + c) from nI_add 29 c, show (35 : Int32) + nI c = nI (35 + c) from nI_add 35 c, nI_clamp (by omega), nI_clamp (by omega), m70 hM (by omega), m70 hM (by omega)]
      refine ⟨vq (by omega), vq (by omega), s7_staysAt hw.1 (by omega) (by omega) (by omega) hh ?_⟩
      have bs := syk_le (k := F (29 + c)) (h := h) hw.2.1 hs hg
      have ih' := ih (c + 1) (by omega) (by omega)
      have es : allL (ftC F M N d s g h) (c + 1) = (allL (ftC F M N d s g h) c && ftC F M N d s g h c) := rfl
      rw [es] at ih'
      have step : x7_fits_71 (nI d) (nI s) (nI g) (nI h) (nI M) (nI N) (x7_fits_23 (nI d) (nI s) (nI g) (nI h) (nI M) (nI N) k m) (nI (if allL (ftC F M N d s g h) c then 1 else 0)) (nI (F (5 + d) + s + 2 * h - g)) (nI c) (nI (if mcF F d s g h c then 1 else 0)) σ k := by
        unfold x7_fits_71
        cases ha : allL (ftC F M N d s g h) c with
        | false =>
          rw [ha, Bool.false_and, if_neg (by decide)] at ih'
          rw [if_pos (show nI (if false = true then 1 else 0) = 0 by decide)]
          unfold x7_fits_126 x7_fits_127
          rw [show nI c + 1 = nI (c + 1) from nI_1 c]
          exact ih'
        | true =>
          rw [ha, Bool.true_and] at ih'
          have t122 : ftC F M N d s g h c = true → x7_fits_122 (nI d) (nI s) (nI g) (nI h) (nI M) (nI N) (x7_fits_23 (nI d) (nI s) (nI g) (nI h) (nI M) (nI N) k m) (nI (F (5 + d) + s + 2 * h - g)) (nI c) σ k := by
            intro e
            rw [e, if_pos rfl] at ih'
            unfold x7_fits_122 x7_fits_127
            rw [show nI c + 1 = nI (c + 1) from nI_1 c]
            exact ih'
          have t126 : ftC F M N d s g h c = false → x7_fits_126 (nI d) (nI s) (nI g) (nI h) (nI M) (nI N) (x7_fits_23 (nI d) (nI s) (nI g) (nI h) (nI M) (nI N) k m) (nI (F (5 + d) + s + 2 * h - g)) (nI c) σ k := by
            intro e
            rw [e, if_neg (by decide)] at ih'
            unfold x7_fits_126 x7_fits_127
            rw [show nI c + 1 = nI (c + 1) from nI_1 c]
            exact ih'
          rw [if_neg (show ¬ nI (if true = true then 1 else 0) = 0 by decide), show (41 : Int32) + nI c = nI (41 + c) from nI_add 41 c, nI_clamp (by omega), m70 hM (by omega)]
          refine ⟨vq (by omega), ?_⟩
          by_cases hp : F (41 + c) = d
          · rw [if_pos (by rw [hp])]
            have t107 : (bt M c = false ∨ mcF F d s g h c = true) → x7_fits_107 (nI d) (nI s) (nI g) (nI h) (nI M) (nI N) (x7_fits_23 (nI d) (nI s) (nI g) (nI h) (nI M) (nI N) k m) (nI (F (5 + d) + s + 2 * h - g)) (nI c) (nI (if mcF F d s g h c then 1 else 0)) σ k := by
              intro hm
              unfold x7_fits_107
              refine s7_has n64 (by omega) ?_
              show if _ then _ else _
              by_cases hn : N / 2 ^ c % 2 = 1
              · rw [if_neg (by rw [hn]; decide)]
                have bn : bt N c = true := by unfold bt; simpa using hn
                cases hm2 : mcF F d s g h c with
                | true =>
                  rw [if_neg (by decide)]
                  exact t126 (by unfold ftC; rw [hm2, bn]; simp [hp])
                | false =>
                  rw [if_pos (by decide)]
                  have bm : bt M c = false := by rcases hm with q | q; exact q; rw [hm2] at q; exact absurd q (by decide)
                  exact t122 (by unfold ftC; rw [hm2, bn, bm]; simp)
              · have h0 : N / 2 ^ c % 2 = 0 := by omega
                have bn : bt N c = false := by unfold bt; simpa using hn
                rw [if_pos (by rw [h0]; rfl)]
                refine t122 ?_
                unfold ftC
                rcases hm with q | q <;> rw [q, bn] <;> simp
            refine s7_has m64 (by omega) ?_
            show if _ then _ else _
            by_cases hm : M / 2 ^ c % 2 = 1
            · rw [if_neg (by rw [hm]; decide)]
              have bm : bt M c = true := by unfold bt; simpa using hm
              cases hm2 : mcF F d s g h c with
              | true =>
                rw [if_neg (by decide)]
                rw [hm2] at t107
                exact t107 (Or.inr rfl)
              | false =>
                rw [if_pos (by decide)]
                exact t126 (by unfold ftC; rw [hm2, bm]; simp [hp])
            · have h0 : M / 2 ^ c % 2 = 0 := by omega
              rw [if_pos (by rw [h0]; rfl)]
              exact t107 (Or.inl (by unfold bt; simpa using hm))
          · rw [if_neg (by rw [nI_eq (by omega) (by omega)]; exact hp)]
            exact t122 (by unfold ftC; simp [hp])
      show if _ then _ else _
      by_cases q : F (5 + d) + s + 2 * h - g ≤ syk (F (29 + c)) (F (35 + c)) s g h
      · have e : mcF F d s g h c = true := by unfold mcF; simpa using q
        rw [e] at step
        rw [if_neg (by rw [nI_ltI (by omega) (by omega)]; omega)]
        exact step
      · have e : mcF F d s g h c = false := by unfold mcF; simpa using q
        rw [e] at step
        rw [if_pos (by rw [nI_ltI (by omega) (by omega)]; omega)]
        exact step
theorem s7_fits {σ : St} {F : Fn} {k : Int32 → St → Prop} (hM : StM 70 0 σ F) (hF : WF F) {M N d s g h : Nat} (hd : d < F 2) (hs : s ≤ 5) (hg : g ≤ 1) (hh : h ≤ 1) (m64 : M < 64) (n64 : N < 64) (hk : k (nI (if fit F M N d s g h then 1 else 0)) σ) : x7_fits (nI d) (nI s) (nI g) (nI h) (nI M) (nI N) σ k := by
  have h63 := hF.2.2.2.2.1
  have h62 := hF.2.2.2.1
  have hw5 := hF.2.2.2.2.2.1 d hd
  unfold x7_fits
  rw [show (5 : Int32) + nI d = nI (5 + d) from nI_add 5 d, nI_clamp (by omega), m70 hM (by omega)]
  refine ⟨vq (by omega), s7_opensAt (by omega) (by omega) (by omega) hh ?_⟩
  exact ⟨7, s7_fits_23 hM hF hd hs hg hh m64 n64 hk 7 0 (Nat.zero_le _) (by omega)⟩
