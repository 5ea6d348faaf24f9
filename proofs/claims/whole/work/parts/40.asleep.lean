/-! SLEEPS, by the class -/
theorem clr_step {F : Fn} {P Q : Nat → Bool} {d : Nat} (hd : d < 6) (h1 : ∀ e, e ≠ d → P e = Q e) (h2 : Q d = true) : ∀ j, j < 53 → fup (fup (fup (clr F P) (11 + d) 0) (17 + d) 0) (23 + d) 0 j = clr F Q j := by
  intro j hj
  have i := clr_i F Q hd
  by_cases z3 : j = 23 + d
  · subst z3; rw [fup_s, i.2.2, h2]; rfl
  · rw [fup_n _ _ z3]
    by_cases z2 : j = 17 + d
    · subst z2; rw [fup_s, i.2.1, h2]; rfl
    · rw [fup_n _ _ z2]
      by_cases z1 : j = 11 + d
      · subst z1; rw [fup_s, i.1, h2]; rfl
      · rw [fup_n _ _ z1]
        unfold clr
        by_cases y : 11 ≤ j ∧ j < 29
        · rw [h1 ((j - 11) % 6) (by omega)]
        · rw [if_neg (fun q => y q.1), if_neg (fun q => y q.1)]
theorem s5_clear {σ : St} {G : Fn} {k : St → Prop} (hS : StC 28 σ G) (h62 : G 2 ≤ 6) (h63 : G 3 ≤ 6) {x : Int32} (h1 : ∀ d, d < G 2 → x = nI d → ∀ σ', StC 28 σ' (fup (fup (fup G (11 + d) 0) (17 + d) 0) (23 + d) 0) → frS 28 σ σ' → k σ') (h0 : ¬ has x (G 2) → k σ) : x5_clearDoor 28 x σ k := by
  unfold x5_clearDoor x5_clearDoor_29
  by_cases hx : has x (G 2)
  · obtain ⟨d, hd, rfl⟩ := hx
    refine s5_hasDoor_t hS.1 h62 hd ?_
    show if _ then _ else _
    rw [if_neg (by decide), nI_clamp (by omega)]
    unfold lt
    have v6 : vp_in (nI d) 6 := (vpI (by omega)).mpr (by omega)
    refine ⟨v6, v6, v6, ?_⟩
    have t1 := hS.up_str h62 h63 (j := d) (by omega) 0
    have t2 := t1.up_cgh (by rw [fup_n _ _ (by omega)]; exact h62) (by rw [fup_n _ _ (by omega)]; exact h63) (j := d) (by omega) 0
    have t3 := t2.up_dog (by rw [fup_n _ _ (by omega), fup_n _ _ (by omega)]; exact h62) (by rw [fup_n _ _ (by omega), fup_n _ _ (by omega)]; exact h63) (j := d) (by omega) 0
    exact h1 d hd rfl _ t3 (((frS.rf.up _ _ (by decide) (by decide)).up _ _ (by decide) (by decide)).up _ _ (by decide) (by decide))
  · refine s5_hasDoor_f hS.1 h62 hx ?_
    show if _ then _ else _
    rw [if_pos (show nI 0 = 0 from rfl)]
    exact h0 hx
theorem lft : ∀ q, q < 7 → ∀ j, j < 3 → (1 ≤ q + j → nI q - 1 + nI j = nI (q + j - 1)) ∧ (q + j = 0 → nI q - 1 + nI j = -1) := by decide +kernel
theorem lft_has {q j n : Nat} (hq : q < 7) (hj : j < 3) (hn : n ≤ 6) : (∀ d, d < n → nI q - 1 + nI j = nI d → d + 1 = q + j) ∧ (¬ has (nI q - 1 + nI j) n → q + j = 0 ∨ n ≤ q + j - 1) := by
  obtain ⟨l1, l2⟩ := lft q hq j hj
  by_cases z : 1 ≤ q + j
  · rw [l1 z]
    refine ⟨fun d hd e => ?_, fun h => ?_⟩
    · rw [nI_eq (by omega) (by omega)] at e; omega
    · right
      rcases Nat.lt_or_ge (q + j - 1) n with y | y
      · exact absurd ⟨q + j - 1, y, rfl⟩ h
      · exact y
  · rw [l2 (by omega)]
    refine ⟨fun d hd e => ?_, fun h => Or.inl (by omega)⟩
    exact absurd (show nI d < 0 by rw [← e]; decide) (nI_pos (by omega))
theorem s6_mc_42 {σ : St} {F : Fn} {k : Int32 → St → Prop} {R18 : Int32 → Int32 → Int32 → St → Prop} (hF : WF F) {c p a cs : Nat} (hc : c < F 3) (hp : p ≤ 10) (ha : a < 8) (hk : ∀ σ', frS 28 σ σ' → R18 (nI (F (41 + c)) - 1) (nI (cs + if mtP F c a then prL (wgt p a) 3 else 0)) (nI (a + 1)) σ') : ∀ m j τ, j ≤ 3 → 3 < j + m → StC 28 τ (clr F (p3 (F (41 + c)) a j)) → frS 28 σ τ → x6_meetingCases_42 (nI c) (nI p) R18 k m (nI (F (41 + c)) - 1) (nI cs) (nI a) (nI (prL (wgt p a) j)) (nI j) τ := by
  have h62 := hF.2.2.2.1
  have h63 := hF.2.2.2.2.1
  have hq := (hF.2.2.2.2.2.2.2.1 c hc).2.2.1
  intro m
  induction m with
  | zero => intro j τ h1 h2; omega
  | succ m ih =>
    intro j τ h1 h2 hS hfr
    have w0 := clr_WF hF (p3 (F (41 + c)) a j)
    have o2 : clr F (p3 (F (41 + c)) a j) 2 = F 2 := clr_o _ _ (by decide)
    have o3 : clr F (p3 (F (41 + c)) a j) 3 = F 3 := clr_o _ _ (by decide)
    unfold x6_meetingCases_42
    by_cases z : 3 ≤ j
    · have : j = 3 := by omega
      subst this
      rw [if_pos (by decide)]
      refine s5_isMeeting rfl hS w0 (by rw [o3]; exact hc) ?_
      have hh := hk τ hfr
      unfold mtP at hh
      unfold x6_meetingCases_112 lt
      show if _ then _ else _
      rw [show nI a + 1 = nI (a + 1) from nI_1 a, nI_add]
      cases e : mt (clr F (p3 (F (41 + c)) a 3)) c with
      | true =>
        rw [e, if_pos rfl] at hh
        rw [if_neg (by decide)]; exact hh
      | false =>
        rw [e, if_neg (by decide), Nat.add_zero] at hh
        rw [if_pos (by decide)]; exact hh
    · rw [if_neg (by rw [show (3 : Int32) = nI 3 from rfl, nI_leI (by decide) (by omega)]; exact z), show (nI a >>> (nI j &&& 31)) &&& 1 = nI (a / 2 ^ j % 2) from bitI a (by omega) j (by omega)]
      unfold x6_meetingCases_88 lt
      rw [show nI j + 1 = nI (j + 1) from nI_1 j]
      have ew : prL (wgt p a) (j + 1) = prL (wgt p a) j * wgt p a j := rfl
      have nx := fun τ => ih (j + 1) τ (by omega) (by omega)
      by_cases b : a / 2 ^ j % 2 = 1
      · have wj : wgt p a j = p := by unfold wgt; rw [if_pos b]
        rw [wj] at ew
        rw [if_pos (by rw [b]; rfl), pk_mul, ← ew]
        refine s5_clear hS (by rw [o2]; exact h62) (by rw [o3]; exact h63) (fun d hd hx τ' t3 f3 => ?_) (fun hx => ?_)
        · rw [o2] at hd
          have ed : d + 1 = F (41 + c) + j := (lft_has (by omega) (by omega) h62).1 d hd hx
          refine nx τ' (t3.congr (by rw [fup_n _ _ (by omega), fup_n _ _ (by omega), fup_n _ _ (by omega), o2]; exact h62) (by rw [fup_n _ _ (by omega), fup_n _ _ (by omega), fup_n _ _ (by omega), o3]; exact h63) (clr_step (by omega) (fun e he => ?_) ?_)) (hfr.tr f3)
          · unfold p3
            by_cases y : F (41 + c) ≤ e + 1 ∧ e + 1 - F (41 + c) < j
            · rw [decide_eq_true y, decide_eq_true (show F (41 + c) ≤ e + 1 ∧ e + 1 - F (41 + c) < j + 1 by omega)]
            · rw [decide_eq_false y, decide_eq_false (show ¬ (F (41 + c) ≤ e + 1 ∧ e + 1 - F (41 + c) < j + 1) by omega)]
          · unfold p3
            rw [decide_eq_true (show F (41 + c) ≤ d + 1 ∧ d + 1 - F (41 + c) < j + 1 by omega), Bool.true_and, show d + 1 - F (41 + c) = j by omega]
            unfold bt; simpa using b
        · rw [o2] at hx
          have hno := (lft_has (by omega) (by omega) h62).2 hx
          refine nx τ (hS.congr (by rw [o2]; exact h62) (by rw [o3]; exact h63) (fun i _ => clr_congr (fun d hd hne => ?_) i)) hfr
          have hd2 : d + 1 = F (41 + c) + j := by
            rcases Nat.lt_trichotomy (d + 1) (F (41 + c) + j) with y | y | y
            · refine absurd ?_ hne
              unfold p3
              by_cases x : F (41 + c) ≤ d + 1 ∧ d + 1 - F (41 + c) < j
              · rw [decide_eq_true x, decide_eq_true (show F (41 + c) ≤ d + 1 ∧ d + 1 - F (41 + c) < j + 1 by omega)]
              · rw [decide_eq_false x, decide_eq_false (show ¬ (F (41 + c) ≤ d + 1 ∧ d + 1 - F (41 + c) < j + 1) by omega)]
            · exact y
            · refine absurd ?_ hne
              unfold p3
              rw [decide_eq_false (show ¬ (F (41 + c) ≤ d + 1 ∧ d + 1 - F (41 + c) < j) by omega), decide_eq_false (show ¬ (F (41 + c) ≤ d + 1 ∧ d + 1 - F (41 + c) < j + 1) by omega)]
          exact hF.2.2.2.2.2.2.1 d hd (by omega)
      · have h0 : a / 2 ^ j % 2 = 0 := by omega
        have wj : wgt p a j = 10 - p := by unfold wgt; rw [if_neg b]
        rw [wj] at ew
        rw [if_neg (by rw [h0]; decide), show (10 : Int32) - nI p = nI (10 - p) by rw [show (10 : Int32) = nI 10 from rfl, pk_sub hp], pk_mul, ← ew]
        refine nx τ (hS.congr (by rw [o2]; exact h62) (by rw [o3]; exact h63) (fun i _ => clr_congr (fun d hd hne => absurd ?_ hne) i)) hfr
        unfold p3
        by_cases y : F (41 + c) ≤ d + 1 ∧ d + 1 - F (41 + c) < j
        · rw [decide_eq_true y, decide_eq_true (show F (41 + c) ≤ d + 1 ∧ d + 1 - F (41 + c) < j + 1 by omega)]
        · rw [decide_eq_false y, Bool.false_and]
          by_cases x : F (41 + c) ≤ d + 1 ∧ d + 1 - F (41 + c) < j + 1
          · rw [decide_eq_true x, Bool.true_and, show d + 1 - F (41 + c) = j by omega]
            unfold bt; rw [h0]; rfl
          · rw [decide_eq_false x, Bool.false_and]
theorem s6_mc_18 {σ : St} {F : Fn} {k : Int32 → St → Prop} (hC : StC 19 σ F) (hF : WF F) {c p : Nat} (hc : c < F 3) (hp : p ≤ 10) (hk : ∀ σ', frS 28 σ σ' → k (nI (csC F c p)) σ') : ∀ m a τ, a ≤ 8 → 8 < a + m → frS 28 σ τ → x6_meetingCases_18 (nI c) (nI p) k m (nI (F (41 + c)) - 1) (nI (smL (fun a => if mtP F c (patC (F 2) (F (41 + c)) a) then prL (wgt p a) 3 else 0) a)) (nI a) τ := by
  have h62 := hF.2.2.2.1
  have h63 := hF.2.2.2.2.1
  intro m
  induction m with
  | zero => intro a τ h1 h2; omega
  | succ m ih =>
    intro a τ h1 h2 hfr
    unfold x6_meetingCases_18
    by_cases z : 8 ≤ a
    · have : a = 8 := by omega
      subst this
      rw [if_pos (by decide)]
      exact hk τ hfr
    · rw [if_neg (by rw [show (8 : Int32) = nI 8 from rfl, nI_leI (by decide) (by omega)]; exact z)]
      refine s5_takeOver rfl rfl (by decide) (hC.fr hfr (by decide)) h62 h63 (fun τ1 c1 f1 => ?_)
      refine ⟨4, s6_mc_42 (σ := τ1) hF hc hp (by omega) (fun τ2 f2 => ?_) 4 0 τ1 (by decide) (by decide) ?_ frS.rf⟩
      · have := ih (a + 1) τ2 (by omega) (by omega) ((hfr.tr f1).tr f2)
        rw [← mtP_C hF hc (show a < 8 by omega)]
        exact this
      · refine c1.congr h62 h63 (fun j hj => ?_)
        unfold clr p3
        rw [if_neg]
        intro q
        have := q.2
        simp at this
theorem s6_cases {σ : St} {F : Fn} {k : Int32 → St → Prop} (hC : StC 19 σ F) (hF : WF F) {c p : Nat} (hc : c < F 3) (hp : p ≤ 10) (hk : ∀ σ', frS 28 σ σ' → k (nI (csC F c p)) σ') : x6_meetingCases (nI c) (nI p) σ k := by
  have h63 := hF.2.2.2.2.1
  unfold x6_meetingCases lt
  rw [nI_clamp (by omega), (hC.2.2.2.2.2.2 c hc).2.1]
  exact ⟨(vpI (by omega)).mpr (by show _ < 6; omega), 9, s6_mc_18 hC hF hc hp hk 9 0 σ (by decide) (by decide) frS.rf⟩
theorem csC_le {F : Fn} {c p : Nat} (hp : p ≤ 10) : csC F c p ≤ 1000 := by
  rw [← sl_1000 p (by omega)]
  refine smL_mono 8 (fun i _ => ?_)
  show (if _ then _ else 0) ≤ _
  split
  · exact Nat.le_refl _
  · exact Nat.zero_le _
theorem s6_cd_7 {x0 x1 : Int32} {σ : St} {k : Int32 → St → Prop} : ∀ n st a b, st + n = 64 → a ≤ 1000 → b ≤ 1000 → k (nI (eu n a b)) σ → x6_commonDivisor_7 x0 x1 k (n + 1) (nI a) (nI b) (nI st) σ := by
  intro n
  induction n with
  | zero =>
    intro st a b h1 ha hb h
    unfold x6_commonDivisor_7 x6_commonDivisor_34
    have : st = 64 := by omega
    subst this
    rw [if_pos (by decide)]; exact h
  | succ n ih =>
    intro st a b h1 ha hb h
    unfold x6_commonDivisor_7 x6_commonDivisor_34
    rw [if_neg (by rw [show (64 : Int32) = nI 64 from rfl, nI_leI (by decide) (by omega)]; omega)]
    unfold eu at h
    by_cases z : b = 0
    · rw [if_pos z] at h
      rw [z, if_pos (by decide)]; exact h
    · rw [if_neg z] at h
      have nz : ¬ nI b = 0 := by rw [show (0 : Int32) = nI 0 from rfl, nI_eq (by omega) (by decide)]; exact z
      rw [if_neg nz, remI (by omega) (by omega) (by omega)]
      refine ⟨nz, ?_⟩
      unfold lt
      rw [show nI st + 1 = nI (st + 1) from nI_1 st]
      have := Nat.mod_lt a (show 0 < b by omega)
      exact ih (st + 1) b (a % b) (by omega) hb (by omega) h
theorem s6_cd {x : Nat} {σ : St} {k : Int32 → St → Prop} (hx : x ≤ 1000) (h : k (nI (Nat.gcd 1000 x)) σ) : x6_commonDivisor 1000 (nI x) σ k := by
  unfold x6_commonDivisor
  refine ⟨65, s6_cd_7 64 0 1000 x rfl (by decide) hx ?_⟩
  rw [eu_gcd x (by omega)]; exact h
def vSl (F : Fn) (c p w : Nat) : Nat := if w = 0 then csC F c p / Nat.gcd 1000 (csC F c p) else 1000 / Nat.gcd 1000 (csC F c p)
theorem s6_sleeps {σ : St} {F : Fn} {k : Int64 → St → Prop} (hC : StC 19 σ F) (hF : WF F) {c p w : Nat} (hc : c < F 3) (hp : p ≤ 10) (hw : w < 2) (hk : ∀ σ', frS 28 σ σ' → k (jN (vSl F c p w)) σ') : x6_sleeps (nI c) (nI p) (nI w) σ k := by
  have h63 := hF.2.2.2.2.1
  unfold x6_sleeps
  refine s5_hasCaller_t hC.2.1 h63 hc ?_
  show if _ then _ else _
  rw [if_neg (by decide), if_neg (nI_pos (by omega)), if_neg (by rw [show (10 : Int32) = nI 10 from rfl, nI_ltI (by decide) (by omega)]; omega)]
  refine s6_isBit_t hw ?_
  show if _ then _ else _
  rw [if_neg (by decide)]
  refine s6_cases hC hF hc hp (fun σ1 f1 => ?_)
  have hle : csC F c p ≤ 1000 := csC_le hp
  refine s6_cd hle ?_
  have hh := hk σ1 f1
  unfold vSl at hh
  have g0 : 0 < Nat.gcd 1000 (csC F c p) := Nat.gcd_pos_of_pos_left _ (by decide)
  have g1 : Nat.gcd 1000 (csC F c p) ≤ 1000 := Nat.gcd_le_left _ (by decide)
  generalize Nat.gcd 1000 (csC F c p) = g at *
  generalize csC F c p = x at *
  unfold lt x6_sleeps_66
  dsimp only
  have em : imax 1 (nI g) = nI g := by
    unfold imax
    by_cases y : (1 : Int32) < nI g
    · rw [if_pos y]
    · rw [if_neg y]
      have : ¬ 1 < g := by rwa [show (1 : Int32) = nI 1 from rfl, nI_ltI (by decide) (by omega)] at y
      rw [show g = 1 by omega]; rfl
  have nz : ¬ nI g = 0 := by rw [show (0 : Int32) = nI 0 from rfl, nI_eq (by omega) (by decide)]; omega
  rw [em]
  rcases (show w = 0 ∨ w = 1 by omega) with rfl | rfl
  · rw [if_pos rfl] at hh
    rw [if_pos (by decide), divI (by omega) g0 (by omega), nI_64 (by have := Nat.div_le_self x g; omega)]
    exact ⟨nz, hh⟩
  · rw [if_neg (by decide)] at hh
    rw [if_neg (by decide), show (1000 : Int32) = nI 1000 from rfl, divI (by decide) g0 (by omega), nI_64 (by have := Nat.div_le_self 1000 g; omega)]
    exact ⟨nz, hh⟩
