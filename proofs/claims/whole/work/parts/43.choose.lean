/-! LEAST, by the class -/
def ftF (F : Fn) (M N d t h : Nat) : Bool := fit F M N d (t / 2) (t % 2) h
def hmB (g d : Nat) : Nat := h3 (if 0 < d then g / 2 ^ (d - 1) % 2 else 0) (g / 2 ^ d % 2) (g / 2 ^ (d + 1) % 2)
theorem near_h : ∀ d, d < 6 → ∀ g, g < 64 → (hmB g d = 0 → nI g &&& (((7 : Int32) <<< (nI d &&& 31)) >>> ((1 : Int32) &&& 31)) = 0) ∧ (hmB g d = 1 → ¬ nI g &&& (((7 : Int32) <<< (nI d &&& 31)) >>> ((1 : Int32) &&& 31)) = 0) := by decide +kernel
theorem h3_01 (x y z : Nat) : h3 x y z = 0 ∨ h3 x y z = 1 := by unfold h3; split; exact Or.inr rfl; exact Or.inl rfl
def cdO (F : Fn) (M N g d : Nat) : Option Nat := match chA (fun t => ftF F M N d t (hmB g d)) 12 with
  | none => none
  | some t => some (2 * t + g / 2 ^ d % 2)
def oC : Option Nat → Int32
  | none => -1
  | some v => nI v
def sq (F : Fn) (M N g d : Nat) : Nat := (cdO F M N g d).getD 0
theorem cd_some {F : Fn} {M N g d v : Nat} (h : cdO F M N g d = some v) : ∃ t, chA (fun t => ftF F M N d t (hmB g d)) 12 = some t ∧ v = 2 * t + g / 2 ^ d % 2 ∧ t < 12 := by
  unfold cdO at h
  cases e : chA (fun t => ftF F M N d t (hmB g d)) 12 with
  | none => rw [e] at h; exact absurd h (by simp)
  | some t =>
    rw [e] at h
    exact ⟨t, rfl, (Option.some.inj h).symm, chA_lt 12 t e⟩
theorem cd_24 {F : Fn} {M N g d v : Nat} (h : cdO F M N g d = some v) : v < 24 := by
  obtain ⟨t, _, e, ht⟩ := cd_some h
  omega
theorem oC_no {v : Nat} (h : v < 1000) : ¬ oC (some v) = -1 := by
  show ¬ nI v = -1
  intro q
  exact absurd (show nI v < 0 by rw [q]; decide) (nI_pos (by omega))
theorem s2_codeAt {σ : St} {F : Fn} {M N g d : Nat} {k : Int32 → St → Prop} (h62 : F 2 ≤ 6) (hW : Wgh σ F M N) (hd : d < F 2) (hg : g < 64) (hk : k (oC (cdO F M N g d)) σ) : x2_codeAt (nI d) (nI g) σ k := by
  have n := near_h d (by omega) g hg
  have step : ∀ h, h < 2 → hmB g d = h → x2_codeAt_18 (nI d) (nI g) (nI h) σ k := by
    intro h hh e
    unfold x2_codeAt_18 x2_codeAt_51 lt
    have ei : (2 * nI d + nI h : Int32) = nI (2 * d + h) := by rw [show (2 : Int32) = nI 2 from rfl, pk_mul, nI_add]
    rw [ei, nI_clamp (by omega), hW.2 d h hd hh]
    refine ⟨(vpI (by omega)).mpr (by show _ < 12; omega), ?_⟩
    show if _ then _ else _
    unfold cdO at hk
    rw [e] at hk
    have ef : (fun t => ftF F M N d t h) = (fun t => fit F M N d (t / 2) (t % 2) h) := rfl
    rw [ef] at hk
    cases ec : chA (fun t => fit F M N d (t / 2) (t % 2) h) 12 with
    | none =>
      rw [ec] at hk
      rw [if_pos (show oI none = -1 from rfl)]; exact hk
    | some t =>
      rw [ec] at hk
      have ht := chA_lt 12 t ec
      rw [if_neg (oI_no (by omega)), show (nI g >>> (nI d &&& 31)) &&& 1 = nI (g / 2 ^ d % 2) from bitI g hg d (by omega)]
      show k (nI (2 * t) + nI (g / 2 ^ d % 2)) σ
      rw [nI_add]; exact hk
  unfold x2_codeAt lt
  dsimp only
  rcases h3_01 (if 0 < d then g / 2 ^ (d - 1) % 2 else 0) (g / 2 ^ d % 2) (g / 2 ^ (d + 1) % 2) with e | e
  · rw [if_pos (n.1 e)]; exact step 0 (by decide) e
  · rw [if_neg (n.2 e)]; exact step 1 (by decide) e
def totO (F : Fn) (M N g : Nat) : Nat → Option Nat
  | 0 => some 0
  | n + 1 => match totO F M N g n with
    | none => none
    | some s => match cdO F M N g n with
      | none => none
      | some v => some (s + cst v)
theorem totO_some {F : Fn} {M N g : Nat} : ∀ n s, totO F M N g n = some s → (∀ d, d < n → ∃ v, cdO F M N g d = some v) ∧ s = smL (fun d => cst (sq F M N g d)) n := by
  intro n
  induction n with
  | zero => intro s h; exact ⟨fun d hd => absurd hd (Nat.not_lt_zero _), (Option.some.inj h).symm⟩
  | succ n ih =>
    intro s h
    unfold totO at h
    cases e1 : totO F M N g n with
    | none => rw [e1] at h; exact absurd h (by simp)
    | some s1 =>
      cases e2 : cdO F M N g n with
      | none => rw [e1, e2] at h; exact absurd h (by simp)
      | some v =>
        rw [e1, e2] at h
        have h := Option.some.inj h
        obtain ⟨i1, i2⟩ := ih s1 e1
        refine ⟨fun d hd => ?_, ?_⟩
        · by_cases z : d = n
          · subst z; exact ⟨v, e2⟩
          · exact i1 d (by omega)
        · show s = smL (fun d => cst (sq F M N g d)) n + cst (sq F M N g n)
          rw [← i2, ← h]
          unfold sq
          rw [e2]; rfl
theorem totO_of {F : Fn} {M N g : Nat} : ∀ n, (∀ d, d < n → ∃ v, cdO F M N g d = some v) → totO F M N g n = some (smL (fun d => cst (sq F M N g d)) n) := by
  intro n
  induction n with
  | zero => intro _; rfl
  | succ n ih =>
    intro h
    obtain ⟨v, hv⟩ := h n (by omega)
    unfold totO
    rw [ih (fun d hd => h d (by omega)), hv]
    show some (_ + cst v) = some (smL (fun d => cst (sq F M N g d)) n + cst (sq F M N g n))
    unfold sq
    rw [hv]; rfl
theorem totO_none {F : Fn} {M N g d : Nat} (h : cdO F M N g d = none) : ∀ n, d < n → totO F M N g n = none := by
  intro n hd
  cases e : totO F M N g n with
  | none => rfl
  | some s =>
    obtain ⟨v, hv⟩ := (totO_some n s e).1 d hd
    rw [h] at hv; exact absurd hv (by simp)
theorem totO_le {F : Fn} {M N g n s : Nat} (h : totO F M N g n = some s) (hn : n ≤ 6) : s ≤ 42 := by
  obtain ⟨i1, i2⟩ := totO_some n s h
  have := smL_le (g := fun d => cst (sq F M N g d)) (B := 7) n (fun d hd => by
    obtain ⟨v, hv⟩ := i1 d hd
    show cst (sq F M N g d) ≤ 7
    unfold sq
    rw [hv]; exact cst_le (cd_24 hv))
  omega
theorem s2_total {σ : St} {F : Fn} {M N g : Nat} {k : Int32 → St → Prop} (h62 : F 2 ≤ 6) (hW : Wgh σ F M N) (hg : g < 64) (hk : k (oC (totO F M N g (F 2))) σ) : x2_totalOf (nI g) σ k := by
  have key : ∀ m d s, d ≤ F 2 → F 2 < d + m → totO F M N g d = some s → x2_totalOf_4 (nI g) k m (nI s) (nI d) σ := by
    intro m
    induction m with
    | zero => intro d s h1 h2; omega
    | succ m ih =>
      intro d s h1 h2 hs
      unfold x2_totalOf_4
      rw [hW.1]
      by_cases z : F 2 ≤ d
      · have : d = F 2 := by omega
        subst this
        rw [if_pos (nI_le z (by omega))]
        rw [hs] at hk; exact hk
      · rw [if_neg (nI_ge (by omega) (by omega))]
        refine s2_codeAt h62 hW (by omega) hg ?_
        show if _ then _ else _
        cases e : cdO F M N g d with
        | none =>
          rw [totO_none e (F 2) (by omega)] at hk
          rw [if_pos (show oC none = -1 from rfl)]; exact hk
        | some v =>
          have h24 := cd_24 e
          rw [if_neg (oC_no (by omega))]
          refine s2_costOf h24 ?_
          unfold lt
          rw [nI_add, show nI d + 1 = nI (d + 1) from nI_1 d]
          refine ih (d + 1) (s + cst v) (by omega) (by omega) ?_
          unfold totO
          rw [hs, e]
  unfold x2_totalOf
  exact ⟨F 2 + 1, key (F 2 + 1) 0 0 (Nat.zero_le _) (by omega) rfl⟩
def lxB (a b : Nat → Nat) : Nat → Nat → Bool
  | 0, _ => false
  | n + 1, d => if a d = b d then lxB a b n (d + 1) else decide (a d < b d)
theorem lxB_iff {a b : Nat → Nat} : ∀ n d, (∀ e, e < d → a e = b e) → (lxB a b n d = true ↔ lxl (d + n) a b) := by
  intro n
  induction n with
  | zero =>
    intro d h
    refine ⟨fun q => absurd q (by unfold lxB; decide), fun q => ?_⟩
    obtain ⟨x, hx, _, l⟩ := q
    have := h x (by omega)
    omega
  | succ n ih =>
    intro d h
    unfold lxB
    by_cases z : a d = b d
    · rw [if_pos z, ih (d + 1) (fun e he => by
        by_cases y : e = d
        · subst y; exact z
        · exact h e (by omega)), show d + 1 + n = d + (n + 1) by omega]
    · rw [if_neg z]
      constructor
      · intro q
        exact ⟨d, by omega, h, of_decide_eq_true q⟩
      · rintro ⟨x, hx, e, l⟩
        refine decide_eq_true ?_
        rcases Nat.lt_trichotomy x d with q | q | q
        · have := h x q; omega
        · subst q; exact l
        · exact absurd (e d q) z
theorem s2_ahead {σ : St} {F : Fn} {M N g g' : Nat} {k : Int32 → St → Prop} (h62 : F 2 ≤ 6) (hW : Wgh σ F M N) (hg : g < 64) (hg' : g' < 64) (h1 : ∀ d, d < F 2 → ∃ v, cdO F M N g d = some v) (h2 : ∀ d, d < F 2 → ∃ v, cdO F M N g' d = some v) : ∀ n d, d + n = F 2 → k (nI (if lxB (sq F M N g) (sq F M N g') n d then 1 else 0)) σ → x2_isAhead_2 (nI g) (nI g') k (n + 1) (nI d) σ := by
  intro n
  induction n with
  | zero =>
    intro d hd hk
    unfold x2_isAhead_2
    rw [hW.1, if_pos (nI_le (by omega) (by omega))]
    exact ⟨Or.inl rfl, hk⟩
  | succ n ih =>
    intro d hd hk
    unfold x2_isAhead_2 x2_isAhead_45
    rw [hW.1, if_neg (nI_ge (by omega) (by omega))]
    obtain ⟨v, hv⟩ := h1 d (by omega)
    obtain ⟨v', hv'⟩ := h2 d (by omega)
    have a1 := cd_24 hv
    have a2 := cd_24 hv'
    refine s2_codeAt h62 hW (by omega) hg ?_
    refine s2_codeAt h62 hW (by omega) hg' ?_
    rw [hv, hv']
    show if nI v = nI v' then _ else _
    unfold lxB at hk
    have e1 : sq F M N g d = v := by unfold sq; rw [hv]; rfl
    have e2 : sq F M N g' d = v' := by unfold sq; rw [hv']; rfl
    rw [e1, e2] at hk
    by_cases z : v = v'
    · rw [if_pos z] at hk
      rw [if_pos (by rw [z]), show nI d + 1 = nI (d + 1) from nI_1 d]
      exact ih (d + 1) (by omega) hk
    · rw [if_neg z] at hk
      rw [if_neg (by rw [nI_eq (by omega) (by omega)]; exact z)]
      by_cases y : v < v'
      · rw [decide_eq_true y] at hk
        show if nI v' ≤ nI v then _ else _
        rw [if_neg (nI_ge y (by omega))]
        exact ⟨Or.inr rfl, hk⟩
      · rw [decide_eq_false y] at hk
        show if nI v' ≤ nI v then _ else _
        rw [if_pos (nI_le (by omega) (by omega))]
        exact ⟨Or.inl rfl, hk⟩
theorem Wgh.up {σ : St} {F : Fn} {M N j : Nat} {v : Int32} (hW : Wgh σ F M N) (hj : j ≠ 1) : Wgh (st_up σ 61 j v) F M N := ⟨by rw [up_n _ _ (Or.inr (by omega))]; exact hW.1, fun d h hd hh => by rw [st_up_ne _ _ _ (by decide)]; exact hW.2 d h hd hh⟩
/-- the best of the ways up to g -/
def Tp (F : Fn) (M N gs T g : Nat) : Prop := gs < g ∧ totO F M N gs (F 2) = some T ∧ ∀ g', g' < g → ∀ T', totO F M N g' (F 2) = some T' → T ≤ T' ∧ (T' = T → ¬ lxl (F 2) (sq F M N g') (sq F M N gs))
theorem s2_choose_7 {σ : St} {F : Fn} {M N : Nat} {k : Int32 → St → Prop} (h62 : F 2 ≤ 6) (hk0 : (∀ g, g < 2 ^ F 2 → totO F M N g (F 2) = none) → ∀ σ', (∀ i, i ≠ 61 → σ' i = σ i) → k 0 σ') (hk1 : ∀ gs T σ', Tp F M N gs T (2 ^ F 2) → Wgh σ' F M N → σ' 61 3 = nI T → σ' 61 2 = nI gs → (∀ i, i ≠ 61 → σ' i = σ i) → k 1 σ') : ∀ m g τ, g ≤ 2 ^ F 2 → 2 ^ F 2 < g + m → Wgh τ F M N → (∀ i, i ≠ 61 → τ i = σ i) → ((τ 61 3 = -1 ∧ ∀ g', g' < g → totO F M N g' (F 2) = none) ∨ ∃ gs T, Tp F M N gs T g ∧ τ 61 3 = nI T ∧ τ 61 2 = nI gs) → x2_choose_7 k m (nI g) τ := by
  have h64 : 2 ^ F 2 ≤ 64 := show 2 ^ F 2 ≤ 2 ^ 6 from Nat.pow_le_pow_right (by decide) h62
  intro m
  induction m with
  | zero => intro g τ h1 h2; omega
  | succ m ih =>
    intro g τ h1 h2 hW hfr hst
    unfold x2_choose_7 x2_choose_108
    rw [hW.1, show (1 : Int32) <<< (nI (F 2) &&& 31) = nI (2 ^ F 2) from shl1 _ (by omega)]
    by_cases z : 2 ^ F 2 ≤ g
    · have : g = 2 ^ F 2 := by omega
      subst this
      rw [if_pos (nI_le z (by omega))]
      rcases hst with ⟨s1, s2⟩ | ⟨gs, T, t1, t2, t3⟩
      · rw [if_pos s1]
        exact ⟨Or.inl rfl, hk0 s2 τ hfr⟩
      · have := totO_le t1.2.1 h62
        rw [if_neg (by rw [t2]; exact oC_no (v := T) (by omega))]
        exact ⟨Or.inr rfl, hk1 gs T τ t1 hW t2 t3 hfr⟩
    · rw [if_neg (nI_ge (by omega) (by omega))]
      refine s2_total h62 hW (by omega) ?_
      have nx := fun τ => ih (g + 1) τ (by omega) (by omega)
      unfold x2_choose_48 x2_choose_44 x2_choose_49 x2_choose_79 x2_choose_89 lt
      dsimp only
      rw [show nI g + 1 = nI (g + 1) from nI_1 g]
      cases e : totO F M N g (F 2) with
      | none =>
        have stay : x2_choose_7 k m (nI (g + 1)) τ := by
          refine nx τ hW hfr ?_
          rcases hst with ⟨s1, s2⟩ | ⟨gs, T, t1, t2, t3⟩
          · refine Or.inl ⟨s1, fun g' hg' => ?_⟩
            by_cases y : g' = g
            · subst y; exact e
            · exact s2 g' (by omega)
          · refine Or.inr ⟨gs, T, ⟨by have := t1.1; omega, t1.2.1, fun g' hg' T' hT' => ?_⟩, t2, t3⟩
            by_cases y : g' = g
            · subst y; rw [e] at hT'; exact absurd hT' (by simp)
            · exact t1.2.2 g' (by omega) T' hT'
        rw [if_pos (show oC none = -1 from rfl), if_pos rfl, if_pos (show oC none = -1 from rfl)]
        exact stay
      | some T0 =>
        have b0 := totO_le e h62
        have n1 : ¬ oC (some T0) = -1 := oC_no (by omega)
        have setG : Tp F M N g T0 (g + 1) → x2_choose_7 k m (nI (g + 1)) (st_up (st_up τ 61 3 (oC (some T0))) 61 2 (nI g)) := by
          intro hTp
          refine nx _ ((hW.up (by decide)).up (by decide)) (fun i hi => by rw [st_up_ne _ _ _ hi, st_up_ne _ _ _ hi]; exact hfr i hi) (Or.inr ⟨g, T0, hTp, ?_, ?_⟩)
          · rw [up_n _ _ (Or.inr (by decide)), up_s]; rfl
          · rw [up_s]
        rw [if_neg n1, if_pos rfl, if_neg (show ¬ (1 : Int32) = 0 by decide), if_neg n1]
        rcases hst with ⟨s1, s2⟩ | ⟨gs, T, t1, t2, t3⟩
        · rw [if_pos s1]
          refine setG ⟨by omega, e, fun g' hg' T' hT' => ?_⟩
          by_cases y : g' = g
          · subst y
            rw [e] at hT'
            have := Option.some.inj hT'
            exact ⟨by omega, fun _ q => by obtain ⟨x, _, _, l⟩ := q; omega⟩
          · rw [s2 g' (by omega)] at hT'; exact absurd hT' (by simp)
        · have b1 := totO_le t1.2.1 h62
          rw [if_neg (by rw [t2]; exact oC_no (v := T) (by omega)), t2, t3]
          show if nI T ≤ nI T0 then _ else _
          by_cases c1 : T ≤ T0
          · rw [if_pos (nI_le c1 (by omega))]
            have stay : (T0 = T → ¬ lxl (F 2) (sq F M N g) (sq F M N gs)) → x2_choose_7 k m (nI (g + 1)) τ := by
              intro hq
              refine nx τ hW hfr (Or.inr ⟨gs, T, ⟨by have := t1.1; omega, t1.2.1, fun g' hg' T' hT' => ?_⟩, t2, t3⟩)
              by_cases y : g' = g
              · subst y
                rw [e] at hT'
                have := Option.some.inj hT'
                subst this
                exact ⟨c1, hq⟩
              · exact t1.2.2 g' (by omega) T' hT'
            show if nI T0 = nI T then _ else _
            by_cases c2 : T0 = T
            · rw [if_pos (by rw [c2])]
              unfold x2_isAhead
              have lt1 := t1.1
              refine ⟨F 2 + 1, s2_ahead h62 hW (by omega) (by omega) (totO_some _ _ e).1 (totO_some _ _ t1.2.1).1 (F 2) 0 (by omega) ?_⟩
              have li := lxB_iff (a := sq F M N g) (b := sq F M N gs) (F 2) 0 (fun e he => absurd he (Nat.not_lt_zero _))
              rw [Nat.zero_add] at li
              show if _ then _ else _
              cases el : lxB (sq F M N g) (sq F M N gs) (F 2) 0 with
              | false =>
                rw [if_pos (by decide)]
                exact stay (fun _ q => by rw [li.mpr q] at el; exact absurd el (by decide))
              | true =>
                have hl := li.mp el
                rw [if_neg (by decide)]
                refine setG ⟨by omega, e, fun g' hg' T' hT' => ?_⟩
                by_cases y : g' = g
                · subst y
                  rw [e] at hT'
                  have := Option.some.inj hT'
                  exact ⟨by omega, fun _ q => by obtain ⟨x, _, _, l⟩ := q; omega⟩
                · have := t1.2.2 g' (by omega) T' hT'
                  exact ⟨by omega, fun q w => this.2 (by omega) (lxl_trans w hl)⟩
            · rw [if_neg (by rw [nI_eq (by omega) (by omega)]; exact c2)]
              exact stay (fun q => absurd q c2)
          · rw [if_neg (nI_ge (by omega) (by omega))]
            refine setG ⟨by omega, e, fun g' hg' T' hT' => ?_⟩
            by_cases y : g' = g
            · subst y
              rw [e] at hT'
              have := Option.some.inj hT'
              exact ⟨by omega, fun _ q => by obtain ⟨x, _, _, l⟩ := q; omega⟩
            · have := t1.2.2 g' (by omega) T' hT'
              exact ⟨by omega, fun q => by omega⟩
theorem s2_choose {σ : St} {F : Fn} {M N : Nat} {k : Int32 → St → Prop} (h62 : F 2 ≤ 6) (hW : Wgh σ F M N) (hk0 : (∀ g, g < 2 ^ F 2 → totO F M N g (F 2) = none) → ∀ σ', (∀ i, i ≠ 61 → σ' i = σ i) → k 0 σ') (hk1 : ∀ gs T σ', Tp F M N gs T (2 ^ F 2) → Wgh σ' F M N → σ' 61 3 = nI T → σ' 61 2 = nI gs → (∀ i, i ≠ 61 → σ' i = σ i) → k 1 σ') : x2_choose σ k := by
  unfold x2_choose lt
  refine ⟨2 ^ F 2 + 1, s2_choose_7 h62 hk0 hk1 (2 ^ F 2 + 1) 0 _ (Nat.zero_le _) (by omega) (hW.up (by decide)) (fun i hi => st_up_ne _ _ _ hi) (Or.inl ⟨up_s _ _ _ _, fun g' hg' => absurd hg' (Nat.not_lt_zero _)⟩)⟩
theorem cst_2 (b e : Nat) (h : e < 2) : cst (2 * b + e) = b / 2 + b % 2 + e := by
  unfold cst
  rw [show (2 * b + e) / 4 = b / 2 by omega, show (2 * b + e) / 2 = b by omega, show (2 * b + e) % 2 = e by omega]
/-- a laying told by its dogs alone is no dearer, and not behind -/
theorem by_dogs {F : Fn} {M N : Nat} {a : Nat → Nat} (ha : Vd (ftF F M N) (F 2) a) : ∃ g, g < 2 ^ F 2 ∧ (∀ d, d < F 2 → ∃ v, cdO F M N g d = some v ∧ cst v ≤ cst (a d) ∧ (cst v = cst (a d) → v ≤ a d)) := by
  refine ⟨mskL (fun d => decide (a d % 2 = 1)) (F 2), mskL_lt _ _, fun d hd => ?_⟩
  have bit : ∀ e, e < F 2 → mskL (fun d => decide (a d % 2 = 1)) (F 2) / 2 ^ e % 2 = a e % 2 := fun e he => by
    rw [mskL_get _ he]
    by_cases z : a e % 2 = 1
    · rw [z]; rfl
    · simp [z]; omega
  have top : ∀ e, F 2 ≤ e → mskL (fun d => decide (a d % 2 = 1)) (F 2) / 2 ^ e % 2 = 0 := fun e he => by
    rw [Nat.div_eq_of_lt (Nat.lt_of_lt_of_le (mskL_lt _ _) (Nat.pow_le_pow_right (by decide) he))]
  generalize mskL (fun d => decide (a d % 2 = 1)) (F 2) = g at *
  have eh : hmB g d = hh (F 2) a d := by
    unfold hmB hh
    rw [bit d hd]
    by_cases y : d + 1 < F 2
    · rw [if_pos y, bit (d + 1) y]
      by_cases x : 0 < d
      · rw [if_pos x, if_pos x, bit (d - 1) (by omega)]
      · rw [if_neg x, if_neg x]
    · rw [if_neg y, top (d + 1) (by omega)]
      by_cases x : 0 < d
      · rw [if_pos x, if_pos x, bit (d - 1) (by omega)]
      · rw [if_neg x, if_neg x]
  have hv := ha d hd
  unfold cdO
  rw [eh]
  cases e : chA (fun t => ftF F M N d t (hh (F 2) a d)) 12 with
  | none =>
    have := (chA_none 12).mp e (a d / 2) (by omega)
    rw [hv.2] at this; exact absurd this (by decide)
  | some t =>
    have ht := chA_lt 12 t e
    have := (chA_some 12 t e).2 (a d / 2) (by omega) hv.2
    have c1 := cst_2 t (a d % 2) (by omega)
    have c2 := cst_2 (a d / 2) (a d % 2) (by omega)
    rw [show 2 * (a d / 2) + a d % 2 = a d by omega] at c2
    have c3 := cst_2 t 0 (by decide)
    have c4 := cst_2 (a d / 2) 0 (by decide)
    rw [Nat.add_zero, Nat.add_zero] at c3 c4
    generalize t / 2 + t % 2 = X at *
    generalize a d / 2 / 2 + a d / 2 % 2 = Y at *
    refine ⟨2 * t + g / 2 ^ d % 2, rfl, ?_, ?_⟩
    · rw [bit d hd]
      have q := this.1
      omega
    · rw [bit d hd]
      intro w
      have q := this.2 (by omega)
      omega
theorem sq_Vd {F : Fn} {M N gs T : Nat} (hg : gs < 2 ^ F 2) (h : totO F M N gs (F 2) = some T) : Vd (ftF F M N) (F 2) (sq F M N gs) ∧ tsr (sq F M N gs) (F 2) 0 = T := by
  obtain ⟨i1, i2⟩ := totO_some _ _ h
  have sqv : ∀ d, d < F 2 → ∃ t, chA (fun t => ftF F M N d t (hmB gs d)) 12 = some t ∧ sq F M N gs d = 2 * t + gs / 2 ^ d % 2 ∧ t < 12 := fun d hd => by
    obtain ⟨v, hv⟩ := i1 d hd
    obtain ⟨t, c1, c2, c3⟩ := cd_some hv
    refine ⟨t, c1, ?_, c3⟩
    unfold sq; rw [hv]; exact c2
  have bit : ∀ e, e < F 2 → sq F M N gs e % 2 = gs / 2 ^ e % 2 := fun e he => by
    obtain ⟨t, _, c2, _⟩ := sqv e he
    omega
  have top : ∀ e, F 2 ≤ e → gs / 2 ^ e % 2 = 0 := fun e he => by
    rw [Nat.div_eq_of_lt (Nat.lt_of_lt_of_le hg (Nat.pow_le_pow_right (by decide) he))]
  refine ⟨fun d hd => ?_, ?_⟩
  · obtain ⟨t, c1, c2, c3⟩ := sqv d hd
    have eh : hh (F 2) (sq F M N gs) d = hmB gs d := by
      unfold hmB hh
      rw [bit d hd]
      by_cases y : d + 1 < F 2
      · rw [if_pos y, bit (d + 1) y]
        by_cases x : 0 < d
        · rw [if_pos x, if_pos x, bit (d - 1) (by omega)]
        · rw [if_neg x, if_neg x]
      · rw [if_neg y, top (d + 1) (by omega)]
        by_cases x : 0 < d
        · rw [if_pos x, if_pos x, bit (d - 1) (by omega)]
        · rw [if_neg x, if_neg x]
    rw [eh, c2]
    refine ⟨by omega, ?_⟩
    rw [show (2 * t + gs / 2 ^ d % 2) / 2 = t by omega]
    exact (chA_some 12 t c1).1
  · have := tsr_sm (sq F M N gs) (F 2) 0
    rw [Nat.zero_add] at this
    have e0 : smL (fun i => cst (sq F M N gs i)) 0 = 0 := rfl
    omega
theorem smL_eqs {f g : Nat → Nat} : ∀ n, (∀ i, i < n → f i ≤ g i) → smL f n = smL g n → ∀ i, i < n → f i = g i := by
  intro n
  induction n with
  | zero => intro _ _ i hi; omega
  | succ n ih =>
    intro h e i hi
    have e : smL f n + f n = smL g n + g n := e
    have h1 := smL_mono n (fun i hi => h i (by omega))
    have h2 := h n (by omega)
    by_cases z : i = n
    · subst z; omega
    · exact ih (fun i hi => h i (by omega)) (by omega) i (by omega)
theorem choose_best {F : Fn} {M N gs T : Nat} (h : Tp F M N gs T (2 ^ F 2)) : Best (ftF F M N) (F 2) (sq F M N gs) ∧ tsr (sq F M N gs) (F 2) 0 = T := by
  obtain ⟨h1, h2, h3⟩ := h
  obtain ⟨v1, v2⟩ := sq_Vd h1 h2
  refine ⟨⟨v1, fun a ha => ?_⟩, v2⟩
  obtain ⟨g, hg, hc⟩ := by_dogs ha
  have hT := totO_of (g := g) (F 2) (fun d hd => by obtain ⟨v, hv, _⟩ := hc d hd; exact ⟨v, hv⟩)
  have hb := h3 g hg _ hT
  have hsq : ∀ d, d < F 2 → cst (sq F M N g d) ≤ cst (a d) ∧ (cst (sq F M N g d) = cst (a d) → sq F M N g d ≤ a d) := fun d hd => by
    obtain ⟨v, hv, c1, c2⟩ := hc d hd
    have : sq F M N g d = v := by unfold sq; rw [hv]; rfl
    rw [this]; exact ⟨c1, c2⟩
  have hle := smL_mono (f := fun d => cst (sq F M N g d)) (g := fun d => cst (a d)) (F 2) (fun d hd => (hsq d hd).1)
  have ta := tsr_sm a (F 2) 0
  rw [Nat.zero_add] at ta
  have e0 : smL (fun i => cst (a i)) 0 = 0 := rfl
  refine ⟨by omega, fun q => ?_⟩
  have heq : smL (fun d => cst (sq F M N g d)) (F 2) = smL (fun d => cst (a d)) (F 2) := by omega
  have each := smL_eqs (F 2) (fun d hd => (hsq d hd).1) heq
  have l1 : ¬ lxl (F 2) a (sq F M N g) := by
    rintro ⟨d, hd, _, l⟩
    have := (hsq d hd).2 (each d hd)
    omega
  exact lxl_le l1 (hb.2 (by omega))
theorem choose_none {F : Fn} {M N : Nat} (h : ∀ g, g < 2 ^ F 2 → totO F M N g (F 2) = none) : ¬ ∃ a, Vd (ftF F M N) (F 2) a := by
  rintro ⟨a, ha⟩
  obtain ⟨g, hg, hc⟩ := by_dogs ha
  have hT := totO_of (g := g) (F 2) (fun d hd => by obtain ⟨v, hv, _⟩ := hc d hd; exact ⟨v, hv⟩)
  rw [h g hg] at hT; exact absurd hT (by simp)
