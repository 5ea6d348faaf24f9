/-! WEIGH -/
def cst (b : Nat) : Nat := b / 4 + b / 2 % 2 + b % 2
theorem cst_I : ∀ b, b < 24 → (((nI b >>> ((2 : Int32) &&& 31)) + ((nI b >>> ((1 : Int32) &&& 31)) &&& 1)) + (nI b &&& 1)) = nI (cst b) := by decide +kernel
theorem code_I : ∀ t, t < 12 → nI (2 * t) >>> ((2 : Int32) &&& 31) = nI (t / 2) ∧ (nI (2 * t) >>> ((1 : Int32) &&& 31)) &&& 1 = nI (t % 2) := by decide +kernel
theorem s2_costOf {b : Nat} {σ : St} {k : Int32 → St → Prop} (hb : b < 24) (h : k (nI (cst b)) σ) : x2_costOf (nI b) σ k := by
  unfold x2_costOf
  rw [cst_I b hb]; exact h
/-- those of a set who would meet there -/
def mtsA (F : Fn) (A d s g h : Nat) : Nat := mskL (fun c => bt A c && mcF F d s g h c) (F 3)
theorem s2_meet_34 {σ : St} {F : Fn} {k : Int32 → St → Prop} (hC : StC 19 σ F) (hF : WF F) {x1 x3 : Int32} {A d s g h : Nat} (hd : d < F 2) (hs : s ≤ 5) (hg : g ≤ 1) (hh : h ≤ 1) (a64 : A < 64) (hk : k (nI (mtsA F A d s g h)) σ) : ∀ m c, c ≤ F 3 → F 3 < c + m → x2_meetersAt_34 19 x1 (nI h) x3 (nI A) k m (nI s) (nI g) (nI (F (5 + d) + s + 2 * h - g)) (nI (mskL (fun c => bt A c && mcF F d s g h c) c)) (nI c) σ := by
  have h63 := hF.2.2.2.2.1
  have h62 := hF.2.2.2.1
  have hw5 := hF.2.2.2.2.2.1 d hd
  intro m
  induction m with
  | zero => intro c h1 h2; omega
  | succ m ih =>
    intro c h1 h2
    unfold x2_meetersAt_34 x2_meetersAt_94
    rw [hC.2.1]
    by_cases z : F 3 ≤ c
    · have : c = F 3 := by omega
      subst this
      rw [if_pos (nI_le z (by omega))]
      exact hk
    · have hw := hF.2.2.2.2.2.2.2.1 c (by omega)
      have hc := hC.2.2.2.2.2.2 c (by omega)
      rw [if_neg (nI_ge (by omega) (by omega)), nI_clamp (by omega), hc.1, hc.2.2.1]
      refine ⟨(vpI (by omega)).mpr (by show _ < 6; omega), (vpI (by omega)).mpr (by show _ < 6; omega), s5_staying hw.1 (by omega) (by omega) (by omega) hh ?_⟩
      have bs := syk_le (k := F (29 + c)) (h := h) hw.2.1 hs hg
      have ih' := ih (c + 1) (by omega) (by omega)
      have es : mskL (fun c => bt A c && mcF F d s g h c) (c + 1) = if (bt A c && mcF F d s g h c) then mskL (fun c => bt A c && mcF F d s g h c) c ||| 2 ^ c else mskL (fun c => bt A c && mcF F d s g h c) c := rfl
      have hlt := mskL_64 (fun c => bt A c && mcF F d s g h c) (n := c) (by omega)
      have hp : 2 ^ c < 64 := Nat.pow_lt_pow_right (n := 6) (by decide) (by omega)
      rw [es] at ih'
      show if _ then _ else _
      unfold lt
      rw [show (nI A >>> (nI c &&& 31)) &&& 1 = nI (A / 2 ^ c % 2) from bitI A a64 c (by omega), show nI c + 1 = nI (c + 1) from nI_1 c, show (1 : Int32) <<< (nI c &&& 31) = nI (2 ^ c) from shl1 c (by omega)]
      by_cases q : A / 2 ^ c % 2 = 1
      · have bq : bt A c = true := by unfold bt; simpa using q
        rw [if_pos (by rw [q]; rfl)]
        by_cases y : F (5 + d) + s + 2 * h - g ≤ syk (F (29 + c)) (F (35 + c)) s g h
        · have e : mcF F d s g h c = true := by unfold mcF; simpa using y
          rw [bq, e, if_pos (show (true && true) = true from rfl)] at ih'
          rw [if_neg (by rw [nI_ltI (by omega) (by omega)]; omega), orI _ hlt _ hp]
          exact ih'
        · have e : mcF F d s g h c = false := by unfold mcF; simpa using y
          rw [e, Bool.and_false, if_neg (by decide)] at ih'
          rw [if_pos (by rw [nI_ltI (by omega) (by omega)]; omega)]
          exact ih'
      · have bq : bt A c = false := by unfold bt; simpa using q
        have h0 : A / 2 ^ c % 2 = 0 := by omega
        rw [bq, Bool.false_and, if_neg (by decide)] at ih'
        rw [if_neg (by rw [h0]; decide)]
        exact ih'
theorem s2_meetersAt {σ : St} {F : Fn} {k : Int32 → St → Prop} (hC : StC 19 σ F) (hF : WF F) {A d t h : Nat} (hd : d < F 2) (ht : t < 12) (hh : h ≤ 1) (a64 : A < 64) (hk : k (nI (mtsA F A d (t / 2) (t % 2) h)) σ) : x2_meetersAt 19 (nI d) (nI h) (nI (2 * t)) (nI A) σ k := by
  have h62 := hF.2.2.2.1
  have h63 := hF.2.2.2.2.1
  have hw5 := hF.2.2.2.2.2.1 d hd
  unfold x2_meetersAt lt
  dsimp only
  rw [(code_I t ht).1, (code_I t ht).2, nI_clamp (by omega), (hC.2.2.2.2.2.1 d hd).1]
  refine ⟨(vpI (by omega)).mpr (by show _ < 6; omega), s5_opening (by omega) (by omega) (by omega) hh ?_⟩
  exact ⟨7, s2_meet_34 hC hF hd (by omega) (by omega) hh a64 hk 7 0 (Nat.zero_le _) (by omega)⟩
/-- the two ways to ask whether a laying fits are one -/
theorem mts_fit {F : Fn} (h63 : F 3 ≤ 6) {M N d s g h : Nat} (hM : M < 2 ^ F 3) (hN : N < 2 ^ F 3) (hMN : M &&& N = 0) : (mtsA F ((M &&& cat F d) ||| (N &&& cat F d)) d s g h = M &&& cat F d) ↔ fit F M N d s g h = true := by
  unfold fit
  rw [allL_t]
  have tb : ∀ A c, A.testBit c = bt A c := fun A c => by rw [Nat.testBit_eq_decide_div_mod_eq]; rfl
  have hap : ∀ c, ¬ (M.testBit c = true ∧ N.testBit c = true) := fun c q => by
    have := congrArg (fun v => v.testBit c) hMN
    simp only [Nat.testBit_and, Nat.zero_testBit] at this
    rw [q.1, q.2] at this; exact absurd this (by decide)
  have cb : ∀ c, c < F 3 → (cat F d).testBit c = decide (F (41 + c) = d) := fun c hc => by
    unfold cat; rw [mskL_bit]; simp [hc]
  have key : ∀ c, c < F 3 → ((bt ((M &&& cat F d) ||| (N &&& cat F d)) c && mcF F d s g h c) = (M &&& cat F d).testBit c ↔ ftC F M N d s g h c = true) := by
    intro c hc
    rw [← tb, Nat.testBit_or, Nat.testBit_and, Nat.testBit_and, cb c hc]
    unfold ftC
    rw [← tb, ← tb]
    have := hap c
    by_cases hp : F (41 + c) = d
    · cases h1 : M.testBit c <;> cases h2 : N.testBit c <;> cases h3 : mcF F d s g h c <;> simp_all
    · simp [hp]
  constructor
  · intro e c hc
    rw [← key c hc]
    have := congrArg (fun v => v.testBit c) e
    simp only [mtsA] at this
    rw [mskL_bit] at this
    simpa [hc] using this
  · intro q
    apply Nat.eq_of_testBit_eq
    intro c
    unfold mtsA
    rw [mskL_bit]
    by_cases hc : c < F 3
    · have := (key c hc).mpr (q c hc)
      simpa [hc] using this
    · rw [Nat.testBit_and, Nat.testBit_lt_two_pow (x := M) (Nat.lt_of_lt_of_le hM (Nat.pow_le_pow_right (by decide) (by omega)))]
      simp [hc]
/-- the first of the cheapest that do -/
def chA (f : Nat → Bool) : Nat → Option Nat
  | 0 => none
  | t + 1 => match chA f t with
    | none => if f t then some t else none
    | some b => if cst (2 * t) < cst (2 * b) ∧ f t = true then some t else some b
def oI : Option Nat → Int32
  | none => -1
  | some t => nI (2 * t)
theorem chA_lt {f : Nat → Bool} : ∀ n b, chA f n = some b → b < n := by
  intro n
  induction n with
  | zero => intro b h; exact absurd h (by unfold chA; simp)
  | succ n ih =>
    intro b h
    unfold chA at h
    cases e : chA f n with
    | none =>
      rw [e] at h
      by_cases q : f n = true
      · simp only [q, if_true, Option.some.injEq] at h; omega
      · simp [q] at h
    | some b' =>
      rw [e] at h
      have := ih b' e
      by_cases q : cst (2 * n) < cst (2 * b') ∧ f n = true
      · simp only [if_pos q, Option.some.injEq] at h; omega
      · simp only [if_neg q, Option.some.injEq] at h; omega
theorem chA_none {f : Nat → Bool} : ∀ n, chA f n = none ↔ ∀ t, t < n → f t = false := by
  intro n
  induction n with
  | zero => exact ⟨fun _ t ht => absurd ht (Nat.not_lt_zero _), fun _ => rfl⟩
  | succ n ih =>
    unfold chA
    cases e : chA f n with
    | none =>
      rw [e] at ih
      have ih := ih.mp rfl
      constructor
      · intro h t ht
        by_cases z : t = n
        · subst z
          cases q : f t with
          | true => simp [q] at h
          | false => rfl
        · exact ih t (by omega)
      · intro h; simp [h n (by omega)]
    | some b =>
      rw [e] at ih
      constructor
      · intro h
        by_cases q : cst (2 * n) < cst (2 * b) ∧ f n = true
        · simp [q] at h
        · simp only [if_neg q] at h; exact absurd h (by simp)
      · intro h
        exact absurd (ih.mpr (fun t ht => h t (by omega))) (by simp)
theorem chA_some {f : Nat → Bool} : ∀ n b, chA f n = some b → f b = true ∧ ∀ t, t < n → f t = true → cst (2 * b) ≤ cst (2 * t) ∧ (cst (2 * b) = cst (2 * t) → b ≤ t) := by
  intro n
  induction n with
  | zero => intro b h; exact absurd h (by unfold chA; simp)
  | succ n ih =>
    intro b h
    unfold chA at h
    cases e : chA f n with
    | none =>
      rw [e] at h
      have no := (chA_none n).mp e
      by_cases q : f n = true
      · simp only [q, if_true, Option.some.injEq] at h
        subst h
        refine ⟨q, fun t ht ft => ?_⟩
        by_cases z : t = n
        · subst z; exact ⟨Nat.le_refl _, fun _ => Nat.le_refl _⟩
        · rw [no t (by omega)] at ft; exact absurd ft (by decide)
      · simp [q] at h
    | some b' =>
      rw [e] at h
      obtain ⟨i1, i2⟩ := ih b' e
      have hb := chA_lt n b' e
      by_cases q : cst (2 * n) < cst (2 * b') ∧ f n = true
      · simp only [if_pos q, Option.some.injEq] at h
        subst h
        refine ⟨q.2, fun t ht ft => ?_⟩
        by_cases z : t = n
        · subst z; exact ⟨Nat.le_refl _, fun _ => Nat.le_refl _⟩
        · have := i2 t (by omega) ft
          exact ⟨by omega, fun y => by omega⟩
      · simp only [if_neg q, Option.some.injEq] at h
        subst h
        refine ⟨i1, fun t ht ft => ?_⟩
        by_cases z : t = n
        · subst z
          have : ¬ cst (2 * t) < cst (2 * b') := fun y => q ⟨y, ft⟩
          exact ⟨by omega, fun y => by omega⟩
        · exact i2 t (by omega) ft
theorem s2_cheap_6 {σ : St} {F : Fn} {k : Int32 → St → Prop} (hC : StC 19 σ F) (hF : WF F) {M N d h : Nat} (hd : d < F 2) (hh : h ≤ 1) (hM : M < 2 ^ F 3) (hN : N < 2 ^ F 3) (hMN : M &&& N = 0) (hk : k (oI (chA (fun t => fit F M N d (t / 2) (t % 2) h) 12)) σ) : ∀ m t, t ≤ 12 → 12 < t + m → x2_cheapestAt_6 19 (nI d) (nI h) (nI (M &&& cat F d)) (nI (N &&& cat F d)) k m (oI (chA (fun t => fit F M N d (t / 2) (t % 2) h) t)) (nI (2 * t)) σ := by
  have h63 := hF.2.2.2.2.1
  have h64 : 2 ^ F 3 ≤ 64 := show 2 ^ F 3 ≤ 2 ^ 6 from Nat.pow_le_pow_right (by decide) h63
  have a64 : M &&& cat F d < 64 := Nat.lt_of_le_of_lt Nat.and_le_left (by omega)
  have b64 : N &&& cat F d < 64 := Nat.lt_of_le_of_lt Nat.and_le_left (by omega)
  intro m
  induction m with
  | zero => intro t h1 h2; omega
  | succ m ih =>
    intro t h1 h2
    unfold x2_cheapestAt_6
    by_cases z : 12 ≤ t
    · have : t = 12 := by omega
      subst this
      rw [if_pos (by decide)]; exact hk
    · rw [if_neg (by rw [show (22 : Int32) = nI 22 from rfl, nI_ltI (by decide) (by omega)]; omega)]
      have ih' := ih (t + 1) (by omega) (by omega)
      have e2 : (nI (2 * t) + 2 : Int32) = nI (2 * (t + 1)) := by rw [show (2 : Int32) = nI 2 from rfl, nI_add, show 2 * t + 2 = 2 * (t + 1) by omega]
      have es : chA (fun t => fit F M N d (t / 2) (t % 2) h) (t + 1) = match chA (fun t => fit F M N d (t / 2) (t % 2) h) t with
        | none => if fit F M N d (t / 2) (t % 2) h then some t else none
        | some b => if cst (2 * t) < cst (2 * b) ∧ fit F M N d (t / 2) (t % 2) h = true then some t else some b := rfl
      have c32 : ∀ old : Option Nat, (fit F M N d (t / 2) (t % 2) h = true → chA (fun t => fit F M N d (t / 2) (t % 2) h) (t + 1) = some t) → (fit F M N d (t / 2) (t % 2) h = false → chA (fun t => fit F M N d (t / 2) (t % 2) h) (t + 1) = old) → x2_cheapestAt_32 19 (nI d) (nI h) (nI (M &&& cat F d)) (nI (N &&& cat F d)) (x2_cheapestAt_6 19 (nI d) (nI h) (nI (M &&& cat F d)) (nI (N &&& cat F d)) k m) (oI old) (nI (2 * t)) σ k := by
        intro old y1 y2
        unfold x2_cheapestAt_32 x2_cheapestAt_37 x2_cheapestAt_64
        rw [if_neg (by decide), orI _ a64 _ b64]
        refine s2_meetersAt hC hF hd (by omega) hh (show _ < 2 ^ 6 from Nat.or_lt_two_pow a64 b64) ?_
        show if _ then _ else _
        rw [e2]
        have mf := mts_fit (F := F) h63 (d := d) (s := t / 2) (g := t % 2) (h := h) hM hN hMN
        have lt1 : mtsA F ((M &&& cat F d) ||| (N &&& cat F d)) d (t / 2) (t % 2) h < 64 := mskL_64 _ h63
        cases ff : fit F M N d (t / 2) (t % 2) h with
        | true =>
          rw [if_pos (by rw [mf.mpr ff])]
          rw [y1 ff] at ih'
          exact ih'
        | false =>
          rw [if_neg (by
            rw [nI_eq (by omega) (by omega)]
            intro q
            rw [mf.mp q] at ff; exact absurd ff (by decide))]
          rw [y2 ff] at ih'
          exact ih'
      cases ho : chA (fun t => fit F M N d (t / 2) (t % 2) h) t with
      | none =>
        rw [if_pos (show oI none = -1 from rfl)]
        refine c32 none (fun ff => ?_) (fun ff => ?_)
        · rw [es, ho, ff]; rfl
        · rw [es, ho, ff]; rfl
      | some b =>
        have hb := chA_lt t b ho
        rw [if_neg (show ¬ oI (some b) = -1 by
          show ¬ nI (2 * b) = -1
          intro q
          exact absurd (show nI (2 * b) < 0 by rw [q]; decide) (nI_pos (by omega)))]
        refine s2_costOf (by omega) ?_
        refine s2_costOf (b := 2 * b) (by omega) ?_
        show if _ then _ else _
        have c1 : cst (2 * t) ≤ 100 := by unfold cst; omega
        have c2 : cst (2 * b) ≤ 100 := by unfold cst; omega
        by_cases q : cst (2 * b) ≤ cst (2 * t)
        · rw [if_pos (nI_le q (by omega))]
          unfold x2_cheapestAt_37 x2_cheapestAt_64
          rw [if_pos rfl, e2]
          rw [es, ho] at ih'
          simp only [show ¬ (cst (2 * t) < cst (2 * b) ∧ fit F M N d (t / 2) (t % 2) h = true) from fun y => by omega, if_false] at ih'
          exact ih'
        · rw [if_neg (nI_ge (by omega) (by omega))]
          refine c32 (some b) (fun ff => ?_) (fun ff => ?_)
          · rw [es, ho]
            simp only [show (cst (2 * t) < cst (2 * b) ∧ fit F M N d (t / 2) (t % 2) h = true) from ⟨by omega, ff⟩, if_true]
            rfl
          · rw [es, ho, ff]; simp
/-- what was weighed -/
def Wgh (σ : St) (F : Fn) (M N : Nat) : Prop := σ 61 1 = nI (F 2) ∧ ∀ d h, d < F 2 → h < 2 → σ 62 (2 * d + h) = oI (chA (fun t => fit F M N d (t / 2) (t % 2) h) 12)
theorem s2_weigh {σ : St} {F : Fn} {k : St → Prop} (hC : StC 19 σ F) (hF : WF F) {M N : Nat} (hM : M < 2 ^ F 3) (hN : N < 2 ^ F 3) (hMN : M &&& N = 0) (hk : ∀ σ', Wgh σ' F M N → (∀ c, c ≠ 61 → c ≠ 62 → σ' c = σ c) → k σ') : x2_weigh 19 (nI M) (nI N) σ k := by
  have h62 := hF.2.2.2.1
  have h63 := hF.2.2.2.2.1
  have h64 : 2 ^ F 3 ≤ 64 := show 2 ^ F 3 ≤ 2 ^ 6 from Nat.pow_le_pow_right (by decide) h63
  unfold x2_weigh lt
  dsimp only
  have key : ∀ m d τ, d ≤ F 2 → F 2 < d + m → τ 61 1 = nI (F 2) → (∀ e h, e < d → h < 2 → τ 62 (2 * e + h) = oI (chA (fun t => fit F M N e (t / 2) (t % 2) h) 12)) → (∀ c, c ≠ 61 → c ≠ 62 → τ c = σ c) → x2_weigh_11 19 (nI M) (nI N) k m (nI d) τ := by
    intro m
    induction m with
    | zero => intro d τ h1 h2; omega
    | succ m ih =>
      intro d τ h1 h2 b1 b2 b3
      unfold x2_weigh_11
      rw [b1]
      by_cases z : F 2 ≤ d
      · have : d = F 2 := by omega
        subst this
        rw [if_pos (nI_le z (by omega))]
        exact hk τ ⟨b1, fun e h he hh => b2 e h he hh⟩ b3
      · rw [if_neg (nI_ge (by omega) (by omega))]
        have hCt : StC 19 τ F := hC.cells (fun i h1 h2 => b3 i (by omega) (by omega))
        refine s5_callersAt rfl hCt hF (by omega) ?_
        have c64 : cat F d < 64 := mskL_64 _ h63
        refine ⟨3, ?_⟩
        have in31 : ∀ m' h τ, h ≤ 2 → 2 < h + m' → τ 61 1 = nI (F 2) → (∀ e h', e < d ∨ (e = d ∧ h' < h) → h' < 2 → τ 62 (2 * e + h') = oI (chA (fun t => fit F M N e (t / 2) (t % 2) h') 12)) → (∀ c, c ≠ 61 → c ≠ 62 → τ c = σ c) → x2_weigh_31 19 (nI M) (nI N) (x2_weigh_11 19 (nI M) (nI N) k m) k m' (nI d) (nI (cat F d)) (nI h) τ := by
          intro m'
          induction m' with
          | zero => intro h τ h1 h2; omega
          | succ m' ih' =>
            intro h τ g1 g2 b1 b2 b3
            unfold x2_weigh_31
            by_cases z : 2 ≤ h
            · have : h = 2 := by omega
              subst this
              rw [if_pos (by decide), show nI d + 1 = nI (d + 1) from nI_1 d]
              refine ih (d + 1) τ (by omega) (by omega) b1 (fun e h' he hh => b2 e h' ?_ hh) b3
              by_cases y : e = d
              · exact Or.inr ⟨y, hh⟩
              · exact Or.inl (by omega)
            · rw [if_neg (by rw [show (2 : Int32) = nI 2 from rfl, nI_leI (by decide) (by omega)]; exact z), andI _ (by omega) _ c64, andI _ (by omega) _ c64]
              have hCt : StC 19 τ F := hC.cells (fun i h1 h2 => b3 i (by omega) (by omega))
              unfold x2_cheapestAt
              refine ⟨13, s2_cheap_6 hCt hF (by omega) (by omega) hM hN hMN ?_ 13 0 (by decide) (by decide)⟩
              have ei : (2 * nI d + nI h : Int32) = nI (2 * d + h) := by rw [show (2 : Int32) = nI 2 from rfl, pk_mul, nI_add]
              rw [ei, nI_clamp (by omega)]
              refine ⟨(vpI (by omega)).mpr (by show _ < 12; omega), ?_⟩
              unfold lt
              rw [show nI h + 1 = nI (h + 1) from nI_1 h]
              refine ih' (h + 1) _ (by omega) (by omega) (by rw [st_up_ne _ _ _ (by decide)]; exact b1) (fun e h' he hh => ?_) (fun c y1 y2 => by rw [st_up_ne _ _ _ y2]; exact b3 c y1 y2)
              by_cases y : e = d ∧ h' = h
              · obtain ⟨rfl, rfl⟩ := y
                rw [up_s]
              · rw [up_n _ _ (Or.inr (by omega))]
                exact b2 e h' (by omega) hh
        exact in31 3 0 τ (by decide) (by decide) b1 (fun e h' he hh => b2 e h' (by omega) hh) b3
  exact ⟨F 2 + 1, key (F 2 + 1) 0 _ (Nat.zero_le _) (by omega) (by rw [up_s]; exact hC.1) (fun e h he => absurd he (Nat.not_lt_zero _)) (fun c y1 y2 => st_up_ne _ _ _ y1)⟩
