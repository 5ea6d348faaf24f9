/-! WHICHDOOR -/
def anyL (P : Nat → Bool) : Nat → Bool
  | 0 => false
  | n + 1 => anyL P n || P n
theorem anyL_f {P : Nat → Bool} : ∀ n, anyL P n = false ↔ ∀ i, i < n → P i = false := by
  intro n
  induction n with
  | zero => exact ⟨fun _ i hi => absurd hi (Nat.not_lt_zero _), fun _ => rfl⟩
  | succ n ih =>
    unfold anyL
    rw [Bool.or_eq_false_iff, ih]
    constructor
    · rintro ⟨h1, h2⟩ i hi
      by_cases z : i = n
      · subst z; exact h2
      · exact h1 i (by omega)
    · intro h; exact ⟨fun i hi => h i (by omega), h n (by omega)⟩
def ftB (F : Fn) (M N d b : Nat) : Bool := fit F M N d (b / 4) (b / 2 % 2) (b % 2)
def canD (F : Fn) (M N d : Nat) : Bool := anyL (ftB F M N d) 24
theorem can_ch {F : Fn} {M N d : Nat} : canD F M N d = false ↔ chA (fun t => fit F M N d (t / 2) (t % 2) 0) 12 = none ∧ chA (fun t => fit F M N d (t / 2) (t % 2) 1) 12 = none := by
  unfold canD
  rw [anyL_f, chA_none, chA_none]
  constructor
  · intro h
    refine ⟨fun t ht => ?_, fun t ht => ?_⟩
    · have := h (2 * t) (by omega)
      unfold ftB at this
      rw [show 2 * t / 4 = t / 2 by omega, show 2 * t / 2 % 2 = t % 2 by omega, show 2 * t % 2 = 0 by omega] at this
      exact this
    · have := h (2 * t + 1) (by omega)
      unfold ftB at this
      rw [show (2 * t + 1) / 4 = t / 2 by omega, show (2 * t + 1) / 2 % 2 = t % 2 by omega, show (2 * t + 1) % 2 = 1 by omega] at this
      exact this
  · rintro ⟨h0, h1⟩ b hb
    unfold ftB
    rcases (show b % 2 = 0 ∨ b % 2 = 1 by omega) with e | e
    · have := h0 (b / 2) (by omega)
      rw [e, show b / 4 = b / 2 / 2 by omega]; exact this
    · have := h1 (b / 2) (by omega)
      rw [e, show b / 4 = b / 2 / 2 by omega]; exact this
def vWh (F : Fn) (M N : Nat) : Nat → Nat → Int32
  | 0, _ => -1000000
  | n + 1, d => if canD F M N d then vWh F M N n (d + 1) else nI d
theorem oI_no {t : Nat} (h : t < 1000) : ¬ oI (some t) = -1 := by
  show ¬ nI (2 * t) = -1
  intro q
  exact absurd (show nI (2 * t) < 0 by rw [q]; decide) (nI_pos (by omega))
theorem oI_iff {f : Nat → Bool} : oI (chA f 12) = -1 ↔ chA f 12 = none := by
  cases e : chA f 12 with
  | none => exact ⟨fun _ => rfl, fun _ => rfl⟩
  | some b =>
    have := chA_lt 12 b e
    exact ⟨fun q => absurd q (oI_no (by omega)), fun q => absurd q (by simp)⟩
theorem s2_first_2 {σ : St} {F : Fn} {M N : Nat} {k : Int32 → St → Prop} (h62 : F 2 ≤ 6) (hW : Wgh σ F M N) : ∀ n d, d ≤ F 2 → F 2 = d + n → k (vWh F M N n d) σ → x2_firstThatCanNot_2 k (n + 1) (nI d) σ := by
  intro n
  induction n with
  | zero =>
    intro d h1 h2 hk
    unfold x2_firstThatCanNot_2
    rw [hW.1, if_pos (nI_le (by omega) (by omega))]; exact hk
  | succ n ih =>
    intro d h1 h2 hk
    unfold x2_firstThatCanNot_2 x2_firstThatCanNot_38
    have e0 : (2 * nI d : Int32) = nI (2 * d + 0) := by rw [show (2 : Int32) = nI 2 from rfl, pk_mul]; rfl
    have e1 : (2 * nI d + 1 : Int32) = nI (2 * d + 1) := by rw [show (2 : Int32) = nI 2 from rfl, pk_mul]; exact nI_1 _
    rw [hW.1, if_neg (nI_ge (by omega) (by omega)), e1, e0, nI_clamp (by omega), nI_clamp (by omega), hW.2 d 0 (by omega) (by decide), hW.2 d 1 (by omega) (by decide), show nI d + 1 = nI (d + 1) from nI_1 d]
    refine ⟨(vpI (by omega)).mpr (by show _ < 12; omega), ?_⟩
    unfold vWh at hk
    have nxt : canD F M N d = true → x2_firstThatCanNot_2 k (n + 1) (nI (d + 1)) σ := fun q => by
      rw [q, if_pos rfl] at hk
      exact ih (d + 1) (by omega) (by omega) hk
    by_cases c0 : chA (fun t => fit F M N d (t / 2) (t % 2) 0) 12 = none
    · rw [if_pos (oI_iff.mpr c0)]
      refine ⟨(vpI (by omega)).mpr (by show _ < 12; omega), ?_⟩
      by_cases c1 : chA (fun t => fit F M N d (t / 2) (t % 2) 1) 12 = none
      · rw [if_pos (oI_iff.mpr c1)]
        rw [can_ch.mpr ⟨c0, c1⟩, if_neg (by decide)] at hk; exact hk
      · rw [if_neg (fun q => c1 (oI_iff.mp q))]
        exact nxt (by
          cases q : canD F M N d with
          | true => rfl
          | false => exact absurd (can_ch.mp q).2 c1)
    · rw [if_neg (fun q => c0 (oI_iff.mp q))]
      exact nxt (by
        cases q : canD F M N d with
        | true => rfl
        | false => exact absurd (can_ch.mp q).1 c0)
theorem s7_wd_40 {σ : St} {F : Fn} {M N d : Nat} {R24 : Int32 → St → Prop} {k : Int32 → St → Prop} (hM : StM 70 0 σ F) (hF : WF F) (hd : d < F 2) (m64 : M < 64) (n64 : N < 64) (hk : if canD F M N d then R24 (nI (d + 1)) σ else k (nI d) σ) : ∀ m b, b ≤ 24 → 24 < b + m → x7_whichDoor_40 (nI M) (nI N) R24 k m (nI d) (nI (if anyL (ftB F M N d) b then 1 else 0)) (nI b) σ := by
  intro m
  induction m with
  | zero => intro b h1 h2; omega
  | succ m ih =>
    intro b h1 h2
    unfold x7_whichDoor_40
    by_cases z : 24 ≤ b
    · have : b = 24 := by omega
      subst this
      rw [if_pos (by decide)]
      unfold canD at hk
      cases e : anyL (ftB F M N d) 24 with
      | true => rw [e, if_pos rfl] at hk; rw [if_neg (by decide), show nI d + 1 = nI (d + 1) from nI_1 d]; exact hk
      | false => rw [e, if_neg (by decide)] at hk; rw [if_pos (by decide)]; exact hk
    · rw [if_neg (by rw [show (24 : Int32) = nI 24 from rfl, nI_leI (by decide) (by omega)]; exact z)]
      have ih' := ih (b + 1) (by omega) (by omega)
      have es : anyL (ftB F M N d) (b + 1) = (anyL (ftB F M N d) b || ftB F M N d b) := rfl
      rw [es] at ih'
      cases e : anyL (ftB F M N d) b with
      | true =>
        rw [e, Bool.true_or, if_pos rfl] at ih'
        rw [if_neg (by decide)]
        unfold x7_whichDoor_85 x7_whichDoor_90
        rw [show nI b + 1 = nI (b + 1) from nI_1 b]; exact ih'
      | false =>
        rw [e, Bool.false_or] at ih'
        rw [if_pos (by decide)]
        refine ⟨by decide, by decide, by decide, by decide, ?_⟩
        have r2 : nI b % 2 = nI (b % 2) := remI (d := 2) (by omega) (by decide) (by decide)
        have r3 : nI b / 2 % 2 = nI (b / 2 % 2) := by rw [show (2 : Int32) = nI 2 from rfl, divI (by omega) (by decide) (by decide), remI (by omega) (by decide) (by decide)]
        have r4 : nI b / 4 = nI (b / 4) := divI (d := 4) (by omega) (by decide) (by decide)
        have step : x7_whichDoor_77 (nI M) (nI N) R24 (x7_whichDoor_40 (nI M) (nI N) R24 k m) (nI d) (nI b) (nI (b % 2)) (nI (b / 2 % 2)) (nI (b / 4)) (nI d) σ k := by
          unfold x7_whichDoor_77
          refine s7_fits hM hF hd (by omega) (by omega) (by omega) m64 n64 ?_
          show if _ then _ else _
          unfold x7_whichDoor_85 x7_whichDoor_90
          rw [show nI b + 1 = nI (b + 1) from nI_1 b]
          cases q : fit F M N d (b / 4) (b / 2 % 2) (b % 2) with
          | true => rw [show ftB F M N d b = true from q, if_pos rfl] at ih'; rw [if_neg (by decide)]; exact ih'
          | false => rw [show ftB F M N d b = false from q, if_neg (by decide)] at ih'; rw [if_pos (by decide)]; exact ih'
        rw [r2, r3, r4]
        rcases (show b % 2 = 0 ∨ b % 2 = 1 by omega) with y | y
        · rw [y] at step ⊢; rw [if_neg (by decide)]; exact step
        · rw [y] at step ⊢; rw [if_pos (by decide)]; exact step
theorem s7_wd_24 {σ : St} {F : Fn} {M N : Nat} {k : Int32 → St → Prop} (hM : StM 70 0 σ F) (hF : WF F) (m64 : M < 64) (n64 : N < 64) : ∀ n d, d ≤ F 2 → F 2 = d + n → k (vWh F M N n d) σ → x7_whichDoor_24 (nI M) (nI N) k (n + 1) (nI d) σ := by
  have h62 := hF.2.2.2.1
  intro n
  induction n with
  | zero =>
    intro d h1 h2 hk
    unfold x7_whichDoor_24
    rw [show (2 : Int32).toNatClampNeg = 2 from rfl, m70 hM (show 2 < 53 by decide), if_pos (nI_le (by omega) (by omega))]
    exact ⟨vq (j := 2) (by decide), hk⟩
  | succ n ih =>
    intro d h1 h2 hk
    unfold x7_whichDoor_24
    rw [show (2 : Int32).toNatClampNeg = 2 from rfl, m70 hM (show 2 < 53 by decide), if_neg (nI_ge (by omega) (by omega))]
    refine ⟨vq (j := 2) (by decide), 25, s7_wd_40 hM hF (by omega) m64 n64 ?_ 25 0 (by decide) (by decide)⟩
    unfold vWh at hk
    cases e : canD F M N d with
    | true => rw [e, if_pos rfl] at hk; rw [if_pos rfl]; exact ih (d + 1) (by omega) (by omega) hk
    | false => rw [e, if_neg (by decide)] at hk; rw [if_neg (by decide)]; exact hk
theorem onl_6162 {σ σ' : St} (h : ∀ c, c ≠ 61 → c ≠ 62 → σ' c = σ c) : onl 0 σ σ' := fun i j h1 _ => by
  by_cases a : i = 61
  · subst a; exact absurd rfl h1
  · by_cases b : i = 62
    · subst b; exact absurd rfl h1
    · rw [h i a b]
theorem sp19 : Sp19 Rel := by
  intro x y σ hR
  obtain ⟨F, ⟨hF, h4, hC, hM⟩, hI, n', nx, S, hA⟩ := hR.2.2.2.2.2
  have h62 := hF.2.2.2.1
  have h63 := hF.2.2.2.2.1
  have h64 : 2 ^ F 3 ≤ 64 := show 2 ^ F 3 ≤ 2 ^ 6 from Nat.pow_le_pow_right (by decide) h63
  unfold x6_whichDoor
  by_cases h0 : 0 < F 2
  · refine s5_isTold_t hC.1 ⟨h0, h62⟩ ?_
    show if _ then _ else _
    rw [if_neg (by decide)]
    by_cases hs : setsOk x y (F 3)
    · refine s6_apart_t hC hF hs ?_
      show if _ then _ else _
      rw [if_neg (by decide)]
      have hs' := hs
      obtain ⟨⟨M, hM', rfl⟩, ⟨N, hN', rfl⟩, h3⟩ := hs
      have hMN : M &&& N = 0 := by
        rw [andI _ (by omega) _ (by omega)] at h3
        have h3 : nI (M &&& N) = nI 0 := h3
        rwa [nI_eq (by have := @Nat.and_le_left M N; omega) (by decide)] at h3
      refine s2_weigh hC hF hM' hN' hMN (fun σ1 w1 f1 => ?_)
      unfold x2_firstThatCanNot
      refine ⟨F 2 + 1, s2_first_2 h62 w1 (F 2) 0 (Nat.zero_le _) (by omega) ?_⟩
      have hM1 : StM 70 0 σ1 F := hM.cell (f1 70 (by decide) (by decide))
      unfold x7_whichDoor
      refine s7_isStreet_t hM1 hF h0 ?_
      show if _ then _ else _
      rw [if_neg (by decide)]
      refine s7_sets_t hM1 hF hs' ?_
      show if _ then _ else _
      rw [if_neg (by decide)]
      refine ⟨F 2 + 1, s7_wd_24 hM1 hF (by omega) (by omega) (F 2) 0 (Nat.zero_le _) (by omega) ?_⟩
      exact ⟨rfl, hR.scr (onl_6162 f1)⟩
    · refine s6_apart_f hC hF hs ?_
      show if _ then _ else _
      rw [if_pos (by decide)]
      unfold x7_whichDoor
      refine s7_isStreet_t hM hF h0 ?_
      show if _ then _ else _
      rw [if_neg (by decide)]
      refine s7_sets_f hM hF hs ?_
      show if _ then _ else _
      rw [if_pos (by decide)]
      exact ⟨rfl, hR⟩
  · have z : F 2 = 0 := by omega
    refine s5_isTold_f (by rw [hC.1, z]) ?_
    show if _ then _ else _
    rw [if_pos (by decide)]
    unfold x7_whichDoor
    refine s7_isStreet_f hM z ?_
    show if _ then _ else _
    rw [if_pos (by decide)]
    exact ⟨rfl, hR⟩
