/-! BITS -/
def bc (v : Nat) : Nat := smL (fun i => v / 2 ^ i % 2) 6
def bcI (i0 : Int32) : Int32 :=
  let v1 := i0 - (((i0.toUInt32 >>> ((1 : Int32).toUInt32 &&& Int32.toUInt32 31)).toInt32) &&& 1431655765)
  let v2 := (v1 &&& 858993459) + (((v1.toUInt32 >>> ((2 : Int32).toUInt32 &&& Int32.toUInt32 31)).toInt32) &&& 858993459)
  let v3 := (v2 + ((v2.toUInt32 >>> ((4 : Int32).toUInt32 &&& Int32.toUInt32 31)).toInt32)) &&& 252645135
  let v4 := v3 + ((v3.toUInt32 >>> ((8 : Int32).toUInt32 &&& Int32.toUInt32 31)).toInt32)
  let v5 := v4 + ((v4.toUInt32 >>> ((16 : Int32).toUInt32 &&& Int32.toUInt32 31)).toInt32)
  v5 &&& 63
theorem bcI_eq : ∀ v, v < 64 → bcI (nI v) = nI (bc v) := by decide +kernel
theorem s_bitCount {v : Nat} {σ : St} {k : Int32 → St → Prop} (hv : v < 64) (h : k (nI (bc v)) σ) : xJ6_bitCount_0f7a4 (nI v) σ k := by
  show k (bcI (nI v)) σ
  rw [bcI_eq v hv]; exact h
theorem bc_msk (P : Nat → Bool) {n : Nat} (hn : n ≤ 6) : bc (mskL P n) = smL (fun i => if P i then 1 else 0) n := by
  unfold bc
  rw [smL_zero 6 hn (fun i h1 h2 => by
    rw [Nat.div_eq_of_lt (Nat.lt_of_lt_of_le (mskL_lt P n) (Nat.pow_le_pow_right (by decide) h1))])]
  exact smL_congr n (fun i hi => mskL_get P hi)
/-! RATHER -/
def stP (f : Nat → Int32) (w : Nat) : Bool := !decide (f w < f (w ^^^ 2)) && !decide (f (4 + w) < f (4 + (w ^^^ 1)))
theorem x21 : ∀ w, w < 4 → w ^^^ 2 < 4 ∧ w ^^^ 1 < 4 ∧ nI w ^^^ 2 = nI (w ^^^ 2) ∧ nI w ^^^ 1 = nI (w ^^^ 1) ∧ (if (2 : Int32) ≤ nI w then nI w - 2 else nI w + 2) = nI (w ^^^ 2) ∧ (if nI w % 2 = 0 then nI w + 1 else nI w - 1) = nI (w ^^^ 1) := by decide +kernel
theorem s6_steady_4 {o i : Nat} {σ : St} {f : Nat → Int32} {k : Int32 → St → Prop} (hl : ln o = 40) (hi : i + 8 ≤ 40) (hf : ∀ t, t < 8 → σ o (i + t) = f t) (h : k (nI (mskL (stP f) 4)) σ) : ∀ m w, w ≤ 4 → 4 < w + m → x6_steadyWays_4 o (nI i) k m (nI (mskL (stP f) w)) (nI w) σ := by
  intro m
  induction m with
  | zero => intro w h1 h2; omega
  | succ m ih =>
    intro w h1 h2
    unfold x6_steadyWays_4 x6_steadyWays_29 x6_steadyWays_55 x6_steadyWays_73
    by_cases z : 4 ≤ w
    · have : w = 4 := by omega
      subst this
      rw [if_pos (by decide)]; exact h
    · rw [if_neg (by rw [show (4 : Int32) = nI 4 from rfl, nI_leI (by decide) (by omega)]; exact z)]
      obtain ⟨q1, q2, q3, q4, -, -⟩ := x21 w (by omega)
      have ih' := ih (w + 1) (by omega) (by omega)
      have es : mskL (stP f) (w + 1) = if stP f w then mskL (stP f) w ||| 2 ^ w else mskL (stP f) w := rfl
      have hlt := mskL_64 (stP f) (n := w) (by omega)
      have hp : 2 ^ w < 64 := Nat.pow_lt_pow_right (n := 6) (by decide) (by omega)
      rw [es] at ih'
      rw [q3, q4, show nI i + 4 = nI (i + 4) from nI_add i 4, nI_add, nI_add, nI_add, nI_add, nI_clamp (by omega), nI_clamp (by omega), nI_clamp (by omega), nI_clamp (by omega), hl, hf w (by omega), hf (w ^^^ 2) (by omega), show i + 4 + w = i + (4 + w) by omega, show i + 4 + (w ^^^ 1) = i + (4 + (w ^^^ 1)) by omega, hf (4 + w) (by omega), hf (4 + (w ^^^ 1)) (by omega), show nI w + 1 = nI (w + 1) from nI_1 w, show (1 : Int32) <<< (nI w &&& 31) = nI (2 ^ w) from shl1 w (by omega)]
      refine ⟨(vpI (by omega)).mpr (by omega), (vpI (by omega)).mpr (by omega), ?_⟩
      have v3 : vp_in (nI (i + (4 + w))) 40 := (vpI (by omega)).mpr (by omega)
      have v4 : vp_in (nI (i + (4 + (w ^^^ 1)))) 40 := (vpI (by omega)).mpr (by omega)
      unfold lt
      by_cases c1 : f w < f (w ^^^ 2)
      · have : stP f w = false := by unfold stP; simp [c1]
        rw [this, if_neg (by decide)] at ih'
        rw [if_pos c1]
        refine ⟨v3, v4, ?_⟩
        split
        · rw [if_pos (by decide)]; exact ih'
        · rw [if_pos (by decide)]; exact ih'
      · rw [if_neg c1]
        refine ⟨v3, v4, ?_⟩
        by_cases c2 : f (4 + w) < f (4 + (w ^^^ 1))
        · have : stP f w = false := by unfold stP; simp [c2]
          rw [this, if_neg (by decide)] at ih'
          rw [if_pos c2, if_neg (by decide), if_pos (by decide)]; exact ih'
        · have : stP f w = true := by unfold stP; simp [c1, c2]
          rw [this, if_pos rfl] at ih'
          rw [if_neg c2, if_neg (by decide), if_neg (by decide), orI _ hlt _ hp]; exact ih'
theorem s7_rather_111 {x1 x2 : Int32} {w0 S : Nat} {σ : St} {f : Nat → Int32} {k : Int32 → St → Prop} (hw : w0 < 2) (hS : S + 8 ≤ 320) (hf : ∀ t, t < 8 → σ 68 (S + t) = f t) (h : k (if w0 = 0 then nI (smL (fun i => if stP f i then 1 else 0) 4) else nI (mskL (stP f) 4)) (st_up σ 65 3 0)) : ∀ m w, w ≤ 4 → 4 < w + m → x7_rather_111 x1 x2 (nI w0) k m (nI S) (nI (mskL (stP f) w)) (nI (smL (fun i => if stP f i then 1 else 0) w)) (nI w) σ := by
  intro m
  induction m with
  | zero => intro w h1 h2; omega
  | succ m ih =>
    intro w h1 h2
    unfold x7_rather_111
    by_cases z : 4 ≤ w
    · have : w = 4 := by omega
      subst this
      rw [if_pos (by decide)]
      unfold x7_rather_264 x7_done lt
      rcases (show w0 = 0 ∨ w0 = 1 by omega) with rfl | rfl
      · rw [if_pos rfl] at h; rw [if_pos (by decide)]; exact h
      · rw [if_neg (by decide)] at h; rw [if_neg (by decide)]; exact h
    · rw [if_neg (by rw [show (4 : Int32) = nI 4 from rfl, nI_leI (by decide) (by omega)]; exact z)]
      obtain ⟨q1, q2, -, -, q5, q6⟩ := x21 w (by omega)
      have ih' := ih (w + 1) (by omega) (by omega)
      have es : mskL (stP f) (w + 1) = if stP f w then mskL (stP f) w ||| 2 ^ w else mskL (stP f) w := rfl
      have es2 : smL (fun i => if stP f i then 1 else 0) (w + 1) = smL (fun i => if stP f i then 1 else 0) w + if stP f w then 1 else 0 := rfl
      have hlt := mskL_64 (stP f) (n := w) (by omega)
      have hp : 2 ^ w < 64 := Nat.pow_lt_pow_right (n := 6) (by decide) (by omega)
      rw [es, es2] at ih'
      have k154 : x7_rather_154 x1 x2 (nI w0) (x7_rather_111 x1 x2 (nI w0) k m) (nI S) (nI (mskL (stP f) w)) (nI (smL (fun i => if stP f i then 1 else 0) w)) (nI w) (nI (w ^^^ 2)) (nI (w ^^^ 1)) σ k := by
        unfold x7_rather_154
        rw [show nI S + 4 = nI (S + 4) from nI_add S 4, nI_add, nI_add, nI_add, nI_add, nI_clamp (by omega), nI_clamp (by omega), nI_clamp (by omega), nI_clamp (by omega), hf w (by omega), hf (w ^^^ 2) (by omega), show S + 4 + w = S + (4 + w) by omega, show S + 4 + (w ^^^ 1) = S + (4 + (w ^^^ 1)) by omega, hf (4 + w) (by omega), hf (4 + (w ^^^ 1)) (by omega)]
        refine ⟨(vpI (by omega)).mpr (by show _ < 320; omega), (vpI (by omega)).mpr (by show _ < 320; omega), ?_⟩
        have v3 : vp_in (nI (S + (4 + w))) (ln 68) := (vpI (by omega)).mpr (by show _ < 320; omega)
        have v4 : vp_in (nI (S + (4 + (w ^^^ 1)))) (ln 68) := (vpI (by omega)).mpr (by show _ < 320; omega)
        unfold x7_rather_210 x7_rather_211 x7_rather_228 x7_rather_243 lt
        rw [show nI w + 1 = nI (w + 1) from nI_1 w, show (1 : Int32) <<< (nI w &&& 31) = nI (2 ^ w) from shl1 w (by omega)]
        have ff : stP f w = false → x7_rather_111 x1 x2 (nI w0) k m (nI S) (nI (mskL (stP f) w) ||| 0) (nI (smL (fun i => if stP f i then 1 else 0) w) + 0) (nI (w + 1)) σ := by
          intro e
          rw [e, if_neg (by decide), if_neg (by decide)] at ih'
          rw [show (0 : Int32) = nI 0 from rfl, orI _ hlt _ (by decide), Nat.or_zero, nI_add]
          exact ih'
        by_cases c1 : f w < f (w ^^^ 2)
        · rw [if_pos c1, if_pos rfl]
          exact ff (by unfold stP; simp [c1])
        · rw [if_neg c1]
          refine ⟨v3, v4, ?_⟩
          by_cases c2 : f (4 + w) < f (4 + (w ^^^ 1))
          · rw [if_pos c2, if_pos rfl]
            exact ff (by unfold stP; simp [c2])
          · have : stP f w = true := by unfold stP; simp [c1, c2]
            rw [this, if_pos rfl, if_pos rfl] at ih'
            rw [if_neg c2, if_neg (by decide)]
            show if _ then _ else _
            rw [if_neg (by decide), show (1 : Int32) = nI 1 from rfl, orI _ hlt _ hp, nI_add]
            exact ih'
      have k134 : x7_rather_134 x1 x2 (nI w0) (x7_rather_111 x1 x2 (nI w0) k m) (nI S) (nI (mskL (stP f) w)) (nI (smL (fun i => if stP f i then 1 else 0) w)) (nI w) (nI (w ^^^ 2)) σ k := by
        unfold x7_rather_134
        refine ⟨by decide, ?_⟩
        by_cases c : nI w % 2 = 0
        · rw [if_pos c] at q6 ⊢; rw [q6]; exact k154
        · rw [if_neg c] at q6 ⊢; rw [q6]; exact k154
      by_cases c : (2 : Int32) ≤ nI w
      · rw [if_pos c] at q5 ⊢; rw [q5]; exact k134
      · rw [if_neg c] at q5 ⊢; rw [q5]; exact k134
/-- are the items from t on within the bounds -/
def bdG (f : Nat → Int32) (n : Nat) : Prop := ∀ t, t < n → ¬ f t < -20 ∧ f t ≤ 20
theorem s6_rather_50 {x1 : Int32} {w0 o i : Nat} {σ : St} {f : Nat → Int32} {k : Int32 → St → Prop} (hl : ln (o + 1) = 40) (hw : w0 < 2) (hi : i + 8 ≤ 40) (hf : ∀ t, t < 8 → σ (o + 1) (i + t) = f t) (h1 : ¬ bdG f 8 → k (-1000001) σ) (h : bdG f 8 → k (if w0 = 0 then nI (smL (fun i => if stP f i then 1 else 0) 4) else nI (mskL (stP f) 4)) (st_up σ 0 9 0)) : ∀ m c, c ≤ 8 → 8 < c + m → bdG f c → x6_rather_50 x1 (nI i) (nI w0) k m o (nI (i + c)) σ := by
  intro m
  induction m with
  | zero => intro c h1 h2; omega
  | succ m ih =>
    intro c hc1 hc2 hb
    unfold x6_rather_50
    rw [show nI i + 8 = nI (i + 8) from nI_add i 8]
    by_cases z : 8 ≤ c
    · have : c = 8 := by omega
      subst this
      rw [if_pos (nI_le (by omega) (by omega))]
      unfold x6_steadyWays
      refine ⟨5, s6_steady_4 hl hi hf ?_ 5 0 (by decide) (by decide)⟩
      have hh := h hb
      show if _ then _ else _
      rcases (show w0 = 0 ∨ w0 = 1 by omega) with rfl | rfl
      · rw [if_pos rfl] at hh
        rw [if_pos (by decide)]
        refine s_bitCount (mskL_64 _ (by decide)) ?_
        unfold x6_rather_120 x6_foundNone lt
        rw [bc_msk _ (by decide)]; exact hh
      · rw [if_neg (by decide)] at hh
        rw [if_neg (by decide)]
        unfold x6_rather_120 x6_foundNone lt
        exact hh
    · rw [if_neg (nI_ge (by omega) (by omega)), nI_clamp (by omega), hf c (by omega), hl]
      have v : vp_in (nI (i + c)) 40 := (vpI (by omega)).mpr (by omega)
      refine ⟨v, ?_⟩
      unfold x6_rather_85
      by_cases c1 : f c < -20
      · rw [if_pos c1]; exact h1 (fun q => (q c (by omega)).1 c1)
      · rw [if_neg c1]
        refine ⟨v, ?_⟩
        by_cases c2 : f c ≤ 20
        · rw [if_pos c2, show nI (i + c) + 1 = nI (i + (c + 1)) from nI_1 (i + c)]
          refine ih (c + 1) (by omega) (by omega) (fun t ht => ?_)
          by_cases y : t = c
          · subst y; exact ⟨c1, c2⟩
          · exact hb t (by omega)
        · rw [if_neg c2]; exact h1 (fun q => c2 (q c (by omega)).2)
theorem s7_rather_66 {x1 x2 : Int32} {w0 S : Nat} {σ : St} {f : Nat → Int32} {k : Int32 → St → Prop} (hw : w0 < 2) (hS : S + 8 ≤ 320) (hf : ∀ t, t < 8 → σ 68 (S + t) = f t) (h1 : ¬ bdG f 8 → k (-1000001) σ) (h : bdG f 8 → k (if w0 = 0 then nI (smL (fun i => if stP f i then 1 else 0) 4) else nI (mskL (stP f) 4)) (st_up σ 65 3 0)) : ∀ m c, c ≤ 8 → 8 < c + m → bdG f c → x7_rather_66 x1 x2 (nI w0) k m (nI S) (nI c) σ := by
  intro m
  induction m with
  | zero => intro c h1 h2; omega
  | succ m ih =>
    intro c hc1 hc2 hb
    unfold x7_rather_66
    by_cases z : 8 ≤ c
    · have : c = 8 := by omega
      subst this
      rw [if_pos (by decide)]
      exact ⟨5, s7_rather_111 hw hS hf (h hb) 5 0 (by decide) (by decide)⟩
    · rw [if_neg (by rw [show (8 : Int32) = nI 8 from rfl, nI_leI (by decide) (by omega)]; exact z), nI_add, nI_clamp (by omega), hf c (by omega)]
      refine ⟨(vpI (by omega)).mpr (by show _ < 320; omega), ?_⟩
      by_cases q : f c < -20 ∨ 20 < f c
      · refine in_f q ?_
        show if _ then _ else _
        rw [if_pos (by decide)]
        exact h1 (fun g => by
          rcases q with q | q
          · exact (g c (by omega)).1 q
          · exact absurd (g c (by omega)).2 (Int32.not_le.mpr q))
      · have c1 : ¬ f c < -20 := fun y => q (Or.inl y)
        have c2 : ¬ 20 < f c := fun y => q (Or.inr y)
        refine in_t c1 c2 ?_
        show if _ then _ else _
        rw [if_neg (by decide), show nI c + 1 = nI (c + 1) from nI_1 c]
        refine ih (c + 1) (by omega) (by omega) (fun t ht => ?_)
        by_cases y : t = c
        · subst y; exact ⟨c1, Int32.not_lt.mp c2⟩
        · exact hb t (by omega)
theorem sp23 : Sp23 Rel := by
  intro a e b σ hR
  by_cases ha : has a 8
  · obtain ⟨r, hr, rfl⟩ := ha
    by_cases hb : has b 2
    · obtain ⟨w0, hw, rfl⟩ := hb
      have v8 : vp_in (nI r) (ln 66) := (vpI (by omega)).mpr (by show r < 8; exact hr)
      have e7 : ∀ τ : St, ∀ k : Int32 → St → Prop, (if 0 ≤ τ 66 r then x7_isPart e 8 (τ 67 r) τ (fun r5 σ6 => (if r5 = 0 then x7_finds 2 σ6 (fun r7 σ8 => k r7 σ8) else lt ((40 * nI r) + e) fun v9 => ∃ n66, x7_rather_66 (nI r) e (nI w0) k n66 v9 0 σ6)) else x7_finds 1 τ (fun r16 σ17 => k r16 σ17)) → x7_rather (nI r) e (nI w0) τ k := by
        intro τ k hk
        unfold x7_rather
        refine s7_isRow_t hr ?_
        show if _ then _ else _
        rw [if_neg (by decide)]
        refine in_lit_t (m := 1) (by omega) (by decide) ?_
        show if _ then _ else _
        rw [if_neg (by decide), nI_clamp (by omega)]
        refine ⟨v8, ?_⟩
        by_cases z : 0 ≤ τ 66 r
        · rw [if_pos z] at hk ⊢; exact ⟨v8, hk⟩
        · rw [if_neg z] at hk ⊢; exact hk
      unfold x6_rather
      refine s6_isRow_t hr ?_
      show if _ then _ else _
      rw [if_neg (by decide)]
      refine s6_isBit_t hw ?_
      show if _ then _ else _
      rw [if_neg (by decide), nI_clamp (by omega)]
      refine ⟨(vpI (by omega)).mpr hr, ?_⟩
      rcases hR.1 r hr with ⟨m1, m2⟩ | ⟨L, N, hL, hN, h3, h4, h5, h6, h7⟩
      · refine s6_findingAt_m m1 ?_
        show if _ then _ else _
        rw [if_neg (by decide)]
        unfold x6_found lt
        refine e7 _ _ ?_
        rw [st_up_ne _ _ _ (by decide), m2, if_neg neg1_lt]
        exact ⟨rfl, hR.stt 1⟩
      · by_cases hp : pt e 8 (nI N)
        · obtain ⟨i, m, rfl, em, hin⟩ := pt_nat hN hp
          have em : nI 8 = nI m := em
          rw [nI_eq (by omega) (by omega)] at em
          subst em
          refine s6_findingAt_t hL h3 (by rw [h5]; exact hp) ?_
          show if _ then _ else _
          rw [if_pos rfl]
          have f3 : ∀ t, t < 8 → σ (2 + 2 * r + 1) (i + t) = σ 68 (40 * r + i + t) := fun t ht => by
            rw [show 2 + 2 * r + 1 = 3 + 2 * r by omega, h7 (i + t) (by omega), show 40 * r + (i + t) = 40 * r + i + t by omega]
          have e40 : (40 * nI r + nI i : Int32) = nI (40 * r + i) := by rw [show (40 : Int32) = nI 40 from rfl, pk_mul, nI_add]
          have m7 : ∀ τ : St, (∀ c, c ≠ 0 → τ c = σ c) → ∀ k : Int32 → St → Prop, (∃ n66, x7_rather_66 (nI r) (nI i) (nI w0) k n66 (nI (40 * r + i)) (nI 0) τ) → x7_rather (nI r) (nI i) (nI w0) τ k := by
            intro τ hτ k hk
            refine e7 _ _ ?_
            rw [hτ 66 (by decide), hτ 67 (by decide), h4, if_pos (lane_ge hL), h6]
            refine s7_isPart_t hp ?_
            show if _ then _ else _
            rw [if_neg (by decide), e40]
            exact hk
          have f7 : ∀ τ : St, (∀ c, c ≠ 0 → τ c = σ c) → ∀ t, t < 8 → τ 68 (40 * r + i + t) = σ (2 + 2 * r + 1) (i + t) := fun τ hτ t ht => by rw [hτ 68 (by decide)]; exact (f3 t ht).symm
          refine ⟨9, s6_rather_50 (f := fun t => σ (2 + 2 * r + 1) (i + t)) (n4_1 (krow hr)) hw (by omega) (fun _ _ => rfl) (fun nb => ?_) (fun yb => ?_) 9 0 (by decide) (by decide) (fun t ht => absurd ht (Nat.not_lt_zero _))⟩
          · refine m7 _ (fun _ _ => rfl) _ ⟨9, ?_⟩
            exact s7_rather_66 (f := fun t => σ (2 + 2 * r + 1) (i + t)) hw (by omega) (f7 σ (fun _ _ => rfl)) (fun _ => ⟨rfl, hR⟩) (fun y => absurd y nb) 9 0 (by decide) (by decide) (fun t ht => absurd ht (Nat.not_lt_zero _))
          · refine m7 _ (fun c hc => st_up_ne _ _ _ hc) _ ⟨9, ?_⟩
            exact s7_rather_66 (f := fun t => σ (2 + 2 * r + 1) (i + t)) hw (by omega) (f7 _ (fun c hc => st_up_ne _ _ _ hc)) (fun n => absurd yb n) (fun y => ⟨rfl, hR.stt 0⟩) 9 0 (by decide) (by decide) (fun t ht => absurd ht (Nat.not_lt_zero _))
        · refine s6_findingAt_p hL h3 (by rw [h5]; exact hp) ?_
          show if _ then _ else _
          rw [if_neg (by decide)]
          unfold x6_found lt
          refine e7 _ _ ?_
          rw [st_up_ne _ _ _ (by decide), st_up_ne _ _ _ (by decide), h4, if_pos (lane_ge hL), h6]
          refine s7_isPart_f hp ?_
          show if _ then _ else _
          rw [if_pos (by decide)]
          exact ⟨rfl, hR.stt 2⟩
    · unfold x6_rather x6_rather_14 x7_rather x7_rather_16
      refine s6_isRow_t hr ?_
      show if _ then _ else _
      rw [if_neg (by decide)]
      refine s6_isBit_f hb ?_
      show if _ then _ else _
      rw [if_pos (by decide)]
      refine s7_isRow_t hr ?_
      show if _ then _ else _
      rw [if_neg (by decide)]
      refine in_lit_f (m := 1) (by decide) hb ?_
      show if _ then _ else _
      rw [if_pos (by decide)]
      exact ⟨rfl, hR⟩
  · unfold x6_rather x6_rather_14 x7_rather x7_rather_16
    refine s6_isRow_f ha ?_
    show if _ then _ else _
    rw [if_pos (by decide)]
    refine s7_isRow_f ha ?_
    show if _ then _ else _
    rw [if_pos (by decide)]
    exact ⟨rfl, hR⟩
