/-! WHO -/
theorem WF.up_kind {F : Fn} (h : WF F) {c v : Nat} (hc : c < F 3) (hv : 1 ≤ v ∧ v ≤ 5) : WF (fup F (29 + c) v) := by
  obtain ⟨a0, a1, a2, a3, a4, a5, a6, a7, a8⟩ := h
  have n : ∀ j, j ≠ 29 + c → fup F (29 + c) v j = F j := fun j hj => fup_n _ _ hj
  have e0 := n 0 (by omega)
  have e1 := n 1 (by omega)
  have e2 := n 2 (by omega)
  have e3 := n 3 (by omega)
  have e4 := n 4 (by omega)
  refine ⟨fun j hj => ?_, by rw [e0]; exact a1, by rw [e1]; exact a2, by rw [e2]; exact a3, by rw [e3]; exact a4, fun x hx => ?_, fun x hx hx2 => ?_, fun x hx => ?_, fun x hx hx2 => ?_⟩
  · by_cases z : j = 29 + c
    · subst z; rw [fup_s]; omega
    · rw [n j z]; exact a0 j hj
  · rw [e2] at hx
    rw [n _ (by omega), n _ (by omega), n _ (by omega), n _ (by omega)]; exact a5 x hx
  · rw [e2] at hx2
    rw [n _ (by omega), n _ (by omega), n _ (by omega)]; exact a6 x hx hx2
  · rw [e3] at hx
    have b := a7 x hx
    rw [n (35 + x) (by omega), n (41 + x) (by omega), n (47 + x) (by omega), e2, e4]
    by_cases z : x = c
    · subst z; rw [fup_s]; exact ⟨hv, b.2⟩
    · rw [n _ (by omega)]; exact b
  · rw [e3] at hx2
    rw [n _ (by omega)]; exact a8 x hx hx2
theorem wI_kind {F : Fn} (h2 : F 2 ≤ 6) (h20 : 0 < F 2) {c v : Nat} (hc : c < 6) : wI (fup F (29 + c) v) c v = wI F c v := by
  have e : Pw (fup F (29 + c) v) c v = Pw F c v := by
    funext w
    unfold Pw
    rw [fup_n F (i := 41 + c) _ (by omega), fup_n F (i := 2) _ (by omega)]
    exact mtA_congr (fun j h1 h2 h3 => fup_n _ _ (by omega)) hc (by have := Nat.mod_lt (F (41 + c) + w) h20; omega) h2
  unfold wI
  rw [e, fup_n F (i := 2) _ (by omega)]
/-- the n items f tell that it meets from W on -/
def tlR (f : Nat → Int32) (W : Nat) : Nat → Bool
  | 0 => true
  | n + 1 => tlR f W n && decide (f n = nI (if W ≤ n then 1 else 0))
theorem tlR_f {f : Nat → Int32} {W : Nat} : ∀ n m, m ≤ n → tlR f W m = false → tlR f W n = false := by
  intro n
  induction n with
  | zero => intro m h1 h2; rwa [Nat.le_zero.mp h1] at h2
  | succ n ih =>
    intro m h1 h2
    by_cases z : m = n + 1
    · subst z; exact h2
    · unfold tlR
      rw [ih m (by omega) h2]; rfl
theorem s4_tells {o i n W : Nat} {σ : St} {k : Int32 → St → Prop} (ho : kd o = 4) (hi : i + n ≤ 40) (hW : W < 6 ∨ W = 100000) (h : k (nI (if tlR (fun q => σ (o + 1) (i + q)) W n then 1 else 0)) σ) : x4_tellsMeetingsFrom o (if W < 6 then nI W else -1000000) (nI i) (nI n) σ k := by
  have key : ∀ m c, c ≤ n → n < c + m → tlR (fun q => σ (o + 1) (i + q)) W c = true → x4_tellsMeetingsFrom_3 o (if W < 6 then nI W else -1000000) (nI i) (nI n) k m (nI c) σ := by
    intro m
    induction m with
    | zero => intro c h1 h2; omega
    | succ m ih =>
      intro c h1 h2 ht
      unfold x4_tellsMeetingsFrom_3 x4_tellsMeetingsFrom_25
      by_cases q : n ≤ c
      · rw [if_pos (nI_le q (by omega))]
        have : c = n := by omega
        subst this
        rw [ht, if_pos rfl] at h
        exact ⟨Or.inr rfl, h⟩
      · rw [if_neg (nI_ge (by omega) (by omega))]
        have cmp : x4_tellsMeetingsFrom_26 o (if W < 6 then nI W else -1000000) (nI i) (nI n) (x4_tellsMeetingsFrom_3 o (if W < 6 then nI W else -1000000) (nI i) (nI n) k m) (nI c) (nI (if W ≤ c then 1 else 0)) σ k := by
          unfold x4_tellsMeetingsFrom_26
          rw [nI_add, nI_clamp (by omega), n4_1 ho]
          refine ⟨(vpI (by omega)).mpr (by omega), ?_⟩
          have es : tlR (fun q => σ (o + 1) (i + q)) W (c + 1) = (tlR (fun q => σ (o + 1) (i + q)) W c && decide (σ (o + 1) (i + c) = nI (if W ≤ c then 1 else 0))) := rfl
          rw [ht, Bool.true_and] at es
          by_cases z : σ (o + 1) (i + c) = nI (if W ≤ c then 1 else 0)
          · rw [if_pos z, show nI c + 1 = nI (c + 1) from nI_1 c]
            exact ih (c + 1) (by omega) (by omega) (by rw [es]; simpa using z)
          · rw [if_neg z]
            have : tlR (fun q => σ (o + 1) (i + q)) W n = false := tlR_f n (c + 1) (by omega) (by rw [es]; simpa using z)
            rw [this, if_neg (by decide)] at h
            exact ⟨Or.inl rfl, h⟩
        rcases hW with w6 | w6
        · rw [if_pos w6] at cmp ⊢
          rw [if_neg (by rcases (show W = 0 ∨ W = 1 ∨ W = 2 ∨ W = 3 ∨ W = 4 ∨ W = 5 by omega) with rfl | rfl | rfl | rfl | rfl | rfl <;> decide)]
          by_cases z : W ≤ c
          · rw [if_neg (by rw [nI_ltI (by omega) (by omega)]; omega)]
            rw [if_pos z] at cmp; exact cmp
          · rw [if_pos (by rw [nI_ltI (by omega) (by omega)]; omega)]
            rw [if_neg z] at cmp; exact cmp
        · have hn6 : ¬ W < 6 := by omega
          have hwc : ¬ W ≤ c := by omega
          simp only [if_neg hn6, if_neg hwc] at cmp ⊢
          rw [if_pos trivial]
          exact cmp
  unfold x4_tellsMeetingsFrom
  exact ⟨n + 1, key (n + 1) 0 (Nat.zero_le _) (by omega) rfl⟩
/-- by which kinds the caller c would do as told -/
def whoP (F : Fn) (f : Nat → Int32) (c n : Nat) (q : Nat) : Bool := decide (q ≠ 0) && tlR f (wI F c q) n
theorem fmI_eq (F : Fn) (c q : Nat) : fmI F c q = if wI F c q < 6 then nI (wI F c q) else -1000000 := rfl
theorem wI_6 {F : Fn} (h : F 2 ≤ 6) (c q : Nat) : wI F c q < 6 ∨ wI F c q = 100000 := by
  rcases wI_cases F c q with z | z
  · exact Or.inl (by omega)
  · exact Or.inr z
theorem s6_who_70 {σ : St} {F : Fn} {k : Int32 → St → Prop} (hC : StC 19 σ F) (hF : WF F) {c r i n : Nat} (hc : c < F 3) (hr : r < 8) (hi : i + n ≤ 40) {x2 : Int32} (h : k (nI (mskL (whoP F (fun q => σ (2 + 2 * r + 1) (i + q)) c n) 6)) (st_up σ 0 9 0)) : ∀ m q, 1 ≤ q → q ≤ 6 → 6 < q + m → x6_who_70 (nI c) x2 (nI i) (nI n) k m (2 + 2 * r) (nI (mskL (whoP F (fun q => σ (2 + 2 * r + 1) (i + q)) c n) q)) (nI q) σ := by
  intro m
  induction m with
  | zero => intro q h0 h1 h2; omega
  | succ m ih =>
    intro q h0 h1 h2
    unfold x6_who_70 x6_who_106
    by_cases z : 5 < q
    · have : q = 6 := by omega
      subst this
      rw [if_pos (by decide)]
      unfold x6_foundNone lt
      exact h
    · rw [if_neg (by rw [show (5 : Int32) = nI 5 from rfl, nI_ltI (by decide) (by omega)]; exact z)]
      refine s5_firstMeeting rfl hC hF hc ⟨by omega, by omega⟩ ?_
      rw [fmI_eq]
      refine s4_tells (krow hr) hi (wI_6 hF.2.2.2.1 c q) ?_
      have ih' := ih (q + 1) (by omega) (by omega) (by omega)
      have es : mskL (whoP F (fun q => σ (2 + 2 * r + 1) (i + q)) c n) (q + 1) = if whoP F (fun q => σ (2 + 2 * r + 1) (i + q)) c n q then mskL (whoP F (fun q => σ (2 + 2 * r + 1) (i + q)) c n) q ||| 2 ^ q else mskL (whoP F (fun q => σ (2 + 2 * r + 1) (i + q)) c n) q := rfl
      have ew : whoP F (fun q => σ (2 + 2 * r + 1) (i + q)) c n q = tlR (fun q => σ (2 + 2 * r + 1) (i + q)) (wI F c q) n := by
        unfold whoP; rw [show decide (q ≠ 0) = true by simp; omega, Bool.true_and]
      have hlt := mskL_64 (whoP F (fun q => σ (2 + 2 * r + 1) (i + q)) c n) (n := q) (by omega)
      have hp : 2 ^ q < 64 := Nat.pow_lt_pow_right (n := 6) (by decide) (by omega)
      show if _ then _ else _
      rw [es, ew] at ih'
      cases ht : tlR (fun q => σ (2 + 2 * r + 1) (i + q)) (wI F c q) n with
      | true =>
        rw [ht, if_pos rfl] at ih'
        rw [if_neg (by decide)]
        unfold lt
        rw [show (1 : Int32) <<< (nI q &&& 31) = nI (2 ^ q) from shl1 q (by omega), orI _ hlt _ hp, show nI q + 1 = nI (q + 1) from nI_1 q]
        exact ih'
      | false =>
        rw [ht, if_neg (by decide)] at ih'
        rw [if_pos (by decide), show nI q + 1 = nI (q + 1) from nI_1 q]
        exact ih'
theorem s7_who_108 {σ : St} {F : Fn} {k : Int32 → St → Prop} {R71 : Int32 → Int32 → St → Prop} (hF : WF F) (h4 : F 4 ≤ 999) {c r i n q : Nat} {f : Nat → Int32} {s : Int32} (hc : c < F 3) (hr : r < 8) (hi : i + n ≤ 40) (hn : n ≤ 12) (hq : 1 ≤ q ∧ q ≤ 5) (hf : ∀ t, t < n → σ 68 (40 * r + i + t) = f t) (h : ∀ σ', (∀ j, j ≠ 72 → σ' j = σ j) → R71 (if tlR f (wI F c q) n then s ||| nI (2 ^ q) else s ||| nI 0) (nI (q + 1)) σ') : ∀ m t τ, t ≤ n → n < t + m → StM 72 0 τ (pasN (fup F (29 + c) q) t) → (∀ j, j ≠ 72 → τ j = σ j) → x7_who_108 (nI c) (nI r) (nI i) (nI n) R71 k m s (nI q) (nI (if tlR f (wI F c q) t then 1 else 0)) (nI t) τ := by
  have h62 := hF.2.2.2.1
  have h63 := hF.2.2.2.2.1
  have hw := hF.2.2.2.2.2.2.2.1 c hc
  have hG : WF (fup F (29 + c) q) := hF.up_kind hc hq
  have hG4 : fup F (29 + c) q 4 = F 4 := fup_n _ _ (by omega)
  have hG3 : fup F (29 + c) q 3 = F 3 := fup_n _ _ (by omega)
  intro m
  induction m with
  | zero => intro t τ h1 h2; omega
  | succ m ih =>
    intro t τ h1 h2 b1 b2
    unfold x7_who_108 x7_who_156 x7_who_157 x7_who_180
    by_cases z : n ≤ t
    · have : t = n := by omega
      subst this
      rw [if_pos (nI_le z (by omega)), show nI q + 1 = nI (q + 1) from nI_1 q, show (1 : Int32) <<< (nI q &&& 31) = nI (2 ^ q) from shl1 q (by omega)]
      have hh := h τ b2
      unfold lt
      cases ht : tlR f (wI F c q) t with
      | true => rw [ht, if_pos rfl] at hh; rw [if_neg (by decide)]; exact hh
      | false => rw [ht, if_neg (by decide)] at hh; rw [if_pos (by decide)]; exact hh
    · rw [if_neg (nI_ge (by omega) (by omega))]
      have hWF := pasN_WF hG t (by rw [hG4]; omega)
      have p3 : pasN (fup F (29 + c) q) t 3 = F 3 := by rw [pasN_lo _ (by decide) (by decide) t, hG3]
      refine s7_pass rfl b1 hWF (fun τ1 d1 d2 => ?_)
      have b3 : ∀ j, j ≠ 72 → τ1 j = σ j := fun j hj => by rw [d2 j hj, b2 j hj]
      have hg : mts (pasN (fup F (29 + c) q) t) / 2 ^ c % 2 = if mt (pasN (fup F (29 + c) q) t) c then 1 else 0 := mskL_get (mt (pasN (fup F (29 + c) q) t)) (by omega)
      have hmt : mt (pasN (fup F (29 + c) q) t) c = decide (wI F c q ≤ t) := by
        have := (run_at hG (c := c) (by rw [hG3]; exact hc) t (by omega)).2.2
        rw [fup_s, wI_kind h62 (by omega) (by omega)] at this
        exact this
      unfold lt
      rw [show (nI (mts (pasN (fup F (29 + c) q) t)) >>> (nI c &&& 31)) &&& 1 = nI (mts (pasN (fup F (29 + c) q) t) / 2 ^ c % 2) from bitI _ (mskL_64 _ hWF.2.2.2.2.1) c (by omega), hg, hmt]
      have em : (if decide (wI F c q ≤ t) = true then 1 else 0) = (if wI F c q ≤ t then 1 else 0) := by by_cases w : wI F c q ≤ t <;> simp [w]
      rw [em, show nI t + 1 = nI (t + 1) from nI_1 t]
      have es : tlR f (wI F c q) (t + 1) = (tlR f (wI F c q) t && decide (f t = nI (if wI F c q ≤ t then 1 else 0))) := rfl
      have ih' := ih (t + 1) τ1 (by omega) (by omega) d1 b3
      have ei : (40 * nI r + nI i + nI t : Int32) = nI (40 * r + i + t) := by rw [show (40 : Int32) = nI 40 from rfl, pk_mul, nI_add, nI_add]
      show if _ then _ else _
      cases ht : tlR f (wI F c q) t with
      | false =>
        rw [ht, Bool.false_and] at es
        rw [es, if_neg (by decide)] at ih'
        rw [if_pos (show nI (if false = true then 1 else 0) = 0 by decide)]
        exact ih'
      | true =>
        rw [ht, Bool.true_and] at es
        rw [if_neg (show ¬ nI (if true = true then 1 else 0) = 0 by decide), ei, nI_clamp (by omega), b3 68 (by decide), hf t (by omega)]
        refine ⟨(vpI (by omega)).mpr (by show 40 * r + i + t < 320; omega), ?_⟩
        by_cases w : f t = nI (if wI F c q ≤ t then 1 else 0)
        · rw [if_pos w]
          rw [es, if_pos (by simpa using w)] at ih'
          exact ih'
        · rw [if_neg w]
          rw [es, if_neg (by simpa using w)] at ih'
          exact ih'
theorem s7_who_71 {σ : St} {F : Fn} {k : Int32 → St → Prop} (hM : StM 70 0 σ F) (hF : WF F) (h4 : F 4 ≤ 999) {c r i n : Nat} {f : Nat → Int32} (hc : c < F 3) (hr : r < 8) (hi : i + n ≤ 40) (hn : 1 ≤ n ∧ n ≤ 12) (hf : ∀ t, t < n → σ 68 (40 * r + i + t) = f t) (h : ∀ σ', (∀ j, j ≠ 72 → σ' j = σ j) → k (nI (mskL (whoP F f c n) 6)) (st_up σ' 65 3 0)) : ∀ m q τ, 1 ≤ q → q ≤ 6 → 6 < q + m → (∀ j, j ≠ 72 → τ j = σ j) → x7_who_71 (nI c) (nI r) (nI i) (nI n) k m (nI (mskL (whoP F f c n) q)) (nI q) τ := by
  have h63 := hF.2.2.2.2.1
  intro m
  induction m with
  | zero => intro q τ h0 h1 h2; omega
  | succ m ih =>
    intro q τ h0 h1 h2 b2
    unfold x7_who_71
    by_cases z : 6 ≤ q
    · have : q = 6 := by omega
      subst this
      rw [if_pos (by decide)]
      unfold x7_done lt
      exact h τ b2
    · rw [if_neg (by rw [show (6 : Int32) = nI 6 from rfl, nI_leI (by decide) (by omega)]; exact z), show (0 : Int32) = nI 0 from rfl]
      have hMt : StM 70 0 τ F := hM.cell (b2 70 (by decide))
      refine s7_lay (by decide) (by decide) (by decide) (by decide) (by decide) (fun σ1 c1 c2 c3 => ?_)
      have hM1 : StM 72 0 σ1 F := fun j hj => by rw [c1 j hj]; exact hMt j hj
      unfold lt
      rw [show (29 : Int32) + nI c = nI (29 + c) from nI_add 29 c, nI_clamp (by omega)]
      refine ⟨(vpI (by omega)).mpr (by show 29 + c < 53; omega), n + 1, ?_⟩
      have hM2 : StM 72 0 (st_up σ1 72 (29 + c) (nI q)) (fup F (29 + c) q) := by have := hM1.up (j := 29 + c) q; rwa [Nat.zero_add] at this
      have b3 : ∀ j, j ≠ 72 → st_up σ1 72 (29 + c) (nI q) j = σ j := fun j hj => by rw [st_up_ne _ _ _ hj, c3 j hj, b2 j hj]
      refine s7_who_108 (σ := σ) (f := f) hF h4 hc hr hi hn.2 ⟨h0, by omega⟩ hf (fun σ' e' => ?_) (n + 1) 0 _ (Nat.zero_le _) (by omega) hM2 b3
      have ih' := ih (q + 1) σ' (by omega) (by omega) (by omega) e'
      have es : mskL (whoP F f c n) (q + 1) = if whoP F f c n q then mskL (whoP F f c n) q ||| 2 ^ q else mskL (whoP F f c n) q := rfl
      have ew : whoP F f c n q = tlR f (wI F c q) n := by
        unfold whoP; rw [show decide (q ≠ 0) = true by simp; omega, Bool.true_and]
      have hlt := mskL_64 (whoP F f c n) (n := q) (by omega)
      have hp : 2 ^ q < 64 := Nat.pow_lt_pow_right (n := 6) (by decide) (by omega)
      rw [es, ew] at ih'
      cases ht : tlR f (wI F c q) n with
      | true => rw [ht, if_pos rfl] at ih'; rw [if_pos rfl, orI _ hlt _ hp]; exact ih'
      | false => rw [ht, if_neg (by decide)] at ih'; rw [if_neg (by decide), orI _ hlt _ (by decide), Nat.or_zero]; exact ih'
theorem tlR_congr {f g : Nat → Int32} {W : Nat} : ∀ n, (∀ t, t < n → f t = g t) → tlR f W n = tlR g W n := by
  intro n
  induction n with
  | zero => intro _; rfl
  | succ n ih => intro e; unfold tlR; rw [ih (fun t ht => e t (by omega)), e n (by omega)]
theorem mskL_congr {P Q : Nat → Bool} : ∀ n, (∀ i, i < n → P i = Q i) → mskL P n = mskL Q n := by
  intro n
  induction n with
  | zero => intro _; rfl
  | succ n ih => intro e; unfold mskL; rw [ih (fun t ht => e t (by omega)), e n (by omega)]
theorem in12 {a : Int32} {m : Nat} (hm : m < 2 ^ 30) (h : ¬ (has a (m + 1) ∧ a ≠ 0)) : a < 1 ∨ nI m < a := by
  by_cases z : has a (m + 1)
  · left
    obtain ⟨j, hj, rfl⟩ := z
    have : j = 0 := by
      rcases Nat.eq_zero_or_pos j with q | q
      · exact q
      · exact absurd ⟨⟨j, hj, rfl⟩, fun e => by
          have e : nI j = nI 0 := e
          rw [nI_eq (by omega) (by decide)] at e
          omega⟩ h
    subst this; decide
  · rcases has_no (by omega) z with q | q
    · exact Or.inl (Int32.lt_of_lt_of_le q (by decide))
    · exact Or.inr (Int32.lt_of_lt_of_le (show nI m < nI (m + 1) from nI_lt (by omega) (by omega)) q)
theorem sp20 : Sp20 Rel := by
  intro a b e g σ hR
  obtain ⟨F, ⟨hF, h4, hC, hM⟩, hI, n', nx, S, hA⟩ := hR.2.2.2.2.2
  have h63 := hF.2.2.2.2.1
  by_cases ha : has a (F 3)
  · obtain ⟨c, hc, rfl⟩ := ha
    by_cases hb : has b 8
    · obtain ⟨r, hr, rfl⟩ := hb
      have v8 : vp_in (nI r) (ln 66) := (vpI (by omega)).mpr (by show r < 8; exact hr)
      by_cases hg : has g 13 ∧ g ≠ 0
      · obtain ⟨⟨n, hn, rfl⟩, hn0⟩ := hg
        have hn1 : 1 ≤ n := by
          rcases Nat.eq_zero_or_pos n with z | z
          · subst z; exact absurd rfl hn0
          · exact z
        have e7 : ∀ τ : St, (∀ i, i ≠ 0 → τ i = σ i) → ∀ k : Int32 → St → Prop, (if 0 ≤ σ 66 r then x7_isPart e (nI n) (σ 67 r) τ (fun r7 σ8 => (if r7 = 0 then x7_finds 2 σ8 (fun r9 σ10 => k r9 σ10) else ∃ n71, x7_who_71 (nI c) (nI r) e (nI n) k n71 0 1 σ8)) else x7_finds 1 τ (fun r20 σ21 => k r20 σ21)) → x7_who (nI c) (nI r) e (nI n) τ k := by
          intro τ hτ k hk
          have hMt : StM 70 0 τ F := hM.cell (hτ 70 (by decide))
          unfold x7_who
          refine s7_isOne_t hMt hF hc ?_
          show if _ then _ else _
          rw [if_neg (by decide)]
          refine s7_isRow_t hr ?_
          show if _ then _ else _
          rw [if_neg (by decide)]
          refine in_t (by rw [show (1 : Int32) = nI 1 from rfl, nI_ltI (by omega) (by decide)]; omega) (by rw [show (12 : Int32) = nI 12 from rfl, nI_ltI (by decide) (by omega)]; omega) ?_
          show if _ then _ else _
          rw [if_neg (by decide), nI_clamp (by omega), hτ 66 (by decide), hτ 67 (by decide)]
          refine ⟨v8, ?_⟩
          by_cases z : 0 ≤ σ 66 r
          · rw [if_pos z] at hk ⊢; exact ⟨v8, hk⟩
          · rw [if_neg z] at hk ⊢; exact hk
        unfold x6_who
        refine s5_hasCaller_t hC.2.1 h63 hc ?_
        show if _ then _ else _
        rw [if_neg (by decide)]
        refine s6_isRow_t hr ?_
        show if _ then _ else _
        rw [if_neg (by decide), if_neg (by rw [show (1 : Int32) = nI 1 from rfl, nI_ltI (by omega) (by decide)]; omega), if_pos (by rw [show (12 : Int32) = nI 12 from rfl, nI_leI (by omega) (by decide)]; omega), nI_clamp (by omega)]
        refine ⟨(vpI (by omega)).mpr hr, ?_⟩
        rcases hR.1 r hr with ⟨m1, m2⟩ | ⟨L, N, hL, hN, h3, h4', h5, h6, h7⟩
        · refine s6_findingAt_m m1 ?_
          show if _ then _ else _
          rw [if_neg (by decide)]
          unfold x6_found lt
          refine e7 _ (fun i hi => st_up_ne _ _ _ hi) _ ?_
          rw [m2, if_neg neg1_lt]
          exact ⟨rfl, hR.stt 1⟩
        · by_cases hp : pt e (nI n) (nI N)
          · obtain ⟨i, m, rfl, em, hin⟩ := pt_nat hN hp
            rw [nI_eq (by omega) (by omega)] at em
            subst em
            refine s6_findingAt_t hL h3 (by rw [h5]; exact hp) ?_
            show if _ then _ else _
            rw [if_pos rfl]
            have f3 : ∀ t, t < n → σ (2 + 2 * r + 1) (i + t) = σ 68 (40 * r + i + t) := fun t ht => by
              rw [show 2 + 2 * r + 1 = 3 + 2 * r by omega, h7 (i + t) (by omega), show 40 * r + (i + t) = 40 * r + i + t by omega]
            refine ⟨6, s6_who_70 hC hF hc hr (by omega) ?_ 6 1 (by decide) (by decide) (by decide)⟩
            refine e7 _ (fun i hi => st_up_ne _ _ _ hi) _ ?_
            rw [h4', if_pos (lane_ge hL), h6]
            refine s7_isPart_t hp ?_
            show if _ then _ else _
            rw [if_neg (by decide)]
            have hM1 : StM 70 0 (st_up σ 0 9 0) F := hM.cell (st_up_ne _ _ _ (by decide))
            refine ⟨6, s7_who_71 (f := fun q => σ (2 + 2 * r + 1) (i + q)) hM1 hF h4 hc hr (by omega) ⟨hn1, by omega⟩ (fun t ht => ?_) (fun σ' e' => ?_) 6 1 _ (by decide) (by decide) (by decide) (fun _ _ => rfl)⟩
            · rw [st_up_ne _ _ _ (by decide)]; exact (f3 t ht).symm
            · refine ⟨rfl, hR.m2 (fun a j q1 q2 => ?_) ?_⟩
              · have n72 : a ≠ 72 := fun z => q1 (by subst z; rfl)
                rw [up_n _ _ (by by_cases z : a = 65; right; rintro rfl; subst z; exact q2 rfl; exact Or.inl z), e' a n72]
                rw [up_n _ _ (by by_cases z : a = 0; right; rintro rfl; subst z; exact q2 rfl; exact Or.inl z)]
              · unfold R2
                rw [up_s, st_up_ne _ _ _ (by decide), e' 0 (by decide), up_s]
          · refine s6_findingAt_p hL h3 (by rw [h5]; exact hp) ?_
            show if _ then _ else _
            rw [if_neg (by decide)]
            unfold x6_found lt
            refine e7 _ (fun i hi => st_up_ne _ _ _ hi) _ ?_
            rw [h4', if_pos (lane_ge hL), h6]
            refine s7_isPart_f hp ?_
            show if _ then _ else _
            rw [if_pos (by decide)]
            exact ⟨rfl, hR.stt 2⟩
      · have hbad := in12 (m := 12) (by decide) hg
        have e6 : ∀ k : Int32 → St → Prop, k (-1000001) σ → x6_who (nI c) (nI r) e g σ k := by
          intro k h
          unfold x6_who x6_who_31
          refine s5_hasCaller_t hC.2.1 h63 hc ?_
          show if _ then _ else _
          rw [if_neg (by decide)]
          refine s6_isRow_t hr ?_
          show if _ then _ else _
          rw [if_neg (by decide)]
          by_cases z : g < 1
          · rw [if_pos z]; exact h
          · rw [if_neg z, if_neg (show ¬ g ≤ 12 from Int32.not_le.mpr (hbad.resolve_left z))]; exact h
        refine e6 _ ?_
        unfold x7_who x7_who_26
        refine s7_isOne_t hM hF hc ?_
        show if _ then _ else _
        rw [if_neg (by decide)]
        refine s7_isRow_t hr ?_
        show if _ then _ else _
        rw [if_neg (by decide)]
        refine in_f hbad ?_
        show if _ then _ else _
        rw [if_pos (by decide)]
        exact ⟨rfl, hR⟩
    · unfold x6_who x6_who_31 x7_who x7_who_26
      refine s5_hasCaller_t hC.2.1 h63 hc ?_
      show if _ then _ else _
      rw [if_neg (by decide)]
      refine s6_isRow_f hb ?_
      show if _ then _ else _
      rw [if_pos (by decide)]
      refine s7_isOne_t hM hF hc ?_
      show if _ then _ else _
      rw [if_neg (by decide)]
      refine s7_isRow_f hb ?_
      show if _ then _ else _
      rw [if_pos (by decide)]
      exact ⟨rfl, hR⟩
  · unfold x6_who x6_who_31 x7_who x7_who_26
    refine s5_hasCaller_f hC.2.1 h63 ha ?_
    show if _ then _ else _
    rw [if_pos (by decide)]
    refine s7_isOne_f hM hF ha ?_
    show if _ then _ else _
    rw [if_pos (by decide)]
    exact ⟨rfl, hR⟩
