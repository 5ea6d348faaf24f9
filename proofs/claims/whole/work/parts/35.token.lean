/-! STREET: what is told, by the model -/
def fM (σ0 σ : St) : Prop := (∀ i, i ≠ 65 → i ≠ 71 → σ i = σ0 i) ∧ (∀ j, j = 3 ∨ j = 10 ∨ j = 18 ∨ j = 20 → σ 65 j = σ0 65 j)
theorem fM.up {σ0 σ : St} (h : fM σ0 σ) {j : Nat} {v : Int32} (hj : j ≠ 3 ∧ j ≠ 10 ∧ j ≠ 18 ∧ j ≠ 20) : fM σ0 (st_up σ 65 j v) := ⟨fun i h1 h2 => by rw [st_up_ne _ _ _ h1]; exact h.1 i h1 h2, fun q hq => by rw [up_n _ _ (Or.inr (by omega))]; exact h.2 q hq⟩
theorem fM.k71 {σ0 σ σ' : St} (h : fM σ0 σ) (e : ∀ i, i ≠ 71 → σ' i = σ i) : fM σ0 σ' := ⟨fun i h1 h2 => by rw [e i h2]; exact h.1 i h1 h2, fun q hq => by rw [e 65 (by decide)]; exact h.2 q hq⟩
def MI (σ0 : St) (L p : Nat) (σ : St) : Prop := σ 65 4 = nI L ∧ σ 65 6 = nI p ∧ fM σ0 σ
def MF (σ0 : St) (p e : Nat) (σ : St) : Prop := σ 65 7 = nI p ∧ σ 65 11 = nI e ∧ fM σ0 σ
theorem MI.k71 {σ0 σ σ' : St} {L p : Nat} (h : MI σ0 L p σ) (e : ∀ i, i ≠ 71 → σ' i = σ i) : MI σ0 L p σ' := ⟨by rw [e 65 (by decide)]; exact h.1, by rw [e 65 (by decide)]; exact h.2.1, h.2.2.k71 e⟩
def tkO (v : Nat) : Int32 := if (97 ≤ v ∧ v ≤ 122) ∨ v = 44 ∨ v = 59 then nI v else -3
def MT (σ0 : St) (T : Nat → Nat) (L p : Nat) (σ : St) : Prop := σ 65 4 = nI L ∧ σ 65 7 = nI p ∧ fM σ0 σ ∧ ((p = L ∧ σ 65 8 = -2) ∨ (fgB T L p = true ∧ (rn T L p = 1 ∨ rn T L p = 2) ∧ σ 65 8 = -1 ∧ σ 65 9 = nI (vl T p (rn T L p)) ∧ σ 65 6 = nI (p + rn T L p)) ∨ (fgB T L p = true ∧ rn T L p = 3 ∧ σ 65 8 = -3) ∨ (p < L ∧ fgB T L p = false ∧ σ 65 6 = nI (p + 1) ∧ σ 65 8 = tkO (T p)))
section TOKEN
variable {σ0 σ : St} {T : Nat → Nat} {L p : Nat}
theorem m_tape (hT : ∀ i, i < L → σ0 69 i = nI (T i) ∧ T i ≤ 255) (hI : fM σ0 σ) {i : Nat} (hi : i < L) : σ 69 i = nI (T i) := by
  rw [hI.1 69 (by decide) (by decide)]; exact (hT i hi).1
theorem m_fig {k : Int32 → St → Prop} (hT : ∀ i, i < L → σ0 69 i = nI (T i) ∧ T i ≤ 255) (hI : fM σ0 σ) {q : Nat} (hq : q < L) (h : k (nI (if fgB T L q then 1 else 0)) σ) : x7_in (σ 69 q) 48 57 σ k := by
  have := (hT q hq).2
  rw [m_tape hT hI hq]
  cases e : fgB T L q with
  | true =>
    have v := fg_v e
    rw [e] at h
    exact in_t (by rw [show (48 : Int32) = nI 48 from rfl, nI_ltI (by omega) (by decide)]; omega) (by rw [show (57 : Int32) = nI 57 from rfl, nI_ltI (by decide) (by omega)]; omega) h
  | false =>
    rw [e] at h
    have v : ¬ (q < L ∧ 48 ≤ T q ∧ T q ≤ 57) := of_decide_eq_false e
    refine in_f ?_ h
    rw [show (48 : Int32) = nI 48 from rfl, nI_ltI (by omega) (by decide), show (57 : Int32) = nI 57 from rfl, nI_ltI (by decide) (by omega)]
    omega
theorem m_52 {k : St → Prop} (hT : ∀ i, i < L → σ0 69 i = nI (T i) ∧ T i ≤ 255) (hL : L ≤ 100) (hp : fgB T L p = true) (hk : ∀ σ', MT σ0 T L p σ' → (∀ i, i ≠ 65 → σ' i = σ i) → k σ') : ∀ m q τ, p ≤ q → q ≤ L → L < q + m → (∀ j, p ≤ j → j < q → fgB T L j = true) → τ 65 4 = nI L → τ 65 7 = nI p → τ 65 6 = nI q → τ 65 9 = nI (vl T p (min (q - p) 2)) → fM σ0 τ → (∀ i, i ≠ 65 → τ i = σ i) → x7_nextToken_52 k m τ := by
  intro m
  induction m with
  | zero => intro q τ h1 h2 h3; omega
  | succ m ih =>
    intro q τ h1 h2 h3 hf t4 t7 t6 t9 hM hfr
    have sub : (nI q - nI p : Int32) = nI (q - p) := pk_sub h1
    have fin : fgB T L q = false → x7_nextToken_139 τ k := by
      intro nq
      have hpq : p < q := by
        rcases Nat.lt_or_ge p q with y | y
        · exact y
        · have : p = q := by omega
          subst this; rw [hp] at nq; exact absurd nq (by decide)
      unfold x7_nextToken_139 x7_nextToken_159 x7_nextToken_218 lt
      rw [t6, t7, sub]
      by_cases z : q - p ≤ 2
      · rw [if_pos (show nI (q - p) ≤ 2 from nI_le z (by decide))]
        have er : rn T L p = q - p := by
          unfold rn
          rw [hp]
          rcases (show q = p + 1 ∨ q = p + 2 by omega) with rfl | rfl
          · rw [nq]; simp
          · rw [hf (p + 1) (by omega) (by omega), nq]; simp
        refine hk _ ⟨?_, ?_, hM.up (by decide), Or.inr (Or.inl ⟨hp, by omega, up_s _ _ _ _, ?_, ?_⟩)⟩ (fun i hi => by rw [st_up_ne _ _ _ hi]; exact hfr i hi)
        · rw [up_n _ _ (Or.inr (by decide))]; exact t4
        · rw [up_n _ _ (Or.inr (by decide))]; exact t7
        · rw [up_n _ _ (Or.inr (by decide)), t9, er, show min (q - p) 2 = q - p by omega]
        · rw [up_n _ _ (Or.inr (by decide)), t6, er, show p + (q - p) = q by omega]
      · rw [if_neg (show ¬ nI (q - p) ≤ 2 from nI_ge (show 2 < q - p by omega) (by omega))]
        have er : rn T L p = 3 := by
          unfold rn
          rw [hp, hf (p + 1) (by omega) (by omega), hf (p + 2) (by omega) (by omega)]; rfl
        refine hk _ ⟨?_, ?_, hM.up (by decide), Or.inr (Or.inr (Or.inl ⟨hp, er, up_s _ _ _ _⟩))⟩ (fun i hi => by rw [st_up_ne _ _ _ hi]; exact hfr i hi)
        · rw [up_n _ _ (Or.inr (by decide))]; exact t4
        · rw [up_n _ _ (Or.inr (by decide))]; exact t7
    unfold x7_nextToken_52
    rw [t4, t6]
    by_cases z : L ≤ q
    · rw [if_pos (nI_le z (by omega))]
      exact fin (by unfold fgB; simp; omega)
    · rw [if_neg (nI_ge (by omega) (by omega)), nI_clamp (by omega)]
      have v : vp_in (nI q) (ln 69) := (vpI (by omega)).mpr (by show _ < 100; omega)
      refine ⟨v, m_fig hT hM (by omega) ?_⟩
      show if _ then _ else _
      cases e : fgB T L q with
      | false =>
        rw [if_pos (by decide)]; exact fin e
      | true =>
        have vq := fg_v e
        rw [if_neg (by decide), t6, t7, sub, nI_clamp (by omega), m_tape hT hM (by omega), t9]
        have nx : x7_nextToken_123 (x7_nextToken_52 k m) (nI (vl T p (min (q + 1 - p) 2))) τ k := by
          unfold x7_nextToken_123 lt
          dsimp only
          rw [up_n _ _ (Or.inr (by decide)), t6, show nI q + 1 = nI (q + 1) from nI_1 q]
          refine ih (q + 1) _ (by omega) (by omega) (by omega) (fun j g1 g2 => ?_) ?_ ?_ (up_s _ _ _ _) ?_ ((hM.up (by decide)).up (by decide)) (fun i hi => by rw [st_up_ne _ _ _ hi, st_up_ne _ _ _ hi]; exact hfr i hi)
          · by_cases y : j = q
            · subst y; exact e
            · exact hf j g1 (by omega)
          · rw [up_n _ _ (Or.inr (by decide)), up_n _ _ (Or.inr (by decide))]; exact t4
          · rw [up_n _ _ (Or.inr (by decide)), up_n _ _ (Or.inr (by decide))]; exact t7
          · rw [up_n _ _ (Or.inr (by decide)), up_s]
        by_cases y : 2 ≤ q - p
        · rw [if_pos (show (2 : Int32) ≤ nI (q - p) from nI_le y (by omega))]
          rw [show min (q + 1 - p) 2 = min (q - p) 2 by omega] at nx
          exact nx
        · rw [if_neg (show ¬ (2 : Int32) ≤ nI (q - p) from nI_ge (show q - p < 2 by omega) (by decide))]
          refine ⟨v, ?_⟩
          have ev : (10 * nI (vl T p (min (q - p) 2)) + nI (T q) - 48 : Int32) = nI (vl T p (min (q + 1 - p) 2)) := by
            rcases (show q = p ∨ q = p + 1 by omega) with rfl | rfl
            · rw [show min (q - q) 2 = 0 by omega, show min (q + 1 - q) 2 = 1 by omega]
              show (10 * nI 0 + nI (T q) - 48 : Int32) = nI (T q - 48)
              rw [show (10 : Int32) = nI 10 from rfl, pk_mul, nI_add, show (48 : Int32) = nI 48 from rfl, pk_sub (by omega), show 10 * 0 + T q - 48 = T q - 48 by omega]
            · have v0 := fg_v hp
              rw [show min (p + 1 - p) 2 = 1 by omega, show min (p + 1 + 1 - p) 2 = 2 by omega]
              show (10 * nI (T p - 48) + nI (T (p + 1)) - 48 : Int32) = nI (10 * (T p - 48) + (T (p + 1) - 48))
              rw [show (10 : Int32) = nI 10 from rfl, pk_mul, nI_add, show (48 : Int32) = nI 48 from rfl, pk_sub (by omega), show 10 * (T p - 48) + T (p + 1) - 48 = 10 * (T p - 48) + (T (p + 1) - 48) by omega]
          rw [ev]; exact nx
theorem m_next {k : St → Prop} (hT : ∀ i, i < L → σ0 69 i = nI (T i) ∧ T i ≤ 255) (hL : L ≤ 100) (hp : p ≤ L) (hI : MI σ0 L p σ) (hk : ∀ σ', MT σ0 T L p σ' → (∀ i, i ≠ 65 → σ' i = σ i) → k σ') : x7_nextToken σ k := by
  obtain ⟨i4, i6, hM⟩ := hI
  unfold x7_nextToken lt
  dsimp only
  rw [i6]
  have hM2 : fM σ0 (st_up (st_up σ 65 7 (nI p)) 65 9 0) := (hM.up (by decide)).up (by decide)
  have s4 : st_up (st_up σ 65 7 (nI p)) 65 9 0 65 4 = nI L := by rw [up_n _ _ (Or.inr (by decide)), up_n _ _ (Or.inr (by decide))]; exact i4
  have s6 : st_up (st_up σ 65 7 (nI p)) 65 9 0 65 6 = nI p := by rw [up_n _ _ (Or.inr (by decide)), up_n _ _ (Or.inr (by decide))]; exact i6
  have s7 : st_up (st_up σ 65 7 (nI p)) 65 9 0 65 7 = nI p := by rw [up_n _ _ (Or.inr (by decide)), up_s]
  have s9 : st_up (st_up σ 65 7 (nI p)) 65 9 0 65 9 = nI 0 := up_s _ _ _ _
  have sf : ∀ i, i ≠ 65 → st_up (st_up σ 65 7 (nI p)) 65 9 0 i = σ i := fun i hi => by rw [st_up_ne _ _ _ hi, st_up_ne _ _ _ hi]
  generalize st_up (st_up σ 65 7 (nI p)) 65 9 0 = τ at *
  rw [s4, s6]
  by_cases z : p = L
  · rw [if_pos (by rw [z])]
    unfold x7_nextToken_218
    refine hk _ ⟨?_, ?_, hM2.up (by decide), Or.inl ⟨z, up_s _ _ _ _⟩⟩ (fun i hi => by rw [st_up_ne _ _ _ hi]; exact sf i hi)
    · rw [up_n _ _ (Or.inr (by decide))]; exact s4
    · rw [up_n _ _ (Or.inr (by decide))]; exact s7
  · rw [if_neg (by rw [nI_eq (by omega) (by omega)]; exact z), nI_clamp (by omega)]
    have v : vp_in (nI p) (ln 69) := (vpI (by omega)).mpr (by show _ < 100; omega)
    have hv := (hT p (by omega)).2
    refine ⟨v, m_fig hT hM2 (by omega) ?_⟩
    show if _ then _ else _
    cases e : fgB T L p with
    | false =>
      rw [if_pos (by decide), s6, nI_clamp (by omega), m_tape hT hM2 (by omega)]
      refine ⟨v, ?_⟩
      have fin : ∀ w, w = tkO (T p) → x7_nextToken_205 w τ k := by
        intro w hw
        unfold x7_nextToken_205 x7_nextToken_218 lt
        dsimp only
        rw [up_n _ _ (Or.inr (by decide)), s6, show nI p + 1 = nI (p + 1) from nI_1 p]
        refine hk _ ⟨?_, ?_, (hM2.up (by decide)).up (by decide), Or.inr (Or.inr (Or.inr ⟨by omega, e, up_s _ _ _ _, ?_⟩))⟩ (fun i hi => by rw [st_up_ne _ _ _ hi, st_up_ne _ _ _ hi]; exact sf i hi)
        · rw [up_n _ _ (Or.inr (by decide)), up_n _ _ (Or.inr (by decide))]; exact s4
        · rw [up_n _ _ (Or.inr (by decide)), up_n _ _ (Or.inr (by decide))]; exact s7
        · rw [up_n _ _ (Or.inr (by decide)), up_s]; exact hw
      unfold x7_nextToken_199
      by_cases a : 97 ≤ T p ∧ T p ≤ 122
      · refine in_t (by rw [show (97 : Int32) = nI 97 from rfl, nI_ltI (by omega) (by decide)]; omega) (by rw [show (122 : Int32) = nI 122 from rfl, nI_ltI (by decide) (by omega)]; omega) ?_
        show if _ then _ else _
        rw [if_neg (by decide)]
        exact fin _ (by unfold tkO; rw [if_pos (Or.inl a)])
      · refine in_f (by rw [show (97 : Int32) = nI 97 from rfl, nI_ltI (by omega) (by decide), show (122 : Int32) = nI 122 from rfl, nI_ltI (by decide) (by omega)]; omega) ?_
        show if _ then _ else _
        rw [if_pos (by decide)]
        by_cases b : T p = 44
        · rw [if_pos (by rw [b]; rfl)]
          exact fin _ (by unfold tkO; rw [if_pos (Or.inr (Or.inl b))])
        · rw [if_neg (by rw [show (44 : Int32) = nI 44 from rfl, nI_eq (by omega) (by decide)]; exact b)]
          by_cases c : T p = 59
          · rw [if_pos (by rw [c]; rfl)]
            exact fin _ (by unfold tkO; rw [if_pos (Or.inr (Or.inr c))])
          · rw [if_neg (by rw [show (59 : Int32) = nI 59 from rfl, nI_eq (by omega) (by decide)]; exact c)]
            exact fin _ (by unfold tkO; rw [if_neg (by rintro (q | q | q); exact a q; exact b q; exact c q)])
    | true =>
      rw [if_neg (by decide)]
      refine ⟨101, m_52 (σ := σ) hT hL e hk 101 p τ (Nat.le_refl _) hp (by omega) (fun j a b => by omega) s4 s7 s6 ?_ hM2 sf⟩
      rw [s9, show min (p - p) 2 = 0 by omega]; rfl
theorem tk_eq : ∀ c, c = 103 ∨ c = 44 ∨ c = 59 ∨ c = 100 → ∀ v, v < 256 → (tkO v = nI c ↔ v = c) := by
  rintro c (rfl | rfl | rfl | rfl) <;> decide +kernel
/-- what the token at p says of a sign -/
theorem MT.sign {c : Nat} (hc : c = 103 ∨ c = 44 ∨ c = 59 ∨ c = 100) (hT : ∀ i, i < L → σ0 69 i = nI (T i) ∧ T i ≤ 255) (h : MT σ0 T L p σ) : (σ 65 8 = nI c → (p < L ∧ T p = c) ∧ σ 65 6 = nI (p + 1)) ∧ (¬ σ 65 8 = nI c → ¬ (p < L ∧ T p = c)) := by
  have m : ∀ n : Nat, n = 1 ∨ n = 2 ∨ n = 3 → ¬ (-(nI n) : Int32) = nI c := by
    rintro n (rfl | rfl | rfl) <;> rcases hc with rfl | rfl | rfl | rfl <;> decide
  rcases h.2.2.2 with ⟨a, b⟩ | ⟨a, a2, b, b2, b3⟩ | ⟨a, a2, b⟩ | ⟨a, a2, b, b2⟩
  · rw [b]; exact ⟨fun q => absurd q (m 2 (by decide)), fun _ q => by omega⟩
  · rw [b]
    have := fg_v a
    exact ⟨fun q => absurd q (m 1 (by decide)), fun _ q => by omega⟩
  · rw [b]
    have := fg_v a
    exact ⟨fun q => absurd q (m 3 (by decide)), fun _ q => by omega⟩
  · rw [b2]
    have hv := (hT p a).2
    have := tk_eq c hc (T p) (by omega)
    exact ⟨fun q => ⟨⟨a, this.mp q⟩, b⟩, fun q y => q (this.mpr y.2)⟩
theorem m_fails {e : Nat} {k : Int32 → St → Prop} (h7 : σ 65 7 = nI p) (hM : fM σ0 σ) (h : ∀ σ', MF σ0 p e σ' → k 0 σ') : x7_fails (nI e) σ k := by
  unfold x7_fails lt
  exact ⟨Or.inl rfl, h _ ⟨by rw [up_n _ _ (Or.inr (by decide))]; exact h7, up_s _ _ _ _, hM.up (by decide)⟩⟩
theorem m_sign {c : Nat} {k : Int32 → St → Prop} (hc : c = 103 ∨ c = 44 ∨ c = 59 ∨ c = 100) (hT : ∀ i, i < L → σ0 69 i = nI (T i) ∧ T i ≤ 255) (hL : L ≤ 100) (hp : p ≤ L) (hI : MI σ0 L p σ) {ok : Nat → Res} {KR : Res → Prop} (hK : KR (sgP T L c p ok)) (h1 : p < L → KR (ok (p + 1)) → ∀ σ', MI σ0 L (p + 1) σ' → (∀ i, i ≠ 65 → σ' i = σ i) → k 1 σ') (h0 : ∀ q e, KR (.inl (q, e)) → ∀ σ', MF σ0 q e σ' → k 0 σ') : x7_isSign (nI c) σ k := by
  unfold x7_isSign x7_isSign_20 x7_isSign_25
  unfold sgP at hK
  refine m_next hT hL hp hI (fun σ' t e => ?_)
  have sg := t.sign hc hT
  by_cases z : σ' 65 8 = nI c
  · have q := sg.1 z
    rw [if_pos q.1] at hK
    rw [if_pos z]
    exact ⟨Or.inr rfl, h1 q.1.1 hK σ' ⟨t.1, q.2, t.2.2.1⟩ e⟩
  · rw [if_neg (sg.2 z)] at hK
    rw [if_neg z]
    refine m_fails (e := 1) t.2.1 t.2.2.1 (fun σ2 f => ?_)
    show if _ then _ else _
    rw [if_pos rfl]
    exact ⟨Or.inl rfl, h0 _ _ hK σ2 f⟩
theorem m_num {lo hi : Nat} {k : Int32 → St → Prop} (hT : ∀ i, i < L → σ0 69 i = nI (T i) ∧ T i ≤ 255) (hL : L ≤ 100) (hp : p ≤ L) (hlo : lo ≤ 1000) (hhi : hi ≤ 1000) (hI : MI σ0 L p σ) {ok : Nat → Nat → Res} {KR : Res → Prop} (hK : KR (nmP T L lo hi p ok)) (h1 : ∀ p' v, p ≤ p' → p' ≤ L → lo ≤ v → v ≤ hi → KR (ok p' v) → ∀ σ', MI σ0 L p' σ' → σ' 65 9 = nI v → (∀ i, i ≠ 65 → σ' i = σ i) → k 1 σ') (h0 : ∀ q e, KR (.inl (q, e)) → ∀ σ', MF σ0 q e σ' → k 0 σ') : x7_isNumber (nI lo) (nI hi) σ k := by
  unfold x7_isNumber x7_isNumber_38 x7_isNumber_43
  unfold nmP at hK
  refine m_next hT hL hp hI (fun σ' t e => ?_)
  have bad : ¬ (rn T L p = 1 ∨ rn T L p = 2) → ¬ σ' 65 8 = -1 → (if σ' 65 8 = -1 then x7_in (σ' 65 9) (nI lo) (nI hi) σ' (fun r3 σ4 => (if r3 = 0 then x7_fails 2 σ4 (fun r5 σ6 => (if r5 = 0 then (isB 0 ∧ k 0 σ6) else (isB 1 ∧ k 1 σ6))) else (isB 1 ∧ k 1 σ4))) else x7_fails 1 σ' (fun r7 σ8 => (isB r7 ∧ k r7 σ8))) := by
    intro q z
    rw [if_neg q] at hK
    rw [if_neg z]
    refine m_fails (e := 1) t.2.1 t.2.2.1 (fun σ2 f => ?_)
    exact ⟨Or.inl rfl, h0 _ _ hK σ2 f⟩
  rcases t.2.2.2 with ⟨a, b⟩ | ⟨a, a2, b, b2, b3⟩ | ⟨a, a2, b⟩ | ⟨a, a2, b, b2⟩
  · refine bad ?_ (by rw [b]; decide)
    have : fgB T L p = false := by unfold fgB; simp; omega
    unfold rn; rw [this]; simp
  · have hin := rn_in a2
    have hv : vl T p (rn T L p) ≤ 100000 := by
      have f : ∀ j, fgB T L j = true → T j ≤ 57 := fun j hj => (fg_v hj).2
      unfold rn at a2 ⊢
      unfold vl
      have := f _ a
      rw [a] at a2 ⊢
      cases a1 : fgB T L (p + 1) with
      | false => simp; omega
      | true =>
        have := f _ a1
        cases a3 : fgB T L (p + 2) <;> simp <;> omega
    rw [if_pos a2] at hK
    rw [if_pos b, b2]
    by_cases y : lo ≤ vl T p (rn T L p) ∧ vl T p (rn T L p) ≤ hi
    · rw [if_pos y] at hK
      refine in_t (by rw [nI_ltI (by omega) (by omega)]; omega) (by rw [nI_ltI (by omega) (by omega)]; omega) ?_
      show if _ then _ else _
      rw [if_neg (by decide)]
      exact ⟨Or.inr rfl, h1 _ _ (by omega) hin y.1 y.2 hK σ' ⟨t.1, b3, t.2.2.1⟩ b2 e⟩
    · rw [if_neg y] at hK
      refine in_f (by rw [nI_ltI (by omega) (by omega), nI_ltI (by omega) (by omega)]; omega) ?_
      show if _ then _ else _
      rw [if_pos (by decide)]
      refine m_fails (e := 2) t.2.1 t.2.2.1 (fun σ2 f => ?_)
      show if _ then _ else _
      rw [if_pos rfl]
      exact ⟨Or.inl rfl, h0 _ _ hK σ2 f⟩
  · exact bad (by omega) (by rw [b]; decide)
  · refine bad ?_ ?_
    · unfold rn; rw [a2]; simp
    · rw [b2]
      have hv := (hT p a).2
      have : ∀ v, v < 256 → ¬ tkO v = -1 := by decide +kernel
      exact this _ (by omega)
end TOKEN
