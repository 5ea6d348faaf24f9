/-! STREET: what is told -/
abbrev Res : Type := Sum (Nat × Nat) Fn
def fgB (T : Nat → Nat) (L p : Nat) : Bool := decide (p < L ∧ 48 ≤ T p ∧ T p ≤ 57)
def rn (T : Nat → Nat) (L p : Nat) : Nat := if fgB T L p then (if fgB T L (p + 1) then (if fgB T L (p + 2) then 3 else 2) else 1) else 0
def vl (T : Nat → Nat) (p r : Nat) : Nat := if r = 0 then 0 else if r = 1 then T p - 48 else 10 * (T p - 48) + (T (p + 1) - 48)
def srt (v : Nat) : Nat := if v = 98 then 3 else if v = 107 then 5 else if v = 108 then 2 else if v = 112 then 4 else if v = 117 then 1 else 0
def addD (G : Fn) (v : Nat) : Fn := fup (fup G (5 + G 2) v) 2 (G 2 + 1)
def addC (G : Fn) (kd' a w : Nat) : Fn := fup (fup (fup (fup G (29 + G 3) kd') (41 + G 3) a) (35 + G 3) w) 3 (G 3 + 1)
def beg (a b : Nat) : Fn := fun j => if j = 0 then a else if j = 1 then b else 0
def sgP (T : Nat → Nat) (L c p : Nat) (ok : Nat → Res) : Res := if p < L ∧ T p = c then ok (p + 1) else .inl (p, 1)
def nmP (T : Nat → Nat) (L lo hi p : Nat) (ok : Nat → Nat → Res) : Res := if rn T L p = 1 ∨ rn T L p = 2 then (if lo ≤ vl T p (rn T L p) ∧ vl T p (rn T L p) ≤ hi then ok (p + rn T L p) (vl T p (rn T L p)) else .inl (p, 2)) else .inl (p, 1)
def doorP (T : Nat → Nat) (L p : Nat) (G : Fn) (ok : Nat → Fn → Res) : Res := if p < L ∧ T p = 100 ∧ G 2 = 6 then .inl (p, 3) else sgP T L 100 p fun p1 => nmP T L 1 20 p1 fun p2 v => sgP T L 59 p2 fun p3 => ok p3 (addD G v)
def callP (T : Nat → Nat) (L p : Nat) (G : Fn) (ok : Nat → Fn → Res) : Res := if srt (T p) = 0 then .inl (p, 1) else if G 3 = 6 then .inl (p, 3) else nmP T L 0 (G 2 - 1) (p + 1) fun p2 a => sgP T L 44 p2 fun p3 => nmP T L 0 20 p3 fun p4 w => sgP T L 59 p4 fun p5 => ok p5 (addC G (srt (T p)) a w)
def loopP (T : Nat → Nat) (L : Nat) : Nat → Nat → Fn → Res
  | 0, _, _ => .inl (0, 0)
  | n + 1, p, G => if L ≤ p then .inr G else if G 3 = 0 ∧ T p = 100 then doorP T L p G (loopP T L n) else callP T L p G (loopP T L n)
def lawP (T : Nat → Nat) (L p : Nat) (ok : Nat → Nat → Nat → Res) : Res := sgP T L 103 p fun p1 => nmP T L 0 60 p1 fun p2 a => sgP T L 44 p2 fun p3 => nmP T L 0 12 p3 fun p4 b => sgP T L 59 p4 fun p5 => ok p5 a b
def allP (T : Nat → Nat) (L : Nat) : Res := lawP T L 0 fun p a b => doorP T L p (beg a b) (loopP T L 101)
theorem rn_in {T : Nat → Nat} {L p : Nat} (h : rn T L p = 1 ∨ rn T L p = 2) : p + rn T L p ≤ L := by
  unfold rn at h ⊢
  have f : ∀ q, fgB T L q = true → q < L := fun q hq => (of_decide_eq_true hq).1
  cases h0 : fgB T L p with
  | false => rw [h0] at h; simp at h
  | true =>
    have := f _ h0
    cases h1 : fgB T L (p + 1) with
    | false => simp; omega
    | true =>
      have := f _ h1
      cases h2 : fgB T L (p + 2) with
      | false => simp; omega
      | true => rw [h0, h1, h2] at h; simp at h
/-! the reader of the class -/
def RdI (σ0 : St) (L p : Nat) (σ : St) : Prop := σ 55 1 = nI L ∧ σ 55 2 = nI p ∧ ∀ i, i ≠ 55 → (i < 28 ∨ 36 < i) → σ i = σ0 i
def RdF (σ0 : St) (p e : Nat) (σ : St) : Prop := σ 55 3 = nI p ∧ σ 55 4 = nI e ∧ ∀ i, i ≠ 55 → (i < 28 ∨ 36 < i) → σ i = σ0 i
section READC
variable {σ0 σ : St} {T : Nat → Nat} {L p : Nat} {k : Int32 → St → Prop}
theorem c_fail {e : Nat} (hI : RdI σ0 L p σ) (h : ∀ σ', RdF σ0 p e σ' → k 0 σ') : x3_fail (nI e) σ k := by
  unfold x3_fail lt
  dsimp only
  rw [hI.2.1]
  refine ⟨Or.inl rfl, h _ ⟨by rw [up_n _ _ (Or.inr (by decide)), up_s], up_s _ _ _ _, fun i h1 h2 => ?_⟩⟩
  rw [st_up_ne _ _ _ h1, st_up_ne _ _ _ h1]; exact hI.2.2 i h1 h2
theorem c_tape (hT : ∀ i, i < L → σ0 56 i = nI (T i) ∧ T i ≤ 255) (hI : RdI σ0 L p σ) {i : Nat} (hi : i < L) : σ 56 i = nI (T i) := by
  rw [hI.2.2 56 (by decide) (by decide)]; exact (hT i hi).1
theorem c_next {c : Nat} (hT : ∀ i, i < L → σ0 56 i = nI (T i) ∧ T i ≤ 255) (hL : L ≤ 100) (hp : p ≤ L) (hc : c ≤ 255) (hI : RdI σ0 L p σ) (h1 : p < L ∧ T p = c → k 1 σ) (h0 : ¬ (p < L ∧ T p = c) → k 0 σ) : x3_nextIs (nI c) σ k := by
  unfold x3_nextIs x3_nextIs_28 x3_nextIs_29
  rw [hI.1, hI.2.1]
  by_cases z : L ≤ p
  · rw [if_pos (nI_le z (by omega))]
    exact ⟨Or.inl rfl, h0 (fun q => by omega)⟩
  · rw [if_neg (nI_ge (by omega) (by omega)), nI_clamp (by omega), c_tape hT hI (by omega)]
    refine ⟨(vpI (by omega)).mpr (by show _ < 100; omega), ?_⟩
    have := (hT p (by omega)).2
    by_cases y : T p = c
    · rw [if_pos (by rw [y])]; exact ⟨Or.inr rfl, h1 ⟨by omega, y⟩⟩
    · rw [if_neg (by rw [nI_eq (by omega) (by omega)]; exact y)]; exact ⟨Or.inl rfl, h0 (fun q => y q.2)⟩
theorem RdI.at {p' : Nat} {v : Int32} (hI : RdI σ0 L p σ) (hv : v = nI p') : RdI σ0 L p' (st_up σ 55 2 v) := ⟨by rw [up_n _ _ (Or.inr (by decide))]; exact hI.1, by rw [up_s]; exact hv, fun i h1 h2 => by rw [st_up_ne _ _ _ h1]; exact hI.2.2 i h1 h2⟩
theorem c_sign {c : Nat} (hT : ∀ i, i < L → σ0 56 i = nI (T i) ∧ T i ≤ 255) (hL : L ≤ 100) (hp : p ≤ L) (hc : c ≤ 255) (hI : RdI σ0 L p σ) {ok : Nat → Res} {KR : Res → Prop} (hK : KR (sgP T L c p ok)) (h1 : p < L → T p = c → KR (ok (p + 1)) → ∀ σ', RdI σ0 L (p + 1) σ' → (∀ i, i ≠ 55 → σ' i = σ i) → k 1 σ') (h0 : ∀ q e, KR (.inl (q, e)) → ∀ σ', RdF σ0 q e σ' → k 0 σ') : x3_readSign (nI c) σ k := by
  unfold x3_readSign
  unfold sgP at hK
  refine c_next hT hL hp hc hI (fun q => ?_) (fun q => ?_)
  · rw [if_pos q] at hK
    show if _ then _ else _
    rw [if_neg (by decide)]
    unfold lt
    refine ⟨Or.inr rfl, h1 q.1 q.2 hK _ (hI.at (by rw [hI.2.1]; exact nI_1 p)) (fun i hi => st_up_ne _ _ _ hi)⟩
  · rw [if_neg q] at hK
    show if _ then _ else _
    rw [if_pos rfl]
    refine c_fail (e := 1) hI (fun σ' f => ?_)
    exact ⟨Or.inl rfl, h0 _ _ hK σ' f⟩
theorem c_fig (hT : ∀ i, i < L → σ0 56 i = nI (T i) ∧ T i ≤ 255) (hI : RdI σ0 L p σ) {q : Nat} (hq : q < L) (h : k (nI (if fgB T L q then 1 else 0)) σ) : x3_isFigure (σ 56 q) σ k := by
  unfold x3_isFigure x3_isFigure_16 x3_isFigure_17
  have := (hT q hq).2
  rw [c_tape hT hI hq, show (48 : Int32) = nI 48 from rfl, show (57 : Int32) = nI 57 from rfl]
  by_cases a : T q < 48
  · have e : fgB T L q = false := by unfold fgB; simp; omega
    rw [e] at h
    rw [if_pos ((nI_ltI (by omega) (by decide)).mpr a)]; exact ⟨Or.inl rfl, h⟩
  · rw [if_neg (by rw [nI_ltI (by omega) (by decide)]; exact a)]
    by_cases b : 57 < T q
    · have e : fgB T L q = false := by unfold fgB; simp; omega
      rw [e] at h
      rw [if_pos ((nI_ltI (by decide) (by omega)).mpr b)]; exact ⟨Or.inl rfl, h⟩
    · have e : fgB T L q = true := by unfold fgB; simp; omega
      rw [e] at h
      rw [if_neg (by rw [nI_ltI (by decide) (by omega)]; exact b)]; exact ⟨Or.inr rfl, h⟩
theorem cn_f {x1 x2 i3 i4 : Int32} {n q : Nat} (hT : ∀ i, i < L → σ0 56 i = nI (T i) ∧ T i ≤ 255) (hL : L ≤ 100) (hI : RdI σ0 L p σ) (hq : q ≤ 200) (hf : fgB T L q = false) (h : x3_readNumber_64 x1 x2 i3 i4 σ k) : x3_readNumber_11 x1 x2 k (n + 1) i3 i4 (nI q) σ := by
  unfold x3_readNumber_11
  rw [hI.1]
  by_cases z : L ≤ q
  · rw [if_pos (nI_le z (by omega))]; exact h
  · rw [if_neg (nI_ge (by omega) (by omega)), nI_clamp (by omega)]
    refine ⟨(vpI (by omega)).mpr (by show _ < 100; omega), c_fig hT hI (by omega) ?_⟩
    show if _ then _ else _
    rw [hf, if_pos (by decide)]; exact h
theorem cn_t {x1 x2 i3 : Int32} {n q j : Nat} (hT : ∀ i, i < L → σ0 56 i = nI (T i) ∧ T i ≤ 255) (hL : L ≤ 100) (hI : RdI σ0 L p σ) (hj : j < 3) (hf : fgB T L q = true) (h : x3_readNumber_11 x1 x2 k n (10 * i3 + nI (T q) - 48) (nI (j + 1)) (nI (q + 1)) σ) : x3_readNumber_11 x1 x2 k (n + 1) i3 (nI j) (nI q) σ := by
  have hq : q < L := (of_decide_eq_true hf).1
  unfold x3_readNumber_11
  rw [hI.1, if_neg (nI_ge (by omega) (by omega)), nI_clamp (by omega)]
  have v : vp_in (nI q) (ln 56) := (vpI (by omega)).mpr (by show _ < 100; omega)
  refine ⟨v, c_fig hT hI hq ?_⟩
  show if _ then _ else _
  rw [hf, if_neg (by decide), if_neg (by rw [show (3 : Int32) = nI 3 from rfl, nI_leI (by decide) (by omega)]; omega), c_tape hT hI hq]
  refine ⟨v, ?_⟩
  unfold lt
  rw [show nI j + 1 = nI (j + 1) from nI_1 j, show nI q + 1 = nI (q + 1) from nI_1 q]
  exact h
theorem cn_3 {x1 x2 i3 : Int32} {n q : Nat} (hT : ∀ i, i < L → σ0 56 i = nI (T i) ∧ T i ≤ 255) (hL : L ≤ 100) (hI : RdI σ0 L p σ) (hq : q ≤ 200) (h : x3_readNumber_64 x1 x2 i3 (nI 3) σ k) : x3_readNumber_11 x1 x2 k (n + 1) i3 (nI 3) (nI q) σ := by
  cases hf : fgB T L q with
  | false => exact cn_f hT hL hI hq hf h
  | true =>
    have hq : q < L := (of_decide_eq_true hf).1
    unfold x3_readNumber_11
    rw [hI.1, if_neg (nI_ge (by omega) (by omega)), nI_clamp (by omega)]
    refine ⟨(vpI (by omega)).mpr (by show _ < 100; omega), c_fig hT hI hq ?_⟩
    show if _ then _ else _
    rw [hf, if_neg (by decide), if_pos (by decide)]; exact h
theorem fg_v {q : Nat} (h : fgB T L q = true) : 48 ≤ T q ∧ T q ≤ 57 := (of_decide_eq_true h).2
theorem c_num {lo hi : Nat} (hT : ∀ i, i < L → σ0 56 i = nI (T i) ∧ T i ≤ 255) (hL : L ≤ 100) (hp : p ≤ L) (hlo : lo ≤ 1000) (hhi : hi ≤ 1000) (hI : RdI σ0 L p σ) {ok : Nat → Nat → Res} {KR : Res → Prop} (hK : KR (nmP T L lo hi p ok)) (h1 : ∀ p' v, p ≤ p' → p' ≤ L → lo ≤ v → v ≤ hi → KR (ok p' v) → ∀ σ', RdI σ0 L p' σ' → (∀ i, i ≠ 55 → σ' i = σ i) → k (nI v) σ') (h0 : ∀ q e, KR (.inl (q, e)) → ∀ σ', RdF σ0 q e σ' → k (-1) σ') : x3_readNumber (nI lo) (nI hi) σ k := by
  have fl1 : ¬ (rn T L p = 1 ∨ rn T L p = 2) → ∀ i3 i4, x3_readNumber_81 (nI lo) (nI hi) i3 i4 0 σ k := by
    intro q i3 i4
    unfold nmP at hK
    rw [if_neg q] at hK
    unfold x3_readNumber_81 x3_readNumber_98 x3_readNumber_109
    rw [if_pos rfl, if_pos rfl]
    exact c_fail (e := 1) hI (fun σ' f => h0 _ _ hK σ' f)
  have gd : (rn T L p = 1 ∨ rn T L p = 2) → x3_readNumber_81 (nI lo) (nI hi) (nI (vl T p (rn T L p))) (nI (rn T L p)) 1 σ k := by
    intro q
    have hin := rn_in q
    have hv : vl T p (rn T L p) ≤ 100000 := by
      have f : ∀ j, fgB T L j = true → T j ≤ 57 := fun j hj => (fg_v hj).2
      unfold rn at q ⊢
      unfold vl
      cases a0 : fgB T L p with
      | false => rw [a0] at q; simp at q
      | true =>
        have := f _ a0
        cases a1 : fgB T L (p + 1) with
        | false => simp; omega
        | true =>
          have := f _ a1
          cases a2 : fgB T L (p + 2) <;> simp <;> omega
    unfold nmP at hK
    rw [if_pos q] at hK
    unfold x3_readNumber_81 x3_readNumber_98 x3_readNumber_109 lt
    rw [if_neg (by decide)]
    have bad : ¬ (lo ≤ vl T p (rn T L p) ∧ vl T p (rn T L p) ≤ hi) → x3_fail 2 σ (fun r2 σ3 => k (-1) σ3) := by
      intro y
      rw [if_neg y] at hK
      exact c_fail (e := 2) hI (fun σ' f => h0 _ _ hK σ' f)
    by_cases y1 : lo ≤ vl T p (rn T L p)
    · rw [if_neg (by rw [nI_ltI (by omega) (by omega)]; omega)]
      by_cases y2 : vl T p (rn T L p) ≤ hi
      · rw [if_pos (nI_le y2 (by omega))]
        rw [if_pos ⟨y1, y2⟩] at hK
        exact h1 _ _ (by omega) hin y1 y2 hK _ (hI.at (by rw [hI.2.1, nI_add])) (fun i hi => st_up_ne _ _ _ hi)
      · rw [if_neg (nI_ge (by omega) (by omega)), if_neg (by decide)]
        exact bad (fun w => y2 w.2)
    · rw [if_pos (by rw [nI_ltI (by omega) (by omega)]; omega), if_neg (by decide)]
      exact bad (fun w => y1 w.1)
  unfold x3_readNumber lt
  dsimp only
  rw [hI.2.1]
  refine ⟨4, ?_⟩
  cases a0 : fgB T L p with
  | false =>
    have e : rn T L p = 0 := by unfold rn; rw [a0]; rfl
    refine cn_f hT hL hI (by omega) a0 ?_
    unfold x3_readNumber_64
    rw [if_neg (by decide), if_neg (by decide)]
    exact fl1 (by omega) _ _
  | true =>
    have v0 := fg_v a0
    refine cn_t (j := 0) hT hL hI (by decide) a0 ?_
    have e0 : (10 * 0 + nI (T p) - 48 : Int32) = nI (T p - 48) := by
      rw [show (10 * 0 : Int32) = nI 0 from rfl, nI_add, Nat.zero_add, show (48 : Int32) = nI 48 from rfl, pk_sub v0.1]
    rw [e0]
    cases a1 : fgB T L (p + 1) with
    | false =>
      have e : rn T L p = 1 := by unfold rn; rw [a0, a1]; rfl
      refine cn_f hT hL hI (by omega) a1 ?_
      unfold x3_readNumber_64 x3_readNumber_76
      rw [if_pos (by decide)]
      have := gd (Or.inl e)
      rw [e] at this
      exact this
    | true =>
      have v1 := fg_v a1
      refine cn_t (j := 1) hT hL hI (by decide) a1 ?_
      have e1 : (10 * nI (T p - 48) + nI (T (p + 1)) - 48 : Int32) = nI (10 * (T p - 48) + (T (p + 1) - 48)) := by
        rw [show (10 : Int32) = nI 10 from rfl, pk_mul, nI_add, show (48 : Int32) = nI 48 from rfl, pk_sub (by omega), show 10 * (T p - 48) + T (p + 1) - 48 = 10 * (T p - 48) + (T (p + 1) - 48) by omega]
      rw [e1]
      cases a2 : fgB T L (p + 2) with
      | false =>
        have e : rn T L p = 2 := by unfold rn; rw [a0, a1, a2]; rfl
        refine cn_f hT hL hI (by omega) a2 ?_
        unfold x3_readNumber_64 x3_readNumber_76
        rw [if_neg (by decide), if_pos (by decide)]
        have := gd (Or.inr e)
        rw [e] at this
        exact this
      | true =>
        have e : rn T L p = 3 := by unfold rn; rw [a0, a1, a2]; rfl
        refine cn_t (j := 2) hT hL hI (by decide) a2 ?_
        refine cn_3 (n := 0) hT hL hI (by omega) ?_
        unfold x3_readNumber_64
        rw [if_neg (by decide), if_neg (by decide)]
        exact fl1 (by omega) _ _
end READC
