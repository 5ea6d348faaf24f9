/-! ACTS -/
def psh {α : Type} (n : Nat) (f : Nat → α) (x : α) : Nat → α := if n < 24 then (fun i => if i = n then x else f i) else (fun i => if i = 23 then x else f (i + 1))
theorem Chn.push {n : Nat} {rc : Nat → Nat × Nat × Nat} {S : Nat → Fn} {F F' : Fn} {x : Nat × Nat × Nat} (hn : n ≤ 24) (h : Chn n rc S F) (hF : WF F) (h4 : F 4 ≤ 999) (hU : UnR x.1 x.2.1 x.2.2 F' F) : Chn (min (n + 1) 24) (psh n rc x) (psh n S F) F' := by
  intro i hi
  unfold psh
  by_cases q : n < 24
  · rw [if_pos q, if_pos q]
    by_cases z : i = n
    · subst z
      simp only [if_true]
      rw [if_neg (by omega)]
      exact ⟨hF, h4, hU⟩
    · have hin : i < n := by omega
      obtain ⟨a1, a2, a3⟩ := h i hin
      simp only [z, if_false]
      refine ⟨a1, a2, ?_⟩
      rw [if_pos (by omega)]
      by_cases z2 : i + 1 = n
      · rw [if_pos z2]; rwa [if_neg (by omega)] at a3
      · rw [if_neg z2]; rwa [if_pos (by omega)] at a3
  · rw [if_neg q, if_neg q]
    have hn' : n = 24 := by omega
    subst hn'
    by_cases z : i = 23
    · subst z
      simp only [if_true]
      rw [if_neg (by omega)]
      exact ⟨hF, h4, hU⟩
    · obtain ⟨a1, a2, a3⟩ := h (i + 1) (by omega)
      simp only [z, if_false]
      refine ⟨a1, a2, ?_⟩
      rw [if_pos (by omega)]
      by_cases z2 : i + 1 = 23
      · rw [if_pos z2]; rwa [if_neg (by omega)] at a3
      · rw [if_neg z2]; rwa [if_pos (by omega)] at a3
theorem s0_keep {σ : St} {n nx : Nat} {rc : Nat → Nat × Nat × Nat} {k : St → Prop} {w d v : Nat} (h : RingR σ n nx rc) (hk : ∀ σ', RingR σ' (min (n + 1) 24) ((nx + 1) % 24) (psh n rc (w, d, v)) → (∀ i, i < 57 ∨ 60 < i → σ' i = σ i) → k σ') : x0_keep (nI w) (nI d) (nI v) σ k := by
  obtain ⟨h1, h2, h3, h4, h5⟩ := h
  unfold x0_keep lt
  rw [h4, nI_clamp (by omega)]
  refine ⟨(vpI (by omega)).mpr (by show nx < 24; exact h2), ?_⟩
  try dsimp only
  rw [st_up_ne (i := 58) (a := 57) _ _ _ (by decide), h4, nI_clamp (by omega)]
  refine ⟨(vpI (by omega)).mpr (by show nx < 24; exact h2), ?_⟩
  try dsimp only
  rw [st_up_ne (i := 59) (a := 57) _ _ _ (by decide), st_up_ne (i := 58) (a := 57) _ _ _ (by decide), h4, nI_clamp (by omega)]
  refine ⟨(vpI (by omega)).mpr (by show nx < 24; exact h2), by decide, ?_⟩
  try dsimp only
  have g57 : st_up (st_up (st_up σ 58 nx (nI w)) 59 nx (nI d)) 60 nx (nI v) 57 = σ 57 := by rw [st_up_ne _ _ _ (by decide), st_up_ne _ _ _ (by decide), st_up_ne _ _ _ (by decide)]
  rw [g57, h4, show nI nx + 1 = nI (nx + 1) from nI_1 nx, show (24 : Int32) = nI 24 from rfl, remI (by omega) (by decide) (by decide)]
  rw [up_n (i := 57) (j := 3) (a := 57) (b := 4) _ _ (Or.inr (by decide)), g57, h3, show nI n + 1 = nI (n + 1) from nI_1 n, iminI (by omega) (by decide)]
  refine hk _ ⟨by omega, Nat.mod_lt _ (by decide), ?_, ?_, fun i hi => ?_⟩ (fun i hi => ?_)
  · rw [up_s]
  · rw [up_n _ _ (Or.inr (by decide)), up_s]
  · rw [st_up_ne (i := 57) (a := 58) _ _ _ (by decide), st_up_ne (i := 57) (a := 58) _ _ _ (by decide), st_up_ne (i := 60) (a := 58) _ _ _ (by decide), st_up_ne (i := 59) (a := 58) _ _ _ (by decide), st_up_ne (i := 57) (a := 59) _ _ _ (by decide), st_up_ne (i := 57) (a := 59) _ _ _ (by decide), st_up_ne (i := 60) (a := 59) _ _ _ (by decide), st_up_ne (i := 57) (a := 60) _ _ _ (by decide), st_up_ne (i := 57) (a := 60) _ _ _ (by decide)]
    have key : (∀ p, p = ((nx + 1) % 24 + 24 - min (n + 1) 24 + i) % 24 → (p = nx ∧ psh n rc (w, d, v) i = (w, d, v)) ∨ (p ≠ nx ∧ ∃ i', i' < n ∧ p = (nx + 24 - n + i') % 24 ∧ psh n rc (w, d, v) i = rc i')) := by
      intro p hp
      unfold psh
      by_cases q : n < 24
      · rw [if_pos q]
        by_cases z : i = n
        · left; subst z; simp only [if_true]; exact ⟨by omega, trivial⟩
        · right; simp only [z, if_false]; exact ⟨by omega, i, by omega, by omega, rfl⟩
      · rw [if_neg q]
        by_cases z : i = 23
        · left; subst z; simp only [if_true]; exact ⟨by omega, trivial⟩
        · right; simp only [z, if_false]; exact ⟨by omega, i + 1, by omega, by omega, rfl⟩
    generalize hp : ((nx + 1) % 24 + 24 - min (n + 1) 24 + i) % 24 = p
    rcases key p hp.symm with ⟨e1, e2⟩ | ⟨e1, i', e2, e3, e4⟩
    · subst e1; rw [e2, up_s, up_s, up_s]; exact ⟨rfl, rfl, rfl⟩
    · rw [e4, up_n _ _ (Or.inr e1), up_n (i := 59) (a := 59) _ _ (Or.inr e1), up_n (i := 60) (a := 60) _ _ (Or.inr e1), st_up_ne (i := 58) (a := 59) _ _ _ (by decide), st_up_ne (i := 59) (a := 60) _ _ _ (by decide), st_up_ne (i := 58) (a := 60) _ _ _ (by decide), e3]
      exact h5 i' e2
  · rw [st_up_ne _ _ _ (by omega), st_up_ne _ _ _ (by omega), st_up_ne _ _ _ (by omega), st_up_ne _ _ _ (by omega), st_up_ne _ _ _ (by omega)]
theorem s7_lay {a o b p : Nat} {σ : St} {k : St → Prop} (hab : a ≠ b) (ha : o + 53 ≤ ln a) (hb : p + 53 ≤ ln b) (ho : o ≤ 5000) (hp : p ≤ 5000) (h : ∀ σ', (∀ j, j < 53 → σ' b (p + j) = σ a (o + j)) → (∀ q, q < p ∨ p + 53 ≤ q → σ' b q = σ b q) → (∀ i, i ≠ b → σ' i = σ i) → k σ') : x7_lay a (nI o) b (nI p) σ k := by
  have key : ∀ n c τ, c ≤ 53 → 53 < c + n → (∀ j, j < c → τ b (p + j) = σ a (o + j)) → (∀ q, q < p ∨ p + 53 ≤ q → τ b q = σ b q) → (∀ i, i ≠ b → τ i = σ i) → x7_lay_3 a (nI o) b (nI p) k n (nI c) τ := by
    intro n
    induction n with
    | zero => intro c τ h1 h2; omega
    | succ n ih =>
      intro c τ h1 h2 a1 a2 a3
      unfold x7_lay_3 lt
      simp (disch := omega) only [lI, nI_add, pk_mul, nI_leI, nI_ltI, nI_eq, nI_clamp, vpI, pk_sub, isB0, isB1]
      by_cases q : 53 ≤ c
      · rw [if_pos q]
        exact h τ (fun j hj => a1 j (by omega)) a2 a3
      · rw [if_neg q]
        refine ⟨by omega, by omega, ih (c + 1) _ (by omega) (by omega) ?_ ?_ ?_⟩
        · intro j hj
          by_cases z : j = c
          · subst z; rw [up_s, a3 a hab]
          · rw [up_n _ _ (Or.inr (by omega))]; exact a1 j (by omega)
        · intro q hq; rw [up_n _ _ (Or.inr (by omega))]; exact a2 q hq
        · intro i hi; rw [st_up_ne _ _ _ hi]; exact a3 i hi
  unfold x7_lay
  exact ⟨54, key 54 0 σ (by decide) (by decide) (fun j hj => absurd hj (Nat.not_lt_zero _)) (fun _ _ => rfl) (fun _ _ => rfl)⟩
theorem s7_act_49 {σ : St} {n : Nat} {S : Nat → Fn} {F : Fn} {k : St → Prop} (h : SnapR σ n S) (hM : StM 70 0 σ F) (hn : n < 24) (hk : ∀ σ', SnapR σ' (n + 1) (fun i => if i = n then F else S i) → (∀ i, i ≠ 75 → i ≠ 65 → σ' i = σ i) → (∀ j, j ≠ 18 → σ' 65 j = σ 65 j) → k σ') : x7_act_49 σ k := by
  unfold x7_act_49 lt
  rw [h.1, show (53 : Int32) = nI 53 from rfl, pk_mul, show (0 : Int32) = nI 0 from rfl]
  refine s7_lay (by decide) (by decide) (by show 53 * n + 53 ≤ 1272; omega) (by decide) (by omega) (fun τ b1 b2 b3 => ?_)
  rw [b3 65 (by decide), h.1, show nI n + 1 = nI (n + 1) from nI_1 n]
  refine hk _ ⟨by rw [up_s], fun i hi j hj => ?_⟩ (fun i h1 h2 => ?_) (fun j hj => ?_)
  · rw [st_up_ne _ _ _ (by decide)]
    by_cases z : i = n
    · subst z; simp only [if_true]; rw [b1 j hj]; exact hM j hj
    · simp only [z, if_false]; rw [b2 _ (by omega)]; exact h.2 i (by omega) j hj
  · rw [st_up_ne _ _ _ h2, b3 i h1]
  · rw [up_n _ _ (Or.inr hj), b3 65 (by decide)]
theorem s7_act {σ : St} {n : Nat} {S : Nat → Fn} {F : Fn} {k : St → Prop} (hn : n ≤ 24) (h : SnapR σ n S) (hM : StM 70 0 σ F) (hk : ∀ σ', SnapR σ' (min (n + 1) 24) (psh n S F) → (∀ i, i ≠ 75 → i ≠ 65 → σ' i = σ i) → (∀ j, j ≠ 18 → σ' 65 j = σ 65 j) → k σ') : x7_act σ k := by
  unfold x7_act
  rw [h.1]
  by_cases q : n < 24
  · rw [if_neg (by rw [show (24 : Int32) = nI 24 from rfl, nI_eq (by omega) (by decide)]; omega)]
    refine s7_act_49 h hM q (fun σ' a1 a2 a3 => hk σ' ?_ a2 a3)
    rw [show min (n + 1) 24 = n + 1 by omega]
    unfold psh
    rw [if_pos q]; exact a1
  · have hn' : n = 24 := by omega
    subst hn'
    rw [if_pos (by decide)]
    have key : ∀ m c τ, c ≤ 1219 → 1219 < c + m → (∀ q, q < c → τ 75 q = σ 75 (q + 53)) → (∀ q, c ≤ q → τ 75 q = σ 75 q) → (∀ i, i ≠ 75 → τ i = σ i) → x7_act_11 k m (nI c) τ := by
      intro m
      induction m with
      | zero => intro c τ h1 h2; omega
      | succ m ih =>
        intro c τ h1 h2 a1 a2 a3
        unfold x7_act_11 lt
        simp (disch := omega) only [lI, nI_add, pk_mul, nI_leI, nI_ltI, nI_eq, nI_clamp, vpI, pk_sub, isB0, isB1, show ln 75 = 1272 from rfl]
        by_cases q : 1219 ≤ c
        · rw [if_pos q]
          rw [a3 65 (by decide), h.1, pk_sub (by decide)]
          refine s7_act_49 (n := 23) (S := fun i => S (i + 1)) (F := F) ⟨by rw [up_s], fun i hi j hj => ?_⟩ ?_ (by decide) (fun σ' b1 b2 b3 => hk σ' ?_ ?_ ?_)
          · rw [st_up_ne _ _ _ (by decide), a1 _ (by omega), show 53 * i + j + 53 = 53 * (i + 1) + j by omega]
            exact h.2 (i + 1) (by omega) j hj
          · exact hM.cell (by rw [st_up_ne _ _ _ (by decide), a3 70 (by decide)])
          · unfold psh
            rw [if_neg (by decide)]
            exact b1
          · intro i h1 h2; rw [b2 i h1 h2, st_up_ne _ _ _ h2, a3 i h1]
          · intro j hj; rw [b3 j hj, up_n _ _ (Or.inr hj), a3 65 (by decide)]
        · rw [if_neg q]
          refine ⟨by omega, by omega, ih (c + 1) _ (by omega) (by omega) ?_ ?_ ?_⟩
          · intro q hq
            by_cases z : q = c
            · subst z; rw [up_s]; exact a2 _ (by omega)
            · rw [up_n _ _ (Or.inr z)]; exact a1 q (by omega)
          · intro q hq; rw [up_n _ _ (Or.inr (by omega))]; exact a2 q (by omega)
          · intro i hi; rw [st_up_ne _ _ _ hi]; exact a3 i hi
    exact ⟨1220, key 1220 0 σ (by decide) (by decide) (fun q hq => absurd hq (Nat.not_lt_zero _)) (fun _ _ => rfl) (fun _ _ => rfl)⟩
