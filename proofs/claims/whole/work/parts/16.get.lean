/-! WHAT IS READ -/
def cat (F : Fn) (d : Nat) : Nat := mskL (fun c => decide (F (41 + c) = d)) (F 3)
theorem has_ne0 {x : Int32} {n : Nat} (h : ¬ has x (n + 1)) : ¬ x = 0 := fun e => h ⟨0, by omega, e⟩
theorem has_ne1 {x : Int32} {n : Nat} (h : ¬ has x (n + 2)) : ¬ x = 1 := fun e => h ⟨1, by omega, e⟩
section GET
variable {σ : St} {F : Fn} {k : Int32 → St → Prop}
theorem in_has_t {n j : Nat} (hj : j < n) (hn : n < 2 ^ 31) (h : k (nI 1) σ) : x7_in (nI j) 0 (nI n - 1) σ k :=
  in_t (nI_pos (by omega)) (by rw [le_pred hn]; exact nI_ge hj hn) h
theorem in_has_f {n : Nat} {x : Int32} (hn : n < 2 ^ 31) (hx : ¬ has x n) (h : k (nI 0) σ) : x7_in x 0 (nI n - 1) σ k :=
  in_f (by rw [le_pred hn]; exact has_no hn hx) h
theorem in_lit_t {m j : Nat} (hj : j ≤ m) (hm : m < 2 ^ 30) (h : k (nI 1) σ) : x7_in (nI j) 0 (nI m) σ k :=
  in_t (nI_pos (by omega)) (by rw [nI_ltI (by omega) (by omega)]; omega) h
theorem in_lit_f {m : Nat} {x : Int32} (hm : m < 2 ^ 30) (hx : ¬ has x (m + 1)) (h : k (nI 0) σ) : x7_in x 0 (nI m) σ k := by
  refine in_f ?_ h
  rcases has_no (by omega) hx with q | q
  · exact Or.inl q
  · right
    have : nI m < nI (m + 1) := nI_lt (by omega) (by omega)
    exact Int32.lt_of_lt_of_le this q
theorem s6_isBit_t {j : Nat} (hj : j < 2) (h : k (nI 1) σ) : x6_isBit (nI j) σ k := by
  unfold x6_isBit x6_isBit_9 x6_isBit_14
  rcases (show j = 0 ∨ j = 1 by omega) with rfl | rfl
  · rw [if_pos (by decide)]; exact ⟨Or.inr rfl, h⟩
  · rw [if_neg (by decide), if_pos (by decide)]; exact ⟨Or.inr rfl, h⟩
theorem s6_isBit_f {x : Int32} (hx : ¬ has x 2) (h : k (nI 0) σ) : x6_isBit x σ k := by
  unfold x6_isBit x6_isBit_9 x6_isBit_14
  rw [if_neg (has_ne0 hx), if_neg (has_ne1 hx)]
  exact ⟨Or.inl rfl, h⟩
theorem l70 : ln 70 = 53 := rfl
theorem vq {j : Nat} (h : j < 53) : vp_in (nI j) (ln 70) := (vpI (by omega)).mpr h
theorem m70 (hM : StM 70 0 σ F) {j : Nat} (h : j < 53) : σ 70 j = nI (F j) := by have := hM j h; rwa [Nat.zero_add] at this
theorem s7_isStreet_t (hM : StM 70 0 σ F) (hF : WF F) (h0 : 0 < F 2) (h : k (nI 1) σ) : x7_isStreet σ k := by
  unfold x7_isStreet x7_isStreet_14
  refine ⟨vq (j := 2) (by decide), ?_⟩
  show if σ 70 2 ≤ 0 then _ else _
  rw [m70 hM (by decide), if_neg (nI_nle h0 (by have := hF.2.2.2.1; omega))]
  exact ⟨Or.inr rfl, h⟩
theorem s7_isStreet_f (hM : StM 70 0 σ F) (h0 : F 2 = 0) (h : k (nI 0) σ) : x7_isStreet σ k := by
  unfold x7_isStreet x7_isStreet_14
  refine ⟨vq (j := 2) (by decide), ?_⟩
  show if σ 70 2 ≤ 0 then _ else _
  rw [m70 hM (by decide), h0, if_pos (by decide)]
  exact ⟨Or.inl rfl, h⟩
theorem s7_isDoorAt_t {j : Nat} (hM : StM 70 0 σ F) (hF : WF F) (hj : j < F 2) (h : k (nI 1) σ) : x7_isDoorAt (nI j) σ k := by
  unfold x7_isDoorAt
  refine ⟨vq (j := 2) (by decide), ?_⟩
  show x7_in (nI j) 0 (σ 70 2 - 1) σ _
  rw [m70 hM (by decide)]
  exact in_has_t hj (by have := hF.2.2.2.1; omega) ⟨Or.inr rfl, h⟩
theorem s7_isDoorAt_f {x : Int32} (hM : StM 70 0 σ F) (hF : WF F) (hx : ¬ has x (F 2)) (h : k (nI 0) σ) : x7_isDoorAt x σ k := by
  unfold x7_isDoorAt
  refine ⟨vq (j := 2) (by decide), ?_⟩
  show x7_in x 0 (σ 70 2 - 1) σ _
  rw [m70 hM (by decide)]
  exact in_has_f (by have := hF.2.2.2.1; omega) hx ⟨Or.inl rfl, h⟩
theorem s7_isOne_t {j : Nat} (hM : StM 70 0 σ F) (hF : WF F) (hj : j < F 3) (h : k (nI 1) σ) : x7_isOne (nI j) σ k := by
  unfold x7_isOne
  refine ⟨vq (j := 3) (by decide), ?_⟩
  show x7_in (nI j) 0 (σ 70 3 - 1) σ _
  rw [m70 hM (by decide)]
  exact in_has_t hj (by have := hF.2.2.2.2.1; omega) ⟨Or.inr rfl, h⟩
theorem s7_isOne_f {x : Int32} (hM : StM 70 0 σ F) (hF : WF F) (hx : ¬ has x (F 3)) (h : k (nI 0) σ) : x7_isOne x σ k := by
  unfold x7_isOne
  refine ⟨vq (j := 3) (by decide), ?_⟩
  show x7_in x 0 (σ 70 3 - 1) σ _
  rw [m70 hM (by decide)]
  exact in_has_f (by have := hF.2.2.2.2.1; omega) hx ⟨Or.inl rfl, h⟩
theorem s7_callersAt_4 (hM : StM 70 0 σ F) (hF : WF F) {d : Nat} (hd' : d < 2 ^ 30) (h : k (nI (cat F d)) σ) : ∀ n c, c ≤ F 3 → F 3 < c + n → x7_callersAt_4 (nI d) k n (nI (mskL (fun c => decide (F (41 + c) = d)) c)) (nI c) σ := by
  have h63 : F 3 ≤ 6 := hF.2.2.2.2.1
  intro n
  induction n with
  | zero => intro c h1 h2; omega
  | succ n ih =>
    intro c h1 h2
    unfold x7_callersAt_4 x7_callersAt_35 lt
    simp (disch := omega) only [lI, nI_add, pk_mul, nI_leI, nI_ltI, nI_eq, nI_clamp, vpI, pk_sub, isB0, isB1, l70, m70 hM]
    refine ⟨by omega, ?_⟩
    by_cases q : F 3 ≤ c
    · rw [if_pos q]
      have : c = F 3 := by omega
      subst this; exact h
    · rw [if_neg q]
      have hb := hF.1 (41 + c) (by omega)
      simp (disch := omega) only [lI, nI_add, pk_mul, nI_leI, nI_ltI, nI_eq, nI_clamp, vpI, pk_sub, isB0, isB1]
      refine ⟨by omega, ?_⟩
      have hlt := mskL_64 (fun c => decide (F (41 + c) = d)) (n := c) (by omega)
      have hp : 2 ^ c < 64 := Nat.pow_lt_pow_right (n := 6) (by decide) (by omega)
      have ih' := ih (c + 1) (by omega) (by omega)
      unfold mskL at ih'
      by_cases hm : F (41 + c) = d
      · rw [if_pos hm, shl1 c (by omega), orI _ hlt _ hp]
        rwa [if_pos (by simpa using hm)] at ih'
      · rw [if_neg hm, orI _ hlt _ (by decide), Nat.or_zero]
        rwa [if_neg (by simpa using hm)] at ih'
theorem s7_callersAt (hM : StM 70 0 σ F) (hF : WF F) {d : Nat} (hd' : d < 2 ^ 30) (h : k (nI (cat F d)) σ) : x7_callersAt (nI d) σ k := by
  unfold x7_callersAt
  exact ⟨8, s7_callersAt_4 hM hF hd' h 8 0 (Nat.zero_le _) (by have := hF.2.2.2.2.1; omega)⟩
theorem s5_callersAt_4 {b : Nat} (hb : kd b = 5) (hS : StC b σ F) (hF : WF F) {d : Nat} (hd' : d < 2 ^ 30) (h : k (nI (cat F d)) σ) : ∀ n c, c ≤ F 3 → F 3 < c + n → x5_callersAt_4 b (nI d) k n (nI (mskL (fun c => decide (F (41 + c) = d)) c)) (nI c) σ := by
  have h63 : F 3 ≤ 6 := hF.2.2.2.2.1
  intro n
  induction n with
  | zero => intro c h1 h2; omega
  | succ n ih =>
    intro c h1 h2
    unfold x5_callersAt_4 x5_callersAt_28 lt
    rw [hS.2.1]
    simp (disch := omega) only [lI, nI_add, pk_mul, nI_leI, nI_ltI, nI_eq, nI_clamp, vpI, pk_sub, isB0, isB1]
    by_cases q : F 3 ≤ c
    · rw [if_pos q]
      have : c = F 3 := by omega
      subst this; exact h
    · rw [if_neg q]
      have hb' := hF.1 (41 + c) (by omega)
      rw [(hS.2.2.2.2.2.2 c (by omega)).2.1]
      simp (disch := omega) only [lI, nI_add, pk_mul, nI_leI, nI_ltI, nI_eq, nI_clamp, vpI, pk_sub, isB0, isB1, n5_6 hb]
      refine ⟨by omega, ?_⟩
      have hlt := mskL_64 (fun c => decide (F (41 + c) = d)) (n := c) (by omega)
      have hp : 2 ^ c < 64 := Nat.pow_lt_pow_right (n := 6) (by decide) (by omega)
      have ih' := ih (c + 1) (by omega) (by omega)
      unfold mskL at ih'
      by_cases hm : F (41 + c) = d
      · rw [if_pos hm, shl1 c (by omega), orI _ hlt _ hp]
        rwa [if_pos (by simpa using hm)] at ih'
      · rw [if_neg hm]
        rwa [if_neg (by simpa using hm)] at ih'
theorem s5_callersAt {b : Nat} (hb : kd b = 5) (hS : StC b σ F) (hF : WF F) {d : Nat} (hd' : d < 2 ^ 30) (h : k (nI (cat F d)) σ) : x5_callersAt b (nI d) σ k := by
  unfold x5_callersAt
  exact ⟨8, s5_callersAt_4 hb hS hF hd' h 8 0 (Nat.zero_le _) (by have := hF.2.2.2.2.1; omega)⟩
theorem s7_secondsUsed (hM : StM 70 0 σ F) (hF : WF F) (h : k (nI (smL (fun d => F (11 + d)) (F 2))) σ) : x7_secondsUsed σ k := by
  have key : ∀ n c, c ≤ 6 → 6 < c + n → x7_secondsUsed_4 k n (nI (smL (fun d => F (11 + d)) c)) (nI c) σ := by
    intro n
    induction n with
    | zero => intro c h1 h2; omega
    | succ n ih =>
      intro c h1 h2
      unfold x7_secondsUsed_4 lt
      simp (disch := omega) only [lI, nI_add, pk_mul, nI_leI, nI_ltI, nI_eq, nI_clamp, vpI, pk_sub, isB0, isB1, l70, m70 hM]
      by_cases q : 6 ≤ c
      · rw [if_pos q]
        have : c = 6 := by omega
        subst this
        rwa [smL_zero (m := F 2) 6 hF.2.2.2.1 (fun i h1 h2 => (hF.2.2.2.2.2.2.1 i h2 h1).1)]
      · rw [if_neg q]
        exact ⟨by omega, ih (c + 1) (by omega) (by omega)⟩
  unfold x7_secondsUsed
  exact ⟨7, key 7 0 (by decide) (by decide)⟩
theorem smL_add (g g' : Nat → Nat) : ∀ n, smL (fun i => g i + g' i) n = smL g n + smL g' n := by
  intro n
  induction n with
  | zero => rfl
  | succ n ih => simp only [smL, ih]; omega
theorem s7_soundsUsed (hM : StM 70 0 σ F) (hF : WF F) (h : k (nI (smL (fun d => F (17 + d)) (F 2) + smL (fun d => F (23 + d)) (F 2))) σ) : x7_soundsUsed σ k := by
  have key : ∀ n c, c ≤ 6 → 6 < c + n → x7_soundsUsed_4 k n (nI (smL (fun d => F (17 + d) + F (23 + d)) c)) (nI c) σ := by
    intro n
    induction n with
    | zero => intro c h1 h2; omega
    | succ n ih =>
      intro c h1 h2
      unfold x7_soundsUsed_4 lt
      simp (disch := omega) only [lI, nI_add, pk_mul, nI_leI, nI_ltI, nI_eq, nI_clamp, vpI, pk_sub, isB0, isB1, l70, m70 hM]
      by_cases q : 6 ≤ c
      · rw [if_pos q]
        have : c = 6 := by omega
        subst this
        rw [smL_add, smL_zero (m := F 2) 6 hF.2.2.2.1 (fun i h1 h2 => (hF.2.2.2.2.2.2.1 i h2 h1).2.1), smL_zero (m := F 2) 6 hF.2.2.2.1 (fun i h1 h2 => (hF.2.2.2.2.2.2.1 i h2 h1).2.2)]
        exact h
      · rw [if_neg q]
        exact ⟨by omega, by omega, ih (c + 1) (by omega) (by omega)⟩
  unfold x7_soundsUsed
  exact ⟨7, key 7 0 (by decide) (by decide)⟩
end GET
theorem sp6 : Sp6 Rel := fun σ hR => ⟨hR.2.2.1, hR⟩
theorem sp32 : Sp32 Rel := fun σ hR => ⟨hR.2.1, hR⟩
theorem sp14 : Sp14 Rel := by
  intro σ hR
  obtain ⟨F, ⟨hF, h4, hC, hM⟩, hI, n, nx, S, hA⟩ := hR.2.2.2.2.2
  unfold x6_meets x6_meets_22 x7_meets x7_meets_19
  rcases Nat.eq_zero_or_pos (F 2) with h0 | h0
  · refine s5_isTold_f (by rw [hC.1, h0]) ?_
    show if _ then _ else _
    rw [if_pos (by decide)]
    refine s7_isStreet_f hM h0 ?_
    show if _ then _ else _
    rw [if_pos (by decide)]
    exact ⟨rfl, hR⟩
  · refine s5_isTold_t hC.1 ⟨h0, hF.2.2.2.1⟩ ?_
    show if _ then _ else _
    rw [if_neg (by decide)]
    refine s5_meetingNow rfl hC hF ?_
    refine s7_isStreet_t hM hF h0 ?_
    show if _ then _ else _
    rw [if_neg (by decide)]
    exact s7_meetersOf rfl hM hF ⟨rfl, hR⟩
theorem sp13 : Sp13 Rel := by
  intro a σ hR
  obtain ⟨F, ⟨hF, h4, hC, hM⟩, hI, n, nx, S, hA⟩ := hR.2.2.2.2.2
  unfold x6_used x6_used_44 x7_used x7_used_35
  rcases Nat.eq_zero_or_pos (F 2) with h0 | h0
  · refine s5_isTold_f (by rw [hC.1, h0]) ?_
    show if _ then _ else _
    rw [if_pos (by decide)]
    refine s7_isStreet_f hM h0 ?_
    show if _ then _ else _
    rw [if_pos (by decide)]
    exact ⟨rfl, hR⟩
  · refine s5_isTold_t hC.1 ⟨h0, hF.2.2.2.1⟩ ?_
    show if _ then _ else _
    rw [if_neg (by decide)]
    by_cases ha : has a 2
    · obtain ⟨j, hj, rfl⟩ := ha
      refine s6_isBit_t hj ?_
      show if _ then _ else _
      rw [if_neg (by decide)]
      rcases (show j = 0 ∨ j = 1 by omega) with rfl | rfl
      · rw [if_pos (by decide)]
        refine s5_usedSeconds rfl hC hF ?_
        refine s7_isStreet_t hM hF h0 ?_
        show if _ then _ else _
        rw [if_neg (by decide), if_pos (by decide)]
        exact s7_secondsUsed hM hF ⟨rfl, hR⟩
      · rw [if_neg (by decide)]
        refine s5_usedSounds rfl hC hF ?_
        refine s7_isStreet_t hM hF h0 ?_
        show if _ then _ else _
        rw [if_neg (by decide), if_neg (by decide), if_pos (by decide)]
        exact s7_soundsUsed hM hF ⟨rfl, hR⟩
    · refine s6_isBit_f ha ?_
      show if _ then _ else _
      rw [if_pos (by decide)]
      refine s7_isStreet_t hM hF h0 ?_
      show if _ then _ else _
      rw [if_neg (by decide), if_neg (has_ne0 ha), if_neg (has_ne1 ha)]
      exact ⟨rfl, hR⟩
theorem sp27 : Sp27 Rel := by
  intro a σ hR
  obtain ⟨F, ⟨hF, h4, hC, hM⟩, hI, n, nx, S, hA⟩ := hR.2.2.2.2.2
  have h63 := hF.2.2.2.2.1
  unfold x6_kind x6_kind_25 x7_kind x7_kind_18 x7_kindOf
  by_cases ha : has a (F 3)
  · obtain ⟨j, hj, rfl⟩ := ha
    refine s5_hasCaller_t hC.2.1 h63 hj ?_
    show if _ then _ else _
    rw [if_neg (by decide)]
    simp (disch := omega) only [lI, nI_add, pk_mul, nI_leI, nI_ltI, nI_eq, nI_clamp, vpI, pk_sub, isB0, isB1]
    refine ⟨by show j < 6; omega, s7_isOne_t hM hF hj ?_⟩
    show if _ then _ else _
    rw [if_neg (by decide)]
    simp (disch := omega) only [lI, nI_add, pk_mul, nI_leI, nI_ltI, nI_eq, nI_clamp, vpI, pk_sub, isB0, isB1, l70, m70 hM]
    exact ⟨by omega, (hC.2.2.2.2.2.2 j hj).1, hR⟩
  · refine s5_hasCaller_f hC.2.1 h63 ha ?_
    show if _ then _ else _
    rw [if_pos (by decide)]
    refine s7_isOne_f hM hF ha ?_
    show if _ then _ else _
    rw [if_pos (by decide)]
    exact ⟨rfl, hR⟩
def vCal (F : Fn) (j : Nat) (b : Int32) : Int32 := if b = 0 then nI (F (41 + j)) else if b = 1 then nI (F (35 + j)) else if b = 2 then nI (syk (F (29 + j)) (F (35 + j)) (F (11 + F (41 + j))) (F (17 + F (41 + j))) (hd F (F (41 + j)))) else if b = 3 then nI (if mt F j then 1 else 0) else if b = 4 then nI (F (47 + j)) else -1000001
def vDoo (F : Fn) (d : Nat) (b : Int32) : Int32 := if b = 0 then nI (F (5 + d)) else if b = 1 then nI (F (11 + d)) else if b = 2 then nI (F (17 + d)) else if b = 3 then nI (F (23 + d)) else if b = 4 then nI (hd F d) else if b = 5 then nI (op F d) else if b = 6 then nI (cat F d) else -1000001
/-- the first door that opens on nothing -/
def vNot (F : Fn) : Nat → Nat → Int32
  | 0, _ => -1000000
  | n + 1, d => if cat F d ≠ 0 ∧ (cat F d &&& mts F) = 0 then nI d else vNot F n (d + 1)
section GET2
variable {σ : St} {F : Fn} {k : Int32 → St → Prop}
theorem s6_caller (hC : StC 19 σ F) (hF : WF F) {j : Nat} (hj : j < F 3) (b : Int32) (h : k (vCal F j b) σ) : x6_caller (nI j) b σ k := by
  have h63 := hF.2.2.2.2.1
  have ec := hC.2.2.2.2.2.2 j hj
  unfold x6_caller x6_caller_93
  refine s5_hasCaller_t hC.2.1 h63 hj ?_
  show if _ then _ else _
  rw [if_neg (by decide)]
  simp (disch := omega) only [nI_clamp, vpI]
  unfold vCal at h
  by_cases b0 : b = 0
  · rw [if_pos b0] at h ⊢; rw [← ec.2.1] at h; exact ⟨by show j < 6; omega, h⟩
  rw [if_neg b0] at h ⊢
  by_cases b1 : b = 1
  · rw [if_pos b1] at h ⊢; rw [← ec.2.2.1] at h; exact ⟨by show j < 6; omega, h⟩
  rw [if_neg b1] at h ⊢
  by_cases b2 : b = 2
  · rw [if_pos b2] at h ⊢; exact s5_staysHowLong rfl hC hF hj h
  rw [if_neg b2] at h ⊢
  by_cases b3 : b = 3
  · rw [if_pos b3] at h ⊢
    refine s5_isMeeting rfl hC hF hj ?_
    show if _ then _ else _
    cases hm : mt F j with
    | true => rw [hm] at h; rw [if_neg (by decide)]; exact h
    | false => rw [hm] at h; rw [if_pos (by decide)]; exact h
  rw [if_neg b3] at h ⊢
  by_cases b4 : b = 4
  · rw [if_pos b4] at h ⊢; rw [← ec.2.2.2] at h; exact ⟨by show j < 6; omega, h⟩
  rw [if_neg b4] at h ⊢
  exact h
theorem s7_caller (hM : StM 70 0 σ F) (hF : WF F) {j : Nat} (hj : j < F 3) (b : Int32) (h : k (vCal F j b) σ) : x7_caller (nI j) b σ k := by
  have h63 := hF.2.2.2.2.1
  unfold x7_caller x7_caller_93
  refine s7_isOne_t hM hF hj ?_
  show if _ then _ else _
  rw [if_neg (by decide)]
  have e41 : (41 + nI j).toNatClampNeg = 41 + j := by rw [show (41 : Int32) = nI 41 from rfl, nI_add, nI_clamp (by omega)]
  have e35 : (35 + nI j).toNatClampNeg = 35 + j := by rw [show (35 : Int32) = nI 35 from rfl, nI_add, nI_clamp (by omega)]
  have e47 : (47 + nI j).toNatClampNeg = 47 + j := by rw [show (47 : Int32) = nI 47 from rfl, nI_add, nI_clamp (by omega)]
  have v41 : vp_in (41 + nI j) (ln 70) := by rw [show (41 : Int32) = nI 41 from rfl, nI_add]; exact vq (by omega)
  have v35 : vp_in (35 + nI j) (ln 70) := by rw [show (35 : Int32) = nI 35 from rfl, nI_add]; exact vq (by omega)
  have v47 : vp_in (47 + nI j) (ln 70) := by rw [show (47 : Int32) = nI 47 from rfl, nI_add]; exact vq (by omega)
  rw [e41, e35, e47, m70 hM (by omega), m70 hM (by omega), m70 hM (by omega)]
  unfold vCal at h
  by_cases b0 : b = 0
  · rw [if_pos b0] at h ⊢; exact ⟨v41, h⟩
  rw [if_neg b0] at h ⊢
  by_cases b1 : b = 1
  · rw [if_pos b1] at h ⊢; exact ⟨v35, h⟩
  rw [if_neg b1] at h ⊢
  by_cases b2 : b = 2
  · rw [if_pos b2] at h ⊢; exact s7_staysOf rfl hM hF hj h
  rw [if_neg b2] at h ⊢
  by_cases b3 : b = 3
  · rw [if_pos b3] at h ⊢
    refine s7_doesMeet rfl hM hF hj ?_
    show if _ then _ else _
    cases hm : mt F j with
    | true => rw [hm] at h; rw [if_neg (by decide)]; exact h
    | false => rw [hm] at h; rw [if_pos (by decide)]; exact h
  rw [if_neg b3] at h ⊢
  by_cases b4 : b = 4
  · rw [if_pos b4] at h ⊢; exact ⟨v47, h⟩
  rw [if_neg b4] at h ⊢
  exact h
theorem s6_door (hC : StC 19 σ F) (hF : WF F) {j : Nat} (hj : j < F 2) (b : Int32) (h : k (vDoo F j b) σ) : x6_door (nI j) b σ k := by
  have h6 := hF.2.2.2.1
  have ec := hC.2.2.2.2.2.1 j hj
  unfold x6_door
  refine s5_hasDoor_t hC.1 h6 hj ?_
  show if _ then _ else _
  rw [if_neg (by decide)]
  simp (disch := omega) only [nI_clamp, vpI]
  unfold vDoo at h
  by_cases b0 : b = 0
  · rw [if_pos b0] at h ⊢; rw [← ec.1] at h; exact ⟨by show j < 6; omega, h⟩
  rw [if_neg b0] at h ⊢
  by_cases b1 : b = 1
  · rw [if_pos b1] at h ⊢; rw [← ec.2.1] at h; exact ⟨by show j < 6; omega, h⟩
  rw [if_neg b1] at h ⊢
  by_cases b2 : b = 2
  · rw [if_pos b2] at h ⊢; rw [← ec.2.2.1] at h; exact ⟨by show j < 6; omega, h⟩
  rw [if_neg b2] at h ⊢
  by_cases b3 : b = 3
  · rw [if_pos b3] at h ⊢; rw [← ec.2.2.2] at h; exact ⟨by show j < 6; omega, h⟩
  rw [if_neg b3] at h ⊢
  by_cases b4 : b = 4
  · rw [if_pos b4] at h ⊢; exact s5_heardAt rfl hC hF hj h
  rw [if_neg b4] at h ⊢
  by_cases b5 : b = 5
  · rw [if_pos b5] at h ⊢; exact s5_opensBehind rfl hC hF hj h
  rw [if_neg b5] at h ⊢
  by_cases b6 : b = 6
  · rw [if_pos b6] at h ⊢; exact s5_callersAt rfl hC hF (by omega) h
  rw [if_neg b6] at h ⊢
  exact h
theorem s7_door (hM : StM 70 0 σ F) (hF : WF F) {j : Nat} (hj : j < F 2) (b : Int32) (h : k (vDoo F j b) σ) : x7_door (nI j) b σ k := by
  have h6 := hF.2.2.2.1
  unfold x7_door x7_door_111
  refine s7_isDoorAt_t hM hF hj ?_
  show if _ then _ else _
  rw [if_neg (by decide)]
  have ix : ∀ q, q < 53 - 6 → (nI q + nI j).toNatClampNeg = q + j ∧ vp_in (nI q + nI j) (ln 70) := fun q hq => by rw [nI_add, nI_clamp (by omega)]; exact ⟨rfl, vq (by omega)⟩
  rw [show (5 : Int32) + nI j = nI 5 + nI j from rfl, show (11 : Int32) + nI j = nI 11 + nI j from rfl, show (17 : Int32) + nI j = nI 17 + nI j from rfl, show (23 : Int32) + nI j = nI 23 + nI j from rfl, (ix 5 (by decide)).1, (ix 11 (by decide)).1, (ix 17 (by decide)).1, (ix 23 (by decide)).1, m70 hM (by omega), m70 hM (by omega), m70 hM (by omega), m70 hM (by omega)]
  unfold vDoo at h
  by_cases b0 : b = 0
  · rw [if_pos b0] at h ⊢; exact ⟨(ix 5 (by decide)).2, h⟩
  rw [if_neg b0] at h ⊢
  by_cases b1 : b = 1
  · rw [if_pos b1] at h ⊢; exact ⟨(ix 11 (by decide)).2, h⟩
  rw [if_neg b1] at h ⊢
  by_cases b2 : b = 2
  · rw [if_pos b2] at h ⊢; exact ⟨(ix 17 (by decide)).2, h⟩
  rw [if_neg b2] at h ⊢
  by_cases b3 : b = 3
  · rw [if_pos b3] at h ⊢; exact ⟨(ix 23 (by decide)).2, h⟩
  rw [if_neg b3] at h ⊢
  by_cases b4 : b = 4
  · rw [if_pos b4] at h ⊢
    refine s7_isHeard rfl hM hF hj ?_
    show if _ then _ else _
    rcases hd_01 F j with e | e
    · rw [e] at h ⊢; rw [if_pos (by decide)]; exact h
    · rw [e] at h ⊢; rw [if_neg (by decide)]; exact h
  rw [if_neg b4] at h ⊢
  by_cases b5 : b = 5
  · rw [if_pos b5] at h ⊢; exact s7_opensOf rfl hM hF hj h
  rw [if_neg b5] at h ⊢
  by_cases b6 : b = 6
  · rw [if_pos b6] at h ⊢; exact s7_callersAt hM hF (by omega) h
  rw [if_neg b6] at h ⊢
  exact h
theorem s5_nothing_7 (hC : StC 19 σ F) (hF : WF F) : ∀ n d, d ≤ F 2 → F 2 = d + n → k (vNot F n d) σ → x5_firstOnNothing_7 19 k (n + 1) (nI (mts F)) (nI d) σ := by
  have h6 := hF.2.2.2.1
  have h63 := hF.2.2.2.2.1
  intro n
  induction n with
  | zero =>
    intro d h1 h2 h
    unfold x5_firstOnNothing_7
    rw [hC.1, if_pos (nI_le (by omega) (by omega))]
    exact h
  | succ n ih =>
    intro d h1 h2 h
    unfold x5_firstOnNothing_7 x5_firstOnNothing_33
    rw [hC.1, if_neg (nI_ge (by omega) (by omega))]
    refine s5_callersAt rfl hC hF (by omega) ?_
    have b1 : cat F d < 64 := mskL_64 _ h63
    have b2 : mts F < 64 := mskL_64 _ h63
    have b3 : cat F d &&& mts F < 64 := Nat.lt_of_le_of_lt Nat.and_le_left b1
    simp (disch := omega) only [lI, nI_add, andI _ b1 _ b2, nI_eq]
    unfold vNot at h
    by_cases c1 : cat F d = 0
    · rw [if_pos c1]
      rw [if_neg (fun z => z.1 c1)] at h
      exact ih (d + 1) (by omega) (by omega) h
    · rw [if_neg c1]
      by_cases c2 : cat F d &&& mts F = 0
      · rw [if_pos c2]; rwa [if_pos ⟨c1, c2⟩] at h
      · rw [if_neg c2]
        rw [if_neg (fun z => c2 z.2)] at h
        exact ih (d + 1) (by omega) (by omega) h
theorem s7_nothing_20 (hM : StM 70 0 σ F) (hF : WF F) : ∀ n d, d ≤ F 2 → F 2 = d + n → k (vNot F n d) σ → x7_nothing_20 k (n + 1) (nI (mts F)) (nI d) σ := by
  have h6 := hF.2.2.2.1
  have h63 := hF.2.2.2.2.1
  intro n
  induction n with
  | zero =>
    intro d h1 h2 h
    unfold x7_nothing_20
    refine ⟨vq (j := 2) (by decide), ?_⟩
    show if σ 70 2 ≤ _ then _ else _
    rw [m70 hM (by decide), if_pos (nI_le (by omega) (by omega))]
    exact h
  | succ n ih =>
    intro d h1 h2 h
    unfold x7_nothing_20 x7_nothing_48
    refine ⟨vq (j := 2) (by decide), ?_⟩
    show if σ 70 2 ≤ _ then _ else _
    rw [m70 hM (by decide), if_neg (nI_ge (by omega) (by omega))]
    refine s7_callersAt hM hF (by omega) ?_
    have b1 : cat F d < 64 := mskL_64 _ h63
    have b2 : mts F < 64 := mskL_64 _ h63
    have b3 : cat F d &&& mts F < 64 := Nat.lt_of_le_of_lt Nat.and_le_left b1
    simp (disch := omega) only [lI, nI_add, andI _ b1 _ b2, nI_eq]
    unfold vNot at h
    by_cases c1 : cat F d = 0
    · rw [if_pos c1]
      rw [if_neg (fun z => z.1 c1)] at h
      exact ih (d + 1) (by omega) (by omega) h
    · rw [if_neg c1]
      by_cases c2 : cat F d &&& mts F = 0
      · rw [if_pos c2]; rwa [if_pos ⟨c1, c2⟩] at h
      · rw [if_neg c2]
        rw [if_neg (fun z => c2 z.2)] at h
        exact ih (d + 1) (by omega) (by omega) h
end GET2
theorem sp12 : Sp12 Rel := by
  intro a b σ hR
  obtain ⟨F, ⟨hF, h4, hC, hM⟩, hI, n, nx, S, hA⟩ := hR.2.2.2.2.2
  by_cases ha : has a (F 3)
  · obtain ⟨j, hj, rfl⟩ := ha
    exact s6_caller hC hF hj b (s7_caller hM hF hj b ⟨rfl, hR⟩)
  · unfold x6_caller x7_caller
    refine s5_hasCaller_f hC.2.1 hF.2.2.2.2.1 ha ?_
    show if _ then _ else _
    rw [if_pos (by decide)]
    refine s7_isOne_f hM hF ha ?_
    show if _ then _ else _
    rw [if_pos (by decide)]
    exact ⟨rfl, hR⟩
theorem sp11 : Sp11 Rel := by
  intro a b σ hR
  obtain ⟨F, ⟨hF, h4, hC, hM⟩, hI, n, nx, S, hA⟩ := hR.2.2.2.2.2
  by_cases ha : has a (F 2)
  · obtain ⟨j, hj, rfl⟩ := ha
    exact s6_door hC hF hj b (s7_door hM hF hj b ⟨rfl, hR⟩)
  · unfold x6_door x7_door
    refine s5_hasDoor_f hC.1 hF.2.2.2.1 ha ?_
    show if _ then _ else _
    rw [if_pos (by decide)]
    refine s7_isDoorAt_f hM hF ha ?_
    show if _ then _ else _
    rw [if_pos (by decide)]
    exact ⟨rfl, hR⟩
theorem sp15 : Sp15 Rel := by
  intro σ hR
  obtain ⟨F, ⟨hF, h4, hC, hM⟩, hI, n, nx, S, hA⟩ := hR.2.2.2.2.2
  unfold x6_nothing x6_nothing_22 x7_nothing
  rcases Nat.eq_zero_or_pos (F 2) with h0 | h0
  · refine s5_isTold_f (by rw [hC.1, h0]) ?_
    show if _ then _ else _
    rw [if_pos (by decide)]
    refine s7_isStreet_f hM h0 ?_
    show if _ then _ else _
    rw [if_pos (by decide)]
    exact ⟨rfl, hR⟩
  · refine s5_isTold_t hC.1 ⟨h0, hF.2.2.2.1⟩ ?_
    show if _ then _ else _
    rw [if_neg (by decide)]
    unfold x5_firstOnNothing
    refine s5_meetingNow rfl hC hF ⟨F 2 + 1, ?_⟩
    refine s5_nothing_7 hC hF (F 2) 0 (Nat.zero_le _) (by omega) ?_
    refine s7_isStreet_t hM hF h0 ?_
    show if _ then _ else _
    rw [if_neg (by decide)]
    refine s7_meetersOf rfl hM hF ⟨F 2 + 1, ?_⟩
    exact s7_nothing_20 hM hF (F 2) 0 (Nat.zero_le _) (by omega) ⟨rfl, hR⟩
theorem sp30 : Sp30 Rel := by
  intro a σ hR
  obtain ⟨n, hn, h1, h2, h3⟩ := hR.2.2.2.2.1
  by_cases ha : has a n
  · obtain ⟨j, hj, rfl⟩ := ha
    unfold x6_trace x6_trace_27 x6_trace_29 x7_trace x7_trace_25
    rw [h1, if_neg (nI_pos (by omega)), if_neg (nI_ge hj (by omega))]
    simp (disch := omega) only [nI_clamp, vpI]
    refine ⟨by show j < 16; omega, ?_⟩
    rw [h2]
    refine in_has_t hj (by omega) ?_
    show if _ then _ else _
    rw [if_neg (by decide)]
    exact ⟨by show j < 16; omega, h3 j hj, hR⟩
  · have e6 : ∀ k : Int32 → St → Prop, k (-1000000) σ → x6_trace a σ k := by
      intro k h
      unfold x6_trace x6_trace_27 x6_trace_29
      rw [h1]
      by_cases z : a < 0
      · rw [if_pos z]; exact h
      · rw [if_neg z, if_pos ((has_no (by omega) ha).resolve_left z)]; exact h
    refine e6 _ ?_
    unfold x7_trace x7_trace_25
    rw [h2]
    refine in_has_f (by omega) ha ?_
    show if _ then _ else _
    rw [if_pos (by decide)]
    exact ⟨rfl, hR⟩
