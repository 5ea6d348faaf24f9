/-! feed, count, as, copy -/
theorem sp4 : Sp4 Rel := by
  intro x σ hR
  obtain ⟨n, hn, h1, h2, h3⟩ := hR.2.2.2.1
  by_cases hx : has x 256
  · obtain ⟨v, hv, rfl⟩ := hx
    unfold x6_feed x6_feed_37 x7_feed x3_take lt
    rw [if_neg (nI_pos (by omega)), if_pos (by rw [show (255 : Int32) = nI 255 from rfl, nI_leI (by omega) (by decide)]; omega), h1]
    by_cases q : n < 100
    · rw [if_pos (by rw [show (100 : Int32) = nI 100 from rfl, nI_ltI (by omega) (by decide)]; exact q)]
      rw [nI_clamp (by omega)]
      refine ⟨(vpI (by omega)).mpr (by show n < 100; exact q), Or.inr rfl, ?_⟩
      show if _ then _ else _
      rw [if_neg (by decide), st_up_ne (i := 56) (a := 55) _ _ _ (by decide), h1, up_s, show nI n + 1 = nI (n + 1) from nI_1 n]
      refine in_lit_t (m := 255) (by omega) (by decide) ?_
      show if _ then _ else _
      have g4 : st_up (st_up σ 56 n (nI v)) 55 1 (nI (n + 1)) 65 4 = nI n := by rw [st_up_ne _ _ _ (by decide), st_up_ne _ _ _ (by decide)]; exact h2
      rw [if_neg (by decide), g4, if_neg (by rw [show (100 : Int32) = nI 100 from rfl, nI_eq (by omega) (by decide)]; omega), nI_clamp (by omega)]
      refine ⟨(vpI (by omega)).mpr (by show n < 100; exact q), ?_⟩
      dsimp only
      rw [st_up_ne (i := 69) (a := 65) _ _ _ (by decide), g4, up_s, show nI n + 1 = nI (n + 1) from nI_1 n]
      refine ⟨rfl, hR.m4 ?_ ?_⟩
      · exact onl.up (c := 4) (onl.up (c := 4) (onl.up (c := 4) (onl.up (c := 4) onl.rf (Or.inr rfl)) (Or.inr rfl)) (Or.inr rfl)) (Or.inr rfl)
      · refine ⟨n + 1, by omega, ?_, ?_, fun i hi => ?_⟩
        · rw [st_up_ne _ _ _ (by decide), st_up_ne _ _ _ (by decide), up_s]
        · rw [up_s]
        · rw [st_up_ne (i := 65) (a := 56) _ _ _ (by decide), st_up_ne (i := 69) (a := 56) _ _ _ (by decide), st_up_ne (i := 55) (a := 56) _ _ _ (by decide), st_up_ne (i := 65) (a := 69) _ _ _ (by decide)]
          by_cases z : i = n
          · subst z; exact ⟨v, by omega, by rw [up_s], by rw [up_s]⟩
          · obtain ⟨w, b1, b2, b3⟩ := h3 i (by omega)
            refine ⟨w, b1, ?_, ?_⟩
            · rw [up_n _ _ (Or.inr z)]; exact b2
            · rw [up_n _ _ (Or.inr z), st_up_ne _ _ _ (by decide), st_up_ne _ _ _ (by decide)]; exact b3
    · rw [if_neg (by rw [show (100 : Int32) = nI 100 from rfl, nI_ltI (by omega) (by decide)]; exact q)]
      refine ⟨Or.inl rfl, ?_⟩
      show if _ then _ else _
      rw [if_pos rfl]
      refine in_lit_t (m := 255) (by omega) (by decide) ?_
      show if _ then _ else _
      rw [if_neg (by decide), h2, if_pos (by rw [show (100 : Int32) = nI 100 from rfl, nI_eq (by omega) (by decide)]; omega)]
      exact ⟨rfl, hR⟩
  · have e6 : ∀ k : Int32 → St → Prop, k (-1000001) σ → x6_feed x σ k := by
      intro k h
      unfold x6_feed x6_feed_11
      by_cases z : x < 0
      · rw [if_pos z]; exact h
      · have q := (has_no (by decide) hx).resolve_left z
        rw [if_neg z, if_neg (by
          intro w
          have : nI 255 < nI 256 := nI_lt (by decide) (by decide)
          exact Int32.not_le.mpr (Int32.lt_of_lt_of_le this q) w)]
        exact h
    refine e6 _ ?_
    unfold x7_feed
    refine in_lit_f (m := 255) (by decide) hx ?_
    show if _ then _ else _
    rw [if_pos (by decide)]
    exact ⟨rfl, hR⟩
/-! count -/
def prs (σ : St) (r : Nat) : Nat := if 0 ≤ σ 66 r then 1 else 0
theorem s6_rowsThere {σ : St} {k : Int32 → St → Prop} (hR : R1 σ) (h : k (nI (smL (prs σ) 8)) σ) : x6_rowsThere σ k := by
  have key : ∀ n c, c ≤ 8 → 8 < c + n → x6_rowsThere_4 k n (nI (smL (prs σ) c)) (nI c) σ := by
    intro n
    induction n with
    | zero => intro c h1 h2; omega
    | succ n ih =>
      intro c h1 h2
      unfold x6_rowsThere_4 x6_rowsThere_25
      simp (disch := omega) only [lI, nI_add, pk_mul, nI_leI, nI_ltI, nI_eq, nI_clamp, vpI, pk_sub, isB0, isB1]
      by_cases q : 8 ≤ c
      · rw [if_pos q]
        have : c = 8 := by omega
        subst this; exact h
      · rw [if_neg q]
        refine ⟨by omega, ?_⟩
        have ih' := ih (c + 1) (by omega) (by omega)
        have e : smL (prs σ) (c + 1) = smL (prs σ) c + prs σ c := rfl
        rcases hR c (by omega) with ⟨m1, m2⟩ | ⟨L, n', hL, hn, h3, h4, h5, h6, h7⟩
        · refine s4_isMissing_t m1 ?_
          show if _ then _ else _
          rw [if_neg (by decide)]
          rw [e, show prs σ c = 0 by unfold prs; rw [m2, if_neg neg1_lt], Nat.add_zero] at ih'
          exact ih'
        · refine s4_isMissing_f hL h3 ?_
          show if _ then _ else _
          rw [if_pos (by decide)]
          rw [e, show prs σ c = 1 by unfold prs; rw [h4, if_pos (lane_ge hL)]] at ih'
          exact ih'
  unfold x6_rowsThere
  exact ⟨9, key 9 0 (by decide) (by decide)⟩
def vCnt (σ : St) (F : Fn) (n t : Nat) (b : Int32) : Int32 := if b = 0 then nI (smL (prs σ) 8) else if b = 1 then nI (F 2) else if b = 2 then nI (F 3) else if b = 3 then nI (F 0) else if b = 4 then nI (F 1) else if b = 5 then nI (F 4) else if b = 6 then nI (smL (fun c => F (47 + c)) (F 3)) else if b = 7 then nI n else if b = 8 then nI t else -1000001
theorem sp31 : Sp31 Rel := by
  intro b σ hR
  obtain ⟨F, ⟨hF, h4, hC, hM⟩, hI, n, nx, S, rc, hA, hA2, hA3⟩ := hR.2.2.2.2.2
  obtain ⟨t, ht, ht1, ht2, ht3⟩ := hR.2.2.2.1
  have e6 : ∀ k : Int32 → St → Prop, k (vCnt σ F n t b) σ → x6_count b σ k := by
    intro k h
    unfold x6_count
    unfold vCnt at h
    by_cases b0 : b = 0
    · rw [if_pos b0] at h ⊢; exact s6_rowsThere hR.1 h
    rw [if_neg b0] at h ⊢
    by_cases b1 : b = 1
    · rw [if_pos b1] at h ⊢; rw [hC.1]; exact h
    rw [if_neg b1] at h ⊢
    by_cases b2 : b = 2
    · rw [if_pos b2] at h ⊢; rw [hC.2.1]; exact h
    rw [if_neg b2] at h ⊢
    by_cases b3 : b = 3
    · rw [if_pos b3] at h ⊢; rw [hC.2.2.1]; exact h
    rw [if_neg b3] at h ⊢
    by_cases b4 : b = 4
    · rw [if_pos b4] at h ⊢; rw [hC.2.2.2.1]; exact h
    rw [if_neg b4] at h ⊢
    by_cases b5 : b = 5
    · rw [if_pos b5] at h ⊢; rw [hC.2.2.2.2.1]; exact h
    rw [if_neg b5] at h ⊢
    by_cases b6 : b = 6
    · rw [if_pos b6] at h ⊢; exact s5_metsAdded rfl hC hF h
    rw [if_neg b6] at h ⊢
    by_cases b7 : b = 7
    · rw [if_pos b7] at h ⊢; rw [hA.2.2.1]; exact h
    rw [if_neg b7] at h ⊢
    by_cases b8 : b = 8
    · rw [if_pos b8] at h ⊢; rw [ht1]; exact h
    rw [if_neg b8] at h ⊢
    exact h
  have e7 : ∀ k : Int32 → St → Prop, k (vCnt σ F n t b) σ → x7_count b σ k := by
    intro k h
    have e2 : ∀ m c, c ≤ 6 → 6 < c + m → x7_count_38 b k m (nI (smL (prs σ) 8)) (nI (smL (fun c => F (47 + c)) c)) (nI c) σ := by
      intro m
      induction m with
      | zero => intro c h1 h2; omega
      | succ m ih =>
        intro c h1 h2
        unfold x7_count_38 lt
        by_cases q : 6 ≤ c
        · have : c = 6 := by omega
          subst this
          rw [if_pos (by decide)]
          have z2 : σ 70 (2 : Int32).toNatClampNeg = nI (F 2) := m70 hM (j := 2) (by decide)
          have z3 : σ 70 (3 : Int32).toNatClampNeg = nI (F 3) := m70 hM (j := 3) (by decide)
          have z0 : σ 70 (0 : Int32).toNatClampNeg = nI (F 0) := m70 hM (j := 0) (by decide)
          have z1 : σ 70 (1 : Int32).toNatClampNeg = nI (F 1) := m70 hM (j := 1) (by decide)
          have z4 : σ 70 (4 : Int32).toNatClampNeg = nI (F 4) := m70 hM (j := 4) (by decide)
          rw [z2, z3, z0, z1, z4, hA2.1, ht2, smL_zero (m := F 3) 6 hF.2.2.2.2.1 (fun i h1 h2 => hF.2.2.2.2.2.2.2.2 i h2 h1)]
          unfold vCnt at h
          by_cases b0 : b = 0
          · rw [if_pos b0] at h ⊢; exact h
          rw [if_neg b0] at h ⊢
          by_cases b1 : b = 1
          · rw [if_pos b1] at h ⊢; exact ⟨vq (j := 2) (by decide), h⟩
          rw [if_neg b1] at h ⊢
          by_cases b2 : b = 2
          · rw [if_pos b2] at h ⊢; exact ⟨vq (j := 3) (by decide), h⟩
          rw [if_neg b2] at h ⊢
          by_cases b3 : b = 3
          · rw [if_pos b3] at h ⊢; exact ⟨vq (j := 0) (by decide), h⟩
          rw [if_neg b3] at h ⊢
          by_cases b4 : b = 4
          · rw [if_pos b4] at h ⊢; exact ⟨vq (j := 1) (by decide), h⟩
          rw [if_neg b4] at h ⊢
          by_cases b5 : b = 5
          · rw [if_pos b5] at h ⊢; exact ⟨vq (j := 4) (by decide), h⟩
          rw [if_neg b5] at h ⊢
          by_cases b6 : b = 6
          · rw [if_pos b6] at h ⊢; exact h
          rw [if_neg b6] at h ⊢
          by_cases b7 : b = 7
          · rw [if_pos b7] at h ⊢; exact h
          rw [if_neg b7] at h ⊢
          by_cases b8 : b = 8
          · rw [if_pos b8] at h ⊢; exact h
          rw [if_neg b8] at h ⊢
          exact h
        · rw [if_neg (by rw [show (6 : Int32) = nI 6 from rfl, nI_leI (by decide) (by omega)]; exact q)]
          simp (disch := omega) only [lI, nI_add, pk_mul, nI_leI, nI_ltI, nI_eq, nI_clamp, vpI, pk_sub, isB0, isB1, l70, m70 hM]
          exact ⟨by omega, ih (c + 1) (by omega) (by omega)⟩
    have e1 : ∀ m c, c ≤ 8 → 8 < c + m → x7_count_4 b k m (nI (smL (prs σ) c)) (nI c) σ := by
      intro m
      induction m with
      | zero => intro c h1 h2; omega
      | succ m ih =>
        intro c h1 h2
        unfold x7_count_4 x7_count_25 lt
        by_cases q : 8 ≤ c
        · have : c = 8 := by omega
          subst this
          rw [if_pos (by decide)]
          exact ⟨7, e2 7 0 (by decide) (by decide)⟩
        · rw [if_neg (by rw [show (8 : Int32) = nI 8 from rfl, nI_leI (by decide) (by omega)]; exact q)]
          rw [nI_clamp (by omega)]
          refine ⟨(vpI (by omega)).mpr (by show c < 8; omega), ?_⟩
          have ih' := ih (c + 1) (by omega) (by omega)
          rw [show smL (prs σ) (c + 1) = smL (prs σ) c + prs σ c from rfl] at ih'
          unfold prs at ih' ⊢
          by_cases z : 0 ≤ σ 66 c
          · rw [if_pos z] at ih' ⊢; rw [show (1 : Int32) = nI 1 from rfl, nI_add, nI_add]; exact ih'
          · rw [if_neg z] at ih' ⊢; rw [show (0 : Int32) = nI 0 from rfl, show (1 : Int32) = nI 1 from rfl, nI_add, nI_add]; exact ih'
    unfold x7_count
    exact ⟨9, e1 9 0 (by decide) (by decide)⟩
  exact e6 _ (e7 _ ⟨rfl, hR⟩)
/-! as -/
def oneOf (K q : Nat) : Bool := q == 0 || q == K || (q == 1 && (K == 2 || K == 3)) || (q == 4 && K == 5)
theorem s6_isOneOf {σ : St} {k : Int32 → St → Prop} {K q : Nat} (hK : 1 ≤ K ∧ K ≤ 5) (hq : q < 6) (h : k (nI (if oneOf K q then 1 else 0)) σ) : x6_isOneOf (nI K) (nI q) σ k := by
  unfold x6_isOneOf x6_isOneOf_9 x6_isOneOf_26 x6_isOneOf_31 x6_isOneOf_46 x6_isOneOf_47
  obtain ⟨hK1, hK2⟩ := hK
  rcases (show K = 1 ∨ K = 2 ∨ K = 3 ∨ K = 4 ∨ K = 5 by omega) with rfl | rfl | rfl | rfl | rfl <;> rcases (show q = 0 ∨ q = 1 ∨ q = 2 ∨ q = 3 ∨ q = 4 ∨ q = 5 by omega) with rfl | rfl | rfl | rfl | rfl | rfl <;> (repeat (first | rw [if_pos (by decide)] | rw [if_neg (by decide)])) <;> exact ⟨by unfold isB; decide, h⟩
def par (K : Nat) : Nat := if K = 1 then 0 else if K = 4 then 0 else if K = 5 then 4 else 1
theorem oneOf_eq : ∀ K, K < 6 → ∀ q, q < 6 → 1 ≤ K → oneOf K q = decide (q = 0 ∨ K = q ∨ par K = q) := by decide +kernel
theorem s7_parentOf {σ : St} {k : Int32 → St → Prop} {K : Nat} (hK : K ≤ 5) (h : k (nI (par K)) σ) : x7_parentOf (nI K) σ k := by
  unfold x7_parentOf x7_parentOf_10 x7_parentOf_24
  unfold par at h
  simp (disch := omega) only [lI, nI_eq]
  repeat' split
  all_goals simp_all
theorem s7_asq {σ : St} {k : Int32 → St → Prop} {x : Int32} {K q : Nat} (hK : 1 ≤ K ∧ K ≤ 5) (hq : q < 6) (h : x7_as_48 x (nI q) (nI (if oneOf K q then 1 else 0)) σ k) : (if nI q = 0 then x7_as_43 x (nI q) σ k else (if nI K = nI q then x7_as_43 x (nI q) σ k else x7_parentOf (nI K) σ (fun r11 σ12 => (if r11 = nI q then x7_as_43 x (nI q) σ12 k else x7_as_48 x (nI q) 0 σ12 k)))) := by
  unfold x7_as_43
  rw [oneOf_eq K (by omega) q hq hK.1] at h
  have hp : par K < 6 := by unfold par; repeat' split
                            all_goals omega
  by_cases q0 : q = 0
  · rw [if_pos (by rw [q0]; rfl)]
    rwa [if_pos (by simp [q0])] at h
  rw [if_neg (by rw [show (0 : Int32) = nI 0 from rfl, nI_eq (by omega) (by decide)]; exact q0)]
  by_cases qK : K = q
  · rw [if_pos (by rw [qK])]
    rwa [if_pos (by simp [qK])] at h
  rw [if_neg (by rw [nI_eq (by omega) (by omega)]; exact qK)]
  refine s7_parentOf hK.2 ?_
  show if _ then _ else _
  by_cases qp : par K = q
  · rw [if_pos (by rw [qp])]
    rwa [if_pos (by simp [qp])] at h
  rw [if_neg (by rw [nI_eq (by omega) (by omega)]; exact qp)]
  rwa [if_neg (by simp [q0, qK, qp])] at h
theorem sp28 : Sp28 Rel := by
  intro a b σ hR
  obtain ⟨F, ⟨hF, h4, hC, hM⟩, hI, n, nx, S, hA⟩ := hR.2.2.2.2.2
  have h63 := hF.2.2.2.2.1
  by_cases ha : has a (F 3)
  · obtain ⟨j, hj, rfl⟩ := ha
    have hw := hF.2.2.2.2.2.2.2.1 j hj
    by_cases hb : has b 6
    · obtain ⟨q, hq, rfl⟩ := hb
      unfold x6_as x6_as_52 x7_as
      refine s5_hasCaller_t hC.2.1 h63 hj ?_
      show if _ then _ else _
      rw [if_neg (by decide), if_neg (nI_pos (by omega)), if_pos (by rw [show (5 : Int32) = nI 5 from rfl, nI_leI (by omega) (by decide)]; omega), nI_clamp (by omega), (hC.2.2.2.2.2.2 j hj).1]
      refine ⟨(vpI (by omega)).mpr (by show j < 6; omega), ?_⟩
      refine s6_isOneOf hw.1 hq ?_
      have go : ∀ τ : St, (∀ i, i ≠ 0 → τ i = σ i) → ∀ k : Int32 → St → Prop, x7_as_48 (nI j) (nI q) (nI (if oneOf (F (29 + j)) q then 1 else 0)) τ k → x7_isOne (nI j) τ (fun r1 σ2 => (if r1 = 0 then x7_as_17 (nI j) (nI q) σ2 k else x7_in (nI q) 0 5 σ2 (fun r3 σ4 => (if r3 = 0 then x7_as_17 (nI j) (nI q) σ4 k else x7_kindOf (nI j) σ4 (fun r5 σ6 => (if nI q = 0 then x7_as_43 (nI j) (nI q) σ6 k else (if r5 = nI q then x7_as_43 (nI j) (nI q) σ6 k else x7_parentOf r5 σ6 (fun r11 σ12 => (if r11 = nI q then x7_as_43 (nI j) (nI q) σ12 k else x7_as_48 (nI j) (nI q) 0 σ12 k))))))))) := by
        intro τ eτ k hk
        have hM' : StM 70 0 τ F := hM.cell (eτ 70 (by decide))
        refine s7_isOne_t hM' hF hj ?_
        show if _ then _ else _
        rw [if_neg (by decide)]
        refine in_lit_t (m := 5) (by omega) (by decide) ?_
        show if _ then _ else _
        rw [if_neg (by decide)]
        unfold x7_kindOf
        simp (disch := omega) only [lI, nI_add, nI_clamp, vpI, l70, m70 hM']
        refine ⟨by omega, ?_⟩
        exact s7_asq hw.1 hq hk
      cases ho : oneOf (F (29 + j)) q with
      | true =>
        rw [ho] at go
        show if _ then _ else _
        rw [if_neg (by decide)]
        unfold x6_foundNone lt
        refine go _ (fun i hi => st_up_ne _ _ _ hi) _ ?_
        unfold x7_as_48 x7_done x7_as_68 lt
        rw [if_neg (by decide)]
        exact ⟨rfl, hR.stt 0⟩
      | false =>
        rw [ho] at go
        show if _ then _ else _
        rw [if_pos (by decide)]
        unfold x6_found lt
        refine go _ (fun i hi => st_up_ne _ _ _ hi) _ ?_
        unfold x7_as_48 x7_finds x7_as_68 lt
        rw [if_pos (by decide)]
        exact ⟨rfl, hR.stt 3⟩
    · have e6 : ∀ k : Int32 → St → Prop, k (-1000001) σ → x6_as (nI j) b σ k := by
        intro k h
        unfold x6_as x6_as_20
        refine s5_hasCaller_t hC.2.1 h63 hj ?_
        show if _ then _ else _
        rw [if_neg (by decide)]
        by_cases z : b < 0
        · rw [if_pos z]; exact h
        · have q := (has_no (by decide) hb).resolve_left z
          rw [if_neg z, if_neg (by
            intro w
            have : nI 5 < nI 6 := nI_lt (by decide) (by decide)
            exact Int32.not_le.mpr (Int32.lt_of_lt_of_le this q) w)]
          exact h
      refine e6 _ ?_
      unfold x7_as x7_as_17
      refine s7_isOne_t hM hF hj ?_
      show if _ then _ else _
      rw [if_neg (by decide)]
      refine in_lit_f (m := 5) (by decide) hb ?_
      show if _ then _ else _
      rw [if_pos (by decide)]
      exact ⟨rfl, hR⟩
  · unfold x6_as x6_as_20 x7_as x7_as_17
    refine s5_hasCaller_f hC.2.1 h63 ha ?_
    show if _ then _ else _
    rw [if_pos (by decide)]
    refine s7_isOne_f hM hF ha ?_
    show if _ then _ else _
    rw [if_pos (by decide)]
    exact ⟨rfl, hR⟩
