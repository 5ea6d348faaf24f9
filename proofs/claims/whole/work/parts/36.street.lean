/-! STREET -/
def sO (x : Int32) : Int32 := if x = 117 then 1 else if x = 108 then 2 else if x = 98 then 3 else if x = 112 then 4 else if x = 107 then 5 else 0
theorem sO_tk : ∀ v, v < 256 → sO (tkO v) = nI (srt v) := by decide +kernel
theorem sO_neg : sO (-1) = 0 ∧ sO (-2) = 0 ∧ sO (-3) = 0 := by decide
theorem s7_sortOf {x : Int32} {σ : St} {k : Int32 → St → Prop} (h : k (sO x) σ) : x7_sortOf x σ k := by
  unfold x7_sortOf x7_sortOf_51
  unfold sO at h
  by_cases a1 : x = 117
  · rw [if_pos a1] at h ⊢; exact h
  · rw [if_neg a1] at h ⊢
    by_cases a2 : x = 108
    · rw [if_pos a2] at h ⊢; exact h
    · rw [if_neg a2] at h ⊢
      by_cases a3 : x = 98
      · rw [if_pos a3] at h ⊢; exact h
      · rw [if_neg a3] at h ⊢
        by_cases a4 : x = 112
        · rw [if_pos a4] at h ⊢; exact h
        · rw [if_neg a4] at h ⊢
          by_cases a5 : x = 107
          · rw [if_pos a5] at h ⊢; exact h
          · rw [if_neg a5] at h ⊢; exact h
theorem m71 {σ : St} {F : Fn} (hM : StM 71 0 σ F) {j : Nat} (h : j < 53) : σ 71 j = nI (F j) := by have := hM j h; rwa [Nat.zero_add] at this
theorem v71 {j : Nat} (h : j < 53) : vp_in (nI j) (ln 71) := (vpI (by omega)).mpr h
section READM
variable {σ0 σ : St} {T : Nat → Nat} {L p : Nat} {G : Fn}
theorem srt_fig : ∀ v, v < 256 → 48 ≤ v → v ≤ 57 → srt v = 0 := by decide +kernel
theorem MT.sort (hT : ∀ i, i < L → σ0 69 i = nI (T i) ∧ T i ≤ 255) (hp : p < L) (h : MT σ0 T L p σ) : sO (σ 65 8) = nI (srt (T p)) := by
  have hv := (hT p hp).2
  rcases h.2.2.2 with ⟨a, b⟩ | ⟨a, a2, b, b2, b3⟩ | ⟨a, a2, b⟩ | ⟨a, a2, b, b2⟩
  · omega
  · have := fg_v a
    rw [b, sO_neg.1, srt_fig _ (by omega) this.1 this.2]; rfl
  · have := fg_v a
    rw [b, sO_neg.2.2, srt_fig _ (by omega) this.1 this.2]; rfl
  · rw [b2, sO_tk _ (by omega)]
theorem MT.pos (hT : ∀ i, i < L → σ0 69 i = nI (T i) ∧ T i ≤ 255) (hp : p < L) (h : MT σ0 T L p σ) (hs : srt (T p) ≠ 0) : MI σ0 L (p + 1) σ := by
  have hv := (hT p hp).2
  rcases h.2.2.2 with ⟨a, b⟩ | ⟨a, a2, b, b2, b3⟩ | ⟨a, a2, b⟩ | ⟨a, a2, b, b2⟩
  · omega
  · have := fg_v a
    exact absurd (srt_fig _ (by omega) this.1 this.2) hs
  · have := fg_v a
    exact absurd (srt_fig _ (by omega) this.1 this.2) hs
  · exact ⟨h.1, b, h.2.2.1⟩
theorem m_law {k : Int32 → St → Prop} (hT : ∀ i, i < L → σ0 69 i = nI (T i) ∧ T i ≤ 255) (hL : L ≤ 100) (hp : p ≤ L) (hI : MI σ0 L p σ) (hS : StM 71 0 σ (fun _ => 0)) {ok : Nat → Nat → Nat → Res} {KR : Res → Prop} (hK : KR (lawP T L p ok)) (h1 : ∀ p' a b, p < p' → p' ≤ L → a ≤ 60 → b ≤ 12 → KR (ok p' a b) → ∀ σ', MI σ0 L p' σ' → StM 71 0 σ' (beg a b) → k 1 σ') (h0 : ∀ q e, KR (.inl (q, e)) → ∀ σ', MF σ0 q e σ' → k 0 σ') : x7_isLaw σ k := by
  unfold x7_isLaw x7_isLaw_19 x7_isLaw_50
  unfold lawP at hK
  refine m_sign (by decide) hT hL hp hI hK (fun p1 hK1 σ1 i1 n1 => ?_) (fun q e hq σ' f => ?_)
  · show if _ then _ else _
    rw [if_neg (by decide)]
    have S1 : StM 71 0 σ1 (fun _ => 0) := hS.cell (n1 71 (by decide))
    refine m_num (lo := 0) (hi := 60) hT hL (by omega) (by decide) (by decide) i1 hK1 (fun p2 a g1 g2 _ ha hK2 σ2 i2 e2 n2 => ?_) (fun q e hq σ' f => ?_)
    · show if _ then _ else _
      rw [if_neg (by decide), show (0 : Int32).toNatClampNeg = 0 + 0 from rfl, e2]
      refine ⟨v71 (j := 0) (by decide), ?_⟩
      unfold lt
      have S2 : StM 71 0 (st_up σ2 71 (0 + 0) (nI a)) (fup (fun _ => 0) 0 a) := (S1.cell (n2 71 (by decide))).up a
      have i2' : MI σ0 L p2 (st_up σ2 71 (0 + 0) (nI a)) := i2.k71 (fun i hi => st_up_ne _ _ _ hi)
      refine m_sign (by decide) hT hL (by omega) i2' hK2 (fun p3 hK3 σ3 i3 n3 => ?_) (fun q e hq σ' f => ?_)
      · show if _ then _ else _
        rw [if_neg (by decide)]
        have S3 := S2.cell (n3 71 (by decide))
        refine m_num (lo := 0) (hi := 12) hT hL (by omega) (by decide) (by decide) i3 hK3 (fun p4 b g3 g4 _ hb hK4 σ4 i4 e4 n4 => ?_) (fun q e hq σ' f => ?_)
        · show if _ then _ else _
          rw [if_neg (by decide), show (1 : Int32).toNatClampNeg = 0 + 1 from rfl, e4]
          refine ⟨v71 (j := 1) (by decide), ?_⟩
          have S4 : StM 71 0 (st_up σ4 71 (0 + 1) (nI b)) (fup (fup (fun _ => 0) 0 a) 1 b) := (S3.cell (n4 71 (by decide))).up b
          have i4' : MI σ0 L p4 (st_up σ4 71 (0 + 1) (nI b)) := i4.k71 (fun i hi => st_up_ne _ _ _ hi)
          refine m_sign (by decide) hT hL (by omega) i4' hK4 (fun p5 hK5 σ5 i5 n5 => ?_) (fun q e hq σ' f => ?_)
          · refine ⟨Or.inr rfl, h1 _ a b (by omega) (by omega) ha hb hK5 σ5 i5 ?_⟩
            refine (S4.cell (n5 71 (by decide))).congr (fun j hj => ?_)
            by_cases y1 : j = 1
            · subst y1; rw [fup_s]; rfl
            · rw [fup_n _ _ y1]
              by_cases y0 : j = 0
              · subst y0; rw [fup_s]; rfl
              · rw [fup_n _ _ y0, beg_0 a b (by omega)]
          · exact ⟨Or.inl rfl, h0 q e hq σ' f⟩
        · show if _ then _ else _
          rw [if_pos rfl]; exact ⟨Or.inl rfl, h0 q e hq σ' f⟩
      · show if _ then _ else _
        rw [if_pos rfl]; exact ⟨Or.inl rfl, h0 q e hq σ' f⟩
    · show if _ then _ else _
      rw [if_pos rfl]; exact ⟨Or.inl rfl, h0 q e hq σ' f⟩
  · show if _ then _ else _
    rw [if_pos rfl]; exact ⟨Or.inl rfl, h0 q e hq σ' f⟩
theorem sgP_t {c : Nat} {ok : Nat → Res} (h : p < L ∧ T p = c) : sgP T L c p ok = ok (p + 1) := if_pos h
theorem sgP_f {c : Nat} {ok : Nat → Res} (h : ¬ (p < L ∧ T p = c)) : sgP T L c p ok = .inl (p, 1) := if_neg h
theorem m_door {k : Int32 → St → Prop} (hT : ∀ i, i < L → σ0 69 i = nI (T i) ∧ T i ≤ 255) (hL : L ≤ 100) (hp : p < L) (hd : T p = 100) (hI : MI σ0 L (p + 1) σ) (h7 : σ 65 7 = nI p) (hS : StM 71 0 σ G) (hG : PG G) {ok : Nat → Fn → Res} {KR : Res → Prop} (hK : KR (doorP T L p G ok)) (h1 : ∀ p' v, p < p' → p' ≤ L → G 2 < 6 → 1 ≤ v → v ≤ 20 → KR (ok p' (addD G v)) → ∀ σ', MI σ0 L p' σ' → StM 71 0 σ' (addD G v) → k 1 σ') (h0 : ∀ q e, KR (.inl (q, e)) → ∀ σ', MF σ0 q e σ' → k 0 σ') : x7_isDoor σ k := by
  have h62 := hG.1.2.2.2.1
  unfold x7_isDoor
  unfold doorP at hK
  have c2 : (2 : Int32).toNatClampNeg = 2 := rfl
  rw [c2, m71 hS (show 2 < 53 by decide)]
  refine ⟨v71 (j := 2) (by decide), ?_⟩
  by_cases z : G 2 = 6
  · rw [if_pos ⟨hp, hd, z⟩] at hK
    rw [z, if_pos (by decide)]
    refine m_fails (e := 3) h7 hI.2.2 (fun σ' f => ?_)
    exact ⟨Or.inl rfl, h0 _ _ hK σ' f⟩
  · rw [if_neg (fun y => z y.2.2)] at hK
    rw [sgP_t ⟨hp, hd⟩] at hK
    rw [if_neg (by rw [show (6 : Int32) = nI 6 from rfl, nI_eq (by omega) (by decide)]; exact z)]
    refine m_num (lo := 1) (hi := 20) hT hL (by omega) (by decide) (by decide) hI hK (fun p2 v g1 g2 hv1 hv2 hK2 σ2 i2 e2 n2 => ?_) (fun q e hq σ' f => ?_)
    · show if _ then _ else _
      have S1 : StM 71 0 σ2 G := hS.cell (n2 71 (by decide))
      rw [if_neg (by decide), m71 S1 (show 2 < 53 by decide), show (5 : Int32) + nI (G 2) = nI (5 + G 2) from nI_add 5 _, nI_clamp (by omega), e2]
      refine ⟨v71 (j := 2) (by decide), v71 (by omega), ?_⟩
      unfold lt
      dsimp only
      have S2 : StM 71 0 (st_up σ2 71 (5 + G 2) (nI v)) (fup G (5 + G 2) v) := by have := S1.up (j := 5 + G 2) v; rwa [Nat.zero_add] at this
      rw [m71 S2 (show 2 < 53 by decide), fup_n _ _ (by omega), show nI (G 2) + 1 = nI (G 2 + 1) from nI_1 _]
      refine ⟨v71 (j := 2) (by decide), v71 (j := 2) (by decide), ?_⟩
      have S3 : StM 71 0 (st_up (st_up σ2 71 (5 + G 2) (nI v)) 71 2 (nI (G 2 + 1))) (addD G v) := by have := S2.up (j := 2) (G 2 + 1); rwa [Nat.zero_add] at this
      have i3 : MI σ0 L p2 (st_up (st_up σ2 71 (5 + G 2) (nI v)) 71 2 (nI (G 2 + 1))) := i2.k71 (fun i hi => by rw [st_up_ne _ _ _ hi, st_up_ne _ _ _ hi])
      refine m_sign (by decide) hT hL (by omega) i3 hK2 (fun p3 hK3 σ3 i3 n3 => ?_) (fun q e hq σ' f => ?_)
      · exact ⟨Or.inr rfl, h1 _ v (by omega) (by omega) (by omega) hv1 hv2 hK3 σ3 i3 (S3.cell (n3 71 (by decide)))⟩
      · exact ⟨Or.inl rfl, h0 q e hq σ' f⟩
    · show if _ then _ else _
      rw [if_pos rfl]; exact ⟨Or.inl rfl, h0 q e hq σ' f⟩
theorem m_call {k : Int32 → St → Prop} (hT : ∀ i, i < L → σ0 69 i = nI (T i) ∧ T i ≤ 255) (hL : L ≤ 100) (hp : p < L) (hs : srt (T p) ≠ 0) (ht : MT σ0 T L p σ) (hS : StM 71 0 σ G) (hG : PG G) (hg2 : 0 < G 2) {ok : Nat → Fn → Res} {KR : Res → Prop} (hK : KR (callP T L p G ok)) (h1 : ∀ p' a w, p < p' → p' ≤ L → G 3 < 6 → 1 ≤ srt (T p) → a < G 2 → w ≤ 20 → KR (ok p' (addC G (srt (T p)) a w)) → ∀ σ', MI σ0 L p' σ' → StM 71 0 σ' (addC G (srt (T p)) a w) → k 1 σ') (h0 : ∀ q e, KR (.inl (q, e)) → ∀ σ', MF σ0 q e σ' → k 0 σ') : x7_isCaller σ k := by
  have h62 := hG.1.2.2.2.1
  have h63 := hG.1.2.2.2.2.1
  have hI := ht.pos hT hp hs
  unfold x7_isCaller x7_isCaller_90
  unfold callP at hK
  have c2 : (2 : Int32).toNatClampNeg = 2 := rfl
  have c3 : (3 : Int32).toNatClampNeg = 3 := rfl
  rw [c2, c3, m71 hS (show 3 < 53 by decide)]
  refine ⟨v71 (j := 3) (by decide), ?_⟩
  rw [if_neg hs] at hK
  by_cases z : G 3 = 6
  · rw [if_pos z] at hK
    rw [z, if_pos (by decide)]
    refine m_fails (e := 3) ht.2.1 hI.2.2 (fun σ' f => ?_)
    exact ⟨Or.inl rfl, h0 _ _ hK σ' f⟩
  · rw [if_neg z] at hK
    rw [if_neg (by rw [show (6 : Int32) = nI 6 from rfl, nI_eq (by omega) (by decide)]; exact z)]
    refine ⟨v71 (j := 3) (by decide), ?_⟩
    unfold lt
    refine s7_sortOf ?_
    rw [ht.sort hT hp, show (29 : Int32) + nI (G 3) = nI (29 + G 3) from nI_add 29 _, show (41 : Int32) + nI (G 3) = nI (41 + G 3) from nI_add 41 _, show (35 : Int32) + nI (G 3) = nI (35 + G 3) from nI_add 35 _, nI_clamp (by omega), nI_clamp (by omega), nI_clamp (by omega)]
    dsimp only
    have S1 : StM 71 0 (st_up σ 71 (29 + G 3) (nI (srt (T p)))) (fup G (29 + G 3) (srt (T p))) := by have := hS.up (j := 29 + G 3) (srt (T p)); rwa [Nat.zero_add] at this
    have i1 : MI σ0 L (p + 1) (st_up σ 71 (29 + G 3) (nI (srt (T p)))) := hI.k71 (fun i hi => st_up_ne _ _ _ hi)
    rw [m71 S1 (show 2 < 53 by decide), fup_n _ _ (by omega), show nI (G 2) - 1 = nI (G 2 - 1) by rw [show (1 : Int32) = nI 1 from rfl, pk_sub (by omega)]]
    refine ⟨v71 (by omega), v71 (j := 2) (by decide), ?_⟩
    refine m_num (lo := 0) (hi := G 2 - 1) hT hL (by omega) (by decide) (by omega) i1 hK (fun p2 a g1 g2 _ ha hK2 σ2 i2 e2 n2 => ?_) (fun q e hq σ' f => ?_)
    · show if _ then _ else _
      rw [if_neg (by decide), e2]
      refine ⟨v71 (by omega), ?_⟩
      have S2 : StM 71 0 (st_up σ2 71 (41 + G 3) (nI a)) (fup (fup G (29 + G 3) (srt (T p))) (41 + G 3) a) := by have := (S1.cell (n2 71 (by decide))).up (j := 41 + G 3) a; rwa [Nat.zero_add] at this
      have i2' : MI σ0 L p2 (st_up σ2 71 (41 + G 3) (nI a)) := i2.k71 (fun i hi => st_up_ne _ _ _ hi)
      refine m_sign (by decide) hT hL (by omega) i2' hK2 (fun p3 hK3 σ3 i3 n3 => ?_) (fun q e hq σ' f => ?_)
      · show if _ then _ else _
        rw [if_neg (by decide)]
        have S3 := S2.cell (n3 71 (by decide))
        refine m_num (lo := 0) (hi := 20) hT hL (by omega) (by decide) (by decide) i3 hK3 (fun p4 w g3 g4 _ hw hK4 σ4 i4 e4 n4 => ?_) (fun q e hq σ' f => ?_)
        · show if _ then _ else _
          rw [if_neg (by decide), e4]
          refine ⟨v71 (by omega), ?_⟩
          have S4 : StM 71 0 (st_up σ4 71 (35 + G 3) (nI w)) (fup (fup (fup G (29 + G 3) (srt (T p))) (41 + G 3) a) (35 + G 3) w) := by have := (S3.cell (n4 71 (by decide))).up (j := 35 + G 3) w; rwa [Nat.zero_add] at this
          rw [m71 S4 (show 3 < 53 by decide), fup_n _ _ (by omega), fup_n _ _ (by omega), fup_n _ _ (by omega), show nI (G 3) + 1 = nI (G 3 + 1) from nI_1 _]
          refine ⟨v71 (j := 3) (by decide), v71 (j := 3) (by decide), ?_⟩
          have S5 : StM 71 0 (st_up (st_up σ4 71 (35 + G 3) (nI w)) 71 3 (nI (G 3 + 1))) (addC G (srt (T p)) a w) := by have := S4.up (j := 3) (G 3 + 1); rwa [Nat.zero_add] at this
          have i4' : MI σ0 L p4 (st_up (st_up σ4 71 (35 + G 3) (nI w)) 71 3 (nI (G 3 + 1))) := i4.k71 (fun i hi => by rw [st_up_ne _ _ _ hi, st_up_ne _ _ _ hi])
          refine m_sign (by decide) hT hL (by omega) i4' hK4 (fun p5 hK5 σ5 i5 n5 => ?_) (fun q e hq σ' f => ?_)
          · exact ⟨Or.inr rfl, h1 _ a w (by omega) (by omega) (by omega) (by omega) (by omega) hw hK5 σ5 i5 (S5.cell (n5 71 (by decide)))⟩
          · exact ⟨Or.inl rfl, h0 q e hq σ' f⟩
        · show if _ then _ else _
          rw [if_pos rfl]; exact ⟨Or.inl rfl, h0 q e hq σ' f⟩
      · show if _ then _ else _
        rw [if_pos rfl]; exact ⟨Or.inl rfl, h0 q e hq σ' f⟩
    · show if _ then _ else _
      rw [if_pos rfl]; exact ⟨Or.inl rfl, h0 q e hq σ' f⟩
end READM
section LOOPM
variable {σ0 : St} {T : Nat → Nat} {L : Nat} {k : Int32 → St → Prop}
/-- the door that is told, and what comes behind it -/
theorem m_120d {σ : St} {p : Nat} {G : Fn} {R : St → Prop} (hT : ∀ i, i < L → σ0 69 i = nI (T i) ∧ T i ≤ 255) (hL : L ≤ 100) (hp : p < L) (hd : T p = 100) (ht : MT σ0 T L p σ) (hS : StM 71 0 σ G) (hG : PG G) {ok : Nat → Fn → Res} {KR : Res → Prop} (hK : KR (doorP T L p G ok)) (h1 : ∀ p' v, p < p' → p' ≤ L → G 2 < 6 → 1 ≤ v → v ≤ 20 → KR (ok p' (addD G v)) → ∀ σ', MT σ0 T L p' σ' → StM 71 0 σ' (addD G v) → R σ') (h0 : ∀ q e, KR (.inl (q, e)) → ∀ σ', MF σ0 q e σ' → k 0 σ') : x7_isRead_120 R 0 σ k := by
  unfold x7_isRead_120 x7_isRead_141 x7_isRead_143
  rw [if_pos rfl]
  have sg := ht.sign (c := 100) (by decide) hT
  have tok : σ 65 8 = nI 100 := Classical.byContradiction fun z => sg.2 z ⟨hp, hd⟩
  have hI : MI σ0 L (p + 1) σ := ⟨ht.1, (sg.1 tok).2, ht.2.2.1⟩
  refine m_door hT hL hp hd hI ht.2.1 hS hG hK (fun p' v b1 b2 b3 b4 b5 hK' σ' i' s' => ?_) (fun q e hq σ' f => ?_)
  · show if _ then _ else _
    rw [if_neg (by decide)]
    refine m_next hT hL b2 i' (fun σ2 t2 n2 => ?_)
    exact h1 p' v b1 b2 b3 b4 b5 hK' σ2 t2 (s'.cell (n2 71 (by decide)))
  · show if _ then _ else _
    rw [if_pos rfl]; exact ⟨Or.inl rfl, h0 q e hq σ' f⟩
theorem m_loop (hT : ∀ i, i < L → σ0 69 i = nI (T i) ∧ T i ≤ 255) (hL : L ≤ 100) {KR : Res → Prop} (h1 : ∀ G, PG G → 0 < G 2 → KR (.inr G) → ∀ σ', fM σ0 σ' → StM 71 0 σ' G → k 1 σ') (h0 : ∀ q e, KR (.inl (q, e)) → ∀ σ', MF σ0 q e σ' → k 0 σ') : ∀ n p G σ, p ≤ L → L < p + n → MT σ0 T L p σ → StM 71 0 σ G → PG G → 0 < G 2 → KR (loopP T L n p G) → x7_isRead_39 k n σ := by
  intro n
  induction n with
  | zero => intro p G σ g1 g2; omega
  | succ n ih =>
    intro p G σ g1 g2 ht hS hG hg2 hK
    have h62 := hG.1.2.2.2.1
    have h63 := hG.1.2.2.2.2.1
    unfold x7_isRead_39
    unfold loopP at hK
    have c2 : (2 : Int32).toNatClampNeg = 2 := rfl
    have c3 : (3 : Int32).toNatClampNeg = 3 := rfl
    rw [c2, m71 hS (show 2 < 53 by decide)]
    have n0 : ¬ nI (G 2) = 0 := by rw [show (0 : Int32) = nI 0 from rfl, nI_eq (by omega) (by decide)]; omega
    by_cases z : L ≤ p
    · rw [if_pos z] at hK
      have tok : σ 65 8 = -2 := by
        rcases ht.2.2.2 with ⟨a, b⟩ | ⟨a, a2, b, b2, b3⟩ | ⟨a, a2, b⟩ | ⟨a, a2, b, b2⟩
        · exact b
        · have := (of_decide_eq_true a).1; omega
        · have := (of_decide_eq_true a).1; omega
        · omega
      rw [if_pos tok, if_neg n0]
      exact ⟨v71 (j := 2) (by decide), Or.inr rfl, h1 G hG hg2 hK σ ht.2.2.1 hS⟩
    · rw [if_neg z] at hK
      have hp : p < L := by omega
      have hv := (hT p hp).2
      have tok : ¬ σ 65 8 = -2 := by
        rcases ht.2.2.2 with ⟨a, b⟩ | ⟨a, a2, b, b2, b3⟩ | ⟨a, a2, b⟩ | ⟨a, a2, b, b2⟩
        · omega
        · rw [b]; decide
        · rw [b]; decide
        · rw [b2]
          have : ∀ v, v < 256 → ¬ tkO v = -2 := by decide +kernel
          exact this _ (by omega)
      rw [if_neg tok]
      unfold x7_isRead_57
      rw [c2, m71 hS (show 2 < 53 by decide), if_neg (by rw [show (0 : Int32) = nI 0 from rfl, nI_leI (by omega) (by decide)]; omega)]
      refine ⟨v71 (j := 2) (by decide), s7_sortOf ?_⟩
      rw [ht.sort hT hp]
      have hs5 := srt_le (T p)
      have sg : (σ 65 8 = (100 : Int32) → (p < L ∧ T p = 100) ∧ σ 65 6 = nI (p + 1)) ∧ (¬ σ 65 8 = (100 : Int32) → ¬ (p < L ∧ T p = 100)) := ht.sign (c := 100) (by decide) hT
      by_cases y : srt (T p) = 0
      · rw [y, if_pos (by decide)]
        unfold x7_isRead_80 x7_isRead_81
        have fl : ¬ (G 3 = 0 ∧ T p = 100) → x7_isRead_105 (x7_isRead_39 k n) 0 0 σ k := by
          intro q
          rw [if_neg q] at hK
          unfold callP at hK
          rw [if_pos y] at hK
          unfold x7_isRead_105
          rw [if_pos rfl, if_pos rfl]
          refine m_fails (e := 1) ht.2.1 ht.2.2.1 (fun σ' f => ?_)
          exact ⟨Or.inl rfl, h0 _ _ hK σ' f⟩
        by_cases x : σ 65 8 = (100 : Int32)
        · have hd := (sg.1 x).1.2
          rw [if_pos x, c3, m71 hS (show 3 < 53 by decide)]
          refine ⟨v71 (j := 3) (by decide), ?_⟩
          by_cases w : G 3 = 0
          · rw [if_pos ⟨w, hd⟩] at hK
            rw [w, if_pos (by decide)]
            unfold x7_isRead_105
            rw [if_pos rfl, if_neg (by decide)]
            refine m_120d hT hL hp hd ht hS hG hK (fun p' v b1 b2 b3 b4 b5 hK' σ' t' s' => ?_) h0
            exact ih p' _ σ' b2 (by omega) t' s' (addD_PG hG b3 ⟨b4, b5⟩) (by rw [addD_23]; omega) hK'
          · rw [if_neg (by rw [show (0 : Int32) = nI 0 from rfl, nI_eq (by omega) (by decide)]; exact w)]
            unfold x7_isRead_104
            exact fl (fun q => w q.1)
        · rw [if_neg x]
          unfold x7_isRead_104
          exact fl (fun q => sg.2 x ⟨hp, q.2⟩)
      · rw [if_neg (by rw [show (0 : Int32) = nI 0 from rfl, nI_leI (by omega) (by decide)]; omega)]
        unfold x7_isRead_81
        have nd : ¬ T p = 100 := fun q => y (by rw [q]; rfl)
        rw [if_neg (fun q => nd (sg.1 q).1.2)]
        rw [if_neg (fun q => nd q.2)] at hK
        unfold x7_isRead_104 x7_isRead_105 x7_isRead_120 x7_isRead_141 x7_isRead_143
        rw [if_neg (by decide), if_neg (by decide)]
        refine m_call hT hL hp y ht hS hG hg2 hK (fun p' a w b1 b2 b3 b4 b5 b6 hK' σ' i' s' => ?_) (fun q e hq σ' f => ?_)
        · show if _ then _ else _
          rw [if_neg (by decide)]
          refine m_next hT hL b2 i' (fun σ2 t2 n2 => ?_)
          refine ih p' _ σ2 b2 (by omega) t2 (s'.cell (n2 71 (by decide))) (addC_PG hG b3 ⟨b4, srt_le _⟩ b5 b6) ?_ hK'
          rw [(addC_at G _ a w b3).2.2.2.2 2 (by omega) (by omega) (by omega) (by omega)]; exact hg2
        · show if _ then _ else _
          rw [if_pos rfl]; exact ⟨Or.inl rfl, h0 q e hq σ' f⟩
theorem m_first {σ : St} {p : Nat} {G : Fn} (hT : ∀ i, i < L → σ0 69 i = nI (T i) ∧ T i ≤ 255) (hL : L ≤ 100) {KR : Res → Prop} (h1 : ∀ G, PG G → 0 < G 2 → KR (.inr G) → ∀ σ', fM σ0 σ' → StM 71 0 σ' G → k 1 σ') (h0 : ∀ q e, KR (.inl (q, e)) → ∀ σ', MF σ0 q e σ' → k 0 σ') (hp : p ≤ L) (ht : MT σ0 T L p σ) (hS : StM 71 0 σ G) (hG : PG G) (g2 : G 2 = 0) (g3 : G 3 = 0) (hK : KR (doorP T L p G (loopP T L 101))) : x7_isRead_39 k 102 σ := by
  unfold x7_isRead_39
  have c2 : (2 : Int32).toNatClampNeg = 2 := rfl
  have c3 : (3 : Int32).toNatClampNeg = 3 := rfl
  have sg : (σ 65 8 = (100 : Int32) → (p < L ∧ T p = 100) ∧ σ 65 6 = nI (p + 1)) ∧ (¬ σ 65 8 = (100 : Int32) → ¬ (p < L ∧ T p = 100)) := ht.sign (c := 100) (by decide) hT
  have go : x7_isRead_57 (x7_isRead_39 k 101) σ k := by
    unfold x7_isRead_57 x7_isRead_80 x7_isRead_81
    rw [c2, m71 hS (show 2 < 53 by decide), g2, if_pos (by decide)]
    refine ⟨v71 (j := 2) (by decide), ?_⟩
    by_cases x : σ 65 8 = (100 : Int32)
    · have hd := (sg.1 x).1
      rw [if_pos x, c3, m71 hS (show 3 < 53 by decide), g3, if_pos (by decide)]
      refine ⟨v71 (j := 3) (by decide), ?_⟩
      unfold x7_isRead_105
      rw [if_pos rfl, if_neg (by decide)]
      refine m_120d hT hL hd.1 hd.2 ht hS hG hK (fun p' v b1 b2 b3 b4 b5 hK' σ' t' s' => ?_) h0
      exact m_loop hT hL h1 h0 101 p' _ σ' b2 (by omega) t' s' (addD_PG hG b3 ⟨b4, b5⟩) (by rw [addD_23]; omega) hK'
    · rw [if_neg x]
      unfold doorP at hK
      have nd := sg.2 x
      rw [if_neg (fun q => nd ⟨q.1, q.2.1⟩)] at hK
      rw [sgP_f nd] at hK
      unfold x7_isRead_104 x7_isRead_105
      rw [if_pos rfl, if_pos rfl]
      refine m_fails (e := 1) ht.2.1 ht.2.2.1 (fun σ' f => ?_)
      exact ⟨Or.inl rfl, h0 _ _ hK σ' f⟩
  rw [c2, m71 hS (show 2 < 53 by decide), g2]
  by_cases x : σ 65 8 = -2
  · rw [if_pos x, if_pos (by decide)]
    exact ⟨v71 (j := 2) (by decide), go⟩
  · rw [if_neg x]; exact go
theorem m_all {σ : St} (hT : ∀ i, i < L → σ0 69 i = nI (T i) ∧ T i ≤ 255) (hL : L ≤ 100) (hl : σ 65 4 = nI L) (hfr : fM σ0 σ) {KR : Res → Prop} (hK : KR (allP T L)) (h1 : ∀ G, PG G → 0 < G 2 → KR (.inr G) → ∀ σ', fM σ0 σ' → StM 71 0 σ' G → k 1 σ') (h0 : ∀ q e, KR (.inl (q, e)) → ∀ σ', MF σ0 q e σ' → k 0 σ') : x7_isRead σ k := by
  unfold x7_isRead lt
  unfold allP at hK
  have i0 : MI σ0 L 0 (st_up σ 65 6 0) := ⟨by rw [up_n _ _ (Or.inr (by decide))]; exact hl, up_s _ _ _ _, hfr.up (by decide)⟩
  have key : ∀ m c τ, c ≤ 53 → 53 < c + m → MI σ0 L 0 τ → (∀ j, j < c → τ 71 j = 0) → x7_isRead_7 k m (nI c) τ := by
    intro m
    induction m with
    | zero => intro c τ a b; omega
    | succ m ih =>
      intro c τ a b hI hz
      unfold x7_isRead_7
      by_cases z : 53 ≤ c
      · rw [if_pos (show (53 : Int32) ≤ nI c from nI_le z (by omega))]
        have hS : StM 71 0 τ (fun _ => 0) := fun j hj => by rw [Nat.zero_add]; exact hz j (by omega)
        refine m_law hT hL (Nat.zero_le _) hI hS hK (fun p' a b g1 g2 ha hb hK1 σ1 i1 s1 => ?_) (fun q e hq σ' f => ?_)
        · show if _ then _ else _
          rw [if_neg (by decide)]
          refine m_next hT hL g2 i1 (fun σ2 t2 n2 => ?_)
          exact ⟨102, m_first hT hL h1 h0 g2 t2 (s1.cell (n2 71 (by decide))) (beg_PG ha hb) (beg_0 a b (by decide)) (beg_0 a b (by decide)) hK1⟩
        · show if _ then _ else _
          rw [if_pos rfl]; exact ⟨Or.inl rfl, h0 q e hq σ' f⟩
      · rw [if_neg (show ¬ (53 : Int32) ≤ nI c from nI_ge (show c < 53 by omega) (by decide)), nI_clamp (by omega), show nI c + 1 = nI (c + 1) from nI_1 c]
        refine ⟨v71 (by omega), ih (c + 1) _ (by omega) (by omega) (hI.k71 (fun i hi => st_up_ne _ _ _ hi)) (fun j hj => ?_)⟩
        by_cases y : j = c
        · subst y; rw [up_s]
        · rw [up_n _ _ (Or.inr y)]; exact hz j (by omega)
  exact ⟨54, key 54 0 _ (by decide) (by decide) i0 (fun j hj => absurd hj (Nat.not_lt_zero _))⟩
end LOOPM
theorem cm65 (j : Nat) : cm 65 j = if j = 3 then 2 else if j = 4 then 4 else if j = 10 then 3 else if j = 18 then 6 else if j = 20 then 5 else 0 := rfl
theorem cm_28 (i j : Nat) (h : 19 ≤ i ∧ i ≤ 36) : cm i j = 6 ∨ cm i j = 0 := by
  by_cases z : i ≤ 27
  · exact Or.inl (cm_he i j (by omega))
  · exact Or.inr (cm_tr i j (by omega))
theorem str_ok {σ σf : St} (hA : ∀ i, ¬ (19 ≤ i ∧ i ≤ 36) → i ≠ 55 → i ≠ 57 → i ≠ 65 → i ≠ 70 → i ≠ 71 → σf i = σ i) (hB : ∀ j, j = 3 ∨ j = 10 ∨ j = 20 → σf 65 j = σ 65 j) {c : Nat} (hc : c = 1 ∨ c = 2 ∨ c = 3 ∨ c = 5) : agr c σ σf := by
  intro i j e
  by_cases a1 : 19 ≤ i ∧ i ≤ 36
  · rcases cm_28 i j a1 with q | q <;> omega
  · by_cases a2 : i = 55
    · subst a2
      have : cm 55 j = if j = 1 then 4 else 0 := rfl
      rw [this] at e
      split at e <;> omega
    · by_cases a3 : i = 57
      · subst a3
        have : cm 57 j = 6 := rfl
        omega
      · by_cases a4 : i = 65
        · subst a4
          rw [cm65] at e
          refine hB j ?_
          by_cases b1 : j = 3
          · exact Or.inl b1
          · by_cases b2 : j = 10
            · exact Or.inr (Or.inl b2)
            · by_cases b3 : j = 20
              · exact Or.inr (Or.inr b3)
              · rw [if_neg b1, if_neg b2, if_neg b3] at e
                exfalso
                split at e
                · omega
                · split at e <;> omega
        · by_cases a5 : i = 70
          · subst a5
            have : cm 70 j = 6 := rfl
            omega
          · by_cases a6 : i = 71
            · subst a6
              have : cm 71 j = 0 := rfl
              omega
            · rw [hA i a1 a2 a3 a4 a5 a6]
theorem str_no {σ σf : St} (hA : ∀ i, ¬ (28 ≤ i ∧ i ≤ 36) → i ≠ 0 → i ≠ 55 → i ≠ 65 → i ≠ 71 → σf i = σ i) (h0 : ∀ j, j ≠ 8 → σf 0 j = σ 0 j) (hB : ∀ j, j = 3 ∨ j = 18 ∨ j = 20 → σf 65 j = σ 65 j) {c : Nat} (hc : c = 1 ∨ c = 2 ∨ c = 5 ∨ c = 6) : agr c σ σf := by
  intro i j e
  by_cases a1 : 28 ≤ i ∧ i ≤ 36
  · have := cm_tr i j a1; omega
  · by_cases a0 : i = 0
    · subst a0
      refine h0 j (fun q => ?_)
      subst q
      have : cm 0 8 = 3 := rfl
      omega
    · by_cases a2 : i = 55
      · subst a2
        have : cm 55 j = if j = 1 then 4 else 0 := rfl
        rw [this] at e
        split at e <;> omega
      · by_cases a4 : i = 65
        · subst a4
          rw [cm65] at e
          refine hB j ?_
          by_cases b1 : j = 3
          · exact Or.inl b1
          · by_cases b2 : j = 18
            · exact Or.inr (Or.inl b2)
            · by_cases b3 : j = 20
              · exact Or.inr (Or.inr b3)
              · rw [if_neg b1, if_neg b2, if_neg b3] at e
                exfalso
                split at e
                · omega
                · split at e <;> omega
        · by_cases a6 : i = 71
          · subst a6
            have : cm 71 j = 0 := rfl
            omega
          · rw [hA i a1 a0 a2 a4 a6]
theorem st_ok {σ σ3 : St} (hR : Rel σ) {T : Nat → Nat} {L : Nat} {res : Res} {G : Fn} (hL : L ≤ 100) (hl6 : σ 65 4 = nI L) (hT6 : ∀ i, i < L → σ 69 i = nI (T i) ∧ T i ≤ 255) (hres : res = allP T L) (hK : res = .inr G) (f3 : ∀ i, ¬ (19 ≤ i ∧ i ≤ 36) → i ≠ 55 → i ≠ 57 → σ3 i = σ i) (l55 : σ3 55 1 = nI 0) (c3 : StC 19 σ3 G) (g3 : σ3 57 3 = nI 0) (g4 : σ3 57 4 = nI 0) : x7_street σ3 (fun r2 σ2 => nI (G 3) = r2 ∧ Rel σ2) := by
  obtain ⟨r1, r2, r3, r4, r5, F, hH, hI, n, nx, S, hA⟩ := hR
  unfold x7_street
  refine m_all (σ0 := σ3) (KR := fun r => res = r) (fun i hi => by rw [f3 69 (by omega) (by decide) (by decide)]; exact hT6 i hi) hL (by rw [f3 65 (by omega) (by decide) (by decide)]; exact hl6) ⟨fun _ _ _ => rfl, fun _ _ => rfl⟩ hres (fun G' hG' hg2' hK' σ4 m4 s4 => ?_) (fun q e hK' σ4 f4 => ?_)
  · have eG : G' = G := Sum.inr.inj (hK'.symm.trans hK)
    subst eG
    simp only [lt]
    rw [if_neg (by decide), show (0 : Int32) = nI 0 from rfl]
    refine s7_lay (by decide) (by decide) (by decide) (by decide) (by decide) (fun σ5 d1 d2 d3 => ?_)
    rw [show (3 : Int32).toNatClampNeg = 3 from rfl]
    have M5 : StM 70 0 (st_up σ5 65 18 (nI 0)) G' := fun j hj => by
      rw [st_up_ne _ _ _ (by decide), d1 j hj, st_up_ne _ _ _ (by decide)]; exact s4 j hj
    rw [m70 M5 (show 3 < 53 by decide)]
    refine ⟨vq (j := 3) (by decide), rfl, ?_⟩
    have fS : ∀ i, i ≠ 65 → i ≠ 70 → i ≠ 71 → st_up σ5 65 18 (nI 0) i = σ3 i := fun i a4 a5 a6 => by
      rw [st_up_ne _ _ _ a4, d3 i a5, st_up_ne _ _ _ a4, m4.1 i a4 a6]
    have fA : ∀ i, ¬ (19 ≤ i ∧ i ≤ 36) → i ≠ 55 → i ≠ 57 → i ≠ 65 → i ≠ 70 → i ≠ 71 → st_up σ5 65 18 (nI 0) i = σ i := fun i a1 a2 a3 a4 a5 a6 => by
      rw [fS i a4 a5 a6, f3 i a1 a2 a3]
    have fB : ∀ j, j = 3 ∨ j = 10 ∨ j = 20 → st_up σ5 65 18 (nI 0) 65 j = σ 65 j := fun j hj => by
      rw [up_n _ _ (Or.inr (by omega)), d3 65 (by decide), up_n _ _ (Or.inr (by omega)), m4.2 j (by omega), f3 65 (by omega) (by decide) (by decide)]
    have e6 : st_up σ5 65 18 (nI 0) 65 4 = nI 0 := by rw [up_n _ _ (Or.inr (by decide)), d3 65 (by decide), up_s]
    have e18 : st_up σ5 65 18 (nI 0) 65 18 = nI 0 := up_s _ _ _ _
    generalize st_up σ5 65 18 (nI 0) = σ6 at *
    have a1 : agr 1 σ σ6 := str_ok fA fB (Or.inl rfl)
    have a2 : agr 2 σ σ6 := str_ok fA fB (Or.inr (Or.inl rfl))
    have a3 : agr 3 σ σ6 := str_ok fA fB (Or.inr (Or.inr (Or.inl rfl)))
    have a5 : agr 5 σ σ6 := str_ok fA fB (Or.inr (Or.inr (Or.inr rfl)))
    have q4 : R4 σ6 := ⟨0, Nat.zero_le _, (by rw [fS 55 (by decide) (by decide) (by decide)]; exact l55), e6, fun i hi => absurd hi (Nat.not_lt_zero _)⟩
    have q6 : ActR σ6 G' 0 0 (fun _ _ => 0) := ⟨fun _ => (0, 0, 0), ⟨Nat.zero_le _, by decide, (by rw [fS 57 (by decide) (by decide) (by decide)]; exact g4), (by rw [fS 57 (by decide) (by decide) (by decide)]; exact g3), fun i hi => absurd hi (Nat.not_lt_zero _)⟩, ⟨e18, fun i hi => absurd hi (Nat.not_lt_zero _)⟩, fun i hi => absurd hi (Nat.not_lt_zero _)⟩
    have qh : HerR σ6 G' := ⟨hG'.1, (by rw [hG'.2.1]; exact Nat.zero_le _), c3.cells (fun i a b => fS i (by omega) (by omega) (by omega)), M5⟩
    have qi : ∀ q, q < 2 → ImgR q σ6 := fun q hq => (hI q hq).cells hq (fun i a b => fA i (by omega) (by omega) (by omega) (by omega) (by omega) (by omega)) (fA 73 (by omega) (by decide) (by decide) (by decide) (by decide) (by decide)) (fA 74 (by omega) (by decide) (by decide) (by decide) (by decide) (by decide))
    exact ⟨r1.congr a1, r2.congr a2, r3.congr a3, q4, r5.congr a5, G', qh, qi, 0, 0, _, q6⟩
  · have := hK'.symm.trans hK
    cases this
theorem st_no {σ σ3 : St} (hR : Rel σ) {T : Nat → Nat} {L : Nat} {res : Res} {q e : Nat} (hL : L ≤ 100) (hl6 : σ 65 4 = nI L) (hT6 : ∀ i, i < L → σ 69 i = nI (T i) ∧ T i ≤ 255) (hres : res = allP T L) (hK : res = .inl (q, e)) (f3 : ∀ i, ¬ (28 ≤ i ∧ i ≤ 36) → i ≠ 0 → i ≠ 55 → σ3 i = σ i) (g0 : ∀ j, j ≠ 8 → σ3 0 j = σ 0 j) (g8 : σ3 0 8 = nI e) (l55 : σ3 55 1 = nI 0) : x7_street σ3 (fun r2 σ2 => -1000100 - nI q = r2 ∧ Rel σ2) := by
  obtain ⟨r1, r2, r3, r4, r5, r6⟩ := hR
  unfold x7_street
  refine m_all (σ0 := σ3) (KR := fun r => res = r) (fun i hi => by rw [f3 69 (by omega) (by decide) (by decide)]; exact hT6 i hi) hL (by rw [f3 65 (by omega) (by decide) (by decide)]; exact hl6) ⟨fun _ _ _ => rfl, fun _ _ => rfl⟩ hres (fun G' hG' hg2' hK' σ4 m4 s4 => ?_) (fun q' e' hK' σ4 f4 => ?_)
  · have := hK'.symm.trans hK
    cases this
  · have eq := Sum.inl.inj (hK'.symm.trans hK)
    have eq1 : q' = q := congrArg Prod.fst eq
    have eq2 : e' = e := congrArg Prod.snd eq
    unfold lt
    show if _ then _ else _
    rw [if_pos rfl]
    rw [show st_up σ4 65 4 0 65 11 = nI e' by rw [up_n _ _ (Or.inr (by decide))]; exact f4.2.1]
    dsimp only
    rw [show st_up (st_up σ4 65 4 0) 65 10 (nI e') 65 7 = nI q' by rw [up_n _ _ (Or.inr (by decide)), up_n _ _ (Or.inr (by decide))]; exact f4.1]
    refine ⟨by rw [eq1], ?_⟩
    have fS : ∀ i, i ≠ 65 → i ≠ 71 → st_up (st_up σ4 65 4 0) 65 10 (nI e') i = σ3 i := fun i a b => by rw [st_up_ne _ _ _ a, st_up_ne _ _ _ a, f4.2.2.1 i a b]
    have fA : ∀ i, ¬ (28 ≤ i ∧ i ≤ 36) → i ≠ 0 → i ≠ 55 → i ≠ 65 → i ≠ 71 → st_up (st_up σ4 65 4 0) 65 10 (nI e') i = σ i := fun i a1 a2 a3 a4 a5 => by rw [fS i a4 a5, f3 i a1 a2 a3]
    have f0 : ∀ j, j ≠ 8 → st_up (st_up σ4 65 4 0) 65 10 (nI e') 0 j = σ 0 j := fun j hj => by rw [fS 0 (by decide) (by decide)]; exact g0 j hj
    have fB : ∀ j, j = 3 ∨ j = 18 ∨ j = 20 → st_up (st_up σ4 65 4 0) 65 10 (nI e') 65 j = σ 65 j := fun j hj => by
      rw [up_n _ _ (Or.inr (by omega)), up_n _ _ (Or.inr (by omega)), f4.2.2.2 j (by omega), f3 65 (by omega) (by decide) (by decide)]
    have e10 : st_up (st_up σ4 65 4 0) 65 10 (nI e') 65 10 = nI e := by rw [up_s, eq2]
    have e4 : st_up (st_up σ4 65 4 0) 65 10 (nI e') 65 4 = nI 0 := by rw [up_n _ _ (Or.inr (by decide)), up_s]; rfl
    generalize st_up (st_up σ4 65 4 0) 65 10 (nI e') = σ6 at *
    have a1 : agr 1 σ σ6 := str_no fA f0 fB (Or.inl rfl)
    have a2 : agr 2 σ σ6 := str_no fA f0 fB (Or.inr (Or.inl rfl))
    have a5 : agr 5 σ σ6 := str_no fA f0 fB (Or.inr (Or.inr (Or.inl rfl)))
    have a6 : agr 6 σ σ6 := str_no fA f0 fB (Or.inr (Or.inr (Or.inr rfl)))
    have q3 : R3 σ6 := by unfold R3; rw [fS 0 (by decide) (by decide), g8, e10]
    have q4 : R4 σ6 := ⟨0, Nat.zero_le _, (by rw [fS 55 (by decide) (by decide)]; exact l55), e4, fun i hi => absurd hi (Nat.not_lt_zero _)⟩
    exact ⟨r1.congr a1, r2.congr a2, q3, q4, r5.congr a5, r6.congr a6⟩
theorem tape_T {σ : St} {L : Nat} (ht : ∀ i, i < L → ∃ v, v ≤ 255 ∧ σ 56 i = nI v ∧ σ 69 i = nI v) : ∃ T : Nat → Nat, (∀ i, i < L → σ 56 i = nI (T i) ∧ T i ≤ 255) ∧ (∀ i, i < L → σ 69 i = nI (T i) ∧ T i ≤ 255) := by
  refine ⟨fun i => (σ 56 i).toNatClampNeg, fun i hi => ?_, fun i hi => ?_⟩
  · obtain ⟨v, g1, g2, g3⟩ := ht i hi
    dsimp only
    rw [g2, nI_clamp (by omega)]; exact ⟨rfl, g1⟩
  · obtain ⟨v, g1, g2, g3⟩ := ht i hi
    dsimp only
    rw [g2, g3, nI_clamp (by omega)]; exact ⟨rfl, g1⟩
