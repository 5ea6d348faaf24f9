/-! REACHES -/
def nrP (d e : Nat) : Bool := decide (d ≤ e + 1 ∧ e ≤ d + 1)
theorem near_bits : ∀ d, d < 6 → ∀ D, D < 7 → (((7 : Int32) <<< (nI d &&& 31)) >>> ((1 : Int32) &&& 31)) &&& (((1 : Int32) <<< (nI D &&& 31)) - 1) = nI (mskL (nrP d) D) := by decide +kernel
theorem near_in : ∀ d, d < 6 → ∀ e, e < 6 → (nrP d e = true → ¬ nI e < nI d - 1 ∧ ¬ nI d + 1 < nI e) ∧ (nrP d e = false → nI e < nI d - 1 ∨ nI d + 1 < nI e) := by decide +kernel
theorem s7_reaches_58 {d : Nat} {x2 : Int32} {σ : St} {F : Fn} {k : Int32 → St → Prop} (hM : StM 70 0 σ F) (hF : WF F) (hd : d < F 2) (h : if x2 = 0 then k (nI (mskL (nrP d) (F 2))) σ else x7_meetersOf 70 σ (fun r9 σ10 => x7_meetersOf 72 σ10 (fun r11 σ12 => k (r9 ^^^ r11) σ12))) : ∀ m e, e ≤ F 2 → F 2 < e + m → x7_reaches_58 (nI d) x2 k m (nI (mskL (nrP d) e)) (nI e) σ := by
  have h62 := hF.2.2.2.1
  intro m
  induction m with
  | zero => intro e h1 h2; omega
  | succ m ih =>
    intro e h1 h2
    unfold x7_reaches_58 x7_reaches_123 x7_reaches_92
    rw [show (2 : Int32).toNatClampNeg = 2 from rfl, m70 hM (show 2 < 53 by decide)]
    refine ⟨vq (j := 2) (by decide), ?_⟩
    by_cases z : F 2 ≤ e
    · have : e = F 2 := by omega
      subst this
      rw [if_pos (nI_le z (by omega))]
      exact h
    · rw [if_neg (nI_ge (by omega) (by omega))]
      have ih' := ih (e + 1) (by omega) (by omega)
      have es : mskL (nrP d) (e + 1) = if nrP d e then mskL (nrP d) e ||| 2 ^ e else mskL (nrP d) e := rfl
      have hlt := mskL_64 (nrP d) (n := e) (by omega)
      have hp : 2 ^ e < 64 := Nat.pow_lt_pow_right (n := 6) (by decide) (by omega)
      have hn := near_in d (by omega) e (by omega)
      rw [es] at ih'
      unfold lt
      rw [show nI e + 1 = nI (e + 1) from nI_1 e, show (1 : Int32) <<< (nI e &&& 31) = nI (2 ^ e) from shl1 e (by omega)]
      cases hc : nrP d e with
      | true =>
        rw [hc, if_pos rfl] at ih'
        refine in_t (hn.1 hc).1 (hn.1 hc).2 ?_
        show if _ then _ else _
        rw [if_neg (by decide), orI _ hlt _ hp]
        exact ih'
      | false =>
        rw [hc, if_neg (by decide)] at ih'
        refine in_f (hn.2 hc) ?_
        show if _ then _ else _
        rw [if_pos (by decide), show (0 : Int32) = nI 0 from rfl, orI _ hlt _ (by decide), Nat.or_zero]
        exact ih'
theorem s6_reaches {σ : St} {F : Fn} {k : Int32 → St → Prop} (hC : StC 19 σ F) (hF : WF F) {d w : Nat} (hd : d < F 2) (hw : w < 2) (h : ∀ σ', onl 0 σ σ' → k (if w = 0 then nI (mskL (nrP d) (F 2)) else nI (mts F ^^^ mts (fup (fup F (17 + d) 0) (23 + d) 0))) σ') : x6_reaches (nI d) (nI w) σ k := by
  have h62 := hF.2.2.2.1
  have h63 := hF.2.2.2.2.1
  unfold x6_reaches
  refine s5_hasDoor_t hC.1 h62 hd ?_
  show if _ then _ else _
  rw [if_neg (by decide)]
  refine s6_isBit_t hw ?_
  show if _ then _ else _
  rw [if_neg (by decide)]
  rcases (show w = 0 ∨ w = 1 by omega) with rfl | rfl
  · rw [if_pos (by decide)]
    unfold lt x5_allDoors
    show k (((7 : Int32) <<< (nI d &&& 31)) >>> ((1 : Int32) &&& 31) &&& (((1 : Int32) <<< (σ 19 8 &&& 31)) - 1)) σ
    rw [hC.1, near_bits d (by omega) (F 2) (by omega)]
    exact h σ onl.rf
  · rw [if_neg (by decide)]
    refine s5_takeOver rfl rfl (by decide) hC h62 h63 (fun σ1 c1 c2 => ?_)
    rw [nI_clamp (by omega)]
    unfold lt
    refine ⟨(vpI (by omega)).mpr (by show _ < 6; omega), (vpI (by omega)).mpr (by show _ < 6; omega), ?_⟩
    have hF1 : WF (fup F (17 + d) 0) := hF.up_cgh hd (by decide)
    have hF2 : WF (fup (fup F (17 + d) 0) (23 + d) 0) := hF1.up_dog (by rw [fup_n _ _ (by omega)]; exact hd) (by decide)
    have t1 : StC 28 (st_up σ1 (28 + 3) d 0) (fup F (17 + d) 0) := c1.up_cgh h62 h63 (by omega) 0
    have t2 : StC 28 (st_up (st_up σ1 (28 + 3) d 0) (28 + 4) d 0) (fup (fup F (17 + d) 0) (23 + d) 0) := t1.up_dog (by rw [fup_n _ _ (by omega)]; exact h62) (by rw [fup_n _ _ (by omega)]; exact h63) (by omega) 0
    have fr : frS 28 σ (st_up (st_up σ1 (28 + 3) d 0) (28 + 4) d 0) := (c2.up _ _ (by decide) (by decide)).up _ _ (by decide) (by decide)
    refine s5_meetingNow rfl (hC.fr fr (by decide)) hF ?_
    refine s5_meetingNow rfl t2 hF2 ?_
    rw [xorI (mts F) (mskL_64 _ h63) (mts (fup (fup F (17 + d) 0) (23 + d) 0)) (mskL_64 _ hF2.2.2.2.2.1)]
    have := h _ fr.trial
    rwa [if_neg (by decide)] at this
theorem s7_reaches {σ : St} {F : Fn} {k : Int32 → St → Prop} (hM : StM 70 0 σ F) (hF : WF F) {d w : Nat} (hd : d < F 2) (hw : w < 2) (h : ∀ σ', onl 0 σ σ' → k (if w = 0 then nI (mskL (nrP d) (F 2)) else nI (mts F ^^^ mts (fup (fup F (17 + d) 0) (23 + d) 0))) σ') : x7_reaches (nI d) (nI w) σ k := by
  have h62 := hF.2.2.2.1
  have h63 := hF.2.2.2.2.1
  unfold x7_reaches
  refine s7_isDoorAt_t hM hF hd ?_
  show if _ then _ else _
  rw [if_neg (by decide)]
  refine in_lit_t (m := 1) (by omega) (by decide) ?_
  show if _ then _ else _
  rw [if_neg (by decide), show (0 : Int32) = nI 0 from rfl]
  refine s7_lay (by decide) (by decide) (by decide) (by decide) (by decide) (fun σ1 c1 c2 c3 => ?_)
  have hM1 : StM 72 0 σ1 F := fun j hj => by rw [c1 j hj]; exact hM j hj
  unfold lt
  rw [show (17 : Int32) + nI d = nI (17 + d) from nI_add 17 d, nI_clamp (by omega), show (23 : Int32) + nI d = nI (23 + d) from nI_add 23 d, nI_clamp (by omega)]
  have hF1 : WF (fup F (17 + d) 0) := hF.up_cgh hd (by decide)
  have hF2 : WF (fup (fup F (17 + d) 0) (23 + d) 0) := hF1.up_dog (by rw [fup_n _ _ (by omega)]; exact hd) (by decide)
  have t1 : StM 72 0 (st_up σ1 72 (17 + d) (nI 0)) (fup F (17 + d) 0) := by have := hM1.up (j := 17 + d) 0; rwa [Nat.zero_add] at this
  have t2 : StM 72 0 (st_up (st_up σ1 72 (17 + d) (nI 0)) 72 (23 + d) (nI 0)) (fup (fup F (17 + d) 0) (23 + d) 0) := by have := t1.up (j := 23 + d) 0; rwa [Nat.zero_add] at this
  have fr : ∀ i, i ≠ 72 → st_up (st_up σ1 72 (17 + d) (nI 0)) 72 (23 + d) (nI 0) i = σ i := fun i hi => by rw [st_up_ne _ _ _ hi, st_up_ne _ _ _ hi, c3 i hi]
  have hM2 : StM 70 0 (st_up (st_up σ1 72 (17 + d) (nI 0)) 72 (23 + d) (nI 0)) F := hM.cell (fr 70 (by decide))
  refine ⟨(vpI (by omega)).mpr (by show _ < 53; omega), (vpI (by omega)).mpr (by show _ < 53; omega), 7, ?_⟩
  refine s7_reaches_58 hM2 hF hd ?_ 7 0 (Nat.zero_le _) (by omega)
  have hh := h _ (onl_72 fr)
  rcases (show w = 0 ∨ w = 1 by omega) with rfl | rfl
  · rw [if_pos rfl] at hh
    rw [if_pos (by decide)]; exact hh
  · rw [if_neg (by decide)] at hh
    rw [if_neg (by decide)]
    refine s7_meetersOf rfl hM2 hF ?_
    refine s7_meetersOf rfl t2 hF2 ?_
    rw [xorI (mts F) (mskL_64 _ h63) (mts (fup (fup F (17 + d) 0) (23 + d) 0)) (mskL_64 _ hF2.2.2.2.2.1)]
    exact hh
theorem sp22 : Sp22 Rel := by
  intro a b σ hR
  obtain ⟨F, ⟨hF, h4, hC, hM⟩, hI, n', nx, S, hA⟩ := hR.2.2.2.2.2
  have h62 := hF.2.2.2.1
  by_cases ha : has a (F 2)
  · obtain ⟨d, hd, rfl⟩ := ha
    by_cases hb : has b 2
    · obtain ⟨w, hw, rfl⟩ := hb
      refine s6_reaches hC hF hd hw (fun σ1 o1 => ?_)
      have hM1 : StM 70 0 σ1 F := hM.cell (funext fun j => o1 70 j (show (6 : Nat) ≠ 0 by decide) (show (6 : Nat) ≠ 0 by decide))
      refine s7_reaches hM1 hF hd hw (fun σ2 o2 => ?_)
      exact ⟨rfl, hR.scr (o1.tr o2)⟩
    · unfold x6_reaches x6_reaches_18 x7_reaches x7_reaches_17
      refine s5_hasDoor_t hC.1 h62 hd ?_
      show if _ then _ else _
      rw [if_neg (by decide)]
      refine s6_isBit_f hb ?_
      show if _ then _ else _
      rw [if_pos (by decide)]
      refine s7_isDoorAt_t hM hF hd ?_
      show if _ then _ else _
      rw [if_neg (by decide)]
      refine in_lit_f (m := 1) (by decide) hb ?_
      show if _ then _ else _
      rw [if_pos (by decide)]
      exact ⟨rfl, hR⟩
  · unfold x6_reaches x6_reaches_18 x7_reaches x7_reaches_17
    refine s5_hasDoor_f hC.1 h62 ha ?_
    show if _ then _ else _
    rw [if_pos (by decide)]
    refine s7_isDoorAt_f hM hF ha ?_
    show if _ then _ else _
    rw [if_pos (by decide)]
    exact ⟨rfl, hR⟩
