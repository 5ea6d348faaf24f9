/-! ASK -/
def bodyP (nr : Nat) (i1 : Int32) (o2 : Nat) (i3 v3 v4 : Int32) (σ2 : St) (k : Int32 → St → Prop) : Prop := (if i1 = 10 then (vp_in i3 (ln (o2 + 7)) ∧ k (σ2 (o2 + 7) i3.toNatClampNeg) σ2) else (if i1 = 11 then x1_give nr 10 o2 i3 v4 σ2 (fun r5 σ6 => (vp_in v3 6 ∧ x1_give nr (mkB v3.toNatClampNeg) o2 i3 v4 σ6 (fun r7 σ8 => k (r5 + r7) σ8))) else (if i1 = 12 then x1_give nr 11 o2 i3 v4 σ2 (fun r9 σ10 => k (-r9) σ10) else (if i1 = 13 then x1_give nr 10 o2 i3 v4 σ2 (fun r11 σ12 => k (r11 - 100) σ12) else (if i1 = 14 then x1_give nr 13 o2 i3 v4 σ2 (fun r13 σ14 => k (2 * r13) σ14) else (if i1 = 15 then k 0 σ2 else (if i1 = 16 then k 0 σ2 else (if i1 = 17 then k 0 σ2 else (if i1 = 18 then k 0 σ2 else (if i1 = 19 then k 0 σ2 else (if i1 = 20 then k i3 σ2 else (if i1 = 21 then x1_give nr 20 o2 i3 v4 σ2 (fun r15 σ16 => (vp_in i3 (ln (o2 + 6)) ∧ k (r15 + (σ16 (o2 + 6) i3.toNatClampNeg)) σ16)) else (if i1 = 22 then x1_give nr 21 o2 i3 v4 σ2 (fun r17 σ18 => k (r17 - 1000) σ18) else (if i1 = 23 then x1_give nr 20 o2 i3 v4 σ2 (fun r19 σ20 => (vp_in v3 6 ∧ x1_give nr (szB v3.toNatClampNeg) o2 i3 v4 σ20 (fun r21 σ22 => k (r19 - r21) σ22))) else (if i1 = 24 then x1_give nr 21 o2 i3 v4 σ2 (fun r23 σ24 => k (2 * r23) σ24) else k 0 σ2)))))))))))))))
def AT (σ0 σ : St) (l : List Int32) : Prop := σ 63 1 = nI l.length ∧ (∀ i, i < l.length → σ 64 i = l.getD i 0) ∧ (∀ q, q ≠ 63 → q ≠ 64 → σ q = σ0 q) ∧ (∀ j, j ≠ 1 → σ 63 j = σ0 63 j)
def AM (σ0 σ : St) (l : List Int32) : Prop := σ 65 20 = nI l.length ∧ (∀ i, i < l.length → σ 76 i = l.getD i 0) ∧ (∀ q, q ≠ 65 → q ≠ 76 → σ q = σ0 q) ∧ (∀ j, j ≠ 20 → σ 65 j = σ0 65 j)
theorem getD_app {l : List Int32} {b : Int32} {i : Nat} : (i < l.length → (l ++ [b]).getD i 0 = l.getD i 0) ∧ (l ++ [b]).getD l.length 0 = b := by
  constructor
  · intro h
    rw [List.getD_eq_getElem?_getD, List.getD_eq_getElem?_getD, List.getElem?_append_left h]
  · rw [List.getD_eq_getElem?_getD, List.getElem?_append_right (Nat.le_refl _), Nat.sub_self]; rfl
theorem s1_leave {σ0 σ : St} {l : List Int32} {b : Int32} {k : St → Prop} (h : AT σ0 σ l) (hl : l.length < 16) (hk : ∀ σ', AT σ0 σ' (l ++ [b]) → k σ') : x1_leave b σ k := by
  obtain ⟨a1, a2, a3, a4⟩ := h
  unfold x1_leave x1_leave_29 lt
  dsimp only
  rw [a1, if_neg (by rw [show (16 : Int32) = nI 16 from rfl, nI_leI (by decide) (by omega)]; omega), nI_clamp (by omega), st_up_ne _ _ _ (by decide), a1, show nI l.length + 1 = nI (l.length + 1) from nI_1 _]
  refine ⟨(vpI (by omega)).mpr hl, hk _ ⟨?_, fun i hi => ?_, fun q h1 h2 => ?_, fun j hj => ?_⟩⟩
  · rw [up_s, List.length_append]; rfl
  · rw [List.length_append] at hi
    have hi : i < l.length + 1 := hi
    rw [st_up_ne _ _ _ (by decide)]
    by_cases z : i = l.length
    · subst z; rw [up_s, getD_app (i := 0).2]
    · rw [up_n _ _ (Or.inr z), a2 i (by omega), getD_app.1 (by omega)]
  · rw [st_up_ne _ _ _ h1, st_up_ne _ _ _ h2]; exact a3 q h1 h2
  · rw [up_n _ _ (Or.inr hj), st_up_ne _ _ _ (by decide)]; exact a4 j hj
theorem s7_begins {σ0 σ : St} {l : List Int32} {b : Int32} {k : St → Prop} (h : AM σ0 σ l) (hl : l.length < 16) (hk : ∀ σ', AM σ0 σ' (l ++ [b]) → k σ') : x7_begins b σ k := by
  obtain ⟨a1, a2, a3, a4⟩ := h
  unfold x7_begins x7_begins_29 lt
  dsimp only
  rw [a1, if_neg (by rw [show (16 : Int32) = nI 16 from rfl, nI_leI (by decide) (by omega)]; omega), nI_clamp (by omega), st_up_ne _ _ _ (by decide), a1, show nI l.length + 1 = nI (l.length + 1) from nI_1 _]
  refine ⟨(vpI (by omega)).mpr hl, hk _ ⟨?_, fun i hi => ?_, fun q h1 h2 => ?_, fun j hj => ?_⟩⟩
  · rw [up_s, List.length_append]; rfl
  · rw [List.length_append] at hi
    have hi : i < l.length + 1 := hi
    rw [st_up_ne _ _ _ (by decide)]
    by_cases z : i = l.length
    · subst z; rw [up_s, getD_app (i := 0).2]
    · rw [up_n _ _ (Or.inr z), a2 i (by omega), getD_app.1 (by omega)]
  · rw [st_up_ne _ _ _ h1, st_up_ne _ _ _ h2]; exact a3 q h1 h2
  · rw [up_n _ _ (Or.inr hj), st_up_ne _ _ _ (by decide)]; exact a4 j hj
section GIVE
variable {σ0 σ : St} {F : Fn} {c dep nr : Nat} {l : List Int32} {k : Int32 → St → Prop}
theorem give_hd {b : Int32} (hC : StC 19 σ0 F) (hF : WF F) (hc : c < F 3) (hd : dep ≤ 15) (h : AT σ0 σ l) (hl : l.length < 16) (hk : ∀ σ2, AT σ0 σ2 (l ++ [b]) → bodyP nr b 19 (nI c) (nI (F (29 + c))) (nI (dep + 1)) σ2 k) : x1_give (nr + 1) b 19 (nI c) (nI dep) σ k := by
  have h63 := hF.2.2.2.2.1
  unfold x1_give
  rw [if_pos (by rw [show (16 : Int32) = nI 16 from rfl, nI_leI (by omega) (by decide)]; omega)]
  refine s1_leave h hl (fun σ2 h2 => ?_)
  refine ⟨(vpI (by omega)).mpr (by show _ < 6; omega), ?_⟩
  unfold lt
  rw [nI_clamp (by omega), h2.2.2.1 (19 + 5) (by decide) (by decide), (hC.2.2.2.2.2.2 c hc).1, show nI dep + 1 = nI (dep + 1) from nI_1 dep]
  have := hk σ2 h2
  unfold bodyP at this
  rw [nI_clamp (show c < 2 ^ 31 by omega)] at this
  exact this
theorem g10 (hC : StC 19 σ0 F) (hF : WF F) (hc : c < F 3) (hd : dep ≤ 15) (h : AT σ0 σ l) (hl : l.length < 16) (hk : ∀ σ2, AT σ0 σ2 (l ++ [10]) → k (nI (F (35 + c))) σ2) : x1_give (nr + 1) 10 19 (nI c) (nI dep) σ k := by
  have h63 := hF.2.2.2.2.1
  refine give_hd hC hF hc hd h hl (fun σ2 h2 => ?_)
  unfold bodyP
  rw [if_pos rfl, nI_clamp (by omega), h2.2.2.1 (19 + 7) (by decide) (by decide), (hC.2.2.2.2.2.2 c hc).2.2.1]
  exact ⟨(vpI (by omega)).mpr (by show _ < 6; omega), hk σ2 h2⟩
theorem g20 (hC : StC 19 σ0 F) (hF : WF F) (hc : c < F 3) (hd : dep ≤ 15) (h : AT σ0 σ l) (hl : l.length < 16) (hk : ∀ σ2, AT σ0 σ2 (l ++ [20]) → k (nI c) σ2) : x1_give (nr + 1) 20 19 (nI c) (nI dep) σ k := by
  refine give_hd hC hF hc hd h hl (fun σ2 h2 => ?_)
  unfold bodyP
  iterate 10 rw [if_neg (by decide)]
  rw [if_pos rfl]
  exact hk σ2 h2
theorem g21 (hC : StC 19 σ0 F) (hF : WF F) (hc : c < F 3) (hd : dep ≤ 14) (h : AT σ0 σ l) (hl : l.length < 15) (hk : ∀ σ2, AT σ0 σ2 (l ++ [21] ++ [20]) → k (nI c + nI (F (41 + c))) σ2) : x1_give (nr + 2) 21 19 (nI c) (nI dep) σ k := by
  have h63 := hF.2.2.2.2.1
  refine give_hd hC hF hc (by omega) h (by omega) (fun σ2 h2 => ?_)
  unfold bodyP
  iterate 11 rw [if_neg (by decide)]
  rw [if_pos rfl]
  refine g20 hC hF hc (by omega) h2 (by rw [List.length_append]; show l.length + 1 < 16; omega) (fun σ3 h3 => ?_)
  rw [nI_clamp (by omega), h3.2.2.1 (19 + 6) (by decide) (by decide), (hC.2.2.2.2.2.2 c hc).2.1]
  exact ⟨(vpI (by omega)).mpr (by show _ < 6; omega), hk σ3 h3⟩
theorem g13 (hC : StC 19 σ0 F) (hF : WF F) (hc : c < F 3) (hd : dep ≤ 14) (h : AT σ0 σ l) (hl : l.length < 15) (hk : ∀ σ2, AT σ0 σ2 (l ++ [13] ++ [10]) → k (nI (F (35 + c)) - 100) σ2) : x1_give (nr + 2) 13 19 (nI c) (nI dep) σ k := by
  refine give_hd hC hF hc (by omega) h (by omega) (fun σ2 h2 => ?_)
  unfold bodyP
  iterate 3 rw [if_neg (by decide)]
  rw [if_pos rfl]
  exact g10 hC hF hc (by omega) h2 (by rw [List.length_append]; show l.length + 1 < 16; omega) hk
theorem g14 (hC : StC 19 σ0 F) (hF : WF F) (hc : c < F 3) (hd : dep ≤ 13) (h : AT σ0 σ l) (hl : l.length < 14) (hk : ∀ σ2, AT σ0 σ2 (l ++ [14] ++ [13] ++ [10]) → k (2 * (nI (F (35 + c)) - 100)) σ2) : x1_give (nr + 3) 14 19 (nI c) (nI dep) σ k := by
  refine give_hd hC hF hc (by omega) h (by omega) (fun σ2 h2 => ?_)
  unfold bodyP
  iterate 4 rw [if_neg (by decide)]
  rw [if_pos rfl]
  exact g13 hC hF hc (by omega) h2 (by rw [List.length_append]; show l.length + 1 < 15; omega) hk
theorem g22 (hC : StC 19 σ0 F) (hF : WF F) (hc : c < F 3) (hd : dep ≤ 13) (h : AT σ0 σ l) (hl : l.length < 14) (hk : ∀ σ2, AT σ0 σ2 (l ++ [22] ++ [21] ++ [20]) → k (nI c + nI (F (41 + c)) - 1000) σ2) : x1_give (nr + 3) 22 19 (nI c) (nI dep) σ k := by
  refine give_hd hC hF hc (by omega) h (by omega) (fun σ2 h2 => ?_)
  unfold bodyP
  iterate 12 rw [if_neg (by decide)]
  rw [if_pos rfl]
  exact g21 hC hF hc (by omega) h2 (by rw [List.length_append]; show l.length + 1 < 15; omega) hk
theorem g24 (hC : StC 19 σ0 F) (hF : WF F) (hc : c < F 3) (hd : dep ≤ 13) (h : AT σ0 σ l) (hl : l.length < 14) (hk : ∀ σ2, AT σ0 σ2 (l ++ [24] ++ [21] ++ [20]) → k (2 * (nI c + nI (F (41 + c)))) σ2) : x1_give (nr + 3) 24 19 (nI c) (nI dep) σ k := by
  refine give_hd hC hF hc (by omega) h (by omega) (fun σ2 h2 => ?_)
  unfold bodyP
  iterate 14 rw [if_neg (by decide)]
  rw [if_pos rfl]
  exact g21 hC hF hc (by omega) h2 (by rw [List.length_append]; show l.length + 1 < 15; omega) hk
theorem g11 (hC : StC 19 σ0 F) (hF : WF F) (hc : c < F 3) (hd : dep ≤ 14) (h : AT σ0 σ l) (hl : l.length < 15) (hk : ∀ σ2, AT σ0 σ2 (l ++ [11] ++ [10]) → x1_give (nr + 1) (mkB (F (29 + c))) 19 (nI c) (nI (dep + 1)) σ2 (fun r7 σ8 => k (nI (F (35 + c)) + r7) σ8)) : x1_give (nr + 2) 11 19 (nI c) (nI dep) σ k := by
  have hw := hF.2.2.2.2.2.2.2.1 c hc
  refine give_hd hC hF hc (by omega) h (by omega) (fun σ2 h2 => ?_)
  unfold bodyP
  rw [if_neg (by decide), if_pos rfl]
  refine g10 hC hF hc (by omega) h2 (by rw [List.length_append]; show l.length + 1 < 16; omega) (fun σ3 h3 => ?_)
  rw [nI_clamp (by omega)]
  exact ⟨(vpI (by omega)).mpr (by omega), hk σ3 h3⟩
theorem g12 (hC : StC 19 σ0 F) (hF : WF F) (hc : c < F 3) (hd : dep ≤ 14) (h : AT σ0 σ l) (hl : l.length < 15) (hk : ∀ σ2, AT σ0 σ2 (l ++ [12]) → x1_give nr 11 19 (nI c) (nI (dep + 1)) σ2 (fun r7 σ8 => k (-r7) σ8)) : x1_give (nr + 1) 12 19 (nI c) (nI dep) σ k := by
  refine give_hd hC hF hc (by omega) h (by omega) (fun σ2 h2 => ?_)
  unfold bodyP
  iterate 2 rw [if_neg (by decide)]
  rw [if_pos rfl]
  exact hk σ2 h2
theorem g23 (hC : StC 19 σ0 F) (hF : WF F) (hc : c < F 3) (hd : dep ≤ 14) (h : AT σ0 σ l) (hl : l.length < 15) (hk : ∀ σ2, AT σ0 σ2 (l ++ [23] ++ [20]) → x1_give (nr + 1) (szB (F (29 + c))) 19 (nI c) (nI (dep + 1)) σ2 (fun r7 σ8 => k (nI c - r7) σ8)) : x1_give (nr + 2) 23 19 (nI c) (nI dep) σ k := by
  have hw := hF.2.2.2.2.2.2.2.1 c hc
  refine give_hd hC hF hc (by omega) h (by omega) (fun σ2 h2 => ?_)
  unfold bodyP
  iterate 13 rw [if_neg (by decide)]
  rw [if_pos rfl]
  refine g20 hC hF hc (by omega) h2 (by rw [List.length_append]; show l.length + 1 < 16; omega) (fun σ3 h3 => ?_)
  rw [nI_clamp (by omega)]
  exact ⟨(vpI (by omega)).mpr (by omega), hk σ3 h3⟩
end GIVE
def askL (K w : Nat) : List Int32 := if w = 0 then (if K = 1 then [11, 10, 21, 20] else if K = 2 then [12, 11, 10, 24, 21, 20] else if K = 3 then [11, 10, 22, 21, 20] else if K = 4 then [13, 10] else [14, 13, 10]) else (if K = 1 then [21, 20] else if K = 2 then [24, 21, 20] else if K = 3 then [22, 21, 20] else if K = 4 then [23, 20, 13, 10] else [23, 20, 14, 13, 10])
def askV (K w : Nat) (c a p : Int32) : Int32 := if w = 0 then (if K = 1 then p + (c + a) else if K = 2 then -(p + 2 * (c + a)) else if K = 3 then p + (c + a - 1000) else if K = 4 then p - 100 else 2 * (p - 100)) else (if K = 1 then c + a else if K = 2 then 2 * (c + a) else if K = 3 then c + a - 1000 else if K = 4 then c - (p - 100) else c - 2 * (p - 100))
theorem s6_ask {σ : St} {F : Fn} {k : Int32 → St → Prop} (hC : StC 19 σ F) (hF : WF F) {c w : Nat} (hc : c < F 3) (hw : w < 2) (hk : ∀ σ', AT σ σ' (askL (F (29 + c)) w) → k (askV (F (29 + c)) w (nI c) (nI (F (41 + c))) (nI (F (35 + c)))) σ') : x6_ask (nI c) (nI w) σ k := by
  have h63 := hF.2.2.2.2.1
  have hK := (hF.2.2.2.2.2.2.2.1 c hc).1
  unfold x6_ask
  refine s5_hasCaller_t hC.2.1 h63 hc ?_
  show if _ then _ else _
  rw [if_neg (by decide)]
  refine s6_isBit_t hw ?_
  show if _ then _ else _
  rw [if_neg (by decide)]
  unfold x1_answer x1_answer_33 lt
  dsimp only
  rw [nI_clamp (by omega), st_up_ne _ _ _ (by decide), (hC.2.2.2.2.2.2 c hc).1, nI_clamp (by omega)]
  refine ⟨(vpI (by omega)).mpr (by show _ < 6; omega), ?_⟩
  have A0 : AT σ (st_up σ 63 1 0) [] := ⟨up_s _ _ _ _, fun i hi => absurd hi (Nat.not_lt_zero _), fun q h1 h2 => st_up_ne _ _ _ h1, fun j hj => up_n _ _ (Or.inr hj)⟩
  have v : vp_in (nI (F (29 + c))) 6 := (vpI (by omega)).mpr (by omega)
  have z0 : (0 : Int32) = nI 0 := rfl
  rcases (show w = 0 ∨ w = 1 by omega) with rfl | rfl
  · rw [if_pos (by decide), z0]
    refine ⟨v, ?_⟩
    rcases (show F (29 + c) = 1 ∨ F (29 + c) = 2 ∨ F (29 + c) = 3 ∨ F (29 + c) = 4 ∨ F (29 + c) = 5 by omega) with e | e | e | e | e
    · rw [e] at hk ⊢
      refine g11 (nr := 6) hC hF hc (by decide) A0 (by decide) (fun σ2 h2 => ?_)
      rw [e]
      exact g21 (nr := 5) hC hF hc (by decide) h2 (by decide) (fun σ3 h3 => hk σ3 h3)
    · rw [e] at hk ⊢
      refine g12 (nr := 7) hC hF hc (by decide) A0 (by decide) (fun σ2 h2 => ?_)
      refine g11 (nr := 5) hC hF hc (by decide) h2 (by decide) (fun σ3 h3 => ?_)
      rw [e]
      exact g24 (nr := 3) hC hF hc (by decide) h3 (by decide) (fun σ4 h4 => hk σ4 h4)
    · rw [e] at hk ⊢
      refine g11 (nr := 6) hC hF hc (by decide) A0 (by decide) (fun σ2 h2 => ?_)
      rw [e]
      exact g22 (nr := 4) hC hF hc (by decide) h2 (by decide) (fun σ3 h3 => hk σ3 h3)
    · rw [e] at hk ⊢
      exact g13 (nr := 6) hC hF hc (by decide) A0 (by decide) (fun σ3 h3 => hk σ3 h3)
    · rw [e] at hk ⊢
      exact g14 (nr := 5) hC hF hc (by decide) A0 (by decide) (fun σ3 h3 => hk σ3 h3)
  · rw [if_neg (by decide), z0]
    refine ⟨v, ?_⟩
    rcases (show F (29 + c) = 1 ∨ F (29 + c) = 2 ∨ F (29 + c) = 3 ∨ F (29 + c) = 4 ∨ F (29 + c) = 5 by omega) with e | e | e | e | e
    · rw [e] at hk ⊢
      exact g21 (nr := 6) hC hF hc (by decide) A0 (by decide) (fun σ3 h3 => hk σ3 h3)
    · rw [e] at hk ⊢
      exact g24 (nr := 5) hC hF hc (by decide) A0 (by decide) (fun σ4 h4 => hk σ4 h4)
    · rw [e] at hk ⊢
      exact g22 (nr := 5) hC hF hc (by decide) A0 (by decide) (fun σ3 h3 => hk σ3 h3)
    · rw [e] at hk ⊢
      refine g23 (nr := 6) hC hF hc (by decide) A0 (by decide) (fun σ2 h2 => ?_)
      rw [e]
      exact g13 (nr := 5) hC hF hc (by decide) h2 (by decide) (fun σ3 h3 => hk σ3 h3)
    · rw [e] at hk ⊢
      refine g23 (nr := 6) hC hF hc (by decide) A0 (by decide) (fun σ2 h2 => ?_)
      rw [e]
      exact g14 (nr := 4) hC hF hc (by decide) h2 (by decide) (fun σ3 h3 => hk σ3 h3)
section TELL
variable {σ0 σ : St} {F : Fn} {c : Nat} {l : List Int32} {k : Int32 → St → Prop}
theorem t_kind (hM : StM 70 0 σ0 F) (hc : c < 6) (h : AM σ0 σ l) (hk : k (nI (F (29 + c))) σ) : x7_kindOf (nI c) σ k := by
  unfold x7_kindOf
  rw [show (29 : Int32) + nI c = nI (29 + c) from nI_add 29 c, nI_clamp (by omega), h.2.2.1 70 (by decide) (by decide), m70 hM (by omega)]
  exact ⟨vq (by omega), hk⟩
theorem t_guest (hM : StM 70 0 σ0 F) (hc : c < 6) (h : AM σ0 σ l) (hl : l.length < 15) (hk : ∀ σ2, AM σ0 σ2 (l ++ [21] ++ [20]) → k (nI c + nI (F (41 + c))) σ2) : x7_markGuest (nI c) σ k := by
  unfold x7_markGuest
  refine s7_begins h (by omega) (fun σ2 h2 => ?_)
  refine s7_begins h2 (by rw [List.length_append]; show l.length + 1 < 16; omega) (fun σ3 h3 => ?_)
  rw [show (41 : Int32) + nI c = nI (41 + c) from nI_add 41 c, nI_clamp (by omega), h3.2.2.1 70 (by decide) (by decide), m70 hM (by omega)]
  exact ⟨vq (by omega), hk σ3 h3⟩
theorem t_post (hM : StM 70 0 σ0 F) (hc : c < 6) (h : AM σ0 σ l) (hl : l.length < 15) (hk : ∀ σ2, AM σ0 σ2 (l ++ [13] ++ [10]) → k (nI (F (35 + c)) - 100) σ2) : x7_sizePost (nI c) σ k := by
  unfold x7_sizePost
  refine s7_begins h (by omega) (fun σ2 h2 => ?_)
  refine s7_begins h2 (by rw [List.length_append]; show l.length + 1 < 16; omega) (fun σ3 h3 => ?_)
  rw [show (35 : Int32) + nI c = nI (35 + c) from nI_add 35 c, nI_clamp (by omega), h3.2.2.1 70 (by decide) (by decide), m70 hM (by omega)]
  exact ⟨vq (by omega), hk σ3 h3⟩
theorem t_47 {i2 : Int32} (hM : StM 70 0 σ0 F) (hc : c < 6) (h : AM σ0 σ l) (hl : l.length < 15) (hk : ∀ σ2, AM σ0 σ2 (l ++ [11] ++ [10]) → x7_markPlain (nI c) σ2 (fun r15 σ16 => if i2 = 2 then k (-(nI (F (35 + c)) + r15)) σ16 else k (nI (F (35 + c)) + r15) σ16)) : x7_sizeOf_47 (nI c) i2 σ k := by
  unfold x7_sizeOf_47 x7_sizeOf_86 lt
  refine s7_begins h (by omega) (fun σ2 h2 => ?_)
  refine s7_begins h2 (by rw [List.length_append]; show l.length + 1 < 16; omega) (fun σ3 h3 => ?_)
  rw [show (35 : Int32) + nI c = nI (35 + c) from nI_add 35 c, nI_clamp (by omega), h3.2.2.1 70 (by decide) (by decide), m70 hM (by omega)]
  exact ⟨vq (by omega), hk σ3 h3⟩
end TELL
theorem s7_ask {σ : St} {F : Fn} {k : Int32 → St → Prop} (hM : StM 70 0 σ F) (hF : WF F) {c w : Nat} (hc : c < F 3) (hw : w < 2) (hk : ∀ σ', AM σ σ' (askL (F (29 + c)) w) → k (askV (F (29 + c)) w (nI c) (nI (F (41 + c))) (nI (F (35 + c)))) σ') : x7_ask (nI c) (nI w) σ k := by
  have h63 := hF.2.2.2.2.1
  have hK := (hF.2.2.2.2.2.2.2.1 c hc).1
  have hc6 : c < 6 := by omega
  unfold x7_ask x7_ask_42
  refine s7_isOne_t hM hF hc ?_
  show if _ then _ else _
  rw [if_neg (by decide)]
  refine in_lit_t (m := 1) (by omega) (by decide) ?_
  show if _ then _ else _
  rw [if_neg (by decide)]
  unfold lt
  show if _ then _ else _
  have A0 : AM σ (st_up σ 65 20 0) [] := ⟨up_s _ _ _ _, fun i hi => absurd hi (Nat.not_lt_zero _), fun q h1 h2 => st_up_ne _ _ _ h1, fun j hj => up_n _ _ (Or.inr hj)⟩
  rcases (show w = 0 ∨ w = 1 by omega) with rfl | rfl
  · rw [if_pos (by decide)]
    unfold x7_sizeOf
    refine t_kind hM hc6 A0 ?_
    show if _ then _ else _
    rcases (show F (29 + c) = 1 ∨ F (29 + c) = 2 ∨ F (29 + c) = 3 ∨ F (29 + c) = 4 ∨ F (29 + c) = 5 by omega) with e | e | e | e | e
    · rw [e] at hk ⊢
      rw [if_neg (by decide), if_neg (by decide), if_neg (by decide)]
      refine t_47 hM hc6 A0 (by decide) (fun σ2 h2 => ?_)
      unfold x7_markPlain
      refine t_kind hM hc6 h2 ?_
      show if _ then _ else _
      rw [e, if_neg (by decide), if_neg (by decide)]
      refine t_guest hM hc6 h2 (by decide) (fun σ3 h3 => ?_)
      show if _ then _ else _
      rw [if_neg (by decide)]
      exact hk σ3 h3
    · rw [e] at hk ⊢
      rw [if_neg (by decide), if_neg (by decide), if_pos (by decide)]
      refine s7_begins A0 (by decide) (fun σ1 h1 => ?_)
      refine t_47 hM hc6 h1 (by decide) (fun σ2 h2 => ?_)
      unfold x7_markPlain
      refine t_kind hM hc6 h2 ?_
      show if _ then _ else _
      rw [e, if_pos (by decide)]
      refine s7_begins h2 (by decide) (fun σ5 h5 => ?_)
      refine t_guest hM hc6 h5 (by decide) (fun σ3 h3 => ?_)
      show if _ then _ else _
      rw [if_pos (by decide)]
      exact hk σ3 h3
    · rw [e] at hk ⊢
      rw [if_neg (by decide), if_neg (by decide), if_neg (by decide)]
      refine t_47 hM hc6 A0 (by decide) (fun σ2 h2 => ?_)
      unfold x7_markPlain
      refine t_kind hM hc6 h2 ?_
      show if _ then _ else _
      rw [e, if_neg (by decide), if_pos (by decide)]
      refine s7_begins h2 (by decide) (fun σ5 h5 => ?_)
      refine t_guest hM hc6 h5 (by decide) (fun σ3 h3 => ?_)
      show if _ then _ else _
      rw [if_neg (by decide)]
      exact hk σ3 h3
    · rw [e] at hk ⊢
      rw [if_neg (by decide), if_pos (by decide)]
      exact t_post hM hc6 A0 (by decide) (fun σ3 h3 => hk σ3 h3)
    · rw [e] at hk ⊢
      rw [if_pos (by decide)]
      refine s7_begins A0 (by decide) (fun σ5 h5 => ?_)
      exact t_post hM hc6 h5 (by decide) (fun σ3 h3 => hk σ3 h3)
  · rw [if_neg (by decide)]
    unfold x7_markOf
    refine t_kind hM hc6 A0 ?_
    show if _ then _ else _
    rcases (show F (29 + c) = 1 ∨ F (29 + c) = 2 ∨ F (29 + c) = 3 ∨ F (29 + c) = 4 ∨ F (29 + c) = 5 by omega) with e | e | e | e | e
    · rw [e] at hk ⊢
      rw [if_neg (by decide)]
      unfold x7_markPlain
      refine t_kind hM hc6 A0 ?_
      show if _ then _ else _
      rw [e, if_neg (by decide), if_neg (by decide)]
      exact t_guest hM hc6 A0 (by decide) (fun σ3 h3 => hk σ3 h3)
    · rw [e] at hk ⊢
      rw [if_neg (by decide)]
      unfold x7_markPlain
      refine t_kind hM hc6 A0 ?_
      show if _ then _ else _
      rw [e, if_pos (by decide)]
      refine s7_begins A0 (by decide) (fun σ5 h5 => ?_)
      exact t_guest hM hc6 h5 (by decide) (fun σ3 h3 => hk σ3 h3)
    · rw [e] at hk ⊢
      rw [if_neg (by decide)]
      unfold x7_markPlain
      refine t_kind hM hc6 A0 ?_
      show if _ then _ else _
      rw [e, if_neg (by decide), if_pos (by decide)]
      refine s7_begins A0 (by decide) (fun σ5 h5 => ?_)
      exact t_guest hM hc6 h5 (by decide) (fun σ3 h3 => hk σ3 h3)
    · rw [e] at hk ⊢
      rw [if_pos (by decide)]
      refine s7_begins A0 (by decide) (fun σ5 h5 => ?_)
      refine s7_begins h5 (by decide) (fun σ6 h6 => ?_)
      unfold x7_sizeOf
      refine t_kind hM hc6 h6 ?_
      show if _ then _ else _
      rw [e, if_neg (by decide), if_pos (by decide)]
      exact t_post hM hc6 h6 (by decide) (fun σ3 h3 => hk σ3 h3)
    · rw [e] at hk ⊢
      rw [if_pos (by decide)]
      refine s7_begins A0 (by decide) (fun σ5 h5 => ?_)
      refine s7_begins h5 (by decide) (fun σ6 h6 => ?_)
      unfold x7_sizeOf
      refine t_kind hM hc6 h6 ?_
      show if _ then _ else _
      rw [e, if_pos (by decide)]
      refine s7_begins h6 (by decide) (fun σ7 h7 => ?_)
      exact t_post hM hc6 h7 (by decide) (fun σ3 h3 => hk σ3 h3)
theorem askL_len (K w : Nat) : (askL K w).length ≤ 16 := by
  unfold askL; repeat' split
  all_goals decide
theorem sp29 : Sp29 Rel := by
  intro a b σ hR
  obtain ⟨F, ⟨hF, h4, hC, hM⟩, hI, n', nx, S, hA⟩ := hR.2.2.2.2.2
  have h63 := hF.2.2.2.2.1
  by_cases ha : has a (F 3)
  · obtain ⟨c, hc, rfl⟩ := ha
    by_cases hb : has b 2
    · obtain ⟨w, hw, rfl⟩ := hb
      refine s6_ask hC hF hc hw (fun σ1 o1 => ?_)
      have hM1 : StM 70 0 σ1 F := hM.cell (o1.2.2.1 70 (by decide) (by decide))
      refine s7_ask hM1 hF hc hw (fun σ2 o2 => ?_)
      obtain ⟨p1, p2, p3, p4⟩ := o1
      obtain ⟨q1, q2, q3, q4⟩ := o2
      refine ⟨rfl, hR.m5 (fun i j h1 h2 => ?_) ⟨(askL (F (29 + c)) w).length, askL_len _ _, ?_, q1, fun i hi => ?_⟩⟩
      · have n64 : i ≠ 64 := fun z => h2 (by subst z; rfl)
        have n76 : i ≠ 76 := fun z => h2 (by subst z; rfl)
        have s2 : σ2 i j = σ1 i j := by
          by_cases z : i = 65
          · subst z; exact q4 j (fun y => h2 (by subst y; rfl))
          · rw [q3 i z n76]
        have s1 : σ1 i j = σ i j := by
          by_cases z : i = 63
          · subst z; exact p4 j (fun y => h2 (by subst y; rfl))
          · rw [p3 i z n64]
        rw [s2, s1]
      · rw [q3 63 (by decide) (by decide)]; exact p1
      · rw [q3 64 (by decide) (by decide), p2 i hi, q2 i hi]
    · unfold x6_ask x6_ask_18 x7_ask x7_ask_17
      refine s5_hasCaller_t hC.2.1 h63 hc ?_
      show if _ then _ else _
      rw [if_neg (by decide)]
      refine s6_isBit_f hb ?_
      show if _ then _ else _
      rw [if_pos (by decide)]
      refine s7_isOne_t hM hF hc ?_
      show if _ then _ else _
      rw [if_neg (by decide)]
      refine in_lit_f (m := 1) (by decide) hb ?_
      show if _ then _ else _
      rw [if_pos (by decide)]
      exact ⟨rfl, hR⟩
  · unfold x6_ask x6_ask_18 x7_ask x7_ask_17
    refine s5_hasCaller_f hC.2.1 h63 ha ?_
    show if _ then _ else _
    rw [if_pos (by decide)]
    refine s7_isOne_f hM hF ha ?_
    show if _ then _ else _
    rw [if_pos (by decide)]
    exact ⟨rfl, hR⟩
