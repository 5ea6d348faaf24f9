/-! LEAST, by the model: what is laid -/
def erl (b : Nat → Nat) (d : Nat) : Nat := if 1 < d then b (d - 2) % 2 else 0
section LAYM
variable {F : Fn} {M N T : Nat} {b : Nat → Nat}
theorem s7_ll_83 {σ : St} {k : Int32 → St → Prop} {R66 : Int32 → Int32 → Int32 → Int32 → Int32 → Int32 → Int32 → St → Prop} (hM : StM 70 0 σ F) (hF : WF F) (m64 : M < 64) (n64 : N < 64) (hB : Best (ftF F M N) (F 2) b) (hTb : Tbl F M N 0 σ) {d : Nat} (hd : d < F 2) {x3 : Int32} (hk : R66 x3 (nI (tsr b (F 2) 0 - smL (fun i => cst (b i)) (d + 1))) (nI (b d % 2)) (nI (b d / 4)) (nI (b d / 2 % 2)) (nI (pvo b d)) (nI (d + 1)) (st_up σ 77 d (nI (b d)))) : ∀ m e, e ≤ b d → b d < e + m → x7_layLeast_83 (nI M) (nI N) R66 k (m + 1) x3 (nI (tsr b (F 2) 0 - smL (fun i => cst (b i)) d)) (nI (pvo b d)) (if d = 0 then -1 else nI (b (d - 1) / 4)) (if d = 0 then 0 else nI (b (d - 1) / 2 % 2)) (nI (erl b d)) (nI d) (nI 0) (nI e) σ := by
  have h62 := hF.2.2.2.1
  have h24 := (hB.1 d hd).1
  have hb7 := Best_le hB
  have hpv1 : pvo b d ≤ 1 := by unfold pvo; split <;> omega
  have her1 : erl b d ≤ 1 := by unfold erl; split <;> omega
  have s1 := tsr_sm b (F 2 - d) d
  have s2 := tsr_sm b (F 2) 0
  have e0 : smL (fun i => cst (b i)) 0 = 0 := rfl
  rw [show d + (F 2 - d) = F 2 by omega] at s1
  rw [Nat.zero_add] at s2
  have s3 : cst (b d) ≤ tsr b (F 2 - d) d := by
    obtain ⟨n, hn⟩ : ∃ n, F 2 - d = n + 1 := ⟨F 2 - d - 1, by omega⟩
    rw [hn]
    show cst (b d) ≤ cst (b d) + _
    omega
  have s4 : smL (fun i => cst (b i)) (d + 1) = smL (fun i => cst (b i)) d + cst (b d) := rfl
  intro m
  induction m with
  | zero => intro e h1 h2; omega
  | succ m ih =>
    intro e h1 h2
    have nx := fun q => ih (e + 1) q (by omega)
    have hno := fun (q : e < b d) => cnd_no h62 hB hd q
    have hyes := cnd_yes h62 hB hd
    have he24 : e < 24 := by omega
    have r2 : nI e % 2 = nI (e % 2) := remI (d := 2) (by omega) (by decide) (by decide)
    have r3 : nI e / 2 % 2 = nI (e / 2 % 2) := by rw [show (2 : Int32) = nI 2 from rfl, divI (by omega) (by decide) (by decide), remI (by omega) (by decide) (by decide)]
    have r4 : nI e / 4 = nI (e / 4) := divI (d := 4) (by omega) (by decide) (by decide)
    -- behind the one that is laid
    have found : e = b d → x7_layLeast_83 (nI M) (nI N) R66 k (m + 1) x3 (nI (tsr b (F 2) 0 - smL (fun i => cst (b i)) d)) (nI (pvo b d)) (if d = 0 then -1 else nI (b (d - 1) / 4)) (if d = 0 then 0 else nI (b (d - 1) / 2 % 2)) (nI (erl b d)) (nI d) 1 (nI (e + 1)) (st_up σ 77 d (nI e)) := by
      intro q
      have e207 : x7_layLeast_207 (nI M) (nI N) R66 x3 (nI (tsr b (F 2) 0 - smL (fun i => cst (b i)) d)) (nI (pvo b d)) (nI d) (st_up σ 77 d (nI e)) k := by
        unfold x7_layLeast_207 lt
        dsimp only
        rw [nI_clamp (by omega), up_s, r2, r3, r4, nI_add, nI_add, q]
        have v7 : vp_in (nI d) (ln 77) := (vpI (by omega)).mpr (by show _ < 6; omega)
        refine ⟨v7, by decide, v7, by decide, v7, by decide, by decide, ?_⟩
        have ec : b d / 4 + b d / 2 % 2 + b d % 2 = cst (b d) := rfl
        rw [ec, pk_sub (by omega), show nI d + 1 = nI (d + 1) from nI_1 d, show tsr b (F 2) 0 - smL (fun i => cst (b i)) d - cst (b d) = tsr b (F 2) 0 - smL (fun i => cst (b i)) (d + 1) by omega]
        exact hk
      unfold x7_layLeast_83
      by_cases y : 24 ≤ e + 1
      · rw [if_pos (show (24 : Int32) ≤ nI (e + 1) from nI_le y (by omega))]; exact e207
      · rw [if_neg (show ¬ (24 : Int32) ≤ nI (e + 1) from nI_ge (show e + 1 < 24 by omega) (by decide)), if_neg (by decide)]; exact e207
    -- how dear it is
    have e157 : (0 < d → ftF F M N (d - 1) (b (d - 1) / 2) (hpv b d e) = true) → x7_layLeast_157 (nI M) (nI N) R66 (x7_layLeast_83 (nI M) (nI N) R66 k (m + 1)) x3 (nI (tsr b (F 2) 0 - smL (fun i => cst (b i)) d)) (nI (pvo b d)) (if d = 0 then -1 else nI (b (d - 1) / 4)) (if d = 0 then 0 else nI (b (d - 1) / 2 % 2)) (nI (erl b d)) (nI d) (nI 0) (nI e) (nI (2 * pvo b d + e % 2)) 1 σ k := by
      intro hp
      unfold x7_layLeast_157 x7_layLeast_201
      rw [if_neg (by decide), r3, r4]
      refine ⟨by decide, by decide, by decide, ?_⟩
      rw [show e / 4 = e / 2 / 2 by omega]
      refine s7_costBy hM hF hd (by omega) (by omega) m64 n64 (fun x q1 q2 => hTb x (Nat.zero_le _) q2) ?_
      show if _ then _ else _
      have b2 := cbn_le (ft := ftF F M N) (C := CT (ftF F M N) (F 2) (F 2 - d - 1)) (n := F 2 - d - 1) (d := d) (dd := 2 * pvo b d + e % 2) (t := e / 2)
      rw [show nI e + 1 = nI (e + 1) from nI_1 e, nI_clamp (by omega)]
      by_cases q : cbn (ftF F M N) (CT (ftF F M N) (F 2) (F 2 - d - 1)) (F 2 - d - 1) d (2 * pvo b d + e % 2) (e / 2) = tsr b (F 2) 0 - smL (fun i => cst (b i)) d
      · have eb : e = b d := by
          rcases Nat.lt_or_ge e (b d) with y | y
          · exact absurd ⟨hp, q⟩ (hno y)
          · omega
        rw [if_pos (by rw [q])]
        exact ⟨(vpI (by omega)).mpr (by show _ < 6; omega), found eb⟩
      · have eb : e < b d := by
          rcases Nat.lt_or_ge e (b d) with y | y
          · exact y
          · have : e = b d := by omega
            subst this
            exact absurd hyes.2 q
        rw [if_neg (by rw [nI_eq (by omega) (by omega)]; exact q)]
        exact nx (by omega)
    unfold x7_layLeast_83
    rw [if_neg (show ¬ (24 : Int32) ≤ nI e from nI_ge (show e < 24 by omega) (by decide)), if_pos (show nI 0 = 0 from rfl)]
    refine ⟨by decide, ?_⟩
    unfold lt
    dsimp only
    rw [r2, show (2 * nI (pvo b d) + nI (e % 2) : Int32) = nI (2 * pvo b d + e % 2) by rw [show (2 : Int32) = nI 2 from rfl, pk_mul, nI_add]]
    by_cases d0 : d = 0
    · rw [if_pos (show (if d = 0 then -1 else nI (b (d - 1) / 4)) < 0 by rw [if_pos d0]; decide)]
      unfold x7_layLeast_152
      exact e157 (fun q => by omega)
    · have hp24 := (hB.1 (d - 1) (by omega)).1
      have i6 : (if d = 0 then -1 else nI (b (d - 1) / 4)) = nI (b (d - 1) / 4) := if_neg d0
      have i7 : (if d = 0 then 0 else nI (b (d - 1) / 2 % 2)) = nI (b (d - 1) / 2 % 2) := if_neg d0
      rw [i6, i7] at e157 ⊢
      rw [i6, i7] at nx
      have e144 : x7_layLeast_144 (nI M) (nI N) R66 (x7_layLeast_83 (nI M) (nI N) R66 k (m + 1)) x3 (nI (tsr b (F 2) 0 - smL (fun i => cst (b i)) d)) (nI (pvo b d)) (nI (b (d - 1) / 4)) (nI (b (d - 1) / 2 % 2)) (nI (erl b d)) (nI d) (nI 0) (nI e) (nI (2 * pvo b d + e % 2)) (nI (hpv b d e)) (nI (b (d - 1) / 2 % 2)) (nI (b (d - 1) / 4)) (nI d - 1) σ k := by
        unfold x7_layLeast_144 x7_layLeast_152
        have h01 : hpv b d e ≤ 1 := by
          unfold hpv
          rcases h3_01 (if 1 < d then b (d - 2) % 2 else 0) (b (d - 1) % 2) (e % 2) with q | q <;> omega
        rw [show nI d - 1 = nI (d - 1) by rw [show (1 : Int32) = nI 1 from rfl, pk_sub (by omega)]]
        refine s7_fits hM hF (by omega) (by omega) (by omega) h01 m64 n64 ?_
        show if _ then _ else _
        have ef : fit F M N (d - 1) (b (d - 1) / 4) (b (d - 1) / 2 % 2) (hpv b d e) = ftF F M N (d - 1) (b (d - 1) / 2) (hpv b d e) := by
          unfold ftF; rw [show b (d - 1) / 4 = b (d - 1) / 2 / 2 by omega]
        rw [ef]
        cases q : ftF F M N (d - 1) (b (d - 1) / 2) (hpv b d e) with
        | true =>
          rw [if_neg (by decide)]
          exact e157 (fun _ => q)
        | false =>
          rw [if_pos (by decide)]
          unfold x7_layLeast_157 x7_layLeast_201
          rw [if_pos rfl, show nI e + 1 = nI (e + 1) from nI_1 e]
          have eb : e < b d := by
            rcases Nat.lt_or_ge e (b d) with y | y
            · exact y
            · have : e = b d := by omega
              subst this
              have := hyes.1 (by omega)
              rw [q] at this; exact absurd this (by decide)
          exact nx (by omega)
      have hpvE : hpv b d e = h3 (erl b d) (pvo b d) (e % 2) := by
        unfold hpv erl pvo
        rw [if_neg d0]
      rw [if_neg (nI_pos (by omega))]
      unfold x7_layLeast_139
      by_cases c1 : 0 < erl b d
      · have : hpv b d e = 1 := by rw [hpvE]; unfold h3; rw [if_pos (by omega)]
        rw [this] at e144
        rw [if_pos (show (0 : Int32) < nI (erl b d) by rw [show (0 : Int32) = nI 0 from rfl, nI_ltI (by decide) (by omega)]; exact c1)]
        exact e144
      · rw [if_neg (show ¬ (0 : Int32) < nI (erl b d) by rw [show (0 : Int32) = nI 0 from rfl, nI_ltI (by decide) (by omega)]; exact c1)]
        by_cases c2 : 0 < pvo b d
        · have : hpv b d e = 1 := by rw [hpvE]; unfold h3; rw [if_pos (by omega)]
          rw [this] at e144
          rw [if_pos (show (0 : Int32) < nI (pvo b d) by rw [show (0 : Int32) = nI 0 from rfl, nI_ltI (by decide) (by omega)]; exact c2)]
          exact e144
        · rw [if_neg (show ¬ (0 : Int32) < nI (pvo b d) by rw [show (0 : Int32) = nI 0 from rfl, nI_ltI (by decide) (by omega)]; exact c2)]
          by_cases c3 : e % 2 ≤ 0
          · have : hpv b d e = 0 := by rw [hpvE]; unfold h3; rw [if_neg (by omega)]
            rw [this] at e144
            rw [if_pos (show nI (e % 2) ≤ 0 from nI_le c3 (by decide))]
            exact e144
          · have : hpv b d e = 1 := by rw [hpvE]; unfold h3; rw [if_pos (by omega)]
            rw [this] at e144
            rw [if_neg (show ¬ nI (e % 2) ≤ 0 from nI_ge (show 0 < e % 2 by omega) (by omega))]
            exact e144
theorem s7_ll_66 {σ : St} {k : Int32 → St → Prop} (hM : StM 70 0 σ F) (hF : WF F) (m64 : M < 64) (n64 : N < 64) (hB : Best (ftF F M N) (F 2) b) (hTb : Tbl F M N 0 σ) {x3 : Int32} (hk : ∀ σ', (∀ d, d < F 2 → σ' 77 d = nI (b d)) → (∀ i, i ≠ 77 → σ' i = σ i) → k x3 σ') : ∀ m d τ, d ≤ F 2 → F 2 < d + m → (∀ e, e < d → τ 77 e = nI (b e)) → (∀ i, i ≠ 77 → τ i = σ i) → x7_layLeast_66 (nI M) (nI N) k m x3 (nI (tsr b (F 2) 0 - smL (fun i => cst (b i)) d)) (nI (pvo b d)) (if d = 0 then -1 else nI (b (d - 1) / 4)) (if d = 0 then 0 else nI (b (d - 1) / 2 % 2)) (nI (erl b d)) (nI d) τ := by
  have h62 := hF.2.2.2.1
  intro m
  induction m with
  | zero => intro d τ h1 h2; omega
  | succ m ih =>
    intro d τ h1 h2 hl hfr
    have hMt : StM 70 0 τ F := hM.cell (hfr 70 (by decide))
    unfold x7_layLeast_66
    rw [show (2 : Int32).toNatClampNeg = 2 from rfl, m70 hMt (show 2 < 53 by decide)]
    refine ⟨vq (j := 2) (by decide), ?_⟩
    by_cases z : F 2 ≤ d
    · have : d = F 2 := by omega
      subst this
      rw [if_pos (nI_le z (by omega))]
      exact hk τ hl hfr
    · rw [if_neg (nI_ge (by omega) (by omega))]
      have h24 := (hB.1 d (by omega)).1
      refine ⟨26, s7_ll_83 hMt hF m64 n64 hB (hTb.k78 (hfr 78 (by decide))) (by omega) ?_ 25 0 (Nat.zero_le _) (by omega)⟩
      have ih' := ih (d + 1) (st_up τ 77 d (nI (b d))) (by omega) (by omega) (fun e he => ?_) (fun i hi => by rw [st_up_ne _ _ _ hi]; exact hfr i hi)
      · rw [if_neg (show ¬ d + 1 = 0 by omega), if_neg (show ¬ d + 1 = 0 by omega), show d + 1 - 1 = d by omega] at ih'
        have q1 : pvo b (d + 1) = b d % 2 := by unfold pvo; rw [if_neg (by omega), show d + 1 - 1 = d by omega]
        have q2 : erl b (d + 1) = pvo b d := by
          unfold erl pvo
          by_cases y : d = 0
          · rw [if_neg (by omega), if_pos y]
          · rw [if_pos (by omega), if_neg y, show d + 1 - 2 = d - 1 by omega]
        rw [q1, q2] at ih'
        exact ih'
      · by_cases y : e = d
        · subst y; rw [up_s]
        · rw [up_n _ _ (Or.inr y)]; exact hl e (by omega)
theorem s7_layLeast {σ : St} {k : Int32 → St → Prop} (hM : StM 70 0 σ F) (hF : WF F) (h0 : 0 < F 2) (m64 : M < 64) (n64 : N < 64) (hk0 : (¬ ∃ a, Vd (ftF F M N) (F 2) a) → ∀ σ', (∀ i, i ≠ 77 → i ≠ 78 → σ' i = σ i) → k 9999 σ') (hk1 : Best (ftF F M N) (F 2) b → ∀ σ', (∀ d, d < F 2 → σ' 77 d = nI (b d)) → (∀ i, i ≠ 77 → i ≠ 78 → σ' i = σ i) → k (nI (tsr b (F 2) 0)) σ') (hd : Best (ftF F M N) (F 2) b ∨ ¬ ∃ a, Vd (ftF F M N) (F 2) a) : x7_layLeast (nI M) (nI N) σ k := by
  have h62 := hF.2.2.2.1
  unfold x7_layLeast
  refine s7_layCosts hM hF m64 n64 (fun σ1 t1 f1 => ?_)
  have c0 := t1 0 (Nat.le_refl _) h0 0 (by decide)
  have c1 := t1 0 (Nat.le_refl _) h0 1 (by decide)
  have b0 := CT_9 (ft := ftF F M N) (D := F 2) (n := F 2 - 0) (dd := 0)
  have b1 := CT_9 (ft := ftF F M N) (D := F 2) (n := F 2 - 0) (dd := 1)
  rw [show (1 : Int32).toNatClampNeg = 4 * 0 + 1 from rfl, show (0 : Int32).toNatClampNeg = 4 * 0 + 0 from rfl, c0, c1]
  have v0 : vp_in 0 (ln 78) := (vpI (n := 0) (by decide)).mpr (by decide)
  have v1 : vp_in 1 (ln 78) := (vpI (n := 1) (by decide)).mpr (by decide)
  refine ⟨v0, v1, ?_⟩
  have e36 : x7_layLeast_36 (nI M) (nI N) (nI (min (CT (ftF F M N) (F 2) (F 2) 0) (CT (ftF F M N) (F 2) (F 2) 1))) σ1 k := by
    unfold x7_layLeast_36
    rcases hd with hB | hN
    · have hb7 := Best_le hB
      rw [all_yes h0 h62 hB, if_pos (show nI (tsr b (F 2) 0) < 9999 by rw [show (9999 : Int32) = nI 9999 from rfl, nI_ltI (by omega) (by decide)]; omega)]
      refine ⟨F 2 + 1, ?_⟩
      have := s7_ll_66 (σ := σ1) (b := b) (x3 := nI (tsr b (F 2) 0)) (k := k) (hM.cell (f1 70 (by decide))) hF m64 n64 hB t1 (fun σ' l f => hk1 hB σ' l (fun i h1 h2 => by rw [f i h1, f1 i h2])) (F 2 + 1) 0 σ1 (Nat.zero_le _) (by omega) (fun e he => absurd he (Nat.not_lt_zero _)) (fun _ _ => rfl)
      rw [if_pos rfl, if_pos rfl] at this
      exact this
    · rw [all_no h0 hN, if_neg (by decide)]
      exact hk0 hN σ1 (fun i _ h2 => f1 i h2)
  rw [show F 2 - 0 = F 2 from rfl] at b0 b1 ⊢
  by_cases z : CT (ftF F M N) (F 2) (F 2) 1 ≤ CT (ftF F M N) (F 2) (F 2) 0
  · rw [show min (CT (ftF F M N) (F 2) (F 2) 0) (CT (ftF F M N) (F 2) (F 2) 1) = CT (ftF F M N) (F 2) (F 2) 1 by omega] at e36
    rw [if_pos (nI_le z (by omega))]
    exact ⟨v1, e36⟩
  · rw [show min (CT (ftF F M N) (F 2) (F 2) 0) (CT (ftF F M N) (F 2) (F 2) 1) = CT (ftF F M N) (F 2) (F 2) 0 by omega] at e36
    rw [if_neg (nI_ge (by omega) (by omega))]
    exact ⟨v0, e36⟩
end LAYM
