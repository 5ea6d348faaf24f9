/-! SLEEPS, by the model -/
theorem jN_div {a b : Nat} (ha : a < 2 ^ 62) (hb : b < 2 ^ 62) : jN a / jN b = jN (a / b) := by
  apply Int64.toInt_inj.mp
  have h := Nat.div_le_self a b
  rw [Int64.toInt_div, jN_toInt (by omega), jN_toInt (by omega), jN_toInt (by omega), ← Int.ofNat_tdiv]
  generalize a / b = q at *
  exact Int.bmod_eq_of_le (by omega) (by omega)
theorem cmp_pos {b : Nat} (hb : b < 2 ^ 62) : (lg_cmp (jN b) 0 ≤ 0) ↔ b = 0 := by
  unfold lg_cmp
  by_cases z : b = 0
  · subst z
    have : ¬ jN 0 > 0 := by decide
    rw [if_neg this, if_pos (by decide)]
    exact ⟨fun _ => rfl, fun _ => by decide⟩
  · have : jN b > 0 := by
      show (0 : Int64) < jN b
      rw [Int64.lt_iff_toInt_lt, jN_toInt (by omega)]
      show (0 : Int) < b
      omega
    rw [if_pos this]
    exact ⟨fun q => absurd q (by decide), fun q => absurd q z⟩
theorem s7_sl_269 {x1 x2 : Int32} {w x y : Nat} {σ : St} {k : Int64 → St → Prop} (hw : w < 2) (hx : x < 2 ^ 62) (hy : y < 2 ^ 62) : ∀ b a, a < 2 ^ 62 → b < 2 ^ 62 → 0 < Nat.gcd a b → Nat.gcd a b < 2 ^ 62 → k (jN ((if w = 0 then x else y) / Nat.gcd a b)) σ → ∃ n, x7_sleeps_269 x1 x2 (nI w) k n (jN x) (jN y) (jN a) (jN b) σ := by
  intro b
  induction b using Nat.strongRecOn with
  | _ b ih =>
    intro a ha hb g0 g1 hk
    by_cases z : b = 0
    · subst z
      rw [Nat.gcd_zero_right] at hk g0
      refine ⟨1, ?_⟩
      unfold x7_sleeps_269 x7_sleeps_305
      rw [if_pos ((cmp_pos hb).mpr rfl)]
      have nz : ¬ jN a = 0 := by rw [show (0 : Int64) = jN 0 from rfl, jN_eq (by omega) (by decide)]; omega
      rcases (show w = 0 ∨ w = 1 by omega) with rfl | rfl
      · rw [if_pos rfl] at hk
        rw [if_pos (by decide), jN_div hx ha]; exact ⟨nz, hk⟩
      · rw [if_neg (by decide)] at hk
        rw [if_neg (by decide), jN_div hy ha]; exact ⟨nz, hk⟩
    · have e : Nat.gcd a b = Nat.gcd b (a % b) := by rw [Nat.gcd_comm a b, Nat.gcd_rec b a, Nat.gcd_comm]
      have hm := Nat.mod_lt a (show 0 < b by omega)
      rw [e] at hk g0 g1
      obtain ⟨n, hn⟩ := ih (a % b) hm b hb (by omega) g0 g1 hk
      refine ⟨n + 1, ?_⟩
      unfold x7_sleeps_269
      rw [if_neg (fun q => z ((cmp_pos hb).mp q)), jN_mod (by omega) (by omega)]
      exact ⟨by rw [show (0 : Int64) = jN 0 from rfl, jN_eq (by omega) (by decide)]; exact z, hn⟩
theorem s7_sl_236 {x1 x2 : Int32} {w x : Nat} {σ : St} {F : Fn} {k : Int64 → St → Prop} (hM : StM 70 0 σ F) (hF : WF F) (hw : w < 2) (hx : x < 2 ^ 62) (hk : k (jN ((if w = 0 then x else 10 ^ F 2) / Nat.gcd x (10 ^ F 2))) σ) : ∀ m d, d ≤ F 2 → F 2 < d + m → x7_sleeps_236 x1 x2 (nI w) k m (jN x) (jN (10 ^ d)) (nI d) σ := by
  have h62 := hF.2.2.2.1
  intro m
  induction m with
  | zero => intro d h1 h2; omega
  | succ m ih =>
    intro d h1 h2
    unfold x7_sleeps_236
    rw [show (2 : Int32).toNatClampNeg = 2 from rfl, m70 hM (show 2 < 53 by decide)]
    refine ⟨vq (j := 2) (by decide), ?_⟩
    by_cases z : F 2 ≤ d
    · have : d = F 2 := by omega
      subst this
      rw [if_pos (nI_le z (by omega))]
      have h10 : 10 ^ F 2 ≤ 10 ^ 6 := Nat.pow_le_pow_right (by decide) h62
      have hp : 0 < 10 ^ F 2 := Nat.pow_pos (by decide)
      have hlt : 10 ^ F 2 < 2 ^ 62 := by omega
      have hg := Nat.gcd_le_right x hp
      exact s7_sl_269 hw hx hlt (10 ^ F 2) x hx hlt (Nat.gcd_pos_of_pos_right _ hp) (by omega) hk
    · rw [if_neg (nI_ge (by omega) (by omega)), show (10 : Int64) = jN 10 from rfl, jN_mul]
      unfold lt
      rw [show nI d + 1 = nI (d + 1) from nI_1 d]
      exact ih (d + 1) (by omega) (by omega)
theorem pm_same {m n : Nat} (h : m / 2 ^ n % 2 = 0) : ∀ e, pm m n e = pm m (n + 1) e := by
  intro e
  unfold pm
  by_cases z : e = n
  · subst z
    have : bt m e = false := by unfold bt; rw [h]; rfl
    rw [this, Bool.and_false, Bool.and_false]
  · by_cases y : e < n
    · rw [decide_eq_true y, decide_eq_true (show e < n + 1 by omega)]
    · rw [decide_eq_false y, decide_eq_false (show ¬ e < n + 1 by omega)]
theorem s7_sl_69 {x3 : Int32} {σ : St} {F : Fn} {k : Int64 → St → Prop} {R37 : Int64 → Int32 → St → Prop} (hM : StM 70 0 σ F) (hF : WF F) {c p m u : Nat} (hc : c < F 3) (hp : p ≤ 10) (hm : m < 64) (hk : ∀ σ', (∀ i, i ≠ 72 → σ' i = σ i) → R37 (jN (u + if mt (clr F (pm m (F 2))) c then prL (wgt p m) (F 2) else 0)) (nI (m + 1)) σ') : ∀ n d τ, d ≤ F 2 → F 2 < d + n → StM 72 0 τ (clr F (pm m d)) → (∀ i, i ≠ 72 → τ i = σ i) → x7_sleeps_69 (nI c) (nI p) x3 R37 k n (jN u) (nI m) (jN (prL (wgt p m) d)) (nI d) τ := by
  have h62 := hF.2.2.2.1
  have h63 := hF.2.2.2.2.1
  intro n
  induction n with
  | zero => intro d τ h1 h2; omega
  | succ n ih =>
    intro d τ h1 h2 hS hfr
    have hMt : StM 70 0 τ F := hM.cell (hfr 70 (by decide))
    have w0 := clr_WF hF (pm m d)
    unfold x7_sleeps_69
    rw [show (2 : Int32).toNatClampNeg = 2 from rfl, m70 hMt (show 2 < 53 by decide)]
    refine ⟨vq (j := 2) (by decide), ?_⟩
    by_cases z : F 2 ≤ d
    · have : d = F 2 := by omega
      subst this
      rw [if_pos (nI_le z (by omega))]
      refine s7_doesMeet rfl hS w0 (by rw [clr_o _ _ (by decide)]; exact hc) ?_
      have hh := hk τ hfr
      unfold x7_sleeps_221 lt
      show if _ then _ else _
      rw [show nI m + 1 = nI (m + 1) from nI_1 m]
      cases e : mt (clr F (pm m (F 2))) c with
      | true =>
        rw [e, if_pos rfl] at hh
        rw [if_neg (by decide), jN_add]; exact hh
      | false =>
        rw [e, if_neg (by decide)] at hh
        rw [if_pos (by decide), show (0 : Int64) = jN 0 from rfl, jN_add]; exact hh
    · rw [if_neg (nI_ge (by omega) (by omega))]
      refine s7_has hm (by omega) ?_
      have ew : prL (wgt p m) (d + 1) = prL (wgt p m) d * wgt p m d := rfl
      have v70 : ∀ j, j < 53 → vp_in (nI j) (ln 70) := fun j hj => vq hj
      have v72 : ∀ j, j < 53 → vp_in (nI j) (ln 72) := fun j hj => (vpI (by omega)).mpr hj
      have e11 : (11 : Int32) + nI d = nI (11 + d) := nI_add 11 d
      have e17 : (17 : Int32) + nI d = nI (17 + d) := nI_add 17 d
      have e23 : (23 : Int32) + nI d = nI (23 + d) := nI_add 23 d
      show if _ then _ else _
      unfold x7_sleeps_106 x7_sleeps_137 x7_sleeps_166 x7_sleeps_195 lt
      dsimp only
      rw [e11, e17, e23, nI_clamp (by omega), nI_clamp (by omega), nI_clamp (by omega), show nI d + 1 = nI (d + 1) from nI_1 d]
      by_cases b : m / 2 ^ d % 2 = 1
      · have wj : wgt p m d = p := by unfold wgt; rw [if_pos b]
        rw [wj] at ew
        rw [b, if_neg (by decide), nI_64 (by omega), jN_mul, ← ew, if_neg (by decide), if_neg (by decide), if_neg (by decide)]
        refine ⟨v72 _ (by omega), v72 _ (by omega), v72 _ (by omega), ?_⟩
        have t1 := hS.up (j := 11 + d) 0
        rw [Nat.zero_add] at t1
        have t2 := t1.up (j := 17 + d) 0
        rw [Nat.zero_add] at t2
        have t3 := t2.up (j := 23 + d) 0
        rw [Nat.zero_add] at t3
        refine ih (d + 1) _ (by omega) (by omega) (t3.congr (clr_step (by omega) (fun e he => ?_) ?_)) (fun i hi => by rw [st_up_ne _ _ _ hi, st_up_ne _ _ _ hi, st_up_ne _ _ _ hi]; exact hfr i hi)
        · unfold pm
          by_cases y : e < d
          · rw [decide_eq_true y, decide_eq_true (show e < d + 1 by omega)]
          · rw [decide_eq_false y, decide_eq_false (show ¬ e < d + 1 by omega)]
        · unfold pm
          rw [decide_eq_true (show d < d + 1 by omega), Bool.true_and]
          unfold bt; simpa using b
      · have h0 : m / 2 ^ d % 2 = 0 := by omega
        have wj : wgt p m d = 10 - p := by unfold wgt; rw [if_neg b]
        rw [wj] at ew
        have pd : pm m d d = false := by unfold pm; rw [decide_eq_false (Nat.lt_irrefl d), Bool.false_and]
        have ci := clr_i F (pm m d) (d := d) (by omega)
        rw [pd] at ci
        have t1 : StM 72 0 (st_up τ 72 (11 + d) (nI (F (11 + d)))) (fup (clr F (pm m d)) (11 + d) (F (11 + d))) := by have := hS.up (j := 11 + d) (F (11 + d)); rwa [Nat.zero_add] at this
        have t2 : StM 72 0 (st_up (st_up τ 72 (11 + d) (nI (F (11 + d)))) 72 (17 + d) (nI (F (17 + d)))) (fup (fup (clr F (pm m d)) (11 + d) (F (11 + d))) (17 + d) (F (17 + d))) := by have := t1.up (j := 17 + d) (F (17 + d)); rwa [Nat.zero_add] at this
        have t3 : StM 72 0 (st_up (st_up (st_up τ 72 (11 + d) (nI (F (11 + d)))) 72 (17 + d) (nI (F (17 + d)))) 72 (23 + d) (nI (F (23 + d)))) (fup (fup (fup (clr F (pm m d)) (11 + d) (F (11 + d))) (17 + d) (F (17 + d))) (23 + d) (F (23 + d))) := by have := t2.up (j := 23 + d) (F (23 + d)); rwa [Nat.zero_add] at this
        rw [h0, if_pos (show nI 0 = 0 from rfl), show (10 : Int32) - nI p = nI (10 - p) by rw [show (10 : Int32) = nI 10 from rfl, pk_sub hp], nI_64 (by omega), jN_mul, ← ew, if_pos (show nI 0 = 0 from rfl), if_pos (show nI 0 = 0 from rfl), if_pos (show nI 0 = 0 from rfl), m70 hMt (show 11 + d < 53 by omega)]
        refine ⟨v70 _ (by omega), v72 _ (by omega), v70 _ (by omega), ?_⟩
        rw [st_up_ne _ _ _ (by decide), m70 hMt (show 17 + d < 53 by omega)]
        refine ⟨v72 _ (by omega), v70 _ (by omega), ?_⟩
        rw [st_up_ne _ _ _ (by decide), st_up_ne _ _ _ (by decide), m70 hMt (show 23 + d < 53 by omega)]
        refine ⟨v72 _ (by omega), ?_⟩
        refine ih (d + 1) _ (by omega) (by omega) (t3.congr (fun j hj => ?_)) (fun i hi => by rw [st_up_ne _ _ _ hi, st_up_ne _ _ _ hi, st_up_ne _ _ _ hi]; exact hfr i hi)
        have same : clr F (pm m d) j = clr F (pm m (d + 1)) j := by
          have : pm m d = pm m (d + 1) := funext (pm_same h0)
          rw [this]
        rw [← same]
        by_cases z3 : j = 23 + d
        · subst z3; rw [fup_s, ci.2.2]; rfl
        · rw [fup_n _ _ z3]
          by_cases z2 : j = 17 + d
          · subst z2; rw [fup_s, ci.2.1]; rfl
          · rw [fup_n _ _ z2]
            by_cases z1 : j = 11 + d
            · subst z1; rw [fup_s, ci.1]; rfl
            · rw [fup_n _ _ z1]
theorem s7_sl_37 {σ : St} {F : Fn} {k : Int64 → St → Prop} (hM : StM 70 0 σ F) (hF : WF F) {c p w : Nat} (hc : c < F 3) (hp : p ≤ 10) (hw : w < 2) (hk : ∀ σ', (∀ i, i ≠ 72 → σ' i = σ i) → k (jN ((if w = 0 then upM F c p else 10 ^ F 2) / Nat.gcd (upM F c p) (10 ^ F 2))) σ') (hu : upM F c p < 2 ^ 62) : ∀ n m τ, m ≤ 2 ^ F 2 → 2 ^ F 2 < m + n → (∀ i, i ≠ 72 → τ i = σ i) → x7_sleeps_37 (nI c) (nI p) (nI w) k n (jN (smL (fun m => if mtP F c (patM (F 2) (F (41 + c)) m) then prL (wgt p m) (F 2) else 0) m)) (nI m) τ := by
  have h62 := hF.2.2.2.1
  have h64 : 2 ^ F 2 ≤ 64 := show 2 ^ F 2 ≤ 2 ^ 6 from Nat.pow_le_pow_right (by decide) h62
  intro n
  induction n with
  | zero => intro m τ h1 h2; omega
  | succ n ih =>
    intro m τ h1 h2 hfr
    have hMt : StM 70 0 τ F := hM.cell (hfr 70 (by decide))
    unfold x7_sleeps_37
    rw [show (2 : Int32).toNatClampNeg = 2 from rfl, m70 hMt (show 2 < 53 by decide), show (1 : Int32) <<< (nI (F 2) &&& 31) = nI (2 ^ F 2) from shl1 _ (by omega)]
    refine ⟨vq (j := 2) (by decide), ?_⟩
    by_cases z : 2 ^ F 2 ≤ m
    · have : m = 2 ^ F 2 := by omega
      subst this
      rw [if_pos (nI_le z (by omega))]
      exact ⟨7, s7_sl_236 hMt hF hw hu (hk τ hfr) 7 0 (Nat.zero_le _) (by omega)⟩
    · rw [if_neg (nI_ge (by omega) (by omega)), show (0 : Int32) = nI 0 from rfl]
      refine s7_lay (by decide) (by decide) (by decide) (by decide) (by decide) (fun τ1 c1 c2 c3 => ?_)
      have hfr1 : ∀ i, i ≠ 72 → τ1 i = σ i := fun i hi => by rw [c3 i hi]; exact hfr i hi
      have hM1 : StM 72 0 τ1 F := fun j hj => by rw [c1 j hj]; exact hMt j hj
      refine ⟨7, s7_sl_69 (σ := σ) hM hF hc hp (by omega) (fun τ2 f2 => ?_) 7 0 τ1 (Nat.zero_le _) (by omega) ?_ hfr1⟩
      · have := ih (m + 1) τ2 (by omega) (by omega) f2
        rw [← mtP_M hF hc]
        exact this
      · refine hM1.congr (fun j hj => ?_)
        unfold clr pm
        rw [if_neg]
        intro q
        have := q.2
        simp at this
theorem upM_lt {F : Fn} (hF : WF F) {c p : Nat} (hp : p ≤ 10) : upM F c p < 2 ^ 62 := by
  have h62 := hF.2.2.2.1
  have h64 : 2 ^ F 2 ≤ 64 := show 2 ^ F 2 ≤ 2 ^ 6 from Nat.pow_le_pow_right (by decide) h62
  have := smL_le (g := fun m => if mtP F c (patM (F 2) (F (41 + c)) m) then prL (wgt p m) (F 2) else 0) (B := 10 ^ 6) (2 ^ F 2) (fun i _ => by
    show (if _ then _ else 0) ≤ _
    split
    · exact Nat.le_trans (prL_le (fun j => wgt_le hp i j) (F 2)) (Nat.pow_le_pow_right (by decide) h62)
    · exact Nat.zero_le _)
  have h2 : 2 ^ F 2 * 10 ^ 6 ≤ 64 * 10 ^ 6 := Nat.mul_le_mul_right _ h64
  unfold upM
  omega
theorem vSl_eq {F : Fn} (hF : WF F) {c p w : Nat} (hc : c < F 3) (hp : p ≤ 10) : (if w = 0 then upM F c p else 10 ^ F 2) / Nat.gcd (upM F c p) (10 ^ F 2) = vSl F c p w := by
  have hq := (hF.2.2.2.2.2.2.2.1 c hc).2.2.1
  have e : upM F c p * 1000 = csC F c p * 10 ^ F 2 := sl_eq (mtP F c) hF.2.2.2.1 hq hp
  have f := frac (Nat.pow_pos (show 0 < 10 by decide)) (by decide) e
  unfold vSl
  by_cases z : w = 0
  · rw [if_pos z, if_pos z]; exact f.1
  · rw [if_neg z, if_neg z]; exact f.2
theorem s7_sleeps {σ : St} {F : Fn} {k : Int64 → St → Prop} (hM : StM 70 0 σ F) (hF : WF F) {c p w : Nat} (hc : c < F 3) (hp : p ≤ 10) (hw : w < 2) (hk : ∀ σ', (∀ i, i ≠ 72 → σ' i = σ i) → k (jN (vSl F c p w)) σ') : x7_sleeps (nI c) (nI p) (nI w) σ k := by
  unfold x7_sleeps
  refine s7_isOne_t hM hF hc ?_
  show if _ then _ else _
  rw [if_neg (by decide)]
  refine in_lit_t (m := 10) hp (by decide) ?_
  show if _ then _ else _
  rw [if_neg (by decide)]
  refine in_lit_t (m := 1) (by omega) (by decide) ?_
  show if _ then _ else _
  rw [if_neg (by decide)]
  refine ⟨2 ^ F 2 + 1, s7_sl_37 hM hF hc hp hw (fun σ' f => ?_) (upM_lt hF hp) (2 ^ F 2 + 1) 0 σ (Nat.zero_le _) (by omega) (fun _ _ => rfl)⟩
  rw [vSl_eq hF hc hp]; exact hk σ' f
theorem sp21 : Sp21 Rel := by
  intro a b e σ hR
  obtain ⟨F, ⟨hF, h4, hC, hM⟩, hI, n', nx, S, hA⟩ := hR.2.2.2.2.2
  have h63 := hF.2.2.2.2.1
  by_cases ha : has a (F 3)
  · obtain ⟨c, hc, rfl⟩ := ha
    by_cases hb : has b 11
    · obtain ⟨p, hp, rfl⟩ := hb
      by_cases he : has e 2
      · obtain ⟨w, hw, rfl⟩ := he
        refine s6_sleeps hC hF hc (by omega) hw (fun σ1 f1 => ?_)
        have hM1 : StM 70 0 σ1 F := hM.cell (f1 70 (by decide))
        refine s7_sleeps hM1 hF hc (by omega) hw (fun σ2 f2 => ?_)
        exact ⟨rfl, hR.scr (f1.trial.tr (onl_72 f2))⟩
      · unfold x6_sleeps x6_sleeps_28 x7_sleeps x7_sleeps_27
        refine s5_hasCaller_t hC.2.1 h63 hc ?_
        show if _ then _ else _
        rw [if_neg (by decide), if_neg (nI_pos (by omega)), if_neg (by rw [show (10 : Int32) = nI 10 from rfl, nI_ltI (by decide) (by omega)]; omega)]
        refine s6_isBit_f he ?_
        show if _ then _ else _
        rw [if_pos (by decide)]
        refine s7_isOne_t hM hF hc ?_
        show if _ then _ else _
        rw [if_neg (by decide)]
        refine in_lit_t (m := 10) (by omega) (by decide) ?_
        show if _ then _ else _
        rw [if_neg (by decide)]
        refine in_lit_f (m := 1) (by decide) he ?_
        show if _ then _ else _
        rw [if_pos (by decide)]
        exact ⟨rfl, hR⟩
    · have hbad := has6 (k := 10) (by decide) hb
      have e6 : ∀ k : Int64 → St → Prop, k (-1000001) σ → x6_sleeps (nI c) b e σ k := by
        intro k h
        unfold x6_sleeps x6_sleeps_28
        refine s5_hasCaller_t hC.2.1 h63 hc ?_
        show if _ then _ else _
        rw [if_neg (by decide)]
        by_cases z : b < 0
        · rw [if_pos z]; exact h
        · rw [if_neg z, if_pos (show (10 : Int32) < b from Int32.not_le.mp (hbad.resolve_left z))]; exact h
      refine e6 _ ?_
      unfold x7_sleeps x7_sleeps_27
      refine s7_isOne_t hM hF hc ?_
      show if _ then _ else _
      rw [if_neg (by decide)]
      refine in_lit_f (m := 10) (by decide) hb ?_
      show if _ then _ else _
      rw [if_pos (by decide)]
      exact ⟨rfl, hR⟩
  · unfold x6_sleeps x6_sleeps_28 x7_sleeps x7_sleeps_27
    refine s5_hasCaller_f hC.2.1 h63 ha ?_
    show if _ then _ else _
    rw [if_pos (by decide)]
    refine s7_isOne_f hM hF ha ?_
    show if _ then _ else _
    rw [if_pos (by decide)]
    exact ⟨rfl, hR⟩
