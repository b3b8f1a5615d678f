/-! PURE: the tree of all ways -/
def pt_best (dn : Nat → Bool) (n : Nat) (f : Nat → Nat) (p : Nat) : Nat := if p = 0 ∨ n ≤ p + 1 ∨ dn p = true then 0 else min (f p) (min (f (p - 1)) (f (p + 1)))
def pt_v (rk od : Nat → Nat) (dn : Nat → Bool) (n m : Nat) : Nat → Nat → Nat
  | 0, _ => 0
  | j + 1, p => rk p * od (m - 1 - j) + pt_best dn n (pt_v rk od dn n m j) p
def pt_on (n : Nat) (f : Nat → Nat) (p s : Nat) : Nat := if s = 0 then (if p + 1 < n then f (p + 1) else 0) else if s = 1 then (if 0 < p then f (p - 1) else 0) else if s = 2 then f p else 0
/-- the first step with the least behind it -/
def pt_step (dn : Nat → Bool) (n : Nat) (f : Nat → Nat) (p : Nat) : Nat :=
  let b1 := if pt_on n f p 1 < pt_on n f p 0 then 1 else 0
  let b2 := if pt_on n f p 2 < pt_on n f p b1 then 2 else b1
  if dn p = true ∧ pt_on n f p 3 < pt_on n f p b2 then 3 else b2
theorem pt_v_le {rk od : Nat → Nat} {dn : Nat → Bool} {n m : Nat} (hr : ∀ p, rk p ≤ 218) (ho : ∀ t, od t ≤ 100) : ∀ j p, pt_v rk od dn n m j p ≤ 21800 * j := by
  intro j
  induction j with
  | zero => intro p; exact Nat.le_refl _
  | succ j ih =>
    intro p
    show rk p * od (m - 1 - j) + pt_best dn n (pt_v rk od dn n m j) p ≤ 21800 * (j + 1)
    have h1 : rk p * od (m - 1 - j) ≤ 218 * 100 := Nat.mul_le_mul (hr p) (ho _)
    have h2 : pt_best dn n (pt_v rk od dn n m j) p ≤ 21800 * j := by
      unfold pt_best
      split
      · omega
      · have := ih p
        omega
    omega
theorem pn_min (a b : Nat) (ha : a < 2 ^ 31) (hb : b < 2 ^ 31) : rc_min (nI a) (nI b) = nI (min a b) := by
  unfold rc_min
  by_cases h : nI b < nI a
  · rw [if_pos h]
    rw [nI_ltI hb ha] at h
    congr 1; omega
  · rw [if_neg h]
    rw [nI_ltI hb ha] at h
    congr 1; omega
theorem sp_X5_leastLater {p n : Nat} {La Do : Nat → Int32} {Sz : Int32} {f : Nat → Nat} {dn : Nat → Bool} {Q : Int32 → Prop} (hp : p < n) (hn : n ≤ 24) (hS : Sz = nI n) (hf : ∀ i, i < n → La i = nI (f i)) (hb : ∀ i, i < n → f i < 2 ^ 31) (hd : dn p = decide (Do p = 1)) (hq : Q (nI (pt_best dn n f p))) : wp_X5_leastLater (nI p) La Sz Do Q := by
  unfold wp_X5_leastLater
  unfold pt_best at hq
  subst hS
  refine ⟨fun h => ?_, fun h => ⟨fun h2 => ?_, fun h2 => ⟨pn_in (by omega) (by decide), fun h3 => ?_, fun h3 => ?_⟩⟩⟩
  · rw [show (1 : Int32) = nI 1 from rfl, nI_ltI (by omega) (by omega)] at h
    rw [if_pos (Or.inl (by omega))] at hq
    exact hq
  · rw [pn_p1, nI_leI (by omega) (by omega)] at h2
    rw [if_pos (Or.inr (Or.inl h2))] at hq
    exact hq
  · rw [show (1 : Int32) = nI 1 from rfl, nI_ltI (by omega) (by omega)] at h
    rw [pn_p1, nI_leI (by omega) (by omega)] at h2
    rw [pn_cl (by omega)] at h3 ⊢
    obtain ⟨q, rfl⟩ : ∃ q, p = q + 1 := ⟨p - 1, by omega⟩
    rw [pn_s1, pn_p1, pn_cl (show q < 2 ^ 31 by omega), pn_cl (show q + 1 + 1 < 2 ^ 31 by omega), hf _ hp, hf q (by omega), hf (q + 1 + 1) (by omega), pn_min _ _ (hb _ (by omega)) (hb _ (by omega)), pn_min _ _ (hb _ (by omega)) (by have := hb q (by omega); omega)]
    refine ⟨pn_in (by omega) (by decide), pn_in (by omega) (by decide), pn_in (by omega) (by decide), ?_⟩
    rw [if_neg] at hq
    · exact hq
    · rintro (z | z | z)
      · omega
      · omega
      · rw [hd] at z
        exact h3 (of_decide_eq_true z)
  · rw [pn_cl (by omega)] at h3
    rw [if_pos (Or.inr (Or.inr (by rw [hd]; exact decide_eq_true h3)))] at hq
    exact hq
/-- what the tree is made of: n places, their risks, the odds, the ways off -/
def pt_ctx (now : Nat → Int32) (n tn : Nat) (rk od : Nat → Nat) (dn : Nat → Bool) : Prop :=
  (∀ p, p < n → pr_risk now tn p = nI (rk p)) ∧ (∀ t, t ≤ 60 → pr_odds now tn (nI t) = nI (od t)) ∧ (∀ p, rk p ≤ 218) ∧ (∀ t, od t ≤ 100) ∧ (∀ p, p < n → dn p = decide (now (9 + 3 * p + 2) = 1))
theorem pt_ctx_of {now : Nat → Int32} {n tn : Nat} (hok : pr_ok now n tn) : ∃ rk od dn, pt_ctx now n tn rk od dn := by
  have h1 : ∀ p, ∃ v, v ≤ 218 ∧ (p < n → pr_risk now tn p = nI v) := by
    intro p
    by_cases hp : p < n
    · obtain ⟨k, _, _, hk, _, _, e, _⟩ := hok.2.2.2.2.1 p hp
      obtain ⟨v, hv, e2⟩ := pr_risk_nI (tn := tn) hk e
      exact ⟨v, hv, fun _ => e2⟩
    · exact ⟨0, by omega, fun z => absurd z hp⟩
  have h2 : ∀ t : Nat, ∃ v, v ≤ 100 ∧ pr_odds now tn (nI t) = nI v := fun t => pr_odds_nI now tn (nI t)
  exact ⟨fun p => Classical.choose (h1 p), fun t => Classical.choose (h2 t), fun p => decide (now (9 + 3 * p + 2) = 1), fun p hp => (Classical.choose_spec (h1 p)).2 hp, fun t _ => (Classical.choose_spec (h2 t)).2, fun p => (Classical.choose_spec (h1 p)).1, fun t => (Classical.choose_spec (h2 t)).1, fun _ _ => rfl⟩
theorem sp_X5_weigh {now : Nat → Int32} {n tn : Nat} {rk od : Nat → Nat} {dn : Nat → Bool} {Sz : Int32} {Ri Ki He : Nat → Int32} {Tx : Nat → Option Nat} {La Sk : Nat → Int32} {LT : List Nat} {pk pv : Nat → Int32} {pn : Nat → Nat} {tc : Nat → Nat → Int32} {Q : (Nat → Int32) → (Nat → Int32) → Prop}
    (hc : pt_ctx now n tn rk od dn) (hT : pr_T now tn Tx La LT pk pv pn tc) (hn : n ≤ 24) (hS : Sz = nI n) (hk : ∀ i, i < n → Ki i = now (9 + 3 * i) ∧ He i = now (9 + 3 * i + 1)) (hq : ∀ ri sk, (∀ i, i < n → ri i = nI (rk i)) → Q ri sk) : wp_X5_weigh Ri Sz Ki He Tx La Sk LT pn tc Q := by
  have key : ∀ (m i : Nat) (ri sk : Nat → Int32), i + m = n → (∀ j, j < i → ri j = nI (rk j)) → lp_X5_weigh_2 Sz Ki He Tx La LT pn tc Q (m + 1) (nI i) ri sk := by
    intro m
    induction m with
    | zero =>
      intro i ri sk hi h
      show lp_X5_weigh_2F Sz Ki He Tx La LT pn tc Q (lp_X5_weigh_2 Sz Ki He Tx La LT pn tc Q 0) (nI i) ri sk
      unfold lp_X5_weigh_2F
      refine ⟨fun _ => hq ri sk (fun j hj => h j (by omega)), fun z => absurd ?_ z⟩
      rw [hS, nI_leI (by omega) (by omega)]; omega
    | succ m ih =>
      intro i ri sk hi h
      show lp_X5_weigh_2F Sz Ki He Tx La LT pn tc Q (lp_X5_weigh_2 Sz Ki He Tx La LT pn tc Q (m + 1)) (nI i) ri sk
      unfold lp_X5_weigh_2F
      refine ⟨fun z => absurd z ?_, fun _ => ?_⟩
      · rw [hS, nI_leI (by omega) (by omega)]; omega
      · refine sp_X1_risk hT (by omega) (hk i (by omega)).1 (hk i (by omega)).2 (fun sk' => ⟨pn_in (by omega) (by decide), ?_⟩)
        rw [pn_p1, pn_cl (by omega)]
        refine ih (i + 1) _ _ (by omega) (fun j hj => ?_)
        by_cases e : j = i
        · subst e; rw [pn_upd_self]; exact hc.1 j (by omega)
        · rw [pn_upd_ne e]; exact h j (by omega)
  unfold wp_X5_weigh
  exact ⟨n + 1, key n 0 Ri Sk (by omega) (fun j hj => absurd hj (by omega))⟩
theorem sp_J7_fill {v : Int32} {f : Nat → Int32} {Q : (Nat → Int32) → Prop} (hq : ∀ g, (∀ i, i < 24 → g i = v) → Q g) : wp_J7_fill_53178 v f Q := by
  have key : ∀ (m i : Nat) (g : Nat → Int32), i + m = 24 → (∀ j, j < i → g j = v) → lp_J7_fill_53178_5 v Q (m + 1) (nI i) 24 g := by
    intro m
    induction m with
    | zero =>
      intro i g hi h
      show lp_J7_fill_53178_5F v Q (lp_J7_fill_53178_5 v Q 0) (nI i) 24 g
      unfold lp_J7_fill_53178_5F
      refine ⟨fun _ => hq g (fun j hj => h j (by omega)), fun z => absurd ?_ z⟩
      rw [show (24 : Int32) = nI 24 from rfl, nI_leI (by omega) (by omega)]; omega
    | succ m ih =>
      intro i g hi h
      show lp_J7_fill_53178_5F v Q (lp_J7_fill_53178_5 v Q (m + 1)) (nI i) 24 g
      unfold lp_J7_fill_53178_5F
      refine ⟨fun z => absurd z ?_, fun _ => ⟨pn_in (by omega) (by decide), ?_⟩⟩
      · rw [show (24 : Int32) = nI 24 from rfl, nI_leI (by omega) (by omega)]; omega
      · rw [pn_p1, pn_cl (by omega)]
        refine ih (i + 1) _ (by omega) (fun j hj => ?_)
        by_cases e : j = i
        · subst e; rw [pn_upd_self]
        · rw [pn_upd_ne e]; exact h j (by omega)
  unfold wp_J7_fill_53178
  exact ⟨25, key 24 0 f (by omega) (fun j hj => absurd hj (by omega))⟩
theorem sp_X5_grow {now : Nat → Int32} {n tn m : Nat} {rk od : Nat → Nat} {dn : Nat → Bool} {Sz Fa Pa : Int32} {Ri Le Lt Do : Nat → Int32} {Tx : Nat → Option Nat} {La Sk : Nat → Int32} {LT : List Nat} {pk pv : Nat → Int32} {pn : Nat → Nat} {tc : Nat → Nat → Int32} {Q : (Nat → Int32) → (Nat → Int32) → (Nat → Int32) → Prop}
    (hc : pt_ctx now n tn rk od dn) (hT : pr_T now tn Tx La LT pk pv pn tc) (hn : n ≤ 24) (hS : Sz = nI n) (h4 : Fa = now 4) (h5 : Pa = now 5) (hD : ∀ i, i < n → Do i = now (9 + 3 * i + 2)) (hR : ∀ i, i < n → Ri i = nI (rk i)) (hm : 1 ≤ m ∧ m ≤ 60)
    (hq : ∀ le la sk, (∀ p, p < n → le p = nI (pt_v rk od dn n m m p)) → (∀ p, p < n → la p = nI (pt_v rk od dn n m (m - 1) p)) → Q le la sk) : wp_X5_grow (nI m) Ri Le Lt Sz Fa Pa Do Tx La Sk LT pn tc Q := by
  obtain ⟨hrk, hod, hr, ho, hdn⟩ := hc
  have hv : ∀ j p, j ≤ 60 → pt_v rk od dn n m j p < 2 ^ 31 := fun j p hj => by
    have := pt_v_le (dn := dn) (n := n) (m := m) hr ho j p
    omega
  have inner : ∀ (K : Int32 → (Nat → Int32) → (Nat → Int32) → (Nat → Int32) → Prop) (j t : Nat) (la sk : Nat → Int32), j + 1 + t = m → (∀ p, p < n → la p = nI (pt_v rk od dn n m j p)) → (∀ le, (∀ p, p < n → le p = nI (pt_v rk od dn n m (j + 1) p)) → K (nI t - 1) le la sk) →
      ∀ (w i : Nat) (le : Nat → Int32), i + w = n → (∀ p, p < i → le p = nI (pt_v rk od dn n m (j + 1) p)) → lp_X5_grow_41 Ri Sz Do K (w + 1) (nI t) (nI (od t)) (nI i) le la sk := by
    intro K j t la sk hj hla hK w
    induction w with
    | zero =>
      intro i le hi h
      show lp_X5_grow_41F Ri Sz Do K (lp_X5_grow_41 Ri Sz Do K 0) (nI t) (nI (od t)) (nI i) le la sk
      unfold lp_X5_grow_41F
      refine ⟨fun _ => ?_, fun z => absurd ?_ z⟩
      · rw [show nI t + (-1) = nI t - 1 from by rw [Int32.sub_eq_add_neg]]
        exact hK le (fun p hp => h p (by omega))
      · rw [hS, nI_leI (by omega) (by omega)]; omega
    | succ w ih =>
      intro i le hi h
      show lp_X5_grow_41F Ri Sz Do K (lp_X5_grow_41 Ri Sz Do K (w + 1)) (nI t) (nI (od t)) (nI i) le la sk
      unfold lp_X5_grow_41F
      refine ⟨fun z => absurd z ?_, fun _ => ⟨pn_in (by omega) (by decide), ?_⟩⟩
      · rw [hS, nI_leI (by omega) (by omega)]; omega
      · refine sp_X5_leastLater (n := n) (dn := dn) (f := pt_v rk od dn n m j) (by omega) hn hS hla (fun p _ => hv j p (by omega)) (by rw [hdn i (by omega), hD i (by omega)]) ⟨pn_in (by omega) (by decide), ?_⟩
        rw [pn_p1, pn_cl (by omega), hR i (by omega), pk_mul, nI_add]
        refine ih (i + 1) _ (by omega) (fun p hp => ?_)
        by_cases e : p = i
        · subst e
          rw [pn_upd_self]
          show _ = nI (rk p * od (m - 1 - j) + pt_best dn n (pt_v rk od dn n m j) p)
          rw [show m - 1 - j = t by omega]
        · rw [pn_upd_ne e]; exact h p (by omega)
  have outer : ∀ (t j : Nat) (le la sk : Nat → Int32), j + t = m → (∀ p, p < n → le p = nI (pt_v rk od dn n m j p)) → (t = 0 → ∀ p, p < n → la p = nI (pt_v rk od dn n m (m - 1) p)) → lp_X5_grow_12 Ri Sz Fa Pa Do Tx La LT pn tc Q (t + 1) (nI t - 1) le la sk := by
    intro t
    induction t with
    | zero =>
      intro j le la sk hj hle hla
      show lp_X5_grow_12F Ri Sz Fa Pa Do Tx La LT pn tc Q (lp_X5_grow_12 Ri Sz Fa Pa Do Tx La LT pn tc Q 0) (nI 0 - 1) le la sk
      unfold lp_X5_grow_12F
      obtain rfl : j = m := by omega
      exact ⟨fun _ => hq le la sk hle (hla rfl), fun z => absurd (by decide) z⟩
    | succ t ih =>
      intro j le la sk hj hle hla
      show lp_X5_grow_12F Ri Sz Fa Pa Do Tx La LT pn tc Q (lp_X5_grow_12 Ri Sz Fa Pa Do Tx La LT pn tc Q (t + 1)) (nI (t + 1) - 1) le la sk
      unfold lp_X5_grow_12F
      rw [pn_s1]
      refine ⟨fun z => absurd z (nI_pos (by omega)), fun _ => sp_X1_odds hT h4 h5 (fun sk' => ?_)⟩
      rw [hod t (by omega)]
      have hcpy : ∀ p, p < n → va_cpy le la 0 0 24 p = nI (pt_v rk od dn n m j p) := fun p hp => by rw [sb_cpy0 (by omega), hle p hp]
      refine ⟨n + 1, inner _ j t _ sk' (by omega) hcpy (fun le' hle' => ?_) n 0 le (by omega) (fun p hp => absurd hp (by omega))⟩
      refine ih (j + 1) le' _ sk' (by omega) hle' (fun ht p hp => ?_)
      rw [hcpy p hp]
      congr 2
      omega
  unfold wp_X5_grow
  refine sp_J7_fill (fun g hg => ⟨m + 1, ?_⟩)
  exact outer m 0 g Lt Sk (by omega) (fun p hp => hg p (by omega)) (fun z => absurd z (by omega))
