/-! PURE: a row now of the reference, a ridge of the class -/
def pr_ct (now : Nat → Int32) (k : Nat) : Nat → Int32
  | 0 => -1
  | t + 1 => if now (81 + 2 * t) / 1000 = nI k then nI t else pr_ct now k t
def pr_la (now : Nat → Int32) (k tn : Nat) : Int32 := if pr_ct now k tn < 0 then -1000000005 else pr_ct now k tn
theorem pr_ct_cases (now : Nat → Int32) (k : Nat) : ∀ tn, pr_ct now k tn = -1 ∨ ∃ t, t < tn ∧ pr_ct now k tn = nI t ∧ now (81 + 2 * t) / 1000 = nI k := by
  intro tn
  induction tn with
  | zero => exact Or.inl rfl
  | succ t ih =>
    unfold pr_ct
    by_cases h : now (81 + 2 * t) / 1000 = nI k
    · rw [if_pos h]
      exact Or.inr ⟨t, Nat.lt_succ_self t, rfl, h⟩
    · rw [if_neg h]
      rcases ih with h1 | ⟨u, h1, h2, h3⟩
      · exact Or.inl h1
      · exact Or.inr ⟨u, Nat.lt_succ_of_lt h1, h2, h3⟩
theorem pr_count (now : Nat → Int32) (k : Nat) (Q : Int32 → Prop) : ∀ t, t ≤ 14 → Q (pr_ct now k t) → lp_X7_counts_10 (nI k) now Q (t + 1) (nI t - 1) := by
  intro t
  induction t with
  | zero =>
    intro _ hq
    show lp_X7_counts_10F (nI k) now Q (lp_X7_counts_10 (nI k) now Q 0) (nI 0 - 1)
    unfold lp_X7_counts_10F
    exact ⟨fun _ => hq, fun h => absurd (by decide) h⟩
  | succ t ih =>
    intro ht hq
    show lp_X7_counts_10F (nI k) now Q (lp_X7_counts_10 (nI k) now Q (t + 1)) (nI (t + 1) - 1)
    unfold lp_X7_counts_10F
    rw [pn_s1, pn_ixt, pn_cl (by omega)]
    refine ⟨fun h => absurd h (nI_pos (by omega)), fun _ => ⟨pn_in (by omega) (by decide), fun h => ?_, fun h => ?_⟩⟩
    · unfold pr_ct at hq
      rw [if_neg h] at hq
      rw [show nI t + (-1) = nI t - 1 from by rw [Int32.sub_eq_add_neg]]
      exact ih (by omega) hq
    · unfold pr_ct at hq
      rw [if_pos h] at hq
      exact hq
theorem sp_X7_counts {now : Nat → Int32} {k tn : Nat} {Q : Int32 → Prop} (h8 : now 8 = nI tn) (ht : tn ≤ 14) (hq : Q (pr_ct now k tn)) : wp_X7_counts (nI k) now Q := by
  unfold wp_X7_counts
  rw [h8]
  exact ⟨tn + 1, pr_count now k Q tn ht hq⟩
/-- the row now: n places, tn texts, all within bounds -/
def pr_ok (now : Nat → Int32) (n tn : Nat) : Prop :=
  n ≤ 24 ∧ tn ≤ 14 ∧ now 1 = nI n ∧ now 8 = nI tn ∧
  (∀ i, i < n → ∃ k h d : Nat, k ≤ 5 ∧ h ≤ 99 ∧ d ≤ 1 ∧ now (9 + 3 * i) = nI k ∧ now (9 + 3 * i + 1) = nI h ∧ now (9 + 3 * i + 2) = nI d) ∧
  (now 2 = -1 ∨ ∃ p, p < n ∧ now 2 = nI p) ∧ (∃ mi, mi ≤ 9999 ∧ now 3 = nI mi) ∧ (∃ fa, fa ≤ 99 ∧ now 4 = nI fa) ∧ (∃ a, a ≤ 18 ∧ now 5 = nI a - 9) ∧
  (∀ t, t < tn → ∃ key cnt, pe_tx now t key cnt)
/-- a ridge of the class that is the row now -/
def pr_rel (now : Nat → Int32) (n tn : Nat) (Sz Tc Fa Pa Py Mi Me Sr Z : Int32) (Ki He Do : Nat → Int32) (Tx : Nat → Option Nat) (La : Nat → Int32) (LT : List Nat) (pk pv : Nat → Int32) (pn : Nat → Nat) (tc : Nat → Nat → Int32) : Prop :=
  pr_ok now n tn ∧ (Sz = now 1 ∧ Tc = now 8 ∧ Fa = now 4 ∧ Pa = now 5 ∧ Py = (if now 2 < 0 then -1000000005 else now 2) ∧ Mi = now 3 ∧ Me = now 6 ∧ Sr = now 7 ∧ Z = now 0) ∧
  (∀ i, i < n → Ki i = now (9 + 3 * i) ∧ He i = now (9 + 3 * i + 1) ∧ Do i = now (9 + 3 * i + 2)) ∧
  (∀ t, t < 14 → ∀ a, Tx t = some a → a ∈ LT) ∧
  (∀ t, t < tn → ∃ a key cnt, Tx t = some a ∧ pe_tx now t key cnt ∧ pe_same now t pn tc a key cnt ∧ pk a = nI key ∧ pv a = now (81 + 2 * t + 1)) ∧
  (∀ k, k < 3 → La k = pr_la now k tn)
theorem pr_keq {now : Nat → Int32} {t key cnt k : Nat} (hx : pe_tx now t key cnt) (hk : k < 3) (h : now (81 + 2 * t) / 1000 = nI k) : key = k := by
  obtain ⟨h1, h2, h3, -⟩ := hx
  rw [h3, pe_div h1 h2, nI_eq (by omega) (by omega)] at h
  exact h
theorem pe_val_cong {now : Nat → Int32} {t key cnt : Nat} (hx : pe_tx now t key cnt) {fc gc : Nat → Int32} (h : ∀ j, j < (if key = 2 then 3 else 2) → fc j = gc j) : pe_val now t fc = pe_val now t gc := by
  obtain ⟨h1, h2, h3, h4⟩ := hx
  unfold pe_val
  rw [h3, pe_rem h1 h2, pn_cl (by omega)]
  exact pe_cong _ fc gc _ (by split <;> omega) h cnt 0 0 _ _ h4 (fun i hi => absurd hi (by omega))
def pr_f3 (a b c : Int32) : Nat → Int32 := fun j => if j = 0 then a else if j = 1 then b else c
/-- what the law of a key gives; without one: otherwise -/
def pr_law (now : Nat → Int32) (k tn : Nat) (a b c other : Int32) : Int32 := if pr_ct now k tn < 0 then other else pe_val now (pr_ct now k tn).toNatClampNeg (pr_f3 a b c)
theorem sp_X1_lawGives {now : Nat → Int32} {n tn : Nat} {Tx : Nat → Option Nat} {La sk : Nat → Int32} {LT : List Nat} {pk pv : Nat → Int32} {pn : Nat → Nat} {tc : Nat → Nat → Int32} {k : Nat} {p2 p3 p4 p5 : Int32} {Q : Int32 → (Nat → Int32) → Prop}
    (ht : tn ≤ 14) (hLT : ∀ t, t < 14 → ∀ a, Tx t = some a → a ∈ LT) (htx : ∀ t, t < tn → ∃ a key cnt, Tx t = some a ∧ pe_tx now t key cnt ∧ pe_same now t pn tc a key cnt ∧ pk a = nI key ∧ pv a = now (81 + 2 * t + 1)) (hLa : ∀ k, k < 3 → La k = pr_la now k tn) (hk : k < 3)
    (hq : ∀ sk', Q (pr_law now k tn p2 p3 p4 p5) sk') : wp_X1_lawGives (nI k) p2 p3 p4 p5 Tx La sk LT pn tc Q := by
  unfold wp_X1_lawGives
  rw [pn_cl (by omega), hLa k hk]
  unfold pr_la
  unfold pr_law at hq
  refine ⟨pn_in hk (by decide), ?_⟩
  rcases pr_ct_cases now k tn with h | ⟨t, h1, h2, h3⟩
  · rw [h] at hq ⊢
    rw [if_pos (by decide)]
    rw [if_pos (show (-1 : Int32) < 0 by decide)] at hq
    exact ⟨fun _ => hq sk, fun z => absurd (by decide) z⟩
  · rw [h2] at hq ⊢
    have hp : ¬ nI t < 0 := nI_pos (by omega)
    rw [if_neg hp]
    rw [if_neg hp, pn_cl (by omega)] at hq
    obtain ⟨a, key, cnt, g1, g2, g3, -, -⟩ := htx t h1
    have hkey : key = k := pr_keq g2 hk h3
    subst hkey
    refine ⟨fun z => absurd z hp, fun _ => ⟨fun z => ?_, fun _ => ⟨pn_in (by omega) (by decide), ?_, ?_⟩⟩⟩
    · rw [show (14 : Int32) = nI 14 from rfl, nI_leI (by omega) (by omega)] at z
      omega
    · rw [pn_cl (by omega), g1]
      intro z
      cases z
    · intro a5 h5
      rw [pn_cl (by omega)] at h5 ⊢
      refine ⟨pn_in (by omega) (by decide), a, g1, hLT t (by omega) a g1, ?_⟩
      exact sp_X4_valueFor g2 g3 (fc := pr_f3 p2 p3 p4) rfl rfl (fun _ => rfl) hq
def pr_far (now : Nat → Int32) (t : Int32) : Int32 := pn_hd 0 99 (now 4 - now 5 * t)
theorem pr_far_nI (now : Nat → Int32) (t : Int32) : ∃ j, j ≤ 99 ∧ pr_far now t = nI j := pn_hd_nI 99 (by decide) _
theorem sp_X1_farIn {now : Nat → Int32} {t Fa Pa : Int32} {Q : Int32 → Prop} (h1 : Fa = now 4) (h2 : Pa = now 5) (hq : Q (pr_far now t)) : wp_X1_farIn t Fa Pa Q := by
  unfold wp_X1_farIn
  rw [h1, h2]
  exact sp_X6_held (by decide) hq
theorem sp_X7_farOn {now : Nat → Int32} {t : Int32} {Q : Int32 → Prop} (hq : Q (pr_far now t)) : wp_X7_farOn t now Q := by
  unfold wp_X7_farOn
  exact sp_X7_within hq
def pr_odds (now : Nat → Int32) (tn : Nat) (t : Int32) : Int32 := pn_hd 0 100 (pr_law now 1 tn (pr_far now t) t 0 (100 - (3 * pr_far now t)))
def pr_rb (kind plain : Int32) : Int32 := if kind = 1 then plain + 10 else if kind = 2 then plain / 2 else if kind = 3 then 2 * (plain + 10) else if kind = 4 then plain / 2 + 5 else if kind = 5 then plain + 20 else plain
def pr_plain (now : Nat → Int32) (tn p : Nat) : Int32 := pn_hd 0 99 (pr_law now 0 tn (now (9 + 3 * p + 1)) (nI p) 0 (now (9 + 3 * p + 1) / 10))
def pr_risk (now : Nat → Int32) (tn p : Nat) : Int32 := pr_rb (now (9 + 3 * p)) (pr_plain now tn p)
theorem sp_X6_riskBy {k y : Int32} {Q : Int32 → Prop} (h : Q (pr_rb k y)) : wp_X6_riskBy k y Q := by
  unfold wp_X6_riskBy
  unfold pr_rb at h
  refine ⟨fun c => ?_, fun c => ?_, fun c => ?_, fun c => ?_, fun c => ?_, fun c => ?_⟩
  · subst c; exact h
  · subst c; exact h
  · subst c; exact h
  · subst c; exact h
  · subst c; exact h
  · obtain ⟨c1, c2, c3, c4, c5⟩ := c
    rw [if_neg c1, if_neg c2, if_neg c3, if_neg c4, if_neg c5] at h
    exact h
theorem sp_X7_of {now : Nat → Int32} {p w : Nat} {Q : Int32 → Prop} (hp : p < 24) (hw : w < 3) (hq : Q (now (9 + 3 * p + w))) : wp_X7_of (nI p) (nI w) now Q := by
  unfold wp_X7_of
  rw [pn_ix3, pn_cl (by omega)]
  exact ⟨pn_in (by omega) (by decide), hq⟩
