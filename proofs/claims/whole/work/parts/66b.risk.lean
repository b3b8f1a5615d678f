/-! PURE: risk, odds, draws -/
def pr_M (now : Nat → Int32) (tn : Nat) : Prop := tn ≤ 14 ∧ now 8 = nI tn ∧ ∀ t, t < tn → ∃ key cnt, pe_tx now t key cnt
def pr_T (now : Nat → Int32) (tn : Nat) (Tx : Nat → Option Nat) (La : Nat → Int32) (LT : List Nat) (pk pv : Nat → Int32) (pn : Nat → Nat) (tc : Nat → Nat → Int32) : Prop :=
  (tn ≤ 14 ∧ now 8 = nI tn) ∧ (∀ t, t < 14 → ∀ a, Tx t = some a → a ∈ LT) ∧ (∀ t, t < tn → ∃ a key cnt, Tx t = some a ∧ pe_tx now t key cnt ∧ pe_same now t pn tc a key cnt ∧ pk a = nI key ∧ pv a = now (81 + 2 * t + 1)) ∧ (∀ k, k < 3 → La k = pr_la now k tn)
theorem pr_T.M {now : Nat → Int32} {tn : Nat} {Tx : Nat → Option Nat} {La : Nat → Int32} {LT : List Nat} {pk pv : Nat → Int32} {pn : Nat → Nat} {tc : Nat → Nat → Int32} (h : pr_T now tn Tx La LT pk pv pn tc) : pr_M now tn :=
  ⟨h.1.1, h.1.2, fun t ht => by obtain ⟨_, key, cnt, _, h2, _⟩ := h.2.2.1 t ht; exact ⟨key, cnt, h2⟩⟩
theorem pr_ok.M {now : Nat → Int32} {n tn : Nat} (h : pr_ok now n tn) : pr_M now tn := ⟨h.2.1, h.2.2.2.1, h.2.2.2.2.2.2.2.2.2⟩
theorem pr_rel.T {now : Nat → Int32} {n tn : Nat} {Sz Tc Fa Pa Py Mi Me Sr Z : Int32} {Ki He Do : Nat → Int32} {Tx : Nat → Option Nat} {La : Nat → Int32} {LT : List Nat} {pk pv : Nat → Int32} {pn : Nat → Nat} {tc : Nat → Nat → Int32} (h : pr_rel now n tn Sz Tc Fa Pa Py Mi Me Sr Z Ki He Do Tx La LT pk pv pn tc) : pr_T now tn Tx La LT pk pv pn tc :=
  ⟨⟨h.1.2.1, h.1.2.2.2.1⟩, h.2.2.2.1, h.2.2.2.2.1, h.2.2.2.2.2⟩
theorem sp_X1_odds {now : Nat → Int32} {tn : Nat} {Tx : Nat → Option Nat} {La sk : Nat → Int32} {LT : List Nat} {pk pv : Nat → Int32} {pn : Nat → Nat} {tc : Nat → Nat → Int32} {t Fa Pa : Int32} {Q : Int32 → (Nat → Int32) → Prop}
    (hT : pr_T now tn Tx La LT pk pv pn tc) (h1 : Fa = now 4) (h2 : Pa = now 5) (hq : ∀ sk', Q (pr_odds now tn t) sk') : wp_X1_oddsIn t Fa Pa Tx La sk LT pn tc Q := by
  unfold wp_X1_oddsIn
  refine sp_X1_farIn h1 h2 ?_
  refine sp_X1_lawGives (n := 0) (k := 1) hT.1.1 hT.2.1 hT.2.2.1 hT.2.2.2 (by decide) (fun sk' => ?_)
  exact sp_X6_held (by decide) (hq sk')
theorem pr_f3_upd (fct : Nat → Int32) (a b c : Int32) : ∀ j, j < 2 → upd (upd fct 0 a) 1 b j = pr_f3 a b c j := by
  intro j hj
  have : j = 0 ∨ j = 1 := by omega
  rcases this with rfl | rfl
  · rw [pn_upd_ne (by decide), pn_upd_self]; rfl
  · rw [pn_upd_self]; rfl
theorem sp_X7_odds {now stk fct : Nat → Int32} {tn : Nat} {t : Int32} {Q : Int32 → (Nat → Int32) → (Nat → Int32) → Prop} (hM : pr_M now tn) (hq : ∀ st' fc', Q (pr_odds now tn t) st' fc') : wp_X7_oddsOn t now stk fct Q := by
  unfold wp_X7_oddsOn
  refine sp_X7_farOn ?_
  refine sp_X7_counts (k := 1) hM.2.1 hM.1 ?_
  unfold pr_odds pr_law at hq
  rcases pr_ct_cases now 1 tn with h | ⟨u, h1, h2, h3⟩
  · rw [h] at hq ⊢
    rw [if_pos (show (-1 : Int32) < 0 by decide)] at hq
    exact ⟨fun z => absurd z (by decide), fun _ => sp_X7_within (hq _ _)⟩
  · rw [h2] at hq ⊢
    have hp : ¬ nI u < 0 := nI_pos (by have := hM.1; omega)
    rw [if_neg hp, pn_cl (by have := hM.1; omega)] at hq
    obtain ⟨key, cnt, hx⟩ := hM.2.2 u h1
    have hk := pr_keq hx (by decide) h3
    subst hk
    refine ⟨fun _ => ?_, fun z => absurd (nI_pos' (by have := hM.1; omega)) z⟩
    refine sp_X7_worksOut (by have := hM.1; omega) hx (fun st' => sp_X7_within ?_)
    rw [pe_val_cong hx (gc := pr_f3 (pr_far now t) t 0) (fun j hj => pr_f3_upd _ _ _ _ j hj)]
    exact hq _ _
theorem sp_X1_risk {now : Nat → Int32} {tn p : Nat} {Ki He : Nat → Int32} {Tx : Nat → Option Nat} {La sk : Nat → Int32} {LT : List Nat} {pk pv : Nat → Int32} {pn : Nat → Nat} {tc : Nat → Nat → Int32} {Q : Int32 → (Nat → Int32) → Prop}
    (hT : pr_T now tn Tx La LT pk pv pn tc) (hp : p < 24) (h1 : Ki p = now (9 + 3 * p)) (h2 : He p = now (9 + 3 * p + 1)) (hq : ∀ sk', Q (pr_risk now tn p) sk') : wp_X1_riskOf (nI p) Ki He Tx La sk LT pn tc Q := by
  unfold wp_X1_riskOf
  rw [pn_cl (by omega), h1, h2]
  refine ⟨pn_in hp (by decide), sp_X1_lawGives (n := 0) (k := 0) hT.1.1 hT.2.1 hT.2.2.1 hT.2.2.2 (by decide) (fun sk' => ?_)⟩
  refine sp_X6_held (by decide) ⟨pn_in hp (by decide), sp_X6_riskBy (hq sk')⟩
theorem pr_h10 : ∀ h, h ≤ 99 → pn_hd 0 99 (nI h / 10) = nI h / 10 := by
  intro h hh
  have : h < 100 := by omega
  revert h
  decide +kernel
theorem sp_X7_risk {now stk fct : Nat → Int32} {tn p h : Nat} {Q : Int32 → (Nat → Int32) → (Nat → Int32) → Prop} (hM : pr_M now tn) (hp : p < 24) (hh : h ≤ 99) (h1 : now (9 + 3 * p + 1) = nI h) (hq : ∀ st' fc', Q (pr_risk now tn p) st' fc') : wp_X7_riskOf (nI p) now stk fct Q := by
  have key : ∀ st' fc', jp_X7_riskOf_52 (nI p) now Q (pr_plain now tn p) st' fc' := by
    intro st' fc'
    unfold jp_X7_riskOf_52
    refine sp_X7_of (w := 0) hp (by decide) ?_
    have hq := hq st' fc'
    unfold pr_risk pr_rb at hq
    show (now (9 + 3 * p) = 1 → _) ∧ _
    generalize now (9 + 3 * p) = k at hq ⊢
    refine ⟨fun c => ?_, fun c => ?_, fun c => ?_, fun c => ?_, fun c => ?_, fun c => ?_⟩
    · subst c; exact hq
    · subst c; exact hq
    · subst c; exact hq
    · subst c; exact hq
    · subst c; exact hq
    · obtain ⟨c1, c2, c3, c4, c5⟩ := c
      rw [if_neg c1, if_neg c2, if_neg c3, if_neg c4, if_neg c5] at hq
      exact hq
  unfold wp_X7_riskOf
  refine sp_X7_counts (k := 0) hM.2.1 hM.1 ?_
  refine sp_X7_of (w := 1) hp (by decide) ?_
  unfold pr_plain pr_law at key
  rcases pr_ct_cases now 0 tn with h0 | ⟨u, g1, g2, g3⟩
  · rw [h0] at key ⊢
    rw [if_pos (show (-1 : Int32) < 0 by decide)] at key
    refine ⟨fun z => absurd z (by decide), fun _ => sp_X7_of (w := 1) hp (by decide) ?_⟩
    rw [h1] at key ⊢
    rw [pr_h10 h hh] at key
    exact key _ _
  · rw [g2] at key ⊢
    have hp : ¬ nI u < 0 := nI_pos (by have := hM.1; omega)
    rw [if_neg hp, pn_cl (by have := hM.1; omega)] at key
    obtain ⟨ky, cnt, hx⟩ := hM.2.2 u g1
    have hk := pr_keq hx (by decide) g3
    subst hk
    refine ⟨fun _ => ?_, fun z => absurd (nI_pos' (by have := hM.1; omega)) z⟩
    refine sp_X7_worksOut (by have := hM.1; omega) hx (fun st' => sp_X7_within ?_)
    rw [pe_val_cong hx (gc := pr_f3 (now (9 + 3 * p + 1)) (nI p) 0) (fun j hj => pr_f3_upd _ _ _ _ j hj)]
    exact key _ _
theorem pr_odds_nI (now : Nat → Int32) (tn : Nat) (t : Int32) : ∃ j, j ≤ 100 ∧ pr_odds now tn t = nI j := pn_hd_nI 100 (by decide) _
theorem pr_rb_nI : ∀ k, k ≤ 5 → ∀ y, y ≤ 99 → ∃ v, v ≤ 218 ∧ pr_rb (nI k) (nI y) = nI v := by
  intro k hk y hy
  have : k = 0 ∨ k = 1 ∨ k = 2 ∨ k = 3 ∨ k = 4 ∨ k = 5 := by omega
  rcases this with rfl | rfl | rfl | rfl | rfl | rfl
  · exact ⟨y, by omega, rfl⟩
  · exact ⟨y + 10, by omega, nI_add y 10⟩
  · refine ⟨y / 2, by omega, ?_⟩
    show nI y / nI 2 = _
    rw [pk_div (by omega) (by omega) (by omega)]
  · refine ⟨2 * (y + 10), by omega, ?_⟩
    show nI 2 * (nI y + nI 10) = _
    rw [nI_add, pk_mul]
  · refine ⟨y / 2 + 5, by omega, ?_⟩
    show nI y / nI 2 + nI 5 = _
    rw [pk_div (by omega) (by omega) (by omega), nI_add]
  · exact ⟨y + 20, by omega, nI_add y 20⟩
theorem pr_risk_nI {now : Nat → Int32} {tn p k : Nat} (hk : k ≤ 5) (h : now (9 + 3 * p) = nI k) : ∃ v, v ≤ 218 ∧ pr_risk now tn p = nI v := by
  unfold pr_risk pr_plain
  obtain ⟨y, hy, e⟩ := pn_hd_nI 99 (by decide) (pr_law now 0 tn (now (9 + 3 * p + 1)) (nI p) 0 (now (9 + 3 * p + 1) / 10))
  rw [show (99 : Int32) = nI 99 from rfl, e, h]
  exact pr_rb_nI k hk y hy
/-- a draw -/
def pr_z (z : Int32) : Int32 := (z * 1103515245) + 12345
def pr_d (z : Int32) : Int32 := rc_ushr (pr_z z) 8
theorem pr_d_nI (z : Int32) : ∃ j, j < 16777216 ∧ pr_d z = nI j := by
  unfold pr_d rc_ushr
  obtain ⟨n, hn, e⟩ : ∃ n, n < 2 ^ 32 ∧ pr_z z = nI n := ⟨(pr_z z).toBitVec.toNat, (pr_z z).toBitVec.isLt, by
    apply Int32.toBitVec_inj.mp
    apply BitVec.eq_of_toNat_eq
    rw [pk_tn (pr_z z).toBitVec.isLt]⟩
  rw [e, pk_ushrN hn 8 8 (by decide)]
  exact ⟨n / 2 ^ 8, by omega, rfl⟩
theorem pr_d_rem (z : Int32) (m : Nat) (h0 : 0 < m) (hm : m < 2 ^ 31) : ∃ j, j < m ∧ rc_rem (pr_d z) (nI m) = nI j := by
  obtain ⟨n, hn, e⟩ := pr_d_nI z
  rw [e]
  unfold rc_rem
  rw [pk_rem (by omega) h0 hm]
  exact ⟨n % m, Nat.mod_lt _ h0, rfl⟩
theorem sp_X1_draw {z : Int32} {Q : Int32 → Int32 → Prop} (h : Q (pr_d z) (pr_z z)) : wp_X1_draw z Q := h
theorem sp_X7_draw {now : Nat → Int32} {Q : Int32 → (Nat → Int32) → Prop} (h : Q (pr_d (now 0)) (upd now 0 (pr_z (now 0)))) : wp_X7_draw now Q := by
  unfold wp_X7_draw
  rw [pn_upd_self]
  exact h
