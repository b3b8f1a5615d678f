/-! PURE: the loops over a text's codes -/
theorem pe_works (now fct : Nat → Int32) (t cnt nm : Nat) (Q : Int32 → (Nat → Int32) → Prop) (ht : t < 14) (hc : cnt ≤ 96) (hnm : nm ≤ 3) : ∀ (m k top : Nat) (stk : Nat → Int32), k + m = cnt → top ≤ k → pe_wf (fun j => now (109 + 96 * t + j)) nm m k top → (∀ st', Q (pe_ev (fun j => now (109 + 96 * t + j)) fct m k top stk) st') → lp_X7_worksOut_21 (nI t) now fct Q (m + 1) (nI top) (nI cnt) (nI k) stk := by
  intro m
  induction m with
  | zero =>
    intro k top stk hk htk hw hq
    show lp_X7_worksOut_21F (nI t) now fct Q (lp_X7_worksOut_21 (nI t) now fct Q 0) (nI top) (nI cnt) (nI k) stk
    unfold lp_X7_worksOut_21F
    refine ⟨fun _ => hq stk, fun h => absurd ?_ h⟩
    rw [nI_leI (by omega) (by omega)]
    omega
  | succ m ih =>
    intro k top stk hk htk hw hq
    show lp_X7_worksOut_21F (nI t) now fct Q (lp_X7_worksOut_21 (nI t) now fct Q (m + 1)) (nI top) (nI cnt) (nI k) stk
    unfold lp_X7_worksOut_21F
    refine ⟨fun h => absurd h ?_, fun _ => ?_⟩
    · rw [nI_leI (by omega) (by omega)]; omega
    · unfold pe_wf at hw
      unfold pe_ev at hq
      rw [pn_ixc, pn_cl (by omega)]
      refine ⟨pn_in (by omega) (by decide), ?_, ?_⟩
      · intro h1
        rw [if_pos h1] at hw
        simp only [if_pos h1] at hq
        refine ⟨fun h2 => ?_, fun h2 => ?_⟩
        · rw [if_neg h2] at hw
          simp only [if_neg h2] at hq
          obtain ⟨h3, h4, h5⟩ := hw
          obtain ⟨b, rfl⟩ : ∃ b, top = b + 2 := ⟨top - 2, by omega⟩
          rw [show nI (b + 2) + (-1) = nI (b + 1) from pn_m1 (b + 1), pn_s1, pn_cl (by omega), pn_cl (by omega)]
          refine ⟨pn_in (by omega) (by decide), pn_in (by omega) (by decide), sp_X7_two ⟨pn_in (by omega) (by decide), ?_⟩⟩
          rw [pn_p1]
          exact ih (k + 1) (b + 1) _ (by omega) (by omega) h5 hq
        · rw [if_pos h2] at hw
          simp only [if_pos h2] at hq
          obtain ⟨h3, h5⟩ := hw
          obtain ⟨b, rfl⟩ : ∃ b, top = b + 1 := ⟨top - 1, by omega⟩
          rw [pn_s1, pn_cl (by omega), pn_p1]
          refine ⟨pn_in (by omega) (by decide), fun h6 => ⟨pn_in (by omega) (by decide), ?_⟩, fun h6 => ⟨pn_in (by omega) (by decide), ?_⟩⟩
          · refine ih (k + 1) (b + 1) _ (by omega) (by omega) h5 ?_
            simp only [Nat.add_sub_cancel, if_neg h6] at hq
            exact hq
          · refine ih (k + 1) (b + 1) _ (by omega) (by omega) h5 ?_
            simp only [Nat.add_sub_cancel, if_pos h6] at hq
            exact hq
      · intro h1
        rw [if_neg h1] at hw
        simp only [if_neg h1] at hq
        obtain ⟨⟨v, hv, hcv⟩, h5⟩ := hw
        have hcv : now (109 + 96 * t + k) = nI v := hcv
        rw [hcv] at hq ⊢
        rw [pn_p1, pn_p1, pn_cl (show top < 2 ^ 31 by omega)]
        refine ⟨fun h6 => ?_, fun h6 => ⟨pn_in (by omega) (by decide), ?_⟩⟩
        · simp only [if_pos h6] at hq
          rw [show (10000 : Int32) = nI 10000 from rfl] at h6 hq ⊢
          rw [nI_leI (by omega) (by omega)] at h6
          rw [pk_sub h6, pn_cl (by omega)] at hq ⊢
          exact ⟨pn_in (by omega) (by decide), pn_in (by omega) (by decide), ih (k + 1) (top + 1) _ (by omega) (by omega) h5 hq⟩
        · simp only [if_neg h6] at hq
          exact ih (k + 1) (top + 1) _ (by omega) (by omega) h5 hq
/-- a text t of the row now: its key, how many codes -/
def pe_tx (now : Nat → Int32) (t key cnt : Nat) : Prop := key ≤ 2 ∧ cnt ≤ 95 ∧ now (81 + 2 * t) = nI (1000 * key + cnt) ∧ pe_wf (fun j => now (109 + 96 * t + j)) (if key = 2 then 3 else 2) cnt 0 0
theorem pe_rem {key cnt : Nat} (h1 : key ≤ 2) (h2 : cnt ≤ 95) : rc_rem (nI (1000 * key + cnt)) 1000 = nI cnt := by
  unfold rc_rem
  rw [show (1000 : Int32) = nI 1000 from rfl, pk_rem (by omega) (by omega) (by omega)]
  congr 1
  omega
theorem pe_div {key cnt : Nat} (h1 : key ≤ 2) (h2 : cnt ≤ 95) : nI (1000 * key + cnt) / 1000 = nI key := by
  rw [show (1000 : Int32) = nI 1000 from rfl, pk_div (by omega) (by omega) (by omega)]
  congr 1
  omega
/-- what text t gives for facts -/
def pe_val (now : Nat → Int32) (t : Nat) (fc : Nat → Int32) : Int32 := pe_ev (fun j => now (109 + 96 * t + j)) fc ((rc_rem (now (81 + 2 * t)) 1000).toNatClampNeg) 0 0 (fun _ => 0)
theorem sp_X7_worksOut {now stk fct : Nat → Int32} {t key cnt : Nat} {Q : Int32 → (Nat → Int32) → Prop} (ht : t < 14) (hx : pe_tx now t key cnt) (hq : ∀ st', Q (pe_val now t fct) st') : wp_X7_worksOut (nI t) now stk fct Q := by
  obtain ⟨h1, h2, h3, h4⟩ := hx
  unfold wp_X7_worksOut
  rw [pn_ixt, pn_cl (by omega), h3, pe_rem h1 h2]
  refine ⟨pn_in (by omega) (by decide), cnt + 1, ?_⟩
  refine pe_works now fct t cnt _ Q ht (by omega) (by split <;> omega) cnt 0 0 stk (by omega) (by omega) h4 ?_
  intro st'
  have := hq st'
  unfold pe_val at this
  rw [h3, pe_rem h1 h2, pn_cl (by omega)] at this
  rw [pe_cong _ _ fct _ (by split <;> omega) (fun _ _ => rfl) cnt 0 0 stk (fun _ => 0) h4 (fun i hi => absurd hi (by omega))]
  exact this
/-- the class's codes of it -/
theorem pe_cv_num {v : Nat} (h : v < 10000) : pe_cv (nI v) = nI v ∧ ¬ pe_cv (nI v) < 0 := by
  have hne : ∀ c : Int32, c < 0 → ¬ nI v = c := fun c hc e => nI_pos (n := v) (by omega) (by rw [e]; exact hc)
  have e : pe_cv (nI v) = nI v := by
    unfold pe_cv
    rw [if_neg (hne (-1) (by decide)), if_neg (hne (-2) (by decide)), if_neg (hne (-3) (by decide)), if_neg (hne (-4) (by decide)), if_neg (hne (-5) (by decide)), if_neg (hne (-6) (by decide)), if_neg (hne (-7) (by decide)), if_neg (hne (-8) (by decide)), if_neg (hne (-9) (by decide)), if_neg (hne (-10) (by decide))]
    rw [if_neg]
    rw [show (10000 : Int32) = nI 10000 from rfl, nI_leI (by omega) (by omega)]
    omega
  rw [e]
  exact ⟨rfl, nI_pos (by omega)⟩
theorem pe_cv_name : ∀ j, j < 3 → pe_cv (nI (10000 + j)) = -1 - nI j := by decide +kernel
theorem pe_cv_name2 : ∀ j, j < 3 → ¬ (-1 - nI j = -33) ∧ (-3) ≤ -1 - nI j ∧ -1 - nI j < 0 := by decide +kernel
theorem sp_X4_named {j : Nat} {p1 p2 p3 : Int32} {Q : Int32 → Prop} (hj : j < 3) (h : Q (if j = 0 then p1 else if j = 1 then p2 else p3)) : wp_X4_named (-1 - nI j) p1 p2 p3 Q := by
  unfold wp_X4_named
  have hj : j = 0 ∨ j = 1 ∨ j = 2 := by omega
  rcases hj with rfl | rfl | rfl
  · rw [show (-1 - nI 0 : Int32) = -1 by decide]
    exact ⟨fun z => absurd rfl z, fun _ => h⟩
  · rw [show (-1 - nI 1 : Int32) = -2 by decide]
    exact ⟨fun _ => ⟨fun z => absurd rfl z, fun _ => h⟩, fun z => absurd z (by decide)⟩
  · rw [show (-1 - nI 2 : Int32) = -3 by decide]
    exact ⟨fun _ => ⟨fun _ => h, fun z => absurd z (by decide)⟩, fun z => absurd z (by decide)⟩
theorem pe_cv_sign : ∀ c : Int32, (-9) ≤ c → c < 0 → ¬ pe_cv c = -33 ∧ ¬ (-3) ≤ pe_cv c := by
  intro c h1 h2
  rw [pn_lei] at h1
  rw [pn_lti] at h2
  have e1 : (-9 : Int32).toInt = -9 := by decide
  have e2 : (0 : Int32).toInt = 0 := rfl
  have : ∃ a : Nat, a < 9 ∧ c = -9 + nI a := by
    refine ⟨(c.toInt + 9).toNat, by omega, Int32.toInt_inj.mp ?_⟩
    have : c.toInt = -1 ∨ c.toInt = -2 ∨ c.toInt = -3 ∨ c.toInt = -4 ∨ c.toInt = -5 ∨ c.toInt = -6 ∨ c.toInt = -7 ∨ c.toInt = -8 ∨ c.toInt = -9 := by omega
    rcases this with h | h | h | h | h | h | h | h | h <;> rw [h] <;> decide
  obtain ⟨a, ha, rfl⟩ := this
  revert a
  decide +kernel
theorem pe_value (cd : Nat → Int32) (pn : Nat → Nat) (tc : Nat → Nat → Int32) (ta : Nat) (p1 p2 p3 : Int32) (cnt nm : Nat) (Q : Int32 → (Nat → Int32) → Prop) (hc : cnt ≤ 96) (hnm : nm ≤ 3) (hn : pn ta = cnt) (hcd : ∀ k, k < cnt → tc ta k = pe_cv (cd k)) : ∀ (m k top : Nat) (stk : Nat → Int32), k + m = cnt → top ≤ k → pe_wf cd nm m k top → (∀ st', Q (pe_ev cd (fun j => if j = 0 then p1 else if j = 1 then p2 else p3) m k top stk) st') → lp_X4_valueFor_6 p1 p2 p3 pn tc ta Q (m + 1) (nI top) (nI k) stk := by
  intro m
  induction m with
  | zero =>
    intro k top stk hk htk hw hq
    show lp_X4_valueFor_6F p1 p2 p3 pn tc ta Q (lp_X4_valueFor_6 p1 p2 p3 pn tc ta Q 0) (nI top) (nI k) stk
    unfold lp_X4_valueFor_6F
    have hw : top = 1 := hw
    subst hw
    rw [hn]
    refine ⟨fun _ => ⟨fun h => absurd h (by decide), fun _ => hq stk⟩, fun h => absurd ?_ h⟩
    rw [nI_leI (by omega) (by omega)]
    omega
  | succ m ih =>
    intro k top stk hk htk hw hq
    show lp_X4_valueFor_6F p1 p2 p3 pn tc ta Q (lp_X4_valueFor_6 p1 p2 p3 pn tc ta Q (m + 1)) (nI top) (nI k) stk
    unfold lp_X4_valueFor_6F
    rw [hn]
    refine ⟨fun h => absurd h ?_, fun _ => ⟨pn_in (by omega) (by omega), ?_⟩⟩
    · rw [nI_leI (by omega) (by omega)]; omega
    · unfold pe_wf at hw
      unfold pe_ev at hq
      rw [pn_cl (show k < 2 ^ 31 by omega), hcd k (by omega)]
      by_cases h1 : cd k < 0
      · rw [if_pos h1] at hw
        simp only [if_pos h1] at hq
        by_cases h2 : cd k = -10
        · rw [if_pos h2] at hw
          simp only [if_pos h2] at hq
          obtain ⟨h3, h5⟩ := hw
          obtain ⟨b, rfl⟩ : ∃ b, top = b + 1 := ⟨top - 1, by omega⟩
          rw [h2, show pe_cv (-10) = (-33 : Int32) by decide]
          refine ⟨fun z => absurd rfl z, fun _ => ⟨fun z => ?_, fun _ => ?_⟩⟩
          · rw [show (1 : Int32) = nI 1 from rfl, nI_ltI (by omega) (by omega)] at z
            omega
          · rw [pn_s1, pn_cl (show b < 2 ^ 31 by omega), pn_p1]
            refine ⟨pn_in (by omega) (by decide), fun h6 => ⟨pn_in (by omega) (by decide), ?_⟩, fun h6 => ⟨pn_in (by omega) (by decide), ?_⟩⟩
            · refine ih (k + 1) (b + 1) _ (by omega) (by omega) h5 ?_
              simp only [Nat.add_sub_cancel, if_neg h6] at hq
              exact hq
            · refine ih (k + 1) (b + 1) _ (by omega) (by omega) h5 ?_
              simp only [Nat.add_sub_cancel, if_pos h6] at hq
              exact hq
        · rw [if_neg h2] at hw
          simp only [if_neg h2] at hq
          obtain ⟨h3, h4, h5⟩ := hw
          obtain ⟨b, rfl⟩ : ∃ b, top = b + 2 := ⟨top - 2, by omega⟩
          obtain ⟨hs1, hs2⟩ := pe_cv_sign _ h3 h1
          refine ⟨fun _ => ⟨fun z => absurd z hs2, fun _ => ⟨fun z => ?_, fun _ => ?_⟩⟩, fun z => absurd z hs1⟩
          · rw [show (2 : Int32) = nI 2 from rfl, nI_ltI (by omega) (by omega)] at z
            omega
          · rw [show nI (b + 2) + (-1) = nI (b + 1) from pn_m1 (b + 1), pn_s1, pn_cl (show b < 2 ^ 31 by omega), pn_cl (show b + 1 < 2 ^ 31 by omega), pn_p1]
            refine ⟨pn_in (by omega) (by decide), pn_in (by omega) (by decide), sp_X4_worked ⟨h3, h1⟩ ⟨pn_in (by omega) (by decide), ?_⟩⟩
            exact ih (k + 1) (b + 1) _ (by omega) (by omega) h5 hq
      · rw [if_neg h1] at hw
        simp only [if_neg h1] at hq
        obtain ⟨⟨v, hv, hcv⟩, h5⟩ := hw
        rw [hcv] at hq ⊢
        have h96 : ¬ (96 : Int32) ≤ nI top := by rw [show (96 : Int32) = nI 96 from rfl, nI_leI (by omega) (by omega)]; omega
        rw [pn_p1, pn_p1, pn_cl (show top < 2 ^ 31 by omega)]
        by_cases h6 : v < 10000
        · obtain ⟨e1, e2⟩ := pe_cv_num h6
          rw [e1] at e2 ⊢
          have e3 : ¬ nI v = -33 := fun z => e2 (by rw [z]; decide)
          have e4 : (-3 : Int32) ≤ nI v := by
            rw [pn_lei]
            rw [pn_lti] at e2
            have : (-3 : Int32).toInt = -3 := by decide
            have : (0 : Int32).toInt = 0 := rfl
            omega
          have h7 : ¬ (10000 : Int32) ≤ nI v := by rw [show (10000 : Int32) = nI 10000 from rfl, nI_leI (by omega) (by omega)]; omega
          simp only [if_neg h7] at hq
          exact ⟨fun _ => ⟨fun _ => ⟨fun z => absurd z h96, fun _ => ⟨fun z => absurd z e2, fun _ => ⟨pn_in (by omega) (by decide), ih (k + 1) (top + 1) _ (by omega) (by omega) h5 hq⟩⟩⟩, fun z => absurd e4 z⟩, fun z => absurd z e3⟩
        · obtain ⟨j, rfl⟩ : ∃ j, v = 10000 + j := ⟨v - 10000, by omega⟩
          have hj : j < 3 := by omega
          rw [pe_cv_name j hj]
          obtain ⟨e1, e2, e3⟩ := pe_cv_name2 j hj
          have h7 : (10000 : Int32) ≤ nI (10000 + j) := by rw [show (10000 : Int32) = nI 10000 from rfl, nI_leI (by omega) (by omega)]; omega
          simp only [if_pos h7] at hq
          rw [show (10000 : Int32) = nI 10000 from rfl, pk_sub (by omega), pn_cl (by omega), Nat.add_sub_cancel_left] at hq
          exact ⟨fun _ => ⟨fun _ => ⟨fun z => absurd z h96, fun _ => ⟨fun _ => sp_X4_named hj ⟨pn_in (by omega) (by decide), ih (k + 1) (top + 1) _ (by omega) (by omega) h5 hq⟩, fun z => absurd e3 z⟩⟩, fun z => absurd e2 z⟩, fun z => absurd z e1⟩
/-- the same text, by the class: what stands in the pool at ta is text t of now -/
def pe_same (now : Nat → Int32) (t : Nat) (pn : Nat → Nat) (tc : Nat → Nat → Int32) (ta key cnt : Nat) : Prop := pn ta = cnt ∧ ∀ k, k < cnt → tc ta k = pe_cv (now (109 + 96 * t + k))
theorem sp_X4_valueFor {now : Nat → Int32} {pn : Nat → Nat} {tc : Nat → Nat → Int32} {ta t key cnt : Nat} {p1 p2 p3 : Int32} {stk fc : Nat → Int32} {Q : Int32 → (Nat → Int32) → Prop} (hx : pe_tx now t key cnt) (hs : pe_same now t pn tc ta key cnt) (h1 : fc 0 = p1) (h2 : fc 1 = p2) (h3 : key = 2 → fc 2 = p3) (hq : ∀ st', Q (pe_val now t fc) st') : wp_X4_valueFor p1 p2 p3 stk pn tc ta Q := by
  obtain ⟨g1, g2, g3, g4⟩ := hx
  unfold wp_X4_valueFor
  refine ⟨cnt + 1, ?_⟩
  refine pe_value (fun j => now (109 + 96 * t + j)) pn tc ta p1 p2 p3 cnt _ Q (by omega) (by split <;> omega) hs.1 hs.2 cnt 0 0 stk (by omega) (by omega) g4 ?_
  intro st'
  have := hq st'
  unfold pe_val at this
  rw [g3, pe_rem g1 g2, pn_cl (by omega)] at this
  rw [pe_cong _ _ fc _ (by split <;> omega) (fun j hj => ?_) cnt 0 0 stk (fun _ => 0) g4 (fun i hi => absurd hi (by omega))]
  · exact this
  · by_cases e0 : j = 0
    · subst e0; rw [if_pos rfl, h1]
    · by_cases e1 : j = 1
      · subst e1; rw [if_neg (by omega), if_pos rfl, h2]
      · rw [if_neg e0, if_neg e1]
        by_cases hk : key = 2
        · rw [if_pos hk] at hj
          rw [← h3 hk]
          congr 1
          omega
        · rw [if_neg hk] at hj
          omega
