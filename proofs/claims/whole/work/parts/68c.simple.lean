/-! PURE: more plain calls -/
def pk_und (k j : Int32) : Prop := j = 0 ∨ k = j ∨ (j = 1 ∧ k = 3) ∨ (j = 2 ∧ k = 4)
theorem pk_st {p1 x2 x3 : Int32} {Q : Int32 → Prop} {m : Nat} (h2 : 0 ≤ x2 ∧ x2 ≤ 5) (h3 : x3 < 6) (ht : x2 = p1 → Q 1) (hf : ¬ x2 = p1 → lp_X6_isOfKind_4 p1 Q m (rc_ka x2.toNatClampNeg) (x3 + 1)) : lp_X6_isOfKind_4 p1 Q (m + 1) x2 x3 := by
  show lp_X6_isOfKind_4F p1 Q (lp_X6_isOfKind_4 p1 Q m) x2 x3
  unfold lp_X6_isOfKind_4F
  refine pbF (by grind) (pk6T h2 (pb1 ⟨fun z => ⟨?_, hf z⟩, ht⟩))
  grind [pg_v, pg_c]
theorem pk_en {p1 x3 : Int32} {Q : Int32 → Prop} {m : Nat} (h : Q 0) : lp_X6_isOfKind_4 p1 Q (m + 1) (-1000000005) x3 := by
  show lp_X6_isOfKind_4F p1 Q (lp_X6_isOfKind_4 p1 Q m) (-1000000005) x3
  unfold lp_X6_isOfKind_4F
  exact ⟨fun _ => h, fun _ => pk6F (by decide) (pb0 h)⟩
theorem sp_X6_isOfKind {k : Nat} {j : Int32} {Q : Int32 → Prop} (hk : k ≤ 5) (h1 : pk_und (nI k) j → Q 1) (h0 : ¬ pk_und (nI k) j → Q 0) : wp_X6_isOfKind (nI k) j Q := by
  unfold wp_X6_isOfKind
  unfold pk_und at h1 h0
  refine ⟨4, ?_⟩
  have : k = 0 ∨ k = 1 ∨ k = 2 ∨ k = 3 ∨ k = 4 ∨ k = 5 := by omega
  rcases this with rfl | rfl | rfl | rfl | rfl | rfl
  · refine pk_st (by decide) (by decide) (fun e => h1 (by grind)) (fun e => ?_)
    exact pk_en (h0 (by subst_vars; simp only [nI] at *; grind))
  · refine pk_st (by decide) (by decide) (fun e => h1 (by grind)) (fun e => ?_)
    refine pk_st (x2 := 0) (by decide) (by decide) (fun e => h1 (by grind)) (fun e2 => ?_)
    exact pk_en (h0 (by simp only [show nI 1 = 1 from rfl] at *; grind))
  · refine pk_st (by decide) (by decide) (fun e => h1 (by grind)) (fun e => ?_)
    refine pk_st (x2 := 0) (by decide) (by decide) (fun e => h1 (by grind)) (fun e2 => ?_)
    exact pk_en (h0 (by simp only [show nI 2 = 2 from rfl] at *; grind))
  · refine pk_st (by decide) (by decide) (fun e => h1 (by grind)) (fun e => ?_)
    refine pk_st (x2 := 1) (by decide) (by decide) (fun e => h1 (by simp only [show nI 3 = 3 from rfl] at *; grind)) (fun e2 => ?_)
    refine pk_st (x2 := 0) (by decide) (by decide) (fun e => h1 (by grind)) (fun e3 => ?_)
    exact pk_en (h0 (by simp only [show nI 3 = 3 from rfl] at *; grind))
  · refine pk_st (by decide) (by decide) (fun e => h1 (by grind)) (fun e => ?_)
    refine pk_st (x2 := 2) (by decide) (by decide) (fun e => h1 (by simp only [show nI 4 = 4 from rfl] at *; grind)) (fun e2 => ?_)
    refine pk_st (x2 := 0) (by decide) (by decide) (fun e => h1 (by grind)) (fun e3 => ?_)
    exact pk_en (h0 (by simp only [show nI 4 = 4 from rfl] at *; grind))
  · refine pk_st (by decide) (by decide) (fun e => h1 (by grind)) (fun e => ?_)
    refine pk_st (x2 := 0) (by decide) (by decide) (fun e => h1 (by grind)) (fun e2 => ?_)
    exact pk_en (h0 (by simp only [show nI 5 = 5 from rfl] at *; grind))
theorem sp_X7_isUnder {k j : Int32} {Q : Int32 → Prop} (h1 : pk_und k j → Q 1) (h0 : ¬ pk_und k j → Q 0) : wp_X7_isUnder k j Q := by
  unfold wp_X7_isUnder jp_X7_isUnder_19
  unfold pk_und at h1 h0
  grind
def pk_worth (k h : Int32) : Int32 := if k = 1 then h + 7 else if k = 2 then 100 - h else if k = 3 then 2 * (h + 7) else if k = 4 then 80 - h else if k = 5 then h / 2 else h
theorem sp_X6_worthOf {k h : Int32} {Q : Int32 → Prop} (hq : Q (pk_worth k h)) : wp_X6_worthOf k h Q := by
  unfold wp_X6_worthOf
  unfold pk_worth at hq
  have e : (100 - h) - 20 = 80 - h := by grind
  rw [e]
  refine ⟨fun c => ?_, fun c => ?_, fun c => ?_, fun c => ?_, fun c => ?_, fun c => ?_⟩
  · subst c; exact hq
  · subst c; exact hq
  · subst c; exact hq
  · subst c; exact hq
  · subst c; exact hq
  · obtain ⟨c1, c2, c3, c4, c5⟩ := c
    rw [if_neg c1, if_neg c2, if_neg c3, if_neg c4, if_neg c5] at hq
    exact hq
theorem sp_X7_worthOf {p : Nat} {now : Nat → Int32} {Q : Int32 → Prop} (hp : p < 24) (hq : Q (pk_worth (now (9 + 3 * p)) (now (9 + 3 * p + 1)))) : wp_X7_worthOf (nI p) now Q := by
  unfold wp_X7_worthOf
  refine sp_X7_of (w := 1) hp (by decide) (sp_X7_of (w := 0) hp (by decide) ?_)
  unfold pk_worth at hq
  show (now (9 + 3 * p) = 1 → _) ∧ _
  generalize now (9 + 3 * p) = k at hq ⊢
  refine ⟨fun c => ?_, fun c => ?_, fun c => ?_, fun c => ?_, fun c => ?_, fun c => ?_⟩
  · subst c; exact hq
  · subst c; exact hq
  · subst c; exact hq
  · subst c; exact hq
  · subst c; exact hq
  · obtain ⟨c1, c2, c3, c4, c5⟩ := c
    rw [if_neg c1, if_neg c2, if_neg c3, if_neg c4, if_neg c5] at hq
    exact hq
section
variable {now : Nat → Int32} {n tn : Nat} {Sz Tc Fa Pa Py Mi Me Sr Z : Int32} {Ki He Do : Nat → Int32} {Tx : Nat → Option Nat} {La : Nat → Int32} {LT : List Nat} {pk pv : Nat → Int32} {pn : Nat → Nat} {tc : Nat → Nat → Int32}
theorem j_told (H : pr_rel now n tn Sz Tc Fa Pa Py Mi Me Sr Z Ki He Do Tx La LT pk pv pn tc) (p1 p2 : Int32) (sk stk fct : Nat → Int32) : wp_X6_told p1 p2 Sz Ki He Do Tx La sk LT pn tc (fun r _ => wp_X7_told p1 p2 now stk fct (fun r' _ _ => r = r')) := by
  obtain ⟨⟨b1, b2, b3, b4, b5⟩, ⟨s1, s2, s3, s4, s5, s6, s7, s8⟩, py, pl, hT⟩ := pr_rel_iff.mp H
  unfold wp_X6_told wp_X7_told
  by_cases hp : ∃ p, p < n ∧ p1 = nI p
  · obtain ⟨p, hp, rfl⟩ := hp
    obtain ⟨k, h, d, q1, q2, q3, q4, q5, q6, q7, q8, q9⟩ := pl p hp
    refine ph6T hp (by omega) (by rw [s1, b2]) (pb1' ?_)
    have hi : vp_in (nI p) 24 := pn_in (by omega) (by decide)
    rw [pn_cl (by omega)]
    refine ⟨fun e => ?_, fun e => ?_, fun e => ?_, fun e => ?_, fun e => ?_, fun e => ?_⟩
    · subst e
      exact ⟨hi, ph7T hp (by omega) b2 (pb1 (pw7T (by decide) (pb1' (pbF (by decide) (sp_X7_of (w := 0) (by omega) (by decide) (by rw [q7]; exact q4.symm))))))⟩
    · subst e
      exact ⟨hi, ph7T hp (by omega) b2 (pb1 (pw7T (by decide) (pb1' (pbF (by decide) (sp_X7_of (w := 1) (by omega) (by decide) (by rw [q8]; exact q5.symm))))))⟩
    · subst e
      exact ⟨hi, ph7T hp (by omega) b2 (pb1 (pw7T (by decide) (pb1' (pbF (by decide) (sp_X7_of (w := 2) (by omega) (by decide) (by rw [q9]; exact q6.symm))))))⟩
    · subst e
      refine sp_X1_risk hT (by omega) (by rw [q7, q4]) (by rw [q8, q5]) (fun sk' => ?_)
      exact ph7T hp (by omega) b2 (pb1 (pw7T (by decide) (pb1' (pbT (by decide) (pbT' rfl (sp_X7_risk hT.M (by omega) q2 q5 (fun _ _ => rfl)))))))
    · subst e
      refine ⟨hi, hi, sp_X6_worthOf ?_⟩
      refine ph7T hp (by omega) b2 (pb1 (pw7T (by decide) (pb1' (pbT (by decide) (pbF' (by decide) (sp_X7_worthOf (by omega) ?_))))))
      rw [q7, q8, q4, q5]
    · refine ph7T hp (by omega) b2 (pb1 (pw7F ?_ (pb0' rfl)))
      intro z
      obtain ⟨j, hj, rfl⟩ := pn_k (m := 4) (by decide) z
      have : j = 0 ∨ j = 1 ∨ j = 2 ∨ j = 3 ∨ j = 4 := by omega
      rcases this with rfl | rfl | rfl | rfl | rfl
      · exact e.1 rfl
      · exact e.2.1 rfl
      · exact e.2.2.1 rfl
      · exact e.2.2.2.1 rfl
      · exact e.2.2.2.2 rfl
  · exact ph6F hp (by omega) (by rw [s1, b2]) (pb0' (ph7F hp (by omega) b2 (pb0 rfl)))
theorem j_as (H : pr_rel now n tn Sz Tc Fa Pa Py Mi Me Sr Z Ki He Do Tx La LT pk pv pn tc) (p1 p2 : Int32) : wp_X6_as p1 p2 Sz Ki He (fun r => wp_X7_as p1 p2 now (fun r' => r = r')) := by
  obtain ⟨⟨b1, b2, b3, b4, b5⟩, ⟨s1, s2, s3, s4, s5, s6, s7, s8⟩, py, pl, hT⟩ := pr_rel_iff.mp H
  unfold wp_X6_as wp_X7_as
  by_cases hp : ∃ p, p < n ∧ p1 = nI p
  · obtain ⟨p, hp, rfl⟩ := hp
    obtain ⟨k, h, d, q1, q2, q3, q4, q5, q6, q7, q8, q9⟩ := pl p hp
    refine ph6T hp (by omega) (by rw [s1, b2]) (pb1 ?_)
    have hi : vp_in (nI p) 24 := pn_in (by omega) (by decide)
    by_cases hk : 0 ≤ p2 ∧ p2 ≤ 5
    · refine pk6T hk (pb1' ⟨hi, ?_⟩)
      rw [pn_cl (by omega), q7, q8]
      refine sp_X6_isOfKind q1 (fun hu => pb1 ⟨hi, ?_⟩) (fun hu => pb0 ?_)
      · refine ph7T hp (by omega) b2 (pb1 (pw7T hk (pb1' (sp_X7_of (w := 0) (by omega) (by decide) (sp_X7_isUnder (fun _ => pb1 (sp_X7_of (w := 1) (by omega) (by decide) q5.symm)) (fun z => ?_))))))
        exact absurd hu (by rw [← q4]; exact z)
      · refine ph7T hp (by omega) b2 (pb1 (pw7T hk (pb1' (sp_X7_of (w := 0) (by omega) (by decide) (sp_X7_isUnder (fun z => ?_) (fun _ => pb0 rfl))))))
        exact absurd (by rw [← q4]; exact z) hu
    · exact pk6F hk (pb0' (ph7T hp (by omega) b2 (pb1 (pw7F hk (pb0' rfl)))))
  · exact ph6F hp (by omega) (by rw [s1, b2]) (pb0 (ph7F hp (by omega) b2 (pb0 rfl)))
/-- a place changed -/
theorem pr_set_pl (H : pr_rel now n tn Sz Tc Fa Pa Py Mi Me Sr Z Ki He Do Tx La LT pk pv pn tc) {p : Nat} (hp : p < n) {Ki' He' Do' now' : Nat → Int32} (hc : ∀ k, k < 9 ∨ 81 ≤ k → now' k = now k) (hpl : pr_pl now' n Ki' He' Do') : pr_rel now' n tn Sz Tc Fa Pa Py Mi Me Sr Z Ki' He' Do' Tx La LT pk pv pn tc := by
  obtain ⟨⟨b1, b2, b3, b4, b5⟩, ⟨s1, s2, s3, s4, s5, s6, s7, s8⟩, py, pl, hT⟩ := pr_rel_iff.mp H
  have e : ∀ k, k < 9 → now' k = now k := fun k hk => hc k (Or.inl hk)
  refine pr_rel_iff.mpr ⟨⟨b1, ?_, ?_, ?_, ?_⟩, ⟨?_, ?_, ?_, ?_, ?_, ?_, ?_, ?_⟩, ?_, hpl, pr_T_cong (fun k hk => hc k (by omega)) hT⟩
  all_goals (try unfold pr_py)
  all_goals (rw [e _ (by decide)]; assumption)
theorem j_turns (H : pr_rel now n tn Sz Tc Fa Pa Py Mi Me Sr Z Ki He Do Tx La LT pk pv pn tc) (p1 p2 : Int32) : wp_X6_turns p1 p2 Sz Ki (fun r Ki' => wp_X7_turns p1 p2 now (fun r' now' => r = r' ∧ pr_rel now' n tn Sz Tc Fa Pa Py Mi Me Sr Z Ki' He Do Tx La LT pk pv pn tc)) := by
  obtain ⟨⟨b1, b2, b3, b4, b5⟩, ⟨s1, s2, s3, s4, s5, s6, s7, s8⟩, py, pl, hT⟩ := pr_rel_iff.mp H
  unfold wp_X6_turns wp_X7_turns
  by_cases hp : ∃ p, p < n ∧ p1 = nI p
  · obtain ⟨p, hp, rfl⟩ := hp
    refine ph6T hp (by omega) (by rw [s1, b2]) (pb1 ?_)
    have hi : vp_in (nI p) 24 := pn_in (by omega) (by decide)
    by_cases hk : 0 ≤ p2 ∧ p2 ≤ 5
    · refine pk6T hk (pb1' ⟨hi, hi, ?_⟩)
      refine ph7T hp (by omega) b2 (pb1 (pw7T hk (pb1 ?_)))
      unfold wp_X7_becomes
      rw [pn_ix3a, pn_cl (by omega), pn_cl (by omega)]
      obtain ⟨k, hk2, rfl⟩ := pn_k (m := 5) (by decide) hk
      refine ⟨pn_in (by omega) (by decide), pn_in (by omega) (by decide), (pr_pl_at pl hp).1, pr_set_pl H hp (fun j hj => pn_upd_ne (by omega)) (fun i hi => ?_)⟩
      obtain ⟨k', h', d', q⟩ := pl i hi
      by_cases e : i = p
      · refine ⟨k, h', d', ?_⟩
        grind [pg_u]
      · refine ⟨k', h', d', ?_⟩
        grind [pg_u]
    · exact pk6F hk (pb0' (ph7T hp (by omega) b2 (pb1 (pw7F hk (pb0 ⟨rfl, H⟩)))))
  · exact ph6F hp (by omega) (by rw [s1, b2]) (pb0 (ph7F hp (by omega) b2 (pb0 ⟨rfl, H⟩)))
theorem j_set (H : pr_rel now n tn Sz Tc Fa Pa Py Mi Me Sr Z Ki He Do Tx La LT pk pv pn tc) (p1 p2 p3 : Int32) : wp_X6_set p1 p2 p3 Sz He Do (fun r He' Do' => wp_X7_set p1 p2 p3 now (fun r' now' => r = r' ∧ pr_rel now' n tn Sz Tc Fa Pa Py Mi Me Sr Z Ki He' Do' Tx La LT pk pv pn tc)) := by
  obtain ⟨⟨b1, b2, b3, b4, b5⟩, ⟨s1, s2, s3, s4, s5, s6, s7, s8⟩, py, pl, hT⟩ := pr_rel_iff.mp H
  unfold wp_X6_set wp_X7_set
  by_cases hp : ∃ p, p < n ∧ p1 = nI p
  · obtain ⟨p, hp, rfl⟩ := hp
    refine ph6T hp (by omega) (by rw [s1, b2]) (pb1' ?_)
    have hi : vp_in (nI p) 24 := pn_in (by omega) (by decide)
    by_cases hw : p2 = 1
    · subst hw
      refine pbT' rfl ?_
      by_cases hv : 0 ≤ p3 ∧ p3 ≤ 99
      · refine pw6T hv (pb1 ⟨hi, hi, ?_⟩)
        refine ph7T hp (by omega) b2 (pb1 (pw7T (by decide) (pb1 (pbT' rfl ?_))))
        unfold jp_X7_set_30
        refine pw7T hv (pb1 ?_)
        unfold wp_X7_becomes
        rw [show ((9 : Int32) + 3 * nI p) + 1 = nI (9 + 3 * p + 1) from pn_ix3 p 1, pn_cl (by omega), pn_cl (by omega)]
        obtain ⟨k, hk2, rfl⟩ := pn_k (m := 99) (by decide) hv
        refine ⟨pn_in (by omega) (by decide), pn_in (by omega) (by decide), (pr_pl_at pl hp).2.1, pr_set_pl H hp (fun j hj => pn_upd_ne (by omega)) (fun i hi => ?_)⟩
        obtain ⟨k', h', d', q⟩ := pl i hi
        by_cases e : i = p
        · refine ⟨k', k, d', ?_⟩
          grind [pg_u]
        · refine ⟨k', h', d', ?_⟩
          grind [pg_u]
      · refine pw6F hv (pb0 ?_)
        unfold jp_X6_set_53
        refine pbF' (by decide) (ph7T hp (by omega) b2 (pb1 (pw7T (by decide) (pb1 (pbT' rfl ?_)))))
        unfold jp_X7_set_30
        exact pw7F hv (pb0 ⟨rfl, H⟩)
    · refine pbF' hw ?_
      unfold jp_X6_set_53
      by_cases hw2 : p2 = 2
      · subst hw2
        refine pbT' rfl ?_
        by_cases hv : 0 ≤ p3 ∧ p3 ≤ 1
        · refine pw6T hv (pb1 ⟨hi, hi, ?_⟩)
          refine ph7T hp (by omega) b2 (pb1 (pw7T (by decide) (pb1 (pbF' hw ?_))))
          unfold jp_X7_set_30
          refine pw7T hv (pb1 ?_)
          unfold wp_X7_becomes
          rw [show ((9 : Int32) + 3 * nI p) + 2 = nI (9 + 3 * p + 2) from pn_ix3 p 2, pn_cl (by omega), pn_cl (by omega)]
          obtain ⟨k, hk2, rfl⟩ := pn_k (m := 1) (by decide) hv
          refine ⟨pn_in (by omega) (by decide), pn_in (by omega) (by decide), (pr_pl_at pl hp).2.2, pr_set_pl H hp (fun j hj => pn_upd_ne (by omega)) (fun i hi => ?_)⟩
          obtain ⟨k', h', d', q⟩ := pl i hi
          by_cases e : i = p
          · refine ⟨k', h', k, ?_⟩
            grind [pg_u]
          · refine ⟨k', h', d', ?_⟩
            grind [pg_u]
        · refine pw6F hv (pb0 (ph7T hp (by omega) b2 (pb1 (pw7T (by decide) (pb1 (pbF' hw ?_))))))
          unfold jp_X7_set_30
          exact pw7F hv (pb0 ⟨rfl, H⟩)
      · refine pbF' hw2 (ph7T hp (by omega) b2 (pb1 (pw7F ?_ (pb0 ⟨rfl, H⟩))))
        grind
  · exact ph6F hp (by omega) (by rw [s1, b2]) (pb0' (ph7F hp (by omega) b2 (pb0 ⟨rfl, H⟩)))
theorem j_seed (H : pr_rel now n tn Sz Tc Fa Pa Py Mi Me Sr Z Ki He Do Tx La LT pk pv pn tc) (p1 : Int32) : wp_X6_seed p1 Z (fun r Z' => wp_X7_seed p1 now (fun r' now' => r = r' ∧ pr_rel now' n tn Sz Tc Fa Pa Py Mi Me Sr Z' Ki He Do Tx La LT pk pv pn tc)) := by
  obtain ⟨⟨b1, b2, b3, b4, b5⟩, ⟨s1, s2, s3, s4, s5, s6, s7, s8⟩, py, pl, hT⟩ := pr_rel_iff.mp H
  unfold wp_X6_seed wp_X7_seed wp_X7_becomes
  exact ⟨pn_in (a := 0) (by decide) (by decide), pn_in (a := 0) (by decide) (by decide), s8, pr_set_z H p1⟩
theorem j_storm (H : pr_rel now n tn Sz Tc Fa Pa Py Mi Me Sr Z Ki He Do Tx La LT pk pv pn tc) (p1 p2 : Int32) : wp_X6_storm p1 p2 Fa Pa (fun r Fa' Pa' => wp_X7_storm p1 p2 now (fun r' now' => r = r' ∧ pr_rel now' n tn Sz Tc Fa' Pa' Py Mi Me Sr Z Ki He Do Tx La LT pk pv pn tc)) := by
  obtain ⟨⟨b1, b2, b3, b4, b5⟩, ⟨s1, s2, s3, s4, s5, s6, s7, s8⟩, py, pl, hT⟩ := pr_rel_iff.mp H
  have set4 : 0 ≤ p2 ∧ p2 ≤ 99 → pr_rel (upd now 4 p2) n tn Sz Tc p2 Pa Py Mi Me Sr Z Ki He Do Tx La LT pk pv pn tc := by
    intro h
    have e : ∀ k, k ≠ 4 → upd now 4 p2 k = now k := fun k hk => pn_upd_ne hk
    obtain ⟨k, hk, rfl⟩ := pn_k (m := 99) (by decide) h
    refine pr_rel_iff.mpr ⟨⟨b1, ?_, ?_, ⟨k, hk, pn_upd_self⟩, ?_⟩, ⟨?_, ?_, pn_upd_self.symm, ?_, ?_, ?_, ?_, ?_⟩, ?_, pr_pl_cong (fun j _ _ => e j (by omega)) pl, pr_T_cong (fun k hk => e k (by omega)) hT⟩
    all_goals (try unfold pr_py)
    all_goals (rw [e _ (by decide)]; assumption)
  have set5 : (-9) ≤ p2 ∧ p2 ≤ 9 → pr_rel (upd now 5 p2) n tn Sz Tc Fa p2 Py Mi Me Sr Z Ki He Do Tx La LT pk pv pn tc := by
    intro h
    have e : ∀ k, k ≠ 5 → upd now 5 p2 k = now k := fun k hk => pn_upd_ne hk
    obtain ⟨k, hk, ek⟩ := pn_k (x := p2 + 9) (m := 18) (by decide) (by simp only [show nI 18 = 18 from rfl]; grind)
    refine pr_rel_iff.mpr ⟨⟨b1, ?_, ?_, ?_, ⟨k, hk, ?_⟩⟩, ⟨?_, ?_, ?_, pn_upd_self.symm, ?_, ?_, ?_, ?_⟩, ?_, pr_pl_cong (fun j _ _ => e j (by omega)) pl, pr_T_cong (fun k hk => e k (by omega)) hT⟩
    all_goals (try unfold pr_py)
    all_goals (first | (rw [e _ (by decide)]; assumption) | (rw [pn_upd_self, ← ek]; grind))
  unfold wp_X6_storm wp_X7_storm
  by_cases h0 : p1 = 0
  · subst h0
    refine pbT' rfl ?_
    by_cases hv : 0 ≤ p2 ∧ p2 ≤ 99
    · refine pw6T hv (pb1 (pw7T (by decide) (pb1 (pbT' rfl (pbT' rfl ?_)))))
      unfold jp_X7_storm_31 wp_X7_becomes
      exact pw7T hv (pb1' ⟨pn_in (a := 4) (by decide) (by decide), pn_in (a := 4) (by decide) (by decide), s3, set4 hv⟩)
    · refine pw6F hv (pb0 ?_)
      unfold jp_X6_storm_32
      refine pbF' (by decide) (pw7T (by decide) (pb1 (pbT' rfl (pbT' rfl ?_))))
      unfold jp_X7_storm_31
      exact pw7F hv (pb0' ⟨rfl, H⟩)
  · refine pbF' h0 ?_
    unfold jp_X6_storm_32
    by_cases h1 : p1 = 1
    · subst h1
      refine pbT' rfl ?_
      by_cases hv : (-9) ≤ p2 ∧ p2 ≤ 9
      · refine pw6T hv (pb1 (pw7T (by decide) (pb1 (pbF' h0 (pbF' h0 ?_)))))
        unfold jp_X7_storm_31 wp_X7_becomes
        exact pw7T hv (pb1' ⟨pn_in (a := 5) (by decide) (by decide), pn_in (a := 5) (by decide) (by decide), s4, set5 hv⟩)
      · refine pw6F hv (pb0 (pw7T (by decide) (pb1 (pbF' h0 (pbF' h0 ?_)))))
        unfold jp_X7_storm_31
        exact pw7F hv (pb0' ⟨rfl, H⟩)
    · exact pbF' h1 (pw7F (by grind) (pb0 ⟨rfl, H⟩))
theorem j_sky (H : pr_rel now n tn Sz Tc Fa Pa Py Mi Me Sr Z Ki He Do Tx La LT pk pv pn tc) (p1 p2 : Int32) (sk stk fct : Nat → Int32) : wp_X6_sky p1 p2 Fa Pa Tx La sk LT pn tc (fun r _ => wp_X7_sky p1 p2 now stk fct (fun r' _ _ => r = r')) := by
  obtain ⟨⟨b1, b2, b3, b4, b5⟩, ⟨s1, s2, s3, s4, s5, s6, s7, s8⟩, py, pl, hT⟩ := pr_rel_iff.mp H
  unfold wp_X6_sky wp_X7_sky
  by_cases h1 : 0 ≤ p1 ∧ p1 ≤ 60
  · refine pw6T h1 (pb1 ?_)
    by_cases h2 : 0 ≤ p2 ∧ p2 ≤ 1
    · refine pw6T h2 (pb1' ?_)
      by_cases h3 : p2 = 0
      · exact pbT' h3 (sp_X1_farIn s3 s4 (pw7T h1 (pb1 (pw7T h2 (pb1' (pbT' h3 (sp_X7_farOn rfl)))))))
      · exact pbF' h3 (sp_X1_odds hT s3 s4 (fun _ => pw7T h1 (pb1 (pw7T h2 (pb1' (pbF' h3 (sp_X7_odds hT.M (fun _ _ => rfl))))))))
    · exact pw6F h2 (pb0' (pw7T h1 (pb1 (pw7F h2 (pb0' rfl)))))
  · exact pw6F h1 (pb0 (pw7F h1 (pb0 rfl)))
theorem j_danger (H : pr_rel now n tn Sz Tc Fa Pa Py Mi Me Sr Z Ki He Do Tx La LT pk pv pn tc) (p1 p2 : Int32) (sk stk fct : Nat → Int32) : wp_X6_danger p1 p2 Sz Fa Pa Ki He Tx La sk LT pn tc (fun r _ => wp_X7_danger p1 p2 now stk fct (fun r' _ _ => r = r')) := by
  obtain ⟨⟨b1, b2, b3, b4, b5⟩, ⟨s1, s2, s3, s4, s5, s6, s7, s8⟩, py, pl, hT⟩ := pr_rel_iff.mp H
  unfold wp_X6_danger wp_X7_danger
  by_cases hp : ∃ p, p < n ∧ p1 = nI p
  · obtain ⟨p, hp, rfl⟩ := hp
    obtain ⟨k, h, d, q1, q2, q3, q4, q5, q6, q7, q8, q9⟩ := pl p hp
    refine ph6T hp (by omega) (by rw [s1, b2]) (pb1 ?_)
    by_cases h2 : 0 ≤ p2 ∧ p2 ≤ 60
    · refine pw6T h2 (pb1' ?_)
      unfold wp_X1_dangerOf
      refine sp_X1_risk hT (by omega) (by rw [q7, q4]) (by rw [q8, q5]) (fun sk' => sp_X1_odds hT s3 s4 (fun _ => ?_))
      exact ph7T hp (by omega) b2 (pb1 (pw7T h2 (pb1 (sp_X7_risk hT.M (by omega) q2 q5 (fun _ _ => sp_X7_odds hT.M (fun _ _ => rfl))))))
    · exact pw6F h2 (pb0' (ph7T hp (by omega) b2 (pb1 (pw7F h2 (pb0 rfl)))))
  · exact ph6F hp (by omega) (by rw [s1, b2]) (pb0 (ph7F hp (by omega) b2 (pb0 rfl)))
end
