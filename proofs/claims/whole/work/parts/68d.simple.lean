/-! PURE: plain calls, the last ones; images -/
section
variable {now : Nat → Int32} {n tn : Nat} {Sz Tc Fa Pa Py Mi Me Sr Z : Int32} {Ki He Do : Nat → Int32} {Tx : Nat → Option Nat} {La : Nat → Int32} {LT : List Nat} {pk pv : Nat → Int32} {pn : Nat → Nat} {tc : Nat → Nat → Int32}
theorem sp_X7_told0 {x : Int32} {Q : Int32 → Prop} (h : Q (if 0 ≤ x then x else -1000000005)) : wp_X7_told0 x Q := by
  unfold wp_X7_told0
  refine ⟨fun z => ?_, fun z => ?_⟩
  · rw [if_pos z] at h; exact h
  · rw [if_neg z] at h; exact h
theorem pr_py_told (h : pr_py now n Py) (hn : n ≤ 24) : Py = if 0 ≤ now 2 then now 2 else -1000000005 := by
  rcases h with ⟨e1, e2⟩ | ⟨p, hp, e1, e2⟩
  · rw [e1, e2]; decide
  · rw [e1, e2, if_pos (nI_pos' (by omega))]
theorem pr_set_py (H : pr_rel now n tn Sz Tc Fa Pa Py Mi Me Sr Z Ki He Do Tx La LT pk pv pn tc) {x y : Int32} (h : (x = -1 ∧ y = -1000000005) ∨ ∃ p, p < n ∧ x = nI p ∧ y = nI p) : pr_rel (upd now 2 x) n tn Sz Tc Fa Pa y Mi Me Sr Z Ki He Do Tx La LT pk pv pn tc := by
  obtain ⟨⟨b1, b2, b3, b4, b5⟩, ⟨s1, s2, s3, s4, s5, s6, s7, s8⟩, py, pl, hT⟩ := pr_rel_iff.mp H
  have e : ∀ k, k ≠ 2 → upd now 2 x k = now k := fun k hk => pn_upd_ne hk
  refine pr_rel_iff.mpr ⟨⟨b1, ?_, ?_, ?_, ?_⟩, ⟨?_, ?_, ?_, ?_, ?_, ?_, ?_, ?_⟩, ?_, pr_pl_cong (fun j _ _ => e j (by omega)) pl, pr_T_cong (fun k hk => e k (by omega)) hT⟩
  all_goals (first | (rw [e _ (by decide)]; assumption) | (unfold pr_py; rw [pn_upd_self]; exact h))
theorem j_come (H : pr_rel now n tn Sz Tc Fa Pa Py Mi Me Sr Z Ki He Do Tx La LT pk pv pn tc) (p1 : Int32) : wp_X6_come p1 Sz Py (fun r Py' => wp_X7_come p1 now (fun r' now' => r = r' ∧ pr_rel now' n tn Sz Tc Fa Pa Py' Mi Me Sr Z Ki He Do Tx La LT pk pv pn tc)) := by
  obtain ⟨⟨b1, b2, b3, b4, b5⟩, ⟨s1, s2, s3, s4, s5, s6, s7, s8⟩, py, pl, hT⟩ := pr_rel_iff.mp H
  unfold wp_X6_come wp_X7_come jp_X6_come_20 jp_X7_come_17 wp_X7_becomes
  by_cases h0 : p1 = -1000000005
  · refine pbT h0 (pbT h0 (pbT' h0 ⟨pn_in (a := 2) (by decide) (by decide), pn_in (a := 2) (by decide) (by decide), sp_X7_told0 ⟨pr_py_told py b1, pr_set_py H (Or.inl ⟨rfl, h0⟩)⟩⟩))
  · refine pbF h0 ?_
    by_cases hp : ∃ p, p < n ∧ p1 = nI p
    · obtain ⟨p, hp, rfl⟩ := hp
      refine ph6T hp (by omega) (by rw [s1, b2]) (pb1' (pbF h0 (ph7T hp (by omega) b2 (pb1' (pbF' h0 ⟨pn_in (a := 2) (by decide) (by decide), pn_in (a := 2) (by decide) (by decide), sp_X7_told0 ⟨pr_py_told py b1, pr_set_py H (Or.inr ⟨p, hp, rfl, rfl⟩)⟩⟩)))))
    · exact ph6F hp (by omega) (by rw [s1, b2]) (pb0' (pbF h0 (ph7F hp (by omega) b2 (pb0' ⟨rfl, H⟩))))
theorem j_why (H : pr_rel now n tn Sz Tc Fa Pa Py Mi Me Sr Z Ki He Do Tx La LT pk pv pn tc) (p1 : Int32) : wp_X6_why p1 La (fun r => wp_X7_why p1 now (fun r' => r = r')) := by
  obtain ⟨⟨b1, b2, b3, b4, b5⟩, ⟨s1, s2, s3, s4, s5, s6, s7, s8⟩, py, pl, ⟨⟨t1, t2⟩, t3, t4, t5⟩⟩ := pr_rel_iff.mp H
  unfold wp_X6_why wp_X7_why
  by_cases hk : 0 ≤ p1 ∧ p1 ≤ 2
  · refine pw6T hk (pb1' ?_)
    obtain ⟨k, hk2, rfl⟩ := pn_k (m := 2) (by decide) hk
    refine ⟨pn_in (by omega) (by decide), pw7T hk (pb1' (sp_X7_counts t2 t1 ?_))⟩
    rw [pn_cl (by omega), t5 k (by omega)]
    unfold pr_la
    refine ⟨fun z => ?_, fun z => ?_⟩
    · rw [if_neg (by grind)]
    · rw [if_pos (by grind)]
  · exact pw6F hk (pb0' (pw7F hk (pb0' rfl)))
theorem j_textTold (H : pr_rel now n tn Sz Tc Fa Pa Py Mi Me Sr Z Ki He Do Tx La LT pk pv pn tc) (p1 p2 : Int32) : wp_X6_textTold p1 p2 Tc Tx LT pk pv (fun r => wp_X7_textTold p1 p2 now (fun r' => r = r')) := by
  obtain ⟨⟨b1, b2, b3, b4, b5⟩, ⟨s1, s2, s3, s4, s5, s6, s7, s8⟩, py, pl, ⟨⟨t1, t2⟩, t3, t4, t5⟩⟩ := pr_rel_iff.mp H
  unfold wp_X6_textTold wp_X7_textTold
  rw [s2]
  by_cases h1 : 0 ≤ p1 ∧ p1 ≤ now 8 - 1
  · refine pw6T h1 (pb1 ?_)
    obtain ⟨t, ht, rfl⟩ := pg_lt p1 tn (by omega) h1.1 (by have := h1.2; rw [t2] at this; grind [pg_n])
    obtain ⟨a, key, cnt, g1, g2, g3, g4, g5⟩ := t4 t ht
    by_cases h2 : 0 ≤ p2 ∧ p2 ≤ 1
    · refine pw6T h2 (pb1' ⟨pn_in (by omega) (by decide), ?_⟩)
      rw [pn_cl (by omega), g1]
      refine ⟨fun z => absurd z (by simp), fun a' ha => ?_⟩
      cases ha
      have hL := t3 t (by omega) a g1
      have r1 : rc_rem (nI (1000 * key + cnt)) 1000 = nI cnt := pe_rem g2.1 g2.2.1
      by_cases h3 : p2 = 0
      · refine pbT' h3 ⟨hL, pw7T h1 (pb1 (pw7T h2 (pb1' (pbT' h3 ?_))))⟩
        rw [pn_ixt, pn_cl (by omega), g2.2.2.1, pe_div g2.1 g2.2.1]
        exact ⟨pn_in (by omega) (by decide), g4⟩
      · refine pbF' h3 ⟨hL, pw7T h1 (pb1 (pw7T h2 (pb1' (pbF' h3 ?_))))⟩
        rw [pn_ixt, pn_p1, pn_cl (by omega)]
        exact ⟨pn_in (by omega) (by decide), g5⟩
    · exact pw6F h2 (pb0' (pw7T h1 (pb1 (pw7F h2 (pb0' rfl)))))
  · exact pw6F h1 (pb0 (pw7F h1 (pb0 rfl)))
theorem j_count (H : pr_rel now n tn Sz Tc Fa Pa Py Mi Me Sr Z Ki He Do Tx La LT pk pv pn tc) (p1 Ws Ln : Int32) : wp_X6_count p1 Ws Sz Tc Fa Pa Py Mi Me Sr Z Ln (fun r => wp_X7_count p1 Ln Ws now (fun r' => r = r')) := by
  obtain ⟨⟨b1, b2, b3, b4, b5⟩, ⟨s1, s2, s3, s4, s5, s6, s7, s8⟩, py, pl, ⟨⟨t1, t2⟩, t3, t4, t5⟩⟩ := pr_rel_iff.mp H
  have e := pr_py_told py b1
  have v3 : vp_in 3 1453 := pn_in (a := 3) (by decide) (by decide)
  have v4 : vp_in 4 1453 := pn_in (a := 4) (by decide) (by decide)
  have v5 : vp_in 5 1453 := pn_in (a := 5) (by decide) (by decide)
  have v6 : vp_in 6 1453 := pn_in (a := 6) (by decide) (by decide)
  have v7 : vp_in 7 1453 := pn_in (a := 7) (by decide) (by decide)
  unfold wp_X6_count wp_X7_count
  refine ⟨fun h => ?_, fun h => ?_, fun h => ?_, fun h => ?_, fun h => ?_, fun h => ?_, fun h => ?_, fun h => ?_, fun h => ?_, fun h => ?_, fun h => ?_, fun h => ?_⟩
  · subst h; simp (config := { decide := true }) [s1]
  · subst h; simp (config := { decide := true }) only [false_implies, true_implies, and_true, true_and, not_true, not_false_iff, and_false, false_and]; exact sp_X7_told0 e
  · subst h; simp (config := { decide := true }) only [false_implies, true_implies, and_true, true_and, not_true, not_false_iff, and_false, false_and]; exact ⟨v3, s5⟩
  · subst h; simp (config := { decide := true }) only [false_implies, true_implies, and_true, true_and, not_true, not_false_iff, and_false, false_and]; exact ⟨v4, s3⟩
  · subst h; simp (config := { decide := true }) only [false_implies, true_implies, and_true, true_and, not_true, not_false_iff, and_false, false_and]; exact ⟨v5, s4⟩
  · subst h; simp (config := { decide := true }) only [false_implies, true_implies, and_true, true_and, not_true, not_false_iff, and_false, false_and]; exact ⟨v6, s6⟩
  · subst h; simp (config := { decide := true }) only [false_implies, true_implies, and_true, true_and, not_true, not_false_iff, and_false, false_and]; exact ⟨v7, s7⟩
  · subst h; simp (config := { decide := true }) [s2]
  · subst h; simp (config := { decide := true })
  · subst h; simp (config := { decide := true })
  · subst h; simp (config := { decide := true }) [s8]
  · obtain ⟨c0, c1, c2, c3, c4, c5, c6, c7, c8, c9, c10⟩ := h
    exact ⟨fun z => absurd z c0, fun z => absurd z c1, fun z => absurd z c2, fun z => absurd z c3, fun z => absurd z c4, fun z => absurd z c5, fun z => absurd z c6, fun z => absurd z c7, fun z => absurd z c8, fun z => absurd z c9, fun z => absurd z c10, fun _ => rfl⟩
theorem j_tell (p1 Ws : Int32) (Wt Tel : Nat → Int32) (hw : ∃ w, w ≤ 60 ∧ Ws = nI w) (he : ∀ k, k < 60 → Wt k = Tel k) : wp_X6_tell p1 Ws Wt (fun r Ws' Wt' => wp_X7_tell p1 Ws Tel (fun r' Wg' Tel' => r = r' ∧ Wg' = Ws' ∧ (∃ w, w ≤ 60 ∧ Ws' = nI w) ∧ ∀ k, k < 60 → Wt' k = Tel' k)) := by
  obtain ⟨w, hw, rfl⟩ := hw
  unfold wp_X6_tell wp_X7_tell
  by_cases h : w < 60
  · have hi : vp_in (nI w) 60 := pn_in h (by decide)
    refine pbT (by grind [pg_n]) ⟨hi, pbF' (by grind [pg_n]) ⟨hi, rfl, rfl, ⟨w + 1, by omega, pn_p1 w⟩, ?_⟩⟩
    rw [pn_cl (by omega)]
    intro k hk
    grind [pg_u]
  · obtain rfl : w = 60 := by omega
    exact pbF (by decide) (pbT' rfl ⟨rfl, rfl, ⟨60, by omega, rfl⟩, he⟩)
theorem sp_X7_copyAll {F G : Nat → Int32} {Q : (Nat → Int32) → Prop} (hq : ∀ G', (∀ k, k < 1453 → G' k = F k) → Q G') : wp_X7_copyAll F G Q := by
  have key : ∀ (m i : Nat) (g : Nat → Int32), i + m = 1453 → (∀ j, j < i → g j = F j) → lp_X7_copyAll_2 F Q (m + 1) (nI i) g := by
    intro m
    induction m with
    | zero =>
      intro i g hi h
      show lp_X7_copyAll_2F F Q (lp_X7_copyAll_2 F Q 0) (nI i) g
      unfold lp_X7_copyAll_2F
      exact pbT (by grind [pg_n]) (hq g (fun j hj => h j (by omega)))
    | succ m ih =>
      intro i g hi h
      show lp_X7_copyAll_2F F Q (lp_X7_copyAll_2 F Q (m + 1)) (nI i) g
      unfold lp_X7_copyAll_2F
      refine pbF (by grind [pg_n]) ⟨pn_in (by omega) (by decide), pn_in (by omega) (by decide), ?_⟩
      rw [pn_p1, pn_cl (by omega)]
      exact ih (i + 1) _ (by omega) (fun j hj => by grind [pg_u])
  unfold wp_X7_copyAll
  exact ⟨1454, key 1453 0 G (by omega) (fun j hj => absurd hj (by omega))⟩
theorem sp_X1_become {Sz' Tc' Fa' Pa' Py' Mi' Me' Sr' Z' : Int32} {Ki' He' Do' La' : Nat → Int32} {Tx' : Nat → Option Nat} {Q : Int32 → Int32 → Int32 → Int32 → Int32 → Int32 → Int32 → Int32 → Int32 → (Nat → Int32) → (Nat → Int32) → (Nat → Int32) → (Nat → Option Nat) → (Nat → Int32) → Prop} (hL : ∀ t, t < 14 → ∀ a, Tx t = some a → a ∈ LT)
    (hq : ∀ Ki' He' Do' Tx' La', (∀ k, k < 24 → Ki' k = Ki k ∧ He' k = He k ∧ Do' k = Do k) → (∀ k, k < 14 → Tx' k = Tx k) → (∀ k, k < 3 → La' k = La k) → Q Sz Tc Fa Pa Py Mi Me Sr Z Ki' He' Do' Tx' La') : wp_X1_become Sz' Tc' Fa' Pa' Py' Mi' Me' Sr' Z' Ki' He' Do' Tx' La' Sz Tc Fa Pa Py Mi Me Sr Z Ki He Do Tx La LT Q := by
  have key : ∀ (m i : Nat) (tx : Nat → Option Nat) (ki he dd la : Nat → Int32), i + m = 14 → (∀ k, k < 24 → ki k = Ki k ∧ he k = He k ∧ dd k = Do k) → (∀ k, k < 3 → la k = La k) → (∀ j, j < i → tx j = Tx j) → lp_X1_become_61 Sz Tc Fa Pa Py Mi Me Sr Z Tx LT Q (m + 1) (nI i) Sz' Tc' Fa' Pa' Py' Mi' Me' Sr' Z' ki he dd tx la := by
    intro m
    induction m with
    | zero =>
      intro i tx ki he dd la hi h1 h2 h
      show lp_X1_become_61F Sz Tc Fa Pa Py Mi Me Sr Z Tx LT Q (lp_X1_become_61 Sz Tc Fa Pa Py Mi Me Sr Z Tx LT Q 0) (nI i) Sz' Tc' Fa' Pa' Py' Mi' Me' Sr' Z' ki he dd tx la
      unfold lp_X1_become_61F
      exact pbT (by grind [pg_n]) (hq _ _ _ _ _ h1 (fun j hj => h j (by omega)) h2)
    | succ m ih =>
      intro i tx ki he dd la hi h1 h2 h
      show lp_X1_become_61F Sz Tc Fa Pa Py Mi Me Sr Z Tx LT Q (lp_X1_become_61 Sz Tc Fa Pa Py Mi Me Sr Z Tx LT Q (m + 1)) (nI i) Sz' Tc' Fa' Pa' Py' Mi' Me' Sr' Z' ki he dd tx la
      unfold lp_X1_become_61F
      refine pbF (by grind [pg_n]) ⟨pn_in (by omega) (by decide), pn_in (by omega) (by decide), ?_, ?_⟩
      · rw [pn_cl (by omega)]
        exact hL i (by omega)
      · rw [pn_p1, pn_cl (by omega)]
        refine ih (i + 1) _ _ _ _ _ (by omega) h1 h2 (fun j hj => ?_)
        unfold va_up
        grind
  unfold wp_X1_become
  exact ⟨15, key 14 0 Tx' _ _ _ _ (by omega) (fun k hk => ⟨sb_cpy0 hk, sb_cpy0 hk, sb_cpy0 hk⟩) (fun k hk => sb_cpy0 hk) (fun j hj => absurd hj (by omega))⟩
/-- a ridge that became another, a row that became another -/
theorem pr_copied {now' : Nat → Int32} {Ki' He' Do' La' : Nat → Int32} {Tx' : Nat → Option Nat} (H : pr_rel now n tn Sz Tc Fa Pa Py Mi Me Sr Z Ki He Do Tx La LT pk pv pn tc) (hn : ∀ k, k < 1453 → now' k = now k) (h1 : ∀ k, k < 24 → Ki' k = Ki k ∧ He' k = He k ∧ Do' k = Do k) (h2 : ∀ k, k < 14 → Tx' k = Tx k) (h3 : ∀ k, k < 3 → La' k = La k) : pr_rel now' n tn Sz Tc Fa Pa Py Mi Me Sr Z Ki' He' Do' Tx' La' LT pk pv pn tc := by
  obtain ⟨⟨b1, b2, b3, b4, b5⟩, ⟨s1, s2, s3, s4, s5, s6, s7, s8⟩, py, pl, ⟨⟨t1, t2⟩, t3, t4, t5⟩⟩ := pr_rel_iff.mp H
  have hct : ∀ k t, t ≤ 14 → pr_ct now' k t = pr_ct now k t := by
    intro k t
    induction t with
    | zero => intro _; rfl
    | succ t ih =>
      intro ht
      unfold pr_ct
      rw [hn (81 + 2 * t) (by omega), ih (by omega)]
  refine pr_rel_iff.mpr ⟨⟨b1, ?_, ?_, ?_, ?_⟩, ⟨?_, ?_, ?_, ?_, ?_, ?_, ?_, ?_⟩, ?_, ?_, ⟨⟨t1, ?_⟩, fun t ht a ha => t3 t ht a (by rw [← h2 t ht]; exact ha), fun t ht => ?_, fun k hk => ?_⟩⟩
  all_goals (try unfold pr_py)
  all_goals (try (rw [hn _ (by decide)]; assumption))
  · intro i hi
    obtain ⟨k, h, d, q1, q2, q3, q4, q5, q6, q7, q8, q9⟩ := pl i hi
    obtain ⟨e1, e2, e3⟩ := h1 i (by omega)
    exact ⟨k, h, d, q1, q2, q3, by rw [hn _ (by omega)]; exact q4, by rw [hn _ (by omega)]; exact q5, by rw [hn _ (by omega)]; exact q6, by rw [e1]; exact q7, by rw [e2]; exact q8, by rw [e3]; exact q9⟩
  · obtain ⟨a, key, cnt, g1, g2, g3, g4, g5⟩ := t4 t ht
    refine ⟨a, key, cnt, by rw [h2 t (by omega)]; exact g1, ⟨g2.1, g2.2.1, by rw [hn _ (by omega)]; exact g2.2.2.1, ?_⟩, ⟨g3.1, fun k hk => ?_⟩, g4, by rw [hn _ (by omega)]; exact g5⟩
    · have hw := g2.2.2.2
      have hcn := g2.2.1
      have : ∀ m k top, k + m ≤ 95 → pe_wf (fun j => now (109 + 96 * t + j)) (if key = 2 then 3 else 2) m k top → pe_wf (fun j => now' (109 + 96 * t + j)) (if key = 2 then 3 else 2) m k top := by
        intro m
        induction m with
        | zero => intro k top _ h; exact h
        | succ m ih =>
          intro k top hk h
          unfold pe_wf at h ⊢
          try simp only at h ⊢
          rw [hn (109 + 96 * t + k) (by omega)]
          by_cases c1 : now (109 + 96 * t + k) < 0
          · rw [if_pos c1] at h ⊢
            by_cases c2 : now (109 + 96 * t + k) = -10
            · rw [if_pos c2] at h ⊢
              exact ⟨h.1, ih _ _ (by omega) h.2⟩
            · rw [if_neg c2] at h ⊢
              exact ⟨h.1, h.2.1, ih _ _ (by omega) h.2.2⟩
          · rw [if_neg c1] at h ⊢
            exact ⟨h.1, ih _ _ (by omega) h.2⟩
      exact this cnt 0 0 (by omega) hw
    · rw [hn _ (by have := g2.2.1; omega)]
      exact g3.2 k hk
  · rw [h3 k hk, t5 k hk]
    unfold pr_la
    rw [hct k tn t1]
theorem j_keep {img : Nat → Int32} {Sz' Tc' Fa' Pa' Py' Mi' Me' Sr' Z' : Int32} {Ki' He' Do' La' : Nat → Int32} {Tx' : Nat → Option Nat} (H : pr_rel now n tn Sz Tc Fa Pa Py Mi Me Sr Z Ki He Do Tx La LT pk pv pn tc) : wp_X6_keep Sz Tc Fa Pa Py Mi Me Sr Z Ki He Do Tx La Sz' Tc' Fa' Pa' Py' Mi' Me' Sr' Z' Ki' He' Do' Tx' La' LT (fun r kp jSz jTc jFa jPa jPy jMi jMe jSr jZ jKi jHe jDo jTx jLa => wp_X7_keep now img (fun r' hi img' => r = r' ∧ kp = 1 ∧ hi = 1 ∧ pr_rel img' n tn jSz jTc jFa jPa jPy jMi jMe jSr jZ jKi jHe jDo jTx jLa LT pk pv pn tc)) := by
  have R := pr_rel_iff.mp H
  unfold wp_X6_keep wp_X7_keep
  exact sp_X1_become R.2.2.2.2.2.1 (fun _ _ _ _ _ h1 h2 h3 => sp_X7_copyAll (fun G hG => ⟨R.2.1.1, rfl, rfl, pr_copied H hG h1 h2 h3⟩))
theorem j_back {n0 tn0 : Nat} {img : Nat → Int32} {Kp : Int32} {Sz' Tc' Fa' Pa' Py' Mi' Me' Sr' Z' : Int32} {Ki' He' Do' La' : Nat → Int32} {Tx' : Nat → Option Nat} (H0 : pr_rel now n0 tn0 Sz' Tc' Fa' Pa' Py' Mi' Me' Sr' Z' Ki' He' Do' Tx' La' LT pk pv pn tc) (H : ¬ Kp = 0 → pr_rel img n tn Sz Tc Fa Pa Py Mi Me Sr Z Ki He Do Tx La LT pk pv pn tc) : wp_X6_back Kp Sz' Tc' Fa' Pa' Py' Mi' Me' Sr' Z' Ki' He' Do' Tx' La' Sz Tc Fa Pa Py Mi Me Sr Z Ki He Do Tx La LT (fun r rSz rTc rFa rPa rPy rMi rMe rSr rZ rKi rHe rDo rTx rLa => wp_X7_back Kp now img (fun r' now' => r = r' ∧ ∃ n tn, pr_rel now' n tn rSz rTc rFa rPa rPy rMi rMe rSr rZ rKi rHe rDo rTx rLa LT pk pv pn tc)) := by
  unfold wp_X6_back wp_X7_back
  by_cases hk : Kp = 0
  · exact pbT' hk (pbT' hk ⟨rfl, _, _, H0⟩)
  · have H := H hk
    have R := pr_rel_iff.mp H
    exact pbF' hk (sp_X1_become R.2.2.2.2.2.1 (fun _ _ _ _ _ h1 h2 h3 => pbF' hk (sp_X7_copyAll (fun G hG => ⟨by rw [hG 1 (by decide)]; exact R.2.1.1, _, _, pr_copied H hG h1 h2 h3⟩))))
end
