/-! PURE: the plain calls -/
section
variable {now : Nat → Int32} {n tn : Nat} {Sz Tc Fa Pa Py Mi Me Sr Z : Int32} {Ki He Do : Nat → Int32} {Tx : Nat → Option Nat} {La : Nat → Int32} {LT : List Nat} {pk pv : Nat → Int32} {pn : Nat → Nat} {tc : Nat → Nat → Int32}
theorem pn_k {x : Int32} {m : Nat} (hm : m < 2147483648) (h : 0 ≤ x ∧ x ≤ nI m) : ∃ k, k ≤ m ∧ x = nI k := pn_rng hm h.1 h.2
def pa_row (now : Nat → Int32) (n : Nat) (a b c : Int32) : Nat → Int32 := upd (upd (upd (upd now (9 + 3 * n) a) (9 + 3 * n + 1) b) (9 + 3 * n + 2) c) 1 (nI (n + 1))
theorem sp_X7_comes {a b c : Int32} {Q : Int32 → (Nat → Int32) → Prop} (h1 : now 1 = nI n) (hn : n < 24) (hq : Q (nI n) (pa_row now n a b c)) : wp_X7_comes a b c now Q := by
  unfold wp_X7_comes
  rw [h1, pn_ix3a, show nI (9 + 3 * n) + 1 = nI (9 + 3 * n + 1) from pn_p1 _, show nI (9 + 3 * n) + 2 = nI (9 + 3 * n + 2) from nI_add _ 2]
  simp only [pn_cl (show 9 + 3 * n < 2 ^ 31 by omega), pn_cl (show 9 + 3 * n + 1 < 2 ^ 31 by omega), pn_cl (show 9 + 3 * n + 2 < 2 ^ 31 by omega)]
  refine ⟨pn_in (by omega) (by decide), pn_in (by omega) (by decide), pn_in (by omega) (by decide), ?_⟩
  rw [pn_upd_self, pn_upd_ne (show (1 : Nat) ≠ 9 + 3 * n + 2 by omega), pn_upd_ne (show (1 : Nat) ≠ 9 + 3 * n + 1 by omega), pn_upd_ne (show (1 : Nat) ≠ 9 + 3 * n by omega), h1, pn_p1, pn_s1]
  exact hq
theorem sp_X1_append {k h d : Nat} {Q : Int32 → Int32 → (Nat → Int32) → (Nat → Int32) → (Nat → Int32) → Prop} (H : pr_rel now n tn Sz Tc Fa Pa Py Mi Me Sr Z Ki He Do Tx La LT pk pv pn tc) (hn : n < 24) (hk : k ≤ 5) (hh : h ≤ 99) (hd : d ≤ 1)
    (hq : ∀ Sz' Ki' He' Do', pr_rel (pa_row now n (nI k) (nI h) (nI d)) (n + 1) tn Sz' Tc Fa Pa Py Mi Me Sr Z Ki' He' Do' Tx La LT pk pv pn tc → Q (nI n) Sz' Ki' He' Do') : wp_X1_append (nI k) (nI h) (nI d) Sz Ki He Do Q := by
  obtain ⟨⟨b1, b2, b3, b4, b5⟩, ⟨s1, s2, s3, s4, s5, s6, s7, s8⟩, py, pl, hT⟩ := pr_rel_iff.mp H
  unfold wp_X1_append
  rw [s1, b2]
  refine ⟨fun z => absurd z (by grind [pg_n]), fun _ => ⟨pn_in hn (by decide), pn_in hn (by decide), pn_in hn (by decide), ?_⟩⟩
  rw [pn_cl (by omega), pn_p1]
  refine hq _ _ _ _ (pr_rel_iff.mpr ⟨⟨by omega, ?_, ?_, ?_, ?_⟩, ⟨?_, ?_, ?_, ?_, ?_, ?_, ?_, ?_⟩, ?_, ?_, pr_T_cong (fun k hk => ?_) hT⟩)
  all_goals (try (unfold pa_row; grind [pg_u]; done))
  · have e : pa_row now n (nI k) (nI h) (nI d) 2 = now 2 := by unfold pa_row; grind [pg_u]
    unfold pr_py
    rw [e]
    rcases py with py | ⟨p, hp, g1, g2⟩
    · exact Or.inl py
    · exact Or.inr ⟨p, by omega, g1, g2⟩
  · intro i hi
    by_cases e : i = n
    · subst e
      refine ⟨k, h, d, hk, hh, hd, ?_, ?_, ?_, pn_upd_self, pn_upd_self, pn_upd_self⟩ <;> (unfold pa_row; grind [pg_u])
    · obtain ⟨k', h', d', q1, q2, q3, q4, q5, q6, q7, q8, q9⟩ := pl i (by omega)
      refine ⟨k', h', d', q1, q2, q3, ?_, ?_, ?_, by rw [pn_upd_ne e]; exact q7, by rw [pn_upd_ne e]; exact q8, by rw [pn_upd_ne e]; exact q9⟩ <;> (unfold pa_row; grind [pg_u])
theorem j_place (H : pr_rel now n tn Sz Tc Fa Pa Py Mi Me Sr Z Ki He Do Tx La LT pk pv pn tc) (p1 p2 : Int32) : wp_X6_place p1 p2 Sz Ki He Do (fun r Sz' Ki' He' Do' => wp_X7_place p1 p2 now (fun r' now' => r = r' ∧ ∃ n, pr_rel now' n tn Sz' Tc Fa Pa Py Mi Me Sr Z Ki' He' Do' Tx La LT pk pv pn tc)) := by
  obtain ⟨⟨b1, b2, b3, b4, b5⟩, ⟨s1, s2, s3, s4, s5, s6, s7, s8⟩, py, pl, hT⟩ := pr_rel_iff.mp H
  unfold wp_X6_place wp_X7_place
  by_cases hk : 0 ≤ p1 ∧ p1 ≤ 5
  · refine pk6T hk (pb1 ?_)
    by_cases hh : 0 ≤ p2 ∧ p2 ≤ 99
    · refine pw6T hh (pb1' ?_)
      by_cases hn : n < 24
      · obtain ⟨k, hk2, rfl⟩ := pn_k (m := 5) (by decide) hk
        obtain ⟨h, hh2, rfl⟩ := pn_k (m := 99) (by decide) hh
        refine pbT (by rw [s1, b2]; grind [pg_n]) (sp_X1_append (d := 0) H hn hk2 hh2 (by omega) (fun Sz' Ki' He' Do' H' => ?_))
        refine pw7T hk (pb1 (pw7T hh (pb1' ⟨fun _ => sp_X7_comes b2 hn ⟨rfl, _, H'⟩, fun z => ?_⟩)))
        rw [b2] at z
        grind [pg_n]
      · refine pbF (by rw [s1, b2]; grind [pg_n]) (pw7T hk (pb1 (pw7T hh (pb1' ⟨fun z => absurd ?_ z, fun _ => ⟨rfl, _, H⟩⟩))))
        rw [b2, show n = 24 by omega]
        rfl
    · exact pw6F hh (pb0' (pw7T hk (pb1 (pw7F hh (pb0' ⟨rfl, _, H⟩)))))
  · exact pk6F hk (pb0 (pw7F hk (pb0 ⟨rfl, _, H⟩)))
/-- the draws of deal -/
def pd_row (now : Nat → Int32) (n : Nat) : Nat → Int32 :=
  pa_row (upd now 0 (pr_z (pr_z (pr_z (now 0))))) n (rc_rem (pr_d (now 0)) 5) (rc_rem (pr_d (pr_z (now 0))) 100) (if rc_rem (pr_d (pr_z (pr_z (now 0)))) 4 = 0 then 1 else 0)
def pd_many (now : Nat → Int32) (n : Nat) : Nat → Nat → Int32
  | 0 => now
  | w + 1 => pd_many (pd_row now n) (n + 1) w
theorem pr_set_z (H : pr_rel now n tn Sz Tc Fa Pa Py Mi Me Sr Z Ki He Do Tx La LT pk pv pn tc) (z : Int32) : pr_rel (upd now 0 z) n tn Sz Tc Fa Pa Py Mi Me Sr z Ki He Do Tx La LT pk pv pn tc := by
  obtain ⟨⟨b1, b2, b3, b4, b5⟩, ⟨s1, s2, s3, s4, s5, s6, s7, s8⟩, py, pl, hT⟩ := pr_rel_iff.mp H
  have e : ∀ k, 0 < k → upd now 0 z k = now k := fun k hk => pn_upd_ne (by omega)
  refine pr_rel_iff.mpr ⟨⟨b1, ?_, ?_, ?_, ?_⟩, ⟨?_, ?_, ?_, ?_, ?_, ?_, ?_, pn_upd_self.symm⟩, ?_, pr_pl_cong (fun k hk _ => e k (by omega)) pl, pr_T_cong (fun k hk => e k (by omega)) hT⟩
  all_goals (try unfold pr_py)
  all_goals (rw [e _ (by decide)]; assumption)
theorem sp_X1_appendDrawn {Q : Int32 → Int32 → (Nat → Int32) → (Nat → Int32) → (Nat → Int32) → Prop} (H : pr_rel now n tn Sz Tc Fa Pa Py Mi Me Sr Z Ki He Do Tx La LT pk pv pn tc) (hn : n < 24)
    (hq : ∀ Sz' Z' Ki' He' Do', pr_rel (pd_row now n) (n + 1) tn Sz' Tc Fa Pa Py Mi Me Sr Z' Ki' He' Do' Tx La LT pk pv pn tc → Q Sz' Z' Ki' He' Do') : wp_X1_appendDrawn Sz Z Ki He Do Q := by
  unfold wp_X1_appendDrawn
  have s8 : Z = now 0 := (pr_rel_iff.mp H).2.1.2.2.2.2.2.2.2
  rw [s8]
  refine sp_X1_draw (sp_X1_draw (sp_X1_draw ?_))
  have H' := pr_set_z H (pr_z (pr_z (pr_z (now 0))))
  unfold pd_row at hq
  obtain ⟨k, hk, ek⟩ := pr_d_rem (now 0) 5 (by decide) (by decide)
  obtain ⟨h, hh, eh⟩ := pr_d_rem (pr_z (now 0)) 100 (by decide) (by decide)
  rw [show (5 : Int32) = nI 5 from rfl, show (100 : Int32) = nI 100 from rfl] at hq ⊢
  rw [ek, eh] at hq ⊢
  refine ⟨fun z => ?_, fun z => ?_⟩
  · rw [if_neg z] at hq
    exact sp_X1_append (d := 0) H' hn (by omega) (by omega) (by omega) (fun Sz' Ki' He' Do' g => hq _ _ _ _ _ g)
  · rw [if_pos z] at hq
    exact sp_X1_append (d := 1) H' hn (by omega) (by omega) (by omega) (fun Sz' Ki' He' Do' g => hq _ _ _ _ _ g)
theorem j_deal (H : pr_rel now n tn Sz Tc Fa Pa Py Mi Me Sr Z Ki He Do Tx La LT pk pv pn tc) (p1 : Int32) : wp_X6_deal p1 Sz Z Ki He Do (fun r Sz' Z' Ki' He' Do' => wp_X7_deal p1 now (fun r' now' => r = r' ∧ ∃ n, pr_rel now' n tn Sz' Tc Fa Pa Py Mi Me Sr Z' Ki' He' Do' Tx La LT pk pv pn tc)) := by
  obtain ⟨⟨b1, b2, b3, b4, b5⟩, ⟨s1, s2, s3, s4, s5, s6, s7, s8⟩, py, pl, hT⟩ := pr_rel_iff.mp H
  unfold wp_X6_deal wp_X7_deal
  by_cases hp : 1 ≤ p1 ∧ p1 ≤ 24
  · obtain ⟨m, hm, rfl⟩ := pn_k (x := p1) (m := 24) (by decide) ⟨by grind, hp.2⟩
    have hm1 : 1 ≤ m := by
      have := hp.1
      grind [pg_n]
    refine pw6T hp (pb1' ?_)
    rw [s1, b2, show (24 : Int32) - nI n = nI (24 - n) from by grind [pg_n], pn_min _ _ (by omega) (by omega)]
    refine ⟨min m (24 - n) + 1, ?_⟩
    have L6 : ∀ (Q : Int32 → Int32 → Int32 → (Nat → Int32) → (Nat → Int32) → (Nat → Int32) → Prop) (w i : Nat) (now : Nat → Int32) (n : Nat) (Sz Z : Int32) (Ki He Do : Nat → Int32), pr_rel now n tn Sz Tc Fa Pa Py Mi Me Sr Z Ki He Do Tx La LT pk pv pn tc → n + w ≤ 24 → i + w < 2147483648 →
        (∀ Sz' Z' Ki' He' Do', pr_rel (pd_many now n w) (n + w) tn Sz' Tc Fa Pa Py Mi Me Sr Z' Ki' He' Do' Tx La LT pk pv pn tc → Q (nI (i + w)) Sz' Z' Ki' He' Do') → lp_X6_deal_30 Q (w + 1) (nI (i + w)) (nI i) Sz Z Ki He Do := by
      intro Q w
      induction w with
      | zero =>
        intro i now n Sz Z Ki He Do H hw _ hq
        show lp_X6_deal_30F Q _ (nI (i + 0)) (nI i) Sz Z Ki He Do
        unfold lp_X6_deal_30F
        exact pbT (by grind [pg_n]) (hq _ _ _ _ _ H)
      | succ w ih =>
        intro i now n Sz Z Ki He Do H hw hi hq
        show lp_X6_deal_30F Q (lp_X6_deal_30 Q (w + 1)) (nI (i + (w + 1))) (nI i) Sz Z Ki He Do
        unfold lp_X6_deal_30F
        refine pbF (by grind [pg_n]) (sp_X1_appendDrawn H (by omega) (fun Sz' Z' Ki' He' Do' H' => ?_))
        rw [pn_p1, show i + (w + 1) = i + 1 + w by omega]
        refine ih (i + 1) _ _ _ _ _ _ _ H' (by omega) (by omega) (fun Sz' Z' Ki' He' Do' g => ?_)
        rw [show i + 1 + w = i + (w + 1) by omega]
        refine hq _ _ _ _ _ ?_
        rw [show n + (w + 1) = n + 1 + w by omega]
        exact g
    have L7 : ∀ (Q : Int32 → (Nat → Int32) → Prop) (w i : Nat) (now : Nat → Int32) (n : Nat), now 1 = nI n → n + w ≤ 24 → i + w ≤ m → (i + w = m ∨ n + w = 24) → Q (nI (i + w)) (pd_many now n w) → lp_X7_deal_15 (nI m) Q (w + 1) (nI i) now := by
      intro Q w
      induction w with
      | zero =>
        intro i now n h1 _ _ hor hq
        show lp_X7_deal_15F (nI m) Q _ (nI i) now
        unfold lp_X7_deal_15F
        refine ⟨fun _ => hq, fun z => ⟨fun _ => hq, fun z2 => ?_⟩⟩
        rw [h1] at z2
        grind [pg_n]
      | succ w ih =>
        intro i now n h1 hw hi hor hq
        show lp_X7_deal_15F (nI m) Q (lp_X7_deal_15 (nI m) Q (w + 1)) (nI i) now
        unfold lp_X7_deal_15F
        refine pbF (by grind [pg_n]) (pbF (by rw [h1]; grind [pg_n]) ?_)
        refine sp_X7_draw (sp_X7_draw (sp_X7_draw ?_))
        rw [show i + (w + 1) = i + 1 + w by omega] at hq
        have h1' : ∀ z, upd now 0 z 1 = nI n := fun z => by rw [pn_upd_ne (by decide)]; exact h1
        have hu : ∀ x y : Int32, upd (upd now 0 x) 0 y = upd now 0 y := fun x y => by funext k; grind [pg_u]
        have g1 : pd_row now n 1 = nI (n + 1) := by unfold pd_row pa_row; exact pn_upd_self
        have hq : Q (nI (i + 1 + w)) (pd_many (pd_row now n) (n + 1) w) := hq
        have key := ih (i + 1) (pd_row now n) (n + 1) g1 (by omega) (by omega) (by omega) hq
        rw [hu, hu, pn_upd_self, pn_upd_self, pn_p1]
        unfold pd_row at key
        refine ⟨fun z => sp_X7_comes (h1' _) (by omega) ?_, fun z => sp_X7_comes (h1' _) (by omega) ?_⟩
        · rw [if_neg z] at key; exact key
        · rw [if_pos z] at key; exact key
    have e0 : min m (24 - n) = 0 + min m (24 - n) := by omega
    have := L6 (fun r Sz' Z' Ki' He' Do' => wp_X7_in (nI m) 1 24 (fun r_14 => ((¬ r_14 = 0 → (∃ n : Nat, lp_X7_deal_15 (nI m) (fun r' now' => r = r' ∧ ∃ n, pr_rel now' n tn Sz' Tc Fa Pa Py Mi Me Sr Z' Ki' He' Do' Tx La LT pk pv pn tc) n 0 now)) ∧ (r_14 = 0 → (fun r' now' => r = r' ∧ ∃ n, pr_rel now' n tn Sz' Tc Fa Pa Py Mi Me Sr Z' Ki' He' Do' Tx La LT pk pv pn tc) (-1000000001) now)))) (min m (24 - n)) 0 now n (nI n) Z Ki He Do (by rw [← b2, ← s1]; exact H) (by omega) (by omega) (fun Sz' Z' Ki' He' Do' H' => ?_)
    · rw [← e0] at this
      exact this
    · refine pw7T hp (pb1' ⟨min m (24 - n) + 1, L7 _ (min m (24 - n)) 0 now n b2 (by omega) (by omega) (by omega) ⟨rfl, _, H'⟩⟩)
  · exact pw6F hp (pb0' (pw7F hp (pb0' ⟨rfl, _, H⟩)))
end
