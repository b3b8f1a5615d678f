/-! PURE: rule, hide, safest -/
def pu_tv (now : Nat → Int32) (tn : Nat) (p t : Int32) : Int32 := pr_law now 2 tn (pr_far now t) p t (if 20 ≤ pr_far now t then 0 else 1)
def pu_tn (now : Nat → Int32) (tn : Nat) (p t : Int32) : Nat := if pu_tv now tn p t = 0 then 0 else 1
def pu_sum (now : Nat → Int32) (n tn : Nat) : Nat → Nat → Option Nat → Int32 → Int32
  | 0, _, _, acc => acc
  | _ + 1, _, none, acc => acc
  | w + 1, t, some p, acc => pu_sum now n tn w (t + 1) (pt_go n p (pu_tn now tn (nI p) (nI t))) (acc + pr_risk now tn p * pr_odds now tn (nI t))
section
variable {now : Nat → Int32} {n tn : Nat} {Sz Tc Fa Pa Py Mi Me Sr Z : Int32} {Ki He Do : Nat → Int32} {Tx : Nat → Option Nat} {La : Nat → Int32} {LT : List Nat} {pk pv : Nat → Int32} {pn : Nat → Nat} {tc : Nat → Nat → Int32}
theorem sp_X1_ruleTurns {p t : Int32} {sk : Nat → Int32} {Q : Int32 → (Nat → Int32) → Prop} (hT : pr_T now tn Tx La LT pk pv pn tc) (h1 : Fa = now 4) (h2 : Pa = now 5) (hq : ∀ sk', Q (nI (pu_tn now tn p t)) sk') : wp_X1_ruleTurns p t Fa Pa Tx La sk LT pn tc Q := by
  unfold wp_X1_ruleTurns
  refine sp_X1_farIn h1 h2 ?_
  unfold pu_tn pu_tv at hq
  refine ⟨fun z => ?_, fun z => ?_⟩
  · rw [if_pos z] at hq
    refine sp_X1_lawGives (n := 0) (k := 2) hT.1.1 hT.2.1 hT.2.2.1 hT.2.2.2 (by decide) (fun sk' => ?_)
    refine ⟨fun y => ?_, fun y => ?_⟩
    · rw [if_pos y] at hq; exact hq _
    · rw [if_neg y] at hq; exact hq _
  · rw [if_neg z] at hq
    refine sp_X1_lawGives (n := 0) (k := 2) hT.1.1 hT.2.1 hT.2.2.1 hT.2.2.2 (by decide) (fun sk' => ?_)
    refine ⟨fun y => ?_, fun y => ?_⟩
    · rw [if_pos y] at hq; exact hq _
    · rw [if_neg y] at hq; exact hq _
theorem sp_X7_doesTurn {p t : Int32} {stk fct : Nat → Int32} {Q : Int32 → (Nat → Int32) → (Nat → Int32) → Prop} (hM : pr_M now tn) (hq : ∀ st' fc', Q (nI (pu_tn now tn p t)) st' fc') : wp_X7_doesTurn p t now stk fct Q := by
  unfold wp_X7_doesTurn
  refine sp_X7_counts (k := 2) hM.2.1 hM.1 (sp_X7_farOn ?_)
  unfold pu_tn pu_tv pr_law at hq
  rcases pr_ct_cases now 2 tn with h | ⟨u, h1, h2, h3⟩
  · rw [h] at hq ⊢
    rw [if_pos (show (-1 : Int32) < 0 by decide)] at hq
    refine pbF (by decide) (sp_X7_farOn ⟨fun z => ?_, fun z => ?_⟩)
    · rw [if_pos z, if_pos rfl] at hq; exact hq _ _
    · rw [if_neg z, if_neg (by decide)] at hq; exact hq _ _
  · rw [h2] at hq ⊢
    have hp : ¬ nI u < 0 := nI_pos (by have := hM.1; omega)
    rw [if_neg hp, pn_cl (by have := hM.1; omega)] at hq
    obtain ⟨key, cnt, hx⟩ := hM.2.2 u h1
    have hk := pr_keq hx (by decide) h3
    subst hk
    refine pbT (nI_pos' (by have := hM.1; omega)) (sp_X7_worksOut (by have := hM.1; omega) hx (fun st' => ?_))
    rw [pe_val_cong hx (gc := pr_f3 (pr_far now t) p t) (fun j hj => ?_)]
    · refine ⟨fun y => ?_, fun y => ?_⟩
      · rw [if_pos y] at hq; exact hq _ _
      · rw [if_neg y] at hq; exact hq _ _
    · rw [if_pos rfl] at hj
      have : j = 0 ∨ j = 1 ∨ j = 2 := by omega
      rcases this with rfl | rfl | rfl
      · rw [pn_upd_ne (by decide), pn_upd_ne (by decide), pn_upd_self]; rfl
      · rw [pn_upd_ne (by decide), pn_upd_self]; rfl
      · rw [pn_upd_self]; rfl
theorem pu_tn_lt (p t : Int32) : pu_tn now tn p t < 4 := by unfold pu_tn; split <;> omega
theorem sp_X1_rule {m : Nat} {sk : Nat → Int32} {Q : Int32 → (Nat → Int32) → Prop} (H : pr_rel now n tn Sz Tc Fa Pa Py Mi Me Sr Z Ki He Do Tx La LT pk pv pn tc) {p : Nat} (hp : p < n) (hm : m ≤ 60) (hq : ∀ sk', Q (pu_sum now n tn m 0 (some p) 0) sk') : wp_X1_dangerByRule (nI p) (nI m) Sz Fa Pa Ki He Tx La sk LT pn tc Q := by
  obtain ⟨⟨b1, b2, b3, b4, b5⟩, ⟨s1, s2, s3, s4, s5, s6, s7, s8⟩, py, pl, hT⟩ := pr_rel_iff.mp H
  have L : ∀ (w t : Nat) (o : Option Nat) (acc : Int32) (sk : Nat → Int32), t + w = m → (∀ q, o = some q → q < n) → (∀ sk', Q (pu_sum now n tn w t o acc) sk') → lp_X1_dangerByRule_8 (nI m) Sz Fa Pa Ki He Tx La LT pn tc Q (w + 1) acc (pt_cI o) (nI t) sk := by
    intro w
    induction w with
    | zero =>
      intro t o acc sk ht ho hq
      show lp_X1_dangerByRule_8F (nI m) Sz Fa Pa Ki He Tx La LT pn tc Q _ acc (pt_cI o) (nI t) sk
      unfold lp_X1_dangerByRule_8F
      exact pbT (by grind [pg_n]) (hq _)
    | succ w ih =>
      intro t o acc sk ht ho hq
      show lp_X1_dangerByRule_8F (nI m) Sz Fa Pa Ki He Tx La LT pn tc Q (lp_X1_dangerByRule_8 (nI m) Sz Fa Pa Ki He Tx La LT pn tc Q (w + 1)) acc (pt_cI o) (nI t) sk
      unfold lp_X1_dangerByRule_8F
      refine pbF (by grind [pg_n]) ?_
      cases o with
      | none =>
        refine ph6F (n := n) ?_ (by omega) (by rw [s1, b2]) (pb0 (hq _))
        rintro ⟨p, hp, e⟩
        have e : (-1000000005 : Int32) = nI p := e
        grind [pg_n]
      | some p =>
        have hp := ho p rfl
        obtain ⟨k, hh, d, q1, q2, q3, q4, q5, q6, q7, q8, q9⟩ := pl p hp
        rw [show pt_cI (some p) = nI p from rfl]
        refine ph6T hp (by omega) (by rw [s1, b2]) (pb1 ?_)
        unfold wp_X1_dangerOf
        refine sp_X1_risk hT (by omega) (by rw [q7, q4]) (by rw [q8, q5]) (fun sk' => sp_X1_odds hT s3 s4 (fun sk'' => sp_X1_ruleTurns hT s3 s4 (fun sk3 => ?_)))
        rw [pn_p1]
        have hq : ∀ sk', Q (pu_sum now n tn w (t + 1) (pt_go n p (pu_tn now tn (nI p) (nI t))) (acc + pr_risk now tn p * pr_odds now tn (nI t))) sk' := hq
        have hc : pu_tn now tn (nI p) (nI t) = 0 ∨ pu_tn now tn (nI p) (nI t) = 1 := by unfold pu_tn; split <;> simp
        rcases hc with e | e
        · rw [e] at hq ⊢
          exact pb0 (sp_X1_behindStep (s := 0) hp b1 (by decide) (by rw [s1, b2]) (ih (t + 1) _ _ _ (by omega) (fun q hq => pt_go_lt hp hq) hq))
        · rw [e] at hq ⊢
          exact pb1 (sp_X1_behindStep (s := 1) hp b1 (by decide) (by rw [s1, b2]) (ih (t + 1) _ _ _ (by omega) (fun q hq => pt_go_lt hp hq) hq))
  unfold wp_X1_dangerByRule
  exact ⟨m + 1, L m 0 (some p) 0 sk (by omega) (fun q hq => by cases hq; exact hp) hq⟩
theorem sp_X7_rule {m p : Nat} {p3 : Int32} {lea lat bst rsk stk fct : Nat → Int32} {Q : Int32 → (Nat → Int32) → (Nat → Int32) → (Nat → Int32) → (Nat → Int32) → (Nat → Int32) → (Nat → Int32) → Prop} (hok : pr_ok now n tn) (hp : p < n) (hm : m ≤ 60)
    (hq : ∀ stk fct, jp_X7_rule_98 (nI p) (nI m) p3 now Q (pu_sum now n tn m 0 (some p) 0) lea lat bst rsk stk fct) : ∃ k, lp_X7_rule_39 (nI p) (nI m) p3 now Q k 0 (nI p) 0 lea lat bst rsk stk fct := by
  have hM := hok.M
  have hpl := hok.2.2.2.2.1
  have hn := hok.1
  have L : ∀ (w t : Nat) (o : Option Nat) (acc : Int32) (stk fct : Nat → Int32), t + w = m → (∀ q, o = some q → q < n) → (∀ stk fct, jp_X7_rule_98 (nI p) (nI m) p3 now Q (pu_sum now n tn w t o acc) lea lat bst rsk stk fct) → lp_X7_rule_39 (nI p) (nI m) p3 now Q (w + 1) acc (pt_mI o) (nI t) lea lat bst rsk stk fct := by
    intro w
    induction w with
    | zero =>
      intro t o acc stk fct ht ho hq
      show lp_X7_rule_39F (nI p) (nI m) p3 now Q _ acc (pt_mI o) (nI t) lea lat bst rsk stk fct
      unfold lp_X7_rule_39F
      exact pbT (by grind [pg_n]) (hq _ _)
    | succ w ih =>
      intro t o acc stk fct ht ho hq
      show lp_X7_rule_39F (nI p) (nI m) p3 now Q (lp_X7_rule_39 (nI p) (nI m) p3 now Q (w + 1)) acc (pt_mI o) (nI t) lea lat bst rsk stk fct
      unfold lp_X7_rule_39F
      refine pbF (by grind [pg_n]) ?_
      cases o with
      | none => exact pbT (by decide) (hq _ _)
      | some p =>
        have hp := ho p rfl
        obtain ⟨k, hh, d, q1, q2, q3, q4, q5, q6⟩ := hpl p hp
        rw [show pt_mI (some p) = nI p from rfl]
        refine pbF (nI_pos (by omega)) ?_
        refine sp_X7_risk hM (by omega) q2 q5 (fun _ _ => sp_X7_odds hM (fun _ _ => sp_X7_doesTurn hM (fun stk' fct' => ?_)))
        rw [pn_p1]
        have hq : ∀ stk fct, jp_X7_rule_98 _ (nI m) p3 now Q (pu_sum now n tn w (t + 1) (pt_go n p (pu_tn now tn (nI p) (nI t))) (acc + pr_risk now tn p * pr_odds now tn (nI t))) lea lat bst rsk stk fct := hq
        have hc : pu_tn now tn (nI p) (nI t) = 0 ∨ pu_tn now tn (nI p) (nI t) = 1 := by unfold pu_tn; split <;> simp
        rcases hc with e | e
        · rw [e] at hq ⊢
          exact pb0 (sp_X7_goes (s := 0) hp hn (by decide) hok.2.2.1 (ih (t + 1) _ _ _ _ (by omega) (fun q hq => pt_go_lt hp hq) hq))
        · rw [e] at hq ⊢
          exact pb1 (sp_X7_goes (s := 1) hp hn (by decide) hok.2.2.1 (ih (t + 1) _ _ _ _ (by omega) (fun q hq => pt_go_lt hp hq) hq))
  exact ⟨m + 1, L m 0 (some p) 0 stk fct (by omega) (fun q hq => by cases hq; exact hp) hq⟩
theorem j_rule (H : pr_rel now n tn Sz Tc Fa Pa Py Mi Me Sr Z Ki He Do Tx La LT pk pv pn tc) (p1 p2 p3 : Int32) (Ri Le Lt sk lea lat bst rsk stk fct : Nat → Int32) : wp_X6_rule p1 p2 p3 Ri Le Lt Sz Fa Pa Ki He Do Tx La sk LT pn tc (fun r _ _ _ _ => wp_X7_rule p1 p2 p3 now lea lat bst rsk stk fct (fun r' _ _ _ _ _ _ => r = r')) := by
  have hok : pr_ok now n tn := H.1
  have hc := px_ctx hok
  obtain ⟨⟨b1, b2, b3, b4, b5⟩, ⟨s1, s2, s3, s4, s5, s6, s7, s8⟩, py, pl, hT⟩ := pr_rel_iff.mp H
  unfold wp_X6_rule wp_X7_rule
  by_cases hp : ∃ p, p < n ∧ p1 = nI p
  · obtain ⟨p, hp, rfl⟩ := hp
    refine ph6T hp (by omega) (by rw [s1, b2]) (pb1 ?_)
    by_cases h2 : 1 ≤ p2 ∧ p2 ≤ 60
    · obtain ⟨m, hm, rfl⟩ := pn_k (x := p2) (m := 60) (by decide) ⟨by grind, h2.2⟩
      have hm1 : 1 ≤ m := by have := h2.1; grind [pg_n]
      refine pw6T h2 (pb1 ?_)
      by_cases h3 : 0 ≤ p3 ∧ p3 ≤ 1
      · refine pw6T h3 (pb1' (sp_X1_rule H hp hm (fun sk' => ?_)))
        by_cases h4 : p3 = 0
        · refine pbT' h4 (ph7T hp (by omega) b2 (pb1 (pw7T h2 (pb1 (pw7T h3 (pb1' (sp_X7_rule hok hp hm (fun stk' fct' => ?_))))))))
          unfold jp_X7_rule_98
          exact sp_X7_findTree hc hok ⟨hm1, hm⟩ (fun lea lat bst rsk stk fct k1 k2 => pbT' h4 rfl)
        · refine pbF' h4 (pt_weigh H (fun ri sk' hri => ?_))
          refine sp_X5_grow hc hT b1 (by rw [s1, b2]) s3 s4 (fun i hi => (pr_pl_at pl hi).2.2) (fun i hi => by rw [hri i hi]; exact hc.1 i hi) ⟨hm1, hm⟩ (fun le la sk' g1 g2 => ⟨pn_in (by omega) (by decide), ?_⟩)
          refine ph7T hp (by omega) b2 (pb1 (pw7T h2 (pb1 (pw7T h3 (pb1' (sp_X7_rule hok hp hm (fun stk' fct' => ?_)))))))
          unfold jp_X7_rule_98
          refine sp_X7_findTree hc hok ⟨hm1, hm⟩ (fun lea lat bst rsk stk fct k1 k2 => pbF' h4 ⟨pn_in (by omega) (by decide), ?_⟩)
          rw [pn_cl (by omega), g1 p hp, k1 p hp]
      · exact pw6F h3 (pb0' (ph7T hp (by omega) b2 (pb1 (pw7T h2 (pb1 (pw7F h3 (pb0' rfl)))))))
    · exact pw6F h2 (pb0 (ph7T hp (by omega) b2 (pb1 (pw7F h2 (pb0 rfl)))))
  · exact ph6F hp (by omega) (by rw [s1, b2]) (pb0 (ph7F hp (by omega) b2 (pb0 rfl)))
/-- b is the first with the least of f, from lo to hi -/
def pl_fl (f : Nat → Nat) (lo hi b : Nat) : Prop := lo ≤ b ∧ b ≤ hi ∧ ∀ i, lo ≤ i → i ≤ hi → f b < f i ∨ (f b = f i ∧ b ≤ i)
theorem pl_fl_u {f : Nat → Nat} {lo hi b c : Nat} (h1 : pl_fl f lo hi b) (h2 : pl_fl f lo hi c) : b = c := by
  obtain ⟨a1, a2, a3⟩ := h1
  obtain ⟨c1, c2, c3⟩ := h2
  have := a3 c c1 c2
  have := c3 b a1 a2
  omega
theorem sp_X6_firstLeast {f : Nat → Nat} {g : Nat → Int32} {lo hi : Nat} {Q : Int32 → Prop} (hl : lo ≤ hi) (hh : hi < 24) (hg : ∀ i, i ≤ hi → g i = nI (f i)) (hf : ∀ i, i ≤ hi → f i < 2 ^ 31) (hq : ∀ b, pl_fl f lo hi b → Q (nI b)) : wp_X6_firstLeast (nI lo) (nI hi) g Q := by
  have L : ∀ (w b i : Nat), i + w = hi + 1 → lo < i → pl_fl f lo (i - 1) b → lp_X6_firstLeast_7 (nI hi) g Q (w + 1) (nI b) (nI i) := by
    intro w
    induction w with
    | zero =>
      intro b i hw hi2 hb
      show lp_X6_firstLeast_7F (nI hi) g Q _ (nI b) (nI i)
      unfold lp_X6_firstLeast_7F
      refine pbT (by grind [pg_n]) (hq b ?_)
      rw [show i - 1 = hi by omega] at hb
      exact hb
    | succ w ih =>
      intro b i hw hi2 hb
      show lp_X6_firstLeast_7F (nI hi) g Q (lp_X6_firstLeast_7 (nI hi) g Q (w + 1)) (nI b) (nI i)
      unfold lp_X6_firstLeast_7F
      obtain ⟨c1, c2, c3⟩ := hb
      refine pbF (by grind [pg_n]) ⟨pn_in (by omega) (by decide), pn_in (by omega) (by decide), ?_⟩
      rw [pn_p1, pn_cl (by omega), pn_cl (by omega), hg i (by omega), hg b (by omega)]
      have hfi := hf i (by omega)
      have hfb := hf b (by omega)
      refine ⟨fun z => ih b (i + 1) (by omega) (by omega) ?_, fun z => ih i (i + 1) (by omega) (by omega) ?_⟩
      · rw [nI_leI hfb hfi] at z
        refine ⟨c1, by omega, fun j h1 h2 => ?_⟩
        by_cases e : j = i
        · subst e; omega
        · exact c3 j h1 (by omega)
      · rw [nI_leI hfb hfi] at z
        refine ⟨by omega, by omega, fun j h1 h2 => ?_⟩
        by_cases e : j = i
        · subst e; omega
        · have := c3 j h1 (by omega); omega
  unfold wp_X6_firstLeast
  rw [pn_p1]
  refine ⟨hi - lo + 1, L (hi - lo) lo (lo + 1) (by omega) (by omega) ⟨by omega, by omega, fun i h1 h2 => ?_⟩⟩
  obtain rfl : i = lo := by omega
  omega
theorem j_safest (H : pr_rel now n tn Sz Tc Fa Pa Py Mi Me Sr Z Ki He Do Tx La LT pk pv pn tc) (p1 : Int32) (Ri Le Lt sk lea lat bst rsk stk fct : Nat → Int32) : wp_X6_safest p1 Ri Le Lt Sz Fa Pa Ki He Do Tx La sk LT pn tc (fun r _ _ _ _ => wp_X7_safest p1 now lea lat bst rsk stk fct (fun r' _ _ _ _ _ _ => r = r')) := by
  have hok : pr_ok now n tn := H.1
  have hc := px_ctx hok
  obtain ⟨⟨b1, b2, b3, b4, b5⟩, ⟨s1, s2, s3, s4, s5, s6, s7, s8⟩, py, pl, hT⟩ := pr_rel_iff.mp H
  unfold wp_X6_safest wp_X7_safest
  by_cases h2 : 1 ≤ p1 ∧ p1 ≤ 60
  · obtain ⟨m, hm, rfl⟩ := pn_k (x := p1) (m := 60) (by decide) ⟨by grind, h2.2⟩
    have hm1 : 1 ≤ m := by have := h2.1; grind [pg_n]
    refine pw6T h2 (pb1' ?_)
    have L : ∀ (Q : Int32 → (Nat → Int32) → (Nat → Int32) → (Nat → Int32) → (Nat → Int32) → (Nat → Int32) → (Nat → Int32) → Prop) (lea lat bst rsk stk fct : Nat → Int32), (∀ p, p < n → lea p = nI (px_v now n tn m m p)) → (∀ b, pl_fl (px_v now n tn m m) 0 (n - 1) b → Q (nI b) lea lat bst rsk stk fct) →
        ∀ (w b i : Nat), i + w = n → 0 < i → pl_fl (px_v now n tn m m) 0 (i - 1) b → lp_X7_safest_22 now Q (w + 1) (nI b) (nI i) lea lat bst rsk stk fct := by
      intro Q lea lat bst rsk stk fct hle hq w
      induction w with
      | zero =>
        intro b i hw hi hb
        show lp_X7_safest_22F now Q _ (nI b) (nI i) lea lat bst rsk stk fct
        unfold lp_X7_safest_22F
        refine pbT (by rw [b2]; grind [pg_n]) (sp_X7_told0 ?_)
        have hb2 := hb.2.1
        rw [if_pos (nI_pos' (by omega))]
        refine hq b ?_
        rw [show n - 1 = i - 1 by omega]
        exact hb
      | succ w ih =>
        intro b i hw hi hb
        show lp_X7_safest_22F now Q (lp_X7_safest_22 now Q (w + 1)) (nI b) (nI i) lea lat bst rsk stk fct
        unfold lp_X7_safest_22F
        obtain ⟨c1, c2, c3⟩ := hb
        refine pbF (by rw [b2]; grind [pg_n]) (pbF (nI_pos (by omega)) ⟨pn_in (by omega) (by decide), pn_in (by omega) (by decide), ?_⟩)
        rw [pn_p1, pn_cl (by omega), pn_cl (by omega), hle i (by omega), hle b (by omega)]
        have hfi : px_v now n tn m m i < 2 ^ 31 := px_v_lt hok hm
        have hfb : px_v now n tn m m b < 2 ^ 31 := px_v_lt hok hm
        refine ⟨fun z => ih b (i + 1) (by omega) (by omega) ?_, fun z => ih i (i + 1) (by omega) (by omega) ?_⟩
        · rw [nI_leI hfb hfi] at z
          refine ⟨c1, by omega, fun j h1 h2 => ?_⟩
          by_cases e : j = i
          · subst e; omega
          · exact c3 j h1 (by omega)
        · rw [nI_leI hfb hfi] at z
          refine ⟨by omega, by omega, fun j h1 h2 => ?_⟩
          by_cases e : j = i
          · subst e; omega
          · have := c3 j h1 (by omega); omega
    have S : ∀ (Q : Int32 → (Nat → Int32) → (Nat → Int32) → (Nat → Int32) → (Nat → Int32) → (Nat → Int32) → (Nat → Int32) → Prop) (k : Nat) (a b : Int32) (lea lat bst rsk stk fct : Nat → Int32), lp_X7_safest_22 now Q (k + 1) a b lea lat bst rsk stk fct = lp_X7_safest_22F now Q (lp_X7_safest_22 now Q k) a b lea lat bst rsk stk fct := fun _ _ _ _ _ _ _ _ _ _ => rfl
    by_cases hn : n = 0
    · subst hn
      refine pbT' (by rw [s1, b2]; rfl) (pw7T h2 (pb1' (sp_X7_findTree hc hok ⟨hm1, hm⟩ (fun lea lat bst rsk stk fct k1 k2 => ⟨1, ?_⟩))))
      rw [S]
      unfold lp_X7_safest_22F
      exact pbT (by rw [b2]; decide) (sp_X7_told0 (by show (-1000000005 : Int32) = (if (0 : Int32) ≤ -1 then -1 else -1000000005); decide))
    · refine pbF' (by rw [s1, b2]; grind [pg_n]) (pt_weigh H (fun ri sk' hri => ?_))
      refine sp_X5_grow hc hT b1 (by rw [s1, b2]) s3 s4 (fun i hi => (pr_pl_at pl hi).2.2) (fun i hi => by rw [hri i hi]; exact hc.1 i hi) ⟨hm1, hm⟩ (fun le la sk' g1 g2 => ?_)
      rw [s1, b2, show nI n - 1 = nI (n - 1) from by grind [pg_n]]
      refine sp_X6_firstLeast (lo := 0) (f := px_v now n tn m m) (by omega) (by omega) (fun i hi => g1 i (by omega)) (fun i hi => px_v_lt hok hm) (fun b hb => ?_)
      refine pw7T h2 (pb1' (sp_X7_findTree hc hok ⟨hm1, hm⟩ (fun lea lat bst rsk stk fct k1 k2 => ⟨n + 1, ?_⟩)))
      rw [S]
      unfold lp_X7_safest_22F
      refine pbF (by rw [b2]; grind [pg_n]) (pbT (by decide) ?_)
      obtain ⟨w, rfl⟩ : ∃ w, n = w + 1 := ⟨n - 1, by omega⟩
      refine L _ lea lat bst rsk stk fct k1 (fun b' hb' => ?_) w 0 1 (by omega) (by omega) ⟨by omega, by omega, fun i h1 h2 => ?_⟩
      · rw [pl_fl_u hb hb']
      · obtain rfl : i = 0 := by omega
        omega
  · exact pw6F h2 (pb0' (pw7F h2 (pb0' rfl)))
theorem j_hide (H : pr_rel now n tn Sz Tc Fa Pa Py Mi Me Sr Z Ki He Do Tx La LT pk pv pn tc) (p1 p2 : Int32) (Ri sk stk fct : Nat → Int32) : wp_X6_hide p1 p2 Ri Sz Ki He Tx La sk LT pn tc (fun r _ _ => wp_X7_hide p1 p2 now stk fct (fun r' _ _ => r = r')) := by
  have hok : pr_ok now n tn := H.1
  have hc := px_ctx hok
  obtain ⟨⟨b1, b2, b3, b4, b5⟩, ⟨s1, s2, s3, s4, s5, s6, s7, s8⟩, py, pl, hT⟩ := pr_rel_iff.mp H
  unfold wp_X6_hide wp_X7_hide
  by_cases hp : ∃ p, p < n ∧ p1 = nI p
  · obtain ⟨p, hp, rfl⟩ := hp
    refine ph6T hp (by omega) (by rw [s1, b2]) (pb1 ?_)
    by_cases h2 : 0 ≤ p2 ∧ p2 ≤ 60
    · obtain ⟨m, hm, rfl⟩ := pn_k (m := 60) (by decide) h2
      refine pw6T h2 (pb1' (pt_weigh H (fun ri sk' hri => ?_)))
      have e1 : rc_max 0 (nI p - nI m) = nI (p - m) := by unfold rc_max; grind [pg_n]
      have e2 : rc_min (Sz - 1) (nI p + nI m) = nI (min (n - 1) (p + m)) := by
        rw [s1, b2, nI_add, show nI n - 1 = nI (n - 1) from by grind [pg_n], pn_min _ _ (by omega) (by omega)]
      rw [e1, e2]
      have hrl : ∀ i, px_rk now n tn i < 2 ^ 31 := fun i => by have := hc.2.2.1 i; omega
      refine sp_X6_firstLeast (f := px_rk now n tn) (by omega) (by omega) (fun i hi => by rw [hri i (by omega)]; exact hc.1 i (by omega)) (fun i hi => hrl i) (fun b hb => ?_)
      refine ph7T hp (by omega) b2 (pb1 (pw7T h2 (pb1' ⟨n + 1, ?_⟩)))
      have L : ∀ (Q : Int32 → (Nat → Int32) → (Nat → Int32) → Prop), (∀ b stk fct, pl_fl (px_rk now n tn) (p - m) (min (n - 1) (p + m)) b → Q (nI b) stk fct) →
          ∀ (i b : Nat) (stk fct : Nat → Int32), i ≤ n → p - m ≤ b → b ≤ min (n - 1) (p + m) → (∀ j, i ≤ j → p - m ≤ j → j ≤ min (n - 1) (p + m) → px_rk now n tn b < px_rk now n tn j ∨ (px_rk now n tn b = px_rk now n tn j ∧ b ≤ j)) → lp_X7_hide_33 (nI p) (nI m) now Q (i + 1) (nI b) (nI i - 1) stk fct := by
        intro Q hq i
        induction i with
        | zero =>
          intro b stk fct _ h1 h2 h3
          show lp_X7_hide_33F (nI p) (nI m) now Q _ (nI b) (nI 0 - 1) stk fct
          unfold lp_X7_hide_33F
          exact pbT (by decide) (hq b _ _ ⟨h1, h2, fun i => h3 i (by omega)⟩)
        | succ i ih =>
          intro b stk fct hi h1 h2 h3
          show lp_X7_hide_33F (nI p) (nI m) now Q (lp_X7_hide_33 (nI p) (nI m) now Q (i + 1)) (nI b) (nI (i + 1) - 1) stk fct
          unfold lp_X7_hide_33F
          rw [pn_s1, show nI i + (-1) = nI i - 1 from by rw [Int32.sub_eq_add_neg]]
          refine pbF (nI_pos (by omega)) ?_
          by_cases hr : p - m ≤ i ∧ i ≤ p + m
          · refine pw7T (by grind [pg_n]) (pb1 ?_)
            obtain ⟨k, hh, d, q1, q2, q3, q4, q5, q6⟩ := hok.2.2.2.2.1 i (by omega)
            obtain ⟨k', hh', d', q1', q2', q3', q4', q5', q6'⟩ := hok.2.2.2.2.1 b (by omega)
            refine sp_X7_risk hT.M (by omega) q2 q5 (fun _ _ => sp_X7_risk hT.M (by omega) q2' q5' (fun _ _ => ?_))
            rw [hc.1 i (by omega), hc.1 b (by omega)]
            have v1 := hrl i
            have v2 := hrl b
            refine ⟨fun z => ih i _ _ (by omega) (by omega) (by omega) (fun j a1 a2 a3 => ?_), fun z => ?_⟩
            · rw [nI_ltI v1 v2] at z
              by_cases e : j = i
              · subst e; omega
              · have := h3 j (by omega) a2 a3; omega
            · rw [nI_ltI v1 v2] at z
              refine sp_X7_risk hT.M (by omega) q2 q5 (fun _ _ => sp_X7_risk hT.M (by omega) q2' q5' (fun _ _ => ?_))
              rw [hc.1 i (by omega), hc.1 b (by omega)]
              refine ⟨fun y => ih b _ _ (by omega) h1 h2 (fun j a1 a2 a3 => ?_), fun y => ⟨fun x => ih b _ _ (by omega) h1 h2 (fun j a1 a2 a3 => ?_), fun x => ih i _ _ (by omega) (by omega) (by omega) (fun j a1 a2 a3 => ?_)⟩⟩
              · rw [nI_eq v1 v2] at y
                by_cases e : j = i
                · subst e; omega
                · exact h3 j (by omega) a2 a3
              · rw [nI_eq v1 v2] at y
                rw [nI_leI (by omega) (by omega)] at x
                by_cases e : j = i
                · subst e; omega
                · exact h3 j (by omega) a2 a3
              · rw [nI_eq v1 v2] at y
                rw [nI_leI (by omega) (by omega)] at x
                by_cases e : j = i
                · subst e; omega
                · have := h3 j (by omega) a2 a3; omega
          · refine pw7F (by grind [pg_n]) (pb0 (ih b _ _ (by omega) h1 h2 (fun j a1 a2 a3 => h3 j (by omega) a2 a3)))
      rw [b2]
      refine L _ (fun b' _ _ hb' => ?_) n p stk fct (by omega) (by omega) (by omega) (fun j a1 a2 a3 => absurd a3 (by omega))
      rw [pl_fl_u hb hb']
    · exact pw6F h2 (pb0' (ph7T hp (by omega) b2 (pb1 (pw7F h2 (pb0' rfl)))))
  · exact ph6F hp (by omega) (by rw [s1, b2]) (pb0 (ph7F hp (by omega) b2 (pb0 rfl)))
end
