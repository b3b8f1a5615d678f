/-! PURE: the best minute, run, tree, safest -/
def px_rk (now : Nat → Int32) (n tn p : Nat) : Nat := if p < n then (pr_risk now tn p).toNatClampNeg else 0
def px_od (now : Nat → Int32) (tn t : Nat) : Nat := (pr_odds now tn (nI t)).toNatClampNeg
def px_dn (now : Nat → Int32) (p : Nat) : Bool := decide (now (9 + 3 * p + 2) = 1)
def px_v (now : Nat → Int32) (n tn m j : Nat) : Nat → Nat := pt_v (px_rk now n tn) (px_od now tn) (px_dn now) n m j
def pb_step (now : Nat → Int32) (n tn : Nat) : Nat := if now 2 < 0 then 2 else pt_step (px_dn now) n (px_v now n tn 20 19) (now 2).toNatClampNeg
def pb_row (now : Nat → Int32) (n tn : Nat) : Nat → Int32 := pm_row now n tn (pb_step now n tn)
def pb_many (n tn : Nat) : Nat → (Nat → Int32) → (Nat → Int32)
  | 0, now => now
  | w + 1, now => pb_many n tn w (pb_row now n tn)
theorem pt_step_lt (dn : Nat → Bool) (n : Nat) (f : Nat → Nat) (p : Nat) : pt_step dn n f p < 4 := by
  unfold pt_step
  simp only
  grind
section
variable {now : Nat → Int32} {n tn : Nat} {Sz Tc Fa Pa Py Mi Me Sr Z : Int32} {Ki He Do : Nat → Int32} {Tx : Nat → Option Nat} {La : Nat → Int32} {LT : List Nat} {pk pv : Nat → Int32} {pn : Nat → Nat} {tc : Nat → Nat → Int32}
theorem pb_step_lt : pb_step now n tn < 4 := by
  unfold pb_step
  split
  · omega
  · exact pt_step_lt _ _ _ _
theorem px_ctx (hok : pr_ok now n tn) : pt_ctx now n tn (px_rk now n tn) (px_od now tn) (px_dn now) := by
  have h1 : ∀ p, p < n → ∃ v, v ≤ 218 ∧ pr_risk now tn p = nI v := by
    intro p hp
    obtain ⟨k, _, _, hk, _, _, e, _⟩ := hok.2.2.2.2.1 p hp
    exact pr_risk_nI (tn := tn) hk e
  refine ⟨fun p hp => ?_, fun t _ => ?_, fun p => ?_, fun t => ?_, fun _ _ => rfl⟩
  · obtain ⟨v, hv, e⟩ := h1 p hp
    unfold px_rk
    rw [if_pos hp, e, pn_cl (by omega)]
  · obtain ⟨v, hv, e⟩ := pr_odds_nI now tn (nI t)
    unfold px_od
    rw [e, pn_cl (by omega)]
  · unfold px_rk
    by_cases hp : p < n
    · obtain ⟨v, hv, e⟩ := h1 p hp
      rw [if_pos hp, e, pn_cl (by omega)]
      exact hv
    · rw [if_neg hp]; omega
  · obtain ⟨v, hv, e⟩ := pr_odds_nI now tn (nI t)
    unfold px_od
    rw [e, pn_cl (by omega)]
    exact hv
theorem px_v_lt (hok : pr_ok now n tn) {m j p : Nat} (hj : j ≤ 60) : px_v now n tn m j p < 2 ^ 31 := by
  have hc := px_ctx hok
  have := pt_v_le (dn := px_dn now) (n := n) (m := m) hc.2.2.1 hc.2.2.2.1 j p
  unfold px_v
  omega
theorem sp_X6_best {mi : Nat} {Ri Le Lt sk : Nat → Int32} {Q : (Nat → Int32) → (Nat → Int32) → Int32 → Int32 → Int32 → Int32 → Int32 → Int32 → (Nat → Int32) → Prop} (H : pr_rel now n tn Sz Tc Fa Pa Py Mi Me Sr Z Ki He Do Tx La LT pk pv pn tc) (hR : ∀ i, i < n → Ri i = pr_risk now tn i) (h3 : now 3 = nI mi) (hm : mi < 9999)
    (hq : ∀ le la Fa' Py' Mi' Me' Sr' Z' sk', pr_rel (pb_row now n tn) n tn Sz Tc Fa' Pa Py' Mi' Me' Sr' Z' Ki He Do Tx La LT pk pv pn tc → Q le la Fa' Py' Mi' Me' Sr' Z' sk') : wp_X6_passBestMinute Ri Le Lt Sz Fa Pa Py Mi Me Sr Z Ki He Do Tx La sk LT pn tc Q := by
  have hok : pr_ok now n tn := H.1
  have hc := px_ctx hok
  obtain ⟨⟨b1, b2, b3, b4, b5⟩, ⟨s1, s2, s3, s4, s5, s6, s7, s8⟩, py, pl, hT⟩ := pr_rel_iff.mp H
  unfold wp_X6_passBestMinute
  rcases py with ⟨e1, e2⟩ | ⟨p, hp, e1, e2⟩
  · have hst : pb_step now n tn = 2 := by unfold pb_step; rw [e1]; rfl
    unfold pb_row at hq
    rw [hst] at hq
    refine ph6F (n := n) ?_ (by omega) (by rw [s1, b2]) (pb0 (sp_X1_passMinute (s := 2) H (by decide) h3 hm (fun _ _ _ _ _ _ _ H' => hq _ _ _ _ _ _ _ _ _ H')))
    rintro ⟨p, hp, e⟩
    grind [pg_n]
  · have hst : pb_step now n tn = pt_step (px_dn now) n (px_v now n tn 20 19) p := by
      unfold pb_step
      rw [e1, if_neg (nI_pos (by omega)), pn_cl (by omega)]
    unfold pb_row at hq
    rw [hst] at hq
    have hpyeq : Py = nI p := e2
    subst hpyeq
    refine ph6T hp (by omega) (by rw [s1, b2]) (pb1 ?_)
    refine sp_X5_grow (m := 20) hc hT b1 (by rw [s1, b2]) s3 s4 (fun i hi => (pr_pl_at pl hi).2.2) (fun i hi => by rw [hR i hi]; exact hc.1 i hi) (by omega) (fun le la sk' g1 g2 => ?_)
    refine sp_X5_bestStep (f := px_v now n tn 20 19) (dn := px_dn now) hp b1 (by rw [s1, b2]) g2 (fun i _ => px_v_lt hok (by omega)) (by unfold px_dn; rw [(pr_pl_at pl hp).2.2]) ?_
    exact sp_X1_passMinute H (pt_step_lt _ _ _ _) h3 hm (fun _ _ _ _ _ _ _ H' => hq _ _ _ _ _ _ _ _ _ H')
theorem sp_X7_best {lea lat bst rsk stk fct : Nat → Int32} {Q : (Nat → Int32) → (Nat → Int32) → (Nat → Int32) → (Nat → Int32) → (Nat → Int32) → (Nat → Int32) → (Nat → Int32) → Prop} (hok : pr_ok now n tn) (hq : ∀ lea lat bst rsk stk fct, Q (pb_row now n tn) lea lat bst rsk stk fct) : wp_X7_bestMinute now lea lat bst rsk stk fct Q := by
  have hc := px_ctx hok
  have hpy := hok.2.2.2.2.2.1
  have hn := hok.1
  unfold wp_X7_bestMinute
  rcases hpy with e1 | ⟨p, hp, e1⟩
  · have hst : pb_step now n tn = 2 := by unfold pb_step; rw [e1]; rfl
    unfold pb_row at hq
    rw [hst] at hq
    exact pbT (by rw [e1]; decide) (sp_X7_aMinute (s := 2) hok (by decide) (fun _ _ => hq _ _ _ _ _ _))
  · have hst : pb_step now n tn = pt_step (px_dn now) n (px_v now n tn 20 19) p := by
      unfold pb_step
      rw [e1, if_neg (nI_pos (by omega)), pn_cl (by omega)]
    unfold pb_row at hq
    rw [hst] at hq
    refine pbF (by rw [e1]; exact nI_pos (by omega)) (sp_X7_findTree (m := 20) hc hok (by omega) (fun lea lat bst rsk stk fct g1 g2 => ⟨by rw [e1]; exact pn_in (by omega) (by decide), ?_⟩))
    rw [e1, pn_cl (by omega), g2 p hp]
    exact sp_X7_aMinute hok (pt_step_lt _ _ _ _) (fun _ _ => hq _ _ _ _ _ _)
theorem pb_row_risk (p : Nat) : pr_risk (pb_row now n tn) tn p = pr_risk now tn p := pm_row_risk _ _
theorem pb_row_3 : pb_row now n tn 3 = now 3 + 1 := pm_row_3 _
theorem pt_weigh {Ri sk : Nat → Int32} {Q : (Nat → Int32) → (Nat → Int32) → Prop} (H : pr_rel now n tn Sz Tc Fa Pa Py Mi Me Sr Z Ki He Do Tx La LT pk pv pn tc) (hq : ∀ ri sk, (∀ i, i < n → ri i = pr_risk now tn i) → Q ri sk) : wp_X5_weigh Ri Sz Ki He Tx La sk LT pn tc Q := by
  obtain ⟨⟨b1, b2, b3, b4, b5⟩, ⟨s1, s2, s3, s4, s5, s6, s7, s8⟩, py, pl, hT⟩ := pr_rel_iff.mp H
  have hc := px_ctx H.1
  exact sp_X5_weigh hc hT b1 (by rw [s1, b2]) (fun i hi => ⟨(pr_pl_at pl hi).1, (pr_pl_at pl hi).2.1⟩) (fun ri sk h => hq ri sk (fun i hi => by rw [h i hi]; exact (hc.1 i hi).symm))
theorem j_run (H : pr_rel now n tn Sz Tc Fa Pa Py Mi Me Sr Z Ki He Do Tx La LT pk pv pn tc) (p1 : Int32) (Ri Le Lt sk lea lat bst rsk stk fct : Nat → Int32) : wp_X6_run p1 Ri Le Lt Sz Fa Pa Py Mi Me Sr Z Ki He Do Tx La sk LT pn tc (fun r _ _ _ Fa' Py' Mi' Me' Sr' Z' _ => wp_X7_run p1 now lea lat bst rsk stk fct (fun r' now' _ _ _ _ _ _ => r = r' ∧ pr_rel now' n tn Sz Tc Fa' Pa Py' Mi' Me' Sr' Z' Ki He Do Tx La LT pk pv pn tc)) := by
  obtain ⟨mi, hmi, h3⟩ := (pr_rel_iff.mp H).1.2.2.1
  unfold wp_X6_run wp_X7_run
  by_cases hp : 1 ≤ p1 ∧ p1 ≤ 60
  · obtain ⟨m, hm, rfl⟩ := pn_k (x := p1) (m := 60) (by decide) ⟨by grind, hp.2⟩
    refine pw6T hp (pb1' (pt_weigh H (fun ri sk' hri => ?_)))
    have L6 : ∀ (Q : Int32 → (Nat → Int32) → (Nat → Int32) → (Nat → Int32) → Int32 → Int32 → Int32 → Int32 → Int32 → Int32 → (Nat → Int32) → Prop) (w i : Nat) (now : Nat → Int32) (mi : Nat) (Fa Py Mi Me Sr Z : Int32) (le la sk : Nat → Int32), pr_rel now n tn Sz Tc Fa Pa Py Mi Me Sr Z Ki He Do Tx La LT pk pv pn tc → (∀ i, i < n → ri i = pr_risk now tn i) → now 3 = nI mi → mi + w ≤ 9999 → i + w ≤ m → (i + w = m ∨ mi + w = 9999) →
        (∀ le la Fa' Py' Mi' Me' Sr' Z' sk', pr_rel (pb_many n tn w now) n tn Sz Tc Fa' Pa Py' Mi' Me' Sr' Z' Ki He Do Tx La LT pk pv pn tc → Q (nI (i + w)) ri le la Fa' Py' Mi' Me' Sr' Z' sk') → lp_X6_run_26 (nI m) Sz Pa Ki He Do Tx La LT pn tc Q (w + 1) (nI i) ri le la Fa Py Mi Me Sr Z sk := by
      intro Q w
      induction w with
      | zero =>
        intro i now mi Fa Py Mi Me Sr Z le la sk H _ h3 _ _ hor hq
        show lp_X6_run_26F (nI m) Sz Pa Ki He Do Tx La LT pn tc Q _ (nI i) ri le la Fa Py Mi Me Sr Z sk
        unfold lp_X6_run_26F
        have s5 := (pr_rel_iff.mp H).2.1.2.2.2.2.1
        refine ⟨fun _ => hq _ _ _ _ _ _ _ _ _ H, fun z => ⟨fun _ => hq _ _ _ _ _ _ _ _ _ H, fun z2 => ?_⟩⟩
        rw [s5, h3] at z2
        grind [pg_n]
      | succ w ih =>
        intro i now mi Fa Py Mi Me Sr Z le la sk H hri h3 hw hi hor hq
        show lp_X6_run_26F (nI m) Sz Pa Ki He Do Tx La LT pn tc Q (lp_X6_run_26 (nI m) Sz Pa Ki He Do Tx La LT pn tc Q (w + 1)) (nI i) ri le la Fa Py Mi Me Sr Z sk
        unfold lp_X6_run_26F
        have s5 := (pr_rel_iff.mp H).2.1.2.2.2.2.1
        refine pbF (by grind [pg_n]) (pbF (by rw [s5, h3]; grind [pg_n]) (sp_X6_best H hri h3 (by omega) (fun le la Fa' Py' Mi' Me' Sr' Z' sk' H' => ?_)))
        rw [pn_p1]
        refine ih (i + 1) (pb_row now n tn) (mi + 1) _ _ _ _ _ _ _ _ _ H' (fun i hi => by rw [pb_row_risk]; exact hri i hi) (by rw [pb_row_3, h3, pn_p1]) (by omega) (by omega) (by omega) (fun le la Fa' Py' Mi' Me' Sr' Z' sk' g => ?_)
        rw [show i + 1 + w = i + (w + 1) by omega]
        exact hq _ _ _ _ _ _ _ _ _ g
    have L7 : ∀ (Q : Int32 → (Nat → Int32) → (Nat → Int32) → (Nat → Int32) → (Nat → Int32) → (Nat → Int32) → (Nat → Int32) → (Nat → Int32) → Prop) (w i : Nat) (now : Nat → Int32) (mi : Nat) (lea lat bst rsk stk fct : Nat → Int32), (∀ v, v ≤ w → pr_ok (pb_many n tn v now) n tn) → now 3 = nI mi → mi + w ≤ 9999 → i + w ≤ m → (i + w = m ∨ mi + w = 9999) → (∀ lea lat bst rsk stk fct, Q (nI (i + w)) (pb_many n tn w now) lea lat bst rsk stk fct) → lp_X7_run_15 (nI m) Q (w + 1) (nI i) now lea lat bst rsk stk fct := by
      intro Q w
      induction w with
      | zero =>
        intro i now mi lea lat bst rsk stk fct _ h3 _ _ hor hq
        show lp_X7_run_15F (nI m) Q _ (nI i) now lea lat bst rsk stk fct
        unfold lp_X7_run_15F
        refine ⟨fun _ => hq _ _ _ _ _ _, fun z => ⟨fun _ => hq _ _ _ _ _ _, fun z2 => ?_⟩⟩
        rw [h3] at z2
        grind [pg_n]
      | succ w ih =>
        intro i now mi lea lat bst rsk stk fct hok h3 hw hi hor hq
        show lp_X7_run_15F (nI m) Q (lp_X7_run_15 (nI m) Q (w + 1)) (nI i) now lea lat bst rsk stk fct
        unfold lp_X7_run_15F
        refine pbF (by grind [pg_n]) (pbF (by rw [h3]; grind [pg_n]) (sp_X7_best (hok 0 (by omega)) (fun lea lat bst rsk stk fct => ?_)))
        rw [pn_p1]
        refine ih (i + 1) (pb_row now n tn) (mi + 1) _ _ _ _ _ _ (fun v hv => hok (v + 1) (by omega)) (by rw [pb_row_3, h3, pn_p1]) (by omega) (by omega) (by omega) (fun lea lat bst rsk stk fct => ?_)
        rw [show i + 1 + w = i + (w + 1) by omega]
        exact hq _ _ _ _ _ _
    have okn : ∀ v (now : Nat → Int32) (mi : Nat) (Fa Py Mi Me Sr Z : Int32), pr_rel now n tn Sz Tc Fa Pa Py Mi Me Sr Z Ki He Do Tx La LT pk pv pn tc → now 3 = nI mi → mi + v ≤ 9999 → pr_ok (pb_many n tn v now) n tn := by
      intro v
      induction v with
      | zero => intro now mi Fa Py Mi Me Sr Z H _ _; exact H.1
      | succ v ih =>
        intro now mi Fa Py Mi Me Sr Z H h3 hv
        exact ih (pb_row now n tn) (mi + 1) _ _ _ _ _ _ (pm_rel H h3 (by omega)) (by rw [pb_row_3, h3, pn_p1]) (by omega)
    refine ⟨min m (9999 - mi) + 1, ?_⟩
    refine L6 _ (min m (9999 - mi)) 0 now mi Fa Py Mi Me Sr Z Le Lt sk' H hri h3 (by omega) (by omega) (by omega) (fun le la Fa' Py' Mi' Me' Sr' Z' sk' H' => ?_)
    refine pw7T hp (pb1' ⟨min m (9999 - mi) + 1, L7 _ (min m (9999 - mi)) 0 now mi lea lat bst rsk stk fct (fun v hv => okn v now mi _ _ _ _ _ _ H h3 (by omega)) h3 (by omega) (by omega) (by omega) (fun _ _ _ _ _ _ => ⟨rfl, H'⟩)⟩)
  · exact pw6F hp (pb0' (pw7F hp (pb0' ⟨rfl, H⟩)))
theorem j_tree (H : pr_rel now n tn Sz Tc Fa Pa Py Mi Me Sr Z Ki He Do Tx La LT pk pv pn tc) (p1 p2 p3 : Int32) (Ri Le Lt sk lea lat bst rsk stk fct : Nat → Int32) : wp_X6_tree p1 p2 p3 Ri Le Lt Sz Fa Pa Ki He Do Tx La sk LT pn tc (fun r _ _ _ _ => wp_X7_tree p1 p2 p3 now lea lat bst rsk stk fct (fun r' _ _ _ _ _ _ => r = r')) := by
  have hok : pr_ok now n tn := H.1
  have hc := px_ctx hok
  obtain ⟨⟨b1, b2, b3, b4, b5⟩, ⟨s1, s2, s3, s4, s5, s6, s7, s8⟩, py, pl, hT⟩ := pr_rel_iff.mp H
  unfold wp_X6_tree wp_X7_tree
  by_cases hp : ∃ p, p < n ∧ p1 = nI p
  · obtain ⟨p, hp, rfl⟩ := hp
    refine ph6T hp (by omega) (by rw [s1, b2]) (pb1 ?_)
    by_cases h2 : 1 ≤ p2 ∧ p2 ≤ 60
    · obtain ⟨m, hm, rfl⟩ := pn_k (x := p2) (m := 60) (by decide) ⟨by grind, h2.2⟩
      have hm1 : 1 ≤ m := by have := h2.1; grind [pg_n]
      refine pw6T h2 (pb1 ?_)
      by_cases h3 : 0 ≤ p3 ∧ p3 ≤ 1
      · refine pw6T h3 (pb1' (pt_weigh H (fun ri sk' hri => ?_)))
        refine sp_X5_grow hc hT b1 (by rw [s1, b2]) s3 s4 (fun i hi => (pr_pl_at pl hi).2.2) (fun i hi => by rw [hri i hi]; exact hc.1 i hi) ⟨hm1, hm⟩ (fun le la sk' g1 g2 => ?_)
        by_cases h4 : p3 = 0
        · refine pbT' h4 ⟨pn_in (by omega) (by decide), ph7T hp (by omega) b2 (pb1 (pw7T h2 (pb1 (pw7T h3 (pb1' (sp_X7_findTree hc hok ⟨hm1, hm⟩ (fun lea lat bst rsk stk fct k1 k2 => pbT' h4 ⟨pn_in (by omega) (by decide), ?_⟩)))))))⟩
          rw [pn_cl (by omega), g1 p hp, k1 p hp]
        · refine pbF' h4 (sp_X5_bestStep (f := px_v now n tn m (m - 1)) (dn := px_dn now) hp b1 (by rw [s1, b2]) g2 (fun i _ => px_v_lt hok (by omega)) (by unfold px_dn; rw [(pr_pl_at pl hp).2.2]) ?_)
          refine ph7T hp (by omega) b2 (pb1 (pw7T h2 (pb1 (pw7T h3 (pb1' (sp_X7_findTree hc hok ⟨hm1, hm⟩ (fun lea lat bst rsk stk fct k1 k2 => pbF' h4 ⟨pn_in (by omega) (by decide), ?_⟩)))))))
          rw [pn_cl (by omega), k2 p hp]
          rfl
      · exact pw6F h3 (pb0' (ph7T hp (by omega) b2 (pb1 (pw7T h2 (pb1 (pw7F h3 (pb0' rfl)))))))
    · exact pw6F h2 (pb0 (ph7T hp (by omega) b2 (pb1 (pw7F h2 (pb0 rfl)))))
  · exact ph6F hp (by omega) (by rw [s1, b2]) (pb0 (ph7F hp (by omega) b2 (pb0 rfl)))
end
