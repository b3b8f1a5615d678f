/-! PURE: minutes -/
def pm_d (now : Nat → Int32) (tn : Nat) : Int32 := if now 2 < 0 then 0 else pr_risk now tn (now 2).toNatClampNeg * pr_odds now tn 0
def pm_a (now : Nat → Int32) (n tn s : Nat) : Nat → Int32 := if now 2 < 0 then now else
  upd (upd (upd (upd now 6 (now 6 + pm_d now tn)) 0 (pr_z (now 0))) 7 (now 7 + (if pm_d now tn ≤ rc_rem (pr_d (now 0)) 10000 then 0 else 1))) 2 (pt_mI (pt_go n (now 2).toNatClampNeg s))
def pm_row (now : Nat → Int32) (n tn s : Nat) : Nat → Int32 := upd (upd (pm_a now n tn s) 4 (pr_far now 1)) 3 (now 3 + 1)
section
variable {now : Nat → Int32} {n tn : Nat} {Sz Tc Fa Pa Py Mi Me Sr Z : Int32} {Ki He Do : Nat → Int32} {Tx : Nat → Option Nat} {La : Nat → Int32} {LT : List Nat} {pk pv : Nat → Int32} {pn : Nat → Nat} {tc : Nat → Nat → Int32}
theorem pm_a_far (s : Nat) (t : Int32) : pr_far (pm_a now n tn s) t = pr_far now t := by
  unfold pr_far pm_a
  split
  · rfl
  · rw [pn_upd_ne (by decide), pn_upd_ne (by decide), pn_upd_ne (by decide), pn_upd_ne (by decide), pn_upd_ne (by decide), pn_upd_ne (by decide), pn_upd_ne (by decide), pn_upd_ne (by decide)]
theorem pm_a_3 (s : Nat) : pm_a now n tn s 3 = now 3 := by
  unfold pm_a
  split
  · rfl
  · rw [pn_upd_ne (by decide), pn_upd_ne (by decide), pn_upd_ne (by decide), pn_upd_ne (by decide)]
theorem pm_row_hi (s : Nat) {k : Nat} (hk : k = 1 ∨ k = 5 ∨ 8 ≤ k) : pm_row now n tn s k = now k := by
  unfold pm_row pm_a
  rw [pn_upd_ne (by omega), pn_upd_ne (by omega)]
  split
  · rfl
  · rw [pn_upd_ne (by omega), pn_upd_ne (by omega), pn_upd_ne (by omega), pn_upd_ne (by omega)]
theorem pm_row_3 (s : Nat) : pm_row now n tn s 3 = now 3 + 1 := by unfold pm_row; exact pn_upd_self
theorem pm_row_risk (s p : Nat) : pr_risk (pm_row now n tn s) tn p = pr_risk now tn p := by
  have e : ∀ k, 81 ≤ k → pm_row now n tn s k = now k := fun k hk => pm_row_hi s (by omega)
  unfold pr_risk pr_plain pr_law pe_val
  rw [pr_ct_cong e, pm_row_hi s (by omega), pm_row_hi s (by omega), e _ (by omega)]
  rw [show (fun j => pm_row now n tn s (109 + 96 * (pr_ct now 0 tn).toNatClampNeg + j)) = (fun j => now (109 + 96 * (pr_ct now 0 tn).toNatClampNeg + j)) from funext (fun j => e _ (by omega))]
theorem pt_go_cI {o : Option Nat} (h : ∀ q, o = some q → q < n) : (pt_mI o = -1 ∧ pt_cI o = -1000000005) ∨ ∃ p, p < n ∧ pt_mI o = nI p ∧ pt_cI o = nI p := by
  cases o with
  | none => exact Or.inl ⟨rfl, rfl⟩
  | some q => exact Or.inr ⟨q, h q rfl, rfl, rfl⟩
theorem sp_X7_aMinute {s : Nat} {stk fct : Nat → Int32} {Q : Int32 → (Nat → Int32) → (Nat → Int32) → (Nat → Int32) → Prop} (hok : pr_ok now n tn) (hs : s < 4) (hq : ∀ stk fct, Q (pm_d now tn) (pm_row now n tn s) stk fct) : wp_X7_aMinute (nI s) now stk fct Q := by
  have hM := hok.M
  obtain ⟨hn, ht, h1, h8, hpl, hpy, -⟩ := hok
  unfold wp_X7_aMinute
  rcases hpy with e | ⟨p, hp, e⟩
  · rw [e]
    refine pbF (by decide) ?_
    unfold jp_X7_aMinute_26
    refine pbT (by decide) ?_
    unfold jp_X7_aMinute_81
    refine sp_X7_farOn ?_
    have hq := hq stk fct
    unfold pm_d pm_row pm_a at hq
    rw [e, if_pos (by decide)] at hq
    rw [if_pos (by decide)] at hq
    rw [pn_upd_ne (by decide)]
    exact hq
  · rw [e]
    have hneg : ¬ nI p < 0 := nI_pos (by omega)
    obtain ⟨k, h, d, q1, q2, q3, q4, q5, q6⟩ := hpl p hp
    refine pbT (by grind [pg_n]) (sp_X7_risk hM (by omega) q2 q5 (fun stk' fct' => sp_X7_odds hM (fun stk'' fct'' => ?_)))
    have hd : pr_risk now tn p * pr_odds now tn 0 = pm_d now tn := by
      unfold pm_d
      rw [e, if_neg hneg, pn_cl (by omega)]
    rw [hd]
    unfold jp_X7_aMinute_26
    refine pbF hneg (sp_X7_draw ?_)
    rw [pn_upd_ne (show (0 : Nat) ≠ 6 by decide), pn_upd_ne (show (7 : Nat) ≠ 6 by decide)]
    have fin : ∀ b : Int32, (if pm_d now tn ≤ rc_rem (pr_d (now 0)) 10000 then 0 else 1) = b → jp_X7_aMinute_67 (nI s) Q (nI p) (pm_d now tn) b (now 7) 7 (upd (upd now 6 (now 6 + pm_d now tn)) 0 (pr_z (now 0))) stk'' fct'' := by
      intro b hb
      unfold jp_X7_aMinute_67
      refine ⟨pn_in (a := 7) (by decide) (by decide), ?_⟩
      rw [show (7 : Int32).toNatClampNeg = 7 from rfl]
      refine sp_X7_goes hp hn hs ?_ ?_
      · rw [pn_upd_ne (by decide), pn_upd_ne (by decide), pn_upd_ne (by decide)]; exact h1
      · unfold jp_X7_aMinute_81
        have ea : upd (upd (upd (upd now 6 (now 6 + pm_d now tn)) 0 (pr_z (now 0))) 7 (now 7 + b)) 2 (pt_mI (pt_go n p s)) = pm_a now n tn s := by
          unfold pm_a
          rw [e, if_neg hneg, hb, pn_cl (by omega)]
        rw [ea]
        refine sp_X7_farOn ?_
        rw [pm_a_far, pn_upd_ne (by decide), pm_a_3]
        exact hq _ _
    refine ⟨fun z => fin 0 (if_pos z), fun z => fin 1 (if_neg z)⟩
theorem pm_rel {s : Nat} {mi : Nat} (H : pr_rel now n tn Sz Tc Fa Pa Py Mi Me Sr Z Ki He Do Tx La LT pk pv pn tc) (h3 : now 3 = nI mi) (hm : mi < 9999) : pr_rel (pm_row now n tn s) n tn Sz Tc (pr_far now 1) Pa (if now 2 < 0 then -1000000005 else pt_cI (pt_go n (now 2).toNatClampNeg s)) (Mi + 1) (Me + pm_d now tn) (if now 2 < 0 then Sr else Sr + (if pm_d now tn ≤ rc_rem (pr_d (now 0)) 10000 then 0 else 1)) (if now 2 < 0 then Z else pr_z Z) Ki He Do Tx La LT pk pv pn tc := by
  obtain ⟨⟨b1, b2, b3, b4, b5⟩, ⟨s1, s2, s3, s4, s5, s6, s7, s8⟩, py, pl, hT⟩ := pr_rel_iff.mp H
  have hi : ∀ k, (k = 1 ∨ k = 5 ∨ 8 ≤ k) → pm_row now n tn s k = now k := fun k hk => pm_row_hi s hk
  obtain ⟨j, hj, ej⟩ := pr_far_nI now 1
  refine pr_rel_iff.mpr ⟨⟨b1, ?_, ⟨mi + 1, by omega, by rw [pm_row_3, h3, pn_p1]⟩, ⟨j, hj, ?_⟩, ?_⟩, ⟨?_, ?_, ?_, ?_, ?_, ?_, ?_, ?_⟩, ?_, pr_pl_cong (fun k hk _ => hi k (by omega)) pl, pr_T_cong (fun k hk => hi k (by omega)) hT⟩
  · rw [hi _ (by decide)]; exact b2
  · rw [← ej]; unfold pm_row; rw [pn_upd_ne (by decide), pn_upd_self]
  · rw [hi _ (by decide)]; exact b5
  · rw [hi _ (by decide)]; exact s1
  · rw [hi _ (by decide)]; exact s2
  · unfold pm_row; rw [pn_upd_ne (by decide), pn_upd_self]
  · rw [hi _ (by decide)]; exact s4
  · rw [pm_row_3, s5]
  · unfold pm_row pm_a
    rw [pn_upd_ne (by decide), pn_upd_ne (by decide)]
    by_cases h : now 2 < 0
    · rw [if_pos h, s6]
      unfold pm_d
      rw [if_pos h]
      grind
    · rw [if_neg h, pn_upd_ne (by decide), pn_upd_ne (by decide), pn_upd_ne (by decide), pn_upd_self, s6]
  · unfold pm_row pm_a
    rw [pn_upd_ne (by decide), pn_upd_ne (by decide)]
    by_cases h : now 2 < 0
    · rw [if_pos h, if_pos h, s7]
    · rw [if_neg h, if_neg h, pn_upd_ne (by decide), pn_upd_self, s7]
  · unfold pm_row pm_a
    rw [pn_upd_ne (by decide), pn_upd_ne (by decide)]
    by_cases h : now 2 < 0
    · rw [if_pos h, if_pos h, s8]
    · rw [if_neg h, if_neg h, pn_upd_ne (by decide), pn_upd_ne (by decide), pn_upd_self, s8]
  · unfold pr_py pm_row pm_a
    rw [pn_upd_ne (by decide), pn_upd_ne (by decide)]
    rcases py with ⟨e1, e2⟩ | ⟨p, hp, e1, e2⟩
    · have h : now 2 < 0 := by rw [e1]; decide
      rw [if_pos h, if_pos h]
      exact Or.inl ⟨e1, rfl⟩
    · have h : ¬ now 2 < 0 := by rw [e1]; exact nI_pos (by omega)
      rw [if_neg h, if_neg h, pn_upd_self, e1, pn_cl (by omega)]
      exact pt_go_cI (fun q hq => pt_go_lt hp hq)
theorem sp_X1_passMinute {s mi : Nat} {sk : Nat → Int32} {Q : Int32 → Int32 → Int32 → Int32 → Int32 → Int32 → Int32 → (Nat → Int32) → Prop} (H : pr_rel now n tn Sz Tc Fa Pa Py Mi Me Sr Z Ki He Do Tx La LT pk pv pn tc) (hs : s < 4) (h3 : now 3 = nI mi) (hm : mi < 9999)
    (hq : ∀ Fa' Py' Mi' Me' Sr' Z' sk', pr_rel (pm_row now n tn s) n tn Sz Tc Fa' Pa Py' Mi' Me' Sr' Z' Ki He Do Tx La LT pk pv pn tc → Q (pm_d now tn) Fa' Py' Mi' Me' Sr' Z' sk') : wp_X1_passMinute (nI s) Sz Fa Pa Py Mi Me Sr Z Ki He Tx La sk LT pn tc Q := by
  have HR := pm_rel (s := s) H h3 hm
  obtain ⟨⟨b1, b2, b3, b4, b5⟩, ⟨s1, s2, s3, s4, s5, s6, s7, s8⟩, py, pl, hT⟩ := pr_rel_iff.mp H
  unfold wp_X1_passMinute
  rcases py with ⟨e1, e2⟩ | ⟨p, hp, e1, e2⟩
  · have h : now 2 < 0 := by rw [e1]; decide
    have hd : pm_d now tn = 0 := by unfold pm_d; rw [if_pos h]
    rw [if_pos h, if_pos h, if_pos h, hd, show Me + 0 = Me from by grind] at HR
    rw [hd] at hq
    rw [e2]
    refine ph6F (n := n) ?_ (by omega) (by rw [s1, b2]) (pb0 ?_)
    · rintro ⟨p, hp, e⟩
      grind [pg_n]
    · unfold jp_X1_passMinute_73
      exact sp_X1_farIn s3 s4 (hq _ _ _ _ _ _ _ HR)
  · have h : ¬ now 2 < 0 := by rw [e1]; exact nI_pos (by omega)
    rw [if_neg h, if_neg h, if_neg h] at HR
    rw [e2]
    obtain ⟨k, hh, d, q1, q2, q3, q4, q5, q6, q7, q8, q9⟩ := pl p hp
    have hd : pr_risk now tn p * pr_odds now tn 0 = pm_d now tn := by
      unfold pm_d
      rw [e1, if_neg (nI_pos (by omega)), pn_cl (by omega)]
    refine ph6T hp (by omega) (by rw [s1, b2]) (pb1 (sp_X1_risk hT (by omega) (by rw [q7, q4]) (by rw [q8, q5]) (fun sk' => sp_X1_odds hT s3 s4 (fun sk'' => sp_X1_draw ?_))))
    rw [hd, s8]
    rw [e1, pn_cl (by omega), s8] at HR
    unfold jp_X1_passMinute_73
    refine ⟨fun z => ?_, fun z => ?_⟩
    · rw [if_pos z, show Sr + 0 = Sr from by grind] at HR
      exact sp_X1_behindStep hp b1 hs (by rw [s1, b2]) (sp_X1_farIn s3 s4 (hq _ _ _ _ _ _ _ HR))
    · rw [if_neg z] at HR
      exact sp_X1_behindStep hp b1 hs (by rw [s1, b2]) (sp_X1_farIn s3 s4 (hq _ _ _ _ _ _ _ HR))
theorem j_step (H : pr_rel now n tn Sz Tc Fa Pa Py Mi Me Sr Z Ki He Do Tx La LT pk pv pn tc) (p1 : Int32) (sk stk fct : Nat → Int32) : wp_X6_step p1 Sz Fa Pa Py Mi Me Sr Z Ki He Do Tx La sk LT pn tc (fun r Fa' Py' Mi' Me' Sr' Z' _ => wp_X7_step p1 now stk fct (fun r' now' _ _ => r = r' ∧ pr_rel now' n tn Sz Tc Fa' Pa Py' Mi' Me' Sr' Z' Ki He Do Tx La LT pk pv pn tc)) := by
  obtain ⟨⟨b1, b2, b3, b4, b5⟩, ⟨s1, s2, s3, s4, s5, s6, s7, s8⟩, py, pl, hT⟩ := pr_rel_iff.mp H
  have hok : pr_ok now n tn := H.1
  unfold wp_X6_step wp_X7_step
  by_cases hs : 0 ≤ p1 ∧ p1 ≤ 3
  · refine pw6T hs (pb1' ?_)
    obtain ⟨s, hs3, rfl⟩ := pn_k (m := 3) (by decide) hs
    obtain ⟨mi, hmi, h3⟩ := b3
    have go : (∀ K : Int32 → Prop, K 1 → wp_X7_may (now 2) (nI s) now K) → (Mi < 9999 → wp_X1_passMinute (nI s) Sz Fa Pa Py Mi Me Sr Z Ki He Tx La sk LT pn tc (fun r Fa' Py' Mi' Me' Sr' Z' _ => wp_X7_in (nI s) 0 3 (fun r_1 => ((¬ r_1 = 0 → wp_X7_may (now 2) (nI s) now (fun r_3 => ((¬ r_3 = 0 → ((¬ (now 3) = 9999 → wp_X7_aMinute (nI s) now stk fct (fun r_6 w_7 w_8 w_9 => r = r_6 ∧ pr_rel w_7 n tn Sz Tc Fa' Pa Py' Mi' Me' Sr' Z' Ki He Do Tx La LT pk pv pn tc)) ∧ ((now 3) = 9999 → r = (-1000000003) ∧ pr_rel now n tn Sz Tc Fa' Pa Py' Mi' Me' Sr' Z' Ki He Do Tx La LT pk pv pn tc))) ∧ (r_3 = 0 → r = (-1000000002) ∧ pr_rel now n tn Sz Tc Fa' Pa Py' Mi' Me' Sr' Z' Ki He Do Tx La LT pk pv pn tc)))) ∧ (r_1 = 0 → r = (-1000000001) ∧ pr_rel now n tn Sz Tc Fa' Pa Py' Mi' Me' Sr' Z' Ki He Do Tx La LT pk pv pn tc))))) ∧ (¬ Mi < 9999 → wp_X7_in (nI s) 0 3 (fun r_1 => ((¬ r_1 = 0 → wp_X7_may (now 2) (nI s) now (fun r_3 => ((¬ r_3 = 0 → ((¬ (now 3) = 9999 → wp_X7_aMinute (nI s) now stk fct (fun r_6 w_7 w_8 w_9 => (-1000000003) = r_6 ∧ pr_rel w_7 n tn Sz Tc Fa Pa Py Mi Me Sr Z Ki He Do Tx La LT pk pv pn tc)) ∧ ((now 3) = 9999 → (-1000000003 : Int32) = (-1000000003) ∧ pr_rel now n tn Sz Tc Fa Pa Py Mi Me Sr Z Ki He Do Tx La LT pk pv pn tc))) ∧ (r_3 = 0 → (-1000000003 : Int32) = (-1000000002) ∧ pr_rel now n tn Sz Tc Fa Pa Py Mi Me Sr Z Ki He Do Tx La LT pk pv pn tc)))) ∧ (r_1 = 0 → (-1000000003 : Int32) = (-1000000001) ∧ pr_rel now n tn Sz Tc Fa Pa Py Mi Me Sr Z Ki He Do Tx La LT pk pv pn tc)))) := by
      intro hmay
      rw [s5, h3]
      by_cases hm : mi < 9999
      · refine pbT (by grind [pg_n]) ?_
        rw [← h3, ← s5]
        refine sp_X1_passMinute H (by omega) h3 hm (fun Fa' Py' Mi' Me' Sr' Z' sk' H' => pw7T hs (pb1' (hmay _ (pb1' ?_))))
        refine pbF' (by rw [s5, h3]; grind [pg_n]) (sp_X7_aMinute hok (by omega) (fun _ _ => ⟨rfl, H'⟩))
      · obtain rfl : mi = 9999 := by omega
        exact pbF (by decide) (pw7T hs (pb1' (hmay _ (pb1' (pbT' rfl ⟨rfl, by rw [← h3, ← s5]; exact H⟩)))))
    rcases py with ⟨e1, e2⟩ | ⟨p, hp, e1, e2⟩
    · unfold wp_X1_mayStep
      have hno : ¬ ∃ p, p < n ∧ Py = nI p := by
        rintro ⟨p, hp, e⟩
        rw [e2] at e
        grind [pg_n]
      refine ph6F hno (by omega) (by rw [s1, b2]) (pb0' ?_)
      by_cases h2 : nI s = 2
      · refine pbT' h2 (pb1' (go (fun K hK => ?_)))
        unfold wp_X7_may
        rw [e1]
        exact pbF (by decide) (pbT' h2 hK)
      · refine pbF' h2 (pb0' (pw7T hs (pb1' ?_)))
        unfold wp_X7_may
        rw [e1]
        exact pbF (by decide) (pbF' h2 (pb0' ⟨rfl, H⟩))
    · obtain ⟨k, hh, d, q1, q2, q3, q4, q5, q6, q7, q8, q9⟩ := pl p hp
      rw [e2]
      have hdn : decide (now (9 + 3 * p + 2) = 1) = decide (Do p = 1) := by rw [q6, q9]
      refine sp_X1_mayStep (dn := fun p => decide (now (9 + 3 * p + 2) = 1)) hp b1 (by omega) (by rw [s1, b2]) hdn (fun hy => pb1' ?_) (fun g1 g2 => pb0' (pw7T hs (pb1' ?_)))
      · rw [← e2]
        refine go (fun K hK => ?_)
        rw [e1]
        refine sp_X7_may (dn := fun p => decide (now (9 + 3 * p + 2) = 1)) (by omega) (by omega) rfl (fun _ => hK) (fun a1 a2 => ?_)
        rcases hy with hy | hy
        · exact absurd a1 hy
        · rw [a2] at hy; cases hy
      · rw [e1]
        refine sp_X7_may (dn := fun p => decide (now (9 + 3 * p + 2) = 1)) (by omega) (by omega) rfl (fun hy => ?_) (fun _ _ => pb0' ⟨rfl, by rw [← e2]; exact H⟩)
        rcases hy with hy | hy
        · exact absurd g1 hy
        · rw [g2] at hy; cases hy
  · exact pw6F hs (pb0' (pw7F hs (pb0' ⟨rfl, H⟩)))
end
