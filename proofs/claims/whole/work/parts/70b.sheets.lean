/-! PURE: sheets -/
/-- a sheet of the class and of the reference -/
def ps_rel (s : Nat) (So Sz : Int32) (Vl Sor Siz Cel : Nat → Int32) : Prop := So = Sor s ∧ Sz = Siz s ∧ (So = -1 ∨ So = 0 ∨ So = 1) ∧ (∃ z, z ≤ 24 ∧ Sz = nI z) ∧ ∀ k, k < 24 → Vl k = Cel (24 * s + k)
/-- a sheet that stays -/
def ps_st (s : Nat) (Sor Siz Cel Sor' Siz' Cel' : Nat → Int32) : Prop := Sor' s = Sor s ∧ Siz' s = Siz s ∧ ∀ k, k < 24 → Cel' (24 * s + k) = Cel (24 * s + k)
theorem ps_cong {s : Nat} {So Sz : Int32} {Vl Sor Siz Cel Sor' Siz' Cel' : Nat → Int32} (h : ps_rel s So Sz Vl Sor Siz Cel) (hs : ps_st s Sor Siz Cel Sor' Siz' Cel') : ps_rel s So Sz Vl Sor' Siz' Cel' := by
  obtain ⟨h1, h2, h3, h4, h5⟩ := h
  obtain ⟨g1, g2, g3⟩ := hs
  exact ⟨by rw [g1]; exact h1, by rw [g2]; exact h2, h3, h4, fun k hk => by rw [g3 k hk]; exact h5 k hk⟩
theorem ps_refl (s : Nat) (Sor Siz Cel : Nat → Int32) : ps_st s Sor Siz Cel Sor Siz Cel := ⟨rfl, rfl, fun _ _ => rfl⟩
theorem psT {s : Nat} {Q : Int32 → Prop} (hs : s < 4) (hq : Q 1) : wp_X6_isSheet (nI s) Q := by
  unfold wp_X6_isSheet
  exact pbF (nI_pos (by omega)) (pbF (by grind [pg_n]) hq)
theorem psF {x : Int32} {Q : Int32 → Prop} (h : ¬ (0 ≤ x ∧ x ≤ 3)) (hq : Q 0) : wp_X6_isSheet x Q := by
  unfold wp_X6_isSheet
  exact ⟨fun _ => hq, fun _ => ⟨fun _ => hq, fun z => absurd h (by grind)⟩⟩
theorem psT7 {s : Nat} {Q : Int32 → Prop} (hs : s < 4) (hq : Q 1) : wp_X7_isSheet (nI s) Q := by
  unfold wp_X7_isSheet
  exact pw7T (by grind [pg_n]) ⟨pn_b1, hq⟩
theorem psF7 {x : Int32} {Q : Int32 → Prop} (h : ¬ (0 ≤ x ∧ x ≤ 3)) (hq : Q 0) : wp_X7_isSheet x Q := by
  unfold wp_X7_isSheet
  exact pw7F h ⟨pn_b0, hq⟩
/-- x is sheet s, or none -/
def ps_is (s : Nat) (x : Int32) : Prop := s < 4 ∧ (x = nI s ∨ ¬ (0 ≤ x ∧ x ≤ 3))
theorem ps_ex (x : Int32) : ∃ s, ps_is s x := by
  by_cases h : 0 ≤ x ∧ x ≤ 3
  · obtain ⟨k, hk, rfl⟩ := pn_k (m := 3) (by decide) h
    exact ⟨k, by omega, Or.inl rfl⟩
  · exact ⟨0, by omega, Or.inr h⟩
theorem sp_missT {Q : Int32 → Prop} {So : Int32} (h : So = -1) (hq : Q 1) : wp_X2_isMissing So Q := by
  unfold wp_X2_isMissing
  exact pbT' h hq
theorem sp_missF {Q : Int32 → Prop} {So : Int32} (h : ¬ So = -1) (hq : Q 0) : wp_X2_isMissing So Q := by
  unfold wp_X2_isMissing
  exact pbF' h hq
section
variable {s : Nat} {So Sz : Int32} {Vl Sor Siz Cel : Nat → Int32} {Sh : Nat → Option Nat} {wo : Nat}
theorem ps_sor (h : So = -1 ∨ So = 0 ∨ So = 1) (hn : ¬ So = -1) : 0 ≤ So ∧ ¬ So < 0 := by
  rcases h with h | h | h
  · exact absurd h hn
  · rw [h]; decide
  · rw [h]; decide
theorem sp_X7_claps {z : Nat} {p2 FC LC Cg : Int32} {Q : Int32 → Int32 → Int32 → Int32 → Prop} (hs : s < 4) (hz : z ≤ 24) (h2 : 0 ≤ p2 ∧ p2 ≤ 3) (m1 : 0 ≤ Sor s) (g4 : Siz s = nI z) (g5 : ∀ k, k < 24 → Vl k = Cel (24 * s + k)) (hn : pq_st Vl z = (none, 0) → ∀ a b c, Q (-1000000005) a b c)
    (hq : ∀ f l c, pq_st Vl z = (some (f, l), c) → (p2 = 0 → Q (Vl l / 3) (nI f) (nI l) c) ∧ (p2 = 1 → Q c (nI f) (nI l) c) ∧ (p2 = 2 → Q (pq_p (fun p => pq_d Vl f p z) 18) (nI f) (nI l) c) ∧ (¬ p2 = 0 ∧ ¬ p2 = 1 ∧ ¬ p2 = 2 → Q (pq_d Vl f (pq_p (fun p => pq_d Vl f p z) 18) z) (nI f) (nI l) c)) : wp_X7_claps (nI s) p2 FC LC Cg Sor Siz Cel Q := by
  have hin : vp_in (nI s) 4 := pn_in hs (by decide)
  unfold wp_X7_claps
  refine psT7 hs (pb1 (pw7T h2 (pb1' ⟨hin, ?_⟩)))
  rw [pn_cl (by omega)]
  refine pbT m1 (sp_X7_findClaps hs hz g4 g5 (fun e a b c => pb0' (hn e a b c)) (fun f l c e => pb1' ?_))
  obtain ⟨q0, q1, q2, q3⟩ := hq f l c e
  rcases pq_inv Vl z with ⟨e2, _⟩ | ⟨f2, l2, c2, e2, k1, k2, k3, k4, k5, k6⟩
  · rw [e] at e2; cases e2
  · rw [e] at e2
    cases e2
    refine sp_X7_pace hs hz g5 k1 k2 k6 ⟨fun n0 => ⟨fun n1 => ⟨fun n2 => sp_X7_offBy hs hz g5 k1 k2 k6 (q3 ⟨n0, n1, n2⟩), q2⟩, q1⟩, fun e0 => ?_⟩
    rw [pn_ixs, pn_cl (by omega), ← g5 l (by omega)]
    exact ⟨pn_in (by omega) (by decide), q0 e0⟩
theorem j_claps (p1 p2 FC LC Cg : Int32) (hi : ps_is s p1) (h : ps_rel s So Sz Vl Sor Siz Cel) (hw : Sh s = some wo) : wp_X6_claps p1 p2 Sh So Sz Vl wo (fun r => wp_X7_claps p1 p2 FC LC Cg Sor Siz Cel (fun r' _ _ _ => r = r')) := by
  obtain ⟨hs, hi⟩ := hi
  obtain ⟨g1, g2, g3, ⟨z, hz, g4⟩, g5⟩ := h
  unfold wp_X6_claps
  rcases hi with rfl | hi
  · have hin : vp_in (nI s) 4 := pn_in hs (by decide)
    refine psT hs (pb1 ?_)
    by_cases h2 : 0 ≤ p2 ∧ p2 ≤ 3
    · refine pw6T h2 (pb1' ⟨hin, by rw [pn_cl (by omega)]; exact hw, ?_⟩)
      by_cases hm : So = -1
      · refine sp_missT hm (pb1 ?_)
        unfold wp_X7_claps
        refine psT7 hs (pb1 (pw7T h2 (pb1' ⟨hin, pbF ?_ rfl⟩)))
        rw [pn_cl (by omega), ← g1, hm]; decide
      · obtain ⟨m1, m2⟩ := ps_sor g3 hm
        rw [g1] at m1
        have g4' : Siz s = nI z := by rw [← g2]; exact g4
        refine sp_missF hm (pb0 ?_)
        rcases pq_inv Vl z with ⟨e2, en⟩ | ⟨f, l, c, e2, k1, k2, k3, k4, k5, k6⟩
        · refine sp_X2_first hz g4 (fun _ => pbT' rfl ?_) (fun f hf hv _ => absurd (en f hf) hv)
          exact sp_X7_claps hs hz h2 m1 g4' g5 (fun _ _ _ _ => rfl) (fun f l c e => by rw [e2] at e; cases e)
        · refine sp_X2_first hz g4 (fun hn => absurd (hn f (by omega)) k3) (fun f' hf' hv' hb' => ?_)
          obtain rfl : f' = f := pq_f_u hv' hb' k3 k5
          refine pbF' (by grind [pg_n]) ⟨fun e0 => ?_, fun e1 => ?_, fun e0 => ?_, fun e0 => ?_⟩
          · refine sp_X2_howFar hz g4 e2 (sp_X7_claps hs hz h2 m1 g4' g5 (fun e => by rw [e2] at e; cases e) (fun f l c e => ?_))
            rw [e2] at e
            cases e
            exact ⟨fun _ => rfl, fun z => absurd (e0.symm.trans z) (by decide), fun z => absurd (e0.symm.trans z) (by decide), fun z => absurd e0 z.1⟩
          · refine sp_X2_comes hz g4 e2 k3 k5 (sp_X7_claps hs hz h2 m1 g4' g5 (fun e => by rw [e2] at e; cases e) (fun f l c e => ?_))
            rw [e2] at e
            cases e
            exact ⟨fun z => absurd (e1.symm.trans z) (by decide), fun _ => rfl, fun z => absurd (e1.symm.trans z) (by decide), fun z => absurd e1 z.2.1⟩
          · refine sp_X2_pace hz g4 (by omega) k3 k5 (sp_X7_claps hs hz h2 m1 g4' g5 (fun e => by rw [e2] at e; cases e) (fun f l c e => ?_))
            rw [e2] at e
            cases e
            exact ⟨fun z => absurd (e0.symm.trans z) (by decide), fun z => absurd (e0.symm.trans z) (by decide), fun _ => rfl, fun z => absurd e0 z.2.2⟩
          · refine sp_X2_pace hz g4 (by omega) k3 k5 (sp_X2_diff hz g4 (by omega) k3 k5 (sp_X7_claps hs hz h2 m1 g4' g5 (fun e => by rw [e2] at e; cases e) (fun f l c e => ?_)))
            rw [e2] at e
            cases e
            exact ⟨fun z => absurd z e0.1, fun z => absurd z e0.2.1, fun z => absurd z e0.2.2, fun _ => rfl⟩
    · refine pw6F h2 (pb0' ?_)
      unfold wp_X7_claps
      exact psT7 hs (pb1 (pw7F h2 (pb0' rfl)))
  · refine psF hi (pb0 ?_)
    unfold wp_X7_claps
    exact psF7 hi (pb0 rfl)
end
section
variable {now : Nat → Int32} {n tn : Nat} {rSz Tc Fa Pa Py Mi Me Sr Z : Int32} {Ki He Do : Nat → Int32} {Tx : Nat → Option Nat} {La : Nat → Int32} {LT : List Nat} {pk pv : Nat → Int32} {pn : Nat → Nat} {tc : Nat → Nat → Int32}
variable {s : Nat} {So Sz : Int32} {Vl Sor Siz Cel : Nat → Int32} {Sh : Nat → Option Nat} {wo : Nat}
theorem pr_set_fp (H : pr_rel now n tn rSz Tc Fa Pa Py Mi Me Sr Z Ki He Do Tx La LT pk pv pn tc) {x y : Int32} {a b : Nat} (ha : a ≤ 99) (hx : x = nI a) (hb : b ≤ 18) (hy : y = nI b - 9) : pr_rel (upd (upd now 4 x) 5 y) n tn rSz Tc x y Py Mi Me Sr Z Ki He Do Tx La LT pk pv pn tc := by
  obtain ⟨⟨b1, b2, b3, b4, b5⟩, ⟨s1, s2, s3, s4, s5, s6, s7, s8⟩, py, pl, hT⟩ := pr_rel_iff.mp H
  have e : ∀ k, k ≠ 4 → k ≠ 5 → upd (upd now 4 x) 5 y k = now k := fun k h4 h5 => by rw [pn_upd_ne h5, pn_upd_ne h4]
  have e5 : upd (upd now 4 x) 5 y 5 = y := pn_upd_self
  have e4 : upd (upd now 4 x) 5 y 4 = x := by rw [pn_upd_ne (by decide), pn_upd_self]
  refine pr_rel_iff.mpr ⟨⟨b1, ?_, ?_, ⟨a, ha, by rw [e4]; exact hx⟩, ⟨b, hb, by rw [e5]; exact hy⟩⟩, ⟨?_, ?_, e4.symm, e5.symm, ?_, ?_, ?_, ?_⟩, ?_, pr_pl_cong (fun j _ _ => e j (by omega) (by omega)) pl, pr_T_cong (fun k hk => e k (by omega) (by omega)) hT⟩
  all_goals (try unfold pr_py)
  all_goals (rw [e _ (by decide) (by decide)]; assumption)
theorem j_hear (H : pr_rel now n tn rSz Tc Fa Pa Py Mi Me Sr Z Ki He Do Tx La LT pk pv pn tc) (p1 FC LC Cg : Int32) (hi : ps_is s p1) (h : ps_rel s So Sz Vl Sor Siz Cel) (hw : Sh s = some wo) : wp_X6_hear p1 Sh So Sz Vl Fa Pa wo (fun r Fa' Pa' => wp_X7_hear p1 FC LC Cg now Sor Siz Cel (fun r' _ _ _ now' => r = r' ∧ pr_rel now' n tn rSz Tc Fa' Pa' Py Mi Me Sr Z Ki He Do Tx La LT pk pv pn tc)) := by
  obtain ⟨hs, hi⟩ := hi
  obtain ⟨g1, g2, g3, ⟨z, hz, g4⟩, g5⟩ := h
  unfold wp_X6_hear wp_X7_hear
  rcases hi with rfl | hi
  · have hin : vp_in (nI s) 4 := pn_in hs (by decide)
    refine psT hs (pb1' ⟨hin, by rw [pn_cl (by omega)]; exact hw, ?_⟩)
    rw [pn_cl (by omega), ← g1]
    by_cases hm : So = -1
    · exact sp_missT hm (pb1 (psT7 hs (pb1' ⟨hin, pbF (by rw [hm]; decide) ⟨rfl, H⟩⟩)))
    · obtain ⟨m1, m2⟩ := ps_sor g3 hm
      have g4' : Siz s = nI z := by rw [← g2]; exact g4
      refine sp_missF hm (pb0 ?_)
      rcases pq_inv Vl z with ⟨e2, en⟩ | ⟨f, l, c, e2, k1, k2, k3, k4, k5, k6⟩
      · refine sp_X2_first hz g4 (fun _ => pbT' rfl ?_) (fun f hf hv _ => absurd (en f hf) hv)
        exact psT7 hs (pb1' ⟨hin, pbT m1 (sp_X7_findClaps hs hz g4' g5 (fun e a b c => pb0' ⟨rfl, H⟩) (fun f l c e => by rw [e2] at e; cases e))⟩)
      · refine sp_X2_first hz g4 (fun hn => absurd (hn f (by omega)) k3) (fun f' hf' hv' hb' => ?_)
        obtain rfl : f' = f := pq_f_u hv' hb' k3 k5
        refine pbF' (by grind [pg_n]) (sp_X2_howFar hz g4 e2 (sp_X6_held (by decide) (sp_X2_pace hz g4 (by omega) k3 k5 ?_)))
        refine psT7 hs (pb1' ⟨hin, pbT m1 (sp_X7_findClaps hs hz g4' g5 (fun e => by rw [e2] at e; cases e) (fun f l c e => pb1' ?_))⟩)
        rw [e2] at e
        cases e
        rw [pn_ixs, pn_cl (by omega), ← g5 l (by omega)]
        refine ⟨pn_in (by omega) (by decide), sp_X7_within (sp_X7_pace hs hz g5 k1 k2 k6 ⟨?_, ?_⟩)⟩
        · rw [pn_upd_ne (by decide), pn_upd_self]
        · obtain ⟨a, ha, ea⟩ := pn_hd_nI 99 (by decide) (Vl l / 3)
          obtain ⟨b, hb, eb⟩ := pq_p_nI (fun p => pq_d Vl f' p z) 18
          exact pr_set_fp H ha ea hb eb
  · exact psF hi (pb0' (psF7 hi (pb0' ⟨rfl, H⟩)))
end
