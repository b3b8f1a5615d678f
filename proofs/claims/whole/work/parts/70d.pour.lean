/-! PURE: pour, reads, copy -/
def pp_to (v r : Nat → Int32) (i : Nat) : Int32 := if v i = -1000000005 then r (9 + 3 * i + 1) else pn_hd 0 99 (v i)
def pp_row (now v : Nat → Int32) : Nat → Nat → Int32
  | 0 => now
  | i + 1 => upd (pp_row now v i) (9 + 3 * i + 1) (pp_to v (pp_row now v i) i)
def pp_n (now v : Nat → Int32) : Nat → Int32
  | 0 => 0
  | i + 1 => if pp_to v (pp_row now v i) i = pp_row now v i (9 + 3 * i + 1) then pp_n now v i else pp_n now v i + 1
section
variable {now : Nat → Int32} {n tn : Nat} {rSz Tc Fa Pa Py Mi Me Sr Z : Int32} {Ki He Do : Nat → Int32} {Tx : Nat → Option Nat} {La : Nat → Int32} {LT : List Nat} {pk pv : Nat → Int32} {pn : Nat → Nat} {tc : Nat → Nat → Int32}
variable {s : Nat} {So Sz : Int32} {Vl Sor Siz Cel : Nat → Int32} {Sh : Nat → Option Nat} {wo : Nat}
theorem pp_row_lo (now v : Nat → Int32) {k : Nat} (hk : k < 9) : ∀ i, pp_row now v i k = now k := by
  intro i
  induction i with
  | zero => rfl
  | succ i ih =>
    show upd (pp_row now v i) (9 + 3 * i + 1) _ k = _
    rw [pn_upd_ne (by omega)]
    exact ih
theorem pr_pour {He0 : Nat → Int32} {i : Nat} (H : pr_rel (pp_row now Vl i) n tn rSz Tc Fa Pa Py Mi Me Sr Z Ki He0 Do Tx La LT pk pv pn tc) (hi : i < n) : pr_rel (pp_row now Vl (i + 1)) n tn rSz Tc Fa Pa Py Mi Me Sr Z Ki (upd He0 i (pp_to Vl (pp_row now Vl i) i)) Do Tx La LT pk pv pn tc := by
  obtain ⟨⟨b1, b2, b3, b4, b5⟩, ⟨s1, s2, s3, s4, s5, s6, s7, s8⟩, py, pl, hT⟩ := pr_rel_iff.mp H
  have hto : ∃ a, a ≤ 99 ∧ pp_to Vl (pp_row now Vl i) i = nI a := by
    unfold pp_to
    by_cases e : Vl i = -1000000005
    · rw [if_pos e]
      obtain ⟨k, h, d, q1, q2, q3, q4, q5, q6, _⟩ := pl i hi
      exact ⟨h, q2, q5⟩
    · rw [if_neg e]
      exact pn_hd_nI 99 (by decide) _
  obtain ⟨a, ha, ea⟩ := hto
  have e1 : pp_row now Vl (i + 1) = upd (pp_row now Vl i) (9 + 3 * i + 1) (nI a) := by rw [← ea]; rfl
  rw [e1, ea]
  refine pr_set_pl H hi (fun k hk => pn_upd_ne (by omega)) (fun j hj => ?_)
  obtain ⟨k', h', d', q⟩ := pl j hj
  by_cases e : j = i
  · refine ⟨k', a, d', ?_⟩
    grind [pg_u]
  · refine ⟨k', h', d', ?_⟩
    grind [pg_u]
theorem j_pour (H : pr_rel now n tn rSz Tc Fa Pa Py Mi Me Sr Z Ki He Do Tx La LT pk pv pn tc) (p1 : Int32) (hi : ps_is s p1) (h : ps_rel s So Sz Vl Sor Siz Cel) (hw : Sh s = some wo) : wp_X6_pour p1 Sh So Sz Vl rSz He wo (fun r He' => wp_X7_pour p1 now Sor Siz Cel (fun r' now' => r = r' ∧ pr_rel now' n tn rSz Tc Fa Pa Py Mi Me Sr Z Ki He' Do Tx La LT pk pv pn tc)) := by
  obtain ⟨⟨b1, b2, b3, b4, b5⟩, ⟨s1, s2, s3, s4, s5, s6, s7, s8⟩, py, pl, hT⟩ := pr_rel_iff.mp H
  obtain ⟨hs, hi⟩ := hi
  obtain ⟨g1, g2, g3, ⟨z, hz, g4⟩, g5⟩ := h
  unfold wp_X6_pour wp_X7_pour
  rcases hi with rfl | hi
  · have hin : vp_in (nI s) 4 := pn_in hs (by decide)
    refine psT hs (pb1' ⟨hin, by rw [pn_cl (by omega)]; exact hw, ?_⟩)
    rw [pn_cl (by omega), ← g1]
    by_cases hm : So = -1
    · exact sp_missT hm (pb1 (psT7 hs (pb1' ⟨hin, pbF (by rw [hm]; decide) ⟨rfl, H⟩⟩)))
    · obtain ⟨m1, m2⟩ := ps_sor g3 hm
      have g4' : Siz s = nI z := by rw [← g2]; exact g4
      refine sp_missF hm (pb0 ?_)
      have L6 : ∀ (Q : Int32 → (Nat → Int32) → Prop), (∀ He', pr_rel (pp_row now Vl (min n z)) n tn rSz Tc Fa Pa Py Mi Me Sr Z Ki He' Do Tx La LT pk pv pn tc → Q (pp_n now Vl (min n z)) He') → ∀ (w i : Nat) (He : Nat → Int32), i + w = min n z → pr_rel (pp_row now Vl i) n tn rSz Tc Fa Pa Py Mi Me Sr Z Ki He Do Tx La LT pk pv pn tc → lp_X1_takeHeights_4 rSz Sz Vl Q (w + 1) (pp_n now Vl i) (nI i) He := by
        intro Q hq w
        induction w with
        | zero =>
          intro i He hi H'
          show lp_X1_takeHeights_4F rSz Sz Vl Q _ (pp_n now Vl i) (nI i) He
          unfold lp_X1_takeHeights_4F
          have e : i = min n z := by omega
          rw [← e] at hq
          have := hq He H'
          rw [s1, b2, g4]
          refine ⟨fun _ => this, fun a => ⟨fun _ => this, fun b => ?_⟩⟩
          grind [pg_n]
        | succ w ih =>
          intro i He hi H'
          show lp_X1_takeHeights_4F rSz Sz Vl Q (lp_X1_takeHeights_4 rSz Sz Vl Q (w + 1)) (pp_n now Vl i) (nI i) He
          unfold lp_X1_takeHeights_4F
          have R := pr_rel_iff.mp H'
          have hHe : He i = pp_row now Vl i (9 + 3 * i + 1) := (pr_pl_at R.2.2.2.1 (by omega)).2.1
          have hin2 : vp_in (nI i) 24 := pn_in (by omega) (by decide)
          have H2 := pr_pour H' (show i < n by omega)
          have ih1 := ih (i + 1)
          have en : pp_n now Vl (i + 1) = if pp_to Vl (pp_row now Vl i) i = pp_row now Vl i (9 + 3 * i + 1) then pp_n now Vl i else pp_n now Vl i + 1 := rfl
          have go : jp_X1_takeHeights_49 (lp_X1_takeHeights_4 rSz Sz Vl Q (w + 1)) (pp_n now Vl i) (nI i) (pp_to Vl (pp_row now Vl i) i) He := by
            unfold jp_X1_takeHeights_49
            rw [pn_cl (by omega), hHe, pn_p1]
            refine ⟨hin2, fun e => ?_, fun e => ⟨hin2, ?_⟩⟩
            · rw [en, if_pos e] at ih1
              refine ih1 He (by omega) ?_
              have eu : upd He i (pp_to Vl (pp_row now Vl i) i) = He := by
                funext k
                by_cases ek : k = i
                · subst ek; rw [pn_upd_self, e, hHe]
                · rw [pn_upd_ne ek]
              rw [eu] at H2
              exact H2
            · rw [en, if_neg e] at ih1
              exact ih1 _ (by omega) H2
          rw [s1, b2, g4, pn_cl (by omega)]
          unfold pp_to at go
          refine pbF (by grind [pg_n]) (pbF (by grind [pg_n]) (sp_X2_isNumber (by omega) (fun e => pb0 ⟨hin2, ?_⟩) (fun e => pb1 ⟨hin2, sp_X6_held (by decide) ?_⟩)))
          · rw [if_pos e, ← hHe, s1, b2, g4] at go; exact go
          · rw [if_neg e, s1, b2, g4] at go; exact go
      have L7 : ∀ (Q : Int32 → (Nat → Int32) → Prop), Q (pp_n now Vl (min n z)) (pp_row now Vl (min n z)) → ∀ (w i : Nat), i + w = min n z → lp_X7_pour_26 (nI s) Siz Cel Q (w + 1) (pp_n now Vl i) (nI i) (pp_row now Vl i) := by
        intro Q hq w
        induction w with
        | zero =>
          intro i hi
          show lp_X7_pour_26F (nI s) Siz Cel Q _ (pp_n now Vl i) (nI i) (pp_row now Vl i)
          unfold lp_X7_pour_26F
          have e : i = min n z := by omega
          rw [← e] at hq
          rw [pn_cl (by omega), g4', pp_row_lo now Vl (by decide), b2]
          refine ⟨hin, fun _ => hq, fun a => ⟨fun _ => hq, fun b => ?_⟩⟩
          grind [pg_n]
        | succ w ih =>
          intro i hi
          show lp_X7_pour_26F (nI s) Siz Cel Q (lp_X7_pour_26 (nI s) Siz Cel Q (w + 1)) (pp_n now Vl i) (nI i) (pp_row now Vl i)
          unfold lp_X7_pour_26F
          have ih1 := ih (i + 1) (by omega)
          have en : pp_n now Vl (i + 1) = if pp_to Vl (pp_row now Vl i) i = pp_row now Vl i (9 + 3 * i + 1) then pp_n now Vl i else pp_n now Vl i + 1 := rfl
          have go : jp_X7_pour_83 (lp_X7_pour_26 (nI s) Siz Cel Q (w + 1)) (pp_n now Vl i) (nI i) (pp_to Vl (pp_row now Vl i) i) (pp_row now Vl i) := by
            unfold jp_X7_pour_83 wp_X7_becomes
            rw [show ((9 : Int32) + 3 * nI i) + 1 = nI (9 + 3 * i + 1) from pn_ix3 i 1, pn_cl (by omega), pn_p1]
            refine ⟨pn_in (by omega) (by decide), pn_in (by omega) (by decide), fun e => ?_, fun e => ?_⟩
            · rw [en, if_neg (fun y => e y.symm)] at ih1
              exact ih1
            · rw [en, if_pos e.symm] at ih1
              rw [show pp_n now Vl i + 0 = pp_n now Vl i from by grind]
              exact ih1
          rw [pn_cl (show s < 2 ^ 31 by omega), g4', pp_row_lo now Vl (by decide), b2, pn_ixs, pn_cl (by omega), ← g5 i (by omega)]
          unfold pp_to at go
          refine ⟨hin, pbF (by grind [pg_n]) (pbF (by grind [pg_n]) ⟨pn_in (by omega) (by decide), fun e => sp_X7_within ?_, fun e => sp_X7_of (w := 1) (by omega) (by decide) ?_⟩)⟩
          · rw [if_neg e] at go; exact go
          · rw [if_pos e] at go; exact go
      unfold wp_X1_takeHeights
      refine ⟨min n z + 1, L6 _ (fun He' H' => ?_) (min n z) 0 He (by omega) H⟩
      exact psT7 hs (pb1' ⟨hin, pbT m1 ⟨min n z + 1, L7 _ ⟨rfl, H'⟩ (min n z) 0 (by omega)⟩⟩)
  · exact psF hi (pb0' (psF7 hi (pb0' ⟨rfl, H⟩)))
def pp_bad (now v : Nat → Int32) (n tn i : Nat) : Prop := ¬ v i = -1000000005 ∧ (n ≤ i ∨ ¬ v i = pr_risk now tn i)
theorem j_reads (H : pr_rel now n tn rSz Tc Fa Pa Py Mi Me Sr Z Ki He Do Tx La LT pk pv pn tc) (p1 : Int32) (sk stk fct : Nat → Int32) (hi : ps_is s p1) (h : ps_rel s So Sz Vl Sor Siz Cel) (hw : Sh s = some wo) : wp_X6_reads p1 Sh So Sz Vl rSz Ki He Tx La sk wo LT pn tc (fun r _ => wp_X7_reads p1 now stk fct Sor Siz Cel (fun r' _ _ => r = r')) := by
  obtain ⟨⟨b1, b2, b3, b4, b5⟩, ⟨s1, s2, s3, s4, s5, s6, s7, s8⟩, py, pl, hT⟩ := pr_rel_iff.mp H
  obtain ⟨hs, hi⟩ := hi
  obtain ⟨g1, g2, g3, ⟨z, hz, g4⟩, g5⟩ := h
  unfold wp_X6_reads wp_X7_reads
  rcases hi with rfl | hi
  · have hin : vp_in (nI s) 4 := pn_in hs (by decide)
    refine psT hs (pb1' ⟨hin, by rw [pn_cl (by omega)]; exact hw, ?_⟩)
    rw [pn_cl (by omega), ← g1]
    by_cases hm : So = -1
    · exact sp_missT hm (pb1 (psT7 hs (pb1' ⟨hin, pbF (by rw [hm]; decide) rfl⟩)))
    · obtain ⟨m1, m2⟩ := ps_sor g3 hm
      have g4' : Siz s = nI z := by rw [← g2]; exact g4
      refine sp_missF hm (pb0 ?_)
      have L6 : ∀ (Q : Int32 → (Nat → Int32) → Prop), ((∀ j, j < z → ¬ pp_bad now Vl n tn j) → ∀ sk, Q (-1000000005) sk) → (∀ f, f < z → pp_bad now Vl n tn f → (∀ j, j < f → ¬ pp_bad now Vl n tn j) → ∀ sk, Q (nI f) sk) → ∀ (w i : Nat) (sk : Nat → Int32), i + w = z → (∀ j, j < i → ¬ pp_bad now Vl n tn j) → lp_X1_firstNotRisk_2 rSz Ki He Tx La Sz Vl LT pn tc Q (w + 1) (nI i) sk := by
        intro Q hn hq w
        induction w with
        | zero =>
          intro i sk hi hb
          show lp_X1_firstNotRisk_2F rSz Ki He Tx La Sz Vl LT pn tc Q _ (nI i) sk
          unfold lp_X1_firstNotRisk_2F
          exact pbT (by rw [g4]; grind [pg_n]) (hn (fun j hj => hb j (by omega)) _)
        | succ w ih =>
          intro i sk hi hb
          show lp_X1_firstNotRisk_2F rSz Ki He Tx La Sz Vl LT pn tc Q (lp_X1_firstNotRisk_2 rSz Ki He Tx La Sz Vl LT pn tc Q (w + 1)) (nI i) sk
          unfold lp_X1_firstNotRisk_2F
          have next : ∀ sk, ¬ pp_bad now Vl n tn i → lp_X1_firstNotRisk_2 rSz Ki He Tx La Sz Vl LT pn tc Q (w + 1) (nI i + 1) sk := by
            intro sk hnb
            rw [pn_p1]
            refine ih (i + 1) sk (by omega) (fun j hj => ?_)
            by_cases e : j = i
            · subst e; exact hnb
            · exact hb j (by omega)
          refine pbF (by rw [g4]; grind [pg_n]) (sp_X2_isNumber (by omega) (fun e => pb0 (next _ (fun y => y.1 e))) (fun e => pb1 ?_))
          by_cases hin' : i < n
          · refine ph6T hin' (by omega) (by rw [s1, b2]) (pb1 ⟨pn_in (by omega) (by decide), sp_X1_risk hT (by omega) (pr_pl_at pl hin').1 (pr_pl_at pl hin').2.1 (fun sk' => ?_)⟩)
            rw [pn_cl (by omega)]
            refine ⟨fun y => next _ (fun x => x.2.elim (by omega) (fun u => u y)), fun y => hq i (by omega) ⟨e, Or.inr y⟩ hb _⟩
          · refine ph6F (n := n) ?_ (by omega) (by rw [s1, b2]) (pb0 (hq i (by omega) ⟨e, Or.inl (by omega)⟩ hb _))
            rintro ⟨p, hp, ep⟩
            rw [nI_eq (by omega) (by omega)] at ep
            omega
      have L7 : ∀ (Q : Int32 → (Nat → Int32) → (Nat → Int32) → Prop), ((∀ j, j < z → ¬ pp_bad now Vl n tn j) → ∀ a b, Q (-1000000005) a b) → (∀ f, f < z → pp_bad now Vl n tn f → (∀ j, j < f → ¬ pp_bad now Vl n tn j) → ∀ a b, Q (nI f) a b) → ∀ (w i : Nat) (stk fct : Nat → Int32), i + w = z → (∀ j, j < i → ¬ pp_bad now Vl n tn j) → lp_X7_reads_24 (nI s) now Siz Cel Q (w + 1) (nI i) stk fct := by
        intro Q hn hq w
        induction w with
        | zero =>
          intro i stk fct hi hb
          show lp_X7_reads_24F (nI s) now Siz Cel Q _ (nI i) stk fct
          unfold lp_X7_reads_24F
          rw [pn_cl (by omega), g4']
          exact ⟨hin, pbT (by grind [pg_n]) (hn (fun j hj => hb j (by omega)) _ _)⟩
        | succ w ih =>
          intro i stk fct hi hb
          show lp_X7_reads_24F (nI s) now Siz Cel Q (lp_X7_reads_24 (nI s) now Siz Cel Q (w + 1)) (nI i) stk fct
          unfold lp_X7_reads_24F
          have next : ∀ stk fct, ¬ pp_bad now Vl n tn i → lp_X7_reads_24 (nI s) now Siz Cel Q (w + 1) (nI i + 1) stk fct := by
            intro stk fct hnb
            rw [pn_p1]
            refine ih (i + 1) stk fct (by omega) (fun j hj => ?_)
            by_cases e : j = i
            · subst e; exact hnb
            · exact hb j (by omega)
          rw [pn_cl (show s < 2 ^ 31 by omega), g4', pn_ixs, pn_cl (by omega), ← g5 i (by omega)]
          refine ⟨hin, pbF (by grind [pg_n]) ⟨pn_in (by omega) (by decide), fun e => next _ _ (fun y => y.1 e), fun e => ?_⟩⟩
          by_cases hin' : i < n
          · obtain ⟨k, hh, d, q1, q2, q3, q4, q5, q6, _⟩ := pl i hin'
            refine ph7T hin' (by omega) b2 (pb1 (sp_X7_risk hT.M (by omega) q2 q5 (fun _ _ => ?_)))
            refine ⟨fun y => next _ _ (fun x => x.2.elim (by omega) (fun u => u y)), fun y => hq i (by omega) ⟨e, Or.inr y⟩ hb _ _⟩
          · refine ph7F (n := n) ?_ (by omega) b2 (pb0 (hq i (by omega) ⟨e, Or.inl (by omega)⟩ hb _ _))
            rintro ⟨p, hp, ep⟩
            rw [nI_eq (by omega) (by omega)] at ep
            omega
      unfold wp_X1_firstNotRisk
      refine ⟨z + 1, L6 _ (fun hn sk => ?_) (fun f hf hb hj sk => ?_) z 0 sk (by omega) (fun j hj => absurd hj (by omega))⟩
      · exact psT7 hs (pb1' ⟨hin, pbT m1 ⟨z + 1, L7 _ (fun _ _ _ => rfl) (fun f hf hb hj => absurd hb (hn f hf)) z 0 stk fct (by omega) (fun j hj => absurd hj (by omega))⟩⟩)
      · refine psT7 hs (pb1' ⟨hin, pbT m1 ⟨z + 1, L7 _ (fun hn _ _ => absurd hb (hn f hf)) (fun f' hf' hb' hj' _ _ => ?_) z 0 stk fct (by omega) (fun j hj => absurd hj (by omega))⟩⟩)
        by_cases a : f < f'
        · exact absurd hb (hj' f a)
        · by_cases b : f' < f
          · exact absurd hb' (hj f' b)
          · rw [show f = f' by omega]
  · exact psF hi (pb0' (psF7 hi (pb0' rfl)))
end
