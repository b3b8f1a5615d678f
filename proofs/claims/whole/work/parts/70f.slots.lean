/-! PURE: slots, the tape -/
def pz_rel (s : Nat) (Th Ki He Nu xSz : Int32) (xVl Hol HoA HoB HoC : Nat → Int32) : Prop :=
  Th = Hol s ∧ (Th = 0 ∨ Th = 1 ∨ Th = 2 ∨ Th = 3) ∧ (Th = 1 → ∃ k, k ≤ 5 ∧ Ki = nI k ∧ HoA s = Ki ∧ HoB s = pk_worth Ki He) ∧ (Th = 2 → (∃ z, z ≤ 24 ∧ xSz = nI z) ∧ HoA s = xSz ∧ ∀ k, k < 24 → xVl k = HoC (24 * s + k)) ∧ (Th = 3 → HoA s = Nu)
def pz_st (s : Nat) (Hol HoA HoB HoC Hol' HoA' HoB' HoC' : Nat → Int32) : Prop := Hol' s = Hol s ∧ HoA' s = HoA s ∧ HoB' s = HoB s ∧ ∀ k, k < 24 → HoC' (24 * s + k) = HoC (24 * s + k)
theorem pz_cong {s : Nat} {Th Ki He Nu xSz : Int32} {xVl Hol HoA HoB HoC Hol' HoA' HoB' HoC' : Nat → Int32} (h : pz_rel s Th Ki He Nu xSz xVl Hol HoA HoB HoC) (hs : pz_st s Hol HoA HoB HoC Hol' HoA' HoB' HoC') : pz_rel s Th Ki He Nu xSz xVl Hol' HoA' HoB' HoC' := by
  obtain ⟨h1, h2, h3, h4, h5⟩ := h
  obtain ⟨g1, g2, g3, g4⟩ := hs
  refine ⟨by rw [g1]; exact h1, h2, ?_, ?_, ?_⟩
  · rw [g2, g3]; exact h3
  · rw [g2]
    intro e
    obtain ⟨a, b, c⟩ := h4 e
    exact ⟨a, b, fun k hk => by rw [g4 k hk]; exact c k hk⟩
  · rw [g2]; exact h5
theorem pz_refl (s : Nat) (Hol HoA HoB HoC : Nat → Int32) : pz_st s Hol HoA HoB HoC Hol HoA HoB HoC := ⟨rfl, rfl, rfl, fun _ _ => rfl⟩
def pz_is (s : Nat) (x : Int32) : Prop := s < 5 ∧ (x = nI s ∨ ¬ (0 ≤ x ∧ x ≤ 4))
theorem pz_ex (x : Int32) : ∃ s, pz_is s x := by
  by_cases h : 0 ≤ x ∧ x ≤ 4
  · obtain ⟨k, hk, rfl⟩ := pn_k (m := 4) (by decide) h
    exact ⟨k, by omega, Or.inl rfl⟩
  · exact ⟨0, by omega, Or.inr h⟩
theorem pzT {s : Nat} {Q : Int32 → Prop} (hs : s < 5) (hq : Q 1) : wp_X6_isSlot (nI s) Q := by
  unfold wp_X6_isSlot
  exact pbF (nI_pos (by omega)) (pbF (by grind [pg_n]) hq)
theorem pzF {x : Int32} {Q : Int32 → Prop} (h : ¬ (0 ≤ x ∧ x ≤ 4)) (hq : Q 0) : wp_X6_isSlot x Q := by
  unfold wp_X6_isSlot
  exact ⟨fun _ => hq, fun _ => ⟨fun _ => hq, fun z => absurd h (by grind)⟩⟩
theorem pzT7 {s : Nat} {Q : Int32 → Prop} (hs : s < 5) (hq : Q 1) : wp_X7_isSlot (nI s) Q := by
  unfold wp_X7_isSlot
  exact pw7T (by grind [pg_n]) ⟨pn_b1, hq⟩
theorem pzF7 {x : Int32} {Q : Int32 → Prop} (h : ¬ (0 ≤ x ∧ x ≤ 4)) (hq : Q 0) : wp_X7_isSlot x Q := by
  unfold wp_X7_isSlot
  exact pw7F h ⟨pn_b0, hq⟩
section
variable {s : Nat} {Th zKi zHe Nu xSz xSo : Int32} {xVl Hol HoA HoB HoC : Nat → Int32} {Sl : Nat → Option Nat} {zo : Nat}
theorem j_ask (p1 p2 : Int32) (hi : pz_is s p1) (h : pz_rel s Th zKi zHe Nu xSz xVl Hol HoA HoB HoC) (hw : Sl s = some zo) : wp_X6_ask p1 p2 Sl Th zKi zHe zo (fun r => wp_X7_ask p1 p2 Hol HoA HoB (fun r' => r = r')) := by
  obtain ⟨hs, hi⟩ := hi
  obtain ⟨h1, h2, h3, h4, h5⟩ := h
  unfold wp_X6_ask wp_X7_ask
  rcases hi with rfl | hi
  · have hin : vp_in (nI s) 5 := pn_in hs (by decide)
    refine pzT hs (pb1 ?_)
    by_cases hk : 0 ≤ p2 ∧ p2 ≤ 5
    · refine pk6T hk (pb1' ⟨hin, by rw [pn_cl (by omega)]; exact hw, ?_⟩)
      rw [pn_cl (by omega), ← h1]
      by_cases e0 : Th = 0
      · exact pbT' e0 (pzT7 hs (pb1 (pw7T hk (pb1' ⟨hin, pbT' e0 rfl⟩))))
      · refine pbF' e0 ?_
        by_cases e1 : Th = 1
        · obtain ⟨k, hk5, rfl, a1, a2⟩ := h3 e1
          refine pbT' e1 (sp_X6_isOfKind hk5 (fun hu => pb1' (sp_X6_worthOf ?_)) (fun hu => pb0' ?_))
          · refine pzT7 hs (pb1 (pw7T hk (pb1' ⟨hin, pbF' e0 ⟨hin, pbT' e1 ⟨hin, sp_X7_isUnder (fun _ => pb1 ⟨hin, a2.symm⟩) (fun y => ?_)⟩⟩⟩)))
            rw [a1] at y
            exact absurd hu y
          · refine pzT7 hs (pb1 (pw7T hk (pb1' ⟨hin, pbF' e0 ⟨hin, pbT' e1 ⟨hin, sp_X7_isUnder (fun y => ?_) (fun _ => pb0 rfl)⟩⟩⟩)))
            rw [a1] at y
            exact absurd y hu
        · exact pbF' e1 (pzT7 hs (pb1 (pw7T hk (pb1' ⟨hin, pbF' e0 ⟨hin, pbF' e1 rfl⟩⟩))))
    · exact pk6F hk (pb0' (pzT7 hs (pb1 (pw7F hk (pb0' rfl)))))
  · exact pzF hi (pb0 (pzF7 hi (pb0 rfl)))
theorem j_item (p1 p2 : Int32) (hi : pz_is s p1) (h : pz_rel s Th zKi zHe Nu xSz xVl Hol HoA HoB HoC) (hw : Sl s = some zo) : wp_X6_item p1 p2 Sl Th xSz xVl zo (fun r => wp_X7_item p1 p2 Hol HoA HoC (fun r' => r = r')) := by
  obtain ⟨hs, hi⟩ := hi
  obtain ⟨h1, h2, h3, h4, h5⟩ := h
  unfold wp_X6_item wp_X7_item
  rcases hi with rfl | hi
  · have hin : vp_in (nI s) 5 := pn_in hs (by decide)
    refine pzT hs (pb1' ⟨hin, by rw [pn_cl (by omega)]; exact hw, ?_⟩)
    rw [pn_cl (by omega), ← h1]
    by_cases e0 : Th = 0
    · exact pbT' e0 (pzT7 hs (pb1' ⟨hin, pbT' e0 rfl⟩))
    · refine pbF' e0 ?_
      by_cases e2 : Th = 2
      · obtain ⟨⟨z, hz, ez⟩, a1, a2⟩ := h4 e2
        refine pbT e2 ?_
        rw [a1, ez]
        by_cases hk : ∃ k, k < z ∧ p2 = nI k
        · obtain ⟨k, hk, rfl⟩ := hk
          have rng : 0 ≤ nI k ∧ nI k ≤ nI z - 1 := by grind [pg_n]
          have ref : ∀ Q : Int32 → Prop, (¬ xVl k = -1000000005 → Q (xVl k)) → (xVl k = -1000000005 → Q (-1000000012)) → wp_X7_isSlot (nI s) (fun r_1 => ((¬ r_1 = 0 → (vp_in (nI s) 5 ∧ ((¬ Th = 0 → (vp_in (nI s) 5 ∧ ((Th = 2 → (vp_in (nI s) 5 ∧ wp_X7_in (nI k) 0 (nI z - 1) (fun r_8 => ((¬ r_8 = 0 → (vp_in ((24 * nI s) + nI k) 120 ∧ ((¬ (HoC (((24 * nI s) + nI k).toNatClampNeg)) = (-1000000005) → Q (HoC (((24 * nI s) + nI k).toNatClampNeg))) ∧ ((HoC (((24 * nI s) + nI k).toNatClampNeg)) = (-1000000005) → Q (-1000000012))))) ∧ (r_8 = 0 → Q (-1000000013)))))) ∧ (¬ (Th = 2) → Q (-1000000012))))) ∧ (Th = 0 → Q (-1000000011))))) ∧ (r_1 = 0 → Q (-1000000001)))) := by
            intro Q q1 q0
            rw [pn_ixs, pn_cl (show 24 * s + k < 2 ^ 31 by omega), ← a2 k (by omega)]
            exact pzT7 hs (pb1' ⟨hin, pbF' e0 ⟨hin, pbT e2 ⟨hin, pw7T rng (pb1' ⟨pn_in (by omega) (by decide), q1, q0⟩)⟩⟩⟩)
          refine ps_hasT hk hz rfl (pb1' (sp_X2_isNumber (by omega) (fun e => pb0 (ref _ (fun y => absurd e y) (fun _ => rfl))) (fun e => pb1 ⟨pn_in (by omega) (by decide), ref _ (fun _ => ?_) (fun y => absurd y e)⟩)))
          rw [pn_cl (by omega)]
        · refine ps_hasF hk hz rfl (pb0' (pzT7 hs (pb1' ⟨hin, pbF' e0 ⟨hin, pbT e2 ⟨hin, pw7F ?_ (pb0' rfl)⟩⟩⟩)))
          intro y
          exact hk (pg_lt p2 z (by omega) y.1 (by grind [pg_n]))
      · exact pbF e2 (pzT7 hs (pb1' ⟨hin, pbF' e0 ⟨hin, pbF e2 rfl⟩⟩))
  · exact pzF hi (pb0' (pzF7 hi (pb0' rfl)))
theorem pn_remm (x : Int32) : rc_rem x (-1) = 0 := by
  unfold rc_rem
  have : x / (-1) = -x := by
    apply Int32.toBitVec_inj.mp
    show x.toBitVec.sdiv (4294967295#32) = -x.toBitVec
    apply BitVec.eq_of_toInt_eq
    rw [BitVec.toInt_sdiv, BitVec.toInt_neg, show (4294967295#32 : BitVec 32).toInt = -1 from by decide, Int.tdiv_neg, Int.tdiv_one]
  rw [this]
  grind
theorem j_rest (p1 p2 : Int32) (hi : pz_is s p1) (h : pz_rel s Th zKi zHe Nu xSz xVl Hol HoA HoB HoC) (hw : Sl s = some zo) : wp_X6_rest p1 p2 Sl Th Nu zo (fun r => wp_X7_rest p1 p2 Hol HoA (fun r' => r = r')) := by
  obtain ⟨hs, hi⟩ := hi
  obtain ⟨h1, h2, h3, h4, h5⟩ := h
  unfold wp_X6_rest wp_X7_rest
  rcases hi with rfl | hi
  · have hin : vp_in (nI s) 5 := pn_in hs (by decide)
    refine pzT hs (pb1' ⟨hin, by rw [pn_cl (by omega)]; exact hw, ?_⟩)
    rw [pn_cl (by omega), ← h1]
    by_cases e0 : Th = 0
    · exact pbT' e0 (pzT7 hs (pb1' ⟨hin, pbT' e0 rfl⟩))
    · refine pbF' e0 ?_
      by_cases e3 : Th = 3
      · refine pbT e3 ?_
        rw [h5 e3]
        by_cases n0 : p2 = 0
        · exact pbT' n0 (pzT7 hs (pb1' ⟨hin, pbF' e0 ⟨hin, pbT e3 (pbT' n0 rfl)⟩⟩))
        · refine pbF' n0 ⟨n0, pzT7 hs (pb1' ⟨hin, pbF' e0 ⟨hin, pbT e3 (pbF' n0 ⟨fun _ => ⟨hin, n0, rfl⟩, fun e => ?_⟩)⟩⟩)⟩
          rw [e]
          exact pn_remm Nu
      · exact pbF e3 (pzT7 hs (pb1' ⟨hin, pbF' e0 ⟨hin, pbF e3 rfl⟩⟩))
  · exact pzF hi (pb0' (pzF7 hi (pb0' rfl)))
end
section
variable {now : Nat → Int32} {n tn : Nat} {rSz Tc Fa Pa Py Mi Me Sr Z : Int32} {Ki He Do : Nat → Int32} {Tx : Nat → Option Nat} {La : Nat → Int32} {LT : List Nat} {pk pv : Nat → Int32} {pn : Nat → Nat} {tc : Nat → Nat → Int32}
variable {u : Nat} {So Sz : Int32} {Vl Sor Siz Cel : Nat → Int32} {Sh : Nat → Option Nat} {wo : Nat}
variable {s : Nat} {Th zKi zHe Nu xSz xSo : Int32} {xVl Hol HoA HoB HoC : Nat → Int32} {Sl : Nat → Option Nat} {zo : Nat}
theorem sp_X7_lay_no {p2 p3 x4 : Int32} {Q : Int32 → (Nat → Int32) → (Nat → Int32) → (Nat → Int32) → (Nat → Int32) → Prop} {Hol HoA HoB HoC : Nat → Int32} (h2 : ¬ p2 = 2) (hq : Q x4 Hol HoA HoB HoC) : ∃ m, lp_X7_lay_134 (nI s) p2 p3 Cel Q m x4 0 Hol HoA HoB HoC := by
  refine ⟨1, ?_⟩
  show lp_X7_lay_134F (nI s) p2 p3 Cel Q _ x4 0 Hol HoA HoB HoC
  unfold lp_X7_lay_134F
  exact pbF (by decide) (pbF' h2 hq)
theorem sp_X7_lay_yes {x4 : Int32} {Q : Int32 → (Nat → Int32) → (Nat → Int32) → (Nat → Int32) → (Nat → Int32) → Prop} {Hol HoA HoB HoC : Nat → Int32} (hs : s < 5) (hu : u < 4) (hq : ∀ HoC', (∀ k, k < 24 → HoC' (24 * s + k) = Cel (24 * u + k)) → (∀ j, (j < 24 * s ∨ 24 * s + 24 ≤ j) → HoC' j = HoC j) → Q x4 Hol HoA HoB HoC') : ∃ m, lp_X7_lay_134 (nI s) 2 (nI u) Cel Q m x4 0 Hol HoA HoB HoC := by
  have L : ∀ (w i : Nat) (HoC' : Nat → Int32), i + w = 24 → (∀ k, k < i → HoC' (24 * s + k) = Cel (24 * u + k)) → (∀ j, (j < 24 * s ∨ 24 * s + 24 ≤ j) → HoC' j = HoC j) → lp_X7_lay_134 (nI s) 2 (nI u) Cel Q (w + 1) x4 (nI i) Hol HoA HoB HoC' := by
    intro w
    induction w with
    | zero =>
      intro i HoC' hi h1 h2
      show lp_X7_lay_134F (nI s) 2 (nI u) Cel Q _ x4 (nI i) Hol HoA HoB HoC'
      unfold lp_X7_lay_134F
      exact pbT (by grind [pg_n]) (hq HoC' (fun k hk => h1 k (by omega)) h2)
    | succ w ih =>
      intro i HoC' hi h1 h2
      show lp_X7_lay_134F (nI s) 2 (nI u) Cel Q (lp_X7_lay_134 (nI s) 2 (nI u) Cel Q (w + 1)) x4 (nI i) Hol HoA HoB HoC'
      unfold lp_X7_lay_134F
      rw [pn_ixs, pn_ixs, pn_cl (show 24 * s + i < 2 ^ 31 by omega), pn_cl (show 24 * u + i < 2 ^ 31 by omega), pn_p1]
      refine pbF (by grind [pg_n]) (pbT' rfl ⟨pn_in (by omega) (by decide), pn_in (by omega) (by decide), ih (i + 1) _ (by omega) (fun k hk => ?_) (fun j hj => by rw [pn_upd_ne (by omega)]; exact h2 j hj)⟩)
      by_cases e : k = i
      · subst e; rw [pn_upd_self]
      · rw [pn_upd_ne (by omega)]; exact h1 k (by omega)
  exact ⟨25, L 24 0 HoC (by omega) (fun k hk => absurd hk (by omega)) (fun _ _ => rfl)⟩
theorem j_lay (H : pr_rel now n tn rSz Tc Fa Pa Py Mi Me Sr Z Ki He Do Tx La LT pk pv pn tc) (p1 p2 p3 : Int32) (hi : pz_is s p1) (hj : ps_is u p3) (h : pz_rel s Th zKi zHe Nu xSz xVl Hol HoA HoB HoC) (hw : Sl s = some zo) (h' : ps_rel u So Sz Vl Sor Siz Cel) (hw' : Sh u = some wo) : wp_X6_lay p1 p2 p3 Sl Th zKi zHe Nu xSo xSz xVl Sh So Sz Vl rSz Ki He zo wo (fun r Th' zKi' zHe' Nu' _ xSz' xVl' => wp_X7_lay p1 p2 p3 now Sor Siz Cel Hol HoA HoB HoC (fun r' Hol' HoA' HoB' HoC' => r = r' ∧ pz_rel s Th' zKi' zHe' Nu' xSz' xVl' Hol' HoA' HoB' HoC' ∧ ∀ t, t < 5 → t ≠ s → pz_st t Hol HoA HoB HoC Hol' HoA' HoB' HoC')) := by
  obtain ⟨⟨b1, b2, b3, b4, b5⟩, ⟨s1, s2, s3, s4, s5, s6, s7, s8⟩, py, pl, hT⟩ := pr_rel_iff.mp H
  have h0 : ∀ t, t < 5 → t ≠ s → pz_st t Hol HoA HoB HoC Hol HoA HoB HoC := fun t _ _ => pz_refl t _ _ _ _
  obtain ⟨hs, hi⟩ := hi
  obtain ⟨hu, hj⟩ := hj
  have hh := h
  obtain ⟨h1, h2, h3, h4, h5⟩ := h
  obtain ⟨g1, g2, g3, ⟨z, hz, g4⟩, g5⟩ := h'
  unfold wp_X6_lay wp_X7_lay
  rcases hi with rfl | hi
  · have hin : vp_in (nI s) 5 := pn_in hs (by decide)
    have hcl : (nI s).toNatClampNeg = s := pn_cl (by omega)
    refine pzT hs (pb1 ?_)
    by_cases ht : 0 ≤ p2 ∧ p2 ≤ 3
    · refine pw6T ht (pb1' ?_)
      by_cases e1 : p2 = 1
      · subst e1
        refine pbT' rfl ?_
        by_cases hp : ∃ p, p < n ∧ p3 = nI p
        · obtain ⟨p, hp, rfl⟩ := hp
          obtain ⟨k, hh', d, q1, q2, q3, q4, q5, q6, q7, q8, q9⟩ := pl p hp
          refine ph6T hp (by omega) (by rw [s1, b2]) (pb1 ?_)
          unfold jp_X6_lay_35
          refine pbF' (by decide) ?_
          unfold jp_X6_lay_50
          refine pbF' (by decide) ?_
          unfold jp_X6_lay_70
          refine ⟨hin, by rw [hcl]; exact hw, pbT' rfl ⟨pn_in (by omega) (by decide), pn_in (by omega) (by decide), ?_⟩⟩
          unfold wp_X3_takePlace
          refine pzT7 hs (pb1 (pw7T ht (pb1 (pbT' rfl (ph7T hp (by omega) b2 (pb1 ?_))))))
          unfold jp_X7_lay_29
          refine pbF' (by decide) ?_
          unfold jp_X7_lay_44
          refine pbF' (by decide) ?_
          unfold jp_X7_lay_61
          refine ⟨hin, hin, pbT' rfl (sp_X7_of (w := 0) (by omega) (by decide) ?_)⟩
          unfold jp_X7_lay_110
          refine ⟨hin, pbT' rfl (sp_X7_worthOf (by omega) ⟨hin, sp_X7_lay_no (by decide) ?_⟩)⟩
          rw [hcl, pn_cl (show p < 2 ^ 31 by omega)]
          refine ⟨h1, ⟨by rw [pn_upd_self], Or.inr (Or.inl rfl), fun _ => ⟨k, q1, q7, by rw [pn_upd_self, q7]; exact q4, by rw [pn_upd_self, q7, q8, q4, q5]⟩, fun y => absurd y (by decide), fun y => absurd y (by decide)⟩, fun t ht hts => ⟨pn_upd_ne hts, pn_upd_ne hts, pn_upd_ne hts, fun _ _ => rfl⟩⟩
        · exact ph6F hp (by omega) (by rw [s1, b2]) (pb0 (pzT7 hs (pb1 (pw7T ht (pb1 (pbT' rfl (ph7F hp (by omega) b2 (pb0 ⟨rfl, hh, h0⟩))))))))
      · refine pbF' e1 ?_
        unfold jp_X6_lay_35
        by_cases e2 : p2 = 2
        · subst e2
          refine pbT' rfl ?_
          rcases hj with rfl | hj
          · have hin4 : vp_in (nI u) 4 := pn_in hu (by decide)
            refine psT hu (pb1' ?_)
            unfold jp_X6_lay_50
            refine pbT' rfl ⟨hin4, by rw [pn_cl (by omega)]; exact hw', ?_⟩
            by_cases hm : So = -1
            · refine sp_missT hm (pb1 (pzT7 hs (pb1 (pw7T ht (pb1 (pbF' e1 ?_))))))
              unfold jp_X7_lay_29
              refine pbT' rfl (psT7 hu (pb1' ?_))
              unfold jp_X7_lay_44
              refine pbT' rfl ⟨hin4, pbF ?_ ⟨rfl, hh, h0⟩⟩
              rw [pn_cl (by omega), ← g1, hm]; decide
            · obtain ⟨m1, m2⟩ := ps_sor g3 hm
              refine sp_missF hm (pb0 ?_)
              unfold jp_X6_lay_70
              refine ⟨hin, by rw [hcl]; exact hw, pbF' e1 (pbT' rfl ⟨hin4, by rw [pn_cl (by omega)]; exact hw', ?_⟩)⟩
              unfold wp_X2_become
              refine pzT7 hs (pb1 (pw7T ht (pb1 (pbF' e1 ?_))))
              unfold jp_X7_lay_29
              refine pbT' rfl (psT7 hu (pb1' ?_))
              unfold jp_X7_lay_44
              refine pbT' rfl ⟨hin4, pbT (by rw [pn_cl (by omega), ← g1]; exact m1) ?_⟩
              unfold jp_X7_lay_61
              refine ⟨hin, hin, pbF' e1 (pbT' rfl ⟨hin4, ?_⟩)⟩
              unfold jp_X7_lay_110
              refine ⟨hin, pbF' e1 ⟨hin, sp_X7_lay_yes hs hu (fun HoC' c1 c2 => ?_)⟩⟩
              rw [hcl, pn_cl (show u < 2 ^ 31 by omega)]
              refine ⟨h1, ⟨by rw [pn_upd_self], Or.inr (Or.inr (Or.inl rfl)), fun y => absurd y (by decide), fun _ => ⟨⟨z, hz, g4⟩, by rw [pn_upd_self, ← g2], fun k hk => by rw [sb_cpy0 hk, c1 k hk, g5 k hk]⟩, fun y => absurd y (by decide)⟩, fun t ht hts => ⟨pn_upd_ne hts, pn_upd_ne hts, pn_upd_ne hts, fun k hk => c2 _ ?_⟩⟩
              by_cases e : t < s
              · left; omega
              · right; omega
          · refine psF hj (pb0' (pzT7 hs (pb1 (pw7T ht (pb1 (pbF' e1 ?_))))))
            unfold jp_X7_lay_29
            exact pbT' rfl (psF7 hj (pb0' ⟨rfl, hh, h0⟩))
        · refine pbF' e2 ?_
          unfold jp_X6_lay_50
          refine pbF' e2 ?_
          unfold jp_X6_lay_70
          have ref : ∀ (Q : Int32 → (Nat → Int32) → (Nat → Int32) → (Nat → Int32) → (Nat → Int32) → Prop), Q (Hol s) (upd Hol s p2) (upd HoA s p3) (upd HoB s 0) HoC → jp_X7_lay_29 (nI s) p2 p3 now Sor Siz Cel Q Hol HoA HoB HoC := by
            intro Q hq
            unfold jp_X7_lay_29
            refine pbF' e2 ?_
            unfold jp_X7_lay_44
            refine pbF' e2 ?_
            unfold jp_X7_lay_61
            refine ⟨hin, hin, pbF' e1 (pbF' e2 ?_)⟩
            unfold jp_X7_lay_110
            refine ⟨hin, pbF' e1 ⟨hin, sp_X7_lay_no e2 ?_⟩⟩
            rw [hcl]
            exact hq
          have stt : ∀ t, t < 5 → t ≠ s → pz_st t Hol HoA HoB HoC (upd Hol s p2) (upd HoA s p3) (upd HoB s 0) HoC := fun t ht hts => ⟨pn_upd_ne hts, pn_upd_ne hts, pn_upd_ne hts, fun _ _ => rfl⟩
          refine ⟨hin, by rw [hcl]; exact hw, pbF' e1 (pbF' e2 ⟨fun e3 => ?_, fun e3 => ?_⟩)⟩
          · refine pzT7 hs (pb1 (pw7T ht (pb1 (pbF' e1 (ref _ ⟨h1, ⟨by rw [pn_upd_self], ?_, fun y => absurd y e1, fun y => absurd y e2, fun y => absurd y e3⟩, stt⟩)))))
            grind
          · exact pzT7 hs (pb1 (pw7T ht (pb1 (pbF' e1 (ref _ ⟨h1, ⟨by rw [pn_upd_self], Or.inr (Or.inr (Or.inr e3)), fun y => absurd y e1, fun y => absurd y e2, fun y => by rw [pn_upd_self]⟩, stt⟩)))))
    · exact pw6F ht (pb0' (pzT7 hs (pb1 (pw7F ht (pb0 ⟨rfl, hh, h0⟩)))))
  · exact pzF hi (pb0 (pzF7 hi (pb0 ⟨rfl, hh, h0⟩)))
end
/-- the tape -/
def pf_rel (Ln Tp : Int32) (By Tap : Nat → Int32) : Prop := ∃ L, L ≤ 96 ∧ Ln = nI L ∧ Tp = nI L ∧ ∀ k, k < L → ∃ b, b < 256 ∧ By k = nI b ∧ Tap k = nI b
theorem j_trim (p1 Ln Tp : Int32) (By Tap : Nat → Int32) (h : pf_rel Ln Tp By Tap) : wp_X6_trim p1 Ln (fun r Ln' => wp_X7_trim p1 Tp (fun r' Tp' => r = r' ∧ pf_rel Ln' Tp' By Tap)) := by
  have hh := h
  obtain ⟨L, hL, rfl, rfl, hb⟩ := h
  unfold wp_X6_trim wp_X7_trim
  by_cases hp : 0 ≤ p1 ∧ p1 ≤ nI L
  · obtain ⟨k, hk, rfl⟩ := pn_k (by omega) hp
    exact pw6T hp (pb1' (pw7T hp (pb1' ⟨rfl, k, by omega, rfl, rfl, fun j hj => hb j (by omega)⟩)))
  · exact pw6F hp (pb0' (pw7F hp (pb0' ⟨rfl, hh⟩)))
