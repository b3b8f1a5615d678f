/-! PURE: sheets told, marked, poured, read, copied -/
theorem pg_cpy (f g : Nat → Int32) (a b n k : Nat) : va_cpy f g a b n k = if b ≤ k ∧ k < b + n then f (a + (k - b)) else g k := rfl
section
variable {s : Nat} {So Sz : Int32} {Vl Sor Siz Cel : Nat → Int32} {Sh : Nat → Option Nat} {wo : Nat}
theorem sp_X7_sheet_65 {Q : Int32 → (Nat → Int32) → (Nat → Int32) → (Nat → Int32) → Prop} {Sor Siz Cel : Nat → Int32} (hs : s < 4) (hq : ∀ Cel', (∀ k, k < 24 → Cel' (24 * s + k) = 0) → (∀ j, (j < 24 * s ∨ 24 * s + 24 ≤ j) → Cel' j = Cel j) → Q (Siz s) Sor Siz Cel') : ∃ m, lp_X7_sheet_65 (nI s) Q m 0 Sor Siz Cel := by
  have L : ∀ (w i : Nat) (Cel' : Nat → Int32), i + w = 24 → (∀ k, k < i → Cel' (24 * s + k) = 0) → (∀ j, (j < 24 * s ∨ 24 * s + 24 ≤ j) → Cel' j = Cel j) → lp_X7_sheet_65 (nI s) Q (w + 1) (nI i) Sor Siz Cel' := by
    intro w
    induction w with
    | zero =>
      intro i Cel' hi h1 h2
      show lp_X7_sheet_65F (nI s) Q _ (nI i) Sor Siz Cel'
      unfold lp_X7_sheet_65F
      refine pbT (by grind [pg_n]) ⟨pn_in hs (by decide), ?_⟩
      rw [pn_cl (by omega)]
      exact hq Cel' (fun k hk => h1 k (by omega)) h2
    | succ w ih =>
      intro i Cel' hi h1 h2
      show lp_X7_sheet_65F (nI s) Q (lp_X7_sheet_65 (nI s) Q (w + 1)) (nI i) Sor Siz Cel'
      unfold lp_X7_sheet_65F
      rw [pn_ixs, pn_cl (show 24 * s + i < 2 ^ 31 by omega), pn_p1]
      refine pbF (by grind [pg_n]) ⟨pn_in (by omega) (by decide), ih (i + 1) _ (by omega) (fun k hk => by grind [pg_u]) (fun j hj => by grind [pg_u])⟩
  exact ⟨25, L 24 0 Cel (by omega) (fun k hk => absurd hk (by omega)) (fun _ _ => rfl)⟩
theorem j_sheet (p1 p2 p3 : Int32) (hi : ps_is s p1) (h : ps_rel s So Sz Vl Sor Siz Cel) (hw : Sh s = some wo) : wp_X6_sheet p1 p2 p3 Sh So Sz Vl wo (fun r So' Sz' Vl' => wp_X7_sheet p1 p2 p3 Sor Siz Cel (fun r' Sor' Siz' Cel' => r = r' ∧ ps_rel s So' Sz' Vl' Sor' Siz' Cel' ∧ ∀ t, t < 4 → t ≠ s → ps_st t Sor Siz Cel Sor' Siz' Cel')) := by
  have h0 : ∀ t, t < 4 → t ≠ s → ps_st t Sor Siz Cel Sor Siz Cel := fun t _ _ => ps_refl t _ _ _
  obtain ⟨hs, hi⟩ := hi
  unfold wp_X6_sheet wp_X7_sheet
  rcases hi with rfl | hi
  · have hin : vp_in (nI s) 4 := pn_in hs (by decide)
    refine psT hs (pb1 ?_)
    by_cases h2 : (-1) ≤ p2 ∧ p2 ≤ 1
    · refine pw6T h2 (pb1' ?_)
      have fin : ∀ z, z ≤ 24 → ∀ X : Int32, X = nI z → jp_X6_sheet_29 (nI s) p2 Sh wo (fun r So' Sz' Vl' => ∃ m, lp_X7_sheet_65 (nI s) (fun r' Sor' Siz' Cel' => r = r' ∧ ps_rel s So' Sz' Vl' Sor' Siz' Cel' ∧ ∀ t, t < 4 → t ≠ s → ps_st t Sor Siz Cel Sor' Siz' Cel') m 0 (upd Sor s p2) (upd Siz s X) Cel) X So Sz Vl := by
        intro z hz X hX
        subst hX
        unfold jp_X6_sheet_29 wp_X2_beginAnew
        refine pbT (by grind [pg_n]) (pbT (nI_pos' (by omega)) ⟨hin, by rw [pn_cl (by omega)]; exact hw, sp_J7_fill (fun g hg => ?_)⟩)
        refine sp_X7_sheet_65 hs (fun Cel' c1 c2 => ⟨by rw [pn_upd_self], ⟨by rw [pn_upd_self], by rw [pn_upd_self], ?_, ⟨z, hz, rfl⟩, fun k hk => by rw [hg k hk, c1 k hk]⟩, fun t ht hts => ⟨pn_upd_ne hts, pn_upd_ne hts, fun k hk => c2 _ ?_⟩⟩)
        · grind
        · by_cases e : t < s
          · left; omega
          · right; omega
      have fin2 : ∀ z, z ≤ 24 → ∀ X : Int32, X = nI z → (p2 < 0 → X = 0) → (¬ p2 < 0 → X = p3) → jp_X6_sheet_29 (nI s) p2 Sh wo (fun r So' Sz' Vl' => wp_X7_sheet (nI s) p2 p3 Sor Siz Cel (fun r' Sor' Siz' Cel' => r = r' ∧ ps_rel s So' Sz' Vl' Sor' Siz' Cel' ∧ ∀ t, t < 4 → t ≠ s → ps_st t Sor Siz Cel Sor' Siz' Cel')) X So Sz Vl := by
        intro z hz X hX e1 e2
        have hf := fin z hz X hX
        subst hX
        unfold jp_X6_sheet_29 wp_X2_beginAnew at hf ⊢
        have hf := (hf.1 (by grind [pg_n])).1 (nI_pos' (by omega))
        refine pbT (by grind [pg_n]) (pbT (nI_pos' (by omega)) ⟨hf.1, hf.2.1, ?_⟩)
        have hf := hf.2.2
        have mono : ∀ (P Q : (Nat → Int32) → Prop), (∀ g, P g → Q g) → wp_J7_fill_53178 0 Vl P → wp_J7_fill_53178 0 Vl Q := by
          intro P Q hPQ
          unfold wp_J7_fill_53178
          rintro ⟨m, hm⟩
          refine ⟨m, ?_⟩
          have : ∀ m i a g, lp_J7_fill_53178_5 0 P m i a g → lp_J7_fill_53178_5 0 Q m i a g := by
            intro m
            induction m with
            | zero => intro i a g h; exact h
            | succ m ih =>
              intro i a g h
              have h : lp_J7_fill_53178_5F 0 P (lp_J7_fill_53178_5 0 P m) i a g := h
              show lp_J7_fill_53178_5F 0 Q (lp_J7_fill_53178_5 0 Q m) i a g
              unfold lp_J7_fill_53178_5F at h ⊢
              exact ⟨fun z => hPQ _ (h.1 z), fun z => ⟨(h.2 z).1, ih _ _ _ (h.2 z).2⟩⟩
          exact this _ _ _ _ hm
        refine mono _ _ (fun g hg => ?_) hf
        unfold wp_X7_sheet
        refine psT7 hs (pb1 (pw7T h2 (pb1 ?_)))
        have j40 : jp_X7_sheet_40 (nI s) p2 p3 (fun r' Sor' Siz' Cel' => nI z = r' ∧ ps_rel s p2 (nI z) g Sor' Siz' Cel' ∧ ∀ t, t < 4 → t ≠ s → ps_st t Sor Siz Cel Sor' Siz' Cel') Sor Siz Cel := by
          unfold jp_X7_sheet_40
          rw [pn_cl (by omega)]
          refine ⟨hin, fun a => ⟨hin, ?_⟩, fun a => ⟨hin, ?_⟩⟩
          · rw [← e2 (by grind)]; exact hg
          · rw [show upd Siz s (0 : Int32) = upd Siz s (nI z) from by rw [e1 (by grind)]]; exact hg
        refine ⟨fun a => ⟨fun _ => j40, fun b => absurd a b⟩, fun a => ?_⟩
        have e3 := e2 a
        exact pbT (by rw [← e3]; grind [pg_n]) (pbF a (pbT (by rw [← e3]; exact nI_pos' (by omega)) j40))
      by_cases hm : p2 = -1
      · exact pbT' hm (fin2 0 (by omega) 0 rfl (fun _ => rfl) (fun z => absurd (by rw [hm]; decide) z))
      · refine pbF' hm ?_
        have hp : ¬ p2 < 0 := by grind
        by_cases ha : p3 ≤ 24
        · by_cases hb : 0 ≤ p3
          · obtain ⟨z, hz, ez⟩ := pn_k (x := p3) (m := 24) (by decide) ⟨hb, ha⟩
            exact fin2 z hz p3 ez (fun z => absurd z hp) (fun _ => rfl)
          · unfold jp_X6_sheet_29
            exact pbT ha (pbF hb (psT7 hs (pb1 (pw7T h2 (pb1 (pbF hp (pbT ha (pbF hp (pbF hb ⟨rfl, h, h0⟩)))))))))
        · unfold jp_X6_sheet_29
          exact pbF ha (psT7 hs (pb1 (pw7T h2 (pb1 (pbF hp (pbF ha ⟨rfl, h, h0⟩))))))
    · exact pw6F h2 (pb0' (psT7 hs (pb1 (pw7F h2 (pb0 ⟨rfl, h, h0⟩)))))
  · exact psF hi (pb0 (psF7 hi (pb0 ⟨rfl, h, h0⟩)))
theorem ps_hasT {k z : Nat} {Q : Int32 → Prop} (hk : k < z) (hz : z ≤ 24) (hS : Sz = nI z) (hq : Q 1) : wp_X2_has (nI k) Sz Q := by
  unfold wp_X2_has
  rw [hS]
  exact pbF (nI_pos (by omega)) (pbF (by grind [pg_n]) hq)
theorem ps_hasF {x : Int32} {z : Nat} {Q : Int32 → Prop} (hk : ¬ ∃ k, k < z ∧ x = nI k) (hz : z ≤ 24) (hS : Sz = nI z) (hq : Q 0) : wp_X2_has x Sz Q := by
  unfold wp_X2_has
  refine ⟨fun _ => hq, fun a => ⟨fun _ => hq, fun b => absurd ?_ hk⟩⟩
  rw [hS] at b
  exact pg_lt x z (by omega) (by grind) (by grind)
theorem ps_upd {k : Nat} {x : Int32} (hs : s < 4) (hk : k < 24) (h : ps_rel s So Sz Vl Sor Siz Cel) : ps_rel s So Sz (upd Vl k x) Sor Siz (upd Cel (24 * s + k) x) ∧ ∀ t, t < 4 → t ≠ s → ps_st t Sor Siz Cel Sor Siz (upd Cel (24 * s + k) x) := by
  obtain ⟨g1, g2, g3, g4, g5⟩ := h
  refine ⟨⟨g1, g2, g3, g4, fun j hj => ?_⟩, fun t ht hts => ⟨rfl, rfl, fun j hj => pn_upd_ne ?_⟩⟩
  · by_cases e : j = k
    · subst e; rw [pn_upd_self, pn_upd_self]
    · rw [pn_upd_ne e, pn_upd_ne (by omega)]; exact g5 j hj
  · by_cases e : t < s <;> omega
theorem j_mark (p1 p2 p3 : Int32) (hi : ps_is s p1) (h : ps_rel s So Sz Vl Sor Siz Cel) (hw : Sh s = some wo) : wp_X6_mark p1 p2 p3 Sh So Sz Vl wo (fun r Vl' => wp_X7_mark p1 p2 p3 Sor Siz Cel (fun r' Cel' => r = r' ∧ ps_rel s So Sz Vl' Sor Siz Cel' ∧ ∀ t, t < 4 → t ≠ s → ps_st t Sor Siz Cel Sor Siz Cel')) := by
  have h0 : ∀ t, t < 4 → t ≠ s → ps_st t Sor Siz Cel Sor Siz Cel := fun t _ _ => ps_refl t _ _ _
  obtain ⟨hs, hi⟩ := hi
  have hh := h
  obtain ⟨g1, g2, g3, ⟨z, hz, g4⟩, g5⟩ := h
  unfold wp_X6_mark wp_X7_mark
  rcases hi with rfl | hi
  · have hin : vp_in (nI s) 4 := pn_in hs (by decide)
    refine psT hs (pb1' ⟨hin, by rw [pn_cl (by omega)]; exact hw, ?_⟩)
    rw [pn_cl (by omega), ← g1, ← g2]
    by_cases hm : So = -1
    · exact sp_missT hm (pb1 (psT7 hs (pb1' ⟨hin, pbF (by rw [hm]; decide) ⟨rfl, hh, h0⟩⟩)))
    · obtain ⟨m1, m2⟩ := ps_sor g3 hm
      refine sp_missF hm (pb0 ?_)
      by_cases hk : ∃ k, k < z ∧ p2 = nI k
      · obtain ⟨k, hk, rfl⟩ := hk
        have rng : 0 ≤ nI k ∧ nI k ≤ Sz - 1 := by rw [g4]; grind [pg_n]
        have hin2 : vp_in (nI k) 24 := pn_in (by omega) (by decide)
        have hin3 : vp_in (nI (24 * s + k)) 96 := pn_in (by omega) (by decide)
        refine ps_hasT hk hz g4 (pb1' ?_)
        rw [pn_cl (by omega)]
        by_cases h0s : So = 0
        · refine pbT' h0s ?_
          by_cases hv : p3 = -1000000005
          · exact pbT' hv (psT7 hs (pb1' ⟨hin, pbT m1 ⟨hin, pw7T rng (pb1' ⟨hin, pbT' h0s (pbT' hv ⟨rfl, hh, h0⟩)⟩)⟩⟩))
          · refine pbF' hv ⟨hin2, psT7 hs (pb1' ⟨hin, pbT m1 ⟨hin, pw7T rng (pb1' ⟨hin, pbT' h0s (pbF' hv ?_)⟩)⟩⟩)⟩
            unfold jp_X7_mark_59 jp_X7_mark_89
            rw [pn_cl (by omega), ← g1, pn_ixs, pn_cl (by omega)]
            refine ⟨hin, pbF' (by rw [h0s]; decide) ⟨hin, pbT' h0s ⟨hin3, rfl, ps_upd hs (by omega) hh⟩⟩⟩
        · have h1s : So = 1 := by grind
          refine pbF' h0s ?_
          have done : ∀ X : Prop, vp_in (nI s) 4 ∧ ((¬ So = 0 → (vp_in (nI (24 * s + k)) 96 ∧ ((1 : Int32) = 1 ∧ ps_rel s So Sz (upd Vl k p3) Sor Siz (upd Cel (24 * s + k) p3) ∧ ∀ t, t < 4 → t ≠ s → ps_st t Sor Siz Cel Sor Siz (upd Cel (24 * s + k) p3)))) ∧ (So = 0 → X)) := fun X => ⟨hin, pbF' h0s ⟨hin3, rfl, ps_upd hs (by omega) hh⟩⟩
          by_cases hv : p3 = -1000000005
          · refine pbT hv ⟨hin2, psT7 hs (pb1' ⟨hin, pbT m1 ⟨hin, pw7T rng (pb1' ⟨hin, pbF' h0s ?_⟩)⟩⟩)⟩
            unfold jp_X7_mark_59 jp_X7_mark_89
            rw [pn_cl (by omega), ← g1, pn_ixs, pn_cl (by omega)]
            exact ⟨hin, pbT' h1s (pbT hv (done _))⟩
          · refine pbF hv ?_
            by_cases hr : (-99999) ≤ p3 ∧ p3 ≤ 99999
            · refine pw6T hr (pb1' ⟨hin2, psT7 hs (pb1' ⟨hin, pbT m1 ⟨hin, pw7T rng (pb1' ⟨hin, pbF' h0s ?_⟩)⟩⟩)⟩)
              unfold jp_X7_mark_59 jp_X7_mark_89
              rw [pn_cl (by omega), ← g1, pn_ixs, pn_cl (by omega)]
              exact ⟨hin, pbT' h1s (pbF hv (pw7T hr (pb1' (done _))))⟩
            · refine pw6F hr (pb0' (psT7 hs (pb1' ⟨hin, pbT m1 ⟨hin, pw7T rng (pb1' ⟨hin, pbF' h0s ?_⟩)⟩⟩)))
              unfold jp_X7_mark_59
              rw [pn_cl (by omega), ← g1]
              exact ⟨hin, pbT' h1s (pbF hv (pw7F hr (pb0' ⟨rfl, hh, h0⟩)))⟩
      · refine ps_hasF hk hz g4 (pb0' (psT7 hs (pb1' ⟨hin, pbT m1 ⟨hin, pw7F ?_ (pb0' ⟨rfl, hh, h0⟩)⟩⟩)))
        rw [g4]
        intro y
        exact hk (pg_lt p2 z (by omega) y.1 (by grind [pg_n]))
  · exact psF hi (pb0' (psF7 hi (pb0' ⟨rfl, hh, h0⟩)))
end
