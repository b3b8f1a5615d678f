/-! PURE: copy -/
section
variable {s u : Nat} {So Sz So2 Sz2 : Int32} {Vl Vl2 Sor Siz Cel Mov : Nat → Int32} {Sh : Nat → Option Nat} {wo vo : Nat}
theorem sp_stretch {x y : Int32} {z : Nat} {Q : Int32 → Prop} (hz : z ≤ 24) (hS : Sz = nI z) (h1 : ∀ a m : Nat, x = nI a → y = nI m → a + m ≤ z → Q 1) (h0 : ¬ (0 ≤ x ∧ 0 ≤ y ∧ x ≤ nI z - y) → Q 0) : wp_X2_hasStretch x y Sz Q := by
  unfold wp_X2_hasStretch
  rw [hS]
  refine ⟨fun a => h0 (by grind), fun a => ⟨fun b => h0 (by grind), fun b => ⟨fun c => h0 ?_, fun c => ⟨fun d => h0 ?_, fun d => ?_⟩⟩⟩⟩
  · rintro ⟨h1, h2, h3⟩
    grind [pg_n]
  · rintro ⟨h1, h2, h3⟩
    grind [pg_n]
  · obtain ⟨m, hm, rfl⟩ := pg_nat y (by grind)
    obtain ⟨k, hk, rfl⟩ := pg_nat x (by grind)
    exact h1 k m rfl rfl (by grind [pg_n])
theorem sp_X7_copy_103 {a b m : Nat} {Q : Int32 → (Nat → Int32) → (Nat → Int32) → Prop} (hs : s < 4) (hu : u < 4) (ha : a + m ≤ 24) (hb : b + m ≤ 24)
    (hq : ∀ Cel' Mov', (∀ j, Cel' j = if 24 * u + b ≤ j ∧ j < 24 * u + b + m then Cel (24 * s + a + (j - (24 * u + b))) else Cel j) → Q (nI m) Cel' Mov') : ∃ w, lp_X7_copy_103 (nI s) (nI a) (nI u) (nI b) (nI m) Q w 0 Cel Mov := by
  have L2 : ∀ (Mov : Nat → Int32), (∀ k, k < m → Mov k = Cel (24 * s + a + k)) → ∀ (w i : Nat) (Cel' : Nat → Int32), i + w = m → (∀ j, Cel' j = if 24 * u + b ≤ j ∧ j < 24 * u + b + i then Cel (24 * s + a + (j - (24 * u + b))) else Cel j) → lp_X7_copy_140 (nI u) (nI b) (nI m) Q (w + 1) (nI i) Cel' Mov := by
    intro Mov hM w
    induction w with
    | zero =>
      intro i Cel' hi hC
      show lp_X7_copy_140F (nI u) (nI b) (nI m) Q _ (nI i) Cel' Mov
      unfold lp_X7_copy_140F
      obtain rfl : i = m := by omega
      exact pbT (by grind [pg_n]) (hq Cel' Mov hC)
    | succ w ih =>
      intro i Cel' hi hC
      show lp_X7_copy_140F (nI u) (nI b) (nI m) Q (lp_X7_copy_140 (nI u) (nI b) (nI m) Q (w + 1)) (nI i) Cel' Mov
      unfold lp_X7_copy_140F
      rw [pn_ixs, nI_add, pn_cl (show 24 * u + b + i < 2 ^ 31 by omega), pn_cl (show i < 2 ^ 31 by omega), pn_p1, hM i (by omega)]
      refine pbF (by grind [pg_n]) ⟨pn_in (by omega) (by decide), pn_in (by omega) (by decide), ih (i + 1) _ (by omega) (fun j => ?_)⟩
      by_cases e : j = 24 * u + b + i
      · subst e
        rw [pn_upd_self, if_pos (by omega)]
        congr 1
        omega
      · rw [pn_upd_ne e, hC j]
        by_cases e2 : 24 * u + b ≤ j ∧ j < 24 * u + b + i
        · rw [if_pos e2, if_pos (by omega)]
        · rw [if_neg e2, if_neg (by omega)]
  have L1 : ∀ (w i : Nat) (Mov : Nat → Int32), i + w = m → (∀ k, k < i → Mov k = Cel (24 * s + a + k)) → lp_X7_copy_103 (nI s) (nI a) (nI u) (nI b) (nI m) Q (w + 1) (nI i) Cel Mov := by
    intro w
    induction w with
    | zero =>
      intro i Mov hi hM
      show lp_X7_copy_103F (nI s) (nI a) (nI u) (nI b) (nI m) Q _ (nI i) Cel Mov
      unfold lp_X7_copy_103F
      obtain rfl : i = m := by omega
      exact pbT (by grind [pg_n]) ⟨i + 1, L2 Mov hM i 0 Cel (by omega) (fun j => by rw [if_neg (by omega)])⟩
    | succ w ih =>
      intro i Mov hi hM
      show lp_X7_copy_103F (nI s) (nI a) (nI u) (nI b) (nI m) Q (lp_X7_copy_103 (nI s) (nI a) (nI u) (nI b) (nI m) Q (w + 1)) (nI i) Cel Mov
      unfold lp_X7_copy_103F
      rw [pn_ixs, nI_add, pn_cl (show 24 * s + a + i < 2 ^ 31 by omega), pn_cl (show i < 2 ^ 31 by omega), pn_p1]
      refine pbF (by grind [pg_n]) ⟨pn_in (by omega) (by decide), pn_in (by omega) (by decide), ih (i + 1) _ (by omega) (fun k hk => ?_)⟩
      by_cases e : k = i
      · subst e; rw [pn_upd_self]
      · rw [pn_upd_ne e]; exact hM k (by omega)
  exact ⟨m + 1, L1 m 0 Mov (by omega) (fun k hk => absurd hk (by omega))⟩
/-- the reference's copy where both sheets are there -/
theorem sp_X7_copy {x y w : Int32} {z z2 : Nat} {Q : Int32 → (Nat → Int32) → (Nat → Int32) → Prop} (hs : s < 4) (hu : u < 4) (hz : z ≤ 24) (hz2 : z2 ≤ 24) (m1 : 0 ≤ Sor s) (m2 : 0 ≤ Sor u) (e : Sor s = Sor u) (e1 : Siz s = nI z) (e2 : Siz u = nI z2)
    (h0 : ¬ (0 ≤ x ∧ 0 ≤ w ∧ x ≤ nI z - w) ∨ ¬ (0 ≤ y ∧ 0 ≤ w ∧ y ≤ nI z2 - w) → Q (-1000000013) Cel Mov)
    (hq : ∀ a b m : Nat, x = nI a → y = nI b → w = nI m → a + m ≤ z → b + m ≤ z2 → ∀ Cel' Mov', (∀ j, Cel' j = if 24 * u + b ≤ j ∧ j < 24 * u + b + m then Cel (24 * s + a + (j - (24 * u + b))) else Cel j) → Q (nI m) Cel' Mov') : wp_X7_copy (nI s) x (nI u) y w Sor Siz Cel Mov Q := by
  have hin : vp_in (nI s) 4 := pn_in hs (by decide)
  have hin2 : vp_in (nI u) 4 := pn_in hu (by decide)
  unfold wp_X7_copy
  refine psT7 hs (pb1 (psT7 hu (pb1' ⟨hin, ?_⟩)))
  rw [pn_cl (show s < 2 ^ 31 by omega), pn_cl (show u < 2 ^ 31 by omega), e1, e2]
  refine pbF (by grind) ⟨hin2, pbT m2 ⟨hin, hin2, pbT e ⟨fun a => h0 (by grind), fun a => ⟨fun b => h0 (by grind), fun b => ⟨fun c => h0 (by grind), fun c => ⟨hin, fun d => h0 (by grind), fun d => ⟨hin2, fun f => ?_, fun f => h0 (by grind)⟩⟩⟩⟩⟩⟩⟩
  obtain ⟨m, hm, rfl⟩ := pg_nat w (by grind)
  obtain ⟨k, hk, rfl⟩ := pg_nat x (by grind)
  obtain ⟨l, hl, rfl⟩ := pg_nat y (by grind)
  have i1 : k + m ≤ z := by grind [pg_n]
  have i2 : l + m ≤ z2 := by grind [pg_n]
  exact sp_X7_copy_103 hs hu (by omega) (by omega) (fun Cel' Mov' hC => hq k l m rfl rfl rfl i1 i2 Cel' Mov' hC)
theorem ps_copied {a b m : Nat} {Cel' : Nat → Int32} (hs : s < 4) (hu : u < 4) (h2 : ps_rel u So2 Sz2 Vl2 Sor Siz Cel) (hv : ∀ k, k < 24 → Vl k = Cel (24 * s + k)) (ha : a + m ≤ 24) (hb : b + m ≤ 24) (hC : ∀ j, Cel' j = if 24 * u + b ≤ j ∧ j < 24 * u + b + m then Cel (24 * s + a + (j - (24 * u + b))) else Cel j) : ps_rel u So2 Sz2 (va_cpy Vl Vl2 a b m) Sor Siz Cel' ∧ ∀ t, t < 4 → t ≠ u → ps_st t Sor Siz Cel Sor Siz Cel' := by
  obtain ⟨g1, g2, g3, g4, g5⟩ := h2
  refine ⟨⟨g1, g2, g3, g4, fun k hk => ?_⟩, fun t ht htu => ⟨rfl, rfl, fun k hk => ?_⟩⟩
  · rw [pg_cpy, hC]
    by_cases e : b ≤ k ∧ k < b + m
    · rw [if_pos e, if_pos (by omega), hv _ (by omega)]
      congr 1
      omega
    · rw [if_neg e, if_neg (by omega)]
      exact g5 k hk
  · rw [hC, if_neg]
    by_cases e : t < u <;> omega
theorem j_copy (p2 p4 p5 : Int32) (hs : s < 4) (hu : u < 4) (hsu : s ≠ u) (h : ps_rel s So Sz Vl Sor Siz Cel) (h2 : ps_rel u So2 Sz2 Vl2 Sor Siz Cel) (hw : Sh s = some wo) (hv : Sh u = some vo) : wp_X6_copy (nI s) p2 (nI u) p4 p5 Sh So Sz Vl So2 Sz2 Vl2 wo vo (fun r Vl2' => wp_X7_copy (nI s) p2 (nI u) p4 p5 Sor Siz Cel Mov (fun r' Cel' _ => r = r' ∧ ps_rel u So2 Sz2 Vl2' Sor Siz Cel' ∧ ∀ t, t < 4 → t ≠ u → ps_st t Sor Siz Cel Sor Siz Cel')) := by
  have h0 : ∀ t, t < 4 → t ≠ u → ps_st t Sor Siz Cel Sor Siz Cel := fun t _ _ => ps_refl t _ _ _
  have hin : vp_in (nI s) 4 := pn_in hs (by decide)
  have hin2 : vp_in (nI u) 4 := pn_in hu (by decide)
  obtain ⟨g1, g2, g3, ⟨z, hz, g4⟩, g5⟩ := h
  have hh2 := h2
  obtain ⟨k1, k2, k3, ⟨z2, hz2, k4⟩, k5⟩ := h2
  unfold wp_X6_copy
  refine psT hs (pb1 (psT hu (pb1' ⟨hin, by rw [pn_cl (by omega)]; exact hw, hin2, by rw [pn_cl (by omega)]; exact hv, ?_⟩)))
  by_cases hm : So = -1
  · refine sp_missT hm (pb1' ?_)
    unfold wp_X7_copy
    refine psT7 hs (pb1 (psT7 hu (pb1' ⟨hin, pbT ?_ ⟨rfl, hh2, h0⟩⟩)))
    rw [pn_cl (by omega), ← g1, hm]; decide
  · obtain ⟨m1, m2⟩ := ps_sor g3 hm
    refine sp_missF hm (pb0' ?_)
    by_cases hm2 : So2 = -1
    · refine sp_missT hm2 (pb1 ?_)
      unfold wp_X7_copy
      refine psT7 hs (pb1 (psT7 hu (pb1' ⟨hin, pbF ?_ ⟨hin2, pbF ?_ ⟨rfl, hh2, h0⟩⟩⟩)))
      · rw [pn_cl (by omega), ← g1]; exact m2
      · rw [pn_cl (by omega), ← k1, hm2]; decide
    · obtain ⟨m3, m4⟩ := ps_sor k3 hm2
      refine sp_missF hm2 (pb0 ?_)
      by_cases he : So = So2
      · refine pbT he ?_
        have ref : ∀ (Q : Int32 → (Nat → Int32) → (Nat → Int32) → Prop), (¬ (0 ≤ p2 ∧ 0 ≤ p5 ∧ p2 ≤ nI z - p5) ∨ ¬ (0 ≤ p4 ∧ 0 ≤ p5 ∧ p4 ≤ nI z2 - p5) → Q (-1000000013) Cel Mov) → (∀ a b m : Nat, p2 = nI a → p4 = nI b → p5 = nI m → a + m ≤ z → b + m ≤ z2 → ∀ Cel' Mov', (∀ j, Cel' j = if 24 * u + b ≤ j ∧ j < 24 * u + b + m then Cel (24 * s + a + (j - (24 * u + b))) else Cel j) → Q (nI m) Cel' Mov') → wp_X7_copy (nI s) p2 (nI u) p4 p5 Sor Siz Cel Mov Q := fun Q q0 q1 => sp_X7_copy hs hu hz hz2 (by rw [← g1]; exact m1) (by rw [← k1]; exact m3) (by rw [← g1, ← k1]; exact he) (by rw [← g2]; exact g4) (by rw [← k2]; exact k4) q0 q1
        refine sp_stretch hz g4 (fun a m ea em ham => pb1 ?_) (fun hn => pb0 (ref _ (fun _ => ⟨rfl, hh2, h0⟩) (fun a b m ea eb em ha hb => ?_)))
        · refine sp_stretch hz2 k4 (fun b m' eb em' hbm => pb1' ?_) (fun hn => pb0' (ref _ (fun _ => ⟨rfl, hh2, h0⟩) (fun a b m ea eb em ha hb => ?_)))
          · subst ea eb em
            have : m = m' := by
              have hm1 : m < 2 ^ 31 := by omega
              have hm2 : m' < 2 ^ 31 := by omega
              exact (nI_eq hm1 hm2).mp em'
            subst this
            rw [pn_cl (by omega), pn_cl (by omega), pn_cl (by omega)]
            refine ⟨⟨nI_pos (by omega), nI_pos (by omega), nI_pos (by omega), by omega, by omega⟩, ref _ (fun y => absurd y (by grind [pg_n])) (fun a' b' m' ea eb em ha hb Cel' Mov' hC => ?_)⟩
            obtain rfl : a = a' := (nI_eq (by omega) (by omega)).mp ea
            obtain rfl : b = b' := (nI_eq (by omega) (by omega)).mp eb
            obtain rfl : m = m' := (nI_eq (by omega) (by omega)).mp em
            exact ⟨rfl, ps_copied hs hu hh2 g5 (by omega) (by omega) hC⟩
          · exfalso
            subst ea eb em
            grind [pg_n]
        · exfalso
          subst ea eb em
          grind [pg_n]
      · refine pbF he ?_
        unfold wp_X7_copy
        rw [pn_cl (show s < 2 ^ 31 by omega), pn_cl (show u < 2 ^ 31 by omega), ← g1, ← k1]
        exact psT7 hs (pb1 (psT7 hu (pb1' ⟨hin, pbF m2 ⟨hin2, pbT m3 ⟨hin, hin2, pbF he ⟨rfl, hh2, h0⟩⟩⟩⟩)))
theorem j_copy_s (p1 p2 p3 p4 p5 : Int32) (hs : s < 4) (hi : (p1 = nI s ∧ (p3 = nI s ∨ ¬ (0 ≤ p3 ∧ p3 ≤ 3))) ∨ ¬ (0 ≤ p1 ∧ p1 ≤ 3)) (h : ps_rel s So Sz Vl Sor Siz Cel) (hw : Sh s = some wo) : wp_X6_copy_s p1 p2 p3 p4 p5 Sh So Sz Vl wo (fun r Vl' => wp_X7_copy p1 p2 p3 p4 p5 Sor Siz Cel Mov (fun r' Cel' _ => r = r' ∧ ps_rel s So Sz Vl' Sor Siz Cel' ∧ ∀ t, t < 4 → t ≠ s → ps_st t Sor Siz Cel Sor Siz Cel')) := by
  have h0 : ∀ t, t < 4 → t ≠ s → ps_st t Sor Siz Cel Sor Siz Cel := fun t _ _ => ps_refl t _ _ _
  have hin : vp_in (nI s) 4 := pn_in hs (by decide)
  have hh := h
  obtain ⟨g1, g2, g3, ⟨z, hz, g4⟩, g5⟩ := h
  unfold wp_X6_copy_s
  rcases hi with ⟨rfl, hi⟩ | hi
  · refine psT hs (pb1 ?_)
    rcases hi with rfl | hi
    · refine psT hs (pb1' ⟨hin, by rw [pn_cl (by omega)]; exact hw, hin, by rw [pn_cl (by omega)]; exact hw, ?_⟩)
      by_cases hm : So = -1
      · refine sp_missT hm (pb1' ?_)
        unfold wp_X7_copy
        refine psT7 hs (pb1 (psT7 hs (pb1' ⟨hin, pbT ?_ ⟨rfl, hh, h0⟩⟩)))
        rw [pn_cl (by omega), ← g1, hm]; decide
      · obtain ⟨m1, m2⟩ := ps_sor g3 hm
        refine sp_missF hm (pb0' (sp_missF hm (pb0 (pbT rfl ?_))))
        have ref : ∀ (Q : Int32 → (Nat → Int32) → (Nat → Int32) → Prop), (¬ (0 ≤ p2 ∧ 0 ≤ p5 ∧ p2 ≤ nI z - p5) ∨ ¬ (0 ≤ p4 ∧ 0 ≤ p5 ∧ p4 ≤ nI z - p5) → Q (-1000000013) Cel Mov) → (∀ a b m : Nat, p2 = nI a → p4 = nI b → p5 = nI m → a + m ≤ z → b + m ≤ z → ∀ Cel' Mov', (∀ j, Cel' j = if 24 * s + b ≤ j ∧ j < 24 * s + b + m then Cel (24 * s + a + (j - (24 * s + b))) else Cel j) → Q (nI m) Cel' Mov') → wp_X7_copy (nI s) p2 (nI s) p4 p5 Sor Siz Cel Mov Q := fun Q q0 q1 => sp_X7_copy hs hs hz hz (by rw [← g1]; exact m1) (by rw [← g1]; exact m1) rfl (by rw [← g2]; exact g4) (by rw [← g2]; exact g4) q0 q1
        refine sp_stretch hz g4 (fun a m ea em ham => pb1 ?_) (fun hn => pb0 (ref _ (fun _ => ⟨rfl, hh, h0⟩) (fun a b m ea eb em ha hb => ?_)))
        · refine sp_stretch hz g4 (fun b m' eb em' hbm => pb1' ?_) (fun hn => pb0' (ref _ (fun _ => ⟨rfl, hh, h0⟩) (fun a b m ea eb em ha hb => ?_)))
          · subst ea eb em
            have : m = m' := by
              have hm1 : m < 2 ^ 31 := by omega
              have hm2 : m' < 2 ^ 31 := by omega
              exact (nI_eq hm1 hm2).mp em'
            subst this
            rw [pn_cl (by omega), pn_cl (by omega), pn_cl (by omega)]
            refine ⟨⟨nI_pos (by omega), nI_pos (by omega), nI_pos (by omega), by omega, by omega⟩, ref _ (fun y => absurd y (by grind [pg_n])) (fun a' b' m' ea eb em ha hb Cel' Mov' hC => ?_)⟩
            obtain rfl : a = a' := (nI_eq (by omega) (by omega)).mp ea
            obtain rfl : b = b' := (nI_eq (by omega) (by omega)).mp eb
            obtain rfl : m = m' := (nI_eq (by omega) (by omega)).mp em
            exact ⟨rfl, ps_copied hs hs hh g5 (by omega) (by omega) hC⟩
          · exfalso
            subst ea eb em
            grind [pg_n]
        · exfalso
          subst ea eb em
          grind [pg_n]
    · refine psF hi (pb0' ?_)
      unfold wp_X7_copy
      exact psT7 hs (pb1 (psF7 hi (pb0' ⟨rfl, hh, h0⟩)))
  · refine psF hi (pb0 ?_)
    unfold wp_X7_copy
    exact psF7 hi (pb0 ⟨rfl, hh, h0⟩)
end
