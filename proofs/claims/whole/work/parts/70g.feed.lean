/-! PURE: feed -/
def pf_wb (w : Int32) (i : Nat) : Int32 := rc_ushr w (nI (24 - 8 * i)) &&& 255
theorem pf_255 : ∀ j, j < 32 → ¬ j < 8 → (255#32).getLsbD j = false := by decide
theorem pf_bits (w : Int32) (i : Nat) (hi : i < 4) : (w >>> nI (24 - 8 * i)) &&& 255 = pf_wb w i := by
  unfold pf_wb rc_ushr
  apply Int32.toBitVec_inj.mp
  have : i = 0 ∨ i = 1 ∨ i = 2 ∨ i = 3 := by omega
  rcases this with rfl | rfl | rfl | rfl
  all_goals
    apply BitVec.eq_of_getLsbD_eq
    intro j hj
    by_cases h8 : j < 8
    · have : j = 0 ∨ j = 1 ∨ j = 2 ∨ j = 3 ∨ j = 4 ∨ j = 5 ∨ j = 6 ∨ j = 7 := by omega
      rcases this with rfl | rfl | rfl | rfl | rfl | rfl | rfl | rfl <;> simp [BitVec.getElem_sshiftRight, nI]
    · simp [BitVec.getLsbD_and, pf_255 j hj h8]
theorem pf_wb_nI (w : Int32) (i : Nat) : ∃ b, b < 256 ∧ pf_wb w i = nI b := by
  unfold pf_wb
  generalize rc_ushr w (nI (24 - 8 * i)) = x
  refine ⟨(x &&& 255).toBitVec.toNat, ?_, ?_⟩
  · show (x.toBitVec &&& 255#32).toNat < 256
    rw [BitVec.toNat_and]
    have : x.toBitVec.toNat &&& (255#32).toNat ≤ (255#32).toNat := Nat.and_le_right
    have e : (255#32).toNat = 255 := by decide
    omega
  · apply Int32.toBitVec_inj.mp
    apply BitVec.eq_of_toNat_eq
    rw [pk_tn]
    exact (x &&& 255).toBitVec.isLt
def pf_put (w : Int32) (L : Nat) (By : Nat → Int32) : Nat → Int32 := fun k => if L ≤ k ∧ k < L + 4 then pf_wb w (k - L) else By k
theorem sp_X0_takeBytes {w : Int32} {L : Nat} {By : Nat → Int32} {Q : Int32 → (Nat → Int32) → Prop} (hL : L + 4 ≤ 96) (hq : Q (nI (L + 4)) (pf_put w L By)) : wp_X0_takeBytes w (nI L) By Q := by
  unfold wp_X0_takeBytes
  refine ⟨5, ?_⟩
  have L1 : ∀ (m i : Nat) (g : Nat → Int32), i + m = 4 → (∀ k, g k = if L ≤ k ∧ k < L + i then pf_wb w (k - L) else By k) → lp_X0_takeBytes_3 w Q (m + 1) (24 - nI (8 * i)) (nI (L + i)) g := by
    intro m
    induction m with
    | zero =>
      intro i g hi hg
      obtain rfl : i = 4 := by omega
      show lp_X0_takeBytes_3F w Q _ (24 - nI (8 * 4)) (nI (L + 4)) g
      unfold lp_X0_takeBytes_3F
      refine pbT (by decide) ?_
      have : g = pf_put w L By := funext (fun k => hg k)
      rw [this]
      exact hq
    | succ m ih =>
      intro i g hi hg
      show lp_X0_takeBytes_3F w Q (lp_X0_takeBytes_3 w Q (m + 1)) (24 - nI (8 * i)) (nI (L + i)) g
      unfold lp_X0_takeBytes_3F
      rw [pn_cl (by omega), show nI (L + i) + 1 = nI (L + (i + 1)) from pn_p1 _, show (24 : Int32) - nI (8 * i) + (-8) = 24 - nI (8 * (i + 1)) from by grind [pg_n], show (24 : Int32) - nI (8 * i) = nI (24 - 8 * i) from by grind [pg_n]]
      refine pbF (nI_pos (by omega)) (pbF (by grind [pg_n]) ⟨pn_in (by omega) (by decide), ?_⟩)
      refine ih (i + 1) _ (by omega) (fun k => ?_)
      by_cases e : k = L + i
      · subst e
        rw [pn_upd_self, if_pos (by omega), show L + i - L = i by omega]
        rfl
      · rw [pn_upd_ne e, hg k]
        by_cases e2 : L ≤ k ∧ k < L + i
        · rw [if_pos e2, if_pos (by omega)]
        · rw [if_neg e2, if_neg (by omega)]
  exact L1 4 0 By (by omega) (fun k => by rw [if_neg (by omega)])
def pf_b (a b c : Int32) (j : Nat) : Int32 := if j < 4 then pf_wb a j else if j < 8 then pf_wb b (j - 4) else pf_wb c (j - 8)
theorem pf_b_nI (a b c : Int32) (j : Nat) : ∃ v, v < 256 ∧ pf_b a b c j = nI v := by
  unfold pf_b
  split
  · exact pf_wb_nI _ _
  · split
    · exact pf_wb_nI _ _
    · exact pf_wb_nI _ _
theorem pf_sh (w : Int32) : ∀ i, i < 12 → (w >>> ((24 - (8 * (rc_rem (nI i) 4))) &&& 31)) &&& 255 = pf_wb w (i % 4) := by
  intro i hi
  rw [← pf_bits w (i % 4) (Nat.mod_lt _ (by decide))]
  have : ∀ i, i < 12 → ((24 : Int32) - (8 * (rc_rem (nI i) 4))) &&& 31 = nI (24 - 8 * (i % 4)) := by decide +kernel
  rw [this i hi]
theorem j_feed (p1 p2 p3 Ln Tp : Int32) (By Tap : Nat → Int32) (h : pf_rel Ln Tp By Tap) : wp_X6_feed p1 p2 p3 Ln By (fun r Ln' By' => wp_X7_feed p1 p2 p3 Tp Tap (fun r' Tp' Tap' => r = r' ∧ pf_rel Ln' Tp' By' Tap')) := by
  have hh := h
  obtain ⟨L, hL, rfl, rfl, hb⟩ := h
  unfold wp_X6_feed wp_X7_feed
  rw [show nI L + 12 = nI (L + 12) from nI_add L 12]
  by_cases hc : L + 12 ≤ 96
  · refine pbT (by grind [pg_n]) (sp_X0_takeBytes (by omega) (sp_X0_takeBytes (by omega) (sp_X0_takeBytes (by omega) (pbT (by grind [pg_n]) ⟨13, ?_⟩))))
    have L1 : ∀ (Q : Int32 → Int32 → (Nat → Int32) → Prop), (∀ g, (∀ k, g k = if L ≤ k ∧ k < L + 12 then pf_b p1 p2 p3 (k - L) else Tap k) → Q (nI (L + 12)) (nI (L + 12)) g) → ∀ (m i : Nat) (g : Nat → Int32), i + m = 12 → (∀ k, g k = if L ≤ k ∧ k < L + i then pf_b p1 p2 p3 (k - L) else Tap k) → lp_X7_feed_18 p1 p2 p3 Q (m + 1) (nI i) (nI L) g := by
      intro Q hq m
      induction m with
      | zero =>
        intro i g hi hg
        obtain rfl : i = 12 := by omega
        show lp_X7_feed_18F p1 p2 p3 Q _ (nI 12) (nI L) g
        unfold lp_X7_feed_18F
        rw [show nI L + 12 = nI (L + 12) from nI_add L 12]
        exact pbT (by decide) (hq g hg)
      | succ m ih =>
        intro i g hi hg
        show lp_X7_feed_18F p1 p2 p3 Q (lp_X7_feed_18 p1 p2 p3 Q (m + 1)) (nI i) (nI L) g
        unfold lp_X7_feed_18F
        have go : ∀ y : Int32, pf_b p1 p2 p3 i = pf_wb y (i % 4) → jp_X7_feed_47 (lp_X7_feed_18 p1 p2 p3 Q (m + 1)) (nI i) y (nI L) g := by
          intro y hy
          unfold jp_X7_feed_47
          rw [nI_add, pn_cl (by omega), pf_sh y i (by omega), ← hy, pn_p1]
          refine ⟨pn_in (by omega) (by decide), ih (i + 1) _ (by omega) (fun k => ?_)⟩
          by_cases e : k = L + i
          · subst e
            rw [pn_upd_self, if_pos (by omega), show L + i - L = i by omega]
          · rw [pn_upd_ne e, hg k]
            by_cases e2 : L ≤ k ∧ k < L + i
            · rw [if_pos e2, if_pos (by omega)]
            · rw [if_neg e2, if_neg (by omega)]
        refine pbF (by grind [pg_n]) ⟨fun a => ⟨fun b => go p3 ?_, fun b => go p2 ?_⟩, fun a => go p1 ?_⟩
        · have : 8 ≤ i := by grind [pg_n]
          unfold pf_b
          rw [if_neg (by omega), if_neg (by omega), show i % 4 = i - 8 by omega]
        · have h4 : 4 ≤ i := by grind [pg_n]
          have h8 : i < 8 := by grind [pg_n]
          unfold pf_b
          rw [if_neg (by omega), if_pos h8, show i % 4 = i - 4 by omega]
        · have h4 : i < 4 := by grind [pg_n]
          unfold pf_b
          rw [if_pos h4, show i % 4 = i by omega]
    refine L1 _ (fun g hg => ⟨rfl, L + 12, by omega, rfl, rfl, fun k hk => ?_⟩) 12 0 Tap (by omega) (fun k => by rw [if_neg (by omega)])
    have e6 : pf_put p3 (L + 4 + 4) (pf_put p2 (L + 4) (pf_put p1 L By)) k = if L ≤ k then pf_b p1 p2 p3 (k - L) else By k := by
      unfold pf_put pf_b
      grind
    rw [e6, hg k]
    by_cases e : L ≤ k
    · rw [if_pos e, if_pos ⟨e, hk⟩]
      obtain ⟨v, hv, ev⟩ := pf_b_nI p1 p2 p3 (k - L)
      exact ⟨v, hv, ev, ev⟩
    · rw [if_neg e, if_neg (fun y => e y.1)]
      exact hb k (by omega)
  · exact pbF (by grind [pg_n]) (pbF (by grind [pg_n]) ⟨rfl, hh⟩)
