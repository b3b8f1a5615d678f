/-! PURE: words and signs of the tape -/
def pv_l (x : Nat) : Prop := 97 ≤ x ∧ x ≤ 122
def pv_d (x : Nat) : Prop := 48 ≤ x ∧ x ≤ 57
/-- the sort of a byte, as the class has it -/
def pv_so (x : Nat) : Nat := if 97 ≤ x ∧ x ≤ 122 then 0 else if 48 ≤ x ∧ x ≤ 57 then 1 else 2
def pv_sk (b : Nat → Nat) (L : Nat) : Nat → Nat → Nat
  | 0, e => e
  | f + 1, e => if e < L ∧ b e = 32 then pv_sk b L f (e + 1) else e
def pv_run (b : Nat → Nat) (L s : Nat) : Nat → Nat → Nat
  | 0, e => e
  | f + 1, e => if e < L ∧ pv_so (b e) = s then pv_run b L s f (e + 1) else e
/-- the next one behind e: where it begins -/
def pv_st (b : Nat → Nat) (L e : Nat) : Nat := pv_sk b L (L - e) e
/-- where one that begins at s ends -/
def pv_en (b : Nat → Nat) (L s : Nat) : Nat := if L ≤ s then s else if pv_so (b s) = 2 then s + 1 else pv_run b L (pv_so (b s)) (L - (s + 1)) (s + 1)
def pv_gl (b : Nat → Nat) (s : Nat) : Prop := 0 < s ∧ pv_so (b (s - 1)) ≠ 2
def pv_num (b : Nat → Nat) (s : Nat) : Nat → Nat
  | 0 => 0
  | k + 1 => 10 * pv_num b s k + (b (s + k) - 48)
section
variable {b : Nat → Nat} {L : Nat}
theorem pv_so3 (x : Nat) : pv_so x = 0 ∨ pv_so x = 1 ∨ pv_so x = 2 := by unfold pv_so; grind
theorem pv_sk_S (f e : Nat) : pv_sk b L (f + 1) e = if e < L ∧ b e = 32 then pv_sk b L f (e + 1) else e := rfl
theorem pv_run_S (s f e : Nat) : pv_run b L s (f + 1) e = if e < L ∧ pv_so (b e) = s then pv_run b L s f (e + 1) else e := rfl
theorem pv_sk_p : ∀ f e, e + f = L → e ≤ pv_sk b L f e ∧ pv_sk b L f e ≤ L ∧ (∀ j, e ≤ j → j < pv_sk b L f e → b j = 32) ∧ (pv_sk b L f e < L → b (pv_sk b L f e) ≠ 32) := by
  intro f
  induction f with
  | zero => intro e he; exact ⟨Nat.le_refl _, by show e ≤ L; omega, fun j h1 h2 => absurd h2 (by show ¬ j < e; omega), fun h => absurd h (by show ¬ e < L; omega)⟩
  | succ f ih =>
    intro e he
    rw [pv_sk_S]
    by_cases h : e < L ∧ b e = 32
    · rw [if_pos h]
      obtain ⟨a1, a2, a3, a4⟩ := ih (e + 1) (by omega)
      refine ⟨by omega, a2, fun j h1 h2 => ?_, a4⟩
      by_cases ej : j = e
      · subst ej; exact h.2
      · exact a3 j (by omega) h2
    · rw [if_neg h]
      exact ⟨Nat.le_refl _, by omega, fun j h1 h2 => absurd h2 (by omega), fun hl y => h ⟨hl, y⟩⟩
theorem pv_run_p {s : Nat} : ∀ f e, e + f = L → e ≤ pv_run b L s f e ∧ pv_run b L s f e ≤ L ∧ (∀ j, e ≤ j → j < pv_run b L s f e → pv_so (b j) = s) ∧ (pv_run b L s f e < L → pv_so (b (pv_run b L s f e)) ≠ s) := by
  intro f
  induction f with
  | zero => intro e he; exact ⟨Nat.le_refl _, by show e ≤ L; omega, fun j h1 h2 => absurd h2 (by show ¬ j < e; omega), fun h => absurd h (by show ¬ e < L; omega)⟩
  | succ f ih =>
    intro e he
    rw [pv_run_S]
    by_cases h : e < L ∧ pv_so (b e) = s
    · rw [if_pos h]
      obtain ⟨a1, a2, a3, a4⟩ := ih (e + 1) (by omega)
      refine ⟨by omega, a2, fun j h1 h2 => ?_, a4⟩
      by_cases ej : j = e
      · subst ej; exact h.2
      · exact a3 j (by omega) h2
    · rw [if_neg h]
      exact ⟨Nat.le_refl _, by omega, fun j h1 h2 => absurd h2 (by omega), fun hl y => h ⟨hl, y⟩⟩
theorem pv_st_p {e : Nat} (he : e ≤ L) : e ≤ pv_st b L e ∧ pv_st b L e ≤ L ∧ (∀ j, e ≤ j → j < pv_st b L e → b j = 32) ∧ (pv_st b L e < L → b (pv_st b L e) ≠ 32) := pv_sk_p (L - e) e (by omega)
theorem pv_en_p {s : Nat} (hs : s < L) : s < pv_en b L s ∧ pv_en b L s ≤ L ∧ (pv_so (b s) = 2 → pv_en b L s = s + 1) ∧ (pv_so (b s) ≠ 2 → (∀ j, s ≤ j → j < pv_en b L s → pv_so (b j) = pv_so (b s)) ∧ (pv_en b L s < L → pv_so (b (pv_en b L s)) ≠ pv_so (b s))) := by
  unfold pv_en
  rw [if_neg (by omega)]
  by_cases h : pv_so (b s) = 2
  · rw [if_pos h]
    exact ⟨by omega, by omega, fun _ => rfl, fun y => absurd h y⟩
  · rw [if_neg h]
    obtain ⟨a1, a2, a3, a4⟩ := pv_run_p (b := b) (L := L) (s := pv_so (b s)) (L - (s + 1)) (s + 1) (by omega)
    refine ⟨by omega, a2, fun y => absurd y h, fun _ => ⟨fun j h1 h2 => ?_, a4⟩⟩
    by_cases ej : j = s
    · subst ej; rfl
    · exact a3 j (by omega) h2
theorem pv_en_L {s : Nat} (h : L ≤ s) : pv_en b L s = s := by unfold pv_en; rw [if_pos h]
def pv_by (By : Nat → Int32) (b : Nat → Nat) (L : Nat) : Prop := ∀ k, k < L → b k < 256 ∧ By k = nI (b k)
theorem sp_X0_sortOf {x : Nat} {Q : Int32 → Prop} (hx : x < 256) (hq : Q (nI (pv_so x))) : wp_X0_sortOf (nI x) Q := by
  unfold wp_X0_sortOf jp_X0_sortOf_14
  unfold pv_so at hq
  by_cases h1 : 97 ≤ x ∧ x ≤ 122
  · rw [if_pos h1] at hq
    exact pbF (by grind [pg_n]) (pbF (by grind [pg_n]) hq)
  · rw [if_neg h1] at hq
    have : (nI x < 48 → Q 2) ∧ (¬ (nI x < 48) → ((57 < nI x → Q 2) ∧ (¬ (57 < nI x) → Q 1))) := by
      by_cases h2 : 48 ≤ x ∧ x ≤ 57
      · rw [if_pos h2] at hq
        exact pbF (by grind [pg_n]) (pbF (by grind [pg_n]) hq)
      · rw [if_neg h2] at hq
        refine ⟨fun _ => hq, fun y => ⟨fun _ => hq, fun z => ?_⟩⟩
        grind [pg_n]
    refine ⟨fun _ => this, fun y => ⟨fun _ => this, fun z => ?_⟩⟩
    grind [pg_n]
/-- the class's sort of what begins at s -/
def pv_cs (b : Nat → Nat) (L s : Nat) : Nat := if L ≤ s then 3 else if pv_so (b s) = 2 then 2 else if 0 < s ∧ pv_so (b (s - 1)) ≠ 2 then 4 else pv_so (b s)
theorem sp_X0_moveOn {e : Nat} {so : Int32} {By : Nat → Int32} {Q : Int32 → Int32 → Int32 → Prop} (hL : L ≤ 96) (hB : pv_by By b L) (he : e ≤ L) (hq : Q (nI (pv_st b L e)) (nI (pv_en b L (pv_st b L e))) (nI (pv_cs b L (pv_st b L e)))) : wp_X0_moveOn (nI L) (nI e) so By Q := by
  have j46 : ∀ s ed so, s ≤ L → s = pv_st b L e → jp_X0_moveOn_46 (nI L) By Q (nI s) ed so := by
    intro s ed so hs es
    rw [← es] at hq
    unfold jp_X0_moveOn_46
    by_cases h : s < L
    · obtain ⟨c1, c2, c3, c4⟩ := pv_en_p (b := b) h
      obtain ⟨k1, k2⟩ := hB s h
      refine pbT (by grind [pg_n]) ⟨pn_in (by omega) (by decide), ?_⟩
      rw [pn_cl (by omega), k2]
      refine sp_X0_sortOf k1 ?_
      unfold pv_cs at hq
      rw [if_neg (by omega)] at hq
      by_cases h2 : pv_so (b s) = 2
      · rw [if_pos h2, c3 h2] at hq
        rw [h2, pn_p1]
        exact pbT' rfl hq
      · rw [if_neg h2] at hq
        obtain ⟨d1, d2⟩ := c4 h2
        have hso := pv_so3 (b s)
        refine pbF' (by rw [show (2 : Int32) = nI 2 from rfl, nI_eq (by omega) (by omega)]; exact h2) ⟨pv_en b L s - (s + 1) + 1, ?_⟩
        have j149 : jp_X0_moveOn_149 By Q (nI s) (nI (pv_en b L s)) (nI (pv_so (b s))) := by
          unfold jp_X0_moveOn_149
          by_cases h0 : 0 < s
          · obtain ⟨k3, k4⟩ := hB (s - 1) (by omega)
            refine pbF (by grind [pg_n]) ?_
            rw [show nI s - 1 = nI (s - 1) from by grind [pg_n], pn_cl (by omega), k4]
            refine ⟨pn_in (by omega) (by decide), sp_X0_sortOf k3 ⟨fun y => ?_, fun y => ?_⟩⟩
            · have hso2 := pv_so3 (b (s - 1))
              rw [show (2 : Int32) = nI 2 from rfl, nI_eq (by omega) (by omega)] at y
              rw [if_neg (fun z => z.2 y)] at hq
              exact hq
            · have hso2 := pv_so3 (b (s - 1))
              rw [show (2 : Int32) = nI 2 from rfl, nI_eq (by omega) (by omega)] at y
              rw [if_pos ⟨h0, y⟩] at hq
              exact hq
          · rw [if_neg (fun z => h0 z.1)] at hq
            exact pbT (by grind [pg_n]) hq
        have Lp : ∀ (w i : Nat), i + w = pv_en b L s → s + 1 ≤ i → lp_X0_moveOn_106 (nI L) By Q (w + 1) (nI s) (nI i) (nI (pv_so (b s))) := by
          intro w
          induction w with
          | zero =>
            intro i hi _
            obtain rfl : i = pv_en b L s := by omega
            show lp_X0_moveOn_106F (nI L) By Q _ (nI s) (nI (pv_en b L s)) (nI (pv_so (b s)))
            unfold lp_X0_moveOn_106F
            refine ⟨fun _ => j149, fun y => ?_⟩
            have hl : pv_en b L s < L := by grind [pg_n]
            obtain ⟨k3, k4⟩ := hB _ hl
            rw [pn_cl (by omega), k4]
            refine ⟨pn_in (by omega) (by decide), sp_X0_sortOf k3 (pbF' ?_ j149)⟩
            have hso2 := pv_so3 (b (pv_en b L s))
            rw [nI_eq (by omega) (by omega)]
            exact d2 hl
          | succ w ih =>
            intro i hi h1
            show lp_X0_moveOn_106F (nI L) By Q (lp_X0_moveOn_106 (nI L) By Q (w + 1)) (nI s) (nI i) (nI (pv_so (b s)))
            unfold lp_X0_moveOn_106F
            obtain ⟨k3, k4⟩ := hB i (by omega)
            rw [pn_cl (by omega), k4, pn_p1]
            refine pbF (by grind [pg_n]) ⟨pn_in (by omega) (by decide), sp_X0_sortOf k3 (pbT' ?_ (ih (i + 1) (by omega) (by omega)))⟩
            rw [d1 i (by omega) (by omega)]
        rw [pn_p1]
        exact Lp _ (s + 1) (by omega) (by omega)
    · obtain rfl : s = L := by omega
      rw [pv_en_L (by omega)] at hq
      unfold pv_cs at hq
      rw [if_pos (by omega)] at hq
      exact pbF (by grind [pg_n]) hq
  obtain ⟨a1, a2, a3, a4⟩ := pv_st_p (b := b) he
  have Lp : ∀ (w i : Nat), i + w = pv_st b L e → e ≤ i → lp_X0_moveOn_8 (nI L) By Q (w + 1) (nI i) (nI e) so := by
    intro w
    induction w with
    | zero =>
      intro i hi h1
      show lp_X0_moveOn_8F (nI L) By Q _ (nI i) (nI e) so
      unfold lp_X0_moveOn_8F
      have hj := j46 i (nI e) so (by omega) (by omega)
      refine ⟨fun _ => hj, fun y => ?_⟩
      have hl : i < L := by grind [pg_n]
      obtain ⟨k3, k4⟩ := hB i hl
      rw [pn_cl (by omega), k4]
      refine ⟨pn_in (by omega) (by decide), pbF' ?_ hj⟩
      rw [show (32 : Int32) = nI 32 from rfl, nI_eq (by omega) (by omega)]
      have := a4 (by omega)
      rw [show pv_st b L e = i by omega] at this
      exact this
    | succ w ih =>
      intro i hi h1
      show lp_X0_moveOn_8F (nI L) By Q (lp_X0_moveOn_8 (nI L) By Q (w + 1)) (nI i) (nI e) so
      unfold lp_X0_moveOn_8F
      obtain ⟨k3, k4⟩ := hB i (by omega)
      rw [pn_cl (by omega), k4, pn_p1]
      refine pbF (by grind [pg_n]) ⟨pn_in (by omega) (by decide), pbT' ?_ (ih (i + 1) (by omega) (by omega))⟩
      rw [a3 i (by omega) (by omega)]
      rfl
  unfold wp_X0_moveOn
  exact ⟨pv_st b L e - e + 1, Lp _ e (by omega) (by omega)⟩
/-- the reference's token -/
def pv_tk (b : Nat → Nat) (L s : Nat) : Nat := if L ≤ s then 0 else if pv_so (b s) = 2 then 3 else if 0 < s ∧ pv_so (b (s - 1)) ≠ 2 then 4 else if pv_so (b s) = 0 then 1 else if pv_en b L s - s ≤ 4 then 2 else 4
def pv_va (b : Nat → Nat) (L s : Nat) : Nat := if pv_tk b L s = 2 then pv_num b s (pv_en b L s - s) else b s
/-- where the last word ended, seen from e -/
def pv_ed (b : Nat → Nat) (e : Nat) (en : Int32) : Prop := (e = 0 ∧ en = -1) ∨ (0 < e ∧ pv_so (b (e - 1)) ≠ 2 ∧ en = nI e) ∨ (0 < e ∧ pv_so (b (e - 1)) = 2 ∧ (en = -1 ∨ ∃ q, q < e ∧ en = nI q))
theorem pv_so32 : pv_so 32 = 2 := by decide
theorem pv_ed_gl {e : Nat} {en : Int32} (he : e ≤ L) (hL : L ≤ 96) (h : pv_ed b e en) : (nI (pv_st b L e) = en) ↔ (0 < pv_st b L e ∧ pv_so (b (pv_st b L e - 1)) ≠ 2) := by
  obtain ⟨a1, a2, a3, a4⟩ := pv_st_p (b := b) he
  by_cases h1 : pv_st b L e = e
  · rw [h1]
    rcases h with ⟨c1, c2⟩ | ⟨c1, c2, c3⟩ | ⟨c1, c2, c3⟩
    · subst c1; rw [c2]; constructor
      · intro y; exact absurd y (by decide)
      · intro y; omega
    · rw [c3]; exact ⟨fun _ => ⟨c1, c2⟩, fun _ => rfl⟩
    · constructor
      · intro y
        rcases c3 with c3 | ⟨q, hq, c3⟩
        · rw [c3] at y
          grind [pg_n]
        · rw [c3, nI_eq (by omega) (by omega)] at y
          omega
      · intro y; exact absurd c2 y.2
  · have h32 := a3 (pv_st b L e - 1) (by omega) (by omega)
    constructor
    · intro y
      rcases h with ⟨c1, c2⟩ | ⟨c1, c2, c3⟩ | ⟨c1, c2, c3⟩
      · rw [c2] at y
        grind [pg_n]
      · rw [c3, nI_eq (by omega) (by omega)] at y
        omega
      · rcases c3 with c3 | ⟨q, hq, c3⟩
        · rw [c3] at y
          grind [pg_n]
        · rw [c3, nI_eq (by omega) (by omega)] at y
          omega
    · intro y
      rw [h32] at y
      exact absurd pv_so32 y.2
theorem sp_X7_isLetter {k : Nat} {Tap : Nat → Int32} {Q : Int32 → Prop} (hL : L ≤ 96) (hB : pv_by Tap b L) (hk : k ≤ L) (h1 : k < L → pv_so (b k) = 0 → Q 1) (h0 : ¬ (k < L ∧ pv_so (b k) = 0) → Q 0) : wp_X7_isLetter (nI k) (nI L) Tap Q := by
  unfold wp_X7_isLetter
  by_cases h : k < L
  · obtain ⟨k3, k4⟩ := hB k h
    rw [pn_cl (by omega), k4]
    unfold pv_so at h1 h0
    refine pbF (by grind [pg_n]) ⟨pn_in (by omega) (by decide), fun y => h0 (by grind [pg_n]), fun y => ⟨pn_in (by omega) (by decide), fun z => h0 (by grind [pg_n]), fun z => h1 h (by grind [pg_n])⟩⟩
  · exact pbT (by grind [pg_n]) (h0 (fun y => h y.1))
theorem sp_X7_isFigure {k : Nat} {Tap : Nat → Int32} {Q : Int32 → Prop} (hL : L ≤ 96) (hB : pv_by Tap b L) (hk : k ≤ L) (h1 : k < L → pv_so (b k) = 1 → Q 1) (h0 : ¬ (k < L ∧ pv_so (b k) = 1) → Q 0) : wp_X7_isFigure (nI k) (nI L) Tap Q := by
  unfold wp_X7_isFigure
  by_cases h : k < L
  · obtain ⟨k3, k4⟩ := hB k h
    rw [pn_cl (by omega), k4]
    unfold pv_so at h1 h0
    refine pbF (by grind [pg_n]) ⟨pn_in (by omega) (by decide), fun y => h0 (by grind [pg_n]), fun y => ⟨pn_in (by omega) (by decide), fun z => h0 (by grind [pg_n]), fun z => h1 h (by grind [pg_n])⟩⟩
  · exact pbT (by grind [pg_n]) (h0 (fun y => h y.1))
end
