/-! PURE: what a text gives -/
def pe_two (c a b : Int32) : Int32 :=
  if c = -8 then a * b else if c = -7 then a - b else if c = -6 then a + b else if c = -5 then (if b < a then 1 else 0) else if c = -4 then (if a = b then 1 else 0) else if c = -3 then (if a < b then 1 else 0)
  else if c = -2 then (if a ≠ 0 ∧ b ≠ 0 then 1 else 0) else if c = -1 then (if a ≠ 0 ∨ b ≠ 0 then 1 else 0) else (if b = 0 then 0 else a / b)
/-- the codes cd from k on, m of them, over the facts fc, with a row of top numbers -/
def pe_ev (cd fc : Nat → Int32) : Nat → Nat → Nat → (Nat → Int32) → Int32
  | 0, _, _, st => st 0
  | m + 1, k, top, st => if cd k < 0 then (if cd k = -10 then pe_ev cd fc m (k + 1) top (upd st (top - 1) (if st (top - 1) = 0 then 1 else 0)) else pe_ev cd fc m (k + 1) (top - 1) (upd st (top - 2) (pe_two (cd k) (st (top - 2)) (st (top - 1)))))
    else pe_ev cd fc m (k + 1) (top + 1) (upd st top (if 10000 ≤ cd k then fc ((cd k - 10000).toNatClampNeg) else cd k))
/-- they are well laid: nm names -/
def pe_wf (cd : Nat → Int32) (nm : Nat) : Nat → Nat → Nat → Prop
  | 0, _, top => top = 1
  | m + 1, k, top => if cd k < 0 then (if cd k = -10 then 1 ≤ top ∧ pe_wf cd nm m (k + 1) top else (-9) ≤ cd k ∧ 2 ≤ top ∧ pe_wf cd nm m (k + 1) (top - 1)) else (∃ v : Nat, v < 10000 + nm ∧ cd k = nI v) ∧ pe_wf cd nm m (k + 1) (top + 1)
theorem pe_upd_lt {f g : Nat → Int32} {n k : Nat} {x y : Int32} (h : ∀ i, i < n → f i = g i) (hx : x = y) : ∀ i, i < n → upd f k x i = upd g k y i := by
  intro i hi
  by_cases e : i = k
  · subst e; rw [pn_upd_self, pn_upd_self, hx]
  · rw [pn_upd_ne e, pn_upd_ne e, h i hi]
theorem pe_cong (cd fc gc : Nat → Int32) (nm : Nat) (hnm : nm ≤ 3) (hf : ∀ j, j < nm → fc j = gc j) : ∀ (m k top : Nat) (st st' : Nat → Int32), pe_wf cd nm m k top → (∀ i, i < top → st i = st' i) → pe_ev cd fc m k top st = pe_ev cd gc m k top st' := by
  intro m
  induction m with
  | zero =>
    intro k top st st' hw h
    have hw : top = 1 := hw
    exact h 0 (by omega)
  | succ m ih =>
    intro k top st st' hw h
    unfold pe_wf at hw
    unfold pe_ev
    by_cases h1 : cd k < 0
    · rw [if_pos h1] at hw
      rw [if_pos h1, if_pos h1]
      by_cases h2 : cd k = -10
      · rw [if_pos h2] at hw
        rw [if_pos h2, if_pos h2]
        exact ih _ _ _ _ hw.2 (pe_upd_lt h (by rw [h (top - 1) (by omega)]))
      · rw [if_neg h2] at hw
        rw [if_neg h2, if_neg h2]
        exact ih _ _ _ _ hw.2.2 (fun i hi => pe_upd_lt h (by rw [h (top - 2) (by omega), h (top - 1) (by omega)]) i (by omega))
    · rw [if_neg h1] at hw
      rw [if_neg h1, if_neg h1]
      refine ih _ _ _ _ hw.2 ?_
      intro i hi
      by_cases e : i = top
      · subst e
        rw [pn_upd_self, pn_upd_self]
        obtain ⟨v, hv, hc⟩ := hw.1
        rw [hc]
        by_cases h3 : (10000 : Int32) ≤ nI v
        · rw [if_pos h3, if_pos h3]
          rw [show (10000 : Int32) = nI 10000 from rfl] at h3 ⊢
          rw [nI_leI (by omega) (by omega)] at h3
          rw [pk_sub h3, pn_cl (by omega)]
          exact hf _ (by omega)
        · rw [if_neg h3, if_neg h3]
      · rw [pn_upd_ne e, pn_upd_ne e, h i (by omega)]
theorem sp_X7_two {p0 p1 p2 : Int32} {Q : Int32 → Prop} (h : Q (pe_two p0 p1 p2)) : wp_X7_two p0 p1 p2 Q := by
  unfold wp_X7_two
  unfold pe_two at h
  refine ⟨fun c => ?_, fun c => ?_, fun c => ?_, fun c => ?_, fun c => ?_, fun c => ?_, fun c => ?_, fun c => ?_, fun c => ?_⟩
  · subst c; simpa using h
  · subst c; simpa using h
  · subst c; simpa using h
  · subst c
    refine ⟨fun d => ?_, fun d => ?_⟩
    · have : ¬ p2 < p1 := by simp only [pn_lei, pn_lti] at *; omega
      simpa [this] using h
    · have : p2 < p1 := by simp only [pn_lei, pn_lti] at *; omega
      simpa [this] using h
  · subst c
    refine ⟨fun d => ?_, fun d => ?_⟩ <;> simpa [d] using h
  · subst c
    refine ⟨fun d => ?_, fun d => ?_⟩
    · have : ¬ p1 < p2 := by simp only [pn_lei, pn_lti] at *; omega
      simpa [this] using h
    · have : p1 < p2 := by simp only [pn_lei, pn_lti] at *; omega
      simpa [this] using h
  · subst c
    refine ⟨fun d => ?_, fun d => ⟨fun d2 => ?_, fun d2 => ?_⟩⟩
    · simpa [d] using h
    · simpa [d, d2] using h
    · simpa [d, d2] using h
  · subst c
    refine ⟨fun d => ?_, fun d => ⟨fun d2 => ?_, fun d2 => ?_⟩⟩
    · simpa [d] using h
    · simpa [d, d2] using h
    · simpa [d, d2] using h
  · obtain ⟨c1, c2, c3, c4, c5, c6, c7, c8⟩ := c
    rw [if_neg c1, if_neg c2, if_neg c3, if_neg c4, if_neg c5, if_neg c6, if_neg c7, if_neg c8] at h
    refine ⟨fun d => ⟨d, ?_⟩, fun d => ?_⟩
    · rw [if_neg d] at h; exact h
    · rw [if_pos d] at h; exact h
/-- the reference's codes as the class has them -/
def pe_cv (c : Int32) : Int32 :=
  if c = -1 then -124 else if c = -2 then -38 else if c = -3 then -60 else if c = -4 then -61 else if c = -5 then -62 else if c = -6 then -43 else if c = -7 then -45 else if c = -8 then -42 else if c = -9 then -47 else if c = -10 then -33
  else if 10000 ≤ c then 9999 - c else c
theorem sp_X4_worked {c p1 p2 : Int32} {Q : Int32 → Prop} (hc : (-9) ≤ c ∧ c < 0) (h : Q (pe_two c p1 p2)) : wp_X4_worked (-(pe_cv c)) p1 p2 Q := by
  have hcs : c = -1 ∨ c = -2 ∨ c = -3 ∨ c = -4 ∨ c = -5 ∨ c = -6 ∨ c = -7 ∨ c = -8 ∨ c = -9 := by
    obtain ⟨h1, h2⟩ := hc
    rw [pn_lei] at h1
    rw [pn_lti] at h2
    have e1 : (-9 : Int32).toInt = -9 := by decide
    have e2 : (0 : Int32).toInt = 0 := rfl
    have : c.toInt = -1 ∨ c.toInt = -2 ∨ c.toInt = -3 ∨ c.toInt = -4 ∨ c.toInt = -5 ∨ c.toInt = -6 ∨ c.toInt = -7 ∨ c.toInt = -8 ∨ c.toInt = -9 := by omega
    rcases this with h | h | h | h | h | h | h | h | h
    · exact Or.inl (Int32.toInt_inj.mp (by rw [h]; decide))
    · exact Or.inr (Or.inl (Int32.toInt_inj.mp (by rw [h]; decide)))
    · exact Or.inr (Or.inr (Or.inl (Int32.toInt_inj.mp (by rw [h]; decide))))
    · exact Or.inr (Or.inr (Or.inr (Or.inl (Int32.toInt_inj.mp (by rw [h]; decide)))))
    · exact Or.inr (Or.inr (Or.inr (Or.inr (Or.inl (Int32.toInt_inj.mp (by rw [h]; decide))))))
    · exact Or.inr (Or.inr (Or.inr (Or.inr (Or.inr (Or.inl (Int32.toInt_inj.mp (by rw [h]; decide)))))))
    · exact Or.inr (Or.inr (Or.inr (Or.inr (Or.inr (Or.inr (Or.inl (Int32.toInt_inj.mp (by rw [h]; decide))))))))
    · exact Or.inr (Or.inr (Or.inr (Or.inr (Or.inr (Or.inr (Or.inr (Or.inl (Int32.toInt_inj.mp (by rw [h]; decide)))))))))
    · exact Or.inr (Or.inr (Or.inr (Or.inr (Or.inr (Or.inr (Or.inr (Or.inr (Int32.toInt_inj.mp (by rw [h]; decide)))))))))
  have hgt : ∀ a b : Int32, (¬ a ≤ b) ↔ b < a := fun a b => by simp only [pn_lei, pn_lti]; omega
  rcases hcs with rfl | rfl | rfl | rfl | rfl | rfl | rfl | rfl | rfl
  · rw [show -(pe_cv (-1)) = (124 : Int32) by decide]
    have h : Q (if p1 ≠ 0 ∨ p2 ≠ 0 then 1 else 0) := h
    simp only [wp_X4_worked]
    simp (config := { decide := true }) only [true_and, and_true, false_implies, true_implies, not_true, not_false_iff, false_and, and_false, implies_true]
    refine ⟨fun d => ?_, fun d => ⟨fun d2 => ?_, fun d2 => ?_⟩⟩ <;> simp_all
  · rw [show -(pe_cv (-2)) = (38 : Int32) by decide]
    have h : Q (if p1 ≠ 0 ∧ p2 ≠ 0 then 1 else 0) := h
    simp only [wp_X4_worked]
    simp (config := { decide := true }) only [true_and, and_true, false_implies, true_implies, not_true, not_false_iff, false_and, and_false, implies_true]
    refine ⟨fun d => ?_, fun d => ⟨fun d2 => ?_, fun d2 => ?_⟩⟩ <;> simp_all
  · rw [show -(pe_cv (-3)) = (60 : Int32) by decide]
    have h : Q (if p1 < p2 then 1 else 0) := h
    simp only [wp_X4_worked]
    simp (config := { decide := true }) only [true_and, and_true, false_implies, true_implies, not_true, not_false_iff, false_and, and_false, implies_true]
    refine ⟨fun d => ?_, fun d => ?_⟩
    · rw [if_neg (by simp only [pn_lei, pn_lti] at *; omega)] at h; exact h
    · rw [if_pos ((hgt _ _).mp d)] at h; exact h
  · rw [show -(pe_cv (-4)) = (61 : Int32) by decide]
    have h : Q (if p1 = p2 then 1 else 0) := h
    simp only [wp_X4_worked]
    simp (config := { decide := true }) only [true_and, and_true, false_implies, true_implies, not_true, not_false_iff, false_and, and_false, implies_true]
    refine ⟨fun d => ?_, fun d => ?_⟩
    · rw [if_neg d] at h; exact h
    · rw [if_pos d] at h; exact h
  · rw [show -(pe_cv (-5)) = (62 : Int32) by decide]
    have h : Q (if p2 < p1 then 1 else 0) := h
    simp only [wp_X4_worked]
    simp (config := { decide := true }) only [true_and, and_true, false_implies, true_implies, not_true, not_false_iff, false_and, and_false, implies_true]
    refine ⟨fun d => ?_, fun d => ?_⟩
    · rw [if_neg (by simp only [pn_lei, pn_lti] at *; omega)] at h; exact h
    · rw [if_pos ((hgt _ _).mp d)] at h; exact h
  · rw [show -(pe_cv (-6)) = (43 : Int32) by decide]
    have h : Q (p1 + p2) := h
    simp only [wp_X4_worked]
    simp (config := { decide := true }) only [true_and, and_true, false_implies, true_implies, not_true, not_false_iff, false_and, and_false, implies_true]
    exact h
  · rw [show -(pe_cv (-7)) = (45 : Int32) by decide]
    have h : Q (p1 - p2) := h
    simp only [wp_X4_worked]
    simp (config := { decide := true }) only [true_and, and_true, false_implies, true_implies, not_true, not_false_iff, false_and, and_false, implies_true]
    exact h
  · rw [show -(pe_cv (-8)) = (42 : Int32) by decide]
    have h : Q (p1 * p2) := h
    simp only [wp_X4_worked]
    simp (config := { decide := true }) only [true_and, and_true, false_implies, true_implies, not_true, not_false_iff, false_and, and_false, implies_true]
    exact h
  · rw [show -(pe_cv (-9)) = (47 : Int32) by decide]
    have h : Q (if p2 = 0 then 0 else p1 / p2) := h
    simp only [wp_X4_worked]
    simp (config := { decide := true }) only [true_and, and_true, false_implies, true_implies, not_true, not_false_iff, false_and, and_false, implies_true]
    refine ⟨fun d => ⟨d, ?_⟩, fun d => ?_⟩
    · rw [if_neg d] at h; exact h
    · rw [if_pos d] at h; exact h
