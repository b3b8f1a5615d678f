/-! PURE: numbers -/
theorem pn_c (n : Nat) : nI n = Int32.ofNat n := rfl
theorem pn_ix3 (p w : Nat) : (9 + (3 * nI p)) + nI w = nI (9 + 3 * p + w) := by
  rw [show (9 : Int32) = nI 9 from rfl, show (3 : Int32) = nI 3 from rfl, pk_mul, nI_add, nI_add]
theorem pn_ix3a (p : Nat) : (9 : Int32) + (3 * nI p) = nI (9 + 3 * p) := by
  rw [show (9 : Int32) = nI 9 from rfl, show (3 : Int32) = nI 3 from rfl, pk_mul, nI_add]
theorem pn_ixt (t : Nat) : (81 : Int32) + (2 * nI t) = nI (81 + 2 * t) := by
  rw [show (81 : Int32) = nI 81 from rfl, show (2 : Int32) = nI 2 from rfl, pk_mul, nI_add]
theorem pn_ixc (t k : Nat) : ((109 : Int32) + (96 * nI t)) + nI k = nI (109 + 96 * t + k) := by
  rw [show (109 : Int32) = nI 109 from rfl, show (96 : Int32) = nI 96 from rfl, pk_mul, nI_add, nI_add]
theorem pn_ixs (t k : Nat) : ((24 : Int32) * nI t) + nI k = nI (24 * t + k) := by
  rw [show (24 : Int32) = nI 24 from rfl, pk_mul, nI_add]
theorem pn_add (a b : Nat) : nI a + nI b = nI (a + b) := nI_add a b
theorem pn_s1 (a : Nat) : nI (a + 1) - 1 = nI a := nI_pred a
theorem pn_p1 (a : Nat) : nI a + 1 = nI (a + 1) := nI_1 a
theorem pn_m1 (a : Nat) : nI (a + 1) + (-1) = nI a := pk_m1 a
theorem pn_lt {a b : Nat} (ha : a < 2 ^ 31) (hb : b < 2 ^ 31) : (nI a < nI b) = (a < b) := propext (nI_ltI ha hb)
theorem pn_le {a b : Nat} (ha : a < 2 ^ 31) (hb : b < 2 ^ 31) : (nI a ≤ nI b) = (a ≤ b) := propext (nI_leI ha hb)
theorem pn_eq {a b : Nat} (ha : a < 2 ^ 31) (hb : b < 2 ^ 31) : (nI a = nI b) = (a = b) := propext (nI_eq ha hb)
theorem pn_in {a n : Nat} (h : a < n) (hn : n < 2 ^ 31) : vp_in (nI a) n := vp_in_nI h hn
theorem pn_cl {a : Nat} (h : a < 2 ^ 31) : (nI a).toNatClampNeg = a := nI_clamp h
theorem pn_upd_self {f : Nat → Int32} {k : Nat} {x : Int32} : upd f k x k = x := pk_us
theorem pn_upd_ne {f : Nat → Int32} {k j : Nat} {x : Int32} (h : j ≠ k) : upd f k x j = f j := pk_un h
theorem pn_b0 : narrow .boolean (.int 0) = .int 0 := by decide
theorem pn_b1 : narrow .boolean (.int 1) = .int 1 := by decide
/-- held within, as the reference has it -/
def pn_hd (lo hi v : Int32) : Int32 := if lo ≤ v then (if v ≤ hi then v else hi) else lo
theorem pn_lei {x y : Int32} : x ≤ y ↔ x.toInt ≤ y.toInt := Int32.le_iff_toInt_le
theorem pn_lti {x y : Int32} : x < y ↔ x.toInt < y.toInt := Int32.lt_iff_toInt_lt
theorem pn_held {lo hi : Int32} (h : lo ≤ hi) (v : Int32) : rc_max lo (rc_min hi v) = pn_hd lo hi v := by
  unfold rc_max rc_min pn_hd
  rw [pn_lei] at h
  by_cases h1 : v < hi
  · rw [if_pos h1]
    rw [pn_lti] at h1
    by_cases h2 : lo < v
    · rw [if_pos h2]
      rw [pn_lti] at h2
      rw [if_pos (by rw [pn_lei]; omega), if_pos (by rw [pn_lei]; omega)]
    · rw [if_neg h2]
      rw [pn_lti] at h2
      by_cases h3 : lo ≤ v
      · rw [if_pos h3, if_pos (by rw [pn_lei]; omega)]
        rw [pn_lei] at h3
        exact Int32.toInt_inj.mp (by omega)
      · rw [if_neg h3]
  · rw [if_neg h1]
    rw [pn_lti] at h1
    rw [if_pos (show lo ≤ v by rw [pn_lei]; omega)]
    by_cases h2 : lo < hi
    · rw [if_pos h2]
      by_cases h3 : v ≤ hi
      · rw [if_pos h3]
        rw [pn_lei] at h3
        exact Int32.toInt_inj.mp (by omega)
      · rw [if_neg h3]
    · rw [if_neg h2]
      rw [pn_lti] at h2
      by_cases h3 : v ≤ hi
      · rw [if_pos h3]
        rw [pn_lei] at h3
        exact Int32.toInt_inj.mp (by omega)
      · rw [if_neg h3]
        exact Int32.toInt_inj.mp (by omega)
/-- what is held within 0 .. n is a number up to n -/
theorem pn_hd_nI (n : Nat) (hn : n < 2 ^ 31) (v : Int32) : ∃ j, j ≤ n ∧ pn_hd 0 (nI n) v = nI j := by
  unfold pn_hd
  by_cases h : (0 : Int32) ≤ v
  · rw [if_pos h]
    by_cases h2 : v ≤ nI n
    · rw [if_pos h2]
      obtain ⟨j, hj, rfl⟩ := nI_of (x := v) (by rw [pn_lti]; rw [pn_lei] at h; have : (0 : Int32).toInt = 0 := rfl; omega)
      exact ⟨j, by rw [nI_leI hj hn] at h2; exact h2, rfl⟩
    · rw [if_neg h2]
      exact ⟨n, Nat.le_refl _, rfl⟩
  · rw [if_neg h]
    exact ⟨0, Nat.zero_le _, rfl⟩
theorem sp_X6_held {p0 p1 p2 : Int32} {Q : Int32 → Prop} (h : p1 ≤ p2) (hq : Q (pn_hd p1 p2 p0)) : wp_X6_held p0 p1 p2 Q := by
  unfold wp_X6_held
  rw [pn_held h]
  exact hq
theorem sp_X7_within {p0 p1 p2 : Int32} {Q : Int32 → Prop} (hq : Q (pn_hd p1 p2 p0)) : wp_X7_within p0 p1 p2 Q := by
  unfold wp_X7_within
  unfold pn_hd at hq
  refine ⟨fun h => ⟨fun h2 => ?_, fun h2 => ?_⟩, fun h => ?_⟩
  · rw [if_pos h, if_pos h2] at hq; exact hq
  · rw [if_pos h, if_neg h2] at hq; exact hq
  · rw [if_neg h] at hq; exact hq
/-- within, in: told by two cases -/
theorem sp_X6_within {p0 p1 p2 : Int32} {Q : Int32 → Prop} (h1 : p1 ≤ p0 → p0 ≤ p2 → Q 1) (h0 : ¬ (p1 ≤ p0 ∧ p0 ≤ p2) → Q 0) : wp_X6_within p0 p1 p2 Q := by
  unfold wp_X6_within
  refine ⟨fun h => h0 ?_, fun h => ⟨fun h2 => h0 ?_, fun h2 => h1 ?_ ?_⟩⟩ <;> simp only [pn_lei, pn_lti] at * <;> omega
theorem sp_X7_in {p0 p1 p2 : Int32} {Q : Int32 → Prop} (h1 : p1 ≤ p0 → p0 ≤ p2 → Q 1) (h0 : ¬ (p1 ≤ p0 ∧ p0 ≤ p2) → Q 0) : wp_X7_in p0 p1 p2 Q := by
  unfold wp_X7_in
  refine ⟨fun h => h0 ?_, fun h => ⟨fun h2 => h0 ?_, fun h2 => h1 ?_ ?_⟩⟩ <;> simp only [pn_lei, pn_lti] at * <;> omega
/-- a number from 0 to n -/
theorem pn_rng {x : Int32} {n : Nat} (hn : n < 2 ^ 31) (h0 : 0 ≤ x) (h : x ≤ nI n) : ∃ j, j ≤ n ∧ x = nI j := by
  obtain ⟨j, hj, rfl⟩ := nI_of (x := x) (by rw [pn_lti]; rw [pn_lei] at h0; have : (0 : Int32).toInt = 0 := rfl; omega)
  exact ⟨j, by rw [nI_leI hj hn] at h; exact h, rfl⟩
theorem pn_rngI {j n : Nat} (hn : n < 2 ^ 31) (h : j ≤ n) : (0 : Int32) ≤ nI j ∧ nI j ≤ nI n := ⟨by have := nI_leI (a := 0) (b := j) (by omega) (by omega); exact this.mpr (Nat.zero_le _), (nI_leI (by omega) hn).mpr h⟩
