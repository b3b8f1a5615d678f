/-! PURE: what the search needs of numbers -/
theorem pg_n (a : Nat) (h : a < 2147483648) : Lean.Grind.ToInt.toInt (nI a) = (a : Int) := by
  show (nI a).toInt = (a : Int)
  unfold nI
  exact Int32.toInt_ofNat_of_lt h
theorem pg_c (x : Int32) (h : 0 ≤ x) : (x.toNatClampNeg : Int) = Lean.Grind.ToInt.toInt x := by
  show (x.toNatClampNeg : Int) = x.toInt
  unfold Int32.toNatClampNeg
  have : (0 : Int32).toInt ≤ x.toInt := pn_lei.mp h
  have e : (0 : Int32).toInt = 0 := rfl
  omega
theorem pg_v (x : Int32) (n : Nat) : vp_in x n ↔ 0 ≤ x ∧ x.toNatClampNeg < n := by
  unfold vp_in
  have e : (¬ x < 0) ↔ 0 ≤ x := by grind
  grind
theorem pg_u (f : Nat → Int32) (k j : Nat) (x : Int32) : upd f k x j = if j = k then x else f j := by
  unfold upd
  rfl
theorem pg_clamp (a : Nat) (h : a < 2147483648) : (nI a).toNatClampNeg = a := pn_cl h
theorem pg_nat (x : Int32) (h : 0 ≤ x) : ∃ a : Nat, a < 2147483648 ∧ x = nI a := by
  obtain ⟨j, hj, rfl⟩ := nI_of (x := x) (by grind)
  exact ⟨j, hj, rfl⟩
/-- a number from 0 to n - 1 -/
theorem pg_lt (x : Int32) (n : Nat) (hn : n < 2147483648) (h : 0 ≤ x) (h2 : x < nI n) : ∃ a : Nat, a < n ∧ x = nI a := by
  obtain ⟨a, ha, rfl⟩ := pg_nat x h
  exact ⟨a, by grind [pg_n], rfl⟩
