/-! PURE: a ridge and its row, step by step -/
theorem pb1 {A B : Prop} (h : B) : ((1 : Int32) = 0 → A) ∧ (¬ ((1 : Int32) = 0) → B) := ⟨fun z => absurd z (by decide), fun _ => h⟩
theorem pb0 {A B : Prop} (h : A) : ((0 : Int32) = 0 → A) ∧ (¬ ((0 : Int32) = 0) → B) := ⟨fun _ => h, fun z => absurd rfl z⟩
theorem pb1' {A B : Prop} (h : B) : (¬ ((1 : Int32) = 0) → B) ∧ ((1 : Int32) = 0 → A) := ⟨fun _ => h, fun z => absurd z (by decide)⟩
theorem pb0' {A B : Prop} (h : A) : (¬ ((0 : Int32) = 0) → B) ∧ ((0 : Int32) = 0 → A) := ⟨fun z => absurd rfl z, fun _ => h⟩
/-- a branch whose condition is known -/
theorem pbT {c A B : Prop} (hc : c) (h : A) : (c → A) ∧ (¬ c → B) := ⟨fun _ => h, fun z => absurd hc z⟩
theorem pbF {c A B : Prop} (hc : ¬ c) (h : B) : (c → A) ∧ (¬ c → B) := ⟨fun z => absurd z hc, fun _ => h⟩
theorem pbT' {c A B : Prop} (hc : c) (h : A) : (¬ c → B) ∧ (c → A) := ⟨fun z => absurd hc z, fun _ => h⟩
theorem pbF' {c A B : Prop} (hc : ¬ c) (h : B) : (¬ c → B) ∧ (c → A) := ⟨fun _ => h, fun z => absurd z hc⟩
theorem pw6T {p0 p1 p2 : Int32} {Q : Int32 → Prop} (h : p1 ≤ p0 ∧ p0 ≤ p2) (hq : Q 1) : wp_X6_within p0 p1 p2 Q := sp_X6_within (fun _ _ => hq) (fun z => absurd h z)
theorem pw6F {p0 p1 p2 : Int32} {Q : Int32 → Prop} (h : ¬ (p1 ≤ p0 ∧ p0 ≤ p2)) (hq : Q 0) : wp_X6_within p0 p1 p2 Q := sp_X6_within (fun a b => absurd ⟨a, b⟩ h) (fun _ => hq)
theorem pw7T {p0 p1 p2 : Int32} {Q : Int32 → Prop} (h : p1 ≤ p0 ∧ p0 ≤ p2) (hq : Q 1) : wp_X7_in p0 p1 p2 Q := sp_X7_in (fun _ _ => hq) (fun z => absurd h z)
theorem pw7F {p0 p1 p2 : Int32} {Q : Int32 → Prop} (h : ¬ (p1 ≤ p0 ∧ p0 ≤ p2)) (hq : Q 0) : wp_X7_in p0 p1 p2 Q := sp_X7_in (fun a b => absurd ⟨a, b⟩ h) (fun _ => hq)
theorem pk6T {x : Int32} {Q : Int32 → Prop} (h : 0 ≤ x ∧ x ≤ 5) (hq : Q 1) : wp_X6_isKind x Q := by
  unfold wp_X6_isKind
  exact ⟨fun z => absurd z (by grind), fun _ => ⟨fun z => absurd z (by grind), fun _ => hq⟩⟩
theorem pk6F {x : Int32} {Q : Int32 → Prop} (h : ¬ (0 ≤ x ∧ x ≤ 5)) (hq : Q 0) : wp_X6_isKind x Q := by
  unfold wp_X6_isKind
  exact ⟨fun _ => hq, fun _ => ⟨fun _ => hq, fun z => absurd h (by grind)⟩⟩
theorem ph6T {p n : Nat} {Sz : Int32} {Q : Int32 → Prop} (hp : p < n) (hn : n < 2147483648) (hS : Sz = nI n) (hq : Q 1) : wp_X1_has (nI p) Sz Q := sp_X1_has (fun _ _ => hq) (fun z => absurd z (by subst hS; grind [pg_n]))
theorem ph6F {n : Nat} {x Sz : Int32} {Q : Int32 → Prop} (hp : ¬ ∃ p, p < n ∧ x = nI p) (hn : n < 2147483648) (hS : Sz = nI n) (hq : Q 0) : wp_X1_has x Sz Q := sp_X1_has (fun a b => absurd (pg_lt x n hn a (by rw [← hS]; exact b)) hp) (fun _ => hq)
theorem ph7T {p n : Nat} {now : Nat → Int32} {Q : Int32 → Prop} (hp : p < n) (hn : n < 2147483648) (hS : now 1 = nI n) (hq : Q 1) : wp_X7_isPlace (nI p) now Q := by
  unfold wp_X7_isPlace
  refine pw7T ?_ ⟨pn_b1, hq⟩
  rw [hS]
  grind [pg_n]
theorem ph7F {n : Nat} {x : Int32} {now : Nat → Int32} {Q : Int32 → Prop} (hp : ¬ ∃ p, p < n ∧ x = nI p) (hn : n < 2147483648) (hS : now 1 = nI n) (hq : Q 0) : wp_X7_isPlace x now Q := by
  unfold wp_X7_isPlace
  refine pw7F (fun z => hp ?_) ⟨pn_b0, hq⟩
  rw [hS] at z
  exact pg_lt x n hn z.1 (by grind [pg_n])
section
variable {now now' : Nat → Int32} {n tn : Nat} {Sz Tc Fa Pa Py Mi Me Sr Z : Int32} {Ki He Do : Nat → Int32} {Tx : Nat → Option Nat} {La : Nat → Int32} {LT : List Nat} {pk pv : Nat → Int32} {pn : Nat → Nat} {tc : Nat → Nat → Int32}
theorem pr_ct_cong (h : ∀ k, 81 ≤ k → now' k = now k) (k : Nat) : ∀ tn, pr_ct now' k tn = pr_ct now k tn := by
  intro tn
  induction tn with
  | zero => rfl
  | succ t ih =>
    unfold pr_ct
    rw [h (81 + 2 * t) (by omega), ih]
theorem pe_tx_cong (h : ∀ k, 81 ≤ k → now' k = now k) {t key cnt : Nat} (hx : pe_tx now t key cnt) : pe_tx now' t key cnt := by
  unfold pe_tx at hx ⊢
  rw [h (81 + 2 * t) (by omega), show (fun j => now' (109 + 96 * t + j)) = (fun j => now (109 + 96 * t + j)) from funext (fun j => h _ (by omega))]
  exact hx
theorem pe_same_cong (h : ∀ k, 81 ≤ k → now' k = now k) {t ta key cnt : Nat} (hx : pe_same now t pn tc ta key cnt) : pe_same now' t pn tc ta key cnt := by
  unfold pe_same at hx ⊢
  exact ⟨hx.1, fun k hk => by rw [h _ (by omega)]; exact hx.2 k hk⟩
theorem pr_T_cong (h : ∀ k, k = 8 ∨ 81 ≤ k → now' k = now k) (hT : pr_T now tn Tx La LT pk pv pn tc) : pr_T now' tn Tx La LT pk pv pn tc := by
  have h8 : ∀ k, 81 ≤ k → now' k = now k := fun k hk => h k (Or.inr hk)
  obtain ⟨⟨a, b⟩, c, d, e⟩ := hT
  refine ⟨⟨a, by rw [h 8 (Or.inl rfl)]; exact b⟩, c, fun t ht => ?_, fun k hk => ?_⟩
  · obtain ⟨x, key, cnt, g1, g2, g3, g4, g5⟩ := d t ht
    exact ⟨x, key, cnt, g1, pe_tx_cong h8 g2, pe_same_cong h8 g3, g4, by rw [h8 _ (by omega)]; exact g5⟩
  · rw [e k hk]
    unfold pr_la
    rw [pr_ct_cong h8]
def pr_pl (now : Nat → Int32) (n : Nat) (Ki He Do : Nat → Int32) : Prop := ∀ i, i < n → ∃ k h d : Nat, k ≤ 5 ∧ h ≤ 99 ∧ d ≤ 1 ∧ now (9 + 3 * i) = nI k ∧ now (9 + 3 * i + 1) = nI h ∧ now (9 + 3 * i + 2) = nI d ∧ Ki i = nI k ∧ He i = nI h ∧ Do i = nI d
def pr_py (now : Nat → Int32) (n : Nat) (Py : Int32) : Prop := (now 2 = -1 ∧ Py = -1000000005) ∨ ∃ p, p < n ∧ now 2 = nI p ∧ Py = nI p
def pr_sc (now : Nat → Int32) (Sz Tc Fa Pa Mi Me Sr Z : Int32) : Prop := Sz = now 1 ∧ Tc = now 8 ∧ Fa = now 4 ∧ Pa = now 5 ∧ Mi = now 3 ∧ Me = now 6 ∧ Sr = now 7 ∧ Z = now 0
def pr_bd (now : Nat → Int32) (n : Nat) : Prop := n ≤ 24 ∧ now 1 = nI n ∧ (∃ mi, mi ≤ 9999 ∧ now 3 = nI mi) ∧ (∃ fa, fa ≤ 99 ∧ now 4 = nI fa) ∧ (∃ a, a ≤ 18 ∧ now 5 = nI a - 9)
theorem pr_rel_iff : pr_rel now n tn Sz Tc Fa Pa Py Mi Me Sr Z Ki He Do Tx La LT pk pv pn tc ↔ pr_bd now n ∧ pr_sc now Sz Tc Fa Pa Mi Me Sr Z ∧ pr_py now n Py ∧ pr_pl now n Ki He Do ∧ pr_T now tn Tx La LT pk pv pn tc := by
  unfold pr_rel pr_ok pr_bd pr_sc pr_py pr_pl pr_T
  constructor
  · rintro ⟨⟨a1, a2, a3, a4, a5, a6, a7, a8, a9, a10⟩, ⟨b1, b2, b3, b4, b5, b6, b7, b8, b9⟩, c, d, e, f⟩
    refine ⟨⟨a1, a3, a7, a8, a9⟩, ⟨b1, b2, b3, b4, b6, b7, b8, b9⟩, ?_, ?_, ⟨a2, a4⟩, d, e, f⟩
    · rcases a6 with h | ⟨p, hp, h⟩
      · left
        rw [h] at b5 ⊢
        exact ⟨rfl, by rw [b5]; decide⟩
      · right
        refine ⟨p, hp, h, ?_⟩
        rw [b5, h, if_neg (nI_pos (by omega))]
    · intro i hi
      obtain ⟨k, h, dd, q1, q2, q3, q4, q5, q6⟩ := a5 i hi
      obtain ⟨c1, c2, c3⟩ := c i hi
      exact ⟨k, h, dd, q1, q2, q3, q4, q5, q6, by rw [c1, q4], by rw [c2, q5], by rw [c3, q6]⟩
  · rintro ⟨⟨a1, a3, a7, a8, a9⟩, ⟨b1, b2, b3, b4, b6, b7, b8, b9⟩, py, pl, ⟨a2, a4⟩, d, e, f⟩
    refine ⟨⟨a1, a2, a3, a4, ?_, ?_, a7, a8, a9, ?_⟩, ⟨b1, b2, b3, b4, ?_, b6, b7, b8, b9⟩, ?_, d, e, f⟩
    · intro i hi
      obtain ⟨k, h, dd, q1, q2, q3, q4, q5, q6, _⟩ := pl i hi
      exact ⟨k, h, dd, q1, q2, q3, q4, q5, q6⟩
    · rcases py with h | ⟨p, hp, h, _⟩
      · exact Or.inl h.1
      · exact Or.inr ⟨p, hp, h⟩
    · intro t ht
      obtain ⟨x, key, cnt, g1, g2, _⟩ := e t ht
      exact ⟨key, cnt, g2⟩
    · rcases py with h | ⟨p, hp, h, h'⟩
      · rw [h.1, h.2]; decide
      · rw [h, h', if_neg (nI_pos (by omega))]
    · intro i hi
      obtain ⟨k, h, dd, q1, q2, q3, q4, q5, q6, q7, q8, q9⟩ := pl i hi
      exact ⟨by rw [q7, q4], by rw [q8, q5], by rw [q9, q6]⟩
theorem pr_pl_at (h : pr_pl now n Ki He Do) {i : Nat} (hi : i < n) : Ki i = now (9 + 3 * i) ∧ He i = now (9 + 3 * i + 1) ∧ Do i = now (9 + 3 * i + 2) := by
  obtain ⟨k, h, dd, q1, q2, q3, q4, q5, q6, q7, q8, q9⟩ := h i hi
  exact ⟨by rw [q7, q4], by rw [q8, q5], by rw [q9, q6]⟩
theorem pr_pl_cong (h : ∀ k, 9 ≤ k → k < 9 + 3 * n → now' k = now k) (hp : pr_pl now n Ki He Do) : pr_pl now' n Ki He Do := by
  intro i hi
  obtain ⟨k, hh, dd, q⟩ := hp i hi
  refine ⟨k, hh, dd, ?_⟩
  rw [h (9 + 3 * i) (by omega) (by omega), h (9 + 3 * i + 1) (by omega) (by omega), h (9 + 3 * i + 2) (by omega) (by omega)]
  exact q
theorem pr_ok_of (h : pr_rel now n tn Sz Tc Fa Pa Py Mi Me Sr Z Ki He Do Tx La LT pk pv pn tc) : pr_ok now n tn := h.1
end
