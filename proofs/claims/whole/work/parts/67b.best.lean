/-! PURE: steps -/
def pt_go (n p s : Nat) : Option Nat := if s = 0 then (if p + 1 < n then some (p + 1) else none) else if s = 1 then (if 0 < p then some (p - 1) else none) else if s = 2 then some p else none
def pt_cI (o : Option Nat) : Int32 := match o with | none => -1000000005 | some q => nI q
def pt_mI (o : Option Nat) : Int32 := match o with | none => -1 | some q => nI q
def pt_of (f : Nat → Nat) (o : Option Nat) : Nat := match o with | none => 0 | some q => f q
theorem pt_on_go (n : Nat) (f : Nat → Nat) (p s : Nat) : pt_on n f p s = pt_of f (pt_go n p s) := by
  unfold pt_on pt_go pt_of
  split
  · split <;> rfl
  · split
    · split <;> rfl
    · split <;> rfl
theorem pt_go_lt {n p s q : Nat} (hp : p < n) (h : pt_go n p s = some q) : q < n := by
  unfold pt_go at h
  split at h
  · split at h
    · cases h; omega
    · cases h
  · split at h
    · split at h
      · cases h; omega
      · cases h
    · split at h
      · cases h; omega
      · cases h
theorem sp_X1_has {x Sz : Int32} {Q : Int32 → Prop} (h1 : 0 ≤ x → x < Sz → Q 1) (h0 : ¬ (0 ≤ x ∧ x < Sz) → Q 0) : wp_X1_has x Sz Q := by
  unfold wp_X1_has
  refine ⟨fun h => h0 ?_, fun h => ⟨fun h2 => h0 ?_, fun h2 => h1 ?_ ?_⟩⟩ <;> simp only [pn_lei, pn_lti] at * <;> omega
theorem sp_X1_behindStep {p n s : Nat} {Sz : Int32} {Q : Int32 → Prop} (hp : p < n) (hn : n ≤ 24) (hs : s < 4) (hS : Sz = nI n) (hq : Q (pt_cI (pt_go n p s))) : wp_X1_behindStep (nI p) (nI s) Sz Q := by
  unfold wp_X1_behindStep
  subst hS
  have hs : s = 0 ∨ s = 1 ∨ s = 2 ∨ s = 3 := by omega
  unfold pt_go at hq
  rcases hs with rfl | rfl | rfl | rfl
  · refine ⟨fun _ => ⟨fun h => ?_, fun h => ?_⟩, fun z => absurd z (by decide), fun z => absurd z (by decide), fun z => absurd rfl z.1⟩
    · rw [pn_p1, nI_leI (by omega) (by omega)] at h
      rw [if_pos rfl, if_neg (by omega)] at hq
      exact hq
    · rw [pn_p1] at h ⊢
      rw [nI_leI (by omega) (by omega)] at h
      rw [if_pos rfl, if_pos (by omega)] at hq
      exact hq
  · refine ⟨fun z => absurd z (by decide), fun _ => ⟨fun h => ?_, fun h => ?_⟩, fun z => absurd z (by decide), fun z => absurd rfl z.2.1⟩
    · rw [show (0 : Int32) = nI 0 from rfl, nI_leI (by omega) (by omega)] at h
      rw [if_neg (by decide), if_pos rfl, if_neg (by omega)] at hq
      exact hq
    · rw [show (0 : Int32) = nI 0 from rfl, nI_leI (by omega) (by omega)] at h
      rw [if_neg (by decide), if_pos rfl, if_pos (by omega)] at hq
      obtain ⟨r, rfl⟩ : ∃ r, p = r + 1 := ⟨p - 1, by omega⟩
      rw [pn_s1]
      exact hq
  · refine ⟨fun z => absurd z (by decide), fun z => absurd z (by decide), fun _ => ?_, fun z => absurd rfl z.2.2⟩
    rw [if_neg (by decide), if_neg (by decide), if_pos rfl] at hq
    exact hq
  · refine ⟨fun z => absurd z (by decide), fun z => absurd z (by decide), fun z => absurd z (by decide), fun _ => ?_⟩
    rw [if_neg (by decide), if_neg (by decide), if_neg (by decide)] at hq
    exact hq
theorem sp_X7_goes {p n s : Nat} {now : Nat → Int32} {Q : Int32 → Prop} (hp : p < n) (hn : n ≤ 24) (hs : s < 4) (hS : now 1 = nI n) (hq : Q (pt_mI (pt_go n p s))) : wp_X7_goes (nI p) (nI s) now Q := by
  unfold wp_X7_goes
  rw [hS]
  have hs : s = 0 ∨ s = 1 ∨ s = 2 ∨ s = 3 := by omega
  unfold pt_go at hq
  rcases hs with rfl | rfl | rfl | rfl
  · refine ⟨fun z => absurd rfl z, fun _ => ⟨fun h => ?_, fun h => ?_⟩⟩
    · rw [pn_p1, nI_leI (by omega) (by omega)] at h
      rw [if_pos rfl, if_neg (by omega)] at hq
      exact hq
    · rw [pn_p1] at h ⊢
      rw [nI_leI (by omega) (by omega)] at h
      rw [if_pos rfl, if_pos (by omega)] at hq
      exact hq
  · refine ⟨fun _ => ⟨fun z => absurd rfl z, fun _ => ?_⟩, fun z => absurd z (by decide)⟩
    by_cases h : 0 < p
    · rw [if_neg (by decide), if_pos rfl, if_pos h] at hq
      obtain ⟨r, rfl⟩ : ∃ r, p = r + 1 := ⟨p - 1, by omega⟩
      rw [pn_s1]
      exact hq
    · rw [if_neg (by decide), if_pos rfl, if_neg h] at hq
      obtain rfl : p = 0 := by omega
      exact hq
  · refine ⟨fun _ => ⟨fun _ => ⟨fun z => absurd rfl z, fun _ => ?_⟩, fun z => absurd z (by decide)⟩, fun z => absurd z (by decide)⟩
    rw [if_neg (by decide), if_neg (by decide), if_pos rfl] at hq
    exact hq
  · refine ⟨fun _ => ⟨fun _ => ⟨fun _ => ?_, fun z => absurd z (by decide)⟩, fun z => absurd z (by decide)⟩, fun z => absurd z (by decide)⟩
    rw [if_neg (by decide), if_neg (by decide), if_neg (by decide)] at hq
    exact hq
theorem sp_X1_mayStep {p n s : Nat} {Sz : Int32} {Do : Nat → Int32} {dn : Nat → Bool} {Q : Int32 → Prop} (hp : p < n) (hn : n ≤ 24) (hs : s < 4) (hS : Sz = nI n) (hd : dn p = decide (Do p = 1)) (h1 : (s ≠ 3 ∨ dn p = true) → Q 1) (h0 : s = 3 → dn p = false → Q 0) : wp_X1_mayStep (nI p) (nI s) Sz Do Q := by
  unfold wp_X1_mayStep
  subst hS
  refine sp_X1_has (fun _ _ => ?_) (fun z => absurd ⟨nI_pos' (by omega), (nI_ltI (by omega) (by omega)).mpr hp⟩ z)
  refine ⟨fun _ => ⟨fun h => h1 (Or.inl ?_), fun h => ⟨pn_in (by omega) (by decide), fun h2 => ?_, fun h2 => ?_⟩⟩, fun z => absurd z (by decide)⟩
  · intro z; subst z; exact h rfl
  · rw [show (3 : Int32) = nI 3 from rfl, nI_eq (by omega) (by omega)] at h
    rw [pn_cl (by omega)] at h2
    exact h0 h (by rw [hd]; exact decide_eq_false h2)
  · rw [pn_cl (by omega)] at h2
    exact h1 (Or.inr (by rw [hd]; exact decide_eq_true h2))
theorem sp_X7_may {p s : Nat} {now : Nat → Int32} {dn : Nat → Bool} {Q : Int32 → Prop} (hp : p < 24) (hs : s < 4) (hd : dn p = decide (now (9 + 3 * p + 2) = 1)) (h1 : (s ≠ 3 ∨ dn p = true) → Q 1) (h0 : s = 3 → dn p = false → Q 0) : wp_X7_may (nI p) (nI s) now Q := by
  unfold wp_X7_may
  refine ⟨fun _ => ⟨fun h => h1 (Or.inl ?_), fun h => sp_X7_of (w := 2) hp (by decide) ⟨fun h2 => ?_, fun h2 => ?_⟩⟩, fun z => absurd (nI_pos' (by omega)) z⟩
  · intro z; subst z; exact h rfl
  · rw [show (3 : Int32) = nI 3 from rfl, nI_eq (by omega) (by omega)] at h
    exact h0 h (by rw [hd]; exact decide_eq_false h2)
  · exact h1 (Or.inr (by rw [hd]; exact decide_eq_true h2))
theorem sp_X5_laterBehind {p n s : Nat} {La : Nat → Int32} {Sz : Int32} {f : Nat → Nat} {Q : Int32 → Prop} (hp : p < n) (hn : n ≤ 24) (hs : s < 4) (hS : Sz = nI n) (hf : ∀ i, i < n → La i = nI (f i)) (hq : Q (nI (pt_on n f p s))) : wp_X5_laterBehind (nI p) (nI s) La Sz Q := by
  unfold wp_X5_laterBehind
  refine sp_X1_behindStep hp hn hs hS ?_
  subst hS
  rw [pt_on_go] at hq
  cases hg : pt_go n p s with
  | none =>
    rw [hg] at hq
    exact sp_X1_has (fun z => absurd z (by decide)) (fun _ => ⟨fun _ => hq, fun z => absurd rfl z⟩)
  | some q =>
    rw [hg] at hq
    have hq1 := pt_go_lt hp hg
    refine sp_X1_has (fun _ _ => ⟨fun z => absurd z (by decide), fun _ => ?_⟩) (fun z => absurd ⟨nI_pos' (by omega), (nI_ltI (by omega) (by omega)).mpr hq1⟩ z)
    show vp_in (nI q) 24 ∧ Q (La (nI q).toNatClampNeg)
    rw [pn_cl (by omega), hf q hq1]
    exact ⟨pn_in (by omega) (by decide), hq⟩
theorem sp_X5_bestStep {p n : Nat} {La Do : Nat → Int32} {Sz : Int32} {f : Nat → Nat} {dn : Nat → Bool} {Q : Int32 → Prop} (hp : p < n) (hn : n ≤ 24) (hS : Sz = nI n) (hf : ∀ i, i < n → La i = nI (f i)) (hb : ∀ i, i < n → f i < 2 ^ 31) (hd : dn p = decide (Do p = 1)) (hq : Q (nI (pt_step dn n f p))) : wp_X5_bestStep (nI p) La Sz Do Q := by
  have hon : ∀ s, pt_on n f p s < 2 ^ 31 := by
    intro s
    rw [pt_on_go]
    cases hg : pt_go n p s with
    | none => exact (by decide : (0 : Nat) < 2 ^ 31)
    | some q => exact hb q (pt_go_lt hp hg)
  have fin : ∀ b, lp_X5_bestStep_5 (nI p) La Sz Do Q 1 (nI b) (nI 4) ↔ Q (nI b) := by
    intro b
    show lp_X5_bestStep_5F (nI p) La Sz Do Q _ (nI b) (nI 4) ↔ _
    unfold lp_X5_bestStep_5F
    exact ⟨fun h => h.1 (by decide), fun h => ⟨fun _ => h, fun z => absurd (by decide) z⟩⟩
  have stp : ∀ (m s b : Nat), s < 4 → b < 4 → ((s ≠ 3 ∨ dn p = true) → (if pt_on n f p s < pt_on n f p b then lp_X5_bestStep_5 (nI p) La Sz Do Q m (nI s) (nI (s + 1)) else lp_X5_bestStep_5 (nI p) La Sz Do Q m (nI b) (nI (s + 1)))) → (s = 3 → dn p = false → lp_X5_bestStep_5 (nI p) La Sz Do Q m (nI b) (nI (s + 1))) → lp_X5_bestStep_5 (nI p) La Sz Do Q (m + 1) (nI b) (nI s) := by
    intro m s b hs hb4 h1 h0
    show lp_X5_bestStep_5F (nI p) La Sz Do Q (lp_X5_bestStep_5 (nI p) La Sz Do Q m) (nI b) (nI s)
    unfold lp_X5_bestStep_5F
    refine ⟨fun z => ?_, fun _ => sp_X1_mayStep hp hn hs hS hd (fun hm => ⟨fun z => absurd z (by decide), fun _ => ?_⟩) (fun e1 e2 => ⟨fun _ => ?_, fun z => absurd rfl z⟩)⟩
    · rw [show (3 : Int32) = nI 3 from rfl, nI_ltI (by omega) (by omega)] at z
      omega
    · refine sp_X5_laterBehind hp hn hs hS hf (sp_X5_laterBehind hp hn hb4 hS hf ?_)
      have h1 := h1 hm
      rw [pn_p1]
      refine ⟨fun z => ?_, fun z => ?_⟩
      · rw [nI_leI (hon _) (hon _)] at z
        rw [if_neg (by omega)] at h1
        exact h1
      · rw [nI_leI (hon _) (hon _)] at z
        rw [if_pos (by omega)] at h1
        exact h1
    · rw [pn_p1]
      exact h0 e1 e2
  unfold wp_X5_bestStep
  refine ⟨4, ?_⟩
  unfold pt_step at hq
  simp only at hq
  have b1lt : (if pt_on n f p 1 < pt_on n f p 0 then 1 else 0) < 4 := by split <;> omega
  have b2lt : (if pt_on n f p 2 < pt_on n f p (if pt_on n f p 1 < pt_on n f p 0 then 1 else 0) then 2 else (if pt_on n f p 1 < pt_on n f p 0 then 1 else 0)) < 4 := by split <;> (try split) <;> omega
  generalize hB1 : (if pt_on n f p 1 < pt_on n f p 0 then 1 else 0) = B1 at hq b1lt b2lt
  generalize hB2 : (if pt_on n f p 2 < pt_on n f p B1 then 2 else B1) = B2 at hq b2lt
  have s3 : lp_X5_bestStep_5 (nI p) La Sz Do Q 2 (nI B2) (nI 3) := by
    refine stp 1 3 B2 (by omega) b2lt (fun hm => ?_) (fun _ hd0 => ?_)
    · have hdp : dn p = true := hm.resolve_left (fun z => z rfl)
      by_cases hc : pt_on n f p 3 < pt_on n f p B2
      · rw [if_pos hc, fin]
        rw [if_pos ⟨hdp, hc⟩] at hq
        exact hq
      · rw [if_neg hc, fin]
        rw [if_neg (fun z => hc z.2)] at hq
        exact hq
    · rw [fin]
      rw [if_neg (fun z => by rw [hd0] at z; exact absurd z.1 (by decide))] at hq
      exact hq
  have s2 : lp_X5_bestStep_5 (nI p) La Sz Do Q 3 (nI B1) (nI 2) := by
    refine stp 2 2 B1 (by omega) b1lt (fun _ => ?_) (fun z => absurd z (by decide))
    by_cases hc : pt_on n f p 2 < pt_on n f p B1
    · rw [if_pos hc] at hB2 ⊢
      rw [← hB2] at s3
      exact s3
    · rw [if_neg hc] at hB2 ⊢
      rw [← hB2] at s3
      exact s3
  refine stp 3 1 0 (by omega) (by omega) (fun _ => ?_) (fun z => absurd z (by decide))
  by_cases hc : pt_on n f p 1 < pt_on n f p 0
  · rw [if_pos hc] at hB1 ⊢
    rw [← hB1] at s2
    exact s2
  · rw [if_neg hc] at hB1 ⊢
    rw [← hB1] at s2
    exact s2
