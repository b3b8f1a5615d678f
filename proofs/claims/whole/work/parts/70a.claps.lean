/-! PURE: claps -/
theorem pn_0sub (x : Int32) : 0 - x = -x := by grind
def pq_st (v : Nat → Int32) : Nat → Option (Nat × Nat) × Int32
  | 0 => (none, 0)
  | z + 1 => if v z = -1000000005 then pq_st v z else match pq_st v z with
    | (none, c) => (some (z, z), c)
    | (some (f, l), c) => (some (f, z), c + (if v z < v l then 1 else if v l < v z then -1 else 0))
theorem pq_S0 {v : Nat → Int32} {z : Nat} (h : v z = -1000000005) : pq_st v (z + 1) = pq_st v z := by
  show (if v z = -1000000005 then pq_st v z else _) = _
  rw [if_pos h]
theorem pq_S1 {v : Nat → Int32} {z : Nat} {c : Int32} (h : ¬ v z = -1000000005) (e : pq_st v z = (none, c)) : pq_st v (z + 1) = (some (z, z), c) := by
  show (if v z = -1000000005 then pq_st v z else match pq_st v z with | (none, c) => (some (z, z), c) | (some (f, l), c) => (some (f, z), c + (if v z < v l then 1 else if v l < v z then -1 else 0))) = _
  rw [if_neg h, e]
theorem pq_S2 {v : Nat → Int32} {z f l : Nat} {c : Int32} (h : ¬ v z = -1000000005) (e : pq_st v z = (some (f, l), c)) : pq_st v (z + 1) = (some (f, z), c + (if v z < v l then 1 else if v l < v z then -1 else 0)) := by
  show (if v z = -1000000005 then pq_st v z else match pq_st v z with | (none, c) => (some (z, z), c) | (some (f, l), c) => (some (f, z), c + (if v z < v l then 1 else if v l < v z then -1 else 0))) = _
  rw [if_neg h, e]
theorem pq_inv (v : Nat → Int32) : ∀ z, (pq_st v z = (none, 0) ∧ ∀ j, j < z → v j = -1000000005) ∨ ∃ f l c, pq_st v z = (some (f, l), c) ∧ f ≤ l ∧ l < z ∧ ¬ v f = -1000000005 ∧ ¬ v l = -1000000005 ∧ (∀ j, j < f → v j = -1000000005) ∧ (∀ j, l < j → j < z → v j = -1000000005) := by
  intro z
  induction z with
  | zero => exact Or.inl ⟨rfl, fun j hj => absurd hj (by omega)⟩
  | succ z ih =>
    by_cases h : v z = -1000000005
    · rw [pq_S0 h]
      rcases ih with ⟨e, hn⟩ | ⟨f, l, c, e, h1, h2, h3, h4, h5, h6⟩
      · left
        refine ⟨e, fun j hj => ?_⟩
        by_cases ej : j = z
        · subst ej; exact h
        · exact hn j (by omega)
      · right
        refine ⟨f, l, c, e, h1, by omega, h3, h4, h5, fun j a b => ?_⟩
        by_cases ej : j = z
        · subst ej; exact h
        · exact h6 j a (by omega)
    · right
      rcases ih with ⟨e, hn⟩ | ⟨f, l, c, e, h1, h2, h3, h4, h5, h6⟩
      · exact ⟨z, z, 0, pq_S1 h e, by omega, by omega, h, h, hn, fun j a b => absurd b (by omega)⟩
      · exact ⟨f, z, _, pq_S2 h e, by omega, by omega, h3, h, h5, fun j a b => absurd b (by omega)⟩
def pq_d (v : Nat → Int32) (f : Nat) (pace : Int32) : Nat → Int32
  | 0 => 0
  | i + 1 => if i < f ∨ v i = -1000000005 then pq_d v f pace i else pq_d v f pace i + rc_abs (v i - 3 * pn_hd 0 99 (v f / 3 - pace * (nI i - nI f)))
theorem pq_d0 {v : Nat → Int32} {f : Nat} {pace : Int32} {i : Nat} (h : i < f ∨ v i = -1000000005) : pq_d v f pace (i + 1) = pq_d v f pace i := by
  show (if _ then _ else _) = _
  rw [if_pos h]
theorem pq_d1 {v : Nat → Int32} {f : Nat} {pace : Int32} {i : Nat} (h : ¬ i < f) (h2 : ¬ v i = -1000000005) : pq_d v f pace (i + 1) = pq_d v f pace i + rc_abs (v i - 3 * pn_hd 0 99 (v f / 3 - pace * (nI i - nI f))) := by
  show (if _ then _ else _) = _
  rw [if_neg (fun z => z.elim h h2)]
theorem pq_df {v : Nat → Int32} {f : Nat} {pace : Int32} : ∀ i, i ≤ f → pq_d v f pace i = 0 := by
  intro i
  induction i with
  | zero => intro _; rfl
  | succ i ih => intro h; rw [pq_d0 (Or.inl (by omega))]; exact ih (by omega)
theorem pq_dl {v : Nat → Int32} {f l : Nat} {pace : Int32} : ∀ z, l < z → (∀ j, l < j → j < z → v j = -1000000005) → pq_d v f pace z = pq_d v f pace (l + 1) := by
  intro z
  induction z with
  | zero => intro h; exact absurd h (by omega)
  | succ z ih =>
    intro h hn
    by_cases e : z = l
    · subst e; rfl
    · rw [pq_d0 (Or.inr (hn z (by omega) (by omega)))]
      exact ih (by omega) (fun j a b => hn j a (by omega))
/-- the pace that explains best, of the first j above -9 -/
def pq_p (D : Int32 → Int32) : Nat → Int32
  | 0 => -9
  | j + 1 => if D (nI j - 8) < D (pq_p D j) then nI j - 8 else pq_p D j
theorem pq_p_nI (D : Int32 → Int32) : ∀ j, ∃ a, a ≤ j ∧ pq_p D j = nI a - 9 := by
  intro j
  induction j with
  | zero => exact ⟨0, by omega, by show (-9 : Int32) = nI 0 - 9; decide⟩
  | succ j ih =>
    obtain ⟨a, ha, e⟩ := ih
    show ∃ a, a ≤ j + 1 ∧ (if D (nI j - 8) < D (pq_p D j) then nI j - 8 else pq_p D j) = nI a - 9
    by_cases h : D (nI j - 8) < D (pq_p D j)
    · rw [if_pos h]
      refine ⟨j + 1, by omega, ?_⟩
      rw [show nI (j + 1) = nI j + 1 from (pn_p1 j).symm]
      grind
    · rw [if_neg h]
      exact ⟨a, by omega, e⟩
theorem sp_X2_isNumber {v : Nat → Int32} {i : Nat} {Q : Int32 → Prop} (hi : i < 24) (h0 : v i = -1000000005 → Q 0) (h1 : ¬ v i = -1000000005 → Q 1) : wp_X2_isNumber (nI i) v Q := by
  unfold wp_X2_isNumber
  rw [pn_cl (by omega)]
  exact ⟨pn_in hi (by decide), h0, h1⟩
theorem sp_X2_first {v : Nat → Int32} {z : Nat} {Sz : Int32} {Q : Int32 → Prop} (hz : z ≤ 24) (hS : Sz = nI z) (hn : (∀ j, j < z → v j = -1000000005) → Q (-1000000005)) (hs : ∀ f, f < z → ¬ v f = -1000000005 → (∀ j, j < f → v j = -1000000005) → Q (nI f)) : wp_X2_firstNumber Sz v Q := by
  subst hS
  have L : ∀ (w i : Nat), i + w = z → (∀ j, j < i → v j = -1000000005) → lp_X2_firstNumber_2 (nI z) v Q (w + 1) (nI i) := by
    intro w
    induction w with
    | zero =>
      intro i hi h
      show lp_X2_firstNumber_2F (nI z) v Q _ (nI i)
      unfold lp_X2_firstNumber_2F
      exact pbT (by grind [pg_n]) (hn (fun j hj => h j (by omega)))
    | succ w ih =>
      intro i hi h
      show lp_X2_firstNumber_2F (nI z) v Q (lp_X2_firstNumber_2 (nI z) v Q (w + 1)) (nI i)
      unfold lp_X2_firstNumber_2F
      refine pbF (by grind [pg_n]) (sp_X2_isNumber (by omega) (fun e => pb0 ?_) (fun e => pb1 (hs i (by omega) e h)))
      rw [pn_p1]
      refine ih (i + 1) (by omega) (fun j hj => ?_)
      by_cases ej : j = i
      · subst ej; exact e
      · exact h j (by omega)
  unfold wp_X2_firstNumber
  exact ⟨z + 1, L z 0 (by omega) (fun j hj => absurd hj (by omega))⟩
section
variable {v : Nat → Int32} {z f l : Nat} {c Sz : Int32}
theorem pq_f_u {f f' : Nat} (h1 : ¬ v f = -1000000005) (h2 : ∀ j, j < f → v j = -1000000005) (h3 : ¬ v f' = -1000000005) (h4 : ∀ j, j < f' → v j = -1000000005) : f = f' := by
  by_cases a : f < f'
  · exact absurd (h4 f a) h1
  · by_cases b : f' < f
    · exact absurd (h2 f' b) h3
    · omega
theorem sp_X2_howFar {Q : Int32 → Prop} (hz : z ≤ 24) (hS : Sz = nI z) (e : pq_st v z = (some (f, l), c)) (hq : Q (v l / 3)) : wp_X2_howFar Sz v Q := by
  subst hS
  have L : ∀ (w i : Nat), i + w = z → lp_X2_howFar_4 (nI z) v Q (w + 1) (match (pq_st v i).1 with | none => 0 | some p => v p.2) (nI i) := by
    intro w
    induction w with
    | zero =>
      intro i hi
      obtain rfl : i = z := by omega
      rw [e]
      show lp_X2_howFar_4F (nI i) v Q _ (v l) (nI i)
      unfold lp_X2_howFar_4F
      exact pbT (by grind [pg_n]) hq
    | succ w ih =>
      intro i hi
      have ih := ih (i + 1) (by omega)
      have S : ∀ a b, lp_X2_howFar_4 (nI z) v Q (w + 1 + 1) a b = lp_X2_howFar_4F (nI z) v Q (lp_X2_howFar_4 (nI z) v Q (w + 1)) a b := fun _ _ => rfl
      rw [S]
      unfold lp_X2_howFar_4F
      refine pbF (by grind [pg_n]) (sp_X2_isNumber (by omega) (fun e => pb0 ?_) (fun e => pb1 ⟨pn_in (by omega) (by decide), ?_⟩))
      · rw [pq_S0 e] at ih
        rw [pn_p1]
        exact ih
      · rw [pn_p1, pn_cl (by omega)]
        rcases pq_inv v i with ⟨e2, _⟩ | ⟨f, l, c, e2, _⟩
        · rw [pq_S1 e e2] at ih; exact ih
        · rw [pq_S2 e e2] at ih; exact ih
  unfold wp_X2_howFar
  exact ⟨z + 1, L z 0 (by omega)⟩
theorem sp_X2_comes {Q : Int32 → Prop} (hz : z ≤ 24) (hS : Sz = nI z) (e : pq_st v z = (some (f, l), c)) (h3 : ¬ v f = -1000000005) (h5 : ∀ j, j < f → v j = -1000000005) (hq : Q c) : wp_X2_comes Sz v Q := by
  unfold wp_X2_comes
  refine sp_X2_first hz hS (fun hn => ?_) (fun f' h1 h2 h4 => ?_)
  · rcases pq_inv v z with ⟨e2, _⟩ | ⟨f2, l2, c2, e2, g1, g2, g3, _⟩
    · rw [e] at e2; cases e2
    · exact absurd (hn f2 (by omega)) g3
  · obtain rfl : f' = f := pq_f_u h2 h4 h3 h5
    subst hS
    have L : ∀ (w i : Nat) (l : Nat) (cc : Int32), i + w = z → pq_st v i = (some (f', l), cc) → lp_X2_comes_27 (nI z) v Q (w + 1) cc (v l) (nI i) := by
      intro w
      induction w with
      | zero =>
        intro i l2 c2 hi e2
        obtain rfl : i = z := by omega
        rw [e] at e2
        cases e2
        show lp_X2_comes_27F (nI i) v Q _ c (v l) (nI i)
        unfold lp_X2_comes_27F
        exact pbT (by grind [pg_n]) hq
      | succ w ih =>
        intro i l2 c2 hi e2
        show lp_X2_comes_27F (nI z) v Q (lp_X2_comes_27 (nI z) v Q (w + 1)) c2 (v l2) (nI i)
        unfold lp_X2_comes_27F
        have hin : vp_in (nI i) 24 := pn_in (by omega) (by decide)
        rw [pn_p1, pn_cl (by omega)]
        refine pbF (by grind [pg_n]) (sp_X2_isNumber (by omega) (fun e3 => pb0 ?_) (fun e3 => pb1 ⟨hin, fun a => ⟨hin, fun b => ⟨hin, ?_⟩, fun b => ⟨hin, ?_⟩⟩, fun a => ⟨hin, ?_⟩⟩))
        · exact ih (i + 1) l2 c2 (by omega) (by rw [pq_S0 e3]; exact e2)
        · refine ih (i + 1) i c2 (by omega) ?_
          rw [pq_S2 e3 e2, if_neg (by grind), if_neg (by grind), show c2 + (0 : Int32) = c2 from by grind]
        · refine ih (i + 1) i (c2 + (-1)) (by omega) ?_
          rw [pq_S2 e3 e2, if_neg (by grind), if_pos (by grind)]
        · refine ih (i + 1) i (c2 + 1) (by omega) ?_
          rw [pq_S2 e3 e2, if_pos (by grind)]
    refine pbF' (by grind [pg_n]) ⟨pn_in (by omega) (by decide), z - (f' + 1) + 1, ?_⟩
    rw [pn_p1, pn_cl (by omega)]
    refine L (z - (f' + 1)) (f' + 1) f' 0 (by omega) ?_
    have e0 : pq_st v f' = (none, 0) := by
      rcases pq_inv v f' with ⟨e2, _⟩ | ⟨f2, l2, c2, e2, g1, g2, g3, _⟩
      · exact e2
      · exact absurd (h5 f2 (by omega)) g3
    exact pq_S1 h3 e0
theorem sp_X2_diff {Q : Int32 → Prop} {pace : Int32} (hz : z ≤ 24) (hS : Sz = nI z) (hf : f < z) (h3 : ¬ v f = -1000000005) (h5 : ∀ j, j < f → v j = -1000000005) (hq : Q (pq_d v f pace z)) : wp_X2_differences pace Sz v Q := by
  unfold wp_X2_differences
  refine sp_X2_first hz hS (fun hn => absurd (hn f hf) h3) (fun f' h1 h2 h4 => ?_)
  obtain rfl : f' = f := pq_f_u h2 h4 h3 h5
  subst hS
  refine pbF' (by grind [pg_n]) ⟨pn_in (by omega) (by decide), z - f' + 1, ?_⟩
  rw [pn_cl (by omega)]
  have L : ∀ (w i : Nat), i + w = z → f' ≤ i → lp_X2_differences_28 pace (nI z) v Q (w + 1) (nI f') (v f' / 3) (pq_d v f' pace i) (nI i) := by
    intro w
    induction w with
    | zero =>
      intro i hi hfi
      obtain rfl : i = z := by omega
      show lp_X2_differences_28F pace (nI i) v Q _ (nI f') (v f' / 3) (pq_d v f' pace i) (nI i)
      unfold lp_X2_differences_28F
      exact pbT (by grind [pg_n]) hq
    | succ w ih =>
      intro i hi hfi
      show lp_X2_differences_28F pace (nI z) v Q (lp_X2_differences_28 pace (nI z) v Q (w + 1)) (nI f') (v f' / 3) (pq_d v f' pace i) (nI i)
      unfold lp_X2_differences_28F
      have ih := ih (i + 1) (by omega) (by omega)
      rw [pn_p1, pn_cl (by omega)]
      refine pbF (by grind [pg_n]) (sp_X2_isNumber (by omega) (fun e3 => pb0 ?_) (fun e3 => pb1 ⟨pn_in (by omega) (by decide), sp_X6_held (by decide) ?_⟩))
      · rw [pq_d0 (Or.inr e3)] at ih; exact ih
      · rw [pq_d1 (by omega) e3] at ih; exact ih
  have := L (z - f') f' (by omega) (by omega)
  rw [pq_df f' (by omega)] at this
  exact this
theorem sp_X2_pace {Q : Int32 → Prop} (hz : z ≤ 24) (hS : Sz = nI z) (hf : f < z) (h3 : ¬ v f = -1000000005) (h5 : ∀ j, j < f → v j = -1000000005) (hq : Q (pq_p (fun p => pq_d v f p z) 18)) : wp_X2_explainingPace Sz v Q := by
  unfold wp_X2_explainingPace
  refine sp_X2_diff hz hS hf h3 h5 ⟨19, ?_⟩
  have L : ∀ (w j : Nat), j + w = 18 → lp_X2_explainingPace_12 Sz v Q (w + 1) (pq_p (fun p => pq_d v f p z) j) (pq_d v f (pq_p (fun p => pq_d v f p z) j) z) (nI j - 8) := by
    intro w
    induction w with
    | zero =>
      intro j hj
      obtain rfl : j = 18 := by omega
      show lp_X2_explainingPace_12F Sz v Q _ _ _ (nI 18 - 8)
      unfold lp_X2_explainingPace_12F
      exact pbT (by decide) hq
    | succ w ih =>
      intro j hj
      show lp_X2_explainingPace_12F Sz v Q (lp_X2_explainingPace_12 Sz v Q (w + 1)) (pq_p (fun p => pq_d v f p z) j) (pq_d v f (pq_p (fun p => pq_d v f p z) j) z) (nI j - 8)
      unfold lp_X2_explainingPace_12F
      have ih := ih (j + 1) (by omega)
      have e1 : nI j - 8 + 1 = nI (j + 1) - 8 := by rw [← pn_p1]; grind
      have e2 : pq_p (fun p => pq_d v f p z) (j + 1) = if pq_d v f (nI j - 8) z < pq_d v f (pq_p (fun p => pq_d v f p z) j) z then nI j - 8 else pq_p (fun p => pq_d v f p z) j := rfl
      rw [e1]
      refine pbF (by grind [pg_n]) (sp_X2_diff hz hS hf h3 h5 ⟨fun a => ?_, fun a => ?_⟩)
      · rw [e2, if_neg (by grind)] at ih; exact ih
      · rw [e2, if_pos (by grind)] at ih; exact ih
  exact L 18 0 (by omega)
theorem sp_X7_findClaps {s : Nat} {LC : Int32} {Siz Cel : Nat → Int32} {Q : Int32 → Int32 → Int32 → Int32 → Prop} (hs : s < 4) (hz : z ≤ 24) (hS : Siz s = nI z) (hv : ∀ k, k < 24 → v k = Cel (24 * s + k))
    (hn : pq_st v z = (none, 0) → ∀ a b cc, Q 0 a b cc) (hq : ∀ f l c, pq_st v z = (some (f, l), c) → Q 1 (nI f) (nI l) c) : wp_X7_findClaps (nI s) LC Siz Cel Q := by
  have hin : vp_in (nI s) 4 := pn_in hs (by decide)
  have L : ∀ (w i : Nat) (fc lc cg : Int32), i + w = z → ((pq_st v i = (none, 0) ∧ fc = -1 ∧ cg = 0) ∨ ∃ f l, pq_st v i = (some (f, l), cg) ∧ fc = nI f ∧ lc = nI l ∧ f ≤ l ∧ l < i) → lp_X7_findClaps_12 (nI s) Siz Cel Q (w + 1) (nI i) fc lc cg := by
    intro w
    induction w with
    | zero =>
      intro i fc lc cg hi hst
      obtain rfl : i = z := by omega
      show lp_X7_findClaps_12F (nI s) Siz Cel Q _ (nI i) fc lc cg
      unfold lp_X7_findClaps_12F
      rw [pn_cl (by omega), hS]
      refine ⟨hin, pbT (by grind [pg_n]) ?_⟩
      rcases hst with ⟨e, rfl, rfl⟩ | ⟨f, l, e, rfl, rfl, _, _⟩
      · exact pbT (by decide) (hn e _ _ _)
      · exact pbF (nI_pos (by omega)) (hq f l cg e)
    | succ w ih =>
      intro i fc lc cg hi hst
      show lp_X7_findClaps_12F (nI s) Siz Cel Q (lp_X7_findClaps_12 (nI s) Siz Cel Q (w + 1)) (nI i) fc lc cg
      unfold lp_X7_findClaps_12F
      rw [pn_cl (by omega), hS, pn_ixs, pn_cl (by omega), ← hv i (by omega)]
      refine ⟨hin, pbF (by grind [pg_n]) ⟨pn_in (by omega) (by decide), fun e3 => ?_, fun e3 => ?_⟩⟩
      · rw [pn_p1]
        refine ih (i + 1) fc lc cg (by omega) ?_
        rw [pq_S0 e3]
        rcases hst with h | ⟨f, l, e, h1, h2, h3, h4⟩
        · exact Or.inl h
        · exact Or.inr ⟨f, l, e, h1, h2, h3, by omega⟩
      · rcases hst with ⟨e, rfl, rfl⟩ | ⟨f, l, e, rfl, rfl, h3, h4⟩
        · refine pbF (by decide) ?_
          unfold jp_X7_findClaps_65 jp_X7_findClaps_93
          refine pbT (by grind) (pbT (by grind) (pbF (by decide) ?_))
          rw [pn_p1]
          exact ih (i + 1) _ _ _ (by omega) (Or.inr ⟨i, i, pq_S1 e3 e, rfl, rfl, by omega, by omega⟩)
        · refine pbT (nI_pos' (by omega)) ?_
          rw [pn_ixs, pn_cl (by omega), ← hv l (by omega)]
          refine ⟨pn_in (by omega) (by decide), ?_⟩
          have fin : ∀ d : Int32, d = (if v i < v l then 1 else if v l < v i then -1 else 0) → jp_X7_findClaps_93 (lp_X7_findClaps_12 (nI s) Siz Cel Q (w + 1)) (nI i) d cg (nI f) (nI l) cg := by
            intro d hd
            unfold jp_X7_findClaps_93
            refine pbT (nI_pos' (by omega)) ?_
            rw [pn_p1]
            refine ih (i + 1) _ _ _ (by omega) (Or.inr ⟨f, i, ?_, rfl, rfl, by omega, by omega⟩)
            rw [pq_S2 e3 e, hd]
          unfold jp_X7_findClaps_65
          refine ⟨fun a => ⟨fun b => fin 0 ?_, fun b => fin (-1) ?_⟩, fun a => fin 1 ?_⟩
          · rw [if_neg (by grind), if_neg (by grind)]
          · rw [if_neg (by grind), if_pos (by grind)]
          · rw [if_pos (by grind)]
  unfold wp_X7_findClaps
  exact ⟨z + 1, L z 0 (-1) LC 0 (by omega) (Or.inl ⟨rfl, rfl, rfl⟩)⟩
theorem sp_X7_offBy {s : Nat} {pace : Int32} {Cel : Nat → Int32} {Q : Int32 → Prop} (hs : s < 4) (hz : z ≤ 24) (hv : ∀ k, k < 24 → v k = Cel (24 * s + k)) (h1 : f ≤ l) (h2 : l < z) (h6 : ∀ j, l < j → j < z → v j = -1000000005) (hq : Q (pq_d v f pace z)) : wp_X7_offBy (nI s) pace (nI f) (nI l) Cel Q := by
  rw [pq_dl z h2 h6] at hq
  unfold wp_X7_offBy
  rw [pn_ixs, pn_cl (by omega), ← hv f (by omega)]
  refine ⟨pn_in (by omega) (by decide), l + 1 - f + 1, ?_⟩
  have L : ∀ (w i : Nat), i + w = l + 1 → f ≤ i → lp_X7_offBy_26 (nI s) pace (nI f) (nI l) Cel Q (w + 1) (v f / 3) (pq_d v f pace i) (nI i) := by
    intro w
    induction w with
    | zero =>
      intro i hi hfi
      obtain rfl : i = l + 1 := by omega
      show lp_X7_offBy_26F (nI s) pace (nI f) (nI l) Cel Q _ (v f / 3) (pq_d v f pace (l + 1)) (nI (l + 1))
      unfold lp_X7_offBy_26F
      exact pbT (by grind [pg_n]) hq
    | succ w ih =>
      intro i hi hfi
      show lp_X7_offBy_26F (nI s) pace (nI f) (nI l) Cel Q (lp_X7_offBy_26 (nI s) pace (nI f) (nI l) Cel Q (w + 1)) (v f / 3) (pq_d v f pace i) (nI i)
      unfold lp_X7_offBy_26F
      have ih := ih (i + 1) (by omega) (by omega)
      rw [pn_ixs, pn_cl (by omega), pn_p1, ← hv i (by omega)]
      refine pbF (by grind [pg_n]) ⟨pn_in (by omega) (by decide), sp_X7_within ⟨fun e3 => ⟨fun a => ?_, fun a => ?_⟩, fun e3 => ?_⟩⟩
      · rw [pq_d1 (by omega) e3] at ih
        unfold rc_abs at ih
        rw [if_pos a] at ih
        exact ih
      · rw [pq_d1 (by omega) e3] at ih
        unfold rc_abs at ih
        rw [if_neg a, pn_0sub] at ih
        exact ih
      · rw [pq_d0 (Or.inr e3)] at ih
        rw [show pq_d v f pace i + 0 = pq_d v f pace i from by grind]
        exact ih
  have := L (l + 1 - f) f (by omega) (by omega)
  rw [pq_df f (by omega)] at this
  exact this
theorem sp_X7_pace {s : Nat} {Cel : Nat → Int32} {Q : Int32 → Prop} (hs : s < 4) (hz : z ≤ 24) (hv : ∀ k, k < 24 → v k = Cel (24 * s + k)) (h1 : f ≤ l) (h2 : l < z) (h6 : ∀ j, l < j → j < z → v j = -1000000005) (hq : Q (pq_p (fun p => pq_d v f p z) 18)) : wp_X7_paceOf (nI s) (nI f) (nI l) Cel Q := by
  unfold wp_X7_paceOf
  refine ⟨19, ?_⟩
  have L : ∀ (w j : Nat), j + w = 18 → lp_X7_paceOf_6 (nI s) (nI f) (nI l) Cel Q (w + 1) (pq_p (fun p => pq_d v f p z) j) (nI j - 8) := by
    intro w
    induction w with
    | zero =>
      intro j hj
      obtain rfl : j = 18 := by omega
      show lp_X7_paceOf_6F (nI s) (nI f) (nI l) Cel Q _ _ (nI 18 - 8)
      unfold lp_X7_paceOf_6F
      exact pbT (by decide) hq
    | succ w ih =>
      intro j hj
      show lp_X7_paceOf_6F (nI s) (nI f) (nI l) Cel Q (lp_X7_paceOf_6 (nI s) (nI f) (nI l) Cel Q (w + 1)) (pq_p (fun p => pq_d v f p z) j) (nI j - 8)
      unfold lp_X7_paceOf_6F
      have ih := ih (j + 1) (by omega)
      have e1 : nI j - 8 + 1 = nI (j + 1) - 8 := by rw [← pn_p1]; grind
      have e2 : pq_p (fun p => pq_d v f p z) (j + 1) = if pq_d v f (nI j - 8) z < pq_d v f (pq_p (fun p => pq_d v f p z) j) z then nI j - 8 else pq_p (fun p => pq_d v f p z) j := rfl
      rw [e1]
      refine pbF (by grind [pg_n]) (sp_X7_offBy hs hz hv h1 h2 h6 (sp_X7_offBy hs hz hv h1 h2 h6 ⟨fun a => ?_, fun a => ?_⟩))
      · rw [e2, if_neg (by grind)] at ih; exact ih
      · rw [e2, if_pos (by grind)] at ih; exact ih
  exact L 18 0 (by omega)
end
