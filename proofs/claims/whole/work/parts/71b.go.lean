/-! PURE: the reference's go; leaves -/
section
variable {b : Nat → Nat} {L : Nat}
theorem pv_num_S (s k : Nat) : pv_num b s (k + 1) = 10 * pv_num b s k + (b (s + k) - 48) := rfl
theorem pv_num_le (s : Nat) : ∀ k, k ≤ 4 → (∀ j, j < k → 48 ≤ b (s + j) ∧ b (s + j) ≤ 57) → pv_num b s k < 10 ^ k := by
  intro k
  induction k with
  | zero => intro _ _; show 0 < 1; omega
  | succ k ih =>
    intro hk h
    have := ih (by omega) (fun j hj => h j (by omega))
    have := h k (by omega)
    rw [pv_num_S, Nat.pow_succ]
    omega
theorem pv_so1 {x : Nat} (h : pv_so x = 1) : 48 ≤ x ∧ x ≤ 57 := by unfold pv_so at h; grind
theorem pv_so0 {x : Nat} (h : pv_so x = 0) : 97 ≤ x ∧ x ≤ 122 := by unfold pv_so at h; grind
theorem sp_X7_go {e : Nat} {fr tk va en : Int32} {Tap : Nat → Int32} {Q : Int32 → Int32 → Int32 → Int32 → Int32 → Prop} (hL : L ≤ 96) (hB : pv_by Tap b L) (he : e ≤ L) (hed : pv_ed b e en)
    (hq : ∀ va' en', (pv_st b L e < L → pv_ed b (pv_en b L (pv_st b L e)) en') → (pv_tk b L (pv_st b L e) = 1 ∨ pv_tk b L (pv_st b L e) = 2 ∨ pv_tk b L (pv_st b L e) = 3 → va' = nI (pv_va b L (pv_st b L e))) → Q (nI (pv_en b L (pv_st b L e))) (nI (pv_st b L e)) (nI (pv_tk b L (pv_st b L e))) va' en') : wp_X7_go (nI L) (nI e) fr tk va en Tap Q := by
  have hgl := pv_ed_gl he hL hed
  obtain ⟨a1, a2, a3, a4⟩ := pv_st_p (b := b) he
  generalize hs : pv_st b L e = s at hq hgl a1 a2 a3 a4
  have j62 : ∀ y : Int32, (y = 0 ∨ y = 1) → (y = 1 ↔ (0 < s ∧ pv_so (b (s - 1)) ≠ 2)) → jp_X7_go_62 (nI L) Tap Q y (nI s) (nI s) tk va en := by
    intro y hy01 hy
    unfold jp_X7_go_62
    by_cases h : s < L
    · obtain ⟨c1, c2, c3, c4⟩ := pv_en_p (b := b) h
      obtain ⟨k1, k2⟩ := hB s h
      refine pbF' (by grind [pg_n]) (sp_X7_isLetter hL hB (by omega) (fun _ hl => pb1 ?_) (fun hnl => pb0 (sp_X7_isFigure hL hB (by omega) (fun _ hf => pb1 ?_) (fun hnf => pb0 ?_))))
      · -- a word of letters
        obtain ⟨d1, d2⟩ := c4 (by omega)
        have fin : jp_X7_go_127 Tap Q (nI (pv_tk b L s)) (nI (pv_en b L s)) (nI s) tk va en := by
          unfold jp_X7_go_127
          rw [pn_cl (by omega), k2]
          refine ⟨pn_in (by omega) (by decide), hq _ _ (fun _ => Or.inr (Or.inl ⟨by omega, ?_, rfl⟩)) (fun ht => ?_)⟩
          · rw [d1 _ (by omega) (by omega)]; omega
          · unfold pv_va
            rw [if_neg]
            unfold pv_tk
            rw [if_neg (by omega), if_neg (by omega), if_pos hl]
            grind
        have etk : pv_tk b L s = if y = 1 then 4 else 1 := by
          unfold pv_tk
          rw [if_neg (by omega), if_neg (by omega), if_pos hl]
          by_cases g : 0 < s ∧ pv_so (b (s - 1)) ≠ 2
          · rw [if_pos g, if_pos (hy.mpr g)]
          · rw [if_neg g, if_neg (fun z => g (hy.mp z))]
        have Lp : ∀ (w i : Nat), i + w = pv_en b L s → s ≤ i → lp_X7_go_93 (nI L) Tap Q (w + 1) y (nI i) (nI s) tk va en := by
          intro w
          induction w with
          | zero =>
            intro i hi _
            obtain rfl : i = pv_en b L s := by omega
            show lp_X7_go_93F (nI L) Tap Q _ y (nI (pv_en b L s)) (nI s) tk va en
            unfold lp_X7_go_93F
            refine sp_X7_isLetter hL hB c2 (fun hl2 hs2 => absurd (by rw [hs2, hl]) (d2 hl2)) (fun _ => pb0 ⟨fun z => ?_, fun z => ?_⟩)
            · rw [etk, if_neg (by rw [z]; decide)] at fin; exact fin
            · rw [etk, if_pos (hy01.resolve_left z)] at fin; exact fin
          | succ w ih =>
            intro i hi h1
            show lp_X7_go_93F (nI L) Tap Q (lp_X7_go_93 (nI L) Tap Q (w + 1)) y (nI i) (nI s) tk va en
            unfold lp_X7_go_93F
            rw [pn_p1]
            refine sp_X7_isLetter hL hB (by omega) (fun _ _ => pb1 (ih (i + 1) (by omega) (by omega))) (fun hn => absurd ⟨by omega, ?_⟩ hn)
            rw [d1 i (by omega) (by omega)]; exact hl
        exact ⟨_, Lp _ s (show s + (pv_en b L s - s) = _ by omega) (by omega)⟩
      · -- a number
        have hso : pv_so (b s) = 1 := hf
        obtain ⟨d1, d2⟩ := c4 (by omega)
        have Lp : ∀ (w i : Nat), i + w = pv_en b L s → s ≤ i → lp_X7_go_170 (nI L) Tap Q (w + 1) y (nI i) (nI s) tk (nI (pv_num b s (min (i - s) 4))) en := by
          intro w
          induction w with
          | zero =>
            intro i hi _
            obtain rfl : i = pv_en b L s := by omega
            show lp_X7_go_170F (nI L) Tap Q _ y (nI (pv_en b L s)) (nI s) tk _ en
            unfold lp_X7_go_170F
            have hedn : s < L → pv_ed b (pv_en b L s) (nI (pv_en b L s)) := fun _ => Or.inr (Or.inl ⟨by omega, by rw [d1 _ (by omega) (by omega)]; omega, rfl⟩)
            have et : pv_tk b L s = if y = 1 then 4 else if pv_en b L s - s ≤ 4 then 2 else 4 := by
              unfold pv_tk
              rw [if_neg (by omega), if_neg (by omega), if_neg (show ¬ pv_so (b s) = 0 by omega)]
              by_cases g : 0 < s ∧ pv_so (b (s - 1)) ≠ 2
              · rw [if_pos g, if_pos (hy.mpr g)]
              · rw [if_neg g, if_neg (fun z => g (hy.mp z))]
            have hq2 := hq (nI (pv_num b s (min (pv_en b L s - s) 4))) (nI (pv_en b L s)) hedn
            refine sp_X7_isFigure hL hB c2 (fun hl2 hs2 => absurd (by rw [hs2, hso]) (d2 hl2)) (fun _ => pb0 ⟨fun z => ?_, fun z => ⟨fun z2 => ?_, fun z2 => ?_⟩⟩)
            · rw [et, if_pos (hy01.resolve_left z)] at hq2
              exact hq2 (fun q => absurd q (by omega))
            · rw [z] at et
              rw [if_neg (by decide), if_pos (by grind [pg_n])] at et
              rw [et] at hq2
              refine hq2 (fun _ => ?_)
              unfold pv_va
              rw [et, if_pos rfl]
              congr 2
              grind [pg_n]
            · rw [z] at et
              rw [if_neg (by decide), if_neg (by grind [pg_n])] at et
              rw [et] at hq2
              exact hq2 (fun q => absurd q (by omega))
          | succ w ih =>
            intro i hi h1
            show lp_X7_go_170F (nI L) Tap Q (lp_X7_go_170 (nI L) Tap Q (w + 1)) y (nI i) (nI s) tk (nI (pv_num b s (min (i - s) 4))) en
            unfold lp_X7_go_170F
            obtain ⟨k3, k4⟩ := hB i (by omega)
            have hdig := pv_so1 (show pv_so (b i) = 1 by rw [d1 i (by omega) (by omega)]; exact hso)
            rw [pn_p1, pn_cl (by omega), k4]
            have ih2 := ih (i + 1) (by omega) (by omega)
            refine sp_X7_isFigure hL hB (by omega) (fun _ _ => pb1 ⟨fun z => ?_, fun z => ⟨pn_in (by omega) (by decide), ?_⟩⟩) (fun hn => absurd ⟨by omega, ?_⟩ hn)
            · have : 4 ≤ i - s := by grind [pg_n]
              rw [show min (i + 1 - s) 4 = min (i - s) 4 by omega] at ih2
              exact ih2
            · have hlt : i - s < 4 := by grind [pg_n]
              rw [show min (i + 1 - s) 4 = (i - s) + 1 by omega, pv_num_S, show s + (i - s) = i by omega] at ih2
              rw [show min (i - s) 4 = i - s by omega, show (10 : Int32) = nI 10 from rfl, pk_mul, nI_add, show (48 : Int32) = nI 48 from rfl, pk_sub (by omega), show 10 * pv_num b s (i - s) + b i - 48 = 10 * pv_num b s (i - s) + (b i - 48) by omega]
              exact ih2
            · rw [d1 i (by omega) (by omega)]; exact hso
        refine ⟨pv_en b L s - s + 1, ?_⟩
        have := Lp (pv_en b L s - s) s (by omega) (by omega)
        rw [show min (s - s) 4 = 0 by omega] at this
        exact this
      · -- a sign
        have hso : pv_so (b s) = 2 := by
          have := pv_so3 (b s)
          grind
        have et : pv_tk b L s = 3 := by
          unfold pv_tk
          rw [if_neg (by omega), if_pos hso]
        rw [pn_cl (by omega), k2, pn_p1]
        rw [et, c3 hso] at hq
        refine ⟨pn_in (by omega) (by decide), hq _ _ (fun _ => ?_) (fun _ => ?_)⟩
        · right; right
          refine ⟨by omega, by rw [show s + 1 - 1 = s by omega]; exact hso, ?_⟩
          rcases hed with ⟨z1, z2⟩ | ⟨z1, z2, z3⟩ | ⟨z1, z2, z3⟩
          · exact Or.inl z2
          · exact Or.inr ⟨e, by omega, z3⟩
          · rcases z3 with z3 | ⟨q, hq, z3⟩
            · exact Or.inl z3
            · exact Or.inr ⟨q, by omega, z3⟩
        · unfold pv_va
          rw [et, if_neg (by decide)]
    · obtain rfl : s = L := by omega
      rw [pv_en_L (by omega)] at hq
      have et : pv_tk b s s = 0 := by unfold pv_tk; rw [if_pos (by omega)]
      rw [et] at hq
      exact pbT' rfl (hq _ _ (fun z => absurd z (by omega)) (fun z => absurd z (by omega)))
  have j38 : jp_X7_go_38 (nI L) Tap Q (nI s) fr tk va en := by
    unfold jp_X7_go_38
    refine ⟨fun z => j62 0 (Or.inl rfl) ⟨fun q => absurd q (by decide), fun q => absurd (hgl.mpr q) z⟩, fun z => j62 1 (Or.inr rfl) ⟨fun _ => hgl.mp z, fun _ => rfl⟩⟩
  have Lp : ∀ (w i : Nat), i + w = s → e ≤ i → lp_X7_go_0 (nI L) Tap Q (w + 1) (nI i) fr tk va en := by
    intro w
    induction w with
    | zero =>
      intro i hi h1
      obtain rfl : i = s := by omega
      show lp_X7_go_0F (nI L) Tap Q _ (nI i) fr tk va en
      unfold lp_X7_go_0F
      refine ⟨fun _ => j38, fun y => ?_⟩
      have hl : i < L := by grind [pg_n]
      obtain ⟨k3, k4⟩ := hB i hl
      rw [pn_cl (by omega), k4]
      refine ⟨pn_in (by omega) (by decide), pbF' ?_ j38⟩
      rw [show (32 : Int32) = nI 32 from rfl, nI_eq (by omega) (by omega)]
      exact a4 hl
    | succ w ih =>
      intro i hi h1
      show lp_X7_go_0F (nI L) Tap Q (lp_X7_go_0 (nI L) Tap Q (w + 1)) (nI i) fr tk va en
      unfold lp_X7_go_0F
      obtain ⟨k3, k4⟩ := hB i (by omega)
      rw [pn_cl (by omega), k4, pn_p1]
      refine pbF (by grind [pg_n]) ⟨pn_in (by omega) (by decide), pbT' ?_ (ih (i + 1) (by omega) (by omega))⟩
      rw [a3 i (by omega) (by omega)]
      rfl
  unfold wp_X7_go
  exact ⟨_, Lp (s - e) e (by omega) (by omega)⟩
theorem sp_X0_number {s : Nat} {By : Nat → Int32} {Q : Int32 → Prop} (hL : L ≤ 96) (hB : pv_by By b L) (hs : s < L) (hso : pv_so (b s) = 1) (h1 : pv_en b L s - s ≤ 4 → Q (nI (pv_num b s (pv_en b L s - s)))) (h0 : ¬ pv_en b L s - s ≤ 4 → Q (-1000000005)) : wp_X0_numberHere (nI s) (nI (pv_en b L s)) By Q := by
  obtain ⟨c1, c2, c3, c4⟩ := pv_en_p (b := b) hs
  obtain ⟨d1, d2⟩ := c4 (by omega)
  unfold wp_X0_numberHere
  refine ⟨fun y => ?_, fun y => h0 (by grind [pg_n])⟩
  have hl : pv_en b L s - s ≤ 4 := by grind [pg_n]
  have Lp : ∀ (w i : Nat), i + w = pv_en b L s → s ≤ i → lp_X0_numberHere_23 (nI (pv_en b L s)) By Q (w + 1) (nI (pv_num b s (i - s))) (nI i) := by
    intro w
    induction w with
    | zero =>
      intro i hi _
      obtain rfl : i = pv_en b L s := by omega
      show lp_X0_numberHere_23F _ By Q _ _ _
      unfold lp_X0_numberHere_23F
      exact pbT (by grind [pg_n]) (h1 hl)
    | succ w ih =>
      intro i hi hsi
      show lp_X0_numberHere_23F (nI (pv_en b L s)) By Q (lp_X0_numberHere_23 (nI (pv_en b L s)) By Q (w + 1)) (nI (pv_num b s (i - s))) (nI i)
      unfold lp_X0_numberHere_23F
      obtain ⟨k3, k4⟩ := hB i (by omega)
      have hdig := pv_so1 (show pv_so (b i) = 1 by rw [d1 i (by omega) (by omega)]; exact hso)
      have ih2 := ih (i + 1) (by omega) (by omega)
      rw [show i + 1 - s = (i - s) + 1 by omega, pv_num_S, show s + (i - s) = i by omega] at ih2
      rw [pn_p1, pn_cl (by omega), k4, show (10 : Int32) = nI 10 from rfl, pk_mul, nI_add, show (48 : Int32) = nI 48 from rfl, pk_sub (by omega), show pv_num b s (i - s) * 10 + b i - 48 = 10 * pv_num b s (i - s) + (b i - 48) by omega]
      exact pbF (by grind [pg_n]) ⟨pn_in (by omega) (by decide), ih2⟩
  refine ⟨pv_en b L s - s + 1, ?_⟩
  have := Lp (pv_en b L s - s) s (by omega) (by omega)
  rw [show s - s = 0 by omega] at this
  exact this
/-- the place of a letter among the names of a key -/
def pv_nm (key x : Nat) : Option Nat := if key = 0 then (if x = 104 then some 0 else if x = 110 then some 1 else none) else if key = 1 then (if x = 100 then some 0 else if x = 109 then some 1 else none) else (if x = 102 then some 0 else if x = 110 then some 1 else if x = 109 then some 2 else none)
theorem sp_X7_nameOf {key x : Nat} {Q : Int32 → Prop} (hk : key ≤ 2) (hx : x < 256) (h1 : ∀ j, pv_nm key x = some j → Q (nI j)) (h0 : pv_nm key x = none → Q (-1)) : wp_X7_nameOf (nI x) (nI key) Q := by
  have e : ∀ c : Nat, c < 256 → ((nI x = nI c) = (x = c)) := fun c hc => pn_eq (by omega) (by omega)
  unfold wp_X7_nameOf
  rw [show (104 : Int32) = nI 104 from rfl, show (110 : Int32) = nI 110 from rfl, show (100 : Int32) = nI 100 from rfl, show (109 : Int32) = nI 109 from rfl, show (102 : Int32) = nI 102 from rfl, e 104 (by decide), e 110 (by decide), e 100 (by decide), e 109 (by decide), e 102 (by decide)]
  unfold pv_nm at h1 h0
  have : key = 0 ∨ key = 1 ∨ key = 2 := by omega
  rcases this with rfl | rfl | rfl
  · refine ⟨fun _ => ⟨fun z => ⟨fun z2 => h0 (by grind), fun z2 => h1 1 (by grind)⟩, fun z => h1 0 (by grind)⟩, fun z => absurd z (by decide), fun z => absurd rfl z.1⟩
  · refine ⟨fun z => absurd z (by decide), fun _ => ⟨fun z => ⟨fun z2 => h0 (by grind), fun z2 => h1 1 (by grind)⟩, fun z => h1 0 (by grind)⟩, fun z => absurd rfl z.2⟩
  · refine ⟨fun z => absurd z (by decide), fun z => absurd z (by decide), fun _ => ⟨fun z => ⟨fun z2 => ⟨fun z3 => h0 (by grind), fun z3 => h1 2 (by grind)⟩, fun z2 => h1 1 (by grind)⟩, fun z => h1 0 (by grind)⟩⟩
end
