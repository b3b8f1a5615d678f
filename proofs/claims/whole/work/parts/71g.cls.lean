/-! PURE: the class's reader, step by step -/
def pw_Oc (Co : Nat → Int32) (o : List Int32) : Prop := ∀ k, k < o.length → Co k = pe_cv (o.getD k 0)
theorem pw_Oc_app {Co : Nat → Int32} {o : List Int32} {x : Int32} (h : pw_Oc Co o) : pw_Oc (upd Co o.length (pe_cv x)) (o ++ [x]) := by
  intro k hk
  rw [List.length_append, List.length_singleton] at hk
  by_cases e : k = o.length
  · subst e
    rw [pn_upd_self, List.getD_eq_getElem?_getD, List.getElem?_append_right (Nat.le_refl _)]
    simp
  · rw [pn_upd_ne e, h k (by omega), List.getD_eq_getElem?_getD, List.getD_eq_getElem?_getD, List.getElem?_append_left (by omega)]
theorem sp_X0_putCode {c : Int32} {o : List Int32} {Co : Nat → Int32} {Q : Int32 → (Nat → Int32) → Prop} (hl : o.length < 96) (hO : pw_Oc Co o) (hq : ∀ Co', pw_Oc Co' (o ++ [c]) → Q (nI (o ++ [c]).length) Co') : wp_X0_putCode (pe_cv c) (nI o.length) Co Q := by
  unfold wp_X0_putCode
  rw [pn_cl (by omega), pn_p1]
  refine pbF (by grind [pg_n]) ⟨pn_in hl (by decide), ?_⟩
  have := hq _ (pw_Oc_app (x := c) hO)
  rw [show (o ++ [c]).length = o.length + 1 by simp] at this
  exact this
/-- behind a fault anything may be put -/
theorem sp_X0_putAny {c cc : Int32} {Co : Nat → Int32} {Q : Int32 → (Nat → Int32) → Prop} (h : 0 ≤ cc) (hq : ∀ cc' Co', 0 ≤ cc' → Q cc' Co') : wp_X0_putCode c cc Co Q := by
  unfold wp_X0_putCode
  refine ⟨fun _ => hq _ _ h, fun z => ⟨?_, hq _ _ ?_⟩⟩
  · obtain ⟨k, hk, rfl⟩ := pg_nat cc h
    exact pn_in (by grind [pg_n]) (by decide)
  · obtain ⟨k, hk, rfl⟩ := pg_nat cc h
    have : k < 96 := by grind [pg_n]
    rw [pn_p1]
    exact nI_pos' (by omega)
section
variable {b : Nat → Nat} {L key : Nat} {By : Nat → Int32} {s : Nat}
theorem pv_cs_le : pv_cs b L s ≤ 4 := by unfold pv_cs; have := pv_so3 (b s); grind
theorem pw_cs {k : Nat} (hk : k ≤ 4) : (nI (pv_cs b L s) = nI k) = (pv_cs b L s = k) := by
  have := pv_cs_le (b := b) (L := L) (s := s)
  exact pn_eq (by omega) (by omega)
theorem sp_sgn {Q : Int32 → Prop} (hL : L ≤ 96) (hB : pv_by By b L) (ht : pv_tk b L s = 3) (hq : Q (nI (b s))) : wp_X0_signHere (nI s) (nI (pv_cs b L s)) By Q := by
  have hs := pv_tk_lt (by decide) ht
  unfold wp_X0_signHere
  rw [(pv_cs_tk s).2.1.mpr ht, pn_cl (by omega), (hB s hs).2]
  exact pbT' rfl ⟨pn_in (by omega) (by decide), hq⟩
theorem sp_nosgn {Q : Int32 → Prop} (ht : pv_tk b L s ≠ 3) (hq : Q (-1000000005)) : wp_X0_signHere (nI s) (nI (pv_cs b L s)) By Q := by
  unfold wp_X0_signHere
  refine pbF' ?_ hq
  rw [show (2 : Int32) = nI 2 from rfl, pw_cs (by decide)]
  exact fun z => ht ((pv_cs_tk s).2.1.mp z)
theorem sp_lvl {Q : Int32 → Prop} (hL : L ≤ 96) (hB : pv_by By b L) (h0 : pw_lv b L s = none → Q (-1000000005)) (h1 : ∀ l c, pw_lv b L s = some (l, c) → Q (nI l)) : wp_X0_signHere (nI s) (nI (pv_cs b L s)) By (fun r => wp_X0_levelOf r Q) := by
  unfold pw_lv at h0 h1
  by_cases e : pv_tk b L s = 3
  · have hs := pv_tk_lt (by decide) e
    have hb := (hB s hs).1
    rw [if_pos e] at h0 h1
    refine sp_sgn hL hB e ?_
    unfold wp_X0_levelOf
    have eq : ∀ k : Nat, k < 256 → ((nI (b s) = nI k) = (b s = k)) := fun k hk => pn_eq (by omega) (by omega)
    rw [show (38 : Int32) = nI 38 from rfl, show (42 : Int32) = nI 42 from rfl, show (43 : Int32) = nI 43 from rfl, show (45 : Int32) = nI 45 from rfl, show (47 : Int32) = nI 47 from rfl, show (60 : Int32) = nI 60 from rfl, show (61 : Int32) = nI 61 from rfl, show (62 : Int32) = nI 62 from rfl, show (124 : Int32) = nI 124 from rfl]
    rw [eq 38 (by decide), eq 42 (by decide), eq 43 (by decide), eq 45 (by decide), eq 47 (by decide), eq 60 (by decide), eq 61 (by decide), eq 62 (by decide), eq 124 (by decide)]
    generalize b s = x at h0 h1
    refine ⟨fun z => ?_, fun z => ?_, fun z => ?_, fun z => ?_, fun z => ?_, fun z => ?_, fun z => ?_, fun z => ?_, fun z => ?_, fun z => h0 ?_⟩
    · subst z; exact h1 _ _ rfl
    · subst z; exact h1 _ _ rfl
    · subst z; exact h1 _ _ rfl
    · subst z; exact h1 _ _ rfl
    · subst z; exact h1 _ _ rfl
    · subst z; exact h1 _ _ rfl
    · subst z; exact h1 _ _ rfl
    · subst z; exact h1 _ _ rfl
    · subst z; exact h1 _ _ rfl
    · unfold pw_op
      grind
  · refine sp_nosgn e ?_
    rw [if_neg e] at h0
    have := h0 rfl
    unfold wp_X0_levelOf
    refine ⟨fun z => absurd z (by decide), fun z => absurd z (by decide), fun z => absurd z (by decide), fun z => absurd z (by decide), fun z => absurd z (by decide), fun z => absurd z (by decide), fun z => absurd z (by decide), fun z => absurd z (by decide), fun z => absurd z (by decide), fun _ => this⟩
theorem sp_X0_name {Q : Int32 → Prop} (hL : L ≤ 96) (hB : pv_by By b L) (hk : key ≤ 2) (hs : s < L) (h1 : ∀ j, pv_en b L s - s = 1 → pv_nm key (b s) = some j → Q (pe_cv (nI (10000 + j)))) (h0 : ¬ (pv_en b L s - s = 1 ∧ ∃ j, pv_nm key (b s) = some j) → Q (-1000000005)) : wp_X0_nameHere (nI key) (nI s) (nI (pv_en b L s)) By Q := by
  obtain ⟨c1, c2, _⟩ := pv_en_p (b := b) hs
  unfold wp_X0_nameHere
  refine ⟨fun z => ?_, fun z => ?_⟩
  · unfold jp_X0_nameHere_37
    exact pbF (by decide) (h0 (fun y => z (by have := y.1; grind [pg_n])))
  · have hl : pv_en b L s - s = 1 := by grind [pg_n]
    obtain ⟨k1, k2⟩ := hB s hs
    have fin : vp_in (nI s) 96 ∧ wp_J0_indexOf_0f7a4 (rc_i2c (By ((nI s).toNatClampNeg))) (3 + key) (fun r_5 => jp_X0_nameHere_37 Q r_5) := by
      refine ⟨pn_in (by omega) (by decide), ?_⟩
      rw [pn_cl (by omega), k2, pv_i2c _ k1]
      refine sp_idx k1 hk (fun j ej => ?_) (fun ej => ?_)
      · have hj3 : j < 3 := by unfold pv_nm at ej; grind
        unfold jp_X0_nameHere_37
        refine pbT (nI_pos' (by omega)) ?_
        have := h1 j hl ej
        rw [pe_cv_name j hj3] at this
        exact this
      · unfold jp_X0_nameHere_37
        refine pbF (by decide) (h0 (fun y => ?_))
        obtain ⟨j, hj⟩ := y.2
        rw [ej] at hj; cases hj
    unfold wp_X0_namesOf
    have : key = 0 ∨ key = 1 ∨ key = 2 := by omega
    rcases this with rfl | rfl | rfl
    · exact pbT' rfl fin
    · exact pbF' (by decide) (pbT' rfl fin)
    · exact pbF' (by decide) (pbF' (by decide) fin)
/-- a leaf's code -/
def pw_leaf (b : Nat → Nat) (L key s c : Nat) : Prop := (pv_tk b L s = 2 ∧ c = pv_va b L s) ∨ (pv_tk b L s = 1 ∧ pv_en b L s - s = 1 ∧ ∃ j, pv_nm key (b s) = some j ∧ c = 10000 + j)
theorem pw_leaf_lt {c : Nat} (hk : key ≤ 2) (h : pw_leaf b L key s c) : c < 10000 + (if key = 2 then 3 else 2) ∧ s < L := by
  rcases h with ⟨h1, h2⟩ | ⟨h1, h2, j, hj, h3⟩
  · have hs := pv_tk_lt (by decide) h1
    refine ⟨?_, hs⟩
    have h1' := h1
    unfold pv_tk at h1'
    have hso : pv_so (b s) = 1 ∧ pv_en b L s - s ≤ 4 := by have := pv_so3 (b s); grind
    obtain ⟨c1, c2, _, c4⟩ := pv_en_p (b := b) hs
    obtain ⟨d1, d2⟩ := c4 (by omega)
    have := pv_num_le (b := b) s (pv_en b L s - s) hso.2 (fun j hj => pv_so1 (by rw [d1 (s + j) (by omega) (by omega)]; exact hso.1))
    have e4 : 10 ^ (pv_en b L s - s) ≤ 10 ^ 4 := Nat.pow_le_pow_right (by decide) hso.2
    unfold pv_va at h2
    rw [if_pos h1] at h2
    rw [h2]
    split <;> omega
  · refine ⟨?_, pv_tk_lt (by decide) h1⟩
    unfold pv_nm at hj
    rw [h3]
    grind
theorem sp_X0_readLeaf {lv : Nat} {o : List Int32} {Co : Nat → Int32} {Q : Int32 → Int32 → Int32 → Int32 → Int32 → Int32 → (Nat → Int32) → Prop} (hL : L ≤ 96) (hB : pv_by By b L) (hk : key ≤ 2) (hs : s < L) (hcs : pv_cs b L s = 0 ∨ pv_cs b L s = 1) (hl : o.length < 96) (hO : pw_Oc Co o)
    (h1 : ∀ c Co', pw_leaf b L key s c → pw_Oc Co' (o ++ [nI c]) → Q (-1000000005) (nI (o ++ [nI c]).length) (nI (lv + 1)) (nI (pv_nx b L s)) (nI (pv_en b L (pv_nx b L s))) (nI (pv_cs b L (pv_nx b L s))) Co')
    (h0 : (∀ c, ¬ pw_leaf b L key s c) → Q (nI s) (nI o.length) (nI lv) (nI s) (nI (pv_en b L s)) (nI (pv_cs b L s)) Co) : wp_X0_readLeaf (nI L) (-1000000005) (nI o.length) (nI key) (nI lv) (nI s) (nI (pv_en b L s)) (nI (pv_cs b L s)) By Co Q := by
  obtain ⟨c1, c2, _⟩ := pv_en_p (b := b) hs
  have hcs' := hcs
  unfold pv_cs at hcs'
  have hcs2 : ¬ (pv_so (b s) = 2) ∧ ¬ (0 < s ∧ pv_so (b (s - 1)) ≠ 2) ∧ pv_cs b L s = pv_so (b s) := by unfold pv_cs; grind
  have j19 : ∀ y : Int32, (y = -1000000005 → ∀ c, ¬ pw_leaf b L key s c) → (¬ y = -1000000005 → ∃ c, pw_leaf b L key s c ∧ y = pe_cv (nI c)) → jp_X0_readLeaf_19 (nI L) By Q y (-1000000005) (nI o.length) (nI lv) (nI s) (nI (pv_en b L s)) (nI (pv_cs b L s)) Co := by
    intro y g0 g1
    unfold jp_X0_readLeaf_19
    refine ⟨fun z => ?_, fun z => ?_⟩
    · obtain ⟨c, hc, rfl⟩ := g1 z
      refine sp_X0_putCode hl hO (fun Co' hC => sp_X0_moveOn hL hB c2 ?_)
      rw [pn_p1]
      exact h1 c Co' hc hC
    · unfold wp_X0_setFault
      exact pbT' rfl (h0 (g0 z))
  have tk1 : pv_cs b L s = 0 → pv_tk b L s = 1 := (pv_cs_tk s).1.mp
  have hnum : ∀ v, v < 10000 → ¬ pe_cv (nI v) = -1000000005 := by
    intro v hv z
    have := pe_cv_num hv
    rw [this.1] at z
    grind [pg_n]
  unfold wp_X0_readLeaf
  refine ⟨fun z => ?_, fun z => ?_⟩
  · rw [show (1 : Int32) = nI 1 from rfl, pw_cs (by decide)] at z
    have h0' : pv_cs b L s = 0 := by omega
    have ht := tk1 h0'
    refine sp_X0_name hL hB hk hs (fun j e1 ej => j19 _ (fun y => ?_) (fun _ => ⟨10000 + j, Or.inr ⟨ht, e1, j, ej, rfl⟩, rfl⟩)) (fun hn => j19 _ (fun _ c hc => ?_) (fun y => absurd rfl y))
    · have hj3 : j < 3 := by unfold pv_nm at ej; grind
      rw [pe_cv_name j hj3] at y
      have : j = 0 ∨ j = 1 ∨ j = 2 := by omega
      rcases this with rfl | rfl | rfl <;> exact absurd y (by decide)
    · rcases hc with hc | ⟨q1, q2, j, q3, q4⟩
      · omega
      · exact hn ⟨q2, j, q3⟩
  · rw [show (1 : Int32) = nI 1 from rfl, pw_cs (by decide)] at z
    have hso : pv_so (b s) = 1 := by omega
    have et : pv_tk b L s = if pv_en b L s - s ≤ 4 then 2 else 4 := by
      unfold pv_tk
      rw [if_neg (by omega), if_neg hcs2.1, if_neg hcs2.2.1, if_neg (by omega)]
    refine sp_X0_number hL hB hs hso (fun h4 => j19 _ (fun y => ?_) (fun _ => ?_)) (fun h4 => j19 _ (fun _ c hc => ?_) (fun y => absurd rfl y))
    · rw [if_pos h4] at et
      have hlf : pw_leaf b L key s (pv_num b s (pv_en b L s - s)) := Or.inl ⟨et, by unfold pv_va; rw [if_pos et]⟩
      obtain ⟨_, _, _, c4⟩ := pv_en_p (b := b) hs
      obtain ⟨d1, d2⟩ := c4 (by omega)
      have := pv_num_le (b := b) s (pv_en b L s - s) h4 (fun j hj => pv_so1 (by rw [d1 (s + j) (by omega) (by omega)]; exact hso))
      have e4 : 10 ^ (pv_en b L s - s) ≤ 10 ^ 4 := Nat.pow_le_pow_right (by decide) h4
      grind [pg_n]
    · rw [if_pos h4] at et
      obtain ⟨_, _, _, c4⟩ := pv_en_p (b := b) hs
      obtain ⟨d1, d2⟩ := c4 (by omega)
      have := pv_num_le (b := b) s (pv_en b L s - s) h4 (fun j hj => pv_so1 (by rw [d1 (s + j) (by omega) (by omega)]; exact hso))
      have e4 : 10 ^ (pv_en b L s - s) ≤ 10 ^ 4 := Nat.pow_le_pow_right (by decide) h4
      exact ⟨_, Or.inl ⟨et, by unfold pv_va; rw [if_pos et]⟩, (pe_cv_num (by omega)).1.symm⟩
    · rw [if_neg h4] at et
      rcases hc with hc | hc
      · omega
      · omega
end
