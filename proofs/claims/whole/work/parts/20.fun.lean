def wp_X6_within (p0 : Int32) (p1 : Int32) (p2 : Int32) (Q : Int32 → Prop) : Prop :=
  ((p0 < p1 → Q 0) ∧ (¬ (p0 < p1) → ((p2 < p0 → Q 0) ∧ (¬ (p2 < p0) → Q 1))))
set_option maxHeartbeats 4000000 in
set_option maxRecDepth 100000 in
theorem c_X6_within (l : Launch) (E : gE)  (sz : Nat)  (p0 p1 p2 : Int32)  (Q : Int32 → Prop) (h : wp_X6_within p0 p1 p2 Q) : Met l yX6_within wsX6_within ({ frames := 0, cells := 0, slots := 0, locals := 0 } : Room) (va_Pc [.int p0, .int p1, .int p2] (rc_B E ([]) sz)) (va_Qi (S := Unit) (fun (r : Int32) (u : Unit) => Q r) (fun u t => rc_C E (va_A ([]) sz) ([]) t) (va_A ([]) sz)) 0 0 (va_A ([]) sz) := by
  refine rc_enterI (cc := cX6_within) (maxL := 3) (by decide) rfl (Nat.le_of_ble_eq_true rfl) ?_
  intro p e s m args below meth c QQ A hx hb hml hown hts hmn hE hP hD hA hret ls hl
  have hown : s.vm.findClass RX6 = some m.cls := hown
  have hK := hE.1
  have hS : va_S A s.heap s.heap [] := va_S.rf
  have hl : lv_has ls 3 [(0, .int p0), (1, .int p1), (2, .int p2)] := hl
  unfold wp_X6_within at h
  obtain ⟨H, hH⟩ : ∃ H, H = s.heap := ⟨_, rfl⟩
  obtain ⟨locs, hlocs⟩ : ∃ locs : List Loc, locs = [] := ⟨_, rfl⟩
  have hP : va_P E.1 vwCl ([]) H := by rw [hH]; exact hP
  have hS : va_S A s.heap H locs := by rw [hH, hlocs]; exact hS
  suffices hgo : W p l e ({ frames := 0, cells := 0, slots := 0, locals := 0 } : Room) s m args below meth c H locs 0 0 QQ (F0 m 0 ls []) from by rw [hH, hlocs] at hgo; exact hgo
  refine lv_iload_n hx hb dX6_within_0 rfl (lv_at hl 0 rfl) ?_
  refine lv_iload_n hx hb dX6_within_1 rfl (lv_at hl 1 rfl) ?_
  refine lv_icmp_lt (tgt := 14) hx hb dX6_within_2 (by decide) (fun c_1 => ?_) (fun c_1 => ?_)
  · have h := h.1 c_1
    refine lv_iconst (v := 0) hx hb dX6_within_14 (by decide) ?_
    exact hret _ _ _ _ 0 () (by decide) h hP hD hS dX6_within_15
  · have h := h.2 c_1
    refine lv_iload_n hx hb dX6_within_5 rfl (lv_at hl 0 rfl) ?_
    refine lv_iload_n hx hb dX6_within_6 rfl (lv_at hl 2 rfl) ?_
    refine lv_icmp_gt (tgt := 14) hx hb dX6_within_7 (by decide) (fun c_2 => ?_) (fun c_2 => ?_)
    · have h := h.1 c_2
      refine lv_iconst (v := 0) hx hb dX6_within_14 (by decide) ?_
      exact hret _ _ _ _ 0 () (by decide) h hP hD hS dX6_within_15
    · have h := h.2 c_2
      refine lv_iconst (v := 1) hx hb dX6_within_10 (by decide) ?_
      refine lv_goto (tgt := 15) hx hb dX6_within_11 (by decide) ?_
      exact hret _ _ _ _ 1 () (by decide) h hP hD hS dX6_within_15
def wp_X6_held (p0 : Int32) (p1 : Int32) (p2 : Int32) (Q : Int32 → Prop) : Prop :=
  Q (rc_max p1 (rc_min p2 p0))
set_option maxHeartbeats 4000000 in
set_option maxRecDepth 100000 in
theorem c_X6_held (l : Launch) (E : gE)  (sz : Nat)  (p0 p1 p2 : Int32)  (Q : Int32 → Prop) (h : wp_X6_held p0 p1 p2 Q) : Met l yX6_held wsX6_held ({ frames := 1, cells := 0, slots := 0, locals := 40 } : Room) (va_Pc [.int p0, .int p1, .int p2] (rc_B E ([]) sz)) (va_Qi (S := Unit) (fun (r : Int32) (u : Unit) => Q r) (fun u t => rc_C E (va_A ([]) sz) ([]) t) (va_A ([]) sz)) 0 0 (va_A ([]) sz) := by
  refine rc_enterI (cc := cX6_held) (maxL := 3) (by decide) rfl (Nat.le_of_ble_eq_true rfl) ?_
  intro p e s m args below meth c QQ A hx hb hml hown hts hmn hE hP hD hA hret ls hl
  have hown : s.vm.findClass RX6 = some m.cls := hown
  have hK := hE.1
  have hS : va_S A s.heap s.heap [] := va_S.rf
  have hl : lv_has ls 3 [(0, .int p0), (1, .int p1), (2, .int p2)] := hl
  have k_104 := hts (.methodLink RX6 104 Lib.Math.min.name) (List.mem_of_getElem? (i := 1) rfl)
  have k_smin := hts (.static Lib.Math.min.name) (List.mem_of_getElem? (i := 2) rfl)
  have k_math := hts (.initialized "java/lang/Math") (List.mem_of_getElem? (i := 3) rfl)
  have k_cmin := hts (.code Lib.Math.min.name Lib.Math.min.code 2 (some .int)) (List.mem_of_getElem? (i := 4) rfl)
  have k_165 := hts (.methodLink RX6 165 Lib.Math.max.name) (List.mem_of_getElem? (i := 5) rfl)
  have k_smax := hts (.static Lib.Math.max.name) (List.mem_of_getElem? (i := 6) rfl)
  have k_cmax := hts (.code Lib.Math.max.name Lib.Math.max.code 2 (some .int)) (List.mem_of_getElem? (i := 7) rfl)
  unfold wp_X6_held at h
  obtain ⟨H, hH⟩ : ∃ H, H = s.heap := ⟨_, rfl⟩
  obtain ⟨locs, hlocs⟩ : ∃ locs : List Loc, locs = [] := ⟨_, rfl⟩
  have hP : va_P E.1 vwCl ([]) H := by rw [hH]; exact hP
  have hS : va_S A s.heap H locs := by rw [hH, hlocs]; exact hS
  suffices hgo : W p l e ({ frames := 1, cells := 0, slots := 0, locals := 40 } : Room) s m args below meth c H locs 0 0 QQ (F0 m 0 ls []) from by rw [hH, hlocs] at hgo; exact hgo
  refine lv_iload_n hx hb dX6_held_0 rfl (lv_at hl 1 rfl) ?_
  refine lv_iload_n hx hb dX6_held_1 rfl (lv_at hl 2 rfl) ?_
  refine lv_iload_n hx hb dX6_held_2 rfl (lv_at hl 0 rfl) ?_
  refine va_mmin hx hb (hml.trans hl.1.symm) hown k_104 k_smin k_math k_cmin (Nat.le_of_ble_eq_true rfl) (Nat.le_of_ble_eq_true rfl) (Nat.zero_le _) (Nat.zero_le _) dX6_held_3 ?_
  refine W.eq (g2 := F0 m 6 ls [.int (rc_min p2 p0), .int p1]) rfl ?_
  refine va_mmax hx hb (hml.trans hl.1.symm) hown k_165 k_smax k_math k_cmax (Nat.le_of_ble_eq_true rfl) (Nat.le_of_ble_eq_true rfl) (Nat.zero_le _) (Nat.zero_le _) dX6_held_6 ?_
  refine W.eq (g2 := F0 m 9 ls [.int (rc_max p1 (rc_min p2 p0))]) rfl ?_
  exact hret _ _ _ _ (rc_max p1 (rc_min p2 p0)) () rfl h hP hD hS dX6_held_9
def wp_X6_isKind (p0 : Int32) (Q : Int32 → Prop) : Prop :=
  ((p0 < 0 → Q 0) ∧ (¬ (p0 < 0) → ((6 ≤ p0 → Q 0) ∧ (¬ (6 ≤ p0) → Q 1))))
set_option maxHeartbeats 4000000 in
set_option maxRecDepth 100000 in
theorem c_X6_isKind (l : Launch) (E : gE)  (sz : Nat)  (p0 : Int32)  (Q : Int32 → Prop) (h : wp_X6_isKind p0 Q) : Met l yX6_isKind wsX6_isKind ({ frames := 0, cells := 0, slots := 0, locals := 0 } : Room) (va_Pc [.int p0] (rc_B E ([]) sz)) (va_Qi (S := Unit) (fun (r : Int32) (u : Unit) => Q r) (fun u t => rc_C E (va_A ([]) sz) ([]) t) (va_A ([]) sz)) 0 0 (va_A ([]) sz) := by
  refine rc_enterI (cc := cX6_isKind) (maxL := 1) (by decide) rfl (Nat.le_of_ble_eq_true rfl) ?_
  intro p e s m args below meth c QQ A hx hb hml hown hts hmn hE hP hD hA hret ls hl
  have hown : s.vm.findClass RX6 = some m.cls := hown
  have hK := hE.1
  have hS : va_S A s.heap s.heap [] := va_S.rf
  have hl : lv_has ls 1 [(0, .int p0)] := hl
  have k_312 := hts (.fieldLink RX6 312 "RidgeClaps" "KIND_ABOVE" "[I") (List.mem_of_getElem? (i := 1) rfl)
  unfold wp_X6_isKind at h
  obtain ⟨H, hH⟩ : ∃ H, H = s.heap := ⟨_, rfl⟩
  obtain ⟨locs, hlocs⟩ : ∃ locs : List Loc, locs = [] := ⟨_, rfl⟩
  have hP : va_P E.1 vwCl ([]) H := by rw [hH]; exact hP
  have hS : va_S A s.heap H locs := by rw [hH, hlocs]; exact hS
  suffices hgo : W p l e ({ frames := 0, cells := 0, slots := 0, locals := 0 } : Room) s m args below meth c H locs 0 0 QQ (F0 m 0 ls []) from by rw [hH, hlocs] at hgo; exact hgo
  refine lv_iload_n hx hb dX6_isKind_0 rfl (lv_at hl 0 rfl) ?_
  refine lv_if_lt (tgt := 16) hx hb dX6_isKind_1 (by decide) (fun c_1 => ?_) (fun c_1 => ?_)
  · have h := h.1 c_1
    refine lv_iconst (v := 0) hx hb dX6_isKind_16 (by decide) ?_
    exact hret _ _ _ _ 0 () (by decide) h hP hD hS dX6_isKind_17
  · have h := h.2 c_1
    refine lv_iload_n hx hb dX6_isKind_4 rfl (lv_at hl 0 rfl) ?_
    refine va_gets hx hb hE.2.2.2.1 hS hown k_312 (fun _ h9 => h9) dX6_isKind_5 ?_
    refine va_tlen (v := 6) hx hb hE.2.2.2.2.1 hS (by decide) dX6_isKind_8 ?_
    refine lv_icmp_ge (tgt := 16) hx hb dX6_isKind_9 (by decide) (fun c_2 => ?_) (fun c_2 => ?_)
    · have h := h.1 c_2
      refine lv_iconst (v := 0) hx hb dX6_isKind_16 (by decide) ?_
      exact hret _ _ _ _ 0 () (by decide) h hP hD hS dX6_isKind_17
    · have h := h.2 c_2
      refine lv_iconst (v := 1) hx hb dX6_isKind_12 (by decide) ?_
      refine lv_goto (tgt := 17) hx hb dX6_isKind_13 (by decide) ?_
      exact hret _ _ _ _ 1 () (by decide) h hP hD hS dX6_isKind_17
def wp_X6_isSheet (p0 : Int32) (Q : Int32 → Prop) : Prop :=
  ((p0 < 0 → Q 0) ∧ (¬ (p0 < 0) → ((4 ≤ p0 → Q 0) ∧ (¬ (4 ≤ p0) → Q 1))))
set_option maxHeartbeats 4000000 in
set_option maxRecDepth 100000 in
theorem c_X6_isSheet (l : Launch) (E : gE)  (sz : Nat)  (p0 : Int32)  (Q : Int32 → Prop) (h : wp_X6_isSheet p0 Q) : Met l yX6_isSheet wsX6_isSheet ({ frames := 0, cells := 0, slots := 0, locals := 0 } : Room) (va_Pc [.int p0] (rc_B E ([]) sz)) (va_Qi (S := Unit) (fun (r : Int32) (u : Unit) => Q r) (fun u t => rc_C E (va_A ([]) sz) ([]) t) (va_A ([]) sz)) 0 0 (va_A ([]) sz) := by
  refine rc_enterI (cc := cX6_isSheet) (maxL := 1) (by decide) rfl (Nat.le_of_ble_eq_true rfl) ?_
  intro p e s m args below meth c QQ A hx hb hml hown hts hmn hE hP hD hA hret ls hl
  have hown : s.vm.findClass RX6 = some m.cls := hown
  have hK := hE.1
  have hS : va_S A s.heap s.heap [] := va_S.rf
  have hl : lv_has ls 1 [(0, .int p0)] := hl
  unfold wp_X6_isSheet at h
  obtain ⟨H, hH⟩ : ∃ H, H = s.heap := ⟨_, rfl⟩
  obtain ⟨locs, hlocs⟩ : ∃ locs : List Loc, locs = [] := ⟨_, rfl⟩
  have hP : va_P E.1 vwCl ([]) H := by rw [hH]; exact hP
  have hS : va_S A s.heap H locs := by rw [hH, hlocs]; exact hS
  suffices hgo : W p l e ({ frames := 0, cells := 0, slots := 0, locals := 0 } : Room) s m args below meth c H locs 0 0 QQ (F0 m 0 ls []) from by rw [hH, hlocs] at hgo; exact hgo
  refine lv_iload_n hx hb dX6_isSheet_0 rfl (lv_at hl 0 rfl) ?_
  refine lv_if_lt (tgt := 13) hx hb dX6_isSheet_1 (by decide) (fun c_1 => ?_) (fun c_1 => ?_)
  · have h := h.1 c_1
    refine lv_iconst (v := 0) hx hb dX6_isSheet_13 (by decide) ?_
    exact hret _ _ _ _ 0 () (by decide) h hP hD hS dX6_isSheet_14
  · have h := h.2 c_1
    refine lv_iload_n hx hb dX6_isSheet_4 rfl (lv_at hl 0 rfl) ?_
    refine lv_iconst (v := 4) hx hb dX6_isSheet_5 (by decide) ?_
    refine lv_icmp_ge (tgt := 13) hx hb dX6_isSheet_6 (by decide) (fun c_2 => ?_) (fun c_2 => ?_)
    · have h := h.1 c_2
      refine lv_iconst (v := 0) hx hb dX6_isSheet_13 (by decide) ?_
      exact hret _ _ _ _ 0 () (by decide) h hP hD hS dX6_isSheet_14
    · have h := h.2 c_2
      refine lv_iconst (v := 1) hx hb dX6_isSheet_9 (by decide) ?_
      refine lv_goto (tgt := 14) hx hb dX6_isSheet_10 (by decide) ?_
      exact hret _ _ _ _ 1 () (by decide) h hP hD hS dX6_isSheet_14
def wp_X6_isSlot (p0 : Int32) (Q : Int32 → Prop) : Prop :=
  ((p0 < 0 → Q 0) ∧ (¬ (p0 < 0) → ((5 ≤ p0 → Q 0) ∧ (¬ (5 ≤ p0) → Q 1))))
set_option maxHeartbeats 4000000 in
set_option maxRecDepth 100000 in
theorem c_X6_isSlot (l : Launch) (E : gE)  (sz : Nat)  (p0 : Int32)  (Q : Int32 → Prop) (h : wp_X6_isSlot p0 Q) : Met l yX6_isSlot wsX6_isSlot ({ frames := 0, cells := 0, slots := 0, locals := 0 } : Room) (va_Pc [.int p0] (rc_B E ([]) sz)) (va_Qi (S := Unit) (fun (r : Int32) (u : Unit) => Q r) (fun u t => rc_C E (va_A ([]) sz) ([]) t) (va_A ([]) sz)) 0 0 (va_A ([]) sz) := by
  refine rc_enterI (cc := cX6_isSlot) (maxL := 1) (by decide) rfl (Nat.le_of_ble_eq_true rfl) ?_
  intro p e s m args below meth c QQ A hx hb hml hown hts hmn hE hP hD hA hret ls hl
  have hown : s.vm.findClass RX6 = some m.cls := hown
  have hK := hE.1
  have hS : va_S A s.heap s.heap [] := va_S.rf
  have hl : lv_has ls 1 [(0, .int p0)] := hl
  unfold wp_X6_isSlot at h
  obtain ⟨H, hH⟩ : ∃ H, H = s.heap := ⟨_, rfl⟩
  obtain ⟨locs, hlocs⟩ : ∃ locs : List Loc, locs = [] := ⟨_, rfl⟩
  have hP : va_P E.1 vwCl ([]) H := by rw [hH]; exact hP
  have hS : va_S A s.heap H locs := by rw [hH, hlocs]; exact hS
  suffices hgo : W p l e ({ frames := 0, cells := 0, slots := 0, locals := 0 } : Room) s m args below meth c H locs 0 0 QQ (F0 m 0 ls []) from by rw [hH, hlocs] at hgo; exact hgo
  refine lv_iload_n hx hb dX6_isSlot_0 rfl (lv_at hl 0 rfl) ?_
  refine lv_if_lt (tgt := 13) hx hb dX6_isSlot_1 (by decide) (fun c_1 => ?_) (fun c_1 => ?_)
  · have h := h.1 c_1
    refine lv_iconst (v := 0) hx hb dX6_isSlot_13 (by decide) ?_
    exact hret _ _ _ _ 0 () (by decide) h hP hD hS dX6_isSlot_14
  · have h := h.2 c_1
    refine lv_iload_n hx hb dX6_isSlot_4 rfl (lv_at hl 0 rfl) ?_
    refine lv_iconst (v := 5) hx hb dX6_isSlot_5 (by decide) ?_
    refine lv_icmp_ge (tgt := 13) hx hb dX6_isSlot_6 (by decide) (fun c_2 => ?_) (fun c_2 => ?_)
    · have h := h.1 c_2
      refine lv_iconst (v := 0) hx hb dX6_isSlot_13 (by decide) ?_
      exact hret _ _ _ _ 0 () (by decide) h hP hD hS dX6_isSlot_14
    · have h := h.2 c_2
      refine lv_iconst (v := 1) hx hb dX6_isSlot_9 (by decide) ?_
      refine lv_goto (tgt := 14) hx hb dX6_isSlot_10 (by decide) ?_
      exact hret _ _ _ _ 1 () (by decide) h hP hD hS dX6_isSlot_14
def lp_X6_isOfKind_4F (p1 : Int32)  (Q : Int32 → Prop) (R : Int32 → Int32 → Prop) (x2 : Int32) (x3 : Int32) : Prop :=
  ((6 ≤ x3 → Q 0) ∧ (¬ (6 ≤ x3) → wp_X6_isKind x2 (fun (r_2 : Int32) => ((r_2 = 0 → Q 0) ∧ (¬ (r_2 = 0) → ((¬ x2 = p1 → (vp_in x2 6 ∧ R (rc_ka x2.toNatClampNeg) (x3 + 1))) ∧ (x2 = p1 → Q 1)))))))
def lp_X6_isOfKind_4 (p1 : Int32)  (Q : Int32 → Prop) (n : Nat) : Int32 → Int32 → Prop :=
  Nat.rec (motive := fun _ => Int32 → Int32 → Prop) (fun _ _ => False) (fun _ r => lp_X6_isOfKind_4F p1 Q r) n
def wp_X6_isOfKind (p0 : Int32) (p1 : Int32) (Q : Int32 → Prop) : Prop :=
  (∃ n : Nat, lp_X6_isOfKind_4 p1 Q n p0 0)
set_option maxHeartbeats 4000000 in
set_option maxRecDepth 100000 in
theorem c_X6_isOfKind (l : Launch) (E : gE)  (sz : Nat)  (p0 p1 : Int32)  (Q : Int32 → Prop) (h : wp_X6_isOfKind p0 p1 Q) : Met l yX6_isOfKind wsX6_isOfKind ({ frames := 1, cells := 0, slots := 0, locals := 20 } : Room) (va_Pc [.int p0, .int p1] (rc_B E ([]) sz)) (va_Qi (S := Unit) (fun (r : Int32) (u : Unit) => Q r) (fun u t => rc_C E (va_A ([]) sz) ([]) t) (va_A ([]) sz)) 0 0 (va_A ([]) sz) := by
  refine rc_enterI (cc := cX6_isOfKind) (maxL := 4) (by decide) rfl (Nat.le_of_ble_eq_true rfl) ?_
  intro p e s m args below meth c QQ A hx hb hml hown hts hmn hE hP hD hA hret ls hl
  have hown : s.vm.findClass RX6 = some m.cls := hown
  have hK := hE.1
  have hS : va_S A s.heap s.heap [] := va_S.rf
  have hl : lv_has ls 4 [(0, .int p0), (1, .int p1)] := hl
  have k_312 := hts (.fieldLink RX6 312 "RidgeClaps" "KIND_ABOVE" "[I") (List.mem_of_getElem? (i := 1) rfl)
  have J4 : ∀ (n : Nat) (x2 : Int32) (x3 : Int32), lp_X6_isOfKind_4 p1 Q n x2 x3 → ∀ (H : Heap) (locs : List Loc), va_P E.1 vwCl ([]) H → va_D A ([]) → va_S A s.heap H locs → ∀ ls : Array Slot, lv_has ls 4 [(1, .int p1), (2, .int x2), (3, .int x3)] → W p l e ({ frames := 1, cells := 0, slots := 0, locals := 20 } : Room) s m args below meth c H locs 0 0 QQ (F0 m 4 ls []) := by
    intro n
    induction n with
    | zero =>
      intro x2 x3 h
      exact False.elim h
    | succ n ih =>
      intro x2 x3 h H locs hP hD hS ls hl
      have h : lp_X6_isOfKind_4F p1 Q (lp_X6_isOfKind_4 p1 Q n) x2 x3 := h
      unfold lp_X6_isOfKind_4F at h
      refine lv_iload_n hx hb dX6_isOfKind_4 rfl (lv_at hl 2 rfl) ?_
      refine va_gets hx hb hE.2.2.2.1 hS hown k_312 (fun _ h9 => h9) dX6_isOfKind_5 ?_
      refine va_tlen (v := 6) hx hb hE.2.2.2.2.1 hS (by decide) dX6_isOfKind_8 ?_
      refine lv_icmp_ge (tgt := 38) hx hb dX6_isOfKind_9 (by decide) (fun c_1 => ?_) (fun c_1 => ?_)
      · have h := h.1 c_1
        refine lv_iconst (v := 0) hx hb dX6_isOfKind_38 (by decide) ?_
        exact hret _ _ _ _ 0 () (by decide) h hP hD hS dX6_isOfKind_39
      · have h := h.2 c_1
        refine lv_iload_n hx hb dX6_isOfKind_12 rfl (lv_at hl 1 rfl) ?_
        have hPc := hP
        have hDc := hD
        have hFc := rc_freeI hD hS hA
        refine va_calli (va_runS (As := [.int x2]) (rest := []) ⟨hx, hb, hml, hown, hts⟩ (c_X6_isKind l E H.size x2 _ h) (va_cwS 1 hts gX6_isOfKind_X6_isKind rfl rfl rfl (by decide +kernel) ⟨Nat.le_of_ble_eq_true rfl, Nat.le_of_ble_eq_true rfl⟩) ⟨fun a U g mk q => ⟨q.1, q.2.blind⟩, fun U hU hW => ⟨rfl, by rw [hU], by rw [hU]; exact hPc, hE.call hS hFc hW hU, hDc.weaken (fun _ _ _ _ => trivial)⟩⟩ rfl rfl hl.1 rfl (lv_room (Nat.le_of_ble_eq_true rfl)) dX6_isOfKind_13 ⟨Nat.zero_le _, Nat.zero_le _⟩) hS (fun q _ h => hFc q h) hFc (fun r_2 u t H1 locs ht hvm h hB hz1 hk1 hS => ?_)
        obtain ⟨hP1, hD1⟩ := hB
        rw [ht] at hP1
        have hP := hP1
        have hD := hD1.weaken (fun _ _ _ h => hFc _ h)
        generalize H1 = H at hP hS ⊢
        have hP : va_P E.1 vwCl ([]) H := hP
        have hD : va_D A ([]) := hD
        refine lv_if_eq (tgt := 38) hx hb dX6_isOfKind_16 (by decide) (fun c_3 => ?_) (fun c_3 => ?_)
        · have h := h.1 c_3
          refine lv_iconst (v := 0) hx hb dX6_isOfKind_38 (by decide) ?_
          exact hret _ _ _ _ 0 () (by decide) h hP hD hS dX6_isOfKind_39
        · have h := h.2 c_3
          refine lv_iload_n hx hb dX6_isOfKind_19 rfl (lv_at hl 1 rfl) ?_
          refine lv_iload_n hx hb dX6_isOfKind_20 rfl (lv_at hl 0 rfl) ?_
          refine lv_icmp_ne (tgt := 26) hx hb dX6_isOfKind_21 (by decide) (fun c_4 => ?_) (fun c_4 => ?_)
          · have h := h.1 c_4
            refine va_gets hx hb hE.2.2.2.1 hS hown k_312 (fun _ h9 => h9) dX6_isOfKind_26 ?_
            refine lv_iload_n hx hb dX6_isOfKind_29 rfl (lv_at hl 1 rfl) ?_
            obtain ⟨o_5, h⟩ := h
            refine va_ti (v := .int (rc_ka x2.toNatClampNeg)) hx hb hE.2.2.2.2.1 hS o_5 rfl dX6_isOfKind_30 ?_
            refine lv_istore_n (lv' := [(2, .int (rc_ka x2.toNatClampNeg)), (1, .int p1), (3, .int x3)]) hx hb dX6_isOfKind_31 rfl hl (by decide) rfl (fun ls hl => ?_)
            refine lv_iinc (v := x3 + 1) (lv' := [(3, .int (x3 + 1)), (2, .int (rc_ka x2.toNatClampNeg)), (1, .int p1)]) hx hb dX6_isOfKind_32 hl (k := 2) rfl (by rfl) (by decide) rfl (fun ls hl => ?_)
            refine lv_goto (tgt := 4) hx hb dX6_isOfKind_35 (by decide) ?_
            exact ih (rc_ka x2.toNatClampNeg) (x3 + 1) h _ _ hP hD hS ls (lv_sub hl [2, 1, 0] rfl)
          · have h := h.2 c_4
            refine lv_iconst (v := 1) hx hb dX6_isOfKind_24 (by decide) ?_
            exact hret _ _ _ _ 1 () (by decide) h hP hD hS dX6_isOfKind_25
  unfold wp_X6_isOfKind at h
  obtain ⟨H, hH⟩ : ∃ H, H = s.heap := ⟨_, rfl⟩
  obtain ⟨locs, hlocs⟩ : ∃ locs : List Loc, locs = [] := ⟨_, rfl⟩
  have hP : va_P E.1 vwCl ([]) H := by rw [hH]; exact hP
  have hS : va_S A s.heap H locs := by rw [hH, hlocs]; exact hS
  suffices hgo : W p l e ({ frames := 1, cells := 0, slots := 0, locals := 20 } : Room) s m args below meth c H locs 0 0 QQ (F0 m 0 ls []) from by rw [hH, hlocs] at hgo; exact hgo
  refine lv_iload_n hx hb dX6_isOfKind_0 rfl (lv_at hl 0 rfl) ?_
  refine lv_istore_n (lv' := [(2, .int p0), (0, .int p0), (1, .int p1)]) hx hb dX6_isOfKind_1 rfl hl (by decide) rfl (fun ls hl => ?_)
  refine lv_iconst (v := 0) hx hb dX6_isOfKind_2 (by decide) ?_
  refine lv_istore_n (lv' := [(3, .int 0), (2, .int p0), (0, .int p0), (1, .int p1)]) hx hb dX6_isOfKind_3 rfl hl (by decide) rfl (fun ls hl => ?_)
  obtain ⟨n, h⟩ := h
  exact J4 n p0 0 h _ _ hP hD hS ls (lv_sub hl [3, 1, 0] rfl)
def wp_X6_worthOf (p0 : Int32) (p1 : Int32) (Q : Int32 → Prop) : Prop :=
  ((p0 = 1 → Q (p1 + 7)) ∧ ((p0 = 2 → Q (100 - p1)) ∧ ((p0 = 3 → Q (2 * (p1 + 7))) ∧ ((p0 = 4 → Q ((100 - p1) - 20)) ∧ ((p0 = 5 → Q (p1 / 2)) ∧ (¬ p0 = 1 ∧ ¬ p0 = 2 ∧ ¬ p0 = 3 ∧ ¬ p0 = 4 ∧ ¬ p0 = 5 → Q p1))))))
set_option maxHeartbeats 4000000 in
set_option maxRecDepth 100000 in
theorem c_X6_worthOf (l : Launch) (E : gE)  (sz : Nat)  (p0 p1 : Int32)  (Q : Int32 → Prop) (h : wp_X6_worthOf p0 p1 Q) : Met l yX6_worthOf wsX6_worthOf ({ frames := 0, cells := 0, slots := 0, locals := 0 } : Room) (va_Pc [.int p0, .int p1] (rc_B E ([]) sz)) (va_Qi (S := Unit) (fun (r : Int32) (u : Unit) => Q r) (fun u t => rc_C E (va_A ([]) sz) ([]) t) (va_A ([]) sz)) 0 0 (va_A ([]) sz) := by
  refine rc_enterI (cc := cX6_worthOf) (maxL := 2) (by decide) rfl (Nat.le_of_ble_eq_true rfl) ?_
  intro p e s m args below meth c QQ A hx hb hml hown hts hmn hE hP hD hA hret ls hl
  have hown : s.vm.findClass RX6 = some m.cls := hown
  have hK := hE.1
  have hS : va_S A s.heap s.heap [] := va_S.rf
  have hl : lv_has ls 2 [(0, .int p0), (1, .int p1)] := hl
  unfold wp_X6_worthOf at h
  obtain ⟨H, hH⟩ : ∃ H, H = s.heap := ⟨_, rfl⟩
  obtain ⟨locs, hlocs⟩ : ∃ locs : List Loc, locs = [] := ⟨_, rfl⟩
  have hP : va_P E.1 vwCl ([]) H := by rw [hH]; exact hP
  have hS : va_S A s.heap H locs := by rw [hH, hlocs]; exact hS
  suffices hgo : W p l e ({ frames := 0, cells := 0, slots := 0, locals := 0 } : Room) s m args below meth c H locs 0 0 QQ (F0 m 0 ls []) from by rw [hH, hlocs] at hgo; exact hgo
  refine lv_iload_n hx hb dX6_worthOf_0 rfl (lv_at hl 0 rfl) ?_
  by_cases c_1_0 : p0 = 1
  · have h := h.1 c_1_0
    refine lv_tableIn (tgt := 36) hx hb dX6_worthOf_1 (by rw [c_1_0]; decide) (by rw [c_1_0]; decide) (by rw [c_1_0]; rfl) (by decide) ?_
    refine lv_iload_n hx hb dX6_worthOf_36 rfl (lv_at hl 1 rfl) ?_
    refine lv_bipush (v := 7) hx hb dX6_worthOf_37 (by decide) ?_
    refine lv_iadd hx hb dX6_worthOf_39 ?_
    exact hret _ _ _ _ (p1 + 7) () rfl h hP hD hS dX6_worthOf_40
  · by_cases c_1_1 : p0 = 2
    · have h := h.2.1 c_1_1
      refine lv_tableIn (tgt := 48) hx hb dX6_worthOf_1 (by rw [c_1_1]; decide) (by rw [c_1_1]; decide) (by rw [c_1_1]; rfl) (by decide) ?_
      refine lv_bipush (v := 100) hx hb dX6_worthOf_48 (by decide) ?_
      refine lv_iload_n hx hb dX6_worthOf_50 rfl (lv_at hl 1 rfl) ?_
      refine lv_isub hx hb dX6_worthOf_51 ?_
      exact hret _ _ _ _ (100 - p1) () rfl h hP hD hS dX6_worthOf_52
    · by_cases c_1_2 : p0 = 3
      · have h := h.2.2.1 c_1_2
        refine lv_tableIn (tgt := 41) hx hb dX6_worthOf_1 (by rw [c_1_2]; decide) (by rw [c_1_2]; decide) (by rw [c_1_2]; rfl) (by decide) ?_
        refine lv_iconst (v := 2) hx hb dX6_worthOf_41 (by decide) ?_
        refine lv_iload_n hx hb dX6_worthOf_42 rfl (lv_at hl 1 rfl) ?_
        refine lv_bipush (v := 7) hx hb dX6_worthOf_43 (by decide) ?_
        refine lv_iadd hx hb dX6_worthOf_45 ?_
        refine lv_imul hx hb dX6_worthOf_46 ?_
        exact hret _ _ _ _ (2 * (p1 + 7)) () rfl h hP hD hS dX6_worthOf_47
      · by_cases c_1_3 : p0 = 4
        · have h := h.2.2.2.1 c_1_3
          refine lv_tableIn (tgt := 53) hx hb dX6_worthOf_1 (by rw [c_1_3]; decide) (by rw [c_1_3]; decide) (by rw [c_1_3]; rfl) (by decide) ?_
          refine lv_bipush (v := 100) hx hb dX6_worthOf_53 (by decide) ?_
          refine lv_iload_n hx hb dX6_worthOf_55 rfl (lv_at hl 1 rfl) ?_
          refine lv_isub hx hb dX6_worthOf_56 ?_
          refine lv_bipush (v := 20) hx hb dX6_worthOf_57 (by decide) ?_
          refine lv_isub hx hb dX6_worthOf_59 ?_
          exact hret _ _ _ _ ((100 - p1) - 20) () rfl h hP hD hS dX6_worthOf_60
        · by_cases c_1_4 : p0 = 5
          · have h := h.2.2.2.2.1 c_1_4
            refine lv_tableIn (tgt := 61) hx hb dX6_worthOf_1 (by rw [c_1_4]; decide) (by rw [c_1_4]; decide) (by rw [c_1_4]; rfl) (by decide) ?_
            refine lv_iload_n hx hb dX6_worthOf_61 rfl (lv_at hl 1 rfl) ?_
            refine lv_iconst (v := 2) hx hb dX6_worthOf_62 (by decide) ?_
            refine lv_idiv hx hb dX6_worthOf_63 (by decide) ?_
            exact hret _ _ _ _ (p1 / 2) () rfl h hP hD hS dX6_worthOf_64
          · have h := h.2.2.2.2.2 ⟨c_1_0, c_1_1, c_1_2, c_1_3, c_1_4⟩
            refine lv_tableOut (tgt := 65) hx hb dX6_worthOf_1 (rc_swo (1) 5 (fun k hk => by match k, hk with | 0, _ => exact lv_neT c_1_0 (by decide) | 1, _ => exact lv_neT c_1_1 (by decide) | 2, _ => exact lv_neT c_1_2 (by decide) | 3, _ => exact lv_neT c_1_3 (by decide) | 4, _ => exact lv_neT c_1_4 (by decide))) (by decide) ?_
            refine lv_iload_n hx hb dX6_worthOf_65 rfl (lv_at hl 1 rfl) ?_
            exact hret _ _ _ _ p1 () rfl h hP hD hS dX6_worthOf_66
def wp_X6_riskBy (p0 : Int32) (p1 : Int32) (Q : Int32 → Prop) : Prop :=
  ((p0 = 1 → Q (p1 + 10)) ∧ ((p0 = 2 → Q (p1 / 2)) ∧ ((p0 = 3 → Q (2 * (p1 + 10))) ∧ ((p0 = 4 → Q ((p1 / 2) + 5)) ∧ ((p0 = 5 → Q (p1 + 20)) ∧ (¬ p0 = 1 ∧ ¬ p0 = 2 ∧ ¬ p0 = 3 ∧ ¬ p0 = 4 ∧ ¬ p0 = 5 → Q p1))))))
set_option maxHeartbeats 4000000 in
set_option maxRecDepth 100000 in
theorem c_X6_riskBy (l : Launch) (E : gE)  (sz : Nat)  (p0 p1 : Int32)  (Q : Int32 → Prop) (h : wp_X6_riskBy p0 p1 Q) : Met l yX6_riskBy wsX6_riskBy ({ frames := 0, cells := 0, slots := 0, locals := 0 } : Room) (va_Pc [.int p0, .int p1] (rc_B E ([]) sz)) (va_Qi (S := Unit) (fun (r : Int32) (u : Unit) => Q r) (fun u t => rc_C E (va_A ([]) sz) ([]) t) (va_A ([]) sz)) 0 0 (va_A ([]) sz) := by
  refine rc_enterI (cc := cX6_riskBy) (maxL := 2) (by decide) rfl (Nat.le_of_ble_eq_true rfl) ?_
  intro p e s m args below meth c QQ A hx hb hml hown hts hmn hE hP hD hA hret ls hl
  have hown : s.vm.findClass RX6 = some m.cls := hown
  have hK := hE.1
  have hS : va_S A s.heap s.heap [] := va_S.rf
  have hl : lv_has ls 2 [(0, .int p0), (1, .int p1)] := hl
  unfold wp_X6_riskBy at h
  obtain ⟨H, hH⟩ : ∃ H, H = s.heap := ⟨_, rfl⟩
  obtain ⟨locs, hlocs⟩ : ∃ locs : List Loc, locs = [] := ⟨_, rfl⟩
  have hP : va_P E.1 vwCl ([]) H := by rw [hH]; exact hP
  have hS : va_S A s.heap H locs := by rw [hH, hlocs]; exact hS
  suffices hgo : W p l e ({ frames := 0, cells := 0, slots := 0, locals := 0 } : Room) s m args below meth c H locs 0 0 QQ (F0 m 0 ls []) from by rw [hH, hlocs] at hgo; exact hgo
  refine lv_iload_n hx hb dX6_riskBy_0 rfl (lv_at hl 0 rfl) ?_
  by_cases c_1_0 : p0 = 1
  · have h := h.1 c_1_0
    refine lv_tableIn (tgt := 36) hx hb dX6_riskBy_1 (by rw [c_1_0]; decide) (by rw [c_1_0]; decide) (by rw [c_1_0]; rfl) (by decide) ?_
    refine lv_iload_n hx hb dX6_riskBy_36 rfl (lv_at hl 1 rfl) ?_
    refine lv_bipush (v := 10) hx hb dX6_riskBy_37 (by decide) ?_
    refine lv_iadd hx hb dX6_riskBy_39 ?_
    exact hret _ _ _ _ (p1 + 10) () rfl h hP hD hS dX6_riskBy_40
  · by_cases c_1_1 : p0 = 2
    · have h := h.2.1 c_1_1
      refine lv_tableIn (tgt := 48) hx hb dX6_riskBy_1 (by rw [c_1_1]; decide) (by rw [c_1_1]; decide) (by rw [c_1_1]; rfl) (by decide) ?_
      refine lv_iload_n hx hb dX6_riskBy_48 rfl (lv_at hl 1 rfl) ?_
      refine lv_iconst (v := 2) hx hb dX6_riskBy_49 (by decide) ?_
      refine lv_idiv hx hb dX6_riskBy_50 (by decide) ?_
      exact hret _ _ _ _ (p1 / 2) () rfl h hP hD hS dX6_riskBy_51
    · by_cases c_1_2 : p0 = 3
      · have h := h.2.2.1 c_1_2
        refine lv_tableIn (tgt := 41) hx hb dX6_riskBy_1 (by rw [c_1_2]; decide) (by rw [c_1_2]; decide) (by rw [c_1_2]; rfl) (by decide) ?_
        refine lv_iconst (v := 2) hx hb dX6_riskBy_41 (by decide) ?_
        refine lv_iload_n hx hb dX6_riskBy_42 rfl (lv_at hl 1 rfl) ?_
        refine lv_bipush (v := 10) hx hb dX6_riskBy_43 (by decide) ?_
        refine lv_iadd hx hb dX6_riskBy_45 ?_
        refine lv_imul hx hb dX6_riskBy_46 ?_
        exact hret _ _ _ _ (2 * (p1 + 10)) () rfl h hP hD hS dX6_riskBy_47
      · by_cases c_1_3 : p0 = 4
        · have h := h.2.2.2.1 c_1_3
          refine lv_tableIn (tgt := 52) hx hb dX6_riskBy_1 (by rw [c_1_3]; decide) (by rw [c_1_3]; decide) (by rw [c_1_3]; rfl) (by decide) ?_
          refine lv_iload_n hx hb dX6_riskBy_52 rfl (lv_at hl 1 rfl) ?_
          refine lv_iconst (v := 2) hx hb dX6_riskBy_53 (by decide) ?_
          refine lv_idiv hx hb dX6_riskBy_54 (by decide) ?_
          refine lv_iconst (v := 5) hx hb dX6_riskBy_55 (by decide) ?_
          refine lv_iadd hx hb dX6_riskBy_56 ?_
          exact hret _ _ _ _ ((p1 / 2) + 5) () rfl h hP hD hS dX6_riskBy_57
        · by_cases c_1_4 : p0 = 5
          · have h := h.2.2.2.2.1 c_1_4
            refine lv_tableIn (tgt := 58) hx hb dX6_riskBy_1 (by rw [c_1_4]; decide) (by rw [c_1_4]; decide) (by rw [c_1_4]; rfl) (by decide) ?_
            refine lv_iload_n hx hb dX6_riskBy_58 rfl (lv_at hl 1 rfl) ?_
            refine lv_bipush (v := 20) hx hb dX6_riskBy_59 (by decide) ?_
            refine lv_iadd hx hb dX6_riskBy_61 ?_
            exact hret _ _ _ _ (p1 + 20) () rfl h hP hD hS dX6_riskBy_62
          · have h := h.2.2.2.2.2 ⟨c_1_0, c_1_1, c_1_2, c_1_3, c_1_4⟩
            refine lv_tableOut (tgt := 63) hx hb dX6_riskBy_1 (rc_swo (1) 5 (fun k hk => by match k, hk with | 0, _ => exact lv_neT c_1_0 (by decide) | 1, _ => exact lv_neT c_1_1 (by decide) | 2, _ => exact lv_neT c_1_2 (by decide) | 3, _ => exact lv_neT c_1_3 (by decide) | 4, _ => exact lv_neT c_1_4 (by decide))) (by decide) ?_
            refine lv_iload_n hx hb dX6_riskBy_63 rfl (lv_at hl 1 rfl) ?_
            exact hret _ _ _ _ p1 () rfl h hP hD hS dX6_riskBy_64
def lp_X6_firstLeast_7F (p2 : Int32) (fVl : Nat → Int32)  (Q : Int32 → Prop) (R : Int32 → Int32 → Prop) (x3 : Int32) (x4 : Int32) : Prop :=
  ((p2 < x4 → Q x3) ∧ (¬ (p2 < x4) → (vp_in x4 24 ∧ (vp_in x3 24 ∧ (((fVl x3.toNatClampNeg) ≤ (fVl x4.toNatClampNeg) → R x3 (x4 + 1)) ∧ (¬ ((fVl x3.toNatClampNeg) ≤ (fVl x4.toNatClampNeg)) → R x4 (x4 + 1)))))))
def lp_X6_firstLeast_7 (p2 : Int32) (fVl : Nat → Int32)  (Q : Int32 → Prop) (n : Nat) : Int32 → Int32 → Prop :=
  Nat.rec (motive := fun _ => Int32 → Int32 → Prop) (fun _ _ => False) (fun _ r => lp_X6_firstLeast_7F p2 fVl Q r) n
def wp_X6_firstLeast (p1 : Int32) (p2 : Int32) (fVl : Nat → Int32) (Q : Int32 → Prop) : Prop :=
  (∃ n : Nat, lp_X6_firstLeast_7 p2 fVl Q n p1 (p1 + 1))
set_option maxHeartbeats 4000000 in
set_option maxRecDepth 100000 in
theorem c_X6_firstLeast (l : Launch) (E : gE) (fv : Nat) (sz : Nat) (fVl : Nat → Int32) (p1 p2 : Int32)  (Q : Int32 → Prop) (h : wp_X6_firstLeast p1 p2 fVl Q) : Met l yX6_firstLeast wsX6_firstLeast ({ frames := 0, cells := 0, slots := 0, locals := 0 } : Room) (va_Pc [.ref fv, .int p1, .int p2] (rc_B E (rw_0 E fv fVl) sz)) (va_Qi (S := Unit) (fun (r : Int32) (u : Unit) => Q r) (fun u t => rc_C E (va_A (rw_0 E fv fVl) sz) (rw_0 E fv fVl) t) (va_A (rw_0 E fv fVl) sz)) 0 0 (va_A (rw_0 E fv fVl) sz) := by
  refine rc_enterI (cc := cX6_firstLeast) (maxL := 5) (by decide) rfl (Nat.le_of_ble_eq_true rfl) ?_
  intro p e s m args below meth c QQ A hx hb hml hown hts hmn hE hP hD hA hret ls hl
  have hown : s.vm.findClass RX6 = some m.cls := hown
  have hK := hE.1
  have hS : va_S A s.heap s.heap [] := va_S.rf
  have hl : lv_has ls 5 [(0, .ref fv), (1, .int p1), (2, .int p2)] := hl
  have J7 : ∀ (n : Nat) (x3 : Int32) (x4 : Int32), lp_X6_firstLeast_7 p2 fVl Q n x3 x4 → ∀ (H : Heap) (locs : List Loc), va_P E.1 vwCl (rw_0 E fv fVl) H → va_D A (rw_0 E fv fVl) → va_S A s.heap H locs → ∀ ls : Array Slot, lv_has ls 5 [(0, .ref fv), (2, .int p2), (3, .int x3), (4, .int x4)] → W p l e ({ frames := 0, cells := 0, slots := 0, locals := 0 } : Room) s m args below meth c H locs 0 0 QQ (F0 m 7 ls []) := by
    intro n
    induction n with
    | zero =>
      intro x3 x4 h
      exact False.elim h
    | succ n ih =>
      intro x3 x4 h H locs hP hD hS ls hl
      have h : lp_X6_firstLeast_7F p2 fVl Q (lp_X6_firstLeast_7 p2 fVl Q n) x3 x4 := h
      unfold lp_X6_firstLeast_7F at h
      refine lv_iload hx hb dX6_firstLeast_7 (lv_at hl 3 rfl) ?_
      refine lv_iload_n hx hb dX6_firstLeast_9 rfl (lv_at hl 1 rfl) ?_
      refine lv_icmp_gt (tgt := 32) hx hb dX6_firstLeast_10 (by decide) (fun c_1 => ?_) (fun c_1 => ?_)
      · have h := h.1 c_1
        refine lv_iload_n hx hb dX6_firstLeast_32 rfl (lv_at hl 2 rfl) ?_
        exact hret _ _ _ _ x3 () rfl h hP hD hS dX6_firstLeast_33
      · have h := h.2 c_1
        refine lv_aload_n hx hb dX6_firstLeast_13 rfl (lv_at hl 0 rfl) ?_
        refine lv_iload hx hb dX6_firstLeast_14 (lv_at hl 3 rfl) ?_
        obtain ⟨o_2, h⟩ := h
        refine rc_iald hx hb hK hP 0 0 rfl rfl x4.toNatClampNeg rfl o_2 dX6_firstLeast_16 ?_
        refine lv_aload_n hx hb dX6_firstLeast_17 rfl (lv_at hl 0 rfl) ?_
        refine lv_iload_n hx hb dX6_firstLeast_18 rfl (lv_at hl 2 rfl) ?_
        obtain ⟨o_3, h⟩ := h
        refine rc_iald hx hb hK hP 0 0 rfl rfl x3.toNatClampNeg rfl o_3 dX6_firstLeast_19 ?_
        refine lv_icmp_ge (tgt := 26) hx hb dX6_firstLeast_20 (by decide) (fun c_4 => ?_) (fun c_4 => ?_)
        · have h := h.1 c_4
          refine lv_iinc (v := x4 + 1) (lv' := [(4, .int (x4 + 1)), (0, .ref fv), (2, .int p2), (3, .int x3)]) hx hb dX6_firstLeast_26 hl (k := 3) rfl (by rfl) (by decide) rfl (fun ls hl => ?_)
          refine lv_goto (tgt := 7) hx hb dX6_firstLeast_29 (by decide) ?_
          exact ih x3 (x4 + 1) h _ _ hP hD hS ls (lv_sub hl [1, 2, 3, 0] rfl)
        · have h := h.2 c_4
          refine lv_iload hx hb dX6_firstLeast_23 (lv_at hl 3 rfl) ?_
          refine lv_istore_n (lv' := [(3, .int x4), (0, .ref fv), (2, .int p2), (4, .int x4)]) hx hb dX6_firstLeast_25 rfl hl (by decide) rfl (fun ls hl => ?_)
          refine lv_iinc (v := x4 + 1) (lv' := [(4, .int (x4 + 1)), (3, .int x4), (0, .ref fv), (2, .int p2)]) hx hb dX6_firstLeast_26 hl (k := 3) rfl (by rfl) (by decide) rfl (fun ls hl => ?_)
          refine lv_goto (tgt := 7) hx hb dX6_firstLeast_29 (by decide) ?_
          exact ih x4 (x4 + 1) h _ _ hP hD hS ls (lv_sub hl [2, 3, 1, 0] rfl)
  unfold wp_X6_firstLeast at h
  obtain ⟨H, hH⟩ : ∃ H, H = s.heap := ⟨_, rfl⟩
  obtain ⟨locs, hlocs⟩ : ∃ locs : List Loc, locs = [] := ⟨_, rfl⟩
  have hP : va_P E.1 vwCl (rw_0 E fv fVl) H := by rw [hH]; exact hP
  have hS : va_S A s.heap H locs := by rw [hH, hlocs]; exact hS
  suffices hgo : W p l e ({ frames := 0, cells := 0, slots := 0, locals := 0 } : Room) s m args below meth c H locs 0 0 QQ (F0 m 0 ls []) from by rw [hH, hlocs] at hgo; exact hgo
  refine lv_iload_n hx hb dX6_firstLeast_0 rfl (lv_at hl 1 rfl) ?_
  refine lv_istore_n (lv' := [(3, .int p1), (0, .ref fv), (1, .int p1), (2, .int p2)]) hx hb dX6_firstLeast_1 rfl hl (by decide) rfl (fun ls hl => ?_)
  refine lv_iload_n hx hb dX6_firstLeast_2 rfl (lv_at hl 2 rfl) ?_
  refine lv_iconst (v := 1) hx hb dX6_firstLeast_3 (by decide) ?_
  refine lv_iadd hx hb dX6_firstLeast_4 ?_
  refine lv_istore (lv' := [(4, .int (p1 + 1)), (3, .int p1), (0, .ref fv), (1, .int p1), (2, .int p2)]) hx hb dX6_firstLeast_5 hl (by decide) rfl (fun ls hl => ?_)
  obtain ⟨n, h⟩ := h
  exact J7 n p1 (p1 + 1) h _ _ hP hD hS ls (lv_sub hl [2, 4, 1, 0] rfl)
def lp_J7_fill_53178_5F (p1 : Int32)  (Q : (Nat → Int32) → Prop) (R : Int32 → Int32 → (Nat → Int32) → Prop) (x2 : Int32) (x3 : Int32) (fVl : Nat → Int32) : Prop :=
  ((x3 ≤ x2 → Q fVl) ∧ (¬ (x3 ≤ x2) → (vp_in x2 24 ∧ R (x2 + 1) x3 (upd fVl x2.toNatClampNeg p1))))
def lp_J7_fill_53178_5 (p1 : Int32)  (Q : (Nat → Int32) → Prop) (n : Nat) : Int32 → Int32 → (Nat → Int32) → Prop :=
  Nat.rec (motive := fun _ => Int32 → Int32 → (Nat → Int32) → Prop) (fun _ _ _ => False) (fun _ r => lp_J7_fill_53178_5F p1 Q r) n
def wp_J7_fill_53178 (p1 : Int32) (fVl : Nat → Int32) (Q : (Nat → Int32) → Prop) : Prop :=
  (∃ n : Nat, lp_J7_fill_53178_5 p1 Q n 0 24 fVl)
set_option maxHeartbeats 4000000 in
set_option maxRecDepth 100000 in
theorem c_J7_fill_53178 (l : Launch) (E : gE) (fv : Nat) (sz : Nat) (fVl : Nat → Int32) (p1 : Int32)  (Q : (Nat → Int32) → Prop) (h : wp_J7_fill_53178 p1 fVl Q) : Met l yJ7_fill_53178 wsJ7_fill_53178 ({ frames := 0, cells := 0, slots := 0, locals := 0 } : Room) (va_Pc [.ref fv, .int p1] (rc_B E (rw_0 E fv fVl) sz)) (va_Qv (S := (Nat → Int32)) (fun (u : (Nat → Int32)) => Q u) (fun u t => rc_C E (va_A (rw_0 E fv fVl) sz) (rw_0 E fv u) t) (va_A (rw_0 E fv fVl) sz)) 0 0 (va_A (rw_0 E fv fVl) sz) := by
  refine rc_enterV (cc := cJ7_fill_53178) (maxL := 4) (by decide) rfl (Nat.le_of_ble_eq_true rfl) ?_
  intro p e s m args below meth c QQ A hx hb hml hown hts hmn hE hP hD hA hret ls hl
  have hown : s.vm.findClass RJ7 = some m.cls := hown
  have hK := hE.1
  have hS : va_S A s.heap s.heap [] := va_S.rf
  have hl : lv_has ls 4 [(0, .ref fv), (1, .int p1)] := hl
  have J5 : ∀ (n : Nat) (x2 : Int32) (x3 : Int32) (fVl : Nat → Int32), lp_J7_fill_53178_5 p1 Q n x2 x3 fVl → ∀ (H : Heap) (locs : List Loc), va_P E.1 vwCl (rw_0 E fv fVl) H → va_D A (rw_0 E fv fVl) → va_S A s.heap H locs → ∀ ls : Array Slot, lv_has ls 4 [(0, .ref fv), (1, .int p1), (2, .int x2), (3, .int x3)] → W p l e ({ frames := 0, cells := 0, slots := 0, locals := 0 } : Room) s m args below meth c H locs 0 0 QQ (F0 m 5 ls []) := by
    intro n
    induction n with
    | zero =>
      intro x2 x3 fVl h
      exact False.elim h
    | succ n ih =>
      intro x2 x3 fVl h H locs hP hD hS ls hl
      have h : lp_J7_fill_53178_5F p1 Q (lp_J7_fill_53178_5 p1 Q n) x2 x3 fVl := h
      unfold lp_J7_fill_53178_5F at h
      refine lv_iload_n hx hb dJ7_fill_53178_5 rfl (lv_at hl 2 rfl) ?_
      refine lv_iload_n hx hb dJ7_fill_53178_6 rfl (lv_at hl 3 rfl) ?_
      refine lv_icmp_ge (tgt := 20) hx hb dJ7_fill_53178_7 (by decide) (fun c_1 => ?_) (fun c_1 => ?_)
      · have h := h.1 c_1
        exact hret _ _ _ _ (fVl) h hP hD hS dJ7_fill_53178_20
      · have h := h.2 c_1
        refine lv_aload_n hx hb dJ7_fill_53178_10 rfl (lv_at hl 0 rfl) ?_
        refine lv_iload_n hx hb dJ7_fill_53178_11 rfl (lv_at hl 2 rfl) ?_
        refine lv_iload_n hx hb dJ7_fill_53178_12 rfl (lv_at hl 1 rfl) ?_
        obtain ⟨o_2, h⟩ := h
        refine rc_iast hx hb hK hP hD hS 0 0 rfl rfl x2.toNatClampNeg rfl o_2 dJ7_fill_53178_13 (fun H locs hP hD hS => ?_)
        have hP : va_P E.1 vwCl (rw_0 E fv (upd fVl x2.toNatClampNeg p1)) H := hP
        have hD : va_D A (rw_0 E fv (upd fVl x2.toNatClampNeg p1)) := hD
        refine lv_iinc (v := x2 + 1) (lv' := [(2, .int (x2 + 1)), (0, .ref fv), (1, .int p1), (3, .int x3)]) hx hb dJ7_fill_53178_14 hl (k := 2) rfl (by rfl) (by decide) rfl (fun ls hl => ?_)
        refine lv_goto (tgt := 5) hx hb dJ7_fill_53178_17 (by decide) ?_
        exact ih (x2 + 1) x3 (upd fVl x2.toNatClampNeg p1) h _ _ hP hD hS ls (lv_sub hl [1, 2, 0, 3] rfl)
  unfold wp_J7_fill_53178 at h
  obtain ⟨H, hH⟩ : ∃ H, H = s.heap := ⟨_, rfl⟩
  obtain ⟨locs, hlocs⟩ : ∃ locs : List Loc, locs = [] := ⟨_, rfl⟩
  have hP : va_P E.1 vwCl (rw_0 E fv fVl) H := by rw [hH]; exact hP
  have hS : va_S A s.heap H locs := by rw [hH, hlocs]; exact hS
  suffices hgo : W p l e ({ frames := 0, cells := 0, slots := 0, locals := 0 } : Room) s m args below meth c H locs 0 0 QQ (F0 m 0 ls []) from by rw [hH, hlocs] at hgo; exact hgo
  refine lv_iconst (v := 0) hx hb dJ7_fill_53178_0 (by decide) ?_
  refine lv_istore_n (lv' := [(2, .int 0), (0, .ref fv), (1, .int p1)]) hx hb dJ7_fill_53178_1 rfl hl (by decide) rfl (fun ls hl => ?_)
  refine lv_aload_n hx hb dJ7_fill_53178_2 rfl (lv_at hl 1 rfl) ?_
  refine va_alen (v := 24) hx hb hK hP 0 0 rfl rfl rfl dJ7_fill_53178_3 ?_
  refine lv_istore_n (lv' := [(3, .int 24), (2, .int 0), (0, .ref fv), (1, .int p1)]) hx hb dJ7_fill_53178_4 rfl hl (by decide) rfl (fun ls hl => ?_)
  obtain ⟨n, h⟩ := h
  exact J5 n 0 24 fVl h _ _ hP hD hS ls (lv_sub hl [2, 3, 1, 0] rfl)
