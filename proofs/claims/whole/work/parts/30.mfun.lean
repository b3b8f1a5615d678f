def wp_X7_in (p0 : Int32) (p1 : Int32) (p2 : Int32) (Q : Int32 → Prop) : Prop :=
  ((p0 < p1 → Q 0) ∧ (¬ (p0 < p1) → ((p2 < p0 → Q 0) ∧ (¬ (p2 < p0) → Q 1))))
set_option maxHeartbeats 4000000 in
set_option maxRecDepth 100000 in
theorem c_X7_in (l : Launch) (E : gE)  (sz : Nat)  (p0 p1 p2 : Int32)  (Q : Int32 → Prop) (h : wp_X7_in p0 p1 p2 Q) : Met l yX7_in wsX7_in ({ frames := 0, cells := 0, slots := 0, locals := 0 } : Room) (va_Pc [.int p0, .int p1, .int p2] (rc_B E ([]) sz)) (va_Qi (S := Unit) (fun (r : Int32) (u : Unit) => Q r) (fun u t => rc_C E (va_A ([]) sz) ([]) t) (va_A ([]) sz)) 0 0 (va_A ([]) sz) := by
  refine rc_enterI (cc := cX7_in) (maxL := 3) (by decide) rfl (Nat.le_of_ble_eq_true rfl) ?_
  intro p e s m args below meth c QQ A hx hb hml hown hts hmn hE hP hD hA hret ls hl
  have hown : s.vm.findClass RX7 = some m.cls := hown
  have hK := hE.1
  have hS : va_S A s.heap s.heap [] := va_S.rf
  have hl : lv_has ls 3 [(0, .int p0), (1, .int p1), (2, .int p2)] := hl
  unfold wp_X7_in at h
  obtain ⟨H, hH⟩ : ∃ H, H = s.heap := ⟨_, rfl⟩
  obtain ⟨locs, hlocs⟩ : ∃ locs : List Loc, locs = [] := ⟨_, rfl⟩
  have hP : va_P E.1 vwCl ([]) H := by rw [hH]; exact hP
  have hS : va_S A s.heap H locs := by rw [hH, hlocs]; exact hS
  suffices hgo : W p l e ({ frames := 0, cells := 0, slots := 0, locals := 0 } : Room) s m args below meth c H locs 0 0 QQ (F0 m 0 ls []) from by rw [hH, hlocs] at hgo; exact hgo
  refine lv_iload_n hx hb dX7_in_0 rfl (lv_at hl 0 rfl) ?_
  refine lv_iload_n hx hb dX7_in_1 rfl (lv_at hl 1 rfl) ?_
  refine lv_icmp_lt (tgt := 14) hx hb dX7_in_2 (by decide) (fun c_1 => ?_) (fun c_1 => ?_)
  · have h := h.1 c_1
    refine lv_iconst (v := 0) hx hb dX7_in_14 (by decide) ?_
    exact hret _ _ _ _ 0 () (by decide) h hP hD hS dX7_in_15
  · have h := h.2 c_1
    refine lv_iload_n hx hb dX7_in_5 rfl (lv_at hl 0 rfl) ?_
    refine lv_iload_n hx hb dX7_in_6 rfl (lv_at hl 2 rfl) ?_
    refine lv_icmp_gt (tgt := 14) hx hb dX7_in_7 (by decide) (fun c_2 => ?_) (fun c_2 => ?_)
    · have h := h.1 c_2
      refine lv_iconst (v := 0) hx hb dX7_in_14 (by decide) ?_
      exact hret _ _ _ _ 0 () (by decide) h hP hD hS dX7_in_15
    · have h := h.2 c_2
      refine lv_iconst (v := 1) hx hb dX7_in_10 (by decide) ?_
      refine lv_goto (tgt := 15) hx hb dX7_in_11 (by decide) ?_
      exact hret _ _ _ _ 1 () (by decide) h hP hD hS dX7_in_15
def wp_X7_within (p0 : Int32) (p1 : Int32) (p2 : Int32) (Q : Int32 → Prop) : Prop :=
  ((p1 ≤ p0 → ((p0 ≤ p2 → Q p0) ∧ (¬ (p0 ≤ p2) → Q p2))) ∧ (¬ (p1 ≤ p0) → Q p1))
set_option maxHeartbeats 4000000 in
set_option maxRecDepth 100000 in
theorem c_X7_within (l : Launch) (E : gE)  (sz : Nat)  (p0 p1 p2 : Int32)  (Q : Int32 → Prop) (h : wp_X7_within p0 p1 p2 Q) : Met l yX7_within wsX7_within ({ frames := 0, cells := 0, slots := 0, locals := 0 } : Room) (va_Pc [.int p0, .int p1, .int p2] (rc_B E ([]) sz)) (va_Qi (S := Unit) (fun (r : Int32) (u : Unit) => Q r) (fun u t => rc_C E (va_A ([]) sz) ([]) t) (va_A ([]) sz)) 0 0 (va_A ([]) sz) := by
  refine rc_enterI (cc := cX7_within) (maxL := 3) (by decide) rfl (Nat.le_of_ble_eq_true rfl) ?_
  intro p e s m args below meth c QQ A hx hb hml hown hts hmn hE hP hD hA hret ls hl
  have hown : s.vm.findClass RX7 = some m.cls := hown
  have hK := hE.1
  have hS : va_S A s.heap s.heap [] := va_S.rf
  have hl : lv_has ls 3 [(0, .int p0), (1, .int p1), (2, .int p2)] := hl
  unfold wp_X7_within at h
  obtain ⟨H, hH⟩ : ∃ H, H = s.heap := ⟨_, rfl⟩
  obtain ⟨locs, hlocs⟩ : ∃ locs : List Loc, locs = [] := ⟨_, rfl⟩
  have hP : va_P E.1 vwCl ([]) H := by rw [hH]; exact hP
  have hS : va_S A s.heap H locs := by rw [hH, hlocs]; exact hS
  suffices hgo : W p l e ({ frames := 0, cells := 0, slots := 0, locals := 0 } : Room) s m args below meth c H locs 0 0 QQ (F0 m 0 ls []) from by rw [hH, hlocs] at hgo; exact hgo
  refine lv_iload_n hx hb dX7_within_0 rfl (lv_at hl 0 rfl) ?_
  refine lv_iload_n hx hb dX7_within_1 rfl (lv_at hl 1 rfl) ?_
  refine lv_icmp_ge (tgt := 9) hx hb dX7_within_2 (by decide) (fun c_1 => ?_) (fun c_1 => ?_)
  · have h := h.1 c_1
    refine lv_iload_n hx hb dX7_within_9 rfl (lv_at hl 0 rfl) ?_
    refine lv_iload_n hx hb dX7_within_10 rfl (lv_at hl 2 rfl) ?_
    refine lv_icmp_le (tgt := 18) hx hb dX7_within_11 (by decide) (fun c_2 => ?_) (fun c_2 => ?_)
    · have h := h.1 c_2
      refine lv_iload_n hx hb dX7_within_18 rfl (lv_at hl 0 rfl) ?_
      exact hret _ _ _ _ p0 () rfl h hP hD hS dX7_within_19
    · have h := h.2 c_2
      refine lv_iload_n hx hb dX7_within_14 rfl (lv_at hl 2 rfl) ?_
      refine lv_goto (tgt := 19) hx hb dX7_within_15 (by decide) ?_
      exact hret _ _ _ _ p2 () rfl h hP hD hS dX7_within_19
  · have h := h.2 c_1
    refine lv_iload_n hx hb dX7_within_5 rfl (lv_at hl 1 rfl) ?_
    refine lv_goto (tgt := 19) hx hb dX7_within_6 (by decide) ?_
    exact hret _ _ _ _ p1 () rfl h hP hD hS dX7_within_19
def lp_X7_copyAll_2F (cF : Nat → Int32)  (Q : (Nat → Int32) → Prop) (R : Int32 → (Nat → Int32) → Prop) (x2 : Int32) (cG : Nat → Int32) : Prop :=
  ((1453 ≤ x2 → Q cG) ∧ (¬ (1453 ≤ x2) → (vp_in x2 1453 ∧ (vp_in x2 1453 ∧ R (x2 + 1) (upd cG x2.toNatClampNeg (cF x2.toNatClampNeg))))))
def lp_X7_copyAll_2 (cF : Nat → Int32)  (Q : (Nat → Int32) → Prop) (n : Nat) : Int32 → (Nat → Int32) → Prop :=
  Nat.rec (motive := fun _ => Int32 → (Nat → Int32) → Prop) (fun _ _ => False) (fun _ r => lp_X7_copyAll_2F cF Q r) n
def wp_X7_copyAll (cF : Nat → Int32) (cG : Nat → Int32) (Q : (Nat → Int32) → Prop) : Prop :=
  (∃ n : Nat, lp_X7_copyAll_2 cF Q n 0 cG)
set_option maxHeartbeats 4000000 in
set_option maxRecDepth 100000 in
theorem c_X7_copyAll (l : Launch) (E : gE) (cf cg : Nat) (sz : Nat) (cF : Nat → Int32) (cG : Nat → Int32)   (Q : (Nat → Int32) → Prop) (h : wp_X7_copyAll cF cG Q) : Met l yX7_copyAll wsX7_copyAll ({ frames := 0, cells := 0, slots := 0, locals := 0 } : Room) (va_Pc [.ref cf, .ref cg] (rc_B E (rw_23 E cf cg cF cG) sz)) (va_Qv (S := (Nat → Int32)) (fun (u : (Nat → Int32)) => Q u) (fun u t => rc_C E (va_A (rw_23 E cf cg cF cG) sz) (rw_23 E cf cg cF u) t) (va_A (rw_23 E cf cg cF cG) sz)) 0 0 (va_A (rw_23 E cf cg cF cG) sz) := by
  refine rc_enterV (cc := cX7_copyAll) (maxL := 3) (by decide) rfl (Nat.le_of_ble_eq_true rfl) ?_
  intro p e s m args below meth c QQ A hx hb hml hown hts hmn hE hP hD hA hret ls hl
  have hown : s.vm.findClass RX7 = some m.cls := hown
  have hK := hE.1
  have hS : va_S A s.heap s.heap [] := va_S.rf
  have hl : lv_has ls 3 [(0, .ref cf), (1, .ref cg)] := hl
  have J2 : ∀ (n : Nat) (x2 : Int32) (cG : Nat → Int32), lp_X7_copyAll_2 cF Q n x2 cG → ∀ (H : Heap) (locs : List Loc), va_P E.1 vwCl (rw_23 E cf cg cF cG) H → va_D A (rw_23 E cf cg cF cG) → va_S A s.heap H locs → ∀ ls : Array Slot, lv_has ls 3 [(0, .ref cf), (1, .ref cg), (2, .int x2)] → W p l e ({ frames := 0, cells := 0, slots := 0, locals := 0 } : Room) s m args below meth c H locs 0 0 QQ (F0 m 2 ls []) := by
    intro n
    induction n with
    | zero =>
      intro x2 cG h
      exact False.elim h
    | succ n ih =>
      intro x2 cG h H locs hP hD hS ls hl
      have h : lp_X7_copyAll_2F cF Q (lp_X7_copyAll_2 cF Q n) x2 cG := h
      unfold lp_X7_copyAll_2F at h
      refine lv_iload_n hx hb dX7_copyAll_2 rfl (lv_at hl 2 rfl) ?_
      refine lv_sipush (v := 1453) hx hb dX7_copyAll_3 (by decide) ?_
      refine lv_icmp_ge (tgt := 21) hx hb dX7_copyAll_6 (by decide) (fun c_1 => ?_) (fun c_1 => ?_)
      · have h := h.1 c_1
        exact hret _ _ _ _ (cG) h hP hD hS dX7_copyAll_21
      · have h := h.2 c_1
        refine lv_aload_n hx hb dX7_copyAll_9 rfl (lv_at hl 1 rfl) ?_
        refine lv_iload_n hx hb dX7_copyAll_10 rfl (lv_at hl 2 rfl) ?_
        refine lv_aload_n hx hb dX7_copyAll_11 rfl (lv_at hl 0 rfl) ?_
        refine lv_iload_n hx hb dX7_copyAll_12 rfl (lv_at hl 2 rfl) ?_
        obtain ⟨o_2, h⟩ := h
        refine rc_iald hx hb hK hP 0 0 rfl rfl x2.toNatClampNeg rfl o_2 dX7_copyAll_13 ?_
        obtain ⟨o_3, h⟩ := h
        refine rc_iast hx hb hK hP hD hS 1 0 rfl rfl x2.toNatClampNeg rfl o_3 dX7_copyAll_14 (fun H locs hP hD hS => ?_)
        have hP : va_P E.1 vwCl (rw_23 E cf cg cF (upd cG x2.toNatClampNeg (cF x2.toNatClampNeg))) H := hP
        have hD : va_D A (rw_23 E cf cg cF (upd cG x2.toNatClampNeg (cF x2.toNatClampNeg))) := hD
        refine lv_iinc (v := x2 + 1) (lv' := [(2, .int (x2 + 1)), (0, .ref cf), (1, .ref cg)]) hx hb dX7_copyAll_15 hl (k := 2) rfl (by rfl) (by decide) rfl (fun ls hl => ?_)
        refine lv_goto (tgt := 2) hx hb dX7_copyAll_18 (by decide) ?_
        exact ih (x2 + 1) (upd cG x2.toNatClampNeg (cF x2.toNatClampNeg)) h _ _ hP hD hS ls (lv_sub hl [1, 2, 0] rfl)
  unfold wp_X7_copyAll at h
  obtain ⟨H, hH⟩ : ∃ H, H = s.heap := ⟨_, rfl⟩
  obtain ⟨locs, hlocs⟩ : ∃ locs : List Loc, locs = [] := ⟨_, rfl⟩
  have hP : va_P E.1 vwCl (rw_23 E cf cg cF cG) H := by rw [hH]; exact hP
  have hS : va_S A s.heap H locs := by rw [hH, hlocs]; exact hS
  suffices hgo : W p l e ({ frames := 0, cells := 0, slots := 0, locals := 0 } : Room) s m args below meth c H locs 0 0 QQ (F0 m 0 ls []) from by rw [hH, hlocs] at hgo; exact hgo
  refine lv_iconst (v := 0) hx hb dX7_copyAll_0 (by decide) ?_
  refine lv_istore_n (lv' := [(2, .int 0), (0, .ref cf), (1, .ref cg)]) hx hb dX7_copyAll_1 rfl hl (by decide) rfl (fun ls hl => ?_)
  obtain ⟨n, h⟩ := h
  exact J2 n 0 cG h _ _ hP hD hS ls (lv_sub hl [1, 2, 0] rfl)
def wp_X7_told0 (p0 : Int32) (Q : Int32 → Prop) : Prop :=
  ((0 ≤ p0 → Q p0) ∧ (¬ (0 ≤ p0) → Q (-1000000005)))
set_option maxHeartbeats 4000000 in
set_option maxRecDepth 100000 in
theorem c_X7_told0 (l : Launch) (E : gE)  (sz : Nat)  (p0 : Int32)  (Q : Int32 → Prop) (h : wp_X7_told0 p0 Q) : Met l yX7_told0 wsX7_told0 ({ frames := 0, cells := 0, slots := 0, locals := 0 } : Room) (va_Pc [.int p0] (rc_B E ([]) sz)) (va_Qi (S := Unit) (fun (r : Int32) (u : Unit) => Q r) (fun u t => rc_C E (va_A ([]) sz) ([]) t) (va_A ([]) sz)) 0 0 (va_A ([]) sz) := by
  refine rc_enterI (cc := cX7_told0) (maxL := 1) (by decide) rfl (Nat.le_of_ble_eq_true rfl) ?_
  intro p e s m args below meth c QQ A hx hb hml hown hts hmn hE hP hD hA hret ls hl
  have hown : s.vm.findClass RX7 = some m.cls := hown
  have hK := hE.1
  have hS : va_S A s.heap s.heap [] := va_S.rf
  have hl : lv_has ls 1 [(0, .int p0)] := hl
  have k_84 := hts (.constant RX7 84 (-1000000005)) (List.mem_of_getElem? (i := 1) rfl)
  unfold wp_X7_told0 at h
  obtain ⟨H, hH⟩ : ∃ H, H = s.heap := ⟨_, rfl⟩
  obtain ⟨locs, hlocs⟩ : ∃ locs : List Loc, locs = [] := ⟨_, rfl⟩
  have hP : va_P E.1 vwCl ([]) H := by rw [hH]; exact hP
  have hS : va_S A s.heap H locs := by rw [hH, hlocs]; exact hS
  suffices hgo : W p l e ({ frames := 0, cells := 0, slots := 0, locals := 0 } : Room) s m args below meth c H locs 0 0 QQ (F0 m 0 ls []) from by rw [hH, hlocs] at hgo; exact hgo
  refine lv_iload_n hx hb dX7_told0_0 rfl (lv_at hl 0 rfl) ?_
  refine lv_if_ge (tgt := 9) hx hb dX7_told0_1 (by decide) (fun c_1 => ?_) (fun c_1 => ?_)
  · have h := h.1 c_1
    refine lv_iload_n hx hb dX7_told0_9 rfl (lv_at hl 0 rfl) ?_
    exact hret _ _ _ _ p0 () rfl h hP hD hS dX7_told0_10
  · have h := h.2 c_1
    refine lv_ldc hx hb hown k_84 dX7_told0_4 ?_
    refine lv_goto (tgt := 10) hx hb dX7_told0_6 (by decide) ?_
    exact hret _ _ _ _ (-1000000005) () rfl h hP hD hS dX7_told0_10
def jp_X7_isUnder_19 (p0 : Int32) (p1 : Int32)  (Q : Int32 → Prop)  : Prop :=
  ((¬ p1 = 2 → Q 0) ∧ (p1 = 2 → ((¬ p0 = 4 → Q 0) ∧ (p0 = 4 → Q 1))))
def wp_X7_isUnder (p0 : Int32) (p1 : Int32) (Q : Int32 → Prop) : Prop :=
  ((p1 = 0 → Q 1) ∧ (¬ (p1 = 0) → ((p0 = p1 → Q 1) ∧ (¬ (p0 = p1) → ((¬ p1 = 1 → jp_X7_isUnder_19 p0 p1 Q) ∧ (p1 = 1 → ((p0 = 3 → Q 1) ∧ (¬ (p0 = 3) → jp_X7_isUnder_19 p0 p1 Q))))))))
set_option maxHeartbeats 4000000 in
set_option maxRecDepth 100000 in
theorem c_X7_isUnder (l : Launch) (E : gE)  (sz : Nat)  (p0 p1 : Int32)  (Q : Int32 → Prop) (h : wp_X7_isUnder p0 p1 Q) : Met l yX7_isUnder wsX7_isUnder ({ frames := 0, cells := 0, slots := 0, locals := 0 } : Room) (va_Pc [.int p0, .int p1] (rc_B E ([]) sz)) (va_Qi (S := Unit) (fun (r : Int32) (u : Unit) => Q r) (fun u t => rc_C E (va_A ([]) sz) ([]) t) (va_A ([]) sz)) 0 0 (va_A ([]) sz) := by
  refine rc_enterI (cc := cX7_isUnder) (maxL := 2) (by decide) rfl (Nat.le_of_ble_eq_true rfl) ?_
  intro p e s m args below meth c QQ A hx hb hml hown hts hmn hE hP hD hA hret ls hl
  have hown : s.vm.findClass RX7 = some m.cls := hown
  have hK := hE.1
  have hS : va_S A s.heap s.heap [] := va_S.rf
  have hl : lv_has ls 2 [(0, .int p0), (1, .int p1)] := hl
  have J19 : jp_X7_isUnder_19 p0 p1 Q → ∀ (H : Heap) (locs : List Loc), va_P E.1 vwCl ([]) H → va_D A ([]) → va_S A s.heap H locs → ∀ ls : Array Slot, lv_has ls 2 [(0, .int p0), (1, .int p1)] → W p l e ({ frames := 0, cells := 0, slots := 0, locals := 0 } : Room) s m args below meth c H locs 0 0 QQ (F0 m 19 ls []) := by
    intro  h H locs hP hD hS ls hl
    unfold jp_X7_isUnder_19 at h
    refine lv_iload_n hx hb dX7_isUnder_19 rfl (lv_at hl 1 rfl) ?_
    refine lv_iconst (v := 2) hx hb dX7_isUnder_20 (by decide) ?_
    refine lv_icmp_ne (tgt := 33) hx hb dX7_isUnder_21 (by decide) (fun c_1 => ?_) (fun c_1 => ?_)
    · have h := h.1 c_1
      refine lv_iconst (v := 0) hx hb dX7_isUnder_33 (by decide) ?_
      exact hret _ _ _ _ 0 () (by decide) h hP hD hS dX7_isUnder_34
    · have h := h.2 c_1
      refine lv_iload_n hx hb dX7_isUnder_24 rfl (lv_at hl 0 rfl) ?_
      refine lv_iconst (v := 4) hx hb dX7_isUnder_25 (by decide) ?_
      refine lv_icmp_ne (tgt := 33) hx hb dX7_isUnder_26 (by decide) (fun c_2 => ?_) (fun c_2 => ?_)
      · have h := h.1 c_2
        refine lv_iconst (v := 0) hx hb dX7_isUnder_33 (by decide) ?_
        exact hret _ _ _ _ 0 () (by decide) h hP hD hS dX7_isUnder_34
      · have h := h.2 c_2
        refine lv_iconst (v := 1) hx hb dX7_isUnder_29 (by decide) ?_
        refine lv_goto (tgt := 34) hx hb dX7_isUnder_30 (by decide) ?_
        exact hret _ _ _ _ 1 () (by decide) h hP hD hS dX7_isUnder_34
  unfold wp_X7_isUnder at h
  obtain ⟨H, hH⟩ : ∃ H, H = s.heap := ⟨_, rfl⟩
  obtain ⟨locs, hlocs⟩ : ∃ locs : List Loc, locs = [] := ⟨_, rfl⟩
  have hP : va_P E.1 vwCl ([]) H := by rw [hH]; exact hP
  have hS : va_S A s.heap H locs := by rw [hH, hlocs]; exact hS
  suffices hgo : W p l e ({ frames := 0, cells := 0, slots := 0, locals := 0 } : Room) s m args below meth c H locs 0 0 QQ (F0 m 0 ls []) from by rw [hH, hlocs] at hgo; exact hgo
  refine lv_iload_n hx hb dX7_isUnder_0 rfl (lv_at hl 1 rfl) ?_
  refine lv_if_eq (tgt := 29) hx hb dX7_isUnder_1 (by decide) (fun c_3 => ?_) (fun c_3 => ?_)
  · have h := h.1 c_3
    refine lv_iconst (v := 1) hx hb dX7_isUnder_29 (by decide) ?_
    refine lv_goto (tgt := 34) hx hb dX7_isUnder_30 (by decide) ?_
    exact hret _ _ _ _ 1 () (by decide) h hP hD hS dX7_isUnder_34
  · have h := h.2 c_3
    refine lv_iload_n hx hb dX7_isUnder_4 rfl (lv_at hl 0 rfl) ?_
    refine lv_iload_n hx hb dX7_isUnder_5 rfl (lv_at hl 1 rfl) ?_
    refine lv_icmp_eq (tgt := 29) hx hb dX7_isUnder_6 (by decide) (fun c_4 => ?_) (fun c_4 => ?_)
    · have h := h.1 c_4
      refine lv_iconst (v := 1) hx hb dX7_isUnder_29 (by decide) ?_
      refine lv_goto (tgt := 34) hx hb dX7_isUnder_30 (by decide) ?_
      exact hret _ _ _ _ 1 () (by decide) h hP hD hS dX7_isUnder_34
    · have h := h.2 c_4
      refine lv_iload_n hx hb dX7_isUnder_9 rfl (lv_at hl 1 rfl) ?_
      refine lv_iconst (v := 1) hx hb dX7_isUnder_10 (by decide) ?_
      refine lv_icmp_ne (tgt := 19) hx hb dX7_isUnder_11 (by decide) (fun c_5 => ?_) (fun c_5 => ?_)
      · have h := h.1 c_5
        exact J19 h _ _ hP hD hS ls (lv_sub hl [0, 1] rfl)
      · have h := h.2 c_5
        refine lv_iload_n hx hb dX7_isUnder_14 rfl (lv_at hl 0 rfl) ?_
        refine lv_iconst (v := 3) hx hb dX7_isUnder_15 (by decide) ?_
        refine lv_icmp_eq (tgt := 29) hx hb dX7_isUnder_16 (by decide) (fun c_6 => ?_) (fun c_6 => ?_)
        · have h := h.1 c_6
          refine lv_iconst (v := 1) hx hb dX7_isUnder_29 (by decide) ?_
          refine lv_goto (tgt := 34) hx hb dX7_isUnder_30 (by decide) ?_
          exact hret _ _ _ _ 1 () (by decide) h hP hD hS dX7_isUnder_34
        · have h := h.2 c_6
          exact J19 h _ _ hP hD hS ls (lv_sub hl [0, 1] rfl)
def wp_X7_rank (p0 : Int32) (Q : Int32 → Prop) : Prop :=
  ((¬ p0 = (-1) → ((¬ p0 = (-2) → ((p0 < (-5) → ((p0 < (-7) → ((p0 < (-9) → Q 6) ∧ (¬ (p0 < (-9)) → Q 5))) ∧ (¬ (p0 < (-7)) → Q 4))) ∧ (¬ (p0 < (-5)) → Q 3))) ∧ (p0 = (-2) → Q 2))) ∧ (p0 = (-1) → Q 1))
set_option maxHeartbeats 4000000 in
set_option maxRecDepth 100000 in
theorem c_X7_rank (l : Launch) (E : gE)  (sz : Nat)  (p0 : Int32)  (Q : Int32 → Prop) (h : wp_X7_rank p0 Q) : Met l yX7_rank wsX7_rank ({ frames := 0, cells := 0, slots := 0, locals := 0 } : Room) (va_Pc [.int p0] (rc_B E ([]) sz)) (va_Qi (S := Unit) (fun (r : Int32) (u : Unit) => Q r) (fun u t => rc_C E (va_A ([]) sz) ([]) t) (va_A ([]) sz)) 0 0 (va_A ([]) sz) := by
  refine rc_enterI (cc := cX7_rank) (maxL := 1) (by decide) rfl (Nat.le_of_ble_eq_true rfl) ?_
  intro p e s m args below meth c QQ A hx hb hml hown hts hmn hE hP hD hA hret ls hl
  have hown : s.vm.findClass RX7 = some m.cls := hown
  have hK := hE.1
  have hS : va_S A s.heap s.heap [] := va_S.rf
  have hl : lv_has ls 1 [(0, .int p0)] := hl
  unfold wp_X7_rank at h
  obtain ⟨H, hH⟩ : ∃ H, H = s.heap := ⟨_, rfl⟩
  obtain ⟨locs, hlocs⟩ : ∃ locs : List Loc, locs = [] := ⟨_, rfl⟩
  have hP : va_P E.1 vwCl ([]) H := by rw [hH]; exact hP
  have hS : va_S A s.heap H locs := by rw [hH, hlocs]; exact hS
  suffices hgo : W p l e ({ frames := 0, cells := 0, slots := 0, locals := 0 } : Room) s m args below meth c H locs 0 0 QQ (F0 m 0 ls []) from by rw [hH, hlocs] at hgo; exact hgo
  refine lv_iload_n hx hb dX7_rank_0 rfl (lv_at hl 0 rfl) ?_
  refine lv_iconst (v := (-1)) hx hb dX7_rank_1 (by decide) ?_
  refine lv_icmp_ne (tgt := 9) hx hb dX7_rank_2 (by decide) (fun c_1 => ?_) (fun c_1 => ?_)
  · have h := h.1 c_1
    refine lv_iload_n hx hb dX7_rank_9 rfl (lv_at hl 0 rfl) ?_
    refine lv_bipush (v := (-2)) hx hb dX7_rank_10 (by decide) ?_
    refine lv_icmp_ne (tgt := 19) hx hb dX7_rank_12 (by decide) (fun c_2 => ?_) (fun c_2 => ?_)
    · have h := h.1 c_2
      refine lv_iload_n hx hb dX7_rank_19 rfl (lv_at hl 0 rfl) ?_
      refine lv_bipush (v := (-5)) hx hb dX7_rank_20 (by decide) ?_
      refine lv_icmp_lt (tgt := 29) hx hb dX7_rank_22 (by decide) (fun c_3 => ?_) (fun c_3 => ?_)
      · have h := h.1 c_3
        refine lv_iload_n hx hb dX7_rank_29 rfl (lv_at hl 0 rfl) ?_
        refine lv_bipush (v := (-7)) hx hb dX7_rank_30 (by decide) ?_
        refine lv_icmp_lt (tgt := 39) hx hb dX7_rank_32 (by decide) (fun c_4 => ?_) (fun c_4 => ?_)
        · have h := h.1 c_4
          refine lv_iload_n hx hb dX7_rank_39 rfl (lv_at hl 0 rfl) ?_
          refine lv_bipush (v := (-9)) hx hb dX7_rank_40 (by decide) ?_
          refine lv_icmp_lt (tgt := 49) hx hb dX7_rank_42 (by decide) (fun c_5 => ?_) (fun c_5 => ?_)
          · have h := h.1 c_5
            refine lv_bipush (v := 6) hx hb dX7_rank_49 (by decide) ?_
            exact hret _ _ _ _ 6 () rfl h hP hD hS dX7_rank_51
          · have h := h.2 c_5
            refine lv_iconst (v := 5) hx hb dX7_rank_45 (by decide) ?_
            refine lv_goto (tgt := 51) hx hb dX7_rank_46 (by decide) ?_
            exact hret _ _ _ _ 5 () rfl h hP hD hS dX7_rank_51
        · have h := h.2 c_4
          refine lv_iconst (v := 4) hx hb dX7_rank_35 (by decide) ?_
          refine lv_goto (tgt := 51) hx hb dX7_rank_36 (by decide) ?_
          exact hret _ _ _ _ 4 () rfl h hP hD hS dX7_rank_51
      · have h := h.2 c_3
        refine lv_iconst (v := 3) hx hb dX7_rank_25 (by decide) ?_
        refine lv_goto (tgt := 51) hx hb dX7_rank_26 (by decide) ?_
        exact hret _ _ _ _ 3 () rfl h hP hD hS dX7_rank_51
    · have h := h.2 c_2
      refine lv_iconst (v := 2) hx hb dX7_rank_15 (by decide) ?_
      refine lv_goto (tgt := 51) hx hb dX7_rank_16 (by decide) ?_
      exact hret _ _ _ _ 2 () rfl h hP hD hS dX7_rank_51
  · have h := h.2 c_1
    refine lv_iconst (v := 1) hx hb dX7_rank_5 (by decide) ?_
    refine lv_goto (tgt := 51) hx hb dX7_rank_6 (by decide) ?_
    exact hret _ _ _ _ 1 () rfl h hP hD hS dX7_rank_51
def wp_X7_two (p0 : Int32) (p1 : Int32) (p2 : Int32) (Q : Int32 → Prop) : Prop :=
  ((p0 = (-8) → Q (p1 * p2)) ∧ ((p0 = (-7) → Q (p1 - p2)) ∧ ((p0 = (-6) → Q (p1 + p2)) ∧ ((p0 = (-5) → ((p1 ≤ p2 → Q 0) ∧ (¬ (p1 ≤ p2) → Q 1))) ∧ ((p0 = (-4) → ((¬ p1 = p2 → Q 0) ∧ (p1 = p2 → Q 1))) ∧ ((p0 = (-3) → ((p2 ≤ p1 → Q 0) ∧ (¬ (p2 ≤ p1) → Q 1))) ∧ ((p0 = (-2) → ((p1 = 0 → Q 0) ∧ (¬ (p1 = 0) → ((p2 = 0 → Q 0) ∧ (¬ (p2 = 0) → Q 1))))) ∧ ((p0 = (-1) → ((¬ p1 = 0 → Q 1) ∧ (p1 = 0 → ((p2 = 0 → Q 0) ∧ (¬ (p2 = 0) → Q 1))))) ∧ (¬ p0 = (-8) ∧ ¬ p0 = (-7) ∧ ¬ p0 = (-6) ∧ ¬ p0 = (-5) ∧ ¬ p0 = (-4) ∧ ¬ p0 = (-3) ∧ ¬ p0 = (-2) ∧ ¬ p0 = (-1) → ((¬ p2 = 0 → (¬ p2 = 0 ∧ Q (p1 / p2))) ∧ (p2 = 0 → Q 0)))))))))))
set_option maxHeartbeats 4000000 in
set_option maxRecDepth 100000 in
theorem c_X7_two (l : Launch) (E : gE)  (sz : Nat)  (p0 p1 p2 : Int32)  (Q : Int32 → Prop) (h : wp_X7_two p0 p1 p2 Q) : Met l yX7_two wsX7_two ({ frames := 0, cells := 0, slots := 0, locals := 0 } : Room) (va_Pc [.int p0, .int p1, .int p2] (rc_B E ([]) sz)) (va_Qi (S := Unit) (fun (r : Int32) (u : Unit) => Q r) (fun u t => rc_C E (va_A ([]) sz) ([]) t) (va_A ([]) sz)) 0 0 (va_A ([]) sz) := by
  refine rc_enterI (cc := cX7_two) (maxL := 3) (by decide) rfl (Nat.le_of_ble_eq_true rfl) ?_
  intro p e s m args below meth c QQ A hx hb hml hown hts hmn hE hP hD hA hret ls hl
  have hown : s.vm.findClass RX7 = some m.cls := hown
  have hK := hE.1
  have hS : va_S A s.heap s.heap [] := va_S.rf
  have hl : lv_has ls 3 [(0, .int p0), (1, .int p1), (2, .int p2)] := hl
  unfold wp_X7_two at h
  obtain ⟨H, hH⟩ : ∃ H, H = s.heap := ⟨_, rfl⟩
  obtain ⟨locs, hlocs⟩ : ∃ locs : List Loc, locs = [] := ⟨_, rfl⟩
  have hP : va_P E.1 vwCl ([]) H := by rw [hH]; exact hP
  have hS : va_S A s.heap H locs := by rw [hH, hlocs]; exact hS
  suffices hgo : W p l e ({ frames := 0, cells := 0, slots := 0, locals := 0 } : Room) s m args below meth c H locs 0 0 QQ (F0 m 0 ls []) from by rw [hH, hlocs] at hgo; exact hgo
  refine lv_iload_n hx hb dX7_two_0 rfl (lv_at hl 0 rfl) ?_
  by_cases c_1_0 : p0 = (-8)
  · have h := h.1 c_1_0
    refine lv_tableIn (tgt := 117) hx hb dX7_two_1 (by rw [c_1_0]; decide) (by rw [c_1_0]; decide) (by rw [c_1_0]; rfl) (by decide) ?_
    refine lv_iload_n hx hb dX7_two_117 rfl (lv_at hl 1 rfl) ?_
    refine lv_iload_n hx hb dX7_two_118 rfl (lv_at hl 2 rfl) ?_
    refine lv_imul hx hb dX7_two_119 ?_
    exact hret _ _ _ _ (p1 * p2) () rfl h hP hD hS dX7_two_120
  · by_cases c_1_1 : p0 = (-7)
    · have h := h.2.1 c_1_1
      refine lv_tableIn (tgt := 113) hx hb dX7_two_1 (by rw [c_1_1]; decide) (by rw [c_1_1]; decide) (by rw [c_1_1]; rfl) (by decide) ?_
      refine lv_iload_n hx hb dX7_two_113 rfl (lv_at hl 1 rfl) ?_
      refine lv_iload_n hx hb dX7_two_114 rfl (lv_at hl 2 rfl) ?_
      refine lv_isub hx hb dX7_two_115 ?_
      exact hret _ _ _ _ (p1 - p2) () rfl h hP hD hS dX7_two_116
    · by_cases c_1_2 : p0 = (-6)
      · have h := h.2.2.1 c_1_2
        refine lv_tableIn (tgt := 109) hx hb dX7_two_1 (by rw [c_1_2]; decide) (by rw [c_1_2]; decide) (by rw [c_1_2]; rfl) (by decide) ?_
        refine lv_iload_n hx hb dX7_two_109 rfl (lv_at hl 1 rfl) ?_
        refine lv_iload_n hx hb dX7_two_110 rfl (lv_at hl 2 rfl) ?_
        refine lv_iadd hx hb dX7_two_111 ?_
        exact hret _ _ _ _ (p1 + p2) () rfl h hP hD hS dX7_two_112
      · by_cases c_1_3 : p0 = (-5)
        · have h := h.2.2.2.1 c_1_3
          refine lv_tableIn (tgt := 98) hx hb dX7_two_1 (by rw [c_1_3]; decide) (by rw [c_1_3]; decide) (by rw [c_1_3]; rfl) (by decide) ?_
          refine lv_iload_n hx hb dX7_two_98 rfl (lv_at hl 1 rfl) ?_
          refine lv_iload_n hx hb dX7_two_99 rfl (lv_at hl 2 rfl) ?_
          refine lv_icmp_le (tgt := 107) hx hb dX7_two_100 (by decide) (fun c_2 => ?_) (fun c_2 => ?_)
          · have h := h.1 c_2
            refine lv_iconst (v := 0) hx hb dX7_two_107 (by decide) ?_
            exact hret _ _ _ _ 0 () rfl h hP hD hS dX7_two_108
          · have h := h.2 c_2
            refine lv_iconst (v := 1) hx hb dX7_two_103 (by decide) ?_
            refine lv_goto (tgt := 108) hx hb dX7_two_104 (by decide) ?_
            exact hret _ _ _ _ 1 () rfl h hP hD hS dX7_two_108
        · by_cases c_1_4 : p0 = (-4)
          · have h := h.2.2.2.2.1 c_1_4
            refine lv_tableIn (tgt := 87) hx hb dX7_two_1 (by rw [c_1_4]; decide) (by rw [c_1_4]; decide) (by rw [c_1_4]; rfl) (by decide) ?_
            refine lv_iload_n hx hb dX7_two_87 rfl (lv_at hl 1 rfl) ?_
            refine lv_iload_n hx hb dX7_two_88 rfl (lv_at hl 2 rfl) ?_
            refine lv_icmp_ne (tgt := 96) hx hb dX7_two_89 (by decide) (fun c_3 => ?_) (fun c_3 => ?_)
            · have h := h.1 c_3
              refine lv_iconst (v := 0) hx hb dX7_two_96 (by decide) ?_
              exact hret _ _ _ _ 0 () rfl h hP hD hS dX7_two_97
            · have h := h.2 c_3
              refine lv_iconst (v := 1) hx hb dX7_two_92 (by decide) ?_
              refine lv_goto (tgt := 97) hx hb dX7_two_93 (by decide) ?_
              exact hret _ _ _ _ 1 () rfl h hP hD hS dX7_two_97
          · by_cases c_1_5 : p0 = (-3)
            · have h := h.2.2.2.2.2.1 c_1_5
              refine lv_tableIn (tgt := 76) hx hb dX7_two_1 (by rw [c_1_5]; decide) (by rw [c_1_5]; decide) (by rw [c_1_5]; rfl) (by decide) ?_
              refine lv_iload_n hx hb dX7_two_76 rfl (lv_at hl 1 rfl) ?_
              refine lv_iload_n hx hb dX7_two_77 rfl (lv_at hl 2 rfl) ?_
              refine lv_icmp_ge (tgt := 85) hx hb dX7_two_78 (by decide) (fun c_4 => ?_) (fun c_4 => ?_)
              · have h := h.1 c_4
                refine lv_iconst (v := 0) hx hb dX7_two_85 (by decide) ?_
                exact hret _ _ _ _ 0 () rfl h hP hD hS dX7_two_86
              · have h := h.2 c_4
                refine lv_iconst (v := 1) hx hb dX7_two_81 (by decide) ?_
                refine lv_goto (tgt := 86) hx hb dX7_two_82 (by decide) ?_
                exact hret _ _ _ _ 1 () rfl h hP hD hS dX7_two_86
            · by_cases c_1_6 : p0 = (-2)
              · have h := h.2.2.2.2.2.2.1 c_1_6
                refine lv_tableIn (tgt := 62) hx hb dX7_two_1 (by rw [c_1_6]; decide) (by rw [c_1_6]; decide) (by rw [c_1_6]; rfl) (by decide) ?_
                refine lv_iload_n hx hb dX7_two_62 rfl (lv_at hl 1 rfl) ?_
                refine lv_if_eq (tgt := 74) hx hb dX7_two_63 (by decide) (fun c_5 => ?_) (fun c_5 => ?_)
                · have h := h.1 c_5
                  refine lv_iconst (v := 0) hx hb dX7_two_74 (by decide) ?_
                  exact hret _ _ _ _ 0 () rfl h hP hD hS dX7_two_75
                · have h := h.2 c_5
                  refine lv_iload_n hx hb dX7_two_66 rfl (lv_at hl 2 rfl) ?_
                  refine lv_if_eq (tgt := 74) hx hb dX7_two_67 (by decide) (fun c_6 => ?_) (fun c_6 => ?_)
                  · have h := h.1 c_6
                    refine lv_iconst (v := 0) hx hb dX7_two_74 (by decide) ?_
                    exact hret _ _ _ _ 0 () rfl h hP hD hS dX7_two_75
                  · have h := h.2 c_6
                    refine lv_iconst (v := 1) hx hb dX7_two_70 (by decide) ?_
                    refine lv_goto (tgt := 75) hx hb dX7_two_71 (by decide) ?_
                    exact hret _ _ _ _ 1 () rfl h hP hD hS dX7_two_75
              · by_cases c_1_7 : p0 = (-1)
                · have h := h.2.2.2.2.2.2.2.1 c_1_7
                  refine lv_tableIn (tgt := 48) hx hb dX7_two_1 (by rw [c_1_7]; decide) (by rw [c_1_7]; decide) (by rw [c_1_7]; rfl) (by decide) ?_
                  refine lv_iload_n hx hb dX7_two_48 rfl (lv_at hl 1 rfl) ?_
                  refine lv_if_ne (tgt := 56) hx hb dX7_two_49 (by decide) (fun c_7 => ?_) (fun c_7 => ?_)
                  · have h := h.1 c_7
                    refine lv_iconst (v := 1) hx hb dX7_two_56 (by decide) ?_
                    refine lv_goto (tgt := 61) hx hb dX7_two_57 (by decide) ?_
                    exact hret _ _ _ _ 1 () rfl h hP hD hS dX7_two_61
                  · have h := h.2 c_7
                    refine lv_iload_n hx hb dX7_two_52 rfl (lv_at hl 2 rfl) ?_
                    refine lv_if_eq (tgt := 60) hx hb dX7_two_53 (by decide) (fun c_8 => ?_) (fun c_8 => ?_)
                    · have h := h.1 c_8
                      refine lv_iconst (v := 0) hx hb dX7_two_60 (by decide) ?_
                      exact hret _ _ _ _ 0 () rfl h hP hD hS dX7_two_61
                    · have h := h.2 c_8
                      refine lv_iconst (v := 1) hx hb dX7_two_56 (by decide) ?_
                      refine lv_goto (tgt := 61) hx hb dX7_two_57 (by decide) ?_
                      exact hret _ _ _ _ 1 () rfl h hP hD hS dX7_two_61
                · have h := h.2.2.2.2.2.2.2.2 ⟨c_1_0, c_1_1, c_1_2, c_1_3, c_1_4, c_1_5, c_1_6, c_1_7⟩
                  refine lv_tableOut (tgt := 121) hx hb dX7_two_1 (rc_swo (-8) 8 (fun k hk => by match k, hk with | 0, _ => exact lv_neT c_1_0 (by decide) | 1, _ => exact lv_neT c_1_1 (by decide) | 2, _ => exact lv_neT c_1_2 (by decide) | 3, _ => exact lv_neT c_1_3 (by decide) | 4, _ => exact lv_neT c_1_4 (by decide) | 5, _ => exact lv_neT c_1_5 (by decide) | 6, _ => exact lv_neT c_1_6 (by decide) | 7, _ => exact lv_neT c_1_7 (by decide))) (by decide) ?_
                  refine lv_iload_n hx hb dX7_two_121 rfl (lv_at hl 2 rfl) ?_
                  refine lv_if_ne (tgt := 129) hx hb dX7_two_122 (by decide) (fun c_9 => ?_) (fun c_9 => ?_)
                  · have h := h.1 c_9
                    refine lv_iload_n hx hb dX7_two_129 rfl (lv_at hl 1 rfl) ?_
                    refine lv_iload_n hx hb dX7_two_130 rfl (lv_at hl 2 rfl) ?_
                    obtain ⟨z_10, h⟩ := h
                    refine lv_idiv hx hb dX7_two_131 z_10 ?_
                    exact hret _ _ _ _ (p1 / p2) () rfl h hP hD hS dX7_two_132
                  · have h := h.2 c_9
                    refine lv_iconst (v := 0) hx hb dX7_two_125 (by decide) ?_
                    refine lv_goto (tgt := 132) hx hb dX7_two_126 (by decide) ?_
                    exact hret _ _ _ _ 0 () rfl h hP hD hS dX7_two_132
def wp_X7_isSheet (p0 : Int32) (Q : Int32 → Prop) : Prop :=
  wp_X7_in p0 0 3 (fun (r_1 : Int32) => (narrow .boolean (.int r_1) = .int r_1 ∧ Q r_1))
set_option maxHeartbeats 4000000 in
set_option maxRecDepth 100000 in
theorem c_X7_isSheet (l : Launch) (E : gE)  (sz : Nat)  (p0 : Int32)  (Q : Int32 → Prop) (h : wp_X7_isSheet p0 Q) : Met l yX7_isSheet wsX7_isSheet ({ frames := 1, cells := 0, slots := 0, locals := 22 } : Room) (va_Pc [.int p0] (rc_B E ([]) sz)) (va_Qi (S := Unit) (fun (r : Int32) (u : Unit) => Q r) (fun u t => rc_C E (va_A ([]) sz) ([]) t) (va_A ([]) sz)) 0 0 (va_A ([]) sz) := by
  refine rc_enterI (cc := cX7_isSheet) (maxL := 1) (by decide) rfl (Nat.le_of_ble_eq_true rfl) ?_
  intro p e s m args below meth c QQ A hx hb hml hown hts hmn hE hP hD hA hret ls hl
  have hown : s.vm.findClass RX7 = some m.cls := hown
  have hK := hE.1
  have hS : va_S A s.heap s.heap [] := va_S.rf
  have hl : lv_has ls 1 [(0, .int p0)] := hl
  unfold wp_X7_isSheet at h
  obtain ⟨H, hH⟩ : ∃ H, H = s.heap := ⟨_, rfl⟩
  obtain ⟨locs, hlocs⟩ : ∃ locs : List Loc, locs = [] := ⟨_, rfl⟩
  have hP : va_P E.1 vwCl ([]) H := by rw [hH]; exact hP
  have hS : va_S A s.heap H locs := by rw [hH, hlocs]; exact hS
  suffices hgo : W p l e ({ frames := 1, cells := 0, slots := 0, locals := 22 } : Room) s m args below meth c H locs 0 0 QQ (F0 m 0 ls []) from by rw [hH, hlocs] at hgo; exact hgo
  refine lv_iload_n hx hb dX7_isSheet_0 rfl (lv_at hl 0 rfl) ?_
  refine lv_iconst (v := 0) hx hb dX7_isSheet_1 (by decide) ?_
  refine lv_iconst (v := 3) hx hb dX7_isSheet_2 (by decide) ?_
  have hPc := hP
  have hDc := hD
  have hFc := rc_freeI hD hS hA
  refine va_calli (va_runS (As := [.int p0, .int 0, .int 3]) (rest := []) ⟨hx, hb, hml, hown, hts⟩ (c_X7_in l E H.size p0 0 3 _ h) (va_cwS 3 hts gX7_isSheet_X7_in rfl rfl rfl (by decide +kernel) ⟨Nat.le_of_ble_eq_true rfl, Nat.le_of_ble_eq_true rfl⟩) ⟨fun a U g mk q => ⟨q.1, q.2.blind⟩, fun U hU hW => ⟨rfl, by rw [hU], by rw [hU]; exact hPc, hE.call hS hFc hW hU, hDc.weaken (fun _ _ _ _ => trivial)⟩⟩ rfl rfl hl.1 rfl (lv_room (Nat.le_of_ble_eq_true rfl)) dX7_isSheet_3 ⟨Nat.zero_le _, Nat.zero_le _⟩) hS (fun q _ h => hFc q h) hFc (fun r_1 u t H1 locs ht hvm h hB hz1 hk1 hS => ?_)
  obtain ⟨hP1, hD1⟩ := hB
  rw [ht] at hP1
  have hP := hP1
  have hD := hD1.weaken (fun _ _ _ h => hFc _ h)
  generalize H1 = H at hP hS ⊢
  have hP : va_P E.1 vwCl ([]) H := hP
  have hD : va_D A ([]) := hD
  obtain ⟨b_2, h⟩ := h
  exact hret _ _ _ _ r_1 () b_2 h hP hD hS dX7_isSheet_6
def wp_X7_isSlot (p0 : Int32) (Q : Int32 → Prop) : Prop :=
  wp_X7_in p0 0 4 (fun (r_1 : Int32) => (narrow .boolean (.int r_1) = .int r_1 ∧ Q r_1))
set_option maxHeartbeats 4000000 in
set_option maxRecDepth 100000 in
theorem c_X7_isSlot (l : Launch) (E : gE)  (sz : Nat)  (p0 : Int32)  (Q : Int32 → Prop) (h : wp_X7_isSlot p0 Q) : Met l yX7_isSlot wsX7_isSlot ({ frames := 1, cells := 0, slots := 0, locals := 22 } : Room) (va_Pc [.int p0] (rc_B E ([]) sz)) (va_Qi (S := Unit) (fun (r : Int32) (u : Unit) => Q r) (fun u t => rc_C E (va_A ([]) sz) ([]) t) (va_A ([]) sz)) 0 0 (va_A ([]) sz) := by
  refine rc_enterI (cc := cX7_isSlot) (maxL := 1) (by decide) rfl (Nat.le_of_ble_eq_true rfl) ?_
  intro p e s m args below meth c QQ A hx hb hml hown hts hmn hE hP hD hA hret ls hl
  have hown : s.vm.findClass RX7 = some m.cls := hown
  have hK := hE.1
  have hS : va_S A s.heap s.heap [] := va_S.rf
  have hl : lv_has ls 1 [(0, .int p0)] := hl
  unfold wp_X7_isSlot at h
  obtain ⟨H, hH⟩ : ∃ H, H = s.heap := ⟨_, rfl⟩
  obtain ⟨locs, hlocs⟩ : ∃ locs : List Loc, locs = [] := ⟨_, rfl⟩
  have hP : va_P E.1 vwCl ([]) H := by rw [hH]; exact hP
  have hS : va_S A s.heap H locs := by rw [hH, hlocs]; exact hS
  suffices hgo : W p l e ({ frames := 1, cells := 0, slots := 0, locals := 22 } : Room) s m args below meth c H locs 0 0 QQ (F0 m 0 ls []) from by rw [hH, hlocs] at hgo; exact hgo
  refine lv_iload_n hx hb dX7_isSlot_0 rfl (lv_at hl 0 rfl) ?_
  refine lv_iconst (v := 0) hx hb dX7_isSlot_1 (by decide) ?_
  refine lv_iconst (v := 4) hx hb dX7_isSlot_2 (by decide) ?_
  have hPc := hP
  have hDc := hD
  have hFc := rc_freeI hD hS hA
  refine va_calli (va_runS (As := [.int p0, .int 0, .int 4]) (rest := []) ⟨hx, hb, hml, hown, hts⟩ (c_X7_in l E H.size p0 0 4 _ h) (va_cwS 3 hts gX7_isSlot_X7_in rfl rfl rfl (by decide +kernel) ⟨Nat.le_of_ble_eq_true rfl, Nat.le_of_ble_eq_true rfl⟩) ⟨fun a U g mk q => ⟨q.1, q.2.blind⟩, fun U hU hW => ⟨rfl, by rw [hU], by rw [hU]; exact hPc, hE.call hS hFc hW hU, hDc.weaken (fun _ _ _ _ => trivial)⟩⟩ rfl rfl hl.1 rfl (lv_room (Nat.le_of_ble_eq_true rfl)) dX7_isSlot_3 ⟨Nat.zero_le _, Nat.zero_le _⟩) hS (fun q _ h => hFc q h) hFc (fun r_1 u t H1 locs ht hvm h hB hz1 hk1 hS => ?_)
  obtain ⟨hP1, hD1⟩ := hB
  rw [ht] at hP1
  have hP := hP1
  have hD := hD1.weaken (fun _ _ _ h => hFc _ h)
  generalize H1 = H at hP hS ⊢
  have hP : va_P E.1 vwCl ([]) H := hP
  have hD : va_D A ([]) := hD
  obtain ⟨b_2, h⟩ := h
  exact hret _ _ _ _ r_1 () b_2 h hP hD hS dX7_isSlot_6
