def wp_X2_isMissing (wSo : Int32) (Q : Int32 → Prop) : Prop :=
  ((¬ wSo = (-1) → Q 0) ∧ (wSo = (-1) → Q 1))
set_option maxHeartbeats 4000000 in
set_option maxRecDepth 100000 in
theorem c_X2_isMissing (l : Launch) (E : gE) (wo wv : Nat) (sz : Nat) (wSo : Int32) (wSz : Int32) (wVl : Nat → Int32)   (Q : Int32 → Prop) (h : wp_X2_isMissing wSo Q) : Met l yX2_isMissing wsX2_isMissing ({ frames := 0, cells := 0, slots := 0, locals := 0 } : Room) (va_Pc [.ref wo] (rc_B E (rw_1 E wo wv wSo wSz wVl) sz)) (va_Qi (S := Unit) (fun (r : Int32) (u : Unit) => Q r) (fun u t => rc_C E (va_A (rw_1 E wo wv wSo wSz wVl) sz) (rw_1 E wo wv wSo wSz wVl) t) (va_A (rw_1 E wo wv wSo wSz wVl) sz)) 0 0 (va_A (rw_1 E wo wv wSo wSz wVl) sz) := by
  refine rc_enterI (cc := cX2_isMissing) (maxL := 1) (by decide) rfl (Nat.le_of_ble_eq_true rfl) ?_
  intro p e s m args below meth c QQ A hx hb hml hown hts hmn hE hP hD hA hret ls hl
  have hown : s.vm.findClass RX2 = some m.cls := hown
  have hK := hE.1
  have hS : va_S A s.heap s.heap [] := va_S.rf
  have hl : lv_has ls 1 [(0, .ref wo)] := hl
  have n_X2 : ∀ w ∈ wsX20, w ∈ wsX2_isMissing := fun _ h => List.mem_cons_of_mem _ (List.mem_append_right _ h)
  have k_9 := hts (.fieldLink RX2 9 "RidgeClaps$Row" "sort" "I") (List.mem_of_getElem? (i := 1) rfl)
  unfold wp_X2_isMissing at h
  obtain ⟨H, hH⟩ : ∃ H, H = s.heap := ⟨_, rfl⟩
  obtain ⟨locs, hlocs⟩ : ∃ locs : List Loc, locs = [] := ⟨_, rfl⟩
  have hP : va_P E.1 vwCl (rw_1 E wo wv wSo wSz wVl) H := by rw [hH]; exact hP
  have hS : va_S A s.heap H locs := by rw [hH, hlocs]; exact hS
  suffices hgo : W p l e ({ frames := 0, cells := 0, slots := 0, locals := 0 } : Room) s m args below meth c H locs 0 0 QQ (F0 m 0 ls []) from by rw [hH, hlocs] at hgo; exact hgo
  refine lv_aload_n hx hb dX2_isMissing_0 rfl (lv_at hl 0 rfl) ?_
  refine va_get (D := E.1) (ci := 2) (v := .int wSo) (C := RX2) (T := TX2) (N := 3) hx hb hts n_X2 hown hK hP 0 rfl rfl 0 (by decide) k_9 (fun _ h9 => h9) rfl dX2_isMissing_1 ?_
  refine lv_iconst (v := (-1)) hx hb dX2_isMissing_4 (by decide) ?_
  refine lv_icmp_ne (tgt := 12) hx hb dX2_isMissing_5 (by decide) (fun c_1 => ?_) (fun c_1 => ?_)
  · have h := h.1 c_1
    refine lv_iconst (v := 0) hx hb dX2_isMissing_12 (by decide) ?_
    exact hret _ _ _ _ 0 () (by decide) h hP hD hS dX2_isMissing_13
  · have h := h.2 c_1
    refine lv_iconst (v := 1) hx hb dX2_isMissing_8 (by decide) ?_
    refine lv_goto (tgt := 13) hx hb dX2_isMissing_9 (by decide) ?_
    exact hret _ _ _ _ 1 () (by decide) h hP hD hS dX2_isMissing_13
def wp_X2_has (p1 : Int32) (wSz : Int32) (Q : Int32 → Prop) : Prop :=
  ((p1 < 0 → Q 0) ∧ (¬ (p1 < 0) → ((wSz ≤ p1 → Q 0) ∧ (¬ (wSz ≤ p1) → Q 1))))
set_option maxHeartbeats 4000000 in
set_option maxRecDepth 100000 in
theorem c_X2_has (l : Launch) (E : gE) (wo wv : Nat) (sz : Nat) (wSo : Int32) (wSz : Int32) (wVl : Nat → Int32) (p1 : Int32)  (Q : Int32 → Prop) (h : wp_X2_has p1 wSz Q) : Met l yX2_has wsX2_has ({ frames := 0, cells := 0, slots := 0, locals := 0 } : Room) (va_Pc [.ref wo, .int p1] (rc_B E (rw_1 E wo wv wSo wSz wVl) sz)) (va_Qi (S := Unit) (fun (r : Int32) (u : Unit) => Q r) (fun u t => rc_C E (va_A (rw_1 E wo wv wSo wSz wVl) sz) (rw_1 E wo wv wSo wSz wVl) t) (va_A (rw_1 E wo wv wSo wSz wVl) sz)) 0 0 (va_A (rw_1 E wo wv wSo wSz wVl) sz) := by
  refine rc_enterI (cc := cX2_has) (maxL := 2) (by decide) rfl (Nat.le_of_ble_eq_true rfl) ?_
  intro p e s m args below meth c QQ A hx hb hml hown hts hmn hE hP hD hA hret ls hl
  have hown : s.vm.findClass RX2 = some m.cls := hown
  have hK := hE.1
  have hS : va_S A s.heap s.heap [] := va_S.rf
  have hl : lv_has ls 2 [(0, .ref wo), (1, .int p1)] := hl
  have n_X2 : ∀ w ∈ wsX20, w ∈ wsX2_has := fun _ h => List.mem_cons_of_mem _ (List.mem_append_right _ h)
  have k_15 := hts (.fieldLink RX2 15 "RidgeClaps$Row" "size" "I") (List.mem_of_getElem? (i := 1) rfl)
  unfold wp_X2_has at h
  obtain ⟨H, hH⟩ : ∃ H, H = s.heap := ⟨_, rfl⟩
  obtain ⟨locs, hlocs⟩ : ∃ locs : List Loc, locs = [] := ⟨_, rfl⟩
  have hP : va_P E.1 vwCl (rw_1 E wo wv wSo wSz wVl) H := by rw [hH]; exact hP
  have hS : va_S A s.heap H locs := by rw [hH, hlocs]; exact hS
  suffices hgo : W p l e ({ frames := 0, cells := 0, slots := 0, locals := 0 } : Room) s m args below meth c H locs 0 0 QQ (F0 m 0 ls []) from by rw [hH, hlocs] at hgo; exact hgo
  refine lv_iload_n hx hb dX2_has_0 rfl (lv_at hl 1 rfl) ?_
  refine lv_if_lt (tgt := 16) hx hb dX2_has_1 (by decide) (fun c_1 => ?_) (fun c_1 => ?_)
  · have h := h.1 c_1
    refine lv_iconst (v := 0) hx hb dX2_has_16 (by decide) ?_
    exact hret _ _ _ _ 0 () (by decide) h hP hD hS dX2_has_17
  · have h := h.2 c_1
    refine lv_iload_n hx hb dX2_has_4 rfl (lv_at hl 1 rfl) ?_
    refine lv_aload_n hx hb dX2_has_5 rfl (lv_at hl 0 rfl) ?_
    refine va_get (D := E.1) (ci := 2) (v := .int wSz) (C := RX2) (T := TX2) (N := 3) hx hb hts n_X2 hown hK hP 0 rfl rfl 1 (by decide) k_15 (fun _ h9 => h9) rfl dX2_has_6 ?_
    refine lv_icmp_ge (tgt := 16) hx hb dX2_has_9 (by decide) (fun c_2 => ?_) (fun c_2 => ?_)
    · have h := h.1 c_2
      refine lv_iconst (v := 0) hx hb dX2_has_16 (by decide) ?_
      exact hret _ _ _ _ 0 () (by decide) h hP hD hS dX2_has_17
    · have h := h.2 c_2
      refine lv_iconst (v := 1) hx hb dX2_has_12 (by decide) ?_
      refine lv_goto (tgt := 17) hx hb dX2_has_13 (by decide) ?_
      exact hret _ _ _ _ 1 () (by decide) h hP hD hS dX2_has_17
def wp_X2_hasStretch (p1 : Int32) (p2 : Int32) (wSz : Int32) (Q : Int32 → Prop) : Prop :=
  ((p2 < 0 → Q 0) ∧ (¬ (p2 < 0) → ((p1 < 0 → Q 0) ∧ (¬ (p1 < 0) → ((wSz < p1 → Q 0) ∧ (¬ (wSz < p1) → (((wSz - p1) < p2 → Q 0) ∧ (¬ ((wSz - p1) < p2) → Q 1))))))))
set_option maxHeartbeats 4000000 in
set_option maxRecDepth 100000 in
theorem c_X2_hasStretch (l : Launch) (E : gE) (wo wv : Nat) (sz : Nat) (wSo : Int32) (wSz : Int32) (wVl : Nat → Int32) (p1 p2 : Int32)  (Q : Int32 → Prop) (h : wp_X2_hasStretch p1 p2 wSz Q) : Met l yX2_hasStretch wsX2_hasStretch ({ frames := 0, cells := 0, slots := 0, locals := 0 } : Room) (va_Pc [.ref wo, .int p1, .int p2] (rc_B E (rw_1 E wo wv wSo wSz wVl) sz)) (va_Qi (S := Unit) (fun (r : Int32) (u : Unit) => Q r) (fun u t => rc_C E (va_A (rw_1 E wo wv wSo wSz wVl) sz) (rw_1 E wo wv wSo wSz wVl) t) (va_A (rw_1 E wo wv wSo wSz wVl) sz)) 0 0 (va_A (rw_1 E wo wv wSo wSz wVl) sz) := by
  refine rc_enterI (cc := cX2_hasStretch) (maxL := 3) (by decide) rfl (Nat.le_of_ble_eq_true rfl) ?_
  intro p e s m args below meth c QQ A hx hb hml hown hts hmn hE hP hD hA hret ls hl
  have hown : s.vm.findClass RX2 = some m.cls := hown
  have hK := hE.1
  have hS : va_S A s.heap s.heap [] := va_S.rf
  have hl : lv_has ls 3 [(0, .ref wo), (1, .int p1), (2, .int p2)] := hl
  have n_X2 : ∀ w ∈ wsX20, w ∈ wsX2_hasStretch := fun _ h => List.mem_cons_of_mem _ (List.mem_append_right _ h)
  have k_15 := hts (.fieldLink RX2 15 "RidgeClaps$Row" "size" "I") (List.mem_of_getElem? (i := 1) rfl)
  unfold wp_X2_hasStretch at h
  obtain ⟨H, hH⟩ : ∃ H, H = s.heap := ⟨_, rfl⟩
  obtain ⟨locs, hlocs⟩ : ∃ locs : List Loc, locs = [] := ⟨_, rfl⟩
  have hP : va_P E.1 vwCl (rw_1 E wo wv wSo wSz wVl) H := by rw [hH]; exact hP
  have hS : va_S A s.heap H locs := by rw [hH, hlocs]; exact hS
  suffices hgo : W p l e ({ frames := 0, cells := 0, slots := 0, locals := 0 } : Room) s m args below meth c H locs 0 0 QQ (F0 m 0 ls []) from by rw [hH, hlocs] at hgo; exact hgo
  refine lv_iload_n hx hb dX2_hasStretch_0 rfl (lv_at hl 2 rfl) ?_
  refine lv_if_lt (tgt := 30) hx hb dX2_hasStretch_1 (by decide) (fun c_1 => ?_) (fun c_1 => ?_)
  · have h := h.1 c_1
    refine lv_iconst (v := 0) hx hb dX2_hasStretch_30 (by decide) ?_
    exact hret _ _ _ _ 0 () (by decide) h hP hD hS dX2_hasStretch_31
  · have h := h.2 c_1
    refine lv_iload_n hx hb dX2_hasStretch_4 rfl (lv_at hl 1 rfl) ?_
    refine lv_if_lt (tgt := 30) hx hb dX2_hasStretch_5 (by decide) (fun c_2 => ?_) (fun c_2 => ?_)
    · have h := h.1 c_2
      refine lv_iconst (v := 0) hx hb dX2_hasStretch_30 (by decide) ?_
      exact hret _ _ _ _ 0 () (by decide) h hP hD hS dX2_hasStretch_31
    · have h := h.2 c_2
      refine lv_iload_n hx hb dX2_hasStretch_8 rfl (lv_at hl 1 rfl) ?_
      refine lv_aload_n hx hb dX2_hasStretch_9 rfl (lv_at hl 0 rfl) ?_
      refine va_get (D := E.1) (ci := 2) (v := .int wSz) (C := RX2) (T := TX2) (N := 3) hx hb hts n_X2 hown hK hP 0 rfl rfl 1 (by decide) k_15 (fun _ h9 => h9) rfl dX2_hasStretch_10 ?_
      refine lv_icmp_gt (tgt := 30) hx hb dX2_hasStretch_13 (by decide) (fun c_3 => ?_) (fun c_3 => ?_)
      · have h := h.1 c_3
        refine lv_iconst (v := 0) hx hb dX2_hasStretch_30 (by decide) ?_
        exact hret _ _ _ _ 0 () (by decide) h hP hD hS dX2_hasStretch_31
      · have h := h.2 c_3
        refine lv_iload_n hx hb dX2_hasStretch_16 rfl (lv_at hl 2 rfl) ?_
        refine lv_aload_n hx hb dX2_hasStretch_17 rfl (lv_at hl 0 rfl) ?_
        refine va_get (D := E.1) (ci := 2) (v := .int wSz) (C := RX2) (T := TX2) (N := 3) hx hb hts n_X2 hown hK hP 0 rfl rfl 1 (by decide) k_15 (fun _ h9 => h9) rfl dX2_hasStretch_18 ?_
        refine lv_iload_n hx hb dX2_hasStretch_21 rfl (lv_at hl 1 rfl) ?_
        refine lv_isub hx hb dX2_hasStretch_22 ?_
        refine lv_icmp_gt (tgt := 30) hx hb dX2_hasStretch_23 (by decide) (fun c_4 => ?_) (fun c_4 => ?_)
        · have h := h.1 c_4
          refine lv_iconst (v := 0) hx hb dX2_hasStretch_30 (by decide) ?_
          exact hret _ _ _ _ 0 () (by decide) h hP hD hS dX2_hasStretch_31
        · have h := h.2 c_4
          refine lv_iconst (v := 1) hx hb dX2_hasStretch_26 (by decide) ?_
          refine lv_goto (tgt := 31) hx hb dX2_hasStretch_27 (by decide) ?_
          exact hret _ _ _ _ 1 () (by decide) h hP hD hS dX2_hasStretch_31
def wp_X2_isNumber (p1 : Int32) (wVl : Nat → Int32) (Q : Int32 → Prop) : Prop :=
  (vp_in p1 24 ∧ (((wVl p1.toNatClampNeg) = (-1000000005) → Q 0) ∧ (¬ ((wVl p1.toNatClampNeg) = (-1000000005)) → Q 1)))
set_option maxHeartbeats 4000000 in
set_option maxRecDepth 100000 in
theorem c_X2_isNumber (l : Launch) (E : gE) (wo wv : Nat) (sz : Nat) (wSo : Int32) (wSz : Int32) (wVl : Nat → Int32) (p1 : Int32)  (Q : Int32 → Prop) (h : wp_X2_isNumber p1 wVl Q) : Met l yX2_isNumber wsX2_isNumber ({ frames := 0, cells := 0, slots := 0, locals := 0 } : Room) (va_Pc [.ref wo, .int p1] (rc_B E (rw_1 E wo wv wSo wSz wVl) sz)) (va_Qi (S := Unit) (fun (r : Int32) (u : Unit) => Q r) (fun u t => rc_C E (va_A (rw_1 E wo wv wSo wSz wVl) sz) (rw_1 E wo wv wSo wSz wVl) t) (va_A (rw_1 E wo wv wSo wSz wVl) sz)) 0 0 (va_A (rw_1 E wo wv wSo wSz wVl) sz) := by
  refine rc_enterI (cc := cX2_isNumber) (maxL := 2) (by decide) rfl (Nat.le_of_ble_eq_true rfl) ?_
  intro p e s m args below meth c QQ A hx hb hml hown hts hmn hE hP hD hA hret ls hl
  have hown : s.vm.findClass RX2 = some m.cls := hown
  have hK := hE.1
  have hS : va_S A s.heap s.heap [] := va_S.rf
  have hl : lv_has ls 2 [(0, .ref wo), (1, .int p1)] := hl
  have n_X2 : ∀ w ∈ wsX20, w ∈ wsX2_isNumber := fun _ h => List.mem_cons_of_mem _ (List.mem_append_right _ h)
  have k_18 := hts (.fieldLink RX2 18 "RidgeClaps$Row" "values" "[I") (List.mem_of_getElem? (i := 1) rfl)
  have k_22 := hts (.constant RX2 22 (-1000000005)) (List.mem_of_getElem? (i := 2) rfl)
  unfold wp_X2_isNumber at h
  obtain ⟨H, hH⟩ : ∃ H, H = s.heap := ⟨_, rfl⟩
  obtain ⟨locs, hlocs⟩ : ∃ locs : List Loc, locs = [] := ⟨_, rfl⟩
  have hP : va_P E.1 vwCl (rw_1 E wo wv wSo wSz wVl) H := by rw [hH]; exact hP
  have hS : va_S A s.heap H locs := by rw [hH, hlocs]; exact hS
  suffices hgo : W p l e ({ frames := 0, cells := 0, slots := 0, locals := 0 } : Room) s m args below meth c H locs 0 0 QQ (F0 m 0 ls []) from by rw [hH, hlocs] at hgo; exact hgo
  refine lv_aload_n hx hb dX2_isNumber_0 rfl (lv_at hl 0 rfl) ?_
  refine va_get (D := E.1) (ci := 2) (v := .ref wv) (C := RX2) (T := TX2) (N := 3) hx hb hts n_X2 hown hK hP 0 rfl rfl 2 (by decide) k_18 (fun _ h9 => h9) rfl dX2_isNumber_1 ?_
  refine lv_iload_n hx hb dX2_isNumber_4 rfl (lv_at hl 1 rfl) ?_
  obtain ⟨o_1, h⟩ := h
  refine rc_iald hx hb hK hP 1 0 rfl rfl p1.toNatClampNeg rfl o_1 dX2_isNumber_5 ?_
  refine lv_ldc hx hb hown k_22 dX2_isNumber_6 ?_
  refine lv_icmp_eq (tgt := 15) hx hb dX2_isNumber_8 (by decide) (fun c_2 => ?_) (fun c_2 => ?_)
  · have h := h.1 c_2
    refine lv_iconst (v := 0) hx hb dX2_isNumber_15 (by decide) ?_
    exact hret _ _ _ _ 0 () (by decide) h hP hD hS dX2_isNumber_16
  · have h := h.2 c_2
    refine lv_iconst (v := 1) hx hb dX2_isNumber_11 (by decide) ?_
    refine lv_goto (tgt := 16) hx hb dX2_isNumber_12 (by decide) ?_
    exact hret _ _ _ _ 1 () (by decide) h hP hD hS dX2_isNumber_16
def wp_X2_beginAnew (p1 : Int32) (p2 : Int32) (wVl : Nat → Int32) (Q : Int32 → Int32 → (Nat → Int32) → Prop) : Prop :=
  wp_J7_fill_53178 0 wVl (fun (w_1 : Nat → Int32) => Q p1 p2 w_1)
set_option maxHeartbeats 4000000 in
set_option maxRecDepth 100000 in
theorem c_X2_beginAnew (l : Launch) (E : gE) (wo wv : Nat) (sz : Nat) (wSo : Int32) (wSz : Int32) (wVl : Nat → Int32) (p1 p2 : Int32)  (Q : Int32 → Int32 → (Nat → Int32) → Prop) (h : wp_X2_beginAnew p1 p2 wVl Q) : Met l yX2_beginAnew wsX2_beginAnew ({ frames := 1, cells := 0, slots := 0, locals := 23 } : Room) (va_Pc [.ref wo, .int p1, .int p2] (rc_B E (rw_1 E wo wv wSo wSz wVl) sz)) (va_Qv (S := Int32 × Int32 × (Nat → Int32)) (fun (u : Int32 × Int32 × (Nat → Int32)) => Q u.1 u.2.1 u.2.2) (fun u t => rc_C E (va_A (rw_1 E wo wv wSo wSz wVl) sz) (rw_1 E wo wv u.1 u.2.1 u.2.2) t) (va_A (rw_1 E wo wv wSo wSz wVl) sz)) 0 0 (va_A (rw_1 E wo wv wSo wSz wVl) sz) := by
  refine rc_enterV (cc := cX2_beginAnew) (maxL := 3) (by decide) rfl (Nat.le_of_ble_eq_true rfl) ?_
  intro p e s m args below meth c QQ A hx hb hml hown hts hmn hE hP hD hA hret ls hl
  have hown : s.vm.findClass RX2 = some m.cls := hown
  have hK := hE.1
  have hS : va_S A s.heap s.heap [] := va_S.rf
  have hl : lv_has ls 3 [(0, .ref wo), (1, .int p1), (2, .int p2)] := hl
  have n_X2 : ∀ w ∈ wsX20, w ∈ wsX2_beginAnew := fun _ h => List.mem_cons_of_mem _ (List.mem_append_right _ h)
  have k_9 := hts (.fieldLink RX2 9 "RidgeClaps$Row" "sort" "I") (List.mem_of_getElem? (i := 1) rfl)
  have k_15 := hts (.fieldLink RX2 15 "RidgeClaps$Row" "size" "I") (List.mem_of_getElem? (i := 2) rfl)
  have k_18 := hts (.fieldLink RX2 18 "RidgeClaps$Row" "values" "[I") (List.mem_of_getElem? (i := 3) rfl)
  unfold wp_X2_beginAnew at h
  obtain ⟨H, hH⟩ : ∃ H, H = s.heap := ⟨_, rfl⟩
  obtain ⟨locs, hlocs⟩ : ∃ locs : List Loc, locs = [] := ⟨_, rfl⟩
  have hP : va_P E.1 vwCl (rw_1 E wo wv wSo wSz wVl) H := by rw [hH]; exact hP
  have hS : va_S A s.heap H locs := by rw [hH, hlocs]; exact hS
  suffices hgo : W p l e ({ frames := 1, cells := 0, slots := 0, locals := 23 } : Room) s m args below meth c H locs 0 0 QQ (F0 m 0 ls []) from by rw [hH, hlocs] at hgo; exact hgo
  refine lv_aload_n hx hb dX2_beginAnew_0 rfl (lv_at hl 0 rfl) ?_
  refine lv_iload_n hx hb dX2_beginAnew_1 rfl (lv_at hl 1 rfl) ?_
  refine va_put (D := E.1) (ci := 2) (v := .int p1) (ty := .int) (C := RX2) (T := TX2) (N := 3) hx hb hts n_X2 tyX2 tyX2_ok nmX2 hown hK hP hD hS 0 rfl rfl 0 (by decide) k_9 (fun _ h9 => h9) rfl (by decide +kernel) rfl rfl (Nat.le_of_ble_eq_true rfl) dX2_beginAnew_2 (fun H locs hP hD hS => ?_)
  have hP : va_P E.1 vwCl (rw_1 E wo wv p1 wSz wVl) H := hP
  have hD : va_D A (rw_1 E wo wv p1 wSz wVl) := hD
  refine lv_aload_n hx hb dX2_beginAnew_5 rfl (lv_at hl 0 rfl) ?_
  refine lv_iload_n hx hb dX2_beginAnew_6 rfl (lv_at hl 2 rfl) ?_
  refine va_put (D := E.1) (ci := 2) (v := .int p2) (ty := .int) (C := RX2) (T := TX2) (N := 3) hx hb hts n_X2 tyX2 tyX2_ok nmX2 hown hK hP hD hS 0 rfl rfl 1 (by decide) k_15 (fun _ h9 => h9) rfl (by decide +kernel) rfl rfl (Nat.le_of_ble_eq_true rfl) dX2_beginAnew_7 (fun H locs hP hD hS => ?_)
  have hP : va_P E.1 vwCl (rw_1 E wo wv p1 p2 wVl) H := hP
  have hD : va_D A (rw_1 E wo wv p1 p2 wVl) := hD
  refine lv_aload_n hx hb dX2_beginAnew_10 rfl (lv_at hl 0 rfl) ?_
  refine va_get (D := E.1) (ci := 2) (v := .ref wv) (C := RX2) (T := TX2) (N := 3) hx hb hts n_X2 hown hK hP 0 rfl rfl 2 (by decide) k_18 (fun _ h9 => h9) rfl dX2_beginAnew_11 ?_
  refine lv_iconst (v := 0) hx hb dX2_beginAnew_14 (by decide) ?_
  have hPc := hP.sub (ws' := (rw_0 E wv wVl)) [1] rfl
  have hDc := hD.sub (ws' := (rw_0 E wv wVl)) [1] (by decide) rfl
  have hFc := va_free (wc := (rw_0 E wv wVl)) hD hS hA [1] rfl
  refine va_callv (va_runS (As := [.ref wv, .int 0]) (rest := []) ⟨hx, hb, hml, hown, hts⟩ (c_J7_fill_53178 l E wv H.size wVl 0 _ h) (va_cwS 2 hts gX2_beginAnew_J7_fill_53178 rfl rfl rfl (by decide +kernel) ⟨Nat.le_of_ble_eq_true rfl, Nat.le_of_ble_eq_true rfl⟩) ⟨fun a U g mk q => ⟨q.1, q.2.blind⟩, fun U hU hW => ⟨rfl, by rw [hU], by rw [hU]; exact hPc, hE.call hS hFc hW hU, hDc.weaken (fun _ _ _ _ => trivial)⟩⟩ rfl rfl hl.1 rfl (lv_room (Nat.le_of_ble_eq_true rfl)) dX2_beginAnew_15 ⟨Nat.zero_le _, Nat.zero_le _⟩) hS (fun q _ h => hFc q h) hFc (fun u t H1 locs ht hvm h hB hz1 hk1 hS => ?_)
  obtain ⟨w_1, rfl⟩ : ∃ z, z = u := ⟨_, rfl⟩
  obtain ⟨hP1, hD1⟩ := hB
  rw [ht] at hP1
  obtain ⟨hP, hD⟩ := rc_foc hP hD [1] [none, some 0] (by decide) rfl hk1 hP1 rfl
  generalize H1 = H at hP hS ⊢
  have hP : va_P E.1 vwCl (rw_1 E wo wv p1 p2 w_1) H := hP
  have hD : va_D A (rw_1 E wo wv p1 p2 w_1) := hD
  exact hret _ _ _ _ (p1, p2, w_1) h hP hD hS dX2_beginAnew_18
def wp_X2_become (wVl : Nat → Int32) (vSo : Int32) (vSz : Int32) (vVl : Nat → Int32) (Q : Int32 → Int32 → (Nat → Int32) → Prop) : Prop :=
  Q vSo vSz (va_cpy vVl wVl 0 0 24)
set_option maxHeartbeats 4000000 in
set_option maxRecDepth 100000 in
theorem c_X2_become (l : Launch) (E : gE) (wo wv vo vv : Nat) (sz : Nat) (wSo : Int32) (wSz : Int32) (wVl : Nat → Int32) (vSo : Int32) (vSz : Int32) (vVl : Nat → Int32)   (Q : Int32 → Int32 → (Nat → Int32) → Prop) (h : wp_X2_become wVl vSo vSz vVl Q) : Met l yX2_become wsX2_become ({ frames := 1, cells := 0, slots := 0, locals := 60 } : Room) (va_Pc [.ref wo, .ref vo] (rc_B E (rw_2 E wo wv vo vv wSo wSz wVl vSo vSz vVl) sz)) (va_Qv (S := Int32 × Int32 × (Nat → Int32)) (fun (u : Int32 × Int32 × (Nat → Int32)) => Q u.1 u.2.1 u.2.2) (fun u t => rc_C E (va_A (rw_2 E wo wv vo vv wSo wSz wVl vSo vSz vVl) sz) (rw_2 E wo wv vo vv u.1 u.2.1 u.2.2 vSo vSz vVl) t) (va_A (rw_2 E wo wv vo vv wSo wSz wVl vSo vSz vVl) sz)) 0 0 (va_A (rw_2 E wo wv vo vv wSo wSz wVl vSo vSz vVl) sz) := by
  refine rc_enterV (cc := cX2_become) (maxL := 2) (by decide) rfl (Nat.le_of_ble_eq_true rfl) ?_
  intro p e s m args below meth c QQ A hx hb hml hown hts hmn hE hP hD hA hret ls hl
  have hown : s.vm.findClass RX2 = some m.cls := hown
  have hK := hE.1
  have hS : va_S A s.heap s.heap [] := va_S.rf
  have hl : lv_has ls 2 [(0, .ref wo), (1, .ref vo)] := hl
  have n_X2 : ∀ w ∈ wsX20, w ∈ wsX2_become := fun _ h => List.mem_cons_of_mem _ (List.mem_append_right _ h)
  have k_9 := hts (.fieldLink RX2 9 "RidgeClaps$Row" "sort" "I") (List.mem_of_getElem? (i := 1) rfl)
  have k_15 := hts (.fieldLink RX2 15 "RidgeClaps$Row" "size" "I") (List.mem_of_getElem? (i := 2) rfl)
  have k_18 := hts (.fieldLink RX2 18 "RidgeClaps$Row" "values" "[I") (List.mem_of_getElem? (i := 3) rfl)
  have k_29 := hts (.methodLink RX2 29 arraycopyName) (List.mem_of_getElem? (i := 4) rfl)
  have k_nat := hts (.native arraycopyName) (List.mem_of_getElem? (i := 5) rfl)
  have k_sta := hts (.static arraycopyName) (List.mem_of_getElem? (i := 6) rfl)
  have k_sys := hts (.initialized "java/lang/System") (List.mem_of_getElem? (i := 7) rfl)
  unfold wp_X2_become at h
  obtain ⟨H, hH⟩ : ∃ H, H = s.heap := ⟨_, rfl⟩
  obtain ⟨locs, hlocs⟩ : ∃ locs : List Loc, locs = [] := ⟨_, rfl⟩
  have hP : va_P E.1 vwCl (rw_2 E wo wv vo vv wSo wSz wVl vSo vSz vVl) H := by rw [hH]; exact hP
  have hS : va_S A s.heap H locs := by rw [hH, hlocs]; exact hS
  suffices hgo : W p l e ({ frames := 1, cells := 0, slots := 0, locals := 60 } : Room) s m args below meth c H locs 0 0 QQ (F0 m 0 ls []) from by rw [hH, hlocs] at hgo; exact hgo
  refine lv_aload_n hx hb dX2_become_0 rfl (lv_at hl 0 rfl) ?_
  refine lv_aload_n hx hb dX2_become_1 rfl (lv_at hl 1 rfl) ?_
  refine va_get (D := E.1) (ci := 2) (v := .int vSo) (C := RX2) (T := TX2) (N := 3) hx hb hts n_X2 hown hK hP 2 rfl rfl 0 (by decide) k_9 (fun _ h9 => h9) rfl dX2_become_2 ?_
  refine va_put (D := E.1) (ci := 2) (v := .int vSo) (ty := .int) (C := RX2) (T := TX2) (N := 3) hx hb hts n_X2 tyX2 tyX2_ok nmX2 hown hK hP hD hS 0 rfl rfl 0 (by decide) k_9 (fun _ h9 => h9) rfl (by decide +kernel) rfl rfl (Nat.le_of_ble_eq_true rfl) dX2_become_5 (fun H locs hP hD hS => ?_)
  have hP : va_P E.1 vwCl (rw_2 E wo wv vo vv vSo wSz wVl vSo vSz vVl) H := hP
  have hD : va_D A (rw_2 E wo wv vo vv vSo wSz wVl vSo vSz vVl) := hD
  refine lv_aload_n hx hb dX2_become_8 rfl (lv_at hl 0 rfl) ?_
  refine lv_aload_n hx hb dX2_become_9 rfl (lv_at hl 1 rfl) ?_
  refine va_get (D := E.1) (ci := 2) (v := .int vSz) (C := RX2) (T := TX2) (N := 3) hx hb hts n_X2 hown hK hP 2 rfl rfl 1 (by decide) k_15 (fun _ h9 => h9) rfl dX2_become_10 ?_
  refine va_put (D := E.1) (ci := 2) (v := .int vSz) (ty := .int) (C := RX2) (T := TX2) (N := 3) hx hb hts n_X2 tyX2 tyX2_ok nmX2 hown hK hP hD hS 0 rfl rfl 1 (by decide) k_15 (fun _ h9 => h9) rfl (by decide +kernel) rfl rfl (Nat.le_of_ble_eq_true rfl) dX2_become_13 (fun H locs hP hD hS => ?_)
  have hP : va_P E.1 vwCl (rw_2 E wo wv vo vv vSo vSz wVl vSo vSz vVl) H := hP
  have hD : va_D A (rw_2 E wo wv vo vv vSo vSz wVl vSo vSz vVl) := hD
  refine lv_aload_n hx hb dX2_become_16 rfl (lv_at hl 1 rfl) ?_
  refine va_get (D := E.1) (ci := 2) (v := .ref vv) (C := RX2) (T := TX2) (N := 3) hx hb hts n_X2 hown hK hP 2 rfl rfl 2 (by decide) k_18 (fun _ h9 => h9) rfl dX2_become_17 ?_
  refine lv_iconst (v := 0) hx hb dX2_become_20 (by decide) ?_
  refine lv_aload_n hx hb dX2_become_21 rfl (lv_at hl 0 rfl) ?_
  refine va_get (D := E.1) (ci := 2) (v := .ref wv) (C := RX2) (T := TX2) (N := 3) hx hb hts n_X2 hown hK hP 0 rfl rfl 2 (by decide) k_18 (fun _ h9 => h9) rfl dX2_become_22 ?_
  refine lv_iconst (v := 0) hx hb dX2_become_25 (by decide) ?_
  refine lv_bipush (v := 24) hx hb dX2_become_26 (by decide) ?_
  refine va_copyi hx hb (hml.trans hl.1.symm) hown k_29 k_nat k_sta k_sys hK hP hD hS 3 1 0 0 rfl rfl rfl rfl rfl (by decide) (by decide) (by decide) (by decide) (by decide) (fun _ _ => rfl) (Nat.le_of_ble_eq_true rfl) (Nat.le_of_ble_eq_true rfl) dX2_become_28 (fun H locs hP hD hS => ?_)
  have hP : va_P E.1 vwCl (rw_2 E wo wv vo vv vSo vSz (va_cpy vVl wVl 0 0 24) vSo vSz vVl) H := hP
  have hD : va_D A (rw_2 E wo wv vo vv vSo vSz (va_cpy vVl wVl 0 0 24) vSo vSz vVl) := hD
  exact hret _ _ _ _ (vSo, vSz, va_cpy vVl wVl 0 0 24) h hP hD hS dX2_become_31
def lp_X2_firstNumber_2F (wSz : Int32) (wVl : Nat → Int32)  (Q : Int32 → Prop) (R : Int32 → Prop) (x1 : Int32) : Prop :=
  ((wSz ≤ x1 → Q (-1000000005)) ∧ (¬ (wSz ≤ x1) → wp_X2_isNumber x1 wVl (fun (r_2 : Int32) => ((r_2 = 0 → R (x1 + 1)) ∧ (¬ (r_2 = 0) → Q x1)))))
def lp_X2_firstNumber_2 (wSz : Int32) (wVl : Nat → Int32)  (Q : Int32 → Prop) (n : Nat) : Int32 → Prop :=
  Nat.rec (motive := fun _ => Int32 → Prop) (fun _ => False) (fun _ r => lp_X2_firstNumber_2F wSz wVl Q r) n
def wp_X2_firstNumber (wSz : Int32) (wVl : Nat → Int32) (Q : Int32 → Prop) : Prop :=
  (∃ n : Nat, lp_X2_firstNumber_2 wSz wVl Q n 0)
set_option maxHeartbeats 4000000 in
set_option maxRecDepth 100000 in
theorem c_X2_firstNumber (l : Launch) (E : gE) (wo wv : Nat) (sz : Nat) (wSo : Int32) (wSz : Int32) (wVl : Nat → Int32)   (Q : Int32 → Prop) (h : wp_X2_firstNumber wSz wVl Q) : Met l yX2_firstNumber wsX2_firstNumber ({ frames := 1, cells := 0, slots := 0, locals := 21 } : Room) (va_Pc [.ref wo] (rc_B E (rw_1 E wo wv wSo wSz wVl) sz)) (va_Qi (S := Unit) (fun (r : Int32) (u : Unit) => Q r) (fun u t => rc_C E (va_A (rw_1 E wo wv wSo wSz wVl) sz) (rw_1 E wo wv wSo wSz wVl) t) (va_A (rw_1 E wo wv wSo wSz wVl) sz)) 0 0 (va_A (rw_1 E wo wv wSo wSz wVl) sz) := by
  refine rc_enterI (cc := cX2_firstNumber) (maxL := 2) (by decide) rfl (Nat.le_of_ble_eq_true rfl) ?_
  intro p e s m args below meth c QQ A hx hb hml hown hts hmn hE hP hD hA hret ls hl
  have hown : s.vm.findClass RX2 = some m.cls := hown
  have hK := hE.1
  have hS : va_S A s.heap s.heap [] := va_S.rf
  have hl : lv_has ls 2 [(0, .ref wo)] := hl
  have n_X2 : ∀ w ∈ wsX20, w ∈ wsX2_firstNumber := fun _ h => List.mem_cons_of_mem _ (List.mem_append_right _ h)
  have k_15 := hts (.fieldLink RX2 15 "RidgeClaps$Row" "size" "I") (List.mem_of_getElem? (i := 1) rfl)
  have k_22 := hts (.constant RX2 22 (-1000000005)) (List.mem_of_getElem? (i := 2) rfl)
  have J2 : ∀ (n : Nat) (x1 : Int32), lp_X2_firstNumber_2 wSz wVl Q n x1 → ∀ (H : Heap) (locs : List Loc), va_P E.1 vwCl (rw_1 E wo wv wSo wSz wVl) H → va_D A (rw_1 E wo wv wSo wSz wVl) → va_S A s.heap H locs → ∀ ls : Array Slot, lv_has ls 2 [(0, .ref wo), (1, .int x1)] → W p l e ({ frames := 1, cells := 0, slots := 0, locals := 21 } : Room) s m args below meth c H locs 0 0 QQ (F0 m 2 ls []) := by
    intro n
    induction n with
    | zero =>
      intro x1 h
      exact False.elim h
    | succ n ih =>
      intro x1 h H locs hP hD hS ls hl
      have h : lp_X2_firstNumber_2F wSz wVl Q (lp_X2_firstNumber_2 wSz wVl Q n) x1 := h
      unfold lp_X2_firstNumber_2F at h
      refine lv_iload_n hx hb dX2_firstNumber_2 rfl (lv_at hl 1 rfl) ?_
      refine lv_aload_n hx hb dX2_firstNumber_3 rfl (lv_at hl 0 rfl) ?_
      refine va_get (D := E.1) (ci := 2) (v := .int wSz) (C := RX2) (T := TX2) (N := 3) hx hb hts n_X2 hown hK hP 0 rfl rfl 1 (by decide) k_15 (fun _ h9 => h9) rfl dX2_firstNumber_4 ?_
      refine lv_icmp_ge (tgt := 26) hx hb dX2_firstNumber_7 (by decide) (fun c_1 => ?_) (fun c_1 => ?_)
      · have h := h.1 c_1
        refine lv_ldc hx hb hown k_22 dX2_firstNumber_26 ?_
        exact hret _ _ _ _ (-1000000005) () rfl h hP hD hS dX2_firstNumber_28
      · have h := h.2 c_1
        refine lv_aload_n hx hb dX2_firstNumber_10 rfl (lv_at hl 0 rfl) ?_
        refine lv_iload_n hx hb dX2_firstNumber_11 rfl (lv_at hl 1 rfl) ?_
        have hPc := hP
        have hDc := hD
        have hFc := rc_freeI hD hS hA
        refine va_calli (va_runV (As := [.int x1]) (rest := []) ⟨hx, hb, hml, hown, hts⟩ (c_X2_isNumber l E wo wv H.size wSo wSz wVl x1 _ h) (cwV 1 hts gX2_firstNumber_X2_isNumber rfl rfl rfl (by decide +kernel) ⟨Nat.le_of_ble_eq_true rfl, Nat.le_of_ble_eq_true rfl⟩) ⟨fun a U g mk q => ⟨q.1, q.2.blind⟩, va_recv hK hPc (ci := 2) (q0 := 0) rfl rfl, fun U hU hW => ⟨rfl, by rw [hU], by rw [hU]; exact hPc, hE.call hS hFc hW hU, hDc.weaken (fun _ _ _ _ => trivial)⟩⟩ rfl rfl hl.1 rfl (lv_room (Nat.le_of_ble_eq_true rfl)) dX2_firstNumber_12 ⟨Nat.zero_le _, Nat.zero_le _⟩) hS (fun q _ h => hFc q h) hFc (fun r_2 u t H1 locs ht hvm h hB hz1 hk1 hS => ?_)
        obtain ⟨hP1, hD1⟩ := hB
        rw [ht] at hP1
        have hP := hP1
        have hD := hD1.weaken (fun _ _ _ h => hFc _ h)
        generalize H1 = H at hP hS ⊢
        have hP : va_P E.1 vwCl (rw_1 E wo wv wSo wSz wVl) H := hP
        have hD : va_D A (rw_1 E wo wv wSo wSz wVl) := hD
        refine lv_if_eq (tgt := 20) hx hb dX2_firstNumber_15 (by decide) (fun c_3 => ?_) (fun c_3 => ?_)
        · have h := h.1 c_3
          refine lv_iinc (v := x1 + 1) (lv' := [(1, .int (x1 + 1)), (0, .ref wo)]) hx hb dX2_firstNumber_20 hl (k := 1) rfl (by rfl) (by decide) rfl (fun ls hl => ?_)
          refine lv_goto (tgt := 2) hx hb dX2_firstNumber_23 (by decide) ?_
          exact ih (x1 + 1) h _ _ hP hD hS ls (lv_sub hl [1, 0] rfl)
        · have h := h.2 c_3
          refine lv_iload_n hx hb dX2_firstNumber_18 rfl (lv_at hl 1 rfl) ?_
          exact hret _ _ _ _ x1 () rfl h hP hD hS dX2_firstNumber_19
  unfold wp_X2_firstNumber at h
  obtain ⟨H, hH⟩ : ∃ H, H = s.heap := ⟨_, rfl⟩
  obtain ⟨locs, hlocs⟩ : ∃ locs : List Loc, locs = [] := ⟨_, rfl⟩
  have hP : va_P E.1 vwCl (rw_1 E wo wv wSo wSz wVl) H := by rw [hH]; exact hP
  have hS : va_S A s.heap H locs := by rw [hH, hlocs]; exact hS
  suffices hgo : W p l e ({ frames := 1, cells := 0, slots := 0, locals := 21 } : Room) s m args below meth c H locs 0 0 QQ (F0 m 0 ls []) from by rw [hH, hlocs] at hgo; exact hgo
  refine lv_iconst (v := 0) hx hb dX2_firstNumber_0 (by decide) ?_
  refine lv_istore_n (lv' := [(1, .int 0), (0, .ref wo)]) hx hb dX2_firstNumber_1 rfl hl (by decide) rfl (fun ls hl => ?_)
  obtain ⟨n, h⟩ := h
  exact J2 n 0 h _ _ hP hD hS ls (lv_sub hl [1, 0] rfl)
def lp_X2_howFar_4F (wSz : Int32) (wVl : Nat → Int32)  (Q : Int32 → Prop) (R : Int32 → Int32 → Prop) (x1 : Int32) (x2 : Int32) : Prop :=
  ((wSz ≤ x2 → Q (x1 / 3)) ∧ (¬ (wSz ≤ x2) → wp_X2_isNumber x2 wVl (fun (r_2 : Int32) => ((r_2 = 0 → R x1 (x2 + 1)) ∧ (¬ (r_2 = 0) → (vp_in x2 24 ∧ R (wVl x2.toNatClampNeg) (x2 + 1)))))))
def lp_X2_howFar_4 (wSz : Int32) (wVl : Nat → Int32)  (Q : Int32 → Prop) (n : Nat) : Int32 → Int32 → Prop :=
  Nat.rec (motive := fun _ => Int32 → Int32 → Prop) (fun _ _ => False) (fun _ r => lp_X2_howFar_4F wSz wVl Q r) n
def wp_X2_howFar (wSz : Int32) (wVl : Nat → Int32) (Q : Int32 → Prop) : Prop :=
  (∃ n : Nat, lp_X2_howFar_4 wSz wVl Q n 0 0)
set_option maxHeartbeats 4000000 in
set_option maxRecDepth 100000 in
theorem c_X2_howFar (l : Launch) (E : gE) (wo wv : Nat) (sz : Nat) (wSo : Int32) (wSz : Int32) (wVl : Nat → Int32)   (Q : Int32 → Prop) (h : wp_X2_howFar wSz wVl Q) : Met l yX2_howFar wsX2_howFar ({ frames := 1, cells := 0, slots := 0, locals := 21 } : Room) (va_Pc [.ref wo] (rc_B E (rw_1 E wo wv wSo wSz wVl) sz)) (va_Qi (S := Unit) (fun (r : Int32) (u : Unit) => Q r) (fun u t => rc_C E (va_A (rw_1 E wo wv wSo wSz wVl) sz) (rw_1 E wo wv wSo wSz wVl) t) (va_A (rw_1 E wo wv wSo wSz wVl) sz)) 0 0 (va_A (rw_1 E wo wv wSo wSz wVl) sz) := by
  refine rc_enterI (cc := cX2_howFar) (maxL := 3) (by decide) rfl (Nat.le_of_ble_eq_true rfl) ?_
  intro p e s m args below meth c QQ A hx hb hml hown hts hmn hE hP hD hA hret ls hl
  have hown : s.vm.findClass RX2 = some m.cls := hown
  have hK := hE.1
  have hS : va_S A s.heap s.heap [] := va_S.rf
  have hl : lv_has ls 3 [(0, .ref wo)] := hl
  have n_X2 : ∀ w ∈ wsX20, w ∈ wsX2_howFar := fun _ h => List.mem_cons_of_mem _ (List.mem_append_right _ h)
  have k_15 := hts (.fieldLink RX2 15 "RidgeClaps$Row" "size" "I") (List.mem_of_getElem? (i := 1) rfl)
  have k_18 := hts (.fieldLink RX2 18 "RidgeClaps$Row" "values" "[I") (List.mem_of_getElem? (i := 2) rfl)
  have J4 : ∀ (n : Nat) (x1 : Int32) (x2 : Int32), lp_X2_howFar_4 wSz wVl Q n x1 x2 → ∀ (H : Heap) (locs : List Loc), va_P E.1 vwCl (rw_1 E wo wv wSo wSz wVl) H → va_D A (rw_1 E wo wv wSo wSz wVl) → va_S A s.heap H locs → ∀ ls : Array Slot, lv_has ls 3 [(0, .ref wo), (1, .int x1), (2, .int x2)] → W p l e ({ frames := 1, cells := 0, slots := 0, locals := 21 } : Room) s m args below meth c H locs 0 0 QQ (F0 m 4 ls []) := by
    intro n
    induction n with
    | zero =>
      intro x1 x2 h
      exact False.elim h
    | succ n ih =>
      intro x1 x2 h H locs hP hD hS ls hl
      have h : lp_X2_howFar_4F wSz wVl Q (lp_X2_howFar_4 wSz wVl Q n) x1 x2 := h
      unfold lp_X2_howFar_4F at h
      refine lv_iload_n hx hb dX2_howFar_4 rfl (lv_at hl 2 rfl) ?_
      refine lv_aload_n hx hb dX2_howFar_5 rfl (lv_at hl 0 rfl) ?_
      refine va_get (D := E.1) (ci := 2) (v := .int wSz) (C := RX2) (T := TX2) (N := 3) hx hb hts n_X2 hown hK hP 0 rfl rfl 1 (by decide) k_15 (fun _ h9 => h9) rfl dX2_howFar_6 ?_
      refine lv_icmp_ge (tgt := 33) hx hb dX2_howFar_9 (by decide) (fun c_1 => ?_) (fun c_1 => ?_)
      · have h := h.1 c_1
        refine lv_iload_n hx hb dX2_howFar_33 rfl (lv_at hl 1 rfl) ?_
        refine lv_iconst (v := 3) hx hb dX2_howFar_34 (by decide) ?_
        refine lv_idiv hx hb dX2_howFar_35 (by decide) ?_
        exact hret _ _ _ _ (x1 / 3) () rfl h hP hD hS dX2_howFar_36
      · have h := h.2 c_1
        refine lv_aload_n hx hb dX2_howFar_12 rfl (lv_at hl 0 rfl) ?_
        refine lv_iload_n hx hb dX2_howFar_13 rfl (lv_at hl 2 rfl) ?_
        have hPc := hP
        have hDc := hD
        have hFc := rc_freeI hD hS hA
        refine va_calli (va_runV (As := [.int x2]) (rest := []) ⟨hx, hb, hml, hown, hts⟩ (c_X2_isNumber l E wo wv H.size wSo wSz wVl x2 _ h) (cwV 1 hts gX2_howFar_X2_isNumber rfl rfl rfl (by decide +kernel) ⟨Nat.le_of_ble_eq_true rfl, Nat.le_of_ble_eq_true rfl⟩) ⟨fun a U g mk q => ⟨q.1, q.2.blind⟩, va_recv hK hPc (ci := 2) (q0 := 0) rfl rfl, fun U hU hW => ⟨rfl, by rw [hU], by rw [hU]; exact hPc, hE.call hS hFc hW hU, hDc.weaken (fun _ _ _ _ => trivial)⟩⟩ rfl rfl hl.1 rfl (lv_room (Nat.le_of_ble_eq_true rfl)) dX2_howFar_14 ⟨Nat.zero_le _, Nat.zero_le _⟩) hS (fun q _ h => hFc q h) hFc (fun r_2 u t H1 locs ht hvm h hB hz1 hk1 hS => ?_)
        obtain ⟨hP1, hD1⟩ := hB
        rw [ht] at hP1
        have hP := hP1
        have hD := hD1.weaken (fun _ _ _ h => hFc _ h)
        generalize H1 = H at hP hS ⊢
        have hP : va_P E.1 vwCl (rw_1 E wo wv wSo wSz wVl) H := hP
        have hD : va_D A (rw_1 E wo wv wSo wSz wVl) := hD
        refine lv_if_eq (tgt := 27) hx hb dX2_howFar_17 (by decide) (fun c_3 => ?_) (fun c_3 => ?_)
        · have h := h.1 c_3
          refine lv_iinc (v := x2 + 1) (lv' := [(2, .int (x2 + 1)), (0, .ref wo), (1, .int x1)]) hx hb dX2_howFar_27 hl (k := 2) rfl (by rfl) (by decide) rfl (fun ls hl => ?_)
          refine lv_goto (tgt := 4) hx hb dX2_howFar_30 (by decide) ?_
          exact ih x1 (x2 + 1) h _ _ hP hD hS ls (lv_sub hl [1, 2, 0] rfl)
        · have h := h.2 c_3
          refine lv_aload_n hx hb dX2_howFar_20 rfl (lv_at hl 0 rfl) ?_
          refine va_get (D := E.1) (ci := 2) (v := .ref wv) (C := RX2) (T := TX2) (N := 3) hx hb hts n_X2 hown hK hP 0 rfl rfl 2 (by decide) k_18 (fun _ h9 => h9) rfl dX2_howFar_21 ?_
          refine lv_iload_n hx hb dX2_howFar_24 rfl (lv_at hl 2 rfl) ?_
          obtain ⟨o_4, h⟩ := h
          refine rc_iald hx hb hK hP 1 0 rfl rfl x2.toNatClampNeg rfl o_4 dX2_howFar_25 ?_
          refine lv_istore_n (lv' := [(1, .int (wVl x2.toNatClampNeg)), (0, .ref wo), (2, .int x2)]) hx hb dX2_howFar_26 rfl hl (by decide) rfl (fun ls hl => ?_)
          refine lv_iinc (v := x2 + 1) (lv' := [(2, .int (x2 + 1)), (1, .int (wVl x2.toNatClampNeg)), (0, .ref wo)]) hx hb dX2_howFar_27 hl (k := 2) rfl (by rfl) (by decide) rfl (fun ls hl => ?_)
          refine lv_goto (tgt := 4) hx hb dX2_howFar_30 (by decide) ?_
          exact ih (wVl x2.toNatClampNeg) (x2 + 1) h _ _ hP hD hS ls (lv_sub hl [2, 1, 0] rfl)
  unfold wp_X2_howFar at h
  obtain ⟨H, hH⟩ : ∃ H, H = s.heap := ⟨_, rfl⟩
  obtain ⟨locs, hlocs⟩ : ∃ locs : List Loc, locs = [] := ⟨_, rfl⟩
  have hP : va_P E.1 vwCl (rw_1 E wo wv wSo wSz wVl) H := by rw [hH]; exact hP
  have hS : va_S A s.heap H locs := by rw [hH, hlocs]; exact hS
  suffices hgo : W p l e ({ frames := 1, cells := 0, slots := 0, locals := 21 } : Room) s m args below meth c H locs 0 0 QQ (F0 m 0 ls []) from by rw [hH, hlocs] at hgo; exact hgo
  refine lv_iconst (v := 0) hx hb dX2_howFar_0 (by decide) ?_
  refine lv_istore_n (lv' := [(1, .int 0), (0, .ref wo)]) hx hb dX2_howFar_1 rfl hl (by decide) rfl (fun ls hl => ?_)
  refine lv_iconst (v := 0) hx hb dX2_howFar_2 (by decide) ?_
  refine lv_istore_n (lv' := [(2, .int 0), (1, .int 0), (0, .ref wo)]) hx hb dX2_howFar_3 rfl hl (by decide) rfl (fun ls hl => ?_)
  obtain ⟨n, h⟩ := h
  exact J4 n 0 0 h _ _ hP hD hS ls (lv_sub hl [2, 1, 0] rfl)
def lp_X2_comes_27F (wSz : Int32) (wVl : Nat → Int32)  (Q : Int32 → Prop) (R : Int32 → Int32 → Int32 → Prop) (x2 : Int32) (x3 : Int32) (x4 : Int32) : Prop :=
  ((wSz ≤ x4 → Q x2) ∧ (¬ (wSz ≤ x4) → wp_X2_isNumber x4 wVl (fun (r_2 : Int32) => ((r_2 = 0 → R x2 x3 (x4 + 1)) ∧ (¬ (r_2 = 0) → (vp_in x4 24 ∧ ((x3 ≤ (wVl x4.toNatClampNeg) → (vp_in x4 24 ∧ (((wVl x4.toNatClampNeg) ≤ x3 → (vp_in x4 24 ∧ R x2 (wVl x4.toNatClampNeg) (x4 + 1))) ∧ (¬ ((wVl x4.toNatClampNeg) ≤ x3) → (vp_in x4 24 ∧ R (x2 + (-1)) (wVl x4.toNatClampNeg) (x4 + 1)))))) ∧ (¬ (x3 ≤ (wVl x4.toNatClampNeg)) → (vp_in x4 24 ∧ R (x2 + 1) (wVl x4.toNatClampNeg) (x4 + 1))))))))))
def lp_X2_comes_27 (wSz : Int32) (wVl : Nat → Int32)  (Q : Int32 → Prop) (n : Nat) : Int32 → Int32 → Int32 → Prop :=
  Nat.rec (motive := fun _ => Int32 → Int32 → Int32 → Prop) (fun _ _ _ => False) (fun _ r => lp_X2_comes_27F wSz wVl Q r) n
def wp_X2_comes (wSz : Int32) (wVl : Nat → Int32) (Q : Int32 → Prop) : Prop :=
  wp_X2_firstNumber wSz wVl (fun (r_11 : Int32) => ((¬ r_11 = (-1000000005) → (vp_in r_11 24 ∧ (∃ n : Nat, lp_X2_comes_27 wSz wVl Q n 0 (wVl r_11.toNatClampNeg) (r_11 + 1)))) ∧ (r_11 = (-1000000005) → Q 0)))
set_option maxHeartbeats 4000000 in
set_option maxRecDepth 100000 in
theorem c_X2_comes (l : Launch) (E : gE) (wo wv : Nat) (sz : Nat) (wSo : Int32) (wSz : Int32) (wVl : Nat → Int32)   (Q : Int32 → Prop) (h : wp_X2_comes wSz wVl Q) : Met l yX2_comes wsX2_comes ({ frames := 2, cells := 0, slots := 0, locals := 42 } : Room) (va_Pc [.ref wo] (rc_B E (rw_1 E wo wv wSo wSz wVl) sz)) (va_Qi (S := Unit) (fun (r : Int32) (u : Unit) => Q r) (fun u t => rc_C E (va_A (rw_1 E wo wv wSo wSz wVl) sz) (rw_1 E wo wv wSo wSz wVl) t) (va_A (rw_1 E wo wv wSo wSz wVl) sz)) 0 0 (va_A (rw_1 E wo wv wSo wSz wVl) sz) := by
  refine rc_enterI (cc := cX2_comes) (maxL := 5) (by decide) rfl (Nat.le_of_ble_eq_true rfl) ?_
  intro p e s m args below meth c QQ A hx hb hml hown hts hmn hE hP hD hA hret ls hl
  have hown : s.vm.findClass RX2 = some m.cls := hown
  have hK := hE.1
  have hS : va_S A s.heap s.heap [] := va_S.rf
  have hl : lv_has ls 5 [(0, .ref wo)] := hl
  have n_X2 : ∀ w ∈ wsX20, w ∈ wsX2_comes := fun _ h => List.mem_cons_of_mem _ (List.mem_append_right _ h)
  have k_15 := hts (.fieldLink RX2 15 "RidgeClaps$Row" "size" "I") (List.mem_of_getElem? (i := 3) rfl)
  have k_18 := hts (.fieldLink RX2 18 "RidgeClaps$Row" "values" "[I") (List.mem_of_getElem? (i := 2) rfl)
  have k_22 := hts (.constant RX2 22 (-1000000005)) (List.mem_of_getElem? (i := 1) rfl)
  have J27 : ∀ (n : Nat) (x2 : Int32) (x3 : Int32) (x4 : Int32), lp_X2_comes_27 wSz wVl Q n x2 x3 x4 → ∀ (H : Heap) (locs : List Loc), va_P E.1 vwCl (rw_1 E wo wv wSo wSz wVl) H → va_D A (rw_1 E wo wv wSo wSz wVl) → va_S A s.heap H locs → ∀ ls : Array Slot, lv_has ls 5 [(0, .ref wo), (2, .int x2), (3, .int x3), (4, .int x4)] → W p l e ({ frames := 2, cells := 0, slots := 0, locals := 42 } : Room) s m args below meth c H locs 0 0 QQ (F0 m 27 ls []) := by
    intro n
    induction n with
    | zero =>
      intro x2 x3 x4 h
      exact False.elim h
    | succ n ih =>
      intro x2 x3 x4 h H locs hP hD hS ls hl
      have h : lp_X2_comes_27F wSz wVl Q (lp_X2_comes_27 wSz wVl Q n) x2 x3 x4 := h
      unfold lp_X2_comes_27F at h
      refine lv_iload hx hb dX2_comes_27 (lv_at hl 3 rfl) ?_
      refine lv_aload_n hx hb dX2_comes_29 rfl (lv_at hl 0 rfl) ?_
      refine va_get (D := E.1) (ci := 2) (v := .int wSz) (C := RX2) (T := TX2) (N := 3) hx hb hts n_X2 hown hK hP 0 rfl rfl 1 (by decide) k_15 (fun _ h9 => h9) rfl dX2_comes_30 ?_
      refine lv_icmp_ge (tgt := 90) hx hb dX2_comes_33 (by decide) (fun c_1 => ?_) (fun c_1 => ?_)
      · have h := h.1 c_1
        refine lv_iload_n hx hb dX2_comes_90 rfl (lv_at hl 1 rfl) ?_
        exact hret _ _ _ _ x2 () rfl h hP hD hS dX2_comes_91
      · have h := h.2 c_1
        refine lv_aload_n hx hb dX2_comes_36 rfl (lv_at hl 0 rfl) ?_
        refine lv_iload hx hb dX2_comes_37 (lv_at hl 3 rfl) ?_
        have hPc := hP
        have hDc := hD
        have hFc := rc_freeI hD hS hA
        refine va_calli (va_runV (As := [.int x4]) (rest := []) ⟨hx, hb, hml, hown, hts⟩ (c_X2_isNumber l E wo wv H.size wSo wSz wVl x4 _ h) (cwV 1 hts gX2_comes_X2_isNumber rfl rfl rfl (by decide +kernel) ⟨Nat.le_of_ble_eq_true rfl, Nat.le_of_ble_eq_true rfl⟩) ⟨fun a U g mk q => ⟨q.1, q.2.blind⟩, va_recv hK hPc (ci := 2) (q0 := 0) rfl rfl, fun U hU hW => ⟨rfl, by rw [hU], by rw [hU]; exact hPc, hE.call hS hFc hW hU, hDc.weaken (fun _ _ _ _ => trivial)⟩⟩ rfl rfl hl.1 rfl (lv_room (Nat.le_of_ble_eq_true rfl)) dX2_comes_39 ⟨Nat.zero_le _, Nat.zero_le _⟩) hS (fun q _ h => hFc q h) hFc (fun r_2 u t H1 locs ht hvm h hB hz1 hk1 hS => ?_)
        obtain ⟨hP1, hD1⟩ := hB
        rw [ht] at hP1
        have hP := hP1
        have hD := hD1.weaken (fun _ _ _ h => hFc _ h)
        generalize H1 = H at hP hS ⊢
        have hP : va_P E.1 vwCl (rw_1 E wo wv wSo wSz wVl) H := hP
        have hD : va_D A (rw_1 E wo wv wSo wSz wVl) := hD
        refine lv_if_eq (tgt := 84) hx hb dX2_comes_42 (by decide) (fun c_3 => ?_) (fun c_3 => ?_)
        · have h := h.1 c_3
          refine lv_iinc (v := x4 + 1) (lv' := [(4, .int (x4 + 1)), (0, .ref wo), (2, .int x2), (3, .int x3)]) hx hb dX2_comes_84 hl (k := 3) rfl (by rfl) (by decide) rfl (fun ls hl => ?_)
          refine lv_goto (tgt := 27) hx hb dX2_comes_87 (by decide) ?_
          exact ih x2 x3 (x4 + 1) h _ _ hP hD hS ls (lv_sub hl [1, 2, 3, 0] rfl)
        · have h := h.2 c_3
          refine lv_aload_n hx hb dX2_comes_45 rfl (lv_at hl 0 rfl) ?_
          refine va_get (D := E.1) (ci := 2) (v := .ref wv) (C := RX2) (T := TX2) (N := 3) hx hb hts n_X2 hown hK hP 0 rfl rfl 2 (by decide) k_18 (fun _ h9 => h9) rfl dX2_comes_46 ?_
          refine lv_iload hx hb dX2_comes_49 (lv_at hl 3 rfl) ?_
          obtain ⟨o_4, h⟩ := h
          refine rc_iald hx hb hK hP 1 0 rfl rfl x4.toNatClampNeg rfl o_4 dX2_comes_51 ?_
          refine lv_iload_n hx hb dX2_comes_52 rfl (lv_at hl 2 rfl) ?_
          refine lv_icmp_ge (tgt := 62) hx hb dX2_comes_53 (by decide) (fun c_5 => ?_) (fun c_5 => ?_)
          · have h := h.1 c_5
            refine lv_aload_n hx hb dX2_comes_62 rfl (lv_at hl 0 rfl) ?_
            refine va_get (D := E.1) (ci := 2) (v := .ref wv) (C := RX2) (T := TX2) (N := 3) hx hb hts n_X2 hown hK hP 0 rfl rfl 2 (by decide) k_18 (fun _ h9 => h9) rfl dX2_comes_63 ?_
            refine lv_iload hx hb dX2_comes_66 (lv_at hl 3 rfl) ?_
            obtain ⟨o_6, h⟩ := h
            refine rc_iald hx hb hK hP 1 0 rfl rfl x4.toNatClampNeg rfl o_6 dX2_comes_68 ?_
            refine lv_iload_n hx hb dX2_comes_69 rfl (lv_at hl 2 rfl) ?_
            refine lv_icmp_le (tgt := 76) hx hb dX2_comes_70 (by decide) (fun c_7 => ?_) (fun c_7 => ?_)
            · have h := h.1 c_7
              refine lv_aload_n hx hb dX2_comes_76 rfl (lv_at hl 0 rfl) ?_
              refine va_get (D := E.1) (ci := 2) (v := .ref wv) (C := RX2) (T := TX2) (N := 3) hx hb hts n_X2 hown hK hP 0 rfl rfl 2 (by decide) k_18 (fun _ h9 => h9) rfl dX2_comes_77 ?_
              refine lv_iload hx hb dX2_comes_80 (lv_at hl 3 rfl) ?_
              obtain ⟨o_8, h⟩ := h
              refine rc_iald hx hb hK hP 1 0 rfl rfl x4.toNatClampNeg rfl o_8 dX2_comes_82 ?_
              refine lv_istore_n (lv' := [(3, .int (wVl x4.toNatClampNeg)), (0, .ref wo), (2, .int x2), (4, .int x4)]) hx hb dX2_comes_83 rfl hl (by decide) rfl (fun ls hl => ?_)
              refine lv_iinc (v := x4 + 1) (lv' := [(4, .int (x4 + 1)), (3, .int (wVl x4.toNatClampNeg)), (0, .ref wo), (2, .int x2)]) hx hb dX2_comes_84 hl (k := 3) rfl (by rfl) (by decide) rfl (fun ls hl => ?_)
              refine lv_goto (tgt := 27) hx hb dX2_comes_87 (by decide) ?_
              exact ih x2 (wVl x4.toNatClampNeg) (x4 + 1) h _ _ hP hD hS ls (lv_sub hl [2, 3, 1, 0] rfl)
            · have h := h.2 c_7
              refine lv_iinc (v := x2 + (-1)) (lv' := [(2, .int (x2 + (-1))), (0, .ref wo), (3, .int x3), (4, .int x4)]) hx hb dX2_comes_73 hl (k := 1) rfl (by rfl) (by decide) rfl (fun ls hl => ?_)
              refine lv_aload_n hx hb dX2_comes_76 rfl (lv_at hl 1 rfl) ?_
              refine va_get (D := E.1) (ci := 2) (v := .ref wv) (C := RX2) (T := TX2) (N := 3) hx hb hts n_X2 hown hK hP 0 rfl rfl 2 (by decide) k_18 (fun _ h9 => h9) rfl dX2_comes_77 ?_
              refine lv_iload hx hb dX2_comes_80 (lv_at hl 3 rfl) ?_
              obtain ⟨o_9, h⟩ := h
              refine rc_iald hx hb hK hP 1 0 rfl rfl x4.toNatClampNeg rfl o_9 dX2_comes_82 ?_
              refine lv_istore_n (lv' := [(3, .int (wVl x4.toNatClampNeg)), (2, .int (x2 + (-1))), (0, .ref wo), (4, .int x4)]) hx hb dX2_comes_83 rfl hl (by decide) rfl (fun ls hl => ?_)
              refine lv_iinc (v := x4 + 1) (lv' := [(4, .int (x4 + 1)), (3, .int (wVl x4.toNatClampNeg)), (2, .int (x2 + (-1))), (0, .ref wo)]) hx hb dX2_comes_84 hl (k := 3) rfl (by rfl) (by decide) rfl (fun ls hl => ?_)
              refine lv_goto (tgt := 27) hx hb dX2_comes_87 (by decide) ?_
              exact ih (x2 + (-1)) (wVl x4.toNatClampNeg) (x4 + 1) h _ _ hP hD hS ls (lv_sub hl [3, 2, 1, 0] rfl)
          · have h := h.2 c_5
            refine lv_iinc (v := x2 + 1) (lv' := [(2, .int (x2 + 1)), (0, .ref wo), (3, .int x3), (4, .int x4)]) hx hb dX2_comes_56 hl (k := 1) rfl (by rfl) (by decide) rfl (fun ls hl => ?_)
            refine lv_goto (tgt := 76) hx hb dX2_comes_59 (by decide) ?_
            refine lv_aload_n hx hb dX2_comes_76 rfl (lv_at hl 1 rfl) ?_
            refine va_get (D := E.1) (ci := 2) (v := .ref wv) (C := RX2) (T := TX2) (N := 3) hx hb hts n_X2 hown hK hP 0 rfl rfl 2 (by decide) k_18 (fun _ h9 => h9) rfl dX2_comes_77 ?_
            refine lv_iload hx hb dX2_comes_80 (lv_at hl 3 rfl) ?_
            obtain ⟨o_10, h⟩ := h
            refine rc_iald hx hb hK hP 1 0 rfl rfl x4.toNatClampNeg rfl o_10 dX2_comes_82 ?_
            refine lv_istore_n (lv' := [(3, .int (wVl x4.toNatClampNeg)), (2, .int (x2 + 1)), (0, .ref wo), (4, .int x4)]) hx hb dX2_comes_83 rfl hl (by decide) rfl (fun ls hl => ?_)
            refine lv_iinc (v := x4 + 1) (lv' := [(4, .int (x4 + 1)), (3, .int (wVl x4.toNatClampNeg)), (2, .int (x2 + 1)), (0, .ref wo)]) hx hb dX2_comes_84 hl (k := 3) rfl (by rfl) (by decide) rfl (fun ls hl => ?_)
            refine lv_goto (tgt := 27) hx hb dX2_comes_87 (by decide) ?_
            exact ih (x2 + 1) (wVl x4.toNatClampNeg) (x4 + 1) h _ _ hP hD hS ls (lv_sub hl [3, 2, 1, 0] rfl)
  unfold wp_X2_comes at h
  obtain ⟨H, hH⟩ : ∃ H, H = s.heap := ⟨_, rfl⟩
  obtain ⟨locs, hlocs⟩ : ∃ locs : List Loc, locs = [] := ⟨_, rfl⟩
  have hP : va_P E.1 vwCl (rw_1 E wo wv wSo wSz wVl) H := by rw [hH]; exact hP
  have hS : va_S A s.heap H locs := by rw [hH, hlocs]; exact hS
  suffices hgo : W p l e ({ frames := 2, cells := 0, slots := 0, locals := 42 } : Room) s m args below meth c H locs 0 0 QQ (F0 m 0 ls []) from by rw [hH, hlocs] at hgo; exact hgo
  refine lv_aload_n hx hb dX2_comes_0 rfl (lv_at hl 0 rfl) ?_
  have hPc := hP
  have hDc := hD
  have hFc := rc_freeI hD hS hA
  refine va_calli (va_runV (As := []) (rest := []) ⟨hx, hb, hml, hown, hts⟩ (c_X2_firstNumber l E wo wv H.size wSo wSz wVl _ h) (cwV 0 hts gX2_comes_X2_firstNumber rfl rfl rfl (by decide +kernel) ⟨Nat.le_of_ble_eq_true rfl, Nat.le_of_ble_eq_true rfl⟩) ⟨fun a U g mk q => ⟨q.1, q.2.blind⟩, va_recv hK hPc (ci := 2) (q0 := 0) rfl rfl, fun U hU hW => ⟨rfl, by rw [hU], by rw [hU]; exact hPc, hE.call hS hFc hW hU, hDc.weaken (fun _ _ _ _ => trivial)⟩⟩ rfl rfl hl.1 rfl (lv_room (Nat.le_of_ble_eq_true rfl)) dX2_comes_1 ⟨Nat.zero_le _, Nat.zero_le _⟩) hS (fun q _ h => hFc q h) hFc (fun r_11 u t H1 locs ht hvm h hB hz1 hk1 hS => ?_)
  obtain ⟨hP1, hD1⟩ := hB
  rw [ht] at hP1
  have hP := hP1
  have hD := hD1.weaken (fun _ _ _ h => hFc _ h)
  generalize H1 = H at hP hS ⊢
  have hP : va_P E.1 vwCl (rw_1 E wo wv wSo wSz wVl) H := hP
  have hD : va_D A (rw_1 E wo wv wSo wSz wVl) := hD
  refine lv_istore_n (lv' := [(1, .int r_11), (0, .ref wo)]) hx hb dX2_comes_4 rfl hl (by decide) rfl (fun ls hl => ?_)
  refine lv_iload_n hx hb dX2_comes_5 rfl (lv_at hl 0 rfl) ?_
  refine lv_ldc hx hb hown k_22 dX2_comes_6 ?_
  refine lv_icmp_ne (tgt := 13) hx hb dX2_comes_8 (by decide) (fun c_12 => ?_) (fun c_12 => ?_)
  · have h := h.1 c_12
    refine lv_iconst (v := 0) hx hb dX2_comes_13 (by decide) ?_
    refine lv_istore_n (lv' := [(2, .int 0), (1, .int r_11), (0, .ref wo)]) hx hb dX2_comes_14 rfl hl (by decide) rfl (fun ls hl => ?_)
    refine lv_aload_n hx hb dX2_comes_15 rfl (lv_at hl 2 rfl) ?_
    refine va_get (D := E.1) (ci := 2) (v := .ref wv) (C := RX2) (T := TX2) (N := 3) hx hb hts n_X2 hown hK hP 0 rfl rfl 2 (by decide) k_18 (fun _ h9 => h9) rfl dX2_comes_16 ?_
    refine lv_iload_n hx hb dX2_comes_19 rfl (lv_at hl 1 rfl) ?_
    obtain ⟨o_13, h⟩ := h
    refine rc_iald hx hb hK hP 1 0 rfl rfl r_11.toNatClampNeg rfl o_13 dX2_comes_20 ?_
    refine lv_istore_n (lv' := [(3, .int (wVl r_11.toNatClampNeg)), (2, .int 0), (1, .int r_11), (0, .ref wo)]) hx hb dX2_comes_21 rfl hl (by decide) rfl (fun ls hl => ?_)
    refine lv_iload_n hx hb dX2_comes_22 rfl (lv_at hl 2 rfl) ?_
    refine lv_iconst (v := 1) hx hb dX2_comes_23 (by decide) ?_
    refine lv_iadd hx hb dX2_comes_24 ?_
    refine lv_istore (lv' := [(4, .int (r_11 + 1)), (3, .int (wVl r_11.toNatClampNeg)), (2, .int 0), (1, .int r_11), (0, .ref wo)]) hx hb dX2_comes_25 hl (by decide) rfl (fun ls hl => ?_)
    obtain ⟨n, h⟩ := h
    exact J27 n 0 (wVl r_11.toNatClampNeg) (r_11 + 1) h _ _ hP hD hS ls (lv_sub hl [4, 2, 1, 0] rfl)
  · have h := h.2 c_12
    refine lv_iconst (v := 0) hx hb dX2_comes_11 (by decide) ?_
    exact hret _ _ _ _ 0 () rfl h hP hD hS dX2_comes_12
def lp_X2_differences_28F (p1 : Int32) (wSz : Int32) (wVl : Nat → Int32)  (Q : Int32 → Prop) (R : Int32 → Int32 → Int32 → Int32 → Prop) (x2 : Int32) (x3 : Int32) (x4 : Int32) (x5 : Int32) : Prop :=
  ((wSz ≤ x5 → Q x4) ∧ (¬ (wSz ≤ x5) → wp_X2_isNumber x5 wVl (fun (r_2 : Int32) => ((r_2 = 0 → R x2 x3 x4 (x5 + 1)) ∧ (¬ (r_2 = 0) → (vp_in x5 24 ∧ wp_X6_held (x3 - (p1 * (x5 - x2))) 0 99 (fun (r_5 : Int32) => R x2 x3 (x4 + (rc_abs ((wVl x5.toNatClampNeg) - (3 * r_5)))) (x5 + 1))))))))
def lp_X2_differences_28 (p1 : Int32) (wSz : Int32) (wVl : Nat → Int32)  (Q : Int32 → Prop) (n : Nat) : Int32 → Int32 → Int32 → Int32 → Prop :=
  Nat.rec (motive := fun _ => Int32 → Int32 → Int32 → Int32 → Prop) (fun _ _ _ _ => False) (fun _ r => lp_X2_differences_28F p1 wSz wVl Q r) n
def wp_X2_differences (p1 : Int32) (wSz : Int32) (wVl : Nat → Int32) (Q : Int32 → Prop) : Prop :=
  wp_X2_firstNumber wSz wVl (fun (r_6 : Int32) => ((¬ r_6 = (-1000000005) → (vp_in r_6 24 ∧ (∃ n : Nat, lp_X2_differences_28 p1 wSz wVl Q n r_6 ((wVl r_6.toNatClampNeg) / 3) 0 r_6))) ∧ (r_6 = (-1000000005) → Q 0)))
set_option maxHeartbeats 4000000 in
set_option maxRecDepth 100000 in
theorem c_X2_differences (l : Launch) (E : gE) (wo wv : Nat) (sz : Nat) (wSo : Int32) (wSz : Int32) (wVl : Nat → Int32) (p1 : Int32)  (Q : Int32 → Prop) (h : wp_X2_differences p1 wSz wVl Q) : Met l yX2_differences wsX2_differences ({ frames := 2, cells := 0, slots := 0, locals := 62 } : Room) (va_Pc [.ref wo, .int p1] (rc_B E (rw_1 E wo wv wSo wSz wVl) sz)) (va_Qi (S := Unit) (fun (r : Int32) (u : Unit) => Q r) (fun u t => rc_C E (va_A (rw_1 E wo wv wSo wSz wVl) sz) (rw_1 E wo wv wSo wSz wVl) t) (va_A (rw_1 E wo wv wSo wSz wVl) sz)) 0 0 (va_A (rw_1 E wo wv wSo wSz wVl) sz) := by
  refine rc_enterI (cc := cX2_differences) (maxL := 6) (by decide) rfl (Nat.le_of_ble_eq_true rfl) ?_
  intro p e s m args below meth c QQ A hx hb hml hown hts hmn hE hP hD hA hret ls hl
  have hown : s.vm.findClass RX2 = some m.cls := hown
  have hK := hE.1
  have hS : va_S A s.heap s.heap [] := va_S.rf
  have hl : lv_has ls 6 [(0, .ref wo), (1, .int p1)] := hl
  have n_X2 : ∀ w ∈ wsX20, w ∈ wsX2_differences := fun _ h => List.mem_cons_of_mem _ (List.mem_append_right _ h)
  have k_15 := hts (.fieldLink RX2 15 "RidgeClaps$Row" "size" "I") (List.mem_of_getElem? (i := 3) rfl)
  have k_18 := hts (.fieldLink RX2 18 "RidgeClaps$Row" "values" "[I") (List.mem_of_getElem? (i := 2) rfl)
  have k_iX6 := hts (.initialized RX6) (List.mem_of_getElem? (i := 18) rfl)
  have k_sX6_held := hts (.static yX6_held) (List.mem_of_getElem? (i := 17) rfl)
  have k_51 := hts (.methodLink RX2 51 Lib.Math.abs.name) (List.mem_of_getElem? (i := 4) rfl)
  have k_sabs := hts (.static Lib.Math.abs.name) (List.mem_of_getElem? (i := 5) rfl)
  have k_math := hts (.initialized "java/lang/Math") (List.mem_of_getElem? (i := 6) rfl)
  have k_cabs := hts (.code Lib.Math.abs.name Lib.Math.abs.code 1 (some .int)) (List.mem_of_getElem? (i := 7) rfl)
  have k_22 := hts (.constant RX2 22 (-1000000005)) (List.mem_of_getElem? (i := 1) rfl)
  have J28 : ∀ (n : Nat) (x2 : Int32) (x3 : Int32) (x4 : Int32) (x5 : Int32), lp_X2_differences_28 p1 wSz wVl Q n x2 x3 x4 x5 → ∀ (H : Heap) (locs : List Loc), va_P E.1 vwCl (rw_1 E wo wv wSo wSz wVl) H → va_D A (rw_1 E wo wv wSo wSz wVl) → va_S A s.heap H locs → ∀ ls : Array Slot, lv_has ls 6 [(0, .ref wo), (1, .int p1), (2, .int x2), (3, .int x3), (4, .int x4), (5, .int x5)] → W p l e ({ frames := 2, cells := 0, slots := 0, locals := 62 } : Room) s m args below meth c H locs 0 0 QQ (F0 m 28 ls []) := by
    intro n
    induction n with
    | zero =>
      intro x2 x3 x4 x5 h
      exact False.elim h
    | succ n ih =>
      intro x2 x3 x4 x5 h H locs hP hD hS ls hl
      have h : lp_X2_differences_28F p1 wSz wVl Q (lp_X2_differences_28 p1 wSz wVl Q n) x2 x3 x4 x5 := h
      unfold lp_X2_differences_28F at h
      refine lv_iload hx hb dX2_differences_28 (lv_at hl 5 rfl) ?_
      refine lv_aload_n hx hb dX2_differences_30 rfl (lv_at hl 0 rfl) ?_
      refine va_get (D := E.1) (ci := 2) (v := .int wSz) (C := RX2) (T := TX2) (N := 3) hx hb hts n_X2 hown hK hP 0 rfl rfl 1 (by decide) k_15 (fun _ h9 => h9) rfl dX2_differences_31 ?_
      refine lv_icmp_ge (tgt := 84) hx hb dX2_differences_34 (by decide) (fun c_1 => ?_) (fun c_1 => ?_)
      · have h := h.1 c_1
        refine lv_iload hx hb dX2_differences_84 (lv_at hl 4 rfl) ?_
        exact hret _ _ _ _ x4 () rfl h hP hD hS dX2_differences_86
      · have h := h.2 c_1
        refine lv_aload_n hx hb dX2_differences_37 rfl (lv_at hl 0 rfl) ?_
        refine lv_iload hx hb dX2_differences_38 (lv_at hl 5 rfl) ?_
        have hPc := hP
        have hDc := hD
        have hFc := rc_freeI hD hS hA
        refine va_calli (va_runV (As := [.int x5]) (rest := []) ⟨hx, hb, hml, hown, hts⟩ (c_X2_isNumber l E wo wv H.size wSo wSz wVl x5 _ h) (cwV 1 hts gX2_differences_X2_isNumber rfl rfl rfl (by decide +kernel) ⟨Nat.le_of_ble_eq_true rfl, Nat.le_of_ble_eq_true rfl⟩) ⟨fun a U g mk q => ⟨q.1, q.2.blind⟩, va_recv hK hPc (ci := 2) (q0 := 0) rfl rfl, fun U hU hW => ⟨rfl, by rw [hU], by rw [hU]; exact hPc, hE.call hS hFc hW hU, hDc.weaken (fun _ _ _ _ => trivial)⟩⟩ rfl rfl hl.1 rfl (lv_room (Nat.le_of_ble_eq_true rfl)) dX2_differences_40 ⟨Nat.zero_le _, Nat.zero_le _⟩) hS (fun q _ h => hFc q h) hFc (fun r_2 u t H1 locs ht hvm h hB hz1 hk1 hS => ?_)
        obtain ⟨hP1, hD1⟩ := hB
        rw [ht] at hP1
        have hP := hP1
        have hD := hD1.weaken (fun _ _ _ h => hFc _ h)
        generalize H1 = H at hP hS ⊢
        have hP : va_P E.1 vwCl (rw_1 E wo wv wSo wSz wVl) H := hP
        have hD : va_D A (rw_1 E wo wv wSo wSz wVl) := hD
        refine lv_if_eq (tgt := 78) hx hb dX2_differences_43 (by decide) (fun c_3 => ?_) (fun c_3 => ?_)
        · have h := h.1 c_3
          refine lv_iinc (v := x5 + 1) (lv' := [(5, .int (x5 + 1)), (0, .ref wo), (1, .int p1), (2, .int x2), (3, .int x3), (4, .int x4)]) hx hb dX2_differences_78 hl (k := 5) rfl (by rfl) (by decide) rfl (fun ls hl => ?_)
          refine lv_goto (tgt := 28) hx hb dX2_differences_81 (by decide) ?_
          exact ih x2 x3 x4 (x5 + 1) h _ _ hP hD hS ls (lv_sub hl [1, 2, 3, 4, 5, 0] rfl)
        · have h := h.2 c_3
          refine lv_iload hx hb dX2_differences_46 (lv_at hl 4 rfl) ?_
          refine lv_aload_n hx hb dX2_differences_48 rfl (lv_at hl 0 rfl) ?_
          refine va_get (D := E.1) (ci := 2) (v := .ref wv) (C := RX2) (T := TX2) (N := 3) hx hb hts n_X2 hown hK hP 0 rfl rfl 2 (by decide) k_18 (fun _ h9 => h9) rfl dX2_differences_49 ?_
          refine lv_iload hx hb dX2_differences_52 (lv_at hl 5 rfl) ?_
          obtain ⟨o_4, h⟩ := h
          refine rc_iald hx hb hK hP 1 0 rfl rfl x5.toNatClampNeg rfl o_4 dX2_differences_54 ?_
          refine lv_iconst (v := 3) hx hb dX2_differences_55 (by decide) ?_
          refine lv_iload_n hx hb dX2_differences_56 rfl (lv_at hl 3 rfl) ?_
          refine lv_iload_n hx hb dX2_differences_57 rfl (lv_at hl 1 rfl) ?_
          refine lv_iload hx hb dX2_differences_58 (lv_at hl 5 rfl) ?_
          refine lv_iload_n hx hb dX2_differences_60 rfl (lv_at hl 2 rfl) ?_
          refine lv_isub hx hb dX2_differences_61 ?_
          refine lv_imul hx hb dX2_differences_62 ?_
          refine lv_isub hx hb dX2_differences_63 ?_
          refine lv_iconst (v := 0) hx hb dX2_differences_64 (by decide) ?_
          refine lv_bipush (v := 99) hx hb dX2_differences_65 (by decide) ?_
          have hPc := hP.sub (ws' := []) [] rfl
          have hDc := hD.sub (ws' := []) [] (by decide) rfl
          have hFc := va_free (wc := []) hD hS hA [] rfl
          refine va_calli (va_runSN (As := [.int (x3 - (p1 * (x5 - x2))), .int 0, .int 99]) (rest := [.int 3, .int (wVl x5.toNatClampNeg), .int x4]) ⟨hx, hb, hml, hown, hts⟩ (c_X6_held l E H.size (x3 - (p1 * (x5 - x2))) 0 99 _ h) ⟨va_cnB 3 hts gX2_differences_X6_held_n47 rfl rfl rfl (hE.2.1 8 _ rfl) k_iX6 (by decide +kernel) ⟨Nat.le_of_ble_eq_true rfl, Nat.le_of_ble_eq_true rfl⟩, k_sX6_held, trivial⟩ ⟨fun a U g mk q => ⟨q.1, q.2.blind⟩, fun U hU hW => ⟨rfl, by rw [hU], by rw [hU]; exact hPc, hE.call hS hFc hW hU, hDc.weaken (fun _ _ _ _ => trivial)⟩⟩ rfl rfl hl.1 rfl (lv_room (Nat.le_of_ble_eq_true rfl)) dX2_differences_67 ⟨Nat.zero_le _, Nat.zero_le _⟩) hS (fun q _ h => hFc q h) hFc (fun r_5 u t H1 locs ht hvm h hB hz1 hk1 hS => ?_)
          obtain ⟨hP1, hD1⟩ := hB
          rw [ht] at hP1
          obtain ⟨hP, hD⟩ := rc_foc hP hD [] [none, none] (by decide) rfl hk1 hP1 rfl
          generalize H1 = H at hP hS ⊢
          have hP : va_P E.1 vwCl (rw_1 E wo wv wSo wSz wVl) H := hP
          have hD : va_D A (rw_1 E wo wv wSo wSz wVl) := hD
          refine lv_imul hx hb dX2_differences_70 ?_
          refine lv_isub hx hb dX2_differences_71 ?_
          refine va_mabs hx hb (hml.trans hl.1.symm) hown k_51 k_sabs k_math k_cabs (Nat.le_of_ble_eq_true rfl) (Nat.le_of_ble_eq_true rfl) (Nat.zero_le _) (Nat.zero_le _) dX2_differences_72 ?_
          refine W.eq (g2 := F0 m 75 ls [.int (rc_abs ((wVl x5.toNatClampNeg) - (3 * r_5))), .int x4]) rfl ?_
          refine lv_iadd hx hb dX2_differences_75 ?_
          refine lv_istore (lv' := [(4, .int (x4 + (rc_abs ((wVl x5.toNatClampNeg) - (3 * r_5))))), (0, .ref wo), (1, .int p1), (2, .int x2), (3, .int x3), (5, .int x5)]) hx hb dX2_differences_76 hl (by decide) rfl (fun ls hl => ?_)
          refine lv_iinc (v := x5 + 1) (lv' := [(5, .int (x5 + 1)), (4, .int (x4 + (rc_abs ((wVl x5.toNatClampNeg) - (3 * r_5))))), (0, .ref wo), (1, .int p1), (2, .int x2), (3, .int x3)]) hx hb dX2_differences_78 hl (k := 5) rfl (by rfl) (by decide) rfl (fun ls hl => ?_)
          refine lv_goto (tgt := 28) hx hb dX2_differences_81 (by decide) ?_
          exact ih x2 x3 (x4 + (rc_abs ((wVl x5.toNatClampNeg) - (3 * r_5)))) (x5 + 1) h _ _ hP hD hS ls (lv_sub hl [2, 3, 4, 5, 1, 0] rfl)
  unfold wp_X2_differences at h
  obtain ⟨H, hH⟩ : ∃ H, H = s.heap := ⟨_, rfl⟩
  obtain ⟨locs, hlocs⟩ : ∃ locs : List Loc, locs = [] := ⟨_, rfl⟩
  have hP : va_P E.1 vwCl (rw_1 E wo wv wSo wSz wVl) H := by rw [hH]; exact hP
  have hS : va_S A s.heap H locs := by rw [hH, hlocs]; exact hS
  suffices hgo : W p l e ({ frames := 2, cells := 0, slots := 0, locals := 62 } : Room) s m args below meth c H locs 0 0 QQ (F0 m 0 ls []) from by rw [hH, hlocs] at hgo; exact hgo
  refine lv_aload_n hx hb dX2_differences_0 rfl (lv_at hl 0 rfl) ?_
  have hPc := hP
  have hDc := hD
  have hFc := rc_freeI hD hS hA
  refine va_calli (va_runV (As := []) (rest := []) ⟨hx, hb, hml, hown, hts⟩ (c_X2_firstNumber l E wo wv H.size wSo wSz wVl _ h) (cwV 0 hts gX2_differences_X2_firstNumber rfl rfl rfl (by decide +kernel) ⟨Nat.le_of_ble_eq_true rfl, Nat.le_of_ble_eq_true rfl⟩) ⟨fun a U g mk q => ⟨q.1, q.2.blind⟩, va_recv hK hPc (ci := 2) (q0 := 0) rfl rfl, fun U hU hW => ⟨rfl, by rw [hU], by rw [hU]; exact hPc, hE.call hS hFc hW hU, hDc.weaken (fun _ _ _ _ => trivial)⟩⟩ rfl rfl hl.1 rfl (lv_room (Nat.le_of_ble_eq_true rfl)) dX2_differences_1 ⟨Nat.zero_le _, Nat.zero_le _⟩) hS (fun q _ h => hFc q h) hFc (fun r_6 u t H1 locs ht hvm h hB hz1 hk1 hS => ?_)
  obtain ⟨hP1, hD1⟩ := hB
  rw [ht] at hP1
  have hP := hP1
  have hD := hD1.weaken (fun _ _ _ h => hFc _ h)
  generalize H1 = H at hP hS ⊢
  have hP : va_P E.1 vwCl (rw_1 E wo wv wSo wSz wVl) H := hP
  have hD : va_D A (rw_1 E wo wv wSo wSz wVl) := hD
  refine lv_istore_n (lv' := [(2, .int r_6), (0, .ref wo), (1, .int p1)]) hx hb dX2_differences_4 rfl hl (by decide) rfl (fun ls hl => ?_)
  refine lv_iload_n hx hb dX2_differences_5 rfl (lv_at hl 0 rfl) ?_
  refine lv_ldc hx hb hown k_22 dX2_differences_6 ?_
  refine lv_icmp_ne (tgt := 13) hx hb dX2_differences_8 (by decide) (fun c_7 => ?_) (fun c_7 => ?_)
  · have h := h.1 c_7
    refine lv_aload_n hx hb dX2_differences_13 rfl (lv_at hl 1 rfl) ?_
    refine va_get (D := E.1) (ci := 2) (v := .ref wv) (C := RX2) (T := TX2) (N := 3) hx hb hts n_X2 hown hK hP 0 rfl rfl 2 (by decide) k_18 (fun _ h9 => h9) rfl dX2_differences_14 ?_
    refine lv_iload_n hx hb dX2_differences_17 rfl (lv_at hl 0 rfl) ?_
    obtain ⟨o_8, h⟩ := h
    refine rc_iald hx hb hK hP 1 0 rfl rfl r_6.toNatClampNeg rfl o_8 dX2_differences_18 ?_
    refine lv_iconst (v := 3) hx hb dX2_differences_19 (by decide) ?_
    refine lv_idiv hx hb dX2_differences_20 (by decide) ?_
    refine lv_istore_n (lv' := [(3, .int ((wVl r_6.toNatClampNeg) / 3)), (2, .int r_6), (0, .ref wo), (1, .int p1)]) hx hb dX2_differences_21 rfl hl (by decide) rfl (fun ls hl => ?_)
    refine lv_iconst (v := 0) hx hb dX2_differences_22 (by decide) ?_
    refine lv_istore (lv' := [(4, .int 0), (3, .int ((wVl r_6.toNatClampNeg) / 3)), (2, .int r_6), (0, .ref wo), (1, .int p1)]) hx hb dX2_differences_23 hl (by decide) rfl (fun ls hl => ?_)
    refine lv_iload_n hx hb dX2_differences_25 rfl (lv_at hl 2 rfl) ?_
    refine lv_istore (lv' := [(5, .int r_6), (4, .int 0), (3, .int ((wVl r_6.toNatClampNeg) / 3)), (2, .int r_6), (0, .ref wo), (1, .int p1)]) hx hb dX2_differences_26 hl (by decide) rfl (fun ls hl => ?_)
    obtain ⟨n, h⟩ := h
    exact J28 n r_6 ((wVl r_6.toNatClampNeg) / 3) 0 r_6 h _ _ hP hD hS ls (lv_sub hl [4, 5, 3, 2, 1, 0] rfl)
  · have h := h.2 c_7
    refine lv_iconst (v := 0) hx hb dX2_differences_11 (by decide) ?_
    exact hret _ _ _ _ 0 () rfl h hP hD hS dX2_differences_12
def lp_X2_explainingPace_12F (wSz : Int32) (wVl : Nat → Int32)  (Q : Int32 → Prop) (R : Int32 → Int32 → Int32 → Prop) (x1 : Int32) (x2 : Int32) (x3 : Int32) : Prop :=
  ((9 < x3 → Q x1) ∧ (¬ (9 < x3) → wp_X2_differences x3 wSz wVl (fun (r_2 : Int32) => ((x2 ≤ r_2 → R x1 x2 (x3 + 1)) ∧ (¬ (x2 ≤ r_2) → R x3 r_2 (x3 + 1))))))
def lp_X2_explainingPace_12 (wSz : Int32) (wVl : Nat → Int32)  (Q : Int32 → Prop) (n : Nat) : Int32 → Int32 → Int32 → Prop :=
  Nat.rec (motive := fun _ => Int32 → Int32 → Int32 → Prop) (fun _ _ _ => False) (fun _ r => lp_X2_explainingPace_12F wSz wVl Q r) n
def wp_X2_explainingPace (wSz : Int32) (wVl : Nat → Int32) (Q : Int32 → Prop) : Prop :=
  wp_X2_differences (-9) wSz wVl (fun (r_4 : Int32) => (∃ n : Nat, lp_X2_explainingPace_12 wSz wVl Q n (-9) r_4 (-8)))
set_option maxHeartbeats 4000000 in
set_option maxRecDepth 100000 in
theorem c_X2_explainingPace (l : Launch) (E : gE) (wo wv : Nat) (sz : Nat) (wSo : Int32) (wSz : Int32) (wVl : Nat → Int32)   (Q : Int32 → Prop) (h : wp_X2_explainingPace wSz wVl Q) : Met l yX2_explainingPace wsX2_explainingPace ({ frames := 3, cells := 0, slots := 0, locals := 87 } : Room) (va_Pc [.ref wo] (rc_B E (rw_1 E wo wv wSo wSz wVl) sz)) (va_Qi (S := Unit) (fun (r : Int32) (u : Unit) => Q r) (fun u t => rc_C E (va_A (rw_1 E wo wv wSo wSz wVl) sz) (rw_1 E wo wv wSo wSz wVl) t) (va_A (rw_1 E wo wv wSo wSz wVl) sz)) 0 0 (va_A (rw_1 E wo wv wSo wSz wVl) sz) := by
  refine rc_enterI (cc := cX2_explainingPace) (maxL := 5) (by decide) rfl (Nat.le_of_ble_eq_true rfl) ?_
  intro p e s m args below meth c QQ A hx hb hml hown hts hmn hE hP hD hA hret ls hl
  have hown : s.vm.findClass RX2 = some m.cls := hown
  have hK := hE.1
  have hS : va_S A s.heap s.heap [] := va_S.rf
  have hl : lv_has ls 5 [(0, .ref wo)] := hl
  have J12 : ∀ (n : Nat) (x1 : Int32) (x2 : Int32) (x3 : Int32), lp_X2_explainingPace_12 wSz wVl Q n x1 x2 x3 → ∀ (H : Heap) (locs : List Loc), va_P E.1 vwCl (rw_1 E wo wv wSo wSz wVl) H → va_D A (rw_1 E wo wv wSo wSz wVl) → va_S A s.heap H locs → ∀ ls : Array Slot, lv_has ls 5 [(0, .ref wo), (1, .int x1), (2, .int x2), (3, .int x3)] → W p l e ({ frames := 3, cells := 0, slots := 0, locals := 87 } : Room) s m args below meth c H locs 0 0 QQ (F0 m 12 ls []) := by
    intro n
    induction n with
    | zero =>
      intro x1 x2 x3 h
      exact False.elim h
    | succ n ih =>
      intro x1 x2 x3 h H locs hP hD hS ls hl
      have h : lp_X2_explainingPace_12F wSz wVl Q (lp_X2_explainingPace_12 wSz wVl Q n) x1 x2 x3 := h
      unfold lp_X2_explainingPace_12F at h
      refine lv_iload_n hx hb dX2_explainingPace_12 rfl (lv_at hl 3 rfl) ?_
      refine lv_bipush (v := 9) hx hb dX2_explainingPace_13 (by decide) ?_
      refine lv_icmp_gt (tgt := 42) hx hb dX2_explainingPace_15 (by decide) (fun c_1 => ?_) (fun c_1 => ?_)
      · have h := h.1 c_1
        refine lv_iload_n hx hb dX2_explainingPace_42 rfl (lv_at hl 1 rfl) ?_
        exact hret _ _ _ _ x1 () rfl h hP hD hS dX2_explainingPace_43
      · have h := h.2 c_1
        refine lv_aload_n hx hb dX2_explainingPace_18 rfl (lv_at hl 0 rfl) ?_
        refine lv_iload_n hx hb dX2_explainingPace_19 rfl (lv_at hl 3 rfl) ?_
        have hPc := hP
        have hDc := hD
        have hFc := rc_freeI hD hS hA
        refine va_calli (va_runV (As := [.int x3]) (rest := []) ⟨hx, hb, hml, hown, hts⟩ (c_X2_differences l E wo wv H.size wSo wSz wVl x3 _ h) (cwV 1 hts gX2_explainingPace_X2_differences rfl rfl rfl (by decide +kernel) ⟨Nat.le_of_ble_eq_true rfl, Nat.le_of_ble_eq_true rfl⟩) ⟨fun a U g mk q => ⟨q.1, q.2.blind⟩, va_recv hK hPc (ci := 2) (q0 := 0) rfl rfl, fun U hU hW => ⟨rfl, by rw [hU], by rw [hU]; exact hPc, hE.call hS hFc hW hU, hDc.weaken (fun _ _ _ _ => trivial)⟩⟩ rfl rfl hl.1 rfl (lv_room (Nat.le_of_ble_eq_true rfl)) dX2_explainingPace_20 ⟨Nat.zero_le _, Nat.zero_le _⟩) hS (fun q _ h => hFc q h) hFc (fun r_2 u t H1 locs ht hvm h hB hz1 hk1 hS => ?_)
        obtain ⟨hP1, hD1⟩ := hB
        rw [ht] at hP1
        have hP := hP1
        have hD := hD1.weaken (fun _ _ _ h => hFc _ h)
        generalize H1 = H at hP hS ⊢
        have hP : va_P E.1 vwCl (rw_1 E wo wv wSo wSz wVl) H := hP
        have hD : va_D A (rw_1 E wo wv wSo wSz wVl) := hD
        refine lv_istore (lv' := [(4, .int r_2), (0, .ref wo), (1, .int x1), (2, .int x2), (3, .int x3)]) hx hb dX2_explainingPace_23 hl (by decide) rfl (fun ls hl => ?_)
        refine lv_iload hx hb dX2_explainingPace_25 (lv_at hl 0 rfl) ?_
        refine lv_iload_n hx hb dX2_explainingPace_27 rfl (lv_at hl 3 rfl) ?_
        refine lv_icmp_ge (tgt := 36) hx hb dX2_explainingPace_28 (by decide) (fun c_3 => ?_) (fun c_3 => ?_)
        · have h := h.1 c_3
          refine lv_iinc (v := x3 + 1) (lv' := [(3, .int (x3 + 1)), (4, .int r_2), (0, .ref wo), (1, .int x1), (2, .int x2)]) hx hb dX2_explainingPace_36 hl (k := 4) rfl (by rfl) (by decide) rfl (fun ls hl => ?_)
          refine lv_goto (tgt := 12) hx hb dX2_explainingPace_39 (by decide) ?_
          exact ih x1 x2 (x3 + 1) h _ _ hP hD hS ls (lv_sub hl [2, 3, 4, 0] rfl)
        · have h := h.2 c_3
          refine lv_iload hx hb dX2_explainingPace_31 (lv_at hl 0 rfl) ?_
          refine lv_istore_n (lv' := [(2, .int r_2), (4, .int r_2), (0, .ref wo), (1, .int x1), (3, .int x3)]) hx hb dX2_explainingPace_33 rfl hl (by decide) rfl (fun ls hl => ?_)
          refine lv_iload_n hx hb dX2_explainingPace_34 rfl (lv_at hl 4 rfl) ?_
          refine lv_istore_n (lv' := [(1, .int x3), (2, .int r_2), (4, .int r_2), (0, .ref wo), (3, .int x3)]) hx hb dX2_explainingPace_35 rfl hl (by decide) rfl (fun ls hl => ?_)
          refine lv_iinc (v := x3 + 1) (lv' := [(3, .int (x3 + 1)), (1, .int x3), (2, .int r_2), (4, .int r_2), (0, .ref wo)]) hx hb dX2_explainingPace_36 hl (k := 4) rfl (by rfl) (by decide) rfl (fun ls hl => ?_)
          refine lv_goto (tgt := 12) hx hb dX2_explainingPace_39 (by decide) ?_
          exact ih x3 r_2 (x3 + 1) h _ _ hP hD hS ls (lv_sub hl [4, 1, 2, 0] rfl)
  unfold wp_X2_explainingPace at h
  obtain ⟨H, hH⟩ : ∃ H, H = s.heap := ⟨_, rfl⟩
  obtain ⟨locs, hlocs⟩ : ∃ locs : List Loc, locs = [] := ⟨_, rfl⟩
  have hP : va_P E.1 vwCl (rw_1 E wo wv wSo wSz wVl) H := by rw [hH]; exact hP
  have hS : va_S A s.heap H locs := by rw [hH, hlocs]; exact hS
  suffices hgo : W p l e ({ frames := 3, cells := 0, slots := 0, locals := 87 } : Room) s m args below meth c H locs 0 0 QQ (F0 m 0 ls []) from by rw [hH, hlocs] at hgo; exact hgo
  refine lv_bipush (v := (-9)) hx hb dX2_explainingPace_0 (by decide) ?_
  refine lv_istore_n (lv' := [(1, .int (-9)), (0, .ref wo)]) hx hb dX2_explainingPace_2 rfl hl (by decide) rfl (fun ls hl => ?_)
  refine lv_aload_n hx hb dX2_explainingPace_3 rfl (lv_at hl 1 rfl) ?_
  refine lv_iload_n hx hb dX2_explainingPace_4 rfl (lv_at hl 0 rfl) ?_
  have hPc := hP
  have hDc := hD
  have hFc := rc_freeI hD hS hA
  refine va_calli (va_runV (As := [.int (-9)]) (rest := []) ⟨hx, hb, hml, hown, hts⟩ (c_X2_differences l E wo wv H.size wSo wSz wVl (-9) _ h) (cwV 1 hts gX2_explainingPace_X2_differences rfl rfl rfl (by decide +kernel) ⟨Nat.le_of_ble_eq_true rfl, Nat.le_of_ble_eq_true rfl⟩) ⟨fun a U g mk q => ⟨q.1, q.2.blind⟩, va_recv hK hPc (ci := 2) (q0 := 0) rfl rfl, fun U hU hW => ⟨rfl, by rw [hU], by rw [hU]; exact hPc, hE.call hS hFc hW hU, hDc.weaken (fun _ _ _ _ => trivial)⟩⟩ rfl rfl hl.1 rfl (lv_room (Nat.le_of_ble_eq_true rfl)) dX2_explainingPace_5 ⟨Nat.zero_le _, Nat.zero_le _⟩) hS (fun q _ h => hFc q h) hFc (fun r_4 u t H1 locs ht hvm h hB hz1 hk1 hS => ?_)
  obtain ⟨hP1, hD1⟩ := hB
  rw [ht] at hP1
  have hP := hP1
  have hD := hD1.weaken (fun _ _ _ h => hFc _ h)
  generalize H1 = H at hP hS ⊢
  have hP : va_P E.1 vwCl (rw_1 E wo wv wSo wSz wVl) H := hP
  have hD : va_D A (rw_1 E wo wv wSo wSz wVl) := hD
  refine lv_istore_n (lv' := [(2, .int r_4), (1, .int (-9)), (0, .ref wo)]) hx hb dX2_explainingPace_8 rfl hl (by decide) rfl (fun ls hl => ?_)
  refine lv_bipush (v := (-8)) hx hb dX2_explainingPace_9 (by decide) ?_
  refine lv_istore_n (lv' := [(3, .int (-8)), (2, .int r_4), (1, .int (-9)), (0, .ref wo)]) hx hb dX2_explainingPace_11 rfl hl (by decide) rfl (fun ls hl => ?_)
  obtain ⟨n, h⟩ := h
  exact J12 n (-9) r_4 (-8) h _ _ hP hD hS ls (lv_sub hl [3, 2, 1, 0] rfl)
