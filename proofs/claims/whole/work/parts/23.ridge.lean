def wp_X1_has (p1 : Int32) (rSz : Int32) (Q : Int32 → Prop) : Prop :=
  ((p1 < 0 → Q 0) ∧ (¬ (p1 < 0) → ((rSz ≤ p1 → Q 0) ∧ (¬ (rSz ≤ p1) → Q 1))))
set_option maxHeartbeats 4000000 in
set_option maxRecDepth 100000 in
theorem c_X1_has (l : Launch) (E : gE) (ro rk rh rd rt rl rs : Nat) (sz : Nat) (rSz : Int32) (rTc : Int32) (rFa : Int32) (rPa : Int32) (rPy : Int32) (rMi : Int32) (rMe : Int32) (rSr : Int32) (rZ : Int32) (rKi : Nat → Int32) (rHe : Nat → Int32) (rDo : Nat → Int32) (rTx : Nat → Option Nat) (rLa : Nat → Int32) (rSk : Nat → Int32) (p1 : Int32) (LT : List Nat) (pk : Nat → Int32) (pv : Nat → Int32) (pa : Nat → Nat) (pn : Nat → Nat) (tc : Nat → Nat → Int32) (Q : Int32 → Prop) (h : wp_X1_has p1 rSz Q) : Met l yX1_has wsX1_has ({ frames := 0, cells := 0, slots := 0, locals := 0 } : Room) (va_Pc [.ref ro, .int p1] (rc_B E (rw_4 E ro rk rh rd rt rl rs rSz rTc rFa rPa rPy rMi rMe rSr rZ rKi rHe rDo rTx rLa rSk ++ rc_tp E LT pk pv pa pn tc) sz)) (va_Qi (S := Unit) (fun (r : Int32) (u : Unit) => Q r) (fun u t => rc_C E (va_A (rw_4 E ro rk rh rd rt rl rs rSz rTc rFa rPa rPy rMi rMe rSr rZ rKi rHe rDo rTx rLa rSk ++ rc_tp E LT pk pv pa pn tc) sz) (rw_4 E ro rk rh rd rt rl rs rSz rTc rFa rPa rPy rMi rMe rSr rZ rKi rHe rDo rTx rLa rSk ++ rc_tp E LT pk pv pa pn tc) t) (va_A (rw_4 E ro rk rh rd rt rl rs rSz rTc rFa rPa rPy rMi rMe rSr rZ rKi rHe rDo rTx rLa rSk ++ rc_tp E LT pk pv pa pn tc) sz)) 0 0 (va_A (rw_4 E ro rk rh rd rt rl rs rSz rTc rFa rPa rPy rMi rMe rSr rZ rKi rHe rDo rTx rLa rSk ++ rc_tp E LT pk pv pa pn tc) sz) := by
  refine rc_enterI (cc := cX1_has) (maxL := 2) (by decide) rfl (Nat.le_of_ble_eq_true rfl) ?_
  intro p e s m args below meth c QQ A hx hb hml hown hts hmn hE hP hD hA hret ls hl
  have hown : s.vm.findClass RX1 = some m.cls := hown
  have hK := hE.1
  have hS : va_S A s.heap s.heap [] := va_S.rf
  have hl : lv_has ls 2 [(0, .ref ro), (1, .int p1)] := hl
  have n_X1 : ∀ w ∈ wsX10, w ∈ wsX1_has := fun _ h => List.mem_cons_of_mem _ (List.mem_append_right _ h)
  have k_21 := hts (.fieldLink RX1 21 "RidgeClaps$Ridge" "size" "I") (List.mem_of_getElem? (i := 1) rfl)
  unfold wp_X1_has at h
  obtain ⟨H, hH⟩ : ∃ H, H = s.heap := ⟨_, rfl⟩
  obtain ⟨locs, hlocs⟩ : ∃ locs : List Loc, locs = [] := ⟨_, rfl⟩
  have hP : va_P E.1 vwCl (rw_4 E ro rk rh rd rt rl rs rSz rTc rFa rPa rPy rMi rMe rSr rZ rKi rHe rDo rTx rLa rSk ++ rc_tp E LT pk pv pa pn tc) H := by rw [hH]; exact hP
  have hS : va_S A s.heap H locs := by rw [hH, hlocs]; exact hS
  suffices hgo : W p l e ({ frames := 0, cells := 0, slots := 0, locals := 0 } : Room) s m args below meth c H locs 0 0 QQ (F0 m 0 ls []) from by rw [hH, hlocs] at hgo; exact hgo
  refine lv_iload_n hx hb dX1_has_0 rfl (lv_at hl 1 rfl) ?_
  refine lv_if_lt (tgt := 16) hx hb dX1_has_1 (by decide) (fun c_1 => ?_) (fun c_1 => ?_)
  · have h := h.1 c_1
    refine lv_iconst (v := 0) hx hb dX1_has_16 (by decide) ?_
    exact hret _ _ _ _ 0 () (by decide) h hP hD hS dX1_has_17
  · have h := h.2 c_1
    refine lv_iload_n hx hb dX1_has_4 rfl (lv_at hl 1 rfl) ?_
    refine lv_aload_n hx hb dX1_has_5 rfl (lv_at hl 0 rfl) ?_
    refine va_get (D := E.1) (ci := 1) (v := .int rSz) (C := RX1) (T := TX1) (N := 15) hx hb hts n_X1 hown hK hP 0 rfl rfl 3 (by decide) k_21 (fun _ h9 => h9) rfl dX1_has_6 ?_
    refine lv_icmp_ge (tgt := 16) hx hb dX1_has_9 (by decide) (fun c_2 => ?_) (fun c_2 => ?_)
    · have h := h.1 c_2
      refine lv_iconst (v := 0) hx hb dX1_has_16 (by decide) ?_
      exact hret _ _ _ _ 0 () (by decide) h hP hD hS dX1_has_17
    · have h := h.2 c_2
      refine lv_iconst (v := 1) hx hb dX1_has_12 (by decide) ?_
      refine lv_goto (tgt := 17) hx hb dX1_has_13 (by decide) ?_
      exact hret _ _ _ _ 1 () (by decide) h hP hD hS dX1_has_17
def wp_X1_append (p1 : Int32) (p2 : Int32) (p3 : Int32) (rSz : Int32) (rKi : Nat → Int32) (rHe : Nat → Int32) (rDo : Nat → Int32) (Q : Int32 → Int32 → (Nat → Int32) → (Nat → Int32) → (Nat → Int32) → Prop) : Prop :=
  ((24 ≤ rSz → Q rSz rSz rKi rHe rDo) ∧ (¬ (24 ≤ rSz) → (vp_in rSz 24 ∧ (vp_in rSz 24 ∧ (vp_in rSz 24 ∧ Q rSz (rSz + 1) (upd rKi rSz.toNatClampNeg p1) (upd rHe rSz.toNatClampNeg p2) (upd rDo rSz.toNatClampNeg p3))))))
set_option maxHeartbeats 4000000 in
set_option maxRecDepth 100000 in
theorem c_X1_append (l : Launch) (E : gE) (ro rk rh rd rt rl rs : Nat) (sz : Nat) (rSz : Int32) (rTc : Int32) (rFa : Int32) (rPa : Int32) (rPy : Int32) (rMi : Int32) (rMe : Int32) (rSr : Int32) (rZ : Int32) (rKi : Nat → Int32) (rHe : Nat → Int32) (rDo : Nat → Int32) (rTx : Nat → Option Nat) (rLa : Nat → Int32) (rSk : Nat → Int32) (p1 p2 p3 : Int32) (LT : List Nat) (pk : Nat → Int32) (pv : Nat → Int32) (pa : Nat → Nat) (pn : Nat → Nat) (tc : Nat → Nat → Int32) (Q : Int32 → Int32 → (Nat → Int32) → (Nat → Int32) → (Nat → Int32) → Prop) (h : wp_X1_append p1 p2 p3 rSz rKi rHe rDo Q) : Met l yX1_append wsX1_append ({ frames := 0, cells := 0, slots := 0, locals := 0 } : Room) (va_Pc [.ref ro, .int p1, .int p2, .int p3] (rc_B E (rw_4 E ro rk rh rd rt rl rs rSz rTc rFa rPa rPy rMi rMe rSr rZ rKi rHe rDo rTx rLa rSk ++ rc_tp E LT pk pv pa pn tc) sz)) (va_Qi (S := Int32 × (Nat → Int32) × (Nat → Int32) × (Nat → Int32)) (fun (r : Int32) (u : Int32 × (Nat → Int32) × (Nat → Int32) × (Nat → Int32)) => Q r u.1 u.2.1 u.2.2.1 u.2.2.2) (fun u t => rc_C E (va_A (rw_4 E ro rk rh rd rt rl rs rSz rTc rFa rPa rPy rMi rMe rSr rZ rKi rHe rDo rTx rLa rSk ++ rc_tp E LT pk pv pa pn tc) sz) (rw_4 E ro rk rh rd rt rl rs u.1 rTc rFa rPa rPy rMi rMe rSr rZ u.2.1 u.2.2.1 u.2.2.2 rTx rLa rSk ++ rc_tp E LT pk pv pa pn tc) t) (va_A (rw_4 E ro rk rh rd rt rl rs rSz rTc rFa rPa rPy rMi rMe rSr rZ rKi rHe rDo rTx rLa rSk ++ rc_tp E LT pk pv pa pn tc) sz)) 0 0 (va_A (rw_4 E ro rk rh rd rt rl rs rSz rTc rFa rPa rPy rMi rMe rSr rZ rKi rHe rDo rTx rLa rSk ++ rc_tp E LT pk pv pa pn tc) sz) := by
  refine rc_enterI (cc := cX1_append) (maxL := 5) (by decide) rfl (Nat.le_of_ble_eq_true rfl) ?_
  intro p e s m args below meth c QQ A hx hb hml hown hts hmn hE hP hD hA hret ls hl
  have hown : s.vm.findClass RX1 = some m.cls := hown
  have hK := hE.1
  have hS : va_S A s.heap s.heap [] := va_S.rf
  have hl : lv_has ls 5 [(0, .ref ro), (1, .int p1), (2, .int p2), (3, .int p3)] := hl
  have n_X1 : ∀ w ∈ wsX10, w ∈ wsX1_append := fun _ h => List.mem_cons_of_mem _ (List.mem_append_right _ h)
  have k_21 := hts (.fieldLink RX1 21 "RidgeClaps$Ridge" "size" "I") (List.mem_of_getElem? (i := 1) rfl)
  have k_9 := hts (.fieldLink RX1 9 "RidgeClaps$Ridge" "kinds" "[I") (List.mem_of_getElem? (i := 2) rfl)
  have k_15 := hts (.fieldLink RX1 15 "RidgeClaps$Ridge" "heights" "[I") (List.mem_of_getElem? (i := 3) rfl)
  have k_18 := hts (.fieldLink RX1 18 "RidgeClaps$Ridge" "downs" "[I") (List.mem_of_getElem? (i := 4) rfl)
  unfold wp_X1_append at h
  obtain ⟨H, hH⟩ : ∃ H, H = s.heap := ⟨_, rfl⟩
  obtain ⟨locs, hlocs⟩ : ∃ locs : List Loc, locs = [] := ⟨_, rfl⟩
  have hP : va_P E.1 vwCl (rw_4 E ro rk rh rd rt rl rs rSz rTc rFa rPa rPy rMi rMe rSr rZ rKi rHe rDo rTx rLa rSk ++ rc_tp E LT pk pv pa pn tc) H := by rw [hH]; exact hP
  have hS : va_S A s.heap H locs := by rw [hH, hlocs]; exact hS
  suffices hgo : W p l e ({ frames := 0, cells := 0, slots := 0, locals := 0 } : Room) s m args below meth c H locs 0 0 QQ (F0 m 0 ls []) from by rw [hH, hlocs] at hgo; exact hgo
  refine lv_aload_n hx hb dX1_append_0 rfl (lv_at hl 0 rfl) ?_
  refine va_get (D := E.1) (ci := 1) (v := .int rSz) (C := RX1) (T := TX1) (N := 15) hx hb hts n_X1 hown hK hP 0 rfl rfl 3 (by decide) k_21 (fun _ h9 => h9) rfl dX1_append_1 ?_
  refine lv_istore (lv' := [(4, .int rSz), (0, .ref ro), (1, .int p1), (2, .int p2), (3, .int p3)]) hx hb dX1_append_4 hl (by decide) rfl (fun ls hl => ?_)
  refine lv_iload hx hb dX1_append_6 (lv_at hl 0 rfl) ?_
  refine lv_bipush (v := 24) hx hb dX1_append_8 (by decide) ?_
  refine lv_icmp_ge (tgt := 47) hx hb dX1_append_10 (by decide) (fun c_1 => ?_) (fun c_1 => ?_)
  · have h := h.1 c_1
    refine lv_iload hx hb dX1_append_47 (lv_at hl 0 rfl) ?_
    exact hret _ _ _ _ rSz (rSz, rKi, rHe, rDo) rfl h hP hD hS dX1_append_49
  · have h := h.2 c_1
    refine lv_aload_n hx hb dX1_append_13 rfl (lv_at hl 1 rfl) ?_
    refine va_get (D := E.1) (ci := 1) (v := .ref rk) (C := RX1) (T := TX1) (N := 15) hx hb hts n_X1 hown hK hP 0 rfl rfl 0 (by decide) k_9 (fun _ h9 => h9) rfl dX1_append_14 ?_
    refine lv_iload hx hb dX1_append_17 (lv_at hl 0 rfl) ?_
    refine lv_iload_n hx hb dX1_append_19 rfl (lv_at hl 2 rfl) ?_
    obtain ⟨o_2, h⟩ := h
    refine rc_iast hx hb hK hP hD hS 1 0 rfl rfl rSz.toNatClampNeg rfl o_2 dX1_append_20 (fun H locs hP hD hS => ?_)
    have hP : va_P E.1 vwCl (rw_4 E ro rk rh rd rt rl rs rSz rTc rFa rPa rPy rMi rMe rSr rZ (upd rKi rSz.toNatClampNeg p1) rHe rDo rTx rLa rSk ++ rc_tp E LT pk pv pa pn tc) H := hP
    have hD : va_D A (rw_4 E ro rk rh rd rt rl rs rSz rTc rFa rPa rPy rMi rMe rSr rZ (upd rKi rSz.toNatClampNeg p1) rHe rDo rTx rLa rSk ++ rc_tp E LT pk pv pa pn tc) := hD
    refine lv_aload_n hx hb dX1_append_21 rfl (lv_at hl 1 rfl) ?_
    refine va_get (D := E.1) (ci := 1) (v := .ref rh) (C := RX1) (T := TX1) (N := 15) hx hb hts n_X1 hown hK hP 0 rfl rfl 1 (by decide) k_15 (fun _ h9 => h9) rfl dX1_append_22 ?_
    refine lv_iload hx hb dX1_append_25 (lv_at hl 0 rfl) ?_
    refine lv_iload_n hx hb dX1_append_27 rfl (lv_at hl 3 rfl) ?_
    obtain ⟨o_3, h⟩ := h
    refine rc_iast hx hb hK hP hD hS 2 0 rfl rfl rSz.toNatClampNeg rfl o_3 dX1_append_28 (fun H locs hP hD hS => ?_)
    have hP : va_P E.1 vwCl (rw_4 E ro rk rh rd rt rl rs rSz rTc rFa rPa rPy rMi rMe rSr rZ (upd rKi rSz.toNatClampNeg p1) (upd rHe rSz.toNatClampNeg p2) rDo rTx rLa rSk ++ rc_tp E LT pk pv pa pn tc) H := hP
    have hD : va_D A (rw_4 E ro rk rh rd rt rl rs rSz rTc rFa rPa rPy rMi rMe rSr rZ (upd rKi rSz.toNatClampNeg p1) (upd rHe rSz.toNatClampNeg p2) rDo rTx rLa rSk ++ rc_tp E LT pk pv pa pn tc) := hD
    refine lv_aload_n hx hb dX1_append_29 rfl (lv_at hl 1 rfl) ?_
    refine va_get (D := E.1) (ci := 1) (v := .ref rd) (C := RX1) (T := TX1) (N := 15) hx hb hts n_X1 hown hK hP 0 rfl rfl 2 (by decide) k_18 (fun _ h9 => h9) rfl dX1_append_30 ?_
    refine lv_iload hx hb dX1_append_33 (lv_at hl 0 rfl) ?_
    refine lv_iload_n hx hb dX1_append_35 rfl (lv_at hl 4 rfl) ?_
    obtain ⟨o_4, h⟩ := h
    refine rc_iast hx hb hK hP hD hS 3 0 rfl rfl rSz.toNatClampNeg rfl o_4 dX1_append_36 (fun H locs hP hD hS => ?_)
    have hP : va_P E.1 vwCl (rw_4 E ro rk rh rd rt rl rs rSz rTc rFa rPa rPy rMi rMe rSr rZ (upd rKi rSz.toNatClampNeg p1) (upd rHe rSz.toNatClampNeg p2) (upd rDo rSz.toNatClampNeg p3) rTx rLa rSk ++ rc_tp E LT pk pv pa pn tc) H := hP
    have hD : va_D A (rw_4 E ro rk rh rd rt rl rs rSz rTc rFa rPa rPy rMi rMe rSr rZ (upd rKi rSz.toNatClampNeg p1) (upd rHe rSz.toNatClampNeg p2) (upd rDo rSz.toNatClampNeg p3) rTx rLa rSk ++ rc_tp E LT pk pv pa pn tc) := hD
    refine lv_aload_n hx hb dX1_append_37 rfl (lv_at hl 1 rfl) ?_
    refine lv_dup hx hb dX1_append_38 rfl ?_
    refine va_get (D := E.1) (ci := 1) (v := .int rSz) (C := RX1) (T := TX1) (N := 15) hx hb hts n_X1 hown hK hP 0 rfl rfl 3 (by decide) k_21 (fun _ h9 => h9) rfl dX1_append_39 ?_
    refine lv_iconst (v := 1) hx hb dX1_append_42 (by decide) ?_
    refine lv_iadd hx hb dX1_append_43 ?_
    refine va_put (D := E.1) (ci := 1) (v := .int (rSz + 1)) (ty := .int) (C := RX1) (T := TX1) (N := 15) hx hb hts n_X1 tyX1 tyX1_ok nmX1 hown hK hP hD hS 0 rfl rfl 3 (by decide) k_21 (fun _ h9 => h9) rfl (by decide +kernel) rfl rfl (Nat.le_of_ble_eq_true rfl) dX1_append_44 (fun H locs hP hD hS => ?_)
    have hP : va_P E.1 vwCl (rw_4 E ro rk rh rd rt rl rs (rSz + 1) rTc rFa rPa rPy rMi rMe rSr rZ (upd rKi rSz.toNatClampNeg p1) (upd rHe rSz.toNatClampNeg p2) (upd rDo rSz.toNatClampNeg p3) rTx rLa rSk ++ rc_tp E LT pk pv pa pn tc) H := hP
    have hD : va_D A (rw_4 E ro rk rh rd rt rl rs (rSz + 1) rTc rFa rPa rPy rMi rMe rSr rZ (upd rKi rSz.toNatClampNeg p1) (upd rHe rSz.toNatClampNeg p2) (upd rDo rSz.toNatClampNeg p3) rTx rLa rSk ++ rc_tp E LT pk pv pa pn tc) := hD
    refine lv_iload hx hb dX1_append_47 (lv_at hl 0 rfl) ?_
    exact hret _ _ _ _ rSz (rSz + 1, upd rKi rSz.toNatClampNeg p1, upd rHe rSz.toNatClampNeg p2, upd rDo rSz.toNatClampNeg p3) rfl h hP hD hS dX1_append_49
def wp_X1_draw (rZ : Int32) (Q : Int32 → Int32 → Prop) : Prop :=
  Q (rc_ushr ((rZ * 1103515245) + 12345) 8) ((rZ * 1103515245) + 12345)
set_option maxHeartbeats 4000000 in
set_option maxRecDepth 100000 in
theorem c_X1_draw (l : Launch) (E : gE) (ro rk rh rd rt rl rs : Nat) (sz : Nat) (rSz : Int32) (rTc : Int32) (rFa : Int32) (rPa : Int32) (rPy : Int32) (rMi : Int32) (rMe : Int32) (rSr : Int32) (rZ : Int32) (rKi : Nat → Int32) (rHe : Nat → Int32) (rDo : Nat → Int32) (rTx : Nat → Option Nat) (rLa : Nat → Int32) (rSk : Nat → Int32)  (LT : List Nat) (pk : Nat → Int32) (pv : Nat → Int32) (pa : Nat → Nat) (pn : Nat → Nat) (tc : Nat → Nat → Int32) (Q : Int32 → Int32 → Prop) (h : wp_X1_draw rZ Q) : Met l yX1_draw wsX1_draw ({ frames := 0, cells := 0, slots := 0, locals := 0 } : Room) (va_Pc [.ref ro] (rc_B E (rw_4 E ro rk rh rd rt rl rs rSz rTc rFa rPa rPy rMi rMe rSr rZ rKi rHe rDo rTx rLa rSk ++ rc_tp E LT pk pv pa pn tc) sz)) (va_Qi (S := Int32) (fun (r : Int32) (u : Int32) => Q r u) (fun u t => rc_C E (va_A (rw_4 E ro rk rh rd rt rl rs rSz rTc rFa rPa rPy rMi rMe rSr rZ rKi rHe rDo rTx rLa rSk ++ rc_tp E LT pk pv pa pn tc) sz) (rw_4 E ro rk rh rd rt rl rs rSz rTc rFa rPa rPy rMi rMe rSr u rKi rHe rDo rTx rLa rSk ++ rc_tp E LT pk pv pa pn tc) t) (va_A (rw_4 E ro rk rh rd rt rl rs rSz rTc rFa rPa rPy rMi rMe rSr rZ rKi rHe rDo rTx rLa rSk ++ rc_tp E LT pk pv pa pn tc) sz)) 0 0 (va_A (rw_4 E ro rk rh rd rt rl rs rSz rTc rFa rPa rPy rMi rMe rSr rZ rKi rHe rDo rTx rLa rSk ++ rc_tp E LT pk pv pa pn tc) sz) := by
  refine rc_enterI (cc := cX1_draw) (maxL := 1) (by decide) rfl (Nat.le_of_ble_eq_true rfl) ?_
  intro p e s m args below meth c QQ A hx hb hml hown hts hmn hE hP hD hA hret ls hl
  have hown : s.vm.findClass RX1 = some m.cls := hown
  have hK := hE.1
  have hS : va_S A s.heap s.heap [] := va_S.rf
  have hl : lv_has ls 1 [(0, .ref ro)] := hl
  have n_X1 : ∀ w ∈ wsX10, w ∈ wsX1_draw := fun _ h => List.mem_cons_of_mem _ (List.mem_append_right _ h)
  have k_56 := hts (.fieldLink RX1 56 "RidgeClaps$Ridge" "z" "I") (List.mem_of_getElem? (i := 1) rfl)
  have k_77 := hts (.constant RX1 77 (1103515245)) (List.mem_of_getElem? (i := 2) rfl)
  unfold wp_X1_draw at h
  obtain ⟨H, hH⟩ : ∃ H, H = s.heap := ⟨_, rfl⟩
  obtain ⟨locs, hlocs⟩ : ∃ locs : List Loc, locs = [] := ⟨_, rfl⟩
  have hP : va_P E.1 vwCl (rw_4 E ro rk rh rd rt rl rs rSz rTc rFa rPa rPy rMi rMe rSr rZ rKi rHe rDo rTx rLa rSk ++ rc_tp E LT pk pv pa pn tc) H := by rw [hH]; exact hP
  have hS : va_S A s.heap H locs := by rw [hH, hlocs]; exact hS
  suffices hgo : W p l e ({ frames := 0, cells := 0, slots := 0, locals := 0 } : Room) s m args below meth c H locs 0 0 QQ (F0 m 0 ls []) from by rw [hH, hlocs] at hgo; exact hgo
  refine lv_aload_n hx hb dX1_draw_0 rfl (lv_at hl 0 rfl) ?_
  refine lv_aload_n hx hb dX1_draw_1 rfl (lv_at hl 0 rfl) ?_
  refine va_get (D := E.1) (ci := 1) (v := .int rZ) (C := RX1) (T := TX1) (N := 15) hx hb hts n_X1 hown hK hP 0 rfl rfl 13 (by decide) k_56 (fun _ h9 => h9) rfl dX1_draw_2 ?_
  refine lv_ldc hx hb hown k_77 dX1_draw_5 ?_
  refine lv_imul hx hb dX1_draw_7 ?_
  refine lv_sipush (v := 12345) hx hb dX1_draw_8 (by decide) ?_
  refine lv_iadd hx hb dX1_draw_11 ?_
  refine va_put (D := E.1) (ci := 1) (v := .int ((rZ * 1103515245) + 12345)) (ty := .int) (C := RX1) (T := TX1) (N := 15) hx hb hts n_X1 tyX1 tyX1_ok nmX1 hown hK hP hD hS 0 rfl rfl 13 (by decide) k_56 (fun _ h9 => h9) rfl (by decide +kernel) rfl rfl (Nat.le_of_ble_eq_true rfl) dX1_draw_12 (fun H locs hP hD hS => ?_)
  have hP : va_P E.1 vwCl (rw_4 E ro rk rh rd rt rl rs rSz rTc rFa rPa rPy rMi rMe rSr ((rZ * 1103515245) + 12345) rKi rHe rDo rTx rLa rSk ++ rc_tp E LT pk pv pa pn tc) H := hP
  have hD : va_D A (rw_4 E ro rk rh rd rt rl rs rSz rTc rFa rPa rPy rMi rMe rSr ((rZ * 1103515245) + 12345) rKi rHe rDo rTx rLa rSk ++ rc_tp E LT pk pv pa pn tc) := hD
  refine lv_aload_n hx hb dX1_draw_15 rfl (lv_at hl 0 rfl) ?_
  refine va_get (D := E.1) (ci := 1) (v := .int ((rZ * 1103515245) + 12345)) (C := RX1) (T := TX1) (N := 15) hx hb hts n_X1 hown hK hP 0 rfl rfl 13 (by decide) k_56 (fun _ h9 => h9) rfl dX1_draw_16 ?_
  refine lv_bipush (v := 8) hx hb dX1_draw_19 (by decide) ?_
  refine lv_iushr (v := rc_ushr ((rZ * 1103515245) + 12345) 8) hx hb dX1_draw_21 rfl ?_
  exact hret _ _ _ _ (rc_ushr ((rZ * 1103515245) + 12345) 8) ((rZ * 1103515245) + 12345) rfl h hP hD hS dX1_draw_22
def wp_X1_appendDrawn (rSz : Int32) (rZ : Int32) (rKi : Nat → Int32) (rHe : Nat → Int32) (rDo : Nat → Int32) (Q : Int32 → Int32 → (Nat → Int32) → (Nat → Int32) → (Nat → Int32) → Prop) : Prop :=
  wp_X1_draw rZ (fun (r_1 : Int32) (w_2 : Int32) => wp_X1_draw w_2 (fun (r_3 : Int32) (w_4 : Int32) => wp_X1_draw w_4 (fun (r_5 : Int32) (w_6 : Int32) => ((¬ (rc_rem r_5 4) = 0 → wp_X1_append (rc_rem r_1 5) (rc_rem r_3 100) 0 rSz rKi rHe rDo (fun (r_8 : Int32) (w_9 : Int32) (w_10 : Nat → Int32) (w_11 : Nat → Int32) (w_12 : Nat → Int32) => Q w_9 w_6 w_10 w_11 w_12)) ∧ ((rc_rem r_5 4) = 0 → wp_X1_append (rc_rem r_1 5) (rc_rem r_3 100) 1 rSz rKi rHe rDo (fun (r_13 : Int32) (w_14 : Int32) (w_15 : Nat → Int32) (w_16 : Nat → Int32) (w_17 : Nat → Int32) => Q w_14 w_6 w_15 w_16 w_17))))))
set_option maxHeartbeats 4000000 in
set_option maxRecDepth 100000 in
theorem c_X1_appendDrawn (l : Launch) (E : gE) (ro rk rh rd rt rl rs : Nat) (sz : Nat) (rSz : Int32) (rTc : Int32) (rFa : Int32) (rPa : Int32) (rPy : Int32) (rMi : Int32) (rMe : Int32) (rSr : Int32) (rZ : Int32) (rKi : Nat → Int32) (rHe : Nat → Int32) (rDo : Nat → Int32) (rTx : Nat → Option Nat) (rLa : Nat → Int32) (rSk : Nat → Int32)  (LT : List Nat) (pk : Nat → Int32) (pv : Nat → Int32) (pa : Nat → Nat) (pn : Nat → Nat) (tc : Nat → Nat → Int32) (Q : Int32 → Int32 → (Nat → Int32) → (Nat → Int32) → (Nat → Int32) → Prop) (h : wp_X1_appendDrawn rSz rZ rKi rHe rDo Q) : Met l yX1_appendDrawn wsX1_appendDrawn ({ frames := 1, cells := 0, slots := 0, locals := 24 } : Room) (va_Pc [.ref ro] (rc_B E (rw_4 E ro rk rh rd rt rl rs rSz rTc rFa rPa rPy rMi rMe rSr rZ rKi rHe rDo rTx rLa rSk ++ rc_tp E LT pk pv pa pn tc) sz)) (va_Qv (S := Int32 × Int32 × (Nat → Int32) × (Nat → Int32) × (Nat → Int32)) (fun (u : Int32 × Int32 × (Nat → Int32) × (Nat → Int32) × (Nat → Int32)) => Q u.1 u.2.1 u.2.2.1 u.2.2.2.1 u.2.2.2.2) (fun u t => rc_C E (va_A (rw_4 E ro rk rh rd rt rl rs rSz rTc rFa rPa rPy rMi rMe rSr rZ rKi rHe rDo rTx rLa rSk ++ rc_tp E LT pk pv pa pn tc) sz) (rw_4 E ro rk rh rd rt rl rs u.1 rTc rFa rPa rPy rMi rMe rSr u.2.1 u.2.2.1 u.2.2.2.1 u.2.2.2.2 rTx rLa rSk ++ rc_tp E LT pk pv pa pn tc) t) (va_A (rw_4 E ro rk rh rd rt rl rs rSz rTc rFa rPa rPy rMi rMe rSr rZ rKi rHe rDo rTx rLa rSk ++ rc_tp E LT pk pv pa pn tc) sz)) 0 0 (va_A (rw_4 E ro rk rh rd rt rl rs rSz rTc rFa rPa rPy rMi rMe rSr rZ rKi rHe rDo rTx rLa rSk ++ rc_tp E LT pk pv pa pn tc) sz) := by
  refine rc_enterV (cc := cX1_appendDrawn) (maxL := 4) (by decide) rfl (Nat.le_of_ble_eq_true rfl) ?_
  intro p e s m args below meth c QQ A hx hb hml hown hts hmn hE hP hD hA hret ls hl
  have hown : s.vm.findClass RX1 = some m.cls := hown
  have hK := hE.1
  have hS : va_S A s.heap s.heap [] := va_S.rf
  have hl : lv_has ls 4 [(0, .ref ro)] := hl
  unfold wp_X1_appendDrawn at h
  obtain ⟨H, hH⟩ : ∃ H, H = s.heap := ⟨_, rfl⟩
  obtain ⟨locs, hlocs⟩ : ∃ locs : List Loc, locs = [] := ⟨_, rfl⟩
  have hP : va_P E.1 vwCl (rw_4 E ro rk rh rd rt rl rs rSz rTc rFa rPa rPy rMi rMe rSr rZ rKi rHe rDo rTx rLa rSk ++ rc_tp E LT pk pv pa pn tc) H := by rw [hH]; exact hP
  have hS : va_S A s.heap H locs := by rw [hH, hlocs]; exact hS
  suffices hgo : W p l e ({ frames := 1, cells := 0, slots := 0, locals := 24 } : Room) s m args below meth c H locs 0 0 QQ (F0 m 0 ls []) from by rw [hH, hlocs] at hgo; exact hgo
  refine lv_aload_n hx hb dX1_appendDrawn_0 rfl (lv_at hl 0 rfl) ?_
  have hPc := hP
  have hDc := hD
  have hFc := rc_freeI hD hS hA
  refine va_calli (va_runV (As := []) (rest := []) ⟨hx, hb, hml, hown, hts⟩ (c_X1_draw l E ro rk rh rd rt rl rs H.size rSz rTc rFa rPa rPy rMi rMe rSr rZ rKi rHe rDo rTx rLa rSk LT pk pv pa pn tc _ h) (cwV 0 hts gX1_appendDrawn_X1_draw rfl rfl rfl (by decide +kernel) ⟨Nat.le_of_ble_eq_true rfl, Nat.le_of_ble_eq_true rfl⟩) ⟨fun a U g mk q => ⟨q.1, q.2.blind⟩, va_recv hK hPc (ci := 1) (q0 := 0) rfl rfl, fun U hU hW => ⟨rfl, by rw [hU], by rw [hU]; exact hPc, hE.call hS hFc hW hU, hDc.weaken (fun _ _ _ _ => trivial)⟩⟩ rfl rfl hl.1 rfl (lv_room (Nat.le_of_ble_eq_true rfl)) dX1_appendDrawn_1 ⟨Nat.zero_le _, Nat.zero_le _⟩) hS (fun q _ h => hFc q h) hFc (fun r_1 u t H1 locs ht hvm h hB hz1 hk1 hS => ?_)
  obtain ⟨w_2, rfl⟩ : ∃ z, z = u := ⟨_, rfl⟩
  obtain ⟨hP1, hD1⟩ := hB
  rw [ht] at hP1
  have hP := hP1
  have hD := hD1.weaken (fun _ _ _ h => hFc _ h)
  generalize H1 = H at hP hS ⊢
  have hP : va_P E.1 vwCl (rw_4 E ro rk rh rd rt rl rs rSz rTc rFa rPa rPy rMi rMe rSr w_2 rKi rHe rDo rTx rLa rSk ++ rc_tp E LT pk pv pa pn tc) H := hP
  have hD : va_D A (rw_4 E ro rk rh rd rt rl rs rSz rTc rFa rPa rPy rMi rMe rSr w_2 rKi rHe rDo rTx rLa rSk ++ rc_tp E LT pk pv pa pn tc) := hD
  refine lv_iconst (v := 5) hx hb dX1_appendDrawn_4 (by decide) ?_
  refine lv_irem hx hb dX1_appendDrawn_5 (by decide) ?_
  refine W.eq (g2 := F0 m 6 ls [.int (rc_rem r_1 5)]) rfl ?_
  refine lv_istore_n (lv' := [(1, .int (rc_rem r_1 5)), (0, .ref ro)]) hx hb dX1_appendDrawn_6 rfl hl (by decide) rfl (fun ls hl => ?_)
  refine lv_aload_n hx hb dX1_appendDrawn_7 rfl (lv_at hl 1 rfl) ?_
  have hPc := hP
  have hDc := hD
  have hFc := rc_freeI hD hS hA
  refine va_calli (va_runV (As := []) (rest := []) ⟨hx, hb, hml, hown, hts⟩ (c_X1_draw l E ro rk rh rd rt rl rs H.size rSz rTc rFa rPa rPy rMi rMe rSr w_2 rKi rHe rDo rTx rLa rSk LT pk pv pa pn tc _ h) (cwV 0 hts gX1_appendDrawn_X1_draw rfl rfl rfl (by decide +kernel) ⟨Nat.le_of_ble_eq_true rfl, Nat.le_of_ble_eq_true rfl⟩) ⟨fun a U g mk q => ⟨q.1, q.2.blind⟩, va_recv hK hPc (ci := 1) (q0 := 0) rfl rfl, fun U hU hW => ⟨rfl, by rw [hU], by rw [hU]; exact hPc, hE.call hS hFc hW hU, hDc.weaken (fun _ _ _ _ => trivial)⟩⟩ rfl rfl hl.1 rfl (lv_room (Nat.le_of_ble_eq_true rfl)) dX1_appendDrawn_8 ⟨Nat.zero_le _, Nat.zero_le _⟩) hS (fun q _ h => hFc q h) hFc (fun r_3 u t H1 locs ht hvm h hB hz1 hk1 hS => ?_)
  obtain ⟨w_4, rfl⟩ : ∃ z, z = u := ⟨_, rfl⟩
  obtain ⟨hP1, hD1⟩ := hB
  rw [ht] at hP1
  have hP := hP1
  have hD := hD1.weaken (fun _ _ _ h => hFc _ h)
  generalize H1 = H at hP hS ⊢
  have hP : va_P E.1 vwCl (rw_4 E ro rk rh rd rt rl rs rSz rTc rFa rPa rPy rMi rMe rSr w_4 rKi rHe rDo rTx rLa rSk ++ rc_tp E LT pk pv pa pn tc) H := hP
  have hD : va_D A (rw_4 E ro rk rh rd rt rl rs rSz rTc rFa rPa rPy rMi rMe rSr w_4 rKi rHe rDo rTx rLa rSk ++ rc_tp E LT pk pv pa pn tc) := hD
  refine lv_bipush (v := 100) hx hb dX1_appendDrawn_11 (by decide) ?_
  refine lv_irem hx hb dX1_appendDrawn_13 (by decide) ?_
  refine W.eq (g2 := F0 m 14 ls [.int (rc_rem r_3 100)]) rfl ?_
  refine lv_istore_n (lv' := [(2, .int (rc_rem r_3 100)), (1, .int (rc_rem r_1 5)), (0, .ref ro)]) hx hb dX1_appendDrawn_14 rfl hl (by decide) rfl (fun ls hl => ?_)
  refine lv_aload_n hx hb dX1_appendDrawn_15 rfl (lv_at hl 2 rfl) ?_
  have hPc := hP
  have hDc := hD
  have hFc := rc_freeI hD hS hA
  refine va_calli (va_runV (As := []) (rest := []) ⟨hx, hb, hml, hown, hts⟩ (c_X1_draw l E ro rk rh rd rt rl rs H.size rSz rTc rFa rPa rPy rMi rMe rSr w_4 rKi rHe rDo rTx rLa rSk LT pk pv pa pn tc _ h) (cwV 0 hts gX1_appendDrawn_X1_draw rfl rfl rfl (by decide +kernel) ⟨Nat.le_of_ble_eq_true rfl, Nat.le_of_ble_eq_true rfl⟩) ⟨fun a U g mk q => ⟨q.1, q.2.blind⟩, va_recv hK hPc (ci := 1) (q0 := 0) rfl rfl, fun U hU hW => ⟨rfl, by rw [hU], by rw [hU]; exact hPc, hE.call hS hFc hW hU, hDc.weaken (fun _ _ _ _ => trivial)⟩⟩ rfl rfl hl.1 rfl (lv_room (Nat.le_of_ble_eq_true rfl)) dX1_appendDrawn_16 ⟨Nat.zero_le _, Nat.zero_le _⟩) hS (fun q _ h => hFc q h) hFc (fun r_5 u t H1 locs ht hvm h hB hz1 hk1 hS => ?_)
  obtain ⟨w_6, rfl⟩ : ∃ z, z = u := ⟨_, rfl⟩
  obtain ⟨hP1, hD1⟩ := hB
  rw [ht] at hP1
  have hP := hP1
  have hD := hD1.weaken (fun _ _ _ h => hFc _ h)
  generalize H1 = H at hP hS ⊢
  have hP : va_P E.1 vwCl (rw_4 E ro rk rh rd rt rl rs rSz rTc rFa rPa rPy rMi rMe rSr w_6 rKi rHe rDo rTx rLa rSk ++ rc_tp E LT pk pv pa pn tc) H := hP
  have hD : va_D A (rw_4 E ro rk rh rd rt rl rs rSz rTc rFa rPa rPy rMi rMe rSr w_6 rKi rHe rDo rTx rLa rSk ++ rc_tp E LT pk pv pa pn tc) := hD
  refine lv_iconst (v := 4) hx hb dX1_appendDrawn_19 (by decide) ?_
  refine lv_irem hx hb dX1_appendDrawn_20 (by decide) ?_
  refine W.eq (g2 := F0 m 21 ls [.int (rc_rem r_5 4)]) rfl ?_
  refine lv_if_ne (tgt := 28) hx hb dX1_appendDrawn_21 (by decide) (fun c_7 => ?_) (fun c_7 => ?_)
  · have h := h.1 c_7
    refine lv_iconst (v := 0) hx hb dX1_appendDrawn_28 (by decide) ?_
    refine lv_istore_n (lv' := [(3, .int 0), (2, .int (rc_rem r_3 100)), (1, .int (rc_rem r_1 5)), (0, .ref ro)]) hx hb dX1_appendDrawn_29 rfl hl (by decide) rfl (fun ls hl => ?_)
    refine lv_aload_n hx hb dX1_appendDrawn_30 rfl (lv_at hl 3 rfl) ?_
    refine lv_iload_n hx hb dX1_appendDrawn_31 rfl (lv_at hl 2 rfl) ?_
    refine lv_iload_n hx hb dX1_appendDrawn_32 rfl (lv_at hl 1 rfl) ?_
    refine lv_iload_n hx hb dX1_appendDrawn_33 rfl (lv_at hl 0 rfl) ?_
    have hPc := hP
    have hDc := hD
    have hFc := rc_freeI hD hS hA
    refine va_calli (va_runV (As := [.int (rc_rem r_1 5), .int (rc_rem r_3 100), .int 0]) (rest := []) ⟨hx, hb, hml, hown, hts⟩ (c_X1_append l E ro rk rh rd rt rl rs H.size rSz rTc rFa rPa rPy rMi rMe rSr w_6 rKi rHe rDo rTx rLa rSk (rc_rem r_1 5) (rc_rem r_3 100) 0 LT pk pv pa pn tc _ h) (cwV 3 hts gX1_appendDrawn_X1_append rfl rfl rfl (by decide +kernel) ⟨Nat.le_of_ble_eq_true rfl, Nat.le_of_ble_eq_true rfl⟩) ⟨fun a U g mk q => ⟨q.1, q.2.blind⟩, va_recv hK hPc (ci := 1) (q0 := 0) rfl rfl, fun U hU hW => ⟨rfl, by rw [hU], by rw [hU]; exact hPc, hE.call hS hFc hW hU, hDc.weaken (fun _ _ _ _ => trivial)⟩⟩ rfl rfl hl.1 rfl (lv_room (Nat.le_of_ble_eq_true rfl)) dX1_appendDrawn_34 ⟨Nat.zero_le _, Nat.zero_le _⟩) hS (fun q _ h => hFc q h) hFc (fun r_8 u t H1 locs ht hvm h hB hz1 hk1 hS => ?_)
    obtain ⟨w_9, w_10, w_11, w_12⟩ := u
    obtain ⟨hP1, hD1⟩ := hB
    rw [ht] at hP1
    have hP := hP1
    have hD := hD1.weaken (fun _ _ _ h => hFc _ h)
    generalize H1 = H at hP hS ⊢
    have hP : va_P E.1 vwCl (rw_4 E ro rk rh rd rt rl rs w_9 rTc rFa rPa rPy rMi rMe rSr w_6 w_10 w_11 w_12 rTx rLa rSk ++ rc_tp E LT pk pv pa pn tc) H := hP
    have hD : va_D A (rw_4 E ro rk rh rd rt rl rs w_9 rTc rFa rPa rPy rMi rMe rSr w_6 w_10 w_11 w_12 rTx rLa rSk ++ rc_tp E LT pk pv pa pn tc) := hD
    refine lv_pop hx hb dX1_appendDrawn_37 rfl ?_
    exact hret _ _ _ _ (w_9, w_6, w_10, w_11, w_12) h hP hD hS dX1_appendDrawn_38
  · have h := h.2 c_7
    refine lv_iconst (v := 1) hx hb dX1_appendDrawn_24 (by decide) ?_
    refine lv_goto (tgt := 29) hx hb dX1_appendDrawn_25 (by decide) ?_
    refine lv_istore_n (lv' := [(3, .int 1), (2, .int (rc_rem r_3 100)), (1, .int (rc_rem r_1 5)), (0, .ref ro)]) hx hb dX1_appendDrawn_29 rfl hl (by decide) rfl (fun ls hl => ?_)
    refine lv_aload_n hx hb dX1_appendDrawn_30 rfl (lv_at hl 3 rfl) ?_
    refine lv_iload_n hx hb dX1_appendDrawn_31 rfl (lv_at hl 2 rfl) ?_
    refine lv_iload_n hx hb dX1_appendDrawn_32 rfl (lv_at hl 1 rfl) ?_
    refine lv_iload_n hx hb dX1_appendDrawn_33 rfl (lv_at hl 0 rfl) ?_
    have hPc := hP
    have hDc := hD
    have hFc := rc_freeI hD hS hA
    refine va_calli (va_runV (As := [.int (rc_rem r_1 5), .int (rc_rem r_3 100), .int 1]) (rest := []) ⟨hx, hb, hml, hown, hts⟩ (c_X1_append l E ro rk rh rd rt rl rs H.size rSz rTc rFa rPa rPy rMi rMe rSr w_6 rKi rHe rDo rTx rLa rSk (rc_rem r_1 5) (rc_rem r_3 100) 1 LT pk pv pa pn tc _ h) (cwV 3 hts gX1_appendDrawn_X1_append rfl rfl rfl (by decide +kernel) ⟨Nat.le_of_ble_eq_true rfl, Nat.le_of_ble_eq_true rfl⟩) ⟨fun a U g mk q => ⟨q.1, q.2.blind⟩, va_recv hK hPc (ci := 1) (q0 := 0) rfl rfl, fun U hU hW => ⟨rfl, by rw [hU], by rw [hU]; exact hPc, hE.call hS hFc hW hU, hDc.weaken (fun _ _ _ _ => trivial)⟩⟩ rfl rfl hl.1 rfl (lv_room (Nat.le_of_ble_eq_true rfl)) dX1_appendDrawn_34 ⟨Nat.zero_le _, Nat.zero_le _⟩) hS (fun q _ h => hFc q h) hFc (fun r_13 u t H1 locs ht hvm h hB hz1 hk1 hS => ?_)
    obtain ⟨w_14, w_15, w_16, w_17⟩ := u
    obtain ⟨hP1, hD1⟩ := hB
    rw [ht] at hP1
    have hP := hP1
    have hD := hD1.weaken (fun _ _ _ h => hFc _ h)
    generalize H1 = H at hP hS ⊢
    have hP : va_P E.1 vwCl (rw_4 E ro rk rh rd rt rl rs w_14 rTc rFa rPa rPy rMi rMe rSr w_6 w_15 w_16 w_17 rTx rLa rSk ++ rc_tp E LT pk pv pa pn tc) H := hP
    have hD : va_D A (rw_4 E ro rk rh rd rt rl rs w_14 rTc rFa rPa rPy rMi rMe rSr w_6 w_15 w_16 w_17 rTx rLa rSk ++ rc_tp E LT pk pv pa pn tc) := hD
    refine lv_pop hx hb dX1_appendDrawn_37 rfl ?_
    exact hret _ _ _ _ (w_14, w_6, w_15, w_16, w_17) h hP hD hS dX1_appendDrawn_38
def wp_X1_appendText (rTc : Int32) (rTx : Nat → Option Nat) (rLa : Nat → Int32) (pk : Nat → Int32) (ta : Nat) (Q : Int32 → Int32 → (Nat → Option Nat) → (Nat → Int32) → Prop) : Prop :=
  ((14 ≤ rTc → Q rTc rTc rTx rLa) ∧ (¬ (14 ≤ rTc) → wp_X6_within (pk ta) 0 2 (fun (r_3 : Int32) => ((r_3 = 0 → Q rTc rTc rTx rLa) ∧ (¬ (r_3 = 0) → (vp_in rTc 14 ∧ (vp_in (pk ta) 3 ∧ Q rTc (rTc + 1) (va_up rTx rTc.toNatClampNeg (some ta)) (upd rLa ((pk ta).toNatClampNeg) rTc))))))))
set_option maxHeartbeats 4000000 in
set_option maxRecDepth 100000 in
theorem c_X1_appendText (l : Launch) (E : gE) (ro rk rh rd rt rl rs ta : Nat) (sz : Nat) (rSz : Int32) (rTc : Int32) (rFa : Int32) (rPa : Int32) (rPy : Int32) (rMi : Int32) (rMe : Int32) (rSr : Int32) (rZ : Int32) (rKi : Nat → Int32) (rHe : Nat → Int32) (rDo : Nat → Int32) (rTx : Nat → Option Nat) (rLa : Nat → Int32) (rSk : Nat → Int32)  (LT : List Nat) (pk : Nat → Int32) (pv : Nat → Int32) (pa : Nat → Nat) (pn : Nat → Nat) (tc : Nat → Nat → Int32) (hm_ta : ta ∈ LT) (Q : Int32 → Int32 → (Nat → Option Nat) → (Nat → Int32) → Prop) (h : wp_X1_appendText rTc rTx rLa pk ta Q) : Met l yX1_appendText wsX1_appendText ({ frames := 1, cells := 0, slots := 0, locals := 22 } : Room) (va_Pc [.ref ro, .ref ta] (rc_B E (rw_4 E ro rk rh rd rt rl rs rSz rTc rFa rPa rPy rMi rMe rSr rZ rKi rHe rDo rTx rLa rSk ++ rc_tp E LT pk pv pa pn tc) sz)) (va_Qi (S := Int32 × (Nat → Option Nat) × (Nat → Int32)) (fun (r : Int32) (u : Int32 × (Nat → Option Nat) × (Nat → Int32)) => Q r u.1 u.2.1 u.2.2) (fun u t => rc_C E (va_A (rw_4 E ro rk rh rd rt rl rs rSz rTc rFa rPa rPy rMi rMe rSr rZ rKi rHe rDo rTx rLa rSk ++ rc_tp E LT pk pv pa pn tc) sz) (rw_4 E ro rk rh rd rt rl rs rSz u.1 rFa rPa rPy rMi rMe rSr rZ rKi rHe rDo u.2.1 u.2.2 rSk ++ rc_tp E LT pk pv pa pn tc) t) (va_A (rw_4 E ro rk rh rd rt rl rs rSz rTc rFa rPa rPy rMi rMe rSr rZ rKi rHe rDo rTx rLa rSk ++ rc_tp E LT pk pv pa pn tc) sz)) 0 0 (va_A (rw_4 E ro rk rh rd rt rl rs rSz rTc rFa rPa rPy rMi rMe rSr rZ rKi rHe rDo rTx rLa rSk ++ rc_tp E LT pk pv pa pn tc) sz) := by
  refine rc_enterI (cc := cX1_appendText) (maxL := 3) (by decide) rfl (Nat.le_of_ble_eq_true rfl) ?_
  intro p e s m args below meth c QQ A hx hb hml hown hts hmn hE hP hD hA hret ls hl
  have hown : s.vm.findClass RX1 = some m.cls := hown
  have hK := hE.1
  have hS : va_S A s.heap s.heap [] := va_S.rf
  have hl : lv_has ls 3 [(0, .ref ro), (1, .ref ta)] := hl
  have n_X1 : ∀ w ∈ wsX10, w ∈ wsX1_appendText := fun _ h => List.mem_cons_of_mem _ (List.mem_append_left _ (List.mem_append_right _ h))
  have n_X4 : ∀ w ∈ wsX40, w ∈ wsX1_appendText := fun _ h => List.mem_cons_of_mem _ (List.mem_append_right _ h)
  have k_31 := hts (.fieldLink RX1 31 "RidgeClaps$Ridge" "textCount" "I") (List.mem_of_getElem? (i := 1) rfl)
  have k_70 := hts (.fieldLink RX1 70 "RidgeClaps$Text" "key" "I") (List.mem_of_getElem? (i := 2) rfl)
  have k_iX6 := hts (.initialized RX6) (List.mem_of_getElem? (i := 6) rfl)
  have k_sX6_within := hts (.static yX6_within) (List.mem_of_getElem? (i := 5) rfl)
  have k_27 := hts (.fieldLink RX1 27 "RidgeClaps$Ridge" "texts" "[LRidgeClaps$Text;") (List.mem_of_getElem? (i := 3) rfl)
  have k_35 := hts (.fieldLink RX1 35 "RidgeClaps$Ridge" "lastTold" "[I") (List.mem_of_getElem? (i := 4) rfl)
  unfold wp_X1_appendText at h
  obtain ⟨H, hH⟩ : ∃ H, H = s.heap := ⟨_, rfl⟩
  obtain ⟨locs, hlocs⟩ : ∃ locs : List Loc, locs = [] := ⟨_, rfl⟩
  have hP : va_P E.1 vwCl (rw_4 E ro rk rh rd rt rl rs rSz rTc rFa rPa rPy rMi rMe rSr rZ rKi rHe rDo rTx rLa rSk ++ rc_tp E LT pk pv pa pn tc) H := by rw [hH]; exact hP
  have hS : va_S A s.heap H locs := by rw [hH, hlocs]; exact hS
  suffices hgo : W p l e ({ frames := 1, cells := 0, slots := 0, locals := 22 } : Room) s m args below meth c H locs 0 0 QQ (F0 m 0 ls []) from by rw [hH, hlocs] at hgo; exact hgo
  refine lv_aload_n hx hb dX1_appendText_0 rfl (lv_at hl 0 rfl) ?_
  refine va_get (D := E.1) (ci := 1) (v := .int rTc) (C := RX1) (T := TX1) (N := 15) hx hb hts n_X1 hown hK hP 0 rfl rfl 5 (by decide) k_31 (fun _ h9 => h9) rfl dX1_appendText_1 ?_
  refine lv_istore_n (lv' := [(2, .int rTc), (0, .ref ro), (1, .ref ta)]) hx hb dX1_appendText_4 rfl hl (by decide) rfl (fun ls hl => ?_)
  refine lv_iload_n hx hb dX1_appendText_5 rfl (lv_at hl 0 rfl) ?_
  refine lv_bipush (v := 14) hx hb dX1_appendText_6 (by decide) ?_
  refine lv_icmp_ge (tgt := 50) hx hb dX1_appendText_8 (by decide) (fun c_1 => ?_) (fun c_1 => ?_)
  · have h := h.1 c_1
    refine lv_iload_n hx hb dX1_appendText_50 rfl (lv_at hl 0 rfl) ?_
    exact hret _ _ _ _ rTc (rTc, rTx, rLa) rfl h hP hD hS dX1_appendText_51
  · have h := h.2 c_1
    refine lv_aload_n hx hb dX1_appendText_11 rfl (lv_at hl 2 rfl) ?_
    obtain ⟨q_2, hq_2⟩ := rc_tpo (E := E) (X := (rw_4 E ro rk rh rd rt rl rs rSz rTc rFa rPa rPy rMi rMe rSr rZ rKi rHe rDo rTx rLa rSk)) (pk := pk) (pv := pv) (pa := pa) (pn := pn) (pc := tc) hm_ta
    refine va_get (D := E.1) (ci := 4) (v := .int (pk ta)) (C := RX4) (T := TX4) (N := 3) hx hb hts n_X4 hown hK hP q_2 hq_2 rfl 0 (by decide) k_70 (fun _ h9 => h9) rfl dX1_appendText_12 ?_
    refine lv_iconst (v := 0) hx hb dX1_appendText_15 (by decide) ?_
    refine lv_iconst (v := 2) hx hb dX1_appendText_16 (by decide) ?_
    have hPc := hP.sub (ws' := []) [] rfl
    have hDc := hD.sub (ws' := []) [] (by decide) rfl
    have hFc := va_free (wc := []) hD hS hA [] rfl
    refine va_calli (va_runSN (As := [.int (pk ta), .int 0, .int 2]) (rest := []) ⟨hx, hb, hml, hown, hts⟩ (c_X6_within l E H.size (pk ta) 0 2 _ h) ⟨va_cnB 3 hts gX1_appendText_X6_within_n73 rfl rfl rfl (hE.2.1 9 _ rfl) k_iX6 (by decide +kernel) ⟨Nat.le_of_ble_eq_true rfl, Nat.le_of_ble_eq_true rfl⟩, k_sX6_within, trivial⟩ ⟨fun a U g mk q => ⟨q.1, q.2.blind⟩, fun U hU hW => ⟨rfl, by rw [hU], by rw [hU]; exact hPc, hE.call hS hFc hW hU, hDc.weaken (fun _ _ _ _ => trivial)⟩⟩ rfl rfl hl.1 rfl (lv_room (Nat.le_of_ble_eq_true rfl)) dX1_appendText_17 ⟨Nat.zero_le _, Nat.zero_le _⟩) hS (fun q _ h => hFc q h) hFc (fun r_3 u t H1 locs ht hvm h hB hz1 hk1 hS => ?_)
    obtain ⟨hP1, hD1⟩ := hB
    rw [ht] at hP1
    obtain ⟨hP, hD⟩ := rc_foc hP hD [] [none, none, none, none, none, none, none] (by decide) rfl hk1 hP1 rfl
    generalize H1 = H at hP hS ⊢
    have hP : va_P E.1 vwCl (rw_4 E ro rk rh rd rt rl rs rSz rTc rFa rPa rPy rMi rMe rSr rZ rKi rHe rDo rTx rLa rSk ++ rc_tp E LT pk pv pa pn tc) H := hP
    have hD : va_D A (rw_4 E ro rk rh rd rt rl rs rSz rTc rFa rPa rPy rMi rMe rSr rZ rKi rHe rDo rTx rLa rSk ++ rc_tp E LT pk pv pa pn tc) := hD
    refine lv_if_eq (tgt := 50) hx hb dX1_appendText_20 (by decide) (fun c_4 => ?_) (fun c_4 => ?_)
    · have h := h.1 c_4
      refine lv_iload_n hx hb dX1_appendText_50 rfl (lv_at hl 0 rfl) ?_
      exact hret _ _ _ _ rTc (rTc, rTx, rLa) rfl h hP hD hS dX1_appendText_51
    · have h := h.2 c_4
      refine lv_aload_n hx hb dX1_appendText_23 rfl (lv_at hl 1 rfl) ?_
      refine va_get (D := E.1) (ci := 1) (v := .ref rt) (C := RX1) (T := TX1) (N := 15) hx hb hts n_X1 hown hK hP 0 rfl rfl 4 (by decide) k_27 (fun _ h9 => h9) rfl dX1_appendText_24 ?_
      refine lv_iload_n hx hb dX1_appendText_27 rfl (lv_at hl 0 rfl) ?_
      refine lv_aload_n hx hb dX1_appendText_28 rfl (lv_at hl 2 rfl) ?_
      obtain ⟨o_5, h⟩ := h
      refine W.eq (g2 := F0 m 29 ls [va_rf (some ta), .int rTc, .ref rt]) rfl ?_
      refine rc_astT (pk := pk) (pv := pv) (pa := pa) (pn := pn) (tc := tc) hx hb hK hP hD hS 4 5 rfl rfl (fun _ h => by cases h; exact hm_ta) o_5 dX1_appendText_29 (fun H locs hP hD hS => ?_)
      have hP : va_P E.1 vwCl (rw_4 E ro rk rh rd rt rl rs rSz rTc rFa rPa rPy rMi rMe rSr rZ rKi rHe rDo (va_up rTx rTc.toNatClampNeg (some ta)) rLa rSk ++ rc_tp E LT pk pv pa pn tc) H := hP
      have hD : va_D A (rw_4 E ro rk rh rd rt rl rs rSz rTc rFa rPa rPy rMi rMe rSr rZ rKi rHe rDo (va_up rTx rTc.toNatClampNeg (some ta)) rLa rSk ++ rc_tp E LT pk pv pa pn tc) := hD
      refine lv_aload_n hx hb dX1_appendText_30 rfl (lv_at hl 1 rfl) ?_
      refine va_get (D := E.1) (ci := 1) (v := .ref rl) (C := RX1) (T := TX1) (N := 15) hx hb hts n_X1 hown hK hP 0 rfl rfl 6 (by decide) k_35 (fun _ h9 => h9) rfl dX1_appendText_31 ?_
      refine lv_aload_n hx hb dX1_appendText_34 rfl (lv_at hl 2 rfl) ?_
      obtain ⟨q_6, hq_6⟩ := rc_tpo (E := E) (X := (rw_4 E ro rk rh rd rt rl rs rSz rTc rFa rPa rPy rMi rMe rSr rZ rKi rHe rDo (va_up rTx rTc.toNatClampNeg (some ta)) rLa rSk)) (pk := pk) (pv := pv) (pa := pa) (pn := pn) (pc := tc) hm_ta
      refine va_get (D := E.1) (ci := 4) (v := .int (pk ta)) (C := RX4) (T := TX4) (N := 3) hx hb hts n_X4 hown hK hP q_6 hq_6 rfl 0 (by decide) k_70 (fun _ h9 => h9) rfl dX1_appendText_35 ?_
      refine lv_iload_n hx hb dX1_appendText_38 rfl (lv_at hl 0 rfl) ?_
      obtain ⟨o_7, h⟩ := h
      refine rc_iast hx hb hK hP hD hS 5 0 rfl rfl ((pk ta).toNatClampNeg) rfl o_7 dX1_appendText_39 (fun H locs hP hD hS => ?_)
      have hP : va_P E.1 vwCl (rw_4 E ro rk rh rd rt rl rs rSz rTc rFa rPa rPy rMi rMe rSr rZ rKi rHe rDo (va_up rTx rTc.toNatClampNeg (some ta)) (upd rLa ((pk ta).toNatClampNeg) rTc) rSk ++ rc_tp E LT pk pv pa pn tc) H := hP
      have hD : va_D A (rw_4 E ro rk rh rd rt rl rs rSz rTc rFa rPa rPy rMi rMe rSr rZ rKi rHe rDo (va_up rTx rTc.toNatClampNeg (some ta)) (upd rLa ((pk ta).toNatClampNeg) rTc) rSk ++ rc_tp E LT pk pv pa pn tc) := hD
      refine lv_aload_n hx hb dX1_appendText_40 rfl (lv_at hl 1 rfl) ?_
      refine lv_dup hx hb dX1_appendText_41 rfl ?_
      refine va_get (D := E.1) (ci := 1) (v := .int rTc) (C := RX1) (T := TX1) (N := 15) hx hb hts n_X1 hown hK hP 0 rfl rfl 5 (by decide) k_31 (fun _ h9 => h9) rfl dX1_appendText_42 ?_
      refine lv_iconst (v := 1) hx hb dX1_appendText_45 (by decide) ?_
      refine lv_iadd hx hb dX1_appendText_46 ?_
      refine va_put (D := E.1) (ci := 1) (v := .int (rTc + 1)) (ty := .int) (C := RX1) (T := TX1) (N := 15) hx hb hts n_X1 tyX1 tyX1_ok nmX1 hown hK hP hD hS 0 rfl rfl 5 (by decide) k_31 (fun _ h9 => h9) rfl (by decide +kernel) rfl rfl (Nat.le_of_ble_eq_true rfl) dX1_appendText_47 (fun H locs hP hD hS => ?_)
      have hP : va_P E.1 vwCl (rw_4 E ro rk rh rd rt rl rs rSz (rTc + 1) rFa rPa rPy rMi rMe rSr rZ rKi rHe rDo (va_up rTx rTc.toNatClampNeg (some ta)) (upd rLa ((pk ta).toNatClampNeg) rTc) rSk ++ rc_tp E LT pk pv pa pn tc) H := hP
      have hD : va_D A (rw_4 E ro rk rh rd rt rl rs rSz (rTc + 1) rFa rPa rPy rMi rMe rSr rZ rKi rHe rDo (va_up rTx rTc.toNatClampNeg (some ta)) (upd rLa ((pk ta).toNatClampNeg) rTc) rSk ++ rc_tp E LT pk pv pa pn tc) := hD
      refine lv_iload_n hx hb dX1_appendText_50 rfl (lv_at hl 0 rfl) ?_
      exact hret _ _ _ _ rTc (rTc + 1, va_up rTx rTc.toNatClampNeg (some ta), upd rLa ((pk ta).toNatClampNeg) rTc) rfl h hP hD hS dX1_appendText_51
def wp_X1_farIn (p1 : Int32) (rFa : Int32) (rPa : Int32) (Q : Int32 → Prop) : Prop :=
  wp_X6_held (rFa - (rPa * p1)) 0 99 (fun (r_1 : Int32) => Q r_1)
set_option maxHeartbeats 4000000 in
set_option maxRecDepth 100000 in
theorem c_X1_farIn (l : Launch) (E : gE) (ro rk rh rd rt rl rs : Nat) (sz : Nat) (rSz : Int32) (rTc : Int32) (rFa : Int32) (rPa : Int32) (rPy : Int32) (rMi : Int32) (rMe : Int32) (rSr : Int32) (rZ : Int32) (rKi : Nat → Int32) (rHe : Nat → Int32) (rDo : Nat → Int32) (rTx : Nat → Option Nat) (rLa : Nat → Int32) (rSk : Nat → Int32) (p1 : Int32) (LT : List Nat) (pk : Nat → Int32) (pv : Nat → Int32) (pa : Nat → Nat) (pn : Nat → Nat) (tc : Nat → Nat → Int32) (Q : Int32 → Prop) (h : wp_X1_farIn p1 rFa rPa Q) : Met l yX1_farIn wsX1_farIn ({ frames := 2, cells := 0, slots := 0, locals := 62 } : Room) (va_Pc [.ref ro, .int p1] (rc_B E (rw_4 E ro rk rh rd rt rl rs rSz rTc rFa rPa rPy rMi rMe rSr rZ rKi rHe rDo rTx rLa rSk ++ rc_tp E LT pk pv pa pn tc) sz)) (va_Qi (S := Unit) (fun (r : Int32) (u : Unit) => Q r) (fun u t => rc_C E (va_A (rw_4 E ro rk rh rd rt rl rs rSz rTc rFa rPa rPy rMi rMe rSr rZ rKi rHe rDo rTx rLa rSk ++ rc_tp E LT pk pv pa pn tc) sz) (rw_4 E ro rk rh rd rt rl rs rSz rTc rFa rPa rPy rMi rMe rSr rZ rKi rHe rDo rTx rLa rSk ++ rc_tp E LT pk pv pa pn tc) t) (va_A (rw_4 E ro rk rh rd rt rl rs rSz rTc rFa rPa rPy rMi rMe rSr rZ rKi rHe rDo rTx rLa rSk ++ rc_tp E LT pk pv pa pn tc) sz)) 0 0 (va_A (rw_4 E ro rk rh rd rt rl rs rSz rTc rFa rPa rPy rMi rMe rSr rZ rKi rHe rDo rTx rLa rSk ++ rc_tp E LT pk pv pa pn tc) sz) := by
  refine rc_enterI (cc := cX1_farIn) (maxL := 2) (by decide) rfl (Nat.le_of_ble_eq_true rfl) ?_
  intro p e s m args below meth c QQ A hx hb hml hown hts hmn hE hP hD hA hret ls hl
  have hown : s.vm.findClass RX1 = some m.cls := hown
  have hK := hE.1
  have hS : va_S A s.heap s.heap [] := va_S.rf
  have hl : lv_has ls 2 [(0, .ref ro), (1, .int p1)] := hl
  have n_X1 : ∀ w ∈ wsX10, w ∈ wsX1_farIn := fun _ h => List.mem_cons_of_mem _ (List.mem_append_right _ h)
  have k_38 := hts (.fieldLink RX1 38 "RidgeClaps$Ridge" "far" "I") (List.mem_of_getElem? (i := 1) rfl)
  have k_41 := hts (.fieldLink RX1 41 "RidgeClaps$Ridge" "pace" "I") (List.mem_of_getElem? (i := 2) rfl)
  have k_iX6 := hts (.initialized RX6) (List.mem_of_getElem? (i := 4) rfl)
  have k_sX6_held := hts (.static yX6_held) (List.mem_of_getElem? (i := 3) rfl)
  unfold wp_X1_farIn at h
  obtain ⟨H, hH⟩ : ∃ H, H = s.heap := ⟨_, rfl⟩
  obtain ⟨locs, hlocs⟩ : ∃ locs : List Loc, locs = [] := ⟨_, rfl⟩
  have hP : va_P E.1 vwCl (rw_4 E ro rk rh rd rt rl rs rSz rTc rFa rPa rPy rMi rMe rSr rZ rKi rHe rDo rTx rLa rSk ++ rc_tp E LT pk pv pa pn tc) H := by rw [hH]; exact hP
  have hS : va_S A s.heap H locs := by rw [hH, hlocs]; exact hS
  suffices hgo : W p l e ({ frames := 2, cells := 0, slots := 0, locals := 62 } : Room) s m args below meth c H locs 0 0 QQ (F0 m 0 ls []) from by rw [hH, hlocs] at hgo; exact hgo
  refine lv_aload_n hx hb dX1_farIn_0 rfl (lv_at hl 0 rfl) ?_
  refine va_get (D := E.1) (ci := 1) (v := .int rFa) (C := RX1) (T := TX1) (N := 15) hx hb hts n_X1 hown hK hP 0 rfl rfl 7 (by decide) k_38 (fun _ h9 => h9) rfl dX1_farIn_1 ?_
  refine lv_aload_n hx hb dX1_farIn_4 rfl (lv_at hl 0 rfl) ?_
  refine va_get (D := E.1) (ci := 1) (v := .int rPa) (C := RX1) (T := TX1) (N := 15) hx hb hts n_X1 hown hK hP 0 rfl rfl 8 (by decide) k_41 (fun _ h9 => h9) rfl dX1_farIn_5 ?_
  refine lv_iload_n hx hb dX1_farIn_8 rfl (lv_at hl 1 rfl) ?_
  refine lv_imul hx hb dX1_farIn_9 ?_
  refine lv_isub hx hb dX1_farIn_10 ?_
  refine lv_iconst (v := 0) hx hb dX1_farIn_11 (by decide) ?_
  refine lv_bipush (v := 99) hx hb dX1_farIn_12 (by decide) ?_
  have hPc := hP.sub (ws' := []) [] rfl
  have hDc := hD.sub (ws' := []) [] (by decide) rfl
  have hFc := va_free (wc := []) hD hS hA [] rfl
  refine va_calli (va_runSN (As := [.int (rFa - (rPa * p1)), .int 0, .int 99]) (rest := []) ⟨hx, hb, hml, hown, hts⟩ (c_X6_held l E H.size (rFa - (rPa * p1)) 0 99 _ h) ⟨va_cnB 3 hts gX1_farIn_X6_held_n78 rfl rfl rfl (hE.2.1 6 _ rfl) k_iX6 (by decide +kernel) ⟨Nat.le_of_ble_eq_true rfl, Nat.le_of_ble_eq_true rfl⟩, k_sX6_held, trivial⟩ ⟨fun a U g mk q => ⟨q.1, q.2.blind⟩, fun U hU hW => ⟨rfl, by rw [hU], by rw [hU]; exact hPc, hE.call hS hFc hW hU, hDc.weaken (fun _ _ _ _ => trivial)⟩⟩ rfl rfl hl.1 rfl (lv_room (Nat.le_of_ble_eq_true rfl)) dX1_farIn_14 ⟨Nat.zero_le _, Nat.zero_le _⟩) hS (fun q _ h => hFc q h) hFc (fun r_1 u t H1 locs ht hvm h hB hz1 hk1 hS => ?_)
  obtain ⟨hP1, hD1⟩ := hB
  rw [ht] at hP1
  obtain ⟨hP, hD⟩ := rc_foc hP hD [] [none, none, none, none, none, none, none] (by decide) rfl hk1 hP1 rfl
  generalize H1 = H at hP hS ⊢
  have hP : va_P E.1 vwCl (rw_4 E ro rk rh rd rt rl rs rSz rTc rFa rPa rPy rMi rMe rSr rZ rKi rHe rDo rTx rLa rSk ++ rc_tp E LT pk pv pa pn tc) H := hP
  have hD : va_D A (rw_4 E ro rk rh rd rt rl rs rSz rTc rFa rPa rPy rMi rMe rSr rZ rKi rHe rDo rTx rLa rSk ++ rc_tp E LT pk pv pa pn tc) := hD
  exact hret _ _ _ _ r_1 () rfl h hP hD hS dX1_farIn_17
def wp_X1_lawGives (p1 : Int32) (p2 : Int32) (p3 : Int32) (p4 : Int32) (p5 : Int32) (rTx : Nat → Option Nat) (rLa : Nat → Int32) (rSk : Nat → Int32) (LT : List Nat) (pn : Nat → Nat) (tc : Nat → Nat → Int32) (Q : Int32 → (Nat → Int32) → Prop) : Prop :=
  (vp_in p1 3 ∧ (((rLa p1.toNatClampNeg) < 0 → Q p5 rSk) ∧ (¬ ((rLa p1.toNatClampNeg) < 0) → ((14 ≤ (rLa p1.toNatClampNeg) → Q p5 rSk) ∧ (¬ (14 ≤ (rLa p1.toNatClampNeg)) → (vp_in (rLa p1.toNatClampNeg) 14 ∧ ((rTx ((rLa p1.toNatClampNeg).toNatClampNeg) = none → Q p5 rSk) ∧ (∀ a_5 : Nat, rTx ((rLa p1.toNatClampNeg).toNatClampNeg) = some a_5 → (vp_in (rLa p1.toNatClampNeg) 14 ∧ (∃ a_8 : Nat, rTx ((rLa p1.toNatClampNeg).toNatClampNeg) = some a_8 ∧ (a_8 ∈ LT ∧ wp_X4_valueFor p2 p3 p4 rSk pn tc a_8 (fun (r_11 : Int32) (w_12 : Nat → Int32) => Q r_11 w_12))))))))))))
set_option maxHeartbeats 4000000 in
set_option maxRecDepth 100000 in
theorem c_X1_lawGives (l : Launch) (E : gE) (ro rk rh rd rt rl rs : Nat) (sz : Nat) (rSz : Int32) (rTc : Int32) (rFa : Int32) (rPa : Int32) (rPy : Int32) (rMi : Int32) (rMe : Int32) (rSr : Int32) (rZ : Int32) (rKi : Nat → Int32) (rHe : Nat → Int32) (rDo : Nat → Int32) (rTx : Nat → Option Nat) (rLa : Nat → Int32) (rSk : Nat → Int32) (p1 p2 p3 p4 p5 : Int32) (LT : List Nat) (pk : Nat → Int32) (pv : Nat → Int32) (pa : Nat → Nat) (pn : Nat → Nat) (tc : Nat → Nat → Int32) (Q : Int32 → (Nat → Int32) → Prop) (h : wp_X1_lawGives p1 p2 p3 p4 p5 rTx rLa rSk LT pn tc Q) : Met l yX1_lawGives wsX1_lawGives ({ frames := 2, cells := 0, slots := 0, locals := 50 } : Room) (va_Pc [.ref ro, .int p1, .int p2, .int p3, .int p4, .int p5] (rc_B E (rw_4 E ro rk rh rd rt rl rs rSz rTc rFa rPa rPy rMi rMe rSr rZ rKi rHe rDo rTx rLa rSk ++ rc_tp E LT pk pv pa pn tc) sz)) (va_Qi (S := (Nat → Int32)) (fun (r : Int32) (u : (Nat → Int32)) => Q r u) (fun u t => rc_C E (va_A (rw_4 E ro rk rh rd rt rl rs rSz rTc rFa rPa rPy rMi rMe rSr rZ rKi rHe rDo rTx rLa rSk ++ rc_tp E LT pk pv pa pn tc) sz) (rw_4 E ro rk rh rd rt rl rs rSz rTc rFa rPa rPy rMi rMe rSr rZ rKi rHe rDo rTx rLa u ++ rc_tp E LT pk pv pa pn tc) t) (va_A (rw_4 E ro rk rh rd rt rl rs rSz rTc rFa rPa rPy rMi rMe rSr rZ rKi rHe rDo rTx rLa rSk ++ rc_tp E LT pk pv pa pn tc) sz)) 0 0 (va_A (rw_4 E ro rk rh rd rt rl rs rSz rTc rFa rPa rPy rMi rMe rSr rZ rKi rHe rDo rTx rLa rSk ++ rc_tp E LT pk pv pa pn tc) sz) := by
  refine rc_enterI (cc := cX1_lawGives) (maxL := 7) (by decide) rfl (Nat.le_of_ble_eq_true rfl) ?_
  intro p e s m args below meth c QQ A hx hb hml hown hts hmn hE hP hD hA hret ls hl
  have hown : s.vm.findClass RX1 = some m.cls := hown
  have hK := hE.1
  have hS : va_S A s.heap s.heap [] := va_S.rf
  have hl : lv_has ls 7 [(0, .ref ro), (1, .int p1), (2, .int p2), (3, .int p3), (4, .int p4), (5, .int p5)] := hl
  have n_X1 : ∀ w ∈ wsX10, w ∈ wsX1_lawGives := fun _ h => List.mem_cons_of_mem _ (List.mem_append_left _ (List.mem_append_right _ h))
  have k_35 := hts (.fieldLink RX1 35 "RidgeClaps$Ridge" "lastTold" "[I") (List.mem_of_getElem? (i := 1) rfl)
  have k_27 := hts (.fieldLink RX1 27 "RidgeClaps$Ridge" "texts" "[LRidgeClaps$Text;") (List.mem_of_getElem? (i := 2) rfl)
  have k_59 := hts (.fieldLink RX1 59 "RidgeClaps$Ridge" "stack" "[I") (List.mem_of_getElem? (i := 3) rfl)
  unfold wp_X1_lawGives at h
  obtain ⟨H, hH⟩ : ∃ H, H = s.heap := ⟨_, rfl⟩
  obtain ⟨locs, hlocs⟩ : ∃ locs : List Loc, locs = [] := ⟨_, rfl⟩
  have hP : va_P E.1 vwCl (rw_4 E ro rk rh rd rt rl rs rSz rTc rFa rPa rPy rMi rMe rSr rZ rKi rHe rDo rTx rLa rSk ++ rc_tp E LT pk pv pa pn tc) H := by rw [hH]; exact hP
  have hS : va_S A s.heap H locs := by rw [hH, hlocs]; exact hS
  suffices hgo : W p l e ({ frames := 2, cells := 0, slots := 0, locals := 50 } : Room) s m args below meth c H locs 0 0 QQ (F0 m 0 ls []) from by rw [hH, hlocs] at hgo; exact hgo
  refine lv_aload_n hx hb dX1_lawGives_0 rfl (lv_at hl 0 rfl) ?_
  refine va_get (D := E.1) (ci := 1) (v := .ref rl) (C := RX1) (T := TX1) (N := 15) hx hb hts n_X1 hown hK hP 0 rfl rfl 6 (by decide) k_35 (fun _ h9 => h9) rfl dX1_lawGives_1 ?_
  refine lv_iload_n hx hb dX1_lawGives_4 rfl (lv_at hl 1 rfl) ?_
  obtain ⟨o_1, h⟩ := h
  refine rc_iald hx hb hK hP 5 0 rfl rfl p1.toNatClampNeg rfl o_1 dX1_lawGives_5 ?_
  refine lv_istore (lv' := [(6, .int (rLa p1.toNatClampNeg)), (0, .ref ro), (1, .int p1), (2, .int p2), (3, .int p3), (4, .int p4), (5, .int p5)]) hx hb dX1_lawGives_6 hl (by decide) rfl (fun ls hl => ?_)
  refine lv_iload hx hb dX1_lawGives_8 (lv_at hl 0 rfl) ?_
  refine lv_if_lt (tgt := 30) hx hb dX1_lawGives_10 (by decide) (fun c_2 => ?_) (fun c_2 => ?_)
  · have h := h.1 c_2
    refine lv_iload hx hb dX1_lawGives_30 (lv_at hl 6 rfl) ?_
    exact hret _ _ _ _ p5 (rSk) rfl h hP hD hS dX1_lawGives_32
  · have h := h.2 c_2
    refine lv_iload hx hb dX1_lawGives_13 (lv_at hl 0 rfl) ?_
    refine lv_bipush (v := 14) hx hb dX1_lawGives_15 (by decide) ?_
    refine lv_icmp_ge (tgt := 30) hx hb dX1_lawGives_17 (by decide) (fun c_3 => ?_) (fun c_3 => ?_)
    · have h := h.1 c_3
      refine lv_iload hx hb dX1_lawGives_30 (lv_at hl 6 rfl) ?_
      exact hret _ _ _ _ p5 (rSk) rfl h hP hD hS dX1_lawGives_32
    · have h := h.2 c_3
      refine lv_aload_n hx hb dX1_lawGives_20 rfl (lv_at hl 1 rfl) ?_
      refine va_get (D := E.1) (ci := 1) (v := .ref rt) (C := RX1) (T := TX1) (N := 15) hx hb hts n_X1 hown hK hP 0 rfl rfl 4 (by decide) k_27 (fun _ h9 => h9) rfl dX1_lawGives_21 ?_
      refine lv_iload hx hb dX1_lawGives_24 (lv_at hl 0 rfl) ?_
      obtain ⟨o_4, h⟩ := h
      refine va_aldq hx hb hK hP 4 5 rfl rfl o_4 dX1_lawGives_26 ?_
      rcases c_6 : rTx ((rLa p1.toNatClampNeg).toNatClampNeg) with _ | a_5
      · have h := h.1 c_6
        refine lv_ifnonnullN hx hb dX1_lawGives_27 ?_
        refine lv_iload hx hb dX1_lawGives_30 (lv_at hl 6 rfl) ?_
        exact hret _ _ _ _ p5 (rSk) rfl h hP hD hS dX1_lawGives_32
      · have h := h.2 a_5 c_6
        refine lv_ifnonnull (tgt := 33) hx hb dX1_lawGives_27 (by decide) ?_
        refine lv_aload_n hx hb dX1_lawGives_33 rfl (lv_at hl 1 rfl) ?_
        refine va_get (D := E.1) (ci := 1) (v := .ref rt) (C := RX1) (T := TX1) (N := 15) hx hb hts n_X1 hown hK hP 0 rfl rfl 4 (by decide) k_27 (fun _ h9 => h9) rfl dX1_lawGives_34 ?_
        refine lv_iload hx hb dX1_lawGives_37 (lv_at hl 0 rfl) ?_
        obtain ⟨o_7, h⟩ := h
        refine va_aldq hx hb hK hP 4 5 rfl rfl o_7 dX1_lawGives_39 ?_
        refine lv_iload_n hx hb dX1_lawGives_40 rfl (lv_at hl 3 rfl) ?_
        refine lv_iload_n hx hb dX1_lawGives_41 rfl (lv_at hl 4 rfl) ?_
        refine lv_iload hx hb dX1_lawGives_42 (lv_at hl 5 rfl) ?_
        refine lv_aload_n hx hb dX1_lawGives_44 rfl (lv_at hl 1 rfl) ?_
        refine va_get (D := E.1) (ci := 1) (v := .ref rs) (C := RX1) (T := TX1) (N := 15) hx hb hts n_X1 hown hK hP 0 rfl rfl 14 (by decide) k_59 (fun _ h9 => h9) rfl dX1_lawGives_45 ?_
        obtain ⟨a_8, s_9, h⟩ := h
        refine W.eq (g2 := F0 m 48 ls [.ref rs, .int p4, .int p3, .int p2, .ref a_8]) (by rw [s_9]; rfl) ?_
        obtain ⟨m_10, h⟩ := h
        have hPc := hP.part (cx := (rw_3 E rs rSk)) [6] rfl
        have hDc := hD.part (cx := (rw_3 E rs rSk)) [6] (by decide) rfl
        have hFc := va_freeP (cx := (rw_3 E rs rSk)) hD hS hA [6] rfl
        obtain ⟨q_13, hq_13⟩ := rc_tpo (E := E) (X := (rw_3 E rs rSk)) (pk := pk) (pv := pv) (pa := pa) (pn := pn) (pc := tc) m_10
        refine va_calli (va_runV (As := [.int p2, .int p3, .int p4, .ref rs]) (rest := []) ⟨hx, hb, hml, hown, hts⟩ (c_X4_valueFor l E rs a_8 H.size rSk p2 p3 p4 LT pk pv pa pn tc m_10 _ h) (cwV 4 hts gX1_lawGives_X4_valueFor rfl rfl rfl (by decide +kernel) ⟨Nat.le_of_ble_eq_true rfl, Nat.le_of_ble_eq_true rfl⟩) ⟨fun a U g mk q => ⟨q.1, q.2.blind⟩, va_recv hK hPc (ci := 4) (q0 := q_13) rfl hq_13, fun U hU hW => ⟨rfl, by rw [hU], by rw [hU]; exact hPc, hE.call hS hFc hW hU, hDc.weaken (fun _ _ _ _ => trivial)⟩⟩ rfl rfl hl.1 rfl (lv_room (Nat.le_of_ble_eq_true rfl)) dX1_lawGives_48 ⟨Nat.zero_le _, Nat.zero_le _⟩) hS (fun q _ h => hFc q h) hFc (fun r_11 u t H1 locs ht hvm h hB hz1 hk1 hS => ?_)
        obtain ⟨w_12, rfl⟩ : ∃ z, z = u := ⟨_, rfl⟩
        obtain ⟨hP1, hD1⟩ := hB
        rw [ht] at hP1
        obtain ⟨hP, hD⟩ := rc_focP hP hD [6] [none, none, none, none, none, none, some 0] (by decide) rfl rfl hk1 hP1 rfl
        generalize H1 = H at hP hS ⊢
        have hP : va_P E.1 vwCl (rw_4 E ro rk rh rd rt rl rs rSz rTc rFa rPa rPy rMi rMe rSr rZ rKi rHe rDo rTx rLa w_12 ++ rc_tp E LT pk pv pa pn tc) H := hP
        have hD : va_D A (rw_4 E ro rk rh rd rt rl rs rSz rTc rFa rPa rPy rMi rMe rSr rZ rKi rHe rDo rTx rLa w_12 ++ rc_tp E LT pk pv pa pn tc) := hD
        exact hret _ _ _ _ r_11 (w_12) rfl h hP hD hS dX1_lawGives_51
def wp_X1_oddsIn (p1 : Int32) (rFa : Int32) (rPa : Int32) (rTx : Nat → Option Nat) (rLa : Nat → Int32) (rSk : Nat → Int32) (LT : List Nat) (pn : Nat → Nat) (tc : Nat → Nat → Int32) (Q : Int32 → (Nat → Int32) → Prop) : Prop :=
  wp_X1_farIn p1 rFa rPa (fun (r_1 : Int32) => wp_X1_lawGives 1 r_1 p1 0 (100 - (3 * r_1)) rTx rLa rSk LT pn tc (fun (r_2 : Int32) (w_3 : Nat → Int32) => wp_X6_held r_2 0 100 (fun (r_4 : Int32) => Q r_4 w_3)))
set_option maxHeartbeats 4000000 in
set_option maxRecDepth 100000 in
theorem c_X1_oddsIn (l : Launch) (E : gE) (ro rk rh rd rt rl rs : Nat) (sz : Nat) (rSz : Int32) (rTc : Int32) (rFa : Int32) (rPa : Int32) (rPy : Int32) (rMi : Int32) (rMe : Int32) (rSr : Int32) (rZ : Int32) (rKi : Nat → Int32) (rHe : Nat → Int32) (rDo : Nat → Int32) (rTx : Nat → Option Nat) (rLa : Nat → Int32) (rSk : Nat → Int32) (p1 : Int32) (LT : List Nat) (pk : Nat → Int32) (pv : Nat → Int32) (pa : Nat → Nat) (pn : Nat → Nat) (tc : Nat → Nat → Int32) (Q : Int32 → (Nat → Int32) → Prop) (h : wp_X1_oddsIn p1 rFa rPa rTx rLa rSk LT pn tc Q) : Met l yX1_oddsIn wsX1_oddsIn ({ frames := 3, cells := 0, slots := 0, locals := 83 } : Room) (va_Pc [.ref ro, .int p1] (rc_B E (rw_4 E ro rk rh rd rt rl rs rSz rTc rFa rPa rPy rMi rMe rSr rZ rKi rHe rDo rTx rLa rSk ++ rc_tp E LT pk pv pa pn tc) sz)) (va_Qi (S := (Nat → Int32)) (fun (r : Int32) (u : (Nat → Int32)) => Q r u) (fun u t => rc_C E (va_A (rw_4 E ro rk rh rd rt rl rs rSz rTc rFa rPa rPy rMi rMe rSr rZ rKi rHe rDo rTx rLa rSk ++ rc_tp E LT pk pv pa pn tc) sz) (rw_4 E ro rk rh rd rt rl rs rSz rTc rFa rPa rPy rMi rMe rSr rZ rKi rHe rDo rTx rLa u ++ rc_tp E LT pk pv pa pn tc) t) (va_A (rw_4 E ro rk rh rd rt rl rs rSz rTc rFa rPa rPy rMi rMe rSr rZ rKi rHe rDo rTx rLa rSk ++ rc_tp E LT pk pv pa pn tc) sz)) 0 0 (va_A (rw_4 E ro rk rh rd rt rl rs rSz rTc rFa rPa rPy rMi rMe rSr rZ rKi rHe rDo rTx rLa rSk ++ rc_tp E LT pk pv pa pn tc) sz) := by
  refine rc_enterI (cc := cX1_oddsIn) (maxL := 3) (by decide) rfl (Nat.le_of_ble_eq_true rfl) ?_
  intro p e s m args below meth c QQ A hx hb hml hown hts hmn hE hP hD hA hret ls hl
  have hown : s.vm.findClass RX1 = some m.cls := hown
  have hK := hE.1
  have hS : va_S A s.heap s.heap [] := va_S.rf
  have hl : lv_has ls 3 [(0, .ref ro), (1, .int p1)] := hl
  have k_iX6 := hts (.initialized RX6) (List.mem_of_getElem? (i := 9) rfl)
  have k_sX6_held := hts (.static yX6_held) (List.mem_of_getElem? (i := 8) rfl)
  unfold wp_X1_oddsIn at h
  obtain ⟨H, hH⟩ : ∃ H, H = s.heap := ⟨_, rfl⟩
  obtain ⟨locs, hlocs⟩ : ∃ locs : List Loc, locs = [] := ⟨_, rfl⟩
  have hP : va_P E.1 vwCl (rw_4 E ro rk rh rd rt rl rs rSz rTc rFa rPa rPy rMi rMe rSr rZ rKi rHe rDo rTx rLa rSk ++ rc_tp E LT pk pv pa pn tc) H := by rw [hH]; exact hP
  have hS : va_S A s.heap H locs := by rw [hH, hlocs]; exact hS
  suffices hgo : W p l e ({ frames := 3, cells := 0, slots := 0, locals := 83 } : Room) s m args below meth c H locs 0 0 QQ (F0 m 0 ls []) from by rw [hH, hlocs] at hgo; exact hgo
  refine lv_aload_n hx hb dX1_oddsIn_0 rfl (lv_at hl 0 rfl) ?_
  refine lv_iload_n hx hb dX1_oddsIn_1 rfl (lv_at hl 1 rfl) ?_
  have hPc := hP
  have hDc := hD
  have hFc := rc_freeI hD hS hA
  refine va_calli (va_runV (As := [.int p1]) (rest := []) ⟨hx, hb, hml, hown, hts⟩ (c_X1_farIn l E ro rk rh rd rt rl rs H.size rSz rTc rFa rPa rPy rMi rMe rSr rZ rKi rHe rDo rTx rLa rSk p1 LT pk pv pa pn tc _ h) (cwV 1 hts gX1_oddsIn_X1_farIn rfl rfl rfl (by decide +kernel) ⟨Nat.le_of_ble_eq_true rfl, Nat.le_of_ble_eq_true rfl⟩) ⟨fun a U g mk q => ⟨q.1, q.2.blind⟩, va_recv hK hPc (ci := 1) (q0 := 0) rfl rfl, fun U hU hW => ⟨rfl, by rw [hU], by rw [hU]; exact hPc, hE.call hS hFc hW hU, hDc.weaken (fun _ _ _ _ => trivial)⟩⟩ rfl rfl hl.1 rfl (lv_room (Nat.le_of_ble_eq_true rfl)) dX1_oddsIn_2 ⟨Nat.zero_le _, Nat.zero_le _⟩) hS (fun q _ h => hFc q h) hFc (fun r_1 u t H1 locs ht hvm h hB hz1 hk1 hS => ?_)
  obtain ⟨hP1, hD1⟩ := hB
  rw [ht] at hP1
  have hP := hP1
  have hD := hD1.weaken (fun _ _ _ h => hFc _ h)
  generalize H1 = H at hP hS ⊢
  have hP : va_P E.1 vwCl (rw_4 E ro rk rh rd rt rl rs rSz rTc rFa rPa rPy rMi rMe rSr rZ rKi rHe rDo rTx rLa rSk ++ rc_tp E LT pk pv pa pn tc) H := hP
  have hD : va_D A (rw_4 E ro rk rh rd rt rl rs rSz rTc rFa rPa rPy rMi rMe rSr rZ rKi rHe rDo rTx rLa rSk ++ rc_tp E LT pk pv pa pn tc) := hD
  refine lv_istore_n (lv' := [(2, .int r_1), (0, .ref ro), (1, .int p1)]) hx hb dX1_oddsIn_5 rfl hl (by decide) rfl (fun ls hl => ?_)
  refine lv_aload_n hx hb dX1_oddsIn_6 rfl (lv_at hl 1 rfl) ?_
  refine lv_iconst (v := 1) hx hb dX1_oddsIn_7 (by decide) ?_
  refine lv_iload_n hx hb dX1_oddsIn_8 rfl (lv_at hl 0 rfl) ?_
  refine lv_iload_n hx hb dX1_oddsIn_9 rfl (lv_at hl 2 rfl) ?_
  refine lv_iconst (v := 0) hx hb dX1_oddsIn_10 (by decide) ?_
  refine lv_bipush (v := 100) hx hb dX1_oddsIn_11 (by decide) ?_
  refine lv_iconst (v := 3) hx hb dX1_oddsIn_13 (by decide) ?_
  refine lv_iload_n hx hb dX1_oddsIn_14 rfl (lv_at hl 0 rfl) ?_
  refine lv_imul hx hb dX1_oddsIn_15 ?_
  refine lv_isub hx hb dX1_oddsIn_16 ?_
  have hPc := hP
  have hDc := hD
  have hFc := rc_freeI hD hS hA
  refine va_calli (va_runV (As := [.int 1, .int r_1, .int p1, .int 0, .int (100 - (3 * r_1))]) (rest := []) ⟨hx, hb, hml, hown, hts⟩ (c_X1_lawGives l E ro rk rh rd rt rl rs H.size rSz rTc rFa rPa rPy rMi rMe rSr rZ rKi rHe rDo rTx rLa rSk 1 r_1 p1 0 (100 - (3 * r_1)) LT pk pv pa pn tc _ h) (cwV 5 hts gX1_oddsIn_X1_lawGives rfl rfl rfl (by decide +kernel) ⟨Nat.le_of_ble_eq_true rfl, Nat.le_of_ble_eq_true rfl⟩) ⟨fun a U g mk q => ⟨q.1, q.2.blind⟩, va_recv hK hPc (ci := 1) (q0 := 0) rfl rfl, fun U hU hW => ⟨rfl, by rw [hU], by rw [hU]; exact hPc, hE.call hS hFc hW hU, hDc.weaken (fun _ _ _ _ => trivial)⟩⟩ rfl rfl hl.1 rfl (lv_room (Nat.le_of_ble_eq_true rfl)) dX1_oddsIn_17 ⟨Nat.zero_le _, Nat.zero_le _⟩) hS (fun q _ h => hFc q h) hFc (fun r_2 u t H1 locs ht hvm h hB hz1 hk1 hS => ?_)
  obtain ⟨w_3, rfl⟩ : ∃ z, z = u := ⟨_, rfl⟩
  obtain ⟨hP1, hD1⟩ := hB
  rw [ht] at hP1
  have hP := hP1
  have hD := hD1.weaken (fun _ _ _ h => hFc _ h)
  generalize H1 = H at hP hS ⊢
  have hP : va_P E.1 vwCl (rw_4 E ro rk rh rd rt rl rs rSz rTc rFa rPa rPy rMi rMe rSr rZ rKi rHe rDo rTx rLa w_3 ++ rc_tp E LT pk pv pa pn tc) H := hP
  have hD : va_D A (rw_4 E ro rk rh rd rt rl rs rSz rTc rFa rPa rPy rMi rMe rSr rZ rKi rHe rDo rTx rLa w_3 ++ rc_tp E LT pk pv pa pn tc) := hD
  refine lv_iconst (v := 0) hx hb dX1_oddsIn_20 (by decide) ?_
  refine lv_bipush (v := 100) hx hb dX1_oddsIn_21 (by decide) ?_
  have hPc := hP.sub (ws' := []) [] rfl
  have hDc := hD.sub (ws' := []) [] (by decide) rfl
  have hFc := va_free (wc := []) hD hS hA [] rfl
  refine va_calli (va_runSN (As := [.int r_2, .int 0, .int 100]) (rest := []) ⟨hx, hb, hml, hown, hts⟩ (c_X6_held l E H.size r_2 0 100 _ h) ⟨va_cnB 3 hts gX1_oddsIn_X6_held_n78 rfl rfl rfl (hE.2.1 6 _ rfl) k_iX6 (by decide +kernel) ⟨Nat.le_of_ble_eq_true rfl, Nat.le_of_ble_eq_true rfl⟩, k_sX6_held, trivial⟩ ⟨fun a U g mk q => ⟨q.1, q.2.blind⟩, fun U hU hW => ⟨rfl, by rw [hU], by rw [hU]; exact hPc, hE.call hS hFc hW hU, hDc.weaken (fun _ _ _ _ => trivial)⟩⟩ rfl rfl hl.1 rfl (lv_room (Nat.le_of_ble_eq_true rfl)) dX1_oddsIn_23 ⟨Nat.zero_le _, Nat.zero_le _⟩) hS (fun q _ h => hFc q h) hFc (fun r_4 u t H1 locs ht hvm h hB hz1 hk1 hS => ?_)
  obtain ⟨hP1, hD1⟩ := hB
  rw [ht] at hP1
  obtain ⟨hP, hD⟩ := rc_foc hP hD [] [none, none, none, none, none, none, none] (by decide) rfl hk1 hP1 rfl
  generalize H1 = H at hP hS ⊢
  have hP : va_P E.1 vwCl (rw_4 E ro rk rh rd rt rl rs rSz rTc rFa rPa rPy rMi rMe rSr rZ rKi rHe rDo rTx rLa w_3 ++ rc_tp E LT pk pv pa pn tc) H := hP
  have hD : va_D A (rw_4 E ro rk rh rd rt rl rs rSz rTc rFa rPa rPy rMi rMe rSr rZ rKi rHe rDo rTx rLa w_3 ++ rc_tp E LT pk pv pa pn tc) := hD
  exact hret _ _ _ _ r_4 (w_3) rfl h hP hD hS dX1_oddsIn_26
def wp_X1_riskOf (p1 : Int32) (rKi : Nat → Int32) (rHe : Nat → Int32) (rTx : Nat → Option Nat) (rLa : Nat → Int32) (rSk : Nat → Int32) (LT : List Nat) (pn : Nat → Nat) (tc : Nat → Nat → Int32) (Q : Int32 → (Nat → Int32) → Prop) : Prop :=
  (vp_in p1 24 ∧ wp_X1_lawGives 0 (rHe p1.toNatClampNeg) p1 0 ((rHe p1.toNatClampNeg) / 10) rTx rLa rSk LT pn tc (fun (r_2 : Int32) (w_3 : Nat → Int32) => wp_X6_held r_2 0 99 (fun (r_4 : Int32) => (vp_in p1 24 ∧ wp_X6_riskBy (rKi p1.toNatClampNeg) r_4 (fun (r_6 : Int32) => Q r_6 w_3)))))
set_option maxHeartbeats 4000000 in
set_option maxRecDepth 100000 in
theorem c_X1_riskOf (l : Launch) (E : gE) (ro rk rh rd rt rl rs : Nat) (sz : Nat) (rSz : Int32) (rTc : Int32) (rFa : Int32) (rPa : Int32) (rPy : Int32) (rMi : Int32) (rMe : Int32) (rSr : Int32) (rZ : Int32) (rKi : Nat → Int32) (rHe : Nat → Int32) (rDo : Nat → Int32) (rTx : Nat → Option Nat) (rLa : Nat → Int32) (rSk : Nat → Int32) (p1 : Int32) (LT : List Nat) (pk : Nat → Int32) (pv : Nat → Int32) (pa : Nat → Nat) (pn : Nat → Nat) (tc : Nat → Nat → Int32) (Q : Int32 → (Nat → Int32) → Prop) (h : wp_X1_riskOf p1 rKi rHe rTx rLa rSk LT pn tc Q) : Met l yX1_riskOf wsX1_riskOf ({ frames := 3, cells := 0, slots := 0, locals := 76 } : Room) (va_Pc [.ref ro, .int p1] (rc_B E (rw_4 E ro rk rh rd rt rl rs rSz rTc rFa rPa rPy rMi rMe rSr rZ rKi rHe rDo rTx rLa rSk ++ rc_tp E LT pk pv pa pn tc) sz)) (va_Qi (S := (Nat → Int32)) (fun (r : Int32) (u : (Nat → Int32)) => Q r u) (fun u t => rc_C E (va_A (rw_4 E ro rk rh rd rt rl rs rSz rTc rFa rPa rPy rMi rMe rSr rZ rKi rHe rDo rTx rLa rSk ++ rc_tp E LT pk pv pa pn tc) sz) (rw_4 E ro rk rh rd rt rl rs rSz rTc rFa rPa rPy rMi rMe rSr rZ rKi rHe rDo rTx rLa u ++ rc_tp E LT pk pv pa pn tc) t) (va_A (rw_4 E ro rk rh rd rt rl rs rSz rTc rFa rPa rPy rMi rMe rSr rZ rKi rHe rDo rTx rLa rSk ++ rc_tp E LT pk pv pa pn tc) sz)) 0 0 (va_A (rw_4 E ro rk rh rd rt rl rs rSz rTc rFa rPa rPy rMi rMe rSr rZ rKi rHe rDo rTx rLa rSk ++ rc_tp E LT pk pv pa pn tc) sz) := by
  refine rc_enterI (cc := cX1_riskOf) (maxL := 4) (by decide) rfl (Nat.le_of_ble_eq_true rfl) ?_
  intro p e s m args below meth c QQ A hx hb hml hown hts hmn hE hP hD hA hret ls hl
  have hown : s.vm.findClass RX1 = some m.cls := hown
  have hK := hE.1
  have hS : va_S A s.heap s.heap [] := va_S.rf
  have hl : lv_has ls 4 [(0, .ref ro), (1, .int p1)] := hl
  have n_X1 : ∀ w ∈ wsX10, w ∈ wsX1_riskOf := fun _ h => List.mem_cons_of_mem _ (List.mem_append_left _ (List.mem_append_right _ h))
  have k_15 := hts (.fieldLink RX1 15 "RidgeClaps$Ridge" "heights" "[I") (List.mem_of_getElem? (i := 1) rfl)
  have k_iX6 := hts (.initialized RX6) (List.mem_of_getElem? (i := 24) rfl)
  have k_sX6_held := hts (.static yX6_held) (List.mem_of_getElem? (i := 23) rfl)
  have k_9 := hts (.fieldLink RX1 9 "RidgeClaps$Ridge" "kinds" "[I") (List.mem_of_getElem? (i := 2) rfl)
  have k_sX6_riskBy := hts (.static yX6_riskBy) (List.mem_of_getElem? (i := 33) rfl)
  unfold wp_X1_riskOf at h
  obtain ⟨H, hH⟩ : ∃ H, H = s.heap := ⟨_, rfl⟩
  obtain ⟨locs, hlocs⟩ : ∃ locs : List Loc, locs = [] := ⟨_, rfl⟩
  have hP : va_P E.1 vwCl (rw_4 E ro rk rh rd rt rl rs rSz rTc rFa rPa rPy rMi rMe rSr rZ rKi rHe rDo rTx rLa rSk ++ rc_tp E LT pk pv pa pn tc) H := by rw [hH]; exact hP
  have hS : va_S A s.heap H locs := by rw [hH, hlocs]; exact hS
  suffices hgo : W p l e ({ frames := 3, cells := 0, slots := 0, locals := 76 } : Room) s m args below meth c H locs 0 0 QQ (F0 m 0 ls []) from by rw [hH, hlocs] at hgo; exact hgo
  refine lv_aload_n hx hb dX1_riskOf_0 rfl (lv_at hl 0 rfl) ?_
  refine va_get (D := E.1) (ci := 1) (v := .ref rh) (C := RX1) (T := TX1) (N := 15) hx hb hts n_X1 hown hK hP 0 rfl rfl 1 (by decide) k_15 (fun _ h9 => h9) rfl dX1_riskOf_1 ?_
  refine lv_iload_n hx hb dX1_riskOf_4 rfl (lv_at hl 1 rfl) ?_
  obtain ⟨o_1, h⟩ := h
  refine rc_iald hx hb hK hP 2 0 rfl rfl p1.toNatClampNeg rfl o_1 dX1_riskOf_5 ?_
  refine lv_istore_n (lv' := [(2, .int (rHe p1.toNatClampNeg)), (0, .ref ro), (1, .int p1)]) hx hb dX1_riskOf_6 rfl hl (by decide) rfl (fun ls hl => ?_)
  refine lv_aload_n hx hb dX1_riskOf_7 rfl (lv_at hl 1 rfl) ?_
  refine lv_iconst (v := 0) hx hb dX1_riskOf_8 (by decide) ?_
  refine lv_iload_n hx hb dX1_riskOf_9 rfl (lv_at hl 0 rfl) ?_
  refine lv_iload_n hx hb dX1_riskOf_10 rfl (lv_at hl 2 rfl) ?_
  refine lv_iconst (v := 0) hx hb dX1_riskOf_11 (by decide) ?_
  refine lv_iload_n hx hb dX1_riskOf_12 rfl (lv_at hl 0 rfl) ?_
  refine lv_bipush (v := 10) hx hb dX1_riskOf_13 (by decide) ?_
  refine lv_idiv hx hb dX1_riskOf_15 (by decide) ?_
  have hPc := hP
  have hDc := hD
  have hFc := rc_freeI hD hS hA
  refine va_calli (va_runV (As := [.int 0, .int (rHe p1.toNatClampNeg), .int p1, .int 0, .int ((rHe p1.toNatClampNeg) / 10)]) (rest := []) ⟨hx, hb, hml, hown, hts⟩ (c_X1_lawGives l E ro rk rh rd rt rl rs H.size rSz rTc rFa rPa rPy rMi rMe rSr rZ rKi rHe rDo rTx rLa rSk 0 (rHe p1.toNatClampNeg) p1 0 ((rHe p1.toNatClampNeg) / 10) LT pk pv pa pn tc _ h) (cwV 5 hts gX1_riskOf_X1_lawGives rfl rfl rfl (by decide +kernel) ⟨Nat.le_of_ble_eq_true rfl, Nat.le_of_ble_eq_true rfl⟩) ⟨fun a U g mk q => ⟨q.1, q.2.blind⟩, va_recv hK hPc (ci := 1) (q0 := 0) rfl rfl, fun U hU hW => ⟨rfl, by rw [hU], by rw [hU]; exact hPc, hE.call hS hFc hW hU, hDc.weaken (fun _ _ _ _ => trivial)⟩⟩ rfl rfl hl.1 rfl (lv_room (Nat.le_of_ble_eq_true rfl)) dX1_riskOf_16 ⟨Nat.zero_le _, Nat.zero_le _⟩) hS (fun q _ h => hFc q h) hFc (fun r_2 u t H1 locs ht hvm h hB hz1 hk1 hS => ?_)
  obtain ⟨w_3, rfl⟩ : ∃ z, z = u := ⟨_, rfl⟩
  obtain ⟨hP1, hD1⟩ := hB
  rw [ht] at hP1
  have hP := hP1
  have hD := hD1.weaken (fun _ _ _ h => hFc _ h)
  generalize H1 = H at hP hS ⊢
  have hP : va_P E.1 vwCl (rw_4 E ro rk rh rd rt rl rs rSz rTc rFa rPa rPy rMi rMe rSr rZ rKi rHe rDo rTx rLa w_3 ++ rc_tp E LT pk pv pa pn tc) H := hP
  have hD : va_D A (rw_4 E ro rk rh rd rt rl rs rSz rTc rFa rPa rPy rMi rMe rSr rZ rKi rHe rDo rTx rLa w_3 ++ rc_tp E LT pk pv pa pn tc) := hD
  refine lv_iconst (v := 0) hx hb dX1_riskOf_19 (by decide) ?_
  refine lv_bipush (v := 99) hx hb dX1_riskOf_20 (by decide) ?_
  have hPc := hP.sub (ws' := []) [] rfl
  have hDc := hD.sub (ws' := []) [] (by decide) rfl
  have hFc := va_free (wc := []) hD hS hA [] rfl
  refine va_calli (va_runSN (As := [.int r_2, .int 0, .int 99]) (rest := []) ⟨hx, hb, hml, hown, hts⟩ (c_X6_held l E H.size r_2 0 99 _ h) ⟨va_cnB 3 hts gX1_riskOf_X6_held_n78 rfl rfl rfl (hE.2.1 6 _ rfl) k_iX6 (by decide +kernel) ⟨Nat.le_of_ble_eq_true rfl, Nat.le_of_ble_eq_true rfl⟩, k_sX6_held, trivial⟩ ⟨fun a U g mk q => ⟨q.1, q.2.blind⟩, fun U hU hW => ⟨rfl, by rw [hU], by rw [hU]; exact hPc, hE.call hS hFc hW hU, hDc.weaken (fun _ _ _ _ => trivial)⟩⟩ rfl rfl hl.1 rfl (lv_room (Nat.le_of_ble_eq_true rfl)) dX1_riskOf_22 ⟨Nat.zero_le _, Nat.zero_le _⟩) hS (fun q _ h => hFc q h) hFc (fun r_4 u t H1 locs ht hvm h hB hz1 hk1 hS => ?_)
  obtain ⟨hP1, hD1⟩ := hB
  rw [ht] at hP1
  obtain ⟨hP, hD⟩ := rc_foc hP hD [] [none, none, none, none, none, none, none] (by decide) rfl hk1 hP1 rfl
  generalize H1 = H at hP hS ⊢
  have hP : va_P E.1 vwCl (rw_4 E ro rk rh rd rt rl rs rSz rTc rFa rPa rPy rMi rMe rSr rZ rKi rHe rDo rTx rLa w_3 ++ rc_tp E LT pk pv pa pn tc) H := hP
  have hD : va_D A (rw_4 E ro rk rh rd rt rl rs rSz rTc rFa rPa rPy rMi rMe rSr rZ rKi rHe rDo rTx rLa w_3 ++ rc_tp E LT pk pv pa pn tc) := hD
  refine lv_istore_n (lv' := [(3, .int r_4), (2, .int (rHe p1.toNatClampNeg)), (0, .ref ro), (1, .int p1)]) hx hb dX1_riskOf_25 rfl hl (by decide) rfl (fun ls hl => ?_)
  refine lv_aload_n hx hb dX1_riskOf_26 rfl (lv_at hl 2 rfl) ?_
  refine va_get (D := E.1) (ci := 1) (v := .ref rk) (C := RX1) (T := TX1) (N := 15) hx hb hts n_X1 hown hK hP 0 rfl rfl 0 (by decide) k_9 (fun _ h9 => h9) rfl dX1_riskOf_27 ?_
  refine lv_iload_n hx hb dX1_riskOf_30 rfl (lv_at hl 3 rfl) ?_
  obtain ⟨o_5, h⟩ := h
  refine rc_iald hx hb hK hP 1 0 rfl rfl p1.toNatClampNeg rfl o_5 dX1_riskOf_31 ?_
  refine lv_iload_n hx hb dX1_riskOf_32 rfl (lv_at hl 0 rfl) ?_
  have hPc := hP.sub (ws' := []) [] rfl
  have hDc := hD.sub (ws' := []) [] (by decide) rfl
  have hFc := va_free (wc := []) hD hS hA [] rfl
  refine va_calli (va_runSN (As := [.int (rKi p1.toNatClampNeg), .int r_4]) (rest := []) ⟨hx, hb, hml, hown, hts⟩ (c_X6_riskBy l E H.size (rKi p1.toNatClampNeg) r_4 _ h) ⟨va_cnB 2 hts gX1_riskOf_X6_riskBy_n89 rfl rfl rfl (hE.2.1 7 _ rfl) k_iX6 (by decide +kernel) ⟨Nat.le_of_ble_eq_true rfl, Nat.le_of_ble_eq_true rfl⟩, k_sX6_riskBy, trivial⟩ ⟨fun a U g mk q => ⟨q.1, q.2.blind⟩, fun U hU hW => ⟨rfl, by rw [hU], by rw [hU]; exact hPc, hE.call hS hFc hW hU, hDc.weaken (fun _ _ _ _ => trivial)⟩⟩ rfl rfl hl.1 rfl (lv_room (Nat.le_of_ble_eq_true rfl)) dX1_riskOf_33 ⟨Nat.zero_le _, Nat.zero_le _⟩) hS (fun q _ h => hFc q h) hFc (fun r_6 u t H1 locs ht hvm h hB hz1 hk1 hS => ?_)
  obtain ⟨hP1, hD1⟩ := hB
  rw [ht] at hP1
  obtain ⟨hP, hD⟩ := rc_foc hP hD [] [none, none, none, none, none, none, none] (by decide) rfl hk1 hP1 rfl
  generalize H1 = H at hP hS ⊢
  have hP : va_P E.1 vwCl (rw_4 E ro rk rh rd rt rl rs rSz rTc rFa rPa rPy rMi rMe rSr rZ rKi rHe rDo rTx rLa w_3 ++ rc_tp E LT pk pv pa pn tc) H := hP
  have hD : va_D A (rw_4 E ro rk rh rd rt rl rs rSz rTc rFa rPa rPy rMi rMe rSr rZ rKi rHe rDo rTx rLa w_3 ++ rc_tp E LT pk pv pa pn tc) := hD
  exact hret _ _ _ _ r_6 (w_3) rfl h hP hD hS dX1_riskOf_36
def wp_X1_dangerOf (p1 : Int32) (p2 : Int32) (rFa : Int32) (rPa : Int32) (rKi : Nat → Int32) (rHe : Nat → Int32) (rTx : Nat → Option Nat) (rLa : Nat → Int32) (rSk : Nat → Int32) (LT : List Nat) (pn : Nat → Nat) (tc : Nat → Nat → Int32) (Q : Int32 → (Nat → Int32) → Prop) : Prop :=
  wp_X1_riskOf p1 rKi rHe rTx rLa rSk LT pn tc (fun (r_1 : Int32) (w_2 : Nat → Int32) => wp_X1_oddsIn p2 rFa rPa rTx rLa w_2 LT pn tc (fun (r_3 : Int32) (w_4 : Nat → Int32) => Q (r_1 * r_3) w_4))
set_option maxHeartbeats 4000000 in
set_option maxRecDepth 100000 in
theorem c_X1_dangerOf (l : Launch) (E : gE) (ro rk rh rd rt rl rs : Nat) (sz : Nat) (rSz : Int32) (rTc : Int32) (rFa : Int32) (rPa : Int32) (rPy : Int32) (rMi : Int32) (rMe : Int32) (rSr : Int32) (rZ : Int32) (rKi : Nat → Int32) (rHe : Nat → Int32) (rDo : Nat → Int32) (rTx : Nat → Option Nat) (rLa : Nat → Int32) (rSk : Nat → Int32) (p1 p2 : Int32) (LT : List Nat) (pk : Nat → Int32) (pv : Nat → Int32) (pa : Nat → Nat) (pn : Nat → Nat) (tc : Nat → Nat → Int32) (Q : Int32 → (Nat → Int32) → Prop) (h : wp_X1_dangerOf p1 p2 rFa rPa rKi rHe rTx rLa rSk LT pn tc Q) : Met l yX1_dangerOf wsX1_dangerOf ({ frames := 4, cells := 0, slots := 0, locals := 105 } : Room) (va_Pc [.ref ro, .int p1, .int p2] (rc_B E (rw_4 E ro rk rh rd rt rl rs rSz rTc rFa rPa rPy rMi rMe rSr rZ rKi rHe rDo rTx rLa rSk ++ rc_tp E LT pk pv pa pn tc) sz)) (va_Qi (S := (Nat → Int32)) (fun (r : Int32) (u : (Nat → Int32)) => Q r u) (fun u t => rc_C E (va_A (rw_4 E ro rk rh rd rt rl rs rSz rTc rFa rPa rPy rMi rMe rSr rZ rKi rHe rDo rTx rLa rSk ++ rc_tp E LT pk pv pa pn tc) sz) (rw_4 E ro rk rh rd rt rl rs rSz rTc rFa rPa rPy rMi rMe rSr rZ rKi rHe rDo rTx rLa u ++ rc_tp E LT pk pv pa pn tc) t) (va_A (rw_4 E ro rk rh rd rt rl rs rSz rTc rFa rPa rPy rMi rMe rSr rZ rKi rHe rDo rTx rLa rSk ++ rc_tp E LT pk pv pa pn tc) sz)) 0 0 (va_A (rw_4 E ro rk rh rd rt rl rs rSz rTc rFa rPa rPy rMi rMe rSr rZ rKi rHe rDo rTx rLa rSk ++ rc_tp E LT pk pv pa pn tc) sz) := by
  refine rc_enterI (cc := cX1_dangerOf) (maxL := 3) (by decide) rfl (Nat.le_of_ble_eq_true rfl) ?_
  intro p e s m args below meth c QQ A hx hb hml hown hts hmn hE hP hD hA hret ls hl
  have hown : s.vm.findClass RX1 = some m.cls := hown
  have hK := hE.1
  have hS : va_S A s.heap s.heap [] := va_S.rf
  have hl : lv_has ls 3 [(0, .ref ro), (1, .int p1), (2, .int p2)] := hl
  unfold wp_X1_dangerOf at h
  obtain ⟨H, hH⟩ : ∃ H, H = s.heap := ⟨_, rfl⟩
  obtain ⟨locs, hlocs⟩ : ∃ locs : List Loc, locs = [] := ⟨_, rfl⟩
  have hP : va_P E.1 vwCl (rw_4 E ro rk rh rd rt rl rs rSz rTc rFa rPa rPy rMi rMe rSr rZ rKi rHe rDo rTx rLa rSk ++ rc_tp E LT pk pv pa pn tc) H := by rw [hH]; exact hP
  have hS : va_S A s.heap H locs := by rw [hH, hlocs]; exact hS
  suffices hgo : W p l e ({ frames := 4, cells := 0, slots := 0, locals := 105 } : Room) s m args below meth c H locs 0 0 QQ (F0 m 0 ls []) from by rw [hH, hlocs] at hgo; exact hgo
  refine lv_aload_n hx hb dX1_dangerOf_0 rfl (lv_at hl 0 rfl) ?_
  refine lv_iload_n hx hb dX1_dangerOf_1 rfl (lv_at hl 1 rfl) ?_
  have hPc := hP
  have hDc := hD
  have hFc := rc_freeI hD hS hA
  refine va_calli (va_runV (As := [.int p1]) (rest := []) ⟨hx, hb, hml, hown, hts⟩ (c_X1_riskOf l E ro rk rh rd rt rl rs H.size rSz rTc rFa rPa rPy rMi rMe rSr rZ rKi rHe rDo rTx rLa rSk p1 LT pk pv pa pn tc _ h) (cwV 1 hts gX1_dangerOf_X1_riskOf rfl rfl rfl (by decide +kernel) ⟨Nat.le_of_ble_eq_true rfl, Nat.le_of_ble_eq_true rfl⟩) ⟨fun a U g mk q => ⟨q.1, q.2.blind⟩, va_recv hK hPc (ci := 1) (q0 := 0) rfl rfl, fun U hU hW => ⟨rfl, by rw [hU], by rw [hU]; exact hPc, hE.call hS hFc hW hU, hDc.weaken (fun _ _ _ _ => trivial)⟩⟩ rfl rfl hl.1 rfl (lv_room (Nat.le_of_ble_eq_true rfl)) dX1_dangerOf_2 ⟨Nat.zero_le _, Nat.zero_le _⟩) hS (fun q _ h => hFc q h) hFc (fun r_1 u t H1 locs ht hvm h hB hz1 hk1 hS => ?_)
  obtain ⟨w_2, rfl⟩ : ∃ z, z = u := ⟨_, rfl⟩
  obtain ⟨hP1, hD1⟩ := hB
  rw [ht] at hP1
  have hP := hP1
  have hD := hD1.weaken (fun _ _ _ h => hFc _ h)
  generalize H1 = H at hP hS ⊢
  have hP : va_P E.1 vwCl (rw_4 E ro rk rh rd rt rl rs rSz rTc rFa rPa rPy rMi rMe rSr rZ rKi rHe rDo rTx rLa w_2 ++ rc_tp E LT pk pv pa pn tc) H := hP
  have hD : va_D A (rw_4 E ro rk rh rd rt rl rs rSz rTc rFa rPa rPy rMi rMe rSr rZ rKi rHe rDo rTx rLa w_2 ++ rc_tp E LT pk pv pa pn tc) := hD
  refine lv_aload_n hx hb dX1_dangerOf_5 rfl (lv_at hl 0 rfl) ?_
  refine lv_iload_n hx hb dX1_dangerOf_6 rfl (lv_at hl 2 rfl) ?_
  have hPc := hP
  have hDc := hD
  have hFc := rc_freeI hD hS hA
  refine va_calli (va_runV (As := [.int p2]) (rest := [.int r_1]) ⟨hx, hb, hml, hown, hts⟩ (c_X1_oddsIn l E ro rk rh rd rt rl rs H.size rSz rTc rFa rPa rPy rMi rMe rSr rZ rKi rHe rDo rTx rLa w_2 p2 LT pk pv pa pn tc _ h) (cwV 1 hts gX1_dangerOf_X1_oddsIn rfl rfl rfl (by decide +kernel) ⟨Nat.le_of_ble_eq_true rfl, Nat.le_of_ble_eq_true rfl⟩) ⟨fun a U g mk q => ⟨q.1, q.2.blind⟩, va_recv hK hPc (ci := 1) (q0 := 0) rfl rfl, fun U hU hW => ⟨rfl, by rw [hU], by rw [hU]; exact hPc, hE.call hS hFc hW hU, hDc.weaken (fun _ _ _ _ => trivial)⟩⟩ rfl rfl hl.1 rfl (lv_room (Nat.le_of_ble_eq_true rfl)) dX1_dangerOf_7 ⟨Nat.zero_le _, Nat.zero_le _⟩) hS (fun q _ h => hFc q h) hFc (fun r_3 u t H1 locs ht hvm h hB hz1 hk1 hS => ?_)
  obtain ⟨w_4, rfl⟩ : ∃ z, z = u := ⟨_, rfl⟩
  obtain ⟨hP1, hD1⟩ := hB
  rw [ht] at hP1
  have hP := hP1
  have hD := hD1.weaken (fun _ _ _ h => hFc _ h)
  generalize H1 = H at hP hS ⊢
  have hP : va_P E.1 vwCl (rw_4 E ro rk rh rd rt rl rs rSz rTc rFa rPa rPy rMi rMe rSr rZ rKi rHe rDo rTx rLa w_4 ++ rc_tp E LT pk pv pa pn tc) H := hP
  have hD : va_D A (rw_4 E ro rk rh rd rt rl rs rSz rTc rFa rPa rPy rMi rMe rSr rZ rKi rHe rDo rTx rLa w_4 ++ rc_tp E LT pk pv pa pn tc) := hD
  refine lv_imul hx hb dX1_dangerOf_10 ?_
  exact hret _ _ _ _ (r_1 * r_3) (w_4) rfl h hP hD hS dX1_dangerOf_11
def wp_X1_ruleTurns (p1 : Int32) (p2 : Int32) (rFa : Int32) (rPa : Int32) (rTx : Nat → Option Nat) (rLa : Nat → Int32) (rSk : Nat → Int32) (LT : List Nat) (pn : Nat → Nat) (tc : Nat → Nat → Int32) (Q : Int32 → (Nat → Int32) → Prop) : Prop :=
  wp_X1_farIn p2 rFa rPa (fun (r_1 : Int32) => ((20 ≤ r_1 → wp_X1_lawGives 2 r_1 p1 p2 0 rTx rLa rSk LT pn tc (fun (r_3 : Int32) (w_4 : Nat → Int32) => ((r_3 = 0 → Q 0 w_4) ∧ (¬ (r_3 = 0) → Q 1 w_4)))) ∧ (¬ (20 ≤ r_1) → wp_X1_lawGives 2 r_1 p1 p2 1 rTx rLa rSk LT pn tc (fun (r_6 : Int32) (w_7 : Nat → Int32) => ((r_6 = 0 → Q 0 w_7) ∧ (¬ (r_6 = 0) → Q 1 w_7))))))
set_option maxHeartbeats 4000000 in
set_option maxRecDepth 100000 in
theorem c_X1_ruleTurns (l : Launch) (E : gE) (ro rk rh rd rt rl rs : Nat) (sz : Nat) (rSz : Int32) (rTc : Int32) (rFa : Int32) (rPa : Int32) (rPy : Int32) (rMi : Int32) (rMe : Int32) (rSr : Int32) (rZ : Int32) (rKi : Nat → Int32) (rHe : Nat → Int32) (rDo : Nat → Int32) (rTx : Nat → Option Nat) (rLa : Nat → Int32) (rSk : Nat → Int32) (p1 p2 : Int32) (LT : List Nat) (pk : Nat → Int32) (pv : Nat → Int32) (pa : Nat → Nat) (pn : Nat → Nat) (tc : Nat → Nat → Int32) (Q : Int32 → (Nat → Int32) → Prop) (h : wp_X1_ruleTurns p1 p2 rFa rPa rTx rLa rSk LT pn tc Q) : Met l yX1_ruleTurns wsX1_ruleTurns ({ frames := 3, cells := 0, slots := 0, locals := 83 } : Room) (va_Pc [.ref ro, .int p1, .int p2] (rc_B E (rw_4 E ro rk rh rd rt rl rs rSz rTc rFa rPa rPy rMi rMe rSr rZ rKi rHe rDo rTx rLa rSk ++ rc_tp E LT pk pv pa pn tc) sz)) (va_Qi (S := (Nat → Int32)) (fun (r : Int32) (u : (Nat → Int32)) => Q r u) (fun u t => rc_C E (va_A (rw_4 E ro rk rh rd rt rl rs rSz rTc rFa rPa rPy rMi rMe rSr rZ rKi rHe rDo rTx rLa rSk ++ rc_tp E LT pk pv pa pn tc) sz) (rw_4 E ro rk rh rd rt rl rs rSz rTc rFa rPa rPy rMi rMe rSr rZ rKi rHe rDo rTx rLa u ++ rc_tp E LT pk pv pa pn tc) t) (va_A (rw_4 E ro rk rh rd rt rl rs rSz rTc rFa rPa rPy rMi rMe rSr rZ rKi rHe rDo rTx rLa rSk ++ rc_tp E LT pk pv pa pn tc) sz)) 0 0 (va_A (rw_4 E ro rk rh rd rt rl rs rSz rTc rFa rPa rPy rMi rMe rSr rZ rKi rHe rDo rTx rLa rSk ++ rc_tp E LT pk pv pa pn tc) sz) := by
  refine rc_enterI (cc := cX1_ruleTurns) (maxL := 4) (by decide) rfl (Nat.le_of_ble_eq_true rfl) ?_
  intro p e s m args below meth c QQ A hx hb hml hown hts hmn hE hP hD hA hret ls hl
  have hown : s.vm.findClass RX1 = some m.cls := hown
  have hK := hE.1
  have hS : va_S A s.heap s.heap [] := va_S.rf
  have hl : lv_has ls 4 [(0, .ref ro), (1, .int p1), (2, .int p2)] := hl
  unfold wp_X1_ruleTurns at h
  obtain ⟨H, hH⟩ : ∃ H, H = s.heap := ⟨_, rfl⟩
  obtain ⟨locs, hlocs⟩ : ∃ locs : List Loc, locs = [] := ⟨_, rfl⟩
  have hP : va_P E.1 vwCl (rw_4 E ro rk rh rd rt rl rs rSz rTc rFa rPa rPy rMi rMe rSr rZ rKi rHe rDo rTx rLa rSk ++ rc_tp E LT pk pv pa pn tc) H := by rw [hH]; exact hP
  have hS : va_S A s.heap H locs := by rw [hH, hlocs]; exact hS
  suffices hgo : W p l e ({ frames := 3, cells := 0, slots := 0, locals := 83 } : Room) s m args below meth c H locs 0 0 QQ (F0 m 0 ls []) from by rw [hH, hlocs] at hgo; exact hgo
  refine lv_aload_n hx hb dX1_ruleTurns_0 rfl (lv_at hl 0 rfl) ?_
  refine lv_iload_n hx hb dX1_ruleTurns_1 rfl (lv_at hl 2 rfl) ?_
  have hPc := hP
  have hDc := hD
  have hFc := rc_freeI hD hS hA
  refine va_calli (va_runV (As := [.int p2]) (rest := []) ⟨hx, hb, hml, hown, hts⟩ (c_X1_farIn l E ro rk rh rd rt rl rs H.size rSz rTc rFa rPa rPy rMi rMe rSr rZ rKi rHe rDo rTx rLa rSk p2 LT pk pv pa pn tc _ h) (cwV 1 hts gX1_ruleTurns_X1_farIn rfl rfl rfl (by decide +kernel) ⟨Nat.le_of_ble_eq_true rfl, Nat.le_of_ble_eq_true rfl⟩) ⟨fun a U g mk q => ⟨q.1, q.2.blind⟩, va_recv hK hPc (ci := 1) (q0 := 0) rfl rfl, fun U hU hW => ⟨rfl, by rw [hU], by rw [hU]; exact hPc, hE.call hS hFc hW hU, hDc.weaken (fun _ _ _ _ => trivial)⟩⟩ rfl rfl hl.1 rfl (lv_room (Nat.le_of_ble_eq_true rfl)) dX1_ruleTurns_2 ⟨Nat.zero_le _, Nat.zero_le _⟩) hS (fun q _ h => hFc q h) hFc (fun r_1 u t H1 locs ht hvm h hB hz1 hk1 hS => ?_)
  obtain ⟨hP1, hD1⟩ := hB
  rw [ht] at hP1
  have hP := hP1
  have hD := hD1.weaken (fun _ _ _ h => hFc _ h)
  generalize H1 = H at hP hS ⊢
  have hP : va_P E.1 vwCl (rw_4 E ro rk rh rd rt rl rs rSz rTc rFa rPa rPy rMi rMe rSr rZ rKi rHe rDo rTx rLa rSk ++ rc_tp E LT pk pv pa pn tc) H := hP
  have hD : va_D A (rw_4 E ro rk rh rd rt rl rs rSz rTc rFa rPa rPy rMi rMe rSr rZ rKi rHe rDo rTx rLa rSk ++ rc_tp E LT pk pv pa pn tc) := hD
  refine lv_istore_n (lv' := [(3, .int r_1), (0, .ref ro), (1, .int p1), (2, .int p2)]) hx hb dX1_ruleTurns_5 rfl hl (by decide) rfl (fun ls hl => ?_)
  refine lv_aload_n hx hb dX1_ruleTurns_6 rfl (lv_at hl 1 rfl) ?_
  refine lv_iconst (v := 2) hx hb dX1_ruleTurns_7 (by decide) ?_
  refine lv_iload_n hx hb dX1_ruleTurns_8 rfl (lv_at hl 0 rfl) ?_
  refine lv_iload_n hx hb dX1_ruleTurns_9 rfl (lv_at hl 2 rfl) ?_
  refine lv_iload_n hx hb dX1_ruleTurns_10 rfl (lv_at hl 3 rfl) ?_
  refine lv_iload_n hx hb dX1_ruleTurns_11 rfl (lv_at hl 0 rfl) ?_
  refine lv_bipush (v := 20) hx hb dX1_ruleTurns_12 (by decide) ?_
  refine lv_icmp_ge (tgt := 21) hx hb dX1_ruleTurns_14 (by decide) (fun c_2 => ?_) (fun c_2 => ?_)
  · have h := h.1 c_2
    refine lv_iconst (v := 0) hx hb dX1_ruleTurns_21 (by decide) ?_
    have hPc := hP
    have hDc := hD
    have hFc := rc_freeI hD hS hA
    refine va_calli (va_runV (As := [.int 2, .int r_1, .int p1, .int p2, .int 0]) (rest := []) ⟨hx, hb, hml, hown, hts⟩ (c_X1_lawGives l E ro rk rh rd rt rl rs H.size rSz rTc rFa rPa rPy rMi rMe rSr rZ rKi rHe rDo rTx rLa rSk 2 r_1 p1 p2 0 LT pk pv pa pn tc _ h) (cwV 5 hts gX1_ruleTurns_X1_lawGives rfl rfl rfl (by decide +kernel) ⟨Nat.le_of_ble_eq_true rfl, Nat.le_of_ble_eq_true rfl⟩) ⟨fun a U g mk q => ⟨q.1, q.2.blind⟩, va_recv hK hPc (ci := 1) (q0 := 0) rfl rfl, fun U hU hW => ⟨rfl, by rw [hU], by rw [hU]; exact hPc, hE.call hS hFc hW hU, hDc.weaken (fun _ _ _ _ => trivial)⟩⟩ rfl rfl hl.1 rfl (lv_room (Nat.le_of_ble_eq_true rfl)) dX1_ruleTurns_22 ⟨Nat.zero_le _, Nat.zero_le _⟩) hS (fun q _ h => hFc q h) hFc (fun r_3 u t H1 locs ht hvm h hB hz1 hk1 hS => ?_)
    obtain ⟨w_4, rfl⟩ : ∃ z, z = u := ⟨_, rfl⟩
    obtain ⟨hP1, hD1⟩ := hB
    rw [ht] at hP1
    have hP := hP1
    have hD := hD1.weaken (fun _ _ _ h => hFc _ h)
    generalize H1 = H at hP hS ⊢
    have hP : va_P E.1 vwCl (rw_4 E ro rk rh rd rt rl rs rSz rTc rFa rPa rPy rMi rMe rSr rZ rKi rHe rDo rTx rLa w_4 ++ rc_tp E LT pk pv pa pn tc) H := hP
    have hD : va_D A (rw_4 E ro rk rh rd rt rl rs rSz rTc rFa rPa rPy rMi rMe rSr rZ rKi rHe rDo rTx rLa w_4 ++ rc_tp E LT pk pv pa pn tc) := hD
    refine lv_if_eq (tgt := 32) hx hb dX1_ruleTurns_25 (by decide) (fun c_5 => ?_) (fun c_5 => ?_)
    · have h := h.1 c_5
      refine lv_iconst (v := 0) hx hb dX1_ruleTurns_32 (by decide) ?_
      exact hret _ _ _ _ 0 (w_4) (by decide) h hP hD hS dX1_ruleTurns_33
    · have h := h.2 c_5
      refine lv_iconst (v := 1) hx hb dX1_ruleTurns_28 (by decide) ?_
      refine lv_goto (tgt := 33) hx hb dX1_ruleTurns_29 (by decide) ?_
      exact hret _ _ _ _ 1 (w_4) (by decide) h hP hD hS dX1_ruleTurns_33
  · have h := h.2 c_2
    refine lv_iconst (v := 1) hx hb dX1_ruleTurns_17 (by decide) ?_
    refine lv_goto (tgt := 22) hx hb dX1_ruleTurns_18 (by decide) ?_
    have hPc := hP
    have hDc := hD
    have hFc := rc_freeI hD hS hA
    refine va_calli (va_runV (As := [.int 2, .int r_1, .int p1, .int p2, .int 1]) (rest := []) ⟨hx, hb, hml, hown, hts⟩ (c_X1_lawGives l E ro rk rh rd rt rl rs H.size rSz rTc rFa rPa rPy rMi rMe rSr rZ rKi rHe rDo rTx rLa rSk 2 r_1 p1 p2 1 LT pk pv pa pn tc _ h) (cwV 5 hts gX1_ruleTurns_X1_lawGives rfl rfl rfl (by decide +kernel) ⟨Nat.le_of_ble_eq_true rfl, Nat.le_of_ble_eq_true rfl⟩) ⟨fun a U g mk q => ⟨q.1, q.2.blind⟩, va_recv hK hPc (ci := 1) (q0 := 0) rfl rfl, fun U hU hW => ⟨rfl, by rw [hU], by rw [hU]; exact hPc, hE.call hS hFc hW hU, hDc.weaken (fun _ _ _ _ => trivial)⟩⟩ rfl rfl hl.1 rfl (lv_room (Nat.le_of_ble_eq_true rfl)) dX1_ruleTurns_22 ⟨Nat.zero_le _, Nat.zero_le _⟩) hS (fun q _ h => hFc q h) hFc (fun r_6 u t H1 locs ht hvm h hB hz1 hk1 hS => ?_)
    obtain ⟨w_7, rfl⟩ : ∃ z, z = u := ⟨_, rfl⟩
    obtain ⟨hP1, hD1⟩ := hB
    rw [ht] at hP1
    have hP := hP1
    have hD := hD1.weaken (fun _ _ _ h => hFc _ h)
    generalize H1 = H at hP hS ⊢
    have hP : va_P E.1 vwCl (rw_4 E ro rk rh rd rt rl rs rSz rTc rFa rPa rPy rMi rMe rSr rZ rKi rHe rDo rTx rLa w_7 ++ rc_tp E LT pk pv pa pn tc) H := hP
    have hD : va_D A (rw_4 E ro rk rh rd rt rl rs rSz rTc rFa rPa rPy rMi rMe rSr rZ rKi rHe rDo rTx rLa w_7 ++ rc_tp E LT pk pv pa pn tc) := hD
    refine lv_if_eq (tgt := 32) hx hb dX1_ruleTurns_25 (by decide) (fun c_8 => ?_) (fun c_8 => ?_)
    · have h := h.1 c_8
      refine lv_iconst (v := 0) hx hb dX1_ruleTurns_32 (by decide) ?_
      exact hret _ _ _ _ 0 (w_7) (by decide) h hP hD hS dX1_ruleTurns_33
    · have h := h.2 c_8
      refine lv_iconst (v := 1) hx hb dX1_ruleTurns_28 (by decide) ?_
      refine lv_goto (tgt := 33) hx hb dX1_ruleTurns_29 (by decide) ?_
      exact hret _ _ _ _ 1 (w_7) (by decide) h hP hD hS dX1_ruleTurns_33
def wp_X1_mayStep (p1 : Int32) (p2 : Int32) (rSz : Int32) (rDo : Nat → Int32) (Q : Int32 → Prop) : Prop :=
  wp_X1_has p1 rSz (fun (r_1 : Int32) => ((¬ r_1 = 0 → ((¬ p2 = 3 → Q 1) ∧ (p2 = 3 → (vp_in p1 24 ∧ ((¬ (rDo p1.toNatClampNeg) = 1 → Q 0) ∧ ((rDo p1.toNatClampNeg) = 1 → Q 1)))))) ∧ (r_1 = 0 → ((¬ p2 = 2 → Q 0) ∧ (p2 = 2 → Q 1)))))
set_option maxHeartbeats 4000000 in
set_option maxRecDepth 100000 in
theorem c_X1_mayStep (l : Launch) (E : gE) (ro rk rh rd rt rl rs : Nat) (sz : Nat) (rSz : Int32) (rTc : Int32) (rFa : Int32) (rPa : Int32) (rPy : Int32) (rMi : Int32) (rMe : Int32) (rSr : Int32) (rZ : Int32) (rKi : Nat → Int32) (rHe : Nat → Int32) (rDo : Nat → Int32) (rTx : Nat → Option Nat) (rLa : Nat → Int32) (rSk : Nat → Int32) (p1 p2 : Int32) (LT : List Nat) (pk : Nat → Int32) (pv : Nat → Int32) (pa : Nat → Nat) (pn : Nat → Nat) (tc : Nat → Nat → Int32) (Q : Int32 → Prop) (h : wp_X1_mayStep p1 p2 rSz rDo Q) : Met l yX1_mayStep wsX1_mayStep ({ frames := 1, cells := 0, slots := 0, locals := 21 } : Room) (va_Pc [.ref ro, .int p1, .int p2] (rc_B E (rw_4 E ro rk rh rd rt rl rs rSz rTc rFa rPa rPy rMi rMe rSr rZ rKi rHe rDo rTx rLa rSk ++ rc_tp E LT pk pv pa pn tc) sz)) (va_Qi (S := Unit) (fun (r : Int32) (u : Unit) => Q r) (fun u t => rc_C E (va_A (rw_4 E ro rk rh rd rt rl rs rSz rTc rFa rPa rPy rMi rMe rSr rZ rKi rHe rDo rTx rLa rSk ++ rc_tp E LT pk pv pa pn tc) sz) (rw_4 E ro rk rh rd rt rl rs rSz rTc rFa rPa rPy rMi rMe rSr rZ rKi rHe rDo rTx rLa rSk ++ rc_tp E LT pk pv pa pn tc) t) (va_A (rw_4 E ro rk rh rd rt rl rs rSz rTc rFa rPa rPy rMi rMe rSr rZ rKi rHe rDo rTx rLa rSk ++ rc_tp E LT pk pv pa pn tc) sz)) 0 0 (va_A (rw_4 E ro rk rh rd rt rl rs rSz rTc rFa rPa rPy rMi rMe rSr rZ rKi rHe rDo rTx rLa rSk ++ rc_tp E LT pk pv pa pn tc) sz) := by
  refine rc_enterI (cc := cX1_mayStep) (maxL := 3) (by decide) rfl (Nat.le_of_ble_eq_true rfl) ?_
  intro p e s m args below meth c QQ A hx hb hml hown hts hmn hE hP hD hA hret ls hl
  have hown : s.vm.findClass RX1 = some m.cls := hown
  have hK := hE.1
  have hS : va_S A s.heap s.heap [] := va_S.rf
  have hl : lv_has ls 3 [(0, .ref ro), (1, .int p1), (2, .int p2)] := hl
  have n_X1 : ∀ w ∈ wsX10, w ∈ wsX1_mayStep := fun _ h => List.mem_cons_of_mem _ (List.mem_append_right _ h)
  have k_18 := hts (.fieldLink RX1 18 "RidgeClaps$Ridge" "downs" "[I") (List.mem_of_getElem? (i := 1) rfl)
  unfold wp_X1_mayStep at h
  obtain ⟨H, hH⟩ : ∃ H, H = s.heap := ⟨_, rfl⟩
  obtain ⟨locs, hlocs⟩ : ∃ locs : List Loc, locs = [] := ⟨_, rfl⟩
  have hP : va_P E.1 vwCl (rw_4 E ro rk rh rd rt rl rs rSz rTc rFa rPa rPy rMi rMe rSr rZ rKi rHe rDo rTx rLa rSk ++ rc_tp E LT pk pv pa pn tc) H := by rw [hH]; exact hP
  have hS : va_S A s.heap H locs := by rw [hH, hlocs]; exact hS
  suffices hgo : W p l e ({ frames := 1, cells := 0, slots := 0, locals := 21 } : Room) s m args below meth c H locs 0 0 QQ (F0 m 0 ls []) from by rw [hH, hlocs] at hgo; exact hgo
  refine lv_aload_n hx hb dX1_mayStep_0 rfl (lv_at hl 0 rfl) ?_
  refine lv_iload_n hx hb dX1_mayStep_1 rfl (lv_at hl 1 rfl) ?_
  have hPc := hP
  have hDc := hD
  have hFc := rc_freeI hD hS hA
  refine va_calli (va_runV (As := [.int p1]) (rest := []) ⟨hx, hb, hml, hown, hts⟩ (c_X1_has l E ro rk rh rd rt rl rs H.size rSz rTc rFa rPa rPy rMi rMe rSr rZ rKi rHe rDo rTx rLa rSk p1 LT pk pv pa pn tc _ h) (cwV 1 hts gX1_mayStep_X1_has rfl rfl rfl (by decide +kernel) ⟨Nat.le_of_ble_eq_true rfl, Nat.le_of_ble_eq_true rfl⟩) ⟨fun a U g mk q => ⟨q.1, q.2.blind⟩, va_recv hK hPc (ci := 1) (q0 := 0) rfl rfl, fun U hU hW => ⟨rfl, by rw [hU], by rw [hU]; exact hPc, hE.call hS hFc hW hU, hDc.weaken (fun _ _ _ _ => trivial)⟩⟩ rfl rfl hl.1 rfl (lv_room (Nat.le_of_ble_eq_true rfl)) dX1_mayStep_2 ⟨Nat.zero_le _, Nat.zero_le _⟩) hS (fun q _ h => hFc q h) hFc (fun r_1 u t H1 locs ht hvm h hB hz1 hk1 hS => ?_)
  obtain ⟨hP1, hD1⟩ := hB
  rw [ht] at hP1
  have hP := hP1
  have hD := hD1.weaken (fun _ _ _ h => hFc _ h)
  generalize H1 = H at hP hS ⊢
  have hP : va_P E.1 vwCl (rw_4 E ro rk rh rd rt rl rs rSz rTc rFa rPa rPy rMi rMe rSr rZ rKi rHe rDo rTx rLa rSk ++ rc_tp E LT pk pv pa pn tc) H := hP
  have hD : va_D A (rw_4 E ro rk rh rd rt rl rs rSz rTc rFa rPa rPy rMi rMe rSr rZ rKi rHe rDo rTx rLa rSk ++ rc_tp E LT pk pv pa pn tc) := hD
  refine lv_if_ne (tgt := 19) hx hb dX1_mayStep_5 (by decide) (fun c_2 => ?_) (fun c_2 => ?_)
  · have h := h.1 c_2
    refine lv_iload_n hx hb dX1_mayStep_19 rfl (lv_at hl 2 rfl) ?_
    refine lv_iconst (v := 3) hx hb dX1_mayStep_20 (by decide) ?_
    refine lv_icmp_ne (tgt := 34) hx hb dX1_mayStep_21 (by decide) (fun c_3 => ?_) (fun c_3 => ?_)
    · have h := h.1 c_3
      refine lv_iconst (v := 1) hx hb dX1_mayStep_34 (by decide) ?_
      refine lv_goto (tgt := 39) hx hb dX1_mayStep_35 (by decide) ?_
      exact hret _ _ _ _ 1 () (by decide) h hP hD hS dX1_mayStep_39
    · have h := h.2 c_3
      refine lv_aload_n hx hb dX1_mayStep_24 rfl (lv_at hl 0 rfl) ?_
      refine va_get (D := E.1) (ci := 1) (v := .ref rd) (C := RX1) (T := TX1) (N := 15) hx hb hts n_X1 hown hK hP 0 rfl rfl 2 (by decide) k_18 (fun _ h9 => h9) rfl dX1_mayStep_25 ?_
      refine lv_iload_n hx hb dX1_mayStep_28 rfl (lv_at hl 1 rfl) ?_
      obtain ⟨o_4, h⟩ := h
      refine rc_iald hx hb hK hP 3 0 rfl rfl p1.toNatClampNeg rfl o_4 dX1_mayStep_29 ?_
      refine lv_iconst (v := 1) hx hb dX1_mayStep_30 (by decide) ?_
      refine lv_icmp_ne (tgt := 38) hx hb dX1_mayStep_31 (by decide) (fun c_5 => ?_) (fun c_5 => ?_)
      · have h := h.1 c_5
        refine lv_iconst (v := 0) hx hb dX1_mayStep_38 (by decide) ?_
        exact hret _ _ _ _ 0 () (by decide) h hP hD hS dX1_mayStep_39
      · have h := h.2 c_5
        refine lv_iconst (v := 1) hx hb dX1_mayStep_34 (by decide) ?_
        refine lv_goto (tgt := 39) hx hb dX1_mayStep_35 (by decide) ?_
        exact hret _ _ _ _ 1 () (by decide) h hP hD hS dX1_mayStep_39
  · have h := h.2 c_2
    refine lv_iload_n hx hb dX1_mayStep_8 rfl (lv_at hl 2 rfl) ?_
    refine lv_iconst (v := 2) hx hb dX1_mayStep_9 (by decide) ?_
    refine lv_icmp_ne (tgt := 17) hx hb dX1_mayStep_10 (by decide) (fun c_6 => ?_) (fun c_6 => ?_)
    · have h := h.1 c_6
      refine lv_iconst (v := 0) hx hb dX1_mayStep_17 (by decide) ?_
      exact hret _ _ _ _ 0 () (by decide) h hP hD hS dX1_mayStep_18
    · have h := h.2 c_6
      refine lv_iconst (v := 1) hx hb dX1_mayStep_13 (by decide) ?_
      refine lv_goto (tgt := 18) hx hb dX1_mayStep_14 (by decide) ?_
      exact hret _ _ _ _ 1 () (by decide) h hP hD hS dX1_mayStep_18
def wp_X1_behindStep (p1 : Int32) (p2 : Int32) (rSz : Int32) (Q : Int32 → Prop) : Prop :=
  ((p2 = 0 → ((rSz ≤ (p1 + 1) → Q (-1000000005)) ∧ (¬ (rSz ≤ (p1 + 1)) → Q (p1 + 1)))) ∧ ((p2 = 1 → ((p1 ≤ 0 → Q (-1000000005)) ∧ (¬ (p1 ≤ 0) → Q (p1 - 1)))) ∧ ((p2 = 2 → Q p1) ∧ (¬ p2 = 0 ∧ ¬ p2 = 1 ∧ ¬ p2 = 2 → Q (-1000000005)))))
set_option maxHeartbeats 4000000 in
set_option maxRecDepth 100000 in
theorem c_X1_behindStep (l : Launch) (E : gE) (ro rk rh rd rt rl rs : Nat) (sz : Nat) (rSz : Int32) (rTc : Int32) (rFa : Int32) (rPa : Int32) (rPy : Int32) (rMi : Int32) (rMe : Int32) (rSr : Int32) (rZ : Int32) (rKi : Nat → Int32) (rHe : Nat → Int32) (rDo : Nat → Int32) (rTx : Nat → Option Nat) (rLa : Nat → Int32) (rSk : Nat → Int32) (p1 p2 : Int32) (LT : List Nat) (pk : Nat → Int32) (pv : Nat → Int32) (pa : Nat → Nat) (pn : Nat → Nat) (tc : Nat → Nat → Int32) (Q : Int32 → Prop) (h : wp_X1_behindStep p1 p2 rSz Q) : Met l yX1_behindStep wsX1_behindStep ({ frames := 0, cells := 0, slots := 0, locals := 0 } : Room) (va_Pc [.ref ro, .int p1, .int p2] (rc_B E (rw_4 E ro rk rh rd rt rl rs rSz rTc rFa rPa rPy rMi rMe rSr rZ rKi rHe rDo rTx rLa rSk ++ rc_tp E LT pk pv pa pn tc) sz)) (va_Qi (S := Unit) (fun (r : Int32) (u : Unit) => Q r) (fun u t => rc_C E (va_A (rw_4 E ro rk rh rd rt rl rs rSz rTc rFa rPa rPy rMi rMe rSr rZ rKi rHe rDo rTx rLa rSk ++ rc_tp E LT pk pv pa pn tc) sz) (rw_4 E ro rk rh rd rt rl rs rSz rTc rFa rPa rPy rMi rMe rSr rZ rKi rHe rDo rTx rLa rSk ++ rc_tp E LT pk pv pa pn tc) t) (va_A (rw_4 E ro rk rh rd rt rl rs rSz rTc rFa rPa rPy rMi rMe rSr rZ rKi rHe rDo rTx rLa rSk ++ rc_tp E LT pk pv pa pn tc) sz)) 0 0 (va_A (rw_4 E ro rk rh rd rt rl rs rSz rTc rFa rPa rPy rMi rMe rSr rZ rKi rHe rDo rTx rLa rSk ++ rc_tp E LT pk pv pa pn tc) sz) := by
  refine rc_enterI (cc := cX1_behindStep) (maxL := 3) (by decide) rfl (Nat.le_of_ble_eq_true rfl) ?_
  intro p e s m args below meth c QQ A hx hb hml hown hts hmn hE hP hD hA hret ls hl
  have hown : s.vm.findClass RX1 = some m.cls := hown
  have hK := hE.1
  have hS : va_S A s.heap s.heap [] := va_S.rf
  have hl : lv_has ls 3 [(0, .ref ro), (1, .int p1), (2, .int p2)] := hl
  have n_X1 : ∀ w ∈ wsX10, w ∈ wsX1_behindStep := fun _ h => List.mem_cons_of_mem _ (List.mem_append_right _ h)
  have k_21 := hts (.fieldLink RX1 21 "RidgeClaps$Ridge" "size" "I") (List.mem_of_getElem? (i := 1) rfl)
  have k_34 := hts (.constant RX1 34 (-1000000005)) (List.mem_of_getElem? (i := 2) rfl)
  unfold wp_X1_behindStep at h
  obtain ⟨H, hH⟩ : ∃ H, H = s.heap := ⟨_, rfl⟩
  obtain ⟨locs, hlocs⟩ : ∃ locs : List Loc, locs = [] := ⟨_, rfl⟩
  have hP : va_P E.1 vwCl (rw_4 E ro rk rh rd rt rl rs rSz rTc rFa rPa rPy rMi rMe rSr rZ rKi rHe rDo rTx rLa rSk ++ rc_tp E LT pk pv pa pn tc) H := by rw [hH]; exact hP
  have hS : va_S A s.heap H locs := by rw [hH, hlocs]; exact hS
  suffices hgo : W p l e ({ frames := 0, cells := 0, slots := 0, locals := 0 } : Room) s m args below meth c H locs 0 0 QQ (F0 m 0 ls []) from by rw [hH, hlocs] at hgo; exact hgo
  refine lv_iload_n hx hb dX1_behindStep_0 rfl (lv_at hl 2 rfl) ?_
  by_cases c_1_0 : p2 = 0
  · have h := h.1 c_1_0
    refine lv_tableIn (tgt := 28) hx hb dX1_behindStep_1 (by rw [c_1_0]; decide) (by rw [c_1_0]; decide) (by rw [c_1_0]; rfl) (by decide) ?_
    refine lv_iload_n hx hb dX1_behindStep_28 rfl (lv_at hl 1 rfl) ?_
    refine lv_iconst (v := 1) hx hb dX1_behindStep_29 (by decide) ?_
    refine lv_iadd hx hb dX1_behindStep_30 ?_
    refine lv_aload_n hx hb dX1_behindStep_31 rfl (lv_at hl 0 rfl) ?_
    refine va_get (D := E.1) (ci := 1) (v := .int rSz) (C := RX1) (T := TX1) (N := 15) hx hb hts n_X1 hown hK hP 0 rfl rfl 3 (by decide) k_21 (fun _ h9 => h9) rfl dX1_behindStep_32 ?_
    refine lv_icmp_ge (tgt := 44) hx hb dX1_behindStep_35 (by decide) (fun c_2 => ?_) (fun c_2 => ?_)
    · have h := h.1 c_2
      refine lv_ldc hx hb hown k_34 dX1_behindStep_44 ?_
      exact hret _ _ _ _ (-1000000005) () rfl h hP hD hS dX1_behindStep_46
    · have h := h.2 c_2
      refine lv_iload_n hx hb dX1_behindStep_38 rfl (lv_at hl 1 rfl) ?_
      refine lv_iconst (v := 1) hx hb dX1_behindStep_39 (by decide) ?_
      refine lv_iadd hx hb dX1_behindStep_40 ?_
      refine lv_goto (tgt := 46) hx hb dX1_behindStep_41 (by decide) ?_
      exact hret _ _ _ _ (p1 + 1) () rfl h hP hD hS dX1_behindStep_46
  · by_cases c_1_1 : p2 = 1
    · have h := h.2.1 c_1_1
      refine lv_tableIn (tgt := 47) hx hb dX1_behindStep_1 (by rw [c_1_1]; decide) (by rw [c_1_1]; decide) (by rw [c_1_1]; rfl) (by decide) ?_
      refine lv_iload_n hx hb dX1_behindStep_47 rfl (lv_at hl 1 rfl) ?_
      refine lv_if_le (tgt := 57) hx hb dX1_behindStep_48 (by decide) (fun c_3 => ?_) (fun c_3 => ?_)
      · have h := h.1 c_3
        refine lv_ldc hx hb hown k_34 dX1_behindStep_57 ?_
        exact hret _ _ _ _ (-1000000005) () rfl h hP hD hS dX1_behindStep_59
      · have h := h.2 c_3
        refine lv_iload_n hx hb dX1_behindStep_51 rfl (lv_at hl 1 rfl) ?_
        refine lv_iconst (v := 1) hx hb dX1_behindStep_52 (by decide) ?_
        refine lv_isub hx hb dX1_behindStep_53 ?_
        refine lv_goto (tgt := 59) hx hb dX1_behindStep_54 (by decide) ?_
        exact hret _ _ _ _ (p1 - 1) () rfl h hP hD hS dX1_behindStep_59
    · by_cases c_1_2 : p2 = 2
      · have h := h.2.2.1 c_1_2
        refine lv_tableIn (tgt := 60) hx hb dX1_behindStep_1 (by rw [c_1_2]; decide) (by rw [c_1_2]; decide) (by rw [c_1_2]; rfl) (by decide) ?_
        refine lv_iload_n hx hb dX1_behindStep_60 rfl (lv_at hl 1 rfl) ?_
        exact hret _ _ _ _ p1 () rfl h hP hD hS dX1_behindStep_61
      · have h := h.2.2.2 ⟨c_1_0, c_1_1, c_1_2⟩
        refine lv_tableOut (tgt := 62) hx hb dX1_behindStep_1 (rc_swo (0) 3 (fun k hk => by match k, hk with | 0, _ => exact lv_neT c_1_0 (by decide) | 1, _ => exact lv_neT c_1_1 (by decide) | 2, _ => exact lv_neT c_1_2 (by decide))) (by decide) ?_
        refine lv_ldc hx hb hown k_34 dX1_behindStep_62 ?_
        exact hret _ _ _ _ (-1000000005) () rfl h hP hD hS dX1_behindStep_64
def jp_X1_passMinute_73 (rPa : Int32)  (Q : Int32 → Int32 → Int32 → Int32 → Int32 → Int32 → Int32 → (Nat → Int32) → Prop) (x2 : Int32) (rFa : Int32) (rPy : Int32) (rMi : Int32) (rMe : Int32) (rSr : Int32) (rZ : Int32) (rSk : Nat → Int32) : Prop :=
  wp_X1_farIn 1 rFa rPa (fun (r_1 : Int32) => Q x2 r_1 rPy (rMi + 1) rMe rSr rZ rSk)
def wp_X1_passMinute (p1 : Int32) (rSz : Int32) (rFa : Int32) (rPa : Int32) (rPy : Int32) (rMi : Int32) (rMe : Int32) (rSr : Int32) (rZ : Int32) (rKi : Nat → Int32) (rHe : Nat → Int32) (rTx : Nat → Option Nat) (rLa : Nat → Int32) (rSk : Nat → Int32) (LT : List Nat) (pn : Nat → Nat) (tc : Nat → Nat → Int32) (Q : Int32 → Int32 → Int32 → Int32 → Int32 → Int32 → Int32 → (Nat → Int32) → Prop) : Prop :=
  wp_X1_has rPy rSz (fun (r_2 : Int32) => ((r_2 = 0 → jp_X1_passMinute_73 rPa Q 0 rFa rPy rMi rMe rSr rZ rSk) ∧ (¬ (r_2 = 0) → wp_X1_riskOf rPy rKi rHe rTx rLa rSk LT pn tc (fun (r_4 : Int32) (w_5 : Nat → Int32) => wp_X1_oddsIn 0 rFa rPa rTx rLa w_5 LT pn tc (fun (r_6 : Int32) (w_7 : Nat → Int32) => wp_X1_draw rZ (fun (r_8 : Int32) (w_9 : Int32) => (((r_4 * r_6) ≤ (rc_rem r_8 10000) → wp_X1_behindStep rPy p1 rSz (fun (r_11 : Int32) => jp_X1_passMinute_73 rPa Q (r_4 * r_6) rFa r_11 rMi (rMe + (r_4 * r_6)) rSr w_9 w_7)) ∧ (¬ ((r_4 * r_6) ≤ (rc_rem r_8 10000)) → wp_X1_behindStep rPy p1 rSz (fun (r_12 : Int32) => jp_X1_passMinute_73 rPa Q (r_4 * r_6) rFa r_12 rMi (rMe + (r_4 * r_6)) (rSr + 1) w_9 w_7)))))))))
set_option maxHeartbeats 4000000 in
set_option maxRecDepth 100000 in
theorem c_X1_passMinute (l : Launch) (E : gE) (ro rk rh rd rt rl rs : Nat) (sz : Nat) (rSz : Int32) (rTc : Int32) (rFa : Int32) (rPa : Int32) (rPy : Int32) (rMi : Int32) (rMe : Int32) (rSr : Int32) (rZ : Int32) (rKi : Nat → Int32) (rHe : Nat → Int32) (rDo : Nat → Int32) (rTx : Nat → Option Nat) (rLa : Nat → Int32) (rSk : Nat → Int32) (p1 : Int32) (LT : List Nat) (pk : Nat → Int32) (pv : Nat → Int32) (pa : Nat → Nat) (pn : Nat → Nat) (tc : Nat → Nat → Int32) (Q : Int32 → Int32 → Int32 → Int32 → Int32 → Int32 → Int32 → (Nat → Int32) → Prop) (h : wp_X1_passMinute p1 rSz rFa rPa rPy rMi rMe rSr rZ rKi rHe rTx rLa rSk LT pn tc Q) : Met l yX1_passMinute wsX1_passMinute ({ frames := 4, cells := 0, slots := 0, locals := 105 } : Room) (va_Pc [.ref ro, .int p1] (rc_B E (rw_4 E ro rk rh rd rt rl rs rSz rTc rFa rPa rPy rMi rMe rSr rZ rKi rHe rDo rTx rLa rSk ++ rc_tp E LT pk pv pa pn tc) sz)) (va_Qi (S := Int32 × Int32 × Int32 × Int32 × Int32 × Int32 × (Nat → Int32)) (fun (r : Int32) (u : Int32 × Int32 × Int32 × Int32 × Int32 × Int32 × (Nat → Int32)) => Q r u.1 u.2.1 u.2.2.1 u.2.2.2.1 u.2.2.2.2.1 u.2.2.2.2.2.1 u.2.2.2.2.2.2) (fun u t => rc_C E (va_A (rw_4 E ro rk rh rd rt rl rs rSz rTc rFa rPa rPy rMi rMe rSr rZ rKi rHe rDo rTx rLa rSk ++ rc_tp E LT pk pv pa pn tc) sz) (rw_4 E ro rk rh rd rt rl rs rSz rTc u.1 rPa u.2.1 u.2.2.1 u.2.2.2.1 u.2.2.2.2.1 u.2.2.2.2.2.1 rKi rHe rDo rTx rLa u.2.2.2.2.2.2 ++ rc_tp E LT pk pv pa pn tc) t) (va_A (rw_4 E ro rk rh rd rt rl rs rSz rTc rFa rPa rPy rMi rMe rSr rZ rKi rHe rDo rTx rLa rSk ++ rc_tp E LT pk pv pa pn tc) sz)) 0 0 (va_A (rw_4 E ro rk rh rd rt rl rs rSz rTc rFa rPa rPy rMi rMe rSr rZ rKi rHe rDo rTx rLa rSk ++ rc_tp E LT pk pv pa pn tc) sz) := by
  refine rc_enterI (cc := cX1_passMinute) (maxL := 3) (by decide) rfl (Nat.le_of_ble_eq_true rfl) ?_
  intro p e s m args below meth c QQ A hx hb hml hown hts hmn hE hP hD hA hret ls hl
  have hown : s.vm.findClass RX1 = some m.cls := hown
  have hK := hE.1
  have hS : va_S A s.heap s.heap [] := va_S.rf
  have hl : lv_has ls 3 [(0, .ref ro), (1, .int p1)] := hl
  have n_X1 : ∀ w ∈ wsX10, w ∈ wsX1_passMinute := fun _ h => List.mem_cons_of_mem _ (List.mem_append_left _ (List.mem_append_right _ h))
  have k_38 := hts (.fieldLink RX1 38 "RidgeClaps$Ridge" "far" "I") (List.mem_of_getElem? (i := 4) rfl)
  have k_47 := hts (.fieldLink RX1 47 "RidgeClaps$Ridge" "minute" "I") (List.mem_of_getElem? (i := 5) rfl)
  have k_44 := hts (.fieldLink RX1 44 "RidgeClaps$Ridge" "party" "I") (List.mem_of_getElem? (i := 1) rfl)
  have k_50 := hts (.fieldLink RX1 50 "RidgeClaps$Ridge" "met" "I") (List.mem_of_getElem? (i := 2) rfl)
  have k_53 := hts (.fieldLink RX1 53 "RidgeClaps$Ridge" "struck" "I") (List.mem_of_getElem? (i := 3) rfl)
  have J73 : ∀ (x2 : Int32) (rFa : Int32) (rPy : Int32) (rMi : Int32) (rMe : Int32) (rSr : Int32) (rZ : Int32) (rSk : Nat → Int32), jp_X1_passMinute_73 rPa Q x2 rFa rPy rMi rMe rSr rZ rSk → ∀ (H : Heap) (locs : List Loc), va_P E.1 vwCl (rw_4 E ro rk rh rd rt rl rs rSz rTc rFa rPa rPy rMi rMe rSr rZ rKi rHe rDo rTx rLa rSk ++ rc_tp E LT pk pv pa pn tc) H → va_D A (rw_4 E ro rk rh rd rt rl rs rSz rTc rFa rPa rPy rMi rMe rSr rZ rKi rHe rDo rTx rLa rSk ++ rc_tp E LT pk pv pa pn tc) → va_S A s.heap H locs → ∀ ls : Array Slot, lv_has ls 3 [(0, .ref ro), (2, .int x2)] → W p l e ({ frames := 4, cells := 0, slots := 0, locals := 105 } : Room) s m args below meth c H locs 0 0 QQ (F0 m 73 ls []) := by
    intro x2 rFa rPy rMi rMe rSr rZ rSk h H locs hP hD hS ls hl
    unfold jp_X1_passMinute_73 at h
    refine lv_aload_n hx hb dX1_passMinute_73 rfl (lv_at hl 0 rfl) ?_
    refine lv_aload_n hx hb dX1_passMinute_74 rfl (lv_at hl 0 rfl) ?_
    refine lv_iconst (v := 1) hx hb dX1_passMinute_75 (by decide) ?_
    have hPc := hP
    have hDc := hD
    have hFc := rc_freeI hD hS hA
    refine va_calli (va_runV (As := [.int 1]) (rest := [.ref ro]) ⟨hx, hb, hml, hown, hts⟩ (c_X1_farIn l E ro rk rh rd rt rl rs H.size rSz rTc rFa rPa rPy rMi rMe rSr rZ rKi rHe rDo rTx rLa rSk 1 LT pk pv pa pn tc _ h) (cwV 1 hts gX1_passMinute_X1_farIn rfl rfl rfl (by decide +kernel) ⟨Nat.le_of_ble_eq_true rfl, Nat.le_of_ble_eq_true rfl⟩) ⟨fun a U g mk q => ⟨q.1, q.2.blind⟩, va_recv hK hPc (ci := 1) (q0 := 0) rfl rfl, fun U hU hW => ⟨rfl, by rw [hU], by rw [hU]; exact hPc, hE.call hS hFc hW hU, hDc.weaken (fun _ _ _ _ => trivial)⟩⟩ rfl rfl hl.1 rfl (lv_room (Nat.le_of_ble_eq_true rfl)) dX1_passMinute_76 ⟨Nat.zero_le _, Nat.zero_le _⟩) hS (fun q _ h => hFc q h) hFc (fun r_1 u t H1 locs ht hvm h hB hz1 hk1 hS => ?_)
    obtain ⟨hP1, hD1⟩ := hB
    rw [ht] at hP1
    have hP := hP1
    have hD := hD1.weaken (fun _ _ _ h => hFc _ h)
    generalize H1 = H at hP hS ⊢
    have hP : va_P E.1 vwCl (rw_4 E ro rk rh rd rt rl rs rSz rTc rFa rPa rPy rMi rMe rSr rZ rKi rHe rDo rTx rLa rSk ++ rc_tp E LT pk pv pa pn tc) H := hP
    have hD : va_D A (rw_4 E ro rk rh rd rt rl rs rSz rTc rFa rPa rPy rMi rMe rSr rZ rKi rHe rDo rTx rLa rSk ++ rc_tp E LT pk pv pa pn tc) := hD
    refine va_put (D := E.1) (ci := 1) (v := .int r_1) (ty := .int) (C := RX1) (T := TX1) (N := 15) hx hb hts n_X1 tyX1 tyX1_ok nmX1 hown hK hP hD hS 0 rfl rfl 7 (by decide) k_38 (fun _ h9 => h9) rfl (by decide +kernel) rfl rfl (Nat.le_of_ble_eq_true rfl) dX1_passMinute_79 (fun H locs hP hD hS => ?_)
    have hP : va_P E.1 vwCl (rw_4 E ro rk rh rd rt rl rs rSz rTc r_1 rPa rPy rMi rMe rSr rZ rKi rHe rDo rTx rLa rSk ++ rc_tp E LT pk pv pa pn tc) H := hP
    have hD : va_D A (rw_4 E ro rk rh rd rt rl rs rSz rTc r_1 rPa rPy rMi rMe rSr rZ rKi rHe rDo rTx rLa rSk ++ rc_tp E LT pk pv pa pn tc) := hD
    refine lv_aload_n hx hb dX1_passMinute_82 rfl (lv_at hl 0 rfl) ?_
    refine lv_dup hx hb dX1_passMinute_83 rfl ?_
    refine va_get (D := E.1) (ci := 1) (v := .int rMi) (C := RX1) (T := TX1) (N := 15) hx hb hts n_X1 hown hK hP 0 rfl rfl 10 (by decide) k_47 (fun _ h9 => h9) rfl dX1_passMinute_84 ?_
    refine lv_iconst (v := 1) hx hb dX1_passMinute_87 (by decide) ?_
    refine lv_iadd hx hb dX1_passMinute_88 ?_
    refine va_put (D := E.1) (ci := 1) (v := .int (rMi + 1)) (ty := .int) (C := RX1) (T := TX1) (N := 15) hx hb hts n_X1 tyX1 tyX1_ok nmX1 hown hK hP hD hS 0 rfl rfl 10 (by decide) k_47 (fun _ h9 => h9) rfl (by decide +kernel) rfl rfl (Nat.le_of_ble_eq_true rfl) dX1_passMinute_89 (fun H locs hP hD hS => ?_)
    have hP : va_P E.1 vwCl (rw_4 E ro rk rh rd rt rl rs rSz rTc r_1 rPa rPy (rMi + 1) rMe rSr rZ rKi rHe rDo rTx rLa rSk ++ rc_tp E LT pk pv pa pn tc) H := hP
    have hD : va_D A (rw_4 E ro rk rh rd rt rl rs rSz rTc r_1 rPa rPy (rMi + 1) rMe rSr rZ rKi rHe rDo rTx rLa rSk ++ rc_tp E LT pk pv pa pn tc) := hD
    refine lv_iload_n hx hb dX1_passMinute_92 rfl (lv_at hl 1 rfl) ?_
    exact hret _ _ _ _ x2 (r_1, rPy, rMi + 1, rMe, rSr, rZ, rSk) rfl h hP hD hS dX1_passMinute_93
  unfold wp_X1_passMinute at h
  obtain ⟨H, hH⟩ : ∃ H, H = s.heap := ⟨_, rfl⟩
  obtain ⟨locs, hlocs⟩ : ∃ locs : List Loc, locs = [] := ⟨_, rfl⟩
  have hP : va_P E.1 vwCl (rw_4 E ro rk rh rd rt rl rs rSz rTc rFa rPa rPy rMi rMe rSr rZ rKi rHe rDo rTx rLa rSk ++ rc_tp E LT pk pv pa pn tc) H := by rw [hH]; exact hP
  have hS : va_S A s.heap H locs := by rw [hH, hlocs]; exact hS
  suffices hgo : W p l e ({ frames := 4, cells := 0, slots := 0, locals := 105 } : Room) s m args below meth c H locs 0 0 QQ (F0 m 0 ls []) from by rw [hH, hlocs] at hgo; exact hgo
  refine lv_iconst (v := 0) hx hb dX1_passMinute_0 (by decide) ?_
  refine lv_istore_n (lv' := [(2, .int 0), (0, .ref ro), (1, .int p1)]) hx hb dX1_passMinute_1 rfl hl (by decide) rfl (fun ls hl => ?_)
  refine lv_aload_n hx hb dX1_passMinute_2 rfl (lv_at hl 1 rfl) ?_
  refine lv_aload_n hx hb dX1_passMinute_3 rfl (lv_at hl 1 rfl) ?_
  refine va_get (D := E.1) (ci := 1) (v := .int rPy) (C := RX1) (T := TX1) (N := 15) hx hb hts n_X1 hown hK hP 0 rfl rfl 9 (by decide) k_44 (fun _ h9 => h9) rfl dX1_passMinute_4 ?_
  have hPc := hP
  have hDc := hD
  have hFc := rc_freeI hD hS hA
  refine va_calli (va_runV (As := [.int rPy]) (rest := []) ⟨hx, hb, hml, hown, hts⟩ (c_X1_has l E ro rk rh rd rt rl rs H.size rSz rTc rFa rPa rPy rMi rMe rSr rZ rKi rHe rDo rTx rLa rSk rPy LT pk pv pa pn tc _ h) (cwV 1 hts gX1_passMinute_X1_has rfl rfl rfl (by decide +kernel) ⟨Nat.le_of_ble_eq_true rfl, Nat.le_of_ble_eq_true rfl⟩) ⟨fun a U g mk q => ⟨q.1, q.2.blind⟩, va_recv hK hPc (ci := 1) (q0 := 0) rfl rfl, fun U hU hW => ⟨rfl, by rw [hU], by rw [hU]; exact hPc, hE.call hS hFc hW hU, hDc.weaken (fun _ _ _ _ => trivial)⟩⟩ rfl rfl hl.1 rfl (lv_room (Nat.le_of_ble_eq_true rfl)) dX1_passMinute_7 ⟨Nat.zero_le _, Nat.zero_le _⟩) hS (fun q _ h => hFc q h) hFc (fun r_2 u t H1 locs ht hvm h hB hz1 hk1 hS => ?_)
  obtain ⟨hP1, hD1⟩ := hB
  rw [ht] at hP1
  have hP := hP1
  have hD := hD1.weaken (fun _ _ _ h => hFc _ h)
  generalize H1 = H at hP hS ⊢
  have hP : va_P E.1 vwCl (rw_4 E ro rk rh rd rt rl rs rSz rTc rFa rPa rPy rMi rMe rSr rZ rKi rHe rDo rTx rLa rSk ++ rc_tp E LT pk pv pa pn tc) H := hP
  have hD : va_D A (rw_4 E ro rk rh rd rt rl rs rSz rTc rFa rPa rPy rMi rMe rSr rZ rKi rHe rDo rTx rLa rSk ++ rc_tp E LT pk pv pa pn tc) := hD
  refine lv_if_eq (tgt := 73) hx hb dX1_passMinute_10 (by decide) (fun c_3 => ?_) (fun c_3 => ?_)
  · have h := h.1 c_3
    exact J73 0 rFa rPy rMi rMe rSr rZ rSk h _ _ hP hD hS ls (lv_sub hl [1, 0] rfl)
  · have h := h.2 c_3
    refine lv_aload_n hx hb dX1_passMinute_13 rfl (lv_at hl 1 rfl) ?_
    refine lv_aload_n hx hb dX1_passMinute_14 rfl (lv_at hl 1 rfl) ?_
    refine va_get (D := E.1) (ci := 1) (v := .int rPy) (C := RX1) (T := TX1) (N := 15) hx hb hts n_X1 hown hK hP 0 rfl rfl 9 (by decide) k_44 (fun _ h9 => h9) rfl dX1_passMinute_15 ?_
    have hPc := hP
    have hDc := hD
    have hFc := rc_freeI hD hS hA
    refine va_calli (va_runV (As := [.int rPy]) (rest := []) ⟨hx, hb, hml, hown, hts⟩ (c_X1_riskOf l E ro rk rh rd rt rl rs H.size rSz rTc rFa rPa rPy rMi rMe rSr rZ rKi rHe rDo rTx rLa rSk rPy LT pk pv pa pn tc _ h) (cwV 1 hts gX1_passMinute_X1_riskOf rfl rfl rfl (by decide +kernel) ⟨Nat.le_of_ble_eq_true rfl, Nat.le_of_ble_eq_true rfl⟩) ⟨fun a U g mk q => ⟨q.1, q.2.blind⟩, va_recv hK hPc (ci := 1) (q0 := 0) rfl rfl, fun U hU hW => ⟨rfl, by rw [hU], by rw [hU]; exact hPc, hE.call hS hFc hW hU, hDc.weaken (fun _ _ _ _ => trivial)⟩⟩ rfl rfl hl.1 rfl (lv_room (Nat.le_of_ble_eq_true rfl)) dX1_passMinute_18 ⟨Nat.zero_le _, Nat.zero_le _⟩) hS (fun q _ h => hFc q h) hFc (fun r_4 u t H1 locs ht hvm h hB hz1 hk1 hS => ?_)
    obtain ⟨w_5, rfl⟩ : ∃ z, z = u := ⟨_, rfl⟩
    obtain ⟨hP1, hD1⟩ := hB
    rw [ht] at hP1
    have hP := hP1
    have hD := hD1.weaken (fun _ _ _ h => hFc _ h)
    generalize H1 = H at hP hS ⊢
    have hP : va_P E.1 vwCl (rw_4 E ro rk rh rd rt rl rs rSz rTc rFa rPa rPy rMi rMe rSr rZ rKi rHe rDo rTx rLa w_5 ++ rc_tp E LT pk pv pa pn tc) H := hP
    have hD : va_D A (rw_4 E ro rk rh rd rt rl rs rSz rTc rFa rPa rPy rMi rMe rSr rZ rKi rHe rDo rTx rLa w_5 ++ rc_tp E LT pk pv pa pn tc) := hD
    refine lv_aload_n hx hb dX1_passMinute_21 rfl (lv_at hl 1 rfl) ?_
    refine lv_iconst (v := 0) hx hb dX1_passMinute_22 (by decide) ?_
    have hPc := hP
    have hDc := hD
    have hFc := rc_freeI hD hS hA
    refine va_calli (va_runV (As := [.int 0]) (rest := [.int r_4]) ⟨hx, hb, hml, hown, hts⟩ (c_X1_oddsIn l E ro rk rh rd rt rl rs H.size rSz rTc rFa rPa rPy rMi rMe rSr rZ rKi rHe rDo rTx rLa w_5 0 LT pk pv pa pn tc _ h) (cwV 1 hts gX1_passMinute_X1_oddsIn rfl rfl rfl (by decide +kernel) ⟨Nat.le_of_ble_eq_true rfl, Nat.le_of_ble_eq_true rfl⟩) ⟨fun a U g mk q => ⟨q.1, q.2.blind⟩, va_recv hK hPc (ci := 1) (q0 := 0) rfl rfl, fun U hU hW => ⟨rfl, by rw [hU], by rw [hU]; exact hPc, hE.call hS hFc hW hU, hDc.weaken (fun _ _ _ _ => trivial)⟩⟩ rfl rfl hl.1 rfl (lv_room (Nat.le_of_ble_eq_true rfl)) dX1_passMinute_23 ⟨Nat.zero_le _, Nat.zero_le _⟩) hS (fun q _ h => hFc q h) hFc (fun r_6 u t H1 locs ht hvm h hB hz1 hk1 hS => ?_)
    obtain ⟨w_7, rfl⟩ : ∃ z, z = u := ⟨_, rfl⟩
    obtain ⟨hP1, hD1⟩ := hB
    rw [ht] at hP1
    have hP := hP1
    have hD := hD1.weaken (fun _ _ _ h => hFc _ h)
    generalize H1 = H at hP hS ⊢
    have hP : va_P E.1 vwCl (rw_4 E ro rk rh rd rt rl rs rSz rTc rFa rPa rPy rMi rMe rSr rZ rKi rHe rDo rTx rLa w_7 ++ rc_tp E LT pk pv pa pn tc) H := hP
    have hD : va_D A (rw_4 E ro rk rh rd rt rl rs rSz rTc rFa rPa rPy rMi rMe rSr rZ rKi rHe rDo rTx rLa w_7 ++ rc_tp E LT pk pv pa pn tc) := hD
    refine lv_imul hx hb dX1_passMinute_26 ?_
    refine lv_istore_n (lv' := [(2, .int (r_4 * r_6)), (0, .ref ro), (1, .int p1)]) hx hb dX1_passMinute_27 rfl hl (by decide) rfl (fun ls hl => ?_)
    refine lv_aload_n hx hb dX1_passMinute_28 rfl (lv_at hl 1 rfl) ?_
    refine lv_dup hx hb dX1_passMinute_29 rfl ?_
    refine va_get (D := E.1) (ci := 1) (v := .int rMe) (C := RX1) (T := TX1) (N := 15) hx hb hts n_X1 hown hK hP 0 rfl rfl 11 (by decide) k_50 (fun _ h9 => h9) rfl dX1_passMinute_30 ?_
    refine lv_iload_n hx hb dX1_passMinute_33 rfl (lv_at hl 0 rfl) ?_
    refine lv_iadd hx hb dX1_passMinute_34 ?_
    refine va_put (D := E.1) (ci := 1) (v := .int (rMe + (r_4 * r_6))) (ty := .int) (C := RX1) (T := TX1) (N := 15) hx hb hts n_X1 tyX1 tyX1_ok nmX1 hown hK hP hD hS 0 rfl rfl 11 (by decide) k_50 (fun _ h9 => h9) rfl (by decide +kernel) rfl rfl (Nat.le_of_ble_eq_true rfl) dX1_passMinute_35 (fun H locs hP hD hS => ?_)
    have hP : va_P E.1 vwCl (rw_4 E ro rk rh rd rt rl rs rSz rTc rFa rPa rPy rMi (rMe + (r_4 * r_6)) rSr rZ rKi rHe rDo rTx rLa w_7 ++ rc_tp E LT pk pv pa pn tc) H := hP
    have hD : va_D A (rw_4 E ro rk rh rd rt rl rs rSz rTc rFa rPa rPy rMi (rMe + (r_4 * r_6)) rSr rZ rKi rHe rDo rTx rLa w_7 ++ rc_tp E LT pk pv pa pn tc) := hD
    refine lv_aload_n hx hb dX1_passMinute_38 rfl (lv_at hl 1 rfl) ?_
    have hPc := hP
    have hDc := hD
    have hFc := rc_freeI hD hS hA
    refine va_calli (va_runV (As := []) (rest := []) ⟨hx, hb, hml, hown, hts⟩ (c_X1_draw l E ro rk rh rd rt rl rs H.size rSz rTc rFa rPa rPy rMi (rMe + (r_4 * r_6)) rSr rZ rKi rHe rDo rTx rLa w_7 LT pk pv pa pn tc _ h) (cwV 0 hts gX1_passMinute_X1_draw rfl rfl rfl (by decide +kernel) ⟨Nat.le_of_ble_eq_true rfl, Nat.le_of_ble_eq_true rfl⟩) ⟨fun a U g mk q => ⟨q.1, q.2.blind⟩, va_recv hK hPc (ci := 1) (q0 := 0) rfl rfl, fun U hU hW => ⟨rfl, by rw [hU], by rw [hU]; exact hPc, hE.call hS hFc hW hU, hDc.weaken (fun _ _ _ _ => trivial)⟩⟩ rfl rfl hl.1 rfl (lv_room (Nat.le_of_ble_eq_true rfl)) dX1_passMinute_39 ⟨Nat.zero_le _, Nat.zero_le _⟩) hS (fun q _ h => hFc q h) hFc (fun r_8 u t H1 locs ht hvm h hB hz1 hk1 hS => ?_)
    obtain ⟨w_9, rfl⟩ : ∃ z, z = u := ⟨_, rfl⟩
    obtain ⟨hP1, hD1⟩ := hB
    rw [ht] at hP1
    have hP := hP1
    have hD := hD1.weaken (fun _ _ _ h => hFc _ h)
    generalize H1 = H at hP hS ⊢
    have hP : va_P E.1 vwCl (rw_4 E ro rk rh rd rt rl rs rSz rTc rFa rPa rPy rMi (rMe + (r_4 * r_6)) rSr w_9 rKi rHe rDo rTx rLa w_7 ++ rc_tp E LT pk pv pa pn tc) H := hP
    have hD : va_D A (rw_4 E ro rk rh rd rt rl rs rSz rTc rFa rPa rPy rMi (rMe + (r_4 * r_6)) rSr w_9 rKi rHe rDo rTx rLa w_7 ++ rc_tp E LT pk pv pa pn tc) := hD
    refine lv_sipush (v := 10000) hx hb dX1_passMinute_42 (by decide) ?_
    refine lv_irem hx hb dX1_passMinute_45 (by decide) ?_
    refine W.eq (g2 := F0 m 46 ls [.int (rc_rem r_8 10000)]) rfl ?_
    refine lv_iload_n hx hb dX1_passMinute_46 rfl (lv_at hl 0 rfl) ?_
    refine lv_icmp_ge (tgt := 60) hx hb dX1_passMinute_47 (by decide) (fun c_10 => ?_) (fun c_10 => ?_)
    · have h := h.1 c_10
      refine lv_aload_n hx hb dX1_passMinute_60 rfl (lv_at hl 1 rfl) ?_
      refine lv_aload_n hx hb dX1_passMinute_61 rfl (lv_at hl 1 rfl) ?_
      refine lv_aload_n hx hb dX1_passMinute_62 rfl (lv_at hl 1 rfl) ?_
      refine va_get (D := E.1) (ci := 1) (v := .int rPy) (C := RX1) (T := TX1) (N := 15) hx hb hts n_X1 hown hK hP 0 rfl rfl 9 (by decide) k_44 (fun _ h9 => h9) rfl dX1_passMinute_63 ?_
      refine lv_iload_n hx hb dX1_passMinute_66 rfl (lv_at hl 2 rfl) ?_
      have hPc := hP
      have hDc := hD
      have hFc := rc_freeI hD hS hA
      refine va_calli (va_runV (As := [.int rPy, .int p1]) (rest := [.ref ro]) ⟨hx, hb, hml, hown, hts⟩ (c_X1_behindStep l E ro rk rh rd rt rl rs H.size rSz rTc rFa rPa rPy rMi (rMe + (r_4 * r_6)) rSr w_9 rKi rHe rDo rTx rLa w_7 rPy p1 LT pk pv pa pn tc _ h) (cwV 2 hts gX1_passMinute_X1_behindStep rfl rfl rfl (by decide +kernel) ⟨Nat.le_of_ble_eq_true rfl, Nat.le_of_ble_eq_true rfl⟩) ⟨fun a U g mk q => ⟨q.1, q.2.blind⟩, va_recv hK hPc (ci := 1) (q0 := 0) rfl rfl, fun U hU hW => ⟨rfl, by rw [hU], by rw [hU]; exact hPc, hE.call hS hFc hW hU, hDc.weaken (fun _ _ _ _ => trivial)⟩⟩ rfl rfl hl.1 rfl (lv_room (Nat.le_of_ble_eq_true rfl)) dX1_passMinute_67 ⟨Nat.zero_le _, Nat.zero_le _⟩) hS (fun q _ h => hFc q h) hFc (fun r_11 u t H1 locs ht hvm h hB hz1 hk1 hS => ?_)
      obtain ⟨hP1, hD1⟩ := hB
      rw [ht] at hP1
      have hP := hP1
      have hD := hD1.weaken (fun _ _ _ h => hFc _ h)
      generalize H1 = H at hP hS ⊢
      have hP : va_P E.1 vwCl (rw_4 E ro rk rh rd rt rl rs rSz rTc rFa rPa rPy rMi (rMe + (r_4 * r_6)) rSr w_9 rKi rHe rDo rTx rLa w_7 ++ rc_tp E LT pk pv pa pn tc) H := hP
      have hD : va_D A (rw_4 E ro rk rh rd rt rl rs rSz rTc rFa rPa rPy rMi (rMe + (r_4 * r_6)) rSr w_9 rKi rHe rDo rTx rLa w_7 ++ rc_tp E LT pk pv pa pn tc) := hD
      refine va_put (D := E.1) (ci := 1) (v := .int r_11) (ty := .int) (C := RX1) (T := TX1) (N := 15) hx hb hts n_X1 tyX1 tyX1_ok nmX1 hown hK hP hD hS 0 rfl rfl 9 (by decide) k_44 (fun _ h9 => h9) rfl (by decide +kernel) rfl rfl (Nat.le_of_ble_eq_true rfl) dX1_passMinute_70 (fun H locs hP hD hS => ?_)
      have hP : va_P E.1 vwCl (rw_4 E ro rk rh rd rt rl rs rSz rTc rFa rPa r_11 rMi (rMe + (r_4 * r_6)) rSr w_9 rKi rHe rDo rTx rLa w_7 ++ rc_tp E LT pk pv pa pn tc) H := hP
      have hD : va_D A (rw_4 E ro rk rh rd rt rl rs rSz rTc rFa rPa r_11 rMi (rMe + (r_4 * r_6)) rSr w_9 rKi rHe rDo rTx rLa w_7 ++ rc_tp E LT pk pv pa pn tc) := hD
      exact J73 (r_4 * r_6) rFa r_11 rMi (rMe + (r_4 * r_6)) rSr w_9 w_7 h _ _ hP hD hS ls (lv_sub hl [1, 0] rfl)
    · have h := h.2 c_10
      refine lv_aload_n hx hb dX1_passMinute_50 rfl (lv_at hl 1 rfl) ?_
      refine lv_dup hx hb dX1_passMinute_51 rfl ?_
      refine va_get (D := E.1) (ci := 1) (v := .int rSr) (C := RX1) (T := TX1) (N := 15) hx hb hts n_X1 hown hK hP 0 rfl rfl 12 (by decide) k_53 (fun _ h9 => h9) rfl dX1_passMinute_52 ?_
      refine lv_iconst (v := 1) hx hb dX1_passMinute_55 (by decide) ?_
      refine lv_iadd hx hb dX1_passMinute_56 ?_
      refine va_put (D := E.1) (ci := 1) (v := .int (rSr + 1)) (ty := .int) (C := RX1) (T := TX1) (N := 15) hx hb hts n_X1 tyX1 tyX1_ok nmX1 hown hK hP hD hS 0 rfl rfl 12 (by decide) k_53 (fun _ h9 => h9) rfl (by decide +kernel) rfl rfl (Nat.le_of_ble_eq_true rfl) dX1_passMinute_57 (fun H locs hP hD hS => ?_)
      have hP : va_P E.1 vwCl (rw_4 E ro rk rh rd rt rl rs rSz rTc rFa rPa rPy rMi (rMe + (r_4 * r_6)) (rSr + 1) w_9 rKi rHe rDo rTx rLa w_7 ++ rc_tp E LT pk pv pa pn tc) H := hP
      have hD : va_D A (rw_4 E ro rk rh rd rt rl rs rSz rTc rFa rPa rPy rMi (rMe + (r_4 * r_6)) (rSr + 1) w_9 rKi rHe rDo rTx rLa w_7 ++ rc_tp E LT pk pv pa pn tc) := hD
      refine lv_aload_n hx hb dX1_passMinute_60 rfl (lv_at hl 1 rfl) ?_
      refine lv_aload_n hx hb dX1_passMinute_61 rfl (lv_at hl 1 rfl) ?_
      refine lv_aload_n hx hb dX1_passMinute_62 rfl (lv_at hl 1 rfl) ?_
      refine va_get (D := E.1) (ci := 1) (v := .int rPy) (C := RX1) (T := TX1) (N := 15) hx hb hts n_X1 hown hK hP 0 rfl rfl 9 (by decide) k_44 (fun _ h9 => h9) rfl dX1_passMinute_63 ?_
      refine lv_iload_n hx hb dX1_passMinute_66 rfl (lv_at hl 2 rfl) ?_
      have hPc := hP
      have hDc := hD
      have hFc := rc_freeI hD hS hA
      refine va_calli (va_runV (As := [.int rPy, .int p1]) (rest := [.ref ro]) ⟨hx, hb, hml, hown, hts⟩ (c_X1_behindStep l E ro rk rh rd rt rl rs H.size rSz rTc rFa rPa rPy rMi (rMe + (r_4 * r_6)) (rSr + 1) w_9 rKi rHe rDo rTx rLa w_7 rPy p1 LT pk pv pa pn tc _ h) (cwV 2 hts gX1_passMinute_X1_behindStep rfl rfl rfl (by decide +kernel) ⟨Nat.le_of_ble_eq_true rfl, Nat.le_of_ble_eq_true rfl⟩) ⟨fun a U g mk q => ⟨q.1, q.2.blind⟩, va_recv hK hPc (ci := 1) (q0 := 0) rfl rfl, fun U hU hW => ⟨rfl, by rw [hU], by rw [hU]; exact hPc, hE.call hS hFc hW hU, hDc.weaken (fun _ _ _ _ => trivial)⟩⟩ rfl rfl hl.1 rfl (lv_room (Nat.le_of_ble_eq_true rfl)) dX1_passMinute_67 ⟨Nat.zero_le _, Nat.zero_le _⟩) hS (fun q _ h => hFc q h) hFc (fun r_12 u t H1 locs ht hvm h hB hz1 hk1 hS => ?_)
      obtain ⟨hP1, hD1⟩ := hB
      rw [ht] at hP1
      have hP := hP1
      have hD := hD1.weaken (fun _ _ _ h => hFc _ h)
      generalize H1 = H at hP hS ⊢
      have hP : va_P E.1 vwCl (rw_4 E ro rk rh rd rt rl rs rSz rTc rFa rPa rPy rMi (rMe + (r_4 * r_6)) (rSr + 1) w_9 rKi rHe rDo rTx rLa w_7 ++ rc_tp E LT pk pv pa pn tc) H := hP
      have hD : va_D A (rw_4 E ro rk rh rd rt rl rs rSz rTc rFa rPa rPy rMi (rMe + (r_4 * r_6)) (rSr + 1) w_9 rKi rHe rDo rTx rLa w_7 ++ rc_tp E LT pk pv pa pn tc) := hD
      refine va_put (D := E.1) (ci := 1) (v := .int r_12) (ty := .int) (C := RX1) (T := TX1) (N := 15) hx hb hts n_X1 tyX1 tyX1_ok nmX1 hown hK hP hD hS 0 rfl rfl 9 (by decide) k_44 (fun _ h9 => h9) rfl (by decide +kernel) rfl rfl (Nat.le_of_ble_eq_true rfl) dX1_passMinute_70 (fun H locs hP hD hS => ?_)
      have hP : va_P E.1 vwCl (rw_4 E ro rk rh rd rt rl rs rSz rTc rFa rPa r_12 rMi (rMe + (r_4 * r_6)) (rSr + 1) w_9 rKi rHe rDo rTx rLa w_7 ++ rc_tp E LT pk pv pa pn tc) H := hP
      have hD : va_D A (rw_4 E ro rk rh rd rt rl rs rSz rTc rFa rPa r_12 rMi (rMe + (r_4 * r_6)) (rSr + 1) w_9 rKi rHe rDo rTx rLa w_7 ++ rc_tp E LT pk pv pa pn tc) := hD
      exact J73 (r_4 * r_6) rFa r_12 rMi (rMe + (r_4 * r_6)) (rSr + 1) w_9 w_7 h _ _ hP hD hS ls (lv_sub hl [1, 0] rfl)
def lp_X1_dangerByRule_8F (p2 : Int32) (rSz : Int32) (rFa : Int32) (rPa : Int32) (rKi : Nat → Int32) (rHe : Nat → Int32) (rTx : Nat → Option Nat) (rLa : Nat → Int32) (LT : List Nat) (pn : Nat → Nat) (tc : Nat → Nat → Int32)  (Q : Int32 → (Nat → Int32) → Prop) (R : Int32 → Int32 → Int32 → (Nat → Int32) → Prop) (x3 : Int32) (x4 : Int32) (x5 : Int32) (rSk : Nat → Int32) : Prop :=
  ((p2 ≤ x5 → Q x3 rSk) ∧ (¬ (p2 ≤ x5) → wp_X1_has x4 rSz (fun (r_2 : Int32) => ((r_2 = 0 → Q x3 rSk) ∧ (¬ (r_2 = 0) → wp_X1_dangerOf x4 x5 rFa rPa rKi rHe rTx rLa rSk LT pn tc (fun (r_4 : Int32) (w_5 : Nat → Int32) => wp_X1_ruleTurns x4 x5 rFa rPa rTx rLa w_5 LT pn tc (fun (r_6 : Int32) (w_7 : Nat → Int32) => ((r_6 = 0 → wp_X1_behindStep x4 0 rSz (fun (r_9 : Int32) => R (x3 + r_4) r_9 (x5 + 1) w_7)) ∧ (¬ (r_6 = 0) → wp_X1_behindStep x4 1 rSz (fun (r_10 : Int32) => R (x3 + r_4) r_10 (x5 + 1) w_7))))))))))
def lp_X1_dangerByRule_8 (p2 : Int32) (rSz : Int32) (rFa : Int32) (rPa : Int32) (rKi : Nat → Int32) (rHe : Nat → Int32) (rTx : Nat → Option Nat) (rLa : Nat → Int32) (LT : List Nat) (pn : Nat → Nat) (tc : Nat → Nat → Int32)  (Q : Int32 → (Nat → Int32) → Prop) (n : Nat) : Int32 → Int32 → Int32 → (Nat → Int32) → Prop :=
  Nat.rec (motive := fun _ => Int32 → Int32 → Int32 → (Nat → Int32) → Prop) (fun _ _ _ _ => False) (fun _ r => lp_X1_dangerByRule_8F p2 rSz rFa rPa rKi rHe rTx rLa LT pn tc Q r) n
def wp_X1_dangerByRule (p1 : Int32) (p2 : Int32) (rSz : Int32) (rFa : Int32) (rPa : Int32) (rKi : Nat → Int32) (rHe : Nat → Int32) (rTx : Nat → Option Nat) (rLa : Nat → Int32) (rSk : Nat → Int32) (LT : List Nat) (pn : Nat → Nat) (tc : Nat → Nat → Int32) (Q : Int32 → (Nat → Int32) → Prop) : Prop :=
  (∃ n : Nat, lp_X1_dangerByRule_8 p2 rSz rFa rPa rKi rHe rTx rLa LT pn tc Q n 0 p1 0 rSk)
set_option maxHeartbeats 4000000 in
set_option maxRecDepth 100000 in
theorem c_X1_dangerByRule (l : Launch) (E : gE) (ro rk rh rd rt rl rs : Nat) (sz : Nat) (rSz : Int32) (rTc : Int32) (rFa : Int32) (rPa : Int32) (rPy : Int32) (rMi : Int32) (rMe : Int32) (rSr : Int32) (rZ : Int32) (rKi : Nat → Int32) (rHe : Nat → Int32) (rDo : Nat → Int32) (rTx : Nat → Option Nat) (rLa : Nat → Int32) (rSk : Nat → Int32) (p1 p2 : Int32) (LT : List Nat) (pk : Nat → Int32) (pv : Nat → Int32) (pa : Nat → Nat) (pn : Nat → Nat) (tc : Nat → Nat → Int32) (Q : Int32 → (Nat → Int32) → Prop) (h : wp_X1_dangerByRule p1 p2 rSz rFa rPa rKi rHe rTx rLa rSk LT pn tc Q) : Met l yX1_dangerByRule wsX1_dangerByRule ({ frames := 5, cells := 0, slots := 0, locals := 127 } : Room) (va_Pc [.ref ro, .int p1, .int p2] (rc_B E (rw_4 E ro rk rh rd rt rl rs rSz rTc rFa rPa rPy rMi rMe rSr rZ rKi rHe rDo rTx rLa rSk ++ rc_tp E LT pk pv pa pn tc) sz)) (va_Qi (S := (Nat → Int32)) (fun (r : Int32) (u : (Nat → Int32)) => Q r u) (fun u t => rc_C E (va_A (rw_4 E ro rk rh rd rt rl rs rSz rTc rFa rPa rPy rMi rMe rSr rZ rKi rHe rDo rTx rLa rSk ++ rc_tp E LT pk pv pa pn tc) sz) (rw_4 E ro rk rh rd rt rl rs rSz rTc rFa rPa rPy rMi rMe rSr rZ rKi rHe rDo rTx rLa u ++ rc_tp E LT pk pv pa pn tc) t) (va_A (rw_4 E ro rk rh rd rt rl rs rSz rTc rFa rPa rPy rMi rMe rSr rZ rKi rHe rDo rTx rLa rSk ++ rc_tp E LT pk pv pa pn tc) sz)) 0 0 (va_A (rw_4 E ro rk rh rd rt rl rs rSz rTc rFa rPa rPy rMi rMe rSr rZ rKi rHe rDo rTx rLa rSk ++ rc_tp E LT pk pv pa pn tc) sz) := by
  refine rc_enterI (cc := cX1_dangerByRule) (maxL := 6) (by decide) rfl (Nat.le_of_ble_eq_true rfl) ?_
  intro p e s m args below meth c QQ A hx hb hml hown hts hmn hE hP hD hA hret ls hl
  have hown : s.vm.findClass RX1 = some m.cls := hown
  have hK := hE.1
  have hS : va_S A s.heap s.heap [] := va_S.rf
  have hl : lv_has ls 6 [(0, .ref ro), (1, .int p1), (2, .int p2)] := hl
  have J8 : ∀ (n : Nat) (x3 : Int32) (x4 : Int32) (x5 : Int32) (rSk : Nat → Int32), lp_X1_dangerByRule_8 p2 rSz rFa rPa rKi rHe rTx rLa LT pn tc Q n x3 x4 x5 rSk → ∀ (H : Heap) (locs : List Loc), va_P E.1 vwCl (rw_4 E ro rk rh rd rt rl rs rSz rTc rFa rPa rPy rMi rMe rSr rZ rKi rHe rDo rTx rLa rSk ++ rc_tp E LT pk pv pa pn tc) H → va_D A (rw_4 E ro rk rh rd rt rl rs rSz rTc rFa rPa rPy rMi rMe rSr rZ rKi rHe rDo rTx rLa rSk ++ rc_tp E LT pk pv pa pn tc) → va_S A s.heap H locs → ∀ ls : Array Slot, lv_has ls 6 [(0, .ref ro), (2, .int p2), (3, .int x3), (4, .int x4), (5, .int x5)] → W p l e ({ frames := 5, cells := 0, slots := 0, locals := 127 } : Room) s m args below meth c H locs 0 0 QQ (F0 m 8 ls []) := by
    intro n
    induction n with
    | zero =>
      intro x3 x4 x5 rSk h
      exact False.elim h
    | succ n ih =>
      intro x3 x4 x5 rSk h H locs hP hD hS ls hl
      have h : lp_X1_dangerByRule_8F p2 rSz rFa rPa rKi rHe rTx rLa LT pn tc Q (lp_X1_dangerByRule_8 p2 rSz rFa rPa rKi rHe rTx rLa LT pn tc Q n) x3 x4 x5 rSk := h
      unfold lp_X1_dangerByRule_8F at h
      refine lv_iload hx hb dX1_dangerByRule_8 (lv_at hl 4 rfl) ?_
      refine lv_iload_n hx hb dX1_dangerByRule_10 rfl (lv_at hl 1 rfl) ?_
      refine lv_icmp_ge (tgt := 64) hx hb dX1_dangerByRule_11 (by decide) (fun c_1 => ?_) (fun c_1 => ?_)
      · have h := h.1 c_1
        refine lv_iload_n hx hb dX1_dangerByRule_64 rfl (lv_at hl 2 rfl) ?_
        exact hret _ _ _ _ x3 (rSk) rfl h hP hD hS dX1_dangerByRule_65
      · have h := h.2 c_1
        refine lv_aload_n hx hb dX1_dangerByRule_14 rfl (lv_at hl 0 rfl) ?_
        refine lv_iload hx hb dX1_dangerByRule_15 (lv_at hl 3 rfl) ?_
        have hPc := hP
        have hDc := hD
        have hFc := rc_freeI hD hS hA
        refine va_calli (va_runV (As := [.int x4]) (rest := []) ⟨hx, hb, hml, hown, hts⟩ (c_X1_has l E ro rk rh rd rt rl rs H.size rSz rTc rFa rPa rPy rMi rMe rSr rZ rKi rHe rDo rTx rLa rSk x4 LT pk pv pa pn tc _ h) (cwV 1 hts gX1_dangerByRule_X1_has rfl rfl rfl (by decide +kernel) ⟨Nat.le_of_ble_eq_true rfl, Nat.le_of_ble_eq_true rfl⟩) ⟨fun a U g mk q => ⟨q.1, q.2.blind⟩, va_recv hK hPc (ci := 1) (q0 := 0) rfl rfl, fun U hU hW => ⟨rfl, by rw [hU], by rw [hU]; exact hPc, hE.call hS hFc hW hU, hDc.weaken (fun _ _ _ _ => trivial)⟩⟩ rfl rfl hl.1 rfl (lv_room (Nat.le_of_ble_eq_true rfl)) dX1_dangerByRule_17 ⟨Nat.zero_le _, Nat.zero_le _⟩) hS (fun q _ h => hFc q h) hFc (fun r_2 u t H1 locs ht hvm h hB hz1 hk1 hS => ?_)
        obtain ⟨hP1, hD1⟩ := hB
        rw [ht] at hP1
        have hP := hP1
        have hD := hD1.weaken (fun _ _ _ h => hFc _ h)
        generalize H1 = H at hP hS ⊢
        have hP : va_P E.1 vwCl (rw_4 E ro rk rh rd rt rl rs rSz rTc rFa rPa rPy rMi rMe rSr rZ rKi rHe rDo rTx rLa rSk ++ rc_tp E LT pk pv pa pn tc) H := hP
        have hD : va_D A (rw_4 E ro rk rh rd rt rl rs rSz rTc rFa rPa rPy rMi rMe rSr rZ rKi rHe rDo rTx rLa rSk ++ rc_tp E LT pk pv pa pn tc) := hD
        refine lv_if_eq (tgt := 64) hx hb dX1_dangerByRule_20 (by decide) (fun c_3 => ?_) (fun c_3 => ?_)
        · have h := h.1 c_3
          refine lv_iload_n hx hb dX1_dangerByRule_64 rfl (lv_at hl 2 rfl) ?_
          exact hret _ _ _ _ x3 (rSk) rfl h hP hD hS dX1_dangerByRule_65
        · have h := h.2 c_3
          refine lv_iload_n hx hb dX1_dangerByRule_23 rfl (lv_at hl 2 rfl) ?_
          refine lv_aload_n hx hb dX1_dangerByRule_24 rfl (lv_at hl 0 rfl) ?_
          refine lv_iload hx hb dX1_dangerByRule_25 (lv_at hl 3 rfl) ?_
          refine lv_iload hx hb dX1_dangerByRule_27 (lv_at hl 4 rfl) ?_
          have hPc := hP
          have hDc := hD
          have hFc := rc_freeI hD hS hA
          refine va_calli (va_runV (As := [.int x4, .int x5]) (rest := [.int x3]) ⟨hx, hb, hml, hown, hts⟩ (c_X1_dangerOf l E ro rk rh rd rt rl rs H.size rSz rTc rFa rPa rPy rMi rMe rSr rZ rKi rHe rDo rTx rLa rSk x4 x5 LT pk pv pa pn tc _ h) (cwV 2 hts gX1_dangerByRule_X1_dangerOf rfl rfl rfl (by decide +kernel) ⟨Nat.le_of_ble_eq_true rfl, Nat.le_of_ble_eq_true rfl⟩) ⟨fun a U g mk q => ⟨q.1, q.2.blind⟩, va_recv hK hPc (ci := 1) (q0 := 0) rfl rfl, fun U hU hW => ⟨rfl, by rw [hU], by rw [hU]; exact hPc, hE.call hS hFc hW hU, hDc.weaken (fun _ _ _ _ => trivial)⟩⟩ rfl rfl hl.1 rfl (lv_room (Nat.le_of_ble_eq_true rfl)) dX1_dangerByRule_29 ⟨Nat.zero_le _, Nat.zero_le _⟩) hS (fun q _ h => hFc q h) hFc (fun r_4 u t H1 locs ht hvm h hB hz1 hk1 hS => ?_)
          obtain ⟨w_5, rfl⟩ : ∃ z, z = u := ⟨_, rfl⟩
          obtain ⟨hP1, hD1⟩ := hB
          rw [ht] at hP1
          have hP := hP1
          have hD := hD1.weaken (fun _ _ _ h => hFc _ h)
          generalize H1 = H at hP hS ⊢
          have hP : va_P E.1 vwCl (rw_4 E ro rk rh rd rt rl rs rSz rTc rFa rPa rPy rMi rMe rSr rZ rKi rHe rDo rTx rLa w_5 ++ rc_tp E LT pk pv pa pn tc) H := hP
          have hD : va_D A (rw_4 E ro rk rh rd rt rl rs rSz rTc rFa rPa rPy rMi rMe rSr rZ rKi rHe rDo rTx rLa w_5 ++ rc_tp E LT pk pv pa pn tc) := hD
          refine lv_iadd hx hb dX1_dangerByRule_32 ?_
          refine lv_istore_n (lv' := [(3, .int (x3 + r_4)), (0, .ref ro), (2, .int p2), (4, .int x4), (5, .int x5)]) hx hb dX1_dangerByRule_33 rfl hl (by decide) rfl (fun ls hl => ?_)
          refine lv_aload_n hx hb dX1_dangerByRule_34 rfl (lv_at hl 1 rfl) ?_
          refine lv_iload hx hb dX1_dangerByRule_35 (lv_at hl 3 rfl) ?_
          refine lv_aload_n hx hb dX1_dangerByRule_37 rfl (lv_at hl 1 rfl) ?_
          refine lv_iload hx hb dX1_dangerByRule_38 (lv_at hl 3 rfl) ?_
          refine lv_iload hx hb dX1_dangerByRule_40 (lv_at hl 4 rfl) ?_
          have hPc := hP
          have hDc := hD
          have hFc := rc_freeI hD hS hA
          refine va_calli (va_runV (As := [.int x4, .int x5]) (rest := [.int x4, .ref ro]) ⟨hx, hb, hml, hown, hts⟩ (c_X1_ruleTurns l E ro rk rh rd rt rl rs H.size rSz rTc rFa rPa rPy rMi rMe rSr rZ rKi rHe rDo rTx rLa w_5 x4 x5 LT pk pv pa pn tc _ h) (cwV 2 hts gX1_dangerByRule_X1_ruleTurns rfl rfl rfl (by decide +kernel) ⟨Nat.le_of_ble_eq_true rfl, Nat.le_of_ble_eq_true rfl⟩) ⟨fun a U g mk q => ⟨q.1, q.2.blind⟩, va_recv hK hPc (ci := 1) (q0 := 0) rfl rfl, fun U hU hW => ⟨rfl, by rw [hU], by rw [hU]; exact hPc, hE.call hS hFc hW hU, hDc.weaken (fun _ _ _ _ => trivial)⟩⟩ rfl rfl hl.1 rfl (lv_room (Nat.le_of_ble_eq_true rfl)) dX1_dangerByRule_42 ⟨Nat.zero_le _, Nat.zero_le _⟩) hS (fun q _ h => hFc q h) hFc (fun r_6 u t H1 locs ht hvm h hB hz1 hk1 hS => ?_)
          obtain ⟨w_7, rfl⟩ : ∃ z, z = u := ⟨_, rfl⟩
          obtain ⟨hP1, hD1⟩ := hB
          rw [ht] at hP1
          have hP := hP1
          have hD := hD1.weaken (fun _ _ _ h => hFc _ h)
          generalize H1 = H at hP hS ⊢
          have hP : va_P E.1 vwCl (rw_4 E ro rk rh rd rt rl rs rSz rTc rFa rPa rPy rMi rMe rSr rZ rKi rHe rDo rTx rLa w_7 ++ rc_tp E LT pk pv pa pn tc) H := hP
          have hD : va_D A (rw_4 E ro rk rh rd rt rl rs rSz rTc rFa rPa rPy rMi rMe rSr rZ rKi rHe rDo rTx rLa w_7 ++ rc_tp E LT pk pv pa pn tc) := hD
          refine lv_if_eq (tgt := 52) hx hb dX1_dangerByRule_45 (by decide) (fun c_8 => ?_) (fun c_8 => ?_)
          · have h := h.1 c_8
            refine lv_iconst (v := 0) hx hb dX1_dangerByRule_52 (by decide) ?_
            have hPc := hP
            have hDc := hD
            have hFc := rc_freeI hD hS hA
            refine va_calli (va_runV (As := [.int x4, .int 0]) (rest := []) ⟨hx, hb, hml, hown, hts⟩ (c_X1_behindStep l E ro rk rh rd rt rl rs H.size rSz rTc rFa rPa rPy rMi rMe rSr rZ rKi rHe rDo rTx rLa w_7 x4 0 LT pk pv pa pn tc _ h) (cwV 2 hts gX1_dangerByRule_X1_behindStep rfl rfl rfl (by decide +kernel) ⟨Nat.le_of_ble_eq_true rfl, Nat.le_of_ble_eq_true rfl⟩) ⟨fun a U g mk q => ⟨q.1, q.2.blind⟩, va_recv hK hPc (ci := 1) (q0 := 0) rfl rfl, fun U hU hW => ⟨rfl, by rw [hU], by rw [hU]; exact hPc, hE.call hS hFc hW hU, hDc.weaken (fun _ _ _ _ => trivial)⟩⟩ rfl rfl hl.1 rfl (lv_room (Nat.le_of_ble_eq_true rfl)) dX1_dangerByRule_53 ⟨Nat.zero_le _, Nat.zero_le _⟩) hS (fun q _ h => hFc q h) hFc (fun r_9 u t H1 locs ht hvm h hB hz1 hk1 hS => ?_)
            obtain ⟨hP1, hD1⟩ := hB
            rw [ht] at hP1
            have hP := hP1
            have hD := hD1.weaken (fun _ _ _ h => hFc _ h)
            generalize H1 = H at hP hS ⊢
            have hP : va_P E.1 vwCl (rw_4 E ro rk rh rd rt rl rs rSz rTc rFa rPa rPy rMi rMe rSr rZ rKi rHe rDo rTx rLa w_7 ++ rc_tp E LT pk pv pa pn tc) H := hP
            have hD : va_D A (rw_4 E ro rk rh rd rt rl rs rSz rTc rFa rPa rPy rMi rMe rSr rZ rKi rHe rDo rTx rLa w_7 ++ rc_tp E LT pk pv pa pn tc) := hD
            refine lv_istore (lv' := [(4, .int r_9), (3, .int (x3 + r_4)), (0, .ref ro), (2, .int p2), (5, .int x5)]) hx hb dX1_dangerByRule_56 hl (by decide) rfl (fun ls hl => ?_)
            refine lv_iinc (v := x5 + 1) (lv' := [(5, .int (x5 + 1)), (4, .int r_9), (3, .int (x3 + r_4)), (0, .ref ro), (2, .int p2)]) hx hb dX1_dangerByRule_58 hl (k := 4) rfl (by rfl) (by decide) rfl (fun ls hl => ?_)
            refine lv_goto (tgt := 8) hx hb dX1_dangerByRule_61 (by decide) ?_
            exact ih (x3 + r_4) r_9 (x5 + 1) w_7 h _ _ hP hD hS ls (lv_sub hl [3, 4, 2, 1, 0] rfl)
          · have h := h.2 c_8
            refine lv_iconst (v := 1) hx hb dX1_dangerByRule_48 (by decide) ?_
            refine lv_goto (tgt := 53) hx hb dX1_dangerByRule_49 (by decide) ?_
            have hPc := hP
            have hDc := hD
            have hFc := rc_freeI hD hS hA
            refine va_calli (va_runV (As := [.int x4, .int 1]) (rest := []) ⟨hx, hb, hml, hown, hts⟩ (c_X1_behindStep l E ro rk rh rd rt rl rs H.size rSz rTc rFa rPa rPy rMi rMe rSr rZ rKi rHe rDo rTx rLa w_7 x4 1 LT pk pv pa pn tc _ h) (cwV 2 hts gX1_dangerByRule_X1_behindStep rfl rfl rfl (by decide +kernel) ⟨Nat.le_of_ble_eq_true rfl, Nat.le_of_ble_eq_true rfl⟩) ⟨fun a U g mk q => ⟨q.1, q.2.blind⟩, va_recv hK hPc (ci := 1) (q0 := 0) rfl rfl, fun U hU hW => ⟨rfl, by rw [hU], by rw [hU]; exact hPc, hE.call hS hFc hW hU, hDc.weaken (fun _ _ _ _ => trivial)⟩⟩ rfl rfl hl.1 rfl (lv_room (Nat.le_of_ble_eq_true rfl)) dX1_dangerByRule_53 ⟨Nat.zero_le _, Nat.zero_le _⟩) hS (fun q _ h => hFc q h) hFc (fun r_10 u t H1 locs ht hvm h hB hz1 hk1 hS => ?_)
            obtain ⟨hP1, hD1⟩ := hB
            rw [ht] at hP1
            have hP := hP1
            have hD := hD1.weaken (fun _ _ _ h => hFc _ h)
            generalize H1 = H at hP hS ⊢
            have hP : va_P E.1 vwCl (rw_4 E ro rk rh rd rt rl rs rSz rTc rFa rPa rPy rMi rMe rSr rZ rKi rHe rDo rTx rLa w_7 ++ rc_tp E LT pk pv pa pn tc) H := hP
            have hD : va_D A (rw_4 E ro rk rh rd rt rl rs rSz rTc rFa rPa rPy rMi rMe rSr rZ rKi rHe rDo rTx rLa w_7 ++ rc_tp E LT pk pv pa pn tc) := hD
            refine lv_istore (lv' := [(4, .int r_10), (3, .int (x3 + r_4)), (0, .ref ro), (2, .int p2), (5, .int x5)]) hx hb dX1_dangerByRule_56 hl (by decide) rfl (fun ls hl => ?_)
            refine lv_iinc (v := x5 + 1) (lv' := [(5, .int (x5 + 1)), (4, .int r_10), (3, .int (x3 + r_4)), (0, .ref ro), (2, .int p2)]) hx hb dX1_dangerByRule_58 hl (k := 4) rfl (by rfl) (by decide) rfl (fun ls hl => ?_)
            refine lv_goto (tgt := 8) hx hb dX1_dangerByRule_61 (by decide) ?_
            exact ih (x3 + r_4) r_10 (x5 + 1) w_7 h _ _ hP hD hS ls (lv_sub hl [3, 4, 2, 1, 0] rfl)
  unfold wp_X1_dangerByRule at h
  obtain ⟨H, hH⟩ : ∃ H, H = s.heap := ⟨_, rfl⟩
  obtain ⟨locs, hlocs⟩ : ∃ locs : List Loc, locs = [] := ⟨_, rfl⟩
  have hP : va_P E.1 vwCl (rw_4 E ro rk rh rd rt rl rs rSz rTc rFa rPa rPy rMi rMe rSr rZ rKi rHe rDo rTx rLa rSk ++ rc_tp E LT pk pv pa pn tc) H := by rw [hH]; exact hP
  have hS : va_S A s.heap H locs := by rw [hH, hlocs]; exact hS
  suffices hgo : W p l e ({ frames := 5, cells := 0, slots := 0, locals := 127 } : Room) s m args below meth c H locs 0 0 QQ (F0 m 0 ls []) from by rw [hH, hlocs] at hgo; exact hgo
  refine lv_iconst (v := 0) hx hb dX1_dangerByRule_0 (by decide) ?_
  refine lv_istore_n (lv' := [(3, .int 0), (0, .ref ro), (1, .int p1), (2, .int p2)]) hx hb dX1_dangerByRule_1 rfl hl (by decide) rfl (fun ls hl => ?_)
  refine lv_iload_n hx hb dX1_dangerByRule_2 rfl (lv_at hl 2 rfl) ?_
  refine lv_istore (lv' := [(4, .int p1), (3, .int 0), (0, .ref ro), (1, .int p1), (2, .int p2)]) hx hb dX1_dangerByRule_3 hl (by decide) rfl (fun ls hl => ?_)
  refine lv_iconst (v := 0) hx hb dX1_dangerByRule_5 (by decide) ?_
  refine lv_istore (lv' := [(5, .int 0), (4, .int p1), (3, .int 0), (0, .ref ro), (1, .int p1), (2, .int p2)]) hx hb dX1_dangerByRule_6 hl (by decide) rfl (fun ls hl => ?_)
  obtain ⟨n, h⟩ := h
  exact J8 n 0 p1 0 rSk h _ _ hP hD hS ls (lv_sub hl [3, 5, 2, 1, 0] rfl)
def jp_X1_takeHeights_49  (K4 : Int32 → Int32 → (Nat → Int32) → Prop)  (x2 : Int32) (x3 : Int32) (y0 : Int32) (rHe : Nat → Int32) : Prop :=
  (vp_in x3 24 ∧ ((y0 = (rHe x3.toNatClampNeg) → K4 x2 (x3 + 1) rHe) ∧ (¬ (y0 = (rHe x3.toNatClampNeg)) → (vp_in x3 24 ∧ K4 (x2 + 1) (x3 + 1) (upd rHe x3.toNatClampNeg y0)))))
def lp_X1_takeHeights_4F (rSz : Int32) (wSz : Int32) (wVl : Nat → Int32)  (Q : Int32 → (Nat → Int32) → Prop) (R : Int32 → Int32 → (Nat → Int32) → Prop) (x2 : Int32) (x3 : Int32) (rHe : Nat → Int32) : Prop :=
  ((rSz ≤ x3 → Q x2 rHe) ∧ (¬ (rSz ≤ x3) → ((wSz ≤ x3 → Q x2 rHe) ∧ (¬ (wSz ≤ x3) → wp_X2_isNumber x3 wVl (fun (r_6 : Int32) => ((r_6 = 0 → (vp_in x3 24 ∧ jp_X1_takeHeights_49 R x2 x3 (rHe x3.toNatClampNeg) rHe)) ∧ (¬ (r_6 = 0) → (vp_in x3 24 ∧ wp_X6_held (wVl x3.toNatClampNeg) 0 99 (fun (r_10 : Int32) => jp_X1_takeHeights_49 R x2 x3 r_10 rHe)))))))))
def lp_X1_takeHeights_4 (rSz : Int32) (wSz : Int32) (wVl : Nat → Int32)  (Q : Int32 → (Nat → Int32) → Prop) (n : Nat) : Int32 → Int32 → (Nat → Int32) → Prop :=
  Nat.rec (motive := fun _ => Int32 → Int32 → (Nat → Int32) → Prop) (fun _ _ _ => False) (fun _ r => lp_X1_takeHeights_4F rSz wSz wVl Q r) n
def wp_X1_takeHeights (rSz : Int32) (rHe : Nat → Int32) (wSz : Int32) (wVl : Nat → Int32) (Q : Int32 → (Nat → Int32) → Prop) : Prop :=
  (∃ n : Nat, lp_X1_takeHeights_4 rSz wSz wVl Q n 0 0 rHe)
set_option maxHeartbeats 4000000 in
set_option maxRecDepth 100000 in
theorem c_X1_takeHeights (l : Launch) (E : gE) (ro rk rh rd rt rl rs wo wv : Nat) (sz : Nat) (rSz : Int32) (rTc : Int32) (rFa : Int32) (rPa : Int32) (rPy : Int32) (rMi : Int32) (rMe : Int32) (rSr : Int32) (rZ : Int32) (rKi : Nat → Int32) (rHe : Nat → Int32) (rDo : Nat → Int32) (rTx : Nat → Option Nat) (rLa : Nat → Int32) (rSk : Nat → Int32) (wSo : Int32) (wSz : Int32) (wVl : Nat → Int32)  (LT : List Nat) (pk : Nat → Int32) (pv : Nat → Int32) (pa : Nat → Nat) (pn : Nat → Nat) (tc : Nat → Nat → Int32) (Q : Int32 → (Nat → Int32) → Prop) (h : wp_X1_takeHeights rSz rHe wSz wVl Q) : Met l yX1_takeHeights wsX1_takeHeights ({ frames := 2, cells := 0, slots := 0, locals := 62 } : Room) (va_Pc [.ref ro, .ref wo] (rc_B E (rw_5 E ro rk rh rd rt rl rs wo wv rSz rTc rFa rPa rPy rMi rMe rSr rZ rKi rHe rDo rTx rLa rSk wSo wSz wVl ++ rc_tp E LT pk pv pa pn tc) sz)) (va_Qi (S := (Nat → Int32)) (fun (r : Int32) (u : (Nat → Int32)) => Q r u) (fun u t => rc_C E (va_A (rw_5 E ro rk rh rd rt rl rs wo wv rSz rTc rFa rPa rPy rMi rMe rSr rZ rKi rHe rDo rTx rLa rSk wSo wSz wVl ++ rc_tp E LT pk pv pa pn tc) sz) (rw_5 E ro rk rh rd rt rl rs wo wv rSz rTc rFa rPa rPy rMi rMe rSr rZ rKi u rDo rTx rLa rSk wSo wSz wVl ++ rc_tp E LT pk pv pa pn tc) t) (va_A (rw_5 E ro rk rh rd rt rl rs wo wv rSz rTc rFa rPa rPy rMi rMe rSr rZ rKi rHe rDo rTx rLa rSk wSo wSz wVl ++ rc_tp E LT pk pv pa pn tc) sz)) 0 0 (va_A (rw_5 E ro rk rh rd rt rl rs wo wv rSz rTc rFa rPa rPy rMi rMe rSr rZ rKi rHe rDo rTx rLa rSk wSo wSz wVl ++ rc_tp E LT pk pv pa pn tc) sz) := by
  refine rc_enterI (cc := cX1_takeHeights) (maxL := 5) (by decide) rfl (Nat.le_of_ble_eq_true rfl) ?_
  intro p e s m args below meth c QQ A hx hb hml hown hts hmn hE hP hD hA hret ls hl
  have hown : s.vm.findClass RX1 = some m.cls := hown
  have hK := hE.1
  have hS : va_S A s.heap s.heap [] := va_S.rf
  have hl : lv_has ls 5 [(0, .ref ro), (1, .ref wo)] := hl
  have n_X1 : ∀ w ∈ wsX10, w ∈ wsX1_takeHeights := fun _ h => List.mem_cons_of_mem _ (List.mem_append_left _ (List.mem_append_right _ h))
  have n_X2 : ∀ w ∈ wsX20, w ∈ wsX1_takeHeights := fun _ h => List.mem_cons_of_mem _ (List.mem_append_right _ h)
  have k_15 := hts (.fieldLink RX1 15 "RidgeClaps$Ridge" "heights" "[I") (List.mem_of_getElem? (i := 4) rfl)
  have k_21 := hts (.fieldLink RX1 21 "RidgeClaps$Ridge" "size" "I") (List.mem_of_getElem? (i := 1) rfl)
  have k_117 := hts (.fieldLink RX1 117 "RidgeClaps$Row" "size" "I") (List.mem_of_getElem? (i := 2) rfl)
  have k_123 := hts (.fieldLink RX1 123 "RidgeClaps$Row" "values" "[I") (List.mem_of_getElem? (i := 3) rfl)
  have k_iX6 := hts (.initialized RX6) (List.mem_of_getElem? (i := 13) rfl)
  have k_sX6_held := hts (.static yX6_held) (List.mem_of_getElem? (i := 12) rfl)
  have J49 : ∀ (K4 : Int32 → Int32 → (Nat → Int32) → Prop), (∀ (x2 : Int32) (x3 : Int32) (rHe : Nat → Int32), K4 x2 x3 rHe → ∀ (H : Heap) (locs : List Loc), va_P E.1 vwCl (rw_5 E ro rk rh rd rt rl rs wo wv rSz rTc rFa rPa rPy rMi rMe rSr rZ rKi rHe rDo rTx rLa rSk wSo wSz wVl ++ rc_tp E LT pk pv pa pn tc) H → va_D A (rw_5 E ro rk rh rd rt rl rs wo wv rSz rTc rFa rPa rPy rMi rMe rSr rZ rKi rHe rDo rTx rLa rSk wSo wSz wVl ++ rc_tp E LT pk pv pa pn tc) → va_S A s.heap H locs → ∀ ls : Array Slot, lv_has ls 5 [(0, .ref ro), (1, .ref wo), (2, .int x2), (3, .int x3)] → W p l e ({ frames := 2, cells := 0, slots := 0, locals := 62 } : Room) s m args below meth c H locs 0 0 QQ (F0 m 4 ls [])) → ∀ (x2 : Int32) (x3 : Int32) (y0 : Int32) (rHe : Nat → Int32), jp_X1_takeHeights_49 K4 x2 x3 y0 rHe → ∀ (H : Heap) (locs : List Loc), va_P E.1 vwCl (rw_5 E ro rk rh rd rt rl rs wo wv rSz rTc rFa rPa rPy rMi rMe rSr rZ rKi rHe rDo rTx rLa rSk wSo wSz wVl ++ rc_tp E LT pk pv pa pn tc) H → va_D A (rw_5 E ro rk rh rd rt rl rs wo wv rSz rTc rFa rPa rPy rMi rMe rSr rZ rKi rHe rDo rTx rLa rSk wSo wSz wVl ++ rc_tp E LT pk pv pa pn tc) → va_S A s.heap H locs → ∀ ls : Array Slot, lv_has ls 5 [(0, .ref ro), (1, .ref wo), (2, .int x2), (3, .int x3)] → W p l e ({ frames := 2, cells := 0, slots := 0, locals := 62 } : Room) s m args below meth c H locs 0 0 QQ (F0 m 49 ls [.int y0]) := by
    intro K4 hK4
    intro x2 x3 y0 rHe h H locs hP hD hS ls hl
    unfold jp_X1_takeHeights_49 at h
    refine lv_istore (lv' := [(4, .int y0), (0, .ref ro), (1, .ref wo), (2, .int x2), (3, .int x3)]) hx hb dX1_takeHeights_49 hl (by decide) rfl (fun ls hl => ?_)
    refine lv_iload hx hb dX1_takeHeights_51 (lv_at hl 0 rfl) ?_
    refine lv_aload_n hx hb dX1_takeHeights_53 rfl (lv_at hl 1 rfl) ?_
    refine va_get (D := E.1) (ci := 1) (v := .ref rh) (C := RX1) (T := TX1) (N := 15) hx hb hts n_X1 hown hK hP 0 rfl rfl 1 (by decide) k_15 (fun _ h9 => h9) rfl dX1_takeHeights_54 ?_
    refine lv_iload_n hx hb dX1_takeHeights_57 rfl (lv_at hl 4 rfl) ?_
    obtain ⟨o_1, h⟩ := h
    refine rc_iald hx hb hK hP 2 0 rfl rfl x3.toNatClampNeg rfl o_1 dX1_takeHeights_58 ?_
    refine lv_icmp_eq (tgt := 73) hx hb dX1_takeHeights_59 (by decide) (fun c_2 => ?_) (fun c_2 => ?_)
    · have h := h.1 c_2
      refine lv_iinc (v := x3 + 1) (lv' := [(3, .int (x3 + 1)), (4, .int y0), (0, .ref ro), (1, .ref wo), (2, .int x2)]) hx hb dX1_takeHeights_73 hl (k := 4) rfl (by rfl) (by decide) rfl (fun ls hl => ?_)
      refine lv_goto (tgt := 4) hx hb dX1_takeHeights_76 (by decide) ?_
      exact hK4 x2 (x3 + 1) rHe h _ _ hP hD hS ls (lv_sub hl [2, 3, 4, 0] rfl)
    · have h := h.2 c_2
      refine lv_aload_n hx hb dX1_takeHeights_62 rfl (lv_at hl 1 rfl) ?_
      refine va_get (D := E.1) (ci := 1) (v := .ref rh) (C := RX1) (T := TX1) (N := 15) hx hb hts n_X1 hown hK hP 0 rfl rfl 1 (by decide) k_15 (fun _ h9 => h9) rfl dX1_takeHeights_63 ?_
      refine lv_iload_n hx hb dX1_takeHeights_66 rfl (lv_at hl 4 rfl) ?_
      refine lv_iload hx hb dX1_takeHeights_67 (lv_at hl 0 rfl) ?_
      obtain ⟨o_3, h⟩ := h
      refine rc_iast hx hb hK hP hD hS 2 0 rfl rfl x3.toNatClampNeg rfl o_3 dX1_takeHeights_69 (fun H locs hP hD hS => ?_)
      have hP : va_P E.1 vwCl (rw_5 E ro rk rh rd rt rl rs wo wv rSz rTc rFa rPa rPy rMi rMe rSr rZ rKi (upd rHe x3.toNatClampNeg y0) rDo rTx rLa rSk wSo wSz wVl ++ rc_tp E LT pk pv pa pn tc) H := hP
      have hD : va_D A (rw_5 E ro rk rh rd rt rl rs wo wv rSz rTc rFa rPa rPy rMi rMe rSr rZ rKi (upd rHe x3.toNatClampNeg y0) rDo rTx rLa rSk wSo wSz wVl ++ rc_tp E LT pk pv pa pn tc) := hD
      refine lv_iinc (v := x2 + 1) (lv' := [(2, .int (x2 + 1)), (4, .int y0), (0, .ref ro), (1, .ref wo), (3, .int x3)]) hx hb dX1_takeHeights_70 hl (k := 3) rfl (by rfl) (by decide) rfl (fun ls hl => ?_)
      refine lv_iinc (v := x3 + 1) (lv' := [(3, .int (x3 + 1)), (2, .int (x2 + 1)), (4, .int y0), (0, .ref ro), (1, .ref wo)]) hx hb dX1_takeHeights_73 hl (k := 4) rfl (by rfl) (by decide) rfl (fun ls hl => ?_)
      refine lv_goto (tgt := 4) hx hb dX1_takeHeights_76 (by decide) ?_
      exact hK4 (x2 + 1) (x3 + 1) (upd rHe x3.toNatClampNeg y0) h _ _ hP hD hS ls (lv_sub hl [3, 4, 1, 0] rfl)
  have J4 : ∀ (n : Nat) (x2 : Int32) (x3 : Int32) (rHe : Nat → Int32), lp_X1_takeHeights_4 rSz wSz wVl Q n x2 x3 rHe → ∀ (H : Heap) (locs : List Loc), va_P E.1 vwCl (rw_5 E ro rk rh rd rt rl rs wo wv rSz rTc rFa rPa rPy rMi rMe rSr rZ rKi rHe rDo rTx rLa rSk wSo wSz wVl ++ rc_tp E LT pk pv pa pn tc) H → va_D A (rw_5 E ro rk rh rd rt rl rs wo wv rSz rTc rFa rPa rPy rMi rMe rSr rZ rKi rHe rDo rTx rLa rSk wSo wSz wVl ++ rc_tp E LT pk pv pa pn tc) → va_S A s.heap H locs → ∀ ls : Array Slot, lv_has ls 5 [(0, .ref ro), (1, .ref wo), (2, .int x2), (3, .int x3)] → W p l e ({ frames := 2, cells := 0, slots := 0, locals := 62 } : Room) s m args below meth c H locs 0 0 QQ (F0 m 4 ls []) := by
    intro n
    induction n with
    | zero =>
      intro x2 x3 rHe h
      exact False.elim h
    | succ n ih =>
      intro x2 x3 rHe h H locs hP hD hS ls hl
      have h : lp_X1_takeHeights_4F rSz wSz wVl Q (lp_X1_takeHeights_4 rSz wSz wVl Q n) x2 x3 rHe := h
      unfold lp_X1_takeHeights_4F at h
      refine lv_iload_n hx hb dX1_takeHeights_4 rfl (lv_at hl 3 rfl) ?_
      refine lv_aload_n hx hb dX1_takeHeights_5 rfl (lv_at hl 0 rfl) ?_
      refine va_get (D := E.1) (ci := 1) (v := .int rSz) (C := RX1) (T := TX1) (N := 15) hx hb hts n_X1 hown hK hP 0 rfl rfl 3 (by decide) k_21 (fun _ h9 => h9) rfl dX1_takeHeights_6 ?_
      refine lv_icmp_ge (tgt := 79) hx hb dX1_takeHeights_9 (by decide) (fun c_4 => ?_) (fun c_4 => ?_)
      · have h := h.1 c_4
        refine lv_iload_n hx hb dX1_takeHeights_79 rfl (lv_at hl 2 rfl) ?_
        exact hret _ _ _ _ x2 (rHe) rfl h hP hD hS dX1_takeHeights_80
      · have h := h.2 c_4
        refine lv_iload_n hx hb dX1_takeHeights_12 rfl (lv_at hl 3 rfl) ?_
        refine lv_aload_n hx hb dX1_takeHeights_13 rfl (lv_at hl 1 rfl) ?_
        refine va_get (D := E.1) (ci := 2) (v := .int wSz) (C := RX2) (T := TX2) (N := 3) hx hb hts n_X2 hown hK hP 7 rfl rfl 1 (by decide) k_117 (fun _ h9 => h9) rfl dX1_takeHeights_14 ?_
        refine lv_icmp_ge (tgt := 79) hx hb dX1_takeHeights_17 (by decide) (fun c_5 => ?_) (fun c_5 => ?_)
        · have h := h.1 c_5
          refine lv_iload_n hx hb dX1_takeHeights_79 rfl (lv_at hl 2 rfl) ?_
          exact hret _ _ _ _ x2 (rHe) rfl h hP hD hS dX1_takeHeights_80
        · have h := h.2 c_5
          refine lv_aload_n hx hb dX1_takeHeights_20 rfl (lv_at hl 1 rfl) ?_
          refine lv_iload_n hx hb dX1_takeHeights_21 rfl (lv_at hl 3 rfl) ?_
          have hPc := hP.sub (ws' := (rw_1 E wo wv wSo wSz wVl)) [7, 8] rfl
          have hDc := hD.sub (ws' := (rw_1 E wo wv wSo wSz wVl)) [7, 8] (by decide) rfl
          have hFc := va_free (wc := (rw_1 E wo wv wSo wSz wVl)) hD hS hA [7, 8] rfl
          refine va_calli (va_runV (As := [.int x3]) (rest := []) ⟨hx, hb, hml, hown, hts⟩ (c_X2_isNumber l E wo wv H.size wSo wSz wVl x3 _ h) (cwV 1 hts gX1_takeHeights_X2_isNumber rfl rfl rfl (by decide +kernel) ⟨Nat.le_of_ble_eq_true rfl, Nat.le_of_ble_eq_true rfl⟩) ⟨fun a U g mk q => ⟨q.1, q.2.blind⟩, va_recv hK hPc (ci := 2) (q0 := 0) rfl rfl, fun U hU hW => ⟨rfl, by rw [hU], by rw [hU]; exact hPc, hE.call hS hFc hW hU, hDc.weaken (fun _ _ _ _ => trivial)⟩⟩ rfl rfl hl.1 rfl (lv_room (Nat.le_of_ble_eq_true rfl)) dX1_takeHeights_22 ⟨Nat.zero_le _, Nat.zero_le _⟩) hS (fun q _ h => hFc q h) hFc (fun r_6 u t H1 locs ht hvm h hB hz1 hk1 hS => ?_)
          obtain ⟨hP1, hD1⟩ := hB
          rw [ht] at hP1
          obtain ⟨hP, hD⟩ := rc_foc hP hD [7, 8] [none, none, none, none, none, none, none, some 0, some 1] (by decide) rfl hk1 hP1 rfl
          generalize H1 = H at hP hS ⊢
          have hP : va_P E.1 vwCl (rw_5 E ro rk rh rd rt rl rs wo wv rSz rTc rFa rPa rPy rMi rMe rSr rZ rKi rHe rDo rTx rLa rSk wSo wSz wVl ++ rc_tp E LT pk pv pa pn tc) H := hP
          have hD : va_D A (rw_5 E ro rk rh rd rt rl rs wo wv rSz rTc rFa rPa rPy rMi rMe rSr rZ rKi rHe rDo rTx rLa rSk wSo wSz wVl ++ rc_tp E LT pk pv pa pn tc) := hD
          refine lv_if_eq (tgt := 43) hx hb dX1_takeHeights_25 (by decide) (fun c_7 => ?_) (fun c_7 => ?_)
          · have h := h.1 c_7
            refine lv_aload_n hx hb dX1_takeHeights_43 rfl (lv_at hl 0 rfl) ?_
            refine va_get (D := E.1) (ci := 1) (v := .ref rh) (C := RX1) (T := TX1) (N := 15) hx hb hts n_X1 hown hK hP 0 rfl rfl 1 (by decide) k_15 (fun _ h9 => h9) rfl dX1_takeHeights_44 ?_
            refine lv_iload_n hx hb dX1_takeHeights_47 rfl (lv_at hl 3 rfl) ?_
            obtain ⟨o_8, h⟩ := h
            refine rc_iald hx hb hK hP 2 0 rfl rfl x3.toNatClampNeg rfl o_8 dX1_takeHeights_48 ?_
            exact J49 _ (fun v0 v1 v2 h => ih v0 v1 v2 h) x2 x3 (rHe x3.toNatClampNeg) rHe h _ _ hP hD hS ls (lv_sub hl [0, 1, 2, 3] rfl)
          · have h := h.2 c_7
            refine lv_aload_n hx hb dX1_takeHeights_28 rfl (lv_at hl 1 rfl) ?_
            refine va_get (D := E.1) (ci := 2) (v := .ref wv) (C := RX2) (T := TX2) (N := 3) hx hb hts n_X2 hown hK hP 7 rfl rfl 2 (by decide) k_123 (fun _ h9 => h9) rfl dX1_takeHeights_29 ?_
            refine lv_iload_n hx hb dX1_takeHeights_32 rfl (lv_at hl 3 rfl) ?_
            obtain ⟨o_9, h⟩ := h
            refine rc_iald hx hb hK hP 8 0 rfl rfl x3.toNatClampNeg rfl o_9 dX1_takeHeights_33 ?_
            refine lv_iconst (v := 0) hx hb dX1_takeHeights_34 (by decide) ?_
            refine lv_bipush (v := 99) hx hb dX1_takeHeights_35 (by decide) ?_
            have hPc := hP.sub (ws' := []) [] rfl
            have hDc := hD.sub (ws' := []) [] (by decide) rfl
            have hFc := va_free (wc := []) hD hS hA [] rfl
            refine va_calli (va_runSN (As := [.int (wVl x3.toNatClampNeg), .int 0, .int 99]) (rest := []) ⟨hx, hb, hml, hown, hts⟩ (c_X6_held l E H.size (wVl x3.toNatClampNeg) 0 99 _ h) ⟨va_cnB 3 hts gX1_takeHeights_X6_held_n78 rfl rfl rfl (hE.2.1 6 _ rfl) k_iX6 (by decide +kernel) ⟨Nat.le_of_ble_eq_true rfl, Nat.le_of_ble_eq_true rfl⟩, k_sX6_held, trivial⟩ ⟨fun a U g mk q => ⟨q.1, q.2.blind⟩, fun U hU hW => ⟨rfl, by rw [hU], by rw [hU]; exact hPc, hE.call hS hFc hW hU, hDc.weaken (fun _ _ _ _ => trivial)⟩⟩ rfl rfl hl.1 rfl (lv_room (Nat.le_of_ble_eq_true rfl)) dX1_takeHeights_37 ⟨Nat.zero_le _, Nat.zero_le _⟩) hS (fun q _ h => hFc q h) hFc (fun r_10 u t H1 locs ht hvm h hB hz1 hk1 hS => ?_)
            obtain ⟨hP1, hD1⟩ := hB
            rw [ht] at hP1
            obtain ⟨hP, hD⟩ := rc_foc hP hD [] [none, none, none, none, none, none, none, none, none] (by decide) rfl hk1 hP1 rfl
            generalize H1 = H at hP hS ⊢
            have hP : va_P E.1 vwCl (rw_5 E ro rk rh rd rt rl rs wo wv rSz rTc rFa rPa rPy rMi rMe rSr rZ rKi rHe rDo rTx rLa rSk wSo wSz wVl ++ rc_tp E LT pk pv pa pn tc) H := hP
            have hD : va_D A (rw_5 E ro rk rh rd rt rl rs wo wv rSz rTc rFa rPa rPy rMi rMe rSr rZ rKi rHe rDo rTx rLa rSk wSo wSz wVl ++ rc_tp E LT pk pv pa pn tc) := hD
            refine lv_goto (tgt := 49) hx hb dX1_takeHeights_40 (by decide) ?_
            exact J49 _ (fun v0 v1 v2 h => ih v0 v1 v2 h) x2 x3 r_10 rHe h _ _ hP hD hS ls (lv_sub hl [0, 1, 2, 3] rfl)
  unfold wp_X1_takeHeights at h
  obtain ⟨H, hH⟩ : ∃ H, H = s.heap := ⟨_, rfl⟩
  obtain ⟨locs, hlocs⟩ : ∃ locs : List Loc, locs = [] := ⟨_, rfl⟩
  have hP : va_P E.1 vwCl (rw_5 E ro rk rh rd rt rl rs wo wv rSz rTc rFa rPa rPy rMi rMe rSr rZ rKi rHe rDo rTx rLa rSk wSo wSz wVl ++ rc_tp E LT pk pv pa pn tc) H := by rw [hH]; exact hP
  have hS : va_S A s.heap H locs := by rw [hH, hlocs]; exact hS
  suffices hgo : W p l e ({ frames := 2, cells := 0, slots := 0, locals := 62 } : Room) s m args below meth c H locs 0 0 QQ (F0 m 0 ls []) from by rw [hH, hlocs] at hgo; exact hgo
  refine lv_iconst (v := 0) hx hb dX1_takeHeights_0 (by decide) ?_
  refine lv_istore_n (lv' := [(2, .int 0), (0, .ref ro), (1, .ref wo)]) hx hb dX1_takeHeights_1 rfl hl (by decide) rfl (fun ls hl => ?_)
  refine lv_iconst (v := 0) hx hb dX1_takeHeights_2 (by decide) ?_
  refine lv_istore_n (lv' := [(3, .int 0), (2, .int 0), (0, .ref ro), (1, .ref wo)]) hx hb dX1_takeHeights_3 rfl hl (by decide) rfl (fun ls hl => ?_)
  obtain ⟨n, h⟩ := h
  exact J4 n 0 0 rHe h _ _ hP hD hS ls (lv_sub hl [2, 3, 1, 0] rfl)
def lp_X1_firstNotRisk_2F (rSz : Int32) (rKi : Nat → Int32) (rHe : Nat → Int32) (rTx : Nat → Option Nat) (rLa : Nat → Int32) (wSz : Int32) (wVl : Nat → Int32) (LT : List Nat) (pn : Nat → Nat) (tc : Nat → Nat → Int32)  (Q : Int32 → (Nat → Int32) → Prop) (R : Int32 → (Nat → Int32) → Prop) (x2 : Int32) (rSk : Nat → Int32) : Prop :=
  ((wSz ≤ x2 → Q (-1000000005) rSk) ∧ (¬ (wSz ≤ x2) → wp_X2_isNumber x2 wVl (fun (r_2 : Int32) => ((r_2 = 0 → R (x2 + 1) rSk) ∧ (¬ (r_2 = 0) → wp_X1_has x2 rSz (fun (r_4 : Int32) => ((r_4 = 0 → Q x2 rSk) ∧ (¬ (r_4 = 0) → (vp_in x2 24 ∧ wp_X1_riskOf x2 rKi rHe rTx rLa rSk LT pn tc (fun (r_7 : Int32) (w_8 : Nat → Int32) => (((wVl x2.toNatClampNeg) = r_7 → R (x2 + 1) w_8) ∧ (¬ ((wVl x2.toNatClampNeg) = r_7) → Q x2 w_8))))))))))))
def lp_X1_firstNotRisk_2 (rSz : Int32) (rKi : Nat → Int32) (rHe : Nat → Int32) (rTx : Nat → Option Nat) (rLa : Nat → Int32) (wSz : Int32) (wVl : Nat → Int32) (LT : List Nat) (pn : Nat → Nat) (tc : Nat → Nat → Int32)  (Q : Int32 → (Nat → Int32) → Prop) (n : Nat) : Int32 → (Nat → Int32) → Prop :=
  Nat.rec (motive := fun _ => Int32 → (Nat → Int32) → Prop) (fun _ _ => False) (fun _ r => lp_X1_firstNotRisk_2F rSz rKi rHe rTx rLa wSz wVl LT pn tc Q r) n
def wp_X1_firstNotRisk (rSz : Int32) (rKi : Nat → Int32) (rHe : Nat → Int32) (rTx : Nat → Option Nat) (rLa : Nat → Int32) (rSk : Nat → Int32) (wSz : Int32) (wVl : Nat → Int32) (LT : List Nat) (pn : Nat → Nat) (tc : Nat → Nat → Int32) (Q : Int32 → (Nat → Int32) → Prop) : Prop :=
  (∃ n : Nat, lp_X1_firstNotRisk_2 rSz rKi rHe rTx rLa wSz wVl LT pn tc Q n 0 rSk)
set_option maxHeartbeats 4000000 in
set_option maxRecDepth 100000 in
theorem c_X1_firstNotRisk (l : Launch) (E : gE) (ro rk rh rd rt rl rs wo wv : Nat) (sz : Nat) (rSz : Int32) (rTc : Int32) (rFa : Int32) (rPa : Int32) (rPy : Int32) (rMi : Int32) (rMe : Int32) (rSr : Int32) (rZ : Int32) (rKi : Nat → Int32) (rHe : Nat → Int32) (rDo : Nat → Int32) (rTx : Nat → Option Nat) (rLa : Nat → Int32) (rSk : Nat → Int32) (wSo : Int32) (wSz : Int32) (wVl : Nat → Int32)  (LT : List Nat) (pk : Nat → Int32) (pv : Nat → Int32) (pa : Nat → Nat) (pn : Nat → Nat) (tc : Nat → Nat → Int32) (Q : Int32 → (Nat → Int32) → Prop) (h : wp_X1_firstNotRisk rSz rKi rHe rTx rLa rSk wSz wVl LT pn tc Q) : Met l yX1_firstNotRisk wsX1_firstNotRisk ({ frames := 4, cells := 0, slots := 0, locals := 99 } : Room) (va_Pc [.ref ro, .ref wo] (rc_B E (rw_5 E ro rk rh rd rt rl rs wo wv rSz rTc rFa rPa rPy rMi rMe rSr rZ rKi rHe rDo rTx rLa rSk wSo wSz wVl ++ rc_tp E LT pk pv pa pn tc) sz)) (va_Qi (S := (Nat → Int32)) (fun (r : Int32) (u : (Nat → Int32)) => Q r u) (fun u t => rc_C E (va_A (rw_5 E ro rk rh rd rt rl rs wo wv rSz rTc rFa rPa rPy rMi rMe rSr rZ rKi rHe rDo rTx rLa rSk wSo wSz wVl ++ rc_tp E LT pk pv pa pn tc) sz) (rw_5 E ro rk rh rd rt rl rs wo wv rSz rTc rFa rPa rPy rMi rMe rSr rZ rKi rHe rDo rTx rLa u wSo wSz wVl ++ rc_tp E LT pk pv pa pn tc) t) (va_A (rw_5 E ro rk rh rd rt rl rs wo wv rSz rTc rFa rPa rPy rMi rMe rSr rZ rKi rHe rDo rTx rLa rSk wSo wSz wVl ++ rc_tp E LT pk pv pa pn tc) sz)) 0 0 (va_A (rw_5 E ro rk rh rd rt rl rs wo wv rSz rTc rFa rPa rPy rMi rMe rSr rZ rKi rHe rDo rTx rLa rSk wSo wSz wVl ++ rc_tp E LT pk pv pa pn tc) sz) := by
  refine rc_enterI (cc := cX1_firstNotRisk) (maxL := 3) (by decide) rfl (Nat.le_of_ble_eq_true rfl) ?_
  intro p e s m args below meth c QQ A hx hb hml hown hts hmn hE hP hD hA hret ls hl
  have hown : s.vm.findClass RX1 = some m.cls := hown
  have hK := hE.1
  have hS : va_S A s.heap s.heap [] := va_S.rf
  have hl : lv_has ls 3 [(0, .ref ro), (1, .ref wo)] := hl
  have n_X2 : ∀ w ∈ wsX20, w ∈ wsX1_firstNotRisk := fun _ h => List.mem_cons_of_mem _ (List.mem_append_left _ (List.mem_append_left _ (List.mem_append_right _ h)))
  have k_117 := hts (.fieldLink RX1 117 "RidgeClaps$Row" "size" "I") (List.mem_of_getElem? (i := 1) rfl)
  have k_34 := hts (.constant RX1 34 (-1000000005)) (List.mem_of_getElem? (i := 3) rfl)
  have k_123 := hts (.fieldLink RX1 123 "RidgeClaps$Row" "values" "[I") (List.mem_of_getElem? (i := 2) rfl)
  have J2 : ∀ (n : Nat) (x2 : Int32) (rSk : Nat → Int32), lp_X1_firstNotRisk_2 rSz rKi rHe rTx rLa wSz wVl LT pn tc Q n x2 rSk → ∀ (H : Heap) (locs : List Loc), va_P E.1 vwCl (rw_5 E ro rk rh rd rt rl rs wo wv rSz rTc rFa rPa rPy rMi rMe rSr rZ rKi rHe rDo rTx rLa rSk wSo wSz wVl ++ rc_tp E LT pk pv pa pn tc) H → va_D A (rw_5 E ro rk rh rd rt rl rs wo wv rSz rTc rFa rPa rPy rMi rMe rSr rZ rKi rHe rDo rTx rLa rSk wSo wSz wVl ++ rc_tp E LT pk pv pa pn tc) → va_S A s.heap H locs → ∀ ls : Array Slot, lv_has ls 3 [(0, .ref ro), (1, .ref wo), (2, .int x2)] → W p l e ({ frames := 4, cells := 0, slots := 0, locals := 99 } : Room) s m args below meth c H locs 0 0 QQ (F0 m 2 ls []) := by
    intro n
    induction n with
    | zero =>
      intro x2 rSk h
      exact False.elim h
    | succ n ih =>
      intro x2 rSk h H locs hP hD hS ls hl
      have h : lp_X1_firstNotRisk_2F rSz rKi rHe rTx rLa wSz wVl LT pn tc Q (lp_X1_firstNotRisk_2 rSz rKi rHe rTx rLa wSz wVl LT pn tc Q n) x2 rSk := h
      unfold lp_X1_firstNotRisk_2F at h
      refine lv_iload_n hx hb dX1_firstNotRisk_2 rfl (lv_at hl 2 rfl) ?_
      refine lv_aload_n hx hb dX1_firstNotRisk_3 rfl (lv_at hl 1 rfl) ?_
      refine va_get (D := E.1) (ci := 2) (v := .int wSz) (C := RX2) (T := TX2) (N := 3) hx hb hts n_X2 hown hK hP 7 rfl rfl 1 (by decide) k_117 (fun _ h9 => h9) rfl dX1_firstNotRisk_4 ?_
      refine lv_icmp_ge (tgt := 48) hx hb dX1_firstNotRisk_7 (by decide) (fun c_1 => ?_) (fun c_1 => ?_)
      · have h := h.1 c_1
        refine lv_ldc hx hb hown k_34 dX1_firstNotRisk_48 ?_
        exact hret _ _ _ _ (-1000000005) (rSk) rfl h hP hD hS dX1_firstNotRisk_50
      · have h := h.2 c_1
        refine lv_aload_n hx hb dX1_firstNotRisk_10 rfl (lv_at hl 1 rfl) ?_
        refine lv_iload_n hx hb dX1_firstNotRisk_11 rfl (lv_at hl 2 rfl) ?_
        have hPc := hP.sub (ws' := (rw_1 E wo wv wSo wSz wVl)) [7, 8] rfl
        have hDc := hD.sub (ws' := (rw_1 E wo wv wSo wSz wVl)) [7, 8] (by decide) rfl
        have hFc := va_free (wc := (rw_1 E wo wv wSo wSz wVl)) hD hS hA [7, 8] rfl
        refine va_calli (va_runV (As := [.int x2]) (rest := []) ⟨hx, hb, hml, hown, hts⟩ (c_X2_isNumber l E wo wv H.size wSo wSz wVl x2 _ h) (cwV 1 hts gX1_firstNotRisk_X2_isNumber rfl rfl rfl (by decide +kernel) ⟨Nat.le_of_ble_eq_true rfl, Nat.le_of_ble_eq_true rfl⟩) ⟨fun a U g mk q => ⟨q.1, q.2.blind⟩, va_recv hK hPc (ci := 2) (q0 := 0) rfl rfl, fun U hU hW => ⟨rfl, by rw [hU], by rw [hU]; exact hPc, hE.call hS hFc hW hU, hDc.weaken (fun _ _ _ _ => trivial)⟩⟩ rfl rfl hl.1 rfl (lv_room (Nat.le_of_ble_eq_true rfl)) dX1_firstNotRisk_12 ⟨Nat.zero_le _, Nat.zero_le _⟩) hS (fun q _ h => hFc q h) hFc (fun r_2 u t H1 locs ht hvm h hB hz1 hk1 hS => ?_)
        obtain ⟨hP1, hD1⟩ := hB
        rw [ht] at hP1
        obtain ⟨hP, hD⟩ := rc_foc hP hD [7, 8] [none, none, none, none, none, none, none, some 0, some 1] (by decide) rfl hk1 hP1 rfl
        generalize H1 = H at hP hS ⊢
        have hP : va_P E.1 vwCl (rw_5 E ro rk rh rd rt rl rs wo wv rSz rTc rFa rPa rPy rMi rMe rSr rZ rKi rHe rDo rTx rLa rSk wSo wSz wVl ++ rc_tp E LT pk pv pa pn tc) H := hP
        have hD : va_D A (rw_5 E ro rk rh rd rt rl rs wo wv rSz rTc rFa rPa rPy rMi rMe rSr rZ rKi rHe rDo rTx rLa rSk wSo wSz wVl ++ rc_tp E LT pk pv pa pn tc) := hD
        refine lv_if_eq (tgt := 42) hx hb dX1_firstNotRisk_15 (by decide) (fun c_3 => ?_) (fun c_3 => ?_)
        · have h := h.1 c_3
          refine lv_iinc (v := x2 + 1) (lv' := [(2, .int (x2 + 1)), (0, .ref ro), (1, .ref wo)]) hx hb dX1_firstNotRisk_42 hl (k := 2) rfl (by rfl) (by decide) rfl (fun ls hl => ?_)
          refine lv_goto (tgt := 2) hx hb dX1_firstNotRisk_45 (by decide) ?_
          exact ih (x2 + 1) rSk h _ _ hP hD hS ls (lv_sub hl [1, 2, 0] rfl)
        · have h := h.2 c_3
          refine lv_aload_n hx hb dX1_firstNotRisk_18 rfl (lv_at hl 0 rfl) ?_
          refine lv_iload_n hx hb dX1_firstNotRisk_19 rfl (lv_at hl 2 rfl) ?_
          have hPc := hP.part (cx := (rw_4 E ro rk rh rd rt rl rs rSz rTc rFa rPa rPy rMi rMe rSr rZ rKi rHe rDo rTx rLa rSk)) [0, 1, 2, 3, 4, 5, 6] rfl
          have hDc := hD.part (cx := (rw_4 E ro rk rh rd rt rl rs rSz rTc rFa rPa rPy rMi rMe rSr rZ rKi rHe rDo rTx rLa rSk)) [0, 1, 2, 3, 4, 5, 6] (by decide) rfl
          have hFc := va_freeP (cx := (rw_4 E ro rk rh rd rt rl rs rSz rTc rFa rPa rPy rMi rMe rSr rZ rKi rHe rDo rTx rLa rSk)) hD hS hA [0, 1, 2, 3, 4, 5, 6] rfl
          refine va_calli (va_runV (As := [.int x2]) (rest := []) ⟨hx, hb, hml, hown, hts⟩ (c_X1_has l E ro rk rh rd rt rl rs H.size rSz rTc rFa rPa rPy rMi rMe rSr rZ rKi rHe rDo rTx rLa rSk x2 LT pk pv pa pn tc _ h) (cwV 1 hts gX1_firstNotRisk_X1_has rfl rfl rfl (by decide +kernel) ⟨Nat.le_of_ble_eq_true rfl, Nat.le_of_ble_eq_true rfl⟩) ⟨fun a U g mk q => ⟨q.1, q.2.blind⟩, va_recv hK hPc (ci := 1) (q0 := 0) rfl rfl, fun U hU hW => ⟨rfl, by rw [hU], by rw [hU]; exact hPc, hE.call hS hFc hW hU, hDc.weaken (fun _ _ _ _ => trivial)⟩⟩ rfl rfl hl.1 rfl (lv_room (Nat.le_of_ble_eq_true rfl)) dX1_firstNotRisk_20 ⟨Nat.zero_le _, Nat.zero_le _⟩) hS (fun q _ h => hFc q h) hFc (fun r_4 u t H1 locs ht hvm h hB hz1 hk1 hS => ?_)
          obtain ⟨hP1, hD1⟩ := hB
          rw [ht] at hP1
          obtain ⟨hP, hD⟩ := rc_focP hP hD [0, 1, 2, 3, 4, 5, 6] [some 0, some 1, some 2, some 3, some 4, some 5, some 6, none, none] (by decide) rfl rfl hk1 hP1 rfl
          generalize H1 = H at hP hS ⊢
          have hP : va_P E.1 vwCl (rw_5 E ro rk rh rd rt rl rs wo wv rSz rTc rFa rPa rPy rMi rMe rSr rZ rKi rHe rDo rTx rLa rSk wSo wSz wVl ++ rc_tp E LT pk pv pa pn tc) H := hP
          have hD : va_D A (rw_5 E ro rk rh rd rt rl rs wo wv rSz rTc rFa rPa rPy rMi rMe rSr rZ rKi rHe rDo rTx rLa rSk wSo wSz wVl ++ rc_tp E LT pk pv pa pn tc) := hD
          refine lv_if_eq (tgt := 40) hx hb dX1_firstNotRisk_23 (by decide) (fun c_5 => ?_) (fun c_5 => ?_)
          · have h := h.1 c_5
            refine lv_iload_n hx hb dX1_firstNotRisk_40 rfl (lv_at hl 2 rfl) ?_
            exact hret _ _ _ _ x2 (rSk) rfl h hP hD hS dX1_firstNotRisk_41
          · have h := h.2 c_5
            refine lv_aload_n hx hb dX1_firstNotRisk_26 rfl (lv_at hl 1 rfl) ?_
            refine va_get (D := E.1) (ci := 2) (v := .ref wv) (C := RX2) (T := TX2) (N := 3) hx hb hts n_X2 hown hK hP 7 rfl rfl 2 (by decide) k_123 (fun _ h9 => h9) rfl dX1_firstNotRisk_27 ?_
            refine lv_iload_n hx hb dX1_firstNotRisk_30 rfl (lv_at hl 2 rfl) ?_
            obtain ⟨o_6, h⟩ := h
            refine rc_iald hx hb hK hP 8 0 rfl rfl x2.toNatClampNeg rfl o_6 dX1_firstNotRisk_31 ?_
            refine lv_aload_n hx hb dX1_firstNotRisk_32 rfl (lv_at hl 0 rfl) ?_
            refine lv_iload_n hx hb dX1_firstNotRisk_33 rfl (lv_at hl 2 rfl) ?_
            have hPc := hP.part (cx := (rw_4 E ro rk rh rd rt rl rs rSz rTc rFa rPa rPy rMi rMe rSr rZ rKi rHe rDo rTx rLa rSk)) [0, 1, 2, 3, 4, 5, 6] rfl
            have hDc := hD.part (cx := (rw_4 E ro rk rh rd rt rl rs rSz rTc rFa rPa rPy rMi rMe rSr rZ rKi rHe rDo rTx rLa rSk)) [0, 1, 2, 3, 4, 5, 6] (by decide) rfl
            have hFc := va_freeP (cx := (rw_4 E ro rk rh rd rt rl rs rSz rTc rFa rPa rPy rMi rMe rSr rZ rKi rHe rDo rTx rLa rSk)) hD hS hA [0, 1, 2, 3, 4, 5, 6] rfl
            refine va_calli (va_runV (As := [.int x2]) (rest := [.int (wVl x2.toNatClampNeg)]) ⟨hx, hb, hml, hown, hts⟩ (c_X1_riskOf l E ro rk rh rd rt rl rs H.size rSz rTc rFa rPa rPy rMi rMe rSr rZ rKi rHe rDo rTx rLa rSk x2 LT pk pv pa pn tc _ h) (cwV 1 hts gX1_firstNotRisk_X1_riskOf rfl rfl rfl (by decide +kernel) ⟨Nat.le_of_ble_eq_true rfl, Nat.le_of_ble_eq_true rfl⟩) ⟨fun a U g mk q => ⟨q.1, q.2.blind⟩, va_recv hK hPc (ci := 1) (q0 := 0) rfl rfl, fun U hU hW => ⟨rfl, by rw [hU], by rw [hU]; exact hPc, hE.call hS hFc hW hU, hDc.weaken (fun _ _ _ _ => trivial)⟩⟩ rfl rfl hl.1 rfl (lv_room (Nat.le_of_ble_eq_true rfl)) dX1_firstNotRisk_34 ⟨Nat.zero_le _, Nat.zero_le _⟩) hS (fun q _ h => hFc q h) hFc (fun r_7 u t H1 locs ht hvm h hB hz1 hk1 hS => ?_)
            obtain ⟨w_8, rfl⟩ : ∃ z, z = u := ⟨_, rfl⟩
            obtain ⟨hP1, hD1⟩ := hB
            rw [ht] at hP1
            obtain ⟨hP, hD⟩ := rc_focP hP hD [0, 1, 2, 3, 4, 5, 6] [some 0, some 1, some 2, some 3, some 4, some 5, some 6, none, none] (by decide) rfl rfl hk1 hP1 rfl
            generalize H1 = H at hP hS ⊢
            have hP : va_P E.1 vwCl (rw_5 E ro rk rh rd rt rl rs wo wv rSz rTc rFa rPa rPy rMi rMe rSr rZ rKi rHe rDo rTx rLa w_8 wSo wSz wVl ++ rc_tp E LT pk pv pa pn tc) H := hP
            have hD : va_D A (rw_5 E ro rk rh rd rt rl rs wo wv rSz rTc rFa rPa rPy rMi rMe rSr rZ rKi rHe rDo rTx rLa w_8 wSo wSz wVl ++ rc_tp E LT pk pv pa pn tc) := hD
            refine lv_icmp_eq (tgt := 42) hx hb dX1_firstNotRisk_37 (by decide) (fun c_9 => ?_) (fun c_9 => ?_)
            · have h := h.1 c_9
              refine lv_iinc (v := x2 + 1) (lv' := [(2, .int (x2 + 1)), (0, .ref ro), (1, .ref wo)]) hx hb dX1_firstNotRisk_42 hl (k := 2) rfl (by rfl) (by decide) rfl (fun ls hl => ?_)
              refine lv_goto (tgt := 2) hx hb dX1_firstNotRisk_45 (by decide) ?_
              exact ih (x2 + 1) w_8 h _ _ hP hD hS ls (lv_sub hl [1, 2, 0] rfl)
            · have h := h.2 c_9
              refine lv_iload_n hx hb dX1_firstNotRisk_40 rfl (lv_at hl 2 rfl) ?_
              exact hret _ _ _ _ x2 (w_8) rfl h hP hD hS dX1_firstNotRisk_41
  unfold wp_X1_firstNotRisk at h
  obtain ⟨H, hH⟩ : ∃ H, H = s.heap := ⟨_, rfl⟩
  obtain ⟨locs, hlocs⟩ : ∃ locs : List Loc, locs = [] := ⟨_, rfl⟩
  have hP : va_P E.1 vwCl (rw_5 E ro rk rh rd rt rl rs wo wv rSz rTc rFa rPa rPy rMi rMe rSr rZ rKi rHe rDo rTx rLa rSk wSo wSz wVl ++ rc_tp E LT pk pv pa pn tc) H := by rw [hH]; exact hP
  have hS : va_S A s.heap H locs := by rw [hH, hlocs]; exact hS
  suffices hgo : W p l e ({ frames := 4, cells := 0, slots := 0, locals := 99 } : Room) s m args below meth c H locs 0 0 QQ (F0 m 0 ls []) from by rw [hH, hlocs] at hgo; exact hgo
  refine lv_iconst (v := 0) hx hb dX1_firstNotRisk_0 (by decide) ?_
  refine lv_istore_n (lv' := [(2, .int 0), (0, .ref ro), (1, .ref wo)]) hx hb dX1_firstNotRisk_1 rfl hl (by decide) rfl (fun ls hl => ?_)
  obtain ⟨n, h⟩ := h
  exact J2 n 0 rSk h _ _ hP hD hS ls (lv_sub hl [1, 2, 0] rfl)
def lp_X1_become_61F (jSz : Int32) (jTc : Int32) (jFa : Int32) (jPa : Int32) (jPy : Int32) (jMi : Int32) (jMe : Int32) (jSr : Int32) (jZ : Int32) (jTx : Nat → Option Nat) (LT : List Nat)  (Q : Int32 → Int32 → Int32 → Int32 → Int32 → Int32 → Int32 → Int32 → Int32 → (Nat → Int32) → (Nat → Int32) → (Nat → Int32) → (Nat → Option Nat) → (Nat → Int32) → Prop) (R : Int32 → Int32 → Int32 → Int32 → Int32 → Int32 → Int32 → Int32 → Int32 → Int32 → (Nat → Int32) → (Nat → Int32) → (Nat → Int32) → (Nat → Option Nat) → (Nat → Int32) → Prop) (x2 : Int32) (rSz : Int32) (rTc : Int32) (rFa : Int32) (rPa : Int32) (rPy : Int32) (rMi : Int32) (rMe : Int32) (rSr : Int32) (rZ : Int32) (rKi : Nat → Int32) (rHe : Nat → Int32) (rDo : Nat → Int32) (rTx : Nat → Option Nat) (rLa : Nat → Int32) : Prop :=
  ((14 ≤ x2 → Q jSz jTc jFa jPa jPy jMi jMe jSr jZ rKi rHe rDo rTx rLa) ∧ (¬ (14 ≤ x2) → (vp_in x2 14 ∧ (vp_in x2 14 ∧ ((∀ a : Nat, jTx x2.toNatClampNeg = some a → a ∈ LT) ∧ R (x2 + 1) rSz rTc rFa rPa rPy rMi rMe rSr rZ rKi rHe rDo (va_up rTx x2.toNatClampNeg (jTx x2.toNatClampNeg)) rLa)))))
def lp_X1_become_61 (jSz : Int32) (jTc : Int32) (jFa : Int32) (jPa : Int32) (jPy : Int32) (jMi : Int32) (jMe : Int32) (jSr : Int32) (jZ : Int32) (jTx : Nat → Option Nat) (LT : List Nat)  (Q : Int32 → Int32 → Int32 → Int32 → Int32 → Int32 → Int32 → Int32 → Int32 → (Nat → Int32) → (Nat → Int32) → (Nat → Int32) → (Nat → Option Nat) → (Nat → Int32) → Prop) (n : Nat) : Int32 → Int32 → Int32 → Int32 → Int32 → Int32 → Int32 → Int32 → Int32 → Int32 → (Nat → Int32) → (Nat → Int32) → (Nat → Int32) → (Nat → Option Nat) → (Nat → Int32) → Prop :=
  Nat.rec (motive := fun _ => Int32 → Int32 → Int32 → Int32 → Int32 → Int32 → Int32 → Int32 → Int32 → Int32 → (Nat → Int32) → (Nat → Int32) → (Nat → Int32) → (Nat → Option Nat) → (Nat → Int32) → Prop) (fun _ _ _ _ _ _ _ _ _ _ _ _ _ _ _ => False) (fun _ r => lp_X1_become_61F jSz jTc jFa jPa jPy jMi jMe jSr jZ jTx LT Q r) n
def wp_X1_become (rSz : Int32) (rTc : Int32) (rFa : Int32) (rPa : Int32) (rPy : Int32) (rMi : Int32) (rMe : Int32) (rSr : Int32) (rZ : Int32) (rKi : Nat → Int32) (rHe : Nat → Int32) (rDo : Nat → Int32) (rTx : Nat → Option Nat) (rLa : Nat → Int32) (jSz : Int32) (jTc : Int32) (jFa : Int32) (jPa : Int32) (jPy : Int32) (jMi : Int32) (jMe : Int32) (jSr : Int32) (jZ : Int32) (jKi : Nat → Int32) (jHe : Nat → Int32) (jDo : Nat → Int32) (jTx : Nat → Option Nat) (jLa : Nat → Int32) (LT : List Nat) (Q : Int32 → Int32 → Int32 → Int32 → Int32 → Int32 → Int32 → Int32 → Int32 → (Nat → Int32) → (Nat → Int32) → (Nat → Int32) → (Nat → Option Nat) → (Nat → Int32) → Prop) : Prop :=
  (∃ n : Nat, lp_X1_become_61 jSz jTc jFa jPa jPy jMi jMe jSr jZ jTx LT Q n 0 rSz rTc rFa rPa rPy rMi rMe rSr rZ (va_cpy jKi rKi 0 0 24) (va_cpy jHe rHe 0 0 24) (va_cpy jDo rDo 0 0 24) rTx (va_cpy jLa rLa 0 0 3))
set_option maxHeartbeats 4000000 in
set_option maxRecDepth 100000 in
theorem c_X1_become (l : Launch) (E : gE) (ro rk rh rd rt rl rs jo jk jh jd jt jl js : Nat) (sz : Nat) (rSz : Int32) (rTc : Int32) (rFa : Int32) (rPa : Int32) (rPy : Int32) (rMi : Int32) (rMe : Int32) (rSr : Int32) (rZ : Int32) (rKi : Nat → Int32) (rHe : Nat → Int32) (rDo : Nat → Int32) (rTx : Nat → Option Nat) (rLa : Nat → Int32) (rSk : Nat → Int32) (jSz : Int32) (jTc : Int32) (jFa : Int32) (jPa : Int32) (jPy : Int32) (jMi : Int32) (jMe : Int32) (jSr : Int32) (jZ : Int32) (jKi : Nat → Int32) (jHe : Nat → Int32) (jDo : Nat → Int32) (jTx : Nat → Option Nat) (jLa : Nat → Int32) (jSk : Nat → Int32)  (LT : List Nat) (pk : Nat → Int32) (pv : Nat → Int32) (pa : Nat → Nat) (pn : Nat → Nat) (tc : Nat → Nat → Int32) (Q : Int32 → Int32 → Int32 → Int32 → Int32 → Int32 → Int32 → Int32 → Int32 → (Nat → Int32) → (Nat → Int32) → (Nat → Int32) → (Nat → Option Nat) → (Nat → Int32) → Prop) (h : wp_X1_become rSz rTc rFa rPa rPy rMi rMe rSr rZ rKi rHe rDo rTx rLa jSz jTc jFa jPa jPy jMi jMe jSr jZ jKi jHe jDo jTx jLa LT Q) : Met l yX1_become wsX1_become ({ frames := 1, cells := 0, slots := 0, locals := 60 } : Room) (va_Pc [.ref ro, .ref jo] (rc_B E (rw_6 E ro rk rh rd rt rl rs jo jk jh jd jt jl js rSz rTc rFa rPa rPy rMi rMe rSr rZ rKi rHe rDo rTx rLa rSk jSz jTc jFa jPa jPy jMi jMe jSr jZ jKi jHe jDo jTx jLa jSk ++ rc_tp E LT pk pv pa pn tc) sz)) (va_Qv (S := Int32 × Int32 × Int32 × Int32 × Int32 × Int32 × Int32 × Int32 × Int32 × (Nat → Int32) × (Nat → Int32) × (Nat → Int32) × (Nat → Option Nat) × (Nat → Int32)) (fun (u : Int32 × Int32 × Int32 × Int32 × Int32 × Int32 × Int32 × Int32 × Int32 × (Nat → Int32) × (Nat → Int32) × (Nat → Int32) × (Nat → Option Nat) × (Nat → Int32)) => Q u.1 u.2.1 u.2.2.1 u.2.2.2.1 u.2.2.2.2.1 u.2.2.2.2.2.1 u.2.2.2.2.2.2.1 u.2.2.2.2.2.2.2.1 u.2.2.2.2.2.2.2.2.1 u.2.2.2.2.2.2.2.2.2.1 u.2.2.2.2.2.2.2.2.2.2.1 u.2.2.2.2.2.2.2.2.2.2.2.1 u.2.2.2.2.2.2.2.2.2.2.2.2.1 u.2.2.2.2.2.2.2.2.2.2.2.2.2) (fun u t => rc_C E (va_A (rw_6 E ro rk rh rd rt rl rs jo jk jh jd jt jl js rSz rTc rFa rPa rPy rMi rMe rSr rZ rKi rHe rDo rTx rLa rSk jSz jTc jFa jPa jPy jMi jMe jSr jZ jKi jHe jDo jTx jLa jSk ++ rc_tp E LT pk pv pa pn tc) sz) (rw_6 E ro rk rh rd rt rl rs jo jk jh jd jt jl js u.1 u.2.1 u.2.2.1 u.2.2.2.1 u.2.2.2.2.1 u.2.2.2.2.2.1 u.2.2.2.2.2.2.1 u.2.2.2.2.2.2.2.1 u.2.2.2.2.2.2.2.2.1 u.2.2.2.2.2.2.2.2.2.1 u.2.2.2.2.2.2.2.2.2.2.1 u.2.2.2.2.2.2.2.2.2.2.2.1 u.2.2.2.2.2.2.2.2.2.2.2.2.1 u.2.2.2.2.2.2.2.2.2.2.2.2.2 rSk jSz jTc jFa jPa jPy jMi jMe jSr jZ jKi jHe jDo jTx jLa jSk ++ rc_tp E LT pk pv pa pn tc) t) (va_A (rw_6 E ro rk rh rd rt rl rs jo jk jh jd jt jl js rSz rTc rFa rPa rPy rMi rMe rSr rZ rKi rHe rDo rTx rLa rSk jSz jTc jFa jPa jPy jMi jMe jSr jZ jKi jHe jDo jTx jLa jSk ++ rc_tp E LT pk pv pa pn tc) sz)) 0 0 (va_A (rw_6 E ro rk rh rd rt rl rs jo jk jh jd jt jl js rSz rTc rFa rPa rPy rMi rMe rSr rZ rKi rHe rDo rTx rLa rSk jSz jTc jFa jPa jPy jMi jMe jSr jZ jKi jHe jDo jTx jLa jSk ++ rc_tp E LT pk pv pa pn tc) sz) := by
  refine rc_enterV (cc := cX1_become) (maxL := 3) (by decide) rfl (Nat.le_of_ble_eq_true rfl) ?_
  intro p e s m args below meth c QQ A hx hb hml hown hts hmn hE hP hD hA hret ls hl
  have hown : s.vm.findClass RX1 = some m.cls := hown
  have hK := hE.1
  have hS : va_S A s.heap s.heap [] := va_S.rf
  have hl : lv_has ls 3 [(0, .ref ro), (1, .ref jo)] := hl
  have n_X1 : ∀ w ∈ wsX10, w ∈ wsX1_become := fun _ h => List.mem_cons_of_mem _ (List.mem_append_right _ h)
  have k_21 := hts (.fieldLink RX1 21 "RidgeClaps$Ridge" "size" "I") (List.mem_of_getElem? (i := 10) rfl)
  have k_31 := hts (.fieldLink RX1 31 "RidgeClaps$Ridge" "textCount" "I") (List.mem_of_getElem? (i := 11) rfl)
  have k_38 := hts (.fieldLink RX1 38 "RidgeClaps$Ridge" "far" "I") (List.mem_of_getElem? (i := 12) rfl)
  have k_41 := hts (.fieldLink RX1 41 "RidgeClaps$Ridge" "pace" "I") (List.mem_of_getElem? (i := 13) rfl)
  have k_44 := hts (.fieldLink RX1 44 "RidgeClaps$Ridge" "party" "I") (List.mem_of_getElem? (i := 14) rfl)
  have k_47 := hts (.fieldLink RX1 47 "RidgeClaps$Ridge" "minute" "I") (List.mem_of_getElem? (i := 15) rfl)
  have k_50 := hts (.fieldLink RX1 50 "RidgeClaps$Ridge" "met" "I") (List.mem_of_getElem? (i := 16) rfl)
  have k_53 := hts (.fieldLink RX1 53 "RidgeClaps$Ridge" "struck" "I") (List.mem_of_getElem? (i := 17) rfl)
  have k_56 := hts (.fieldLink RX1 56 "RidgeClaps$Ridge" "z" "I") (List.mem_of_getElem? (i := 18) rfl)
  have k_27 := hts (.fieldLink RX1 27 "RidgeClaps$Ridge" "texts" "[LRidgeClaps$Text;") (List.mem_of_getElem? (i := 9) rfl)
  have k_9 := hts (.fieldLink RX1 9 "RidgeClaps$Ridge" "kinds" "[I") (List.mem_of_getElem? (i := 1) rfl)
  have k_126 := hts (.methodLink RX1 126 arraycopyName) (List.mem_of_getElem? (i := 2) rfl)
  have k_nat := hts (.native arraycopyName) (List.mem_of_getElem? (i := 3) rfl)
  have k_sta := hts (.static arraycopyName) (List.mem_of_getElem? (i := 4) rfl)
  have k_sys := hts (.initialized "java/lang/System") (List.mem_of_getElem? (i := 5) rfl)
  have k_15 := hts (.fieldLink RX1 15 "RidgeClaps$Ridge" "heights" "[I") (List.mem_of_getElem? (i := 6) rfl)
  have k_18 := hts (.fieldLink RX1 18 "RidgeClaps$Ridge" "downs" "[I") (List.mem_of_getElem? (i := 7) rfl)
  have k_35 := hts (.fieldLink RX1 35 "RidgeClaps$Ridge" "lastTold" "[I") (List.mem_of_getElem? (i := 8) rfl)
  have J61 : ∀ (n : Nat) (x2 : Int32) (rSz : Int32) (rTc : Int32) (rFa : Int32) (rPa : Int32) (rPy : Int32) (rMi : Int32) (rMe : Int32) (rSr : Int32) (rZ : Int32) (rKi : Nat → Int32) (rHe : Nat → Int32) (rDo : Nat → Int32) (rTx : Nat → Option Nat) (rLa : Nat → Int32), lp_X1_become_61 jSz jTc jFa jPa jPy jMi jMe jSr jZ jTx LT Q n x2 rSz rTc rFa rPa rPy rMi rMe rSr rZ rKi rHe rDo rTx rLa → ∀ (H : Heap) (locs : List Loc), va_P E.1 vwCl (rw_6 E ro rk rh rd rt rl rs jo jk jh jd jt jl js rSz rTc rFa rPa rPy rMi rMe rSr rZ rKi rHe rDo rTx rLa rSk jSz jTc jFa jPa jPy jMi jMe jSr jZ jKi jHe jDo jTx jLa jSk ++ rc_tp E LT pk pv pa pn tc) H → va_D A (rw_6 E ro rk rh rd rt rl rs jo jk jh jd jt jl js rSz rTc rFa rPa rPy rMi rMe rSr rZ rKi rHe rDo rTx rLa rSk jSz jTc jFa jPa jPy jMi jMe jSr jZ jKi jHe jDo jTx jLa jSk ++ rc_tp E LT pk pv pa pn tc) → va_S A s.heap H locs → ∀ ls : Array Slot, lv_has ls 3 [(0, .ref ro), (1, .ref jo), (2, .int x2)] → W p l e ({ frames := 1, cells := 0, slots := 0, locals := 60 } : Room) s m args below meth c H locs 0 0 QQ (F0 m 61 ls []) := by
    intro n
    induction n with
    | zero =>
      intro x2 rSz rTc rFa rPa rPy rMi rMe rSr rZ rKi rHe rDo rTx rLa h
      exact False.elim h
    | succ n ih =>
      intro x2 rSz rTc rFa rPa rPy rMi rMe rSr rZ rKi rHe rDo rTx rLa h H locs hP hD hS ls hl
      have h : lp_X1_become_61F jSz jTc jFa jPa jPy jMi jMe jSr jZ jTx LT Q (lp_X1_become_61 jSz jTc jFa jPa jPy jMi jMe jSr jZ jTx LT Q n) x2 rSz rTc rFa rPa rPy rMi rMe rSr rZ rKi rHe rDo rTx rLa := h
      unfold lp_X1_become_61F at h
      refine lv_iload_n hx hb dX1_become_61 rfl (lv_at hl 2 rfl) ?_
      refine lv_bipush (v := 14) hx hb dX1_become_62 (by decide) ?_
      refine lv_icmp_ge (tgt := 85) hx hb dX1_become_64 (by decide) (fun c_1 => ?_) (fun c_1 => ?_)
      · have h := h.1 c_1
        refine lv_aload_n hx hb dX1_become_85 rfl (lv_at hl 0 rfl) ?_
        refine lv_aload_n hx hb dX1_become_86 rfl (lv_at hl 1 rfl) ?_
        refine va_get (D := E.1) (ci := 1) (v := .int jSz) (C := RX1) (T := TX1) (N := 15) hx hb hts n_X1 hown hK hP 7 rfl rfl 3 (by decide) k_21 (fun _ h9 => h9) rfl dX1_become_87 ?_
        refine va_put (D := E.1) (ci := 1) (v := .int jSz) (ty := .int) (C := RX1) (T := TX1) (N := 15) hx hb hts n_X1 tyX1 tyX1_ok nmX1 hown hK hP hD hS 0 rfl rfl 3 (by decide) k_21 (fun _ h9 => h9) rfl (by decide +kernel) rfl rfl (Nat.le_of_ble_eq_true rfl) dX1_become_90 (fun H locs hP hD hS => ?_)
        have hP : va_P E.1 vwCl (rw_6 E ro rk rh rd rt rl rs jo jk jh jd jt jl js jSz rTc rFa rPa rPy rMi rMe rSr rZ rKi rHe rDo rTx rLa rSk jSz jTc jFa jPa jPy jMi jMe jSr jZ jKi jHe jDo jTx jLa jSk ++ rc_tp E LT pk pv pa pn tc) H := hP
        have hD : va_D A (rw_6 E ro rk rh rd rt rl rs jo jk jh jd jt jl js jSz rTc rFa rPa rPy rMi rMe rSr rZ rKi rHe rDo rTx rLa rSk jSz jTc jFa jPa jPy jMi jMe jSr jZ jKi jHe jDo jTx jLa jSk ++ rc_tp E LT pk pv pa pn tc) := hD
        refine lv_aload_n hx hb dX1_become_93 rfl (lv_at hl 0 rfl) ?_
        refine lv_aload_n hx hb dX1_become_94 rfl (lv_at hl 1 rfl) ?_
        refine va_get (D := E.1) (ci := 1) (v := .int jTc) (C := RX1) (T := TX1) (N := 15) hx hb hts n_X1 hown hK hP 7 rfl rfl 5 (by decide) k_31 (fun _ h9 => h9) rfl dX1_become_95 ?_
        refine va_put (D := E.1) (ci := 1) (v := .int jTc) (ty := .int) (C := RX1) (T := TX1) (N := 15) hx hb hts n_X1 tyX1 tyX1_ok nmX1 hown hK hP hD hS 0 rfl rfl 5 (by decide) k_31 (fun _ h9 => h9) rfl (by decide +kernel) rfl rfl (Nat.le_of_ble_eq_true rfl) dX1_become_98 (fun H locs hP hD hS => ?_)
        have hP : va_P E.1 vwCl (rw_6 E ro rk rh rd rt rl rs jo jk jh jd jt jl js jSz jTc rFa rPa rPy rMi rMe rSr rZ rKi rHe rDo rTx rLa rSk jSz jTc jFa jPa jPy jMi jMe jSr jZ jKi jHe jDo jTx jLa jSk ++ rc_tp E LT pk pv pa pn tc) H := hP
        have hD : va_D A (rw_6 E ro rk rh rd rt rl rs jo jk jh jd jt jl js jSz jTc rFa rPa rPy rMi rMe rSr rZ rKi rHe rDo rTx rLa rSk jSz jTc jFa jPa jPy jMi jMe jSr jZ jKi jHe jDo jTx jLa jSk ++ rc_tp E LT pk pv pa pn tc) := hD
        refine lv_aload_n hx hb dX1_become_101 rfl (lv_at hl 0 rfl) ?_
        refine lv_aload_n hx hb dX1_become_102 rfl (lv_at hl 1 rfl) ?_
        refine va_get (D := E.1) (ci := 1) (v := .int jFa) (C := RX1) (T := TX1) (N := 15) hx hb hts n_X1 hown hK hP 7 rfl rfl 7 (by decide) k_38 (fun _ h9 => h9) rfl dX1_become_103 ?_
        refine va_put (D := E.1) (ci := 1) (v := .int jFa) (ty := .int) (C := RX1) (T := TX1) (N := 15) hx hb hts n_X1 tyX1 tyX1_ok nmX1 hown hK hP hD hS 0 rfl rfl 7 (by decide) k_38 (fun _ h9 => h9) rfl (by decide +kernel) rfl rfl (Nat.le_of_ble_eq_true rfl) dX1_become_106 (fun H locs hP hD hS => ?_)
        have hP : va_P E.1 vwCl (rw_6 E ro rk rh rd rt rl rs jo jk jh jd jt jl js jSz jTc jFa rPa rPy rMi rMe rSr rZ rKi rHe rDo rTx rLa rSk jSz jTc jFa jPa jPy jMi jMe jSr jZ jKi jHe jDo jTx jLa jSk ++ rc_tp E LT pk pv pa pn tc) H := hP
        have hD : va_D A (rw_6 E ro rk rh rd rt rl rs jo jk jh jd jt jl js jSz jTc jFa rPa rPy rMi rMe rSr rZ rKi rHe rDo rTx rLa rSk jSz jTc jFa jPa jPy jMi jMe jSr jZ jKi jHe jDo jTx jLa jSk ++ rc_tp E LT pk pv pa pn tc) := hD
        refine lv_aload_n hx hb dX1_become_109 rfl (lv_at hl 0 rfl) ?_
        refine lv_aload_n hx hb dX1_become_110 rfl (lv_at hl 1 rfl) ?_
        refine va_get (D := E.1) (ci := 1) (v := .int jPa) (C := RX1) (T := TX1) (N := 15) hx hb hts n_X1 hown hK hP 7 rfl rfl 8 (by decide) k_41 (fun _ h9 => h9) rfl dX1_become_111 ?_
        refine va_put (D := E.1) (ci := 1) (v := .int jPa) (ty := .int) (C := RX1) (T := TX1) (N := 15) hx hb hts n_X1 tyX1 tyX1_ok nmX1 hown hK hP hD hS 0 rfl rfl 8 (by decide) k_41 (fun _ h9 => h9) rfl (by decide +kernel) rfl rfl (Nat.le_of_ble_eq_true rfl) dX1_become_114 (fun H locs hP hD hS => ?_)
        have hP : va_P E.1 vwCl (rw_6 E ro rk rh rd rt rl rs jo jk jh jd jt jl js jSz jTc jFa jPa rPy rMi rMe rSr rZ rKi rHe rDo rTx rLa rSk jSz jTc jFa jPa jPy jMi jMe jSr jZ jKi jHe jDo jTx jLa jSk ++ rc_tp E LT pk pv pa pn tc) H := hP
        have hD : va_D A (rw_6 E ro rk rh rd rt rl rs jo jk jh jd jt jl js jSz jTc jFa jPa rPy rMi rMe rSr rZ rKi rHe rDo rTx rLa rSk jSz jTc jFa jPa jPy jMi jMe jSr jZ jKi jHe jDo jTx jLa jSk ++ rc_tp E LT pk pv pa pn tc) := hD
        refine lv_aload_n hx hb dX1_become_117 rfl (lv_at hl 0 rfl) ?_
        refine lv_aload_n hx hb dX1_become_118 rfl (lv_at hl 1 rfl) ?_
        refine va_get (D := E.1) (ci := 1) (v := .int jPy) (C := RX1) (T := TX1) (N := 15) hx hb hts n_X1 hown hK hP 7 rfl rfl 9 (by decide) k_44 (fun _ h9 => h9) rfl dX1_become_119 ?_
        refine va_put (D := E.1) (ci := 1) (v := .int jPy) (ty := .int) (C := RX1) (T := TX1) (N := 15) hx hb hts n_X1 tyX1 tyX1_ok nmX1 hown hK hP hD hS 0 rfl rfl 9 (by decide) k_44 (fun _ h9 => h9) rfl (by decide +kernel) rfl rfl (Nat.le_of_ble_eq_true rfl) dX1_become_122 (fun H locs hP hD hS => ?_)
        have hP : va_P E.1 vwCl (rw_6 E ro rk rh rd rt rl rs jo jk jh jd jt jl js jSz jTc jFa jPa jPy rMi rMe rSr rZ rKi rHe rDo rTx rLa rSk jSz jTc jFa jPa jPy jMi jMe jSr jZ jKi jHe jDo jTx jLa jSk ++ rc_tp E LT pk pv pa pn tc) H := hP
        have hD : va_D A (rw_6 E ro rk rh rd rt rl rs jo jk jh jd jt jl js jSz jTc jFa jPa jPy rMi rMe rSr rZ rKi rHe rDo rTx rLa rSk jSz jTc jFa jPa jPy jMi jMe jSr jZ jKi jHe jDo jTx jLa jSk ++ rc_tp E LT pk pv pa pn tc) := hD
        refine lv_aload_n hx hb dX1_become_125 rfl (lv_at hl 0 rfl) ?_
        refine lv_aload_n hx hb dX1_become_126 rfl (lv_at hl 1 rfl) ?_
        refine va_get (D := E.1) (ci := 1) (v := .int jMi) (C := RX1) (T := TX1) (N := 15) hx hb hts n_X1 hown hK hP 7 rfl rfl 10 (by decide) k_47 (fun _ h9 => h9) rfl dX1_become_127 ?_
        refine va_put (D := E.1) (ci := 1) (v := .int jMi) (ty := .int) (C := RX1) (T := TX1) (N := 15) hx hb hts n_X1 tyX1 tyX1_ok nmX1 hown hK hP hD hS 0 rfl rfl 10 (by decide) k_47 (fun _ h9 => h9) rfl (by decide +kernel) rfl rfl (Nat.le_of_ble_eq_true rfl) dX1_become_130 (fun H locs hP hD hS => ?_)
        have hP : va_P E.1 vwCl (rw_6 E ro rk rh rd rt rl rs jo jk jh jd jt jl js jSz jTc jFa jPa jPy jMi rMe rSr rZ rKi rHe rDo rTx rLa rSk jSz jTc jFa jPa jPy jMi jMe jSr jZ jKi jHe jDo jTx jLa jSk ++ rc_tp E LT pk pv pa pn tc) H := hP
        have hD : va_D A (rw_6 E ro rk rh rd rt rl rs jo jk jh jd jt jl js jSz jTc jFa jPa jPy jMi rMe rSr rZ rKi rHe rDo rTx rLa rSk jSz jTc jFa jPa jPy jMi jMe jSr jZ jKi jHe jDo jTx jLa jSk ++ rc_tp E LT pk pv pa pn tc) := hD
        refine lv_aload_n hx hb dX1_become_133 rfl (lv_at hl 0 rfl) ?_
        refine lv_aload_n hx hb dX1_become_134 rfl (lv_at hl 1 rfl) ?_
        refine va_get (D := E.1) (ci := 1) (v := .int jMe) (C := RX1) (T := TX1) (N := 15) hx hb hts n_X1 hown hK hP 7 rfl rfl 11 (by decide) k_50 (fun _ h9 => h9) rfl dX1_become_135 ?_
        refine va_put (D := E.1) (ci := 1) (v := .int jMe) (ty := .int) (C := RX1) (T := TX1) (N := 15) hx hb hts n_X1 tyX1 tyX1_ok nmX1 hown hK hP hD hS 0 rfl rfl 11 (by decide) k_50 (fun _ h9 => h9) rfl (by decide +kernel) rfl rfl (Nat.le_of_ble_eq_true rfl) dX1_become_138 (fun H locs hP hD hS => ?_)
        have hP : va_P E.1 vwCl (rw_6 E ro rk rh rd rt rl rs jo jk jh jd jt jl js jSz jTc jFa jPa jPy jMi jMe rSr rZ rKi rHe rDo rTx rLa rSk jSz jTc jFa jPa jPy jMi jMe jSr jZ jKi jHe jDo jTx jLa jSk ++ rc_tp E LT pk pv pa pn tc) H := hP
        have hD : va_D A (rw_6 E ro rk rh rd rt rl rs jo jk jh jd jt jl js jSz jTc jFa jPa jPy jMi jMe rSr rZ rKi rHe rDo rTx rLa rSk jSz jTc jFa jPa jPy jMi jMe jSr jZ jKi jHe jDo jTx jLa jSk ++ rc_tp E LT pk pv pa pn tc) := hD
        refine lv_aload_n hx hb dX1_become_141 rfl (lv_at hl 0 rfl) ?_
        refine lv_aload_n hx hb dX1_become_142 rfl (lv_at hl 1 rfl) ?_
        refine va_get (D := E.1) (ci := 1) (v := .int jSr) (C := RX1) (T := TX1) (N := 15) hx hb hts n_X1 hown hK hP 7 rfl rfl 12 (by decide) k_53 (fun _ h9 => h9) rfl dX1_become_143 ?_
        refine va_put (D := E.1) (ci := 1) (v := .int jSr) (ty := .int) (C := RX1) (T := TX1) (N := 15) hx hb hts n_X1 tyX1 tyX1_ok nmX1 hown hK hP hD hS 0 rfl rfl 12 (by decide) k_53 (fun _ h9 => h9) rfl (by decide +kernel) rfl rfl (Nat.le_of_ble_eq_true rfl) dX1_become_146 (fun H locs hP hD hS => ?_)
        have hP : va_P E.1 vwCl (rw_6 E ro rk rh rd rt rl rs jo jk jh jd jt jl js jSz jTc jFa jPa jPy jMi jMe jSr rZ rKi rHe rDo rTx rLa rSk jSz jTc jFa jPa jPy jMi jMe jSr jZ jKi jHe jDo jTx jLa jSk ++ rc_tp E LT pk pv pa pn tc) H := hP
        have hD : va_D A (rw_6 E ro rk rh rd rt rl rs jo jk jh jd jt jl js jSz jTc jFa jPa jPy jMi jMe jSr rZ rKi rHe rDo rTx rLa rSk jSz jTc jFa jPa jPy jMi jMe jSr jZ jKi jHe jDo jTx jLa jSk ++ rc_tp E LT pk pv pa pn tc) := hD
        refine lv_aload_n hx hb dX1_become_149 rfl (lv_at hl 0 rfl) ?_
        refine lv_aload_n hx hb dX1_become_150 rfl (lv_at hl 1 rfl) ?_
        refine va_get (D := E.1) (ci := 1) (v := .int jZ) (C := RX1) (T := TX1) (N := 15) hx hb hts n_X1 hown hK hP 7 rfl rfl 13 (by decide) k_56 (fun _ h9 => h9) rfl dX1_become_151 ?_
        refine va_put (D := E.1) (ci := 1) (v := .int jZ) (ty := .int) (C := RX1) (T := TX1) (N := 15) hx hb hts n_X1 tyX1 tyX1_ok nmX1 hown hK hP hD hS 0 rfl rfl 13 (by decide) k_56 (fun _ h9 => h9) rfl (by decide +kernel) rfl rfl (Nat.le_of_ble_eq_true rfl) dX1_become_154 (fun H locs hP hD hS => ?_)
        have hP : va_P E.1 vwCl (rw_6 E ro rk rh rd rt rl rs jo jk jh jd jt jl js jSz jTc jFa jPa jPy jMi jMe jSr jZ rKi rHe rDo rTx rLa rSk jSz jTc jFa jPa jPy jMi jMe jSr jZ jKi jHe jDo jTx jLa jSk ++ rc_tp E LT pk pv pa pn tc) H := hP
        have hD : va_D A (rw_6 E ro rk rh rd rt rl rs jo jk jh jd jt jl js jSz jTc jFa jPa jPy jMi jMe jSr jZ rKi rHe rDo rTx rLa rSk jSz jTc jFa jPa jPy jMi jMe jSr jZ jKi jHe jDo jTx jLa jSk ++ rc_tp E LT pk pv pa pn tc) := hD
        exact hret _ _ _ _ (jSz, jTc, jFa, jPa, jPy, jMi, jMe, jSr, jZ, rKi, rHe, rDo, rTx, rLa) h hP hD hS dX1_become_157
      · have h := h.2 c_1
        refine lv_aload_n hx hb dX1_become_67 rfl (lv_at hl 0 rfl) ?_
        refine va_get (D := E.1) (ci := 1) (v := .ref rt) (C := RX1) (T := TX1) (N := 15) hx hb hts n_X1 hown hK hP 0 rfl rfl 4 (by decide) k_27 (fun _ h9 => h9) rfl dX1_become_68 ?_
        refine lv_iload_n hx hb dX1_become_71 rfl (lv_at hl 2 rfl) ?_
        refine lv_aload_n hx hb dX1_become_72 rfl (lv_at hl 1 rfl) ?_
        refine va_get (D := E.1) (ci := 1) (v := .ref jt) (C := RX1) (T := TX1) (N := 15) hx hb hts n_X1 hown hK hP 7 rfl rfl 4 (by decide) k_27 (fun _ h9 => h9) rfl dX1_become_73 ?_
        refine lv_iload_n hx hb dX1_become_76 rfl (lv_at hl 2 rfl) ?_
        obtain ⟨o_2, h⟩ := h
        refine va_aldq hx hb hK hP 11 5 rfl rfl o_2 dX1_become_77 ?_
        obtain ⟨o_3, h⟩ := h
        obtain ⟨o_4, h⟩ := h
        refine rc_astT (pk := pk) (pv := pv) (pa := pa) (pn := pn) (tc := tc) hx hb hK hP hD hS 4 5 rfl rfl o_4 o_3 dX1_become_78 (fun H locs hP hD hS => ?_)
        have hP : va_P E.1 vwCl (rw_6 E ro rk rh rd rt rl rs jo jk jh jd jt jl js rSz rTc rFa rPa rPy rMi rMe rSr rZ rKi rHe rDo (va_up rTx x2.toNatClampNeg (jTx x2.toNatClampNeg)) rLa rSk jSz jTc jFa jPa jPy jMi jMe jSr jZ jKi jHe jDo jTx jLa jSk ++ rc_tp E LT pk pv pa pn tc) H := hP
        have hD : va_D A (rw_6 E ro rk rh rd rt rl rs jo jk jh jd jt jl js rSz rTc rFa rPa rPy rMi rMe rSr rZ rKi rHe rDo (va_up rTx x2.toNatClampNeg (jTx x2.toNatClampNeg)) rLa rSk jSz jTc jFa jPa jPy jMi jMe jSr jZ jKi jHe jDo jTx jLa jSk ++ rc_tp E LT pk pv pa pn tc) := hD
        refine lv_iinc (v := x2 + 1) (lv' := [(2, .int (x2 + 1)), (0, .ref ro), (1, .ref jo)]) hx hb dX1_become_79 hl (k := 2) rfl (by rfl) (by decide) rfl (fun ls hl => ?_)
        refine lv_goto (tgt := 61) hx hb dX1_become_82 (by decide) ?_
        exact ih (x2 + 1) rSz rTc rFa rPa rPy rMi rMe rSr rZ rKi rHe rDo (va_up rTx x2.toNatClampNeg (jTx x2.toNatClampNeg)) rLa h _ _ hP hD hS ls (lv_sub hl [1, 2, 0] rfl)
  unfold wp_X1_become at h
  obtain ⟨H, hH⟩ : ∃ H, H = s.heap := ⟨_, rfl⟩
  obtain ⟨locs, hlocs⟩ : ∃ locs : List Loc, locs = [] := ⟨_, rfl⟩
  have hP : va_P E.1 vwCl (rw_6 E ro rk rh rd rt rl rs jo jk jh jd jt jl js rSz rTc rFa rPa rPy rMi rMe rSr rZ rKi rHe rDo rTx rLa rSk jSz jTc jFa jPa jPy jMi jMe jSr jZ jKi jHe jDo jTx jLa jSk ++ rc_tp E LT pk pv pa pn tc) H := by rw [hH]; exact hP
  have hS : va_S A s.heap H locs := by rw [hH, hlocs]; exact hS
  suffices hgo : W p l e ({ frames := 1, cells := 0, slots := 0, locals := 60 } : Room) s m args below meth c H locs 0 0 QQ (F0 m 0 ls []) from by rw [hH, hlocs] at hgo; exact hgo
  refine lv_aload_n hx hb dX1_become_0 rfl (lv_at hl 1 rfl) ?_
  refine va_get (D := E.1) (ci := 1) (v := .ref jk) (C := RX1) (T := TX1) (N := 15) hx hb hts n_X1 hown hK hP 7 rfl rfl 0 (by decide) k_9 (fun _ h9 => h9) rfl dX1_become_1 ?_
  refine lv_iconst (v := 0) hx hb dX1_become_4 (by decide) ?_
  refine lv_aload_n hx hb dX1_become_5 rfl (lv_at hl 0 rfl) ?_
  refine va_get (D := E.1) (ci := 1) (v := .ref rk) (C := RX1) (T := TX1) (N := 15) hx hb hts n_X1 hown hK hP 0 rfl rfl 0 (by decide) k_9 (fun _ h9 => h9) rfl dX1_become_6 ?_
  refine lv_iconst (v := 0) hx hb dX1_become_9 (by decide) ?_
  refine lv_bipush (v := 24) hx hb dX1_become_10 (by decide) ?_
  refine va_copyi hx hb (hml.trans hl.1.symm) hown k_126 k_nat k_sta k_sys hK hP hD hS 8 1 0 0 rfl rfl rfl rfl rfl (by decide) (by decide) (by decide) (by decide) (by decide) (fun _ _ => rfl) (Nat.le_of_ble_eq_true rfl) (Nat.le_of_ble_eq_true rfl) dX1_become_12 (fun H locs hP hD hS => ?_)
  have hP : va_P E.1 vwCl (rw_6 E ro rk rh rd rt rl rs jo jk jh jd jt jl js rSz rTc rFa rPa rPy rMi rMe rSr rZ (va_cpy jKi rKi 0 0 24) rHe rDo rTx rLa rSk jSz jTc jFa jPa jPy jMi jMe jSr jZ jKi jHe jDo jTx jLa jSk ++ rc_tp E LT pk pv pa pn tc) H := hP
  have hD : va_D A (rw_6 E ro rk rh rd rt rl rs jo jk jh jd jt jl js rSz rTc rFa rPa rPy rMi rMe rSr rZ (va_cpy jKi rKi 0 0 24) rHe rDo rTx rLa rSk jSz jTc jFa jPa jPy jMi jMe jSr jZ jKi jHe jDo jTx jLa jSk ++ rc_tp E LT pk pv pa pn tc) := hD
  refine lv_aload_n hx hb dX1_become_15 rfl (lv_at hl 1 rfl) ?_
  refine va_get (D := E.1) (ci := 1) (v := .ref jh) (C := RX1) (T := TX1) (N := 15) hx hb hts n_X1 hown hK hP 7 rfl rfl 1 (by decide) k_15 (fun _ h9 => h9) rfl dX1_become_16 ?_
  refine lv_iconst (v := 0) hx hb dX1_become_19 (by decide) ?_
  refine lv_aload_n hx hb dX1_become_20 rfl (lv_at hl 0 rfl) ?_
  refine va_get (D := E.1) (ci := 1) (v := .ref rh) (C := RX1) (T := TX1) (N := 15) hx hb hts n_X1 hown hK hP 0 rfl rfl 1 (by decide) k_15 (fun _ h9 => h9) rfl dX1_become_21 ?_
  refine lv_iconst (v := 0) hx hb dX1_become_24 (by decide) ?_
  refine lv_bipush (v := 24) hx hb dX1_become_25 (by decide) ?_
  refine va_copyi hx hb (hml.trans hl.1.symm) hown k_126 k_nat k_sta k_sys hK hP hD hS 9 2 0 0 rfl rfl rfl rfl rfl (by decide) (by decide) (by decide) (by decide) (by decide) (fun _ _ => rfl) (Nat.le_of_ble_eq_true rfl) (Nat.le_of_ble_eq_true rfl) dX1_become_27 (fun H locs hP hD hS => ?_)
  have hP : va_P E.1 vwCl (rw_6 E ro rk rh rd rt rl rs jo jk jh jd jt jl js rSz rTc rFa rPa rPy rMi rMe rSr rZ (va_cpy jKi rKi 0 0 24) (va_cpy jHe rHe 0 0 24) rDo rTx rLa rSk jSz jTc jFa jPa jPy jMi jMe jSr jZ jKi jHe jDo jTx jLa jSk ++ rc_tp E LT pk pv pa pn tc) H := hP
  have hD : va_D A (rw_6 E ro rk rh rd rt rl rs jo jk jh jd jt jl js rSz rTc rFa rPa rPy rMi rMe rSr rZ (va_cpy jKi rKi 0 0 24) (va_cpy jHe rHe 0 0 24) rDo rTx rLa rSk jSz jTc jFa jPa jPy jMi jMe jSr jZ jKi jHe jDo jTx jLa jSk ++ rc_tp E LT pk pv pa pn tc) := hD
  refine lv_aload_n hx hb dX1_become_30 rfl (lv_at hl 1 rfl) ?_
  refine va_get (D := E.1) (ci := 1) (v := .ref jd) (C := RX1) (T := TX1) (N := 15) hx hb hts n_X1 hown hK hP 7 rfl rfl 2 (by decide) k_18 (fun _ h9 => h9) rfl dX1_become_31 ?_
  refine lv_iconst (v := 0) hx hb dX1_become_34 (by decide) ?_
  refine lv_aload_n hx hb dX1_become_35 rfl (lv_at hl 0 rfl) ?_
  refine va_get (D := E.1) (ci := 1) (v := .ref rd) (C := RX1) (T := TX1) (N := 15) hx hb hts n_X1 hown hK hP 0 rfl rfl 2 (by decide) k_18 (fun _ h9 => h9) rfl dX1_become_36 ?_
  refine lv_iconst (v := 0) hx hb dX1_become_39 (by decide) ?_
  refine lv_bipush (v := 24) hx hb dX1_become_40 (by decide) ?_
  refine va_copyi hx hb (hml.trans hl.1.symm) hown k_126 k_nat k_sta k_sys hK hP hD hS 10 3 0 0 rfl rfl rfl rfl rfl (by decide) (by decide) (by decide) (by decide) (by decide) (fun _ _ => rfl) (Nat.le_of_ble_eq_true rfl) (Nat.le_of_ble_eq_true rfl) dX1_become_42 (fun H locs hP hD hS => ?_)
  have hP : va_P E.1 vwCl (rw_6 E ro rk rh rd rt rl rs jo jk jh jd jt jl js rSz rTc rFa rPa rPy rMi rMe rSr rZ (va_cpy jKi rKi 0 0 24) (va_cpy jHe rHe 0 0 24) (va_cpy jDo rDo 0 0 24) rTx rLa rSk jSz jTc jFa jPa jPy jMi jMe jSr jZ jKi jHe jDo jTx jLa jSk ++ rc_tp E LT pk pv pa pn tc) H := hP
  have hD : va_D A (rw_6 E ro rk rh rd rt rl rs jo jk jh jd jt jl js rSz rTc rFa rPa rPy rMi rMe rSr rZ (va_cpy jKi rKi 0 0 24) (va_cpy jHe rHe 0 0 24) (va_cpy jDo rDo 0 0 24) rTx rLa rSk jSz jTc jFa jPa jPy jMi jMe jSr jZ jKi jHe jDo jTx jLa jSk ++ rc_tp E LT pk pv pa pn tc) := hD
  refine lv_aload_n hx hb dX1_become_45 rfl (lv_at hl 1 rfl) ?_
  refine va_get (D := E.1) (ci := 1) (v := .ref jl) (C := RX1) (T := TX1) (N := 15) hx hb hts n_X1 hown hK hP 7 rfl rfl 6 (by decide) k_35 (fun _ h9 => h9) rfl dX1_become_46 ?_
  refine lv_iconst (v := 0) hx hb dX1_become_49 (by decide) ?_
  refine lv_aload_n hx hb dX1_become_50 rfl (lv_at hl 0 rfl) ?_
  refine va_get (D := E.1) (ci := 1) (v := .ref rl) (C := RX1) (T := TX1) (N := 15) hx hb hts n_X1 hown hK hP 0 rfl rfl 6 (by decide) k_35 (fun _ h9 => h9) rfl dX1_become_51 ?_
  refine lv_iconst (v := 0) hx hb dX1_become_54 (by decide) ?_
  refine lv_iconst (v := 3) hx hb dX1_become_55 (by decide) ?_
  refine va_copyi hx hb (hml.trans hl.1.symm) hown k_126 k_nat k_sta k_sys hK hP hD hS 12 5 0 0 rfl rfl rfl rfl rfl (by decide) (by decide) (by decide) (by decide) (by decide) (fun _ _ => rfl) (Nat.le_of_ble_eq_true rfl) (Nat.le_of_ble_eq_true rfl) dX1_become_56 (fun H locs hP hD hS => ?_)
  have hP : va_P E.1 vwCl (rw_6 E ro rk rh rd rt rl rs jo jk jh jd jt jl js rSz rTc rFa rPa rPy rMi rMe rSr rZ (va_cpy jKi rKi 0 0 24) (va_cpy jHe rHe 0 0 24) (va_cpy jDo rDo 0 0 24) rTx (va_cpy jLa rLa 0 0 3) rSk jSz jTc jFa jPa jPy jMi jMe jSr jZ jKi jHe jDo jTx jLa jSk ++ rc_tp E LT pk pv pa pn tc) H := hP
  have hD : va_D A (rw_6 E ro rk rh rd rt rl rs jo jk jh jd jt jl js rSz rTc rFa rPa rPy rMi rMe rSr rZ (va_cpy jKi rKi 0 0 24) (va_cpy jHe rHe 0 0 24) (va_cpy jDo rDo 0 0 24) rTx (va_cpy jLa rLa 0 0 3) rSk jSz jTc jFa jPa jPy jMi jMe jSr jZ jKi jHe jDo jTx jLa jSk ++ rc_tp E LT pk pv pa pn tc) := hD
  refine lv_iconst (v := 0) hx hb dX1_become_59 (by decide) ?_
  refine lv_istore_n (lv' := [(2, .int 0), (0, .ref ro), (1, .ref jo)]) hx hb dX1_become_60 rfl hl (by decide) rfl (fun ls hl => ?_)
  obtain ⟨n, h⟩ := h
  exact J61 n 0 rSz rTc rFa rPa rPy rMi rMe rSr rZ (va_cpy jKi rKi 0 0 24) (va_cpy jHe rHe 0 0 24) (va_cpy jDo rDo 0 0 24) rTx (va_cpy jLa rLa 0 0 3) h _ _ hP hD hS ls (lv_sub hl [1, 2, 0] rfl)
