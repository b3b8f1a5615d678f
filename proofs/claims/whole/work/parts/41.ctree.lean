def wp_X6_passBestMinute (yRi : Nat → Int32) (yLe : Nat → Int32) (yLa : Nat → Int32) (rSz : Int32) (rFa : Int32) (rPa : Int32) (rPy : Int32) (rMi : Int32) (rMe : Int32) (rSr : Int32) (rZ : Int32) (rKi : Nat → Int32) (rHe : Nat → Int32) (rDo : Nat → Int32) (rTx : Nat → Option Nat) (rLa : Nat → Int32) (rSk : Nat → Int32) (LT : List Nat) (pn : Nat → Nat) (tc : Nat → Nat → Int32) (Q : (Nat → Int32) → (Nat → Int32) → Int32 → Int32 → Int32 → Int32 → Int32 → Int32 → (Nat → Int32) → Prop) : Prop :=
  wp_X1_has rPy rSz (fun (r_1 : Int32) => ((r_1 = 0 → wp_X1_passMinute 2 rSz rFa rPa rPy rMi rMe rSr rZ rKi rHe rTx rLa rSk LT pn tc (fun (r_3 : Int32) (w_4 : Int32) (w_5 : Int32) (w_6 : Int32) (w_7 : Int32) (w_8 : Int32) (w_9 : Int32) (w_10 : Nat → Int32) => Q yLe yLa w_4 w_5 w_6 w_7 w_8 w_9 w_10)) ∧ (¬ (r_1 = 0) → wp_X5_grow 20 yRi yLe yLa rSz rFa rPa rDo rTx rLa rSk LT pn tc (fun (w_11 : Nat → Int32) (w_12 : Nat → Int32) (w_13 : Nat → Int32) => wp_X5_bestStep rPy w_12 rSz rDo (fun (r_14 : Int32) => wp_X1_passMinute r_14 rSz rFa rPa rPy rMi rMe rSr rZ rKi rHe rTx rLa w_13 LT pn tc (fun (r_15 : Int32) (w_16 : Int32) (w_17 : Int32) (w_18 : Int32) (w_19 : Int32) (w_20 : Int32) (w_21 : Int32) (w_22 : Nat → Int32) => Q w_11 w_12 w_16 w_17 w_18 w_19 w_20 w_21 w_22))))))
set_option maxHeartbeats 4000000 in
set_option maxRecDepth 100000 in
theorem c_X6_passBestMinute (l : Launch) (E : gE) (co cr jo qo yo eo cs cl cw yr yl yt ro rk rh rd rt rl rs : Nat) (sz : Nat) (cWs : Int32) (cKp : Int32) (yRi : Nat → Int32) (yLe : Nat → Int32) (yLa : Nat → Int32) (rSz : Int32) (rTc : Int32) (rFa : Int32) (rPa : Int32) (rPy : Int32) (rMi : Int32) (rMe : Int32) (rSr : Int32) (rZ : Int32) (rKi : Nat → Int32) (rHe : Nat → Int32) (rDo : Nat → Int32) (rTx : Nat → Option Nat) (rLa : Nat → Int32) (rSk : Nat → Int32)  (LT : List Nat) (pk : Nat → Int32) (pv : Nat → Int32) (pa : Nat → Nat) (pn : Nat → Nat) (tc : Nat → Nat → Int32) (Q : (Nat → Int32) → (Nat → Int32) → Int32 → Int32 → Int32 → Int32 → Int32 → Int32 → (Nat → Int32) → Prop) (h : wp_X6_passBestMinute yRi yLe yLa rSz rFa rPa rPy rMi rMe rSr rZ rKi rHe rDo rTx rLa rSk LT pn tc Q) : Met l yX6_passBestMinute wsX6_passBestMinute ({ frames := 5, cells := 0, slots := 0, locals := 130 } : Room) (va_Pc [.ref co, .ref ro] (rc_B E (rw_9 E co cr jo qo yo eo cs cl cw yr yl yt ro rk rh rd rt rl rs cWs cKp yRi yLe yLa rSz rTc rFa rPa rPy rMi rMe rSr rZ rKi rHe rDo rTx rLa rSk ++ rc_tp E LT pk pv pa pn tc) sz)) (va_Qv (S := (Nat → Int32) × (Nat → Int32) × Int32 × Int32 × Int32 × Int32 × Int32 × Int32 × (Nat → Int32)) (fun (u : (Nat → Int32) × (Nat → Int32) × Int32 × Int32 × Int32 × Int32 × Int32 × Int32 × (Nat → Int32)) => Q u.1 u.2.1 u.2.2.1 u.2.2.2.1 u.2.2.2.2.1 u.2.2.2.2.2.1 u.2.2.2.2.2.2.1 u.2.2.2.2.2.2.2.1 u.2.2.2.2.2.2.2.2) (fun u t => rc_C E (va_A (rw_9 E co cr jo qo yo eo cs cl cw yr yl yt ro rk rh rd rt rl rs cWs cKp yRi yLe yLa rSz rTc rFa rPa rPy rMi rMe rSr rZ rKi rHe rDo rTx rLa rSk ++ rc_tp E LT pk pv pa pn tc) sz) (rw_9 E co cr jo qo yo eo cs cl cw yr yl yt ro rk rh rd rt rl rs cWs cKp yRi u.1 u.2.1 rSz rTc u.2.2.1 rPa u.2.2.2.1 u.2.2.2.2.1 u.2.2.2.2.2.1 u.2.2.2.2.2.2.1 u.2.2.2.2.2.2.2.1 rKi rHe rDo rTx rLa u.2.2.2.2.2.2.2.2 ++ rc_tp E LT pk pv pa pn tc) t) (va_A (rw_9 E co cr jo qo yo eo cs cl cw yr yl yt ro rk rh rd rt rl rs cWs cKp yRi yLe yLa rSz rTc rFa rPa rPy rMi rMe rSr rZ rKi rHe rDo rTx rLa rSk ++ rc_tp E LT pk pv pa pn tc) sz)) 0 0 (va_A (rw_9 E co cr jo qo yo eo cs cl cw yr yl yt ro rk rh rd rt rl rs cWs cKp yRi yLe yLa rSz rTc rFa rPa rPy rMi rMe rSr rZ rKi rHe rDo rTx rLa rSk ++ rc_tp E LT pk pv pa pn tc) sz) := by
  refine rc_enterV (cc := cX6_passBestMinute) (maxL := 3) (by decide) rfl (Nat.le_of_ble_eq_true rfl) ?_
  intro p e s m args below meth c QQ A hx hb hml hown hts hmn hE hP hD hA hret ls hl
  have hown : s.vm.findClass RX6 = some m.cls := hown
  have hK := hE.1
  have hS : va_S A s.heap s.heap [] := va_S.rf
  have hl : lv_has ls 3 [(0, .ref co), (1, .ref ro)] := hl
  have n_X1 : ∀ w ∈ wsX10, w ∈ wsX6_passBestMinute := fun _ h => List.mem_cons_of_mem _ (List.mem_append_left _ (List.mem_append_left _ (List.mem_append_left _ (List.mem_append_right _ h))))
  have n_X6 : ∀ w ∈ wsX60, w ∈ wsX6_passBestMinute := fun _ h => List.mem_cons_of_mem _ (List.mem_append_left _ (List.mem_append_left _ (List.mem_append_right _ h)))
  have k_131 := hts (.fieldLink RX6 131 "RidgeClaps$Ridge" "party" "I") (List.mem_of_getElem? (i := 1) rfl)
  have k_25 := hts (.fieldLink RX6 25 "RidgeClaps" "ways" "LRidgeClaps$Ways;") (List.mem_of_getElem? (i := 2) rfl)
  unfold wp_X6_passBestMinute at h
  obtain ⟨H, hH⟩ : ∃ H, H = s.heap := ⟨_, rfl⟩
  obtain ⟨locs, hlocs⟩ : ∃ locs : List Loc, locs = [] := ⟨_, rfl⟩
  have hP : va_P E.1 vwCl (rw_9 E co cr jo qo yo eo cs cl cw yr yl yt ro rk rh rd rt rl rs cWs cKp yRi yLe yLa rSz rTc rFa rPa rPy rMi rMe rSr rZ rKi rHe rDo rTx rLa rSk ++ rc_tp E LT pk pv pa pn tc) H := by rw [hH]; exact hP
  have hS : va_S A s.heap H locs := by rw [hH, hlocs]; exact hS
  suffices hgo : W p l e ({ frames := 5, cells := 0, slots := 0, locals := 130 } : Room) s m args below meth c H locs 0 0 QQ (F0 m 0 ls []) from by rw [hH, hlocs] at hgo; exact hgo
  refine lv_iconst (v := 2) hx hb dX6_passBestMinute_0 (by decide) ?_
  refine lv_istore_n (lv' := [(2, .int 2), (0, .ref co), (1, .ref ro)]) hx hb dX6_passBestMinute_1 rfl hl (by decide) rfl (fun ls hl => ?_)
  refine lv_aload_n hx hb dX6_passBestMinute_2 rfl (lv_at hl 2 rfl) ?_
  refine lv_aload_n hx hb dX6_passBestMinute_3 rfl (lv_at hl 2 rfl) ?_
  refine va_get (D := E.1) (ci := 1) (v := .int rPy) (C := RX1) (T := TX1) (N := 15) hx hb hts n_X1 hown hK hP 5 rfl rfl 9 (by decide) k_131 (fun _ h9 => h9) rfl dX6_passBestMinute_4 ?_
  have hPc := hP.part (cx := (rw_4 E ro rk rh rd rt rl rs rSz rTc rFa rPa rPy rMi rMe rSr rZ rKi rHe rDo rTx rLa rSk)) [5, 6, 7, 8, 9, 10, 11] rfl
  have hDc := hD.part (cx := (rw_4 E ro rk rh rd rt rl rs rSz rTc rFa rPa rPy rMi rMe rSr rZ rKi rHe rDo rTx rLa rSk)) [5, 6, 7, 8, 9, 10, 11] (by decide) rfl
  have hFc := va_freeP (cx := (rw_4 E ro rk rh rd rt rl rs rSz rTc rFa rPa rPy rMi rMe rSr rZ rKi rHe rDo rTx rLa rSk)) hD hS hA [5, 6, 7, 8, 9, 10, 11] rfl
  refine va_calli (va_runV (As := [.int rPy]) (rest := []) ⟨hx, hb, hml, hown, hts⟩ (c_X1_has l E ro rk rh rd rt rl rs H.size rSz rTc rFa rPa rPy rMi rMe rSr rZ rKi rHe rDo rTx rLa rSk rPy LT pk pv pa pn tc _ h) (cwV 1 hts gX6_passBestMinute_X1_has rfl rfl rfl (by decide +kernel) ⟨Nat.le_of_ble_eq_true rfl, Nat.le_of_ble_eq_true rfl⟩) ⟨fun a U g mk q => ⟨q.1, q.2.blind⟩, va_recv hK hPc (ci := 1) (q0 := 0) rfl rfl, fun U hU hW => ⟨rfl, by rw [hU], by rw [hU]; exact hPc, hE.call hS hFc hW hU, hDc.weaken (fun _ _ _ _ => trivial)⟩⟩ rfl rfl hl.1 rfl (lv_room (Nat.le_of_ble_eq_true rfl)) dX6_passBestMinute_7 ⟨Nat.zero_le _, Nat.zero_le _⟩) hS (fun q _ h => hFc q h) hFc (fun r_1 u t H1 locs ht hvm h hB hz1 hk1 hS => ?_)
  obtain ⟨hP1, hD1⟩ := hB
  rw [ht] at hP1
  obtain ⟨hP, hD⟩ := rc_focP hP hD [5, 6, 7, 8, 9, 10, 11] [none, none, none, none, none, some 0, some 1, some 2, some 3, some 4, some 5, some 6] (by decide) rfl rfl hk1 hP1 rfl
  generalize H1 = H at hP hS ⊢
  have hP : va_P E.1 vwCl (rw_9 E co cr jo qo yo eo cs cl cw yr yl yt ro rk rh rd rt rl rs cWs cKp yRi yLe yLa rSz rTc rFa rPa rPy rMi rMe rSr rZ rKi rHe rDo rTx rLa rSk ++ rc_tp E LT pk pv pa pn tc) H := hP
  have hD : va_D A (rw_9 E co cr jo qo yo eo cs cl cw yr yl yt ro rk rh rd rt rl rs cWs cKp yRi yLe yLa rSz rTc rFa rPa rPy rMi rMe rSr rZ rKi rHe rDo rTx rLa rSk ++ rc_tp E LT pk pv pa pn tc) := hD
  refine lv_if_eq (tgt := 36) hx hb dX6_passBestMinute_10 (by decide) (fun c_2 => ?_) (fun c_2 => ?_)
  · have h := h.1 c_2
    refine lv_aload_n hx hb dX6_passBestMinute_36 rfl (lv_at hl 2 rfl) ?_
    refine lv_iload_n hx hb dX6_passBestMinute_37 rfl (lv_at hl 0 rfl) ?_
    have hPc := hP.part (cx := (rw_4 E ro rk rh rd rt rl rs rSz rTc rFa rPa rPy rMi rMe rSr rZ rKi rHe rDo rTx rLa rSk)) [5, 6, 7, 8, 9, 10, 11] rfl
    have hDc := hD.part (cx := (rw_4 E ro rk rh rd rt rl rs rSz rTc rFa rPa rPy rMi rMe rSr rZ rKi rHe rDo rTx rLa rSk)) [5, 6, 7, 8, 9, 10, 11] (by decide) rfl
    have hFc := va_freeP (cx := (rw_4 E ro rk rh rd rt rl rs rSz rTc rFa rPa rPy rMi rMe rSr rZ rKi rHe rDo rTx rLa rSk)) hD hS hA [5, 6, 7, 8, 9, 10, 11] rfl
    refine va_calli (va_runV (As := [.int 2]) (rest := []) ⟨hx, hb, hml, hown, hts⟩ (c_X1_passMinute l E ro rk rh rd rt rl rs H.size rSz rTc rFa rPa rPy rMi rMe rSr rZ rKi rHe rDo rTx rLa rSk 2 LT pk pv pa pn tc _ h) (cwV 1 hts gX6_passBestMinute_X1_passMinute rfl rfl rfl (by decide +kernel) ⟨Nat.le_of_ble_eq_true rfl, Nat.le_of_ble_eq_true rfl⟩) ⟨fun a U g mk q => ⟨q.1, q.2.blind⟩, va_recv hK hPc (ci := 1) (q0 := 0) rfl rfl, fun U hU hW => ⟨rfl, by rw [hU], by rw [hU]; exact hPc, hE.call hS hFc hW hU, hDc.weaken (fun _ _ _ _ => trivial)⟩⟩ rfl rfl hl.1 rfl (lv_room (Nat.le_of_ble_eq_true rfl)) dX6_passBestMinute_38 ⟨Nat.zero_le _, Nat.zero_le _⟩) hS (fun q _ h => hFc q h) hFc (fun r_3 u t H1 locs ht hvm h hB hz1 hk1 hS => ?_)
    obtain ⟨w_4, w_5, w_6, w_7, w_8, w_9, w_10⟩ := u
    obtain ⟨hP1, hD1⟩ := hB
    rw [ht] at hP1
    obtain ⟨hP, hD⟩ := rc_focP hP hD [5, 6, 7, 8, 9, 10, 11] [none, none, none, none, none, some 0, some 1, some 2, some 3, some 4, some 5, some 6] (by decide) rfl rfl hk1 hP1 rfl
    generalize H1 = H at hP hS ⊢
    have hP : va_P E.1 vwCl (rw_9 E co cr jo qo yo eo cs cl cw yr yl yt ro rk rh rd rt rl rs cWs cKp yRi yLe yLa rSz rTc w_4 rPa w_5 w_6 w_7 w_8 w_9 rKi rHe rDo rTx rLa w_10 ++ rc_tp E LT pk pv pa pn tc) H := hP
    have hD : va_D A (rw_9 E co cr jo qo yo eo cs cl cw yr yl yt ro rk rh rd rt rl rs cWs cKp yRi yLe yLa rSz rTc w_4 rPa w_5 w_6 w_7 w_8 w_9 rKi rHe rDo rTx rLa w_10 ++ rc_tp E LT pk pv pa pn tc) := hD
    refine lv_pop hx hb dX6_passBestMinute_41 rfl ?_
    exact hret _ _ _ _ (yLe, yLa, w_4, w_5, w_6, w_7, w_8, w_9, w_10) h hP hD hS dX6_passBestMinute_42
  · have h := h.2 c_2
    refine lv_aload_n hx hb dX6_passBestMinute_13 rfl (lv_at hl 1 rfl) ?_
    refine va_get (D := E.1) (ci := 6) (v := .ref yo) (C := RX6) (T := TX6) (N := 10) hx hb hts n_X6 hown hK hP 0 rfl rfl 3 (by decide) k_25 (fun _ h9 => h9) rfl dX6_passBestMinute_14 ?_
    refine lv_aload_n hx hb dX6_passBestMinute_17 rfl (lv_at hl 2 rfl) ?_
    refine lv_bipush (v := 20) hx hb dX6_passBestMinute_18 (by decide) ?_
    have hPc := hP.part (cx := (rw_7 E yo yr yl yt ro rk rh rd rt rl rs yRi yLe yLa rSz rTc rFa rPa rPy rMi rMe rSr rZ rKi rHe rDo rTx rLa rSk)) [1, 2, 3, 4, 5, 6, 7, 8, 9, 10, 11] rfl
    have hDc := hD.part (cx := (rw_7 E yo yr yl yt ro rk rh rd rt rl rs yRi yLe yLa rSz rTc rFa rPa rPy rMi rMe rSr rZ rKi rHe rDo rTx rLa rSk)) [1, 2, 3, 4, 5, 6, 7, 8, 9, 10, 11] (by decide) rfl
    have hFc := va_freeP (cx := (rw_7 E yo yr yl yt ro rk rh rd rt rl rs yRi yLe yLa rSz rTc rFa rPa rPy rMi rMe rSr rZ rKi rHe rDo rTx rLa rSk)) hD hS hA [1, 2, 3, 4, 5, 6, 7, 8, 9, 10, 11] rfl
    refine va_callv (va_runV (As := [.ref ro, .int 20]) (rest := []) ⟨hx, hb, hml, hown, hts⟩ (c_X5_grow l E yo yr yl yt ro rk rh rd rt rl rs H.size yRi yLe yLa rSz rTc rFa rPa rPy rMi rMe rSr rZ rKi rHe rDo rTx rLa rSk 20 LT pk pv pa pn tc _ h) (cwV 2 hts gX6_passBestMinute_X5_grow rfl rfl rfl (by decide +kernel) ⟨Nat.le_of_ble_eq_true rfl, Nat.le_of_ble_eq_true rfl⟩) ⟨fun a U g mk q => ⟨q.1, q.2.blind⟩, va_recv hK hPc (ci := 5) (q0 := 0) rfl rfl, fun U hU hW => ⟨rfl, by rw [hU], by rw [hU]; exact hPc, hE.call hS hFc hW hU, hDc.weaken (fun _ _ _ _ => trivial)⟩⟩ rfl rfl hl.1 rfl (lv_room (Nat.le_of_ble_eq_true rfl)) dX6_passBestMinute_20 ⟨Nat.zero_le _, Nat.zero_le _⟩) hS (fun q _ h => hFc q h) hFc (fun u t H1 locs ht hvm h hB hz1 hk1 hS => ?_)
    obtain ⟨w_11, w_12, w_13⟩ := u
    obtain ⟨hP1, hD1⟩ := hB
    rw [ht] at hP1
    obtain ⟨hP, hD⟩ := rc_focP hP hD [1, 2, 3, 4, 5, 6, 7, 8, 9, 10, 11] [none, some 0, some 1, some 2, some 3, some 4, some 5, some 6, some 7, some 8, some 9, some 10] (by decide) rfl rfl hk1 hP1 rfl
    generalize H1 = H at hP hS ⊢
    have hP : va_P E.1 vwCl (rw_9 E co cr jo qo yo eo cs cl cw yr yl yt ro rk rh rd rt rl rs cWs cKp yRi w_11 w_12 rSz rTc rFa rPa rPy rMi rMe rSr rZ rKi rHe rDo rTx rLa w_13 ++ rc_tp E LT pk pv pa pn tc) H := hP
    have hD : va_D A (rw_9 E co cr jo qo yo eo cs cl cw yr yl yt ro rk rh rd rt rl rs cWs cKp yRi w_11 w_12 rSz rTc rFa rPa rPy rMi rMe rSr rZ rKi rHe rDo rTx rLa w_13 ++ rc_tp E LT pk pv pa pn tc) := hD
    refine lv_aload_n hx hb dX6_passBestMinute_23 rfl (lv_at hl 1 rfl) ?_
    refine va_get (D := E.1) (ci := 6) (v := .ref yo) (C := RX6) (T := TX6) (N := 10) hx hb hts n_X6 hown hK hP 0 rfl rfl 3 (by decide) k_25 (fun _ h9 => h9) rfl dX6_passBestMinute_24 ?_
    refine lv_aload_n hx hb dX6_passBestMinute_27 rfl (lv_at hl 2 rfl) ?_
    refine lv_aload_n hx hb dX6_passBestMinute_28 rfl (lv_at hl 2 rfl) ?_
    refine va_get (D := E.1) (ci := 1) (v := .int rPy) (C := RX1) (T := TX1) (N := 15) hx hb hts n_X1 hown hK hP 5 rfl rfl 9 (by decide) k_131 (fun _ h9 => h9) rfl dX6_passBestMinute_29 ?_
    have hPc := hP.part (cx := (rw_7 E yo yr yl yt ro rk rh rd rt rl rs yRi w_11 w_12 rSz rTc rFa rPa rPy rMi rMe rSr rZ rKi rHe rDo rTx rLa w_13)) [1, 2, 3, 4, 5, 6, 7, 8, 9, 10, 11] rfl
    have hDc := hD.part (cx := (rw_7 E yo yr yl yt ro rk rh rd rt rl rs yRi w_11 w_12 rSz rTc rFa rPa rPy rMi rMe rSr rZ rKi rHe rDo rTx rLa w_13)) [1, 2, 3, 4, 5, 6, 7, 8, 9, 10, 11] (by decide) rfl
    have hFc := va_freeP (cx := (rw_7 E yo yr yl yt ro rk rh rd rt rl rs yRi w_11 w_12 rSz rTc rFa rPa rPy rMi rMe rSr rZ rKi rHe rDo rTx rLa w_13)) hD hS hA [1, 2, 3, 4, 5, 6, 7, 8, 9, 10, 11] rfl
    refine va_calli (va_runV (As := [.ref ro, .int rPy]) (rest := []) ⟨hx, hb, hml, hown, hts⟩ (c_X5_bestStep l E yo yr yl yt ro rk rh rd rt rl rs H.size yRi w_11 w_12 rSz rTc rFa rPa rPy rMi rMe rSr rZ rKi rHe rDo rTx rLa w_13 rPy LT pk pv pa pn tc _ h) (cwV 2 hts gX6_passBestMinute_X5_bestStep rfl rfl rfl (by decide +kernel) ⟨Nat.le_of_ble_eq_true rfl, Nat.le_of_ble_eq_true rfl⟩) ⟨fun a U g mk q => ⟨q.1, q.2.blind⟩, va_recv hK hPc (ci := 5) (q0 := 0) rfl rfl, fun U hU hW => ⟨rfl, by rw [hU], by rw [hU]; exact hPc, hE.call hS hFc hW hU, hDc.weaken (fun _ _ _ _ => trivial)⟩⟩ rfl rfl hl.1 rfl (lv_room (Nat.le_of_ble_eq_true rfl)) dX6_passBestMinute_32 ⟨Nat.zero_le _, Nat.zero_le _⟩) hS (fun q _ h => hFc q h) hFc (fun r_14 u t H1 locs ht hvm h hB hz1 hk1 hS => ?_)
    obtain ⟨hP1, hD1⟩ := hB
    rw [ht] at hP1
    obtain ⟨hP, hD⟩ := rc_focP hP hD [1, 2, 3, 4, 5, 6, 7, 8, 9, 10, 11] [none, some 0, some 1, some 2, some 3, some 4, some 5, some 6, some 7, some 8, some 9, some 10] (by decide) rfl rfl hk1 hP1 rfl
    generalize H1 = H at hP hS ⊢
    have hP : va_P E.1 vwCl (rw_9 E co cr jo qo yo eo cs cl cw yr yl yt ro rk rh rd rt rl rs cWs cKp yRi w_11 w_12 rSz rTc rFa rPa rPy rMi rMe rSr rZ rKi rHe rDo rTx rLa w_13 ++ rc_tp E LT pk pv pa pn tc) H := hP
    have hD : va_D A (rw_9 E co cr jo qo yo eo cs cl cw yr yl yt ro rk rh rd rt rl rs cWs cKp yRi w_11 w_12 rSz rTc rFa rPa rPy rMi rMe rSr rZ rKi rHe rDo rTx rLa w_13 ++ rc_tp E LT pk pv pa pn tc) := hD
    refine lv_istore_n (lv' := [(2, .int r_14), (0, .ref co), (1, .ref ro)]) hx hb dX6_passBestMinute_35 rfl hl (by decide) rfl (fun ls hl => ?_)
    refine lv_aload_n hx hb dX6_passBestMinute_36 rfl (lv_at hl 2 rfl) ?_
    refine lv_iload_n hx hb dX6_passBestMinute_37 rfl (lv_at hl 0 rfl) ?_
    have hPc := hP.part (cx := (rw_4 E ro rk rh rd rt rl rs rSz rTc rFa rPa rPy rMi rMe rSr rZ rKi rHe rDo rTx rLa w_13)) [5, 6, 7, 8, 9, 10, 11] rfl
    have hDc := hD.part (cx := (rw_4 E ro rk rh rd rt rl rs rSz rTc rFa rPa rPy rMi rMe rSr rZ rKi rHe rDo rTx rLa w_13)) [5, 6, 7, 8, 9, 10, 11] (by decide) rfl
    have hFc := va_freeP (cx := (rw_4 E ro rk rh rd rt rl rs rSz rTc rFa rPa rPy rMi rMe rSr rZ rKi rHe rDo rTx rLa w_13)) hD hS hA [5, 6, 7, 8, 9, 10, 11] rfl
    refine va_calli (va_runV (As := [.int r_14]) (rest := []) ⟨hx, hb, hml, hown, hts⟩ (c_X1_passMinute l E ro rk rh rd rt rl rs H.size rSz rTc rFa rPa rPy rMi rMe rSr rZ rKi rHe rDo rTx rLa w_13 r_14 LT pk pv pa pn tc _ h) (cwV 1 hts gX6_passBestMinute_X1_passMinute rfl rfl rfl (by decide +kernel) ⟨Nat.le_of_ble_eq_true rfl, Nat.le_of_ble_eq_true rfl⟩) ⟨fun a U g mk q => ⟨q.1, q.2.blind⟩, va_recv hK hPc (ci := 1) (q0 := 0) rfl rfl, fun U hU hW => ⟨rfl, by rw [hU], by rw [hU]; exact hPc, hE.call hS hFc hW hU, hDc.weaken (fun _ _ _ _ => trivial)⟩⟩ rfl rfl hl.1 rfl (lv_room (Nat.le_of_ble_eq_true rfl)) dX6_passBestMinute_38 ⟨Nat.zero_le _, Nat.zero_le _⟩) hS (fun q _ h => hFc q h) hFc (fun r_15 u t H1 locs ht hvm h hB hz1 hk1 hS => ?_)
    obtain ⟨w_16, w_17, w_18, w_19, w_20, w_21, w_22⟩ := u
    obtain ⟨hP1, hD1⟩ := hB
    rw [ht] at hP1
    obtain ⟨hP, hD⟩ := rc_focP hP hD [5, 6, 7, 8, 9, 10, 11] [none, none, none, none, none, some 0, some 1, some 2, some 3, some 4, some 5, some 6] (by decide) rfl rfl hk1 hP1 rfl
    generalize H1 = H at hP hS ⊢
    have hP : va_P E.1 vwCl (rw_9 E co cr jo qo yo eo cs cl cw yr yl yt ro rk rh rd rt rl rs cWs cKp yRi w_11 w_12 rSz rTc w_16 rPa w_17 w_18 w_19 w_20 w_21 rKi rHe rDo rTx rLa w_22 ++ rc_tp E LT pk pv pa pn tc) H := hP
    have hD : va_D A (rw_9 E co cr jo qo yo eo cs cl cw yr yl yt ro rk rh rd rt rl rs cWs cKp yRi w_11 w_12 rSz rTc w_16 rPa w_17 w_18 w_19 w_20 w_21 rKi rHe rDo rTx rLa w_22 ++ rc_tp E LT pk pv pa pn tc) := hD
    refine lv_pop hx hb dX6_passBestMinute_41 rfl ?_
    exact hret _ _ _ _ (w_11, w_12, w_16, w_17, w_18, w_19, w_20, w_21, w_22) h hP hD hS dX6_passBestMinute_42
def lp_X6_run_26F (p1 : Int32) (rSz : Int32) (rPa : Int32) (rKi : Nat → Int32) (rHe : Nat → Int32) (rDo : Nat → Int32) (rTx : Nat → Option Nat) (rLa : Nat → Int32) (LT : List Nat) (pn : Nat → Nat) (tc : Nat → Nat → Int32)  (Q : Int32 → (Nat → Int32) → (Nat → Int32) → (Nat → Int32) → Int32 → Int32 → Int32 → Int32 → Int32 → Int32 → (Nat → Int32) → Prop) (R : Int32 → (Nat → Int32) → (Nat → Int32) → (Nat → Int32) → Int32 → Int32 → Int32 → Int32 → Int32 → Int32 → (Nat → Int32) → Prop) (x2 : Int32) (yRi : Nat → Int32) (yLe : Nat → Int32) (yLa : Nat → Int32) (rFa : Int32) (rPy : Int32) (rMi : Int32) (rMe : Int32) (rSr : Int32) (rZ : Int32) (rSk : Nat → Int32) : Prop :=
  ((p1 ≤ x2 → Q x2 yRi yLe yLa rFa rPy rMi rMe rSr rZ rSk) ∧ (¬ (p1 ≤ x2) → ((9999 ≤ rMi → Q x2 yRi yLe yLa rFa rPy rMi rMe rSr rZ rSk) ∧ (¬ (9999 ≤ rMi) → wp_X6_passBestMinute yRi yLe yLa rSz rFa rPa rPy rMi rMe rSr rZ rKi rHe rDo rTx rLa rSk LT pn tc (fun (w_3 : Nat → Int32) (w_4 : Nat → Int32) (w_5 : Int32) (w_6 : Int32) (w_7 : Int32) (w_8 : Int32) (w_9 : Int32) (w_10 : Int32) (w_11 : Nat → Int32) => R (x2 + 1) yRi w_3 w_4 w_5 w_6 w_7 w_8 w_9 w_10 w_11)))))
def lp_X6_run_26 (p1 : Int32) (rSz : Int32) (rPa : Int32) (rKi : Nat → Int32) (rHe : Nat → Int32) (rDo : Nat → Int32) (rTx : Nat → Option Nat) (rLa : Nat → Int32) (LT : List Nat) (pn : Nat → Nat) (tc : Nat → Nat → Int32)  (Q : Int32 → (Nat → Int32) → (Nat → Int32) → (Nat → Int32) → Int32 → Int32 → Int32 → Int32 → Int32 → Int32 → (Nat → Int32) → Prop) (n : Nat) : Int32 → (Nat → Int32) → (Nat → Int32) → (Nat → Int32) → Int32 → Int32 → Int32 → Int32 → Int32 → Int32 → (Nat → Int32) → Prop :=
  Nat.rec (motive := fun _ => Int32 → (Nat → Int32) → (Nat → Int32) → (Nat → Int32) → Int32 → Int32 → Int32 → Int32 → Int32 → Int32 → (Nat → Int32) → Prop) (fun _ _ _ _ _ _ _ _ _ _ _ => False) (fun _ r => lp_X6_run_26F p1 rSz rPa rKi rHe rDo rTx rLa LT pn tc Q r) n
def wp_X6_run (p1 : Int32) (yRi : Nat → Int32) (yLe : Nat → Int32) (yLa : Nat → Int32) (rSz : Int32) (rFa : Int32) (rPa : Int32) (rPy : Int32) (rMi : Int32) (rMe : Int32) (rSr : Int32) (rZ : Int32) (rKi : Nat → Int32) (rHe : Nat → Int32) (rDo : Nat → Int32) (rTx : Nat → Option Nat) (rLa : Nat → Int32) (rSk : Nat → Int32) (LT : List Nat) (pn : Nat → Nat) (tc : Nat → Nat → Int32) (Q : Int32 → (Nat → Int32) → (Nat → Int32) → (Nat → Int32) → Int32 → Int32 → Int32 → Int32 → Int32 → Int32 → (Nat → Int32) → Prop) : Prop :=
  wp_X6_within p1 1 60 (fun (r_12 : Int32) => ((¬ r_12 = 0 → wp_X5_weigh yRi rSz rKi rHe rTx rLa rSk LT pn tc (fun (w_14 : Nat → Int32) (w_15 : Nat → Int32) => (∃ n : Nat, lp_X6_run_26 p1 rSz rPa rKi rHe rDo rTx rLa LT pn tc Q n 0 w_14 yLe yLa rFa rPy rMi rMe rSr rZ w_15))) ∧ (r_12 = 0 → Q (-1000000001) yRi yLe yLa rFa rPy rMi rMe rSr rZ rSk)))
set_option maxHeartbeats 4000000 in
set_option maxRecDepth 100000 in
theorem c_X6_run (l : Launch) (E : gE) (co ro jo qo yo eo cs cl cw yr yl yt rk rh rd rt rl rs : Nat) (sz : Nat) (cWs : Int32) (cKp : Int32) (yRi : Nat → Int32) (yLe : Nat → Int32) (yLa : Nat → Int32) (rSz : Int32) (rTc : Int32) (rFa : Int32) (rPa : Int32) (rPy : Int32) (rMi : Int32) (rMe : Int32) (rSr : Int32) (rZ : Int32) (rKi : Nat → Int32) (rHe : Nat → Int32) (rDo : Nat → Int32) (rTx : Nat → Option Nat) (rLa : Nat → Int32) (rSk : Nat → Int32) (p1 : Int32) (LT : List Nat) (pk : Nat → Int32) (pv : Nat → Int32) (pa : Nat → Nat) (pn : Nat → Nat) (tc : Nat → Nat → Int32) (Q : Int32 → (Nat → Int32) → (Nat → Int32) → (Nat → Int32) → Int32 → Int32 → Int32 → Int32 → Int32 → Int32 → (Nat → Int32) → Prop) (h : wp_X6_run p1 yRi yLe yLa rSz rFa rPa rPy rMi rMe rSr rZ rKi rHe rDo rTx rLa rSk LT pn tc Q) : Met l yX6_run wsX6_run ({ frames := 6, cells := 0, slots := 0, locals := 152 } : Room) (va_Pc [.ref co, .int p1] (rc_B E (rw_10 E co ro jo qo yo eo cs cl cw yr yl yt rk rh rd rt rl rs cWs cKp yRi yLe yLa rSz rTc rFa rPa rPy rMi rMe rSr rZ rKi rHe rDo rTx rLa rSk ++ rc_tp E LT pk pv pa pn tc) sz)) (va_Qi (S := (Nat → Int32) × (Nat → Int32) × (Nat → Int32) × Int32 × Int32 × Int32 × Int32 × Int32 × Int32 × (Nat → Int32)) (fun (r : Int32) (u : (Nat → Int32) × (Nat → Int32) × (Nat → Int32) × Int32 × Int32 × Int32 × Int32 × Int32 × Int32 × (Nat → Int32)) => Q r u.1 u.2.1 u.2.2.1 u.2.2.2.1 u.2.2.2.2.1 u.2.2.2.2.2.1 u.2.2.2.2.2.2.1 u.2.2.2.2.2.2.2.1 u.2.2.2.2.2.2.2.2.1 u.2.2.2.2.2.2.2.2.2) (fun u t => rc_C E (va_A (rw_10 E co ro jo qo yo eo cs cl cw yr yl yt rk rh rd rt rl rs cWs cKp yRi yLe yLa rSz rTc rFa rPa rPy rMi rMe rSr rZ rKi rHe rDo rTx rLa rSk ++ rc_tp E LT pk pv pa pn tc) sz) (rw_10 E co ro jo qo yo eo cs cl cw yr yl yt rk rh rd rt rl rs cWs cKp u.1 u.2.1 u.2.2.1 rSz rTc u.2.2.2.1 rPa u.2.2.2.2.1 u.2.2.2.2.2.1 u.2.2.2.2.2.2.1 u.2.2.2.2.2.2.2.1 u.2.2.2.2.2.2.2.2.1 rKi rHe rDo rTx rLa u.2.2.2.2.2.2.2.2.2 ++ rc_tp E LT pk pv pa pn tc) t) (va_A (rw_10 E co ro jo qo yo eo cs cl cw yr yl yt rk rh rd rt rl rs cWs cKp yRi yLe yLa rSz rTc rFa rPa rPy rMi rMe rSr rZ rKi rHe rDo rTx rLa rSk ++ rc_tp E LT pk pv pa pn tc) sz)) 0 0 (va_A (rw_10 E co ro jo qo yo eo cs cl cw yr yl yt rk rh rd rt rl rs cWs cKp yRi yLe yLa rSz rTc rFa rPa rPy rMi rMe rSr rZ rKi rHe rDo rTx rLa rSk ++ rc_tp E LT pk pv pa pn tc) sz) := by
  refine rc_enterI (cc := cX6_run) (maxL := 3) (by decide) rfl (Nat.le_of_ble_eq_true rfl) ?_
  intro p e s m args below meth c QQ A hx hb hml hown hts hmn hE hP hD hA hret ls hl
  have hown : s.vm.findClass RX6 = some m.cls := hown
  have hK := hE.1
  have hS : va_S A s.heap s.heap [] := va_S.rf
  have hl : lv_has ls 3 [(0, .ref co), (1, .int p1)] := hl
  have n_X1 : ∀ w ∈ wsX10, w ∈ wsX6_run := fun _ h => List.mem_cons_of_mem _ (List.mem_append_left _ (List.mem_append_left _ (List.mem_append_right _ h)))
  have n_X6 : ∀ w ∈ wsX60, w ∈ wsX6_run := fun _ h => List.mem_cons_of_mem _ (List.mem_append_left _ (List.mem_append_left _ (List.mem_append_left _ (List.mem_append_right _ h))))
  have k_10 := hts (.fieldLink RX6 10 "RidgeClaps" "ridge" "LRidgeClaps$Ridge;") (List.mem_of_getElem? (i := 3) rfl)
  have k_138 := hts (.fieldLink RX6 138 "RidgeClaps$Ridge" "minute" "I") (List.mem_of_getElem? (i := 4) rfl)
  have k_25 := hts (.fieldLink RX6 25 "RidgeClaps" "ways" "LRidgeClaps$Ways;") (List.mem_of_getElem? (i := 2) rfl)
  have k_70 := hts (.constant RX6 70 (-1000000001)) (List.mem_of_getElem? (i := 1) rfl)
  have J26 : ∀ (n : Nat) (x2 : Int32) (yRi : Nat → Int32) (yLe : Nat → Int32) (yLa : Nat → Int32) (rFa : Int32) (rPy : Int32) (rMi : Int32) (rMe : Int32) (rSr : Int32) (rZ : Int32) (rSk : Nat → Int32), lp_X6_run_26 p1 rSz rPa rKi rHe rDo rTx rLa LT pn tc Q n x2 yRi yLe yLa rFa rPy rMi rMe rSr rZ rSk → ∀ (H : Heap) (locs : List Loc), va_P E.1 vwCl (rw_10 E co ro jo qo yo eo cs cl cw yr yl yt rk rh rd rt rl rs cWs cKp yRi yLe yLa rSz rTc rFa rPa rPy rMi rMe rSr rZ rKi rHe rDo rTx rLa rSk ++ rc_tp E LT pk pv pa pn tc) H → va_D A (rw_10 E co ro jo qo yo eo cs cl cw yr yl yt rk rh rd rt rl rs cWs cKp yRi yLe yLa rSz rTc rFa rPa rPy rMi rMe rSr rZ rKi rHe rDo rTx rLa rSk ++ rc_tp E LT pk pv pa pn tc) → va_S A s.heap H locs → ∀ ls : Array Slot, lv_has ls 3 [(0, .ref co), (1, .int p1), (2, .int x2)] → W p l e ({ frames := 6, cells := 0, slots := 0, locals := 152 } : Room) s m args below meth c H locs 0 0 QQ (F0 m 26 ls []) := by
    intro n
    induction n with
    | zero =>
      intro x2 yRi yLe yLa rFa rPy rMi rMe rSr rZ rSk h
      exact False.elim h
    | succ n ih =>
      intro x2 yRi yLe yLa rFa rPy rMi rMe rSr rZ rSk h H locs hP hD hS ls hl
      have h : lp_X6_run_26F p1 rSz rPa rKi rHe rDo rTx rLa LT pn tc Q (lp_X6_run_26 p1 rSz rPa rKi rHe rDo rTx rLa LT pn tc Q n) x2 yRi yLe yLa rFa rPy rMi rMe rSr rZ rSk := h
      unfold lp_X6_run_26F at h
      refine lv_iload_n hx hb dX6_run_26 rfl (lv_at hl 2 rfl) ?_
      refine lv_iload_n hx hb dX6_run_27 rfl (lv_at hl 1 rfl) ?_
      refine lv_icmp_ge (tgt := 58) hx hb dX6_run_28 (by decide) (fun c_1 => ?_) (fun c_1 => ?_)
      · have h := h.1 c_1
        refine lv_iload_n hx hb dX6_run_58 rfl (lv_at hl 2 rfl) ?_
        exact hret _ _ _ _ x2 (yRi, yLe, yLa, rFa, rPy, rMi, rMe, rSr, rZ, rSk) rfl h hP hD hS dX6_run_59
      · have h := h.2 c_1
        refine lv_aload_n hx hb dX6_run_31 rfl (lv_at hl 0 rfl) ?_
        refine va_get (D := E.1) (ci := 6) (v := .ref ro) (C := RX6) (T := TX6) (N := 10) hx hb hts n_X6 hown hK hP 0 rfl rfl 0 (by decide) k_10 (fun _ h9 => h9) rfl dX6_run_32 ?_
        refine va_get (D := E.1) (ci := 1) (v := .int rMi) (C := RX1) (T := TX1) (N := 15) hx hb hts n_X1 hown hK hP 5 rfl rfl 10 (by decide) k_138 (fun _ h9 => h9) rfl dX6_run_35 ?_
        refine lv_sipush (v := 9999) hx hb dX6_run_38 (by decide) ?_
        refine lv_icmp_ge (tgt := 58) hx hb dX6_run_41 (by decide) (fun c_2 => ?_) (fun c_2 => ?_)
        · have h := h.1 c_2
          refine lv_iload_n hx hb dX6_run_58 rfl (lv_at hl 2 rfl) ?_
          exact hret _ _ _ _ x2 (yRi, yLe, yLa, rFa, rPy, rMi, rMe, rSr, rZ, rSk) rfl h hP hD hS dX6_run_59
        · have h := h.2 c_2
          refine lv_aload_n hx hb dX6_run_44 rfl (lv_at hl 0 rfl) ?_
          refine lv_aload_n hx hb dX6_run_45 rfl (lv_at hl 0 rfl) ?_
          refine va_get (D := E.1) (ci := 6) (v := .ref ro) (C := RX6) (T := TX6) (N := 10) hx hb hts n_X6 hown hK hP 0 rfl rfl 0 (by decide) k_10 (fun _ h9 => h9) rfl dX6_run_46 ?_
          have hPc := hP
          have hDc := hD
          have hFc := rc_freeI hD hS hA
          refine va_callv (va_runV (As := [.ref ro]) (rest := []) ⟨hx, hb, hml, hown, hts⟩ (c_X6_passBestMinute l E co ro jo qo yo eo cs cl cw yr yl yt ro rk rh rd rt rl rs H.size cWs cKp yRi yLe yLa rSz rTc rFa rPa rPy rMi rMe rSr rZ rKi rHe rDo rTx rLa rSk LT pk pv pa pn tc _ h) (cwV 1 hts gX6_run_X6_passBestMinute rfl rfl rfl (by decide +kernel) ⟨Nat.le_of_ble_eq_true rfl, Nat.le_of_ble_eq_true rfl⟩) ⟨fun a U g mk q => ⟨q.1, q.2.blind⟩, va_recv hK hPc (ci := 6) (q0 := 0) rfl rfl, fun U hU hW => ⟨rfl, by rw [hU], by rw [hU]; exact hPc, hE.call hS hFc hW hU, hDc.weaken (fun _ _ _ _ => trivial)⟩⟩ rfl rfl hl.1 rfl (lv_room (Nat.le_of_ble_eq_true rfl)) dX6_run_49 ⟨Nat.zero_le _, Nat.zero_le _⟩) hS (fun q _ h => hFc q h) hFc (fun u t H1 locs ht hvm h hB hz1 hk1 hS => ?_)
          obtain ⟨w_3, w_4, w_5, w_6, w_7, w_8, w_9, w_10, w_11⟩ := u
          obtain ⟨hP1, hD1⟩ := hB
          rw [ht] at hP1
          have hP := hP1
          have hD := hD1.weaken (fun _ _ _ h => hFc _ h)
          generalize H1 = H at hP hS ⊢
          have hP : va_P E.1 vwCl (rw_10 E co ro jo qo yo eo cs cl cw yr yl yt rk rh rd rt rl rs cWs cKp yRi w_3 w_4 rSz rTc w_5 rPa w_6 w_7 w_8 w_9 w_10 rKi rHe rDo rTx rLa w_11 ++ rc_tp E LT pk pv pa pn tc) H := hP
          have hD : va_D A (rw_10 E co ro jo qo yo eo cs cl cw yr yl yt rk rh rd rt rl rs cWs cKp yRi w_3 w_4 rSz rTc w_5 rPa w_6 w_7 w_8 w_9 w_10 rKi rHe rDo rTx rLa w_11 ++ rc_tp E LT pk pv pa pn tc) := hD
          refine lv_iinc (v := x2 + 1) (lv' := [(2, .int (x2 + 1)), (0, .ref co), (1, .int p1)]) hx hb dX6_run_52 hl (k := 2) rfl (by rfl) (by decide) rfl (fun ls hl => ?_)
          refine lv_goto (tgt := 26) hx hb dX6_run_55 (by decide) ?_
          exact ih (x2 + 1) yRi w_3 w_4 w_5 w_6 w_7 w_8 w_9 w_10 w_11 h _ _ hP hD hS ls (lv_sub hl [1, 2, 0] rfl)
  unfold wp_X6_run at h
  obtain ⟨H, hH⟩ : ∃ H, H = s.heap := ⟨_, rfl⟩
  obtain ⟨locs, hlocs⟩ : ∃ locs : List Loc, locs = [] := ⟨_, rfl⟩
  have hP : va_P E.1 vwCl (rw_10 E co ro jo qo yo eo cs cl cw yr yl yt rk rh rd rt rl rs cWs cKp yRi yLe yLa rSz rTc rFa rPa rPy rMi rMe rSr rZ rKi rHe rDo rTx rLa rSk ++ rc_tp E LT pk pv pa pn tc) H := by rw [hH]; exact hP
  have hS : va_S A s.heap H locs := by rw [hH, hlocs]; exact hS
  suffices hgo : W p l e ({ frames := 6, cells := 0, slots := 0, locals := 152 } : Room) s m args below meth c H locs 0 0 QQ (F0 m 0 ls []) from by rw [hH, hlocs] at hgo; exact hgo
  refine lv_iload_n hx hb dX6_run_0 rfl (lv_at hl 1 rfl) ?_
  refine lv_iconst (v := 1) hx hb dX6_run_1 (by decide) ?_
  refine lv_bipush (v := 60) hx hb dX6_run_2 (by decide) ?_
  have hPc := hP.sub (ws' := []) [] rfl
  have hDc := hD.sub (ws' := []) [] (by decide) rfl
  have hFc := va_free (wc := []) hD hS hA [] rfl
  refine va_calli (va_runS (As := [.int p1, .int 1, .int 60]) (rest := []) ⟨hx, hb, hml, hown, hts⟩ (c_X6_within l E H.size p1 1 60 _ h) (va_cwS 3 hts gX6_run_X6_within rfl rfl rfl (by decide +kernel) ⟨Nat.le_of_ble_eq_true rfl, Nat.le_of_ble_eq_true rfl⟩) ⟨fun a U g mk q => ⟨q.1, q.2.blind⟩, fun U hU hW => ⟨rfl, by rw [hU], by rw [hU]; exact hPc, hE.call hS hFc hW hU, hDc.weaken (fun _ _ _ _ => trivial)⟩⟩ rfl rfl hl.1 rfl (lv_room (Nat.le_of_ble_eq_true rfl)) dX6_run_4 ⟨Nat.zero_le _, Nat.zero_le _⟩) hS (fun q _ h => hFc q h) hFc (fun r_12 u t H1 locs ht hvm h hB hz1 hk1 hS => ?_)
  obtain ⟨hP1, hD1⟩ := hB
  rw [ht] at hP1
  obtain ⟨hP, hD⟩ := rc_foc hP hD [] [none, none, none, none, none, none, none, none, none, none, none, none] (by decide) rfl hk1 hP1 rfl
  generalize H1 = H at hP hS ⊢
  have hP : va_P E.1 vwCl (rw_10 E co ro jo qo yo eo cs cl cw yr yl yt rk rh rd rt rl rs cWs cKp yRi yLe yLa rSz rTc rFa rPa rPy rMi rMe rSr rZ rKi rHe rDo rTx rLa rSk ++ rc_tp E LT pk pv pa pn tc) H := hP
  have hD : va_D A (rw_10 E co ro jo qo yo eo cs cl cw yr yl yt rk rh rd rt rl rs cWs cKp yRi yLe yLa rSz rTc rFa rPa rPy rMi rMe rSr rZ rKi rHe rDo rTx rLa rSk ++ rc_tp E LT pk pv pa pn tc) := hD
  refine lv_if_ne (tgt := 13) hx hb dX6_run_7 (by decide) (fun c_13 => ?_) (fun c_13 => ?_)
  · have h := h.1 c_13
    refine lv_aload_n hx hb dX6_run_13 rfl (lv_at hl 0 rfl) ?_
    refine va_get (D := E.1) (ci := 6) (v := .ref yo) (C := RX6) (T := TX6) (N := 10) hx hb hts n_X6 hown hK hP 0 rfl rfl 3 (by decide) k_25 (fun _ h9 => h9) rfl dX6_run_14 ?_
    refine lv_aload_n hx hb dX6_run_17 rfl (lv_at hl 0 rfl) ?_
    refine va_get (D := E.1) (ci := 6) (v := .ref ro) (C := RX6) (T := TX6) (N := 10) hx hb hts n_X6 hown hK hP 0 rfl rfl 0 (by decide) k_10 (fun _ h9 => h9) rfl dX6_run_18 ?_
    have hPc := hP.part (cx := (rw_7 E yo yr yl yt ro rk rh rd rt rl rs yRi yLe yLa rSz rTc rFa rPa rPy rMi rMe rSr rZ rKi rHe rDo rTx rLa rSk)) [1, 2, 3, 4, 5, 6, 7, 8, 9, 10, 11] rfl
    have hDc := hD.part (cx := (rw_7 E yo yr yl yt ro rk rh rd rt rl rs yRi yLe yLa rSz rTc rFa rPa rPy rMi rMe rSr rZ rKi rHe rDo rTx rLa rSk)) [1, 2, 3, 4, 5, 6, 7, 8, 9, 10, 11] (by decide) rfl
    have hFc := va_freeP (cx := (rw_7 E yo yr yl yt ro rk rh rd rt rl rs yRi yLe yLa rSz rTc rFa rPa rPy rMi rMe rSr rZ rKi rHe rDo rTx rLa rSk)) hD hS hA [1, 2, 3, 4, 5, 6, 7, 8, 9, 10, 11] rfl
    refine va_callv (va_runV (As := [.ref ro]) (rest := []) ⟨hx, hb, hml, hown, hts⟩ (c_X5_weigh l E yo yr yl yt ro rk rh rd rt rl rs H.size yRi yLe yLa rSz rTc rFa rPa rPy rMi rMe rSr rZ rKi rHe rDo rTx rLa rSk LT pk pv pa pn tc _ h) (cwV 1 hts gX6_run_X5_weigh rfl rfl rfl (by decide +kernel) ⟨Nat.le_of_ble_eq_true rfl, Nat.le_of_ble_eq_true rfl⟩) ⟨fun a U g mk q => ⟨q.1, q.2.blind⟩, va_recv hK hPc (ci := 5) (q0 := 0) rfl rfl, fun U hU hW => ⟨rfl, by rw [hU], by rw [hU]; exact hPc, hE.call hS hFc hW hU, hDc.weaken (fun _ _ _ _ => trivial)⟩⟩ rfl rfl hl.1 rfl (lv_room (Nat.le_of_ble_eq_true rfl)) dX6_run_21 ⟨Nat.zero_le _, Nat.zero_le _⟩) hS (fun q _ h => hFc q h) hFc (fun u t H1 locs ht hvm h hB hz1 hk1 hS => ?_)
    obtain ⟨w_14, w_15⟩ := u
    obtain ⟨hP1, hD1⟩ := hB
    rw [ht] at hP1
    obtain ⟨hP, hD⟩ := rc_focP hP hD [1, 2, 3, 4, 5, 6, 7, 8, 9, 10, 11] [none, some 0, some 1, some 2, some 3, some 4, some 5, some 6, some 7, some 8, some 9, some 10] (by decide) rfl rfl hk1 hP1 rfl
    generalize H1 = H at hP hS ⊢
    have hP : va_P E.1 vwCl (rw_10 E co ro jo qo yo eo cs cl cw yr yl yt rk rh rd rt rl rs cWs cKp w_14 yLe yLa rSz rTc rFa rPa rPy rMi rMe rSr rZ rKi rHe rDo rTx rLa w_15 ++ rc_tp E LT pk pv pa pn tc) H := hP
    have hD : va_D A (rw_10 E co ro jo qo yo eo cs cl cw yr yl yt rk rh rd rt rl rs cWs cKp w_14 yLe yLa rSz rTc rFa rPa rPy rMi rMe rSr rZ rKi rHe rDo rTx rLa w_15 ++ rc_tp E LT pk pv pa pn tc) := hD
    refine lv_iconst (v := 0) hx hb dX6_run_24 (by decide) ?_
    refine lv_istore_n (lv' := [(2, .int 0), (0, .ref co), (1, .int p1)]) hx hb dX6_run_25 rfl hl (by decide) rfl (fun ls hl => ?_)
    obtain ⟨n, h⟩ := h
    exact J26 n 0 w_14 yLe yLa rFa rPy rMi rMe rSr rZ w_15 h _ _ hP hD hS ls (lv_sub hl [1, 2, 0] rfl)
  · have h := h.2 c_13
    refine lv_ldc hx hb hown k_70 dX6_run_10 ?_
    exact hret _ _ _ _ (-1000000001) (yRi, yLe, yLa, rFa, rPy, rMi, rMe, rSr, rZ, rSk) rfl h hP hD hS dX6_run_12
def wp_X6_tree (p1 : Int32) (p2 : Int32) (p3 : Int32) (yRi : Nat → Int32) (yLe : Nat → Int32) (yLa : Nat → Int32) (rSz : Int32) (rFa : Int32) (rPa : Int32) (rKi : Nat → Int32) (rHe : Nat → Int32) (rDo : Nat → Int32) (rTx : Nat → Option Nat) (rLa : Nat → Int32) (rSk : Nat → Int32) (LT : List Nat) (pn : Nat → Nat) (tc : Nat → Nat → Int32) (Q : Int32 → (Nat → Int32) → (Nat → Int32) → (Nat → Int32) → (Nat → Int32) → Prop) : Prop :=
  wp_X1_has p1 rSz (fun (r_1 : Int32) => ((r_1 = 0 → Q (-1000000001) yRi yLe yLa rSk) ∧ (¬ (r_1 = 0) → wp_X6_within p2 1 60 (fun (r_3 : Int32) => ((r_3 = 0 → Q (-1000000001) yRi yLe yLa rSk) ∧ (¬ (r_3 = 0) → wp_X6_within p3 0 1 (fun (r_5 : Int32) => ((¬ r_5 = 0 → wp_X5_weigh yRi rSz rKi rHe rTx rLa rSk LT pn tc (fun (w_7 : Nat → Int32) (w_8 : Nat → Int32) => wp_X5_grow p2 w_7 yLe yLa rSz rFa rPa rDo rTx rLa w_8 LT pn tc (fun (w_9 : Nat → Int32) (w_10 : Nat → Int32) (w_11 : Nat → Int32) => ((¬ p3 = 0 → wp_X5_bestStep p1 w_10 rSz rDo (fun (r_13 : Int32) => Q r_13 w_7 w_9 w_10 w_11)) ∧ (p3 = 0 → (vp_in p1 24 ∧ Q (w_9 p1.toNatClampNeg) w_7 w_9 w_10 w_11)))))) ∧ (r_5 = 0 → Q (-1000000001) yRi yLe yLa rSk)))))))))
set_option maxHeartbeats 4000000 in
set_option maxRecDepth 100000 in
theorem c_X6_tree (l : Launch) (E : gE) (co ro jo qo yo eo cs cl cw yr yl yt rk rh rd rt rl rs : Nat) (sz : Nat) (cWs : Int32) (cKp : Int32) (yRi : Nat → Int32) (yLe : Nat → Int32) (yLa : Nat → Int32) (rSz : Int32) (rTc : Int32) (rFa : Int32) (rPa : Int32) (rPy : Int32) (rMi : Int32) (rMe : Int32) (rSr : Int32) (rZ : Int32) (rKi : Nat → Int32) (rHe : Nat → Int32) (rDo : Nat → Int32) (rTx : Nat → Option Nat) (rLa : Nat → Int32) (rSk : Nat → Int32) (p1 p2 p3 : Int32) (LT : List Nat) (pk : Nat → Int32) (pv : Nat → Int32) (pa : Nat → Nat) (pn : Nat → Nat) (tc : Nat → Nat → Int32) (Q : Int32 → (Nat → Int32) → (Nat → Int32) → (Nat → Int32) → (Nat → Int32) → Prop) (h : wp_X6_tree p1 p2 p3 yRi yLe yLa rSz rFa rPa rKi rHe rDo rTx rLa rSk LT pn tc Q) : Met l yX6_tree wsX6_tree ({ frames := 5, cells := 0, slots := 0, locals := 130 } : Room) (va_Pc [.ref co, .int p1, .int p2, .int p3] (rc_B E (rw_10 E co ro jo qo yo eo cs cl cw yr yl yt rk rh rd rt rl rs cWs cKp yRi yLe yLa rSz rTc rFa rPa rPy rMi rMe rSr rZ rKi rHe rDo rTx rLa rSk ++ rc_tp E LT pk pv pa pn tc) sz)) (va_Qi (S := (Nat → Int32) × (Nat → Int32) × (Nat → Int32) × (Nat → Int32)) (fun (r : Int32) (u : (Nat → Int32) × (Nat → Int32) × (Nat → Int32) × (Nat → Int32)) => Q r u.1 u.2.1 u.2.2.1 u.2.2.2) (fun u t => rc_C E (va_A (rw_10 E co ro jo qo yo eo cs cl cw yr yl yt rk rh rd rt rl rs cWs cKp yRi yLe yLa rSz rTc rFa rPa rPy rMi rMe rSr rZ rKi rHe rDo rTx rLa rSk ++ rc_tp E LT pk pv pa pn tc) sz) (rw_10 E co ro jo qo yo eo cs cl cw yr yl yt rk rh rd rt rl rs cWs cKp u.1 u.2.1 u.2.2.1 rSz rTc rFa rPa rPy rMi rMe rSr rZ rKi rHe rDo rTx rLa u.2.2.2 ++ rc_tp E LT pk pv pa pn tc) t) (va_A (rw_10 E co ro jo qo yo eo cs cl cw yr yl yt rk rh rd rt rl rs cWs cKp yRi yLe yLa rSz rTc rFa rPa rPy rMi rMe rSr rZ rKi rHe rDo rTx rLa rSk ++ rc_tp E LT pk pv pa pn tc) sz)) 0 0 (va_A (rw_10 E co ro jo qo yo eo cs cl cw yr yl yt rk rh rd rt rl rs cWs cKp yRi yLe yLa rSz rTc rFa rPa rPy rMi rMe rSr rZ rKi rHe rDo rTx rLa rSk ++ rc_tp E LT pk pv pa pn tc) sz) := by
  refine rc_enterI (cc := cX6_tree) (maxL := 4) (by decide) rfl (Nat.le_of_ble_eq_true rfl) ?_
  intro p e s m args below meth c QQ A hx hb hml hown hts hmn hE hP hD hA hret ls hl
  have hown : s.vm.findClass RX6 = some m.cls := hown
  have hK := hE.1
  have hS : va_S A s.heap s.heap [] := va_S.rf
  have hl : lv_has ls 4 [(0, .ref co), (1, .int p1), (2, .int p2), (3, .int p3)] := hl
  have n_X5 : ∀ w ∈ wsX50, w ∈ wsX6_tree := fun _ h => List.mem_cons_of_mem _ (List.mem_append_left _ (List.mem_append_left _ (List.mem_append_right _ h)))
  have n_X6 : ∀ w ∈ wsX60, w ∈ wsX6_tree := fun _ h => List.mem_cons_of_mem _ (List.mem_append_left _ (List.mem_append_left _ (List.mem_append_left _ (List.mem_append_right _ h))))
  have k_10 := hts (.fieldLink RX6 10 "RidgeClaps" "ridge" "LRidgeClaps$Ridge;") (List.mem_of_getElem? (i := 1) rfl)
  have k_70 := hts (.constant RX6 70 (-1000000001)) (List.mem_of_getElem? (i := 2) rfl)
  have k_25 := hts (.fieldLink RX6 25 "RidgeClaps" "ways" "LRidgeClaps$Ways;") (List.mem_of_getElem? (i := 3) rfl)
  have k_155 := hts (.fieldLink RX6 155 "RidgeClaps$Ways" "least" "[I") (List.mem_of_getElem? (i := 4) rfl)
  unfold wp_X6_tree at h
  obtain ⟨H, hH⟩ : ∃ H, H = s.heap := ⟨_, rfl⟩
  obtain ⟨locs, hlocs⟩ : ∃ locs : List Loc, locs = [] := ⟨_, rfl⟩
  have hP : va_P E.1 vwCl (rw_10 E co ro jo qo yo eo cs cl cw yr yl yt rk rh rd rt rl rs cWs cKp yRi yLe yLa rSz rTc rFa rPa rPy rMi rMe rSr rZ rKi rHe rDo rTx rLa rSk ++ rc_tp E LT pk pv pa pn tc) H := by rw [hH]; exact hP
  have hS : va_S A s.heap H locs := by rw [hH, hlocs]; exact hS
  suffices hgo : W p l e ({ frames := 5, cells := 0, slots := 0, locals := 130 } : Room) s m args below meth c H locs 0 0 QQ (F0 m 0 ls []) from by rw [hH, hlocs] at hgo; exact hgo
  refine lv_aload_n hx hb dX6_tree_0 rfl (lv_at hl 0 rfl) ?_
  refine va_get (D := E.1) (ci := 6) (v := .ref ro) (C := RX6) (T := TX6) (N := 10) hx hb hts n_X6 hown hK hP 0 rfl rfl 0 (by decide) k_10 (fun _ h9 => h9) rfl dX6_tree_1 ?_
  refine lv_iload_n hx hb dX6_tree_4 rfl (lv_at hl 1 rfl) ?_
  have hPc := hP.part (cx := (rw_4 E ro rk rh rd rt rl rs rSz rTc rFa rPa rPy rMi rMe rSr rZ rKi rHe rDo rTx rLa rSk)) [5, 6, 7, 8, 9, 10, 11] rfl
  have hDc := hD.part (cx := (rw_4 E ro rk rh rd rt rl rs rSz rTc rFa rPa rPy rMi rMe rSr rZ rKi rHe rDo rTx rLa rSk)) [5, 6, 7, 8, 9, 10, 11] (by decide) rfl
  have hFc := va_freeP (cx := (rw_4 E ro rk rh rd rt rl rs rSz rTc rFa rPa rPy rMi rMe rSr rZ rKi rHe rDo rTx rLa rSk)) hD hS hA [5, 6, 7, 8, 9, 10, 11] rfl
  refine va_calli (va_runV (As := [.int p1]) (rest := []) ⟨hx, hb, hml, hown, hts⟩ (c_X1_has l E ro rk rh rd rt rl rs H.size rSz rTc rFa rPa rPy rMi rMe rSr rZ rKi rHe rDo rTx rLa rSk p1 LT pk pv pa pn tc _ h) (cwV 1 hts gX6_tree_X1_has rfl rfl rfl (by decide +kernel) ⟨Nat.le_of_ble_eq_true rfl, Nat.le_of_ble_eq_true rfl⟩) ⟨fun a U g mk q => ⟨q.1, q.2.blind⟩, va_recv hK hPc (ci := 1) (q0 := 0) rfl rfl, fun U hU hW => ⟨rfl, by rw [hU], by rw [hU]; exact hPc, hE.call hS hFc hW hU, hDc.weaken (fun _ _ _ _ => trivial)⟩⟩ rfl rfl hl.1 rfl (lv_room (Nat.le_of_ble_eq_true rfl)) dX6_tree_5 ⟨Nat.zero_le _, Nat.zero_le _⟩) hS (fun q _ h => hFc q h) hFc (fun r_1 u t H1 locs ht hvm h hB hz1 hk1 hS => ?_)
  obtain ⟨hP1, hD1⟩ := hB
  rw [ht] at hP1
  obtain ⟨hP, hD⟩ := rc_focP hP hD [5, 6, 7, 8, 9, 10, 11] [none, none, none, none, none, some 0, some 1, some 2, some 3, some 4, some 5, some 6] (by decide) rfl rfl hk1 hP1 rfl
  generalize H1 = H at hP hS ⊢
  have hP : va_P E.1 vwCl (rw_10 E co ro jo qo yo eo cs cl cw yr yl yt rk rh rd rt rl rs cWs cKp yRi yLe yLa rSz rTc rFa rPa rPy rMi rMe rSr rZ rKi rHe rDo rTx rLa rSk ++ rc_tp E LT pk pv pa pn tc) H := hP
  have hD : va_D A (rw_10 E co ro jo qo yo eo cs cl cw yr yl yt rk rh rd rt rl rs cWs cKp yRi yLe yLa rSz rTc rFa rPa rPy rMi rMe rSr rZ rKi rHe rDo rTx rLa rSk ++ rc_tp E LT pk pv pa pn tc) := hD
  refine lv_if_eq (tgt := 30) hx hb dX6_tree_8 (by decide) (fun c_2 => ?_) (fun c_2 => ?_)
  · have h := h.1 c_2
    refine lv_ldc hx hb hown k_70 dX6_tree_30 ?_
    exact hret _ _ _ _ (-1000000001) (yRi, yLe, yLa, rSk) rfl h hP hD hS dX6_tree_32
  · have h := h.2 c_2
    refine lv_iload_n hx hb dX6_tree_11 rfl (lv_at hl 2 rfl) ?_
    refine lv_iconst (v := 1) hx hb dX6_tree_12 (by decide) ?_
    refine lv_bipush (v := 60) hx hb dX6_tree_13 (by decide) ?_
    have hPc := hP.sub (ws' := []) [] rfl
    have hDc := hD.sub (ws' := []) [] (by decide) rfl
    have hFc := va_free (wc := []) hD hS hA [] rfl
    refine va_calli (va_runS (As := [.int p2, .int 1, .int 60]) (rest := []) ⟨hx, hb, hml, hown, hts⟩ (c_X6_within l E H.size p2 1 60 _ h) (va_cwS 3 hts gX6_tree_X6_within rfl rfl rfl (by decide +kernel) ⟨Nat.le_of_ble_eq_true rfl, Nat.le_of_ble_eq_true rfl⟩) ⟨fun a U g mk q => ⟨q.1, q.2.blind⟩, fun U hU hW => ⟨rfl, by rw [hU], by rw [hU]; exact hPc, hE.call hS hFc hW hU, hDc.weaken (fun _ _ _ _ => trivial)⟩⟩ rfl rfl hl.1 rfl (lv_room (Nat.le_of_ble_eq_true rfl)) dX6_tree_15 ⟨Nat.zero_le _, Nat.zero_le _⟩) hS (fun q _ h => hFc q h) hFc (fun r_3 u t H1 locs ht hvm h hB hz1 hk1 hS => ?_)
    obtain ⟨hP1, hD1⟩ := hB
    rw [ht] at hP1
    obtain ⟨hP, hD⟩ := rc_foc hP hD [] [none, none, none, none, none, none, none, none, none, none, none, none] (by decide) rfl hk1 hP1 rfl
    generalize H1 = H at hP hS ⊢
    have hP : va_P E.1 vwCl (rw_10 E co ro jo qo yo eo cs cl cw yr yl yt rk rh rd rt rl rs cWs cKp yRi yLe yLa rSz rTc rFa rPa rPy rMi rMe rSr rZ rKi rHe rDo rTx rLa rSk ++ rc_tp E LT pk pv pa pn tc) H := hP
    have hD : va_D A (rw_10 E co ro jo qo yo eo cs cl cw yr yl yt rk rh rd rt rl rs cWs cKp yRi yLe yLa rSz rTc rFa rPa rPy rMi rMe rSr rZ rKi rHe rDo rTx rLa rSk ++ rc_tp E LT pk pv pa pn tc) := hD
    refine lv_if_eq (tgt := 30) hx hb dX6_tree_18 (by decide) (fun c_4 => ?_) (fun c_4 => ?_)
    · have h := h.1 c_4
      refine lv_ldc hx hb hown k_70 dX6_tree_30 ?_
      exact hret _ _ _ _ (-1000000001) (yRi, yLe, yLa, rSk) rfl h hP hD hS dX6_tree_32
    · have h := h.2 c_4
      refine lv_iload_n hx hb dX6_tree_21 rfl (lv_at hl 3 rfl) ?_
      refine lv_iconst (v := 0) hx hb dX6_tree_22 (by decide) ?_
      refine lv_iconst (v := 1) hx hb dX6_tree_23 (by decide) ?_
      have hPc := hP.sub (ws' := []) [] rfl
      have hDc := hD.sub (ws' := []) [] (by decide) rfl
      have hFc := va_free (wc := []) hD hS hA [] rfl
      refine va_calli (va_runS (As := [.int p3, .int 0, .int 1]) (rest := []) ⟨hx, hb, hml, hown, hts⟩ (c_X6_within l E H.size p3 0 1 _ h) (va_cwS 3 hts gX6_tree_X6_within rfl rfl rfl (by decide +kernel) ⟨Nat.le_of_ble_eq_true rfl, Nat.le_of_ble_eq_true rfl⟩) ⟨fun a U g mk q => ⟨q.1, q.2.blind⟩, fun U hU hW => ⟨rfl, by rw [hU], by rw [hU]; exact hPc, hE.call hS hFc hW hU, hDc.weaken (fun _ _ _ _ => trivial)⟩⟩ rfl rfl hl.1 rfl (lv_room (Nat.le_of_ble_eq_true rfl)) dX6_tree_24 ⟨Nat.zero_le _, Nat.zero_le _⟩) hS (fun q _ h => hFc q h) hFc (fun r_5 u t H1 locs ht hvm h hB hz1 hk1 hS => ?_)
      obtain ⟨hP1, hD1⟩ := hB
      rw [ht] at hP1
      obtain ⟨hP, hD⟩ := rc_foc hP hD [] [none, none, none, none, none, none, none, none, none, none, none, none] (by decide) rfl hk1 hP1 rfl
      generalize H1 = H at hP hS ⊢
      have hP : va_P E.1 vwCl (rw_10 E co ro jo qo yo eo cs cl cw yr yl yt rk rh rd rt rl rs cWs cKp yRi yLe yLa rSz rTc rFa rPa rPy rMi rMe rSr rZ rKi rHe rDo rTx rLa rSk ++ rc_tp E LT pk pv pa pn tc) H := hP
      have hD : va_D A (rw_10 E co ro jo qo yo eo cs cl cw yr yl yt rk rh rd rt rl rs cWs cKp yRi yLe yLa rSz rTc rFa rPa rPy rMi rMe rSr rZ rKi rHe rDo rTx rLa rSk ++ rc_tp E LT pk pv pa pn tc) := hD
      refine lv_if_ne (tgt := 33) hx hb dX6_tree_27 (by decide) (fun c_6 => ?_) (fun c_6 => ?_)
      · have h := h.1 c_6
        refine lv_aload_n hx hb dX6_tree_33 rfl (lv_at hl 0 rfl) ?_
        refine va_get (D := E.1) (ci := 6) (v := .ref yo) (C := RX6) (T := TX6) (N := 10) hx hb hts n_X6 hown hK hP 0 rfl rfl 3 (by decide) k_25 (fun _ h9 => h9) rfl dX6_tree_34 ?_
        refine lv_aload_n hx hb dX6_tree_37 rfl (lv_at hl 0 rfl) ?_
        refine va_get (D := E.1) (ci := 6) (v := .ref ro) (C := RX6) (T := TX6) (N := 10) hx hb hts n_X6 hown hK hP 0 rfl rfl 0 (by decide) k_10 (fun _ h9 => h9) rfl dX6_tree_38 ?_
        have hPc := hP.part (cx := (rw_7 E yo yr yl yt ro rk rh rd rt rl rs yRi yLe yLa rSz rTc rFa rPa rPy rMi rMe rSr rZ rKi rHe rDo rTx rLa rSk)) [1, 2, 3, 4, 5, 6, 7, 8, 9, 10, 11] rfl
        have hDc := hD.part (cx := (rw_7 E yo yr yl yt ro rk rh rd rt rl rs yRi yLe yLa rSz rTc rFa rPa rPy rMi rMe rSr rZ rKi rHe rDo rTx rLa rSk)) [1, 2, 3, 4, 5, 6, 7, 8, 9, 10, 11] (by decide) rfl
        have hFc := va_freeP (cx := (rw_7 E yo yr yl yt ro rk rh rd rt rl rs yRi yLe yLa rSz rTc rFa rPa rPy rMi rMe rSr rZ rKi rHe rDo rTx rLa rSk)) hD hS hA [1, 2, 3, 4, 5, 6, 7, 8, 9, 10, 11] rfl
        refine va_callv (va_runV (As := [.ref ro]) (rest := []) ⟨hx, hb, hml, hown, hts⟩ (c_X5_weigh l E yo yr yl yt ro rk rh rd rt rl rs H.size yRi yLe yLa rSz rTc rFa rPa rPy rMi rMe rSr rZ rKi rHe rDo rTx rLa rSk LT pk pv pa pn tc _ h) (cwV 1 hts gX6_tree_X5_weigh rfl rfl rfl (by decide +kernel) ⟨Nat.le_of_ble_eq_true rfl, Nat.le_of_ble_eq_true rfl⟩) ⟨fun a U g mk q => ⟨q.1, q.2.blind⟩, va_recv hK hPc (ci := 5) (q0 := 0) rfl rfl, fun U hU hW => ⟨rfl, by rw [hU], by rw [hU]; exact hPc, hE.call hS hFc hW hU, hDc.weaken (fun _ _ _ _ => trivial)⟩⟩ rfl rfl hl.1 rfl (lv_room (Nat.le_of_ble_eq_true rfl)) dX6_tree_41 ⟨Nat.zero_le _, Nat.zero_le _⟩) hS (fun q _ h => hFc q h) hFc (fun u t H1 locs ht hvm h hB hz1 hk1 hS => ?_)
        obtain ⟨w_7, w_8⟩ := u
        obtain ⟨hP1, hD1⟩ := hB
        rw [ht] at hP1
        obtain ⟨hP, hD⟩ := rc_focP hP hD [1, 2, 3, 4, 5, 6, 7, 8, 9, 10, 11] [none, some 0, some 1, some 2, some 3, some 4, some 5, some 6, some 7, some 8, some 9, some 10] (by decide) rfl rfl hk1 hP1 rfl
        generalize H1 = H at hP hS ⊢
        have hP : va_P E.1 vwCl (rw_10 E co ro jo qo yo eo cs cl cw yr yl yt rk rh rd rt rl rs cWs cKp w_7 yLe yLa rSz rTc rFa rPa rPy rMi rMe rSr rZ rKi rHe rDo rTx rLa w_8 ++ rc_tp E LT pk pv pa pn tc) H := hP
        have hD : va_D A (rw_10 E co ro jo qo yo eo cs cl cw yr yl yt rk rh rd rt rl rs cWs cKp w_7 yLe yLa rSz rTc rFa rPa rPy rMi rMe rSr rZ rKi rHe rDo rTx rLa w_8 ++ rc_tp E LT pk pv pa pn tc) := hD
        refine lv_aload_n hx hb dX6_tree_44 rfl (lv_at hl 0 rfl) ?_
        refine va_get (D := E.1) (ci := 6) (v := .ref yo) (C := RX6) (T := TX6) (N := 10) hx hb hts n_X6 hown hK hP 0 rfl rfl 3 (by decide) k_25 (fun _ h9 => h9) rfl dX6_tree_45 ?_
        refine lv_aload_n hx hb dX6_tree_48 rfl (lv_at hl 0 rfl) ?_
        refine va_get (D := E.1) (ci := 6) (v := .ref ro) (C := RX6) (T := TX6) (N := 10) hx hb hts n_X6 hown hK hP 0 rfl rfl 0 (by decide) k_10 (fun _ h9 => h9) rfl dX6_tree_49 ?_
        refine lv_iload_n hx hb dX6_tree_52 rfl (lv_at hl 2 rfl) ?_
        have hPc := hP.part (cx := (rw_7 E yo yr yl yt ro rk rh rd rt rl rs w_7 yLe yLa rSz rTc rFa rPa rPy rMi rMe rSr rZ rKi rHe rDo rTx rLa w_8)) [1, 2, 3, 4, 5, 6, 7, 8, 9, 10, 11] rfl
        have hDc := hD.part (cx := (rw_7 E yo yr yl yt ro rk rh rd rt rl rs w_7 yLe yLa rSz rTc rFa rPa rPy rMi rMe rSr rZ rKi rHe rDo rTx rLa w_8)) [1, 2, 3, 4, 5, 6, 7, 8, 9, 10, 11] (by decide) rfl
        have hFc := va_freeP (cx := (rw_7 E yo yr yl yt ro rk rh rd rt rl rs w_7 yLe yLa rSz rTc rFa rPa rPy rMi rMe rSr rZ rKi rHe rDo rTx rLa w_8)) hD hS hA [1, 2, 3, 4, 5, 6, 7, 8, 9, 10, 11] rfl
        refine va_callv (va_runV (As := [.ref ro, .int p2]) (rest := []) ⟨hx, hb, hml, hown, hts⟩ (c_X5_grow l E yo yr yl yt ro rk rh rd rt rl rs H.size w_7 yLe yLa rSz rTc rFa rPa rPy rMi rMe rSr rZ rKi rHe rDo rTx rLa w_8 p2 LT pk pv pa pn tc _ h) (cwV 2 hts gX6_tree_X5_grow rfl rfl rfl (by decide +kernel) ⟨Nat.le_of_ble_eq_true rfl, Nat.le_of_ble_eq_true rfl⟩) ⟨fun a U g mk q => ⟨q.1, q.2.blind⟩, va_recv hK hPc (ci := 5) (q0 := 0) rfl rfl, fun U hU hW => ⟨rfl, by rw [hU], by rw [hU]; exact hPc, hE.call hS hFc hW hU, hDc.weaken (fun _ _ _ _ => trivial)⟩⟩ rfl rfl hl.1 rfl (lv_room (Nat.le_of_ble_eq_true rfl)) dX6_tree_53 ⟨Nat.zero_le _, Nat.zero_le _⟩) hS (fun q _ h => hFc q h) hFc (fun u t H1 locs ht hvm h hB hz1 hk1 hS => ?_)
        obtain ⟨w_9, w_10, w_11⟩ := u
        obtain ⟨hP1, hD1⟩ := hB
        rw [ht] at hP1
        obtain ⟨hP, hD⟩ := rc_focP hP hD [1, 2, 3, 4, 5, 6, 7, 8, 9, 10, 11] [none, some 0, some 1, some 2, some 3, some 4, some 5, some 6, some 7, some 8, some 9, some 10] (by decide) rfl rfl hk1 hP1 rfl
        generalize H1 = H at hP hS ⊢
        have hP : va_P E.1 vwCl (rw_10 E co ro jo qo yo eo cs cl cw yr yl yt rk rh rd rt rl rs cWs cKp w_7 w_9 w_10 rSz rTc rFa rPa rPy rMi rMe rSr rZ rKi rHe rDo rTx rLa w_11 ++ rc_tp E LT pk pv pa pn tc) H := hP
        have hD : va_D A (rw_10 E co ro jo qo yo eo cs cl cw yr yl yt rk rh rd rt rl rs cWs cKp w_7 w_9 w_10 rSz rTc rFa rPa rPy rMi rMe rSr rZ rKi rHe rDo rTx rLa w_11 ++ rc_tp E LT pk pv pa pn tc) := hD
        refine lv_iload_n hx hb dX6_tree_56 rfl (lv_at hl 3 rfl) ?_
        refine lv_if_ne (tgt := 72) hx hb dX6_tree_57 (by decide) (fun c_12 => ?_) (fun c_12 => ?_)
        · have h := h.1 c_12
          refine lv_aload_n hx hb dX6_tree_72 rfl (lv_at hl 0 rfl) ?_
          refine va_get (D := E.1) (ci := 6) (v := .ref yo) (C := RX6) (T := TX6) (N := 10) hx hb hts n_X6 hown hK hP 0 rfl rfl 3 (by decide) k_25 (fun _ h9 => h9) rfl dX6_tree_73 ?_
          refine lv_aload_n hx hb dX6_tree_76 rfl (lv_at hl 0 rfl) ?_
          refine va_get (D := E.1) (ci := 6) (v := .ref ro) (C := RX6) (T := TX6) (N := 10) hx hb hts n_X6 hown hK hP 0 rfl rfl 0 (by decide) k_10 (fun _ h9 => h9) rfl dX6_tree_77 ?_
          refine lv_iload_n hx hb dX6_tree_80 rfl (lv_at hl 1 rfl) ?_
          have hPc := hP.part (cx := (rw_7 E yo yr yl yt ro rk rh rd rt rl rs w_7 w_9 w_10 rSz rTc rFa rPa rPy rMi rMe rSr rZ rKi rHe rDo rTx rLa w_11)) [1, 2, 3, 4, 5, 6, 7, 8, 9, 10, 11] rfl
          have hDc := hD.part (cx := (rw_7 E yo yr yl yt ro rk rh rd rt rl rs w_7 w_9 w_10 rSz rTc rFa rPa rPy rMi rMe rSr rZ rKi rHe rDo rTx rLa w_11)) [1, 2, 3, 4, 5, 6, 7, 8, 9, 10, 11] (by decide) rfl
          have hFc := va_freeP (cx := (rw_7 E yo yr yl yt ro rk rh rd rt rl rs w_7 w_9 w_10 rSz rTc rFa rPa rPy rMi rMe rSr rZ rKi rHe rDo rTx rLa w_11)) hD hS hA [1, 2, 3, 4, 5, 6, 7, 8, 9, 10, 11] rfl
          refine va_calli (va_runV (As := [.ref ro, .int p1]) (rest := []) ⟨hx, hb, hml, hown, hts⟩ (c_X5_bestStep l E yo yr yl yt ro rk rh rd rt rl rs H.size w_7 w_9 w_10 rSz rTc rFa rPa rPy rMi rMe rSr rZ rKi rHe rDo rTx rLa w_11 p1 LT pk pv pa pn tc _ h) (cwV 2 hts gX6_tree_X5_bestStep rfl rfl rfl (by decide +kernel) ⟨Nat.le_of_ble_eq_true rfl, Nat.le_of_ble_eq_true rfl⟩) ⟨fun a U g mk q => ⟨q.1, q.2.blind⟩, va_recv hK hPc (ci := 5) (q0 := 0) rfl rfl, fun U hU hW => ⟨rfl, by rw [hU], by rw [hU]; exact hPc, hE.call hS hFc hW hU, hDc.weaken (fun _ _ _ _ => trivial)⟩⟩ rfl rfl hl.1 rfl (lv_room (Nat.le_of_ble_eq_true rfl)) dX6_tree_81 ⟨Nat.zero_le _, Nat.zero_le _⟩) hS (fun q _ h => hFc q h) hFc (fun r_13 u t H1 locs ht hvm h hB hz1 hk1 hS => ?_)
          obtain ⟨hP1, hD1⟩ := hB
          rw [ht] at hP1
          obtain ⟨hP, hD⟩ := rc_focP hP hD [1, 2, 3, 4, 5, 6, 7, 8, 9, 10, 11] [none, some 0, some 1, some 2, some 3, some 4, some 5, some 6, some 7, some 8, some 9, some 10] (by decide) rfl rfl hk1 hP1 rfl
          generalize H1 = H at hP hS ⊢
          have hP : va_P E.1 vwCl (rw_10 E co ro jo qo yo eo cs cl cw yr yl yt rk rh rd rt rl rs cWs cKp w_7 w_9 w_10 rSz rTc rFa rPa rPy rMi rMe rSr rZ rKi rHe rDo rTx rLa w_11 ++ rc_tp E LT pk pv pa pn tc) H := hP
          have hD : va_D A (rw_10 E co ro jo qo yo eo cs cl cw yr yl yt rk rh rd rt rl rs cWs cKp w_7 w_9 w_10 rSz rTc rFa rPa rPy rMi rMe rSr rZ rKi rHe rDo rTx rLa w_11 ++ rc_tp E LT pk pv pa pn tc) := hD
          exact hret _ _ _ _ r_13 (w_7, w_9, w_10, w_11) rfl h hP hD hS dX6_tree_84
        · have h := h.2 c_12
          refine lv_aload_n hx hb dX6_tree_60 rfl (lv_at hl 0 rfl) ?_
          refine va_get (D := E.1) (ci := 6) (v := .ref yo) (C := RX6) (T := TX6) (N := 10) hx hb hts n_X6 hown hK hP 0 rfl rfl 3 (by decide) k_25 (fun _ h9 => h9) rfl dX6_tree_61 ?_
          refine va_get (D := E.1) (ci := 5) (v := .ref yl) (C := RX5) (T := TX5) (N := 3) hx hb hts n_X5 hown hK hP 1 rfl rfl 1 (by decide) k_155 (fun _ h9 => h9) rfl dX6_tree_64 ?_
          refine lv_iload_n hx hb dX6_tree_67 rfl (lv_at hl 1 rfl) ?_
          obtain ⟨o_14, h⟩ := h
          refine rc_iald hx hb hK hP 3 0 rfl rfl p1.toNatClampNeg rfl o_14 dX6_tree_68 ?_
          refine lv_goto (tgt := 84) hx hb dX6_tree_69 (by decide) ?_
          exact hret _ _ _ _ (w_9 p1.toNatClampNeg) (w_7, w_9, w_10, w_11) rfl h hP hD hS dX6_tree_84
      · have h := h.2 c_6
        refine lv_ldc hx hb hown k_70 dX6_tree_30 ?_
        exact hret _ _ _ _ (-1000000001) (yRi, yLe, yLa, rSk) rfl h hP hD hS dX6_tree_32
def wp_X6_rule (p1 : Int32) (p2 : Int32) (p3 : Int32) (yRi : Nat → Int32) (yLe : Nat → Int32) (yLa : Nat → Int32) (rSz : Int32) (rFa : Int32) (rPa : Int32) (rKi : Nat → Int32) (rHe : Nat → Int32) (rDo : Nat → Int32) (rTx : Nat → Option Nat) (rLa : Nat → Int32) (rSk : Nat → Int32) (LT : List Nat) (pn : Nat → Nat) (tc : Nat → Nat → Int32) (Q : Int32 → (Nat → Int32) → (Nat → Int32) → (Nat → Int32) → (Nat → Int32) → Prop) : Prop :=
  wp_X1_has p1 rSz (fun (r_1 : Int32) => ((r_1 = 0 → Q (-1000000001) yRi yLe yLa rSk) ∧ (¬ (r_1 = 0) → wp_X6_within p2 1 60 (fun (r_3 : Int32) => ((r_3 = 0 → Q (-1000000001) yRi yLe yLa rSk) ∧ (¬ (r_3 = 0) → wp_X6_within p3 0 1 (fun (r_5 : Int32) => ((¬ r_5 = 0 → wp_X1_dangerByRule p1 p2 rSz rFa rPa rKi rHe rTx rLa rSk LT pn tc (fun (r_7 : Int32) (w_8 : Nat → Int32) => ((¬ p3 = 0 → wp_X5_weigh yRi rSz rKi rHe rTx rLa w_8 LT pn tc (fun (w_10 : Nat → Int32) (w_11 : Nat → Int32) => wp_X5_grow p2 w_10 yLe yLa rSz rFa rPa rDo rTx rLa w_11 LT pn tc (fun (w_12 : Nat → Int32) (w_13 : Nat → Int32) (w_14 : Nat → Int32) => (vp_in p1 24 ∧ Q (r_7 - (w_12 p1.toNatClampNeg)) w_10 w_12 w_13 w_14)))) ∧ (p3 = 0 → Q r_7 yRi yLe yLa w_8)))) ∧ (r_5 = 0 → Q (-1000000001) yRi yLe yLa rSk)))))))))
set_option maxHeartbeats 4000000 in
set_option maxRecDepth 100000 in
theorem c_X6_rule (l : Launch) (E : gE) (co ro jo qo yo eo cs cl cw yr yl yt rk rh rd rt rl rs : Nat) (sz : Nat) (cWs : Int32) (cKp : Int32) (yRi : Nat → Int32) (yLe : Nat → Int32) (yLa : Nat → Int32) (rSz : Int32) (rTc : Int32) (rFa : Int32) (rPa : Int32) (rPy : Int32) (rMi : Int32) (rMe : Int32) (rSr : Int32) (rZ : Int32) (rKi : Nat → Int32) (rHe : Nat → Int32) (rDo : Nat → Int32) (rTx : Nat → Option Nat) (rLa : Nat → Int32) (rSk : Nat → Int32) (p1 p2 p3 : Int32) (LT : List Nat) (pk : Nat → Int32) (pv : Nat → Int32) (pa : Nat → Nat) (pn : Nat → Nat) (tc : Nat → Nat → Int32) (Q : Int32 → (Nat → Int32) → (Nat → Int32) → (Nat → Int32) → (Nat → Int32) → Prop) (h : wp_X6_rule p1 p2 p3 yRi yLe yLa rSz rFa rPa rKi rHe rDo rTx rLa rSk LT pn tc Q) : Met l yX6_rule wsX6_rule ({ frames := 6, cells := 0, slots := 0, locals := 152 } : Room) (va_Pc [.ref co, .int p1, .int p2, .int p3] (rc_B E (rw_10 E co ro jo qo yo eo cs cl cw yr yl yt rk rh rd rt rl rs cWs cKp yRi yLe yLa rSz rTc rFa rPa rPy rMi rMe rSr rZ rKi rHe rDo rTx rLa rSk ++ rc_tp E LT pk pv pa pn tc) sz)) (va_Qi (S := (Nat → Int32) × (Nat → Int32) × (Nat → Int32) × (Nat → Int32)) (fun (r : Int32) (u : (Nat → Int32) × (Nat → Int32) × (Nat → Int32) × (Nat → Int32)) => Q r u.1 u.2.1 u.2.2.1 u.2.2.2) (fun u t => rc_C E (va_A (rw_10 E co ro jo qo yo eo cs cl cw yr yl yt rk rh rd rt rl rs cWs cKp yRi yLe yLa rSz rTc rFa rPa rPy rMi rMe rSr rZ rKi rHe rDo rTx rLa rSk ++ rc_tp E LT pk pv pa pn tc) sz) (rw_10 E co ro jo qo yo eo cs cl cw yr yl yt rk rh rd rt rl rs cWs cKp u.1 u.2.1 u.2.2.1 rSz rTc rFa rPa rPy rMi rMe rSr rZ rKi rHe rDo rTx rLa u.2.2.2 ++ rc_tp E LT pk pv pa pn tc) t) (va_A (rw_10 E co ro jo qo yo eo cs cl cw yr yl yt rk rh rd rt rl rs cWs cKp yRi yLe yLa rSz rTc rFa rPa rPy rMi rMe rSr rZ rKi rHe rDo rTx rLa rSk ++ rc_tp E LT pk pv pa pn tc) sz)) 0 0 (va_A (rw_10 E co ro jo qo yo eo cs cl cw yr yl yt rk rh rd rt rl rs cWs cKp yRi yLe yLa rSz rTc rFa rPa rPy rMi rMe rSr rZ rKi rHe rDo rTx rLa rSk ++ rc_tp E LT pk pv pa pn tc) sz) := by
  refine rc_enterI (cc := cX6_rule) (maxL := 5) (by decide) rfl (Nat.le_of_ble_eq_true rfl) ?_
  intro p e s m args below meth c QQ A hx hb hml hown hts hmn hE hP hD hA hret ls hl
  have hown : s.vm.findClass RX6 = some m.cls := hown
  have hK := hE.1
  have hS : va_S A s.heap s.heap [] := va_S.rf
  have hl : lv_has ls 5 [(0, .ref co), (1, .int p1), (2, .int p2), (3, .int p3)] := hl
  have n_X5 : ∀ w ∈ wsX50, w ∈ wsX6_rule := fun _ h => List.mem_cons_of_mem _ (List.mem_append_left _ (List.mem_append_left _ (List.mem_append_right _ h)))
  have n_X6 : ∀ w ∈ wsX60, w ∈ wsX6_rule := fun _ h => List.mem_cons_of_mem _ (List.mem_append_left _ (List.mem_append_left _ (List.mem_append_left _ (List.mem_append_right _ h))))
  have k_10 := hts (.fieldLink RX6 10 "RidgeClaps" "ridge" "LRidgeClaps$Ridge;") (List.mem_of_getElem? (i := 1) rfl)
  have k_70 := hts (.constant RX6 70 (-1000000001)) (List.mem_of_getElem? (i := 2) rfl)
  have k_25 := hts (.fieldLink RX6 25 "RidgeClaps" "ways" "LRidgeClaps$Ways;") (List.mem_of_getElem? (i := 3) rfl)
  have k_155 := hts (.fieldLink RX6 155 "RidgeClaps$Ways" "least" "[I") (List.mem_of_getElem? (i := 4) rfl)
  unfold wp_X6_rule at h
  obtain ⟨H, hH⟩ : ∃ H, H = s.heap := ⟨_, rfl⟩
  obtain ⟨locs, hlocs⟩ : ∃ locs : List Loc, locs = [] := ⟨_, rfl⟩
  have hP : va_P E.1 vwCl (rw_10 E co ro jo qo yo eo cs cl cw yr yl yt rk rh rd rt rl rs cWs cKp yRi yLe yLa rSz rTc rFa rPa rPy rMi rMe rSr rZ rKi rHe rDo rTx rLa rSk ++ rc_tp E LT pk pv pa pn tc) H := by rw [hH]; exact hP
  have hS : va_S A s.heap H locs := by rw [hH, hlocs]; exact hS
  suffices hgo : W p l e ({ frames := 6, cells := 0, slots := 0, locals := 152 } : Room) s m args below meth c H locs 0 0 QQ (F0 m 0 ls []) from by rw [hH, hlocs] at hgo; exact hgo
  refine lv_aload_n hx hb dX6_rule_0 rfl (lv_at hl 0 rfl) ?_
  refine va_get (D := E.1) (ci := 6) (v := .ref ro) (C := RX6) (T := TX6) (N := 10) hx hb hts n_X6 hown hK hP 0 rfl rfl 0 (by decide) k_10 (fun _ h9 => h9) rfl dX6_rule_1 ?_
  refine lv_iload_n hx hb dX6_rule_4 rfl (lv_at hl 1 rfl) ?_
  have hPc := hP.part (cx := (rw_4 E ro rk rh rd rt rl rs rSz rTc rFa rPa rPy rMi rMe rSr rZ rKi rHe rDo rTx rLa rSk)) [5, 6, 7, 8, 9, 10, 11] rfl
  have hDc := hD.part (cx := (rw_4 E ro rk rh rd rt rl rs rSz rTc rFa rPa rPy rMi rMe rSr rZ rKi rHe rDo rTx rLa rSk)) [5, 6, 7, 8, 9, 10, 11] (by decide) rfl
  have hFc := va_freeP (cx := (rw_4 E ro rk rh rd rt rl rs rSz rTc rFa rPa rPy rMi rMe rSr rZ rKi rHe rDo rTx rLa rSk)) hD hS hA [5, 6, 7, 8, 9, 10, 11] rfl
  refine va_calli (va_runV (As := [.int p1]) (rest := []) ⟨hx, hb, hml, hown, hts⟩ (c_X1_has l E ro rk rh rd rt rl rs H.size rSz rTc rFa rPa rPy rMi rMe rSr rZ rKi rHe rDo rTx rLa rSk p1 LT pk pv pa pn tc _ h) (cwV 1 hts gX6_rule_X1_has rfl rfl rfl (by decide +kernel) ⟨Nat.le_of_ble_eq_true rfl, Nat.le_of_ble_eq_true rfl⟩) ⟨fun a U g mk q => ⟨q.1, q.2.blind⟩, va_recv hK hPc (ci := 1) (q0 := 0) rfl rfl, fun U hU hW => ⟨rfl, by rw [hU], by rw [hU]; exact hPc, hE.call hS hFc hW hU, hDc.weaken (fun _ _ _ _ => trivial)⟩⟩ rfl rfl hl.1 rfl (lv_room (Nat.le_of_ble_eq_true rfl)) dX6_rule_5 ⟨Nat.zero_le _, Nat.zero_le _⟩) hS (fun q _ h => hFc q h) hFc (fun r_1 u t H1 locs ht hvm h hB hz1 hk1 hS => ?_)
  obtain ⟨hP1, hD1⟩ := hB
  rw [ht] at hP1
  obtain ⟨hP, hD⟩ := rc_focP hP hD [5, 6, 7, 8, 9, 10, 11] [none, none, none, none, none, some 0, some 1, some 2, some 3, some 4, some 5, some 6] (by decide) rfl rfl hk1 hP1 rfl
  generalize H1 = H at hP hS ⊢
  have hP : va_P E.1 vwCl (rw_10 E co ro jo qo yo eo cs cl cw yr yl yt rk rh rd rt rl rs cWs cKp yRi yLe yLa rSz rTc rFa rPa rPy rMi rMe rSr rZ rKi rHe rDo rTx rLa rSk ++ rc_tp E LT pk pv pa pn tc) H := hP
  have hD : va_D A (rw_10 E co ro jo qo yo eo cs cl cw yr yl yt rk rh rd rt rl rs cWs cKp yRi yLe yLa rSz rTc rFa rPa rPy rMi rMe rSr rZ rKi rHe rDo rTx rLa rSk ++ rc_tp E LT pk pv pa pn tc) := hD
  refine lv_if_eq (tgt := 30) hx hb dX6_rule_8 (by decide) (fun c_2 => ?_) (fun c_2 => ?_)
  · have h := h.1 c_2
    refine lv_ldc hx hb hown k_70 dX6_rule_30 ?_
    exact hret _ _ _ _ (-1000000001) (yRi, yLe, yLa, rSk) rfl h hP hD hS dX6_rule_32
  · have h := h.2 c_2
    refine lv_iload_n hx hb dX6_rule_11 rfl (lv_at hl 2 rfl) ?_
    refine lv_iconst (v := 1) hx hb dX6_rule_12 (by decide) ?_
    refine lv_bipush (v := 60) hx hb dX6_rule_13 (by decide) ?_
    have hPc := hP.sub (ws' := []) [] rfl
    have hDc := hD.sub (ws' := []) [] (by decide) rfl
    have hFc := va_free (wc := []) hD hS hA [] rfl
    refine va_calli (va_runS (As := [.int p2, .int 1, .int 60]) (rest := []) ⟨hx, hb, hml, hown, hts⟩ (c_X6_within l E H.size p2 1 60 _ h) (va_cwS 3 hts gX6_rule_X6_within rfl rfl rfl (by decide +kernel) ⟨Nat.le_of_ble_eq_true rfl, Nat.le_of_ble_eq_true rfl⟩) ⟨fun a U g mk q => ⟨q.1, q.2.blind⟩, fun U hU hW => ⟨rfl, by rw [hU], by rw [hU]; exact hPc, hE.call hS hFc hW hU, hDc.weaken (fun _ _ _ _ => trivial)⟩⟩ rfl rfl hl.1 rfl (lv_room (Nat.le_of_ble_eq_true rfl)) dX6_rule_15 ⟨Nat.zero_le _, Nat.zero_le _⟩) hS (fun q _ h => hFc q h) hFc (fun r_3 u t H1 locs ht hvm h hB hz1 hk1 hS => ?_)
    obtain ⟨hP1, hD1⟩ := hB
    rw [ht] at hP1
    obtain ⟨hP, hD⟩ := rc_foc hP hD [] [none, none, none, none, none, none, none, none, none, none, none, none] (by decide) rfl hk1 hP1 rfl
    generalize H1 = H at hP hS ⊢
    have hP : va_P E.1 vwCl (rw_10 E co ro jo qo yo eo cs cl cw yr yl yt rk rh rd rt rl rs cWs cKp yRi yLe yLa rSz rTc rFa rPa rPy rMi rMe rSr rZ rKi rHe rDo rTx rLa rSk ++ rc_tp E LT pk pv pa pn tc) H := hP
    have hD : va_D A (rw_10 E co ro jo qo yo eo cs cl cw yr yl yt rk rh rd rt rl rs cWs cKp yRi yLe yLa rSz rTc rFa rPa rPy rMi rMe rSr rZ rKi rHe rDo rTx rLa rSk ++ rc_tp E LT pk pv pa pn tc) := hD
    refine lv_if_eq (tgt := 30) hx hb dX6_rule_18 (by decide) (fun c_4 => ?_) (fun c_4 => ?_)
    · have h := h.1 c_4
      refine lv_ldc hx hb hown k_70 dX6_rule_30 ?_
      exact hret _ _ _ _ (-1000000001) (yRi, yLe, yLa, rSk) rfl h hP hD hS dX6_rule_32
    · have h := h.2 c_4
      refine lv_iload_n hx hb dX6_rule_21 rfl (lv_at hl 3 rfl) ?_
      refine lv_iconst (v := 0) hx hb dX6_rule_22 (by decide) ?_
      refine lv_iconst (v := 1) hx hb dX6_rule_23 (by decide) ?_
      have hPc := hP.sub (ws' := []) [] rfl
      have hDc := hD.sub (ws' := []) [] (by decide) rfl
      have hFc := va_free (wc := []) hD hS hA [] rfl
      refine va_calli (va_runS (As := [.int p3, .int 0, .int 1]) (rest := []) ⟨hx, hb, hml, hown, hts⟩ (c_X6_within l E H.size p3 0 1 _ h) (va_cwS 3 hts gX6_rule_X6_within rfl rfl rfl (by decide +kernel) ⟨Nat.le_of_ble_eq_true rfl, Nat.le_of_ble_eq_true rfl⟩) ⟨fun a U g mk q => ⟨q.1, q.2.blind⟩, fun U hU hW => ⟨rfl, by rw [hU], by rw [hU]; exact hPc, hE.call hS hFc hW hU, hDc.weaken (fun _ _ _ _ => trivial)⟩⟩ rfl rfl hl.1 rfl (lv_room (Nat.le_of_ble_eq_true rfl)) dX6_rule_24 ⟨Nat.zero_le _, Nat.zero_le _⟩) hS (fun q _ h => hFc q h) hFc (fun r_5 u t H1 locs ht hvm h hB hz1 hk1 hS => ?_)
      obtain ⟨hP1, hD1⟩ := hB
      rw [ht] at hP1
      obtain ⟨hP, hD⟩ := rc_foc hP hD [] [none, none, none, none, none, none, none, none, none, none, none, none] (by decide) rfl hk1 hP1 rfl
      generalize H1 = H at hP hS ⊢
      have hP : va_P E.1 vwCl (rw_10 E co ro jo qo yo eo cs cl cw yr yl yt rk rh rd rt rl rs cWs cKp yRi yLe yLa rSz rTc rFa rPa rPy rMi rMe rSr rZ rKi rHe rDo rTx rLa rSk ++ rc_tp E LT pk pv pa pn tc) H := hP
      have hD : va_D A (rw_10 E co ro jo qo yo eo cs cl cw yr yl yt rk rh rd rt rl rs cWs cKp yRi yLe yLa rSz rTc rFa rPa rPy rMi rMe rSr rZ rKi rHe rDo rTx rLa rSk ++ rc_tp E LT pk pv pa pn tc) := hD
      refine lv_if_ne (tgt := 33) hx hb dX6_rule_27 (by decide) (fun c_6 => ?_) (fun c_6 => ?_)
      · have h := h.1 c_6
        refine lv_aload_n hx hb dX6_rule_33 rfl (lv_at hl 0 rfl) ?_
        refine va_get (D := E.1) (ci := 6) (v := .ref ro) (C := RX6) (T := TX6) (N := 10) hx hb hts n_X6 hown hK hP 0 rfl rfl 0 (by decide) k_10 (fun _ h9 => h9) rfl dX6_rule_34 ?_
        refine lv_iload_n hx hb dX6_rule_37 rfl (lv_at hl 1 rfl) ?_
        refine lv_iload_n hx hb dX6_rule_38 rfl (lv_at hl 2 rfl) ?_
        have hPc := hP.part (cx := (rw_4 E ro rk rh rd rt rl rs rSz rTc rFa rPa rPy rMi rMe rSr rZ rKi rHe rDo rTx rLa rSk)) [5, 6, 7, 8, 9, 10, 11] rfl
        have hDc := hD.part (cx := (rw_4 E ro rk rh rd rt rl rs rSz rTc rFa rPa rPy rMi rMe rSr rZ rKi rHe rDo rTx rLa rSk)) [5, 6, 7, 8, 9, 10, 11] (by decide) rfl
        have hFc := va_freeP (cx := (rw_4 E ro rk rh rd rt rl rs rSz rTc rFa rPa rPy rMi rMe rSr rZ rKi rHe rDo rTx rLa rSk)) hD hS hA [5, 6, 7, 8, 9, 10, 11] rfl
        refine va_calli (va_runV (As := [.int p1, .int p2]) (rest := []) ⟨hx, hb, hml, hown, hts⟩ (c_X1_dangerByRule l E ro rk rh rd rt rl rs H.size rSz rTc rFa rPa rPy rMi rMe rSr rZ rKi rHe rDo rTx rLa rSk p1 p2 LT pk pv pa pn tc _ h) (cwV 2 hts gX6_rule_X1_dangerByRule rfl rfl rfl (by decide +kernel) ⟨Nat.le_of_ble_eq_true rfl, Nat.le_of_ble_eq_true rfl⟩) ⟨fun a U g mk q => ⟨q.1, q.2.blind⟩, va_recv hK hPc (ci := 1) (q0 := 0) rfl rfl, fun U hU hW => ⟨rfl, by rw [hU], by rw [hU]; exact hPc, hE.call hS hFc hW hU, hDc.weaken (fun _ _ _ _ => trivial)⟩⟩ rfl rfl hl.1 rfl (lv_room (Nat.le_of_ble_eq_true rfl)) dX6_rule_39 ⟨Nat.zero_le _, Nat.zero_le _⟩) hS (fun q _ h => hFc q h) hFc (fun r_7 u t H1 locs ht hvm h hB hz1 hk1 hS => ?_)
        obtain ⟨w_8, rfl⟩ : ∃ z, z = u := ⟨_, rfl⟩
        obtain ⟨hP1, hD1⟩ := hB
        rw [ht] at hP1
        obtain ⟨hP, hD⟩ := rc_focP hP hD [5, 6, 7, 8, 9, 10, 11] [none, none, none, none, none, some 0, some 1, some 2, some 3, some 4, some 5, some 6] (by decide) rfl rfl hk1 hP1 rfl
        generalize H1 = H at hP hS ⊢
        have hP : va_P E.1 vwCl (rw_10 E co ro jo qo yo eo cs cl cw yr yl yt rk rh rd rt rl rs cWs cKp yRi yLe yLa rSz rTc rFa rPa rPy rMi rMe rSr rZ rKi rHe rDo rTx rLa w_8 ++ rc_tp E LT pk pv pa pn tc) H := hP
        have hD : va_D A (rw_10 E co ro jo qo yo eo cs cl cw yr yl yt rk rh rd rt rl rs cWs cKp yRi yLe yLa rSz rTc rFa rPa rPy rMi rMe rSr rZ rKi rHe rDo rTx rLa w_8 ++ rc_tp E LT pk pv pa pn tc) := hD
        refine lv_istore (lv' := [(4, .int r_7), (0, .ref co), (1, .int p1), (2, .int p2), (3, .int p3)]) hx hb dX6_rule_42 hl (by decide) rfl (fun ls hl => ?_)
        refine lv_iload_n hx hb dX6_rule_44 rfl (lv_at hl 4 rfl) ?_
        refine lv_if_ne (tgt := 51) hx hb dX6_rule_45 (by decide) (fun c_9 => ?_) (fun c_9 => ?_)
        · have h := h.1 c_9
          refine lv_aload_n hx hb dX6_rule_51 rfl (lv_at hl 1 rfl) ?_
          refine va_get (D := E.1) (ci := 6) (v := .ref yo) (C := RX6) (T := TX6) (N := 10) hx hb hts n_X6 hown hK hP 0 rfl rfl 3 (by decide) k_25 (fun _ h9 => h9) rfl dX6_rule_52 ?_
          refine lv_aload_n hx hb dX6_rule_55 rfl (lv_at hl 1 rfl) ?_
          refine va_get (D := E.1) (ci := 6) (v := .ref ro) (C := RX6) (T := TX6) (N := 10) hx hb hts n_X6 hown hK hP 0 rfl rfl 0 (by decide) k_10 (fun _ h9 => h9) rfl dX6_rule_56 ?_
          have hPc := hP.part (cx := (rw_7 E yo yr yl yt ro rk rh rd rt rl rs yRi yLe yLa rSz rTc rFa rPa rPy rMi rMe rSr rZ rKi rHe rDo rTx rLa w_8)) [1, 2, 3, 4, 5, 6, 7, 8, 9, 10, 11] rfl
          have hDc := hD.part (cx := (rw_7 E yo yr yl yt ro rk rh rd rt rl rs yRi yLe yLa rSz rTc rFa rPa rPy rMi rMe rSr rZ rKi rHe rDo rTx rLa w_8)) [1, 2, 3, 4, 5, 6, 7, 8, 9, 10, 11] (by decide) rfl
          have hFc := va_freeP (cx := (rw_7 E yo yr yl yt ro rk rh rd rt rl rs yRi yLe yLa rSz rTc rFa rPa rPy rMi rMe rSr rZ rKi rHe rDo rTx rLa w_8)) hD hS hA [1, 2, 3, 4, 5, 6, 7, 8, 9, 10, 11] rfl
          refine va_callv (va_runV (As := [.ref ro]) (rest := []) ⟨hx, hb, hml, hown, hts⟩ (c_X5_weigh l E yo yr yl yt ro rk rh rd rt rl rs H.size yRi yLe yLa rSz rTc rFa rPa rPy rMi rMe rSr rZ rKi rHe rDo rTx rLa w_8 LT pk pv pa pn tc _ h) (cwV 1 hts gX6_rule_X5_weigh rfl rfl rfl (by decide +kernel) ⟨Nat.le_of_ble_eq_true rfl, Nat.le_of_ble_eq_true rfl⟩) ⟨fun a U g mk q => ⟨q.1, q.2.blind⟩, va_recv hK hPc (ci := 5) (q0 := 0) rfl rfl, fun U hU hW => ⟨rfl, by rw [hU], by rw [hU]; exact hPc, hE.call hS hFc hW hU, hDc.weaken (fun _ _ _ _ => trivial)⟩⟩ rfl rfl hl.1 rfl (lv_room (Nat.le_of_ble_eq_true rfl)) dX6_rule_59 ⟨Nat.zero_le _, Nat.zero_le _⟩) hS (fun q _ h => hFc q h) hFc (fun u t H1 locs ht hvm h hB hz1 hk1 hS => ?_)
          obtain ⟨w_10, w_11⟩ := u
          obtain ⟨hP1, hD1⟩ := hB
          rw [ht] at hP1
          obtain ⟨hP, hD⟩ := rc_focP hP hD [1, 2, 3, 4, 5, 6, 7, 8, 9, 10, 11] [none, some 0, some 1, some 2, some 3, some 4, some 5, some 6, some 7, some 8, some 9, some 10] (by decide) rfl rfl hk1 hP1 rfl
          generalize H1 = H at hP hS ⊢
          have hP : va_P E.1 vwCl (rw_10 E co ro jo qo yo eo cs cl cw yr yl yt rk rh rd rt rl rs cWs cKp w_10 yLe yLa rSz rTc rFa rPa rPy rMi rMe rSr rZ rKi rHe rDo rTx rLa w_11 ++ rc_tp E LT pk pv pa pn tc) H := hP
          have hD : va_D A (rw_10 E co ro jo qo yo eo cs cl cw yr yl yt rk rh rd rt rl rs cWs cKp w_10 yLe yLa rSz rTc rFa rPa rPy rMi rMe rSr rZ rKi rHe rDo rTx rLa w_11 ++ rc_tp E LT pk pv pa pn tc) := hD
          refine lv_aload_n hx hb dX6_rule_62 rfl (lv_at hl 1 rfl) ?_
          refine va_get (D := E.1) (ci := 6) (v := .ref yo) (C := RX6) (T := TX6) (N := 10) hx hb hts n_X6 hown hK hP 0 rfl rfl 3 (by decide) k_25 (fun _ h9 => h9) rfl dX6_rule_63 ?_
          refine lv_aload_n hx hb dX6_rule_66 rfl (lv_at hl 1 rfl) ?_
          refine va_get (D := E.1) (ci := 6) (v := .ref ro) (C := RX6) (T := TX6) (N := 10) hx hb hts n_X6 hown hK hP 0 rfl rfl 0 (by decide) k_10 (fun _ h9 => h9) rfl dX6_rule_67 ?_
          refine lv_iload_n hx hb dX6_rule_70 rfl (lv_at hl 3 rfl) ?_
          have hPc := hP.part (cx := (rw_7 E yo yr yl yt ro rk rh rd rt rl rs w_10 yLe yLa rSz rTc rFa rPa rPy rMi rMe rSr rZ rKi rHe rDo rTx rLa w_11)) [1, 2, 3, 4, 5, 6, 7, 8, 9, 10, 11] rfl
          have hDc := hD.part (cx := (rw_7 E yo yr yl yt ro rk rh rd rt rl rs w_10 yLe yLa rSz rTc rFa rPa rPy rMi rMe rSr rZ rKi rHe rDo rTx rLa w_11)) [1, 2, 3, 4, 5, 6, 7, 8, 9, 10, 11] (by decide) rfl
          have hFc := va_freeP (cx := (rw_7 E yo yr yl yt ro rk rh rd rt rl rs w_10 yLe yLa rSz rTc rFa rPa rPy rMi rMe rSr rZ rKi rHe rDo rTx rLa w_11)) hD hS hA [1, 2, 3, 4, 5, 6, 7, 8, 9, 10, 11] rfl
          refine va_callv (va_runV (As := [.ref ro, .int p2]) (rest := []) ⟨hx, hb, hml, hown, hts⟩ (c_X5_grow l E yo yr yl yt ro rk rh rd rt rl rs H.size w_10 yLe yLa rSz rTc rFa rPa rPy rMi rMe rSr rZ rKi rHe rDo rTx rLa w_11 p2 LT pk pv pa pn tc _ h) (cwV 2 hts gX6_rule_X5_grow rfl rfl rfl (by decide +kernel) ⟨Nat.le_of_ble_eq_true rfl, Nat.le_of_ble_eq_true rfl⟩) ⟨fun a U g mk q => ⟨q.1, q.2.blind⟩, va_recv hK hPc (ci := 5) (q0 := 0) rfl rfl, fun U hU hW => ⟨rfl, by rw [hU], by rw [hU]; exact hPc, hE.call hS hFc hW hU, hDc.weaken (fun _ _ _ _ => trivial)⟩⟩ rfl rfl hl.1 rfl (lv_room (Nat.le_of_ble_eq_true rfl)) dX6_rule_71 ⟨Nat.zero_le _, Nat.zero_le _⟩) hS (fun q _ h => hFc q h) hFc (fun u t H1 locs ht hvm h hB hz1 hk1 hS => ?_)
          obtain ⟨w_12, w_13, w_14⟩ := u
          obtain ⟨hP1, hD1⟩ := hB
          rw [ht] at hP1
          obtain ⟨hP, hD⟩ := rc_focP hP hD [1, 2, 3, 4, 5, 6, 7, 8, 9, 10, 11] [none, some 0, some 1, some 2, some 3, some 4, some 5, some 6, some 7, some 8, some 9, some 10] (by decide) rfl rfl hk1 hP1 rfl
          generalize H1 = H at hP hS ⊢
          have hP : va_P E.1 vwCl (rw_10 E co ro jo qo yo eo cs cl cw yr yl yt rk rh rd rt rl rs cWs cKp w_10 w_12 w_13 rSz rTc rFa rPa rPy rMi rMe rSr rZ rKi rHe rDo rTx rLa w_14 ++ rc_tp E LT pk pv pa pn tc) H := hP
          have hD : va_D A (rw_10 E co ro jo qo yo eo cs cl cw yr yl yt rk rh rd rt rl rs cWs cKp w_10 w_12 w_13 rSz rTc rFa rPa rPy rMi rMe rSr rZ rKi rHe rDo rTx rLa w_14 ++ rc_tp E LT pk pv pa pn tc) := hD
          refine lv_iload hx hb dX6_rule_74 (lv_at hl 0 rfl) ?_
          refine lv_aload_n hx hb dX6_rule_76 rfl (lv_at hl 1 rfl) ?_
          refine va_get (D := E.1) (ci := 6) (v := .ref yo) (C := RX6) (T := TX6) (N := 10) hx hb hts n_X6 hown hK hP 0 rfl rfl 3 (by decide) k_25 (fun _ h9 => h9) rfl dX6_rule_77 ?_
          refine va_get (D := E.1) (ci := 5) (v := .ref yl) (C := RX5) (T := TX5) (N := 3) hx hb hts n_X5 hown hK hP 1 rfl rfl 1 (by decide) k_155 (fun _ h9 => h9) rfl dX6_rule_80 ?_
          refine lv_iload_n hx hb dX6_rule_83 rfl (lv_at hl 2 rfl) ?_
          obtain ⟨o_15, h⟩ := h
          refine rc_iald hx hb hK hP 3 0 rfl rfl p1.toNatClampNeg rfl o_15 dX6_rule_84 ?_
          refine lv_isub hx hb dX6_rule_85 ?_
          exact hret _ _ _ _ (r_7 - (w_12 p1.toNatClampNeg)) (w_10, w_12, w_13, w_14) rfl h hP hD hS dX6_rule_86
        · have h := h.2 c_9
          refine lv_iload hx hb dX6_rule_48 (lv_at hl 0 rfl) ?_
          exact hret _ _ _ _ r_7 (yRi, yLe, yLa, w_8) rfl h hP hD hS dX6_rule_50
      · have h := h.2 c_6
        refine lv_ldc hx hb hown k_70 dX6_rule_30 ?_
        exact hret _ _ _ _ (-1000000001) (yRi, yLe, yLa, rSk) rfl h hP hD hS dX6_rule_32
def wp_X6_hide (p1 : Int32) (p2 : Int32) (yRi : Nat → Int32) (rSz : Int32) (rKi : Nat → Int32) (rHe : Nat → Int32) (rTx : Nat → Option Nat) (rLa : Nat → Int32) (rSk : Nat → Int32) (LT : List Nat) (pn : Nat → Nat) (tc : Nat → Nat → Int32) (Q : Int32 → (Nat → Int32) → (Nat → Int32) → Prop) : Prop :=
  wp_X1_has p1 rSz (fun (r_1 : Int32) => ((r_1 = 0 → Q (-1000000001) yRi rSk) ∧ (¬ (r_1 = 0) → wp_X6_within p2 0 60 (fun (r_3 : Int32) => ((¬ r_3 = 0 → wp_X5_weigh yRi rSz rKi rHe rTx rLa rSk LT pn tc (fun (w_5 : Nat → Int32) (w_6 : Nat → Int32) => wp_X6_firstLeast (rc_max 0 (p1 - p2)) (rc_min (rSz - 1) (p1 + p2)) w_5 (fun (r_7 : Int32) => Q r_7 w_5 w_6))) ∧ (r_3 = 0 → Q (-1000000001) yRi rSk))))))
set_option maxHeartbeats 4000000 in
set_option maxRecDepth 100000 in
theorem c_X6_hide (l : Launch) (E : gE) (co ro jo qo yo eo cs cl cw yr yl yt rk rh rd rt rl rs : Nat) (sz : Nat) (cWs : Int32) (cKp : Int32) (yRi : Nat → Int32) (yLe : Nat → Int32) (yLa : Nat → Int32) (rSz : Int32) (rTc : Int32) (rFa : Int32) (rPa : Int32) (rPy : Int32) (rMi : Int32) (rMe : Int32) (rSr : Int32) (rZ : Int32) (rKi : Nat → Int32) (rHe : Nat → Int32) (rDo : Nat → Int32) (rTx : Nat → Option Nat) (rLa : Nat → Int32) (rSk : Nat → Int32) (p1 p2 : Int32) (LT : List Nat) (pk : Nat → Int32) (pv : Nat → Int32) (pa : Nat → Nat) (pn : Nat → Nat) (tc : Nat → Nat → Int32) (Q : Int32 → (Nat → Int32) → (Nat → Int32) → Prop) (h : wp_X6_hide p1 p2 yRi rSz rKi rHe rTx rLa rSk LT pn tc Q) : Met l yX6_hide wsX6_hide ({ frames := 5, cells := 0, slots := 0, locals := 121 } : Room) (va_Pc [.ref co, .int p1, .int p2] (rc_B E (rw_10 E co ro jo qo yo eo cs cl cw yr yl yt rk rh rd rt rl rs cWs cKp yRi yLe yLa rSz rTc rFa rPa rPy rMi rMe rSr rZ rKi rHe rDo rTx rLa rSk ++ rc_tp E LT pk pv pa pn tc) sz)) (va_Qi (S := (Nat → Int32) × (Nat → Int32)) (fun (r : Int32) (u : (Nat → Int32) × (Nat → Int32)) => Q r u.1 u.2) (fun u t => rc_C E (va_A (rw_10 E co ro jo qo yo eo cs cl cw yr yl yt rk rh rd rt rl rs cWs cKp yRi yLe yLa rSz rTc rFa rPa rPy rMi rMe rSr rZ rKi rHe rDo rTx rLa rSk ++ rc_tp E LT pk pv pa pn tc) sz) (rw_10 E co ro jo qo yo eo cs cl cw yr yl yt rk rh rd rt rl rs cWs cKp u.1 yLe yLa rSz rTc rFa rPa rPy rMi rMe rSr rZ rKi rHe rDo rTx rLa u.2 ++ rc_tp E LT pk pv pa pn tc) t) (va_A (rw_10 E co ro jo qo yo eo cs cl cw yr yl yt rk rh rd rt rl rs cWs cKp yRi yLe yLa rSz rTc rFa rPa rPy rMi rMe rSr rZ rKi rHe rDo rTx rLa rSk ++ rc_tp E LT pk pv pa pn tc) sz)) 0 0 (va_A (rw_10 E co ro jo qo yo eo cs cl cw yr yl yt rk rh rd rt rl rs cWs cKp yRi yLe yLa rSz rTc rFa rPa rPy rMi rMe rSr rZ rKi rHe rDo rTx rLa rSk ++ rc_tp E LT pk pv pa pn tc) sz) := by
  refine rc_enterI (cc := cX6_hide) (maxL := 5) (by decide) rfl (Nat.le_of_ble_eq_true rfl) ?_
  intro p e s m args below meth c QQ A hx hb hml hown hts hmn hE hP hD hA hret ls hl
  have hown : s.vm.findClass RX6 = some m.cls := hown
  have hK := hE.1
  have hS : va_S A s.heap s.heap [] := va_S.rf
  have hl : lv_has ls 5 [(0, .ref co), (1, .int p1), (2, .int p2)] := hl
  have n_X1 : ∀ w ∈ wsX10, w ∈ wsX6_hide := fun _ h => List.mem_cons_of_mem _ (List.mem_append_left _ (List.mem_append_left _ (List.mem_append_right _ h)))
  have n_X5 : ∀ w ∈ wsX50, w ∈ wsX6_hide := fun _ h => List.mem_cons_of_mem _ (List.mem_append_left _ (List.mem_append_right _ h))
  have n_X6 : ∀ w ∈ wsX60, w ∈ wsX6_hide := fun _ h => List.mem_cons_of_mem _ (List.mem_append_left _ (List.mem_append_left _ (List.mem_append_left _ (List.mem_append_right _ h))))
  have k_10 := hts (.fieldLink RX6 10 "RidgeClaps" "ridge" "LRidgeClaps$Ridge;") (List.mem_of_getElem? (i := 1) rfl)
  have k_70 := hts (.constant RX6 70 (-1000000001)) (List.mem_of_getElem? (i := 2) rfl)
  have k_25 := hts (.fieldLink RX6 25 "RidgeClaps" "ways" "LRidgeClaps$Ways;") (List.mem_of_getElem? (i := 3) rfl)
  have k_165 := hts (.methodLink RX6 165 Lib.Math.max.name) (List.mem_of_getElem? (i := 4) rfl)
  have k_smax := hts (.static Lib.Math.max.name) (List.mem_of_getElem? (i := 5) rfl)
  have k_math := hts (.initialized "java/lang/Math") (List.mem_of_getElem? (i := 6) rfl)
  have k_cmax := hts (.code Lib.Math.max.name Lib.Math.max.code 2 (some .int)) (List.mem_of_getElem? (i := 7) rfl)
  have k_71 := hts (.fieldLink RX6 71 "RidgeClaps$Ridge" "size" "I") (List.mem_of_getElem? (i := 8) rfl)
  have k_104 := hts (.methodLink RX6 104 Lib.Math.min.name) (List.mem_of_getElem? (i := 9) rfl)
  have k_smin := hts (.static Lib.Math.min.name) (List.mem_of_getElem? (i := 10) rfl)
  have k_cmin := hts (.code Lib.Math.min.name Lib.Math.min.code 2 (some .int)) (List.mem_of_getElem? (i := 11) rfl)
  have k_168 := hts (.fieldLink RX6 168 "RidgeClaps$Ways" "risks" "[I") (List.mem_of_getElem? (i := 12) rfl)
  unfold wp_X6_hide at h
  obtain ⟨H, hH⟩ : ∃ H, H = s.heap := ⟨_, rfl⟩
  obtain ⟨locs, hlocs⟩ : ∃ locs : List Loc, locs = [] := ⟨_, rfl⟩
  have hP : va_P E.1 vwCl (rw_10 E co ro jo qo yo eo cs cl cw yr yl yt rk rh rd rt rl rs cWs cKp yRi yLe yLa rSz rTc rFa rPa rPy rMi rMe rSr rZ rKi rHe rDo rTx rLa rSk ++ rc_tp E LT pk pv pa pn tc) H := by rw [hH]; exact hP
  have hS : va_S A s.heap H locs := by rw [hH, hlocs]; exact hS
  suffices hgo : W p l e ({ frames := 5, cells := 0, slots := 0, locals := 121 } : Room) s m args below meth c H locs 0 0 QQ (F0 m 0 ls []) from by rw [hH, hlocs] at hgo; exact hgo
  refine lv_aload_n hx hb dX6_hide_0 rfl (lv_at hl 0 rfl) ?_
  refine va_get (D := E.1) (ci := 6) (v := .ref ro) (C := RX6) (T := TX6) (N := 10) hx hb hts n_X6 hown hK hP 0 rfl rfl 0 (by decide) k_10 (fun _ h9 => h9) rfl dX6_hide_1 ?_
  refine lv_iload_n hx hb dX6_hide_4 rfl (lv_at hl 1 rfl) ?_
  have hPc := hP.part (cx := (rw_4 E ro rk rh rd rt rl rs rSz rTc rFa rPa rPy rMi rMe rSr rZ rKi rHe rDo rTx rLa rSk)) [5, 6, 7, 8, 9, 10, 11] rfl
  have hDc := hD.part (cx := (rw_4 E ro rk rh rd rt rl rs rSz rTc rFa rPa rPy rMi rMe rSr rZ rKi rHe rDo rTx rLa rSk)) [5, 6, 7, 8, 9, 10, 11] (by decide) rfl
  have hFc := va_freeP (cx := (rw_4 E ro rk rh rd rt rl rs rSz rTc rFa rPa rPy rMi rMe rSr rZ rKi rHe rDo rTx rLa rSk)) hD hS hA [5, 6, 7, 8, 9, 10, 11] rfl
  refine va_calli (va_runV (As := [.int p1]) (rest := []) ⟨hx, hb, hml, hown, hts⟩ (c_X1_has l E ro rk rh rd rt rl rs H.size rSz rTc rFa rPa rPy rMi rMe rSr rZ rKi rHe rDo rTx rLa rSk p1 LT pk pv pa pn tc _ h) (cwV 1 hts gX6_hide_X1_has rfl rfl rfl (by decide +kernel) ⟨Nat.le_of_ble_eq_true rfl, Nat.le_of_ble_eq_true rfl⟩) ⟨fun a U g mk q => ⟨q.1, q.2.blind⟩, va_recv hK hPc (ci := 1) (q0 := 0) rfl rfl, fun U hU hW => ⟨rfl, by rw [hU], by rw [hU]; exact hPc, hE.call hS hFc hW hU, hDc.weaken (fun _ _ _ _ => trivial)⟩⟩ rfl rfl hl.1 rfl (lv_room (Nat.le_of_ble_eq_true rfl)) dX6_hide_5 ⟨Nat.zero_le _, Nat.zero_le _⟩) hS (fun q _ h => hFc q h) hFc (fun r_1 u t H1 locs ht hvm h hB hz1 hk1 hS => ?_)
  obtain ⟨hP1, hD1⟩ := hB
  rw [ht] at hP1
  obtain ⟨hP, hD⟩ := rc_focP hP hD [5, 6, 7, 8, 9, 10, 11] [none, none, none, none, none, some 0, some 1, some 2, some 3, some 4, some 5, some 6] (by decide) rfl rfl hk1 hP1 rfl
  generalize H1 = H at hP hS ⊢
  have hP : va_P E.1 vwCl (rw_10 E co ro jo qo yo eo cs cl cw yr yl yt rk rh rd rt rl rs cWs cKp yRi yLe yLa rSz rTc rFa rPa rPy rMi rMe rSr rZ rKi rHe rDo rTx rLa rSk ++ rc_tp E LT pk pv pa pn tc) H := hP
  have hD : va_D A (rw_10 E co ro jo qo yo eo cs cl cw yr yl yt rk rh rd rt rl rs cWs cKp yRi yLe yLa rSz rTc rFa rPa rPy rMi rMe rSr rZ rKi rHe rDo rTx rLa rSk ++ rc_tp E LT pk pv pa pn tc) := hD
  refine lv_if_eq (tgt := 21) hx hb dX6_hide_8 (by decide) (fun c_2 => ?_) (fun c_2 => ?_)
  · have h := h.1 c_2
    refine lv_ldc hx hb hown k_70 dX6_hide_21 ?_
    exact hret _ _ _ _ (-1000000001) (yRi, rSk) rfl h hP hD hS dX6_hide_23
  · have h := h.2 c_2
    refine lv_iload_n hx hb dX6_hide_11 rfl (lv_at hl 2 rfl) ?_
    refine lv_iconst (v := 0) hx hb dX6_hide_12 (by decide) ?_
    refine lv_bipush (v := 60) hx hb dX6_hide_13 (by decide) ?_
    have hPc := hP.sub (ws' := []) [] rfl
    have hDc := hD.sub (ws' := []) [] (by decide) rfl
    have hFc := va_free (wc := []) hD hS hA [] rfl
    refine va_calli (va_runS (As := [.int p2, .int 0, .int 60]) (rest := []) ⟨hx, hb, hml, hown, hts⟩ (c_X6_within l E H.size p2 0 60 _ h) (va_cwS 3 hts gX6_hide_X6_within rfl rfl rfl (by decide +kernel) ⟨Nat.le_of_ble_eq_true rfl, Nat.le_of_ble_eq_true rfl⟩) ⟨fun a U g mk q => ⟨q.1, q.2.blind⟩, fun U hU hW => ⟨rfl, by rw [hU], by rw [hU]; exact hPc, hE.call hS hFc hW hU, hDc.weaken (fun _ _ _ _ => trivial)⟩⟩ rfl rfl hl.1 rfl (lv_room (Nat.le_of_ble_eq_true rfl)) dX6_hide_15 ⟨Nat.zero_le _, Nat.zero_le _⟩) hS (fun q _ h => hFc q h) hFc (fun r_3 u t H1 locs ht hvm h hB hz1 hk1 hS => ?_)
    obtain ⟨hP1, hD1⟩ := hB
    rw [ht] at hP1
    obtain ⟨hP, hD⟩ := rc_foc hP hD [] [none, none, none, none, none, none, none, none, none, none, none, none] (by decide) rfl hk1 hP1 rfl
    generalize H1 = H at hP hS ⊢
    have hP : va_P E.1 vwCl (rw_10 E co ro jo qo yo eo cs cl cw yr yl yt rk rh rd rt rl rs cWs cKp yRi yLe yLa rSz rTc rFa rPa rPy rMi rMe rSr rZ rKi rHe rDo rTx rLa rSk ++ rc_tp E LT pk pv pa pn tc) H := hP
    have hD : va_D A (rw_10 E co ro jo qo yo eo cs cl cw yr yl yt rk rh rd rt rl rs cWs cKp yRi yLe yLa rSz rTc rFa rPa rPy rMi rMe rSr rZ rKi rHe rDo rTx rLa rSk ++ rc_tp E LT pk pv pa pn tc) := hD
    refine lv_if_ne (tgt := 24) hx hb dX6_hide_18 (by decide) (fun c_4 => ?_) (fun c_4 => ?_)
    · have h := h.1 c_4
      refine lv_aload_n hx hb dX6_hide_24 rfl (lv_at hl 0 rfl) ?_
      refine va_get (D := E.1) (ci := 6) (v := .ref yo) (C := RX6) (T := TX6) (N := 10) hx hb hts n_X6 hown hK hP 0 rfl rfl 3 (by decide) k_25 (fun _ h9 => h9) rfl dX6_hide_25 ?_
      refine lv_aload_n hx hb dX6_hide_28 rfl (lv_at hl 0 rfl) ?_
      refine va_get (D := E.1) (ci := 6) (v := .ref ro) (C := RX6) (T := TX6) (N := 10) hx hb hts n_X6 hown hK hP 0 rfl rfl 0 (by decide) k_10 (fun _ h9 => h9) rfl dX6_hide_29 ?_
      have hPc := hP.part (cx := (rw_7 E yo yr yl yt ro rk rh rd rt rl rs yRi yLe yLa rSz rTc rFa rPa rPy rMi rMe rSr rZ rKi rHe rDo rTx rLa rSk)) [1, 2, 3, 4, 5, 6, 7, 8, 9, 10, 11] rfl
      have hDc := hD.part (cx := (rw_7 E yo yr yl yt ro rk rh rd rt rl rs yRi yLe yLa rSz rTc rFa rPa rPy rMi rMe rSr rZ rKi rHe rDo rTx rLa rSk)) [1, 2, 3, 4, 5, 6, 7, 8, 9, 10, 11] (by decide) rfl
      have hFc := va_freeP (cx := (rw_7 E yo yr yl yt ro rk rh rd rt rl rs yRi yLe yLa rSz rTc rFa rPa rPy rMi rMe rSr rZ rKi rHe rDo rTx rLa rSk)) hD hS hA [1, 2, 3, 4, 5, 6, 7, 8, 9, 10, 11] rfl
      refine va_callv (va_runV (As := [.ref ro]) (rest := []) ⟨hx, hb, hml, hown, hts⟩ (c_X5_weigh l E yo yr yl yt ro rk rh rd rt rl rs H.size yRi yLe yLa rSz rTc rFa rPa rPy rMi rMe rSr rZ rKi rHe rDo rTx rLa rSk LT pk pv pa pn tc _ h) (cwV 1 hts gX6_hide_X5_weigh rfl rfl rfl (by decide +kernel) ⟨Nat.le_of_ble_eq_true rfl, Nat.le_of_ble_eq_true rfl⟩) ⟨fun a U g mk q => ⟨q.1, q.2.blind⟩, va_recv hK hPc (ci := 5) (q0 := 0) rfl rfl, fun U hU hW => ⟨rfl, by rw [hU], by rw [hU]; exact hPc, hE.call hS hFc hW hU, hDc.weaken (fun _ _ _ _ => trivial)⟩⟩ rfl rfl hl.1 rfl (lv_room (Nat.le_of_ble_eq_true rfl)) dX6_hide_32 ⟨Nat.zero_le _, Nat.zero_le _⟩) hS (fun q _ h => hFc q h) hFc (fun u t H1 locs ht hvm h hB hz1 hk1 hS => ?_)
      obtain ⟨w_5, w_6⟩ := u
      obtain ⟨hP1, hD1⟩ := hB
      rw [ht] at hP1
      obtain ⟨hP, hD⟩ := rc_focP hP hD [1, 2, 3, 4, 5, 6, 7, 8, 9, 10, 11] [none, some 0, some 1, some 2, some 3, some 4, some 5, some 6, some 7, some 8, some 9, some 10] (by decide) rfl rfl hk1 hP1 rfl
      generalize H1 = H at hP hS ⊢
      have hP : va_P E.1 vwCl (rw_10 E co ro jo qo yo eo cs cl cw yr yl yt rk rh rd rt rl rs cWs cKp w_5 yLe yLa rSz rTc rFa rPa rPy rMi rMe rSr rZ rKi rHe rDo rTx rLa w_6 ++ rc_tp E LT pk pv pa pn tc) H := hP
      have hD : va_D A (rw_10 E co ro jo qo yo eo cs cl cw yr yl yt rk rh rd rt rl rs cWs cKp w_5 yLe yLa rSz rTc rFa rPa rPy rMi rMe rSr rZ rKi rHe rDo rTx rLa w_6 ++ rc_tp E LT pk pv pa pn tc) := hD
      refine lv_iconst (v := 0) hx hb dX6_hide_35 (by decide) ?_
      refine lv_iload_n hx hb dX6_hide_36 rfl (lv_at hl 1 rfl) ?_
      refine lv_iload_n hx hb dX6_hide_37 rfl (lv_at hl 2 rfl) ?_
      refine lv_isub hx hb dX6_hide_38 ?_
      refine va_mmax hx hb (hml.trans hl.1.symm) hown k_165 k_smax k_math k_cmax (Nat.le_of_ble_eq_true rfl) (Nat.le_of_ble_eq_true rfl) (Nat.zero_le _) (Nat.zero_le _) dX6_hide_39 ?_
      refine W.eq (g2 := F0 m 42 ls [.int (rc_max 0 (p1 - p2))]) rfl ?_
      refine lv_istore_n (lv' := [(3, .int (rc_max 0 (p1 - p2))), (0, .ref co), (1, .int p1), (2, .int p2)]) hx hb dX6_hide_42 rfl hl (by decide) rfl (fun ls hl => ?_)
      refine lv_aload_n hx hb dX6_hide_43 rfl (lv_at hl 1 rfl) ?_
      refine va_get (D := E.1) (ci := 6) (v := .ref ro) (C := RX6) (T := TX6) (N := 10) hx hb hts n_X6 hown hK hP 0 rfl rfl 0 (by decide) k_10 (fun _ h9 => h9) rfl dX6_hide_44 ?_
      refine va_get (D := E.1) (ci := 1) (v := .int rSz) (C := RX1) (T := TX1) (N := 15) hx hb hts n_X1 hown hK hP 5 rfl rfl 3 (by decide) k_71 (fun _ h9 => h9) rfl dX6_hide_47 ?_
      refine lv_iconst (v := 1) hx hb dX6_hide_50 (by decide) ?_
      refine lv_isub hx hb dX6_hide_51 ?_
      refine lv_iload_n hx hb dX6_hide_52 rfl (lv_at hl 2 rfl) ?_
      refine lv_iload_n hx hb dX6_hide_53 rfl (lv_at hl 3 rfl) ?_
      refine lv_iadd hx hb dX6_hide_54 ?_
      refine va_mmin hx hb (hml.trans hl.1.symm) hown k_104 k_smin k_math k_cmin (Nat.le_of_ble_eq_true rfl) (Nat.le_of_ble_eq_true rfl) (Nat.zero_le _) (Nat.zero_le _) dX6_hide_55 ?_
      refine W.eq (g2 := F0 m 58 ls [.int (rc_min (rSz - 1) (p1 + p2))]) rfl ?_
      refine lv_istore (lv' := [(4, .int (rc_min (rSz - 1) (p1 + p2))), (3, .int (rc_max 0 (p1 - p2))), (0, .ref co), (1, .int p1), (2, .int p2)]) hx hb dX6_hide_58 hl (by decide) rfl (fun ls hl => ?_)
      refine lv_aload_n hx hb dX6_hide_60 rfl (lv_at hl 2 rfl) ?_
      refine va_get (D := E.1) (ci := 6) (v := .ref yo) (C := RX6) (T := TX6) (N := 10) hx hb hts n_X6 hown hK hP 0 rfl rfl 3 (by decide) k_25 (fun _ h9 => h9) rfl dX6_hide_61 ?_
      refine va_get (D := E.1) (ci := 5) (v := .ref yr) (C := RX5) (T := TX5) (N := 3) hx hb hts n_X5 hown hK hP 1 rfl rfl 0 (by decide) k_168 (fun _ h9 => h9) rfl dX6_hide_64 ?_
      refine lv_iload_n hx hb dX6_hide_67 rfl (lv_at hl 1 rfl) ?_
      refine lv_iload hx hb dX6_hide_68 (lv_at hl 0 rfl) ?_
      have hPc := hP.sub (ws' := (rw_0 E yr w_5)) [2] rfl
      have hDc := hD.sub (ws' := (rw_0 E yr w_5)) [2] (by decide) rfl
      have hFc := va_free (wc := (rw_0 E yr w_5)) hD hS hA [2] rfl
      refine va_calli (va_runS (As := [.ref yr, .int (rc_max 0 (p1 - p2)), .int (rc_min (rSz - 1) (p1 + p2))]) (rest := []) ⟨hx, hb, hml, hown, hts⟩ (c_X6_firstLeast l E yr H.size w_5 (rc_max 0 (p1 - p2)) (rc_min (rSz - 1) (p1 + p2)) _ h) (va_cwS 3 hts gX6_hide_X6_firstLeast rfl rfl rfl (by decide +kernel) ⟨Nat.le_of_ble_eq_true rfl, Nat.le_of_ble_eq_true rfl⟩) ⟨fun a U g mk q => ⟨q.1, q.2.blind⟩, fun U hU hW => ⟨rfl, by rw [hU], by rw [hU]; exact hPc, hE.call hS hFc hW hU, hDc.weaken (fun _ _ _ _ => trivial)⟩⟩ rfl rfl hl.1 rfl (lv_room (Nat.le_of_ble_eq_true rfl)) dX6_hide_70 ⟨Nat.zero_le _, Nat.zero_le _⟩) hS (fun q _ h => hFc q h) hFc (fun r_7 u t H1 locs ht hvm h hB hz1 hk1 hS => ?_)
      obtain ⟨hP1, hD1⟩ := hB
      rw [ht] at hP1
      obtain ⟨hP, hD⟩ := rc_foc hP hD [2] [none, none, some 0, none, none, none, none, none, none, none, none, none] (by decide) rfl hk1 hP1 rfl
      generalize H1 = H at hP hS ⊢
      have hP : va_P E.1 vwCl (rw_10 E co ro jo qo yo eo cs cl cw yr yl yt rk rh rd rt rl rs cWs cKp w_5 yLe yLa rSz rTc rFa rPa rPy rMi rMe rSr rZ rKi rHe rDo rTx rLa w_6 ++ rc_tp E LT pk pv pa pn tc) H := hP
      have hD : va_D A (rw_10 E co ro jo qo yo eo cs cl cw yr yl yt rk rh rd rt rl rs cWs cKp w_5 yLe yLa rSz rTc rFa rPa rPy rMi rMe rSr rZ rKi rHe rDo rTx rLa w_6 ++ rc_tp E LT pk pv pa pn tc) := hD
      exact hret _ _ _ _ r_7 (w_5, w_6) rfl h hP hD hS dX6_hide_73
    · have h := h.2 c_4
      refine lv_ldc hx hb hown k_70 dX6_hide_21 ?_
      exact hret _ _ _ _ (-1000000001) (yRi, rSk) rfl h hP hD hS dX6_hide_23
def wp_X6_safest (p1 : Int32) (yRi : Nat → Int32) (yLe : Nat → Int32) (yLa : Nat → Int32) (rSz : Int32) (rFa : Int32) (rPa : Int32) (rKi : Nat → Int32) (rHe : Nat → Int32) (rDo : Nat → Int32) (rTx : Nat → Option Nat) (rLa : Nat → Int32) (rSk : Nat → Int32) (LT : List Nat) (pn : Nat → Nat) (tc : Nat → Nat → Int32) (Q : Int32 → (Nat → Int32) → (Nat → Int32) → (Nat → Int32) → (Nat → Int32) → Prop) : Prop :=
  wp_X6_within p1 1 60 (fun (r_1 : Int32) => ((¬ r_1 = 0 → ((¬ rSz = 0 → wp_X5_weigh yRi rSz rKi rHe rTx rLa rSk LT pn tc (fun (w_4 : Nat → Int32) (w_5 : Nat → Int32) => wp_X5_grow p1 w_4 yLe yLa rSz rFa rPa rDo rTx rLa w_5 LT pn tc (fun (w_6 : Nat → Int32) (w_7 : Nat → Int32) (w_8 : Nat → Int32) => wp_X6_firstLeast 0 (rSz - 1) w_6 (fun (r_9 : Int32) => Q r_9 w_4 w_6 w_7 w_8)))) ∧ (rSz = 0 → Q (-1000000005) yRi yLe yLa rSk))) ∧ (r_1 = 0 → Q (-1000000001) yRi yLe yLa rSk)))
set_option maxHeartbeats 4000000 in
set_option maxRecDepth 100000 in
theorem c_X6_safest (l : Launch) (E : gE) (co ro jo qo yo eo cs cl cw yr yl yt rk rh rd rt rl rs : Nat) (sz : Nat) (cWs : Int32) (cKp : Int32) (yRi : Nat → Int32) (yLe : Nat → Int32) (yLa : Nat → Int32) (rSz : Int32) (rTc : Int32) (rFa : Int32) (rPa : Int32) (rPy : Int32) (rMi : Int32) (rMe : Int32) (rSr : Int32) (rZ : Int32) (rKi : Nat → Int32) (rHe : Nat → Int32) (rDo : Nat → Int32) (rTx : Nat → Option Nat) (rLa : Nat → Int32) (rSk : Nat → Int32) (p1 : Int32) (LT : List Nat) (pk : Nat → Int32) (pv : Nat → Int32) (pa : Nat → Nat) (pn : Nat → Nat) (tc : Nat → Nat → Int32) (Q : Int32 → (Nat → Int32) → (Nat → Int32) → (Nat → Int32) → (Nat → Int32) → Prop) (h : wp_X6_safest p1 yRi yLe yLa rSz rFa rPa rKi rHe rDo rTx rLa rSk LT pn tc Q) : Met l yX6_safest wsX6_safest ({ frames := 5, cells := 0, slots := 0, locals := 130 } : Room) (va_Pc [.ref co, .int p1] (rc_B E (rw_10 E co ro jo qo yo eo cs cl cw yr yl yt rk rh rd rt rl rs cWs cKp yRi yLe yLa rSz rTc rFa rPa rPy rMi rMe rSr rZ rKi rHe rDo rTx rLa rSk ++ rc_tp E LT pk pv pa pn tc) sz)) (va_Qi (S := (Nat → Int32) × (Nat → Int32) × (Nat → Int32) × (Nat → Int32)) (fun (r : Int32) (u : (Nat → Int32) × (Nat → Int32) × (Nat → Int32) × (Nat → Int32)) => Q r u.1 u.2.1 u.2.2.1 u.2.2.2) (fun u t => rc_C E (va_A (rw_10 E co ro jo qo yo eo cs cl cw yr yl yt rk rh rd rt rl rs cWs cKp yRi yLe yLa rSz rTc rFa rPa rPy rMi rMe rSr rZ rKi rHe rDo rTx rLa rSk ++ rc_tp E LT pk pv pa pn tc) sz) (rw_10 E co ro jo qo yo eo cs cl cw yr yl yt rk rh rd rt rl rs cWs cKp u.1 u.2.1 u.2.2.1 rSz rTc rFa rPa rPy rMi rMe rSr rZ rKi rHe rDo rTx rLa u.2.2.2 ++ rc_tp E LT pk pv pa pn tc) t) (va_A (rw_10 E co ro jo qo yo eo cs cl cw yr yl yt rk rh rd rt rl rs cWs cKp yRi yLe yLa rSz rTc rFa rPa rPy rMi rMe rSr rZ rKi rHe rDo rTx rLa rSk ++ rc_tp E LT pk pv pa pn tc) sz)) 0 0 (va_A (rw_10 E co ro jo qo yo eo cs cl cw yr yl yt rk rh rd rt rl rs cWs cKp yRi yLe yLa rSz rTc rFa rPa rPy rMi rMe rSr rZ rKi rHe rDo rTx rLa rSk ++ rc_tp E LT pk pv pa pn tc) sz) := by
  refine rc_enterI (cc := cX6_safest) (maxL := 2) (by decide) rfl (Nat.le_of_ble_eq_true rfl) ?_
  intro p e s m args below meth c QQ A hx hb hml hown hts hmn hE hP hD hA hret ls hl
  have hown : s.vm.findClass RX6 = some m.cls := hown
  have hK := hE.1
  have hS : va_S A s.heap s.heap [] := va_S.rf
  have hl : lv_has ls 2 [(0, .ref co), (1, .int p1)] := hl
  have n_X1 : ∀ w ∈ wsX10, w ∈ wsX6_safest := fun _ h => List.mem_cons_of_mem _ (List.mem_append_left _ (List.mem_append_left _ (List.mem_append_right _ h)))
  have n_X5 : ∀ w ∈ wsX50, w ∈ wsX6_safest := fun _ h => List.mem_cons_of_mem _ (List.mem_append_left _ (List.mem_append_right _ h))
  have n_X6 : ∀ w ∈ wsX60, w ∈ wsX6_safest := fun _ h => List.mem_cons_of_mem _ (List.mem_append_left _ (List.mem_append_left _ (List.mem_append_left _ (List.mem_append_right _ h))))
  have k_10 := hts (.fieldLink RX6 10 "RidgeClaps" "ridge" "LRidgeClaps$Ridge;") (List.mem_of_getElem? (i := 2) rfl)
  have k_71 := hts (.fieldLink RX6 71 "RidgeClaps$Ridge" "size" "I") (List.mem_of_getElem? (i := 3) rfl)
  have k_25 := hts (.fieldLink RX6 25 "RidgeClaps" "ways" "LRidgeClaps$Ways;") (List.mem_of_getElem? (i := 5) rfl)
  have k_155 := hts (.fieldLink RX6 155 "RidgeClaps$Ways" "least" "[I") (List.mem_of_getElem? (i := 6) rfl)
  have k_130 := hts (.constant RX6 130 (-1000000005)) (List.mem_of_getElem? (i := 4) rfl)
  have k_70 := hts (.constant RX6 70 (-1000000001)) (List.mem_of_getElem? (i := 1) rfl)
  unfold wp_X6_safest at h
  obtain ⟨H, hH⟩ : ∃ H, H = s.heap := ⟨_, rfl⟩
  obtain ⟨locs, hlocs⟩ : ∃ locs : List Loc, locs = [] := ⟨_, rfl⟩
  have hP : va_P E.1 vwCl (rw_10 E co ro jo qo yo eo cs cl cw yr yl yt rk rh rd rt rl rs cWs cKp yRi yLe yLa rSz rTc rFa rPa rPy rMi rMe rSr rZ rKi rHe rDo rTx rLa rSk ++ rc_tp E LT pk pv pa pn tc) H := by rw [hH]; exact hP
  have hS : va_S A s.heap H locs := by rw [hH, hlocs]; exact hS
  suffices hgo : W p l e ({ frames := 5, cells := 0, slots := 0, locals := 130 } : Room) s m args below meth c H locs 0 0 QQ (F0 m 0 ls []) from by rw [hH, hlocs] at hgo; exact hgo
  refine lv_iload_n hx hb dX6_safest_0 rfl (lv_at hl 1 rfl) ?_
  refine lv_iconst (v := 1) hx hb dX6_safest_1 (by decide) ?_
  refine lv_bipush (v := 60) hx hb dX6_safest_2 (by decide) ?_
  have hPc := hP.sub (ws' := []) [] rfl
  have hDc := hD.sub (ws' := []) [] (by decide) rfl
  have hFc := va_free (wc := []) hD hS hA [] rfl
  refine va_calli (va_runS (As := [.int p1, .int 1, .int 60]) (rest := []) ⟨hx, hb, hml, hown, hts⟩ (c_X6_within l E H.size p1 1 60 _ h) (va_cwS 3 hts gX6_safest_X6_within rfl rfl rfl (by decide +kernel) ⟨Nat.le_of_ble_eq_true rfl, Nat.le_of_ble_eq_true rfl⟩) ⟨fun a U g mk q => ⟨q.1, q.2.blind⟩, fun U hU hW => ⟨rfl, by rw [hU], by rw [hU]; exact hPc, hE.call hS hFc hW hU, hDc.weaken (fun _ _ _ _ => trivial)⟩⟩ rfl rfl hl.1 rfl (lv_room (Nat.le_of_ble_eq_true rfl)) dX6_safest_4 ⟨Nat.zero_le _, Nat.zero_le _⟩) hS (fun q _ h => hFc q h) hFc (fun r_1 u t H1 locs ht hvm h hB hz1 hk1 hS => ?_)
  obtain ⟨hP1, hD1⟩ := hB
  rw [ht] at hP1
  obtain ⟨hP, hD⟩ := rc_foc hP hD [] [none, none, none, none, none, none, none, none, none, none, none, none] (by decide) rfl hk1 hP1 rfl
  generalize H1 = H at hP hS ⊢
  have hP : va_P E.1 vwCl (rw_10 E co ro jo qo yo eo cs cl cw yr yl yt rk rh rd rt rl rs cWs cKp yRi yLe yLa rSz rTc rFa rPa rPy rMi rMe rSr rZ rKi rHe rDo rTx rLa rSk ++ rc_tp E LT pk pv pa pn tc) H := hP
  have hD : va_D A (rw_10 E co ro jo qo yo eo cs cl cw yr yl yt rk rh rd rt rl rs cWs cKp yRi yLe yLa rSz rTc rFa rPa rPy rMi rMe rSr rZ rKi rHe rDo rTx rLa rSk ++ rc_tp E LT pk pv pa pn tc) := hD
  refine lv_if_ne (tgt := 13) hx hb dX6_safest_7 (by decide) (fun c_2 => ?_) (fun c_2 => ?_)
  · have h := h.1 c_2
    refine lv_aload_n hx hb dX6_safest_13 rfl (lv_at hl 0 rfl) ?_
    refine va_get (D := E.1) (ci := 6) (v := .ref ro) (C := RX6) (T := TX6) (N := 10) hx hb hts n_X6 hown hK hP 0 rfl rfl 0 (by decide) k_10 (fun _ h9 => h9) rfl dX6_safest_14 ?_
    refine va_get (D := E.1) (ci := 1) (v := .int rSz) (C := RX1) (T := TX1) (N := 15) hx hb hts n_X1 hown hK hP 5 rfl rfl 3 (by decide) k_71 (fun _ h9 => h9) rfl dX6_safest_17 ?_
    refine lv_if_ne (tgt := 26) hx hb dX6_safest_20 (by decide) (fun c_3 => ?_) (fun c_3 => ?_)
    · have h := h.1 c_3
      refine lv_aload_n hx hb dX6_safest_26 rfl (lv_at hl 0 rfl) ?_
      refine va_get (D := E.1) (ci := 6) (v := .ref yo) (C := RX6) (T := TX6) (N := 10) hx hb hts n_X6 hown hK hP 0 rfl rfl 3 (by decide) k_25 (fun _ h9 => h9) rfl dX6_safest_27 ?_
      refine lv_aload_n hx hb dX6_safest_30 rfl (lv_at hl 0 rfl) ?_
      refine va_get (D := E.1) (ci := 6) (v := .ref ro) (C := RX6) (T := TX6) (N := 10) hx hb hts n_X6 hown hK hP 0 rfl rfl 0 (by decide) k_10 (fun _ h9 => h9) rfl dX6_safest_31 ?_
      have hPc := hP.part (cx := (rw_7 E yo yr yl yt ro rk rh rd rt rl rs yRi yLe yLa rSz rTc rFa rPa rPy rMi rMe rSr rZ rKi rHe rDo rTx rLa rSk)) [1, 2, 3, 4, 5, 6, 7, 8, 9, 10, 11] rfl
      have hDc := hD.part (cx := (rw_7 E yo yr yl yt ro rk rh rd rt rl rs yRi yLe yLa rSz rTc rFa rPa rPy rMi rMe rSr rZ rKi rHe rDo rTx rLa rSk)) [1, 2, 3, 4, 5, 6, 7, 8, 9, 10, 11] (by decide) rfl
      have hFc := va_freeP (cx := (rw_7 E yo yr yl yt ro rk rh rd rt rl rs yRi yLe yLa rSz rTc rFa rPa rPy rMi rMe rSr rZ rKi rHe rDo rTx rLa rSk)) hD hS hA [1, 2, 3, 4, 5, 6, 7, 8, 9, 10, 11] rfl
      refine va_callv (va_runV (As := [.ref ro]) (rest := []) ⟨hx, hb, hml, hown, hts⟩ (c_X5_weigh l E yo yr yl yt ro rk rh rd rt rl rs H.size yRi yLe yLa rSz rTc rFa rPa rPy rMi rMe rSr rZ rKi rHe rDo rTx rLa rSk LT pk pv pa pn tc _ h) (cwV 1 hts gX6_safest_X5_weigh rfl rfl rfl (by decide +kernel) ⟨Nat.le_of_ble_eq_true rfl, Nat.le_of_ble_eq_true rfl⟩) ⟨fun a U g mk q => ⟨q.1, q.2.blind⟩, va_recv hK hPc (ci := 5) (q0 := 0) rfl rfl, fun U hU hW => ⟨rfl, by rw [hU], by rw [hU]; exact hPc, hE.call hS hFc hW hU, hDc.weaken (fun _ _ _ _ => trivial)⟩⟩ rfl rfl hl.1 rfl (lv_room (Nat.le_of_ble_eq_true rfl)) dX6_safest_34 ⟨Nat.zero_le _, Nat.zero_le _⟩) hS (fun q _ h => hFc q h) hFc (fun u t H1 locs ht hvm h hB hz1 hk1 hS => ?_)
      obtain ⟨w_4, w_5⟩ := u
      obtain ⟨hP1, hD1⟩ := hB
      rw [ht] at hP1
      obtain ⟨hP, hD⟩ := rc_focP hP hD [1, 2, 3, 4, 5, 6, 7, 8, 9, 10, 11] [none, some 0, some 1, some 2, some 3, some 4, some 5, some 6, some 7, some 8, some 9, some 10] (by decide) rfl rfl hk1 hP1 rfl
      generalize H1 = H at hP hS ⊢
      have hP : va_P E.1 vwCl (rw_10 E co ro jo qo yo eo cs cl cw yr yl yt rk rh rd rt rl rs cWs cKp w_4 yLe yLa rSz rTc rFa rPa rPy rMi rMe rSr rZ rKi rHe rDo rTx rLa w_5 ++ rc_tp E LT pk pv pa pn tc) H := hP
      have hD : va_D A (rw_10 E co ro jo qo yo eo cs cl cw yr yl yt rk rh rd rt rl rs cWs cKp w_4 yLe yLa rSz rTc rFa rPa rPy rMi rMe rSr rZ rKi rHe rDo rTx rLa w_5 ++ rc_tp E LT pk pv pa pn tc) := hD
      refine lv_aload_n hx hb dX6_safest_37 rfl (lv_at hl 0 rfl) ?_
      refine va_get (D := E.1) (ci := 6) (v := .ref yo) (C := RX6) (T := TX6) (N := 10) hx hb hts n_X6 hown hK hP 0 rfl rfl 3 (by decide) k_25 (fun _ h9 => h9) rfl dX6_safest_38 ?_
      refine lv_aload_n hx hb dX6_safest_41 rfl (lv_at hl 0 rfl) ?_
      refine va_get (D := E.1) (ci := 6) (v := .ref ro) (C := RX6) (T := TX6) (N := 10) hx hb hts n_X6 hown hK hP 0 rfl rfl 0 (by decide) k_10 (fun _ h9 => h9) rfl dX6_safest_42 ?_
      refine lv_iload_n hx hb dX6_safest_45 rfl (lv_at hl 1 rfl) ?_
      have hPc := hP.part (cx := (rw_7 E yo yr yl yt ro rk rh rd rt rl rs w_4 yLe yLa rSz rTc rFa rPa rPy rMi rMe rSr rZ rKi rHe rDo rTx rLa w_5)) [1, 2, 3, 4, 5, 6, 7, 8, 9, 10, 11] rfl
      have hDc := hD.part (cx := (rw_7 E yo yr yl yt ro rk rh rd rt rl rs w_4 yLe yLa rSz rTc rFa rPa rPy rMi rMe rSr rZ rKi rHe rDo rTx rLa w_5)) [1, 2, 3, 4, 5, 6, 7, 8, 9, 10, 11] (by decide) rfl
      have hFc := va_freeP (cx := (rw_7 E yo yr yl yt ro rk rh rd rt rl rs w_4 yLe yLa rSz rTc rFa rPa rPy rMi rMe rSr rZ rKi rHe rDo rTx rLa w_5)) hD hS hA [1, 2, 3, 4, 5, 6, 7, 8, 9, 10, 11] rfl
      refine va_callv (va_runV (As := [.ref ro, .int p1]) (rest := []) ⟨hx, hb, hml, hown, hts⟩ (c_X5_grow l E yo yr yl yt ro rk rh rd rt rl rs H.size w_4 yLe yLa rSz rTc rFa rPa rPy rMi rMe rSr rZ rKi rHe rDo rTx rLa w_5 p1 LT pk pv pa pn tc _ h) (cwV 2 hts gX6_safest_X5_grow rfl rfl rfl (by decide +kernel) ⟨Nat.le_of_ble_eq_true rfl, Nat.le_of_ble_eq_true rfl⟩) ⟨fun a U g mk q => ⟨q.1, q.2.blind⟩, va_recv hK hPc (ci := 5) (q0 := 0) rfl rfl, fun U hU hW => ⟨rfl, by rw [hU], by rw [hU]; exact hPc, hE.call hS hFc hW hU, hDc.weaken (fun _ _ _ _ => trivial)⟩⟩ rfl rfl hl.1 rfl (lv_room (Nat.le_of_ble_eq_true rfl)) dX6_safest_46 ⟨Nat.zero_le _, Nat.zero_le _⟩) hS (fun q _ h => hFc q h) hFc (fun u t H1 locs ht hvm h hB hz1 hk1 hS => ?_)
      obtain ⟨w_6, w_7, w_8⟩ := u
      obtain ⟨hP1, hD1⟩ := hB
      rw [ht] at hP1
      obtain ⟨hP, hD⟩ := rc_focP hP hD [1, 2, 3, 4, 5, 6, 7, 8, 9, 10, 11] [none, some 0, some 1, some 2, some 3, some 4, some 5, some 6, some 7, some 8, some 9, some 10] (by decide) rfl rfl hk1 hP1 rfl
      generalize H1 = H at hP hS ⊢
      have hP : va_P E.1 vwCl (rw_10 E co ro jo qo yo eo cs cl cw yr yl yt rk rh rd rt rl rs cWs cKp w_4 w_6 w_7 rSz rTc rFa rPa rPy rMi rMe rSr rZ rKi rHe rDo rTx rLa w_8 ++ rc_tp E LT pk pv pa pn tc) H := hP
      have hD : va_D A (rw_10 E co ro jo qo yo eo cs cl cw yr yl yt rk rh rd rt rl rs cWs cKp w_4 w_6 w_7 rSz rTc rFa rPa rPy rMi rMe rSr rZ rKi rHe rDo rTx rLa w_8 ++ rc_tp E LT pk pv pa pn tc) := hD
      refine lv_aload_n hx hb dX6_safest_49 rfl (lv_at hl 0 rfl) ?_
      refine va_get (D := E.1) (ci := 6) (v := .ref yo) (C := RX6) (T := TX6) (N := 10) hx hb hts n_X6 hown hK hP 0 rfl rfl 3 (by decide) k_25 (fun _ h9 => h9) rfl dX6_safest_50 ?_
      refine va_get (D := E.1) (ci := 5) (v := .ref yl) (C := RX5) (T := TX5) (N := 3) hx hb hts n_X5 hown hK hP 1 rfl rfl 1 (by decide) k_155 (fun _ h9 => h9) rfl dX6_safest_53 ?_
      refine lv_iconst (v := 0) hx hb dX6_safest_56 (by decide) ?_
      refine lv_aload_n hx hb dX6_safest_57 rfl (lv_at hl 0 rfl) ?_
      refine va_get (D := E.1) (ci := 6) (v := .ref ro) (C := RX6) (T := TX6) (N := 10) hx hb hts n_X6 hown hK hP 0 rfl rfl 0 (by decide) k_10 (fun _ h9 => h9) rfl dX6_safest_58 ?_
      refine va_get (D := E.1) (ci := 1) (v := .int rSz) (C := RX1) (T := TX1) (N := 15) hx hb hts n_X1 hown hK hP 5 rfl rfl 3 (by decide) k_71 (fun _ h9 => h9) rfl dX6_safest_61 ?_
      refine lv_iconst (v := 1) hx hb dX6_safest_64 (by decide) ?_
      refine lv_isub hx hb dX6_safest_65 ?_
      have hPc := hP.sub (ws' := (rw_0 E yl w_6)) [3] rfl
      have hDc := hD.sub (ws' := (rw_0 E yl w_6)) [3] (by decide) rfl
      have hFc := va_free (wc := (rw_0 E yl w_6)) hD hS hA [3] rfl
      refine va_calli (va_runS (As := [.ref yl, .int 0, .int (rSz - 1)]) (rest := []) ⟨hx, hb, hml, hown, hts⟩ (c_X6_firstLeast l E yl H.size w_6 0 (rSz - 1) _ h) (va_cwS 3 hts gX6_safest_X6_firstLeast rfl rfl rfl (by decide +kernel) ⟨Nat.le_of_ble_eq_true rfl, Nat.le_of_ble_eq_true rfl⟩) ⟨fun a U g mk q => ⟨q.1, q.2.blind⟩, fun U hU hW => ⟨rfl, by rw [hU], by rw [hU]; exact hPc, hE.call hS hFc hW hU, hDc.weaken (fun _ _ _ _ => trivial)⟩⟩ rfl rfl hl.1 rfl (lv_room (Nat.le_of_ble_eq_true rfl)) dX6_safest_66 ⟨Nat.zero_le _, Nat.zero_le _⟩) hS (fun q _ h => hFc q h) hFc (fun r_9 u t H1 locs ht hvm h hB hz1 hk1 hS => ?_)
      obtain ⟨hP1, hD1⟩ := hB
      rw [ht] at hP1
      obtain ⟨hP, hD⟩ := rc_foc hP hD [3] [none, none, none, some 0, none, none, none, none, none, none, none, none] (by decide) rfl hk1 hP1 rfl
      generalize H1 = H at hP hS ⊢
      have hP : va_P E.1 vwCl (rw_10 E co ro jo qo yo eo cs cl cw yr yl yt rk rh rd rt rl rs cWs cKp w_4 w_6 w_7 rSz rTc rFa rPa rPy rMi rMe rSr rZ rKi rHe rDo rTx rLa w_8 ++ rc_tp E LT pk pv pa pn tc) H := hP
      have hD : va_D A (rw_10 E co ro jo qo yo eo cs cl cw yr yl yt rk rh rd rt rl rs cWs cKp w_4 w_6 w_7 rSz rTc rFa rPa rPy rMi rMe rSr rZ rKi rHe rDo rTx rLa w_8 ++ rc_tp E LT pk pv pa pn tc) := hD
      exact hret _ _ _ _ r_9 (w_4, w_6, w_7, w_8) rfl h hP hD hS dX6_safest_69
    · have h := h.2 c_3
      refine lv_ldc hx hb hown k_130 dX6_safest_23 ?_
      exact hret _ _ _ _ (-1000000005) (yRi, yLe, yLa, rSk) rfl h hP hD hS dX6_safest_25
  · have h := h.2 c_2
    refine lv_ldc hx hb hown k_70 dX6_safest_10 ?_
    exact hret _ _ _ _ (-1000000001) (yRi, yLe, yLa, rSk) rfl h hP hD hS dX6_safest_12
