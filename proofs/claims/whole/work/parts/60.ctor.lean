
set_option maxHeartbeats 8000000 in
set_option maxRecDepth 100000 in
theorem c_X2_init (l : Launch) (E : gE) (ko  : Nat) (sz : Nat)  : Met l yX2_init wsX2_init ({ frames := 1, cells := 1, slots := 24, locals := 20 } : Room) (va_Pc [.ref ko] (rc_B E [(ko, .inr (2, [.int 0, .int 0, .null]))] sz)) (va_Qv (S := Nat → Nat) (fun _ => True) (fun u t => rc_C E (va_A [(ko, .inr (2, [.int 0, .int 0, .null]))] sz) [(ko, .inr (2, [.int (-1), .int 0, .ref (u 0)])), ((u 0), .inl (E.2.1 0, 24, .inl (fun _ => 0)))] t) (va_A [(ko, .inr (2, [.int 0, .int 0, .null]))] sz)) 1 24 (va_A [(ko, .inr (2, [.int 0, .int 0, .null]))] sz) := by
  refine rc_enterV (cc := cX2_init) (maxL := 1) (by decide) rfl (Nat.le_of_ble_eq_true rfl) ?_
  intro p e s m args below meth c QQ A hx hb hml hown hts hmn hE hP hD hA hret ls hl
  have hown : s.vm.findClass RX2 = some m.cls := hown
  have hmn : meth.name = "<init>" := hmn
  have hK := hE.1
  have hl : lv_has ls 1 [(0, .ref ko)] := hl
  have n_X2 : ∀ w ∈ wsX20, w ∈ wsX2_init := fun _ h => List.mem_cons_of_mem _ (List.mem_append_right _ h)
  have k_3 := hts (.methodLink RX2 3 objectInit) (List.mem_of_getElem? (i := 1) rfl)
  have k_oi := hts (.instanceMethod objectInit) (List.mem_of_getElem? (i := 2) rfl)
  have k_oc := hts (.code objectInit ⟨#[0xb1]⟩ 1 none) (List.mem_of_getElem? (i := 3) rfl)
  have k_9 := hts (.fieldLink RX2 9 "RidgeClaps$Row" "sort" "I") (List.mem_of_getElem? (i := 4) rfl)
  have k_15 := hts (.fieldLink RX2 15 "RidgeClaps$Row" "size" "I") (List.mem_of_getElem? (i := 5) rfl)
  have k_arrI := hts (.arrayClass .int) (List.mem_of_getElem? (i := 6) rfl)
  have k_18 := hts (.fieldLink RX2 18 "RidgeClaps$Row" "values" "[I") (List.mem_of_getElem? (i := 7) rfl)
  have hS : va_S A s.heap s.heap [] := va_S.rf
  obtain ⟨H, hH⟩ : ∃ H, H = s.heap := ⟨_, rfl⟩
  obtain ⟨locs, hlocs⟩ : ∃ locs : List Loc, locs = [] := ⟨_, rfl⟩
  have hP : va_P E.1 vwCl [(ko, .inr (2, [.int 0, .int 0, .null]))] H := by rw [hH]; exact hP
  have hS : va_S A s.heap H locs := by rw [hH, hlocs]; exact hS
  suffices hgo : W p l e ({ frames := 1, cells := 1, slots := 24, locals := 20 } : Room) s m args below meth c H locs 0 0 QQ (F0 m 0 ls []) from by rw [hH, hlocs] at hgo; exact hgo
  refine lv_aload_n hx hb dX2_init_0 rfl (lv_at hl 0 rfl) ?_
  refine W.objInit hx hb hown k_3 k_oi k_oc rfl (by rw [hml]; exact hl.1) rfl dX2_init_1 (Nat.le_of_ble_eq_true rfl) (Nat.le_of_ble_eq_true rfl) ?_
  refine W.eq (g2 := F0 m 4 ls []) rfl ?_
  refine lv_aload_n hx hb dX2_init_4 rfl (lv_at hl 0 rfl) ?_
  refine lv_iconst (v := (-1)) hx hb dX2_init_5 (by decide) ?_
  refine va_put (D := E.1) (ci := 2) (v := .int (-1)) (ty := .int) (C := RX2) (T := TX2) (N := 3) hx hb hts n_X2 tyX2 tyX2_ok nmX2 hown hK hP hD hS 0 rfl rfl 0 (by decide) k_9 (fun _ h9 => h9) rfl (by decide +kernel) rfl rfl (Nat.le_of_ble_eq_true rfl) dX2_init_6 (fun H locs hP hD hS => ?_)
  have hP : va_P E.1 vwCl [(ko, .inr (2, [.int (-1), .int 0, .null]))] H := hP
  have hD : va_D A [(ko, .inr (2, [.int (-1), .int 0, .null]))] := hD
  refine lv_aload_n hx hb dX2_init_9 rfl (lv_at hl 0 rfl) ?_
  refine lv_iconst (v := 0) hx hb dX2_init_10 (by decide) ?_
  refine va_put (D := E.1) (ci := 2) (v := .int 0) (ty := .int) (C := RX2) (T := TX2) (N := 3) hx hb hts n_X2 tyX2 tyX2_ok nmX2 hown hK hP hD hS 0 rfl rfl 1 (by decide) k_15 (fun _ h9 => h9) rfl (by decide +kernel) rfl rfl (Nat.le_of_ble_eq_true rfl) dX2_init_11 (fun H locs hP hD hS => ?_)
  have hP : va_P E.1 vwCl [(ko, .inr (2, [.int (-1), .int 0, .null]))] H := hP
  have hD : va_D A [(ko, .inr (2, [.int (-1), .int 0, .null]))] := hD
  refine lv_aload_n hx hb dX2_init_14 rfl (lv_at hl 0 rfl) ?_
  refine lv_bipush (v := 24) hx hb dX2_init_15 (by decide) ?_
  refine rc_newI (E := E) hx hb k_arrI hK hP hD hS hA 24 (by decide) (by decide) (by decide) (Nat.le_of_ble_eq_true rfl) (Nat.le_of_ble_eq_true rfl) dX2_init_17 (fun q_1 H hP hD hS => ?_)
  have hP : va_P E.1 vwCl [(ko, .inr (2, [.int (-1), .int 0, .null])), (q_1, .inl (E.2.1 0, 24, .inl (fun _ => 0)))] H := hP
  have hD : va_D A [(ko, .inr (2, [.int (-1), .int 0, .null])), (q_1, .inl (E.2.1 0, 24, .inl (fun _ => 0)))] := hD
  refine va_putF (D := E.1) (ci := 2) (v := .ref q_1) (ty := .array .int) (C := RX2) (T := TX2) (N := 3) hx hb hts n_X2 tyX2 tyX2_ok nmX2 hown hK hP hD hS 0 rfl rfl 2 (by decide) k_18 (fun _ h9 => h9) rfl hmn rfl (by decide +kernel) rfl rfl (Nat.le_of_ble_eq_true rfl) dX2_init_19 (fun H locs hP hD hS => ?_)
  have hP : va_P E.1 vwCl [(ko, .inr (2, [.int (-1), .int 0, .ref q_1])), (q_1, .inl (E.2.1 0, 24, .inl (fun _ => 0)))] H := hP
  have hD : va_D A [(ko, .inr (2, [.int (-1), .int 0, .ref q_1])), (q_1, .inl (E.2.1 0, 24, .inl (fun _ => 0)))] := hD
  refine W.widen (k := 1) (n := 24) (Nat.le_of_ble_eq_true rfl) (Nat.le_of_ble_eq_true rfl) ?_
  exact hret _ _ _ _ (fun j => [q_1].getD j 0) trivial hP hD hS dX2_init_22

set_option maxHeartbeats 8000000 in
set_option maxRecDepth 100000 in
theorem c_X3_init (l : Launch) (E : gE) (ko  : Nat) (sz : Nat)  : Met l yX3_init wsX3_init ({ frames := 2, cells := 2, slots := 27, locals := 40 } : Room) (va_Pc [.ref ko] (rc_B E [(ko, .inr (3, [.int 0, .int 0, .int 0, .int 0, .null]))] sz)) (va_Qv (S := Nat → Nat) (fun _ => True) (fun u t => rc_C E (va_A [(ko, .inr (3, [.int 0, .int 0, .int 0, .int 0, .null]))] sz) [(ko, .inr (3, [.int 0, .int 0, .int 0, .int 0, .ref (u 0)])), ((u 0), .inr (2, [.int (-1), .int 0, .ref (u 1)])), ((u 1), .inl (E.2.1 0, 24, .inl (fun _ => 0)))] t) (va_A [(ko, .inr (3, [.int 0, .int 0, .int 0, .int 0, .null]))] sz)) 2 27 (va_A [(ko, .inr (3, [.int 0, .int 0, .int 0, .int 0, .null]))] sz) := by
  refine rc_enterV (cc := cX3_init) (maxL := 1) (by decide) rfl (Nat.le_of_ble_eq_true rfl) ?_
  intro p e s m args below meth c QQ A hx hb hml hown hts hmn hE hP hD hA hret ls hl
  have hown : s.vm.findClass RX3 = some m.cls := hown
  have hmn : meth.name = "<init>" := hmn
  have hK := hE.1
  have hl : lv_has ls 1 [(0, .ref ko)] := hl
  have n_X2 : ∀ w ∈ wsX20, w ∈ wsX3_init := fun _ h => List.mem_cons_of_mem _ (List.mem_append_right _ h)
  have n_X3 : ∀ w ∈ wsX30, w ∈ wsX3_init := fun _ h => List.mem_cons_of_mem _ (List.mem_append_left _ (List.mem_append_right _ h))
  have k_3 := hts (.methodLink RX3 3 objectInit) (List.mem_of_getElem? (i := 1) rfl)
  have k_oi := hts (.instanceMethod objectInit) (List.mem_of_getElem? (i := 2) rfl)
  have k_oc := hts (.code objectInit ⟨#[0xb1]⟩ 1 none) (List.mem_of_getElem? (i := 3) rfl)
  have k_9 := hts (.fieldLink RX3 9 "RidgeClaps$Slot" "thing" "I") (List.mem_of_getElem? (i := 4) rfl)
  have k_15 := hts (.fieldLink RX3 15 "RidgeClaps$Slot" "kind" "I") (List.mem_of_getElem? (i := 5) rfl)
  have k_18 := hts (.fieldLink RX3 18 "RidgeClaps$Slot" "height" "I") (List.mem_of_getElem? (i := 6) rfl)
  have k_21 := hts (.fieldLink RX3 21 "RidgeClaps$Slot" "number" "I") (List.mem_of_getElem? (i := 7) rfl)
  have k_24 := hts (.classLink RX3 24 RX2) (List.mem_of_getElem? (i := 8) rfl)
  have k_nX2 := hts (.instantiable RX2 3) (List.mem_of_getElem? (i := 9) rfl)
  have k_iX2 := hts (.initialized RX2) (List.mem_of_getElem? (i := 10) rfl)
  have k_mX2 := hts (.instanceMethod yX2_init) (List.mem_of_getElem? (i := 12) rfl)
  have k_27 := hts (.fieldLink RX3 27 "RidgeClaps$Slot" "row" "LRidgeClaps$Row;") (List.mem_of_getElem? (i := 11) rfl)
  have hS : va_S A s.heap s.heap [] := va_S.rf
  obtain ⟨H, hH⟩ : ∃ H, H = s.heap := ⟨_, rfl⟩
  obtain ⟨locs, hlocs⟩ : ∃ locs : List Loc, locs = [] := ⟨_, rfl⟩
  have hP : va_P E.1 vwCl [(ko, .inr (3, [.int 0, .int 0, .int 0, .int 0, .null]))] H := by rw [hH]; exact hP
  have hS : va_S A s.heap H locs := by rw [hH, hlocs]; exact hS
  suffices hgo : W p l e ({ frames := 2, cells := 2, slots := 27, locals := 40 } : Room) s m args below meth c H locs 0 0 QQ (F0 m 0 ls []) from by rw [hH, hlocs] at hgo; exact hgo
  refine lv_aload_n hx hb dX3_init_0 rfl (lv_at hl 0 rfl) ?_
  refine W.objInit hx hb hown k_3 k_oi k_oc rfl (by rw [hml]; exact hl.1) rfl dX3_init_1 (Nat.le_of_ble_eq_true rfl) (Nat.le_of_ble_eq_true rfl) ?_
  refine W.eq (g2 := F0 m 4 ls []) rfl ?_
  refine lv_aload_n hx hb dX3_init_4 rfl (lv_at hl 0 rfl) ?_
  refine lv_iconst (v := 0) hx hb dX3_init_5 (by decide) ?_
  refine va_put (D := E.1) (ci := 3) (v := .int 0) (ty := .int) (C := RX3) (T := TX3) (N := 5) hx hb hts n_X3 tyX3 tyX3_ok nmX3 hown hK hP hD hS 0 rfl rfl 0 (by decide) k_9 (fun _ h9 => h9) rfl (by decide +kernel) rfl rfl (Nat.le_of_ble_eq_true rfl) dX3_init_6 (fun H locs hP hD hS => ?_)
  have hP : va_P E.1 vwCl [(ko, .inr (3, [.int 0, .int 0, .int 0, .int 0, .null]))] H := hP
  have hD : va_D A [(ko, .inr (3, [.int 0, .int 0, .int 0, .int 0, .null]))] := hD
  refine lv_aload_n hx hb dX3_init_9 rfl (lv_at hl 0 rfl) ?_
  refine lv_iconst (v := 0) hx hb dX3_init_10 (by decide) ?_
  refine va_put (D := E.1) (ci := 3) (v := .int 0) (ty := .int) (C := RX3) (T := TX3) (N := 5) hx hb hts n_X3 tyX3 tyX3_ok nmX3 hown hK hP hD hS 0 rfl rfl 1 (by decide) k_15 (fun _ h9 => h9) rfl (by decide +kernel) rfl rfl (Nat.le_of_ble_eq_true rfl) dX3_init_11 (fun H locs hP hD hS => ?_)
  have hP : va_P E.1 vwCl [(ko, .inr (3, [.int 0, .int 0, .int 0, .int 0, .null]))] H := hP
  have hD : va_D A [(ko, .inr (3, [.int 0, .int 0, .int 0, .int 0, .null]))] := hD
  refine lv_aload_n hx hb dX3_init_14 rfl (lv_at hl 0 rfl) ?_
  refine lv_iconst (v := 0) hx hb dX3_init_15 (by decide) ?_
  refine va_put (D := E.1) (ci := 3) (v := .int 0) (ty := .int) (C := RX3) (T := TX3) (N := 5) hx hb hts n_X3 tyX3 tyX3_ok nmX3 hown hK hP hD hS 0 rfl rfl 2 (by decide) k_18 (fun _ h9 => h9) rfl (by decide +kernel) rfl rfl (Nat.le_of_ble_eq_true rfl) dX3_init_16 (fun H locs hP hD hS => ?_)
  have hP : va_P E.1 vwCl [(ko, .inr (3, [.int 0, .int 0, .int 0, .int 0, .null]))] H := hP
  have hD : va_D A [(ko, .inr (3, [.int 0, .int 0, .int 0, .int 0, .null]))] := hD
  refine lv_aload_n hx hb dX3_init_19 rfl (lv_at hl 0 rfl) ?_
  refine lv_iconst (v := 0) hx hb dX3_init_20 (by decide) ?_
  refine va_put (D := E.1) (ci := 3) (v := .int 0) (ty := .int) (C := RX3) (T := TX3) (N := 5) hx hb hts n_X3 tyX3 tyX3_ok nmX3 hown hK hP hD hS 0 rfl rfl 3 (by decide) k_21 (fun _ h9 => h9) rfl (by decide +kernel) rfl rfl (Nat.le_of_ble_eq_true rfl) dX3_init_21 (fun H locs hP hD hS => ?_)
  have hP : va_P E.1 vwCl [(ko, .inr (3, [.int 0, .int 0, .int 0, .int 0, .null]))] H := hP
  have hD : va_D A [(ko, .inr (3, [.int 0, .int 0, .int 0, .int 0, .null]))] := hD
  refine lv_aload_n hx hb dX3_init_24 rfl (lv_at hl 0 rfl) ?_
  refine va_new (ci := 2) (fs := [.int 0, .int 0, .null]) (C := RX2) (T := TX2) (N := 3) hx hb hts n_X2 tyX2 tyX2_ok hown k_24 k_nX2 k_iX2 hK hP hD hS hA rfl (fun j hj => by match j, hj with | 0, _ => rfl | 1, _ => rfl | 2, _ => rfl | j + 3, hj => exact absurd hj (by omega)) (Nat.le_of_ble_eq_true rfl) (Nat.le_of_ble_eq_true rfl) dX3_init_25 (fun q_1 H hP hD hS => ?_)
  have hP : va_P E.1 vwCl [(ko, .inr (3, [.int 0, .int 0, .int 0, .int 0, .null])), (q_1, .inr (2, [.int 0, .int 0, .null]))] H := hP
  have hD : va_D A [(ko, .inr (3, [.int 0, .int 0, .int 0, .int 0, .null])), (q_1, .inr (2, [.int 0, .int 0, .null]))] := hD
  refine lv_dup hx hb dX3_init_28 rfl ?_
  have hPc := hP.sub (ws' := [(q_1, .inr (2, [.int 0, .int 0, .null]))]) [1] rfl
  have hDc := hD.sub (ws' := [(q_1, .inr (2, [.int 0, .int 0, .null]))]) [1] (by decide) rfl
  have hFc := va_free (wc := [(q_1, .inr (2, [.int 0, .int 0, .null]))]) hD hS hA [1] rfl
  refine va_callv (va_runIN (As := []) (rest := [.ref q_1, .ref ko]) ⟨hx, hb, hml, hown, hts⟩ (c_X2_init l E q_1  H.size) ⟨va_cnB 0 hts gX3_init_X2_init_n26 rfl rfl rfl (hE.2.1 5 _ rfl) k_iX2 (by decide +kernel) ⟨Nat.le_of_ble_eq_true rfl, Nat.le_of_ble_eq_true rfl⟩, rfl, k_mX2⟩ ⟨fun a U g mk q => ⟨q.1, q.2.blind⟩, fun U hU hW => ⟨rfl, by rw [hU], by rw [hU]; exact hPc, hE.call hS hFc hW hU, hDc.weaken (fun _ _ _ _ => trivial)⟩⟩ rfl rfl hl.1 rfl (lv_room (Nat.le_of_ble_eq_true rfl)) dX3_init_29 ⟨Nat.le_of_ble_eq_true rfl, Nat.le_of_ble_eq_true rfl⟩) hS (fun q _ h => hFc q h) hFc (fun u_2 t H1 locs ht hvm h hB hz1 hk1 hS => ?_)
  obtain ⟨hP1, hD1⟩ := hB
  rw [ht] at hP1
  obtain ⟨hP, hD⟩ := rc_focusN (w1 := [(q_1, .inr (2, [.int (-1), .int 0, .ref (u_2 0)]))]) (wn := [((u_2 0), .inl (E.2.1 0, 24, .inl (fun _ => 0)))]) hP hD [1] rfl hk1 hFc hP1 hD1 rfl
  generalize H1 = H at hP hS ⊢
  have hP : va_P E.1 vwCl [(ko, .inr (3, [.int 0, .int 0, .int 0, .int 0, .null])), (q_1, .inr (2, [.int (-1), .int 0, .ref (u_2 0)])), ((u_2 0), .inl (E.2.1 0, 24, .inl (fun _ => 0)))] H := hP
  have hD : va_D A [(ko, .inr (3, [.int 0, .int 0, .int 0, .int 0, .null])), (q_1, .inr (2, [.int (-1), .int 0, .ref (u_2 0)])), ((u_2 0), .inl (E.2.1 0, 24, .inl (fun _ => 0)))] := hD
  refine va_putF (D := E.1) (ci := 3) (v := .ref q_1) (ty := .object "RidgeClaps$Row") (C := RX3) (T := TX3) (N := 5) hx hb hts n_X3 tyX3 tyX3_ok nmX3 hown hK hP hD hS 0 rfl rfl 4 (by decide) k_27 (fun _ h9 => h9) rfl hmn rfl (by decide +kernel) rfl rfl (Nat.le_of_ble_eq_true rfl) dX3_init_32 (fun H locs hP hD hS => ?_)
  have hP : va_P E.1 vwCl [(ko, .inr (3, [.int 0, .int 0, .int 0, .int 0, .ref q_1])), (q_1, .inr (2, [.int (-1), .int 0, .ref (u_2 0)])), ((u_2 0), .inl (E.2.1 0, 24, .inl (fun _ => 0)))] H := hP
  have hD : va_D A [(ko, .inr (3, [.int 0, .int 0, .int 0, .int 0, .ref q_1])), (q_1, .inr (2, [.int (-1), .int 0, .ref (u_2 0)])), ((u_2 0), .inl (E.2.1 0, 24, .inl (fun _ => 0)))] := hD
  refine W.widen (k := 2) (n := 27) (Nat.le_of_ble_eq_true rfl) (Nat.le_of_ble_eq_true rfl) ?_
  exact hret _ _ _ _ (fun j => [q_1, (u_2 0)].getD j 0) trivial hP hD hS dX3_init_35

set_option maxHeartbeats 8000000 in
set_option maxRecDepth 100000 in
theorem c_X5_init (l : Launch) (E : gE) (ko  : Nat) (sz : Nat)  : Met l yX5_init wsX5_init ({ frames := 1, cells := 3, slots := 72, locals := 20 } : Room) (va_Pc [.ref ko] (rc_B E [(ko, .inr (5, [.null, .null, .null]))] sz)) (va_Qv (S := Nat → Nat) (fun _ => True) (fun u t => rc_C E (va_A [(ko, .inr (5, [.null, .null, .null]))] sz) [(ko, .inr (5, [.ref (u 0), .ref (u 1), .ref (u 2)])), ((u 0), .inl (E.2.1 0, 24, .inl (fun _ => 0))), ((u 1), .inl (E.2.1 0, 24, .inl (fun _ => 0))), ((u 2), .inl (E.2.1 0, 24, .inl (fun _ => 0)))] t) (va_A [(ko, .inr (5, [.null, .null, .null]))] sz)) 3 72 (va_A [(ko, .inr (5, [.null, .null, .null]))] sz) := by
  refine rc_enterV (cc := cX5_init) (maxL := 1) (by decide) rfl (Nat.le_of_ble_eq_true rfl) ?_
  intro p e s m args below meth c QQ A hx hb hml hown hts hmn hE hP hD hA hret ls hl
  have hown : s.vm.findClass RX5 = some m.cls := hown
  have hmn : meth.name = "<init>" := hmn
  have hK := hE.1
  have hl : lv_has ls 1 [(0, .ref ko)] := hl
  have n_X5 : ∀ w ∈ wsX50, w ∈ wsX5_init := fun _ h => List.mem_cons_of_mem _ (List.mem_append_right _ h)
  have k_3 := hts (.methodLink RX5 3 objectInit) (List.mem_of_getElem? (i := 1) rfl)
  have k_oi := hts (.instanceMethod objectInit) (List.mem_of_getElem? (i := 2) rfl)
  have k_oc := hts (.code objectInit ⟨#[0xb1]⟩ 1 none) (List.mem_of_getElem? (i := 3) rfl)
  have k_arrI := hts (.arrayClass .int) (List.mem_of_getElem? (i := 4) rfl)
  have k_9 := hts (.fieldLink RX5 9 "RidgeClaps$Ways" "risks" "[I") (List.mem_of_getElem? (i := 5) rfl)
  have k_15 := hts (.fieldLink RX5 15 "RidgeClaps$Ways" "least" "[I") (List.mem_of_getElem? (i := 6) rfl)
  have k_18 := hts (.fieldLink RX5 18 "RidgeClaps$Ways" "later" "[I") (List.mem_of_getElem? (i := 7) rfl)
  have hS : va_S A s.heap s.heap [] := va_S.rf
  obtain ⟨H, hH⟩ : ∃ H, H = s.heap := ⟨_, rfl⟩
  obtain ⟨locs, hlocs⟩ : ∃ locs : List Loc, locs = [] := ⟨_, rfl⟩
  have hP : va_P E.1 vwCl [(ko, .inr (5, [.null, .null, .null]))] H := by rw [hH]; exact hP
  have hS : va_S A s.heap H locs := by rw [hH, hlocs]; exact hS
  suffices hgo : W p l e ({ frames := 1, cells := 3, slots := 72, locals := 20 } : Room) s m args below meth c H locs 0 0 QQ (F0 m 0 ls []) from by rw [hH, hlocs] at hgo; exact hgo
  refine lv_aload_n hx hb dX5_init_0 rfl (lv_at hl 0 rfl) ?_
  refine W.objInit hx hb hown k_3 k_oi k_oc rfl (by rw [hml]; exact hl.1) rfl dX5_init_1 (Nat.le_of_ble_eq_true rfl) (Nat.le_of_ble_eq_true rfl) ?_
  refine W.eq (g2 := F0 m 4 ls []) rfl ?_
  refine lv_aload_n hx hb dX5_init_4 rfl (lv_at hl 0 rfl) ?_
  refine lv_bipush (v := 24) hx hb dX5_init_5 (by decide) ?_
  refine rc_newI (E := E) hx hb k_arrI hK hP hD hS hA 24 (by decide) (by decide) (by decide) (Nat.le_of_ble_eq_true rfl) (Nat.le_of_ble_eq_true rfl) dX5_init_7 (fun q_1 H hP hD hS => ?_)
  have hP : va_P E.1 vwCl [(ko, .inr (5, [.null, .null, .null])), (q_1, .inl (E.2.1 0, 24, .inl (fun _ => 0)))] H := hP
  have hD : va_D A [(ko, .inr (5, [.null, .null, .null])), (q_1, .inl (E.2.1 0, 24, .inl (fun _ => 0)))] := hD
  refine va_putF (D := E.1) (ci := 5) (v := .ref q_1) (ty := .array .int) (C := RX5) (T := TX5) (N := 3) hx hb hts n_X5 tyX5 tyX5_ok nmX5 hown hK hP hD hS 0 rfl rfl 0 (by decide) k_9 (fun _ h9 => h9) rfl hmn rfl (by decide +kernel) rfl rfl (Nat.le_of_ble_eq_true rfl) dX5_init_9 (fun H locs hP hD hS => ?_)
  have hP : va_P E.1 vwCl [(ko, .inr (5, [.ref q_1, .null, .null])), (q_1, .inl (E.2.1 0, 24, .inl (fun _ => 0)))] H := hP
  have hD : va_D A [(ko, .inr (5, [.ref q_1, .null, .null])), (q_1, .inl (E.2.1 0, 24, .inl (fun _ => 0)))] := hD
  refine lv_aload_n hx hb dX5_init_12 rfl (lv_at hl 0 rfl) ?_
  refine lv_bipush (v := 24) hx hb dX5_init_13 (by decide) ?_
  refine rc_newI (E := E) hx hb k_arrI hK hP hD hS hA 24 (by decide) (by decide) (by decide) (Nat.le_of_ble_eq_true rfl) (Nat.le_of_ble_eq_true rfl) dX5_init_15 (fun q_2 H hP hD hS => ?_)
  have hP : va_P E.1 vwCl [(ko, .inr (5, [.ref q_1, .null, .null])), (q_1, .inl (E.2.1 0, 24, .inl (fun _ => 0))), (q_2, .inl (E.2.1 0, 24, .inl (fun _ => 0)))] H := hP
  have hD : va_D A [(ko, .inr (5, [.ref q_1, .null, .null])), (q_1, .inl (E.2.1 0, 24, .inl (fun _ => 0))), (q_2, .inl (E.2.1 0, 24, .inl (fun _ => 0)))] := hD
  refine va_putF (D := E.1) (ci := 5) (v := .ref q_2) (ty := .array .int) (C := RX5) (T := TX5) (N := 3) hx hb hts n_X5 tyX5 tyX5_ok nmX5 hown hK hP hD hS 0 rfl rfl 1 (by decide) k_15 (fun _ h9 => h9) rfl hmn rfl (by decide +kernel) rfl rfl (Nat.le_of_ble_eq_true rfl) dX5_init_17 (fun H locs hP hD hS => ?_)
  have hP : va_P E.1 vwCl [(ko, .inr (5, [.ref q_1, .ref q_2, .null])), (q_1, .inl (E.2.1 0, 24, .inl (fun _ => 0))), (q_2, .inl (E.2.1 0, 24, .inl (fun _ => 0)))] H := hP
  have hD : va_D A [(ko, .inr (5, [.ref q_1, .ref q_2, .null])), (q_1, .inl (E.2.1 0, 24, .inl (fun _ => 0))), (q_2, .inl (E.2.1 0, 24, .inl (fun _ => 0)))] := hD
  refine lv_aload_n hx hb dX5_init_20 rfl (lv_at hl 0 rfl) ?_
  refine lv_bipush (v := 24) hx hb dX5_init_21 (by decide) ?_
  refine rc_newI (E := E) hx hb k_arrI hK hP hD hS hA 24 (by decide) (by decide) (by decide) (Nat.le_of_ble_eq_true rfl) (Nat.le_of_ble_eq_true rfl) dX5_init_23 (fun q_3 H hP hD hS => ?_)
  have hP : va_P E.1 vwCl [(ko, .inr (5, [.ref q_1, .ref q_2, .null])), (q_1, .inl (E.2.1 0, 24, .inl (fun _ => 0))), (q_2, .inl (E.2.1 0, 24, .inl (fun _ => 0))), (q_3, .inl (E.2.1 0, 24, .inl (fun _ => 0)))] H := hP
  have hD : va_D A [(ko, .inr (5, [.ref q_1, .ref q_2, .null])), (q_1, .inl (E.2.1 0, 24, .inl (fun _ => 0))), (q_2, .inl (E.2.1 0, 24, .inl (fun _ => 0))), (q_3, .inl (E.2.1 0, 24, .inl (fun _ => 0)))] := hD
  refine va_putF (D := E.1) (ci := 5) (v := .ref q_3) (ty := .array .int) (C := RX5) (T := TX5) (N := 3) hx hb hts n_X5 tyX5 tyX5_ok nmX5 hown hK hP hD hS 0 rfl rfl 2 (by decide) k_18 (fun _ h9 => h9) rfl hmn rfl (by decide +kernel) rfl rfl (Nat.le_of_ble_eq_true rfl) dX5_init_25 (fun H locs hP hD hS => ?_)
  have hP : va_P E.1 vwCl [(ko, .inr (5, [.ref q_1, .ref q_2, .ref q_3])), (q_1, .inl (E.2.1 0, 24, .inl (fun _ => 0))), (q_2, .inl (E.2.1 0, 24, .inl (fun _ => 0))), (q_3, .inl (E.2.1 0, 24, .inl (fun _ => 0)))] H := hP
  have hD : va_D A [(ko, .inr (5, [.ref q_1, .ref q_2, .ref q_3])), (q_1, .inl (E.2.1 0, 24, .inl (fun _ => 0))), (q_2, .inl (E.2.1 0, 24, .inl (fun _ => 0))), (q_3, .inl (E.2.1 0, 24, .inl (fun _ => 0)))] := hD
  refine W.widen (k := 3) (n := 72) (Nat.le_of_ble_eq_true rfl) (Nat.le_of_ble_eq_true rfl) ?_
  exact hret _ _ _ _ (fun j => [q_1, q_2, q_3].getD j 0) trivial hP hD hS dX5_init_28

set_option maxHeartbeats 8000000 in
set_option maxRecDepth 100000 in
theorem c_X0_init (l : Launch) (E : gE) (ko  : Nat) (sz : Nat)  : Met l yX0_init wsX0_init ({ frames := 1, cells := 2, slots := 192, locals := 20 } : Room) (va_Pc [.ref ko] (rc_B E [(ko, .inr (0, [.null, .int 0, .int 0, .null, .int 0, .int 0, .int 0, .int 0, .int 0, .int 0, .int 0, .int 0]))] sz)) (va_Qv (S := Nat → Nat) (fun _ => True) (fun u t => rc_C E (va_A [(ko, .inr (0, [.null, .int 0, .int 0, .null, .int 0, .int 0, .int 0, .int 0, .int 0, .int 0, .int 0, .int 0]))] sz) [(ko, .inr (0, [.ref (u 0), .int 0, .int (-1000000005), .ref (u 1), .int 0, .int 0, .int 0, .int 0, .int 0, .int 0, .int 0, .int 3])), ((u 0), .inl (E.2.1 0, 96, .inl (fun _ => 0))), ((u 1), .inl (E.2.1 0, 96, .inl (fun _ => 0)))] t) (va_A [(ko, .inr (0, [.null, .int 0, .int 0, .null, .int 0, .int 0, .int 0, .int 0, .int 0, .int 0, .int 0, .int 0]))] sz)) 2 192 (va_A [(ko, .inr (0, [.null, .int 0, .int 0, .null, .int 0, .int 0, .int 0, .int 0, .int 0, .int 0, .int 0, .int 0]))] sz) := by
  refine rc_enterV (cc := cX0_init) (maxL := 1) (by decide) rfl (Nat.le_of_ble_eq_true rfl) ?_
  intro p e s m args below meth c QQ A hx hb hml hown hts hmn hE hP hD hA hret ls hl
  have hown : s.vm.findClass RX0 = some m.cls := hown
  have hmn : meth.name = "<init>" := hmn
  have hK := hE.1
  have hl : lv_has ls 1 [(0, .ref ko)] := hl
  have n_X0 : ∀ w ∈ wsX00, w ∈ wsX0_init := fun _ h => List.mem_cons_of_mem _ (List.mem_append_right _ h)
  have k_3 := hts (.methodLink RX0 3 objectInit) (List.mem_of_getElem? (i := 1) rfl)
  have k_oi := hts (.instanceMethod objectInit) (List.mem_of_getElem? (i := 2) rfl)
  have k_oc := hts (.code objectInit ⟨#[0xb1]⟩ 1 none) (List.mem_of_getElem? (i := 3) rfl)
  have k_arrI := hts (.arrayClass .int) (List.mem_of_getElem? (i := 4) rfl)
  have k_9 := hts (.fieldLink RX0 9 "RidgeClaps$Reader" "bytes" "[I") (List.mem_of_getElem? (i := 5) rfl)
  have k_15 := hts (.fieldLink RX0 15 "RidgeClaps$Reader" "length" "I") (List.mem_of_getElem? (i := 6) rfl)
  have k_19 := hts (.constant RX0 19 (-1000000005)) (List.mem_of_getElem? (i := 7) rfl)
  have k_20 := hts (.fieldLink RX0 20 "RidgeClaps$Reader" "fault" "I") (List.mem_of_getElem? (i := 8) rfl)
  have k_23 := hts (.fieldLink RX0 23 "RidgeClaps$Reader" "codes" "[I") (List.mem_of_getElem? (i := 9) rfl)
  have k_26 := hts (.fieldLink RX0 26 "RidgeClaps$Reader" "codeCount" "I") (List.mem_of_getElem? (i := 10) rfl)
  have k_29 := hts (.fieldLink RX0 29 "RidgeClaps$Reader" "key" "I") (List.mem_of_getElem? (i := 11) rfl)
  have k_32 := hts (.fieldLink RX0 32 "RidgeClaps$Reader" "leaves" "I") (List.mem_of_getElem? (i := 12) rfl)
  have k_35 := hts (.fieldLink RX0 35 "RidgeClaps$Reader" "openBrackets" "I") (List.mem_of_getElem? (i := 13) rfl)
  have k_38 := hts (.fieldLink RX0 38 "RidgeClaps$Reader" "openNots" "I") (List.mem_of_getElem? (i := 14) rfl)
  have k_41 := hts (.fieldLink RX0 41 "RidgeClaps$Reader" "start" "I") (List.mem_of_getElem? (i := 15) rfl)
  have k_44 := hts (.fieldLink RX0 44 "RidgeClaps$Reader" "end" "I") (List.mem_of_getElem? (i := 16) rfl)
  have k_47 := hts (.fieldLink RX0 47 "RidgeClaps$Reader" "sort" "I") (List.mem_of_getElem? (i := 17) rfl)
  have hS : va_S A s.heap s.heap [] := va_S.rf
  obtain ⟨H, hH⟩ : ∃ H, H = s.heap := ⟨_, rfl⟩
  obtain ⟨locs, hlocs⟩ : ∃ locs : List Loc, locs = [] := ⟨_, rfl⟩
  have hP : va_P E.1 vwCl [(ko, .inr (0, [.null, .int 0, .int 0, .null, .int 0, .int 0, .int 0, .int 0, .int 0, .int 0, .int 0, .int 0]))] H := by rw [hH]; exact hP
  have hS : va_S A s.heap H locs := by rw [hH, hlocs]; exact hS
  suffices hgo : W p l e ({ frames := 1, cells := 2, slots := 192, locals := 20 } : Room) s m args below meth c H locs 0 0 QQ (F0 m 0 ls []) from by rw [hH, hlocs] at hgo; exact hgo
  refine lv_aload_n hx hb dX0_init_0 rfl (lv_at hl 0 rfl) ?_
  refine W.objInit hx hb hown k_3 k_oi k_oc rfl (by rw [hml]; exact hl.1) rfl dX0_init_1 (Nat.le_of_ble_eq_true rfl) (Nat.le_of_ble_eq_true rfl) ?_
  refine W.eq (g2 := F0 m 4 ls []) rfl ?_
  refine lv_aload_n hx hb dX0_init_4 rfl (lv_at hl 0 rfl) ?_
  refine lv_bipush (v := 96) hx hb dX0_init_5 (by decide) ?_
  refine rc_newI (E := E) hx hb k_arrI hK hP hD hS hA 96 (by decide) (by decide) (by decide) (Nat.le_of_ble_eq_true rfl) (Nat.le_of_ble_eq_true rfl) dX0_init_7 (fun q_1 H hP hD hS => ?_)
  have hP : va_P E.1 vwCl [(ko, .inr (0, [.null, .int 0, .int 0, .null, .int 0, .int 0, .int 0, .int 0, .int 0, .int 0, .int 0, .int 0])), (q_1, .inl (E.2.1 0, 96, .inl (fun _ => 0)))] H := hP
  have hD : va_D A [(ko, .inr (0, [.null, .int 0, .int 0, .null, .int 0, .int 0, .int 0, .int 0, .int 0, .int 0, .int 0, .int 0])), (q_1, .inl (E.2.1 0, 96, .inl (fun _ => 0)))] := hD
  refine va_putF (D := E.1) (ci := 0) (v := .ref q_1) (ty := .array .int) (C := RX0) (T := TX0) (N := 12) hx hb hts n_X0 tyX0 tyX0_ok nmX0 hown hK hP hD hS 0 rfl rfl 0 (by decide) k_9 (fun _ h9 => h9) rfl hmn rfl (by decide +kernel) rfl rfl (Nat.le_of_ble_eq_true rfl) dX0_init_9 (fun H locs hP hD hS => ?_)
  have hP : va_P E.1 vwCl [(ko, .inr (0, [.ref q_1, .int 0, .int 0, .null, .int 0, .int 0, .int 0, .int 0, .int 0, .int 0, .int 0, .int 0])), (q_1, .inl (E.2.1 0, 96, .inl (fun _ => 0)))] H := hP
  have hD : va_D A [(ko, .inr (0, [.ref q_1, .int 0, .int 0, .null, .int 0, .int 0, .int 0, .int 0, .int 0, .int 0, .int 0, .int 0])), (q_1, .inl (E.2.1 0, 96, .inl (fun _ => 0)))] := hD
  refine lv_aload_n hx hb dX0_init_12 rfl (lv_at hl 0 rfl) ?_
  refine lv_iconst (v := 0) hx hb dX0_init_13 (by decide) ?_
  refine va_put (D := E.1) (ci := 0) (v := .int 0) (ty := .int) (C := RX0) (T := TX0) (N := 12) hx hb hts n_X0 tyX0 tyX0_ok nmX0 hown hK hP hD hS 0 rfl rfl 1 (by decide) k_15 (fun _ h9 => h9) rfl (by decide +kernel) rfl rfl (Nat.le_of_ble_eq_true rfl) dX0_init_14 (fun H locs hP hD hS => ?_)
  have hP : va_P E.1 vwCl [(ko, .inr (0, [.ref q_1, .int 0, .int 0, .null, .int 0, .int 0, .int 0, .int 0, .int 0, .int 0, .int 0, .int 0])), (q_1, .inl (E.2.1 0, 96, .inl (fun _ => 0)))] H := hP
  have hD : va_D A [(ko, .inr (0, [.ref q_1, .int 0, .int 0, .null, .int 0, .int 0, .int 0, .int 0, .int 0, .int 0, .int 0, .int 0])), (q_1, .inl (E.2.1 0, 96, .inl (fun _ => 0)))] := hD
  refine lv_aload_n hx hb dX0_init_17 rfl (lv_at hl 0 rfl) ?_
  refine lv_ldc hx hb hown k_19 dX0_init_18 ?_
  refine va_put (D := E.1) (ci := 0) (v := .int (-1000000005)) (ty := .int) (C := RX0) (T := TX0) (N := 12) hx hb hts n_X0 tyX0 tyX0_ok nmX0 hown hK hP hD hS 0 rfl rfl 2 (by decide) k_20 (fun _ h9 => h9) rfl (by decide +kernel) rfl rfl (Nat.le_of_ble_eq_true rfl) dX0_init_20 (fun H locs hP hD hS => ?_)
  have hP : va_P E.1 vwCl [(ko, .inr (0, [.ref q_1, .int 0, .int (-1000000005), .null, .int 0, .int 0, .int 0, .int 0, .int 0, .int 0, .int 0, .int 0])), (q_1, .inl (E.2.1 0, 96, .inl (fun _ => 0)))] H := hP
  have hD : va_D A [(ko, .inr (0, [.ref q_1, .int 0, .int (-1000000005), .null, .int 0, .int 0, .int 0, .int 0, .int 0, .int 0, .int 0, .int 0])), (q_1, .inl (E.2.1 0, 96, .inl (fun _ => 0)))] := hD
  refine lv_aload_n hx hb dX0_init_23 rfl (lv_at hl 0 rfl) ?_
  refine lv_bipush (v := 96) hx hb dX0_init_24 (by decide) ?_
  refine rc_newI (E := E) hx hb k_arrI hK hP hD hS hA 96 (by decide) (by decide) (by decide) (Nat.le_of_ble_eq_true rfl) (Nat.le_of_ble_eq_true rfl) dX0_init_26 (fun q_2 H hP hD hS => ?_)
  have hP : va_P E.1 vwCl [(ko, .inr (0, [.ref q_1, .int 0, .int (-1000000005), .null, .int 0, .int 0, .int 0, .int 0, .int 0, .int 0, .int 0, .int 0])), (q_1, .inl (E.2.1 0, 96, .inl (fun _ => 0))), (q_2, .inl (E.2.1 0, 96, .inl (fun _ => 0)))] H := hP
  have hD : va_D A [(ko, .inr (0, [.ref q_1, .int 0, .int (-1000000005), .null, .int 0, .int 0, .int 0, .int 0, .int 0, .int 0, .int 0, .int 0])), (q_1, .inl (E.2.1 0, 96, .inl (fun _ => 0))), (q_2, .inl (E.2.1 0, 96, .inl (fun _ => 0)))] := hD
  refine va_putF (D := E.1) (ci := 0) (v := .ref q_2) (ty := .array .int) (C := RX0) (T := TX0) (N := 12) hx hb hts n_X0 tyX0 tyX0_ok nmX0 hown hK hP hD hS 0 rfl rfl 3 (by decide) k_23 (fun _ h9 => h9) rfl hmn rfl (by decide +kernel) rfl rfl (Nat.le_of_ble_eq_true rfl) dX0_init_28 (fun H locs hP hD hS => ?_)
  have hP : va_P E.1 vwCl [(ko, .inr (0, [.ref q_1, .int 0, .int (-1000000005), .ref q_2, .int 0, .int 0, .int 0, .int 0, .int 0, .int 0, .int 0, .int 0])), (q_1, .inl (E.2.1 0, 96, .inl (fun _ => 0))), (q_2, .inl (E.2.1 0, 96, .inl (fun _ => 0)))] H := hP
  have hD : va_D A [(ko, .inr (0, [.ref q_1, .int 0, .int (-1000000005), .ref q_2, .int 0, .int 0, .int 0, .int 0, .int 0, .int 0, .int 0, .int 0])), (q_1, .inl (E.2.1 0, 96, .inl (fun _ => 0))), (q_2, .inl (E.2.1 0, 96, .inl (fun _ => 0)))] := hD
  refine lv_aload_n hx hb dX0_init_31 rfl (lv_at hl 0 rfl) ?_
  refine lv_iconst (v := 0) hx hb dX0_init_32 (by decide) ?_
  refine va_put (D := E.1) (ci := 0) (v := .int 0) (ty := .int) (C := RX0) (T := TX0) (N := 12) hx hb hts n_X0 tyX0 tyX0_ok nmX0 hown hK hP hD hS 0 rfl rfl 4 (by decide) k_26 (fun _ h9 => h9) rfl (by decide +kernel) rfl rfl (Nat.le_of_ble_eq_true rfl) dX0_init_33 (fun H locs hP hD hS => ?_)
  have hP : va_P E.1 vwCl [(ko, .inr (0, [.ref q_1, .int 0, .int (-1000000005), .ref q_2, .int 0, .int 0, .int 0, .int 0, .int 0, .int 0, .int 0, .int 0])), (q_1, .inl (E.2.1 0, 96, .inl (fun _ => 0))), (q_2, .inl (E.2.1 0, 96, .inl (fun _ => 0)))] H := hP
  have hD : va_D A [(ko, .inr (0, [.ref q_1, .int 0, .int (-1000000005), .ref q_2, .int 0, .int 0, .int 0, .int 0, .int 0, .int 0, .int 0, .int 0])), (q_1, .inl (E.2.1 0, 96, .inl (fun _ => 0))), (q_2, .inl (E.2.1 0, 96, .inl (fun _ => 0)))] := hD
  refine lv_aload_n hx hb dX0_init_36 rfl (lv_at hl 0 rfl) ?_
  refine lv_iconst (v := 0) hx hb dX0_init_37 (by decide) ?_
  refine va_put (D := E.1) (ci := 0) (v := .int 0) (ty := .int) (C := RX0) (T := TX0) (N := 12) hx hb hts n_X0 tyX0 tyX0_ok nmX0 hown hK hP hD hS 0 rfl rfl 5 (by decide) k_29 (fun _ h9 => h9) rfl (by decide +kernel) rfl rfl (Nat.le_of_ble_eq_true rfl) dX0_init_38 (fun H locs hP hD hS => ?_)
  have hP : va_P E.1 vwCl [(ko, .inr (0, [.ref q_1, .int 0, .int (-1000000005), .ref q_2, .int 0, .int 0, .int 0, .int 0, .int 0, .int 0, .int 0, .int 0])), (q_1, .inl (E.2.1 0, 96, .inl (fun _ => 0))), (q_2, .inl (E.2.1 0, 96, .inl (fun _ => 0)))] H := hP
  have hD : va_D A [(ko, .inr (0, [.ref q_1, .int 0, .int (-1000000005), .ref q_2, .int 0, .int 0, .int 0, .int 0, .int 0, .int 0, .int 0, .int 0])), (q_1, .inl (E.2.1 0, 96, .inl (fun _ => 0))), (q_2, .inl (E.2.1 0, 96, .inl (fun _ => 0)))] := hD
  refine lv_aload_n hx hb dX0_init_41 rfl (lv_at hl 0 rfl) ?_
  refine lv_iconst (v := 0) hx hb dX0_init_42 (by decide) ?_
  refine va_put (D := E.1) (ci := 0) (v := .int 0) (ty := .int) (C := RX0) (T := TX0) (N := 12) hx hb hts n_X0 tyX0 tyX0_ok nmX0 hown hK hP hD hS 0 rfl rfl 6 (by decide) k_32 (fun _ h9 => h9) rfl (by decide +kernel) rfl rfl (Nat.le_of_ble_eq_true rfl) dX0_init_43 (fun H locs hP hD hS => ?_)
  have hP : va_P E.1 vwCl [(ko, .inr (0, [.ref q_1, .int 0, .int (-1000000005), .ref q_2, .int 0, .int 0, .int 0, .int 0, .int 0, .int 0, .int 0, .int 0])), (q_1, .inl (E.2.1 0, 96, .inl (fun _ => 0))), (q_2, .inl (E.2.1 0, 96, .inl (fun _ => 0)))] H := hP
  have hD : va_D A [(ko, .inr (0, [.ref q_1, .int 0, .int (-1000000005), .ref q_2, .int 0, .int 0, .int 0, .int 0, .int 0, .int 0, .int 0, .int 0])), (q_1, .inl (E.2.1 0, 96, .inl (fun _ => 0))), (q_2, .inl (E.2.1 0, 96, .inl (fun _ => 0)))] := hD
  refine lv_aload_n hx hb dX0_init_46 rfl (lv_at hl 0 rfl) ?_
  refine lv_iconst (v := 0) hx hb dX0_init_47 (by decide) ?_
  refine va_put (D := E.1) (ci := 0) (v := .int 0) (ty := .int) (C := RX0) (T := TX0) (N := 12) hx hb hts n_X0 tyX0 tyX0_ok nmX0 hown hK hP hD hS 0 rfl rfl 7 (by decide) k_35 (fun _ h9 => h9) rfl (by decide +kernel) rfl rfl (Nat.le_of_ble_eq_true rfl) dX0_init_48 (fun H locs hP hD hS => ?_)
  have hP : va_P E.1 vwCl [(ko, .inr (0, [.ref q_1, .int 0, .int (-1000000005), .ref q_2, .int 0, .int 0, .int 0, .int 0, .int 0, .int 0, .int 0, .int 0])), (q_1, .inl (E.2.1 0, 96, .inl (fun _ => 0))), (q_2, .inl (E.2.1 0, 96, .inl (fun _ => 0)))] H := hP
  have hD : va_D A [(ko, .inr (0, [.ref q_1, .int 0, .int (-1000000005), .ref q_2, .int 0, .int 0, .int 0, .int 0, .int 0, .int 0, .int 0, .int 0])), (q_1, .inl (E.2.1 0, 96, .inl (fun _ => 0))), (q_2, .inl (E.2.1 0, 96, .inl (fun _ => 0)))] := hD
  refine lv_aload_n hx hb dX0_init_51 rfl (lv_at hl 0 rfl) ?_
  refine lv_iconst (v := 0) hx hb dX0_init_52 (by decide) ?_
  refine va_put (D := E.1) (ci := 0) (v := .int 0) (ty := .int) (C := RX0) (T := TX0) (N := 12) hx hb hts n_X0 tyX0 tyX0_ok nmX0 hown hK hP hD hS 0 rfl rfl 8 (by decide) k_38 (fun _ h9 => h9) rfl (by decide +kernel) rfl rfl (Nat.le_of_ble_eq_true rfl) dX0_init_53 (fun H locs hP hD hS => ?_)
  have hP : va_P E.1 vwCl [(ko, .inr (0, [.ref q_1, .int 0, .int (-1000000005), .ref q_2, .int 0, .int 0, .int 0, .int 0, .int 0, .int 0, .int 0, .int 0])), (q_1, .inl (E.2.1 0, 96, .inl (fun _ => 0))), (q_2, .inl (E.2.1 0, 96, .inl (fun _ => 0)))] H := hP
  have hD : va_D A [(ko, .inr (0, [.ref q_1, .int 0, .int (-1000000005), .ref q_2, .int 0, .int 0, .int 0, .int 0, .int 0, .int 0, .int 0, .int 0])), (q_1, .inl (E.2.1 0, 96, .inl (fun _ => 0))), (q_2, .inl (E.2.1 0, 96, .inl (fun _ => 0)))] := hD
  refine lv_aload_n hx hb dX0_init_56 rfl (lv_at hl 0 rfl) ?_
  refine lv_iconst (v := 0) hx hb dX0_init_57 (by decide) ?_
  refine va_put (D := E.1) (ci := 0) (v := .int 0) (ty := .int) (C := RX0) (T := TX0) (N := 12) hx hb hts n_X0 tyX0 tyX0_ok nmX0 hown hK hP hD hS 0 rfl rfl 9 (by decide) k_41 (fun _ h9 => h9) rfl (by decide +kernel) rfl rfl (Nat.le_of_ble_eq_true rfl) dX0_init_58 (fun H locs hP hD hS => ?_)
  have hP : va_P E.1 vwCl [(ko, .inr (0, [.ref q_1, .int 0, .int (-1000000005), .ref q_2, .int 0, .int 0, .int 0, .int 0, .int 0, .int 0, .int 0, .int 0])), (q_1, .inl (E.2.1 0, 96, .inl (fun _ => 0))), (q_2, .inl (E.2.1 0, 96, .inl (fun _ => 0)))] H := hP
  have hD : va_D A [(ko, .inr (0, [.ref q_1, .int 0, .int (-1000000005), .ref q_2, .int 0, .int 0, .int 0, .int 0, .int 0, .int 0, .int 0, .int 0])), (q_1, .inl (E.2.1 0, 96, .inl (fun _ => 0))), (q_2, .inl (E.2.1 0, 96, .inl (fun _ => 0)))] := hD
  refine lv_aload_n hx hb dX0_init_61 rfl (lv_at hl 0 rfl) ?_
  refine lv_iconst (v := 0) hx hb dX0_init_62 (by decide) ?_
  refine va_put (D := E.1) (ci := 0) (v := .int 0) (ty := .int) (C := RX0) (T := TX0) (N := 12) hx hb hts n_X0 tyX0 tyX0_ok nmX0 hown hK hP hD hS 0 rfl rfl 10 (by decide) k_44 (fun _ h9 => h9) rfl (by decide +kernel) rfl rfl (Nat.le_of_ble_eq_true rfl) dX0_init_63 (fun H locs hP hD hS => ?_)
  have hP : va_P E.1 vwCl [(ko, .inr (0, [.ref q_1, .int 0, .int (-1000000005), .ref q_2, .int 0, .int 0, .int 0, .int 0, .int 0, .int 0, .int 0, .int 0])), (q_1, .inl (E.2.1 0, 96, .inl (fun _ => 0))), (q_2, .inl (E.2.1 0, 96, .inl (fun _ => 0)))] H := hP
  have hD : va_D A [(ko, .inr (0, [.ref q_1, .int 0, .int (-1000000005), .ref q_2, .int 0, .int 0, .int 0, .int 0, .int 0, .int 0, .int 0, .int 0])), (q_1, .inl (E.2.1 0, 96, .inl (fun _ => 0))), (q_2, .inl (E.2.1 0, 96, .inl (fun _ => 0)))] := hD
  refine lv_aload_n hx hb dX0_init_66 rfl (lv_at hl 0 rfl) ?_
  refine lv_iconst (v := 3) hx hb dX0_init_67 (by decide) ?_
  refine va_put (D := E.1) (ci := 0) (v := .int 3) (ty := .int) (C := RX0) (T := TX0) (N := 12) hx hb hts n_X0 tyX0 tyX0_ok nmX0 hown hK hP hD hS 0 rfl rfl 11 (by decide) k_47 (fun _ h9 => h9) rfl (by decide +kernel) rfl rfl (Nat.le_of_ble_eq_true rfl) dX0_init_68 (fun H locs hP hD hS => ?_)
  have hP : va_P E.1 vwCl [(ko, .inr (0, [.ref q_1, .int 0, .int (-1000000005), .ref q_2, .int 0, .int 0, .int 0, .int 0, .int 0, .int 0, .int 0, .int 3])), (q_1, .inl (E.2.1 0, 96, .inl (fun _ => 0))), (q_2, .inl (E.2.1 0, 96, .inl (fun _ => 0)))] H := hP
  have hD : va_D A [(ko, .inr (0, [.ref q_1, .int 0, .int (-1000000005), .ref q_2, .int 0, .int 0, .int 0, .int 0, .int 0, .int 0, .int 0, .int 3])), (q_1, .inl (E.2.1 0, 96, .inl (fun _ => 0))), (q_2, .inl (E.2.1 0, 96, .inl (fun _ => 0)))] := hD
  refine W.widen (k := 2) (n := 192) (Nat.le_of_ble_eq_true rfl) (Nat.le_of_ble_eq_true rfl) ?_
  exact hret _ _ _ _ (fun j => [q_1, q_2].getD j 0) trivial hP hD hS dX0_init_71

set_option maxHeartbeats 8000000 in
set_option maxRecDepth 100000 in
theorem c_X1_init (l : Launch) (E : gE) (ko  : Nat) (sz : Nat)  : Met l yX1_init wsX1_init ({ frames := 1, cells := 6, slots := 185, locals := 20 } : Room) (va_Pc [.ref ko] (rc_B E [(ko, .inr (1, [.null, .null, .null, .int 0, .null, .int 0, .null, .int 0, .int 0, .int 0, .int 0, .int 0, .int 0, .int 0, .null]))] sz)) (va_Qv (S := Nat → Nat) (fun _ => True) (fun u t => rc_C E (va_A [(ko, .inr (1, [.null, .null, .null, .int 0, .null, .int 0, .null, .int 0, .int 0, .int 0, .int 0, .int 0, .int 0, .int 0, .null]))] sz) [(ko, .inr (1, [.ref (u 0), .ref (u 1), .ref (u 2), .int 0, .ref (u 3), .int 0, .ref (u 4), .int 60, .int 2, .int (-1000000005), .int 0, .int 0, .int 0, .int 1, .ref (u 5)])), ((u 0), .inl (E.2.1 0, 24, .inl (fun _ => 0))), ((u 1), .inl (E.2.1 0, 24, .inl (fun _ => 0))), ((u 2), .inl (E.2.1 0, 24, .inl (fun _ => 0))), ((u 3), .inl (E.2.1 5, 14, .inr (.inr (.inr (.inr (fun _ => none)))))), ((u 4), .inl (E.2.1 0, 3, .inl (upd (upd (upd (fun _ => 0) 0 (-1000000005)) 1 (-1000000005)) 2 (-1000000005)))), ((u 5), .inl (E.2.1 0, 96, .inl (fun _ => 0)))] t) (va_A [(ko, .inr (1, [.null, .null, .null, .int 0, .null, .int 0, .null, .int 0, .int 0, .int 0, .int 0, .int 0, .int 0, .int 0, .null]))] sz)) 6 185 (va_A [(ko, .inr (1, [.null, .null, .null, .int 0, .null, .int 0, .null, .int 0, .int 0, .int 0, .int 0, .int 0, .int 0, .int 0, .null]))] sz) := by
  refine rc_enterV (cc := cX1_init) (maxL := 1) (by decide) rfl (Nat.le_of_ble_eq_true rfl) ?_
  intro p e s m args below meth c QQ A hx hb hml hown hts hmn hE hP hD hA hret ls hl
  have hown : s.vm.findClass RX1 = some m.cls := hown
  have hmn : meth.name = "<init>" := hmn
  have hK := hE.1
  have hl : lv_has ls 1 [(0, .ref ko)] := hl
  have n_X1 : ∀ w ∈ wsX10, w ∈ wsX1_init := fun _ h => List.mem_cons_of_mem _ (List.mem_append_right _ h)
  have k_3 := hts (.methodLink RX1 3 objectInit) (List.mem_of_getElem? (i := 1) rfl)
  have k_oi := hts (.instanceMethod objectInit) (List.mem_of_getElem? (i := 2) rfl)
  have k_oc := hts (.code objectInit ⟨#[0xb1]⟩ 1 none) (List.mem_of_getElem? (i := 3) rfl)
  have k_arrI := hts (.arrayClass .int) (List.mem_of_getElem? (i := 4) rfl)
  have k_9 := hts (.fieldLink RX1 9 "RidgeClaps$Ridge" "kinds" "[I") (List.mem_of_getElem? (i := 5) rfl)
  have k_15 := hts (.fieldLink RX1 15 "RidgeClaps$Ridge" "heights" "[I") (List.mem_of_getElem? (i := 6) rfl)
  have k_18 := hts (.fieldLink RX1 18 "RidgeClaps$Ridge" "downs" "[I") (List.mem_of_getElem? (i := 7) rfl)
  have k_21 := hts (.fieldLink RX1 21 "RidgeClaps$Ridge" "size" "I") (List.mem_of_getElem? (i := 8) rfl)
  have k_25 := hts (.classLink RX1 25 RX4) (List.mem_of_getElem? (i := 9) rfl)
  have k_27 := hts (.fieldLink RX1 27 "RidgeClaps$Ridge" "texts" "[LRidgeClaps$Text;") (List.mem_of_getElem? (i := 10) rfl)
  have k_31 := hts (.fieldLink RX1 31 "RidgeClaps$Ridge" "textCount" "I") (List.mem_of_getElem? (i := 11) rfl)
  have k_34 := hts (.constant RX1 34 (-1000000005)) (List.mem_of_getElem? (i := 12) rfl)
  have k_35 := hts (.fieldLink RX1 35 "RidgeClaps$Ridge" "lastTold" "[I") (List.mem_of_getElem? (i := 13) rfl)
  have k_38 := hts (.fieldLink RX1 38 "RidgeClaps$Ridge" "far" "I") (List.mem_of_getElem? (i := 14) rfl)
  have k_41 := hts (.fieldLink RX1 41 "RidgeClaps$Ridge" "pace" "I") (List.mem_of_getElem? (i := 15) rfl)
  have k_44 := hts (.fieldLink RX1 44 "RidgeClaps$Ridge" "party" "I") (List.mem_of_getElem? (i := 16) rfl)
  have k_47 := hts (.fieldLink RX1 47 "RidgeClaps$Ridge" "minute" "I") (List.mem_of_getElem? (i := 17) rfl)
  have k_50 := hts (.fieldLink RX1 50 "RidgeClaps$Ridge" "met" "I") (List.mem_of_getElem? (i := 18) rfl)
  have k_53 := hts (.fieldLink RX1 53 "RidgeClaps$Ridge" "struck" "I") (List.mem_of_getElem? (i := 19) rfl)
  have k_56 := hts (.fieldLink RX1 56 "RidgeClaps$Ridge" "z" "I") (List.mem_of_getElem? (i := 20) rfl)
  have k_59 := hts (.fieldLink RX1 59 "RidgeClaps$Ridge" "stack" "[I") (List.mem_of_getElem? (i := 21) rfl)
  have hS : va_S A s.heap s.heap [] := va_S.rf
  obtain ⟨H, hH⟩ : ∃ H, H = s.heap := ⟨_, rfl⟩
  obtain ⟨locs, hlocs⟩ : ∃ locs : List Loc, locs = [] := ⟨_, rfl⟩
  have hP : va_P E.1 vwCl [(ko, .inr (1, [.null, .null, .null, .int 0, .null, .int 0, .null, .int 0, .int 0, .int 0, .int 0, .int 0, .int 0, .int 0, .null]))] H := by rw [hH]; exact hP
  have hS : va_S A s.heap H locs := by rw [hH, hlocs]; exact hS
  suffices hgo : W p l e ({ frames := 1, cells := 6, slots := 185, locals := 20 } : Room) s m args below meth c H locs 0 0 QQ (F0 m 0 ls []) from by rw [hH, hlocs] at hgo; exact hgo
  refine lv_aload_n hx hb dX1_init_0 rfl (lv_at hl 0 rfl) ?_
  refine W.objInit hx hb hown k_3 k_oi k_oc rfl (by rw [hml]; exact hl.1) rfl dX1_init_1 (Nat.le_of_ble_eq_true rfl) (Nat.le_of_ble_eq_true rfl) ?_
  refine W.eq (g2 := F0 m 4 ls []) rfl ?_
  refine lv_aload_n hx hb dX1_init_4 rfl (lv_at hl 0 rfl) ?_
  refine lv_bipush (v := 24) hx hb dX1_init_5 (by decide) ?_
  refine rc_newI (E := E) hx hb k_arrI hK hP hD hS hA 24 (by decide) (by decide) (by decide) (Nat.le_of_ble_eq_true rfl) (Nat.le_of_ble_eq_true rfl) dX1_init_7 (fun q_1 H hP hD hS => ?_)
  have hP : va_P E.1 vwCl [(ko, .inr (1, [.null, .null, .null, .int 0, .null, .int 0, .null, .int 0, .int 0, .int 0, .int 0, .int 0, .int 0, .int 0, .null])), (q_1, .inl (E.2.1 0, 24, .inl (fun _ => 0)))] H := hP
  have hD : va_D A [(ko, .inr (1, [.null, .null, .null, .int 0, .null, .int 0, .null, .int 0, .int 0, .int 0, .int 0, .int 0, .int 0, .int 0, .null])), (q_1, .inl (E.2.1 0, 24, .inl (fun _ => 0)))] := hD
  refine va_putF (D := E.1) (ci := 1) (v := .ref q_1) (ty := .array .int) (C := RX1) (T := TX1) (N := 15) hx hb hts n_X1 tyX1 tyX1_ok nmX1 hown hK hP hD hS 0 rfl rfl 0 (by decide) k_9 (fun _ h9 => h9) rfl hmn rfl (by decide +kernel) rfl rfl (Nat.le_of_ble_eq_true rfl) dX1_init_9 (fun H locs hP hD hS => ?_)
  have hP : va_P E.1 vwCl [(ko, .inr (1, [.ref q_1, .null, .null, .int 0, .null, .int 0, .null, .int 0, .int 0, .int 0, .int 0, .int 0, .int 0, .int 0, .null])), (q_1, .inl (E.2.1 0, 24, .inl (fun _ => 0)))] H := hP
  have hD : va_D A [(ko, .inr (1, [.ref q_1, .null, .null, .int 0, .null, .int 0, .null, .int 0, .int 0, .int 0, .int 0, .int 0, .int 0, .int 0, .null])), (q_1, .inl (E.2.1 0, 24, .inl (fun _ => 0)))] := hD
  refine lv_aload_n hx hb dX1_init_12 rfl (lv_at hl 0 rfl) ?_
  refine lv_bipush (v := 24) hx hb dX1_init_13 (by decide) ?_
  refine rc_newI (E := E) hx hb k_arrI hK hP hD hS hA 24 (by decide) (by decide) (by decide) (Nat.le_of_ble_eq_true rfl) (Nat.le_of_ble_eq_true rfl) dX1_init_15 (fun q_2 H hP hD hS => ?_)
  have hP : va_P E.1 vwCl [(ko, .inr (1, [.ref q_1, .null, .null, .int 0, .null, .int 0, .null, .int 0, .int 0, .int 0, .int 0, .int 0, .int 0, .int 0, .null])), (q_1, .inl (E.2.1 0, 24, .inl (fun _ => 0))), (q_2, .inl (E.2.1 0, 24, .inl (fun _ => 0)))] H := hP
  have hD : va_D A [(ko, .inr (1, [.ref q_1, .null, .null, .int 0, .null, .int 0, .null, .int 0, .int 0, .int 0, .int 0, .int 0, .int 0, .int 0, .null])), (q_1, .inl (E.2.1 0, 24, .inl (fun _ => 0))), (q_2, .inl (E.2.1 0, 24, .inl (fun _ => 0)))] := hD
  refine va_putF (D := E.1) (ci := 1) (v := .ref q_2) (ty := .array .int) (C := RX1) (T := TX1) (N := 15) hx hb hts n_X1 tyX1 tyX1_ok nmX1 hown hK hP hD hS 0 rfl rfl 1 (by decide) k_15 (fun _ h9 => h9) rfl hmn rfl (by decide +kernel) rfl rfl (Nat.le_of_ble_eq_true rfl) dX1_init_17 (fun H locs hP hD hS => ?_)
  have hP : va_P E.1 vwCl [(ko, .inr (1, [.ref q_1, .ref q_2, .null, .int 0, .null, .int 0, .null, .int 0, .int 0, .int 0, .int 0, .int 0, .int 0, .int 0, .null])), (q_1, .inl (E.2.1 0, 24, .inl (fun _ => 0))), (q_2, .inl (E.2.1 0, 24, .inl (fun _ => 0)))] H := hP
  have hD : va_D A [(ko, .inr (1, [.ref q_1, .ref q_2, .null, .int 0, .null, .int 0, .null, .int 0, .int 0, .int 0, .int 0, .int 0, .int 0, .int 0, .null])), (q_1, .inl (E.2.1 0, 24, .inl (fun _ => 0))), (q_2, .inl (E.2.1 0, 24, .inl (fun _ => 0)))] := hD
  refine lv_aload_n hx hb dX1_init_20 rfl (lv_at hl 0 rfl) ?_
  refine lv_bipush (v := 24) hx hb dX1_init_21 (by decide) ?_
  refine rc_newI (E := E) hx hb k_arrI hK hP hD hS hA 24 (by decide) (by decide) (by decide) (Nat.le_of_ble_eq_true rfl) (Nat.le_of_ble_eq_true rfl) dX1_init_23 (fun q_3 H hP hD hS => ?_)
  have hP : va_P E.1 vwCl [(ko, .inr (1, [.ref q_1, .ref q_2, .null, .int 0, .null, .int 0, .null, .int 0, .int 0, .int 0, .int 0, .int 0, .int 0, .int 0, .null])), (q_1, .inl (E.2.1 0, 24, .inl (fun _ => 0))), (q_2, .inl (E.2.1 0, 24, .inl (fun _ => 0))), (q_3, .inl (E.2.1 0, 24, .inl (fun _ => 0)))] H := hP
  have hD : va_D A [(ko, .inr (1, [.ref q_1, .ref q_2, .null, .int 0, .null, .int 0, .null, .int 0, .int 0, .int 0, .int 0, .int 0, .int 0, .int 0, .null])), (q_1, .inl (E.2.1 0, 24, .inl (fun _ => 0))), (q_2, .inl (E.2.1 0, 24, .inl (fun _ => 0))), (q_3, .inl (E.2.1 0, 24, .inl (fun _ => 0)))] := hD
  refine va_putF (D := E.1) (ci := 1) (v := .ref q_3) (ty := .array .int) (C := RX1) (T := TX1) (N := 15) hx hb hts n_X1 tyX1 tyX1_ok nmX1 hown hK hP hD hS 0 rfl rfl 2 (by decide) k_18 (fun _ h9 => h9) rfl hmn rfl (by decide +kernel) rfl rfl (Nat.le_of_ble_eq_true rfl) dX1_init_25 (fun H locs hP hD hS => ?_)
  have hP : va_P E.1 vwCl [(ko, .inr (1, [.ref q_1, .ref q_2, .ref q_3, .int 0, .null, .int 0, .null, .int 0, .int 0, .int 0, .int 0, .int 0, .int 0, .int 0, .null])), (q_1, .inl (E.2.1 0, 24, .inl (fun _ => 0))), (q_2, .inl (E.2.1 0, 24, .inl (fun _ => 0))), (q_3, .inl (E.2.1 0, 24, .inl (fun _ => 0)))] H := hP
  have hD : va_D A [(ko, .inr (1, [.ref q_1, .ref q_2, .ref q_3, .int 0, .null, .int 0, .null, .int 0, .int 0, .int 0, .int 0, .int 0, .int 0, .int 0, .null])), (q_1, .inl (E.2.1 0, 24, .inl (fun _ => 0))), (q_2, .inl (E.2.1 0, 24, .inl (fun _ => 0))), (q_3, .inl (E.2.1 0, 24, .inl (fun _ => 0)))] := hD
  refine lv_aload_n hx hb dX1_init_28 rfl (lv_at hl 0 rfl) ?_
  refine lv_iconst (v := 0) hx hb dX1_init_29 (by decide) ?_
  refine va_put (D := E.1) (ci := 1) (v := .int 0) (ty := .int) (C := RX1) (T := TX1) (N := 15) hx hb hts n_X1 tyX1 tyX1_ok nmX1 hown hK hP hD hS 0 rfl rfl 3 (by decide) k_21 (fun _ h9 => h9) rfl (by decide +kernel) rfl rfl (Nat.le_of_ble_eq_true rfl) dX1_init_30 (fun H locs hP hD hS => ?_)
  have hP : va_P E.1 vwCl [(ko, .inr (1, [.ref q_1, .ref q_2, .ref q_3, .int 0, .null, .int 0, .null, .int 0, .int 0, .int 0, .int 0, .int 0, .int 0, .int 0, .null])), (q_1, .inl (E.2.1 0, 24, .inl (fun _ => 0))), (q_2, .inl (E.2.1 0, 24, .inl (fun _ => 0))), (q_3, .inl (E.2.1 0, 24, .inl (fun _ => 0)))] H := hP
  have hD : va_D A [(ko, .inr (1, [.ref q_1, .ref q_2, .ref q_3, .int 0, .null, .int 0, .null, .int 0, .int 0, .int 0, .int 0, .int 0, .int 0, .int 0, .null])), (q_1, .inl (E.2.1 0, 24, .inl (fun _ => 0))), (q_2, .inl (E.2.1 0, 24, .inl (fun _ => 0))), (q_3, .inl (E.2.1 0, 24, .inl (fun _ => 0)))] := hD
  refine lv_aload_n hx hb dX1_init_33 rfl (lv_at hl 0 rfl) ?_
  refine lv_bipush (v := 14) hx hb dX1_init_34 (by decide) ?_
  refine rc_newR (E := E) hx hb hown k_25 hE.2.2.2.2.2.2.2.2.2.2 hK 5 rfl hP hD hS hA 14 (by decide) (by decide) (by decide) (Nat.le_of_ble_eq_true rfl) (Nat.le_of_ble_eq_true rfl) dX1_init_36 (fun q_4 H hP hD hS => ?_)
  have hP : va_P E.1 vwCl [(ko, .inr (1, [.ref q_1, .ref q_2, .ref q_3, .int 0, .null, .int 0, .null, .int 0, .int 0, .int 0, .int 0, .int 0, .int 0, .int 0, .null])), (q_1, .inl (E.2.1 0, 24, .inl (fun _ => 0))), (q_2, .inl (E.2.1 0, 24, .inl (fun _ => 0))), (q_3, .inl (E.2.1 0, 24, .inl (fun _ => 0))), (q_4, .inl (E.2.1 5, 14, .inr (.inr (.inr (.inr (fun _ => none))))))] H := hP
  have hD : va_D A [(ko, .inr (1, [.ref q_1, .ref q_2, .ref q_3, .int 0, .null, .int 0, .null, .int 0, .int 0, .int 0, .int 0, .int 0, .int 0, .int 0, .null])), (q_1, .inl (E.2.1 0, 24, .inl (fun _ => 0))), (q_2, .inl (E.2.1 0, 24, .inl (fun _ => 0))), (q_3, .inl (E.2.1 0, 24, .inl (fun _ => 0))), (q_4, .inl (E.2.1 5, 14, .inr (.inr (.inr (.inr (fun _ => none))))))] := hD
  refine va_putF (D := E.1) (ci := 1) (v := .ref q_4) (ty := .array (.object "RidgeClaps$Text")) (C := RX1) (T := TX1) (N := 15) hx hb hts n_X1 tyX1 tyX1_ok nmX1 hown hK hP hD hS 0 rfl rfl 4 (by decide) k_27 (fun _ h9 => h9) rfl hmn rfl (by decide +kernel) rfl rfl (Nat.le_of_ble_eq_true rfl) dX1_init_39 (fun H locs hP hD hS => ?_)
  have hP : va_P E.1 vwCl [(ko, .inr (1, [.ref q_1, .ref q_2, .ref q_3, .int 0, .ref q_4, .int 0, .null, .int 0, .int 0, .int 0, .int 0, .int 0, .int 0, .int 0, .null])), (q_1, .inl (E.2.1 0, 24, .inl (fun _ => 0))), (q_2, .inl (E.2.1 0, 24, .inl (fun _ => 0))), (q_3, .inl (E.2.1 0, 24, .inl (fun _ => 0))), (q_4, .inl (E.2.1 5, 14, .inr (.inr (.inr (.inr (fun _ => none))))))] H := hP
  have hD : va_D A [(ko, .inr (1, [.ref q_1, .ref q_2, .ref q_3, .int 0, .ref q_4, .int 0, .null, .int 0, .int 0, .int 0, .int 0, .int 0, .int 0, .int 0, .null])), (q_1, .inl (E.2.1 0, 24, .inl (fun _ => 0))), (q_2, .inl (E.2.1 0, 24, .inl (fun _ => 0))), (q_3, .inl (E.2.1 0, 24, .inl (fun _ => 0))), (q_4, .inl (E.2.1 5, 14, .inr (.inr (.inr (.inr (fun _ => none))))))] := hD
  refine lv_aload_n hx hb dX1_init_42 rfl (lv_at hl 0 rfl) ?_
  refine lv_iconst (v := 0) hx hb dX1_init_43 (by decide) ?_
  refine va_put (D := E.1) (ci := 1) (v := .int 0) (ty := .int) (C := RX1) (T := TX1) (N := 15) hx hb hts n_X1 tyX1 tyX1_ok nmX1 hown hK hP hD hS 0 rfl rfl 5 (by decide) k_31 (fun _ h9 => h9) rfl (by decide +kernel) rfl rfl (Nat.le_of_ble_eq_true rfl) dX1_init_44 (fun H locs hP hD hS => ?_)
  have hP : va_P E.1 vwCl [(ko, .inr (1, [.ref q_1, .ref q_2, .ref q_3, .int 0, .ref q_4, .int 0, .null, .int 0, .int 0, .int 0, .int 0, .int 0, .int 0, .int 0, .null])), (q_1, .inl (E.2.1 0, 24, .inl (fun _ => 0))), (q_2, .inl (E.2.1 0, 24, .inl (fun _ => 0))), (q_3, .inl (E.2.1 0, 24, .inl (fun _ => 0))), (q_4, .inl (E.2.1 5, 14, .inr (.inr (.inr (.inr (fun _ => none))))))] H := hP
  have hD : va_D A [(ko, .inr (1, [.ref q_1, .ref q_2, .ref q_3, .int 0, .ref q_4, .int 0, .null, .int 0, .int 0, .int 0, .int 0, .int 0, .int 0, .int 0, .null])), (q_1, .inl (E.2.1 0, 24, .inl (fun _ => 0))), (q_2, .inl (E.2.1 0, 24, .inl (fun _ => 0))), (q_3, .inl (E.2.1 0, 24, .inl (fun _ => 0))), (q_4, .inl (E.2.1 5, 14, .inr (.inr (.inr (.inr (fun _ => none))))))] := hD
  refine lv_aload_n hx hb dX1_init_47 rfl (lv_at hl 0 rfl) ?_
  refine lv_iconst (v := 3) hx hb dX1_init_48 (by decide) ?_
  refine rc_newI (E := E) hx hb k_arrI hK hP hD hS hA 3 (by decide) (by decide) (by decide) (Nat.le_of_ble_eq_true rfl) (Nat.le_of_ble_eq_true rfl) dX1_init_49 (fun q_5 H hP hD hS => ?_)
  have hP : va_P E.1 vwCl [(ko, .inr (1, [.ref q_1, .ref q_2, .ref q_3, .int 0, .ref q_4, .int 0, .null, .int 0, .int 0, .int 0, .int 0, .int 0, .int 0, .int 0, .null])), (q_1, .inl (E.2.1 0, 24, .inl (fun _ => 0))), (q_2, .inl (E.2.1 0, 24, .inl (fun _ => 0))), (q_3, .inl (E.2.1 0, 24, .inl (fun _ => 0))), (q_4, .inl (E.2.1 5, 14, .inr (.inr (.inr (.inr (fun _ => none)))))), (q_5, .inl (E.2.1 0, 3, .inl (fun _ => 0)))] H := hP
  have hD : va_D A [(ko, .inr (1, [.ref q_1, .ref q_2, .ref q_3, .int 0, .ref q_4, .int 0, .null, .int 0, .int 0, .int 0, .int 0, .int 0, .int 0, .int 0, .null])), (q_1, .inl (E.2.1 0, 24, .inl (fun _ => 0))), (q_2, .inl (E.2.1 0, 24, .inl (fun _ => 0))), (q_3, .inl (E.2.1 0, 24, .inl (fun _ => 0))), (q_4, .inl (E.2.1 5, 14, .inr (.inr (.inr (.inr (fun _ => none)))))), (q_5, .inl (E.2.1 0, 3, .inl (fun _ => 0)))] := hD
  refine lv_dup hx hb dX1_init_51 rfl ?_
  refine lv_iconst (v := 0) hx hb dX1_init_52 (by decide) ?_
  refine lv_ldc hx hb hown k_34 dX1_init_53 ?_
  refine rc_iast hx hb hK hP hD hS 5 0 rfl rfl 0 (by decide) (by unfold vp_in; decide) dX1_init_55 (fun H locs hP hD hS => ?_)
  have hP : va_P E.1 vwCl [(ko, .inr (1, [.ref q_1, .ref q_2, .ref q_3, .int 0, .ref q_4, .int 0, .null, .int 0, .int 0, .int 0, .int 0, .int 0, .int 0, .int 0, .null])), (q_1, .inl (E.2.1 0, 24, .inl (fun _ => 0))), (q_2, .inl (E.2.1 0, 24, .inl (fun _ => 0))), (q_3, .inl (E.2.1 0, 24, .inl (fun _ => 0))), (q_4, .inl (E.2.1 5, 14, .inr (.inr (.inr (.inr (fun _ => none)))))), (q_5, .inl (E.2.1 0, 3, .inl (upd (fun _ => 0) 0 (-1000000005))))] H := hP
  have hD : va_D A [(ko, .inr (1, [.ref q_1, .ref q_2, .ref q_3, .int 0, .ref q_4, .int 0, .null, .int 0, .int 0, .int 0, .int 0, .int 0, .int 0, .int 0, .null])), (q_1, .inl (E.2.1 0, 24, .inl (fun _ => 0))), (q_2, .inl (E.2.1 0, 24, .inl (fun _ => 0))), (q_3, .inl (E.2.1 0, 24, .inl (fun _ => 0))), (q_4, .inl (E.2.1 5, 14, .inr (.inr (.inr (.inr (fun _ => none)))))), (q_5, .inl (E.2.1 0, 3, .inl (upd (fun _ => 0) 0 (-1000000005))))] := hD
  refine lv_dup hx hb dX1_init_56 rfl ?_
  refine lv_iconst (v := 1) hx hb dX1_init_57 (by decide) ?_
  refine lv_ldc hx hb hown k_34 dX1_init_58 ?_
  refine rc_iast hx hb hK hP hD hS 5 0 rfl rfl 1 (by decide) (by unfold vp_in; decide) dX1_init_60 (fun H locs hP hD hS => ?_)
  have hP : va_P E.1 vwCl [(ko, .inr (1, [.ref q_1, .ref q_2, .ref q_3, .int 0, .ref q_4, .int 0, .null, .int 0, .int 0, .int 0, .int 0, .int 0, .int 0, .int 0, .null])), (q_1, .inl (E.2.1 0, 24, .inl (fun _ => 0))), (q_2, .inl (E.2.1 0, 24, .inl (fun _ => 0))), (q_3, .inl (E.2.1 0, 24, .inl (fun _ => 0))), (q_4, .inl (E.2.1 5, 14, .inr (.inr (.inr (.inr (fun _ => none)))))), (q_5, .inl (E.2.1 0, 3, .inl (upd (upd (fun _ => 0) 0 (-1000000005)) 1 (-1000000005))))] H := hP
  have hD : va_D A [(ko, .inr (1, [.ref q_1, .ref q_2, .ref q_3, .int 0, .ref q_4, .int 0, .null, .int 0, .int 0, .int 0, .int 0, .int 0, .int 0, .int 0, .null])), (q_1, .inl (E.2.1 0, 24, .inl (fun _ => 0))), (q_2, .inl (E.2.1 0, 24, .inl (fun _ => 0))), (q_3, .inl (E.2.1 0, 24, .inl (fun _ => 0))), (q_4, .inl (E.2.1 5, 14, .inr (.inr (.inr (.inr (fun _ => none)))))), (q_5, .inl (E.2.1 0, 3, .inl (upd (upd (fun _ => 0) 0 (-1000000005)) 1 (-1000000005))))] := hD
  refine lv_dup hx hb dX1_init_61 rfl ?_
  refine lv_iconst (v := 2) hx hb dX1_init_62 (by decide) ?_
  refine lv_ldc hx hb hown k_34 dX1_init_63 ?_
  refine rc_iast hx hb hK hP hD hS 5 0 rfl rfl 2 (by decide) (by unfold vp_in; decide) dX1_init_65 (fun H locs hP hD hS => ?_)
  have hP : va_P E.1 vwCl [(ko, .inr (1, [.ref q_1, .ref q_2, .ref q_3, .int 0, .ref q_4, .int 0, .null, .int 0, .int 0, .int 0, .int 0, .int 0, .int 0, .int 0, .null])), (q_1, .inl (E.2.1 0, 24, .inl (fun _ => 0))), (q_2, .inl (E.2.1 0, 24, .inl (fun _ => 0))), (q_3, .inl (E.2.1 0, 24, .inl (fun _ => 0))), (q_4, .inl (E.2.1 5, 14, .inr (.inr (.inr (.inr (fun _ => none)))))), (q_5, .inl (E.2.1 0, 3, .inl (upd (upd (upd (fun _ => 0) 0 (-1000000005)) 1 (-1000000005)) 2 (-1000000005))))] H := hP
  have hD : va_D A [(ko, .inr (1, [.ref q_1, .ref q_2, .ref q_3, .int 0, .ref q_4, .int 0, .null, .int 0, .int 0, .int 0, .int 0, .int 0, .int 0, .int 0, .null])), (q_1, .inl (E.2.1 0, 24, .inl (fun _ => 0))), (q_2, .inl (E.2.1 0, 24, .inl (fun _ => 0))), (q_3, .inl (E.2.1 0, 24, .inl (fun _ => 0))), (q_4, .inl (E.2.1 5, 14, .inr (.inr (.inr (.inr (fun _ => none)))))), (q_5, .inl (E.2.1 0, 3, .inl (upd (upd (upd (fun _ => 0) 0 (-1000000005)) 1 (-1000000005)) 2 (-1000000005))))] := hD
  refine va_putF (D := E.1) (ci := 1) (v := .ref q_5) (ty := .array .int) (C := RX1) (T := TX1) (N := 15) hx hb hts n_X1 tyX1 tyX1_ok nmX1 hown hK hP hD hS 0 rfl rfl 6 (by decide) k_35 (fun _ h9 => h9) rfl hmn rfl (by decide +kernel) rfl rfl (Nat.le_of_ble_eq_true rfl) dX1_init_66 (fun H locs hP hD hS => ?_)
  have hP : va_P E.1 vwCl [(ko, .inr (1, [.ref q_1, .ref q_2, .ref q_3, .int 0, .ref q_4, .int 0, .ref q_5, .int 0, .int 0, .int 0, .int 0, .int 0, .int 0, .int 0, .null])), (q_1, .inl (E.2.1 0, 24, .inl (fun _ => 0))), (q_2, .inl (E.2.1 0, 24, .inl (fun _ => 0))), (q_3, .inl (E.2.1 0, 24, .inl (fun _ => 0))), (q_4, .inl (E.2.1 5, 14, .inr (.inr (.inr (.inr (fun _ => none)))))), (q_5, .inl (E.2.1 0, 3, .inl (upd (upd (upd (fun _ => 0) 0 (-1000000005)) 1 (-1000000005)) 2 (-1000000005))))] H := hP
  have hD : va_D A [(ko, .inr (1, [.ref q_1, .ref q_2, .ref q_3, .int 0, .ref q_4, .int 0, .ref q_5, .int 0, .int 0, .int 0, .int 0, .int 0, .int 0, .int 0, .null])), (q_1, .inl (E.2.1 0, 24, .inl (fun _ => 0))), (q_2, .inl (E.2.1 0, 24, .inl (fun _ => 0))), (q_3, .inl (E.2.1 0, 24, .inl (fun _ => 0))), (q_4, .inl (E.2.1 5, 14, .inr (.inr (.inr (.inr (fun _ => none)))))), (q_5, .inl (E.2.1 0, 3, .inl (upd (upd (upd (fun _ => 0) 0 (-1000000005)) 1 (-1000000005)) 2 (-1000000005))))] := hD
  refine lv_aload_n hx hb dX1_init_69 rfl (lv_at hl 0 rfl) ?_
  refine lv_bipush (v := 60) hx hb dX1_init_70 (by decide) ?_
  refine va_put (D := E.1) (ci := 1) (v := .int 60) (ty := .int) (C := RX1) (T := TX1) (N := 15) hx hb hts n_X1 tyX1 tyX1_ok nmX1 hown hK hP hD hS 0 rfl rfl 7 (by decide) k_38 (fun _ h9 => h9) rfl (by decide +kernel) rfl rfl (Nat.le_of_ble_eq_true rfl) dX1_init_72 (fun H locs hP hD hS => ?_)
  have hP : va_P E.1 vwCl [(ko, .inr (1, [.ref q_1, .ref q_2, .ref q_3, .int 0, .ref q_4, .int 0, .ref q_5, .int 60, .int 0, .int 0, .int 0, .int 0, .int 0, .int 0, .null])), (q_1, .inl (E.2.1 0, 24, .inl (fun _ => 0))), (q_2, .inl (E.2.1 0, 24, .inl (fun _ => 0))), (q_3, .inl (E.2.1 0, 24, .inl (fun _ => 0))), (q_4, .inl (E.2.1 5, 14, .inr (.inr (.inr (.inr (fun _ => none)))))), (q_5, .inl (E.2.1 0, 3, .inl (upd (upd (upd (fun _ => 0) 0 (-1000000005)) 1 (-1000000005)) 2 (-1000000005))))] H := hP
  have hD : va_D A [(ko, .inr (1, [.ref q_1, .ref q_2, .ref q_3, .int 0, .ref q_4, .int 0, .ref q_5, .int 60, .int 0, .int 0, .int 0, .int 0, .int 0, .int 0, .null])), (q_1, .inl (E.2.1 0, 24, .inl (fun _ => 0))), (q_2, .inl (E.2.1 0, 24, .inl (fun _ => 0))), (q_3, .inl (E.2.1 0, 24, .inl (fun _ => 0))), (q_4, .inl (E.2.1 5, 14, .inr (.inr (.inr (.inr (fun _ => none)))))), (q_5, .inl (E.2.1 0, 3, .inl (upd (upd (upd (fun _ => 0) 0 (-1000000005)) 1 (-1000000005)) 2 (-1000000005))))] := hD
  refine lv_aload_n hx hb dX1_init_75 rfl (lv_at hl 0 rfl) ?_
  refine lv_iconst (v := 2) hx hb dX1_init_76 (by decide) ?_
  refine va_put (D := E.1) (ci := 1) (v := .int 2) (ty := .int) (C := RX1) (T := TX1) (N := 15) hx hb hts n_X1 tyX1 tyX1_ok nmX1 hown hK hP hD hS 0 rfl rfl 8 (by decide) k_41 (fun _ h9 => h9) rfl (by decide +kernel) rfl rfl (Nat.le_of_ble_eq_true rfl) dX1_init_77 (fun H locs hP hD hS => ?_)
  have hP : va_P E.1 vwCl [(ko, .inr (1, [.ref q_1, .ref q_2, .ref q_3, .int 0, .ref q_4, .int 0, .ref q_5, .int 60, .int 2, .int 0, .int 0, .int 0, .int 0, .int 0, .null])), (q_1, .inl (E.2.1 0, 24, .inl (fun _ => 0))), (q_2, .inl (E.2.1 0, 24, .inl (fun _ => 0))), (q_3, .inl (E.2.1 0, 24, .inl (fun _ => 0))), (q_4, .inl (E.2.1 5, 14, .inr (.inr (.inr (.inr (fun _ => none)))))), (q_5, .inl (E.2.1 0, 3, .inl (upd (upd (upd (fun _ => 0) 0 (-1000000005)) 1 (-1000000005)) 2 (-1000000005))))] H := hP
  have hD : va_D A [(ko, .inr (1, [.ref q_1, .ref q_2, .ref q_3, .int 0, .ref q_4, .int 0, .ref q_5, .int 60, .int 2, .int 0, .int 0, .int 0, .int 0, .int 0, .null])), (q_1, .inl (E.2.1 0, 24, .inl (fun _ => 0))), (q_2, .inl (E.2.1 0, 24, .inl (fun _ => 0))), (q_3, .inl (E.2.1 0, 24, .inl (fun _ => 0))), (q_4, .inl (E.2.1 5, 14, .inr (.inr (.inr (.inr (fun _ => none)))))), (q_5, .inl (E.2.1 0, 3, .inl (upd (upd (upd (fun _ => 0) 0 (-1000000005)) 1 (-1000000005)) 2 (-1000000005))))] := hD
  refine lv_aload_n hx hb dX1_init_80 rfl (lv_at hl 0 rfl) ?_
  refine lv_ldc hx hb hown k_34 dX1_init_81 ?_
  refine va_put (D := E.1) (ci := 1) (v := .int (-1000000005)) (ty := .int) (C := RX1) (T := TX1) (N := 15) hx hb hts n_X1 tyX1 tyX1_ok nmX1 hown hK hP hD hS 0 rfl rfl 9 (by decide) k_44 (fun _ h9 => h9) rfl (by decide +kernel) rfl rfl (Nat.le_of_ble_eq_true rfl) dX1_init_83 (fun H locs hP hD hS => ?_)
  have hP : va_P E.1 vwCl [(ko, .inr (1, [.ref q_1, .ref q_2, .ref q_3, .int 0, .ref q_4, .int 0, .ref q_5, .int 60, .int 2, .int (-1000000005), .int 0, .int 0, .int 0, .int 0, .null])), (q_1, .inl (E.2.1 0, 24, .inl (fun _ => 0))), (q_2, .inl (E.2.1 0, 24, .inl (fun _ => 0))), (q_3, .inl (E.2.1 0, 24, .inl (fun _ => 0))), (q_4, .inl (E.2.1 5, 14, .inr (.inr (.inr (.inr (fun _ => none)))))), (q_5, .inl (E.2.1 0, 3, .inl (upd (upd (upd (fun _ => 0) 0 (-1000000005)) 1 (-1000000005)) 2 (-1000000005))))] H := hP
  have hD : va_D A [(ko, .inr (1, [.ref q_1, .ref q_2, .ref q_3, .int 0, .ref q_4, .int 0, .ref q_5, .int 60, .int 2, .int (-1000000005), .int 0, .int 0, .int 0, .int 0, .null])), (q_1, .inl (E.2.1 0, 24, .inl (fun _ => 0))), (q_2, .inl (E.2.1 0, 24, .inl (fun _ => 0))), (q_3, .inl (E.2.1 0, 24, .inl (fun _ => 0))), (q_4, .inl (E.2.1 5, 14, .inr (.inr (.inr (.inr (fun _ => none)))))), (q_5, .inl (E.2.1 0, 3, .inl (upd (upd (upd (fun _ => 0) 0 (-1000000005)) 1 (-1000000005)) 2 (-1000000005))))] := hD
  refine lv_aload_n hx hb dX1_init_86 rfl (lv_at hl 0 rfl) ?_
  refine lv_iconst (v := 0) hx hb dX1_init_87 (by decide) ?_
  refine va_put (D := E.1) (ci := 1) (v := .int 0) (ty := .int) (C := RX1) (T := TX1) (N := 15) hx hb hts n_X1 tyX1 tyX1_ok nmX1 hown hK hP hD hS 0 rfl rfl 10 (by decide) k_47 (fun _ h9 => h9) rfl (by decide +kernel) rfl rfl (Nat.le_of_ble_eq_true rfl) dX1_init_88 (fun H locs hP hD hS => ?_)
  have hP : va_P E.1 vwCl [(ko, .inr (1, [.ref q_1, .ref q_2, .ref q_3, .int 0, .ref q_4, .int 0, .ref q_5, .int 60, .int 2, .int (-1000000005), .int 0, .int 0, .int 0, .int 0, .null])), (q_1, .inl (E.2.1 0, 24, .inl (fun _ => 0))), (q_2, .inl (E.2.1 0, 24, .inl (fun _ => 0))), (q_3, .inl (E.2.1 0, 24, .inl (fun _ => 0))), (q_4, .inl (E.2.1 5, 14, .inr (.inr (.inr (.inr (fun _ => none)))))), (q_5, .inl (E.2.1 0, 3, .inl (upd (upd (upd (fun _ => 0) 0 (-1000000005)) 1 (-1000000005)) 2 (-1000000005))))] H := hP
  have hD : va_D A [(ko, .inr (1, [.ref q_1, .ref q_2, .ref q_3, .int 0, .ref q_4, .int 0, .ref q_5, .int 60, .int 2, .int (-1000000005), .int 0, .int 0, .int 0, .int 0, .null])), (q_1, .inl (E.2.1 0, 24, .inl (fun _ => 0))), (q_2, .inl (E.2.1 0, 24, .inl (fun _ => 0))), (q_3, .inl (E.2.1 0, 24, .inl (fun _ => 0))), (q_4, .inl (E.2.1 5, 14, .inr (.inr (.inr (.inr (fun _ => none)))))), (q_5, .inl (E.2.1 0, 3, .inl (upd (upd (upd (fun _ => 0) 0 (-1000000005)) 1 (-1000000005)) 2 (-1000000005))))] := hD
  refine lv_aload_n hx hb dX1_init_91 rfl (lv_at hl 0 rfl) ?_
  refine lv_iconst (v := 0) hx hb dX1_init_92 (by decide) ?_
  refine va_put (D := E.1) (ci := 1) (v := .int 0) (ty := .int) (C := RX1) (T := TX1) (N := 15) hx hb hts n_X1 tyX1 tyX1_ok nmX1 hown hK hP hD hS 0 rfl rfl 11 (by decide) k_50 (fun _ h9 => h9) rfl (by decide +kernel) rfl rfl (Nat.le_of_ble_eq_true rfl) dX1_init_93 (fun H locs hP hD hS => ?_)
  have hP : va_P E.1 vwCl [(ko, .inr (1, [.ref q_1, .ref q_2, .ref q_3, .int 0, .ref q_4, .int 0, .ref q_5, .int 60, .int 2, .int (-1000000005), .int 0, .int 0, .int 0, .int 0, .null])), (q_1, .inl (E.2.1 0, 24, .inl (fun _ => 0))), (q_2, .inl (E.2.1 0, 24, .inl (fun _ => 0))), (q_3, .inl (E.2.1 0, 24, .inl (fun _ => 0))), (q_4, .inl (E.2.1 5, 14, .inr (.inr (.inr (.inr (fun _ => none)))))), (q_5, .inl (E.2.1 0, 3, .inl (upd (upd (upd (fun _ => 0) 0 (-1000000005)) 1 (-1000000005)) 2 (-1000000005))))] H := hP
  have hD : va_D A [(ko, .inr (1, [.ref q_1, .ref q_2, .ref q_3, .int 0, .ref q_4, .int 0, .ref q_5, .int 60, .int 2, .int (-1000000005), .int 0, .int 0, .int 0, .int 0, .null])), (q_1, .inl (E.2.1 0, 24, .inl (fun _ => 0))), (q_2, .inl (E.2.1 0, 24, .inl (fun _ => 0))), (q_3, .inl (E.2.1 0, 24, .inl (fun _ => 0))), (q_4, .inl (E.2.1 5, 14, .inr (.inr (.inr (.inr (fun _ => none)))))), (q_5, .inl (E.2.1 0, 3, .inl (upd (upd (upd (fun _ => 0) 0 (-1000000005)) 1 (-1000000005)) 2 (-1000000005))))] := hD
  refine lv_aload_n hx hb dX1_init_96 rfl (lv_at hl 0 rfl) ?_
  refine lv_iconst (v := 0) hx hb dX1_init_97 (by decide) ?_
  refine va_put (D := E.1) (ci := 1) (v := .int 0) (ty := .int) (C := RX1) (T := TX1) (N := 15) hx hb hts n_X1 tyX1 tyX1_ok nmX1 hown hK hP hD hS 0 rfl rfl 12 (by decide) k_53 (fun _ h9 => h9) rfl (by decide +kernel) rfl rfl (Nat.le_of_ble_eq_true rfl) dX1_init_98 (fun H locs hP hD hS => ?_)
  have hP : va_P E.1 vwCl [(ko, .inr (1, [.ref q_1, .ref q_2, .ref q_3, .int 0, .ref q_4, .int 0, .ref q_5, .int 60, .int 2, .int (-1000000005), .int 0, .int 0, .int 0, .int 0, .null])), (q_1, .inl (E.2.1 0, 24, .inl (fun _ => 0))), (q_2, .inl (E.2.1 0, 24, .inl (fun _ => 0))), (q_3, .inl (E.2.1 0, 24, .inl (fun _ => 0))), (q_4, .inl (E.2.1 5, 14, .inr (.inr (.inr (.inr (fun _ => none)))))), (q_5, .inl (E.2.1 0, 3, .inl (upd (upd (upd (fun _ => 0) 0 (-1000000005)) 1 (-1000000005)) 2 (-1000000005))))] H := hP
  have hD : va_D A [(ko, .inr (1, [.ref q_1, .ref q_2, .ref q_3, .int 0, .ref q_4, .int 0, .ref q_5, .int 60, .int 2, .int (-1000000005), .int 0, .int 0, .int 0, .int 0, .null])), (q_1, .inl (E.2.1 0, 24, .inl (fun _ => 0))), (q_2, .inl (E.2.1 0, 24, .inl (fun _ => 0))), (q_3, .inl (E.2.1 0, 24, .inl (fun _ => 0))), (q_4, .inl (E.2.1 5, 14, .inr (.inr (.inr (.inr (fun _ => none)))))), (q_5, .inl (E.2.1 0, 3, .inl (upd (upd (upd (fun _ => 0) 0 (-1000000005)) 1 (-1000000005)) 2 (-1000000005))))] := hD
  refine lv_aload_n hx hb dX1_init_101 rfl (lv_at hl 0 rfl) ?_
  refine lv_iconst (v := 1) hx hb dX1_init_102 (by decide) ?_
  refine va_put (D := E.1) (ci := 1) (v := .int 1) (ty := .int) (C := RX1) (T := TX1) (N := 15) hx hb hts n_X1 tyX1 tyX1_ok nmX1 hown hK hP hD hS 0 rfl rfl 13 (by decide) k_56 (fun _ h9 => h9) rfl (by decide +kernel) rfl rfl (Nat.le_of_ble_eq_true rfl) dX1_init_103 (fun H locs hP hD hS => ?_)
  have hP : va_P E.1 vwCl [(ko, .inr (1, [.ref q_1, .ref q_2, .ref q_3, .int 0, .ref q_4, .int 0, .ref q_5, .int 60, .int 2, .int (-1000000005), .int 0, .int 0, .int 0, .int 1, .null])), (q_1, .inl (E.2.1 0, 24, .inl (fun _ => 0))), (q_2, .inl (E.2.1 0, 24, .inl (fun _ => 0))), (q_3, .inl (E.2.1 0, 24, .inl (fun _ => 0))), (q_4, .inl (E.2.1 5, 14, .inr (.inr (.inr (.inr (fun _ => none)))))), (q_5, .inl (E.2.1 0, 3, .inl (upd (upd (upd (fun _ => 0) 0 (-1000000005)) 1 (-1000000005)) 2 (-1000000005))))] H := hP
  have hD : va_D A [(ko, .inr (1, [.ref q_1, .ref q_2, .ref q_3, .int 0, .ref q_4, .int 0, .ref q_5, .int 60, .int 2, .int (-1000000005), .int 0, .int 0, .int 0, .int 1, .null])), (q_1, .inl (E.2.1 0, 24, .inl (fun _ => 0))), (q_2, .inl (E.2.1 0, 24, .inl (fun _ => 0))), (q_3, .inl (E.2.1 0, 24, .inl (fun _ => 0))), (q_4, .inl (E.2.1 5, 14, .inr (.inr (.inr (.inr (fun _ => none)))))), (q_5, .inl (E.2.1 0, 3, .inl (upd (upd (upd (fun _ => 0) 0 (-1000000005)) 1 (-1000000005)) 2 (-1000000005))))] := hD
  refine lv_aload_n hx hb dX1_init_106 rfl (lv_at hl 0 rfl) ?_
  refine lv_bipush (v := 96) hx hb dX1_init_107 (by decide) ?_
  refine rc_newI (E := E) hx hb k_arrI hK hP hD hS hA 96 (by decide) (by decide) (by decide) (Nat.le_of_ble_eq_true rfl) (Nat.le_of_ble_eq_true rfl) dX1_init_109 (fun q_6 H hP hD hS => ?_)
  have hP : va_P E.1 vwCl [(ko, .inr (1, [.ref q_1, .ref q_2, .ref q_3, .int 0, .ref q_4, .int 0, .ref q_5, .int 60, .int 2, .int (-1000000005), .int 0, .int 0, .int 0, .int 1, .null])), (q_1, .inl (E.2.1 0, 24, .inl (fun _ => 0))), (q_2, .inl (E.2.1 0, 24, .inl (fun _ => 0))), (q_3, .inl (E.2.1 0, 24, .inl (fun _ => 0))), (q_4, .inl (E.2.1 5, 14, .inr (.inr (.inr (.inr (fun _ => none)))))), (q_5, .inl (E.2.1 0, 3, .inl (upd (upd (upd (fun _ => 0) 0 (-1000000005)) 1 (-1000000005)) 2 (-1000000005)))), (q_6, .inl (E.2.1 0, 96, .inl (fun _ => 0)))] H := hP
  have hD : va_D A [(ko, .inr (1, [.ref q_1, .ref q_2, .ref q_3, .int 0, .ref q_4, .int 0, .ref q_5, .int 60, .int 2, .int (-1000000005), .int 0, .int 0, .int 0, .int 1, .null])), (q_1, .inl (E.2.1 0, 24, .inl (fun _ => 0))), (q_2, .inl (E.2.1 0, 24, .inl (fun _ => 0))), (q_3, .inl (E.2.1 0, 24, .inl (fun _ => 0))), (q_4, .inl (E.2.1 5, 14, .inr (.inr (.inr (.inr (fun _ => none)))))), (q_5, .inl (E.2.1 0, 3, .inl (upd (upd (upd (fun _ => 0) 0 (-1000000005)) 1 (-1000000005)) 2 (-1000000005)))), (q_6, .inl (E.2.1 0, 96, .inl (fun _ => 0)))] := hD
  refine va_putF (D := E.1) (ci := 1) (v := .ref q_6) (ty := .array .int) (C := RX1) (T := TX1) (N := 15) hx hb hts n_X1 tyX1 tyX1_ok nmX1 hown hK hP hD hS 0 rfl rfl 14 (by decide) k_59 (fun _ h9 => h9) rfl hmn rfl (by decide +kernel) rfl rfl (Nat.le_of_ble_eq_true rfl) dX1_init_111 (fun H locs hP hD hS => ?_)
  have hP : va_P E.1 vwCl [(ko, .inr (1, [.ref q_1, .ref q_2, .ref q_3, .int 0, .ref q_4, .int 0, .ref q_5, .int 60, .int 2, .int (-1000000005), .int 0, .int 0, .int 0, .int 1, .ref q_6])), (q_1, .inl (E.2.1 0, 24, .inl (fun _ => 0))), (q_2, .inl (E.2.1 0, 24, .inl (fun _ => 0))), (q_3, .inl (E.2.1 0, 24, .inl (fun _ => 0))), (q_4, .inl (E.2.1 5, 14, .inr (.inr (.inr (.inr (fun _ => none)))))), (q_5, .inl (E.2.1 0, 3, .inl (upd (upd (upd (fun _ => 0) 0 (-1000000005)) 1 (-1000000005)) 2 (-1000000005)))), (q_6, .inl (E.2.1 0, 96, .inl (fun _ => 0)))] H := hP
  have hD : va_D A [(ko, .inr (1, [.ref q_1, .ref q_2, .ref q_3, .int 0, .ref q_4, .int 0, .ref q_5, .int 60, .int 2, .int (-1000000005), .int 0, .int 0, .int 0, .int 1, .ref q_6])), (q_1, .inl (E.2.1 0, 24, .inl (fun _ => 0))), (q_2, .inl (E.2.1 0, 24, .inl (fun _ => 0))), (q_3, .inl (E.2.1 0, 24, .inl (fun _ => 0))), (q_4, .inl (E.2.1 5, 14, .inr (.inr (.inr (.inr (fun _ => none)))))), (q_5, .inl (E.2.1 0, 3, .inl (upd (upd (upd (fun _ => 0) 0 (-1000000005)) 1 (-1000000005)) 2 (-1000000005)))), (q_6, .inl (E.2.1 0, 96, .inl (fun _ => 0)))] := hD
  refine W.widen (k := 6) (n := 185) (Nat.le_of_ble_eq_true rfl) (Nat.le_of_ble_eq_true rfl) ?_
  exact hret _ _ _ _ (fun j => [q_1, q_2, q_3, q_4, q_5, q_6].getD j 0) trivial hP hD hS dX1_init_114

set_option maxHeartbeats 8000000 in
set_option maxRecDepth 100000 in
theorem c_X4_init (l : Launch) (E : gE) (ko a3 : Nat) (sz : Nat) (p1 p2 : Int32) : Met l yX4_init wsX4_init ({ frames := 1, cells := 0, slots := 0, locals := 20 } : Room) (va_Pc [.ref ko, .int p1, .int p2, .ref a3] (rc_B E [(ko, .inr (4, [.int 0, .int 0, .null]))] sz)) (va_Qv (S := Nat → Nat) (fun _ => True) (fun u t => rc_C E (va_A [(ko, .inr (4, [.int 0, .int 0, .null]))] sz) [(ko, .inr (4, [.int p1, .int p2, .ref a3]))] t) (va_A [(ko, .inr (4, [.int 0, .int 0, .null]))] sz)) 0 0 (va_A [(ko, .inr (4, [.int 0, .int 0, .null]))] sz) := by
  refine rc_enterV (cc := cX4_init) (maxL := 4) (by decide) rfl (Nat.le_of_ble_eq_true rfl) ?_
  intro p e s m args below meth c QQ A hx hb hml hown hts hmn hE hP hD hA hret ls hl
  have hown : s.vm.findClass RX4 = some m.cls := hown
  have hmn : meth.name = "<init>" := hmn
  have hK := hE.1
  have hl : lv_has ls 4 [(0, .ref ko), (1, .int p1), (2, .int p2), (3, .ref a3)] := hl
  have n_X4 : ∀ w ∈ wsX40, w ∈ wsX4_init := fun _ h => List.mem_cons_of_mem _ (List.mem_append_right _ h)
  have k_1 := hts (.methodLink RX4 1 objectInit) (List.mem_of_getElem? (i := 1) rfl)
  have k_oi := hts (.instanceMethod objectInit) (List.mem_of_getElem? (i := 2) rfl)
  have k_oc := hts (.code objectInit ⟨#[0xb1]⟩ 1 none) (List.mem_of_getElem? (i := 3) rfl)
  have k_7 := hts (.fieldLink RX4 7 "RidgeClaps$Text" "key" "I") (List.mem_of_getElem? (i := 4) rfl)
  have k_13 := hts (.fieldLink RX4 13 "RidgeClaps$Text" "leaves" "I") (List.mem_of_getElem? (i := 5) rfl)
  have k_16 := hts (.fieldLink RX4 16 "RidgeClaps$Text" "codes" "[I") (List.mem_of_getElem? (i := 6) rfl)
  have hS : va_S A s.heap s.heap [] := va_S.rf
  obtain ⟨H, hH⟩ : ∃ H, H = s.heap := ⟨_, rfl⟩
  obtain ⟨locs, hlocs⟩ : ∃ locs : List Loc, locs = [] := ⟨_, rfl⟩
  have hP : va_P E.1 vwCl [(ko, .inr (4, [.int 0, .int 0, .null]))] H := by rw [hH]; exact hP
  have hS : va_S A s.heap H locs := by rw [hH, hlocs]; exact hS
  suffices hgo : W p l e ({ frames := 1, cells := 0, slots := 0, locals := 20 } : Room) s m args below meth c H locs 0 0 QQ (F0 m 0 ls []) from by rw [hH, hlocs] at hgo; exact hgo
  refine lv_aload_n hx hb dX4_init_0 rfl (lv_at hl 0 rfl) ?_
  refine W.objInit hx hb hown k_1 k_oi k_oc rfl (by rw [hml]; exact hl.1) rfl dX4_init_1 (Nat.le_of_ble_eq_true rfl) (Nat.le_of_ble_eq_true rfl) ?_
  refine W.eq (g2 := F0 m 4 ls []) rfl ?_
  refine lv_aload_n hx hb dX4_init_4 rfl (lv_at hl 0 rfl) ?_
  refine lv_iload_n hx hb dX4_init_5 rfl (lv_at hl 1 rfl) ?_
  refine va_putF (D := E.1) (ci := 4) (v := .int p1) (ty := .int) (C := RX4) (T := TX4) (N := 3) hx hb hts n_X4 tyX4 tyX4_ok nmX4 hown hK hP hD hS 0 rfl rfl 0 (by decide) k_7 (fun _ h9 => h9) rfl hmn rfl (by decide +kernel) rfl rfl (Nat.le_of_ble_eq_true rfl) dX4_init_6 (fun H locs hP hD hS => ?_)
  have hP : va_P E.1 vwCl [(ko, .inr (4, [.int p1, .int 0, .null]))] H := hP
  have hD : va_D A [(ko, .inr (4, [.int p1, .int 0, .null]))] := hD
  refine lv_aload_n hx hb dX4_init_9 rfl (lv_at hl 0 rfl) ?_
  refine lv_iload_n hx hb dX4_init_10 rfl (lv_at hl 2 rfl) ?_
  refine va_putF (D := E.1) (ci := 4) (v := .int p2) (ty := .int) (C := RX4) (T := TX4) (N := 3) hx hb hts n_X4 tyX4 tyX4_ok nmX4 hown hK hP hD hS 0 rfl rfl 1 (by decide) k_13 (fun _ h9 => h9) rfl hmn rfl (by decide +kernel) rfl rfl (Nat.le_of_ble_eq_true rfl) dX4_init_11 (fun H locs hP hD hS => ?_)
  have hP : va_P E.1 vwCl [(ko, .inr (4, [.int p1, .int p2, .null]))] H := hP
  have hD : va_D A [(ko, .inr (4, [.int p1, .int p2, .null]))] := hD
  refine lv_aload_n hx hb dX4_init_14 rfl (lv_at hl 0 rfl) ?_
  refine lv_aload_n hx hb dX4_init_15 rfl (lv_at hl 3 rfl) ?_
  refine va_putF (D := E.1) (ci := 4) (v := .ref a3) (ty := .array .int) (C := RX4) (T := TX4) (N := 3) hx hb hts n_X4 tyX4 tyX4_ok nmX4 hown hK hP hD hS 0 rfl rfl 2 (by decide) k_16 (fun _ h9 => h9) rfl hmn rfl (by decide +kernel) rfl rfl (Nat.le_of_ble_eq_true rfl) dX4_init_16 (fun H locs hP hD hS => ?_)
  have hP : va_P E.1 vwCl [(ko, .inr (4, [.int p1, .int p2, .ref a3]))] H := hP
  have hD : va_D A [(ko, .inr (4, [.int p1, .int p2, .ref a3]))] := hD
  refine W.widen (k := 0) (n := 0) (Nat.le_of_ble_eq_true rfl) (Nat.le_of_ble_eq_true rfl) ?_
  exact hret _ _ _ _ (fun j => [].getD j 0) trivial hP hD hS dX4_init_19
