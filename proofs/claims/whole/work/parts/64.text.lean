def wp_X6_text (eLn : Int32) (eKy : Int32) (eSo : Int32) (eBy : Nat → Int32) (eCo : Nat → Int32) (rTc : Int32) (rTx : Nat → Option Nat) (rLa : Nat → Int32) (LT : List Nat) (pk : Nat → Int32) (pv : Nat → Int32) (pa : Nat → Nat) (pn : Nat → Nat) (tc : Nat → Nat → Int32) (Q : Int32 → Int32 → Int32 → Int32 → Int32 → Int32 → Int32 → Int32 → Int32 → Int32 → Int32 → (Nat → Int32) → Int32 → (Nat → Option Nat) → (Nat → Int32) → (List Nat) → (Nat → Int32) → (Nat → Int32) → (Nat → Nat) → (Nat → Nat) → (Nat → Nat → Int32) → Prop) : Prop :=
  wp_X0_readTape eLn eKy eSo eBy eCo (fun (w_1 : Int32) (w_2 : Int32) (w_3 : Int32) (w_4 : Int32) (w_5 : Int32) (w_6 : Int32) (w_7 : Int32) (w_8 : Int32) (w_9 : Int32) (w_10 : Nat → Int32) => ((w_1 = (-1000000005) → ((rTc < 14 → ((¬ w_2 < 0 ∧ w_2.toNatClampNeg ≤ 96 ∧ ¬ w_2 = 96) ∧ (∀ (a_13 q_14 : Nat) (g_15 : Nat → Int32), (∀ j : Nat, j < w_2.toNatClampNeg → g_15 j = w_10 j) → a_13 ∉ LT → (a_13 ∈ (LT ++ [a_13]) ∧ wp_X1_appendText rTc rTx rLa (va_up pk a_13 w_3) a_13 (fun (r_19 : Int32) (w_20 : Int32) (w_21 : Nat → Option Nat) (w_22 : Nat → Int32) => Q r_19 0 w_1 w_2 w_3 w_4 w_5 w_6 w_7 w_8 w_9 w_10 w_20 w_21 w_22 (LT ++ [a_13]) (va_up pk a_13 w_3) (va_up pv a_13 w_4) (va_up pa a_13 q_14) (va_up pn a_13 (w_2.toNatClampNeg)) (va_up tc a_13 g_15)))))) ∧ (¬ (rTc < 14) → Q (-1000000003) 0 w_1 w_2 w_3 w_4 w_5 w_6 w_7 w_8 w_9 w_10 rTc rTx rLa LT pk pv pa pn tc))) ∧ (¬ (w_1 = (-1000000005)) → Q ((-100) - w_1) 0 w_1 w_2 w_3 w_4 w_5 w_6 w_7 w_8 w_9 w_10 rTc rTx rLa LT pk pv pa pn tc)))
set_option maxHeartbeats 4000000 in
set_option maxRecDepth 100000 in
theorem c_X6_text (l : Launch) (E : gE) (co ro jo qo yo eo cs cl cw eb ec rk rh rd rt rl rs : Nat) (sz : Nat) (cWs : Int32) (cKp : Int32) (eLn : Int32) (eFt : Int32) (eCc : Int32) (eKy : Int32) (eLv : Int32) (eOb : Int32) (eOn : Int32) (eSt : Int32) (eEd : Int32) (eSo : Int32) (eBy : Nat → Int32) (eCo : Nat → Int32) (rSz : Int32) (rTc : Int32) (rFa : Int32) (rPa : Int32) (rPy : Int32) (rMi : Int32) (rMe : Int32) (rSr : Int32) (rZ : Int32) (rKi : Nat → Int32) (rHe : Nat → Int32) (rDo : Nat → Int32) (rTx : Nat → Option Nat) (rLa : Nat → Int32) (rSk : Nat → Int32)  (LT : List Nat) (pk : Nat → Int32) (pv : Nat → Int32) (pa : Nat → Nat) (pn : Nat → Nat) (tc : Nat → Nat → Int32) (Q : Int32 → Int32 → Int32 → Int32 → Int32 → Int32 → Int32 → Int32 → Int32 → Int32 → Int32 → (Nat → Int32) → Int32 → (Nat → Option Nat) → (Nat → Int32) → (List Nat) → (Nat → Int32) → (Nat → Int32) → (Nat → Nat) → (Nat → Nat) → (Nat → Nat → Int32) → Prop) (h : wp_X6_text eLn eKy eSo eBy eCo rTc rTx rLa LT pk pv pa pn tc Q) : Met l yX6_text wsX6_text ({ frames := 128, cells := 2, slots := 99, locals := 3072 } : Room) (va_Pc [.ref co] (rc_B E (rw_25 E co ro jo qo yo eo cs cl cw eb ec rk rh rd rt rl rs cWs cKp eLn eFt eCc eKy eLv eOb eOn eSt eEd eSo eBy eCo rSz rTc rFa rPa rPy rMi rMe rSr rZ rKi rHe rDo rTx rLa rSk ++ rc_tp E LT pk pv pa pn tc) sz)) (va_Qi (S := Int32 × Int32 × Int32 × Int32 × Int32 × Int32 × Int32 × Int32 × Int32 × Int32 × (Nat → Int32) × Int32 × (Nat → Option Nat) × (Nat → Int32) × (List Nat) × (Nat → Int32) × (Nat → Int32) × (Nat → Nat) × (Nat → Nat) × (Nat → Nat → Int32)) (fun (r : Int32) (u : Int32 × Int32 × Int32 × Int32 × Int32 × Int32 × Int32 × Int32 × Int32 × Int32 × (Nat → Int32) × Int32 × (Nat → Option Nat) × (Nat → Int32) × (List Nat) × (Nat → Int32) × (Nat → Int32) × (Nat → Nat) × (Nat → Nat) × (Nat → Nat → Int32)) => Q r u.1 u.2.1 u.2.2.1 u.2.2.2.1 u.2.2.2.2.1 u.2.2.2.2.2.1 u.2.2.2.2.2.2.1 u.2.2.2.2.2.2.2.1 u.2.2.2.2.2.2.2.2.1 u.2.2.2.2.2.2.2.2.2.1 u.2.2.2.2.2.2.2.2.2.2.1 u.2.2.2.2.2.2.2.2.2.2.2.1 u.2.2.2.2.2.2.2.2.2.2.2.2.1 u.2.2.2.2.2.2.2.2.2.2.2.2.2.1 u.2.2.2.2.2.2.2.2.2.2.2.2.2.2.1 u.2.2.2.2.2.2.2.2.2.2.2.2.2.2.2.1 u.2.2.2.2.2.2.2.2.2.2.2.2.2.2.2.2.1 u.2.2.2.2.2.2.2.2.2.2.2.2.2.2.2.2.2.1 u.2.2.2.2.2.2.2.2.2.2.2.2.2.2.2.2.2.2.1 u.2.2.2.2.2.2.2.2.2.2.2.2.2.2.2.2.2.2.2) (fun u t => rc_C E (va_A (rw_25 E co ro jo qo yo eo cs cl cw eb ec rk rh rd rt rl rs cWs cKp eLn eFt eCc eKy eLv eOb eOn eSt eEd eSo eBy eCo rSz rTc rFa rPa rPy rMi rMe rSr rZ rKi rHe rDo rTx rLa rSk ++ rc_tp E LT pk pv pa pn tc) sz) (rw_25 E co ro jo qo yo eo cs cl cw eb ec rk rh rd rt rl rs cWs cKp u.1 u.2.1 u.2.2.1 u.2.2.2.1 u.2.2.2.2.1 u.2.2.2.2.2.1 u.2.2.2.2.2.2.1 u.2.2.2.2.2.2.2.1 u.2.2.2.2.2.2.2.2.1 u.2.2.2.2.2.2.2.2.2.1 eBy u.2.2.2.2.2.2.2.2.2.2.1 rSz u.2.2.2.2.2.2.2.2.2.2.2.1 rFa rPa rPy rMi rMe rSr rZ rKi rHe rDo u.2.2.2.2.2.2.2.2.2.2.2.2.1 u.2.2.2.2.2.2.2.2.2.2.2.2.2.1 rSk ++ rc_tp E u.2.2.2.2.2.2.2.2.2.2.2.2.2.2.1 u.2.2.2.2.2.2.2.2.2.2.2.2.2.2.2.1 u.2.2.2.2.2.2.2.2.2.2.2.2.2.2.2.2.1 u.2.2.2.2.2.2.2.2.2.2.2.2.2.2.2.2.2.1 u.2.2.2.2.2.2.2.2.2.2.2.2.2.2.2.2.2.2.1 u.2.2.2.2.2.2.2.2.2.2.2.2.2.2.2.2.2.2.2) t) (va_A (rw_25 E co ro jo qo yo eo cs cl cw eb ec rk rh rd rt rl rs cWs cKp eLn eFt eCc eKy eLv eOb eOn eSt eEd eSo eBy eCo rSz rTc rFa rPa rPy rMi rMe rSr rZ rKi rHe rDo rTx rLa rSk ++ rc_tp E LT pk pv pa pn tc) sz)) 2 99 (va_A (rw_25 E co ro jo qo yo eo cs cl cw eb ec rk rh rd rt rl rs cWs cKp eLn eFt eCc eKy eLv eOb eOn eSt eEd eSo eBy eCo rSz rTc rFa rPa rPy rMi rMe rSr rZ rKi rHe rDo rTx rLa rSk ++ rc_tp E LT pk pv pa pn tc) sz) := by
  refine rc_enterI (cc := cX6_text) (maxL := 1) (by decide) rfl (Nat.le_of_ble_eq_true rfl) ?_
  intro p e s m args below meth c QQ A hx hb hml hown hts hmn hE hP hD hA hret ls hl
  have hown : s.vm.findClass RX6 = some m.cls := hown
  have hK := hE.1
  have hS : va_S A s.heap s.heap [] := va_S.rf
  have hl : lv_has ls 1 [(0, .ref co)] := hl
  have n_X0 : ∀ w ∈ wsX00, w ∈ wsX6_text := fun _ h => List.mem_cons_of_mem _ (List.mem_append_left _ (List.mem_append_left _ (List.mem_append_right _ h)))
  have n_X1 : ∀ w ∈ wsX10, w ∈ wsX6_text := fun _ h => List.mem_cons_of_mem _ (List.mem_append_left _ (List.mem_append_right _ h))
  have n_X6 : ∀ w ∈ wsX60, w ∈ wsX6_text := fun _ h => List.mem_cons_of_mem _ (List.mem_append_left _ (List.mem_append_left _ (List.mem_append_left _ (List.mem_append_right _ h))))
  have k_32 := hts (.fieldLink RX6 32 "RidgeClaps" "reader" "LRidgeClaps$Reader;") (List.mem_of_getElem? (i := 1) rfl)
  have k_202 := hts (.fieldLink RX6 202 "RidgeClaps$Reader" "length" "I") (List.mem_of_getElem? (i := 2) rfl)
  have k_212 := hts (.fieldLink RX6 212 "RidgeClaps$Reader" "fault" "I") (List.mem_of_getElem? (i := 3) rfl)
  have k_130 := hts (.constant RX6 130 (-1000000005)) (List.mem_of_getElem? (i := 4) rfl)
  have k_10 := hts (.fieldLink RX6 10 "RidgeClaps" "ridge" "LRidgeClaps$Ridge;") (List.mem_of_getElem? (i := 5) rfl)
  have k_215 := hts (.fieldLink RX6 215 "RidgeClaps$Ridge" "textCount" "I") (List.mem_of_getElem? (i := 6) rfl)
  have k_74 := hts (.constant RX6 74 (-1000000003)) (List.mem_of_getElem? (i := 7) rfl)
  unfold wp_X6_text at h
  obtain ⟨H, hH⟩ : ∃ H, H = s.heap := ⟨_, rfl⟩
  obtain ⟨locs, hlocs⟩ : ∃ locs : List Loc, locs = [] := ⟨_, rfl⟩
  have hP : va_P E.1 vwCl (rw_25 E co ro jo qo yo eo cs cl cw eb ec rk rh rd rt rl rs cWs cKp eLn eFt eCc eKy eLv eOb eOn eSt eEd eSo eBy eCo rSz rTc rFa rPa rPy rMi rMe rSr rZ rKi rHe rDo rTx rLa rSk ++ rc_tp E LT pk pv pa pn tc) H := by rw [hH]; exact hP
  have hS : va_S A s.heap H locs := by rw [hH, hlocs]; exact hS
  suffices hgo : W p l e ({ frames := 128, cells := 2, slots := 99, locals := 3072 } : Room) s m args below meth c H locs 0 0 QQ (F0 m 0 ls []) from by rw [hH, hlocs] at hgo; exact hgo
  refine lv_aload_n hx hb dX6_text_0 rfl (lv_at hl 0 rfl) ?_
  refine va_get (D := E.1) (ci := 6) (v := .ref eo) (C := RX6) (T := TX6) (N := 10) hx hb hts n_X6 hown hK hP 0 rfl rfl 4 (by decide) k_32 (fun _ h9 => h9) rfl dX6_text_1 ?_
  have hPc := hP.sub (ws' := (rw_17 E eo eb ec eLn eFt eCc eKy eLv eOb eOn eSt eEd eSo eBy eCo)) [1, 2, 3] rfl
  have hDc := hD.sub (ws' := (rw_17 E eo eb ec eLn eFt eCc eKy eLv eOb eOn eSt eEd eSo eBy eCo)) [1, 2, 3] (by decide) rfl
  have hFc := va_free (wc := (rw_17 E eo eb ec eLn eFt eCc eKy eLv eOb eOn eSt eEd eSo eBy eCo)) hD hS hA [1, 2, 3] rfl
  refine va_callv (va_runV (As := []) (rest := []) ⟨hx, hb, hml, hown, hts⟩ (c_X0_readTape l E eo eb ec H.size eLn eFt eCc eKy eLv eOb eOn eSt eEd eSo eBy eCo _ h) (cwV 0 hts gX6_text_X0_readTape rfl rfl rfl (by decide +kernel) ⟨Nat.le_of_ble_eq_true rfl, Nat.le_of_ble_eq_true rfl⟩) ⟨fun a U g mk q => ⟨q.1, q.2.blind⟩, va_recv hK hPc (ci := 0) (q0 := 0) rfl rfl, fun U hU hW => ⟨rfl, by rw [hU], by rw [hU]; exact hPc, hE.call hS hFc hW hU, hDc.weaken (fun _ _ _ _ => trivial)⟩⟩ rfl rfl hl.1 rfl (lv_room (Nat.le_of_ble_eq_true rfl)) dX6_text_4 ⟨Nat.le_of_ble_eq_true rfl, Nat.le_of_ble_eq_true rfl⟩) hS (fun q _ h => hFc q h) hFc (fun u t H1 locs ht hvm h hB hz1 hk1 hS => ?_)
  obtain ⟨w_1, w_2, w_3, w_4, w_5, w_6, w_7, w_8, w_9, w_10⟩ := u
  obtain ⟨hP1, hD1⟩ := hB
  rw [ht] at hP1
  obtain ⟨hP, hD⟩ := rc_foc hP hD [1, 2, 3] [none, some 0, some 1, some 2, none, none, none, none, none, none, none] (by decide) rfl hk1 hP1 rfl
  generalize H1 = H at hP hS ⊢
  have hP : va_P E.1 vwCl (rw_25 E co ro jo qo yo eo cs cl cw eb ec rk rh rd rt rl rs cWs cKp eLn w_1 w_2 w_3 w_4 w_5 w_6 w_7 w_8 w_9 eBy w_10 rSz rTc rFa rPa rPy rMi rMe rSr rZ rKi rHe rDo rTx rLa rSk ++ rc_tp E LT pk pv pa pn tc) H := hP
  have hD : va_D A (rw_25 E co ro jo qo yo eo cs cl cw eb ec rk rh rd rt rl rs cWs cKp eLn w_1 w_2 w_3 w_4 w_5 w_6 w_7 w_8 w_9 eBy w_10 rSz rTc rFa rPa rPy rMi rMe rSr rZ rKi rHe rDo rTx rLa rSk ++ rc_tp E LT pk pv pa pn tc) := hD
  refine lv_aload_n hx hb dX6_text_7 rfl (lv_at hl 0 rfl) ?_
  refine va_get (D := E.1) (ci := 6) (v := .ref eo) (C := RX6) (T := TX6) (N := 10) hx hb hts n_X6 hown hK hP 0 rfl rfl 4 (by decide) k_32 (fun _ h9 => h9) rfl dX6_text_8 ?_
  refine lv_iconst (v := 0) hx hb dX6_text_11 (by decide) ?_
  refine va_put (D := E.1) (ci := 0) (v := .int 0) (ty := .int) (C := RX0) (T := TX0) (N := 12) hx hb hts n_X0 tyX0 tyX0_ok nmX0 hown hK hP hD hS 1 rfl rfl 1 (by decide) k_202 (fun _ h9 => h9) rfl (by decide +kernel) rfl rfl (Nat.le_of_ble_eq_true rfl) dX6_text_12 (fun H locs hP hD hS => ?_)
  have hP : va_P E.1 vwCl (rw_25 E co ro jo qo yo eo cs cl cw eb ec rk rh rd rt rl rs cWs cKp 0 w_1 w_2 w_3 w_4 w_5 w_6 w_7 w_8 w_9 eBy w_10 rSz rTc rFa rPa rPy rMi rMe rSr rZ rKi rHe rDo rTx rLa rSk ++ rc_tp E LT pk pv pa pn tc) H := hP
  have hD : va_D A (rw_25 E co ro jo qo yo eo cs cl cw eb ec rk rh rd rt rl rs cWs cKp 0 w_1 w_2 w_3 w_4 w_5 w_6 w_7 w_8 w_9 eBy w_10 rSz rTc rFa rPa rPy rMi rMe rSr rZ rKi rHe rDo rTx rLa rSk ++ rc_tp E LT pk pv pa pn tc) := hD
  refine lv_aload_n hx hb dX6_text_15 rfl (lv_at hl 0 rfl) ?_
  refine va_get (D := E.1) (ci := 6) (v := .ref eo) (C := RX6) (T := TX6) (N := 10) hx hb hts n_X6 hown hK hP 0 rfl rfl 4 (by decide) k_32 (fun _ h9 => h9) rfl dX6_text_16 ?_
  refine va_get (D := E.1) (ci := 0) (v := .int w_1) (C := RX0) (T := TX0) (N := 12) hx hb hts n_X0 hown hK hP 1 rfl rfl 2 (by decide) k_212 (fun _ h9 => h9) rfl dX6_text_19 ?_
  refine lv_ldc hx hb hown k_130 dX6_text_22 ?_
  refine lv_icmp_eq (tgt := 38) hx hb dX6_text_24 (by decide) (fun c_11 => ?_) (fun c_11 => ?_)
  · have h := h.1 c_11
    refine lv_aload_n hx hb dX6_text_38 rfl (lv_at hl 0 rfl) ?_
    refine va_get (D := E.1) (ci := 6) (v := .ref ro) (C := RX6) (T := TX6) (N := 10) hx hb hts n_X6 hown hK hP 0 rfl rfl 0 (by decide) k_10 (fun _ h9 => h9) rfl dX6_text_39 ?_
    refine va_get (D := E.1) (ci := 1) (v := .int rTc) (C := RX1) (T := TX1) (N := 15) hx hb hts n_X1 hown hK hP 4 rfl rfl 5 (by decide) k_215 (fun _ h9 => h9) rfl dX6_text_42 ?_
    refine lv_bipush (v := 14) hx hb dX6_text_45 (by decide) ?_
    refine lv_icmp_lt (tgt := 53) hx hb dX6_text_47 (by decide) (fun c_12 => ?_) (fun c_12 => ?_)
    · have h := h.1 c_12
      refine lv_aload_n hx hb dX6_text_53 rfl (lv_at hl 0 rfl) ?_
      refine va_get (D := E.1) (ci := 6) (v := .ref ro) (C := RX6) (T := TX6) (N := 10) hx hb hts n_X6 hown hK hP 0 rfl rfl 0 (by decide) k_10 (fun _ h9 => h9) rfl dX6_text_54 ?_
      refine lv_aload_n hx hb dX6_text_57 rfl (lv_at hl 0 rfl) ?_
      refine va_get (D := E.1) (ci := 6) (v := .ref eo) (C := RX6) (T := TX6) (N := 10) hx hb hts n_X6 hown hK hP 0 rfl rfl 4 (by decide) k_32 (fun _ h9 => h9) rfl dX6_text_58 ?_
      obtain ⟨o_17, h⟩ := h
      have hPc := hP.sub (ws' := (rw_17 E eo eb ec 0 w_1 w_2 w_3 w_4 w_5 w_6 w_7 w_8 w_9 eBy w_10)) [1, 2, 3] rfl
      have hDc := hD.sub (ws' := (rw_17 E eo eb ec 0 w_1 w_2 w_3 w_4 w_5 w_6 w_7 w_8 w_9 eBy w_10)) [1, 2, 3] (by decide) rfl
      have hFc := va_free (wc := (rw_17 E eo eb ec 0 w_1 w_2 w_3 w_4 w_5 w_6 w_7 w_8 w_9 eBy w_10)) hD hS hA [1, 2, 3] rfl
      refine va_callr (va_runV (As := []) (rest := [.ref ro]) ⟨hx, hb, hml, hown, hts⟩ (c_X0_textRead l E eo eb ec H.size 0 w_1 w_2 w_3 w_4 w_5 w_6 w_7 w_8 w_9 eBy w_10 o_17.1 o_17.2.1 o_17.2.2) (cwV 0 hts gX6_text_X0_textRead rfl rfl rfl (by decide +kernel) ⟨Nat.le_of_ble_eq_true rfl, Nat.le_of_ble_eq_true rfl⟩) ⟨fun a U g mk q => ⟨q.1, q.2.blind⟩, va_recv hK hPc (ci := 0) (q0 := 0) rfl rfl, fun U hU hW => ⟨rfl, by rw [hU], by rw [hU]; exact hPc, hE.call hS hFc hW hU, hDc.weaken (fun _ _ _ _ => trivial)⟩⟩ rfl rfl hl.1 rfl (lv_room (Nat.le_of_ble_eq_true rfl)) dX6_text_61 ⟨Nat.le_of_ble_eq_true rfl, Nat.le_of_ble_eq_true rfl⟩) hS (fun q _ h => hFc q h) hFc (fun u a_13 t H1 locs ht hvm hg hB hz1 hk1 hS => ?_)
      obtain ⟨q_14, g_15⟩ := u
      obtain ⟨hP1, hD1⟩ := hB
      rw [ht] at hP1
      obtain ⟨hP, hD⟩ := rc_focusN (w1 := (rw_17 E eo eb ec 0 w_1 w_2 w_3 w_4 w_5 w_6 w_7 w_8 w_9 eBy w_10)) (wn := [(a_13, .inr (4, [.int w_3, .int w_4, .ref q_14])), (q_14, .inl (E.2.1 0, w_2.toNatClampNeg, .inl g_15))]) hP hD [1, 2, 3] rfl hk1 hFc hP1 hD1 rfl
      generalize H1 = H at hP hS ⊢
      have hP : va_P E.1 vwCl ((rw_25 E co ro jo qo yo eo cs cl cw eb ec rk rh rd rt rl rs cWs cKp 0 w_1 w_2 w_3 w_4 w_5 w_6 w_7 w_8 w_9 eBy w_10 rSz rTc rFa rPa rPy rMi rMe rSr rZ rKi rHe rDo rTx rLa rSk ++ rc_tp E LT pk pv pa pn tc) ++ [(a_13, .inr (4, [.int w_3, .int w_4, .ref q_14])), (q_14, .inl (E.2.1 0, w_2.toNatClampNeg, .inl g_15))]) H := hP
      have hD : va_D A ((rw_25 E co ro jo qo yo eo cs cl cw eb ec rk rh rd rt rl rs cWs cKp 0 w_1 w_2 w_3 w_4 w_5 w_6 w_7 w_8 w_9 eBy w_10 rSz rTc rFa rPa rPy rMi rMe rSr rZ rKi rHe rDo rTx rLa rSk ++ rc_tp E LT pk pv pa pn tc) ++ [(a_13, .inr (4, [.int w_3, .int w_4, .ref q_14])), (q_14, .inl (E.2.1 0, w_2.toNatClampNeg, .inl g_15))]) := hD
      have n_16 : a_13 ∉ LT := rc_tp_fresh hD
      rw [rc_tp_push n_16] at hP hD
      have h := h a_13 q_14 g_15 hg n_16
      have hP : va_P E.1 vwCl (rw_25 E co ro jo qo yo eo cs cl cw eb ec rk rh rd rt rl rs cWs cKp 0 w_1 w_2 w_3 w_4 w_5 w_6 w_7 w_8 w_9 eBy w_10 rSz rTc rFa rPa rPy rMi rMe rSr rZ rKi rHe rDo rTx rLa rSk ++ rc_tp E (LT ++ [a_13]) (va_up pk a_13 w_3) (va_up pv a_13 w_4) (va_up pa a_13 q_14) (va_up pn a_13 (w_2.toNatClampNeg)) (va_up tc a_13 g_15)) H := hP
      have hD : va_D A (rw_25 E co ro jo qo yo eo cs cl cw eb ec rk rh rd rt rl rs cWs cKp 0 w_1 w_2 w_3 w_4 w_5 w_6 w_7 w_8 w_9 eBy w_10 rSz rTc rFa rPa rPy rMi rMe rSr rZ rKi rHe rDo rTx rLa rSk ++ rc_tp E (LT ++ [a_13]) (va_up pk a_13 w_3) (va_up pv a_13 w_4) (va_up pa a_13 q_14) (va_up pn a_13 (w_2.toNatClampNeg)) (va_up tc a_13 g_15)) := hD
      obtain ⟨m_18, h⟩ := h
      have hPc := hP.part (cx := (rw_4 E ro rk rh rd rt rl rs rSz rTc rFa rPa rPy rMi rMe rSr rZ rKi rHe rDo rTx rLa rSk)) [4, 5, 6, 7, 8, 9, 10] rfl
      have hDc := hD.part (cx := (rw_4 E ro rk rh rd rt rl rs rSz rTc rFa rPa rPy rMi rMe rSr rZ rKi rHe rDo rTx rLa rSk)) [4, 5, 6, 7, 8, 9, 10] (by decide) rfl
      have hFc := va_freeP (cx := (rw_4 E ro rk rh rd rt rl rs rSz rTc rFa rPa rPy rMi rMe rSr rZ rKi rHe rDo rTx rLa rSk)) hD hS hA [4, 5, 6, 7, 8, 9, 10] rfl
      refine va_calli (va_runV (As := [.ref a_13]) (rest := []) ⟨hx, hb, hml, hown, hts⟩ (c_X1_appendText l E ro rk rh rd rt rl rs a_13 H.size rSz rTc rFa rPa rPy rMi rMe rSr rZ rKi rHe rDo rTx rLa rSk (LT ++ [a_13]) (va_up pk a_13 w_3) (va_up pv a_13 w_4) (va_up pa a_13 q_14) (va_up pn a_13 (w_2.toNatClampNeg)) (va_up tc a_13 g_15) m_18 _ h) (cwV 1 hts gX6_text_X1_appendText rfl rfl rfl (by decide +kernel) ⟨Nat.le_of_ble_eq_true rfl, Nat.le_of_ble_eq_true rfl⟩) ⟨fun a U g mk q => ⟨q.1, q.2.blind⟩, va_recv hK hPc (ci := 1) (q0 := 0) rfl rfl, fun U hU hW => ⟨rfl, by rw [hU], by rw [hU]; exact hPc, hE.call hS hFc hW hU, hDc.weaken (fun _ _ _ _ => trivial)⟩⟩ rfl rfl hl.1 rfl (lv_room (Nat.le_of_ble_eq_true rfl)) dX6_text_64 ⟨Nat.le_of_ble_eq_true rfl, Nat.le_of_ble_eq_true rfl⟩) hS (fun q _ h => hFc q h) hFc (fun r_19 u t H1 locs ht hvm h hB hz1 hk1 hS => ?_)
      obtain ⟨w_20, w_21, w_22⟩ := u
      obtain ⟨hP1, hD1⟩ := hB
      rw [ht] at hP1
      obtain ⟨hP, hD⟩ := rc_focP hP hD [4, 5, 6, 7, 8, 9, 10] [none, none, none, none, some 0, some 1, some 2, some 3, some 4, some 5, some 6] (by decide) rfl rfl hk1 hP1 rfl
      generalize H1 = H at hP hS ⊢
      have hP : va_P E.1 vwCl (rw_25 E co ro jo qo yo eo cs cl cw eb ec rk rh rd rt rl rs cWs cKp 0 w_1 w_2 w_3 w_4 w_5 w_6 w_7 w_8 w_9 eBy w_10 rSz w_20 rFa rPa rPy rMi rMe rSr rZ rKi rHe rDo w_21 w_22 rSk ++ rc_tp E (LT ++ [a_13]) (va_up pk a_13 w_3) (va_up pv a_13 w_4) (va_up pa a_13 q_14) (va_up pn a_13 (w_2.toNatClampNeg)) (va_up tc a_13 g_15)) H := hP
      have hD : va_D A (rw_25 E co ro jo qo yo eo cs cl cw eb ec rk rh rd rt rl rs cWs cKp 0 w_1 w_2 w_3 w_4 w_5 w_6 w_7 w_8 w_9 eBy w_10 rSz w_20 rFa rPa rPy rMi rMe rSr rZ rKi rHe rDo w_21 w_22 rSk ++ rc_tp E (LT ++ [a_13]) (va_up pk a_13 w_3) (va_up pv a_13 w_4) (va_up pa a_13 q_14) (va_up pn a_13 (w_2.toNatClampNeg)) (va_up tc a_13 g_15)) := hD
      refine W.widen (k := 2) (n := 99) (Nat.le_of_ble_eq_true rfl) (Nat.le_of_ble_eq_true rfl) ?_
      exact hret _ _ _ _ r_19 (0, w_1, w_2, w_3, w_4, w_5, w_6, w_7, w_8, w_9, w_10, w_20, w_21, w_22, (LT ++ [a_13]), (va_up pk a_13 w_3), (va_up pv a_13 w_4), (va_up pa a_13 q_14), (va_up pn a_13 (w_2.toNatClampNeg)), (va_up tc a_13 g_15)) rfl h hP hD hS dX6_text_67
    · have h := h.2 c_12
      refine lv_ldc hx hb hown k_74 dX6_text_50 ?_
      refine W.widen (k := 2) (n := 99) (Nat.le_of_ble_eq_true rfl) (Nat.le_of_ble_eq_true rfl) ?_
      exact hret _ _ _ _ (-1000000003) (0, w_1, w_2, w_3, w_4, w_5, w_6, w_7, w_8, w_9, w_10, rTc, rTx, rLa, LT, pk, pv, pa, pn, tc) rfl h hP hD hS dX6_text_52
  · have h := h.2 c_11
    refine lv_bipush (v := (-100)) hx hb dX6_text_27 (by decide) ?_
    refine lv_aload_n hx hb dX6_text_29 rfl (lv_at hl 0 rfl) ?_
    refine va_get (D := E.1) (ci := 6) (v := .ref eo) (C := RX6) (T := TX6) (N := 10) hx hb hts n_X6 hown hK hP 0 rfl rfl 4 (by decide) k_32 (fun _ h9 => h9) rfl dX6_text_30 ?_
    refine va_get (D := E.1) (ci := 0) (v := .int w_1) (C := RX0) (T := TX0) (N := 12) hx hb hts n_X0 hown hK hP 1 rfl rfl 2 (by decide) k_212 (fun _ h9 => h9) rfl dX6_text_33 ?_
    refine lv_isub hx hb dX6_text_36 ?_
    refine W.widen (k := 2) (n := 99) (Nat.le_of_ble_eq_true rfl) (Nat.le_of_ble_eq_true rfl) ?_
    exact hret _ _ _ _ ((-100) - w_1) (0, w_1, w_2, w_3, w_4, w_5, w_6, w_7, w_8, w_9, w_10, rTc, rTx, rLa, LT, pk, pv, pa, pn, tc) rfl h hP hD hS dX6_text_37
