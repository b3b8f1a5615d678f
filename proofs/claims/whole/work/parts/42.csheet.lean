def wp_X3_takePlace (p1 : Int32) (p2 : Int32) (Q : Int32 → Int32 → Prop) : Prop :=
  Q p1 p2
set_option maxHeartbeats 4000000 in
set_option maxRecDepth 100000 in
theorem c_X3_takePlace (l : Launch) (E : gE) (zo xo xv : Nat) (sz : Nat) (zTh : Int32) (zKi : Int32) (zHe : Int32) (zNu : Int32) (xSo : Int32) (xSz : Int32) (xVl : Nat → Int32) (p1 p2 : Int32)  (Q : Int32 → Int32 → Prop) (h : wp_X3_takePlace p1 p2 Q) : Met l yX3_takePlace wsX3_takePlace ({ frames := 0, cells := 0, slots := 0, locals := 0 } : Room) (va_Pc [.ref zo, .int p1, .int p2] (rc_B E (rw_11 E zo xo xv zTh zKi zHe zNu xSo xSz xVl) sz)) (va_Qv (S := Int32 × Int32) (fun (u : Int32 × Int32) => Q u.1 u.2) (fun u t => rc_C E (va_A (rw_11 E zo xo xv zTh zKi zHe zNu xSo xSz xVl) sz) (rw_11 E zo xo xv zTh u.1 u.2 zNu xSo xSz xVl) t) (va_A (rw_11 E zo xo xv zTh zKi zHe zNu xSo xSz xVl) sz)) 0 0 (va_A (rw_11 E zo xo xv zTh zKi zHe zNu xSo xSz xVl) sz) := by
  refine rc_enterV (cc := cX3_takePlace) (maxL := 3) (by decide) rfl (Nat.le_of_ble_eq_true rfl) ?_
  intro p e s m args below meth c QQ A hx hb hml hown hts hmn hE hP hD hA hret ls hl
  have hown : s.vm.findClass RX3 = some m.cls := hown
  have hK := hE.1
  have hS : va_S A s.heap s.heap [] := va_S.rf
  have hl : lv_has ls 3 [(0, .ref zo), (1, .int p1), (2, .int p2)] := hl
  have n_X3 : ∀ w ∈ wsX30, w ∈ wsX3_takePlace := fun _ h => List.mem_cons_of_mem _ (List.mem_append_right _ h)
  have k_15 := hts (.fieldLink RX3 15 "RidgeClaps$Slot" "kind" "I") (List.mem_of_getElem? (i := 1) rfl)
  have k_18 := hts (.fieldLink RX3 18 "RidgeClaps$Slot" "height" "I") (List.mem_of_getElem? (i := 2) rfl)
  unfold wp_X3_takePlace at h
  obtain ⟨H, hH⟩ : ∃ H, H = s.heap := ⟨_, rfl⟩
  obtain ⟨locs, hlocs⟩ : ∃ locs : List Loc, locs = [] := ⟨_, rfl⟩
  have hP : va_P E.1 vwCl (rw_11 E zo xo xv zTh zKi zHe zNu xSo xSz xVl) H := by rw [hH]; exact hP
  have hS : va_S A s.heap H locs := by rw [hH, hlocs]; exact hS
  suffices hgo : W p l e ({ frames := 0, cells := 0, slots := 0, locals := 0 } : Room) s m args below meth c H locs 0 0 QQ (F0 m 0 ls []) from by rw [hH, hlocs] at hgo; exact hgo
  refine lv_aload_n hx hb dX3_takePlace_0 rfl (lv_at hl 0 rfl) ?_
  refine lv_iload_n hx hb dX3_takePlace_1 rfl (lv_at hl 1 rfl) ?_
  refine va_put (D := E.1) (ci := 3) (v := .int p1) (ty := .int) (C := RX3) (T := TX3) (N := 5) hx hb hts n_X3 tyX3 tyX3_ok nmX3 hown hK hP hD hS 0 rfl rfl 1 (by decide) k_15 (fun _ h9 => h9) rfl (by decide +kernel) rfl rfl (Nat.le_of_ble_eq_true rfl) dX3_takePlace_2 (fun H locs hP hD hS => ?_)
  have hP : va_P E.1 vwCl (rw_11 E zo xo xv zTh p1 zHe zNu xSo xSz xVl) H := hP
  have hD : va_D A (rw_11 E zo xo xv zTh p1 zHe zNu xSo xSz xVl) := hD
  refine lv_aload_n hx hb dX3_takePlace_5 rfl (lv_at hl 0 rfl) ?_
  refine lv_iload_n hx hb dX3_takePlace_6 rfl (lv_at hl 2 rfl) ?_
  refine va_put (D := E.1) (ci := 3) (v := .int p2) (ty := .int) (C := RX3) (T := TX3) (N := 5) hx hb hts n_X3 tyX3 tyX3_ok nmX3 hown hK hP hD hS 0 rfl rfl 2 (by decide) k_18 (fun _ h9 => h9) rfl (by decide +kernel) rfl rfl (Nat.le_of_ble_eq_true rfl) dX3_takePlace_7 (fun H locs hP hD hS => ?_)
  have hP : va_P E.1 vwCl (rw_11 E zo xo xv zTh p1 p2 zNu xSo xSz xVl) H := hP
  have hD : va_D A (rw_11 E zo xo xv zTh p1 p2 zNu xSo xSz xVl) := hD
  exact hret _ _ _ _ (p1, p2) h hP hD hS dX3_takePlace_10
def wp_X6_claps (p1 : Int32) (p2 : Int32) (cSh : Nat → Option Nat) (wSo : Int32) (wSz : Int32) (wVl : Nat → Int32) (wo : Nat) (Q : Int32 → Prop) : Prop :=
  wp_X6_isSheet p1 (fun (r_1 : Int32) => ((r_1 = 0 → Q (-1000000001)) ∧ (¬ (r_1 = 0) → wp_X6_within p2 0 3 (fun (r_3 : Int32) => ((¬ r_3 = 0 → (vp_in p1 4 ∧ (cSh p1.toNatClampNeg = some wo ∧ wp_X2_isMissing wSo (fun (r_7 : Int32) => ((r_7 = 0 → wp_X2_firstNumber wSz wVl (fun (r_9 : Int32) => ((¬ r_9 = (-1000000005) → ((p2 = 0 → wp_X2_howFar wSz wVl (fun (r_12 : Int32) => Q r_12)) ∧ ((p2 = 1 → wp_X2_comes wSz wVl (fun (r_13 : Int32) => Q r_13)) ∧ ((p2 = 2 → wp_X2_explainingPace wSz wVl (fun (r_14 : Int32) => Q r_14)) ∧ (¬ p2 = 0 ∧ ¬ p2 = 1 ∧ ¬ p2 = 2 → wp_X2_explainingPace wSz wVl (fun (r_15 : Int32) => wp_X2_differences r_15 wSz wVl (fun (r_16 : Int32) => Q r_16))))))) ∧ (r_9 = (-1000000005) → Q (-1000000005))))) ∧ (¬ (r_7 = 0) → Q (-1000000011))))))) ∧ (r_3 = 0 → Q (-1000000001)))))))
set_option maxHeartbeats 4000000 in
set_option maxRecDepth 100000 in
theorem c_X6_claps (l : Launch) (E : gE) (co ro jo qo yo eo cs cl cw wo wv : Nat) (sz : Nat) (cWs : Int32) (cKp : Int32) (cSh : Nat → Option Nat) (wSo : Int32) (wSz : Int32) (wVl : Nat → Int32) (p1 p2 : Int32)  (Q : Int32 → Prop) (h : wp_X6_claps p1 p2 cSh wSo wSz wVl wo Q) : Met l yX6_claps wsX6_claps ({ frames := 4, cells := 0, slots := 0, locals := 111 } : Room) (va_Pc [.ref co, .int p1, .int p2] (rc_B E (rw_12 E co ro jo qo yo eo cs cl cw wo wv cWs cKp cSh wSo wSz wVl) sz)) (va_Qi (S := Unit) (fun (r : Int32) (u : Unit) => Q r) (fun u t => rc_C E (va_A (rw_12 E co ro jo qo yo eo cs cl cw wo wv cWs cKp cSh wSo wSz wVl) sz) (rw_12 E co ro jo qo yo eo cs cl cw wo wv cWs cKp cSh wSo wSz wVl) t) (va_A (rw_12 E co ro jo qo yo eo cs cl cw wo wv cWs cKp cSh wSo wSz wVl) sz)) 0 0 (va_A (rw_12 E co ro jo qo yo eo cs cl cw wo wv cWs cKp cSh wSo wSz wVl) sz) := by
  refine rc_enterI (cc := cX6_claps) (maxL := 4) (by decide) rfl (Nat.le_of_ble_eq_true rfl) ?_
  intro p e s m args below meth c QQ A hx hb hml hown hts hmn hE hP hD hA hret ls hl
  have hown : s.vm.findClass RX6 = some m.cls := hown
  have hK := hE.1
  have hS : va_S A s.heap s.heap [] := va_S.rf
  have hl : lv_has ls 4 [(0, .ref co), (1, .int p1), (2, .int p2)] := hl
  have n_X6 : ∀ w ∈ wsX60, w ∈ wsX6_claps := fun _ h => List.mem_cons_of_mem _ (List.mem_append_left _ (List.mem_append_right _ h))
  have k_70 := hts (.constant RX6 70 (-1000000001)) (List.mem_of_getElem? (i := 1) rfl)
  have k_38 := hts (.fieldLink RX6 38 "RidgeClaps" "sheets" "[LRidgeClaps$Row;") (List.mem_of_getElem? (i := 2) rfl)
  have k_130 := hts (.constant RX6 130 (-1000000005)) (List.mem_of_getElem? (i := 4) rfl)
  have k_182 := hts (.constant RX6 182 (-1000000011)) (List.mem_of_getElem? (i := 3) rfl)
  unfold wp_X6_claps at h
  obtain ⟨H, hH⟩ : ∃ H, H = s.heap := ⟨_, rfl⟩
  obtain ⟨locs, hlocs⟩ : ∃ locs : List Loc, locs = [] := ⟨_, rfl⟩
  have hP : va_P E.1 vwCl (rw_12 E co ro jo qo yo eo cs cl cw wo wv cWs cKp cSh wSo wSz wVl) H := by rw [hH]; exact hP
  have hS : va_S A s.heap H locs := by rw [hH, hlocs]; exact hS
  suffices hgo : W p l e ({ frames := 4, cells := 0, slots := 0, locals := 111 } : Room) s m args below meth c H locs 0 0 QQ (F0 m 0 ls []) from by rw [hH, hlocs] at hgo; exact hgo
  refine lv_iload_n hx hb dX6_claps_0 rfl (lv_at hl 1 rfl) ?_
  have hPc := hP.sub (ws' := []) [] rfl
  have hDc := hD.sub (ws' := []) [] (by decide) rfl
  have hFc := va_free (wc := []) hD hS hA [] rfl
  refine va_calli (va_runS (As := [.int p1]) (rest := []) ⟨hx, hb, hml, hown, hts⟩ (c_X6_isSheet l E H.size p1 _ h) (va_cwS 1 hts gX6_claps_X6_isSheet rfl rfl rfl (by decide +kernel) ⟨Nat.le_of_ble_eq_true rfl, Nat.le_of_ble_eq_true rfl⟩) ⟨fun a U g mk q => ⟨q.1, q.2.blind⟩, fun U hU hW => ⟨rfl, by rw [hU], by rw [hU]; exact hPc, hE.call hS hFc hW hU, hDc.weaken (fun _ _ _ _ => trivial)⟩⟩ rfl rfl hl.1 rfl (lv_room (Nat.le_of_ble_eq_true rfl)) dX6_claps_1 ⟨Nat.zero_le _, Nat.zero_le _⟩) hS (fun q _ h => hFc q h) hFc (fun r_1 u t H1 locs ht hvm h hB hz1 hk1 hS => ?_)
  obtain ⟨hP1, hD1⟩ := hB
  rw [ht] at hP1
  obtain ⟨hP, hD⟩ := rc_foc hP hD [] [none, none, none, none] (by decide) rfl hk1 hP1 rfl
  generalize H1 = H at hP hS ⊢
  have hP : va_P E.1 vwCl (rw_12 E co ro jo qo yo eo cs cl cw wo wv cWs cKp cSh wSo wSz wVl) H := hP
  have hD : va_D A (rw_12 E co ro jo qo yo eo cs cl cw wo wv cWs cKp cSh wSo wSz wVl) := hD
  refine lv_if_eq (tgt := 16) hx hb dX6_claps_4 (by decide) (fun c_2 => ?_) (fun c_2 => ?_)
  · have h := h.1 c_2
    refine lv_ldc hx hb hown k_70 dX6_claps_16 ?_
    exact hret _ _ _ _ (-1000000001) () rfl h hP hD hS dX6_claps_18
  · have h := h.2 c_2
    refine lv_iload_n hx hb dX6_claps_7 rfl (lv_at hl 2 rfl) ?_
    refine lv_iconst (v := 0) hx hb dX6_claps_8 (by decide) ?_
    refine lv_iconst (v := 3) hx hb dX6_claps_9 (by decide) ?_
    have hPc := hP.sub (ws' := []) [] rfl
    have hDc := hD.sub (ws' := []) [] (by decide) rfl
    have hFc := va_free (wc := []) hD hS hA [] rfl
    refine va_calli (va_runS (As := [.int p2, .int 0, .int 3]) (rest := []) ⟨hx, hb, hml, hown, hts⟩ (c_X6_within l E H.size p2 0 3 _ h) (va_cwS 3 hts gX6_claps_X6_within rfl rfl rfl (by decide +kernel) ⟨Nat.le_of_ble_eq_true rfl, Nat.le_of_ble_eq_true rfl⟩) ⟨fun a U g mk q => ⟨q.1, q.2.blind⟩, fun U hU hW => ⟨rfl, by rw [hU], by rw [hU]; exact hPc, hE.call hS hFc hW hU, hDc.weaken (fun _ _ _ _ => trivial)⟩⟩ rfl rfl hl.1 rfl (lv_room (Nat.le_of_ble_eq_true rfl)) dX6_claps_10 ⟨Nat.zero_le _, Nat.zero_le _⟩) hS (fun q _ h => hFc q h) hFc (fun r_3 u t H1 locs ht hvm h hB hz1 hk1 hS => ?_)
    obtain ⟨hP1, hD1⟩ := hB
    rw [ht] at hP1
    obtain ⟨hP, hD⟩ := rc_foc hP hD [] [none, none, none, none] (by decide) rfl hk1 hP1 rfl
    generalize H1 = H at hP hS ⊢
    have hP : va_P E.1 vwCl (rw_12 E co ro jo qo yo eo cs cl cw wo wv cWs cKp cSh wSo wSz wVl) H := hP
    have hD : va_D A (rw_12 E co ro jo qo yo eo cs cl cw wo wv cWs cKp cSh wSo wSz wVl) := hD
    refine lv_if_ne (tgt := 19) hx hb dX6_claps_13 (by decide) (fun c_4 => ?_) (fun c_4 => ?_)
    · have h := h.1 c_4
      refine lv_aload_n hx hb dX6_claps_19 rfl (lv_at hl 0 rfl) ?_
      refine va_get (D := E.1) (ci := 6) (v := .ref cs) (C := RX6) (T := TX6) (N := 10) hx hb hts n_X6 hown hK hP 0 rfl rfl 5 (by decide) k_38 (fun _ h9 => h9) rfl dX6_claps_20 ?_
      refine lv_iload_n hx hb dX6_claps_23 rfl (lv_at hl 1 rfl) ?_
      obtain ⟨o_5, h⟩ := h
      refine va_aldq hx hb hK hP 1 3 rfl rfl o_5 dX6_claps_24 ?_
      obtain ⟨s_6, h⟩ := h
      refine W.eq (g2 := F0 m 25 ls [.ref wo]) (by rw [s_6]; rfl) ?_
      refine lv_astore_n (lv' := [(3, .ref wo), (0, .ref co), (1, .int p1), (2, .int p2)]) hx hb dX6_claps_25 rfl hl (by decide) rfl (fun ls hl => ?_)
      refine lv_aload_n hx hb dX6_claps_26 rfl (lv_at hl 0 rfl) ?_
      have hPc := hP.sub (ws' := (rw_1 E wo wv wSo wSz wVl)) [2, 3] rfl
      have hDc := hD.sub (ws' := (rw_1 E wo wv wSo wSz wVl)) [2, 3] (by decide) rfl
      have hFc := va_free (wc := (rw_1 E wo wv wSo wSz wVl)) hD hS hA [2, 3] rfl
      refine va_calli (va_runV (As := []) (rest := []) ⟨hx, hb, hml, hown, hts⟩ (c_X2_isMissing l E wo wv H.size wSo wSz wVl _ h) (cwV 0 hts gX6_claps_X2_isMissing rfl rfl rfl (by decide +kernel) ⟨Nat.le_of_ble_eq_true rfl, Nat.le_of_ble_eq_true rfl⟩) ⟨fun a U g mk q => ⟨q.1, q.2.blind⟩, va_recv hK hPc (ci := 2) (q0 := 0) rfl rfl, fun U hU hW => ⟨rfl, by rw [hU], by rw [hU]; exact hPc, hE.call hS hFc hW hU, hDc.weaken (fun _ _ _ _ => trivial)⟩⟩ rfl rfl hl.1 rfl (lv_room (Nat.le_of_ble_eq_true rfl)) dX6_claps_27 ⟨Nat.zero_le _, Nat.zero_le _⟩) hS (fun q _ h => hFc q h) hFc (fun r_7 u t H1 locs ht hvm h hB hz1 hk1 hS => ?_)
      obtain ⟨hP1, hD1⟩ := hB
      rw [ht] at hP1
      obtain ⟨hP, hD⟩ := rc_foc hP hD [2, 3] [none, none, some 0, some 1] (by decide) rfl hk1 hP1 rfl
      generalize H1 = H at hP hS ⊢
      have hP : va_P E.1 vwCl (rw_12 E co ro jo qo yo eo cs cl cw wo wv cWs cKp cSh wSo wSz wVl) H := hP
      have hD : va_D A (rw_12 E co ro jo qo yo eo cs cl cw wo wv cWs cKp cSh wSo wSz wVl) := hD
      refine lv_if_eq (tgt := 36) hx hb dX6_claps_30 (by decide) (fun c_8 => ?_) (fun c_8 => ?_)
      · have h := h.1 c_8
        refine lv_aload_n hx hb dX6_claps_36 rfl (lv_at hl 0 rfl) ?_
        have hPc := hP.sub (ws' := (rw_1 E wo wv wSo wSz wVl)) [2, 3] rfl
        have hDc := hD.sub (ws' := (rw_1 E wo wv wSo wSz wVl)) [2, 3] (by decide) rfl
        have hFc := va_free (wc := (rw_1 E wo wv wSo wSz wVl)) hD hS hA [2, 3] rfl
        refine va_calli (va_runV (As := []) (rest := []) ⟨hx, hb, hml, hown, hts⟩ (c_X2_firstNumber l E wo wv H.size wSo wSz wVl _ h) (cwV 0 hts gX6_claps_X2_firstNumber rfl rfl rfl (by decide +kernel) ⟨Nat.le_of_ble_eq_true rfl, Nat.le_of_ble_eq_true rfl⟩) ⟨fun a U g mk q => ⟨q.1, q.2.blind⟩, va_recv hK hPc (ci := 2) (q0 := 0) rfl rfl, fun U hU hW => ⟨rfl, by rw [hU], by rw [hU]; exact hPc, hE.call hS hFc hW hU, hDc.weaken (fun _ _ _ _ => trivial)⟩⟩ rfl rfl hl.1 rfl (lv_room (Nat.le_of_ble_eq_true rfl)) dX6_claps_37 ⟨Nat.zero_le _, Nat.zero_le _⟩) hS (fun q _ h => hFc q h) hFc (fun r_9 u t H1 locs ht hvm h hB hz1 hk1 hS => ?_)
        obtain ⟨hP1, hD1⟩ := hB
        rw [ht] at hP1
        obtain ⟨hP, hD⟩ := rc_foc hP hD [2, 3] [none, none, some 0, some 1] (by decide) rfl hk1 hP1 rfl
        generalize H1 = H at hP hS ⊢
        have hP : va_P E.1 vwCl (rw_12 E co ro jo qo yo eo cs cl cw wo wv cWs cKp cSh wSo wSz wVl) H := hP
        have hD : va_D A (rw_12 E co ro jo qo yo eo cs cl cw wo wv cWs cKp cSh wSo wSz wVl) := hD
        refine lv_ldc hx hb hown k_130 dX6_claps_40 ?_
        refine lv_icmp_ne (tgt := 48) hx hb dX6_claps_42 (by decide) (fun c_10 => ?_) (fun c_10 => ?_)
        · have h := h.1 c_10
          refine lv_iload_n hx hb dX6_claps_48 rfl (lv_at hl 3 rfl) ?_
          by_cases c_11_0 : p2 = 0
          · have h := h.1 c_11_0
            refine lv_tableIn (tgt := 76) hx hb dX6_claps_49 (by rw [c_11_0]; decide) (by rw [c_11_0]; decide) (by rw [c_11_0]; rfl) (by decide) ?_
            refine lv_aload_n hx hb dX6_claps_76 rfl (lv_at hl 0 rfl) ?_
            have hPc := hP.sub (ws' := (rw_1 E wo wv wSo wSz wVl)) [2, 3] rfl
            have hDc := hD.sub (ws' := (rw_1 E wo wv wSo wSz wVl)) [2, 3] (by decide) rfl
            have hFc := va_free (wc := (rw_1 E wo wv wSo wSz wVl)) hD hS hA [2, 3] rfl
            refine va_calli (va_runV (As := []) (rest := []) ⟨hx, hb, hml, hown, hts⟩ (c_X2_howFar l E wo wv H.size wSo wSz wVl _ h) (cwV 0 hts gX6_claps_X2_howFar rfl rfl rfl (by decide +kernel) ⟨Nat.le_of_ble_eq_true rfl, Nat.le_of_ble_eq_true rfl⟩) ⟨fun a U g mk q => ⟨q.1, q.2.blind⟩, va_recv hK hPc (ci := 2) (q0 := 0) rfl rfl, fun U hU hW => ⟨rfl, by rw [hU], by rw [hU]; exact hPc, hE.call hS hFc hW hU, hDc.weaken (fun _ _ _ _ => trivial)⟩⟩ rfl rfl hl.1 rfl (lv_room (Nat.le_of_ble_eq_true rfl)) dX6_claps_77 ⟨Nat.zero_le _, Nat.zero_le _⟩) hS (fun q _ h => hFc q h) hFc (fun r_12 u t H1 locs ht hvm h hB hz1 hk1 hS => ?_)
            obtain ⟨hP1, hD1⟩ := hB
            rw [ht] at hP1
            obtain ⟨hP, hD⟩ := rc_foc hP hD [2, 3] [none, none, some 0, some 1] (by decide) rfl hk1 hP1 rfl
            generalize H1 = H at hP hS ⊢
            have hP : va_P E.1 vwCl (rw_12 E co ro jo qo yo eo cs cl cw wo wv cWs cKp cSh wSo wSz wVl) H := hP
            have hD : va_D A (rw_12 E co ro jo qo yo eo cs cl cw wo wv cWs cKp cSh wSo wSz wVl) := hD
            exact hret _ _ _ _ r_12 () rfl h hP hD hS dX6_claps_80
          · by_cases c_11_1 : p2 = 1
            · have h := h.2.1 c_11_1
              refine lv_tableIn (tgt := 81) hx hb dX6_claps_49 (by rw [c_11_1]; decide) (by rw [c_11_1]; decide) (by rw [c_11_1]; rfl) (by decide) ?_
              refine lv_aload_n hx hb dX6_claps_81 rfl (lv_at hl 0 rfl) ?_
              have hPc := hP.sub (ws' := (rw_1 E wo wv wSo wSz wVl)) [2, 3] rfl
              have hDc := hD.sub (ws' := (rw_1 E wo wv wSo wSz wVl)) [2, 3] (by decide) rfl
              have hFc := va_free (wc := (rw_1 E wo wv wSo wSz wVl)) hD hS hA [2, 3] rfl
              refine va_calli (va_runV (As := []) (rest := []) ⟨hx, hb, hml, hown, hts⟩ (c_X2_comes l E wo wv H.size wSo wSz wVl _ h) (cwV 0 hts gX6_claps_X2_comes rfl rfl rfl (by decide +kernel) ⟨Nat.le_of_ble_eq_true rfl, Nat.le_of_ble_eq_true rfl⟩) ⟨fun a U g mk q => ⟨q.1, q.2.blind⟩, va_recv hK hPc (ci := 2) (q0 := 0) rfl rfl, fun U hU hW => ⟨rfl, by rw [hU], by rw [hU]; exact hPc, hE.call hS hFc hW hU, hDc.weaken (fun _ _ _ _ => trivial)⟩⟩ rfl rfl hl.1 rfl (lv_room (Nat.le_of_ble_eq_true rfl)) dX6_claps_82 ⟨Nat.zero_le _, Nat.zero_le _⟩) hS (fun q _ h => hFc q h) hFc (fun r_13 u t H1 locs ht hvm h hB hz1 hk1 hS => ?_)
              obtain ⟨hP1, hD1⟩ := hB
              rw [ht] at hP1
              obtain ⟨hP, hD⟩ := rc_foc hP hD [2, 3] [none, none, some 0, some 1] (by decide) rfl hk1 hP1 rfl
              generalize H1 = H at hP hS ⊢
              have hP : va_P E.1 vwCl (rw_12 E co ro jo qo yo eo cs cl cw wo wv cWs cKp cSh wSo wSz wVl) H := hP
              have hD : va_D A (rw_12 E co ro jo qo yo eo cs cl cw wo wv cWs cKp cSh wSo wSz wVl) := hD
              exact hret _ _ _ _ r_13 () rfl h hP hD hS dX6_claps_85
            · by_cases c_11_2 : p2 = 2
              · have h := h.2.2.1 c_11_2
                refine lv_tableIn (tgt := 86) hx hb dX6_claps_49 (by rw [c_11_2]; decide) (by rw [c_11_2]; decide) (by rw [c_11_2]; rfl) (by decide) ?_
                refine lv_aload_n hx hb dX6_claps_86 rfl (lv_at hl 0 rfl) ?_
                have hPc := hP.sub (ws' := (rw_1 E wo wv wSo wSz wVl)) [2, 3] rfl
                have hDc := hD.sub (ws' := (rw_1 E wo wv wSo wSz wVl)) [2, 3] (by decide) rfl
                have hFc := va_free (wc := (rw_1 E wo wv wSo wSz wVl)) hD hS hA [2, 3] rfl
                refine va_calli (va_runV (As := []) (rest := []) ⟨hx, hb, hml, hown, hts⟩ (c_X2_explainingPace l E wo wv H.size wSo wSz wVl _ h) (cwV 0 hts gX6_claps_X2_explainingPace rfl rfl rfl (by decide +kernel) ⟨Nat.le_of_ble_eq_true rfl, Nat.le_of_ble_eq_true rfl⟩) ⟨fun a U g mk q => ⟨q.1, q.2.blind⟩, va_recv hK hPc (ci := 2) (q0 := 0) rfl rfl, fun U hU hW => ⟨rfl, by rw [hU], by rw [hU]; exact hPc, hE.call hS hFc hW hU, hDc.weaken (fun _ _ _ _ => trivial)⟩⟩ rfl rfl hl.1 rfl (lv_room (Nat.le_of_ble_eq_true rfl)) dX6_claps_87 ⟨Nat.zero_le _, Nat.zero_le _⟩) hS (fun q _ h => hFc q h) hFc (fun r_14 u t H1 locs ht hvm h hB hz1 hk1 hS => ?_)
                obtain ⟨hP1, hD1⟩ := hB
                rw [ht] at hP1
                obtain ⟨hP, hD⟩ := rc_foc hP hD [2, 3] [none, none, some 0, some 1] (by decide) rfl hk1 hP1 rfl
                generalize H1 = H at hP hS ⊢
                have hP : va_P E.1 vwCl (rw_12 E co ro jo qo yo eo cs cl cw wo wv cWs cKp cSh wSo wSz wVl) H := hP
                have hD : va_D A (rw_12 E co ro jo qo yo eo cs cl cw wo wv cWs cKp cSh wSo wSz wVl) := hD
                exact hret _ _ _ _ r_14 () rfl h hP hD hS dX6_claps_90
              · have h := h.2.2.2 ⟨c_11_0, c_11_1, c_11_2⟩
                refine lv_tableOut (tgt := 91) hx hb dX6_claps_49 (rc_swo (0) 3 (fun k hk => by match k, hk with | 0, _ => exact lv_neT c_11_0 (by decide) | 1, _ => exact lv_neT c_11_1 (by decide) | 2, _ => exact lv_neT c_11_2 (by decide))) (by decide) ?_
                refine lv_aload_n hx hb dX6_claps_91 rfl (lv_at hl 0 rfl) ?_
                refine lv_aload_n hx hb dX6_claps_92 rfl (lv_at hl 0 rfl) ?_
                have hPc := hP.sub (ws' := (rw_1 E wo wv wSo wSz wVl)) [2, 3] rfl
                have hDc := hD.sub (ws' := (rw_1 E wo wv wSo wSz wVl)) [2, 3] (by decide) rfl
                have hFc := va_free (wc := (rw_1 E wo wv wSo wSz wVl)) hD hS hA [2, 3] rfl
                refine va_calli (va_runV (As := []) (rest := [.ref wo]) ⟨hx, hb, hml, hown, hts⟩ (c_X2_explainingPace l E wo wv H.size wSo wSz wVl _ h) (cwV 0 hts gX6_claps_X2_explainingPace rfl rfl rfl (by decide +kernel) ⟨Nat.le_of_ble_eq_true rfl, Nat.le_of_ble_eq_true rfl⟩) ⟨fun a U g mk q => ⟨q.1, q.2.blind⟩, va_recv hK hPc (ci := 2) (q0 := 0) rfl rfl, fun U hU hW => ⟨rfl, by rw [hU], by rw [hU]; exact hPc, hE.call hS hFc hW hU, hDc.weaken (fun _ _ _ _ => trivial)⟩⟩ rfl rfl hl.1 rfl (lv_room (Nat.le_of_ble_eq_true rfl)) dX6_claps_93 ⟨Nat.zero_le _, Nat.zero_le _⟩) hS (fun q _ h => hFc q h) hFc (fun r_15 u t H1 locs ht hvm h hB hz1 hk1 hS => ?_)
                obtain ⟨hP1, hD1⟩ := hB
                rw [ht] at hP1
                obtain ⟨hP, hD⟩ := rc_foc hP hD [2, 3] [none, none, some 0, some 1] (by decide) rfl hk1 hP1 rfl
                generalize H1 = H at hP hS ⊢
                have hP : va_P E.1 vwCl (rw_12 E co ro jo qo yo eo cs cl cw wo wv cWs cKp cSh wSo wSz wVl) H := hP
                have hD : va_D A (rw_12 E co ro jo qo yo eo cs cl cw wo wv cWs cKp cSh wSo wSz wVl) := hD
                have hPc := hP.sub (ws' := (rw_1 E wo wv wSo wSz wVl)) [2, 3] rfl
                have hDc := hD.sub (ws' := (rw_1 E wo wv wSo wSz wVl)) [2, 3] (by decide) rfl
                have hFc := va_free (wc := (rw_1 E wo wv wSo wSz wVl)) hD hS hA [2, 3] rfl
                refine va_calli (va_runV (As := [.int r_15]) (rest := []) ⟨hx, hb, hml, hown, hts⟩ (c_X2_differences l E wo wv H.size wSo wSz wVl r_15 _ h) (cwV 1 hts gX6_claps_X2_differences rfl rfl rfl (by decide +kernel) ⟨Nat.le_of_ble_eq_true rfl, Nat.le_of_ble_eq_true rfl⟩) ⟨fun a U g mk q => ⟨q.1, q.2.blind⟩, va_recv hK hPc (ci := 2) (q0 := 0) rfl rfl, fun U hU hW => ⟨rfl, by rw [hU], by rw [hU]; exact hPc, hE.call hS hFc hW hU, hDc.weaken (fun _ _ _ _ => trivial)⟩⟩ rfl rfl hl.1 rfl (lv_room (Nat.le_of_ble_eq_true rfl)) dX6_claps_96 ⟨Nat.zero_le _, Nat.zero_le _⟩) hS (fun q _ h => hFc q h) hFc (fun r_16 u t H1 locs ht hvm h hB hz1 hk1 hS => ?_)
                obtain ⟨hP1, hD1⟩ := hB
                rw [ht] at hP1
                obtain ⟨hP, hD⟩ := rc_foc hP hD [2, 3] [none, none, some 0, some 1] (by decide) rfl hk1 hP1 rfl
                generalize H1 = H at hP hS ⊢
                have hP : va_P E.1 vwCl (rw_12 E co ro jo qo yo eo cs cl cw wo wv cWs cKp cSh wSo wSz wVl) H := hP
                have hD : va_D A (rw_12 E co ro jo qo yo eo cs cl cw wo wv cWs cKp cSh wSo wSz wVl) := hD
                exact hret _ _ _ _ r_16 () rfl h hP hD hS dX6_claps_99
        · have h := h.2 c_10
          refine lv_ldc hx hb hown k_130 dX6_claps_45 ?_
          exact hret _ _ _ _ (-1000000005) () rfl h hP hD hS dX6_claps_47
      · have h := h.2 c_8
        refine lv_ldc hx hb hown k_182 dX6_claps_33 ?_
        exact hret _ _ _ _ (-1000000011) () rfl h hP hD hS dX6_claps_35
    · have h := h.2 c_4
      refine lv_ldc hx hb hown k_70 dX6_claps_16 ?_
      exact hret _ _ _ _ (-1000000001) () rfl h hP hD hS dX6_claps_18
def wp_X6_hear (p1 : Int32) (cSh : Nat → Option Nat) (wSo : Int32) (wSz : Int32) (wVl : Nat → Int32) (rFa : Int32) (rPa : Int32) (wo : Nat) (Q : Int32 → Int32 → Int32 → Prop) : Prop :=
  wp_X6_isSheet p1 (fun (r_1 : Int32) => ((¬ r_1 = 0 → (vp_in p1 4 ∧ (cSh p1.toNatClampNeg = some wo ∧ wp_X2_isMissing wSo (fun (r_5 : Int32) => ((r_5 = 0 → wp_X2_firstNumber wSz wVl (fun (r_7 : Int32) => ((¬ r_7 = (-1000000005) → wp_X2_howFar wSz wVl (fun (r_9 : Int32) => wp_X6_held r_9 0 99 (fun (r_10 : Int32) => wp_X2_explainingPace wSz wVl (fun (r_11 : Int32) => Q r_10 r_10 r_11)))) ∧ (r_7 = (-1000000005) → Q (-1000000005) rFa rPa)))) ∧ (¬ (r_5 = 0) → Q (-1000000011) rFa rPa)))))) ∧ (r_1 = 0 → Q (-1000000001) rFa rPa)))
set_option maxHeartbeats 4000000 in
set_option maxRecDepth 100000 in
theorem c_X6_hear (l : Launch) (E : gE) (co ro jo qo yo eo cs cl cw wo wv rk rh rd rt rl rs : Nat) (sz : Nat) (cWs : Int32) (cKp : Int32) (cSh : Nat → Option Nat) (wSo : Int32) (wSz : Int32) (wVl : Nat → Int32) (rSz : Int32) (rTc : Int32) (rFa : Int32) (rPa : Int32) (rPy : Int32) (rMi : Int32) (rMe : Int32) (rSr : Int32) (rZ : Int32) (rKi : Nat → Int32) (rHe : Nat → Int32) (rDo : Nat → Int32) (rTx : Nat → Option Nat) (rLa : Nat → Int32) (rSk : Nat → Int32) (p1 : Int32) (LT : List Nat) (pk : Nat → Int32) (pv : Nat → Int32) (pa : Nat → Nat) (pn : Nat → Nat) (tc : Nat → Nat → Int32) (Q : Int32 → Int32 → Int32 → Prop) (h : wp_X6_hear p1 cSh wSo wSz wVl rFa rPa wo Q) : Met l yX6_hear wsX6_hear ({ frames := 4, cells := 0, slots := 0, locals := 111 } : Room) (va_Pc [.ref co, .int p1] (rc_B E (rw_13 E co ro jo qo yo eo cs cl cw wo wv rk rh rd rt rl rs cWs cKp cSh wSo wSz wVl rSz rTc rFa rPa rPy rMi rMe rSr rZ rKi rHe rDo rTx rLa rSk ++ rc_tp E LT pk pv pa pn tc) sz)) (va_Qi (S := Int32 × Int32) (fun (r : Int32) (u : Int32 × Int32) => Q r u.1 u.2) (fun u t => rc_C E (va_A (rw_13 E co ro jo qo yo eo cs cl cw wo wv rk rh rd rt rl rs cWs cKp cSh wSo wSz wVl rSz rTc rFa rPa rPy rMi rMe rSr rZ rKi rHe rDo rTx rLa rSk ++ rc_tp E LT pk pv pa pn tc) sz) (rw_13 E co ro jo qo yo eo cs cl cw wo wv rk rh rd rt rl rs cWs cKp cSh wSo wSz wVl rSz rTc u.1 u.2 rPy rMi rMe rSr rZ rKi rHe rDo rTx rLa rSk ++ rc_tp E LT pk pv pa pn tc) t) (va_A (rw_13 E co ro jo qo yo eo cs cl cw wo wv rk rh rd rt rl rs cWs cKp cSh wSo wSz wVl rSz rTc rFa rPa rPy rMi rMe rSr rZ rKi rHe rDo rTx rLa rSk ++ rc_tp E LT pk pv pa pn tc) sz)) 0 0 (va_A (rw_13 E co ro jo qo yo eo cs cl cw wo wv rk rh rd rt rl rs cWs cKp cSh wSo wSz wVl rSz rTc rFa rPa rPy rMi rMe rSr rZ rKi rHe rDo rTx rLa rSk ++ rc_tp E LT pk pv pa pn tc) sz) := by
  refine rc_enterI (cc := cX6_hear) (maxL := 3) (by decide) rfl (Nat.le_of_ble_eq_true rfl) ?_
  intro p e s m args below meth c QQ A hx hb hml hown hts hmn hE hP hD hA hret ls hl
  have hown : s.vm.findClass RX6 = some m.cls := hown
  have hK := hE.1
  have hS : va_S A s.heap s.heap [] := va_S.rf
  have hl : lv_has ls 3 [(0, .ref co), (1, .int p1)] := hl
  have n_X1 : ∀ w ∈ wsX10, w ∈ wsX6_hear := fun _ h => List.mem_cons_of_mem _ (List.mem_append_left _ (List.mem_append_right _ h))
  have n_X6 : ∀ w ∈ wsX60, w ∈ wsX6_hear := fun _ h => List.mem_cons_of_mem _ (List.mem_append_left _ (List.mem_append_left _ (List.mem_append_right _ h)))
  have k_38 := hts (.fieldLink RX6 38 "RidgeClaps" "sheets" "[LRidgeClaps$Row;") (List.mem_of_getElem? (i := 2) rfl)
  have k_130 := hts (.constant RX6 130 (-1000000005)) (List.mem_of_getElem? (i := 4) rfl)
  have k_10 := hts (.fieldLink RX6 10 "RidgeClaps" "ridge" "LRidgeClaps$Ridge;") (List.mem_of_getElem? (i := 5) rfl)
  have k_115 := hts (.fieldLink RX6 115 "RidgeClaps$Ridge" "far" "I") (List.mem_of_getElem? (i := 6) rfl)
  have k_118 := hts (.fieldLink RX6 118 "RidgeClaps$Ridge" "pace" "I") (List.mem_of_getElem? (i := 7) rfl)
  have k_182 := hts (.constant RX6 182 (-1000000011)) (List.mem_of_getElem? (i := 3) rfl)
  have k_70 := hts (.constant RX6 70 (-1000000001)) (List.mem_of_getElem? (i := 1) rfl)
  unfold wp_X6_hear at h
  obtain ⟨H, hH⟩ : ∃ H, H = s.heap := ⟨_, rfl⟩
  obtain ⟨locs, hlocs⟩ : ∃ locs : List Loc, locs = [] := ⟨_, rfl⟩
  have hP : va_P E.1 vwCl (rw_13 E co ro jo qo yo eo cs cl cw wo wv rk rh rd rt rl rs cWs cKp cSh wSo wSz wVl rSz rTc rFa rPa rPy rMi rMe rSr rZ rKi rHe rDo rTx rLa rSk ++ rc_tp E LT pk pv pa pn tc) H := by rw [hH]; exact hP
  have hS : va_S A s.heap H locs := by rw [hH, hlocs]; exact hS
  suffices hgo : W p l e ({ frames := 4, cells := 0, slots := 0, locals := 111 } : Room) s m args below meth c H locs 0 0 QQ (F0 m 0 ls []) from by rw [hH, hlocs] at hgo; exact hgo
  refine lv_iload_n hx hb dX6_hear_0 rfl (lv_at hl 1 rfl) ?_
  have hPc := hP.sub (ws' := []) [] rfl
  have hDc := hD.sub (ws' := []) [] (by decide) rfl
  have hFc := va_free (wc := []) hD hS hA [] rfl
  refine va_calli (va_runS (As := [.int p1]) (rest := []) ⟨hx, hb, hml, hown, hts⟩ (c_X6_isSheet l E H.size p1 _ h) (va_cwS 1 hts gX6_hear_X6_isSheet rfl rfl rfl (by decide +kernel) ⟨Nat.le_of_ble_eq_true rfl, Nat.le_of_ble_eq_true rfl⟩) ⟨fun a U g mk q => ⟨q.1, q.2.blind⟩, fun U hU hW => ⟨rfl, by rw [hU], by rw [hU]; exact hPc, hE.call hS hFc hW hU, hDc.weaken (fun _ _ _ _ => trivial)⟩⟩ rfl rfl hl.1 rfl (lv_room (Nat.le_of_ble_eq_true rfl)) dX6_hear_1 ⟨Nat.zero_le _, Nat.zero_le _⟩) hS (fun q _ h => hFc q h) hFc (fun r_1 u t H1 locs ht hvm h hB hz1 hk1 hS => ?_)
  obtain ⟨hP1, hD1⟩ := hB
  rw [ht] at hP1
  obtain ⟨hP, hD⟩ := rc_foc hP hD [] [none, none, none, none, none, none, none, none, none, none, none] (by decide) rfl hk1 hP1 rfl
  generalize H1 = H at hP hS ⊢
  have hP : va_P E.1 vwCl (rw_13 E co ro jo qo yo eo cs cl cw wo wv rk rh rd rt rl rs cWs cKp cSh wSo wSz wVl rSz rTc rFa rPa rPy rMi rMe rSr rZ rKi rHe rDo rTx rLa rSk ++ rc_tp E LT pk pv pa pn tc) H := hP
  have hD : va_D A (rw_13 E co ro jo qo yo eo cs cl cw wo wv rk rh rd rt rl rs cWs cKp cSh wSo wSz wVl rSz rTc rFa rPa rPy rMi rMe rSr rZ rKi rHe rDo rTx rLa rSk ++ rc_tp E LT pk pv pa pn tc) := hD
  refine lv_if_ne (tgt := 10) hx hb dX6_hear_4 (by decide) (fun c_2 => ?_) (fun c_2 => ?_)
  · have h := h.1 c_2
    refine lv_aload_n hx hb dX6_hear_10 rfl (lv_at hl 0 rfl) ?_
    refine va_get (D := E.1) (ci := 6) (v := .ref cs) (C := RX6) (T := TX6) (N := 10) hx hb hts n_X6 hown hK hP 0 rfl rfl 5 (by decide) k_38 (fun _ h9 => h9) rfl dX6_hear_11 ?_
    refine lv_iload_n hx hb dX6_hear_14 rfl (lv_at hl 1 rfl) ?_
    obtain ⟨o_3, h⟩ := h
    refine va_aldq hx hb hK hP 1 3 rfl rfl o_3 dX6_hear_15 ?_
    obtain ⟨s_4, h⟩ := h
    refine W.eq (g2 := F0 m 16 ls [.ref wo]) (by rw [s_4]; rfl) ?_
    refine lv_astore_n (lv' := [(2, .ref wo), (0, .ref co), (1, .int p1)]) hx hb dX6_hear_16 rfl hl (by decide) rfl (fun ls hl => ?_)
    refine lv_aload_n hx hb dX6_hear_17 rfl (lv_at hl 0 rfl) ?_
    have hPc := hP.sub (ws' := (rw_1 E wo wv wSo wSz wVl)) [2, 3] rfl
    have hDc := hD.sub (ws' := (rw_1 E wo wv wSo wSz wVl)) [2, 3] (by decide) rfl
    have hFc := va_free (wc := (rw_1 E wo wv wSo wSz wVl)) hD hS hA [2, 3] rfl
    refine va_calli (va_runV (As := []) (rest := []) ⟨hx, hb, hml, hown, hts⟩ (c_X2_isMissing l E wo wv H.size wSo wSz wVl _ h) (cwV 0 hts gX6_hear_X2_isMissing rfl rfl rfl (by decide +kernel) ⟨Nat.le_of_ble_eq_true rfl, Nat.le_of_ble_eq_true rfl⟩) ⟨fun a U g mk q => ⟨q.1, q.2.blind⟩, va_recv hK hPc (ci := 2) (q0 := 0) rfl rfl, fun U hU hW => ⟨rfl, by rw [hU], by rw [hU]; exact hPc, hE.call hS hFc hW hU, hDc.weaken (fun _ _ _ _ => trivial)⟩⟩ rfl rfl hl.1 rfl (lv_room (Nat.le_of_ble_eq_true rfl)) dX6_hear_18 ⟨Nat.zero_le _, Nat.zero_le _⟩) hS (fun q _ h => hFc q h) hFc (fun r_5 u t H1 locs ht hvm h hB hz1 hk1 hS => ?_)
    obtain ⟨hP1, hD1⟩ := hB
    rw [ht] at hP1
    obtain ⟨hP, hD⟩ := rc_foc hP hD [2, 3] [none, none, some 0, some 1, none, none, none, none, none, none, none] (by decide) rfl hk1 hP1 rfl
    generalize H1 = H at hP hS ⊢
    have hP : va_P E.1 vwCl (rw_13 E co ro jo qo yo eo cs cl cw wo wv rk rh rd rt rl rs cWs cKp cSh wSo wSz wVl rSz rTc rFa rPa rPy rMi rMe rSr rZ rKi rHe rDo rTx rLa rSk ++ rc_tp E LT pk pv pa pn tc) H := hP
    have hD : va_D A (rw_13 E co ro jo qo yo eo cs cl cw wo wv rk rh rd rt rl rs cWs cKp cSh wSo wSz wVl rSz rTc rFa rPa rPy rMi rMe rSr rZ rKi rHe rDo rTx rLa rSk ++ rc_tp E LT pk pv pa pn tc) := hD
    refine lv_if_eq (tgt := 27) hx hb dX6_hear_21 (by decide) (fun c_6 => ?_) (fun c_6 => ?_)
    · have h := h.1 c_6
      refine lv_aload_n hx hb dX6_hear_27 rfl (lv_at hl 0 rfl) ?_
      have hPc := hP.sub (ws' := (rw_1 E wo wv wSo wSz wVl)) [2, 3] rfl
      have hDc := hD.sub (ws' := (rw_1 E wo wv wSo wSz wVl)) [2, 3] (by decide) rfl
      have hFc := va_free (wc := (rw_1 E wo wv wSo wSz wVl)) hD hS hA [2, 3] rfl
      refine va_calli (va_runV (As := []) (rest := []) ⟨hx, hb, hml, hown, hts⟩ (c_X2_firstNumber l E wo wv H.size wSo wSz wVl _ h) (cwV 0 hts gX6_hear_X2_firstNumber rfl rfl rfl (by decide +kernel) ⟨Nat.le_of_ble_eq_true rfl, Nat.le_of_ble_eq_true rfl⟩) ⟨fun a U g mk q => ⟨q.1, q.2.blind⟩, va_recv hK hPc (ci := 2) (q0 := 0) rfl rfl, fun U hU hW => ⟨rfl, by rw [hU], by rw [hU]; exact hPc, hE.call hS hFc hW hU, hDc.weaken (fun _ _ _ _ => trivial)⟩⟩ rfl rfl hl.1 rfl (lv_room (Nat.le_of_ble_eq_true rfl)) dX6_hear_28 ⟨Nat.zero_le _, Nat.zero_le _⟩) hS (fun q _ h => hFc q h) hFc (fun r_7 u t H1 locs ht hvm h hB hz1 hk1 hS => ?_)
      obtain ⟨hP1, hD1⟩ := hB
      rw [ht] at hP1
      obtain ⟨hP, hD⟩ := rc_foc hP hD [2, 3] [none, none, some 0, some 1, none, none, none, none, none, none, none] (by decide) rfl hk1 hP1 rfl
      generalize H1 = H at hP hS ⊢
      have hP : va_P E.1 vwCl (rw_13 E co ro jo qo yo eo cs cl cw wo wv rk rh rd rt rl rs cWs cKp cSh wSo wSz wVl rSz rTc rFa rPa rPy rMi rMe rSr rZ rKi rHe rDo rTx rLa rSk ++ rc_tp E LT pk pv pa pn tc) H := hP
      have hD : va_D A (rw_13 E co ro jo qo yo eo cs cl cw wo wv rk rh rd rt rl rs cWs cKp cSh wSo wSz wVl rSz rTc rFa rPa rPy rMi rMe rSr rZ rKi rHe rDo rTx rLa rSk ++ rc_tp E LT pk pv pa pn tc) := hD
      refine lv_ldc hx hb hown k_130 dX6_hear_31 ?_
      refine lv_icmp_ne (tgt := 39) hx hb dX6_hear_33 (by decide) (fun c_8 => ?_) (fun c_8 => ?_)
      · have h := h.1 c_8
        refine lv_aload_n hx hb dX6_hear_39 rfl (lv_at hl 1 rfl) ?_
        refine va_get (D := E.1) (ci := 6) (v := .ref ro) (C := RX6) (T := TX6) (N := 10) hx hb hts n_X6 hown hK hP 0 rfl rfl 0 (by decide) k_10 (fun _ h9 => h9) rfl dX6_hear_40 ?_
        refine lv_aload_n hx hb dX6_hear_43 rfl (lv_at hl 0 rfl) ?_
        have hPc := hP.sub (ws' := (rw_1 E wo wv wSo wSz wVl)) [2, 3] rfl
        have hDc := hD.sub (ws' := (rw_1 E wo wv wSo wSz wVl)) [2, 3] (by decide) rfl
        have hFc := va_free (wc := (rw_1 E wo wv wSo wSz wVl)) hD hS hA [2, 3] rfl
        refine va_calli (va_runV (As := []) (rest := [.ref ro]) ⟨hx, hb, hml, hown, hts⟩ (c_X2_howFar l E wo wv H.size wSo wSz wVl _ h) (cwV 0 hts gX6_hear_X2_howFar rfl rfl rfl (by decide +kernel) ⟨Nat.le_of_ble_eq_true rfl, Nat.le_of_ble_eq_true rfl⟩) ⟨fun a U g mk q => ⟨q.1, q.2.blind⟩, va_recv hK hPc (ci := 2) (q0 := 0) rfl rfl, fun U hU hW => ⟨rfl, by rw [hU], by rw [hU]; exact hPc, hE.call hS hFc hW hU, hDc.weaken (fun _ _ _ _ => trivial)⟩⟩ rfl rfl hl.1 rfl (lv_room (Nat.le_of_ble_eq_true rfl)) dX6_hear_44 ⟨Nat.zero_le _, Nat.zero_le _⟩) hS (fun q _ h => hFc q h) hFc (fun r_9 u t H1 locs ht hvm h hB hz1 hk1 hS => ?_)
        obtain ⟨hP1, hD1⟩ := hB
        rw [ht] at hP1
        obtain ⟨hP, hD⟩ := rc_foc hP hD [2, 3] [none, none, some 0, some 1, none, none, none, none, none, none, none] (by decide) rfl hk1 hP1 rfl
        generalize H1 = H at hP hS ⊢
        have hP : va_P E.1 vwCl (rw_13 E co ro jo qo yo eo cs cl cw wo wv rk rh rd rt rl rs cWs cKp cSh wSo wSz wVl rSz rTc rFa rPa rPy rMi rMe rSr rZ rKi rHe rDo rTx rLa rSk ++ rc_tp E LT pk pv pa pn tc) H := hP
        have hD : va_D A (rw_13 E co ro jo qo yo eo cs cl cw wo wv rk rh rd rt rl rs cWs cKp cSh wSo wSz wVl rSz rTc rFa rPa rPy rMi rMe rSr rZ rKi rHe rDo rTx rLa rSk ++ rc_tp E LT pk pv pa pn tc) := hD
        refine lv_iconst (v := 0) hx hb dX6_hear_47 (by decide) ?_
        refine lv_bipush (v := 99) hx hb dX6_hear_48 (by decide) ?_
        have hPc := hP.sub (ws' := []) [] rfl
        have hDc := hD.sub (ws' := []) [] (by decide) rfl
        have hFc := va_free (wc := []) hD hS hA [] rfl
        refine va_calli (va_runS (As := [.int r_9, .int 0, .int 99]) (rest := [.ref ro]) ⟨hx, hb, hml, hown, hts⟩ (c_X6_held l E H.size r_9 0 99 _ h) (va_cwS 3 hts gX6_hear_X6_held rfl rfl rfl (by decide +kernel) ⟨Nat.le_of_ble_eq_true rfl, Nat.le_of_ble_eq_true rfl⟩) ⟨fun a U g mk q => ⟨q.1, q.2.blind⟩, fun U hU hW => ⟨rfl, by rw [hU], by rw [hU]; exact hPc, hE.call hS hFc hW hU, hDc.weaken (fun _ _ _ _ => trivial)⟩⟩ rfl rfl hl.1 rfl (lv_room (Nat.le_of_ble_eq_true rfl)) dX6_hear_50 ⟨Nat.zero_le _, Nat.zero_le _⟩) hS (fun q _ h => hFc q h) hFc (fun r_10 u t H1 locs ht hvm h hB hz1 hk1 hS => ?_)
        obtain ⟨hP1, hD1⟩ := hB
        rw [ht] at hP1
        obtain ⟨hP, hD⟩ := rc_foc hP hD [] [none, none, none, none, none, none, none, none, none, none, none] (by decide) rfl hk1 hP1 rfl
        generalize H1 = H at hP hS ⊢
        have hP : va_P E.1 vwCl (rw_13 E co ro jo qo yo eo cs cl cw wo wv rk rh rd rt rl rs cWs cKp cSh wSo wSz wVl rSz rTc rFa rPa rPy rMi rMe rSr rZ rKi rHe rDo rTx rLa rSk ++ rc_tp E LT pk pv pa pn tc) H := hP
        have hD : va_D A (rw_13 E co ro jo qo yo eo cs cl cw wo wv rk rh rd rt rl rs cWs cKp cSh wSo wSz wVl rSz rTc rFa rPa rPy rMi rMe rSr rZ rKi rHe rDo rTx rLa rSk ++ rc_tp E LT pk pv pa pn tc) := hD
        refine va_put (D := E.1) (ci := 1) (v := .int r_10) (ty := .int) (C := RX1) (T := TX1) (N := 15) hx hb hts n_X1 tyX1 tyX1_ok nmX1 hown hK hP hD hS 4 rfl rfl 7 (by decide) k_115 (fun _ h9 => h9) rfl (by decide +kernel) rfl rfl (Nat.le_of_ble_eq_true rfl) dX6_hear_53 (fun H locs hP hD hS => ?_)
        have hP : va_P E.1 vwCl (rw_13 E co ro jo qo yo eo cs cl cw wo wv rk rh rd rt rl rs cWs cKp cSh wSo wSz wVl rSz rTc r_10 rPa rPy rMi rMe rSr rZ rKi rHe rDo rTx rLa rSk ++ rc_tp E LT pk pv pa pn tc) H := hP
        have hD : va_D A (rw_13 E co ro jo qo yo eo cs cl cw wo wv rk rh rd rt rl rs cWs cKp cSh wSo wSz wVl rSz rTc r_10 rPa rPy rMi rMe rSr rZ rKi rHe rDo rTx rLa rSk ++ rc_tp E LT pk pv pa pn tc) := hD
        refine lv_aload_n hx hb dX6_hear_56 rfl (lv_at hl 1 rfl) ?_
        refine va_get (D := E.1) (ci := 6) (v := .ref ro) (C := RX6) (T := TX6) (N := 10) hx hb hts n_X6 hown hK hP 0 rfl rfl 0 (by decide) k_10 (fun _ h9 => h9) rfl dX6_hear_57 ?_
        refine lv_aload_n hx hb dX6_hear_60 rfl (lv_at hl 0 rfl) ?_
        have hPc := hP.sub (ws' := (rw_1 E wo wv wSo wSz wVl)) [2, 3] rfl
        have hDc := hD.sub (ws' := (rw_1 E wo wv wSo wSz wVl)) [2, 3] (by decide) rfl
        have hFc := va_free (wc := (rw_1 E wo wv wSo wSz wVl)) hD hS hA [2, 3] rfl
        refine va_calli (va_runV (As := []) (rest := [.ref ro]) ⟨hx, hb, hml, hown, hts⟩ (c_X2_explainingPace l E wo wv H.size wSo wSz wVl _ h) (cwV 0 hts gX6_hear_X2_explainingPace rfl rfl rfl (by decide +kernel) ⟨Nat.le_of_ble_eq_true rfl, Nat.le_of_ble_eq_true rfl⟩) ⟨fun a U g mk q => ⟨q.1, q.2.blind⟩, va_recv hK hPc (ci := 2) (q0 := 0) rfl rfl, fun U hU hW => ⟨rfl, by rw [hU], by rw [hU]; exact hPc, hE.call hS hFc hW hU, hDc.weaken (fun _ _ _ _ => trivial)⟩⟩ rfl rfl hl.1 rfl (lv_room (Nat.le_of_ble_eq_true rfl)) dX6_hear_61 ⟨Nat.zero_le _, Nat.zero_le _⟩) hS (fun q _ h => hFc q h) hFc (fun r_11 u t H1 locs ht hvm h hB hz1 hk1 hS => ?_)
        obtain ⟨hP1, hD1⟩ := hB
        rw [ht] at hP1
        obtain ⟨hP, hD⟩ := rc_foc hP hD [2, 3] [none, none, some 0, some 1, none, none, none, none, none, none, none] (by decide) rfl hk1 hP1 rfl
        generalize H1 = H at hP hS ⊢
        have hP : va_P E.1 vwCl (rw_13 E co ro jo qo yo eo cs cl cw wo wv rk rh rd rt rl rs cWs cKp cSh wSo wSz wVl rSz rTc r_10 rPa rPy rMi rMe rSr rZ rKi rHe rDo rTx rLa rSk ++ rc_tp E LT pk pv pa pn tc) H := hP
        have hD : va_D A (rw_13 E co ro jo qo yo eo cs cl cw wo wv rk rh rd rt rl rs cWs cKp cSh wSo wSz wVl rSz rTc r_10 rPa rPy rMi rMe rSr rZ rKi rHe rDo rTx rLa rSk ++ rc_tp E LT pk pv pa pn tc) := hD
        refine va_put (D := E.1) (ci := 1) (v := .int r_11) (ty := .int) (C := RX1) (T := TX1) (N := 15) hx hb hts n_X1 tyX1 tyX1_ok nmX1 hown hK hP hD hS 4 rfl rfl 8 (by decide) k_118 (fun _ h9 => h9) rfl (by decide +kernel) rfl rfl (Nat.le_of_ble_eq_true rfl) dX6_hear_64 (fun H locs hP hD hS => ?_)
        have hP : va_P E.1 vwCl (rw_13 E co ro jo qo yo eo cs cl cw wo wv rk rh rd rt rl rs cWs cKp cSh wSo wSz wVl rSz rTc r_10 r_11 rPy rMi rMe rSr rZ rKi rHe rDo rTx rLa rSk ++ rc_tp E LT pk pv pa pn tc) H := hP
        have hD : va_D A (rw_13 E co ro jo qo yo eo cs cl cw wo wv rk rh rd rt rl rs cWs cKp cSh wSo wSz wVl rSz rTc r_10 r_11 rPy rMi rMe rSr rZ rKi rHe rDo rTx rLa rSk ++ rc_tp E LT pk pv pa pn tc) := hD
        refine lv_aload_n hx hb dX6_hear_67 rfl (lv_at hl 1 rfl) ?_
        refine va_get (D := E.1) (ci := 6) (v := .ref ro) (C := RX6) (T := TX6) (N := 10) hx hb hts n_X6 hown hK hP 0 rfl rfl 0 (by decide) k_10 (fun _ h9 => h9) rfl dX6_hear_68 ?_
        refine va_get (D := E.1) (ci := 1) (v := .int r_10) (C := RX1) (T := TX1) (N := 15) hx hb hts n_X1 hown hK hP 4 rfl rfl 7 (by decide) k_115 (fun _ h9 => h9) rfl dX6_hear_71 ?_
        exact hret _ _ _ _ r_10 (r_10, r_11) rfl h hP hD hS dX6_hear_74
      · have h := h.2 c_8
        refine lv_ldc hx hb hown k_130 dX6_hear_36 ?_
        exact hret _ _ _ _ (-1000000005) (rFa, rPa) rfl h hP hD hS dX6_hear_38
    · have h := h.2 c_6
      refine lv_ldc hx hb hown k_182 dX6_hear_24 ?_
      exact hret _ _ _ _ (-1000000011) (rFa, rPa) rfl h hP hD hS dX6_hear_26
  · have h := h.2 c_2
    refine lv_ldc hx hb hown k_70 dX6_hear_7 ?_
    exact hret _ _ _ _ (-1000000001) (rFa, rPa) rfl h hP hD hS dX6_hear_9
def jp_X6_sheet_29 (p1 : Int32) (p2 : Int32) (cSh : Nat → Option Nat) (wo : Nat)  (Q : Int32 → Int32 → Int32 → (Nat → Int32) → Prop) (y0 : Int32) (wSo : Int32) (wSz : Int32) (wVl : Nat → Int32) : Prop :=
  ((y0 ≤ 24 → ((0 ≤ y0 → (vp_in p1 4 ∧ (cSh p1.toNatClampNeg = some wo ∧ wp_X2_beginAnew p2 y0 wVl (fun (w_5 : Int32) (w_6 : Int32) (w_7 : Nat → Int32) => Q y0 w_5 w_6 w_7)))) ∧ (¬ (0 ≤ y0) → Q (-1000000014) wSo wSz wVl))) ∧ (¬ (y0 ≤ 24) → Q (-1000000001) wSo wSz wVl))
def wp_X6_sheet (p1 : Int32) (p2 : Int32) (p3 : Int32) (cSh : Nat → Option Nat) (wSo : Int32) (wSz : Int32) (wVl : Nat → Int32) (wo : Nat) (Q : Int32 → Int32 → Int32 → (Nat → Int32) → Prop) : Prop :=
  wp_X6_isSheet p1 (fun (r_8 : Int32) => ((r_8 = 0 → Q (-1000000001) wSo wSz wVl) ∧ (¬ (r_8 = 0) → wp_X6_within p2 (-1) 1 (fun (r_10 : Int32) => ((¬ r_10 = 0 → ((¬ p2 = (-1) → jp_X6_sheet_29 p1 p2 cSh wo Q p3 wSo wSz wVl) ∧ (p2 = (-1) → jp_X6_sheet_29 p1 p2 cSh wo Q 0 wSo wSz wVl))) ∧ (r_10 = 0 → Q (-1000000001) wSo wSz wVl))))))
set_option maxHeartbeats 4000000 in
set_option maxRecDepth 100000 in
theorem c_X6_sheet (l : Launch) (E : gE) (co ro jo qo yo eo cs cl cw wo wv : Nat) (sz : Nat) (cWs : Int32) (cKp : Int32) (cSh : Nat → Option Nat) (wSo : Int32) (wSz : Int32) (wVl : Nat → Int32) (p1 p2 p3 : Int32)  (Q : Int32 → Int32 → Int32 → (Nat → Int32) → Prop) (h : wp_X6_sheet p1 p2 p3 cSh wSo wSz wVl wo Q) : Met l yX6_sheet wsX6_sheet ({ frames := 2, cells := 0, slots := 0, locals := 45 } : Room) (va_Pc [.ref co, .int p1, .int p2, .int p3] (rc_B E (rw_12 E co ro jo qo yo eo cs cl cw wo wv cWs cKp cSh wSo wSz wVl) sz)) (va_Qi (S := Int32 × Int32 × (Nat → Int32)) (fun (r : Int32) (u : Int32 × Int32 × (Nat → Int32)) => Q r u.1 u.2.1 u.2.2) (fun u t => rc_C E (va_A (rw_12 E co ro jo qo yo eo cs cl cw wo wv cWs cKp cSh wSo wSz wVl) sz) (rw_12 E co ro jo qo yo eo cs cl cw wo wv cWs cKp cSh u.1 u.2.1 u.2.2) t) (va_A (rw_12 E co ro jo qo yo eo cs cl cw wo wv cWs cKp cSh wSo wSz wVl) sz)) 0 0 (va_A (rw_12 E co ro jo qo yo eo cs cl cw wo wv cWs cKp cSh wSo wSz wVl) sz) := by
  refine rc_enterI (cc := cX6_sheet) (maxL := 5) (by decide) rfl (Nat.le_of_ble_eq_true rfl) ?_
  intro p e s m args below meth c QQ A hx hb hml hown hts hmn hE hP hD hA hret ls hl
  have hown : s.vm.findClass RX6 = some m.cls := hown
  have hK := hE.1
  have hS : va_S A s.heap s.heap [] := va_S.rf
  have hl : lv_has ls 5 [(0, .ref co), (1, .int p1), (2, .int p2), (3, .int p3)] := hl
  have n_X6 : ∀ w ∈ wsX60, w ∈ wsX6_sheet := fun _ h => List.mem_cons_of_mem _ (List.mem_append_left _ (List.mem_append_right _ h))
  have k_38 := hts (.fieldLink RX6 38 "RidgeClaps" "sheets" "[LRidgeClaps$Row;") (List.mem_of_getElem? (i := 3) rfl)
  have k_241 := hts (.constant RX6 241 (-1000000014)) (List.mem_of_getElem? (i := 2) rfl)
  have k_70 := hts (.constant RX6 70 (-1000000001)) (List.mem_of_getElem? (i := 1) rfl)
  have J29 : ∀ (y0 : Int32) (wSo : Int32) (wSz : Int32) (wVl : Nat → Int32), jp_X6_sheet_29 p1 p2 cSh wo Q y0 wSo wSz wVl → ∀ (H : Heap) (locs : List Loc), va_P E.1 vwCl (rw_12 E co ro jo qo yo eo cs cl cw wo wv cWs cKp cSh wSo wSz wVl) H → va_D A (rw_12 E co ro jo qo yo eo cs cl cw wo wv cWs cKp cSh wSo wSz wVl) → va_S A s.heap H locs → ∀ ls : Array Slot, lv_has ls 5 [(0, .ref co), (1, .int p1), (2, .int p2)] → W p l e ({ frames := 2, cells := 0, slots := 0, locals := 45 } : Room) s m args below meth c H locs 0 0 QQ (F0 m 29 ls [.int y0]) := by
    intro y0 wSo wSz wVl h H locs hP hD hS ls hl
    unfold jp_X6_sheet_29 at h
    refine lv_istore (lv' := [(4, .int y0), (0, .ref co), (1, .int p1), (2, .int p2)]) hx hb dX6_sheet_29 hl (by decide) rfl (fun ls hl => ?_)
    refine lv_iload hx hb dX6_sheet_31 (lv_at hl 0 rfl) ?_
    refine lv_bipush (v := 24) hx hb dX6_sheet_33 (by decide) ?_
    refine lv_icmp_le (tgt := 41) hx hb dX6_sheet_35 (by decide) (fun c_1 => ?_) (fun c_1 => ?_)
    · have h := h.1 c_1
      refine lv_iload hx hb dX6_sheet_41 (lv_at hl 0 rfl) ?_
      refine lv_if_ge (tgt := 49) hx hb dX6_sheet_43 (by decide) (fun c_2 => ?_) (fun c_2 => ?_)
      · have h := h.1 c_2
        refine lv_aload_n hx hb dX6_sheet_49 rfl (lv_at hl 1 rfl) ?_
        refine va_get (D := E.1) (ci := 6) (v := .ref cs) (C := RX6) (T := TX6) (N := 10) hx hb hts n_X6 hown hK hP 0 rfl rfl 5 (by decide) k_38 (fun _ h9 => h9) rfl dX6_sheet_50 ?_
        refine lv_iload_n hx hb dX6_sheet_53 rfl (lv_at hl 2 rfl) ?_
        obtain ⟨o_3, h⟩ := h
        refine va_aldq hx hb hK hP 1 3 rfl rfl o_3 dX6_sheet_54 ?_
        obtain ⟨s_4, h⟩ := h
        refine W.eq (g2 := F0 m 55 ls [.ref wo]) (by rw [s_4]; rfl) ?_
        refine lv_iload_n hx hb dX6_sheet_55 rfl (lv_at hl 3 rfl) ?_
        refine lv_iload hx hb dX6_sheet_56 (lv_at hl 0 rfl) ?_
        have hPc := hP.sub (ws' := (rw_1 E wo wv wSo wSz wVl)) [2, 3] rfl
        have hDc := hD.sub (ws' := (rw_1 E wo wv wSo wSz wVl)) [2, 3] (by decide) rfl
        have hFc := va_free (wc := (rw_1 E wo wv wSo wSz wVl)) hD hS hA [2, 3] rfl
        refine va_callv (va_runV (As := [.int p2, .int y0]) (rest := []) ⟨hx, hb, hml, hown, hts⟩ (c_X2_beginAnew l E wo wv H.size wSo wSz wVl p2 y0 _ h) (cwV 2 hts gX6_sheet_X2_beginAnew rfl rfl rfl (by decide +kernel) ⟨Nat.le_of_ble_eq_true rfl, Nat.le_of_ble_eq_true rfl⟩) ⟨fun a U g mk q => ⟨q.1, q.2.blind⟩, va_recv hK hPc (ci := 2) (q0 := 0) rfl rfl, fun U hU hW => ⟨rfl, by rw [hU], by rw [hU]; exact hPc, hE.call hS hFc hW hU, hDc.weaken (fun _ _ _ _ => trivial)⟩⟩ rfl rfl hl.1 rfl (lv_room (Nat.le_of_ble_eq_true rfl)) dX6_sheet_58 ⟨Nat.zero_le _, Nat.zero_le _⟩) hS (fun q _ h => hFc q h) hFc (fun u t H1 locs ht hvm h hB hz1 hk1 hS => ?_)
        obtain ⟨w_5, w_6, w_7⟩ := u
        obtain ⟨hP1, hD1⟩ := hB
        rw [ht] at hP1
        obtain ⟨hP, hD⟩ := rc_foc hP hD [2, 3] [none, none, some 0, some 1] (by decide) rfl hk1 hP1 rfl
        generalize H1 = H at hP hS ⊢
        have hP : va_P E.1 vwCl (rw_12 E co ro jo qo yo eo cs cl cw wo wv cWs cKp cSh w_5 w_6 w_7) H := hP
        have hD : va_D A (rw_12 E co ro jo qo yo eo cs cl cw wo wv cWs cKp cSh w_5 w_6 w_7) := hD
        refine lv_iload hx hb dX6_sheet_61 (lv_at hl 0 rfl) ?_
        exact hret _ _ _ _ y0 (w_5, w_6, w_7) rfl h hP hD hS dX6_sheet_63
      · have h := h.2 c_2
        refine lv_ldc hx hb hown k_241 dX6_sheet_46 ?_
        exact hret _ _ _ _ (-1000000014) (wSo, wSz, wVl) rfl h hP hD hS dX6_sheet_48
    · have h := h.2 c_1
      refine lv_ldc hx hb hown k_70 dX6_sheet_38 ?_
      exact hret _ _ _ _ (-1000000001) (wSo, wSz, wVl) rfl h hP hD hS dX6_sheet_40
  unfold wp_X6_sheet at h
  obtain ⟨H, hH⟩ : ∃ H, H = s.heap := ⟨_, rfl⟩
  obtain ⟨locs, hlocs⟩ : ∃ locs : List Loc, locs = [] := ⟨_, rfl⟩
  have hP : va_P E.1 vwCl (rw_12 E co ro jo qo yo eo cs cl cw wo wv cWs cKp cSh wSo wSz wVl) H := by rw [hH]; exact hP
  have hS : va_S A s.heap H locs := by rw [hH, hlocs]; exact hS
  suffices hgo : W p l e ({ frames := 2, cells := 0, slots := 0, locals := 45 } : Room) s m args below meth c H locs 0 0 QQ (F0 m 0 ls []) from by rw [hH, hlocs] at hgo; exact hgo
  refine lv_iload_n hx hb dX6_sheet_0 rfl (lv_at hl 1 rfl) ?_
  have hPc := hP.sub (ws' := []) [] rfl
  have hDc := hD.sub (ws' := []) [] (by decide) rfl
  have hFc := va_free (wc := []) hD hS hA [] rfl
  refine va_calli (va_runS (As := [.int p1]) (rest := []) ⟨hx, hb, hml, hown, hts⟩ (c_X6_isSheet l E H.size p1 _ h) (va_cwS 1 hts gX6_sheet_X6_isSheet rfl rfl rfl (by decide +kernel) ⟨Nat.le_of_ble_eq_true rfl, Nat.le_of_ble_eq_true rfl⟩) ⟨fun a U g mk q => ⟨q.1, q.2.blind⟩, fun U hU hW => ⟨rfl, by rw [hU], by rw [hU]; exact hPc, hE.call hS hFc hW hU, hDc.weaken (fun _ _ _ _ => trivial)⟩⟩ rfl rfl hl.1 rfl (lv_room (Nat.le_of_ble_eq_true rfl)) dX6_sheet_1 ⟨Nat.zero_le _, Nat.zero_le _⟩) hS (fun q _ h => hFc q h) hFc (fun r_8 u t H1 locs ht hvm h hB hz1 hk1 hS => ?_)
  obtain ⟨hP1, hD1⟩ := hB
  rw [ht] at hP1
  obtain ⟨hP, hD⟩ := rc_foc hP hD [] [none, none, none, none] (by decide) rfl hk1 hP1 rfl
  generalize H1 = H at hP hS ⊢
  have hP : va_P E.1 vwCl (rw_12 E co ro jo qo yo eo cs cl cw wo wv cWs cKp cSh wSo wSz wVl) H := hP
  have hD : va_D A (rw_12 E co ro jo qo yo eo cs cl cw wo wv cWs cKp cSh wSo wSz wVl) := hD
  refine lv_if_eq (tgt := 16) hx hb dX6_sheet_4 (by decide) (fun c_9 => ?_) (fun c_9 => ?_)
  · have h := h.1 c_9
    refine lv_ldc hx hb hown k_70 dX6_sheet_16 ?_
    exact hret _ _ _ _ (-1000000001) (wSo, wSz, wVl) rfl h hP hD hS dX6_sheet_18
  · have h := h.2 c_9
    refine lv_iload_n hx hb dX6_sheet_7 rfl (lv_at hl 2 rfl) ?_
    refine lv_iconst (v := (-1)) hx hb dX6_sheet_8 (by decide) ?_
    refine lv_iconst (v := 1) hx hb dX6_sheet_9 (by decide) ?_
    have hPc := hP.sub (ws' := []) [] rfl
    have hDc := hD.sub (ws' := []) [] (by decide) rfl
    have hFc := va_free (wc := []) hD hS hA [] rfl
    refine va_calli (va_runS (As := [.int p2, .int (-1), .int 1]) (rest := []) ⟨hx, hb, hml, hown, hts⟩ (c_X6_within l E H.size p2 (-1) 1 _ h) (va_cwS 3 hts gX6_sheet_X6_within rfl rfl rfl (by decide +kernel) ⟨Nat.le_of_ble_eq_true rfl, Nat.le_of_ble_eq_true rfl⟩) ⟨fun a U g mk q => ⟨q.1, q.2.blind⟩, fun U hU hW => ⟨rfl, by rw [hU], by rw [hU]; exact hPc, hE.call hS hFc hW hU, hDc.weaken (fun _ _ _ _ => trivial)⟩⟩ rfl rfl hl.1 rfl (lv_room (Nat.le_of_ble_eq_true rfl)) dX6_sheet_10 ⟨Nat.zero_le _, Nat.zero_le _⟩) hS (fun q _ h => hFc q h) hFc (fun r_10 u t H1 locs ht hvm h hB hz1 hk1 hS => ?_)
    obtain ⟨hP1, hD1⟩ := hB
    rw [ht] at hP1
    obtain ⟨hP, hD⟩ := rc_foc hP hD [] [none, none, none, none] (by decide) rfl hk1 hP1 rfl
    generalize H1 = H at hP hS ⊢
    have hP : va_P E.1 vwCl (rw_12 E co ro jo qo yo eo cs cl cw wo wv cWs cKp cSh wSo wSz wVl) H := hP
    have hD : va_D A (rw_12 E co ro jo qo yo eo cs cl cw wo wv cWs cKp cSh wSo wSz wVl) := hD
    refine lv_if_ne (tgt := 19) hx hb dX6_sheet_13 (by decide) (fun c_11 => ?_) (fun c_11 => ?_)
    · have h := h.1 c_11
      refine lv_iload_n hx hb dX6_sheet_19 rfl (lv_at hl 2 rfl) ?_
      refine lv_iconst (v := (-1)) hx hb dX6_sheet_20 (by decide) ?_
      refine lv_icmp_ne (tgt := 28) hx hb dX6_sheet_21 (by decide) (fun c_12 => ?_) (fun c_12 => ?_)
      · have h := h.1 c_12
        refine lv_iload_n hx hb dX6_sheet_28 rfl (lv_at hl 3 rfl) ?_
        exact J29 p3 wSo wSz wVl h _ _ hP hD hS ls (lv_sub hl [0, 1, 2] rfl)
      · have h := h.2 c_12
        refine lv_iconst (v := 0) hx hb dX6_sheet_24 (by decide) ?_
        refine lv_goto (tgt := 29) hx hb dX6_sheet_25 (by decide) ?_
        exact J29 0 wSo wSz wVl h _ _ hP hD hS ls (lv_sub hl [0, 1, 2] rfl)
    · have h := h.2 c_11
      refine lv_ldc hx hb hown k_70 dX6_sheet_16 ?_
      exact hret _ _ _ _ (-1000000001) (wSo, wSz, wVl) rfl h hP hD hS dX6_sheet_18
def wp_X6_mark (p1 : Int32) (p2 : Int32) (p3 : Int32) (cSh : Nat → Option Nat) (wSo : Int32) (wSz : Int32) (wVl : Nat → Int32) (wo : Nat) (Q : Int32 → (Nat → Int32) → Prop) : Prop :=
  wp_X6_isSheet p1 (fun (r_1 : Int32) => ((¬ r_1 = 0 → (vp_in p1 4 ∧ (cSh p1.toNatClampNeg = some wo ∧ wp_X2_isMissing wSo (fun (r_5 : Int32) => ((r_5 = 0 → wp_X2_has p2 wSz (fun (r_7 : Int32) => ((¬ r_7 = 0 → ((¬ wSo = 0 → ((p3 = (-1000000005) → (vp_in p2 24 ∧ Q 1 (upd wVl p2.toNatClampNeg p3))) ∧ (¬ (p3 = (-1000000005)) → wp_X6_within p3 (-99999) 99999 (fun (r_12 : Int32) => ((¬ r_12 = 0 → (vp_in p2 24 ∧ Q 1 (upd wVl p2.toNatClampNeg p3))) ∧ (r_12 = 0 → Q (-1000000001) wVl)))))) ∧ (wSo = 0 → ((¬ p3 = (-1000000005) → (vp_in p2 24 ∧ Q 1 (upd wVl p2.toNatClampNeg p3.toInt16.toInt32))) ∧ (p3 = (-1000000005) → Q (-1000000012) wVl))))) ∧ (r_7 = 0 → Q (-1000000013) wVl)))) ∧ (¬ (r_5 = 0) → Q (-1000000011) wVl)))))) ∧ (r_1 = 0 → Q (-1000000001) wVl)))
set_option maxHeartbeats 4000000 in
set_option maxRecDepth 100000 in
theorem c_X6_mark (l : Launch) (E : gE) (co ro jo qo yo eo cs cl cw wo wv : Nat) (sz : Nat) (cWs : Int32) (cKp : Int32) (cSh : Nat → Option Nat) (wSo : Int32) (wSz : Int32) (wVl : Nat → Int32) (p1 p2 p3 : Int32)  (Q : Int32 → (Nat → Int32) → Prop) (h : wp_X6_mark p1 p2 p3 cSh wSo wSz wVl wo Q) : Met l yX6_mark wsX6_mark ({ frames := 1, cells := 0, slots := 0, locals := 22 } : Room) (va_Pc [.ref co, .int p1, .int p2, .int p3] (rc_B E (rw_12 E co ro jo qo yo eo cs cl cw wo wv cWs cKp cSh wSo wSz wVl) sz)) (va_Qi (S := (Nat → Int32)) (fun (r : Int32) (u : (Nat → Int32)) => Q r u) (fun u t => rc_C E (va_A (rw_12 E co ro jo qo yo eo cs cl cw wo wv cWs cKp cSh wSo wSz wVl) sz) (rw_12 E co ro jo qo yo eo cs cl cw wo wv cWs cKp cSh wSo wSz u) t) (va_A (rw_12 E co ro jo qo yo eo cs cl cw wo wv cWs cKp cSh wSo wSz wVl) sz)) 0 0 (va_A (rw_12 E co ro jo qo yo eo cs cl cw wo wv cWs cKp cSh wSo wSz wVl) sz) := by
  refine rc_enterI (cc := cX6_mark) (maxL := 5) (by decide) rfl (Nat.le_of_ble_eq_true rfl) ?_
  intro p e s m args below meth c QQ A hx hb hml hown hts hmn hE hP hD hA hret ls hl
  have hown : s.vm.findClass RX6 = some m.cls := hown
  have hK := hE.1
  have hS : va_S A s.heap s.heap [] := va_S.rf
  have hl : lv_has ls 5 [(0, .ref co), (1, .int p1), (2, .int p2), (3, .int p3)] := hl
  have n_X2 : ∀ w ∈ wsX20, w ∈ wsX6_mark := fun _ h => List.mem_cons_of_mem _ (List.mem_append_right _ h)
  have n_X6 : ∀ w ∈ wsX60, w ∈ wsX6_mark := fun _ h => List.mem_cons_of_mem _ (List.mem_append_left _ (List.mem_append_right _ h))
  have k_38 := hts (.fieldLink RX6 38 "RidgeClaps" "sheets" "[LRidgeClaps$Row;") (List.mem_of_getElem? (i := 2) rfl)
  have k_248 := hts (.fieldLink RX6 248 "RidgeClaps$Row" "sort" "I") (List.mem_of_getElem? (i := 5) rfl)
  have k_130 := hts (.constant RX6 130 (-1000000005)) (List.mem_of_getElem? (i := 6) rfl)
  have k_251 := hts (.fieldLink RX6 251 "RidgeClaps$Row" "values" "[I") (List.mem_of_getElem? (i := 8) rfl)
  have k_254 := hts (.constant RX6 254 (-99999)) (List.mem_of_getElem? (i := 9) rfl)
  have k_255 := hts (.constant RX6 255 (99999)) (List.mem_of_getElem? (i := 10) rfl)
  have k_70 := hts (.constant RX6 70 (-1000000001)) (List.mem_of_getElem? (i := 1) rfl)
  have k_103 := hts (.constant RX6 103 (-1000000012)) (List.mem_of_getElem? (i := 7) rfl)
  have k_247 := hts (.constant RX6 247 (-1000000013)) (List.mem_of_getElem? (i := 4) rfl)
  have k_182 := hts (.constant RX6 182 (-1000000011)) (List.mem_of_getElem? (i := 3) rfl)
  unfold wp_X6_mark at h
  obtain ⟨H, hH⟩ : ∃ H, H = s.heap := ⟨_, rfl⟩
  obtain ⟨locs, hlocs⟩ : ∃ locs : List Loc, locs = [] := ⟨_, rfl⟩
  have hP : va_P E.1 vwCl (rw_12 E co ro jo qo yo eo cs cl cw wo wv cWs cKp cSh wSo wSz wVl) H := by rw [hH]; exact hP
  have hS : va_S A s.heap H locs := by rw [hH, hlocs]; exact hS
  suffices hgo : W p l e ({ frames := 1, cells := 0, slots := 0, locals := 22 } : Room) s m args below meth c H locs 0 0 QQ (F0 m 0 ls []) from by rw [hH, hlocs] at hgo; exact hgo
  refine lv_iload_n hx hb dX6_mark_0 rfl (lv_at hl 1 rfl) ?_
  have hPc := hP.sub (ws' := []) [] rfl
  have hDc := hD.sub (ws' := []) [] (by decide) rfl
  have hFc := va_free (wc := []) hD hS hA [] rfl
  refine va_calli (va_runS (As := [.int p1]) (rest := []) ⟨hx, hb, hml, hown, hts⟩ (c_X6_isSheet l E H.size p1 _ h) (va_cwS 1 hts gX6_mark_X6_isSheet rfl rfl rfl (by decide +kernel) ⟨Nat.le_of_ble_eq_true rfl, Nat.le_of_ble_eq_true rfl⟩) ⟨fun a U g mk q => ⟨q.1, q.2.blind⟩, fun U hU hW => ⟨rfl, by rw [hU], by rw [hU]; exact hPc, hE.call hS hFc hW hU, hDc.weaken (fun _ _ _ _ => trivial)⟩⟩ rfl rfl hl.1 rfl (lv_room (Nat.le_of_ble_eq_true rfl)) dX6_mark_1 ⟨Nat.zero_le _, Nat.zero_le _⟩) hS (fun q _ h => hFc q h) hFc (fun r_1 u t H1 locs ht hvm h hB hz1 hk1 hS => ?_)
  obtain ⟨hP1, hD1⟩ := hB
  rw [ht] at hP1
  obtain ⟨hP, hD⟩ := rc_foc hP hD [] [none, none, none, none] (by decide) rfl hk1 hP1 rfl
  generalize H1 = H at hP hS ⊢
  have hP : va_P E.1 vwCl (rw_12 E co ro jo qo yo eo cs cl cw wo wv cWs cKp cSh wSo wSz wVl) H := hP
  have hD : va_D A (rw_12 E co ro jo qo yo eo cs cl cw wo wv cWs cKp cSh wSo wSz wVl) := hD
  refine lv_if_ne (tgt := 10) hx hb dX6_mark_4 (by decide) (fun c_2 => ?_) (fun c_2 => ?_)
  · have h := h.1 c_2
    refine lv_aload_n hx hb dX6_mark_10 rfl (lv_at hl 0 rfl) ?_
    refine va_get (D := E.1) (ci := 6) (v := .ref cs) (C := RX6) (T := TX6) (N := 10) hx hb hts n_X6 hown hK hP 0 rfl rfl 5 (by decide) k_38 (fun _ h9 => h9) rfl dX6_mark_11 ?_
    refine lv_iload_n hx hb dX6_mark_14 rfl (lv_at hl 1 rfl) ?_
    obtain ⟨o_3, h⟩ := h
    refine va_aldq hx hb hK hP 1 3 rfl rfl o_3 dX6_mark_15 ?_
    obtain ⟨s_4, h⟩ := h
    refine W.eq (g2 := F0 m 16 ls [.ref wo]) (by rw [s_4]; rfl) ?_
    refine lv_astore (lv' := [(4, .ref wo), (0, .ref co), (1, .int p1), (2, .int p2), (3, .int p3)]) hx hb dX6_mark_16 hl (by decide) rfl (fun ls hl => ?_)
    refine lv_aload hx hb dX6_mark_18 (lv_at hl 0 rfl) ?_
    have hPc := hP.sub (ws' := (rw_1 E wo wv wSo wSz wVl)) [2, 3] rfl
    have hDc := hD.sub (ws' := (rw_1 E wo wv wSo wSz wVl)) [2, 3] (by decide) rfl
    have hFc := va_free (wc := (rw_1 E wo wv wSo wSz wVl)) hD hS hA [2, 3] rfl
    refine va_calli (va_runV (As := []) (rest := []) ⟨hx, hb, hml, hown, hts⟩ (c_X2_isMissing l E wo wv H.size wSo wSz wVl _ h) (cwV 0 hts gX6_mark_X2_isMissing rfl rfl rfl (by decide +kernel) ⟨Nat.le_of_ble_eq_true rfl, Nat.le_of_ble_eq_true rfl⟩) ⟨fun a U g mk q => ⟨q.1, q.2.blind⟩, va_recv hK hPc (ci := 2) (q0 := 0) rfl rfl, fun U hU hW => ⟨rfl, by rw [hU], by rw [hU]; exact hPc, hE.call hS hFc hW hU, hDc.weaken (fun _ _ _ _ => trivial)⟩⟩ rfl rfl hl.1 rfl (lv_room (Nat.le_of_ble_eq_true rfl)) dX6_mark_20 ⟨Nat.zero_le _, Nat.zero_le _⟩) hS (fun q _ h => hFc q h) hFc (fun r_5 u t H1 locs ht hvm h hB hz1 hk1 hS => ?_)
    obtain ⟨hP1, hD1⟩ := hB
    rw [ht] at hP1
    obtain ⟨hP, hD⟩ := rc_foc hP hD [2, 3] [none, none, some 0, some 1] (by decide) rfl hk1 hP1 rfl
    generalize H1 = H at hP hS ⊢
    have hP : va_P E.1 vwCl (rw_12 E co ro jo qo yo eo cs cl cw wo wv cWs cKp cSh wSo wSz wVl) H := hP
    have hD : va_D A (rw_12 E co ro jo qo yo eo cs cl cw wo wv cWs cKp cSh wSo wSz wVl) := hD
    refine lv_if_eq (tgt := 29) hx hb dX6_mark_23 (by decide) (fun c_6 => ?_) (fun c_6 => ?_)
    · have h := h.1 c_6
      refine lv_aload hx hb dX6_mark_29 (lv_at hl 0 rfl) ?_
      refine lv_iload_n hx hb dX6_mark_31 rfl (lv_at hl 3 rfl) ?_
      have hPc := hP.sub (ws' := (rw_1 E wo wv wSo wSz wVl)) [2, 3] rfl
      have hDc := hD.sub (ws' := (rw_1 E wo wv wSo wSz wVl)) [2, 3] (by decide) rfl
      have hFc := va_free (wc := (rw_1 E wo wv wSo wSz wVl)) hD hS hA [2, 3] rfl
      refine va_calli (va_runV (As := [.int p2]) (rest := []) ⟨hx, hb, hml, hown, hts⟩ (c_X2_has l E wo wv H.size wSo wSz wVl p2 _ h) (cwV 1 hts gX6_mark_X2_has rfl rfl rfl (by decide +kernel) ⟨Nat.le_of_ble_eq_true rfl, Nat.le_of_ble_eq_true rfl⟩) ⟨fun a U g mk q => ⟨q.1, q.2.blind⟩, va_recv hK hPc (ci := 2) (q0 := 0) rfl rfl, fun U hU hW => ⟨rfl, by rw [hU], by rw [hU]; exact hPc, hE.call hS hFc hW hU, hDc.weaken (fun _ _ _ _ => trivial)⟩⟩ rfl rfl hl.1 rfl (lv_room (Nat.le_of_ble_eq_true rfl)) dX6_mark_32 ⟨Nat.zero_le _, Nat.zero_le _⟩) hS (fun q _ h => hFc q h) hFc (fun r_7 u t H1 locs ht hvm h hB hz1 hk1 hS => ?_)
      obtain ⟨hP1, hD1⟩ := hB
      rw [ht] at hP1
      obtain ⟨hP, hD⟩ := rc_foc hP hD [2, 3] [none, none, some 0, some 1] (by decide) rfl hk1 hP1 rfl
      generalize H1 = H at hP hS ⊢
      have hP : va_P E.1 vwCl (rw_12 E co ro jo qo yo eo cs cl cw wo wv cWs cKp cSh wSo wSz wVl) H := hP
      have hD : va_D A (rw_12 E co ro jo qo yo eo cs cl cw wo wv cWs cKp cSh wSo wSz wVl) := hD
      refine lv_if_ne (tgt := 41) hx hb dX6_mark_35 (by decide) (fun c_8 => ?_) (fun c_8 => ?_)
      · have h := h.1 c_8
        refine lv_aload hx hb dX6_mark_41 (lv_at hl 0 rfl) ?_
        refine va_get (D := E.1) (ci := 2) (v := .int wSo) (C := RX2) (T := TX2) (N := 3) hx hb hts n_X2 hown hK hP 2 rfl rfl 0 (by decide) k_248 (fun _ h9 => h9) rfl dX6_mark_43 ?_
        refine lv_if_ne (tgt := 69) hx hb dX6_mark_46 (by decide) (fun c_9 => ?_) (fun c_9 => ?_)
        · have h := h.1 c_9
          refine lv_iload_n hx hb dX6_mark_69 rfl (lv_at hl 4 rfl) ?_
          refine lv_ldc hx hb hown k_130 dX6_mark_70 ?_
          refine lv_icmp_eq (tgt := 89) hx hb dX6_mark_72 (by decide) (fun c_10 => ?_) (fun c_10 => ?_)
          · have h := h.1 c_10
            refine lv_aload hx hb dX6_mark_89 (lv_at hl 0 rfl) ?_
            refine va_get (D := E.1) (ci := 2) (v := .ref wv) (C := RX2) (T := TX2) (N := 3) hx hb hts n_X2 hown hK hP 2 rfl rfl 2 (by decide) k_251 (fun _ h9 => h9) rfl dX6_mark_91 ?_
            refine lv_iload_n hx hb dX6_mark_94 rfl (lv_at hl 3 rfl) ?_
            refine lv_iload_n hx hb dX6_mark_95 rfl (lv_at hl 4 rfl) ?_
            obtain ⟨o_11, h⟩ := h
            refine rc_iast hx hb hK hP hD hS 3 0 rfl rfl p2.toNatClampNeg rfl o_11 dX6_mark_96 (fun H locs hP hD hS => ?_)
            have hP : va_P E.1 vwCl (rw_12 E co ro jo qo yo eo cs cl cw wo wv cWs cKp cSh wSo wSz (upd wVl p2.toNatClampNeg p3)) H := hP
            have hD : va_D A (rw_12 E co ro jo qo yo eo cs cl cw wo wv cWs cKp cSh wSo wSz (upd wVl p2.toNatClampNeg p3)) := hD
            refine lv_iconst (v := 1) hx hb dX6_mark_97 (by decide) ?_
            exact hret _ _ _ _ 1 (upd wVl p2.toNatClampNeg p3) rfl h hP hD hS dX6_mark_98
          · have h := h.2 c_10
            refine lv_iload_n hx hb dX6_mark_75 rfl (lv_at hl 4 rfl) ?_
            refine lv_ldc hx hb hown k_254 dX6_mark_76 ?_
            refine lv_ldc hx hb hown k_255 dX6_mark_78 ?_
            have hPc := hP.sub (ws' := []) [] rfl
            have hDc := hD.sub (ws' := []) [] (by decide) rfl
            have hFc := va_free (wc := []) hD hS hA [] rfl
            refine va_calli (va_runS (As := [.int p3, .int (-99999), .int 99999]) (rest := []) ⟨hx, hb, hml, hown, hts⟩ (c_X6_within l E H.size p3 (-99999) 99999 _ h) (va_cwS 3 hts gX6_mark_X6_within rfl rfl rfl (by decide +kernel) ⟨Nat.le_of_ble_eq_true rfl, Nat.le_of_ble_eq_true rfl⟩) ⟨fun a U g mk q => ⟨q.1, q.2.blind⟩, fun U hU hW => ⟨rfl, by rw [hU], by rw [hU]; exact hPc, hE.call hS hFc hW hU, hDc.weaken (fun _ _ _ _ => trivial)⟩⟩ rfl rfl hl.1 rfl (lv_room (Nat.le_of_ble_eq_true rfl)) dX6_mark_80 ⟨Nat.zero_le _, Nat.zero_le _⟩) hS (fun q _ h => hFc q h) hFc (fun r_12 u t H1 locs ht hvm h hB hz1 hk1 hS => ?_)
            obtain ⟨hP1, hD1⟩ := hB
            rw [ht] at hP1
            obtain ⟨hP, hD⟩ := rc_foc hP hD [] [none, none, none, none] (by decide) rfl hk1 hP1 rfl
            generalize H1 = H at hP hS ⊢
            have hP : va_P E.1 vwCl (rw_12 E co ro jo qo yo eo cs cl cw wo wv cWs cKp cSh wSo wSz wVl) H := hP
            have hD : va_D A (rw_12 E co ro jo qo yo eo cs cl cw wo wv cWs cKp cSh wSo wSz wVl) := hD
            refine lv_if_ne (tgt := 89) hx hb dX6_mark_83 (by decide) (fun c_13 => ?_) (fun c_13 => ?_)
            · have h := h.1 c_13
              refine lv_aload hx hb dX6_mark_89 (lv_at hl 0 rfl) ?_
              refine va_get (D := E.1) (ci := 2) (v := .ref wv) (C := RX2) (T := TX2) (N := 3) hx hb hts n_X2 hown hK hP 2 rfl rfl 2 (by decide) k_251 (fun _ h9 => h9) rfl dX6_mark_91 ?_
              refine lv_iload_n hx hb dX6_mark_94 rfl (lv_at hl 3 rfl) ?_
              refine lv_iload_n hx hb dX6_mark_95 rfl (lv_at hl 4 rfl) ?_
              obtain ⟨o_14, h⟩ := h
              refine rc_iast hx hb hK hP hD hS 3 0 rfl rfl p2.toNatClampNeg rfl o_14 dX6_mark_96 (fun H locs hP hD hS => ?_)
              have hP : va_P E.1 vwCl (rw_12 E co ro jo qo yo eo cs cl cw wo wv cWs cKp cSh wSo wSz (upd wVl p2.toNatClampNeg p3)) H := hP
              have hD : va_D A (rw_12 E co ro jo qo yo eo cs cl cw wo wv cWs cKp cSh wSo wSz (upd wVl p2.toNatClampNeg p3)) := hD
              refine lv_iconst (v := 1) hx hb dX6_mark_97 (by decide) ?_
              exact hret _ _ _ _ 1 (upd wVl p2.toNatClampNeg p3) rfl h hP hD hS dX6_mark_98
            · have h := h.2 c_13
              refine lv_ldc hx hb hown k_70 dX6_mark_86 ?_
              exact hret _ _ _ _ (-1000000001) (wVl) rfl h hP hD hS dX6_mark_88
        · have h := h.2 c_9
          refine lv_iload_n hx hb dX6_mark_49 rfl (lv_at hl 4 rfl) ?_
          refine lv_ldc hx hb hown k_130 dX6_mark_50 ?_
          refine lv_icmp_ne (tgt := 58) hx hb dX6_mark_52 (by decide) (fun c_15 => ?_) (fun c_15 => ?_)
          · have h := h.1 c_15
            refine lv_aload hx hb dX6_mark_58 (lv_at hl 0 rfl) ?_
            refine va_get (D := E.1) (ci := 2) (v := .ref wv) (C := RX2) (T := TX2) (N := 3) hx hb hts n_X2 hown hK hP 2 rfl rfl 2 (by decide) k_251 (fun _ h9 => h9) rfl dX6_mark_60 ?_
            refine lv_iload_n hx hb dX6_mark_63 rfl (lv_at hl 3 rfl) ?_
            refine lv_iload_n hx hb dX6_mark_64 rfl (lv_at hl 4 rfl) ?_
            refine lv_i2s (v := p3.toInt16.toInt32) hx hb dX6_mark_65 rfl ?_
            obtain ⟨o_16, h⟩ := h
            refine rc_iast hx hb hK hP hD hS 3 0 rfl rfl p2.toNatClampNeg rfl o_16 dX6_mark_66 (fun H locs hP hD hS => ?_)
            have hP : va_P E.1 vwCl (rw_12 E co ro jo qo yo eo cs cl cw wo wv cWs cKp cSh wSo wSz (upd wVl p2.toNatClampNeg p3.toInt16.toInt32)) H := hP
            have hD : va_D A (rw_12 E co ro jo qo yo eo cs cl cw wo wv cWs cKp cSh wSo wSz (upd wVl p2.toNatClampNeg p3.toInt16.toInt32)) := hD
            refine lv_iconst (v := 1) hx hb dX6_mark_67 (by decide) ?_
            exact hret _ _ _ _ 1 (upd wVl p2.toNatClampNeg p3.toInt16.toInt32) rfl h hP hD hS dX6_mark_68
          · have h := h.2 c_15
            refine lv_ldc hx hb hown k_103 dX6_mark_55 ?_
            exact hret _ _ _ _ (-1000000012) (wVl) rfl h hP hD hS dX6_mark_57
      · have h := h.2 c_8
        refine lv_ldc hx hb hown k_247 dX6_mark_38 ?_
        exact hret _ _ _ _ (-1000000013) (wVl) rfl h hP hD hS dX6_mark_40
    · have h := h.2 c_6
      refine lv_ldc hx hb hown k_182 dX6_mark_26 ?_
      exact hret _ _ _ _ (-1000000011) (wVl) rfl h hP hD hS dX6_mark_28
  · have h := h.2 c_2
    refine lv_ldc hx hb hown k_70 dX6_mark_7 ?_
    exact hret _ _ _ _ (-1000000001) (wVl) rfl h hP hD hS dX6_mark_9
def wp_X6_pour (p1 : Int32) (cSh : Nat → Option Nat) (wSo : Int32) (wSz : Int32) (wVl : Nat → Int32) (rSz : Int32) (rHe : Nat → Int32) (wo : Nat) (Q : Int32 → (Nat → Int32) → Prop) : Prop :=
  wp_X6_isSheet p1 (fun (r_1 : Int32) => ((¬ r_1 = 0 → (vp_in p1 4 ∧ (cSh p1.toNatClampNeg = some wo ∧ wp_X2_isMissing wSo (fun (r_5 : Int32) => ((r_5 = 0 → wp_X1_takeHeights rSz rHe wSz wVl (fun (r_7 : Int32) (w_8 : Nat → Int32) => Q r_7 w_8)) ∧ (¬ (r_5 = 0) → Q (-1000000011) rHe)))))) ∧ (r_1 = 0 → Q (-1000000001) rHe)))
set_option maxHeartbeats 4000000 in
set_option maxRecDepth 100000 in
theorem c_X6_pour (l : Launch) (E : gE) (co ro jo qo yo eo cs cl cw wo wv rk rh rd rt rl rs : Nat) (sz : Nat) (cWs : Int32) (cKp : Int32) (cSh : Nat → Option Nat) (wSo : Int32) (wSz : Int32) (wVl : Nat → Int32) (rSz : Int32) (rTc : Int32) (rFa : Int32) (rPa : Int32) (rPy : Int32) (rMi : Int32) (rMe : Int32) (rSr : Int32) (rZ : Int32) (rKi : Nat → Int32) (rHe : Nat → Int32) (rDo : Nat → Int32) (rTx : Nat → Option Nat) (rLa : Nat → Int32) (rSk : Nat → Int32) (p1 : Int32) (LT : List Nat) (pk : Nat → Int32) (pv : Nat → Int32) (pa : Nat → Nat) (pn : Nat → Nat) (tc : Nat → Nat → Int32) (Q : Int32 → (Nat → Int32) → Prop) (h : wp_X6_pour p1 cSh wSo wSz wVl rSz rHe wo Q) : Met l yX6_pour wsX6_pour ({ frames := 3, cells := 0, slots := 0, locals := 86 } : Room) (va_Pc [.ref co, .int p1] (rc_B E (rw_13 E co ro jo qo yo eo cs cl cw wo wv rk rh rd rt rl rs cWs cKp cSh wSo wSz wVl rSz rTc rFa rPa rPy rMi rMe rSr rZ rKi rHe rDo rTx rLa rSk ++ rc_tp E LT pk pv pa pn tc) sz)) (va_Qi (S := (Nat → Int32)) (fun (r : Int32) (u : (Nat → Int32)) => Q r u) (fun u t => rc_C E (va_A (rw_13 E co ro jo qo yo eo cs cl cw wo wv rk rh rd rt rl rs cWs cKp cSh wSo wSz wVl rSz rTc rFa rPa rPy rMi rMe rSr rZ rKi rHe rDo rTx rLa rSk ++ rc_tp E LT pk pv pa pn tc) sz) (rw_13 E co ro jo qo yo eo cs cl cw wo wv rk rh rd rt rl rs cWs cKp cSh wSo wSz wVl rSz rTc rFa rPa rPy rMi rMe rSr rZ rKi u rDo rTx rLa rSk ++ rc_tp E LT pk pv pa pn tc) t) (va_A (rw_13 E co ro jo qo yo eo cs cl cw wo wv rk rh rd rt rl rs cWs cKp cSh wSo wSz wVl rSz rTc rFa rPa rPy rMi rMe rSr rZ rKi rHe rDo rTx rLa rSk ++ rc_tp E LT pk pv pa pn tc) sz)) 0 0 (va_A (rw_13 E co ro jo qo yo eo cs cl cw wo wv rk rh rd rt rl rs cWs cKp cSh wSo wSz wVl rSz rTc rFa rPa rPy rMi rMe rSr rZ rKi rHe rDo rTx rLa rSk ++ rc_tp E LT pk pv pa pn tc) sz) := by
  refine rc_enterI (cc := cX6_pour) (maxL := 3) (by decide) rfl (Nat.le_of_ble_eq_true rfl) ?_
  intro p e s m args below meth c QQ A hx hb hml hown hts hmn hE hP hD hA hret ls hl
  have hown : s.vm.findClass RX6 = some m.cls := hown
  have hK := hE.1
  have hS : va_S A s.heap s.heap [] := va_S.rf
  have hl : lv_has ls 3 [(0, .ref co), (1, .int p1)] := hl
  have n_X6 : ∀ w ∈ wsX60, w ∈ wsX6_pour := fun _ h => List.mem_cons_of_mem _ (List.mem_append_left _ (List.mem_append_left _ (List.mem_append_right _ h)))
  have k_38 := hts (.fieldLink RX6 38 "RidgeClaps" "sheets" "[LRidgeClaps$Row;") (List.mem_of_getElem? (i := 2) rfl)
  have k_10 := hts (.fieldLink RX6 10 "RidgeClaps" "ridge" "LRidgeClaps$Ridge;") (List.mem_of_getElem? (i := 4) rfl)
  have k_182 := hts (.constant RX6 182 (-1000000011)) (List.mem_of_getElem? (i := 3) rfl)
  have k_70 := hts (.constant RX6 70 (-1000000001)) (List.mem_of_getElem? (i := 1) rfl)
  unfold wp_X6_pour at h
  obtain ⟨H, hH⟩ : ∃ H, H = s.heap := ⟨_, rfl⟩
  obtain ⟨locs, hlocs⟩ : ∃ locs : List Loc, locs = [] := ⟨_, rfl⟩
  have hP : va_P E.1 vwCl (rw_13 E co ro jo qo yo eo cs cl cw wo wv rk rh rd rt rl rs cWs cKp cSh wSo wSz wVl rSz rTc rFa rPa rPy rMi rMe rSr rZ rKi rHe rDo rTx rLa rSk ++ rc_tp E LT pk pv pa pn tc) H := by rw [hH]; exact hP
  have hS : va_S A s.heap H locs := by rw [hH, hlocs]; exact hS
  suffices hgo : W p l e ({ frames := 3, cells := 0, slots := 0, locals := 86 } : Room) s m args below meth c H locs 0 0 QQ (F0 m 0 ls []) from by rw [hH, hlocs] at hgo; exact hgo
  refine lv_iload_n hx hb dX6_pour_0 rfl (lv_at hl 1 rfl) ?_
  have hPc := hP.sub (ws' := []) [] rfl
  have hDc := hD.sub (ws' := []) [] (by decide) rfl
  have hFc := va_free (wc := []) hD hS hA [] rfl
  refine va_calli (va_runS (As := [.int p1]) (rest := []) ⟨hx, hb, hml, hown, hts⟩ (c_X6_isSheet l E H.size p1 _ h) (va_cwS 1 hts gX6_pour_X6_isSheet rfl rfl rfl (by decide +kernel) ⟨Nat.le_of_ble_eq_true rfl, Nat.le_of_ble_eq_true rfl⟩) ⟨fun a U g mk q => ⟨q.1, q.2.blind⟩, fun U hU hW => ⟨rfl, by rw [hU], by rw [hU]; exact hPc, hE.call hS hFc hW hU, hDc.weaken (fun _ _ _ _ => trivial)⟩⟩ rfl rfl hl.1 rfl (lv_room (Nat.le_of_ble_eq_true rfl)) dX6_pour_1 ⟨Nat.zero_le _, Nat.zero_le _⟩) hS (fun q _ h => hFc q h) hFc (fun r_1 u t H1 locs ht hvm h hB hz1 hk1 hS => ?_)
  obtain ⟨hP1, hD1⟩ := hB
  rw [ht] at hP1
  obtain ⟨hP, hD⟩ := rc_foc hP hD [] [none, none, none, none, none, none, none, none, none, none, none] (by decide) rfl hk1 hP1 rfl
  generalize H1 = H at hP hS ⊢
  have hP : va_P E.1 vwCl (rw_13 E co ro jo qo yo eo cs cl cw wo wv rk rh rd rt rl rs cWs cKp cSh wSo wSz wVl rSz rTc rFa rPa rPy rMi rMe rSr rZ rKi rHe rDo rTx rLa rSk ++ rc_tp E LT pk pv pa pn tc) H := hP
  have hD : va_D A (rw_13 E co ro jo qo yo eo cs cl cw wo wv rk rh rd rt rl rs cWs cKp cSh wSo wSz wVl rSz rTc rFa rPa rPy rMi rMe rSr rZ rKi rHe rDo rTx rLa rSk ++ rc_tp E LT pk pv pa pn tc) := hD
  refine lv_if_ne (tgt := 10) hx hb dX6_pour_4 (by decide) (fun c_2 => ?_) (fun c_2 => ?_)
  · have h := h.1 c_2
    refine lv_aload_n hx hb dX6_pour_10 rfl (lv_at hl 0 rfl) ?_
    refine va_get (D := E.1) (ci := 6) (v := .ref cs) (C := RX6) (T := TX6) (N := 10) hx hb hts n_X6 hown hK hP 0 rfl rfl 5 (by decide) k_38 (fun _ h9 => h9) rfl dX6_pour_11 ?_
    refine lv_iload_n hx hb dX6_pour_14 rfl (lv_at hl 1 rfl) ?_
    obtain ⟨o_3, h⟩ := h
    refine va_aldq hx hb hK hP 1 3 rfl rfl o_3 dX6_pour_15 ?_
    obtain ⟨s_4, h⟩ := h
    refine W.eq (g2 := F0 m 16 ls [.ref wo]) (by rw [s_4]; rfl) ?_
    refine lv_astore_n (lv' := [(2, .ref wo), (0, .ref co), (1, .int p1)]) hx hb dX6_pour_16 rfl hl (by decide) rfl (fun ls hl => ?_)
    refine lv_aload_n hx hb dX6_pour_17 rfl (lv_at hl 0 rfl) ?_
    have hPc := hP.sub (ws' := (rw_1 E wo wv wSo wSz wVl)) [2, 3] rfl
    have hDc := hD.sub (ws' := (rw_1 E wo wv wSo wSz wVl)) [2, 3] (by decide) rfl
    have hFc := va_free (wc := (rw_1 E wo wv wSo wSz wVl)) hD hS hA [2, 3] rfl
    refine va_calli (va_runV (As := []) (rest := []) ⟨hx, hb, hml, hown, hts⟩ (c_X2_isMissing l E wo wv H.size wSo wSz wVl _ h) (cwV 0 hts gX6_pour_X2_isMissing rfl rfl rfl (by decide +kernel) ⟨Nat.le_of_ble_eq_true rfl, Nat.le_of_ble_eq_true rfl⟩) ⟨fun a U g mk q => ⟨q.1, q.2.blind⟩, va_recv hK hPc (ci := 2) (q0 := 0) rfl rfl, fun U hU hW => ⟨rfl, by rw [hU], by rw [hU]; exact hPc, hE.call hS hFc hW hU, hDc.weaken (fun _ _ _ _ => trivial)⟩⟩ rfl rfl hl.1 rfl (lv_room (Nat.le_of_ble_eq_true rfl)) dX6_pour_18 ⟨Nat.zero_le _, Nat.zero_le _⟩) hS (fun q _ h => hFc q h) hFc (fun r_5 u t H1 locs ht hvm h hB hz1 hk1 hS => ?_)
    obtain ⟨hP1, hD1⟩ := hB
    rw [ht] at hP1
    obtain ⟨hP, hD⟩ := rc_foc hP hD [2, 3] [none, none, some 0, some 1, none, none, none, none, none, none, none] (by decide) rfl hk1 hP1 rfl
    generalize H1 = H at hP hS ⊢
    have hP : va_P E.1 vwCl (rw_13 E co ro jo qo yo eo cs cl cw wo wv rk rh rd rt rl rs cWs cKp cSh wSo wSz wVl rSz rTc rFa rPa rPy rMi rMe rSr rZ rKi rHe rDo rTx rLa rSk ++ rc_tp E LT pk pv pa pn tc) H := hP
    have hD : va_D A (rw_13 E co ro jo qo yo eo cs cl cw wo wv rk rh rd rt rl rs cWs cKp cSh wSo wSz wVl rSz rTc rFa rPa rPy rMi rMe rSr rZ rKi rHe rDo rTx rLa rSk ++ rc_tp E LT pk pv pa pn tc) := hD
    refine lv_if_eq (tgt := 27) hx hb dX6_pour_21 (by decide) (fun c_6 => ?_) (fun c_6 => ?_)
    · have h := h.1 c_6
      refine lv_aload_n hx hb dX6_pour_27 rfl (lv_at hl 1 rfl) ?_
      refine va_get (D := E.1) (ci := 6) (v := .ref ro) (C := RX6) (T := TX6) (N := 10) hx hb hts n_X6 hown hK hP 0 rfl rfl 0 (by decide) k_10 (fun _ h9 => h9) rfl dX6_pour_28 ?_
      refine lv_aload_n hx hb dX6_pour_31 rfl (lv_at hl 0 rfl) ?_
      have hPc := hP.part (cx := (rw_5 E ro rk rh rd rt rl rs wo wv rSz rTc rFa rPa rPy rMi rMe rSr rZ rKi rHe rDo rTx rLa rSk wSo wSz wVl)) [4, 5, 6, 7, 8, 9, 10, 2, 3] rfl
      have hDc := hD.part (cx := (rw_5 E ro rk rh rd rt rl rs wo wv rSz rTc rFa rPa rPy rMi rMe rSr rZ rKi rHe rDo rTx rLa rSk wSo wSz wVl)) [4, 5, 6, 7, 8, 9, 10, 2, 3] (by decide) rfl
      have hFc := va_freeP (cx := (rw_5 E ro rk rh rd rt rl rs wo wv rSz rTc rFa rPa rPy rMi rMe rSr rZ rKi rHe rDo rTx rLa rSk wSo wSz wVl)) hD hS hA [4, 5, 6, 7, 8, 9, 10, 2, 3] rfl
      refine va_calli (va_runV (As := [.ref wo]) (rest := []) ⟨hx, hb, hml, hown, hts⟩ (c_X1_takeHeights l E ro rk rh rd rt rl rs wo wv H.size rSz rTc rFa rPa rPy rMi rMe rSr rZ rKi rHe rDo rTx rLa rSk wSo wSz wVl LT pk pv pa pn tc _ h) (cwV 1 hts gX6_pour_X1_takeHeights rfl rfl rfl (by decide +kernel) ⟨Nat.le_of_ble_eq_true rfl, Nat.le_of_ble_eq_true rfl⟩) ⟨fun a U g mk q => ⟨q.1, q.2.blind⟩, va_recv hK hPc (ci := 1) (q0 := 0) rfl rfl, fun U hU hW => ⟨rfl, by rw [hU], by rw [hU]; exact hPc, hE.call hS hFc hW hU, hDc.weaken (fun _ _ _ _ => trivial)⟩⟩ rfl rfl hl.1 rfl (lv_room (Nat.le_of_ble_eq_true rfl)) dX6_pour_32 ⟨Nat.zero_le _, Nat.zero_le _⟩) hS (fun q _ h => hFc q h) hFc (fun r_7 u t H1 locs ht hvm h hB hz1 hk1 hS => ?_)
      obtain ⟨w_8, rfl⟩ : ∃ z, z = u := ⟨_, rfl⟩
      obtain ⟨hP1, hD1⟩ := hB
      rw [ht] at hP1
      obtain ⟨hP, hD⟩ := rc_focP hP hD [4, 5, 6, 7, 8, 9, 10, 2, 3] [none, none, some 7, some 8, some 0, some 1, some 2, some 3, some 4, some 5, some 6] (by decide) rfl rfl hk1 hP1 rfl
      generalize H1 = H at hP hS ⊢
      have hP : va_P E.1 vwCl (rw_13 E co ro jo qo yo eo cs cl cw wo wv rk rh rd rt rl rs cWs cKp cSh wSo wSz wVl rSz rTc rFa rPa rPy rMi rMe rSr rZ rKi w_8 rDo rTx rLa rSk ++ rc_tp E LT pk pv pa pn tc) H := hP
      have hD : va_D A (rw_13 E co ro jo qo yo eo cs cl cw wo wv rk rh rd rt rl rs cWs cKp cSh wSo wSz wVl rSz rTc rFa rPa rPy rMi rMe rSr rZ rKi w_8 rDo rTx rLa rSk ++ rc_tp E LT pk pv pa pn tc) := hD
      exact hret _ _ _ _ r_7 (w_8) rfl h hP hD hS dX6_pour_35
    · have h := h.2 c_6
      refine lv_ldc hx hb hown k_182 dX6_pour_24 ?_
      exact hret _ _ _ _ (-1000000011) (rHe) rfl h hP hD hS dX6_pour_26
  · have h := h.2 c_2
    refine lv_ldc hx hb hown k_70 dX6_pour_7 ?_
    exact hret _ _ _ _ (-1000000001) (rHe) rfl h hP hD hS dX6_pour_9
def wp_X6_reads (p1 : Int32) (cSh : Nat → Option Nat) (wSo : Int32) (wSz : Int32) (wVl : Nat → Int32) (rSz : Int32) (rKi : Nat → Int32) (rHe : Nat → Int32) (rTx : Nat → Option Nat) (rLa : Nat → Int32) (rSk : Nat → Int32) (wo : Nat) (LT : List Nat) (pn : Nat → Nat) (tc : Nat → Nat → Int32) (Q : Int32 → (Nat → Int32) → Prop) : Prop :=
  wp_X6_isSheet p1 (fun (r_1 : Int32) => ((¬ r_1 = 0 → (vp_in p1 4 ∧ (cSh p1.toNatClampNeg = some wo ∧ wp_X2_isMissing wSo (fun (r_5 : Int32) => ((r_5 = 0 → wp_X1_firstNotRisk rSz rKi rHe rTx rLa rSk wSz wVl LT pn tc (fun (r_7 : Int32) (w_8 : Nat → Int32) => Q r_7 w_8)) ∧ (¬ (r_5 = 0) → Q (-1000000011) rSk)))))) ∧ (r_1 = 0 → Q (-1000000001) rSk)))
set_option maxHeartbeats 4000000 in
set_option maxRecDepth 100000 in
theorem c_X6_reads (l : Launch) (E : gE) (co ro jo qo yo eo cs cl cw wo wv rk rh rd rt rl rs : Nat) (sz : Nat) (cWs : Int32) (cKp : Int32) (cSh : Nat → Option Nat) (wSo : Int32) (wSz : Int32) (wVl : Nat → Int32) (rSz : Int32) (rTc : Int32) (rFa : Int32) (rPa : Int32) (rPy : Int32) (rMi : Int32) (rMe : Int32) (rSr : Int32) (rZ : Int32) (rKi : Nat → Int32) (rHe : Nat → Int32) (rDo : Nat → Int32) (rTx : Nat → Option Nat) (rLa : Nat → Int32) (rSk : Nat → Int32) (p1 : Int32) (LT : List Nat) (pk : Nat → Int32) (pv : Nat → Int32) (pa : Nat → Nat) (pn : Nat → Nat) (tc : Nat → Nat → Int32) (Q : Int32 → (Nat → Int32) → Prop) (h : wp_X6_reads p1 cSh wSo wSz wVl rSz rKi rHe rTx rLa rSk wo LT pn tc Q) : Met l yX6_reads wsX6_reads ({ frames := 5, cells := 0, slots := 0, locals := 121 } : Room) (va_Pc [.ref co, .int p1] (rc_B E (rw_13 E co ro jo qo yo eo cs cl cw wo wv rk rh rd rt rl rs cWs cKp cSh wSo wSz wVl rSz rTc rFa rPa rPy rMi rMe rSr rZ rKi rHe rDo rTx rLa rSk ++ rc_tp E LT pk pv pa pn tc) sz)) (va_Qi (S := (Nat → Int32)) (fun (r : Int32) (u : (Nat → Int32)) => Q r u) (fun u t => rc_C E (va_A (rw_13 E co ro jo qo yo eo cs cl cw wo wv rk rh rd rt rl rs cWs cKp cSh wSo wSz wVl rSz rTc rFa rPa rPy rMi rMe rSr rZ rKi rHe rDo rTx rLa rSk ++ rc_tp E LT pk pv pa pn tc) sz) (rw_13 E co ro jo qo yo eo cs cl cw wo wv rk rh rd rt rl rs cWs cKp cSh wSo wSz wVl rSz rTc rFa rPa rPy rMi rMe rSr rZ rKi rHe rDo rTx rLa u ++ rc_tp E LT pk pv pa pn tc) t) (va_A (rw_13 E co ro jo qo yo eo cs cl cw wo wv rk rh rd rt rl rs cWs cKp cSh wSo wSz wVl rSz rTc rFa rPa rPy rMi rMe rSr rZ rKi rHe rDo rTx rLa rSk ++ rc_tp E LT pk pv pa pn tc) sz)) 0 0 (va_A (rw_13 E co ro jo qo yo eo cs cl cw wo wv rk rh rd rt rl rs cWs cKp cSh wSo wSz wVl rSz rTc rFa rPa rPy rMi rMe rSr rZ rKi rHe rDo rTx rLa rSk ++ rc_tp E LT pk pv pa pn tc) sz) := by
  refine rc_enterI (cc := cX6_reads) (maxL := 3) (by decide) rfl (Nat.le_of_ble_eq_true rfl) ?_
  intro p e s m args below meth c QQ A hx hb hml hown hts hmn hE hP hD hA hret ls hl
  have hown : s.vm.findClass RX6 = some m.cls := hown
  have hK := hE.1
  have hS : va_S A s.heap s.heap [] := va_S.rf
  have hl : lv_has ls 3 [(0, .ref co), (1, .int p1)] := hl
  have n_X6 : ∀ w ∈ wsX60, w ∈ wsX6_reads := fun _ h => List.mem_cons_of_mem _ (List.mem_append_left _ (List.mem_append_left _ (List.mem_append_left _ (List.mem_append_right _ h))))
  have k_38 := hts (.fieldLink RX6 38 "RidgeClaps" "sheets" "[LRidgeClaps$Row;") (List.mem_of_getElem? (i := 2) rfl)
  have k_10 := hts (.fieldLink RX6 10 "RidgeClaps" "ridge" "LRidgeClaps$Ridge;") (List.mem_of_getElem? (i := 4) rfl)
  have k_182 := hts (.constant RX6 182 (-1000000011)) (List.mem_of_getElem? (i := 3) rfl)
  have k_70 := hts (.constant RX6 70 (-1000000001)) (List.mem_of_getElem? (i := 1) rfl)
  unfold wp_X6_reads at h
  obtain ⟨H, hH⟩ : ∃ H, H = s.heap := ⟨_, rfl⟩
  obtain ⟨locs, hlocs⟩ : ∃ locs : List Loc, locs = [] := ⟨_, rfl⟩
  have hP : va_P E.1 vwCl (rw_13 E co ro jo qo yo eo cs cl cw wo wv rk rh rd rt rl rs cWs cKp cSh wSo wSz wVl rSz rTc rFa rPa rPy rMi rMe rSr rZ rKi rHe rDo rTx rLa rSk ++ rc_tp E LT pk pv pa pn tc) H := by rw [hH]; exact hP
  have hS : va_S A s.heap H locs := by rw [hH, hlocs]; exact hS
  suffices hgo : W p l e ({ frames := 5, cells := 0, slots := 0, locals := 121 } : Room) s m args below meth c H locs 0 0 QQ (F0 m 0 ls []) from by rw [hH, hlocs] at hgo; exact hgo
  refine lv_iload_n hx hb dX6_reads_0 rfl (lv_at hl 1 rfl) ?_
  have hPc := hP.sub (ws' := []) [] rfl
  have hDc := hD.sub (ws' := []) [] (by decide) rfl
  have hFc := va_free (wc := []) hD hS hA [] rfl
  refine va_calli (va_runS (As := [.int p1]) (rest := []) ⟨hx, hb, hml, hown, hts⟩ (c_X6_isSheet l E H.size p1 _ h) (va_cwS 1 hts gX6_reads_X6_isSheet rfl rfl rfl (by decide +kernel) ⟨Nat.le_of_ble_eq_true rfl, Nat.le_of_ble_eq_true rfl⟩) ⟨fun a U g mk q => ⟨q.1, q.2.blind⟩, fun U hU hW => ⟨rfl, by rw [hU], by rw [hU]; exact hPc, hE.call hS hFc hW hU, hDc.weaken (fun _ _ _ _ => trivial)⟩⟩ rfl rfl hl.1 rfl (lv_room (Nat.le_of_ble_eq_true rfl)) dX6_reads_1 ⟨Nat.zero_le _, Nat.zero_le _⟩) hS (fun q _ h => hFc q h) hFc (fun r_1 u t H1 locs ht hvm h hB hz1 hk1 hS => ?_)
  obtain ⟨hP1, hD1⟩ := hB
  rw [ht] at hP1
  obtain ⟨hP, hD⟩ := rc_foc hP hD [] [none, none, none, none, none, none, none, none, none, none, none] (by decide) rfl hk1 hP1 rfl
  generalize H1 = H at hP hS ⊢
  have hP : va_P E.1 vwCl (rw_13 E co ro jo qo yo eo cs cl cw wo wv rk rh rd rt rl rs cWs cKp cSh wSo wSz wVl rSz rTc rFa rPa rPy rMi rMe rSr rZ rKi rHe rDo rTx rLa rSk ++ rc_tp E LT pk pv pa pn tc) H := hP
  have hD : va_D A (rw_13 E co ro jo qo yo eo cs cl cw wo wv rk rh rd rt rl rs cWs cKp cSh wSo wSz wVl rSz rTc rFa rPa rPy rMi rMe rSr rZ rKi rHe rDo rTx rLa rSk ++ rc_tp E LT pk pv pa pn tc) := hD
  refine lv_if_ne (tgt := 10) hx hb dX6_reads_4 (by decide) (fun c_2 => ?_) (fun c_2 => ?_)
  · have h := h.1 c_2
    refine lv_aload_n hx hb dX6_reads_10 rfl (lv_at hl 0 rfl) ?_
    refine va_get (D := E.1) (ci := 6) (v := .ref cs) (C := RX6) (T := TX6) (N := 10) hx hb hts n_X6 hown hK hP 0 rfl rfl 5 (by decide) k_38 (fun _ h9 => h9) rfl dX6_reads_11 ?_
    refine lv_iload_n hx hb dX6_reads_14 rfl (lv_at hl 1 rfl) ?_
    obtain ⟨o_3, h⟩ := h
    refine va_aldq hx hb hK hP 1 3 rfl rfl o_3 dX6_reads_15 ?_
    obtain ⟨s_4, h⟩ := h
    refine W.eq (g2 := F0 m 16 ls [.ref wo]) (by rw [s_4]; rfl) ?_
    refine lv_astore_n (lv' := [(2, .ref wo), (0, .ref co), (1, .int p1)]) hx hb dX6_reads_16 rfl hl (by decide) rfl (fun ls hl => ?_)
    refine lv_aload_n hx hb dX6_reads_17 rfl (lv_at hl 0 rfl) ?_
    have hPc := hP.sub (ws' := (rw_1 E wo wv wSo wSz wVl)) [2, 3] rfl
    have hDc := hD.sub (ws' := (rw_1 E wo wv wSo wSz wVl)) [2, 3] (by decide) rfl
    have hFc := va_free (wc := (rw_1 E wo wv wSo wSz wVl)) hD hS hA [2, 3] rfl
    refine va_calli (va_runV (As := []) (rest := []) ⟨hx, hb, hml, hown, hts⟩ (c_X2_isMissing l E wo wv H.size wSo wSz wVl _ h) (cwV 0 hts gX6_reads_X2_isMissing rfl rfl rfl (by decide +kernel) ⟨Nat.le_of_ble_eq_true rfl, Nat.le_of_ble_eq_true rfl⟩) ⟨fun a U g mk q => ⟨q.1, q.2.blind⟩, va_recv hK hPc (ci := 2) (q0 := 0) rfl rfl, fun U hU hW => ⟨rfl, by rw [hU], by rw [hU]; exact hPc, hE.call hS hFc hW hU, hDc.weaken (fun _ _ _ _ => trivial)⟩⟩ rfl rfl hl.1 rfl (lv_room (Nat.le_of_ble_eq_true rfl)) dX6_reads_18 ⟨Nat.zero_le _, Nat.zero_le _⟩) hS (fun q _ h => hFc q h) hFc (fun r_5 u t H1 locs ht hvm h hB hz1 hk1 hS => ?_)
    obtain ⟨hP1, hD1⟩ := hB
    rw [ht] at hP1
    obtain ⟨hP, hD⟩ := rc_foc hP hD [2, 3] [none, none, some 0, some 1, none, none, none, none, none, none, none] (by decide) rfl hk1 hP1 rfl
    generalize H1 = H at hP hS ⊢
    have hP : va_P E.1 vwCl (rw_13 E co ro jo qo yo eo cs cl cw wo wv rk rh rd rt rl rs cWs cKp cSh wSo wSz wVl rSz rTc rFa rPa rPy rMi rMe rSr rZ rKi rHe rDo rTx rLa rSk ++ rc_tp E LT pk pv pa pn tc) H := hP
    have hD : va_D A (rw_13 E co ro jo qo yo eo cs cl cw wo wv rk rh rd rt rl rs cWs cKp cSh wSo wSz wVl rSz rTc rFa rPa rPy rMi rMe rSr rZ rKi rHe rDo rTx rLa rSk ++ rc_tp E LT pk pv pa pn tc) := hD
    refine lv_if_eq (tgt := 27) hx hb dX6_reads_21 (by decide) (fun c_6 => ?_) (fun c_6 => ?_)
    · have h := h.1 c_6
      refine lv_aload_n hx hb dX6_reads_27 rfl (lv_at hl 1 rfl) ?_
      refine va_get (D := E.1) (ci := 6) (v := .ref ro) (C := RX6) (T := TX6) (N := 10) hx hb hts n_X6 hown hK hP 0 rfl rfl 0 (by decide) k_10 (fun _ h9 => h9) rfl dX6_reads_28 ?_
      refine lv_aload_n hx hb dX6_reads_31 rfl (lv_at hl 0 rfl) ?_
      have hPc := hP.part (cx := (rw_5 E ro rk rh rd rt rl rs wo wv rSz rTc rFa rPa rPy rMi rMe rSr rZ rKi rHe rDo rTx rLa rSk wSo wSz wVl)) [4, 5, 6, 7, 8, 9, 10, 2, 3] rfl
      have hDc := hD.part (cx := (rw_5 E ro rk rh rd rt rl rs wo wv rSz rTc rFa rPa rPy rMi rMe rSr rZ rKi rHe rDo rTx rLa rSk wSo wSz wVl)) [4, 5, 6, 7, 8, 9, 10, 2, 3] (by decide) rfl
      have hFc := va_freeP (cx := (rw_5 E ro rk rh rd rt rl rs wo wv rSz rTc rFa rPa rPy rMi rMe rSr rZ rKi rHe rDo rTx rLa rSk wSo wSz wVl)) hD hS hA [4, 5, 6, 7, 8, 9, 10, 2, 3] rfl
      refine va_calli (va_runV (As := [.ref wo]) (rest := []) ⟨hx, hb, hml, hown, hts⟩ (c_X1_firstNotRisk l E ro rk rh rd rt rl rs wo wv H.size rSz rTc rFa rPa rPy rMi rMe rSr rZ rKi rHe rDo rTx rLa rSk wSo wSz wVl LT pk pv pa pn tc _ h) (cwV 1 hts gX6_reads_X1_firstNotRisk rfl rfl rfl (by decide +kernel) ⟨Nat.le_of_ble_eq_true rfl, Nat.le_of_ble_eq_true rfl⟩) ⟨fun a U g mk q => ⟨q.1, q.2.blind⟩, va_recv hK hPc (ci := 1) (q0 := 0) rfl rfl, fun U hU hW => ⟨rfl, by rw [hU], by rw [hU]; exact hPc, hE.call hS hFc hW hU, hDc.weaken (fun _ _ _ _ => trivial)⟩⟩ rfl rfl hl.1 rfl (lv_room (Nat.le_of_ble_eq_true rfl)) dX6_reads_32 ⟨Nat.zero_le _, Nat.zero_le _⟩) hS (fun q _ h => hFc q h) hFc (fun r_7 u t H1 locs ht hvm h hB hz1 hk1 hS => ?_)
      obtain ⟨w_8, rfl⟩ : ∃ z, z = u := ⟨_, rfl⟩
      obtain ⟨hP1, hD1⟩ := hB
      rw [ht] at hP1
      obtain ⟨hP, hD⟩ := rc_focP hP hD [4, 5, 6, 7, 8, 9, 10, 2, 3] [none, none, some 7, some 8, some 0, some 1, some 2, some 3, some 4, some 5, some 6] (by decide) rfl rfl hk1 hP1 rfl
      generalize H1 = H at hP hS ⊢
      have hP : va_P E.1 vwCl (rw_13 E co ro jo qo yo eo cs cl cw wo wv rk rh rd rt rl rs cWs cKp cSh wSo wSz wVl rSz rTc rFa rPa rPy rMi rMe rSr rZ rKi rHe rDo rTx rLa w_8 ++ rc_tp E LT pk pv pa pn tc) H := hP
      have hD : va_D A (rw_13 E co ro jo qo yo eo cs cl cw wo wv rk rh rd rt rl rs cWs cKp cSh wSo wSz wVl rSz rTc rFa rPa rPy rMi rMe rSr rZ rKi rHe rDo rTx rLa w_8 ++ rc_tp E LT pk pv pa pn tc) := hD
      exact hret _ _ _ _ r_7 (w_8) rfl h hP hD hS dX6_reads_35
    · have h := h.2 c_6
      refine lv_ldc hx hb hown k_182 dX6_reads_24 ?_
      exact hret _ _ _ _ (-1000000011) (rSk) rfl h hP hD hS dX6_reads_26
  · have h := h.2 c_2
    refine lv_ldc hx hb hown k_70 dX6_reads_7 ?_
    exact hret _ _ _ _ (-1000000001) (rSk) rfl h hP hD hS dX6_reads_9
def wp_X6_copy (p1 : Int32) (p2 : Int32) (p3 : Int32) (p4 : Int32) (p5 : Int32) (cSh : Nat → Option Nat) (wSo : Int32) (wSz : Int32) (wVl : Nat → Int32) (vSo : Int32) (vSz : Int32) (vVl : Nat → Int32) (wo : Nat) (vo : Nat) (Q : Int32 → (Nat → Int32) → Prop) : Prop :=
  wp_X6_isSheet p1 (fun (r_1 : Int32) => ((r_1 = 0 → Q (-1000000001) vVl) ∧ (¬ (r_1 = 0) → wp_X6_isSheet p3 (fun (r_3 : Int32) => ((¬ r_3 = 0 → (vp_in p1 4 ∧ (cSh p1.toNatClampNeg = some wo ∧ (vp_in p3 4 ∧ (cSh p3.toNatClampNeg = some vo ∧ wp_X2_isMissing wSo (fun (r_9 : Int32) => ((¬ r_9 = 0 → Q (-1000000011) vVl) ∧ (r_9 = 0 → wp_X2_isMissing vSo (fun (r_11 : Int32) => ((r_11 = 0 → ((wSo = vSo → wp_X2_hasStretch p2 p5 wSz (fun (r_14 : Int32) => ((r_14 = 0 → Q (-1000000013) vVl) ∧ (¬ (r_14 = 0) → wp_X2_hasStretch p4 p5 vSz (fun (r_16 : Int32) => ((¬ r_16 = 0 → ((¬ p2 < 0 ∧ ¬ p4 < 0 ∧ ¬ p5 < 0 ∧ p2.toNatClampNeg + p5.toNatClampNeg ≤ 24 ∧ p4.toNatClampNeg + p5.toNatClampNeg ≤ 24) ∧ Q p5 (va_cpy wVl vVl p2.toNatClampNeg p4.toNatClampNeg p5.toNatClampNeg))) ∧ (r_16 = 0 → Q (-1000000013) vVl))))))) ∧ (¬ (wSo = vSo) → Q (-1000000012) vVl))) ∧ (¬ (r_11 = 0) → Q (-1000000011) vVl))))))))))) ∧ (r_3 = 0 → Q (-1000000001) vVl))))))
set_option maxHeartbeats 4000000 in
set_option maxRecDepth 100000 in
theorem c_X6_copy (l : Launch) (E : gE) (co ro jo qo yo eo cs cl cw wo wv vo vv : Nat) (sz : Nat) (cWs : Int32) (cKp : Int32) (cSh : Nat → Option Nat) (wSo : Int32) (wSz : Int32) (wVl : Nat → Int32) (vSo : Int32) (vSz : Int32) (vVl : Nat → Int32) (p1 p2 p3 p4 p5 : Int32)  (Q : Int32 → (Nat → Int32) → Prop) (h : wp_X6_copy p1 p2 p3 p4 p5 cSh wSo wSz wVl vSo vSz vVl wo vo Q) : Met l yX6_copy wsX6_copy ({ frames := 1, cells := 0, slots := 0, locals := 60 } : Room) (va_Pc [.ref co, .int p1, .int p2, .int p3, .int p4, .int p5] (rc_B E (rw_14 E co ro jo qo yo eo cs cl cw wo wv vo vv cWs cKp cSh wSo wSz wVl vSo vSz vVl) sz)) (va_Qi (S := (Nat → Int32)) (fun (r : Int32) (u : (Nat → Int32)) => Q r u) (fun u t => rc_C E (va_A (rw_14 E co ro jo qo yo eo cs cl cw wo wv vo vv cWs cKp cSh wSo wSz wVl vSo vSz vVl) sz) (rw_14 E co ro jo qo yo eo cs cl cw wo wv vo vv cWs cKp cSh wSo wSz wVl vSo vSz u) t) (va_A (rw_14 E co ro jo qo yo eo cs cl cw wo wv vo vv cWs cKp cSh wSo wSz wVl vSo vSz vVl) sz)) 0 0 (va_A (rw_14 E co ro jo qo yo eo cs cl cw wo wv vo vv cWs cKp cSh wSo wSz wVl vSo vSz vVl) sz) := by
  refine rc_enterI (cc := cX6_copy) (maxL := 8) (by decide) rfl (Nat.le_of_ble_eq_true rfl) ?_
  intro p e s m args below meth c QQ A hx hb hml hown hts hmn hE hP hD hA hret ls hl
  have hown : s.vm.findClass RX6 = some m.cls := hown
  have hK := hE.1
  have hS : va_S A s.heap s.heap [] := va_S.rf
  have hl : lv_has ls 8 [(0, .ref co), (1, .int p1), (2, .int p2), (3, .int p3), (4, .int p4), (5, .int p5)] := hl
  have n_X2 : ∀ w ∈ wsX20, w ∈ wsX6_copy := fun _ h => List.mem_cons_of_mem _ (List.mem_append_right _ h)
  have n_X6 : ∀ w ∈ wsX60, w ∈ wsX6_copy := fun _ h => List.mem_cons_of_mem _ (List.mem_append_left _ (List.mem_append_right _ h))
  have k_70 := hts (.constant RX6 70 (-1000000001)) (List.mem_of_getElem? (i := 1) rfl)
  have k_38 := hts (.fieldLink RX6 38 "RidgeClaps" "sheets" "[LRidgeClaps$Row;") (List.mem_of_getElem? (i := 2) rfl)
  have k_182 := hts (.constant RX6 182 (-1000000011)) (List.mem_of_getElem? (i := 3) rfl)
  have k_248 := hts (.fieldLink RX6 248 "RidgeClaps$Row" "sort" "I") (List.mem_of_getElem? (i := 4) rfl)
  have k_247 := hts (.constant RX6 247 (-1000000013)) (List.mem_of_getElem? (i := 6) rfl)
  have k_251 := hts (.fieldLink RX6 251 "RidgeClaps$Row" "values" "[I") (List.mem_of_getElem? (i := 7) rfl)
  have k_266 := hts (.methodLink RX6 266 arraycopyName) (List.mem_of_getElem? (i := 8) rfl)
  have k_nat := hts (.native arraycopyName) (List.mem_of_getElem? (i := 9) rfl)
  have k_sta := hts (.static arraycopyName) (List.mem_of_getElem? (i := 10) rfl)
  have k_sys := hts (.initialized "java/lang/System") (List.mem_of_getElem? (i := 11) rfl)
  have k_103 := hts (.constant RX6 103 (-1000000012)) (List.mem_of_getElem? (i := 5) rfl)
  unfold wp_X6_copy at h
  obtain ⟨H, hH⟩ : ∃ H, H = s.heap := ⟨_, rfl⟩
  obtain ⟨locs, hlocs⟩ : ∃ locs : List Loc, locs = [] := ⟨_, rfl⟩
  have hP : va_P E.1 vwCl (rw_14 E co ro jo qo yo eo cs cl cw wo wv vo vv cWs cKp cSh wSo wSz wVl vSo vSz vVl) H := by rw [hH]; exact hP
  have hS : va_S A s.heap H locs := by rw [hH, hlocs]; exact hS
  suffices hgo : W p l e ({ frames := 1, cells := 0, slots := 0, locals := 60 } : Room) s m args below meth c H locs 0 0 QQ (F0 m 0 ls []) from by rw [hH, hlocs] at hgo; exact hgo
  refine lv_iload_n hx hb dX6_copy_0 rfl (lv_at hl 1 rfl) ?_
  have hPc := hP.sub (ws' := []) [] rfl
  have hDc := hD.sub (ws' := []) [] (by decide) rfl
  have hFc := va_free (wc := []) hD hS hA [] rfl
  refine va_calli (va_runS (As := [.int p1]) (rest := []) ⟨hx, hb, hml, hown, hts⟩ (c_X6_isSheet l E H.size p1 _ h) (va_cwS 1 hts gX6_copy_X6_isSheet rfl rfl rfl (by decide +kernel) ⟨Nat.le_of_ble_eq_true rfl, Nat.le_of_ble_eq_true rfl⟩) ⟨fun a U g mk q => ⟨q.1, q.2.blind⟩, fun U hU hW => ⟨rfl, by rw [hU], by rw [hU]; exact hPc, hE.call hS hFc hW hU, hDc.weaken (fun _ _ _ _ => trivial)⟩⟩ rfl rfl hl.1 rfl (lv_room (Nat.le_of_ble_eq_true rfl)) dX6_copy_1 ⟨Nat.zero_le _, Nat.zero_le _⟩) hS (fun q _ h => hFc q h) hFc (fun r_1 u t H1 locs ht hvm h hB hz1 hk1 hS => ?_)
  obtain ⟨hP1, hD1⟩ := hB
  rw [ht] at hP1
  obtain ⟨hP, hD⟩ := rc_foc hP hD [] [none, none, none, none, none, none] (by decide) rfl hk1 hP1 rfl
  generalize H1 = H at hP hS ⊢
  have hP : va_P E.1 vwCl (rw_14 E co ro jo qo yo eo cs cl cw wo wv vo vv cWs cKp cSh wSo wSz wVl vSo vSz vVl) H := hP
  have hD : va_D A (rw_14 E co ro jo qo yo eo cs cl cw wo wv vo vv cWs cKp cSh wSo wSz wVl vSo vSz vVl) := hD
  refine lv_if_eq (tgt := 14) hx hb dX6_copy_4 (by decide) (fun c_2 => ?_) (fun c_2 => ?_)
  · have h := h.1 c_2
    refine lv_ldc hx hb hown k_70 dX6_copy_14 ?_
    exact hret _ _ _ _ (-1000000001) (vVl) rfl h hP hD hS dX6_copy_16
  · have h := h.2 c_2
    refine lv_iload_n hx hb dX6_copy_7 rfl (lv_at hl 3 rfl) ?_
    have hPc := hP.sub (ws' := []) [] rfl
    have hDc := hD.sub (ws' := []) [] (by decide) rfl
    have hFc := va_free (wc := []) hD hS hA [] rfl
    refine va_calli (va_runS (As := [.int p3]) (rest := []) ⟨hx, hb, hml, hown, hts⟩ (c_X6_isSheet l E H.size p3 _ h) (va_cwS 1 hts gX6_copy_X6_isSheet rfl rfl rfl (by decide +kernel) ⟨Nat.le_of_ble_eq_true rfl, Nat.le_of_ble_eq_true rfl⟩) ⟨fun a U g mk q => ⟨q.1, q.2.blind⟩, fun U hU hW => ⟨rfl, by rw [hU], by rw [hU]; exact hPc, hE.call hS hFc hW hU, hDc.weaken (fun _ _ _ _ => trivial)⟩⟩ rfl rfl hl.1 rfl (lv_room (Nat.le_of_ble_eq_true rfl)) dX6_copy_8 ⟨Nat.zero_le _, Nat.zero_le _⟩) hS (fun q _ h => hFc q h) hFc (fun r_3 u t H1 locs ht hvm h hB hz1 hk1 hS => ?_)
    obtain ⟨hP1, hD1⟩ := hB
    rw [ht] at hP1
    obtain ⟨hP, hD⟩ := rc_foc hP hD [] [none, none, none, none, none, none] (by decide) rfl hk1 hP1 rfl
    generalize H1 = H at hP hS ⊢
    have hP : va_P E.1 vwCl (rw_14 E co ro jo qo yo eo cs cl cw wo wv vo vv cWs cKp cSh wSo wSz wVl vSo vSz vVl) H := hP
    have hD : va_D A (rw_14 E co ro jo qo yo eo cs cl cw wo wv vo vv cWs cKp cSh wSo wSz wVl vSo vSz vVl) := hD
    refine lv_if_ne (tgt := 17) hx hb dX6_copy_11 (by decide) (fun c_4 => ?_) (fun c_4 => ?_)
    · have h := h.1 c_4
      refine lv_aload_n hx hb dX6_copy_17 rfl (lv_at hl 0 rfl) ?_
      refine va_get (D := E.1) (ci := 6) (v := .ref cs) (C := RX6) (T := TX6) (N := 10) hx hb hts n_X6 hown hK hP 0 rfl rfl 5 (by decide) k_38 (fun _ h9 => h9) rfl dX6_copy_18 ?_
      refine lv_iload_n hx hb dX6_copy_21 rfl (lv_at hl 1 rfl) ?_
      obtain ⟨o_5, h⟩ := h
      refine va_aldq hx hb hK hP 1 3 rfl rfl o_5 dX6_copy_22 ?_
      obtain ⟨s_6, h⟩ := h
      refine W.eq (g2 := F0 m 23 ls [.ref wo]) (by rw [s_6]; rfl) ?_
      refine lv_astore (lv' := [(6, .ref wo), (0, .ref co), (1, .int p1), (2, .int p2), (3, .int p3), (4, .int p4), (5, .int p5)]) hx hb dX6_copy_23 hl (by decide) rfl (fun ls hl => ?_)
      refine lv_aload_n hx hb dX6_copy_25 rfl (lv_at hl 1 rfl) ?_
      refine va_get (D := E.1) (ci := 6) (v := .ref cs) (C := RX6) (T := TX6) (N := 10) hx hb hts n_X6 hown hK hP 0 rfl rfl 5 (by decide) k_38 (fun _ h9 => h9) rfl dX6_copy_26 ?_
      refine lv_iload_n hx hb dX6_copy_29 rfl (lv_at hl 4 rfl) ?_
      obtain ⟨o_7, h⟩ := h
      refine va_aldq hx hb hK hP 1 3 rfl rfl o_7 dX6_copy_30 ?_
      obtain ⟨s_8, h⟩ := h
      refine W.eq (g2 := F0 m 31 ls [.ref vo]) (by rw [s_8]; rfl) ?_
      refine lv_astore (lv' := [(7, .ref vo), (6, .ref wo), (0, .ref co), (1, .int p1), (2, .int p2), (3, .int p3), (4, .int p4), (5, .int p5)]) hx hb dX6_copy_31 hl (by decide) rfl (fun ls hl => ?_)
      refine lv_aload hx hb dX6_copy_33 (lv_at hl 1 rfl) ?_
      have hPc := hP.sub (ws' := (rw_1 E wo wv wSo wSz wVl)) [2, 3] rfl
      have hDc := hD.sub (ws' := (rw_1 E wo wv wSo wSz wVl)) [2, 3] (by decide) rfl
      have hFc := va_free (wc := (rw_1 E wo wv wSo wSz wVl)) hD hS hA [2, 3] rfl
      refine va_calli (va_runV (As := []) (rest := []) ⟨hx, hb, hml, hown, hts⟩ (c_X2_isMissing l E wo wv H.size wSo wSz wVl _ h) (cwV 0 hts gX6_copy_X2_isMissing rfl rfl rfl (by decide +kernel) ⟨Nat.le_of_ble_eq_true rfl, Nat.le_of_ble_eq_true rfl⟩) ⟨fun a U g mk q => ⟨q.1, q.2.blind⟩, va_recv hK hPc (ci := 2) (q0 := 0) rfl rfl, fun U hU hW => ⟨rfl, by rw [hU], by rw [hU]; exact hPc, hE.call hS hFc hW hU, hDc.weaken (fun _ _ _ _ => trivial)⟩⟩ rfl rfl hl.1 rfl (lv_room (Nat.le_of_ble_eq_true rfl)) dX6_copy_35 ⟨Nat.zero_le _, Nat.zero_le _⟩) hS (fun q _ h => hFc q h) hFc (fun r_9 u t H1 locs ht hvm h hB hz1 hk1 hS => ?_)
      obtain ⟨hP1, hD1⟩ := hB
      rw [ht] at hP1
      obtain ⟨hP, hD⟩ := rc_foc hP hD [2, 3] [none, none, some 0, some 1, none, none] (by decide) rfl hk1 hP1 rfl
      generalize H1 = H at hP hS ⊢
      have hP : va_P E.1 vwCl (rw_14 E co ro jo qo yo eo cs cl cw wo wv vo vv cWs cKp cSh wSo wSz wVl vSo vSz vVl) H := hP
      have hD : va_D A (rw_14 E co ro jo qo yo eo cs cl cw wo wv vo vv cWs cKp cSh wSo wSz wVl vSo vSz vVl) := hD
      refine lv_if_ne (tgt := 49) hx hb dX6_copy_38 (by decide) (fun c_10 => ?_) (fun c_10 => ?_)
      · have h := h.1 c_10
        refine lv_ldc hx hb hown k_182 dX6_copy_49 ?_
        exact hret _ _ _ _ (-1000000011) (vVl) rfl h hP hD hS dX6_copy_51
      · have h := h.2 c_10
        refine lv_aload hx hb dX6_copy_41 (lv_at hl 0 rfl) ?_
        have hPc := hP.sub (ws' := (rw_1 E vo vv vSo vSz vVl)) [4, 5] rfl
        have hDc := hD.sub (ws' := (rw_1 E vo vv vSo vSz vVl)) [4, 5] (by decide) rfl
        have hFc := va_free (wc := (rw_1 E vo vv vSo vSz vVl)) hD hS hA [4, 5] rfl
        refine va_calli (va_runV (As := []) (rest := []) ⟨hx, hb, hml, hown, hts⟩ (c_X2_isMissing l E vo vv H.size vSo vSz vVl _ h) (cwV 0 hts gX6_copy_X2_isMissing rfl rfl rfl (by decide +kernel) ⟨Nat.le_of_ble_eq_true rfl, Nat.le_of_ble_eq_true rfl⟩) ⟨fun a U g mk q => ⟨q.1, q.2.blind⟩, va_recv hK hPc (ci := 2) (q0 := 0) rfl rfl, fun U hU hW => ⟨rfl, by rw [hU], by rw [hU]; exact hPc, hE.call hS hFc hW hU, hDc.weaken (fun _ _ _ _ => trivial)⟩⟩ rfl rfl hl.1 rfl (lv_room (Nat.le_of_ble_eq_true rfl)) dX6_copy_43 ⟨Nat.zero_le _, Nat.zero_le _⟩) hS (fun q _ h => hFc q h) hFc (fun r_11 u t H1 locs ht hvm h hB hz1 hk1 hS => ?_)
        obtain ⟨hP1, hD1⟩ := hB
        rw [ht] at hP1
        obtain ⟨hP, hD⟩ := rc_foc hP hD [4, 5] [none, none, none, none, some 0, some 1] (by decide) rfl hk1 hP1 rfl
        generalize H1 = H at hP hS ⊢
        have hP : va_P E.1 vwCl (rw_14 E co ro jo qo yo eo cs cl cw wo wv vo vv cWs cKp cSh wSo wSz wVl vSo vSz vVl) H := hP
        have hD : va_D A (rw_14 E co ro jo qo yo eo cs cl cw wo wv vo vv cWs cKp cSh wSo wSz wVl vSo vSz vVl) := hD
        refine lv_if_eq (tgt := 52) hx hb dX6_copy_46 (by decide) (fun c_12 => ?_) (fun c_12 => ?_)
        · have h := h.1 c_12
          refine lv_aload hx hb dX6_copy_52 (lv_at hl 1 rfl) ?_
          refine va_get (D := E.1) (ci := 2) (v := .int wSo) (C := RX2) (T := TX2) (N := 3) hx hb hts n_X2 hown hK hP 2 rfl rfl 0 (by decide) k_248 (fun _ h9 => h9) rfl dX6_copy_54 ?_
          refine lv_aload hx hb dX6_copy_57 (lv_at hl 0 rfl) ?_
          refine va_get (D := E.1) (ci := 2) (v := .int vSo) (C := RX2) (T := TX2) (N := 3) hx hb hts n_X2 hown hK hP 4 rfl rfl 0 (by decide) k_248 (fun _ h9 => h9) rfl dX6_copy_59 ?_
          refine lv_icmp_eq (tgt := 68) hx hb dX6_copy_62 (by decide) (fun c_13 => ?_) (fun c_13 => ?_)
          · have h := h.1 c_13
            refine lv_aload hx hb dX6_copy_68 (lv_at hl 1 rfl) ?_
            refine lv_iload_n hx hb dX6_copy_70 rfl (lv_at hl 4 rfl) ?_
            refine lv_iload hx hb dX6_copy_71 (lv_at hl 7 rfl) ?_
            have hPc := hP.sub (ws' := (rw_1 E wo wv wSo wSz wVl)) [2, 3] rfl
            have hDc := hD.sub (ws' := (rw_1 E wo wv wSo wSz wVl)) [2, 3] (by decide) rfl
            have hFc := va_free (wc := (rw_1 E wo wv wSo wSz wVl)) hD hS hA [2, 3] rfl
            refine va_calli (va_runV (As := [.int p2, .int p5]) (rest := []) ⟨hx, hb, hml, hown, hts⟩ (c_X2_hasStretch l E wo wv H.size wSo wSz wVl p2 p5 _ h) (cwV 2 hts gX6_copy_X2_hasStretch rfl rfl rfl (by decide +kernel) ⟨Nat.le_of_ble_eq_true rfl, Nat.le_of_ble_eq_true rfl⟩) ⟨fun a U g mk q => ⟨q.1, q.2.blind⟩, va_recv hK hPc (ci := 2) (q0 := 0) rfl rfl, fun U hU hW => ⟨rfl, by rw [hU], by rw [hU]; exact hPc, hE.call hS hFc hW hU, hDc.weaken (fun _ _ _ _ => trivial)⟩⟩ rfl rfl hl.1 rfl (lv_room (Nat.le_of_ble_eq_true rfl)) dX6_copy_73 ⟨Nat.zero_le _, Nat.zero_le _⟩) hS (fun q _ h => hFc q h) hFc (fun r_14 u t H1 locs ht hvm h hB hz1 hk1 hS => ?_)
            obtain ⟨hP1, hD1⟩ := hB
            rw [ht] at hP1
            obtain ⟨hP, hD⟩ := rc_foc hP hD [2, 3] [none, none, some 0, some 1, none, none] (by decide) rfl hk1 hP1 rfl
            generalize H1 = H at hP hS ⊢
            have hP : va_P E.1 vwCl (rw_14 E co ro jo qo yo eo cs cl cw wo wv vo vv cWs cKp cSh wSo wSz wVl vSo vSz vVl) H := hP
            have hD : va_D A (rw_14 E co ro jo qo yo eo cs cl cw wo wv vo vv cWs cKp cSh wSo wSz wVl vSo vSz vVl) := hD
            refine lv_if_eq (tgt := 91) hx hb dX6_copy_76 (by decide) (fun c_15 => ?_) (fun c_15 => ?_)
            · have h := h.1 c_15
              refine lv_ldc hx hb hown k_247 dX6_copy_91 ?_
              exact hret _ _ _ _ (-1000000013) (vVl) rfl h hP hD hS dX6_copy_93
            · have h := h.2 c_15
              refine lv_aload hx hb dX6_copy_79 (lv_at hl 0 rfl) ?_
              refine lv_iload hx hb dX6_copy_81 (lv_at hl 6 rfl) ?_
              refine lv_iload hx hb dX6_copy_83 (lv_at hl 7 rfl) ?_
              have hPc := hP.sub (ws' := (rw_1 E vo vv vSo vSz vVl)) [4, 5] rfl
              have hDc := hD.sub (ws' := (rw_1 E vo vv vSo vSz vVl)) [4, 5] (by decide) rfl
              have hFc := va_free (wc := (rw_1 E vo vv vSo vSz vVl)) hD hS hA [4, 5] rfl
              refine va_calli (va_runV (As := [.int p4, .int p5]) (rest := []) ⟨hx, hb, hml, hown, hts⟩ (c_X2_hasStretch l E vo vv H.size vSo vSz vVl p4 p5 _ h) (cwV 2 hts gX6_copy_X2_hasStretch rfl rfl rfl (by decide +kernel) ⟨Nat.le_of_ble_eq_true rfl, Nat.le_of_ble_eq_true rfl⟩) ⟨fun a U g mk q => ⟨q.1, q.2.blind⟩, va_recv hK hPc (ci := 2) (q0 := 0) rfl rfl, fun U hU hW => ⟨rfl, by rw [hU], by rw [hU]; exact hPc, hE.call hS hFc hW hU, hDc.weaken (fun _ _ _ _ => trivial)⟩⟩ rfl rfl hl.1 rfl (lv_room (Nat.le_of_ble_eq_true rfl)) dX6_copy_85 ⟨Nat.zero_le _, Nat.zero_le _⟩) hS (fun q _ h => hFc q h) hFc (fun r_16 u t H1 locs ht hvm h hB hz1 hk1 hS => ?_)
              obtain ⟨hP1, hD1⟩ := hB
              rw [ht] at hP1
              obtain ⟨hP, hD⟩ := rc_foc hP hD [4, 5] [none, none, none, none, some 0, some 1] (by decide) rfl hk1 hP1 rfl
              generalize H1 = H at hP hS ⊢
              have hP : va_P E.1 vwCl (rw_14 E co ro jo qo yo eo cs cl cw wo wv vo vv cWs cKp cSh wSo wSz wVl vSo vSz vVl) H := hP
              have hD : va_D A (rw_14 E co ro jo qo yo eo cs cl cw wo wv vo vv cWs cKp cSh wSo wSz wVl vSo vSz vVl) := hD
              refine lv_if_ne (tgt := 94) hx hb dX6_copy_88 (by decide) (fun c_17 => ?_) (fun c_17 => ?_)
              · have h := h.1 c_17
                refine lv_aload hx hb dX6_copy_94 (lv_at hl 1 rfl) ?_
                refine va_get (D := E.1) (ci := 2) (v := .ref wv) (C := RX2) (T := TX2) (N := 3) hx hb hts n_X2 hown hK hP 2 rfl rfl 2 (by decide) k_251 (fun _ h9 => h9) rfl dX6_copy_96 ?_
                refine lv_iload_n hx hb dX6_copy_99 rfl (lv_at hl 4 rfl) ?_
                refine lv_aload hx hb dX6_copy_100 (lv_at hl 0 rfl) ?_
                refine va_get (D := E.1) (ci := 2) (v := .ref vv) (C := RX2) (T := TX2) (N := 3) hx hb hts n_X2 hown hK hP 4 rfl rfl 2 (by decide) k_251 (fun _ h9 => h9) rfl dX6_copy_102 ?_
                refine lv_iload hx hb dX6_copy_105 (lv_at hl 6 rfl) ?_
                refine lv_iload hx hb dX6_copy_107 (lv_at hl 7 rfl) ?_
                obtain ⟨o_18, h⟩ := h
                refine va_copyi hx hb (hml.trans hl.1.symm) hown k_266 k_nat k_sta k_sys hK hP hD hS 3 5 0 0 rfl rfl rfl rfl rfl o_18.1 o_18.2.1 o_18.2.2.1 o_18.2.2.2.1 o_18.2.2.2.2 (fun _ _ => rfl) (Nat.le_of_ble_eq_true rfl) (Nat.le_of_ble_eq_true rfl) dX6_copy_109 (fun H locs hP hD hS => ?_)
                have hP : va_P E.1 vwCl (rw_14 E co ro jo qo yo eo cs cl cw wo wv vo vv cWs cKp cSh wSo wSz wVl vSo vSz (va_cpy wVl vVl p2.toNatClampNeg p4.toNatClampNeg p5.toNatClampNeg)) H := hP
                have hD : va_D A (rw_14 E co ro jo qo yo eo cs cl cw wo wv vo vv cWs cKp cSh wSo wSz wVl vSo vSz (va_cpy wVl vVl p2.toNatClampNeg p4.toNatClampNeg p5.toNatClampNeg)) := hD
                refine lv_iload hx hb dX6_copy_112 (lv_at hl 7 rfl) ?_
                exact hret _ _ _ _ p5 (va_cpy wVl vVl p2.toNatClampNeg p4.toNatClampNeg p5.toNatClampNeg) rfl h hP hD hS dX6_copy_114
              · have h := h.2 c_17
                refine lv_ldc hx hb hown k_247 dX6_copy_91 ?_
                exact hret _ _ _ _ (-1000000013) (vVl) rfl h hP hD hS dX6_copy_93
          · have h := h.2 c_13
            refine lv_ldc hx hb hown k_103 dX6_copy_65 ?_
            exact hret _ _ _ _ (-1000000012) (vVl) rfl h hP hD hS dX6_copy_67
        · have h := h.2 c_12
          refine lv_ldc hx hb hown k_182 dX6_copy_49 ?_
          exact hret _ _ _ _ (-1000000011) (vVl) rfl h hP hD hS dX6_copy_51
    · have h := h.2 c_4
      refine lv_ldc hx hb hown k_70 dX6_copy_14 ?_
      exact hret _ _ _ _ (-1000000001) (vVl) rfl h hP hD hS dX6_copy_16
def wp_X6_copy_s (p1 : Int32) (p2 : Int32) (p3 : Int32) (p4 : Int32) (p5 : Int32) (cSh : Nat → Option Nat) (wSo : Int32) (wSz : Int32) (wVl : Nat → Int32) (wo : Nat) (Q : Int32 → (Nat → Int32) → Prop) : Prop :=
  wp_X6_isSheet p1 (fun (r_1 : Int32) => ((r_1 = 0 → Q (-1000000001) wVl) ∧ (¬ (r_1 = 0) → wp_X6_isSheet p3 (fun (r_3 : Int32) => ((¬ r_3 = 0 → (vp_in p1 4 ∧ (cSh p1.toNatClampNeg = some wo ∧ (vp_in p3 4 ∧ (cSh p3.toNatClampNeg = some wo ∧ wp_X2_isMissing wSo (fun (r_9 : Int32) => ((¬ r_9 = 0 → Q (-1000000011) wVl) ∧ (r_9 = 0 → wp_X2_isMissing wSo (fun (r_11 : Int32) => ((r_11 = 0 → ((wSo = wSo → wp_X2_hasStretch p2 p5 wSz (fun (r_14 : Int32) => ((r_14 = 0 → Q (-1000000013) wVl) ∧ (¬ (r_14 = 0) → wp_X2_hasStretch p4 p5 wSz (fun (r_16 : Int32) => ((¬ r_16 = 0 → ((¬ p2 < 0 ∧ ¬ p4 < 0 ∧ ¬ p5 < 0 ∧ p2.toNatClampNeg + p5.toNatClampNeg ≤ 24 ∧ p4.toNatClampNeg + p5.toNatClampNeg ≤ 24) ∧ Q p5 (va_cpy wVl wVl p2.toNatClampNeg p4.toNatClampNeg p5.toNatClampNeg))) ∧ (r_16 = 0 → Q (-1000000013) wVl))))))) ∧ (¬ (wSo = wSo) → Q (-1000000012) wVl))) ∧ (¬ (r_11 = 0) → Q (-1000000011) wVl))))))))))) ∧ (r_3 = 0 → Q (-1000000001) wVl))))))
set_option maxHeartbeats 4000000 in
set_option maxRecDepth 100000 in
theorem c_X6_copy_s (l : Launch) (E : gE) (co ro jo qo yo eo cs cl cw wo wv : Nat) (sz : Nat) (cWs : Int32) (cKp : Int32) (cSh : Nat → Option Nat) (wSo : Int32) (wSz : Int32) (wVl : Nat → Int32) (p1 p2 p3 p4 p5 : Int32)  (Q : Int32 → (Nat → Int32) → Prop) (h : wp_X6_copy_s p1 p2 p3 p4 p5 cSh wSo wSz wVl wo Q) : Met l yX6_copy wsX6_copy ({ frames := 1, cells := 0, slots := 0, locals := 60 } : Room) (va_Pc [.ref co, .int p1, .int p2, .int p3, .int p4, .int p5] (rc_B E (rw_12 E co ro jo qo yo eo cs cl cw wo wv cWs cKp cSh wSo wSz wVl) sz)) (va_Qi (S := (Nat → Int32)) (fun (r : Int32) (u : (Nat → Int32)) => Q r u) (fun u t => rc_C E (va_A (rw_12 E co ro jo qo yo eo cs cl cw wo wv cWs cKp cSh wSo wSz wVl) sz) (rw_12 E co ro jo qo yo eo cs cl cw wo wv cWs cKp cSh wSo wSz u) t) (va_A (rw_12 E co ro jo qo yo eo cs cl cw wo wv cWs cKp cSh wSo wSz wVl) sz)) 0 0 (va_A (rw_12 E co ro jo qo yo eo cs cl cw wo wv cWs cKp cSh wSo wSz wVl) sz) := by
  refine rc_enterI (cc := cX6_copy) (maxL := 8) (by decide) rfl (Nat.le_of_ble_eq_true rfl) ?_
  intro p e s m args below meth c QQ A hx hb hml hown hts hmn hE hP hD hA hret ls hl
  have hown : s.vm.findClass RX6 = some m.cls := hown
  have hK := hE.1
  have hS : va_S A s.heap s.heap [] := va_S.rf
  have hl : lv_has ls 8 [(0, .ref co), (1, .int p1), (2, .int p2), (3, .int p3), (4, .int p4), (5, .int p5)] := hl
  have n_X2 : ∀ w ∈ wsX20, w ∈ wsX6_copy := fun _ h => List.mem_cons_of_mem _ (List.mem_append_right _ h)
  have n_X6 : ∀ w ∈ wsX60, w ∈ wsX6_copy := fun _ h => List.mem_cons_of_mem _ (List.mem_append_left _ (List.mem_append_right _ h))
  have k_70 := hts (.constant RX6 70 (-1000000001)) (List.mem_of_getElem? (i := 1) rfl)
  have k_38 := hts (.fieldLink RX6 38 "RidgeClaps" "sheets" "[LRidgeClaps$Row;") (List.mem_of_getElem? (i := 2) rfl)
  have k_182 := hts (.constant RX6 182 (-1000000011)) (List.mem_of_getElem? (i := 3) rfl)
  have k_248 := hts (.fieldLink RX6 248 "RidgeClaps$Row" "sort" "I") (List.mem_of_getElem? (i := 4) rfl)
  have k_247 := hts (.constant RX6 247 (-1000000013)) (List.mem_of_getElem? (i := 6) rfl)
  have k_251 := hts (.fieldLink RX6 251 "RidgeClaps$Row" "values" "[I") (List.mem_of_getElem? (i := 7) rfl)
  have k_266 := hts (.methodLink RX6 266 arraycopyName) (List.mem_of_getElem? (i := 8) rfl)
  have k_nat := hts (.native arraycopyName) (List.mem_of_getElem? (i := 9) rfl)
  have k_sta := hts (.static arraycopyName) (List.mem_of_getElem? (i := 10) rfl)
  have k_sys := hts (.initialized "java/lang/System") (List.mem_of_getElem? (i := 11) rfl)
  have k_103 := hts (.constant RX6 103 (-1000000012)) (List.mem_of_getElem? (i := 5) rfl)
  unfold wp_X6_copy_s at h
  obtain ⟨H, hH⟩ : ∃ H, H = s.heap := ⟨_, rfl⟩
  obtain ⟨locs, hlocs⟩ : ∃ locs : List Loc, locs = [] := ⟨_, rfl⟩
  have hP : va_P E.1 vwCl (rw_12 E co ro jo qo yo eo cs cl cw wo wv cWs cKp cSh wSo wSz wVl) H := by rw [hH]; exact hP
  have hS : va_S A s.heap H locs := by rw [hH, hlocs]; exact hS
  suffices hgo : W p l e ({ frames := 1, cells := 0, slots := 0, locals := 60 } : Room) s m args below meth c H locs 0 0 QQ (F0 m 0 ls []) from by rw [hH, hlocs] at hgo; exact hgo
  refine lv_iload_n hx hb dX6_copy_0 rfl (lv_at hl 1 rfl) ?_
  have hPc := hP.sub (ws' := []) [] rfl
  have hDc := hD.sub (ws' := []) [] (by decide) rfl
  have hFc := va_free (wc := []) hD hS hA [] rfl
  refine va_calli (va_runS (As := [.int p1]) (rest := []) ⟨hx, hb, hml, hown, hts⟩ (c_X6_isSheet l E H.size p1 _ h) (va_cwS 1 hts gX6_copy_X6_isSheet rfl rfl rfl (by decide +kernel) ⟨Nat.le_of_ble_eq_true rfl, Nat.le_of_ble_eq_true rfl⟩) ⟨fun a U g mk q => ⟨q.1, q.2.blind⟩, fun U hU hW => ⟨rfl, by rw [hU], by rw [hU]; exact hPc, hE.call hS hFc hW hU, hDc.weaken (fun _ _ _ _ => trivial)⟩⟩ rfl rfl hl.1 rfl (lv_room (Nat.le_of_ble_eq_true rfl)) dX6_copy_1 ⟨Nat.zero_le _, Nat.zero_le _⟩) hS (fun q _ h => hFc q h) hFc (fun r_1 u t H1 locs ht hvm h hB hz1 hk1 hS => ?_)
  obtain ⟨hP1, hD1⟩ := hB
  rw [ht] at hP1
  obtain ⟨hP, hD⟩ := rc_foc hP hD [] [none, none, none, none] (by decide) rfl hk1 hP1 rfl
  generalize H1 = H at hP hS ⊢
  have hP : va_P E.1 vwCl (rw_12 E co ro jo qo yo eo cs cl cw wo wv cWs cKp cSh wSo wSz wVl) H := hP
  have hD : va_D A (rw_12 E co ro jo qo yo eo cs cl cw wo wv cWs cKp cSh wSo wSz wVl) := hD
  refine lv_if_eq (tgt := 14) hx hb dX6_copy_4 (by decide) (fun c_2 => ?_) (fun c_2 => ?_)
  · have h := h.1 c_2
    refine lv_ldc hx hb hown k_70 dX6_copy_14 ?_
    exact hret _ _ _ _ (-1000000001) (wVl) rfl h hP hD hS dX6_copy_16
  · have h := h.2 c_2
    refine lv_iload_n hx hb dX6_copy_7 rfl (lv_at hl 3 rfl) ?_
    have hPc := hP.sub (ws' := []) [] rfl
    have hDc := hD.sub (ws' := []) [] (by decide) rfl
    have hFc := va_free (wc := []) hD hS hA [] rfl
    refine va_calli (va_runS (As := [.int p3]) (rest := []) ⟨hx, hb, hml, hown, hts⟩ (c_X6_isSheet l E H.size p3 _ h) (va_cwS 1 hts gX6_copy_X6_isSheet rfl rfl rfl (by decide +kernel) ⟨Nat.le_of_ble_eq_true rfl, Nat.le_of_ble_eq_true rfl⟩) ⟨fun a U g mk q => ⟨q.1, q.2.blind⟩, fun U hU hW => ⟨rfl, by rw [hU], by rw [hU]; exact hPc, hE.call hS hFc hW hU, hDc.weaken (fun _ _ _ _ => trivial)⟩⟩ rfl rfl hl.1 rfl (lv_room (Nat.le_of_ble_eq_true rfl)) dX6_copy_8 ⟨Nat.zero_le _, Nat.zero_le _⟩) hS (fun q _ h => hFc q h) hFc (fun r_3 u t H1 locs ht hvm h hB hz1 hk1 hS => ?_)
    obtain ⟨hP1, hD1⟩ := hB
    rw [ht] at hP1
    obtain ⟨hP, hD⟩ := rc_foc hP hD [] [none, none, none, none] (by decide) rfl hk1 hP1 rfl
    generalize H1 = H at hP hS ⊢
    have hP : va_P E.1 vwCl (rw_12 E co ro jo qo yo eo cs cl cw wo wv cWs cKp cSh wSo wSz wVl) H := hP
    have hD : va_D A (rw_12 E co ro jo qo yo eo cs cl cw wo wv cWs cKp cSh wSo wSz wVl) := hD
    refine lv_if_ne (tgt := 17) hx hb dX6_copy_11 (by decide) (fun c_4 => ?_) (fun c_4 => ?_)
    · have h := h.1 c_4
      refine lv_aload_n hx hb dX6_copy_17 rfl (lv_at hl 0 rfl) ?_
      refine va_get (D := E.1) (ci := 6) (v := .ref cs) (C := RX6) (T := TX6) (N := 10) hx hb hts n_X6 hown hK hP 0 rfl rfl 5 (by decide) k_38 (fun _ h9 => h9) rfl dX6_copy_18 ?_
      refine lv_iload_n hx hb dX6_copy_21 rfl (lv_at hl 1 rfl) ?_
      obtain ⟨o_5, h⟩ := h
      refine va_aldq hx hb hK hP 1 3 rfl rfl o_5 dX6_copy_22 ?_
      obtain ⟨s_6, h⟩ := h
      refine W.eq (g2 := F0 m 23 ls [.ref wo]) (by rw [s_6]; rfl) ?_
      refine lv_astore (lv' := [(6, .ref wo), (0, .ref co), (1, .int p1), (2, .int p2), (3, .int p3), (4, .int p4), (5, .int p5)]) hx hb dX6_copy_23 hl (by decide) rfl (fun ls hl => ?_)
      refine lv_aload_n hx hb dX6_copy_25 rfl (lv_at hl 1 rfl) ?_
      refine va_get (D := E.1) (ci := 6) (v := .ref cs) (C := RX6) (T := TX6) (N := 10) hx hb hts n_X6 hown hK hP 0 rfl rfl 5 (by decide) k_38 (fun _ h9 => h9) rfl dX6_copy_26 ?_
      refine lv_iload_n hx hb dX6_copy_29 rfl (lv_at hl 4 rfl) ?_
      obtain ⟨o_7, h⟩ := h
      refine va_aldq hx hb hK hP 1 3 rfl rfl o_7 dX6_copy_30 ?_
      obtain ⟨s_8, h⟩ := h
      refine W.eq (g2 := F0 m 31 ls [.ref wo]) (by rw [s_8]; rfl) ?_
      refine lv_astore (lv' := [(7, .ref wo), (6, .ref wo), (0, .ref co), (1, .int p1), (2, .int p2), (3, .int p3), (4, .int p4), (5, .int p5)]) hx hb dX6_copy_31 hl (by decide) rfl (fun ls hl => ?_)
      refine lv_aload hx hb dX6_copy_33 (lv_at hl 1 rfl) ?_
      have hPc := hP.sub (ws' := (rw_1 E wo wv wSo wSz wVl)) [2, 3] rfl
      have hDc := hD.sub (ws' := (rw_1 E wo wv wSo wSz wVl)) [2, 3] (by decide) rfl
      have hFc := va_free (wc := (rw_1 E wo wv wSo wSz wVl)) hD hS hA [2, 3] rfl
      refine va_calli (va_runV (As := []) (rest := []) ⟨hx, hb, hml, hown, hts⟩ (c_X2_isMissing l E wo wv H.size wSo wSz wVl _ h) (cwV 0 hts gX6_copy_X2_isMissing rfl rfl rfl (by decide +kernel) ⟨Nat.le_of_ble_eq_true rfl, Nat.le_of_ble_eq_true rfl⟩) ⟨fun a U g mk q => ⟨q.1, q.2.blind⟩, va_recv hK hPc (ci := 2) (q0 := 0) rfl rfl, fun U hU hW => ⟨rfl, by rw [hU], by rw [hU]; exact hPc, hE.call hS hFc hW hU, hDc.weaken (fun _ _ _ _ => trivial)⟩⟩ rfl rfl hl.1 rfl (lv_room (Nat.le_of_ble_eq_true rfl)) dX6_copy_35 ⟨Nat.zero_le _, Nat.zero_le _⟩) hS (fun q _ h => hFc q h) hFc (fun r_9 u t H1 locs ht hvm h hB hz1 hk1 hS => ?_)
      obtain ⟨hP1, hD1⟩ := hB
      rw [ht] at hP1
      obtain ⟨hP, hD⟩ := rc_foc hP hD [2, 3] [none, none, some 0, some 1] (by decide) rfl hk1 hP1 rfl
      generalize H1 = H at hP hS ⊢
      have hP : va_P E.1 vwCl (rw_12 E co ro jo qo yo eo cs cl cw wo wv cWs cKp cSh wSo wSz wVl) H := hP
      have hD : va_D A (rw_12 E co ro jo qo yo eo cs cl cw wo wv cWs cKp cSh wSo wSz wVl) := hD
      refine lv_if_ne (tgt := 49) hx hb dX6_copy_38 (by decide) (fun c_10 => ?_) (fun c_10 => ?_)
      · have h := h.1 c_10
        refine lv_ldc hx hb hown k_182 dX6_copy_49 ?_
        exact hret _ _ _ _ (-1000000011) (wVl) rfl h hP hD hS dX6_copy_51
      · have h := h.2 c_10
        refine lv_aload hx hb dX6_copy_41 (lv_at hl 0 rfl) ?_
        have hPc := hP.sub (ws' := (rw_1 E wo wv wSo wSz wVl)) [2, 3] rfl
        have hDc := hD.sub (ws' := (rw_1 E wo wv wSo wSz wVl)) [2, 3] (by decide) rfl
        have hFc := va_free (wc := (rw_1 E wo wv wSo wSz wVl)) hD hS hA [2, 3] rfl
        refine va_calli (va_runV (As := []) (rest := []) ⟨hx, hb, hml, hown, hts⟩ (c_X2_isMissing l E wo wv H.size wSo wSz wVl _ h) (cwV 0 hts gX6_copy_X2_isMissing rfl rfl rfl (by decide +kernel) ⟨Nat.le_of_ble_eq_true rfl, Nat.le_of_ble_eq_true rfl⟩) ⟨fun a U g mk q => ⟨q.1, q.2.blind⟩, va_recv hK hPc (ci := 2) (q0 := 0) rfl rfl, fun U hU hW => ⟨rfl, by rw [hU], by rw [hU]; exact hPc, hE.call hS hFc hW hU, hDc.weaken (fun _ _ _ _ => trivial)⟩⟩ rfl rfl hl.1 rfl (lv_room (Nat.le_of_ble_eq_true rfl)) dX6_copy_43 ⟨Nat.zero_le _, Nat.zero_le _⟩) hS (fun q _ h => hFc q h) hFc (fun r_11 u t H1 locs ht hvm h hB hz1 hk1 hS => ?_)
        obtain ⟨hP1, hD1⟩ := hB
        rw [ht] at hP1
        obtain ⟨hP, hD⟩ := rc_foc hP hD [2, 3] [none, none, some 0, some 1] (by decide) rfl hk1 hP1 rfl
        generalize H1 = H at hP hS ⊢
        have hP : va_P E.1 vwCl (rw_12 E co ro jo qo yo eo cs cl cw wo wv cWs cKp cSh wSo wSz wVl) H := hP
        have hD : va_D A (rw_12 E co ro jo qo yo eo cs cl cw wo wv cWs cKp cSh wSo wSz wVl) := hD
        refine lv_if_eq (tgt := 52) hx hb dX6_copy_46 (by decide) (fun c_12 => ?_) (fun c_12 => ?_)
        · have h := h.1 c_12
          refine lv_aload hx hb dX6_copy_52 (lv_at hl 1 rfl) ?_
          refine va_get (D := E.1) (ci := 2) (v := .int wSo) (C := RX2) (T := TX2) (N := 3) hx hb hts n_X2 hown hK hP 2 rfl rfl 0 (by decide) k_248 (fun _ h9 => h9) rfl dX6_copy_54 ?_
          refine lv_aload hx hb dX6_copy_57 (lv_at hl 0 rfl) ?_
          refine va_get (D := E.1) (ci := 2) (v := .int wSo) (C := RX2) (T := TX2) (N := 3) hx hb hts n_X2 hown hK hP 2 rfl rfl 0 (by decide) k_248 (fun _ h9 => h9) rfl dX6_copy_59 ?_
          refine lv_icmp_eq (tgt := 68) hx hb dX6_copy_62 (by decide) (fun c_13 => ?_) (fun c_13 => ?_)
          · have h := h.1 c_13
            refine lv_aload hx hb dX6_copy_68 (lv_at hl 1 rfl) ?_
            refine lv_iload_n hx hb dX6_copy_70 rfl (lv_at hl 4 rfl) ?_
            refine lv_iload hx hb dX6_copy_71 (lv_at hl 7 rfl) ?_
            have hPc := hP.sub (ws' := (rw_1 E wo wv wSo wSz wVl)) [2, 3] rfl
            have hDc := hD.sub (ws' := (rw_1 E wo wv wSo wSz wVl)) [2, 3] (by decide) rfl
            have hFc := va_free (wc := (rw_1 E wo wv wSo wSz wVl)) hD hS hA [2, 3] rfl
            refine va_calli (va_runV (As := [.int p2, .int p5]) (rest := []) ⟨hx, hb, hml, hown, hts⟩ (c_X2_hasStretch l E wo wv H.size wSo wSz wVl p2 p5 _ h) (cwV 2 hts gX6_copy_X2_hasStretch rfl rfl rfl (by decide +kernel) ⟨Nat.le_of_ble_eq_true rfl, Nat.le_of_ble_eq_true rfl⟩) ⟨fun a U g mk q => ⟨q.1, q.2.blind⟩, va_recv hK hPc (ci := 2) (q0 := 0) rfl rfl, fun U hU hW => ⟨rfl, by rw [hU], by rw [hU]; exact hPc, hE.call hS hFc hW hU, hDc.weaken (fun _ _ _ _ => trivial)⟩⟩ rfl rfl hl.1 rfl (lv_room (Nat.le_of_ble_eq_true rfl)) dX6_copy_73 ⟨Nat.zero_le _, Nat.zero_le _⟩) hS (fun q _ h => hFc q h) hFc (fun r_14 u t H1 locs ht hvm h hB hz1 hk1 hS => ?_)
            obtain ⟨hP1, hD1⟩ := hB
            rw [ht] at hP1
            obtain ⟨hP, hD⟩ := rc_foc hP hD [2, 3] [none, none, some 0, some 1] (by decide) rfl hk1 hP1 rfl
            generalize H1 = H at hP hS ⊢
            have hP : va_P E.1 vwCl (rw_12 E co ro jo qo yo eo cs cl cw wo wv cWs cKp cSh wSo wSz wVl) H := hP
            have hD : va_D A (rw_12 E co ro jo qo yo eo cs cl cw wo wv cWs cKp cSh wSo wSz wVl) := hD
            refine lv_if_eq (tgt := 91) hx hb dX6_copy_76 (by decide) (fun c_15 => ?_) (fun c_15 => ?_)
            · have h := h.1 c_15
              refine lv_ldc hx hb hown k_247 dX6_copy_91 ?_
              exact hret _ _ _ _ (-1000000013) (wVl) rfl h hP hD hS dX6_copy_93
            · have h := h.2 c_15
              refine lv_aload hx hb dX6_copy_79 (lv_at hl 0 rfl) ?_
              refine lv_iload hx hb dX6_copy_81 (lv_at hl 6 rfl) ?_
              refine lv_iload hx hb dX6_copy_83 (lv_at hl 7 rfl) ?_
              have hPc := hP.sub (ws' := (rw_1 E wo wv wSo wSz wVl)) [2, 3] rfl
              have hDc := hD.sub (ws' := (rw_1 E wo wv wSo wSz wVl)) [2, 3] (by decide) rfl
              have hFc := va_free (wc := (rw_1 E wo wv wSo wSz wVl)) hD hS hA [2, 3] rfl
              refine va_calli (va_runV (As := [.int p4, .int p5]) (rest := []) ⟨hx, hb, hml, hown, hts⟩ (c_X2_hasStretch l E wo wv H.size wSo wSz wVl p4 p5 _ h) (cwV 2 hts gX6_copy_X2_hasStretch rfl rfl rfl (by decide +kernel) ⟨Nat.le_of_ble_eq_true rfl, Nat.le_of_ble_eq_true rfl⟩) ⟨fun a U g mk q => ⟨q.1, q.2.blind⟩, va_recv hK hPc (ci := 2) (q0 := 0) rfl rfl, fun U hU hW => ⟨rfl, by rw [hU], by rw [hU]; exact hPc, hE.call hS hFc hW hU, hDc.weaken (fun _ _ _ _ => trivial)⟩⟩ rfl rfl hl.1 rfl (lv_room (Nat.le_of_ble_eq_true rfl)) dX6_copy_85 ⟨Nat.zero_le _, Nat.zero_le _⟩) hS (fun q _ h => hFc q h) hFc (fun r_16 u t H1 locs ht hvm h hB hz1 hk1 hS => ?_)
              obtain ⟨hP1, hD1⟩ := hB
              rw [ht] at hP1
              obtain ⟨hP, hD⟩ := rc_foc hP hD [2, 3] [none, none, some 0, some 1] (by decide) rfl hk1 hP1 rfl
              generalize H1 = H at hP hS ⊢
              have hP : va_P E.1 vwCl (rw_12 E co ro jo qo yo eo cs cl cw wo wv cWs cKp cSh wSo wSz wVl) H := hP
              have hD : va_D A (rw_12 E co ro jo qo yo eo cs cl cw wo wv cWs cKp cSh wSo wSz wVl) := hD
              refine lv_if_ne (tgt := 94) hx hb dX6_copy_88 (by decide) (fun c_17 => ?_) (fun c_17 => ?_)
              · have h := h.1 c_17
                refine lv_aload hx hb dX6_copy_94 (lv_at hl 1 rfl) ?_
                refine va_get (D := E.1) (ci := 2) (v := .ref wv) (C := RX2) (T := TX2) (N := 3) hx hb hts n_X2 hown hK hP 2 rfl rfl 2 (by decide) k_251 (fun _ h9 => h9) rfl dX6_copy_96 ?_
                refine lv_iload_n hx hb dX6_copy_99 rfl (lv_at hl 4 rfl) ?_
                refine lv_aload hx hb dX6_copy_100 (lv_at hl 0 rfl) ?_
                refine va_get (D := E.1) (ci := 2) (v := .ref wv) (C := RX2) (T := TX2) (N := 3) hx hb hts n_X2 hown hK hP 2 rfl rfl 2 (by decide) k_251 (fun _ h9 => h9) rfl dX6_copy_102 ?_
                refine lv_iload hx hb dX6_copy_105 (lv_at hl 6 rfl) ?_
                refine lv_iload hx hb dX6_copy_107 (lv_at hl 7 rfl) ?_
                obtain ⟨o_18, h⟩ := h
                refine va_copyi hx hb (hml.trans hl.1.symm) hown k_266 k_nat k_sta k_sys hK hP hD hS 3 3 0 0 rfl rfl rfl rfl rfl o_18.1 o_18.2.1 o_18.2.2.1 o_18.2.2.2.1 o_18.2.2.2.2 (fun _ _ => rfl) (Nat.le_of_ble_eq_true rfl) (Nat.le_of_ble_eq_true rfl) dX6_copy_109 (fun H locs hP hD hS => ?_)
                have hP : va_P E.1 vwCl (rw_12 E co ro jo qo yo eo cs cl cw wo wv cWs cKp cSh wSo wSz (va_cpy wVl wVl p2.toNatClampNeg p4.toNatClampNeg p5.toNatClampNeg)) H := hP
                have hD : va_D A (rw_12 E co ro jo qo yo eo cs cl cw wo wv cWs cKp cSh wSo wSz (va_cpy wVl wVl p2.toNatClampNeg p4.toNatClampNeg p5.toNatClampNeg)) := hD
                refine lv_iload hx hb dX6_copy_112 (lv_at hl 7 rfl) ?_
                exact hret _ _ _ _ p5 (va_cpy wVl wVl p2.toNatClampNeg p4.toNatClampNeg p5.toNatClampNeg) rfl h hP hD hS dX6_copy_114
              · have h := h.2 c_17
                refine lv_ldc hx hb hown k_247 dX6_copy_91 ?_
                exact hret _ _ _ _ (-1000000013) (wVl) rfl h hP hD hS dX6_copy_93
          · have h := h.2 c_13
            refine lv_ldc hx hb hown k_103 dX6_copy_65 ?_
            exact hret _ _ _ _ (-1000000012) (wVl) rfl h hP hD hS dX6_copy_67
        · have h := h.2 c_12
          refine lv_ldc hx hb hown k_182 dX6_copy_49 ?_
          exact hret _ _ _ _ (-1000000011) (wVl) rfl h hP hD hS dX6_copy_51
    · have h := h.2 c_4
      refine lv_ldc hx hb hown k_70 dX6_copy_14 ?_
      exact hret _ _ _ _ (-1000000001) (wVl) rfl h hP hD hS dX6_copy_16
def jp_X6_lay_70 (p1 : Int32) (p2 : Int32) (p3 : Int32) (cSl : Nat → Option Nat) (cSh : Nat → Option Nat) (wSo : Int32) (wSz : Int32) (wVl : Nat → Int32) (rKi : Nat → Int32) (rHe : Nat → Int32) (zo : Nat) (wo : Nat)  (Q : Int32 → Int32 → Int32 → Int32 → Int32 → Int32 → Int32 → (Nat → Int32) → Prop) (zTh : Int32) (zKi : Int32) (zHe : Int32) (zNu : Int32) (xSo : Int32) (xSz : Int32) (xVl : Nat → Int32) : Prop :=
  (vp_in p1 5 ∧ (cSl p1.toNatClampNeg = some zo ∧ ((¬ p2 = 1 → ((¬ p2 = 2 → ((¬ p2 = 3 → Q zTh p2 zKi zHe zNu xSo xSz xVl) ∧ (p2 = 3 → Q zTh p2 zKi zHe p3 xSo xSz xVl))) ∧ (p2 = 2 → (vp_in p3 4 ∧ (cSh p3.toNatClampNeg = some wo ∧ wp_X2_become xVl wSo wSz wVl (fun (w_8 : Int32) (w_9 : Int32) (w_10 : Nat → Int32) => Q zTh p2 zKi zHe zNu w_8 w_9 w_10)))))) ∧ (p2 = 1 → (vp_in p3 24 ∧ (vp_in p3 24 ∧ wp_X3_takePlace (rKi p3.toNatClampNeg) (rHe p3.toNatClampNeg) (fun (w_13 : Int32) (w_14 : Int32) => Q zTh p2 w_13 w_14 zNu xSo xSz xVl)))))))
def jp_X6_lay_50 (p1 : Int32) (p2 : Int32) (p3 : Int32) (cSl : Nat → Option Nat) (cSh : Nat → Option Nat) (wSo : Int32) (wSz : Int32) (wVl : Nat → Int32) (rKi : Nat → Int32) (rHe : Nat → Int32) (zo : Nat) (wo : Nat)  (Q : Int32 → Int32 → Int32 → Int32 → Int32 → Int32 → Int32 → (Nat → Int32) → Prop) (zTh : Int32) (zKi : Int32) (zHe : Int32) (zNu : Int32) (xSo : Int32) (xSz : Int32) (xVl : Nat → Int32) : Prop :=
  ((¬ p2 = 2 → jp_X6_lay_70 p1 p2 p3 cSl cSh wSo wSz wVl rKi rHe zo wo Q zTh zKi zHe zNu xSo xSz xVl) ∧ (p2 = 2 → (vp_in p3 4 ∧ (cSh p3.toNatClampNeg = some wo ∧ wp_X2_isMissing wSo (fun (r_18 : Int32) => ((r_18 = 0 → jp_X6_lay_70 p1 p2 p3 cSl cSh wSo wSz wVl rKi rHe zo wo Q zTh zKi zHe zNu xSo xSz xVl) ∧ (¬ (r_18 = 0) → Q (-1000000011) zTh zKi zHe zNu xSo xSz xVl)))))))
def jp_X6_lay_35 (p1 : Int32) (p2 : Int32) (p3 : Int32) (cSl : Nat → Option Nat) (cSh : Nat → Option Nat) (wSo : Int32) (wSz : Int32) (wVl : Nat → Int32) (rKi : Nat → Int32) (rHe : Nat → Int32) (zo : Nat) (wo : Nat)  (Q : Int32 → Int32 → Int32 → Int32 → Int32 → Int32 → Int32 → (Nat → Int32) → Prop) (zTh : Int32) (zKi : Int32) (zHe : Int32) (zNu : Int32) (xSo : Int32) (xSz : Int32) (xVl : Nat → Int32) : Prop :=
  ((¬ p2 = 2 → jp_X6_lay_50 p1 p2 p3 cSl cSh wSo wSz wVl rKi rHe zo wo Q zTh zKi zHe zNu xSo xSz xVl) ∧ (p2 = 2 → wp_X6_isSheet p3 (fun (r_21 : Int32) => ((¬ r_21 = 0 → jp_X6_lay_50 p1 p2 p3 cSl cSh wSo wSz wVl rKi rHe zo wo Q zTh zKi zHe zNu xSo xSz xVl) ∧ (r_21 = 0 → Q (-1000000001) zTh zKi zHe zNu xSo xSz xVl)))))
def wp_X6_lay (p1 : Int32) (p2 : Int32) (p3 : Int32) (cSl : Nat → Option Nat) (zTh : Int32) (zKi : Int32) (zHe : Int32) (zNu : Int32) (xSo : Int32) (xSz : Int32) (xVl : Nat → Int32) (cSh : Nat → Option Nat) (wSo : Int32) (wSz : Int32) (wVl : Nat → Int32) (rSz : Int32) (rKi : Nat → Int32) (rHe : Nat → Int32) (zo : Nat) (wo : Nat) (Q : Int32 → Int32 → Int32 → Int32 → Int32 → Int32 → Int32 → (Nat → Int32) → Prop) : Prop :=
  wp_X6_isSlot p1 (fun (r_23 : Int32) => ((r_23 = 0 → Q (-1000000001) zTh zKi zHe zNu xSo xSz xVl) ∧ (¬ (r_23 = 0) → wp_X6_within p2 0 3 (fun (r_25 : Int32) => ((¬ r_25 = 0 → ((¬ p2 = 1 → jp_X6_lay_35 p1 p2 p3 cSl cSh wSo wSz wVl rKi rHe zo wo Q zTh zKi zHe zNu xSo xSz xVl) ∧ (p2 = 1 → wp_X1_has p3 rSz (fun (r_28 : Int32) => ((r_28 = 0 → Q (-1000000001) zTh zKi zHe zNu xSo xSz xVl) ∧ (¬ (r_28 = 0) → jp_X6_lay_35 p1 p2 p3 cSl cSh wSo wSz wVl rKi rHe zo wo Q zTh zKi zHe zNu xSo xSz xVl)))))) ∧ (r_25 = 0 → Q (-1000000001) zTh zKi zHe zNu xSo xSz xVl))))))
set_option maxHeartbeats 4000000 in
set_option maxRecDepth 100000 in
theorem c_X6_lay (l : Launch) (E : gE) (co ro jo qo yo eo cs cl cw zo xo xv wo wv rk rh rd rt rl rs : Nat) (sz : Nat) (cWs : Int32) (cKp : Int32) (cSl : Nat → Option Nat) (zTh : Int32) (zKi : Int32) (zHe : Int32) (zNu : Int32) (xSo : Int32) (xSz : Int32) (xVl : Nat → Int32) (cSh : Nat → Option Nat) (wSo : Int32) (wSz : Int32) (wVl : Nat → Int32) (rSz : Int32) (rTc : Int32) (rFa : Int32) (rPa : Int32) (rPy : Int32) (rMi : Int32) (rMe : Int32) (rSr : Int32) (rZ : Int32) (rKi : Nat → Int32) (rHe : Nat → Int32) (rDo : Nat → Int32) (rTx : Nat → Option Nat) (rLa : Nat → Int32) (rSk : Nat → Int32) (p1 p2 p3 : Int32) (LT : List Nat) (pk : Nat → Int32) (pv : Nat → Int32) (pa : Nat → Nat) (pn : Nat → Nat) (tc : Nat → Nat → Int32) (Q : Int32 → Int32 → Int32 → Int32 → Int32 → Int32 → Int32 → (Nat → Int32) → Prop) (h : wp_X6_lay p1 p2 p3 cSl zTh zKi zHe zNu xSo xSz xVl cSh wSo wSz wVl rSz rKi rHe zo wo Q) : Met l yX6_lay wsX6_lay ({ frames := 2, cells := 0, slots := 0, locals := 81 } : Room) (va_Pc [.ref co, .int p1, .int p2, .int p3] (rc_B E (rw_15 E co ro jo qo yo eo cs cl cw zo xo xv wo wv rk rh rd rt rl rs cWs cKp cSl zTh zKi zHe zNu xSo xSz xVl cSh wSo wSz wVl rSz rTc rFa rPa rPy rMi rMe rSr rZ rKi rHe rDo rTx rLa rSk ++ rc_tp E LT pk pv pa pn tc) sz)) (va_Qi (S := Int32 × Int32 × Int32 × Int32 × Int32 × Int32 × (Nat → Int32)) (fun (r : Int32) (u : Int32 × Int32 × Int32 × Int32 × Int32 × Int32 × (Nat → Int32)) => Q r u.1 u.2.1 u.2.2.1 u.2.2.2.1 u.2.2.2.2.1 u.2.2.2.2.2.1 u.2.2.2.2.2.2) (fun u t => rc_C E (va_A (rw_15 E co ro jo qo yo eo cs cl cw zo xo xv wo wv rk rh rd rt rl rs cWs cKp cSl zTh zKi zHe zNu xSo xSz xVl cSh wSo wSz wVl rSz rTc rFa rPa rPy rMi rMe rSr rZ rKi rHe rDo rTx rLa rSk ++ rc_tp E LT pk pv pa pn tc) sz) (rw_15 E co ro jo qo yo eo cs cl cw zo xo xv wo wv rk rh rd rt rl rs cWs cKp cSl u.1 u.2.1 u.2.2.1 u.2.2.2.1 u.2.2.2.2.1 u.2.2.2.2.2.1 u.2.2.2.2.2.2 cSh wSo wSz wVl rSz rTc rFa rPa rPy rMi rMe rSr rZ rKi rHe rDo rTx rLa rSk ++ rc_tp E LT pk pv pa pn tc) t) (va_A (rw_15 E co ro jo qo yo eo cs cl cw zo xo xv wo wv rk rh rd rt rl rs cWs cKp cSl zTh zKi zHe zNu xSo xSz xVl cSh wSo wSz wVl rSz rTc rFa rPa rPy rMi rMe rSr rZ rKi rHe rDo rTx rLa rSk ++ rc_tp E LT pk pv pa pn tc) sz)) 0 0 (va_A (rw_15 E co ro jo qo yo eo cs cl cw zo xo xv wo wv rk rh rd rt rl rs cWs cKp cSl zTh zKi zHe zNu xSo xSz xVl cSh wSo wSz wVl rSz rTc rFa rPa rPy rMi rMe rSr rZ rKi rHe rDo rTx rLa rSk ++ rc_tp E LT pk pv pa pn tc) sz) := by
  refine rc_enterI (cc := cX6_lay) (maxL := 6) (by decide) rfl (Nat.le_of_ble_eq_true rfl) ?_
  intro p e s m args below meth c QQ A hx hb hml hown hts hmn hE hP hD hA hret ls hl
  have hown : s.vm.findClass RX6 = some m.cls := hown
  have hK := hE.1
  have hS : va_S A s.heap s.heap [] := va_S.rf
  have hl : lv_has ls 6 [(0, .ref co), (1, .int p1), (2, .int p2), (3, .int p3)] := hl
  have n_X1 : ∀ w ∈ wsX10, w ∈ wsX6_lay := fun _ h => List.mem_cons_of_mem _ (List.mem_append_left _ (List.mem_append_right _ h))
  have n_X3 : ∀ w ∈ wsX30, w ∈ wsX6_lay := fun _ h => List.mem_cons_of_mem _ (List.mem_append_left _ (List.mem_append_left _ (List.mem_append_right _ h)))
  have n_X6 : ∀ w ∈ wsX60, w ∈ wsX6_lay := fun _ h => List.mem_cons_of_mem _ (List.mem_append_left _ (List.mem_append_left _ (List.mem_append_left _ (List.mem_append_right _ h))))
  have k_44 := hts (.fieldLink RX6 44 "RidgeClaps" "slots" "[LRidgeClaps$Slot;") (List.mem_of_getElem? (i := 5) rfl)
  have k_275 := hts (.fieldLink RX6 275 "RidgeClaps$Slot" "thing" "I") (List.mem_of_getElem? (i := 6) rfl)
  have k_289 := hts (.fieldLink RX6 289 "RidgeClaps$Slot" "number" "I") (List.mem_of_getElem? (i := 10) rfl)
  have k_281 := hts (.fieldLink RX6 281 "RidgeClaps$Slot" "row" "LRidgeClaps$Row;") (List.mem_of_getElem? (i := 9) rfl)
  have k_38 := hts (.fieldLink RX6 38 "RidgeClaps" "sheets" "[LRidgeClaps$Row;") (List.mem_of_getElem? (i := 3) rfl)
  have k_10 := hts (.fieldLink RX6 10 "RidgeClaps" "ridge" "LRidgeClaps$Ridge;") (List.mem_of_getElem? (i := 2) rfl)
  have k_82 := hts (.fieldLink RX6 82 "RidgeClaps$Ridge" "kinds" "[I") (List.mem_of_getElem? (i := 7) rfl)
  have k_85 := hts (.fieldLink RX6 85 "RidgeClaps$Ridge" "heights" "[I") (List.mem_of_getElem? (i := 8) rfl)
  have k_182 := hts (.constant RX6 182 (-1000000011)) (List.mem_of_getElem? (i := 4) rfl)
  have k_70 := hts (.constant RX6 70 (-1000000001)) (List.mem_of_getElem? (i := 1) rfl)
  have J70 : ∀ (zTh : Int32) (zKi : Int32) (zHe : Int32) (zNu : Int32) (xSo : Int32) (xSz : Int32) (xVl : Nat → Int32), jp_X6_lay_70 p1 p2 p3 cSl cSh wSo wSz wVl rKi rHe zo wo Q zTh zKi zHe zNu xSo xSz xVl → ∀ (H : Heap) (locs : List Loc), va_P E.1 vwCl (rw_15 E co ro jo qo yo eo cs cl cw zo xo xv wo wv rk rh rd rt rl rs cWs cKp cSl zTh zKi zHe zNu xSo xSz xVl cSh wSo wSz wVl rSz rTc rFa rPa rPy rMi rMe rSr rZ rKi rHe rDo rTx rLa rSk ++ rc_tp E LT pk pv pa pn tc) H → va_D A (rw_15 E co ro jo qo yo eo cs cl cw zo xo xv wo wv rk rh rd rt rl rs cWs cKp cSl zTh zKi zHe zNu xSo xSz xVl cSh wSo wSz wVl rSz rTc rFa rPa rPy rMi rMe rSr rZ rKi rHe rDo rTx rLa rSk ++ rc_tp E LT pk pv pa pn tc) → va_S A s.heap H locs → ∀ ls : Array Slot, lv_has ls 6 [(0, .ref co), (1, .int p1), (2, .int p2), (3, .int p3)] → W p l e ({ frames := 2, cells := 0, slots := 0, locals := 81 } : Room) s m args below meth c H locs 0 0 QQ (F0 m 70 ls []) := by
    intro zTh zKi zHe zNu xSo xSz xVl h H locs hP hD hS ls hl
    unfold jp_X6_lay_70 at h
    refine lv_aload_n hx hb dX6_lay_70 rfl (lv_at hl 0 rfl) ?_
    refine va_get (D := E.1) (ci := 6) (v := .ref cl) (C := RX6) (T := TX6) (N := 10) hx hb hts n_X6 hown hK hP 0 rfl rfl 6 (by decide) k_44 (fun _ h9 => h9) rfl dX6_lay_71 ?_
    refine lv_iload_n hx hb dX6_lay_74 rfl (lv_at hl 1 rfl) ?_
    obtain ⟨o_1, h⟩ := h
    refine va_aldq hx hb hK hP 1 4 rfl rfl o_1 dX6_lay_75 ?_
    obtain ⟨s_2, h⟩ := h
    refine W.eq (g2 := F0 m 76 ls [.ref zo]) (by rw [s_2]; rfl) ?_
    refine lv_astore (lv' := [(4, .ref zo), (0, .ref co), (1, .int p1), (2, .int p2), (3, .int p3)]) hx hb dX6_lay_76 hl (by decide) rfl (fun ls hl => ?_)
    refine lv_aload hx hb dX6_lay_78 (lv_at hl 0 rfl) ?_
    refine va_get (D := E.1) (ci := 3) (v := .int zTh) (C := RX3) (T := TX3) (N := 5) hx hb hts n_X3 hown hK hP 2 rfl rfl 0 (by decide) k_275 (fun _ h9 => h9) rfl dX6_lay_80 ?_
    refine lv_istore (lv' := [(5, .int zTh), (4, .ref zo), (0, .ref co), (1, .int p1), (2, .int p2), (3, .int p3)]) hx hb dX6_lay_83 hl (by decide) rfl (fun ls hl => ?_)
    refine lv_aload hx hb dX6_lay_85 (lv_at hl 1 rfl) ?_
    refine lv_iload_n hx hb dX6_lay_87 rfl (lv_at hl 4 rfl) ?_
    refine va_put (D := E.1) (ci := 3) (v := .int p2) (ty := .int) (C := RX3) (T := TX3) (N := 5) hx hb hts n_X3 tyX3 tyX3_ok nmX3 hown hK hP hD hS 2 rfl rfl 0 (by decide) k_275 (fun _ h9 => h9) rfl (by decide +kernel) rfl rfl (Nat.le_of_ble_eq_true rfl) dX6_lay_88 (fun H locs hP hD hS => ?_)
    have hP : va_P E.1 vwCl (rw_15 E co ro jo qo yo eo cs cl cw zo xo xv wo wv rk rh rd rt rl rs cWs cKp cSl p2 zKi zHe zNu xSo xSz xVl cSh wSo wSz wVl rSz rTc rFa rPa rPy rMi rMe rSr rZ rKi rHe rDo rTx rLa rSk ++ rc_tp E LT pk pv pa pn tc) H := hP
    have hD : va_D A (rw_15 E co ro jo qo yo eo cs cl cw zo xo xv wo wv rk rh rd rt rl rs cWs cKp cSl p2 zKi zHe zNu xSo xSz xVl cSh wSo wSz wVl rSz rTc rFa rPa rPy rMi rMe rSr rZ rKi rHe rDo rTx rLa rSk ++ rc_tp E LT pk pv pa pn tc) := hD
    refine lv_iload_n hx hb dX6_lay_91 rfl (lv_at hl 4 rfl) ?_
    refine lv_iconst (v := 1) hx hb dX6_lay_92 (by decide) ?_
    refine lv_icmp_ne (tgt := 122) hx hb dX6_lay_93 (by decide) (fun c_3 => ?_) (fun c_3 => ?_)
    · have h := h.1 c_3
      refine lv_iload_n hx hb dX6_lay_122 rfl (lv_at hl 4 rfl) ?_
      refine lv_iconst (v := 2) hx hb dX6_lay_123 (by decide) ?_
      refine lv_icmp_ne (tgt := 144) hx hb dX6_lay_124 (by decide) (fun c_4 => ?_) (fun c_4 => ?_)
      · have h := h.1 c_4
        refine lv_iload_n hx hb dX6_lay_144 rfl (lv_at hl 4 rfl) ?_
        refine lv_iconst (v := 3) hx hb dX6_lay_145 (by decide) ?_
        refine lv_icmp_ne (tgt := 155) hx hb dX6_lay_146 (by decide) (fun c_5 => ?_) (fun c_5 => ?_)
        · have h := h.1 c_5
          refine lv_iload hx hb dX6_lay_155 (lv_at hl 0 rfl) ?_
          exact hret _ _ _ _ zTh (p2, zKi, zHe, zNu, xSo, xSz, xVl) rfl h hP hD hS dX6_lay_157
        · have h := h.2 c_5
          refine lv_aload hx hb dX6_lay_149 (lv_at hl 1 rfl) ?_
          refine lv_iload_n hx hb dX6_lay_151 rfl (lv_at hl 5 rfl) ?_
          refine va_put (D := E.1) (ci := 3) (v := .int p3) (ty := .int) (C := RX3) (T := TX3) (N := 5) hx hb hts n_X3 tyX3 tyX3_ok nmX3 hown hK hP hD hS 2 rfl rfl 3 (by decide) k_289 (fun _ h9 => h9) rfl (by decide +kernel) rfl rfl (Nat.le_of_ble_eq_true rfl) dX6_lay_152 (fun H locs hP hD hS => ?_)
          have hP : va_P E.1 vwCl (rw_15 E co ro jo qo yo eo cs cl cw zo xo xv wo wv rk rh rd rt rl rs cWs cKp cSl p2 zKi zHe p3 xSo xSz xVl cSh wSo wSz wVl rSz rTc rFa rPa rPy rMi rMe rSr rZ rKi rHe rDo rTx rLa rSk ++ rc_tp E LT pk pv pa pn tc) H := hP
          have hD : va_D A (rw_15 E co ro jo qo yo eo cs cl cw zo xo xv wo wv rk rh rd rt rl rs cWs cKp cSl p2 zKi zHe p3 xSo xSz xVl cSh wSo wSz wVl rSz rTc rFa rPa rPy rMi rMe rSr rZ rKi rHe rDo rTx rLa rSk ++ rc_tp E LT pk pv pa pn tc) := hD
          refine lv_iload hx hb dX6_lay_155 (lv_at hl 0 rfl) ?_
          exact hret _ _ _ _ zTh (p2, zKi, zHe, p3, xSo, xSz, xVl) rfl h hP hD hS dX6_lay_157
      · have h := h.2 c_4
        refine lv_aload hx hb dX6_lay_127 (lv_at hl 1 rfl) ?_
        refine va_get (D := E.1) (ci := 3) (v := .ref xo) (C := RX3) (T := TX3) (N := 5) hx hb hts n_X3 hown hK hP 2 rfl rfl 4 (by decide) k_281 (fun _ h9 => h9) rfl dX6_lay_129 ?_
        refine lv_aload_n hx hb dX6_lay_132 rfl (lv_at hl 2 rfl) ?_
        refine va_get (D := E.1) (ci := 6) (v := .ref cs) (C := RX6) (T := TX6) (N := 10) hx hb hts n_X6 hown hK hP 0 rfl rfl 5 (by decide) k_38 (fun _ h9 => h9) rfl dX6_lay_133 ?_
        refine lv_iload_n hx hb dX6_lay_136 rfl (lv_at hl 5 rfl) ?_
        obtain ⟨o_6, h⟩ := h
        refine va_aldq hx hb hK hP 5 3 rfl rfl o_6 dX6_lay_137 ?_
        obtain ⟨s_7, h⟩ := h
        refine W.eq (g2 := F0 m 138 ls [.ref wo, .ref xo]) (by rw [s_7]; rfl) ?_
        have hPc := hP.sub (ws' := (rw_2 E xo xv wo wv xSo xSz xVl wSo wSz wVl)) [3, 4, 6, 7] rfl
        have hDc := hD.sub (ws' := (rw_2 E xo xv wo wv xSo xSz xVl wSo wSz wVl)) [3, 4, 6, 7] (by decide) rfl
        have hFc := va_free (wc := (rw_2 E xo xv wo wv xSo xSz xVl wSo wSz wVl)) hD hS hA [3, 4, 6, 7] rfl
        refine va_callv (va_runV (As := [.ref wo]) (rest := []) ⟨hx, hb, hml, hown, hts⟩ (c_X2_become l E xo xv wo wv H.size xSo xSz xVl wSo wSz wVl _ h) (cwV 1 hts gX6_lay_X2_become rfl rfl rfl (by decide +kernel) ⟨Nat.le_of_ble_eq_true rfl, Nat.le_of_ble_eq_true rfl⟩) ⟨fun a U g mk q => ⟨q.1, q.2.blind⟩, va_recv hK hPc (ci := 2) (q0 := 0) rfl rfl, fun U hU hW => ⟨rfl, by rw [hU], by rw [hU]; exact hPc, hE.call hS hFc hW hU, hDc.weaken (fun _ _ _ _ => trivial)⟩⟩ rfl rfl hl.1 rfl (lv_room (Nat.le_of_ble_eq_true rfl)) dX6_lay_138 ⟨Nat.zero_le _, Nat.zero_le _⟩) hS (fun q _ h => hFc q h) hFc (fun u t H1 locs ht hvm h hB hz1 hk1 hS => ?_)
        obtain ⟨w_8, w_9, w_10⟩ := u
        obtain ⟨hP1, hD1⟩ := hB
        rw [ht] at hP1
        obtain ⟨hP, hD⟩ := rc_foc hP hD [3, 4, 6, 7] [none, none, none, some 0, some 1, none, some 2, some 3, none, none, none, none, none, none, none] (by decide) rfl hk1 hP1 rfl
        generalize H1 = H at hP hS ⊢
        have hP : va_P E.1 vwCl (rw_15 E co ro jo qo yo eo cs cl cw zo xo xv wo wv rk rh rd rt rl rs cWs cKp cSl p2 zKi zHe zNu w_8 w_9 w_10 cSh wSo wSz wVl rSz rTc rFa rPa rPy rMi rMe rSr rZ rKi rHe rDo rTx rLa rSk ++ rc_tp E LT pk pv pa pn tc) H := hP
        have hD : va_D A (rw_15 E co ro jo qo yo eo cs cl cw zo xo xv wo wv rk rh rd rt rl rs cWs cKp cSl p2 zKi zHe zNu w_8 w_9 w_10 cSh wSo wSz wVl rSz rTc rFa rPa rPy rMi rMe rSr rZ rKi rHe rDo rTx rLa rSk ++ rc_tp E LT pk pv pa pn tc) := hD
        refine lv_goto (tgt := 155) hx hb dX6_lay_141 (by decide) ?_
        refine lv_iload hx hb dX6_lay_155 (lv_at hl 0 rfl) ?_
        exact hret _ _ _ _ zTh (p2, zKi, zHe, zNu, w_8, w_9, w_10) rfl h hP hD hS dX6_lay_157
    · have h := h.2 c_3
      refine lv_aload hx hb dX6_lay_96 (lv_at hl 1 rfl) ?_
      refine lv_aload_n hx hb dX6_lay_98 rfl (lv_at hl 2 rfl) ?_
      refine va_get (D := E.1) (ci := 6) (v := .ref ro) (C := RX6) (T := TX6) (N := 10) hx hb hts n_X6 hown hK hP 0 rfl rfl 0 (by decide) k_10 (fun _ h9 => h9) rfl dX6_lay_99 ?_
      refine va_get (D := E.1) (ci := 1) (v := .ref rk) (C := RX1) (T := TX1) (N := 15) hx hb hts n_X1 hown hK hP 8 rfl rfl 0 (by decide) k_82 (fun _ h9 => h9) rfl dX6_lay_102 ?_
      refine lv_iload_n hx hb dX6_lay_105 rfl (lv_at hl 5 rfl) ?_
      obtain ⟨o_11, h⟩ := h
      refine rc_iald hx hb hK hP 9 0 rfl rfl p3.toNatClampNeg rfl o_11 dX6_lay_106 ?_
      refine lv_aload_n hx hb dX6_lay_107 rfl (lv_at hl 2 rfl) ?_
      refine va_get (D := E.1) (ci := 6) (v := .ref ro) (C := RX6) (T := TX6) (N := 10) hx hb hts n_X6 hown hK hP 0 rfl rfl 0 (by decide) k_10 (fun _ h9 => h9) rfl dX6_lay_108 ?_
      refine va_get (D := E.1) (ci := 1) (v := .ref rh) (C := RX1) (T := TX1) (N := 15) hx hb hts n_X1 hown hK hP 8 rfl rfl 1 (by decide) k_85 (fun _ h9 => h9) rfl dX6_lay_111 ?_
      refine lv_iload_n hx hb dX6_lay_114 rfl (lv_at hl 5 rfl) ?_
      obtain ⟨o_12, h⟩ := h
      refine rc_iald hx hb hK hP 10 0 rfl rfl p3.toNatClampNeg rfl o_12 dX6_lay_115 ?_
      have hPc := hP.sub (ws' := (rw_11 E zo xo xv p2 zKi zHe zNu xSo xSz xVl)) [2, 3, 4] rfl
      have hDc := hD.sub (ws' := (rw_11 E zo xo xv p2 zKi zHe zNu xSo xSz xVl)) [2, 3, 4] (by decide) rfl
      have hFc := va_free (wc := (rw_11 E zo xo xv p2 zKi zHe zNu xSo xSz xVl)) hD hS hA [2, 3, 4] rfl
      refine va_callv (va_runV (As := [.int (rKi p3.toNatClampNeg), .int (rHe p3.toNatClampNeg)]) (rest := []) ⟨hx, hb, hml, hown, hts⟩ (c_X3_takePlace l E zo xo xv H.size p2 zKi zHe zNu xSo xSz xVl (rKi p3.toNatClampNeg) (rHe p3.toNatClampNeg) _ h) (cwV 2 hts gX6_lay_X3_takePlace rfl rfl rfl (by decide +kernel) ⟨Nat.le_of_ble_eq_true rfl, Nat.le_of_ble_eq_true rfl⟩) ⟨fun a U g mk q => ⟨q.1, q.2.blind⟩, va_recv hK hPc (ci := 3) (q0 := 0) rfl rfl, fun U hU hW => ⟨rfl, by rw [hU], by rw [hU]; exact hPc, hE.call hS hFc hW hU, hDc.weaken (fun _ _ _ _ => trivial)⟩⟩ rfl rfl hl.1 rfl (lv_room (Nat.le_of_ble_eq_true rfl)) dX6_lay_116 ⟨Nat.zero_le _, Nat.zero_le _⟩) hS (fun q _ h => hFc q h) hFc (fun u t H1 locs ht hvm h hB hz1 hk1 hS => ?_)
      obtain ⟨w_13, w_14⟩ := u
      obtain ⟨hP1, hD1⟩ := hB
      rw [ht] at hP1
      obtain ⟨hP, hD⟩ := rc_foc hP hD [2, 3, 4] [none, none, some 0, some 1, some 2, none, none, none, none, none, none, none, none, none, none] (by decide) rfl hk1 hP1 rfl
      generalize H1 = H at hP hS ⊢
      have hP : va_P E.1 vwCl (rw_15 E co ro jo qo yo eo cs cl cw zo xo xv wo wv rk rh rd rt rl rs cWs cKp cSl p2 w_13 w_14 zNu xSo xSz xVl cSh wSo wSz wVl rSz rTc rFa rPa rPy rMi rMe rSr rZ rKi rHe rDo rTx rLa rSk ++ rc_tp E LT pk pv pa pn tc) H := hP
      have hD : va_D A (rw_15 E co ro jo qo yo eo cs cl cw zo xo xv wo wv rk rh rd rt rl rs cWs cKp cSl p2 w_13 w_14 zNu xSo xSz xVl cSh wSo wSz wVl rSz rTc rFa rPa rPy rMi rMe rSr rZ rKi rHe rDo rTx rLa rSk ++ rc_tp E LT pk pv pa pn tc) := hD
      refine lv_goto (tgt := 155) hx hb dX6_lay_119 (by decide) ?_
      refine lv_iload hx hb dX6_lay_155 (lv_at hl 0 rfl) ?_
      exact hret _ _ _ _ zTh (p2, w_13, w_14, zNu, xSo, xSz, xVl) rfl h hP hD hS dX6_lay_157
  have J50 : ∀ (zTh : Int32) (zKi : Int32) (zHe : Int32) (zNu : Int32) (xSo : Int32) (xSz : Int32) (xVl : Nat → Int32), jp_X6_lay_50 p1 p2 p3 cSl cSh wSo wSz wVl rKi rHe zo wo Q zTh zKi zHe zNu xSo xSz xVl → ∀ (H : Heap) (locs : List Loc), va_P E.1 vwCl (rw_15 E co ro jo qo yo eo cs cl cw zo xo xv wo wv rk rh rd rt rl rs cWs cKp cSl zTh zKi zHe zNu xSo xSz xVl cSh wSo wSz wVl rSz rTc rFa rPa rPy rMi rMe rSr rZ rKi rHe rDo rTx rLa rSk ++ rc_tp E LT pk pv pa pn tc) H → va_D A (rw_15 E co ro jo qo yo eo cs cl cw zo xo xv wo wv rk rh rd rt rl rs cWs cKp cSl zTh zKi zHe zNu xSo xSz xVl cSh wSo wSz wVl rSz rTc rFa rPa rPy rMi rMe rSr rZ rKi rHe rDo rTx rLa rSk ++ rc_tp E LT pk pv pa pn tc) → va_S A s.heap H locs → ∀ ls : Array Slot, lv_has ls 6 [(0, .ref co), (1, .int p1), (2, .int p2), (3, .int p3)] → W p l e ({ frames := 2, cells := 0, slots := 0, locals := 81 } : Room) s m args below meth c H locs 0 0 QQ (F0 m 50 ls []) := by
    intro zTh zKi zHe zNu xSo xSz xVl h H locs hP hD hS ls hl
    unfold jp_X6_lay_50 at h
    refine lv_iload_n hx hb dX6_lay_50 rfl (lv_at hl 2 rfl) ?_
    refine lv_iconst (v := 2) hx hb dX6_lay_51 (by decide) ?_
    refine lv_icmp_ne (tgt := 70) hx hb dX6_lay_52 (by decide) (fun c_15 => ?_) (fun c_15 => ?_)
    · have h := h.1 c_15
      exact J70 zTh zKi zHe zNu xSo xSz xVl h _ _ hP hD hS ls (lv_sub hl [0, 1, 2, 3] rfl)
    · have h := h.2 c_15
      refine lv_aload_n hx hb dX6_lay_55 rfl (lv_at hl 0 rfl) ?_
      refine va_get (D := E.1) (ci := 6) (v := .ref cs) (C := RX6) (T := TX6) (N := 10) hx hb hts n_X6 hown hK hP 0 rfl rfl 5 (by decide) k_38 (fun _ h9 => h9) rfl dX6_lay_56 ?_
      refine lv_iload_n hx hb dX6_lay_59 rfl (lv_at hl 3 rfl) ?_
      obtain ⟨o_16, h⟩ := h
      refine va_aldq hx hb hK hP 5 3 rfl rfl o_16 dX6_lay_60 ?_
      obtain ⟨s_17, h⟩ := h
      refine W.eq (g2 := F0 m 61 ls [.ref wo]) (by rw [s_17]; rfl) ?_
      have hPc := hP.sub (ws' := (rw_1 E wo wv wSo wSz wVl)) [6, 7] rfl
      have hDc := hD.sub (ws' := (rw_1 E wo wv wSo wSz wVl)) [6, 7] (by decide) rfl
      have hFc := va_free (wc := (rw_1 E wo wv wSo wSz wVl)) hD hS hA [6, 7] rfl
      refine va_calli (va_runV (As := []) (rest := []) ⟨hx, hb, hml, hown, hts⟩ (c_X2_isMissing l E wo wv H.size wSo wSz wVl _ h) (cwV 0 hts gX6_lay_X2_isMissing rfl rfl rfl (by decide +kernel) ⟨Nat.le_of_ble_eq_true rfl, Nat.le_of_ble_eq_true rfl⟩) ⟨fun a U g mk q => ⟨q.1, q.2.blind⟩, va_recv hK hPc (ci := 2) (q0 := 0) rfl rfl, fun U hU hW => ⟨rfl, by rw [hU], by rw [hU]; exact hPc, hE.call hS hFc hW hU, hDc.weaken (fun _ _ _ _ => trivial)⟩⟩ rfl rfl hl.1 rfl (lv_room (Nat.le_of_ble_eq_true rfl)) dX6_lay_61 ⟨Nat.zero_le _, Nat.zero_le _⟩) hS (fun q _ h => hFc q h) hFc (fun r_18 u t H1 locs ht hvm h hB hz1 hk1 hS => ?_)
      obtain ⟨hP1, hD1⟩ := hB
      rw [ht] at hP1
      obtain ⟨hP, hD⟩ := rc_foc hP hD [6, 7] [none, none, none, none, none, none, some 0, some 1, none, none, none, none, none, none, none] (by decide) rfl hk1 hP1 rfl
      generalize H1 = H at hP hS ⊢
      have hP : va_P E.1 vwCl (rw_15 E co ro jo qo yo eo cs cl cw zo xo xv wo wv rk rh rd rt rl rs cWs cKp cSl zTh zKi zHe zNu xSo xSz xVl cSh wSo wSz wVl rSz rTc rFa rPa rPy rMi rMe rSr rZ rKi rHe rDo rTx rLa rSk ++ rc_tp E LT pk pv pa pn tc) H := hP
      have hD : va_D A (rw_15 E co ro jo qo yo eo cs cl cw zo xo xv wo wv rk rh rd rt rl rs cWs cKp cSl zTh zKi zHe zNu xSo xSz xVl cSh wSo wSz wVl rSz rTc rFa rPa rPy rMi rMe rSr rZ rKi rHe rDo rTx rLa rSk ++ rc_tp E LT pk pv pa pn tc) := hD
      refine lv_if_eq (tgt := 70) hx hb dX6_lay_64 (by decide) (fun c_19 => ?_) (fun c_19 => ?_)
      · have h := h.1 c_19
        exact J70 zTh zKi zHe zNu xSo xSz xVl h _ _ hP hD hS ls (lv_sub hl [0, 1, 2, 3] rfl)
      · have h := h.2 c_19
        refine lv_ldc hx hb hown k_182 dX6_lay_67 ?_
        exact hret _ _ _ _ (-1000000011) (zTh, zKi, zHe, zNu, xSo, xSz, xVl) rfl h hP hD hS dX6_lay_69
  have J35 : ∀ (zTh : Int32) (zKi : Int32) (zHe : Int32) (zNu : Int32) (xSo : Int32) (xSz : Int32) (xVl : Nat → Int32), jp_X6_lay_35 p1 p2 p3 cSl cSh wSo wSz wVl rKi rHe zo wo Q zTh zKi zHe zNu xSo xSz xVl → ∀ (H : Heap) (locs : List Loc), va_P E.1 vwCl (rw_15 E co ro jo qo yo eo cs cl cw zo xo xv wo wv rk rh rd rt rl rs cWs cKp cSl zTh zKi zHe zNu xSo xSz xVl cSh wSo wSz wVl rSz rTc rFa rPa rPy rMi rMe rSr rZ rKi rHe rDo rTx rLa rSk ++ rc_tp E LT pk pv pa pn tc) H → va_D A (rw_15 E co ro jo qo yo eo cs cl cw zo xo xv wo wv rk rh rd rt rl rs cWs cKp cSl zTh zKi zHe zNu xSo xSz xVl cSh wSo wSz wVl rSz rTc rFa rPa rPy rMi rMe rSr rZ rKi rHe rDo rTx rLa rSk ++ rc_tp E LT pk pv pa pn tc) → va_S A s.heap H locs → ∀ ls : Array Slot, lv_has ls 6 [(0, .ref co), (1, .int p1), (2, .int p2), (3, .int p3)] → W p l e ({ frames := 2, cells := 0, slots := 0, locals := 81 } : Room) s m args below meth c H locs 0 0 QQ (F0 m 35 ls []) := by
    intro zTh zKi zHe zNu xSo xSz xVl h H locs hP hD hS ls hl
    unfold jp_X6_lay_35 at h
    refine lv_iload_n hx hb dX6_lay_35 rfl (lv_at hl 2 rfl) ?_
    refine lv_iconst (v := 2) hx hb dX6_lay_36 (by decide) ?_
    refine lv_icmp_ne (tgt := 50) hx hb dX6_lay_37 (by decide) (fun c_20 => ?_) (fun c_20 => ?_)
    · have h := h.1 c_20
      exact J50 zTh zKi zHe zNu xSo xSz xVl h _ _ hP hD hS ls (lv_sub hl [0, 1, 2, 3] rfl)
    · have h := h.2 c_20
      refine lv_iload_n hx hb dX6_lay_40 rfl (lv_at hl 3 rfl) ?_
      have hPc := hP.sub (ws' := []) [] rfl
      have hDc := hD.sub (ws' := []) [] (by decide) rfl
      have hFc := va_free (wc := []) hD hS hA [] rfl
      refine va_calli (va_runS (As := [.int p3]) (rest := []) ⟨hx, hb, hml, hown, hts⟩ (c_X6_isSheet l E H.size p3 _ h) (va_cwS 1 hts gX6_lay_X6_isSheet rfl rfl rfl (by decide +kernel) ⟨Nat.le_of_ble_eq_true rfl, Nat.le_of_ble_eq_true rfl⟩) ⟨fun a U g mk q => ⟨q.1, q.2.blind⟩, fun U hU hW => ⟨rfl, by rw [hU], by rw [hU]; exact hPc, hE.call hS hFc hW hU, hDc.weaken (fun _ _ _ _ => trivial)⟩⟩ rfl rfl hl.1 rfl (lv_room (Nat.le_of_ble_eq_true rfl)) dX6_lay_41 ⟨Nat.zero_le _, Nat.zero_le _⟩) hS (fun q _ h => hFc q h) hFc (fun r_21 u t H1 locs ht hvm h hB hz1 hk1 hS => ?_)
      obtain ⟨hP1, hD1⟩ := hB
      rw [ht] at hP1
      obtain ⟨hP, hD⟩ := rc_foc hP hD [] [none, none, none, none, none, none, none, none, none, none, none, none, none, none, none] (by decide) rfl hk1 hP1 rfl
      generalize H1 = H at hP hS ⊢
      have hP : va_P E.1 vwCl (rw_15 E co ro jo qo yo eo cs cl cw zo xo xv wo wv rk rh rd rt rl rs cWs cKp cSl zTh zKi zHe zNu xSo xSz xVl cSh wSo wSz wVl rSz rTc rFa rPa rPy rMi rMe rSr rZ rKi rHe rDo rTx rLa rSk ++ rc_tp E LT pk pv pa pn tc) H := hP
      have hD : va_D A (rw_15 E co ro jo qo yo eo cs cl cw zo xo xv wo wv rk rh rd rt rl rs cWs cKp cSl zTh zKi zHe zNu xSo xSz xVl cSh wSo wSz wVl rSz rTc rFa rPa rPy rMi rMe rSr rZ rKi rHe rDo rTx rLa rSk ++ rc_tp E LT pk pv pa pn tc) := hD
      refine lv_if_ne (tgt := 50) hx hb dX6_lay_44 (by decide) (fun c_22 => ?_) (fun c_22 => ?_)
      · have h := h.1 c_22
        exact J50 zTh zKi zHe zNu xSo xSz xVl h _ _ hP hD hS ls (lv_sub hl [0, 1, 2, 3] rfl)
      · have h := h.2 c_22
        refine lv_ldc hx hb hown k_70 dX6_lay_47 ?_
        exact hret _ _ _ _ (-1000000001) (zTh, zKi, zHe, zNu, xSo, xSz, xVl) rfl h hP hD hS dX6_lay_49
  unfold wp_X6_lay at h
  obtain ⟨H, hH⟩ : ∃ H, H = s.heap := ⟨_, rfl⟩
  obtain ⟨locs, hlocs⟩ : ∃ locs : List Loc, locs = [] := ⟨_, rfl⟩
  have hP : va_P E.1 vwCl (rw_15 E co ro jo qo yo eo cs cl cw zo xo xv wo wv rk rh rd rt rl rs cWs cKp cSl zTh zKi zHe zNu xSo xSz xVl cSh wSo wSz wVl rSz rTc rFa rPa rPy rMi rMe rSr rZ rKi rHe rDo rTx rLa rSk ++ rc_tp E LT pk pv pa pn tc) H := by rw [hH]; exact hP
  have hS : va_S A s.heap H locs := by rw [hH, hlocs]; exact hS
  suffices hgo : W p l e ({ frames := 2, cells := 0, slots := 0, locals := 81 } : Room) s m args below meth c H locs 0 0 QQ (F0 m 0 ls []) from by rw [hH, hlocs] at hgo; exact hgo
  refine lv_iload_n hx hb dX6_lay_0 rfl (lv_at hl 1 rfl) ?_
  have hPc := hP.sub (ws' := []) [] rfl
  have hDc := hD.sub (ws' := []) [] (by decide) rfl
  have hFc := va_free (wc := []) hD hS hA [] rfl
  refine va_calli (va_runS (As := [.int p1]) (rest := []) ⟨hx, hb, hml, hown, hts⟩ (c_X6_isSlot l E H.size p1 _ h) (va_cwS 1 hts gX6_lay_X6_isSlot rfl rfl rfl (by decide +kernel) ⟨Nat.le_of_ble_eq_true rfl, Nat.le_of_ble_eq_true rfl⟩) ⟨fun a U g mk q => ⟨q.1, q.2.blind⟩, fun U hU hW => ⟨rfl, by rw [hU], by rw [hU]; exact hPc, hE.call hS hFc hW hU, hDc.weaken (fun _ _ _ _ => trivial)⟩⟩ rfl rfl hl.1 rfl (lv_room (Nat.le_of_ble_eq_true rfl)) dX6_lay_1 ⟨Nat.zero_le _, Nat.zero_le _⟩) hS (fun q _ h => hFc q h) hFc (fun r_23 u t H1 locs ht hvm h hB hz1 hk1 hS => ?_)
  obtain ⟨hP1, hD1⟩ := hB
  rw [ht] at hP1
  obtain ⟨hP, hD⟩ := rc_foc hP hD [] [none, none, none, none, none, none, none, none, none, none, none, none, none, none, none] (by decide) rfl hk1 hP1 rfl
  generalize H1 = H at hP hS ⊢
  have hP : va_P E.1 vwCl (rw_15 E co ro jo qo yo eo cs cl cw zo xo xv wo wv rk rh rd rt rl rs cWs cKp cSl zTh zKi zHe zNu xSo xSz xVl cSh wSo wSz wVl rSz rTc rFa rPa rPy rMi rMe rSr rZ rKi rHe rDo rTx rLa rSk ++ rc_tp E LT pk pv pa pn tc) H := hP
  have hD : va_D A (rw_15 E co ro jo qo yo eo cs cl cw zo xo xv wo wv rk rh rd rt rl rs cWs cKp cSl zTh zKi zHe zNu xSo xSz xVl cSh wSo wSz wVl rSz rTc rFa rPa rPy rMi rMe rSr rZ rKi rHe rDo rTx rLa rSk ++ rc_tp E LT pk pv pa pn tc) := hD
  refine lv_if_eq (tgt := 16) hx hb dX6_lay_4 (by decide) (fun c_24 => ?_) (fun c_24 => ?_)
  · have h := h.1 c_24
    refine lv_ldc hx hb hown k_70 dX6_lay_16 ?_
    exact hret _ _ _ _ (-1000000001) (zTh, zKi, zHe, zNu, xSo, xSz, xVl) rfl h hP hD hS dX6_lay_18
  · have h := h.2 c_24
    refine lv_iload_n hx hb dX6_lay_7 rfl (lv_at hl 2 rfl) ?_
    refine lv_iconst (v := 0) hx hb dX6_lay_8 (by decide) ?_
    refine lv_iconst (v := 3) hx hb dX6_lay_9 (by decide) ?_
    have hPc := hP.sub (ws' := []) [] rfl
    have hDc := hD.sub (ws' := []) [] (by decide) rfl
    have hFc := va_free (wc := []) hD hS hA [] rfl
    refine va_calli (va_runS (As := [.int p2, .int 0, .int 3]) (rest := []) ⟨hx, hb, hml, hown, hts⟩ (c_X6_within l E H.size p2 0 3 _ h) (va_cwS 3 hts gX6_lay_X6_within rfl rfl rfl (by decide +kernel) ⟨Nat.le_of_ble_eq_true rfl, Nat.le_of_ble_eq_true rfl⟩) ⟨fun a U g mk q => ⟨q.1, q.2.blind⟩, fun U hU hW => ⟨rfl, by rw [hU], by rw [hU]; exact hPc, hE.call hS hFc hW hU, hDc.weaken (fun _ _ _ _ => trivial)⟩⟩ rfl rfl hl.1 rfl (lv_room (Nat.le_of_ble_eq_true rfl)) dX6_lay_10 ⟨Nat.zero_le _, Nat.zero_le _⟩) hS (fun q _ h => hFc q h) hFc (fun r_25 u t H1 locs ht hvm h hB hz1 hk1 hS => ?_)
    obtain ⟨hP1, hD1⟩ := hB
    rw [ht] at hP1
    obtain ⟨hP, hD⟩ := rc_foc hP hD [] [none, none, none, none, none, none, none, none, none, none, none, none, none, none, none] (by decide) rfl hk1 hP1 rfl
    generalize H1 = H at hP hS ⊢
    have hP : va_P E.1 vwCl (rw_15 E co ro jo qo yo eo cs cl cw zo xo xv wo wv rk rh rd rt rl rs cWs cKp cSl zTh zKi zHe zNu xSo xSz xVl cSh wSo wSz wVl rSz rTc rFa rPa rPy rMi rMe rSr rZ rKi rHe rDo rTx rLa rSk ++ rc_tp E LT pk pv pa pn tc) H := hP
    have hD : va_D A (rw_15 E co ro jo qo yo eo cs cl cw zo xo xv wo wv rk rh rd rt rl rs cWs cKp cSl zTh zKi zHe zNu xSo xSz xVl cSh wSo wSz wVl rSz rTc rFa rPa rPy rMi rMe rSr rZ rKi rHe rDo rTx rLa rSk ++ rc_tp E LT pk pv pa pn tc) := hD
    refine lv_if_ne (tgt := 19) hx hb dX6_lay_13 (by decide) (fun c_26 => ?_) (fun c_26 => ?_)
    · have h := h.1 c_26
      refine lv_iload_n hx hb dX6_lay_19 rfl (lv_at hl 2 rfl) ?_
      refine lv_iconst (v := 1) hx hb dX6_lay_20 (by decide) ?_
      refine lv_icmp_ne (tgt := 35) hx hb dX6_lay_21 (by decide) (fun c_27 => ?_) (fun c_27 => ?_)
      · have h := h.1 c_27
        exact J35 zTh zKi zHe zNu xSo xSz xVl h _ _ hP hD hS ls (lv_sub hl [0, 1, 2, 3] rfl)
      · have h := h.2 c_27
        refine lv_aload_n hx hb dX6_lay_24 rfl (lv_at hl 0 rfl) ?_
        refine va_get (D := E.1) (ci := 6) (v := .ref ro) (C := RX6) (T := TX6) (N := 10) hx hb hts n_X6 hown hK hP 0 rfl rfl 0 (by decide) k_10 (fun _ h9 => h9) rfl dX6_lay_25 ?_
        refine lv_iload_n hx hb dX6_lay_28 rfl (lv_at hl 3 rfl) ?_
        have hPc := hP.part (cx := (rw_4 E ro rk rh rd rt rl rs rSz rTc rFa rPa rPy rMi rMe rSr rZ rKi rHe rDo rTx rLa rSk)) [8, 9, 10, 11, 12, 13, 14] rfl
        have hDc := hD.part (cx := (rw_4 E ro rk rh rd rt rl rs rSz rTc rFa rPa rPy rMi rMe rSr rZ rKi rHe rDo rTx rLa rSk)) [8, 9, 10, 11, 12, 13, 14] (by decide) rfl
        have hFc := va_freeP (cx := (rw_4 E ro rk rh rd rt rl rs rSz rTc rFa rPa rPy rMi rMe rSr rZ rKi rHe rDo rTx rLa rSk)) hD hS hA [8, 9, 10, 11, 12, 13, 14] rfl
        refine va_calli (va_runV (As := [.int p3]) (rest := []) ⟨hx, hb, hml, hown, hts⟩ (c_X1_has l E ro rk rh rd rt rl rs H.size rSz rTc rFa rPa rPy rMi rMe rSr rZ rKi rHe rDo rTx rLa rSk p3 LT pk pv pa pn tc _ h) (cwV 1 hts gX6_lay_X1_has rfl rfl rfl (by decide +kernel) ⟨Nat.le_of_ble_eq_true rfl, Nat.le_of_ble_eq_true rfl⟩) ⟨fun a U g mk q => ⟨q.1, q.2.blind⟩, va_recv hK hPc (ci := 1) (q0 := 0) rfl rfl, fun U hU hW => ⟨rfl, by rw [hU], by rw [hU]; exact hPc, hE.call hS hFc hW hU, hDc.weaken (fun _ _ _ _ => trivial)⟩⟩ rfl rfl hl.1 rfl (lv_room (Nat.le_of_ble_eq_true rfl)) dX6_lay_29 ⟨Nat.zero_le _, Nat.zero_le _⟩) hS (fun q _ h => hFc q h) hFc (fun r_28 u t H1 locs ht hvm h hB hz1 hk1 hS => ?_)
        obtain ⟨hP1, hD1⟩ := hB
        rw [ht] at hP1
        obtain ⟨hP, hD⟩ := rc_focP hP hD [8, 9, 10, 11, 12, 13, 14] [none, none, none, none, none, none, none, none, some 0, some 1, some 2, some 3, some 4, some 5, some 6] (by decide) rfl rfl hk1 hP1 rfl
        generalize H1 = H at hP hS ⊢
        have hP : va_P E.1 vwCl (rw_15 E co ro jo qo yo eo cs cl cw zo xo xv wo wv rk rh rd rt rl rs cWs cKp cSl zTh zKi zHe zNu xSo xSz xVl cSh wSo wSz wVl rSz rTc rFa rPa rPy rMi rMe rSr rZ rKi rHe rDo rTx rLa rSk ++ rc_tp E LT pk pv pa pn tc) H := hP
        have hD : va_D A (rw_15 E co ro jo qo yo eo cs cl cw zo xo xv wo wv rk rh rd rt rl rs cWs cKp cSl zTh zKi zHe zNu xSo xSz xVl cSh wSo wSz wVl rSz rTc rFa rPa rPy rMi rMe rSr rZ rKi rHe rDo rTx rLa rSk ++ rc_tp E LT pk pv pa pn tc) := hD
        refine lv_if_eq (tgt := 47) hx hb dX6_lay_32 (by decide) (fun c_29 => ?_) (fun c_29 => ?_)
        · have h := h.1 c_29
          refine lv_ldc hx hb hown k_70 dX6_lay_47 ?_
          exact hret _ _ _ _ (-1000000001) (zTh, zKi, zHe, zNu, xSo, xSz, xVl) rfl h hP hD hS dX6_lay_49
        · have h := h.2 c_29
          exact J35 zTh zKi zHe zNu xSo xSz xVl h _ _ hP hD hS ls (lv_sub hl [0, 1, 2, 3] rfl)
    · have h := h.2 c_26
      refine lv_ldc hx hb hown k_70 dX6_lay_16 ?_
      exact hret _ _ _ _ (-1000000001) (zTh, zKi, zHe, zNu, xSo, xSz, xVl) rfl h hP hD hS dX6_lay_18
def wp_X6_ask (p1 : Int32) (p2 : Int32) (cSl : Nat → Option Nat) (zTh : Int32) (zKi : Int32) (zHe : Int32) (zo : Nat) (Q : Int32 → Prop) : Prop :=
  wp_X6_isSlot p1 (fun (r_1 : Int32) => ((r_1 = 0 → Q (-1000000001)) ∧ (¬ (r_1 = 0) → wp_X6_isKind p2 (fun (r_3 : Int32) => ((¬ r_3 = 0 → (vp_in p1 5 ∧ (cSl p1.toNatClampNeg = some zo ∧ ((¬ zTh = 0 → ((¬ zTh = 1 → Q (-1000000012)) ∧ (zTh = 1 → wp_X6_isOfKind zKi p2 (fun (r_9 : Int32) => ((¬ r_9 = 0 → wp_X6_worthOf zKi zHe (fun (r_11 : Int32) => Q r_11)) ∧ (r_9 = 0 → Q (-1000000012))))))) ∧ (zTh = 0 → Q (-1000000011)))))) ∧ (r_3 = 0 → Q (-1000000001)))))))
set_option maxHeartbeats 4000000 in
set_option maxRecDepth 100000 in
theorem c_X6_ask (l : Launch) (E : gE) (co ro jo qo yo eo cs cl cw zo xo xv : Nat) (sz : Nat) (cWs : Int32) (cKp : Int32) (cSl : Nat → Option Nat) (zTh : Int32) (zKi : Int32) (zHe : Int32) (zNu : Int32) (xSo : Int32) (xSz : Int32) (xVl : Nat → Int32) (p1 p2 : Int32)  (Q : Int32 → Prop) (h : wp_X6_ask p1 p2 cSl zTh zKi zHe zo Q) : Met l yX6_ask wsX6_ask ({ frames := 2, cells := 0, slots := 0, locals := 43 } : Room) (va_Pc [.ref co, .int p1, .int p2] (rc_B E (rw_16 E co ro jo qo yo eo cs cl cw zo xo xv cWs cKp cSl zTh zKi zHe zNu xSo xSz xVl) sz)) (va_Qi (S := Unit) (fun (r : Int32) (u : Unit) => Q r) (fun u t => rc_C E (va_A (rw_16 E co ro jo qo yo eo cs cl cw zo xo xv cWs cKp cSl zTh zKi zHe zNu xSo xSz xVl) sz) (rw_16 E co ro jo qo yo eo cs cl cw zo xo xv cWs cKp cSl zTh zKi zHe zNu xSo xSz xVl) t) (va_A (rw_16 E co ro jo qo yo eo cs cl cw zo xo xv cWs cKp cSl zTh zKi zHe zNu xSo xSz xVl) sz)) 0 0 (va_A (rw_16 E co ro jo qo yo eo cs cl cw zo xo xv cWs cKp cSl zTh zKi zHe zNu xSo xSz xVl) sz) := by
  refine rc_enterI (cc := cX6_ask) (maxL := 4) (by decide) rfl (Nat.le_of_ble_eq_true rfl) ?_
  intro p e s m args below meth c QQ A hx hb hml hown hts hmn hE hP hD hA hret ls hl
  have hown : s.vm.findClass RX6 = some m.cls := hown
  have hK := hE.1
  have hS : va_S A s.heap s.heap [] := va_S.rf
  have hl : lv_has ls 4 [(0, .ref co), (1, .int p1), (2, .int p2)] := hl
  have n_X3 : ∀ w ∈ wsX30, w ∈ wsX6_ask := fun _ h => List.mem_cons_of_mem _ (List.mem_append_right _ h)
  have n_X6 : ∀ w ∈ wsX60, w ∈ wsX6_ask := fun _ h => List.mem_cons_of_mem _ (List.mem_append_left _ (List.mem_append_right _ h))
  have k_70 := hts (.constant RX6 70 (-1000000001)) (List.mem_of_getElem? (i := 1) rfl)
  have k_44 := hts (.fieldLink RX6 44 "RidgeClaps" "slots" "[LRidgeClaps$Slot;") (List.mem_of_getElem? (i := 2) rfl)
  have k_275 := hts (.fieldLink RX6 275 "RidgeClaps$Slot" "thing" "I") (List.mem_of_getElem? (i := 3) rfl)
  have k_103 := hts (.constant RX6 103 (-1000000012)) (List.mem_of_getElem? (i := 6) rfl)
  have k_292 := hts (.fieldLink RX6 292 "RidgeClaps$Slot" "kind" "I") (List.mem_of_getElem? (i := 5) rfl)
  have k_295 := hts (.fieldLink RX6 295 "RidgeClaps$Slot" "height" "I") (List.mem_of_getElem? (i := 7) rfl)
  have k_182 := hts (.constant RX6 182 (-1000000011)) (List.mem_of_getElem? (i := 4) rfl)
  unfold wp_X6_ask at h
  obtain ⟨H, hH⟩ : ∃ H, H = s.heap := ⟨_, rfl⟩
  obtain ⟨locs, hlocs⟩ : ∃ locs : List Loc, locs = [] := ⟨_, rfl⟩
  have hP : va_P E.1 vwCl (rw_16 E co ro jo qo yo eo cs cl cw zo xo xv cWs cKp cSl zTh zKi zHe zNu xSo xSz xVl) H := by rw [hH]; exact hP
  have hS : va_S A s.heap H locs := by rw [hH, hlocs]; exact hS
  suffices hgo : W p l e ({ frames := 2, cells := 0, slots := 0, locals := 43 } : Room) s m args below meth c H locs 0 0 QQ (F0 m 0 ls []) from by rw [hH, hlocs] at hgo; exact hgo
  refine lv_iload_n hx hb dX6_ask_0 rfl (lv_at hl 1 rfl) ?_
  have hPc := hP.sub (ws' := []) [] rfl
  have hDc := hD.sub (ws' := []) [] (by decide) rfl
  have hFc := va_free (wc := []) hD hS hA [] rfl
  refine va_calli (va_runS (As := [.int p1]) (rest := []) ⟨hx, hb, hml, hown, hts⟩ (c_X6_isSlot l E H.size p1 _ h) (va_cwS 1 hts gX6_ask_X6_isSlot rfl rfl rfl (by decide +kernel) ⟨Nat.le_of_ble_eq_true rfl, Nat.le_of_ble_eq_true rfl⟩) ⟨fun a U g mk q => ⟨q.1, q.2.blind⟩, fun U hU hW => ⟨rfl, by rw [hU], by rw [hU]; exact hPc, hE.call hS hFc hW hU, hDc.weaken (fun _ _ _ _ => trivial)⟩⟩ rfl rfl hl.1 rfl (lv_room (Nat.le_of_ble_eq_true rfl)) dX6_ask_1 ⟨Nat.zero_le _, Nat.zero_le _⟩) hS (fun q _ h => hFc q h) hFc (fun r_1 u t H1 locs ht hvm h hB hz1 hk1 hS => ?_)
  obtain ⟨hP1, hD1⟩ := hB
  rw [ht] at hP1
  obtain ⟨hP, hD⟩ := rc_foc hP hD [] [none, none, none, none, none] (by decide) rfl hk1 hP1 rfl
  generalize H1 = H at hP hS ⊢
  have hP : va_P E.1 vwCl (rw_16 E co ro jo qo yo eo cs cl cw zo xo xv cWs cKp cSl zTh zKi zHe zNu xSo xSz xVl) H := hP
  have hD : va_D A (rw_16 E co ro jo qo yo eo cs cl cw zo xo xv cWs cKp cSl zTh zKi zHe zNu xSo xSz xVl) := hD
  refine lv_if_eq (tgt := 14) hx hb dX6_ask_4 (by decide) (fun c_2 => ?_) (fun c_2 => ?_)
  · have h := h.1 c_2
    refine lv_ldc hx hb hown k_70 dX6_ask_14 ?_
    exact hret _ _ _ _ (-1000000001) () rfl h hP hD hS dX6_ask_16
  · have h := h.2 c_2
    refine lv_iload_n hx hb dX6_ask_7 rfl (lv_at hl 2 rfl) ?_
    have hPc := hP.sub (ws' := []) [] rfl
    have hDc := hD.sub (ws' := []) [] (by decide) rfl
    have hFc := va_free (wc := []) hD hS hA [] rfl
    refine va_calli (va_runS (As := [.int p2]) (rest := []) ⟨hx, hb, hml, hown, hts⟩ (c_X6_isKind l E H.size p2 _ h) (va_cwS 1 hts gX6_ask_X6_isKind rfl rfl rfl (by decide +kernel) ⟨Nat.le_of_ble_eq_true rfl, Nat.le_of_ble_eq_true rfl⟩) ⟨fun a U g mk q => ⟨q.1, q.2.blind⟩, fun U hU hW => ⟨rfl, by rw [hU], by rw [hU]; exact hPc, hE.call hS hFc hW hU, hDc.weaken (fun _ _ _ _ => trivial)⟩⟩ rfl rfl hl.1 rfl (lv_room (Nat.le_of_ble_eq_true rfl)) dX6_ask_8 ⟨Nat.zero_le _, Nat.zero_le _⟩) hS (fun q _ h => hFc q h) hFc (fun r_3 u t H1 locs ht hvm h hB hz1 hk1 hS => ?_)
    obtain ⟨hP1, hD1⟩ := hB
    rw [ht] at hP1
    obtain ⟨hP, hD⟩ := rc_foc hP hD [] [none, none, none, none, none] (by decide) rfl hk1 hP1 rfl
    generalize H1 = H at hP hS ⊢
    have hP : va_P E.1 vwCl (rw_16 E co ro jo qo yo eo cs cl cw zo xo xv cWs cKp cSl zTh zKi zHe zNu xSo xSz xVl) H := hP
    have hD : va_D A (rw_16 E co ro jo qo yo eo cs cl cw zo xo xv cWs cKp cSl zTh zKi zHe zNu xSo xSz xVl) := hD
    refine lv_if_ne (tgt := 17) hx hb dX6_ask_11 (by decide) (fun c_4 => ?_) (fun c_4 => ?_)
    · have h := h.1 c_4
      refine lv_aload_n hx hb dX6_ask_17 rfl (lv_at hl 0 rfl) ?_
      refine va_get (D := E.1) (ci := 6) (v := .ref cl) (C := RX6) (T := TX6) (N := 10) hx hb hts n_X6 hown hK hP 0 rfl rfl 6 (by decide) k_44 (fun _ h9 => h9) rfl dX6_ask_18 ?_
      refine lv_iload_n hx hb dX6_ask_21 rfl (lv_at hl 1 rfl) ?_
      obtain ⟨o_5, h⟩ := h
      refine va_aldq hx hb hK hP 1 4 rfl rfl o_5 dX6_ask_22 ?_
      obtain ⟨s_6, h⟩ := h
      refine W.eq (g2 := F0 m 23 ls [.ref zo]) (by rw [s_6]; rfl) ?_
      refine lv_astore_n (lv' := [(3, .ref zo), (0, .ref co), (1, .int p1), (2, .int p2)]) hx hb dX6_ask_23 rfl hl (by decide) rfl (fun ls hl => ?_)
      refine lv_aload_n hx hb dX6_ask_24 rfl (lv_at hl 0 rfl) ?_
      refine va_get (D := E.1) (ci := 3) (v := .int zTh) (C := RX3) (T := TX3) (N := 5) hx hb hts n_X3 hown hK hP 2 rfl rfl 0 (by decide) k_275 (fun _ h9 => h9) rfl dX6_ask_25 ?_
      refine lv_if_ne (tgt := 34) hx hb dX6_ask_28 (by decide) (fun c_7 => ?_) (fun c_7 => ?_)
      · have h := h.1 c_7
        refine lv_aload_n hx hb dX6_ask_34 rfl (lv_at hl 0 rfl) ?_
        refine va_get (D := E.1) (ci := 3) (v := .int zTh) (C := RX3) (T := TX3) (N := 5) hx hb hts n_X3 hown hK hP 2 rfl rfl 0 (by decide) k_275 (fun _ h9 => h9) rfl dX6_ask_35 ?_
        refine lv_iconst (v := 1) hx hb dX6_ask_38 (by decide) ?_
        refine lv_icmp_ne (tgt := 53) hx hb dX6_ask_39 (by decide) (fun c_8 => ?_) (fun c_8 => ?_)
        · have h := h.1 c_8
          refine lv_ldc hx hb hown k_103 dX6_ask_53 ?_
          exact hret _ _ _ _ (-1000000012) () rfl h hP hD hS dX6_ask_55
        · have h := h.2 c_8
          refine lv_aload_n hx hb dX6_ask_42 rfl (lv_at hl 0 rfl) ?_
          refine va_get (D := E.1) (ci := 3) (v := .int zKi) (C := RX3) (T := TX3) (N := 5) hx hb hts n_X3 hown hK hP 2 rfl rfl 1 (by decide) k_292 (fun _ h9 => h9) rfl dX6_ask_43 ?_
          refine lv_iload_n hx hb dX6_ask_46 rfl (lv_at hl 3 rfl) ?_
          have hPc := hP.sub (ws' := []) [] rfl
          have hDc := hD.sub (ws' := []) [] (by decide) rfl
          have hFc := va_free (wc := []) hD hS hA [] rfl
          refine va_calli (va_runS (As := [.int zKi, .int p2]) (rest := []) ⟨hx, hb, hml, hown, hts⟩ (c_X6_isOfKind l E H.size zKi p2 _ h) (va_cwS 2 hts gX6_ask_X6_isOfKind rfl rfl rfl (by decide +kernel) ⟨Nat.le_of_ble_eq_true rfl, Nat.le_of_ble_eq_true rfl⟩) ⟨fun a U g mk q => ⟨q.1, q.2.blind⟩, fun U hU hW => ⟨rfl, by rw [hU], by rw [hU]; exact hPc, hE.call hS hFc hW hU, hDc.weaken (fun _ _ _ _ => trivial)⟩⟩ rfl rfl hl.1 rfl (lv_room (Nat.le_of_ble_eq_true rfl)) dX6_ask_47 ⟨Nat.zero_le _, Nat.zero_le _⟩) hS (fun q _ h => hFc q h) hFc (fun r_9 u t H1 locs ht hvm h hB hz1 hk1 hS => ?_)
          obtain ⟨hP1, hD1⟩ := hB
          rw [ht] at hP1
          obtain ⟨hP, hD⟩ := rc_foc hP hD [] [none, none, none, none, none] (by decide) rfl hk1 hP1 rfl
          generalize H1 = H at hP hS ⊢
          have hP : va_P E.1 vwCl (rw_16 E co ro jo qo yo eo cs cl cw zo xo xv cWs cKp cSl zTh zKi zHe zNu xSo xSz xVl) H := hP
          have hD : va_D A (rw_16 E co ro jo qo yo eo cs cl cw zo xo xv cWs cKp cSl zTh zKi zHe zNu xSo xSz xVl) := hD
          refine lv_if_ne (tgt := 56) hx hb dX6_ask_50 (by decide) (fun c_10 => ?_) (fun c_10 => ?_)
          · have h := h.1 c_10
            refine lv_aload_n hx hb dX6_ask_56 rfl (lv_at hl 0 rfl) ?_
            refine va_get (D := E.1) (ci := 3) (v := .int zKi) (C := RX3) (T := TX3) (N := 5) hx hb hts n_X3 hown hK hP 2 rfl rfl 1 (by decide) k_292 (fun _ h9 => h9) rfl dX6_ask_57 ?_
            refine lv_aload_n hx hb dX6_ask_60 rfl (lv_at hl 0 rfl) ?_
            refine va_get (D := E.1) (ci := 3) (v := .int zHe) (C := RX3) (T := TX3) (N := 5) hx hb hts n_X3 hown hK hP 2 rfl rfl 2 (by decide) k_295 (fun _ h9 => h9) rfl dX6_ask_61 ?_
            have hPc := hP.sub (ws' := []) [] rfl
            have hDc := hD.sub (ws' := []) [] (by decide) rfl
            have hFc := va_free (wc := []) hD hS hA [] rfl
            refine va_calli (va_runS (As := [.int zKi, .int zHe]) (rest := []) ⟨hx, hb, hml, hown, hts⟩ (c_X6_worthOf l E H.size zKi zHe _ h) (va_cwS 2 hts gX6_ask_X6_worthOf rfl rfl rfl (by decide +kernel) ⟨Nat.le_of_ble_eq_true rfl, Nat.le_of_ble_eq_true rfl⟩) ⟨fun a U g mk q => ⟨q.1, q.2.blind⟩, fun U hU hW => ⟨rfl, by rw [hU], by rw [hU]; exact hPc, hE.call hS hFc hW hU, hDc.weaken (fun _ _ _ _ => trivial)⟩⟩ rfl rfl hl.1 rfl (lv_room (Nat.le_of_ble_eq_true rfl)) dX6_ask_64 ⟨Nat.zero_le _, Nat.zero_le _⟩) hS (fun q _ h => hFc q h) hFc (fun r_11 u t H1 locs ht hvm h hB hz1 hk1 hS => ?_)
            obtain ⟨hP1, hD1⟩ := hB
            rw [ht] at hP1
            obtain ⟨hP, hD⟩ := rc_foc hP hD [] [none, none, none, none, none] (by decide) rfl hk1 hP1 rfl
            generalize H1 = H at hP hS ⊢
            have hP : va_P E.1 vwCl (rw_16 E co ro jo qo yo eo cs cl cw zo xo xv cWs cKp cSl zTh zKi zHe zNu xSo xSz xVl) H := hP
            have hD : va_D A (rw_16 E co ro jo qo yo eo cs cl cw zo xo xv cWs cKp cSl zTh zKi zHe zNu xSo xSz xVl) := hD
            exact hret _ _ _ _ r_11 () rfl h hP hD hS dX6_ask_67
          · have h := h.2 c_10
            refine lv_ldc hx hb hown k_103 dX6_ask_53 ?_
            exact hret _ _ _ _ (-1000000012) () rfl h hP hD hS dX6_ask_55
      · have h := h.2 c_7
        refine lv_ldc hx hb hown k_182 dX6_ask_31 ?_
        exact hret _ _ _ _ (-1000000011) () rfl h hP hD hS dX6_ask_33
    · have h := h.2 c_4
      refine lv_ldc hx hb hown k_70 dX6_ask_14 ?_
      exact hret _ _ _ _ (-1000000001) () rfl h hP hD hS dX6_ask_16
def wp_X6_item (p1 : Int32) (p2 : Int32) (cSl : Nat → Option Nat) (zTh : Int32) (xSz : Int32) (xVl : Nat → Int32) (zo : Nat) (Q : Int32 → Prop) : Prop :=
  wp_X6_isSlot p1 (fun (r_1 : Int32) => ((¬ r_1 = 0 → (vp_in p1 5 ∧ (cSl p1.toNatClampNeg = some zo ∧ ((¬ zTh = 0 → ((zTh = 2 → wp_X2_has p2 xSz (fun (r_7 : Int32) => ((¬ r_7 = 0 → wp_X2_isNumber p2 xVl (fun (r_9 : Int32) => ((r_9 = 0 → Q (-1000000012)) ∧ (¬ (r_9 = 0) → (vp_in p2 24 ∧ Q (xVl p2.toNatClampNeg)))))) ∧ (r_7 = 0 → Q (-1000000013))))) ∧ (¬ (zTh = 2) → Q (-1000000012)))) ∧ (zTh = 0 → Q (-1000000011)))))) ∧ (r_1 = 0 → Q (-1000000001))))
set_option maxHeartbeats 4000000 in
set_option maxRecDepth 100000 in
theorem c_X6_item (l : Launch) (E : gE) (co ro jo qo yo eo cs cl cw zo xo xv : Nat) (sz : Nat) (cWs : Int32) (cKp : Int32) (cSl : Nat → Option Nat) (zTh : Int32) (zKi : Int32) (zHe : Int32) (zNu : Int32) (xSo : Int32) (xSz : Int32) (xVl : Nat → Int32) (p1 p2 : Int32)  (Q : Int32 → Prop) (h : wp_X6_item p1 p2 cSl zTh xSz xVl zo Q) : Met l yX6_item wsX6_item ({ frames := 1, cells := 0, slots := 0, locals := 21 } : Room) (va_Pc [.ref co, .int p1, .int p2] (rc_B E (rw_16 E co ro jo qo yo eo cs cl cw zo xo xv cWs cKp cSl zTh zKi zHe zNu xSo xSz xVl) sz)) (va_Qi (S := Unit) (fun (r : Int32) (u : Unit) => Q r) (fun u t => rc_C E (va_A (rw_16 E co ro jo qo yo eo cs cl cw zo xo xv cWs cKp cSl zTh zKi zHe zNu xSo xSz xVl) sz) (rw_16 E co ro jo qo yo eo cs cl cw zo xo xv cWs cKp cSl zTh zKi zHe zNu xSo xSz xVl) t) (va_A (rw_16 E co ro jo qo yo eo cs cl cw zo xo xv cWs cKp cSl zTh zKi zHe zNu xSo xSz xVl) sz)) 0 0 (va_A (rw_16 E co ro jo qo yo eo cs cl cw zo xo xv cWs cKp cSl zTh zKi zHe zNu xSo xSz xVl) sz) := by
  refine rc_enterI (cc := cX6_item) (maxL := 4) (by decide) rfl (Nat.le_of_ble_eq_true rfl) ?_
  intro p e s m args below meth c QQ A hx hb hml hown hts hmn hE hP hD hA hret ls hl
  have hown : s.vm.findClass RX6 = some m.cls := hown
  have hK := hE.1
  have hS : va_S A s.heap s.heap [] := va_S.rf
  have hl : lv_has ls 4 [(0, .ref co), (1, .int p1), (2, .int p2)] := hl
  have n_X2 : ∀ w ∈ wsX20, w ∈ wsX6_item := fun _ h => List.mem_cons_of_mem _ (List.mem_append_right _ h)
  have n_X3 : ∀ w ∈ wsX30, w ∈ wsX6_item := fun _ h => List.mem_cons_of_mem _ (List.mem_append_left _ (List.mem_append_right _ h))
  have n_X6 : ∀ w ∈ wsX60, w ∈ wsX6_item := fun _ h => List.mem_cons_of_mem _ (List.mem_append_left _ (List.mem_append_left _ (List.mem_append_right _ h)))
  have k_44 := hts (.fieldLink RX6 44 "RidgeClaps" "slots" "[LRidgeClaps$Slot;") (List.mem_of_getElem? (i := 2) rfl)
  have k_275 := hts (.fieldLink RX6 275 "RidgeClaps$Slot" "thing" "I") (List.mem_of_getElem? (i := 3) rfl)
  have k_281 := hts (.fieldLink RX6 281 "RidgeClaps$Slot" "row" "LRidgeClaps$Row;") (List.mem_of_getElem? (i := 6) rfl)
  have k_103 := hts (.constant RX6 103 (-1000000012)) (List.mem_of_getElem? (i := 5) rfl)
  have k_251 := hts (.fieldLink RX6 251 "RidgeClaps$Row" "values" "[I") (List.mem_of_getElem? (i := 8) rfl)
  have k_247 := hts (.constant RX6 247 (-1000000013)) (List.mem_of_getElem? (i := 7) rfl)
  have k_182 := hts (.constant RX6 182 (-1000000011)) (List.mem_of_getElem? (i := 4) rfl)
  have k_70 := hts (.constant RX6 70 (-1000000001)) (List.mem_of_getElem? (i := 1) rfl)
  unfold wp_X6_item at h
  obtain ⟨H, hH⟩ : ∃ H, H = s.heap := ⟨_, rfl⟩
  obtain ⟨locs, hlocs⟩ : ∃ locs : List Loc, locs = [] := ⟨_, rfl⟩
  have hP : va_P E.1 vwCl (rw_16 E co ro jo qo yo eo cs cl cw zo xo xv cWs cKp cSl zTh zKi zHe zNu xSo xSz xVl) H := by rw [hH]; exact hP
  have hS : va_S A s.heap H locs := by rw [hH, hlocs]; exact hS
  suffices hgo : W p l e ({ frames := 1, cells := 0, slots := 0, locals := 21 } : Room) s m args below meth c H locs 0 0 QQ (F0 m 0 ls []) from by rw [hH, hlocs] at hgo; exact hgo
  refine lv_iload_n hx hb dX6_item_0 rfl (lv_at hl 1 rfl) ?_
  have hPc := hP.sub (ws' := []) [] rfl
  have hDc := hD.sub (ws' := []) [] (by decide) rfl
  have hFc := va_free (wc := []) hD hS hA [] rfl
  refine va_calli (va_runS (As := [.int p1]) (rest := []) ⟨hx, hb, hml, hown, hts⟩ (c_X6_isSlot l E H.size p1 _ h) (va_cwS 1 hts gX6_item_X6_isSlot rfl rfl rfl (by decide +kernel) ⟨Nat.le_of_ble_eq_true rfl, Nat.le_of_ble_eq_true rfl⟩) ⟨fun a U g mk q => ⟨q.1, q.2.blind⟩, fun U hU hW => ⟨rfl, by rw [hU], by rw [hU]; exact hPc, hE.call hS hFc hW hU, hDc.weaken (fun _ _ _ _ => trivial)⟩⟩ rfl rfl hl.1 rfl (lv_room (Nat.le_of_ble_eq_true rfl)) dX6_item_1 ⟨Nat.zero_le _, Nat.zero_le _⟩) hS (fun q _ h => hFc q h) hFc (fun r_1 u t H1 locs ht hvm h hB hz1 hk1 hS => ?_)
  obtain ⟨hP1, hD1⟩ := hB
  rw [ht] at hP1
  obtain ⟨hP, hD⟩ := rc_foc hP hD [] [none, none, none, none, none] (by decide) rfl hk1 hP1 rfl
  generalize H1 = H at hP hS ⊢
  have hP : va_P E.1 vwCl (rw_16 E co ro jo qo yo eo cs cl cw zo xo xv cWs cKp cSl zTh zKi zHe zNu xSo xSz xVl) H := hP
  have hD : va_D A (rw_16 E co ro jo qo yo eo cs cl cw zo xo xv cWs cKp cSl zTh zKi zHe zNu xSo xSz xVl) := hD
  refine lv_if_ne (tgt := 10) hx hb dX6_item_4 (by decide) (fun c_2 => ?_) (fun c_2 => ?_)
  · have h := h.1 c_2
    refine lv_aload_n hx hb dX6_item_10 rfl (lv_at hl 0 rfl) ?_
    refine va_get (D := E.1) (ci := 6) (v := .ref cl) (C := RX6) (T := TX6) (N := 10) hx hb hts n_X6 hown hK hP 0 rfl rfl 6 (by decide) k_44 (fun _ h9 => h9) rfl dX6_item_11 ?_
    refine lv_iload_n hx hb dX6_item_14 rfl (lv_at hl 1 rfl) ?_
    obtain ⟨o_3, h⟩ := h
    refine va_aldq hx hb hK hP 1 4 rfl rfl o_3 dX6_item_15 ?_
    obtain ⟨s_4, h⟩ := h
    refine W.eq (g2 := F0 m 16 ls [.ref zo]) (by rw [s_4]; rfl) ?_
    refine lv_astore_n (lv' := [(3, .ref zo), (0, .ref co), (1, .int p1), (2, .int p2)]) hx hb dX6_item_16 rfl hl (by decide) rfl (fun ls hl => ?_)
    refine lv_aload_n hx hb dX6_item_17 rfl (lv_at hl 0 rfl) ?_
    refine va_get (D := E.1) (ci := 3) (v := .int zTh) (C := RX3) (T := TX3) (N := 5) hx hb hts n_X3 hown hK hP 2 rfl rfl 0 (by decide) k_275 (fun _ h9 => h9) rfl dX6_item_18 ?_
    refine lv_if_ne (tgt := 27) hx hb dX6_item_21 (by decide) (fun c_5 => ?_) (fun c_5 => ?_)
    · have h := h.1 c_5
      refine lv_aload_n hx hb dX6_item_27 rfl (lv_at hl 0 rfl) ?_
      refine va_get (D := E.1) (ci := 3) (v := .int zTh) (C := RX3) (T := TX3) (N := 5) hx hb hts n_X3 hown hK hP 2 rfl rfl 0 (by decide) k_275 (fun _ h9 => h9) rfl dX6_item_28 ?_
      refine lv_iconst (v := 2) hx hb dX6_item_31 (by decide) ?_
      refine lv_icmp_eq (tgt := 38) hx hb dX6_item_32 (by decide) (fun c_6 => ?_) (fun c_6 => ?_)
      · have h := h.1 c_6
        refine lv_aload_n hx hb dX6_item_38 rfl (lv_at hl 0 rfl) ?_
        refine va_get (D := E.1) (ci := 3) (v := .ref xo) (C := RX3) (T := TX3) (N := 5) hx hb hts n_X3 hown hK hP 2 rfl rfl 4 (by decide) k_281 (fun _ h9 => h9) rfl dX6_item_39 ?_
        refine lv_iload_n hx hb dX6_item_42 rfl (lv_at hl 3 rfl) ?_
        have hPc := hP.sub (ws' := (rw_1 E xo xv xSo xSz xVl)) [3, 4] rfl
        have hDc := hD.sub (ws' := (rw_1 E xo xv xSo xSz xVl)) [3, 4] (by decide) rfl
        have hFc := va_free (wc := (rw_1 E xo xv xSo xSz xVl)) hD hS hA [3, 4] rfl
        refine va_calli (va_runV (As := [.int p2]) (rest := []) ⟨hx, hb, hml, hown, hts⟩ (c_X2_has l E xo xv H.size xSo xSz xVl p2 _ h) (cwV 1 hts gX6_item_X2_has rfl rfl rfl (by decide +kernel) ⟨Nat.le_of_ble_eq_true rfl, Nat.le_of_ble_eq_true rfl⟩) ⟨fun a U g mk q => ⟨q.1, q.2.blind⟩, va_recv hK hPc (ci := 2) (q0 := 0) rfl rfl, fun U hU hW => ⟨rfl, by rw [hU], by rw [hU]; exact hPc, hE.call hS hFc hW hU, hDc.weaken (fun _ _ _ _ => trivial)⟩⟩ rfl rfl hl.1 rfl (lv_room (Nat.le_of_ble_eq_true rfl)) dX6_item_43 ⟨Nat.zero_le _, Nat.zero_le _⟩) hS (fun q _ h => hFc q h) hFc (fun r_7 u t H1 locs ht hvm h hB hz1 hk1 hS => ?_)
        obtain ⟨hP1, hD1⟩ := hB
        rw [ht] at hP1
        obtain ⟨hP, hD⟩ := rc_foc hP hD [3, 4] [none, none, none, some 0, some 1] (by decide) rfl hk1 hP1 rfl
        generalize H1 = H at hP hS ⊢
        have hP : va_P E.1 vwCl (rw_16 E co ro jo qo yo eo cs cl cw zo xo xv cWs cKp cSl zTh zKi zHe zNu xSo xSz xVl) H := hP
        have hD : va_D A (rw_16 E co ro jo qo yo eo cs cl cw zo xo xv cWs cKp cSl zTh zKi zHe zNu xSo xSz xVl) := hD
        refine lv_if_ne (tgt := 52) hx hb dX6_item_46 (by decide) (fun c_8 => ?_) (fun c_8 => ?_)
        · have h := h.1 c_8
          refine lv_aload_n hx hb dX6_item_52 rfl (lv_at hl 0 rfl) ?_
          refine va_get (D := E.1) (ci := 3) (v := .ref xo) (C := RX3) (T := TX3) (N := 5) hx hb hts n_X3 hown hK hP 2 rfl rfl 4 (by decide) k_281 (fun _ h9 => h9) rfl dX6_item_53 ?_
          refine lv_iload_n hx hb dX6_item_56 rfl (lv_at hl 3 rfl) ?_
          have hPc := hP.sub (ws' := (rw_1 E xo xv xSo xSz xVl)) [3, 4] rfl
          have hDc := hD.sub (ws' := (rw_1 E xo xv xSo xSz xVl)) [3, 4] (by decide) rfl
          have hFc := va_free (wc := (rw_1 E xo xv xSo xSz xVl)) hD hS hA [3, 4] rfl
          refine va_calli (va_runV (As := [.int p2]) (rest := []) ⟨hx, hb, hml, hown, hts⟩ (c_X2_isNumber l E xo xv H.size xSo xSz xVl p2 _ h) (cwV 1 hts gX6_item_X2_isNumber rfl rfl rfl (by decide +kernel) ⟨Nat.le_of_ble_eq_true rfl, Nat.le_of_ble_eq_true rfl⟩) ⟨fun a U g mk q => ⟨q.1, q.2.blind⟩, va_recv hK hPc (ci := 2) (q0 := 0) rfl rfl, fun U hU hW => ⟨rfl, by rw [hU], by rw [hU]; exact hPc, hE.call hS hFc hW hU, hDc.weaken (fun _ _ _ _ => trivial)⟩⟩ rfl rfl hl.1 rfl (lv_room (Nat.le_of_ble_eq_true rfl)) dX6_item_57 ⟨Nat.zero_le _, Nat.zero_le _⟩) hS (fun q _ h => hFc q h) hFc (fun r_9 u t H1 locs ht hvm h hB hz1 hk1 hS => ?_)
          obtain ⟨hP1, hD1⟩ := hB
          rw [ht] at hP1
          obtain ⟨hP, hD⟩ := rc_foc hP hD [3, 4] [none, none, none, some 0, some 1] (by decide) rfl hk1 hP1 rfl
          generalize H1 = H at hP hS ⊢
          have hP : va_P E.1 vwCl (rw_16 E co ro jo qo yo eo cs cl cw zo xo xv cWs cKp cSl zTh zKi zHe zNu xSo xSz xVl) H := hP
          have hD : va_D A (rw_16 E co ro jo qo yo eo cs cl cw zo xo xv cWs cKp cSl zTh zKi zHe zNu xSo xSz xVl) := hD
          refine lv_if_eq (tgt := 75) hx hb dX6_item_60 (by decide) (fun c_10 => ?_) (fun c_10 => ?_)
          · have h := h.1 c_10
            refine lv_ldc hx hb hown k_103 dX6_item_75 ?_
            exact hret _ _ _ _ (-1000000012) () rfl h hP hD hS dX6_item_77
          · have h := h.2 c_10
            refine lv_aload_n hx hb dX6_item_63 rfl (lv_at hl 0 rfl) ?_
            refine va_get (D := E.1) (ci := 3) (v := .ref xo) (C := RX3) (T := TX3) (N := 5) hx hb hts n_X3 hown hK hP 2 rfl rfl 4 (by decide) k_281 (fun _ h9 => h9) rfl dX6_item_64 ?_
            refine va_get (D := E.1) (ci := 2) (v := .ref xv) (C := RX2) (T := TX2) (N := 3) hx hb hts n_X2 hown hK hP 3 rfl rfl 2 (by decide) k_251 (fun _ h9 => h9) rfl dX6_item_67 ?_
            refine lv_iload_n hx hb dX6_item_70 rfl (lv_at hl 3 rfl) ?_
            obtain ⟨o_11, h⟩ := h
            refine rc_iald hx hb hK hP 4 0 rfl rfl p2.toNatClampNeg rfl o_11 dX6_item_71 ?_
            refine lv_goto (tgt := 77) hx hb dX6_item_72 (by decide) ?_
            exact hret _ _ _ _ (xVl p2.toNatClampNeg) () rfl h hP hD hS dX6_item_77
        · have h := h.2 c_8
          refine lv_ldc hx hb hown k_247 dX6_item_49 ?_
          exact hret _ _ _ _ (-1000000013) () rfl h hP hD hS dX6_item_51
      · have h := h.2 c_6
        refine lv_ldc hx hb hown k_103 dX6_item_35 ?_
        exact hret _ _ _ _ (-1000000012) () rfl h hP hD hS dX6_item_37
    · have h := h.2 c_5
      refine lv_ldc hx hb hown k_182 dX6_item_24 ?_
      exact hret _ _ _ _ (-1000000011) () rfl h hP hD hS dX6_item_26
  · have h := h.2 c_2
    refine lv_ldc hx hb hown k_70 dX6_item_7 ?_
    exact hret _ _ _ _ (-1000000001) () rfl h hP hD hS dX6_item_9
def wp_X6_rest (p1 : Int32) (p2 : Int32) (cSl : Nat → Option Nat) (zTh : Int32) (zNu : Int32) (zo : Nat) (Q : Int32 → Prop) : Prop :=
  wp_X6_isSlot p1 (fun (r_1 : Int32) => ((¬ r_1 = 0 → (vp_in p1 5 ∧ (cSl p1.toNatClampNeg = some zo ∧ ((¬ zTh = 0 → ((zTh = 3 → ((¬ p2 = 0 → (¬ p2 = 0 ∧ Q (rc_rem zNu p2))) ∧ (p2 = 0 → Q (-1000000002)))) ∧ (¬ (zTh = 3) → Q (-1000000012)))) ∧ (zTh = 0 → Q (-1000000011)))))) ∧ (r_1 = 0 → Q (-1000000001))))
set_option maxHeartbeats 4000000 in
set_option maxRecDepth 100000 in
theorem c_X6_rest (l : Launch) (E : gE) (co ro jo qo yo eo cs cl cw zo xo xv : Nat) (sz : Nat) (cWs : Int32) (cKp : Int32) (cSl : Nat → Option Nat) (zTh : Int32) (zKi : Int32) (zHe : Int32) (zNu : Int32) (xSo : Int32) (xSz : Int32) (xVl : Nat → Int32) (p1 p2 : Int32)  (Q : Int32 → Prop) (h : wp_X6_rest p1 p2 cSl zTh zNu zo Q) : Met l yX6_rest wsX6_rest ({ frames := 1, cells := 0, slots := 0, locals := 20 } : Room) (va_Pc [.ref co, .int p1, .int p2] (rc_B E (rw_16 E co ro jo qo yo eo cs cl cw zo xo xv cWs cKp cSl zTh zKi zHe zNu xSo xSz xVl) sz)) (va_Qi (S := Unit) (fun (r : Int32) (u : Unit) => Q r) (fun u t => rc_C E (va_A (rw_16 E co ro jo qo yo eo cs cl cw zo xo xv cWs cKp cSl zTh zKi zHe zNu xSo xSz xVl) sz) (rw_16 E co ro jo qo yo eo cs cl cw zo xo xv cWs cKp cSl zTh zKi zHe zNu xSo xSz xVl) t) (va_A (rw_16 E co ro jo qo yo eo cs cl cw zo xo xv cWs cKp cSl zTh zKi zHe zNu xSo xSz xVl) sz)) 0 0 (va_A (rw_16 E co ro jo qo yo eo cs cl cw zo xo xv cWs cKp cSl zTh zKi zHe zNu xSo xSz xVl) sz) := by
  refine rc_enterI (cc := cX6_rest) (maxL := 4) (by decide) rfl (Nat.le_of_ble_eq_true rfl) ?_
  intro p e s m args below meth c QQ A hx hb hml hown hts hmn hE hP hD hA hret ls hl
  have hown : s.vm.findClass RX6 = some m.cls := hown
  have hK := hE.1
  have hS : va_S A s.heap s.heap [] := va_S.rf
  have hl : lv_has ls 4 [(0, .ref co), (1, .int p1), (2, .int p2)] := hl
  have n_X3 : ∀ w ∈ wsX30, w ∈ wsX6_rest := fun _ h => List.mem_cons_of_mem _ (List.mem_append_right _ h)
  have n_X6 : ∀ w ∈ wsX60, w ∈ wsX6_rest := fun _ h => List.mem_cons_of_mem _ (List.mem_append_left _ (List.mem_append_right _ h))
  have k_44 := hts (.fieldLink RX6 44 "RidgeClaps" "slots" "[LRidgeClaps$Slot;") (List.mem_of_getElem? (i := 2) rfl)
  have k_275 := hts (.fieldLink RX6 275 "RidgeClaps$Slot" "thing" "I") (List.mem_of_getElem? (i := 3) rfl)
  have k_289 := hts (.fieldLink RX6 289 "RidgeClaps$Slot" "number" "I") (List.mem_of_getElem? (i := 7) rfl)
  have k_137 := hts (.constant RX6 137 (-1000000002)) (List.mem_of_getElem? (i := 6) rfl)
  have k_103 := hts (.constant RX6 103 (-1000000012)) (List.mem_of_getElem? (i := 5) rfl)
  have k_182 := hts (.constant RX6 182 (-1000000011)) (List.mem_of_getElem? (i := 4) rfl)
  have k_70 := hts (.constant RX6 70 (-1000000001)) (List.mem_of_getElem? (i := 1) rfl)
  unfold wp_X6_rest at h
  obtain ⟨H, hH⟩ : ∃ H, H = s.heap := ⟨_, rfl⟩
  obtain ⟨locs, hlocs⟩ : ∃ locs : List Loc, locs = [] := ⟨_, rfl⟩
  have hP : va_P E.1 vwCl (rw_16 E co ro jo qo yo eo cs cl cw zo xo xv cWs cKp cSl zTh zKi zHe zNu xSo xSz xVl) H := by rw [hH]; exact hP
  have hS : va_S A s.heap H locs := by rw [hH, hlocs]; exact hS
  suffices hgo : W p l e ({ frames := 1, cells := 0, slots := 0, locals := 20 } : Room) s m args below meth c H locs 0 0 QQ (F0 m 0 ls []) from by rw [hH, hlocs] at hgo; exact hgo
  refine lv_iload_n hx hb dX6_rest_0 rfl (lv_at hl 1 rfl) ?_
  have hPc := hP.sub (ws' := []) [] rfl
  have hDc := hD.sub (ws' := []) [] (by decide) rfl
  have hFc := va_free (wc := []) hD hS hA [] rfl
  refine va_calli (va_runS (As := [.int p1]) (rest := []) ⟨hx, hb, hml, hown, hts⟩ (c_X6_isSlot l E H.size p1 _ h) (va_cwS 1 hts gX6_rest_X6_isSlot rfl rfl rfl (by decide +kernel) ⟨Nat.le_of_ble_eq_true rfl, Nat.le_of_ble_eq_true rfl⟩) ⟨fun a U g mk q => ⟨q.1, q.2.blind⟩, fun U hU hW => ⟨rfl, by rw [hU], by rw [hU]; exact hPc, hE.call hS hFc hW hU, hDc.weaken (fun _ _ _ _ => trivial)⟩⟩ rfl rfl hl.1 rfl (lv_room (Nat.le_of_ble_eq_true rfl)) dX6_rest_1 ⟨Nat.zero_le _, Nat.zero_le _⟩) hS (fun q _ h => hFc q h) hFc (fun r_1 u t H1 locs ht hvm h hB hz1 hk1 hS => ?_)
  obtain ⟨hP1, hD1⟩ := hB
  rw [ht] at hP1
  obtain ⟨hP, hD⟩ := rc_foc hP hD [] [none, none, none, none, none] (by decide) rfl hk1 hP1 rfl
  generalize H1 = H at hP hS ⊢
  have hP : va_P E.1 vwCl (rw_16 E co ro jo qo yo eo cs cl cw zo xo xv cWs cKp cSl zTh zKi zHe zNu xSo xSz xVl) H := hP
  have hD : va_D A (rw_16 E co ro jo qo yo eo cs cl cw zo xo xv cWs cKp cSl zTh zKi zHe zNu xSo xSz xVl) := hD
  refine lv_if_ne (tgt := 10) hx hb dX6_rest_4 (by decide) (fun c_2 => ?_) (fun c_2 => ?_)
  · have h := h.1 c_2
    refine lv_aload_n hx hb dX6_rest_10 rfl (lv_at hl 0 rfl) ?_
    refine va_get (D := E.1) (ci := 6) (v := .ref cl) (C := RX6) (T := TX6) (N := 10) hx hb hts n_X6 hown hK hP 0 rfl rfl 6 (by decide) k_44 (fun _ h9 => h9) rfl dX6_rest_11 ?_
    refine lv_iload_n hx hb dX6_rest_14 rfl (lv_at hl 1 rfl) ?_
    obtain ⟨o_3, h⟩ := h
    refine va_aldq hx hb hK hP 1 4 rfl rfl o_3 dX6_rest_15 ?_
    obtain ⟨s_4, h⟩ := h
    refine W.eq (g2 := F0 m 16 ls [.ref zo]) (by rw [s_4]; rfl) ?_
    refine lv_astore_n (lv' := [(3, .ref zo), (0, .ref co), (1, .int p1), (2, .int p2)]) hx hb dX6_rest_16 rfl hl (by decide) rfl (fun ls hl => ?_)
    refine lv_aload_n hx hb dX6_rest_17 rfl (lv_at hl 0 rfl) ?_
    refine va_get (D := E.1) (ci := 3) (v := .int zTh) (C := RX3) (T := TX3) (N := 5) hx hb hts n_X3 hown hK hP 2 rfl rfl 0 (by decide) k_275 (fun _ h9 => h9) rfl dX6_rest_18 ?_
    refine lv_if_ne (tgt := 27) hx hb dX6_rest_21 (by decide) (fun c_5 => ?_) (fun c_5 => ?_)
    · have h := h.1 c_5
      refine lv_aload_n hx hb dX6_rest_27 rfl (lv_at hl 0 rfl) ?_
      refine va_get (D := E.1) (ci := 3) (v := .int zTh) (C := RX3) (T := TX3) (N := 5) hx hb hts n_X3 hown hK hP 2 rfl rfl 0 (by decide) k_275 (fun _ h9 => h9) rfl dX6_rest_28 ?_
      refine lv_iconst (v := 3) hx hb dX6_rest_31 (by decide) ?_
      refine lv_icmp_eq (tgt := 38) hx hb dX6_rest_32 (by decide) (fun c_6 => ?_) (fun c_6 => ?_)
      · have h := h.1 c_6
        refine lv_iload_n hx hb dX6_rest_38 rfl (lv_at hl 3 rfl) ?_
        refine lv_if_ne (tgt := 45) hx hb dX6_rest_39 (by decide) (fun c_7 => ?_) (fun c_7 => ?_)
        · have h := h.1 c_7
          refine lv_aload_n hx hb dX6_rest_45 rfl (lv_at hl 0 rfl) ?_
          refine va_get (D := E.1) (ci := 3) (v := .int zNu) (C := RX3) (T := TX3) (N := 5) hx hb hts n_X3 hown hK hP 2 rfl rfl 3 (by decide) k_289 (fun _ h9 => h9) rfl dX6_rest_46 ?_
          refine lv_iload_n hx hb dX6_rest_49 rfl (lv_at hl 3 rfl) ?_
          obtain ⟨z_8, h⟩ := h
          refine lv_irem hx hb dX6_rest_50 z_8 ?_
          refine W.eq (g2 := F0 m 51 ls [.int (rc_rem zNu p2)]) rfl ?_
          exact hret _ _ _ _ (rc_rem zNu p2) () rfl h hP hD hS dX6_rest_51
        · have h := h.2 c_7
          refine lv_ldc hx hb hown k_137 dX6_rest_42 ?_
          exact hret _ _ _ _ (-1000000002) () rfl h hP hD hS dX6_rest_44
      · have h := h.2 c_6
        refine lv_ldc hx hb hown k_103 dX6_rest_35 ?_
        exact hret _ _ _ _ (-1000000012) () rfl h hP hD hS dX6_rest_37
    · have h := h.2 c_5
      refine lv_ldc hx hb hown k_182 dX6_rest_24 ?_
      exact hret _ _ _ _ (-1000000011) () rfl h hP hD hS dX6_rest_26
  · have h := h.2 c_2
    refine lv_ldc hx hb hown k_70 dX6_rest_7 ?_
    exact hret _ _ _ _ (-1000000001) () rfl h hP hD hS dX6_rest_9
