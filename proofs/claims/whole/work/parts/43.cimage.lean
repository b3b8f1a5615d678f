def lp_X0_takeBytes_3F (p1 : Int32)  (Q : Int32 → (Nat → Int32) → Prop) (R : Int32 → Int32 → (Nat → Int32) → Prop) (x2 : Int32) (eLn : Int32) (eBy : Nat → Int32) : Prop :=
  ((x2 < 0 → Q eLn eBy) ∧ (¬ (x2 < 0) → ((96 ≤ eLn → Q eLn eBy) ∧ (¬ (96 ≤ eLn) → (vp_in eLn 96 ∧ R (x2 + (-8)) (eLn + 1) (upd eBy eLn.toNatClampNeg ((rc_ushr p1 x2) &&& 255)))))))
def lp_X0_takeBytes_3 (p1 : Int32)  (Q : Int32 → (Nat → Int32) → Prop) (n : Nat) : Int32 → Int32 → (Nat → Int32) → Prop :=
  Nat.rec (motive := fun _ => Int32 → Int32 → (Nat → Int32) → Prop) (fun _ _ _ => False) (fun _ r => lp_X0_takeBytes_3F p1 Q r) n
def wp_X0_takeBytes (p1 : Int32) (eLn : Int32) (eBy : Nat → Int32) (Q : Int32 → (Nat → Int32) → Prop) : Prop :=
  (∃ n : Nat, lp_X0_takeBytes_3 p1 Q n 24 eLn eBy)
set_option maxHeartbeats 4000000 in
set_option maxRecDepth 100000 in
theorem c_X0_takeBytes (l : Launch) (E : gE) (eo eb ec : Nat) (sz : Nat) (eLn : Int32) (eFt : Int32) (eCc : Int32) (eKy : Int32) (eLv : Int32) (eOb : Int32) (eOn : Int32) (eSt : Int32) (eEd : Int32) (eSo : Int32) (eBy : Nat → Int32) (eCo : Nat → Int32) (p1 : Int32)  (Q : Int32 → (Nat → Int32) → Prop) (h : wp_X0_takeBytes p1 eLn eBy Q) : Met l yX0_takeBytes wsX0_takeBytes ({ frames := 0, cells := 0, slots := 0, locals := 0 } : Room) (va_Pc [.ref eo, .int p1] (rc_B E (rw_17 E eo eb ec eLn eFt eCc eKy eLv eOb eOn eSt eEd eSo eBy eCo) sz)) (va_Qv (S := Int32 × (Nat → Int32)) (fun (u : Int32 × (Nat → Int32)) => Q u.1 u.2) (fun u t => rc_C E (va_A (rw_17 E eo eb ec eLn eFt eCc eKy eLv eOb eOn eSt eEd eSo eBy eCo) sz) (rw_17 E eo eb ec u.1 eFt eCc eKy eLv eOb eOn eSt eEd eSo u.2 eCo) t) (va_A (rw_17 E eo eb ec eLn eFt eCc eKy eLv eOb eOn eSt eEd eSo eBy eCo) sz)) 0 0 (va_A (rw_17 E eo eb ec eLn eFt eCc eKy eLv eOb eOn eSt eEd eSo eBy eCo) sz) := by
  refine rc_enterV (cc := cX0_takeBytes) (maxL := 3) (by decide) rfl (Nat.le_of_ble_eq_true rfl) ?_
  intro p e s m args below meth c QQ A hx hb hml hown hts hmn hE hP hD hA hret ls hl
  have hown : s.vm.findClass RX0 = some m.cls := hown
  have hK := hE.1
  have hS : va_S A s.heap s.heap [] := va_S.rf
  have hl : lv_has ls 3 [(0, .ref eo), (1, .int p1)] := hl
  have n_X0 : ∀ w ∈ wsX00, w ∈ wsX0_takeBytes := fun _ h => List.mem_cons_of_mem _ (List.mem_append_right _ h)
  have k_15 := hts (.fieldLink RX0 15 "RidgeClaps$Reader" "length" "I") (List.mem_of_getElem? (i := 1) rfl)
  have k_9 := hts (.fieldLink RX0 9 "RidgeClaps$Reader" "bytes" "[I") (List.mem_of_getElem? (i := 2) rfl)
  have J3 : ∀ (n : Nat) (x2 : Int32) (eLn : Int32) (eBy : Nat → Int32), lp_X0_takeBytes_3 p1 Q n x2 eLn eBy → ∀ (H : Heap) (locs : List Loc), va_P E.1 vwCl (rw_17 E eo eb ec eLn eFt eCc eKy eLv eOb eOn eSt eEd eSo eBy eCo) H → va_D A (rw_17 E eo eb ec eLn eFt eCc eKy eLv eOb eOn eSt eEd eSo eBy eCo) → va_S A s.heap H locs → ∀ ls : Array Slot, lv_has ls 3 [(0, .ref eo), (1, .int p1), (2, .int x2)] → W p l e ({ frames := 0, cells := 0, slots := 0, locals := 0 } : Room) s m args below meth c H locs 0 0 QQ (F0 m 3 ls []) := by
    intro n
    induction n with
    | zero =>
      intro x2 eLn eBy h
      exact False.elim h
    | succ n ih =>
      intro x2 eLn eBy h H locs hP hD hS ls hl
      have h : lp_X0_takeBytes_3F p1 Q (lp_X0_takeBytes_3 p1 Q n) x2 eLn eBy := h
      unfold lp_X0_takeBytes_3F at h
      refine lv_iload_n hx hb dX0_takeBytes_3 rfl (lv_at hl 2 rfl) ?_
      refine lv_if_lt (tgt := 48) hx hb dX0_takeBytes_4 (by decide) (fun c_1 => ?_) (fun c_1 => ?_)
      · have h := h.1 c_1
        exact hret _ _ _ _ (eLn, eBy) h hP hD hS dX0_takeBytes_48
      · have h := h.2 c_1
        refine lv_aload_n hx hb dX0_takeBytes_7 rfl (lv_at hl 0 rfl) ?_
        refine va_get (D := E.1) (ci := 0) (v := .int eLn) (C := RX0) (T := TX0) (N := 12) hx hb hts n_X0 hown hK hP 0 rfl rfl 1 (by decide) k_15 (fun _ h9 => h9) rfl dX0_takeBytes_8 ?_
        refine lv_bipush (v := 96) hx hb dX0_takeBytes_11 (by decide) ?_
        refine lv_icmp_ge (tgt := 48) hx hb dX0_takeBytes_13 (by decide) (fun c_2 => ?_) (fun c_2 => ?_)
        · have h := h.1 c_2
          exact hret _ _ _ _ (eLn, eBy) h hP hD hS dX0_takeBytes_48
        · have h := h.2 c_2
          refine lv_aload_n hx hb dX0_takeBytes_16 rfl (lv_at hl 0 rfl) ?_
          refine va_get (D := E.1) (ci := 0) (v := .ref eb) (C := RX0) (T := TX0) (N := 12) hx hb hts n_X0 hown hK hP 0 rfl rfl 0 (by decide) k_9 (fun _ h9 => h9) rfl dX0_takeBytes_17 ?_
          refine lv_aload_n hx hb dX0_takeBytes_20 rfl (lv_at hl 0 rfl) ?_
          refine va_get (D := E.1) (ci := 0) (v := .int eLn) (C := RX0) (T := TX0) (N := 12) hx hb hts n_X0 hown hK hP 0 rfl rfl 1 (by decide) k_15 (fun _ h9 => h9) rfl dX0_takeBytes_21 ?_
          refine lv_iload_n hx hb dX0_takeBytes_24 rfl (lv_at hl 1 rfl) ?_
          refine lv_iload_n hx hb dX0_takeBytes_25 rfl (lv_at hl 2 rfl) ?_
          refine lv_iushr (v := rc_ushr p1 x2) hx hb dX0_takeBytes_26 rfl ?_
          refine lv_sipush (v := 255) hx hb dX0_takeBytes_27 (by decide) ?_
          refine lv_iand hx hb dX0_takeBytes_30 ?_
          obtain ⟨o_3, h⟩ := h
          refine rc_iast hx hb hK hP hD hS 1 0 rfl rfl eLn.toNatClampNeg rfl o_3 dX0_takeBytes_31 (fun H locs hP hD hS => ?_)
          have hP : va_P E.1 vwCl (rw_17 E eo eb ec eLn eFt eCc eKy eLv eOb eOn eSt eEd eSo (upd eBy eLn.toNatClampNeg ((rc_ushr p1 x2) &&& 255)) eCo) H := hP
          have hD : va_D A (rw_17 E eo eb ec eLn eFt eCc eKy eLv eOb eOn eSt eEd eSo (upd eBy eLn.toNatClampNeg ((rc_ushr p1 x2) &&& 255)) eCo) := hD
          refine lv_aload_n hx hb dX0_takeBytes_32 rfl (lv_at hl 0 rfl) ?_
          refine lv_dup hx hb dX0_takeBytes_33 rfl ?_
          refine va_get (D := E.1) (ci := 0) (v := .int eLn) (C := RX0) (T := TX0) (N := 12) hx hb hts n_X0 hown hK hP 0 rfl rfl 1 (by decide) k_15 (fun _ h9 => h9) rfl dX0_takeBytes_34 ?_
          refine lv_iconst (v := 1) hx hb dX0_takeBytes_37 (by decide) ?_
          refine lv_iadd hx hb dX0_takeBytes_38 ?_
          refine va_put (D := E.1) (ci := 0) (v := .int (eLn + 1)) (ty := .int) (C := RX0) (T := TX0) (N := 12) hx hb hts n_X0 tyX0 tyX0_ok nmX0 hown hK hP hD hS 0 rfl rfl 1 (by decide) k_15 (fun _ h9 => h9) rfl (by decide +kernel) rfl rfl (Nat.le_of_ble_eq_true rfl) dX0_takeBytes_39 (fun H locs hP hD hS => ?_)
          have hP : va_P E.1 vwCl (rw_17 E eo eb ec (eLn + 1) eFt eCc eKy eLv eOb eOn eSt eEd eSo (upd eBy eLn.toNatClampNeg ((rc_ushr p1 x2) &&& 255)) eCo) H := hP
          have hD : va_D A (rw_17 E eo eb ec (eLn + 1) eFt eCc eKy eLv eOb eOn eSt eEd eSo (upd eBy eLn.toNatClampNeg ((rc_ushr p1 x2) &&& 255)) eCo) := hD
          refine lv_iinc (v := x2 + (-8)) (lv' := [(2, .int (x2 + (-8))), (0, .ref eo), (1, .int p1)]) hx hb dX0_takeBytes_42 hl (k := 2) rfl (by rfl) (by decide) rfl (fun ls hl => ?_)
          refine lv_goto (tgt := 3) hx hb dX0_takeBytes_45 (by decide) ?_
          exact ih (x2 + (-8)) (eLn + 1) (upd eBy eLn.toNatClampNeg ((rc_ushr p1 x2) &&& 255)) h _ _ hP hD hS ls (lv_sub hl [1, 2, 0] rfl)
  unfold wp_X0_takeBytes at h
  obtain ⟨H, hH⟩ : ∃ H, H = s.heap := ⟨_, rfl⟩
  obtain ⟨locs, hlocs⟩ : ∃ locs : List Loc, locs = [] := ⟨_, rfl⟩
  have hP : va_P E.1 vwCl (rw_17 E eo eb ec eLn eFt eCc eKy eLv eOb eOn eSt eEd eSo eBy eCo) H := by rw [hH]; exact hP
  have hS : va_S A s.heap H locs := by rw [hH, hlocs]; exact hS
  suffices hgo : W p l e ({ frames := 0, cells := 0, slots := 0, locals := 0 } : Room) s m args below meth c H locs 0 0 QQ (F0 m 0 ls []) from by rw [hH, hlocs] at hgo; exact hgo
  refine lv_bipush (v := 24) hx hb dX0_takeBytes_0 (by decide) ?_
  refine lv_istore_n (lv' := [(2, .int 24), (0, .ref eo), (1, .int p1)]) hx hb dX0_takeBytes_2 rfl hl (by decide) rfl (fun ls hl => ?_)
  obtain ⟨n, h⟩ := h
  exact J3 n 24 eLn eBy h _ _ hP hD hS ls (lv_sub hl [1, 2, 0] rfl)
def wp_X6_feed (p1 : Int32) (p2 : Int32) (p3 : Int32) (eLn : Int32) (eBy : Nat → Int32) (Q : Int32 → Int32 → (Nat → Int32) → Prop) : Prop :=
  (((eLn + 12) ≤ 96 → wp_X0_takeBytes p1 eLn eBy (fun (w_2 : Int32) (w_3 : Nat → Int32) => wp_X0_takeBytes p2 w_2 w_3 (fun (w_4 : Int32) (w_5 : Nat → Int32) => wp_X0_takeBytes p3 w_4 w_5 (fun (w_6 : Int32) (w_7 : Nat → Int32) => Q w_6 w_6 w_7)))) ∧ (¬ ((eLn + 12) ≤ 96) → Q (-1000000003) eLn eBy))
set_option maxHeartbeats 4000000 in
set_option maxRecDepth 100000 in
theorem c_X6_feed (l : Launch) (E : gE) (co ro jo qo yo eo cs cl cw eb ec : Nat) (sz : Nat) (cWs : Int32) (cKp : Int32) (eLn : Int32) (eFt : Int32) (eCc : Int32) (eKy : Int32) (eLv : Int32) (eOb : Int32) (eOn : Int32) (eSt : Int32) (eEd : Int32) (eSo : Int32) (eBy : Nat → Int32) (eCo : Nat → Int32) (p1 p2 p3 : Int32)  (Q : Int32 → Int32 → (Nat → Int32) → Prop) (h : wp_X6_feed p1 p2 p3 eLn eBy Q) : Met l yX6_feed wsX6_feed ({ frames := 1, cells := 0, slots := 0, locals := 22 } : Room) (va_Pc [.ref co, .int p1, .int p2, .int p3] (rc_B E (rw_18 E co ro jo qo yo eo cs cl cw eb ec cWs cKp eLn eFt eCc eKy eLv eOb eOn eSt eEd eSo eBy eCo) sz)) (va_Qi (S := Int32 × (Nat → Int32)) (fun (r : Int32) (u : Int32 × (Nat → Int32)) => Q r u.1 u.2) (fun u t => rc_C E (va_A (rw_18 E co ro jo qo yo eo cs cl cw eb ec cWs cKp eLn eFt eCc eKy eLv eOb eOn eSt eEd eSo eBy eCo) sz) (rw_18 E co ro jo qo yo eo cs cl cw eb ec cWs cKp u.1 eFt eCc eKy eLv eOb eOn eSt eEd eSo u.2 eCo) t) (va_A (rw_18 E co ro jo qo yo eo cs cl cw eb ec cWs cKp eLn eFt eCc eKy eLv eOb eOn eSt eEd eSo eBy eCo) sz)) 0 0 (va_A (rw_18 E co ro jo qo yo eo cs cl cw eb ec cWs cKp eLn eFt eCc eKy eLv eOb eOn eSt eEd eSo eBy eCo) sz) := by
  refine rc_enterI (cc := cX6_feed) (maxL := 4) (by decide) rfl (Nat.le_of_ble_eq_true rfl) ?_
  intro p e s m args below meth c QQ A hx hb hml hown hts hmn hE hP hD hA hret ls hl
  have hown : s.vm.findClass RX6 = some m.cls := hown
  have hK := hE.1
  have hS : va_S A s.heap s.heap [] := va_S.rf
  have hl : lv_has ls 4 [(0, .ref co), (1, .int p1), (2, .int p2), (3, .int p3)] := hl
  have n_X0 : ∀ w ∈ wsX00, w ∈ wsX6_feed := fun _ h => List.mem_cons_of_mem _ (List.mem_append_right _ h)
  have n_X6 : ∀ w ∈ wsX60, w ∈ wsX6_feed := fun _ h => List.mem_cons_of_mem _ (List.mem_append_left _ (List.mem_append_right _ h))
  have k_32 := hts (.fieldLink RX6 32 "RidgeClaps" "reader" "LRidgeClaps$Reader;") (List.mem_of_getElem? (i := 1) rfl)
  have k_202 := hts (.fieldLink RX6 202 "RidgeClaps$Reader" "length" "I") (List.mem_of_getElem? (i := 2) rfl)
  have k_74 := hts (.constant RX6 74 (-1000000003)) (List.mem_of_getElem? (i := 3) rfl)
  unfold wp_X6_feed at h
  obtain ⟨H, hH⟩ : ∃ H, H = s.heap := ⟨_, rfl⟩
  obtain ⟨locs, hlocs⟩ : ∃ locs : List Loc, locs = [] := ⟨_, rfl⟩
  have hP : va_P E.1 vwCl (rw_18 E co ro jo qo yo eo cs cl cw eb ec cWs cKp eLn eFt eCc eKy eLv eOb eOn eSt eEd eSo eBy eCo) H := by rw [hH]; exact hP
  have hS : va_S A s.heap H locs := by rw [hH, hlocs]; exact hS
  suffices hgo : W p l e ({ frames := 1, cells := 0, slots := 0, locals := 22 } : Room) s m args below meth c H locs 0 0 QQ (F0 m 0 ls []) from by rw [hH, hlocs] at hgo; exact hgo
  refine lv_aload_n hx hb dX6_feed_0 rfl (lv_at hl 0 rfl) ?_
  refine va_get (D := E.1) (ci := 6) (v := .ref eo) (C := RX6) (T := TX6) (N := 10) hx hb hts n_X6 hown hK hP 0 rfl rfl 4 (by decide) k_32 (fun _ h9 => h9) rfl dX6_feed_1 ?_
  refine va_get (D := E.1) (ci := 0) (v := .int eLn) (C := RX0) (T := TX0) (N := 12) hx hb hts n_X0 hown hK hP 1 rfl rfl 1 (by decide) k_202 (fun _ h9 => h9) rfl dX6_feed_4 ?_
  refine lv_bipush (v := 12) hx hb dX6_feed_7 (by decide) ?_
  refine lv_iadd hx hb dX6_feed_9 ?_
  refine lv_bipush (v := 96) hx hb dX6_feed_10 (by decide) ?_
  refine lv_icmp_le (tgt := 18) hx hb dX6_feed_12 (by decide) (fun c_1 => ?_) (fun c_1 => ?_)
  · have h := h.1 c_1
    refine lv_aload_n hx hb dX6_feed_18 rfl (lv_at hl 0 rfl) ?_
    refine va_get (D := E.1) (ci := 6) (v := .ref eo) (C := RX6) (T := TX6) (N := 10) hx hb hts n_X6 hown hK hP 0 rfl rfl 4 (by decide) k_32 (fun _ h9 => h9) rfl dX6_feed_19 ?_
    refine lv_iload_n hx hb dX6_feed_22 rfl (lv_at hl 1 rfl) ?_
    have hPc := hP.sub (ws' := (rw_17 E eo eb ec eLn eFt eCc eKy eLv eOb eOn eSt eEd eSo eBy eCo)) [1, 2, 3] rfl
    have hDc := hD.sub (ws' := (rw_17 E eo eb ec eLn eFt eCc eKy eLv eOb eOn eSt eEd eSo eBy eCo)) [1, 2, 3] (by decide) rfl
    have hFc := va_free (wc := (rw_17 E eo eb ec eLn eFt eCc eKy eLv eOb eOn eSt eEd eSo eBy eCo)) hD hS hA [1, 2, 3] rfl
    refine va_callv (va_runV (As := [.int p1]) (rest := []) ⟨hx, hb, hml, hown, hts⟩ (c_X0_takeBytes l E eo eb ec H.size eLn eFt eCc eKy eLv eOb eOn eSt eEd eSo eBy eCo p1 _ h) (cwV 1 hts gX6_feed_X0_takeBytes rfl rfl rfl (by decide +kernel) ⟨Nat.le_of_ble_eq_true rfl, Nat.le_of_ble_eq_true rfl⟩) ⟨fun a U g mk q => ⟨q.1, q.2.blind⟩, va_recv hK hPc (ci := 0) (q0 := 0) rfl rfl, fun U hU hW => ⟨rfl, by rw [hU], by rw [hU]; exact hPc, hE.call hS hFc hW hU, hDc.weaken (fun _ _ _ _ => trivial)⟩⟩ rfl rfl hl.1 rfl (lv_room (Nat.le_of_ble_eq_true rfl)) dX6_feed_23 ⟨Nat.zero_le _, Nat.zero_le _⟩) hS (fun q _ h => hFc q h) hFc (fun u t H1 locs ht hvm h hB hz1 hk1 hS => ?_)
    obtain ⟨w_2, w_3⟩ := u
    obtain ⟨hP1, hD1⟩ := hB
    rw [ht] at hP1
    obtain ⟨hP, hD⟩ := rc_foc hP hD [1, 2, 3] [none, some 0, some 1, some 2] (by decide) rfl hk1 hP1 rfl
    generalize H1 = H at hP hS ⊢
    have hP : va_P E.1 vwCl (rw_18 E co ro jo qo yo eo cs cl cw eb ec cWs cKp w_2 eFt eCc eKy eLv eOb eOn eSt eEd eSo w_3 eCo) H := hP
    have hD : va_D A (rw_18 E co ro jo qo yo eo cs cl cw eb ec cWs cKp w_2 eFt eCc eKy eLv eOb eOn eSt eEd eSo w_3 eCo) := hD
    refine lv_aload_n hx hb dX6_feed_26 rfl (lv_at hl 0 rfl) ?_
    refine va_get (D := E.1) (ci := 6) (v := .ref eo) (C := RX6) (T := TX6) (N := 10) hx hb hts n_X6 hown hK hP 0 rfl rfl 4 (by decide) k_32 (fun _ h9 => h9) rfl dX6_feed_27 ?_
    refine lv_iload_n hx hb dX6_feed_30 rfl (lv_at hl 2 rfl) ?_
    have hPc := hP.sub (ws' := (rw_17 E eo eb ec w_2 eFt eCc eKy eLv eOb eOn eSt eEd eSo w_3 eCo)) [1, 2, 3] rfl
    have hDc := hD.sub (ws' := (rw_17 E eo eb ec w_2 eFt eCc eKy eLv eOb eOn eSt eEd eSo w_3 eCo)) [1, 2, 3] (by decide) rfl
    have hFc := va_free (wc := (rw_17 E eo eb ec w_2 eFt eCc eKy eLv eOb eOn eSt eEd eSo w_3 eCo)) hD hS hA [1, 2, 3] rfl
    refine va_callv (va_runV (As := [.int p2]) (rest := []) ⟨hx, hb, hml, hown, hts⟩ (c_X0_takeBytes l E eo eb ec H.size w_2 eFt eCc eKy eLv eOb eOn eSt eEd eSo w_3 eCo p2 _ h) (cwV 1 hts gX6_feed_X0_takeBytes rfl rfl rfl (by decide +kernel) ⟨Nat.le_of_ble_eq_true rfl, Nat.le_of_ble_eq_true rfl⟩) ⟨fun a U g mk q => ⟨q.1, q.2.blind⟩, va_recv hK hPc (ci := 0) (q0 := 0) rfl rfl, fun U hU hW => ⟨rfl, by rw [hU], by rw [hU]; exact hPc, hE.call hS hFc hW hU, hDc.weaken (fun _ _ _ _ => trivial)⟩⟩ rfl rfl hl.1 rfl (lv_room (Nat.le_of_ble_eq_true rfl)) dX6_feed_31 ⟨Nat.zero_le _, Nat.zero_le _⟩) hS (fun q _ h => hFc q h) hFc (fun u t H1 locs ht hvm h hB hz1 hk1 hS => ?_)
    obtain ⟨w_4, w_5⟩ := u
    obtain ⟨hP1, hD1⟩ := hB
    rw [ht] at hP1
    obtain ⟨hP, hD⟩ := rc_foc hP hD [1, 2, 3] [none, some 0, some 1, some 2] (by decide) rfl hk1 hP1 rfl
    generalize H1 = H at hP hS ⊢
    have hP : va_P E.1 vwCl (rw_18 E co ro jo qo yo eo cs cl cw eb ec cWs cKp w_4 eFt eCc eKy eLv eOb eOn eSt eEd eSo w_5 eCo) H := hP
    have hD : va_D A (rw_18 E co ro jo qo yo eo cs cl cw eb ec cWs cKp w_4 eFt eCc eKy eLv eOb eOn eSt eEd eSo w_5 eCo) := hD
    refine lv_aload_n hx hb dX6_feed_34 rfl (lv_at hl 0 rfl) ?_
    refine va_get (D := E.1) (ci := 6) (v := .ref eo) (C := RX6) (T := TX6) (N := 10) hx hb hts n_X6 hown hK hP 0 rfl rfl 4 (by decide) k_32 (fun _ h9 => h9) rfl dX6_feed_35 ?_
    refine lv_iload_n hx hb dX6_feed_38 rfl (lv_at hl 3 rfl) ?_
    have hPc := hP.sub (ws' := (rw_17 E eo eb ec w_4 eFt eCc eKy eLv eOb eOn eSt eEd eSo w_5 eCo)) [1, 2, 3] rfl
    have hDc := hD.sub (ws' := (rw_17 E eo eb ec w_4 eFt eCc eKy eLv eOb eOn eSt eEd eSo w_5 eCo)) [1, 2, 3] (by decide) rfl
    have hFc := va_free (wc := (rw_17 E eo eb ec w_4 eFt eCc eKy eLv eOb eOn eSt eEd eSo w_5 eCo)) hD hS hA [1, 2, 3] rfl
    refine va_callv (va_runV (As := [.int p3]) (rest := []) ⟨hx, hb, hml, hown, hts⟩ (c_X0_takeBytes l E eo eb ec H.size w_4 eFt eCc eKy eLv eOb eOn eSt eEd eSo w_5 eCo p3 _ h) (cwV 1 hts gX6_feed_X0_takeBytes rfl rfl rfl (by decide +kernel) ⟨Nat.le_of_ble_eq_true rfl, Nat.le_of_ble_eq_true rfl⟩) ⟨fun a U g mk q => ⟨q.1, q.2.blind⟩, va_recv hK hPc (ci := 0) (q0 := 0) rfl rfl, fun U hU hW => ⟨rfl, by rw [hU], by rw [hU]; exact hPc, hE.call hS hFc hW hU, hDc.weaken (fun _ _ _ _ => trivial)⟩⟩ rfl rfl hl.1 rfl (lv_room (Nat.le_of_ble_eq_true rfl)) dX6_feed_39 ⟨Nat.zero_le _, Nat.zero_le _⟩) hS (fun q _ h => hFc q h) hFc (fun u t H1 locs ht hvm h hB hz1 hk1 hS => ?_)
    obtain ⟨w_6, w_7⟩ := u
    obtain ⟨hP1, hD1⟩ := hB
    rw [ht] at hP1
    obtain ⟨hP, hD⟩ := rc_foc hP hD [1, 2, 3] [none, some 0, some 1, some 2] (by decide) rfl hk1 hP1 rfl
    generalize H1 = H at hP hS ⊢
    have hP : va_P E.1 vwCl (rw_18 E co ro jo qo yo eo cs cl cw eb ec cWs cKp w_6 eFt eCc eKy eLv eOb eOn eSt eEd eSo w_7 eCo) H := hP
    have hD : va_D A (rw_18 E co ro jo qo yo eo cs cl cw eb ec cWs cKp w_6 eFt eCc eKy eLv eOb eOn eSt eEd eSo w_7 eCo) := hD
    refine lv_aload_n hx hb dX6_feed_42 rfl (lv_at hl 0 rfl) ?_
    refine va_get (D := E.1) (ci := 6) (v := .ref eo) (C := RX6) (T := TX6) (N := 10) hx hb hts n_X6 hown hK hP 0 rfl rfl 4 (by decide) k_32 (fun _ h9 => h9) rfl dX6_feed_43 ?_
    refine va_get (D := E.1) (ci := 0) (v := .int w_6) (C := RX0) (T := TX0) (N := 12) hx hb hts n_X0 hown hK hP 1 rfl rfl 1 (by decide) k_202 (fun _ h9 => h9) rfl dX6_feed_46 ?_
    exact hret _ _ _ _ w_6 (w_6, w_7) rfl h hP hD hS dX6_feed_49
  · have h := h.2 c_1
    refine lv_ldc hx hb hown k_74 dX6_feed_15 ?_
    exact hret _ _ _ _ (-1000000003) (eLn, eBy) rfl h hP hD hS dX6_feed_17
def wp_X6_trim (p1 : Int32) (eLn : Int32) (Q : Int32 → Int32 → Prop) : Prop :=
  wp_X6_within p1 0 eLn (fun (r_1 : Int32) => ((¬ r_1 = 0 → Q p1 p1) ∧ (r_1 = 0 → Q (-1000000001) eLn)))
set_option maxHeartbeats 4000000 in
set_option maxRecDepth 100000 in
theorem c_X6_trim (l : Launch) (E : gE) (co ro jo qo yo eo cs cl cw eb ec : Nat) (sz : Nat) (cWs : Int32) (cKp : Int32) (eLn : Int32) (eFt : Int32) (eCc : Int32) (eKy : Int32) (eLv : Int32) (eOb : Int32) (eOn : Int32) (eSt : Int32) (eEd : Int32) (eSo : Int32) (eBy : Nat → Int32) (eCo : Nat → Int32) (p1 : Int32)  (Q : Int32 → Int32 → Prop) (h : wp_X6_trim p1 eLn Q) : Met l yX6_trim wsX6_trim ({ frames := 1, cells := 0, slots := 0, locals := 22 } : Room) (va_Pc [.ref co, .int p1] (rc_B E (rw_18 E co ro jo qo yo eo cs cl cw eb ec cWs cKp eLn eFt eCc eKy eLv eOb eOn eSt eEd eSo eBy eCo) sz)) (va_Qi (S := Int32) (fun (r : Int32) (u : Int32) => Q r u) (fun u t => rc_C E (va_A (rw_18 E co ro jo qo yo eo cs cl cw eb ec cWs cKp eLn eFt eCc eKy eLv eOb eOn eSt eEd eSo eBy eCo) sz) (rw_18 E co ro jo qo yo eo cs cl cw eb ec cWs cKp u eFt eCc eKy eLv eOb eOn eSt eEd eSo eBy eCo) t) (va_A (rw_18 E co ro jo qo yo eo cs cl cw eb ec cWs cKp eLn eFt eCc eKy eLv eOb eOn eSt eEd eSo eBy eCo) sz)) 0 0 (va_A (rw_18 E co ro jo qo yo eo cs cl cw eb ec cWs cKp eLn eFt eCc eKy eLv eOb eOn eSt eEd eSo eBy eCo) sz) := by
  refine rc_enterI (cc := cX6_trim) (maxL := 2) (by decide) rfl (Nat.le_of_ble_eq_true rfl) ?_
  intro p e s m args below meth c QQ A hx hb hml hown hts hmn hE hP hD hA hret ls hl
  have hown : s.vm.findClass RX6 = some m.cls := hown
  have hK := hE.1
  have hS : va_S A s.heap s.heap [] := va_S.rf
  have hl : lv_has ls 2 [(0, .ref co), (1, .int p1)] := hl
  have n_X0 : ∀ w ∈ wsX00, w ∈ wsX6_trim := fun _ h => List.mem_cons_of_mem _ (List.mem_append_right _ h)
  have n_X6 : ∀ w ∈ wsX60, w ∈ wsX6_trim := fun _ h => List.mem_cons_of_mem _ (List.mem_append_left _ (List.mem_append_right _ h))
  have k_32 := hts (.fieldLink RX6 32 "RidgeClaps" "reader" "LRidgeClaps$Reader;") (List.mem_of_getElem? (i := 1) rfl)
  have k_202 := hts (.fieldLink RX6 202 "RidgeClaps$Reader" "length" "I") (List.mem_of_getElem? (i := 2) rfl)
  have k_70 := hts (.constant RX6 70 (-1000000001)) (List.mem_of_getElem? (i := 3) rfl)
  unfold wp_X6_trim at h
  obtain ⟨H, hH⟩ : ∃ H, H = s.heap := ⟨_, rfl⟩
  obtain ⟨locs, hlocs⟩ : ∃ locs : List Loc, locs = [] := ⟨_, rfl⟩
  have hP : va_P E.1 vwCl (rw_18 E co ro jo qo yo eo cs cl cw eb ec cWs cKp eLn eFt eCc eKy eLv eOb eOn eSt eEd eSo eBy eCo) H := by rw [hH]; exact hP
  have hS : va_S A s.heap H locs := by rw [hH, hlocs]; exact hS
  suffices hgo : W p l e ({ frames := 1, cells := 0, slots := 0, locals := 22 } : Room) s m args below meth c H locs 0 0 QQ (F0 m 0 ls []) from by rw [hH, hlocs] at hgo; exact hgo
  refine lv_iload_n hx hb dX6_trim_0 rfl (lv_at hl 1 rfl) ?_
  refine lv_iconst (v := 0) hx hb dX6_trim_1 (by decide) ?_
  refine lv_aload_n hx hb dX6_trim_2 rfl (lv_at hl 0 rfl) ?_
  refine va_get (D := E.1) (ci := 6) (v := .ref eo) (C := RX6) (T := TX6) (N := 10) hx hb hts n_X6 hown hK hP 0 rfl rfl 4 (by decide) k_32 (fun _ h9 => h9) rfl dX6_trim_3 ?_
  refine va_get (D := E.1) (ci := 0) (v := .int eLn) (C := RX0) (T := TX0) (N := 12) hx hb hts n_X0 hown hK hP 1 rfl rfl 1 (by decide) k_202 (fun _ h9 => h9) rfl dX6_trim_6 ?_
  have hPc := hP.sub (ws' := []) [] rfl
  have hDc := hD.sub (ws' := []) [] (by decide) rfl
  have hFc := va_free (wc := []) hD hS hA [] rfl
  refine va_calli (va_runS (As := [.int p1, .int 0, .int eLn]) (rest := []) ⟨hx, hb, hml, hown, hts⟩ (c_X6_within l E H.size p1 0 eLn _ h) (va_cwS 3 hts gX6_trim_X6_within rfl rfl rfl (by decide +kernel) ⟨Nat.le_of_ble_eq_true rfl, Nat.le_of_ble_eq_true rfl⟩) ⟨fun a U g mk q => ⟨q.1, q.2.blind⟩, fun U hU hW => ⟨rfl, by rw [hU], by rw [hU]; exact hPc, hE.call hS hFc hW hU, hDc.weaken (fun _ _ _ _ => trivial)⟩⟩ rfl rfl hl.1 rfl (lv_room (Nat.le_of_ble_eq_true rfl)) dX6_trim_9 ⟨Nat.zero_le _, Nat.zero_le _⟩) hS (fun q _ h => hFc q h) hFc (fun r_1 u t H1 locs ht hvm h hB hz1 hk1 hS => ?_)
  obtain ⟨hP1, hD1⟩ := hB
  rw [ht] at hP1
  obtain ⟨hP, hD⟩ := rc_foc hP hD [] [none, none, none, none] (by decide) rfl hk1 hP1 rfl
  generalize H1 = H at hP hS ⊢
  have hP : va_P E.1 vwCl (rw_18 E co ro jo qo yo eo cs cl cw eb ec cWs cKp eLn eFt eCc eKy eLv eOb eOn eSt eEd eSo eBy eCo) H := hP
  have hD : va_D A (rw_18 E co ro jo qo yo eo cs cl cw eb ec cWs cKp eLn eFt eCc eKy eLv eOb eOn eSt eEd eSo eBy eCo) := hD
  refine lv_if_ne (tgt := 18) hx hb dX6_trim_12 (by decide) (fun c_2 => ?_) (fun c_2 => ?_)
  · have h := h.1 c_2
    refine lv_aload_n hx hb dX6_trim_18 rfl (lv_at hl 0 rfl) ?_
    refine va_get (D := E.1) (ci := 6) (v := .ref eo) (C := RX6) (T := TX6) (N := 10) hx hb hts n_X6 hown hK hP 0 rfl rfl 4 (by decide) k_32 (fun _ h9 => h9) rfl dX6_trim_19 ?_
    refine lv_iload_n hx hb dX6_trim_22 rfl (lv_at hl 1 rfl) ?_
    refine va_put (D := E.1) (ci := 0) (v := .int p1) (ty := .int) (C := RX0) (T := TX0) (N := 12) hx hb hts n_X0 tyX0 tyX0_ok nmX0 hown hK hP hD hS 1 rfl rfl 1 (by decide) k_202 (fun _ h9 => h9) rfl (by decide +kernel) rfl rfl (Nat.le_of_ble_eq_true rfl) dX6_trim_23 (fun H locs hP hD hS => ?_)
    have hP : va_P E.1 vwCl (rw_18 E co ro jo qo yo eo cs cl cw eb ec cWs cKp p1 eFt eCc eKy eLv eOb eOn eSt eEd eSo eBy eCo) H := hP
    have hD : va_D A (rw_18 E co ro jo qo yo eo cs cl cw eb ec cWs cKp p1 eFt eCc eKy eLv eOb eOn eSt eEd eSo eBy eCo) := hD
    refine lv_iload_n hx hb dX6_trim_26 rfl (lv_at hl 1 rfl) ?_
    exact hret _ _ _ _ p1 (p1) rfl h hP hD hS dX6_trim_27
  · have h := h.2 c_2
    refine lv_ldc hx hb hown k_70 dX6_trim_15 ?_
    exact hret _ _ _ _ (-1000000001) (eLn) rfl h hP hD hS dX6_trim_17
def wp_X6_tell (p1 : Int32) (cWs : Int32) (cWt : Nat → Int32) (Q : Int32 → Int32 → (Nat → Int32) → Prop) : Prop :=
  ((cWs < 60 → (vp_in cWs 60 ∧ Q (cWs + 1) (cWs + 1) (upd cWt cWs.toNatClampNeg p1))) ∧ (¬ (cWs < 60) → Q (-1000000003) cWs cWt))
set_option maxHeartbeats 4000000 in
set_option maxRecDepth 100000 in
theorem c_X6_tell (l : Launch) (E : gE) (co ro jo qo yo eo cs cl cw : Nat) (sz : Nat) (cWs : Int32) (cKp : Int32) (cWt : Nat → Int32) (p1 : Int32)  (Q : Int32 → Int32 → (Nat → Int32) → Prop) (h : wp_X6_tell p1 cWs cWt Q) : Met l yX6_tell wsX6_tell ({ frames := 0, cells := 0, slots := 0, locals := 0 } : Room) (va_Pc [.ref co, .int p1] (rc_B E (rw_19 E co ro jo qo yo eo cs cl cw cWs cKp cWt) sz)) (va_Qi (S := Int32 × (Nat → Int32)) (fun (r : Int32) (u : Int32 × (Nat → Int32)) => Q r u.1 u.2) (fun u t => rc_C E (va_A (rw_19 E co ro jo qo yo eo cs cl cw cWs cKp cWt) sz) (rw_19 E co ro jo qo yo eo cs cl cw u.1 cKp u.2) t) (va_A (rw_19 E co ro jo qo yo eo cs cl cw cWs cKp cWt) sz)) 0 0 (va_A (rw_19 E co ro jo qo yo eo cs cl cw cWs cKp cWt) sz) := by
  refine rc_enterI (cc := cX6_tell) (maxL := 2) (by decide) rfl (Nat.le_of_ble_eq_true rfl) ?_
  intro p e s m args below meth c QQ A hx hb hml hown hts hmn hE hP hD hA hret ls hl
  have hown : s.vm.findClass RX6 = some m.cls := hown
  have hK := hE.1
  have hS : va_S A s.heap s.heap [] := va_S.rf
  have hl : lv_has ls 2 [(0, .ref co), (1, .int p1)] := hl
  have n_X6 : ∀ w ∈ wsX60, w ∈ wsX6_tell := fun _ h => List.mem_cons_of_mem _ (List.mem_append_right _ h)
  have k_52 := hts (.fieldLink RX6 52 "RidgeClaps" "waits" "I") (List.mem_of_getElem? (i := 1) rfl)
  have k_48 := hts (.fieldLink RX6 48 "RidgeClaps" "waiting" "[I") (List.mem_of_getElem? (i := 3) rfl)
  have k_74 := hts (.constant RX6 74 (-1000000003)) (List.mem_of_getElem? (i := 2) rfl)
  unfold wp_X6_tell at h
  obtain ⟨H, hH⟩ : ∃ H, H = s.heap := ⟨_, rfl⟩
  obtain ⟨locs, hlocs⟩ : ∃ locs : List Loc, locs = [] := ⟨_, rfl⟩
  have hP : va_P E.1 vwCl (rw_19 E co ro jo qo yo eo cs cl cw cWs cKp cWt) H := by rw [hH]; exact hP
  have hS : va_S A s.heap H locs := by rw [hH, hlocs]; exact hS
  suffices hgo : W p l e ({ frames := 0, cells := 0, slots := 0, locals := 0 } : Room) s m args below meth c H locs 0 0 QQ (F0 m 0 ls []) from by rw [hH, hlocs] at hgo; exact hgo
  refine lv_aload_n hx hb dX6_tell_0 rfl (lv_at hl 0 rfl) ?_
  refine va_get (D := E.1) (ci := 6) (v := .int cWs) (C := RX6) (T := TX6) (N := 10) hx hb hts n_X6 hown hK hP 0 rfl rfl 8 (by decide) k_52 (fun _ h9 => h9) rfl dX6_tell_1 ?_
  refine lv_bipush (v := 60) hx hb dX6_tell_4 (by decide) ?_
  refine lv_icmp_lt (tgt := 12) hx hb dX6_tell_6 (by decide) (fun c_1 => ?_) (fun c_1 => ?_)
  · have h := h.1 c_1
    refine lv_aload_n hx hb dX6_tell_12 rfl (lv_at hl 0 rfl) ?_
    refine va_get (D := E.1) (ci := 6) (v := .ref cw) (C := RX6) (T := TX6) (N := 10) hx hb hts n_X6 hown hK hP 0 rfl rfl 7 (by decide) k_48 (fun _ h9 => h9) rfl dX6_tell_13 ?_
    refine lv_aload_n hx hb dX6_tell_16 rfl (lv_at hl 0 rfl) ?_
    refine va_get (D := E.1) (ci := 6) (v := .int cWs) (C := RX6) (T := TX6) (N := 10) hx hb hts n_X6 hown hK hP 0 rfl rfl 8 (by decide) k_52 (fun _ h9 => h9) rfl dX6_tell_17 ?_
    refine lv_iload_n hx hb dX6_tell_20 rfl (lv_at hl 1 rfl) ?_
    obtain ⟨o_2, h⟩ := h
    refine rc_iast hx hb hK hP hD hS 1 0 rfl rfl cWs.toNatClampNeg rfl o_2 dX6_tell_21 (fun H locs hP hD hS => ?_)
    have hP : va_P E.1 vwCl (rw_19 E co ro jo qo yo eo cs cl cw cWs cKp (upd cWt cWs.toNatClampNeg p1)) H := hP
    have hD : va_D A (rw_19 E co ro jo qo yo eo cs cl cw cWs cKp (upd cWt cWs.toNatClampNeg p1)) := hD
    refine lv_aload_n hx hb dX6_tell_22 rfl (lv_at hl 0 rfl) ?_
    refine lv_dup hx hb dX6_tell_23 rfl ?_
    refine va_get (D := E.1) (ci := 6) (v := .int cWs) (C := RX6) (T := TX6) (N := 10) hx hb hts n_X6 hown hK hP 0 rfl rfl 8 (by decide) k_52 (fun _ h9 => h9) rfl dX6_tell_24 ?_
    refine lv_iconst (v := 1) hx hb dX6_tell_27 (by decide) ?_
    refine lv_iadd hx hb dX6_tell_28 ?_
    refine va_put (D := E.1) (ci := 6) (v := .int (cWs + 1)) (ty := .int) (C := RX6) (T := TX6) (N := 10) hx hb hts n_X6 tyX6 tyX6_ok nmX6 hown hK hP hD hS 0 rfl rfl 8 (by decide) k_52 (fun _ h9 => h9) rfl (by decide +kernel) rfl rfl (Nat.le_of_ble_eq_true rfl) dX6_tell_29 (fun H locs hP hD hS => ?_)
    have hP : va_P E.1 vwCl (rw_19 E co ro jo qo yo eo cs cl cw (cWs + 1) cKp (upd cWt cWs.toNatClampNeg p1)) H := hP
    have hD : va_D A (rw_19 E co ro jo qo yo eo cs cl cw (cWs + 1) cKp (upd cWt cWs.toNatClampNeg p1)) := hD
    refine lv_aload_n hx hb dX6_tell_32 rfl (lv_at hl 0 rfl) ?_
    refine va_get (D := E.1) (ci := 6) (v := .int (cWs + 1)) (C := RX6) (T := TX6) (N := 10) hx hb hts n_X6 hown hK hP 0 rfl rfl 8 (by decide) k_52 (fun _ h9 => h9) rfl dX6_tell_33 ?_
    exact hret _ _ _ _ (cWs + 1) (cWs + 1, upd cWt cWs.toNatClampNeg p1) rfl h hP hD hS dX6_tell_36
  · have h := h.2 c_1
    refine lv_ldc hx hb hown k_74 dX6_tell_9 ?_
    exact hret _ _ _ _ (-1000000003) (cWs, cWt) rfl h hP hD hS dX6_tell_11
def wp_X6_isWaiting (p1 : Int32) (p2 : Int32) (p3 : Int32) (cWt : Nat → Int32) (Q : Int32 → Prop) : Prop :=
  ((p2 ≤ p1 → Q 0) ∧ (¬ (p2 ≤ p1) → ((60 ≤ p1 → Q 0) ∧ (¬ (60 ≤ p1) → (vp_in p1 60 ∧ ((¬ (cWt p1.toNatClampNeg) = p3 → Q 0) ∧ ((cWt p1.toNatClampNeg) = p3 → Q 1)))))))
set_option maxHeartbeats 4000000 in
set_option maxRecDepth 100000 in
theorem c_X6_isWaiting (l : Launch) (E : gE) (co ro jo qo yo eo cs cl cw : Nat) (sz : Nat) (cWs : Int32) (cKp : Int32) (cWt : Nat → Int32) (p1 p2 p3 : Int32)  (Q : Int32 → Prop) (h : wp_X6_isWaiting p1 p2 p3 cWt Q) : Met l yX6_isWaiting wsX6_isWaiting ({ frames := 0, cells := 0, slots := 0, locals := 0 } : Room) (va_Pc [.ref co, .int p1, .int p2, .int p3] (rc_B E (rw_19 E co ro jo qo yo eo cs cl cw cWs cKp cWt) sz)) (va_Qi (S := Unit) (fun (r : Int32) (u : Unit) => Q r) (fun u t => rc_C E (va_A (rw_19 E co ro jo qo yo eo cs cl cw cWs cKp cWt) sz) (rw_19 E co ro jo qo yo eo cs cl cw cWs cKp cWt) t) (va_A (rw_19 E co ro jo qo yo eo cs cl cw cWs cKp cWt) sz)) 0 0 (va_A (rw_19 E co ro jo qo yo eo cs cl cw cWs cKp cWt) sz) := by
  refine rc_enterI (cc := cX6_isWaiting) (maxL := 4) (by decide) rfl (Nat.le_of_ble_eq_true rfl) ?_
  intro p e s m args below meth c QQ A hx hb hml hown hts hmn hE hP hD hA hret ls hl
  have hown : s.vm.findClass RX6 = some m.cls := hown
  have hK := hE.1
  have hS : va_S A s.heap s.heap [] := va_S.rf
  have hl : lv_has ls 4 [(0, .ref co), (1, .int p1), (2, .int p2), (3, .int p3)] := hl
  have n_X6 : ∀ w ∈ wsX60, w ∈ wsX6_isWaiting := fun _ h => List.mem_cons_of_mem _ (List.mem_append_right _ h)
  have k_48 := hts (.fieldLink RX6 48 "RidgeClaps" "waiting" "[I") (List.mem_of_getElem? (i := 1) rfl)
  unfold wp_X6_isWaiting at h
  obtain ⟨H, hH⟩ : ∃ H, H = s.heap := ⟨_, rfl⟩
  obtain ⟨locs, hlocs⟩ : ∃ locs : List Loc, locs = [] := ⟨_, rfl⟩
  have hP : va_P E.1 vwCl (rw_19 E co ro jo qo yo eo cs cl cw cWs cKp cWt) H := by rw [hH]; exact hP
  have hS : va_S A s.heap H locs := by rw [hH, hlocs]; exact hS
  suffices hgo : W p l e ({ frames := 0, cells := 0, slots := 0, locals := 0 } : Room) s m args below meth c H locs 0 0 QQ (F0 m 0 ls []) from by rw [hH, hlocs] at hgo; exact hgo
  refine lv_iload_n hx hb dX6_isWaiting_0 rfl (lv_at hl 1 rfl) ?_
  refine lv_iload_n hx hb dX6_isWaiting_1 rfl (lv_at hl 2 rfl) ?_
  refine lv_icmp_ge (tgt := 25) hx hb dX6_isWaiting_2 (by decide) (fun c_1 => ?_) (fun c_1 => ?_)
  · have h := h.1 c_1
    refine lv_iconst (v := 0) hx hb dX6_isWaiting_25 (by decide) ?_
    exact hret _ _ _ _ 0 () (by decide) h hP hD hS dX6_isWaiting_26
  · have h := h.2 c_1
    refine lv_iload_n hx hb dX6_isWaiting_5 rfl (lv_at hl 1 rfl) ?_
    refine lv_bipush (v := 60) hx hb dX6_isWaiting_6 (by decide) ?_
    refine lv_icmp_ge (tgt := 25) hx hb dX6_isWaiting_8 (by decide) (fun c_2 => ?_) (fun c_2 => ?_)
    · have h := h.1 c_2
      refine lv_iconst (v := 0) hx hb dX6_isWaiting_25 (by decide) ?_
      exact hret _ _ _ _ 0 () (by decide) h hP hD hS dX6_isWaiting_26
    · have h := h.2 c_2
      refine lv_aload_n hx hb dX6_isWaiting_11 rfl (lv_at hl 0 rfl) ?_
      refine va_get (D := E.1) (ci := 6) (v := .ref cw) (C := RX6) (T := TX6) (N := 10) hx hb hts n_X6 hown hK hP 0 rfl rfl 7 (by decide) k_48 (fun _ h9 => h9) rfl dX6_isWaiting_12 ?_
      refine lv_iload_n hx hb dX6_isWaiting_15 rfl (lv_at hl 1 rfl) ?_
      obtain ⟨o_3, h⟩ := h
      refine rc_iald hx hb hK hP 1 0 rfl rfl p1.toNatClampNeg rfl o_3 dX6_isWaiting_16 ?_
      refine lv_iload_n hx hb dX6_isWaiting_17 rfl (lv_at hl 3 rfl) ?_
      refine lv_icmp_ne (tgt := 25) hx hb dX6_isWaiting_18 (by decide) (fun c_4 => ?_) (fun c_4 => ?_)
      · have h := h.1 c_4
        refine lv_iconst (v := 0) hx hb dX6_isWaiting_25 (by decide) ?_
        exact hret _ _ _ _ 0 () (by decide) h hP hD hS dX6_isWaiting_26
      · have h := h.2 c_4
        refine lv_iconst (v := 1) hx hb dX6_isWaiting_21 (by decide) ?_
        refine lv_goto (tgt := 26) hx hb dX6_isWaiting_22 (by decide) ?_
        exact hret _ _ _ _ 1 () (by decide) h hP hD hS dX6_isWaiting_26
def jp_X6_check_139   (Q : Int32 → Int32 → (Nat → Int32) → (Nat → Int32) → (Nat → Int32) → Int32 → Int32 → Int32 → Int32 → Int32 → Int32 → Int32 → Int32 → Int32 → (Nat → Int32) → (Nat → Int32) → (Nat → Int32) → (Nat → Option Nat) → (Nat → Int32) → (Nat → Int32) → Prop) (x2 : Int32) (x3 : Int32) (cWs : Int32) (yRi : Nat → Int32) (yLe : Nat → Int32) (yLa : Nat → Int32) (qSz : Int32) (qTc : Int32) (qFa : Int32) (qPa : Int32) (qPy : Int32) (qMi : Int32) (qMe : Int32) (qSr : Int32) (qZ : Int32) (qKi : Nat → Int32) (qHe : Nat → Int32) (qDo : Nat → Int32) (qTx : Nat → Option Nat) (qLa : Nat → Int32) (qSk : Nat → Int32) : Prop :=
  ((¬ x3 = x2 → Q (1 + x3) cWs yRi yLe yLa qSz qTc qFa qPa qPy qMi qMe qSr qZ qKi qHe qDo qTx qLa qSk) ∧ (x3 = x2 → Q 0 cWs yRi yLe yLa qSz qTc qFa qPa qPy qMi qMe qSr qZ qKi qHe qDo qTx qLa qSk))
def lp_X6_check_60F (p1 : Int32) (cWt : Nat → Int32) (LT : List Nat) (pn : Nat → Nat) (tc : Nat → Nat → Int32)  (Q : Int32 → Int32 → (Nat → Int32) → (Nat → Int32) → (Nat → Int32) → Int32 → Int32 → Int32 → Int32 → Int32 → Int32 → Int32 → Int32 → Int32 → (Nat → Int32) → (Nat → Int32) → (Nat → Int32) → (Nat → Option Nat) → (Nat → Int32) → (Nat → Int32) → Prop) (R : Int32 → Int32 → Int32 → Int32 → (Nat → Int32) → (Nat → Int32) → (Nat → Int32) → Int32 → Int32 → Int32 → Int32 → Int32 → Int32 → Int32 → Int32 → Int32 → (Nat → Int32) → (Nat → Int32) → (Nat → Int32) → (Nat → Option Nat) → (Nat → Int32) → (Nat → Int32) → Prop) (x2 : Int32) (x3 : Int32) (x4 : Int32) (cWs : Int32) (yRi : Nat → Int32) (yLe : Nat → Int32) (yLa : Nat → Int32) (qSz : Int32) (qTc : Int32) (qFa : Int32) (qPa : Int32) (qPy : Int32) (qMi : Int32) (qMe : Int32) (qSr : Int32) (qZ : Int32) (qKi : Nat → Int32) (qHe : Nat → Int32) (qDo : Nat → Int32) (qTx : Nat → Option Nat) (qLa : Nat → Int32) (qSk : Nat → Int32) : Prop :=
  ((p1 ≤ x4 → jp_X6_check_139 Q x2 x3 cWs yRi yLe yLa qSz qTc qFa qPa qPy qMi qMe qSr qZ qKi qHe qDo qTx qLa qSk) ∧ (¬ (p1 ≤ x4) → ((9999 ≤ qMi → jp_X6_check_139 Q x2 x3 cWs yRi yLe yLa qSz qTc qFa qPa qPy qMi qMe qSr qZ qKi qHe qDo qTx qLa qSk) ∧ (¬ (9999 ≤ qMi) → wp_X6_passBestMinute yRi yLe yLa qSz qFa qPa qPy qMi qMe qSr qZ qKi qHe qDo qTx qLa qSk LT pn tc (fun (w_4 : Nat → Int32) (w_5 : Nat → Int32) (w_6 : Int32) (w_7 : Int32) (w_8 : Int32) (w_9 : Int32) (w_10 : Int32) (w_11 : Int32) (w_12 : Nat → Int32) => wp_X6_isWaiting x3 x2 w_9 cWt (fun (r_13 : Int32) => ((¬ r_13 = 0 → wp_X6_isWaiting (x3 + 1) x2 w_10 cWt (fun (r_15 : Int32) => ((¬ r_15 = 0 → R x2 (x3 + 1 + 1) (x4 + 1) cWs yRi w_4 w_5 qSz qTc w_6 qPa w_7 w_8 w_9 w_10 w_11 qKi qHe qDo qTx qLa w_12) ∧ (r_15 = 0 → Q (1 + (x3 + 1)) cWs yRi w_4 w_5 qSz qTc w_6 qPa w_7 w_8 w_9 w_10 w_11 qKi qHe qDo qTx qLa w_12)))) ∧ (r_13 = 0 → Q (1 + x3) cWs yRi w_4 w_5 qSz qTc w_6 qPa w_7 w_8 w_9 w_10 w_11 qKi qHe qDo qTx qLa w_12))))))))
def lp_X6_check_60 (p1 : Int32) (cWt : Nat → Int32) (LT : List Nat) (pn : Nat → Nat) (tc : Nat → Nat → Int32)  (Q : Int32 → Int32 → (Nat → Int32) → (Nat → Int32) → (Nat → Int32) → Int32 → Int32 → Int32 → Int32 → Int32 → Int32 → Int32 → Int32 → Int32 → (Nat → Int32) → (Nat → Int32) → (Nat → Int32) → (Nat → Option Nat) → (Nat → Int32) → (Nat → Int32) → Prop) (n : Nat) : Int32 → Int32 → Int32 → Int32 → (Nat → Int32) → (Nat → Int32) → (Nat → Int32) → Int32 → Int32 → Int32 → Int32 → Int32 → Int32 → Int32 → Int32 → Int32 → (Nat → Int32) → (Nat → Int32) → (Nat → Int32) → (Nat → Option Nat) → (Nat → Int32) → (Nat → Int32) → Prop :=
  Nat.rec (motive := fun _ => Int32 → Int32 → Int32 → Int32 → (Nat → Int32) → (Nat → Int32) → (Nat → Int32) → Int32 → Int32 → Int32 → Int32 → Int32 → Int32 → Int32 → Int32 → Int32 → (Nat → Int32) → (Nat → Int32) → (Nat → Int32) → (Nat → Option Nat) → (Nat → Int32) → (Nat → Int32) → Prop) (fun _ _ _ _ _ _ _ _ _ _ _ _ _ _ _ _ _ _ _ _ _ _ => False) (fun _ r => lp_X6_check_60F p1 cWt LT pn tc Q r) n
def wp_X6_check (p1 : Int32) (cWs : Int32) (cKp : Int32) (yRi : Nat → Int32) (yLe : Nat → Int32) (yLa : Nat → Int32) (jSz : Int32) (jTc : Int32) (jFa : Int32) (jPa : Int32) (jPy : Int32) (jMi : Int32) (jMe : Int32) (jSr : Int32) (jZ : Int32) (jKi : Nat → Int32) (jHe : Nat → Int32) (jDo : Nat → Int32) (jTx : Nat → Option Nat) (jLa : Nat → Int32) (qSz : Int32) (qTc : Int32) (qFa : Int32) (qPa : Int32) (qPy : Int32) (qMi : Int32) (qMe : Int32) (qSr : Int32) (qZ : Int32) (qKi : Nat → Int32) (qHe : Nat → Int32) (qDo : Nat → Int32) (qTx : Nat → Option Nat) (qLa : Nat → Int32) (qSk : Nat → Int32) (cWt : Nat → Int32) (LT : List Nat) (pn : Nat → Nat) (tc : Nat → Nat → Int32) (Q : Int32 → Int32 → (Nat → Int32) → (Nat → Int32) → (Nat → Int32) → Int32 → Int32 → Int32 → Int32 → Int32 → Int32 → Int32 → Int32 → Int32 → (Nat → Int32) → (Nat → Int32) → (Nat → Int32) → (Nat → Option Nat) → (Nat → Int32) → (Nat → Int32) → Prop) : Prop :=
  wp_X6_within p1 1 30 (fun (r_17 : Int32) => ((¬ r_17 = 0 → ((¬ cKp = 0 → wp_X1_become qSz qTc qFa qPa qPy qMi qMe qSr qZ qKi qHe qDo qTx qLa jSz jTc jFa jPa jPy jMi jMe jSr jZ jKi jHe jDo jTx jLa LT (fun (w_20 : Int32) (w_21 : Int32) (w_22 : Int32) (w_23 : Int32) (w_24 : Int32) (w_25 : Int32) (w_26 : Int32) (w_27 : Int32) (w_28 : Int32) (w_29 : Nat → Int32) (w_30 : Nat → Int32) (w_31 : Nat → Int32) (w_32 : Nat → Option Nat) (w_33 : Nat → Int32) => wp_X5_weigh yRi w_20 w_29 w_30 w_32 w_33 qSk LT pn tc (fun (w_34 : Nat → Int32) (w_35 : Nat → Int32) => (∃ n : Nat, lp_X6_check_60 p1 cWt LT pn tc Q n cWs 0 0 0 w_34 yLe yLa w_20 w_21 w_22 w_23 w_24 w_25 w_26 w_27 w_28 w_29 w_30 w_31 w_32 w_33 w_35)))) ∧ (cKp = 0 → Q (-1000000002) 0 yRi yLe yLa qSz qTc qFa qPa qPy qMi qMe qSr qZ qKi qHe qDo qTx qLa qSk))) ∧ (r_17 = 0 → Q (-1000000001) 0 yRi yLe yLa qSz qTc qFa qPa qPy qMi qMe qSr qZ qKi qHe qDo qTx qLa qSk)))
set_option maxHeartbeats 4000000 in
set_option maxRecDepth 100000 in
theorem c_X6_check (l : Launch) (E : gE) (co ro jo qo yo eo cs cl cw yr yl yt jk jh jd jt jl js qk qh qd qt ql qs : Nat) (sz : Nat) (cWs : Int32) (cKp : Int32) (yRi : Nat → Int32) (yLe : Nat → Int32) (yLa : Nat → Int32) (jSz : Int32) (jTc : Int32) (jFa : Int32) (jPa : Int32) (jPy : Int32) (jMi : Int32) (jMe : Int32) (jSr : Int32) (jZ : Int32) (jKi : Nat → Int32) (jHe : Nat → Int32) (jDo : Nat → Int32) (jTx : Nat → Option Nat) (jLa : Nat → Int32) (jSk : Nat → Int32) (qSz : Int32) (qTc : Int32) (qFa : Int32) (qPa : Int32) (qPy : Int32) (qMi : Int32) (qMe : Int32) (qSr : Int32) (qZ : Int32) (qKi : Nat → Int32) (qHe : Nat → Int32) (qDo : Nat → Int32) (qTx : Nat → Option Nat) (qLa : Nat → Int32) (qSk : Nat → Int32) (cWt : Nat → Int32) (p1 : Int32) (LT : List Nat) (pk : Nat → Int32) (pv : Nat → Int32) (pa : Nat → Nat) (pn : Nat → Nat) (tc : Nat → Nat → Int32) (Q : Int32 → Int32 → (Nat → Int32) → (Nat → Int32) → (Nat → Int32) → Int32 → Int32 → Int32 → Int32 → Int32 → Int32 → Int32 → Int32 → Int32 → (Nat → Int32) → (Nat → Int32) → (Nat → Int32) → (Nat → Option Nat) → (Nat → Int32) → (Nat → Int32) → Prop) (h : wp_X6_check p1 cWs cKp yRi yLe yLa jSz jTc jFa jPa jPy jMi jMe jSr jZ jKi jHe jDo jTx jLa qSz qTc qFa qPa qPy qMi qMe qSr qZ qKi qHe qDo qTx qLa qSk cWt LT pn tc Q) : Met l yX6_check wsX6_check ({ frames := 6, cells := 0, slots := 0, locals := 152 } : Room) (va_Pc [.ref co, .int p1] (rc_B E (rw_20 E co ro jo qo yo eo cs cl cw yr yl yt jk jh jd jt jl js qk qh qd qt ql qs cWs cKp yRi yLe yLa jSz jTc jFa jPa jPy jMi jMe jSr jZ jKi jHe jDo jTx jLa jSk qSz qTc qFa qPa qPy qMi qMe qSr qZ qKi qHe qDo qTx qLa qSk cWt ++ rc_tp E LT pk pv pa pn tc) sz)) (va_Qi (S := Int32 × (Nat → Int32) × (Nat → Int32) × (Nat → Int32) × Int32 × Int32 × Int32 × Int32 × Int32 × Int32 × Int32 × Int32 × Int32 × (Nat → Int32) × (Nat → Int32) × (Nat → Int32) × (Nat → Option Nat) × (Nat → Int32) × (Nat → Int32)) (fun (r : Int32) (u : Int32 × (Nat → Int32) × (Nat → Int32) × (Nat → Int32) × Int32 × Int32 × Int32 × Int32 × Int32 × Int32 × Int32 × Int32 × Int32 × (Nat → Int32) × (Nat → Int32) × (Nat → Int32) × (Nat → Option Nat) × (Nat → Int32) × (Nat → Int32)) => Q r u.1 u.2.1 u.2.2.1 u.2.2.2.1 u.2.2.2.2.1 u.2.2.2.2.2.1 u.2.2.2.2.2.2.1 u.2.2.2.2.2.2.2.1 u.2.2.2.2.2.2.2.2.1 u.2.2.2.2.2.2.2.2.2.1 u.2.2.2.2.2.2.2.2.2.2.1 u.2.2.2.2.2.2.2.2.2.2.2.1 u.2.2.2.2.2.2.2.2.2.2.2.2.1 u.2.2.2.2.2.2.2.2.2.2.2.2.2.1 u.2.2.2.2.2.2.2.2.2.2.2.2.2.2.1 u.2.2.2.2.2.2.2.2.2.2.2.2.2.2.2.1 u.2.2.2.2.2.2.2.2.2.2.2.2.2.2.2.2.1 u.2.2.2.2.2.2.2.2.2.2.2.2.2.2.2.2.2.1 u.2.2.2.2.2.2.2.2.2.2.2.2.2.2.2.2.2.2) (fun u t => rc_C E (va_A (rw_20 E co ro jo qo yo eo cs cl cw yr yl yt jk jh jd jt jl js qk qh qd qt ql qs cWs cKp yRi yLe yLa jSz jTc jFa jPa jPy jMi jMe jSr jZ jKi jHe jDo jTx jLa jSk qSz qTc qFa qPa qPy qMi qMe qSr qZ qKi qHe qDo qTx qLa qSk cWt ++ rc_tp E LT pk pv pa pn tc) sz) (rw_20 E co ro jo qo yo eo cs cl cw yr yl yt jk jh jd jt jl js qk qh qd qt ql qs u.1 cKp u.2.1 u.2.2.1 u.2.2.2.1 jSz jTc jFa jPa jPy jMi jMe jSr jZ jKi jHe jDo jTx jLa jSk u.2.2.2.2.1 u.2.2.2.2.2.1 u.2.2.2.2.2.2.1 u.2.2.2.2.2.2.2.1 u.2.2.2.2.2.2.2.2.1 u.2.2.2.2.2.2.2.2.2.1 u.2.2.2.2.2.2.2.2.2.2.1 u.2.2.2.2.2.2.2.2.2.2.2.1 u.2.2.2.2.2.2.2.2.2.2.2.2.1 u.2.2.2.2.2.2.2.2.2.2.2.2.2.1 u.2.2.2.2.2.2.2.2.2.2.2.2.2.2.1 u.2.2.2.2.2.2.2.2.2.2.2.2.2.2.2.1 u.2.2.2.2.2.2.2.2.2.2.2.2.2.2.2.2.1 u.2.2.2.2.2.2.2.2.2.2.2.2.2.2.2.2.2.1 u.2.2.2.2.2.2.2.2.2.2.2.2.2.2.2.2.2.2 cWt ++ rc_tp E LT pk pv pa pn tc) t) (va_A (rw_20 E co ro jo qo yo eo cs cl cw yr yl yt jk jh jd jt jl js qk qh qd qt ql qs cWs cKp yRi yLe yLa jSz jTc jFa jPa jPy jMi jMe jSr jZ jKi jHe jDo jTx jLa jSk qSz qTc qFa qPa qPy qMi qMe qSr qZ qKi qHe qDo qTx qLa qSk cWt ++ rc_tp E LT pk pv pa pn tc) sz)) 0 0 (va_A (rw_20 E co ro jo qo yo eo cs cl cw yr yl yt jk jh jd jt jl js qk qh qd qt ql qs cWs cKp yRi yLe yLa jSz jTc jFa jPa jPy jMi jMe jSr jZ jKi jHe jDo jTx jLa jSk qSz qTc qFa qPa qPy qMi qMe qSr qZ qKi qHe qDo qTx qLa qSk cWt ++ rc_tp E LT pk pv pa pn tc) sz) := by
  refine rc_enterI (cc := cX6_check) (maxL := 5) (by decide) rfl (Nat.le_of_ble_eq_true rfl) ?_
  intro p e s m args below meth c QQ A hx hb hml hown hts hmn hE hP hD hA hret ls hl
  have hown : s.vm.findClass RX6 = some m.cls := hown
  have hK := hE.1
  have hS : va_S A s.heap s.heap [] := va_S.rf
  have hl : lv_has ls 5 [(0, .ref co), (1, .int p1)] := hl
  have n_X1 : ∀ w ∈ wsX10, w ∈ wsX6_check := fun _ h => List.mem_cons_of_mem _ (List.mem_append_left _ (List.mem_append_left _ (List.mem_append_right _ h)))
  have n_X6 : ∀ w ∈ wsX60, w ∈ wsX6_check := fun _ h => List.mem_cons_of_mem _ (List.mem_append_left _ (List.mem_append_left _ (List.mem_append_left _ (List.mem_append_right _ h))))
  have k_19 := hts (.fieldLink RX6 19 "RidgeClaps" "trial" "LRidgeClaps$Ridge;") (List.mem_of_getElem? (i := 5) rfl)
  have k_138 := hts (.fieldLink RX6 138 "RidgeClaps$Ridge" "minute" "I") (List.mem_of_getElem? (i := 8) rfl)
  have k_303 := hts (.fieldLink RX6 303 "RidgeClaps$Ridge" "met" "I") (List.mem_of_getElem? (i := 9) rfl)
  have k_309 := hts (.fieldLink RX6 309 "RidgeClaps$Ridge" "struck" "I") (List.mem_of_getElem? (i := 10) rfl)
  have k_52 := hts (.fieldLink RX6 52 "RidgeClaps" "waits" "I") (List.mem_of_getElem? (i := 1) rfl)
  have k_56 := hts (.fieldLink RX6 56 "RidgeClaps" "kept" "Z") (List.mem_of_getElem? (i := 3) rfl)
  have k_16 := hts (.fieldLink RX6 16 "RidgeClaps" "image" "LRidgeClaps$Ridge;") (List.mem_of_getElem? (i := 6) rfl)
  have k_25 := hts (.fieldLink RX6 25 "RidgeClaps" "ways" "LRidgeClaps$Ways;") (List.mem_of_getElem? (i := 7) rfl)
  have k_137 := hts (.constant RX6 137 (-1000000002)) (List.mem_of_getElem? (i := 4) rfl)
  have k_70 := hts (.constant RX6 70 (-1000000001)) (List.mem_of_getElem? (i := 2) rfl)
  have J139 : ∀ (x2 : Int32) (x3 : Int32) (cWs : Int32) (yRi : Nat → Int32) (yLe : Nat → Int32) (yLa : Nat → Int32) (qSz : Int32) (qTc : Int32) (qFa : Int32) (qPa : Int32) (qPy : Int32) (qMi : Int32) (qMe : Int32) (qSr : Int32) (qZ : Int32) (qKi : Nat → Int32) (qHe : Nat → Int32) (qDo : Nat → Int32) (qTx : Nat → Option Nat) (qLa : Nat → Int32) (qSk : Nat → Int32), jp_X6_check_139 Q x2 x3 cWs yRi yLe yLa qSz qTc qFa qPa qPy qMi qMe qSr qZ qKi qHe qDo qTx qLa qSk → ∀ (H : Heap) (locs : List Loc), va_P E.1 vwCl (rw_20 E co ro jo qo yo eo cs cl cw yr yl yt jk jh jd jt jl js qk qh qd qt ql qs cWs cKp yRi yLe yLa jSz jTc jFa jPa jPy jMi jMe jSr jZ jKi jHe jDo jTx jLa jSk qSz qTc qFa qPa qPy qMi qMe qSr qZ qKi qHe qDo qTx qLa qSk cWt ++ rc_tp E LT pk pv pa pn tc) H → va_D A (rw_20 E co ro jo qo yo eo cs cl cw yr yl yt jk jh jd jt jl js qk qh qd qt ql qs cWs cKp yRi yLe yLa jSz jTc jFa jPa jPy jMi jMe jSr jZ jKi jHe jDo jTx jLa jSk qSz qTc qFa qPa qPy qMi qMe qSr qZ qKi qHe qDo qTx qLa qSk cWt ++ rc_tp E LT pk pv pa pn tc) → va_S A s.heap H locs → ∀ ls : Array Slot, lv_has ls 5 [(2, .int x2), (3, .int x3)] → W p l e ({ frames := 6, cells := 0, slots := 0, locals := 152 } : Room) s m args below meth c H locs 0 0 QQ (F0 m 139 ls []) := by
    intro x2 x3 cWs yRi yLe yLa qSz qTc qFa qPa qPy qMi qMe qSr qZ qKi qHe qDo qTx qLa qSk h H locs hP hD hS ls hl
    unfold jp_X6_check_139 at h
    refine lv_iload_n hx hb dX6_check_139 rfl (lv_at hl 1 rfl) ?_
    refine lv_iload_n hx hb dX6_check_140 rfl (lv_at hl 0 rfl) ?_
    refine lv_icmp_ne (tgt := 148) hx hb dX6_check_141 (by decide) (fun c_1 => ?_) (fun c_1 => ?_)
    · have h := h.1 c_1
      refine lv_iconst (v := 1) hx hb dX6_check_148 (by decide) ?_
      refine lv_iload_n hx hb dX6_check_149 rfl (lv_at hl 1 rfl) ?_
      refine lv_iadd hx hb dX6_check_150 ?_
      exact hret _ _ _ _ (1 + x3) (cWs, yRi, yLe, yLa, qSz, qTc, qFa, qPa, qPy, qMi, qMe, qSr, qZ, qKi, qHe, qDo, qTx, qLa, qSk) rfl h hP hD hS dX6_check_151
    · have h := h.2 c_1
      refine lv_iconst (v := 0) hx hb dX6_check_144 (by decide) ?_
      refine lv_goto (tgt := 151) hx hb dX6_check_145 (by decide) ?_
      exact hret _ _ _ _ 0 (cWs, yRi, yLe, yLa, qSz, qTc, qFa, qPa, qPy, qMi, qMe, qSr, qZ, qKi, qHe, qDo, qTx, qLa, qSk) rfl h hP hD hS dX6_check_151
  have J60 : ∀ (n : Nat) (x2 : Int32) (x3 : Int32) (x4 : Int32) (cWs : Int32) (yRi : Nat → Int32) (yLe : Nat → Int32) (yLa : Nat → Int32) (qSz : Int32) (qTc : Int32) (qFa : Int32) (qPa : Int32) (qPy : Int32) (qMi : Int32) (qMe : Int32) (qSr : Int32) (qZ : Int32) (qKi : Nat → Int32) (qHe : Nat → Int32) (qDo : Nat → Int32) (qTx : Nat → Option Nat) (qLa : Nat → Int32) (qSk : Nat → Int32), lp_X6_check_60 p1 cWt LT pn tc Q n x2 x3 x4 cWs yRi yLe yLa qSz qTc qFa qPa qPy qMi qMe qSr qZ qKi qHe qDo qTx qLa qSk → ∀ (H : Heap) (locs : List Loc), va_P E.1 vwCl (rw_20 E co ro jo qo yo eo cs cl cw yr yl yt jk jh jd jt jl js qk qh qd qt ql qs cWs cKp yRi yLe yLa jSz jTc jFa jPa jPy jMi jMe jSr jZ jKi jHe jDo jTx jLa jSk qSz qTc qFa qPa qPy qMi qMe qSr qZ qKi qHe qDo qTx qLa qSk cWt ++ rc_tp E LT pk pv pa pn tc) H → va_D A (rw_20 E co ro jo qo yo eo cs cl cw yr yl yt jk jh jd jt jl js qk qh qd qt ql qs cWs cKp yRi yLe yLa jSz jTc jFa jPa jPy jMi jMe jSr jZ jKi jHe jDo jTx jLa jSk qSz qTc qFa qPa qPy qMi qMe qSr qZ qKi qHe qDo qTx qLa qSk cWt ++ rc_tp E LT pk pv pa pn tc) → va_S A s.heap H locs → ∀ ls : Array Slot, lv_has ls 5 [(0, .ref co), (1, .int p1), (2, .int x2), (3, .int x3), (4, .int x4)] → W p l e ({ frames := 6, cells := 0, slots := 0, locals := 152 } : Room) s m args below meth c H locs 0 0 QQ (F0 m 60 ls []) := by
    intro n
    induction n with
    | zero =>
      intro x2 x3 x4 cWs yRi yLe yLa qSz qTc qFa qPa qPy qMi qMe qSr qZ qKi qHe qDo qTx qLa qSk h
      exact False.elim h
    | succ n ih =>
      intro x2 x3 x4 cWs yRi yLe yLa qSz qTc qFa qPa qPy qMi qMe qSr qZ qKi qHe qDo qTx qLa qSk h H locs hP hD hS ls hl
      have h : lp_X6_check_60F p1 cWt LT pn tc Q (lp_X6_check_60 p1 cWt LT pn tc Q n) x2 x3 x4 cWs yRi yLe yLa qSz qTc qFa qPa qPy qMi qMe qSr qZ qKi qHe qDo qTx qLa qSk := h
      unfold lp_X6_check_60F at h
      refine lv_iload hx hb dX6_check_60 (lv_at hl 4 rfl) ?_
      refine lv_iload_n hx hb dX6_check_62 rfl (lv_at hl 1 rfl) ?_
      refine lv_icmp_ge (tgt := 139) hx hb dX6_check_63 (by decide) (fun c_2 => ?_) (fun c_2 => ?_)
      · have h := h.1 c_2
        exact J139 x2 x3 cWs yRi yLe yLa qSz qTc qFa qPa qPy qMi qMe qSr qZ qKi qHe qDo qTx qLa qSk h _ _ hP hD hS ls (lv_sub hl [2, 3] rfl)
      · have h := h.2 c_2
        refine lv_aload_n hx hb dX6_check_66 rfl (lv_at hl 0 rfl) ?_
        refine va_get (D := E.1) (ci := 6) (v := .ref qo) (C := RX6) (T := TX6) (N := 10) hx hb hts n_X6 hown hK hP 0 rfl rfl 2 (by decide) k_19 (fun _ h9 => h9) rfl dX6_check_67 ?_
        refine va_get (D := E.1) (ci := 1) (v := .int qMi) (C := RX1) (T := TX1) (N := 15) hx hb hts n_X1 hown hK hP 12 rfl rfl 10 (by decide) k_138 (fun _ h9 => h9) rfl dX6_check_70 ?_
        refine lv_sipush (v := 9999) hx hb dX6_check_73 (by decide) ?_
        refine lv_icmp_ge (tgt := 139) hx hb dX6_check_76 (by decide) (fun c_3 => ?_) (fun c_3 => ?_)
        · have h := h.1 c_3
          exact J139 x2 x3 cWs yRi yLe yLa qSz qTc qFa qPa qPy qMi qMe qSr qZ qKi qHe qDo qTx qLa qSk h _ _ hP hD hS ls (lv_sub hl [2, 3] rfl)
        · have h := h.2 c_3
          refine lv_aload_n hx hb dX6_check_79 rfl (lv_at hl 0 rfl) ?_
          refine lv_aload_n hx hb dX6_check_80 rfl (lv_at hl 0 rfl) ?_
          refine va_get (D := E.1) (ci := 6) (v := .ref qo) (C := RX6) (T := TX6) (N := 10) hx hb hts n_X6 hown hK hP 0 rfl rfl 2 (by decide) k_19 (fun _ h9 => h9) rfl dX6_check_81 ?_
          have hPc := hP.part (cx := (rw_9 E co ro jo qo yo eo cs cl cw yr yl yt qo qk qh qd qt ql qs cWs cKp yRi yLe yLa qSz qTc qFa qPa qPy qMi qMe qSr qZ qKi qHe qDo qTx qLa qSk)) [0, 1, 2, 3, 4, 12, 13, 14, 15, 16, 17, 18] rfl
          have hDc := hD.part (cx := (rw_9 E co ro jo qo yo eo cs cl cw yr yl yt qo qk qh qd qt ql qs cWs cKp yRi yLe yLa qSz qTc qFa qPa qPy qMi qMe qSr qZ qKi qHe qDo qTx qLa qSk)) [0, 1, 2, 3, 4, 12, 13, 14, 15, 16, 17, 18] (by decide) rfl
          have hFc := va_freeP (cx := (rw_9 E co ro jo qo yo eo cs cl cw yr yl yt qo qk qh qd qt ql qs cWs cKp yRi yLe yLa qSz qTc qFa qPa qPy qMi qMe qSr qZ qKi qHe qDo qTx qLa qSk)) hD hS hA [0, 1, 2, 3, 4, 12, 13, 14, 15, 16, 17, 18] rfl
          refine va_callv (va_runV (As := [.ref qo]) (rest := []) ⟨hx, hb, hml, hown, hts⟩ (c_X6_passBestMinute l E co ro jo qo yo eo cs cl cw yr yl yt qo qk qh qd qt ql qs H.size cWs cKp yRi yLe yLa qSz qTc qFa qPa qPy qMi qMe qSr qZ qKi qHe qDo qTx qLa qSk LT pk pv pa pn tc _ h) (cwV 1 hts gX6_check_X6_passBestMinute rfl rfl rfl (by decide +kernel) ⟨Nat.le_of_ble_eq_true rfl, Nat.le_of_ble_eq_true rfl⟩) ⟨fun a U g mk q => ⟨q.1, q.2.blind⟩, va_recv hK hPc (ci := 6) (q0 := 0) rfl rfl, fun U hU hW => ⟨rfl, by rw [hU], by rw [hU]; exact hPc, hE.call hS hFc hW hU, hDc.weaken (fun _ _ _ _ => trivial)⟩⟩ rfl rfl hl.1 rfl (lv_room (Nat.le_of_ble_eq_true rfl)) dX6_check_84 ⟨Nat.zero_le _, Nat.zero_le _⟩) hS (fun q _ h => hFc q h) hFc (fun u t H1 locs ht hvm h hB hz1 hk1 hS => ?_)
          obtain ⟨w_4, w_5, w_6, w_7, w_8, w_9, w_10, w_11, w_12⟩ := u
          obtain ⟨hP1, hD1⟩ := hB
          rw [ht] at hP1
          obtain ⟨hP, hD⟩ := rc_focP hP hD [0, 1, 2, 3, 4, 12, 13, 14, 15, 16, 17, 18] [some 0, some 1, some 2, some 3, some 4, none, none, none, none, none, none, none, some 5, some 6, some 7, some 8, some 9, some 10, some 11, none] (by decide) rfl rfl hk1 hP1 rfl
          generalize H1 = H at hP hS ⊢
          have hP : va_P E.1 vwCl (rw_20 E co ro jo qo yo eo cs cl cw yr yl yt jk jh jd jt jl js qk qh qd qt ql qs cWs cKp yRi w_4 w_5 jSz jTc jFa jPa jPy jMi jMe jSr jZ jKi jHe jDo jTx jLa jSk qSz qTc w_6 qPa w_7 w_8 w_9 w_10 w_11 qKi qHe qDo qTx qLa w_12 cWt ++ rc_tp E LT pk pv pa pn tc) H := hP
          have hD : va_D A (rw_20 E co ro jo qo yo eo cs cl cw yr yl yt jk jh jd jt jl js qk qh qd qt ql qs cWs cKp yRi w_4 w_5 jSz jTc jFa jPa jPy jMi jMe jSr jZ jKi jHe jDo jTx jLa jSk qSz qTc w_6 qPa w_7 w_8 w_9 w_10 w_11 qKi qHe qDo qTx qLa w_12 cWt ++ rc_tp E LT pk pv pa pn tc) := hD
          refine lv_aload_n hx hb dX6_check_87 rfl (lv_at hl 0 rfl) ?_
          refine lv_iload_n hx hb dX6_check_88 rfl (lv_at hl 3 rfl) ?_
          refine lv_iload_n hx hb dX6_check_89 rfl (lv_at hl 2 rfl) ?_
          refine lv_aload_n hx hb dX6_check_90 rfl (lv_at hl 0 rfl) ?_
          refine va_get (D := E.1) (ci := 6) (v := .ref qo) (C := RX6) (T := TX6) (N := 10) hx hb hts n_X6 hown hK hP 0 rfl rfl 2 (by decide) k_19 (fun _ h9 => h9) rfl dX6_check_91 ?_
          refine va_get (D := E.1) (ci := 1) (v := .int w_9) (C := RX1) (T := TX1) (N := 15) hx hb hts n_X1 hown hK hP 12 rfl rfl 11 (by decide) k_303 (fun _ h9 => h9) rfl dX6_check_94 ?_
          have hPc := hP.sub (ws' := (rw_19 E co ro jo qo yo eo cs cl cw cWs cKp cWt)) [0, 19] rfl
          have hDc := hD.sub (ws' := (rw_19 E co ro jo qo yo eo cs cl cw cWs cKp cWt)) [0, 19] (by decide) rfl
          have hFc := va_free (wc := (rw_19 E co ro jo qo yo eo cs cl cw cWs cKp cWt)) hD hS hA [0, 19] rfl
          refine va_calli (va_runV (As := [.int x3, .int x2, .int w_9]) (rest := []) ⟨hx, hb, hml, hown, hts⟩ (c_X6_isWaiting l E co ro jo qo yo eo cs cl cw H.size cWs cKp cWt x3 x2 w_9 _ h) (cwV 3 hts gX6_check_X6_isWaiting rfl rfl rfl (by decide +kernel) ⟨Nat.le_of_ble_eq_true rfl, Nat.le_of_ble_eq_true rfl⟩) ⟨fun a U g mk q => ⟨q.1, q.2.blind⟩, va_recv hK hPc (ci := 6) (q0 := 0) rfl rfl, fun U hU hW => ⟨rfl, by rw [hU], by rw [hU]; exact hPc, hE.call hS hFc hW hU, hDc.weaken (fun _ _ _ _ => trivial)⟩⟩ rfl rfl hl.1 rfl (lv_room (Nat.le_of_ble_eq_true rfl)) dX6_check_97 ⟨Nat.zero_le _, Nat.zero_le _⟩) hS (fun q _ h => hFc q h) hFc (fun r_13 u t H1 locs ht hvm h hB hz1 hk1 hS => ?_)
          obtain ⟨hP1, hD1⟩ := hB
          rw [ht] at hP1
          obtain ⟨hP, hD⟩ := rc_foc hP hD [0, 19] [some 0, none, none, none, none, none, none, none, none, none, none, none, none, none, none, none, none, none, none, some 1] (by decide) rfl hk1 hP1 rfl
          generalize H1 = H at hP hS ⊢
          have hP : va_P E.1 vwCl (rw_20 E co ro jo qo yo eo cs cl cw yr yl yt jk jh jd jt jl js qk qh qd qt ql qs cWs cKp yRi w_4 w_5 jSz jTc jFa jPa jPy jMi jMe jSr jZ jKi jHe jDo jTx jLa jSk qSz qTc w_6 qPa w_7 w_8 w_9 w_10 w_11 qKi qHe qDo qTx qLa w_12 cWt ++ rc_tp E LT pk pv pa pn tc) H := hP
          have hD : va_D A (rw_20 E co ro jo qo yo eo cs cl cw yr yl yt jk jh jd jt jl js qk qh qd qt ql qs cWs cKp yRi w_4 w_5 jSz jTc jFa jPa jPy jMi jMe jSr jZ jKi jHe jDo jTx jLa jSk qSz qTc w_6 qPa w_7 w_8 w_9 w_10 w_11 qKi qHe qDo qTx qLa w_12 cWt ++ rc_tp E LT pk pv pa pn tc) := hD
          refine lv_if_ne (tgt := 107) hx hb dX6_check_100 (by decide) (fun c_14 => ?_) (fun c_14 => ?_)
          · have h := h.1 c_14
            refine lv_iinc (v := x3 + 1) (lv' := [(3, .int (x3 + 1)), (0, .ref co), (1, .int p1), (2, .int x2), (4, .int x4)]) hx hb dX6_check_107 hl (k := 3) rfl (by rfl) (by decide) rfl (fun ls hl => ?_)
            refine lv_aload_n hx hb dX6_check_110 rfl (lv_at hl 1 rfl) ?_
            refine lv_iload_n hx hb dX6_check_111 rfl (lv_at hl 0 rfl) ?_
            refine lv_iload_n hx hb dX6_check_112 rfl (lv_at hl 3 rfl) ?_
            refine lv_aload_n hx hb dX6_check_113 rfl (lv_at hl 1 rfl) ?_
            refine va_get (D := E.1) (ci := 6) (v := .ref qo) (C := RX6) (T := TX6) (N := 10) hx hb hts n_X6 hown hK hP 0 rfl rfl 2 (by decide) k_19 (fun _ h9 => h9) rfl dX6_check_114 ?_
            refine va_get (D := E.1) (ci := 1) (v := .int w_10) (C := RX1) (T := TX1) (N := 15) hx hb hts n_X1 hown hK hP 12 rfl rfl 12 (by decide) k_309 (fun _ h9 => h9) rfl dX6_check_117 ?_
            have hPc := hP.sub (ws' := (rw_19 E co ro jo qo yo eo cs cl cw cWs cKp cWt)) [0, 19] rfl
            have hDc := hD.sub (ws' := (rw_19 E co ro jo qo yo eo cs cl cw cWs cKp cWt)) [0, 19] (by decide) rfl
            have hFc := va_free (wc := (rw_19 E co ro jo qo yo eo cs cl cw cWs cKp cWt)) hD hS hA [0, 19] rfl
            refine va_calli (va_runV (As := [.int (x3 + 1), .int x2, .int w_10]) (rest := []) ⟨hx, hb, hml, hown, hts⟩ (c_X6_isWaiting l E co ro jo qo yo eo cs cl cw H.size cWs cKp cWt (x3 + 1) x2 w_10 _ h) (cwV 3 hts gX6_check_X6_isWaiting rfl rfl rfl (by decide +kernel) ⟨Nat.le_of_ble_eq_true rfl, Nat.le_of_ble_eq_true rfl⟩) ⟨fun a U g mk q => ⟨q.1, q.2.blind⟩, va_recv hK hPc (ci := 6) (q0 := 0) rfl rfl, fun U hU hW => ⟨rfl, by rw [hU], by rw [hU]; exact hPc, hE.call hS hFc hW hU, hDc.weaken (fun _ _ _ _ => trivial)⟩⟩ rfl rfl hl.1 rfl (lv_room (Nat.le_of_ble_eq_true rfl)) dX6_check_120 ⟨Nat.zero_le _, Nat.zero_le _⟩) hS (fun q _ h => hFc q h) hFc (fun r_15 u t H1 locs ht hvm h hB hz1 hk1 hS => ?_)
            obtain ⟨hP1, hD1⟩ := hB
            rw [ht] at hP1
            obtain ⟨hP, hD⟩ := rc_foc hP hD [0, 19] [some 0, none, none, none, none, none, none, none, none, none, none, none, none, none, none, none, none, none, none, some 1] (by decide) rfl hk1 hP1 rfl
            generalize H1 = H at hP hS ⊢
            have hP : va_P E.1 vwCl (rw_20 E co ro jo qo yo eo cs cl cw yr yl yt jk jh jd jt jl js qk qh qd qt ql qs cWs cKp yRi w_4 w_5 jSz jTc jFa jPa jPy jMi jMe jSr jZ jKi jHe jDo jTx jLa jSk qSz qTc w_6 qPa w_7 w_8 w_9 w_10 w_11 qKi qHe qDo qTx qLa w_12 cWt ++ rc_tp E LT pk pv pa pn tc) H := hP
            have hD : va_D A (rw_20 E co ro jo qo yo eo cs cl cw yr yl yt jk jh jd jt jl js qk qh qd qt ql qs cWs cKp yRi w_4 w_5 jSz jTc jFa jPa jPy jMi jMe jSr jZ jKi jHe jDo jTx jLa jSk qSz qTc w_6 qPa w_7 w_8 w_9 w_10 w_11 qKi qHe qDo qTx qLa w_12 cWt ++ rc_tp E LT pk pv pa pn tc) := hD
            refine lv_if_ne (tgt := 130) hx hb dX6_check_123 (by decide) (fun c_16 => ?_) (fun c_16 => ?_)
            · have h := h.1 c_16
              refine lv_iinc (v := x3 + 1 + 1) (lv' := [(3, .int (x3 + 1 + 1)), (0, .ref co), (1, .int p1), (2, .int x2), (4, .int x4)]) hx hb dX6_check_130 hl (k := 0) rfl (by rfl) (by decide) rfl (fun ls hl => ?_)
              refine lv_iinc (v := x4 + 1) (lv' := [(4, .int (x4 + 1)), (3, .int (x3 + 1 + 1)), (0, .ref co), (1, .int p1), (2, .int x2)]) hx hb dX6_check_133 hl (k := 4) rfl (by rfl) (by decide) rfl (fun ls hl => ?_)
              refine lv_goto (tgt := 60) hx hb dX6_check_136 (by decide) ?_
              exact ih x2 (x3 + 1 + 1) (x4 + 1) cWs yRi w_4 w_5 qSz qTc w_6 qPa w_7 w_8 w_9 w_10 w_11 qKi qHe qDo qTx qLa w_12 h _ _ hP hD hS ls (lv_sub hl [2, 3, 4, 1, 0] rfl)
            · have h := h.2 c_16
              refine lv_iconst (v := 1) hx hb dX6_check_126 (by decide) ?_
              refine lv_iload_n hx hb dX6_check_127 rfl (lv_at hl 0 rfl) ?_
              refine lv_iadd hx hb dX6_check_128 ?_
              exact hret _ _ _ _ (1 + (x3 + 1)) (cWs, yRi, w_4, w_5, qSz, qTc, w_6, qPa, w_7, w_8, w_9, w_10, w_11, qKi, qHe, qDo, qTx, qLa, w_12) rfl h hP hD hS dX6_check_129
          · have h := h.2 c_14
            refine lv_iconst (v := 1) hx hb dX6_check_103 (by decide) ?_
            refine lv_iload_n hx hb dX6_check_104 rfl (lv_at hl 3 rfl) ?_
            refine lv_iadd hx hb dX6_check_105 ?_
            exact hret _ _ _ _ (1 + x3) (cWs, yRi, w_4, w_5, qSz, qTc, w_6, qPa, w_7, w_8, w_9, w_10, w_11, qKi, qHe, qDo, qTx, qLa, w_12) rfl h hP hD hS dX6_check_106
  unfold wp_X6_check at h
  obtain ⟨H, hH⟩ : ∃ H, H = s.heap := ⟨_, rfl⟩
  obtain ⟨locs, hlocs⟩ : ∃ locs : List Loc, locs = [] := ⟨_, rfl⟩
  have hP : va_P E.1 vwCl (rw_20 E co ro jo qo yo eo cs cl cw yr yl yt jk jh jd jt jl js qk qh qd qt ql qs cWs cKp yRi yLe yLa jSz jTc jFa jPa jPy jMi jMe jSr jZ jKi jHe jDo jTx jLa jSk qSz qTc qFa qPa qPy qMi qMe qSr qZ qKi qHe qDo qTx qLa qSk cWt ++ rc_tp E LT pk pv pa pn tc) H := by rw [hH]; exact hP
  have hS : va_S A s.heap H locs := by rw [hH, hlocs]; exact hS
  suffices hgo : W p l e ({ frames := 6, cells := 0, slots := 0, locals := 152 } : Room) s m args below meth c H locs 0 0 QQ (F0 m 0 ls []) from by rw [hH, hlocs] at hgo; exact hgo
  refine lv_aload_n hx hb dX6_check_0 rfl (lv_at hl 0 rfl) ?_
  refine va_get (D := E.1) (ci := 6) (v := .int cWs) (C := RX6) (T := TX6) (N := 10) hx hb hts n_X6 hown hK hP 0 rfl rfl 8 (by decide) k_52 (fun _ h9 => h9) rfl dX6_check_1 ?_
  refine lv_istore_n (lv' := [(2, .int cWs), (0, .ref co), (1, .int p1)]) hx hb dX6_check_4 rfl hl (by decide) rfl (fun ls hl => ?_)
  refine lv_aload_n hx hb dX6_check_5 rfl (lv_at hl 1 rfl) ?_
  refine lv_iconst (v := 0) hx hb dX6_check_6 (by decide) ?_
  refine va_put (D := E.1) (ci := 6) (v := .int 0) (ty := .int) (C := RX6) (T := TX6) (N := 10) hx hb hts n_X6 tyX6 tyX6_ok nmX6 hown hK hP hD hS 0 rfl rfl 8 (by decide) k_52 (fun _ h9 => h9) rfl (by decide +kernel) rfl rfl (Nat.le_of_ble_eq_true rfl) dX6_check_7 (fun H locs hP hD hS => ?_)
  have hP : va_P E.1 vwCl (rw_20 E co ro jo qo yo eo cs cl cw yr yl yt jk jh jd jt jl js qk qh qd qt ql qs 0 cKp yRi yLe yLa jSz jTc jFa jPa jPy jMi jMe jSr jZ jKi jHe jDo jTx jLa jSk qSz qTc qFa qPa qPy qMi qMe qSr qZ qKi qHe qDo qTx qLa qSk cWt ++ rc_tp E LT pk pv pa pn tc) H := hP
  have hD : va_D A (rw_20 E co ro jo qo yo eo cs cl cw yr yl yt jk jh jd jt jl js qk qh qd qt ql qs 0 cKp yRi yLe yLa jSz jTc jFa jPa jPy jMi jMe jSr jZ jKi jHe jDo jTx jLa jSk qSz qTc qFa qPa qPy qMi qMe qSr qZ qKi qHe qDo qTx qLa qSk cWt ++ rc_tp E LT pk pv pa pn tc) := hD
  refine lv_iload_n hx hb dX6_check_10 rfl (lv_at hl 2 rfl) ?_
  refine lv_iconst (v := 1) hx hb dX6_check_11 (by decide) ?_
  refine lv_bipush (v := 30) hx hb dX6_check_12 (by decide) ?_
  have hPc := hP.sub (ws' := []) [] rfl
  have hDc := hD.sub (ws' := []) [] (by decide) rfl
  have hFc := va_free (wc := []) hD hS hA [] rfl
  refine va_calli (va_runS (As := [.int p1, .int 1, .int 30]) (rest := []) ⟨hx, hb, hml, hown, hts⟩ (c_X6_within l E H.size p1 1 30 _ h) (va_cwS 3 hts gX6_check_X6_within rfl rfl rfl (by decide +kernel) ⟨Nat.le_of_ble_eq_true rfl, Nat.le_of_ble_eq_true rfl⟩) ⟨fun a U g mk q => ⟨q.1, q.2.blind⟩, fun U hU hW => ⟨rfl, by rw [hU], by rw [hU]; exact hPc, hE.call hS hFc hW hU, hDc.weaken (fun _ _ _ _ => trivial)⟩⟩ rfl rfl hl.1 rfl (lv_room (Nat.le_of_ble_eq_true rfl)) dX6_check_14 ⟨Nat.zero_le _, Nat.zero_le _⟩) hS (fun q _ h => hFc q h) hFc (fun r_17 u t H1 locs ht hvm h hB hz1 hk1 hS => ?_)
  obtain ⟨hP1, hD1⟩ := hB
  rw [ht] at hP1
  obtain ⟨hP, hD⟩ := rc_foc hP hD [] [none, none, none, none, none, none, none, none, none, none, none, none, none, none, none, none, none, none, none, none] (by decide) rfl hk1 hP1 rfl
  generalize H1 = H at hP hS ⊢
  have hP : va_P E.1 vwCl (rw_20 E co ro jo qo yo eo cs cl cw yr yl yt jk jh jd jt jl js qk qh qd qt ql qs 0 cKp yRi yLe yLa jSz jTc jFa jPa jPy jMi jMe jSr jZ jKi jHe jDo jTx jLa jSk qSz qTc qFa qPa qPy qMi qMe qSr qZ qKi qHe qDo qTx qLa qSk cWt ++ rc_tp E LT pk pv pa pn tc) H := hP
  have hD : va_D A (rw_20 E co ro jo qo yo eo cs cl cw yr yl yt jk jh jd jt jl js qk qh qd qt ql qs 0 cKp yRi yLe yLa jSz jTc jFa jPa jPy jMi jMe jSr jZ jKi jHe jDo jTx jLa jSk qSz qTc qFa qPa qPy qMi qMe qSr qZ qKi qHe qDo qTx qLa qSk cWt ++ rc_tp E LT pk pv pa pn tc) := hD
  refine lv_if_ne (tgt := 23) hx hb dX6_check_17 (by decide) (fun c_18 => ?_) (fun c_18 => ?_)
  · have h := h.1 c_18
    refine lv_aload_n hx hb dX6_check_23 rfl (lv_at hl 1 rfl) ?_
    refine va_get (D := E.1) (ci := 6) (v := .int cKp) (C := RX6) (T := TX6) (N := 10) hx hb hts n_X6 hown hK hP 0 rfl rfl 9 (by decide) k_56 (fun _ h9 => h9) rfl dX6_check_24 ?_
    refine lv_if_ne (tgt := 33) hx hb dX6_check_27 (by decide) (fun c_19 => ?_) (fun c_19 => ?_)
    · have h := h.1 c_19
      refine lv_aload_n hx hb dX6_check_33 rfl (lv_at hl 1 rfl) ?_
      refine va_get (D := E.1) (ci := 6) (v := .ref qo) (C := RX6) (T := TX6) (N := 10) hx hb hts n_X6 hown hK hP 0 rfl rfl 2 (by decide) k_19 (fun _ h9 => h9) rfl dX6_check_34 ?_
      refine lv_aload_n hx hb dX6_check_37 rfl (lv_at hl 1 rfl) ?_
      refine va_get (D := E.1) (ci := 6) (v := .ref jo) (C := RX6) (T := TX6) (N := 10) hx hb hts n_X6 hown hK hP 0 rfl rfl 1 (by decide) k_16 (fun _ h9 => h9) rfl dX6_check_38 ?_
      have hPc := hP.part (cx := (rw_6 E qo qk qh qd qt ql qs jo jk jh jd jt jl js qSz qTc qFa qPa qPy qMi qMe qSr qZ qKi qHe qDo qTx qLa qSk jSz jTc jFa jPa jPy jMi jMe jSr jZ jKi jHe jDo jTx jLa jSk)) [12, 13, 14, 15, 16, 17, 18, 5, 6, 7, 8, 9, 10, 11] rfl
      have hDc := hD.part (cx := (rw_6 E qo qk qh qd qt ql qs jo jk jh jd jt jl js qSz qTc qFa qPa qPy qMi qMe qSr qZ qKi qHe qDo qTx qLa qSk jSz jTc jFa jPa jPy jMi jMe jSr jZ jKi jHe jDo jTx jLa jSk)) [12, 13, 14, 15, 16, 17, 18, 5, 6, 7, 8, 9, 10, 11] (by decide) rfl
      have hFc := va_freeP (cx := (rw_6 E qo qk qh qd qt ql qs jo jk jh jd jt jl js qSz qTc qFa qPa qPy qMi qMe qSr qZ qKi qHe qDo qTx qLa qSk jSz jTc jFa jPa jPy jMi jMe jSr jZ jKi jHe jDo jTx jLa jSk)) hD hS hA [12, 13, 14, 15, 16, 17, 18, 5, 6, 7, 8, 9, 10, 11] rfl
      refine va_callv (va_runV (As := [.ref jo]) (rest := []) ⟨hx, hb, hml, hown, hts⟩ (c_X1_become l E qo qk qh qd qt ql qs jo jk jh jd jt jl js H.size qSz qTc qFa qPa qPy qMi qMe qSr qZ qKi qHe qDo qTx qLa qSk jSz jTc jFa jPa jPy jMi jMe jSr jZ jKi jHe jDo jTx jLa jSk LT pk pv pa pn tc _ h) (cwV 1 hts gX6_check_X1_become rfl rfl rfl (by decide +kernel) ⟨Nat.le_of_ble_eq_true rfl, Nat.le_of_ble_eq_true rfl⟩) ⟨fun a U g mk q => ⟨q.1, q.2.blind⟩, va_recv hK hPc (ci := 1) (q0 := 0) rfl rfl, fun U hU hW => ⟨rfl, by rw [hU], by rw [hU]; exact hPc, hE.call hS hFc hW hU, hDc.weaken (fun _ _ _ _ => trivial)⟩⟩ rfl rfl hl.1 rfl (lv_room (Nat.le_of_ble_eq_true rfl)) dX6_check_41 ⟨Nat.zero_le _, Nat.zero_le _⟩) hS (fun q _ h => hFc q h) hFc (fun u t H1 locs ht hvm h hB hz1 hk1 hS => ?_)
      obtain ⟨w_20, w_21, w_22, w_23, w_24, w_25, w_26, w_27, w_28, w_29, w_30, w_31, w_32, w_33⟩ := u
      obtain ⟨hP1, hD1⟩ := hB
      rw [ht] at hP1
      obtain ⟨hP, hD⟩ := rc_focP hP hD [12, 13, 14, 15, 16, 17, 18, 5, 6, 7, 8, 9, 10, 11] [none, none, none, none, none, some 7, some 8, some 9, some 10, some 11, some 12, some 13, some 0, some 1, some 2, some 3, some 4, some 5, some 6, none] (by decide) rfl rfl hk1 hP1 rfl
      generalize H1 = H at hP hS ⊢
      have hP : va_P E.1 vwCl (rw_20 E co ro jo qo yo eo cs cl cw yr yl yt jk jh jd jt jl js qk qh qd qt ql qs 0 cKp yRi yLe yLa jSz jTc jFa jPa jPy jMi jMe jSr jZ jKi jHe jDo jTx jLa jSk w_20 w_21 w_22 w_23 w_24 w_25 w_26 w_27 w_28 w_29 w_30 w_31 w_32 w_33 qSk cWt ++ rc_tp E LT pk pv pa pn tc) H := hP
      have hD : va_D A (rw_20 E co ro jo qo yo eo cs cl cw yr yl yt jk jh jd jt jl js qk qh qd qt ql qs 0 cKp yRi yLe yLa jSz jTc jFa jPa jPy jMi jMe jSr jZ jKi jHe jDo jTx jLa jSk w_20 w_21 w_22 w_23 w_24 w_25 w_26 w_27 w_28 w_29 w_30 w_31 w_32 w_33 qSk cWt ++ rc_tp E LT pk pv pa pn tc) := hD
      refine lv_aload_n hx hb dX6_check_44 rfl (lv_at hl 1 rfl) ?_
      refine va_get (D := E.1) (ci := 6) (v := .ref yo) (C := RX6) (T := TX6) (N := 10) hx hb hts n_X6 hown hK hP 0 rfl rfl 3 (by decide) k_25 (fun _ h9 => h9) rfl dX6_check_45 ?_
      refine lv_aload_n hx hb dX6_check_48 rfl (lv_at hl 1 rfl) ?_
      refine va_get (D := E.1) (ci := 6) (v := .ref qo) (C := RX6) (T := TX6) (N := 10) hx hb hts n_X6 hown hK hP 0 rfl rfl 2 (by decide) k_19 (fun _ h9 => h9) rfl dX6_check_49 ?_
      have hPc := hP.part (cx := (rw_7 E yo yr yl yt qo qk qh qd qt ql qs yRi yLe yLa w_20 w_21 w_22 w_23 w_24 w_25 w_26 w_27 w_28 w_29 w_30 w_31 w_32 w_33 qSk)) [1, 2, 3, 4, 12, 13, 14, 15, 16, 17, 18] rfl
      have hDc := hD.part (cx := (rw_7 E yo yr yl yt qo qk qh qd qt ql qs yRi yLe yLa w_20 w_21 w_22 w_23 w_24 w_25 w_26 w_27 w_28 w_29 w_30 w_31 w_32 w_33 qSk)) [1, 2, 3, 4, 12, 13, 14, 15, 16, 17, 18] (by decide) rfl
      have hFc := va_freeP (cx := (rw_7 E yo yr yl yt qo qk qh qd qt ql qs yRi yLe yLa w_20 w_21 w_22 w_23 w_24 w_25 w_26 w_27 w_28 w_29 w_30 w_31 w_32 w_33 qSk)) hD hS hA [1, 2, 3, 4, 12, 13, 14, 15, 16, 17, 18] rfl
      refine va_callv (va_runV (As := [.ref qo]) (rest := []) ⟨hx, hb, hml, hown, hts⟩ (c_X5_weigh l E yo yr yl yt qo qk qh qd qt ql qs H.size yRi yLe yLa w_20 w_21 w_22 w_23 w_24 w_25 w_26 w_27 w_28 w_29 w_30 w_31 w_32 w_33 qSk LT pk pv pa pn tc _ h) (cwV 1 hts gX6_check_X5_weigh rfl rfl rfl (by decide +kernel) ⟨Nat.le_of_ble_eq_true rfl, Nat.le_of_ble_eq_true rfl⟩) ⟨fun a U g mk q => ⟨q.1, q.2.blind⟩, va_recv hK hPc (ci := 5) (q0 := 0) rfl rfl, fun U hU hW => ⟨rfl, by rw [hU], by rw [hU]; exact hPc, hE.call hS hFc hW hU, hDc.weaken (fun _ _ _ _ => trivial)⟩⟩ rfl rfl hl.1 rfl (lv_room (Nat.le_of_ble_eq_true rfl)) dX6_check_52 ⟨Nat.zero_le _, Nat.zero_le _⟩) hS (fun q _ h => hFc q h) hFc (fun u t H1 locs ht hvm h hB hz1 hk1 hS => ?_)
      obtain ⟨w_34, w_35⟩ := u
      obtain ⟨hP1, hD1⟩ := hB
      rw [ht] at hP1
      obtain ⟨hP, hD⟩ := rc_focP hP hD [1, 2, 3, 4, 12, 13, 14, 15, 16, 17, 18] [none, some 0, some 1, some 2, some 3, none, none, none, none, none, none, none, some 4, some 5, some 6, some 7, some 8, some 9, some 10, none] (by decide) rfl rfl hk1 hP1 rfl
      generalize H1 = H at hP hS ⊢
      have hP : va_P E.1 vwCl (rw_20 E co ro jo qo yo eo cs cl cw yr yl yt jk jh jd jt jl js qk qh qd qt ql qs 0 cKp w_34 yLe yLa jSz jTc jFa jPa jPy jMi jMe jSr jZ jKi jHe jDo jTx jLa jSk w_20 w_21 w_22 w_23 w_24 w_25 w_26 w_27 w_28 w_29 w_30 w_31 w_32 w_33 w_35 cWt ++ rc_tp E LT pk pv pa pn tc) H := hP
      have hD : va_D A (rw_20 E co ro jo qo yo eo cs cl cw yr yl yt jk jh jd jt jl js qk qh qd qt ql qs 0 cKp w_34 yLe yLa jSz jTc jFa jPa jPy jMi jMe jSr jZ jKi jHe jDo jTx jLa jSk w_20 w_21 w_22 w_23 w_24 w_25 w_26 w_27 w_28 w_29 w_30 w_31 w_32 w_33 w_35 cWt ++ rc_tp E LT pk pv pa pn tc) := hD
      refine lv_iconst (v := 0) hx hb dX6_check_55 (by decide) ?_
      refine lv_istore_n (lv' := [(3, .int 0), (2, .int cWs), (0, .ref co), (1, .int p1)]) hx hb dX6_check_56 rfl hl (by decide) rfl (fun ls hl => ?_)
      refine lv_iconst (v := 0) hx hb dX6_check_57 (by decide) ?_
      refine lv_istore (lv' := [(4, .int 0), (3, .int 0), (2, .int cWs), (0, .ref co), (1, .int p1)]) hx hb dX6_check_58 hl (by decide) rfl (fun ls hl => ?_)
      obtain ⟨n, h⟩ := h
      exact J60 n cWs 0 0 0 w_34 yLe yLa w_20 w_21 w_22 w_23 w_24 w_25 w_26 w_27 w_28 w_29 w_30 w_31 w_32 w_33 w_35 h _ _ hP hD hS ls (lv_sub hl [3, 4, 2, 1, 0] rfl)
    · have h := h.2 c_19
      refine lv_ldc hx hb hown k_137 dX6_check_30 ?_
      exact hret _ _ _ _ (-1000000002) (0, yRi, yLe, yLa, qSz, qTc, qFa, qPa, qPy, qMi, qMe, qSr, qZ, qKi, qHe, qDo, qTx, qLa, qSk) rfl h hP hD hS dX6_check_32
  · have h := h.2 c_18
    refine lv_ldc hx hb hown k_70 dX6_check_20 ?_
    exact hret _ _ _ _ (-1000000001) (0, yRi, yLe, yLa, qSz, qTc, qFa, qPa, qPy, qMi, qMe, qSr, qZ, qKi, qHe, qDo, qTx, qLa, qSk) rfl h hP hD hS dX6_check_22
def wp_X6_keep (rSz : Int32) (rTc : Int32) (rFa : Int32) (rPa : Int32) (rPy : Int32) (rMi : Int32) (rMe : Int32) (rSr : Int32) (rZ : Int32) (rKi : Nat → Int32) (rHe : Nat → Int32) (rDo : Nat → Int32) (rTx : Nat → Option Nat) (rLa : Nat → Int32) (jSz : Int32) (jTc : Int32) (jFa : Int32) (jPa : Int32) (jPy : Int32) (jMi : Int32) (jMe : Int32) (jSr : Int32) (jZ : Int32) (jKi : Nat → Int32) (jHe : Nat → Int32) (jDo : Nat → Int32) (jTx : Nat → Option Nat) (jLa : Nat → Int32) (LT : List Nat) (Q : Int32 → Int32 → Int32 → Int32 → Int32 → Int32 → Int32 → Int32 → Int32 → Int32 → Int32 → (Nat → Int32) → (Nat → Int32) → (Nat → Int32) → (Nat → Option Nat) → (Nat → Int32) → Prop) : Prop :=
  wp_X1_become jSz jTc jFa jPa jPy jMi jMe jSr jZ jKi jHe jDo jTx jLa rSz rTc rFa rPa rPy rMi rMe rSr rZ rKi rHe rDo rTx rLa LT (fun (w_1 : Int32) (w_2 : Int32) (w_3 : Int32) (w_4 : Int32) (w_5 : Int32) (w_6 : Int32) (w_7 : Int32) (w_8 : Int32) (w_9 : Int32) (w_10 : Nat → Int32) (w_11 : Nat → Int32) (w_12 : Nat → Int32) (w_13 : Nat → Option Nat) (w_14 : Nat → Int32) => Q w_1 1 w_1 w_2 w_3 w_4 w_5 w_6 w_7 w_8 w_9 w_10 w_11 w_12 w_13 w_14)
set_option maxHeartbeats 4000000 in
set_option maxRecDepth 100000 in
theorem c_X6_keep (l : Launch) (E : gE) (co ro jo qo yo eo cs cl cw rk rh rd rt rl rs jk jh jd jt jl js : Nat) (sz : Nat) (cWs : Int32) (cKp : Int32) (rSz : Int32) (rTc : Int32) (rFa : Int32) (rPa : Int32) (rPy : Int32) (rMi : Int32) (rMe : Int32) (rSr : Int32) (rZ : Int32) (rKi : Nat → Int32) (rHe : Nat → Int32) (rDo : Nat → Int32) (rTx : Nat → Option Nat) (rLa : Nat → Int32) (rSk : Nat → Int32) (jSz : Int32) (jTc : Int32) (jFa : Int32) (jPa : Int32) (jPy : Int32) (jMi : Int32) (jMe : Int32) (jSr : Int32) (jZ : Int32) (jKi : Nat → Int32) (jHe : Nat → Int32) (jDo : Nat → Int32) (jTx : Nat → Option Nat) (jLa : Nat → Int32) (jSk : Nat → Int32)  (LT : List Nat) (pk : Nat → Int32) (pv : Nat → Int32) (pa : Nat → Nat) (pn : Nat → Nat) (tc : Nat → Nat → Int32) (Q : Int32 → Int32 → Int32 → Int32 → Int32 → Int32 → Int32 → Int32 → Int32 → Int32 → Int32 → (Nat → Int32) → (Nat → Int32) → (Nat → Int32) → (Nat → Option Nat) → (Nat → Int32) → Prop) (h : wp_X6_keep rSz rTc rFa rPa rPy rMi rMe rSr rZ rKi rHe rDo rTx rLa jSz jTc jFa jPa jPy jMi jMe jSr jZ jKi jHe jDo jTx jLa LT Q) : Met l yX6_keep wsX6_keep ({ frames := 2, cells := 0, slots := 0, locals := 82 } : Room) (va_Pc [.ref co] (rc_B E (rw_21 E co ro jo qo yo eo cs cl cw rk rh rd rt rl rs jk jh jd jt jl js cWs cKp rSz rTc rFa rPa rPy rMi rMe rSr rZ rKi rHe rDo rTx rLa rSk jSz jTc jFa jPa jPy jMi jMe jSr jZ jKi jHe jDo jTx jLa jSk ++ rc_tp E LT pk pv pa pn tc) sz)) (va_Qi (S := Int32 × Int32 × Int32 × Int32 × Int32 × Int32 × Int32 × Int32 × Int32 × Int32 × (Nat → Int32) × (Nat → Int32) × (Nat → Int32) × (Nat → Option Nat) × (Nat → Int32)) (fun (r : Int32) (u : Int32 × Int32 × Int32 × Int32 × Int32 × Int32 × Int32 × Int32 × Int32 × Int32 × (Nat → Int32) × (Nat → Int32) × (Nat → Int32) × (Nat → Option Nat) × (Nat → Int32)) => Q r u.1 u.2.1 u.2.2.1 u.2.2.2.1 u.2.2.2.2.1 u.2.2.2.2.2.1 u.2.2.2.2.2.2.1 u.2.2.2.2.2.2.2.1 u.2.2.2.2.2.2.2.2.1 u.2.2.2.2.2.2.2.2.2.1 u.2.2.2.2.2.2.2.2.2.2.1 u.2.2.2.2.2.2.2.2.2.2.2.1 u.2.2.2.2.2.2.2.2.2.2.2.2.1 u.2.2.2.2.2.2.2.2.2.2.2.2.2.1 u.2.2.2.2.2.2.2.2.2.2.2.2.2.2) (fun u t => rc_C E (va_A (rw_21 E co ro jo qo yo eo cs cl cw rk rh rd rt rl rs jk jh jd jt jl js cWs cKp rSz rTc rFa rPa rPy rMi rMe rSr rZ rKi rHe rDo rTx rLa rSk jSz jTc jFa jPa jPy jMi jMe jSr jZ jKi jHe jDo jTx jLa jSk ++ rc_tp E LT pk pv pa pn tc) sz) (rw_21 E co ro jo qo yo eo cs cl cw rk rh rd rt rl rs jk jh jd jt jl js cWs u.1 rSz rTc rFa rPa rPy rMi rMe rSr rZ rKi rHe rDo rTx rLa rSk u.2.1 u.2.2.1 u.2.2.2.1 u.2.2.2.2.1 u.2.2.2.2.2.1 u.2.2.2.2.2.2.1 u.2.2.2.2.2.2.2.1 u.2.2.2.2.2.2.2.2.1 u.2.2.2.2.2.2.2.2.2.1 u.2.2.2.2.2.2.2.2.2.2.1 u.2.2.2.2.2.2.2.2.2.2.2.1 u.2.2.2.2.2.2.2.2.2.2.2.2.1 u.2.2.2.2.2.2.2.2.2.2.2.2.2.1 u.2.2.2.2.2.2.2.2.2.2.2.2.2.2 jSk ++ rc_tp E LT pk pv pa pn tc) t) (va_A (rw_21 E co ro jo qo yo eo cs cl cw rk rh rd rt rl rs jk jh jd jt jl js cWs cKp rSz rTc rFa rPa rPy rMi rMe rSr rZ rKi rHe rDo rTx rLa rSk jSz jTc jFa jPa jPy jMi jMe jSr jZ jKi jHe jDo jTx jLa jSk ++ rc_tp E LT pk pv pa pn tc) sz)) 0 0 (va_A (rw_21 E co ro jo qo yo eo cs cl cw rk rh rd rt rl rs jk jh jd jt jl js cWs cKp rSz rTc rFa rPa rPy rMi rMe rSr rZ rKi rHe rDo rTx rLa rSk jSz jTc jFa jPa jPy jMi jMe jSr jZ jKi jHe jDo jTx jLa jSk ++ rc_tp E LT pk pv pa pn tc) sz) := by
  refine rc_enterI (cc := cX6_keep) (maxL := 1) (by decide) rfl (Nat.le_of_ble_eq_true rfl) ?_
  intro p e s m args below meth c QQ A hx hb hml hown hts hmn hE hP hD hA hret ls hl
  have hown : s.vm.findClass RX6 = some m.cls := hown
  have hK := hE.1
  have hS : va_S A s.heap s.heap [] := va_S.rf
  have hl : lv_has ls 1 [(0, .ref co)] := hl
  have n_X1 : ∀ w ∈ wsX10, w ∈ wsX6_keep := fun _ h => List.mem_cons_of_mem _ (List.mem_append_right _ h)
  have n_X6 : ∀ w ∈ wsX60, w ∈ wsX6_keep := fun _ h => List.mem_cons_of_mem _ (List.mem_append_left _ (List.mem_append_right _ h))
  have k_16 := hts (.fieldLink RX6 16 "RidgeClaps" "image" "LRidgeClaps$Ridge;") (List.mem_of_getElem? (i := 1) rfl)
  have k_10 := hts (.fieldLink RX6 10 "RidgeClaps" "ridge" "LRidgeClaps$Ridge;") (List.mem_of_getElem? (i := 2) rfl)
  have k_56 := hts (.fieldLink RX6 56 "RidgeClaps" "kept" "Z") (List.mem_of_getElem? (i := 3) rfl)
  have k_71 := hts (.fieldLink RX6 71 "RidgeClaps$Ridge" "size" "I") (List.mem_of_getElem? (i := 4) rfl)
  unfold wp_X6_keep at h
  obtain ⟨H, hH⟩ : ∃ H, H = s.heap := ⟨_, rfl⟩
  obtain ⟨locs, hlocs⟩ : ∃ locs : List Loc, locs = [] := ⟨_, rfl⟩
  have hP : va_P E.1 vwCl (rw_21 E co ro jo qo yo eo cs cl cw rk rh rd rt rl rs jk jh jd jt jl js cWs cKp rSz rTc rFa rPa rPy rMi rMe rSr rZ rKi rHe rDo rTx rLa rSk jSz jTc jFa jPa jPy jMi jMe jSr jZ jKi jHe jDo jTx jLa jSk ++ rc_tp E LT pk pv pa pn tc) H := by rw [hH]; exact hP
  have hS : va_S A s.heap H locs := by rw [hH, hlocs]; exact hS
  suffices hgo : W p l e ({ frames := 2, cells := 0, slots := 0, locals := 82 } : Room) s m args below meth c H locs 0 0 QQ (F0 m 0 ls []) from by rw [hH, hlocs] at hgo; exact hgo
  refine lv_aload_n hx hb dX6_keep_0 rfl (lv_at hl 0 rfl) ?_
  refine va_get (D := E.1) (ci := 6) (v := .ref jo) (C := RX6) (T := TX6) (N := 10) hx hb hts n_X6 hown hK hP 0 rfl rfl 1 (by decide) k_16 (fun _ h9 => h9) rfl dX6_keep_1 ?_
  refine lv_aload_n hx hb dX6_keep_4 rfl (lv_at hl 0 rfl) ?_
  refine va_get (D := E.1) (ci := 6) (v := .ref ro) (C := RX6) (T := TX6) (N := 10) hx hb hts n_X6 hown hK hP 0 rfl rfl 0 (by decide) k_10 (fun _ h9 => h9) rfl dX6_keep_5 ?_
  have hPc := hP.part (cx := (rw_6 E jo jk jh jd jt jl js ro rk rh rd rt rl rs jSz jTc jFa jPa jPy jMi jMe jSr jZ jKi jHe jDo jTx jLa jSk rSz rTc rFa rPa rPy rMi rMe rSr rZ rKi rHe rDo rTx rLa rSk)) [8, 9, 10, 11, 12, 13, 14, 1, 2, 3, 4, 5, 6, 7] rfl
  have hDc := hD.part (cx := (rw_6 E jo jk jh jd jt jl js ro rk rh rd rt rl rs jSz jTc jFa jPa jPy jMi jMe jSr jZ jKi jHe jDo jTx jLa jSk rSz rTc rFa rPa rPy rMi rMe rSr rZ rKi rHe rDo rTx rLa rSk)) [8, 9, 10, 11, 12, 13, 14, 1, 2, 3, 4, 5, 6, 7] (by decide) rfl
  have hFc := va_freeP (cx := (rw_6 E jo jk jh jd jt jl js ro rk rh rd rt rl rs jSz jTc jFa jPa jPy jMi jMe jSr jZ jKi jHe jDo jTx jLa jSk rSz rTc rFa rPa rPy rMi rMe rSr rZ rKi rHe rDo rTx rLa rSk)) hD hS hA [8, 9, 10, 11, 12, 13, 14, 1, 2, 3, 4, 5, 6, 7] rfl
  refine va_callv (va_runV (As := [.ref ro]) (rest := []) ⟨hx, hb, hml, hown, hts⟩ (c_X1_become l E jo jk jh jd jt jl js ro rk rh rd rt rl rs H.size jSz jTc jFa jPa jPy jMi jMe jSr jZ jKi jHe jDo jTx jLa jSk rSz rTc rFa rPa rPy rMi rMe rSr rZ rKi rHe rDo rTx rLa rSk LT pk pv pa pn tc _ h) (cwV 1 hts gX6_keep_X1_become rfl rfl rfl (by decide +kernel) ⟨Nat.le_of_ble_eq_true rfl, Nat.le_of_ble_eq_true rfl⟩) ⟨fun a U g mk q => ⟨q.1, q.2.blind⟩, va_recv hK hPc (ci := 1) (q0 := 0) rfl rfl, fun U hU hW => ⟨rfl, by rw [hU], by rw [hU]; exact hPc, hE.call hS hFc hW hU, hDc.weaken (fun _ _ _ _ => trivial)⟩⟩ rfl rfl hl.1 rfl (lv_room (Nat.le_of_ble_eq_true rfl)) dX6_keep_8 ⟨Nat.zero_le _, Nat.zero_le _⟩) hS (fun q _ h => hFc q h) hFc (fun u t H1 locs ht hvm h hB hz1 hk1 hS => ?_)
  obtain ⟨w_1, w_2, w_3, w_4, w_5, w_6, w_7, w_8, w_9, w_10, w_11, w_12, w_13, w_14⟩ := u
  obtain ⟨hP1, hD1⟩ := hB
  rw [ht] at hP1
  obtain ⟨hP, hD⟩ := rc_focP hP hD [8, 9, 10, 11, 12, 13, 14, 1, 2, 3, 4, 5, 6, 7] [none, some 7, some 8, some 9, some 10, some 11, some 12, some 13, some 0, some 1, some 2, some 3, some 4, some 5, some 6] (by decide) rfl rfl hk1 hP1 rfl
  generalize H1 = H at hP hS ⊢
  have hP : va_P E.1 vwCl (rw_21 E co ro jo qo yo eo cs cl cw rk rh rd rt rl rs jk jh jd jt jl js cWs cKp rSz rTc rFa rPa rPy rMi rMe rSr rZ rKi rHe rDo rTx rLa rSk w_1 w_2 w_3 w_4 w_5 w_6 w_7 w_8 w_9 w_10 w_11 w_12 w_13 w_14 jSk ++ rc_tp E LT pk pv pa pn tc) H := hP
  have hD : va_D A (rw_21 E co ro jo qo yo eo cs cl cw rk rh rd rt rl rs jk jh jd jt jl js cWs cKp rSz rTc rFa rPa rPy rMi rMe rSr rZ rKi rHe rDo rTx rLa rSk w_1 w_2 w_3 w_4 w_5 w_6 w_7 w_8 w_9 w_10 w_11 w_12 w_13 w_14 jSk ++ rc_tp E LT pk pv pa pn tc) := hD
  refine lv_aload_n hx hb dX6_keep_11 rfl (lv_at hl 0 rfl) ?_
  refine lv_iconst (v := 1) hx hb dX6_keep_12 (by decide) ?_
  refine va_put (D := E.1) (ci := 6) (v := .int 1) (ty := .boolean) (C := RX6) (T := TX6) (N := 10) hx hb hts n_X6 tyX6 tyX6_ok nmX6 hown hK hP hD hS 0 rfl rfl 9 (by decide) k_56 (fun _ h9 => h9) rfl (by decide +kernel) (by decide) (by decide) (Nat.le_of_ble_eq_true rfl) dX6_keep_13 (fun H locs hP hD hS => ?_)
  have hP : va_P E.1 vwCl (rw_21 E co ro jo qo yo eo cs cl cw rk rh rd rt rl rs jk jh jd jt jl js cWs 1 rSz rTc rFa rPa rPy rMi rMe rSr rZ rKi rHe rDo rTx rLa rSk w_1 w_2 w_3 w_4 w_5 w_6 w_7 w_8 w_9 w_10 w_11 w_12 w_13 w_14 jSk ++ rc_tp E LT pk pv pa pn tc) H := hP
  have hD : va_D A (rw_21 E co ro jo qo yo eo cs cl cw rk rh rd rt rl rs jk jh jd jt jl js cWs 1 rSz rTc rFa rPa rPy rMi rMe rSr rZ rKi rHe rDo rTx rLa rSk w_1 w_2 w_3 w_4 w_5 w_6 w_7 w_8 w_9 w_10 w_11 w_12 w_13 w_14 jSk ++ rc_tp E LT pk pv pa pn tc) := hD
  refine lv_aload_n hx hb dX6_keep_16 rfl (lv_at hl 0 rfl) ?_
  refine va_get (D := E.1) (ci := 6) (v := .ref jo) (C := RX6) (T := TX6) (N := 10) hx hb hts n_X6 hown hK hP 0 rfl rfl 1 (by decide) k_16 (fun _ h9 => h9) rfl dX6_keep_17 ?_
  refine va_get (D := E.1) (ci := 1) (v := .int w_1) (C := RX1) (T := TX1) (N := 15) hx hb hts n_X1 hown hK hP 8 rfl rfl 3 (by decide) k_71 (fun _ h9 => h9) rfl dX6_keep_20 ?_
  exact hret _ _ _ _ w_1 (1, w_1, w_2, w_3, w_4, w_5, w_6, w_7, w_8, w_9, w_10, w_11, w_12, w_13, w_14) rfl h hP hD hS dX6_keep_23
def wp_X6_back (cKp : Int32) (rSz : Int32) (rTc : Int32) (rFa : Int32) (rPa : Int32) (rPy : Int32) (rMi : Int32) (rMe : Int32) (rSr : Int32) (rZ : Int32) (rKi : Nat → Int32) (rHe : Nat → Int32) (rDo : Nat → Int32) (rTx : Nat → Option Nat) (rLa : Nat → Int32) (jSz : Int32) (jTc : Int32) (jFa : Int32) (jPa : Int32) (jPy : Int32) (jMi : Int32) (jMe : Int32) (jSr : Int32) (jZ : Int32) (jKi : Nat → Int32) (jHe : Nat → Int32) (jDo : Nat → Int32) (jTx : Nat → Option Nat) (jLa : Nat → Int32) (LT : List Nat) (Q : Int32 → Int32 → Int32 → Int32 → Int32 → Int32 → Int32 → Int32 → Int32 → Int32 → (Nat → Int32) → (Nat → Int32) → (Nat → Int32) → (Nat → Option Nat) → (Nat → Int32) → Prop) : Prop :=
  ((¬ cKp = 0 → wp_X1_become rSz rTc rFa rPa rPy rMi rMe rSr rZ rKi rHe rDo rTx rLa jSz jTc jFa jPa jPy jMi jMe jSr jZ jKi jHe jDo jTx jLa LT (fun (w_2 : Int32) (w_3 : Int32) (w_4 : Int32) (w_5 : Int32) (w_6 : Int32) (w_7 : Int32) (w_8 : Int32) (w_9 : Int32) (w_10 : Int32) (w_11 : Nat → Int32) (w_12 : Nat → Int32) (w_13 : Nat → Int32) (w_14 : Nat → Option Nat) (w_15 : Nat → Int32) => Q w_2 w_2 w_3 w_4 w_5 w_6 w_7 w_8 w_9 w_10 w_11 w_12 w_13 w_14 w_15)) ∧ (cKp = 0 → Q (-1000000002) rSz rTc rFa rPa rPy rMi rMe rSr rZ rKi rHe rDo rTx rLa))
set_option maxHeartbeats 4000000 in
set_option maxRecDepth 100000 in
theorem c_X6_back (l : Launch) (E : gE) (co ro jo qo yo eo cs cl cw rk rh rd rt rl rs jk jh jd jt jl js : Nat) (sz : Nat) (cWs : Int32) (cKp : Int32) (rSz : Int32) (rTc : Int32) (rFa : Int32) (rPa : Int32) (rPy : Int32) (rMi : Int32) (rMe : Int32) (rSr : Int32) (rZ : Int32) (rKi : Nat → Int32) (rHe : Nat → Int32) (rDo : Nat → Int32) (rTx : Nat → Option Nat) (rLa : Nat → Int32) (rSk : Nat → Int32) (jSz : Int32) (jTc : Int32) (jFa : Int32) (jPa : Int32) (jPy : Int32) (jMi : Int32) (jMe : Int32) (jSr : Int32) (jZ : Int32) (jKi : Nat → Int32) (jHe : Nat → Int32) (jDo : Nat → Int32) (jTx : Nat → Option Nat) (jLa : Nat → Int32) (jSk : Nat → Int32)  (LT : List Nat) (pk : Nat → Int32) (pv : Nat → Int32) (pa : Nat → Nat) (pn : Nat → Nat) (tc : Nat → Nat → Int32) (Q : Int32 → Int32 → Int32 → Int32 → Int32 → Int32 → Int32 → Int32 → Int32 → Int32 → (Nat → Int32) → (Nat → Int32) → (Nat → Int32) → (Nat → Option Nat) → (Nat → Int32) → Prop) (h : wp_X6_back cKp rSz rTc rFa rPa rPy rMi rMe rSr rZ rKi rHe rDo rTx rLa jSz jTc jFa jPa jPy jMi jMe jSr jZ jKi jHe jDo jTx jLa LT Q) : Met l yX6_back wsX6_back ({ frames := 2, cells := 0, slots := 0, locals := 82 } : Room) (va_Pc [.ref co] (rc_B E (rw_21 E co ro jo qo yo eo cs cl cw rk rh rd rt rl rs jk jh jd jt jl js cWs cKp rSz rTc rFa rPa rPy rMi rMe rSr rZ rKi rHe rDo rTx rLa rSk jSz jTc jFa jPa jPy jMi jMe jSr jZ jKi jHe jDo jTx jLa jSk ++ rc_tp E LT pk pv pa pn tc) sz)) (va_Qi (S := Int32 × Int32 × Int32 × Int32 × Int32 × Int32 × Int32 × Int32 × Int32 × (Nat → Int32) × (Nat → Int32) × (Nat → Int32) × (Nat → Option Nat) × (Nat → Int32)) (fun (r : Int32) (u : Int32 × Int32 × Int32 × Int32 × Int32 × Int32 × Int32 × Int32 × Int32 × (Nat → Int32) × (Nat → Int32) × (Nat → Int32) × (Nat → Option Nat) × (Nat → Int32)) => Q r u.1 u.2.1 u.2.2.1 u.2.2.2.1 u.2.2.2.2.1 u.2.2.2.2.2.1 u.2.2.2.2.2.2.1 u.2.2.2.2.2.2.2.1 u.2.2.2.2.2.2.2.2.1 u.2.2.2.2.2.2.2.2.2.1 u.2.2.2.2.2.2.2.2.2.2.1 u.2.2.2.2.2.2.2.2.2.2.2.1 u.2.2.2.2.2.2.2.2.2.2.2.2.1 u.2.2.2.2.2.2.2.2.2.2.2.2.2) (fun u t => rc_C E (va_A (rw_21 E co ro jo qo yo eo cs cl cw rk rh rd rt rl rs jk jh jd jt jl js cWs cKp rSz rTc rFa rPa rPy rMi rMe rSr rZ rKi rHe rDo rTx rLa rSk jSz jTc jFa jPa jPy jMi jMe jSr jZ jKi jHe jDo jTx jLa jSk ++ rc_tp E LT pk pv pa pn tc) sz) (rw_21 E co ro jo qo yo eo cs cl cw rk rh rd rt rl rs jk jh jd jt jl js cWs cKp u.1 u.2.1 u.2.2.1 u.2.2.2.1 u.2.2.2.2.1 u.2.2.2.2.2.1 u.2.2.2.2.2.2.1 u.2.2.2.2.2.2.2.1 u.2.2.2.2.2.2.2.2.1 u.2.2.2.2.2.2.2.2.2.1 u.2.2.2.2.2.2.2.2.2.2.1 u.2.2.2.2.2.2.2.2.2.2.2.1 u.2.2.2.2.2.2.2.2.2.2.2.2.1 u.2.2.2.2.2.2.2.2.2.2.2.2.2 rSk jSz jTc jFa jPa jPy jMi jMe jSr jZ jKi jHe jDo jTx jLa jSk ++ rc_tp E LT pk pv pa pn tc) t) (va_A (rw_21 E co ro jo qo yo eo cs cl cw rk rh rd rt rl rs jk jh jd jt jl js cWs cKp rSz rTc rFa rPa rPy rMi rMe rSr rZ rKi rHe rDo rTx rLa rSk jSz jTc jFa jPa jPy jMi jMe jSr jZ jKi jHe jDo jTx jLa jSk ++ rc_tp E LT pk pv pa pn tc) sz)) 0 0 (va_A (rw_21 E co ro jo qo yo eo cs cl cw rk rh rd rt rl rs jk jh jd jt jl js cWs cKp rSz rTc rFa rPa rPy rMi rMe rSr rZ rKi rHe rDo rTx rLa rSk jSz jTc jFa jPa jPy jMi jMe jSr jZ jKi jHe jDo jTx jLa jSk ++ rc_tp E LT pk pv pa pn tc) sz) := by
  refine rc_enterI (cc := cX6_back) (maxL := 1) (by decide) rfl (Nat.le_of_ble_eq_true rfl) ?_
  intro p e s m args below meth c QQ A hx hb hml hown hts hmn hE hP hD hA hret ls hl
  have hown : s.vm.findClass RX6 = some m.cls := hown
  have hK := hE.1
  have hS : va_S A s.heap s.heap [] := va_S.rf
  have hl : lv_has ls 1 [(0, .ref co)] := hl
  have n_X1 : ∀ w ∈ wsX10, w ∈ wsX6_back := fun _ h => List.mem_cons_of_mem _ (List.mem_append_right _ h)
  have n_X6 : ∀ w ∈ wsX60, w ∈ wsX6_back := fun _ h => List.mem_cons_of_mem _ (List.mem_append_left _ (List.mem_append_right _ h))
  have k_56 := hts (.fieldLink RX6 56 "RidgeClaps" "kept" "Z") (List.mem_of_getElem? (i := 1) rfl)
  have k_10 := hts (.fieldLink RX6 10 "RidgeClaps" "ridge" "LRidgeClaps$Ridge;") (List.mem_of_getElem? (i := 3) rfl)
  have k_16 := hts (.fieldLink RX6 16 "RidgeClaps" "image" "LRidgeClaps$Ridge;") (List.mem_of_getElem? (i := 4) rfl)
  have k_71 := hts (.fieldLink RX6 71 "RidgeClaps$Ridge" "size" "I") (List.mem_of_getElem? (i := 5) rfl)
  have k_137 := hts (.constant RX6 137 (-1000000002)) (List.mem_of_getElem? (i := 2) rfl)
  unfold wp_X6_back at h
  obtain ⟨H, hH⟩ : ∃ H, H = s.heap := ⟨_, rfl⟩
  obtain ⟨locs, hlocs⟩ : ∃ locs : List Loc, locs = [] := ⟨_, rfl⟩
  have hP : va_P E.1 vwCl (rw_21 E co ro jo qo yo eo cs cl cw rk rh rd rt rl rs jk jh jd jt jl js cWs cKp rSz rTc rFa rPa rPy rMi rMe rSr rZ rKi rHe rDo rTx rLa rSk jSz jTc jFa jPa jPy jMi jMe jSr jZ jKi jHe jDo jTx jLa jSk ++ rc_tp E LT pk pv pa pn tc) H := by rw [hH]; exact hP
  have hS : va_S A s.heap H locs := by rw [hH, hlocs]; exact hS
  suffices hgo : W p l e ({ frames := 2, cells := 0, slots := 0, locals := 82 } : Room) s m args below meth c H locs 0 0 QQ (F0 m 0 ls []) from by rw [hH, hlocs] at hgo; exact hgo
  refine lv_aload_n hx hb dX6_back_0 rfl (lv_at hl 0 rfl) ?_
  refine va_get (D := E.1) (ci := 6) (v := .int cKp) (C := RX6) (T := TX6) (N := 10) hx hb hts n_X6 hown hK hP 0 rfl rfl 9 (by decide) k_56 (fun _ h9 => h9) rfl dX6_back_1 ?_
  refine lv_if_ne (tgt := 10) hx hb dX6_back_4 (by decide) (fun c_1 => ?_) (fun c_1 => ?_)
  · have h := h.1 c_1
    refine lv_aload_n hx hb dX6_back_10 rfl (lv_at hl 0 rfl) ?_
    refine va_get (D := E.1) (ci := 6) (v := .ref ro) (C := RX6) (T := TX6) (N := 10) hx hb hts n_X6 hown hK hP 0 rfl rfl 0 (by decide) k_10 (fun _ h9 => h9) rfl dX6_back_11 ?_
    refine lv_aload_n hx hb dX6_back_14 rfl (lv_at hl 0 rfl) ?_
    refine va_get (D := E.1) (ci := 6) (v := .ref jo) (C := RX6) (T := TX6) (N := 10) hx hb hts n_X6 hown hK hP 0 rfl rfl 1 (by decide) k_16 (fun _ h9 => h9) rfl dX6_back_15 ?_
    have hPc := hP.part (cx := (rw_6 E ro rk rh rd rt rl rs jo jk jh jd jt jl js rSz rTc rFa rPa rPy rMi rMe rSr rZ rKi rHe rDo rTx rLa rSk jSz jTc jFa jPa jPy jMi jMe jSr jZ jKi jHe jDo jTx jLa jSk)) [1, 2, 3, 4, 5, 6, 7, 8, 9, 10, 11, 12, 13, 14] rfl
    have hDc := hD.part (cx := (rw_6 E ro rk rh rd rt rl rs jo jk jh jd jt jl js rSz rTc rFa rPa rPy rMi rMe rSr rZ rKi rHe rDo rTx rLa rSk jSz jTc jFa jPa jPy jMi jMe jSr jZ jKi jHe jDo jTx jLa jSk)) [1, 2, 3, 4, 5, 6, 7, 8, 9, 10, 11, 12, 13, 14] (by decide) rfl
    have hFc := va_freeP (cx := (rw_6 E ro rk rh rd rt rl rs jo jk jh jd jt jl js rSz rTc rFa rPa rPy rMi rMe rSr rZ rKi rHe rDo rTx rLa rSk jSz jTc jFa jPa jPy jMi jMe jSr jZ jKi jHe jDo jTx jLa jSk)) hD hS hA [1, 2, 3, 4, 5, 6, 7, 8, 9, 10, 11, 12, 13, 14] rfl
    refine va_callv (va_runV (As := [.ref jo]) (rest := []) ⟨hx, hb, hml, hown, hts⟩ (c_X1_become l E ro rk rh rd rt rl rs jo jk jh jd jt jl js H.size rSz rTc rFa rPa rPy rMi rMe rSr rZ rKi rHe rDo rTx rLa rSk jSz jTc jFa jPa jPy jMi jMe jSr jZ jKi jHe jDo jTx jLa jSk LT pk pv pa pn tc _ h) (cwV 1 hts gX6_back_X1_become rfl rfl rfl (by decide +kernel) ⟨Nat.le_of_ble_eq_true rfl, Nat.le_of_ble_eq_true rfl⟩) ⟨fun a U g mk q => ⟨q.1, q.2.blind⟩, va_recv hK hPc (ci := 1) (q0 := 0) rfl rfl, fun U hU hW => ⟨rfl, by rw [hU], by rw [hU]; exact hPc, hE.call hS hFc hW hU, hDc.weaken (fun _ _ _ _ => trivial)⟩⟩ rfl rfl hl.1 rfl (lv_room (Nat.le_of_ble_eq_true rfl)) dX6_back_18 ⟨Nat.zero_le _, Nat.zero_le _⟩) hS (fun q _ h => hFc q h) hFc (fun u t H1 locs ht hvm h hB hz1 hk1 hS => ?_)
    obtain ⟨w_2, w_3, w_4, w_5, w_6, w_7, w_8, w_9, w_10, w_11, w_12, w_13, w_14, w_15⟩ := u
    obtain ⟨hP1, hD1⟩ := hB
    rw [ht] at hP1
    obtain ⟨hP, hD⟩ := rc_focP hP hD [1, 2, 3, 4, 5, 6, 7, 8, 9, 10, 11, 12, 13, 14] [none, some 0, some 1, some 2, some 3, some 4, some 5, some 6, some 7, some 8, some 9, some 10, some 11, some 12, some 13] (by decide) rfl rfl hk1 hP1 rfl
    generalize H1 = H at hP hS ⊢
    have hP : va_P E.1 vwCl (rw_21 E co ro jo qo yo eo cs cl cw rk rh rd rt rl rs jk jh jd jt jl js cWs cKp w_2 w_3 w_4 w_5 w_6 w_7 w_8 w_9 w_10 w_11 w_12 w_13 w_14 w_15 rSk jSz jTc jFa jPa jPy jMi jMe jSr jZ jKi jHe jDo jTx jLa jSk ++ rc_tp E LT pk pv pa pn tc) H := hP
    have hD : va_D A (rw_21 E co ro jo qo yo eo cs cl cw rk rh rd rt rl rs jk jh jd jt jl js cWs cKp w_2 w_3 w_4 w_5 w_6 w_7 w_8 w_9 w_10 w_11 w_12 w_13 w_14 w_15 rSk jSz jTc jFa jPa jPy jMi jMe jSr jZ jKi jHe jDo jTx jLa jSk ++ rc_tp E LT pk pv pa pn tc) := hD
    refine lv_aload_n hx hb dX6_back_21 rfl (lv_at hl 0 rfl) ?_
    refine va_get (D := E.1) (ci := 6) (v := .ref ro) (C := RX6) (T := TX6) (N := 10) hx hb hts n_X6 hown hK hP 0 rfl rfl 0 (by decide) k_10 (fun _ h9 => h9) rfl dX6_back_22 ?_
    refine va_get (D := E.1) (ci := 1) (v := .int w_2) (C := RX1) (T := TX1) (N := 15) hx hb hts n_X1 hown hK hP 1 rfl rfl 3 (by decide) k_71 (fun _ h9 => h9) rfl dX6_back_25 ?_
    exact hret _ _ _ _ w_2 (w_2, w_3, w_4, w_5, w_6, w_7, w_8, w_9, w_10, w_11, w_12, w_13, w_14, w_15) rfl h hP hD hS dX6_back_28
  · have h := h.2 c_1
    refine lv_ldc hx hb hown k_137 dX6_back_7 ?_
    exact hret _ _ _ _ (-1000000002) (rSz, rTc, rFa, rPa, rPy, rMi, rMe, rSr, rZ, rKi, rHe, rDo, rTx, rLa) rfl h hP hD hS dX6_back_9
def wp_X6_count (p1 : Int32) (cWs : Int32) (rSz : Int32) (rTc : Int32) (rFa : Int32) (rPa : Int32) (rPy : Int32) (rMi : Int32) (rMe : Int32) (rSr : Int32) (rZ : Int32) (eLn : Int32) (Q : Int32 → Prop) : Prop :=
  ((p1 = 0 → Q rSz) ∧ ((p1 = 1 → Q rPy) ∧ ((p1 = 2 → Q rMi) ∧ ((p1 = 3 → Q rFa) ∧ ((p1 = 4 → Q rPa) ∧ ((p1 = 5 → Q rMe) ∧ ((p1 = 6 → Q rSr) ∧ ((p1 = 7 → Q rTc) ∧ ((p1 = 8 → Q cWs) ∧ ((p1 = 9 → Q eLn) ∧ ((p1 = 10 → Q rZ) ∧ (¬ p1 = 0 ∧ ¬ p1 = 1 ∧ ¬ p1 = 2 ∧ ¬ p1 = 3 ∧ ¬ p1 = 4 ∧ ¬ p1 = 5 ∧ ¬ p1 = 6 ∧ ¬ p1 = 7 ∧ ¬ p1 = 8 ∧ ¬ p1 = 9 ∧ ¬ p1 = 10 → Q (-1000000001)))))))))))))
set_option maxHeartbeats 4000000 in
set_option maxRecDepth 100000 in
theorem c_X6_count (l : Launch) (E : gE) (co ro jo qo yo eo cs cl cw rk rh rd rt rl rs eb ec : Nat) (sz : Nat) (cWs : Int32) (cKp : Int32) (rSz : Int32) (rTc : Int32) (rFa : Int32) (rPa : Int32) (rPy : Int32) (rMi : Int32) (rMe : Int32) (rSr : Int32) (rZ : Int32) (rKi : Nat → Int32) (rHe : Nat → Int32) (rDo : Nat → Int32) (rTx : Nat → Option Nat) (rLa : Nat → Int32) (rSk : Nat → Int32) (eLn : Int32) (eFt : Int32) (eCc : Int32) (eKy : Int32) (eLv : Int32) (eOb : Int32) (eOn : Int32) (eSt : Int32) (eEd : Int32) (eSo : Int32) (eBy : Nat → Int32) (eCo : Nat → Int32) (p1 : Int32) (LT : List Nat) (pk : Nat → Int32) (pv : Nat → Int32) (pa : Nat → Nat) (pn : Nat → Nat) (tc : Nat → Nat → Int32) (Q : Int32 → Prop) (h : wp_X6_count p1 cWs rSz rTc rFa rPa rPy rMi rMe rSr rZ eLn Q) : Met l yX6_count wsX6_count ({ frames := 0, cells := 0, slots := 0, locals := 0 } : Room) (va_Pc [.ref co, .int p1] (rc_B E (rw_22 E co ro jo qo yo eo cs cl cw rk rh rd rt rl rs eb ec cWs cKp rSz rTc rFa rPa rPy rMi rMe rSr rZ rKi rHe rDo rTx rLa rSk eLn eFt eCc eKy eLv eOb eOn eSt eEd eSo eBy eCo ++ rc_tp E LT pk pv pa pn tc) sz)) (va_Qi (S := Unit) (fun (r : Int32) (u : Unit) => Q r) (fun u t => rc_C E (va_A (rw_22 E co ro jo qo yo eo cs cl cw rk rh rd rt rl rs eb ec cWs cKp rSz rTc rFa rPa rPy rMi rMe rSr rZ rKi rHe rDo rTx rLa rSk eLn eFt eCc eKy eLv eOb eOn eSt eEd eSo eBy eCo ++ rc_tp E LT pk pv pa pn tc) sz) (rw_22 E co ro jo qo yo eo cs cl cw rk rh rd rt rl rs eb ec cWs cKp rSz rTc rFa rPa rPy rMi rMe rSr rZ rKi rHe rDo rTx rLa rSk eLn eFt eCc eKy eLv eOb eOn eSt eEd eSo eBy eCo ++ rc_tp E LT pk pv pa pn tc) t) (va_A (rw_22 E co ro jo qo yo eo cs cl cw rk rh rd rt rl rs eb ec cWs cKp rSz rTc rFa rPa rPy rMi rMe rSr rZ rKi rHe rDo rTx rLa rSk eLn eFt eCc eKy eLv eOb eOn eSt eEd eSo eBy eCo ++ rc_tp E LT pk pv pa pn tc) sz)) 0 0 (va_A (rw_22 E co ro jo qo yo eo cs cl cw rk rh rd rt rl rs eb ec cWs cKp rSz rTc rFa rPa rPy rMi rMe rSr rZ rKi rHe rDo rTx rLa rSk eLn eFt eCc eKy eLv eOb eOn eSt eEd eSo eBy eCo ++ rc_tp E LT pk pv pa pn tc) sz) := by
  refine rc_enterI (cc := cX6_count) (maxL := 2) (by decide) rfl (Nat.le_of_ble_eq_true rfl) ?_
  intro p e s m args below meth c QQ A hx hb hml hown hts hmn hE hP hD hA hret ls hl
  have hown : s.vm.findClass RX6 = some m.cls := hown
  have hK := hE.1
  have hS : va_S A s.heap s.heap [] := va_S.rf
  have hl : lv_has ls 2 [(0, .ref co), (1, .int p1)] := hl
  have n_X0 : ∀ w ∈ wsX00, w ∈ wsX6_count := fun _ h => List.mem_cons_of_mem _ (List.mem_append_right _ h)
  have n_X1 : ∀ w ∈ wsX10, w ∈ wsX6_count := fun _ h => List.mem_cons_of_mem _ (List.mem_append_left _ (List.mem_append_right _ h))
  have n_X6 : ∀ w ∈ wsX60, w ∈ wsX6_count := fun _ h => List.mem_cons_of_mem _ (List.mem_append_left _ (List.mem_append_left _ (List.mem_append_right _ h)))
  have k_10 := hts (.fieldLink RX6 10 "RidgeClaps" "ridge" "LRidgeClaps$Ridge;") (List.mem_of_getElem? (i := 1) rfl)
  have k_71 := hts (.fieldLink RX6 71 "RidgeClaps$Ridge" "size" "I") (List.mem_of_getElem? (i := 2) rfl)
  have k_131 := hts (.fieldLink RX6 131 "RidgeClaps$Ridge" "party" "I") (List.mem_of_getElem? (i := 3) rfl)
  have k_138 := hts (.fieldLink RX6 138 "RidgeClaps$Ridge" "minute" "I") (List.mem_of_getElem? (i := 4) rfl)
  have k_115 := hts (.fieldLink RX6 115 "RidgeClaps$Ridge" "far" "I") (List.mem_of_getElem? (i := 5) rfl)
  have k_118 := hts (.fieldLink RX6 118 "RidgeClaps$Ridge" "pace" "I") (List.mem_of_getElem? (i := 6) rfl)
  have k_303 := hts (.fieldLink RX6 303 "RidgeClaps$Ridge" "met" "I") (List.mem_of_getElem? (i := 7) rfl)
  have k_309 := hts (.fieldLink RX6 309 "RidgeClaps$Ridge" "struck" "I") (List.mem_of_getElem? (i := 8) rfl)
  have k_215 := hts (.fieldLink RX6 215 "RidgeClaps$Ridge" "textCount" "I") (List.mem_of_getElem? (i := 9) rfl)
  have k_52 := hts (.fieldLink RX6 52 "RidgeClaps" "waits" "I") (List.mem_of_getElem? (i := 10) rfl)
  have k_32 := hts (.fieldLink RX6 32 "RidgeClaps" "reader" "LRidgeClaps$Reader;") (List.mem_of_getElem? (i := 11) rfl)
  have k_202 := hts (.fieldLink RX6 202 "RidgeClaps$Reader" "length" "I") (List.mem_of_getElem? (i := 12) rfl)
  have k_112 := hts (.fieldLink RX6 112 "RidgeClaps$Ridge" "z" "I") (List.mem_of_getElem? (i := 13) rfl)
  have k_70 := hts (.constant RX6 70 (-1000000001)) (List.mem_of_getElem? (i := 14) rfl)
  unfold wp_X6_count at h
  obtain ⟨H, hH⟩ : ∃ H, H = s.heap := ⟨_, rfl⟩
  obtain ⟨locs, hlocs⟩ : ∃ locs : List Loc, locs = [] := ⟨_, rfl⟩
  have hP : va_P E.1 vwCl (rw_22 E co ro jo qo yo eo cs cl cw rk rh rd rt rl rs eb ec cWs cKp rSz rTc rFa rPa rPy rMi rMe rSr rZ rKi rHe rDo rTx rLa rSk eLn eFt eCc eKy eLv eOb eOn eSt eEd eSo eBy eCo ++ rc_tp E LT pk pv pa pn tc) H := by rw [hH]; exact hP
  have hS : va_S A s.heap H locs := by rw [hH, hlocs]; exact hS
  suffices hgo : W p l e ({ frames := 0, cells := 0, slots := 0, locals := 0 } : Room) s m args below meth c H locs 0 0 QQ (F0 m 0 ls []) from by rw [hH, hlocs] at hgo; exact hgo
  refine lv_iload_n hx hb dX6_count_0 rfl (lv_at hl 1 rfl) ?_
  by_cases c_1_0 : p1 = 0
  · have h := h.1 c_1_0
    refine lv_tableIn (tgt := 60) hx hb dX6_count_1 (by rw [c_1_0]; decide) (by rw [c_1_0]; decide) (by rw [c_1_0]; rfl) (by decide) ?_
    refine lv_aload_n hx hb dX6_count_60 rfl (lv_at hl 0 rfl) ?_
    refine va_get (D := E.1) (ci := 6) (v := .ref ro) (C := RX6) (T := TX6) (N := 10) hx hb hts n_X6 hown hK hP 0 rfl rfl 0 (by decide) k_10 (fun _ h9 => h9) rfl dX6_count_61 ?_
    refine va_get (D := E.1) (ci := 1) (v := .int rSz) (C := RX1) (T := TX1) (N := 15) hx hb hts n_X1 hown hK hP 1 rfl rfl 3 (by decide) k_71 (fun _ h9 => h9) rfl dX6_count_64 ?_
    exact hret _ _ _ _ rSz () rfl h hP hD hS dX6_count_67
  · by_cases c_1_1 : p1 = 1
    · have h := h.2.1 c_1_1
      refine lv_tableIn (tgt := 68) hx hb dX6_count_1 (by rw [c_1_1]; decide) (by rw [c_1_1]; decide) (by rw [c_1_1]; rfl) (by decide) ?_
      refine lv_aload_n hx hb dX6_count_68 rfl (lv_at hl 0 rfl) ?_
      refine va_get (D := E.1) (ci := 6) (v := .ref ro) (C := RX6) (T := TX6) (N := 10) hx hb hts n_X6 hown hK hP 0 rfl rfl 0 (by decide) k_10 (fun _ h9 => h9) rfl dX6_count_69 ?_
      refine va_get (D := E.1) (ci := 1) (v := .int rPy) (C := RX1) (T := TX1) (N := 15) hx hb hts n_X1 hown hK hP 1 rfl rfl 9 (by decide) k_131 (fun _ h9 => h9) rfl dX6_count_72 ?_
      exact hret _ _ _ _ rPy () rfl h hP hD hS dX6_count_75
    · by_cases c_1_2 : p1 = 2
      · have h := h.2.2.1 c_1_2
        refine lv_tableIn (tgt := 76) hx hb dX6_count_1 (by rw [c_1_2]; decide) (by rw [c_1_2]; decide) (by rw [c_1_2]; rfl) (by decide) ?_
        refine lv_aload_n hx hb dX6_count_76 rfl (lv_at hl 0 rfl) ?_
        refine va_get (D := E.1) (ci := 6) (v := .ref ro) (C := RX6) (T := TX6) (N := 10) hx hb hts n_X6 hown hK hP 0 rfl rfl 0 (by decide) k_10 (fun _ h9 => h9) rfl dX6_count_77 ?_
        refine va_get (D := E.1) (ci := 1) (v := .int rMi) (C := RX1) (T := TX1) (N := 15) hx hb hts n_X1 hown hK hP 1 rfl rfl 10 (by decide) k_138 (fun _ h9 => h9) rfl dX6_count_80 ?_
        exact hret _ _ _ _ rMi () rfl h hP hD hS dX6_count_83
      · by_cases c_1_3 : p1 = 3
        · have h := h.2.2.2.1 c_1_3
          refine lv_tableIn (tgt := 84) hx hb dX6_count_1 (by rw [c_1_3]; decide) (by rw [c_1_3]; decide) (by rw [c_1_3]; rfl) (by decide) ?_
          refine lv_aload_n hx hb dX6_count_84 rfl (lv_at hl 0 rfl) ?_
          refine va_get (D := E.1) (ci := 6) (v := .ref ro) (C := RX6) (T := TX6) (N := 10) hx hb hts n_X6 hown hK hP 0 rfl rfl 0 (by decide) k_10 (fun _ h9 => h9) rfl dX6_count_85 ?_
          refine va_get (D := E.1) (ci := 1) (v := .int rFa) (C := RX1) (T := TX1) (N := 15) hx hb hts n_X1 hown hK hP 1 rfl rfl 7 (by decide) k_115 (fun _ h9 => h9) rfl dX6_count_88 ?_
          exact hret _ _ _ _ rFa () rfl h hP hD hS dX6_count_91
        · by_cases c_1_4 : p1 = 4
          · have h := h.2.2.2.2.1 c_1_4
            refine lv_tableIn (tgt := 92) hx hb dX6_count_1 (by rw [c_1_4]; decide) (by rw [c_1_4]; decide) (by rw [c_1_4]; rfl) (by decide) ?_
            refine lv_aload_n hx hb dX6_count_92 rfl (lv_at hl 0 rfl) ?_
            refine va_get (D := E.1) (ci := 6) (v := .ref ro) (C := RX6) (T := TX6) (N := 10) hx hb hts n_X6 hown hK hP 0 rfl rfl 0 (by decide) k_10 (fun _ h9 => h9) rfl dX6_count_93 ?_
            refine va_get (D := E.1) (ci := 1) (v := .int rPa) (C := RX1) (T := TX1) (N := 15) hx hb hts n_X1 hown hK hP 1 rfl rfl 8 (by decide) k_118 (fun _ h9 => h9) rfl dX6_count_96 ?_
            exact hret _ _ _ _ rPa () rfl h hP hD hS dX6_count_99
          · by_cases c_1_5 : p1 = 5
            · have h := h.2.2.2.2.2.1 c_1_5
              refine lv_tableIn (tgt := 100) hx hb dX6_count_1 (by rw [c_1_5]; decide) (by rw [c_1_5]; decide) (by rw [c_1_5]; rfl) (by decide) ?_
              refine lv_aload_n hx hb dX6_count_100 rfl (lv_at hl 0 rfl) ?_
              refine va_get (D := E.1) (ci := 6) (v := .ref ro) (C := RX6) (T := TX6) (N := 10) hx hb hts n_X6 hown hK hP 0 rfl rfl 0 (by decide) k_10 (fun _ h9 => h9) rfl dX6_count_101 ?_
              refine va_get (D := E.1) (ci := 1) (v := .int rMe) (C := RX1) (T := TX1) (N := 15) hx hb hts n_X1 hown hK hP 1 rfl rfl 11 (by decide) k_303 (fun _ h9 => h9) rfl dX6_count_104 ?_
              exact hret _ _ _ _ rMe () rfl h hP hD hS dX6_count_107
            · by_cases c_1_6 : p1 = 6
              · have h := h.2.2.2.2.2.2.1 c_1_6
                refine lv_tableIn (tgt := 108) hx hb dX6_count_1 (by rw [c_1_6]; decide) (by rw [c_1_6]; decide) (by rw [c_1_6]; rfl) (by decide) ?_
                refine lv_aload_n hx hb dX6_count_108 rfl (lv_at hl 0 rfl) ?_
                refine va_get (D := E.1) (ci := 6) (v := .ref ro) (C := RX6) (T := TX6) (N := 10) hx hb hts n_X6 hown hK hP 0 rfl rfl 0 (by decide) k_10 (fun _ h9 => h9) rfl dX6_count_109 ?_
                refine va_get (D := E.1) (ci := 1) (v := .int rSr) (C := RX1) (T := TX1) (N := 15) hx hb hts n_X1 hown hK hP 1 rfl rfl 12 (by decide) k_309 (fun _ h9 => h9) rfl dX6_count_112 ?_
                exact hret _ _ _ _ rSr () rfl h hP hD hS dX6_count_115
              · by_cases c_1_7 : p1 = 7
                · have h := h.2.2.2.2.2.2.2.1 c_1_7
                  refine lv_tableIn (tgt := 116) hx hb dX6_count_1 (by rw [c_1_7]; decide) (by rw [c_1_7]; decide) (by rw [c_1_7]; rfl) (by decide) ?_
                  refine lv_aload_n hx hb dX6_count_116 rfl (lv_at hl 0 rfl) ?_
                  refine va_get (D := E.1) (ci := 6) (v := .ref ro) (C := RX6) (T := TX6) (N := 10) hx hb hts n_X6 hown hK hP 0 rfl rfl 0 (by decide) k_10 (fun _ h9 => h9) rfl dX6_count_117 ?_
                  refine va_get (D := E.1) (ci := 1) (v := .int rTc) (C := RX1) (T := TX1) (N := 15) hx hb hts n_X1 hown hK hP 1 rfl rfl 5 (by decide) k_215 (fun _ h9 => h9) rfl dX6_count_120 ?_
                  exact hret _ _ _ _ rTc () rfl h hP hD hS dX6_count_123
                · by_cases c_1_8 : p1 = 8
                  · have h := h.2.2.2.2.2.2.2.2.1 c_1_8
                    refine lv_tableIn (tgt := 124) hx hb dX6_count_1 (by rw [c_1_8]; decide) (by rw [c_1_8]; decide) (by rw [c_1_8]; rfl) (by decide) ?_
                    refine lv_aload_n hx hb dX6_count_124 rfl (lv_at hl 0 rfl) ?_
                    refine va_get (D := E.1) (ci := 6) (v := .int cWs) (C := RX6) (T := TX6) (N := 10) hx hb hts n_X6 hown hK hP 0 rfl rfl 8 (by decide) k_52 (fun _ h9 => h9) rfl dX6_count_125 ?_
                    exact hret _ _ _ _ cWs () rfl h hP hD hS dX6_count_128
                  · by_cases c_1_9 : p1 = 9
                    · have h := h.2.2.2.2.2.2.2.2.2.1 c_1_9
                      refine lv_tableIn (tgt := 129) hx hb dX6_count_1 (by rw [c_1_9]; decide) (by rw [c_1_9]; decide) (by rw [c_1_9]; rfl) (by decide) ?_
                      refine lv_aload_n hx hb dX6_count_129 rfl (lv_at hl 0 rfl) ?_
                      refine va_get (D := E.1) (ci := 6) (v := .ref eo) (C := RX6) (T := TX6) (N := 10) hx hb hts n_X6 hown hK hP 0 rfl rfl 4 (by decide) k_32 (fun _ h9 => h9) rfl dX6_count_130 ?_
                      refine va_get (D := E.1) (ci := 0) (v := .int eLn) (C := RX0) (T := TX0) (N := 12) hx hb hts n_X0 hown hK hP 8 rfl rfl 1 (by decide) k_202 (fun _ h9 => h9) rfl dX6_count_133 ?_
                      exact hret _ _ _ _ eLn () rfl h hP hD hS dX6_count_136
                    · by_cases c_1_10 : p1 = 10
                      · have h := h.2.2.2.2.2.2.2.2.2.2.1 c_1_10
                        refine lv_tableIn (tgt := 137) hx hb dX6_count_1 (by rw [c_1_10]; decide) (by rw [c_1_10]; decide) (by rw [c_1_10]; rfl) (by decide) ?_
                        refine lv_aload_n hx hb dX6_count_137 rfl (lv_at hl 0 rfl) ?_
                        refine va_get (D := E.1) (ci := 6) (v := .ref ro) (C := RX6) (T := TX6) (N := 10) hx hb hts n_X6 hown hK hP 0 rfl rfl 0 (by decide) k_10 (fun _ h9 => h9) rfl dX6_count_138 ?_
                        refine va_get (D := E.1) (ci := 1) (v := .int rZ) (C := RX1) (T := TX1) (N := 15) hx hb hts n_X1 hown hK hP 1 rfl rfl 13 (by decide) k_112 (fun _ h9 => h9) rfl dX6_count_141 ?_
                        exact hret _ _ _ _ rZ () rfl h hP hD hS dX6_count_144
                      · have h := h.2.2.2.2.2.2.2.2.2.2.2 ⟨c_1_0, c_1_1, c_1_2, c_1_3, c_1_4, c_1_5, c_1_6, c_1_7, c_1_8, c_1_9, c_1_10⟩
                        refine lv_tableOut (tgt := 145) hx hb dX6_count_1 (rc_swo (0) 11 (fun k hk => by match k, hk with | 0, _ => exact lv_neT c_1_0 (by decide) | 1, _ => exact lv_neT c_1_1 (by decide) | 2, _ => exact lv_neT c_1_2 (by decide) | 3, _ => exact lv_neT c_1_3 (by decide) | 4, _ => exact lv_neT c_1_4 (by decide) | 5, _ => exact lv_neT c_1_5 (by decide) | 6, _ => exact lv_neT c_1_6 (by decide) | 7, _ => exact lv_neT c_1_7 (by decide) | 8, _ => exact lv_neT c_1_8 (by decide) | 9, _ => exact lv_neT c_1_9 (by decide) | 10, _ => exact lv_neT c_1_10 (by decide))) (by decide) ?_
                        refine lv_ldc hx hb hown k_70 dX6_count_145 ?_
                        exact hret _ _ _ _ (-1000000001) () rfl h hP hD hS dX6_count_147
