def wp_X6_place (p1 : Int32) (p2 : Int32) (rSz : Int32) (rKi : Nat → Int32) (rHe : Nat → Int32) (rDo : Nat → Int32) (Q : Int32 → Int32 → (Nat → Int32) → (Nat → Int32) → (Nat → Int32) → Prop) : Prop :=
  wp_X6_isKind p1 (fun (r_1 : Int32) => ((r_1 = 0 → Q (-1000000001) rSz rKi rHe rDo) ∧ (¬ (r_1 = 0) → wp_X6_within p2 0 99 (fun (r_3 : Int32) => ((¬ r_3 = 0 → ((rSz < 24 → wp_X1_append p1 p2 0 rSz rKi rHe rDo (fun (r_6 : Int32) (w_7 : Int32) (w_8 : Nat → Int32) (w_9 : Nat → Int32) (w_10 : Nat → Int32) => Q r_6 w_7 w_8 w_9 w_10)) ∧ (¬ (rSz < 24) → Q (-1000000003) rSz rKi rHe rDo))) ∧ (r_3 = 0 → Q (-1000000001) rSz rKi rHe rDo))))))
set_option maxHeartbeats 4000000 in
set_option maxRecDepth 100000 in
theorem c_X6_place (l : Launch) (E : gE) (co ro jo qo yo eo cs cl cw rk rh rd rt rl rs : Nat) (sz : Nat) (cWs : Int32) (cKp : Int32) (rSz : Int32) (rTc : Int32) (rFa : Int32) (rPa : Int32) (rPy : Int32) (rMi : Int32) (rMe : Int32) (rSr : Int32) (rZ : Int32) (rKi : Nat → Int32) (rHe : Nat → Int32) (rDo : Nat → Int32) (rTx : Nat → Option Nat) (rLa : Nat → Int32) (rSk : Nat → Int32) (p1 p2 : Int32) (LT : List Nat) (pk : Nat → Int32) (pv : Nat → Int32) (pa : Nat → Nat) (pn : Nat → Nat) (tc : Nat → Nat → Int32) (Q : Int32 → Int32 → (Nat → Int32) → (Nat → Int32) → (Nat → Int32) → Prop) (h : wp_X6_place p1 p2 rSz rKi rHe rDo Q) : Met l yX6_place wsX6_place ({ frames := 1, cells := 0, slots := 0, locals := 24 } : Room) (va_Pc [.ref co, .int p1, .int p2] (rc_B E (rw_8 E co ro jo qo yo eo cs cl cw rk rh rd rt rl rs cWs cKp rSz rTc rFa rPa rPy rMi rMe rSr rZ rKi rHe rDo rTx rLa rSk ++ rc_tp E LT pk pv pa pn tc) sz)) (va_Qi (S := Int32 × (Nat → Int32) × (Nat → Int32) × (Nat → Int32)) (fun (r : Int32) (u : Int32 × (Nat → Int32) × (Nat → Int32) × (Nat → Int32)) => Q r u.1 u.2.1 u.2.2.1 u.2.2.2) (fun u t => rc_C E (va_A (rw_8 E co ro jo qo yo eo cs cl cw rk rh rd rt rl rs cWs cKp rSz rTc rFa rPa rPy rMi rMe rSr rZ rKi rHe rDo rTx rLa rSk ++ rc_tp E LT pk pv pa pn tc) sz) (rw_8 E co ro jo qo yo eo cs cl cw rk rh rd rt rl rs cWs cKp u.1 rTc rFa rPa rPy rMi rMe rSr rZ u.2.1 u.2.2.1 u.2.2.2 rTx rLa rSk ++ rc_tp E LT pk pv pa pn tc) t) (va_A (rw_8 E co ro jo qo yo eo cs cl cw rk rh rd rt rl rs cWs cKp rSz rTc rFa rPa rPy rMi rMe rSr rZ rKi rHe rDo rTx rLa rSk ++ rc_tp E LT pk pv pa pn tc) sz)) 0 0 (va_A (rw_8 E co ro jo qo yo eo cs cl cw rk rh rd rt rl rs cWs cKp rSz rTc rFa rPa rPy rMi rMe rSr rZ rKi rHe rDo rTx rLa rSk ++ rc_tp E LT pk pv pa pn tc) sz) := by
  refine rc_enterI (cc := cX6_place) (maxL := 3) (by decide) rfl (Nat.le_of_ble_eq_true rfl) ?_
  intro p e s m args below meth c QQ A hx hb hml hown hts hmn hE hP hD hA hret ls hl
  have hown : s.vm.findClass RX6 = some m.cls := hown
  have hK := hE.1
  have hS : va_S A s.heap s.heap [] := va_S.rf
  have hl : lv_has ls 3 [(0, .ref co), (1, .int p1), (2, .int p2)] := hl
  have n_X1 : ∀ w ∈ wsX10, w ∈ wsX6_place := fun _ h => List.mem_cons_of_mem _ (List.mem_append_right _ h)
  have n_X6 : ∀ w ∈ wsX60, w ∈ wsX6_place := fun _ h => List.mem_cons_of_mem _ (List.mem_append_left _ (List.mem_append_right _ h))
  have k_70 := hts (.constant RX6 70 (-1000000001)) (List.mem_of_getElem? (i := 1) rfl)
  have k_10 := hts (.fieldLink RX6 10 "RidgeClaps" "ridge" "LRidgeClaps$Ridge;") (List.mem_of_getElem? (i := 2) rfl)
  have k_71 := hts (.fieldLink RX6 71 "RidgeClaps$Ridge" "size" "I") (List.mem_of_getElem? (i := 3) rfl)
  have k_74 := hts (.constant RX6 74 (-1000000003)) (List.mem_of_getElem? (i := 4) rfl)
  unfold wp_X6_place at h
  obtain ⟨H, hH⟩ : ∃ H, H = s.heap := ⟨_, rfl⟩
  obtain ⟨locs, hlocs⟩ : ∃ locs : List Loc, locs = [] := ⟨_, rfl⟩
  have hP : va_P E.1 vwCl (rw_8 E co ro jo qo yo eo cs cl cw rk rh rd rt rl rs cWs cKp rSz rTc rFa rPa rPy rMi rMe rSr rZ rKi rHe rDo rTx rLa rSk ++ rc_tp E LT pk pv pa pn tc) H := by rw [hH]; exact hP
  have hS : va_S A s.heap H locs := by rw [hH, hlocs]; exact hS
  suffices hgo : W p l e ({ frames := 1, cells := 0, slots := 0, locals := 24 } : Room) s m args below meth c H locs 0 0 QQ (F0 m 0 ls []) from by rw [hH, hlocs] at hgo; exact hgo
  refine lv_iload_n hx hb dX6_place_0 rfl (lv_at hl 1 rfl) ?_
  have hPc := hP.sub (ws' := []) [] rfl
  have hDc := hD.sub (ws' := []) [] (by decide) rfl
  have hFc := va_free (wc := []) hD hS hA [] rfl
  refine va_calli (va_runS (As := [.int p1]) (rest := []) ⟨hx, hb, hml, hown, hts⟩ (c_X6_isKind l E H.size p1 _ h) (va_cwS 1 hts gX6_place_X6_isKind rfl rfl rfl (by decide +kernel) ⟨Nat.le_of_ble_eq_true rfl, Nat.le_of_ble_eq_true rfl⟩) ⟨fun a U g mk q => ⟨q.1, q.2.blind⟩, fun U hU hW => ⟨rfl, by rw [hU], by rw [hU]; exact hPc, hE.call hS hFc hW hU, hDc.weaken (fun _ _ _ _ => trivial)⟩⟩ rfl rfl hl.1 rfl (lv_room (Nat.le_of_ble_eq_true rfl)) dX6_place_1 ⟨Nat.zero_le _, Nat.zero_le _⟩) hS (fun q _ h => hFc q h) hFc (fun r_1 u t H1 locs ht hvm h hB hz1 hk1 hS => ?_)
  obtain ⟨hP1, hD1⟩ := hB
  rw [ht] at hP1
  obtain ⟨hP, hD⟩ := rc_foc hP hD [] [none, none, none, none, none, none, none, none] (by decide) rfl hk1 hP1 rfl
  generalize H1 = H at hP hS ⊢
  have hP : va_P E.1 vwCl (rw_8 E co ro jo qo yo eo cs cl cw rk rh rd rt rl rs cWs cKp rSz rTc rFa rPa rPy rMi rMe rSr rZ rKi rHe rDo rTx rLa rSk ++ rc_tp E LT pk pv pa pn tc) H := hP
  have hD : va_D A (rw_8 E co ro jo qo yo eo cs cl cw rk rh rd rt rl rs cWs cKp rSz rTc rFa rPa rPy rMi rMe rSr rZ rKi rHe rDo rTx rLa rSk ++ rc_tp E LT pk pv pa pn tc) := hD
  refine lv_if_eq (tgt := 17) hx hb dX6_place_4 (by decide) (fun c_2 => ?_) (fun c_2 => ?_)
  · have h := h.1 c_2
    refine lv_ldc hx hb hown k_70 dX6_place_17 ?_
    exact hret _ _ _ _ (-1000000001) (rSz, rKi, rHe, rDo) rfl h hP hD hS dX6_place_19
  · have h := h.2 c_2
    refine lv_iload_n hx hb dX6_place_7 rfl (lv_at hl 2 rfl) ?_
    refine lv_iconst (v := 0) hx hb dX6_place_8 (by decide) ?_
    refine lv_bipush (v := 99) hx hb dX6_place_9 (by decide) ?_
    have hPc := hP.sub (ws' := []) [] rfl
    have hDc := hD.sub (ws' := []) [] (by decide) rfl
    have hFc := va_free (wc := []) hD hS hA [] rfl
    refine va_calli (va_runS (As := [.int p2, .int 0, .int 99]) (rest := []) ⟨hx, hb, hml, hown, hts⟩ (c_X6_within l E H.size p2 0 99 _ h) (va_cwS 3 hts gX6_place_X6_within rfl rfl rfl (by decide +kernel) ⟨Nat.le_of_ble_eq_true rfl, Nat.le_of_ble_eq_true rfl⟩) ⟨fun a U g mk q => ⟨q.1, q.2.blind⟩, fun U hU hW => ⟨rfl, by rw [hU], by rw [hU]; exact hPc, hE.call hS hFc hW hU, hDc.weaken (fun _ _ _ _ => trivial)⟩⟩ rfl rfl hl.1 rfl (lv_room (Nat.le_of_ble_eq_true rfl)) dX6_place_11 ⟨Nat.zero_le _, Nat.zero_le _⟩) hS (fun q _ h => hFc q h) hFc (fun r_3 u t H1 locs ht hvm h hB hz1 hk1 hS => ?_)
    obtain ⟨hP1, hD1⟩ := hB
    rw [ht] at hP1
    obtain ⟨hP, hD⟩ := rc_foc hP hD [] [none, none, none, none, none, none, none, none] (by decide) rfl hk1 hP1 rfl
    generalize H1 = H at hP hS ⊢
    have hP : va_P E.1 vwCl (rw_8 E co ro jo qo yo eo cs cl cw rk rh rd rt rl rs cWs cKp rSz rTc rFa rPa rPy rMi rMe rSr rZ rKi rHe rDo rTx rLa rSk ++ rc_tp E LT pk pv pa pn tc) H := hP
    have hD : va_D A (rw_8 E co ro jo qo yo eo cs cl cw rk rh rd rt rl rs cWs cKp rSz rTc rFa rPa rPy rMi rMe rSr rZ rKi rHe rDo rTx rLa rSk ++ rc_tp E LT pk pv pa pn tc) := hD
    refine lv_if_ne (tgt := 20) hx hb dX6_place_14 (by decide) (fun c_4 => ?_) (fun c_4 => ?_)
    · have h := h.1 c_4
      refine lv_aload_n hx hb dX6_place_20 rfl (lv_at hl 0 rfl) ?_
      refine va_get (D := E.1) (ci := 6) (v := .ref ro) (C := RX6) (T := TX6) (N := 10) hx hb hts n_X6 hown hK hP 0 rfl rfl 0 (by decide) k_10 (fun _ h9 => h9) rfl dX6_place_21 ?_
      refine va_get (D := E.1) (ci := 1) (v := .int rSz) (C := RX1) (T := TX1) (N := 15) hx hb hts n_X1 hown hK hP 1 rfl rfl 3 (by decide) k_71 (fun _ h9 => h9) rfl dX6_place_24 ?_
      refine lv_bipush (v := 24) hx hb dX6_place_27 (by decide) ?_
      refine lv_icmp_lt (tgt := 35) hx hb dX6_place_29 (by decide) (fun c_5 => ?_) (fun c_5 => ?_)
      · have h := h.1 c_5
        refine lv_aload_n hx hb dX6_place_35 rfl (lv_at hl 0 rfl) ?_
        refine va_get (D := E.1) (ci := 6) (v := .ref ro) (C := RX6) (T := TX6) (N := 10) hx hb hts n_X6 hown hK hP 0 rfl rfl 0 (by decide) k_10 (fun _ h9 => h9) rfl dX6_place_36 ?_
        refine lv_iload_n hx hb dX6_place_39 rfl (lv_at hl 1 rfl) ?_
        refine lv_iload_n hx hb dX6_place_40 rfl (lv_at hl 2 rfl) ?_
        refine lv_iconst (v := 0) hx hb dX6_place_41 (by decide) ?_
        have hPc := hP.part (cx := (rw_4 E ro rk rh rd rt rl rs rSz rTc rFa rPa rPy rMi rMe rSr rZ rKi rHe rDo rTx rLa rSk)) [1, 2, 3, 4, 5, 6, 7] rfl
        have hDc := hD.part (cx := (rw_4 E ro rk rh rd rt rl rs rSz rTc rFa rPa rPy rMi rMe rSr rZ rKi rHe rDo rTx rLa rSk)) [1, 2, 3, 4, 5, 6, 7] (by decide) rfl
        have hFc := va_freeP (cx := (rw_4 E ro rk rh rd rt rl rs rSz rTc rFa rPa rPy rMi rMe rSr rZ rKi rHe rDo rTx rLa rSk)) hD hS hA [1, 2, 3, 4, 5, 6, 7] rfl
        refine va_calli (va_runV (As := [.int p1, .int p2, .int 0]) (rest := []) ⟨hx, hb, hml, hown, hts⟩ (c_X1_append l E ro rk rh rd rt rl rs H.size rSz rTc rFa rPa rPy rMi rMe rSr rZ rKi rHe rDo rTx rLa rSk p1 p2 0 LT pk pv pa pn tc _ h) (cwV 3 hts gX6_place_X1_append rfl rfl rfl (by decide +kernel) ⟨Nat.le_of_ble_eq_true rfl, Nat.le_of_ble_eq_true rfl⟩) ⟨fun a U g mk q => ⟨q.1, q.2.blind⟩, va_recv hK hPc (ci := 1) (q0 := 0) rfl rfl, fun U hU hW => ⟨rfl, by rw [hU], by rw [hU]; exact hPc, hE.call hS hFc hW hU, hDc.weaken (fun _ _ _ _ => trivial)⟩⟩ rfl rfl hl.1 rfl (lv_room (Nat.le_of_ble_eq_true rfl)) dX6_place_42 ⟨Nat.zero_le _, Nat.zero_le _⟩) hS (fun q _ h => hFc q h) hFc (fun r_6 u t H1 locs ht hvm h hB hz1 hk1 hS => ?_)
        obtain ⟨w_7, w_8, w_9, w_10⟩ := u
        obtain ⟨hP1, hD1⟩ := hB
        rw [ht] at hP1
        obtain ⟨hP, hD⟩ := rc_focP hP hD [1, 2, 3, 4, 5, 6, 7] [none, some 0, some 1, some 2, some 3, some 4, some 5, some 6] (by decide) rfl rfl hk1 hP1 rfl
        generalize H1 = H at hP hS ⊢
        have hP : va_P E.1 vwCl (rw_8 E co ro jo qo yo eo cs cl cw rk rh rd rt rl rs cWs cKp w_7 rTc rFa rPa rPy rMi rMe rSr rZ w_8 w_9 w_10 rTx rLa rSk ++ rc_tp E LT pk pv pa pn tc) H := hP
        have hD : va_D A (rw_8 E co ro jo qo yo eo cs cl cw rk rh rd rt rl rs cWs cKp w_7 rTc rFa rPa rPy rMi rMe rSr rZ w_8 w_9 w_10 rTx rLa rSk ++ rc_tp E LT pk pv pa pn tc) := hD
        exact hret _ _ _ _ r_6 (w_7, w_8, w_9, w_10) rfl h hP hD hS dX6_place_45
      · have h := h.2 c_5
        refine lv_ldc hx hb hown k_74 dX6_place_32 ?_
        exact hret _ _ _ _ (-1000000003) (rSz, rKi, rHe, rDo) rfl h hP hD hS dX6_place_34
    · have h := h.2 c_4
      refine lv_ldc hx hb hown k_70 dX6_place_17 ?_
      exact hret _ _ _ _ (-1000000001) (rSz, rKi, rHe, rDo) rfl h hP hD hS dX6_place_19
def wp_X6_told (p1 : Int32) (p2 : Int32) (rSz : Int32) (rKi : Nat → Int32) (rHe : Nat → Int32) (rDo : Nat → Int32) (rTx : Nat → Option Nat) (rLa : Nat → Int32) (rSk : Nat → Int32) (LT : List Nat) (pn : Nat → Nat) (tc : Nat → Nat → Int32) (Q : Int32 → (Nat → Int32) → Prop) : Prop :=
  wp_X1_has p1 rSz (fun (r_1 : Int32) => ((¬ r_1 = 0 → ((p2 = 0 → (vp_in p1 24 ∧ Q (rKi p1.toNatClampNeg) rSk)) ∧ ((p2 = 1 → (vp_in p1 24 ∧ Q (rHe p1.toNatClampNeg) rSk)) ∧ ((p2 = 2 → (vp_in p1 24 ∧ Q (rDo p1.toNatClampNeg) rSk)) ∧ ((p2 = 3 → wp_X1_riskOf p1 rKi rHe rTx rLa rSk LT pn tc (fun (r_7 : Int32) (w_8 : Nat → Int32) => Q r_7 w_8)) ∧ ((p2 = 4 → (vp_in p1 24 ∧ (vp_in p1 24 ∧ wp_X6_worthOf (rKi p1.toNatClampNeg) (rHe p1.toNatClampNeg) (fun (r_11 : Int32) => Q r_11 rSk)))) ∧ (¬ p2 = 0 ∧ ¬ p2 = 1 ∧ ¬ p2 = 2 ∧ ¬ p2 = 3 ∧ ¬ p2 = 4 → Q (-1000000001) rSk))))))) ∧ (r_1 = 0 → Q (-1000000001) rSk)))
set_option maxHeartbeats 4000000 in
set_option maxRecDepth 100000 in
theorem c_X6_told (l : Launch) (E : gE) (co ro jo qo yo eo cs cl cw rk rh rd rt rl rs : Nat) (sz : Nat) (cWs : Int32) (cKp : Int32) (rSz : Int32) (rTc : Int32) (rFa : Int32) (rPa : Int32) (rPy : Int32) (rMi : Int32) (rMe : Int32) (rSr : Int32) (rZ : Int32) (rKi : Nat → Int32) (rHe : Nat → Int32) (rDo : Nat → Int32) (rTx : Nat → Option Nat) (rLa : Nat → Int32) (rSk : Nat → Int32) (p1 p2 : Int32) (LT : List Nat) (pk : Nat → Int32) (pv : Nat → Int32) (pa : Nat → Nat) (pn : Nat → Nat) (tc : Nat → Nat → Int32) (Q : Int32 → (Nat → Int32) → Prop) (h : wp_X6_told p1 p2 rSz rKi rHe rDo rTx rLa rSk LT pn tc Q) : Met l yX6_told wsX6_told ({ frames := 4, cells := 0, slots := 0, locals := 99 } : Room) (va_Pc [.ref co, .int p1, .int p2] (rc_B E (rw_8 E co ro jo qo yo eo cs cl cw rk rh rd rt rl rs cWs cKp rSz rTc rFa rPa rPy rMi rMe rSr rZ rKi rHe rDo rTx rLa rSk ++ rc_tp E LT pk pv pa pn tc) sz)) (va_Qi (S := (Nat → Int32)) (fun (r : Int32) (u : (Nat → Int32)) => Q r u) (fun u t => rc_C E (va_A (rw_8 E co ro jo qo yo eo cs cl cw rk rh rd rt rl rs cWs cKp rSz rTc rFa rPa rPy rMi rMe rSr rZ rKi rHe rDo rTx rLa rSk ++ rc_tp E LT pk pv pa pn tc) sz) (rw_8 E co ro jo qo yo eo cs cl cw rk rh rd rt rl rs cWs cKp rSz rTc rFa rPa rPy rMi rMe rSr rZ rKi rHe rDo rTx rLa u ++ rc_tp E LT pk pv pa pn tc) t) (va_A (rw_8 E co ro jo qo yo eo cs cl cw rk rh rd rt rl rs cWs cKp rSz rTc rFa rPa rPy rMi rMe rSr rZ rKi rHe rDo rTx rLa rSk ++ rc_tp E LT pk pv pa pn tc) sz)) 0 0 (va_A (rw_8 E co ro jo qo yo eo cs cl cw rk rh rd rt rl rs cWs cKp rSz rTc rFa rPa rPy rMi rMe rSr rZ rKi rHe rDo rTx rLa rSk ++ rc_tp E LT pk pv pa pn tc) sz) := by
  refine rc_enterI (cc := cX6_told) (maxL := 3) (by decide) rfl (Nat.le_of_ble_eq_true rfl) ?_
  intro p e s m args below meth c QQ A hx hb hml hown hts hmn hE hP hD hA hret ls hl
  have hown : s.vm.findClass RX6 = some m.cls := hown
  have hK := hE.1
  have hS : va_S A s.heap s.heap [] := va_S.rf
  have hl : lv_has ls 3 [(0, .ref co), (1, .int p1), (2, .int p2)] := hl
  have n_X1 : ∀ w ∈ wsX10, w ∈ wsX6_told := fun _ h => List.mem_cons_of_mem _ (List.mem_append_left _ (List.mem_append_right _ h))
  have n_X6 : ∀ w ∈ wsX60, w ∈ wsX6_told := fun _ h => List.mem_cons_of_mem _ (List.mem_append_left _ (List.mem_append_left _ (List.mem_append_right _ h)))
  have k_10 := hts (.fieldLink RX6 10 "RidgeClaps" "ridge" "LRidgeClaps$Ridge;") (List.mem_of_getElem? (i := 1) rfl)
  have k_82 := hts (.fieldLink RX6 82 "RidgeClaps$Ridge" "kinds" "[I") (List.mem_of_getElem? (i := 3) rfl)
  have k_85 := hts (.fieldLink RX6 85 "RidgeClaps$Ridge" "heights" "[I") (List.mem_of_getElem? (i := 4) rfl)
  have k_88 := hts (.fieldLink RX6 88 "RidgeClaps$Ridge" "downs" "[I") (List.mem_of_getElem? (i := 5) rfl)
  have k_70 := hts (.constant RX6 70 (-1000000001)) (List.mem_of_getElem? (i := 2) rfl)
  unfold wp_X6_told at h
  obtain ⟨H, hH⟩ : ∃ H, H = s.heap := ⟨_, rfl⟩
  obtain ⟨locs, hlocs⟩ : ∃ locs : List Loc, locs = [] := ⟨_, rfl⟩
  have hP : va_P E.1 vwCl (rw_8 E co ro jo qo yo eo cs cl cw rk rh rd rt rl rs cWs cKp rSz rTc rFa rPa rPy rMi rMe rSr rZ rKi rHe rDo rTx rLa rSk ++ rc_tp E LT pk pv pa pn tc) H := by rw [hH]; exact hP
  have hS : va_S A s.heap H locs := by rw [hH, hlocs]; exact hS
  suffices hgo : W p l e ({ frames := 4, cells := 0, slots := 0, locals := 99 } : Room) s m args below meth c H locs 0 0 QQ (F0 m 0 ls []) from by rw [hH, hlocs] at hgo; exact hgo
  refine lv_aload_n hx hb dX6_told_0 rfl (lv_at hl 0 rfl) ?_
  refine va_get (D := E.1) (ci := 6) (v := .ref ro) (C := RX6) (T := TX6) (N := 10) hx hb hts n_X6 hown hK hP 0 rfl rfl 0 (by decide) k_10 (fun _ h9 => h9) rfl dX6_told_1 ?_
  refine lv_iload_n hx hb dX6_told_4 rfl (lv_at hl 1 rfl) ?_
  have hPc := hP.part (cx := (rw_4 E ro rk rh rd rt rl rs rSz rTc rFa rPa rPy rMi rMe rSr rZ rKi rHe rDo rTx rLa rSk)) [1, 2, 3, 4, 5, 6, 7] rfl
  have hDc := hD.part (cx := (rw_4 E ro rk rh rd rt rl rs rSz rTc rFa rPa rPy rMi rMe rSr rZ rKi rHe rDo rTx rLa rSk)) [1, 2, 3, 4, 5, 6, 7] (by decide) rfl
  have hFc := va_freeP (cx := (rw_4 E ro rk rh rd rt rl rs rSz rTc rFa rPa rPy rMi rMe rSr rZ rKi rHe rDo rTx rLa rSk)) hD hS hA [1, 2, 3, 4, 5, 6, 7] rfl
  refine va_calli (va_runV (As := [.int p1]) (rest := []) ⟨hx, hb, hml, hown, hts⟩ (c_X1_has l E ro rk rh rd rt rl rs H.size rSz rTc rFa rPa rPy rMi rMe rSr rZ rKi rHe rDo rTx rLa rSk p1 LT pk pv pa pn tc _ h) (cwV 1 hts gX6_told_X1_has rfl rfl rfl (by decide +kernel) ⟨Nat.le_of_ble_eq_true rfl, Nat.le_of_ble_eq_true rfl⟩) ⟨fun a U g mk q => ⟨q.1, q.2.blind⟩, va_recv hK hPc (ci := 1) (q0 := 0) rfl rfl, fun U hU hW => ⟨rfl, by rw [hU], by rw [hU]; exact hPc, hE.call hS hFc hW hU, hDc.weaken (fun _ _ _ _ => trivial)⟩⟩ rfl rfl hl.1 rfl (lv_room (Nat.le_of_ble_eq_true rfl)) dX6_told_5 ⟨Nat.zero_le _, Nat.zero_le _⟩) hS (fun q _ h => hFc q h) hFc (fun r_1 u t H1 locs ht hvm h hB hz1 hk1 hS => ?_)
  obtain ⟨hP1, hD1⟩ := hB
  rw [ht] at hP1
  obtain ⟨hP, hD⟩ := rc_focP hP hD [1, 2, 3, 4, 5, 6, 7] [none, some 0, some 1, some 2, some 3, some 4, some 5, some 6] (by decide) rfl rfl hk1 hP1 rfl
  generalize H1 = H at hP hS ⊢
  have hP : va_P E.1 vwCl (rw_8 E co ro jo qo yo eo cs cl cw rk rh rd rt rl rs cWs cKp rSz rTc rFa rPa rPy rMi rMe rSr rZ rKi rHe rDo rTx rLa rSk ++ rc_tp E LT pk pv pa pn tc) H := hP
  have hD : va_D A (rw_8 E co ro jo qo yo eo cs cl cw rk rh rd rt rl rs cWs cKp rSz rTc rFa rPa rPy rMi rMe rSr rZ rKi rHe rDo rTx rLa rSk ++ rc_tp E LT pk pv pa pn tc) := hD
  refine lv_if_ne (tgt := 14) hx hb dX6_told_8 (by decide) (fun c_2 => ?_) (fun c_2 => ?_)
  · have h := h.1 c_2
    refine lv_iload_n hx hb dX6_told_14 rfl (lv_at hl 2 rfl) ?_
    by_cases c_3_0 : p2 = 0
    · have h := h.1 c_3_0
      refine lv_tableIn (tgt := 48) hx hb dX6_told_15 (by rw [c_3_0]; decide) (by rw [c_3_0]; decide) (by rw [c_3_0]; rfl) (by decide) ?_
      refine lv_aload_n hx hb dX6_told_48 rfl (lv_at hl 0 rfl) ?_
      refine va_get (D := E.1) (ci := 6) (v := .ref ro) (C := RX6) (T := TX6) (N := 10) hx hb hts n_X6 hown hK hP 0 rfl rfl 0 (by decide) k_10 (fun _ h9 => h9) rfl dX6_told_49 ?_
      refine va_get (D := E.1) (ci := 1) (v := .ref rk) (C := RX1) (T := TX1) (N := 15) hx hb hts n_X1 hown hK hP 1 rfl rfl 0 (by decide) k_82 (fun _ h9 => h9) rfl dX6_told_52 ?_
      refine lv_iload_n hx hb dX6_told_55 rfl (lv_at hl 1 rfl) ?_
      obtain ⟨o_4, h⟩ := h
      refine rc_iald hx hb hK hP 2 0 rfl rfl p1.toNatClampNeg rfl o_4 dX6_told_56 ?_
      exact hret _ _ _ _ (rKi p1.toNatClampNeg) (rSk) rfl h hP hD hS dX6_told_57
    · by_cases c_3_1 : p2 = 1
      · have h := h.2.1 c_3_1
        refine lv_tableIn (tgt := 58) hx hb dX6_told_15 (by rw [c_3_1]; decide) (by rw [c_3_1]; decide) (by rw [c_3_1]; rfl) (by decide) ?_
        refine lv_aload_n hx hb dX6_told_58 rfl (lv_at hl 0 rfl) ?_
        refine va_get (D := E.1) (ci := 6) (v := .ref ro) (C := RX6) (T := TX6) (N := 10) hx hb hts n_X6 hown hK hP 0 rfl rfl 0 (by decide) k_10 (fun _ h9 => h9) rfl dX6_told_59 ?_
        refine va_get (D := E.1) (ci := 1) (v := .ref rh) (C := RX1) (T := TX1) (N := 15) hx hb hts n_X1 hown hK hP 1 rfl rfl 1 (by decide) k_85 (fun _ h9 => h9) rfl dX6_told_62 ?_
        refine lv_iload_n hx hb dX6_told_65 rfl (lv_at hl 1 rfl) ?_
        obtain ⟨o_5, h⟩ := h
        refine rc_iald hx hb hK hP 3 0 rfl rfl p1.toNatClampNeg rfl o_5 dX6_told_66 ?_
        exact hret _ _ _ _ (rHe p1.toNatClampNeg) (rSk) rfl h hP hD hS dX6_told_67
      · by_cases c_3_2 : p2 = 2
        · have h := h.2.2.1 c_3_2
          refine lv_tableIn (tgt := 68) hx hb dX6_told_15 (by rw [c_3_2]; decide) (by rw [c_3_2]; decide) (by rw [c_3_2]; rfl) (by decide) ?_
          refine lv_aload_n hx hb dX6_told_68 rfl (lv_at hl 0 rfl) ?_
          refine va_get (D := E.1) (ci := 6) (v := .ref ro) (C := RX6) (T := TX6) (N := 10) hx hb hts n_X6 hown hK hP 0 rfl rfl 0 (by decide) k_10 (fun _ h9 => h9) rfl dX6_told_69 ?_
          refine va_get (D := E.1) (ci := 1) (v := .ref rd) (C := RX1) (T := TX1) (N := 15) hx hb hts n_X1 hown hK hP 1 rfl rfl 2 (by decide) k_88 (fun _ h9 => h9) rfl dX6_told_72 ?_
          refine lv_iload_n hx hb dX6_told_75 rfl (lv_at hl 1 rfl) ?_
          obtain ⟨o_6, h⟩ := h
          refine rc_iald hx hb hK hP 4 0 rfl rfl p1.toNatClampNeg rfl o_6 dX6_told_76 ?_
          exact hret _ _ _ _ (rDo p1.toNatClampNeg) (rSk) rfl h hP hD hS dX6_told_77
        · by_cases c_3_3 : p2 = 3
          · have h := h.2.2.2.1 c_3_3
            refine lv_tableIn (tgt := 78) hx hb dX6_told_15 (by rw [c_3_3]; decide) (by rw [c_3_3]; decide) (by rw [c_3_3]; rfl) (by decide) ?_
            refine lv_aload_n hx hb dX6_told_78 rfl (lv_at hl 0 rfl) ?_
            refine va_get (D := E.1) (ci := 6) (v := .ref ro) (C := RX6) (T := TX6) (N := 10) hx hb hts n_X6 hown hK hP 0 rfl rfl 0 (by decide) k_10 (fun _ h9 => h9) rfl dX6_told_79 ?_
            refine lv_iload_n hx hb dX6_told_82 rfl (lv_at hl 1 rfl) ?_
            have hPc := hP.part (cx := (rw_4 E ro rk rh rd rt rl rs rSz rTc rFa rPa rPy rMi rMe rSr rZ rKi rHe rDo rTx rLa rSk)) [1, 2, 3, 4, 5, 6, 7] rfl
            have hDc := hD.part (cx := (rw_4 E ro rk rh rd rt rl rs rSz rTc rFa rPa rPy rMi rMe rSr rZ rKi rHe rDo rTx rLa rSk)) [1, 2, 3, 4, 5, 6, 7] (by decide) rfl
            have hFc := va_freeP (cx := (rw_4 E ro rk rh rd rt rl rs rSz rTc rFa rPa rPy rMi rMe rSr rZ rKi rHe rDo rTx rLa rSk)) hD hS hA [1, 2, 3, 4, 5, 6, 7] rfl
            refine va_calli (va_runV (As := [.int p1]) (rest := []) ⟨hx, hb, hml, hown, hts⟩ (c_X1_riskOf l E ro rk rh rd rt rl rs H.size rSz rTc rFa rPa rPy rMi rMe rSr rZ rKi rHe rDo rTx rLa rSk p1 LT pk pv pa pn tc _ h) (cwV 1 hts gX6_told_X1_riskOf rfl rfl rfl (by decide +kernel) ⟨Nat.le_of_ble_eq_true rfl, Nat.le_of_ble_eq_true rfl⟩) ⟨fun a U g mk q => ⟨q.1, q.2.blind⟩, va_recv hK hPc (ci := 1) (q0 := 0) rfl rfl, fun U hU hW => ⟨rfl, by rw [hU], by rw [hU]; exact hPc, hE.call hS hFc hW hU, hDc.weaken (fun _ _ _ _ => trivial)⟩⟩ rfl rfl hl.1 rfl (lv_room (Nat.le_of_ble_eq_true rfl)) dX6_told_83 ⟨Nat.zero_le _, Nat.zero_le _⟩) hS (fun q _ h => hFc q h) hFc (fun r_7 u t H1 locs ht hvm h hB hz1 hk1 hS => ?_)
            obtain ⟨w_8, rfl⟩ : ∃ z, z = u := ⟨_, rfl⟩
            obtain ⟨hP1, hD1⟩ := hB
            rw [ht] at hP1
            obtain ⟨hP, hD⟩ := rc_focP hP hD [1, 2, 3, 4, 5, 6, 7] [none, some 0, some 1, some 2, some 3, some 4, some 5, some 6] (by decide) rfl rfl hk1 hP1 rfl
            generalize H1 = H at hP hS ⊢
            have hP : va_P E.1 vwCl (rw_8 E co ro jo qo yo eo cs cl cw rk rh rd rt rl rs cWs cKp rSz rTc rFa rPa rPy rMi rMe rSr rZ rKi rHe rDo rTx rLa w_8 ++ rc_tp E LT pk pv pa pn tc) H := hP
            have hD : va_D A (rw_8 E co ro jo qo yo eo cs cl cw rk rh rd rt rl rs cWs cKp rSz rTc rFa rPa rPy rMi rMe rSr rZ rKi rHe rDo rTx rLa w_8 ++ rc_tp E LT pk pv pa pn tc) := hD
            exact hret _ _ _ _ r_7 (w_8) rfl h hP hD hS dX6_told_86
          · by_cases c_3_4 : p2 = 4
            · have h := h.2.2.2.2.1 c_3_4
              refine lv_tableIn (tgt := 87) hx hb dX6_told_15 (by rw [c_3_4]; decide) (by rw [c_3_4]; decide) (by rw [c_3_4]; rfl) (by decide) ?_
              refine lv_aload_n hx hb dX6_told_87 rfl (lv_at hl 0 rfl) ?_
              refine va_get (D := E.1) (ci := 6) (v := .ref ro) (C := RX6) (T := TX6) (N := 10) hx hb hts n_X6 hown hK hP 0 rfl rfl 0 (by decide) k_10 (fun _ h9 => h9) rfl dX6_told_88 ?_
              refine va_get (D := E.1) (ci := 1) (v := .ref rk) (C := RX1) (T := TX1) (N := 15) hx hb hts n_X1 hown hK hP 1 rfl rfl 0 (by decide) k_82 (fun _ h9 => h9) rfl dX6_told_91 ?_
              refine lv_iload_n hx hb dX6_told_94 rfl (lv_at hl 1 rfl) ?_
              obtain ⟨o_9, h⟩ := h
              refine rc_iald hx hb hK hP 2 0 rfl rfl p1.toNatClampNeg rfl o_9 dX6_told_95 ?_
              refine lv_aload_n hx hb dX6_told_96 rfl (lv_at hl 0 rfl) ?_
              refine va_get (D := E.1) (ci := 6) (v := .ref ro) (C := RX6) (T := TX6) (N := 10) hx hb hts n_X6 hown hK hP 0 rfl rfl 0 (by decide) k_10 (fun _ h9 => h9) rfl dX6_told_97 ?_
              refine va_get (D := E.1) (ci := 1) (v := .ref rh) (C := RX1) (T := TX1) (N := 15) hx hb hts n_X1 hown hK hP 1 rfl rfl 1 (by decide) k_85 (fun _ h9 => h9) rfl dX6_told_100 ?_
              refine lv_iload_n hx hb dX6_told_103 rfl (lv_at hl 1 rfl) ?_
              obtain ⟨o_10, h⟩ := h
              refine rc_iald hx hb hK hP 3 0 rfl rfl p1.toNatClampNeg rfl o_10 dX6_told_104 ?_
              have hPc := hP.sub (ws' := []) [] rfl
              have hDc := hD.sub (ws' := []) [] (by decide) rfl
              have hFc := va_free (wc := []) hD hS hA [] rfl
              refine va_calli (va_runS (As := [.int (rKi p1.toNatClampNeg), .int (rHe p1.toNatClampNeg)]) (rest := []) ⟨hx, hb, hml, hown, hts⟩ (c_X6_worthOf l E H.size (rKi p1.toNatClampNeg) (rHe p1.toNatClampNeg) _ h) (va_cwS 2 hts gX6_told_X6_worthOf rfl rfl rfl (by decide +kernel) ⟨Nat.le_of_ble_eq_true rfl, Nat.le_of_ble_eq_true rfl⟩) ⟨fun a U g mk q => ⟨q.1, q.2.blind⟩, fun U hU hW => ⟨rfl, by rw [hU], by rw [hU]; exact hPc, hE.call hS hFc hW hU, hDc.weaken (fun _ _ _ _ => trivial)⟩⟩ rfl rfl hl.1 rfl (lv_room (Nat.le_of_ble_eq_true rfl)) dX6_told_105 ⟨Nat.zero_le _, Nat.zero_le _⟩) hS (fun q _ h => hFc q h) hFc (fun r_11 u t H1 locs ht hvm h hB hz1 hk1 hS => ?_)
              obtain ⟨hP1, hD1⟩ := hB
              rw [ht] at hP1
              obtain ⟨hP, hD⟩ := rc_foc hP hD [] [none, none, none, none, none, none, none, none] (by decide) rfl hk1 hP1 rfl
              generalize H1 = H at hP hS ⊢
              have hP : va_P E.1 vwCl (rw_8 E co ro jo qo yo eo cs cl cw rk rh rd rt rl rs cWs cKp rSz rTc rFa rPa rPy rMi rMe rSr rZ rKi rHe rDo rTx rLa rSk ++ rc_tp E LT pk pv pa pn tc) H := hP
              have hD : va_D A (rw_8 E co ro jo qo yo eo cs cl cw rk rh rd rt rl rs cWs cKp rSz rTc rFa rPa rPy rMi rMe rSr rZ rKi rHe rDo rTx rLa rSk ++ rc_tp E LT pk pv pa pn tc) := hD
              exact hret _ _ _ _ r_11 (rSk) rfl h hP hD hS dX6_told_108
            · have h := h.2.2.2.2.2 ⟨c_3_0, c_3_1, c_3_2, c_3_3, c_3_4⟩
              refine lv_tableOut (tgt := 109) hx hb dX6_told_15 (rc_swo (0) 5 (fun k hk => by match k, hk with | 0, _ => exact lv_neT c_3_0 (by decide) | 1, _ => exact lv_neT c_3_1 (by decide) | 2, _ => exact lv_neT c_3_2 (by decide) | 3, _ => exact lv_neT c_3_3 (by decide) | 4, _ => exact lv_neT c_3_4 (by decide))) (by decide) ?_
              refine lv_ldc hx hb hown k_70 dX6_told_109 ?_
              exact hret _ _ _ _ (-1000000001) (rSk) rfl h hP hD hS dX6_told_111
  · have h := h.2 c_2
    refine lv_ldc hx hb hown k_70 dX6_told_11 ?_
    exact hret _ _ _ _ (-1000000001) (rSk) rfl h hP hD hS dX6_told_13
def wp_X6_as (p1 : Int32) (p2 : Int32) (rSz : Int32) (rKi : Nat → Int32) (rHe : Nat → Int32) (Q : Int32 → Prop) : Prop :=
  wp_X1_has p1 rSz (fun (r_1 : Int32) => ((r_1 = 0 → Q (-1000000001)) ∧ (¬ (r_1 = 0) → wp_X6_isKind p2 (fun (r_3 : Int32) => ((¬ r_3 = 0 → (vp_in p1 24 ∧ wp_X6_isOfKind (rKi p1.toNatClampNeg) p2 (fun (r_6 : Int32) => ((r_6 = 0 → Q (-1000000012)) ∧ (¬ (r_6 = 0) → (vp_in p1 24 ∧ Q (rHe p1.toNatClampNeg))))))) ∧ (r_3 = 0 → Q (-1000000001)))))))
set_option maxHeartbeats 4000000 in
set_option maxRecDepth 100000 in
theorem c_X6_as (l : Launch) (E : gE) (co ro jo qo yo eo cs cl cw rk rh rd rt rl rs : Nat) (sz : Nat) (cWs : Int32) (cKp : Int32) (rSz : Int32) (rTc : Int32) (rFa : Int32) (rPa : Int32) (rPy : Int32) (rMi : Int32) (rMe : Int32) (rSr : Int32) (rZ : Int32) (rKi : Nat → Int32) (rHe : Nat → Int32) (rDo : Nat → Int32) (rTx : Nat → Option Nat) (rLa : Nat → Int32) (rSk : Nat → Int32) (p1 p2 : Int32) (LT : List Nat) (pk : Nat → Int32) (pv : Nat → Int32) (pa : Nat → Nat) (pn : Nat → Nat) (tc : Nat → Nat → Int32) (Q : Int32 → Prop) (h : wp_X6_as p1 p2 rSz rKi rHe Q) : Met l yX6_as wsX6_as ({ frames := 2, cells := 0, slots := 0, locals := 43 } : Room) (va_Pc [.ref co, .int p1, .int p2] (rc_B E (rw_8 E co ro jo qo yo eo cs cl cw rk rh rd rt rl rs cWs cKp rSz rTc rFa rPa rPy rMi rMe rSr rZ rKi rHe rDo rTx rLa rSk ++ rc_tp E LT pk pv pa pn tc) sz)) (va_Qi (S := Unit) (fun (r : Int32) (u : Unit) => Q r) (fun u t => rc_C E (va_A (rw_8 E co ro jo qo yo eo cs cl cw rk rh rd rt rl rs cWs cKp rSz rTc rFa rPa rPy rMi rMe rSr rZ rKi rHe rDo rTx rLa rSk ++ rc_tp E LT pk pv pa pn tc) sz) (rw_8 E co ro jo qo yo eo cs cl cw rk rh rd rt rl rs cWs cKp rSz rTc rFa rPa rPy rMi rMe rSr rZ rKi rHe rDo rTx rLa rSk ++ rc_tp E LT pk pv pa pn tc) t) (va_A (rw_8 E co ro jo qo yo eo cs cl cw rk rh rd rt rl rs cWs cKp rSz rTc rFa rPa rPy rMi rMe rSr rZ rKi rHe rDo rTx rLa rSk ++ rc_tp E LT pk pv pa pn tc) sz)) 0 0 (va_A (rw_8 E co ro jo qo yo eo cs cl cw rk rh rd rt rl rs cWs cKp rSz rTc rFa rPa rPy rMi rMe rSr rZ rKi rHe rDo rTx rLa rSk ++ rc_tp E LT pk pv pa pn tc) sz) := by
  refine rc_enterI (cc := cX6_as) (maxL := 3) (by decide) rfl (Nat.le_of_ble_eq_true rfl) ?_
  intro p e s m args below meth c QQ A hx hb hml hown hts hmn hE hP hD hA hret ls hl
  have hown : s.vm.findClass RX6 = some m.cls := hown
  have hK := hE.1
  have hS : va_S A s.heap s.heap [] := va_S.rf
  have hl : lv_has ls 3 [(0, .ref co), (1, .int p1), (2, .int p2)] := hl
  have n_X1 : ∀ w ∈ wsX10, w ∈ wsX6_as := fun _ h => List.mem_cons_of_mem _ (List.mem_append_right _ h)
  have n_X6 : ∀ w ∈ wsX60, w ∈ wsX6_as := fun _ h => List.mem_cons_of_mem _ (List.mem_append_left _ (List.mem_append_right _ h))
  have k_10 := hts (.fieldLink RX6 10 "RidgeClaps" "ridge" "LRidgeClaps$Ridge;") (List.mem_of_getElem? (i := 1) rfl)
  have k_70 := hts (.constant RX6 70 (-1000000001)) (List.mem_of_getElem? (i := 2) rfl)
  have k_82 := hts (.fieldLink RX6 82 "RidgeClaps$Ridge" "kinds" "[I") (List.mem_of_getElem? (i := 3) rfl)
  have k_103 := hts (.constant RX6 103 (-1000000012)) (List.mem_of_getElem? (i := 5) rfl)
  have k_85 := hts (.fieldLink RX6 85 "RidgeClaps$Ridge" "heights" "[I") (List.mem_of_getElem? (i := 4) rfl)
  unfold wp_X6_as at h
  obtain ⟨H, hH⟩ : ∃ H, H = s.heap := ⟨_, rfl⟩
  obtain ⟨locs, hlocs⟩ : ∃ locs : List Loc, locs = [] := ⟨_, rfl⟩
  have hP : va_P E.1 vwCl (rw_8 E co ro jo qo yo eo cs cl cw rk rh rd rt rl rs cWs cKp rSz rTc rFa rPa rPy rMi rMe rSr rZ rKi rHe rDo rTx rLa rSk ++ rc_tp E LT pk pv pa pn tc) H := by rw [hH]; exact hP
  have hS : va_S A s.heap H locs := by rw [hH, hlocs]; exact hS
  suffices hgo : W p l e ({ frames := 2, cells := 0, slots := 0, locals := 43 } : Room) s m args below meth c H locs 0 0 QQ (F0 m 0 ls []) from by rw [hH, hlocs] at hgo; exact hgo
  refine lv_aload_n hx hb dX6_as_0 rfl (lv_at hl 0 rfl) ?_
  refine va_get (D := E.1) (ci := 6) (v := .ref ro) (C := RX6) (T := TX6) (N := 10) hx hb hts n_X6 hown hK hP 0 rfl rfl 0 (by decide) k_10 (fun _ h9 => h9) rfl dX6_as_1 ?_
  refine lv_iload_n hx hb dX6_as_4 rfl (lv_at hl 1 rfl) ?_
  have hPc := hP.part (cx := (rw_4 E ro rk rh rd rt rl rs rSz rTc rFa rPa rPy rMi rMe rSr rZ rKi rHe rDo rTx rLa rSk)) [1, 2, 3, 4, 5, 6, 7] rfl
  have hDc := hD.part (cx := (rw_4 E ro rk rh rd rt rl rs rSz rTc rFa rPa rPy rMi rMe rSr rZ rKi rHe rDo rTx rLa rSk)) [1, 2, 3, 4, 5, 6, 7] (by decide) rfl
  have hFc := va_freeP (cx := (rw_4 E ro rk rh rd rt rl rs rSz rTc rFa rPa rPy rMi rMe rSr rZ rKi rHe rDo rTx rLa rSk)) hD hS hA [1, 2, 3, 4, 5, 6, 7] rfl
  refine va_calli (va_runV (As := [.int p1]) (rest := []) ⟨hx, hb, hml, hown, hts⟩ (c_X1_has l E ro rk rh rd rt rl rs H.size rSz rTc rFa rPa rPy rMi rMe rSr rZ rKi rHe rDo rTx rLa rSk p1 LT pk pv pa pn tc _ h) (cwV 1 hts gX6_as_X1_has rfl rfl rfl (by decide +kernel) ⟨Nat.le_of_ble_eq_true rfl, Nat.le_of_ble_eq_true rfl⟩) ⟨fun a U g mk q => ⟨q.1, q.2.blind⟩, va_recv hK hPc (ci := 1) (q0 := 0) rfl rfl, fun U hU hW => ⟨rfl, by rw [hU], by rw [hU]; exact hPc, hE.call hS hFc hW hU, hDc.weaken (fun _ _ _ _ => trivial)⟩⟩ rfl rfl hl.1 rfl (lv_room (Nat.le_of_ble_eq_true rfl)) dX6_as_5 ⟨Nat.zero_le _, Nat.zero_le _⟩) hS (fun q _ h => hFc q h) hFc (fun r_1 u t H1 locs ht hvm h hB hz1 hk1 hS => ?_)
  obtain ⟨hP1, hD1⟩ := hB
  rw [ht] at hP1
  obtain ⟨hP, hD⟩ := rc_focP hP hD [1, 2, 3, 4, 5, 6, 7] [none, some 0, some 1, some 2, some 3, some 4, some 5, some 6] (by decide) rfl rfl hk1 hP1 rfl
  generalize H1 = H at hP hS ⊢
  have hP : va_P E.1 vwCl (rw_8 E co ro jo qo yo eo cs cl cw rk rh rd rt rl rs cWs cKp rSz rTc rFa rPa rPy rMi rMe rSr rZ rKi rHe rDo rTx rLa rSk ++ rc_tp E LT pk pv pa pn tc) H := hP
  have hD : va_D A (rw_8 E co ro jo qo yo eo cs cl cw rk rh rd rt rl rs cWs cKp rSz rTc rFa rPa rPy rMi rMe rSr rZ rKi rHe rDo rTx rLa rSk ++ rc_tp E LT pk pv pa pn tc) := hD
  refine lv_if_eq (tgt := 18) hx hb dX6_as_8 (by decide) (fun c_2 => ?_) (fun c_2 => ?_)
  · have h := h.1 c_2
    refine lv_ldc hx hb hown k_70 dX6_as_18 ?_
    exact hret _ _ _ _ (-1000000001) () rfl h hP hD hS dX6_as_20
  · have h := h.2 c_2
    refine lv_iload_n hx hb dX6_as_11 rfl (lv_at hl 2 rfl) ?_
    have hPc := hP.sub (ws' := []) [] rfl
    have hDc := hD.sub (ws' := []) [] (by decide) rfl
    have hFc := va_free (wc := []) hD hS hA [] rfl
    refine va_calli (va_runS (As := [.int p2]) (rest := []) ⟨hx, hb, hml, hown, hts⟩ (c_X6_isKind l E H.size p2 _ h) (va_cwS 1 hts gX6_as_X6_isKind rfl rfl rfl (by decide +kernel) ⟨Nat.le_of_ble_eq_true rfl, Nat.le_of_ble_eq_true rfl⟩) ⟨fun a U g mk q => ⟨q.1, q.2.blind⟩, fun U hU hW => ⟨rfl, by rw [hU], by rw [hU]; exact hPc, hE.call hS hFc hW hU, hDc.weaken (fun _ _ _ _ => trivial)⟩⟩ rfl rfl hl.1 rfl (lv_room (Nat.le_of_ble_eq_true rfl)) dX6_as_12 ⟨Nat.zero_le _, Nat.zero_le _⟩) hS (fun q _ h => hFc q h) hFc (fun r_3 u t H1 locs ht hvm h hB hz1 hk1 hS => ?_)
    obtain ⟨hP1, hD1⟩ := hB
    rw [ht] at hP1
    obtain ⟨hP, hD⟩ := rc_foc hP hD [] [none, none, none, none, none, none, none, none] (by decide) rfl hk1 hP1 rfl
    generalize H1 = H at hP hS ⊢
    have hP : va_P E.1 vwCl (rw_8 E co ro jo qo yo eo cs cl cw rk rh rd rt rl rs cWs cKp rSz rTc rFa rPa rPy rMi rMe rSr rZ rKi rHe rDo rTx rLa rSk ++ rc_tp E LT pk pv pa pn tc) H := hP
    have hD : va_D A (rw_8 E co ro jo qo yo eo cs cl cw rk rh rd rt rl rs cWs cKp rSz rTc rFa rPa rPy rMi rMe rSr rZ rKi rHe rDo rTx rLa rSk ++ rc_tp E LT pk pv pa pn tc) := hD
    refine lv_if_ne (tgt := 21) hx hb dX6_as_15 (by decide) (fun c_4 => ?_) (fun c_4 => ?_)
    · have h := h.1 c_4
      refine lv_aload_n hx hb dX6_as_21 rfl (lv_at hl 0 rfl) ?_
      refine va_get (D := E.1) (ci := 6) (v := .ref ro) (C := RX6) (T := TX6) (N := 10) hx hb hts n_X6 hown hK hP 0 rfl rfl 0 (by decide) k_10 (fun _ h9 => h9) rfl dX6_as_22 ?_
      refine va_get (D := E.1) (ci := 1) (v := .ref rk) (C := RX1) (T := TX1) (N := 15) hx hb hts n_X1 hown hK hP 1 rfl rfl 0 (by decide) k_82 (fun _ h9 => h9) rfl dX6_as_25 ?_
      refine lv_iload_n hx hb dX6_as_28 rfl (lv_at hl 1 rfl) ?_
      obtain ⟨o_5, h⟩ := h
      refine rc_iald hx hb hK hP 2 0 rfl rfl p1.toNatClampNeg rfl o_5 dX6_as_29 ?_
      refine lv_iload_n hx hb dX6_as_30 rfl (lv_at hl 2 rfl) ?_
      have hPc := hP.sub (ws' := []) [] rfl
      have hDc := hD.sub (ws' := []) [] (by decide) rfl
      have hFc := va_free (wc := []) hD hS hA [] rfl
      refine va_calli (va_runS (As := [.int (rKi p1.toNatClampNeg), .int p2]) (rest := []) ⟨hx, hb, hml, hown, hts⟩ (c_X6_isOfKind l E H.size (rKi p1.toNatClampNeg) p2 _ h) (va_cwS 2 hts gX6_as_X6_isOfKind rfl rfl rfl (by decide +kernel) ⟨Nat.le_of_ble_eq_true rfl, Nat.le_of_ble_eq_true rfl⟩) ⟨fun a U g mk q => ⟨q.1, q.2.blind⟩, fun U hU hW => ⟨rfl, by rw [hU], by rw [hU]; exact hPc, hE.call hS hFc hW hU, hDc.weaken (fun _ _ _ _ => trivial)⟩⟩ rfl rfl hl.1 rfl (lv_room (Nat.le_of_ble_eq_true rfl)) dX6_as_31 ⟨Nat.zero_le _, Nat.zero_le _⟩) hS (fun q _ h => hFc q h) hFc (fun r_6 u t H1 locs ht hvm h hB hz1 hk1 hS => ?_)
      obtain ⟨hP1, hD1⟩ := hB
      rw [ht] at hP1
      obtain ⟨hP, hD⟩ := rc_foc hP hD [] [none, none, none, none, none, none, none, none] (by decide) rfl hk1 hP1 rfl
      generalize H1 = H at hP hS ⊢
      have hP : va_P E.1 vwCl (rw_8 E co ro jo qo yo eo cs cl cw rk rh rd rt rl rs cWs cKp rSz rTc rFa rPa rPy rMi rMe rSr rZ rKi rHe rDo rTx rLa rSk ++ rc_tp E LT pk pv pa pn tc) H := hP
      have hD : va_D A (rw_8 E co ro jo qo yo eo cs cl cw rk rh rd rt rl rs cWs cKp rSz rTc rFa rPa rPy rMi rMe rSr rZ rKi rHe rDo rTx rLa rSk ++ rc_tp E LT pk pv pa pn tc) := hD
      refine lv_if_eq (tgt := 49) hx hb dX6_as_34 (by decide) (fun c_7 => ?_) (fun c_7 => ?_)
      · have h := h.1 c_7
        refine lv_ldc hx hb hown k_103 dX6_as_49 ?_
        exact hret _ _ _ _ (-1000000012) () rfl h hP hD hS dX6_as_51
      · have h := h.2 c_7
        refine lv_aload_n hx hb dX6_as_37 rfl (lv_at hl 0 rfl) ?_
        refine va_get (D := E.1) (ci := 6) (v := .ref ro) (C := RX6) (T := TX6) (N := 10) hx hb hts n_X6 hown hK hP 0 rfl rfl 0 (by decide) k_10 (fun _ h9 => h9) rfl dX6_as_38 ?_
        refine va_get (D := E.1) (ci := 1) (v := .ref rh) (C := RX1) (T := TX1) (N := 15) hx hb hts n_X1 hown hK hP 1 rfl rfl 1 (by decide) k_85 (fun _ h9 => h9) rfl dX6_as_41 ?_
        refine lv_iload_n hx hb dX6_as_44 rfl (lv_at hl 1 rfl) ?_
        obtain ⟨o_8, h⟩ := h
        refine rc_iald hx hb hK hP 3 0 rfl rfl p1.toNatClampNeg rfl o_8 dX6_as_45 ?_
        refine lv_goto (tgt := 51) hx hb dX6_as_46 (by decide) ?_
        exact hret _ _ _ _ (rHe p1.toNatClampNeg) () rfl h hP hD hS dX6_as_51
    · have h := h.2 c_4
      refine lv_ldc hx hb hown k_70 dX6_as_18 ?_
      exact hret _ _ _ _ (-1000000001) () rfl h hP hD hS dX6_as_20
def wp_X6_turns (p1 : Int32) (p2 : Int32) (rSz : Int32) (rKi : Nat → Int32) (Q : Int32 → (Nat → Int32) → Prop) : Prop :=
  wp_X1_has p1 rSz (fun (r_1 : Int32) => ((r_1 = 0 → Q (-1000000001) rKi) ∧ (¬ (r_1 = 0) → wp_X6_isKind p2 (fun (r_3 : Int32) => ((¬ r_3 = 0 → (vp_in p1 24 ∧ (vp_in p1 24 ∧ Q (rKi p1.toNatClampNeg) (upd rKi p1.toNatClampNeg p2)))) ∧ (r_3 = 0 → Q (-1000000001) rKi))))))
set_option maxHeartbeats 4000000 in
set_option maxRecDepth 100000 in
theorem c_X6_turns (l : Launch) (E : gE) (co ro jo qo yo eo cs cl cw rk rh rd rt rl rs : Nat) (sz : Nat) (cWs : Int32) (cKp : Int32) (rSz : Int32) (rTc : Int32) (rFa : Int32) (rPa : Int32) (rPy : Int32) (rMi : Int32) (rMe : Int32) (rSr : Int32) (rZ : Int32) (rKi : Nat → Int32) (rHe : Nat → Int32) (rDo : Nat → Int32) (rTx : Nat → Option Nat) (rLa : Nat → Int32) (rSk : Nat → Int32) (p1 p2 : Int32) (LT : List Nat) (pk : Nat → Int32) (pv : Nat → Int32) (pa : Nat → Nat) (pn : Nat → Nat) (tc : Nat → Nat → Int32) (Q : Int32 → (Nat → Int32) → Prop) (h : wp_X6_turns p1 p2 rSz rKi Q) : Met l yX6_turns wsX6_turns ({ frames := 1, cells := 0, slots := 0, locals := 21 } : Room) (va_Pc [.ref co, .int p1, .int p2] (rc_B E (rw_8 E co ro jo qo yo eo cs cl cw rk rh rd rt rl rs cWs cKp rSz rTc rFa rPa rPy rMi rMe rSr rZ rKi rHe rDo rTx rLa rSk ++ rc_tp E LT pk pv pa pn tc) sz)) (va_Qi (S := (Nat → Int32)) (fun (r : Int32) (u : (Nat → Int32)) => Q r u) (fun u t => rc_C E (va_A (rw_8 E co ro jo qo yo eo cs cl cw rk rh rd rt rl rs cWs cKp rSz rTc rFa rPa rPy rMi rMe rSr rZ rKi rHe rDo rTx rLa rSk ++ rc_tp E LT pk pv pa pn tc) sz) (rw_8 E co ro jo qo yo eo cs cl cw rk rh rd rt rl rs cWs cKp rSz rTc rFa rPa rPy rMi rMe rSr rZ u rHe rDo rTx rLa rSk ++ rc_tp E LT pk pv pa pn tc) t) (va_A (rw_8 E co ro jo qo yo eo cs cl cw rk rh rd rt rl rs cWs cKp rSz rTc rFa rPa rPy rMi rMe rSr rZ rKi rHe rDo rTx rLa rSk ++ rc_tp E LT pk pv pa pn tc) sz)) 0 0 (va_A (rw_8 E co ro jo qo yo eo cs cl cw rk rh rd rt rl rs cWs cKp rSz rTc rFa rPa rPy rMi rMe rSr rZ rKi rHe rDo rTx rLa rSk ++ rc_tp E LT pk pv pa pn tc) sz) := by
  refine rc_enterI (cc := cX6_turns) (maxL := 4) (by decide) rfl (Nat.le_of_ble_eq_true rfl) ?_
  intro p e s m args below meth c QQ A hx hb hml hown hts hmn hE hP hD hA hret ls hl
  have hown : s.vm.findClass RX6 = some m.cls := hown
  have hK := hE.1
  have hS : va_S A s.heap s.heap [] := va_S.rf
  have hl : lv_has ls 4 [(0, .ref co), (1, .int p1), (2, .int p2)] := hl
  have n_X1 : ∀ w ∈ wsX10, w ∈ wsX6_turns := fun _ h => List.mem_cons_of_mem _ (List.mem_append_right _ h)
  have n_X6 : ∀ w ∈ wsX60, w ∈ wsX6_turns := fun _ h => List.mem_cons_of_mem _ (List.mem_append_left _ (List.mem_append_right _ h))
  have k_10 := hts (.fieldLink RX6 10 "RidgeClaps" "ridge" "LRidgeClaps$Ridge;") (List.mem_of_getElem? (i := 1) rfl)
  have k_70 := hts (.constant RX6 70 (-1000000001)) (List.mem_of_getElem? (i := 2) rfl)
  have k_82 := hts (.fieldLink RX6 82 "RidgeClaps$Ridge" "kinds" "[I") (List.mem_of_getElem? (i := 3) rfl)
  unfold wp_X6_turns at h
  obtain ⟨H, hH⟩ : ∃ H, H = s.heap := ⟨_, rfl⟩
  obtain ⟨locs, hlocs⟩ : ∃ locs : List Loc, locs = [] := ⟨_, rfl⟩
  have hP : va_P E.1 vwCl (rw_8 E co ro jo qo yo eo cs cl cw rk rh rd rt rl rs cWs cKp rSz rTc rFa rPa rPy rMi rMe rSr rZ rKi rHe rDo rTx rLa rSk ++ rc_tp E LT pk pv pa pn tc) H := by rw [hH]; exact hP
  have hS : va_S A s.heap H locs := by rw [hH, hlocs]; exact hS
  suffices hgo : W p l e ({ frames := 1, cells := 0, slots := 0, locals := 21 } : Room) s m args below meth c H locs 0 0 QQ (F0 m 0 ls []) from by rw [hH, hlocs] at hgo; exact hgo
  refine lv_aload_n hx hb dX6_turns_0 rfl (lv_at hl 0 rfl) ?_
  refine va_get (D := E.1) (ci := 6) (v := .ref ro) (C := RX6) (T := TX6) (N := 10) hx hb hts n_X6 hown hK hP 0 rfl rfl 0 (by decide) k_10 (fun _ h9 => h9) rfl dX6_turns_1 ?_
  refine lv_iload_n hx hb dX6_turns_4 rfl (lv_at hl 1 rfl) ?_
  have hPc := hP.part (cx := (rw_4 E ro rk rh rd rt rl rs rSz rTc rFa rPa rPy rMi rMe rSr rZ rKi rHe rDo rTx rLa rSk)) [1, 2, 3, 4, 5, 6, 7] rfl
  have hDc := hD.part (cx := (rw_4 E ro rk rh rd rt rl rs rSz rTc rFa rPa rPy rMi rMe rSr rZ rKi rHe rDo rTx rLa rSk)) [1, 2, 3, 4, 5, 6, 7] (by decide) rfl
  have hFc := va_freeP (cx := (rw_4 E ro rk rh rd rt rl rs rSz rTc rFa rPa rPy rMi rMe rSr rZ rKi rHe rDo rTx rLa rSk)) hD hS hA [1, 2, 3, 4, 5, 6, 7] rfl
  refine va_calli (va_runV (As := [.int p1]) (rest := []) ⟨hx, hb, hml, hown, hts⟩ (c_X1_has l E ro rk rh rd rt rl rs H.size rSz rTc rFa rPa rPy rMi rMe rSr rZ rKi rHe rDo rTx rLa rSk p1 LT pk pv pa pn tc _ h) (cwV 1 hts gX6_turns_X1_has rfl rfl rfl (by decide +kernel) ⟨Nat.le_of_ble_eq_true rfl, Nat.le_of_ble_eq_true rfl⟩) ⟨fun a U g mk q => ⟨q.1, q.2.blind⟩, va_recv hK hPc (ci := 1) (q0 := 0) rfl rfl, fun U hU hW => ⟨rfl, by rw [hU], by rw [hU]; exact hPc, hE.call hS hFc hW hU, hDc.weaken (fun _ _ _ _ => trivial)⟩⟩ rfl rfl hl.1 rfl (lv_room (Nat.le_of_ble_eq_true rfl)) dX6_turns_5 ⟨Nat.zero_le _, Nat.zero_le _⟩) hS (fun q _ h => hFc q h) hFc (fun r_1 u t H1 locs ht hvm h hB hz1 hk1 hS => ?_)
  obtain ⟨hP1, hD1⟩ := hB
  rw [ht] at hP1
  obtain ⟨hP, hD⟩ := rc_focP hP hD [1, 2, 3, 4, 5, 6, 7] [none, some 0, some 1, some 2, some 3, some 4, some 5, some 6] (by decide) rfl rfl hk1 hP1 rfl
  generalize H1 = H at hP hS ⊢
  have hP : va_P E.1 vwCl (rw_8 E co ro jo qo yo eo cs cl cw rk rh rd rt rl rs cWs cKp rSz rTc rFa rPa rPy rMi rMe rSr rZ rKi rHe rDo rTx rLa rSk ++ rc_tp E LT pk pv pa pn tc) H := hP
  have hD : va_D A (rw_8 E co ro jo qo yo eo cs cl cw rk rh rd rt rl rs cWs cKp rSz rTc rFa rPa rPy rMi rMe rSr rZ rKi rHe rDo rTx rLa rSk ++ rc_tp E LT pk pv pa pn tc) := hD
  refine lv_if_eq (tgt := 18) hx hb dX6_turns_8 (by decide) (fun c_2 => ?_) (fun c_2 => ?_)
  · have h := h.1 c_2
    refine lv_ldc hx hb hown k_70 dX6_turns_18 ?_
    exact hret _ _ _ _ (-1000000001) (rKi) rfl h hP hD hS dX6_turns_20
  · have h := h.2 c_2
    refine lv_iload_n hx hb dX6_turns_11 rfl (lv_at hl 2 rfl) ?_
    have hPc := hP.sub (ws' := []) [] rfl
    have hDc := hD.sub (ws' := []) [] (by decide) rfl
    have hFc := va_free (wc := []) hD hS hA [] rfl
    refine va_calli (va_runS (As := [.int p2]) (rest := []) ⟨hx, hb, hml, hown, hts⟩ (c_X6_isKind l E H.size p2 _ h) (va_cwS 1 hts gX6_turns_X6_isKind rfl rfl rfl (by decide +kernel) ⟨Nat.le_of_ble_eq_true rfl, Nat.le_of_ble_eq_true rfl⟩) ⟨fun a U g mk q => ⟨q.1, q.2.blind⟩, fun U hU hW => ⟨rfl, by rw [hU], by rw [hU]; exact hPc, hE.call hS hFc hW hU, hDc.weaken (fun _ _ _ _ => trivial)⟩⟩ rfl rfl hl.1 rfl (lv_room (Nat.le_of_ble_eq_true rfl)) dX6_turns_12 ⟨Nat.zero_le _, Nat.zero_le _⟩) hS (fun q _ h => hFc q h) hFc (fun r_3 u t H1 locs ht hvm h hB hz1 hk1 hS => ?_)
    obtain ⟨hP1, hD1⟩ := hB
    rw [ht] at hP1
    obtain ⟨hP, hD⟩ := rc_foc hP hD [] [none, none, none, none, none, none, none, none] (by decide) rfl hk1 hP1 rfl
    generalize H1 = H at hP hS ⊢
    have hP : va_P E.1 vwCl (rw_8 E co ro jo qo yo eo cs cl cw rk rh rd rt rl rs cWs cKp rSz rTc rFa rPa rPy rMi rMe rSr rZ rKi rHe rDo rTx rLa rSk ++ rc_tp E LT pk pv pa pn tc) H := hP
    have hD : va_D A (rw_8 E co ro jo qo yo eo cs cl cw rk rh rd rt rl rs cWs cKp rSz rTc rFa rPa rPy rMi rMe rSr rZ rKi rHe rDo rTx rLa rSk ++ rc_tp E LT pk pv pa pn tc) := hD
    refine lv_if_ne (tgt := 21) hx hb dX6_turns_15 (by decide) (fun c_4 => ?_) (fun c_4 => ?_)
    · have h := h.1 c_4
      refine lv_aload_n hx hb dX6_turns_21 rfl (lv_at hl 0 rfl) ?_
      refine va_get (D := E.1) (ci := 6) (v := .ref ro) (C := RX6) (T := TX6) (N := 10) hx hb hts n_X6 hown hK hP 0 rfl rfl 0 (by decide) k_10 (fun _ h9 => h9) rfl dX6_turns_22 ?_
      refine va_get (D := E.1) (ci := 1) (v := .ref rk) (C := RX1) (T := TX1) (N := 15) hx hb hts n_X1 hown hK hP 1 rfl rfl 0 (by decide) k_82 (fun _ h9 => h9) rfl dX6_turns_25 ?_
      refine lv_iload_n hx hb dX6_turns_28 rfl (lv_at hl 1 rfl) ?_
      obtain ⟨o_5, h⟩ := h
      refine rc_iald hx hb hK hP 2 0 rfl rfl p1.toNatClampNeg rfl o_5 dX6_turns_29 ?_
      refine lv_istore_n (lv' := [(3, .int (rKi p1.toNatClampNeg)), (0, .ref co), (1, .int p1), (2, .int p2)]) hx hb dX6_turns_30 rfl hl (by decide) rfl (fun ls hl => ?_)
      refine lv_aload_n hx hb dX6_turns_31 rfl (lv_at hl 1 rfl) ?_
      refine va_get (D := E.1) (ci := 6) (v := .ref ro) (C := RX6) (T := TX6) (N := 10) hx hb hts n_X6 hown hK hP 0 rfl rfl 0 (by decide) k_10 (fun _ h9 => h9) rfl dX6_turns_32 ?_
      refine va_get (D := E.1) (ci := 1) (v := .ref rk) (C := RX1) (T := TX1) (N := 15) hx hb hts n_X1 hown hK hP 1 rfl rfl 0 (by decide) k_82 (fun _ h9 => h9) rfl dX6_turns_35 ?_
      refine lv_iload_n hx hb dX6_turns_38 rfl (lv_at hl 2 rfl) ?_
      refine lv_iload_n hx hb dX6_turns_39 rfl (lv_at hl 3 rfl) ?_
      obtain ⟨o_6, h⟩ := h
      refine rc_iast hx hb hK hP hD hS 2 0 rfl rfl p1.toNatClampNeg rfl o_6 dX6_turns_40 (fun H locs hP hD hS => ?_)
      have hP : va_P E.1 vwCl (rw_8 E co ro jo qo yo eo cs cl cw rk rh rd rt rl rs cWs cKp rSz rTc rFa rPa rPy rMi rMe rSr rZ (upd rKi p1.toNatClampNeg p2) rHe rDo rTx rLa rSk ++ rc_tp E LT pk pv pa pn tc) H := hP
      have hD : va_D A (rw_8 E co ro jo qo yo eo cs cl cw rk rh rd rt rl rs cWs cKp rSz rTc rFa rPa rPy rMi rMe rSr rZ (upd rKi p1.toNatClampNeg p2) rHe rDo rTx rLa rSk ++ rc_tp E LT pk pv pa pn tc) := hD
      refine lv_iload_n hx hb dX6_turns_41 rfl (lv_at hl 0 rfl) ?_
      exact hret _ _ _ _ (rKi p1.toNatClampNeg) (upd rKi p1.toNatClampNeg p2) rfl h hP hD hS dX6_turns_42
    · have h := h.2 c_4
      refine lv_ldc hx hb hown k_70 dX6_turns_18 ?_
      exact hret _ _ _ _ (-1000000001) (rKi) rfl h hP hD hS dX6_turns_20
def jp_X6_set_53 (p1 : Int32) (p2 : Int32) (p3 : Int32)  (Q : Int32 → (Nat → Int32) → (Nat → Int32) → Prop) (rHe : Nat → Int32) (rDo : Nat → Int32) : Prop :=
  ((¬ p2 = 2 → Q (-1000000001) rHe rDo) ∧ (p2 = 2 → wp_X6_within p3 0 1 (fun (r_2 : Int32) => ((r_2 = 0 → Q (-1000000001) rHe rDo) ∧ (¬ (r_2 = 0) → (vp_in p1 24 ∧ (vp_in p1 24 ∧ Q (rDo p1.toNatClampNeg) rHe (upd rDo p1.toNatClampNeg p3))))))))
def wp_X6_set (p1 : Int32) (p2 : Int32) (p3 : Int32) (rSz : Int32) (rHe : Nat → Int32) (rDo : Nat → Int32) (Q : Int32 → (Nat → Int32) → (Nat → Int32) → Prop) : Prop :=
  wp_X1_has p1 rSz (fun (r_6 : Int32) => ((¬ r_6 = 0 → ((¬ p2 = 1 → jp_X6_set_53 p1 p2 p3 Q rHe rDo) ∧ (p2 = 1 → wp_X6_within p3 0 99 (fun (r_9 : Int32) => ((r_9 = 0 → jp_X6_set_53 p1 p2 p3 Q rHe rDo) ∧ (¬ (r_9 = 0) → (vp_in p1 24 ∧ (vp_in p1 24 ∧ Q (rHe p1.toNatClampNeg) (upd rHe p1.toNatClampNeg p3) rDo)))))))) ∧ (r_6 = 0 → Q (-1000000001) rHe rDo)))
set_option maxHeartbeats 4000000 in
set_option maxRecDepth 100000 in
theorem c_X6_set (l : Launch) (E : gE) (co ro jo qo yo eo cs cl cw rk rh rd rt rl rs : Nat) (sz : Nat) (cWs : Int32) (cKp : Int32) (rSz : Int32) (rTc : Int32) (rFa : Int32) (rPa : Int32) (rPy : Int32) (rMi : Int32) (rMe : Int32) (rSr : Int32) (rZ : Int32) (rKi : Nat → Int32) (rHe : Nat → Int32) (rDo : Nat → Int32) (rTx : Nat → Option Nat) (rLa : Nat → Int32) (rSk : Nat → Int32) (p1 p2 p3 : Int32) (LT : List Nat) (pk : Nat → Int32) (pv : Nat → Int32) (pa : Nat → Nat) (pn : Nat → Nat) (tc : Nat → Nat → Int32) (Q : Int32 → (Nat → Int32) → (Nat → Int32) → Prop) (h : wp_X6_set p1 p2 p3 rSz rHe rDo Q) : Met l yX6_set wsX6_set ({ frames := 1, cells := 0, slots := 0, locals := 22 } : Room) (va_Pc [.ref co, .int p1, .int p2, .int p3] (rc_B E (rw_8 E co ro jo qo yo eo cs cl cw rk rh rd rt rl rs cWs cKp rSz rTc rFa rPa rPy rMi rMe rSr rZ rKi rHe rDo rTx rLa rSk ++ rc_tp E LT pk pv pa pn tc) sz)) (va_Qi (S := (Nat → Int32) × (Nat → Int32)) (fun (r : Int32) (u : (Nat → Int32) × (Nat → Int32)) => Q r u.1 u.2) (fun u t => rc_C E (va_A (rw_8 E co ro jo qo yo eo cs cl cw rk rh rd rt rl rs cWs cKp rSz rTc rFa rPa rPy rMi rMe rSr rZ rKi rHe rDo rTx rLa rSk ++ rc_tp E LT pk pv pa pn tc) sz) (rw_8 E co ro jo qo yo eo cs cl cw rk rh rd rt rl rs cWs cKp rSz rTc rFa rPa rPy rMi rMe rSr rZ rKi u.1 u.2 rTx rLa rSk ++ rc_tp E LT pk pv pa pn tc) t) (va_A (rw_8 E co ro jo qo yo eo cs cl cw rk rh rd rt rl rs cWs cKp rSz rTc rFa rPa rPy rMi rMe rSr rZ rKi rHe rDo rTx rLa rSk ++ rc_tp E LT pk pv pa pn tc) sz)) 0 0 (va_A (rw_8 E co ro jo qo yo eo cs cl cw rk rh rd rt rl rs cWs cKp rSz rTc rFa rPa rPy rMi rMe rSr rZ rKi rHe rDo rTx rLa rSk ++ rc_tp E LT pk pv pa pn tc) sz) := by
  refine rc_enterI (cc := cX6_set) (maxL := 5) (by decide) rfl (Nat.le_of_ble_eq_true rfl) ?_
  intro p e s m args below meth c QQ A hx hb hml hown hts hmn hE hP hD hA hret ls hl
  have hown : s.vm.findClass RX6 = some m.cls := hown
  have hK := hE.1
  have hS : va_S A s.heap s.heap [] := va_S.rf
  have hl : lv_has ls 5 [(0, .ref co), (1, .int p1), (2, .int p2), (3, .int p3)] := hl
  have n_X1 : ∀ w ∈ wsX10, w ∈ wsX6_set := fun _ h => List.mem_cons_of_mem _ (List.mem_append_right _ h)
  have n_X6 : ∀ w ∈ wsX60, w ∈ wsX6_set := fun _ h => List.mem_cons_of_mem _ (List.mem_append_left _ (List.mem_append_right _ h))
  have k_70 := hts (.constant RX6 70 (-1000000001)) (List.mem_of_getElem? (i := 2) rfl)
  have k_10 := hts (.fieldLink RX6 10 "RidgeClaps" "ridge" "LRidgeClaps$Ridge;") (List.mem_of_getElem? (i := 1) rfl)
  have k_88 := hts (.fieldLink RX6 88 "RidgeClaps$Ridge" "downs" "[I") (List.mem_of_getElem? (i := 4) rfl)
  have k_85 := hts (.fieldLink RX6 85 "RidgeClaps$Ridge" "heights" "[I") (List.mem_of_getElem? (i := 3) rfl)
  have J53 : ∀ (rHe : Nat → Int32) (rDo : Nat → Int32), jp_X6_set_53 p1 p2 p3 Q rHe rDo → ∀ (H : Heap) (locs : List Loc), va_P E.1 vwCl (rw_8 E co ro jo qo yo eo cs cl cw rk rh rd rt rl rs cWs cKp rSz rTc rFa rPa rPy rMi rMe rSr rZ rKi rHe rDo rTx rLa rSk ++ rc_tp E LT pk pv pa pn tc) H → va_D A (rw_8 E co ro jo qo yo eo cs cl cw rk rh rd rt rl rs cWs cKp rSz rTc rFa rPa rPy rMi rMe rSr rZ rKi rHe rDo rTx rLa rSk ++ rc_tp E LT pk pv pa pn tc) → va_S A s.heap H locs → ∀ ls : Array Slot, lv_has ls 5 [(0, .ref co), (1, .int p1), (2, .int p2), (3, .int p3)] → W p l e ({ frames := 1, cells := 0, slots := 0, locals := 22 } : Room) s m args below meth c H locs 0 0 QQ (F0 m 53 ls []) := by
    intro rHe rDo h H locs hP hD hS ls hl
    unfold jp_X6_set_53 at h
    refine lv_iload_n hx hb dX6_set_53 rfl (lv_at hl 2 rfl) ?_
    refine lv_iconst (v := 2) hx hb dX6_set_54 (by decide) ?_
    refine lv_icmp_ne (tgt := 91) hx hb dX6_set_55 (by decide) (fun c_1 => ?_) (fun c_1 => ?_)
    · have h := h.1 c_1
      refine lv_ldc hx hb hown k_70 dX6_set_91 ?_
      exact hret _ _ _ _ (-1000000001) (rHe, rDo) rfl h hP hD hS dX6_set_93
    · have h := h.2 c_1
      refine lv_iload_n hx hb dX6_set_58 rfl (lv_at hl 3 rfl) ?_
      refine lv_iconst (v := 0) hx hb dX6_set_59 (by decide) ?_
      refine lv_iconst (v := 1) hx hb dX6_set_60 (by decide) ?_
      have hPc := hP.sub (ws' := []) [] rfl
      have hDc := hD.sub (ws' := []) [] (by decide) rfl
      have hFc := va_free (wc := []) hD hS hA [] rfl
      refine va_calli (va_runS (As := [.int p3, .int 0, .int 1]) (rest := []) ⟨hx, hb, hml, hown, hts⟩ (c_X6_within l E H.size p3 0 1 _ h) (va_cwS 3 hts gX6_set_X6_within rfl rfl rfl (by decide +kernel) ⟨Nat.le_of_ble_eq_true rfl, Nat.le_of_ble_eq_true rfl⟩) ⟨fun a U g mk q => ⟨q.1, q.2.blind⟩, fun U hU hW => ⟨rfl, by rw [hU], by rw [hU]; exact hPc, hE.call hS hFc hW hU, hDc.weaken (fun _ _ _ _ => trivial)⟩⟩ rfl rfl hl.1 rfl (lv_room (Nat.le_of_ble_eq_true rfl)) dX6_set_61 ⟨Nat.zero_le _, Nat.zero_le _⟩) hS (fun q _ h => hFc q h) hFc (fun r_2 u t H1 locs ht hvm h hB hz1 hk1 hS => ?_)
      obtain ⟨hP1, hD1⟩ := hB
      rw [ht] at hP1
      obtain ⟨hP, hD⟩ := rc_foc hP hD [] [none, none, none, none, none, none, none, none] (by decide) rfl hk1 hP1 rfl
      generalize H1 = H at hP hS ⊢
      have hP : va_P E.1 vwCl (rw_8 E co ro jo qo yo eo cs cl cw rk rh rd rt rl rs cWs cKp rSz rTc rFa rPa rPy rMi rMe rSr rZ rKi rHe rDo rTx rLa rSk ++ rc_tp E LT pk pv pa pn tc) H := hP
      have hD : va_D A (rw_8 E co ro jo qo yo eo cs cl cw rk rh rd rt rl rs cWs cKp rSz rTc rFa rPa rPy rMi rMe rSr rZ rKi rHe rDo rTx rLa rSk ++ rc_tp E LT pk pv pa pn tc) := hD
      refine lv_if_eq (tgt := 91) hx hb dX6_set_64 (by decide) (fun c_3 => ?_) (fun c_3 => ?_)
      · have h := h.1 c_3
        refine lv_ldc hx hb hown k_70 dX6_set_91 ?_
        exact hret _ _ _ _ (-1000000001) (rHe, rDo) rfl h hP hD hS dX6_set_93
      · have h := h.2 c_3
        refine lv_aload_n hx hb dX6_set_67 rfl (lv_at hl 0 rfl) ?_
        refine va_get (D := E.1) (ci := 6) (v := .ref ro) (C := RX6) (T := TX6) (N := 10) hx hb hts n_X6 hown hK hP 0 rfl rfl 0 (by decide) k_10 (fun _ h9 => h9) rfl dX6_set_68 ?_
        refine va_get (D := E.1) (ci := 1) (v := .ref rd) (C := RX1) (T := TX1) (N := 15) hx hb hts n_X1 hown hK hP 1 rfl rfl 2 (by decide) k_88 (fun _ h9 => h9) rfl dX6_set_71 ?_
        refine lv_iload_n hx hb dX6_set_74 rfl (lv_at hl 1 rfl) ?_
        obtain ⟨o_4, h⟩ := h
        refine rc_iald hx hb hK hP 4 0 rfl rfl p1.toNatClampNeg rfl o_4 dX6_set_75 ?_
        refine lv_istore (lv' := [(4, .int (rDo p1.toNatClampNeg)), (0, .ref co), (1, .int p1), (2, .int p2), (3, .int p3)]) hx hb dX6_set_76 hl (by decide) rfl (fun ls hl => ?_)
        refine lv_aload_n hx hb dX6_set_78 rfl (lv_at hl 1 rfl) ?_
        refine va_get (D := E.1) (ci := 6) (v := .ref ro) (C := RX6) (T := TX6) (N := 10) hx hb hts n_X6 hown hK hP 0 rfl rfl 0 (by decide) k_10 (fun _ h9 => h9) rfl dX6_set_79 ?_
        refine va_get (D := E.1) (ci := 1) (v := .ref rd) (C := RX1) (T := TX1) (N := 15) hx hb hts n_X1 hown hK hP 1 rfl rfl 2 (by decide) k_88 (fun _ h9 => h9) rfl dX6_set_82 ?_
        refine lv_iload_n hx hb dX6_set_85 rfl (lv_at hl 2 rfl) ?_
        refine lv_iload_n hx hb dX6_set_86 rfl (lv_at hl 4 rfl) ?_
        obtain ⟨o_5, h⟩ := h
        refine rc_iast hx hb hK hP hD hS 4 0 rfl rfl p1.toNatClampNeg rfl o_5 dX6_set_87 (fun H locs hP hD hS => ?_)
        have hP : va_P E.1 vwCl (rw_8 E co ro jo qo yo eo cs cl cw rk rh rd rt rl rs cWs cKp rSz rTc rFa rPa rPy rMi rMe rSr rZ rKi rHe (upd rDo p1.toNatClampNeg p3) rTx rLa rSk ++ rc_tp E LT pk pv pa pn tc) H := hP
        have hD : va_D A (rw_8 E co ro jo qo yo eo cs cl cw rk rh rd rt rl rs cWs cKp rSz rTc rFa rPa rPy rMi rMe rSr rZ rKi rHe (upd rDo p1.toNatClampNeg p3) rTx rLa rSk ++ rc_tp E LT pk pv pa pn tc) := hD
        refine lv_iload hx hb dX6_set_88 (lv_at hl 0 rfl) ?_
        exact hret _ _ _ _ (rDo p1.toNatClampNeg) (rHe, upd rDo p1.toNatClampNeg p3) rfl h hP hD hS dX6_set_90
  unfold wp_X6_set at h
  obtain ⟨H, hH⟩ : ∃ H, H = s.heap := ⟨_, rfl⟩
  obtain ⟨locs, hlocs⟩ : ∃ locs : List Loc, locs = [] := ⟨_, rfl⟩
  have hP : va_P E.1 vwCl (rw_8 E co ro jo qo yo eo cs cl cw rk rh rd rt rl rs cWs cKp rSz rTc rFa rPa rPy rMi rMe rSr rZ rKi rHe rDo rTx rLa rSk ++ rc_tp E LT pk pv pa pn tc) H := by rw [hH]; exact hP
  have hS : va_S A s.heap H locs := by rw [hH, hlocs]; exact hS
  suffices hgo : W p l e ({ frames := 1, cells := 0, slots := 0, locals := 22 } : Room) s m args below meth c H locs 0 0 QQ (F0 m 0 ls []) from by rw [hH, hlocs] at hgo; exact hgo
  refine lv_aload_n hx hb dX6_set_0 rfl (lv_at hl 0 rfl) ?_
  refine va_get (D := E.1) (ci := 6) (v := .ref ro) (C := RX6) (T := TX6) (N := 10) hx hb hts n_X6 hown hK hP 0 rfl rfl 0 (by decide) k_10 (fun _ h9 => h9) rfl dX6_set_1 ?_
  refine lv_iload_n hx hb dX6_set_4 rfl (lv_at hl 1 rfl) ?_
  have hPc := hP.part (cx := (rw_4 E ro rk rh rd rt rl rs rSz rTc rFa rPa rPy rMi rMe rSr rZ rKi rHe rDo rTx rLa rSk)) [1, 2, 3, 4, 5, 6, 7] rfl
  have hDc := hD.part (cx := (rw_4 E ro rk rh rd rt rl rs rSz rTc rFa rPa rPy rMi rMe rSr rZ rKi rHe rDo rTx rLa rSk)) [1, 2, 3, 4, 5, 6, 7] (by decide) rfl
  have hFc := va_freeP (cx := (rw_4 E ro rk rh rd rt rl rs rSz rTc rFa rPa rPy rMi rMe rSr rZ rKi rHe rDo rTx rLa rSk)) hD hS hA [1, 2, 3, 4, 5, 6, 7] rfl
  refine va_calli (va_runV (As := [.int p1]) (rest := []) ⟨hx, hb, hml, hown, hts⟩ (c_X1_has l E ro rk rh rd rt rl rs H.size rSz rTc rFa rPa rPy rMi rMe rSr rZ rKi rHe rDo rTx rLa rSk p1 LT pk pv pa pn tc _ h) (cwV 1 hts gX6_set_X1_has rfl rfl rfl (by decide +kernel) ⟨Nat.le_of_ble_eq_true rfl, Nat.le_of_ble_eq_true rfl⟩) ⟨fun a U g mk q => ⟨q.1, q.2.blind⟩, va_recv hK hPc (ci := 1) (q0 := 0) rfl rfl, fun U hU hW => ⟨rfl, by rw [hU], by rw [hU]; exact hPc, hE.call hS hFc hW hU, hDc.weaken (fun _ _ _ _ => trivial)⟩⟩ rfl rfl hl.1 rfl (lv_room (Nat.le_of_ble_eq_true rfl)) dX6_set_5 ⟨Nat.zero_le _, Nat.zero_le _⟩) hS (fun q _ h => hFc q h) hFc (fun r_6 u t H1 locs ht hvm h hB hz1 hk1 hS => ?_)
  obtain ⟨hP1, hD1⟩ := hB
  rw [ht] at hP1
  obtain ⟨hP, hD⟩ := rc_focP hP hD [1, 2, 3, 4, 5, 6, 7] [none, some 0, some 1, some 2, some 3, some 4, some 5, some 6] (by decide) rfl rfl hk1 hP1 rfl
  generalize H1 = H at hP hS ⊢
  have hP : va_P E.1 vwCl (rw_8 E co ro jo qo yo eo cs cl cw rk rh rd rt rl rs cWs cKp rSz rTc rFa rPa rPy rMi rMe rSr rZ rKi rHe rDo rTx rLa rSk ++ rc_tp E LT pk pv pa pn tc) H := hP
  have hD : va_D A (rw_8 E co ro jo qo yo eo cs cl cw rk rh rd rt rl rs cWs cKp rSz rTc rFa rPa rPy rMi rMe rSr rZ rKi rHe rDo rTx rLa rSk ++ rc_tp E LT pk pv pa pn tc) := hD
  refine lv_if_ne (tgt := 14) hx hb dX6_set_8 (by decide) (fun c_7 => ?_) (fun c_7 => ?_)
  · have h := h.1 c_7
    refine lv_iload_n hx hb dX6_set_14 rfl (lv_at hl 2 rfl) ?_
    refine lv_iconst (v := 1) hx hb dX6_set_15 (by decide) ?_
    refine lv_icmp_ne (tgt := 53) hx hb dX6_set_16 (by decide) (fun c_8 => ?_) (fun c_8 => ?_)
    · have h := h.1 c_8
      exact J53 rHe rDo h _ _ hP hD hS ls (lv_sub hl [0, 1, 2, 3] rfl)
    · have h := h.2 c_8
      refine lv_iload_n hx hb dX6_set_19 rfl (lv_at hl 3 rfl) ?_
      refine lv_iconst (v := 0) hx hb dX6_set_20 (by decide) ?_
      refine lv_bipush (v := 99) hx hb dX6_set_21 (by decide) ?_
      have hPc := hP.sub (ws' := []) [] rfl
      have hDc := hD.sub (ws' := []) [] (by decide) rfl
      have hFc := va_free (wc := []) hD hS hA [] rfl
      refine va_calli (va_runS (As := [.int p3, .int 0, .int 99]) (rest := []) ⟨hx, hb, hml, hown, hts⟩ (c_X6_within l E H.size p3 0 99 _ h) (va_cwS 3 hts gX6_set_X6_within rfl rfl rfl (by decide +kernel) ⟨Nat.le_of_ble_eq_true rfl, Nat.le_of_ble_eq_true rfl⟩) ⟨fun a U g mk q => ⟨q.1, q.2.blind⟩, fun U hU hW => ⟨rfl, by rw [hU], by rw [hU]; exact hPc, hE.call hS hFc hW hU, hDc.weaken (fun _ _ _ _ => trivial)⟩⟩ rfl rfl hl.1 rfl (lv_room (Nat.le_of_ble_eq_true rfl)) dX6_set_23 ⟨Nat.zero_le _, Nat.zero_le _⟩) hS (fun q _ h => hFc q h) hFc (fun r_9 u t H1 locs ht hvm h hB hz1 hk1 hS => ?_)
      obtain ⟨hP1, hD1⟩ := hB
      rw [ht] at hP1
      obtain ⟨hP, hD⟩ := rc_foc hP hD [] [none, none, none, none, none, none, none, none] (by decide) rfl hk1 hP1 rfl
      generalize H1 = H at hP hS ⊢
      have hP : va_P E.1 vwCl (rw_8 E co ro jo qo yo eo cs cl cw rk rh rd rt rl rs cWs cKp rSz rTc rFa rPa rPy rMi rMe rSr rZ rKi rHe rDo rTx rLa rSk ++ rc_tp E LT pk pv pa pn tc) H := hP
      have hD : va_D A (rw_8 E co ro jo qo yo eo cs cl cw rk rh rd rt rl rs cWs cKp rSz rTc rFa rPa rPy rMi rMe rSr rZ rKi rHe rDo rTx rLa rSk ++ rc_tp E LT pk pv pa pn tc) := hD
      refine lv_if_eq (tgt := 53) hx hb dX6_set_26 (by decide) (fun c_10 => ?_) (fun c_10 => ?_)
      · have h := h.1 c_10
        exact J53 rHe rDo h _ _ hP hD hS ls (lv_sub hl [0, 1, 2, 3] rfl)
      · have h := h.2 c_10
        refine lv_aload_n hx hb dX6_set_29 rfl (lv_at hl 0 rfl) ?_
        refine va_get (D := E.1) (ci := 6) (v := .ref ro) (C := RX6) (T := TX6) (N := 10) hx hb hts n_X6 hown hK hP 0 rfl rfl 0 (by decide) k_10 (fun _ h9 => h9) rfl dX6_set_30 ?_
        refine va_get (D := E.1) (ci := 1) (v := .ref rh) (C := RX1) (T := TX1) (N := 15) hx hb hts n_X1 hown hK hP 1 rfl rfl 1 (by decide) k_85 (fun _ h9 => h9) rfl dX6_set_33 ?_
        refine lv_iload_n hx hb dX6_set_36 rfl (lv_at hl 1 rfl) ?_
        obtain ⟨o_11, h⟩ := h
        refine rc_iald hx hb hK hP 3 0 rfl rfl p1.toNatClampNeg rfl o_11 dX6_set_37 ?_
        refine lv_istore (lv' := [(4, .int (rHe p1.toNatClampNeg)), (0, .ref co), (1, .int p1), (2, .int p2), (3, .int p3)]) hx hb dX6_set_38 hl (by decide) rfl (fun ls hl => ?_)
        refine lv_aload_n hx hb dX6_set_40 rfl (lv_at hl 1 rfl) ?_
        refine va_get (D := E.1) (ci := 6) (v := .ref ro) (C := RX6) (T := TX6) (N := 10) hx hb hts n_X6 hown hK hP 0 rfl rfl 0 (by decide) k_10 (fun _ h9 => h9) rfl dX6_set_41 ?_
        refine va_get (D := E.1) (ci := 1) (v := .ref rh) (C := RX1) (T := TX1) (N := 15) hx hb hts n_X1 hown hK hP 1 rfl rfl 1 (by decide) k_85 (fun _ h9 => h9) rfl dX6_set_44 ?_
        refine lv_iload_n hx hb dX6_set_47 rfl (lv_at hl 2 rfl) ?_
        refine lv_iload_n hx hb dX6_set_48 rfl (lv_at hl 4 rfl) ?_
        obtain ⟨o_12, h⟩ := h
        refine rc_iast hx hb hK hP hD hS 3 0 rfl rfl p1.toNatClampNeg rfl o_12 dX6_set_49 (fun H locs hP hD hS => ?_)
        have hP : va_P E.1 vwCl (rw_8 E co ro jo qo yo eo cs cl cw rk rh rd rt rl rs cWs cKp rSz rTc rFa rPa rPy rMi rMe rSr rZ rKi (upd rHe p1.toNatClampNeg p3) rDo rTx rLa rSk ++ rc_tp E LT pk pv pa pn tc) H := hP
        have hD : va_D A (rw_8 E co ro jo qo yo eo cs cl cw rk rh rd rt rl rs cWs cKp rSz rTc rFa rPa rPy rMi rMe rSr rZ rKi (upd rHe p1.toNatClampNeg p3) rDo rTx rLa rSk ++ rc_tp E LT pk pv pa pn tc) := hD
        refine lv_iload hx hb dX6_set_50 (lv_at hl 0 rfl) ?_
        exact hret _ _ _ _ (rHe p1.toNatClampNeg) (upd rHe p1.toNatClampNeg p3, rDo) rfl h hP hD hS dX6_set_52
  · have h := h.2 c_7
    refine lv_ldc hx hb hown k_70 dX6_set_11 ?_
    exact hret _ _ _ _ (-1000000001) (rHe, rDo) rfl h hP hD hS dX6_set_13
def lp_X6_deal_30F   (Q : Int32 → Int32 → Int32 → (Nat → Int32) → (Nat → Int32) → (Nat → Int32) → Prop) (R : Int32 → Int32 → Int32 → Int32 → (Nat → Int32) → (Nat → Int32) → (Nat → Int32) → Prop) (x2 : Int32) (x3 : Int32) (rSz : Int32) (rZ : Int32) (rKi : Nat → Int32) (rHe : Nat → Int32) (rDo : Nat → Int32) : Prop :=
  ((x2 ≤ x3 → Q x2 rSz rZ rKi rHe rDo) ∧ (¬ (x2 ≤ x3) → wp_X1_appendDrawn rSz rZ rKi rHe rDo (fun (w_2 : Int32) (w_3 : Int32) (w_4 : Nat → Int32) (w_5 : Nat → Int32) (w_6 : Nat → Int32) => R x2 (x3 + 1) w_2 w_3 w_4 w_5 w_6)))
def lp_X6_deal_30   (Q : Int32 → Int32 → Int32 → (Nat → Int32) → (Nat → Int32) → (Nat → Int32) → Prop) (n : Nat) : Int32 → Int32 → Int32 → Int32 → (Nat → Int32) → (Nat → Int32) → (Nat → Int32) → Prop :=
  Nat.rec (motive := fun _ => Int32 → Int32 → Int32 → Int32 → (Nat → Int32) → (Nat → Int32) → (Nat → Int32) → Prop) (fun _ _ _ _ _ _ _ => False) (fun _ r => lp_X6_deal_30F Q r) n
def wp_X6_deal (p1 : Int32) (rSz : Int32) (rZ : Int32) (rKi : Nat → Int32) (rHe : Nat → Int32) (rDo : Nat → Int32) (Q : Int32 → Int32 → Int32 → (Nat → Int32) → (Nat → Int32) → (Nat → Int32) → Prop) : Prop :=
  wp_X6_within p1 1 24 (fun (r_7 : Int32) => ((¬ r_7 = 0 → (∃ n : Nat, lp_X6_deal_30 Q n (rc_min p1 (24 - rSz)) 0 rSz rZ rKi rHe rDo)) ∧ (r_7 = 0 → Q (-1000000001) rSz rZ rKi rHe rDo)))
set_option maxHeartbeats 4000000 in
set_option maxRecDepth 100000 in
theorem c_X6_deal (l : Launch) (E : gE) (co ro jo qo yo eo cs cl cw rk rh rd rt rl rs : Nat) (sz : Nat) (cWs : Int32) (cKp : Int32) (rSz : Int32) (rTc : Int32) (rFa : Int32) (rPa : Int32) (rPy : Int32) (rMi : Int32) (rMe : Int32) (rSr : Int32) (rZ : Int32) (rKi : Nat → Int32) (rHe : Nat → Int32) (rDo : Nat → Int32) (rTx : Nat → Option Nat) (rLa : Nat → Int32) (rSk : Nat → Int32) (p1 : Int32) (LT : List Nat) (pk : Nat → Int32) (pv : Nat → Int32) (pa : Nat → Nat) (pn : Nat → Nat) (tc : Nat → Nat → Int32) (Q : Int32 → Int32 → Int32 → (Nat → Int32) → (Nat → Int32) → (Nat → Int32) → Prop) (h : wp_X6_deal p1 rSz rZ rKi rHe rDo Q) : Met l yX6_deal wsX6_deal ({ frames := 2, cells := 0, slots := 0, locals := 47 } : Room) (va_Pc [.ref co, .int p1] (rc_B E (rw_8 E co ro jo qo yo eo cs cl cw rk rh rd rt rl rs cWs cKp rSz rTc rFa rPa rPy rMi rMe rSr rZ rKi rHe rDo rTx rLa rSk ++ rc_tp E LT pk pv pa pn tc) sz)) (va_Qi (S := Int32 × Int32 × (Nat → Int32) × (Nat → Int32) × (Nat → Int32)) (fun (r : Int32) (u : Int32 × Int32 × (Nat → Int32) × (Nat → Int32) × (Nat → Int32)) => Q r u.1 u.2.1 u.2.2.1 u.2.2.2.1 u.2.2.2.2) (fun u t => rc_C E (va_A (rw_8 E co ro jo qo yo eo cs cl cw rk rh rd rt rl rs cWs cKp rSz rTc rFa rPa rPy rMi rMe rSr rZ rKi rHe rDo rTx rLa rSk ++ rc_tp E LT pk pv pa pn tc) sz) (rw_8 E co ro jo qo yo eo cs cl cw rk rh rd rt rl rs cWs cKp u.1 rTc rFa rPa rPy rMi rMe rSr u.2.1 u.2.2.1 u.2.2.2.1 u.2.2.2.2 rTx rLa rSk ++ rc_tp E LT pk pv pa pn tc) t) (va_A (rw_8 E co ro jo qo yo eo cs cl cw rk rh rd rt rl rs cWs cKp rSz rTc rFa rPa rPy rMi rMe rSr rZ rKi rHe rDo rTx rLa rSk ++ rc_tp E LT pk pv pa pn tc) sz)) 0 0 (va_A (rw_8 E co ro jo qo yo eo cs cl cw rk rh rd rt rl rs cWs cKp rSz rTc rFa rPa rPy rMi rMe rSr rZ rKi rHe rDo rTx rLa rSk ++ rc_tp E LT pk pv pa pn tc) sz) := by
  refine rc_enterI (cc := cX6_deal) (maxL := 4) (by decide) rfl (Nat.le_of_ble_eq_true rfl) ?_
  intro p e s m args below meth c QQ A hx hb hml hown hts hmn hE hP hD hA hret ls hl
  have hown : s.vm.findClass RX6 = some m.cls := hown
  have hK := hE.1
  have hS : va_S A s.heap s.heap [] := va_S.rf
  have hl : lv_has ls 4 [(0, .ref co), (1, .int p1)] := hl
  have n_X1 : ∀ w ∈ wsX10, w ∈ wsX6_deal := fun _ h => List.mem_cons_of_mem _ (List.mem_append_right _ h)
  have n_X6 : ∀ w ∈ wsX60, w ∈ wsX6_deal := fun _ h => List.mem_cons_of_mem _ (List.mem_append_left _ (List.mem_append_right _ h))
  have k_10 := hts (.fieldLink RX6 10 "RidgeClaps" "ridge" "LRidgeClaps$Ridge;") (List.mem_of_getElem? (i := 2) rfl)
  have k_71 := hts (.fieldLink RX6 71 "RidgeClaps$Ridge" "size" "I") (List.mem_of_getElem? (i := 3) rfl)
  have k_104 := hts (.methodLink RX6 104 Lib.Math.min.name) (List.mem_of_getElem? (i := 4) rfl)
  have k_smin := hts (.static Lib.Math.min.name) (List.mem_of_getElem? (i := 5) rfl)
  have k_math := hts (.initialized "java/lang/Math") (List.mem_of_getElem? (i := 6) rfl)
  have k_cmin := hts (.code Lib.Math.min.name Lib.Math.min.code 2 (some .int)) (List.mem_of_getElem? (i := 7) rfl)
  have k_70 := hts (.constant RX6 70 (-1000000001)) (List.mem_of_getElem? (i := 1) rfl)
  have J30 : ∀ (n : Nat) (x2 : Int32) (x3 : Int32) (rSz : Int32) (rZ : Int32) (rKi : Nat → Int32) (rHe : Nat → Int32) (rDo : Nat → Int32), lp_X6_deal_30 Q n x2 x3 rSz rZ rKi rHe rDo → ∀ (H : Heap) (locs : List Loc), va_P E.1 vwCl (rw_8 E co ro jo qo yo eo cs cl cw rk rh rd rt rl rs cWs cKp rSz rTc rFa rPa rPy rMi rMe rSr rZ rKi rHe rDo rTx rLa rSk ++ rc_tp E LT pk pv pa pn tc) H → va_D A (rw_8 E co ro jo qo yo eo cs cl cw rk rh rd rt rl rs cWs cKp rSz rTc rFa rPa rPy rMi rMe rSr rZ rKi rHe rDo rTx rLa rSk ++ rc_tp E LT pk pv pa pn tc) → va_S A s.heap H locs → ∀ ls : Array Slot, lv_has ls 4 [(0, .ref co), (2, .int x2), (3, .int x3)] → W p l e ({ frames := 2, cells := 0, slots := 0, locals := 47 } : Room) s m args below meth c H locs 0 0 QQ (F0 m 30 ls []) := by
    intro n
    induction n with
    | zero =>
      intro x2 x3 rSz rZ rKi rHe rDo h
      exact False.elim h
    | succ n ih =>
      intro x2 x3 rSz rZ rKi rHe rDo h H locs hP hD hS ls hl
      have h : lp_X6_deal_30F Q (lp_X6_deal_30 Q n) x2 x3 rSz rZ rKi rHe rDo := h
      unfold lp_X6_deal_30F at h
      refine lv_iload_n hx hb dX6_deal_30 rfl (lv_at hl 2 rfl) ?_
      refine lv_iload_n hx hb dX6_deal_31 rfl (lv_at hl 1 rfl) ?_
      refine lv_icmp_ge (tgt := 48) hx hb dX6_deal_32 (by decide) (fun c_1 => ?_) (fun c_1 => ?_)
      · have h := h.1 c_1
        refine lv_iload_n hx hb dX6_deal_48 rfl (lv_at hl 1 rfl) ?_
        exact hret _ _ _ _ x2 (rSz, rZ, rKi, rHe, rDo) rfl h hP hD hS dX6_deal_49
      · have h := h.2 c_1
        refine lv_aload_n hx hb dX6_deal_35 rfl (lv_at hl 0 rfl) ?_
        refine va_get (D := E.1) (ci := 6) (v := .ref ro) (C := RX6) (T := TX6) (N := 10) hx hb hts n_X6 hown hK hP 0 rfl rfl 0 (by decide) k_10 (fun _ h9 => h9) rfl dX6_deal_36 ?_
        have hPc := hP.part (cx := (rw_4 E ro rk rh rd rt rl rs rSz rTc rFa rPa rPy rMi rMe rSr rZ rKi rHe rDo rTx rLa rSk)) [1, 2, 3, 4, 5, 6, 7] rfl
        have hDc := hD.part (cx := (rw_4 E ro rk rh rd rt rl rs rSz rTc rFa rPa rPy rMi rMe rSr rZ rKi rHe rDo rTx rLa rSk)) [1, 2, 3, 4, 5, 6, 7] (by decide) rfl
        have hFc := va_freeP (cx := (rw_4 E ro rk rh rd rt rl rs rSz rTc rFa rPa rPy rMi rMe rSr rZ rKi rHe rDo rTx rLa rSk)) hD hS hA [1, 2, 3, 4, 5, 6, 7] rfl
        refine va_callv (va_runV (As := []) (rest := []) ⟨hx, hb, hml, hown, hts⟩ (c_X1_appendDrawn l E ro rk rh rd rt rl rs H.size rSz rTc rFa rPa rPy rMi rMe rSr rZ rKi rHe rDo rTx rLa rSk LT pk pv pa pn tc _ h) (cwV 0 hts gX6_deal_X1_appendDrawn rfl rfl rfl (by decide +kernel) ⟨Nat.le_of_ble_eq_true rfl, Nat.le_of_ble_eq_true rfl⟩) ⟨fun a U g mk q => ⟨q.1, q.2.blind⟩, va_recv hK hPc (ci := 1) (q0 := 0) rfl rfl, fun U hU hW => ⟨rfl, by rw [hU], by rw [hU]; exact hPc, hE.call hS hFc hW hU, hDc.weaken (fun _ _ _ _ => trivial)⟩⟩ rfl rfl hl.1 rfl (lv_room (Nat.le_of_ble_eq_true rfl)) dX6_deal_39 ⟨Nat.zero_le _, Nat.zero_le _⟩) hS (fun q _ h => hFc q h) hFc (fun u t H1 locs ht hvm h hB hz1 hk1 hS => ?_)
        obtain ⟨w_2, w_3, w_4, w_5, w_6⟩ := u
        obtain ⟨hP1, hD1⟩ := hB
        rw [ht] at hP1
        obtain ⟨hP, hD⟩ := rc_focP hP hD [1, 2, 3, 4, 5, 6, 7] [none, some 0, some 1, some 2, some 3, some 4, some 5, some 6] (by decide) rfl rfl hk1 hP1 rfl
        generalize H1 = H at hP hS ⊢
        have hP : va_P E.1 vwCl (rw_8 E co ro jo qo yo eo cs cl cw rk rh rd rt rl rs cWs cKp w_2 rTc rFa rPa rPy rMi rMe rSr w_3 w_4 w_5 w_6 rTx rLa rSk ++ rc_tp E LT pk pv pa pn tc) H := hP
        have hD : va_D A (rw_8 E co ro jo qo yo eo cs cl cw rk rh rd rt rl rs cWs cKp w_2 rTc rFa rPa rPy rMi rMe rSr w_3 w_4 w_5 w_6 rTx rLa rSk ++ rc_tp E LT pk pv pa pn tc) := hD
        refine lv_iinc (v := x3 + 1) (lv' := [(3, .int (x3 + 1)), (0, .ref co), (2, .int x2)]) hx hb dX6_deal_42 hl (k := 2) rfl (by rfl) (by decide) rfl (fun ls hl => ?_)
        refine lv_goto (tgt := 30) hx hb dX6_deal_45 (by decide) ?_
        exact ih x2 (x3 + 1) w_2 w_3 w_4 w_5 w_6 h _ _ hP hD hS ls (lv_sub hl [1, 2, 0] rfl)
  unfold wp_X6_deal at h
  obtain ⟨H, hH⟩ : ∃ H, H = s.heap := ⟨_, rfl⟩
  obtain ⟨locs, hlocs⟩ : ∃ locs : List Loc, locs = [] := ⟨_, rfl⟩
  have hP : va_P E.1 vwCl (rw_8 E co ro jo qo yo eo cs cl cw rk rh rd rt rl rs cWs cKp rSz rTc rFa rPa rPy rMi rMe rSr rZ rKi rHe rDo rTx rLa rSk ++ rc_tp E LT pk pv pa pn tc) H := by rw [hH]; exact hP
  have hS : va_S A s.heap H locs := by rw [hH, hlocs]; exact hS
  suffices hgo : W p l e ({ frames := 2, cells := 0, slots := 0, locals := 47 } : Room) s m args below meth c H locs 0 0 QQ (F0 m 0 ls []) from by rw [hH, hlocs] at hgo; exact hgo
  refine lv_iload_n hx hb dX6_deal_0 rfl (lv_at hl 1 rfl) ?_
  refine lv_iconst (v := 1) hx hb dX6_deal_1 (by decide) ?_
  refine lv_bipush (v := 24) hx hb dX6_deal_2 (by decide) ?_
  have hPc := hP.sub (ws' := []) [] rfl
  have hDc := hD.sub (ws' := []) [] (by decide) rfl
  have hFc := va_free (wc := []) hD hS hA [] rfl
  refine va_calli (va_runS (As := [.int p1, .int 1, .int 24]) (rest := []) ⟨hx, hb, hml, hown, hts⟩ (c_X6_within l E H.size p1 1 24 _ h) (va_cwS 3 hts gX6_deal_X6_within rfl rfl rfl (by decide +kernel) ⟨Nat.le_of_ble_eq_true rfl, Nat.le_of_ble_eq_true rfl⟩) ⟨fun a U g mk q => ⟨q.1, q.2.blind⟩, fun U hU hW => ⟨rfl, by rw [hU], by rw [hU]; exact hPc, hE.call hS hFc hW hU, hDc.weaken (fun _ _ _ _ => trivial)⟩⟩ rfl rfl hl.1 rfl (lv_room (Nat.le_of_ble_eq_true rfl)) dX6_deal_4 ⟨Nat.zero_le _, Nat.zero_le _⟩) hS (fun q _ h => hFc q h) hFc (fun r_7 u t H1 locs ht hvm h hB hz1 hk1 hS => ?_)
  obtain ⟨hP1, hD1⟩ := hB
  rw [ht] at hP1
  obtain ⟨hP, hD⟩ := rc_foc hP hD [] [none, none, none, none, none, none, none, none] (by decide) rfl hk1 hP1 rfl
  generalize H1 = H at hP hS ⊢
  have hP : va_P E.1 vwCl (rw_8 E co ro jo qo yo eo cs cl cw rk rh rd rt rl rs cWs cKp rSz rTc rFa rPa rPy rMi rMe rSr rZ rKi rHe rDo rTx rLa rSk ++ rc_tp E LT pk pv pa pn tc) H := hP
  have hD : va_D A (rw_8 E co ro jo qo yo eo cs cl cw rk rh rd rt rl rs cWs cKp rSz rTc rFa rPa rPy rMi rMe rSr rZ rKi rHe rDo rTx rLa rSk ++ rc_tp E LT pk pv pa pn tc) := hD
  refine lv_if_ne (tgt := 13) hx hb dX6_deal_7 (by decide) (fun c_8 => ?_) (fun c_8 => ?_)
  · have h := h.1 c_8
    refine lv_iload_n hx hb dX6_deal_13 rfl (lv_at hl 1 rfl) ?_
    refine lv_bipush (v := 24) hx hb dX6_deal_14 (by decide) ?_
    refine lv_aload_n hx hb dX6_deal_16 rfl (lv_at hl 0 rfl) ?_
    refine va_get (D := E.1) (ci := 6) (v := .ref ro) (C := RX6) (T := TX6) (N := 10) hx hb hts n_X6 hown hK hP 0 rfl rfl 0 (by decide) k_10 (fun _ h9 => h9) rfl dX6_deal_17 ?_
    refine va_get (D := E.1) (ci := 1) (v := .int rSz) (C := RX1) (T := TX1) (N := 15) hx hb hts n_X1 hown hK hP 1 rfl rfl 3 (by decide) k_71 (fun _ h9 => h9) rfl dX6_deal_20 ?_
    refine lv_isub hx hb dX6_deal_23 ?_
    refine va_mmin hx hb (hml.trans hl.1.symm) hown k_104 k_smin k_math k_cmin (Nat.le_of_ble_eq_true rfl) (Nat.le_of_ble_eq_true rfl) (Nat.zero_le _) (Nat.zero_le _) dX6_deal_24 ?_
    refine W.eq (g2 := F0 m 27 ls [.int (rc_min p1 (24 - rSz))]) rfl ?_
    refine lv_istore_n (lv' := [(2, .int (rc_min p1 (24 - rSz))), (0, .ref co), (1, .int p1)]) hx hb dX6_deal_27 rfl hl (by decide) rfl (fun ls hl => ?_)
    refine lv_iconst (v := 0) hx hb dX6_deal_28 (by decide) ?_
    refine lv_istore_n (lv' := [(3, .int 0), (2, .int (rc_min p1 (24 - rSz))), (0, .ref co), (1, .int p1)]) hx hb dX6_deal_29 rfl hl (by decide) rfl (fun ls hl => ?_)
    obtain ⟨n, h⟩ := h
    exact J30 n (rc_min p1 (24 - rSz)) 0 rSz rZ rKi rHe rDo h _ _ hP hD hS ls (lv_sub hl [2, 1, 0] rfl)
  · have h := h.2 c_8
    refine lv_ldc hx hb hown k_70 dX6_deal_10 ?_
    exact hret _ _ _ _ (-1000000001) (rSz, rZ, rKi, rHe, rDo) rfl h hP hD hS dX6_deal_12
def wp_X6_seed (p1 : Int32) (rZ : Int32) (Q : Int32 → Int32 → Prop) : Prop :=
  Q rZ p1
set_option maxHeartbeats 4000000 in
set_option maxRecDepth 100000 in
theorem c_X6_seed (l : Launch) (E : gE) (co ro jo qo yo eo cs cl cw rk rh rd rt rl rs : Nat) (sz : Nat) (cWs : Int32) (cKp : Int32) (rSz : Int32) (rTc : Int32) (rFa : Int32) (rPa : Int32) (rPy : Int32) (rMi : Int32) (rMe : Int32) (rSr : Int32) (rZ : Int32) (rKi : Nat → Int32) (rHe : Nat → Int32) (rDo : Nat → Int32) (rTx : Nat → Option Nat) (rLa : Nat → Int32) (rSk : Nat → Int32) (p1 : Int32) (LT : List Nat) (pk : Nat → Int32) (pv : Nat → Int32) (pa : Nat → Nat) (pn : Nat → Nat) (tc : Nat → Nat → Int32) (Q : Int32 → Int32 → Prop) (h : wp_X6_seed p1 rZ Q) : Met l yX6_seed wsX6_seed ({ frames := 0, cells := 0, slots := 0, locals := 0 } : Room) (va_Pc [.ref co, .int p1] (rc_B E (rw_8 E co ro jo qo yo eo cs cl cw rk rh rd rt rl rs cWs cKp rSz rTc rFa rPa rPy rMi rMe rSr rZ rKi rHe rDo rTx rLa rSk ++ rc_tp E LT pk pv pa pn tc) sz)) (va_Qi (S := Int32) (fun (r : Int32) (u : Int32) => Q r u) (fun u t => rc_C E (va_A (rw_8 E co ro jo qo yo eo cs cl cw rk rh rd rt rl rs cWs cKp rSz rTc rFa rPa rPy rMi rMe rSr rZ rKi rHe rDo rTx rLa rSk ++ rc_tp E LT pk pv pa pn tc) sz) (rw_8 E co ro jo qo yo eo cs cl cw rk rh rd rt rl rs cWs cKp rSz rTc rFa rPa rPy rMi rMe rSr u rKi rHe rDo rTx rLa rSk ++ rc_tp E LT pk pv pa pn tc) t) (va_A (rw_8 E co ro jo qo yo eo cs cl cw rk rh rd rt rl rs cWs cKp rSz rTc rFa rPa rPy rMi rMe rSr rZ rKi rHe rDo rTx rLa rSk ++ rc_tp E LT pk pv pa pn tc) sz)) 0 0 (va_A (rw_8 E co ro jo qo yo eo cs cl cw rk rh rd rt rl rs cWs cKp rSz rTc rFa rPa rPy rMi rMe rSr rZ rKi rHe rDo rTx rLa rSk ++ rc_tp E LT pk pv pa pn tc) sz) := by
  refine rc_enterI (cc := cX6_seed) (maxL := 3) (by decide) rfl (Nat.le_of_ble_eq_true rfl) ?_
  intro p e s m args below meth c QQ A hx hb hml hown hts hmn hE hP hD hA hret ls hl
  have hown : s.vm.findClass RX6 = some m.cls := hown
  have hK := hE.1
  have hS : va_S A s.heap s.heap [] := va_S.rf
  have hl : lv_has ls 3 [(0, .ref co), (1, .int p1)] := hl
  have n_X1 : ∀ w ∈ wsX10, w ∈ wsX6_seed := fun _ h => List.mem_cons_of_mem _ (List.mem_append_right _ h)
  have n_X6 : ∀ w ∈ wsX60, w ∈ wsX6_seed := fun _ h => List.mem_cons_of_mem _ (List.mem_append_left _ (List.mem_append_right _ h))
  have k_10 := hts (.fieldLink RX6 10 "RidgeClaps" "ridge" "LRidgeClaps$Ridge;") (List.mem_of_getElem? (i := 1) rfl)
  have k_112 := hts (.fieldLink RX6 112 "RidgeClaps$Ridge" "z" "I") (List.mem_of_getElem? (i := 2) rfl)
  unfold wp_X6_seed at h
  obtain ⟨H, hH⟩ : ∃ H, H = s.heap := ⟨_, rfl⟩
  obtain ⟨locs, hlocs⟩ : ∃ locs : List Loc, locs = [] := ⟨_, rfl⟩
  have hP : va_P E.1 vwCl (rw_8 E co ro jo qo yo eo cs cl cw rk rh rd rt rl rs cWs cKp rSz rTc rFa rPa rPy rMi rMe rSr rZ rKi rHe rDo rTx rLa rSk ++ rc_tp E LT pk pv pa pn tc) H := by rw [hH]; exact hP
  have hS : va_S A s.heap H locs := by rw [hH, hlocs]; exact hS
  suffices hgo : W p l e ({ frames := 0, cells := 0, slots := 0, locals := 0 } : Room) s m args below meth c H locs 0 0 QQ (F0 m 0 ls []) from by rw [hH, hlocs] at hgo; exact hgo
  refine lv_aload_n hx hb dX6_seed_0 rfl (lv_at hl 0 rfl) ?_
  refine va_get (D := E.1) (ci := 6) (v := .ref ro) (C := RX6) (T := TX6) (N := 10) hx hb hts n_X6 hown hK hP 0 rfl rfl 0 (by decide) k_10 (fun _ h9 => h9) rfl dX6_seed_1 ?_
  refine va_get (D := E.1) (ci := 1) (v := .int rZ) (C := RX1) (T := TX1) (N := 15) hx hb hts n_X1 hown hK hP 1 rfl rfl 13 (by decide) k_112 (fun _ h9 => h9) rfl dX6_seed_4 ?_
  refine lv_istore_n (lv' := [(2, .int rZ), (0, .ref co), (1, .int p1)]) hx hb dX6_seed_7 rfl hl (by decide) rfl (fun ls hl => ?_)
  refine lv_aload_n hx hb dX6_seed_8 rfl (lv_at hl 1 rfl) ?_
  refine va_get (D := E.1) (ci := 6) (v := .ref ro) (C := RX6) (T := TX6) (N := 10) hx hb hts n_X6 hown hK hP 0 rfl rfl 0 (by decide) k_10 (fun _ h9 => h9) rfl dX6_seed_9 ?_
  refine lv_iload_n hx hb dX6_seed_12 rfl (lv_at hl 2 rfl) ?_
  refine va_put (D := E.1) (ci := 1) (v := .int p1) (ty := .int) (C := RX1) (T := TX1) (N := 15) hx hb hts n_X1 tyX1 tyX1_ok nmX1 hown hK hP hD hS 1 rfl rfl 13 (by decide) k_112 (fun _ h9 => h9) rfl (by decide +kernel) rfl rfl (Nat.le_of_ble_eq_true rfl) dX6_seed_13 (fun H locs hP hD hS => ?_)
  have hP : va_P E.1 vwCl (rw_8 E co ro jo qo yo eo cs cl cw rk rh rd rt rl rs cWs cKp rSz rTc rFa rPa rPy rMi rMe rSr p1 rKi rHe rDo rTx rLa rSk ++ rc_tp E LT pk pv pa pn tc) H := hP
  have hD : va_D A (rw_8 E co ro jo qo yo eo cs cl cw rk rh rd rt rl rs cWs cKp rSz rTc rFa rPa rPy rMi rMe rSr p1 rKi rHe rDo rTx rLa rSk ++ rc_tp E LT pk pv pa pn tc) := hD
  refine lv_iload_n hx hb dX6_seed_16 rfl (lv_at hl 0 rfl) ?_
  exact hret _ _ _ _ rZ (p1) rfl h hP hD hS dX6_seed_17
def jp_X6_storm_32 (p1 : Int32) (p2 : Int32)  (Q : Int32 → Int32 → Int32 → Prop) (rFa : Int32) (rPa : Int32) : Prop :=
  ((¬ p1 = 1 → Q (-1000000001) rFa rPa) ∧ (p1 = 1 → wp_X6_within p2 (-9) 9 (fun (r_2 : Int32) => ((r_2 = 0 → Q (-1000000001) rFa rPa) ∧ (¬ (r_2 = 0) → Q rPa rFa p2)))))
def wp_X6_storm (p1 : Int32) (p2 : Int32) (rFa : Int32) (rPa : Int32) (Q : Int32 → Int32 → Int32 → Prop) : Prop :=
  ((¬ p1 = 0 → jp_X6_storm_32 p1 p2 Q rFa rPa) ∧ (p1 = 0 → wp_X6_within p2 0 99 (fun (r_5 : Int32) => ((r_5 = 0 → jp_X6_storm_32 p1 p2 Q rFa rPa) ∧ (¬ (r_5 = 0) → Q rFa p2 rPa)))))
set_option maxHeartbeats 4000000 in
set_option maxRecDepth 100000 in
theorem c_X6_storm (l : Launch) (E : gE) (co ro jo qo yo eo cs cl cw rk rh rd rt rl rs : Nat) (sz : Nat) (cWs : Int32) (cKp : Int32) (rSz : Int32) (rTc : Int32) (rFa : Int32) (rPa : Int32) (rPy : Int32) (rMi : Int32) (rMe : Int32) (rSr : Int32) (rZ : Int32) (rKi : Nat → Int32) (rHe : Nat → Int32) (rDo : Nat → Int32) (rTx : Nat → Option Nat) (rLa : Nat → Int32) (rSk : Nat → Int32) (p1 p2 : Int32) (LT : List Nat) (pk : Nat → Int32) (pv : Nat → Int32) (pa : Nat → Nat) (pn : Nat → Nat) (tc : Nat → Nat → Int32) (Q : Int32 → Int32 → Int32 → Prop) (h : wp_X6_storm p1 p2 rFa rPa Q) : Met l yX6_storm wsX6_storm ({ frames := 1, cells := 0, slots := 0, locals := 22 } : Room) (va_Pc [.ref co, .int p1, .int p2] (rc_B E (rw_8 E co ro jo qo yo eo cs cl cw rk rh rd rt rl rs cWs cKp rSz rTc rFa rPa rPy rMi rMe rSr rZ rKi rHe rDo rTx rLa rSk ++ rc_tp E LT pk pv pa pn tc) sz)) (va_Qi (S := Int32 × Int32) (fun (r : Int32) (u : Int32 × Int32) => Q r u.1 u.2) (fun u t => rc_C E (va_A (rw_8 E co ro jo qo yo eo cs cl cw rk rh rd rt rl rs cWs cKp rSz rTc rFa rPa rPy rMi rMe rSr rZ rKi rHe rDo rTx rLa rSk ++ rc_tp E LT pk pv pa pn tc) sz) (rw_8 E co ro jo qo yo eo cs cl cw rk rh rd rt rl rs cWs cKp rSz rTc u.1 u.2 rPy rMi rMe rSr rZ rKi rHe rDo rTx rLa rSk ++ rc_tp E LT pk pv pa pn tc) t) (va_A (rw_8 E co ro jo qo yo eo cs cl cw rk rh rd rt rl rs cWs cKp rSz rTc rFa rPa rPy rMi rMe rSr rZ rKi rHe rDo rTx rLa rSk ++ rc_tp E LT pk pv pa pn tc) sz)) 0 0 (va_A (rw_8 E co ro jo qo yo eo cs cl cw rk rh rd rt rl rs cWs cKp rSz rTc rFa rPa rPy rMi rMe rSr rZ rKi rHe rDo rTx rLa rSk ++ rc_tp E LT pk pv pa pn tc) sz) := by
  refine rc_enterI (cc := cX6_storm) (maxL := 4) (by decide) rfl (Nat.le_of_ble_eq_true rfl) ?_
  intro p e s m args below meth c QQ A hx hb hml hown hts hmn hE hP hD hA hret ls hl
  have hown : s.vm.findClass RX6 = some m.cls := hown
  have hK := hE.1
  have hS : va_S A s.heap s.heap [] := va_S.rf
  have hl : lv_has ls 4 [(0, .ref co), (1, .int p1), (2, .int p2)] := hl
  have n_X1 : ∀ w ∈ wsX10, w ∈ wsX6_storm := fun _ h => List.mem_cons_of_mem _ (List.mem_append_right _ h)
  have n_X6 : ∀ w ∈ wsX60, w ∈ wsX6_storm := fun _ h => List.mem_cons_of_mem _ (List.mem_append_left _ (List.mem_append_right _ h))
  have k_70 := hts (.constant RX6 70 (-1000000001)) (List.mem_of_getElem? (i := 4) rfl)
  have k_10 := hts (.fieldLink RX6 10 "RidgeClaps" "ridge" "LRidgeClaps$Ridge;") (List.mem_of_getElem? (i := 1) rfl)
  have k_118 := hts (.fieldLink RX6 118 "RidgeClaps$Ridge" "pace" "I") (List.mem_of_getElem? (i := 3) rfl)
  have k_115 := hts (.fieldLink RX6 115 "RidgeClaps$Ridge" "far" "I") (List.mem_of_getElem? (i := 2) rfl)
  have J32 : ∀ (rFa : Int32) (rPa : Int32), jp_X6_storm_32 p1 p2 Q rFa rPa → ∀ (H : Heap) (locs : List Loc), va_P E.1 vwCl (rw_8 E co ro jo qo yo eo cs cl cw rk rh rd rt rl rs cWs cKp rSz rTc rFa rPa rPy rMi rMe rSr rZ rKi rHe rDo rTx rLa rSk ++ rc_tp E LT pk pv pa pn tc) H → va_D A (rw_8 E co ro jo qo yo eo cs cl cw rk rh rd rt rl rs cWs cKp rSz rTc rFa rPa rPy rMi rMe rSr rZ rKi rHe rDo rTx rLa rSk ++ rc_tp E LT pk pv pa pn tc) → va_S A s.heap H locs → ∀ ls : Array Slot, lv_has ls 4 [(0, .ref co), (1, .int p1), (2, .int p2)] → W p l e ({ frames := 1, cells := 0, slots := 0, locals := 22 } : Room) s m args below meth c H locs 0 0 QQ (F0 m 32 ls []) := by
    intro rFa rPa h H locs hP hD hS ls hl
    unfold jp_X6_storm_32 at h
    refine lv_iload_n hx hb dX6_storm_32 rfl (lv_at hl 1 rfl) ?_
    refine lv_iconst (v := 1) hx hb dX6_storm_33 (by decide) ?_
    refine lv_icmp_ne (tgt := 66) hx hb dX6_storm_34 (by decide) (fun c_1 => ?_) (fun c_1 => ?_)
    · have h := h.1 c_1
      refine lv_ldc hx hb hown k_70 dX6_storm_66 ?_
      exact hret _ _ _ _ (-1000000001) (rFa, rPa) rfl h hP hD hS dX6_storm_68
    · have h := h.2 c_1
      refine lv_iload_n hx hb dX6_storm_37 rfl (lv_at hl 2 rfl) ?_
      refine lv_bipush (v := (-9)) hx hb dX6_storm_38 (by decide) ?_
      refine lv_bipush (v := 9) hx hb dX6_storm_40 (by decide) ?_
      have hPc := hP.sub (ws' := []) [] rfl
      have hDc := hD.sub (ws' := []) [] (by decide) rfl
      have hFc := va_free (wc := []) hD hS hA [] rfl
      refine va_calli (va_runS (As := [.int p2, .int (-9), .int 9]) (rest := []) ⟨hx, hb, hml, hown, hts⟩ (c_X6_within l E H.size p2 (-9) 9 _ h) (va_cwS 3 hts gX6_storm_X6_within rfl rfl rfl (by decide +kernel) ⟨Nat.le_of_ble_eq_true rfl, Nat.le_of_ble_eq_true rfl⟩) ⟨fun a U g mk q => ⟨q.1, q.2.blind⟩, fun U hU hW => ⟨rfl, by rw [hU], by rw [hU]; exact hPc, hE.call hS hFc hW hU, hDc.weaken (fun _ _ _ _ => trivial)⟩⟩ rfl rfl hl.1 rfl (lv_room (Nat.le_of_ble_eq_true rfl)) dX6_storm_42 ⟨Nat.zero_le _, Nat.zero_le _⟩) hS (fun q _ h => hFc q h) hFc (fun r_2 u t H1 locs ht hvm h hB hz1 hk1 hS => ?_)
      obtain ⟨hP1, hD1⟩ := hB
      rw [ht] at hP1
      obtain ⟨hP, hD⟩ := rc_foc hP hD [] [none, none, none, none, none, none, none, none] (by decide) rfl hk1 hP1 rfl
      generalize H1 = H at hP hS ⊢
      have hP : va_P E.1 vwCl (rw_8 E co ro jo qo yo eo cs cl cw rk rh rd rt rl rs cWs cKp rSz rTc rFa rPa rPy rMi rMe rSr rZ rKi rHe rDo rTx rLa rSk ++ rc_tp E LT pk pv pa pn tc) H := hP
      have hD : va_D A (rw_8 E co ro jo qo yo eo cs cl cw rk rh rd rt rl rs cWs cKp rSz rTc rFa rPa rPy rMi rMe rSr rZ rKi rHe rDo rTx rLa rSk ++ rc_tp E LT pk pv pa pn tc) := hD
      refine lv_if_eq (tgt := 66) hx hb dX6_storm_45 (by decide) (fun c_3 => ?_) (fun c_3 => ?_)
      · have h := h.1 c_3
        refine lv_ldc hx hb hown k_70 dX6_storm_66 ?_
        exact hret _ _ _ _ (-1000000001) (rFa, rPa) rfl h hP hD hS dX6_storm_68
      · have h := h.2 c_3
        refine lv_aload_n hx hb dX6_storm_48 rfl (lv_at hl 0 rfl) ?_
        refine va_get (D := E.1) (ci := 6) (v := .ref ro) (C := RX6) (T := TX6) (N := 10) hx hb hts n_X6 hown hK hP 0 rfl rfl 0 (by decide) k_10 (fun _ h9 => h9) rfl dX6_storm_49 ?_
        refine va_get (D := E.1) (ci := 1) (v := .int rPa) (C := RX1) (T := TX1) (N := 15) hx hb hts n_X1 hown hK hP 1 rfl rfl 8 (by decide) k_118 (fun _ h9 => h9) rfl dX6_storm_52 ?_
        refine lv_istore_n (lv' := [(3, .int rPa), (0, .ref co), (1, .int p1), (2, .int p2)]) hx hb dX6_storm_55 rfl hl (by decide) rfl (fun ls hl => ?_)
        refine lv_aload_n hx hb dX6_storm_56 rfl (lv_at hl 1 rfl) ?_
        refine va_get (D := E.1) (ci := 6) (v := .ref ro) (C := RX6) (T := TX6) (N := 10) hx hb hts n_X6 hown hK hP 0 rfl rfl 0 (by decide) k_10 (fun _ h9 => h9) rfl dX6_storm_57 ?_
        refine lv_iload_n hx hb dX6_storm_60 rfl (lv_at hl 3 rfl) ?_
        refine va_put (D := E.1) (ci := 1) (v := .int p2) (ty := .int) (C := RX1) (T := TX1) (N := 15) hx hb hts n_X1 tyX1 tyX1_ok nmX1 hown hK hP hD hS 1 rfl rfl 8 (by decide) k_118 (fun _ h9 => h9) rfl (by decide +kernel) rfl rfl (Nat.le_of_ble_eq_true rfl) dX6_storm_61 (fun H locs hP hD hS => ?_)
        have hP : va_P E.1 vwCl (rw_8 E co ro jo qo yo eo cs cl cw rk rh rd rt rl rs cWs cKp rSz rTc rFa p2 rPy rMi rMe rSr rZ rKi rHe rDo rTx rLa rSk ++ rc_tp E LT pk pv pa pn tc) H := hP
        have hD : va_D A (rw_8 E co ro jo qo yo eo cs cl cw rk rh rd rt rl rs cWs cKp rSz rTc rFa p2 rPy rMi rMe rSr rZ rKi rHe rDo rTx rLa rSk ++ rc_tp E LT pk pv pa pn tc) := hD
        refine lv_iload_n hx hb dX6_storm_64 rfl (lv_at hl 0 rfl) ?_
        exact hret _ _ _ _ rPa (rFa, p2) rfl h hP hD hS dX6_storm_65
  unfold wp_X6_storm at h
  obtain ⟨H, hH⟩ : ∃ H, H = s.heap := ⟨_, rfl⟩
  obtain ⟨locs, hlocs⟩ : ∃ locs : List Loc, locs = [] := ⟨_, rfl⟩
  have hP : va_P E.1 vwCl (rw_8 E co ro jo qo yo eo cs cl cw rk rh rd rt rl rs cWs cKp rSz rTc rFa rPa rPy rMi rMe rSr rZ rKi rHe rDo rTx rLa rSk ++ rc_tp E LT pk pv pa pn tc) H := by rw [hH]; exact hP
  have hS : va_S A s.heap H locs := by rw [hH, hlocs]; exact hS
  suffices hgo : W p l e ({ frames := 1, cells := 0, slots := 0, locals := 22 } : Room) s m args below meth c H locs 0 0 QQ (F0 m 0 ls []) from by rw [hH, hlocs] at hgo; exact hgo
  refine lv_iload_n hx hb dX6_storm_0 rfl (lv_at hl 1 rfl) ?_
  refine lv_if_ne (tgt := 32) hx hb dX6_storm_1 (by decide) (fun c_4 => ?_) (fun c_4 => ?_)
  · have h := h.1 c_4
    exact J32 rFa rPa h _ _ hP hD hS ls (lv_sub hl [0, 1, 2] rfl)
  · have h := h.2 c_4
    refine lv_iload_n hx hb dX6_storm_4 rfl (lv_at hl 2 rfl) ?_
    refine lv_iconst (v := 0) hx hb dX6_storm_5 (by decide) ?_
    refine lv_bipush (v := 99) hx hb dX6_storm_6 (by decide) ?_
    have hPc := hP.sub (ws' := []) [] rfl
    have hDc := hD.sub (ws' := []) [] (by decide) rfl
    have hFc := va_free (wc := []) hD hS hA [] rfl
    refine va_calli (va_runS (As := [.int p2, .int 0, .int 99]) (rest := []) ⟨hx, hb, hml, hown, hts⟩ (c_X6_within l E H.size p2 0 99 _ h) (va_cwS 3 hts gX6_storm_X6_within rfl rfl rfl (by decide +kernel) ⟨Nat.le_of_ble_eq_true rfl, Nat.le_of_ble_eq_true rfl⟩) ⟨fun a U g mk q => ⟨q.1, q.2.blind⟩, fun U hU hW => ⟨rfl, by rw [hU], by rw [hU]; exact hPc, hE.call hS hFc hW hU, hDc.weaken (fun _ _ _ _ => trivial)⟩⟩ rfl rfl hl.1 rfl (lv_room (Nat.le_of_ble_eq_true rfl)) dX6_storm_8 ⟨Nat.zero_le _, Nat.zero_le _⟩) hS (fun q _ h => hFc q h) hFc (fun r_5 u t H1 locs ht hvm h hB hz1 hk1 hS => ?_)
    obtain ⟨hP1, hD1⟩ := hB
    rw [ht] at hP1
    obtain ⟨hP, hD⟩ := rc_foc hP hD [] [none, none, none, none, none, none, none, none] (by decide) rfl hk1 hP1 rfl
    generalize H1 = H at hP hS ⊢
    have hP : va_P E.1 vwCl (rw_8 E co ro jo qo yo eo cs cl cw rk rh rd rt rl rs cWs cKp rSz rTc rFa rPa rPy rMi rMe rSr rZ rKi rHe rDo rTx rLa rSk ++ rc_tp E LT pk pv pa pn tc) H := hP
    have hD : va_D A (rw_8 E co ro jo qo yo eo cs cl cw rk rh rd rt rl rs cWs cKp rSz rTc rFa rPa rPy rMi rMe rSr rZ rKi rHe rDo rTx rLa rSk ++ rc_tp E LT pk pv pa pn tc) := hD
    refine lv_if_eq (tgt := 32) hx hb dX6_storm_11 (by decide) (fun c_6 => ?_) (fun c_6 => ?_)
    · have h := h.1 c_6
      exact J32 rFa rPa h _ _ hP hD hS ls (lv_sub hl [0, 1, 2] rfl)
    · have h := h.2 c_6
      refine lv_aload_n hx hb dX6_storm_14 rfl (lv_at hl 0 rfl) ?_
      refine va_get (D := E.1) (ci := 6) (v := .ref ro) (C := RX6) (T := TX6) (N := 10) hx hb hts n_X6 hown hK hP 0 rfl rfl 0 (by decide) k_10 (fun _ h9 => h9) rfl dX6_storm_15 ?_
      refine va_get (D := E.1) (ci := 1) (v := .int rFa) (C := RX1) (T := TX1) (N := 15) hx hb hts n_X1 hown hK hP 1 rfl rfl 7 (by decide) k_115 (fun _ h9 => h9) rfl dX6_storm_18 ?_
      refine lv_istore_n (lv' := [(3, .int rFa), (0, .ref co), (1, .int p1), (2, .int p2)]) hx hb dX6_storm_21 rfl hl (by decide) rfl (fun ls hl => ?_)
      refine lv_aload_n hx hb dX6_storm_22 rfl (lv_at hl 1 rfl) ?_
      refine va_get (D := E.1) (ci := 6) (v := .ref ro) (C := RX6) (T := TX6) (N := 10) hx hb hts n_X6 hown hK hP 0 rfl rfl 0 (by decide) k_10 (fun _ h9 => h9) rfl dX6_storm_23 ?_
      refine lv_iload_n hx hb dX6_storm_26 rfl (lv_at hl 3 rfl) ?_
      refine va_put (D := E.1) (ci := 1) (v := .int p2) (ty := .int) (C := RX1) (T := TX1) (N := 15) hx hb hts n_X1 tyX1 tyX1_ok nmX1 hown hK hP hD hS 1 rfl rfl 7 (by decide) k_115 (fun _ h9 => h9) rfl (by decide +kernel) rfl rfl (Nat.le_of_ble_eq_true rfl) dX6_storm_27 (fun H locs hP hD hS => ?_)
      have hP : va_P E.1 vwCl (rw_8 E co ro jo qo yo eo cs cl cw rk rh rd rt rl rs cWs cKp rSz rTc p2 rPa rPy rMi rMe rSr rZ rKi rHe rDo rTx rLa rSk ++ rc_tp E LT pk pv pa pn tc) H := hP
      have hD : va_D A (rw_8 E co ro jo qo yo eo cs cl cw rk rh rd rt rl rs cWs cKp rSz rTc p2 rPa rPy rMi rMe rSr rZ rKi rHe rDo rTx rLa rSk ++ rc_tp E LT pk pv pa pn tc) := hD
      refine lv_iload_n hx hb dX6_storm_30 rfl (lv_at hl 0 rfl) ?_
      exact hret _ _ _ _ rFa (p2, rPa) rfl h hP hD hS dX6_storm_31
def wp_X6_sky (p1 : Int32) (p2 : Int32) (rFa : Int32) (rPa : Int32) (rTx : Nat → Option Nat) (rLa : Nat → Int32) (rSk : Nat → Int32) (LT : List Nat) (pn : Nat → Nat) (tc : Nat → Nat → Int32) (Q : Int32 → (Nat → Int32) → Prop) : Prop :=
  wp_X6_within p1 0 60 (fun (r_1 : Int32) => ((r_1 = 0 → Q (-1000000001) rSk) ∧ (¬ (r_1 = 0) → wp_X6_within p2 0 1 (fun (r_3 : Int32) => ((¬ r_3 = 0 → ((¬ p2 = 0 → wp_X1_oddsIn p1 rFa rPa rTx rLa rSk LT pn tc (fun (r_6 : Int32) (w_7 : Nat → Int32) => Q r_6 w_7)) ∧ (p2 = 0 → wp_X1_farIn p1 rFa rPa (fun (r_8 : Int32) => Q r_8 rSk)))) ∧ (r_3 = 0 → Q (-1000000001) rSk))))))
set_option maxHeartbeats 4000000 in
set_option maxRecDepth 100000 in
theorem c_X6_sky (l : Launch) (E : gE) (co ro jo qo yo eo cs cl cw rk rh rd rt rl rs : Nat) (sz : Nat) (cWs : Int32) (cKp : Int32) (rSz : Int32) (rTc : Int32) (rFa : Int32) (rPa : Int32) (rPy : Int32) (rMi : Int32) (rMe : Int32) (rSr : Int32) (rZ : Int32) (rKi : Nat → Int32) (rHe : Nat → Int32) (rDo : Nat → Int32) (rTx : Nat → Option Nat) (rLa : Nat → Int32) (rSk : Nat → Int32) (p1 p2 : Int32) (LT : List Nat) (pk : Nat → Int32) (pv : Nat → Int32) (pa : Nat → Nat) (pn : Nat → Nat) (tc : Nat → Nat → Int32) (Q : Int32 → (Nat → Int32) → Prop) (h : wp_X6_sky p1 p2 rFa rPa rTx rLa rSk LT pn tc Q) : Met l yX6_sky wsX6_sky ({ frames := 4, cells := 0, slots := 0, locals := 105 } : Room) (va_Pc [.ref co, .int p1, .int p2] (rc_B E (rw_8 E co ro jo qo yo eo cs cl cw rk rh rd rt rl rs cWs cKp rSz rTc rFa rPa rPy rMi rMe rSr rZ rKi rHe rDo rTx rLa rSk ++ rc_tp E LT pk pv pa pn tc) sz)) (va_Qi (S := (Nat → Int32)) (fun (r : Int32) (u : (Nat → Int32)) => Q r u) (fun u t => rc_C E (va_A (rw_8 E co ro jo qo yo eo cs cl cw rk rh rd rt rl rs cWs cKp rSz rTc rFa rPa rPy rMi rMe rSr rZ rKi rHe rDo rTx rLa rSk ++ rc_tp E LT pk pv pa pn tc) sz) (rw_8 E co ro jo qo yo eo cs cl cw rk rh rd rt rl rs cWs cKp rSz rTc rFa rPa rPy rMi rMe rSr rZ rKi rHe rDo rTx rLa u ++ rc_tp E LT pk pv pa pn tc) t) (va_A (rw_8 E co ro jo qo yo eo cs cl cw rk rh rd rt rl rs cWs cKp rSz rTc rFa rPa rPy rMi rMe rSr rZ rKi rHe rDo rTx rLa rSk ++ rc_tp E LT pk pv pa pn tc) sz)) 0 0 (va_A (rw_8 E co ro jo qo yo eo cs cl cw rk rh rd rt rl rs cWs cKp rSz rTc rFa rPa rPy rMi rMe rSr rZ rKi rHe rDo rTx rLa rSk ++ rc_tp E LT pk pv pa pn tc) sz) := by
  refine rc_enterI (cc := cX6_sky) (maxL := 3) (by decide) rfl (Nat.le_of_ble_eq_true rfl) ?_
  intro p e s m args below meth c QQ A hx hb hml hown hts hmn hE hP hD hA hret ls hl
  have hown : s.vm.findClass RX6 = some m.cls := hown
  have hK := hE.1
  have hS : va_S A s.heap s.heap [] := va_S.rf
  have hl : lv_has ls 3 [(0, .ref co), (1, .int p1), (2, .int p2)] := hl
  have n_X6 : ∀ w ∈ wsX60, w ∈ wsX6_sky := fun _ h => List.mem_cons_of_mem _ (List.mem_append_left _ (List.mem_append_left _ (List.mem_append_right _ h)))
  have k_70 := hts (.constant RX6 70 (-1000000001)) (List.mem_of_getElem? (i := 1) rfl)
  have k_10 := hts (.fieldLink RX6 10 "RidgeClaps" "ridge" "LRidgeClaps$Ridge;") (List.mem_of_getElem? (i := 2) rfl)
  unfold wp_X6_sky at h
  obtain ⟨H, hH⟩ : ∃ H, H = s.heap := ⟨_, rfl⟩
  obtain ⟨locs, hlocs⟩ : ∃ locs : List Loc, locs = [] := ⟨_, rfl⟩
  have hP : va_P E.1 vwCl (rw_8 E co ro jo qo yo eo cs cl cw rk rh rd rt rl rs cWs cKp rSz rTc rFa rPa rPy rMi rMe rSr rZ rKi rHe rDo rTx rLa rSk ++ rc_tp E LT pk pv pa pn tc) H := by rw [hH]; exact hP
  have hS : va_S A s.heap H locs := by rw [hH, hlocs]; exact hS
  suffices hgo : W p l e ({ frames := 4, cells := 0, slots := 0, locals := 105 } : Room) s m args below meth c H locs 0 0 QQ (F0 m 0 ls []) from by rw [hH, hlocs] at hgo; exact hgo
  refine lv_iload_n hx hb dX6_sky_0 rfl (lv_at hl 1 rfl) ?_
  refine lv_iconst (v := 0) hx hb dX6_sky_1 (by decide) ?_
  refine lv_bipush (v := 60) hx hb dX6_sky_2 (by decide) ?_
  have hPc := hP.sub (ws' := []) [] rfl
  have hDc := hD.sub (ws' := []) [] (by decide) rfl
  have hFc := va_free (wc := []) hD hS hA [] rfl
  refine va_calli (va_runS (As := [.int p1, .int 0, .int 60]) (rest := []) ⟨hx, hb, hml, hown, hts⟩ (c_X6_within l E H.size p1 0 60 _ h) (va_cwS 3 hts gX6_sky_X6_within rfl rfl rfl (by decide +kernel) ⟨Nat.le_of_ble_eq_true rfl, Nat.le_of_ble_eq_true rfl⟩) ⟨fun a U g mk q => ⟨q.1, q.2.blind⟩, fun U hU hW => ⟨rfl, by rw [hU], by rw [hU]; exact hPc, hE.call hS hFc hW hU, hDc.weaken (fun _ _ _ _ => trivial)⟩⟩ rfl rfl hl.1 rfl (lv_room (Nat.le_of_ble_eq_true rfl)) dX6_sky_4 ⟨Nat.zero_le _, Nat.zero_le _⟩) hS (fun q _ h => hFc q h) hFc (fun r_1 u t H1 locs ht hvm h hB hz1 hk1 hS => ?_)
  obtain ⟨hP1, hD1⟩ := hB
  rw [ht] at hP1
  obtain ⟨hP, hD⟩ := rc_foc hP hD [] [none, none, none, none, none, none, none, none] (by decide) rfl hk1 hP1 rfl
  generalize H1 = H at hP hS ⊢
  have hP : va_P E.1 vwCl (rw_8 E co ro jo qo yo eo cs cl cw rk rh rd rt rl rs cWs cKp rSz rTc rFa rPa rPy rMi rMe rSr rZ rKi rHe rDo rTx rLa rSk ++ rc_tp E LT pk pv pa pn tc) H := hP
  have hD : va_D A (rw_8 E co ro jo qo yo eo cs cl cw rk rh rd rt rl rs cWs cKp rSz rTc rFa rPa rPy rMi rMe rSr rZ rKi rHe rDo rTx rLa rSk ++ rc_tp E LT pk pv pa pn tc) := hD
  refine lv_if_eq (tgt := 19) hx hb dX6_sky_7 (by decide) (fun c_2 => ?_) (fun c_2 => ?_)
  · have h := h.1 c_2
    refine lv_ldc hx hb hown k_70 dX6_sky_19 ?_
    exact hret _ _ _ _ (-1000000001) (rSk) rfl h hP hD hS dX6_sky_21
  · have h := h.2 c_2
    refine lv_iload_n hx hb dX6_sky_10 rfl (lv_at hl 2 rfl) ?_
    refine lv_iconst (v := 0) hx hb dX6_sky_11 (by decide) ?_
    refine lv_iconst (v := 1) hx hb dX6_sky_12 (by decide) ?_
    have hPc := hP.sub (ws' := []) [] rfl
    have hDc := hD.sub (ws' := []) [] (by decide) rfl
    have hFc := va_free (wc := []) hD hS hA [] rfl
    refine va_calli (va_runS (As := [.int p2, .int 0, .int 1]) (rest := []) ⟨hx, hb, hml, hown, hts⟩ (c_X6_within l E H.size p2 0 1 _ h) (va_cwS 3 hts gX6_sky_X6_within rfl rfl rfl (by decide +kernel) ⟨Nat.le_of_ble_eq_true rfl, Nat.le_of_ble_eq_true rfl⟩) ⟨fun a U g mk q => ⟨q.1, q.2.blind⟩, fun U hU hW => ⟨rfl, by rw [hU], by rw [hU]; exact hPc, hE.call hS hFc hW hU, hDc.weaken (fun _ _ _ _ => trivial)⟩⟩ rfl rfl hl.1 rfl (lv_room (Nat.le_of_ble_eq_true rfl)) dX6_sky_13 ⟨Nat.zero_le _, Nat.zero_le _⟩) hS (fun q _ h => hFc q h) hFc (fun r_3 u t H1 locs ht hvm h hB hz1 hk1 hS => ?_)
    obtain ⟨hP1, hD1⟩ := hB
    rw [ht] at hP1
    obtain ⟨hP, hD⟩ := rc_foc hP hD [] [none, none, none, none, none, none, none, none] (by decide) rfl hk1 hP1 rfl
    generalize H1 = H at hP hS ⊢
    have hP : va_P E.1 vwCl (rw_8 E co ro jo qo yo eo cs cl cw rk rh rd rt rl rs cWs cKp rSz rTc rFa rPa rPy rMi rMe rSr rZ rKi rHe rDo rTx rLa rSk ++ rc_tp E LT pk pv pa pn tc) H := hP
    have hD : va_D A (rw_8 E co ro jo qo yo eo cs cl cw rk rh rd rt rl rs cWs cKp rSz rTc rFa rPa rPy rMi rMe rSr rZ rKi rHe rDo rTx rLa rSk ++ rc_tp E LT pk pv pa pn tc) := hD
    refine lv_if_ne (tgt := 22) hx hb dX6_sky_16 (by decide) (fun c_4 => ?_) (fun c_4 => ?_)
    · have h := h.1 c_4
      refine lv_iload_n hx hb dX6_sky_22 rfl (lv_at hl 2 rfl) ?_
      refine lv_if_ne (tgt := 37) hx hb dX6_sky_23 (by decide) (fun c_5 => ?_) (fun c_5 => ?_)
      · have h := h.1 c_5
        refine lv_aload_n hx hb dX6_sky_37 rfl (lv_at hl 0 rfl) ?_
        refine va_get (D := E.1) (ci := 6) (v := .ref ro) (C := RX6) (T := TX6) (N := 10) hx hb hts n_X6 hown hK hP 0 rfl rfl 0 (by decide) k_10 (fun _ h9 => h9) rfl dX6_sky_38 ?_
        refine lv_iload_n hx hb dX6_sky_41 rfl (lv_at hl 1 rfl) ?_
        have hPc := hP.part (cx := (rw_4 E ro rk rh rd rt rl rs rSz rTc rFa rPa rPy rMi rMe rSr rZ rKi rHe rDo rTx rLa rSk)) [1, 2, 3, 4, 5, 6, 7] rfl
        have hDc := hD.part (cx := (rw_4 E ro rk rh rd rt rl rs rSz rTc rFa rPa rPy rMi rMe rSr rZ rKi rHe rDo rTx rLa rSk)) [1, 2, 3, 4, 5, 6, 7] (by decide) rfl
        have hFc := va_freeP (cx := (rw_4 E ro rk rh rd rt rl rs rSz rTc rFa rPa rPy rMi rMe rSr rZ rKi rHe rDo rTx rLa rSk)) hD hS hA [1, 2, 3, 4, 5, 6, 7] rfl
        refine va_calli (va_runV (As := [.int p1]) (rest := []) ⟨hx, hb, hml, hown, hts⟩ (c_X1_oddsIn l E ro rk rh rd rt rl rs H.size rSz rTc rFa rPa rPy rMi rMe rSr rZ rKi rHe rDo rTx rLa rSk p1 LT pk pv pa pn tc _ h) (cwV 1 hts gX6_sky_X1_oddsIn rfl rfl rfl (by decide +kernel) ⟨Nat.le_of_ble_eq_true rfl, Nat.le_of_ble_eq_true rfl⟩) ⟨fun a U g mk q => ⟨q.1, q.2.blind⟩, va_recv hK hPc (ci := 1) (q0 := 0) rfl rfl, fun U hU hW => ⟨rfl, by rw [hU], by rw [hU]; exact hPc, hE.call hS hFc hW hU, hDc.weaken (fun _ _ _ _ => trivial)⟩⟩ rfl rfl hl.1 rfl (lv_room (Nat.le_of_ble_eq_true rfl)) dX6_sky_42 ⟨Nat.zero_le _, Nat.zero_le _⟩) hS (fun q _ h => hFc q h) hFc (fun r_6 u t H1 locs ht hvm h hB hz1 hk1 hS => ?_)
        obtain ⟨w_7, rfl⟩ : ∃ z, z = u := ⟨_, rfl⟩
        obtain ⟨hP1, hD1⟩ := hB
        rw [ht] at hP1
        obtain ⟨hP, hD⟩ := rc_focP hP hD [1, 2, 3, 4, 5, 6, 7] [none, some 0, some 1, some 2, some 3, some 4, some 5, some 6] (by decide) rfl rfl hk1 hP1 rfl
        generalize H1 = H at hP hS ⊢
        have hP : va_P E.1 vwCl (rw_8 E co ro jo qo yo eo cs cl cw rk rh rd rt rl rs cWs cKp rSz rTc rFa rPa rPy rMi rMe rSr rZ rKi rHe rDo rTx rLa w_7 ++ rc_tp E LT pk pv pa pn tc) H := hP
        have hD : va_D A (rw_8 E co ro jo qo yo eo cs cl cw rk rh rd rt rl rs cWs cKp rSz rTc rFa rPa rPy rMi rMe rSr rZ rKi rHe rDo rTx rLa w_7 ++ rc_tp E LT pk pv pa pn tc) := hD
        exact hret _ _ _ _ r_6 (w_7) rfl h hP hD hS dX6_sky_45
      · have h := h.2 c_5
        refine lv_aload_n hx hb dX6_sky_26 rfl (lv_at hl 0 rfl) ?_
        refine va_get (D := E.1) (ci := 6) (v := .ref ro) (C := RX6) (T := TX6) (N := 10) hx hb hts n_X6 hown hK hP 0 rfl rfl 0 (by decide) k_10 (fun _ h9 => h9) rfl dX6_sky_27 ?_
        refine lv_iload_n hx hb dX6_sky_30 rfl (lv_at hl 1 rfl) ?_
        have hPc := hP.part (cx := (rw_4 E ro rk rh rd rt rl rs rSz rTc rFa rPa rPy rMi rMe rSr rZ rKi rHe rDo rTx rLa rSk)) [1, 2, 3, 4, 5, 6, 7] rfl
        have hDc := hD.part (cx := (rw_4 E ro rk rh rd rt rl rs rSz rTc rFa rPa rPy rMi rMe rSr rZ rKi rHe rDo rTx rLa rSk)) [1, 2, 3, 4, 5, 6, 7] (by decide) rfl
        have hFc := va_freeP (cx := (rw_4 E ro rk rh rd rt rl rs rSz rTc rFa rPa rPy rMi rMe rSr rZ rKi rHe rDo rTx rLa rSk)) hD hS hA [1, 2, 3, 4, 5, 6, 7] rfl
        refine va_calli (va_runV (As := [.int p1]) (rest := []) ⟨hx, hb, hml, hown, hts⟩ (c_X1_farIn l E ro rk rh rd rt rl rs H.size rSz rTc rFa rPa rPy rMi rMe rSr rZ rKi rHe rDo rTx rLa rSk p1 LT pk pv pa pn tc _ h) (cwV 1 hts gX6_sky_X1_farIn rfl rfl rfl (by decide +kernel) ⟨Nat.le_of_ble_eq_true rfl, Nat.le_of_ble_eq_true rfl⟩) ⟨fun a U g mk q => ⟨q.1, q.2.blind⟩, va_recv hK hPc (ci := 1) (q0 := 0) rfl rfl, fun U hU hW => ⟨rfl, by rw [hU], by rw [hU]; exact hPc, hE.call hS hFc hW hU, hDc.weaken (fun _ _ _ _ => trivial)⟩⟩ rfl rfl hl.1 rfl (lv_room (Nat.le_of_ble_eq_true rfl)) dX6_sky_31 ⟨Nat.zero_le _, Nat.zero_le _⟩) hS (fun q _ h => hFc q h) hFc (fun r_8 u t H1 locs ht hvm h hB hz1 hk1 hS => ?_)
        obtain ⟨hP1, hD1⟩ := hB
        rw [ht] at hP1
        obtain ⟨hP, hD⟩ := rc_focP hP hD [1, 2, 3, 4, 5, 6, 7] [none, some 0, some 1, some 2, some 3, some 4, some 5, some 6] (by decide) rfl rfl hk1 hP1 rfl
        generalize H1 = H at hP hS ⊢
        have hP : va_P E.1 vwCl (rw_8 E co ro jo qo yo eo cs cl cw rk rh rd rt rl rs cWs cKp rSz rTc rFa rPa rPy rMi rMe rSr rZ rKi rHe rDo rTx rLa rSk ++ rc_tp E LT pk pv pa pn tc) H := hP
        have hD : va_D A (rw_8 E co ro jo qo yo eo cs cl cw rk rh rd rt rl rs cWs cKp rSz rTc rFa rPa rPy rMi rMe rSr rZ rKi rHe rDo rTx rLa rSk ++ rc_tp E LT pk pv pa pn tc) := hD
        refine lv_goto (tgt := 45) hx hb dX6_sky_34 (by decide) ?_
        exact hret _ _ _ _ r_8 (rSk) rfl h hP hD hS dX6_sky_45
    · have h := h.2 c_4
      refine lv_ldc hx hb hown k_70 dX6_sky_19 ?_
      exact hret _ _ _ _ (-1000000001) (rSk) rfl h hP hD hS dX6_sky_21
def wp_X6_danger (p1 : Int32) (p2 : Int32) (rSz : Int32) (rFa : Int32) (rPa : Int32) (rKi : Nat → Int32) (rHe : Nat → Int32) (rTx : Nat → Option Nat) (rLa : Nat → Int32) (rSk : Nat → Int32) (LT : List Nat) (pn : Nat → Nat) (tc : Nat → Nat → Int32) (Q : Int32 → (Nat → Int32) → Prop) : Prop :=
  wp_X1_has p1 rSz (fun (r_1 : Int32) => ((r_1 = 0 → Q (-1000000001) rSk) ∧ (¬ (r_1 = 0) → wp_X6_within p2 0 60 (fun (r_3 : Int32) => ((¬ r_3 = 0 → wp_X1_dangerOf p1 p2 rFa rPa rKi rHe rTx rLa rSk LT pn tc (fun (r_5 : Int32) (w_6 : Nat → Int32) => Q r_5 w_6)) ∧ (r_3 = 0 → Q (-1000000001) rSk))))))
set_option maxHeartbeats 4000000 in
set_option maxRecDepth 100000 in
theorem c_X6_danger (l : Launch) (E : gE) (co ro jo qo yo eo cs cl cw rk rh rd rt rl rs : Nat) (sz : Nat) (cWs : Int32) (cKp : Int32) (rSz : Int32) (rTc : Int32) (rFa : Int32) (rPa : Int32) (rPy : Int32) (rMi : Int32) (rMe : Int32) (rSr : Int32) (rZ : Int32) (rKi : Nat → Int32) (rHe : Nat → Int32) (rDo : Nat → Int32) (rTx : Nat → Option Nat) (rLa : Nat → Int32) (rSk : Nat → Int32) (p1 p2 : Int32) (LT : List Nat) (pk : Nat → Int32) (pv : Nat → Int32) (pa : Nat → Nat) (pn : Nat → Nat) (tc : Nat → Nat → Int32) (Q : Int32 → (Nat → Int32) → Prop) (h : wp_X6_danger p1 p2 rSz rFa rPa rKi rHe rTx rLa rSk LT pn tc Q) : Met l yX6_danger wsX6_danger ({ frames := 5, cells := 0, slots := 0, locals := 127 } : Room) (va_Pc [.ref co, .int p1, .int p2] (rc_B E (rw_8 E co ro jo qo yo eo cs cl cw rk rh rd rt rl rs cWs cKp rSz rTc rFa rPa rPy rMi rMe rSr rZ rKi rHe rDo rTx rLa rSk ++ rc_tp E LT pk pv pa pn tc) sz)) (va_Qi (S := (Nat → Int32)) (fun (r : Int32) (u : (Nat → Int32)) => Q r u) (fun u t => rc_C E (va_A (rw_8 E co ro jo qo yo eo cs cl cw rk rh rd rt rl rs cWs cKp rSz rTc rFa rPa rPy rMi rMe rSr rZ rKi rHe rDo rTx rLa rSk ++ rc_tp E LT pk pv pa pn tc) sz) (rw_8 E co ro jo qo yo eo cs cl cw rk rh rd rt rl rs cWs cKp rSz rTc rFa rPa rPy rMi rMe rSr rZ rKi rHe rDo rTx rLa u ++ rc_tp E LT pk pv pa pn tc) t) (va_A (rw_8 E co ro jo qo yo eo cs cl cw rk rh rd rt rl rs cWs cKp rSz rTc rFa rPa rPy rMi rMe rSr rZ rKi rHe rDo rTx rLa rSk ++ rc_tp E LT pk pv pa pn tc) sz)) 0 0 (va_A (rw_8 E co ro jo qo yo eo cs cl cw rk rh rd rt rl rs cWs cKp rSz rTc rFa rPa rPy rMi rMe rSr rZ rKi rHe rDo rTx rLa rSk ++ rc_tp E LT pk pv pa pn tc) sz) := by
  refine rc_enterI (cc := cX6_danger) (maxL := 3) (by decide) rfl (Nat.le_of_ble_eq_true rfl) ?_
  intro p e s m args below meth c QQ A hx hb hml hown hts hmn hE hP hD hA hret ls hl
  have hown : s.vm.findClass RX6 = some m.cls := hown
  have hK := hE.1
  have hS : va_S A s.heap s.heap [] := va_S.rf
  have hl : lv_has ls 3 [(0, .ref co), (1, .int p1), (2, .int p2)] := hl
  have n_X6 : ∀ w ∈ wsX60, w ∈ wsX6_danger := fun _ h => List.mem_cons_of_mem _ (List.mem_append_left _ (List.mem_append_left _ (List.mem_append_right _ h)))
  have k_10 := hts (.fieldLink RX6 10 "RidgeClaps" "ridge" "LRidgeClaps$Ridge;") (List.mem_of_getElem? (i := 1) rfl)
  have k_70 := hts (.constant RX6 70 (-1000000001)) (List.mem_of_getElem? (i := 2) rfl)
  unfold wp_X6_danger at h
  obtain ⟨H, hH⟩ : ∃ H, H = s.heap := ⟨_, rfl⟩
  obtain ⟨locs, hlocs⟩ : ∃ locs : List Loc, locs = [] := ⟨_, rfl⟩
  have hP : va_P E.1 vwCl (rw_8 E co ro jo qo yo eo cs cl cw rk rh rd rt rl rs cWs cKp rSz rTc rFa rPa rPy rMi rMe rSr rZ rKi rHe rDo rTx rLa rSk ++ rc_tp E LT pk pv pa pn tc) H := by rw [hH]; exact hP
  have hS : va_S A s.heap H locs := by rw [hH, hlocs]; exact hS
  suffices hgo : W p l e ({ frames := 5, cells := 0, slots := 0, locals := 127 } : Room) s m args below meth c H locs 0 0 QQ (F0 m 0 ls []) from by rw [hH, hlocs] at hgo; exact hgo
  refine lv_aload_n hx hb dX6_danger_0 rfl (lv_at hl 0 rfl) ?_
  refine va_get (D := E.1) (ci := 6) (v := .ref ro) (C := RX6) (T := TX6) (N := 10) hx hb hts n_X6 hown hK hP 0 rfl rfl 0 (by decide) k_10 (fun _ h9 => h9) rfl dX6_danger_1 ?_
  refine lv_iload_n hx hb dX6_danger_4 rfl (lv_at hl 1 rfl) ?_
  have hPc := hP.part (cx := (rw_4 E ro rk rh rd rt rl rs rSz rTc rFa rPa rPy rMi rMe rSr rZ rKi rHe rDo rTx rLa rSk)) [1, 2, 3, 4, 5, 6, 7] rfl
  have hDc := hD.part (cx := (rw_4 E ro rk rh rd rt rl rs rSz rTc rFa rPa rPy rMi rMe rSr rZ rKi rHe rDo rTx rLa rSk)) [1, 2, 3, 4, 5, 6, 7] (by decide) rfl
  have hFc := va_freeP (cx := (rw_4 E ro rk rh rd rt rl rs rSz rTc rFa rPa rPy rMi rMe rSr rZ rKi rHe rDo rTx rLa rSk)) hD hS hA [1, 2, 3, 4, 5, 6, 7] rfl
  refine va_calli (va_runV (As := [.int p1]) (rest := []) ⟨hx, hb, hml, hown, hts⟩ (c_X1_has l E ro rk rh rd rt rl rs H.size rSz rTc rFa rPa rPy rMi rMe rSr rZ rKi rHe rDo rTx rLa rSk p1 LT pk pv pa pn tc _ h) (cwV 1 hts gX6_danger_X1_has rfl rfl rfl (by decide +kernel) ⟨Nat.le_of_ble_eq_true rfl, Nat.le_of_ble_eq_true rfl⟩) ⟨fun a U g mk q => ⟨q.1, q.2.blind⟩, va_recv hK hPc (ci := 1) (q0 := 0) rfl rfl, fun U hU hW => ⟨rfl, by rw [hU], by rw [hU]; exact hPc, hE.call hS hFc hW hU, hDc.weaken (fun _ _ _ _ => trivial)⟩⟩ rfl rfl hl.1 rfl (lv_room (Nat.le_of_ble_eq_true rfl)) dX6_danger_5 ⟨Nat.zero_le _, Nat.zero_le _⟩) hS (fun q _ h => hFc q h) hFc (fun r_1 u t H1 locs ht hvm h hB hz1 hk1 hS => ?_)
  obtain ⟨hP1, hD1⟩ := hB
  rw [ht] at hP1
  obtain ⟨hP, hD⟩ := rc_focP hP hD [1, 2, 3, 4, 5, 6, 7] [none, some 0, some 1, some 2, some 3, some 4, some 5, some 6] (by decide) rfl rfl hk1 hP1 rfl
  generalize H1 = H at hP hS ⊢
  have hP : va_P E.1 vwCl (rw_8 E co ro jo qo yo eo cs cl cw rk rh rd rt rl rs cWs cKp rSz rTc rFa rPa rPy rMi rMe rSr rZ rKi rHe rDo rTx rLa rSk ++ rc_tp E LT pk pv pa pn tc) H := hP
  have hD : va_D A (rw_8 E co ro jo qo yo eo cs cl cw rk rh rd rt rl rs cWs cKp rSz rTc rFa rPa rPy rMi rMe rSr rZ rKi rHe rDo rTx rLa rSk ++ rc_tp E LT pk pv pa pn tc) := hD
  refine lv_if_eq (tgt := 21) hx hb dX6_danger_8 (by decide) (fun c_2 => ?_) (fun c_2 => ?_)
  · have h := h.1 c_2
    refine lv_ldc hx hb hown k_70 dX6_danger_21 ?_
    exact hret _ _ _ _ (-1000000001) (rSk) rfl h hP hD hS dX6_danger_23
  · have h := h.2 c_2
    refine lv_iload_n hx hb dX6_danger_11 rfl (lv_at hl 2 rfl) ?_
    refine lv_iconst (v := 0) hx hb dX6_danger_12 (by decide) ?_
    refine lv_bipush (v := 60) hx hb dX6_danger_13 (by decide) ?_
    have hPc := hP.sub (ws' := []) [] rfl
    have hDc := hD.sub (ws' := []) [] (by decide) rfl
    have hFc := va_free (wc := []) hD hS hA [] rfl
    refine va_calli (va_runS (As := [.int p2, .int 0, .int 60]) (rest := []) ⟨hx, hb, hml, hown, hts⟩ (c_X6_within l E H.size p2 0 60 _ h) (va_cwS 3 hts gX6_danger_X6_within rfl rfl rfl (by decide +kernel) ⟨Nat.le_of_ble_eq_true rfl, Nat.le_of_ble_eq_true rfl⟩) ⟨fun a U g mk q => ⟨q.1, q.2.blind⟩, fun U hU hW => ⟨rfl, by rw [hU], by rw [hU]; exact hPc, hE.call hS hFc hW hU, hDc.weaken (fun _ _ _ _ => trivial)⟩⟩ rfl rfl hl.1 rfl (lv_room (Nat.le_of_ble_eq_true rfl)) dX6_danger_15 ⟨Nat.zero_le _, Nat.zero_le _⟩) hS (fun q _ h => hFc q h) hFc (fun r_3 u t H1 locs ht hvm h hB hz1 hk1 hS => ?_)
    obtain ⟨hP1, hD1⟩ := hB
    rw [ht] at hP1
    obtain ⟨hP, hD⟩ := rc_foc hP hD [] [none, none, none, none, none, none, none, none] (by decide) rfl hk1 hP1 rfl
    generalize H1 = H at hP hS ⊢
    have hP : va_P E.1 vwCl (rw_8 E co ro jo qo yo eo cs cl cw rk rh rd rt rl rs cWs cKp rSz rTc rFa rPa rPy rMi rMe rSr rZ rKi rHe rDo rTx rLa rSk ++ rc_tp E LT pk pv pa pn tc) H := hP
    have hD : va_D A (rw_8 E co ro jo qo yo eo cs cl cw rk rh rd rt rl rs cWs cKp rSz rTc rFa rPa rPy rMi rMe rSr rZ rKi rHe rDo rTx rLa rSk ++ rc_tp E LT pk pv pa pn tc) := hD
    refine lv_if_ne (tgt := 24) hx hb dX6_danger_18 (by decide) (fun c_4 => ?_) (fun c_4 => ?_)
    · have h := h.1 c_4
      refine lv_aload_n hx hb dX6_danger_24 rfl (lv_at hl 0 rfl) ?_
      refine va_get (D := E.1) (ci := 6) (v := .ref ro) (C := RX6) (T := TX6) (N := 10) hx hb hts n_X6 hown hK hP 0 rfl rfl 0 (by decide) k_10 (fun _ h9 => h9) rfl dX6_danger_25 ?_
      refine lv_iload_n hx hb dX6_danger_28 rfl (lv_at hl 1 rfl) ?_
      refine lv_iload_n hx hb dX6_danger_29 rfl (lv_at hl 2 rfl) ?_
      have hPc := hP.part (cx := (rw_4 E ro rk rh rd rt rl rs rSz rTc rFa rPa rPy rMi rMe rSr rZ rKi rHe rDo rTx rLa rSk)) [1, 2, 3, 4, 5, 6, 7] rfl
      have hDc := hD.part (cx := (rw_4 E ro rk rh rd rt rl rs rSz rTc rFa rPa rPy rMi rMe rSr rZ rKi rHe rDo rTx rLa rSk)) [1, 2, 3, 4, 5, 6, 7] (by decide) rfl
      have hFc := va_freeP (cx := (rw_4 E ro rk rh rd rt rl rs rSz rTc rFa rPa rPy rMi rMe rSr rZ rKi rHe rDo rTx rLa rSk)) hD hS hA [1, 2, 3, 4, 5, 6, 7] rfl
      refine va_calli (va_runV (As := [.int p1, .int p2]) (rest := []) ⟨hx, hb, hml, hown, hts⟩ (c_X1_dangerOf l E ro rk rh rd rt rl rs H.size rSz rTc rFa rPa rPy rMi rMe rSr rZ rKi rHe rDo rTx rLa rSk p1 p2 LT pk pv pa pn tc _ h) (cwV 2 hts gX6_danger_X1_dangerOf rfl rfl rfl (by decide +kernel) ⟨Nat.le_of_ble_eq_true rfl, Nat.le_of_ble_eq_true rfl⟩) ⟨fun a U g mk q => ⟨q.1, q.2.blind⟩, va_recv hK hPc (ci := 1) (q0 := 0) rfl rfl, fun U hU hW => ⟨rfl, by rw [hU], by rw [hU]; exact hPc, hE.call hS hFc hW hU, hDc.weaken (fun _ _ _ _ => trivial)⟩⟩ rfl rfl hl.1 rfl (lv_room (Nat.le_of_ble_eq_true rfl)) dX6_danger_30 ⟨Nat.zero_le _, Nat.zero_le _⟩) hS (fun q _ h => hFc q h) hFc (fun r_5 u t H1 locs ht hvm h hB hz1 hk1 hS => ?_)
      obtain ⟨w_6, rfl⟩ : ∃ z, z = u := ⟨_, rfl⟩
      obtain ⟨hP1, hD1⟩ := hB
      rw [ht] at hP1
      obtain ⟨hP, hD⟩ := rc_focP hP hD [1, 2, 3, 4, 5, 6, 7] [none, some 0, some 1, some 2, some 3, some 4, some 5, some 6] (by decide) rfl rfl hk1 hP1 rfl
      generalize H1 = H at hP hS ⊢
      have hP : va_P E.1 vwCl (rw_8 E co ro jo qo yo eo cs cl cw rk rh rd rt rl rs cWs cKp rSz rTc rFa rPa rPy rMi rMe rSr rZ rKi rHe rDo rTx rLa w_6 ++ rc_tp E LT pk pv pa pn tc) H := hP
      have hD : va_D A (rw_8 E co ro jo qo yo eo cs cl cw rk rh rd rt rl rs cWs cKp rSz rTc rFa rPa rPy rMi rMe rSr rZ rKi rHe rDo rTx rLa w_6 ++ rc_tp E LT pk pv pa pn tc) := hD
      exact hret _ _ _ _ r_5 (w_6) rfl h hP hD hS dX6_danger_33
    · have h := h.2 c_4
      refine lv_ldc hx hb hown k_70 dX6_danger_21 ?_
      exact hret _ _ _ _ (-1000000001) (rSk) rfl h hP hD hS dX6_danger_23
def jp_X6_come_20 (p1 : Int32)  (Q : Int32 → Int32 → Prop) (rPy : Int32) : Prop :=
  Q rPy p1
def wp_X6_come (p1 : Int32) (rSz : Int32) (rPy : Int32) (Q : Int32 → Int32 → Prop) : Prop :=
  ((p1 = (-1000000005) → jp_X6_come_20 p1 Q rPy) ∧ (¬ (p1 = (-1000000005)) → wp_X1_has p1 rSz (fun (r_2 : Int32) => ((¬ r_2 = 0 → jp_X6_come_20 p1 Q rPy) ∧ (r_2 = 0 → Q (-1000000001) rPy)))))
set_option maxHeartbeats 4000000 in
set_option maxRecDepth 100000 in
theorem c_X6_come (l : Launch) (E : gE) (co ro jo qo yo eo cs cl cw rk rh rd rt rl rs : Nat) (sz : Nat) (cWs : Int32) (cKp : Int32) (rSz : Int32) (rTc : Int32) (rFa : Int32) (rPa : Int32) (rPy : Int32) (rMi : Int32) (rMe : Int32) (rSr : Int32) (rZ : Int32) (rKi : Nat → Int32) (rHe : Nat → Int32) (rDo : Nat → Int32) (rTx : Nat → Option Nat) (rLa : Nat → Int32) (rSk : Nat → Int32) (p1 : Int32) (LT : List Nat) (pk : Nat → Int32) (pv : Nat → Int32) (pa : Nat → Nat) (pn : Nat → Nat) (tc : Nat → Nat → Int32) (Q : Int32 → Int32 → Prop) (h : wp_X6_come p1 rSz rPy Q) : Met l yX6_come wsX6_come ({ frames := 1, cells := 0, slots := 0, locals := 21 } : Room) (va_Pc [.ref co, .int p1] (rc_B E (rw_8 E co ro jo qo yo eo cs cl cw rk rh rd rt rl rs cWs cKp rSz rTc rFa rPa rPy rMi rMe rSr rZ rKi rHe rDo rTx rLa rSk ++ rc_tp E LT pk pv pa pn tc) sz)) (va_Qi (S := Int32) (fun (r : Int32) (u : Int32) => Q r u) (fun u t => rc_C E (va_A (rw_8 E co ro jo qo yo eo cs cl cw rk rh rd rt rl rs cWs cKp rSz rTc rFa rPa rPy rMi rMe rSr rZ rKi rHe rDo rTx rLa rSk ++ rc_tp E LT pk pv pa pn tc) sz) (rw_8 E co ro jo qo yo eo cs cl cw rk rh rd rt rl rs cWs cKp rSz rTc rFa rPa u rMi rMe rSr rZ rKi rHe rDo rTx rLa rSk ++ rc_tp E LT pk pv pa pn tc) t) (va_A (rw_8 E co ro jo qo yo eo cs cl cw rk rh rd rt rl rs cWs cKp rSz rTc rFa rPa rPy rMi rMe rSr rZ rKi rHe rDo rTx rLa rSk ++ rc_tp E LT pk pv pa pn tc) sz)) 0 0 (va_A (rw_8 E co ro jo qo yo eo cs cl cw rk rh rd rt rl rs cWs cKp rSz rTc rFa rPa rPy rMi rMe rSr rZ rKi rHe rDo rTx rLa rSk ++ rc_tp E LT pk pv pa pn tc) sz) := by
  refine rc_enterI (cc := cX6_come) (maxL := 3) (by decide) rfl (Nat.le_of_ble_eq_true rfl) ?_
  intro p e s m args below meth c QQ A hx hb hml hown hts hmn hE hP hD hA hret ls hl
  have hown : s.vm.findClass RX6 = some m.cls := hown
  have hK := hE.1
  have hS : va_S A s.heap s.heap [] := va_S.rf
  have hl : lv_has ls 3 [(0, .ref co), (1, .int p1)] := hl
  have n_X1 : ∀ w ∈ wsX10, w ∈ wsX6_come := fun _ h => List.mem_cons_of_mem _ (List.mem_append_right _ h)
  have n_X6 : ∀ w ∈ wsX60, w ∈ wsX6_come := fun _ h => List.mem_cons_of_mem _ (List.mem_append_left _ (List.mem_append_right _ h))
  have k_10 := hts (.fieldLink RX6 10 "RidgeClaps" "ridge" "LRidgeClaps$Ridge;") (List.mem_of_getElem? (i := 2) rfl)
  have k_131 := hts (.fieldLink RX6 131 "RidgeClaps$Ridge" "party" "I") (List.mem_of_getElem? (i := 4) rfl)
  have k_130 := hts (.constant RX6 130 (-1000000005)) (List.mem_of_getElem? (i := 1) rfl)
  have k_70 := hts (.constant RX6 70 (-1000000001)) (List.mem_of_getElem? (i := 3) rfl)
  have J20 : ∀ (rPy : Int32), jp_X6_come_20 p1 Q rPy → ∀ (H : Heap) (locs : List Loc), va_P E.1 vwCl (rw_8 E co ro jo qo yo eo cs cl cw rk rh rd rt rl rs cWs cKp rSz rTc rFa rPa rPy rMi rMe rSr rZ rKi rHe rDo rTx rLa rSk ++ rc_tp E LT pk pv pa pn tc) H → va_D A (rw_8 E co ro jo qo yo eo cs cl cw rk rh rd rt rl rs cWs cKp rSz rTc rFa rPa rPy rMi rMe rSr rZ rKi rHe rDo rTx rLa rSk ++ rc_tp E LT pk pv pa pn tc) → va_S A s.heap H locs → ∀ ls : Array Slot, lv_has ls 3 [(0, .ref co), (1, .int p1)] → W p l e ({ frames := 1, cells := 0, slots := 0, locals := 21 } : Room) s m args below meth c H locs 0 0 QQ (F0 m 20 ls []) := by
    intro rPy h H locs hP hD hS ls hl
    unfold jp_X6_come_20 at h
    refine lv_aload_n hx hb dX6_come_20 rfl (lv_at hl 0 rfl) ?_
    refine va_get (D := E.1) (ci := 6) (v := .ref ro) (C := RX6) (T := TX6) (N := 10) hx hb hts n_X6 hown hK hP 0 rfl rfl 0 (by decide) k_10 (fun _ h9 => h9) rfl dX6_come_21 ?_
    refine va_get (D := E.1) (ci := 1) (v := .int rPy) (C := RX1) (T := TX1) (N := 15) hx hb hts n_X1 hown hK hP 1 rfl rfl 9 (by decide) k_131 (fun _ h9 => h9) rfl dX6_come_24 ?_
    refine lv_istore_n (lv' := [(2, .int rPy), (0, .ref co), (1, .int p1)]) hx hb dX6_come_27 rfl hl (by decide) rfl (fun ls hl => ?_)
    refine lv_aload_n hx hb dX6_come_28 rfl (lv_at hl 1 rfl) ?_
    refine va_get (D := E.1) (ci := 6) (v := .ref ro) (C := RX6) (T := TX6) (N := 10) hx hb hts n_X6 hown hK hP 0 rfl rfl 0 (by decide) k_10 (fun _ h9 => h9) rfl dX6_come_29 ?_
    refine lv_iload_n hx hb dX6_come_32 rfl (lv_at hl 2 rfl) ?_
    refine va_put (D := E.1) (ci := 1) (v := .int p1) (ty := .int) (C := RX1) (T := TX1) (N := 15) hx hb hts n_X1 tyX1 tyX1_ok nmX1 hown hK hP hD hS 1 rfl rfl 9 (by decide) k_131 (fun _ h9 => h9) rfl (by decide +kernel) rfl rfl (Nat.le_of_ble_eq_true rfl) dX6_come_33 (fun H locs hP hD hS => ?_)
    have hP : va_P E.1 vwCl (rw_8 E co ro jo qo yo eo cs cl cw rk rh rd rt rl rs cWs cKp rSz rTc rFa rPa p1 rMi rMe rSr rZ rKi rHe rDo rTx rLa rSk ++ rc_tp E LT pk pv pa pn tc) H := hP
    have hD : va_D A (rw_8 E co ro jo qo yo eo cs cl cw rk rh rd rt rl rs cWs cKp rSz rTc rFa rPa p1 rMi rMe rSr rZ rKi rHe rDo rTx rLa rSk ++ rc_tp E LT pk pv pa pn tc) := hD
    refine lv_iload_n hx hb dX6_come_36 rfl (lv_at hl 0 rfl) ?_
    exact hret _ _ _ _ rPy (p1) rfl h hP hD hS dX6_come_37
  unfold wp_X6_come at h
  obtain ⟨H, hH⟩ : ∃ H, H = s.heap := ⟨_, rfl⟩
  obtain ⟨locs, hlocs⟩ : ∃ locs : List Loc, locs = [] := ⟨_, rfl⟩
  have hP : va_P E.1 vwCl (rw_8 E co ro jo qo yo eo cs cl cw rk rh rd rt rl rs cWs cKp rSz rTc rFa rPa rPy rMi rMe rSr rZ rKi rHe rDo rTx rLa rSk ++ rc_tp E LT pk pv pa pn tc) H := by rw [hH]; exact hP
  have hS : va_S A s.heap H locs := by rw [hH, hlocs]; exact hS
  suffices hgo : W p l e ({ frames := 1, cells := 0, slots := 0, locals := 21 } : Room) s m args below meth c H locs 0 0 QQ (F0 m 0 ls []) from by rw [hH, hlocs] at hgo; exact hgo
  refine lv_iload_n hx hb dX6_come_0 rfl (lv_at hl 1 rfl) ?_
  refine lv_ldc hx hb hown k_130 dX6_come_1 ?_
  refine lv_icmp_eq (tgt := 20) hx hb dX6_come_3 (by decide) (fun c_1 => ?_) (fun c_1 => ?_)
  · have h := h.1 c_1
    exact J20 rPy h _ _ hP hD hS ls (lv_sub hl [0, 1] rfl)
  · have h := h.2 c_1
    refine lv_aload_n hx hb dX6_come_6 rfl (lv_at hl 0 rfl) ?_
    refine va_get (D := E.1) (ci := 6) (v := .ref ro) (C := RX6) (T := TX6) (N := 10) hx hb hts n_X6 hown hK hP 0 rfl rfl 0 (by decide) k_10 (fun _ h9 => h9) rfl dX6_come_7 ?_
    refine lv_iload_n hx hb dX6_come_10 rfl (lv_at hl 1 rfl) ?_
    have hPc := hP.part (cx := (rw_4 E ro rk rh rd rt rl rs rSz rTc rFa rPa rPy rMi rMe rSr rZ rKi rHe rDo rTx rLa rSk)) [1, 2, 3, 4, 5, 6, 7] rfl
    have hDc := hD.part (cx := (rw_4 E ro rk rh rd rt rl rs rSz rTc rFa rPa rPy rMi rMe rSr rZ rKi rHe rDo rTx rLa rSk)) [1, 2, 3, 4, 5, 6, 7] (by decide) rfl
    have hFc := va_freeP (cx := (rw_4 E ro rk rh rd rt rl rs rSz rTc rFa rPa rPy rMi rMe rSr rZ rKi rHe rDo rTx rLa rSk)) hD hS hA [1, 2, 3, 4, 5, 6, 7] rfl
    refine va_calli (va_runV (As := [.int p1]) (rest := []) ⟨hx, hb, hml, hown, hts⟩ (c_X1_has l E ro rk rh rd rt rl rs H.size rSz rTc rFa rPa rPy rMi rMe rSr rZ rKi rHe rDo rTx rLa rSk p1 LT pk pv pa pn tc _ h) (cwV 1 hts gX6_come_X1_has rfl rfl rfl (by decide +kernel) ⟨Nat.le_of_ble_eq_true rfl, Nat.le_of_ble_eq_true rfl⟩) ⟨fun a U g mk q => ⟨q.1, q.2.blind⟩, va_recv hK hPc (ci := 1) (q0 := 0) rfl rfl, fun U hU hW => ⟨rfl, by rw [hU], by rw [hU]; exact hPc, hE.call hS hFc hW hU, hDc.weaken (fun _ _ _ _ => trivial)⟩⟩ rfl rfl hl.1 rfl (lv_room (Nat.le_of_ble_eq_true rfl)) dX6_come_11 ⟨Nat.zero_le _, Nat.zero_le _⟩) hS (fun q _ h => hFc q h) hFc (fun r_2 u t H1 locs ht hvm h hB hz1 hk1 hS => ?_)
    obtain ⟨hP1, hD1⟩ := hB
    rw [ht] at hP1
    obtain ⟨hP, hD⟩ := rc_focP hP hD [1, 2, 3, 4, 5, 6, 7] [none, some 0, some 1, some 2, some 3, some 4, some 5, some 6] (by decide) rfl rfl hk1 hP1 rfl
    generalize H1 = H at hP hS ⊢
    have hP : va_P E.1 vwCl (rw_8 E co ro jo qo yo eo cs cl cw rk rh rd rt rl rs cWs cKp rSz rTc rFa rPa rPy rMi rMe rSr rZ rKi rHe rDo rTx rLa rSk ++ rc_tp E LT pk pv pa pn tc) H := hP
    have hD : va_D A (rw_8 E co ro jo qo yo eo cs cl cw rk rh rd rt rl rs cWs cKp rSz rTc rFa rPa rPy rMi rMe rSr rZ rKi rHe rDo rTx rLa rSk ++ rc_tp E LT pk pv pa pn tc) := hD
    refine lv_if_ne (tgt := 20) hx hb dX6_come_14 (by decide) (fun c_3 => ?_) (fun c_3 => ?_)
    · have h := h.1 c_3
      exact J20 rPy h _ _ hP hD hS ls (lv_sub hl [0, 1] rfl)
    · have h := h.2 c_3
      refine lv_ldc hx hb hown k_70 dX6_come_17 ?_
      exact hret _ _ _ _ (-1000000001) (rPy) rfl h hP hD hS dX6_come_19
def wp_X6_step (p1 : Int32) (rSz : Int32) (rFa : Int32) (rPa : Int32) (rPy : Int32) (rMi : Int32) (rMe : Int32) (rSr : Int32) (rZ : Int32) (rKi : Nat → Int32) (rHe : Nat → Int32) (rDo : Nat → Int32) (rTx : Nat → Option Nat) (rLa : Nat → Int32) (rSk : Nat → Int32) (LT : List Nat) (pn : Nat → Nat) (tc : Nat → Nat → Int32) (Q : Int32 → Int32 → Int32 → Int32 → Int32 → Int32 → Int32 → (Nat → Int32) → Prop) : Prop :=
  wp_X6_within p1 0 3 (fun (r_1 : Int32) => ((¬ r_1 = 0 → wp_X1_mayStep rPy p1 rSz rDo (fun (r_3 : Int32) => ((¬ r_3 = 0 → ((rMi < 9999 → wp_X1_passMinute p1 rSz rFa rPa rPy rMi rMe rSr rZ rKi rHe rTx rLa rSk LT pn tc (fun (r_6 : Int32) (w_7 : Int32) (w_8 : Int32) (w_9 : Int32) (w_10 : Int32) (w_11 : Int32) (w_12 : Int32) (w_13 : Nat → Int32) => Q r_6 w_7 w_8 w_9 w_10 w_11 w_12 w_13)) ∧ (¬ (rMi < 9999) → Q (-1000000003) rFa rPy rMi rMe rSr rZ rSk))) ∧ (r_3 = 0 → Q (-1000000002) rFa rPy rMi rMe rSr rZ rSk)))) ∧ (r_1 = 0 → Q (-1000000001) rFa rPy rMi rMe rSr rZ rSk)))
set_option maxHeartbeats 4000000 in
set_option maxRecDepth 100000 in
theorem c_X6_step (l : Launch) (E : gE) (co ro jo qo yo eo cs cl cw rk rh rd rt rl rs : Nat) (sz : Nat) (cWs : Int32) (cKp : Int32) (rSz : Int32) (rTc : Int32) (rFa : Int32) (rPa : Int32) (rPy : Int32) (rMi : Int32) (rMe : Int32) (rSr : Int32) (rZ : Int32) (rKi : Nat → Int32) (rHe : Nat → Int32) (rDo : Nat → Int32) (rTx : Nat → Option Nat) (rLa : Nat → Int32) (rSk : Nat → Int32) (p1 : Int32) (LT : List Nat) (pk : Nat → Int32) (pv : Nat → Int32) (pa : Nat → Nat) (pn : Nat → Nat) (tc : Nat → Nat → Int32) (Q : Int32 → Int32 → Int32 → Int32 → Int32 → Int32 → Int32 → (Nat → Int32) → Prop) (h : wp_X6_step p1 rSz rFa rPa rPy rMi rMe rSr rZ rKi rHe rDo rTx rLa rSk LT pn tc Q) : Met l yX6_step wsX6_step ({ frames := 5, cells := 0, slots := 0, locals := 127 } : Room) (va_Pc [.ref co, .int p1] (rc_B E (rw_8 E co ro jo qo yo eo cs cl cw rk rh rd rt rl rs cWs cKp rSz rTc rFa rPa rPy rMi rMe rSr rZ rKi rHe rDo rTx rLa rSk ++ rc_tp E LT pk pv pa pn tc) sz)) (va_Qi (S := Int32 × Int32 × Int32 × Int32 × Int32 × Int32 × (Nat → Int32)) (fun (r : Int32) (u : Int32 × Int32 × Int32 × Int32 × Int32 × Int32 × (Nat → Int32)) => Q r u.1 u.2.1 u.2.2.1 u.2.2.2.1 u.2.2.2.2.1 u.2.2.2.2.2.1 u.2.2.2.2.2.2) (fun u t => rc_C E (va_A (rw_8 E co ro jo qo yo eo cs cl cw rk rh rd rt rl rs cWs cKp rSz rTc rFa rPa rPy rMi rMe rSr rZ rKi rHe rDo rTx rLa rSk ++ rc_tp E LT pk pv pa pn tc) sz) (rw_8 E co ro jo qo yo eo cs cl cw rk rh rd rt rl rs cWs cKp rSz rTc u.1 rPa u.2.1 u.2.2.1 u.2.2.2.1 u.2.2.2.2.1 u.2.2.2.2.2.1 rKi rHe rDo rTx rLa u.2.2.2.2.2.2 ++ rc_tp E LT pk pv pa pn tc) t) (va_A (rw_8 E co ro jo qo yo eo cs cl cw rk rh rd rt rl rs cWs cKp rSz rTc rFa rPa rPy rMi rMe rSr rZ rKi rHe rDo rTx rLa rSk ++ rc_tp E LT pk pv pa pn tc) sz)) 0 0 (va_A (rw_8 E co ro jo qo yo eo cs cl cw rk rh rd rt rl rs cWs cKp rSz rTc rFa rPa rPy rMi rMe rSr rZ rKi rHe rDo rTx rLa rSk ++ rc_tp E LT pk pv pa pn tc) sz) := by
  refine rc_enterI (cc := cX6_step) (maxL := 2) (by decide) rfl (Nat.le_of_ble_eq_true rfl) ?_
  intro p e s m args below meth c QQ A hx hb hml hown hts hmn hE hP hD hA hret ls hl
  have hown : s.vm.findClass RX6 = some m.cls := hown
  have hK := hE.1
  have hS : va_S A s.heap s.heap [] := va_S.rf
  have hl : lv_has ls 2 [(0, .ref co), (1, .int p1)] := hl
  have n_X1 : ∀ w ∈ wsX10, w ∈ wsX6_step := fun _ h => List.mem_cons_of_mem _ (List.mem_append_left _ (List.mem_append_right _ h))
  have n_X6 : ∀ w ∈ wsX60, w ∈ wsX6_step := fun _ h => List.mem_cons_of_mem _ (List.mem_append_left _ (List.mem_append_left _ (List.mem_append_right _ h)))
  have k_10 := hts (.fieldLink RX6 10 "RidgeClaps" "ridge" "LRidgeClaps$Ridge;") (List.mem_of_getElem? (i := 2) rfl)
  have k_131 := hts (.fieldLink RX6 131 "RidgeClaps$Ridge" "party" "I") (List.mem_of_getElem? (i := 3) rfl)
  have k_138 := hts (.fieldLink RX6 138 "RidgeClaps$Ridge" "minute" "I") (List.mem_of_getElem? (i := 5) rfl)
  have k_74 := hts (.constant RX6 74 (-1000000003)) (List.mem_of_getElem? (i := 6) rfl)
  have k_137 := hts (.constant RX6 137 (-1000000002)) (List.mem_of_getElem? (i := 4) rfl)
  have k_70 := hts (.constant RX6 70 (-1000000001)) (List.mem_of_getElem? (i := 1) rfl)
  unfold wp_X6_step at h
  obtain ⟨H, hH⟩ : ∃ H, H = s.heap := ⟨_, rfl⟩
  obtain ⟨locs, hlocs⟩ : ∃ locs : List Loc, locs = [] := ⟨_, rfl⟩
  have hP : va_P E.1 vwCl (rw_8 E co ro jo qo yo eo cs cl cw rk rh rd rt rl rs cWs cKp rSz rTc rFa rPa rPy rMi rMe rSr rZ rKi rHe rDo rTx rLa rSk ++ rc_tp E LT pk pv pa pn tc) H := by rw [hH]; exact hP
  have hS : va_S A s.heap H locs := by rw [hH, hlocs]; exact hS
  suffices hgo : W p l e ({ frames := 5, cells := 0, slots := 0, locals := 127 } : Room) s m args below meth c H locs 0 0 QQ (F0 m 0 ls []) from by rw [hH, hlocs] at hgo; exact hgo
  refine lv_iload_n hx hb dX6_step_0 rfl (lv_at hl 1 rfl) ?_
  refine lv_iconst (v := 0) hx hb dX6_step_1 (by decide) ?_
  refine lv_iconst (v := 3) hx hb dX6_step_2 (by decide) ?_
  have hPc := hP.sub (ws' := []) [] rfl
  have hDc := hD.sub (ws' := []) [] (by decide) rfl
  have hFc := va_free (wc := []) hD hS hA [] rfl
  refine va_calli (va_runS (As := [.int p1, .int 0, .int 3]) (rest := []) ⟨hx, hb, hml, hown, hts⟩ (c_X6_within l E H.size p1 0 3 _ h) (va_cwS 3 hts gX6_step_X6_within rfl rfl rfl (by decide +kernel) ⟨Nat.le_of_ble_eq_true rfl, Nat.le_of_ble_eq_true rfl⟩) ⟨fun a U g mk q => ⟨q.1, q.2.blind⟩, fun U hU hW => ⟨rfl, by rw [hU], by rw [hU]; exact hPc, hE.call hS hFc hW hU, hDc.weaken (fun _ _ _ _ => trivial)⟩⟩ rfl rfl hl.1 rfl (lv_room (Nat.le_of_ble_eq_true rfl)) dX6_step_3 ⟨Nat.zero_le _, Nat.zero_le _⟩) hS (fun q _ h => hFc q h) hFc (fun r_1 u t H1 locs ht hvm h hB hz1 hk1 hS => ?_)
  obtain ⟨hP1, hD1⟩ := hB
  rw [ht] at hP1
  obtain ⟨hP, hD⟩ := rc_foc hP hD [] [none, none, none, none, none, none, none, none] (by decide) rfl hk1 hP1 rfl
  generalize H1 = H at hP hS ⊢
  have hP : va_P E.1 vwCl (rw_8 E co ro jo qo yo eo cs cl cw rk rh rd rt rl rs cWs cKp rSz rTc rFa rPa rPy rMi rMe rSr rZ rKi rHe rDo rTx rLa rSk ++ rc_tp E LT pk pv pa pn tc) H := hP
  have hD : va_D A (rw_8 E co ro jo qo yo eo cs cl cw rk rh rd rt rl rs cWs cKp rSz rTc rFa rPa rPy rMi rMe rSr rZ rKi rHe rDo rTx rLa rSk ++ rc_tp E LT pk pv pa pn tc) := hD
  refine lv_if_ne (tgt := 12) hx hb dX6_step_6 (by decide) (fun c_2 => ?_) (fun c_2 => ?_)
  · have h := h.1 c_2
    refine lv_aload_n hx hb dX6_step_12 rfl (lv_at hl 0 rfl) ?_
    refine va_get (D := E.1) (ci := 6) (v := .ref ro) (C := RX6) (T := TX6) (N := 10) hx hb hts n_X6 hown hK hP 0 rfl rfl 0 (by decide) k_10 (fun _ h9 => h9) rfl dX6_step_13 ?_
    refine lv_aload_n hx hb dX6_step_16 rfl (lv_at hl 0 rfl) ?_
    refine va_get (D := E.1) (ci := 6) (v := .ref ro) (C := RX6) (T := TX6) (N := 10) hx hb hts n_X6 hown hK hP 0 rfl rfl 0 (by decide) k_10 (fun _ h9 => h9) rfl dX6_step_17 ?_
    refine va_get (D := E.1) (ci := 1) (v := .int rPy) (C := RX1) (T := TX1) (N := 15) hx hb hts n_X1 hown hK hP 1 rfl rfl 9 (by decide) k_131 (fun _ h9 => h9) rfl dX6_step_20 ?_
    refine lv_iload_n hx hb dX6_step_23 rfl (lv_at hl 1 rfl) ?_
    have hPc := hP.part (cx := (rw_4 E ro rk rh rd rt rl rs rSz rTc rFa rPa rPy rMi rMe rSr rZ rKi rHe rDo rTx rLa rSk)) [1, 2, 3, 4, 5, 6, 7] rfl
    have hDc := hD.part (cx := (rw_4 E ro rk rh rd rt rl rs rSz rTc rFa rPa rPy rMi rMe rSr rZ rKi rHe rDo rTx rLa rSk)) [1, 2, 3, 4, 5, 6, 7] (by decide) rfl
    have hFc := va_freeP (cx := (rw_4 E ro rk rh rd rt rl rs rSz rTc rFa rPa rPy rMi rMe rSr rZ rKi rHe rDo rTx rLa rSk)) hD hS hA [1, 2, 3, 4, 5, 6, 7] rfl
    refine va_calli (va_runV (As := [.int rPy, .int p1]) (rest := []) ⟨hx, hb, hml, hown, hts⟩ (c_X1_mayStep l E ro rk rh rd rt rl rs H.size rSz rTc rFa rPa rPy rMi rMe rSr rZ rKi rHe rDo rTx rLa rSk rPy p1 LT pk pv pa pn tc _ h) (cwV 2 hts gX6_step_X1_mayStep rfl rfl rfl (by decide +kernel) ⟨Nat.le_of_ble_eq_true rfl, Nat.le_of_ble_eq_true rfl⟩) ⟨fun a U g mk q => ⟨q.1, q.2.blind⟩, va_recv hK hPc (ci := 1) (q0 := 0) rfl rfl, fun U hU hW => ⟨rfl, by rw [hU], by rw [hU]; exact hPc, hE.call hS hFc hW hU, hDc.weaken (fun _ _ _ _ => trivial)⟩⟩ rfl rfl hl.1 rfl (lv_room (Nat.le_of_ble_eq_true rfl)) dX6_step_24 ⟨Nat.zero_le _, Nat.zero_le _⟩) hS (fun q _ h => hFc q h) hFc (fun r_3 u t H1 locs ht hvm h hB hz1 hk1 hS => ?_)
    obtain ⟨hP1, hD1⟩ := hB
    rw [ht] at hP1
    obtain ⟨hP, hD⟩ := rc_focP hP hD [1, 2, 3, 4, 5, 6, 7] [none, some 0, some 1, some 2, some 3, some 4, some 5, some 6] (by decide) rfl rfl hk1 hP1 rfl
    generalize H1 = H at hP hS ⊢
    have hP : va_P E.1 vwCl (rw_8 E co ro jo qo yo eo cs cl cw rk rh rd rt rl rs cWs cKp rSz rTc rFa rPa rPy rMi rMe rSr rZ rKi rHe rDo rTx rLa rSk ++ rc_tp E LT pk pv pa pn tc) H := hP
    have hD : va_D A (rw_8 E co ro jo qo yo eo cs cl cw rk rh rd rt rl rs cWs cKp rSz rTc rFa rPa rPy rMi rMe rSr rZ rKi rHe rDo rTx rLa rSk ++ rc_tp E LT pk pv pa pn tc) := hD
    refine lv_if_ne (tgt := 33) hx hb dX6_step_27 (by decide) (fun c_4 => ?_) (fun c_4 => ?_)
    · have h := h.1 c_4
      refine lv_aload_n hx hb dX6_step_33 rfl (lv_at hl 0 rfl) ?_
      refine va_get (D := E.1) (ci := 6) (v := .ref ro) (C := RX6) (T := TX6) (N := 10) hx hb hts n_X6 hown hK hP 0 rfl rfl 0 (by decide) k_10 (fun _ h9 => h9) rfl dX6_step_34 ?_
      refine va_get (D := E.1) (ci := 1) (v := .int rMi) (C := RX1) (T := TX1) (N := 15) hx hb hts n_X1 hown hK hP 1 rfl rfl 10 (by decide) k_138 (fun _ h9 => h9) rfl dX6_step_37 ?_
      refine lv_sipush (v := 9999) hx hb dX6_step_40 (by decide) ?_
      refine lv_icmp_lt (tgt := 49) hx hb dX6_step_43 (by decide) (fun c_5 => ?_) (fun c_5 => ?_)
      · have h := h.1 c_5
        refine lv_aload_n hx hb dX6_step_49 rfl (lv_at hl 0 rfl) ?_
        refine va_get (D := E.1) (ci := 6) (v := .ref ro) (C := RX6) (T := TX6) (N := 10) hx hb hts n_X6 hown hK hP 0 rfl rfl 0 (by decide) k_10 (fun _ h9 => h9) rfl dX6_step_50 ?_
        refine lv_iload_n hx hb dX6_step_53 rfl (lv_at hl 1 rfl) ?_
        have hPc := hP.part (cx := (rw_4 E ro rk rh rd rt rl rs rSz rTc rFa rPa rPy rMi rMe rSr rZ rKi rHe rDo rTx rLa rSk)) [1, 2, 3, 4, 5, 6, 7] rfl
        have hDc := hD.part (cx := (rw_4 E ro rk rh rd rt rl rs rSz rTc rFa rPa rPy rMi rMe rSr rZ rKi rHe rDo rTx rLa rSk)) [1, 2, 3, 4, 5, 6, 7] (by decide) rfl
        have hFc := va_freeP (cx := (rw_4 E ro rk rh rd rt rl rs rSz rTc rFa rPa rPy rMi rMe rSr rZ rKi rHe rDo rTx rLa rSk)) hD hS hA [1, 2, 3, 4, 5, 6, 7] rfl
        refine va_calli (va_runV (As := [.int p1]) (rest := []) ⟨hx, hb, hml, hown, hts⟩ (c_X1_passMinute l E ro rk rh rd rt rl rs H.size rSz rTc rFa rPa rPy rMi rMe rSr rZ rKi rHe rDo rTx rLa rSk p1 LT pk pv pa pn tc _ h) (cwV 1 hts gX6_step_X1_passMinute rfl rfl rfl (by decide +kernel) ⟨Nat.le_of_ble_eq_true rfl, Nat.le_of_ble_eq_true rfl⟩) ⟨fun a U g mk q => ⟨q.1, q.2.blind⟩, va_recv hK hPc (ci := 1) (q0 := 0) rfl rfl, fun U hU hW => ⟨rfl, by rw [hU], by rw [hU]; exact hPc, hE.call hS hFc hW hU, hDc.weaken (fun _ _ _ _ => trivial)⟩⟩ rfl rfl hl.1 rfl (lv_room (Nat.le_of_ble_eq_true rfl)) dX6_step_54 ⟨Nat.zero_le _, Nat.zero_le _⟩) hS (fun q _ h => hFc q h) hFc (fun r_6 u t H1 locs ht hvm h hB hz1 hk1 hS => ?_)
        obtain ⟨w_7, w_8, w_9, w_10, w_11, w_12, w_13⟩ := u
        obtain ⟨hP1, hD1⟩ := hB
        rw [ht] at hP1
        obtain ⟨hP, hD⟩ := rc_focP hP hD [1, 2, 3, 4, 5, 6, 7] [none, some 0, some 1, some 2, some 3, some 4, some 5, some 6] (by decide) rfl rfl hk1 hP1 rfl
        generalize H1 = H at hP hS ⊢
        have hP : va_P E.1 vwCl (rw_8 E co ro jo qo yo eo cs cl cw rk rh rd rt rl rs cWs cKp rSz rTc w_7 rPa w_8 w_9 w_10 w_11 w_12 rKi rHe rDo rTx rLa w_13 ++ rc_tp E LT pk pv pa pn tc) H := hP
        have hD : va_D A (rw_8 E co ro jo qo yo eo cs cl cw rk rh rd rt rl rs cWs cKp rSz rTc w_7 rPa w_8 w_9 w_10 w_11 w_12 rKi rHe rDo rTx rLa w_13 ++ rc_tp E LT pk pv pa pn tc) := hD
        exact hret _ _ _ _ r_6 (w_7, w_8, w_9, w_10, w_11, w_12, w_13) rfl h hP hD hS dX6_step_57
      · have h := h.2 c_5
        refine lv_ldc hx hb hown k_74 dX6_step_46 ?_
        exact hret _ _ _ _ (-1000000003) (rFa, rPy, rMi, rMe, rSr, rZ, rSk) rfl h hP hD hS dX6_step_48
    · have h := h.2 c_4
      refine lv_ldc hx hb hown k_137 dX6_step_30 ?_
      exact hret _ _ _ _ (-1000000002) (rFa, rPy, rMi, rMe, rSr, rZ, rSk) rfl h hP hD hS dX6_step_32
  · have h := h.2 c_2
    refine lv_ldc hx hb hown k_70 dX6_step_9 ?_
    exact hret _ _ _ _ (-1000000001) (rFa, rPy, rMi, rMe, rSr, rZ, rSk) rfl h hP hD hS dX6_step_11
def wp_X6_textTold (p1 : Int32) (p2 : Int32) (rTc : Int32) (rTx : Nat → Option Nat) (LT : List Nat) (pk : Nat → Int32) (pv : Nat → Int32) (Q : Int32 → Prop) : Prop :=
  wp_X6_within p1 0 (rTc - 1) (fun (r_1 : Int32) => ((r_1 = 0 → Q (-1000000001)) ∧ (¬ (r_1 = 0) → wp_X6_within p2 0 1 (fun (r_3 : Int32) => ((¬ r_3 = 0 → (vp_in p1 14 ∧ ((rTx p1.toNatClampNeg = none → Q (-1000000001)) ∧ (∀ a_6 : Nat, rTx p1.toNatClampNeg = some a_6 → ((¬ p2 = 0 → (a_6 ∈ LT ∧ Q (pv a_6))) ∧ (p2 = 0 → (a_6 ∈ LT ∧ Q (pk a_6)))))))) ∧ (r_3 = 0 → Q (-1000000001)))))))
set_option maxHeartbeats 4000000 in
set_option maxRecDepth 100000 in
theorem c_X6_textTold (l : Launch) (E : gE) (co ro jo qo yo eo cs cl cw rk rh rd rt rl rs : Nat) (sz : Nat) (cWs : Int32) (cKp : Int32) (rSz : Int32) (rTc : Int32) (rFa : Int32) (rPa : Int32) (rPy : Int32) (rMi : Int32) (rMe : Int32) (rSr : Int32) (rZ : Int32) (rKi : Nat → Int32) (rHe : Nat → Int32) (rDo : Nat → Int32) (rTx : Nat → Option Nat) (rLa : Nat → Int32) (rSk : Nat → Int32) (p1 p2 : Int32) (LT : List Nat) (pk : Nat → Int32) (pv : Nat → Int32) (pa : Nat → Nat) (pn : Nat → Nat) (tc : Nat → Nat → Int32) (Q : Int32 → Prop) (h : wp_X6_textTold p1 p2 rTc rTx LT pk pv Q) : Met l yX6_textTold wsX6_textTold ({ frames := 1, cells := 0, slots := 0, locals := 22 } : Room) (va_Pc [.ref co, .int p1, .int p2] (rc_B E (rw_8 E co ro jo qo yo eo cs cl cw rk rh rd rt rl rs cWs cKp rSz rTc rFa rPa rPy rMi rMe rSr rZ rKi rHe rDo rTx rLa rSk ++ rc_tp E LT pk pv pa pn tc) sz)) (va_Qi (S := Unit) (fun (r : Int32) (u : Unit) => Q r) (fun u t => rc_C E (va_A (rw_8 E co ro jo qo yo eo cs cl cw rk rh rd rt rl rs cWs cKp rSz rTc rFa rPa rPy rMi rMe rSr rZ rKi rHe rDo rTx rLa rSk ++ rc_tp E LT pk pv pa pn tc) sz) (rw_8 E co ro jo qo yo eo cs cl cw rk rh rd rt rl rs cWs cKp rSz rTc rFa rPa rPy rMi rMe rSr rZ rKi rHe rDo rTx rLa rSk ++ rc_tp E LT pk pv pa pn tc) t) (va_A (rw_8 E co ro jo qo yo eo cs cl cw rk rh rd rt rl rs cWs cKp rSz rTc rFa rPa rPy rMi rMe rSr rZ rKi rHe rDo rTx rLa rSk ++ rc_tp E LT pk pv pa pn tc) sz)) 0 0 (va_A (rw_8 E co ro jo qo yo eo cs cl cw rk rh rd rt rl rs cWs cKp rSz rTc rFa rPa rPy rMi rMe rSr rZ rKi rHe rDo rTx rLa rSk ++ rc_tp E LT pk pv pa pn tc) sz) := by
  refine rc_enterI (cc := cX6_textTold) (maxL := 4) (by decide) rfl (Nat.le_of_ble_eq_true rfl) ?_
  intro p e s m args below meth c QQ A hx hb hml hown hts hmn hE hP hD hA hret ls hl
  have hown : s.vm.findClass RX6 = some m.cls := hown
  have hK := hE.1
  have hS : va_S A s.heap s.heap [] := va_S.rf
  have hl : lv_has ls 4 [(0, .ref co), (1, .int p1), (2, .int p2)] := hl
  have n_X1 : ∀ w ∈ wsX10, w ∈ wsX6_textTold := fun _ h => List.mem_cons_of_mem _ (List.mem_append_left _ (List.mem_append_right _ h))
  have n_X4 : ∀ w ∈ wsX40, w ∈ wsX6_textTold := fun _ h => List.mem_cons_of_mem _ (List.mem_append_right _ h)
  have n_X6 : ∀ w ∈ wsX60, w ∈ wsX6_textTold := fun _ h => List.mem_cons_of_mem _ (List.mem_append_left _ (List.mem_append_left _ (List.mem_append_right _ h)))
  have k_10 := hts (.fieldLink RX6 10 "RidgeClaps" "ridge" "LRidgeClaps$Ridge;") (List.mem_of_getElem? (i := 1) rfl)
  have k_215 := hts (.fieldLink RX6 215 "RidgeClaps$Ridge" "textCount" "I") (List.mem_of_getElem? (i := 2) rfl)
  have k_70 := hts (.constant RX6 70 (-1000000001)) (List.mem_of_getElem? (i := 3) rfl)
  have k_226 := hts (.fieldLink RX6 226 "RidgeClaps$Ridge" "texts" "[LRidgeClaps$Text;") (List.mem_of_getElem? (i := 4) rfl)
  have k_235 := hts (.fieldLink RX6 235 "RidgeClaps$Text" "leaves" "I") (List.mem_of_getElem? (i := 6) rfl)
  have k_230 := hts (.fieldLink RX6 230 "RidgeClaps$Text" "key" "I") (List.mem_of_getElem? (i := 5) rfl)
  unfold wp_X6_textTold at h
  obtain ⟨H, hH⟩ : ∃ H, H = s.heap := ⟨_, rfl⟩
  obtain ⟨locs, hlocs⟩ : ∃ locs : List Loc, locs = [] := ⟨_, rfl⟩
  have hP : va_P E.1 vwCl (rw_8 E co ro jo qo yo eo cs cl cw rk rh rd rt rl rs cWs cKp rSz rTc rFa rPa rPy rMi rMe rSr rZ rKi rHe rDo rTx rLa rSk ++ rc_tp E LT pk pv pa pn tc) H := by rw [hH]; exact hP
  have hS : va_S A s.heap H locs := by rw [hH, hlocs]; exact hS
  suffices hgo : W p l e ({ frames := 1, cells := 0, slots := 0, locals := 22 } : Room) s m args below meth c H locs 0 0 QQ (F0 m 0 ls []) from by rw [hH, hlocs] at hgo; exact hgo
  refine lv_iload_n hx hb dX6_textTold_0 rfl (lv_at hl 1 rfl) ?_
  refine lv_iconst (v := 0) hx hb dX6_textTold_1 (by decide) ?_
  refine lv_aload_n hx hb dX6_textTold_2 rfl (lv_at hl 0 rfl) ?_
  refine va_get (D := E.1) (ci := 6) (v := .ref ro) (C := RX6) (T := TX6) (N := 10) hx hb hts n_X6 hown hK hP 0 rfl rfl 0 (by decide) k_10 (fun _ h9 => h9) rfl dX6_textTold_3 ?_
  refine va_get (D := E.1) (ci := 1) (v := .int rTc) (C := RX1) (T := TX1) (N := 15) hx hb hts n_X1 hown hK hP 1 rfl rfl 5 (by decide) k_215 (fun _ h9 => h9) rfl dX6_textTold_6 ?_
  refine lv_iconst (v := 1) hx hb dX6_textTold_9 (by decide) ?_
  refine lv_isub hx hb dX6_textTold_10 ?_
  have hPc := hP.sub (ws' := []) [] rfl
  have hDc := hD.sub (ws' := []) [] (by decide) rfl
  have hFc := va_free (wc := []) hD hS hA [] rfl
  refine va_calli (va_runS (As := [.int p1, .int 0, .int (rTc - 1)]) (rest := []) ⟨hx, hb, hml, hown, hts⟩ (c_X6_within l E H.size p1 0 (rTc - 1) _ h) (va_cwS 3 hts gX6_textTold_X6_within rfl rfl rfl (by decide +kernel) ⟨Nat.le_of_ble_eq_true rfl, Nat.le_of_ble_eq_true rfl⟩) ⟨fun a U g mk q => ⟨q.1, q.2.blind⟩, fun U hU hW => ⟨rfl, by rw [hU], by rw [hU]; exact hPc, hE.call hS hFc hW hU, hDc.weaken (fun _ _ _ _ => trivial)⟩⟩ rfl rfl hl.1 rfl (lv_room (Nat.le_of_ble_eq_true rfl)) dX6_textTold_11 ⟨Nat.zero_le _, Nat.zero_le _⟩) hS (fun q _ h => hFc q h) hFc (fun r_1 u t H1 locs ht hvm h hB hz1 hk1 hS => ?_)
  obtain ⟨hP1, hD1⟩ := hB
  rw [ht] at hP1
  obtain ⟨hP, hD⟩ := rc_foc hP hD [] [none, none, none, none, none, none, none, none] (by decide) rfl hk1 hP1 rfl
  generalize H1 = H at hP hS ⊢
  have hP : va_P E.1 vwCl (rw_8 E co ro jo qo yo eo cs cl cw rk rh rd rt rl rs cWs cKp rSz rTc rFa rPa rPy rMi rMe rSr rZ rKi rHe rDo rTx rLa rSk ++ rc_tp E LT pk pv pa pn tc) H := hP
  have hD : va_D A (rw_8 E co ro jo qo yo eo cs cl cw rk rh rd rt rl rs cWs cKp rSz rTc rFa rPa rPy rMi rMe rSr rZ rKi rHe rDo rTx rLa rSk ++ rc_tp E LT pk pv pa pn tc) := hD
  refine lv_if_eq (tgt := 26) hx hb dX6_textTold_14 (by decide) (fun c_2 => ?_) (fun c_2 => ?_)
  · have h := h.1 c_2
    refine lv_ldc hx hb hown k_70 dX6_textTold_26 ?_
    exact hret _ _ _ _ (-1000000001) () rfl h hP hD hS dX6_textTold_28
  · have h := h.2 c_2
    refine lv_iload_n hx hb dX6_textTold_17 rfl (lv_at hl 2 rfl) ?_
    refine lv_iconst (v := 0) hx hb dX6_textTold_18 (by decide) ?_
    refine lv_iconst (v := 1) hx hb dX6_textTold_19 (by decide) ?_
    have hPc := hP.sub (ws' := []) [] rfl
    have hDc := hD.sub (ws' := []) [] (by decide) rfl
    have hFc := va_free (wc := []) hD hS hA [] rfl
    refine va_calli (va_runS (As := [.int p2, .int 0, .int 1]) (rest := []) ⟨hx, hb, hml, hown, hts⟩ (c_X6_within l E H.size p2 0 1 _ h) (va_cwS 3 hts gX6_textTold_X6_within rfl rfl rfl (by decide +kernel) ⟨Nat.le_of_ble_eq_true rfl, Nat.le_of_ble_eq_true rfl⟩) ⟨fun a U g mk q => ⟨q.1, q.2.blind⟩, fun U hU hW => ⟨rfl, by rw [hU], by rw [hU]; exact hPc, hE.call hS hFc hW hU, hDc.weaken (fun _ _ _ _ => trivial)⟩⟩ rfl rfl hl.1 rfl (lv_room (Nat.le_of_ble_eq_true rfl)) dX6_textTold_20 ⟨Nat.zero_le _, Nat.zero_le _⟩) hS (fun q _ h => hFc q h) hFc (fun r_3 u t H1 locs ht hvm h hB hz1 hk1 hS => ?_)
    obtain ⟨hP1, hD1⟩ := hB
    rw [ht] at hP1
    obtain ⟨hP, hD⟩ := rc_foc hP hD [] [none, none, none, none, none, none, none, none] (by decide) rfl hk1 hP1 rfl
    generalize H1 = H at hP hS ⊢
    have hP : va_P E.1 vwCl (rw_8 E co ro jo qo yo eo cs cl cw rk rh rd rt rl rs cWs cKp rSz rTc rFa rPa rPy rMi rMe rSr rZ rKi rHe rDo rTx rLa rSk ++ rc_tp E LT pk pv pa pn tc) H := hP
    have hD : va_D A (rw_8 E co ro jo qo yo eo cs cl cw rk rh rd rt rl rs cWs cKp rSz rTc rFa rPa rPy rMi rMe rSr rZ rKi rHe rDo rTx rLa rSk ++ rc_tp E LT pk pv pa pn tc) := hD
    refine lv_if_ne (tgt := 29) hx hb dX6_textTold_23 (by decide) (fun c_4 => ?_) (fun c_4 => ?_)
    · have h := h.1 c_4
      refine lv_aload_n hx hb dX6_textTold_29 rfl (lv_at hl 0 rfl) ?_
      refine va_get (D := E.1) (ci := 6) (v := .ref ro) (C := RX6) (T := TX6) (N := 10) hx hb hts n_X6 hown hK hP 0 rfl rfl 0 (by decide) k_10 (fun _ h9 => h9) rfl dX6_textTold_30 ?_
      refine va_get (D := E.1) (ci := 1) (v := .ref rt) (C := RX1) (T := TX1) (N := 15) hx hb hts n_X1 hown hK hP 1 rfl rfl 4 (by decide) k_226 (fun _ h9 => h9) rfl dX6_textTold_33 ?_
      refine lv_iload_n hx hb dX6_textTold_36 rfl (lv_at hl 1 rfl) ?_
      obtain ⟨o_5, h⟩ := h
      refine va_aldq hx hb hK hP 5 5 rfl rfl o_5 dX6_textTold_37 ?_
      rcases c_7 : rTx p1.toNatClampNeg with _ | a_6
      · have h := h.1 c_7
        refine lv_astore_nN (lv' := [(3, .null), (0, .ref co), (1, .int p1), (2, .int p2)]) hx hb dX6_textTold_38 rfl hl (by decide) rfl (fun ls hl => ?_)
        refine lv_aload_nN hx hb dX6_textTold_39 rfl (lv_at hl 0 rfl) ?_
        refine lv_ifnonnullN hx hb dX6_textTold_40 ?_
        refine lv_ldc hx hb hown k_70 dX6_textTold_43 ?_
        exact hret _ _ _ _ (-1000000001) () rfl h hP hD hS dX6_textTold_45
      · have h := h.2 a_6 c_7
        refine lv_astore_n (lv' := [(3, .ref a_6), (0, .ref co), (1, .int p1), (2, .int p2)]) hx hb dX6_textTold_38 rfl hl (by decide) rfl (fun ls hl => ?_)
        refine lv_aload_n hx hb dX6_textTold_39 rfl (lv_at hl 0 rfl) ?_
        refine lv_ifnonnull (tgt := 46) hx hb dX6_textTold_40 (by decide) ?_
        refine lv_iload_n hx hb dX6_textTold_46 rfl (lv_at hl 3 rfl) ?_
        refine lv_if_ne (tgt := 57) hx hb dX6_textTold_47 (by decide) (fun c_8 => ?_) (fun c_8 => ?_)
        · have h := h.1 c_8
          refine lv_aload_n hx hb dX6_textTold_57 rfl (lv_at hl 0 rfl) ?_
          obtain ⟨m_9, h⟩ := h
          obtain ⟨q_10, hq_10⟩ := rc_tpo (E := E) (X := (rw_8 E co ro jo qo yo eo cs cl cw rk rh rd rt rl rs cWs cKp rSz rTc rFa rPa rPy rMi rMe rSr rZ rKi rHe rDo rTx rLa rSk)) (pk := pk) (pv := pv) (pa := pa) (pn := pn) (pc := tc) m_9
          refine va_get (D := E.1) (ci := 4) (v := .int (pv a_6)) (C := RX4) (T := TX4) (N := 3) hx hb hts n_X4 hown hK hP q_10 hq_10 rfl 1 (by decide) k_235 (fun _ h9 => h9) rfl dX6_textTold_58 ?_
          exact hret _ _ _ _ (pv a_6) () rfl h hP hD hS dX6_textTold_61
        · have h := h.2 c_8
          refine lv_aload_n hx hb dX6_textTold_50 rfl (lv_at hl 0 rfl) ?_
          obtain ⟨m_11, h⟩ := h
          obtain ⟨q_12, hq_12⟩ := rc_tpo (E := E) (X := (rw_8 E co ro jo qo yo eo cs cl cw rk rh rd rt rl rs cWs cKp rSz rTc rFa rPa rPy rMi rMe rSr rZ rKi rHe rDo rTx rLa rSk)) (pk := pk) (pv := pv) (pa := pa) (pn := pn) (pc := tc) m_11
          refine va_get (D := E.1) (ci := 4) (v := .int (pk a_6)) (C := RX4) (T := TX4) (N := 3) hx hb hts n_X4 hown hK hP q_12 hq_12 rfl 0 (by decide) k_230 (fun _ h9 => h9) rfl dX6_textTold_51 ?_
          refine lv_goto (tgt := 61) hx hb dX6_textTold_54 (by decide) ?_
          exact hret _ _ _ _ (pk a_6) () rfl h hP hD hS dX6_textTold_61
    · have h := h.2 c_4
      refine lv_ldc hx hb hown k_70 dX6_textTold_26 ?_
      exact hret _ _ _ _ (-1000000001) () rfl h hP hD hS dX6_textTold_28
def wp_X6_why (p1 : Int32) (rLa : Nat → Int32) (Q : Int32 → Prop) : Prop :=
  wp_X6_within p1 0 2 (fun (r_1 : Int32) => ((¬ r_1 = 0 → (vp_in p1 3 ∧ Q (rLa p1.toNatClampNeg))) ∧ (r_1 = 0 → Q (-1000000001))))
set_option maxHeartbeats 4000000 in
set_option maxRecDepth 100000 in
theorem c_X6_why (l : Launch) (E : gE) (co ro jo qo yo eo cs cl cw rk rh rd rt rl rs : Nat) (sz : Nat) (cWs : Int32) (cKp : Int32) (rSz : Int32) (rTc : Int32) (rFa : Int32) (rPa : Int32) (rPy : Int32) (rMi : Int32) (rMe : Int32) (rSr : Int32) (rZ : Int32) (rKi : Nat → Int32) (rHe : Nat → Int32) (rDo : Nat → Int32) (rTx : Nat → Option Nat) (rLa : Nat → Int32) (rSk : Nat → Int32) (p1 : Int32) (LT : List Nat) (pk : Nat → Int32) (pv : Nat → Int32) (pa : Nat → Nat) (pn : Nat → Nat) (tc : Nat → Nat → Int32) (Q : Int32 → Prop) (h : wp_X6_why p1 rLa Q) : Met l yX6_why wsX6_why ({ frames := 1, cells := 0, slots := 0, locals := 22 } : Room) (va_Pc [.ref co, .int p1] (rc_B E (rw_8 E co ro jo qo yo eo cs cl cw rk rh rd rt rl rs cWs cKp rSz rTc rFa rPa rPy rMi rMe rSr rZ rKi rHe rDo rTx rLa rSk ++ rc_tp E LT pk pv pa pn tc) sz)) (va_Qi (S := Unit) (fun (r : Int32) (u : Unit) => Q r) (fun u t => rc_C E (va_A (rw_8 E co ro jo qo yo eo cs cl cw rk rh rd rt rl rs cWs cKp rSz rTc rFa rPa rPy rMi rMe rSr rZ rKi rHe rDo rTx rLa rSk ++ rc_tp E LT pk pv pa pn tc) sz) (rw_8 E co ro jo qo yo eo cs cl cw rk rh rd rt rl rs cWs cKp rSz rTc rFa rPa rPy rMi rMe rSr rZ rKi rHe rDo rTx rLa rSk ++ rc_tp E LT pk pv pa pn tc) t) (va_A (rw_8 E co ro jo qo yo eo cs cl cw rk rh rd rt rl rs cWs cKp rSz rTc rFa rPa rPy rMi rMe rSr rZ rKi rHe rDo rTx rLa rSk ++ rc_tp E LT pk pv pa pn tc) sz)) 0 0 (va_A (rw_8 E co ro jo qo yo eo cs cl cw rk rh rd rt rl rs cWs cKp rSz rTc rFa rPa rPy rMi rMe rSr rZ rKi rHe rDo rTx rLa rSk ++ rc_tp E LT pk pv pa pn tc) sz) := by
  refine rc_enterI (cc := cX6_why) (maxL := 2) (by decide) rfl (Nat.le_of_ble_eq_true rfl) ?_
  intro p e s m args below meth c QQ A hx hb hml hown hts hmn hE hP hD hA hret ls hl
  have hown : s.vm.findClass RX6 = some m.cls := hown
  have hK := hE.1
  have hS : va_S A s.heap s.heap [] := va_S.rf
  have hl : lv_has ls 2 [(0, .ref co), (1, .int p1)] := hl
  have n_X1 : ∀ w ∈ wsX10, w ∈ wsX6_why := fun _ h => List.mem_cons_of_mem _ (List.mem_append_right _ h)
  have n_X6 : ∀ w ∈ wsX60, w ∈ wsX6_why := fun _ h => List.mem_cons_of_mem _ (List.mem_append_left _ (List.mem_append_right _ h))
  have k_10 := hts (.fieldLink RX6 10 "RidgeClaps" "ridge" "LRidgeClaps$Ridge;") (List.mem_of_getElem? (i := 2) rfl)
  have k_238 := hts (.fieldLink RX6 238 "RidgeClaps$Ridge" "lastTold" "[I") (List.mem_of_getElem? (i := 3) rfl)
  have k_70 := hts (.constant RX6 70 (-1000000001)) (List.mem_of_getElem? (i := 1) rfl)
  unfold wp_X6_why at h
  obtain ⟨H, hH⟩ : ∃ H, H = s.heap := ⟨_, rfl⟩
  obtain ⟨locs, hlocs⟩ : ∃ locs : List Loc, locs = [] := ⟨_, rfl⟩
  have hP : va_P E.1 vwCl (rw_8 E co ro jo qo yo eo cs cl cw rk rh rd rt rl rs cWs cKp rSz rTc rFa rPa rPy rMi rMe rSr rZ rKi rHe rDo rTx rLa rSk ++ rc_tp E LT pk pv pa pn tc) H := by rw [hH]; exact hP
  have hS : va_S A s.heap H locs := by rw [hH, hlocs]; exact hS
  suffices hgo : W p l e ({ frames := 1, cells := 0, slots := 0, locals := 22 } : Room) s m args below meth c H locs 0 0 QQ (F0 m 0 ls []) from by rw [hH, hlocs] at hgo; exact hgo
  refine lv_iload_n hx hb dX6_why_0 rfl (lv_at hl 1 rfl) ?_
  refine lv_iconst (v := 0) hx hb dX6_why_1 (by decide) ?_
  refine lv_iconst (v := 2) hx hb dX6_why_2 (by decide) ?_
  have hPc := hP.sub (ws' := []) [] rfl
  have hDc := hD.sub (ws' := []) [] (by decide) rfl
  have hFc := va_free (wc := []) hD hS hA [] rfl
  refine va_calli (va_runS (As := [.int p1, .int 0, .int 2]) (rest := []) ⟨hx, hb, hml, hown, hts⟩ (c_X6_within l E H.size p1 0 2 _ h) (va_cwS 3 hts gX6_why_X6_within rfl rfl rfl (by decide +kernel) ⟨Nat.le_of_ble_eq_true rfl, Nat.le_of_ble_eq_true rfl⟩) ⟨fun a U g mk q => ⟨q.1, q.2.blind⟩, fun U hU hW => ⟨rfl, by rw [hU], by rw [hU]; exact hPc, hE.call hS hFc hW hU, hDc.weaken (fun _ _ _ _ => trivial)⟩⟩ rfl rfl hl.1 rfl (lv_room (Nat.le_of_ble_eq_true rfl)) dX6_why_3 ⟨Nat.zero_le _, Nat.zero_le _⟩) hS (fun q _ h => hFc q h) hFc (fun r_1 u t H1 locs ht hvm h hB hz1 hk1 hS => ?_)
  obtain ⟨hP1, hD1⟩ := hB
  rw [ht] at hP1
  obtain ⟨hP, hD⟩ := rc_foc hP hD [] [none, none, none, none, none, none, none, none] (by decide) rfl hk1 hP1 rfl
  generalize H1 = H at hP hS ⊢
  have hP : va_P E.1 vwCl (rw_8 E co ro jo qo yo eo cs cl cw rk rh rd rt rl rs cWs cKp rSz rTc rFa rPa rPy rMi rMe rSr rZ rKi rHe rDo rTx rLa rSk ++ rc_tp E LT pk pv pa pn tc) H := hP
  have hD : va_D A (rw_8 E co ro jo qo yo eo cs cl cw rk rh rd rt rl rs cWs cKp rSz rTc rFa rPa rPy rMi rMe rSr rZ rKi rHe rDo rTx rLa rSk ++ rc_tp E LT pk pv pa pn tc) := hD
  refine lv_if_ne (tgt := 12) hx hb dX6_why_6 (by decide) (fun c_2 => ?_) (fun c_2 => ?_)
  · have h := h.1 c_2
    refine lv_aload_n hx hb dX6_why_12 rfl (lv_at hl 0 rfl) ?_
    refine va_get (D := E.1) (ci := 6) (v := .ref ro) (C := RX6) (T := TX6) (N := 10) hx hb hts n_X6 hown hK hP 0 rfl rfl 0 (by decide) k_10 (fun _ h9 => h9) rfl dX6_why_13 ?_
    refine va_get (D := E.1) (ci := 1) (v := .ref rl) (C := RX1) (T := TX1) (N := 15) hx hb hts n_X1 hown hK hP 1 rfl rfl 6 (by decide) k_238 (fun _ h9 => h9) rfl dX6_why_16 ?_
    refine lv_iload_n hx hb dX6_why_19 rfl (lv_at hl 1 rfl) ?_
    obtain ⟨o_3, h⟩ := h
    refine rc_iald hx hb hK hP 6 0 rfl rfl p1.toNatClampNeg rfl o_3 dX6_why_20 ?_
    exact hret _ _ _ _ (rLa p1.toNatClampNeg) () rfl h hP hD hS dX6_why_21
  · have h := h.2 c_2
    refine lv_ldc hx hb hown k_70 dX6_why_9 ?_
    exact hret _ _ _ _ (-1000000001) () rfl h hP hD hS dX6_why_11
