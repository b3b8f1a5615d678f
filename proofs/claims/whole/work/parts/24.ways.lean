def lp_X5_weigh_2F (rSz : Int32) (rKi : Nat → Int32) (rHe : Nat → Int32) (rTx : Nat → Option Nat) (rLa : Nat → Int32) (LT : List Nat) (pn : Nat → Nat) (tc : Nat → Nat → Int32)  (Q : (Nat → Int32) → (Nat → Int32) → Prop) (R : Int32 → (Nat → Int32) → (Nat → Int32) → Prop) (x2 : Int32) (yRi : Nat → Int32) (rSk : Nat → Int32) : Prop :=
  ((rSz ≤ x2 → Q yRi rSk) ∧ (¬ (rSz ≤ x2) → wp_X1_riskOf x2 rKi rHe rTx rLa rSk LT pn tc (fun (r_2 : Int32) (w_3 : Nat → Int32) => (vp_in x2 24 ∧ R (x2 + 1) (upd yRi x2.toNatClampNeg r_2) w_3))))
def lp_X5_weigh_2 (rSz : Int32) (rKi : Nat → Int32) (rHe : Nat → Int32) (rTx : Nat → Option Nat) (rLa : Nat → Int32) (LT : List Nat) (pn : Nat → Nat) (tc : Nat → Nat → Int32)  (Q : (Nat → Int32) → (Nat → Int32) → Prop) (n : Nat) : Int32 → (Nat → Int32) → (Nat → Int32) → Prop :=
  Nat.rec (motive := fun _ => Int32 → (Nat → Int32) → (Nat → Int32) → Prop) (fun _ _ _ => False) (fun _ r => lp_X5_weigh_2F rSz rKi rHe rTx rLa LT pn tc Q r) n
def wp_X5_weigh (yRi : Nat → Int32) (rSz : Int32) (rKi : Nat → Int32) (rHe : Nat → Int32) (rTx : Nat → Option Nat) (rLa : Nat → Int32) (rSk : Nat → Int32) (LT : List Nat) (pn : Nat → Nat) (tc : Nat → Nat → Int32) (Q : (Nat → Int32) → (Nat → Int32) → Prop) : Prop :=
  (∃ n : Nat, lp_X5_weigh_2 rSz rKi rHe rTx rLa LT pn tc Q n 0 yRi rSk)
set_option maxHeartbeats 4000000 in
set_option maxRecDepth 100000 in
theorem c_X5_weigh (l : Launch) (E : gE) (yo yr yl yt ro rk rh rd rt rl rs : Nat) (sz : Nat) (yRi : Nat → Int32) (yLe : Nat → Int32) (yLa : Nat → Int32) (rSz : Int32) (rTc : Int32) (rFa : Int32) (rPa : Int32) (rPy : Int32) (rMi : Int32) (rMe : Int32) (rSr : Int32) (rZ : Int32) (rKi : Nat → Int32) (rHe : Nat → Int32) (rDo : Nat → Int32) (rTx : Nat → Option Nat) (rLa : Nat → Int32) (rSk : Nat → Int32)  (LT : List Nat) (pk : Nat → Int32) (pv : Nat → Int32) (pa : Nat → Nat) (pn : Nat → Nat) (tc : Nat → Nat → Int32) (Q : (Nat → Int32) → (Nat → Int32) → Prop) (h : wp_X5_weigh yRi rSz rKi rHe rTx rLa rSk LT pn tc Q) : Met l yX5_weigh wsX5_weigh ({ frames := 4, cells := 0, slots := 0, locals := 99 } : Room) (va_Pc [.ref yo, .ref ro] (rc_B E (rw_7 E yo yr yl yt ro rk rh rd rt rl rs yRi yLe yLa rSz rTc rFa rPa rPy rMi rMe rSr rZ rKi rHe rDo rTx rLa rSk ++ rc_tp E LT pk pv pa pn tc) sz)) (va_Qv (S := (Nat → Int32) × (Nat → Int32)) (fun (u : (Nat → Int32) × (Nat → Int32)) => Q u.1 u.2) (fun u t => rc_C E (va_A (rw_7 E yo yr yl yt ro rk rh rd rt rl rs yRi yLe yLa rSz rTc rFa rPa rPy rMi rMe rSr rZ rKi rHe rDo rTx rLa rSk ++ rc_tp E LT pk pv pa pn tc) sz) (rw_7 E yo yr yl yt ro rk rh rd rt rl rs u.1 yLe yLa rSz rTc rFa rPa rPy rMi rMe rSr rZ rKi rHe rDo rTx rLa u.2 ++ rc_tp E LT pk pv pa pn tc) t) (va_A (rw_7 E yo yr yl yt ro rk rh rd rt rl rs yRi yLe yLa rSz rTc rFa rPa rPy rMi rMe rSr rZ rKi rHe rDo rTx rLa rSk ++ rc_tp E LT pk pv pa pn tc) sz)) 0 0 (va_A (rw_7 E yo yr yl yt ro rk rh rd rt rl rs yRi yLe yLa rSz rTc rFa rPa rPy rMi rMe rSr rZ rKi rHe rDo rTx rLa rSk ++ rc_tp E LT pk pv pa pn tc) sz) := by
  refine rc_enterV (cc := cX5_weigh) (maxL := 3) (by decide) rfl (Nat.le_of_ble_eq_true rfl) ?_
  intro p e s m args below meth c QQ A hx hb hml hown hts hmn hE hP hD hA hret ls hl
  have hown : s.vm.findClass RX5 = some m.cls := hown
  have hK := hE.1
  have hS : va_S A s.heap s.heap [] := va_S.rf
  have hl : lv_has ls 3 [(0, .ref yo), (1, .ref ro)] := hl
  have n_X1 : ∀ w ∈ wsX10, w ∈ wsX5_weigh := fun _ h => List.mem_cons_of_mem _ (List.mem_append_left _ (List.mem_append_left _ (List.mem_append_right _ h)))
  have n_X5 : ∀ w ∈ wsX50, w ∈ wsX5_weigh := fun _ h => List.mem_cons_of_mem _ (List.mem_append_left _ (List.mem_append_right _ h))
  have k_21 := hts (.fieldLink RX5 21 "RidgeClaps$Ridge" "size" "I") (List.mem_of_getElem? (i := 1) rfl)
  have k_9 := hts (.fieldLink RX5 9 "RidgeClaps$Ways" "risks" "[I") (List.mem_of_getElem? (i := 2) rfl)
  have J2 : ∀ (n : Nat) (x2 : Int32) (yRi : Nat → Int32) (rSk : Nat → Int32), lp_X5_weigh_2 rSz rKi rHe rTx rLa LT pn tc Q n x2 yRi rSk → ∀ (H : Heap) (locs : List Loc), va_P E.1 vwCl (rw_7 E yo yr yl yt ro rk rh rd rt rl rs yRi yLe yLa rSz rTc rFa rPa rPy rMi rMe rSr rZ rKi rHe rDo rTx rLa rSk ++ rc_tp E LT pk pv pa pn tc) H → va_D A (rw_7 E yo yr yl yt ro rk rh rd rt rl rs yRi yLe yLa rSz rTc rFa rPa rPy rMi rMe rSr rZ rKi rHe rDo rTx rLa rSk ++ rc_tp E LT pk pv pa pn tc) → va_S A s.heap H locs → ∀ ls : Array Slot, lv_has ls 3 [(0, .ref yo), (1, .ref ro), (2, .int x2)] → W p l e ({ frames := 4, cells := 0, slots := 0, locals := 99 } : Room) s m args below meth c H locs 0 0 QQ (F0 m 2 ls []) := by
    intro n
    induction n with
    | zero =>
      intro x2 yRi rSk h
      exact False.elim h
    | succ n ih =>
      intro x2 yRi rSk h H locs hP hD hS ls hl
      have h : lp_X5_weigh_2F rSz rKi rHe rTx rLa LT pn tc Q (lp_X5_weigh_2 rSz rKi rHe rTx rLa LT pn tc Q n) x2 yRi rSk := h
      unfold lp_X5_weigh_2F at h
      refine lv_iload_n hx hb dX5_weigh_2 rfl (lv_at hl 2 rfl) ?_
      refine lv_aload_n hx hb dX5_weigh_3 rfl (lv_at hl 1 rfl) ?_
      refine va_get (D := E.1) (ci := 1) (v := .int rSz) (C := RX1) (T := TX1) (N := 15) hx hb hts n_X1 hown hK hP 4 rfl rfl 3 (by decide) k_21 (fun _ h9 => h9) rfl dX5_weigh_4 ?_
      refine lv_icmp_ge (tgt := 27) hx hb dX5_weigh_7 (by decide) (fun c_1 => ?_) (fun c_1 => ?_)
      · have h := h.1 c_1
        exact hret _ _ _ _ (yRi, rSk) h hP hD hS dX5_weigh_27
      · have h := h.2 c_1
        refine lv_aload_n hx hb dX5_weigh_10 rfl (lv_at hl 0 rfl) ?_
        refine va_get (D := E.1) (ci := 5) (v := .ref yr) (C := RX5) (T := TX5) (N := 3) hx hb hts n_X5 hown hK hP 0 rfl rfl 0 (by decide) k_9 (fun _ h9 => h9) rfl dX5_weigh_11 ?_
        refine lv_iload_n hx hb dX5_weigh_14 rfl (lv_at hl 2 rfl) ?_
        refine lv_aload_n hx hb dX5_weigh_15 rfl (lv_at hl 1 rfl) ?_
        refine lv_iload_n hx hb dX5_weigh_16 rfl (lv_at hl 2 rfl) ?_
        have hPc := hP.part (cx := (rw_4 E ro rk rh rd rt rl rs rSz rTc rFa rPa rPy rMi rMe rSr rZ rKi rHe rDo rTx rLa rSk)) [4, 5, 6, 7, 8, 9, 10] rfl
        have hDc := hD.part (cx := (rw_4 E ro rk rh rd rt rl rs rSz rTc rFa rPa rPy rMi rMe rSr rZ rKi rHe rDo rTx rLa rSk)) [4, 5, 6, 7, 8, 9, 10] (by decide) rfl
        have hFc := va_freeP (cx := (rw_4 E ro rk rh rd rt rl rs rSz rTc rFa rPa rPy rMi rMe rSr rZ rKi rHe rDo rTx rLa rSk)) hD hS hA [4, 5, 6, 7, 8, 9, 10] rfl
        refine va_calli (va_runV (As := [.int x2]) (rest := [.int x2, .ref yr]) ⟨hx, hb, hml, hown, hts⟩ (c_X1_riskOf l E ro rk rh rd rt rl rs H.size rSz rTc rFa rPa rPy rMi rMe rSr rZ rKi rHe rDo rTx rLa rSk x2 LT pk pv pa pn tc _ h) (cwV 1 hts gX5_weigh_X1_riskOf rfl rfl rfl (by decide +kernel) ⟨Nat.le_of_ble_eq_true rfl, Nat.le_of_ble_eq_true rfl⟩) ⟨fun a U g mk q => ⟨q.1, q.2.blind⟩, va_recv hK hPc (ci := 1) (q0 := 0) rfl rfl, fun U hU hW => ⟨rfl, by rw [hU], by rw [hU]; exact hPc, hE.call hS hFc hW hU, hDc.weaken (fun _ _ _ _ => trivial)⟩⟩ rfl rfl hl.1 rfl (lv_room (Nat.le_of_ble_eq_true rfl)) dX5_weigh_17 ⟨Nat.zero_le _, Nat.zero_le _⟩) hS (fun q _ h => hFc q h) hFc (fun r_2 u t H1 locs ht hvm h hB hz1 hk1 hS => ?_)
        obtain ⟨w_3, rfl⟩ : ∃ z, z = u := ⟨_, rfl⟩
        obtain ⟨hP1, hD1⟩ := hB
        rw [ht] at hP1
        obtain ⟨hP, hD⟩ := rc_focP hP hD [4, 5, 6, 7, 8, 9, 10] [none, none, none, none, some 0, some 1, some 2, some 3, some 4, some 5, some 6] (by decide) rfl rfl hk1 hP1 rfl
        generalize H1 = H at hP hS ⊢
        have hP : va_P E.1 vwCl (rw_7 E yo yr yl yt ro rk rh rd rt rl rs yRi yLe yLa rSz rTc rFa rPa rPy rMi rMe rSr rZ rKi rHe rDo rTx rLa w_3 ++ rc_tp E LT pk pv pa pn tc) H := hP
        have hD : va_D A (rw_7 E yo yr yl yt ro rk rh rd rt rl rs yRi yLe yLa rSz rTc rFa rPa rPy rMi rMe rSr rZ rKi rHe rDo rTx rLa w_3 ++ rc_tp E LT pk pv pa pn tc) := hD
        obtain ⟨o_4, h⟩ := h
        refine rc_iast hx hb hK hP hD hS 1 0 rfl rfl x2.toNatClampNeg rfl o_4 dX5_weigh_20 (fun H locs hP hD hS => ?_)
        have hP : va_P E.1 vwCl (rw_7 E yo yr yl yt ro rk rh rd rt rl rs (upd yRi x2.toNatClampNeg r_2) yLe yLa rSz rTc rFa rPa rPy rMi rMe rSr rZ rKi rHe rDo rTx rLa w_3 ++ rc_tp E LT pk pv pa pn tc) H := hP
        have hD : va_D A (rw_7 E yo yr yl yt ro rk rh rd rt rl rs (upd yRi x2.toNatClampNeg r_2) yLe yLa rSz rTc rFa rPa rPy rMi rMe rSr rZ rKi rHe rDo rTx rLa w_3 ++ rc_tp E LT pk pv pa pn tc) := hD
        refine lv_iinc (v := x2 + 1) (lv' := [(2, .int (x2 + 1)), (0, .ref yo), (1, .ref ro)]) hx hb dX5_weigh_21 hl (k := 2) rfl (by rfl) (by decide) rfl (fun ls hl => ?_)
        refine lv_goto (tgt := 2) hx hb dX5_weigh_24 (by decide) ?_
        exact ih (x2 + 1) (upd yRi x2.toNatClampNeg r_2) w_3 h _ _ hP hD hS ls (lv_sub hl [1, 2, 0] rfl)
  unfold wp_X5_weigh at h
  obtain ⟨H, hH⟩ : ∃ H, H = s.heap := ⟨_, rfl⟩
  obtain ⟨locs, hlocs⟩ : ∃ locs : List Loc, locs = [] := ⟨_, rfl⟩
  have hP : va_P E.1 vwCl (rw_7 E yo yr yl yt ro rk rh rd rt rl rs yRi yLe yLa rSz rTc rFa rPa rPy rMi rMe rSr rZ rKi rHe rDo rTx rLa rSk ++ rc_tp E LT pk pv pa pn tc) H := by rw [hH]; exact hP
  have hS : va_S A s.heap H locs := by rw [hH, hlocs]; exact hS
  suffices hgo : W p l e ({ frames := 4, cells := 0, slots := 0, locals := 99 } : Room) s m args below meth c H locs 0 0 QQ (F0 m 0 ls []) from by rw [hH, hlocs] at hgo; exact hgo
  refine lv_iconst (v := 0) hx hb dX5_weigh_0 (by decide) ?_
  refine lv_istore_n (lv' := [(2, .int 0), (0, .ref yo), (1, .ref ro)]) hx hb dX5_weigh_1 rfl hl (by decide) rfl (fun ls hl => ?_)
  obtain ⟨n, h⟩ := h
  exact J2 n 0 yRi rSk h _ _ hP hD hS ls (lv_sub hl [1, 2, 0] rfl)
def wp_X5_leastLater (p2 : Int32) (yLa : Nat → Int32) (rSz : Int32) (rDo : Nat → Int32) (Q : Int32 → Prop) : Prop :=
  ((p2 < 1 → Q 0) ∧ (¬ (p2 < 1) → ((rSz ≤ (p2 + 1) → Q 0) ∧ (¬ (rSz ≤ (p2 + 1)) → (vp_in p2 24 ∧ ((¬ (rDo p2.toNatClampNeg) = 1 → (vp_in p2 24 ∧ (vp_in (p2 - 1) 24 ∧ (vp_in (p2 + 1) 24 ∧ Q (rc_min (yLa p2.toNatClampNeg) (rc_min (yLa ((p2 - 1).toNatClampNeg)) (yLa ((p2 + 1).toNatClampNeg)))))))) ∧ ((rDo p2.toNatClampNeg) = 1 → Q 0)))))))
set_option maxHeartbeats 4000000 in
set_option maxRecDepth 100000 in
theorem c_X5_leastLater (l : Launch) (E : gE) (yo yr yl yt ro rk rh rd rt rl rs : Nat) (sz : Nat) (yRi : Nat → Int32) (yLe : Nat → Int32) (yLa : Nat → Int32) (rSz : Int32) (rTc : Int32) (rFa : Int32) (rPa : Int32) (rPy : Int32) (rMi : Int32) (rMe : Int32) (rSr : Int32) (rZ : Int32) (rKi : Nat → Int32) (rHe : Nat → Int32) (rDo : Nat → Int32) (rTx : Nat → Option Nat) (rLa : Nat → Int32) (rSk : Nat → Int32) (p2 : Int32) (LT : List Nat) (pk : Nat → Int32) (pv : Nat → Int32) (pa : Nat → Nat) (pn : Nat → Nat) (tc : Nat → Nat → Int32) (Q : Int32 → Prop) (h : wp_X5_leastLater p2 yLa rSz rDo Q) : Met l yX5_leastLater wsX5_leastLater ({ frames := 1, cells := 0, slots := 0, locals := 40 } : Room) (va_Pc [.ref yo, .ref ro, .int p2] (rc_B E (rw_7 E yo yr yl yt ro rk rh rd rt rl rs yRi yLe yLa rSz rTc rFa rPa rPy rMi rMe rSr rZ rKi rHe rDo rTx rLa rSk ++ rc_tp E LT pk pv pa pn tc) sz)) (va_Qi (S := Unit) (fun (r : Int32) (u : Unit) => Q r) (fun u t => rc_C E (va_A (rw_7 E yo yr yl yt ro rk rh rd rt rl rs yRi yLe yLa rSz rTc rFa rPa rPy rMi rMe rSr rZ rKi rHe rDo rTx rLa rSk ++ rc_tp E LT pk pv pa pn tc) sz) (rw_7 E yo yr yl yt ro rk rh rd rt rl rs yRi yLe yLa rSz rTc rFa rPa rPy rMi rMe rSr rZ rKi rHe rDo rTx rLa rSk ++ rc_tp E LT pk pv pa pn tc) t) (va_A (rw_7 E yo yr yl yt ro rk rh rd rt rl rs yRi yLe yLa rSz rTc rFa rPa rPy rMi rMe rSr rZ rKi rHe rDo rTx rLa rSk ++ rc_tp E LT pk pv pa pn tc) sz)) 0 0 (va_A (rw_7 E yo yr yl yt ro rk rh rd rt rl rs yRi yLe yLa rSz rTc rFa rPa rPy rMi rMe rSr rZ rKi rHe rDo rTx rLa rSk ++ rc_tp E LT pk pv pa pn tc) sz) := by
  refine rc_enterI (cc := cX5_leastLater) (maxL := 3) (by decide) rfl (Nat.le_of_ble_eq_true rfl) ?_
  intro p e s m args below meth c QQ A hx hb hml hown hts hmn hE hP hD hA hret ls hl
  have hown : s.vm.findClass RX5 = some m.cls := hown
  have hK := hE.1
  have hS : va_S A s.heap s.heap [] := va_S.rf
  have hl : lv_has ls 3 [(0, .ref yo), (1, .ref ro), (2, .int p2)] := hl
  have n_X1 : ∀ w ∈ wsX10, w ∈ wsX5_leastLater := fun _ h => List.mem_cons_of_mem _ (List.mem_append_left _ (List.mem_append_right _ h))
  have n_X5 : ∀ w ∈ wsX50, w ∈ wsX5_leastLater := fun _ h => List.mem_cons_of_mem _ (List.mem_append_right _ h)
  have k_21 := hts (.fieldLink RX5 21 "RidgeClaps$Ridge" "size" "I") (List.mem_of_getElem? (i := 1) rfl)
  have k_58 := hts (.fieldLink RX5 58 "RidgeClaps$Ridge" "downs" "[I") (List.mem_of_getElem? (i := 2) rfl)
  have k_18 := hts (.fieldLink RX5 18 "RidgeClaps$Ways" "later" "[I") (List.mem_of_getElem? (i := 3) rfl)
  have k_61 := hts (.methodLink RX5 61 Lib.Math.min.name) (List.mem_of_getElem? (i := 4) rfl)
  have k_smin := hts (.static Lib.Math.min.name) (List.mem_of_getElem? (i := 5) rfl)
  have k_math := hts (.initialized "java/lang/Math") (List.mem_of_getElem? (i := 6) rfl)
  have k_cmin := hts (.code Lib.Math.min.name Lib.Math.min.code 2 (some .int)) (List.mem_of_getElem? (i := 7) rfl)
  unfold wp_X5_leastLater at h
  obtain ⟨H, hH⟩ : ∃ H, H = s.heap := ⟨_, rfl⟩
  obtain ⟨locs, hlocs⟩ : ∃ locs : List Loc, locs = [] := ⟨_, rfl⟩
  have hP : va_P E.1 vwCl (rw_7 E yo yr yl yt ro rk rh rd rt rl rs yRi yLe yLa rSz rTc rFa rPa rPy rMi rMe rSr rZ rKi rHe rDo rTx rLa rSk ++ rc_tp E LT pk pv pa pn tc) H := by rw [hH]; exact hP
  have hS : va_S A s.heap H locs := by rw [hH, hlocs]; exact hS
  suffices hgo : W p l e ({ frames := 1, cells := 0, slots := 0, locals := 40 } : Room) s m args below meth c H locs 0 0 QQ (F0 m 0 ls []) from by rw [hH, hlocs] at hgo; exact hgo
  refine lv_iload_n hx hb dX5_leastLater_0 rfl (lv_at hl 2 rfl) ?_
  refine lv_iconst (v := 1) hx hb dX5_leastLater_1 (by decide) ?_
  refine lv_icmp_lt (tgt := 25) hx hb dX5_leastLater_2 (by decide) (fun c_1 => ?_) (fun c_1 => ?_)
  · have h := h.1 c_1
    refine lv_iconst (v := 0) hx hb dX5_leastLater_25 (by decide) ?_
    exact hret _ _ _ _ 0 () rfl h hP hD hS dX5_leastLater_26
  · have h := h.2 c_1
    refine lv_iload_n hx hb dX5_leastLater_5 rfl (lv_at hl 2 rfl) ?_
    refine lv_iconst (v := 1) hx hb dX5_leastLater_6 (by decide) ?_
    refine lv_iadd hx hb dX5_leastLater_7 ?_
    refine lv_aload_n hx hb dX5_leastLater_8 rfl (lv_at hl 1 rfl) ?_
    refine va_get (D := E.1) (ci := 1) (v := .int rSz) (C := RX1) (T := TX1) (N := 15) hx hb hts n_X1 hown hK hP 4 rfl rfl 3 (by decide) k_21 (fun _ h9 => h9) rfl dX5_leastLater_9 ?_
    refine lv_icmp_ge (tgt := 25) hx hb dX5_leastLater_12 (by decide) (fun c_2 => ?_) (fun c_2 => ?_)
    · have h := h.1 c_2
      refine lv_iconst (v := 0) hx hb dX5_leastLater_25 (by decide) ?_
      exact hret _ _ _ _ 0 () rfl h hP hD hS dX5_leastLater_26
    · have h := h.2 c_2
      refine lv_aload_n hx hb dX5_leastLater_15 rfl (lv_at hl 1 rfl) ?_
      refine va_get (D := E.1) (ci := 1) (v := .ref rd) (C := RX1) (T := TX1) (N := 15) hx hb hts n_X1 hown hK hP 4 rfl rfl 2 (by decide) k_58 (fun _ h9 => h9) rfl dX5_leastLater_16 ?_
      refine lv_iload_n hx hb dX5_leastLater_19 rfl (lv_at hl 2 rfl) ?_
      obtain ⟨o_3, h⟩ := h
      refine rc_iald hx hb hK hP 7 0 rfl rfl p2.toNatClampNeg rfl o_3 dX5_leastLater_20 ?_
      refine lv_iconst (v := 1) hx hb dX5_leastLater_21 (by decide) ?_
      refine lv_icmp_ne (tgt := 27) hx hb dX5_leastLater_22 (by decide) (fun c_4 => ?_) (fun c_4 => ?_)
      · have h := h.1 c_4
        refine lv_aload_n hx hb dX5_leastLater_27 rfl (lv_at hl 0 rfl) ?_
        refine va_get (D := E.1) (ci := 5) (v := .ref yt) (C := RX5) (T := TX5) (N := 3) hx hb hts n_X5 hown hK hP 0 rfl rfl 2 (by decide) k_18 (fun _ h9 => h9) rfl dX5_leastLater_28 ?_
        refine lv_iload_n hx hb dX5_leastLater_31 rfl (lv_at hl 2 rfl) ?_
        obtain ⟨o_5, h⟩ := h
        refine rc_iald hx hb hK hP 3 0 rfl rfl p2.toNatClampNeg rfl o_5 dX5_leastLater_32 ?_
        refine lv_aload_n hx hb dX5_leastLater_33 rfl (lv_at hl 0 rfl) ?_
        refine va_get (D := E.1) (ci := 5) (v := .ref yt) (C := RX5) (T := TX5) (N := 3) hx hb hts n_X5 hown hK hP 0 rfl rfl 2 (by decide) k_18 (fun _ h9 => h9) rfl dX5_leastLater_34 ?_
        refine lv_iload_n hx hb dX5_leastLater_37 rfl (lv_at hl 2 rfl) ?_
        refine lv_iconst (v := 1) hx hb dX5_leastLater_38 (by decide) ?_
        refine lv_isub hx hb dX5_leastLater_39 ?_
        obtain ⟨o_6, h⟩ := h
        refine rc_iald hx hb hK hP 3 0 rfl rfl ((p2 - 1).toNatClampNeg) rfl o_6 dX5_leastLater_40 ?_
        refine lv_aload_n hx hb dX5_leastLater_41 rfl (lv_at hl 0 rfl) ?_
        refine va_get (D := E.1) (ci := 5) (v := .ref yt) (C := RX5) (T := TX5) (N := 3) hx hb hts n_X5 hown hK hP 0 rfl rfl 2 (by decide) k_18 (fun _ h9 => h9) rfl dX5_leastLater_42 ?_
        refine lv_iload_n hx hb dX5_leastLater_45 rfl (lv_at hl 2 rfl) ?_
        refine lv_iconst (v := 1) hx hb dX5_leastLater_46 (by decide) ?_
        refine lv_iadd hx hb dX5_leastLater_47 ?_
        obtain ⟨o_7, h⟩ := h
        refine rc_iald hx hb hK hP 3 0 rfl rfl ((p2 + 1).toNatClampNeg) rfl o_7 dX5_leastLater_48 ?_
        refine va_mmin hx hb (hml.trans hl.1.symm) hown k_61 k_smin k_math k_cmin (Nat.le_of_ble_eq_true rfl) (Nat.le_of_ble_eq_true rfl) (Nat.zero_le _) (Nat.zero_le _) dX5_leastLater_49 ?_
        refine W.eq (g2 := F0 m 52 ls [.int (rc_min (yLa ((p2 - 1).toNatClampNeg)) (yLa ((p2 + 1).toNatClampNeg))), .int (yLa p2.toNatClampNeg)]) rfl ?_
        refine va_mmin hx hb (hml.trans hl.1.symm) hown k_61 k_smin k_math k_cmin (Nat.le_of_ble_eq_true rfl) (Nat.le_of_ble_eq_true rfl) (Nat.zero_le _) (Nat.zero_le _) dX5_leastLater_52 ?_
        refine W.eq (g2 := F0 m 55 ls [.int (rc_min (yLa p2.toNatClampNeg) (rc_min (yLa ((p2 - 1).toNatClampNeg)) (yLa ((p2 + 1).toNatClampNeg))))]) rfl ?_
        exact hret _ _ _ _ (rc_min (yLa p2.toNatClampNeg) (rc_min (yLa ((p2 - 1).toNatClampNeg)) (yLa ((p2 + 1).toNatClampNeg)))) () rfl h hP hD hS dX5_leastLater_55
      · have h := h.2 c_4
        refine lv_iconst (v := 0) hx hb dX5_leastLater_25 (by decide) ?_
        exact hret _ _ _ _ 0 () rfl h hP hD hS dX5_leastLater_26
def lp_X5_grow_41F (yRi : Nat → Int32) (rSz : Int32) (rDo : Nat → Int32) (K12 : Int32 → (Nat → Int32) → (Nat → Int32) → (Nat → Int32) → Prop)  (R : Int32 → Int32 → Int32 → (Nat → Int32) → (Nat → Int32) → (Nat → Int32) → Prop) (x3 : Int32) (x4 : Int32) (x5 : Int32) (yLe : Nat → Int32) (yLa : Nat → Int32) (rSk : Nat → Int32) : Prop :=
  ((rSz ≤ x5 → K12 (x3 + (-1)) yLe yLa rSk) ∧ (¬ (rSz ≤ x5) → (vp_in x5 24 ∧ wp_X5_leastLater x5 yLa rSz rDo (fun (r_3 : Int32) => (vp_in x5 24 ∧ R x3 x4 (x5 + 1) (upd yLe x5.toNatClampNeg (((yRi x5.toNatClampNeg) * x4) + r_3)) yLa rSk)))))
def lp_X5_grow_41 (yRi : Nat → Int32) (rSz : Int32) (rDo : Nat → Int32) (K12 : Int32 → (Nat → Int32) → (Nat → Int32) → (Nat → Int32) → Prop)  (n : Nat) : Int32 → Int32 → Int32 → (Nat → Int32) → (Nat → Int32) → (Nat → Int32) → Prop :=
  Nat.rec (motive := fun _ => Int32 → Int32 → Int32 → (Nat → Int32) → (Nat → Int32) → (Nat → Int32) → Prop) (fun _ _ _ _ _ _ => False) (fun _ r => lp_X5_grow_41F yRi rSz rDo K12 r) n
def lp_X5_grow_12F (yRi : Nat → Int32) (rSz : Int32) (rFa : Int32) (rPa : Int32) (rDo : Nat → Int32) (rTx : Nat → Option Nat) (rLa : Nat → Int32) (LT : List Nat) (pn : Nat → Nat) (tc : Nat → Nat → Int32)  (Q : (Nat → Int32) → (Nat → Int32) → (Nat → Int32) → Prop) (R : Int32 → (Nat → Int32) → (Nat → Int32) → (Nat → Int32) → Prop) (x3 : Int32) (yLe : Nat → Int32) (yLa : Nat → Int32) (rSk : Nat → Int32) : Prop :=
  ((x3 < 0 → Q yLe yLa rSk) ∧ (¬ (x3 < 0) → wp_X1_oddsIn x3 rFa rPa rTx rLa rSk LT pn tc (fun (r_6 : Int32) (w_7 : Nat → Int32) => (∃ n : Nat, lp_X5_grow_41 yRi rSz rDo R n x3 r_6 0 yLe (va_cpy yLe yLa 0 0 24) w_7))))
def lp_X5_grow_12 (yRi : Nat → Int32) (rSz : Int32) (rFa : Int32) (rPa : Int32) (rDo : Nat → Int32) (rTx : Nat → Option Nat) (rLa : Nat → Int32) (LT : List Nat) (pn : Nat → Nat) (tc : Nat → Nat → Int32)  (Q : (Nat → Int32) → (Nat → Int32) → (Nat → Int32) → Prop) (n : Nat) : Int32 → (Nat → Int32) → (Nat → Int32) → (Nat → Int32) → Prop :=
  Nat.rec (motive := fun _ => Int32 → (Nat → Int32) → (Nat → Int32) → (Nat → Int32) → Prop) (fun _ _ _ _ => False) (fun _ r => lp_X5_grow_12F yRi rSz rFa rPa rDo rTx rLa LT pn tc Q r) n
def wp_X5_grow (p2 : Int32) (yRi : Nat → Int32) (yLe : Nat → Int32) (yLa : Nat → Int32) (rSz : Int32) (rFa : Int32) (rPa : Int32) (rDo : Nat → Int32) (rTx : Nat → Option Nat) (rLa : Nat → Int32) (rSk : Nat → Int32) (LT : List Nat) (pn : Nat → Nat) (tc : Nat → Nat → Int32) (Q : (Nat → Int32) → (Nat → Int32) → (Nat → Int32) → Prop) : Prop :=
  wp_J7_fill_53178 0 yLe (fun (w_8 : Nat → Int32) => (∃ n : Nat, lp_X5_grow_12 yRi rSz rFa rPa rDo rTx rLa LT pn tc Q n (p2 - 1) w_8 yLa rSk))
set_option maxHeartbeats 4000000 in
set_option maxRecDepth 100000 in
theorem c_X5_grow (l : Launch) (E : gE) (yo yr yl yt ro rk rh rd rt rl rs : Nat) (sz : Nat) (yRi : Nat → Int32) (yLe : Nat → Int32) (yLa : Nat → Int32) (rSz : Int32) (rTc : Int32) (rFa : Int32) (rPa : Int32) (rPy : Int32) (rMi : Int32) (rMe : Int32) (rSr : Int32) (rZ : Int32) (rKi : Nat → Int32) (rHe : Nat → Int32) (rDo : Nat → Int32) (rTx : Nat → Option Nat) (rLa : Nat → Int32) (rSk : Nat → Int32) (p2 : Int32) (LT : List Nat) (pk : Nat → Int32) (pv : Nat → Int32) (pa : Nat → Nat) (pn : Nat → Nat) (tc : Nat → Nat → Int32) (Q : (Nat → Int32) → (Nat → Int32) → (Nat → Int32) → Prop) (h : wp_X5_grow p2 yRi yLe yLa rSz rFa rPa rDo rTx rLa rSk LT pn tc Q) : Met l yX5_grow wsX5_grow ({ frames := 4, cells := 0, slots := 0, locals := 105 } : Room) (va_Pc [.ref yo, .ref ro, .int p2] (rc_B E (rw_7 E yo yr yl yt ro rk rh rd rt rl rs yRi yLe yLa rSz rTc rFa rPa rPy rMi rMe rSr rZ rKi rHe rDo rTx rLa rSk ++ rc_tp E LT pk pv pa pn tc) sz)) (va_Qv (S := (Nat → Int32) × (Nat → Int32) × (Nat → Int32)) (fun (u : (Nat → Int32) × (Nat → Int32) × (Nat → Int32)) => Q u.1 u.2.1 u.2.2) (fun u t => rc_C E (va_A (rw_7 E yo yr yl yt ro rk rh rd rt rl rs yRi yLe yLa rSz rTc rFa rPa rPy rMi rMe rSr rZ rKi rHe rDo rTx rLa rSk ++ rc_tp E LT pk pv pa pn tc) sz) (rw_7 E yo yr yl yt ro rk rh rd rt rl rs yRi u.1 u.2.1 rSz rTc rFa rPa rPy rMi rMe rSr rZ rKi rHe rDo rTx rLa u.2.2 ++ rc_tp E LT pk pv pa pn tc) t) (va_A (rw_7 E yo yr yl yt ro rk rh rd rt rl rs yRi yLe yLa rSz rTc rFa rPa rPy rMi rMe rSr rZ rKi rHe rDo rTx rLa rSk ++ rc_tp E LT pk pv pa pn tc) sz)) 0 0 (va_A (rw_7 E yo yr yl yt ro rk rh rd rt rl rs yRi yLe yLa rSz rTc rFa rPa rPy rMi rMe rSr rZ rKi rHe rDo rTx rLa rSk ++ rc_tp E LT pk pv pa pn tc) sz) := by
  refine rc_enterV (cc := cX5_grow) (maxL := 6) (by decide) rfl (Nat.le_of_ble_eq_true rfl) ?_
  intro p e s m args below meth c QQ A hx hb hml hown hts hmn hE hP hD hA hret ls hl
  have hown : s.vm.findClass RX5 = some m.cls := hown
  have hK := hE.1
  have hS : va_S A s.heap s.heap [] := va_S.rf
  have hl : lv_has ls 6 [(0, .ref yo), (1, .ref ro), (2, .int p2)] := hl
  have n_X1 : ∀ w ∈ wsX10, w ∈ wsX5_grow := fun _ h => List.mem_cons_of_mem _ (List.mem_append_left _ (List.mem_append_right _ h))
  have n_X5 : ∀ w ∈ wsX50, w ∈ wsX5_grow := fun _ h => List.mem_cons_of_mem _ (List.mem_append_left _ (List.mem_append_left _ (List.mem_append_right _ h)))
  have k_21 := hts (.fieldLink RX5 21 "RidgeClaps$Ridge" "size" "I") (List.mem_of_getElem? (i := 7) rfl)
  have k_15 := hts (.fieldLink RX5 15 "RidgeClaps$Ways" "least" "[I") (List.mem_of_getElem? (i := 1) rfl)
  have k_9 := hts (.fieldLink RX5 9 "RidgeClaps$Ways" "risks" "[I") (List.mem_of_getElem? (i := 8) rfl)
  have k_18 := hts (.fieldLink RX5 18 "RidgeClaps$Ways" "later" "[I") (List.mem_of_getElem? (i := 2) rfl)
  have k_37 := hts (.methodLink RX5 37 arraycopyName) (List.mem_of_getElem? (i := 3) rfl)
  have k_nat := hts (.native arraycopyName) (List.mem_of_getElem? (i := 4) rfl)
  have k_sta := hts (.static arraycopyName) (List.mem_of_getElem? (i := 5) rfl)
  have k_sys := hts (.initialized "java/lang/System") (List.mem_of_getElem? (i := 6) rfl)
  have J41 : ∀ (K12 : Int32 → (Nat → Int32) → (Nat → Int32) → (Nat → Int32) → Prop), (∀ (x3 : Int32) (yLe : Nat → Int32) (yLa : Nat → Int32) (rSk : Nat → Int32), K12 x3 yLe yLa rSk → ∀ (H : Heap) (locs : List Loc), va_P E.1 vwCl (rw_7 E yo yr yl yt ro rk rh rd rt rl rs yRi yLe yLa rSz rTc rFa rPa rPy rMi rMe rSr rZ rKi rHe rDo rTx rLa rSk ++ rc_tp E LT pk pv pa pn tc) H → va_D A (rw_7 E yo yr yl yt ro rk rh rd rt rl rs yRi yLe yLa rSz rTc rFa rPa rPy rMi rMe rSr rZ rKi rHe rDo rTx rLa rSk ++ rc_tp E LT pk pv pa pn tc) → va_S A s.heap H locs → ∀ ls : Array Slot, lv_has ls 6 [(0, .ref yo), (1, .ref ro), (3, .int x3)] → W p l e ({ frames := 4, cells := 0, slots := 0, locals := 105 } : Room) s m args below meth c H locs 0 0 QQ (F0 m 12 ls [])) → ∀ (n : Nat) (x3 : Int32) (x4 : Int32) (x5 : Int32) (yLe : Nat → Int32) (yLa : Nat → Int32) (rSk : Nat → Int32), lp_X5_grow_41 yRi rSz rDo K12 n x3 x4 x5 yLe yLa rSk → ∀ (H : Heap) (locs : List Loc), va_P E.1 vwCl (rw_7 E yo yr yl yt ro rk rh rd rt rl rs yRi yLe yLa rSz rTc rFa rPa rPy rMi rMe rSr rZ rKi rHe rDo rTx rLa rSk ++ rc_tp E LT pk pv pa pn tc) H → va_D A (rw_7 E yo yr yl yt ro rk rh rd rt rl rs yRi yLe yLa rSz rTc rFa rPa rPy rMi rMe rSr rZ rKi rHe rDo rTx rLa rSk ++ rc_tp E LT pk pv pa pn tc) → va_S A s.heap H locs → ∀ ls : Array Slot, lv_has ls 6 [(0, .ref yo), (1, .ref ro), (3, .int x3), (4, .int x4), (5, .int x5)] → W p l e ({ frames := 4, cells := 0, slots := 0, locals := 105 } : Room) s m args below meth c H locs 0 0 QQ (F0 m 41 ls []) := by
    intro K12 hK12
    intro n
    induction n with
    | zero =>
      intro x3 x4 x5 yLe yLa rSk h
      exact False.elim h
    | succ n ih =>
      intro x3 x4 x5 yLe yLa rSk h H locs hP hD hS ls hl
      have h : lp_X5_grow_41F yRi rSz rDo K12 (lp_X5_grow_41 yRi rSz rDo K12 n) x3 x4 x5 yLe yLa rSk := h
      unfold lp_X5_grow_41F at h
      refine lv_iload hx hb dX5_grow_41 (lv_at hl 4 rfl) ?_
      refine lv_aload_n hx hb dX5_grow_43 rfl (lv_at hl 1 rfl) ?_
      refine va_get (D := E.1) (ci := 1) (v := .int rSz) (C := RX1) (T := TX1) (N := 15) hx hb hts n_X1 hown hK hP 4 rfl rfl 3 (by decide) k_21 (fun _ h9 => h9) rfl dX5_grow_44 ?_
      refine lv_icmp_ge (tgt := 81) hx hb dX5_grow_47 (by decide) (fun c_1 => ?_) (fun c_1 => ?_)
      · have h := h.1 c_1
        refine lv_iinc (v := x3 + (-1)) (lv' := [(3, .int (x3 + (-1))), (0, .ref yo), (1, .ref ro), (4, .int x4), (5, .int x5)]) hx hb dX5_grow_81 hl (k := 2) rfl (by rfl) (by decide) rfl (fun ls hl => ?_)
        refine lv_goto (tgt := 12) hx hb dX5_grow_84 (by decide) ?_
        exact hK12 (x3 + (-1)) yLe yLa rSk h _ _ hP hD hS ls (lv_sub hl [1, 2, 0] rfl)
      · have h := h.2 c_1
        refine lv_aload_n hx hb dX5_grow_50 rfl (lv_at hl 0 rfl) ?_
        refine va_get (D := E.1) (ci := 5) (v := .ref yl) (C := RX5) (T := TX5) (N := 3) hx hb hts n_X5 hown hK hP 0 rfl rfl 1 (by decide) k_15 (fun _ h9 => h9) rfl dX5_grow_51 ?_
        refine lv_iload hx hb dX5_grow_54 (lv_at hl 4 rfl) ?_
        refine lv_aload_n hx hb dX5_grow_56 rfl (lv_at hl 0 rfl) ?_
        refine va_get (D := E.1) (ci := 5) (v := .ref yr) (C := RX5) (T := TX5) (N := 3) hx hb hts n_X5 hown hK hP 0 rfl rfl 0 (by decide) k_9 (fun _ h9 => h9) rfl dX5_grow_57 ?_
        refine lv_iload hx hb dX5_grow_60 (lv_at hl 4 rfl) ?_
        obtain ⟨o_2, h⟩ := h
        refine rc_iald hx hb hK hP 1 0 rfl rfl x5.toNatClampNeg rfl o_2 dX5_grow_62 ?_
        refine lv_iload hx hb dX5_grow_63 (lv_at hl 3 rfl) ?_
        refine lv_imul hx hb dX5_grow_65 ?_
        refine lv_aload_n hx hb dX5_grow_66 rfl (lv_at hl 0 rfl) ?_
        refine lv_aload_n hx hb dX5_grow_67 rfl (lv_at hl 1 rfl) ?_
        refine lv_iload hx hb dX5_grow_68 (lv_at hl 4 rfl) ?_
        have hPc := hP
        have hDc := hD
        have hFc := rc_freeI hD hS hA
        refine va_calli (va_runV (As := [.ref ro, .int x5]) (rest := [.int ((yRi x5.toNatClampNeg) * x4), .int x5, .ref yl]) ⟨hx, hb, hml, hown, hts⟩ (c_X5_leastLater l E yo yr yl yt ro rk rh rd rt rl rs H.size yRi yLe yLa rSz rTc rFa rPa rPy rMi rMe rSr rZ rKi rHe rDo rTx rLa rSk x5 LT pk pv pa pn tc _ h) (cwV 2 hts gX5_grow_X5_leastLater rfl rfl rfl (by decide +kernel) ⟨Nat.le_of_ble_eq_true rfl, Nat.le_of_ble_eq_true rfl⟩) ⟨fun a U g mk q => ⟨q.1, q.2.blind⟩, va_recv hK hPc (ci := 5) (q0 := 0) rfl rfl, fun U hU hW => ⟨rfl, by rw [hU], by rw [hU]; exact hPc, hE.call hS hFc hW hU, hDc.weaken (fun _ _ _ _ => trivial)⟩⟩ rfl rfl hl.1 rfl (lv_room (Nat.le_of_ble_eq_true rfl)) dX5_grow_70 ⟨Nat.zero_le _, Nat.zero_le _⟩) hS (fun q _ h => hFc q h) hFc (fun r_3 u t H1 locs ht hvm h hB hz1 hk1 hS => ?_)
        obtain ⟨hP1, hD1⟩ := hB
        rw [ht] at hP1
        have hP := hP1
        have hD := hD1.weaken (fun _ _ _ h => hFc _ h)
        generalize H1 = H at hP hS ⊢
        have hP : va_P E.1 vwCl (rw_7 E yo yr yl yt ro rk rh rd rt rl rs yRi yLe yLa rSz rTc rFa rPa rPy rMi rMe rSr rZ rKi rHe rDo rTx rLa rSk ++ rc_tp E LT pk pv pa pn tc) H := hP
        have hD : va_D A (rw_7 E yo yr yl yt ro rk rh rd rt rl rs yRi yLe yLa rSz rTc rFa rPa rPy rMi rMe rSr rZ rKi rHe rDo rTx rLa rSk ++ rc_tp E LT pk pv pa pn tc) := hD
        refine lv_iadd hx hb dX5_grow_73 ?_
        obtain ⟨o_4, h⟩ := h
        refine rc_iast hx hb hK hP hD hS 2 0 rfl rfl x5.toNatClampNeg rfl o_4 dX5_grow_74 (fun H locs hP hD hS => ?_)
        have hP : va_P E.1 vwCl (rw_7 E yo yr yl yt ro rk rh rd rt rl rs yRi (upd yLe x5.toNatClampNeg (((yRi x5.toNatClampNeg) * x4) + r_3)) yLa rSz rTc rFa rPa rPy rMi rMe rSr rZ rKi rHe rDo rTx rLa rSk ++ rc_tp E LT pk pv pa pn tc) H := hP
        have hD : va_D A (rw_7 E yo yr yl yt ro rk rh rd rt rl rs yRi (upd yLe x5.toNatClampNeg (((yRi x5.toNatClampNeg) * x4) + r_3)) yLa rSz rTc rFa rPa rPy rMi rMe rSr rZ rKi rHe rDo rTx rLa rSk ++ rc_tp E LT pk pv pa pn tc) := hD
        refine lv_iinc (v := x5 + 1) (lv' := [(5, .int (x5 + 1)), (0, .ref yo), (1, .ref ro), (3, .int x3), (4, .int x4)]) hx hb dX5_grow_75 hl (k := 4) rfl (by rfl) (by decide) rfl (fun ls hl => ?_)
        refine lv_goto (tgt := 41) hx hb dX5_grow_78 (by decide) ?_
        exact ih x3 x4 (x5 + 1) (upd yLe x5.toNatClampNeg (((yRi x5.toNatClampNeg) * x4) + r_3)) yLa rSk h _ _ hP hD hS ls (lv_sub hl [1, 2, 3, 4, 0] rfl)
  have J12 : ∀ (n : Nat) (x3 : Int32) (yLe : Nat → Int32) (yLa : Nat → Int32) (rSk : Nat → Int32), lp_X5_grow_12 yRi rSz rFa rPa rDo rTx rLa LT pn tc Q n x3 yLe yLa rSk → ∀ (H : Heap) (locs : List Loc), va_P E.1 vwCl (rw_7 E yo yr yl yt ro rk rh rd rt rl rs yRi yLe yLa rSz rTc rFa rPa rPy rMi rMe rSr rZ rKi rHe rDo rTx rLa rSk ++ rc_tp E LT pk pv pa pn tc) H → va_D A (rw_7 E yo yr yl yt ro rk rh rd rt rl rs yRi yLe yLa rSz rTc rFa rPa rPy rMi rMe rSr rZ rKi rHe rDo rTx rLa rSk ++ rc_tp E LT pk pv pa pn tc) → va_S A s.heap H locs → ∀ ls : Array Slot, lv_has ls 6 [(0, .ref yo), (1, .ref ro), (3, .int x3)] → W p l e ({ frames := 4, cells := 0, slots := 0, locals := 105 } : Room) s m args below meth c H locs 0 0 QQ (F0 m 12 ls []) := by
    intro n
    induction n with
    | zero =>
      intro x3 yLe yLa rSk h
      exact False.elim h
    | succ n ih =>
      intro x3 yLe yLa rSk h H locs hP hD hS ls hl
      have h : lp_X5_grow_12F yRi rSz rFa rPa rDo rTx rLa LT pn tc Q (lp_X5_grow_12 yRi rSz rFa rPa rDo rTx rLa LT pn tc Q n) x3 yLe yLa rSk := h
      unfold lp_X5_grow_12F at h
      refine lv_iload_n hx hb dX5_grow_12 rfl (lv_at hl 2 rfl) ?_
      refine lv_if_lt (tgt := 87) hx hb dX5_grow_13 (by decide) (fun c_5 => ?_) (fun c_5 => ?_)
      · have h := h.1 c_5
        exact hret _ _ _ _ (yLe, yLa, rSk) h hP hD hS dX5_grow_87
      · have h := h.2 c_5
        refine lv_aload_n hx hb dX5_grow_16 rfl (lv_at hl 0 rfl) ?_
        refine va_get (D := E.1) (ci := 5) (v := .ref yl) (C := RX5) (T := TX5) (N := 3) hx hb hts n_X5 hown hK hP 0 rfl rfl 1 (by decide) k_15 (fun _ h9 => h9) rfl dX5_grow_17 ?_
        refine lv_iconst (v := 0) hx hb dX5_grow_20 (by decide) ?_
        refine lv_aload_n hx hb dX5_grow_21 rfl (lv_at hl 0 rfl) ?_
        refine va_get (D := E.1) (ci := 5) (v := .ref yt) (C := RX5) (T := TX5) (N := 3) hx hb hts n_X5 hown hK hP 0 rfl rfl 2 (by decide) k_18 (fun _ h9 => h9) rfl dX5_grow_22 ?_
        refine lv_iconst (v := 0) hx hb dX5_grow_25 (by decide) ?_
        refine lv_bipush (v := 24) hx hb dX5_grow_26 (by decide) ?_
        refine va_copyi hx hb (hml.trans hl.1.symm) hown k_37 k_nat k_sta k_sys hK hP hD hS 2 3 0 0 rfl rfl rfl rfl rfl (by decide) (by decide) (by decide) (by decide) (by decide) (fun _ _ => rfl) (Nat.le_of_ble_eq_true rfl) (Nat.le_of_ble_eq_true rfl) dX5_grow_28 (fun H locs hP hD hS => ?_)
        have hP : va_P E.1 vwCl (rw_7 E yo yr yl yt ro rk rh rd rt rl rs yRi yLe (va_cpy yLe yLa 0 0 24) rSz rTc rFa rPa rPy rMi rMe rSr rZ rKi rHe rDo rTx rLa rSk ++ rc_tp E LT pk pv pa pn tc) H := hP
        have hD : va_D A (rw_7 E yo yr yl yt ro rk rh rd rt rl rs yRi yLe (va_cpy yLe yLa 0 0 24) rSz rTc rFa rPa rPy rMi rMe rSr rZ rKi rHe rDo rTx rLa rSk ++ rc_tp E LT pk pv pa pn tc) := hD
        refine lv_aload_n hx hb dX5_grow_31 rfl (lv_at hl 1 rfl) ?_
        refine lv_iload_n hx hb dX5_grow_32 rfl (lv_at hl 2 rfl) ?_
        have hPc := hP.part (cx := (rw_4 E ro rk rh rd rt rl rs rSz rTc rFa rPa rPy rMi rMe rSr rZ rKi rHe rDo rTx rLa rSk)) [4, 5, 6, 7, 8, 9, 10] rfl
        have hDc := hD.part (cx := (rw_4 E ro rk rh rd rt rl rs rSz rTc rFa rPa rPy rMi rMe rSr rZ rKi rHe rDo rTx rLa rSk)) [4, 5, 6, 7, 8, 9, 10] (by decide) rfl
        have hFc := va_freeP (cx := (rw_4 E ro rk rh rd rt rl rs rSz rTc rFa rPa rPy rMi rMe rSr rZ rKi rHe rDo rTx rLa rSk)) hD hS hA [4, 5, 6, 7, 8, 9, 10] rfl
        refine va_calli (va_runV (As := [.int x3]) (rest := []) ⟨hx, hb, hml, hown, hts⟩ (c_X1_oddsIn l E ro rk rh rd rt rl rs H.size rSz rTc rFa rPa rPy rMi rMe rSr rZ rKi rHe rDo rTx rLa rSk x3 LT pk pv pa pn tc _ h) (cwV 1 hts gX5_grow_X1_oddsIn rfl rfl rfl (by decide +kernel) ⟨Nat.le_of_ble_eq_true rfl, Nat.le_of_ble_eq_true rfl⟩) ⟨fun a U g mk q => ⟨q.1, q.2.blind⟩, va_recv hK hPc (ci := 1) (q0 := 0) rfl rfl, fun U hU hW => ⟨rfl, by rw [hU], by rw [hU]; exact hPc, hE.call hS hFc hW hU, hDc.weaken (fun _ _ _ _ => trivial)⟩⟩ rfl rfl hl.1 rfl (lv_room (Nat.le_of_ble_eq_true rfl)) dX5_grow_33 ⟨Nat.zero_le _, Nat.zero_le _⟩) hS (fun q _ h => hFc q h) hFc (fun r_6 u t H1 locs ht hvm h hB hz1 hk1 hS => ?_)
        obtain ⟨w_7, rfl⟩ : ∃ z, z = u := ⟨_, rfl⟩
        obtain ⟨hP1, hD1⟩ := hB
        rw [ht] at hP1
        obtain ⟨hP, hD⟩ := rc_focP hP hD [4, 5, 6, 7, 8, 9, 10] [none, none, none, none, some 0, some 1, some 2, some 3, some 4, some 5, some 6] (by decide) rfl rfl hk1 hP1 rfl
        generalize H1 = H at hP hS ⊢
        have hP : va_P E.1 vwCl (rw_7 E yo yr yl yt ro rk rh rd rt rl rs yRi yLe (va_cpy yLe yLa 0 0 24) rSz rTc rFa rPa rPy rMi rMe rSr rZ rKi rHe rDo rTx rLa w_7 ++ rc_tp E LT pk pv pa pn tc) H := hP
        have hD : va_D A (rw_7 E yo yr yl yt ro rk rh rd rt rl rs yRi yLe (va_cpy yLe yLa 0 0 24) rSz rTc rFa rPa rPy rMi rMe rSr rZ rKi rHe rDo rTx rLa w_7 ++ rc_tp E LT pk pv pa pn tc) := hD
        refine lv_istore (lv' := [(4, .int r_6), (0, .ref yo), (1, .ref ro), (3, .int x3)]) hx hb dX5_grow_36 hl (by decide) rfl (fun ls hl => ?_)
        refine lv_iconst (v := 0) hx hb dX5_grow_38 (by decide) ?_
        refine lv_istore (lv' := [(5, .int 0), (4, .int r_6), (0, .ref yo), (1, .ref ro), (3, .int x3)]) hx hb dX5_grow_39 hl (by decide) rfl (fun ls hl => ?_)
        obtain ⟨n, h⟩ := h
        exact J41 _ (fun v0 v1 v2 v3 h => ih v0 v1 v2 v3 h) n x3 r_6 0 yLe (va_cpy yLe yLa 0 0 24) w_7 h _ _ hP hD hS ls (lv_sub hl [2, 3, 4, 1, 0] rfl)
  unfold wp_X5_grow at h
  obtain ⟨H, hH⟩ : ∃ H, H = s.heap := ⟨_, rfl⟩
  obtain ⟨locs, hlocs⟩ : ∃ locs : List Loc, locs = [] := ⟨_, rfl⟩
  have hP : va_P E.1 vwCl (rw_7 E yo yr yl yt ro rk rh rd rt rl rs yRi yLe yLa rSz rTc rFa rPa rPy rMi rMe rSr rZ rKi rHe rDo rTx rLa rSk ++ rc_tp E LT pk pv pa pn tc) H := by rw [hH]; exact hP
  have hS : va_S A s.heap H locs := by rw [hH, hlocs]; exact hS
  suffices hgo : W p l e ({ frames := 4, cells := 0, slots := 0, locals := 105 } : Room) s m args below meth c H locs 0 0 QQ (F0 m 0 ls []) from by rw [hH, hlocs] at hgo; exact hgo
  refine lv_aload_n hx hb dX5_grow_0 rfl (lv_at hl 0 rfl) ?_
  refine va_get (D := E.1) (ci := 5) (v := .ref yl) (C := RX5) (T := TX5) (N := 3) hx hb hts n_X5 hown hK hP 0 rfl rfl 1 (by decide) k_15 (fun _ h9 => h9) rfl dX5_grow_1 ?_
  refine lv_iconst (v := 0) hx hb dX5_grow_4 (by decide) ?_
  have hPc := hP.sub (ws' := (rw_0 E yl yLe)) [2] rfl
  have hDc := hD.sub (ws' := (rw_0 E yl yLe)) [2] (by decide) rfl
  have hFc := va_free (wc := (rw_0 E yl yLe)) hD hS hA [2] rfl
  refine va_callv (va_runS (As := [.ref yl, .int 0]) (rest := []) ⟨hx, hb, hml, hown, hts⟩ (c_J7_fill_53178 l E yl H.size yLe 0 _ h) (va_cwS 2 hts gX5_grow_J7_fill_53178 rfl rfl rfl (by decide +kernel) ⟨Nat.le_of_ble_eq_true rfl, Nat.le_of_ble_eq_true rfl⟩) ⟨fun a U g mk q => ⟨q.1, q.2.blind⟩, fun U hU hW => ⟨rfl, by rw [hU], by rw [hU]; exact hPc, hE.call hS hFc hW hU, hDc.weaken (fun _ _ _ _ => trivial)⟩⟩ rfl rfl hl.1 rfl (lv_room (Nat.le_of_ble_eq_true rfl)) dX5_grow_5 ⟨Nat.zero_le _, Nat.zero_le _⟩) hS (fun q _ h => hFc q h) hFc (fun u t H1 locs ht hvm h hB hz1 hk1 hS => ?_)
  obtain ⟨w_8, rfl⟩ : ∃ z, z = u := ⟨_, rfl⟩
  obtain ⟨hP1, hD1⟩ := hB
  rw [ht] at hP1
  obtain ⟨hP, hD⟩ := rc_foc hP hD [2] [none, none, some 0, none, none, none, none, none, none, none, none] (by decide) rfl hk1 hP1 rfl
  generalize H1 = H at hP hS ⊢
  have hP : va_P E.1 vwCl (rw_7 E yo yr yl yt ro rk rh rd rt rl rs yRi w_8 yLa rSz rTc rFa rPa rPy rMi rMe rSr rZ rKi rHe rDo rTx rLa rSk ++ rc_tp E LT pk pv pa pn tc) H := hP
  have hD : va_D A (rw_7 E yo yr yl yt ro rk rh rd rt rl rs yRi w_8 yLa rSz rTc rFa rPa rPy rMi rMe rSr rZ rKi rHe rDo rTx rLa rSk ++ rc_tp E LT pk pv pa pn tc) := hD
  refine lv_iload_n hx hb dX5_grow_8 rfl (lv_at hl 2 rfl) ?_
  refine lv_iconst (v := 1) hx hb dX5_grow_9 (by decide) ?_
  refine lv_isub hx hb dX5_grow_10 ?_
  refine lv_istore_n (lv' := [(3, .int (p2 - 1)), (0, .ref yo), (1, .ref ro), (2, .int p2)]) hx hb dX5_grow_11 rfl hl (by decide) rfl (fun ls hl => ?_)
  obtain ⟨n, h⟩ := h
  exact J12 n (p2 - 1) w_8 yLa rSk h _ _ hP hD hS ls (lv_sub hl [1, 2, 0] rfl)
def wp_X5_laterBehind (p2 : Int32) (p3 : Int32) (yLa : Nat → Int32) (rSz : Int32) (Q : Int32 → Prop) : Prop :=
  wp_X1_behindStep p2 p3 rSz (fun (r_1 : Int32) => wp_X1_has r_1 rSz (fun (r_2 : Int32) => ((r_2 = 0 → Q 0) ∧ (¬ (r_2 = 0) → (vp_in r_1 24 ∧ Q (yLa r_1.toNatClampNeg))))))
set_option maxHeartbeats 4000000 in
set_option maxRecDepth 100000 in
theorem c_X5_laterBehind (l : Launch) (E : gE) (yo yr yl yt ro rk rh rd rt rl rs : Nat) (sz : Nat) (yRi : Nat → Int32) (yLe : Nat → Int32) (yLa : Nat → Int32) (rSz : Int32) (rTc : Int32) (rFa : Int32) (rPa : Int32) (rPy : Int32) (rMi : Int32) (rMe : Int32) (rSr : Int32) (rZ : Int32) (rKi : Nat → Int32) (rHe : Nat → Int32) (rDo : Nat → Int32) (rTx : Nat → Option Nat) (rLa : Nat → Int32) (rSk : Nat → Int32) (p2 p3 : Int32) (LT : List Nat) (pk : Nat → Int32) (pv : Nat → Int32) (pa : Nat → Nat) (pn : Nat → Nat) (tc : Nat → Nat → Int32) (Q : Int32 → Prop) (h : wp_X5_laterBehind p2 p3 yLa rSz Q) : Met l yX5_laterBehind wsX5_laterBehind ({ frames := 1, cells := 0, slots := 0, locals := 22 } : Room) (va_Pc [.ref yo, .ref ro, .int p2, .int p3] (rc_B E (rw_7 E yo yr yl yt ro rk rh rd rt rl rs yRi yLe yLa rSz rTc rFa rPa rPy rMi rMe rSr rZ rKi rHe rDo rTx rLa rSk ++ rc_tp E LT pk pv pa pn tc) sz)) (va_Qi (S := Unit) (fun (r : Int32) (u : Unit) => Q r) (fun u t => rc_C E (va_A (rw_7 E yo yr yl yt ro rk rh rd rt rl rs yRi yLe yLa rSz rTc rFa rPa rPy rMi rMe rSr rZ rKi rHe rDo rTx rLa rSk ++ rc_tp E LT pk pv pa pn tc) sz) (rw_7 E yo yr yl yt ro rk rh rd rt rl rs yRi yLe yLa rSz rTc rFa rPa rPy rMi rMe rSr rZ rKi rHe rDo rTx rLa rSk ++ rc_tp E LT pk pv pa pn tc) t) (va_A (rw_7 E yo yr yl yt ro rk rh rd rt rl rs yRi yLe yLa rSz rTc rFa rPa rPy rMi rMe rSr rZ rKi rHe rDo rTx rLa rSk ++ rc_tp E LT pk pv pa pn tc) sz)) 0 0 (va_A (rw_7 E yo yr yl yt ro rk rh rd rt rl rs yRi yLe yLa rSz rTc rFa rPa rPy rMi rMe rSr rZ rKi rHe rDo rTx rLa rSk ++ rc_tp E LT pk pv pa pn tc) sz) := by
  refine rc_enterI (cc := cX5_laterBehind) (maxL := 5) (by decide) rfl (Nat.le_of_ble_eq_true rfl) ?_
  intro p e s m args below meth c QQ A hx hb hml hown hts hmn hE hP hD hA hret ls hl
  have hown : s.vm.findClass RX5 = some m.cls := hown
  have hK := hE.1
  have hS : va_S A s.heap s.heap [] := va_S.rf
  have hl : lv_has ls 5 [(0, .ref yo), (1, .ref ro), (2, .int p2), (3, .int p3)] := hl
  have n_X5 : ∀ w ∈ wsX50, w ∈ wsX5_laterBehind := fun _ h => List.mem_cons_of_mem _ (List.mem_append_left _ (List.mem_append_right _ h))
  have k_18 := hts (.fieldLink RX5 18 "RidgeClaps$Ways" "later" "[I") (List.mem_of_getElem? (i := 1) rfl)
  unfold wp_X5_laterBehind at h
  obtain ⟨H, hH⟩ : ∃ H, H = s.heap := ⟨_, rfl⟩
  obtain ⟨locs, hlocs⟩ : ∃ locs : List Loc, locs = [] := ⟨_, rfl⟩
  have hP : va_P E.1 vwCl (rw_7 E yo yr yl yt ro rk rh rd rt rl rs yRi yLe yLa rSz rTc rFa rPa rPy rMi rMe rSr rZ rKi rHe rDo rTx rLa rSk ++ rc_tp E LT pk pv pa pn tc) H := by rw [hH]; exact hP
  have hS : va_S A s.heap H locs := by rw [hH, hlocs]; exact hS
  suffices hgo : W p l e ({ frames := 1, cells := 0, slots := 0, locals := 22 } : Room) s m args below meth c H locs 0 0 QQ (F0 m 0 ls []) from by rw [hH, hlocs] at hgo; exact hgo
  refine lv_aload_n hx hb dX5_laterBehind_0 rfl (lv_at hl 1 rfl) ?_
  refine lv_iload_n hx hb dX5_laterBehind_1 rfl (lv_at hl 2 rfl) ?_
  refine lv_iload_n hx hb dX5_laterBehind_2 rfl (lv_at hl 3 rfl) ?_
  have hPc := hP.part (cx := (rw_4 E ro rk rh rd rt rl rs rSz rTc rFa rPa rPy rMi rMe rSr rZ rKi rHe rDo rTx rLa rSk)) [4, 5, 6, 7, 8, 9, 10] rfl
  have hDc := hD.part (cx := (rw_4 E ro rk rh rd rt rl rs rSz rTc rFa rPa rPy rMi rMe rSr rZ rKi rHe rDo rTx rLa rSk)) [4, 5, 6, 7, 8, 9, 10] (by decide) rfl
  have hFc := va_freeP (cx := (rw_4 E ro rk rh rd rt rl rs rSz rTc rFa rPa rPy rMi rMe rSr rZ rKi rHe rDo rTx rLa rSk)) hD hS hA [4, 5, 6, 7, 8, 9, 10] rfl
  refine va_calli (va_runV (As := [.int p2, .int p3]) (rest := []) ⟨hx, hb, hml, hown, hts⟩ (c_X1_behindStep l E ro rk rh rd rt rl rs H.size rSz rTc rFa rPa rPy rMi rMe rSr rZ rKi rHe rDo rTx rLa rSk p2 p3 LT pk pv pa pn tc _ h) (cwV 2 hts gX5_laterBehind_X1_behindStep rfl rfl rfl (by decide +kernel) ⟨Nat.le_of_ble_eq_true rfl, Nat.le_of_ble_eq_true rfl⟩) ⟨fun a U g mk q => ⟨q.1, q.2.blind⟩, va_recv hK hPc (ci := 1) (q0 := 0) rfl rfl, fun U hU hW => ⟨rfl, by rw [hU], by rw [hU]; exact hPc, hE.call hS hFc hW hU, hDc.weaken (fun _ _ _ _ => trivial)⟩⟩ rfl rfl hl.1 rfl (lv_room (Nat.le_of_ble_eq_true rfl)) dX5_laterBehind_3 ⟨Nat.zero_le _, Nat.zero_le _⟩) hS (fun q _ h => hFc q h) hFc (fun r_1 u t H1 locs ht hvm h hB hz1 hk1 hS => ?_)
  obtain ⟨hP1, hD1⟩ := hB
  rw [ht] at hP1
  obtain ⟨hP, hD⟩ := rc_focP hP hD [4, 5, 6, 7, 8, 9, 10] [none, none, none, none, some 0, some 1, some 2, some 3, some 4, some 5, some 6] (by decide) rfl rfl hk1 hP1 rfl
  generalize H1 = H at hP hS ⊢
  have hP : va_P E.1 vwCl (rw_7 E yo yr yl yt ro rk rh rd rt rl rs yRi yLe yLa rSz rTc rFa rPa rPy rMi rMe rSr rZ rKi rHe rDo rTx rLa rSk ++ rc_tp E LT pk pv pa pn tc) H := hP
  have hD : va_D A (rw_7 E yo yr yl yt ro rk rh rd rt rl rs yRi yLe yLa rSz rTc rFa rPa rPy rMi rMe rSr rZ rKi rHe rDo rTx rLa rSk ++ rc_tp E LT pk pv pa pn tc) := hD
  refine lv_istore (lv' := [(4, .int r_1), (0, .ref yo), (1, .ref ro), (2, .int p2), (3, .int p3)]) hx hb dX5_laterBehind_6 hl (by decide) rfl (fun ls hl => ?_)
  refine lv_aload_n hx hb dX5_laterBehind_8 rfl (lv_at hl 2 rfl) ?_
  refine lv_iload hx hb dX5_laterBehind_9 (lv_at hl 0 rfl) ?_
  have hPc := hP.part (cx := (rw_4 E ro rk rh rd rt rl rs rSz rTc rFa rPa rPy rMi rMe rSr rZ rKi rHe rDo rTx rLa rSk)) [4, 5, 6, 7, 8, 9, 10] rfl
  have hDc := hD.part (cx := (rw_4 E ro rk rh rd rt rl rs rSz rTc rFa rPa rPy rMi rMe rSr rZ rKi rHe rDo rTx rLa rSk)) [4, 5, 6, 7, 8, 9, 10] (by decide) rfl
  have hFc := va_freeP (cx := (rw_4 E ro rk rh rd rt rl rs rSz rTc rFa rPa rPy rMi rMe rSr rZ rKi rHe rDo rTx rLa rSk)) hD hS hA [4, 5, 6, 7, 8, 9, 10] rfl
  refine va_calli (va_runV (As := [.int r_1]) (rest := []) ⟨hx, hb, hml, hown, hts⟩ (c_X1_has l E ro rk rh rd rt rl rs H.size rSz rTc rFa rPa rPy rMi rMe rSr rZ rKi rHe rDo rTx rLa rSk r_1 LT pk pv pa pn tc _ h) (cwV 1 hts gX5_laterBehind_X1_has rfl rfl rfl (by decide +kernel) ⟨Nat.le_of_ble_eq_true rfl, Nat.le_of_ble_eq_true rfl⟩) ⟨fun a U g mk q => ⟨q.1, q.2.blind⟩, va_recv hK hPc (ci := 1) (q0 := 0) rfl rfl, fun U hU hW => ⟨rfl, by rw [hU], by rw [hU]; exact hPc, hE.call hS hFc hW hU, hDc.weaken (fun _ _ _ _ => trivial)⟩⟩ rfl rfl hl.1 rfl (lv_room (Nat.le_of_ble_eq_true rfl)) dX5_laterBehind_11 ⟨Nat.zero_le _, Nat.zero_le _⟩) hS (fun q _ h => hFc q h) hFc (fun r_2 u t H1 locs ht hvm h hB hz1 hk1 hS => ?_)
  obtain ⟨hP1, hD1⟩ := hB
  rw [ht] at hP1
  obtain ⟨hP, hD⟩ := rc_focP hP hD [4, 5, 6, 7, 8, 9, 10] [none, none, none, none, some 0, some 1, some 2, some 3, some 4, some 5, some 6] (by decide) rfl rfl hk1 hP1 rfl
  generalize H1 = H at hP hS ⊢
  have hP : va_P E.1 vwCl (rw_7 E yo yr yl yt ro rk rh rd rt rl rs yRi yLe yLa rSz rTc rFa rPa rPy rMi rMe rSr rZ rKi rHe rDo rTx rLa rSk ++ rc_tp E LT pk pv pa pn tc) H := hP
  have hD : va_D A (rw_7 E yo yr yl yt ro rk rh rd rt rl rs yRi yLe yLa rSz rTc rFa rPa rPy rMi rMe rSr rZ rKi rHe rDo rTx rLa rSk ++ rc_tp E LT pk pv pa pn tc) := hD
  refine lv_if_eq (tgt := 27) hx hb dX5_laterBehind_14 (by decide) (fun c_3 => ?_) (fun c_3 => ?_)
  · have h := h.1 c_3
    refine lv_iconst (v := 0) hx hb dX5_laterBehind_27 (by decide) ?_
    exact hret _ _ _ _ 0 () rfl h hP hD hS dX5_laterBehind_28
  · have h := h.2 c_3
    refine lv_aload_n hx hb dX5_laterBehind_17 rfl (lv_at hl 1 rfl) ?_
    refine va_get (D := E.1) (ci := 5) (v := .ref yt) (C := RX5) (T := TX5) (N := 3) hx hb hts n_X5 hown hK hP 0 rfl rfl 2 (by decide) k_18 (fun _ h9 => h9) rfl dX5_laterBehind_18 ?_
    refine lv_iload hx hb dX5_laterBehind_21 (lv_at hl 0 rfl) ?_
    obtain ⟨o_4, h⟩ := h
    refine rc_iald hx hb hK hP 3 0 rfl rfl r_1.toNatClampNeg rfl o_4 dX5_laterBehind_23 ?_
    refine lv_goto (tgt := 28) hx hb dX5_laterBehind_24 (by decide) ?_
    exact hret _ _ _ _ (yLa r_1.toNatClampNeg) () rfl h hP hD hS dX5_laterBehind_28
def lp_X5_bestStep_5F (p2 : Int32) (yLa : Nat → Int32) (rSz : Int32) (rDo : Nat → Int32)  (Q : Int32 → Prop) (R : Int32 → Int32 → Prop) (x3 : Int32) (x4 : Int32) : Prop :=
  ((3 < x4 → Q x3) ∧ (¬ (3 < x4) → wp_X1_mayStep p2 x4 rSz rDo (fun (r_2 : Int32) => ((r_2 = 0 → R x3 (x4 + 1)) ∧ (¬ (r_2 = 0) → wp_X5_laterBehind p2 x4 yLa rSz (fun (r_4 : Int32) => wp_X5_laterBehind p2 x3 yLa rSz (fun (r_5 : Int32) => ((r_5 ≤ r_4 → R x3 (x4 + 1)) ∧ (¬ (r_5 ≤ r_4) → R x4 (x4 + 1))))))))))
def lp_X5_bestStep_5 (p2 : Int32) (yLa : Nat → Int32) (rSz : Int32) (rDo : Nat → Int32)  (Q : Int32 → Prop) (n : Nat) : Int32 → Int32 → Prop :=
  Nat.rec (motive := fun _ => Int32 → Int32 → Prop) (fun _ _ => False) (fun _ r => lp_X5_bestStep_5F p2 yLa rSz rDo Q r) n
def wp_X5_bestStep (p2 : Int32) (yLa : Nat → Int32) (rSz : Int32) (rDo : Nat → Int32) (Q : Int32 → Prop) : Prop :=
  (∃ n : Nat, lp_X5_bestStep_5 p2 yLa rSz rDo Q n 0 1)
set_option maxHeartbeats 4000000 in
set_option maxRecDepth 100000 in
theorem c_X5_bestStep (l : Launch) (E : gE) (yo yr yl yt ro rk rh rd rt rl rs : Nat) (sz : Nat) (yRi : Nat → Int32) (yLe : Nat → Int32) (yLa : Nat → Int32) (rSz : Int32) (rTc : Int32) (rFa : Int32) (rPa : Int32) (rPy : Int32) (rMi : Int32) (rMe : Int32) (rSr : Int32) (rZ : Int32) (rKi : Nat → Int32) (rHe : Nat → Int32) (rDo : Nat → Int32) (rTx : Nat → Option Nat) (rLa : Nat → Int32) (rSk : Nat → Int32) (p2 : Int32) (LT : List Nat) (pk : Nat → Int32) (pv : Nat → Int32) (pa : Nat → Nat) (pn : Nat → Nat) (tc : Nat → Nat → Int32) (Q : Int32 → Prop) (h : wp_X5_bestStep p2 yLa rSz rDo Q) : Met l yX5_bestStep wsX5_bestStep ({ frames := 2, cells := 0, slots := 0, locals := 46 } : Room) (va_Pc [.ref yo, .ref ro, .int p2] (rc_B E (rw_7 E yo yr yl yt ro rk rh rd rt rl rs yRi yLe yLa rSz rTc rFa rPa rPy rMi rMe rSr rZ rKi rHe rDo rTx rLa rSk ++ rc_tp E LT pk pv pa pn tc) sz)) (va_Qi (S := Unit) (fun (r : Int32) (u : Unit) => Q r) (fun u t => rc_C E (va_A (rw_7 E yo yr yl yt ro rk rh rd rt rl rs yRi yLe yLa rSz rTc rFa rPa rPy rMi rMe rSr rZ rKi rHe rDo rTx rLa rSk ++ rc_tp E LT pk pv pa pn tc) sz) (rw_7 E yo yr yl yt ro rk rh rd rt rl rs yRi yLe yLa rSz rTc rFa rPa rPy rMi rMe rSr rZ rKi rHe rDo rTx rLa rSk ++ rc_tp E LT pk pv pa pn tc) t) (va_A (rw_7 E yo yr yl yt ro rk rh rd rt rl rs yRi yLe yLa rSz rTc rFa rPa rPy rMi rMe rSr rZ rKi rHe rDo rTx rLa rSk ++ rc_tp E LT pk pv pa pn tc) sz)) 0 0 (va_A (rw_7 E yo yr yl yt ro rk rh rd rt rl rs yRi yLe yLa rSz rTc rFa rPa rPy rMi rMe rSr rZ rKi rHe rDo rTx rLa rSk ++ rc_tp E LT pk pv pa pn tc) sz) := by
  refine rc_enterI (cc := cX5_bestStep) (maxL := 5) (by decide) rfl (Nat.le_of_ble_eq_true rfl) ?_
  intro p e s m args below meth c QQ A hx hb hml hown hts hmn hE hP hD hA hret ls hl
  have hown : s.vm.findClass RX5 = some m.cls := hown
  have hK := hE.1
  have hS : va_S A s.heap s.heap [] := va_S.rf
  have hl : lv_has ls 5 [(0, .ref yo), (1, .ref ro), (2, .int p2)] := hl
  have J5 : ∀ (n : Nat) (x3 : Int32) (x4 : Int32), lp_X5_bestStep_5 p2 yLa rSz rDo Q n x3 x4 → ∀ (H : Heap) (locs : List Loc), va_P E.1 vwCl (rw_7 E yo yr yl yt ro rk rh rd rt rl rs yRi yLe yLa rSz rTc rFa rPa rPy rMi rMe rSr rZ rKi rHe rDo rTx rLa rSk ++ rc_tp E LT pk pv pa pn tc) H → va_D A (rw_7 E yo yr yl yt ro rk rh rd rt rl rs yRi yLe yLa rSz rTc rFa rPa rPy rMi rMe rSr rZ rKi rHe rDo rTx rLa rSk ++ rc_tp E LT pk pv pa pn tc) → va_S A s.heap H locs → ∀ ls : Array Slot, lv_has ls 5 [(0, .ref yo), (1, .ref ro), (2, .int p2), (3, .int x3), (4, .int x4)] → W p l e ({ frames := 2, cells := 0, slots := 0, locals := 46 } : Room) s m args below meth c H locs 0 0 QQ (F0 m 5 ls []) := by
    intro n
    induction n with
    | zero =>
      intro x3 x4 h
      exact False.elim h
    | succ n ih =>
      intro x3 x4 h H locs hP hD hS ls hl
      have h : lp_X5_bestStep_5F p2 yLa rSz rDo Q (lp_X5_bestStep_5 p2 yLa rSz rDo Q n) x3 x4 := h
      unfold lp_X5_bestStep_5F at h
      refine lv_iload hx hb dX5_bestStep_5 (lv_at hl 4 rfl) ?_
      refine lv_iconst (v := 3) hx hb dX5_bestStep_7 (by decide) ?_
      refine lv_icmp_gt (tgt := 48) hx hb dX5_bestStep_8 (by decide) (fun c_1 => ?_) (fun c_1 => ?_)
      · have h := h.1 c_1
        refine lv_iload_n hx hb dX5_bestStep_48 rfl (lv_at hl 3 rfl) ?_
        exact hret _ _ _ _ x3 () rfl h hP hD hS dX5_bestStep_49
      · have h := h.2 c_1
        refine lv_aload_n hx hb dX5_bestStep_11 rfl (lv_at hl 1 rfl) ?_
        refine lv_iload_n hx hb dX5_bestStep_12 rfl (lv_at hl 2 rfl) ?_
        refine lv_iload hx hb dX5_bestStep_13 (lv_at hl 4 rfl) ?_
        have hPc := hP.part (cx := (rw_4 E ro rk rh rd rt rl rs rSz rTc rFa rPa rPy rMi rMe rSr rZ rKi rHe rDo rTx rLa rSk)) [4, 5, 6, 7, 8, 9, 10] rfl
        have hDc := hD.part (cx := (rw_4 E ro rk rh rd rt rl rs rSz rTc rFa rPa rPy rMi rMe rSr rZ rKi rHe rDo rTx rLa rSk)) [4, 5, 6, 7, 8, 9, 10] (by decide) rfl
        have hFc := va_freeP (cx := (rw_4 E ro rk rh rd rt rl rs rSz rTc rFa rPa rPy rMi rMe rSr rZ rKi rHe rDo rTx rLa rSk)) hD hS hA [4, 5, 6, 7, 8, 9, 10] rfl
        refine va_calli (va_runV (As := [.int p2, .int x4]) (rest := []) ⟨hx, hb, hml, hown, hts⟩ (c_X1_mayStep l E ro rk rh rd rt rl rs H.size rSz rTc rFa rPa rPy rMi rMe rSr rZ rKi rHe rDo rTx rLa rSk p2 x4 LT pk pv pa pn tc _ h) (cwV 2 hts gX5_bestStep_X1_mayStep rfl rfl rfl (by decide +kernel) ⟨Nat.le_of_ble_eq_true rfl, Nat.le_of_ble_eq_true rfl⟩) ⟨fun a U g mk q => ⟨q.1, q.2.blind⟩, va_recv hK hPc (ci := 1) (q0 := 0) rfl rfl, fun U hU hW => ⟨rfl, by rw [hU], by rw [hU]; exact hPc, hE.call hS hFc hW hU, hDc.weaken (fun _ _ _ _ => trivial)⟩⟩ rfl rfl hl.1 rfl (lv_room (Nat.le_of_ble_eq_true rfl)) dX5_bestStep_15 ⟨Nat.zero_le _, Nat.zero_le _⟩) hS (fun q _ h => hFc q h) hFc (fun r_2 u t H1 locs ht hvm h hB hz1 hk1 hS => ?_)
        obtain ⟨hP1, hD1⟩ := hB
        rw [ht] at hP1
        obtain ⟨hP, hD⟩ := rc_focP hP hD [4, 5, 6, 7, 8, 9, 10] [none, none, none, none, some 0, some 1, some 2, some 3, some 4, some 5, some 6] (by decide) rfl rfl hk1 hP1 rfl
        generalize H1 = H at hP hS ⊢
        have hP : va_P E.1 vwCl (rw_7 E yo yr yl yt ro rk rh rd rt rl rs yRi yLe yLa rSz rTc rFa rPa rPy rMi rMe rSr rZ rKi rHe rDo rTx rLa rSk ++ rc_tp E LT pk pv pa pn tc) H := hP
        have hD : va_D A (rw_7 E yo yr yl yt ro rk rh rd rt rl rs yRi yLe yLa rSz rTc rFa rPa rPy rMi rMe rSr rZ rKi rHe rDo rTx rLa rSk ++ rc_tp E LT pk pv pa pn tc) := hD
        refine lv_if_eq (tgt := 42) hx hb dX5_bestStep_18 (by decide) (fun c_3 => ?_) (fun c_3 => ?_)
        · have h := h.1 c_3
          refine lv_iinc (v := x4 + 1) (lv' := [(4, .int (x4 + 1)), (0, .ref yo), (1, .ref ro), (2, .int p2), (3, .int x3)]) hx hb dX5_bestStep_42 hl (k := 4) rfl (by rfl) (by decide) rfl (fun ls hl => ?_)
          refine lv_goto (tgt := 5) hx hb dX5_bestStep_45 (by decide) ?_
          exact ih x3 (x4 + 1) h _ _ hP hD hS ls (lv_sub hl [1, 2, 3, 4, 0] rfl)
        · have h := h.2 c_3
          refine lv_aload_n hx hb dX5_bestStep_21 rfl (lv_at hl 0 rfl) ?_
          refine lv_aload_n hx hb dX5_bestStep_22 rfl (lv_at hl 1 rfl) ?_
          refine lv_iload_n hx hb dX5_bestStep_23 rfl (lv_at hl 2 rfl) ?_
          refine lv_iload hx hb dX5_bestStep_24 (lv_at hl 4 rfl) ?_
          have hPc := hP
          have hDc := hD
          have hFc := rc_freeI hD hS hA
          refine va_calli (va_runV (As := [.ref ro, .int p2, .int x4]) (rest := []) ⟨hx, hb, hml, hown, hts⟩ (c_X5_laterBehind l E yo yr yl yt ro rk rh rd rt rl rs H.size yRi yLe yLa rSz rTc rFa rPa rPy rMi rMe rSr rZ rKi rHe rDo rTx rLa rSk p2 x4 LT pk pv pa pn tc _ h) (cwV 3 hts gX5_bestStep_X5_laterBehind rfl rfl rfl (by decide +kernel) ⟨Nat.le_of_ble_eq_true rfl, Nat.le_of_ble_eq_true rfl⟩) ⟨fun a U g mk q => ⟨q.1, q.2.blind⟩, va_recv hK hPc (ci := 5) (q0 := 0) rfl rfl, fun U hU hW => ⟨rfl, by rw [hU], by rw [hU]; exact hPc, hE.call hS hFc hW hU, hDc.weaken (fun _ _ _ _ => trivial)⟩⟩ rfl rfl hl.1 rfl (lv_room (Nat.le_of_ble_eq_true rfl)) dX5_bestStep_26 ⟨Nat.zero_le _, Nat.zero_le _⟩) hS (fun q _ h => hFc q h) hFc (fun r_4 u t H1 locs ht hvm h hB hz1 hk1 hS => ?_)
          obtain ⟨hP1, hD1⟩ := hB
          rw [ht] at hP1
          have hP := hP1
          have hD := hD1.weaken (fun _ _ _ h => hFc _ h)
          generalize H1 = H at hP hS ⊢
          have hP : va_P E.1 vwCl (rw_7 E yo yr yl yt ro rk rh rd rt rl rs yRi yLe yLa rSz rTc rFa rPa rPy rMi rMe rSr rZ rKi rHe rDo rTx rLa rSk ++ rc_tp E LT pk pv pa pn tc) H := hP
          have hD : va_D A (rw_7 E yo yr yl yt ro rk rh rd rt rl rs yRi yLe yLa rSz rTc rFa rPa rPy rMi rMe rSr rZ rKi rHe rDo rTx rLa rSk ++ rc_tp E LT pk pv pa pn tc) := hD
          refine lv_aload_n hx hb dX5_bestStep_29 rfl (lv_at hl 0 rfl) ?_
          refine lv_aload_n hx hb dX5_bestStep_30 rfl (lv_at hl 1 rfl) ?_
          refine lv_iload_n hx hb dX5_bestStep_31 rfl (lv_at hl 2 rfl) ?_
          refine lv_iload_n hx hb dX5_bestStep_32 rfl (lv_at hl 3 rfl) ?_
          have hPc := hP
          have hDc := hD
          have hFc := rc_freeI hD hS hA
          refine va_calli (va_runV (As := [.ref ro, .int p2, .int x3]) (rest := [.int r_4]) ⟨hx, hb, hml, hown, hts⟩ (c_X5_laterBehind l E yo yr yl yt ro rk rh rd rt rl rs H.size yRi yLe yLa rSz rTc rFa rPa rPy rMi rMe rSr rZ rKi rHe rDo rTx rLa rSk p2 x3 LT pk pv pa pn tc _ h) (cwV 3 hts gX5_bestStep_X5_laterBehind rfl rfl rfl (by decide +kernel) ⟨Nat.le_of_ble_eq_true rfl, Nat.le_of_ble_eq_true rfl⟩) ⟨fun a U g mk q => ⟨q.1, q.2.blind⟩, va_recv hK hPc (ci := 5) (q0 := 0) rfl rfl, fun U hU hW => ⟨rfl, by rw [hU], by rw [hU]; exact hPc, hE.call hS hFc hW hU, hDc.weaken (fun _ _ _ _ => trivial)⟩⟩ rfl rfl hl.1 rfl (lv_room (Nat.le_of_ble_eq_true rfl)) dX5_bestStep_33 ⟨Nat.zero_le _, Nat.zero_le _⟩) hS (fun q _ h => hFc q h) hFc (fun r_5 u t H1 locs ht hvm h hB hz1 hk1 hS => ?_)
          obtain ⟨hP1, hD1⟩ := hB
          rw [ht] at hP1
          have hP := hP1
          have hD := hD1.weaken (fun _ _ _ h => hFc _ h)
          generalize H1 = H at hP hS ⊢
          have hP : va_P E.1 vwCl (rw_7 E yo yr yl yt ro rk rh rd rt rl rs yRi yLe yLa rSz rTc rFa rPa rPy rMi rMe rSr rZ rKi rHe rDo rTx rLa rSk ++ rc_tp E LT pk pv pa pn tc) H := hP
          have hD : va_D A (rw_7 E yo yr yl yt ro rk rh rd rt rl rs yRi yLe yLa rSz rTc rFa rPa rPy rMi rMe rSr rZ rKi rHe rDo rTx rLa rSk ++ rc_tp E LT pk pv pa pn tc) := hD
          refine lv_icmp_ge (tgt := 42) hx hb dX5_bestStep_36 (by decide) (fun c_6 => ?_) (fun c_6 => ?_)
          · have h := h.1 c_6
            refine lv_iinc (v := x4 + 1) (lv' := [(4, .int (x4 + 1)), (0, .ref yo), (1, .ref ro), (2, .int p2), (3, .int x3)]) hx hb dX5_bestStep_42 hl (k := 4) rfl (by rfl) (by decide) rfl (fun ls hl => ?_)
            refine lv_goto (tgt := 5) hx hb dX5_bestStep_45 (by decide) ?_
            exact ih x3 (x4 + 1) h _ _ hP hD hS ls (lv_sub hl [1, 2, 3, 4, 0] rfl)
          · have h := h.2 c_6
            refine lv_iload hx hb dX5_bestStep_39 (lv_at hl 4 rfl) ?_
            refine lv_istore_n (lv' := [(3, .int x4), (0, .ref yo), (1, .ref ro), (2, .int p2), (4, .int x4)]) hx hb dX5_bestStep_41 rfl hl (by decide) rfl (fun ls hl => ?_)
            refine lv_iinc (v := x4 + 1) (lv' := [(4, .int (x4 + 1)), (3, .int x4), (0, .ref yo), (1, .ref ro), (2, .int p2)]) hx hb dX5_bestStep_42 hl (k := 4) rfl (by rfl) (by decide) rfl (fun ls hl => ?_)
            refine lv_goto (tgt := 5) hx hb dX5_bestStep_45 (by decide) ?_
            exact ih x4 (x4 + 1) h _ _ hP hD hS ls (lv_sub hl [2, 3, 4, 1, 0] rfl)
  unfold wp_X5_bestStep at h
  obtain ⟨H, hH⟩ : ∃ H, H = s.heap := ⟨_, rfl⟩
  obtain ⟨locs, hlocs⟩ : ∃ locs : List Loc, locs = [] := ⟨_, rfl⟩
  have hP : va_P E.1 vwCl (rw_7 E yo yr yl yt ro rk rh rd rt rl rs yRi yLe yLa rSz rTc rFa rPa rPy rMi rMe rSr rZ rKi rHe rDo rTx rLa rSk ++ rc_tp E LT pk pv pa pn tc) H := by rw [hH]; exact hP
  have hS : va_S A s.heap H locs := by rw [hH, hlocs]; exact hS
  suffices hgo : W p l e ({ frames := 2, cells := 0, slots := 0, locals := 46 } : Room) s m args below meth c H locs 0 0 QQ (F0 m 0 ls []) from by rw [hH, hlocs] at hgo; exact hgo
  refine lv_iconst (v := 0) hx hb dX5_bestStep_0 (by decide) ?_
  refine lv_istore_n (lv' := [(3, .int 0), (0, .ref yo), (1, .ref ro), (2, .int p2)]) hx hb dX5_bestStep_1 rfl hl (by decide) rfl (fun ls hl => ?_)
  refine lv_iconst (v := 1) hx hb dX5_bestStep_2 (by decide) ?_
  refine lv_istore (lv' := [(4, .int 1), (3, .int 0), (0, .ref yo), (1, .ref ro), (2, .int p2)]) hx hb dX5_bestStep_3 hl (by decide) rfl (fun ls hl => ?_)
  obtain ⟨n, h⟩ := h
  exact J5 n 0 1 h _ _ hP hD hS ls (lv_sub hl [2, 3, 4, 1, 0] rfl)
