def jp_X0_sortOf_14 (p0 : Int32)  (Q : Int32 → Prop)  : Prop :=
  ((p0 < 48 → Q 2) ∧ (¬ (p0 < 48) → ((57 < p0 → Q 2) ∧ (¬ (57 < p0) → Q 1))))
def wp_X0_sortOf (p0 : Int32) (Q : Int32 → Prop) : Prop :=
  ((p0 < 97 → jp_X0_sortOf_14 p0 Q) ∧ (¬ (p0 < 97) → ((122 < p0 → jp_X0_sortOf_14 p0 Q) ∧ (¬ (122 < p0) → Q 0))))
set_option maxHeartbeats 4000000 in
set_option maxRecDepth 100000 in
theorem c_X0_sortOf (l : Launch) (E : gE)  (sz : Nat)  (p0 : Int32)  (Q : Int32 → Prop) (h : wp_X0_sortOf p0 Q) : Met l yX0_sortOf wsX0_sortOf ({ frames := 0, cells := 0, slots := 0, locals := 0 } : Room) (va_Pc [.int p0] (rc_B E ([]) sz)) (va_Qi (S := Unit) (fun (r : Int32) (u : Unit) => Q r) (fun u t => rc_C E (va_A ([]) sz) ([]) t) (va_A ([]) sz)) 0 0 (va_A ([]) sz) := by
  refine rc_enterI (cc := cX0_sortOf) (maxL := 1) (by decide) rfl (Nat.le_of_ble_eq_true rfl) ?_
  intro p e s m args below meth c QQ A hx hb hml hown hts hmn hE hP hD hA hret ls hl
  have hown : s.vm.findClass RX0 = some m.cls := hown
  have hK := hE.1
  have hS : va_S A s.heap s.heap [] := va_S.rf
  have hl : lv_has ls 1 [(0, .int p0)] := hl
  have J14 : jp_X0_sortOf_14 p0 Q → ∀ (H : Heap) (locs : List Loc), va_P E.1 vwCl ([]) H → va_D A ([]) → va_S A s.heap H locs → ∀ ls : Array Slot, lv_has ls 1 [(0, .int p0)] → W p l e ({ frames := 0, cells := 0, slots := 0, locals := 0 } : Room) s m args below meth c H locs 0 0 QQ (F0 m 14 ls []) := by
    intro  h H locs hP hD hS ls hl
    unfold jp_X0_sortOf_14 at h
    refine lv_iload_n hx hb dX0_sortOf_14 rfl (lv_at hl 0 rfl) ?_
    refine lv_bipush (v := 48) hx hb dX0_sortOf_15 (by decide) ?_
    refine lv_icmp_lt (tgt := 30) hx hb dX0_sortOf_17 (by decide) (fun c_1 => ?_) (fun c_1 => ?_)
    · have h := h.1 c_1
      refine lv_iconst (v := 2) hx hb dX0_sortOf_30 (by decide) ?_
      exact hret _ _ _ _ 2 () rfl h hP hD hS dX0_sortOf_31
    · have h := h.2 c_1
      refine lv_iload_n hx hb dX0_sortOf_20 rfl (lv_at hl 0 rfl) ?_
      refine lv_bipush (v := 57) hx hb dX0_sortOf_21 (by decide) ?_
      refine lv_icmp_gt (tgt := 30) hx hb dX0_sortOf_23 (by decide) (fun c_2 => ?_) (fun c_2 => ?_)
      · have h := h.1 c_2
        refine lv_iconst (v := 2) hx hb dX0_sortOf_30 (by decide) ?_
        exact hret _ _ _ _ 2 () rfl h hP hD hS dX0_sortOf_31
      · have h := h.2 c_2
        refine lv_iconst (v := 1) hx hb dX0_sortOf_26 (by decide) ?_
        refine lv_goto (tgt := 31) hx hb dX0_sortOf_27 (by decide) ?_
        exact hret _ _ _ _ 1 () rfl h hP hD hS dX0_sortOf_31
  unfold wp_X0_sortOf at h
  obtain ⟨H, hH⟩ : ∃ H, H = s.heap := ⟨_, rfl⟩
  obtain ⟨locs, hlocs⟩ : ∃ locs : List Loc, locs = [] := ⟨_, rfl⟩
  have hP : va_P E.1 vwCl ([]) H := by rw [hH]; exact hP
  have hS : va_S A s.heap H locs := by rw [hH, hlocs]; exact hS
  suffices hgo : W p l e ({ frames := 0, cells := 0, slots := 0, locals := 0 } : Room) s m args below meth c H locs 0 0 QQ (F0 m 0 ls []) from by rw [hH, hlocs] at hgo; exact hgo
  refine lv_iload_n hx hb dX0_sortOf_0 rfl (lv_at hl 0 rfl) ?_
  refine lv_bipush (v := 97) hx hb dX0_sortOf_1 (by decide) ?_
  refine lv_icmp_lt (tgt := 14) hx hb dX0_sortOf_3 (by decide) (fun c_3 => ?_) (fun c_3 => ?_)
  · have h := h.1 c_3
    exact J14 h _ _ hP hD hS ls (lv_sub hl [0] rfl)
  · have h := h.2 c_3
    refine lv_iload_n hx hb dX0_sortOf_6 rfl (lv_at hl 0 rfl) ?_
    refine lv_bipush (v := 122) hx hb dX0_sortOf_7 (by decide) ?_
    refine lv_icmp_gt (tgt := 14) hx hb dX0_sortOf_9 (by decide) (fun c_4 => ?_) (fun c_4 => ?_)
    · have h := h.1 c_4
      exact J14 h _ _ hP hD hS ls (lv_sub hl [0] rfl)
    · have h := h.2 c_4
      refine lv_iconst (v := 0) hx hb dX0_sortOf_12 (by decide) ?_
      exact hret _ _ _ _ 0 () rfl h hP hD hS dX0_sortOf_13
def wp_X0_levelOf (p0 : Int32) (Q : Int32 → Prop) : Prop :=
  ((p0 = 38 → Q 1) ∧ ((p0 = 42 → Q 4) ∧ ((p0 = 43 → Q 3) ∧ ((p0 = 45 → Q 3) ∧ ((p0 = 47 → Q 4) ∧ ((p0 = 60 → Q 2) ∧ ((p0 = 61 → Q 2) ∧ ((p0 = 62 → Q 2) ∧ ((p0 = 124 → Q 0) ∧ (¬ p0 = 38 ∧ ¬ p0 = 42 ∧ ¬ p0 = 43 ∧ ¬ p0 = 45 ∧ ¬ p0 = 47 ∧ ¬ p0 = 60 ∧ ¬ p0 = 61 ∧ ¬ p0 = 62 ∧ ¬ p0 = 124 → Q (-1000000005)))))))))))
set_option maxHeartbeats 4000000 in
set_option maxRecDepth 100000 in
theorem c_X0_levelOf (l : Launch) (E : gE)  (sz : Nat)  (p0 : Int32)  (Q : Int32 → Prop) (h : wp_X0_levelOf p0 Q) : Met l yX0_levelOf wsX0_levelOf ({ frames := 0, cells := 0, slots := 0, locals := 0 } : Room) (va_Pc [.int p0] (rc_B E ([]) sz)) (va_Qi (S := Unit) (fun (r : Int32) (u : Unit) => Q r) (fun u t => rc_C E (va_A ([]) sz) ([]) t) (va_A ([]) sz)) 0 0 (va_A ([]) sz) := by
  refine rc_enterI (cc := cX0_levelOf) (maxL := 1) (by decide) rfl (Nat.le_of_ble_eq_true rfl) ?_
  intro p e s m args below meth c QQ A hx hb hml hown hts hmn hE hP hD hA hret ls hl
  have hown : s.vm.findClass RX0 = some m.cls := hown
  have hK := hE.1
  have hS : va_S A s.heap s.heap [] := va_S.rf
  have hl : lv_has ls 1 [(0, .int p0)] := hl
  have k_19 := hts (.constant RX0 19 (-1000000005)) (List.mem_of_getElem? (i := 1) rfl)
  unfold wp_X0_levelOf at h
  obtain ⟨H, hH⟩ : ∃ H, H = s.heap := ⟨_, rfl⟩
  obtain ⟨locs, hlocs⟩ : ∃ locs : List Loc, locs = [] := ⟨_, rfl⟩
  have hP : va_P E.1 vwCl ([]) H := by rw [hH]; exact hP
  have hS : va_S A s.heap H locs := by rw [hH, hlocs]; exact hS
  suffices hgo : W p l e ({ frames := 0, cells := 0, slots := 0, locals := 0 } : Room) s m args below meth c H locs 0 0 QQ (F0 m 0 ls []) from by rw [hH, hlocs] at hgo; exact hgo
  refine lv_iload_n hx hb dX0_levelOf_0 rfl (lv_at hl 0 rfl) ?_
  by_cases c_1_0 : p0 = 38
  · have h := h.1 c_1_0
    refine lv_lookup (off := 85) (tgt := 86) hx hb dX0_levelOf_1 (by decide) (by rw [c_1_0] <;> rfl) (by decide) ?_
    refine lv_iconst (v := 1) hx hb dX0_levelOf_86 (by decide) ?_
    exact hret _ _ _ _ 1 () rfl h hP hD hS dX0_levelOf_87
  · by_cases c_1_1 : p0 = 42
    · have h := h.2.1 c_1_1
      refine lv_lookup (off := 91) (tgt := 92) hx hb dX0_levelOf_1 (by decide) (by rw [c_1_1] <;> rfl) (by decide) ?_
      refine lv_iconst (v := 4) hx hb dX0_levelOf_92 (by decide) ?_
      exact hret _ _ _ _ 4 () rfl h hP hD hS dX0_levelOf_93
    · by_cases c_1_2 : p0 = 43
      · have h := h.2.2.1 c_1_2
        refine lv_lookup (off := 89) (tgt := 90) hx hb dX0_levelOf_1 (by decide) (by rw [c_1_2] <;> rfl) (by decide) ?_
        refine lv_iconst (v := 3) hx hb dX0_levelOf_90 (by decide) ?_
        exact hret _ _ _ _ 3 () rfl h hP hD hS dX0_levelOf_91
      · by_cases c_1_3 : p0 = 45
        · have h := h.2.2.2.1 c_1_3
          refine lv_lookup (off := 89) (tgt := 90) hx hb dX0_levelOf_1 (by decide) (by rw [c_1_3] <;> rfl) (by decide) ?_
          refine lv_iconst (v := 3) hx hb dX0_levelOf_90 (by decide) ?_
          exact hret _ _ _ _ 3 () rfl h hP hD hS dX0_levelOf_91
        · by_cases c_1_4 : p0 = 47
          · have h := h.2.2.2.2.1 c_1_4
            refine lv_lookup (off := 91) (tgt := 92) hx hb dX0_levelOf_1 (by decide) (by rw [c_1_4] <;> rfl) (by decide) ?_
            refine lv_iconst (v := 4) hx hb dX0_levelOf_92 (by decide) ?_
            exact hret _ _ _ _ 4 () rfl h hP hD hS dX0_levelOf_93
          · by_cases c_1_5 : p0 = 60
            · have h := h.2.2.2.2.2.1 c_1_5
              refine lv_lookup (off := 87) (tgt := 88) hx hb dX0_levelOf_1 (by decide) (by rw [c_1_5] <;> rfl) (by decide) ?_
              refine lv_iconst (v := 2) hx hb dX0_levelOf_88 (by decide) ?_
              exact hret _ _ _ _ 2 () rfl h hP hD hS dX0_levelOf_89
            · by_cases c_1_6 : p0 = 61
              · have h := h.2.2.2.2.2.2.1 c_1_6
                refine lv_lookup (off := 87) (tgt := 88) hx hb dX0_levelOf_1 (by decide) (by rw [c_1_6] <;> rfl) (by decide) ?_
                refine lv_iconst (v := 2) hx hb dX0_levelOf_88 (by decide) ?_
                exact hret _ _ _ _ 2 () rfl h hP hD hS dX0_levelOf_89
              · by_cases c_1_7 : p0 = 62
                · have h := h.2.2.2.2.2.2.2.1 c_1_7
                  refine lv_lookup (off := 87) (tgt := 88) hx hb dX0_levelOf_1 (by decide) (by rw [c_1_7] <;> rfl) (by decide) ?_
                  refine lv_iconst (v := 2) hx hb dX0_levelOf_88 (by decide) ?_
                  exact hret _ _ _ _ 2 () rfl h hP hD hS dX0_levelOf_89
                · by_cases c_1_8 : p0 = 124
                  · have h := h.2.2.2.2.2.2.2.2.1 c_1_8
                    refine lv_lookup (off := 83) (tgt := 84) hx hb dX0_levelOf_1 (by decide) (by rw [c_1_8] <;> rfl) (by decide) ?_
                    refine lv_iconst (v := 0) hx hb dX0_levelOf_84 (by decide) ?_
                    exact hret _ _ _ _ 0 () rfl h hP hD hS dX0_levelOf_85
                  · have h := h.2.2.2.2.2.2.2.2.2 ⟨c_1_0, c_1_1, c_1_2, c_1_3, c_1_4, c_1_5, c_1_6, c_1_7, c_1_8⟩
                    refine lv_lookup (off := 93) (tgt := 94) hx hb dX0_levelOf_1 (by decide) ((lv_osw c_1_0 (by decide)).trans ((lv_osw c_1_1 (by decide)).trans ((lv_osw c_1_2 (by decide)).trans ((lv_osw c_1_3 (by decide)).trans ((lv_osw c_1_4 (by decide)).trans ((lv_osw c_1_5 (by decide)).trans ((lv_osw c_1_6 (by decide)).trans ((lv_osw c_1_7 (by decide)).trans ((lv_osw c_1_8 (by decide)).trans (rfl)))))))))) (by decide) ?_
                    refine lv_ldc hx hb hown k_19 dX0_levelOf_94 ?_
                    exact hret _ _ _ _ (-1000000005) () rfl h hP hD hS dX0_levelOf_96
def wp_X0_setFault (eFt : Int32) (eSt : Int32) (Q : Int32 → Prop) : Prop :=
  ((¬ eFt = (-1000000005) → Q eFt) ∧ (eFt = (-1000000005) → Q eSt))
set_option maxHeartbeats 4000000 in
set_option maxRecDepth 100000 in
theorem c_X0_setFault (l : Launch) (E : gE) (eo eb ec : Nat) (sz : Nat) (eLn : Int32) (eFt : Int32) (eCc : Int32) (eKy : Int32) (eLv : Int32) (eOb : Int32) (eOn : Int32) (eSt : Int32) (eEd : Int32) (eSo : Int32) (eBy : Nat → Int32) (eCo : Nat → Int32)   (Q : Int32 → Prop) (h : wp_X0_setFault eFt eSt Q) : Met l yX0_setFault wsX0_setFault ({ frames := 0, cells := 0, slots := 0, locals := 0 } : Room) (va_Pc [.ref eo] (rc_B E (rw_17 E eo eb ec eLn eFt eCc eKy eLv eOb eOn eSt eEd eSo eBy eCo) sz)) (va_Qv (S := Int32) (fun (u : Int32) => Q u) (fun u t => rc_C E (va_A (rw_17 E eo eb ec eLn eFt eCc eKy eLv eOb eOn eSt eEd eSo eBy eCo) sz) (rw_17 E eo eb ec eLn u eCc eKy eLv eOb eOn eSt eEd eSo eBy eCo) t) (va_A (rw_17 E eo eb ec eLn eFt eCc eKy eLv eOb eOn eSt eEd eSo eBy eCo) sz)) 0 0 (va_A (rw_17 E eo eb ec eLn eFt eCc eKy eLv eOb eOn eSt eEd eSo eBy eCo) sz) := by
  refine rc_enterV (cc := cX0_setFault) (maxL := 1) (by decide) rfl (Nat.le_of_ble_eq_true rfl) ?_
  intro p e s m args below meth c QQ A hx hb hml hown hts hmn hE hP hD hA hret ls hl
  have hown : s.vm.findClass RX0 = some m.cls := hown
  have hK := hE.1
  have hS : va_S A s.heap s.heap [] := va_S.rf
  have hl : lv_has ls 1 [(0, .ref eo)] := hl
  have n_X0 : ∀ w ∈ wsX00, w ∈ wsX0_setFault := fun _ h => List.mem_cons_of_mem _ (List.mem_append_right _ h)
  have k_20 := hts (.fieldLink RX0 20 "RidgeClaps$Reader" "fault" "I") (List.mem_of_getElem? (i := 1) rfl)
  have k_19 := hts (.constant RX0 19 (-1000000005)) (List.mem_of_getElem? (i := 2) rfl)
  have k_41 := hts (.fieldLink RX0 41 "RidgeClaps$Reader" "start" "I") (List.mem_of_getElem? (i := 3) rfl)
  unfold wp_X0_setFault at h
  obtain ⟨H, hH⟩ : ∃ H, H = s.heap := ⟨_, rfl⟩
  obtain ⟨locs, hlocs⟩ : ∃ locs : List Loc, locs = [] := ⟨_, rfl⟩
  have hP : va_P E.1 vwCl (rw_17 E eo eb ec eLn eFt eCc eKy eLv eOb eOn eSt eEd eSo eBy eCo) H := by rw [hH]; exact hP
  have hS : va_S A s.heap H locs := by rw [hH, hlocs]; exact hS
  suffices hgo : W p l e ({ frames := 0, cells := 0, slots := 0, locals := 0 } : Room) s m args below meth c H locs 0 0 QQ (F0 m 0 ls []) from by rw [hH, hlocs] at hgo; exact hgo
  refine lv_aload_n hx hb dX0_setFault_0 rfl (lv_at hl 0 rfl) ?_
  refine va_get (D := E.1) (ci := 0) (v := .int eFt) (C := RX0) (T := TX0) (N := 12) hx hb hts n_X0 hown hK hP 0 rfl rfl 2 (by decide) k_20 (fun _ h9 => h9) rfl dX0_setFault_1 ?_
  refine lv_ldc hx hb hown k_19 dX0_setFault_4 ?_
  refine lv_icmp_ne (tgt := 17) hx hb dX0_setFault_6 (by decide) (fun c_1 => ?_) (fun c_1 => ?_)
  · have h := h.1 c_1
    exact hret _ _ _ _ (eFt) h hP hD hS dX0_setFault_17
  · have h := h.2 c_1
    refine lv_aload_n hx hb dX0_setFault_9 rfl (lv_at hl 0 rfl) ?_
    refine lv_aload_n hx hb dX0_setFault_10 rfl (lv_at hl 0 rfl) ?_
    refine va_get (D := E.1) (ci := 0) (v := .int eSt) (C := RX0) (T := TX0) (N := 12) hx hb hts n_X0 hown hK hP 0 rfl rfl 9 (by decide) k_41 (fun _ h9 => h9) rfl dX0_setFault_11 ?_
    refine va_put (D := E.1) (ci := 0) (v := .int eSt) (ty := .int) (C := RX0) (T := TX0) (N := 12) hx hb hts n_X0 tyX0 tyX0_ok nmX0 hown hK hP hD hS 0 rfl rfl 2 (by decide) k_20 (fun _ h9 => h9) rfl (by decide +kernel) rfl rfl (Nat.le_of_ble_eq_true rfl) dX0_setFault_14 (fun H locs hP hD hS => ?_)
    have hP : va_P E.1 vwCl (rw_17 E eo eb ec eLn eSt eCc eKy eLv eOb eOn eSt eEd eSo eBy eCo) H := hP
    have hD : va_D A (rw_17 E eo eb ec eLn eSt eCc eKy eLv eOb eOn eSt eEd eSo eBy eCo) := hD
    exact hret _ _ _ _ (eSt) h hP hD hS dX0_setFault_17
def wp_X0_putCode (p1 : Int32) (eCc : Int32) (eCo : Nat → Int32) (Q : Int32 → (Nat → Int32) → Prop) : Prop :=
  ((96 ≤ eCc → Q eCc eCo) ∧ (¬ (96 ≤ eCc) → (vp_in eCc 96 ∧ Q (eCc + 1) (upd eCo eCc.toNatClampNeg p1))))
set_option maxHeartbeats 4000000 in
set_option maxRecDepth 100000 in
theorem c_X0_putCode (l : Launch) (E : gE) (eo eb ec : Nat) (sz : Nat) (eLn : Int32) (eFt : Int32) (eCc : Int32) (eKy : Int32) (eLv : Int32) (eOb : Int32) (eOn : Int32) (eSt : Int32) (eEd : Int32) (eSo : Int32) (eBy : Nat → Int32) (eCo : Nat → Int32) (p1 : Int32)  (Q : Int32 → (Nat → Int32) → Prop) (h : wp_X0_putCode p1 eCc eCo Q) : Met l yX0_putCode wsX0_putCode ({ frames := 0, cells := 0, slots := 0, locals := 0 } : Room) (va_Pc [.ref eo, .int p1] (rc_B E (rw_17 E eo eb ec eLn eFt eCc eKy eLv eOb eOn eSt eEd eSo eBy eCo) sz)) (va_Qv (S := Int32 × (Nat → Int32)) (fun (u : Int32 × (Nat → Int32)) => Q u.1 u.2) (fun u t => rc_C E (va_A (rw_17 E eo eb ec eLn eFt eCc eKy eLv eOb eOn eSt eEd eSo eBy eCo) sz) (rw_17 E eo eb ec eLn eFt u.1 eKy eLv eOb eOn eSt eEd eSo eBy u.2) t) (va_A (rw_17 E eo eb ec eLn eFt eCc eKy eLv eOb eOn eSt eEd eSo eBy eCo) sz)) 0 0 (va_A (rw_17 E eo eb ec eLn eFt eCc eKy eLv eOb eOn eSt eEd eSo eBy eCo) sz) := by
  refine rc_enterV (cc := cX0_putCode) (maxL := 2) (by decide) rfl (Nat.le_of_ble_eq_true rfl) ?_
  intro p e s m args below meth c QQ A hx hb hml hown hts hmn hE hP hD hA hret ls hl
  have hown : s.vm.findClass RX0 = some m.cls := hown
  have hK := hE.1
  have hS : va_S A s.heap s.heap [] := va_S.rf
  have hl : lv_has ls 2 [(0, .ref eo), (1, .int p1)] := hl
  have n_X0 : ∀ w ∈ wsX00, w ∈ wsX0_putCode := fun _ h => List.mem_cons_of_mem _ (List.mem_append_right _ h)
  have k_26 := hts (.fieldLink RX0 26 "RidgeClaps$Reader" "codeCount" "I") (List.mem_of_getElem? (i := 1) rfl)
  have k_23 := hts (.fieldLink RX0 23 "RidgeClaps$Reader" "codes" "[I") (List.mem_of_getElem? (i := 2) rfl)
  unfold wp_X0_putCode at h
  obtain ⟨H, hH⟩ : ∃ H, H = s.heap := ⟨_, rfl⟩
  obtain ⟨locs, hlocs⟩ : ∃ locs : List Loc, locs = [] := ⟨_, rfl⟩
  have hP : va_P E.1 vwCl (rw_17 E eo eb ec eLn eFt eCc eKy eLv eOb eOn eSt eEd eSo eBy eCo) H := by rw [hH]; exact hP
  have hS : va_S A s.heap H locs := by rw [hH, hlocs]; exact hS
  suffices hgo : W p l e ({ frames := 0, cells := 0, slots := 0, locals := 0 } : Room) s m args below meth c H locs 0 0 QQ (F0 m 0 ls []) from by rw [hH, hlocs] at hgo; exact hgo
  refine lv_aload_n hx hb dX0_putCode_0 rfl (lv_at hl 0 rfl) ?_
  refine va_get (D := E.1) (ci := 0) (v := .int eCc) (C := RX0) (T := TX0) (N := 12) hx hb hts n_X0 hown hK hP 0 rfl rfl 4 (by decide) k_26 (fun _ h9 => h9) rfl dX0_putCode_1 ?_
  refine lv_bipush (v := 96) hx hb dX0_putCode_4 (by decide) ?_
  refine lv_icmp_ge (tgt := 29) hx hb dX0_putCode_6 (by decide) (fun c_1 => ?_) (fun c_1 => ?_)
  · have h := h.1 c_1
    exact hret _ _ _ _ (eCc, eCo) h hP hD hS dX0_putCode_29
  · have h := h.2 c_1
    refine lv_aload_n hx hb dX0_putCode_9 rfl (lv_at hl 0 rfl) ?_
    refine va_get (D := E.1) (ci := 0) (v := .ref ec) (C := RX0) (T := TX0) (N := 12) hx hb hts n_X0 hown hK hP 0 rfl rfl 3 (by decide) k_23 (fun _ h9 => h9) rfl dX0_putCode_10 ?_
    refine lv_aload_n hx hb dX0_putCode_13 rfl (lv_at hl 0 rfl) ?_
    refine va_get (D := E.1) (ci := 0) (v := .int eCc) (C := RX0) (T := TX0) (N := 12) hx hb hts n_X0 hown hK hP 0 rfl rfl 4 (by decide) k_26 (fun _ h9 => h9) rfl dX0_putCode_14 ?_
    refine lv_iload_n hx hb dX0_putCode_17 rfl (lv_at hl 1 rfl) ?_
    obtain ⟨o_2, h⟩ := h
    refine rc_iast hx hb hK hP hD hS 2 0 rfl rfl eCc.toNatClampNeg rfl o_2 dX0_putCode_18 (fun H locs hP hD hS => ?_)
    have hP : va_P E.1 vwCl (rw_17 E eo eb ec eLn eFt eCc eKy eLv eOb eOn eSt eEd eSo eBy (upd eCo eCc.toNatClampNeg p1)) H := hP
    have hD : va_D A (rw_17 E eo eb ec eLn eFt eCc eKy eLv eOb eOn eSt eEd eSo eBy (upd eCo eCc.toNatClampNeg p1)) := hD
    refine lv_aload_n hx hb dX0_putCode_19 rfl (lv_at hl 0 rfl) ?_
    refine lv_dup hx hb dX0_putCode_20 rfl ?_
    refine va_get (D := E.1) (ci := 0) (v := .int eCc) (C := RX0) (T := TX0) (N := 12) hx hb hts n_X0 hown hK hP 0 rfl rfl 4 (by decide) k_26 (fun _ h9 => h9) rfl dX0_putCode_21 ?_
    refine lv_iconst (v := 1) hx hb dX0_putCode_24 (by decide) ?_
    refine lv_iadd hx hb dX0_putCode_25 ?_
    refine va_put (D := E.1) (ci := 0) (v := .int (eCc + 1)) (ty := .int) (C := RX0) (T := TX0) (N := 12) hx hb hts n_X0 tyX0 tyX0_ok nmX0 hown hK hP hD hS 0 rfl rfl 4 (by decide) k_26 (fun _ h9 => h9) rfl (by decide +kernel) rfl rfl (Nat.le_of_ble_eq_true rfl) dX0_putCode_26 (fun H locs hP hD hS => ?_)
    have hP : va_P E.1 vwCl (rw_17 E eo eb ec eLn eFt (eCc + 1) eKy eLv eOb eOn eSt eEd eSo eBy (upd eCo eCc.toNatClampNeg p1)) H := hP
    have hD : va_D A (rw_17 E eo eb ec eLn eFt (eCc + 1) eKy eLv eOb eOn eSt eEd eSo eBy (upd eCo eCc.toNatClampNeg p1)) := hD
    exact hret _ _ _ _ (eCc + 1, upd eCo eCc.toNatClampNeg p1) h hP hD hS dX0_putCode_29
def jp_X0_moveOn_149 (eBy : Nat → Int32)  (Q : Int32 → Int32 → Int32 → Prop) (eSt : Int32) (eEd : Int32) (eSo : Int32) : Prop :=
  ((eSt ≤ 0 → Q eSt eEd eSo) ∧ (¬ (eSt ≤ 0) → (vp_in (eSt - 1) 96 ∧ wp_X0_sortOf (eBy ((eSt - 1).toNatClampNeg)) (fun (r_3 : Int32) => ((r_3 = 2 → Q eSt eEd eSo) ∧ (¬ (r_3 = 2) → Q eSt eEd 4))))))
def lp_X0_moveOn_106F (eLn : Int32) (eBy : Nat → Int32)  (Q : Int32 → Int32 → Int32 → Prop) (R : Int32 → Int32 → Int32 → Prop) (eSt : Int32) (eEd : Int32) (eSo : Int32) : Prop :=
  ((eLn ≤ eEd → jp_X0_moveOn_149 eBy Q eSt eEd eSo) ∧ (¬ (eLn ≤ eEd) → (vp_in eEd 96 ∧ wp_X0_sortOf (eBy eEd.toNatClampNeg) (fun (r_7 : Int32) => ((¬ r_7 = eSo → jp_X0_moveOn_149 eBy Q eSt eEd eSo) ∧ (r_7 = eSo → R eSt (eEd + 1) eSo))))))
def lp_X0_moveOn_106 (eLn : Int32) (eBy : Nat → Int32)  (Q : Int32 → Int32 → Int32 → Prop) (n : Nat) : Int32 → Int32 → Int32 → Prop :=
  Nat.rec (motive := fun _ => Int32 → Int32 → Int32 → Prop) (fun _ _ _ => False) (fun _ r => lp_X0_moveOn_106F eLn eBy Q r) n
def jp_X0_moveOn_46 (eLn : Int32) (eBy : Nat → Int32)  (Q : Int32 → Int32 → Int32 → Prop) (eSt : Int32) (eEd : Int32) (eSo : Int32) : Prop :=
  ((eSt < eLn → (vp_in eSt 96 ∧ wp_X0_sortOf (eBy eSt.toNatClampNeg) (fun (r_11 : Int32) => ((¬ r_11 = 2 → (∃ n : Nat, lp_X0_moveOn_106 eLn eBy Q n eSt (eSt + 1) r_11)) ∧ (r_11 = 2 → Q eSt (eSt + 1) r_11))))) ∧ (¬ (eSt < eLn) → Q eSt eSt 3))
def lp_X0_moveOn_8F (eLn : Int32) (eBy : Nat → Int32)  (Q : Int32 → Int32 → Int32 → Prop) (R : Int32 → Int32 → Int32 → Prop) (eSt : Int32) (eEd : Int32) (eSo : Int32) : Prop :=
  ((eLn ≤ eSt → jp_X0_moveOn_46 eLn eBy Q eSt eEd eSo) ∧ (¬ (eLn ≤ eSt) → (vp_in eSt 96 ∧ ((¬ (eBy eSt.toNatClampNeg) = 32 → jp_X0_moveOn_46 eLn eBy Q eSt eEd eSo) ∧ ((eBy eSt.toNatClampNeg) = 32 → R (eSt + 1) eEd eSo)))))
def lp_X0_moveOn_8 (eLn : Int32) (eBy : Nat → Int32)  (Q : Int32 → Int32 → Int32 → Prop) (n : Nat) : Int32 → Int32 → Int32 → Prop :=
  Nat.rec (motive := fun _ => Int32 → Int32 → Int32 → Prop) (fun _ _ _ => False) (fun _ r => lp_X0_moveOn_8F eLn eBy Q r) n
def wp_X0_moveOn (eLn : Int32) (eEd : Int32) (eSo : Int32) (eBy : Nat → Int32) (Q : Int32 → Int32 → Int32 → Prop) : Prop :=
  (∃ n : Nat, lp_X0_moveOn_8 eLn eBy Q n eEd eEd eSo)
set_option maxHeartbeats 4000000 in
set_option maxRecDepth 100000 in
theorem c_X0_moveOn (l : Launch) (E : gE) (eo eb ec : Nat) (sz : Nat) (eLn : Int32) (eFt : Int32) (eCc : Int32) (eKy : Int32) (eLv : Int32) (eOb : Int32) (eOn : Int32) (eSt : Int32) (eEd : Int32) (eSo : Int32) (eBy : Nat → Int32) (eCo : Nat → Int32)   (Q : Int32 → Int32 → Int32 → Prop) (h : wp_X0_moveOn eLn eEd eSo eBy Q) : Met l yX0_moveOn wsX0_moveOn ({ frames := 1, cells := 0, slots := 0, locals := 20 } : Room) (va_Pc [.ref eo] (rc_B E (rw_17 E eo eb ec eLn eFt eCc eKy eLv eOb eOn eSt eEd eSo eBy eCo) sz)) (va_Qv (S := Int32 × Int32 × Int32) (fun (u : Int32 × Int32 × Int32) => Q u.1 u.2.1 u.2.2) (fun u t => rc_C E (va_A (rw_17 E eo eb ec eLn eFt eCc eKy eLv eOb eOn eSt eEd eSo eBy eCo) sz) (rw_17 E eo eb ec eLn eFt eCc eKy eLv eOb eOn u.1 u.2.1 u.2.2 eBy eCo) t) (va_A (rw_17 E eo eb ec eLn eFt eCc eKy eLv eOb eOn eSt eEd eSo eBy eCo) sz)) 0 0 (va_A (rw_17 E eo eb ec eLn eFt eCc eKy eLv eOb eOn eSt eEd eSo eBy eCo) sz) := by
  refine rc_enterV (cc := cX0_moveOn) (maxL := 1) (by decide) rfl (Nat.le_of_ble_eq_true rfl) ?_
  intro p e s m args below meth c QQ A hx hb hml hown hts hmn hE hP hD hA hret ls hl
  have hown : s.vm.findClass RX0 = some m.cls := hown
  have hK := hE.1
  have hS : va_S A s.heap s.heap [] := va_S.rf
  have hl : lv_has ls 1 [(0, .ref eo)] := hl
  have n_X0 : ∀ w ∈ wsX00, w ∈ wsX0_moveOn := fun _ h => List.mem_cons_of_mem _ (List.mem_append_right _ h)
  have k_41 := hts (.fieldLink RX0 41 "RidgeClaps$Reader" "start" "I") (List.mem_of_getElem? (i := 2) rfl)
  have k_9 := hts (.fieldLink RX0 9 "RidgeClaps$Reader" "bytes" "[I") (List.mem_of_getElem? (i := 4) rfl)
  have k_47 := hts (.fieldLink RX0 47 "RidgeClaps$Reader" "sort" "I") (List.mem_of_getElem? (i := 5) rfl)
  have k_44 := hts (.fieldLink RX0 44 "RidgeClaps$Reader" "end" "I") (List.mem_of_getElem? (i := 1) rfl)
  have k_15 := hts (.fieldLink RX0 15 "RidgeClaps$Reader" "length" "I") (List.mem_of_getElem? (i := 3) rfl)
  have J149 : ∀ (eSt : Int32) (eEd : Int32) (eSo : Int32), jp_X0_moveOn_149 eBy Q eSt eEd eSo → ∀ (H : Heap) (locs : List Loc), va_P E.1 vwCl (rw_17 E eo eb ec eLn eFt eCc eKy eLv eOb eOn eSt eEd eSo eBy eCo) H → va_D A (rw_17 E eo eb ec eLn eFt eCc eKy eLv eOb eOn eSt eEd eSo eBy eCo) → va_S A s.heap H locs → ∀ ls : Array Slot, lv_has ls 1 [(0, .ref eo)] → W p l e ({ frames := 1, cells := 0, slots := 0, locals := 20 } : Room) s m args below meth c H locs 0 0 QQ (F0 m 149 ls []) := by
    intro eSt eEd eSo h H locs hP hD hS ls hl
    unfold jp_X0_moveOn_149 at h
    refine lv_aload_n hx hb dX0_moveOn_149 rfl (lv_at hl 0 rfl) ?_
    refine va_get (D := E.1) (ci := 0) (v := .int eSt) (C := RX0) (T := TX0) (N := 12) hx hb hts n_X0 hown hK hP 0 rfl rfl 9 (by decide) k_41 (fun _ h9 => h9) rfl dX0_moveOn_150 ?_
    refine lv_if_le (tgt := 179) hx hb dX0_moveOn_153 (by decide) (fun c_1 => ?_) (fun c_1 => ?_)
    · have h := h.1 c_1
      exact hret _ _ _ _ (eSt, eEd, eSo) h hP hD hS dX0_moveOn_179
    · have h := h.2 c_1
      refine lv_aload_n hx hb dX0_moveOn_156 rfl (lv_at hl 0 rfl) ?_
      refine va_get (D := E.1) (ci := 0) (v := .ref eb) (C := RX0) (T := TX0) (N := 12) hx hb hts n_X0 hown hK hP 0 rfl rfl 0 (by decide) k_9 (fun _ h9 => h9) rfl dX0_moveOn_157 ?_
      refine lv_aload_n hx hb dX0_moveOn_160 rfl (lv_at hl 0 rfl) ?_
      refine va_get (D := E.1) (ci := 0) (v := .int eSt) (C := RX0) (T := TX0) (N := 12) hx hb hts n_X0 hown hK hP 0 rfl rfl 9 (by decide) k_41 (fun _ h9 => h9) rfl dX0_moveOn_161 ?_
      refine lv_iconst (v := 1) hx hb dX0_moveOn_164 (by decide) ?_
      refine lv_isub hx hb dX0_moveOn_165 ?_
      obtain ⟨o_2, h⟩ := h
      refine rc_iald hx hb hK hP 1 0 rfl rfl ((eSt - 1).toNatClampNeg) rfl o_2 dX0_moveOn_166 ?_
      have hPc := hP.sub (ws' := []) [] rfl
      have hDc := hD.sub (ws' := []) [] (by decide) rfl
      have hFc := va_free (wc := []) hD hS hA [] rfl
      refine va_calli (va_runS (As := [.int (eBy ((eSt - 1).toNatClampNeg))]) (rest := []) ⟨hx, hb, hml, hown, hts⟩ (c_X0_sortOf l E H.size (eBy ((eSt - 1).toNatClampNeg)) _ h) (va_cwS 1 hts gX0_moveOn_X0_sortOf rfl rfl rfl (by decide +kernel) ⟨Nat.le_of_ble_eq_true rfl, Nat.le_of_ble_eq_true rfl⟩) ⟨fun a U g mk q => ⟨q.1, q.2.blind⟩, fun U hU hW => ⟨rfl, by rw [hU], by rw [hU]; exact hPc, hE.call hS hFc hW hU, hDc.weaken (fun _ _ _ _ => trivial)⟩⟩ rfl rfl hl.1 rfl (lv_room (Nat.le_of_ble_eq_true rfl)) dX0_moveOn_167 ⟨Nat.zero_le _, Nat.zero_le _⟩) hS (fun q _ h => hFc q h) hFc (fun r_3 u t H1 locs ht hvm h hB hz1 hk1 hS => ?_)
      obtain ⟨hP1, hD1⟩ := hB
      rw [ht] at hP1
      obtain ⟨hP, hD⟩ := rc_foc hP hD [] [none, none, none] (by decide) rfl hk1 hP1 rfl
      generalize H1 = H at hP hS ⊢
      have hP : va_P E.1 vwCl (rw_17 E eo eb ec eLn eFt eCc eKy eLv eOb eOn eSt eEd eSo eBy eCo) H := hP
      have hD : va_D A (rw_17 E eo eb ec eLn eFt eCc eKy eLv eOb eOn eSt eEd eSo eBy eCo) := hD
      refine lv_iconst (v := 2) hx hb dX0_moveOn_170 (by decide) ?_
      refine lv_icmp_eq (tgt := 179) hx hb dX0_moveOn_171 (by decide) (fun c_4 => ?_) (fun c_4 => ?_)
      · have h := h.1 c_4
        exact hret _ _ _ _ (eSt, eEd, eSo) h hP hD hS dX0_moveOn_179
      · have h := h.2 c_4
        refine lv_aload_n hx hb dX0_moveOn_174 rfl (lv_at hl 0 rfl) ?_
        refine lv_iconst (v := 4) hx hb dX0_moveOn_175 (by decide) ?_
        refine va_put (D := E.1) (ci := 0) (v := .int 4) (ty := .int) (C := RX0) (T := TX0) (N := 12) hx hb hts n_X0 tyX0 tyX0_ok nmX0 hown hK hP hD hS 0 rfl rfl 11 (by decide) k_47 (fun _ h9 => h9) rfl (by decide +kernel) rfl rfl (Nat.le_of_ble_eq_true rfl) dX0_moveOn_176 (fun H locs hP hD hS => ?_)
        have hP : va_P E.1 vwCl (rw_17 E eo eb ec eLn eFt eCc eKy eLv eOb eOn eSt eEd 4 eBy eCo) H := hP
        have hD : va_D A (rw_17 E eo eb ec eLn eFt eCc eKy eLv eOb eOn eSt eEd 4 eBy eCo) := hD
        exact hret _ _ _ _ (eSt, eEd, 4) h hP hD hS dX0_moveOn_179
  have J106 : ∀ (n : Nat) (eSt : Int32) (eEd : Int32) (eSo : Int32), lp_X0_moveOn_106 eLn eBy Q n eSt eEd eSo → ∀ (H : Heap) (locs : List Loc), va_P E.1 vwCl (rw_17 E eo eb ec eLn eFt eCc eKy eLv eOb eOn eSt eEd eSo eBy eCo) H → va_D A (rw_17 E eo eb ec eLn eFt eCc eKy eLv eOb eOn eSt eEd eSo eBy eCo) → va_S A s.heap H locs → ∀ ls : Array Slot, lv_has ls 1 [(0, .ref eo)] → W p l e ({ frames := 1, cells := 0, slots := 0, locals := 20 } : Room) s m args below meth c H locs 0 0 QQ (F0 m 106 ls []) := by
    intro n
    induction n with
    | zero =>
      intro eSt eEd eSo h
      exact False.elim h
    | succ n ih =>
      intro eSt eEd eSo h H locs hP hD hS ls hl
      have h : lp_X0_moveOn_106F eLn eBy Q (lp_X0_moveOn_106 eLn eBy Q n) eSt eEd eSo := h
      unfold lp_X0_moveOn_106F at h
      refine lv_aload_n hx hb dX0_moveOn_106 rfl (lv_at hl 0 rfl) ?_
      refine va_get (D := E.1) (ci := 0) (v := .int eEd) (C := RX0) (T := TX0) (N := 12) hx hb hts n_X0 hown hK hP 0 rfl rfl 10 (by decide) k_44 (fun _ h9 => h9) rfl dX0_moveOn_107 ?_
      refine lv_aload_n hx hb dX0_moveOn_110 rfl (lv_at hl 0 rfl) ?_
      refine va_get (D := E.1) (ci := 0) (v := .int eLn) (C := RX0) (T := TX0) (N := 12) hx hb hts n_X0 hown hK hP 0 rfl rfl 1 (by decide) k_15 (fun _ h9 => h9) rfl dX0_moveOn_111 ?_
      refine lv_icmp_ge (tgt := 149) hx hb dX0_moveOn_114 (by decide) (fun c_5 => ?_) (fun c_5 => ?_)
      · have h := h.1 c_5
        exact J149 eSt eEd eSo h _ _ hP hD hS ls (lv_sub hl [0] rfl)
      · have h := h.2 c_5
        refine lv_aload_n hx hb dX0_moveOn_117 rfl (lv_at hl 0 rfl) ?_
        refine va_get (D := E.1) (ci := 0) (v := .ref eb) (C := RX0) (T := TX0) (N := 12) hx hb hts n_X0 hown hK hP 0 rfl rfl 0 (by decide) k_9 (fun _ h9 => h9) rfl dX0_moveOn_118 ?_
        refine lv_aload_n hx hb dX0_moveOn_121 rfl (lv_at hl 0 rfl) ?_
        refine va_get (D := E.1) (ci := 0) (v := .int eEd) (C := RX0) (T := TX0) (N := 12) hx hb hts n_X0 hown hK hP 0 rfl rfl 10 (by decide) k_44 (fun _ h9 => h9) rfl dX0_moveOn_122 ?_
        obtain ⟨o_6, h⟩ := h
        refine rc_iald hx hb hK hP 1 0 rfl rfl eEd.toNatClampNeg rfl o_6 dX0_moveOn_125 ?_
        have hPc := hP.sub (ws' := []) [] rfl
        have hDc := hD.sub (ws' := []) [] (by decide) rfl
        have hFc := va_free (wc := []) hD hS hA [] rfl
        refine va_calli (va_runS (As := [.int (eBy eEd.toNatClampNeg)]) (rest := []) ⟨hx, hb, hml, hown, hts⟩ (c_X0_sortOf l E H.size (eBy eEd.toNatClampNeg) _ h) (va_cwS 1 hts gX0_moveOn_X0_sortOf rfl rfl rfl (by decide +kernel) ⟨Nat.le_of_ble_eq_true rfl, Nat.le_of_ble_eq_true rfl⟩) ⟨fun a U g mk q => ⟨q.1, q.2.blind⟩, fun U hU hW => ⟨rfl, by rw [hU], by rw [hU]; exact hPc, hE.call hS hFc hW hU, hDc.weaken (fun _ _ _ _ => trivial)⟩⟩ rfl rfl hl.1 rfl (lv_room (Nat.le_of_ble_eq_true rfl)) dX0_moveOn_126 ⟨Nat.zero_le _, Nat.zero_le _⟩) hS (fun q _ h => hFc q h) hFc (fun r_7 u t H1 locs ht hvm h hB hz1 hk1 hS => ?_)
        obtain ⟨hP1, hD1⟩ := hB
        rw [ht] at hP1
        obtain ⟨hP, hD⟩ := rc_foc hP hD [] [none, none, none] (by decide) rfl hk1 hP1 rfl
        generalize H1 = H at hP hS ⊢
        have hP : va_P E.1 vwCl (rw_17 E eo eb ec eLn eFt eCc eKy eLv eOb eOn eSt eEd eSo eBy eCo) H := hP
        have hD : va_D A (rw_17 E eo eb ec eLn eFt eCc eKy eLv eOb eOn eSt eEd eSo eBy eCo) := hD
        refine lv_aload_n hx hb dX0_moveOn_129 rfl (lv_at hl 0 rfl) ?_
        refine va_get (D := E.1) (ci := 0) (v := .int eSo) (C := RX0) (T := TX0) (N := 12) hx hb hts n_X0 hown hK hP 0 rfl rfl 11 (by decide) k_47 (fun _ h9 => h9) rfl dX0_moveOn_130 ?_
        refine lv_icmp_ne (tgt := 149) hx hb dX0_moveOn_133 (by decide) (fun c_8 => ?_) (fun c_8 => ?_)
        · have h := h.1 c_8
          exact J149 eSt eEd eSo h _ _ hP hD hS ls (lv_sub hl [0] rfl)
        · have h := h.2 c_8
          refine lv_aload_n hx hb dX0_moveOn_136 rfl (lv_at hl 0 rfl) ?_
          refine lv_dup hx hb dX0_moveOn_137 rfl ?_
          refine va_get (D := E.1) (ci := 0) (v := .int eEd) (C := RX0) (T := TX0) (N := 12) hx hb hts n_X0 hown hK hP 0 rfl rfl 10 (by decide) k_44 (fun _ h9 => h9) rfl dX0_moveOn_138 ?_
          refine lv_iconst (v := 1) hx hb dX0_moveOn_141 (by decide) ?_
          refine lv_iadd hx hb dX0_moveOn_142 ?_
          refine va_put (D := E.1) (ci := 0) (v := .int (eEd + 1)) (ty := .int) (C := RX0) (T := TX0) (N := 12) hx hb hts n_X0 tyX0 tyX0_ok nmX0 hown hK hP hD hS 0 rfl rfl 10 (by decide) k_44 (fun _ h9 => h9) rfl (by decide +kernel) rfl rfl (Nat.le_of_ble_eq_true rfl) dX0_moveOn_143 (fun H locs hP hD hS => ?_)
          have hP : va_P E.1 vwCl (rw_17 E eo eb ec eLn eFt eCc eKy eLv eOb eOn eSt (eEd + 1) eSo eBy eCo) H := hP
          have hD : va_D A (rw_17 E eo eb ec eLn eFt eCc eKy eLv eOb eOn eSt (eEd + 1) eSo eBy eCo) := hD
          refine lv_goto (tgt := 106) hx hb dX0_moveOn_146 (by decide) ?_
          exact ih eSt (eEd + 1) eSo h _ _ hP hD hS ls (lv_sub hl [0] rfl)
  have J46 : ∀ (eSt : Int32) (eEd : Int32) (eSo : Int32), jp_X0_moveOn_46 eLn eBy Q eSt eEd eSo → ∀ (H : Heap) (locs : List Loc), va_P E.1 vwCl (rw_17 E eo eb ec eLn eFt eCc eKy eLv eOb eOn eSt eEd eSo eBy eCo) H → va_D A (rw_17 E eo eb ec eLn eFt eCc eKy eLv eOb eOn eSt eEd eSo eBy eCo) → va_S A s.heap H locs → ∀ ls : Array Slot, lv_has ls 1 [(0, .ref eo)] → W p l e ({ frames := 1, cells := 0, slots := 0, locals := 20 } : Room) s m args below meth c H locs 0 0 QQ (F0 m 46 ls []) := by
    intro eSt eEd eSo h H locs hP hD hS ls hl
    unfold jp_X0_moveOn_46 at h
    refine lv_aload_n hx hb dX0_moveOn_46 rfl (lv_at hl 0 rfl) ?_
    refine lv_aload_n hx hb dX0_moveOn_47 rfl (lv_at hl 0 rfl) ?_
    refine va_get (D := E.1) (ci := 0) (v := .int eSt) (C := RX0) (T := TX0) (N := 12) hx hb hts n_X0 hown hK hP 0 rfl rfl 9 (by decide) k_41 (fun _ h9 => h9) rfl dX0_moveOn_48 ?_
    refine va_put (D := E.1) (ci := 0) (v := .int eSt) (ty := .int) (C := RX0) (T := TX0) (N := 12) hx hb hts n_X0 tyX0 tyX0_ok nmX0 hown hK hP hD hS 0 rfl rfl 10 (by decide) k_44 (fun _ h9 => h9) rfl (by decide +kernel) rfl rfl (Nat.le_of_ble_eq_true rfl) dX0_moveOn_51 (fun H locs hP hD hS => ?_)
    have hP : va_P E.1 vwCl (rw_17 E eo eb ec eLn eFt eCc eKy eLv eOb eOn eSt eSt eSo eBy eCo) H := hP
    have hD : va_D A (rw_17 E eo eb ec eLn eFt eCc eKy eLv eOb eOn eSt eSt eSo eBy eCo) := hD
    refine lv_aload_n hx hb dX0_moveOn_54 rfl (lv_at hl 0 rfl) ?_
    refine va_get (D := E.1) (ci := 0) (v := .int eSt) (C := RX0) (T := TX0) (N := 12) hx hb hts n_X0 hown hK hP 0 rfl rfl 9 (by decide) k_41 (fun _ h9 => h9) rfl dX0_moveOn_55 ?_
    refine lv_aload_n hx hb dX0_moveOn_58 rfl (lv_at hl 0 rfl) ?_
    refine va_get (D := E.1) (ci := 0) (v := .int eLn) (C := RX0) (T := TX0) (N := 12) hx hb hts n_X0 hown hK hP 0 rfl rfl 1 (by decide) k_15 (fun _ h9 => h9) rfl dX0_moveOn_59 ?_
    refine lv_icmp_lt (tgt := 71) hx hb dX0_moveOn_62 (by decide) (fun c_9 => ?_) (fun c_9 => ?_)
    · have h := h.1 c_9
      refine lv_aload_n hx hb dX0_moveOn_71 rfl (lv_at hl 0 rfl) ?_
      refine lv_dup hx hb dX0_moveOn_72 rfl ?_
      refine va_get (D := E.1) (ci := 0) (v := .int eSt) (C := RX0) (T := TX0) (N := 12) hx hb hts n_X0 hown hK hP 0 rfl rfl 10 (by decide) k_44 (fun _ h9 => h9) rfl dX0_moveOn_73 ?_
      refine lv_iconst (v := 1) hx hb dX0_moveOn_76 (by decide) ?_
      refine lv_iadd hx hb dX0_moveOn_77 ?_
      refine va_put (D := E.1) (ci := 0) (v := .int (eSt + 1)) (ty := .int) (C := RX0) (T := TX0) (N := 12) hx hb hts n_X0 tyX0 tyX0_ok nmX0 hown hK hP hD hS 0 rfl rfl 10 (by decide) k_44 (fun _ h9 => h9) rfl (by decide +kernel) rfl rfl (Nat.le_of_ble_eq_true rfl) dX0_moveOn_78 (fun H locs hP hD hS => ?_)
      have hP : va_P E.1 vwCl (rw_17 E eo eb ec eLn eFt eCc eKy eLv eOb eOn eSt (eSt + 1) eSo eBy eCo) H := hP
      have hD : va_D A (rw_17 E eo eb ec eLn eFt eCc eKy eLv eOb eOn eSt (eSt + 1) eSo eBy eCo) := hD
      refine lv_aload_n hx hb dX0_moveOn_81 rfl (lv_at hl 0 rfl) ?_
      refine lv_aload_n hx hb dX0_moveOn_82 rfl (lv_at hl 0 rfl) ?_
      refine va_get (D := E.1) (ci := 0) (v := .ref eb) (C := RX0) (T := TX0) (N := 12) hx hb hts n_X0 hown hK hP 0 rfl rfl 0 (by decide) k_9 (fun _ h9 => h9) rfl dX0_moveOn_83 ?_
      refine lv_aload_n hx hb dX0_moveOn_86 rfl (lv_at hl 0 rfl) ?_
      refine va_get (D := E.1) (ci := 0) (v := .int eSt) (C := RX0) (T := TX0) (N := 12) hx hb hts n_X0 hown hK hP 0 rfl rfl 9 (by decide) k_41 (fun _ h9 => h9) rfl dX0_moveOn_87 ?_
      obtain ⟨o_10, h⟩ := h
      refine rc_iald hx hb hK hP 1 0 rfl rfl eSt.toNatClampNeg rfl o_10 dX0_moveOn_90 ?_
      have hPc := hP.sub (ws' := []) [] rfl
      have hDc := hD.sub (ws' := []) [] (by decide) rfl
      have hFc := va_free (wc := []) hD hS hA [] rfl
      refine va_calli (va_runS (As := [.int (eBy eSt.toNatClampNeg)]) (rest := [.ref eo]) ⟨hx, hb, hml, hown, hts⟩ (c_X0_sortOf l E H.size (eBy eSt.toNatClampNeg) _ h) (va_cwS 1 hts gX0_moveOn_X0_sortOf rfl rfl rfl (by decide +kernel) ⟨Nat.le_of_ble_eq_true rfl, Nat.le_of_ble_eq_true rfl⟩) ⟨fun a U g mk q => ⟨q.1, q.2.blind⟩, fun U hU hW => ⟨rfl, by rw [hU], by rw [hU]; exact hPc, hE.call hS hFc hW hU, hDc.weaken (fun _ _ _ _ => trivial)⟩⟩ rfl rfl hl.1 rfl (lv_room (Nat.le_of_ble_eq_true rfl)) dX0_moveOn_91 ⟨Nat.zero_le _, Nat.zero_le _⟩) hS (fun q _ h => hFc q h) hFc (fun r_11 u t H1 locs ht hvm h hB hz1 hk1 hS => ?_)
      obtain ⟨hP1, hD1⟩ := hB
      rw [ht] at hP1
      obtain ⟨hP, hD⟩ := rc_foc hP hD [] [none, none, none] (by decide) rfl hk1 hP1 rfl
      generalize H1 = H at hP hS ⊢
      have hP : va_P E.1 vwCl (rw_17 E eo eb ec eLn eFt eCc eKy eLv eOb eOn eSt (eSt + 1) eSo eBy eCo) H := hP
      have hD : va_D A (rw_17 E eo eb ec eLn eFt eCc eKy eLv eOb eOn eSt (eSt + 1) eSo eBy eCo) := hD
      refine va_put (D := E.1) (ci := 0) (v := .int r_11) (ty := .int) (C := RX0) (T := TX0) (N := 12) hx hb hts n_X0 tyX0 tyX0_ok nmX0 hown hK hP hD hS 0 rfl rfl 11 (by decide) k_47 (fun _ h9 => h9) rfl (by decide +kernel) rfl rfl (Nat.le_of_ble_eq_true rfl) dX0_moveOn_94 (fun H locs hP hD hS => ?_)
      have hP : va_P E.1 vwCl (rw_17 E eo eb ec eLn eFt eCc eKy eLv eOb eOn eSt (eSt + 1) r_11 eBy eCo) H := hP
      have hD : va_D A (rw_17 E eo eb ec eLn eFt eCc eKy eLv eOb eOn eSt (eSt + 1) r_11 eBy eCo) := hD
      refine lv_aload_n hx hb dX0_moveOn_97 rfl (lv_at hl 0 rfl) ?_
      refine va_get (D := E.1) (ci := 0) (v := .int r_11) (C := RX0) (T := TX0) (N := 12) hx hb hts n_X0 hown hK hP 0 rfl rfl 11 (by decide) k_47 (fun _ h9 => h9) rfl dX0_moveOn_98 ?_
      refine lv_iconst (v := 2) hx hb dX0_moveOn_101 (by decide) ?_
      refine lv_icmp_ne (tgt := 106) hx hb dX0_moveOn_102 (by decide) (fun c_12 => ?_) (fun c_12 => ?_)
      · have h := h.1 c_12
        obtain ⟨n, h⟩ := h
        exact J106 n eSt (eSt + 1) r_11 h _ _ hP hD hS ls (lv_sub hl [0] rfl)
      · have h := h.2 c_12
        exact hret _ _ _ _ (eSt, eSt + 1, r_11) h hP hD hS dX0_moveOn_105
    · have h := h.2 c_9
      refine lv_aload_n hx hb dX0_moveOn_65 rfl (lv_at hl 0 rfl) ?_
      refine lv_iconst (v := 3) hx hb dX0_moveOn_66 (by decide) ?_
      refine va_put (D := E.1) (ci := 0) (v := .int 3) (ty := .int) (C := RX0) (T := TX0) (N := 12) hx hb hts n_X0 tyX0 tyX0_ok nmX0 hown hK hP hD hS 0 rfl rfl 11 (by decide) k_47 (fun _ h9 => h9) rfl (by decide +kernel) rfl rfl (Nat.le_of_ble_eq_true rfl) dX0_moveOn_67 (fun H locs hP hD hS => ?_)
      have hP : va_P E.1 vwCl (rw_17 E eo eb ec eLn eFt eCc eKy eLv eOb eOn eSt eSt 3 eBy eCo) H := hP
      have hD : va_D A (rw_17 E eo eb ec eLn eFt eCc eKy eLv eOb eOn eSt eSt 3 eBy eCo) := hD
      exact hret _ _ _ _ (eSt, eSt, 3) h hP hD hS dX0_moveOn_70
  have J8 : ∀ (n : Nat) (eSt : Int32) (eEd : Int32) (eSo : Int32), lp_X0_moveOn_8 eLn eBy Q n eSt eEd eSo → ∀ (H : Heap) (locs : List Loc), va_P E.1 vwCl (rw_17 E eo eb ec eLn eFt eCc eKy eLv eOb eOn eSt eEd eSo eBy eCo) H → va_D A (rw_17 E eo eb ec eLn eFt eCc eKy eLv eOb eOn eSt eEd eSo eBy eCo) → va_S A s.heap H locs → ∀ ls : Array Slot, lv_has ls 1 [(0, .ref eo)] → W p l e ({ frames := 1, cells := 0, slots := 0, locals := 20 } : Room) s m args below meth c H locs 0 0 QQ (F0 m 8 ls []) := by
    intro n
    induction n with
    | zero =>
      intro eSt eEd eSo h
      exact False.elim h
    | succ n ih =>
      intro eSt eEd eSo h H locs hP hD hS ls hl
      have h : lp_X0_moveOn_8F eLn eBy Q (lp_X0_moveOn_8 eLn eBy Q n) eSt eEd eSo := h
      unfold lp_X0_moveOn_8F at h
      refine lv_aload_n hx hb dX0_moveOn_8 rfl (lv_at hl 0 rfl) ?_
      refine va_get (D := E.1) (ci := 0) (v := .int eSt) (C := RX0) (T := TX0) (N := 12) hx hb hts n_X0 hown hK hP 0 rfl rfl 9 (by decide) k_41 (fun _ h9 => h9) rfl dX0_moveOn_9 ?_
      refine lv_aload_n hx hb dX0_moveOn_12 rfl (lv_at hl 0 rfl) ?_
      refine va_get (D := E.1) (ci := 0) (v := .int eLn) (C := RX0) (T := TX0) (N := 12) hx hb hts n_X0 hown hK hP 0 rfl rfl 1 (by decide) k_15 (fun _ h9 => h9) rfl dX0_moveOn_13 ?_
      refine lv_icmp_ge (tgt := 46) hx hb dX0_moveOn_16 (by decide) (fun c_13 => ?_) (fun c_13 => ?_)
      · have h := h.1 c_13
        exact J46 eSt eEd eSo h _ _ hP hD hS ls (lv_sub hl [0] rfl)
      · have h := h.2 c_13
        refine lv_aload_n hx hb dX0_moveOn_19 rfl (lv_at hl 0 rfl) ?_
        refine va_get (D := E.1) (ci := 0) (v := .ref eb) (C := RX0) (T := TX0) (N := 12) hx hb hts n_X0 hown hK hP 0 rfl rfl 0 (by decide) k_9 (fun _ h9 => h9) rfl dX0_moveOn_20 ?_
        refine lv_aload_n hx hb dX0_moveOn_23 rfl (lv_at hl 0 rfl) ?_
        refine va_get (D := E.1) (ci := 0) (v := .int eSt) (C := RX0) (T := TX0) (N := 12) hx hb hts n_X0 hown hK hP 0 rfl rfl 9 (by decide) k_41 (fun _ h9 => h9) rfl dX0_moveOn_24 ?_
        obtain ⟨o_14, h⟩ := h
        refine rc_iald hx hb hK hP 1 0 rfl rfl eSt.toNatClampNeg rfl o_14 dX0_moveOn_27 ?_
        refine lv_bipush (v := 32) hx hb dX0_moveOn_28 (by decide) ?_
        refine lv_icmp_ne (tgt := 46) hx hb dX0_moveOn_30 (by decide) (fun c_15 => ?_) (fun c_15 => ?_)
        · have h := h.1 c_15
          exact J46 eSt eEd eSo h _ _ hP hD hS ls (lv_sub hl [0] rfl)
        · have h := h.2 c_15
          refine lv_aload_n hx hb dX0_moveOn_33 rfl (lv_at hl 0 rfl) ?_
          refine lv_dup hx hb dX0_moveOn_34 rfl ?_
          refine va_get (D := E.1) (ci := 0) (v := .int eSt) (C := RX0) (T := TX0) (N := 12) hx hb hts n_X0 hown hK hP 0 rfl rfl 9 (by decide) k_41 (fun _ h9 => h9) rfl dX0_moveOn_35 ?_
          refine lv_iconst (v := 1) hx hb dX0_moveOn_38 (by decide) ?_
          refine lv_iadd hx hb dX0_moveOn_39 ?_
          refine va_put (D := E.1) (ci := 0) (v := .int (eSt + 1)) (ty := .int) (C := RX0) (T := TX0) (N := 12) hx hb hts n_X0 tyX0 tyX0_ok nmX0 hown hK hP hD hS 0 rfl rfl 9 (by decide) k_41 (fun _ h9 => h9) rfl (by decide +kernel) rfl rfl (Nat.le_of_ble_eq_true rfl) dX0_moveOn_40 (fun H locs hP hD hS => ?_)
          have hP : va_P E.1 vwCl (rw_17 E eo eb ec eLn eFt eCc eKy eLv eOb eOn (eSt + 1) eEd eSo eBy eCo) H := hP
          have hD : va_D A (rw_17 E eo eb ec eLn eFt eCc eKy eLv eOb eOn (eSt + 1) eEd eSo eBy eCo) := hD
          refine lv_goto (tgt := 8) hx hb dX0_moveOn_43 (by decide) ?_
          exact ih (eSt + 1) eEd eSo h _ _ hP hD hS ls (lv_sub hl [0] rfl)
  unfold wp_X0_moveOn at h
  obtain ⟨H, hH⟩ : ∃ H, H = s.heap := ⟨_, rfl⟩
  obtain ⟨locs, hlocs⟩ : ∃ locs : List Loc, locs = [] := ⟨_, rfl⟩
  have hP : va_P E.1 vwCl (rw_17 E eo eb ec eLn eFt eCc eKy eLv eOb eOn eSt eEd eSo eBy eCo) H := by rw [hH]; exact hP
  have hS : va_S A s.heap H locs := by rw [hH, hlocs]; exact hS
  suffices hgo : W p l e ({ frames := 1, cells := 0, slots := 0, locals := 20 } : Room) s m args below meth c H locs 0 0 QQ (F0 m 0 ls []) from by rw [hH, hlocs] at hgo; exact hgo
  refine lv_aload_n hx hb dX0_moveOn_0 rfl (lv_at hl 0 rfl) ?_
  refine lv_aload_n hx hb dX0_moveOn_1 rfl (lv_at hl 0 rfl) ?_
  refine va_get (D := E.1) (ci := 0) (v := .int eEd) (C := RX0) (T := TX0) (N := 12) hx hb hts n_X0 hown hK hP 0 rfl rfl 10 (by decide) k_44 (fun _ h9 => h9) rfl dX0_moveOn_2 ?_
  refine va_put (D := E.1) (ci := 0) (v := .int eEd) (ty := .int) (C := RX0) (T := TX0) (N := 12) hx hb hts n_X0 tyX0 tyX0_ok nmX0 hown hK hP hD hS 0 rfl rfl 9 (by decide) k_41 (fun _ h9 => h9) rfl (by decide +kernel) rfl rfl (Nat.le_of_ble_eq_true rfl) dX0_moveOn_5 (fun H locs hP hD hS => ?_)
  have hP : va_P E.1 vwCl (rw_17 E eo eb ec eLn eFt eCc eKy eLv eOb eOn eEd eEd eSo eBy eCo) H := hP
  have hD : va_D A (rw_17 E eo eb ec eLn eFt eCc eKy eLv eOb eOn eEd eEd eSo eBy eCo) := hD
  obtain ⟨n, h⟩ := h
  exact J8 n eEd eEd eSo h _ _ hP hD hS ls (lv_sub hl [0] rfl)
def wp_X0_signHere (eSt : Int32) (eSo : Int32) (eBy : Nat → Int32) (Q : Int32 → Prop) : Prop :=
  ((¬ eSo = 2 → Q (-1000000005)) ∧ (eSo = 2 → (vp_in eSt 96 ∧ Q (eBy eSt.toNatClampNeg))))
set_option maxHeartbeats 4000000 in
set_option maxRecDepth 100000 in
theorem c_X0_signHere (l : Launch) (E : gE) (eo eb ec : Nat) (sz : Nat) (eLn : Int32) (eFt : Int32) (eCc : Int32) (eKy : Int32) (eLv : Int32) (eOb : Int32) (eOn : Int32) (eSt : Int32) (eEd : Int32) (eSo : Int32) (eBy : Nat → Int32) (eCo : Nat → Int32)   (Q : Int32 → Prop) (h : wp_X0_signHere eSt eSo eBy Q) : Met l yX0_signHere wsX0_signHere ({ frames := 0, cells := 0, slots := 0, locals := 0 } : Room) (va_Pc [.ref eo] (rc_B E (rw_17 E eo eb ec eLn eFt eCc eKy eLv eOb eOn eSt eEd eSo eBy eCo) sz)) (va_Qi (S := Unit) (fun (r : Int32) (u : Unit) => Q r) (fun u t => rc_C E (va_A (rw_17 E eo eb ec eLn eFt eCc eKy eLv eOb eOn eSt eEd eSo eBy eCo) sz) (rw_17 E eo eb ec eLn eFt eCc eKy eLv eOb eOn eSt eEd eSo eBy eCo) t) (va_A (rw_17 E eo eb ec eLn eFt eCc eKy eLv eOb eOn eSt eEd eSo eBy eCo) sz)) 0 0 (va_A (rw_17 E eo eb ec eLn eFt eCc eKy eLv eOb eOn eSt eEd eSo eBy eCo) sz) := by
  refine rc_enterI (cc := cX0_signHere) (maxL := 1) (by decide) rfl (Nat.le_of_ble_eq_true rfl) ?_
  intro p e s m args below meth c QQ A hx hb hml hown hts hmn hE hP hD hA hret ls hl
  have hown : s.vm.findClass RX0 = some m.cls := hown
  have hK := hE.1
  have hS : va_S A s.heap s.heap [] := va_S.rf
  have hl : lv_has ls 1 [(0, .ref eo)] := hl
  have n_X0 : ∀ w ∈ wsX00, w ∈ wsX0_signHere := fun _ h => List.mem_cons_of_mem _ (List.mem_append_right _ h)
  have k_47 := hts (.fieldLink RX0 47 "RidgeClaps$Reader" "sort" "I") (List.mem_of_getElem? (i := 1) rfl)
  have k_19 := hts (.constant RX0 19 (-1000000005)) (List.mem_of_getElem? (i := 4) rfl)
  have k_9 := hts (.fieldLink RX0 9 "RidgeClaps$Reader" "bytes" "[I") (List.mem_of_getElem? (i := 2) rfl)
  have k_41 := hts (.fieldLink RX0 41 "RidgeClaps$Reader" "start" "I") (List.mem_of_getElem? (i := 3) rfl)
  unfold wp_X0_signHere at h
  obtain ⟨H, hH⟩ : ∃ H, H = s.heap := ⟨_, rfl⟩
  obtain ⟨locs, hlocs⟩ : ∃ locs : List Loc, locs = [] := ⟨_, rfl⟩
  have hP : va_P E.1 vwCl (rw_17 E eo eb ec eLn eFt eCc eKy eLv eOb eOn eSt eEd eSo eBy eCo) H := by rw [hH]; exact hP
  have hS : va_S A s.heap H locs := by rw [hH, hlocs]; exact hS
  suffices hgo : W p l e ({ frames := 0, cells := 0, slots := 0, locals := 0 } : Room) s m args below meth c H locs 0 0 QQ (F0 m 0 ls []) from by rw [hH, hlocs] at hgo; exact hgo
  refine lv_aload_n hx hb dX0_signHere_0 rfl (lv_at hl 0 rfl) ?_
  refine va_get (D := E.1) (ci := 0) (v := .int eSo) (C := RX0) (T := TX0) (N := 12) hx hb hts n_X0 hown hK hP 0 rfl rfl 11 (by decide) k_47 (fun _ h9 => h9) rfl dX0_signHere_1 ?_
  refine lv_iconst (v := 2) hx hb dX0_signHere_4 (by decide) ?_
  refine lv_icmp_ne (tgt := 20) hx hb dX0_signHere_5 (by decide) (fun c_1 => ?_) (fun c_1 => ?_)
  · have h := h.1 c_1
    refine lv_ldc hx hb hown k_19 dX0_signHere_20 ?_
    exact hret _ _ _ _ (-1000000005) () rfl h hP hD hS dX0_signHere_22
  · have h := h.2 c_1
    refine lv_aload_n hx hb dX0_signHere_8 rfl (lv_at hl 0 rfl) ?_
    refine va_get (D := E.1) (ci := 0) (v := .ref eb) (C := RX0) (T := TX0) (N := 12) hx hb hts n_X0 hown hK hP 0 rfl rfl 0 (by decide) k_9 (fun _ h9 => h9) rfl dX0_signHere_9 ?_
    refine lv_aload_n hx hb dX0_signHere_12 rfl (lv_at hl 0 rfl) ?_
    refine va_get (D := E.1) (ci := 0) (v := .int eSt) (C := RX0) (T := TX0) (N := 12) hx hb hts n_X0 hown hK hP 0 rfl rfl 9 (by decide) k_41 (fun _ h9 => h9) rfl dX0_signHere_13 ?_
    obtain ⟨o_2, h⟩ := h
    refine rc_iald hx hb hK hP 1 0 rfl rfl eSt.toNatClampNeg rfl o_2 dX0_signHere_16 ?_
    refine lv_goto (tgt := 22) hx hb dX0_signHere_17 (by decide) ?_
    exact hret _ _ _ _ (eBy eSt.toNatClampNeg) () rfl h hP hD hS dX0_signHere_22
def lp_X0_numberHere_23F (eEd : Int32) (eBy : Nat → Int32)  (Q : Int32 → Prop) (R : Int32 → Int32 → Prop) (x1 : Int32) (x2 : Int32) : Prop :=
  ((eEd ≤ x2 → Q x1) ∧ (¬ (eEd ≤ x2) → (vp_in x2 96 ∧ R (((x1 * 10) + (eBy x2.toNatClampNeg)) - 48) (x2 + 1))))
def lp_X0_numberHere_23 (eEd : Int32) (eBy : Nat → Int32)  (Q : Int32 → Prop) (n : Nat) : Int32 → Int32 → Prop :=
  Nat.rec (motive := fun _ => Int32 → Int32 → Prop) (fun _ _ => False) (fun _ r => lp_X0_numberHere_23F eEd eBy Q r) n
def wp_X0_numberHere (eSt : Int32) (eEd : Int32) (eBy : Nat → Int32) (Q : Int32 → Prop) : Prop :=
  (((eEd - eSt) ≤ 4 → (∃ n : Nat, lp_X0_numberHere_23 eEd eBy Q n 0 eSt)) ∧ (¬ ((eEd - eSt) ≤ 4) → Q (-1000000005)))
set_option maxHeartbeats 4000000 in
set_option maxRecDepth 100000 in
theorem c_X0_numberHere (l : Launch) (E : gE) (eo eb ec : Nat) (sz : Nat) (eLn : Int32) (eFt : Int32) (eCc : Int32) (eKy : Int32) (eLv : Int32) (eOb : Int32) (eOn : Int32) (eSt : Int32) (eEd : Int32) (eSo : Int32) (eBy : Nat → Int32) (eCo : Nat → Int32)   (Q : Int32 → Prop) (h : wp_X0_numberHere eSt eEd eBy Q) : Met l yX0_numberHere wsX0_numberHere ({ frames := 0, cells := 0, slots := 0, locals := 0 } : Room) (va_Pc [.ref eo] (rc_B E (rw_17 E eo eb ec eLn eFt eCc eKy eLv eOb eOn eSt eEd eSo eBy eCo) sz)) (va_Qi (S := Unit) (fun (r : Int32) (u : Unit) => Q r) (fun u t => rc_C E (va_A (rw_17 E eo eb ec eLn eFt eCc eKy eLv eOb eOn eSt eEd eSo eBy eCo) sz) (rw_17 E eo eb ec eLn eFt eCc eKy eLv eOb eOn eSt eEd eSo eBy eCo) t) (va_A (rw_17 E eo eb ec eLn eFt eCc eKy eLv eOb eOn eSt eEd eSo eBy eCo) sz)) 0 0 (va_A (rw_17 E eo eb ec eLn eFt eCc eKy eLv eOb eOn eSt eEd eSo eBy eCo) sz) := by
  refine rc_enterI (cc := cX0_numberHere) (maxL := 3) (by decide) rfl (Nat.le_of_ble_eq_true rfl) ?_
  intro p e s m args below meth c QQ A hx hb hml hown hts hmn hE hP hD hA hret ls hl
  have hown : s.vm.findClass RX0 = some m.cls := hown
  have hK := hE.1
  have hS : va_S A s.heap s.heap [] := va_S.rf
  have hl : lv_has ls 3 [(0, .ref eo)] := hl
  have n_X0 : ∀ w ∈ wsX00, w ∈ wsX0_numberHere := fun _ h => List.mem_cons_of_mem _ (List.mem_append_right _ h)
  have k_44 := hts (.fieldLink RX0 44 "RidgeClaps$Reader" "end" "I") (List.mem_of_getElem? (i := 1) rfl)
  have k_9 := hts (.fieldLink RX0 9 "RidgeClaps$Reader" "bytes" "[I") (List.mem_of_getElem? (i := 4) rfl)
  have k_41 := hts (.fieldLink RX0 41 "RidgeClaps$Reader" "start" "I") (List.mem_of_getElem? (i := 2) rfl)
  have k_19 := hts (.constant RX0 19 (-1000000005)) (List.mem_of_getElem? (i := 3) rfl)
  have J23 : ∀ (n : Nat) (x1 : Int32) (x2 : Int32), lp_X0_numberHere_23 eEd eBy Q n x1 x2 → ∀ (H : Heap) (locs : List Loc), va_P E.1 vwCl (rw_17 E eo eb ec eLn eFt eCc eKy eLv eOb eOn eSt eEd eSo eBy eCo) H → va_D A (rw_17 E eo eb ec eLn eFt eCc eKy eLv eOb eOn eSt eEd eSo eBy eCo) → va_S A s.heap H locs → ∀ ls : Array Slot, lv_has ls 3 [(0, .ref eo), (1, .int x1), (2, .int x2)] → W p l e ({ frames := 0, cells := 0, slots := 0, locals := 0 } : Room) s m args below meth c H locs 0 0 QQ (F0 m 23 ls []) := by
    intro n
    induction n with
    | zero =>
      intro x1 x2 h
      exact False.elim h
    | succ n ih =>
      intro x1 x2 h H locs hP hD hS ls hl
      have h : lp_X0_numberHere_23F eEd eBy Q (lp_X0_numberHere_23 eEd eBy Q n) x1 x2 := h
      unfold lp_X0_numberHere_23F at h
      refine lv_iload_n hx hb dX0_numberHere_23 rfl (lv_at hl 2 rfl) ?_
      refine lv_aload_n hx hb dX0_numberHere_24 rfl (lv_at hl 0 rfl) ?_
      refine va_get (D := E.1) (ci := 0) (v := .int eEd) (C := RX0) (T := TX0) (N := 12) hx hb hts n_X0 hown hK hP 0 rfl rfl 10 (by decide) k_44 (fun _ h9 => h9) rfl dX0_numberHere_25 ?_
      refine lv_icmp_ge (tgt := 52) hx hb dX0_numberHere_28 (by decide) (fun c_1 => ?_) (fun c_1 => ?_)
      · have h := h.1 c_1
        refine lv_iload_n hx hb dX0_numberHere_52 rfl (lv_at hl 1 rfl) ?_
        exact hret _ _ _ _ x1 () rfl h hP hD hS dX0_numberHere_53
      · have h := h.2 c_1
        refine lv_iload_n hx hb dX0_numberHere_31 rfl (lv_at hl 1 rfl) ?_
        refine lv_bipush (v := 10) hx hb dX0_numberHere_32 (by decide) ?_
        refine lv_imul hx hb dX0_numberHere_34 ?_
        refine lv_aload_n hx hb dX0_numberHere_35 rfl (lv_at hl 0 rfl) ?_
        refine va_get (D := E.1) (ci := 0) (v := .ref eb) (C := RX0) (T := TX0) (N := 12) hx hb hts n_X0 hown hK hP 0 rfl rfl 0 (by decide) k_9 (fun _ h9 => h9) rfl dX0_numberHere_36 ?_
        refine lv_iload_n hx hb dX0_numberHere_39 rfl (lv_at hl 2 rfl) ?_
        obtain ⟨o_2, h⟩ := h
        refine rc_iald hx hb hK hP 1 0 rfl rfl x2.toNatClampNeg rfl o_2 dX0_numberHere_40 ?_
        refine lv_iadd hx hb dX0_numberHere_41 ?_
        refine lv_bipush (v := 48) hx hb dX0_numberHere_42 (by decide) ?_
        refine lv_isub hx hb dX0_numberHere_44 ?_
        refine lv_istore_n (lv' := [(1, .int (((x1 * 10) + (eBy x2.toNatClampNeg)) - 48)), (0, .ref eo), (2, .int x2)]) hx hb dX0_numberHere_45 rfl hl (by decide) rfl (fun ls hl => ?_)
        refine lv_iinc (v := x2 + 1) (lv' := [(2, .int (x2 + 1)), (1, .int (((x1 * 10) + (eBy x2.toNatClampNeg)) - 48)), (0, .ref eo)]) hx hb dX0_numberHere_46 hl (k := 2) rfl (by rfl) (by decide) rfl (fun ls hl => ?_)
        refine lv_goto (tgt := 23) hx hb dX0_numberHere_49 (by decide) ?_
        exact ih (((x1 * 10) + (eBy x2.toNatClampNeg)) - 48) (x2 + 1) h _ _ hP hD hS ls (lv_sub hl [2, 1, 0] rfl)
  unfold wp_X0_numberHere at h
  obtain ⟨H, hH⟩ : ∃ H, H = s.heap := ⟨_, rfl⟩
  obtain ⟨locs, hlocs⟩ : ∃ locs : List Loc, locs = [] := ⟨_, rfl⟩
  have hP : va_P E.1 vwCl (rw_17 E eo eb ec eLn eFt eCc eKy eLv eOb eOn eSt eEd eSo eBy eCo) H := by rw [hH]; exact hP
  have hS : va_S A s.heap H locs := by rw [hH, hlocs]; exact hS
  suffices hgo : W p l e ({ frames := 0, cells := 0, slots := 0, locals := 0 } : Room) s m args below meth c H locs 0 0 QQ (F0 m 0 ls []) from by rw [hH, hlocs] at hgo; exact hgo
  refine lv_aload_n hx hb dX0_numberHere_0 rfl (lv_at hl 0 rfl) ?_
  refine va_get (D := E.1) (ci := 0) (v := .int eEd) (C := RX0) (T := TX0) (N := 12) hx hb hts n_X0 hown hK hP 0 rfl rfl 10 (by decide) k_44 (fun _ h9 => h9) rfl dX0_numberHere_1 ?_
  refine lv_aload_n hx hb dX0_numberHere_4 rfl (lv_at hl 0 rfl) ?_
  refine va_get (D := E.1) (ci := 0) (v := .int eSt) (C := RX0) (T := TX0) (N := 12) hx hb hts n_X0 hown hK hP 0 rfl rfl 9 (by decide) k_41 (fun _ h9 => h9) rfl dX0_numberHere_5 ?_
  refine lv_isub hx hb dX0_numberHere_8 ?_
  refine lv_iconst (v := 4) hx hb dX0_numberHere_9 (by decide) ?_
  refine lv_icmp_le (tgt := 16) hx hb dX0_numberHere_10 (by decide) (fun c_3 => ?_) (fun c_3 => ?_)
  · have h := h.1 c_3
    refine lv_iconst (v := 0) hx hb dX0_numberHere_16 (by decide) ?_
    refine lv_istore_n (lv' := [(1, .int 0), (0, .ref eo)]) hx hb dX0_numberHere_17 rfl hl (by decide) rfl (fun ls hl => ?_)
    refine lv_aload_n hx hb dX0_numberHere_18 rfl (lv_at hl 1 rfl) ?_
    refine va_get (D := E.1) (ci := 0) (v := .int eSt) (C := RX0) (T := TX0) (N := 12) hx hb hts n_X0 hown hK hP 0 rfl rfl 9 (by decide) k_41 (fun _ h9 => h9) rfl dX0_numberHere_19 ?_
    refine lv_istore_n (lv' := [(2, .int eSt), (1, .int 0), (0, .ref eo)]) hx hb dX0_numberHere_22 rfl hl (by decide) rfl (fun ls hl => ?_)
    obtain ⟨n, h⟩ := h
    exact J23 n 0 eSt h _ _ hP hD hS ls (lv_sub hl [2, 1, 0] rfl)
  · have h := h.2 c_3
    refine lv_ldc hx hb hown k_19 dX0_numberHere_13 ?_
    exact hret _ _ _ _ (-1000000005) () rfl h hP hD hS dX0_numberHere_15
def lp_X0_isWord_27F (eSt : Int32) (eBy : Nat → Int32) (wj : Nat)  (Q : Int32 → Prop) (R : Int32 → Prop) (x2 : Int32) : Prop :=
  wp_J0_length_8abf5 wj (fun (r_1 : Int32) => ((r_1 ≤ x2 → Q 1) ∧ (¬ (r_1 ≤ x2) → (vp_in (eSt + x2) 96 ∧ wp_J0_charAt_5068e x2 wj (fun (r_4 : Int32) => (((eBy ((eSt + x2).toNatClampNeg)) = r_4 → R (x2 + 1)) ∧ (¬ ((eBy ((eSt + x2).toNatClampNeg)) = r_4) → Q 0)))))))
def lp_X0_isWord_27 (eSt : Int32) (eBy : Nat → Int32) (wj : Nat)  (Q : Int32 → Prop) (n : Nat) : Int32 → Prop :=
  Nat.rec (motive := fun _ => Int32 → Prop) (fun _ => False) (fun _ r => lp_X0_isWord_27F eSt eBy wj Q r) n
def wp_X0_isWord (eSt : Int32) (eEd : Int32) (eSo : Int32) (eBy : Nat → Int32) (wj : Nat) (Q : Int32 → Prop) : Prop :=
  ((¬ eSo = 0 → Q 0) ∧ (eSo = 0 → wp_J0_length_8abf5 wj (fun (r_7 : Int32) => (((eEd - eSt) = r_7 → (∃ n : Nat, lp_X0_isWord_27 eSt eBy wj Q n 0)) ∧ (¬ ((eEd - eSt) = r_7) → Q 0)))))
set_option maxHeartbeats 4000000 in
set_option maxRecDepth 100000 in
theorem c_X0_isWord (l : Launch) (E : gE) (eo eb ec : Nat) (sz : Nat) (eLn : Int32) (eFt : Int32) (eCc : Int32) (eKy : Int32) (eLv : Int32) (eOb : Int32) (eOn : Int32) (eSt : Int32) (eEd : Int32) (eSo : Int32) (eBy : Nat → Int32) (eCo : Nat → Int32)  (wj : Nat) (hwj : wj < 6) (Q : Int32 → Prop) (h : wp_X0_isWord eSt eEd eSo eBy wj Q) : Met l yX0_isWord wsX0_isWord ({ frames := 4, cells := 0, slots := 0, locals := 85 } : Room) (va_Pc [.ref eo, .ref (E.2.2.2.1 wj)] (rc_B E (rw_17 E eo eb ec eLn eFt eCc eKy eLv eOb eOn eSt eEd eSo eBy eCo) sz)) (va_Qi (S := Unit) (fun (r : Int32) (u : Unit) => Q r) (fun u t => rc_C E (va_A (rw_17 E eo eb ec eLn eFt eCc eKy eLv eOb eOn eSt eEd eSo eBy eCo) sz) (rw_17 E eo eb ec eLn eFt eCc eKy eLv eOb eOn eSt eEd eSo eBy eCo) t) (va_A (rw_17 E eo eb ec eLn eFt eCc eKy eLv eOb eOn eSt eEd eSo eBy eCo) sz)) 0 0 (va_A (rw_17 E eo eb ec eLn eFt eCc eKy eLv eOb eOn eSt eEd eSo eBy eCo) sz) := by
  refine rc_enterI (cc := cX0_isWord) (maxL := 3) (by decide) rfl (Nat.le_of_ble_eq_true rfl) ?_
  intro p e s m args below meth c QQ A hx hb hml hown hts hmn hE hP hD hA hret ls hl
  have hown : s.vm.findClass RX0 = some m.cls := hown
  have hK := hE.1
  have hS : va_S A s.heap s.heap [] := va_S.rf
  have hl : lv_has ls 3 [(0, .ref eo), (1, .ref (E.2.2.2.1 wj))] := hl
  have n_X0 : ∀ w ∈ wsX00, w ∈ wsX0_isWord := fun _ h => List.mem_cons_of_mem _ (List.mem_append_right _ h)
  have k_9 := hts (.fieldLink RX0 9 "RidgeClaps$Reader" "bytes" "[I") (List.mem_of_getElem? (i := 4) rfl)
  have k_41 := hts (.fieldLink RX0 41 "RidgeClaps$Reader" "start" "I") (List.mem_of_getElem? (i := 3) rfl)
  have k_47 := hts (.fieldLink RX0 47 "RidgeClaps$Reader" "sort" "I") (List.mem_of_getElem? (i := 1) rfl)
  have k_44 := hts (.fieldLink RX0 44 "RidgeClaps$Reader" "end" "I") (List.mem_of_getElem? (i := 2) rfl)
  have J27 : ∀ (n : Nat) (x2 : Int32), lp_X0_isWord_27 eSt eBy wj Q n x2 → ∀ (H : Heap) (locs : List Loc), va_P E.1 vwCl (rw_17 E eo eb ec eLn eFt eCc eKy eLv eOb eOn eSt eEd eSo eBy eCo) H → va_D A (rw_17 E eo eb ec eLn eFt eCc eKy eLv eOb eOn eSt eEd eSo eBy eCo) → va_S A s.heap H locs → ∀ ls : Array Slot, lv_has ls 3 [(0, .ref eo), (1, .ref (E.2.2.2.1 wj)), (2, .int x2)] → W p l e ({ frames := 4, cells := 0, slots := 0, locals := 85 } : Room) s m args below meth c H locs 0 0 QQ (F0 m 27 ls []) := by
    intro n
    induction n with
    | zero =>
      intro x2 h
      exact False.elim h
    | succ n ih =>
      intro x2 h H locs hP hD hS ls hl
      have h : lp_X0_isWord_27F eSt eBy wj Q (lp_X0_isWord_27 eSt eBy wj Q n) x2 := h
      unfold lp_X0_isWord_27F at h
      refine lv_iload_n hx hb dX0_isWord_27 rfl (lv_at hl 2 rfl) ?_
      refine lv_aload_n hx hb dX0_isWord_28 rfl (lv_at hl 1 rfl) ?_
      have hPc := hP.sub (ws' := []) [] rfl
      have hDc := hD.sub (ws' := []) [] (by decide) rfl
      have hFc := va_free (wc := []) hD hS hA [] rfl
      refine va_calli (va_runV (As := []) (rest := [.int x2]) ⟨hx, hb, hml, hown, hts⟩ (c_J0_length_8abf5 l E H.size wj hwj _ h) (cwV 0 hts gX0_isWord_J0_length_8abf5 rfl rfl rfl (by decide +kernel) ⟨Nat.le_of_ble_eq_true rfl, Nat.le_of_ble_eq_true rfl⟩) ⟨fun a U g mk q => ⟨q.1, q.2.blind⟩, vk_recv hE.2.2.2.2.2.1 hwj hS, fun U hU hW => ⟨rfl, by rw [hU], by rw [hU]; exact hPc, hE.call hS hFc hW hU, hDc.weaken (fun _ _ _ _ => trivial)⟩⟩ rfl rfl hl.1 rfl (lv_room (Nat.le_of_ble_eq_true rfl)) dX0_isWord_29 ⟨Nat.zero_le _, Nat.zero_le _⟩) hS (fun q _ h => hFc q h) hFc (fun r_1 u t H1 locs ht hvm h hB hz1 hk1 hS => ?_)
      obtain ⟨hP1, hD1⟩ := hB
      rw [ht] at hP1
      obtain ⟨hP, hD⟩ := rc_foc hP hD [] [none, none, none] (by decide) rfl hk1 hP1 rfl
      generalize H1 = H at hP hS ⊢
      have hP : va_P E.1 vwCl (rw_17 E eo eb ec eLn eFt eCc eKy eLv eOb eOn eSt eEd eSo eBy eCo) H := hP
      have hD : va_D A (rw_17 E eo eb ec eLn eFt eCc eKy eLv eOb eOn eSt eEd eSo eBy eCo) := hD
      refine lv_icmp_ge (tgt := 62) hx hb dX0_isWord_32 (by decide) (fun c_2 => ?_) (fun c_2 => ?_)
      · have h := h.1 c_2
        refine lv_iconst (v := 1) hx hb dX0_isWord_62 (by decide) ?_
        exact hret _ _ _ _ 1 () (by decide) h hP hD hS dX0_isWord_63
      · have h := h.2 c_2
        refine lv_aload_n hx hb dX0_isWord_35 rfl (lv_at hl 0 rfl) ?_
        refine va_get (D := E.1) (ci := 0) (v := .ref eb) (C := RX0) (T := TX0) (N := 12) hx hb hts n_X0 hown hK hP 0 rfl rfl 0 (by decide) k_9 (fun _ h9 => h9) rfl dX0_isWord_36 ?_
        refine lv_aload_n hx hb dX0_isWord_39 rfl (lv_at hl 0 rfl) ?_
        refine va_get (D := E.1) (ci := 0) (v := .int eSt) (C := RX0) (T := TX0) (N := 12) hx hb hts n_X0 hown hK hP 0 rfl rfl 9 (by decide) k_41 (fun _ h9 => h9) rfl dX0_isWord_40 ?_
        refine lv_iload_n hx hb dX0_isWord_43 rfl (lv_at hl 2 rfl) ?_
        refine lv_iadd hx hb dX0_isWord_44 ?_
        obtain ⟨o_3, h⟩ := h
        refine rc_iald hx hb hK hP 1 0 rfl rfl ((eSt + x2).toNatClampNeg) rfl o_3 dX0_isWord_45 ?_
        refine lv_aload_n hx hb dX0_isWord_46 rfl (lv_at hl 1 rfl) ?_
        refine lv_iload_n hx hb dX0_isWord_47 rfl (lv_at hl 2 rfl) ?_
        have hPc := hP.sub (ws' := []) [] rfl
        have hDc := hD.sub (ws' := []) [] (by decide) rfl
        have hFc := va_free (wc := []) hD hS hA [] rfl
        refine va_calli (va_runV (As := [.int x2]) (rest := [.int (eBy ((eSt + x2).toNatClampNeg))]) ⟨hx, hb, hml, hown, hts⟩ (c_J0_charAt_5068e l E H.size x2 wj hwj _ h) (cwV 1 hts gX0_isWord_J0_charAt_5068e rfl rfl rfl (by decide +kernel) ⟨Nat.le_of_ble_eq_true rfl, Nat.le_of_ble_eq_true rfl⟩) ⟨fun a U g mk q => ⟨q.1, q.2.blind⟩, vk_recv hE.2.2.2.2.2.1 hwj hS, fun U hU hW => ⟨rfl, by rw [hU], by rw [hU]; exact hPc, hE.call hS hFc hW hU, hDc.weaken (fun _ _ _ _ => trivial)⟩⟩ rfl rfl hl.1 rfl (lv_room (Nat.le_of_ble_eq_true rfl)) dX0_isWord_48 ⟨Nat.zero_le _, Nat.zero_le _⟩) hS (fun q _ h => hFc q h) hFc (fun r_4 u t H1 locs ht hvm h hB hz1 hk1 hS => ?_)
        obtain ⟨hP1, hD1⟩ := hB
        rw [ht] at hP1
        obtain ⟨hP, hD⟩ := rc_foc hP hD [] [none, none, none] (by decide) rfl hk1 hP1 rfl
        generalize H1 = H at hP hS ⊢
        have hP : va_P E.1 vwCl (rw_17 E eo eb ec eLn eFt eCc eKy eLv eOb eOn eSt eEd eSo eBy eCo) H := hP
        have hD : va_D A (rw_17 E eo eb ec eLn eFt eCc eKy eLv eOb eOn eSt eEd eSo eBy eCo) := hD
        refine lv_icmp_eq (tgt := 56) hx hb dX0_isWord_51 (by decide) (fun c_5 => ?_) (fun c_5 => ?_)
        · have h := h.1 c_5
          refine lv_iinc (v := x2 + 1) (lv' := [(2, .int (x2 + 1)), (0, .ref eo), (1, .ref (E.2.2.2.1 wj))]) hx hb dX0_isWord_56 hl (k := 2) rfl (by rfl) (by decide) rfl (fun ls hl => ?_)
          refine lv_goto (tgt := 27) hx hb dX0_isWord_59 (by decide) ?_
          exact ih (x2 + 1) h _ _ hP hD hS ls (lv_sub hl [1, 2, 0] rfl)
        · have h := h.2 c_5
          refine lv_iconst (v := 0) hx hb dX0_isWord_54 (by decide) ?_
          exact hret _ _ _ _ 0 () (by decide) h hP hD hS dX0_isWord_55
  unfold wp_X0_isWord at h
  obtain ⟨H, hH⟩ : ∃ H, H = s.heap := ⟨_, rfl⟩
  obtain ⟨locs, hlocs⟩ : ∃ locs : List Loc, locs = [] := ⟨_, rfl⟩
  have hP : va_P E.1 vwCl (rw_17 E eo eb ec eLn eFt eCc eKy eLv eOb eOn eSt eEd eSo eBy eCo) H := by rw [hH]; exact hP
  have hS : va_S A s.heap H locs := by rw [hH, hlocs]; exact hS
  suffices hgo : W p l e ({ frames := 4, cells := 0, slots := 0, locals := 85 } : Room) s m args below meth c H locs 0 0 QQ (F0 m 0 ls []) from by rw [hH, hlocs] at hgo; exact hgo
  refine lv_aload_n hx hb dX0_isWord_0 rfl (lv_at hl 0 rfl) ?_
  refine va_get (D := E.1) (ci := 0) (v := .int eSo) (C := RX0) (T := TX0) (N := 12) hx hb hts n_X0 hown hK hP 0 rfl rfl 11 (by decide) k_47 (fun _ h9 => h9) rfl dX0_isWord_1 ?_
  refine lv_if_ne (tgt := 23) hx hb dX0_isWord_4 (by decide) (fun c_6 => ?_) (fun c_6 => ?_)
  · have h := h.1 c_6
    refine lv_iconst (v := 0) hx hb dX0_isWord_23 (by decide) ?_
    exact hret _ _ _ _ 0 () (by decide) h hP hD hS dX0_isWord_24
  · have h := h.2 c_6
    refine lv_aload_n hx hb dX0_isWord_7 rfl (lv_at hl 0 rfl) ?_
    refine va_get (D := E.1) (ci := 0) (v := .int eEd) (C := RX0) (T := TX0) (N := 12) hx hb hts n_X0 hown hK hP 0 rfl rfl 10 (by decide) k_44 (fun _ h9 => h9) rfl dX0_isWord_8 ?_
    refine lv_aload_n hx hb dX0_isWord_11 rfl (lv_at hl 0 rfl) ?_
    refine va_get (D := E.1) (ci := 0) (v := .int eSt) (C := RX0) (T := TX0) (N := 12) hx hb hts n_X0 hown hK hP 0 rfl rfl 9 (by decide) k_41 (fun _ h9 => h9) rfl dX0_isWord_12 ?_
    refine lv_isub hx hb dX0_isWord_15 ?_
    refine lv_aload_n hx hb dX0_isWord_16 rfl (lv_at hl 1 rfl) ?_
    have hPc := hP.sub (ws' := []) [] rfl
    have hDc := hD.sub (ws' := []) [] (by decide) rfl
    have hFc := va_free (wc := []) hD hS hA [] rfl
    refine va_calli (va_runV (As := []) (rest := [.int (eEd - eSt)]) ⟨hx, hb, hml, hown, hts⟩ (c_J0_length_8abf5 l E H.size wj hwj _ h) (cwV 0 hts gX0_isWord_J0_length_8abf5 rfl rfl rfl (by decide +kernel) ⟨Nat.le_of_ble_eq_true rfl, Nat.le_of_ble_eq_true rfl⟩) ⟨fun a U g mk q => ⟨q.1, q.2.blind⟩, vk_recv hE.2.2.2.2.2.1 hwj hS, fun U hU hW => ⟨rfl, by rw [hU], by rw [hU]; exact hPc, hE.call hS hFc hW hU, hDc.weaken (fun _ _ _ _ => trivial)⟩⟩ rfl rfl hl.1 rfl (lv_room (Nat.le_of_ble_eq_true rfl)) dX0_isWord_17 ⟨Nat.zero_le _, Nat.zero_le _⟩) hS (fun q _ h => hFc q h) hFc (fun r_7 u t H1 locs ht hvm h hB hz1 hk1 hS => ?_)
    obtain ⟨hP1, hD1⟩ := hB
    rw [ht] at hP1
    obtain ⟨hP, hD⟩ := rc_foc hP hD [] [none, none, none] (by decide) rfl hk1 hP1 rfl
    generalize H1 = H at hP hS ⊢
    have hP : va_P E.1 vwCl (rw_17 E eo eb ec eLn eFt eCc eKy eLv eOb eOn eSt eEd eSo eBy eCo) H := hP
    have hD : va_D A (rw_17 E eo eb ec eLn eFt eCc eKy eLv eOb eOn eSt eEd eSo eBy eCo) := hD
    refine lv_icmp_eq (tgt := 25) hx hb dX0_isWord_20 (by decide) (fun c_8 => ?_) (fun c_8 => ?_)
    · have h := h.1 c_8
      refine lv_iconst (v := 0) hx hb dX0_isWord_25 (by decide) ?_
      refine lv_istore_n (lv' := [(2, .int 0), (0, .ref eo), (1, .ref (E.2.2.2.1 wj))]) hx hb dX0_isWord_26 rfl hl (by decide) rfl (fun ls hl => ?_)
      obtain ⟨n, h⟩ := h
      exact J27 n 0 h _ _ hP hD hS ls (lv_sub hl [1, 2, 0] rfl)
    · have h := h.2 c_8
      refine lv_iconst (v := 0) hx hb dX0_isWord_23 (by decide) ?_
      exact hret _ _ _ _ 0 () (by decide) h hP hD hS dX0_isWord_24
def wp_X0_namesOf (p0 : Int32) (Q : Nat → Prop) : Prop :=
  ((¬ p0 = 0 → ((¬ p0 = 1 → Q 5) ∧ (p0 = 1 → Q 4))) ∧ (p0 = 0 → Q 3))
set_option maxHeartbeats 4000000 in
set_option maxRecDepth 100000 in
theorem c_X0_namesOf (l : Launch) (E : gE)  (sz : Nat)  (p0 : Int32)  (Q : Nat → Prop) (h : wp_X0_namesOf p0 Q) : Met l yX0_namesOf wsX0_namesOf ({ frames := 0, cells := 0, slots := 0, locals := 0 } : Room) (va_Pc [.int p0] (rc_B E ([]) sz)) (va_Qr (fun (j : Nat) => j < 6 ∧ Q j) (fun u a t => a = E.2.2.2.1 u ∧ rc_C E (va_A ([]) sz) ([]) t) (va_A ([]) sz)) 0 0 (va_A ([]) sz) := by
  refine rc_enterS (cc := cX0_namesOf) (maxL := 1) (by decide) rfl (Nat.le_of_ble_eq_true rfl) ?_
  intro p e s m args below meth c QQ A hx hb hml hown hts hmn hE hP hD hA hret ls hl
  have hown : s.vm.findClass RX0 = some m.cls := hown
  have hK := hE.1
  have hS : va_S A s.heap s.heap [] := va_S.rf
  have hl : lv_has ls 1 [(0, .int p0)] := hl
  unfold wp_X0_namesOf at h
  obtain ⟨H, hH⟩ : ∃ H, H = s.heap := ⟨_, rfl⟩
  obtain ⟨locs, hlocs⟩ : ∃ locs : List Loc, locs = [] := ⟨_, rfl⟩
  have hP : va_P E.1 vwCl ([]) H := by rw [hH]; exact hP
  have hS : va_S A s.heap H locs := by rw [hH, hlocs]; exact hS
  suffices hgo : W p l e ({ frames := 0, cells := 0, slots := 0, locals := 0 } : Room) s m args below meth c H locs 0 0 QQ (F0 m 0 ls []) from by rw [hH, hlocs] at hgo; exact hgo
  refine lv_iload_n hx hb dX0_namesOf_0 rfl (lv_at hl 0 rfl) ?_
  refine lv_if_ne (tgt := 7) hx hb dX0_namesOf_1 (by decide) (fun c_1 => ?_) (fun c_1 => ?_)
  · have h := h.1 c_1
    refine lv_iload_n hx hb dX0_namesOf_7 rfl (lv_at hl 0 rfl) ?_
    refine lv_iconst (v := 1) hx hb dX0_namesOf_8 (by decide) ?_
    refine lv_icmp_ne (tgt := 17) hx hb dX0_namesOf_9 (by decide) (fun c_2 => ?_) (fun c_2 => ?_)
    · have h := h.1 c_2
      refine va_ldcS hx hb hown (hE.2.2.1 5 _ rfl) dX0_namesOf_17 ?_
      exact hret _ _ _ _ 5 (by decide) h hP hD hS dX0_namesOf_19
    · have h := h.2 c_2
      refine va_ldcS hx hb hown (hE.2.2.1 4 _ rfl) dX0_namesOf_12 ?_
      refine lv_goto (tgt := 19) hx hb dX0_namesOf_14 (by decide) ?_
      exact hret _ _ _ _ 4 (by decide) h hP hD hS dX0_namesOf_19
  · have h := h.2 c_1
    refine va_ldcS hx hb hown (hE.2.2.1 3 _ rfl) dX0_namesOf_4 ?_
    exact hret _ _ _ _ 3 (by decide) h hP hD hS dX0_namesOf_6
def jp_X0_nameHere_37   (Q : Int32 → Prop) (y0 : Int32) : Prop :=
  ((0 ≤ y0 → Q ((-1) - y0)) ∧ (¬ (0 ≤ y0) → Q (-1000000005)))
def wp_X0_nameHere (eKy : Int32) (eSt : Int32) (eEd : Int32) (eBy : Nat → Int32) (Q : Int32 → Prop) : Prop :=
  ((¬ (eEd - eSt) = 1 → jp_X0_nameHere_37 Q (-1)) ∧ ((eEd - eSt) = 1 → wp_X0_namesOf eKy (fun (j_3 : Nat) => (vp_in eSt 96 ∧ wp_J0_indexOf_0f7a4 (rc_i2c (eBy eSt.toNatClampNeg)) j_3 (fun (r_5 : Int32) => jp_X0_nameHere_37 Q r_5)))))
set_option maxHeartbeats 4000000 in
set_option maxRecDepth 100000 in
theorem c_X0_nameHere (l : Launch) (E : gE) (eo eb ec : Nat) (sz : Nat) (eLn : Int32) (eFt : Int32) (eCc : Int32) (eKy : Int32) (eLv : Int32) (eOb : Int32) (eOn : Int32) (eSt : Int32) (eEd : Int32) (eSo : Int32) (eBy : Nat → Int32) (eCo : Nat → Int32)   (Q : Int32 → Prop) (h : wp_X0_nameHere eKy eSt eEd eBy Q) : Met l yX0_nameHere wsX0_nameHere ({ frames := 4, cells := 0, slots := 0, locals := 106 } : Room) (va_Pc [.ref eo] (rc_B E (rw_17 E eo eb ec eLn eFt eCc eKy eLv eOb eOn eSt eEd eSo eBy eCo) sz)) (va_Qi (S := Unit) (fun (r : Int32) (u : Unit) => Q r) (fun u t => rc_C E (va_A (rw_17 E eo eb ec eLn eFt eCc eKy eLv eOb eOn eSt eEd eSo eBy eCo) sz) (rw_17 E eo eb ec eLn eFt eCc eKy eLv eOb eOn eSt eEd eSo eBy eCo) t) (va_A (rw_17 E eo eb ec eLn eFt eCc eKy eLv eOb eOn eSt eEd eSo eBy eCo) sz)) 0 0 (va_A (rw_17 E eo eb ec eLn eFt eCc eKy eLv eOb eOn eSt eEd eSo eBy eCo) sz) := by
  refine rc_enterI (cc := cX0_nameHere) (maxL := 2) (by decide) rfl (Nat.le_of_ble_eq_true rfl) ?_
  intro p e s m args below meth c QQ A hx hb hml hown hts hmn hE hP hD hA hret ls hl
  have hown : s.vm.findClass RX0 = some m.cls := hown
  have hK := hE.1
  have hS : va_S A s.heap s.heap [] := va_S.rf
  have hl : lv_has ls 2 [(0, .ref eo)] := hl
  have n_X0 : ∀ w ∈ wsX00, w ∈ wsX0_nameHere := fun _ h => List.mem_cons_of_mem _ (List.mem_append_right _ h)
  have k_19 := hts (.constant RX0 19 (-1000000005)) (List.mem_of_getElem? (i := 5) rfl)
  have k_44 := hts (.fieldLink RX0 44 "RidgeClaps$Reader" "end" "I") (List.mem_of_getElem? (i := 1) rfl)
  have k_41 := hts (.fieldLink RX0 41 "RidgeClaps$Reader" "start" "I") (List.mem_of_getElem? (i := 2) rfl)
  have k_29 := hts (.fieldLink RX0 29 "RidgeClaps$Reader" "key" "I") (List.mem_of_getElem? (i := 3) rfl)
  have k_9 := hts (.fieldLink RX0 9 "RidgeClaps$Reader" "bytes" "[I") (List.mem_of_getElem? (i := 4) rfl)
  have J37 : ∀ (y0 : Int32), jp_X0_nameHere_37 Q y0 → ∀ (H : Heap) (locs : List Loc), va_P E.1 vwCl (rw_17 E eo eb ec eLn eFt eCc eKy eLv eOb eOn eSt eEd eSo eBy eCo) H → va_D A (rw_17 E eo eb ec eLn eFt eCc eKy eLv eOb eOn eSt eEd eSo eBy eCo) → va_S A s.heap H locs → ∀ ls : Array Slot, lv_has ls 2 [] → W p l e ({ frames := 4, cells := 0, slots := 0, locals := 106 } : Room) s m args below meth c H locs 0 0 QQ (F0 m 37 ls [.int y0]) := by
    intro y0 h H locs hP hD hS ls hl
    unfold jp_X0_nameHere_37 at h
    refine lv_istore_n (lv' := [(1, .int y0)]) hx hb dX0_nameHere_37 rfl hl (by decide) rfl (fun ls hl => ?_)
    refine lv_iload_n hx hb dX0_nameHere_38 rfl (lv_at hl 0 rfl) ?_
    refine lv_if_ge (tgt := 47) hx hb dX0_nameHere_39 (by decide) (fun c_1 => ?_) (fun c_1 => ?_)
    · have h := h.1 c_1
      refine lv_iconst (v := (-1)) hx hb dX0_nameHere_47 (by decide) ?_
      refine lv_iload_n hx hb dX0_nameHere_48 rfl (lv_at hl 0 rfl) ?_
      refine lv_isub hx hb dX0_nameHere_49 ?_
      exact hret _ _ _ _ ((-1) - y0) () rfl h hP hD hS dX0_nameHere_50
    · have h := h.2 c_1
      refine lv_ldc hx hb hown k_19 dX0_nameHere_42 ?_
      refine lv_goto (tgt := 50) hx hb dX0_nameHere_44 (by decide) ?_
      exact hret _ _ _ _ (-1000000005) () rfl h hP hD hS dX0_nameHere_50
  unfold wp_X0_nameHere at h
  obtain ⟨H, hH⟩ : ∃ H, H = s.heap := ⟨_, rfl⟩
  obtain ⟨locs, hlocs⟩ : ∃ locs : List Loc, locs = [] := ⟨_, rfl⟩
  have hP : va_P E.1 vwCl (rw_17 E eo eb ec eLn eFt eCc eKy eLv eOb eOn eSt eEd eSo eBy eCo) H := by rw [hH]; exact hP
  have hS : va_S A s.heap H locs := by rw [hH, hlocs]; exact hS
  suffices hgo : W p l e ({ frames := 4, cells := 0, slots := 0, locals := 106 } : Room) s m args below meth c H locs 0 0 QQ (F0 m 0 ls []) from by rw [hH, hlocs] at hgo; exact hgo
  refine lv_aload_n hx hb dX0_nameHere_0 rfl (lv_at hl 0 rfl) ?_
  refine va_get (D := E.1) (ci := 0) (v := .int eEd) (C := RX0) (T := TX0) (N := 12) hx hb hts n_X0 hown hK hP 0 rfl rfl 10 (by decide) k_44 (fun _ h9 => h9) rfl dX0_nameHere_1 ?_
  refine lv_aload_n hx hb dX0_nameHere_4 rfl (lv_at hl 0 rfl) ?_
  refine va_get (D := E.1) (ci := 0) (v := .int eSt) (C := RX0) (T := TX0) (N := 12) hx hb hts n_X0 hown hK hP 0 rfl rfl 9 (by decide) k_41 (fun _ h9 => h9) rfl dX0_nameHere_5 ?_
  refine lv_isub hx hb dX0_nameHere_8 ?_
  refine lv_iconst (v := 1) hx hb dX0_nameHere_9 (by decide) ?_
  refine lv_icmp_ne (tgt := 36) hx hb dX0_nameHere_10 (by decide) (fun c_2 => ?_) (fun c_2 => ?_)
  · have h := h.1 c_2
    refine lv_iconst (v := (-1)) hx hb dX0_nameHere_36 (by decide) ?_
    exact J37 (-1) h _ _ hP hD hS ls (lv_sub hl [] rfl)
  · have h := h.2 c_2
    refine lv_aload_n hx hb dX0_nameHere_13 rfl (lv_at hl 0 rfl) ?_
    refine va_get (D := E.1) (ci := 0) (v := .int eKy) (C := RX0) (T := TX0) (N := 12) hx hb hts n_X0 hown hK hP 0 rfl rfl 5 (by decide) k_29 (fun _ h9 => h9) rfl dX0_nameHere_14 ?_
    have hPc := hP.sub (ws' := []) [] rfl
    have hDc := hD.sub (ws' := []) [] (by decide) rfl
    have hFc := va_free (wc := []) hD hS hA [] rfl
    refine va_callr (va_runS (As := [.int eKy]) (rest := []) ⟨hx, hb, hml, hown, hts⟩ (c_X0_namesOf l E H.size eKy _ h) (va_cwS 1 hts gX0_nameHere_X0_namesOf rfl rfl rfl (by decide +kernel) ⟨Nat.le_of_ble_eq_true rfl, Nat.le_of_ble_eq_true rfl⟩) ⟨fun a U g mk q => ⟨q.1, q.2.blind⟩, fun U hU hW => ⟨rfl, by rw [hU], by rw [hU]; exact hPc, hE.call hS hFc hW hU, hDc.weaken (fun _ _ _ _ => trivial)⟩⟩ rfl rfl hl.1 rfl (lv_room (Nat.le_of_ble_eq_true rfl)) dX0_nameHere_17 ⟨Nat.zero_le _, Nat.zero_le _⟩) hS (fun q _ h => hFc q h) hFc (fun j_3 ra t H1 locs ht hvm h hB hz1 hk1 hS => ?_)
    obtain ⟨hj_3, h⟩ := h
    obtain ⟨rfl, hB⟩ := hB
    obtain ⟨hP1, hD1⟩ := hB
    rw [ht] at hP1
    obtain ⟨hP, hD⟩ := rc_foc hP hD [] [none, none, none] (by decide) rfl hk1 hP1 rfl
    generalize H1 = H at hP hS ⊢
    have hP : va_P E.1 vwCl (rw_17 E eo eb ec eLn eFt eCc eKy eLv eOb eOn eSt eEd eSo eBy eCo) H := hP
    have hD : va_D A (rw_17 E eo eb ec eLn eFt eCc eKy eLv eOb eOn eSt eEd eSo eBy eCo) := hD
    refine lv_aload_n hx hb dX0_nameHere_20 rfl (lv_at hl 0 rfl) ?_
    refine va_get (D := E.1) (ci := 0) (v := .ref eb) (C := RX0) (T := TX0) (N := 12) hx hb hts n_X0 hown hK hP 0 rfl rfl 0 (by decide) k_9 (fun _ h9 => h9) rfl dX0_nameHere_21 ?_
    refine lv_aload_n hx hb dX0_nameHere_24 rfl (lv_at hl 0 rfl) ?_
    refine va_get (D := E.1) (ci := 0) (v := .int eSt) (C := RX0) (T := TX0) (N := 12) hx hb hts n_X0 hown hK hP 0 rfl rfl 9 (by decide) k_41 (fun _ h9 => h9) rfl dX0_nameHere_25 ?_
    obtain ⟨o_4, h⟩ := h
    refine rc_iald hx hb hK hP 1 0 rfl rfl eSt.toNatClampNeg rfl o_4 dX0_nameHere_28 ?_
    refine lv_i2c (v := rc_i2c (eBy eSt.toNatClampNeg)) hx hb dX0_nameHere_29 rfl ?_
    have hPc := hP.sub (ws' := []) [] rfl
    have hDc := hD.sub (ws' := []) [] (by decide) rfl
    have hFc := va_free (wc := []) hD hS hA [] rfl
    refine va_calli (va_runV (As := [.int (rc_i2c (eBy eSt.toNatClampNeg))]) (rest := []) ⟨hx, hb, hml, hown, hts⟩ (c_J0_indexOf_0f7a4 l E H.size (rc_i2c (eBy eSt.toNatClampNeg)) j_3 hj_3 _ h) (cwV 1 hts gX0_nameHere_J0_indexOf_0f7a4 rfl rfl rfl (by decide +kernel) ⟨Nat.le_of_ble_eq_true rfl, Nat.le_of_ble_eq_true rfl⟩) ⟨fun a U g mk q => ⟨q.1, q.2.blind⟩, vk_recv hE.2.2.2.2.2.1 hj_3 hS, fun U hU hW => ⟨rfl, by rw [hU], by rw [hU]; exact hPc, hE.call hS hFc hW hU, hDc.weaken (fun _ _ _ _ => trivial)⟩⟩ rfl rfl hl.1 rfl (lv_room (Nat.le_of_ble_eq_true rfl)) dX0_nameHere_30 ⟨Nat.zero_le _, Nat.zero_le _⟩) hS (fun q _ h => hFc q h) hFc (fun r_5 u t H1 locs ht hvm h hB hz1 hk1 hS => ?_)
    obtain ⟨hP1, hD1⟩ := hB
    rw [ht] at hP1
    obtain ⟨hP, hD⟩ := rc_foc hP hD [] [none, none, none] (by decide) rfl hk1 hP1 rfl
    generalize H1 = H at hP hS ⊢
    have hP : va_P E.1 vwCl (rw_17 E eo eb ec eLn eFt eCc eKy eLv eOb eOn eSt eEd eSo eBy eCo) H := hP
    have hD : va_D A (rw_17 E eo eb ec eLn eFt eCc eKy eLv eOb eOn eSt eEd eSo eBy eCo) := hD
    refine lv_goto (tgt := 37) hx hb dX0_nameHere_33 (by decide) ?_
    exact J37 r_5 h _ _ hP hD hS ls (lv_sub hl [] rfl)
def jp_X0_readLeaf_19 (eLn : Int32) (eBy : Nat → Int32)  (Q : Int32 → Int32 → Int32 → Int32 → Int32 → Int32 → (Nat → Int32) → Prop) (y0 : Int32) (eFt : Int32) (eCc : Int32) (eLv : Int32) (eSt : Int32) (eEd : Int32) (eSo : Int32) (eCo : Nat → Int32) : Prop :=
  ((¬ y0 = (-1000000005) → wp_X0_putCode y0 eCc eCo (fun (w_2 : Int32) (w_3 : Nat → Int32) => wp_X0_moveOn eLn eEd eSo eBy (fun (w_4 : Int32) (w_5 : Int32) (w_6 : Int32) => Q eFt w_2 (eLv + 1) w_4 w_5 w_6 w_3))) ∧ (y0 = (-1000000005) → wp_X0_setFault eFt eSt (fun (w_7 : Int32) => Q w_7 eCc eLv eSt eEd eSo eCo)))
def wp_X0_readLeaf (eLn : Int32) (eFt : Int32) (eCc : Int32) (eKy : Int32) (eLv : Int32) (eSt : Int32) (eEd : Int32) (eSo : Int32) (eBy : Nat → Int32) (eCo : Nat → Int32) (Q : Int32 → Int32 → Int32 → Int32 → Int32 → Int32 → (Nat → Int32) → Prop) : Prop :=
  ((¬ eSo = 1 → wp_X0_nameHere eKy eSt eEd eBy (fun (r_9 : Int32) => jp_X0_readLeaf_19 eLn eBy Q r_9 eFt eCc eLv eSt eEd eSo eCo)) ∧ (eSo = 1 → wp_X0_numberHere eSt eEd eBy (fun (r_10 : Int32) => jp_X0_readLeaf_19 eLn eBy Q r_10 eFt eCc eLv eSt eEd eSo eCo)))
set_option maxHeartbeats 4000000 in
set_option maxRecDepth 100000 in
theorem c_X0_readLeaf (l : Launch) (E : gE) (eo eb ec : Nat) (sz : Nat) (eLn : Int32) (eFt : Int32) (eCc : Int32) (eKy : Int32) (eLv : Int32) (eOb : Int32) (eOn : Int32) (eSt : Int32) (eEd : Int32) (eSo : Int32) (eBy : Nat → Int32) (eCo : Nat → Int32)   (Q : Int32 → Int32 → Int32 → Int32 → Int32 → Int32 → (Nat → Int32) → Prop) (h : wp_X0_readLeaf eLn eFt eCc eKy eLv eSt eEd eSo eBy eCo Q) : Met l yX0_readLeaf wsX0_readLeaf ({ frames := 5, cells := 0, slots := 0, locals := 127 } : Room) (va_Pc [.ref eo] (rc_B E (rw_17 E eo eb ec eLn eFt eCc eKy eLv eOb eOn eSt eEd eSo eBy eCo) sz)) (va_Qv (S := Int32 × Int32 × Int32 × Int32 × Int32 × Int32 × (Nat → Int32)) (fun (u : Int32 × Int32 × Int32 × Int32 × Int32 × Int32 × (Nat → Int32)) => Q u.1 u.2.1 u.2.2.1 u.2.2.2.1 u.2.2.2.2.1 u.2.2.2.2.2.1 u.2.2.2.2.2.2) (fun u t => rc_C E (va_A (rw_17 E eo eb ec eLn eFt eCc eKy eLv eOb eOn eSt eEd eSo eBy eCo) sz) (rw_17 E eo eb ec eLn u.1 u.2.1 eKy u.2.2.1 eOb eOn u.2.2.2.1 u.2.2.2.2.1 u.2.2.2.2.2.1 eBy u.2.2.2.2.2.2) t) (va_A (rw_17 E eo eb ec eLn eFt eCc eKy eLv eOb eOn eSt eEd eSo eBy eCo) sz)) 0 0 (va_A (rw_17 E eo eb ec eLn eFt eCc eKy eLv eOb eOn eSt eEd eSo eBy eCo) sz) := by
  refine rc_enterV (cc := cX0_readLeaf) (maxL := 2) (by decide) rfl (Nat.le_of_ble_eq_true rfl) ?_
  intro p e s m args below meth c QQ A hx hb hml hown hts hmn hE hP hD hA hret ls hl
  have hown : s.vm.findClass RX0 = some m.cls := hown
  have hK := hE.1
  have hS : va_S A s.heap s.heap [] := va_S.rf
  have hl : lv_has ls 2 [(0, .ref eo)] := hl
  have n_X0 : ∀ w ∈ wsX00, w ∈ wsX0_readLeaf := fun _ h => List.mem_cons_of_mem _ (List.mem_append_right _ h)
  have k_19 := hts (.constant RX0 19 (-1000000005)) (List.mem_of_getElem? (i := 2) rfl)
  have k_32 := hts (.fieldLink RX0 32 "RidgeClaps$Reader" "leaves" "I") (List.mem_of_getElem? (i := 3) rfl)
  have k_47 := hts (.fieldLink RX0 47 "RidgeClaps$Reader" "sort" "I") (List.mem_of_getElem? (i := 1) rfl)
  have J19 : ∀ (y0 : Int32) (eFt : Int32) (eCc : Int32) (eLv : Int32) (eSt : Int32) (eEd : Int32) (eSo : Int32) (eCo : Nat → Int32), jp_X0_readLeaf_19 eLn eBy Q y0 eFt eCc eLv eSt eEd eSo eCo → ∀ (H : Heap) (locs : List Loc), va_P E.1 vwCl (rw_17 E eo eb ec eLn eFt eCc eKy eLv eOb eOn eSt eEd eSo eBy eCo) H → va_D A (rw_17 E eo eb ec eLn eFt eCc eKy eLv eOb eOn eSt eEd eSo eBy eCo) → va_S A s.heap H locs → ∀ ls : Array Slot, lv_has ls 2 [(0, .ref eo)] → W p l e ({ frames := 5, cells := 0, slots := 0, locals := 127 } : Room) s m args below meth c H locs 0 0 QQ (F0 m 19 ls [.int y0]) := by
    intro y0 eFt eCc eLv eSt eEd eSo eCo h H locs hP hD hS ls hl
    unfold jp_X0_readLeaf_19 at h
    refine lv_istore_n (lv' := [(1, .int y0), (0, .ref eo)]) hx hb dX0_readLeaf_19 rfl hl (by decide) rfl (fun ls hl => ?_)
    refine lv_iload_n hx hb dX0_readLeaf_20 rfl (lv_at hl 0 rfl) ?_
    refine lv_ldc hx hb hown k_19 dX0_readLeaf_21 ?_
    refine lv_icmp_ne (tgt := 31) hx hb dX0_readLeaf_23 (by decide) (fun c_1 => ?_) (fun c_1 => ?_)
    · have h := h.1 c_1
      refine lv_aload_n hx hb dX0_readLeaf_31 rfl (lv_at hl 1 rfl) ?_
      refine lv_dup hx hb dX0_readLeaf_32 rfl ?_
      refine va_get (D := E.1) (ci := 0) (v := .int eLv) (C := RX0) (T := TX0) (N := 12) hx hb hts n_X0 hown hK hP 0 rfl rfl 6 (by decide) k_32 (fun _ h9 => h9) rfl dX0_readLeaf_33 ?_
      refine lv_iconst (v := 1) hx hb dX0_readLeaf_36 (by decide) ?_
      refine lv_iadd hx hb dX0_readLeaf_37 ?_
      refine va_put (D := E.1) (ci := 0) (v := .int (eLv + 1)) (ty := .int) (C := RX0) (T := TX0) (N := 12) hx hb hts n_X0 tyX0 tyX0_ok nmX0 hown hK hP hD hS 0 rfl rfl 6 (by decide) k_32 (fun _ h9 => h9) rfl (by decide +kernel) rfl rfl (Nat.le_of_ble_eq_true rfl) dX0_readLeaf_38 (fun H locs hP hD hS => ?_)
      have hP : va_P E.1 vwCl (rw_17 E eo eb ec eLn eFt eCc eKy (eLv + 1) eOb eOn eSt eEd eSo eBy eCo) H := hP
      have hD : va_D A (rw_17 E eo eb ec eLn eFt eCc eKy (eLv + 1) eOb eOn eSt eEd eSo eBy eCo) := hD
      refine lv_aload_n hx hb dX0_readLeaf_41 rfl (lv_at hl 1 rfl) ?_
      refine lv_iload_n hx hb dX0_readLeaf_42 rfl (lv_at hl 0 rfl) ?_
      have hPc := hP
      have hDc := hD
      have hFc := rc_freeI hD hS hA
      refine va_callv (va_runV (As := [.int y0]) (rest := []) ⟨hx, hb, hml, hown, hts⟩ (c_X0_putCode l E eo eb ec H.size eLn eFt eCc eKy (eLv + 1) eOb eOn eSt eEd eSo eBy eCo y0 _ h) (cwV 1 hts gX0_readLeaf_X0_putCode rfl rfl rfl (by decide +kernel) ⟨Nat.le_of_ble_eq_true rfl, Nat.le_of_ble_eq_true rfl⟩) ⟨fun a U g mk q => ⟨q.1, q.2.blind⟩, va_recv hK hPc (ci := 0) (q0 := 0) rfl rfl, fun U hU hW => ⟨rfl, by rw [hU], by rw [hU]; exact hPc, hE.call hS hFc hW hU, hDc.weaken (fun _ _ _ _ => trivial)⟩⟩ rfl rfl hl.1 rfl (lv_room (Nat.le_of_ble_eq_true rfl)) dX0_readLeaf_43 ⟨Nat.zero_le _, Nat.zero_le _⟩) hS (fun q _ h => hFc q h) hFc (fun u t H1 locs ht hvm h hB hz1 hk1 hS => ?_)
      obtain ⟨w_2, w_3⟩ := u
      obtain ⟨hP1, hD1⟩ := hB
      rw [ht] at hP1
      have hP := hP1
      have hD := hD1.weaken (fun _ _ _ h => hFc _ h)
      generalize H1 = H at hP hS ⊢
      have hP : va_P E.1 vwCl (rw_17 E eo eb ec eLn eFt w_2 eKy (eLv + 1) eOb eOn eSt eEd eSo eBy w_3) H := hP
      have hD : va_D A (rw_17 E eo eb ec eLn eFt w_2 eKy (eLv + 1) eOb eOn eSt eEd eSo eBy w_3) := hD
      refine lv_aload_n hx hb dX0_readLeaf_46 rfl (lv_at hl 1 rfl) ?_
      have hPc := hP
      have hDc := hD
      have hFc := rc_freeI hD hS hA
      refine va_callv (va_runV (As := []) (rest := []) ⟨hx, hb, hml, hown, hts⟩ (c_X0_moveOn l E eo eb ec H.size eLn eFt w_2 eKy (eLv + 1) eOb eOn eSt eEd eSo eBy w_3 _ h) (cwV 0 hts gX0_readLeaf_X0_moveOn rfl rfl rfl (by decide +kernel) ⟨Nat.le_of_ble_eq_true rfl, Nat.le_of_ble_eq_true rfl⟩) ⟨fun a U g mk q => ⟨q.1, q.2.blind⟩, va_recv hK hPc (ci := 0) (q0 := 0) rfl rfl, fun U hU hW => ⟨rfl, by rw [hU], by rw [hU]; exact hPc, hE.call hS hFc hW hU, hDc.weaken (fun _ _ _ _ => trivial)⟩⟩ rfl rfl hl.1 rfl (lv_room (Nat.le_of_ble_eq_true rfl)) dX0_readLeaf_47 ⟨Nat.zero_le _, Nat.zero_le _⟩) hS (fun q _ h => hFc q h) hFc (fun u t H1 locs ht hvm h hB hz1 hk1 hS => ?_)
      obtain ⟨w_4, w_5, w_6⟩ := u
      obtain ⟨hP1, hD1⟩ := hB
      rw [ht] at hP1
      have hP := hP1
      have hD := hD1.weaken (fun _ _ _ h => hFc _ h)
      generalize H1 = H at hP hS ⊢
      have hP : va_P E.1 vwCl (rw_17 E eo eb ec eLn eFt w_2 eKy (eLv + 1) eOb eOn w_4 w_5 w_6 eBy w_3) H := hP
      have hD : va_D A (rw_17 E eo eb ec eLn eFt w_2 eKy (eLv + 1) eOb eOn w_4 w_5 w_6 eBy w_3) := hD
      exact hret _ _ _ _ (eFt, w_2, eLv + 1, w_4, w_5, w_6, w_3) h hP hD hS dX0_readLeaf_50
    · have h := h.2 c_1
      refine lv_aload_n hx hb dX0_readLeaf_26 rfl (lv_at hl 1 rfl) ?_
      have hPc := hP
      have hDc := hD
      have hFc := rc_freeI hD hS hA
      refine va_callv (va_runV (As := []) (rest := []) ⟨hx, hb, hml, hown, hts⟩ (c_X0_setFault l E eo eb ec H.size eLn eFt eCc eKy eLv eOb eOn eSt eEd eSo eBy eCo _ h) (cwV 0 hts gX0_readLeaf_X0_setFault rfl rfl rfl (by decide +kernel) ⟨Nat.le_of_ble_eq_true rfl, Nat.le_of_ble_eq_true rfl⟩) ⟨fun a U g mk q => ⟨q.1, q.2.blind⟩, va_recv hK hPc (ci := 0) (q0 := 0) rfl rfl, fun U hU hW => ⟨rfl, by rw [hU], by rw [hU]; exact hPc, hE.call hS hFc hW hU, hDc.weaken (fun _ _ _ _ => trivial)⟩⟩ rfl rfl hl.1 rfl (lv_room (Nat.le_of_ble_eq_true rfl)) dX0_readLeaf_27 ⟨Nat.zero_le _, Nat.zero_le _⟩) hS (fun q _ h => hFc q h) hFc (fun u t H1 locs ht hvm h hB hz1 hk1 hS => ?_)
      obtain ⟨w_7, rfl⟩ : ∃ z, z = u := ⟨_, rfl⟩
      obtain ⟨hP1, hD1⟩ := hB
      rw [ht] at hP1
      have hP := hP1
      have hD := hD1.weaken (fun _ _ _ h => hFc _ h)
      generalize H1 = H at hP hS ⊢
      have hP : va_P E.1 vwCl (rw_17 E eo eb ec eLn w_7 eCc eKy eLv eOb eOn eSt eEd eSo eBy eCo) H := hP
      have hD : va_D A (rw_17 E eo eb ec eLn w_7 eCc eKy eLv eOb eOn eSt eEd eSo eBy eCo) := hD
      exact hret _ _ _ _ (w_7, eCc, eLv, eSt, eEd, eSo, eCo) h hP hD hS dX0_readLeaf_30
  unfold wp_X0_readLeaf at h
  obtain ⟨H, hH⟩ : ∃ H, H = s.heap := ⟨_, rfl⟩
  obtain ⟨locs, hlocs⟩ : ∃ locs : List Loc, locs = [] := ⟨_, rfl⟩
  have hP : va_P E.1 vwCl (rw_17 E eo eb ec eLn eFt eCc eKy eLv eOb eOn eSt eEd eSo eBy eCo) H := by rw [hH]; exact hP
  have hS : va_S A s.heap H locs := by rw [hH, hlocs]; exact hS
  suffices hgo : W p l e ({ frames := 5, cells := 0, slots := 0, locals := 127 } : Room) s m args below meth c H locs 0 0 QQ (F0 m 0 ls []) from by rw [hH, hlocs] at hgo; exact hgo
  refine lv_aload_n hx hb dX0_readLeaf_0 rfl (lv_at hl 0 rfl) ?_
  refine va_get (D := E.1) (ci := 0) (v := .int eSo) (C := RX0) (T := TX0) (N := 12) hx hb hts n_X0 hown hK hP 0 rfl rfl 11 (by decide) k_47 (fun _ h9 => h9) rfl dX0_readLeaf_1 ?_
  refine lv_iconst (v := 1) hx hb dX0_readLeaf_4 (by decide) ?_
  refine lv_icmp_ne (tgt := 15) hx hb dX0_readLeaf_5 (by decide) (fun c_8 => ?_) (fun c_8 => ?_)
  · have h := h.1 c_8
    refine lv_aload_n hx hb dX0_readLeaf_15 rfl (lv_at hl 0 rfl) ?_
    have hPc := hP
    have hDc := hD
    have hFc := rc_freeI hD hS hA
    refine va_calli (va_runV (As := []) (rest := []) ⟨hx, hb, hml, hown, hts⟩ (c_X0_nameHere l E eo eb ec H.size eLn eFt eCc eKy eLv eOb eOn eSt eEd eSo eBy eCo _ h) (cwV 0 hts gX0_readLeaf_X0_nameHere rfl rfl rfl (by decide +kernel) ⟨Nat.le_of_ble_eq_true rfl, Nat.le_of_ble_eq_true rfl⟩) ⟨fun a U g mk q => ⟨q.1, q.2.blind⟩, va_recv hK hPc (ci := 0) (q0 := 0) rfl rfl, fun U hU hW => ⟨rfl, by rw [hU], by rw [hU]; exact hPc, hE.call hS hFc hW hU, hDc.weaken (fun _ _ _ _ => trivial)⟩⟩ rfl rfl hl.1 rfl (lv_room (Nat.le_of_ble_eq_true rfl)) dX0_readLeaf_16 ⟨Nat.zero_le _, Nat.zero_le _⟩) hS (fun q _ h => hFc q h) hFc (fun r_9 u t H1 locs ht hvm h hB hz1 hk1 hS => ?_)
    obtain ⟨hP1, hD1⟩ := hB
    rw [ht] at hP1
    have hP := hP1
    have hD := hD1.weaken (fun _ _ _ h => hFc _ h)
    generalize H1 = H at hP hS ⊢
    have hP : va_P E.1 vwCl (rw_17 E eo eb ec eLn eFt eCc eKy eLv eOb eOn eSt eEd eSo eBy eCo) H := hP
    have hD : va_D A (rw_17 E eo eb ec eLn eFt eCc eKy eLv eOb eOn eSt eEd eSo eBy eCo) := hD
    exact J19 r_9 eFt eCc eLv eSt eEd eSo eCo h _ _ hP hD hS ls (lv_sub hl [0] rfl)
  · have h := h.2 c_8
    refine lv_aload_n hx hb dX0_readLeaf_8 rfl (lv_at hl 0 rfl) ?_
    have hPc := hP
    have hDc := hD
    have hFc := rc_freeI hD hS hA
    refine va_calli (va_runV (As := []) (rest := []) ⟨hx, hb, hml, hown, hts⟩ (c_X0_numberHere l E eo eb ec H.size eLn eFt eCc eKy eLv eOb eOn eSt eEd eSo eBy eCo _ h) (cwV 0 hts gX0_readLeaf_X0_numberHere rfl rfl rfl (by decide +kernel) ⟨Nat.le_of_ble_eq_true rfl, Nat.le_of_ble_eq_true rfl⟩) ⟨fun a U g mk q => ⟨q.1, q.2.blind⟩, va_recv hK hPc (ci := 0) (q0 := 0) rfl rfl, fun U hU hW => ⟨rfl, by rw [hU], by rw [hU]; exact hPc, hE.call hS hFc hW hU, hDc.weaken (fun _ _ _ _ => trivial)⟩⟩ rfl rfl hl.1 rfl (lv_room (Nat.le_of_ble_eq_true rfl)) dX0_readLeaf_9 ⟨Nat.zero_le _, Nat.zero_le _⟩) hS (fun q _ h => hFc q h) hFc (fun r_10 u t H1 locs ht hvm h hB hz1 hk1 hS => ?_)
    obtain ⟨hP1, hD1⟩ := hB
    rw [ht] at hP1
    have hP := hP1
    have hD := hD1.weaken (fun _ _ _ h => hFc _ h)
    generalize H1 = H at hP hS ⊢
    have hP : va_P E.1 vwCl (rw_17 E eo eb ec eLn eFt eCc eKy eLv eOb eOn eSt eEd eSo eBy eCo) H := hP
    have hD : va_D A (rw_17 E eo eb ec eLn eFt eCc eKy eLv eOb eOn eSt eEd eSo eBy eCo) := hD
    refine lv_goto (tgt := 19) hx hb dX0_readLeaf_12 (by decide) ?_
    exact J19 r_10 eFt eCc eLv eSt eEd eSo eCo h _ _ hP hD hS ls (lv_sub hl [0] rfl)
def wp_X0_readKey (eLn : Int32) (eFt : Int32) (eKy : Int32) (eSt : Int32) (eEd : Int32) (eSo : Int32) (eBy : Nat → Int32) (Q : Int32 → Int32 → Int32 → Int32 → Int32 → Prop) : Prop :=
  wp_X0_isWord eSt eEd eSo eBy 0 (fun (r_1 : Int32) => ((r_1 = 0 → wp_X0_isWord eSt eEd eSo eBy 1 (fun (r_3 : Int32) => ((r_3 = 0 → wp_X0_isWord eSt eEd eSo eBy 2 (fun (r_5 : Int32) => ((r_5 = 0 → wp_X0_setFault eFt eSt (fun (w_7 : Int32) => Q w_7 eKy eSt eEd eSo)) ∧ (¬ (r_5 = 0) → wp_X0_moveOn eLn eEd eSo eBy (fun (w_8 : Int32) (w_9 : Int32) (w_10 : Int32) => Q eFt 2 w_8 w_9 w_10))))) ∧ (¬ (r_3 = 0) → wp_X0_moveOn eLn eEd eSo eBy (fun (w_11 : Int32) (w_12 : Int32) (w_13 : Int32) => Q eFt 1 w_11 w_12 w_13))))) ∧ (¬ (r_1 = 0) → wp_X0_moveOn eLn eEd eSo eBy (fun (w_14 : Int32) (w_15 : Int32) (w_16 : Int32) => Q eFt 0 w_14 w_15 w_16))))
set_option maxHeartbeats 4000000 in
set_option maxRecDepth 100000 in
theorem c_X0_readKey (l : Launch) (E : gE) (eo eb ec : Nat) (sz : Nat) (eLn : Int32) (eFt : Int32) (eCc : Int32) (eKy : Int32) (eLv : Int32) (eOb : Int32) (eOn : Int32) (eSt : Int32) (eEd : Int32) (eSo : Int32) (eBy : Nat → Int32) (eCo : Nat → Int32)   (Q : Int32 → Int32 → Int32 → Int32 → Int32 → Prop) (h : wp_X0_readKey eLn eFt eKy eSt eEd eSo eBy Q) : Met l yX0_readKey wsX0_readKey ({ frames := 5, cells := 0, slots := 0, locals := 107 } : Room) (va_Pc [.ref eo] (rc_B E (rw_17 E eo eb ec eLn eFt eCc eKy eLv eOb eOn eSt eEd eSo eBy eCo) sz)) (va_Qv (S := Int32 × Int32 × Int32 × Int32 × Int32) (fun (u : Int32 × Int32 × Int32 × Int32 × Int32) => Q u.1 u.2.1 u.2.2.1 u.2.2.2.1 u.2.2.2.2) (fun u t => rc_C E (va_A (rw_17 E eo eb ec eLn eFt eCc eKy eLv eOb eOn eSt eEd eSo eBy eCo) sz) (rw_17 E eo eb ec eLn u.1 eCc u.2.1 eLv eOb eOn u.2.2.1 u.2.2.2.1 u.2.2.2.2 eBy eCo) t) (va_A (rw_17 E eo eb ec eLn eFt eCc eKy eLv eOb eOn eSt eEd eSo eBy eCo) sz)) 0 0 (va_A (rw_17 E eo eb ec eLn eFt eCc eKy eLv eOb eOn eSt eEd eSo eBy eCo) sz) := by
  refine rc_enterV (cc := cX0_readKey) (maxL := 1) (by decide) rfl (Nat.le_of_ble_eq_true rfl) ?_
  intro p e s m args below meth c QQ A hx hb hml hown hts hmn hE hP hD hA hret ls hl
  have hown : s.vm.findClass RX0 = some m.cls := hown
  have hK := hE.1
  have hS : va_S A s.heap s.heap [] := va_S.rf
  have hl : lv_has ls 1 [(0, .ref eo)] := hl
  have n_X0 : ∀ w ∈ wsX00, w ∈ wsX0_readKey := fun _ h => List.mem_cons_of_mem _ (List.mem_append_right _ h)
  have k_29 := hts (.fieldLink RX0 29 "RidgeClaps$Reader" "key" "I") (List.mem_of_getElem? (i := 1) rfl)
  unfold wp_X0_readKey at h
  obtain ⟨H, hH⟩ : ∃ H, H = s.heap := ⟨_, rfl⟩
  obtain ⟨locs, hlocs⟩ : ∃ locs : List Loc, locs = [] := ⟨_, rfl⟩
  have hP : va_P E.1 vwCl (rw_17 E eo eb ec eLn eFt eCc eKy eLv eOb eOn eSt eEd eSo eBy eCo) H := by rw [hH]; exact hP
  have hS : va_S A s.heap H locs := by rw [hH, hlocs]; exact hS
  suffices hgo : W p l e ({ frames := 5, cells := 0, slots := 0, locals := 107 } : Room) s m args below meth c H locs 0 0 QQ (F0 m 0 ls []) from by rw [hH, hlocs] at hgo; exact hgo
  refine lv_aload_n hx hb dX0_readKey_0 rfl (lv_at hl 0 rfl) ?_
  refine va_ldcS hx hb hown (hE.2.2.1 0 _ rfl) dX0_readKey_1 ?_
  have hPc := hP
  have hDc := hD
  have hFc := rc_freeI hD hS hA
  refine va_calli (va_runV (As := [.ref (E.2.2.2.1 0)]) (rest := []) ⟨hx, hb, hml, hown, hts⟩ (c_X0_isWord l E eo eb ec H.size eLn eFt eCc eKy eLv eOb eOn eSt eEd eSo eBy eCo 0 (by decide) _ h) (cwV 1 hts gX0_readKey_X0_isWord rfl rfl rfl (by decide +kernel) ⟨Nat.le_of_ble_eq_true rfl, Nat.le_of_ble_eq_true rfl⟩) ⟨fun a U g mk q => ⟨q.1, q.2.blind⟩, va_recv hK hPc (ci := 0) (q0 := 0) rfl rfl, fun U hU hW => ⟨rfl, by rw [hU], by rw [hU]; exact hPc, hE.call hS hFc hW hU, hDc.weaken (fun _ _ _ _ => trivial)⟩⟩ rfl rfl hl.1 rfl (lv_room (Nat.le_of_ble_eq_true rfl)) dX0_readKey_3 ⟨Nat.zero_le _, Nat.zero_le _⟩) hS (fun q _ h => hFc q h) hFc (fun r_1 u t H1 locs ht hvm h hB hz1 hk1 hS => ?_)
  obtain ⟨hP1, hD1⟩ := hB
  rw [ht] at hP1
  have hP := hP1
  have hD := hD1.weaken (fun _ _ _ h => hFc _ h)
  generalize H1 = H at hP hS ⊢
  have hP : va_P E.1 vwCl (rw_17 E eo eb ec eLn eFt eCc eKy eLv eOb eOn eSt eEd eSo eBy eCo) H := hP
  have hD : va_D A (rw_17 E eo eb ec eLn eFt eCc eKy eLv eOb eOn eSt eEd eSo eBy eCo) := hD
  refine lv_if_eq (tgt := 17) hx hb dX0_readKey_6 (by decide) (fun c_2 => ?_) (fun c_2 => ?_)
  · have h := h.1 c_2
    refine lv_aload_n hx hb dX0_readKey_17 rfl (lv_at hl 0 rfl) ?_
    refine va_ldcS hx hb hown (hE.2.2.1 1 _ rfl) dX0_readKey_18 ?_
    have hPc := hP
    have hDc := hD
    have hFc := rc_freeI hD hS hA
    refine va_calli (va_runV (As := [.ref (E.2.2.2.1 1)]) (rest := []) ⟨hx, hb, hml, hown, hts⟩ (c_X0_isWord l E eo eb ec H.size eLn eFt eCc eKy eLv eOb eOn eSt eEd eSo eBy eCo 1 (by decide) _ h) (cwV 1 hts gX0_readKey_X0_isWord rfl rfl rfl (by decide +kernel) ⟨Nat.le_of_ble_eq_true rfl, Nat.le_of_ble_eq_true rfl⟩) ⟨fun a U g mk q => ⟨q.1, q.2.blind⟩, va_recv hK hPc (ci := 0) (q0 := 0) rfl rfl, fun U hU hW => ⟨rfl, by rw [hU], by rw [hU]; exact hPc, hE.call hS hFc hW hU, hDc.weaken (fun _ _ _ _ => trivial)⟩⟩ rfl rfl hl.1 rfl (lv_room (Nat.le_of_ble_eq_true rfl)) dX0_readKey_20 ⟨Nat.zero_le _, Nat.zero_le _⟩) hS (fun q _ h => hFc q h) hFc (fun r_3 u t H1 locs ht hvm h hB hz1 hk1 hS => ?_)
    obtain ⟨hP1, hD1⟩ := hB
    rw [ht] at hP1
    have hP := hP1
    have hD := hD1.weaken (fun _ _ _ h => hFc _ h)
    generalize H1 = H at hP hS ⊢
    have hP : va_P E.1 vwCl (rw_17 E eo eb ec eLn eFt eCc eKy eLv eOb eOn eSt eEd eSo eBy eCo) H := hP
    have hD : va_D A (rw_17 E eo eb ec eLn eFt eCc eKy eLv eOb eOn eSt eEd eSo eBy eCo) := hD
    refine lv_if_eq (tgt := 34) hx hb dX0_readKey_23 (by decide) (fun c_4 => ?_) (fun c_4 => ?_)
    · have h := h.1 c_4
      refine lv_aload_n hx hb dX0_readKey_34 rfl (lv_at hl 0 rfl) ?_
      refine va_ldcS hx hb hown (hE.2.2.1 2 _ rfl) dX0_readKey_35 ?_
      have hPc := hP
      have hDc := hD
      have hFc := rc_freeI hD hS hA
      refine va_calli (va_runV (As := [.ref (E.2.2.2.1 2)]) (rest := []) ⟨hx, hb, hml, hown, hts⟩ (c_X0_isWord l E eo eb ec H.size eLn eFt eCc eKy eLv eOb eOn eSt eEd eSo eBy eCo 2 (by decide) _ h) (cwV 1 hts gX0_readKey_X0_isWord rfl rfl rfl (by decide +kernel) ⟨Nat.le_of_ble_eq_true rfl, Nat.le_of_ble_eq_true rfl⟩) ⟨fun a U g mk q => ⟨q.1, q.2.blind⟩, va_recv hK hPc (ci := 0) (q0 := 0) rfl rfl, fun U hU hW => ⟨rfl, by rw [hU], by rw [hU]; exact hPc, hE.call hS hFc hW hU, hDc.weaken (fun _ _ _ _ => trivial)⟩⟩ rfl rfl hl.1 rfl (lv_room (Nat.le_of_ble_eq_true rfl)) dX0_readKey_37 ⟨Nat.zero_le _, Nat.zero_le _⟩) hS (fun q _ h => hFc q h) hFc (fun r_5 u t H1 locs ht hvm h hB hz1 hk1 hS => ?_)
      obtain ⟨hP1, hD1⟩ := hB
      rw [ht] at hP1
      have hP := hP1
      have hD := hD1.weaken (fun _ _ _ h => hFc _ h)
      generalize H1 = H at hP hS ⊢
      have hP : va_P E.1 vwCl (rw_17 E eo eb ec eLn eFt eCc eKy eLv eOb eOn eSt eEd eSo eBy eCo) H := hP
      have hD : va_D A (rw_17 E eo eb ec eLn eFt eCc eKy eLv eOb eOn eSt eEd eSo eBy eCo) := hD
      refine lv_if_eq (tgt := 51) hx hb dX0_readKey_40 (by decide) (fun c_6 => ?_) (fun c_6 => ?_)
      · have h := h.1 c_6
        refine lv_aload_n hx hb dX0_readKey_51 rfl (lv_at hl 0 rfl) ?_
        have hPc := hP
        have hDc := hD
        have hFc := rc_freeI hD hS hA
        refine va_callv (va_runV (As := []) (rest := []) ⟨hx, hb, hml, hown, hts⟩ (c_X0_setFault l E eo eb ec H.size eLn eFt eCc eKy eLv eOb eOn eSt eEd eSo eBy eCo _ h) (cwV 0 hts gX0_readKey_X0_setFault rfl rfl rfl (by decide +kernel) ⟨Nat.le_of_ble_eq_true rfl, Nat.le_of_ble_eq_true rfl⟩) ⟨fun a U g mk q => ⟨q.1, q.2.blind⟩, va_recv hK hPc (ci := 0) (q0 := 0) rfl rfl, fun U hU hW => ⟨rfl, by rw [hU], by rw [hU]; exact hPc, hE.call hS hFc hW hU, hDc.weaken (fun _ _ _ _ => trivial)⟩⟩ rfl rfl hl.1 rfl (lv_room (Nat.le_of_ble_eq_true rfl)) dX0_readKey_52 ⟨Nat.zero_le _, Nat.zero_le _⟩) hS (fun q _ h => hFc q h) hFc (fun u t H1 locs ht hvm h hB hz1 hk1 hS => ?_)
        obtain ⟨w_7, rfl⟩ : ∃ z, z = u := ⟨_, rfl⟩
        obtain ⟨hP1, hD1⟩ := hB
        rw [ht] at hP1
        have hP := hP1
        have hD := hD1.weaken (fun _ _ _ h => hFc _ h)
        generalize H1 = H at hP hS ⊢
        have hP : va_P E.1 vwCl (rw_17 E eo eb ec eLn w_7 eCc eKy eLv eOb eOn eSt eEd eSo eBy eCo) H := hP
        have hD : va_D A (rw_17 E eo eb ec eLn w_7 eCc eKy eLv eOb eOn eSt eEd eSo eBy eCo) := hD
        exact hret _ _ _ _ (w_7, eKy, eSt, eEd, eSo) h hP hD hS dX0_readKey_55
      · have h := h.2 c_6
        refine lv_aload_n hx hb dX0_readKey_43 rfl (lv_at hl 0 rfl) ?_
        refine lv_iconst (v := 2) hx hb dX0_readKey_44 (by decide) ?_
        refine va_put (D := E.1) (ci := 0) (v := .int 2) (ty := .int) (C := RX0) (T := TX0) (N := 12) hx hb hts n_X0 tyX0 tyX0_ok nmX0 hown hK hP hD hS 0 rfl rfl 5 (by decide) k_29 (fun _ h9 => h9) rfl (by decide +kernel) rfl rfl (Nat.le_of_ble_eq_true rfl) dX0_readKey_45 (fun H locs hP hD hS => ?_)
        have hP : va_P E.1 vwCl (rw_17 E eo eb ec eLn eFt eCc 2 eLv eOb eOn eSt eEd eSo eBy eCo) H := hP
        have hD : va_D A (rw_17 E eo eb ec eLn eFt eCc 2 eLv eOb eOn eSt eEd eSo eBy eCo) := hD
        refine lv_goto (tgt := 56) hx hb dX0_readKey_48 (by decide) ?_
        refine lv_aload_n hx hb dX0_readKey_56 rfl (lv_at hl 0 rfl) ?_
        have hPc := hP
        have hDc := hD
        have hFc := rc_freeI hD hS hA
        refine va_callv (va_runV (As := []) (rest := []) ⟨hx, hb, hml, hown, hts⟩ (c_X0_moveOn l E eo eb ec H.size eLn eFt eCc 2 eLv eOb eOn eSt eEd eSo eBy eCo _ h) (cwV 0 hts gX0_readKey_X0_moveOn rfl rfl rfl (by decide +kernel) ⟨Nat.le_of_ble_eq_true rfl, Nat.le_of_ble_eq_true rfl⟩) ⟨fun a U g mk q => ⟨q.1, q.2.blind⟩, va_recv hK hPc (ci := 0) (q0 := 0) rfl rfl, fun U hU hW => ⟨rfl, by rw [hU], by rw [hU]; exact hPc, hE.call hS hFc hW hU, hDc.weaken (fun _ _ _ _ => trivial)⟩⟩ rfl rfl hl.1 rfl (lv_room (Nat.le_of_ble_eq_true rfl)) dX0_readKey_57 ⟨Nat.zero_le _, Nat.zero_le _⟩) hS (fun q _ h => hFc q h) hFc (fun u t H1 locs ht hvm h hB hz1 hk1 hS => ?_)
        obtain ⟨w_8, w_9, w_10⟩ := u
        obtain ⟨hP1, hD1⟩ := hB
        rw [ht] at hP1
        have hP := hP1
        have hD := hD1.weaken (fun _ _ _ h => hFc _ h)
        generalize H1 = H at hP hS ⊢
        have hP : va_P E.1 vwCl (rw_17 E eo eb ec eLn eFt eCc 2 eLv eOb eOn w_8 w_9 w_10 eBy eCo) H := hP
        have hD : va_D A (rw_17 E eo eb ec eLn eFt eCc 2 eLv eOb eOn w_8 w_9 w_10 eBy eCo) := hD
        exact hret _ _ _ _ (eFt, 2, w_8, w_9, w_10) h hP hD hS dX0_readKey_60
    · have h := h.2 c_4
      refine lv_aload_n hx hb dX0_readKey_26 rfl (lv_at hl 0 rfl) ?_
      refine lv_iconst (v := 1) hx hb dX0_readKey_27 (by decide) ?_
      refine va_put (D := E.1) (ci := 0) (v := .int 1) (ty := .int) (C := RX0) (T := TX0) (N := 12) hx hb hts n_X0 tyX0 tyX0_ok nmX0 hown hK hP hD hS 0 rfl rfl 5 (by decide) k_29 (fun _ h9 => h9) rfl (by decide +kernel) rfl rfl (Nat.le_of_ble_eq_true rfl) dX0_readKey_28 (fun H locs hP hD hS => ?_)
      have hP : va_P E.1 vwCl (rw_17 E eo eb ec eLn eFt eCc 1 eLv eOb eOn eSt eEd eSo eBy eCo) H := hP
      have hD : va_D A (rw_17 E eo eb ec eLn eFt eCc 1 eLv eOb eOn eSt eEd eSo eBy eCo) := hD
      refine lv_goto (tgt := 56) hx hb dX0_readKey_31 (by decide) ?_
      refine lv_aload_n hx hb dX0_readKey_56 rfl (lv_at hl 0 rfl) ?_
      have hPc := hP
      have hDc := hD
      have hFc := rc_freeI hD hS hA
      refine va_callv (va_runV (As := []) (rest := []) ⟨hx, hb, hml, hown, hts⟩ (c_X0_moveOn l E eo eb ec H.size eLn eFt eCc 1 eLv eOb eOn eSt eEd eSo eBy eCo _ h) (cwV 0 hts gX0_readKey_X0_moveOn rfl rfl rfl (by decide +kernel) ⟨Nat.le_of_ble_eq_true rfl, Nat.le_of_ble_eq_true rfl⟩) ⟨fun a U g mk q => ⟨q.1, q.2.blind⟩, va_recv hK hPc (ci := 0) (q0 := 0) rfl rfl, fun U hU hW => ⟨rfl, by rw [hU], by rw [hU]; exact hPc, hE.call hS hFc hW hU, hDc.weaken (fun _ _ _ _ => trivial)⟩⟩ rfl rfl hl.1 rfl (lv_room (Nat.le_of_ble_eq_true rfl)) dX0_readKey_57 ⟨Nat.zero_le _, Nat.zero_le _⟩) hS (fun q _ h => hFc q h) hFc (fun u t H1 locs ht hvm h hB hz1 hk1 hS => ?_)
      obtain ⟨w_11, w_12, w_13⟩ := u
      obtain ⟨hP1, hD1⟩ := hB
      rw [ht] at hP1
      have hP := hP1
      have hD := hD1.weaken (fun _ _ _ h => hFc _ h)
      generalize H1 = H at hP hS ⊢
      have hP : va_P E.1 vwCl (rw_17 E eo eb ec eLn eFt eCc 1 eLv eOb eOn w_11 w_12 w_13 eBy eCo) H := hP
      have hD : va_D A (rw_17 E eo eb ec eLn eFt eCc 1 eLv eOb eOn w_11 w_12 w_13 eBy eCo) := hD
      exact hret _ _ _ _ (eFt, 1, w_11, w_12, w_13) h hP hD hS dX0_readKey_60
  · have h := h.2 c_2
    refine lv_aload_n hx hb dX0_readKey_9 rfl (lv_at hl 0 rfl) ?_
    refine lv_iconst (v := 0) hx hb dX0_readKey_10 (by decide) ?_
    refine va_put (D := E.1) (ci := 0) (v := .int 0) (ty := .int) (C := RX0) (T := TX0) (N := 12) hx hb hts n_X0 tyX0 tyX0_ok nmX0 hown hK hP hD hS 0 rfl rfl 5 (by decide) k_29 (fun _ h9 => h9) rfl (by decide +kernel) rfl rfl (Nat.le_of_ble_eq_true rfl) dX0_readKey_11 (fun H locs hP hD hS => ?_)
    have hP : va_P E.1 vwCl (rw_17 E eo eb ec eLn eFt eCc 0 eLv eOb eOn eSt eEd eSo eBy eCo) H := hP
    have hD : va_D A (rw_17 E eo eb ec eLn eFt eCc 0 eLv eOb eOn eSt eEd eSo eBy eCo) := hD
    refine lv_goto (tgt := 56) hx hb dX0_readKey_14 (by decide) ?_
    refine lv_aload_n hx hb dX0_readKey_56 rfl (lv_at hl 0 rfl) ?_
    have hPc := hP
    have hDc := hD
    have hFc := rc_freeI hD hS hA
    refine va_callv (va_runV (As := []) (rest := []) ⟨hx, hb, hml, hown, hts⟩ (c_X0_moveOn l E eo eb ec H.size eLn eFt eCc 0 eLv eOb eOn eSt eEd eSo eBy eCo _ h) (cwV 0 hts gX0_readKey_X0_moveOn rfl rfl rfl (by decide +kernel) ⟨Nat.le_of_ble_eq_true rfl, Nat.le_of_ble_eq_true rfl⟩) ⟨fun a U g mk q => ⟨q.1, q.2.blind⟩, va_recv hK hPc (ci := 0) (q0 := 0) rfl rfl, fun U hU hW => ⟨rfl, by rw [hU], by rw [hU]; exact hPc, hE.call hS hFc hW hU, hDc.weaken (fun _ _ _ _ => trivial)⟩⟩ rfl rfl hl.1 rfl (lv_room (Nat.le_of_ble_eq_true rfl)) dX0_readKey_57 ⟨Nat.zero_le _, Nat.zero_le _⟩) hS (fun q _ h => hFc q h) hFc (fun u t H1 locs ht hvm h hB hz1 hk1 hS => ?_)
    obtain ⟨w_14, w_15, w_16⟩ := u
    obtain ⟨hP1, hD1⟩ := hB
    rw [ht] at hP1
    have hP := hP1
    have hD := hD1.weaken (fun _ _ _ h => hFc _ h)
    generalize H1 = H at hP hS ⊢
    have hP : va_P E.1 vwCl (rw_17 E eo eb ec eLn eFt eCc 0 eLv eOb eOn w_14 w_15 w_16 eBy eCo) H := hP
    have hD : va_D A (rw_17 E eo eb ec eLn eFt eCc 0 eLv eOb eOn w_14 w_15 w_16 eBy eCo) := hD
    exact hret _ _ _ _ (eFt, 0, w_14, w_15, w_16) h hP hD hS dX0_readKey_60
