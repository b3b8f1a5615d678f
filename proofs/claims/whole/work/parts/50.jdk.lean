def wp_J0_coder_7d493  (Q : Int32 → Prop) : Prop :=
  Q 0
set_option maxHeartbeats 4000000 in
set_option maxRecDepth 100000 in
theorem c_J0_coder_7d493 (l : Launch) (E : gE)  (sz : Nat)   (wj : Nat) (hwj : wj < 6) (Q : Int32 → Prop) (h : wp_J0_coder_7d493 Q) : Met l yJ0_coder_7d493 wsJ0_coder_7d493 ({ frames := 0, cells := 0, slots := 0, locals := 0 } : Room) (va_Pc [.ref (E.2.2.2.1 wj)] (rc_B E ([]) sz)) (va_Qi (S := Unit) (fun (r : Int32) (u : Unit) => Q r) (fun u t => rc_C E (va_A ([]) sz) ([]) t) (va_A ([]) sz)) 0 0 (va_A ([]) sz) := by
  refine rc_enterI (cc := cJ0_coder_7d493) (maxL := 1) (by decide) rfl (Nat.le_of_ble_eq_true rfl) ?_
  intro p e s m args below meth c QQ A hx hb hml hown hts hmn hE hP hD hA hret ls hl
  have hown : s.vm.findClass RJ0 = some m.cls := hown
  have hK := hE.1
  have hS : va_S A s.heap s.heap [] := va_S.rf
  have hl : lv_has ls 1 [(0, .ref (E.2.2.2.1 wj))] := hl
  have k_38 := hts (.fieldLink RJ0 38 "java/lang/String" "COMPACT_STRINGS" "Z") (List.mem_of_getElem? (i := 1) rfl)
  have k_15 := hts (.fieldLink RJ0 15 "java/lang/String" "coder" "B") (List.mem_of_getElem? (i := 2) rfl)
  unfold wp_J0_coder_7d493 at h
  obtain ⟨H, hH⟩ : ∃ H, H = s.heap := ⟨_, rfl⟩
  obtain ⟨locs, hlocs⟩ : ∃ locs : List Loc, locs = [] := ⟨_, rfl⟩
  have hP : va_P E.1 vwCl ([]) H := by rw [hH]; exact hP
  have hS : va_S A s.heap H locs := by rw [hH, hlocs]; exact hS
  suffices hgo : W p l e ({ frames := 0, cells := 0, slots := 0, locals := 0 } : Room) s m args below meth c H locs 0 0 QQ (F0 m 0 ls []) from by rw [hH, hlocs] at hgo; exact hgo
  refine va_gets hx hb hE.2.2.2.2.2.2.1 hS hown k_38 (fun _ h9 => h9) dJ0_coder_7d493_0 ?_
  refine lv_if_eq (tgt := 13) hx hb dJ0_coder_7d493_3 (by decide) (fun z => absurd z (by decide)) (fun _ => ?_)
  refine lv_aload_n hx hb dJ0_coder_7d493_6 rfl (lv_at hl 0 rfl) ?_
  refine vk_getf hx hb (hE.2.2.2.2.2.1.1 wj hwj).2.1 hS hown k_15 (fun _ h9 => h9) dJ0_coder_7d493_7 ?_
  refine lv_goto (tgt := 14) hx hb dJ0_coder_7d493_10 (by decide) ?_
  exact hret _ _ _ _ 0 () (by decide) h hP hD hS dJ0_coder_7d493_14
def wp_J0_length_8abf5 (wj : Nat) (Q : Int32 → Prop) : Prop :=
  wp_J0_coder_7d493 (fun (r_1 : Int32) => Q ((nI (rc_len.getD wj 0)) >>> (r_1 &&& 31)))
set_option maxHeartbeats 4000000 in
set_option maxRecDepth 100000 in
theorem c_J0_length_8abf5 (l : Launch) (E : gE)  (sz : Nat)   (wj : Nat) (hwj : wj < 6) (Q : Int32 → Prop) (h : wp_J0_length_8abf5 wj Q) : Met l yJ0_length_8abf5 wsJ0_length_8abf5 ({ frames := 1, cells := 0, slots := 0, locals := 20 } : Room) (va_Pc [.ref (E.2.2.2.1 wj)] (rc_B E ([]) sz)) (va_Qi (S := Unit) (fun (r : Int32) (u : Unit) => Q r) (fun u t => rc_C E (va_A ([]) sz) ([]) t) (va_A ([]) sz)) 0 0 (va_A ([]) sz) := by
  refine rc_enterI (cc := cJ0_length_8abf5) (maxL := 1) (by decide) rfl (Nat.le_of_ble_eq_true rfl) ?_
  intro p e s m args below meth c QQ A hx hb hml hown hts hmn hE hP hD hA hret ls hl
  have hown : s.vm.findClass RJ0 = some m.cls := hown
  have hK := hE.1
  have hS : va_S A s.heap s.heap [] := va_S.rf
  have hl : lv_has ls 1 [(0, .ref (E.2.2.2.1 wj))] := hl
  have k_9 := hts (.fieldLink RJ0 9 "java/lang/String" "value" "[B") (List.mem_of_getElem? (i := 1) rfl)
  unfold wp_J0_length_8abf5 at h
  obtain ⟨H, hH⟩ : ∃ H, H = s.heap := ⟨_, rfl⟩
  obtain ⟨locs, hlocs⟩ : ∃ locs : List Loc, locs = [] := ⟨_, rfl⟩
  have hP : va_P E.1 vwCl ([]) H := by rw [hH]; exact hP
  have hS : va_S A s.heap H locs := by rw [hH, hlocs]; exact hS
  suffices hgo : W p l e ({ frames := 1, cells := 0, slots := 0, locals := 20 } : Room) s m args below meth c H locs 0 0 QQ (F0 m 0 ls []) from by rw [hH, hlocs] at hgo; exact hgo
  refine lv_aload_n hx hb dJ0_length_8abf5_0 rfl (lv_at hl 0 rfl) ?_
  refine vk_getf hx hb (hE.2.2.2.2.2.1.1 wj hwj).2.2.1 hS hown k_9 (fun _ h9 => h9) dJ0_length_8abf5_1 ?_
  refine va_tlen (v := nI (rc_len.getD wj 0)) hx hb (hE.2.2.2.2.2.1.1 wj hwj).2.2.2 hS rfl dJ0_length_8abf5_4 ?_
  refine lv_aload_n hx hb dJ0_length_8abf5_5 rfl (lv_at hl 0 rfl) ?_
  have hPc := hP
  have hDc := hD
  have hFc := rc_freeI hD hS hA
  refine va_calli (va_runV (As := []) (rest := [.int (nI (rc_len.getD wj 0))]) ⟨hx, hb, hml, hown, hts⟩ (c_J0_coder_7d493 l E H.size wj hwj _ h) (cwV 0 hts gJ0_length_8abf5_J0_coder_7d493 rfl rfl rfl (by decide +kernel) ⟨Nat.le_of_ble_eq_true rfl, Nat.le_of_ble_eq_true rfl⟩) ⟨fun a U g mk q => ⟨q.1, q.2.blind⟩, vk_recv hE.2.2.2.2.2.1 hwj hS, fun U hU hW => ⟨rfl, by rw [hU], by rw [hU]; exact hPc, hE.call hS hFc hW hU, hDc.weaken (fun _ _ _ _ => trivial)⟩⟩ rfl rfl hl.1 rfl (lv_room (Nat.le_of_ble_eq_true rfl)) dJ0_length_8abf5_6 ⟨Nat.zero_le _, Nat.zero_le _⟩) hS (fun q _ h => hFc q h) hFc (fun r_1 u t H1 locs ht hvm h hB hz1 hk1 hS => ?_)
  obtain ⟨hP1, hD1⟩ := hB
  rw [ht] at hP1
  have hP := hP1
  have hD := hD1.weaken (fun _ _ _ h => hFc _ h)
  generalize H1 = H at hP hS ⊢
  have hP : va_P E.1 vwCl ([]) H := hP
  have hD : va_D A ([]) := hD
  refine lv_ishr hx hb dJ0_length_8abf5_9 ?_
  exact hret _ _ _ _ ((nI (rc_len.getD wj 0)) >>> (r_1 &&& 31)) () rfl h hP hD hS dJ0_length_8abf5_10
def wp_J0_isLatin1_aae02  (Q : Int32 → Prop) : Prop :=
  Q 1
set_option maxHeartbeats 4000000 in
set_option maxRecDepth 100000 in
theorem c_J0_isLatin1_aae02 (l : Launch) (E : gE)  (sz : Nat)   (wj : Nat) (hwj : wj < 6) (Q : Int32 → Prop) (h : wp_J0_isLatin1_aae02 Q) : Met l yJ0_isLatin1_aae02 wsJ0_isLatin1_aae02 ({ frames := 0, cells := 0, slots := 0, locals := 0 } : Room) (va_Pc [.ref (E.2.2.2.1 wj)] (rc_B E ([]) sz)) (va_Qi (S := Unit) (fun (r : Int32) (u : Unit) => Q r) (fun u t => rc_C E (va_A ([]) sz) ([]) t) (va_A ([]) sz)) 0 0 (va_A ([]) sz) := by
  refine rc_enterI (cc := cJ0_isLatin1_aae02) (maxL := 1) (by decide) rfl (Nat.le_of_ble_eq_true rfl) ?_
  intro p e s m args below meth c QQ A hx hb hml hown hts hmn hE hP hD hA hret ls hl
  have hown : s.vm.findClass RJ0 = some m.cls := hown
  have hK := hE.1
  have hS : va_S A s.heap s.heap [] := va_S.rf
  have hl : lv_has ls 1 [(0, .ref (E.2.2.2.1 wj))] := hl
  have k_38 := hts (.fieldLink RJ0 38 "java/lang/String" "COMPACT_STRINGS" "Z") (List.mem_of_getElem? (i := 1) rfl)
  have k_15 := hts (.fieldLink RJ0 15 "java/lang/String" "coder" "B") (List.mem_of_getElem? (i := 2) rfl)
  unfold wp_J0_isLatin1_aae02 at h
  obtain ⟨H, hH⟩ : ∃ H, H = s.heap := ⟨_, rfl⟩
  obtain ⟨locs, hlocs⟩ : ∃ locs : List Loc, locs = [] := ⟨_, rfl⟩
  have hP : va_P E.1 vwCl ([]) H := by rw [hH]; exact hP
  have hS : va_S A s.heap H locs := by rw [hH, hlocs]; exact hS
  suffices hgo : W p l e ({ frames := 0, cells := 0, slots := 0, locals := 0 } : Room) s m args below meth c H locs 0 0 QQ (F0 m 0 ls []) from by rw [hH, hlocs] at hgo; exact hgo
  refine va_gets hx hb hE.2.2.2.2.2.2.1 hS hown k_38 (fun _ h9 => h9) dJ0_isLatin1_aae02_0 ?_
  refine lv_if_eq (tgt := 17) hx hb dJ0_isLatin1_aae02_3 (by decide) (fun z => absurd z (by decide)) (fun _ => ?_)
  refine lv_aload_n hx hb dJ0_isLatin1_aae02_6 rfl (lv_at hl 0 rfl) ?_
  refine vk_getf hx hb (hE.2.2.2.2.2.1.1 wj hwj).2.1 hS hown k_15 (fun _ h9 => h9) dJ0_isLatin1_aae02_7 ?_
  refine lv_if_ne (tgt := 17) hx hb dJ0_isLatin1_aae02_10 (by decide) (fun z => absurd z (by decide)) (fun _ => ?_)
  refine lv_iconst (v := 1) hx hb dJ0_isLatin1_aae02_13 (by decide) ?_
  refine lv_goto (tgt := 18) hx hb dJ0_isLatin1_aae02_14 (by decide) ?_
  exact hret _ _ _ _ 1 () (by decide) h hP hD hS dJ0_isLatin1_aae02_18
def wp_J3_checkIndex_8e157 (p0 : Int32) (p1 : Int32) (Q : Int32 → Prop) : Prop :=
  ((p0 < 0 → False) ∧ (¬ (p0 < 0) → ((p0 < p1 → Q p0) ∧ (¬ (p0 < p1) → False))))
set_option maxHeartbeats 4000000 in
set_option maxRecDepth 100000 in
theorem c_J3_checkIndex_8e157 (l : Launch) (E : gE) (fa : Nat) (sz : Nat)  (p0 p1 : Int32)  (Q : Int32 → Prop) (h : wp_J3_checkIndex_8e157 p0 p1 Q) : Met l yJ3_checkIndex_8e157 wsJ3_checkIndex_8e157 ({ frames := 0, cells := 0, slots := 0, locals := 0 } : Room) (va_Pc [.int p0, .int p1, .ref fa] (rc_B E ([]) sz)) (va_Qi (S := Unit) (fun (r : Int32) (u : Unit) => Q r) (fun u t => rc_C E (va_A ([]) sz) ([]) t) (va_A ([]) sz)) 0 0 (va_A ([]) sz) := by
  refine rc_enterI (cc := cJ3_checkIndex_8e157) (maxL := 3) (by decide) rfl (Nat.le_of_ble_eq_true rfl) ?_
  intro p e s m args below meth c QQ A hx hb hml hown hts hmn hE hP hD hA hret ls hl
  have hown : s.vm.findClass RJ3 = some m.cls := hown
  have hK := hE.1
  have hS : va_S A s.heap s.heap [] := va_S.rf
  have hl : lv_has ls 3 [(0, .int p0), (1, .int p1), (2, .ref fa)] := hl
  unfold wp_J3_checkIndex_8e157 at h
  obtain ⟨H, hH⟩ : ∃ H, H = s.heap := ⟨_, rfl⟩
  obtain ⟨locs, hlocs⟩ : ∃ locs : List Loc, locs = [] := ⟨_, rfl⟩
  have hP : va_P E.1 vwCl ([]) H := by rw [hH]; exact hP
  have hS : va_S A s.heap H locs := by rw [hH, hlocs]; exact hS
  suffices hgo : W p l e ({ frames := 0, cells := 0, slots := 0, locals := 0 } : Room) s m args below meth c H locs 0 0 QQ (F0 m 0 ls []) from by rw [hH, hlocs] at hgo; exact hgo
  refine lv_iload_n hx hb dJ3_checkIndex_8e157_0 rfl (lv_at hl 0 rfl) ?_
  refine lv_if_lt (tgt := 9) hx hb dJ3_checkIndex_8e157_1 (by decide) (fun c_1 => ?_) (fun c_1 => ?_)
  · have h := h.1 c_1
    exact False.elim h
  · have h := h.2 c_1
    refine lv_iload_n hx hb dJ3_checkIndex_8e157_4 rfl (lv_at hl 0 rfl) ?_
    refine lv_iload_n hx hb dJ3_checkIndex_8e157_5 rfl (lv_at hl 1 rfl) ?_
    refine lv_icmp_lt (tgt := 16) hx hb dJ3_checkIndex_8e157_6 (by decide) (fun c_2 => ?_) (fun c_2 => ?_)
    · have h := h.1 c_2
      refine lv_iload_n hx hb dJ3_checkIndex_8e157_16 rfl (lv_at hl 0 rfl) ?_
      exact hret _ _ _ _ p0 () rfl h hP hD hS dJ3_checkIndex_8e157_17
    · have h := h.2 c_2
      exact False.elim h
def wp_J3_checkIndex_8e157_n (p0 : Int32) (p1 : Int32) (Q : Int32 → Prop) : Prop :=
  ((p0 < 0 → False) ∧ (¬ (p0 < 0) → ((p0 < p1 → Q p0) ∧ (¬ (p0 < p1) → False))))
set_option maxHeartbeats 4000000 in
set_option maxRecDepth 100000 in
theorem c_J3_checkIndex_8e157_n (l : Launch) (E : gE)  (sz : Nat)  (p0 p1 : Int32)  (Q : Int32 → Prop) (h : wp_J3_checkIndex_8e157_n p0 p1 Q) : Met l yJ3_checkIndex_8e157 wsJ3_checkIndex_8e157 ({ frames := 0, cells := 0, slots := 0, locals := 0 } : Room) (va_Pc [.int p0, .int p1, .null] (rc_B E ([]) sz)) (va_Qi (S := Unit) (fun (r : Int32) (u : Unit) => Q r) (fun u t => rc_C E (va_A ([]) sz) ([]) t) (va_A ([]) sz)) 0 0 (va_A ([]) sz) := by
  refine rc_enterI (cc := cJ3_checkIndex_8e157) (maxL := 3) (by decide) rfl (Nat.le_of_ble_eq_true rfl) ?_
  intro p e s m args below meth c QQ A hx hb hml hown hts hmn hE hP hD hA hret ls hl
  have hown : s.vm.findClass RJ3 = some m.cls := hown
  have hK := hE.1
  have hS : va_S A s.heap s.heap [] := va_S.rf
  have hl : lv_has ls 3 [(0, .int p0), (1, .int p1), (2, .null)] := hl
  unfold wp_J3_checkIndex_8e157_n at h
  obtain ⟨H, hH⟩ : ∃ H, H = s.heap := ⟨_, rfl⟩
  obtain ⟨locs, hlocs⟩ : ∃ locs : List Loc, locs = [] := ⟨_, rfl⟩
  have hP : va_P E.1 vwCl ([]) H := by rw [hH]; exact hP
  have hS : va_S A s.heap H locs := by rw [hH, hlocs]; exact hS
  suffices hgo : W p l e ({ frames := 0, cells := 0, slots := 0, locals := 0 } : Room) s m args below meth c H locs 0 0 QQ (F0 m 0 ls []) from by rw [hH, hlocs] at hgo; exact hgo
  refine lv_iload_n hx hb dJ3_checkIndex_8e157_0 rfl (lv_at hl 0 rfl) ?_
  refine lv_if_lt (tgt := 9) hx hb dJ3_checkIndex_8e157_1 (by decide) (fun c_1 => ?_) (fun c_1 => ?_)
  · have h := h.1 c_1
    exact False.elim h
  · have h := h.2 c_1
    refine lv_iload_n hx hb dJ3_checkIndex_8e157_4 rfl (lv_at hl 0 rfl) ?_
    refine lv_iload_n hx hb dJ3_checkIndex_8e157_5 rfl (lv_at hl 1 rfl) ?_
    refine lv_icmp_lt (tgt := 16) hx hb dJ3_checkIndex_8e157_6 (by decide) (fun c_2 => ?_) (fun c_2 => ?_)
    · have h := h.1 c_2
      refine lv_iload_n hx hb dJ3_checkIndex_8e157_16 rfl (lv_at hl 0 rfl) ?_
      exact hret _ _ _ _ p0 () rfl h hP hD hS dJ3_checkIndex_8e157_17
    · have h := h.2 c_2
      exact False.elim h
def wp_J0_checkIndex_df160 (p0 : Int32) (p1 : Int32) (Q : Prop) : Prop :=
  (wp_J3_checkIndex_8e157_n p0 p1 (fun (r_2 : Int32) => Q) ∧ (∀ a_1 : Nat, wp_J3_checkIndex_8e157 p0 p1 (fun (r_3 : Int32) => Q)))
set_option maxHeartbeats 4000000 in
set_option maxRecDepth 100000 in
theorem c_J0_checkIndex_df160 (l : Launch) (E : gE)  (sz : Nat)  (p0 p1 : Int32)  (Q : Prop) (h : wp_J0_checkIndex_df160 p0 p1 Q) : Met l yJ0_checkIndex_df160 wsJ0_checkIndex_df160 ({ frames := 1, cells := 0, slots := 0, locals := 22 } : Room) (va_Pc [.int p0, .int p1] (rc_B E ([]) sz)) (va_Qv (S := Unit) (fun (u : Unit) => Q) (fun u t => rc_C E (va_A ([]) sz) ([]) t) (va_A ([]) sz)) 0 0 (va_A ([]) sz) := by
  refine rc_enterV (cc := cJ0_checkIndex_df160) (maxL := 2) (by decide) rfl (Nat.le_of_ble_eq_true rfl) ?_
  intro p e s m args below meth c QQ A hx hb hml hown hts hmn hE hP hD hA hret ls hl
  have hown : s.vm.findClass RJ0 = some m.cls := hown
  have hK := hE.1
  have hS : va_S A s.heap s.heap [] := va_S.rf
  have hl : lv_has ls 2 [(0, .int p0), (1, .int p1)] := hl
  have k_1053 := hts (.fieldLink RJ0 1053 "jdk/internal/util/Preconditions" "SIOOBE_FORMATTER" "Ljava/util/function/BiFunction;") (List.mem_of_getElem? (i := 1) rfl)
  unfold wp_J0_checkIndex_df160 at h
  obtain ⟨H, hH⟩ : ∃ H, H = s.heap := ⟨_, rfl⟩
  obtain ⟨locs, hlocs⟩ : ∃ locs : List Loc, locs = [] := ⟨_, rfl⟩
  have hP : va_P E.1 vwCl ([]) H := by rw [hH]; exact hP
  have hS : va_S A s.heap H locs := by rw [hH, hlocs]; exact hS
  suffices hgo : W p l e ({ frames := 1, cells := 0, slots := 0, locals := 22 } : Room) s m args below meth c H locs 0 0 QQ (F0 m 0 ls []) from by rw [hH, hlocs] at hgo; exact hgo
  refine lv_iload_n hx hb dJ0_checkIndex_df160_0 rfl (lv_at hl 0 rfl) ?_
  refine lv_iload_n hx hb dJ0_checkIndex_df160_1 rfl (lv_at hl 1 rfl) ?_
  rcases hE.2.2.2.2.2.2.2.1 with hz | ⟨a_1, hz⟩
  · have h := h.1
    refine va_gets hx hb hz hS hown k_1053 (fun _ h9 => h9) dJ0_checkIndex_df160_2 ?_
    have hPc := hP
    have hDc := hD
    have hFc := rc_freeI hD hS hA
    refine va_calli (va_runS (As := [.int p0, .int p1, .null]) (rest := []) ⟨hx, hb, hml, hown, hts⟩ (c_J3_checkIndex_8e157_n l E H.size p0 p1 _ h) (va_cwS 3 hts gJ0_checkIndex_df160_J3_checkIndex_8e157 rfl rfl rfl (by decide +kernel) ⟨Nat.le_of_ble_eq_true rfl, Nat.le_of_ble_eq_true rfl⟩) ⟨fun a U g mk q => ⟨q.1, q.2.blind⟩, fun U hU hW => ⟨rfl, by rw [hU], by rw [hU]; exact hPc, hE.call hS hFc hW hU, hDc.weaken (fun _ _ _ _ => trivial)⟩⟩ rfl rfl hl.1 rfl (lv_room (Nat.le_of_ble_eq_true rfl)) dJ0_checkIndex_df160_5 ⟨Nat.zero_le _, Nat.zero_le _⟩) hS (fun q _ h => hFc q h) hFc (fun r_2 u t H1 locs ht hvm h hB hz1 hk1 hS => ?_)
    obtain ⟨hP1, hD1⟩ := hB
    rw [ht] at hP1
    have hP := hP1
    have hD := hD1.weaken (fun _ _ _ h => hFc _ h)
    generalize H1 = H at hP hS ⊢
    have hP : va_P E.1 vwCl ([]) H := hP
    have hD : va_D A ([]) := hD
    refine lv_pop hx hb dJ0_checkIndex_df160_8 rfl ?_
    exact hret _ _ _ _ () h hP hD hS dJ0_checkIndex_df160_9
  · have h := h.2 a_1
    refine va_gets hx hb hz hS hown k_1053 (fun _ h9 => h9) dJ0_checkIndex_df160_2 ?_
    have hPc := hP
    have hDc := hD
    have hFc := rc_freeI hD hS hA
    refine va_calli (va_runS (As := [.int p0, .int p1, .ref a_1]) (rest := []) ⟨hx, hb, hml, hown, hts⟩ (c_J3_checkIndex_8e157 l E a_1 H.size p0 p1 _ h) (va_cwS 3 hts gJ0_checkIndex_df160_J3_checkIndex_8e157 rfl rfl rfl (by decide +kernel) ⟨Nat.le_of_ble_eq_true rfl, Nat.le_of_ble_eq_true rfl⟩) ⟨fun a U g mk q => ⟨q.1, q.2.blind⟩, fun U hU hW => ⟨rfl, by rw [hU], by rw [hU]; exact hPc, hE.call hS hFc hW hU, hDc.weaken (fun _ _ _ _ => trivial)⟩⟩ rfl rfl hl.1 rfl (lv_room (Nat.le_of_ble_eq_true rfl)) dJ0_checkIndex_df160_5 ⟨Nat.zero_le _, Nat.zero_le _⟩) hS (fun q _ h => hFc q h) hFc (fun r_3 u t H1 locs ht hvm h hB hz1 hk1 hS => ?_)
    obtain ⟨hP1, hD1⟩ := hB
    rw [ht] at hP1
    have hP := hP1
    have hD := hD1.weaken (fun _ _ _ h => hFc _ h)
    generalize H1 = H at hP hS ⊢
    have hP : va_P E.1 vwCl ([]) H := hP
    have hD : va_D A ([]) := hD
    refine lv_pop hx hb dJ0_checkIndex_df160_8 rfl ?_
    exact hret _ _ _ _ () h hP hD hS dJ0_checkIndex_df160_9
def wp_J1_charAt_3b067 (p1 : Int32) (wj : Nat) (Q : Int32 → Prop) : Prop :=
  wp_J0_checkIndex_df160 p1 (nI (rc_len.getD wj 0)) ((vp_in p1 (rc_len.getD wj 0) ∧ (narrow .char (.int (rc_i2c (((rc_byt.getD wj []).getD p1.toNatClampNeg 0) &&& 255))) = .int (rc_i2c (((rc_byt.getD wj []).getD p1.toNatClampNeg 0) &&& 255)) ∧ Q (rc_i2c (((rc_byt.getD wj []).getD p1.toNatClampNeg 0) &&& 255)))))
set_option maxHeartbeats 4000000 in
set_option maxRecDepth 100000 in
theorem c_J1_charAt_3b067 (l : Launch) (E : gE)  (sz : Nat)  (p1 : Int32) (wj : Nat) (hwj : wj < 6) (Q : Int32 → Prop) (h : wp_J1_charAt_3b067 p1 wj Q) : Met l yJ1_charAt_3b067 wsJ1_charAt_3b067 ({ frames := 2, cells := 0, slots := 0, locals := 43 } : Room) (va_Pc [.ref (E.2.2.2.2 wj), .int p1] (rc_B E ([]) sz)) (va_Qi (S := Unit) (fun (r : Int32) (u : Unit) => Q r) (fun u t => rc_C E (va_A ([]) sz) ([]) t) (va_A ([]) sz)) 0 0 (va_A ([]) sz) := by
  refine rc_enterI (cc := cJ1_charAt_3b067) (maxL := 2) (by decide) rfl (Nat.le_of_ble_eq_true rfl) ?_
  intro p e s m args below meth c QQ A hx hb hml hown hts hmn hE hP hD hA hret ls hl
  have hown : s.vm.findClass RJ1 = some m.cls := hown
  have hK := hE.1
  have hS : va_S A s.heap s.heap [] := va_S.rf
  have hl : lv_has ls 2 [(0, .ref (E.2.2.2.2 wj)), (1, .int p1)] := hl
  unfold wp_J1_charAt_3b067 at h
  obtain ⟨H, hH⟩ : ∃ H, H = s.heap := ⟨_, rfl⟩
  obtain ⟨locs, hlocs⟩ : ∃ locs : List Loc, locs = [] := ⟨_, rfl⟩
  have hP : va_P E.1 vwCl ([]) H := by rw [hH]; exact hP
  have hS : va_S A s.heap H locs := by rw [hH, hlocs]; exact hS
  suffices hgo : W p l e ({ frames := 2, cells := 0, slots := 0, locals := 43 } : Room) s m args below meth c H locs 0 0 QQ (F0 m 0 ls []) from by rw [hH, hlocs] at hgo; exact hgo
  refine lv_iload_n hx hb dJ1_charAt_3b067_0 rfl (lv_at hl 1 rfl) ?_
  refine lv_aload_n hx hb dJ1_charAt_3b067_1 rfl (lv_at hl 0 rfl) ?_
  refine va_tlen (v := nI (rc_len.getD wj 0)) hx hb (hE.2.2.2.2.2.1.1 wj hwj).2.2.2 hS rfl dJ1_charAt_3b067_2 ?_
  have hPc := hP
  have hDc := hD
  have hFc := rc_freeI hD hS hA
  refine va_callv (va_runS (As := [.int p1, .int (nI (rc_len.getD wj 0))]) (rest := []) ⟨hx, hb, hml, hown, hts⟩ (c_J0_checkIndex_df160 l E H.size p1 (nI (rc_len.getD wj 0)) _ h) (va_cwS 2 hts gJ1_charAt_3b067_J0_checkIndex_df160 rfl rfl rfl (by decide +kernel) ⟨Nat.le_of_ble_eq_true rfl, Nat.le_of_ble_eq_true rfl⟩) ⟨fun a U g mk q => ⟨q.1, q.2.blind⟩, fun U hU hW => ⟨rfl, by rw [hU], by rw [hU]; exact hPc, hE.call hS hFc hW hU, hDc.weaken (fun _ _ _ _ => trivial)⟩⟩ rfl rfl hl.1 rfl (lv_room (Nat.le_of_ble_eq_true rfl)) dJ1_charAt_3b067_3 ⟨Nat.zero_le _, Nat.zero_le _⟩) hS (fun q _ h => hFc q h) hFc (fun u t H1 locs ht hvm h hB hz1 hk1 hS => ?_)
  obtain ⟨hP1, hD1⟩ := hB
  rw [ht] at hP1
  have hP := hP1
  have hD := hD1.weaken (fun _ _ _ h => hFc _ h)
  generalize H1 = H at hP hS ⊢
  have hP : va_P E.1 vwCl ([]) H := hP
  have hD : va_D A ([]) := hD
  refine lv_aload_n hx hb dJ1_charAt_3b067_6 rfl (lv_at hl 0 rfl) ?_
  refine lv_iload_n hx hb dJ1_charAt_3b067_7 rfl (lv_at hl 1 rfl) ?_
  obtain ⟨o_1, h⟩ := h
  refine va_tb (v := .int ((rc_byt.getD wj []).getD p1.toNatClampNeg 0)) hx hb (hE.2.2.2.2.2.1.1 wj hwj).2.2.2 hS o_1 rfl dJ1_charAt_3b067_8 ?_
  refine lv_sipush (v := 255) hx hb dJ1_charAt_3b067_9 (by decide) ?_
  refine lv_iand hx hb dJ1_charAt_3b067_12 ?_
  refine lv_i2c (v := rc_i2c (((rc_byt.getD wj []).getD p1.toNatClampNeg 0) &&& 255)) hx hb dJ1_charAt_3b067_13 rfl ?_
  obtain ⟨b_2, h⟩ := h
  exact hret _ _ _ _ (rc_i2c (((rc_byt.getD wj []).getD p1.toNatClampNeg 0) &&& 255)) () b_2 h hP hD hS dJ1_charAt_3b067_14
def wp_J0_charAt_5068e (p1 : Int32) (wj : Nat) (Q : Int32 → Prop) : Prop :=
  wp_J0_isLatin1_aae02 (fun (r_1 : Int32) => ((r_1 = 0 → False) ∧ (¬ (r_1 = 0) → wp_J1_charAt_3b067 p1 wj (fun (r_3 : Int32) => (narrow .char (.int r_3) = .int r_3 ∧ Q r_3)))))
set_option maxHeartbeats 4000000 in
set_option maxRecDepth 100000 in
theorem c_J0_charAt_5068e (l : Launch) (E : gE)  (sz : Nat)  (p1 : Int32) (wj : Nat) (hwj : wj < 6) (Q : Int32 → Prop) (h : wp_J0_charAt_5068e p1 wj Q) : Met l yJ0_charAt_5068e wsJ0_charAt_5068e ({ frames := 3, cells := 0, slots := 0, locals := 64 } : Room) (va_Pc [.ref (E.2.2.2.1 wj), .int p1] (rc_B E ([]) sz)) (va_Qi (S := Unit) (fun (r : Int32) (u : Unit) => Q r) (fun u t => rc_C E (va_A ([]) sz) ([]) t) (va_A ([]) sz)) 0 0 (va_A ([]) sz) := by
  refine rc_enterI (cc := cJ0_charAt_5068e) (maxL := 2) (by decide) rfl (Nat.le_of_ble_eq_true rfl) ?_
  intro p e s m args below meth c QQ A hx hb hml hown hts hmn hE hP hD hA hret ls hl
  have hown : s.vm.findClass RJ0 = some m.cls := hown
  have hK := hE.1
  have hS : va_S A s.heap s.heap [] := va_S.rf
  have hl : lv_has ls 2 [(0, .ref (E.2.2.2.1 wj)), (1, .int p1)] := hl
  have k_9 := hts (.fieldLink RJ0 9 "java/lang/String" "value" "[B") (List.mem_of_getElem? (i := 1) rfl)
  unfold wp_J0_charAt_5068e at h
  obtain ⟨H, hH⟩ : ∃ H, H = s.heap := ⟨_, rfl⟩
  obtain ⟨locs, hlocs⟩ : ∃ locs : List Loc, locs = [] := ⟨_, rfl⟩
  have hP : va_P E.1 vwCl ([]) H := by rw [hH]; exact hP
  have hS : va_S A s.heap H locs := by rw [hH, hlocs]; exact hS
  suffices hgo : W p l e ({ frames := 3, cells := 0, slots := 0, locals := 64 } : Room) s m args below meth c H locs 0 0 QQ (F0 m 0 ls []) from by rw [hH, hlocs] at hgo; exact hgo
  refine lv_aload_n hx hb dJ0_charAt_5068e_0 rfl (lv_at hl 0 rfl) ?_
  have hPc := hP
  have hDc := hD
  have hFc := rc_freeI hD hS hA
  refine va_calli (va_runV (As := []) (rest := []) ⟨hx, hb, hml, hown, hts⟩ (c_J0_isLatin1_aae02 l E H.size wj hwj _ h) (cwV 0 hts gJ0_charAt_5068e_J0_isLatin1_aae02 rfl rfl rfl (by decide +kernel) ⟨Nat.le_of_ble_eq_true rfl, Nat.le_of_ble_eq_true rfl⟩) ⟨fun a U g mk q => ⟨q.1, q.2.blind⟩, vk_recv hE.2.2.2.2.2.1 hwj hS, fun U hU hW => ⟨rfl, by rw [hU], by rw [hU]; exact hPc, hE.call hS hFc hW hU, hDc.weaken (fun _ _ _ _ => trivial)⟩⟩ rfl rfl hl.1 rfl (lv_room (Nat.le_of_ble_eq_true rfl)) dJ0_charAt_5068e_1 ⟨Nat.zero_le _, Nat.zero_le _⟩) hS (fun q _ h => hFc q h) hFc (fun r_1 u t H1 locs ht hvm h hB hz1 hk1 hS => ?_)
  obtain ⟨hP1, hD1⟩ := hB
  rw [ht] at hP1
  have hP := hP1
  have hD := hD1.weaken (fun _ _ _ h => hFc _ h)
  generalize H1 = H at hP hS ⊢
  have hP : va_P E.1 vwCl ([]) H := hP
  have hD : va_D A ([]) := hD
  refine lv_if_eq (tgt := 16) hx hb dJ0_charAt_5068e_4 (by decide) (fun c_2 => ?_) (fun c_2 => ?_)
  · have h := h.1 c_2
    exact False.elim h
  · have h := h.2 c_2
    refine lv_aload_n hx hb dJ0_charAt_5068e_7 rfl (lv_at hl 0 rfl) ?_
    refine vk_getf hx hb (hE.2.2.2.2.2.1.1 wj hwj).2.2.1 hS hown k_9 (fun _ h9 => h9) dJ0_charAt_5068e_8 ?_
    refine lv_iload_n hx hb dJ0_charAt_5068e_11 rfl (lv_at hl 1 rfl) ?_
    have hPc := hP
    have hDc := hD
    have hFc := rc_freeI hD hS hA
    refine va_calli (va_runS (As := [.ref (E.2.2.2.2 wj), .int p1]) (rest := []) ⟨hx, hb, hml, hown, hts⟩ (c_J1_charAt_3b067 l E H.size p1 wj hwj _ h) (va_cwS 2 hts gJ0_charAt_5068e_J1_charAt_3b067 rfl rfl rfl (by decide +kernel) ⟨Nat.le_of_ble_eq_true rfl, Nat.le_of_ble_eq_true rfl⟩) ⟨fun a U g mk q => ⟨q.1, q.2.blind⟩, fun U hU hW => ⟨rfl, by rw [hU], by rw [hU]; exact hPc, hE.call hS hFc hW hU, hDc.weaken (fun _ _ _ _ => trivial)⟩⟩ rfl rfl hl.1 rfl (lv_room (Nat.le_of_ble_eq_true rfl)) dJ0_charAt_5068e_12 ⟨Nat.zero_le _, Nat.zero_le _⟩) hS (fun q _ h => hFc q h) hFc (fun r_3 u t H1 locs ht hvm h hB hz1 hk1 hS => ?_)
    obtain ⟨hP1, hD1⟩ := hB
    rw [ht] at hP1
    have hP := hP1
    have hD := hD1.weaken (fun _ _ _ h => hFc _ h)
    generalize H1 = H at hP hS ⊢
    have hP : va_P E.1 vwCl ([]) H := hP
    have hD : va_D A ([]) := hD
    obtain ⟨b_4, h⟩ := h
    exact hret _ _ _ _ r_3 () b_4 h hP hD hS dJ0_charAt_5068e_15
def wp_J1_canEncode_9a6ad (p0 : Int32) (Q : Int32 → Prop) : Prop :=
  ((p0 < 0 → Q 0) ∧ (¬ (p0 < 0) → ((255 < p0 → Q 0) ∧ (¬ (255 < p0) → Q 1))))
set_option maxHeartbeats 4000000 in
set_option maxRecDepth 100000 in
theorem c_J1_canEncode_9a6ad (l : Launch) (E : gE)  (sz : Nat)  (p0 : Int32)  (Q : Int32 → Prop) (h : wp_J1_canEncode_9a6ad p0 Q) : Met l yJ1_canEncode_9a6ad wsJ1_canEncode_9a6ad ({ frames := 0, cells := 0, slots := 0, locals := 0 } : Room) (va_Pc [.int p0] (rc_B E ([]) sz)) (va_Qi (S := Unit) (fun (r : Int32) (u : Unit) => Q r) (fun u t => rc_C E (va_A ([]) sz) ([]) t) (va_A ([]) sz)) 0 0 (va_A ([]) sz) := by
  refine rc_enterI (cc := cJ1_canEncode_9a6ad) (maxL := 1) (by decide) rfl (Nat.le_of_ble_eq_true rfl) ?_
  intro p e s m args below meth c QQ A hx hb hml hown hts hmn hE hP hD hA hret ls hl
  have hown : s.vm.findClass RJ1 = some m.cls := hown
  have hK := hE.1
  have hS : va_S A s.heap s.heap [] := va_S.rf
  have hl : lv_has ls 1 [(0, .int p0)] := hl
  unfold wp_J1_canEncode_9a6ad at h
  obtain ⟨H, hH⟩ : ∃ H, H = s.heap := ⟨_, rfl⟩
  obtain ⟨locs, hlocs⟩ : ∃ locs : List Loc, locs = [] := ⟨_, rfl⟩
  have hP : va_P E.1 vwCl ([]) H := by rw [hH]; exact hP
  have hS : va_S A s.heap H locs := by rw [hH, hlocs]; exact hS
  suffices hgo : W p l e ({ frames := 0, cells := 0, slots := 0, locals := 0 } : Room) s m args below meth c H locs 0 0 QQ (F0 m 0 ls []) from by rw [hH, hlocs] at hgo; exact hgo
  refine lv_iload_n hx hb dJ1_canEncode_9a6ad_0 rfl (lv_at hl 0 rfl) ?_
  refine lv_if_lt (tgt := 15) hx hb dJ1_canEncode_9a6ad_1 (by decide) (fun c_1 => ?_) (fun c_1 => ?_)
  · have h := h.1 c_1
    refine lv_iconst (v := 0) hx hb dJ1_canEncode_9a6ad_15 (by decide) ?_
    exact hret _ _ _ _ 0 () (by decide) h hP hD hS dJ1_canEncode_9a6ad_16
  · have h := h.2 c_1
    refine lv_iload_n hx hb dJ1_canEncode_9a6ad_4 rfl (lv_at hl 0 rfl) ?_
    refine lv_sipush (v := 255) hx hb dJ1_canEncode_9a6ad_5 (by decide) ?_
    refine lv_icmp_gt (tgt := 15) hx hb dJ1_canEncode_9a6ad_8 (by decide) (fun c_2 => ?_) (fun c_2 => ?_)
    · have h := h.1 c_2
      refine lv_iconst (v := 0) hx hb dJ1_canEncode_9a6ad_15 (by decide) ?_
      exact hret _ _ _ _ 0 () (by decide) h hP hD hS dJ1_canEncode_9a6ad_16
    · have h := h.2 c_2
      refine lv_iconst (v := 1) hx hb dJ1_canEncode_9a6ad_11 (by decide) ?_
      refine lv_goto (tgt := 16) hx hb dJ1_canEncode_9a6ad_12 (by decide) ?_
      exact hret _ _ _ _ 1 () (by decide) h hP hD hS dJ1_canEncode_9a6ad_16
def lp_J1_indexOfChar_4cfef_7F (p3 : Int32) (wj : Nat)  (Q : Int32 → Prop) (R : Int32 → Int32 → Prop) (x4 : Int32) (x5 : Int32) : Prop :=
  ((p3 ≤ x5 → Q (-1)) ∧ (¬ (p3 ≤ x5) → (vp_in x5 (rc_len.getD wj 0) ∧ ((¬ ((rc_byt.getD wj []).getD x5.toNatClampNeg 0) = x4 → R x4 (x5 + 1)) ∧ (((rc_byt.getD wj []).getD x5.toNatClampNeg 0) = x4 → Q x5)))))
def lp_J1_indexOfChar_4cfef_7 (p3 : Int32) (wj : Nat)  (Q : Int32 → Prop) (n : Nat) : Int32 → Int32 → Prop :=
  Nat.rec (motive := fun _ => Int32 → Int32 → Prop) (fun _ _ => False) (fun _ r => lp_J1_indexOfChar_4cfef_7F p3 wj Q r) n
def wp_J1_indexOfChar_4cfef (p1 : Int32) (p2 : Int32) (p3 : Int32) (wj : Nat) (Q : Int32 → Prop) : Prop :=
  (∃ n : Nat, lp_J1_indexOfChar_4cfef_7 p3 wj Q n p1.toInt8.toInt32 p2)
set_option maxHeartbeats 4000000 in
set_option maxRecDepth 100000 in
theorem c_J1_indexOfChar_4cfef (l : Launch) (E : gE)  (sz : Nat)  (p1 p2 p3 : Int32) (wj : Nat) (hwj : wj < 6) (Q : Int32 → Prop) (h : wp_J1_indexOfChar_4cfef p1 p2 p3 wj Q) : Met l yJ1_indexOfChar_4cfef wsJ1_indexOfChar_4cfef ({ frames := 0, cells := 0, slots := 0, locals := 0 } : Room) (va_Pc [.ref (E.2.2.2.2 wj), .int p1, .int p2, .int p3] (rc_B E ([]) sz)) (va_Qi (S := Unit) (fun (r : Int32) (u : Unit) => Q r) (fun u t => rc_C E (va_A ([]) sz) ([]) t) (va_A ([]) sz)) 0 0 (va_A ([]) sz) := by
  refine rc_enterI (cc := cJ1_indexOfChar_4cfef) (maxL := 6) (by decide) rfl (Nat.le_of_ble_eq_true rfl) ?_
  intro p e s m args below meth c QQ A hx hb hml hown hts hmn hE hP hD hA hret ls hl
  have hown : s.vm.findClass RJ1 = some m.cls := hown
  have hK := hE.1
  have hS : va_S A s.heap s.heap [] := va_S.rf
  have hl : lv_has ls 6 [(0, .ref (E.2.2.2.2 wj)), (1, .int p1), (2, .int p2), (3, .int p3)] := hl
  have J7 : ∀ (n : Nat) (x4 : Int32) (x5 : Int32), lp_J1_indexOfChar_4cfef_7 p3 wj Q n x4 x5 → ∀ (H : Heap) (locs : List Loc), va_P E.1 vwCl ([]) H → va_D A ([]) → va_S A s.heap H locs → ∀ ls : Array Slot, lv_has ls 6 [(0, .ref (E.2.2.2.2 wj)), (3, .int p3), (4, .int x4), (5, .int x5)] → W p l e ({ frames := 0, cells := 0, slots := 0, locals := 0 } : Room) s m args below meth c H locs 0 0 QQ (F0 m 7 ls []) := by
    intro n
    induction n with
    | zero =>
      intro x4 x5 h
      exact False.elim h
    | succ n ih =>
      intro x4 x5 h H locs hP hD hS ls hl
      have h : lp_J1_indexOfChar_4cfef_7F p3 wj Q (lp_J1_indexOfChar_4cfef_7 p3 wj Q n) x4 x5 := h
      unfold lp_J1_indexOfChar_4cfef_7F at h
      refine lv_iload hx hb dJ1_indexOfChar_4cfef_7 (lv_at hl 3 rfl) ?_
      refine lv_iload_n hx hb dJ1_indexOfChar_4cfef_9 rfl (lv_at hl 1 rfl) ?_
      refine lv_icmp_ge (tgt := 31) hx hb dJ1_indexOfChar_4cfef_10 (by decide) (fun c_1 => ?_) (fun c_1 => ?_)
      · have h := h.1 c_1
        refine lv_iconst (v := (-1)) hx hb dJ1_indexOfChar_4cfef_31 (by decide) ?_
        exact hret _ _ _ _ (-1) () rfl h hP hD hS dJ1_indexOfChar_4cfef_32
      · have h := h.2 c_1
        refine lv_aload_n hx hb dJ1_indexOfChar_4cfef_13 rfl (lv_at hl 0 rfl) ?_
        refine lv_iload hx hb dJ1_indexOfChar_4cfef_14 (lv_at hl 3 rfl) ?_
        obtain ⟨o_2, h⟩ := h
        refine va_tb (v := .int ((rc_byt.getD wj []).getD x5.toNatClampNeg 0)) hx hb (hE.2.2.2.2.2.1.1 wj hwj).2.2.2 hS o_2 rfl dJ1_indexOfChar_4cfef_16 ?_
        refine lv_iload hx hb dJ1_indexOfChar_4cfef_17 (lv_at hl 2 rfl) ?_
        refine lv_icmp_ne (tgt := 25) hx hb dJ1_indexOfChar_4cfef_19 (by decide) (fun c_3 => ?_) (fun c_3 => ?_)
        · have h := h.1 c_3
          refine lv_iinc (v := x5 + 1) (lv' := [(5, .int (x5 + 1)), (0, .ref (E.2.2.2.2 wj)), (3, .int p3), (4, .int x4)]) hx hb dJ1_indexOfChar_4cfef_25 hl (k := 3) rfl (by rfl) (by decide) rfl (fun ls hl => ?_)
          refine lv_goto (tgt := 7) hx hb dJ1_indexOfChar_4cfef_28 (by decide) ?_
          exact ih x4 (x5 + 1) h _ _ hP hD hS ls (lv_sub hl [1, 2, 3, 0] rfl)
        · have h := h.2 c_3
          refine lv_iload hx hb dJ1_indexOfChar_4cfef_22 (lv_at hl 3 rfl) ?_
          exact hret _ _ _ _ x5 () rfl h hP hD hS dJ1_indexOfChar_4cfef_24
  unfold wp_J1_indexOfChar_4cfef at h
  obtain ⟨H, hH⟩ : ∃ H, H = s.heap := ⟨_, rfl⟩
  obtain ⟨locs, hlocs⟩ : ∃ locs : List Loc, locs = [] := ⟨_, rfl⟩
  have hP : va_P E.1 vwCl ([]) H := by rw [hH]; exact hP
  have hS : va_S A s.heap H locs := by rw [hH, hlocs]; exact hS
  suffices hgo : W p l e ({ frames := 0, cells := 0, slots := 0, locals := 0 } : Room) s m args below meth c H locs 0 0 QQ (F0 m 0 ls []) from by rw [hH, hlocs] at hgo; exact hgo
  refine lv_iload_n hx hb dJ1_indexOfChar_4cfef_0 rfl (lv_at hl 1 rfl) ?_
  refine lv_i2b (v := p1.toInt8.toInt32) hx hb dJ1_indexOfChar_4cfef_1 rfl ?_
  refine lv_istore (lv' := [(4, .int p1.toInt8.toInt32), (0, .ref (E.2.2.2.2 wj)), (1, .int p1), (2, .int p2), (3, .int p3)]) hx hb dJ1_indexOfChar_4cfef_2 hl (by decide) rfl (fun ls hl => ?_)
  refine lv_iload_n hx hb dJ1_indexOfChar_4cfef_4 rfl (lv_at hl 3 rfl) ?_
  refine lv_istore (lv' := [(5, .int p2), (4, .int p1.toInt8.toInt32), (0, .ref (E.2.2.2.2 wj)), (1, .int p1), (2, .int p2), (3, .int p3)]) hx hb dJ1_indexOfChar_4cfef_5 hl (by decide) rfl (fun ls hl => ?_)
  obtain ⟨n, h⟩ := h
  exact J7 n p1.toInt8.toInt32 p2 h _ _ hP hD hS ls (lv_sub hl [2, 5, 1, 0] rfl)
def wp_J1_indexOf_4cfef (p1 : Int32) (p2 : Int32) (p3 : Int32) (wj : Nat) (Q : Int32 → Prop) : Prop :=
  wp_J1_canEncode_9a6ad p1 (fun (r_1 : Int32) => ((¬ r_1 = 0 → (((rc_max p2 0) < (rc_min p3 (nI (rc_len.getD wj 0))) → wp_J1_indexOfChar_4cfef p1 (rc_max p2 0) (rc_min p3 (nI (rc_len.getD wj 0))) wj (fun (r_4 : Int32) => Q r_4)) ∧ (¬ ((rc_max p2 0) < (rc_min p3 (nI (rc_len.getD wj 0)))) → Q (-1)))) ∧ (r_1 = 0 → Q (-1))))
set_option maxHeartbeats 4000000 in
set_option maxRecDepth 100000 in
theorem c_J1_indexOf_4cfef (l : Launch) (E : gE)  (sz : Nat)  (p1 p2 p3 : Int32) (wj : Nat) (hwj : wj < 6) (Q : Int32 → Prop) (h : wp_J1_indexOf_4cfef p1 p2 p3 wj Q) : Met l yJ1_indexOf_4cfef wsJ1_indexOf_4cfef ({ frames := 1, cells := 0, slots := 0, locals := 40 } : Room) (va_Pc [.ref (E.2.2.2.2 wj), .int p1, .int p2, .int p3] (rc_B E ([]) sz)) (va_Qi (S := Unit) (fun (r : Int32) (u : Unit) => Q r) (fun u t => rc_C E (va_A ([]) sz) ([]) t) (va_A ([]) sz)) 0 0 (va_A ([]) sz) := by
  refine rc_enterI (cc := cJ1_indexOf_4cfef) (maxL := 4) (by decide) rfl (Nat.le_of_ble_eq_true rfl) ?_
  intro p e s m args below meth c QQ A hx hb hml hown hts hmn hE hP hD hA hret ls hl
  have hown : s.vm.findClass RJ1 = some m.cls := hown
  have hK := hE.1
  have hS : va_S A s.heap s.heap [] := va_S.rf
  have hl : lv_has ls 4 [(0, .ref (E.2.2.2.2 wj)), (1, .int p1), (2, .int p2), (3, .int p3)] := hl
  have k_92 := hts (.methodLink RJ1 92 Lib.Math.max.name) (List.mem_of_getElem? (i := 1) rfl)
  have k_smax := hts (.static Lib.Math.max.name) (List.mem_of_getElem? (i := 2) rfl)
  have k_math := hts (.initialized "java/lang/Math") (List.mem_of_getElem? (i := 3) rfl)
  have k_cmax := hts (.code Lib.Math.max.name Lib.Math.max.code 2 (some .int)) (List.mem_of_getElem? (i := 4) rfl)
  have k_38 := hts (.methodLink RJ1 38 Lib.Math.min.name) (List.mem_of_getElem? (i := 5) rfl)
  have k_smin := hts (.static Lib.Math.min.name) (List.mem_of_getElem? (i := 6) rfl)
  have k_cmin := hts (.code Lib.Math.min.name Lib.Math.min.code 2 (some .int)) (List.mem_of_getElem? (i := 7) rfl)
  unfold wp_J1_indexOf_4cfef at h
  obtain ⟨H, hH⟩ : ∃ H, H = s.heap := ⟨_, rfl⟩
  obtain ⟨locs, hlocs⟩ : ∃ locs : List Loc, locs = [] := ⟨_, rfl⟩
  have hP : va_P E.1 vwCl ([]) H := by rw [hH]; exact hP
  have hS : va_S A s.heap H locs := by rw [hH, hlocs]; exact hS
  suffices hgo : W p l e ({ frames := 1, cells := 0, slots := 0, locals := 40 } : Room) s m args below meth c H locs 0 0 QQ (F0 m 0 ls []) from by rw [hH, hlocs] at hgo; exact hgo
  refine lv_iload_n hx hb dJ1_indexOf_4cfef_0 rfl (lv_at hl 1 rfl) ?_
  have hPc := hP
  have hDc := hD
  have hFc := rc_freeI hD hS hA
  refine va_calli (va_runS (As := [.int p1]) (rest := []) ⟨hx, hb, hml, hown, hts⟩ (c_J1_canEncode_9a6ad l E H.size p1 _ h) (va_cwS 1 hts gJ1_indexOf_4cfef_J1_canEncode_9a6ad rfl rfl rfl (by decide +kernel) ⟨Nat.le_of_ble_eq_true rfl, Nat.le_of_ble_eq_true rfl⟩) ⟨fun a U g mk q => ⟨q.1, q.2.blind⟩, fun U hU hW => ⟨rfl, by rw [hU], by rw [hU]; exact hPc, hE.call hS hFc hW hU, hDc.weaken (fun _ _ _ _ => trivial)⟩⟩ rfl rfl hl.1 rfl (lv_room (Nat.le_of_ble_eq_true rfl)) dJ1_indexOf_4cfef_1 ⟨Nat.zero_le _, Nat.zero_le _⟩) hS (fun q _ h => hFc q h) hFc (fun r_1 u t H1 locs ht hvm h hB hz1 hk1 hS => ?_)
  obtain ⟨hP1, hD1⟩ := hB
  rw [ht] at hP1
  have hP := hP1
  have hD := hD1.weaken (fun _ _ _ h => hFc _ h)
  generalize H1 = H at hP hS ⊢
  have hP : va_P E.1 vwCl ([]) H := hP
  have hD : va_D A ([]) := hD
  refine lv_if_ne (tgt := 9) hx hb dJ1_indexOf_4cfef_4 (by decide) (fun c_2 => ?_) (fun c_2 => ?_)
  · have h := h.1 c_2
    refine lv_iload_n hx hb dJ1_indexOf_4cfef_9 rfl (lv_at hl 2 rfl) ?_
    refine lv_iconst (v := 0) hx hb dJ1_indexOf_4cfef_10 (by decide) ?_
    refine va_mmax hx hb (hml.trans hl.1.symm) hown k_92 k_smax k_math k_cmax (Nat.le_of_ble_eq_true rfl) (Nat.le_of_ble_eq_true rfl) (Nat.zero_le _) (Nat.zero_le _) dJ1_indexOf_4cfef_11 ?_
    refine W.eq (g2 := F0 m 14 ls [.int (rc_max p2 0)]) rfl ?_
    refine lv_istore_n (lv' := [(2, .int (rc_max p2 0)), (0, .ref (E.2.2.2.2 wj)), (1, .int p1), (3, .int p3)]) hx hb dJ1_indexOf_4cfef_14 rfl hl (by decide) rfl (fun ls hl => ?_)
    refine lv_iload_n hx hb dJ1_indexOf_4cfef_15 rfl (lv_at hl 3 rfl) ?_
    refine lv_aload_n hx hb dJ1_indexOf_4cfef_16 rfl (lv_at hl 1 rfl) ?_
    refine va_tlen (v := nI (rc_len.getD wj 0)) hx hb (hE.2.2.2.2.2.1.1 wj hwj).2.2.2 hS rfl dJ1_indexOf_4cfef_17 ?_
    refine va_mmin hx hb (hml.trans hl.1.symm) hown k_38 k_smin k_math k_cmin (Nat.le_of_ble_eq_true rfl) (Nat.le_of_ble_eq_true rfl) (Nat.zero_le _) (Nat.zero_le _) dJ1_indexOf_4cfef_18 ?_
    refine W.eq (g2 := F0 m 21 ls [.int (rc_min p3 (nI (rc_len.getD wj 0)))]) rfl ?_
    refine lv_istore_n (lv' := [(3, .int (rc_min p3 (nI (rc_len.getD wj 0)))), (2, .int (rc_max p2 0)), (0, .ref (E.2.2.2.2 wj)), (1, .int p1)]) hx hb dJ1_indexOf_4cfef_21 rfl hl (by decide) rfl (fun ls hl => ?_)
    refine lv_iload_n hx hb dJ1_indexOf_4cfef_22 rfl (lv_at hl 1 rfl) ?_
    refine lv_iload_n hx hb dJ1_indexOf_4cfef_23 rfl (lv_at hl 0 rfl) ?_
    refine lv_icmp_lt (tgt := 29) hx hb dJ1_indexOf_4cfef_24 (by decide) (fun c_3 => ?_) (fun c_3 => ?_)
    · have h := h.1 c_3
      refine lv_aload_n hx hb dJ1_indexOf_4cfef_29 rfl (lv_at hl 2 rfl) ?_
      refine lv_iload_n hx hb dJ1_indexOf_4cfef_30 rfl (lv_at hl 3 rfl) ?_
      refine lv_iload_n hx hb dJ1_indexOf_4cfef_31 rfl (lv_at hl 1 rfl) ?_
      refine lv_iload_n hx hb dJ1_indexOf_4cfef_32 rfl (lv_at hl 0 rfl) ?_
      have hPc := hP
      have hDc := hD
      have hFc := rc_freeI hD hS hA
      refine va_calli (va_runS (As := [.ref (E.2.2.2.2 wj), .int p1, .int (rc_max p2 0), .int (rc_min p3 (nI (rc_len.getD wj 0)))]) (rest := []) ⟨hx, hb, hml, hown, hts⟩ (c_J1_indexOfChar_4cfef l E H.size p1 (rc_max p2 0) (rc_min p3 (nI (rc_len.getD wj 0))) wj hwj _ h) (va_cwS 4 hts gJ1_indexOf_4cfef_J1_indexOfChar_4cfef rfl rfl rfl (by decide +kernel) ⟨Nat.le_of_ble_eq_true rfl, Nat.le_of_ble_eq_true rfl⟩) ⟨fun a U g mk q => ⟨q.1, q.2.blind⟩, fun U hU hW => ⟨rfl, by rw [hU], by rw [hU]; exact hPc, hE.call hS hFc hW hU, hDc.weaken (fun _ _ _ _ => trivial)⟩⟩ rfl rfl hl.1 rfl (lv_room (Nat.le_of_ble_eq_true rfl)) dJ1_indexOf_4cfef_33 ⟨Nat.zero_le _, Nat.zero_le _⟩) hS (fun q _ h => hFc q h) hFc (fun r_4 u t H1 locs ht hvm h hB hz1 hk1 hS => ?_)
      obtain ⟨hP1, hD1⟩ := hB
      rw [ht] at hP1
      have hP := hP1
      have hD := hD1.weaken (fun _ _ _ h => hFc _ h)
      generalize H1 = H at hP hS ⊢
      have hP : va_P E.1 vwCl ([]) H := hP
      have hD : va_D A ([]) := hD
      exact hret _ _ _ _ r_4 () rfl h hP hD hS dJ1_indexOf_4cfef_36
    · have h := h.2 c_3
      refine lv_iconst (v := (-1)) hx hb dJ1_indexOf_4cfef_27 (by decide) ?_
      exact hret _ _ _ _ (-1) () rfl h hP hD hS dJ1_indexOf_4cfef_28
  · have h := h.2 c_2
    refine lv_iconst (v := (-1)) hx hb dJ1_indexOf_4cfef_7 (by decide) ?_
    exact hret _ _ _ _ (-1) () rfl h hP hD hS dJ1_indexOf_4cfef_8
def wp_J0_indexOf_7cf53 (p1 : Int32) (p2 : Int32) (wj : Nat) (Q : Int32 → Prop) : Prop :=
  wp_J0_isLatin1_aae02 (fun (r_1 : Int32) => ((r_1 = 0 → False) ∧ (¬ (r_1 = 0) → wp_J0_length_8abf5 wj (fun (r_3 : Int32) => wp_J1_indexOf_4cfef p1 p2 r_3 wj (fun (r_4 : Int32) => Q r_4)))))
set_option maxHeartbeats 4000000 in
set_option maxRecDepth 100000 in
theorem c_J0_indexOf_7cf53 (l : Launch) (E : gE)  (sz : Nat)  (p1 p2 : Int32) (wj : Nat) (hwj : wj < 6) (Q : Int32 → Prop) (h : wp_J0_indexOf_7cf53 p1 p2 wj Q) : Met l yJ0_indexOf_7cf53 wsJ0_indexOf_7cf53 ({ frames := 2, cells := 0, slots := 0, locals := 63 } : Room) (va_Pc [.ref (E.2.2.2.1 wj), .int p1, .int p2] (rc_B E ([]) sz)) (va_Qi (S := Unit) (fun (r : Int32) (u : Unit) => Q r) (fun u t => rc_C E (va_A ([]) sz) ([]) t) (va_A ([]) sz)) 0 0 (va_A ([]) sz) := by
  refine rc_enterI (cc := cJ0_indexOf_7cf53) (maxL := 3) (by decide) rfl (Nat.le_of_ble_eq_true rfl) ?_
  intro p e s m args below meth c QQ A hx hb hml hown hts hmn hE hP hD hA hret ls hl
  have hown : s.vm.findClass RJ0 = some m.cls := hown
  have hK := hE.1
  have hS : va_S A s.heap s.heap [] := va_S.rf
  have hl : lv_has ls 3 [(0, .ref (E.2.2.2.1 wj)), (1, .int p1), (2, .int p2)] := hl
  have k_9 := hts (.fieldLink RJ0 9 "java/lang/String" "value" "[B") (List.mem_of_getElem? (i := 1) rfl)
  unfold wp_J0_indexOf_7cf53 at h
  obtain ⟨H, hH⟩ : ∃ H, H = s.heap := ⟨_, rfl⟩
  obtain ⟨locs, hlocs⟩ : ∃ locs : List Loc, locs = [] := ⟨_, rfl⟩
  have hP : va_P E.1 vwCl ([]) H := by rw [hH]; exact hP
  have hS : va_S A s.heap H locs := by rw [hH, hlocs]; exact hS
  suffices hgo : W p l e ({ frames := 2, cells := 0, slots := 0, locals := 63 } : Room) s m args below meth c H locs 0 0 QQ (F0 m 0 ls []) from by rw [hH, hlocs] at hgo; exact hgo
  refine lv_aload_n hx hb dJ0_indexOf_7cf53_0 rfl (lv_at hl 0 rfl) ?_
  have hPc := hP
  have hDc := hD
  have hFc := rc_freeI hD hS hA
  refine va_calli (va_runV (As := []) (rest := []) ⟨hx, hb, hml, hown, hts⟩ (c_J0_isLatin1_aae02 l E H.size wj hwj _ h) (cwV 0 hts gJ0_indexOf_7cf53_J0_isLatin1_aae02 rfl rfl rfl (by decide +kernel) ⟨Nat.le_of_ble_eq_true rfl, Nat.le_of_ble_eq_true rfl⟩) ⟨fun a U g mk q => ⟨q.1, q.2.blind⟩, vk_recv hE.2.2.2.2.2.1 hwj hS, fun U hU hW => ⟨rfl, by rw [hU], by rw [hU]; exact hPc, hE.call hS hFc hW hU, hDc.weaken (fun _ _ _ _ => trivial)⟩⟩ rfl rfl hl.1 rfl (lv_room (Nat.le_of_ble_eq_true rfl)) dJ0_indexOf_7cf53_1 ⟨Nat.zero_le _, Nat.zero_le _⟩) hS (fun q _ h => hFc q h) hFc (fun r_1 u t H1 locs ht hvm h hB hz1 hk1 hS => ?_)
  obtain ⟨hP1, hD1⟩ := hB
  rw [ht] at hP1
  have hP := hP1
  have hD := hD1.weaken (fun _ _ _ h => hFc _ h)
  generalize H1 = H at hP hS ⊢
  have hP : va_P E.1 vwCl ([]) H := hP
  have hD : va_D A ([]) := hD
  refine lv_if_eq (tgt := 23) hx hb dJ0_indexOf_7cf53_4 (by decide) (fun c_2 => ?_) (fun c_2 => ?_)
  · have h := h.1 c_2
    exact False.elim h
  · have h := h.2 c_2
    refine lv_aload_n hx hb dJ0_indexOf_7cf53_7 rfl (lv_at hl 0 rfl) ?_
    refine vk_getf hx hb (hE.2.2.2.2.2.1.1 wj hwj).2.2.1 hS hown k_9 (fun _ h9 => h9) dJ0_indexOf_7cf53_8 ?_
    refine lv_iload_n hx hb dJ0_indexOf_7cf53_11 rfl (lv_at hl 1 rfl) ?_
    refine lv_iload_n hx hb dJ0_indexOf_7cf53_12 rfl (lv_at hl 2 rfl) ?_
    refine lv_aload_n hx hb dJ0_indexOf_7cf53_13 rfl (lv_at hl 0 rfl) ?_
    have hPc := hP
    have hDc := hD
    have hFc := rc_freeI hD hS hA
    refine va_calli (va_runV (As := []) (rest := [.int p2, .int p1, .ref (E.2.2.2.2 wj)]) ⟨hx, hb, hml, hown, hts⟩ (c_J0_length_8abf5 l E H.size wj hwj _ h) (cwV 0 hts gJ0_indexOf_7cf53_J0_length_8abf5 rfl rfl rfl (by decide +kernel) ⟨Nat.le_of_ble_eq_true rfl, Nat.le_of_ble_eq_true rfl⟩) ⟨fun a U g mk q => ⟨q.1, q.2.blind⟩, vk_recv hE.2.2.2.2.2.1 hwj hS, fun U hU hW => ⟨rfl, by rw [hU], by rw [hU]; exact hPc, hE.call hS hFc hW hU, hDc.weaken (fun _ _ _ _ => trivial)⟩⟩ rfl rfl hl.1 rfl (lv_room (Nat.le_of_ble_eq_true rfl)) dJ0_indexOf_7cf53_14 ⟨Nat.zero_le _, Nat.zero_le _⟩) hS (fun q _ h => hFc q h) hFc (fun r_3 u t H1 locs ht hvm h hB hz1 hk1 hS => ?_)
    obtain ⟨hP1, hD1⟩ := hB
    rw [ht] at hP1
    have hP := hP1
    have hD := hD1.weaken (fun _ _ _ h => hFc _ h)
    generalize H1 = H at hP hS ⊢
    have hP : va_P E.1 vwCl ([]) H := hP
    have hD : va_D A ([]) := hD
    have hPc := hP
    have hDc := hD
    have hFc := rc_freeI hD hS hA
    refine va_calli (va_runS (As := [.ref (E.2.2.2.2 wj), .int p1, .int p2, .int r_3]) (rest := []) ⟨hx, hb, hml, hown, hts⟩ (c_J1_indexOf_4cfef l E H.size p1 p2 r_3 wj hwj _ h) (va_cwS 4 hts gJ0_indexOf_7cf53_J1_indexOf_4cfef rfl rfl rfl (by decide +kernel) ⟨Nat.le_of_ble_eq_true rfl, Nat.le_of_ble_eq_true rfl⟩) ⟨fun a U g mk q => ⟨q.1, q.2.blind⟩, fun U hU hW => ⟨rfl, by rw [hU], by rw [hU]; exact hPc, hE.call hS hFc hW hU, hDc.weaken (fun _ _ _ _ => trivial)⟩⟩ rfl rfl hl.1 rfl (lv_room (Nat.le_of_ble_eq_true rfl)) dJ0_indexOf_7cf53_17 ⟨Nat.zero_le _, Nat.zero_le _⟩) hS (fun q _ h => hFc q h) hFc (fun r_4 u t H1 locs ht hvm h hB hz1 hk1 hS => ?_)
    obtain ⟨hP1, hD1⟩ := hB
    rw [ht] at hP1
    have hP := hP1
    have hD := hD1.weaken (fun _ _ _ h => hFc _ h)
    generalize H1 = H at hP hS ⊢
    have hP : va_P E.1 vwCl ([]) H := hP
    have hD : va_D A ([]) := hD
    refine lv_goto (tgt := 36) hx hb dJ0_indexOf_7cf53_20 (by decide) ?_
    exact hret _ _ _ _ r_4 () rfl h hP hD hS dJ0_indexOf_7cf53_36
def wp_J0_indexOf_0f7a4 (p1 : Int32) (wj : Nat) (Q : Int32 → Prop) : Prop :=
  wp_J0_indexOf_7cf53 p1 0 wj (fun (r_1 : Int32) => Q r_1)
set_option maxHeartbeats 4000000 in
set_option maxRecDepth 100000 in
theorem c_J0_indexOf_0f7a4 (l : Launch) (E : gE)  (sz : Nat)  (p1 : Int32) (wj : Nat) (hwj : wj < 6) (Q : Int32 → Prop) (h : wp_J0_indexOf_0f7a4 p1 wj Q) : Met l yJ0_indexOf_0f7a4 wsJ0_indexOf_0f7a4 ({ frames := 3, cells := 0, slots := 0, locals := 85 } : Room) (va_Pc [.ref (E.2.2.2.1 wj), .int p1] (rc_B E ([]) sz)) (va_Qi (S := Unit) (fun (r : Int32) (u : Unit) => Q r) (fun u t => rc_C E (va_A ([]) sz) ([]) t) (va_A ([]) sz)) 0 0 (va_A ([]) sz) := by
  refine rc_enterI (cc := cJ0_indexOf_0f7a4) (maxL := 2) (by decide) rfl (Nat.le_of_ble_eq_true rfl) ?_
  intro p e s m args below meth c QQ A hx hb hml hown hts hmn hE hP hD hA hret ls hl
  have hown : s.vm.findClass RJ0 = some m.cls := hown
  have hK := hE.1
  have hS : va_S A s.heap s.heap [] := va_S.rf
  have hl : lv_has ls 2 [(0, .ref (E.2.2.2.1 wj)), (1, .int p1)] := hl
  unfold wp_J0_indexOf_0f7a4 at h
  obtain ⟨H, hH⟩ : ∃ H, H = s.heap := ⟨_, rfl⟩
  obtain ⟨locs, hlocs⟩ : ∃ locs : List Loc, locs = [] := ⟨_, rfl⟩
  have hP : va_P E.1 vwCl ([]) H := by rw [hH]; exact hP
  have hS : va_S A s.heap H locs := by rw [hH, hlocs]; exact hS
  suffices hgo : W p l e ({ frames := 3, cells := 0, slots := 0, locals := 85 } : Room) s m args below meth c H locs 0 0 QQ (F0 m 0 ls []) from by rw [hH, hlocs] at hgo; exact hgo
  refine lv_aload_n hx hb dJ0_indexOf_0f7a4_0 rfl (lv_at hl 0 rfl) ?_
  refine lv_iload_n hx hb dJ0_indexOf_0f7a4_1 rfl (lv_at hl 1 rfl) ?_
  refine lv_iconst (v := 0) hx hb dJ0_indexOf_0f7a4_2 (by decide) ?_
  have hPc := hP
  have hDc := hD
  have hFc := rc_freeI hD hS hA
  refine va_calli (va_runV (As := [.int p1, .int 0]) (rest := []) ⟨hx, hb, hml, hown, hts⟩ (c_J0_indexOf_7cf53 l E H.size p1 0 wj hwj _ h) (cwV 2 hts gJ0_indexOf_0f7a4_J0_indexOf_7cf53 rfl rfl rfl (by decide +kernel) ⟨Nat.le_of_ble_eq_true rfl, Nat.le_of_ble_eq_true rfl⟩) ⟨fun a U g mk q => ⟨q.1, q.2.blind⟩, vk_recv hE.2.2.2.2.2.1 hwj hS, fun U hU hW => ⟨rfl, by rw [hU], by rw [hU]; exact hPc, hE.call hS hFc hW hU, hDc.weaken (fun _ _ _ _ => trivial)⟩⟩ rfl rfl hl.1 rfl (lv_room (Nat.le_of_ble_eq_true rfl)) dJ0_indexOf_0f7a4_3 ⟨Nat.zero_le _, Nat.zero_le _⟩) hS (fun q _ h => hFc q h) hFc (fun r_1 u t H1 locs ht hvm h hB hz1 hk1 hS => ?_)
  obtain ⟨hP1, hD1⟩ := hB
  rw [ht] at hP1
  have hP := hP1
  have hD := hD1.weaken (fun _ _ _ h => hFc _ h)
  generalize H1 = H at hP hS ⊢
  have hP : va_P E.1 vwCl ([]) H := hP
  have hD : va_D A ([]) := hD
  exact hret _ _ _ _ r_1 () rfl h hP hD hS dJ0_indexOf_0f7a4_6
