/-! a copy of the codes, a new text -/
theorem rc_enterR {l : Launch} {y : MethodName} {ws ws' : List Cond} {rm : Room} {cc : ByteArray} {maxL : Nat} {rt : FieldType} {E : gE} {WS : va_W} {sz : Nat} {av : List Value} {S : Type} {post : S → Prop} {WO : S → Nat → va_W} {mc ms : Nat}
    (hy : plainName y.cls = true) (hw : ws = Cond.code y cc maxL (some rt) :: ws') (hrt : (∃ n, rt = .object n) ∨ ∃ t, rt = .array t) (hlen : (lg_sl av).length ≤ maxL)
    (body : ∀ (p : Program) (e : Env) (s : State) (m : MethodId) (args : Array Value) (below : List Frame) (meth : Method) (c : Code) (QQ : State → Prop) (A : Nat → Prop),
      p.tables.exec = Jvm.exec → c.code = cc → c.maxLocals = maxL → s.vm.findClass y.cls = some m.cls → (∀ w ∈ ws, w.before args s = true) → meth.name = y.name → rc_ev E A s s.heap → va_P E.1 vwCl WS s.heap → va_D A WS → (∀ q, s.heap.size ≤ q → A q) →
      (∀ (pc : Nat) (H : Heap) (locs : List Loc) (ls : Array Slot) (a : Nat) (u : S), post u → va_P E.1 vwCl (WO u a) H → va_D A (WO u a) → va_S A s.heap H locs → decode cc pc = .ok (.areturn, 1) → W p l e rm s m args below meth c H locs mc ms QQ (F0 m pc ls [.ref a])) →
      ∀ ls : Array Slot, lv_has ls maxL (lv_args 0 av) → W p l e rm s m args below meth c s.heap [] 0 0 QQ (F0 m 0 ls [])) :
    Met l y ws rm (va_Pc av (rc_B E WS sz)) (va_Qr post (fun u a t => rc_C E (va_A WS sz) (WO u a) t) (va_A WS sz)) mc ms (va_A WS sz) := by
  refine Met.ofW (cc := cc) (maxL := maxL) (ret := some rt) hy hw ?_
  intro p e s m args below meth c s₁ B hml hv
  obtain ⟨rfl, hsz, hP, hE, hD0⟩ := hv
  subst hsz
  rw [lg_entry_eq]
  refine body p e s m _ below meth c _ (va_A WS s.heap.size) B.exec B.bytes hml (findClass_of_methodNamed B.named) (atoms_spec (ws := ws) B.pre) (name_of_methodNamed B.named B.method).1 hE hP hD0.self (fun q h => Or.inr h) ?_ _ (lv_entry av hlen)
  intro pc H locs ls a u hp hP hD hS hdg
  exact W.aret B.exec B.bytes B.returns hrt (Or.inr ⟨_, rfl⟩) (fun t ht hW => ⟨⟨u, a, rfl, hp, rc_C.of ht hP hD⟩, hS.F ht⟩) hS.2.2 hdg B.notSynchronized
set_option maxHeartbeats 4000000 in
set_option maxRecDepth 100000 in
theorem c_J7_copyOf_59c91 (l : Launch) (E : gE) (fc : Nat) (sz : Nat) (fC : Nat → Int32) (p1 : Int32) (h1 : ¬ p1 < 0) (h2 : p1.toNatClampNeg ≤ 96) (h3 : ¬ p1 = 96) : Met l yJ7_copyOf_59c91 wsJ7_copyOf_59c91 ({ frames := 1, cells := 1, slots := 96, locals := 80 } : Room) (va_Pc [.ref fc, .int p1] (rc_B E [(fc, .inl (E.2.1 0, 96, .inl fC))] sz)) (va_Qr (S := Nat → Int32) (fun g => ∀ j, j < p1.toNatClampNeg → g j = fC j) (fun g a t => rc_C E (va_A [(fc, .inl (E.2.1 0, 96, .inl fC))] sz) ([(fc, .inl (E.2.1 0, 96, .inl fC))] ++ [(a, .inl (E.2.1 0, p1.toNatClampNeg, .inl g))]) t) (va_A [(fc, .inl (E.2.1 0, 96, .inl fC))] sz)) 1 96 (va_A [(fc, .inl (E.2.1 0, 96, .inl fC))] sz) := by
  refine rc_enterR (cc := cJ7_copyOf_59c91) (maxL := 3) (by decide) rfl (Or.inr ⟨_, rfl⟩) (Nat.le_of_ble_eq_true rfl) ?_
  intro p e s m args below meth c QQ A hx hb hml hown hts hmn hE hP hD hA hret ls hl
  have hown : s.vm.findClass RJ7 = some m.cls := hown
  have hK := hE.1
  have hl : lv_has ls 3 [(0, .ref fc), (1, .int p1)] := hl
  have hmin : rc_min 96 p1 = p1 := by
    unfold rc_min
    by_cases hc : p1 < 96
    · rw [if_pos hc]
    · exfalso
      obtain ⟨j, hj, rfl⟩ := nI_of h1
      rw [nI_clamp hj] at h2
      have h4 : ¬ j < 96 := fun z => hc (nI_lt z (by decide))
      have h5 : j = 96 := by omega
      subst h5
      exact h3 rfl
  have k_arr := hts (.arrayClass .int) (List.mem_of_getElem? (i := 7) rfl)
  have k_304 := hts (.methodLink RJ7 304 Lib.Math.min.name) (List.mem_of_getElem? (i := 8) rfl)
  have k_smin := hts (.static Lib.Math.min.name) (List.mem_of_getElem? (i := 9) rfl)
  have k_math := hts (.initialized "java/lang/Math") (List.mem_of_getElem? (i := 10) rfl)
  have k_cmin := hts (.code Lib.Math.min.name Lib.Math.min.code 2 (some .int)) (List.mem_of_getElem? (i := 11) rfl)
  have k_150 := hts (.methodLink RJ7 150 arraycopyName) (List.mem_of_getElem? (i := 12) rfl)
  have k_nat := hts (.native arraycopyName) (List.mem_of_getElem? (i := 13) rfl)
  have k_sta := hts (.static arraycopyName) (List.mem_of_getElem? (i := 14) rfl)
  have k_sys := hts (.initialized "java/lang/System") (List.mem_of_getElem? (i := 15) rfl)
  have hS : va_S A s.heap s.heap [] := va_S.rf
  obtain ⟨H, hH⟩ : ∃ H, H = s.heap := ⟨_, rfl⟩
  obtain ⟨locs, hlocs⟩ : ∃ locs : List Loc, locs = [] := ⟨_, rfl⟩
  have hP : va_P E.1 vwCl [(fc, .inl (E.2.1 0, 96, .inl fC))] H := by rw [hH]; exact hP
  have hS : va_S A s.heap H locs := by rw [hH, hlocs]; exact hS
  suffices hgo : W p l e ({ frames := 1, cells := 1, slots := 96, locals := 80 } : Room) s m args below meth c H locs 0 0 QQ (F0 m 0 ls []) from by rw [hH, hlocs] at hgo; exact hgo
  refine lv_iload_n hx hb dJ7_copyOf_59c91_0 rfl (lv_at hl 1 rfl) ?_
  refine lv_aload_n hx hb dJ7_copyOf_59c91_1 rfl (lv_at hl 0 rfl) ?_
  refine va_alen (v := 96) hx hb hK hP 0 0 rfl rfl rfl dJ7_copyOf_59c91_2 ?_
  refine lv_icmp_ne (tgt := 14) hx hb dJ7_copyOf_59c91_3 (by decide) (fun _ => ?_) (fun z => absurd z h3)
  refine lv_iload_n hx hb dJ7_copyOf_59c91_14 rfl (lv_at hl 1 rfl) ?_
  refine rc_newI (E := E) hx hb k_arr hK hP hD hS hA p1.toNatClampNeg h1 rfl (by show p1.toNatClampNeg * 4 ≤ 536870912; omega) (Nat.le_of_ble_eq_true rfl) (by show 0 + p1.toNatClampNeg ≤ 96; omega) dJ7_copyOf_59c91_15 (fun q H hP hD hS => ?_)
  have hP : va_P E.1 vwCl [(fc, .inl (E.2.1 0, 96, .inl fC)), (q, .inl (E.2.1 0, p1.toNatClampNeg, .inl (fun _ => 0)))] H := hP
  have hD : va_D A [(fc, .inl (E.2.1 0, 96, .inl fC)), (q, .inl (E.2.1 0, p1.toNatClampNeg, .inl (fun _ => 0)))] := hD
  refine lv_astore_n (lv' := [(2, .ref q), (0, .ref fc), (1, .int p1)]) hx hb dJ7_copyOf_59c91_17 rfl hl (by decide) rfl (fun ls hl => ?_)
  refine lv_aload_n hx hb dJ7_copyOf_59c91_18 rfl (lv_at hl 1 rfl) ?_
  refine lv_iconst (v := 0) hx hb dJ7_copyOf_59c91_19 (by decide) ?_
  refine lv_aload_n hx hb dJ7_copyOf_59c91_20 rfl (lv_at hl 0 rfl) ?_
  refine lv_iconst (v := 0) hx hb dJ7_copyOf_59c91_21 (by decide) ?_
  refine lv_aload_n hx hb dJ7_copyOf_59c91_22 rfl (lv_at hl 1 rfl) ?_
  refine va_alen (v := 96) hx hb hK hP 0 0 rfl rfl rfl dJ7_copyOf_59c91_23 ?_
  refine lv_iload_n hx hb dJ7_copyOf_59c91_24 rfl (lv_at hl 2 rfl) ?_
  refine va_mmin hx hb (hml.trans hl.1.symm) hown k_304 k_smin k_math k_cmin (Nat.le_of_ble_eq_true rfl) (Nat.le_of_ble_eq_true rfl) (Nat.le_of_ble_eq_true rfl) (by show 0 + p1.toNatClampNeg ≤ 96; omega) dJ7_copyOf_59c91_25 ?_
  refine W.eq (g2 := F0 m 28 ls [.int p1, .int 0, .ref q, .int 0, .ref fc]) (by show F0 m 28 ls [.int (rc_min 96 p1), .int 0, .ref q, .int 0, .ref fc] = _; rw [hmin]) ?_
  refine va_copyi hx hb (hml.trans hl.1.symm) hown k_150 k_nat k_sta k_sys hK hP hD hS 0 1 0 0 rfl rfl rfl rfl rfl (by decide) (by decide) h1 (by show 0 + p1.toNatClampNeg ≤ 96; omega) (by show 0 + p1.toNatClampNeg ≤ p1.toNatClampNeg; omega) (fun _ _ => rfl) (Nat.le_of_ble_eq_true rfl) (Nat.le_of_ble_eq_true rfl) dJ7_copyOf_59c91_28 (fun H locs hP hD hS => ?_)
  refine lv_aload_n hx hb dJ7_copyOf_59c91_31 rfl (lv_at hl 0 rfl) ?_
  refine W.widen (k := 1) (n := 96) (Nat.le_of_ble_eq_true rfl) (by show 0 + p1.toNatClampNeg ≤ 96; omega) ?_
  exact hret _ _ _ _ q (va_cpy fC (fun _ => 0) 0 0 p1.toNatClampNeg) (fun j hj => by rw [sb_cpy0 hj]) hP hD hS dJ7_copyOf_59c91_32
set_option maxHeartbeats 4000000 in
set_option maxRecDepth 100000 in
/-- a new text out of what was read: its own cell, and the cell of its codes -/
theorem c_X0_textRead (l : Launch) (E : gE) (eo eb ec : Nat) (sz : Nat) (eLn : Int32) (eFt : Int32) (eCc : Int32) (eKy : Int32) (eLv : Int32) (eOb : Int32) (eOn : Int32) (eSt : Int32) (eEd : Int32) (eSo : Int32) (eBy : Nat → Int32) (eCo : Nat → Int32) (h1 : ¬ eCc < 0) (h2 : eCc.toNatClampNeg ≤ 96) (h3 : ¬ eCc = 96) : Met l yX0_textRead wsX0_textRead ({ frames := 2, cells := 2, slots := 99, locals := 110 } : Room) (va_Pc [.ref eo] (rc_B E (rw_17 E eo eb ec eLn eFt eCc eKy eLv eOb eOn eSt eEd eSo eBy eCo) sz)) (va_Qr (S := Nat × (Nat → Int32)) (fun u => ∀ j, j < eCc.toNatClampNeg → u.2 j = eCo j) (fun u a t => rc_C E (va_A (rw_17 E eo eb ec eLn eFt eCc eKy eLv eOb eOn eSt eEd eSo eBy eCo) sz) ((rw_17 E eo eb ec eLn eFt eCc eKy eLv eOb eOn eSt eEd eSo eBy eCo) ++ [(a, .inr (4, [.int eKy, .int eLv, .ref u.1])), (u.1, .inl (E.2.1 0, eCc.toNatClampNeg, .inl u.2))]) t) (va_A (rw_17 E eo eb ec eLn eFt eCc eKy eLv eOb eOn eSt eEd eSo eBy eCo) sz)) 2 99 (va_A (rw_17 E eo eb ec eLn eFt eCc eKy eLv eOb eOn eSt eEd eSo eBy eCo) sz) := by
  refine rc_enterR (cc := cX0_textRead) (maxL := 1) (by decide) rfl (Or.inl ⟨_, rfl⟩) (Nat.le_of_ble_eq_true rfl) ?_
  intro p e s m args below meth c QQ A hx hb hml hown hts hmn hE hP hD hA hret ls hl
  have hown : s.vm.findClass RX0 = some m.cls := hown
  have hK := hE.1
  have hl : lv_has ls 1 [(0, .ref eo)] := hl
  have n_X4 : ∀ w ∈ wsX40, w ∈ wsX0_textRead := fun _ h => List.mem_cons_of_mem _ (List.mem_append_left _ (List.mem_append_right _ h))
  have n_X0 : ∀ w ∈ wsX00, w ∈ wsX0_textRead := fun _ h => List.mem_cons_of_mem _ (List.mem_append_right _ h)
  have k_63 := hts (.classLink RX0 63 RX4) (List.mem_of_getElem? (i := 1) rfl)
  have k_nX4 := hts (.instantiable RX4 3) (List.mem_of_getElem? (i := 2) rfl)
  have k_iX4 := hts (.initialized RX4) (List.mem_of_getElem? (i := 3) rfl)
  have k_29 := hts (.fieldLink RX0 29 "RidgeClaps$Reader" "key" "I") (List.mem_of_getElem? (i := 4) rfl)
  have k_32 := hts (.fieldLink RX0 32 "RidgeClaps$Reader" "leaves" "I") (List.mem_of_getElem? (i := 5) rfl)
  have k_23 := hts (.fieldLink RX0 23 "RidgeClaps$Reader" "codes" "[I") (List.mem_of_getElem? (i := 6) rfl)
  have k_26 := hts (.fieldLink RX0 26 "RidgeClaps$Reader" "codeCount" "I") (List.mem_of_getElem? (i := 7) rfl)
  have k_71 := hts (.methodLink RX0 71 yX4_init) (List.mem_of_getElem? (i := 27) rfl)
  have k_mX4 := hts (.instanceMethod yX4_init) (List.mem_of_getElem? (i := 28) rfl)
  have hS : va_S A s.heap s.heap [] := va_S.rf
  obtain ⟨H, hH⟩ : ∃ H, H = s.heap := ⟨_, rfl⟩
  obtain ⟨locs, hlocs⟩ : ∃ locs : List Loc, locs = [] := ⟨_, rfl⟩
  have hP : va_P E.1 vwCl (rw_17 E eo eb ec eLn eFt eCc eKy eLv eOb eOn eSt eEd eSo eBy eCo) H := by rw [hH]; exact hP
  have hS : va_S A s.heap H locs := by rw [hH, hlocs]; exact hS
  suffices hgo : W p l e ({ frames := 2, cells := 2, slots := 99, locals := 110 } : Room) s m args below meth c H locs 0 0 QQ (F0 m 0 ls []) from by rw [hH, hlocs] at hgo; exact hgo
  refine va_new (ci := 4) (fs := [.int 0, .int 0, .null]) (C := RX4) (T := TX4) (N := 3) hx hb hts n_X4 tyX4 tyX4_ok hown k_63 k_nX4 k_iX4 hK hP hD hS hA rfl (fun j hj => by match j, hj with | 0, _ => rfl | 1, _ => rfl | 2, _ => rfl | j + 3, hj => exact absurd hj (by omega)) (Nat.le_of_ble_eq_true rfl) (Nat.le_of_ble_eq_true rfl) dX0_textRead_0 (fun q H hP hD hS => ?_)
  have hP : va_P E.1 vwCl ([(eo, .inr (0, [.ref eb, .int eLn, .int eFt, .ref ec, .int eCc, .int eKy, .int eLv, .int eOb, .int eOn, .int eSt, .int eEd, .int eSo])), (eb, .inl (E.2.1 0, 96, .inl eBy)), (ec, .inl (E.2.1 0, 96, .inl eCo)), (q, .inr (4, [.int 0, .int 0, .null]))]) H := hP
  have hD : va_D A ([(eo, .inr (0, [.ref eb, .int eLn, .int eFt, .ref ec, .int eCc, .int eKy, .int eLv, .int eOb, .int eOn, .int eSt, .int eEd, .int eSo])), (eb, .inl (E.2.1 0, 96, .inl eBy)), (ec, .inl (E.2.1 0, 96, .inl eCo)), (q, .inr (4, [.int 0, .int 0, .null]))]) := hD
  refine lv_dup hx hb dX0_textRead_3 rfl ?_
  refine lv_aload_n hx hb dX0_textRead_4 rfl (lv_at hl 0 rfl) ?_
  refine va_get (D := E.1) (ci := 0) (v := .int eKy) (C := RX0) (T := TX0) (N := 12) hx hb hts n_X0 hown hK hP 0 rfl rfl 5 (by decide) k_29 (fun _ h9 => h9) rfl dX0_textRead_5 ?_
  refine lv_aload_n hx hb dX0_textRead_8 rfl (lv_at hl 0 rfl) ?_
  refine va_get (D := E.1) (ci := 0) (v := .int eLv) (C := RX0) (T := TX0) (N := 12) hx hb hts n_X0 hown hK hP 0 rfl rfl 6 (by decide) k_32 (fun _ h9 => h9) rfl dX0_textRead_9 ?_
  refine lv_aload_n hx hb dX0_textRead_12 rfl (lv_at hl 0 rfl) ?_
  refine va_get (D := E.1) (ci := 0) (v := .ref ec) (C := RX0) (T := TX0) (N := 12) hx hb hts n_X0 hown hK hP 0 rfl rfl 3 (by decide) k_23 (fun _ h9 => h9) rfl dX0_textRead_13 ?_
  refine lv_aload_n hx hb dX0_textRead_16 rfl (lv_at hl 0 rfl) ?_
  refine va_get (D := E.1) (ci := 0) (v := .int eCc) (C := RX0) (T := TX0) (N := 12) hx hb hts n_X0 hown hK hP 0 rfl rfl 4 (by decide) k_26 (fun _ h9 => h9) rfl dX0_textRead_17 ?_
  have hPc := hP.sub (ws' := [(ec, .inl (E.2.1 0, 96, .inl eCo))]) [2] rfl
  have hDc := hD.sub (ws' := [(ec, .inl (E.2.1 0, 96, .inl eCo))]) [2] (by decide) rfl
  have hFc := va_free (wc := [(ec, .inl (E.2.1 0, 96, .inl eCo))]) hD hS hA [2] rfl
  refine va_callr (va_runS (As := [.ref ec, .int eCc]) (rest := [.int eLv, .int eKy, .ref q, .ref q]) ⟨hx, hb, hml, hown, hts⟩ (c_J7_copyOf_59c91 l E ec H.size eCo eCc h1 h2 h3) (va_cwS 2 hts gX0_textRead_J7_copyOf_59c91 rfl rfl rfl (by decide +kernel) ⟨Nat.le_of_ble_eq_true rfl, Nat.le_of_ble_eq_true rfl⟩) ⟨fun a U g mk q => ⟨q.1, q.2.blind⟩, fun U hU hW => ⟨rfl, by rw [hU], by rw [hU]; exact hPc, hE.call hS hFc hW hU, hDc.weaken (fun _ _ _ _ => trivial)⟩⟩ rfl rfl hl.1 rfl (lv_room (Nat.le_of_ble_eq_true rfl)) dX0_textRead_20 ⟨Nat.le_of_ble_eq_true rfl, Nat.le_of_ble_eq_true rfl⟩) hS (fun q _ h => hFc q h) hFc (fun g qc t H1 locs ht hvm hg hB hz1 hk1 hS => ?_)
  obtain ⟨hP1, hD1⟩ := hB
  rw [ht] at hP1
  obtain ⟨hP, hD⟩ := rc_focusN (w1 := [(ec, .inl (E.2.1 0, 96, .inl eCo))]) (wn := [(qc, .inl (E.2.1 0, eCc.toNatClampNeg, .inl g))]) hP hD [2] rfl hk1 hFc hP1 hD1 rfl
  generalize H1 = H at hP hS ⊢
  have hP : va_P E.1 vwCl ([(eo, .inr (0, [.ref eb, .int eLn, .int eFt, .ref ec, .int eCc, .int eKy, .int eLv, .int eOb, .int eOn, .int eSt, .int eEd, .int eSo])), (eb, .inl (E.2.1 0, 96, .inl eBy)), (ec, .inl (E.2.1 0, 96, .inl eCo)), (q, .inr (4, [.int 0, .int 0, .null])), (qc, .inl (E.2.1 0, eCc.toNatClampNeg, .inl g))]) H := hP
  have hD : va_D A ([(eo, .inr (0, [.ref eb, .int eLn, .int eFt, .ref ec, .int eCc, .int eKy, .int eLv, .int eOb, .int eOn, .int eSt, .int eEd, .int eSo])), (eb, .inl (E.2.1 0, 96, .inl eBy)), (ec, .inl (E.2.1 0, 96, .inl eCo)), (q, .inr (4, [.int 0, .int 0, .null])), (qc, .inl (E.2.1 0, eCc.toNatClampNeg, .inl g))]) := hD
  have hPc := hP.sub (ws' := [(q, .inr (4, [.int 0, .int 0, .null]))]) [3] rfl
  have hDc := hD.sub (ws' := [(q, .inr (4, [.int 0, .int 0, .null]))]) [3] (by decide) rfl
  have hFc := va_free (wc := [(q, .inr (4, [.int 0, .int 0, .null]))]) hD hS hA [3] rfl
  refine va_callv (va_runI (As := [.int eKy, .int eLv, .ref qc]) (rest := [.ref q]) ⟨hx, hb, hml, hown, hts⟩ (c_X4_init l E q qc H.size eKy eLv) (cwI 3 hts gX0_textRead_X4_init rfl rfl rfl k_iX4 k_71 k_mX4 rfl (by decide +kernel) ⟨Nat.le_of_ble_eq_true rfl, Nat.le_of_ble_eq_true rfl⟩) ⟨fun a U g mk q => ⟨q.1, q.2.blind⟩, fun U hU hW => ⟨rfl, by rw [hU], by rw [hU]; exact hPc, hE.call hS hFc hW hU, hDc.weaken (fun _ _ _ _ => trivial)⟩⟩ rfl rfl hl.1 rfl (lv_room (Nat.le_of_ble_eq_true rfl)) dX0_textRead_23 ⟨Nat.le_of_ble_eq_true rfl, Nat.le_of_ble_eq_true rfl⟩) hS (fun q _ h => hFc q h) hFc (fun u t H1 locs ht hvm h hB hz1 hk1 hS => ?_)
  obtain ⟨hP1, hD1⟩ := hB
  rw [ht] at hP1
  obtain ⟨hP, hD⟩ := rc_foc hP hD [3] [none, none, none, some 0, none] (by decide) rfl hk1 hP1 rfl
  generalize H1 = H at hP hS ⊢
  refine W.widen (k := 2) (n := 99) (Nat.le_of_ble_eq_true rfl) (Nat.le_of_ble_eq_true rfl) ?_
  exact hret _ _ _ _ q (qc, g) hg hP hD hS dX0_textRead_26
