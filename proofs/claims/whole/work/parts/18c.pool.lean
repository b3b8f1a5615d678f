/-! the pool of texts: never written, only grown -/
theorem rc_fst_of {ws wc w1 : va_W} {isC : List Nat} (hC : isC.map (fun i => ws[i]?) = wc.map some) (hl : w1.map Prod.fst = wc.map Prod.fst) : isC.map (fun i => (ws[i]?).map Prod.fst) = w1.map (fun q => some q.1) := by
  have e1 : isC.map (fun i => (ws[i]?).map Prod.fst) = (isC.map (fun i => ws[i]?)).map (Option.map Prod.fst) := by rw [List.map_map]; rfl
  have e2 : w1.map (fun q => some q.1) = (w1.map Prod.fst).map some := by rw [List.map_map]; rfl
  rw [e1, e2, hC, hl, List.map_map, List.map_map]
  rfl
theorem rc_focP {A0 : Nat → Prop} {D : va_G} {cl : List vw_C} {X cx cx1 pl : va_W} {H H1 : Heap} (hP : va_P D cl (X ++ pl) H) (hD : va_D A0 (X ++ pl)) (isC : List Nat) (sel : List (Option Nat)) (hs : rc_sel isC sel = true) (hsl : sel.length = X.length) (hC : isC.map (fun i => X[i]?) = cx.map some) (hk : ∀ q : Nat, q < H.size → ¬ va_A (cx ++ pl) H.size q → H1[q]? = H[q]?) (hP1 : va_P D cl (cx1 ++ pl) H1) (hl : cx1.map Prod.fst = cx.map Prod.fst) :
    va_P D cl (rc_mix sel X cx1 ++ pl) H1 ∧ va_D A0 (rc_mix sel X cx1 ++ pl) := by
  have hf := rc_mix_fst hs hC hl
  have hL : (rc_mix sel X cx1).length = X.length := by
    have := congrArg List.length hf
    simpa using this
  have hcl : cx1.length = cx.length := by
    have := congrArg List.length hl
    simpa using this
  have hil : isC.length = cx.length := by
    have h1 := congrArg List.length hC
    simpa using h1
  have hs1 := (Bool.and_eq_true_iff.mp hs).1
  refine ⟨fun k q hq => ?_, rc_D_fst (by rw [List.map_append, List.map_append, hf]) hD⟩
  by_cases hkl : k < X.length
  · rw [List.getElem?_append_left (by omega)] at hq
    have hrest : X[k]? = some q → k ∉ isC → va_at D cl q H1 := by
      intro h1 h2
      have hX : (X ++ pl)[k]? = some q := by rw [List.getElem?_append_left hkl]; exact h1
      refine (hP k q hX).kept (hk q.1 (hP k q hX).lt fun z => ?_)
      rcases z with ⟨j, e, hj⟩ | z
      · by_cases hjl : j < cx.length
        · rw [List.getElem?_append_left hjl] at hj
          have h3 : (cx.map some)[j]? = some (some (q.1, e)) := by rw [List.getElem?_map, hj]; rfl
          rw [← hC, List.getElem?_map] at h3
          cases hi : isC[j]? with
          | none => rw [hi] at h3; cases h3
          | some i =>
            rw [hi] at h3
            have h4 : X[i]? = some (q.1, e) := Option.some.inj h3
            have h5 := hD.1 k i q (q.1, e) hX (by rw [List.getElem?_append_left (List.getElem?_eq_some_iff.mp h4).1]; exact h4) rfl
            subst h5
            exact h2 (List.mem_of_getElem? hi)
        · rw [List.getElem?_append_right (by omega)] at hj
          have h5 := hD.1 k (X.length + (j - cx.length)) q (q.1, e) hX (by rw [List.getElem?_append_right (by omega), Nat.add_sub_cancel_left]; exact hj) rfl
          omega
      · exact absurd (hP k q hX).lt (Nat.not_lt.mpr z)
    rw [rc_mix_at] at hq
    cases hsk : sel[k]? with
    | none => rw [List.getElem?_eq_none_iff] at hsk; omega
    | some o =>
      have h1 := List.all_eq_true.mp hs1 k (List.mem_range.mpr (by omega))
      rw [hsk] at h1 hq
      cases o with
      | none => exact hrest hq (of_decide_eq_true h1)
      | some j =>
        have hj : isC[j]? = some k := of_decide_eq_true h1
        have hjl : j < cx1.length := by rw [hcl, ← hil]; exact (List.getElem?_eq_some_iff.mp hj).1
        have hw1 : cx1[j]? = some cx1[j] := List.getElem?_eq_getElem hjl
        cases hw : X[k]? with
        | none => rw [hw] at hq; cases hq
        | some x =>
          rw [hw] at hq
          have h5 : (cx1[j]?).getD x = q := Option.some.inj hq
          rw [hw1] at h5
          have h6 : cx1[j] = q := h5
          exact hP1 j q (by rw [List.getElem?_append_left hjl, hw1, h6])
  · rw [List.getElem?_append_right (by omega)] at hq
    refine hP1 (cx1.length + (k - X.length)) q ?_
    rw [List.getElem?_append_right (by omega), Nat.add_sub_cancel_left]
    rw [hL] at hq
    exact hq
def rc_tp (E : gE) (LT : List Nat) (pk pv : Nat → Int32) (pa pn : Nat → Nat) (pc : Nat → Nat → Int32) : va_W :=
  LT.flatMap (fun a => [(a, .inr (4, [.int (pk a), .int (pv a), .ref (pa a)])), (pa a, .inl (E.2.1 0, pn a, .inl (pc a)))])
theorem rc_mem_at {α : Type} {X pl : List α} {x : α} (h : x ∈ pl) : ∃ k : Nat, (X ++ pl)[k]? = some x := by
  obtain ⟨k, hk⟩ := List.getElem?_of_mem h
  exact ⟨X.length + k, by rw [List.getElem?_append_right (by omega), Nat.add_sub_cancel_left]; exact hk⟩
theorem rc_tpo {E : gE} {X : va_W} {LT : List Nat} {pk pv : Nat → Int32} {pa pn : Nat → Nat} {pc : Nat → Nat → Int32} {a : Nat} (h : a ∈ LT) : ∃ k : Nat, (X ++ rc_tp E LT pk pv pa pn pc)[k]? = some (a, .inr (4, [.int (pk a), .int (pv a), .ref (pa a)])) :=
  rc_mem_at (List.mem_flatMap.mpr ⟨a, h, List.mem_cons_self⟩)
theorem rc_tpc {E : gE} {X : va_W} {LT : List Nat} {pk pv : Nat → Int32} {pa pn : Nat → Nat} {pc : Nat → Nat → Int32} {a : Nat} (h : a ∈ LT) : ∃ k : Nat, (X ++ rc_tp E LT pk pv pa pn pc)[k]? = some (pa a, .inl (E.2.1 0, pn a, .inl (pc a))) :=
  rc_mem_at (List.mem_flatMap.mpr ⟨a, h, List.mem_cons_of_mem _ List.mem_cons_self⟩)
section RCP
variable {p : Program} {l : Launch} {e : Env} {R : Room} {s : State} {m : MethodId} {args : Array Value} {below : List Frame} {meth : Method} {c : Code} {H : Heap} {locs : List Loc} {cells slots : Nat} {Q : State → Prop}
variable {cc : ByteArray} {pc : Nat} {ls : Array Slot} {rest : List Value} {A : Nat → Prop} {a : Nat} {tys : List (ClassId × FieldType)} {H0 : Heap}
/-- null or a text of the pool is stored -/
theorem rc_astT (hexec : p.tables.exec = Jvm.exec) (hb : c.code = cc) {E : gE} {X : va_W} {LT : List Nat} {pk pv : Nat → Int32} {pa pn : Nat → Nat} {tc : Nat → Nat → Int32} (hK : va_K E.1 vwCl tys s) (hP : va_P E.1 vwCl (X ++ rc_tp E LT pk pv pa pn tc) H) (hD : va_D A (X ++ rc_tp E LT pk pv pa pn tc)) (hS : va_S A H0 H locs) (q0 t0 : Nat) {cA : ClassId} {n : Nat} {f : Nat → Option Nat} (ha : (X ++ rc_tp E LT pk pv pa pn tc)[q0]? = some (a, .inl (cA, n, .inr (.inr (.inr (.inr f)))))) (ht : tys[t0]? = some (cA, .object "RidgeClaps$Text")) {o : Option Nat} (ho : ∀ a, o = some a → a ∈ LT) {i : Int32} (hin : vp_in i n) (hdg : decode cc pc = .ok (.aastore, 1))
    (kk : ∀ (H1 : Heap) (locs1 : List Loc), va_P E.1 vwCl ((X ++ rc_tp E LT pk pv pa pn tc).set q0 (a, .inl (cA, n, .inr (.inr (.inr (.inr (va_up f i.toNatClampNeg o))))))) H1 → va_D A ((X ++ rc_tp E LT pk pv pa pn tc).set q0 (a, .inl (cA, n, .inr (.inr (.inr (.inr (va_up f i.toNatClampNeg o))))))) → va_S A H0 H1 locs1 → W p l e R s m args below meth c H1 locs1 cells slots Q (F0 m (pc + 1) ls rest)) : W p l e R s m args below meth c H locs cells slots Q (F0 m pc ls (va_rf o :: .int i :: .ref a :: rest)) := by
  cases o with
  | none => exact va_astqN hexec hb hK hP hD hS q0 t0 ha ht hin hdg kk
  | some v =>
    obtain ⟨k, hk⟩ := rc_tpo (E := E) (X := X) (pk := pk) (pv := pv) (pa := pa) (pn := pn) (pc := tc) (ho v rfl)
    exact va_astq (r := (RX4, TX4, 3)) hexec hb hK hP hD hS q0 t0 k 4 ha ht hk rfl hin hdg kk
end RCP
