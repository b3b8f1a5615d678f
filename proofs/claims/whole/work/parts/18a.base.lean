/-! the surroundings that every contract takes: classes, array classes, nest links, the static row, the texts that the class file names -/
abbrev gE : Type := va_G × (Nat → ClassId) × Nat × (Nat → Nat) × (Nat → Nat)
abbrev gT (E : gE) : List (ClassId × FieldType) := [(E.2.1 0, .int), (E.2.1 1, .char), (E.2.1 2, .boolean), (E.2.1 3, .object "RidgeClaps$Row"), (E.2.1 4, .object "RidgeClaps$Slot"), (E.2.1 5, .object "RidgeClaps$Text")]
def rc_nl : List Cond := [.methodLinkNest RX6 9 yX1_init RX6, .methodLinkNest RX6 24 yX5_init RX6, .methodLinkNest RX6 31 yX0_init RX6, .methodLinkNest RX6 60 yX2_init RX6, .methodLinkNest RX6 61 yX3_init RX6, .methodLinkNest RX3 26 yX2_init RX6, .methodLinkNest RX1 78 yX6_held RX6, .methodLinkNest RX1 89 yX6_riskBy RX6, .methodLinkNest RX2 47 yX6_held RX6, .methodLinkNest RX1 73 yX6_within RX6]
def rc_N (U : State) : Prop := ∀ k : Nat, ∀ w : Cond, rc_nl[k]? = some w → va_Nw w U
theorem rc_nl_ok (k : Nat) (w : Cond) (h : rc_nl[k]? = some w) : ∃ (a : String) (i : Nat) (x : MethodName) (h : String), w = .methodLinkNest a i x h := by
  match k, h with
  | 0, h => cases h; exact ⟨_, _, _, _, rfl⟩
  | 1, h => cases h; exact ⟨_, _, _, _, rfl⟩
  | 2, h => cases h; exact ⟨_, _, _, _, rfl⟩
  | 3, h => cases h; exact ⟨_, _, _, _, rfl⟩
  | 4, h => cases h; exact ⟨_, _, _, _, rfl⟩
  | 5, h => cases h; exact ⟨_, _, _, _, rfl⟩
  | 6, h => cases h; exact ⟨_, _, _, _, rfl⟩
  | 7, h => cases h; exact ⟨_, _, _, _, rfl⟩
  | 8, h => cases h; exact ⟨_, _, _, _, rfl⟩
  | 9, h => cases h; exact ⟨_, _, _, _, rfl⟩
  | k + 10, h => simp [rc_nl] at h
theorem rc_N.warm {s U : State} (hW : s.WarmedH U.vm) (h : rc_N s) : rc_N U := fun k w hk => by
  obtain ⟨a, i, x, o, rfl⟩ := rc_nl_ok k w hk
  exact va_Nw.warmM hW (h k _ hk)
theorem rc_N.same {s U : State} (hv : s.vm = U.vm) (h : rc_N s) : rc_N U := fun k w hk => by
  obtain ⟨a, i, x, o, rfl⟩ := rc_nl_ok k w hk
  exact va_Nw.same rfl hv (h k _ hk)
def rc_ka (j : Nat) : Int32 := if j = 0 then -1000000005 else if j = 3 then 1 else if j = 4 then 2 else 0
def rc_len : List Nat := [4, 4, 4, 2, 2, 3]
def rc_byt : List (List Int32) := [[114, 105, 115, 107], [111, 100, 100, 115], [116, 117, 114, 110], [104, 110], [100, 109], [102, 110, 109]]
def rc_sr : List (Nat × String) := [(74, "\x72isk"), (80, "odds"), (82, "turn"), (131, "hn"), (133, "dm"), (135, "fnm")]
def rc_S (E : gE) (U : State) : Prop := ∀ (k : Nat) (q : Nat × String), rc_sr[k]? = some q → vk_R RX0 q.1 q.2 (E.2.2.2.1 k) U
/-- what stays as it is: A is what may change -/
def rc_ev (E : gE) (A : Nat → Prop) (U : State) (H : Heap) : Prop :=
  va_K E.1 vwCl (gT E) U ∧ rc_N U ∧ rc_S E U ∧ va_Z RX6 "KIND_ABOVE" "[I" (.ref E.2.2.1) A U H ∧ va_T .int E.2.2.1 6 (fun j => .int (rc_ka j)) A U H ∧
  vk_S 6 rc_len rc_byt E.2.2.2.1 E.2.2.2.2 A U H ∧ va_Z "java/lang/String" "COMPACT_STRINGS" "Z" (.int 1) A U H ∧ va_Zq "jdk/internal/util/Preconditions" "SIOOBE_FORMATTER" "Ljava/util/function/BiFunction;" A U H ∧
  (va_AO "RidgeClaps$Row" U ∧ va_AO "RidgeClaps$Slot" U ∧ va_AO "RidgeClaps$Text" U)
theorem rc_ev.call {E : gE} {A B : Nat → Prop} {s U : State} {H : Heap} {locs : List Loc} (h : rc_ev E A s s.heap) (hS : va_S A s.heap H locs) (hAB : ∀ q, B q → A q) (hW : s.WarmedH U.vm) (hU : U.heap = H) : rc_ev E B U U.heap := by
  obtain ⟨h1, h2, h3, h4, h5, h6, h7, h8, h9, h10, h11⟩ := h
  rw [hU]
  exact ⟨va_K.moved hW.alike h1, h2.warm hW, fun k q hk => (h3 k q hk).warm hW, ((h4.kept hS.2.1).narrow hAB).moved hW.alike, ((h5.kept hS.2.1).narrow hAB).moved hW.alike, ((h6.kept hS.2.1).narrow hAB).moved hW.alike, ((h7.kept hS.2.1).narrow hAB).moved hW.alike, ((h8.kept hS.2.1).narrow hAB).moved hW.alike, h9.moved hW.alike, h10.moved hW.alike, h11.moved hW.alike⟩
theorem rc_ev.blind {E : gE} {A : Nat → Prop} {U V : State} (hv : U.vm = V.vm) (hh : U.heap = V.heap) (h : rc_ev E A U U.heap) : rc_ev E A V V.heap := by
  obtain ⟨h1, h2, h3, h4, h5, h6, h7, h8, h9, h10, h11⟩ := h
  rw [← hh]
  have hk : U.vm.Alike V.vm := by rw [hv]; exact Vm.Alike.refl _
  exact ⟨va_K.moved hk h1, h2.same hv, fun k q hq => (h3 k q hq).same hv.symm, h4.moved hk, h5.moved hk, h6.moved hk, h7.moved hk, h8.moved hk, h9.moved hk, h10.moved hk, h11.moved hk⟩
/-- a contract's start: the world ws at heap size sz, and the surroundings -/
def rc_B (E : gE) (ws : va_W) (sz : Nat) (U : State) : Prop := U.heap.size = sz ∧ va_P E.1 vwCl ws U.heap ∧ rc_ev E (va_A ws sz) U U.heap ∧ va_D (fun _ => True) ws
theorem rc_B.blind {E : gE} {ws : va_W} {sz : Nat} {U : State} {g : JFrame} {mk : MethodId} {a : Array Value} (h : rc_B E ws sz U) : rc_B E ws sz (U.calling g mk a) :=
  ⟨h.1, h.2.1, rc_ev.blind (U := U) (V := U.calling g mk a) rfl rfl h.2.2.1, h.2.2.2⟩
/-- a contract's end: the world, apart and within A -/
def rc_C (E : gE) (A : Nat → Prop) (ws : va_W) (t : State) : Prop := va_P E.1 vwCl ws t.heap ∧ va_D A ws
/-- cells put into their places -/
def rc_set : va_W → List Nat → va_W → va_W
  | ws, i :: is, q :: qs => rc_set (ws.set i q) is qs
  | ws, _, _ => ws
theorem rc_set_at : ∀ (is : List Nat) (ws qs : va_W), is.length = qs.length → ∀ (k : Nat) (p : Nat × va_E), (rc_set ws is qs)[k]? = some p → (∃ j : Nat, is[j]? = some k ∧ qs[j]? = some p) ∨ (ws[k]? = some p ∧ k ∉ is) := by
  intro is
  induction is with
  | nil =>
    intro ws qs hl k p h
    refine Or.inr ⟨?_, List.not_mem_nil⟩
    cases qs with
    | nil => exact h
    | cons q qs => simp at hl
  | cons i is ih =>
    intro ws qs hl k p h
    cases qs with
    | nil => simp at hl
    | cons q qs =>
      rcases ih (ws.set i q) qs (by simpa using hl) k p h with ⟨j, h1, h2⟩ | ⟨h1, h2⟩
      · exact Or.inl ⟨j + 1, h1, h2⟩
      · by_cases hk : k = i
        · subst hk
          have hlt : k < (ws.set k q).length := (List.getElem?_eq_some_iff.mp h1).1
          rw [List.length_set] at hlt
          rw [List.getElem?_set_self hlt] at h1
          exact Or.inl ⟨0, rfl, h1⟩
        · rw [List.getElem?_set_ne (Ne.symm hk)] at h1
          exact Or.inr ⟨h1, fun z => (List.mem_cons.mp z).elim hk h2⟩
theorem rc_set_fst : ∀ (is : List Nat) (ws qs : va_W), is.map (fun i => (ws[i]?).map Prod.fst) = qs.map (fun q => some q.1) → (rc_set ws is qs).map Prod.fst = ws.map Prod.fst := by
  intro is
  induction is with
  | nil =>
    intro ws qs h
    cases qs with
    | nil => rfl
    | cons q qs => simp at h
  | cons i is ih =>
    intro ws qs h
    cases qs with
    | nil => simp at h
    | cons q qs =>
      simp only [List.map_cons, List.cons.injEq] at h
      have e : (ws.set i q).map Prod.fst = ws.map Prod.fst := by
        apply List.ext_getElem?
        intro k
        rw [List.getElem?_map, List.getElem?_map]
        by_cases hk : k = i
        · subst hk
          by_cases hlt : k < ws.length
          · rw [List.getElem?_set_self hlt, h.1]; rfl
          · rw [List.getElem?_eq_none (by rw [List.length_set]; omega), List.getElem?_eq_none (by omega)]
        · rw [List.getElem?_set_ne (Ne.symm hk)]
      show (rc_set (ws.set i q) is qs).map Prod.fst = _
      rw [ih (ws.set i q) qs ?_, e]
      rw [← h.2]
      apply List.map_congr_left
      intro j _
      rw [← List.getElem?_map, ← List.getElem?_map, e]
theorem rc_D_fst {A : Nat → Prop} {ws ws' : va_W} (e : ws'.map Prod.fst = ws.map Prod.fst) (h : va_D A ws) : va_D A ws' := by
  have key : ∀ (k : Nat) (q : Nat × va_E), ws'[k]? = some q → ∃ p, ws[k]? = some p ∧ p.1 = q.1 := by
    intro k q hk
    have h1 : (ws'.map Prod.fst)[k]? = some q.1 := by rw [List.getElem?_map, hk]; rfl
    rw [e, List.getElem?_map] at h1
    cases hp : ws[k]? with
    | none => rw [hp] at h1; cases h1
    | some p => rw [hp] at h1; exact ⟨p, rfl, Option.some.inj h1⟩
  refine ⟨fun i j p q hi hj hpq => ?_, fun k q hk => ?_⟩
  · obtain ⟨p', h1, h2⟩ := key i p hi
    obtain ⟨q', h3, h4⟩ := key j q hj
    exact h.1 i j p' q' h1 h3 (h2.trans (hpq.trans h4.symm))
  · obtain ⟨p', h1, h2⟩ := key k q hk
    rw [← h2]
    exact h.2 k p' h1
/-- behind a call: the callee's cells in their places, the rest as it was -/
theorem rc_focus {A0 : Nat → Prop} {D : va_G} {cl : List vw_C} {ws wc w1 : va_W} {H H1 : Heap} (hP : va_P D cl ws H) (hD : va_D A0 ws) (isC : List Nat) (hC : isC.map (fun i => ws[i]?) = wc.map some) (hk : ∀ q : Nat, q < H.size → ¬ va_A wc H.size q → H1[q]? = H[q]?) (hP1 : va_P D cl w1 H1) (hl : w1.map Prod.fst = wc.map Prod.fst) :
    va_P D cl (rc_set ws isC w1) H1 ∧ va_D A0 (rc_set ws isC w1) := by
  have hlen : isC.length = w1.length := by
    have h1 := congrArg List.length hC
    have h2 := congrArg List.length hl
    simp only [List.length_map] at h1 h2
    omega
  refine ⟨fun k q hq => ?_, rc_D_fst (rc_set_fst isC ws w1 ?_) hD⟩
  · rcases rc_set_at isC ws w1 hlen k q hq with ⟨j, h1, h2⟩ | ⟨h1, h2⟩
    · exact hP1 j q h2
    · refine (hP k q h1).kept (hk q.1 (hP k q h1).lt fun z => ?_)
      rcases z with ⟨j, e, hj⟩ | z
      · have h3 : (wc.map some)[j]? = some (some (q.1, e)) := by rw [List.getElem?_map, hj]; rfl
        rw [← hC, List.getElem?_map] at h3
        cases hi : isC[j]? with
        | none => rw [hi] at h3; cases h3
        | some i =>
          rw [hi] at h3
          have h4 : ws[i]? = some (q.1, e) := Option.some.inj h3
          have h5 := hD.1 k i q (q.1, e) h1 h4 rfl
          subst h5
          exact h2 (List.mem_of_getElem? hi)
      · exact absurd (hP k q h1).lt (Nat.not_lt.mpr z)
  · apply List.ext_getElem?
    intro j
    have h1 : (isC.map (fun i => ws[i]?))[j]? = (wc.map some)[j]? := by rw [hC]
    have h2 : (w1.map Prod.fst)[j]? = (wc.map Prod.fst)[j]? := by rw [hl]
    simp only [List.getElem?_map] at h1 h2 ⊢
    cases hi : isC[j]? <;> cases hc : wc[j]? <;> cases hw : w1[j]? <;> rw [hi, hc] at h1 <;> rw [hw, hc] at h2 <;> simp_all
theorem rc_C.of {E : gE} {A : Nat → Prop} {ws : va_W} {t : State} {H : Heap} (ht : t.heap = H) (hP : va_P E.1 vwCl ws H) (hD : va_D A ws) : rc_C E A ws t := ⟨by rw [ht]; exact hP, hD⟩
/-- the places of a world, some of them taken from another one -/
def rc_mix : List (Option Nat) → va_W → va_W → va_W
  | [], ws, _ => ws
  | o :: sel, ws, w1 => match ws with
    | [] => []
    | q :: ws => (match o with | none => q | some j => (w1[j]?).getD q) :: rc_mix sel ws w1
def rc_sel (isC : List Nat) (sel : List (Option Nat)) : Bool :=
  (List.range sel.length).all (fun k => match sel[k]? with | some (some j) => decide (isC[j]? = some k) | _ => decide (k ∉ isC)) && isC.all (fun i => decide (i < sel.length))
theorem rc_mix_at : ∀ (sel : List (Option Nat)) (ws w1 : va_W) (k : Nat), (rc_mix sel ws w1)[k]? = match sel[k]? with | some (some j) => (ws[k]?).map (fun q => (w1[j]?).getD q) | _ => ws[k]? := by
  intro sel
  induction sel with
  | nil => intro ws w1 k; rfl
  | cons o sel ih =>
    intro ws w1 k
    cases ws with
    | nil =>
      show ([] : va_W)[k]? = _
      cases h : (o :: sel)[k]? with
      | none => simp
      | some x => cases x <;> simp
    | cons q ws =>
      cases k with
      | zero => cases o <;> rfl
      | succ k =>
        show (rc_mix sel ws w1)[k]? = _
        rw [ih ws w1 k]
        rfl
theorem rc_mix_fst {ws wc w1 : va_W} {isC : List Nat} {sel : List (Option Nat)} (hs : rc_sel isC sel = true) (hC : isC.map (fun i => ws[i]?) = wc.map some) (hl : w1.map Prod.fst = wc.map Prod.fst) : (rc_mix sel ws w1).map Prod.fst = ws.map Prod.fst := by
  apply List.ext_getElem?
  intro k
  rw [List.getElem?_map, List.getElem?_map, rc_mix_at]
  cases hsk : sel[k]? with
  | none => rfl
  | some o =>
    cases o with
    | none => rfl
    | some j =>
      have hk : k < sel.length := (List.getElem?_eq_some_iff.mp hsk).1
      have h1 := List.all_eq_true.mp (Bool.and_eq_true_iff.mp hs).1 k (List.mem_range.mpr hk)
      rw [hsk] at h1
      have hj : isC[j]? = some k := of_decide_eq_true h1
      cases hw : ws[k]? with
      | none => rfl
      | some q =>
        have h2 : (isC.map (fun i => ws[i]?))[j]? = some (some q) := by rw [List.getElem?_map, hj, ← hw]; rfl
        rw [hC, List.getElem?_map] at h2
        cases hc : wc[j]? with
        | none => rw [hc] at h2; cases h2
        | some x =>
          rw [hc] at h2
          have hx : x = q := Option.some.inj (Option.some.inj h2)
          have h3 : (w1.map Prod.fst)[j]? = some q.1 := by rw [hl, List.getElem?_map, hc, hx]; rfl
          rw [List.getElem?_map] at h3
          cases hw1 : w1[j]? with
          | none => rw [hw1] at h3; cases h3
          | some y =>
            rw [hw1] at h3
            show some ((w1[j]?).getD q).1 = some q.1
            rw [hw1]
            exact h3
/-- behind a call: the callee's cells in their places, the rest as it was -/
theorem rc_foc {A0 : Nat → Prop} {D : va_G} {cl : List vw_C} {ws wc w1 : va_W} {H H1 : Heap} (hP : va_P D cl ws H) (hD : va_D A0 ws) (isC : List Nat) (sel : List (Option Nat)) (hs : rc_sel isC sel = true) (hC : isC.map (fun i => ws[i]?) = wc.map some) (hk : ∀ q : Nat, q < H.size → ¬ va_A wc H.size q → H1[q]? = H[q]?) (hP1 : va_P D cl w1 H1) (hl : w1.map Prod.fst = wc.map Prod.fst) :
    va_P D cl (rc_mix sel ws w1) H1 ∧ va_D A0 (rc_mix sel ws w1) := by
  refine ⟨fun k q hq => ?_, rc_D_fst (rc_mix_fst hs hC hl) hD⟩
  have hrest : ws[k]? = some q → k ∉ isC → va_at D cl q H1 := by
    intro h1 h2
    refine (hP k q h1).kept (hk q.1 (hP k q h1).lt fun z => ?_)
    rcases z with ⟨j, e, hj⟩ | z
    · have h3 : (wc.map some)[j]? = some (some (q.1, e)) := by rw [List.getElem?_map, hj]; rfl
      rw [← hC, List.getElem?_map] at h3
      cases hi : isC[j]? with
      | none => rw [hi] at h3; cases h3
      | some i =>
        rw [hi] at h3
        have h4 : ws[i]? = some (q.1, e) := Option.some.inj h3
        have h5 := hD.1 k i q (q.1, e) h1 h4 rfl
        subst h5
        exact h2 (List.mem_of_getElem? hi)
    · exact absurd (hP k q h1).lt (Nat.not_lt.mpr z)
  have hs1 := (Bool.and_eq_true_iff.mp hs).1
  have hs2 := (Bool.and_eq_true_iff.mp hs).2
  rw [rc_mix_at] at hq
  cases hsk : sel[k]? with
  | none =>
    rw [hsk] at hq
    refine hrest hq fun z => ?_
    have h1 := of_decide_eq_true (List.all_eq_true.mp hs2 k z)
    rw [List.getElem?_eq_none_iff] at hsk
    omega
  | some o =>
    have hkl : k < sel.length := (List.getElem?_eq_some_iff.mp hsk).1
    have h1 := List.all_eq_true.mp hs1 k (List.mem_range.mpr hkl)
    rw [hsk] at h1 hq
    cases o with
    | none => exact hrest hq (of_decide_eq_true h1)
    | some j =>
      have hj : isC[j]? = some k := of_decide_eq_true h1
      have hlen : isC.length = w1.length := by
        have h1 := congrArg List.length hC
        have h2 := congrArg List.length hl
        simp only [List.length_map] at h1 h2
        omega
      have hjl : j < w1.length := by rw [← hlen]; exact (List.getElem?_eq_some_iff.mp hj).1
      have hw1 : w1[j]? = some w1[j] := List.getElem?_eq_getElem hjl
      cases hw : ws[k]? with
      | none => rw [hw] at hq; cases hq
      | some x =>
        rw [hw] at hq
        have h5 : (w1[j]?).getD x = q := Option.some.inj hq
        rw [hw1] at h5
        have h6 : w1[j] = q := h5
        exact hP1 j q (by rw [hw1, h6])
theorem rc_freeI {A0 : Nat → Prop} {ws : va_W} {H0 H : Heap} {locs : List Loc} (hD : va_D A0 ws) (hS : va_S A0 H0 H locs) (hA : ∀ q, H0.size ≤ q → A0 q) : ∀ q, va_A ws H.size q → A0 q := by
  intro q h
  rcases h with ⟨k, e, hk⟩ | h
  · exact hD.2 k (q, e) hk
  · exact hA q (Nat.le_trans hS.1 h)
