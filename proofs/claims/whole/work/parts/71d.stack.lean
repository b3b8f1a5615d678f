/-! PURE: what waits, what is out -/
def pw_rank (c : Int32) : Nat := if c = -1 then 1 else if c = -2 then 2 else if c < -5 then (if c < -7 then (if c < -9 then 6 else 5) else 4) else 3
theorem sp_X7_rank {c : Int32} {Q : Int32 → Prop} (hq : Q (nI (pw_rank c))) : wp_X7_rank c Q := by
  unfold wp_X7_rank
  unfold pw_rank at hq
  refine ⟨fun a => ⟨fun b => ⟨fun d => ⟨fun e => ⟨fun f => ?_, fun f => ?_⟩, fun e => ?_⟩, fun d => ?_⟩, fun b => ?_⟩, fun a => ?_⟩
  · rw [if_neg a, if_neg b, if_pos d, if_pos e, if_pos f] at hq; exact hq
  · rw [if_neg a, if_neg b, if_pos d, if_pos e, if_neg f] at hq; exact hq
  · rw [if_neg a, if_neg b, if_pos d, if_neg e] at hq; exact hq
  · rw [if_neg a, if_neg b, if_neg d] at hq; exact hq
  · rw [if_neg a, if_pos b] at hq; exact hq
  · rw [if_pos a] at hq; exact hq
theorem pw_rank_le (c : Int32) : 1 ≤ pw_rank c ∧ pw_rank c ≤ 6 := by unfold pw_rank; grind
/-- what waits, the last one first -/
def pw_S (Wts : Nat → Int32) : List Int32 → Prop
  | [] => True
  | t :: r => Wts r.length = t ∧ pw_S Wts r
theorem pw_S_upd {Wts : Nat → Int32} {x : Int32} {k : Nat} : ∀ W : List Int32, W.length ≤ k → pw_S Wts W → pw_S (upd Wts k x) W := by
  intro W
  induction W with
  | nil => intro _ _; exact True.intro
  | cons t r ih =>
    intro hk h
    have hk : r.length + 1 ≤ k := hk
    exact ⟨by rw [pn_upd_ne (by omega)]; exact h.1, ih (by omega) h.2⟩
theorem pw_push {Wts : Nat → Int32} {x : Int32} {W : List Int32} (h : pw_S Wts W) : pw_S (upd Wts W.length x) (x :: W) := ⟨pn_upd_self, pw_S_upd W (Nat.le_refl _) h⟩
/-- what is out -/
def pw_O (Cod : Nat → Int32) (o : List Int32) : Prop := ∀ k, k < o.length → Cod k = o.getD k 0
theorem pw_O_app {Cod : Nat → Int32} {o : List Int32} {x : Int32} (h : pw_O Cod o) : pw_O (upd Cod o.length x) (o ++ [x]) := by
  intro k hk
  rw [List.length_append, List.length_singleton] at hk
  by_cases e : k = o.length
  · subst e
    rw [pn_upd_self, List.getD_eq_getElem?_getD, List.getElem?_append_right (Nat.le_refl _)]
    simp
  · rw [pn_upd_ne e, h k (by omega), List.getD_eq_getElem?_getD, List.getD_eq_getElem?_getD, List.getElem?_append_left (by omega)]
/-- what settling pops: these, and the rest -/
def pw_pop (r : Nat) : List Int32 → List Int32 × List Int32
  | [] => ([], [])
  | t :: w => if t = -11 ∨ pw_rank t < r then ([], t :: w) else (t :: (pw_pop r w).1, (pw_pop r w).2)
theorem pw_pop_len (r : Nat) : ∀ W, (pw_pop r W).1.length + (pw_pop r W).2.length = W.length := by
  intro W
  induction W with
  | nil => rfl
  | cons t w ih =>
    unfold pw_pop
    split
    · simp
    · simp only [List.length_cons]; omega
theorem sp_X7_settle {r : Nat} {Wts : Nat → Int32} {Q : Int32 → Int32 → (Nat → Int32) → Prop} (hr : r ≤ 6) : ∀ (W o : List Int32) (Cod : Nat → Int32), pw_S Wts W → pw_O Cod o → o.length + W.length ≤ 96 → (∀ Cod', pw_O Cod' (o ++ (pw_pop r W).1) → Q (nI (o ++ (pw_pop r W).1).length) (nI (pw_pop r W).2.length) Cod') → wp_X7_settle (nI r) (nI o.length) (nI W.length) Cod Wts Q := by
  intro W o Cod h1 h2 h3 h4
  suffices ∃ m, lp_X7_settle_0 (nI r) Wts Q m (nI o.length) (nI W.length) Cod by
    unfold wp_X7_settle; exact this
  revert o Cod
  induction W with
  | nil =>
    intro o Cod h2 h3 h4
    refine ⟨1, ?_⟩
    show lp_X7_settle_0F (nI r) Wts Q _ (nI o.length) (nI 0) Cod
    unfold lp_X7_settle_0F
    refine pbT (by decide) ?_
    have := h4 Cod (by show pw_O Cod (o ++ []); rw [List.append_nil]; exact h2)
    rw [show (pw_pop r []).1 = [] from rfl, List.append_nil] at this
    exact this
  | cons t w ih =>
    intro o Cod h2 h3 h4
    obtain ⟨g1, g2⟩ := h1
    have hlen : (t :: w).length = w.length + 1 := rfl
    have e : pw_pop r (t :: w) = if t = -11 ∨ pw_rank t < r then ([], t :: w) else (t :: (pw_pop r w).1, (pw_pop r w).2) := rfl
    have hrk := pw_rank_le t
    by_cases hc : t = -11 ∨ pw_rank t < r
    · rw [e, if_pos hc] at h4
      refine ⟨1, ?_⟩
      show lp_X7_settle_0F (nI r) Wts Q _ (nI o.length) (nI (w.length + 1)) Cod
      unfold lp_X7_settle_0F
      have fin := h4 Cod (by rw [List.append_nil]; exact h2)
      rw [List.append_nil, hlen] at fin
      rw [pn_s1, pn_cl (by omega), g1]
      refine pbF (by grind [pg_n]) ⟨pn_in (by omega) (by decide), fun _ => fin, fun y => ⟨pn_in (by omega) (by decide), sp_X7_rank (pbT ?_ fin)⟩⟩
      rw [nI_ltI (by omega) (by omega)]
      exact hc.resolve_left y
    · rw [e, if_neg hc] at h4
      have hl2 : (o ++ [t]).length = o.length + 1 := by simp
      obtain ⟨m, hm⟩ := ih g2 (o ++ [t]) (upd Cod o.length t) (pw_O_app h2) (by rw [hl2]; rw [hlen] at h3; omega) (fun Cod' hC => by
        rw [List.append_assoc] at hC ⊢
        exact h4 Cod' hC)
      refine ⟨m + 1, ?_⟩
      show lp_X7_settle_0F (nI r) Wts Q (lp_X7_settle_0 (nI r) Wts Q m) (nI o.length) (nI (w.length + 1)) Cod
      unfold lp_X7_settle_0F
      rw [hlen] at h3
      rw [pn_s1, pn_cl (show w.length < 2 ^ 31 by omega), g1, pn_cl (by omega), pn_p1]
      rw [hl2] at hm
      refine pbF (by grind [pg_n]) ⟨pn_in (by omega) (by decide), pbF (fun z => hc (Or.inl z)) ⟨pn_in (by omega) (by decide), sp_X7_rank (pbF ?_ ⟨pn_in (by omega) (by decide), pn_in (by omega) (by decide), hm⟩)⟩⟩
      rw [nI_ltI (by omega) (by omega)]
      exact fun z => hc (Or.inr z)
/-- how many nots wait -/
def pw_cn : List Int32 → Nat
  | [] => 0
  | t :: w => pw_cn w + (if t = -10 then 1 else 0)
def pw_cf (Wts : Nat → Int32) : Nat → Nat
  | 0 => 0
  | i + 1 => pw_cf Wts i + (if Wts i = -10 then 1 else 0)
theorem pw_cf_eq {Wts : Nat → Int32} : ∀ W, pw_S Wts W → pw_cf Wts W.length = pw_cn W := by
  intro W
  induction W with
  | nil => intro _; rfl
  | cons t w ih =>
    intro h
    show pw_cf Wts w.length + (if Wts w.length = -10 then 1 else 0) = pw_cn w + (if t = -10 then 1 else 0)
    rw [ih h.2, h.1]
theorem pw_cf_le (Wts : Nat → Int32) : ∀ i, pw_cf Wts i ≤ i := by
  intro i
  induction i with
  | zero => exact Nat.le_refl _
  | succ i ih =>
    show pw_cf Wts i + (if Wts i = -10 then 1 else 0) ≤ i + 1
    split <;> omega
theorem pw_cn_le : ∀ W, pw_cn W ≤ W.length := by
  intro W
  induction W with
  | nil => exact Nat.le_refl _
  | cons t w ih =>
    show pw_cn w + (if t = -10 then 1 else 0) ≤ w.length + 1
    split <;> omega
theorem sp_X7_notsOpen {Wts : Nat → Int32} {W : List Int32} {Q : Int32 → Prop} (hS : pw_S Wts W) (hl : W.length ≤ 96) (hq : Q (nI (pw_cn W))) : wp_X7_notsOpen (nI W.length) Wts Q := by
  rw [← pw_cf_eq W hS] at hq
  have Lp : ∀ (m i : Nat), i + m = W.length → lp_X7_notsOpen_4 (nI W.length) Wts Q (m + 1) (nI (pw_cf Wts i)) (nI i) := by
    intro m
    induction m with
    | zero =>
      intro i hi
      obtain rfl : i = W.length := by omega
      show lp_X7_notsOpen_4F (nI W.length) Wts Q _ (nI (pw_cf Wts W.length)) (nI W.length)
      unfold lp_X7_notsOpen_4F
      exact pbT (by grind) hq
    | succ m ih =>
      intro i hi
      show lp_X7_notsOpen_4F (nI W.length) Wts Q (lp_X7_notsOpen_4 (nI W.length) Wts Q (m + 1)) (nI (pw_cf Wts i)) (nI i)
      unfold lp_X7_notsOpen_4F
      have ih2 := ih (i + 1) (by omega)
      have e : pw_cf Wts (i + 1) = pw_cf Wts i + (if Wts i = -10 then 1 else 0) := rfl
      rw [pn_cl (by omega), pn_p1]
      refine pbF (by rw [nI_leI (by omega) (by omega)]; omega) ⟨pn_in (by omega) (by decide), fun z => ?_, fun z => ?_⟩
      · rw [e, if_neg z] at ih2
        rw [show nI (pw_cf Wts i) + 0 = nI (pw_cf Wts i + 0) from nI_add _ 0]
        exact ih2
      · rw [e, if_pos z] at ih2
        rw [show nI (pw_cf Wts i) + 1 = nI (pw_cf Wts i + 1) from nI_add _ 1]
        exact ih2
  unfold wp_X7_notsOpen
  exact ⟨W.length + 1, Lp W.length 0 (by omega)⟩
/-- codes that lead from t numbers to u -/
def pw_w (nm : Nat) : List Int32 → Nat → Nat → Prop
  | [], t, u => t = u
  | c :: cs, t, u => if c < 0 then (if c = -10 then 1 ≤ t ∧ pw_w nm cs t u else (-9) ≤ c ∧ 2 ≤ t ∧ pw_w nm cs (t - 1) u) else (∃ v : Nat, v < 10000 + nm ∧ c = nI v) ∧ pw_w nm cs (t + 1) u
theorem pw_w_app {nm : Nat} {b : List Int32} {u v : Nat} : ∀ (a : List Int32) (t : Nat), pw_w nm a t u → pw_w nm b u v → pw_w nm (a ++ b) t v := by
  intro a
  induction a with
  | nil => intro t h1 h2; have h1 : t = u := h1; rw [h1]; exact h2
  | cons c cs ih =>
    intro t h1 h2
    show pw_w nm (c :: (cs ++ b)) t v
    unfold pw_w at h1 ⊢
    by_cases c1 : c < 0
    · rw [if_pos c1] at h1 ⊢
      by_cases c2 : c = -10
      · rw [if_pos c2] at h1 ⊢
        exact ⟨h1.1, ih _ h1.2 h2⟩
      · rw [if_neg c2] at h1 ⊢
        exact ⟨h1.1, h1.2.1, ih _ h1.2.2 h2⟩
    · rw [if_neg c1] at h1 ⊢
      exact ⟨h1.1, ih _ h1.2 h2⟩
theorem pw_w_leaf {nm v : Nat} (h : v < 10000 + nm) (hn : nm ≤ 3) (t : Nat) : pw_w nm [nI v] t (t + 1) := by
  unfold pw_w
  rw [if_neg (nI_pos (by omega))]
  exact ⟨⟨v, h, rfl⟩, rfl⟩
theorem pw_w_not (nm t : Nat) : pw_w nm [-10] (t + 1) (t + 1) := by
  unfold pw_w
  rw [if_pos (by decide), if_pos rfl]
  exact ⟨by omega, rfl⟩
theorem pw_w_bin {nm t : Nat} {c : Int32} (h1 : c < 0) (h2 : (-9) ≤ c) : pw_w nm [c] (t + 2) (t + 1) := by
  unfold pw_w
  rw [if_pos h1, if_neg (by grind)]
  exact ⟨h2, by omega, rfl⟩
theorem pw_w_wf {nm : Nat} {cd : Nat → Int32} : ∀ (o : List Int32) (k t : Nat), (∀ j, j < o.length → cd (k + j) = o.getD j 0) → pw_w nm o t 1 → pe_wf cd nm o.length k t := by
  intro o
  induction o with
  | nil => intro k t _ h; exact h
  | cons c cs ih =>
    intro k t hc h
    have h0 : cd k = c := by have := hc 0 (by show 0 < cs.length + 1; omega); exact this
    have hc' : ∀ j, j < cs.length → cd (k + 1 + j) = cs.getD j 0 := by
      intro j hj
      have := hc (j + 1) (by show j + 1 < cs.length + 1; omega)
      rw [show k + (j + 1) = k + 1 + j by omega] at this
      rw [this]
      rfl
    show pe_wf cd nm (cs.length + 1) k t
    unfold pe_wf
    unfold pw_w at h
    rw [h0]
    by_cases c1 : c < 0
    · rw [if_pos c1] at h ⊢
      by_cases c2 : c = -10
      · rw [if_pos c2] at h ⊢
        exact ⟨h.1, ih _ _ hc' h.2⟩
      · rw [if_neg c2] at h ⊢
        exact ⟨h.1, h.2.1, ih _ _ hc' h.2.2⟩
    · rw [if_neg c1] at h ⊢
      exact ⟨h.1, ih _ _ hc' h.2⟩
