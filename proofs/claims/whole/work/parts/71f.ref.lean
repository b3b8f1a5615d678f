/-! PURE: the reference behind a piece -/
section
variable {b : Nat → Nat} {L key : Nat} {Tap : Nat → Int32} {Q : Int32 → Int32 → Int32 → Int32 → Int32 → Int32 → Int32 → Int32 → Int32 → (Nat → Int32) → (Nat → Int32) → (Nat → Int32) → Prop} {ob lv s : Nat} {o W : List Int32} {te : Nat → Int32}
theorem pw_op_p {x l : Nat} {c : Int32} (h : pw_op x = some (l, c)) : l ≤ 4 ∧ c < 0 ∧ (-9) ≤ c ∧ pw_rank c = l + 1 ∧ -(nI x) = pe_cv c ∧ x < 256 ∧ x ≠ 33 ∧ x ≠ 40 ∧ x ≠ 41 := by
  unfold pw_op at h
  repeat' split at h
  all_goals (first | (cases h; subst_vars; decide) | cases h)
theorem sp_X7_signHere {va : Int32} {Q' : Int32 → Prop} (hx : ∀ k, k < L → b k < 256) (hva : pv_tk b L s = 1 ∨ pv_tk b L s = 2 ∨ pv_tk b L s = 3 → va = nI (pv_va b L s)) (h0 : pw_lv b L s = none → Q' 0) (h1 : ∀ l c, pw_lv b L s = some (l, c) → Q' c) : wp_X7_signHere (nI (pv_tk b L s)) va Q' := by
  unfold wp_X7_signHere
  unfold pw_lv at h0 h1
  refine ⟨fun e => ?_, fun e => h0 ?_⟩
  · rw [show (3 : Int32) = nI 3 from rfl, pw_tk (by decide)] at e
    have hs := pv_tk_lt (by decide) e
    have hb := hx s hs
    have hva := hva (Or.inr (Or.inr e))
    rw [pv_va3 (by omega)] at hva
    rw [if_pos e] at h0 h1
    have eq : ∀ k : Nat, k < 256 → ((va = nI k) = (b s = k)) := fun k hk => by rw [hva]; exact pn_eq (by omega) (by omega)
    rw [show (38 : Int32) = nI 38 from rfl, show (42 : Int32) = nI 42 from rfl, show (43 : Int32) = nI 43 from rfl, show (45 : Int32) = nI 45 from rfl, show (47 : Int32) = nI 47 from rfl, show (60 : Int32) = nI 60 from rfl, show (61 : Int32) = nI 61 from rfl, show (62 : Int32) = nI 62 from rfl, show (124 : Int32) = nI 124 from rfl]
    rw [eq 38 (by decide), eq 42 (by decide), eq 43 (by decide), eq 45 (by decide), eq 47 (by decide), eq 60 (by decide), eq 61 (by decide), eq 62 (by decide), eq 124 (by decide)]
    generalize b s = x at h0 h1
    refine ⟨fun z => ?_, fun z => ?_, fun z => ?_, fun z => ?_, fun z => ?_, fun z => ?_, fun z => ?_, fun z => ?_, fun z => ?_, fun z => h0 ?_⟩
    · subst z; exact h1 _ _ rfl
    · subst z; exact h1 _ _ rfl
    · subst z; exact h1 _ _ rfl
    · subst z; exact h1 _ _ rfl
    · subst z; exact h1 _ _ rfl
    · subst z; exact h1 _ _ rfl
    · subst z; exact h1 _ _ rfl
    · subst z; exact h1 _ _ rfl
    · subst z; exact h1 _ _ rfl
    · unfold pw_op
      grind
  · rw [show (3 : Int32) = nI 3 from rfl, pw_tk (by decide)] at e
    rw [if_neg e]
theorem pw_pop_S {Wts : Nat → Int32} {r : Nat} : ∀ W : List Int32, pw_S Wts W → pw_S Wts (pw_pop r W).2 := by
  intro W
  induction W with
  | nil => intro _; exact True.intro
  | cons t w ih =>
    intro hh
    unfold pw_pop
    split
    · exact hh
    · exact ih hh.2
theorem rs_op {l : Nat} {c : Int32} (hL : L ≤ 96) (hT : pv_by Tap b L) (hv : pw_lv b L s = some (l, c)) (hte : te ob = 0 ∨ te ob = 1) (h2 : l = 2 → te ob = 0) (hob : ob ≤ 8) (hl : o.length + W.length + 4 ≤ s) (hcn : pw_cn (pw_pop (l + 1) W).2 = pw_cn W)
    (h : pw_R b L key Tap Q ob 1 (o ++ (pw_pop (l + 1) W).1) lv (c :: (pw_pop (l + 1) W).2) (upd te ob (if l = 2 then 1 else if 3 ≤ l then te ob else 0)) (pv_nx b L s)) : pw_R b L key Tap Q ob 0 o lv W te s := by
  obtain ⟨m, h⟩ := h
  have ht : pv_tk b L s = 3 := by
    unfold pw_lv at hv
    by_cases e : pv_tk b L s = 3
    · exact e
    · rw [if_neg e] at hv; cases hv
  have hv' : pw_op (b s) = some (l, c) := by unfold pw_lv at hv; rw [if_pos ht] at hv; exact hv
  obtain ⟨o1, o2, o3, o4, o5, o6, o7, o8, o9⟩ := pw_op_p hv'
  have hs := pv_tk_lt (by decide) ht
  obtain ⟨c1, c2, _⟩ := pv_en_p (b := b) hs
  have hx : ∀ k, k < L → b k < 256 := fun k hk => (hT k hk).1
  refine ⟨m + 1, fun va en Cod Wts Tes hed hva hO hS hTe => ?_⟩
  have hva' := hva (Or.inr (Or.inr ht))
  rw [pv_va3 (by omega)] at hva'
  show lp_X7_takesE_28F (nI L) (nI key) Tap Q (lp_X7_takesE_28 (nI L) (nI key) Tap Q m) (nI ob) (nI (pw_cn W)) 0 (nI (pv_en b L s)) (nI s) (nI (pv_tk b L s)) va en (nI o.length) (nI lv) (nI W.length) Cod Wts Tes
  have htk0 : ¬ nI (pv_tk b L s) = 0 := by rw [ht]; decide
  have hpl := pw_pop_len (l + 1) W
  have j305 : ∀ y : Int32, (y = 0 ∨ y = 1) → (if l = 2 then 1 else if 3 ≤ l then te ob else 0) = y → jp_X7_takesE_305 (nI L) Tap (lp_X7_takesE_28 (nI L) (nI key) Tap Q m) (nI ob) (nI (pw_cn W)) c y (nI ob) (nI (pv_en b L s)) (nI s) (nI (pv_tk b L s)) va en (nI o.length) (nI lv) (nI W.length) Cod Wts Tes := by
    intro y hy01 hy
    unfold jp_X7_takesE_305
    refine ⟨pn_in (by omega) (by decide), by rcases hy01 with rfl | rfl <;> decide, sp_X7_rank ?_⟩
    rw [o4]
    refine sp_X7_settle (r := l + 1) (by omega) W o _ hS hO (by omega) (fun Cod' hC => ⟨pn_in (by omega) (by decide), sp_X7_go hL hT c2 (hed hs) (fun va' en' g1 g2 => ?_)⟩)
    have hS' := pw_push (x := c) (pw_pop_S (r := l + 1) W hS)
    have e1 : nI (pw_pop (l + 1) W).2.length + 1 = nI (c :: (pw_pop (l + 1) W).2).length := pn_p1 _
    have e2 : pw_cn (c :: (pw_pop (l + 1) W).2) = pw_cn W := by
      show pw_cn (pw_pop (l + 1) W).2 + (if c = -10 then 1 else 0) = pw_cn W
      rw [if_neg (by grind), hcn]
      omega
    rw [e1, pn_cl (by omega), pn_cl (by omega), ← e2]
    refine h va' en' Cod' _ _ g1 g2 hC hS' (fun q hq => ?_)
    by_cases e : q = ob
    · subst e; rw [pn_upd_self, pn_upd_self, hy]
    · rw [pn_upd_ne e, pn_upd_ne e]; exact hTe q hq
  have j268 : jp_X7_takesE_268 (nI L) Tap (lp_X7_takesE_28 (nI L) (nI key) Tap Q m) (nI ob) (nI (pw_cn W)) c (nI (pv_en b L s)) (nI s) (nI (pv_tk b L s)) va en (nI o.length) (nI lv) (nI W.length) Cod Wts Tes := by
    unfold jp_X7_takesE_268
    refine sp_X7_rank ?_
    rw [o4]
    refine ⟨fun z => j305 1 (Or.inr rfl) ?_, fun z => sp_X7_rank ?_⟩
    · rw [show (3 : Int32) = nI 3 from rfl, nI_eq (by omega) (by omega)] at z
      rw [if_pos (by omega)]
    · rw [show (3 : Int32) = nI 3 from rfl, nI_eq (by omega) (by omega)] at z
      rw [o4, pn_cl (by omega), hTe ob (by omega)]
      refine ⟨fun z2 => j305 0 (Or.inl rfl) ?_, fun z2 => ⟨pn_in (by omega) (by decide), fun z3 => j305 0 (Or.inl rfl) ?_, fun z3 => j305 1 (Or.inr rfl) ?_⟩⟩
      · rw [show (3 : Int32) = nI 3 from rfl, nI_leI (by omega) (by omega)] at z2
        rw [if_neg (by omega), if_neg (by omega)]
      · rw [show (3 : Int32) = nI 3 from rfl, nI_leI (by omega) (by omega)] at z2
        rw [if_neg (by omega), if_pos (by omega)]
        exact z3
      · rw [show (3 : Int32) = nI 3 from rfl, nI_leI (by omega) (by omega)] at z2
        rw [if_neg (by omega), if_pos (by omega)]
        exact hte.resolve_left z3
  have j237 : jp_X7_takesE_237 (nI L) Tap (lp_X7_takesE_28 (nI L) (nI key) Tap Q m) Q (nI ob) (nI (pw_cn W)) (nI (pv_en b L s)) (nI s) (nI (pv_tk b L s)) va en (nI o.length) (nI lv) (nI W.length) Cod Wts Tes := by
    unfold jp_X7_takesE_237
    refine sp_X7_signHere hx hva (fun hn => by rw [hv] at hn; cases hn) (fun l' c' hlc => ?_)
    rw [hv] at hlc
    cases hlc
    refine pbF (by grind) (sp_X7_rank ?_)
    rw [o4]
    refine ⟨fun _ => j268, fun z => ⟨pn_in (by omega) (by decide), ?_⟩⟩
    rw [show (3 : Int32) = nI 3 from rfl, nI_eq (by omega) (by omega)] at z
    rw [pn_cl (by omega), hTe ob (by omega)]
    exact pbT (h2 (by omega)) j268
  unfold lp_X7_takesE_28F jp_X7_takesE_39
  refine pbT' rfl (pbF htk0 (pbT rfl (pbT' (by rw [ht]; rfl) (pbF' ?_ j237))))
  rw [hva', show (41 : Int32) = nI 41 from rfl, nI_eq (by omega) (by omega)]
  exact o9
theorem rs_close {pend : List Int32} {W0 : List Int32} (hL : L ≤ 96) (hT : pv_by Tap b L) (ht : pv_tk b L s = 3) (hb : b s = 41) (hob : ob < 8) (hW : pw_pop 0 W = (pend, (-11) :: W0)) (hl : o.length + W.length + 4 ≤ s)
    (h : pw_R b L key Tap Q ob 0 (o ++ pend ++ (pw_pop 6 W0).1) lv (pw_pop 6 W0).2 te (pv_nx b L s)) : pw_R b L key Tap Q (ob + 1) 0 o lv W te s := by
  obtain ⟨m, h⟩ := h
  have hs := pv_tk_lt (by decide) ht
  obtain ⟨c1, c2, _⟩ := pv_en_p (b := b) hs
  refine ⟨m + 1, fun va en Cod Wts Tes hed hva hO hS hTe => ?_⟩
  have hva := hva (Or.inr (Or.inr ht))
  rw [pv_va3 (by omega), hb] at hva
  subst hva
  show lp_X7_takesE_28F (nI L) (nI key) Tap Q (lp_X7_takesE_28 (nI L) (nI key) Tap Q m) (nI (ob + 1)) (nI (pw_cn W)) 0 (nI (pv_en b L s)) (nI s) (nI (pv_tk b L s)) (nI 41) en (nI o.length) (nI lv) (nI W.length) Cod Wts Tes
  have htk0 : ¬ nI (pv_tk b L s) = 0 := by rw [ht]; decide
  have hpl := pw_pop_len 0 W
  have hSp := pw_pop_S (r := 0) W hS
  unfold lp_X7_takesE_28F jp_X7_takesE_39
  refine pbT' rfl (pbF htk0 (pbT rfl (pbT' (by rw [ht]; rfl) (pbT' rfl (pbF (by grind [pg_n]) ?_)))))
  refine sp_X7_settle (r := 0) (by omega) W o _ hS hO (by omega) (fun Cod' hC => ?_)
  rw [hW] at hC hpl hSp ⊢
  have hlen : ((-11 : Int32) :: W0).length = W0.length + 1 := rfl
  have hla : (o ++ pend).length = o.length + pend.length := List.length_append
  have hpl2 := pw_pop_len 6 W0
  simp only at hC hpl hSp ⊢
  rw [hlen] at hpl
  rw [hlen, pn_s1]
  refine sp_X7_settle (r := 6) (by omega) W0 (o ++ pend) _ hSp.2 hC (by omega) (fun Cod2 hC2 => ?_)
  have hS6 := pw_pop_S (r := 6) W0 hSp.2
  refine sp_X7_notsOpen hS6 (by omega) (sp_X7_go hL hT c2 (hed hs) (fun va' en' g1 g2 => ?_))
  rw [pn_m1]
  exact h va' en' Cod2 Wts Tes g1 g2 hC2 hS6 (fun q hq => hTe q (by omega))
/-- neither the end of a bracket nor a sign that may be: a fault -/
theorem rs_stop (hT : pv_by Tap b L) (hob : ob ≤ 8) (hl : o.length + W.length + 4 ≤ s) (hsL : s ≤ L) (hL : L ≤ 96) (he : pv_tk b L s = 0 → 0 < ob) (hb : pv_tk b L s = 3 → b s = 41 → ob = 0) (hp : ∀ l c, pw_lv b L s = some (l, c) → l = 2 ∧ te ob = 1) (h : pw_F Q s) : pw_R b L key Tap Q ob 0 o lv W te s := by
  have hx : ∀ k, k < L → b k < 256 := fun k hk => (hT k hk).1
  refine ⟨1, fun va en Cod Wts Tes hed hva hO hS hTe => ?_⟩
  show lp_X7_takesE_28F (nI L) (nI key) Tap Q (lp_X7_takesE_28 (nI L) (nI key) Tap Q 0) (nI ob) (nI (pw_cn W)) 0 (nI (pv_en b L s)) (nI s) (nI (pv_tk b L s)) va en (nI o.length) (nI lv) (nI W.length) Cod Wts Tes
  generalize hR : (lp_X7_takesE_28 (nI L) (nI key) Tap Q 0) = R
  have j237 : jp_X7_takesE_237 (nI L) Tap R Q (nI ob) (nI (pw_cn W)) (nI (pv_en b L s)) (nI s) (nI (pv_tk b L s)) va en (nI o.length) (nI lv) (nI W.length) Cod Wts Tes := by
    unfold jp_X7_takesE_237
    refine sp_X7_signHere hx hva (fun _ => pb0 (h _ _ _ _ _ _ _ _ _ _)) (fun l c hlc => ?_)
    obtain ⟨e1, e2⟩ := hp l c hlc
    have hv' : pw_op (b s) = some (l, c) := by
      unfold pw_lv at hlc
      by_cases e : pv_tk b L s = 3
      · rw [if_pos e] at hlc; exact hlc
      · rw [if_neg e] at hlc; cases hlc
    obtain ⟨o1, o2, o3, o4, _⟩ := pw_op_p hv'
    refine pbF (by grind) (sp_X7_rank ?_)
    rw [o4, e1]
    refine pbT' rfl ⟨pn_in (by omega) (by decide), ?_⟩
    rw [pn_cl (by omega), hTe ob (by omega), e2]
    exact pb1 (h _ _ _ _ _ _ _ _ _ _)
  unfold lp_X7_takesE_28F jp_X7_takesE_39
  refine pbT' rfl ⟨fun e => ?_, fun e => pbT rfl ⟨fun _ => j237, fun e2 => ⟨fun _ => j237, fun e3 => ⟨fun _ => j237, fun e4 => ?_⟩⟩⟩⟩
  · rw [show (0 : Int32) = nI 0 from rfl, pw_tk (by decide)] at e
    have := he e
    refine sp_X7_settle (r := 0) (by omega) W o _ hS hO (by omega) (fun Cod' hC => pbF' (by grind [pg_n]) (h _ _ _ _ _ _ _ _ _ _))
  · rw [show (3 : Int32) = nI 3 from rfl, pw_tk (by decide)] at e2
    have hs := pv_tk_lt (by decide) e2
    have hva := hva (Or.inr (Or.inr e2))
    rw [pv_va3 (by omega)] at hva
    have := hx s hs
    rw [hva, show (41 : Int32) = nI 41 from rfl, nI_eq (by omega) (by omega)] at e3
    have := hb e2 e3
    subst this
    exact absurd (by decide) e4
end
