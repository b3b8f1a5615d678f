/-! PURE: the reference's way through an E, step by step -/
def pv_nx (b : Nat → Nat) (L s : Nat) : Nat := pv_st b L (pv_en b L s)
/-- level and code of a sign -/
def pw_op (x : Nat) : Option (Nat × Int32) := if x = 124 then some (0, -1) else if x = 38 then some (1, -2) else if x = 60 then some (2, -3) else if x = 61 then some (2, -4) else if x = 62 then some (2, -5) else if x = 43 then some (3, -6) else if x = 45 then some (3, -7) else if x = 42 then some (4, -8) else if x = 47 then some (4, -9) else none
def pw_lv (b : Nat → Nat) (L s : Nat) : Option (Nat × Int32) := if pv_tk b L s = 3 then pw_op (b s) else none
/-- the reference, at s, answers by Q -/
def pw_R (b : Nat → Nat) (L key : Nat) (Tap : Nat → Int32) (Q : Int32 → Int32 → Int32 → Int32 → Int32 → Int32 → Int32 → Int32 → Int32 → (Nat → Int32) → (Nat → Int32) → (Nat → Int32) → Prop) (ob : Nat) (w : Int32) (o : List Int32) (lv : Nat) (W : List Int32) (te : Nat → Int32) (s : Nat) : Prop :=
  ∃ m, ∀ (va en : Int32) (Cod Wts Tes : Nat → Int32), (s < L → pv_ed b (pv_en b L s) en) → (pv_tk b L s = 1 ∨ pv_tk b L s = 2 ∨ pv_tk b L s = 3 → va = nI (pv_va b L s)) → pw_O Cod o → pw_S Wts W → (∀ q, q ≤ ob → Tes q = te q) →
    lp_X7_takesE_28 (nI L) (nI key) Tap Q m (nI ob) (nI (pw_cn W)) w (nI (pv_en b L s)) (nI s) (nI (pv_tk b L s)) va en (nI o.length) (nI lv) (nI W.length) Cod Wts Tes
def pw_F (Q : Int32 → Int32 → Int32 → Int32 → Int32 → Int32 → Int32 → Int32 → Int32 → (Nat → Int32) → (Nat → Int32) → (Nat → Int32) → Prop) (f : Nat) : Prop := ∀ nx tk va en cs at' hd cod wts tes, Q 0 nx (nI f) tk va en cs at' hd cod wts tes
section
variable {b : Nat → Nat} {L key : Nat} {Tap : Nat → Int32} {Q : Int32 → Int32 → Int32 → Int32 → Int32 → Int32 → Int32 → Int32 → Int32 → (Nat → Int32) → (Nat → Int32) → (Nat → Int32) → Prop} {ob lv s : Nat} {o W : List Int32} {te : Nat → Int32}
theorem pv_tk_lt {k : Nat} (hk : k ≠ 0) (h : pv_tk b L s = k) : s < L := by
  by_cases hs : s < L
  · exact hs
  · unfold pv_tk at h; rw [if_pos (by omega)] at h; omega
theorem pv_nx_gt (hs : s < L) : s < pv_nx b L s ∧ pv_nx b L s ≤ L := by
  obtain ⟨c1, c2, _⟩ := pv_en_p (b := b) hs
  obtain ⟨a1, a2, _⟩ := pv_st_p (b := b) c2
  unfold pv_nx
  omega
theorem pv_tk_le : pv_tk b L s ≤ 4 := by unfold pv_tk; grind
theorem pv_va3 (h : pv_tk b L s ≠ 2) : pv_va b L s = b s := by unfold pv_va; rw [if_neg h]
theorem pw_tk {k : Nat} (hk : k ≤ 4) : (nI (pv_tk b L s) = nI k) = (pv_tk b L s = k) := by
  have := pv_tk_le (b := b) (L := L) (s := s)
  exact pn_eq (by omega) (by omega)
theorem rs_not (hL : L ≤ 96) (hT : pv_by Tap b L) (ht : pv_tk b L s = 3) (hb : b s = 33) (hc : pw_cn W < 8) (hl : o.length + W.length + 4 ≤ s) (h : pw_R b L key Tap Q ob 1 o lv ((-10) :: W) te (pv_nx b L s)) : pw_R b L key Tap Q ob 1 o lv W te s := by
  obtain ⟨m, h⟩ := h
  have hs := pv_tk_lt (by decide) ht
  have hen := (pv_en_p (b := b) hs).2.1
  refine ⟨m + 1, fun va en Cod Wts Tes hed hva hO hS hTe => ?_⟩
  have hva := hva (Or.inr (Or.inr ht))
  rw [pv_va3 (by omega), hb] at hva
  subst hva
  show lp_X7_takesE_28F (nI L) (nI key) Tap Q (lp_X7_takesE_28 (nI L) (nI key) Tap Q m) (nI ob) (nI (pw_cn W)) 1 (nI (pv_en b L s)) (nI s) (nI (pv_tk b L s)) (nI 33) en (nI o.length) (nI lv) (nI W.length) Cod Wts Tes
  unfold lp_X7_takesE_28F jp_X7_takesE_39
  rw [pn_cl (by omega), pn_p1]
  refine pbF' (by decide) (pbF (by decide) (pbT' (by rw [ht]; rfl) (pbT' rfl (pbF (by grind [pg_n]) ⟨pn_in (by omega) (by decide), sp_X7_go hL hT hen (hed hs) (fun va' en' g1 g2 => ?_)⟩))))
  have hS' : pw_S (upd Wts W.length (-10)) ((-10) :: W) := pw_push hS
  have hlen : (((-10 : Int32)) :: W).length = W.length + 1 := rfl
  refine sp_X7_notsOpen (W := (-10) :: W) hS' (by rw [hlen]; omega) ?_
  exact h va' en' Cod _ Tes g1 g2 hO hS' hTe
theorem rs_open (hL : L ≤ 96) (hT : pv_by Tap b L) (ht : pv_tk b L s = 3) (hb : b s = 40) (hc : ob < 8) (hl : o.length + W.length + 4 ≤ s) (h : pw_R b L key Tap Q (ob + 1) 1 o lv ((-11) :: W) (upd te (ob + 1) 0) (pv_nx b L s)) : pw_R b L key Tap Q ob 1 o lv W te s := by
  obtain ⟨m, h⟩ := h
  have hs := pv_tk_lt (by decide) ht
  have hen := (pv_en_p (b := b) hs).2.1
  refine ⟨m + 1, fun va en Cod Wts Tes hed hva hO hS hTe => ?_⟩
  have hva := hva (Or.inr (Or.inr ht))
  rw [pv_va3 (by omega), hb] at hva
  subst hva
  show lp_X7_takesE_28F (nI L) (nI key) Tap Q (lp_X7_takesE_28 (nI L) (nI key) Tap Q m) (nI ob) (nI (pw_cn W)) 1 (nI (pv_en b L s)) (nI s) (nI (pv_tk b L s)) (nI 40) en (nI o.length) (nI lv) (nI W.length) Cod Wts Tes
  unfold lp_X7_takesE_28F jp_X7_takesE_39 jp_X7_takesE_97
  rw [pn_cl (show W.length < 2 ^ 31 by omega), pn_p1, pn_p1, pn_cl (show ob + 1 < 2 ^ 31 by omega)]
  have hS' : pw_S (upd Wts W.length (-11)) ((-11) :: W) := pw_push hS
  have hlen : (((-11 : Int32)) :: W).length = W.length + 1 := rfl
  refine pbF' (by decide) (pbF (by decide) (pbT' (by rw [ht]; rfl) (pbF' (by decide) (pbT' (by rw [ht]; rfl) (pbT' rfl (pbF (by grind [pg_n]) ⟨pn_in (by omega) (by decide), pn_in (by omega) (by decide), sp_X7_go hL hT hen (hed hs) (fun va' en' g1 g2 => ?_)⟩))))))
  refine sp_X7_notsOpen (W := (-11) :: W) hS' (by rw [hlen]; omega) ?_
  refine h va' en' Cod _ _ g1 g2 hO hS' (fun q hq => ?_)
  by_cases e : q = ob + 1
  · subst e; rw [pn_upd_self, pn_upd_self]
  · rw [pn_upd_ne e, pn_upd_ne e]; exact hTe q (by omega)
/-- neither a not, nor a bracket, nor a leaf: a fault -/
theorem rs_bad (hL : L ≤ 96) (hk : key ≤ 2) (hx : ∀ k, k < L → b k < 256) (hob : ob ≤ 8) (hcn : pw_cn W ≤ 96) (h2 : pv_tk b L s ≠ 2) (h1 : pv_tk b L s = 1 → pv_en b L s - s = 1 → pv_nm key (b s) = none) (hn : pv_tk b L s = 3 → b s = 33 → 8 ≤ pw_cn W) (hp : pv_tk b L s = 3 → b s = 40 → 8 ≤ ob) (h : pw_F Q s) : pw_R b L key Tap Q ob 1 o lv W te s := by
  refine ⟨1, fun va en Cod Wts Tes hed hva hO hS hTe => ?_⟩
  show lp_X7_takesE_28F (nI L) (nI key) Tap Q (lp_X7_takesE_28 (nI L) (nI key) Tap Q 0) (nI ob) (nI (pw_cn W)) 1 (nI (pv_en b L s)) (nI s) (nI (pv_tk b L s)) va en (nI o.length) (nI lv) (nI W.length) Cod Wts Tes
  generalize hR : (lp_X7_takesE_28 (nI L) (nI key) Tap Q 0) = R
  have j158 : jp_X7_takesE_158 (nI L) (nI key) Tap R Q (nI ob) (nI (pv_en b L s)) (nI s) (nI (pv_tk b L s)) va en (nI o.length) (nI lv) (nI W.length) Cod Wts Tes := by
    unfold jp_X7_takesE_158 wp_X7_takesPart
    have j37 : ∀ Q' : Int32 → Int32 → Int32 → Int32 → Int32 → Int32 → Int32 → Int32 → Int32 → (Nat → Int32) → Prop, (∀ a c d e f g i j, Q' 0 a (nI s) c d e f g i j) → jp_X7_takesPart_37 (nI L) (nI key) Tap Wts Q' 0 (nI (pv_en b L s)) (nI s) (nI (pv_tk b L s)) va en (nI o.length) (nI lv) (nI W.length) Cod := by
      intro Q' hq
      unfold jp_X7_takesPart_37
      refine pbF (by rw [show (2 : Int32) = nI 2 from rfl, pw_tk (by decide)]; exact h2) (pb0' (hq _ _ _ _ _ _ _ _))
    refine ⟨fun _ => j37 _ (fun _ _ _ _ _ _ _ _ => pb0 (h _ _ _ _ _ _ _ _ _ _)), fun e => ⟨fun _ => j37 _ (fun _ _ _ _ _ _ _ _ => pb0 (h _ _ _ _ _ _ _ _ _ _)), fun e2 => ?_⟩⟩
    rw [show (1 : Int32) = nI 1 from rfl, pw_tk (by decide)] at e
    have hs := pv_tk_lt (by decide) e
    obtain ⟨c1, c2, _⟩ := pv_en_p (b := b) hs
    have hva := hva (Or.inl e)
    rw [pv_va3 (by omega)] at hva
    subst hva
    have hno := h1 e (by grind [pg_n])
    exact sp_X7_nameOf hk (hx s hs) (fun j ej => by rw [hno] at ej; cases ej) (fun _ => pbT (by decide) (j37 _ (fun _ _ _ _ _ _ _ _ => pb0 (h _ _ _ _ _ _ _ _ _ _))))
  have j97 : jp_X7_takesE_97 (nI L) (nI key) Tap R Q (nI ob) 1 (nI (pv_en b L s)) (nI s) (nI (pv_tk b L s)) va en (nI o.length) (nI lv) (nI W.length) Cod Wts Tes := by
    unfold jp_X7_takesE_97
    refine ⟨fun _ => j158, fun e => ⟨fun _ => j158, fun e2 => ⟨fun _ => j158, fun e3 => ?_⟩⟩⟩
    rw [show (3 : Int32) = nI 3 from rfl, pw_tk (by decide)] at e
    have hs := pv_tk_lt (by decide) e
    have hva := hva (Or.inr (Or.inr e))
    rw [pv_va3 (by omega)] at hva
    have := hx s hs
    rw [hva, show (40 : Int32) = nI 40 from rfl, nI_eq (by omega) (by omega)] at e2
    have := hp e e2
    grind [pg_n]
  unfold lp_X7_takesE_28F jp_X7_takesE_39
  refine pbF' (by decide) (pbF (by decide) ⟨fun _ => j97, fun e => ⟨fun _ => j97, fun e2 => ⟨fun _ => j97, fun e3 => ?_⟩⟩⟩)
  rw [show (3 : Int32) = nI 3 from rfl, pw_tk (by decide)] at e
  have hs := pv_tk_lt (by decide) e
  have hva := hva (Or.inr (Or.inr e))
  rw [pv_va3 (by omega)] at hva
  have := hx s hs
  rw [hva, show (33 : Int32) = nI 33 from rfl, nI_eq (by omega) (by omega)] at e2
  have := hn e e2
  grind [pg_n]
theorem rs_leaf {c : Nat} (hL : L ≤ 96) (hT : pv_by Tap b L) (hk : key ≤ 2) (hl : o.length + W.length + 4 ≤ s) (hc : (pv_tk b L s = 2 ∧ c = pv_va b L s) ∨ (pv_tk b L s = 1 ∧ pv_en b L s - s = 1 ∧ ∃ j, pv_nm key (b s) = some j ∧ c = 10000 + j))
    (h : pw_R b L key Tap Q ob 0 (o ++ [nI c] ++ (pw_pop 6 W).1) (lv + 1) (pw_pop 6 W).2 te (pv_nx b L s)) : pw_R b L key Tap Q ob 1 o lv W te s := by
  obtain ⟨m, h⟩ := h
  have hs : s < L := by
    rcases hc with hc | hc
    · exact pv_tk_lt (by decide) hc.1
    · exact pv_tk_lt (by decide) hc.1
  have hx := (hT s hs).1
  obtain ⟨c1, c2, _⟩ := pv_en_p (b := b) hs
  refine ⟨m + 1, fun va en Cod Wts Tes hed hva hO hS hTe => ?_⟩
  show lp_X7_takesE_28F (nI L) (nI key) Tap Q (lp_X7_takesE_28 (nI L) (nI key) Tap Q m) (nI ob) (nI (pw_cn W)) 1 (nI (pv_en b L s)) (nI s) (nI (pv_tk b L s)) va en (nI o.length) (nI lv) (nI W.length) Cod Wts Tes
  have hn3 : ¬ nI (pv_tk b L s) = 3 := by
    rw [show (3 : Int32) = nI 3 from rfl, pw_tk (by decide)]
    omega
  unfold lp_X7_takesE_28F jp_X7_takesE_39 jp_X7_takesE_97 jp_X7_takesE_158
  refine pbF' (by decide) (pbF (by decide) (pbF' hn3 (pbF' hn3 ?_)))
  have hpl := pw_pop_len 6 W
  have j87 : jp_X7_takesPart_87 (nI L) Tap Wts (fun r_25 w_26 w_27 w_28 w_29 w_30 w_31 w_32 w_33 w_34 => ((r_25 = 0 → Q 0 w_26 w_27 w_28 w_29 w_30 w_31 w_32 w_33 w_34 Wts Tes) ∧ (¬ (r_25 = 0) → wp_X7_notsOpen w_33 Wts (fun r_36 => lp_X7_takesE_28 (nI L) (nI key) Tap Q m (nI ob) r_36 0 w_26 w_27 w_28 w_29 w_30 w_31 w_32 w_33 w_34 Wts Tes)))) (nI c) (nI o.length) (nI (pv_en b L s)) (nI s) (nI (pv_tk b L s)) va en (nI o.length) (nI lv) (nI W.length) Cod := by
    unfold jp_X7_takesPart_87
    rw [pn_cl (by omega), pn_p1, pn_p1]
    have hO' : pw_O (upd Cod o.length (nI c)) (o ++ [nI c]) := pw_O_app hO
    have hl2 : (o ++ [nI c]).length = o.length + 1 := by simp
    refine ⟨pn_in (by omega) (by decide), ?_⟩
    rw [← hl2]
    refine sp_X7_settle (r := 6) (by decide) W (o ++ [nI c]) _ hS hO' (by rw [hl2]; omega) (fun Cod' hC => sp_X7_go hL hT c2 (hed hs) (fun va' en' g1 g2 => pb1 ?_))
    have hS' : pw_S Wts (pw_pop 6 W).2 := by
      have : ∀ W : List Int32, pw_S Wts W → pw_S Wts (pw_pop 6 W).2 := by
        intro W
        induction W with
        | nil => intro _; exact True.intro
        | cons t w ih =>
          intro hh
          unfold pw_pop
          split
          · exact hh
          · exact ih hh.2
      exact this W hS
    refine sp_X7_notsOpen hS' (by omega) ?_
    exact h va' en' Cod' Wts Tes g1 g2 hC hS' hTe
  unfold wp_X7_takesPart
  rcases hc with ⟨e, ec⟩ | ⟨e, e1, j, ej, ec⟩
  · have hva := hva (Or.inr (Or.inl e))
    rw [← ec] at hva
    refine pbF' (by rw [show (1 : Int32) = nI 1 from rfl, pw_tk (by decide)]; omega) ?_
    unfold jp_X7_takesPart_37 jp_X7_takesPart_52
    have e2 : nI (pv_tk b L s) = 2 := by rw [e]; rfl
    refine pbT e2 (pbT' e2 ?_)
    have := j87
    rw [← hva] at this
    exact this
  · have hva := hva (Or.inl e)
    rw [pv_va3 (by omega)] at hva
    refine pbT' (by rw [e]; rfl) (pbT' (by grind [pg_n]) ?_)
    rw [hva]
    refine sp_X7_nameOf hk hx (fun j' ej' => ?_) (fun ej' => by rw [ej] at ej'; cases ej')
    rw [ej] at ej'
    cases ej'
    have hj3 : j < 3 := by unfold pv_nm at ej; grind
    refine pbF (nI_pos (by omega)) ?_
    unfold jp_X7_takesPart_37 jp_X7_takesPart_52
    have e2 : ¬ nI (pv_tk b L s) = 2 := by rw [e]; decide
    refine pbF e2 (pb1' (pbF' e2 (sp_X7_nameOf hk hx (fun j' ej' => ?_) (fun ej' => by rw [ej] at ej'; cases ej'))))
    rw [ej] at ej'
    cases ej'
    have := j87
    rw [ec, hva] at this
    rw [show (10000 : Int32) + nI j = nI (10000 + j) from nI_add 10000 j]
    exact this
end
