/-! PURE: both readers, side by side -/
def pj_C (b : Nat → Nat) (L key : Nat) (By : Nat → Int32) (d k : Nat) (p : Int32) (o : List Int32) (lv ob on s : Nat) (Q : Int32 → Int32 → Int32 → Int32 → Int32 → Int32 → Int32 → Int32 → (Nat → Int32) → Prop) : Prop :=
  ∀ Co, pw_Oc Co o → wpG d k p (nI L) (-1000000005) (nI o.length) (nI key) (nI lv) (nI ob) (nI on) (nI s) (nI (pv_en b L s)) (nI (pv_cs b L s)) By Co Q
def pj_ok (b : Nat → Nat) (L : Nat) (X : List Int32) (lv ob on s : Nat) (Q : Int32 → Int32 → Int32 → Int32 → Int32 → Int32 → Int32 → Int32 → (Nat → Int32) → Prop) : Prop :=
  ∀ Co, pw_Oc Co X → Q (-1000000005) (nI X.length) (nI lv) (nI ob) (nI on) (nI s) (nI (pv_en b L s)) (nI (pv_cs b L s)) Co
def pj_no (f : Nat) (Q : Int32 → Int32 → Int32 → Int32 → Int32 → Int32 → Int32 → Int32 → (Nat → Int32) → Prop) : Prop := ∀ cc lv ob on st ed so co, 0 ≤ cc → Q (nI f) cc lv ob on st ed so co
/-- a piece (1), a not (2), a bracket (3) -/
def pj_P (b : Nat → Nat) (L key nm : Nat) (By Tap : Nat → Int32) (d k : Nat) (o : List Int32) (lv ob on : Nat) (W : List Int32) (te : Nat → Int32) (s : Nat) : Prop :=
  (∃ f, f ≤ L ∧ (∀ Q, pj_no f Q → pj_C b L key By d k 0 o lv ob on s Q) ∧ ∀ Q, pw_F Q f → pw_R b L key Tap Q ob 1 o lv W te s) ∨
  (∃ s' a lv', s < s' ∧ s' ≤ L ∧ (∀ Q, pj_ok b L (o ++ a) lv' ob on s' Q → pj_C b L key By d k 0 o lv ob on s Q) ∧ (∀ t, pw_w nm a t (t + 1)) ∧ a.length + s ≤ s' ∧ ∀ Q, pw_R b L key Tap Q ob 0 (o ++ a ++ (pw_pop 6 W).1) lv' (pw_pop 6 W).2 te s' → pw_R b L key Tap Q ob 1 o lv W te s)
def pj_top (l : Nat) (W : List Int32) : Prop := W = [] ∨ ∃ t w, W = t :: w ∧ (t = -11 ∨ pw_rank t ≤ l)
def pj_L (b : Nat → Nat) (L key nm : Nat) (By Tap : Nat → Int32) (d l : Nat) (o : List Int32) (lv ob on : Nat) (W : List Int32) (te : Nat → Int32) (s : Nat) : Prop :=
  (∃ f, f ≤ L ∧ (∀ Q, pj_no f Q → pj_C b L key By d 0 (nI l) o lv ob on s Q) ∧ ∀ Q, pw_F Q f → pw_R b L key Tap Q ob 1 o lv W te s) ∨
  (∃ s' a lv' o2 pend te', s < s' ∧ s' ≤ L ∧ (∀ Q, pj_ok b L (o ++ a) lv' ob on s' Q → pj_C b L key By d 0 (nI l) o lv ob on s Q) ∧ (∀ t, pw_w nm a t (t + 1)) ∧ a.length + s ≤ s' ∧ o ++ a = o2 ++ pend ∧ (∀ p, p ∈ pend → p ≠ -11 ∧ p ≠ -10 ∧ l + 1 ≤ pw_rank p) ∧
    (∀ q, q < ob → te' q = te q) ∧ (3 ≤ l → te' ob = te ob) ∧ (te' ob = 0 ∨ te' ob = 1) ∧ (∀ l' c, pw_lv b L s' = some (l', c) → l' < l ∨ (l ≤ 2 ∧ l' = 2 ∧ te' ob = 1)) ∧ ∀ Q, pw_R b L key Tap Q ob 0 o2 lv' (pend ++ W) te' s' → pw_R b L key Tap Q ob 1 o lv W te s)
theorem pj_top_up {l : Nat} {W : List Int32} (h : pj_top l W) : pj_top (l + 1) W := by
  rcases h with h | ⟨t, w, h1, h2⟩
  · exact Or.inl h
  · exact Or.inr ⟨t, w, h1, h2.elim Or.inl (fun z => Or.inr (by omega))⟩
theorem pw_pop_pend {r : Nat} {W : List Int32} (hW : W = [] ∨ ∃ t w, W = t :: w ∧ (t = -11 ∨ pw_rank t < r)) : ∀ pend : List Int32, (∀ p, p ∈ pend → p ≠ -11 ∧ r ≤ pw_rank p) → pw_pop r (pend ++ W) = (pend, W) := by
  intro pend
  induction pend with
  | nil =>
    intro _
    rcases hW with rfl | ⟨t, w, rfl, h⟩
    · rfl
    · show pw_pop r (t :: w) = _
      unfold pw_pop
      rw [if_pos h]
  | cons t p ih =>
    intro h
    have h1 := h t (List.mem_cons_self)
    show pw_pop r (t :: (p ++ W)) = _
    unfold pw_pop
    rw [if_neg (by intro z; rcases z with z | z; exact h1.1 z; omega), ih (fun q hq => h q (List.mem_cons_of_mem _ hq))]
theorem pw_cn_pend {W : List Int32} : ∀ pend : List Int32, (∀ p, p ∈ pend → p ≠ -10) → pw_cn (pend ++ W) = pw_cn W := by
  intro pend
  induction pend with
  | nil => intro _; rfl
  | cons t p ih =>
    intro h
    show pw_cn (p ++ W) + (if t = -10 then 1 else 0) = _
    rw [if_neg (h t (List.mem_cons_self)), ih (fun q hq => h q (List.mem_cons_of_mem _ hq))]
    omega
theorem wpG_S (d k : Nat) : wpG (d + 1) k = wpGF (wpG d) k := rfl
section
variable {b : Nat → Nat} {L key nm : Nat} {By Tap : Nat → Int32}
theorem sim_not {d : Nat} {o W : List Int32} {lv ob on s : Nat} {te : Nat → Int32} (hL : L ≤ 96) (hB : pv_by By b L) (hT : pv_by Tap b L) (hk : key ≤ 2) (ht : pv_tk b L s = 3) (hb : b s = 33) (hl : o.length + W.length + 4 ≤ s) (hcn : pw_cn W = on) (hon : on ≤ 8) (hob : ob ≤ 8)
    (ih : on < 8 → pj_P b L key nm By Tap d 1 o lv ob (on + 1) ((-10) :: W) te (pv_nx b L s)) : pj_P b L key nm By Tap (d + 1) 2 o lv ob on W te s := by
  have hs := pv_tk_lt (by decide) ht
  obtain ⟨n1, n2⟩ := pv_nx_gt (b := b) hs
  obtain ⟨c1, c2, _⟩ := pv_en_p (b := b) hs
  have hx : ∀ k, k < L → b k < 256 := fun k hk => (hT k hk).1
  by_cases h8 : on < 8
  · have unf : ∀ Q, pj_C b L key By d 1 0 o lv ob (on + 1) (pv_nx b L s) (fun w_5 w_6 w_7 w_8 w_9 w_10 w_11 w_12 w_13 => wp_X0_putCode (-33) w_6 w_13 (fun w_14 w_15 => Q w_5 w_14 w_7 w_8 (w_9 - 1) w_10 w_11 w_12 w_15)) → pj_C b L key By (d + 1) 2 0 o lv ob on s Q := by
      intro Q h Co hO
      rw [wpG_S]
      show wq_X0_readNot (wpG d) 0 (nI L) (-1000000005) (nI o.length) (nI key) (nI lv) (nI ob) (nI on) (nI s) (nI (pv_en b L s)) (nI (pv_cs b L s)) By Co Q
      unfold wq_X0_readNot
      rw [pn_p1]
      exact pbT (by grind [pg_n]) (sp_X0_moveOn hL hB c2 (h Co hO))
    rcases ih h8 with ⟨f, hf, g1, g2⟩ | ⟨s', a, lv', q1, q2, g1, g2, g3, g4⟩
    · left
      refine ⟨f, hf, fun Q hq => unf Q (g1 _ ?_), fun Q hQ => rs_not hL hT ht hb (by omega) hl (g2 Q hQ)⟩
      intro cc lv ob on st ed so co hcc
      exact sp_X0_putAny hcc (fun cc' Co' h' => hq _ _ _ _ _ _ _ _ h')
    · right
      have hlen : (o ++ a).length = o.length + a.length := List.length_append
      refine ⟨s', a ++ [-10], lv', by omega, q2, fun Q hq => unf Q (g1 _ ?_), fun t => pw_w_app a t (g2 t) (pw_w_not nm t), ?_, fun Q hQ => rs_not hL hT ht hb (by omega) hl (g4 Q ?_)⟩
      · intro Co hO
        refine sp_X0_putCode (c := -10) (by omega) hO (fun Co' hC => ?_)
        rw [show nI (on + 1) - 1 = nI on from pn_s1 on]
        rw [List.append_assoc] at hC ⊢
        exact hq Co' hC
      · rw [List.length_append, List.length_singleton]; omega
      · have e : pw_pop 6 ((-10) :: W) = ((-10) :: (pw_pop 6 W).1, (pw_pop 6 W).2) := by
          show (if (-10 : Int32) = -11 ∨ pw_rank (-10) < 6 then _ else _) = _
          rw [if_neg (by decide)]
        rw [e]
        have e2 : o ++ (a ++ [-10]) ++ (pw_pop 6 W).1 = o ++ a ++ ((-10) :: (pw_pop 6 W).1) := by simp
        rw [e2] at hQ
        exact hQ
  · left
    refine ⟨s, by omega, fun Q hq Co hO => ?_, fun Q hQ => rs_bad hL hk hx hob (by omega) (by omega) (fun z => absurd z (by omega)) (fun _ _ => by omega) (fun _ z => absurd (hb.symm.trans z) (by decide)) hQ⟩
    rw [wpG_S]
    show wq_X0_readNot (wpG d) 0 (nI L) (-1000000005) (nI o.length) (nI key) (nI lv) (nI ob) (nI on) (nI s) (nI (pv_en b L s)) (nI (pv_cs b L s)) By Co Q
    unfold wq_X0_readNot wp_X0_setFault
    exact pbF (by grind [pg_n]) (pbT' rfl (hq _ _ _ _ _ _ _ _ (nI_pos' (by omega))))
theorem sim_bra {d : Nat} {o W : List Int32} {lv ob on s : Nat} {te : Nat → Int32} (hL : L ≤ 96) (hB : pv_by By b L) (hT : pv_by Tap b L) (hk : key ≤ 2) (ht : pv_tk b L s = 3) (hb : b s = 40) (hl : o.length + W.length + 4 ≤ s) (hcn : pw_cn W = on) (hon : on ≤ 8) (hob : ob ≤ 8)
    (ih : ob < 8 → pj_L b L key nm By Tap d 0 o lv (ob + 1) on ((-11) :: W) (upd te (ob + 1) 0) (pv_nx b L s)) : pj_P b L key nm By Tap (d + 1) 3 o lv ob on W te s := by
  have hs := pv_tk_lt (by decide) ht
  obtain ⟨n1, n2⟩ := pv_nx_gt (b := b) hs
  obtain ⟨c1, c2, _⟩ := pv_en_p (b := b) hs
  have hx : ∀ k, k < L → b k < 256 := fun k hk => (hT k hk).1
  by_cases h8 : ob < 8
  · have unf : ∀ Q, pj_C b L key By d 0 0 o lv (ob + 1) on (pv_nx b L s) (fun w_5 w_6 w_7 w_8 w_9 w_10 w_11 w_12 w_13 => ((w_5 = (-1000000005) → wp_X0_signHere w_10 w_12 By (fun r_15 => ((r_15 = 41 → wp_X0_moveOn (nI L) w_11 w_12 By (fun w_17 w_18 w_19 => Q w_5 w_6 w_7 (w_8 - 1) w_9 w_17 w_18 w_19 w_13)) ∧ (¬ (r_15 = 41) → wp_X0_setFault w_5 w_10 (fun w_20 => Q w_20 w_6 w_7 w_8 w_9 w_10 w_11 w_12 w_13))))) ∧ (¬ (w_5 = (-1000000005)) → Q w_5 w_6 w_7 w_8 w_9 w_10 w_11 w_12 w_13))) → pj_C b L key By (d + 1) 3 0 o lv ob on s Q := by
      intro Q h Co hO
      rw [wpG_S]
      show wq_X0_readBracket (wpG d) 0 (nI L) (-1000000005) (nI o.length) (nI key) (nI lv) (nI ob) (nI on) (nI s) (nI (pv_en b L s)) (nI (pv_cs b L s)) By Co Q
      unfold wq_X0_readBracket
      rw [pn_p1]
      exact pbT (by grind [pg_n]) (sp_X0_moveOn hL hB c2 (h Co hO))
    have ih := ih h8
    unfold pj_L at ih
    rcases ih with ⟨f, hf, g1, g2⟩ | ⟨s1, a, lv', o2, pend, te1, q1, q2, g1, g2, g3, g4, g5, g6, g7, g8, g9, g10⟩
    · left
      refine ⟨f, hf, fun Q hq => unf Q (g1 _ ?_), fun Q hQ => rs_open hL hT ht hb h8 hl (g2 Q hQ)⟩
      intro cc lv ob on st ed so co hcc
      exact pbF (by grind [pg_n]) (hq _ _ _ _ _ _ _ _ hcc)
    · have hlen : (o ++ a).length = o.length + a.length := List.length_append
      have hlen2 : (o ++ a).length = o2.length + pend.length := by rw [g4]; exact List.length_append
      have hpop : pw_pop 0 (pend ++ ((-11) :: W)) = (pend, (-11) :: W) := pw_pop_pend (Or.inr ⟨-11, W, rfl, Or.inl rfl⟩) pend (fun p hp => ⟨(g5 p hp).1, by omega⟩)
      have hWl : (pend ++ ((-11) :: W)).length = pend.length + (W.length + 1) := by rw [List.length_append]; rfl
      by_cases hcl : pv_tk b L s1 = 3 ∧ b s1 = 41
      · have hs1 := pv_tk_lt (by decide) hcl.1
        obtain ⟨m1, m2⟩ := pv_nx_gt (b := b) hs1
        obtain ⟨e1, e2, _⟩ := pv_en_p (b := b) hs1
        right
        refine ⟨pv_nx b L s1, a, lv', by omega, m2, fun Q hq => unf Q (g1 _ ?_), g2, by omega, fun Q hQ => rs_open hL hT ht hb h8 hl (g10 Q ?_)⟩
        · intro Co hO
          refine pbT rfl (sp_sgn hL hB hcl.1 ?_)
          rw [hcl.2]
          refine pbT rfl (sp_X0_moveOn hL hB e2 ?_)
          rw [pn_s1]
          exact hq Co hO
        · refine rs_close hL hT hcl.1 hcl.2 h8 hpop (by omega) ?_
          rw [← g4]
          obtain ⟨m, hm⟩ := hQ
          refine ⟨m, fun va en Cod Wts Tes r1 r2 r3 r4 r5 => hm va en Cod Wts Tes r1 r2 r3 r4 (fun q hq => ?_)⟩
          rw [r5 q hq, g6 q (by omega), pn_upd_ne (by omega)]
      · left
        refine ⟨s1, q2, fun Q hq => unf Q (g1 _ ?_), fun Q hQ => rs_open hL hT ht hb h8 hl (g10 Q (rs_stop hT (by omega) (by omega) q2 hL (fun _ => by omega) (fun z1 z2 => absurd ⟨z1, z2⟩ hcl) (fun l' c hlc => ?_) hQ))⟩
        · intro Co hO
          refine pbT rfl ?_
          have fin : ∀ r : Int32, ¬ r = 41 → (r = 41 → wp_X0_moveOn (nI L) (nI (pv_en b L s1)) (nI (pv_cs b L s1)) By (fun w_17 w_18 w_19 => Q (-1000000005) (nI (o ++ a).length) (nI lv') (nI (ob + 1) - 1) (nI on) w_17 w_18 w_19 Co)) ∧ (¬ (r = 41) → wp_X0_setFault (-1000000005) (nI s1) (fun w_20 => Q w_20 (nI (o ++ a).length) (nI lv') (nI (ob + 1)) (nI on) (nI s1) (nI (pv_en b L s1)) (nI (pv_cs b L s1)) Co)) := by
            intro r hr
            refine pbF hr ?_
            unfold wp_X0_setFault
            exact pbT' rfl (hq _ _ _ _ _ _ _ _ (nI_pos' (by omega)))
          by_cases e3 : pv_tk b L s1 = 3
          · have hs1 := pv_tk_lt (by decide) e3
            have := hx s1 hs1
            refine sp_sgn hL hB e3 (fin _ ?_)
            rw [show (41 : Int32) = nI 41 from rfl, nI_eq (by omega) (by omega)]
            exact fun z => hcl ⟨e3, z⟩
          · exact sp_nosgn e3 (fin _ (by decide))
        · have := g9 l' c hlc
          rcases this with z | ⟨z1, z2, z3⟩
          · omega
          · exact ⟨z2, z3⟩
  · left
    refine ⟨s, by omega, fun Q hq Co hO => ?_, fun Q hQ => rs_bad hL hk hx hob (by have := pw_cn_le W; omega) (by omega) (fun z => absurd z (by omega)) (fun _ z => absurd (hb.symm.trans z) (by decide)) (fun _ _ => by omega) hQ⟩
    rw [wpG_S]
    show wq_X0_readBracket (wpG d) 0 (nI L) (-1000000005) (nI o.length) (nI key) (nI lv) (nI ob) (nI on) (nI s) (nI (pv_en b L s)) (nI (pv_cs b L s)) By Co Q
    unfold wq_X0_readBracket wp_X0_setFault
    exact pbF (by grind [pg_n]) (pbT' rfl (hq _ _ _ _ _ _ _ _ (nI_pos' (by omega))))
theorem sim_piece {d : Nat} {o W : List Int32} {lv ob on s : Nat} {te : Nat → Int32} (hL : L ≤ 96) (hB : pv_by By b L) (hT : pv_by Tap b L) (hk : key ≤ 2) (hnm : nm = if key = 2 then 3 else 2) (hsL : s ≤ L) (hl : o.length + W.length + 4 ≤ s) (hcn : pw_cn W = on) (hon : on ≤ 8) (hob : ob ≤ 8)
    (ihn : pv_tk b L s = 3 → b s = 33 → pj_P b L key nm By Tap d 2 o lv ob on W te s) (ihb : pv_tk b L s = 3 → b s = 40 → pj_P b L key nm By Tap d 3 o lv ob on W te s) : pj_P b L key nm By Tap (d + 1) 1 o lv ob on W te s := by
  have hx : ∀ k, k < L → b k < 256 := fun k hk => (hT k hk).1
  have hcw : pw_cn W ≤ 96 := by have := pw_cn_le W; omega
  obtain ⟨t1, t2, t3⟩ := pv_cs_tk (b := b) (L := L) s
  have hcs4 := pv_cs_le (b := b) (L := L) (s := s)
  have unf : ∀ Q Co, wq_X0_readPiece (wpG d) 0 (nI L) (-1000000005) (nI o.length) (nI key) (nI lv) (nI ob) (nI on) (nI s) (nI (pv_en b L s)) (nI (pv_cs b L s)) By Co Q → wpG (d + 1) 1 0 (nI L) (-1000000005) (nI o.length) (nI key) (nI lv) (nI ob) (nI on) (nI s) (nI (pv_en b L s)) (nI (pv_cs b L s)) By Co Q := fun Q Co h => h
  by_cases hlf : ∃ c, pw_leaf b L key s c
  · -- a leaf
    obtain ⟨c, hc⟩ := hlf
    obtain ⟨hcl, hs⟩ := pw_leaf_lt hk hc
    obtain ⟨n1, n2⟩ := pv_nx_gt (b := b) hs
    have hcs : pv_cs b L s = 0 ∨ pv_cs b L s = 1 := by
      rcases hc with hc | hc
      · right
        have := hc.1
        unfold pv_tk at this
        unfold pv_cs
        have := pv_so3 (b s)
        grind
      · exact Or.inl (t1.mpr hc.1)
    right
    refine ⟨pv_nx b L s, [nI c], lv + 1, n1, n2, fun Q hq Co hO => unf Q Co ?_, fun t => pw_w_leaf (by rw [hnm]; exact hcl) (by rw [hnm]; split <;> omega) t, by show 1 + s ≤ _; omega, fun Q hQ => rs_leaf hL hT hk hl hc hQ⟩
    unfold wq_X0_readPiece
    have leaf : wp_X0_readLeaf (nI L) (-1000000005) (nI o.length) (nI key) (nI lv) (nI s) (nI (pv_en b L s)) (nI (pv_cs b L s)) By Co (fun w_2 w_3 w_4 w_5 w_6 w_7 w_8 => Q w_2 w_3 w_4 (nI ob) (nI on) w_5 w_6 w_7 w_8) := by
      refine sp_X0_readLeaf hL hB hk hs hcs (by omega) hO (fun c' Co' hc' hC => ?_) (fun hn => absurd hc (hn c))
      have : c' = c := by
        rcases hc with ⟨a1, a2⟩ | ⟨a1, a2, j, a3, a4⟩ <;> rcases hc' with ⟨b1, b2⟩ | ⟨b1, b2, j', b3, b4⟩
        · omega
        · omega
        · omega
        · rw [a3] at b3; cases b3; omega
      subst this
      exact hq Co' hC
    rw [show (1 : Int32) = nI 1 from rfl, show (0 : Int32) = nI 0 from rfl, pw_cs (by decide), pw_cs (by decide)]
    exact ⟨fun _ => leaf, fun z => pbT' (by omega) leaf⟩
  · by_cases hnot : pv_tk b L s = 3 ∧ b s = 33
    · -- a not
      have go : ∀ Q, pj_C b L key By d 2 0 o lv ob on s Q → pj_C b L key By (d + 1) 1 0 o lv ob on s Q := by
        intro Q h Co hO
        refine unf Q Co ?_
        unfold wq_X0_readPiece
        have e2 := t2.mpr hnot.1
        rw [show (1 : Int32) = nI 1 from rfl, show (0 : Int32) = nI 0 from rfl, pw_cs (by decide), pw_cs (by decide)]
        refine pbF (by omega) (pbF' (by omega) (sp_sgn hL hB hnot.1 ?_))
        rw [hnot.2]
        exact pbT' rfl (h Co hO)
      rcases ihn hnot.1 hnot.2 with ⟨f, hf, g1, g2⟩ | ⟨s', a, lv', q1, q2, g1, g2, g3, g4⟩
      · exact Or.inl ⟨f, hf, fun Q hq => go Q (g1 Q hq), g2⟩
      · exact Or.inr ⟨s', a, lv', q1, q2, fun Q hq => go Q (g1 Q hq), g2, g3, g4⟩
    · by_cases hbr : pv_tk b L s = 3 ∧ b s = 40
      · have go : ∀ Q, pj_C b L key By d 3 0 o lv ob on s Q → pj_C b L key By (d + 1) 1 0 o lv ob on s Q := by
          intro Q h Co hO
          refine unf Q Co ?_
          unfold wq_X0_readPiece
          have e2 := t2.mpr hbr.1
          rw [show (1 : Int32) = nI 1 from rfl, show (0 : Int32) = nI 0 from rfl, pw_cs (by decide), pw_cs (by decide)]
          refine pbF (by omega) (pbF' (by omega) (sp_sgn hL hB hbr.1 ?_))
          rw [hbr.2]
          refine pbF' (by decide) (sp_sgn hL hB hbr.1 ?_)
          rw [hbr.2]
          exact pbT' rfl (h Co hO)
        rcases ihb hbr.1 hbr.2 with ⟨f, hf, g1, g2⟩ | ⟨s', a, lv', q1, q2, g1, g2, g3, g4⟩
        · exact Or.inl ⟨f, hf, fun Q hq => go Q (g1 Q hq), g2⟩
        · exact Or.inr ⟨s', a, lv', q1, q2, fun Q hq => go Q (g1 Q hq), g2, g3, g4⟩
      · -- a fault
        left
        refine ⟨s, hsL, fun Q hq Co hO => unf Q Co ?_, fun Q hQ => rs_bad hL hk hx hob hcw (fun z => hlf ⟨_, Or.inl ⟨z, rfl⟩⟩) (fun z1 z2 => ?_) (fun z1 z2 => absurd ⟨z1, z2⟩ hnot) (fun z1 z2 => absurd ⟨z1, z2⟩ hbr) hQ⟩
        · unfold wq_X0_readPiece
          rw [show (1 : Int32) = nI 1 from rfl, show (0 : Int32) = nI 0 from rfl, pw_cs (by decide), pw_cs (by decide)]
          have leaf : (pv_cs b L s = 0 ∨ pv_cs b L s = 1) → wp_X0_readLeaf (nI L) (-1000000005) (nI o.length) (nI key) (nI lv) (nI s) (nI (pv_en b L s)) (nI (pv_cs b L s)) By Co (fun w_2 w_3 w_4 w_5 w_6 w_7 w_8 => Q w_2 w_3 w_4 (nI ob) (nI on) w_5 w_6 w_7 w_8) := by
            intro hcs
            have hs : s < L := by
              by_cases h : s < L
              · exact h
              · unfold pv_cs at hcs; rw [if_pos (by omega)] at hcs; omega
            exact sp_X0_readLeaf hL hB hk hs hcs (by omega) hO (fun c' Co' hc' hC => absurd ⟨c', hc'⟩ hlf) (fun hn => hq _ _ _ _ _ _ _ _ (nI_pos' (by omega)))
          refine ⟨fun z => leaf (Or.inr z), fun z => ⟨fun z2 => ?_, fun z2 => leaf (Or.inl z2)⟩⟩
          have flt : wp_X0_setFault (-1000000005) (nI s) (fun w_14 => Q w_14 (nI o.length) (nI lv) (nI ob) (nI on) (nI s) (nI (pv_en b L s)) (nI (pv_cs b L s)) Co) := by
            unfold wp_X0_setFault
            exact pbT' rfl (hq _ _ _ _ _ _ _ _ (nI_pos' (by omega)))
          by_cases e3 : pv_tk b L s = 3
          · have hs := pv_tk_lt (by decide) e3
            have := hx s hs
            refine sp_sgn hL hB e3 (pbF' ?_ (sp_sgn hL hB e3 (pbF' ?_ flt)))
            · rw [show (33 : Int32) = nI 33 from rfl, nI_eq (by omega) (by omega)]
              exact fun y => hnot ⟨e3, y⟩
            · rw [show (40 : Int32) = nI 40 from rfl, nI_eq (by omega) (by omega)]
              exact fun y => hbr ⟨e3, y⟩
          · exact sp_nosgn e3 (pbF' (by decide) (sp_nosgn e3 (pbF' (by decide) flt)))
        · cases hnn : pv_nm key (b s) with
          | none => rfl
          | some j => exact absurd ⟨_, Or.inr ⟨z1, z2, j, hnn, rfl⟩⟩ hlf
end
