/-! PURE: both readers, side by side: levels -/
section
variable {b : Nat → Nat} {L key nm : Nat} {By Tap : Nat → Int32}
/-- a round of a level's loop, of the class -/
def pj_lp (b : Nat → Nat) (L key : Nat) (By : Nat → Int32) (d l : Nat) (Q : Int32 → Int32 → Int32 → Int32 → Int32 → Int32 → Int32 → Int32 → (Nat → Int32) → Prop) (m : Nat) (most : Int32) (x3 : Nat) (X : List Int32) (lv ob on s : Nat) : Prop :=
  ∀ Co, pw_Oc Co X → lp_X0_readLevel_31 (nI l) (nI L) (nI key) By (wpG d) Q m most (nI x3) (-1000000005) (nI X.length) (nI lv) (nI ob) (nI on) (nI s) (nI (pv_en b L s)) (nI (pv_cs b L s)) Co
theorem lpL_S {d l : Nat} {Q : Int32 → Int32 → Int32 → Int32 → Int32 → Int32 → Int32 → Int32 → (Nat → Int32) → Prop} (m : Nat) (x2 x3 a1 a2 a3 a4 a5 a6 a7 a8 : Int32) (co : Nat → Int32) : lp_X0_readLevel_31 (nI l) (nI L) (nI key) By (wpG d) Q (m + 1) x2 x3 a1 a2 a3 a4 a5 a6 a7 a8 co = lp_X0_readLevel_31F (nI l) (nI L) (nI key) By (wpG d) Q (lp_X0_readLevel_31 (nI l) (nI L) (nI key) By (wpG d) Q m) x2 x3 a1 a2 a3 a4 a5 a6 a7 a8 co := rfl
theorem sim_iter {d l : Nat} {c : Int32} {X o2 pend W : List Int32} {lv ob on s : Nat} {te : Nat → Int32} (hL : L ≤ 96) (hB : pv_by By b L) (hT : pv_by Tap b L) (hl5 : l < 5) (hob : ob ≤ 8)
    (hv : pw_lv b L s = some (l, c)) (hX : X = o2 ++ pend) (hp : ∀ p, p ∈ pend → p ≠ -11 ∧ p ≠ -10 ∧ l + 1 ≤ pw_rank p) (htop : pj_top l W) (hcn : pw_cn W = on) (hl : X.length + W.length + 4 ≤ s) (hte : te ob = 0 ∨ te ob = 1) (h2 : l = 2 → te ob = 0)
    (ih : ∀ o lv W te s, s ≤ L → o.length + W.length + 4 ≤ s → pw_cn W = on → pj_top (l + 1) W → (te ob = 0 ∨ te ob = 1) → (l + 1 ≤ 2 → te ob = 0) → pj_L b L key nm By Tap d (l + 1) o lv ob on W te s) :
    (∃ f, f ≤ L ∧ (∀ Q most x3, ¬ most ≤ nI x3 → pj_no f Q → pj_lp b L key By d l Q 2 most x3 X lv ob on s) ∧ ∀ Q, pw_F Q f → pw_R b L key Tap Q ob 0 o2 lv (pend ++ W) te s) ∨
    (∃ s3 a lv3 o3 pend3 te3, s < s3 ∧ s3 ≤ L ∧ (∀ Q most x3 m, ¬ most ≤ nI x3 → pj_lp b L key By d l Q m most (x3 + 1) (X ++ a) lv3 ob on s3 → pj_lp b L key By d l Q (m + 1) most x3 X lv ob on s) ∧ (∀ t, pw_w nm a (t + 1) (t + 1)) ∧ a.length + s ≤ s3 ∧ X ++ a = o3 ++ pend3 ∧ (∀ p, p ∈ pend3 → p ≠ -11 ∧ p ≠ -10 ∧ l + 1 ≤ pw_rank p) ∧
      (∀ q, q < ob → te3 q = te q) ∧ (3 ≤ l → te3 ob = te ob) ∧ (l = 2 → te3 ob = 1) ∧ (te3 ob = 0 ∨ te3 ob = 1) ∧ (∀ l' c, pw_lv b L s3 = some (l', c) → l' < l + 1 ∨ (l + 1 ≤ 2 ∧ l' = 2 ∧ te3 ob = 1)) ∧ ∀ Q, pw_R b L key Tap Q ob 0 o3 lv3 (pend3 ++ W) te3 s3 → pw_R b L key Tap Q ob 0 o2 lv (pend ++ W) te s) := by
  have ht : pv_tk b L s = 3 := by
    unfold pw_lv at hv
    by_cases e : pv_tk b L s = 3
    · exact e
    · rw [if_neg e] at hv; cases hv
  have hv' : pw_op (b s) = some (l, c) := by unfold pw_lv at hv; rw [if_pos ht] at hv; exact hv
  obtain ⟨o1, oo2, o3, o4, o5, o6, o7, o8, o9⟩ := pw_op_p hv'
  have hs := pv_tk_lt (by decide) ht
  obtain ⟨n1, n2⟩ := pv_nx_gt (b := b) hs
  obtain ⟨c1, c2, _⟩ := pv_en_p (b := b) hs
  have hpop : pw_pop (l + 1) (pend ++ W) = (pend, W) := by
    refine pw_pop_pend ?_ pend (fun p hpp => ⟨(hp p hpp).1, (hp p hpp).2.2⟩)
    rcases htop with z | ⟨t, w, z1, z2⟩
    · exact Or.inl z
    · exact Or.inr ⟨t, w, z1, z2.elim Or.inl (fun y => Or.inr (by omega))⟩
  have hcnp : pw_cn (pend ++ W) = pw_cn W := pw_cn_pend pend (fun p hpp => (hp p hpp).2.1)
  have hXl : X.length = o2.length + pend.length := by rw [hX]; exact List.length_append
  have hPl : (pend ++ W).length = pend.length + W.length := List.length_append
  have hcl : (c :: W).length = W.length + 1 := rfl
  have hc10 : ¬ c = -10 := by grind
  have hcnc : pw_cn (c :: W) = on := by
    show pw_cn W + (if c = -10 then 1 else 0) = on
    rw [if_neg hc10, hcn]; omega
  have refop : ∀ Q, pw_R b L key Tap Q ob 1 X lv (c :: W) (upd te ob (if l = 2 then 1 else if 3 ≤ l then te ob else 0)) (pv_nx b L s) → pw_R b L key Tap Q ob 0 o2 lv (pend ++ W) te s := by
    intro Q h
    refine rs_op hL hT hv hte h2 hob (by omega) (by rw [hpop, hcnp]) ?_
    rw [hpop, ← hX]
    exact h
  have cls : ∀ Q most x3 m, ¬ most ≤ nI x3 → pj_C b L key By d 0 (nI (l + 1)) X lv ob on (pv_nx b L s) (fun w_10 w_11 w_12 w_13 w_14 w_15 w_16 w_17 w_18 => wp_X0_putCode (-(nI (b s))) w_11 w_18 (fun w_19 w_20 => lp_X0_readLevel_31 (nI l) (nI L) (nI key) By (wpG d) Q m most (nI (x3 + 1)) w_10 w_19 w_12 w_13 w_14 w_15 w_16 w_17 w_20)) → pj_lp b L key By d l Q (m + 1) most x3 X lv ob on s := by
    intro Q most x3 m hm h Co hO
    rw [lpL_S]
    unfold lp_X0_readLevel_31F
    rw [pn_p1, pn_p1]
    refine pbF hm (pbT' rfl (sp_lvl hL hB (fun z => by rw [hv] at z; cases z) (fun l' c' z => ?_)))
    rw [hv] at z
    cases z
    exact pbT' rfl (sp_sgn hL hB ht (sp_X0_moveOn hL hB c2 (h Co hO)))
  have te2 : (upd te ob (if l = 2 then 1 else if 3 ≤ l then te ob else 0)) ob = (if l = 2 then 1 else if 3 ≤ l then te ob else 0) := pn_upd_self
  have ihh := ih X lv (c :: W) (upd te ob (if l = 2 then 1 else if 3 ≤ l then te ob else 0)) (pv_nx b L s) n2 (by omega) hcnc (Or.inr ⟨c, W, rfl, Or.inr (by omega)⟩) (by rw [te2]; split; exact Or.inr rfl; split; exact hte; exact Or.inl rfl) (fun z => by rw [te2, if_neg (by omega), if_neg (by omega)])
  unfold pj_L at ihh
  rcases ihh with ⟨f, hf, g1, g2⟩ | ⟨s3, a, lv3, q3, pend2, te3, w1, w2, g1, g2, g3, g4, g5, g6, g7, g8, g9, g10⟩
  · left
    refine ⟨f, hf, fun Q most x3 hm hq => cls Q most x3 1 hm (g1 _ ?_), fun Q hQ => refop Q (g2 Q hQ)⟩
    intro cc lv ob on st ed so co hcc
    refine sp_X0_putAny hcc (fun cc' Co' h' => ?_)
    rw [lpL_S]
    unfold lp_X0_readLevel_31F
    exact ⟨fun _ => hq _ _ _ _ _ _ _ _ h', fun _ => pbF' (by grind [pg_n]) (hq _ _ _ _ _ _ _ _ h')⟩
  · right
    have hal : (X ++ a).length = X.length + a.length := List.length_append
    refine ⟨s3, a ++ [c], lv3, q3, pend2 ++ [c], te3, by omega, w2, fun Q most x3 m hm h => cls Q most x3 m hm (g1 _ ?_), fun t => pw_w_app a (t + 1) (g2 (t + 1)) (pw_w_bin oo2 o3), ?_, ?_, ?_, ?_, ?_, ?_, g8, g9, fun Q hQ => refop Q (g10 Q ?_)⟩
    · intro Co hO
      rw [o5]
      refine sp_X0_putCode (by omega) hO (fun Co' hC => ?_)
      rw [List.append_assoc] at hC ⊢
      exact h Co' hC
    · rw [List.length_append, List.length_singleton]; omega
    · rw [← List.append_assoc, g4, List.append_assoc]
    · intro p hpp
      rw [List.mem_append, List.mem_singleton] at hpp
      rcases hpp with hpp | rfl
      · obtain ⟨z1, z2, z3⟩ := g5 p hpp
        exact ⟨z1, z2, by omega⟩
      · exact ⟨by grind, hc10, by omega⟩
    · intro q hq
      rw [g6 q hq, pn_upd_ne (by omega)]
    · intro z
      rw [g7 (by omega), te2, if_neg (by omega), if_pos z]
    · intro z
      rw [g7 (by omega), te2, if_pos z]
    · rw [List.append_assoc] at hQ
      exact hQ
/-- a level's loop -/
theorem sim_loop {d l : Nat} {W : List Int32} {ob on : Nat} (hL : L ≤ 96) (hB : pv_by By b L) (hT : pv_by Tap b L) (hl5 : l < 5) (hl2 : l ≠ 2) (hob : ob ≤ 8) (htop : pj_top l W) (hcn : pw_cn W = on)
    (ih : ∀ o lv W te s, s ≤ L → o.length + W.length + 4 ≤ s → pw_cn W = on → pj_top (l + 1) W → (te ob = 0 ∨ te ob = 1) → (l + 1 ≤ 2 → te ob = 0) → pj_L b L key nm By Tap d (l + 1) o lv ob on W te s) :
    ∀ (n s x3 : Nat) (X o2 pend : List Int32) (lv : Nat) (te : Nat → Int32), L - s ≤ n → s ≤ L → x3 + 4 ≤ s → X = o2 ++ pend → (∀ p, p ∈ pend → p ≠ -11 ∧ p ≠ -10 ∧ l + 1 ≤ pw_rank p) → X.length + W.length + 4 ≤ s → (te ob = 0 ∨ te ob = 1) → (∀ l' c, pw_lv b L s = some (l', c) → l' < l + 1 ∨ (l + 1 ≤ 2 ∧ l' = 2 ∧ te ob = 1)) →
    (∃ f, f ≤ L ∧ (∀ Q, pj_no f Q → ∃ m, pj_lp b L key By d l Q m 96 x3 X lv ob on s) ∧ ∀ Q, pw_F Q f → pw_R b L key Tap Q ob 0 o2 lv (pend ++ W) te s) ∨
    (∃ s3 a lv3 o3 pend3 te3, s ≤ s3 ∧ s3 ≤ L ∧ (∀ Q, pj_ok b L (X ++ a) lv3 ob on s3 Q → ∃ m, pj_lp b L key By d l Q m 96 x3 X lv ob on s) ∧ (∀ t, pw_w nm a (t + 1) (t + 1)) ∧ a.length + s ≤ s3 ∧ X ++ a = o3 ++ pend3 ∧ (∀ p, p ∈ pend3 → p ≠ -11 ∧ p ≠ -10 ∧ l + 1 ≤ pw_rank p) ∧
      (∀ q, q < ob → te3 q = te q) ∧ (3 ≤ l → te3 ob = te ob) ∧ (te3 ob = 0 ∨ te3 ob = 1) ∧ (∀ l' c, pw_lv b L s3 = some (l', c) → l' < l ∨ (l ≤ 2 ∧ l' = 2 ∧ te3 ob = 1)) ∧ ∀ Q, pw_R b L key Tap Q ob 0 o3 lv3 (pend3 ++ W) te3 s3 → pw_R b L key Tap Q ob 0 o2 lv (pend ++ W) te s) := by
  intro n
  induction n with
  | zero =>
    intro s x3 X o2 pend lv te hn hsL hx3 hX hp hl hte hpost
    obtain rfl : s = L := by omega
    have hno : pw_lv b s s = none := by
      unfold pw_lv pv_tk
      rw [if_pos (Nat.le_refl _), if_neg (by decide)]
    right
    refine ⟨s, [], lv, o2, pend, te, Nat.le_refl _, Nat.le_refl _, fun Q hq => ⟨1, fun Co hO => ?_⟩, fun t => rfl, by show 0 + s ≤ s; omega, by rw [List.append_nil]; exact hX, hp, fun _ _ => rfl, fun _ => rfl, hte, fun l' c z => (by rw [hno] at z; cases z), fun Q hQ => hQ⟩
    rw [lpL_S]
    unfold lp_X0_readLevel_31F
    rw [List.append_nil] at hq
    refine ⟨fun _ => hq Co hO, fun _ => pbT' rfl (sp_lvl hL hB (fun _ => pbF' (by grind [pg_n]) (hq Co hO)) (fun l' c z => by rw [hno] at z; cases z))⟩
  | succ n ihn =>
    intro s x3 X o2 pend lv te hn hsL hx3 hX hp hl hte hpost
    by_cases hop : ∃ c, pw_lv b L s = some (l, c)
    · obtain ⟨c, hv⟩ := hop
      have hm : ¬ (96 : Int32) ≤ nI x3 := by grind [pg_n]
      rcases sim_iter (nm := nm) hL hB hT hl5 hob hv hX hp htop hcn hl hte (fun z => absurd z hl2) ih with ⟨f, hf, g1, g2⟩ | ⟨s3, a, lv3, o3, pend3, te3, w1, w2, g1, g2, g3, g4, g5, g6, g7, _, g8, g9, g10⟩
      · exact Or.inl ⟨f, hf, fun Q hq => ⟨2, g1 Q 96 x3 hm hq⟩, g2⟩
      · have hal : (X ++ a).length = X.length + a.length := List.length_append
        rcases ihn s3 (x3 + 1) (X ++ a) o3 pend3 lv3 te3 (by omega) w2 (by omega) g4 g5 (by omega) g8 g9 with ⟨f, hf, k1, k2⟩ | ⟨s4, a4, lv4, o4, pend4, te4, v1, v2, k1, k2, k3, k4, k5, k6, k7, k8, k9, k10⟩
        · left
          refine ⟨f, hf, fun Q hq => ?_, fun Q hQ => g10 Q (k2 Q hQ)⟩
          obtain ⟨m, hm2⟩ := k1 Q hq
          exact ⟨m + 1, g1 Q 96 x3 m hm hm2⟩
        · right
          refine ⟨s4, a ++ a4, lv4, o4, pend4, te4, by omega, v2, fun Q hq => ?_, fun t => pw_w_app a (t + 1) (g2 t) (k2 t), ?_, ?_, k5, fun q hq => ?_, fun z => ?_, k8, k9, fun Q hQ => g10 Q (k10 Q hQ)⟩
          · rw [← List.append_assoc] at hq
            obtain ⟨m, hm2⟩ := k1 Q hq
            exact ⟨m + 1, g1 Q 96 x3 m hm hm2⟩
          · rw [List.length_append]; omega
          · rw [← List.append_assoc]; exact k4
          · rw [k6 q hq, g6 q hq]
          · rw [k7 z, g7 z]
    · right
      refine ⟨s, [], lv, o2, pend, te, Nat.le_refl _, hsL, fun Q hq => ⟨1, fun Co hO => ?_⟩, fun t => rfl, by show 0 + s ≤ s; omega, by rw [List.append_nil]; exact hX, hp, fun _ _ => rfl, fun _ => rfl, hte, fun l' c z => ?_, fun Q hQ => hQ⟩
      · rw [lpL_S]
        unfold lp_X0_readLevel_31F
        rw [List.append_nil] at hq
        refine ⟨fun _ => hq Co hO, fun _ => pbT' rfl (sp_lvl hL hB (fun _ => pbF' (by grind [pg_n]) (hq Co hO)) (fun l' c z => pbF' ?_ (hq Co hO)))⟩
        have hl4 : l' ≤ 4 := by
          unfold pw_lv at z
          split at z
          · exact (pw_op_p z).1
          · cases z
        rw [nI_eq (by omega) (by omega)]
        intro y
        subst y
        exact hop ⟨c, z⟩
      · have := hpost l' c z
        rcases this with y | ⟨y1, y2, y3⟩
        · by_cases e : l' = l
          · subst e; exact absurd ⟨c, z⟩ hop
          · left; omega
        · right; exact ⟨by omega, y2, y3⟩
theorem sim_l5 {d : Nat} {o W : List Int32} {lv ob on s : Nat} {te : Nat → Int32} (htop : pj_top 5 W) (hte : te ob = 0 ∨ te ob = 1) (ih : pj_P b L key nm By Tap d 1 o lv ob on W te s) : pj_L b L key nm By Tap (d + 1) 5 o lv ob on W te s := by
  have go : ∀ Q, pj_C b L key By d 1 0 o lv ob on s Q → pj_C b L key By (d + 1) 0 (nI 5) o lv ob on s Q := by
    intro Q h Co hO
    rw [wpG_S]
    show wq_X0_readLevel (wpG d) (nI 5) (nI L) (-1000000005) (nI o.length) (nI key) (nI lv) (nI ob) (nI on) (nI s) (nI (pv_en b L s)) (nI (pv_cs b L s)) By Co Q
    unfold wq_X0_readLevel
    exact pbF (by decide) (h Co hO)
  have hpop : pw_pop 6 W = ([], W) := by
    have := pw_pop_pend (r := 6) (W := W) (by
      rcases htop with z | ⟨t, w, z1, z2⟩
      · exact Or.inl z
      · exact Or.inr ⟨t, w, z1, z2.elim Or.inl (fun y => Or.inr (by omega))⟩) [] (fun p hp => absurd hp (by simp))
    exact this
  unfold pj_L
  rcases ih with ⟨f, hf, g1, g2⟩ | ⟨s', a, lv', q1, q2, g1, g2, g3, g4⟩
  · exact Or.inl ⟨f, hf, fun Q hq => go Q (g1 Q hq), g2⟩
  · right
    rw [hpop] at g4
    simp only [List.append_nil] at g4
    refine ⟨s', a, lv', o ++ a, [], te, q1, q2, fun Q hq => go Q (g1 Q hq), g2, g3, by rw [List.append_nil], fun p hp => absurd hp (by simp), fun _ _ => rfl, fun _ => rfl, hte, fun l' c z => ?_, g4⟩
    left
    unfold pw_lv at z
    split at z
    · have := (pw_op_p z).1; omega
    · cases z
theorem sim_lev {d l : Nat} {o W : List Int32} {lv ob on s : Nat} {te : Nat → Int32} (hL : L ≤ 96) (hB : pv_by By b L) (hT : pv_by Tap b L) (hl5 : l < 5) (hob : ob ≤ 8) (hsL : s ≤ L) (hl : o.length + W.length + 4 ≤ s) (htop : pj_top l W) (hcn : pw_cn W = on) (hte : te ob = 0 ∨ te ob = 1) (hte2 : l ≤ 2 → te ob = 0)
    (ih : ∀ o lv W te s, s ≤ L → o.length + W.length + 4 ≤ s → pw_cn W = on → pj_top (l + 1) W → (te ob = 0 ∨ te ob = 1) → (l + 1 ≤ 2 → te ob = 0) → pj_L b L key nm By Tap d (l + 1) o lv ob on W te s) : pj_L b L key nm By Tap (d + 1) l o lv ob on W te s := by
  have go : ∀ Q most, (most = if l = 2 then 1 else 96) → pj_C b L key By d 0 (nI (l + 1)) o lv ob on s (fun w_22 w_23 w_24 w_25 w_26 w_27 w_28 w_29 w_30 => ∃ n, lp_X0_readLevel_31 (nI l) (nI L) (nI key) By (wpG d) Q n most 0 w_22 w_23 w_24 w_25 w_26 w_27 w_28 w_29 w_30) → pj_C b L key By (d + 1) 0 (nI l) o lv ob on s Q := by
    intro Q most hmost h Co hO
    rw [wpG_S]
    show wq_X0_readLevel (wpG d) (nI l) (nI L) (-1000000005) (nI o.length) (nI key) (nI lv) (nI ob) (nI on) (nI s) (nI (pv_en b L s)) (nI (pv_cs b L s)) By Co Q
    unfold wq_X0_readLevel
    rw [pn_p1]
    refine pbT (by grind [pg_n]) ?_
    have e : (fun (w_22 w_23 w_24 w_25 w_26 w_27 w_28 w_29 : Int32) (w_30 : Nat → Int32) => ((¬ nI l = 2 → (∃ n : Nat, lp_X0_readLevel_31 (nI l) (nI L) (nI key) By (wpG d) Q n 96 0 w_22 w_23 w_24 w_25 w_26 w_27 w_28 w_29 w_30)) ∧ (nI l = 2 → (∃ n : Nat, lp_X0_readLevel_31 (nI l) (nI L) (nI key) By (wpG d) Q n 1 0 w_22 w_23 w_24 w_25 w_26 w_27 w_28 w_29 w_30)))) = (fun w_22 w_23 w_24 w_25 w_26 w_27 w_28 w_29 w_30 => ∃ n, lp_X0_readLevel_31 (nI l) (nI L) (nI key) By (wpG d) Q n most 0 w_22 w_23 w_24 w_25 w_26 w_27 w_28 w_29 w_30) := by
      funext w_22 w_23 w_24 w_25 w_26 w_27 w_28 w_29 w_30
      apply propext
      by_cases h2 : l = 2
      · rw [if_pos h2] at hmost
        subst h2
        rw [hmost]
        exact ⟨fun z => z.2 rfl, fun z => ⟨fun y => absurd rfl y, fun _ => z⟩⟩
      · rw [if_neg h2] at hmost
        have hn : ¬ nI l = 2 := by rw [show (2 : Int32) = nI 2 from rfl, nI_eq (by omega) (by omega)]; exact h2
        rw [hmost]
        exact ⟨fun z => z.1 hn, fun z => ⟨fun _ => z, fun y => absurd y hn⟩⟩
    rw [e]
    exact h Co hO
  have i1 := ih o lv W te s hsL hl hcn (pj_top_up htop) hte (fun z => hte2 (by omega))
  unfold pj_L at i1
  unfold pj_L
  rcases i1 with ⟨f, hf, g1, g2⟩ | ⟨s1, a1, lv1, o2, pend, te1, w1, w2, g1, g2, g3, g4, g5, g6, g7, g8, g9, g10⟩
  · left
    refine ⟨f, hf, fun Q hq => go Q _ rfl (g1 _ ?_), g2⟩
    intro cc lv ob on st ed so co hcc
    refine ⟨1, ?_⟩
    rw [lpL_S]
    unfold lp_X0_readLevel_31F
    exact ⟨fun _ => hq _ _ _ _ _ _ _ _ hcc, fun _ => pbF' (by grind [pg_n]) (hq _ _ _ _ _ _ _ _ hcc)⟩
  · have hal : (o ++ a1).length = o.length + a1.length := List.length_append
    have g5' : ∀ p, p ∈ pend → p ≠ -11 ∧ p ≠ -10 ∧ l + 1 ≤ pw_rank p := fun p hp => ⟨(g5 p hp).1, (g5 p hp).2.1, by have := (g5 p hp).2.2; omega⟩
    by_cases h2 : l = 2
    · subst h2
      have t10 : te1 ob = 0 := by rw [g7 (by omega)]; exact hte2 (by omega)
      by_cases hop : ∃ c, pw_lv b L s1 = some (2, c)
      · obtain ⟨c, hv⟩ := hop
        rcases sim_iter (nm := nm) hL hB hT hl5 hob hv g4 g5' htop hcn (by omega) g8 (fun _ => t10) ih with ⟨f, hf, k1, k2⟩ | ⟨s3, a, lv3, o3, pend3, te3, v1, v2, k1, k2, k3, k4, k5, k6, k7, k7b, k8, k9, k10⟩
        · left
          refine ⟨f, hf, fun Q hq => go Q _ rfl (g1 _ ?_), fun Q hQ => g10 Q (k2 Q hQ)⟩
          intro Co hO
          exact ⟨2, k1 Q 1 0 (by decide) hq Co hO⟩
        · right
          refine ⟨s3, a1 ++ a, lv3, o3, pend3, te3, by omega, v2, fun Q hq => go Q _ rfl (g1 _ ?_), fun t => pw_w_app a1 t (g2 t) (k2 t), ?_, ?_, k5, fun q hq => ?_, fun z => absurd z (by omega), k8, fun l' c' z => ?_, fun Q hQ => g10 Q (k10 Q hQ)⟩
          · intro Co hO
            refine ⟨2, k1 Q 1 0 1 (by decide) (fun Co' hO' => ?_) Co hO⟩
            rw [lpL_S]
            unfold lp_X0_readLevel_31F
            rw [List.append_assoc] at hO' ⊢
            exact pbT (by decide) (hq Co' hO')
          · rw [List.length_append]; omega
          · rw [← List.append_assoc]; exact k4
          · rw [k6 q hq, g6 q hq]
          · have := k9 l' c' z
            rcases this with y | ⟨y1, y2, y3⟩
            · by_cases e : l' = 2
              · right; exact ⟨by omega, e, k7b rfl⟩
              · left; omega
            · omega
      · right
        refine ⟨s1, a1, lv1, o2, pend, te1, w1, w2, fun Q hq => go Q _ rfl (g1 _ ?_), g2, g3, g4, g5', g6, fun z => absurd z (by omega), g8, fun l' c' z => ?_, g10⟩
        · intro Co hO
          refine ⟨1, ?_⟩
          rw [lpL_S]
          unfold lp_X0_readLevel_31F
          refine ⟨fun _ => hq Co hO, fun _ => pbT' rfl (sp_lvl hL hB (fun _ => pbF' (by decide) (hq Co hO)) (fun l' c z => pbF' ?_ (hq Co hO)))⟩
          have hl4 : l' ≤ 4 := by
            unfold pw_lv at z
            split at z
            · exact (pw_op_p z).1
            · cases z
          rw [nI_eq (by omega) (by omega)]
          intro y
          subst y
          exact hop ⟨c, z⟩
        · have := g9 l' c' z
          rcases this with y | ⟨y1, y2, y3⟩
          · by_cases e : l' = 2
            · subst e; exact absurd ⟨c', z⟩ hop
            · left; omega
          · omega
    · rcases sim_loop (nm := nm) hL hB hT hl5 h2 hob htop hcn ih (L - s1) s1 0 (o ++ a1) o2 pend lv1 te1 (by omega) w2 (by omega) g4 g5' (by omega) g8 g9 with ⟨f, hf, k1, k2⟩ | ⟨s3, a, lv3, o3, pend3, te3, v1, v2, k1, k2, k3, k4, k5, k6, k7, k8, k9, k10⟩
      · left
        refine ⟨f, hf, fun Q hq => go Q 96 (by rw [if_neg h2]) (g1 _ ?_), fun Q hQ => g10 Q (k2 Q hQ)⟩
        intro Co hO
        obtain ⟨m, hm⟩ := k1 Q hq
        exact ⟨m, hm Co hO⟩
      · right
        refine ⟨s3, a1 ++ a, lv3, o3, pend3, te3, by omega, v2, fun Q hq => go Q 96 (by rw [if_neg h2]) (g1 _ ?_), fun t => pw_w_app a1 t (g2 t) (k2 t), ?_, ?_, k5, fun q hq => ?_, fun z => ?_, k8, k9, fun Q hQ => g10 Q (k10 Q hQ)⟩
        · intro Co hO
          rw [← List.append_assoc] at hq
          obtain ⟨m, hm⟩ := k1 Q hq
          exact ⟨m, hm Co hO⟩
        · rw [List.length_append]; omega
        · rw [← List.append_assoc]; exact k4
        · rw [k6 q hq, g6 q hq]
        · rw [k7 z, g7 (by omega)]
/-- all of it, by how deep it is -/
theorem sim_all (hL : L ≤ 96) (hB : pv_by By b L) (hT : pv_by Tap b L) (hk : key ≤ 2) (hnm : nm = if key = 2 then 3 else 2) : ∀ d : Nat,
    (∀ o lv ob on W te s, s ≤ L → o.length + W.length + 4 ≤ s → pw_cn W = on → on ≤ 8 → ob ≤ 8 → 2 + (8 * (8 - ob) + 2 * (8 - on)) ≤ d → pj_P b L key nm By Tap d 1 o lv ob on W te s) ∧
    (∀ o lv ob on W te s, pv_tk b L s = 3 → b s = 33 → o.length + W.length + 4 ≤ s → pw_cn W = on → on ≤ 8 → ob ≤ 8 → 1 + (8 * (8 - ob) + 2 * (8 - on)) ≤ d → pj_P b L key nm By Tap d 2 o lv ob on W te s) ∧
    (∀ o lv ob on W te s, pv_tk b L s = 3 → b s = 40 → o.length + W.length + 4 ≤ s → pw_cn W = on → on ≤ 8 → ob ≤ 8 → 1 + (8 * (8 - ob) + 2 * (8 - on)) ≤ d → pj_P b L key nm By Tap d 3 o lv ob on W te s) ∧
    (∀ l, l ≤ 5 → ∀ o lv ob on W te s, s ≤ L → o.length + W.length + 4 ≤ s → pw_cn W = on → on ≤ 8 → ob ≤ 8 → pj_top l W → (te ob = 0 ∨ te ob = 1) → (l ≤ 2 → te ob = 0) → (6 - l) + 2 + (8 * (8 - ob) + 2 * (8 - on)) ≤ d → pj_L b L key nm By Tap d l o lv ob on W te s) := by
  intro d
  induction d with
  | zero =>
    refine ⟨fun o lv ob on W te s _ _ _ _ _ h => absurd h (by omega), fun o lv ob on W te s _ _ _ _ _ _ h => absurd h (by omega), fun o lv ob on W te s _ _ _ _ _ _ h => absurd h (by omega), fun l hl o lv ob on W te s _ _ _ _ _ _ _ _ h => absurd h (by omega)⟩
  | succ d ih =>
    obtain ⟨iP, iN, iB, iL⟩ := ih
    refine ⟨fun o lv ob on W te s h1 h2 h3 h4 h5 h6 => ?_, fun o lv ob on W te s t1 t2 h2 h3 h4 h5 h6 => ?_, fun o lv ob on W te s t1 t2 h2 h3 h4 h5 h6 => ?_, fun l hl o lv ob on W te s h1 h2 h3 h4 h5 h7 h8 h9 h6 => ?_⟩
    · exact sim_piece hL hB hT hk hnm h1 h2 h3 h4 h5 (fun t1 t2 => iN o lv ob on W te s t1 t2 h2 h3 h4 h5 (by omega)) (fun t1 t2 => iB o lv ob on W te s t1 t2 h2 h3 h4 h5 (by omega))
    · have hs := pv_tk_lt (by decide) t1
      obtain ⟨n1, n2⟩ := pv_nx_gt (b := b) hs
      refine sim_not hL hB hT hk t1 t2 h2 h3 h4 h5 (fun h8 => iP o lv ob (on + 1) ((-10) :: W) te _ n2 ?_ ?_ (by omega) h5 (by omega))
      · show o.length + (W.length + 1) + 4 ≤ _; omega
      · show pw_cn W + (if (-10 : Int32) = -10 then 1 else 0) = on + 1
        rw [if_pos rfl, h3]
    · have hs := pv_tk_lt (by decide) t1
      obtain ⟨n1, n2⟩ := pv_nx_gt (b := b) hs
      refine sim_bra hL hB hT hk t1 t2 h2 h3 h4 h5 (fun h8 => iL 0 (by omega) o lv (ob + 1) on ((-11) :: W) _ _ n2 ?_ ?_ h4 (by omega) (Or.inr ⟨-11, W, rfl, Or.inl rfl⟩) (Or.inl pn_upd_self) (fun _ => pn_upd_self) (by omega))
      · show o.length + (W.length + 1) + 4 ≤ _; omega
      · show pw_cn W + (if (-11 : Int32) = -10 then 1 else 0) = on
        rw [if_neg (by decide), h3]; omega
    · by_cases e : l = 5
      · subst e
        exact sim_l5 h7 h8 (iP o lv ob on W te s h1 h2 h3 h4 h5 (by omega))
      · exact sim_lev hL hB hT (by omega) h5 h1 h2 h7 h3 h8 h9 (fun o lv W te s k1 k2 k3 k4 k5 k6 => iL (l + 1) (by omega) o lv ob on W te s k1 k2 k3 h4 h5 k4 k5 k6 (by omega))
end
