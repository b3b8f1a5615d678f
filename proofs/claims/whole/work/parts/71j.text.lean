/-! PURE: text -/
/-- a pool that has grown -/
def pr_pool (LT : List Nat) (pk pv : Nat → Int32) (pn : Nat → Nat) (tc : Nat → Nat → Int32) (LT' : List Nat) (pk' pv' : Nat → Int32) (pn' : Nat → Nat) (tc' : Nat → Nat → Int32) : Prop := ∀ a, a ∈ LT → a ∈ LT' ∧ pk' a = pk a ∧ pv' a = pv a ∧ pn' a = pn a ∧ tc' a = tc a
theorem pr_pool_rf (LT : List Nat) (pk pv : Nat → Int32) (pn : Nat → Nat) (tc : Nat → Nat → Int32) : pr_pool LT pk pv pn tc LT pk pv pn tc := fun _ h => ⟨h, rfl, rfl, rfl, rfl⟩
theorem pr_pool_up {LT : List Nat} {pk pv : Nat → Int32} {pn : Nat → Nat} {tc : Nat → Nat → Int32} {a : Nat} (ha : a ∉ LT) (x y : Int32) (z : Nat) (w : Nat → Int32) : pr_pool LT pk pv pn tc (LT ++ [a]) (va_up pk a x) (va_up pv a y) (va_up pn a z) (va_up tc a w) := by
  intro q hq
  have hne : q ≠ a := fun e => ha (e ▸ hq)
  refine ⟨List.mem_append_left _ hq, ?_, ?_, ?_, ?_⟩ <;> (unfold va_up; rw [if_neg hne])
theorem pr_grow {now : Nat → Int32} {n tn : Nat} {Sz Tc Fa Pa Py Mi Me Sr Z : Int32} {Ki He Do : Nat → Int32} {Tx : Nat → Option Nat} {La : Nat → Int32} {LT LT' : List Nat} {pk pv pk' pv' : Nat → Int32} {pn pn' : Nat → Nat} {tc tc' : Nat → Nat → Int32} (hp : pr_pool LT pk pv pn tc LT' pk' pv' pn' tc') (H : pr_rel now n tn Sz Tc Fa Pa Py Mi Me Sr Z Ki He Do Tx La LT pk pv pn tc) : pr_rel now n tn Sz Tc Fa Pa Py Mi Me Sr Z Ki He Do Tx La LT' pk' pv' pn' tc' := by
  obtain ⟨hb, hs, py, pl, ⟨t1, t3, t4, t5⟩⟩ := pr_rel_iff.mp H
  refine pr_rel_iff.mpr ⟨hb, hs, py, pl, ⟨t1, fun t ht a ha => (hp a (t3 t ht a ha)).1, fun t ht => ?_, t5⟩⟩
  obtain ⟨a, key, cnt, g1, g2, g3, g4, g5⟩ := t4 t ht
  have hm := t3 t (by have := t1.1; omega) a g1
  obtain ⟨e1, e2, e3, e4, e5⟩ := hp a hm
  exact ⟨a, key, cnt, g1, g2, ⟨by rw [e4]; exact g3.1, fun k hk => by rw [e5]; exact g3.2 k hk⟩, by rw [e2]; exact g4, by rw [e3]; exact g5⟩
section
variable {b : Nat → Nat} {L key : Nat} {Tap : Nat → Int32} {Q : Int32 → Int32 → Int32 → Int32 → Int32 → Int32 → Int32 → Int32 → Int32 → (Nat → Int32) → (Nat → Int32) → (Nat → Int32) → Prop} {lv s : Nat} {o W : List Int32} {te : Nat → Int32}
theorem rs_end (ht : pv_tk b L s = 0) (hl : o.length + W.length ≤ 96) (h : ∀ nx fr tk va en hd cod wts tes, pw_O cod (o ++ (pw_pop 0 W).1) → Q 1 nx fr tk va en (nI (o ++ (pw_pop 0 W).1).length) (nI lv) hd cod wts tes) : pw_R b L key Tap Q 0 0 o lv W te s := by
  refine ⟨1, fun va en Cod Wts Tes hed hva hO hS hTe => ?_⟩
  show lp_X7_takesE_28F (nI L) (nI key) Tap Q (lp_X7_takesE_28 (nI L) (nI key) Tap Q 0) (nI 0) (nI (pw_cn W)) 0 (nI (pv_en b L s)) (nI s) (nI (pv_tk b L s)) va en (nI o.length) (nI lv) (nI W.length) Cod Wts Tes
  unfold lp_X7_takesE_28F
  refine pbT' rfl (pbT (by rw [ht]; rfl) (sp_X7_settle (r := 0) (by decide) W o _ hS hO hl (fun Cod' hC => pbT' rfl (h _ _ _ _ _ _ _ _ _ hC))))
end
/-- the row with one text more -/
def px_row (now : Nat → Int32) (tn key lv : Nat) (x : List Int32) : Nat → Int32 := fun j => if j = 8 then nI (tn + 1) else if j = 81 + 2 * tn then nI (1000 * key + x.length) else if j = 81 + 2 * tn + 1 then nI lv else if 109 + 96 * tn ≤ j ∧ j < 109 + 96 * tn + x.length then x.getD (j - (109 + 96 * tn)) 0 else now j
theorem sp_X7_text_33 {now : Nat → Int32} {tn key lv : Nat} {x : List Int32} {Tp nx fr tk va en hd : Int32} {Cod Wts Tes : Nat → Int32} {Q : Int32 → Int32 → Int32 → Int32 → Int32 → Int32 → Int32 → Int32 → Int32 → Int32 → Int32 → (Nat → Int32) → (Nat → Int32) → (Nat → Int32) → (Nat → Int32) → Prop} (h8 : now 8 = nI tn) (ht : tn < 14) (hx : x.length ≤ 95) (hk : key ≤ 2) (hO : pw_O Cod x)
    (hq : ∀ tp nx fr tk va en ke cs at' hd cod wts tes, tp = 0 → Q (nI tn) tp nx fr tk va en ke cs at' hd (px_row now tn key lv x) cod wts tes) : jp_X7_text_33 Q 1 Tp nx fr tk va en (nI key) (nI x.length) (nI lv) hd now Cod Wts Tes := by
  unfold jp_X7_text_33
  rw [h8, pn_ixt, pn_p1, pn_cl (show 81 + 2 * tn < 2 ^ 31 by omega), pn_cl (show 81 + 2 * tn + 1 < 2 ^ 31 by omega), show (1000 : Int32) = nI 1000 from rfl, pk_mul, nI_add]
  refine pb1' (pbF' (by grind [pg_n]) ⟨pn_in (by omega) (by decide), pn_in (by omega) (by decide), x.length + 1, ?_⟩)
  have Lp : ∀ (w i : Nat) (r : Nat → Int32), i + w = x.length → (∀ j, r j = if j = 81 + 2 * tn then nI (1000 * key + x.length) else if j = 81 + 2 * tn + 1 then nI lv else if 109 + 96 * tn ≤ j ∧ j < 109 + 96 * tn + i then x.getD (j - (109 + 96 * tn)) 0 else now j) → lp_X7_text_117 Q (w + 1) (nI tn) (nI i) 0 nx fr tk va en (nI key) (nI x.length) (nI lv) hd r Cod Wts Tes := by
    intro w
    induction w with
    | zero =>
      intro i r hi hr
      obtain rfl : i = x.length := by omega
      show lp_X7_text_117F Q (lp_X7_text_117 Q 0) (nI tn) (nI x.length) 0 nx fr tk va en (nI key) (nI x.length) (nI lv) hd r Cod Wts Tes
      unfold lp_X7_text_117F
      refine pbT (by rw [nI_leI (by omega) (by omega)]; omega) ?_
      have e8 : r 8 = nI tn := by rw [hr, if_neg (by omega), if_neg (by omega), if_neg (by omega)]; exact h8
      rw [e8, pn_p1]
      have : upd r 8 (nI (tn + 1)) = px_row now tn key lv x := by
        funext j
        unfold px_row
        by_cases e : j = 8
        · subst e; rw [pn_upd_self, if_pos rfl]
        · rw [pn_upd_ne e, if_neg e, hr]
      rw [this]
      exact hq _ _ _ _ _ _ _ _ _ _ _ _ _ rfl
    | succ w ih =>
      intro i r hi hr
      show lp_X7_text_117F Q (lp_X7_text_117 Q (w + 1)) (nI tn) (nI i) 0 nx fr tk va en (nI key) (nI x.length) (nI lv) hd r Cod Wts Tes
      unfold lp_X7_text_117F
      rw [pn_ixc, pn_cl (show 109 + 96 * tn + i < 2 ^ 31 by omega), pn_cl (show i < 2 ^ 31 by omega), pn_p1, hO i (by omega)]
      refine pbF (by rw [nI_leI (by omega) (by omega)]; omega) ⟨pn_in (by omega) (by decide), pn_in (by omega) (by decide), ih (i + 1) _ (by omega) (fun j => ?_)⟩
      by_cases e : j = 109 + 96 * tn + i
      · subst e
        rw [pn_upd_self, if_neg (by omega), if_neg (by omega), if_pos (by omega), show 109 + 96 * tn + i - (109 + 96 * tn) = i by omega]
      · rw [pn_upd_ne e, hr]
        by_cases e2 : 109 + 96 * tn ≤ j ∧ j < 109 + 96 * tn + i
        · rw [if_neg (by omega), if_neg (by omega), if_pos e2, if_neg (by omega), if_neg (by omega), if_pos (by omega)]
        · by_cases e3 : j = 81 + 2 * tn
          · rw [if_pos e3, if_pos e3]
          · rw [if_neg e3, if_neg e3]
            by_cases e4 : j = 81 + 2 * tn + 1
            · rw [if_pos e4, if_pos e4]
            · rw [if_neg e4, if_neg e4, if_neg e2, if_neg (by omega)]
  refine Lp x.length 0 _ (by omega) (fun j => ?_)
  by_cases e4 : j = 81 + 2 * tn + 1
  · subst e4
    rw [pn_upd_self, if_neg (by omega), if_pos rfl]
  · rw [pn_upd_ne e4]
    by_cases e3 : j = 81 + 2 * tn
    · subst e3; rw [pn_upd_self, if_pos rfl]
    · rw [pn_upd_ne e3, if_neg e3, if_neg e4, if_neg (by omega)]
section
variable {now : Nat → Int32} {n tn : Nat} {Sz Tc Fa Pa Py Mi Me Sr Z : Int32} {Ki He Do : Nat → Int32} {Tx : Nat → Option Nat} {La : Nat → Int32} {LT : List Nat} {pk pv : Nat → Int32} {pn : Nat → Nat} {tc : Nat → Nat → Int32}
theorem pr_text (H : pr_rel now n tn Sz Tc Fa Pa Py Mi Me Sr Z Ki He Do Tx La LT pk pv pn tc) {key lv a : Nat} {x : List Int32} {g : Nat → Int32} (ht : tn < 14) (hx : x.length ≤ 95) (hk : key ≤ 2) (ha : a ∉ LT) (hw : pw_w (if key = 2 then 3 else 2) x 0 1) (hg : ∀ j, j < x.length → g j = pe_cv (x.getD j 0)) : pr_rel (px_row now tn key lv x) n (tn + 1) Sz (nI (tn + 1)) Fa Pa Py Mi Me Sr Z Ki He Do (va_up Tx tn (some a)) (upd La key (nI tn)) (LT ++ [a]) (va_up pk a (nI key)) (va_up pv a (nI lv)) (va_up pn a x.length) (va_up tc a g) := by
  have H' := pr_grow (pr_pool_up ha (nI key) (nI lv) x.length g) H
  obtain ⟨⟨b1, b2, b3, b4, b5⟩, ⟨s1, s2, s3, s4, s5, s6, s7, s8⟩, py, pl, ⟨⟨t1, t2⟩, t3, t4, t5⟩⟩ := pr_rel_iff.mp H'
  have lo : ∀ k, k < 81 → k ≠ 8 → px_row now tn key lv x k = now k := by
    intro k h1 h2
    unfold px_row
    rw [if_neg h2, if_neg (by omega), if_neg (by omega), if_neg (by omega)]
  have e1 : px_row now tn key lv x (81 + 2 * tn) = nI (1000 * key + x.length) := by
    unfold px_row
    rw [if_neg (by omega), if_pos rfl]
  have e2 : px_row now tn key lv x (81 + 2 * tn + 1) = nI lv := by
    unfold px_row
    rw [if_neg (by omega), if_neg (by omega), if_pos rfl]
  have ec : ∀ k, k < x.length → px_row now tn key lv x (109 + 96 * tn + k) = x.getD k 0 := by
    intro k hk'
    unfold px_row
    rw [if_neg (by omega), if_neg (by omega), if_neg (by omega), if_pos (by omega), show 109 + 96 * tn + k - (109 + 96 * tn) = k by omega]
  have hd : ∀ t, t < tn → px_row now tn key lv x (81 + 2 * t) = now (81 + 2 * t) ∧ px_row now tn key lv x (81 + 2 * t + 1) = now (81 + 2 * t + 1) := by
    intro t htt
    unfold px_row
    refine ⟨?_, ?_⟩
    · rw [if_neg (by omega), if_neg (by omega), if_neg (by omega), if_neg (by omega)]
    · rw [if_neg (by omega), if_neg (by omega), if_neg (by omega), if_neg (by omega)]
  have hcd : ∀ t k, t < tn → k < 96 → px_row now tn key lv x (109 + 96 * t + k) = now (109 + 96 * t + k) := by
    intro t k htt hkk
    unfold px_row
    rw [if_neg (by omega), if_neg (by omega), if_neg (by omega), if_neg (by omega)]
  have hct : ∀ k t, t ≤ tn → pr_ct (px_row now tn key lv x) k t = pr_ct now k t := by
    intro k t
    induction t with
    | zero => intro _; rfl
    | succ t ih =>
      intro htt
      unfold pr_ct
      rw [(hd t (by omega)).1, ih (by omega)]
  refine pr_rel_iff.mpr ⟨⟨b1, ?_, ?_, ?_, ?_⟩, ⟨?_, ?_, ?_, ?_, ?_, ?_, ?_, ?_⟩, ?_, pr_pl_cong (fun k h1 h2 => lo k (by omega) (by omega)) pl, ⟨⟨by omega, ?_⟩, fun t htt q hq => ?_, fun t htt => ?_, fun k hkk => ?_⟩⟩
  · rw [lo _ (by decide) (by decide)]; exact b2
  · rw [lo _ (by decide) (by decide)]; exact b3
  · rw [lo _ (by decide) (by decide)]; exact b4
  · rw [lo _ (by decide) (by decide)]; exact b5
  · rw [lo _ (by decide) (by decide)]; exact s1
  · rfl
  · rw [lo _ (by decide) (by decide)]; exact s3
  · rw [lo _ (by decide) (by decide)]; exact s4
  · rw [lo _ (by decide) (by decide)]; exact s5
  · rw [lo _ (by decide) (by decide)]; exact s6
  · rw [lo _ (by decide) (by decide)]; exact s7
  · rw [lo _ (by decide) (by decide)]; exact s8
  · unfold pr_py; rw [lo _ (by decide) (by decide)]; exact py
  · rfl
  · unfold va_up at hq
    by_cases e : t = tn
    · rw [if_pos e] at hq
      cases hq
      exact List.mem_append_right _ (List.mem_singleton.mpr rfl)
    · rw [if_neg e] at hq
      exact t3 t htt q hq
  · by_cases e : t = tn
    · subst e
      have ea : ∀ {α : Type} (f : Nat → α) (v : α), va_up f a v a = v := fun f v => by unfold va_up; rw [if_pos rfl]
      refine ⟨a, key, x.length, by unfold va_up; rw [if_pos rfl], ⟨hk, hx, e1, pw_w_wf x 0 0 (fun j hj => by rw [Nat.zero_add]; exact ec j hj) hw⟩, ⟨ea _ _, fun k hk' => ?_⟩, ea _ _, by rw [ea, e2]⟩
      rw [ea, hg k hk', ec k hk']
    · obtain ⟨q, ky, cnt, g1, g2, g3, g4, g5⟩ := t4 t (by omega)
      refine ⟨q, ky, cnt, by unfold va_up; rw [if_neg e]; exact g1, ⟨g2.1, g2.2.1, by rw [(hd t (by omega)).1]; exact g2.2.2.1, ?_⟩, ⟨g3.1, fun k hk' => ?_⟩, g4, by rw [(hd t (by omega)).2]; exact g5⟩
      · have hcn := g2.2.1
        have : ∀ m k top, k + m ≤ 95 → pe_wf (fun j => now (109 + 96 * t + j)) (if ky = 2 then 3 else 2) m k top → pe_wf (fun j => px_row now tn key lv x (109 + 96 * t + j)) (if ky = 2 then 3 else 2) m k top := by
          intro m
          induction m with
          | zero => intro k top _ h; exact h
          | succ m ih =>
            intro k top hk' h
            unfold pe_wf at h ⊢
            rw [hcd t k (by omega) (by omega)]
            by_cases c1 : now (109 + 96 * t + k) < 0
            · rw [if_pos c1] at h ⊢
              by_cases c2 : now (109 + 96 * t + k) = -10
              · rw [if_pos c2] at h ⊢
                exact ⟨h.1, ih _ _ (by omega) h.2⟩
              · rw [if_neg c2] at h ⊢
                exact ⟨h.1, h.2.1, ih _ _ (by omega) h.2.2⟩
            · rw [if_neg c1] at h ⊢
              exact ⟨h.1, ih _ _ (by omega) h.2⟩
        exact this cnt 0 0 (by omega) g2.2.2.2
      · rw [hcd t k (by omega) (by have := g2.2.1; omega)]
        exact g3.2 k hk'
  · unfold pr_la pr_ct
    rw [e1, pe_div hk hx, hct k tn (by omega)]
    by_cases e : key = k
    · subst e
      rw [pn_upd_self, if_pos rfl, if_neg (nI_pos (by omega))]
    · have hne : ¬ nI key = nI k := by rw [nI_eq (by omega) (by omega)]; exact e
      rw [pn_upd_ne (fun z => e z.symm), t5 k hkk]
      simp only [if_neg hne]
      rfl
theorem j_text (H : pr_rel now n tn Sz Tc Fa Pa Py Mi Me Sr Z Ki He Do Tx La LT pk pv pn tc) {Ln Tp : Int32} {By Tap : Nat → Int32} (hf : pf_rel Ln Tp By Tap) {Kys Kat : Nat → Int32} (hat : ∀ w, w < 4 → Kat w = nI (4 * w)) (hky : ∀ w k, w < 3 → k < 4 → Kys (4 * w + k) = nI (pv_ky w k)) (eKy eSo : Int32) (eCo : Nat → Int32) (pa : Nat → Nat) (mFr mTk mVa mKe mCs mAt mHd : Int32) (mCod mWts mTes : Nat → Int32) :
    wp_X6_text Ln eKy eSo By eCo Tc Tx La LT pk pv pa pn tc (fun r ln' _ _ _ _ _ _ _ _ _ _ Tc' Tx' La' LT' pk' pv' _ pn' tc' => wp_X7_text Tp mFr mTk mVa mKe mCs mAt mHd now Tap Kys Kat mCod mWts mTes (fun r' tp' _ _ _ _ _ _ _ _ _ now' _ _ _ => r = r' ∧ ln' = 0 ∧ tp' = 0 ∧ pr_pool LT pk pv pn tc LT' pk' pv' pn' tc' ∧ ∃ tn', pr_rel now' n tn' Sz Tc' Fa Pa Py Mi Me Sr Z Ki He Do Tx' La' LT' pk' pv' pn' tc')) := by
  obtain ⟨⟨b1, b2, b3, b4, b5⟩, ⟨s1, s2, s3, s4, s5, s6, s7, s8⟩, py, pl, ⟨⟨t1, t2⟩, t3, t4, t5⟩⟩ := pr_rel_iff.mp H
  obtain ⟨L, hL, rfl, rfl, hbts⟩ := hf
  obtain ⟨b, hb⟩ : ∃ b : Nat → Nat, ∀ k, k < L → b k < 256 ∧ By k = nI (b k) ∧ Tap k = nI (b k) := by
    refine ⟨fun k => (By k).toNatClampNeg, fun k hk => ?_⟩
    obtain ⟨v, hv, e1, e2⟩ := hbts k hk
    show (By k).toNatClampNeg < 256 ∧ By k = nI (By k).toNatClampNeg ∧ Tap k = nI (By k).toNatClampNeg
    rw [e1, pn_cl (by omega)]
    exact ⟨hv, rfl, e2⟩
  have hB : pv_by By b L := fun k hk => ⟨(hb k hk).1, (hb k hk).2.1⟩
  have hT : pv_by Tap b L := fun k hk => ⟨(hb k hk).1, (hb k hk).2.2⟩
  obtain ⟨p1, p2, -, -⟩ := pv_st_p (b := b) (L := L) (e := 0) (Nat.zero_le _)
  have hpool := pr_pool_rf LT pk pv pn tc
  unfold wp_X6_text wp_X0_readTape
  refine sp_X0_moveOn (e := 0) hL hB (Nat.zero_le _) (sp_X0_readKey hL hB p2 (fun w hw hi => pbT' rfl ?_) (fun hn ky ed so => pbF' (by grind [pg_n]) ?_))
  · -- a key
    obtain ⟨hs0, htk0, hen0, hbs⟩ := hi
    obtain ⟨e1, e2, _⟩ := pv_en_p (b := b) hs0
    obtain ⟨a1, a2, _⟩ := pv_st_p (b := b) e2
    have hs1 : pv_nx b L (pv_st b L 0) ≤ L ∧ 4 ≤ pv_nx b L (pv_st b L 0) := by unfold pv_nx; omega
    have hsim := (sim_all (nm := if w = 2 then 3 else 2) hL hB hT (show w ≤ 2 by omega) rfl 120).2.2.2 0 (by omega) [] 0 0 0 [] (fun _ => 0) (pv_nx b L (pv_st b L 0)) hs1.1 (by show 0 + 0 + 4 ≤ _; omega) rfl (by omega) (by omega) (Or.inl rfl) (Or.inl rfl) (fun _ => rfl) (by omega)
    -- the reference, up to the E
    have ref : ∀ (Q : Int32 → Int32 → Int32 → Int32 → Int32 → Int32 → Int32 → Int32 → Int32 → Int32 → Int32 → (Nat → Int32) → (Nat → Int32) → (Nat → Int32) → (Nat → Int32) → Prop),
        (pw_R b L w Tap (fun r_21 w_22 w_23 w_24 w_25 w_26 w_27 w_28 w_29 w_30 w_31 w_32 => ((r_21 = 0 → jp_X7_text_33 Q 0 (nI L) w_22 w_23 w_24 w_25 w_26 (nI w) w_27 w_28 w_29 now w_30 w_31 w_32) ∧ (¬ (r_21 = 0) → jp_X7_text_33 Q 1 (nI L) w_22 w_23 w_24 w_25 w_26 (nI w) w_27 w_28 w_29 now w_30 w_31 w_32))) 0 1 [] 0 [] (fun _ => 0) (pv_nx b L (pv_st b L 0))) → wp_X7_text (nI L) mFr mTk mVa mKe mCs mAt mHd now Tap Kys Kat mCod mWts mTes Q := by
      intro Q hR
      unfold wp_X7_text
      refine sp_X7_go (e := 0) hL hT (Nat.zero_le _) (Or.inl ⟨rfl, rfl⟩) (fun va' en' g1 g2 => ?_)
      refine sp_X7_takesKey hL hT p2 g1 hat hky (fun w' hw' hi' => ?_) (fun hn => absurd ⟨hs0, htk0, hen0, hbs⟩ (hn w hw))
      have hww : w' = w := by
        have h0 := hi'.2.2.2 0 (by decide)
        have h0' := hbs 0 (by decide)
        rw [h0] at h0'
        have c1 : w' = 0 ∨ w' = 1 ∨ w' = 2 := by omega
        have c2 : w = 0 ∨ w = 1 ∨ w = 2 := by omega
        rcases c1 with rfl | rfl | rfl <;> rcases c2 with rfl | rfl | rfl <;> first | rfl | exact absurd h0' (by decide)
      subst hww
      refine sp_X7_go hL hT e2 (g1 hs0) (fun va2 en2 g3 g4 => pb1 ?_)
      unfold wp_X7_takesE
      obtain ⟨m, hm⟩ := hR
      refine ⟨m, hm va2 en2 mCod mWts (upd mTes 0 0) g3 g4 (fun k hk => absurd hk (by show ¬ k < 0; omega)) True.intro (fun q hq => ?_)⟩
      obtain rfl : q = 0 := by omega
      exact pn_upd_self
    have no33 : ∀ (f : Nat) (Q : Int32 → Int32 → Int32 → Int32 → Int32 → Int32 → Int32 → Int32 → Int32 → Int32 → Int32 → (Nat → Int32) → (Nat → Int32) → (Nat → Int32) → (Nat → Int32) → Prop), (∀ tp nx fr tk va en ke cs at' hd cod wts tes, tp = 0 → Q (-100 - nI f) tp nx fr tk va en ke cs at' hd now cod wts tes) → pw_F (fun r_21 w_22 w_23 w_24 w_25 w_26 w_27 w_28 w_29 w_30 w_31 w_32 => ((r_21 = 0 → jp_X7_text_33 Q 0 (nI L) w_22 w_23 w_24 w_25 w_26 (nI w) w_27 w_28 w_29 now w_30 w_31 w_32) ∧ (¬ (r_21 = 0) → jp_X7_text_33 Q 1 (nI L) w_22 w_23 w_24 w_25 w_26 (nI w) w_27 w_28 w_29 now w_30 w_31 w_32))) f := by
      intro f Q hq nx tk va en cs at' hd cod wts tes
      refine pb0 ?_
      unfold jp_X7_text_33
      exact pb0' (hq _ _ _ _ _ _ _ _ _ _ _ _ _ rfl)
    unfold pj_L at hsim
    rcases hsim with ⟨f, hfL, g1, g2⟩ | ⟨s', a, lv', o2, pend, te', w1, w2, g1, g2, g3, g4, g5, g6, g7, g8, g9, g10⟩
    · -- a fault
      refine g1 _ (fun cc lv ob on st ed so co hcc => ?_) eCo (fun k hk => absurd hk (by show ¬ k < 0; omega))
      unfold jp_X0_readTape_53
      refine pbF' (by grind [pg_n]) (pbF (by grind [pg_n]) (ref _ (g2 _ (no33 f _ (fun tp nx fr tk va en ke cs at' hd cod wts tes h0 => ⟨rfl, rfl, h0, hpool, tn, H⟩)))))
    · rw [List.nil_append] at g1 g4
      rw [List.append_nil] at g10
      have hal : a.length = o2.length + pend.length := by rw [g4]; exact List.length_append
      have hpop : pw_pop 0 pend = (pend, []) := by
        have := pw_pop_pend (r := 0) (W := []) (Or.inl rfl) pend (fun p hp => ⟨(g5 p hp).1, by omega⟩)
        rw [List.append_nil] at this
        exact this
      refine g1 _ (fun Co hO => ?_) eCo (fun k hk => absurd hk (by show ¬ k < 0; omega))
      unfold jp_X0_readTape_53
      refine pbT' rfl ?_
      by_cases hend : pv_tk b L s' = 0
      · -- all of the tape
        have hcs := (pv_cs_tk (b := b) (L := L) s').2.2.mpr hend
        refine pbT (by rw [hcs]; rfl) (pbT rfl ?_)
        rw [s2, t2]
        by_cases hfull : tn < 14
        · refine pbT (by grind [pg_n]) ⟨⟨nI_pos (by omega), by rw [pn_cl (by omega)]; omega, by grind [pg_n]⟩, fun a' q' g' hg' ha' => ⟨List.mem_append_right _ (List.mem_singleton.mpr rfl), ?_⟩⟩
          rw [pn_cl (by omega)] at hg' ⊢
          have ea : va_up pk a' (nI w) a' = nI w := by unfold va_up; rw [if_pos rfl]
          unfold wp_X1_appendText
          rw [ea, pn_cl (show tn < 2 ^ 31 by omega), pn_cl (show w < 2 ^ 31 by omega), pn_p1]
          refine pbF (by grind [pg_n]) (pw6T (by grind [pg_n]) (pb1 ⟨pn_in hfull (by decide), pn_in hw (by decide), ?_⟩))
          have HR := pr_text (lv := lv') (x := a) (g := g') H hfull (by omega) (show w ≤ 2 by omega) ha' (g2 0) (fun j hj => by rw [hg' j hj]; exact hO j hj)
          refine ref _ (g10 _ (rs_end hend (by omega) (fun nx fr tk va en hd cod wts tes hC => pb1 ?_)))
          rw [hpop, ← g4] at hC ⊢
          exact sp_X7_text_33 t2 hfull (by omega) (by omega) hC (fun tp nx fr tk va en ke cs at' hd cod wts tes h0 => ⟨rfl, rfl, h0, pr_pool_up ha' _ _ _ _, tn + 1, HR⟩)
        · refine pbF (by grind [pg_n]) (ref _ (g10 _ (rs_end hend (by omega) (fun nx fr tk va en hd cod wts tes hC => pb1 ?_))))
          unfold jp_X7_text_33
          refine pb1' (pbT' ?_ ⟨rfl, rfl, rfl, hpool, tn, ?_⟩)
          · rw [t2, show tn = 14 by omega]; rfl
          · rw [← t2, ← s2]; exact H
      · -- something behind it
        have hcs : ¬ nI (pv_cs b L s') = 3 := by
          rw [show (3 : Int32) = nI 3 from rfl, pw_cs (by decide)]
          exact fun z => hend ((pv_cs_tk (b := b) (L := L) s').2.2.mp z)
        refine pbF hcs ?_
        unfold wp_X0_setFault
        refine pbT' rfl (pbF (by grind [pg_n]) (ref _ (g10 _ (rs_stop hT (by omega) (by omega) w2 hL (fun z => absurd z hend) (fun _ _ => rfl) (fun l' c z => ?_) (no33 s' _ (fun tp nx fr tk va en ke cs at' hd cod wts tes h0 => ⟨rfl, rfl, h0, hpool, tn, H⟩))))))
        have := g9 l' c z
        rcases this with y | ⟨y1, y2, y3⟩
        · omega
        · exact ⟨y2, y3⟩
  · -- no key
    unfold jp_X0_readTape_53
    refine pbF' (by grind [pg_n]) (pbF (by grind [pg_n]) ?_)
    unfold wp_X7_text
    refine sp_X7_go (e := 0) hL hT (Nat.zero_le _) (Or.inl ⟨rfl, rfl⟩) (fun va' en' g1 g2 => ?_)
    refine sp_X7_takesKey hL hT p2 g1 hat hky (fun w' hw' hi' => absurd hi' (hn w' hw')) (fun _ => pb0 ?_)
    unfold jp_X7_text_33
    exact pb0' ⟨rfl, rfl, rfl, hpool, tn, H⟩
end
