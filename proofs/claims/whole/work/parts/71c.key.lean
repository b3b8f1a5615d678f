/-! PURE: names, the key -/
def pv_ky (w k : Nat) : Nat := if w = 0 then (if k = 0 then 114 else if k = 1 then 105 else if k = 2 then 115 else 107) else if w = 1 then (if k = 0 then 111 else if k = 1 then 100 else if k = 2 then 100 else 115) else (if k = 0 then 116 else if k = 1 then 117 else if k = 2 then 114 else 110)
theorem pv_i2c : ∀ x, x < 256 → rc_i2c (nI x) = nI x := by decide +kernel
theorem pv_i8 : ∀ x, x < 256 → ((104 : Int32) = (nI x).toInt8.toInt32 ↔ x = 104) ∧ ((110 : Int32) = (nI x).toInt8.toInt32 ↔ x = 110) ∧ ((100 : Int32) = (nI x).toInt8.toInt32 ↔ x = 100) ∧ ((109 : Int32) = (nI x).toInt8.toInt32 ↔ x = 109) ∧ ((102 : Int32) = (nI x).toInt8.toInt32 ↔ x = 102) := by decide +kernel
theorem sp_ixS {p3 x4 x5 : Int32} {wj m n : Nat} {c : Int32} {Q : Int32 → Prop} (h3 : ¬ p3 ≤ x5) (hin : vp_in x5 n) (hn : rc_len.getD wj 0 = n) (hc : (rc_byt.getD wj []).getD x5.toNatClampNeg 0 = c) (hq : c = x4 → Q x5) (hr : ¬ c = x4 → lp_J1_indexOfChar_4cfef_7 p3 wj Q m x4 (x5 + 1)) : lp_J1_indexOfChar_4cfef_7 p3 wj Q (m + 1) x4 x5 := by
  show lp_J1_indexOfChar_4cfef_7F p3 wj Q (lp_J1_indexOfChar_4cfef_7 p3 wj Q m) x4 x5
  unfold lp_J1_indexOfChar_4cfef_7F
  rw [hn, hc]
  exact pbF h3 ⟨hin, hr, hq⟩
theorem sp_ixE {p3 x4 x5 : Int32} {wj m : Nat} {Q : Int32 → Prop} (h3 : p3 ≤ x5) (hq : Q (-1)) : lp_J1_indexOfChar_4cfef_7 p3 wj Q (m + 1) x4 x5 := by
  show lp_J1_indexOfChar_4cfef_7F p3 wj Q (lp_J1_indexOfChar_4cfef_7 p3 wj Q m) x4 x5
  unfold lp_J1_indexOfChar_4cfef_7F
  exact pbT h3 hq
theorem sp_ix0 {x wj n : Nat} {Q : Int32 → Prop} (hx : x < 256) (hn : rc_len.getD wj 0 = n) (h2 : 0 < n) (hn3 : n ≤ 3) (h : ∃ m, lp_J1_indexOfChar_4cfef_7 (nI n) wj Q m (nI x).toInt8.toInt32 0) : wp_J0_indexOf_0f7a4 (nI x) wj Q := by
  unfold wp_J0_indexOf_0f7a4 wp_J0_indexOf_7cf53 wp_J0_isLatin1_aae02 wp_J0_length_8abf5 wp_J0_coder_7d493 wp_J1_indexOf_4cfef wp_J1_canEncode_9a6ad wp_J1_indexOfChar_4cfef
  rw [hn]
  have e1 : (nI n) >>> ((0 : Int32) &&& 31) = nI n := by
    have : n = 1 ∨ n = 2 ∨ n = 3 := by omega
    rcases this with rfl | rfl | rfl <;> decide
  have e2 : rc_min (nI n) (nI n) = nI n := by unfold rc_min; split <;> rfl
  have e3 : rc_max (0 : Int32) 0 = 0 := by decide
  simp only [e1, e2, e3]
  refine pb1 (pbF (nI_pos (by omega)) (pbF (by grind [pg_n]) (pb1' (pbT (by grind [pg_n]) ?_))))
  exact h
theorem sp_idx {x key : Nat} {Q : Int32 → Prop} (hx : x < 256) (hk : key ≤ 2) (h1 : ∀ j, pv_nm key x = some j → Q (nI j)) (h0 : pv_nm key x = none → Q (-1)) : wp_J0_indexOf_0f7a4 (nI x) (3 + key) Q := by
  obtain ⟨i1, i2, i3, i4, i5⟩ := pv_i8 x hx
  unfold pv_nm at h1 h0
  have : key = 0 ∨ key = 1 ∨ key = 2 := by omega
  rcases this with rfl | rfl | rfl
  · refine sp_ix0 (n := 2) hx rfl (by decide) (by decide) ⟨3, ?_⟩
    refine sp_ixS (n := 2) (c := 104) (by decide) (pn_in (a := 0) (by decide) (by decide)) rfl rfl (fun e => h1 0 (by grind)) (fun e => ?_)
    refine sp_ixS (x5 := 1) (n := 2) (c := 110) (by decide) (pn_in (a := 1) (by decide) (by decide)) rfl rfl (fun e2 => h1 1 (by grind)) (fun e2 => ?_)
    exact sp_ixE (by decide) (h0 (by grind))
  · refine sp_ix0 (n := 2) hx rfl (by decide) (by decide) ⟨3, ?_⟩
    refine sp_ixS (n := 2) (c := 100) (by decide) (pn_in (a := 0) (by decide) (by decide)) rfl rfl (fun e => h1 0 (by grind)) (fun e => ?_)
    refine sp_ixS (x5 := 1) (n := 2) (c := 109) (by decide) (pn_in (a := 1) (by decide) (by decide)) rfl rfl (fun e2 => h1 1 (by grind)) (fun e2 => ?_)
    exact sp_ixE (by decide) (h0 (by grind))
  · refine sp_ix0 (n := 3) hx rfl (by decide) (by decide) ⟨4, ?_⟩
    refine sp_ixS (n := 3) (c := 102) (by decide) (pn_in (a := 0) (by decide) (by decide)) rfl rfl (fun e => h1 0 (by grind)) (fun e => ?_)
    refine sp_ixS (x5 := 1) (n := 3) (c := 110) (by decide) (pn_in (a := 1) (by decide) (by decide)) rfl rfl (fun e2 => h1 1 (by grind)) (fun e2 => ?_)
    refine sp_ixS (x5 := 2) (n := 3) (c := 109) (by decide) (pn_in (a := 2) (by decide) (by decide)) rfl rfl (fun e2 => h1 2 (by grind)) (fun e3 => ?_)
    exact sp_ixE (by decide) (h0 (by grind))
theorem pv_chr {c : Int32} {n wj : Nat} {p1 : Int32} {Q : Int32 → Prop} (h0 : ¬ p1 < 0) (h1 : p1 < nI n) (hn : rc_len.getD wj 0 = n) (hin : vp_in p1 n) (hc : rc_i2c (((rc_byt.getD wj []).getD p1.toNatClampNeg 0) &&& 255) = c) (hb : narrow .char (.int c) = .int c) (hq : Q c) : wp_J0_charAt_5068e p1 wj Q := by
  unfold wp_J0_charAt_5068e wp_J0_isLatin1_aae02 wp_J1_charAt_3b067 wp_J0_checkIndex_df160 wp_J3_checkIndex_8e157 wp_J3_checkIndex_8e157_n
  rw [hn, hc]
  exact pb1 ⟨pbF h0 (pbT h1 ⟨hin, hb, hb, hq⟩), fun _ => pbF h0 (pbT h1 ⟨hin, hb, hb, hq⟩)⟩
theorem sp_chr {w k : Nat} {Q : Int32 → Prop} (hw : w < 3) (hk : k < 4) (hq : Q (nI (pv_ky w k))) : wp_J0_charAt_5068e (nI k) w Q := by
  have hw : w = 0 ∨ w = 1 ∨ w = 2 := by omega
  have hk4 := hk
  have hk : k = 0 ∨ k = 1 ∨ k = 2 ∨ k = 3 := by omega
  rcases hw with rfl | rfl | rfl <;> rcases hk with rfl | rfl | rfl | rfl <;> exact pv_chr (n := 4) (by decide) (by decide) rfl (pn_in hk4 (by decide)) (by decide) (by decide) hq
theorem sp_len {w : Nat} {Q : Int32 → Prop} (hw : w < 3) (hq : Q (nI 4)) : wp_J0_length_8abf5 w Q := by
  unfold wp_J0_length_8abf5 wp_J0_coder_7d493
  have hw : w = 0 ∨ w = 1 ∨ w = 2 := by omega
  rcases hw with rfl | rfl | rfl <;> exact hq
section
variable {b : Nat → Nat} {L : Nat}
def pv_is (b : Nat → Nat) (L s w : Nat) : Prop := s < L ∧ pv_tk b L s = 1 ∧ pv_en b L s - s = 4 ∧ ∀ k, k < 4 → b (s + k) = pv_ky w k
theorem pv_ky_lt (w k : Nat) : pv_ky w k < 256 := by unfold pv_ky; grind
theorem pv_cs_tk (s : Nat) : (pv_cs b L s = 0 ↔ pv_tk b L s = 1) ∧ (pv_cs b L s = 2 ↔ pv_tk b L s = 3) ∧ (pv_cs b L s = 3 ↔ pv_tk b L s = 0) := by
  unfold pv_cs pv_tk
  have := pv_so3 (b s)
  grind
theorem sp_X0_isWord {s w : Nat} {By : Nat → Int32} {Q : Int32 → Prop} (hL : L ≤ 96) (hB : pv_by By b L) (hs : s ≤ L) (hw : w < 3) (h1 : pv_is b L s w → Q 1) (h0 : ¬ pv_is b L s w → Q 0) : wp_X0_isWord (nI s) (nI (pv_en b L s)) (nI (pv_cs b L s)) By w Q := by
  unfold wp_X0_isWord
  have hcs : pv_cs b L s ≤ 4 := by unfold pv_cs; have := pv_so3 (b s); grind
  obtain ⟨t1, t2, t3⟩ := pv_cs_tk (b := b) (L := L) s
  unfold pv_is at h1 h0
  refine ⟨fun y => h0 (fun z => y (by rw [t1.mpr z.2.1]; rfl)), fun y => sp_len hw ⟨fun z => ?_, fun z => h0 (fun q => z ?_)⟩⟩
  · rw [show (0 : Int32) = nI 0 from rfl, nI_eq (by omega) (by omega)] at y
    have hsL : s < L := by
      by_cases h : s < L
      · exact h
      · unfold pv_cs at y; rw [if_pos (by omega)] at y; omega
    obtain ⟨c1, c2, _⟩ := pv_en_p (b := b) hsL
    have hlen : pv_en b L s - s = 4 := by grind [pg_n]
    have Lp : ∀ (m k : Nat), k + m = 4 → (∀ j, j < k → b (s + j) = pv_ky w j) → lp_X0_isWord_27 (nI s) By w Q (m + 1) (nI k) := by
      intro m
      induction m with
      | zero =>
        intro k hk hj
        show lp_X0_isWord_27F (nI s) By w Q _ (nI k)
        unfold lp_X0_isWord_27F
        exact sp_len hw (pbT (by grind [pg_n]) (h1 ⟨hsL, t1.mp y, hlen, fun j hj4 => hj j (by omega)⟩))
      | succ m ih =>
        intro k hk hj
        show lp_X0_isWord_27F (nI s) By w Q (lp_X0_isWord_27 (nI s) By w Q (m + 1)) (nI k)
        unfold lp_X0_isWord_27F
        obtain ⟨k3, k4⟩ := hB (s + k) (by omega)
        rw [nI_add, pn_cl (by omega), k4, pn_p1]
        have := pv_ky_lt w k
        refine sp_len hw (pbF (by grind [pg_n]) ⟨pn_in (by omega) (by decide), sp_chr hw (by omega) ⟨fun e => ih (k + 1) (by omega) (fun j hj2 => ?_), fun e => h0 (fun q => e (by rw [q.2.2.2 k (by omega)]))⟩⟩)
        by_cases ej : j = k
        · subst ej
          rw [nI_eq (by omega) (by omega)] at e
          exact e
        · exact hj j (by omega)
    exact ⟨5, Lp 4 0 (by omega) (fun j hj => absurd hj (by omega))⟩
  · obtain ⟨c1, c2, _⟩ := pv_en_p (b := b) q.1
    have := q.2.2.1
    grind [pg_n]
theorem sp_X0_readKey {s : Nat} {Ky : Int32} {By : Nat → Int32} {Q : Int32 → Int32 → Int32 → Int32 → Int32 → Prop} (hL : L ≤ 96) (hB : pv_by By b L) (hs : s ≤ L)
    (h1 : ∀ w, w < 3 → pv_is b L s w → Q (-1000000005) (nI w) (nI (pv_st b L (pv_en b L s))) (nI (pv_en b L (pv_st b L (pv_en b L s)))) (nI (pv_cs b L (pv_st b L (pv_en b L s)))))
    (h0 : (∀ w, w < 3 → ¬ pv_is b L s w) → ∀ ky ed so, Q (nI s) ky (nI s) ed so) : wp_X0_readKey (nI L) (-1000000005) Ky (nI s) (nI (pv_en b L s)) (nI (pv_cs b L s)) By Q := by
  unfold wp_X0_readKey
  have mv : ∀ w, w < 3 → pv_is b L s w → ∀ Q' : Int32 → Int32 → Int32 → Prop, Q' (nI (pv_st b L (pv_en b L s))) (nI (pv_en b L (pv_st b L (pv_en b L s)))) (nI (pv_cs b L (pv_st b L (pv_en b L s)))) → wp_X0_moveOn (nI L) (nI (pv_en b L s)) (nI (pv_cs b L s)) By Q' := fun w hw hi Q' hq => sp_X0_moveOn hL hB (pv_en_p (b := b) hi.1).2.1 hq
  refine sp_X0_isWord hL hB hs (by decide) (fun i0 => pb1 (mv 0 (by decide) i0 _ (h1 0 (by decide) i0))) (fun n0 => pb0 ?_)
  refine sp_X0_isWord hL hB hs (by decide) (fun i0 => pb1 (mv 1 (by decide) i0 _ (h1 1 (by decide) i0))) (fun n1 => pb0 ?_)
  refine sp_X0_isWord hL hB hs (by decide) (fun i0 => pb1 (mv 2 (by decide) i0 _ (h1 2 (by decide) i0))) (fun n2 => pb0 ?_)
  unfold wp_X0_setFault
  refine pbT' rfl (h0 (fun w hw => ?_) _ _ _)
  have : w = 0 ∨ w = 1 ∨ w = 2 := by omega
  rcases this with rfl | rfl | rfl
  · exact n0
  · exact n1
  · exact n2
theorem sp_X7_takesKey {s : Nat} {va en Ke : Int32} {Tap Kys Kat : Nat → Int32} {Q : Int32 → Int32 → Int32 → Int32 → Int32 → Int32 → Int32 → Prop} (hL : L ≤ 96) (hB : pv_by Tap b L) (hs : s ≤ L) (hed : s < L → pv_ed b (pv_en b L s) en) (hat : ∀ w, w < 4 → Kat w = nI (4 * w)) (hky : ∀ w k, w < 3 → k < 4 → Kys (4 * w + k) = nI (pv_ky w k))
    (h1 : ∀ w, w < 3 → pv_is b L s w → wp_X7_go (nI L) (nI (pv_en b L s)) (nI s) (nI (pv_tk b L s)) va en Tap (fun a c d e f => Q 1 a c d e f (nI w)))
    (h0 : (∀ w, w < 3 → ¬ pv_is b L s w) → Q 0 (nI (pv_en b L s)) (nI s) (nI (pv_tk b L s)) va en Ke) : wp_X7_takesKey (nI L) (nI (pv_en b L s)) (nI s) (nI (pv_tk b L s)) va en Ke Tap Kys Kat Q := by
  have htk4 : pv_tk b L s ≤ 4 := by unfold pv_tk; grind
  unfold wp_X7_takesKey
  refine ⟨fun y => ⟨4, ?_⟩, fun y => h0 (fun w _ q => y (by rw [q.2.1]; rfl))⟩
  have htk : pv_tk b L s = 1 := by
    rw [show (1 : Int32) = nI 1 from rfl, nI_eq (by omega) (by omega)] at y
    exact y
  have hsL : s < L := by
    by_cases h : s < L
    · exact h
    · unfold pv_tk at htk; rw [if_pos (by omega)] at htk; omega
  obtain ⟨c1, c2, _⟩ := pv_en_p (b := b) hsL
  have Lp : ∀ (m w : Nat), w + m = 3 → (∀ w', w' < w → ¬ pv_is b L s w') → lp_X7_takesKey_12 (nI L) Tap Kys Kat Q (m + 1) (nI w) (nI (pv_en b L s)) (nI s) (nI (pv_tk b L s)) va en Ke := by
    intro m
    induction m with
    | zero =>
      intro w hw hn
      show lp_X7_takesKey_12F (nI L) Tap Kys Kat Q _ (nI w) (nI (pv_en b L s)) (nI s) (nI (pv_tk b L s)) va en Ke
      unfold lp_X7_takesKey_12F
      exact pbT (by grind [pg_n]) (h0 (fun w' hw' => hn w' (by omega)))
    | succ m ih =>
      intro w hw hn
      show lp_X7_takesKey_12F (nI L) Tap Kys Kat Q (lp_X7_takesKey_12 (nI L) Tap Kys Kat Q (m + 1)) (nI w) (nI (pv_en b L s)) (nI s) (nI (pv_tk b L s)) va en Ke
      unfold lp_X7_takesKey_12F
      rw [pn_p1, pn_cl (show w + 1 < 2 ^ 31 by omega), pn_cl (show w < 2 ^ 31 by omega), hat w (by omega), hat (w + 1) (by omega), show nI (4 * (w + 1)) - nI (4 * w) = nI 4 from by rw [pk_sub (by omega)]; congr 1; omega]
      have next : ¬ pv_is b L s w → lp_X7_takesKey_12 (nI L) Tap Kys Kat Q (m + 1) (nI w + 1) (nI (pv_en b L s)) (nI s) (nI (pv_tk b L s)) va en Ke := by
        intro h
        rw [pn_p1]
        refine ih (w + 1) (by omega) (fun w' hw' => ?_)
        by_cases e : w' = w
        · subst e; exact h
        · exact hn w' (by omega)
      have nojp : ¬ pv_is b L s w → jp_X7_takesKey_106 (nI L) Tap (lp_X7_takesKey_12 (nI L) Tap Kys Kat Q (m + 1)) Q (nI w) 0 (nI (pv_en b L s)) (nI s) (nI (pv_tk b L s)) va en Ke := by
        intro h
        unfold jp_X7_takesKey_106
        exact pb0 (next h)
      have S : ∀ (k : Nat) (x2 x3 x4 : Int32), lp_X7_takesKey_55 (nI L) Tap Kys Kat (lp_X7_takesKey_12 (nI L) Tap Kys Kat Q (m + 1)) Q (k + 1) (nI w) x2 x3 x4 (nI (pv_en b L s)) (nI s) (nI (pv_tk b L s)) va en Ke = lp_X7_takesKey_55F (nI L) Tap Kys Kat (lp_X7_takesKey_12 (nI L) Tap Kys Kat Q (m + 1)) Q (lp_X7_takesKey_55 (nI L) Tap Kys Kat (lp_X7_takesKey_12 (nI L) Tap Kys Kat Q (m + 1)) Q k) (nI w) x2 x3 x4 (nI (pv_en b L s)) (nI s) (nI (pv_tk b L s)) va en Ke := fun _ _ _ _ => rfl
      have fail : ∀ (k : Nat) (x4 : Int32), ¬ pv_is b L s w → lp_X7_takesKey_55 (nI L) Tap Kys Kat (lp_X7_takesKey_12 (nI L) Tap Kys Kat Q (m + 1)) Q (k + 1) (nI w) (nI 4) 0 x4 (nI (pv_en b L s)) (nI s) (nI (pv_tk b L s)) va en Ke := by
        intro k x4 h
        rw [S]
        unfold lp_X7_takesKey_55F
        exact ⟨fun _ => nojp h, fun _ => pb0 (nojp h)⟩
      refine pbF (by grind [pg_n]) ⟨pn_in (by omega) (by decide), pn_in (by omega) (by decide), fun z => ⟨1, fail 0 0 (fun q => z ?_)⟩, fun z => ⟨5, ?_⟩⟩
      · have := q.2.2.1
        grind [pg_n]
      · have hlen : pv_en b L s - s = 4 := by grind [pg_n]
        have L2 : ∀ (m2 k : Nat), k + m2 = 4 → (∀ j, j < k → b (s + j) = pv_ky w j) → lp_X7_takesKey_55 (nI L) Tap Kys Kat (lp_X7_takesKey_12 (nI L) Tap Kys Kat Q (m + 1)) Q (m2 + 1) (nI w) (nI 4) 1 (nI k) (nI (pv_en b L s)) (nI s) (nI (pv_tk b L s)) va en Ke := by
          intro m2
          induction m2 with
          | zero =>
            intro k hk hj
            rw [S]
            unfold lp_X7_takesKey_55F
            refine pbT (by grind [pg_n]) ?_
            unfold jp_X7_takesKey_106
            exact pb1 (h1 w (by omega) ⟨hsL, htk, hlen, fun j hj4 => hj j (by omega)⟩)
          | succ m2 ih2 =>
            intro k hk hj
            rw [S]
            unfold lp_X7_takesKey_55F
            obtain ⟨k3, k4⟩ := hB (s + k) (by omega)
            have := pv_ky_lt w k
            rw [nI_add, pn_cl (show s + k < 2 ^ 31 by omega), k4, pn_cl (show w < 2 ^ 31 by omega), hat w (by omega), nI_add, pn_cl (show 4 * w + k < 2 ^ 31 by omega), hky w k (by omega) (by omega), pn_p1]
            refine pbF (by grind [pg_n]) (pb1 ⟨pn_in (by omega) (by decide), pn_in (by omega) (by decide), pn_in (by omega) (by decide), fun e => fail m2 _ (fun q => e (by rw [q.2.2.2 k (by omega)])), fun e => ih2 (k + 1) (by omega) (fun j hj2 => ?_)⟩)
            by_cases ej : j = k
            · subst ej
              rw [nI_eq (by omega) (by omega)] at e
              exact e
            · exact hj j (by omega)
        exact L2 4 0 (by omega) (fun j hj => absurd hj (by omega))
  exact Lp 3 0 (by omega) (fun w hw => absurd hw (by omega))
end
