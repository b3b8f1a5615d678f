/-! PURE: the reference's tree -/
/-- the steps below s, from the greatest down: what is best so far, and by which step -/
def pt_fb (ok : Nat → Bool) (v : Nat → Nat) : Nat → Option (Nat × Nat) → Option (Nat × Nat)
  | 0, st => st
  | s + 1, st => pt_fb ok v s (if ok s = true ∧ (∀ b, st = some b → v s ≤ b.1) then some (v s, s) else st)
theorem pt_fb_some {ok : Nat → Bool} {v : Nat → Nat} {s c e : Nat} : pt_fb ok v (s + 1) (some (c, e)) = pt_fb ok v s (if ok s = true ∧ v s ≤ c then some (v s, s) else some (c, e)) := by
  show pt_fb ok v s _ = _
  congr 1
  by_cases h : ok s = true ∧ v s ≤ c
  · rw [if_pos h, if_pos ⟨h.1, fun b hb => by cases hb; exact h.2⟩]
  · rw [if_neg h, if_neg (fun z => h ⟨z.1, z.2 _ rfl⟩)]
theorem pt_fb_none {ok : Nat → Bool} {v : Nat → Nat} {s : Nat} : pt_fb ok v (s + 1) none = pt_fb ok v s (if ok s = true then some (v s, s) else none) := by
  show pt_fb ok v s _ = _
  congr 1
  by_cases h : ok s = true
  · rw [if_pos h, if_pos ⟨h, fun b hb => by cases hb⟩]
  · rw [if_neg h, if_neg (fun z => h z.1)]
theorem pt_fb_calc (ok : Nat → Bool) (v : Nat → Nat) (d : Bool) (h0 : ok 0 = true) (h1 : ok 1 = true) (h2 : ok 2 = true) (h3 : ok 3 = d) : pt_fb ok v 4 none = some (min (v 2) (min (v 1) (min (v 0) (if d = true then v 3 else v 2))), (let b1 := if v 1 < v 0 then 1 else 0
    let b2 := if v 2 < v b1 then 2 else b1
    if d = true ∧ v 3 < v b2 then 3 else b2)) := by
  simp only
  have fin : ∀ c e, pt_fb ok v 1 (some (c, e)) = if v 0 ≤ c then some (v 0, 0) else some (c, e) := by
    intro c e
    rw [pt_fb_some]
    by_cases h : v 0 ≤ c
    · rw [if_pos ⟨h0, h⟩, if_pos h]; rfl
    · rw [if_neg (fun z => h z.2), if_neg h]; rfl
  have two : ∀ c e, pt_fb ok v 2 (some (c, e)) = if v 1 ≤ c then (if v 0 ≤ v 1 then some (v 0, 0) else some (v 1, 1)) else (if v 0 ≤ c then some (v 0, 0) else some (c, e)) := by
    intro c e
    rw [pt_fb_some]
    by_cases h : v 1 ≤ c
    · rw [if_pos ⟨h1, h⟩, if_pos h, fin]
    · rw [if_neg (fun z => h z.2), if_neg h, fin]
  have thr : ∀ c e, pt_fb ok v 3 (some (c, e)) = if v 2 ≤ c then pt_fb ok v 2 (some (v 2, 2)) else pt_fb ok v 2 (some (c, e)) := by
    intro c e
    rw [pt_fb_some]
    by_cases h : v 2 ≤ c
    · rw [if_pos ⟨h2, h⟩, if_pos h]
    · rw [if_neg (fun z => h z.2), if_neg h]
  rw [pt_fb_none, h3]
  cases d with
  | true =>
    rw [if_pos rfl, thr, two, two]
    grind
  | false =>
    rw [if_neg (by decide), pt_fb_none, if_pos h2, two]
    grind
theorem pt_fb_4 (dn : Nat → Bool) (n : Nat) (f : Nat → Nat) (p : Nat) : pt_fb (fun s => decide (s ≠ 3 ∨ dn p = true)) (pt_on n f p) 4 none = some (pt_best dn n f p, pt_step dn n f p) := by
  rw [pt_fb_calc _ _ (dn p) (by simp) (by simp) (by simp) (by simp)]
  have v3 : pt_on n f p 3 = 0 := rfl
  have v2 : pt_on n f p 2 = f p := rfl
  have v1 : pt_on n f p 1 = if 0 < p then f (p - 1) else 0 := rfl
  have v0 : pt_on n f p 0 = if p + 1 < n then f (p + 1) else 0 := rfl
  have hbest : pt_best dn n f p = min (pt_on n f p 2) (min (pt_on n f p 1) (min (pt_on n f p 0) (if dn p = true then pt_on n f p 3 else pt_on n f p 2))) := by
    unfold pt_best
    rw [v3, v2, v1, v0]
    by_cases h0 : p = 0
    · rw [if_pos (Or.inl h0), if_neg (by omega : ¬ 0 < p)]; omega
    · by_cases h1 : n ≤ p + 1
      · rw [if_pos (Or.inr (Or.inl h1)), if_neg (by omega : ¬ p + 1 < n)]; omega
      · by_cases h2 : dn p = true
        · rw [if_pos (Or.inr (Or.inr h2)), if_pos h2]; omega
        · rw [if_neg (by rintro (z | z | z) <;> contradiction), if_pos (by omega : 0 < p), if_pos (by omega : p + 1 < n), if_neg h2]; omega
  rw [hbest]
  rfl

def pt_bI (o : Option (Nat × Nat)) : Int32 := match o with | none => -1 | some b => nI b.1
/-- the steps from a place, one behind the other -/
theorem pt_l104 {now : Nat → Int32} {n p t o : Nat} {f : Nat → Nat} {dn : Nat → Bool} {K : Int32 → Int32 → Int32 → (Nat → Int32) → (Nat → Int32) → (Nat → Int32) → (Nat → Int32) → (Nat → Int32) → (Nat → Int32) → Prop} {Lea Lat Rsk Stk Fct : Nat → Int32} {rk : Nat}
    (hp : p < n) (hn : n ≤ 24) (h1 : now 1 = nI n) (hd : dn p = decide (now (9 + 3 * p + 2) = 1)) (hf : ∀ i, i < n → Lat i = nI (f i)) (hb : ∀ i, i < n → f i < 2 ^ 31) (hr : Rsk p = nI rk) : ∀ (s : Nat) (st : Option (Nat × Nat)) (Bst : Nat → Int32), s ≤ 4 → (∀ b, st = some b → b.1 < 2 ^ 31 ∧ Bst p = nI b.2) → pt_fb (fun s => decide (s ≠ 3 ∨ dn p = true)) (pt_on n f p) s st = some (pt_best dn n f p, pt_step dn n f p) →
      (∀ Bst', (∀ q, q ≠ p → Bst' q = Bst q) → Bst' p = nI (pt_step dn n f p) → K (nI t) (nI o) (nI (p + 1)) (upd Lea p (nI (rk * o + pt_best dn n f p))) Lat Bst' Rsk Stk Fct) →
      lp_X7_findTree_104 now K (s + 1) (nI t) (nI o) (nI p) (pt_bI st) (nI s - 1) Lea Lat Bst Rsk Stk Fct := by
  have hon : ∀ s, pt_on n f p s < 2 ^ 31 := by
    intro s
    rw [pt_on_go]
    cases hg : pt_go n p s with
    | none => exact (by decide : (0 : Nat) < 2 ^ 31)
    | some q => exact hb q (pt_go_lt hp hg)
  intro s
  induction s with
  | zero =>
    intro st Bst _ hst hfb hK
    show lp_X7_findTree_104F now K (lp_X7_findTree_104 now K 0) (nI t) (nI o) (nI p) (pt_bI st) (nI 0 - 1) Lea Lat Bst Rsk Stk Fct
    have hfb : st = some (pt_best dn n f p, pt_step dn n f p) := hfb
    subst hfb
    unfold lp_X7_findTree_104F
    refine ⟨fun _ => ⟨pn_in (by omega) (by decide), pn_in (by omega) (by decide), ?_⟩, fun z => absurd (by decide) z⟩
    rw [pn_p1, pn_cl (by omega), hr, pk_mul, show pt_bI (some (pt_best dn n f p, pt_step dn n f p)) = nI (pt_best dn n f p) from rfl, nI_add]
    exact hK Bst (fun _ _ => rfl) (hst _ rfl).2
  | succ s ih =>
    intro st Bst hs hst hfb hK
    show lp_X7_findTree_104F now K (lp_X7_findTree_104 now K (s + 1)) (nI t) (nI o) (nI p) (pt_bI st) (nI (s + 1) - 1) Lea Lat Bst Rsk Stk Fct
    unfold lp_X7_findTree_104F
    rw [pn_s1]
    refine ⟨fun z => absurd z (nI_pos (by omega)), fun _ => sp_X7_goes hp hn (by omega) h1 ?_⟩
    have body : jp_X7_findTree_135 now (lp_X7_findTree_104 now K (s + 1)) (nI t) (nI o) (nI p) (pt_bI st) (nI s) (nI (pt_on n f p s)) Lea Lat Bst Rsk Stk Fct := by
      unfold jp_X7_findTree_135
      have hm1 : nI s + (-1) = nI s - 1 := by rw [Int32.sub_eq_add_neg]
      have skip : pt_fb (fun s => decide (s ≠ 3 ∨ dn p = true)) (pt_on n f p) s st = some (pt_best dn n f p, pt_step dn n f p) → lp_X7_findTree_104 now K (s + 1) (nI t) (nI o) (nI p) (pt_bI st) (nI s + (-1)) Lea Lat Bst Rsk Stk Fct := by
        intro h
        rw [hm1]
        exact ih st Bst (by omega) hst h hK
      have take : pt_fb (fun s => decide (s ≠ 3 ∨ dn p = true)) (pt_on n f p) s (some (pt_on n f p s, s)) = some (pt_best dn n f p, pt_step dn n f p) → jp_X7_findTree_160 (lp_X7_findTree_104 now K (s + 1)) (nI t) (nI o) (nI p) (nI s) (nI (pt_on n f p s)) Lea Lat Bst Rsk Stk Fct := by
        intro h
        unfold jp_X7_findTree_160
        rw [hm1, pn_cl (by omega)]
        refine ⟨pn_in (by omega) (by decide), ?_⟩
        refine ih (some (pt_on n f p s, s)) (upd Bst p (nI s)) (by omega) (fun b hb => ?_) h (fun Bst' e1 e2 => ?_)
        · cases hb; exact ⟨hon s, pn_upd_self⟩
        · exact hK Bst' (fun q hq => by rw [e1 q hq, pn_upd_ne hq]) e2
      refine sp_X7_may (dn := dn) (by omega) (by omega) hd (fun hm => ⟨fun z => absurd z (by decide), fun _ => ?_⟩) (fun e1 e2 => ⟨fun _ => ?_, fun z => absurd rfl z⟩)
      · have hok : decide (s ≠ 3 ∨ dn p = true) = true := decide_eq_true hm
        cases st with
        | none =>
          rw [pt_fb_none, if_pos hok] at hfb
          exact ⟨fun _ => take hfb, fun z => absurd (by decide) z⟩
        | some b =>
          obtain ⟨c, e⟩ := b
          rw [pt_fb_some] at hfb
          have hc : c < 2 ^ 31 := (hst _ rfl).1
          refine ⟨fun z => absurd z (nI_pos hc), fun _ => ⟨fun z => ?_, fun z => ?_⟩⟩
          · have z : nI c < nI (pt_on n f p s) := z
            rw [nI_ltI hc (hon s)] at z
            rw [if_neg (fun y => by omega)] at hfb
            exact skip hfb
          · have z : ¬ nI c < nI (pt_on n f p s) := z
            rw [nI_ltI hc (hon s)] at z
            rw [if_pos ⟨hok, by omega⟩] at hfb
            exact take hfb
      · have hok : ¬ decide (s ≠ 3 ∨ dn p = true) = true := by
          intro z
          rcases of_decide_eq_true z with z | z
          · exact z e1
          · rw [e2] at z; cases z
        cases st with
        | none =>
          rw [pt_fb_none, if_neg hok] at hfb
          exact skip hfb
        | some b =>
          obtain ⟨c, e⟩ := b
          rw [pt_fb_some, if_neg (fun y => hok y.1)] at hfb
          exact skip hfb
    cases hg : pt_go n p s with
    | none =>
      have e : pt_on n f p s = 0 := by rw [pt_on_go, hg]; rfl
      rw [e] at body
      exact ⟨fun z => absurd z (by decide), fun _ => body⟩
    | some q =>
      have hq := pt_go_lt hp hg
      have e : pt_on n f p s = f q := by rw [pt_on_go, hg]; rfl
      rw [e] at body
      refine ⟨fun _ => ?_, fun z => absurd (nI_pos' (by omega)) z⟩
      show vp_in (nI q) 24 ∧ jp_X7_findTree_135 now _ (nI t) (nI o) (nI p) _ (nI s) (Lat (nI q).toNatClampNeg) Lea Lat Bst Rsk Stk Fct
      rw [pn_cl (by omega), hf q hq]
      exact ⟨pn_in (by omega) (by decide), body⟩
theorem sp_X7_findTree {now : Nat → Int32} {n tn m : Nat} {rk od : Nat → Nat} {dn : Nat → Bool} {Lea Lat Bst Rsk Stk Fct : Nat → Int32} {Q : (Nat → Int32) → (Nat → Int32) → (Nat → Int32) → (Nat → Int32) → (Nat → Int32) → (Nat → Int32) → Prop}
    (hc : pt_ctx now n tn rk od dn) (hok : pr_ok now n tn) (hm : 1 ≤ m ∧ m ≤ 60)
    (hq : ∀ lea lat bst rsk stk fct, (∀ p, p < n → lea p = nI (pt_v rk od dn n m m p)) → (∀ p, p < n → bst p = nI (pt_step dn n (pt_v rk od dn n m (m - 1)) p)) → Q lea lat bst rsk stk fct) : wp_X7_findTree (nI m) now Lea Lat Bst Rsk Stk Fct Q := by
  obtain ⟨hrk, hod, hr, ho, hdn⟩ := hc
  have hM := hok.M
  have hn := hok.1
  have h1 := hok.2.2.1
  have hpl := hok.2.2.2.2.1
  have hv : ∀ j p, j ≤ 60 → pt_v rk od dn n m j p < 2 ^ 31 := fun j p hj => by
    have := pt_v_le (dn := dn) (n := n) (m := m) hr ho j p
    omega
  have l87 : ∀ (K : Int32 → (Nat → Int32) → (Nat → Int32) → (Nat → Int32) → (Nat → Int32) → (Nat → Int32) → (Nat → Int32) → Prop) (j t : Nat) (lat rsk stk fct : Nat → Int32), j + 1 + t = m → (∀ p, p < n → lat p = nI (pt_v rk od dn n m j p)) → (∀ p, p < n → rsk p = nI (rk p)) →
      (∀ lea bst, (∀ p, p < n → lea p = nI (pt_v rk od dn n m (j + 1) p)) → (∀ p, p < n → bst p = nI (pt_step dn n (pt_v rk od dn n m j) p)) → K (nI t - 1) lea lat bst rsk stk fct) →
      ∀ (w i : Nat) (lea bst : Nat → Int32), i + w = n → (∀ p, p < i → lea p = nI (pt_v rk od dn n m (j + 1) p)) → (∀ p, p < i → bst p = nI (pt_step dn n (pt_v rk od dn n m j) p)) → lp_X7_findTree_87 now K (w + 1) (nI t) (nI (od t)) (nI i) lea lat bst rsk stk fct := by
    intro K j t lat rsk stk fct hj hla hrs hK w
    induction w with
    | zero =>
      intro i lea bst hi h h'
      show lp_X7_findTree_87F now K (lp_X7_findTree_87 now K 0) (nI t) (nI (od t)) (nI i) lea lat bst rsk stk fct
      unfold lp_X7_findTree_87F
      refine ⟨fun _ => ?_, fun z => absurd ?_ z⟩
      · rw [show nI t + (-1) = nI t - 1 from by rw [Int32.sub_eq_add_neg]]
        exact hK lea bst (fun p hp => h p (by omega)) (fun p hp => h' p (by omega))
      · rw [h1]; grind [pg_n]
    | succ w ih =>
      intro i lea bst hi h h'
      show lp_X7_findTree_87F now K (lp_X7_findTree_87 now K (w + 1)) (nI t) (nI (od t)) (nI i) lea lat bst rsk stk fct
      unfold lp_X7_findTree_87F
      refine ⟨fun z => absurd z (by rw [h1]; grind [pg_n]), fun _ => ⟨5, ?_⟩⟩
      refine pt_l104 (f := pt_v rk od dn n m j) (rk := rk i) (by omega) hn h1 (hdn i (by omega)) hla (fun p _ => hv j p (by omega)) (hrs i (by omega)) 4 none bst (by omega) (fun b hb => by cases hb) (pt_fb_4 dn n _ i) (fun bst' e1 e2 => ?_)
      refine ih (i + 1) _ _ (by omega) (fun p hp => ?_) (fun p hp => ?_)
      · by_cases e : p = i
        · subst e
          rw [pn_upd_self]
          show _ = nI (rk p * od (m - 1 - j) + pt_best dn n (pt_v rk od dn n m j) p)
          rw [show m - 1 - j = t by omega]
        · rw [pn_upd_ne e]; exact h p (by omega)
      · by_cases e : p = i
        · subst e; exact e2
        · rw [e1 p e]; exact h' p (by omega)
  have l53 : ∀ (K : Int32 → (Nat → Int32) → (Nat → Int32) → (Nat → Int32) → (Nat → Int32) → (Nat → Int32) → (Nat → Int32) → Prop) (x : Int32) (o : Int32) (lea bst rsk stk fct : Nat → Int32), (∀ lat, (∀ p, p < n → lat p = lea p) → ∃ w, lp_X7_findTree_87 now K w x o 0 lea lat bst rsk stk fct) →
      ∀ (w i : Nat) (lat : Nat → Int32), i + w = n → (∀ p, p < i → lat p = lea p) → lp_X7_findTree_53 now K (w + 1) x o (nI i) lea lat bst rsk stk fct := by
    intro K x o lea bst rsk stk fct hK w
    induction w with
    | zero =>
      intro i lat hi h
      show lp_X7_findTree_53F now K (lp_X7_findTree_53 now K 0) x o (nI i) lea lat bst rsk stk fct
      unfold lp_X7_findTree_53F
      refine ⟨fun _ => hK lat (fun p hp => h p (by omega)), fun z => absurd ?_ z⟩
      rw [h1]; grind [pg_n]
    | succ w ih =>
      intro i lat hi h
      show lp_X7_findTree_53F now K (lp_X7_findTree_53 now K (w + 1)) x o (nI i) lea lat bst rsk stk fct
      unfold lp_X7_findTree_53F
      refine ⟨fun z => absurd z (by rw [h1]; grind [pg_n]), fun _ => ⟨pn_in (by omega) (by decide), pn_in (by omega) (by decide), ?_⟩⟩
      rw [pn_p1, pn_cl (by omega)]
      exact ih (i + 1) _ (by omega) (fun p hp => by grind [pg_u])
  have l40 : ∀ (t j : Nat) (lea lat bst rsk stk fct : Nat → Int32), j + t = m → (∀ p, p < n → rsk p = nI (rk p)) → (∀ p, p < n → lea p = nI (pt_v rk od dn n m j p)) → (t = 0 → ∀ p, p < n → bst p = nI (pt_step dn n (pt_v rk od dn n m (m - 1)) p)) → lp_X7_findTree_40 now Q (t + 1) (nI t - 1) lea lat bst rsk stk fct := by
    intro t
    induction t with
    | zero =>
      intro j lea lat bst rsk stk fct hj _ hle hb
      show lp_X7_findTree_40F now Q (lp_X7_findTree_40 now Q 0) (nI 0 - 1) lea lat bst rsk stk fct
      unfold lp_X7_findTree_40F
      obtain rfl : j = m := by omega
      exact ⟨fun _ => hq _ _ _ _ _ _ hle (hb rfl), fun z => absurd (by decide) z⟩
    | succ t ih =>
      intro j lea lat bst rsk stk fct hj hrs hle hb
      show lp_X7_findTree_40F now Q (lp_X7_findTree_40 now Q (t + 1)) (nI (t + 1) - 1) lea lat bst rsk stk fct
      unfold lp_X7_findTree_40F
      rw [pn_s1]
      refine ⟨fun z => absurd z (nI_pos (by omega)), fun _ => sp_X7_odds hM (fun stk' fct' => ?_)⟩
      rw [hod t (by omega)]
      refine ⟨n + 1, l53 _ _ _ lea bst rsk stk' fct' (fun lat' hlat' => ⟨n + 1, ?_⟩) n 0 lat (by omega) (fun p hp => absurd hp (by omega))⟩
      refine l87 _ j t lat' rsk stk' fct' (by omega) (fun p hp => by rw [hlat' p hp, hle p hp]) hrs (fun lea' bst' e1 e2 => ?_) n 0 lea bst (by omega) (fun p hp => absurd hp (by omega)) (fun p hp => absurd hp (by omega))
      refine ih (j + 1) lea' lat' bst' rsk stk' fct' (by omega) hrs e1 (fun ht => ?_)
      rw [show m - 1 = j by omega]
      exact e2
  have l2 : ∀ (w i : Nat) (lea lat bst rsk stk fct : Nat → Int32), i + w = n → (∀ p, p < i → rsk p = nI (rk p)) → (∀ p, p < i → lea p = 0) → lp_X7_findTree_2 (nI m) now Q (w + 1) (nI i) lea lat bst rsk stk fct := by
    intro w
    induction w with
    | zero =>
      intro i lea lat bst rsk stk fct hi h h'
      show lp_X7_findTree_2F (nI m) now Q (lp_X7_findTree_2 (nI m) now Q 0) (nI i) lea lat bst rsk stk fct
      unfold lp_X7_findTree_2F
      refine ⟨fun _ => ⟨m + 1, l40 m 0 lea lat bst rsk stk fct (by omega) (fun p hp => h p (by omega)) (fun p hp => h' p (by omega)) (fun z => absurd z (by omega))⟩, fun z => absurd ?_ z⟩
      rw [h1]; grind [pg_n]
    | succ w ih =>
      intro i lea lat bst rsk stk fct hi h h'
      show lp_X7_findTree_2F (nI m) now Q (lp_X7_findTree_2 (nI m) now Q (w + 1)) (nI i) lea lat bst rsk stk fct
      unfold lp_X7_findTree_2F
      obtain ⟨k, hh, d, _, g2, _, _, g5, _⟩ := hpl i (by omega)
      refine ⟨fun z => absurd z (by rw [h1]; grind [pg_n]), fun _ => sp_X7_risk hM (by omega) g2 g5 (fun stk' fct' => ⟨pn_in (by omega) (by decide), pn_in (by omega) (by decide), ?_⟩)⟩
      rw [pn_p1, pn_cl (by omega), hrk i (by omega)]
      exact ih (i + 1) _ _ _ _ _ _ (by omega) (fun p hp => by grind [pg_u]) (fun p hp => by grind [pg_u])
  unfold wp_X7_findTree
  exact ⟨n + 1, l2 n 0 Lea Lat Bst Rsk Stk Fct (by omega) (fun p hp => absurd hp (by omega)) (fun p hp => absurd hp (by omega))⟩
