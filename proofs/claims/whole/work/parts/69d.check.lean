/-! PURE: check -/
def pc_chk (n tn many : Nat) (tel : Nat → Int32) : Nat → Nat → (Nat → Int32) → Int32
  | 0, i, _ => if 2 * i = many then 0 else 1 + nI (2 * i)
  | w + 1, i, now => if 2 * i < many ∧ tel (2 * i) = pb_row now n tn 6 then (if 2 * i + 1 < many ∧ tel (2 * i + 1) = pb_row now n tn 7 then pc_chk n tn many tel w (i + 1) (pb_row now n tn) else 1 + nI (2 * i + 1)) else 1 + nI (2 * i)
theorem pc_0 (n tn many : Nat) (tel : Nat → Int32) (i : Nat) (now : Nat → Int32) : pc_chk n tn many tel 0 i now = if 2 * i = many then 0 else 1 + nI (2 * i) := rfl
theorem pc_S (n tn many : Nat) (tel : Nat → Int32) (w i : Nat) (now : Nat → Int32) : pc_chk n tn many tel (w + 1) i now = if 2 * i < many ∧ tel (2 * i) = pb_row now n tn 6 then (if 2 * i + 1 < many ∧ tel (2 * i + 1) = pb_row now n tn 7 then pc_chk n tn many tel w (i + 1) (pb_row now n tn) else 1 + nI (2 * i + 1)) else 1 + nI (2 * i) := rfl
theorem sp_X7_copyAllE {F G : Nat → Int32} {Q : (Nat → Int32) → Prop} (hq : Q (fun k => if k < 1453 then F k else G k)) : wp_X7_copyAll F G Q := by
  have key : ∀ (m i : Nat), i + m = 1453 → lp_X7_copyAll_2 F Q (m + 1) (nI i) (fun k => if k < i then F k else G k) := by
    intro m
    induction m with
    | zero =>
      intro i hi
      show lp_X7_copyAll_2F F Q (lp_X7_copyAll_2 F Q 0) (nI i) _
      unfold lp_X7_copyAll_2F
      obtain rfl : i = 1453 := by omega
      exact pbT (by decide) hq
    | succ m ih =>
      intro i hi
      show lp_X7_copyAll_2F F Q (lp_X7_copyAll_2 F Q (m + 1)) (nI i) _
      unfold lp_X7_copyAll_2F
      refine pbF (by grind [pg_n]) ⟨pn_in (by omega) (by decide), pn_in (by omega) (by decide), ?_⟩
      rw [pn_p1, pn_cl (by omega)]
      have := ih (i + 1) (by omega)
      rw [show (upd (fun k => if k < i then F k else G k) i (F i)) = (fun k => if k < i + 1 then F k else G k) from by funext k; grind [pg_u]]
      exact this
  unfold wp_X7_copyAll
  have := key 1453 0 (by omega)
  rw [show (fun k => if k < 0 then F k else G k) = G from by funext k; rw [if_neg (by omega)]] at this
  exact ⟨1454, this⟩
section
variable {now img : Nat → Int32} {n tn ni ti : Nat} {Sz Tc Fa Pa Py Mi Me Sr Z : Int32} {Ki He Do : Nat → Int32} {Tx : Nat → Option Nat} {La : Nat → Int32} {LT : List Nat} {pk pv : Nat → Int32} {pn : Nat → Nat} {tc : Nat → Nat → Int32}
variable {jSz jTc jFa jPa jPy jMi jMe jSr jZ : Int32} {jKi jHe jDo : Nat → Int32} {jTx : Nat → Option Nat} {jLa : Nat → Int32}
theorem sp_X6_isWaiting {at' many : Nat} {v : Int32} {Wt : Nat → Int32} {Q : Int32 → Prop} (hm : many ≤ 60) (ha : at' ≤ 100) (h1 : at' < many ∧ Wt at' = v → Q 1) (h0 : ¬ (at' < many ∧ Wt at' = v) → Q 0) : wp_X6_isWaiting (nI at') (nI many) v Wt Q := by
  unfold wp_X6_isWaiting
  by_cases h : at' < many
  · refine pbF (by grind [pg_n]) (pbF (by grind [pg_n]) ⟨pn_in (by omega) (by decide), ?_⟩)
    rw [pn_cl (by omega)]
    exact ⟨fun z => h0 (fun y => z y.2), fun z => h1 ⟨h, z⟩⟩
  · exact pbT (by grind [pg_n]) (h0 (fun y => h y.1))
theorem j_check (H : pr_rel now n tn Sz Tc Fa Pa Py Mi Me Sr Z Ki He Do Tx La LT pk pv pn tc) (Kp Ws : Int32) (HI : ¬ Kp = 0 → pr_rel img ni ti jSz jTc jFa jPa jPy jMi jMe jSr jZ jKi jHe jDo jTx jLa LT pk pv pn tc) (p1 : Int32) (Ri Le Lt lea lat bst rsk stk fct asd Wt Tel : Nat → Int32) (hw : ∃ w, w ≤ 60 ∧ Ws = nI w) (he : ∀ k, k < 60 → Wt k = Tel k)
    {qSz qTc qFa qPa qPy qMi qMe qSr qZ : Int32} {qKi qHe qDo : Nat → Int32} {qTx : Nat → Option Nat} {qLa qSk : Nat → Int32} : wp_X6_check p1 Ws Kp Ri Le Lt jSz jTc jFa jPa jPy jMi jMe jSr jZ jKi jHe jDo jTx jLa qSz qTc qFa qPa qPy qMi qMe qSr qZ qKi qHe qDo qTx qLa qSk Wt LT pn tc (fun r Ws' _ _ _ _ _ _ _ _ _ _ _ _ _ _ _ _ _ _ => wp_X7_check p1 Kp Ws now img asd lea lat bst rsk stk fct Tel (fun r' Wg' now' _ _ _ _ _ _ _ => r = r' ∧ Ws' = 0 ∧ Wg' = 0 ∧ pr_rel now' n tn Sz Tc Fa Pa Py Mi Me Sr Z Ki He Do Tx La LT pk pv pn tc)) := by
  obtain ⟨many, hmany, rfl⟩ := hw
  unfold wp_X6_check wp_X7_check
  by_cases hp : 1 ≤ p1 ∧ p1 ≤ 30
  · obtain ⟨m, hm, rfl⟩ := pn_k (x := p1) (m := 30) (by decide) ⟨by grind, hp.2⟩
    refine pw6T hp (pb1' ?_)
    by_cases hk : Kp = 0
    · exact pbT' hk (pw7T hp (pb1' (pbT' hk ⟨rfl, rfl, rfl, H⟩)))
    · have HI := HI hk
      have RI := pr_rel_iff.mp HI
      refine pbF' hk (sp_X1_become RI.2.2.2.2.2.1 (fun Ki' He' Do' Tx' La' g1 g2 g3 => ?_))
      have HG : pr_rel (fun k => if k < 1453 then img k else now k) ni ti jSz jTc jFa jPa jPy jMi jMe jSr jZ Ki' He' Do' Tx' La' LT pk pv pn tc := pr_copied HI (fun k hk => if_pos hk) g1 g2 g3
      obtain ⟨mi, hmi, h3⟩ := (pr_rel_iff.mp HG).1.2.2.1
      generalize hG : (fun k => if k < 1453 then img k else now k) = G at HG h3
      refine pt_weigh HG (fun ri sk' hri => ⟨min m (9999 - mi) + 1, ?_⟩)
      have L6 : ∀ (Q : Int32 → Int32 → (Nat → Int32) → (Nat → Int32) → (Nat → Int32) → Int32 → Int32 → Int32 → Int32 → Int32 → Int32 → Int32 → Int32 → Int32 → (Nat → Int32) → (Nat → Int32) → (Nat → Int32) → (Nat → Option Nat) → (Nat → Int32) → (Nat → Int32) → Prop), (∀ ri le la Sz Tc Fa Pa Py Mi Me Sr Z Ki He Do Tx La sk, Q (pc_chk ni ti many Tel (min m (9999 - mi)) 0 G) 0 ri le la Sz Tc Fa Pa Py Mi Me Sr Z Ki He Do Tx La sk) →
          ∀ (w i : Nat) (now : Nat → Int32) (mi' : Nat) (Fa Py Mi Me Sr Z : Int32) (le la sk : Nat → Int32), pr_rel now ni ti jSz jTc Fa jPa Py Mi Me Sr Z Ki' He' Do' Tx' La' LT pk pv pn tc → (∀ i, i < ni → ri i = pr_risk now ti i) → now 3 = nI mi' → mi' + w ≤ 9999 → i + w ≤ m → (i + w = m ∨ mi' + w = 9999) → pc_chk ni ti many Tel w i now = pc_chk ni ti many Tel (min m (9999 - mi)) 0 G →
          lp_X6_check_60 (nI m) Wt LT pn tc Q (w + 1) (nI many) (nI (2 * i)) (nI i) 0 ri le la jSz jTc Fa jPa Py Mi Me Sr Z Ki' He' Do' Tx' La' sk := by
        intro Q hq w
        induction w with
        | zero =>
          intro i now mi' Fa Py Mi Me Sr Z le la sk H _ h3 _ _ hor hchk
          show lp_X6_check_60F (nI m) Wt LT pn tc Q _ (nI many) (nI (2 * i)) (nI i) 0 ri le la jSz jTc Fa jPa Py Mi Me Sr Z Ki' He' Do' Tx' La' sk
          unfold lp_X6_check_60F
          have s5 := (pr_rel_iff.mp H).2.1.2.2.2.2.1
          have fin : jp_X6_check_139 Q (nI many) (nI (2 * i)) 0 ri le la jSz jTc Fa jPa Py Mi Me Sr Z Ki' He' Do' Tx' La' sk := by
            unfold jp_X6_check_139
            rw [pc_0] at hchk
            rw [← hchk] at hq
            refine ⟨fun z => ?_, fun z => ?_⟩
            · rw [if_neg (fun y => z (by rw [y]))] at hq
              exact hq _ _ _ _ _ _ _ _ _ _ _ _ _ _ _ _ _ _
            · rw [nI_eq (by omega) (by omega)] at z
              rw [if_pos z] at hq
              exact hq _ _ _ _ _ _ _ _ _ _ _ _ _ _ _ _ _ _
          refine ⟨fun _ => fin, fun z => ⟨fun _ => fin, fun z2 => ?_⟩⟩
          rw [s5, h3] at z2
          grind [pg_n]
        | succ w ih =>
          intro i now mi' Fa Py Mi Me Sr Z le la sk H hri h3 hw hi hor hchk
          show lp_X6_check_60F (nI m) Wt LT pn tc Q (lp_X6_check_60 (nI m) Wt LT pn tc Q (w + 1)) (nI many) (nI (2 * i)) (nI i) 0 ri le la jSz jTc Fa jPa Py Mi Me Sr Z Ki' He' Do' Tx' La' sk
          unfold lp_X6_check_60F
          have s5 := (pr_rel_iff.mp H).2.1.2.2.2.2.1
          refine pbF (by grind [pg_n]) (pbF (by rw [s5, h3]; grind [pg_n]) (sp_X6_best H hri h3 (by omega) (fun le la Fa' Py' Mi' Me' Sr' Z' sk' H' => ?_)))
          have s6 := (pr_rel_iff.mp H').2.1.2.2.2.2.2.1
          have s7 := (pr_rel_iff.mp H').2.1.2.2.2.2.2.2.1
          rw [pc_S] at hchk
          refine sp_X6_isWaiting hmany (by omega) (fun h1 => pb1' ?_) (fun h1 => pb0' ?_)
          · rw [if_pos ⟨h1.1, by rw [← he _ (by omega), ← s6]; exact h1.2⟩] at hchk
            rw [show nI (2 * i) + 1 = nI (2 * i + 1) from pn_p1 _]
            refine sp_X6_isWaiting hmany (by omega) (fun h2 => pb1' ?_) (fun h2 => pb0' ?_)
            · rw [if_pos ⟨h2.1, by rw [← he _ (by omega), ← s7]; exact h2.2⟩] at hchk
              rw [show nI (2 * i + 1) + 1 = nI (2 * (i + 1)) from pn_p1 _, pn_p1]
              exact ih (i + 1) (pb_row now ni ti) (mi' + 1) _ _ _ _ _ _ _ _ _ H' (fun i hi => by rw [pb_row_risk]; exact hri i hi) (by rw [pb_row_3, h3, pn_p1]) (by omega) (by omega) (by omega) hchk
            · rw [if_neg (fun y => h2 ⟨y.1, by rw [he _ (by omega), s7]; exact y.2⟩)] at hchk
              rw [← hchk] at hq
              exact hq _ _ _ _ _ _ _ _ _ _ _ _ _ _ _ _ _ _
          · rw [if_neg (fun y => h1 ⟨y.1, by rw [he _ (by omega), s6]; exact y.2⟩)] at hchk
            rw [← hchk] at hq
            exact hq _ _ _ _ _ _ _ _ _ _ _ _ _ _ _ _ _ _
      refine L6 _ (fun ri le la Sz' Tc' Fa' Pa' Py' Mi' Me' Sr' Z' Ki' He' Do' Tx' La' sk => ?_) (min m (9999 - mi)) 0 G mi jFa jPy jMi jMe jSr jZ Le Lt sk' HG hri h3 (by omega) (by omega) (by omega) rfl
      refine pw7T hp (pb1' (pbF' hk (sp_X7_copyAllE (sp_X7_copyAllE ?_))))
      rw [hG, h3]
      refine sp_X7_within ?_
      rw [show pn_hd 0 (nI m) (9999 - nI mi) = nI (min m (9999 - mi)) from by unfold pn_hd; grind [pg_n], show (2 : Int32) * nI (min m (9999 - mi)) = nI (2 * min m (9999 - mi)) from pk_mul 2 _]
      refine ⟨min m (9999 - mi) + 1, ?_⟩
      have okn : ∀ v (now : Nat → Int32) (mi : Nat) (Fa Py Mi Me Sr Z : Int32) (Sz Tc Pa : Int32) (Ki He Do La : Nat → Int32) (Tx : Nat → Option Nat), pr_rel now ni ti Sz Tc Fa Pa Py Mi Me Sr Z Ki He Do Tx La LT pk pv pn tc → now 3 = nI mi → mi + v ≤ 9999 → pr_ok (pb_many ni ti v now) ni ti := by
        intro v
        induction v with
        | zero => intro now mi Fa Py Mi Me Sr Z _ _ _ _ _ _ _ _ H _ _; exact H.1
        | succ v ih =>
          intro now mi Fa Py Mi Me Sr Z _ _ _ _ _ _ _ _ H h3 hv
          exact ih (pb_row now ni ti) (mi + 1) _ _ _ _ _ _ _ _ _ _ _ _ _ _ (pm_rel H h3 (by omega)) (by rw [pb_row_3, h3, pn_p1]) (by omega)
      have L7 : ∀ (Q : Int32 → Int32 → (Nat → Int32) → (Nat → Int32) → (Nat → Int32) → (Nat → Int32) → (Nat → Int32) → (Nat → Int32) → (Nat → Int32) → (Nat → Int32) → Prop) (D : Nat) (asd : Nat → Int32), D ≤ 30 → (∀ G' lea lat bst rsk stk fct, (∀ k, k < 1453 → G' k = asd k) → Q (pc_chk ni ti many Tel D 0 G) 0 G' asd lea lat bst rsk stk fct) →
          ∀ (w i : Nat) (now lea lat bst rsk stk fct : Nat → Int32), (∀ v, v ≤ w → pr_ok (pb_many ni ti v now) ni ti) → i + w = D → pc_chk ni ti many Tel w i now = pc_chk ni ti many Tel D 0 G → lp_X7_check_79 Tel Q (w + 1) (nI many) (nI (2 * D)) (nI (2 * i)) (nI i) 0 now asd lea lat bst rsk stk fct := by
        intro Q D asd hD hq w
        have hend : ∀ (x : Nat) (now lea lat bst rsk stk fct : Nat → Int32), x ≤ 2 * D → (if x = many ∧ x = 2 * D then 0 else 1 + nI x) = pc_chk ni ti many Tel D 0 G → jp_X7_check_183 Q (nI many) (nI (2 * D)) (nI x) 0 now asd lea lat bst rsk stk fct := by
          intro x now lea lat bst rsk stk fct hx hr
          unfold jp_X7_check_183
          refine sp_X7_copyAll (fun G' hG' => ?_)
          have hq := hq G' lea lat bst rsk stk fct hG'
          rw [← hr] at hq
          refine ⟨fun z => ?_, fun z => ⟨fun y => ?_, fun y => ?_⟩⟩
          · rw [if_neg (fun u => z (by rw [u.1]))] at hq; exact hq
          · rw [if_neg (fun u => y (by rw [u.2]))] at hq; exact hq
          · rw [nI_eq (by omega) (by omega)] at y z
            rw [if_pos ⟨z, y⟩] at hq; exact hq
        induction w with
        | zero =>
          intro i now lea lat bst rsk stk fct _ hi hchk
          show lp_X7_check_79F Tel Q _ (nI many) (nI (2 * D)) (nI (2 * i)) (nI i) 0 now asd lea lat bst rsk stk fct
          unfold lp_X7_check_79F
          rw [show (2 : Int32) * nI i = nI (2 * i) from pk_mul 2 _]
          refine pbT (by grind [pg_n]) (hend _ _ _ _ _ _ _ _ (by omega) ?_)
          rw [← hchk, pc_0]
          grind
        | succ w ih =>
          intro i now lea lat bst rsk stk fct hok hi hchk
          show lp_X7_check_79F Tel Q (lp_X7_check_79 Tel Q (w + 1)) (nI many) (nI (2 * D)) (nI (2 * i)) (nI i) 0 now asd lea lat bst rsk stk fct
          unfold lp_X7_check_79F
          rw [show (2 : Int32) * nI i = nI (2 * i) from pk_mul 2 _]
          refine pbF (by grind [pg_n]) (pbT' rfl (sp_X7_best (hok 0 (by omega)) (fun lea lat bst rsk stk fct => ?_)))
          rw [pc_S] at hchk
          have exit : ∀ x : Nat, x ≤ 2 * i + 1 → (x = 2 * i ∨ x = 2 * i + 1) → 1 + nI x = pc_chk ni ti many Tel D 0 G → lp_X7_check_79 Tel Q (w + 1) (nI many) (nI (2 * D)) (nI x) (nI (i + 1)) 0 (pb_row now ni ti) asd lea lat bst rsk stk fct := by
            intro x hx hx2 hr
            show lp_X7_check_79F Tel Q (lp_X7_check_79 Tel Q w) (nI many) (nI (2 * D)) (nI x) (nI (i + 1)) 0 (pb_row now ni ti) asd lea lat bst rsk stk fct
            unfold lp_X7_check_79F
            rw [show (2 : Int32) * nI (i + 1) = nI (2 * (i + 1)) from pk_mul 2 _]
            have hj := hend x (pb_row now ni ti) lea lat bst rsk stk fct (by omega) (by rw [if_neg (by omega)]; exact hr)
            refine ⟨fun _ => hj, fun _ => ⟨fun _ => hj, fun z => ?_⟩⟩
            rw [nI_eq (by omega) (by omega)] at z
            omega
          have no1 : ¬ (2 * i < many ∧ Tel (2 * i) = pb_row now ni ti 6) → jp_X7_check_130 Tel (lp_X7_check_79 Tel Q (w + 1)) (nI many) (nI (2 * D)) (nI i) 0 (nI (2 * i)) 0 (pb_row now ni ti) asd lea lat bst rsk stk fct := by
            intro h
            rw [if_neg h] at hchk
            unfold jp_X7_check_130
            rw [show nI (2 * i) + 0 = nI (2 * i) from by grind, show (2 : Int32) * nI i = nI (2 * i) from pk_mul 2 _, show nI (2 * i) + 1 = nI (2 * i + 1) from pn_p1 _]
            refine pbF' (by rw [nI_eq (by omega) (by omega)]; omega) ?_
            rw [pn_p1, show nI (2 * i) + 0 = nI (2 * i) from by grind]
            exact exit (2 * i) (by omega) (Or.inl rfl) hchk
          refine ⟨fun z => no1 (fun y => ?_), fun z => ⟨pn_in (by grind [pg_n]) (by decide), fun y => ?_, fun y => ?_⟩⟩
          · rw [nI_leI (by omega) (by omega)] at z
            omega
          · rw [pn_cl (by omega)] at y
            exact no1 (fun u => y u.2)
          · rw [pn_cl (by omega)] at y
            rw [nI_leI (by omega) (by omega)] at z
            rw [if_pos ⟨by omega, y⟩] at hchk
            unfold jp_X7_check_130
            rw [show nI (2 * i) + 1 = nI (2 * i + 1) from pn_p1 _, show (2 : Int32) * nI i = nI (2 * i) from pk_mul 2 _, show nI (2 * i) + 1 = nI (2 * i + 1) from pn_p1 _, show nI (2 * i + 1) + 0 = nI (2 * i + 1) from by grind, pn_p1, show nI (2 * i + 1) + 1 = nI (2 * (i + 1)) from pn_p1 _]
            refine pbT' rfl ⟨fun x => ?_, fun x => ⟨pn_in (by grind [pg_n]) (by decide), fun u => ?_, fun u => ?_⟩⟩
            · rw [nI_leI (by omega) (by omega)] at x
              rw [if_neg (by omega)] at hchk
              exact exit (2 * i + 1) (by omega) (Or.inr rfl) hchk
            · rw [pn_cl (by omega)] at u
              rw [if_neg (fun t => u t.2)] at hchk
              exact exit (2 * i + 1) (by omega) (Or.inr rfl) hchk
            · rw [pn_cl (by omega)] at u
              rw [nI_leI (by omega) (by omega)] at x
              rw [if_pos ⟨by omega, u⟩] at hchk
              exact ih (i + 1) (pb_row now ni ti) lea lat bst rsk stk fct (fun v hv => hok (v + 1) (by omega)) (by omega) hchk
      refine L7 _ (min m (9999 - mi)) _ (by omega) (fun G' lea lat bst rsk stk fct hG' => ⟨rfl, rfl, rfl, ?_⟩) (min m (9999 - mi)) 0 G lea lat bst rsk stk fct (fun v hv => okn v G mi _ _ _ _ _ _ _ _ _ _ _ _ _ _ HG h3 (by omega)) (by omega) rfl
      exact pr_copied H (fun k hk => by rw [hG' k hk]; exact if_pos hk) (fun _ _ => ⟨rfl, rfl, rfl⟩) (fun _ _ => rfl) (fun _ _ => rfl)
  · exact pw6F hp (pb0' (pw7F hp (pb0' ⟨rfl, rfl, rfl, H⟩)))
end
