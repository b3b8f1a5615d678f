def wp_X4_worked (p0 : Int32) (p1 : Int32) (p2 : Int32) (Q : Int32 → Prop) : Prop :=
  ((p0 = 38 → ((p1 = 0 → Q 0) ∧ (¬ (p1 = 0) → ((p2 = 0 → Q 0) ∧ (¬ (p2 = 0) → Q 1))))) ∧ ((p0 = 42 → Q (p1 * p2)) ∧ ((p0 = 43 → Q (p1 + p2)) ∧ ((p0 = 45 → Q (p1 - p2)) ∧ ((p0 = 60 → ((p2 ≤ p1 → Q 0) ∧ (¬ (p2 ≤ p1) → Q 1))) ∧ ((p0 = 61 → ((¬ p1 = p2 → Q 0) ∧ (p1 = p2 → Q 1))) ∧ ((p0 = 62 → ((p1 ≤ p2 → Q 0) ∧ (¬ (p1 ≤ p2) → Q 1))) ∧ ((p0 = 124 → ((¬ p1 = 0 → Q 1) ∧ (p1 = 0 → ((p2 = 0 → Q 0) ∧ (¬ (p2 = 0) → Q 1))))) ∧ (¬ p0 = 38 ∧ ¬ p0 = 42 ∧ ¬ p0 = 43 ∧ ¬ p0 = 45 ∧ ¬ p0 = 60 ∧ ¬ p0 = 61 ∧ ¬ p0 = 62 ∧ ¬ p0 = 124 → ((¬ p2 = 0 → (¬ p2 = 0 ∧ Q (p1 / p2))) ∧ (p2 = 0 → Q 0)))))))))))
set_option maxHeartbeats 4000000 in
set_option maxRecDepth 100000 in
theorem c_X4_worked (l : Launch) (E : gE)  (sz : Nat)  (p0 p1 p2 : Int32)  (Q : Int32 → Prop) (h : wp_X4_worked p0 p1 p2 Q) : Met l yX4_worked wsX4_worked ({ frames := 0, cells := 0, slots := 0, locals := 0 } : Room) (va_Pc [.int p0, .int p1, .int p2] (rc_B E ([]) sz)) (va_Qi (S := Unit) (fun (r : Int32) (u : Unit) => Q r) (fun u t => rc_C E (va_A ([]) sz) ([]) t) (va_A ([]) sz)) 0 0 (va_A ([]) sz) := by
  refine rc_enterI (cc := cX4_worked) (maxL := 3) (by decide) rfl (Nat.le_of_ble_eq_true rfl) ?_
  intro p e s m args below meth c QQ A hx hb hml hown hts hmn hE hP hD hA hret ls hl
  have hown : s.vm.findClass RX4 = some m.cls := hown
  have hK := hE.1
  have hS : va_S A s.heap s.heap [] := va_S.rf
  have hl : lv_has ls 3 [(0, .int p0), (1, .int p1), (2, .int p2)] := hl
  unfold wp_X4_worked at h
  obtain ⟨H, hH⟩ : ∃ H, H = s.heap := ⟨_, rfl⟩
  obtain ⟨locs, hlocs⟩ : ∃ locs : List Loc, locs = [] := ⟨_, rfl⟩
  have hP : va_P E.1 vwCl ([]) H := by rw [hH]; exact hP
  have hS : va_S A s.heap H locs := by rw [hH, hlocs]; exact hS
  suffices hgo : W p l e ({ frames := 0, cells := 0, slots := 0, locals := 0 } : Room) s m args below meth c H locs 0 0 QQ (F0 m 0 ls []) from by rw [hH, hlocs] at hgo; exact hgo
  refine lv_iload_n hx hb dX4_worked_0 rfl (lv_at hl 0 rfl) ?_
  by_cases c_1_0 : p0 = 38
  · have h := h.1 c_1_0
    refine lv_lookup (off := 89) (tgt := 90) hx hb dX4_worked_1 (by decide) (by rw [c_1_0] <;> rfl) (by decide) ?_
    refine lv_iload_n hx hb dX4_worked_90 rfl (lv_at hl 1 rfl) ?_
    refine lv_if_eq (tgt := 102) hx hb dX4_worked_91 (by decide) (fun c_2 => ?_) (fun c_2 => ?_)
    · have h := h.1 c_2
      refine lv_iconst (v := 0) hx hb dX4_worked_102 (by decide) ?_
      exact hret _ _ _ _ 0 () rfl h hP hD hS dX4_worked_103
    · have h := h.2 c_2
      refine lv_iload_n hx hb dX4_worked_94 rfl (lv_at hl 2 rfl) ?_
      refine lv_if_eq (tgt := 102) hx hb dX4_worked_95 (by decide) (fun c_3 => ?_) (fun c_3 => ?_)
      · have h := h.1 c_3
        refine lv_iconst (v := 0) hx hb dX4_worked_102 (by decide) ?_
        exact hret _ _ _ _ 0 () rfl h hP hD hS dX4_worked_103
      · have h := h.2 c_3
        refine lv_iconst (v := 1) hx hb dX4_worked_98 (by decide) ?_
        refine lv_goto (tgt := 103) hx hb dX4_worked_99 (by decide) ?_
        exact hret _ _ _ _ 1 () rfl h hP hD hS dX4_worked_103
  · by_cases c_1_1 : p0 = 42
    · have h := h.2.1 c_1_1
      refine lv_lookup (off := 144) (tgt := 145) hx hb dX4_worked_1 (by decide) (by rw [c_1_1] <;> rfl) (by decide) ?_
      refine lv_iload_n hx hb dX4_worked_145 rfl (lv_at hl 1 rfl) ?_
      refine lv_iload_n hx hb dX4_worked_146 rfl (lv_at hl 2 rfl) ?_
      refine lv_imul hx hb dX4_worked_147 ?_
      exact hret _ _ _ _ (p1 * p2) () rfl h hP hD hS dX4_worked_148
    · by_cases c_1_2 : p0 = 43
      · have h := h.2.2.1 c_1_2
        refine lv_lookup (off := 136) (tgt := 137) hx hb dX4_worked_1 (by decide) (by rw [c_1_2] <;> rfl) (by decide) ?_
        refine lv_iload_n hx hb dX4_worked_137 rfl (lv_at hl 1 rfl) ?_
        refine lv_iload_n hx hb dX4_worked_138 rfl (lv_at hl 2 rfl) ?_
        refine lv_iadd hx hb dX4_worked_139 ?_
        exact hret _ _ _ _ (p1 + p2) () rfl h hP hD hS dX4_worked_140
      · by_cases c_1_3 : p0 = 45
        · have h := h.2.2.2.1 c_1_3
          refine lv_lookup (off := 140) (tgt := 141) hx hb dX4_worked_1 (by decide) (by rw [c_1_3] <;> rfl) (by decide) ?_
          refine lv_iload_n hx hb dX4_worked_141 rfl (lv_at hl 1 rfl) ?_
          refine lv_iload_n hx hb dX4_worked_142 rfl (lv_at hl 2 rfl) ?_
          refine lv_isub hx hb dX4_worked_143 ?_
          exact hret _ _ _ _ (p1 - p2) () rfl h hP hD hS dX4_worked_144
        · by_cases c_1_4 : p0 = 60
          · have h := h.2.2.2.2.1 c_1_4
            refine lv_lookup (off := 103) (tgt := 104) hx hb dX4_worked_1 (by decide) (by rw [c_1_4] <;> rfl) (by decide) ?_
            refine lv_iload_n hx hb dX4_worked_104 rfl (lv_at hl 1 rfl) ?_
            refine lv_iload_n hx hb dX4_worked_105 rfl (lv_at hl 2 rfl) ?_
            refine lv_icmp_ge (tgt := 113) hx hb dX4_worked_106 (by decide) (fun c_4 => ?_) (fun c_4 => ?_)
            · have h := h.1 c_4
              refine lv_iconst (v := 0) hx hb dX4_worked_113 (by decide) ?_
              exact hret _ _ _ _ 0 () rfl h hP hD hS dX4_worked_114
            · have h := h.2 c_4
              refine lv_iconst (v := 1) hx hb dX4_worked_109 (by decide) ?_
              refine lv_goto (tgt := 114) hx hb dX4_worked_110 (by decide) ?_
              exact hret _ _ _ _ 1 () rfl h hP hD hS dX4_worked_114
          · by_cases c_1_5 : p0 = 61
            · have h := h.2.2.2.2.2.1 c_1_5
              refine lv_lookup (off := 114) (tgt := 115) hx hb dX4_worked_1 (by decide) (by rw [c_1_5] <;> rfl) (by decide) ?_
              refine lv_iload_n hx hb dX4_worked_115 rfl (lv_at hl 1 rfl) ?_
              refine lv_iload_n hx hb dX4_worked_116 rfl (lv_at hl 2 rfl) ?_
              refine lv_icmp_ne (tgt := 124) hx hb dX4_worked_117 (by decide) (fun c_5 => ?_) (fun c_5 => ?_)
              · have h := h.1 c_5
                refine lv_iconst (v := 0) hx hb dX4_worked_124 (by decide) ?_
                exact hret _ _ _ _ 0 () rfl h hP hD hS dX4_worked_125
              · have h := h.2 c_5
                refine lv_iconst (v := 1) hx hb dX4_worked_120 (by decide) ?_
                refine lv_goto (tgt := 125) hx hb dX4_worked_121 (by decide) ?_
                exact hret _ _ _ _ 1 () rfl h hP hD hS dX4_worked_125
            · by_cases c_1_6 : p0 = 62
              · have h := h.2.2.2.2.2.2.1 c_1_6
                refine lv_lookup (off := 125) (tgt := 126) hx hb dX4_worked_1 (by decide) (by rw [c_1_6] <;> rfl) (by decide) ?_
                refine lv_iload_n hx hb dX4_worked_126 rfl (lv_at hl 1 rfl) ?_
                refine lv_iload_n hx hb dX4_worked_127 rfl (lv_at hl 2 rfl) ?_
                refine lv_icmp_le (tgt := 135) hx hb dX4_worked_128 (by decide) (fun c_6 => ?_) (fun c_6 => ?_)
                · have h := h.1 c_6
                  refine lv_iconst (v := 0) hx hb dX4_worked_135 (by decide) ?_
                  exact hret _ _ _ _ 0 () rfl h hP hD hS dX4_worked_136
                · have h := h.2 c_6
                  refine lv_iconst (v := 1) hx hb dX4_worked_131 (by decide) ?_
                  refine lv_goto (tgt := 136) hx hb dX4_worked_132 (by decide) ?_
                  exact hret _ _ _ _ 1 () rfl h hP hD hS dX4_worked_136
              · by_cases c_1_7 : p0 = 124
                · have h := h.2.2.2.2.2.2.2.1 c_1_7
                  refine lv_lookup (off := 75) (tgt := 76) hx hb dX4_worked_1 (by decide) (by rw [c_1_7] <;> rfl) (by decide) ?_
                  refine lv_iload_n hx hb dX4_worked_76 rfl (lv_at hl 1 rfl) ?_
                  refine lv_if_ne (tgt := 84) hx hb dX4_worked_77 (by decide) (fun c_7 => ?_) (fun c_7 => ?_)
                  · have h := h.1 c_7
                    refine lv_iconst (v := 1) hx hb dX4_worked_84 (by decide) ?_
                    refine lv_goto (tgt := 89) hx hb dX4_worked_85 (by decide) ?_
                    exact hret _ _ _ _ 1 () rfl h hP hD hS dX4_worked_89
                  · have h := h.2 c_7
                    refine lv_iload_n hx hb dX4_worked_80 rfl (lv_at hl 2 rfl) ?_
                    refine lv_if_eq (tgt := 88) hx hb dX4_worked_81 (by decide) (fun c_8 => ?_) (fun c_8 => ?_)
                    · have h := h.1 c_8
                      refine lv_iconst (v := 0) hx hb dX4_worked_88 (by decide) ?_
                      exact hret _ _ _ _ 0 () rfl h hP hD hS dX4_worked_89
                    · have h := h.2 c_8
                      refine lv_iconst (v := 1) hx hb dX4_worked_84 (by decide) ?_
                      refine lv_goto (tgt := 89) hx hb dX4_worked_85 (by decide) ?_
                      exact hret _ _ _ _ 1 () rfl h hP hD hS dX4_worked_89
                · have h := h.2.2.2.2.2.2.2.2 ⟨c_1_0, c_1_1, c_1_2, c_1_3, c_1_4, c_1_5, c_1_6, c_1_7⟩
                  refine lv_lookup (off := 148) (tgt := 149) hx hb dX4_worked_1 (by decide) ((lv_osw c_1_0 (by decide)).trans ((lv_osw c_1_1 (by decide)).trans ((lv_osw c_1_2 (by decide)).trans ((lv_osw c_1_3 (by decide)).trans ((lv_osw c_1_4 (by decide)).trans ((lv_osw c_1_5 (by decide)).trans ((lv_osw c_1_6 (by decide)).trans ((lv_osw c_1_7 (by decide)).trans (rfl))))))))) (by decide) ?_
                  refine lv_iload_n hx hb dX4_worked_149 rfl (lv_at hl 2 rfl) ?_
                  refine lv_if_ne (tgt := 157) hx hb dX4_worked_150 (by decide) (fun c_9 => ?_) (fun c_9 => ?_)
                  · have h := h.1 c_9
                    refine lv_iload_n hx hb dX4_worked_157 rfl (lv_at hl 1 rfl) ?_
                    refine lv_iload_n hx hb dX4_worked_158 rfl (lv_at hl 2 rfl) ?_
                    obtain ⟨z_10, h⟩ := h
                    refine lv_idiv hx hb dX4_worked_159 z_10 ?_
                    exact hret _ _ _ _ (p1 / p2) () rfl h hP hD hS dX4_worked_160
                  · have h := h.2 c_9
                    refine lv_iconst (v := 0) hx hb dX4_worked_153 (by decide) ?_
                    refine lv_goto (tgt := 160) hx hb dX4_worked_154 (by decide) ?_
                    exact hret _ _ _ _ 0 () rfl h hP hD hS dX4_worked_160
def wp_X4_named (p0 : Int32) (p1 : Int32) (p2 : Int32) (p3 : Int32) (Q : Int32 → Prop) : Prop :=
  ((¬ p0 = (-1) → ((¬ p0 = (-2) → Q p3) ∧ (p0 = (-2) → Q p2))) ∧ (p0 = (-1) → Q p1))
set_option maxHeartbeats 4000000 in
set_option maxRecDepth 100000 in
theorem c_X4_named (l : Launch) (E : gE)  (sz : Nat)  (p0 p1 p2 p3 : Int32)  (Q : Int32 → Prop) (h : wp_X4_named p0 p1 p2 p3 Q) : Met l yX4_named wsX4_named ({ frames := 0, cells := 0, slots := 0, locals := 0 } : Room) (va_Pc [.int p0, .int p1, .int p2, .int p3] (rc_B E ([]) sz)) (va_Qi (S := Unit) (fun (r : Int32) (u : Unit) => Q r) (fun u t => rc_C E (va_A ([]) sz) ([]) t) (va_A ([]) sz)) 0 0 (va_A ([]) sz) := by
  refine rc_enterI (cc := cX4_named) (maxL := 4) (by decide) rfl (Nat.le_of_ble_eq_true rfl) ?_
  intro p e s m args below meth c QQ A hx hb hml hown hts hmn hE hP hD hA hret ls hl
  have hown : s.vm.findClass RX4 = some m.cls := hown
  have hK := hE.1
  have hS : va_S A s.heap s.heap [] := va_S.rf
  have hl : lv_has ls 4 [(0, .int p0), (1, .int p1), (2, .int p2), (3, .int p3)] := hl
  unfold wp_X4_named at h
  obtain ⟨H, hH⟩ : ∃ H, H = s.heap := ⟨_, rfl⟩
  obtain ⟨locs, hlocs⟩ : ∃ locs : List Loc, locs = [] := ⟨_, rfl⟩
  have hP : va_P E.1 vwCl ([]) H := by rw [hH]; exact hP
  have hS : va_S A s.heap H locs := by rw [hH, hlocs]; exact hS
  suffices hgo : W p l e ({ frames := 0, cells := 0, slots := 0, locals := 0 } : Room) s m args below meth c H locs 0 0 QQ (F0 m 0 ls []) from by rw [hH, hlocs] at hgo; exact hgo
  refine lv_iload_n hx hb dX4_named_0 rfl (lv_at hl 0 rfl) ?_
  refine lv_iconst (v := (-1)) hx hb dX4_named_1 (by decide) ?_
  refine lv_icmp_ne (tgt := 7) hx hb dX4_named_2 (by decide) (fun c_1 => ?_) (fun c_1 => ?_)
  · have h := h.1 c_1
    refine lv_iload_n hx hb dX4_named_7 rfl (lv_at hl 0 rfl) ?_
    refine lv_bipush (v := (-2)) hx hb dX4_named_8 (by decide) ?_
    refine lv_icmp_ne (tgt := 17) hx hb dX4_named_10 (by decide) (fun c_2 => ?_) (fun c_2 => ?_)
    · have h := h.1 c_2
      refine lv_iload_n hx hb dX4_named_17 rfl (lv_at hl 3 rfl) ?_
      exact hret _ _ _ _ p3 () rfl h hP hD hS dX4_named_18
    · have h := h.2 c_2
      refine lv_iload_n hx hb dX4_named_13 rfl (lv_at hl 2 rfl) ?_
      refine lv_goto (tgt := 18) hx hb dX4_named_14 (by decide) ?_
      exact hret _ _ _ _ p2 () rfl h hP hD hS dX4_named_18
  · have h := h.2 c_1
    refine lv_iload_n hx hb dX4_named_5 rfl (lv_at hl 1 rfl) ?_
    exact hret _ _ _ _ p1 () rfl h hP hD hS dX4_named_6
def lp_X4_valueFor_6F (p1 : Int32) (p2 : Int32) (p3 : Int32) (pn : Nat → Nat) (tc : Nat → Nat → Int32) (ta : Nat)  (Q : Int32 → (Nat → Int32) → Prop) (R : Int32 → Int32 → (Nat → Int32) → Prop) (x5 : Int32) (x6 : Int32) (sK : Nat → Int32) : Prop :=
  (((nI (pn ta)) ≤ x6 → ((x5 < 1 → Q 0 sK) ∧ (¬ (x5 < 1) → Q (sK 0) sK))) ∧ (¬ ((nI (pn ta)) ≤ x6) → (vp_in x6 (pn ta) ∧ ((¬ (tc ta x6.toNatClampNeg) = (-33) → (((-3) ≤ (tc ta x6.toNatClampNeg) → ((96 ≤ x5 → R x5 (x6 + 1) sK) ∧ (¬ (96 ≤ x5) → (((tc ta x6.toNatClampNeg) < 0 → wp_X4_named (tc ta x6.toNatClampNeg) p1 p2 p3 (fun (r_12 : Int32) => (vp_in x5 96 ∧ R (x5 + 1) (x6 + 1) (upd sK x5.toNatClampNeg r_12)))) ∧ (¬ ((tc ta x6.toNatClampNeg) < 0) → (vp_in x5 96 ∧ R (x5 + 1) (x6 + 1) (upd sK x5.toNatClampNeg (tc ta x6.toNatClampNeg)))))))) ∧ (¬ ((-3) ≤ (tc ta x6.toNatClampNeg)) → ((x5 < 2 → R x5 (x6 + 1) sK) ∧ (¬ (x5 < 2) → (vp_in ((x5 + (-1)) - 1) 96 ∧ (vp_in (x5 + (-1)) 96 ∧ wp_X4_worked (-(tc ta x6.toNatClampNeg)) (sK (((x5 + (-1)) - 1).toNatClampNeg)) (sK ((x5 + (-1)).toNatClampNeg)) (fun (r_18 : Int32) => (vp_in ((x5 + (-1)) - 1) 96 ∧ R (x5 + (-1)) (x6 + 1) (upd sK (((x5 + (-1)) - 1).toNatClampNeg) r_18)))))))))) ∧ ((tc ta x6.toNatClampNeg) = (-33) → ((x5 < 1 → R x5 (x6 + 1) sK) ∧ (¬ (x5 < 1) → (vp_in (x5 - 1) 96 ∧ ((¬ (sK ((x5 - 1).toNatClampNeg)) = 0 → (vp_in (x5 - 1) 96 ∧ R x5 (x6 + 1) (upd sK ((x5 - 1).toNatClampNeg) 0))) ∧ ((sK ((x5 - 1).toNatClampNeg)) = 0 → (vp_in (x5 - 1) 96 ∧ R x5 (x6 + 1) (upd sK ((x5 - 1).toNatClampNeg) 1))))))))))))
def lp_X4_valueFor_6 (p1 : Int32) (p2 : Int32) (p3 : Int32) (pn : Nat → Nat) (tc : Nat → Nat → Int32) (ta : Nat)  (Q : Int32 → (Nat → Int32) → Prop) (n : Nat) : Int32 → Int32 → (Nat → Int32) → Prop :=
  Nat.rec (motive := fun _ => Int32 → Int32 → (Nat → Int32) → Prop) (fun _ _ _ => False) (fun _ r => lp_X4_valueFor_6F p1 p2 p3 pn tc ta Q r) n
def wp_X4_valueFor (p1 : Int32) (p2 : Int32) (p3 : Int32) (sK : Nat → Int32) (pn : Nat → Nat) (tc : Nat → Nat → Int32) (ta : Nat) (Q : Int32 → (Nat → Int32) → Prop) : Prop :=
  (∃ n : Nat, lp_X4_valueFor_6 p1 p2 p3 pn tc ta Q n 0 0 sK)
set_option maxHeartbeats 4000000 in
set_option maxRecDepth 100000 in
theorem c_X4_valueFor (l : Launch) (E : gE) (sk ta : Nat) (sz : Nat) (sK : Nat → Int32) (p1 p2 p3 : Int32) (LT : List Nat) (pk : Nat → Int32) (pv : Nat → Int32) (pa : Nat → Nat) (pn : Nat → Nat) (tc : Nat → Nat → Int32) (hm_ta : ta ∈ LT) (Q : Int32 → (Nat → Int32) → Prop) (h : wp_X4_valueFor p1 p2 p3 sK pn tc ta Q) : Met l yX4_valueFor wsX4_valueFor ({ frames := 1, cells := 0, slots := 0, locals := 23 } : Room) (va_Pc [.ref ta, .int p1, .int p2, .int p3, .ref sk] (rc_B E (rw_3 E sk sK ++ rc_tp E LT pk pv pa pn tc) sz)) (va_Qi (S := (Nat → Int32)) (fun (r : Int32) (u : (Nat → Int32)) => Q r u) (fun u t => rc_C E (va_A (rw_3 E sk sK ++ rc_tp E LT pk pv pa pn tc) sz) (rw_3 E sk u ++ rc_tp E LT pk pv pa pn tc) t) (va_A (rw_3 E sk sK ++ rc_tp E LT pk pv pa pn tc) sz)) 0 0 (va_A (rw_3 E sk sK ++ rc_tp E LT pk pv pa pn tc) sz) := by
  refine rc_enterI (cc := cX4_valueFor) (maxL := 8) (by decide) rfl (Nat.le_of_ble_eq_true rfl) ?_
  intro p e s m args below meth c QQ A hx hb hml hown hts hmn hE hP hD hA hret ls hl
  have hown : s.vm.findClass RX4 = some m.cls := hown
  have hK := hE.1
  have hS : va_S A s.heap s.heap [] := va_S.rf
  have hl : lv_has ls 8 [(0, .ref ta), (1, .int p1), (2, .int p2), (3, .int p3), (4, .ref sk)] := hl
  have n_X4 : ∀ w ∈ wsX40, w ∈ wsX4_valueFor := fun _ h => List.mem_cons_of_mem _ (List.mem_append_right _ h)
  have k_16 := hts (.fieldLink RX4 16 "RidgeClaps$Text" "codes" "[I") (List.mem_of_getElem? (i := 1) rfl)
  have J6 : ∀ (n : Nat) (x5 : Int32) (x6 : Int32) (sK : Nat → Int32), lp_X4_valueFor_6 p1 p2 p3 pn tc ta Q n x5 x6 sK → ∀ (H : Heap) (locs : List Loc), va_P E.1 vwCl (rw_3 E sk sK ++ rc_tp E LT pk pv pa pn tc) H → va_D A (rw_3 E sk sK ++ rc_tp E LT pk pv pa pn tc) → va_S A s.heap H locs → ∀ ls : Array Slot, lv_has ls 8 [(0, .ref ta), (1, .int p1), (2, .int p2), (3, .int p3), (4, .ref sk), (5, .int x5), (6, .int x6)] → W p l e ({ frames := 1, cells := 0, slots := 0, locals := 23 } : Room) s m args below meth c H locs 0 0 QQ (F0 m 6 ls []) := by
    intro n
    induction n with
    | zero =>
      intro x5 x6 sK h
      exact False.elim h
    | succ n ih =>
      intro x5 x6 sK h H locs hP hD hS ls hl
      have h : lp_X4_valueFor_6F p1 p2 p3 pn tc ta Q (lp_X4_valueFor_6 p1 p2 p3 pn tc ta Q n) x5 x6 sK := h
      unfold lp_X4_valueFor_6F at h
      refine lv_iload hx hb dX4_valueFor_6 (lv_at hl 6 rfl) ?_
      refine lv_aload_n hx hb dX4_valueFor_8 rfl (lv_at hl 0 rfl) ?_
      obtain ⟨q_1, hq_1⟩ := rc_tpo (E := E) (X := (rw_3 E sk sK)) (pk := pk) (pv := pv) (pa := pa) (pn := pn) (pc := tc) hm_ta
      refine va_get (D := E.1) (ci := 4) (v := .ref (pa ta)) (C := RX4) (T := TX4) (N := 3) hx hb hts n_X4 hown hK hP q_1 hq_1 rfl 2 (by decide) k_16 (fun _ h9 => h9) rfl dX4_valueFor_9 ?_
      obtain ⟨q_2, hq_2⟩ := rc_tpc (E := E) (X := (rw_3 E sk sK)) (pk := pk) (pv := pv) (pa := pa) (pn := pn) (pc := tc) hm_ta
      refine va_alen (v := nI (pn ta)) hx hb hK hP q_2 0 hq_2 rfl rfl dX4_valueFor_12 ?_
      refine lv_icmp_ge (tgt := 147) hx hb dX4_valueFor_13 (by decide) (fun c_3 => ?_) (fun c_3 => ?_)
      · have h := h.1 c_3
        refine lv_iload hx hb dX4_valueFor_147 (lv_at hl 5 rfl) ?_
        refine lv_iconst (v := 1) hx hb dX4_valueFor_149 (by decide) ?_
        refine lv_icmp_lt (tgt := 160) hx hb dX4_valueFor_150 (by decide) (fun c_4 => ?_) (fun c_4 => ?_)
        · have h := h.1 c_4
          refine lv_iconst (v := 0) hx hb dX4_valueFor_160 (by decide) ?_
          exact hret _ _ _ _ 0 (sK) rfl h hP hD hS dX4_valueFor_161
        · have h := h.2 c_4
          refine lv_aload hx hb dX4_valueFor_153 (lv_at hl 4 rfl) ?_
          refine lv_iconst (v := 0) hx hb dX4_valueFor_155 (by decide) ?_
          refine rc_iald hx hb hK hP 0 0 rfl rfl 0 (by decide) (by unfold vp_in; decide) dX4_valueFor_156 ?_
          refine lv_goto (tgt := 161) hx hb dX4_valueFor_157 (by decide) ?_
          exact hret _ _ _ _ (sK 0) (sK) rfl h hP hD hS dX4_valueFor_161
      · have h := h.2 c_3
        refine lv_aload_n hx hb dX4_valueFor_16 rfl (lv_at hl 0 rfl) ?_
        obtain ⟨q_5, hq_5⟩ := rc_tpo (E := E) (X := (rw_3 E sk sK)) (pk := pk) (pv := pv) (pa := pa) (pn := pn) (pc := tc) hm_ta
        refine va_get (D := E.1) (ci := 4) (v := .ref (pa ta)) (C := RX4) (T := TX4) (N := 3) hx hb hts n_X4 hown hK hP q_5 hq_5 rfl 2 (by decide) k_16 (fun _ h9 => h9) rfl dX4_valueFor_17 ?_
        refine lv_iload hx hb dX4_valueFor_20 (lv_at hl 6 rfl) ?_
        obtain ⟨o_7, h⟩ := h
        obtain ⟨q_6, hq_6⟩ := rc_tpc (E := E) (X := (rw_3 E sk sK)) (pk := pk) (pv := pv) (pa := pa) (pn := pn) (pc := tc) hm_ta
        refine rc_iald hx hb hK hP q_6 0 hq_6 rfl x6.toNatClampNeg rfl o_7 dX4_valueFor_22 ?_
        refine lv_istore (lv' := [(7, .int (tc ta x6.toNatClampNeg)), (0, .ref ta), (1, .int p1), (2, .int p2), (3, .int p3), (4, .ref sk), (5, .int x5), (6, .int x6)]) hx hb dX4_valueFor_23 hl (by decide) rfl (fun ls hl => ?_)
        refine lv_iload hx hb dX4_valueFor_25 (lv_at hl 0 rfl) ?_
        refine lv_bipush (v := (-33)) hx hb dX4_valueFor_27 (by decide) ?_
        refine lv_icmp_ne (tgt := 63) hx hb dX4_valueFor_29 (by decide) (fun c_8 => ?_) (fun c_8 => ?_)
        · have h := h.1 c_8
          refine lv_iload hx hb dX4_valueFor_63 (lv_at hl 0 rfl) ?_
          refine lv_bipush (v := (-3)) hx hb dX4_valueFor_65 (by decide) ?_
          refine lv_icmp_ge (tgt := 107) hx hb dX4_valueFor_67 (by decide) (fun c_9 => ?_) (fun c_9 => ?_)
          · have h := h.1 c_9
            refine lv_iload hx hb dX4_valueFor_107 (lv_at hl 6 rfl) ?_
            refine lv_aload hx hb dX4_valueFor_109 (lv_at hl 5 rfl) ?_
            refine va_alen (v := 96) hx hb hK hP 0 0 rfl rfl rfl dX4_valueFor_111 ?_
            refine lv_icmp_ge (tgt := 141) hx hb dX4_valueFor_112 (by decide) (fun c_10 => ?_) (fun c_10 => ?_)
            · have h := h.1 c_10
              refine lv_iinc (v := x6 + 1) (lv' := [(6, .int (x6 + 1)), (7, .int (tc ta x6.toNatClampNeg)), (0, .ref ta), (1, .int p1), (2, .int p2), (3, .int p3), (4, .ref sk), (5, .int x5)]) hx hb dX4_valueFor_141 hl (k := 7) rfl (by rfl) (by decide) rfl (fun ls hl => ?_)
              refine lv_goto (tgt := 6) hx hb dX4_valueFor_144 (by decide) ?_
              exact ih x5 (x6 + 1) sK h _ _ hP hD hS ls (lv_sub hl [2, 3, 4, 5, 6, 7, 0] rfl)
            · have h := h.2 c_10
              refine lv_aload hx hb dX4_valueFor_115 (lv_at hl 5 rfl) ?_
              refine lv_iload hx hb dX4_valueFor_117 (lv_at hl 6 rfl) ?_
              refine lv_iload hx hb dX4_valueFor_119 (lv_at hl 0 rfl) ?_
              refine lv_if_lt (tgt := 129) hx hb dX4_valueFor_121 (by decide) (fun c_11 => ?_) (fun c_11 => ?_)
              · have h := h.1 c_11
                refine lv_iload hx hb dX4_valueFor_129 (lv_at hl 0 rfl) ?_
                refine lv_iload_n hx hb dX4_valueFor_131 rfl (lv_at hl 2 rfl) ?_
                refine lv_iload_n hx hb dX4_valueFor_132 rfl (lv_at hl 3 rfl) ?_
                refine lv_iload_n hx hb dX4_valueFor_133 rfl (lv_at hl 4 rfl) ?_
                have hPc := hP.sub (ws' := []) [] rfl
                have hDc := hD.sub (ws' := []) [] (by decide) rfl
                have hFc := va_free (wc := []) hD hS hA [] rfl
                refine va_calli (va_runS (As := [.int (tc ta x6.toNatClampNeg), .int p1, .int p2, .int p3]) (rest := [.int x5, .ref sk]) ⟨hx, hb, hml, hown, hts⟩ (c_X4_named l E H.size (tc ta x6.toNatClampNeg) p1 p2 p3 _ h) (va_cwS 4 hts gX4_valueFor_X4_named rfl rfl rfl (by decide +kernel) ⟨Nat.le_of_ble_eq_true rfl, Nat.le_of_ble_eq_true rfl⟩) ⟨fun a U g mk q => ⟨q.1, q.2.blind⟩, fun U hU hW => ⟨rfl, by rw [hU], by rw [hU]; exact hPc, hE.call hS hFc hW hU, hDc.weaken (fun _ _ _ _ => trivial)⟩⟩ rfl rfl hl.1 rfl (lv_room (Nat.le_of_ble_eq_true rfl)) dX4_valueFor_134 ⟨Nat.zero_le _, Nat.zero_le _⟩) hS (fun q _ h => hFc q h) hFc (fun r_12 u t H1 locs ht hvm h hB hz1 hk1 hS => ?_)
                obtain ⟨hP1, hD1⟩ := hB
                rw [ht] at hP1
                obtain ⟨hP, hD⟩ := rc_foc hP hD [] [none] (by decide) rfl hk1 hP1 rfl
                generalize H1 = H at hP hS ⊢
                have hP : va_P E.1 vwCl (rw_3 E sk sK ++ rc_tp E LT pk pv pa pn tc) H := hP
                have hD : va_D A (rw_3 E sk sK ++ rc_tp E LT pk pv pa pn tc) := hD
                obtain ⟨o_13, h⟩ := h
                refine rc_iast hx hb hK hP hD hS 0 0 rfl rfl x5.toNatClampNeg rfl o_13 dX4_valueFor_137 (fun H locs hP hD hS => ?_)
                have hP : va_P E.1 vwCl (rw_3 E sk (upd sK x5.toNatClampNeg r_12) ++ rc_tp E LT pk pv pa pn tc) H := hP
                have hD : va_D A (rw_3 E sk (upd sK x5.toNatClampNeg r_12) ++ rc_tp E LT pk pv pa pn tc) := hD
                refine lv_iinc (v := x5 + 1) (lv' := [(5, .int (x5 + 1)), (7, .int (tc ta x6.toNatClampNeg)), (0, .ref ta), (1, .int p1), (2, .int p2), (3, .int p3), (4, .ref sk), (6, .int x6)]) hx hb dX4_valueFor_138 hl (k := 6) rfl (by rfl) (by decide) rfl (fun ls hl => ?_)
                refine lv_iinc (v := x6 + 1) (lv' := [(6, .int (x6 + 1)), (5, .int (x5 + 1)), (7, .int (tc ta x6.toNatClampNeg)), (0, .ref ta), (1, .int p1), (2, .int p2), (3, .int p3), (4, .ref sk)]) hx hb dX4_valueFor_141 hl (k := 7) rfl (by rfl) (by decide) rfl (fun ls hl => ?_)
                refine lv_goto (tgt := 6) hx hb dX4_valueFor_144 (by decide) ?_
                exact ih (x5 + 1) (x6 + 1) (upd sK x5.toNatClampNeg r_12) h _ _ hP hD hS ls (lv_sub hl [3, 4, 5, 6, 7, 1, 0] rfl)
              · have h := h.2 c_11
                refine lv_iload hx hb dX4_valueFor_124 (lv_at hl 0 rfl) ?_
                refine lv_goto (tgt := 137) hx hb dX4_valueFor_126 (by decide) ?_
                obtain ⟨o_14, h⟩ := h
                refine rc_iast hx hb hK hP hD hS 0 0 rfl rfl x5.toNatClampNeg rfl o_14 dX4_valueFor_137 (fun H locs hP hD hS => ?_)
                have hP : va_P E.1 vwCl (rw_3 E sk (upd sK x5.toNatClampNeg (tc ta x6.toNatClampNeg)) ++ rc_tp E LT pk pv pa pn tc) H := hP
                have hD : va_D A (rw_3 E sk (upd sK x5.toNatClampNeg (tc ta x6.toNatClampNeg)) ++ rc_tp E LT pk pv pa pn tc) := hD
                refine lv_iinc (v := x5 + 1) (lv' := [(5, .int (x5 + 1)), (7, .int (tc ta x6.toNatClampNeg)), (0, .ref ta), (1, .int p1), (2, .int p2), (3, .int p3), (4, .ref sk), (6, .int x6)]) hx hb dX4_valueFor_138 hl (k := 6) rfl (by rfl) (by decide) rfl (fun ls hl => ?_)
                refine lv_iinc (v := x6 + 1) (lv' := [(6, .int (x6 + 1)), (5, .int (x5 + 1)), (7, .int (tc ta x6.toNatClampNeg)), (0, .ref ta), (1, .int p1), (2, .int p2), (3, .int p3), (4, .ref sk)]) hx hb dX4_valueFor_141 hl (k := 7) rfl (by rfl) (by decide) rfl (fun ls hl => ?_)
                refine lv_goto (tgt := 6) hx hb dX4_valueFor_144 (by decide) ?_
                exact ih (x5 + 1) (x6 + 1) (upd sK x5.toNatClampNeg (tc ta x6.toNatClampNeg)) h _ _ hP hD hS ls (lv_sub hl [3, 4, 5, 6, 7, 1, 0] rfl)
          · have h := h.2 c_9
            refine lv_iload hx hb dX4_valueFor_70 (lv_at hl 6 rfl) ?_
            refine lv_iconst (v := 2) hx hb dX4_valueFor_72 (by decide) ?_
            refine lv_icmp_lt (tgt := 141) hx hb dX4_valueFor_73 (by decide) (fun c_15 => ?_) (fun c_15 => ?_)
            · have h := h.1 c_15
              refine lv_iinc (v := x6 + 1) (lv' := [(6, .int (x6 + 1)), (7, .int (tc ta x6.toNatClampNeg)), (0, .ref ta), (1, .int p1), (2, .int p2), (3, .int p3), (4, .ref sk), (5, .int x5)]) hx hb dX4_valueFor_141 hl (k := 7) rfl (by rfl) (by decide) rfl (fun ls hl => ?_)
              refine lv_goto (tgt := 6) hx hb dX4_valueFor_144 (by decide) ?_
              exact ih x5 (x6 + 1) sK h _ _ hP hD hS ls (lv_sub hl [2, 3, 4, 5, 6, 7, 0] rfl)
            · have h := h.2 c_15
              refine lv_iinc (v := x5 + (-1)) (lv' := [(5, .int (x5 + (-1))), (7, .int (tc ta x6.toNatClampNeg)), (0, .ref ta), (1, .int p1), (2, .int p2), (3, .int p3), (4, .ref sk), (6, .int x6)]) hx hb dX4_valueFor_76 hl (k := 6) rfl (by rfl) (by decide) rfl (fun ls hl => ?_)
              refine lv_aload hx hb dX4_valueFor_79 (lv_at hl 6 rfl) ?_
              refine lv_iload hx hb dX4_valueFor_81 (lv_at hl 0 rfl) ?_
              refine lv_iconst (v := 1) hx hb dX4_valueFor_83 (by decide) ?_
              refine lv_isub hx hb dX4_valueFor_84 ?_
              refine lv_iload hx hb dX4_valueFor_85 (lv_at hl 1 rfl) ?_
              refine lv_ineg hx hb dX4_valueFor_87 ?_
              refine lv_aload hx hb dX4_valueFor_88 (lv_at hl 6 rfl) ?_
              refine lv_iload hx hb dX4_valueFor_90 (lv_at hl 0 rfl) ?_
              refine lv_iconst (v := 1) hx hb dX4_valueFor_92 (by decide) ?_
              refine lv_isub hx hb dX4_valueFor_93 ?_
              obtain ⟨o_16, h⟩ := h
              refine rc_iald hx hb hK hP 0 0 rfl rfl (((x5 + (-1)) - 1).toNatClampNeg) rfl o_16 dX4_valueFor_94 ?_
              refine lv_aload hx hb dX4_valueFor_95 (lv_at hl 6 rfl) ?_
              refine lv_iload hx hb dX4_valueFor_97 (lv_at hl 0 rfl) ?_
              obtain ⟨o_17, h⟩ := h
              refine rc_iald hx hb hK hP 0 0 rfl rfl ((x5 + (-1)).toNatClampNeg) rfl o_17 dX4_valueFor_99 ?_
              have hPc := hP.sub (ws' := []) [] rfl
              have hDc := hD.sub (ws' := []) [] (by decide) rfl
              have hFc := va_free (wc := []) hD hS hA [] rfl
              refine va_calli (va_runS (As := [.int (-(tc ta x6.toNatClampNeg)), .int (sK (((x5 + (-1)) - 1).toNatClampNeg)), .int (sK ((x5 + (-1)).toNatClampNeg))]) (rest := [.int ((x5 + (-1)) - 1), .ref sk]) ⟨hx, hb, hml, hown, hts⟩ (c_X4_worked l E H.size (-(tc ta x6.toNatClampNeg)) (sK (((x5 + (-1)) - 1).toNatClampNeg)) (sK ((x5 + (-1)).toNatClampNeg)) _ h) (va_cwS 3 hts gX4_valueFor_X4_worked rfl rfl rfl (by decide +kernel) ⟨Nat.le_of_ble_eq_true rfl, Nat.le_of_ble_eq_true rfl⟩) ⟨fun a U g mk q => ⟨q.1, q.2.blind⟩, fun U hU hW => ⟨rfl, by rw [hU], by rw [hU]; exact hPc, hE.call hS hFc hW hU, hDc.weaken (fun _ _ _ _ => trivial)⟩⟩ rfl rfl hl.1 rfl (lv_room (Nat.le_of_ble_eq_true rfl)) dX4_valueFor_100 ⟨Nat.zero_le _, Nat.zero_le _⟩) hS (fun q _ h => hFc q h) hFc (fun r_18 u t H1 locs ht hvm h hB hz1 hk1 hS => ?_)
              obtain ⟨hP1, hD1⟩ := hB
              rw [ht] at hP1
              obtain ⟨hP, hD⟩ := rc_foc hP hD [] [none] (by decide) rfl hk1 hP1 rfl
              generalize H1 = H at hP hS ⊢
              have hP : va_P E.1 vwCl (rw_3 E sk sK ++ rc_tp E LT pk pv pa pn tc) H := hP
              have hD : va_D A (rw_3 E sk sK ++ rc_tp E LT pk pv pa pn tc) := hD
              obtain ⟨o_19, h⟩ := h
              refine rc_iast hx hb hK hP hD hS 0 0 rfl rfl (((x5 + (-1)) - 1).toNatClampNeg) rfl o_19 dX4_valueFor_103 (fun H locs hP hD hS => ?_)
              have hP : va_P E.1 vwCl (rw_3 E sk (upd sK (((x5 + (-1)) - 1).toNatClampNeg) r_18) ++ rc_tp E LT pk pv pa pn tc) H := hP
              have hD : va_D A (rw_3 E sk (upd sK (((x5 + (-1)) - 1).toNatClampNeg) r_18) ++ rc_tp E LT pk pv pa pn tc) := hD
              refine lv_goto (tgt := 141) hx hb dX4_valueFor_104 (by decide) ?_
              refine lv_iinc (v := x6 + 1) (lv' := [(6, .int (x6 + 1)), (5, .int (x5 + (-1))), (7, .int (tc ta x6.toNatClampNeg)), (0, .ref ta), (1, .int p1), (2, .int p2), (3, .int p3), (4, .ref sk)]) hx hb dX4_valueFor_141 hl (k := 7) rfl (by rfl) (by decide) rfl (fun ls hl => ?_)
              refine lv_goto (tgt := 6) hx hb dX4_valueFor_144 (by decide) ?_
              exact ih (x5 + (-1)) (x6 + 1) (upd sK (((x5 + (-1)) - 1).toNatClampNeg) r_18) h _ _ hP hD hS ls (lv_sub hl [3, 4, 5, 6, 7, 1, 0] rfl)
        · have h := h.2 c_8
          refine lv_iload hx hb dX4_valueFor_32 (lv_at hl 6 rfl) ?_
          refine lv_iconst (v := 1) hx hb dX4_valueFor_34 (by decide) ?_
          refine lv_icmp_lt (tgt := 141) hx hb dX4_valueFor_35 (by decide) (fun c_20 => ?_) (fun c_20 => ?_)
          · have h := h.1 c_20
            refine lv_iinc (v := x6 + 1) (lv' := [(6, .int (x6 + 1)), (7, .int (tc ta x6.toNatClampNeg)), (0, .ref ta), (1, .int p1), (2, .int p2), (3, .int p3), (4, .ref sk), (5, .int x5)]) hx hb dX4_valueFor_141 hl (k := 7) rfl (by rfl) (by decide) rfl (fun ls hl => ?_)
            refine lv_goto (tgt := 6) hx hb dX4_valueFor_144 (by decide) ?_
            exact ih x5 (x6 + 1) sK h _ _ hP hD hS ls (lv_sub hl [2, 3, 4, 5, 6, 7, 0] rfl)
          · have h := h.2 c_20
            refine lv_aload hx hb dX4_valueFor_38 (lv_at hl 5 rfl) ?_
            refine lv_iload hx hb dX4_valueFor_40 (lv_at hl 6 rfl) ?_
            refine lv_iconst (v := 1) hx hb dX4_valueFor_42 (by decide) ?_
            refine lv_isub hx hb dX4_valueFor_43 ?_
            refine lv_aload hx hb dX4_valueFor_44 (lv_at hl 5 rfl) ?_
            refine lv_iload hx hb dX4_valueFor_46 (lv_at hl 6 rfl) ?_
            refine lv_iconst (v := 1) hx hb dX4_valueFor_48 (by decide) ?_
            refine lv_isub hx hb dX4_valueFor_49 ?_
            obtain ⟨o_21, h⟩ := h
            refine rc_iald hx hb hK hP 0 0 rfl rfl ((x5 - 1).toNatClampNeg) rfl o_21 dX4_valueFor_50 ?_
            refine lv_if_ne (tgt := 58) hx hb dX4_valueFor_51 (by decide) (fun c_22 => ?_) (fun c_22 => ?_)
            · have h := h.1 c_22
              refine lv_iconst (v := 0) hx hb dX4_valueFor_58 (by decide) ?_
              obtain ⟨o_23, h⟩ := h
              refine rc_iast hx hb hK hP hD hS 0 0 rfl rfl ((x5 - 1).toNatClampNeg) rfl o_23 dX4_valueFor_59 (fun H locs hP hD hS => ?_)
              have hP : va_P E.1 vwCl (rw_3 E sk (upd sK ((x5 - 1).toNatClampNeg) 0) ++ rc_tp E LT pk pv pa pn tc) H := hP
              have hD : va_D A (rw_3 E sk (upd sK ((x5 - 1).toNatClampNeg) 0) ++ rc_tp E LT pk pv pa pn tc) := hD
              refine lv_goto (tgt := 141) hx hb dX4_valueFor_60 (by decide) ?_
              refine lv_iinc (v := x6 + 1) (lv' := [(6, .int (x6 + 1)), (7, .int (tc ta x6.toNatClampNeg)), (0, .ref ta), (1, .int p1), (2, .int p2), (3, .int p3), (4, .ref sk), (5, .int x5)]) hx hb dX4_valueFor_141 hl (k := 7) rfl (by rfl) (by decide) rfl (fun ls hl => ?_)
              refine lv_goto (tgt := 6) hx hb dX4_valueFor_144 (by decide) ?_
              exact ih x5 (x6 + 1) (upd sK ((x5 - 1).toNatClampNeg) 0) h _ _ hP hD hS ls (lv_sub hl [2, 3, 4, 5, 6, 7, 0] rfl)
            · have h := h.2 c_22
              refine lv_iconst (v := 1) hx hb dX4_valueFor_54 (by decide) ?_
              refine lv_goto (tgt := 59) hx hb dX4_valueFor_55 (by decide) ?_
              obtain ⟨o_24, h⟩ := h
              refine rc_iast hx hb hK hP hD hS 0 0 rfl rfl ((x5 - 1).toNatClampNeg) rfl o_24 dX4_valueFor_59 (fun H locs hP hD hS => ?_)
              have hP : va_P E.1 vwCl (rw_3 E sk (upd sK ((x5 - 1).toNatClampNeg) 1) ++ rc_tp E LT pk pv pa pn tc) H := hP
              have hD : va_D A (rw_3 E sk (upd sK ((x5 - 1).toNatClampNeg) 1) ++ rc_tp E LT pk pv pa pn tc) := hD
              refine lv_goto (tgt := 141) hx hb dX4_valueFor_60 (by decide) ?_
              refine lv_iinc (v := x6 + 1) (lv' := [(6, .int (x6 + 1)), (7, .int (tc ta x6.toNatClampNeg)), (0, .ref ta), (1, .int p1), (2, .int p2), (3, .int p3), (4, .ref sk), (5, .int x5)]) hx hb dX4_valueFor_141 hl (k := 7) rfl (by rfl) (by decide) rfl (fun ls hl => ?_)
              refine lv_goto (tgt := 6) hx hb dX4_valueFor_144 (by decide) ?_
              exact ih x5 (x6 + 1) (upd sK ((x5 - 1).toNatClampNeg) 1) h _ _ hP hD hS ls (lv_sub hl [2, 3, 4, 5, 6, 7, 0] rfl)
  unfold wp_X4_valueFor at h
  obtain ⟨H, hH⟩ : ∃ H, H = s.heap := ⟨_, rfl⟩
  obtain ⟨locs, hlocs⟩ : ∃ locs : List Loc, locs = [] := ⟨_, rfl⟩
  have hP : va_P E.1 vwCl (rw_3 E sk sK ++ rc_tp E LT pk pv pa pn tc) H := by rw [hH]; exact hP
  have hS : va_S A s.heap H locs := by rw [hH, hlocs]; exact hS
  suffices hgo : W p l e ({ frames := 1, cells := 0, slots := 0, locals := 23 } : Room) s m args below meth c H locs 0 0 QQ (F0 m 0 ls []) from by rw [hH, hlocs] at hgo; exact hgo
  refine lv_iconst (v := 0) hx hb dX4_valueFor_0 (by decide) ?_
  refine lv_istore (lv' := [(5, .int 0), (0, .ref ta), (1, .int p1), (2, .int p2), (3, .int p3), (4, .ref sk)]) hx hb dX4_valueFor_1 hl (by decide) rfl (fun ls hl => ?_)
  refine lv_iconst (v := 0) hx hb dX4_valueFor_3 (by decide) ?_
  refine lv_istore (lv' := [(6, .int 0), (5, .int 0), (0, .ref ta), (1, .int p1), (2, .int p2), (3, .int p3), (4, .ref sk)]) hx hb dX4_valueFor_4 hl (by decide) rfl (fun ls hl => ?_)
  obtain ⟨n, h⟩ := h
  exact J6 n 0 0 sK h _ _ hP hD hS ls (lv_sub hl [2, 3, 4, 5, 6, 1, 0] rfl)
