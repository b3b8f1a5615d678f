def rw_25 (E : gE) (co : Nat) (ro : Nat) (jo : Nat) (qo : Nat) (yo : Nat) (eo : Nat) (cs : Nat) (cl : Nat) (cw : Nat) (eb : Nat) (ec : Nat) (rk : Nat) (rh : Nat) (rd : Nat) (rt : Nat) (rl : Nat) (rs : Nat) (cWs : Int32) (cKp : Int32) (eLn : Int32) (eFt : Int32) (eCc : Int32) (eKy : Int32) (eLv : Int32) (eOb : Int32) (eOn : Int32) (eSt : Int32) (eEd : Int32) (eSo : Int32) (eBy : Nat → Int32) (eCo : Nat → Int32) (rSz : Int32) (rTc : Int32) (rFa : Int32) (rPa : Int32) (rPy : Int32) (rMi : Int32) (rMe : Int32) (rSr : Int32) (rZ : Int32) (rKi : Nat → Int32) (rHe : Nat → Int32) (rDo : Nat → Int32) (rTx : Nat → Option Nat) (rLa : Nat → Int32) (rSk : Nat → Int32) : va_W :=
  [(co, .inr (6, [.ref ro, .ref jo, .ref qo, .ref yo, .ref eo, .ref cs, .ref cl, .ref cw, .int cWs, .int cKp])), (eo, .inr (0, [.ref eb, .int eLn, .int eFt, .ref ec, .int eCc, .int eKy, .int eLv, .int eOb, .int eOn, .int eSt, .int eEd, .int eSo])), (eb, .inl (E.2.1 0, 96, .inl eBy)), (ec, .inl (E.2.1 0, 96, .inl eCo)), (ro, .inr (1, [.ref rk, .ref rh, .ref rd, .int rSz, .ref rt, .int rTc, .ref rl, .int rFa, .int rPa, .int rPy, .int rMi, .int rMe, .int rSr, .int rZ, .ref rs])), (rk, .inl (E.2.1 0, 24, .inl rKi)), (rh, .inl (E.2.1 0, 24, .inl rHe)), (rd, .inl (E.2.1 0, 24, .inl rDo)), (rt, .inl (E.2.1 5, 14, .inr (.inr (.inr (.inr rTx))))), (rl, .inl (E.2.1 0, 3, .inl rLa)), (rs, .inl (E.2.1 0, 96, .inl rSk))]
/-- a text more in the pool -/
theorem rc_tp_push {E : gE} {X : va_W} {LT : List Nat} {pk pv : Nat → Int32} {pa pn : Nat → Nat} {tc : Nat → Nat → Int32} {a q n : Nat} {k v : Int32} {g : Nat → Int32} (h : a ∉ LT) :
    (X ++ rc_tp E LT pk pv pa pn tc) ++ [(a, .inr (4, [.int k, .int v, .ref q])), (q, .inl (E.2.1 0, n, .inl g))] = X ++ rc_tp E (LT ++ [a]) (va_up pk a k) (va_up pv a v) (va_up pa a q) (va_up pn a n) (va_up tc a g) := by
  rw [List.append_assoc]
  congr 1
  unfold rc_tp
  rw [List.flatMap_append]
  congr 1
  · rw [List.flatMap_def, List.flatMap_def]
    congr 1
    apply List.map_congr_left
    intro b hb
    have hne : b ≠ a := fun e => h (e ▸ hb)
    rw [va_up_ne _ _ hne, va_up_ne _ _ hne, va_up_ne _ _ hne, va_up_ne _ _ hne, va_up_ne _ _ hne]
  · simp [va_up_self]
theorem rc_tp_fresh {E : gE} {A : Nat → Prop} {X : va_W} {LT : List Nat} {pk pv : Nat → Int32} {pa pn : Nat → Nat} {tc : Nat → Nat → Int32} {a : Nat} {e : va_E} {r : va_W} (hD : va_D A ((X ++ rc_tp E LT pk pv pa pn tc) ++ ((a, e) :: r))) : a ∉ LT := by
  intro h
  obtain ⟨k, hk⟩ := rc_tpo (E := E) (X := X) (pk := pk) (pv := pv) (pa := pa) (pn := pn) (pc := tc) h
  have h1 := rc_app_l (Y := (a, e) :: r) hk
  have h2 : ((X ++ rc_tp E LT pk pv pa pn tc) ++ ((a, e) :: r))[(X ++ rc_tp E LT pk pv pa pn tc).length + 0]? = some (a, e) := rc_app_r rfl
  have h3 := hD.1 _ _ _ _ h1 h2 rfl
  have h4 := (List.getElem?_eq_some_iff.mp hk).1
  omega
