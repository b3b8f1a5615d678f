def lp_X0_readLevel_31F (p1 : Int32) (eLn : Int32) (eKy : Int32) (eBy : Nat → Int32) (RG : Nat → Int32 → Int32 → Int32 → Int32 → Int32 → Int32 → Int32 → Int32 → Int32 → Int32 → Int32 → (Nat → Int32) → (Nat → Int32) → (Int32 → Int32 → Int32 → Int32 → Int32 → Int32 → Int32 → Int32 → (Nat → Int32) → Prop) → Prop)  (Q : Int32 → Int32 → Int32 → Int32 → Int32 → Int32 → Int32 → Int32 → (Nat → Int32) → Prop) (R : Int32 → Int32 → Int32 → Int32 → Int32 → Int32 → Int32 → Int32 → Int32 → Int32 → (Nat → Int32) → Prop) (x2 : Int32) (x3 : Int32) (eFt : Int32) (eCc : Int32) (eLv : Int32) (eOb : Int32) (eOn : Int32) (eSt : Int32) (eEd : Int32) (eSo : Int32) (eCo : Nat → Int32) : Prop :=
  ((x2 ≤ x3 → Q eFt eCc eLv eOb eOn eSt eEd eSo eCo) ∧ (¬ (x2 ≤ x3) → ((¬ eFt = (-1000000005) → Q eFt eCc eLv eOb eOn eSt eEd eSo eCo) ∧ (eFt = (-1000000005) → wp_X0_signHere eSt eSo eBy (fun (r_3 : Int32) => wp_X0_levelOf r_3 (fun (r_4 : Int32) => ((¬ r_4 = p1 → Q eFt eCc eLv eOb eOn eSt eEd eSo eCo) ∧ (r_4 = p1 → wp_X0_signHere eSt eSo eBy (fun (r_6 : Int32) => wp_X0_moveOn eLn eEd eSo eBy (fun (w_7 : Int32) (w_8 : Int32) (w_9 : Int32) => RG 0 (p1 + 1) eLn eFt eCc eKy eLv eOb eOn w_7 w_8 w_9 eBy eCo (fun (w_10 : Int32) (w_11 : Int32) (w_12 : Int32) (w_13 : Int32) (w_14 : Int32) (w_15 : Int32) (w_16 : Int32) (w_17 : Int32) (w_18 : Nat → Int32) => wp_X0_putCode (-r_6) w_11 w_18 (fun (w_19 : Int32) (w_20 : Nat → Int32) => R x2 (x3 + 1) w_10 w_19 w_12 w_13 w_14 w_15 w_16 w_17 w_20))))))))))))
def lp_X0_readLevel_31 (p1 : Int32) (eLn : Int32) (eKy : Int32) (eBy : Nat → Int32) (RG : Nat → Int32 → Int32 → Int32 → Int32 → Int32 → Int32 → Int32 → Int32 → Int32 → Int32 → Int32 → (Nat → Int32) → (Nat → Int32) → (Int32 → Int32 → Int32 → Int32 → Int32 → Int32 → Int32 → Int32 → (Nat → Int32) → Prop) → Prop)  (Q : Int32 → Int32 → Int32 → Int32 → Int32 → Int32 → Int32 → Int32 → (Nat → Int32) → Prop) (n : Nat) : Int32 → Int32 → Int32 → Int32 → Int32 → Int32 → Int32 → Int32 → Int32 → Int32 → (Nat → Int32) → Prop :=
  Nat.rec (motive := fun _ => Int32 → Int32 → Int32 → Int32 → Int32 → Int32 → Int32 → Int32 → Int32 → Int32 → (Nat → Int32) → Prop) (fun _ _ _ _ _ _ _ _ _ _ _ => False) (fun _ r => lp_X0_readLevel_31F p1 eLn eKy eBy RG Q r) n
def wq_X0_readLevel (RG : Nat → Int32 → Int32 → Int32 → Int32 → Int32 → Int32 → Int32 → Int32 → Int32 → Int32 → Int32 → (Nat → Int32) → (Nat → Int32) → (Int32 → Int32 → Int32 → Int32 → Int32 → Int32 → Int32 → Int32 → (Nat → Int32) → Prop) → Prop) (p1 : Int32) (eLn : Int32) (eFt : Int32) (eCc : Int32) (eKy : Int32) (eLv : Int32) (eOb : Int32) (eOn : Int32) (eSt : Int32) (eEd : Int32) (eSo : Int32) (eBy : Nat → Int32) (eCo : Nat → Int32) (Q : Int32 → Int32 → Int32 → Int32 → Int32 → Int32 → Int32 → Int32 → (Nat → Int32) → Prop) : Prop :=
  ((p1 < 5 → RG 0 (p1 + 1) eLn eFt eCc eKy eLv eOb eOn eSt eEd eSo eBy eCo (fun (w_22 : Int32) (w_23 : Int32) (w_24 : Int32) (w_25 : Int32) (w_26 : Int32) (w_27 : Int32) (w_28 : Int32) (w_29 : Int32) (w_30 : Nat → Int32) => ((¬ p1 = 2 → (∃ n : Nat, lp_X0_readLevel_31 p1 eLn eKy eBy RG Q n 96 0 w_22 w_23 w_24 w_25 w_26 w_27 w_28 w_29 w_30)) ∧ (p1 = 2 → (∃ n : Nat, lp_X0_readLevel_31 p1 eLn eKy eBy RG Q n 1 0 w_22 w_23 w_24 w_25 w_26 w_27 w_28 w_29 w_30))))) ∧ (¬ (p1 < 5) → RG 1 0 eLn eFt eCc eKy eLv eOb eOn eSt eEd eSo eBy eCo (fun (w_32 : Int32) (w_33 : Int32) (w_34 : Int32) (w_35 : Int32) (w_36 : Int32) (w_37 : Int32) (w_38 : Int32) (w_39 : Int32) (w_40 : Nat → Int32) => Q w_32 w_33 w_34 w_35 w_36 w_37 w_38 w_39 w_40)))
def wq_X0_readPiece (RG : Nat → Int32 → Int32 → Int32 → Int32 → Int32 → Int32 → Int32 → Int32 → Int32 → Int32 → Int32 → (Nat → Int32) → (Nat → Int32) → (Int32 → Int32 → Int32 → Int32 → Int32 → Int32 → Int32 → Int32 → (Nat → Int32) → Prop) → Prop) (p1 : Int32) (eLn : Int32) (eFt : Int32) (eCc : Int32) (eKy : Int32) (eLv : Int32) (eOb : Int32) (eOn : Int32) (eSt : Int32) (eEd : Int32) (eSo : Int32) (eBy : Nat → Int32) (eCo : Nat → Int32) (Q : Int32 → Int32 → Int32 → Int32 → Int32 → Int32 → Int32 → Int32 → (Nat → Int32) → Prop) : Prop :=
  ((eSo = 1 → wp_X0_readLeaf eLn eFt eCc eKy eLv eSt eEd eSo eBy eCo (fun (w_2 : Int32) (w_3 : Int32) (w_4 : Int32) (w_5 : Int32) (w_6 : Int32) (w_7 : Int32) (w_8 : Nat → Int32) => Q w_2 w_3 w_4 eOb eOn w_5 w_6 w_7 w_8)) ∧ (¬ (eSo = 1) → ((¬ eSo = 0 → wp_X0_signHere eSt eSo eBy (fun (r_10 : Int32) => ((¬ r_10 = 33 → wp_X0_signHere eSt eSo eBy (fun (r_12 : Int32) => ((¬ r_12 = 40 → wp_X0_setFault eFt eSt (fun (w_14 : Int32) => Q w_14 eCc eLv eOb eOn eSt eEd eSo eCo)) ∧ (r_12 = 40 → RG 3 0 eLn eFt eCc eKy eLv eOb eOn eSt eEd eSo eBy eCo (fun (w_15 : Int32) (w_16 : Int32) (w_17 : Int32) (w_18 : Int32) (w_19 : Int32) (w_20 : Int32) (w_21 : Int32) (w_22 : Int32) (w_23 : Nat → Int32) => Q w_15 w_16 w_17 w_18 w_19 w_20 w_21 w_22 w_23))))) ∧ (r_10 = 33 → RG 2 0 eLn eFt eCc eKy eLv eOb eOn eSt eEd eSo eBy eCo (fun (w_24 : Int32) (w_25 : Int32) (w_26 : Int32) (w_27 : Int32) (w_28 : Int32) (w_29 : Int32) (w_30 : Int32) (w_31 : Int32) (w_32 : Nat → Int32) => Q w_24 w_25 w_26 w_27 w_28 w_29 w_30 w_31 w_32))))) ∧ (eSo = 0 → wp_X0_readLeaf eLn eFt eCc eKy eLv eSt eEd eSo eBy eCo (fun (w_33 : Int32) (w_34 : Int32) (w_35 : Int32) (w_36 : Int32) (w_37 : Int32) (w_38 : Int32) (w_39 : Nat → Int32) => Q w_33 w_34 w_35 eOb eOn w_36 w_37 w_38 w_39)))))
def wq_X0_readNot (RG : Nat → Int32 → Int32 → Int32 → Int32 → Int32 → Int32 → Int32 → Int32 → Int32 → Int32 → Int32 → (Nat → Int32) → (Nat → Int32) → (Int32 → Int32 → Int32 → Int32 → Int32 → Int32 → Int32 → Int32 → (Nat → Int32) → Prop) → Prop) (p1 : Int32) (eLn : Int32) (eFt : Int32) (eCc : Int32) (eKy : Int32) (eLv : Int32) (eOb : Int32) (eOn : Int32) (eSt : Int32) (eEd : Int32) (eSo : Int32) (eBy : Nat → Int32) (eCo : Nat → Int32) (Q : Int32 → Int32 → Int32 → Int32 → Int32 → Int32 → Int32 → Int32 → (Nat → Int32) → Prop) : Prop :=
  ((eOn < 8 → wp_X0_moveOn eLn eEd eSo eBy (fun (w_2 : Int32) (w_3 : Int32) (w_4 : Int32) => RG 1 0 eLn eFt eCc eKy eLv eOb (eOn + 1) w_2 w_3 w_4 eBy eCo (fun (w_5 : Int32) (w_6 : Int32) (w_7 : Int32) (w_8 : Int32) (w_9 : Int32) (w_10 : Int32) (w_11 : Int32) (w_12 : Int32) (w_13 : Nat → Int32) => wp_X0_putCode (-33) w_6 w_13 (fun (w_14 : Int32) (w_15 : Nat → Int32) => Q w_5 w_14 w_7 w_8 (w_9 - 1) w_10 w_11 w_12 w_15)))) ∧ (¬ (eOn < 8) → wp_X0_setFault eFt eSt (fun (w_16 : Int32) => Q w_16 eCc eLv eOb eOn eSt eEd eSo eCo)))
def wq_X0_readBracket (RG : Nat → Int32 → Int32 → Int32 → Int32 → Int32 → Int32 → Int32 → Int32 → Int32 → Int32 → Int32 → (Nat → Int32) → (Nat → Int32) → (Int32 → Int32 → Int32 → Int32 → Int32 → Int32 → Int32 → Int32 → (Nat → Int32) → Prop) → Prop) (p1 : Int32) (eLn : Int32) (eFt : Int32) (eCc : Int32) (eKy : Int32) (eLv : Int32) (eOb : Int32) (eOn : Int32) (eSt : Int32) (eEd : Int32) (eSo : Int32) (eBy : Nat → Int32) (eCo : Nat → Int32) (Q : Int32 → Int32 → Int32 → Int32 → Int32 → Int32 → Int32 → Int32 → (Nat → Int32) → Prop) : Prop :=
  ((eOb < 8 → wp_X0_moveOn eLn eEd eSo eBy (fun (w_2 : Int32) (w_3 : Int32) (w_4 : Int32) => RG 0 0 eLn eFt eCc eKy eLv (eOb + 1) eOn w_2 w_3 w_4 eBy eCo (fun (w_5 : Int32) (w_6 : Int32) (w_7 : Int32) (w_8 : Int32) (w_9 : Int32) (w_10 : Int32) (w_11 : Int32) (w_12 : Int32) (w_13 : Nat → Int32) => ((w_5 = (-1000000005) → wp_X0_signHere w_10 w_12 eBy (fun (r_15 : Int32) => ((r_15 = 41 → wp_X0_moveOn eLn w_11 w_12 eBy (fun (w_17 : Int32) (w_18 : Int32) (w_19 : Int32) => Q w_5 w_6 w_7 (w_8 - 1) w_9 w_17 w_18 w_19 w_13)) ∧ (¬ (r_15 = 41) → wp_X0_setFault w_5 w_10 (fun (w_20 : Int32) => Q w_20 w_6 w_7 w_8 w_9 w_10 w_11 w_12 w_13))))) ∧ (¬ (w_5 = (-1000000005)) → Q w_5 w_6 w_7 w_8 w_9 w_10 w_11 w_12 w_13))))) ∧ (¬ (eOb < 8) → wp_X0_setFault eFt eSt (fun (w_21 : Int32) => Q w_21 eCc eLv eOb eOn eSt eEd eSo eCo)))
def wpGF (RG : Nat → Int32 → Int32 → Int32 → Int32 → Int32 → Int32 → Int32 → Int32 → Int32 → Int32 → Int32 → (Nat → Int32) → (Nat → Int32) → (Int32 → Int32 → Int32 → Int32 → Int32 → Int32 → Int32 → Int32 → (Nat → Int32) → Prop) → Prop) (k : Nat) : Int32 → Int32 → Int32 → Int32 → Int32 → Int32 → Int32 → Int32 → Int32 → Int32 → Int32 → (Nat → Int32) → (Nat → Int32) → (Int32 → Int32 → Int32 → Int32 → Int32 → Int32 → Int32 → Int32 → (Nat → Int32) → Prop) → Prop :=
  match k with
  | 0 => wq_X0_readLevel RG
  | 1 => wq_X0_readPiece RG
  | 2 => wq_X0_readNot RG
  | _ => wq_X0_readBracket RG
def wpG (d : Nat) : Nat → Int32 → Int32 → Int32 → Int32 → Int32 → Int32 → Int32 → Int32 → Int32 → Int32 → Int32 → (Nat → Int32) → (Nat → Int32) → (Int32 → Int32 → Int32 → Int32 → Int32 → Int32 → Int32 → Int32 → (Nat → Int32) → Prop) → Prop :=
  Nat.rec (motive := fun _ => Nat → Int32 → Int32 → Int32 → Int32 → Int32 → Int32 → Int32 → Int32 → Int32 → Int32 → Int32 → (Nat → Int32) → (Nat → Int32) → (Int32 → Int32 → Int32 → Int32 → Int32 → Int32 → Int32 → Int32 → (Nat → Int32) → Prop) → Prop) (fun _ _ _ _ _ _ _ _ _ _ _ _ _ _ _ => False) (fun _ r => wpGF r) d
set_option maxHeartbeats 8000000 in
set_option maxRecDepth 100000 in
theorem c_wpG (l : Launch) (E : gE) (eo eb ec : Nat) : ∀ d : Nat, (∀ (sz : Nat) (eLn : Int32) (eFt : Int32) (eCc : Int32) (eKy : Int32) (eLv : Int32) (eOb : Int32) (eOn : Int32) (eSt : Int32) (eEd : Int32) (eSo : Int32) (eBy : Nat → Int32) (eCo : Nat → Int32) (p1 : Int32) (Q : Int32 → Int32 → Int32 → Int32 → Int32 → Int32 → Int32 → Int32 → (Nat → Int32) → Prop), wpG d 0 p1 eLn eFt eCc eKy eLv eOb eOn eSt eEd eSo eBy eCo Q → Met l yX0_readLevel wsX0_readLevel ({ frames := 6 + d, cells := 0, slots := 0, locals := 148 + 24 * d } : Room) (va_Pc [.ref eo, .int p1] (rc_B E (rw_17 E eo eb ec eLn eFt eCc eKy eLv eOb eOn eSt eEd eSo eBy eCo) sz)) (va_Qv (S := Int32 × Int32 × Int32 × Int32 × Int32 × Int32 × Int32 × Int32 × (Nat → Int32)) (fun (u : Int32 × Int32 × Int32 × Int32 × Int32 × Int32 × Int32 × Int32 × (Nat → Int32)) => Q u.1 u.2.1 u.2.2.1 u.2.2.2.1 u.2.2.2.2.1 u.2.2.2.2.2.1 u.2.2.2.2.2.2.1 u.2.2.2.2.2.2.2.1 u.2.2.2.2.2.2.2.2) (fun u t => rc_C E (va_A (rw_17 E eo eb ec eLn eFt eCc eKy eLv eOb eOn eSt eEd eSo eBy eCo) sz) (rw_17 E eo eb ec eLn u.1 u.2.1 eKy u.2.2.1 u.2.2.2.1 u.2.2.2.2.1 u.2.2.2.2.2.1 u.2.2.2.2.2.2.1 u.2.2.2.2.2.2.2.1 eBy u.2.2.2.2.2.2.2.2) t) (va_A (rw_17 E eo eb ec eLn eFt eCc eKy eLv eOb eOn eSt eEd eSo eBy eCo) sz)) 0 0 (va_A (rw_17 E eo eb ec eLn eFt eCc eKy eLv eOb eOn eSt eEd eSo eBy eCo) sz)) ∧ (∀ (sz : Nat) (eLn : Int32) (eFt : Int32) (eCc : Int32) (eKy : Int32) (eLv : Int32) (eOb : Int32) (eOn : Int32) (eSt : Int32) (eEd : Int32) (eSo : Int32) (eBy : Nat → Int32) (eCo : Nat → Int32) (p1 : Int32) (Q : Int32 → Int32 → Int32 → Int32 → Int32 → Int32 → Int32 → Int32 → (Nat → Int32) → Prop), wpG d 1 p1 eLn eFt eCc eKy eLv eOb eOn eSt eEd eSo eBy eCo Q → Met l yX0_readPiece wsX0_readPiece ({ frames := 6 + d, cells := 0, slots := 0, locals := 148 + 24 * d } : Room) (va_Pc [.ref eo] (rc_B E (rw_17 E eo eb ec eLn eFt eCc eKy eLv eOb eOn eSt eEd eSo eBy eCo) sz)) (va_Qv (S := Int32 × Int32 × Int32 × Int32 × Int32 × Int32 × Int32 × Int32 × (Nat → Int32)) (fun (u : Int32 × Int32 × Int32 × Int32 × Int32 × Int32 × Int32 × Int32 × (Nat → Int32)) => Q u.1 u.2.1 u.2.2.1 u.2.2.2.1 u.2.2.2.2.1 u.2.2.2.2.2.1 u.2.2.2.2.2.2.1 u.2.2.2.2.2.2.2.1 u.2.2.2.2.2.2.2.2) (fun u t => rc_C E (va_A (rw_17 E eo eb ec eLn eFt eCc eKy eLv eOb eOn eSt eEd eSo eBy eCo) sz) (rw_17 E eo eb ec eLn u.1 u.2.1 eKy u.2.2.1 u.2.2.2.1 u.2.2.2.2.1 u.2.2.2.2.2.1 u.2.2.2.2.2.2.1 u.2.2.2.2.2.2.2.1 eBy u.2.2.2.2.2.2.2.2) t) (va_A (rw_17 E eo eb ec eLn eFt eCc eKy eLv eOb eOn eSt eEd eSo eBy eCo) sz)) 0 0 (va_A (rw_17 E eo eb ec eLn eFt eCc eKy eLv eOb eOn eSt eEd eSo eBy eCo) sz)) ∧ (∀ (sz : Nat) (eLn : Int32) (eFt : Int32) (eCc : Int32) (eKy : Int32) (eLv : Int32) (eOb : Int32) (eOn : Int32) (eSt : Int32) (eEd : Int32) (eSo : Int32) (eBy : Nat → Int32) (eCo : Nat → Int32) (p1 : Int32) (Q : Int32 → Int32 → Int32 → Int32 → Int32 → Int32 → Int32 → Int32 → (Nat → Int32) → Prop), wpG d 2 p1 eLn eFt eCc eKy eLv eOb eOn eSt eEd eSo eBy eCo Q → Met l yX0_readNot wsX0_readNot ({ frames := 6 + d, cells := 0, slots := 0, locals := 148 + 24 * d } : Room) (va_Pc [.ref eo] (rc_B E (rw_17 E eo eb ec eLn eFt eCc eKy eLv eOb eOn eSt eEd eSo eBy eCo) sz)) (va_Qv (S := Int32 × Int32 × Int32 × Int32 × Int32 × Int32 × Int32 × Int32 × (Nat → Int32)) (fun (u : Int32 × Int32 × Int32 × Int32 × Int32 × Int32 × Int32 × Int32 × (Nat → Int32)) => Q u.1 u.2.1 u.2.2.1 u.2.2.2.1 u.2.2.2.2.1 u.2.2.2.2.2.1 u.2.2.2.2.2.2.1 u.2.2.2.2.2.2.2.1 u.2.2.2.2.2.2.2.2) (fun u t => rc_C E (va_A (rw_17 E eo eb ec eLn eFt eCc eKy eLv eOb eOn eSt eEd eSo eBy eCo) sz) (rw_17 E eo eb ec eLn u.1 u.2.1 eKy u.2.2.1 u.2.2.2.1 u.2.2.2.2.1 u.2.2.2.2.2.1 u.2.2.2.2.2.2.1 u.2.2.2.2.2.2.2.1 eBy u.2.2.2.2.2.2.2.2) t) (va_A (rw_17 E eo eb ec eLn eFt eCc eKy eLv eOb eOn eSt eEd eSo eBy eCo) sz)) 0 0 (va_A (rw_17 E eo eb ec eLn eFt eCc eKy eLv eOb eOn eSt eEd eSo eBy eCo) sz)) ∧ (∀ (sz : Nat) (eLn : Int32) (eFt : Int32) (eCc : Int32) (eKy : Int32) (eLv : Int32) (eOb : Int32) (eOn : Int32) (eSt : Int32) (eEd : Int32) (eSo : Int32) (eBy : Nat → Int32) (eCo : Nat → Int32) (p1 : Int32) (Q : Int32 → Int32 → Int32 → Int32 → Int32 → Int32 → Int32 → Int32 → (Nat → Int32) → Prop), wpG d 3 p1 eLn eFt eCc eKy eLv eOb eOn eSt eEd eSo eBy eCo Q → Met l yX0_readBracket wsX0_readBracket ({ frames := 6 + d, cells := 0, slots := 0, locals := 148 + 24 * d } : Room) (va_Pc [.ref eo] (rc_B E (rw_17 E eo eb ec eLn eFt eCc eKy eLv eOb eOn eSt eEd eSo eBy eCo) sz)) (va_Qv (S := Int32 × Int32 × Int32 × Int32 × Int32 × Int32 × Int32 × Int32 × (Nat → Int32)) (fun (u : Int32 × Int32 × Int32 × Int32 × Int32 × Int32 × Int32 × Int32 × (Nat → Int32)) => Q u.1 u.2.1 u.2.2.1 u.2.2.2.1 u.2.2.2.2.1 u.2.2.2.2.2.1 u.2.2.2.2.2.2.1 u.2.2.2.2.2.2.2.1 u.2.2.2.2.2.2.2.2) (fun u t => rc_C E (va_A (rw_17 E eo eb ec eLn eFt eCc eKy eLv eOb eOn eSt eEd eSo eBy eCo) sz) (rw_17 E eo eb ec eLn u.1 u.2.1 eKy u.2.2.1 u.2.2.2.1 u.2.2.2.2.1 u.2.2.2.2.2.1 u.2.2.2.2.2.2.1 u.2.2.2.2.2.2.2.1 eBy u.2.2.2.2.2.2.2.2) t) (va_A (rw_17 E eo eb ec eLn eFt eCc eKy eLv eOb eOn eSt eEd eSo eBy eCo) sz)) 0 0 (va_A (rw_17 E eo eb ec eLn eFt eCc eKy eLv eOb eOn eSt eEd eSo eBy eCo) sz)) := by
  intro d
  induction d with
  | zero => exact ⟨fun _ _ _ _ _ _ _ _ _ _ _ _ _ _ _ h => False.elim h, fun _ _ _ _ _ _ _ _ _ _ _ _ _ _ _ h => False.elim h, fun _ _ _ _ _ _ _ _ _ _ _ _ _ _ _ h => False.elim h, fun _ _ _ _ _ _ _ _ _ _ _ _ _ _ _ h => False.elim h⟩
  | succ d ih =>
    obtain ⟨ih0, ih1, ih2, ih3⟩ := ih
    refine ⟨?_, ?_, ?_, ?_⟩
    · intro sz eLn eFt eCc eKy eLv eOb eOn eSt eEd eSo eBy eCo p1 Q h
      have h : wq_X0_readLevel (wpG d) p1 eLn eFt eCc eKy eLv eOb eOn eSt eEd eSo eBy eCo Q := h
      refine rc_enterV (cc := cX0_readLevel) (maxL := 5) (by decide) rfl (Nat.le_of_ble_eq_true rfl) ?_
      intro p e s m args below meth c QQ A hx hb hml hown hts hmn hE hP hD hA hret ls hl
      have hown : s.vm.findClass RX0 = some m.cls := hown
      have hK := hE.1
      have hS : va_S A s.heap s.heap [] := va_S.rf
      have hl : lv_has ls 5 [(0, .ref eo), (1, .int p1)] := hl
      have n_X0 : ∀ w ∈ wsX00, w ∈ wsX0_readLevel := fun _ h => List.mem_cons_of_mem _ (List.mem_append_right _ h)
      have k_20 := hts (.fieldLink RX0 20 "RidgeClaps$Reader" "fault" "I") (List.mem_of_getElem? (i := 1) rfl)
      have k_19 := hts (.constant RX0 19 (-1000000005)) (List.mem_of_getElem? (i := 2) rfl)
      have J31 : ∀ (n : Nat) (x2 : Int32) (x3 : Int32) (eFt : Int32) (eCc : Int32) (eLv : Int32) (eOb : Int32) (eOn : Int32) (eSt : Int32) (eEd : Int32) (eSo : Int32) (eCo : Nat → Int32), lp_X0_readLevel_31 p1 eLn eKy eBy (wpG d) Q n x2 x3 eFt eCc eLv eOb eOn eSt eEd eSo eCo → ∀ (H : Heap) (locs : List Loc), va_P E.1 vwCl (rw_17 E eo eb ec eLn eFt eCc eKy eLv eOb eOn eSt eEd eSo eBy eCo) H → va_D A (rw_17 E eo eb ec eLn eFt eCc eKy eLv eOb eOn eSt eEd eSo eBy eCo) → va_S A s.heap H locs → ∀ ls : Array Slot, lv_has ls 5 [(0, .ref eo), (1, .int p1), (2, .int x2), (3, .int x3)] → W p l e ({ frames := 6 + (d + 1), cells := 0, slots := 0, locals := 148 + 24 * (d + 1) } : Room) s m args below meth c H locs 0 0 QQ (F0 m 31 ls []) := by
        intro n
        induction n with
        | zero =>
          intro x2 x3 eFt eCc eLv eOb eOn eSt eEd eSo eCo h
          exact False.elim h
        | succ n ih =>
          intro x2 x3 eFt eCc eLv eOb eOn eSt eEd eSo eCo h H locs hP hD hS ls hl
          have h : lp_X0_readLevel_31F p1 eLn eKy eBy (wpG d) Q (lp_X0_readLevel_31 p1 eLn eKy eBy (wpG d) Q n) x2 x3 eFt eCc eLv eOb eOn eSt eEd eSo eCo := h
          unfold lp_X0_readLevel_31F at h
          refine lv_iload_n hx hb dX0_readLevel_31 rfl (lv_at hl 3 rfl) ?_
          refine lv_iload_n hx hb dX0_readLevel_32 rfl (lv_at hl 2 rfl) ?_
          refine lv_icmp_ge (tgt := 86) hx hb dX0_readLevel_33 (by decide) (fun c_1 => ?_) (fun c_1 => ?_)
          · have h := h.1 c_1
            exact hret _ _ _ _ (eFt, eCc, eLv, eOb, eOn, eSt, eEd, eSo, eCo) h hP hD hS dX0_readLevel_86
          · have h := h.2 c_1
            refine lv_aload_n hx hb dX0_readLevel_36 rfl (lv_at hl 0 rfl) ?_
            refine va_get (D := E.1) (ci := 0) (v := .int eFt) (C := RX0) (T := TX0) (N := 12) hx hb hts n_X0 hown hK hP 0 rfl rfl 2 (by decide) k_20 (fun _ h9 => h9) rfl dX0_readLevel_37 ?_
            refine lv_ldc hx hb hown k_19 dX0_readLevel_40 ?_
            refine lv_icmp_ne (tgt := 86) hx hb dX0_readLevel_42 (by decide) (fun c_2 => ?_) (fun c_2 => ?_)
            · have h := h.1 c_2
              exact hret _ _ _ _ (eFt, eCc, eLv, eOb, eOn, eSt, eEd, eSo, eCo) h hP hD hS dX0_readLevel_86
            · have h := h.2 c_2
              refine lv_aload_n hx hb dX0_readLevel_45 rfl (lv_at hl 0 rfl) ?_
              have hPc := hP
              have hDc := hD
              have hFc := rc_freeI hD hS hA
              refine va_calli (va_runV (As := []) (rest := []) ⟨hx, hb, hml, hown, hts⟩ (c_X0_signHere l E eo eb ec H.size eLn eFt eCc eKy eLv eOb eOn eSt eEd eSo eBy eCo _ h) (cwV 0 hts gX0_readLevel_X0_signHere rfl rfl rfl (by decide +kernel) ⟨by show 0 + 1 ≤ 6 + (d + 1); omega, by show 8 + (1 + 11) + 0 ≤ 148 + 24 * (d + 1); omega⟩) ⟨fun a U g mk q => ⟨q.1, q.2.blind⟩, va_recv hK hPc (ci := 0) (q0 := 0) rfl rfl, fun U hU hW => ⟨rfl, by rw [hU], by rw [hU]; exact hPc, hE.call hS hFc hW hU, hDc.weaken (fun _ _ _ _ => trivial)⟩⟩ rfl rfl hl.1 rfl (lv_room (Nat.le_of_ble_eq_true rfl)) dX0_readLevel_46 ⟨Nat.zero_le _, Nat.zero_le _⟩) hS (fun q _ h => hFc q h) hFc (fun r_3 u t H1 locs ht hvm h hB hz1 hk1 hS => ?_)
              obtain ⟨hP1, hD1⟩ := hB
              rw [ht] at hP1
              have hP := hP1
              have hD := hD1.weaken (fun _ _ _ h => hFc _ h)
              generalize H1 = H at hP hS ⊢
              have hP : va_P E.1 vwCl (rw_17 E eo eb ec eLn eFt eCc eKy eLv eOb eOn eSt eEd eSo eBy eCo) H := hP
              have hD : va_D A (rw_17 E eo eb ec eLn eFt eCc eKy eLv eOb eOn eSt eEd eSo eBy eCo) := hD
              have hPc := hP.sub (ws' := []) [] rfl
              have hDc := hD.sub (ws' := []) [] (by decide) rfl
              have hFc := va_free (wc := []) hD hS hA [] rfl
              refine va_calli (va_runS (As := [.int r_3]) (rest := []) ⟨hx, hb, hml, hown, hts⟩ (c_X0_levelOf l E H.size r_3 _ h) (va_cwS 1 hts gX0_readLevel_X0_levelOf rfl rfl rfl (by decide +kernel) ⟨by show 0 + 1 ≤ 6 + (d + 1); omega, by show 8 + (1 + 11) + 0 ≤ 148 + 24 * (d + 1); omega⟩) ⟨fun a U g mk q => ⟨q.1, q.2.blind⟩, fun U hU hW => ⟨rfl, by rw [hU], by rw [hU]; exact hPc, hE.call hS hFc hW hU, hDc.weaken (fun _ _ _ _ => trivial)⟩⟩ rfl rfl hl.1 rfl (lv_room (Nat.le_of_ble_eq_true rfl)) dX0_readLevel_49 ⟨Nat.zero_le _, Nat.zero_le _⟩) hS (fun q _ h => hFc q h) hFc (fun r_4 u t H1 locs ht hvm h hB hz1 hk1 hS => ?_)
              obtain ⟨hP1, hD1⟩ := hB
              rw [ht] at hP1
              obtain ⟨hP, hD⟩ := rc_foc hP hD [] [none, none, none] (by decide) rfl hk1 hP1 rfl
              generalize H1 = H at hP hS ⊢
              have hP : va_P E.1 vwCl (rw_17 E eo eb ec eLn eFt eCc eKy eLv eOb eOn eSt eEd eSo eBy eCo) H := hP
              have hD : va_D A (rw_17 E eo eb ec eLn eFt eCc eKy eLv eOb eOn eSt eEd eSo eBy eCo) := hD
              refine lv_iload_n hx hb dX0_readLevel_52 rfl (lv_at hl 1 rfl) ?_
              refine lv_icmp_ne (tgt := 86) hx hb dX0_readLevel_53 (by decide) (fun c_5 => ?_) (fun c_5 => ?_)
              · have h := h.1 c_5
                exact hret _ _ _ _ (eFt, eCc, eLv, eOb, eOn, eSt, eEd, eSo, eCo) h hP hD hS dX0_readLevel_86
              · have h := h.2 c_5
                refine lv_aload_n hx hb dX0_readLevel_56 rfl (lv_at hl 0 rfl) ?_
                have hPc := hP
                have hDc := hD
                have hFc := rc_freeI hD hS hA
                refine va_calli (va_runV (As := []) (rest := []) ⟨hx, hb, hml, hown, hts⟩ (c_X0_signHere l E eo eb ec H.size eLn eFt eCc eKy eLv eOb eOn eSt eEd eSo eBy eCo _ h) (cwV 0 hts gX0_readLevel_X0_signHere rfl rfl rfl (by decide +kernel) ⟨by show 0 + 1 ≤ 6 + (d + 1); omega, by show 8 + (1 + 11) + 0 ≤ 148 + 24 * (d + 1); omega⟩) ⟨fun a U g mk q => ⟨q.1, q.2.blind⟩, va_recv hK hPc (ci := 0) (q0 := 0) rfl rfl, fun U hU hW => ⟨rfl, by rw [hU], by rw [hU]; exact hPc, hE.call hS hFc hW hU, hDc.weaken (fun _ _ _ _ => trivial)⟩⟩ rfl rfl hl.1 rfl (lv_room (Nat.le_of_ble_eq_true rfl)) dX0_readLevel_57 ⟨Nat.zero_le _, Nat.zero_le _⟩) hS (fun q _ h => hFc q h) hFc (fun r_6 u t H1 locs ht hvm h hB hz1 hk1 hS => ?_)
                obtain ⟨hP1, hD1⟩ := hB
                rw [ht] at hP1
                have hP := hP1
                have hD := hD1.weaken (fun _ _ _ h => hFc _ h)
                generalize H1 = H at hP hS ⊢
                have hP : va_P E.1 vwCl (rw_17 E eo eb ec eLn eFt eCc eKy eLv eOb eOn eSt eEd eSo eBy eCo) H := hP
                have hD : va_D A (rw_17 E eo eb ec eLn eFt eCc eKy eLv eOb eOn eSt eEd eSo eBy eCo) := hD
                refine lv_istore (lv' := [(4, .int r_6), (0, .ref eo), (1, .int p1), (2, .int x2), (3, .int x3)]) hx hb dX0_readLevel_60 hl (by decide) rfl (fun ls hl => ?_)
                refine lv_aload_n hx hb dX0_readLevel_62 rfl (lv_at hl 1 rfl) ?_
                have hPc := hP
                have hDc := hD
                have hFc := rc_freeI hD hS hA
                refine va_callv (va_runV (As := []) (rest := []) ⟨hx, hb, hml, hown, hts⟩ (c_X0_moveOn l E eo eb ec H.size eLn eFt eCc eKy eLv eOb eOn eSt eEd eSo eBy eCo _ h) (cwV 0 hts gX0_readLevel_X0_moveOn rfl rfl rfl (by decide +kernel) ⟨by show 1 + 1 ≤ 6 + (d + 1); omega, by show 8 + (1 + 11) + 20 ≤ 148 + 24 * (d + 1); omega⟩) ⟨fun a U g mk q => ⟨q.1, q.2.blind⟩, va_recv hK hPc (ci := 0) (q0 := 0) rfl rfl, fun U hU hW => ⟨rfl, by rw [hU], by rw [hU]; exact hPc, hE.call hS hFc hW hU, hDc.weaken (fun _ _ _ _ => trivial)⟩⟩ rfl rfl hl.1 rfl (lv_room (Nat.le_of_ble_eq_true rfl)) dX0_readLevel_63 ⟨Nat.zero_le _, Nat.zero_le _⟩) hS (fun q _ h => hFc q h) hFc (fun u t H1 locs ht hvm h hB hz1 hk1 hS => ?_)
                obtain ⟨w_7, w_8, w_9⟩ := u
                obtain ⟨hP1, hD1⟩ := hB
                rw [ht] at hP1
                have hP := hP1
                have hD := hD1.weaken (fun _ _ _ h => hFc _ h)
                generalize H1 = H at hP hS ⊢
                have hP : va_P E.1 vwCl (rw_17 E eo eb ec eLn eFt eCc eKy eLv eOb eOn w_7 w_8 w_9 eBy eCo) H := hP
                have hD : va_D A (rw_17 E eo eb ec eLn eFt eCc eKy eLv eOb eOn w_7 w_8 w_9 eBy eCo) := hD
                refine lv_aload_n hx hb dX0_readLevel_66 rfl (lv_at hl 1 rfl) ?_
                refine lv_iload_n hx hb dX0_readLevel_67 rfl (lv_at hl 2 rfl) ?_
                refine lv_iconst (v := 1) hx hb dX0_readLevel_68 (by decide) ?_
                refine lv_iadd hx hb dX0_readLevel_69 ?_
                have hPc := hP
                have hDc := hD
                have hFc := rc_freeI hD hS hA
                refine va_callv (va_runV (As := [.int (p1 + 1)]) (rest := []) ⟨hx, hb, hml, hown, hts⟩ (ih0 H.size eLn eFt eCc eKy eLv eOb eOn w_7 w_8 w_9 eBy eCo (p1 + 1) _ h) (cwV 1 hts gX0_readLevel_X0_readLevel rfl rfl rfl (by decide +kernel) ⟨by show (6 + d) + 1 ≤ 6 + (d + 1); omega, by show 8 + (5 + 11) + (148 + 24 * d) ≤ 148 + 24 * (d + 1); omega⟩) ⟨fun a U g mk q => ⟨q.1, q.2.blind⟩, va_recv hK hPc (ci := 0) (q0 := 0) rfl rfl, fun U hU hW => ⟨rfl, by rw [hU], by rw [hU]; exact hPc, hE.call hS hFc hW hU, hDc.weaken (fun _ _ _ _ => trivial)⟩⟩ rfl rfl hl.1 rfl (lv_room (Nat.le_of_ble_eq_true rfl)) dX0_readLevel_70 ⟨Nat.zero_le _, Nat.zero_le _⟩) hS (fun q _ h => hFc q h) hFc (fun u t H1 locs ht hvm h hB hz1 hk1 hS => ?_)
                obtain ⟨w_10, w_11, w_12, w_13, w_14, w_15, w_16, w_17, w_18⟩ := u
                obtain ⟨hP1, hD1⟩ := hB
                rw [ht] at hP1
                have hP := hP1
                have hD := hD1.weaken (fun _ _ _ h => hFc _ h)
                generalize H1 = H at hP hS ⊢
                have hP : va_P E.1 vwCl (rw_17 E eo eb ec eLn w_10 w_11 eKy w_12 w_13 w_14 w_15 w_16 w_17 eBy w_18) H := hP
                have hD : va_D A (rw_17 E eo eb ec eLn w_10 w_11 eKy w_12 w_13 w_14 w_15 w_16 w_17 eBy w_18) := hD
                refine lv_aload_n hx hb dX0_readLevel_73 rfl (lv_at hl 1 rfl) ?_
                refine lv_iload hx hb dX0_readLevel_74 (lv_at hl 0 rfl) ?_
                refine lv_ineg hx hb dX0_readLevel_76 ?_
                have hPc := hP
                have hDc := hD
                have hFc := rc_freeI hD hS hA
                refine va_callv (va_runV (As := [.int (-r_6)]) (rest := []) ⟨hx, hb, hml, hown, hts⟩ (c_X0_putCode l E eo eb ec H.size eLn w_10 w_11 eKy w_12 w_13 w_14 w_15 w_16 w_17 eBy w_18 (-r_6) _ h) (cwV 1 hts gX0_readLevel_X0_putCode rfl rfl rfl (by decide +kernel) ⟨by show 0 + 1 ≤ 6 + (d + 1); omega, by show 8 + (2 + 11) + 0 ≤ 148 + 24 * (d + 1); omega⟩) ⟨fun a U g mk q => ⟨q.1, q.2.blind⟩, va_recv hK hPc (ci := 0) (q0 := 0) rfl rfl, fun U hU hW => ⟨rfl, by rw [hU], by rw [hU]; exact hPc, hE.call hS hFc hW hU, hDc.weaken (fun _ _ _ _ => trivial)⟩⟩ rfl rfl hl.1 rfl (lv_room (Nat.le_of_ble_eq_true rfl)) dX0_readLevel_77 ⟨Nat.zero_le _, Nat.zero_le _⟩) hS (fun q _ h => hFc q h) hFc (fun u t H1 locs ht hvm h hB hz1 hk1 hS => ?_)
                obtain ⟨w_19, w_20⟩ := u
                obtain ⟨hP1, hD1⟩ := hB
                rw [ht] at hP1
                have hP := hP1
                have hD := hD1.weaken (fun _ _ _ h => hFc _ h)
                generalize H1 = H at hP hS ⊢
                have hP : va_P E.1 vwCl (rw_17 E eo eb ec eLn w_10 w_19 eKy w_12 w_13 w_14 w_15 w_16 w_17 eBy w_20) H := hP
                have hD : va_D A (rw_17 E eo eb ec eLn w_10 w_19 eKy w_12 w_13 w_14 w_15 w_16 w_17 eBy w_20) := hD
                refine lv_iinc (v := x3 + 1) (lv' := [(3, .int (x3 + 1)), (4, .int r_6), (0, .ref eo), (1, .int p1), (2, .int x2)]) hx hb dX0_readLevel_80 hl (k := 4) rfl (by rfl) (by decide) rfl (fun ls hl => ?_)
                refine lv_goto (tgt := 31) hx hb dX0_readLevel_83 (by decide) ?_
                exact ih x2 (x3 + 1) w_10 w_19 w_12 w_13 w_14 w_15 w_16 w_17 w_20 h _ _ hP hD hS ls (lv_sub hl [2, 3, 4, 0] rfl)
      unfold wq_X0_readLevel at h
      obtain ⟨H, hH⟩ : ∃ H, H = s.heap := ⟨_, rfl⟩
      obtain ⟨locs, hlocs⟩ : ∃ locs : List Loc, locs = [] := ⟨_, rfl⟩
      have hP : va_P E.1 vwCl (rw_17 E eo eb ec eLn eFt eCc eKy eLv eOb eOn eSt eEd eSo eBy eCo) H := by rw [hH]; exact hP
      have hS : va_S A s.heap H locs := by rw [hH, hlocs]; exact hS
      suffices hgo : W p l e ({ frames := 6 + (d + 1), cells := 0, slots := 0, locals := 148 + 24 * (d + 1) } : Room) s m args below meth c H locs 0 0 QQ (F0 m 0 ls []) from by rw [hH, hlocs] at hgo; exact hgo
      refine lv_iload_n hx hb dX0_readLevel_0 rfl (lv_at hl 1 rfl) ?_
      refine lv_iconst (v := 5) hx hb dX0_readLevel_1 (by decide) ?_
      refine lv_icmp_lt (tgt := 10) hx hb dX0_readLevel_2 (by decide) (fun c_21 => ?_) (fun c_21 => ?_)
      · have h := h.1 c_21
        refine lv_aload_n hx hb dX0_readLevel_10 rfl (lv_at hl 0 rfl) ?_
        refine lv_iload_n hx hb dX0_readLevel_11 rfl (lv_at hl 1 rfl) ?_
        refine lv_iconst (v := 1) hx hb dX0_readLevel_12 (by decide) ?_
        refine lv_iadd hx hb dX0_readLevel_13 ?_
        have hPc := hP
        have hDc := hD
        have hFc := rc_freeI hD hS hA
        refine va_callv (va_runV (As := [.int (p1 + 1)]) (rest := []) ⟨hx, hb, hml, hown, hts⟩ (ih0 H.size eLn eFt eCc eKy eLv eOb eOn eSt eEd eSo eBy eCo (p1 + 1) _ h) (cwV 1 hts gX0_readLevel_X0_readLevel rfl rfl rfl (by decide +kernel) ⟨by show (6 + d) + 1 ≤ 6 + (d + 1); omega, by show 8 + (5 + 11) + (148 + 24 * d) ≤ 148 + 24 * (d + 1); omega⟩) ⟨fun a U g mk q => ⟨q.1, q.2.blind⟩, va_recv hK hPc (ci := 0) (q0 := 0) rfl rfl, fun U hU hW => ⟨rfl, by rw [hU], by rw [hU]; exact hPc, hE.call hS hFc hW hU, hDc.weaken (fun _ _ _ _ => trivial)⟩⟩ rfl rfl hl.1 rfl (lv_room (Nat.le_of_ble_eq_true rfl)) dX0_readLevel_14 ⟨Nat.zero_le _, Nat.zero_le _⟩) hS (fun q _ h => hFc q h) hFc (fun u t H1 locs ht hvm h hB hz1 hk1 hS => ?_)
        obtain ⟨w_22, w_23, w_24, w_25, w_26, w_27, w_28, w_29, w_30⟩ := u
        obtain ⟨hP1, hD1⟩ := hB
        rw [ht] at hP1
        have hP := hP1
        have hD := hD1.weaken (fun _ _ _ h => hFc _ h)
        generalize H1 = H at hP hS ⊢
        have hP : va_P E.1 vwCl (rw_17 E eo eb ec eLn w_22 w_23 eKy w_24 w_25 w_26 w_27 w_28 w_29 eBy w_30) H := hP
        have hD : va_D A (rw_17 E eo eb ec eLn w_22 w_23 eKy w_24 w_25 w_26 w_27 w_28 w_29 eBy w_30) := hD
        refine lv_iload_n hx hb dX0_readLevel_17 rfl (lv_at hl 1 rfl) ?_
        refine lv_iconst (v := 2) hx hb dX0_readLevel_18 (by decide) ?_
        refine lv_icmp_ne (tgt := 26) hx hb dX0_readLevel_19 (by decide) (fun c_31 => ?_) (fun c_31 => ?_)
        · have h := h.1 c_31
          refine lv_bipush (v := 96) hx hb dX0_readLevel_26 (by decide) ?_
          refine lv_istore_n (lv' := [(2, .int 96), (0, .ref eo), (1, .int p1)]) hx hb dX0_readLevel_28 rfl hl (by decide) rfl (fun ls hl => ?_)
          refine lv_iconst (v := 0) hx hb dX0_readLevel_29 (by decide) ?_
          refine lv_istore_n (lv' := [(3, .int 0), (2, .int 96), (0, .ref eo), (1, .int p1)]) hx hb dX0_readLevel_30 rfl hl (by decide) rfl (fun ls hl => ?_)
          obtain ⟨n, h⟩ := h
          exact J31 n 96 0 w_22 w_23 w_24 w_25 w_26 w_27 w_28 w_29 w_30 h _ _ hP hD hS ls (lv_sub hl [2, 3, 1, 0] rfl)
        · have h := h.2 c_31
          refine lv_iconst (v := 1) hx hb dX0_readLevel_22 (by decide) ?_
          refine lv_goto (tgt := 28) hx hb dX0_readLevel_23 (by decide) ?_
          refine lv_istore_n (lv' := [(2, .int 1), (0, .ref eo), (1, .int p1)]) hx hb dX0_readLevel_28 rfl hl (by decide) rfl (fun ls hl => ?_)
          refine lv_iconst (v := 0) hx hb dX0_readLevel_29 (by decide) ?_
          refine lv_istore_n (lv' := [(3, .int 0), (2, .int 1), (0, .ref eo), (1, .int p1)]) hx hb dX0_readLevel_30 rfl hl (by decide) rfl (fun ls hl => ?_)
          obtain ⟨n, h⟩ := h
          exact J31 n 1 0 w_22 w_23 w_24 w_25 w_26 w_27 w_28 w_29 w_30 h _ _ hP hD hS ls (lv_sub hl [2, 3, 1, 0] rfl)
      · have h := h.2 c_21
        refine lv_aload_n hx hb dX0_readLevel_5 rfl (lv_at hl 0 rfl) ?_
        have hPc := hP
        have hDc := hD
        have hFc := rc_freeI hD hS hA
        refine va_callv (va_runV (As := []) (rest := []) ⟨hx, hb, hml, hown, hts⟩ (ih1 H.size eLn eFt eCc eKy eLv eOb eOn eSt eEd eSo eBy eCo 0 _ h) (cwV 0 hts gX0_readLevel_X0_readPiece rfl rfl rfl (by decide +kernel) ⟨by show (6 + d) + 1 ≤ 6 + (d + 1); omega, by show 8 + (1 + 11) + (148 + 24 * d) ≤ 148 + 24 * (d + 1); omega⟩) ⟨fun a U g mk q => ⟨q.1, q.2.blind⟩, va_recv hK hPc (ci := 0) (q0 := 0) rfl rfl, fun U hU hW => ⟨rfl, by rw [hU], by rw [hU]; exact hPc, hE.call hS hFc hW hU, hDc.weaken (fun _ _ _ _ => trivial)⟩⟩ rfl rfl hl.1 rfl (lv_room (Nat.le_of_ble_eq_true rfl)) dX0_readLevel_6 ⟨Nat.zero_le _, Nat.zero_le _⟩) hS (fun q _ h => hFc q h) hFc (fun u t H1 locs ht hvm h hB hz1 hk1 hS => ?_)
        obtain ⟨w_32, w_33, w_34, w_35, w_36, w_37, w_38, w_39, w_40⟩ := u
        obtain ⟨hP1, hD1⟩ := hB
        rw [ht] at hP1
        have hP := hP1
        have hD := hD1.weaken (fun _ _ _ h => hFc _ h)
        generalize H1 = H at hP hS ⊢
        have hP : va_P E.1 vwCl (rw_17 E eo eb ec eLn w_32 w_33 eKy w_34 w_35 w_36 w_37 w_38 w_39 eBy w_40) H := hP
        have hD : va_D A (rw_17 E eo eb ec eLn w_32 w_33 eKy w_34 w_35 w_36 w_37 w_38 w_39 eBy w_40) := hD
        exact hret _ _ _ _ (w_32, w_33, w_34, w_35, w_36, w_37, w_38, w_39, w_40) h hP hD hS dX0_readLevel_9
    · intro sz eLn eFt eCc eKy eLv eOb eOn eSt eEd eSo eBy eCo p1 Q h
      have h : wq_X0_readPiece (wpG d) p1 eLn eFt eCc eKy eLv eOb eOn eSt eEd eSo eBy eCo Q := h
      refine rc_enterV (cc := cX0_readPiece) (maxL := 1) (by decide) rfl (Nat.le_of_ble_eq_true rfl) ?_
      intro p e s m args below meth c QQ A hx hb hml hown hts hmn hE hP hD hA hret ls hl
      have hown : s.vm.findClass RX0 = some m.cls := hown
      have hK := hE.1
      have hS : va_S A s.heap s.heap [] := va_S.rf
      have hl : lv_has ls 1 [(0, .ref eo)] := hl
      have n_X0 : ∀ w ∈ wsX00, w ∈ wsX0_readPiece := fun _ h => List.mem_cons_of_mem _ (List.mem_append_right _ h)
      have k_47 := hts (.fieldLink RX0 47 "RidgeClaps$Reader" "sort" "I") (List.mem_of_getElem? (i := 1) rfl)
      unfold wq_X0_readPiece at h
      obtain ⟨H, hH⟩ : ∃ H, H = s.heap := ⟨_, rfl⟩
      obtain ⟨locs, hlocs⟩ : ∃ locs : List Loc, locs = [] := ⟨_, rfl⟩
      have hP : va_P E.1 vwCl (rw_17 E eo eb ec eLn eFt eCc eKy eLv eOb eOn eSt eEd eSo eBy eCo) H := by rw [hH]; exact hP
      have hS : va_S A s.heap H locs := by rw [hH, hlocs]; exact hS
      suffices hgo : W p l e ({ frames := 6 + (d + 1), cells := 0, slots := 0, locals := 148 + 24 * (d + 1) } : Room) s m args below meth c H locs 0 0 QQ (F0 m 0 ls []) from by rw [hH, hlocs] at hgo; exact hgo
      refine lv_aload_n hx hb dX0_readPiece_0 rfl (lv_at hl 0 rfl) ?_
      refine va_get (D := E.1) (ci := 0) (v := .int eSo) (C := RX0) (T := TX0) (N := 12) hx hb hts n_X0 hown hK hP 0 rfl rfl 11 (by decide) k_47 (fun _ h9 => h9) rfl dX0_readPiece_1 ?_
      refine lv_iconst (v := 1) hx hb dX0_readPiece_4 (by decide) ?_
      refine lv_icmp_eq (tgt := 15) hx hb dX0_readPiece_5 (by decide) (fun c_1 => ?_) (fun c_1 => ?_)
      · have h := h.1 c_1
        refine lv_aload_n hx hb dX0_readPiece_15 rfl (lv_at hl 0 rfl) ?_
        have hPc := hP
        have hDc := hD
        have hFc := rc_freeI hD hS hA
        refine va_callv (va_runV (As := []) (rest := []) ⟨hx, hb, hml, hown, hts⟩ (c_X0_readLeaf l E eo eb ec H.size eLn eFt eCc eKy eLv eOb eOn eSt eEd eSo eBy eCo _ h) (cwV 0 hts gX0_readPiece_X0_readLeaf rfl rfl rfl (by decide +kernel) ⟨by show 5 + 1 ≤ 6 + (d + 1); omega, by show 8 + (2 + 11) + 127 ≤ 148 + 24 * (d + 1); omega⟩) ⟨fun a U g mk q => ⟨q.1, q.2.blind⟩, va_recv hK hPc (ci := 0) (q0 := 0) rfl rfl, fun U hU hW => ⟨rfl, by rw [hU], by rw [hU]; exact hPc, hE.call hS hFc hW hU, hDc.weaken (fun _ _ _ _ => trivial)⟩⟩ rfl rfl hl.1 rfl (lv_room (Nat.le_of_ble_eq_true rfl)) dX0_readPiece_16 ⟨Nat.zero_le _, Nat.zero_le _⟩) hS (fun q _ h => hFc q h) hFc (fun u t H1 locs ht hvm h hB hz1 hk1 hS => ?_)
        obtain ⟨w_2, w_3, w_4, w_5, w_6, w_7, w_8⟩ := u
        obtain ⟨hP1, hD1⟩ := hB
        rw [ht] at hP1
        have hP := hP1
        have hD := hD1.weaken (fun _ _ _ h => hFc _ h)
        generalize H1 = H at hP hS ⊢
        have hP : va_P E.1 vwCl (rw_17 E eo eb ec eLn w_2 w_3 eKy w_4 eOb eOn w_5 w_6 w_7 eBy w_8) H := hP
        have hD : va_D A (rw_17 E eo eb ec eLn w_2 w_3 eKy w_4 eOb eOn w_5 w_6 w_7 eBy w_8) := hD
        refine lv_goto (tgt := 58) hx hb dX0_readPiece_19 (by decide) ?_
        exact hret _ _ _ _ (w_2, w_3, w_4, eOb, eOn, w_5, w_6, w_7, w_8) h hP hD hS dX0_readPiece_58
      · have h := h.2 c_1
        refine lv_aload_n hx hb dX0_readPiece_8 rfl (lv_at hl 0 rfl) ?_
        refine va_get (D := E.1) (ci := 0) (v := .int eSo) (C := RX0) (T := TX0) (N := 12) hx hb hts n_X0 hown hK hP 0 rfl rfl 11 (by decide) k_47 (fun _ h9 => h9) rfl dX0_readPiece_9 ?_
        refine lv_if_ne (tgt := 22) hx hb dX0_readPiece_12 (by decide) (fun c_9 => ?_) (fun c_9 => ?_)
        · have h := h.1 c_9
          refine lv_aload_n hx hb dX0_readPiece_22 rfl (lv_at hl 0 rfl) ?_
          have hPc := hP
          have hDc := hD
          have hFc := rc_freeI hD hS hA
          refine va_calli (va_runV (As := []) (rest := []) ⟨hx, hb, hml, hown, hts⟩ (c_X0_signHere l E eo eb ec H.size eLn eFt eCc eKy eLv eOb eOn eSt eEd eSo eBy eCo _ h) (cwV 0 hts gX0_readPiece_X0_signHere rfl rfl rfl (by decide +kernel) ⟨by show 0 + 1 ≤ 6 + (d + 1); omega, by show 8 + (1 + 11) + 0 ≤ 148 + 24 * (d + 1); omega⟩) ⟨fun a U g mk q => ⟨q.1, q.2.blind⟩, va_recv hK hPc (ci := 0) (q0 := 0) rfl rfl, fun U hU hW => ⟨rfl, by rw [hU], by rw [hU]; exact hPc, hE.call hS hFc hW hU, hDc.weaken (fun _ _ _ _ => trivial)⟩⟩ rfl rfl hl.1 rfl (lv_room (Nat.le_of_ble_eq_true rfl)) dX0_readPiece_23 ⟨Nat.zero_le _, Nat.zero_le _⟩) hS (fun q _ h => hFc q h) hFc (fun r_10 u t H1 locs ht hvm h hB hz1 hk1 hS => ?_)
          obtain ⟨hP1, hD1⟩ := hB
          rw [ht] at hP1
          have hP := hP1
          have hD := hD1.weaken (fun _ _ _ h => hFc _ h)
          generalize H1 = H at hP hS ⊢
          have hP : va_P E.1 vwCl (rw_17 E eo eb ec eLn eFt eCc eKy eLv eOb eOn eSt eEd eSo eBy eCo) H := hP
          have hD : va_D A (rw_17 E eo eb ec eLn eFt eCc eKy eLv eOb eOn eSt eEd eSo eBy eCo) := hD
          refine lv_bipush (v := 33) hx hb dX0_readPiece_26 (by decide) ?_
          refine lv_icmp_ne (tgt := 38) hx hb dX0_readPiece_28 (by decide) (fun c_11 => ?_) (fun c_11 => ?_)
          · have h := h.1 c_11
            refine lv_aload_n hx hb dX0_readPiece_38 rfl (lv_at hl 0 rfl) ?_
            have hPc := hP
            have hDc := hD
            have hFc := rc_freeI hD hS hA
            refine va_calli (va_runV (As := []) (rest := []) ⟨hx, hb, hml, hown, hts⟩ (c_X0_signHere l E eo eb ec H.size eLn eFt eCc eKy eLv eOb eOn eSt eEd eSo eBy eCo _ h) (cwV 0 hts gX0_readPiece_X0_signHere rfl rfl rfl (by decide +kernel) ⟨by show 0 + 1 ≤ 6 + (d + 1); omega, by show 8 + (1 + 11) + 0 ≤ 148 + 24 * (d + 1); omega⟩) ⟨fun a U g mk q => ⟨q.1, q.2.blind⟩, va_recv hK hPc (ci := 0) (q0 := 0) rfl rfl, fun U hU hW => ⟨rfl, by rw [hU], by rw [hU]; exact hPc, hE.call hS hFc hW hU, hDc.weaken (fun _ _ _ _ => trivial)⟩⟩ rfl rfl hl.1 rfl (lv_room (Nat.le_of_ble_eq_true rfl)) dX0_readPiece_39 ⟨Nat.zero_le _, Nat.zero_le _⟩) hS (fun q _ h => hFc q h) hFc (fun r_12 u t H1 locs ht hvm h hB hz1 hk1 hS => ?_)
            obtain ⟨hP1, hD1⟩ := hB
            rw [ht] at hP1
            have hP := hP1
            have hD := hD1.weaken (fun _ _ _ h => hFc _ h)
            generalize H1 = H at hP hS ⊢
            have hP : va_P E.1 vwCl (rw_17 E eo eb ec eLn eFt eCc eKy eLv eOb eOn eSt eEd eSo eBy eCo) H := hP
            have hD : va_D A (rw_17 E eo eb ec eLn eFt eCc eKy eLv eOb eOn eSt eEd eSo eBy eCo) := hD
            refine lv_bipush (v := 40) hx hb dX0_readPiece_42 (by decide) ?_
            refine lv_icmp_ne (tgt := 54) hx hb dX0_readPiece_44 (by decide) (fun c_13 => ?_) (fun c_13 => ?_)
            · have h := h.1 c_13
              refine lv_aload_n hx hb dX0_readPiece_54 rfl (lv_at hl 0 rfl) ?_
              have hPc := hP
              have hDc := hD
              have hFc := rc_freeI hD hS hA
              refine va_callv (va_runV (As := []) (rest := []) ⟨hx, hb, hml, hown, hts⟩ (c_X0_setFault l E eo eb ec H.size eLn eFt eCc eKy eLv eOb eOn eSt eEd eSo eBy eCo _ h) (cwV 0 hts gX0_readPiece_X0_setFault rfl rfl rfl (by decide +kernel) ⟨by show 0 + 1 ≤ 6 + (d + 1); omega, by show 8 + (1 + 11) + 0 ≤ 148 + 24 * (d + 1); omega⟩) ⟨fun a U g mk q => ⟨q.1, q.2.blind⟩, va_recv hK hPc (ci := 0) (q0 := 0) rfl rfl, fun U hU hW => ⟨rfl, by rw [hU], by rw [hU]; exact hPc, hE.call hS hFc hW hU, hDc.weaken (fun _ _ _ _ => trivial)⟩⟩ rfl rfl hl.1 rfl (lv_room (Nat.le_of_ble_eq_true rfl)) dX0_readPiece_55 ⟨Nat.zero_le _, Nat.zero_le _⟩) hS (fun q _ h => hFc q h) hFc (fun u t H1 locs ht hvm h hB hz1 hk1 hS => ?_)
              obtain ⟨w_14, rfl⟩ : ∃ z, z = u := ⟨_, rfl⟩
              obtain ⟨hP1, hD1⟩ := hB
              rw [ht] at hP1
              have hP := hP1
              have hD := hD1.weaken (fun _ _ _ h => hFc _ h)
              generalize H1 = H at hP hS ⊢
              have hP : va_P E.1 vwCl (rw_17 E eo eb ec eLn w_14 eCc eKy eLv eOb eOn eSt eEd eSo eBy eCo) H := hP
              have hD : va_D A (rw_17 E eo eb ec eLn w_14 eCc eKy eLv eOb eOn eSt eEd eSo eBy eCo) := hD
              exact hret _ _ _ _ (w_14, eCc, eLv, eOb, eOn, eSt, eEd, eSo, eCo) h hP hD hS dX0_readPiece_58
            · have h := h.2 c_13
              refine lv_aload_n hx hb dX0_readPiece_47 rfl (lv_at hl 0 rfl) ?_
              have hPc := hP
              have hDc := hD
              have hFc := rc_freeI hD hS hA
              refine va_callv (va_runV (As := []) (rest := []) ⟨hx, hb, hml, hown, hts⟩ (ih3 H.size eLn eFt eCc eKy eLv eOb eOn eSt eEd eSo eBy eCo 0 _ h) (cwV 0 hts gX0_readPiece_X0_readBracket rfl rfl rfl (by decide +kernel) ⟨by show (6 + d) + 1 ≤ 6 + (d + 1); omega, by show 8 + (1 + 11) + (148 + 24 * d) ≤ 148 + 24 * (d + 1); omega⟩) ⟨fun a U g mk q => ⟨q.1, q.2.blind⟩, va_recv hK hPc (ci := 0) (q0 := 0) rfl rfl, fun U hU hW => ⟨rfl, by rw [hU], by rw [hU]; exact hPc, hE.call hS hFc hW hU, hDc.weaken (fun _ _ _ _ => trivial)⟩⟩ rfl rfl hl.1 rfl (lv_room (Nat.le_of_ble_eq_true rfl)) dX0_readPiece_48 ⟨Nat.zero_le _, Nat.zero_le _⟩) hS (fun q _ h => hFc q h) hFc (fun u t H1 locs ht hvm h hB hz1 hk1 hS => ?_)
              obtain ⟨w_15, w_16, w_17, w_18, w_19, w_20, w_21, w_22, w_23⟩ := u
              obtain ⟨hP1, hD1⟩ := hB
              rw [ht] at hP1
              have hP := hP1
              have hD := hD1.weaken (fun _ _ _ h => hFc _ h)
              generalize H1 = H at hP hS ⊢
              have hP : va_P E.1 vwCl (rw_17 E eo eb ec eLn w_15 w_16 eKy w_17 w_18 w_19 w_20 w_21 w_22 eBy w_23) H := hP
              have hD : va_D A (rw_17 E eo eb ec eLn w_15 w_16 eKy w_17 w_18 w_19 w_20 w_21 w_22 eBy w_23) := hD
              refine lv_goto (tgt := 58) hx hb dX0_readPiece_51 (by decide) ?_
              exact hret _ _ _ _ (w_15, w_16, w_17, w_18, w_19, w_20, w_21, w_22, w_23) h hP hD hS dX0_readPiece_58
          · have h := h.2 c_11
            refine lv_aload_n hx hb dX0_readPiece_31 rfl (lv_at hl 0 rfl) ?_
            have hPc := hP
            have hDc := hD
            have hFc := rc_freeI hD hS hA
            refine va_callv (va_runV (As := []) (rest := []) ⟨hx, hb, hml, hown, hts⟩ (ih2 H.size eLn eFt eCc eKy eLv eOb eOn eSt eEd eSo eBy eCo 0 _ h) (cwV 0 hts gX0_readPiece_X0_readNot rfl rfl rfl (by decide +kernel) ⟨by show (6 + d) + 1 ≤ 6 + (d + 1); omega, by show 8 + (1 + 11) + (148 + 24 * d) ≤ 148 + 24 * (d + 1); omega⟩) ⟨fun a U g mk q => ⟨q.1, q.2.blind⟩, va_recv hK hPc (ci := 0) (q0 := 0) rfl rfl, fun U hU hW => ⟨rfl, by rw [hU], by rw [hU]; exact hPc, hE.call hS hFc hW hU, hDc.weaken (fun _ _ _ _ => trivial)⟩⟩ rfl rfl hl.1 rfl (lv_room (Nat.le_of_ble_eq_true rfl)) dX0_readPiece_32 ⟨Nat.zero_le _, Nat.zero_le _⟩) hS (fun q _ h => hFc q h) hFc (fun u t H1 locs ht hvm h hB hz1 hk1 hS => ?_)
            obtain ⟨w_24, w_25, w_26, w_27, w_28, w_29, w_30, w_31, w_32⟩ := u
            obtain ⟨hP1, hD1⟩ := hB
            rw [ht] at hP1
            have hP := hP1
            have hD := hD1.weaken (fun _ _ _ h => hFc _ h)
            generalize H1 = H at hP hS ⊢
            have hP : va_P E.1 vwCl (rw_17 E eo eb ec eLn w_24 w_25 eKy w_26 w_27 w_28 w_29 w_30 w_31 eBy w_32) H := hP
            have hD : va_D A (rw_17 E eo eb ec eLn w_24 w_25 eKy w_26 w_27 w_28 w_29 w_30 w_31 eBy w_32) := hD
            refine lv_goto (tgt := 58) hx hb dX0_readPiece_35 (by decide) ?_
            exact hret _ _ _ _ (w_24, w_25, w_26, w_27, w_28, w_29, w_30, w_31, w_32) h hP hD hS dX0_readPiece_58
        · have h := h.2 c_9
          refine lv_aload_n hx hb dX0_readPiece_15 rfl (lv_at hl 0 rfl) ?_
          have hPc := hP
          have hDc := hD
          have hFc := rc_freeI hD hS hA
          refine va_callv (va_runV (As := []) (rest := []) ⟨hx, hb, hml, hown, hts⟩ (c_X0_readLeaf l E eo eb ec H.size eLn eFt eCc eKy eLv eOb eOn eSt eEd eSo eBy eCo _ h) (cwV 0 hts gX0_readPiece_X0_readLeaf rfl rfl rfl (by decide +kernel) ⟨by show 5 + 1 ≤ 6 + (d + 1); omega, by show 8 + (2 + 11) + 127 ≤ 148 + 24 * (d + 1); omega⟩) ⟨fun a U g mk q => ⟨q.1, q.2.blind⟩, va_recv hK hPc (ci := 0) (q0 := 0) rfl rfl, fun U hU hW => ⟨rfl, by rw [hU], by rw [hU]; exact hPc, hE.call hS hFc hW hU, hDc.weaken (fun _ _ _ _ => trivial)⟩⟩ rfl rfl hl.1 rfl (lv_room (Nat.le_of_ble_eq_true rfl)) dX0_readPiece_16 ⟨Nat.zero_le _, Nat.zero_le _⟩) hS (fun q _ h => hFc q h) hFc (fun u t H1 locs ht hvm h hB hz1 hk1 hS => ?_)
          obtain ⟨w_33, w_34, w_35, w_36, w_37, w_38, w_39⟩ := u
          obtain ⟨hP1, hD1⟩ := hB
          rw [ht] at hP1
          have hP := hP1
          have hD := hD1.weaken (fun _ _ _ h => hFc _ h)
          generalize H1 = H at hP hS ⊢
          have hP : va_P E.1 vwCl (rw_17 E eo eb ec eLn w_33 w_34 eKy w_35 eOb eOn w_36 w_37 w_38 eBy w_39) H := hP
          have hD : va_D A (rw_17 E eo eb ec eLn w_33 w_34 eKy w_35 eOb eOn w_36 w_37 w_38 eBy w_39) := hD
          refine lv_goto (tgt := 58) hx hb dX0_readPiece_19 (by decide) ?_
          exact hret _ _ _ _ (w_33, w_34, w_35, eOb, eOn, w_36, w_37, w_38, w_39) h hP hD hS dX0_readPiece_58
    · intro sz eLn eFt eCc eKy eLv eOb eOn eSt eEd eSo eBy eCo p1 Q h
      have h : wq_X0_readNot (wpG d) p1 eLn eFt eCc eKy eLv eOb eOn eSt eEd eSo eBy eCo Q := h
      refine rc_enterV (cc := cX0_readNot) (maxL := 1) (by decide) rfl (Nat.le_of_ble_eq_true rfl) ?_
      intro p e s m args below meth c QQ A hx hb hml hown hts hmn hE hP hD hA hret ls hl
      have hown : s.vm.findClass RX0 = some m.cls := hown
      have hK := hE.1
      have hS : va_S A s.heap s.heap [] := va_S.rf
      have hl : lv_has ls 1 [(0, .ref eo)] := hl
      have n_X0 : ∀ w ∈ wsX00, w ∈ wsX0_readNot := fun _ h => List.mem_cons_of_mem _ (List.mem_append_right _ h)
      have k_38 := hts (.fieldLink RX0 38 "RidgeClaps$Reader" "openNots" "I") (List.mem_of_getElem? (i := 1) rfl)
      unfold wq_X0_readNot at h
      obtain ⟨H, hH⟩ : ∃ H, H = s.heap := ⟨_, rfl⟩
      obtain ⟨locs, hlocs⟩ : ∃ locs : List Loc, locs = [] := ⟨_, rfl⟩
      have hP : va_P E.1 vwCl (rw_17 E eo eb ec eLn eFt eCc eKy eLv eOb eOn eSt eEd eSo eBy eCo) H := by rw [hH]; exact hP
      have hS : va_S A s.heap H locs := by rw [hH, hlocs]; exact hS
      suffices hgo : W p l e ({ frames := 6 + (d + 1), cells := 0, slots := 0, locals := 148 + 24 * (d + 1) } : Room) s m args below meth c H locs 0 0 QQ (F0 m 0 ls []) from by rw [hH, hlocs] at hgo; exact hgo
      refine lv_aload_n hx hb dX0_readNot_0 rfl (lv_at hl 0 rfl) ?_
      refine va_get (D := E.1) (ci := 0) (v := .int eOn) (C := RX0) (T := TX0) (N := 12) hx hb hts n_X0 hown hK hP 0 rfl rfl 8 (by decide) k_38 (fun _ h9 => h9) rfl dX0_readNot_1 ?_
      refine lv_bipush (v := 8) hx hb dX0_readNot_4 (by decide) ?_
      refine lv_icmp_lt (tgt := 14) hx hb dX0_readNot_6 (by decide) (fun c_1 => ?_) (fun c_1 => ?_)
      · have h := h.1 c_1
        refine lv_aload_n hx hb dX0_readNot_14 rfl (lv_at hl 0 rfl) ?_
        refine lv_dup hx hb dX0_readNot_15 rfl ?_
        refine va_get (D := E.1) (ci := 0) (v := .int eOn) (C := RX0) (T := TX0) (N := 12) hx hb hts n_X0 hown hK hP 0 rfl rfl 8 (by decide) k_38 (fun _ h9 => h9) rfl dX0_readNot_16 ?_
        refine lv_iconst (v := 1) hx hb dX0_readNot_19 (by decide) ?_
        refine lv_iadd hx hb dX0_readNot_20 ?_
        refine va_put (D := E.1) (ci := 0) (v := .int (eOn + 1)) (ty := .int) (C := RX0) (T := TX0) (N := 12) hx hb hts n_X0 tyX0 tyX0_ok nmX0 hown hK hP hD hS 0 rfl rfl 8 (by decide) k_38 (fun _ h9 => h9) rfl (by decide +kernel) rfl rfl (Nat.le_of_ble_eq_true rfl) dX0_readNot_21 (fun H locs hP hD hS => ?_)
        have hP : va_P E.1 vwCl (rw_17 E eo eb ec eLn eFt eCc eKy eLv eOb (eOn + 1) eSt eEd eSo eBy eCo) H := hP
        have hD : va_D A (rw_17 E eo eb ec eLn eFt eCc eKy eLv eOb (eOn + 1) eSt eEd eSo eBy eCo) := hD
        refine lv_aload_n hx hb dX0_readNot_24 rfl (lv_at hl 0 rfl) ?_
        have hPc := hP
        have hDc := hD
        have hFc := rc_freeI hD hS hA
        refine va_callv (va_runV (As := []) (rest := []) ⟨hx, hb, hml, hown, hts⟩ (c_X0_moveOn l E eo eb ec H.size eLn eFt eCc eKy eLv eOb (eOn + 1) eSt eEd eSo eBy eCo _ h) (cwV 0 hts gX0_readNot_X0_moveOn rfl rfl rfl (by decide +kernel) ⟨by show 1 + 1 ≤ 6 + (d + 1); omega, by show 8 + (1 + 11) + 20 ≤ 148 + 24 * (d + 1); omega⟩) ⟨fun a U g mk q => ⟨q.1, q.2.blind⟩, va_recv hK hPc (ci := 0) (q0 := 0) rfl rfl, fun U hU hW => ⟨rfl, by rw [hU], by rw [hU]; exact hPc, hE.call hS hFc hW hU, hDc.weaken (fun _ _ _ _ => trivial)⟩⟩ rfl rfl hl.1 rfl (lv_room (Nat.le_of_ble_eq_true rfl)) dX0_readNot_25 ⟨Nat.zero_le _, Nat.zero_le _⟩) hS (fun q _ h => hFc q h) hFc (fun u t H1 locs ht hvm h hB hz1 hk1 hS => ?_)
        obtain ⟨w_2, w_3, w_4⟩ := u
        obtain ⟨hP1, hD1⟩ := hB
        rw [ht] at hP1
        have hP := hP1
        have hD := hD1.weaken (fun _ _ _ h => hFc _ h)
        generalize H1 = H at hP hS ⊢
        have hP : va_P E.1 vwCl (rw_17 E eo eb ec eLn eFt eCc eKy eLv eOb (eOn + 1) w_2 w_3 w_4 eBy eCo) H := hP
        have hD : va_D A (rw_17 E eo eb ec eLn eFt eCc eKy eLv eOb (eOn + 1) w_2 w_3 w_4 eBy eCo) := hD
        refine lv_aload_n hx hb dX0_readNot_28 rfl (lv_at hl 0 rfl) ?_
        have hPc := hP
        have hDc := hD
        have hFc := rc_freeI hD hS hA
        refine va_callv (va_runV (As := []) (rest := []) ⟨hx, hb, hml, hown, hts⟩ (ih1 H.size eLn eFt eCc eKy eLv eOb (eOn + 1) w_2 w_3 w_4 eBy eCo 0 _ h) (cwV 0 hts gX0_readNot_X0_readPiece rfl rfl rfl (by decide +kernel) ⟨by show (6 + d) + 1 ≤ 6 + (d + 1); omega, by show 8 + (1 + 11) + (148 + 24 * d) ≤ 148 + 24 * (d + 1); omega⟩) ⟨fun a U g mk q => ⟨q.1, q.2.blind⟩, va_recv hK hPc (ci := 0) (q0 := 0) rfl rfl, fun U hU hW => ⟨rfl, by rw [hU], by rw [hU]; exact hPc, hE.call hS hFc hW hU, hDc.weaken (fun _ _ _ _ => trivial)⟩⟩ rfl rfl hl.1 rfl (lv_room (Nat.le_of_ble_eq_true rfl)) dX0_readNot_29 ⟨Nat.zero_le _, Nat.zero_le _⟩) hS (fun q _ h => hFc q h) hFc (fun u t H1 locs ht hvm h hB hz1 hk1 hS => ?_)
        obtain ⟨w_5, w_6, w_7, w_8, w_9, w_10, w_11, w_12, w_13⟩ := u
        obtain ⟨hP1, hD1⟩ := hB
        rw [ht] at hP1
        have hP := hP1
        have hD := hD1.weaken (fun _ _ _ h => hFc _ h)
        generalize H1 = H at hP hS ⊢
        have hP : va_P E.1 vwCl (rw_17 E eo eb ec eLn w_5 w_6 eKy w_7 w_8 w_9 w_10 w_11 w_12 eBy w_13) H := hP
        have hD : va_D A (rw_17 E eo eb ec eLn w_5 w_6 eKy w_7 w_8 w_9 w_10 w_11 w_12 eBy w_13) := hD
        refine lv_aload_n hx hb dX0_readNot_32 rfl (lv_at hl 0 rfl) ?_
        refine lv_bipush (v := (-33)) hx hb dX0_readNot_33 (by decide) ?_
        have hPc := hP
        have hDc := hD
        have hFc := rc_freeI hD hS hA
        refine va_callv (va_runV (As := [.int (-33)]) (rest := []) ⟨hx, hb, hml, hown, hts⟩ (c_X0_putCode l E eo eb ec H.size eLn w_5 w_6 eKy w_7 w_8 w_9 w_10 w_11 w_12 eBy w_13 (-33) _ h) (cwV 1 hts gX0_readNot_X0_putCode rfl rfl rfl (by decide +kernel) ⟨by show 0 + 1 ≤ 6 + (d + 1); omega, by show 8 + (2 + 11) + 0 ≤ 148 + 24 * (d + 1); omega⟩) ⟨fun a U g mk q => ⟨q.1, q.2.blind⟩, va_recv hK hPc (ci := 0) (q0 := 0) rfl rfl, fun U hU hW => ⟨rfl, by rw [hU], by rw [hU]; exact hPc, hE.call hS hFc hW hU, hDc.weaken (fun _ _ _ _ => trivial)⟩⟩ rfl rfl hl.1 rfl (lv_room (Nat.le_of_ble_eq_true rfl)) dX0_readNot_35 ⟨Nat.zero_le _, Nat.zero_le _⟩) hS (fun q _ h => hFc q h) hFc (fun u t H1 locs ht hvm h hB hz1 hk1 hS => ?_)
        obtain ⟨w_14, w_15⟩ := u
        obtain ⟨hP1, hD1⟩ := hB
        rw [ht] at hP1
        have hP := hP1
        have hD := hD1.weaken (fun _ _ _ h => hFc _ h)
        generalize H1 = H at hP hS ⊢
        have hP : va_P E.1 vwCl (rw_17 E eo eb ec eLn w_5 w_14 eKy w_7 w_8 w_9 w_10 w_11 w_12 eBy w_15) H := hP
        have hD : va_D A (rw_17 E eo eb ec eLn w_5 w_14 eKy w_7 w_8 w_9 w_10 w_11 w_12 eBy w_15) := hD
        refine lv_aload_n hx hb dX0_readNot_38 rfl (lv_at hl 0 rfl) ?_
        refine lv_dup hx hb dX0_readNot_39 rfl ?_
        refine va_get (D := E.1) (ci := 0) (v := .int w_9) (C := RX0) (T := TX0) (N := 12) hx hb hts n_X0 hown hK hP 0 rfl rfl 8 (by decide) k_38 (fun _ h9 => h9) rfl dX0_readNot_40 ?_
        refine lv_iconst (v := 1) hx hb dX0_readNot_43 (by decide) ?_
        refine lv_isub hx hb dX0_readNot_44 ?_
        refine va_put (D := E.1) (ci := 0) (v := .int (w_9 - 1)) (ty := .int) (C := RX0) (T := TX0) (N := 12) hx hb hts n_X0 tyX0 tyX0_ok nmX0 hown hK hP hD hS 0 rfl rfl 8 (by decide) k_38 (fun _ h9 => h9) rfl (by decide +kernel) rfl rfl (Nat.le_of_ble_eq_true rfl) dX0_readNot_45 (fun H locs hP hD hS => ?_)
        have hP : va_P E.1 vwCl (rw_17 E eo eb ec eLn w_5 w_14 eKy w_7 w_8 (w_9 - 1) w_10 w_11 w_12 eBy w_15) H := hP
        have hD : va_D A (rw_17 E eo eb ec eLn w_5 w_14 eKy w_7 w_8 (w_9 - 1) w_10 w_11 w_12 eBy w_15) := hD
        exact hret _ _ _ _ (w_5, w_14, w_7, w_8, w_9 - 1, w_10, w_11, w_12, w_15) h hP hD hS dX0_readNot_48
      · have h := h.2 c_1
        refine lv_aload_n hx hb dX0_readNot_9 rfl (lv_at hl 0 rfl) ?_
        have hPc := hP
        have hDc := hD
        have hFc := rc_freeI hD hS hA
        refine va_callv (va_runV (As := []) (rest := []) ⟨hx, hb, hml, hown, hts⟩ (c_X0_setFault l E eo eb ec H.size eLn eFt eCc eKy eLv eOb eOn eSt eEd eSo eBy eCo _ h) (cwV 0 hts gX0_readNot_X0_setFault rfl rfl rfl (by decide +kernel) ⟨by show 0 + 1 ≤ 6 + (d + 1); omega, by show 8 + (1 + 11) + 0 ≤ 148 + 24 * (d + 1); omega⟩) ⟨fun a U g mk q => ⟨q.1, q.2.blind⟩, va_recv hK hPc (ci := 0) (q0 := 0) rfl rfl, fun U hU hW => ⟨rfl, by rw [hU], by rw [hU]; exact hPc, hE.call hS hFc hW hU, hDc.weaken (fun _ _ _ _ => trivial)⟩⟩ rfl rfl hl.1 rfl (lv_room (Nat.le_of_ble_eq_true rfl)) dX0_readNot_10 ⟨Nat.zero_le _, Nat.zero_le _⟩) hS (fun q _ h => hFc q h) hFc (fun u t H1 locs ht hvm h hB hz1 hk1 hS => ?_)
        obtain ⟨w_16, rfl⟩ : ∃ z, z = u := ⟨_, rfl⟩
        obtain ⟨hP1, hD1⟩ := hB
        rw [ht] at hP1
        have hP := hP1
        have hD := hD1.weaken (fun _ _ _ h => hFc _ h)
        generalize H1 = H at hP hS ⊢
        have hP : va_P E.1 vwCl (rw_17 E eo eb ec eLn w_16 eCc eKy eLv eOb eOn eSt eEd eSo eBy eCo) H := hP
        have hD : va_D A (rw_17 E eo eb ec eLn w_16 eCc eKy eLv eOb eOn eSt eEd eSo eBy eCo) := hD
        exact hret _ _ _ _ (w_16, eCc, eLv, eOb, eOn, eSt, eEd, eSo, eCo) h hP hD hS dX0_readNot_13
    · intro sz eLn eFt eCc eKy eLv eOb eOn eSt eEd eSo eBy eCo p1 Q h
      have h : wq_X0_readBracket (wpG d) p1 eLn eFt eCc eKy eLv eOb eOn eSt eEd eSo eBy eCo Q := h
      refine rc_enterV (cc := cX0_readBracket) (maxL := 1) (by decide) rfl (Nat.le_of_ble_eq_true rfl) ?_
      intro p e s m args below meth c QQ A hx hb hml hown hts hmn hE hP hD hA hret ls hl
      have hown : s.vm.findClass RX0 = some m.cls := hown
      have hK := hE.1
      have hS : va_S A s.heap s.heap [] := va_S.rf
      have hl : lv_has ls 1 [(0, .ref eo)] := hl
      have n_X0 : ∀ w ∈ wsX00, w ∈ wsX0_readBracket := fun _ h => List.mem_cons_of_mem _ (List.mem_append_right _ h)
      have k_35 := hts (.fieldLink RX0 35 "RidgeClaps$Reader" "openBrackets" "I") (List.mem_of_getElem? (i := 1) rfl)
      have k_20 := hts (.fieldLink RX0 20 "RidgeClaps$Reader" "fault" "I") (List.mem_of_getElem? (i := 2) rfl)
      have k_19 := hts (.constant RX0 19 (-1000000005)) (List.mem_of_getElem? (i := 3) rfl)
      unfold wq_X0_readBracket at h
      obtain ⟨H, hH⟩ : ∃ H, H = s.heap := ⟨_, rfl⟩
      obtain ⟨locs, hlocs⟩ : ∃ locs : List Loc, locs = [] := ⟨_, rfl⟩
      have hP : va_P E.1 vwCl (rw_17 E eo eb ec eLn eFt eCc eKy eLv eOb eOn eSt eEd eSo eBy eCo) H := by rw [hH]; exact hP
      have hS : va_S A s.heap H locs := by rw [hH, hlocs]; exact hS
      suffices hgo : W p l e ({ frames := 6 + (d + 1), cells := 0, slots := 0, locals := 148 + 24 * (d + 1) } : Room) s m args below meth c H locs 0 0 QQ (F0 m 0 ls []) from by rw [hH, hlocs] at hgo; exact hgo
      refine lv_aload_n hx hb dX0_readBracket_0 rfl (lv_at hl 0 rfl) ?_
      refine va_get (D := E.1) (ci := 0) (v := .int eOb) (C := RX0) (T := TX0) (N := 12) hx hb hts n_X0 hown hK hP 0 rfl rfl 7 (by decide) k_35 (fun _ h9 => h9) rfl dX0_readBracket_1 ?_
      refine lv_bipush (v := 8) hx hb dX0_readBracket_4 (by decide) ?_
      refine lv_icmp_lt (tgt := 14) hx hb dX0_readBracket_6 (by decide) (fun c_1 => ?_) (fun c_1 => ?_)
      · have h := h.1 c_1
        refine lv_aload_n hx hb dX0_readBracket_14 rfl (lv_at hl 0 rfl) ?_
        refine lv_dup hx hb dX0_readBracket_15 rfl ?_
        refine va_get (D := E.1) (ci := 0) (v := .int eOb) (C := RX0) (T := TX0) (N := 12) hx hb hts n_X0 hown hK hP 0 rfl rfl 7 (by decide) k_35 (fun _ h9 => h9) rfl dX0_readBracket_16 ?_
        refine lv_iconst (v := 1) hx hb dX0_readBracket_19 (by decide) ?_
        refine lv_iadd hx hb dX0_readBracket_20 ?_
        refine va_put (D := E.1) (ci := 0) (v := .int (eOb + 1)) (ty := .int) (C := RX0) (T := TX0) (N := 12) hx hb hts n_X0 tyX0 tyX0_ok nmX0 hown hK hP hD hS 0 rfl rfl 7 (by decide) k_35 (fun _ h9 => h9) rfl (by decide +kernel) rfl rfl (Nat.le_of_ble_eq_true rfl) dX0_readBracket_21 (fun H locs hP hD hS => ?_)
        have hP : va_P E.1 vwCl (rw_17 E eo eb ec eLn eFt eCc eKy eLv (eOb + 1) eOn eSt eEd eSo eBy eCo) H := hP
        have hD : va_D A (rw_17 E eo eb ec eLn eFt eCc eKy eLv (eOb + 1) eOn eSt eEd eSo eBy eCo) := hD
        refine lv_aload_n hx hb dX0_readBracket_24 rfl (lv_at hl 0 rfl) ?_
        have hPc := hP
        have hDc := hD
        have hFc := rc_freeI hD hS hA
        refine va_callv (va_runV (As := []) (rest := []) ⟨hx, hb, hml, hown, hts⟩ (c_X0_moveOn l E eo eb ec H.size eLn eFt eCc eKy eLv (eOb + 1) eOn eSt eEd eSo eBy eCo _ h) (cwV 0 hts gX0_readBracket_X0_moveOn rfl rfl rfl (by decide +kernel) ⟨by show 1 + 1 ≤ 6 + (d + 1); omega, by show 8 + (1 + 11) + 20 ≤ 148 + 24 * (d + 1); omega⟩) ⟨fun a U g mk q => ⟨q.1, q.2.blind⟩, va_recv hK hPc (ci := 0) (q0 := 0) rfl rfl, fun U hU hW => ⟨rfl, by rw [hU], by rw [hU]; exact hPc, hE.call hS hFc hW hU, hDc.weaken (fun _ _ _ _ => trivial)⟩⟩ rfl rfl hl.1 rfl (lv_room (Nat.le_of_ble_eq_true rfl)) dX0_readBracket_25 ⟨Nat.zero_le _, Nat.zero_le _⟩) hS (fun q _ h => hFc q h) hFc (fun u t H1 locs ht hvm h hB hz1 hk1 hS => ?_)
        obtain ⟨w_2, w_3, w_4⟩ := u
        obtain ⟨hP1, hD1⟩ := hB
        rw [ht] at hP1
        have hP := hP1
        have hD := hD1.weaken (fun _ _ _ h => hFc _ h)
        generalize H1 = H at hP hS ⊢
        have hP : va_P E.1 vwCl (rw_17 E eo eb ec eLn eFt eCc eKy eLv (eOb + 1) eOn w_2 w_3 w_4 eBy eCo) H := hP
        have hD : va_D A (rw_17 E eo eb ec eLn eFt eCc eKy eLv (eOb + 1) eOn w_2 w_3 w_4 eBy eCo) := hD
        refine lv_aload_n hx hb dX0_readBracket_28 rfl (lv_at hl 0 rfl) ?_
        refine lv_iconst (v := 0) hx hb dX0_readBracket_29 (by decide) ?_
        have hPc := hP
        have hDc := hD
        have hFc := rc_freeI hD hS hA
        refine va_callv (va_runV (As := [.int 0]) (rest := []) ⟨hx, hb, hml, hown, hts⟩ (ih0 H.size eLn eFt eCc eKy eLv (eOb + 1) eOn w_2 w_3 w_4 eBy eCo 0 _ h) (cwV 1 hts gX0_readBracket_X0_readLevel rfl rfl rfl (by decide +kernel) ⟨by show (6 + d) + 1 ≤ 6 + (d + 1); omega, by show 8 + (5 + 11) + (148 + 24 * d) ≤ 148 + 24 * (d + 1); omega⟩) ⟨fun a U g mk q => ⟨q.1, q.2.blind⟩, va_recv hK hPc (ci := 0) (q0 := 0) rfl rfl, fun U hU hW => ⟨rfl, by rw [hU], by rw [hU]; exact hPc, hE.call hS hFc hW hU, hDc.weaken (fun _ _ _ _ => trivial)⟩⟩ rfl rfl hl.1 rfl (lv_room (Nat.le_of_ble_eq_true rfl)) dX0_readBracket_30 ⟨Nat.zero_le _, Nat.zero_le _⟩) hS (fun q _ h => hFc q h) hFc (fun u t H1 locs ht hvm h hB hz1 hk1 hS => ?_)
        obtain ⟨w_5, w_6, w_7, w_8, w_9, w_10, w_11, w_12, w_13⟩ := u
        obtain ⟨hP1, hD1⟩ := hB
        rw [ht] at hP1
        have hP := hP1
        have hD := hD1.weaken (fun _ _ _ h => hFc _ h)
        generalize H1 = H at hP hS ⊢
        have hP : va_P E.1 vwCl (rw_17 E eo eb ec eLn w_5 w_6 eKy w_7 w_8 w_9 w_10 w_11 w_12 eBy w_13) H := hP
        have hD : va_D A (rw_17 E eo eb ec eLn w_5 w_6 eKy w_7 w_8 w_9 w_10 w_11 w_12 eBy w_13) := hD
        refine lv_aload_n hx hb dX0_readBracket_33 rfl (lv_at hl 0 rfl) ?_
        refine va_get (D := E.1) (ci := 0) (v := .int w_5) (C := RX0) (T := TX0) (N := 12) hx hb hts n_X0 hown hK hP 0 rfl rfl 2 (by decide) k_20 (fun _ h9 => h9) rfl dX0_readBracket_34 ?_
        refine lv_ldc hx hb hown k_19 dX0_readBracket_37 ?_
        refine lv_icmp_eq (tgt := 43) hx hb dX0_readBracket_39 (by decide) (fun c_14 => ?_) (fun c_14 => ?_)
        · have h := h.1 c_14
          refine lv_aload_n hx hb dX0_readBracket_43 rfl (lv_at hl 0 rfl) ?_
          have hPc := hP
          have hDc := hD
          have hFc := rc_freeI hD hS hA
          refine va_calli (va_runV (As := []) (rest := []) ⟨hx, hb, hml, hown, hts⟩ (c_X0_signHere l E eo eb ec H.size eLn w_5 w_6 eKy w_7 w_8 w_9 w_10 w_11 w_12 eBy w_13 _ h) (cwV 0 hts gX0_readBracket_X0_signHere rfl rfl rfl (by decide +kernel) ⟨by show 0 + 1 ≤ 6 + (d + 1); omega, by show 8 + (1 + 11) + 0 ≤ 148 + 24 * (d + 1); omega⟩) ⟨fun a U g mk q => ⟨q.1, q.2.blind⟩, va_recv hK hPc (ci := 0) (q0 := 0) rfl rfl, fun U hU hW => ⟨rfl, by rw [hU], by rw [hU]; exact hPc, hE.call hS hFc hW hU, hDc.weaken (fun _ _ _ _ => trivial)⟩⟩ rfl rfl hl.1 rfl (lv_room (Nat.le_of_ble_eq_true rfl)) dX0_readBracket_44 ⟨Nat.zero_le _, Nat.zero_le _⟩) hS (fun q _ h => hFc q h) hFc (fun r_15 u t H1 locs ht hvm h hB hz1 hk1 hS => ?_)
          obtain ⟨hP1, hD1⟩ := hB
          rw [ht] at hP1
          have hP := hP1
          have hD := hD1.weaken (fun _ _ _ h => hFc _ h)
          generalize H1 = H at hP hS ⊢
          have hP : va_P E.1 vwCl (rw_17 E eo eb ec eLn w_5 w_6 eKy w_7 w_8 w_9 w_10 w_11 w_12 eBy w_13) H := hP
          have hD : va_D A (rw_17 E eo eb ec eLn w_5 w_6 eKy w_7 w_8 w_9 w_10 w_11 w_12 eBy w_13) := hD
          refine lv_bipush (v := 41) hx hb dX0_readBracket_47 (by decide) ?_
          refine lv_icmp_eq (tgt := 57) hx hb dX0_readBracket_49 (by decide) (fun c_16 => ?_) (fun c_16 => ?_)
          · have h := h.1 c_16
            refine lv_aload_n hx hb dX0_readBracket_57 rfl (lv_at hl 0 rfl) ?_
            refine lv_dup hx hb dX0_readBracket_58 rfl ?_
            refine va_get (D := E.1) (ci := 0) (v := .int w_8) (C := RX0) (T := TX0) (N := 12) hx hb hts n_X0 hown hK hP 0 rfl rfl 7 (by decide) k_35 (fun _ h9 => h9) rfl dX0_readBracket_59 ?_
            refine lv_iconst (v := 1) hx hb dX0_readBracket_62 (by decide) ?_
            refine lv_isub hx hb dX0_readBracket_63 ?_
            refine va_put (D := E.1) (ci := 0) (v := .int (w_8 - 1)) (ty := .int) (C := RX0) (T := TX0) (N := 12) hx hb hts n_X0 tyX0 tyX0_ok nmX0 hown hK hP hD hS 0 rfl rfl 7 (by decide) k_35 (fun _ h9 => h9) rfl (by decide +kernel) rfl rfl (Nat.le_of_ble_eq_true rfl) dX0_readBracket_64 (fun H locs hP hD hS => ?_)
            have hP : va_P E.1 vwCl (rw_17 E eo eb ec eLn w_5 w_6 eKy w_7 (w_8 - 1) w_9 w_10 w_11 w_12 eBy w_13) H := hP
            have hD : va_D A (rw_17 E eo eb ec eLn w_5 w_6 eKy w_7 (w_8 - 1) w_9 w_10 w_11 w_12 eBy w_13) := hD
            refine lv_aload_n hx hb dX0_readBracket_67 rfl (lv_at hl 0 rfl) ?_
            have hPc := hP
            have hDc := hD
            have hFc := rc_freeI hD hS hA
            refine va_callv (va_runV (As := []) (rest := []) ⟨hx, hb, hml, hown, hts⟩ (c_X0_moveOn l E eo eb ec H.size eLn w_5 w_6 eKy w_7 (w_8 - 1) w_9 w_10 w_11 w_12 eBy w_13 _ h) (cwV 0 hts gX0_readBracket_X0_moveOn rfl rfl rfl (by decide +kernel) ⟨by show 1 + 1 ≤ 6 + (d + 1); omega, by show 8 + (1 + 11) + 20 ≤ 148 + 24 * (d + 1); omega⟩) ⟨fun a U g mk q => ⟨q.1, q.2.blind⟩, va_recv hK hPc (ci := 0) (q0 := 0) rfl rfl, fun U hU hW => ⟨rfl, by rw [hU], by rw [hU]; exact hPc, hE.call hS hFc hW hU, hDc.weaken (fun _ _ _ _ => trivial)⟩⟩ rfl rfl hl.1 rfl (lv_room (Nat.le_of_ble_eq_true rfl)) dX0_readBracket_68 ⟨Nat.zero_le _, Nat.zero_le _⟩) hS (fun q _ h => hFc q h) hFc (fun u t H1 locs ht hvm h hB hz1 hk1 hS => ?_)
            obtain ⟨w_17, w_18, w_19⟩ := u
            obtain ⟨hP1, hD1⟩ := hB
            rw [ht] at hP1
            have hP := hP1
            have hD := hD1.weaken (fun _ _ _ h => hFc _ h)
            generalize H1 = H at hP hS ⊢
            have hP : va_P E.1 vwCl (rw_17 E eo eb ec eLn w_5 w_6 eKy w_7 (w_8 - 1) w_9 w_17 w_18 w_19 eBy w_13) H := hP
            have hD : va_D A (rw_17 E eo eb ec eLn w_5 w_6 eKy w_7 (w_8 - 1) w_9 w_17 w_18 w_19 eBy w_13) := hD
            exact hret _ _ _ _ (w_5, w_6, w_7, w_8 - 1, w_9, w_17, w_18, w_19, w_13) h hP hD hS dX0_readBracket_71
          · have h := h.2 c_16
            refine lv_aload_n hx hb dX0_readBracket_52 rfl (lv_at hl 0 rfl) ?_
            have hPc := hP
            have hDc := hD
            have hFc := rc_freeI hD hS hA
            refine va_callv (va_runV (As := []) (rest := []) ⟨hx, hb, hml, hown, hts⟩ (c_X0_setFault l E eo eb ec H.size eLn w_5 w_6 eKy w_7 w_8 w_9 w_10 w_11 w_12 eBy w_13 _ h) (cwV 0 hts gX0_readBracket_X0_setFault rfl rfl rfl (by decide +kernel) ⟨by show 0 + 1 ≤ 6 + (d + 1); omega, by show 8 + (1 + 11) + 0 ≤ 148 + 24 * (d + 1); omega⟩) ⟨fun a U g mk q => ⟨q.1, q.2.blind⟩, va_recv hK hPc (ci := 0) (q0 := 0) rfl rfl, fun U hU hW => ⟨rfl, by rw [hU], by rw [hU]; exact hPc, hE.call hS hFc hW hU, hDc.weaken (fun _ _ _ _ => trivial)⟩⟩ rfl rfl hl.1 rfl (lv_room (Nat.le_of_ble_eq_true rfl)) dX0_readBracket_53 ⟨Nat.zero_le _, Nat.zero_le _⟩) hS (fun q _ h => hFc q h) hFc (fun u t H1 locs ht hvm h hB hz1 hk1 hS => ?_)
            obtain ⟨w_20, rfl⟩ : ∃ z, z = u := ⟨_, rfl⟩
            obtain ⟨hP1, hD1⟩ := hB
            rw [ht] at hP1
            have hP := hP1
            have hD := hD1.weaken (fun _ _ _ h => hFc _ h)
            generalize H1 = H at hP hS ⊢
            have hP : va_P E.1 vwCl (rw_17 E eo eb ec eLn w_20 w_6 eKy w_7 w_8 w_9 w_10 w_11 w_12 eBy w_13) H := hP
            have hD : va_D A (rw_17 E eo eb ec eLn w_20 w_6 eKy w_7 w_8 w_9 w_10 w_11 w_12 eBy w_13) := hD
            exact hret _ _ _ _ (w_20, w_6, w_7, w_8, w_9, w_10, w_11, w_12, w_13) h hP hD hS dX0_readBracket_56
        · have h := h.2 c_14
          exact hret _ _ _ _ (w_5, w_6, w_7, w_8, w_9, w_10, w_11, w_12, w_13) h hP hD hS dX0_readBracket_42
      · have h := h.2 c_1
        refine lv_aload_n hx hb dX0_readBracket_9 rfl (lv_at hl 0 rfl) ?_
        have hPc := hP
        have hDc := hD
        have hFc := rc_freeI hD hS hA
        refine va_callv (va_runV (As := []) (rest := []) ⟨hx, hb, hml, hown, hts⟩ (c_X0_setFault l E eo eb ec H.size eLn eFt eCc eKy eLv eOb eOn eSt eEd eSo eBy eCo _ h) (cwV 0 hts gX0_readBracket_X0_setFault rfl rfl rfl (by decide +kernel) ⟨by show 0 + 1 ≤ 6 + (d + 1); omega, by show 8 + (1 + 11) + 0 ≤ 148 + 24 * (d + 1); omega⟩) ⟨fun a U g mk q => ⟨q.1, q.2.blind⟩, va_recv hK hPc (ci := 0) (q0 := 0) rfl rfl, fun U hU hW => ⟨rfl, by rw [hU], by rw [hU]; exact hPc, hE.call hS hFc hW hU, hDc.weaken (fun _ _ _ _ => trivial)⟩⟩ rfl rfl hl.1 rfl (lv_room (Nat.le_of_ble_eq_true rfl)) dX0_readBracket_10 ⟨Nat.zero_le _, Nat.zero_le _⟩) hS (fun q _ h => hFc q h) hFc (fun u t H1 locs ht hvm h hB hz1 hk1 hS => ?_)
        obtain ⟨w_21, rfl⟩ : ∃ z, z = u := ⟨_, rfl⟩
        obtain ⟨hP1, hD1⟩ := hB
        rw [ht] at hP1
        have hP := hP1
        have hD := hD1.weaken (fun _ _ _ h => hFc _ h)
        generalize H1 = H at hP hS ⊢
        have hP : va_P E.1 vwCl (rw_17 E eo eb ec eLn w_21 eCc eKy eLv eOb eOn eSt eEd eSo eBy eCo) H := hP
        have hD : va_D A (rw_17 E eo eb ec eLn w_21 eCc eKy eLv eOb eOn eSt eEd eSo eBy eCo) := hD
        exact hret _ _ _ _ (w_21, eCc, eLv, eOb, eOn, eSt, eEd, eSo, eCo) h hP hD hS dX0_readBracket_13
def jp_X0_readTape_53   (Q : Int32 → Int32 → Int32 → Int32 → Int32 → Int32 → Int32 → Int32 → Int32 → (Nat → Int32) → Prop) (eFt : Int32) (eCc : Int32) (eKy : Int32) (eLv : Int32) (eOb : Int32) (eOn : Int32) (eSt : Int32) (eEd : Int32) (eSo : Int32) (eCo : Nat → Int32) : Prop :=
  ((¬ eFt = (-1000000005) → Q eFt eCc eKy eLv eOb eOn eSt eEd eSo eCo) ∧ (eFt = (-1000000005) → ((eSo = 3 → Q eFt eCc eKy eLv eOb eOn eSt eEd eSo eCo) ∧ (¬ (eSo = 3) → wp_X0_setFault eFt eSt (fun (w_3 : Int32) => Q w_3 eCc eKy eLv eOb eOn eSt eEd eSo eCo)))))
def wp_X0_readTape (eLn : Int32) (eKy : Int32) (eSo : Int32) (eBy : Nat → Int32) (eCo : Nat → Int32) (Q : Int32 → Int32 → Int32 → Int32 → Int32 → Int32 → Int32 → Int32 → Int32 → (Nat → Int32) → Prop) : Prop :=
  wp_X0_moveOn eLn 0 eSo eBy (fun (w_4 : Int32) (w_5 : Int32) (w_6 : Int32) => wp_X0_readKey eLn (-1000000005) eKy w_4 w_5 w_6 eBy (fun (w_7 : Int32) (w_8 : Int32) (w_9 : Int32) (w_10 : Int32) (w_11 : Int32) => ((¬ w_7 = (-1000000005) → jp_X0_readTape_53 Q w_7 0 w_8 0 0 0 w_9 w_10 w_11 eCo) ∧ (w_7 = (-1000000005) → wpG 120 0 0 eLn w_7 0 w_8 0 0 0 w_9 w_10 w_11 eBy eCo (fun (w_13 : Int32) (w_14 : Int32) (w_15 : Int32) (w_16 : Int32) (w_17 : Int32) (w_18 : Int32) (w_19 : Int32) (w_20 : Int32) (w_21 : Nat → Int32) => jp_X0_readTape_53 Q w_13 w_14 w_8 w_15 w_16 w_17 w_18 w_19 w_20 w_21)))))
set_option maxHeartbeats 4000000 in
set_option maxRecDepth 100000 in
theorem c_X0_readTape (l : Launch) (E : gE) (eo eb ec : Nat) (sz : Nat) (eLn : Int32) (eFt : Int32) (eCc : Int32) (eKy : Int32) (eLv : Int32) (eOb : Int32) (eOn : Int32) (eSt : Int32) (eEd : Int32) (eSo : Int32) (eBy : Nat → Int32) (eCo : Nat → Int32)   (Q : Int32 → Int32 → Int32 → Int32 → Int32 → Int32 → Int32 → Int32 → Int32 → (Nat → Int32) → Prop) (h : wp_X0_readTape eLn eKy eSo eBy eCo Q) : Met l yX0_readTape wsX0_readTape ({ frames := 127, cells := 0, slots := 0, locals := 3052 } : Room) (va_Pc [.ref eo] (rc_B E (rw_17 E eo eb ec eLn eFt eCc eKy eLv eOb eOn eSt eEd eSo eBy eCo) sz)) (va_Qv (S := Int32 × Int32 × Int32 × Int32 × Int32 × Int32 × Int32 × Int32 × Int32 × (Nat → Int32)) (fun (u : Int32 × Int32 × Int32 × Int32 × Int32 × Int32 × Int32 × Int32 × Int32 × (Nat → Int32)) => Q u.1 u.2.1 u.2.2.1 u.2.2.2.1 u.2.2.2.2.1 u.2.2.2.2.2.1 u.2.2.2.2.2.2.1 u.2.2.2.2.2.2.2.1 u.2.2.2.2.2.2.2.2.1 u.2.2.2.2.2.2.2.2.2) (fun u t => rc_C E (va_A (rw_17 E eo eb ec eLn eFt eCc eKy eLv eOb eOn eSt eEd eSo eBy eCo) sz) (rw_17 E eo eb ec eLn u.1 u.2.1 u.2.2.1 u.2.2.2.1 u.2.2.2.2.1 u.2.2.2.2.2.1 u.2.2.2.2.2.2.1 u.2.2.2.2.2.2.2.1 u.2.2.2.2.2.2.2.2.1 eBy u.2.2.2.2.2.2.2.2.2) t) (va_A (rw_17 E eo eb ec eLn eFt eCc eKy eLv eOb eOn eSt eEd eSo eBy eCo) sz)) 0 0 (va_A (rw_17 E eo eb ec eLn eFt eCc eKy eLv eOb eOn eSt eEd eSo eBy eCo) sz) := by
  refine rc_enterV (cc := cX0_readTape) (maxL := 1) (by decide) rfl (Nat.le_of_ble_eq_true rfl) ?_
  intro p e s m args below meth c QQ A hx hb hml hown hts hmn hE hP hD hA hret ls hl
  have hown : s.vm.findClass RX0 = some m.cls := hown
  have hK := hE.1
  have hS : va_S A s.heap s.heap [] := va_S.rf
  have hl : lv_has ls 1 [(0, .ref eo)] := hl
  have n_X0 : ∀ w ∈ wsX00, w ∈ wsX0_readTape := fun _ h => List.mem_cons_of_mem _ (List.mem_append_right _ h)
  have k_20 := hts (.fieldLink RX0 20 "RidgeClaps$Reader" "fault" "I") (List.mem_of_getElem? (i := 2) rfl)
  have k_19 := hts (.constant RX0 19 (-1000000005)) (List.mem_of_getElem? (i := 1) rfl)
  have k_47 := hts (.fieldLink RX0 47 "RidgeClaps$Reader" "sort" "I") (List.mem_of_getElem? (i := 8) rfl)
  have k_26 := hts (.fieldLink RX0 26 "RidgeClaps$Reader" "codeCount" "I") (List.mem_of_getElem? (i := 3) rfl)
  have k_32 := hts (.fieldLink RX0 32 "RidgeClaps$Reader" "leaves" "I") (List.mem_of_getElem? (i := 4) rfl)
  have k_35 := hts (.fieldLink RX0 35 "RidgeClaps$Reader" "openBrackets" "I") (List.mem_of_getElem? (i := 5) rfl)
  have k_38 := hts (.fieldLink RX0 38 "RidgeClaps$Reader" "openNots" "I") (List.mem_of_getElem? (i := 6) rfl)
  have k_44 := hts (.fieldLink RX0 44 "RidgeClaps$Reader" "end" "I") (List.mem_of_getElem? (i := 7) rfl)
  have J53 : ∀ (eFt : Int32) (eCc : Int32) (eKy : Int32) (eLv : Int32) (eOb : Int32) (eOn : Int32) (eSt : Int32) (eEd : Int32) (eSo : Int32) (eCo : Nat → Int32), jp_X0_readTape_53 Q eFt eCc eKy eLv eOb eOn eSt eEd eSo eCo → ∀ (H : Heap) (locs : List Loc), va_P E.1 vwCl (rw_17 E eo eb ec eLn eFt eCc eKy eLv eOb eOn eSt eEd eSo eBy eCo) H → va_D A (rw_17 E eo eb ec eLn eFt eCc eKy eLv eOb eOn eSt eEd eSo eBy eCo) → va_S A s.heap H locs → ∀ ls : Array Slot, lv_has ls 1 [(0, .ref eo)] → W p l e ({ frames := 127, cells := 0, slots := 0, locals := 3052 } : Room) s m args below meth c H locs 0 0 QQ (F0 m 53 ls []) := by
    intro eFt eCc eKy eLv eOb eOn eSt eEd eSo eCo h H locs hP hD hS ls hl
    unfold jp_X0_readTape_53 at h
    refine lv_aload_n hx hb dX0_readTape_53 rfl (lv_at hl 0 rfl) ?_
    refine va_get (D := E.1) (ci := 0) (v := .int eFt) (C := RX0) (T := TX0) (N := 12) hx hb hts n_X0 hown hK hP 0 rfl rfl 2 (by decide) k_20 (fun _ h9 => h9) rfl dX0_readTape_54 ?_
    refine lv_ldc hx hb hown k_19 dX0_readTape_57 ?_
    refine lv_icmp_ne (tgt := 74) hx hb dX0_readTape_59 (by decide) (fun c_1 => ?_) (fun c_1 => ?_)
    · have h := h.1 c_1
      exact hret _ _ _ _ (eFt, eCc, eKy, eLv, eOb, eOn, eSt, eEd, eSo, eCo) h hP hD hS dX0_readTape_74
    · have h := h.2 c_1
      refine lv_aload_n hx hb dX0_readTape_62 rfl (lv_at hl 0 rfl) ?_
      refine va_get (D := E.1) (ci := 0) (v := .int eSo) (C := RX0) (T := TX0) (N := 12) hx hb hts n_X0 hown hK hP 0 rfl rfl 11 (by decide) k_47 (fun _ h9 => h9) rfl dX0_readTape_63 ?_
      refine lv_iconst (v := 3) hx hb dX0_readTape_66 (by decide) ?_
      refine lv_icmp_eq (tgt := 74) hx hb dX0_readTape_67 (by decide) (fun c_2 => ?_) (fun c_2 => ?_)
      · have h := h.1 c_2
        exact hret _ _ _ _ (eFt, eCc, eKy, eLv, eOb, eOn, eSt, eEd, eSo, eCo) h hP hD hS dX0_readTape_74
      · have h := h.2 c_2
        refine lv_aload_n hx hb dX0_readTape_70 rfl (lv_at hl 0 rfl) ?_
        have hPc := hP
        have hDc := hD
        have hFc := rc_freeI hD hS hA
        refine va_callv (va_runV (As := []) (rest := []) ⟨hx, hb, hml, hown, hts⟩ (c_X0_setFault l E eo eb ec H.size eLn eFt eCc eKy eLv eOb eOn eSt eEd eSo eBy eCo _ h) (cwV 0 hts gX0_readTape_X0_setFault rfl rfl rfl (by decide +kernel) ⟨Nat.le_of_ble_eq_true rfl, Nat.le_of_ble_eq_true rfl⟩) ⟨fun a U g mk q => ⟨q.1, q.2.blind⟩, va_recv hK hPc (ci := 0) (q0 := 0) rfl rfl, fun U hU hW => ⟨rfl, by rw [hU], by rw [hU]; exact hPc, hE.call hS hFc hW hU, hDc.weaken (fun _ _ _ _ => trivial)⟩⟩ rfl rfl hl.1 rfl (lv_room (Nat.le_of_ble_eq_true rfl)) dX0_readTape_71 ⟨Nat.zero_le _, Nat.zero_le _⟩) hS (fun q _ h => hFc q h) hFc (fun u t H1 locs ht hvm h hB hz1 hk1 hS => ?_)
        obtain ⟨w_3, rfl⟩ : ∃ z, z = u := ⟨_, rfl⟩
        obtain ⟨hP1, hD1⟩ := hB
        rw [ht] at hP1
        have hP := hP1
        have hD := hD1.weaken (fun _ _ _ h => hFc _ h)
        generalize H1 = H at hP hS ⊢
        have hP : va_P E.1 vwCl (rw_17 E eo eb ec eLn w_3 eCc eKy eLv eOb eOn eSt eEd eSo eBy eCo) H := hP
        have hD : va_D A (rw_17 E eo eb ec eLn w_3 eCc eKy eLv eOb eOn eSt eEd eSo eBy eCo) := hD
        exact hret _ _ _ _ (w_3, eCc, eKy, eLv, eOb, eOn, eSt, eEd, eSo, eCo) h hP hD hS dX0_readTape_74
  unfold wp_X0_readTape at h
  obtain ⟨H, hH⟩ : ∃ H, H = s.heap := ⟨_, rfl⟩
  obtain ⟨locs, hlocs⟩ : ∃ locs : List Loc, locs = [] := ⟨_, rfl⟩
  have hP : va_P E.1 vwCl (rw_17 E eo eb ec eLn eFt eCc eKy eLv eOb eOn eSt eEd eSo eBy eCo) H := by rw [hH]; exact hP
  have hS : va_S A s.heap H locs := by rw [hH, hlocs]; exact hS
  suffices hgo : W p l e ({ frames := 127, cells := 0, slots := 0, locals := 3052 } : Room) s m args below meth c H locs 0 0 QQ (F0 m 0 ls []) from by rw [hH, hlocs] at hgo; exact hgo
  refine lv_aload_n hx hb dX0_readTape_0 rfl (lv_at hl 0 rfl) ?_
  refine lv_ldc hx hb hown k_19 dX0_readTape_1 ?_
  refine va_put (D := E.1) (ci := 0) (v := .int (-1000000005)) (ty := .int) (C := RX0) (T := TX0) (N := 12) hx hb hts n_X0 tyX0 tyX0_ok nmX0 hown hK hP hD hS 0 rfl rfl 2 (by decide) k_20 (fun _ h9 => h9) rfl (by decide +kernel) rfl rfl (Nat.le_of_ble_eq_true rfl) dX0_readTape_3 (fun H locs hP hD hS => ?_)
  have hP : va_P E.1 vwCl (rw_17 E eo eb ec eLn (-1000000005) eCc eKy eLv eOb eOn eSt eEd eSo eBy eCo) H := hP
  have hD : va_D A (rw_17 E eo eb ec eLn (-1000000005) eCc eKy eLv eOb eOn eSt eEd eSo eBy eCo) := hD
  refine lv_aload_n hx hb dX0_readTape_6 rfl (lv_at hl 0 rfl) ?_
  refine lv_iconst (v := 0) hx hb dX0_readTape_7 (by decide) ?_
  refine va_put (D := E.1) (ci := 0) (v := .int 0) (ty := .int) (C := RX0) (T := TX0) (N := 12) hx hb hts n_X0 tyX0 tyX0_ok nmX0 hown hK hP hD hS 0 rfl rfl 4 (by decide) k_26 (fun _ h9 => h9) rfl (by decide +kernel) rfl rfl (Nat.le_of_ble_eq_true rfl) dX0_readTape_8 (fun H locs hP hD hS => ?_)
  have hP : va_P E.1 vwCl (rw_17 E eo eb ec eLn (-1000000005) 0 eKy eLv eOb eOn eSt eEd eSo eBy eCo) H := hP
  have hD : va_D A (rw_17 E eo eb ec eLn (-1000000005) 0 eKy eLv eOb eOn eSt eEd eSo eBy eCo) := hD
  refine lv_aload_n hx hb dX0_readTape_11 rfl (lv_at hl 0 rfl) ?_
  refine lv_iconst (v := 0) hx hb dX0_readTape_12 (by decide) ?_
  refine va_put (D := E.1) (ci := 0) (v := .int 0) (ty := .int) (C := RX0) (T := TX0) (N := 12) hx hb hts n_X0 tyX0 tyX0_ok nmX0 hown hK hP hD hS 0 rfl rfl 6 (by decide) k_32 (fun _ h9 => h9) rfl (by decide +kernel) rfl rfl (Nat.le_of_ble_eq_true rfl) dX0_readTape_13 (fun H locs hP hD hS => ?_)
  have hP : va_P E.1 vwCl (rw_17 E eo eb ec eLn (-1000000005) 0 eKy 0 eOb eOn eSt eEd eSo eBy eCo) H := hP
  have hD : va_D A (rw_17 E eo eb ec eLn (-1000000005) 0 eKy 0 eOb eOn eSt eEd eSo eBy eCo) := hD
  refine lv_aload_n hx hb dX0_readTape_16 rfl (lv_at hl 0 rfl) ?_
  refine lv_iconst (v := 0) hx hb dX0_readTape_17 (by decide) ?_
  refine va_put (D := E.1) (ci := 0) (v := .int 0) (ty := .int) (C := RX0) (T := TX0) (N := 12) hx hb hts n_X0 tyX0 tyX0_ok nmX0 hown hK hP hD hS 0 rfl rfl 7 (by decide) k_35 (fun _ h9 => h9) rfl (by decide +kernel) rfl rfl (Nat.le_of_ble_eq_true rfl) dX0_readTape_18 (fun H locs hP hD hS => ?_)
  have hP : va_P E.1 vwCl (rw_17 E eo eb ec eLn (-1000000005) 0 eKy 0 0 eOn eSt eEd eSo eBy eCo) H := hP
  have hD : va_D A (rw_17 E eo eb ec eLn (-1000000005) 0 eKy 0 0 eOn eSt eEd eSo eBy eCo) := hD
  refine lv_aload_n hx hb dX0_readTape_21 rfl (lv_at hl 0 rfl) ?_
  refine lv_iconst (v := 0) hx hb dX0_readTape_22 (by decide) ?_
  refine va_put (D := E.1) (ci := 0) (v := .int 0) (ty := .int) (C := RX0) (T := TX0) (N := 12) hx hb hts n_X0 tyX0 tyX0_ok nmX0 hown hK hP hD hS 0 rfl rfl 8 (by decide) k_38 (fun _ h9 => h9) rfl (by decide +kernel) rfl rfl (Nat.le_of_ble_eq_true rfl) dX0_readTape_23 (fun H locs hP hD hS => ?_)
  have hP : va_P E.1 vwCl (rw_17 E eo eb ec eLn (-1000000005) 0 eKy 0 0 0 eSt eEd eSo eBy eCo) H := hP
  have hD : va_D A (rw_17 E eo eb ec eLn (-1000000005) 0 eKy 0 0 0 eSt eEd eSo eBy eCo) := hD
  refine lv_aload_n hx hb dX0_readTape_26 rfl (lv_at hl 0 rfl) ?_
  refine lv_iconst (v := 0) hx hb dX0_readTape_27 (by decide) ?_
  refine va_put (D := E.1) (ci := 0) (v := .int 0) (ty := .int) (C := RX0) (T := TX0) (N := 12) hx hb hts n_X0 tyX0 tyX0_ok nmX0 hown hK hP hD hS 0 rfl rfl 10 (by decide) k_44 (fun _ h9 => h9) rfl (by decide +kernel) rfl rfl (Nat.le_of_ble_eq_true rfl) dX0_readTape_28 (fun H locs hP hD hS => ?_)
  have hP : va_P E.1 vwCl (rw_17 E eo eb ec eLn (-1000000005) 0 eKy 0 0 0 eSt 0 eSo eBy eCo) H := hP
  have hD : va_D A (rw_17 E eo eb ec eLn (-1000000005) 0 eKy 0 0 0 eSt 0 eSo eBy eCo) := hD
  refine lv_aload_n hx hb dX0_readTape_31 rfl (lv_at hl 0 rfl) ?_
  have hPc := hP
  have hDc := hD
  have hFc := rc_freeI hD hS hA
  refine va_callv (va_runV (As := []) (rest := []) ⟨hx, hb, hml, hown, hts⟩ (c_X0_moveOn l E eo eb ec H.size eLn (-1000000005) 0 eKy 0 0 0 eSt 0 eSo eBy eCo _ h) (cwV 0 hts gX0_readTape_X0_moveOn rfl rfl rfl (by decide +kernel) ⟨Nat.le_of_ble_eq_true rfl, Nat.le_of_ble_eq_true rfl⟩) ⟨fun a U g mk q => ⟨q.1, q.2.blind⟩, va_recv hK hPc (ci := 0) (q0 := 0) rfl rfl, fun U hU hW => ⟨rfl, by rw [hU], by rw [hU]; exact hPc, hE.call hS hFc hW hU, hDc.weaken (fun _ _ _ _ => trivial)⟩⟩ rfl rfl hl.1 rfl (lv_room (Nat.le_of_ble_eq_true rfl)) dX0_readTape_32 ⟨Nat.zero_le _, Nat.zero_le _⟩) hS (fun q _ h => hFc q h) hFc (fun u t H1 locs ht hvm h hB hz1 hk1 hS => ?_)
  obtain ⟨w_4, w_5, w_6⟩ := u
  obtain ⟨hP1, hD1⟩ := hB
  rw [ht] at hP1
  have hP := hP1
  have hD := hD1.weaken (fun _ _ _ h => hFc _ h)
  generalize H1 = H at hP hS ⊢
  have hP : va_P E.1 vwCl (rw_17 E eo eb ec eLn (-1000000005) 0 eKy 0 0 0 w_4 w_5 w_6 eBy eCo) H := hP
  have hD : va_D A (rw_17 E eo eb ec eLn (-1000000005) 0 eKy 0 0 0 w_4 w_5 w_6 eBy eCo) := hD
  refine lv_aload_n hx hb dX0_readTape_35 rfl (lv_at hl 0 rfl) ?_
  have hPc := hP
  have hDc := hD
  have hFc := rc_freeI hD hS hA
  refine va_callv (va_runV (As := []) (rest := []) ⟨hx, hb, hml, hown, hts⟩ (c_X0_readKey l E eo eb ec H.size eLn (-1000000005) 0 eKy 0 0 0 w_4 w_5 w_6 eBy eCo _ h) (cwV 0 hts gX0_readTape_X0_readKey rfl rfl rfl (by decide +kernel) ⟨Nat.le_of_ble_eq_true rfl, Nat.le_of_ble_eq_true rfl⟩) ⟨fun a U g mk q => ⟨q.1, q.2.blind⟩, va_recv hK hPc (ci := 0) (q0 := 0) rfl rfl, fun U hU hW => ⟨rfl, by rw [hU], by rw [hU]; exact hPc, hE.call hS hFc hW hU, hDc.weaken (fun _ _ _ _ => trivial)⟩⟩ rfl rfl hl.1 rfl (lv_room (Nat.le_of_ble_eq_true rfl)) dX0_readTape_36 ⟨Nat.zero_le _, Nat.zero_le _⟩) hS (fun q _ h => hFc q h) hFc (fun u t H1 locs ht hvm h hB hz1 hk1 hS => ?_)
  obtain ⟨w_7, w_8, w_9, w_10, w_11⟩ := u
  obtain ⟨hP1, hD1⟩ := hB
  rw [ht] at hP1
  have hP := hP1
  have hD := hD1.weaken (fun _ _ _ h => hFc _ h)
  generalize H1 = H at hP hS ⊢
  have hP : va_P E.1 vwCl (rw_17 E eo eb ec eLn w_7 0 w_8 0 0 0 w_9 w_10 w_11 eBy eCo) H := hP
  have hD : va_D A (rw_17 E eo eb ec eLn w_7 0 w_8 0 0 0 w_9 w_10 w_11 eBy eCo) := hD
  refine lv_aload_n hx hb dX0_readTape_39 rfl (lv_at hl 0 rfl) ?_
  refine va_get (D := E.1) (ci := 0) (v := .int w_7) (C := RX0) (T := TX0) (N := 12) hx hb hts n_X0 hown hK hP 0 rfl rfl 2 (by decide) k_20 (fun _ h9 => h9) rfl dX0_readTape_40 ?_
  refine lv_ldc hx hb hown k_19 dX0_readTape_43 ?_
  refine lv_icmp_ne (tgt := 53) hx hb dX0_readTape_45 (by decide) (fun c_12 => ?_) (fun c_12 => ?_)
  · have h := h.1 c_12
    exact J53 w_7 0 w_8 0 0 0 w_9 w_10 w_11 eCo h _ _ hP hD hS ls (lv_sub hl [0] rfl)
  · have h := h.2 c_12
    refine lv_aload_n hx hb dX0_readTape_48 rfl (lv_at hl 0 rfl) ?_
    refine lv_iconst (v := 0) hx hb dX0_readTape_49 (by decide) ?_
    have hPc := hP
    have hDc := hD
    have hFc := rc_freeI hD hS hA
    refine va_callv (va_runV (As := [.int 0]) (rest := []) ⟨hx, hb, hml, hown, hts⟩ ((c_wpG l E eo eb ec 120).1 H.size eLn w_7 0 w_8 0 0 0 w_9 w_10 w_11 eBy eCo 0 _ h) (cwV 1 hts gX0_readTape_X0_readLevel rfl rfl rfl (by decide +kernel) ⟨Nat.le_of_ble_eq_true rfl, Nat.le_of_ble_eq_true rfl⟩) ⟨fun a U g mk q => ⟨q.1, q.2.blind⟩, va_recv hK hPc (ci := 0) (q0 := 0) rfl rfl, fun U hU hW => ⟨rfl, by rw [hU], by rw [hU]; exact hPc, hE.call hS hFc hW hU, hDc.weaken (fun _ _ _ _ => trivial)⟩⟩ rfl rfl hl.1 rfl (lv_room (Nat.le_of_ble_eq_true rfl)) dX0_readTape_50 ⟨Nat.zero_le _, Nat.zero_le _⟩) hS (fun q _ h => hFc q h) hFc (fun u t H1 locs ht hvm h hB hz1 hk1 hS => ?_)
    obtain ⟨w_13, w_14, w_15, w_16, w_17, w_18, w_19, w_20, w_21⟩ := u
    obtain ⟨hP1, hD1⟩ := hB
    rw [ht] at hP1
    have hP := hP1
    have hD := hD1.weaken (fun _ _ _ h => hFc _ h)
    generalize H1 = H at hP hS ⊢
    have hP : va_P E.1 vwCl (rw_17 E eo eb ec eLn w_13 w_14 w_8 w_15 w_16 w_17 w_18 w_19 w_20 eBy w_21) H := hP
    have hD : va_D A (rw_17 E eo eb ec eLn w_13 w_14 w_8 w_15 w_16 w_17 w_18 w_19 w_20 eBy w_21) := hD
    exact J53 w_13 w_14 w_8 w_15 w_16 w_17 w_18 w_19 w_20 w_21 h _ _ hP hD hS ls (lv_sub hl [0] rfl)
