def lp_X7_counts_10F (p1 : Int32) (mNow : Nat → Int32)  (Q : Int32 → Prop) (R : Int32 → Prop) (x2 : Int32) : Prop :=
  ((x2 < 0 → Q (-1)) ∧ (¬ (x2 < 0) → (vp_in (81 + (2 * x2)) 1453 ∧ ((¬ ((mNow ((81 + (2 * x2)).toNatClampNeg)) / 1000) = p1 → R (x2 + (-1))) ∧ (((mNow ((81 + (2 * x2)).toNatClampNeg)) / 1000) = p1 → Q x2)))))
def lp_X7_counts_10 (p1 : Int32) (mNow : Nat → Int32)  (Q : Int32 → Prop) (n : Nat) : Int32 → Prop :=
  Nat.rec (motive := fun _ => Int32 → Prop) (fun _ => False) (fun _ r => lp_X7_counts_10F p1 mNow Q r) n
def wp_X7_counts (p1 : Int32) (mNow : Nat → Int32) (Q : Int32 → Prop) : Prop :=
  (∃ n : Nat, lp_X7_counts_10 p1 mNow Q n ((mNow 8) - 1))
set_option maxHeartbeats 4000000 in
set_option maxRecDepth 100000 in
theorem c_X7_counts (l : Launch) (E : gE) (mo mn mi ma ml mt mb mr mp mk mq mc mw mz ms mf mu mv mx mh mA mB mC mM mT : Nat) (sz : Nat) (mHI : Int32) (mFC : Int32) (mLC : Int32) (mCg : Int32) (mTp : Int32) (mNx : Int32) (mFr : Int32) (mTk : Int32) (mVa : Int32) (mEn : Int32) (mKe : Int32) (mCs : Int32) (mAt : Int32) (mHd : Int32) (mWg : Int32) (mNow : Nat → Int32) (mImg : Nat → Int32) (mAsd : Nat → Int32) (mLea : Nat → Int32) (mLat : Nat → Int32) (mBst : Nat → Int32) (mRsk : Nat → Int32) (mTap : Nat → Int32) (mKys : Nat → Int32) (mKat : Nat → Int32) (mCod : Nat → Int32) (mWts : Nat → Int32) (mTes : Nat → Int32) (mStk : Nat → Int32) (mFct : Nat → Int32) (mSor : Nat → Int32) (mSiz : Nat → Int32) (mCel : Nat → Int32) (mHol : Nat → Int32) (mHoA : Nat → Int32) (mHoB : Nat → Int32) (mHoC : Nat → Int32) (mMov : Nat → Int32) (mTel : Nat → Int32) (p1 : Int32)  (Q : Int32 → Prop) (h : wp_X7_counts p1 mNow Q) : Met l yX7_counts wsX7_counts ({ frames := 0, cells := 0, slots := 0, locals := 0 } : Room) (va_Pc [.ref mo, .int p1] (rc_B E (rw_24 E mo mn mi ma ml mt mb mr mp mk mq mc mw mz ms mf mu mv mx mh mA mB mC mM mT mHI mFC mLC mCg mTp mNx mFr mTk mVa mEn mKe mCs mAt mHd mWg mNow mImg mAsd mLea mLat mBst mRsk mTap mKys mKat mCod mWts mTes mStk mFct mSor mSiz mCel mHol mHoA mHoB mHoC mMov mTel) sz)) (va_Qi (S := Unit) (fun (r : Int32) (u : Unit) => Q r) (fun u t => rc_C E (va_A (rw_24 E mo mn mi ma ml mt mb mr mp mk mq mc mw mz ms mf mu mv mx mh mA mB mC mM mT mHI mFC mLC mCg mTp mNx mFr mTk mVa mEn mKe mCs mAt mHd mWg mNow mImg mAsd mLea mLat mBst mRsk mTap mKys mKat mCod mWts mTes mStk mFct mSor mSiz mCel mHol mHoA mHoB mHoC mMov mTel) sz) (rw_24 E mo mn mi ma ml mt mb mr mp mk mq mc mw mz ms mf mu mv mx mh mA mB mC mM mT mHI mFC mLC mCg mTp mNx mFr mTk mVa mEn mKe mCs mAt mHd mWg mNow mImg mAsd mLea mLat mBst mRsk mTap mKys mKat mCod mWts mTes mStk mFct mSor mSiz mCel mHol mHoA mHoB mHoC mMov mTel) t) (va_A (rw_24 E mo mn mi ma ml mt mb mr mp mk mq mc mw mz ms mf mu mv mx mh mA mB mC mM mT mHI mFC mLC mCg mTp mNx mFr mTk mVa mEn mKe mCs mAt mHd mWg mNow mImg mAsd mLea mLat mBst mRsk mTap mKys mKat mCod mWts mTes mStk mFct mSor mSiz mCel mHol mHoA mHoB mHoC mMov mTel) sz)) 0 0 (va_A (rw_24 E mo mn mi ma ml mt mb mr mp mk mq mc mw mz ms mf mu mv mx mh mA mB mC mM mT mHI mFC mLC mCg mTp mNx mFr mTk mVa mEn mKe mCs mAt mHd mWg mNow mImg mAsd mLea mLat mBst mRsk mTap mKys mKat mCod mWts mTes mStk mFct mSor mSiz mCel mHol mHoA mHoB mHoC mMov mTel) sz) := by
  refine rc_enterI (cc := cX7_counts) (maxL := 3) (by decide) rfl (Nat.le_of_ble_eq_true rfl) ?_
  intro p e s m args below meth c QQ A hx hb hml hown hts hmn hE hP hD hA hret ls hl
  have hown : s.vm.findClass RX7 = some m.cls := hown
  have hK := hE.1
  have hS : va_S A s.heap s.heap [] := va_S.rf
  have hl : lv_has ls 3 [(0, .ref mo), (1, .int p1)] := hl
  have n_X7 : ∀ w ∈ wsX70, w ∈ wsX7_counts := fun _ h => List.mem_cons_of_mem _ (List.mem_append_right _ h)
  have k_9 := hts (.fieldLink RX7 9 "RidgeClapsModel" "now" "[I") (List.mem_of_getElem? (i := 1) rfl)
  have J10 : ∀ (n : Nat) (x2 : Int32), lp_X7_counts_10 p1 mNow Q n x2 → ∀ (H : Heap) (locs : List Loc), va_P E.1 vwCl (rw_24 E mo mn mi ma ml mt mb mr mp mk mq mc mw mz ms mf mu mv mx mh mA mB mC mM mT mHI mFC mLC mCg mTp mNx mFr mTk mVa mEn mKe mCs mAt mHd mWg mNow mImg mAsd mLea mLat mBst mRsk mTap mKys mKat mCod mWts mTes mStk mFct mSor mSiz mCel mHol mHoA mHoB mHoC mMov mTel) H → va_D A (rw_24 E mo mn mi ma ml mt mb mr mp mk mq mc mw mz ms mf mu mv mx mh mA mB mC mM mT mHI mFC mLC mCg mTp mNx mFr mTk mVa mEn mKe mCs mAt mHd mWg mNow mImg mAsd mLea mLat mBst mRsk mTap mKys mKat mCod mWts mTes mStk mFct mSor mSiz mCel mHol mHoA mHoB mHoC mMov mTel) → va_S A s.heap H locs → ∀ ls : Array Slot, lv_has ls 3 [(0, .ref mo), (1, .int p1), (2, .int x2)] → W p l e ({ frames := 0, cells := 0, slots := 0, locals := 0 } : Room) s m args below meth c H locs 0 0 QQ (F0 m 10 ls []) := by
    intro n
    induction n with
    | zero =>
      intro x2 h
      exact False.elim h
    | succ n ih =>
      intro x2 h H locs hP hD hS ls hl
      have h : lp_X7_counts_10F p1 mNow Q (lp_X7_counts_10 p1 mNow Q n) x2 := h
      unfold lp_X7_counts_10F at h
      refine lv_iload_n hx hb dX7_counts_10 rfl (lv_at hl 2 rfl) ?_
      refine lv_if_lt (tgt := 41) hx hb dX7_counts_11 (by decide) (fun c_1 => ?_) (fun c_1 => ?_)
      · have h := h.1 c_1
        refine lv_iconst (v := (-1)) hx hb dX7_counts_41 (by decide) ?_
        exact hret _ _ _ _ (-1) () rfl h hP hD hS dX7_counts_42
      · have h := h.2 c_1
        refine lv_aload_n hx hb dX7_counts_14 rfl (lv_at hl 0 rfl) ?_
        refine va_get (D := E.1) (ci := 7) (v := .ref mn) (C := RX7) (T := TX7) (N := 39) hx hb hts n_X7 hown hK hP 0 rfl rfl 0 (by decide) k_9 (fun _ h9 => h9) rfl dX7_counts_15 ?_
        refine lv_bipush (v := 81) hx hb dX7_counts_18 (by decide) ?_
        refine lv_iconst (v := 2) hx hb dX7_counts_20 (by decide) ?_
        refine lv_iload_n hx hb dX7_counts_21 rfl (lv_at hl 2 rfl) ?_
        refine lv_imul hx hb dX7_counts_22 ?_
        refine lv_iadd hx hb dX7_counts_23 ?_
        obtain ⟨o_2, h⟩ := h
        refine rc_iald hx hb hK hP 1 0 rfl rfl ((81 + (2 * x2)).toNatClampNeg) rfl o_2 dX7_counts_24 ?_
        refine lv_sipush (v := 1000) hx hb dX7_counts_25 (by decide) ?_
        refine lv_idiv hx hb dX7_counts_28 (by decide) ?_
        refine lv_iload_n hx hb dX7_counts_29 rfl (lv_at hl 1 rfl) ?_
        refine lv_icmp_ne (tgt := 35) hx hb dX7_counts_30 (by decide) (fun c_3 => ?_) (fun c_3 => ?_)
        · have h := h.1 c_3
          refine lv_iinc (v := x2 + (-1)) (lv' := [(2, .int (x2 + (-1))), (0, .ref mo), (1, .int p1)]) hx hb dX7_counts_35 hl (k := 2) rfl (by rfl) (by decide) rfl (fun ls hl => ?_)
          refine lv_goto (tgt := 10) hx hb dX7_counts_38 (by decide) ?_
          exact ih (x2 + (-1)) h _ _ hP hD hS ls (lv_sub hl [1, 2, 0] rfl)
        · have h := h.2 c_3
          refine lv_iload_n hx hb dX7_counts_33 rfl (lv_at hl 2 rfl) ?_
          exact hret _ _ _ _ x2 () rfl h hP hD hS dX7_counts_34
  unfold wp_X7_counts at h
  obtain ⟨H, hH⟩ : ∃ H, H = s.heap := ⟨_, rfl⟩
  obtain ⟨locs, hlocs⟩ : ∃ locs : List Loc, locs = [] := ⟨_, rfl⟩
  have hP : va_P E.1 vwCl (rw_24 E mo mn mi ma ml mt mb mr mp mk mq mc mw mz ms mf mu mv mx mh mA mB mC mM mT mHI mFC mLC mCg mTp mNx mFr mTk mVa mEn mKe mCs mAt mHd mWg mNow mImg mAsd mLea mLat mBst mRsk mTap mKys mKat mCod mWts mTes mStk mFct mSor mSiz mCel mHol mHoA mHoB mHoC mMov mTel) H := by rw [hH]; exact hP
  have hS : va_S A s.heap H locs := by rw [hH, hlocs]; exact hS
  suffices hgo : W p l e ({ frames := 0, cells := 0, slots := 0, locals := 0 } : Room) s m args below meth c H locs 0 0 QQ (F0 m 0 ls []) from by rw [hH, hlocs] at hgo; exact hgo
  refine lv_aload_n hx hb dX7_counts_0 rfl (lv_at hl 0 rfl) ?_
  refine va_get (D := E.1) (ci := 7) (v := .ref mn) (C := RX7) (T := TX7) (N := 39) hx hb hts n_X7 hown hK hP 0 rfl rfl 0 (by decide) k_9 (fun _ h9 => h9) rfl dX7_counts_1 ?_
  refine lv_bipush (v := 8) hx hb dX7_counts_4 (by decide) ?_
  refine rc_iald hx hb hK hP 1 0 rfl rfl 8 (by decide) (by unfold vp_in; decide) dX7_counts_6 ?_
  refine lv_iconst (v := 1) hx hb dX7_counts_7 (by decide) ?_
  refine lv_isub hx hb dX7_counts_8 ?_
  refine lv_istore_n (lv' := [(2, .int ((mNow 8) - 1)), (0, .ref mo), (1, .int p1)]) hx hb dX7_counts_9 rfl hl (by decide) rfl (fun ls hl => ?_)
  obtain ⟨n, h⟩ := h
  exact J10 n ((mNow 8) - 1) h _ _ hP hD hS ls (lv_sub hl [1, 2, 0] rfl)
def lp_X7_worksOut_21F (p1 : Int32) (mNow : Nat → Int32) (mFct : Nat → Int32)  (Q : Int32 → (Nat → Int32) → Prop) (R : Int32 → Int32 → Int32 → (Nat → Int32) → Prop) (x2 : Int32) (x3 : Int32) (x4 : Int32) (mStk : Nat → Int32) : Prop :=
  ((x3 ≤ x4 → Q (mStk 0) mStk) ∧ (¬ (x3 ≤ x4) → (vp_in ((109 + (96 * p1)) + x4) 1453 ∧ (((mNow (((109 + (96 * p1)) + x4).toNatClampNeg)) < 0 → ((¬ (mNow (((109 + (96 * p1)) + x4).toNatClampNeg)) = (-10) → (vp_in ((x2 + (-1)) - 1) 96 ∧ (vp_in (x2 + (-1)) 96 ∧ wp_X7_two (mNow (((109 + (96 * p1)) + x4).toNatClampNeg)) (mStk (((x2 + (-1)) - 1).toNatClampNeg)) (mStk ((x2 + (-1)).toNatClampNeg)) (fun (r_7 : Int32) => (vp_in ((x2 + (-1)) - 1) 96 ∧ R (x2 + (-1)) x3 (x4 + 1) (upd mStk (((x2 + (-1)) - 1).toNatClampNeg) r_7)))))) ∧ ((mNow (((109 + (96 * p1)) + x4).toNatClampNeg)) = (-10) → (vp_in (x2 - 1) 96 ∧ ((¬ (mStk ((x2 - 1).toNatClampNeg)) = 0 → (vp_in (x2 - 1) 96 ∧ R x2 x3 (x4 + 1) (upd mStk ((x2 - 1).toNatClampNeg) 0))) ∧ ((mStk ((x2 - 1).toNatClampNeg)) = 0 → (vp_in (x2 - 1) 96 ∧ R x2 x3 (x4 + 1) (upd mStk ((x2 - 1).toNatClampNeg) 1)))))))) ∧ (¬ ((mNow (((109 + (96 * p1)) + x4).toNatClampNeg)) < 0) → ((10000 ≤ (mNow (((109 + (96 * p1)) + x4).toNatClampNeg)) → (vp_in ((mNow (((109 + (96 * p1)) + x4).toNatClampNeg)) - 10000) 4 ∧ (vp_in x2 96 ∧ R (x2 + 1) x3 (x4 + 1) (upd mStk x2.toNatClampNeg (mFct (((mNow (((109 + (96 * p1)) + x4).toNatClampNeg)) - 10000).toNatClampNeg)))))) ∧ (¬ (10000 ≤ (mNow (((109 + (96 * p1)) + x4).toNatClampNeg))) → (vp_in x2 96 ∧ R (x2 + 1) x3 (x4 + 1) (upd mStk x2.toNatClampNeg (mNow (((109 + (96 * p1)) + x4).toNatClampNeg)))))))))))
def lp_X7_worksOut_21 (p1 : Int32) (mNow : Nat → Int32) (mFct : Nat → Int32)  (Q : Int32 → (Nat → Int32) → Prop) (n : Nat) : Int32 → Int32 → Int32 → (Nat → Int32) → Prop :=
  Nat.rec (motive := fun _ => Int32 → Int32 → Int32 → (Nat → Int32) → Prop) (fun _ _ _ _ => False) (fun _ r => lp_X7_worksOut_21F p1 mNow mFct Q r) n
def wp_X7_worksOut (p1 : Int32) (mNow : Nat → Int32) (mStk : Nat → Int32) (mFct : Nat → Int32) (Q : Int32 → (Nat → Int32) → Prop) : Prop :=
  (vp_in (81 + (2 * p1)) 1453 ∧ (∃ n : Nat, lp_X7_worksOut_21 p1 mNow mFct Q n 0 (rc_rem (mNow ((81 + (2 * p1)).toNatClampNeg)) 1000) 0 mStk))
set_option maxHeartbeats 4000000 in
set_option maxRecDepth 100000 in
theorem c_X7_worksOut (l : Launch) (E : gE) (mo mn mi ma ml mt mb mr mp mk mq mc mw mz ms mf mu mv mx mh mA mB mC mM mT : Nat) (sz : Nat) (mHI : Int32) (mFC : Int32) (mLC : Int32) (mCg : Int32) (mTp : Int32) (mNx : Int32) (mFr : Int32) (mTk : Int32) (mVa : Int32) (mEn : Int32) (mKe : Int32) (mCs : Int32) (mAt : Int32) (mHd : Int32) (mWg : Int32) (mNow : Nat → Int32) (mImg : Nat → Int32) (mAsd : Nat → Int32) (mLea : Nat → Int32) (mLat : Nat → Int32) (mBst : Nat → Int32) (mRsk : Nat → Int32) (mTap : Nat → Int32) (mKys : Nat → Int32) (mKat : Nat → Int32) (mCod : Nat → Int32) (mWts : Nat → Int32) (mTes : Nat → Int32) (mStk : Nat → Int32) (mFct : Nat → Int32) (mSor : Nat → Int32) (mSiz : Nat → Int32) (mCel : Nat → Int32) (mHol : Nat → Int32) (mHoA : Nat → Int32) (mHoB : Nat → Int32) (mHoC : Nat → Int32) (mMov : Nat → Int32) (mTel : Nat → Int32) (p1 : Int32)  (Q : Int32 → (Nat → Int32) → Prop) (h : wp_X7_worksOut p1 mNow mStk mFct Q) : Met l yX7_worksOut wsX7_worksOut ({ frames := 1, cells := 0, slots := 0, locals := 22 } : Room) (va_Pc [.ref mo, .int p1] (rc_B E (rw_24 E mo mn mi ma ml mt mb mr mp mk mq mc mw mz ms mf mu mv mx mh mA mB mC mM mT mHI mFC mLC mCg mTp mNx mFr mTk mVa mEn mKe mCs mAt mHd mWg mNow mImg mAsd mLea mLat mBst mRsk mTap mKys mKat mCod mWts mTes mStk mFct mSor mSiz mCel mHol mHoA mHoB mHoC mMov mTel) sz)) (va_Qi (S := (Nat → Int32)) (fun (r : Int32) (u : (Nat → Int32)) => Q r u) (fun u t => rc_C E (va_A (rw_24 E mo mn mi ma ml mt mb mr mp mk mq mc mw mz ms mf mu mv mx mh mA mB mC mM mT mHI mFC mLC mCg mTp mNx mFr mTk mVa mEn mKe mCs mAt mHd mWg mNow mImg mAsd mLea mLat mBst mRsk mTap mKys mKat mCod mWts mTes mStk mFct mSor mSiz mCel mHol mHoA mHoB mHoC mMov mTel) sz) (rw_24 E mo mn mi ma ml mt mb mr mp mk mq mc mw mz ms mf mu mv mx mh mA mB mC mM mT mHI mFC mLC mCg mTp mNx mFr mTk mVa mEn mKe mCs mAt mHd mWg mNow mImg mAsd mLea mLat mBst mRsk mTap mKys mKat mCod mWts mTes u mFct mSor mSiz mCel mHol mHoA mHoB mHoC mMov mTel) t) (va_A (rw_24 E mo mn mi ma ml mt mb mr mp mk mq mc mw mz ms mf mu mv mx mh mA mB mC mM mT mHI mFC mLC mCg mTp mNx mFr mTk mVa mEn mKe mCs mAt mHd mWg mNow mImg mAsd mLea mLat mBst mRsk mTap mKys mKat mCod mWts mTes mStk mFct mSor mSiz mCel mHol mHoA mHoB mHoC mMov mTel) sz)) 0 0 (va_A (rw_24 E mo mn mi ma ml mt mb mr mp mk mq mc mw mz ms mf mu mv mx mh mA mB mC mM mT mHI mFC mLC mCg mTp mNx mFr mTk mVa mEn mKe mCs mAt mHd mWg mNow mImg mAsd mLea mLat mBst mRsk mTap mKys mKat mCod mWts mTes mStk mFct mSor mSiz mCel mHol mHoA mHoB mHoC mMov mTel) sz) := by
  refine rc_enterI (cc := cX7_worksOut) (maxL := 6) (by decide) rfl (Nat.le_of_ble_eq_true rfl) ?_
  intro p e s m args below meth c QQ A hx hb hml hown hts hmn hE hP hD hA hret ls hl
  have hown : s.vm.findClass RX7 = some m.cls := hown
  have hK := hE.1
  have hS : va_S A s.heap s.heap [] := va_S.rf
  have hl : lv_has ls 6 [(0, .ref mo), (1, .int p1)] := hl
  have n_X7 : ∀ w ∈ wsX70, w ∈ wsX7_worksOut := fun _ h => List.mem_cons_of_mem _ (List.mem_append_right _ h)
  have k_51 := hts (.fieldLink RX7 51 "RidgeClapsModel" "stack" "[I") (List.mem_of_getElem? (i := 2) rfl)
  have k_9 := hts (.fieldLink RX7 9 "RidgeClapsModel" "now" "[I") (List.mem_of_getElem? (i := 1) rfl)
  have k_54 := hts (.fieldLink RX7 54 "RidgeClapsModel" "facts" "[I") (List.mem_of_getElem? (i := 3) rfl)
  have J21 : ∀ (n : Nat) (x2 : Int32) (x3 : Int32) (x4 : Int32) (mStk : Nat → Int32), lp_X7_worksOut_21 p1 mNow mFct Q n x2 x3 x4 mStk → ∀ (H : Heap) (locs : List Loc), va_P E.1 vwCl (rw_24 E mo mn mi ma ml mt mb mr mp mk mq mc mw mz ms mf mu mv mx mh mA mB mC mM mT mHI mFC mLC mCg mTp mNx mFr mTk mVa mEn mKe mCs mAt mHd mWg mNow mImg mAsd mLea mLat mBst mRsk mTap mKys mKat mCod mWts mTes mStk mFct mSor mSiz mCel mHol mHoA mHoB mHoC mMov mTel) H → va_D A (rw_24 E mo mn mi ma ml mt mb mr mp mk mq mc mw mz ms mf mu mv mx mh mA mB mC mM mT mHI mFC mLC mCg mTp mNx mFr mTk mVa mEn mKe mCs mAt mHd mWg mNow mImg mAsd mLea mLat mBst mRsk mTap mKys mKat mCod mWts mTes mStk mFct mSor mSiz mCel mHol mHoA mHoB mHoC mMov mTel) → va_S A s.heap H locs → ∀ ls : Array Slot, lv_has ls 6 [(0, .ref mo), (1, .int p1), (2, .int x2), (3, .int x3), (4, .int x4)] → W p l e ({ frames := 1, cells := 0, slots := 0, locals := 22 } : Room) s m args below meth c H locs 0 0 QQ (F0 m 21 ls []) := by
    intro n
    induction n with
    | zero =>
      intro x2 x3 x4 mStk h
      exact False.elim h
    | succ n ih =>
      intro x2 x3 x4 mStk h H locs hP hD hS ls hl
      have h : lp_X7_worksOut_21F p1 mNow mFct Q (lp_X7_worksOut_21 p1 mNow mFct Q n) x2 x3 x4 mStk := h
      unfold lp_X7_worksOut_21F at h
      refine lv_iload hx hb dX7_worksOut_21 (lv_at hl 4 rfl) ?_
      refine lv_iload_n hx hb dX7_worksOut_23 rfl (lv_at hl 3 rfl) ?_
      refine lv_icmp_ge (tgt := 155) hx hb dX7_worksOut_24 (by decide) (fun c_1 => ?_) (fun c_1 => ?_)
      · have h := h.1 c_1
        refine lv_aload_n hx hb dX7_worksOut_155 rfl (lv_at hl 0 rfl) ?_
        refine va_get (D := E.1) (ci := 7) (v := .ref ms) (C := RX7) (T := TX7) (N := 39) hx hb hts n_X7 hown hK hP 0 rfl rfl 27 (by decide) k_51 (fun _ h9 => h9) rfl dX7_worksOut_156 ?_
        refine lv_iconst (v := 0) hx hb dX7_worksOut_159 (by decide) ?_
        refine rc_iald hx hb hK hP 14 0 rfl rfl 0 (by decide) (by unfold vp_in; decide) dX7_worksOut_160 ?_
        exact hret _ _ _ _ (mStk 0) (mStk) rfl h hP hD hS dX7_worksOut_161
      · have h := h.2 c_1
        refine lv_aload_n hx hb dX7_worksOut_27 rfl (lv_at hl 0 rfl) ?_
        refine va_get (D := E.1) (ci := 7) (v := .ref mn) (C := RX7) (T := TX7) (N := 39) hx hb hts n_X7 hown hK hP 0 rfl rfl 0 (by decide) k_9 (fun _ h9 => h9) rfl dX7_worksOut_28 ?_
        refine lv_bipush (v := 109) hx hb dX7_worksOut_31 (by decide) ?_
        refine lv_bipush (v := 96) hx hb dX7_worksOut_33 (by decide) ?_
        refine lv_iload_n hx hb dX7_worksOut_35 rfl (lv_at hl 1 rfl) ?_
        refine lv_imul hx hb dX7_worksOut_36 ?_
        refine lv_iadd hx hb dX7_worksOut_37 ?_
        refine lv_iload hx hb dX7_worksOut_38 (lv_at hl 4 rfl) ?_
        refine lv_iadd hx hb dX7_worksOut_40 ?_
        obtain ⟨o_2, h⟩ := h
        refine rc_iald hx hb hK hP 1 0 rfl rfl (((109 + (96 * p1)) + x4).toNatClampNeg) rfl o_2 dX7_worksOut_41 ?_
        refine lv_istore (lv' := [(5, .int (mNow (((109 + (96 * p1)) + x4).toNatClampNeg))), (0, .ref mo), (1, .int p1), (2, .int x2), (3, .int x3), (4, .int x4)]) hx hb dX7_worksOut_42 hl (by decide) rfl (fun ls hl => ?_)
        refine lv_iload hx hb dX7_worksOut_44 (lv_at hl 0 rfl) ?_
        refine lv_if_lt (tgt := 85) hx hb dX7_worksOut_46 (by decide) (fun c_3 => ?_) (fun c_3 => ?_)
        · have h := h.1 c_3
          refine lv_iload hx hb dX7_worksOut_85 (lv_at hl 0 rfl) ?_
          refine lv_bipush (v := (-10)) hx hb dX7_worksOut_87 (by decide) ?_
          refine lv_icmp_ne (tgt := 119) hx hb dX7_worksOut_89 (by decide) (fun c_4 => ?_) (fun c_4 => ?_)
          · have h := h.1 c_4
            refine lv_iinc (v := x2 + (-1)) (lv' := [(2, .int (x2 + (-1))), (5, .int (mNow (((109 + (96 * p1)) + x4).toNatClampNeg))), (0, .ref mo), (1, .int p1), (3, .int x3), (4, .int x4)]) hx hb dX7_worksOut_119 hl (k := 3) rfl (by rfl) (by decide) rfl (fun ls hl => ?_)
            refine lv_aload_n hx hb dX7_worksOut_122 rfl (lv_at hl 2 rfl) ?_
            refine va_get (D := E.1) (ci := 7) (v := .ref ms) (C := RX7) (T := TX7) (N := 39) hx hb hts n_X7 hown hK hP 0 rfl rfl 27 (by decide) k_51 (fun _ h9 => h9) rfl dX7_worksOut_123 ?_
            refine lv_iload_n hx hb dX7_worksOut_126 rfl (lv_at hl 0 rfl) ?_
            refine lv_iconst (v := 1) hx hb dX7_worksOut_127 (by decide) ?_
            refine lv_isub hx hb dX7_worksOut_128 ?_
            refine lv_iload hx hb dX7_worksOut_129 (lv_at hl 1 rfl) ?_
            refine lv_aload_n hx hb dX7_worksOut_131 rfl (lv_at hl 2 rfl) ?_
            refine va_get (D := E.1) (ci := 7) (v := .ref ms) (C := RX7) (T := TX7) (N := 39) hx hb hts n_X7 hown hK hP 0 rfl rfl 27 (by decide) k_51 (fun _ h9 => h9) rfl dX7_worksOut_132 ?_
            refine lv_iload_n hx hb dX7_worksOut_135 rfl (lv_at hl 0 rfl) ?_
            refine lv_iconst (v := 1) hx hb dX7_worksOut_136 (by decide) ?_
            refine lv_isub hx hb dX7_worksOut_137 ?_
            obtain ⟨o_5, h⟩ := h
            refine rc_iald hx hb hK hP 14 0 rfl rfl (((x2 + (-1)) - 1).toNatClampNeg) rfl o_5 dX7_worksOut_138 ?_
            refine lv_aload_n hx hb dX7_worksOut_139 rfl (lv_at hl 2 rfl) ?_
            refine va_get (D := E.1) (ci := 7) (v := .ref ms) (C := RX7) (T := TX7) (N := 39) hx hb hts n_X7 hown hK hP 0 rfl rfl 27 (by decide) k_51 (fun _ h9 => h9) rfl dX7_worksOut_140 ?_
            refine lv_iload_n hx hb dX7_worksOut_143 rfl (lv_at hl 0 rfl) ?_
            obtain ⟨o_6, h⟩ := h
            refine rc_iald hx hb hK hP 14 0 rfl rfl ((x2 + (-1)).toNatClampNeg) rfl o_6 dX7_worksOut_144 ?_
            have hPc := hP.sub (ws' := []) [] rfl
            have hDc := hD.sub (ws' := []) [] (by decide) rfl
            have hFc := va_free (wc := []) hD hS hA [] rfl
            refine va_calli (va_runS (As := [.int (mNow (((109 + (96 * p1)) + x4).toNatClampNeg)), .int (mStk (((x2 + (-1)) - 1).toNatClampNeg)), .int (mStk ((x2 + (-1)).toNatClampNeg))]) (rest := [.int ((x2 + (-1)) - 1), .ref ms]) ⟨hx, hb, hml, hown, hts⟩ (c_X7_two l E H.size (mNow (((109 + (96 * p1)) + x4).toNatClampNeg)) (mStk (((x2 + (-1)) - 1).toNatClampNeg)) (mStk ((x2 + (-1)).toNatClampNeg)) _ h) (va_cwS 3 hts gX7_worksOut_X7_two rfl rfl rfl (by decide +kernel) ⟨Nat.le_of_ble_eq_true rfl, Nat.le_of_ble_eq_true rfl⟩) ⟨fun a U g mk q => ⟨q.1, q.2.blind⟩, fun U hU hW => ⟨rfl, by rw [hU], by rw [hU]; exact hPc, hE.call hS hFc hW hU, hDc.weaken (fun _ _ _ _ => trivial)⟩⟩ rfl rfl hl.1 rfl (lv_room (Nat.le_of_ble_eq_true rfl)) dX7_worksOut_145 ⟨Nat.zero_le _, Nat.zero_le _⟩) hS (fun q _ h => hFc q h) hFc (fun r_7 u t H1 locs ht hvm h hB hz1 hk1 hS => ?_)
            obtain ⟨hP1, hD1⟩ := hB
            rw [ht] at hP1
            obtain ⟨hP, hD⟩ := rc_foc hP hD [] [none, none, none, none, none, none, none, none, none, none, none, none, none, none, none, none, none, none, none, none, none, none, none, none, none] (by decide) rfl hk1 hP1 rfl
            generalize H1 = H at hP hS ⊢
            have hP : va_P E.1 vwCl (rw_24 E mo mn mi ma ml mt mb mr mp mk mq mc mw mz ms mf mu mv mx mh mA mB mC mM mT mHI mFC mLC mCg mTp mNx mFr mTk mVa mEn mKe mCs mAt mHd mWg mNow mImg mAsd mLea mLat mBst mRsk mTap mKys mKat mCod mWts mTes mStk mFct mSor mSiz mCel mHol mHoA mHoB mHoC mMov mTel) H := hP
            have hD : va_D A (rw_24 E mo mn mi ma ml mt mb mr mp mk mq mc mw mz ms mf mu mv mx mh mA mB mC mM mT mHI mFC mLC mCg mTp mNx mFr mTk mVa mEn mKe mCs mAt mHd mWg mNow mImg mAsd mLea mLat mBst mRsk mTap mKys mKat mCod mWts mTes mStk mFct mSor mSiz mCel mHol mHoA mHoB mHoC mMov mTel) := hD
            obtain ⟨o_8, h⟩ := h
            refine rc_iast hx hb hK hP hD hS 14 0 rfl rfl (((x2 + (-1)) - 1).toNatClampNeg) rfl o_8 dX7_worksOut_148 (fun H locs hP hD hS => ?_)
            have hP : va_P E.1 vwCl (rw_24 E mo mn mi ma ml mt mb mr mp mk mq mc mw mz ms mf mu mv mx mh mA mB mC mM mT mHI mFC mLC mCg mTp mNx mFr mTk mVa mEn mKe mCs mAt mHd mWg mNow mImg mAsd mLea mLat mBst mRsk mTap mKys mKat mCod mWts mTes (upd mStk (((x2 + (-1)) - 1).toNatClampNeg) r_7) mFct mSor mSiz mCel mHol mHoA mHoB mHoC mMov mTel) H := hP
            have hD : va_D A (rw_24 E mo mn mi ma ml mt mb mr mp mk mq mc mw mz ms mf mu mv mx mh mA mB mC mM mT mHI mFC mLC mCg mTp mNx mFr mTk mVa mEn mKe mCs mAt mHd mWg mNow mImg mAsd mLea mLat mBst mRsk mTap mKys mKat mCod mWts mTes (upd mStk (((x2 + (-1)) - 1).toNatClampNeg) r_7) mFct mSor mSiz mCel mHol mHoA mHoB mHoC mMov mTel) := hD
            refine lv_iinc (v := x4 + 1) (lv' := [(4, .int (x4 + 1)), (2, .int (x2 + (-1))), (5, .int (mNow (((109 + (96 * p1)) + x4).toNatClampNeg))), (0, .ref mo), (1, .int p1), (3, .int x3)]) hx hb dX7_worksOut_149 hl (k := 5) rfl (by rfl) (by decide) rfl (fun ls hl => ?_)
            refine lv_goto (tgt := 21) hx hb dX7_worksOut_152 (by decide) ?_
            exact ih (x2 + (-1)) x3 (x4 + 1) (upd mStk (((x2 + (-1)) - 1).toNatClampNeg) r_7) h _ _ hP hD hS ls (lv_sub hl [3, 4, 1, 5, 0] rfl)
          · have h := h.2 c_4
            refine lv_aload_n hx hb dX7_worksOut_92 rfl (lv_at hl 1 rfl) ?_
            refine va_get (D := E.1) (ci := 7) (v := .ref ms) (C := RX7) (T := TX7) (N := 39) hx hb hts n_X7 hown hK hP 0 rfl rfl 27 (by decide) k_51 (fun _ h9 => h9) rfl dX7_worksOut_93 ?_
            refine lv_iload_n hx hb dX7_worksOut_96 rfl (lv_at hl 3 rfl) ?_
            refine lv_iconst (v := 1) hx hb dX7_worksOut_97 (by decide) ?_
            refine lv_isub hx hb dX7_worksOut_98 ?_
            refine lv_aload_n hx hb dX7_worksOut_99 rfl (lv_at hl 1 rfl) ?_
            refine va_get (D := E.1) (ci := 7) (v := .ref ms) (C := RX7) (T := TX7) (N := 39) hx hb hts n_X7 hown hK hP 0 rfl rfl 27 (by decide) k_51 (fun _ h9 => h9) rfl dX7_worksOut_100 ?_
            refine lv_iload_n hx hb dX7_worksOut_103 rfl (lv_at hl 3 rfl) ?_
            refine lv_iconst (v := 1) hx hb dX7_worksOut_104 (by decide) ?_
            refine lv_isub hx hb dX7_worksOut_105 ?_
            obtain ⟨o_9, h⟩ := h
            refine rc_iald hx hb hK hP 14 0 rfl rfl ((x2 - 1).toNatClampNeg) rfl o_9 dX7_worksOut_106 ?_
            refine lv_if_ne (tgt := 114) hx hb dX7_worksOut_107 (by decide) (fun c_10 => ?_) (fun c_10 => ?_)
            · have h := h.1 c_10
              refine lv_iconst (v := 0) hx hb dX7_worksOut_114 (by decide) ?_
              obtain ⟨o_11, h⟩ := h
              refine rc_iast hx hb hK hP hD hS 14 0 rfl rfl ((x2 - 1).toNatClampNeg) rfl o_11 dX7_worksOut_115 (fun H locs hP hD hS => ?_)
              have hP : va_P E.1 vwCl (rw_24 E mo mn mi ma ml mt mb mr mp mk mq mc mw mz ms mf mu mv mx mh mA mB mC mM mT mHI mFC mLC mCg mTp mNx mFr mTk mVa mEn mKe mCs mAt mHd mWg mNow mImg mAsd mLea mLat mBst mRsk mTap mKys mKat mCod mWts mTes (upd mStk ((x2 - 1).toNatClampNeg) 0) mFct mSor mSiz mCel mHol mHoA mHoB mHoC mMov mTel) H := hP
              have hD : va_D A (rw_24 E mo mn mi ma ml mt mb mr mp mk mq mc mw mz ms mf mu mv mx mh mA mB mC mM mT mHI mFC mLC mCg mTp mNx mFr mTk mVa mEn mKe mCs mAt mHd mWg mNow mImg mAsd mLea mLat mBst mRsk mTap mKys mKat mCod mWts mTes (upd mStk ((x2 - 1).toNatClampNeg) 0) mFct mSor mSiz mCel mHol mHoA mHoB mHoC mMov mTel) := hD
              refine lv_goto (tgt := 149) hx hb dX7_worksOut_116 (by decide) ?_
              refine lv_iinc (v := x4 + 1) (lv' := [(4, .int (x4 + 1)), (5, .int (mNow (((109 + (96 * p1)) + x4).toNatClampNeg))), (0, .ref mo), (1, .int p1), (2, .int x2), (3, .int x3)]) hx hb dX7_worksOut_149 hl (k := 5) rfl (by rfl) (by decide) rfl (fun ls hl => ?_)
              refine lv_goto (tgt := 21) hx hb dX7_worksOut_152 (by decide) ?_
              exact ih x2 x3 (x4 + 1) (upd mStk ((x2 - 1).toNatClampNeg) 0) h _ _ hP hD hS ls (lv_sub hl [2, 3, 4, 5, 0] rfl)
            · have h := h.2 c_10
              refine lv_iconst (v := 1) hx hb dX7_worksOut_110 (by decide) ?_
              refine lv_goto (tgt := 115) hx hb dX7_worksOut_111 (by decide) ?_
              obtain ⟨o_12, h⟩ := h
              refine rc_iast hx hb hK hP hD hS 14 0 rfl rfl ((x2 - 1).toNatClampNeg) rfl o_12 dX7_worksOut_115 (fun H locs hP hD hS => ?_)
              have hP : va_P E.1 vwCl (rw_24 E mo mn mi ma ml mt mb mr mp mk mq mc mw mz ms mf mu mv mx mh mA mB mC mM mT mHI mFC mLC mCg mTp mNx mFr mTk mVa mEn mKe mCs mAt mHd mWg mNow mImg mAsd mLea mLat mBst mRsk mTap mKys mKat mCod mWts mTes (upd mStk ((x2 - 1).toNatClampNeg) 1) mFct mSor mSiz mCel mHol mHoA mHoB mHoC mMov mTel) H := hP
              have hD : va_D A (rw_24 E mo mn mi ma ml mt mb mr mp mk mq mc mw mz ms mf mu mv mx mh mA mB mC mM mT mHI mFC mLC mCg mTp mNx mFr mTk mVa mEn mKe mCs mAt mHd mWg mNow mImg mAsd mLea mLat mBst mRsk mTap mKys mKat mCod mWts mTes (upd mStk ((x2 - 1).toNatClampNeg) 1) mFct mSor mSiz mCel mHol mHoA mHoB mHoC mMov mTel) := hD
              refine lv_goto (tgt := 149) hx hb dX7_worksOut_116 (by decide) ?_
              refine lv_iinc (v := x4 + 1) (lv' := [(4, .int (x4 + 1)), (5, .int (mNow (((109 + (96 * p1)) + x4).toNatClampNeg))), (0, .ref mo), (1, .int p1), (2, .int x2), (3, .int x3)]) hx hb dX7_worksOut_149 hl (k := 5) rfl (by rfl) (by decide) rfl (fun ls hl => ?_)
              refine lv_goto (tgt := 21) hx hb dX7_worksOut_152 (by decide) ?_
              exact ih x2 x3 (x4 + 1) (upd mStk ((x2 - 1).toNatClampNeg) 1) h _ _ hP hD hS ls (lv_sub hl [2, 3, 4, 5, 0] rfl)
        · have h := h.2 c_3
          refine lv_aload_n hx hb dX7_worksOut_49 rfl (lv_at hl 1 rfl) ?_
          refine va_get (D := E.1) (ci := 7) (v := .ref ms) (C := RX7) (T := TX7) (N := 39) hx hb hts n_X7 hown hK hP 0 rfl rfl 27 (by decide) k_51 (fun _ h9 => h9) rfl dX7_worksOut_50 ?_
          refine lv_iload_n hx hb dX7_worksOut_53 rfl (lv_at hl 3 rfl) ?_
          refine lv_iload hx hb dX7_worksOut_54 (lv_at hl 0 rfl) ?_
          refine lv_sipush (v := 10000) hx hb dX7_worksOut_56 (by decide) ?_
          refine lv_icmp_ge (tgt := 67) hx hb dX7_worksOut_59 (by decide) (fun c_13 => ?_) (fun c_13 => ?_)
          · have h := h.1 c_13
            refine lv_aload_n hx hb dX7_worksOut_67 rfl (lv_at hl 1 rfl) ?_
            refine va_get (D := E.1) (ci := 7) (v := .ref mf) (C := RX7) (T := TX7) (N := 39) hx hb hts n_X7 hown hK hP 0 rfl rfl 28 (by decide) k_54 (fun _ h9 => h9) rfl dX7_worksOut_68 ?_
            refine lv_iload hx hb dX7_worksOut_71 (lv_at hl 0 rfl) ?_
            refine lv_sipush (v := 10000) hx hb dX7_worksOut_73 (by decide) ?_
            refine lv_isub hx hb dX7_worksOut_76 ?_
            obtain ⟨o_14, h⟩ := h
            refine rc_iald hx hb hK hP 15 0 rfl rfl (((mNow (((109 + (96 * p1)) + x4).toNatClampNeg)) - 10000).toNatClampNeg) rfl o_14 dX7_worksOut_77 ?_
            obtain ⟨o_15, h⟩ := h
            refine rc_iast hx hb hK hP hD hS 14 0 rfl rfl x2.toNatClampNeg rfl o_15 dX7_worksOut_78 (fun H locs hP hD hS => ?_)
            have hP : va_P E.1 vwCl (rw_24 E mo mn mi ma ml mt mb mr mp mk mq mc mw mz ms mf mu mv mx mh mA mB mC mM mT mHI mFC mLC mCg mTp mNx mFr mTk mVa mEn mKe mCs mAt mHd mWg mNow mImg mAsd mLea mLat mBst mRsk mTap mKys mKat mCod mWts mTes (upd mStk x2.toNatClampNeg (mFct (((mNow (((109 + (96 * p1)) + x4).toNatClampNeg)) - 10000).toNatClampNeg))) mFct mSor mSiz mCel mHol mHoA mHoB mHoC mMov mTel) H := hP
            have hD : va_D A (rw_24 E mo mn mi ma ml mt mb mr mp mk mq mc mw mz ms mf mu mv mx mh mA mB mC mM mT mHI mFC mLC mCg mTp mNx mFr mTk mVa mEn mKe mCs mAt mHd mWg mNow mImg mAsd mLea mLat mBst mRsk mTap mKys mKat mCod mWts mTes (upd mStk x2.toNatClampNeg (mFct (((mNow (((109 + (96 * p1)) + x4).toNatClampNeg)) - 10000).toNatClampNeg))) mFct mSor mSiz mCel mHol mHoA mHoB mHoC mMov mTel) := hD
            refine lv_iinc (v := x2 + 1) (lv' := [(2, .int (x2 + 1)), (5, .int (mNow (((109 + (96 * p1)) + x4).toNatClampNeg))), (0, .ref mo), (1, .int p1), (3, .int x3), (4, .int x4)]) hx hb dX7_worksOut_79 hl (k := 3) rfl (by rfl) (by decide) rfl (fun ls hl => ?_)
            refine lv_goto (tgt := 149) hx hb dX7_worksOut_82 (by decide) ?_
            refine lv_iinc (v := x4 + 1) (lv' := [(4, .int (x4 + 1)), (2, .int (x2 + 1)), (5, .int (mNow (((109 + (96 * p1)) + x4).toNatClampNeg))), (0, .ref mo), (1, .int p1), (3, .int x3)]) hx hb dX7_worksOut_149 hl (k := 5) rfl (by rfl) (by decide) rfl (fun ls hl => ?_)
            refine lv_goto (tgt := 21) hx hb dX7_worksOut_152 (by decide) ?_
            exact ih (x2 + 1) x3 (x4 + 1) (upd mStk x2.toNatClampNeg (mFct (((mNow (((109 + (96 * p1)) + x4).toNatClampNeg)) - 10000).toNatClampNeg))) h _ _ hP hD hS ls (lv_sub hl [3, 4, 1, 5, 0] rfl)
          · have h := h.2 c_13
            refine lv_iload hx hb dX7_worksOut_62 (lv_at hl 0 rfl) ?_
            refine lv_goto (tgt := 78) hx hb dX7_worksOut_64 (by decide) ?_
            obtain ⟨o_16, h⟩ := h
            refine rc_iast hx hb hK hP hD hS 14 0 rfl rfl x2.toNatClampNeg rfl o_16 dX7_worksOut_78 (fun H locs hP hD hS => ?_)
            have hP : va_P E.1 vwCl (rw_24 E mo mn mi ma ml mt mb mr mp mk mq mc mw mz ms mf mu mv mx mh mA mB mC mM mT mHI mFC mLC mCg mTp mNx mFr mTk mVa mEn mKe mCs mAt mHd mWg mNow mImg mAsd mLea mLat mBst mRsk mTap mKys mKat mCod mWts mTes (upd mStk x2.toNatClampNeg (mNow (((109 + (96 * p1)) + x4).toNatClampNeg))) mFct mSor mSiz mCel mHol mHoA mHoB mHoC mMov mTel) H := hP
            have hD : va_D A (rw_24 E mo mn mi ma ml mt mb mr mp mk mq mc mw mz ms mf mu mv mx mh mA mB mC mM mT mHI mFC mLC mCg mTp mNx mFr mTk mVa mEn mKe mCs mAt mHd mWg mNow mImg mAsd mLea mLat mBst mRsk mTap mKys mKat mCod mWts mTes (upd mStk x2.toNatClampNeg (mNow (((109 + (96 * p1)) + x4).toNatClampNeg))) mFct mSor mSiz mCel mHol mHoA mHoB mHoC mMov mTel) := hD
            refine lv_iinc (v := x2 + 1) (lv' := [(2, .int (x2 + 1)), (5, .int (mNow (((109 + (96 * p1)) + x4).toNatClampNeg))), (0, .ref mo), (1, .int p1), (3, .int x3), (4, .int x4)]) hx hb dX7_worksOut_79 hl (k := 3) rfl (by rfl) (by decide) rfl (fun ls hl => ?_)
            refine lv_goto (tgt := 149) hx hb dX7_worksOut_82 (by decide) ?_
            refine lv_iinc (v := x4 + 1) (lv' := [(4, .int (x4 + 1)), (2, .int (x2 + 1)), (5, .int (mNow (((109 + (96 * p1)) + x4).toNatClampNeg))), (0, .ref mo), (1, .int p1), (3, .int x3)]) hx hb dX7_worksOut_149 hl (k := 5) rfl (by rfl) (by decide) rfl (fun ls hl => ?_)
            refine lv_goto (tgt := 21) hx hb dX7_worksOut_152 (by decide) ?_
            exact ih (x2 + 1) x3 (x4 + 1) (upd mStk x2.toNatClampNeg (mNow (((109 + (96 * p1)) + x4).toNatClampNeg))) h _ _ hP hD hS ls (lv_sub hl [3, 4, 1, 5, 0] rfl)
  unfold wp_X7_worksOut at h
  obtain ⟨H, hH⟩ : ∃ H, H = s.heap := ⟨_, rfl⟩
  obtain ⟨locs, hlocs⟩ : ∃ locs : List Loc, locs = [] := ⟨_, rfl⟩
  have hP : va_P E.1 vwCl (rw_24 E mo mn mi ma ml mt mb mr mp mk mq mc mw mz ms mf mu mv mx mh mA mB mC mM mT mHI mFC mLC mCg mTp mNx mFr mTk mVa mEn mKe mCs mAt mHd mWg mNow mImg mAsd mLea mLat mBst mRsk mTap mKys mKat mCod mWts mTes mStk mFct mSor mSiz mCel mHol mHoA mHoB mHoC mMov mTel) H := by rw [hH]; exact hP
  have hS : va_S A s.heap H locs := by rw [hH, hlocs]; exact hS
  suffices hgo : W p l e ({ frames := 1, cells := 0, slots := 0, locals := 22 } : Room) s m args below meth c H locs 0 0 QQ (F0 m 0 ls []) from by rw [hH, hlocs] at hgo; exact hgo
  refine lv_iconst (v := 0) hx hb dX7_worksOut_0 (by decide) ?_
  refine lv_istore_n (lv' := [(2, .int 0), (0, .ref mo), (1, .int p1)]) hx hb dX7_worksOut_1 rfl hl (by decide) rfl (fun ls hl => ?_)
  refine lv_aload_n hx hb dX7_worksOut_2 rfl (lv_at hl 1 rfl) ?_
  refine va_get (D := E.1) (ci := 7) (v := .ref mn) (C := RX7) (T := TX7) (N := 39) hx hb hts n_X7 hown hK hP 0 rfl rfl 0 (by decide) k_9 (fun _ h9 => h9) rfl dX7_worksOut_3 ?_
  refine lv_bipush (v := 81) hx hb dX7_worksOut_6 (by decide) ?_
  refine lv_iconst (v := 2) hx hb dX7_worksOut_8 (by decide) ?_
  refine lv_iload_n hx hb dX7_worksOut_9 rfl (lv_at hl 2 rfl) ?_
  refine lv_imul hx hb dX7_worksOut_10 ?_
  refine lv_iadd hx hb dX7_worksOut_11 ?_
  obtain ⟨o_17, h⟩ := h
  refine rc_iald hx hb hK hP 1 0 rfl rfl ((81 + (2 * p1)).toNatClampNeg) rfl o_17 dX7_worksOut_12 ?_
  refine lv_sipush (v := 1000) hx hb dX7_worksOut_13 (by decide) ?_
  refine lv_irem hx hb dX7_worksOut_16 (by decide) ?_
  refine W.eq (g2 := F0 m 17 ls [.int (rc_rem (mNow ((81 + (2 * p1)).toNatClampNeg)) 1000)]) rfl ?_
  refine lv_istore_n (lv' := [(3, .int (rc_rem (mNow ((81 + (2 * p1)).toNatClampNeg)) 1000)), (2, .int 0), (0, .ref mo), (1, .int p1)]) hx hb dX7_worksOut_17 rfl hl (by decide) rfl (fun ls hl => ?_)
  refine lv_iconst (v := 0) hx hb dX7_worksOut_18 (by decide) ?_
  refine lv_istore (lv' := [(4, .int 0), (3, .int (rc_rem (mNow ((81 + (2 * p1)).toNatClampNeg)) 1000)), (2, .int 0), (0, .ref mo), (1, .int p1)]) hx hb dX7_worksOut_19 hl (by decide) rfl (fun ls hl => ?_)
  obtain ⟨n, h⟩ := h
  exact J21 n 0 (rc_rem (mNow ((81 + (2 * p1)).toNatClampNeg)) 1000) 0 mStk h _ _ hP hD hS ls (lv_sub hl [3, 4, 2, 1, 0] rfl)
def jp_X7_riskOf_52 (p1 : Int32) (mNow : Nat → Int32)  (Q : Int32 → (Nat → Int32) → (Nat → Int32) → Prop) (y0 : Int32) (mStk : Nat → Int32) (mFct : Nat → Int32) : Prop :=
  wp_X7_of p1 0 mNow (fun (r_1 : Int32) => ((r_1 = 1 → Q (y0 + 10) mStk mFct) ∧ ((r_1 = 2 → Q (y0 / 2) mStk mFct) ∧ ((r_1 = 3 → Q (2 * (y0 + 10)) mStk mFct) ∧ ((r_1 = 4 → Q ((y0 / 2) + 5) mStk mFct) ∧ ((r_1 = 5 → Q (y0 + 20) mStk mFct) ∧ (¬ r_1 = 1 ∧ ¬ r_1 = 2 ∧ ¬ r_1 = 3 ∧ ¬ r_1 = 4 ∧ ¬ r_1 = 5 → Q y0 mStk mFct)))))))
def wp_X7_riskOf (p1 : Int32) (mNow : Nat → Int32) (mStk : Nat → Int32) (mFct : Nat → Int32) (Q : Int32 → (Nat → Int32) → (Nat → Int32) → Prop) : Prop :=
  wp_X7_counts 0 mNow (fun (r_3 : Int32) => wp_X7_of p1 1 mNow (fun (r_4 : Int32) => ((0 ≤ r_3 → wp_X7_worksOut r_3 mNow mStk (upd (upd mFct 0 r_4) 1 p1) (fun (r_6 : Int32) (w_7 : Nat → Int32) => wp_X7_within r_6 0 99 (fun (r_8 : Int32) => jp_X7_riskOf_52 p1 mNow Q r_8 w_7 (upd (upd mFct 0 r_4) 1 p1)))) ∧ (¬ (0 ≤ r_3) → wp_X7_of p1 1 mNow (fun (r_9 : Int32) => jp_X7_riskOf_52 p1 mNow Q (r_9 / 10) mStk (upd (upd mFct 0 r_4) 1 p1))))))
set_option maxHeartbeats 4000000 in
set_option maxRecDepth 100000 in
theorem c_X7_riskOf (l : Launch) (E : gE) (mo mn mi ma ml mt mb mr mp mk mq mc mw mz ms mf mu mv mx mh mA mB mC mM mT : Nat) (sz : Nat) (mHI : Int32) (mFC : Int32) (mLC : Int32) (mCg : Int32) (mTp : Int32) (mNx : Int32) (mFr : Int32) (mTk : Int32) (mVa : Int32) (mEn : Int32) (mKe : Int32) (mCs : Int32) (mAt : Int32) (mHd : Int32) (mWg : Int32) (mNow : Nat → Int32) (mImg : Nat → Int32) (mAsd : Nat → Int32) (mLea : Nat → Int32) (mLat : Nat → Int32) (mBst : Nat → Int32) (mRsk : Nat → Int32) (mTap : Nat → Int32) (mKys : Nat → Int32) (mKat : Nat → Int32) (mCod : Nat → Int32) (mWts : Nat → Int32) (mTes : Nat → Int32) (mStk : Nat → Int32) (mFct : Nat → Int32) (mSor : Nat → Int32) (mSiz : Nat → Int32) (mCel : Nat → Int32) (mHol : Nat → Int32) (mHoA : Nat → Int32) (mHoB : Nat → Int32) (mHoC : Nat → Int32) (mMov : Nat → Int32) (mTel : Nat → Int32) (p1 : Int32)  (Q : Int32 → (Nat → Int32) → (Nat → Int32) → Prop) (h : wp_X7_riskOf p1 mNow mStk mFct Q) : Met l yX7_riskOf wsX7_riskOf ({ frames := 2, cells := 0, slots := 0, locals := 47 } : Room) (va_Pc [.ref mo, .int p1] (rc_B E (rw_24 E mo mn mi ma ml mt mb mr mp mk mq mc mw mz ms mf mu mv mx mh mA mB mC mM mT mHI mFC mLC mCg mTp mNx mFr mTk mVa mEn mKe mCs mAt mHd mWg mNow mImg mAsd mLea mLat mBst mRsk mTap mKys mKat mCod mWts mTes mStk mFct mSor mSiz mCel mHol mHoA mHoB mHoC mMov mTel) sz)) (va_Qi (S := (Nat → Int32) × (Nat → Int32)) (fun (r : Int32) (u : (Nat → Int32) × (Nat → Int32)) => Q r u.1 u.2) (fun u t => rc_C E (va_A (rw_24 E mo mn mi ma ml mt mb mr mp mk mq mc mw mz ms mf mu mv mx mh mA mB mC mM mT mHI mFC mLC mCg mTp mNx mFr mTk mVa mEn mKe mCs mAt mHd mWg mNow mImg mAsd mLea mLat mBst mRsk mTap mKys mKat mCod mWts mTes mStk mFct mSor mSiz mCel mHol mHoA mHoB mHoC mMov mTel) sz) (rw_24 E mo mn mi ma ml mt mb mr mp mk mq mc mw mz ms mf mu mv mx mh mA mB mC mM mT mHI mFC mLC mCg mTp mNx mFr mTk mVa mEn mKe mCs mAt mHd mWg mNow mImg mAsd mLea mLat mBst mRsk mTap mKys mKat mCod mWts mTes u.1 u.2 mSor mSiz mCel mHol mHoA mHoB mHoC mMov mTel) t) (va_A (rw_24 E mo mn mi ma ml mt mb mr mp mk mq mc mw mz ms mf mu mv mx mh mA mB mC mM mT mHI mFC mLC mCg mTp mNx mFr mTk mVa mEn mKe mCs mAt mHd mWg mNow mImg mAsd mLea mLat mBst mRsk mTap mKys mKat mCod mWts mTes mStk mFct mSor mSiz mCel mHol mHoA mHoB mHoC mMov mTel) sz)) 0 0 (va_A (rw_24 E mo mn mi ma ml mt mb mr mp mk mq mc mw mz ms mf mu mv mx mh mA mB mC mM mT mHI mFC mLC mCg mTp mNx mFr mTk mVa mEn mKe mCs mAt mHd mWg mNow mImg mAsd mLea mLat mBst mRsk mTap mKys mKat mCod mWts mTes mStk mFct mSor mSiz mCel mHol mHoA mHoB mHoC mMov mTel) sz) := by
  refine rc_enterI (cc := cX7_riskOf) (maxL := 4) (by decide) rfl (Nat.le_of_ble_eq_true rfl) ?_
  intro p e s m args below meth c QQ A hx hb hml hown hts hmn hE hP hD hA hret ls hl
  have hown : s.vm.findClass RX7 = some m.cls := hown
  have hK := hE.1
  have hS : va_S A s.heap s.heap [] := va_S.rf
  have hl : lv_has ls 4 [(0, .ref mo), (1, .int p1)] := hl
  have n_X7 : ∀ w ∈ wsX70, w ∈ wsX7_riskOf := fun _ h => List.mem_cons_of_mem _ (List.mem_append_right _ h)
  have k_54 := hts (.fieldLink RX7 54 "RidgeClapsModel" "facts" "[I") (List.mem_of_getElem? (i := 1) rfl)
  have J52 : ∀ (y0 : Int32) (mStk : Nat → Int32) (mFct : Nat → Int32), jp_X7_riskOf_52 p1 mNow Q y0 mStk mFct → ∀ (H : Heap) (locs : List Loc), va_P E.1 vwCl (rw_24 E mo mn mi ma ml mt mb mr mp mk mq mc mw mz ms mf mu mv mx mh mA mB mC mM mT mHI mFC mLC mCg mTp mNx mFr mTk mVa mEn mKe mCs mAt mHd mWg mNow mImg mAsd mLea mLat mBst mRsk mTap mKys mKat mCod mWts mTes mStk mFct mSor mSiz mCel mHol mHoA mHoB mHoC mMov mTel) H → va_D A (rw_24 E mo mn mi ma ml mt mb mr mp mk mq mc mw mz ms mf mu mv mx mh mA mB mC mM mT mHI mFC mLC mCg mTp mNx mFr mTk mVa mEn mKe mCs mAt mHd mWg mNow mImg mAsd mLea mLat mBst mRsk mTap mKys mKat mCod mWts mTes mStk mFct mSor mSiz mCel mHol mHoA mHoB mHoC mMov mTel) → va_S A s.heap H locs → ∀ ls : Array Slot, lv_has ls 4 [(0, .ref mo), (1, .int p1)] → W p l e ({ frames := 2, cells := 0, slots := 0, locals := 47 } : Room) s m args below meth c H locs 0 0 QQ (F0 m 52 ls [.int y0]) := by
    intro y0 mStk mFct h H locs hP hD hS ls hl
    unfold jp_X7_riskOf_52 at h
    refine lv_istore_n (lv' := [(3, .int y0), (0, .ref mo), (1, .int p1)]) hx hb dX7_riskOf_52 rfl hl (by decide) rfl (fun ls hl => ?_)
    refine lv_aload_n hx hb dX7_riskOf_53 rfl (lv_at hl 1 rfl) ?_
    refine lv_iload_n hx hb dX7_riskOf_54 rfl (lv_at hl 2 rfl) ?_
    refine lv_iconst (v := 0) hx hb dX7_riskOf_55 (by decide) ?_
    have hPc := hP
    have hDc := hD
    have hFc := rc_freeI hD hS hA
    refine va_calli (va_runV (As := [.int p1, .int 0]) (rest := []) ⟨hx, hb, hml, hown, hts⟩ (c_X7_of l E mo mn mi ma ml mt mb mr mp mk mq mc mw mz ms mf mu mv mx mh mA mB mC mM mT H.size mHI mFC mLC mCg mTp mNx mFr mTk mVa mEn mKe mCs mAt mHd mWg mNow mImg mAsd mLea mLat mBst mRsk mTap mKys mKat mCod mWts mTes mStk mFct mSor mSiz mCel mHol mHoA mHoB mHoC mMov mTel p1 0 _ h) (cwV 2 hts gX7_riskOf_X7_of rfl rfl rfl (by decide +kernel) ⟨Nat.le_of_ble_eq_true rfl, Nat.le_of_ble_eq_true rfl⟩) ⟨fun a U g mk q => ⟨q.1, q.2.blind⟩, va_recv hK hPc (ci := 7) (q0 := 0) rfl rfl, fun U hU hW => ⟨rfl, by rw [hU], by rw [hU]; exact hPc, hE.call hS hFc hW hU, hDc.weaken (fun _ _ _ _ => trivial)⟩⟩ rfl rfl hl.1 rfl (lv_room (Nat.le_of_ble_eq_true rfl)) dX7_riskOf_56 ⟨Nat.zero_le _, Nat.zero_le _⟩) hS (fun q _ h => hFc q h) hFc (fun r_1 u t H1 locs ht hvm h hB hz1 hk1 hS => ?_)
    obtain ⟨hP1, hD1⟩ := hB
    rw [ht] at hP1
    have hP := hP1
    have hD := hD1.weaken (fun _ _ _ h => hFc _ h)
    generalize H1 = H at hP hS ⊢
    have hP : va_P E.1 vwCl (rw_24 E mo mn mi ma ml mt mb mr mp mk mq mc mw mz ms mf mu mv mx mh mA mB mC mM mT mHI mFC mLC mCg mTp mNx mFr mTk mVa mEn mKe mCs mAt mHd mWg mNow mImg mAsd mLea mLat mBst mRsk mTap mKys mKat mCod mWts mTes mStk mFct mSor mSiz mCel mHol mHoA mHoB mHoC mMov mTel) H := hP
    have hD : va_D A (rw_24 E mo mn mi ma ml mt mb mr mp mk mq mc mw mz ms mf mu mv mx mh mA mB mC mM mT mHI mFC mLC mCg mTp mNx mFr mTk mVa mEn mKe mCs mAt mHd mWg mNow mImg mAsd mLea mLat mBst mRsk mTap mKys mKat mCod mWts mTes mStk mFct mSor mSiz mCel mHol mHoA mHoB mHoC mMov mTel) := hD
    by_cases c_2_0 : r_1 = 1
    · have h := h.1 c_2_0
      refine lv_tableIn (tgt := 92) hx hb dX7_riskOf_59 (by rw [c_2_0]; decide) (by rw [c_2_0]; decide) (by rw [c_2_0]; rfl) (by decide) ?_
      refine lv_iload_n hx hb dX7_riskOf_92 rfl (lv_at hl 0 rfl) ?_
      refine lv_bipush (v := 10) hx hb dX7_riskOf_93 (by decide) ?_
      refine lv_iadd hx hb dX7_riskOf_95 ?_
      exact hret _ _ _ _ (y0 + 10) (mStk, mFct) rfl h hP hD hS dX7_riskOf_96
    · by_cases c_2_1 : r_1 = 2
      · have h := h.2.1 c_2_1
        refine lv_tableIn (tgt := 97) hx hb dX7_riskOf_59 (by rw [c_2_1]; decide) (by rw [c_2_1]; decide) (by rw [c_2_1]; rfl) (by decide) ?_
        refine lv_iload_n hx hb dX7_riskOf_97 rfl (lv_at hl 0 rfl) ?_
        refine lv_iconst (v := 2) hx hb dX7_riskOf_98 (by decide) ?_
        refine lv_idiv hx hb dX7_riskOf_99 (by decide) ?_
        exact hret _ _ _ _ (y0 / 2) (mStk, mFct) rfl h hP hD hS dX7_riskOf_100
      · by_cases c_2_2 : r_1 = 3
        · have h := h.2.2.1 c_2_2
          refine lv_tableIn (tgt := 101) hx hb dX7_riskOf_59 (by rw [c_2_2]; decide) (by rw [c_2_2]; decide) (by rw [c_2_2]; rfl) (by decide) ?_
          refine lv_iconst (v := 2) hx hb dX7_riskOf_101 (by decide) ?_
          refine lv_iload_n hx hb dX7_riskOf_102 rfl (lv_at hl 0 rfl) ?_
          refine lv_bipush (v := 10) hx hb dX7_riskOf_103 (by decide) ?_
          refine lv_iadd hx hb dX7_riskOf_105 ?_
          refine lv_imul hx hb dX7_riskOf_106 ?_
          exact hret _ _ _ _ (2 * (y0 + 10)) (mStk, mFct) rfl h hP hD hS dX7_riskOf_107
        · by_cases c_2_3 : r_1 = 4
          · have h := h.2.2.2.1 c_2_3
            refine lv_tableIn (tgt := 108) hx hb dX7_riskOf_59 (by rw [c_2_3]; decide) (by rw [c_2_3]; decide) (by rw [c_2_3]; rfl) (by decide) ?_
            refine lv_iload_n hx hb dX7_riskOf_108 rfl (lv_at hl 0 rfl) ?_
            refine lv_iconst (v := 2) hx hb dX7_riskOf_109 (by decide) ?_
            refine lv_idiv hx hb dX7_riskOf_110 (by decide) ?_
            refine lv_iconst (v := 5) hx hb dX7_riskOf_111 (by decide) ?_
            refine lv_iadd hx hb dX7_riskOf_112 ?_
            exact hret _ _ _ _ ((y0 / 2) + 5) (mStk, mFct) rfl h hP hD hS dX7_riskOf_113
          · by_cases c_2_4 : r_1 = 5
            · have h := h.2.2.2.2.1 c_2_4
              refine lv_tableIn (tgt := 114) hx hb dX7_riskOf_59 (by rw [c_2_4]; decide) (by rw [c_2_4]; decide) (by rw [c_2_4]; rfl) (by decide) ?_
              refine lv_iload_n hx hb dX7_riskOf_114 rfl (lv_at hl 0 rfl) ?_
              refine lv_bipush (v := 20) hx hb dX7_riskOf_115 (by decide) ?_
              refine lv_iadd hx hb dX7_riskOf_117 ?_
              exact hret _ _ _ _ (y0 + 20) (mStk, mFct) rfl h hP hD hS dX7_riskOf_118
            · have h := h.2.2.2.2.2 ⟨c_2_0, c_2_1, c_2_2, c_2_3, c_2_4⟩
              refine lv_tableOut (tgt := 119) hx hb dX7_riskOf_59 (rc_swo (1) 5 (fun k hk => by match k, hk with | 0, _ => exact lv_neT c_2_0 (by decide) | 1, _ => exact lv_neT c_2_1 (by decide) | 2, _ => exact lv_neT c_2_2 (by decide) | 3, _ => exact lv_neT c_2_3 (by decide) | 4, _ => exact lv_neT c_2_4 (by decide))) (by decide) ?_
              refine lv_iload_n hx hb dX7_riskOf_119 rfl (lv_at hl 0 rfl) ?_
              exact hret _ _ _ _ y0 (mStk, mFct) rfl h hP hD hS dX7_riskOf_120
  unfold wp_X7_riskOf at h
  obtain ⟨H, hH⟩ : ∃ H, H = s.heap := ⟨_, rfl⟩
  obtain ⟨locs, hlocs⟩ : ∃ locs : List Loc, locs = [] := ⟨_, rfl⟩
  have hP : va_P E.1 vwCl (rw_24 E mo mn mi ma ml mt mb mr mp mk mq mc mw mz ms mf mu mv mx mh mA mB mC mM mT mHI mFC mLC mCg mTp mNx mFr mTk mVa mEn mKe mCs mAt mHd mWg mNow mImg mAsd mLea mLat mBst mRsk mTap mKys mKat mCod mWts mTes mStk mFct mSor mSiz mCel mHol mHoA mHoB mHoC mMov mTel) H := by rw [hH]; exact hP
  have hS : va_S A s.heap H locs := by rw [hH, hlocs]; exact hS
  suffices hgo : W p l e ({ frames := 2, cells := 0, slots := 0, locals := 47 } : Room) s m args below meth c H locs 0 0 QQ (F0 m 0 ls []) from by rw [hH, hlocs] at hgo; exact hgo
  refine lv_aload_n hx hb dX7_riskOf_0 rfl (lv_at hl 0 rfl) ?_
  refine lv_iconst (v := 0) hx hb dX7_riskOf_1 (by decide) ?_
  have hPc := hP
  have hDc := hD
  have hFc := rc_freeI hD hS hA
  refine va_calli (va_runV (As := [.int 0]) (rest := []) ⟨hx, hb, hml, hown, hts⟩ (c_X7_counts l E mo mn mi ma ml mt mb mr mp mk mq mc mw mz ms mf mu mv mx mh mA mB mC mM mT H.size mHI mFC mLC mCg mTp mNx mFr mTk mVa mEn mKe mCs mAt mHd mWg mNow mImg mAsd mLea mLat mBst mRsk mTap mKys mKat mCod mWts mTes mStk mFct mSor mSiz mCel mHol mHoA mHoB mHoC mMov mTel 0 _ h) (cwV 1 hts gX7_riskOf_X7_counts rfl rfl rfl (by decide +kernel) ⟨Nat.le_of_ble_eq_true rfl, Nat.le_of_ble_eq_true rfl⟩) ⟨fun a U g mk q => ⟨q.1, q.2.blind⟩, va_recv hK hPc (ci := 7) (q0 := 0) rfl rfl, fun U hU hW => ⟨rfl, by rw [hU], by rw [hU]; exact hPc, hE.call hS hFc hW hU, hDc.weaken (fun _ _ _ _ => trivial)⟩⟩ rfl rfl hl.1 rfl (lv_room (Nat.le_of_ble_eq_true rfl)) dX7_riskOf_2 ⟨Nat.zero_le _, Nat.zero_le _⟩) hS (fun q _ h => hFc q h) hFc (fun r_3 u t H1 locs ht hvm h hB hz1 hk1 hS => ?_)
  obtain ⟨hP1, hD1⟩ := hB
  rw [ht] at hP1
  have hP := hP1
  have hD := hD1.weaken (fun _ _ _ h => hFc _ h)
  generalize H1 = H at hP hS ⊢
  have hP : va_P E.1 vwCl (rw_24 E mo mn mi ma ml mt mb mr mp mk mq mc mw mz ms mf mu mv mx mh mA mB mC mM mT mHI mFC mLC mCg mTp mNx mFr mTk mVa mEn mKe mCs mAt mHd mWg mNow mImg mAsd mLea mLat mBst mRsk mTap mKys mKat mCod mWts mTes mStk mFct mSor mSiz mCel mHol mHoA mHoB mHoC mMov mTel) H := hP
  have hD : va_D A (rw_24 E mo mn mi ma ml mt mb mr mp mk mq mc mw mz ms mf mu mv mx mh mA mB mC mM mT mHI mFC mLC mCg mTp mNx mFr mTk mVa mEn mKe mCs mAt mHd mWg mNow mImg mAsd mLea mLat mBst mRsk mTap mKys mKat mCod mWts mTes mStk mFct mSor mSiz mCel mHol mHoA mHoB mHoC mMov mTel) := hD
  refine lv_istore_n (lv' := [(2, .int r_3), (0, .ref mo), (1, .int p1)]) hx hb dX7_riskOf_5 rfl hl (by decide) rfl (fun ls hl => ?_)
  refine lv_aload_n hx hb dX7_riskOf_6 rfl (lv_at hl 1 rfl) ?_
  refine va_get (D := E.1) (ci := 7) (v := .ref mf) (C := RX7) (T := TX7) (N := 39) hx hb hts n_X7 hown hK hP 0 rfl rfl 28 (by decide) k_54 (fun _ h9 => h9) rfl dX7_riskOf_7 ?_
  refine lv_iconst (v := 0) hx hb dX7_riskOf_10 (by decide) ?_
  refine lv_aload_n hx hb dX7_riskOf_11 rfl (lv_at hl 1 rfl) ?_
  refine lv_iload_n hx hb dX7_riskOf_12 rfl (lv_at hl 2 rfl) ?_
  refine lv_iconst (v := 1) hx hb dX7_riskOf_13 (by decide) ?_
  have hPc := hP
  have hDc := hD
  have hFc := rc_freeI hD hS hA
  refine va_calli (va_runV (As := [.int p1, .int 1]) (rest := [.int 0, .ref mf]) ⟨hx, hb, hml, hown, hts⟩ (c_X7_of l E mo mn mi ma ml mt mb mr mp mk mq mc mw mz ms mf mu mv mx mh mA mB mC mM mT H.size mHI mFC mLC mCg mTp mNx mFr mTk mVa mEn mKe mCs mAt mHd mWg mNow mImg mAsd mLea mLat mBst mRsk mTap mKys mKat mCod mWts mTes mStk mFct mSor mSiz mCel mHol mHoA mHoB mHoC mMov mTel p1 1 _ h) (cwV 2 hts gX7_riskOf_X7_of rfl rfl rfl (by decide +kernel) ⟨Nat.le_of_ble_eq_true rfl, Nat.le_of_ble_eq_true rfl⟩) ⟨fun a U g mk q => ⟨q.1, q.2.blind⟩, va_recv hK hPc (ci := 7) (q0 := 0) rfl rfl, fun U hU hW => ⟨rfl, by rw [hU], by rw [hU]; exact hPc, hE.call hS hFc hW hU, hDc.weaken (fun _ _ _ _ => trivial)⟩⟩ rfl rfl hl.1 rfl (lv_room (Nat.le_of_ble_eq_true rfl)) dX7_riskOf_14 ⟨Nat.zero_le _, Nat.zero_le _⟩) hS (fun q _ h => hFc q h) hFc (fun r_4 u t H1 locs ht hvm h hB hz1 hk1 hS => ?_)
  obtain ⟨hP1, hD1⟩ := hB
  rw [ht] at hP1
  have hP := hP1
  have hD := hD1.weaken (fun _ _ _ h => hFc _ h)
  generalize H1 = H at hP hS ⊢
  have hP : va_P E.1 vwCl (rw_24 E mo mn mi ma ml mt mb mr mp mk mq mc mw mz ms mf mu mv mx mh mA mB mC mM mT mHI mFC mLC mCg mTp mNx mFr mTk mVa mEn mKe mCs mAt mHd mWg mNow mImg mAsd mLea mLat mBst mRsk mTap mKys mKat mCod mWts mTes mStk mFct mSor mSiz mCel mHol mHoA mHoB mHoC mMov mTel) H := hP
  have hD : va_D A (rw_24 E mo mn mi ma ml mt mb mr mp mk mq mc mw mz ms mf mu mv mx mh mA mB mC mM mT mHI mFC mLC mCg mTp mNx mFr mTk mVa mEn mKe mCs mAt mHd mWg mNow mImg mAsd mLea mLat mBst mRsk mTap mKys mKat mCod mWts mTes mStk mFct mSor mSiz mCel mHol mHoA mHoB mHoC mMov mTel) := hD
  refine rc_iast hx hb hK hP hD hS 15 0 rfl rfl 0 (by decide) (by unfold vp_in; decide) dX7_riskOf_17 (fun H locs hP hD hS => ?_)
  have hP : va_P E.1 vwCl (rw_24 E mo mn mi ma ml mt mb mr mp mk mq mc mw mz ms mf mu mv mx mh mA mB mC mM mT mHI mFC mLC mCg mTp mNx mFr mTk mVa mEn mKe mCs mAt mHd mWg mNow mImg mAsd mLea mLat mBst mRsk mTap mKys mKat mCod mWts mTes mStk (upd mFct 0 r_4) mSor mSiz mCel mHol mHoA mHoB mHoC mMov mTel) H := hP
  have hD : va_D A (rw_24 E mo mn mi ma ml mt mb mr mp mk mq mc mw mz ms mf mu mv mx mh mA mB mC mM mT mHI mFC mLC mCg mTp mNx mFr mTk mVa mEn mKe mCs mAt mHd mWg mNow mImg mAsd mLea mLat mBst mRsk mTap mKys mKat mCod mWts mTes mStk (upd mFct 0 r_4) mSor mSiz mCel mHol mHoA mHoB mHoC mMov mTel) := hD
  refine lv_aload_n hx hb dX7_riskOf_18 rfl (lv_at hl 1 rfl) ?_
  refine va_get (D := E.1) (ci := 7) (v := .ref mf) (C := RX7) (T := TX7) (N := 39) hx hb hts n_X7 hown hK hP 0 rfl rfl 28 (by decide) k_54 (fun _ h9 => h9) rfl dX7_riskOf_19 ?_
  refine lv_iconst (v := 1) hx hb dX7_riskOf_22 (by decide) ?_
  refine lv_iload_n hx hb dX7_riskOf_23 rfl (lv_at hl 2 rfl) ?_
  refine rc_iast hx hb hK hP hD hS 15 0 rfl rfl 1 (by decide) (by unfold vp_in; decide) dX7_riskOf_24 (fun H locs hP hD hS => ?_)
  have hP : va_P E.1 vwCl (rw_24 E mo mn mi ma ml mt mb mr mp mk mq mc mw mz ms mf mu mv mx mh mA mB mC mM mT mHI mFC mLC mCg mTp mNx mFr mTk mVa mEn mKe mCs mAt mHd mWg mNow mImg mAsd mLea mLat mBst mRsk mTap mKys mKat mCod mWts mTes mStk (upd (upd mFct 0 r_4) 1 p1) mSor mSiz mCel mHol mHoA mHoB mHoC mMov mTel) H := hP
  have hD : va_D A (rw_24 E mo mn mi ma ml mt mb mr mp mk mq mc mw mz ms mf mu mv mx mh mA mB mC mM mT mHI mFC mLC mCg mTp mNx mFr mTk mVa mEn mKe mCs mAt mHd mWg mNow mImg mAsd mLea mLat mBst mRsk mTap mKys mKat mCod mWts mTes mStk (upd (upd mFct 0 r_4) 1 p1) mSor mSiz mCel mHol mHoA mHoB mHoC mMov mTel) := hD
  refine lv_iload_n hx hb dX7_riskOf_25 rfl (lv_at hl 0 rfl) ?_
  refine lv_if_ge (tgt := 41) hx hb dX7_riskOf_26 (by decide) (fun c_5 => ?_) (fun c_5 => ?_)
  · have h := h.1 c_5
    refine lv_aload_n hx hb dX7_riskOf_41 rfl (lv_at hl 1 rfl) ?_
    refine lv_iload_n hx hb dX7_riskOf_42 rfl (lv_at hl 0 rfl) ?_
    have hPc := hP
    have hDc := hD
    have hFc := rc_freeI hD hS hA
    refine va_calli (va_runV (As := [.int r_3]) (rest := []) ⟨hx, hb, hml, hown, hts⟩ (c_X7_worksOut l E mo mn mi ma ml mt mb mr mp mk mq mc mw mz ms mf mu mv mx mh mA mB mC mM mT H.size mHI mFC mLC mCg mTp mNx mFr mTk mVa mEn mKe mCs mAt mHd mWg mNow mImg mAsd mLea mLat mBst mRsk mTap mKys mKat mCod mWts mTes mStk (upd (upd mFct 0 r_4) 1 p1) mSor mSiz mCel mHol mHoA mHoB mHoC mMov mTel r_3 _ h) (cwV 1 hts gX7_riskOf_X7_worksOut rfl rfl rfl (by decide +kernel) ⟨Nat.le_of_ble_eq_true rfl, Nat.le_of_ble_eq_true rfl⟩) ⟨fun a U g mk q => ⟨q.1, q.2.blind⟩, va_recv hK hPc (ci := 7) (q0 := 0) rfl rfl, fun U hU hW => ⟨rfl, by rw [hU], by rw [hU]; exact hPc, hE.call hS hFc hW hU, hDc.weaken (fun _ _ _ _ => trivial)⟩⟩ rfl rfl hl.1 rfl (lv_room (Nat.le_of_ble_eq_true rfl)) dX7_riskOf_43 ⟨Nat.zero_le _, Nat.zero_le _⟩) hS (fun q _ h => hFc q h) hFc (fun r_6 u t H1 locs ht hvm h hB hz1 hk1 hS => ?_)
    obtain ⟨w_7, rfl⟩ : ∃ z, z = u := ⟨_, rfl⟩
    obtain ⟨hP1, hD1⟩ := hB
    rw [ht] at hP1
    have hP := hP1
    have hD := hD1.weaken (fun _ _ _ h => hFc _ h)
    generalize H1 = H at hP hS ⊢
    have hP : va_P E.1 vwCl (rw_24 E mo mn mi ma ml mt mb mr mp mk mq mc mw mz ms mf mu mv mx mh mA mB mC mM mT mHI mFC mLC mCg mTp mNx mFr mTk mVa mEn mKe mCs mAt mHd mWg mNow mImg mAsd mLea mLat mBst mRsk mTap mKys mKat mCod mWts mTes w_7 (upd (upd mFct 0 r_4) 1 p1) mSor mSiz mCel mHol mHoA mHoB mHoC mMov mTel) H := hP
    have hD : va_D A (rw_24 E mo mn mi ma ml mt mb mr mp mk mq mc mw mz ms mf mu mv mx mh mA mB mC mM mT mHI mFC mLC mCg mTp mNx mFr mTk mVa mEn mKe mCs mAt mHd mWg mNow mImg mAsd mLea mLat mBst mRsk mTap mKys mKat mCod mWts mTes w_7 (upd (upd mFct 0 r_4) 1 p1) mSor mSiz mCel mHol mHoA mHoB mHoC mMov mTel) := hD
    refine lv_iconst (v := 0) hx hb dX7_riskOf_46 (by decide) ?_
    refine lv_bipush (v := 99) hx hb dX7_riskOf_47 (by decide) ?_
    have hPc := hP.sub (ws' := []) [] rfl
    have hDc := hD.sub (ws' := []) [] (by decide) rfl
    have hFc := va_free (wc := []) hD hS hA [] rfl
    refine va_calli (va_runS (As := [.int r_6, .int 0, .int 99]) (rest := []) ⟨hx, hb, hml, hown, hts⟩ (c_X7_within l E H.size r_6 0 99 _ h) (va_cwS 3 hts gX7_riskOf_X7_within rfl rfl rfl (by decide +kernel) ⟨Nat.le_of_ble_eq_true rfl, Nat.le_of_ble_eq_true rfl⟩) ⟨fun a U g mk q => ⟨q.1, q.2.blind⟩, fun U hU hW => ⟨rfl, by rw [hU], by rw [hU]; exact hPc, hE.call hS hFc hW hU, hDc.weaken (fun _ _ _ _ => trivial)⟩⟩ rfl rfl hl.1 rfl (lv_room (Nat.le_of_ble_eq_true rfl)) dX7_riskOf_49 ⟨Nat.zero_le _, Nat.zero_le _⟩) hS (fun q _ h => hFc q h) hFc (fun r_8 u t H1 locs ht hvm h hB hz1 hk1 hS => ?_)
    obtain ⟨hP1, hD1⟩ := hB
    rw [ht] at hP1
    obtain ⟨hP, hD⟩ := rc_foc hP hD [] [none, none, none, none, none, none, none, none, none, none, none, none, none, none, none, none, none, none, none, none, none, none, none, none, none] (by decide) rfl hk1 hP1 rfl
    generalize H1 = H at hP hS ⊢
    have hP : va_P E.1 vwCl (rw_24 E mo mn mi ma ml mt mb mr mp mk mq mc mw mz ms mf mu mv mx mh mA mB mC mM mT mHI mFC mLC mCg mTp mNx mFr mTk mVa mEn mKe mCs mAt mHd mWg mNow mImg mAsd mLea mLat mBst mRsk mTap mKys mKat mCod mWts mTes w_7 (upd (upd mFct 0 r_4) 1 p1) mSor mSiz mCel mHol mHoA mHoB mHoC mMov mTel) H := hP
    have hD : va_D A (rw_24 E mo mn mi ma ml mt mb mr mp mk mq mc mw mz ms mf mu mv mx mh mA mB mC mM mT mHI mFC mLC mCg mTp mNx mFr mTk mVa mEn mKe mCs mAt mHd mWg mNow mImg mAsd mLea mLat mBst mRsk mTap mKys mKat mCod mWts mTes w_7 (upd (upd mFct 0 r_4) 1 p1) mSor mSiz mCel mHol mHoA mHoB mHoC mMov mTel) := hD
    exact J52 r_8 w_7 (upd (upd mFct 0 r_4) 1 p1) h _ _ hP hD hS ls (lv_sub hl [1, 2] rfl)
  · have h := h.2 c_5
    refine lv_aload_n hx hb dX7_riskOf_29 rfl (lv_at hl 1 rfl) ?_
    refine lv_iload_n hx hb dX7_riskOf_30 rfl (lv_at hl 2 rfl) ?_
    refine lv_iconst (v := 1) hx hb dX7_riskOf_31 (by decide) ?_
    have hPc := hP
    have hDc := hD
    have hFc := rc_freeI hD hS hA
    refine va_calli (va_runV (As := [.int p1, .int 1]) (rest := []) ⟨hx, hb, hml, hown, hts⟩ (c_X7_of l E mo mn mi ma ml mt mb mr mp mk mq mc mw mz ms mf mu mv mx mh mA mB mC mM mT H.size mHI mFC mLC mCg mTp mNx mFr mTk mVa mEn mKe mCs mAt mHd mWg mNow mImg mAsd mLea mLat mBst mRsk mTap mKys mKat mCod mWts mTes mStk (upd (upd mFct 0 r_4) 1 p1) mSor mSiz mCel mHol mHoA mHoB mHoC mMov mTel p1 1 _ h) (cwV 2 hts gX7_riskOf_X7_of rfl rfl rfl (by decide +kernel) ⟨Nat.le_of_ble_eq_true rfl, Nat.le_of_ble_eq_true rfl⟩) ⟨fun a U g mk q => ⟨q.1, q.2.blind⟩, va_recv hK hPc (ci := 7) (q0 := 0) rfl rfl, fun U hU hW => ⟨rfl, by rw [hU], by rw [hU]; exact hPc, hE.call hS hFc hW hU, hDc.weaken (fun _ _ _ _ => trivial)⟩⟩ rfl rfl hl.1 rfl (lv_room (Nat.le_of_ble_eq_true rfl)) dX7_riskOf_32 ⟨Nat.zero_le _, Nat.zero_le _⟩) hS (fun q _ h => hFc q h) hFc (fun r_9 u t H1 locs ht hvm h hB hz1 hk1 hS => ?_)
    obtain ⟨hP1, hD1⟩ := hB
    rw [ht] at hP1
    have hP := hP1
    have hD := hD1.weaken (fun _ _ _ h => hFc _ h)
    generalize H1 = H at hP hS ⊢
    have hP : va_P E.1 vwCl (rw_24 E mo mn mi ma ml mt mb mr mp mk mq mc mw mz ms mf mu mv mx mh mA mB mC mM mT mHI mFC mLC mCg mTp mNx mFr mTk mVa mEn mKe mCs mAt mHd mWg mNow mImg mAsd mLea mLat mBst mRsk mTap mKys mKat mCod mWts mTes mStk (upd (upd mFct 0 r_4) 1 p1) mSor mSiz mCel mHol mHoA mHoB mHoC mMov mTel) H := hP
    have hD : va_D A (rw_24 E mo mn mi ma ml mt mb mr mp mk mq mc mw mz ms mf mu mv mx mh mA mB mC mM mT mHI mFC mLC mCg mTp mNx mFr mTk mVa mEn mKe mCs mAt mHd mWg mNow mImg mAsd mLea mLat mBst mRsk mTap mKys mKat mCod mWts mTes mStk (upd (upd mFct 0 r_4) 1 p1) mSor mSiz mCel mHol mHoA mHoB mHoC mMov mTel) := hD
    refine lv_bipush (v := 10) hx hb dX7_riskOf_35 (by decide) ?_
    refine lv_idiv hx hb dX7_riskOf_37 (by decide) ?_
    refine lv_goto (tgt := 52) hx hb dX7_riskOf_38 (by decide) ?_
    exact J52 (r_9 / 10) mStk (upd (upd mFct 0 r_4) 1 p1) h _ _ hP hD hS ls (lv_sub hl [1, 2] rfl)
def wp_X7_worthOf (p1 : Int32) (mNow : Nat → Int32) (Q : Int32 → Prop) : Prop :=
  wp_X7_of p1 1 mNow (fun (r_1 : Int32) => wp_X7_of p1 0 mNow (fun (r_2 : Int32) => ((r_2 = 1 → Q (r_1 + 7)) ∧ ((r_2 = 2 → Q (100 - r_1)) ∧ ((r_2 = 3 → Q (2 * (r_1 + 7))) ∧ ((r_2 = 4 → Q (80 - r_1)) ∧ ((r_2 = 5 → Q (r_1 / 2)) ∧ (¬ r_2 = 1 ∧ ¬ r_2 = 2 ∧ ¬ r_2 = 3 ∧ ¬ r_2 = 4 ∧ ¬ r_2 = 5 → Q r_1))))))))
set_option maxHeartbeats 4000000 in
set_option maxRecDepth 100000 in
theorem c_X7_worthOf (l : Launch) (E : gE) (mo mn mi ma ml mt mb mr mp mk mq mc mw mz ms mf mu mv mx mh mA mB mC mM mT : Nat) (sz : Nat) (mHI : Int32) (mFC : Int32) (mLC : Int32) (mCg : Int32) (mTp : Int32) (mNx : Int32) (mFr : Int32) (mTk : Int32) (mVa : Int32) (mEn : Int32) (mKe : Int32) (mCs : Int32) (mAt : Int32) (mHd : Int32) (mWg : Int32) (mNow : Nat → Int32) (mImg : Nat → Int32) (mAsd : Nat → Int32) (mLea : Nat → Int32) (mLat : Nat → Int32) (mBst : Nat → Int32) (mRsk : Nat → Int32) (mTap : Nat → Int32) (mKys : Nat → Int32) (mKat : Nat → Int32) (mCod : Nat → Int32) (mWts : Nat → Int32) (mTes : Nat → Int32) (mStk : Nat → Int32) (mFct : Nat → Int32) (mSor : Nat → Int32) (mSiz : Nat → Int32) (mCel : Nat → Int32) (mHol : Nat → Int32) (mHoA : Nat → Int32) (mHoB : Nat → Int32) (mHoC : Nat → Int32) (mMov : Nat → Int32) (mTel : Nat → Int32) (p1 : Int32)  (Q : Int32 → Prop) (h : wp_X7_worthOf p1 mNow Q) : Met l yX7_worthOf wsX7_worthOf ({ frames := 1, cells := 0, slots := 0, locals := 22 } : Room) (va_Pc [.ref mo, .int p1] (rc_B E (rw_24 E mo mn mi ma ml mt mb mr mp mk mq mc mw mz ms mf mu mv mx mh mA mB mC mM mT mHI mFC mLC mCg mTp mNx mFr mTk mVa mEn mKe mCs mAt mHd mWg mNow mImg mAsd mLea mLat mBst mRsk mTap mKys mKat mCod mWts mTes mStk mFct mSor mSiz mCel mHol mHoA mHoB mHoC mMov mTel) sz)) (va_Qi (S := Unit) (fun (r : Int32) (u : Unit) => Q r) (fun u t => rc_C E (va_A (rw_24 E mo mn mi ma ml mt mb mr mp mk mq mc mw mz ms mf mu mv mx mh mA mB mC mM mT mHI mFC mLC mCg mTp mNx mFr mTk mVa mEn mKe mCs mAt mHd mWg mNow mImg mAsd mLea mLat mBst mRsk mTap mKys mKat mCod mWts mTes mStk mFct mSor mSiz mCel mHol mHoA mHoB mHoC mMov mTel) sz) (rw_24 E mo mn mi ma ml mt mb mr mp mk mq mc mw mz ms mf mu mv mx mh mA mB mC mM mT mHI mFC mLC mCg mTp mNx mFr mTk mVa mEn mKe mCs mAt mHd mWg mNow mImg mAsd mLea mLat mBst mRsk mTap mKys mKat mCod mWts mTes mStk mFct mSor mSiz mCel mHol mHoA mHoB mHoC mMov mTel) t) (va_A (rw_24 E mo mn mi ma ml mt mb mr mp mk mq mc mw mz ms mf mu mv mx mh mA mB mC mM mT mHI mFC mLC mCg mTp mNx mFr mTk mVa mEn mKe mCs mAt mHd mWg mNow mImg mAsd mLea mLat mBst mRsk mTap mKys mKat mCod mWts mTes mStk mFct mSor mSiz mCel mHol mHoA mHoB mHoC mMov mTel) sz)) 0 0 (va_A (rw_24 E mo mn mi ma ml mt mb mr mp mk mq mc mw mz ms mf mu mv mx mh mA mB mC mM mT mHI mFC mLC mCg mTp mNx mFr mTk mVa mEn mKe mCs mAt mHd mWg mNow mImg mAsd mLea mLat mBst mRsk mTap mKys mKat mCod mWts mTes mStk mFct mSor mSiz mCel mHol mHoA mHoB mHoC mMov mTel) sz) := by
  refine rc_enterI (cc := cX7_worthOf) (maxL := 3) (by decide) rfl (Nat.le_of_ble_eq_true rfl) ?_
  intro p e s m args below meth c QQ A hx hb hml hown hts hmn hE hP hD hA hret ls hl
  have hown : s.vm.findClass RX7 = some m.cls := hown
  have hK := hE.1
  have hS : va_S A s.heap s.heap [] := va_S.rf
  have hl : lv_has ls 3 [(0, .ref mo), (1, .int p1)] := hl
  unfold wp_X7_worthOf at h
  obtain ⟨H, hH⟩ : ∃ H, H = s.heap := ⟨_, rfl⟩
  obtain ⟨locs, hlocs⟩ : ∃ locs : List Loc, locs = [] := ⟨_, rfl⟩
  have hP : va_P E.1 vwCl (rw_24 E mo mn mi ma ml mt mb mr mp mk mq mc mw mz ms mf mu mv mx mh mA mB mC mM mT mHI mFC mLC mCg mTp mNx mFr mTk mVa mEn mKe mCs mAt mHd mWg mNow mImg mAsd mLea mLat mBst mRsk mTap mKys mKat mCod mWts mTes mStk mFct mSor mSiz mCel mHol mHoA mHoB mHoC mMov mTel) H := by rw [hH]; exact hP
  have hS : va_S A s.heap H locs := by rw [hH, hlocs]; exact hS
  suffices hgo : W p l e ({ frames := 1, cells := 0, slots := 0, locals := 22 } : Room) s m args below meth c H locs 0 0 QQ (F0 m 0 ls []) from by rw [hH, hlocs] at hgo; exact hgo
  refine lv_aload_n hx hb dX7_worthOf_0 rfl (lv_at hl 0 rfl) ?_
  refine lv_iload_n hx hb dX7_worthOf_1 rfl (lv_at hl 1 rfl) ?_
  refine lv_iconst (v := 1) hx hb dX7_worthOf_2 (by decide) ?_
  have hPc := hP
  have hDc := hD
  have hFc := rc_freeI hD hS hA
  refine va_calli (va_runV (As := [.int p1, .int 1]) (rest := []) ⟨hx, hb, hml, hown, hts⟩ (c_X7_of l E mo mn mi ma ml mt mb mr mp mk mq mc mw mz ms mf mu mv mx mh mA mB mC mM mT H.size mHI mFC mLC mCg mTp mNx mFr mTk mVa mEn mKe mCs mAt mHd mWg mNow mImg mAsd mLea mLat mBst mRsk mTap mKys mKat mCod mWts mTes mStk mFct mSor mSiz mCel mHol mHoA mHoB mHoC mMov mTel p1 1 _ h) (cwV 2 hts gX7_worthOf_X7_of rfl rfl rfl (by decide +kernel) ⟨Nat.le_of_ble_eq_true rfl, Nat.le_of_ble_eq_true rfl⟩) ⟨fun a U g mk q => ⟨q.1, q.2.blind⟩, va_recv hK hPc (ci := 7) (q0 := 0) rfl rfl, fun U hU hW => ⟨rfl, by rw [hU], by rw [hU]; exact hPc, hE.call hS hFc hW hU, hDc.weaken (fun _ _ _ _ => trivial)⟩⟩ rfl rfl hl.1 rfl (lv_room (Nat.le_of_ble_eq_true rfl)) dX7_worthOf_3 ⟨Nat.zero_le _, Nat.zero_le _⟩) hS (fun q _ h => hFc q h) hFc (fun r_1 u t H1 locs ht hvm h hB hz1 hk1 hS => ?_)
  obtain ⟨hP1, hD1⟩ := hB
  rw [ht] at hP1
  have hP := hP1
  have hD := hD1.weaken (fun _ _ _ h => hFc _ h)
  generalize H1 = H at hP hS ⊢
  have hP : va_P E.1 vwCl (rw_24 E mo mn mi ma ml mt mb mr mp mk mq mc mw mz ms mf mu mv mx mh mA mB mC mM mT mHI mFC mLC mCg mTp mNx mFr mTk mVa mEn mKe mCs mAt mHd mWg mNow mImg mAsd mLea mLat mBst mRsk mTap mKys mKat mCod mWts mTes mStk mFct mSor mSiz mCel mHol mHoA mHoB mHoC mMov mTel) H := hP
  have hD : va_D A (rw_24 E mo mn mi ma ml mt mb mr mp mk mq mc mw mz ms mf mu mv mx mh mA mB mC mM mT mHI mFC mLC mCg mTp mNx mFr mTk mVa mEn mKe mCs mAt mHd mWg mNow mImg mAsd mLea mLat mBst mRsk mTap mKys mKat mCod mWts mTes mStk mFct mSor mSiz mCel mHol mHoA mHoB mHoC mMov mTel) := hD
  refine lv_istore_n (lv' := [(2, .int r_1), (0, .ref mo), (1, .int p1)]) hx hb dX7_worthOf_6 rfl hl (by decide) rfl (fun ls hl => ?_)
  refine lv_aload_n hx hb dX7_worthOf_7 rfl (lv_at hl 1 rfl) ?_
  refine lv_iload_n hx hb dX7_worthOf_8 rfl (lv_at hl 2 rfl) ?_
  refine lv_iconst (v := 0) hx hb dX7_worthOf_9 (by decide) ?_
  have hPc := hP
  have hDc := hD
  have hFc := rc_freeI hD hS hA
  refine va_calli (va_runV (As := [.int p1, .int 0]) (rest := []) ⟨hx, hb, hml, hown, hts⟩ (c_X7_of l E mo mn mi ma ml mt mb mr mp mk mq mc mw mz ms mf mu mv mx mh mA mB mC mM mT H.size mHI mFC mLC mCg mTp mNx mFr mTk mVa mEn mKe mCs mAt mHd mWg mNow mImg mAsd mLea mLat mBst mRsk mTap mKys mKat mCod mWts mTes mStk mFct mSor mSiz mCel mHol mHoA mHoB mHoC mMov mTel p1 0 _ h) (cwV 2 hts gX7_worthOf_X7_of rfl rfl rfl (by decide +kernel) ⟨Nat.le_of_ble_eq_true rfl, Nat.le_of_ble_eq_true rfl⟩) ⟨fun a U g mk q => ⟨q.1, q.2.blind⟩, va_recv hK hPc (ci := 7) (q0 := 0) rfl rfl, fun U hU hW => ⟨rfl, by rw [hU], by rw [hU]; exact hPc, hE.call hS hFc hW hU, hDc.weaken (fun _ _ _ _ => trivial)⟩⟩ rfl rfl hl.1 rfl (lv_room (Nat.le_of_ble_eq_true rfl)) dX7_worthOf_10 ⟨Nat.zero_le _, Nat.zero_le _⟩) hS (fun q _ h => hFc q h) hFc (fun r_2 u t H1 locs ht hvm h hB hz1 hk1 hS => ?_)
  obtain ⟨hP1, hD1⟩ := hB
  rw [ht] at hP1
  have hP := hP1
  have hD := hD1.weaken (fun _ _ _ h => hFc _ h)
  generalize H1 = H at hP hS ⊢
  have hP : va_P E.1 vwCl (rw_24 E mo mn mi ma ml mt mb mr mp mk mq mc mw mz ms mf mu mv mx mh mA mB mC mM mT mHI mFC mLC mCg mTp mNx mFr mTk mVa mEn mKe mCs mAt mHd mWg mNow mImg mAsd mLea mLat mBst mRsk mTap mKys mKat mCod mWts mTes mStk mFct mSor mSiz mCel mHol mHoA mHoB mHoC mMov mTel) H := hP
  have hD : va_D A (rw_24 E mo mn mi ma ml mt mb mr mp mk mq mc mw mz ms mf mu mv mx mh mA mB mC mM mT mHI mFC mLC mCg mTp mNx mFr mTk mVa mEn mKe mCs mAt mHd mWg mNow mImg mAsd mLea mLat mBst mRsk mTap mKys mKat mCod mWts mTes mStk mFct mSor mSiz mCel mHol mHoA mHoB mHoC mMov mTel) := hD
  by_cases c_3_0 : r_2 = 1
  · have h := h.1 c_3_0
    refine lv_tableIn (tgt := 48) hx hb dX7_worthOf_13 (by rw [c_3_0]; decide) (by rw [c_3_0]; decide) (by rw [c_3_0]; rfl) (by decide) ?_
    refine lv_iload_n hx hb dX7_worthOf_48 rfl (lv_at hl 0 rfl) ?_
    refine lv_bipush (v := 7) hx hb dX7_worthOf_49 (by decide) ?_
    refine lv_iadd hx hb dX7_worthOf_51 ?_
    exact hret _ _ _ _ (r_1 + 7) () rfl h hP hD hS dX7_worthOf_52
  · by_cases c_3_1 : r_2 = 2
    · have h := h.2.1 c_3_1
      refine lv_tableIn (tgt := 53) hx hb dX7_worthOf_13 (by rw [c_3_1]; decide) (by rw [c_3_1]; decide) (by rw [c_3_1]; rfl) (by decide) ?_
      refine lv_bipush (v := 100) hx hb dX7_worthOf_53 (by decide) ?_
      refine lv_iload_n hx hb dX7_worthOf_55 rfl (lv_at hl 0 rfl) ?_
      refine lv_isub hx hb dX7_worthOf_56 ?_
      exact hret _ _ _ _ (100 - r_1) () rfl h hP hD hS dX7_worthOf_57
    · by_cases c_3_2 : r_2 = 3
      · have h := h.2.2.1 c_3_2
        refine lv_tableIn (tgt := 58) hx hb dX7_worthOf_13 (by rw [c_3_2]; decide) (by rw [c_3_2]; decide) (by rw [c_3_2]; rfl) (by decide) ?_
        refine lv_iconst (v := 2) hx hb dX7_worthOf_58 (by decide) ?_
        refine lv_iload_n hx hb dX7_worthOf_59 rfl (lv_at hl 0 rfl) ?_
        refine lv_bipush (v := 7) hx hb dX7_worthOf_60 (by decide) ?_
        refine lv_iadd hx hb dX7_worthOf_62 ?_
        refine lv_imul hx hb dX7_worthOf_63 ?_
        exact hret _ _ _ _ (2 * (r_1 + 7)) () rfl h hP hD hS dX7_worthOf_64
      · by_cases c_3_3 : r_2 = 4
        · have h := h.2.2.2.1 c_3_3
          refine lv_tableIn (tgt := 65) hx hb dX7_worthOf_13 (by rw [c_3_3]; decide) (by rw [c_3_3]; decide) (by rw [c_3_3]; rfl) (by decide) ?_
          refine lv_bipush (v := 80) hx hb dX7_worthOf_65 (by decide) ?_
          refine lv_iload_n hx hb dX7_worthOf_67 rfl (lv_at hl 0 rfl) ?_
          refine lv_isub hx hb dX7_worthOf_68 ?_
          exact hret _ _ _ _ (80 - r_1) () rfl h hP hD hS dX7_worthOf_69
        · by_cases c_3_4 : r_2 = 5
          · have h := h.2.2.2.2.1 c_3_4
            refine lv_tableIn (tgt := 70) hx hb dX7_worthOf_13 (by rw [c_3_4]; decide) (by rw [c_3_4]; decide) (by rw [c_3_4]; rfl) (by decide) ?_
            refine lv_iload_n hx hb dX7_worthOf_70 rfl (lv_at hl 0 rfl) ?_
            refine lv_iconst (v := 2) hx hb dX7_worthOf_71 (by decide) ?_
            refine lv_idiv hx hb dX7_worthOf_72 (by decide) ?_
            exact hret _ _ _ _ (r_1 / 2) () rfl h hP hD hS dX7_worthOf_73
          · have h := h.2.2.2.2.2 ⟨c_3_0, c_3_1, c_3_2, c_3_3, c_3_4⟩
            refine lv_tableOut (tgt := 74) hx hb dX7_worthOf_13 (rc_swo (1) 5 (fun k hk => by match k, hk with | 0, _ => exact lv_neT c_3_0 (by decide) | 1, _ => exact lv_neT c_3_1 (by decide) | 2, _ => exact lv_neT c_3_2 (by decide) | 3, _ => exact lv_neT c_3_3 (by decide) | 4, _ => exact lv_neT c_3_4 (by decide))) (by decide) ?_
            refine lv_iload_n hx hb dX7_worthOf_74 rfl (lv_at hl 0 rfl) ?_
            exact hret _ _ _ _ r_1 () rfl h hP hD hS dX7_worthOf_75
def wp_X7_told (p1 : Int32) (p2 : Int32) (mNow : Nat → Int32) (mStk : Nat → Int32) (mFct : Nat → Int32) (Q : Int32 → (Nat → Int32) → (Nat → Int32) → Prop) : Prop :=
  wp_X7_isPlace p1 mNow (fun (r_1 : Int32) => ((r_1 = 0 → Q (-1000000001) mStk mFct) ∧ (¬ (r_1 = 0) → wp_X7_in p2 0 4 (fun (r_3 : Int32) => ((¬ r_3 = 0 → ((3 ≤ p2 → ((¬ p2 = 3 → wp_X7_worthOf p1 mNow (fun (r_7 : Int32) => Q r_7 mStk mFct)) ∧ (p2 = 3 → wp_X7_riskOf p1 mNow mStk mFct (fun (r_8 : Int32) (w_9 : Nat → Int32) (w_10 : Nat → Int32) => Q r_8 w_9 w_10)))) ∧ (¬ (3 ≤ p2) → wp_X7_of p1 p2 mNow (fun (r_11 : Int32) => Q r_11 mStk mFct)))) ∧ (r_3 = 0 → Q (-1000000001) mStk mFct))))))
set_option maxHeartbeats 4000000 in
set_option maxRecDepth 100000 in
theorem c_X7_told (l : Launch) (E : gE) (mo mn mi ma ml mt mb mr mp mk mq mc mw mz ms mf mu mv mx mh mA mB mC mM mT : Nat) (sz : Nat) (mHI : Int32) (mFC : Int32) (mLC : Int32) (mCg : Int32) (mTp : Int32) (mNx : Int32) (mFr : Int32) (mTk : Int32) (mVa : Int32) (mEn : Int32) (mKe : Int32) (mCs : Int32) (mAt : Int32) (mHd : Int32) (mWg : Int32) (mNow : Nat → Int32) (mImg : Nat → Int32) (mAsd : Nat → Int32) (mLea : Nat → Int32) (mLat : Nat → Int32) (mBst : Nat → Int32) (mRsk : Nat → Int32) (mTap : Nat → Int32) (mKys : Nat → Int32) (mKat : Nat → Int32) (mCod : Nat → Int32) (mWts : Nat → Int32) (mTes : Nat → Int32) (mStk : Nat → Int32) (mFct : Nat → Int32) (mSor : Nat → Int32) (mSiz : Nat → Int32) (mCel : Nat → Int32) (mHol : Nat → Int32) (mHoA : Nat → Int32) (mHoB : Nat → Int32) (mHoC : Nat → Int32) (mMov : Nat → Int32) (mTel : Nat → Int32) (p1 p2 : Int32)  (Q : Int32 → (Nat → Int32) → (Nat → Int32) → Prop) (h : wp_X7_told p1 p2 mNow mStk mFct Q) : Met l yX7_told wsX7_told ({ frames := 3, cells := 0, slots := 0, locals := 70 } : Room) (va_Pc [.ref mo, .int p1, .int p2] (rc_B E (rw_24 E mo mn mi ma ml mt mb mr mp mk mq mc mw mz ms mf mu mv mx mh mA mB mC mM mT mHI mFC mLC mCg mTp mNx mFr mTk mVa mEn mKe mCs mAt mHd mWg mNow mImg mAsd mLea mLat mBst mRsk mTap mKys mKat mCod mWts mTes mStk mFct mSor mSiz mCel mHol mHoA mHoB mHoC mMov mTel) sz)) (va_Qi (S := (Nat → Int32) × (Nat → Int32)) (fun (r : Int32) (u : (Nat → Int32) × (Nat → Int32)) => Q r u.1 u.2) (fun u t => rc_C E (va_A (rw_24 E mo mn mi ma ml mt mb mr mp mk mq mc mw mz ms mf mu mv mx mh mA mB mC mM mT mHI mFC mLC mCg mTp mNx mFr mTk mVa mEn mKe mCs mAt mHd mWg mNow mImg mAsd mLea mLat mBst mRsk mTap mKys mKat mCod mWts mTes mStk mFct mSor mSiz mCel mHol mHoA mHoB mHoC mMov mTel) sz) (rw_24 E mo mn mi ma ml mt mb mr mp mk mq mc mw mz ms mf mu mv mx mh mA mB mC mM mT mHI mFC mLC mCg mTp mNx mFr mTk mVa mEn mKe mCs mAt mHd mWg mNow mImg mAsd mLea mLat mBst mRsk mTap mKys mKat mCod mWts mTes u.1 u.2 mSor mSiz mCel mHol mHoA mHoB mHoC mMov mTel) t) (va_A (rw_24 E mo mn mi ma ml mt mb mr mp mk mq mc mw mz ms mf mu mv mx mh mA mB mC mM mT mHI mFC mLC mCg mTp mNx mFr mTk mVa mEn mKe mCs mAt mHd mWg mNow mImg mAsd mLea mLat mBst mRsk mTap mKys mKat mCod mWts mTes mStk mFct mSor mSiz mCel mHol mHoA mHoB mHoC mMov mTel) sz)) 0 0 (va_A (rw_24 E mo mn mi ma ml mt mb mr mp mk mq mc mw mz ms mf mu mv mx mh mA mB mC mM mT mHI mFC mLC mCg mTp mNx mFr mTk mVa mEn mKe mCs mAt mHd mWg mNow mImg mAsd mLea mLat mBst mRsk mTap mKys mKat mCod mWts mTes mStk mFct mSor mSiz mCel mHol mHoA mHoB mHoC mMov mTel) sz) := by
  refine rc_enterI (cc := cX7_told) (maxL := 3) (by decide) rfl (Nat.le_of_ble_eq_true rfl) ?_
  intro p e s m args below meth c QQ A hx hb hml hown hts hmn hE hP hD hA hret ls hl
  have hown : s.vm.findClass RX7 = some m.cls := hown
  have hK := hE.1
  have hS : va_S A s.heap s.heap [] := va_S.rf
  have hl : lv_has ls 3 [(0, .ref mo), (1, .int p1), (2, .int p2)] := hl
  have k_89 := hts (.constant RX7 89 (-1000000001)) (List.mem_of_getElem? (i := 1) rfl)
  unfold wp_X7_told at h
  obtain ⟨H, hH⟩ : ∃ H, H = s.heap := ⟨_, rfl⟩
  obtain ⟨locs, hlocs⟩ : ∃ locs : List Loc, locs = [] := ⟨_, rfl⟩
  have hP : va_P E.1 vwCl (rw_24 E mo mn mi ma ml mt mb mr mp mk mq mc mw mz ms mf mu mv mx mh mA mB mC mM mT mHI mFC mLC mCg mTp mNx mFr mTk mVa mEn mKe mCs mAt mHd mWg mNow mImg mAsd mLea mLat mBst mRsk mTap mKys mKat mCod mWts mTes mStk mFct mSor mSiz mCel mHol mHoA mHoB mHoC mMov mTel) H := by rw [hH]; exact hP
  have hS : va_S A s.heap H locs := by rw [hH, hlocs]; exact hS
  suffices hgo : W p l e ({ frames := 3, cells := 0, slots := 0, locals := 70 } : Room) s m args below meth c H locs 0 0 QQ (F0 m 0 ls []) from by rw [hH, hlocs] at hgo; exact hgo
  refine lv_aload_n hx hb dX7_told_0 rfl (lv_at hl 0 rfl) ?_
  refine lv_iload_n hx hb dX7_told_1 rfl (lv_at hl 1 rfl) ?_
  have hPc := hP
  have hDc := hD
  have hFc := rc_freeI hD hS hA
  refine va_calli (va_runV (As := [.int p1]) (rest := []) ⟨hx, hb, hml, hown, hts⟩ (c_X7_isPlace l E mo mn mi ma ml mt mb mr mp mk mq mc mw mz ms mf mu mv mx mh mA mB mC mM mT H.size mHI mFC mLC mCg mTp mNx mFr mTk mVa mEn mKe mCs mAt mHd mWg mNow mImg mAsd mLea mLat mBst mRsk mTap mKys mKat mCod mWts mTes mStk mFct mSor mSiz mCel mHol mHoA mHoB mHoC mMov mTel p1 _ h) (cwV 1 hts gX7_told_X7_isPlace rfl rfl rfl (by decide +kernel) ⟨Nat.le_of_ble_eq_true rfl, Nat.le_of_ble_eq_true rfl⟩) ⟨fun a U g mk q => ⟨q.1, q.2.blind⟩, va_recv hK hPc (ci := 7) (q0 := 0) rfl rfl, fun U hU hW => ⟨rfl, by rw [hU], by rw [hU]; exact hPc, hE.call hS hFc hW hU, hDc.weaken (fun _ _ _ _ => trivial)⟩⟩ rfl rfl hl.1 rfl (lv_room (Nat.le_of_ble_eq_true rfl)) dX7_told_2 ⟨Nat.zero_le _, Nat.zero_le _⟩) hS (fun q _ h => hFc q h) hFc (fun r_1 u t H1 locs ht hvm h hB hz1 hk1 hS => ?_)
  obtain ⟨hP1, hD1⟩ := hB
  rw [ht] at hP1
  have hP := hP1
  have hD := hD1.weaken (fun _ _ _ h => hFc _ h)
  generalize H1 = H at hP hS ⊢
  have hP : va_P E.1 vwCl (rw_24 E mo mn mi ma ml mt mb mr mp mk mq mc mw mz ms mf mu mv mx mh mA mB mC mM mT mHI mFC mLC mCg mTp mNx mFr mTk mVa mEn mKe mCs mAt mHd mWg mNow mImg mAsd mLea mLat mBst mRsk mTap mKys mKat mCod mWts mTes mStk mFct mSor mSiz mCel mHol mHoA mHoB mHoC mMov mTel) H := hP
  have hD : va_D A (rw_24 E mo mn mi ma ml mt mb mr mp mk mq mc mw mz ms mf mu mv mx mh mA mB mC mM mT mHI mFC mLC mCg mTp mNx mFr mTk mVa mEn mKe mCs mAt mHd mWg mNow mImg mAsd mLea mLat mBst mRsk mTap mKys mKat mCod mWts mTes mStk mFct mSor mSiz mCel mHol mHoA mHoB mHoC mMov mTel) := hD
  refine lv_if_eq (tgt := 17) hx hb dX7_told_5 (by decide) (fun c_2 => ?_) (fun c_2 => ?_)
  · have h := h.1 c_2
    refine lv_ldc hx hb hown k_89 dX7_told_17 ?_
    exact hret _ _ _ _ (-1000000001) (mStk, mFct) rfl h hP hD hS dX7_told_19
  · have h := h.2 c_2
    refine lv_iload_n hx hb dX7_told_8 rfl (lv_at hl 2 rfl) ?_
    refine lv_iconst (v := 0) hx hb dX7_told_9 (by decide) ?_
    refine lv_iconst (v := 4) hx hb dX7_told_10 (by decide) ?_
    have hPc := hP.sub (ws' := []) [] rfl
    have hDc := hD.sub (ws' := []) [] (by decide) rfl
    have hFc := va_free (wc := []) hD hS hA [] rfl
    refine va_calli (va_runS (As := [.int p2, .int 0, .int 4]) (rest := []) ⟨hx, hb, hml, hown, hts⟩ (c_X7_in l E H.size p2 0 4 _ h) (va_cwS 3 hts gX7_told_X7_in rfl rfl rfl (by decide +kernel) ⟨Nat.le_of_ble_eq_true rfl, Nat.le_of_ble_eq_true rfl⟩) ⟨fun a U g mk q => ⟨q.1, q.2.blind⟩, fun U hU hW => ⟨rfl, by rw [hU], by rw [hU]; exact hPc, hE.call hS hFc hW hU, hDc.weaken (fun _ _ _ _ => trivial)⟩⟩ rfl rfl hl.1 rfl (lv_room (Nat.le_of_ble_eq_true rfl)) dX7_told_11 ⟨Nat.zero_le _, Nat.zero_le _⟩) hS (fun q _ h => hFc q h) hFc (fun r_3 u t H1 locs ht hvm h hB hz1 hk1 hS => ?_)
    obtain ⟨hP1, hD1⟩ := hB
    rw [ht] at hP1
    obtain ⟨hP, hD⟩ := rc_foc hP hD [] [none, none, none, none, none, none, none, none, none, none, none, none, none, none, none, none, none, none, none, none, none, none, none, none, none] (by decide) rfl hk1 hP1 rfl
    generalize H1 = H at hP hS ⊢
    have hP : va_P E.1 vwCl (rw_24 E mo mn mi ma ml mt mb mr mp mk mq mc mw mz ms mf mu mv mx mh mA mB mC mM mT mHI mFC mLC mCg mTp mNx mFr mTk mVa mEn mKe mCs mAt mHd mWg mNow mImg mAsd mLea mLat mBst mRsk mTap mKys mKat mCod mWts mTes mStk mFct mSor mSiz mCel mHol mHoA mHoB mHoC mMov mTel) H := hP
    have hD : va_D A (rw_24 E mo mn mi ma ml mt mb mr mp mk mq mc mw mz ms mf mu mv mx mh mA mB mC mM mT mHI mFC mLC mCg mTp mNx mFr mTk mVa mEn mKe mCs mAt mHd mWg mNow mImg mAsd mLea mLat mBst mRsk mTap mKys mKat mCod mWts mTes mStk mFct mSor mSiz mCel mHol mHoA mHoB mHoC mMov mTel) := hD
    refine lv_if_ne (tgt := 20) hx hb dX7_told_14 (by decide) (fun c_4 => ?_) (fun c_4 => ?_)
    · have h := h.1 c_4
      refine lv_iload_n hx hb dX7_told_20 rfl (lv_at hl 2 rfl) ?_
      refine lv_iconst (v := 3) hx hb dX7_told_21 (by decide) ?_
      refine lv_icmp_ge (tgt := 34) hx hb dX7_told_22 (by decide) (fun c_5 => ?_) (fun c_5 => ?_)
      · have h := h.1 c_5
        refine lv_iload_n hx hb dX7_told_34 rfl (lv_at hl 2 rfl) ?_
        refine lv_iconst (v := 3) hx hb dX7_told_35 (by decide) ?_
        refine lv_icmp_ne (tgt := 47) hx hb dX7_told_36 (by decide) (fun c_6 => ?_) (fun c_6 => ?_)
        · have h := h.1 c_6
          refine lv_aload_n hx hb dX7_told_47 rfl (lv_at hl 0 rfl) ?_
          refine lv_iload_n hx hb dX7_told_48 rfl (lv_at hl 1 rfl) ?_
          have hPc := hP
          have hDc := hD
          have hFc := rc_freeI hD hS hA
          refine va_calli (va_runV (As := [.int p1]) (rest := []) ⟨hx, hb, hml, hown, hts⟩ (c_X7_worthOf l E mo mn mi ma ml mt mb mr mp mk mq mc mw mz ms mf mu mv mx mh mA mB mC mM mT H.size mHI mFC mLC mCg mTp mNx mFr mTk mVa mEn mKe mCs mAt mHd mWg mNow mImg mAsd mLea mLat mBst mRsk mTap mKys mKat mCod mWts mTes mStk mFct mSor mSiz mCel mHol mHoA mHoB mHoC mMov mTel p1 _ h) (cwV 1 hts gX7_told_X7_worthOf rfl rfl rfl (by decide +kernel) ⟨Nat.le_of_ble_eq_true rfl, Nat.le_of_ble_eq_true rfl⟩) ⟨fun a U g mk q => ⟨q.1, q.2.blind⟩, va_recv hK hPc (ci := 7) (q0 := 0) rfl rfl, fun U hU hW => ⟨rfl, by rw [hU], by rw [hU]; exact hPc, hE.call hS hFc hW hU, hDc.weaken (fun _ _ _ _ => trivial)⟩⟩ rfl rfl hl.1 rfl (lv_room (Nat.le_of_ble_eq_true rfl)) dX7_told_49 ⟨Nat.zero_le _, Nat.zero_le _⟩) hS (fun q _ h => hFc q h) hFc (fun r_7 u t H1 locs ht hvm h hB hz1 hk1 hS => ?_)
          obtain ⟨hP1, hD1⟩ := hB
          rw [ht] at hP1
          have hP := hP1
          have hD := hD1.weaken (fun _ _ _ h => hFc _ h)
          generalize H1 = H at hP hS ⊢
          have hP : va_P E.1 vwCl (rw_24 E mo mn mi ma ml mt mb mr mp mk mq mc mw mz ms mf mu mv mx mh mA mB mC mM mT mHI mFC mLC mCg mTp mNx mFr mTk mVa mEn mKe mCs mAt mHd mWg mNow mImg mAsd mLea mLat mBst mRsk mTap mKys mKat mCod mWts mTes mStk mFct mSor mSiz mCel mHol mHoA mHoB mHoC mMov mTel) H := hP
          have hD : va_D A (rw_24 E mo mn mi ma ml mt mb mr mp mk mq mc mw mz ms mf mu mv mx mh mA mB mC mM mT mHI mFC mLC mCg mTp mNx mFr mTk mVa mEn mKe mCs mAt mHd mWg mNow mImg mAsd mLea mLat mBst mRsk mTap mKys mKat mCod mWts mTes mStk mFct mSor mSiz mCel mHol mHoA mHoB mHoC mMov mTel) := hD
          exact hret _ _ _ _ r_7 (mStk, mFct) rfl h hP hD hS dX7_told_52
        · have h := h.2 c_6
          refine lv_aload_n hx hb dX7_told_39 rfl (lv_at hl 0 rfl) ?_
          refine lv_iload_n hx hb dX7_told_40 rfl (lv_at hl 1 rfl) ?_
          have hPc := hP
          have hDc := hD
          have hFc := rc_freeI hD hS hA
          refine va_calli (va_runV (As := [.int p1]) (rest := []) ⟨hx, hb, hml, hown, hts⟩ (c_X7_riskOf l E mo mn mi ma ml mt mb mr mp mk mq mc mw mz ms mf mu mv mx mh mA mB mC mM mT H.size mHI mFC mLC mCg mTp mNx mFr mTk mVa mEn mKe mCs mAt mHd mWg mNow mImg mAsd mLea mLat mBst mRsk mTap mKys mKat mCod mWts mTes mStk mFct mSor mSiz mCel mHol mHoA mHoB mHoC mMov mTel p1 _ h) (cwV 1 hts gX7_told_X7_riskOf rfl rfl rfl (by decide +kernel) ⟨Nat.le_of_ble_eq_true rfl, Nat.le_of_ble_eq_true rfl⟩) ⟨fun a U g mk q => ⟨q.1, q.2.blind⟩, va_recv hK hPc (ci := 7) (q0 := 0) rfl rfl, fun U hU hW => ⟨rfl, by rw [hU], by rw [hU]; exact hPc, hE.call hS hFc hW hU, hDc.weaken (fun _ _ _ _ => trivial)⟩⟩ rfl rfl hl.1 rfl (lv_room (Nat.le_of_ble_eq_true rfl)) dX7_told_41 ⟨Nat.zero_le _, Nat.zero_le _⟩) hS (fun q _ h => hFc q h) hFc (fun r_8 u t H1 locs ht hvm h hB hz1 hk1 hS => ?_)
          obtain ⟨w_9, w_10⟩ := u
          obtain ⟨hP1, hD1⟩ := hB
          rw [ht] at hP1
          have hP := hP1
          have hD := hD1.weaken (fun _ _ _ h => hFc _ h)
          generalize H1 = H at hP hS ⊢
          have hP : va_P E.1 vwCl (rw_24 E mo mn mi ma ml mt mb mr mp mk mq mc mw mz ms mf mu mv mx mh mA mB mC mM mT mHI mFC mLC mCg mTp mNx mFr mTk mVa mEn mKe mCs mAt mHd mWg mNow mImg mAsd mLea mLat mBst mRsk mTap mKys mKat mCod mWts mTes w_9 w_10 mSor mSiz mCel mHol mHoA mHoB mHoC mMov mTel) H := hP
          have hD : va_D A (rw_24 E mo mn mi ma ml mt mb mr mp mk mq mc mw mz ms mf mu mv mx mh mA mB mC mM mT mHI mFC mLC mCg mTp mNx mFr mTk mVa mEn mKe mCs mAt mHd mWg mNow mImg mAsd mLea mLat mBst mRsk mTap mKys mKat mCod mWts mTes w_9 w_10 mSor mSiz mCel mHol mHoA mHoB mHoC mMov mTel) := hD
          refine lv_goto (tgt := 52) hx hb dX7_told_44 (by decide) ?_
          exact hret _ _ _ _ r_8 (w_9, w_10) rfl h hP hD hS dX7_told_52
      · have h := h.2 c_5
        refine lv_aload_n hx hb dX7_told_25 rfl (lv_at hl 0 rfl) ?_
        refine lv_iload_n hx hb dX7_told_26 rfl (lv_at hl 1 rfl) ?_
        refine lv_iload_n hx hb dX7_told_27 rfl (lv_at hl 2 rfl) ?_
        have hPc := hP
        have hDc := hD
        have hFc := rc_freeI hD hS hA
        refine va_calli (va_runV (As := [.int p1, .int p2]) (rest := []) ⟨hx, hb, hml, hown, hts⟩ (c_X7_of l E mo mn mi ma ml mt mb mr mp mk mq mc mw mz ms mf mu mv mx mh mA mB mC mM mT H.size mHI mFC mLC mCg mTp mNx mFr mTk mVa mEn mKe mCs mAt mHd mWg mNow mImg mAsd mLea mLat mBst mRsk mTap mKys mKat mCod mWts mTes mStk mFct mSor mSiz mCel mHol mHoA mHoB mHoC mMov mTel p1 p2 _ h) (cwV 2 hts gX7_told_X7_of rfl rfl rfl (by decide +kernel) ⟨Nat.le_of_ble_eq_true rfl, Nat.le_of_ble_eq_true rfl⟩) ⟨fun a U g mk q => ⟨q.1, q.2.blind⟩, va_recv hK hPc (ci := 7) (q0 := 0) rfl rfl, fun U hU hW => ⟨rfl, by rw [hU], by rw [hU]; exact hPc, hE.call hS hFc hW hU, hDc.weaken (fun _ _ _ _ => trivial)⟩⟩ rfl rfl hl.1 rfl (lv_room (Nat.le_of_ble_eq_true rfl)) dX7_told_28 ⟨Nat.zero_le _, Nat.zero_le _⟩) hS (fun q _ h => hFc q h) hFc (fun r_11 u t H1 locs ht hvm h hB hz1 hk1 hS => ?_)
        obtain ⟨hP1, hD1⟩ := hB
        rw [ht] at hP1
        have hP := hP1
        have hD := hD1.weaken (fun _ _ _ h => hFc _ h)
        generalize H1 = H at hP hS ⊢
        have hP : va_P E.1 vwCl (rw_24 E mo mn mi ma ml mt mb mr mp mk mq mc mw mz ms mf mu mv mx mh mA mB mC mM mT mHI mFC mLC mCg mTp mNx mFr mTk mVa mEn mKe mCs mAt mHd mWg mNow mImg mAsd mLea mLat mBst mRsk mTap mKys mKat mCod mWts mTes mStk mFct mSor mSiz mCel mHol mHoA mHoB mHoC mMov mTel) H := hP
        have hD : va_D A (rw_24 E mo mn mi ma ml mt mb mr mp mk mq mc mw mz ms mf mu mv mx mh mA mB mC mM mT mHI mFC mLC mCg mTp mNx mFr mTk mVa mEn mKe mCs mAt mHd mWg mNow mImg mAsd mLea mLat mBst mRsk mTap mKys mKat mCod mWts mTes mStk mFct mSor mSiz mCel mHol mHoA mHoB mHoC mMov mTel) := hD
        refine lv_goto (tgt := 52) hx hb dX7_told_31 (by decide) ?_
        exact hret _ _ _ _ r_11 (mStk, mFct) rfl h hP hD hS dX7_told_52
    · have h := h.2 c_4
      refine lv_ldc hx hb hown k_89 dX7_told_17 ?_
      exact hret _ _ _ _ (-1000000001) (mStk, mFct) rfl h hP hD hS dX7_told_19
def wp_X7_as (p1 : Int32) (p2 : Int32) (mNow : Nat → Int32) (Q : Int32 → Prop) : Prop :=
  wp_X7_isPlace p1 mNow (fun (r_1 : Int32) => ((r_1 = 0 → Q (-1000000001)) ∧ (¬ (r_1 = 0) → wp_X7_in p2 0 5 (fun (r_3 : Int32) => ((¬ r_3 = 0 → wp_X7_of p1 0 mNow (fun (r_5 : Int32) => wp_X7_isUnder r_5 p2 (fun (r_6 : Int32) => ((r_6 = 0 → Q (-1000000012)) ∧ (¬ (r_6 = 0) → wp_X7_of p1 1 mNow (fun (r_8 : Int32) => Q r_8)))))) ∧ (r_3 = 0 → Q (-1000000001)))))))
set_option maxHeartbeats 4000000 in
set_option maxRecDepth 100000 in
theorem c_X7_as (l : Launch) (E : gE) (mo mn mi ma ml mt mb mr mp mk mq mc mw mz ms mf mu mv mx mh mA mB mC mM mT : Nat) (sz : Nat) (mHI : Int32) (mFC : Int32) (mLC : Int32) (mCg : Int32) (mTp : Int32) (mNx : Int32) (mFr : Int32) (mTk : Int32) (mVa : Int32) (mEn : Int32) (mKe : Int32) (mCs : Int32) (mAt : Int32) (mHd : Int32) (mWg : Int32) (mNow : Nat → Int32) (mImg : Nat → Int32) (mAsd : Nat → Int32) (mLea : Nat → Int32) (mLat : Nat → Int32) (mBst : Nat → Int32) (mRsk : Nat → Int32) (mTap : Nat → Int32) (mKys : Nat → Int32) (mKat : Nat → Int32) (mCod : Nat → Int32) (mWts : Nat → Int32) (mTes : Nat → Int32) (mStk : Nat → Int32) (mFct : Nat → Int32) (mSor : Nat → Int32) (mSiz : Nat → Int32) (mCel : Nat → Int32) (mHol : Nat → Int32) (mHoA : Nat → Int32) (mHoB : Nat → Int32) (mHoC : Nat → Int32) (mMov : Nat → Int32) (mTel : Nat → Int32) (p1 p2 : Int32)  (Q : Int32 → Prop) (h : wp_X7_as p1 p2 mNow Q) : Met l yX7_as wsX7_as ({ frames := 2, cells := 0, slots := 0, locals := 43 } : Room) (va_Pc [.ref mo, .int p1, .int p2] (rc_B E (rw_24 E mo mn mi ma ml mt mb mr mp mk mq mc mw mz ms mf mu mv mx mh mA mB mC mM mT mHI mFC mLC mCg mTp mNx mFr mTk mVa mEn mKe mCs mAt mHd mWg mNow mImg mAsd mLea mLat mBst mRsk mTap mKys mKat mCod mWts mTes mStk mFct mSor mSiz mCel mHol mHoA mHoB mHoC mMov mTel) sz)) (va_Qi (S := Unit) (fun (r : Int32) (u : Unit) => Q r) (fun u t => rc_C E (va_A (rw_24 E mo mn mi ma ml mt mb mr mp mk mq mc mw mz ms mf mu mv mx mh mA mB mC mM mT mHI mFC mLC mCg mTp mNx mFr mTk mVa mEn mKe mCs mAt mHd mWg mNow mImg mAsd mLea mLat mBst mRsk mTap mKys mKat mCod mWts mTes mStk mFct mSor mSiz mCel mHol mHoA mHoB mHoC mMov mTel) sz) (rw_24 E mo mn mi ma ml mt mb mr mp mk mq mc mw mz ms mf mu mv mx mh mA mB mC mM mT mHI mFC mLC mCg mTp mNx mFr mTk mVa mEn mKe mCs mAt mHd mWg mNow mImg mAsd mLea mLat mBst mRsk mTap mKys mKat mCod mWts mTes mStk mFct mSor mSiz mCel mHol mHoA mHoB mHoC mMov mTel) t) (va_A (rw_24 E mo mn mi ma ml mt mb mr mp mk mq mc mw mz ms mf mu mv mx mh mA mB mC mM mT mHI mFC mLC mCg mTp mNx mFr mTk mVa mEn mKe mCs mAt mHd mWg mNow mImg mAsd mLea mLat mBst mRsk mTap mKys mKat mCod mWts mTes mStk mFct mSor mSiz mCel mHol mHoA mHoB mHoC mMov mTel) sz)) 0 0 (va_A (rw_24 E mo mn mi ma ml mt mb mr mp mk mq mc mw mz ms mf mu mv mx mh mA mB mC mM mT mHI mFC mLC mCg mTp mNx mFr mTk mVa mEn mKe mCs mAt mHd mWg mNow mImg mAsd mLea mLat mBst mRsk mTap mKys mKat mCod mWts mTes mStk mFct mSor mSiz mCel mHol mHoA mHoB mHoC mMov mTel) sz) := by
  refine rc_enterI (cc := cX7_as) (maxL := 3) (by decide) rfl (Nat.le_of_ble_eq_true rfl) ?_
  intro p e s m args below meth c QQ A hx hb hml hown hts hmn hE hP hD hA hret ls hl
  have hown : s.vm.findClass RX7 = some m.cls := hown
  have hK := hE.1
  have hS : va_S A s.heap s.heap [] := va_S.rf
  have hl : lv_has ls 3 [(0, .ref mo), (1, .int p1), (2, .int p2)] := hl
  have k_89 := hts (.constant RX7 89 (-1000000001)) (List.mem_of_getElem? (i := 1) rfl)
  have k_123 := hts (.constant RX7 123 (-1000000012)) (List.mem_of_getElem? (i := 2) rfl)
  unfold wp_X7_as at h
  obtain ⟨H, hH⟩ : ∃ H, H = s.heap := ⟨_, rfl⟩
  obtain ⟨locs, hlocs⟩ : ∃ locs : List Loc, locs = [] := ⟨_, rfl⟩
  have hP : va_P E.1 vwCl (rw_24 E mo mn mi ma ml mt mb mr mp mk mq mc mw mz ms mf mu mv mx mh mA mB mC mM mT mHI mFC mLC mCg mTp mNx mFr mTk mVa mEn mKe mCs mAt mHd mWg mNow mImg mAsd mLea mLat mBst mRsk mTap mKys mKat mCod mWts mTes mStk mFct mSor mSiz mCel mHol mHoA mHoB mHoC mMov mTel) H := by rw [hH]; exact hP
  have hS : va_S A s.heap H locs := by rw [hH, hlocs]; exact hS
  suffices hgo : W p l e ({ frames := 2, cells := 0, slots := 0, locals := 43 } : Room) s m args below meth c H locs 0 0 QQ (F0 m 0 ls []) from by rw [hH, hlocs] at hgo; exact hgo
  refine lv_aload_n hx hb dX7_as_0 rfl (lv_at hl 0 rfl) ?_
  refine lv_iload_n hx hb dX7_as_1 rfl (lv_at hl 1 rfl) ?_
  have hPc := hP
  have hDc := hD
  have hFc := rc_freeI hD hS hA
  refine va_calli (va_runV (As := [.int p1]) (rest := []) ⟨hx, hb, hml, hown, hts⟩ (c_X7_isPlace l E mo mn mi ma ml mt mb mr mp mk mq mc mw mz ms mf mu mv mx mh mA mB mC mM mT H.size mHI mFC mLC mCg mTp mNx mFr mTk mVa mEn mKe mCs mAt mHd mWg mNow mImg mAsd mLea mLat mBst mRsk mTap mKys mKat mCod mWts mTes mStk mFct mSor mSiz mCel mHol mHoA mHoB mHoC mMov mTel p1 _ h) (cwV 1 hts gX7_as_X7_isPlace rfl rfl rfl (by decide +kernel) ⟨Nat.le_of_ble_eq_true rfl, Nat.le_of_ble_eq_true rfl⟩) ⟨fun a U g mk q => ⟨q.1, q.2.blind⟩, va_recv hK hPc (ci := 7) (q0 := 0) rfl rfl, fun U hU hW => ⟨rfl, by rw [hU], by rw [hU]; exact hPc, hE.call hS hFc hW hU, hDc.weaken (fun _ _ _ _ => trivial)⟩⟩ rfl rfl hl.1 rfl (lv_room (Nat.le_of_ble_eq_true rfl)) dX7_as_2 ⟨Nat.zero_le _, Nat.zero_le _⟩) hS (fun q _ h => hFc q h) hFc (fun r_1 u t H1 locs ht hvm h hB hz1 hk1 hS => ?_)
  obtain ⟨hP1, hD1⟩ := hB
  rw [ht] at hP1
  have hP := hP1
  have hD := hD1.weaken (fun _ _ _ h => hFc _ h)
  generalize H1 = H at hP hS ⊢
  have hP : va_P E.1 vwCl (rw_24 E mo mn mi ma ml mt mb mr mp mk mq mc mw mz ms mf mu mv mx mh mA mB mC mM mT mHI mFC mLC mCg mTp mNx mFr mTk mVa mEn mKe mCs mAt mHd mWg mNow mImg mAsd mLea mLat mBst mRsk mTap mKys mKat mCod mWts mTes mStk mFct mSor mSiz mCel mHol mHoA mHoB mHoC mMov mTel) H := hP
  have hD : va_D A (rw_24 E mo mn mi ma ml mt mb mr mp mk mq mc mw mz ms mf mu mv mx mh mA mB mC mM mT mHI mFC mLC mCg mTp mNx mFr mTk mVa mEn mKe mCs mAt mHd mWg mNow mImg mAsd mLea mLat mBst mRsk mTap mKys mKat mCod mWts mTes mStk mFct mSor mSiz mCel mHol mHoA mHoB mHoC mMov mTel) := hD
  refine lv_if_eq (tgt := 17) hx hb dX7_as_5 (by decide) (fun c_2 => ?_) (fun c_2 => ?_)
  · have h := h.1 c_2
    refine lv_ldc hx hb hown k_89 dX7_as_17 ?_
    exact hret _ _ _ _ (-1000000001) () rfl h hP hD hS dX7_as_19
  · have h := h.2 c_2
    refine lv_iload_n hx hb dX7_as_8 rfl (lv_at hl 2 rfl) ?_
    refine lv_iconst (v := 0) hx hb dX7_as_9 (by decide) ?_
    refine lv_iconst (v := 5) hx hb dX7_as_10 (by decide) ?_
    have hPc := hP.sub (ws' := []) [] rfl
    have hDc := hD.sub (ws' := []) [] (by decide) rfl
    have hFc := va_free (wc := []) hD hS hA [] rfl
    refine va_calli (va_runS (As := [.int p2, .int 0, .int 5]) (rest := []) ⟨hx, hb, hml, hown, hts⟩ (c_X7_in l E H.size p2 0 5 _ h) (va_cwS 3 hts gX7_as_X7_in rfl rfl rfl (by decide +kernel) ⟨Nat.le_of_ble_eq_true rfl, Nat.le_of_ble_eq_true rfl⟩) ⟨fun a U g mk q => ⟨q.1, q.2.blind⟩, fun U hU hW => ⟨rfl, by rw [hU], by rw [hU]; exact hPc, hE.call hS hFc hW hU, hDc.weaken (fun _ _ _ _ => trivial)⟩⟩ rfl rfl hl.1 rfl (lv_room (Nat.le_of_ble_eq_true rfl)) dX7_as_11 ⟨Nat.zero_le _, Nat.zero_le _⟩) hS (fun q _ h => hFc q h) hFc (fun r_3 u t H1 locs ht hvm h hB hz1 hk1 hS => ?_)
    obtain ⟨hP1, hD1⟩ := hB
    rw [ht] at hP1
    obtain ⟨hP, hD⟩ := rc_foc hP hD [] [none, none, none, none, none, none, none, none, none, none, none, none, none, none, none, none, none, none, none, none, none, none, none, none, none] (by decide) rfl hk1 hP1 rfl
    generalize H1 = H at hP hS ⊢
    have hP : va_P E.1 vwCl (rw_24 E mo mn mi ma ml mt mb mr mp mk mq mc mw mz ms mf mu mv mx mh mA mB mC mM mT mHI mFC mLC mCg mTp mNx mFr mTk mVa mEn mKe mCs mAt mHd mWg mNow mImg mAsd mLea mLat mBst mRsk mTap mKys mKat mCod mWts mTes mStk mFct mSor mSiz mCel mHol mHoA mHoB mHoC mMov mTel) H := hP
    have hD : va_D A (rw_24 E mo mn mi ma ml mt mb mr mp mk mq mc mw mz ms mf mu mv mx mh mA mB mC mM mT mHI mFC mLC mCg mTp mNx mFr mTk mVa mEn mKe mCs mAt mHd mWg mNow mImg mAsd mLea mLat mBst mRsk mTap mKys mKat mCod mWts mTes mStk mFct mSor mSiz mCel mHol mHoA mHoB mHoC mMov mTel) := hD
    refine lv_if_ne (tgt := 20) hx hb dX7_as_14 (by decide) (fun c_4 => ?_) (fun c_4 => ?_)
    · have h := h.1 c_4
      refine lv_aload_n hx hb dX7_as_20 rfl (lv_at hl 0 rfl) ?_
      refine lv_iload_n hx hb dX7_as_21 rfl (lv_at hl 1 rfl) ?_
      refine lv_iconst (v := 0) hx hb dX7_as_22 (by decide) ?_
      have hPc := hP
      have hDc := hD
      have hFc := rc_freeI hD hS hA
      refine va_calli (va_runV (As := [.int p1, .int 0]) (rest := []) ⟨hx, hb, hml, hown, hts⟩ (c_X7_of l E mo mn mi ma ml mt mb mr mp mk mq mc mw mz ms mf mu mv mx mh mA mB mC mM mT H.size mHI mFC mLC mCg mTp mNx mFr mTk mVa mEn mKe mCs mAt mHd mWg mNow mImg mAsd mLea mLat mBst mRsk mTap mKys mKat mCod mWts mTes mStk mFct mSor mSiz mCel mHol mHoA mHoB mHoC mMov mTel p1 0 _ h) (cwV 2 hts gX7_as_X7_of rfl rfl rfl (by decide +kernel) ⟨Nat.le_of_ble_eq_true rfl, Nat.le_of_ble_eq_true rfl⟩) ⟨fun a U g mk q => ⟨q.1, q.2.blind⟩, va_recv hK hPc (ci := 7) (q0 := 0) rfl rfl, fun U hU hW => ⟨rfl, by rw [hU], by rw [hU]; exact hPc, hE.call hS hFc hW hU, hDc.weaken (fun _ _ _ _ => trivial)⟩⟩ rfl rfl hl.1 rfl (lv_room (Nat.le_of_ble_eq_true rfl)) dX7_as_23 ⟨Nat.zero_le _, Nat.zero_le _⟩) hS (fun q _ h => hFc q h) hFc (fun r_5 u t H1 locs ht hvm h hB hz1 hk1 hS => ?_)
      obtain ⟨hP1, hD1⟩ := hB
      rw [ht] at hP1
      have hP := hP1
      have hD := hD1.weaken (fun _ _ _ h => hFc _ h)
      generalize H1 = H at hP hS ⊢
      have hP : va_P E.1 vwCl (rw_24 E mo mn mi ma ml mt mb mr mp mk mq mc mw mz ms mf mu mv mx mh mA mB mC mM mT mHI mFC mLC mCg mTp mNx mFr mTk mVa mEn mKe mCs mAt mHd mWg mNow mImg mAsd mLea mLat mBst mRsk mTap mKys mKat mCod mWts mTes mStk mFct mSor mSiz mCel mHol mHoA mHoB mHoC mMov mTel) H := hP
      have hD : va_D A (rw_24 E mo mn mi ma ml mt mb mr mp mk mq mc mw mz ms mf mu mv mx mh mA mB mC mM mT mHI mFC mLC mCg mTp mNx mFr mTk mVa mEn mKe mCs mAt mHd mWg mNow mImg mAsd mLea mLat mBst mRsk mTap mKys mKat mCod mWts mTes mStk mFct mSor mSiz mCel mHol mHoA mHoB mHoC mMov mTel) := hD
      refine lv_iload_n hx hb dX7_as_26 rfl (lv_at hl 2 rfl) ?_
      have hPc := hP.sub (ws' := []) [] rfl
      have hDc := hD.sub (ws' := []) [] (by decide) rfl
      have hFc := va_free (wc := []) hD hS hA [] rfl
      refine va_calli (va_runS (As := [.int r_5, .int p2]) (rest := []) ⟨hx, hb, hml, hown, hts⟩ (c_X7_isUnder l E H.size r_5 p2 _ h) (va_cwS 2 hts gX7_as_X7_isUnder rfl rfl rfl (by decide +kernel) ⟨Nat.le_of_ble_eq_true rfl, Nat.le_of_ble_eq_true rfl⟩) ⟨fun a U g mk q => ⟨q.1, q.2.blind⟩, fun U hU hW => ⟨rfl, by rw [hU], by rw [hU]; exact hPc, hE.call hS hFc hW hU, hDc.weaken (fun _ _ _ _ => trivial)⟩⟩ rfl rfl hl.1 rfl (lv_room (Nat.le_of_ble_eq_true rfl)) dX7_as_27 ⟨Nat.zero_le _, Nat.zero_le _⟩) hS (fun q _ h => hFc q h) hFc (fun r_6 u t H1 locs ht hvm h hB hz1 hk1 hS => ?_)
      obtain ⟨hP1, hD1⟩ := hB
      rw [ht] at hP1
      obtain ⟨hP, hD⟩ := rc_foc hP hD [] [none, none, none, none, none, none, none, none, none, none, none, none, none, none, none, none, none, none, none, none, none, none, none, none, none] (by decide) rfl hk1 hP1 rfl
      generalize H1 = H at hP hS ⊢
      have hP : va_P E.1 vwCl (rw_24 E mo mn mi ma ml mt mb mr mp mk mq mc mw mz ms mf mu mv mx mh mA mB mC mM mT mHI mFC mLC mCg mTp mNx mFr mTk mVa mEn mKe mCs mAt mHd mWg mNow mImg mAsd mLea mLat mBst mRsk mTap mKys mKat mCod mWts mTes mStk mFct mSor mSiz mCel mHol mHoA mHoB mHoC mMov mTel) H := hP
      have hD : va_D A (rw_24 E mo mn mi ma ml mt mb mr mp mk mq mc mw mz ms mf mu mv mx mh mA mB mC mM mT mHI mFC mLC mCg mTp mNx mFr mTk mVa mEn mKe mCs mAt mHd mWg mNow mImg mAsd mLea mLat mBst mRsk mTap mKys mKat mCod mWts mTes mStk mFct mSor mSiz mCel mHol mHoA mHoB mHoC mMov mTel) := hD
      refine lv_if_eq (tgt := 42) hx hb dX7_as_30 (by decide) (fun c_7 => ?_) (fun c_7 => ?_)
      · have h := h.1 c_7
        refine lv_ldc hx hb hown k_123 dX7_as_42 ?_
        exact hret _ _ _ _ (-1000000012) () rfl h hP hD hS dX7_as_44
      · have h := h.2 c_7
        refine lv_aload_n hx hb dX7_as_33 rfl (lv_at hl 0 rfl) ?_
        refine lv_iload_n hx hb dX7_as_34 rfl (lv_at hl 1 rfl) ?_
        refine lv_iconst (v := 1) hx hb dX7_as_35 (by decide) ?_
        have hPc := hP
        have hDc := hD
        have hFc := rc_freeI hD hS hA
        refine va_calli (va_runV (As := [.int p1, .int 1]) (rest := []) ⟨hx, hb, hml, hown, hts⟩ (c_X7_of l E mo mn mi ma ml mt mb mr mp mk mq mc mw mz ms mf mu mv mx mh mA mB mC mM mT H.size mHI mFC mLC mCg mTp mNx mFr mTk mVa mEn mKe mCs mAt mHd mWg mNow mImg mAsd mLea mLat mBst mRsk mTap mKys mKat mCod mWts mTes mStk mFct mSor mSiz mCel mHol mHoA mHoB mHoC mMov mTel p1 1 _ h) (cwV 2 hts gX7_as_X7_of rfl rfl rfl (by decide +kernel) ⟨Nat.le_of_ble_eq_true rfl, Nat.le_of_ble_eq_true rfl⟩) ⟨fun a U g mk q => ⟨q.1, q.2.blind⟩, va_recv hK hPc (ci := 7) (q0 := 0) rfl rfl, fun U hU hW => ⟨rfl, by rw [hU], by rw [hU]; exact hPc, hE.call hS hFc hW hU, hDc.weaken (fun _ _ _ _ => trivial)⟩⟩ rfl rfl hl.1 rfl (lv_room (Nat.le_of_ble_eq_true rfl)) dX7_as_36 ⟨Nat.zero_le _, Nat.zero_le _⟩) hS (fun q _ h => hFc q h) hFc (fun r_8 u t H1 locs ht hvm h hB hz1 hk1 hS => ?_)
        obtain ⟨hP1, hD1⟩ := hB
        rw [ht] at hP1
        have hP := hP1
        have hD := hD1.weaken (fun _ _ _ h => hFc _ h)
        generalize H1 = H at hP hS ⊢
        have hP : va_P E.1 vwCl (rw_24 E mo mn mi ma ml mt mb mr mp mk mq mc mw mz ms mf mu mv mx mh mA mB mC mM mT mHI mFC mLC mCg mTp mNx mFr mTk mVa mEn mKe mCs mAt mHd mWg mNow mImg mAsd mLea mLat mBst mRsk mTap mKys mKat mCod mWts mTes mStk mFct mSor mSiz mCel mHol mHoA mHoB mHoC mMov mTel) H := hP
        have hD : va_D A (rw_24 E mo mn mi ma ml mt mb mr mp mk mq mc mw mz ms mf mu mv mx mh mA mB mC mM mT mHI mFC mLC mCg mTp mNx mFr mTk mVa mEn mKe mCs mAt mHd mWg mNow mImg mAsd mLea mLat mBst mRsk mTap mKys mKat mCod mWts mTes mStk mFct mSor mSiz mCel mHol mHoA mHoB mHoC mMov mTel) := hD
        refine lv_goto (tgt := 44) hx hb dX7_as_39 (by decide) ?_
        exact hret _ _ _ _ r_8 () rfl h hP hD hS dX7_as_44
    · have h := h.2 c_4
      refine lv_ldc hx hb hown k_89 dX7_as_17 ?_
      exact hret _ _ _ _ (-1000000001) () rfl h hP hD hS dX7_as_19
def wp_X7_turns (p1 : Int32) (p2 : Int32) (mNow : Nat → Int32) (Q : Int32 → (Nat → Int32) → Prop) : Prop :=
  wp_X7_isPlace p1 mNow (fun (r_1 : Int32) => ((r_1 = 0 → Q (-1000000001) mNow) ∧ (¬ (r_1 = 0) → wp_X7_in p2 0 5 (fun (r_3 : Int32) => ((r_3 = 0 → Q (-1000000001) mNow) ∧ (¬ (r_3 = 0) → wp_X7_becomes (9 + (3 * p1)) p2 mNow (fun (r_5 : Int32) (w_6 : Nat → Int32) => Q r_5 w_6)))))))
set_option maxHeartbeats 4000000 in
set_option maxRecDepth 100000 in
theorem c_X7_turns (l : Launch) (E : gE) (mo mn mi ma ml mt mb mr mp mk mq mc mw mz ms mf mu mv mx mh mA mB mC mM mT : Nat) (sz : Nat) (mHI : Int32) (mFC : Int32) (mLC : Int32) (mCg : Int32) (mTp : Int32) (mNx : Int32) (mFr : Int32) (mTk : Int32) (mVa : Int32) (mEn : Int32) (mKe : Int32) (mCs : Int32) (mAt : Int32) (mHd : Int32) (mWg : Int32) (mNow : Nat → Int32) (mImg : Nat → Int32) (mAsd : Nat → Int32) (mLea : Nat → Int32) (mLat : Nat → Int32) (mBst : Nat → Int32) (mRsk : Nat → Int32) (mTap : Nat → Int32) (mKys : Nat → Int32) (mKat : Nat → Int32) (mCod : Nat → Int32) (mWts : Nat → Int32) (mTes : Nat → Int32) (mStk : Nat → Int32) (mFct : Nat → Int32) (mSor : Nat → Int32) (mSiz : Nat → Int32) (mCel : Nat → Int32) (mHol : Nat → Int32) (mHoA : Nat → Int32) (mHoB : Nat → Int32) (mHoC : Nat → Int32) (mMov : Nat → Int32) (mTel : Nat → Int32) (p1 p2 : Int32)  (Q : Int32 → (Nat → Int32) → Prop) (h : wp_X7_turns p1 p2 mNow Q) : Met l yX7_turns wsX7_turns ({ frames := 2, cells := 0, slots := 0, locals := 43 } : Room) (va_Pc [.ref mo, .int p1, .int p2] (rc_B E (rw_24 E mo mn mi ma ml mt mb mr mp mk mq mc mw mz ms mf mu mv mx mh mA mB mC mM mT mHI mFC mLC mCg mTp mNx mFr mTk mVa mEn mKe mCs mAt mHd mWg mNow mImg mAsd mLea mLat mBst mRsk mTap mKys mKat mCod mWts mTes mStk mFct mSor mSiz mCel mHol mHoA mHoB mHoC mMov mTel) sz)) (va_Qi (S := (Nat → Int32)) (fun (r : Int32) (u : (Nat → Int32)) => Q r u) (fun u t => rc_C E (va_A (rw_24 E mo mn mi ma ml mt mb mr mp mk mq mc mw mz ms mf mu mv mx mh mA mB mC mM mT mHI mFC mLC mCg mTp mNx mFr mTk mVa mEn mKe mCs mAt mHd mWg mNow mImg mAsd mLea mLat mBst mRsk mTap mKys mKat mCod mWts mTes mStk mFct mSor mSiz mCel mHol mHoA mHoB mHoC mMov mTel) sz) (rw_24 E mo mn mi ma ml mt mb mr mp mk mq mc mw mz ms mf mu mv mx mh mA mB mC mM mT mHI mFC mLC mCg mTp mNx mFr mTk mVa mEn mKe mCs mAt mHd mWg u mImg mAsd mLea mLat mBst mRsk mTap mKys mKat mCod mWts mTes mStk mFct mSor mSiz mCel mHol mHoA mHoB mHoC mMov mTel) t) (va_A (rw_24 E mo mn mi ma ml mt mb mr mp mk mq mc mw mz ms mf mu mv mx mh mA mB mC mM mT mHI mFC mLC mCg mTp mNx mFr mTk mVa mEn mKe mCs mAt mHd mWg mNow mImg mAsd mLea mLat mBst mRsk mTap mKys mKat mCod mWts mTes mStk mFct mSor mSiz mCel mHol mHoA mHoB mHoC mMov mTel) sz)) 0 0 (va_A (rw_24 E mo mn mi ma ml mt mb mr mp mk mq mc mw mz ms mf mu mv mx mh mA mB mC mM mT mHI mFC mLC mCg mTp mNx mFr mTk mVa mEn mKe mCs mAt mHd mWg mNow mImg mAsd mLea mLat mBst mRsk mTap mKys mKat mCod mWts mTes mStk mFct mSor mSiz mCel mHol mHoA mHoB mHoC mMov mTel) sz) := by
  refine rc_enterI (cc := cX7_turns) (maxL := 3) (by decide) rfl (Nat.le_of_ble_eq_true rfl) ?_
  intro p e s m args below meth c QQ A hx hb hml hown hts hmn hE hP hD hA hret ls hl
  have hown : s.vm.findClass RX7 = some m.cls := hown
  have hK := hE.1
  have hS : va_S A s.heap s.heap [] := va_S.rf
  have hl : lv_has ls 3 [(0, .ref mo), (1, .int p1), (2, .int p2)] := hl
  have k_89 := hts (.constant RX7 89 (-1000000001)) (List.mem_of_getElem? (i := 1) rfl)
  unfold wp_X7_turns at h
  obtain ⟨H, hH⟩ : ∃ H, H = s.heap := ⟨_, rfl⟩
  obtain ⟨locs, hlocs⟩ : ∃ locs : List Loc, locs = [] := ⟨_, rfl⟩
  have hP : va_P E.1 vwCl (rw_24 E mo mn mi ma ml mt mb mr mp mk mq mc mw mz ms mf mu mv mx mh mA mB mC mM mT mHI mFC mLC mCg mTp mNx mFr mTk mVa mEn mKe mCs mAt mHd mWg mNow mImg mAsd mLea mLat mBst mRsk mTap mKys mKat mCod mWts mTes mStk mFct mSor mSiz mCel mHol mHoA mHoB mHoC mMov mTel) H := by rw [hH]; exact hP
  have hS : va_S A s.heap H locs := by rw [hH, hlocs]; exact hS
  suffices hgo : W p l e ({ frames := 2, cells := 0, slots := 0, locals := 43 } : Room) s m args below meth c H locs 0 0 QQ (F0 m 0 ls []) from by rw [hH, hlocs] at hgo; exact hgo
  refine lv_aload_n hx hb dX7_turns_0 rfl (lv_at hl 0 rfl) ?_
  refine lv_iload_n hx hb dX7_turns_1 rfl (lv_at hl 1 rfl) ?_
  have hPc := hP
  have hDc := hD
  have hFc := rc_freeI hD hS hA
  refine va_calli (va_runV (As := [.int p1]) (rest := []) ⟨hx, hb, hml, hown, hts⟩ (c_X7_isPlace l E mo mn mi ma ml mt mb mr mp mk mq mc mw mz ms mf mu mv mx mh mA mB mC mM mT H.size mHI mFC mLC mCg mTp mNx mFr mTk mVa mEn mKe mCs mAt mHd mWg mNow mImg mAsd mLea mLat mBst mRsk mTap mKys mKat mCod mWts mTes mStk mFct mSor mSiz mCel mHol mHoA mHoB mHoC mMov mTel p1 _ h) (cwV 1 hts gX7_turns_X7_isPlace rfl rfl rfl (by decide +kernel) ⟨Nat.le_of_ble_eq_true rfl, Nat.le_of_ble_eq_true rfl⟩) ⟨fun a U g mk q => ⟨q.1, q.2.blind⟩, va_recv hK hPc (ci := 7) (q0 := 0) rfl rfl, fun U hU hW => ⟨rfl, by rw [hU], by rw [hU]; exact hPc, hE.call hS hFc hW hU, hDc.weaken (fun _ _ _ _ => trivial)⟩⟩ rfl rfl hl.1 rfl (lv_room (Nat.le_of_ble_eq_true rfl)) dX7_turns_2 ⟨Nat.zero_le _, Nat.zero_le _⟩) hS (fun q _ h => hFc q h) hFc (fun r_1 u t H1 locs ht hvm h hB hz1 hk1 hS => ?_)
  obtain ⟨hP1, hD1⟩ := hB
  rw [ht] at hP1
  have hP := hP1
  have hD := hD1.weaken (fun _ _ _ h => hFc _ h)
  generalize H1 = H at hP hS ⊢
  have hP : va_P E.1 vwCl (rw_24 E mo mn mi ma ml mt mb mr mp mk mq mc mw mz ms mf mu mv mx mh mA mB mC mM mT mHI mFC mLC mCg mTp mNx mFr mTk mVa mEn mKe mCs mAt mHd mWg mNow mImg mAsd mLea mLat mBst mRsk mTap mKys mKat mCod mWts mTes mStk mFct mSor mSiz mCel mHol mHoA mHoB mHoC mMov mTel) H := hP
  have hD : va_D A (rw_24 E mo mn mi ma ml mt mb mr mp mk mq mc mw mz ms mf mu mv mx mh mA mB mC mM mT mHI mFC mLC mCg mTp mNx mFr mTk mVa mEn mKe mCs mAt mHd mWg mNow mImg mAsd mLea mLat mBst mRsk mTap mKys mKat mCod mWts mTes mStk mFct mSor mSiz mCel mHol mHoA mHoB mHoC mMov mTel) := hD
  refine lv_if_eq (tgt := 31) hx hb dX7_turns_5 (by decide) (fun c_2 => ?_) (fun c_2 => ?_)
  · have h := h.1 c_2
    refine lv_ldc hx hb hown k_89 dX7_turns_31 ?_
    exact hret _ _ _ _ (-1000000001) (mNow) rfl h hP hD hS dX7_turns_33
  · have h := h.2 c_2
    refine lv_iload_n hx hb dX7_turns_8 rfl (lv_at hl 2 rfl) ?_
    refine lv_iconst (v := 0) hx hb dX7_turns_9 (by decide) ?_
    refine lv_iconst (v := 5) hx hb dX7_turns_10 (by decide) ?_
    have hPc := hP.sub (ws' := []) [] rfl
    have hDc := hD.sub (ws' := []) [] (by decide) rfl
    have hFc := va_free (wc := []) hD hS hA [] rfl
    refine va_calli (va_runS (As := [.int p2, .int 0, .int 5]) (rest := []) ⟨hx, hb, hml, hown, hts⟩ (c_X7_in l E H.size p2 0 5 _ h) (va_cwS 3 hts gX7_turns_X7_in rfl rfl rfl (by decide +kernel) ⟨Nat.le_of_ble_eq_true rfl, Nat.le_of_ble_eq_true rfl⟩) ⟨fun a U g mk q => ⟨q.1, q.2.blind⟩, fun U hU hW => ⟨rfl, by rw [hU], by rw [hU]; exact hPc, hE.call hS hFc hW hU, hDc.weaken (fun _ _ _ _ => trivial)⟩⟩ rfl rfl hl.1 rfl (lv_room (Nat.le_of_ble_eq_true rfl)) dX7_turns_11 ⟨Nat.zero_le _, Nat.zero_le _⟩) hS (fun q _ h => hFc q h) hFc (fun r_3 u t H1 locs ht hvm h hB hz1 hk1 hS => ?_)
    obtain ⟨hP1, hD1⟩ := hB
    rw [ht] at hP1
    obtain ⟨hP, hD⟩ := rc_foc hP hD [] [none, none, none, none, none, none, none, none, none, none, none, none, none, none, none, none, none, none, none, none, none, none, none, none, none] (by decide) rfl hk1 hP1 rfl
    generalize H1 = H at hP hS ⊢
    have hP : va_P E.1 vwCl (rw_24 E mo mn mi ma ml mt mb mr mp mk mq mc mw mz ms mf mu mv mx mh mA mB mC mM mT mHI mFC mLC mCg mTp mNx mFr mTk mVa mEn mKe mCs mAt mHd mWg mNow mImg mAsd mLea mLat mBst mRsk mTap mKys mKat mCod mWts mTes mStk mFct mSor mSiz mCel mHol mHoA mHoB mHoC mMov mTel) H := hP
    have hD : va_D A (rw_24 E mo mn mi ma ml mt mb mr mp mk mq mc mw mz ms mf mu mv mx mh mA mB mC mM mT mHI mFC mLC mCg mTp mNx mFr mTk mVa mEn mKe mCs mAt mHd mWg mNow mImg mAsd mLea mLat mBst mRsk mTap mKys mKat mCod mWts mTes mStk mFct mSor mSiz mCel mHol mHoA mHoB mHoC mMov mTel) := hD
    refine lv_if_eq (tgt := 31) hx hb dX7_turns_14 (by decide) (fun c_4 => ?_) (fun c_4 => ?_)
    · have h := h.1 c_4
      refine lv_ldc hx hb hown k_89 dX7_turns_31 ?_
      exact hret _ _ _ _ (-1000000001) (mNow) rfl h hP hD hS dX7_turns_33
    · have h := h.2 c_4
      refine lv_aload_n hx hb dX7_turns_17 rfl (lv_at hl 0 rfl) ?_
      refine lv_bipush (v := 9) hx hb dX7_turns_18 (by decide) ?_
      refine lv_iconst (v := 3) hx hb dX7_turns_20 (by decide) ?_
      refine lv_iload_n hx hb dX7_turns_21 rfl (lv_at hl 1 rfl) ?_
      refine lv_imul hx hb dX7_turns_22 ?_
      refine lv_iadd hx hb dX7_turns_23 ?_
      refine lv_iload_n hx hb dX7_turns_24 rfl (lv_at hl 2 rfl) ?_
      have hPc := hP
      have hDc := hD
      have hFc := rc_freeI hD hS hA
      refine va_calli (va_runV (As := [.int (9 + (3 * p1)), .int p2]) (rest := []) ⟨hx, hb, hml, hown, hts⟩ (c_X7_becomes l E mo mn mi ma ml mt mb mr mp mk mq mc mw mz ms mf mu mv mx mh mA mB mC mM mT H.size mHI mFC mLC mCg mTp mNx mFr mTk mVa mEn mKe mCs mAt mHd mWg mNow mImg mAsd mLea mLat mBst mRsk mTap mKys mKat mCod mWts mTes mStk mFct mSor mSiz mCel mHol mHoA mHoB mHoC mMov mTel (9 + (3 * p1)) p2 _ h) (cwV 2 hts gX7_turns_X7_becomes rfl rfl rfl (by decide +kernel) ⟨Nat.le_of_ble_eq_true rfl, Nat.le_of_ble_eq_true rfl⟩) ⟨fun a U g mk q => ⟨q.1, q.2.blind⟩, va_recv hK hPc (ci := 7) (q0 := 0) rfl rfl, fun U hU hW => ⟨rfl, by rw [hU], by rw [hU]; exact hPc, hE.call hS hFc hW hU, hDc.weaken (fun _ _ _ _ => trivial)⟩⟩ rfl rfl hl.1 rfl (lv_room (Nat.le_of_ble_eq_true rfl)) dX7_turns_25 ⟨Nat.zero_le _, Nat.zero_le _⟩) hS (fun q _ h => hFc q h) hFc (fun r_5 u t H1 locs ht hvm h hB hz1 hk1 hS => ?_)
      obtain ⟨w_6, rfl⟩ : ∃ z, z = u := ⟨_, rfl⟩
      obtain ⟨hP1, hD1⟩ := hB
      rw [ht] at hP1
      have hP := hP1
      have hD := hD1.weaken (fun _ _ _ h => hFc _ h)
      generalize H1 = H at hP hS ⊢
      have hP : va_P E.1 vwCl (rw_24 E mo mn mi ma ml mt mb mr mp mk mq mc mw mz ms mf mu mv mx mh mA mB mC mM mT mHI mFC mLC mCg mTp mNx mFr mTk mVa mEn mKe mCs mAt mHd mWg w_6 mImg mAsd mLea mLat mBst mRsk mTap mKys mKat mCod mWts mTes mStk mFct mSor mSiz mCel mHol mHoA mHoB mHoC mMov mTel) H := hP
      have hD : va_D A (rw_24 E mo mn mi ma ml mt mb mr mp mk mq mc mw mz ms mf mu mv mx mh mA mB mC mM mT mHI mFC mLC mCg mTp mNx mFr mTk mVa mEn mKe mCs mAt mHd mWg w_6 mImg mAsd mLea mLat mBst mRsk mTap mKys mKat mCod mWts mTes mStk mFct mSor mSiz mCel mHol mHoA mHoB mHoC mMov mTel) := hD
      refine lv_goto (tgt := 33) hx hb dX7_turns_28 (by decide) ?_
      exact hret _ _ _ _ r_5 (w_6) rfl h hP hD hS dX7_turns_33
def jp_X7_set_30 (p1 : Int32) (p2 : Int32) (p3 : Int32)  (Q : Int32 → (Nat → Int32) → Prop) (y0 : Int32) (y1 : Int32) (y2 : Int32) (mNow : Nat → Int32) : Prop :=
  wp_X7_in y2 y1 y0 (fun (r_1 : Int32) => ((r_1 = 0 → Q (-1000000001) mNow) ∧ (¬ (r_1 = 0) → wp_X7_becomes ((9 + (3 * p1)) + p2) p3 mNow (fun (r_3 : Int32) (w_4 : Nat → Int32) => Q r_3 w_4))))
def wp_X7_set (p1 : Int32) (p2 : Int32) (p3 : Int32) (mNow : Nat → Int32) (Q : Int32 → (Nat → Int32) → Prop) : Prop :=
  wp_X7_isPlace p1 mNow (fun (r_5 : Int32) => ((r_5 = 0 → Q (-1000000001) mNow) ∧ (¬ (r_5 = 0) → wp_X7_in p2 1 2 (fun (r_7 : Int32) => ((r_7 = 0 → Q (-1000000001) mNow) ∧ (¬ (r_7 = 0) → ((¬ p2 = 1 → jp_X7_set_30 p1 p2 p3 Q 1 0 p3 mNow) ∧ (p2 = 1 → jp_X7_set_30 p1 p2 p3 Q 99 0 p3 mNow))))))))
set_option maxHeartbeats 4000000 in
set_option maxRecDepth 100000 in
theorem c_X7_set (l : Launch) (E : gE) (mo mn mi ma ml mt mb mr mp mk mq mc mw mz ms mf mu mv mx mh mA mB mC mM mT : Nat) (sz : Nat) (mHI : Int32) (mFC : Int32) (mLC : Int32) (mCg : Int32) (mTp : Int32) (mNx : Int32) (mFr : Int32) (mTk : Int32) (mVa : Int32) (mEn : Int32) (mKe : Int32) (mCs : Int32) (mAt : Int32) (mHd : Int32) (mWg : Int32) (mNow : Nat → Int32) (mImg : Nat → Int32) (mAsd : Nat → Int32) (mLea : Nat → Int32) (mLat : Nat → Int32) (mBst : Nat → Int32) (mRsk : Nat → Int32) (mTap : Nat → Int32) (mKys : Nat → Int32) (mKat : Nat → Int32) (mCod : Nat → Int32) (mWts : Nat → Int32) (mTes : Nat → Int32) (mStk : Nat → Int32) (mFct : Nat → Int32) (mSor : Nat → Int32) (mSiz : Nat → Int32) (mCel : Nat → Int32) (mHol : Nat → Int32) (mHoA : Nat → Int32) (mHoB : Nat → Int32) (mHoC : Nat → Int32) (mMov : Nat → Int32) (mTel : Nat → Int32) (p1 p2 p3 : Int32)  (Q : Int32 → (Nat → Int32) → Prop) (h : wp_X7_set p1 p2 p3 mNow Q) : Met l yX7_set wsX7_set ({ frames := 2, cells := 0, slots := 0, locals := 43 } : Room) (va_Pc [.ref mo, .int p1, .int p2, .int p3] (rc_B E (rw_24 E mo mn mi ma ml mt mb mr mp mk mq mc mw mz ms mf mu mv mx mh mA mB mC mM mT mHI mFC mLC mCg mTp mNx mFr mTk mVa mEn mKe mCs mAt mHd mWg mNow mImg mAsd mLea mLat mBst mRsk mTap mKys mKat mCod mWts mTes mStk mFct mSor mSiz mCel mHol mHoA mHoB mHoC mMov mTel) sz)) (va_Qi (S := (Nat → Int32)) (fun (r : Int32) (u : (Nat → Int32)) => Q r u) (fun u t => rc_C E (va_A (rw_24 E mo mn mi ma ml mt mb mr mp mk mq mc mw mz ms mf mu mv mx mh mA mB mC mM mT mHI mFC mLC mCg mTp mNx mFr mTk mVa mEn mKe mCs mAt mHd mWg mNow mImg mAsd mLea mLat mBst mRsk mTap mKys mKat mCod mWts mTes mStk mFct mSor mSiz mCel mHol mHoA mHoB mHoC mMov mTel) sz) (rw_24 E mo mn mi ma ml mt mb mr mp mk mq mc mw mz ms mf mu mv mx mh mA mB mC mM mT mHI mFC mLC mCg mTp mNx mFr mTk mVa mEn mKe mCs mAt mHd mWg u mImg mAsd mLea mLat mBst mRsk mTap mKys mKat mCod mWts mTes mStk mFct mSor mSiz mCel mHol mHoA mHoB mHoC mMov mTel) t) (va_A (rw_24 E mo mn mi ma ml mt mb mr mp mk mq mc mw mz ms mf mu mv mx mh mA mB mC mM mT mHI mFC mLC mCg mTp mNx mFr mTk mVa mEn mKe mCs mAt mHd mWg mNow mImg mAsd mLea mLat mBst mRsk mTap mKys mKat mCod mWts mTes mStk mFct mSor mSiz mCel mHol mHoA mHoB mHoC mMov mTel) sz)) 0 0 (va_A (rw_24 E mo mn mi ma ml mt mb mr mp mk mq mc mw mz ms mf mu mv mx mh mA mB mC mM mT mHI mFC mLC mCg mTp mNx mFr mTk mVa mEn mKe mCs mAt mHd mWg mNow mImg mAsd mLea mLat mBst mRsk mTap mKys mKat mCod mWts mTes mStk mFct mSor mSiz mCel mHol mHoA mHoB mHoC mMov mTel) sz) := by
  refine rc_enterI (cc := cX7_set) (maxL := 4) (by decide) rfl (Nat.le_of_ble_eq_true rfl) ?_
  intro p e s m args below meth c QQ A hx hb hml hown hts hmn hE hP hD hA hret ls hl
  have hown : s.vm.findClass RX7 = some m.cls := hown
  have hK := hE.1
  have hS : va_S A s.heap s.heap [] := va_S.rf
  have hl : lv_has ls 4 [(0, .ref mo), (1, .int p1), (2, .int p2), (3, .int p3)] := hl
  have k_89 := hts (.constant RX7 89 (-1000000001)) (List.mem_of_getElem? (i := 1) rfl)
  have J30 : ∀ (y0 : Int32) (y1 : Int32) (y2 : Int32) (mNow : Nat → Int32), jp_X7_set_30 p1 p2 p3 Q y0 y1 y2 mNow → ∀ (H : Heap) (locs : List Loc), va_P E.1 vwCl (rw_24 E mo mn mi ma ml mt mb mr mp mk mq mc mw mz ms mf mu mv mx mh mA mB mC mM mT mHI mFC mLC mCg mTp mNx mFr mTk mVa mEn mKe mCs mAt mHd mWg mNow mImg mAsd mLea mLat mBst mRsk mTap mKys mKat mCod mWts mTes mStk mFct mSor mSiz mCel mHol mHoA mHoB mHoC mMov mTel) H → va_D A (rw_24 E mo mn mi ma ml mt mb mr mp mk mq mc mw mz ms mf mu mv mx mh mA mB mC mM mT mHI mFC mLC mCg mTp mNx mFr mTk mVa mEn mKe mCs mAt mHd mWg mNow mImg mAsd mLea mLat mBst mRsk mTap mKys mKat mCod mWts mTes mStk mFct mSor mSiz mCel mHol mHoA mHoB mHoC mMov mTel) → va_S A s.heap H locs → ∀ ls : Array Slot, lv_has ls 4 [(0, .ref mo), (1, .int p1), (2, .int p2), (3, .int p3)] → W p l e ({ frames := 2, cells := 0, slots := 0, locals := 43 } : Room) s m args below meth c H locs 0 0 QQ (F0 m 30 ls [.int y0, .int y1, .int y2]) := by
    intro y0 y1 y2 mNow h H locs hP hD hS ls hl
    unfold jp_X7_set_30 at h
    have hPc := hP.sub (ws' := []) [] rfl
    have hDc := hD.sub (ws' := []) [] (by decide) rfl
    have hFc := va_free (wc := []) hD hS hA [] rfl
    refine va_calli (va_runS (As := [.int y2, .int y1, .int y0]) (rest := []) ⟨hx, hb, hml, hown, hts⟩ (c_X7_in l E H.size y2 y1 y0 _ h) (va_cwS 3 hts gX7_set_X7_in rfl rfl rfl (by decide +kernel) ⟨Nat.le_of_ble_eq_true rfl, Nat.le_of_ble_eq_true rfl⟩) ⟨fun a U g mk q => ⟨q.1, q.2.blind⟩, fun U hU hW => ⟨rfl, by rw [hU], by rw [hU]; exact hPc, hE.call hS hFc hW hU, hDc.weaken (fun _ _ _ _ => trivial)⟩⟩ rfl rfl hl.1 rfl (lv_room (Nat.le_of_ble_eq_true rfl)) dX7_set_30 ⟨Nat.zero_le _, Nat.zero_le _⟩) hS (fun q _ h => hFc q h) hFc (fun r_1 u t H1 locs ht hvm h hB hz1 hk1 hS => ?_)
    obtain ⟨hP1, hD1⟩ := hB
    rw [ht] at hP1
    obtain ⟨hP, hD⟩ := rc_foc hP hD [] [none, none, none, none, none, none, none, none, none, none, none, none, none, none, none, none, none, none, none, none, none, none, none, none, none] (by decide) rfl hk1 hP1 rfl
    generalize H1 = H at hP hS ⊢
    have hP : va_P E.1 vwCl (rw_24 E mo mn mi ma ml mt mb mr mp mk mq mc mw mz ms mf mu mv mx mh mA mB mC mM mT mHI mFC mLC mCg mTp mNx mFr mTk mVa mEn mKe mCs mAt mHd mWg mNow mImg mAsd mLea mLat mBst mRsk mTap mKys mKat mCod mWts mTes mStk mFct mSor mSiz mCel mHol mHoA mHoB mHoC mMov mTel) H := hP
    have hD : va_D A (rw_24 E mo mn mi ma ml mt mb mr mp mk mq mc mw mz ms mf mu mv mx mh mA mB mC mM mT mHI mFC mLC mCg mTp mNx mFr mTk mVa mEn mKe mCs mAt mHd mWg mNow mImg mAsd mLea mLat mBst mRsk mTap mKys mKat mCod mWts mTes mStk mFct mSor mSiz mCel mHol mHoA mHoB mHoC mMov mTel) := hD
    refine lv_if_eq (tgt := 52) hx hb dX7_set_33 (by decide) (fun c_2 => ?_) (fun c_2 => ?_)
    · have h := h.1 c_2
      refine lv_ldc hx hb hown k_89 dX7_set_52 ?_
      exact hret _ _ _ _ (-1000000001) (mNow) rfl h hP hD hS dX7_set_54
    · have h := h.2 c_2
      refine lv_aload_n hx hb dX7_set_36 rfl (lv_at hl 0 rfl) ?_
      refine lv_bipush (v := 9) hx hb dX7_set_37 (by decide) ?_
      refine lv_iconst (v := 3) hx hb dX7_set_39 (by decide) ?_
      refine lv_iload_n hx hb dX7_set_40 rfl (lv_at hl 1 rfl) ?_
      refine lv_imul hx hb dX7_set_41 ?_
      refine lv_iadd hx hb dX7_set_42 ?_
      refine lv_iload_n hx hb dX7_set_43 rfl (lv_at hl 2 rfl) ?_
      refine lv_iadd hx hb dX7_set_44 ?_
      refine lv_iload_n hx hb dX7_set_45 rfl (lv_at hl 3 rfl) ?_
      have hPc := hP
      have hDc := hD
      have hFc := rc_freeI hD hS hA
      refine va_calli (va_runV (As := [.int ((9 + (3 * p1)) + p2), .int p3]) (rest := []) ⟨hx, hb, hml, hown, hts⟩ (c_X7_becomes l E mo mn mi ma ml mt mb mr mp mk mq mc mw mz ms mf mu mv mx mh mA mB mC mM mT H.size mHI mFC mLC mCg mTp mNx mFr mTk mVa mEn mKe mCs mAt mHd mWg mNow mImg mAsd mLea mLat mBst mRsk mTap mKys mKat mCod mWts mTes mStk mFct mSor mSiz mCel mHol mHoA mHoB mHoC mMov mTel ((9 + (3 * p1)) + p2) p3 _ h) (cwV 2 hts gX7_set_X7_becomes rfl rfl rfl (by decide +kernel) ⟨Nat.le_of_ble_eq_true rfl, Nat.le_of_ble_eq_true rfl⟩) ⟨fun a U g mk q => ⟨q.1, q.2.blind⟩, va_recv hK hPc (ci := 7) (q0 := 0) rfl rfl, fun U hU hW => ⟨rfl, by rw [hU], by rw [hU]; exact hPc, hE.call hS hFc hW hU, hDc.weaken (fun _ _ _ _ => trivial)⟩⟩ rfl rfl hl.1 rfl (lv_room (Nat.le_of_ble_eq_true rfl)) dX7_set_46 ⟨Nat.zero_le _, Nat.zero_le _⟩) hS (fun q _ h => hFc q h) hFc (fun r_3 u t H1 locs ht hvm h hB hz1 hk1 hS => ?_)
      obtain ⟨w_4, rfl⟩ : ∃ z, z = u := ⟨_, rfl⟩
      obtain ⟨hP1, hD1⟩ := hB
      rw [ht] at hP1
      have hP := hP1
      have hD := hD1.weaken (fun _ _ _ h => hFc _ h)
      generalize H1 = H at hP hS ⊢
      have hP : va_P E.1 vwCl (rw_24 E mo mn mi ma ml mt mb mr mp mk mq mc mw mz ms mf mu mv mx mh mA mB mC mM mT mHI mFC mLC mCg mTp mNx mFr mTk mVa mEn mKe mCs mAt mHd mWg w_4 mImg mAsd mLea mLat mBst mRsk mTap mKys mKat mCod mWts mTes mStk mFct mSor mSiz mCel mHol mHoA mHoB mHoC mMov mTel) H := hP
      have hD : va_D A (rw_24 E mo mn mi ma ml mt mb mr mp mk mq mc mw mz ms mf mu mv mx mh mA mB mC mM mT mHI mFC mLC mCg mTp mNx mFr mTk mVa mEn mKe mCs mAt mHd mWg w_4 mImg mAsd mLea mLat mBst mRsk mTap mKys mKat mCod mWts mTes mStk mFct mSor mSiz mCel mHol mHoA mHoB mHoC mMov mTel) := hD
      refine lv_goto (tgt := 54) hx hb dX7_set_49 (by decide) ?_
      exact hret _ _ _ _ r_3 (w_4) rfl h hP hD hS dX7_set_54
  unfold wp_X7_set at h
  obtain ⟨H, hH⟩ : ∃ H, H = s.heap := ⟨_, rfl⟩
  obtain ⟨locs, hlocs⟩ : ∃ locs : List Loc, locs = [] := ⟨_, rfl⟩
  have hP : va_P E.1 vwCl (rw_24 E mo mn mi ma ml mt mb mr mp mk mq mc mw mz ms mf mu mv mx mh mA mB mC mM mT mHI mFC mLC mCg mTp mNx mFr mTk mVa mEn mKe mCs mAt mHd mWg mNow mImg mAsd mLea mLat mBst mRsk mTap mKys mKat mCod mWts mTes mStk mFct mSor mSiz mCel mHol mHoA mHoB mHoC mMov mTel) H := by rw [hH]; exact hP
  have hS : va_S A s.heap H locs := by rw [hH, hlocs]; exact hS
  suffices hgo : W p l e ({ frames := 2, cells := 0, slots := 0, locals := 43 } : Room) s m args below meth c H locs 0 0 QQ (F0 m 0 ls []) from by rw [hH, hlocs] at hgo; exact hgo
  refine lv_aload_n hx hb dX7_set_0 rfl (lv_at hl 0 rfl) ?_
  refine lv_iload_n hx hb dX7_set_1 rfl (lv_at hl 1 rfl) ?_
  have hPc := hP
  have hDc := hD
  have hFc := rc_freeI hD hS hA
  refine va_calli (va_runV (As := [.int p1]) (rest := []) ⟨hx, hb, hml, hown, hts⟩ (c_X7_isPlace l E mo mn mi ma ml mt mb mr mp mk mq mc mw mz ms mf mu mv mx mh mA mB mC mM mT H.size mHI mFC mLC mCg mTp mNx mFr mTk mVa mEn mKe mCs mAt mHd mWg mNow mImg mAsd mLea mLat mBst mRsk mTap mKys mKat mCod mWts mTes mStk mFct mSor mSiz mCel mHol mHoA mHoB mHoC mMov mTel p1 _ h) (cwV 1 hts gX7_set_X7_isPlace rfl rfl rfl (by decide +kernel) ⟨Nat.le_of_ble_eq_true rfl, Nat.le_of_ble_eq_true rfl⟩) ⟨fun a U g mk q => ⟨q.1, q.2.blind⟩, va_recv hK hPc (ci := 7) (q0 := 0) rfl rfl, fun U hU hW => ⟨rfl, by rw [hU], by rw [hU]; exact hPc, hE.call hS hFc hW hU, hDc.weaken (fun _ _ _ _ => trivial)⟩⟩ rfl rfl hl.1 rfl (lv_room (Nat.le_of_ble_eq_true rfl)) dX7_set_2 ⟨Nat.zero_le _, Nat.zero_le _⟩) hS (fun q _ h => hFc q h) hFc (fun r_5 u t H1 locs ht hvm h hB hz1 hk1 hS => ?_)
  obtain ⟨hP1, hD1⟩ := hB
  rw [ht] at hP1
  have hP := hP1
  have hD := hD1.weaken (fun _ _ _ h => hFc _ h)
  generalize H1 = H at hP hS ⊢
  have hP : va_P E.1 vwCl (rw_24 E mo mn mi ma ml mt mb mr mp mk mq mc mw mz ms mf mu mv mx mh mA mB mC mM mT mHI mFC mLC mCg mTp mNx mFr mTk mVa mEn mKe mCs mAt mHd mWg mNow mImg mAsd mLea mLat mBst mRsk mTap mKys mKat mCod mWts mTes mStk mFct mSor mSiz mCel mHol mHoA mHoB mHoC mMov mTel) H := hP
  have hD : va_D A (rw_24 E mo mn mi ma ml mt mb mr mp mk mq mc mw mz ms mf mu mv mx mh mA mB mC mM mT mHI mFC mLC mCg mTp mNx mFr mTk mVa mEn mKe mCs mAt mHd mWg mNow mImg mAsd mLea mLat mBst mRsk mTap mKys mKat mCod mWts mTes mStk mFct mSor mSiz mCel mHol mHoA mHoB mHoC mMov mTel) := hD
  refine lv_if_eq (tgt := 52) hx hb dX7_set_5 (by decide) (fun c_6 => ?_) (fun c_6 => ?_)
  · have h := h.1 c_6
    refine lv_ldc hx hb hown k_89 dX7_set_52 ?_
    exact hret _ _ _ _ (-1000000001) (mNow) rfl h hP hD hS dX7_set_54
  · have h := h.2 c_6
    refine lv_iload_n hx hb dX7_set_8 rfl (lv_at hl 2 rfl) ?_
    refine lv_iconst (v := 1) hx hb dX7_set_9 (by decide) ?_
    refine lv_iconst (v := 2) hx hb dX7_set_10 (by decide) ?_
    have hPc := hP.sub (ws' := []) [] rfl
    have hDc := hD.sub (ws' := []) [] (by decide) rfl
    have hFc := va_free (wc := []) hD hS hA [] rfl
    refine va_calli (va_runS (As := [.int p2, .int 1, .int 2]) (rest := []) ⟨hx, hb, hml, hown, hts⟩ (c_X7_in l E H.size p2 1 2 _ h) (va_cwS 3 hts gX7_set_X7_in rfl rfl rfl (by decide +kernel) ⟨Nat.le_of_ble_eq_true rfl, Nat.le_of_ble_eq_true rfl⟩) ⟨fun a U g mk q => ⟨q.1, q.2.blind⟩, fun U hU hW => ⟨rfl, by rw [hU], by rw [hU]; exact hPc, hE.call hS hFc hW hU, hDc.weaken (fun _ _ _ _ => trivial)⟩⟩ rfl rfl hl.1 rfl (lv_room (Nat.le_of_ble_eq_true rfl)) dX7_set_11 ⟨Nat.zero_le _, Nat.zero_le _⟩) hS (fun q _ h => hFc q h) hFc (fun r_7 u t H1 locs ht hvm h hB hz1 hk1 hS => ?_)
    obtain ⟨hP1, hD1⟩ := hB
    rw [ht] at hP1
    obtain ⟨hP, hD⟩ := rc_foc hP hD [] [none, none, none, none, none, none, none, none, none, none, none, none, none, none, none, none, none, none, none, none, none, none, none, none, none] (by decide) rfl hk1 hP1 rfl
    generalize H1 = H at hP hS ⊢
    have hP : va_P E.1 vwCl (rw_24 E mo mn mi ma ml mt mb mr mp mk mq mc mw mz ms mf mu mv mx mh mA mB mC mM mT mHI mFC mLC mCg mTp mNx mFr mTk mVa mEn mKe mCs mAt mHd mWg mNow mImg mAsd mLea mLat mBst mRsk mTap mKys mKat mCod mWts mTes mStk mFct mSor mSiz mCel mHol mHoA mHoB mHoC mMov mTel) H := hP
    have hD : va_D A (rw_24 E mo mn mi ma ml mt mb mr mp mk mq mc mw mz ms mf mu mv mx mh mA mB mC mM mT mHI mFC mLC mCg mTp mNx mFr mTk mVa mEn mKe mCs mAt mHd mWg mNow mImg mAsd mLea mLat mBst mRsk mTap mKys mKat mCod mWts mTes mStk mFct mSor mSiz mCel mHol mHoA mHoB mHoC mMov mTel) := hD
    refine lv_if_eq (tgt := 52) hx hb dX7_set_14 (by decide) (fun c_8 => ?_) (fun c_8 => ?_)
    · have h := h.1 c_8
      refine lv_ldc hx hb hown k_89 dX7_set_52 ?_
      exact hret _ _ _ _ (-1000000001) (mNow) rfl h hP hD hS dX7_set_54
    · have h := h.2 c_8
      refine lv_iload_n hx hb dX7_set_17 rfl (lv_at hl 3 rfl) ?_
      refine lv_iconst (v := 0) hx hb dX7_set_18 (by decide) ?_
      refine lv_iload_n hx hb dX7_set_19 rfl (lv_at hl 2 rfl) ?_
      refine lv_iconst (v := 1) hx hb dX7_set_20 (by decide) ?_
      refine lv_icmp_ne (tgt := 29) hx hb dX7_set_21 (by decide) (fun c_9 => ?_) (fun c_9 => ?_)
      · have h := h.1 c_9
        refine lv_iconst (v := 1) hx hb dX7_set_29 (by decide) ?_
        exact J30 1 0 p3 mNow h _ _ hP hD hS ls (lv_sub hl [0, 1, 2, 3] rfl)
      · have h := h.2 c_9
        refine lv_bipush (v := 99) hx hb dX7_set_24 (by decide) ?_
        refine lv_goto (tgt := 30) hx hb dX7_set_26 (by decide) ?_
        exact J30 99 0 p3 mNow h _ _ hP hD hS ls (lv_sub hl [0, 1, 2, 3] rfl)
def wp_X7_draw (mNow : Nat → Int32) (Q : Int32 → (Nat → Int32) → Prop) : Prop :=
  Q (rc_ushr ((upd mNow 0 (((mNow 0) * 1103515245) + 12345)) 0) 8) (upd mNow 0 (((mNow 0) * 1103515245) + 12345))
set_option maxHeartbeats 4000000 in
set_option maxRecDepth 100000 in
theorem c_X7_draw (l : Launch) (E : gE) (mo mn mi ma ml mt mb mr mp mk mq mc mw mz ms mf mu mv mx mh mA mB mC mM mT : Nat) (sz : Nat) (mHI : Int32) (mFC : Int32) (mLC : Int32) (mCg : Int32) (mTp : Int32) (mNx : Int32) (mFr : Int32) (mTk : Int32) (mVa : Int32) (mEn : Int32) (mKe : Int32) (mCs : Int32) (mAt : Int32) (mHd : Int32) (mWg : Int32) (mNow : Nat → Int32) (mImg : Nat → Int32) (mAsd : Nat → Int32) (mLea : Nat → Int32) (mLat : Nat → Int32) (mBst : Nat → Int32) (mRsk : Nat → Int32) (mTap : Nat → Int32) (mKys : Nat → Int32) (mKat : Nat → Int32) (mCod : Nat → Int32) (mWts : Nat → Int32) (mTes : Nat → Int32) (mStk : Nat → Int32) (mFct : Nat → Int32) (mSor : Nat → Int32) (mSiz : Nat → Int32) (mCel : Nat → Int32) (mHol : Nat → Int32) (mHoA : Nat → Int32) (mHoB : Nat → Int32) (mHoC : Nat → Int32) (mMov : Nat → Int32) (mTel : Nat → Int32)   (Q : Int32 → (Nat → Int32) → Prop) (h : wp_X7_draw mNow Q) : Met l yX7_draw wsX7_draw ({ frames := 0, cells := 0, slots := 0, locals := 0 } : Room) (va_Pc [.ref mo] (rc_B E (rw_24 E mo mn mi ma ml mt mb mr mp mk mq mc mw mz ms mf mu mv mx mh mA mB mC mM mT mHI mFC mLC mCg mTp mNx mFr mTk mVa mEn mKe mCs mAt mHd mWg mNow mImg mAsd mLea mLat mBst mRsk mTap mKys mKat mCod mWts mTes mStk mFct mSor mSiz mCel mHol mHoA mHoB mHoC mMov mTel) sz)) (va_Qi (S := (Nat → Int32)) (fun (r : Int32) (u : (Nat → Int32)) => Q r u) (fun u t => rc_C E (va_A (rw_24 E mo mn mi ma ml mt mb mr mp mk mq mc mw mz ms mf mu mv mx mh mA mB mC mM mT mHI mFC mLC mCg mTp mNx mFr mTk mVa mEn mKe mCs mAt mHd mWg mNow mImg mAsd mLea mLat mBst mRsk mTap mKys mKat mCod mWts mTes mStk mFct mSor mSiz mCel mHol mHoA mHoB mHoC mMov mTel) sz) (rw_24 E mo mn mi ma ml mt mb mr mp mk mq mc mw mz ms mf mu mv mx mh mA mB mC mM mT mHI mFC mLC mCg mTp mNx mFr mTk mVa mEn mKe mCs mAt mHd mWg u mImg mAsd mLea mLat mBst mRsk mTap mKys mKat mCod mWts mTes mStk mFct mSor mSiz mCel mHol mHoA mHoB mHoC mMov mTel) t) (va_A (rw_24 E mo mn mi ma ml mt mb mr mp mk mq mc mw mz ms mf mu mv mx mh mA mB mC mM mT mHI mFC mLC mCg mTp mNx mFr mTk mVa mEn mKe mCs mAt mHd mWg mNow mImg mAsd mLea mLat mBst mRsk mTap mKys mKat mCod mWts mTes mStk mFct mSor mSiz mCel mHol mHoA mHoB mHoC mMov mTel) sz)) 0 0 (va_A (rw_24 E mo mn mi ma ml mt mb mr mp mk mq mc mw mz ms mf mu mv mx mh mA mB mC mM mT mHI mFC mLC mCg mTp mNx mFr mTk mVa mEn mKe mCs mAt mHd mWg mNow mImg mAsd mLea mLat mBst mRsk mTap mKys mKat mCod mWts mTes mStk mFct mSor mSiz mCel mHol mHoA mHoB mHoC mMov mTel) sz) := by
  refine rc_enterI (cc := cX7_draw) (maxL := 1) (by decide) rfl (Nat.le_of_ble_eq_true rfl) ?_
  intro p e s m args below meth c QQ A hx hb hml hown hts hmn hE hP hD hA hret ls hl
  have hown : s.vm.findClass RX7 = some m.cls := hown
  have hK := hE.1
  have hS : va_S A s.heap s.heap [] := va_S.rf
  have hl : lv_has ls 1 [(0, .ref mo)] := hl
  have n_X7 : ∀ w ∈ wsX70, w ∈ wsX7_draw := fun _ h => List.mem_cons_of_mem _ (List.mem_append_right _ h)
  have k_9 := hts (.fieldLink RX7 9 "RidgeClapsModel" "now" "[I") (List.mem_of_getElem? (i := 1) rfl)
  have k_127 := hts (.constant RX7 127 (1103515245)) (List.mem_of_getElem? (i := 2) rfl)
  unfold wp_X7_draw at h
  obtain ⟨H, hH⟩ : ∃ H, H = s.heap := ⟨_, rfl⟩
  obtain ⟨locs, hlocs⟩ : ∃ locs : List Loc, locs = [] := ⟨_, rfl⟩
  have hP : va_P E.1 vwCl (rw_24 E mo mn mi ma ml mt mb mr mp mk mq mc mw mz ms mf mu mv mx mh mA mB mC mM mT mHI mFC mLC mCg mTp mNx mFr mTk mVa mEn mKe mCs mAt mHd mWg mNow mImg mAsd mLea mLat mBst mRsk mTap mKys mKat mCod mWts mTes mStk mFct mSor mSiz mCel mHol mHoA mHoB mHoC mMov mTel) H := by rw [hH]; exact hP
  have hS : va_S A s.heap H locs := by rw [hH, hlocs]; exact hS
  suffices hgo : W p l e ({ frames := 0, cells := 0, slots := 0, locals := 0 } : Room) s m args below meth c H locs 0 0 QQ (F0 m 0 ls []) from by rw [hH, hlocs] at hgo; exact hgo
  refine lv_aload_n hx hb dX7_draw_0 rfl (lv_at hl 0 rfl) ?_
  refine va_get (D := E.1) (ci := 7) (v := .ref mn) (C := RX7) (T := TX7) (N := 39) hx hb hts n_X7 hown hK hP 0 rfl rfl 0 (by decide) k_9 (fun _ h9 => h9) rfl dX7_draw_1 ?_
  refine lv_iconst (v := 0) hx hb dX7_draw_4 (by decide) ?_
  refine lv_aload_n hx hb dX7_draw_5 rfl (lv_at hl 0 rfl) ?_
  refine va_get (D := E.1) (ci := 7) (v := .ref mn) (C := RX7) (T := TX7) (N := 39) hx hb hts n_X7 hown hK hP 0 rfl rfl 0 (by decide) k_9 (fun _ h9 => h9) rfl dX7_draw_6 ?_
  refine lv_iconst (v := 0) hx hb dX7_draw_9 (by decide) ?_
  refine rc_iald hx hb hK hP 1 0 rfl rfl 0 (by decide) (by unfold vp_in; decide) dX7_draw_10 ?_
  refine lv_ldc hx hb hown k_127 dX7_draw_11 ?_
  refine lv_imul hx hb dX7_draw_13 ?_
  refine lv_sipush (v := 12345) hx hb dX7_draw_14 (by decide) ?_
  refine lv_iadd hx hb dX7_draw_17 ?_
  refine rc_iast hx hb hK hP hD hS 1 0 rfl rfl 0 (by decide) (by unfold vp_in; decide) dX7_draw_18 (fun H locs hP hD hS => ?_)
  have hP : va_P E.1 vwCl (rw_24 E mo mn mi ma ml mt mb mr mp mk mq mc mw mz ms mf mu mv mx mh mA mB mC mM mT mHI mFC mLC mCg mTp mNx mFr mTk mVa mEn mKe mCs mAt mHd mWg (upd mNow 0 (((mNow 0) * 1103515245) + 12345)) mImg mAsd mLea mLat mBst mRsk mTap mKys mKat mCod mWts mTes mStk mFct mSor mSiz mCel mHol mHoA mHoB mHoC mMov mTel) H := hP
  have hD : va_D A (rw_24 E mo mn mi ma ml mt mb mr mp mk mq mc mw mz ms mf mu mv mx mh mA mB mC mM mT mHI mFC mLC mCg mTp mNx mFr mTk mVa mEn mKe mCs mAt mHd mWg (upd mNow 0 (((mNow 0) * 1103515245) + 12345)) mImg mAsd mLea mLat mBst mRsk mTap mKys mKat mCod mWts mTes mStk mFct mSor mSiz mCel mHol mHoA mHoB mHoC mMov mTel) := hD
  refine lv_aload_n hx hb dX7_draw_19 rfl (lv_at hl 0 rfl) ?_
  refine va_get (D := E.1) (ci := 7) (v := .ref mn) (C := RX7) (T := TX7) (N := 39) hx hb hts n_X7 hown hK hP 0 rfl rfl 0 (by decide) k_9 (fun _ h9 => h9) rfl dX7_draw_20 ?_
  refine lv_iconst (v := 0) hx hb dX7_draw_23 (by decide) ?_
  refine rc_iald hx hb hK hP 1 0 rfl rfl 0 (by decide) (by unfold vp_in; decide) dX7_draw_24 ?_
  refine lv_bipush (v := 8) hx hb dX7_draw_25 (by decide) ?_
  refine lv_iushr (v := rc_ushr ((upd mNow 0 (((mNow 0) * 1103515245) + 12345)) 0) 8) hx hb dX7_draw_27 rfl ?_
  exact hret _ _ _ _ (rc_ushr ((upd mNow 0 (((mNow 0) * 1103515245) + 12345)) 0) 8) (upd mNow 0 (((mNow 0) * 1103515245) + 12345)) rfl h hP hD hS dX7_draw_28
def lp_X7_deal_15F (p1 : Int32)  (Q : Int32 → (Nat → Int32) → Prop) (R : Int32 → (Nat → Int32) → Prop) (x2 : Int32) (mNow : Nat → Int32) : Prop :=
  ((p1 ≤ x2 → Q x2 mNow) ∧ (¬ (p1 ≤ x2) → ((24 ≤ (mNow 1) → Q x2 mNow) ∧ (¬ (24 ≤ (mNow 1)) → wp_X7_draw mNow (fun (r_3 : Int32) (w_4 : Nat → Int32) => wp_X7_draw w_4 (fun (r_5 : Int32) (w_6 : Nat → Int32) => wp_X7_draw w_6 (fun (r_7 : Int32) (w_8 : Nat → Int32) => ((¬ (rc_rem r_7 4) = 0 → wp_X7_comes (rc_rem r_3 5) (rc_rem r_5 100) 0 w_8 (fun (r_10 : Int32) (w_11 : Nat → Int32) => R (x2 + 1) w_11)) ∧ ((rc_rem r_7 4) = 0 → wp_X7_comes (rc_rem r_3 5) (rc_rem r_5 100) 1 w_8 (fun (r_12 : Int32) (w_13 : Nat → Int32) => R (x2 + 1) w_13))))))))))
def lp_X7_deal_15 (p1 : Int32)  (Q : Int32 → (Nat → Int32) → Prop) (n : Nat) : Int32 → (Nat → Int32) → Prop :=
  Nat.rec (motive := fun _ => Int32 → (Nat → Int32) → Prop) (fun _ _ => False) (fun _ r => lp_X7_deal_15F p1 Q r) n
def wp_X7_deal (p1 : Int32) (mNow : Nat → Int32) (Q : Int32 → (Nat → Int32) → Prop) : Prop :=
  wp_X7_in p1 1 24 (fun (r_14 : Int32) => ((¬ r_14 = 0 → (∃ n : Nat, lp_X7_deal_15 p1 Q n 0 mNow)) ∧ (r_14 = 0 → Q (-1000000001) mNow)))
set_option maxHeartbeats 4000000 in
set_option maxRecDepth 100000 in
theorem c_X7_deal (l : Launch) (E : gE) (mo mn mi ma ml mt mb mr mp mk mq mc mw mz ms mf mu mv mx mh mA mB mC mM mT : Nat) (sz : Nat) (mHI : Int32) (mFC : Int32) (mLC : Int32) (mCg : Int32) (mTp : Int32) (mNx : Int32) (mFr : Int32) (mTk : Int32) (mVa : Int32) (mEn : Int32) (mKe : Int32) (mCs : Int32) (mAt : Int32) (mHd : Int32) (mWg : Int32) (mNow : Nat → Int32) (mImg : Nat → Int32) (mAsd : Nat → Int32) (mLea : Nat → Int32) (mLat : Nat → Int32) (mBst : Nat → Int32) (mRsk : Nat → Int32) (mTap : Nat → Int32) (mKys : Nat → Int32) (mKat : Nat → Int32) (mCod : Nat → Int32) (mWts : Nat → Int32) (mTes : Nat → Int32) (mStk : Nat → Int32) (mFct : Nat → Int32) (mSor : Nat → Int32) (mSiz : Nat → Int32) (mCel : Nat → Int32) (mHol : Nat → Int32) (mHoA : Nat → Int32) (mHoB : Nat → Int32) (mHoC : Nat → Int32) (mMov : Nat → Int32) (mTel : Nat → Int32) (p1 : Int32)  (Q : Int32 → (Nat → Int32) → Prop) (h : wp_X7_deal p1 mNow Q) : Met l yX7_deal wsX7_deal ({ frames := 1, cells := 0, slots := 0, locals := 24 } : Room) (va_Pc [.ref mo, .int p1] (rc_B E (rw_24 E mo mn mi ma ml mt mb mr mp mk mq mc mw mz ms mf mu mv mx mh mA mB mC mM mT mHI mFC mLC mCg mTp mNx mFr mTk mVa mEn mKe mCs mAt mHd mWg mNow mImg mAsd mLea mLat mBst mRsk mTap mKys mKat mCod mWts mTes mStk mFct mSor mSiz mCel mHol mHoA mHoB mHoC mMov mTel) sz)) (va_Qi (S := (Nat → Int32)) (fun (r : Int32) (u : (Nat → Int32)) => Q r u) (fun u t => rc_C E (va_A (rw_24 E mo mn mi ma ml mt mb mr mp mk mq mc mw mz ms mf mu mv mx mh mA mB mC mM mT mHI mFC mLC mCg mTp mNx mFr mTk mVa mEn mKe mCs mAt mHd mWg mNow mImg mAsd mLea mLat mBst mRsk mTap mKys mKat mCod mWts mTes mStk mFct mSor mSiz mCel mHol mHoA mHoB mHoC mMov mTel) sz) (rw_24 E mo mn mi ma ml mt mb mr mp mk mq mc mw mz ms mf mu mv mx mh mA mB mC mM mT mHI mFC mLC mCg mTp mNx mFr mTk mVa mEn mKe mCs mAt mHd mWg u mImg mAsd mLea mLat mBst mRsk mTap mKys mKat mCod mWts mTes mStk mFct mSor mSiz mCel mHol mHoA mHoB mHoC mMov mTel) t) (va_A (rw_24 E mo mn mi ma ml mt mb mr mp mk mq mc mw mz ms mf mu mv mx mh mA mB mC mM mT mHI mFC mLC mCg mTp mNx mFr mTk mVa mEn mKe mCs mAt mHd mWg mNow mImg mAsd mLea mLat mBst mRsk mTap mKys mKat mCod mWts mTes mStk mFct mSor mSiz mCel mHol mHoA mHoB mHoC mMov mTel) sz)) 0 0 (va_A (rw_24 E mo mn mi ma ml mt mb mr mp mk mq mc mw mz ms mf mu mv mx mh mA mB mC mM mT mHI mFC mLC mCg mTp mNx mFr mTk mVa mEn mKe mCs mAt mHd mWg mNow mImg mAsd mLea mLat mBst mRsk mTap mKys mKat mCod mWts mTes mStk mFct mSor mSiz mCel mHol mHoA mHoB mHoC mMov mTel) sz) := by
  refine rc_enterI (cc := cX7_deal) (maxL := 6) (by decide) rfl (Nat.le_of_ble_eq_true rfl) ?_
  intro p e s m args below meth c QQ A hx hb hml hown hts hmn hE hP hD hA hret ls hl
  have hown : s.vm.findClass RX7 = some m.cls := hown
  have hK := hE.1
  have hS : va_S A s.heap s.heap [] := va_S.rf
  have hl : lv_has ls 6 [(0, .ref mo), (1, .int p1)] := hl
  have n_X7 : ∀ w ∈ wsX70, w ∈ wsX7_deal := fun _ h => List.mem_cons_of_mem _ (List.mem_append_right _ h)
  have k_9 := hts (.fieldLink RX7 9 "RidgeClapsModel" "now" "[I") (List.mem_of_getElem? (i := 2) rfl)
  have k_89 := hts (.constant RX7 89 (-1000000001)) (List.mem_of_getElem? (i := 1) rfl)
  have J15 : ∀ (n : Nat) (x2 : Int32) (mNow : Nat → Int32), lp_X7_deal_15 p1 Q n x2 mNow → ∀ (H : Heap) (locs : List Loc), va_P E.1 vwCl (rw_24 E mo mn mi ma ml mt mb mr mp mk mq mc mw mz ms mf mu mv mx mh mA mB mC mM mT mHI mFC mLC mCg mTp mNx mFr mTk mVa mEn mKe mCs mAt mHd mWg mNow mImg mAsd mLea mLat mBst mRsk mTap mKys mKat mCod mWts mTes mStk mFct mSor mSiz mCel mHol mHoA mHoB mHoC mMov mTel) H → va_D A (rw_24 E mo mn mi ma ml mt mb mr mp mk mq mc mw mz ms mf mu mv mx mh mA mB mC mM mT mHI mFC mLC mCg mTp mNx mFr mTk mVa mEn mKe mCs mAt mHd mWg mNow mImg mAsd mLea mLat mBst mRsk mTap mKys mKat mCod mWts mTes mStk mFct mSor mSiz mCel mHol mHoA mHoB mHoC mMov mTel) → va_S A s.heap H locs → ∀ ls : Array Slot, lv_has ls 6 [(0, .ref mo), (1, .int p1), (2, .int x2)] → W p l e ({ frames := 1, cells := 0, slots := 0, locals := 24 } : Room) s m args below meth c H locs 0 0 QQ (F0 m 15 ls []) := by
    intro n
    induction n with
    | zero =>
      intro x2 mNow h
      exact False.elim h
    | succ n ih =>
      intro x2 mNow h H locs hP hD hS ls hl
      have h : lp_X7_deal_15F p1 Q (lp_X7_deal_15 p1 Q n) x2 mNow := h
      unfold lp_X7_deal_15F at h
      refine lv_iload_n hx hb dX7_deal_15 rfl (lv_at hl 2 rfl) ?_
      refine lv_iload_n hx hb dX7_deal_16 rfl (lv_at hl 1 rfl) ?_
      refine lv_icmp_ge (tgt := 76) hx hb dX7_deal_17 (by decide) (fun c_1 => ?_) (fun c_1 => ?_)
      · have h := h.1 c_1
        refine lv_iload_n hx hb dX7_deal_76 rfl (lv_at hl 2 rfl) ?_
        exact hret _ _ _ _ x2 (mNow) rfl h hP hD hS dX7_deal_77
      · have h := h.2 c_1
        refine lv_aload_n hx hb dX7_deal_20 rfl (lv_at hl 0 rfl) ?_
        refine va_get (D := E.1) (ci := 7) (v := .ref mn) (C := RX7) (T := TX7) (N := 39) hx hb hts n_X7 hown hK hP 0 rfl rfl 0 (by decide) k_9 (fun _ h9 => h9) rfl dX7_deal_21 ?_
        refine lv_iconst (v := 1) hx hb dX7_deal_24 (by decide) ?_
        refine rc_iald hx hb hK hP 1 0 rfl rfl 1 (by decide) (by unfold vp_in; decide) dX7_deal_25 ?_
        refine lv_bipush (v := 24) hx hb dX7_deal_26 (by decide) ?_
        refine lv_icmp_ge (tgt := 76) hx hb dX7_deal_28 (by decide) (fun c_2 => ?_) (fun c_2 => ?_)
        · have h := h.1 c_2
          refine lv_iload_n hx hb dX7_deal_76 rfl (lv_at hl 2 rfl) ?_
          exact hret _ _ _ _ x2 (mNow) rfl h hP hD hS dX7_deal_77
        · have h := h.2 c_2
          refine lv_aload_n hx hb dX7_deal_31 rfl (lv_at hl 0 rfl) ?_
          have hPc := hP
          have hDc := hD
          have hFc := rc_freeI hD hS hA
          refine va_calli (va_runV (As := []) (rest := []) ⟨hx, hb, hml, hown, hts⟩ (c_X7_draw l E mo mn mi ma ml mt mb mr mp mk mq mc mw mz ms mf mu mv mx mh mA mB mC mM mT H.size mHI mFC mLC mCg mTp mNx mFr mTk mVa mEn mKe mCs mAt mHd mWg mNow mImg mAsd mLea mLat mBst mRsk mTap mKys mKat mCod mWts mTes mStk mFct mSor mSiz mCel mHol mHoA mHoB mHoC mMov mTel _ h) (cwV 0 hts gX7_deal_X7_draw rfl rfl rfl (by decide +kernel) ⟨Nat.le_of_ble_eq_true rfl, Nat.le_of_ble_eq_true rfl⟩) ⟨fun a U g mk q => ⟨q.1, q.2.blind⟩, va_recv hK hPc (ci := 7) (q0 := 0) rfl rfl, fun U hU hW => ⟨rfl, by rw [hU], by rw [hU]; exact hPc, hE.call hS hFc hW hU, hDc.weaken (fun _ _ _ _ => trivial)⟩⟩ rfl rfl hl.1 rfl (lv_room (Nat.le_of_ble_eq_true rfl)) dX7_deal_32 ⟨Nat.zero_le _, Nat.zero_le _⟩) hS (fun q _ h => hFc q h) hFc (fun r_3 u t H1 locs ht hvm h hB hz1 hk1 hS => ?_)
          obtain ⟨w_4, rfl⟩ : ∃ z, z = u := ⟨_, rfl⟩
          obtain ⟨hP1, hD1⟩ := hB
          rw [ht] at hP1
          have hP := hP1
          have hD := hD1.weaken (fun _ _ _ h => hFc _ h)
          generalize H1 = H at hP hS ⊢
          have hP : va_P E.1 vwCl (rw_24 E mo mn mi ma ml mt mb mr mp mk mq mc mw mz ms mf mu mv mx mh mA mB mC mM mT mHI mFC mLC mCg mTp mNx mFr mTk mVa mEn mKe mCs mAt mHd mWg w_4 mImg mAsd mLea mLat mBst mRsk mTap mKys mKat mCod mWts mTes mStk mFct mSor mSiz mCel mHol mHoA mHoB mHoC mMov mTel) H := hP
          have hD : va_D A (rw_24 E mo mn mi ma ml mt mb mr mp mk mq mc mw mz ms mf mu mv mx mh mA mB mC mM mT mHI mFC mLC mCg mTp mNx mFr mTk mVa mEn mKe mCs mAt mHd mWg w_4 mImg mAsd mLea mLat mBst mRsk mTap mKys mKat mCod mWts mTes mStk mFct mSor mSiz mCel mHol mHoA mHoB mHoC mMov mTel) := hD
          refine lv_iconst (v := 5) hx hb dX7_deal_35 (by decide) ?_
          refine lv_irem hx hb dX7_deal_36 (by decide) ?_
          refine W.eq (g2 := F0 m 37 ls [.int (rc_rem r_3 5)]) rfl ?_
          refine lv_istore_n (lv' := [(3, .int (rc_rem r_3 5)), (0, .ref mo), (1, .int p1), (2, .int x2)]) hx hb dX7_deal_37 rfl hl (by decide) rfl (fun ls hl => ?_)
          refine lv_aload_n hx hb dX7_deal_38 rfl (lv_at hl 1 rfl) ?_
          have hPc := hP
          have hDc := hD
          have hFc := rc_freeI hD hS hA
          refine va_calli (va_runV (As := []) (rest := []) ⟨hx, hb, hml, hown, hts⟩ (c_X7_draw l E mo mn mi ma ml mt mb mr mp mk mq mc mw mz ms mf mu mv mx mh mA mB mC mM mT H.size mHI mFC mLC mCg mTp mNx mFr mTk mVa mEn mKe mCs mAt mHd mWg w_4 mImg mAsd mLea mLat mBst mRsk mTap mKys mKat mCod mWts mTes mStk mFct mSor mSiz mCel mHol mHoA mHoB mHoC mMov mTel _ h) (cwV 0 hts gX7_deal_X7_draw rfl rfl rfl (by decide +kernel) ⟨Nat.le_of_ble_eq_true rfl, Nat.le_of_ble_eq_true rfl⟩) ⟨fun a U g mk q => ⟨q.1, q.2.blind⟩, va_recv hK hPc (ci := 7) (q0 := 0) rfl rfl, fun U hU hW => ⟨rfl, by rw [hU], by rw [hU]; exact hPc, hE.call hS hFc hW hU, hDc.weaken (fun _ _ _ _ => trivial)⟩⟩ rfl rfl hl.1 rfl (lv_room (Nat.le_of_ble_eq_true rfl)) dX7_deal_39 ⟨Nat.zero_le _, Nat.zero_le _⟩) hS (fun q _ h => hFc q h) hFc (fun r_5 u t H1 locs ht hvm h hB hz1 hk1 hS => ?_)
          obtain ⟨w_6, rfl⟩ : ∃ z, z = u := ⟨_, rfl⟩
          obtain ⟨hP1, hD1⟩ := hB
          rw [ht] at hP1
          have hP := hP1
          have hD := hD1.weaken (fun _ _ _ h => hFc _ h)
          generalize H1 = H at hP hS ⊢
          have hP : va_P E.1 vwCl (rw_24 E mo mn mi ma ml mt mb mr mp mk mq mc mw mz ms mf mu mv mx mh mA mB mC mM mT mHI mFC mLC mCg mTp mNx mFr mTk mVa mEn mKe mCs mAt mHd mWg w_6 mImg mAsd mLea mLat mBst mRsk mTap mKys mKat mCod mWts mTes mStk mFct mSor mSiz mCel mHol mHoA mHoB mHoC mMov mTel) H := hP
          have hD : va_D A (rw_24 E mo mn mi ma ml mt mb mr mp mk mq mc mw mz ms mf mu mv mx mh mA mB mC mM mT mHI mFC mLC mCg mTp mNx mFr mTk mVa mEn mKe mCs mAt mHd mWg w_6 mImg mAsd mLea mLat mBst mRsk mTap mKys mKat mCod mWts mTes mStk mFct mSor mSiz mCel mHol mHoA mHoB mHoC mMov mTel) := hD
          refine lv_bipush (v := 100) hx hb dX7_deal_42 (by decide) ?_
          refine lv_irem hx hb dX7_deal_44 (by decide) ?_
          refine W.eq (g2 := F0 m 45 ls [.int (rc_rem r_5 100)]) rfl ?_
          refine lv_istore (lv' := [(4, .int (rc_rem r_5 100)), (3, .int (rc_rem r_3 5)), (0, .ref mo), (1, .int p1), (2, .int x2)]) hx hb dX7_deal_45 hl (by decide) rfl (fun ls hl => ?_)
          refine lv_aload_n hx hb dX7_deal_47 rfl (lv_at hl 2 rfl) ?_
          refine lv_iload_n hx hb dX7_deal_48 rfl (lv_at hl 1 rfl) ?_
          refine lv_iload hx hb dX7_deal_49 (lv_at hl 0 rfl) ?_
          refine lv_aload_n hx hb dX7_deal_51 rfl (lv_at hl 2 rfl) ?_
          have hPc := hP
          have hDc := hD
          have hFc := rc_freeI hD hS hA
          refine va_calli (va_runV (As := []) (rest := [.int (rc_rem r_5 100), .int (rc_rem r_3 5), .ref mo]) ⟨hx, hb, hml, hown, hts⟩ (c_X7_draw l E mo mn mi ma ml mt mb mr mp mk mq mc mw mz ms mf mu mv mx mh mA mB mC mM mT H.size mHI mFC mLC mCg mTp mNx mFr mTk mVa mEn mKe mCs mAt mHd mWg w_6 mImg mAsd mLea mLat mBst mRsk mTap mKys mKat mCod mWts mTes mStk mFct mSor mSiz mCel mHol mHoA mHoB mHoC mMov mTel _ h) (cwV 0 hts gX7_deal_X7_draw rfl rfl rfl (by decide +kernel) ⟨Nat.le_of_ble_eq_true rfl, Nat.le_of_ble_eq_true rfl⟩) ⟨fun a U g mk q => ⟨q.1, q.2.blind⟩, va_recv hK hPc (ci := 7) (q0 := 0) rfl rfl, fun U hU hW => ⟨rfl, by rw [hU], by rw [hU]; exact hPc, hE.call hS hFc hW hU, hDc.weaken (fun _ _ _ _ => trivial)⟩⟩ rfl rfl hl.1 rfl (lv_room (Nat.le_of_ble_eq_true rfl)) dX7_deal_52 ⟨Nat.zero_le _, Nat.zero_le _⟩) hS (fun q _ h => hFc q h) hFc (fun r_7 u t H1 locs ht hvm h hB hz1 hk1 hS => ?_)
          obtain ⟨w_8, rfl⟩ : ∃ z, z = u := ⟨_, rfl⟩
          obtain ⟨hP1, hD1⟩ := hB
          rw [ht] at hP1
          have hP := hP1
          have hD := hD1.weaken (fun _ _ _ h => hFc _ h)
          generalize H1 = H at hP hS ⊢
          have hP : va_P E.1 vwCl (rw_24 E mo mn mi ma ml mt mb mr mp mk mq mc mw mz ms mf mu mv mx mh mA mB mC mM mT mHI mFC mLC mCg mTp mNx mFr mTk mVa mEn mKe mCs mAt mHd mWg w_8 mImg mAsd mLea mLat mBst mRsk mTap mKys mKat mCod mWts mTes mStk mFct mSor mSiz mCel mHol mHoA mHoB mHoC mMov mTel) H := hP
          have hD : va_D A (rw_24 E mo mn mi ma ml mt mb mr mp mk mq mc mw mz ms mf mu mv mx mh mA mB mC mM mT mHI mFC mLC mCg mTp mNx mFr mTk mVa mEn mKe mCs mAt mHd mWg w_8 mImg mAsd mLea mLat mBst mRsk mTap mKys mKat mCod mWts mTes mStk mFct mSor mSiz mCel mHol mHoA mHoB mHoC mMov mTel) := hD
          refine lv_iconst (v := 4) hx hb dX7_deal_55 (by decide) ?_
          refine lv_irem hx hb dX7_deal_56 (by decide) ?_
          refine W.eq (g2 := F0 m 57 ls [.int (rc_rem r_7 4), .int (rc_rem r_5 100), .int (rc_rem r_3 5), .ref mo]) rfl ?_
          refine lv_if_ne (tgt := 64) hx hb dX7_deal_57 (by decide) (fun c_9 => ?_) (fun c_9 => ?_)
          · have h := h.1 c_9
            refine lv_iconst (v := 0) hx hb dX7_deal_64 (by decide) ?_
            have hPc := hP
            have hDc := hD
            have hFc := rc_freeI hD hS hA
            refine va_calli (va_runV (As := [.int (rc_rem r_3 5), .int (rc_rem r_5 100), .int 0]) (rest := []) ⟨hx, hb, hml, hown, hts⟩ (c_X7_comes l E mo mn mi ma ml mt mb mr mp mk mq mc mw mz ms mf mu mv mx mh mA mB mC mM mT H.size mHI mFC mLC mCg mTp mNx mFr mTk mVa mEn mKe mCs mAt mHd mWg w_8 mImg mAsd mLea mLat mBst mRsk mTap mKys mKat mCod mWts mTes mStk mFct mSor mSiz mCel mHol mHoA mHoB mHoC mMov mTel (rc_rem r_3 5) (rc_rem r_5 100) 0 _ h) (cwV 3 hts gX7_deal_X7_comes rfl rfl rfl (by decide +kernel) ⟨Nat.le_of_ble_eq_true rfl, Nat.le_of_ble_eq_true rfl⟩) ⟨fun a U g mk q => ⟨q.1, q.2.blind⟩, va_recv hK hPc (ci := 7) (q0 := 0) rfl rfl, fun U hU hW => ⟨rfl, by rw [hU], by rw [hU]; exact hPc, hE.call hS hFc hW hU, hDc.weaken (fun _ _ _ _ => trivial)⟩⟩ rfl rfl hl.1 rfl (lv_room (Nat.le_of_ble_eq_true rfl)) dX7_deal_65 ⟨Nat.zero_le _, Nat.zero_le _⟩) hS (fun q _ h => hFc q h) hFc (fun r_10 u t H1 locs ht hvm h hB hz1 hk1 hS => ?_)
            obtain ⟨w_11, rfl⟩ : ∃ z, z = u := ⟨_, rfl⟩
            obtain ⟨hP1, hD1⟩ := hB
            rw [ht] at hP1
            have hP := hP1
            have hD := hD1.weaken (fun _ _ _ h => hFc _ h)
            generalize H1 = H at hP hS ⊢
            have hP : va_P E.1 vwCl (rw_24 E mo mn mi ma ml mt mb mr mp mk mq mc mw mz ms mf mu mv mx mh mA mB mC mM mT mHI mFC mLC mCg mTp mNx mFr mTk mVa mEn mKe mCs mAt mHd mWg w_11 mImg mAsd mLea mLat mBst mRsk mTap mKys mKat mCod mWts mTes mStk mFct mSor mSiz mCel mHol mHoA mHoB mHoC mMov mTel) H := hP
            have hD : va_D A (rw_24 E mo mn mi ma ml mt mb mr mp mk mq mc mw mz ms mf mu mv mx mh mA mB mC mM mT mHI mFC mLC mCg mTp mNx mFr mTk mVa mEn mKe mCs mAt mHd mWg w_11 mImg mAsd mLea mLat mBst mRsk mTap mKys mKat mCod mWts mTes mStk mFct mSor mSiz mCel mHol mHoA mHoB mHoC mMov mTel) := hD
            refine lv_istore (lv' := [(5, .int r_10), (4, .int (rc_rem r_5 100)), (3, .int (rc_rem r_3 5)), (0, .ref mo), (1, .int p1), (2, .int x2)]) hx hb dX7_deal_68 hl (by decide) rfl (fun ls hl => ?_)
            refine lv_iinc (v := x2 + 1) (lv' := [(2, .int (x2 + 1)), (5, .int r_10), (4, .int (rc_rem r_5 100)), (3, .int (rc_rem r_3 5)), (0, .ref mo), (1, .int p1)]) hx hb dX7_deal_70 hl (k := 5) rfl (by rfl) (by decide) rfl (fun ls hl => ?_)
            refine lv_goto (tgt := 15) hx hb dX7_deal_73 (by decide) ?_
            exact ih (x2 + 1) w_11 h _ _ hP hD hS ls (lv_sub hl [4, 5, 0] rfl)
          · have h := h.2 c_9
            refine lv_iconst (v := 1) hx hb dX7_deal_60 (by decide) ?_
            refine lv_goto (tgt := 65) hx hb dX7_deal_61 (by decide) ?_
            have hPc := hP
            have hDc := hD
            have hFc := rc_freeI hD hS hA
            refine va_calli (va_runV (As := [.int (rc_rem r_3 5), .int (rc_rem r_5 100), .int 1]) (rest := []) ⟨hx, hb, hml, hown, hts⟩ (c_X7_comes l E mo mn mi ma ml mt mb mr mp mk mq mc mw mz ms mf mu mv mx mh mA mB mC mM mT H.size mHI mFC mLC mCg mTp mNx mFr mTk mVa mEn mKe mCs mAt mHd mWg w_8 mImg mAsd mLea mLat mBst mRsk mTap mKys mKat mCod mWts mTes mStk mFct mSor mSiz mCel mHol mHoA mHoB mHoC mMov mTel (rc_rem r_3 5) (rc_rem r_5 100) 1 _ h) (cwV 3 hts gX7_deal_X7_comes rfl rfl rfl (by decide +kernel) ⟨Nat.le_of_ble_eq_true rfl, Nat.le_of_ble_eq_true rfl⟩) ⟨fun a U g mk q => ⟨q.1, q.2.blind⟩, va_recv hK hPc (ci := 7) (q0 := 0) rfl rfl, fun U hU hW => ⟨rfl, by rw [hU], by rw [hU]; exact hPc, hE.call hS hFc hW hU, hDc.weaken (fun _ _ _ _ => trivial)⟩⟩ rfl rfl hl.1 rfl (lv_room (Nat.le_of_ble_eq_true rfl)) dX7_deal_65 ⟨Nat.zero_le _, Nat.zero_le _⟩) hS (fun q _ h => hFc q h) hFc (fun r_12 u t H1 locs ht hvm h hB hz1 hk1 hS => ?_)
            obtain ⟨w_13, rfl⟩ : ∃ z, z = u := ⟨_, rfl⟩
            obtain ⟨hP1, hD1⟩ := hB
            rw [ht] at hP1
            have hP := hP1
            have hD := hD1.weaken (fun _ _ _ h => hFc _ h)
            generalize H1 = H at hP hS ⊢
            have hP : va_P E.1 vwCl (rw_24 E mo mn mi ma ml mt mb mr mp mk mq mc mw mz ms mf mu mv mx mh mA mB mC mM mT mHI mFC mLC mCg mTp mNx mFr mTk mVa mEn mKe mCs mAt mHd mWg w_13 mImg mAsd mLea mLat mBst mRsk mTap mKys mKat mCod mWts mTes mStk mFct mSor mSiz mCel mHol mHoA mHoB mHoC mMov mTel) H := hP
            have hD : va_D A (rw_24 E mo mn mi ma ml mt mb mr mp mk mq mc mw mz ms mf mu mv mx mh mA mB mC mM mT mHI mFC mLC mCg mTp mNx mFr mTk mVa mEn mKe mCs mAt mHd mWg w_13 mImg mAsd mLea mLat mBst mRsk mTap mKys mKat mCod mWts mTes mStk mFct mSor mSiz mCel mHol mHoA mHoB mHoC mMov mTel) := hD
            refine lv_istore (lv' := [(5, .int r_12), (4, .int (rc_rem r_5 100)), (3, .int (rc_rem r_3 5)), (0, .ref mo), (1, .int p1), (2, .int x2)]) hx hb dX7_deal_68 hl (by decide) rfl (fun ls hl => ?_)
            refine lv_iinc (v := x2 + 1) (lv' := [(2, .int (x2 + 1)), (5, .int r_12), (4, .int (rc_rem r_5 100)), (3, .int (rc_rem r_3 5)), (0, .ref mo), (1, .int p1)]) hx hb dX7_deal_70 hl (k := 5) rfl (by rfl) (by decide) rfl (fun ls hl => ?_)
            refine lv_goto (tgt := 15) hx hb dX7_deal_73 (by decide) ?_
            exact ih (x2 + 1) w_13 h _ _ hP hD hS ls (lv_sub hl [4, 5, 0] rfl)
  unfold wp_X7_deal at h
  obtain ⟨H, hH⟩ : ∃ H, H = s.heap := ⟨_, rfl⟩
  obtain ⟨locs, hlocs⟩ : ∃ locs : List Loc, locs = [] := ⟨_, rfl⟩
  have hP : va_P E.1 vwCl (rw_24 E mo mn mi ma ml mt mb mr mp mk mq mc mw mz ms mf mu mv mx mh mA mB mC mM mT mHI mFC mLC mCg mTp mNx mFr mTk mVa mEn mKe mCs mAt mHd mWg mNow mImg mAsd mLea mLat mBst mRsk mTap mKys mKat mCod mWts mTes mStk mFct mSor mSiz mCel mHol mHoA mHoB mHoC mMov mTel) H := by rw [hH]; exact hP
  have hS : va_S A s.heap H locs := by rw [hH, hlocs]; exact hS
  suffices hgo : W p l e ({ frames := 1, cells := 0, slots := 0, locals := 24 } : Room) s m args below meth c H locs 0 0 QQ (F0 m 0 ls []) from by rw [hH, hlocs] at hgo; exact hgo
  refine lv_iload_n hx hb dX7_deal_0 rfl (lv_at hl 1 rfl) ?_
  refine lv_iconst (v := 1) hx hb dX7_deal_1 (by decide) ?_
  refine lv_bipush (v := 24) hx hb dX7_deal_2 (by decide) ?_
  have hPc := hP.sub (ws' := []) [] rfl
  have hDc := hD.sub (ws' := []) [] (by decide) rfl
  have hFc := va_free (wc := []) hD hS hA [] rfl
  refine va_calli (va_runS (As := [.int p1, .int 1, .int 24]) (rest := []) ⟨hx, hb, hml, hown, hts⟩ (c_X7_in l E H.size p1 1 24 _ h) (va_cwS 3 hts gX7_deal_X7_in rfl rfl rfl (by decide +kernel) ⟨Nat.le_of_ble_eq_true rfl, Nat.le_of_ble_eq_true rfl⟩) ⟨fun a U g mk q => ⟨q.1, q.2.blind⟩, fun U hU hW => ⟨rfl, by rw [hU], by rw [hU]; exact hPc, hE.call hS hFc hW hU, hDc.weaken (fun _ _ _ _ => trivial)⟩⟩ rfl rfl hl.1 rfl (lv_room (Nat.le_of_ble_eq_true rfl)) dX7_deal_4 ⟨Nat.zero_le _, Nat.zero_le _⟩) hS (fun q _ h => hFc q h) hFc (fun r_14 u t H1 locs ht hvm h hB hz1 hk1 hS => ?_)
  obtain ⟨hP1, hD1⟩ := hB
  rw [ht] at hP1
  obtain ⟨hP, hD⟩ := rc_foc hP hD [] [none, none, none, none, none, none, none, none, none, none, none, none, none, none, none, none, none, none, none, none, none, none, none, none, none] (by decide) rfl hk1 hP1 rfl
  generalize H1 = H at hP hS ⊢
  have hP : va_P E.1 vwCl (rw_24 E mo mn mi ma ml mt mb mr mp mk mq mc mw mz ms mf mu mv mx mh mA mB mC mM mT mHI mFC mLC mCg mTp mNx mFr mTk mVa mEn mKe mCs mAt mHd mWg mNow mImg mAsd mLea mLat mBst mRsk mTap mKys mKat mCod mWts mTes mStk mFct mSor mSiz mCel mHol mHoA mHoB mHoC mMov mTel) H := hP
  have hD : va_D A (rw_24 E mo mn mi ma ml mt mb mr mp mk mq mc mw mz ms mf mu mv mx mh mA mB mC mM mT mHI mFC mLC mCg mTp mNx mFr mTk mVa mEn mKe mCs mAt mHd mWg mNow mImg mAsd mLea mLat mBst mRsk mTap mKys mKat mCod mWts mTes mStk mFct mSor mSiz mCel mHol mHoA mHoB mHoC mMov mTel) := hD
  refine lv_if_ne (tgt := 13) hx hb dX7_deal_7 (by decide) (fun c_15 => ?_) (fun c_15 => ?_)
  · have h := h.1 c_15
    refine lv_iconst (v := 0) hx hb dX7_deal_13 (by decide) ?_
    refine lv_istore_n (lv' := [(2, .int 0), (0, .ref mo), (1, .int p1)]) hx hb dX7_deal_14 rfl hl (by decide) rfl (fun ls hl => ?_)
    obtain ⟨n, h⟩ := h
    exact J15 n 0 mNow h _ _ hP hD hS ls (lv_sub hl [1, 2, 0] rfl)
  · have h := h.2 c_15
    refine lv_ldc hx hb hown k_89 dX7_deal_10 ?_
    exact hret _ _ _ _ (-1000000001) (mNow) rfl h hP hD hS dX7_deal_12
def wp_X7_seed (p1 : Int32) (mNow : Nat → Int32) (Q : Int32 → (Nat → Int32) → Prop) : Prop :=
  wp_X7_becomes 0 p1 mNow (fun (r_1 : Int32) (w_2 : Nat → Int32) => Q r_1 w_2)
set_option maxHeartbeats 4000000 in
set_option maxRecDepth 100000 in
theorem c_X7_seed (l : Launch) (E : gE) (mo mn mi ma ml mt mb mr mp mk mq mc mw mz ms mf mu mv mx mh mA mB mC mM mT : Nat) (sz : Nat) (mHI : Int32) (mFC : Int32) (mLC : Int32) (mCg : Int32) (mTp : Int32) (mNx : Int32) (mFr : Int32) (mTk : Int32) (mVa : Int32) (mEn : Int32) (mKe : Int32) (mCs : Int32) (mAt : Int32) (mHd : Int32) (mWg : Int32) (mNow : Nat → Int32) (mImg : Nat → Int32) (mAsd : Nat → Int32) (mLea : Nat → Int32) (mLat : Nat → Int32) (mBst : Nat → Int32) (mRsk : Nat → Int32) (mTap : Nat → Int32) (mKys : Nat → Int32) (mKat : Nat → Int32) (mCod : Nat → Int32) (mWts : Nat → Int32) (mTes : Nat → Int32) (mStk : Nat → Int32) (mFct : Nat → Int32) (mSor : Nat → Int32) (mSiz : Nat → Int32) (mCel : Nat → Int32) (mHol : Nat → Int32) (mHoA : Nat → Int32) (mHoB : Nat → Int32) (mHoC : Nat → Int32) (mMov : Nat → Int32) (mTel : Nat → Int32) (p1 : Int32)  (Q : Int32 → (Nat → Int32) → Prop) (h : wp_X7_seed p1 mNow Q) : Met l yX7_seed wsX7_seed ({ frames := 1, cells := 0, slots := 0, locals := 23 } : Room) (va_Pc [.ref mo, .int p1] (rc_B E (rw_24 E mo mn mi ma ml mt mb mr mp mk mq mc mw mz ms mf mu mv mx mh mA mB mC mM mT mHI mFC mLC mCg mTp mNx mFr mTk mVa mEn mKe mCs mAt mHd mWg mNow mImg mAsd mLea mLat mBst mRsk mTap mKys mKat mCod mWts mTes mStk mFct mSor mSiz mCel mHol mHoA mHoB mHoC mMov mTel) sz)) (va_Qi (S := (Nat → Int32)) (fun (r : Int32) (u : (Nat → Int32)) => Q r u) (fun u t => rc_C E (va_A (rw_24 E mo mn mi ma ml mt mb mr mp mk mq mc mw mz ms mf mu mv mx mh mA mB mC mM mT mHI mFC mLC mCg mTp mNx mFr mTk mVa mEn mKe mCs mAt mHd mWg mNow mImg mAsd mLea mLat mBst mRsk mTap mKys mKat mCod mWts mTes mStk mFct mSor mSiz mCel mHol mHoA mHoB mHoC mMov mTel) sz) (rw_24 E mo mn mi ma ml mt mb mr mp mk mq mc mw mz ms mf mu mv mx mh mA mB mC mM mT mHI mFC mLC mCg mTp mNx mFr mTk mVa mEn mKe mCs mAt mHd mWg u mImg mAsd mLea mLat mBst mRsk mTap mKys mKat mCod mWts mTes mStk mFct mSor mSiz mCel mHol mHoA mHoB mHoC mMov mTel) t) (va_A (rw_24 E mo mn mi ma ml mt mb mr mp mk mq mc mw mz ms mf mu mv mx mh mA mB mC mM mT mHI mFC mLC mCg mTp mNx mFr mTk mVa mEn mKe mCs mAt mHd mWg mNow mImg mAsd mLea mLat mBst mRsk mTap mKys mKat mCod mWts mTes mStk mFct mSor mSiz mCel mHol mHoA mHoB mHoC mMov mTel) sz)) 0 0 (va_A (rw_24 E mo mn mi ma ml mt mb mr mp mk mq mc mw mz ms mf mu mv mx mh mA mB mC mM mT mHI mFC mLC mCg mTp mNx mFr mTk mVa mEn mKe mCs mAt mHd mWg mNow mImg mAsd mLea mLat mBst mRsk mTap mKys mKat mCod mWts mTes mStk mFct mSor mSiz mCel mHol mHoA mHoB mHoC mMov mTel) sz) := by
  refine rc_enterI (cc := cX7_seed) (maxL := 2) (by decide) rfl (Nat.le_of_ble_eq_true rfl) ?_
  intro p e s m args below meth c QQ A hx hb hml hown hts hmn hE hP hD hA hret ls hl
  have hown : s.vm.findClass RX7 = some m.cls := hown
  have hK := hE.1
  have hS : va_S A s.heap s.heap [] := va_S.rf
  have hl : lv_has ls 2 [(0, .ref mo), (1, .int p1)] := hl
  unfold wp_X7_seed at h
  obtain ⟨H, hH⟩ : ∃ H, H = s.heap := ⟨_, rfl⟩
  obtain ⟨locs, hlocs⟩ : ∃ locs : List Loc, locs = [] := ⟨_, rfl⟩
  have hP : va_P E.1 vwCl (rw_24 E mo mn mi ma ml mt mb mr mp mk mq mc mw mz ms mf mu mv mx mh mA mB mC mM mT mHI mFC mLC mCg mTp mNx mFr mTk mVa mEn mKe mCs mAt mHd mWg mNow mImg mAsd mLea mLat mBst mRsk mTap mKys mKat mCod mWts mTes mStk mFct mSor mSiz mCel mHol mHoA mHoB mHoC mMov mTel) H := by rw [hH]; exact hP
  have hS : va_S A s.heap H locs := by rw [hH, hlocs]; exact hS
  suffices hgo : W p l e ({ frames := 1, cells := 0, slots := 0, locals := 23 } : Room) s m args below meth c H locs 0 0 QQ (F0 m 0 ls []) from by rw [hH, hlocs] at hgo; exact hgo
  refine lv_aload_n hx hb dX7_seed_0 rfl (lv_at hl 0 rfl) ?_
  refine lv_iconst (v := 0) hx hb dX7_seed_1 (by decide) ?_
  refine lv_iload_n hx hb dX7_seed_2 rfl (lv_at hl 1 rfl) ?_
  have hPc := hP
  have hDc := hD
  have hFc := rc_freeI hD hS hA
  refine va_calli (va_runV (As := [.int 0, .int p1]) (rest := []) ⟨hx, hb, hml, hown, hts⟩ (c_X7_becomes l E mo mn mi ma ml mt mb mr mp mk mq mc mw mz ms mf mu mv mx mh mA mB mC mM mT H.size mHI mFC mLC mCg mTp mNx mFr mTk mVa mEn mKe mCs mAt mHd mWg mNow mImg mAsd mLea mLat mBst mRsk mTap mKys mKat mCod mWts mTes mStk mFct mSor mSiz mCel mHol mHoA mHoB mHoC mMov mTel 0 p1 _ h) (cwV 2 hts gX7_seed_X7_becomes rfl rfl rfl (by decide +kernel) ⟨Nat.le_of_ble_eq_true rfl, Nat.le_of_ble_eq_true rfl⟩) ⟨fun a U g mk q => ⟨q.1, q.2.blind⟩, va_recv hK hPc (ci := 7) (q0 := 0) rfl rfl, fun U hU hW => ⟨rfl, by rw [hU], by rw [hU]; exact hPc, hE.call hS hFc hW hU, hDc.weaken (fun _ _ _ _ => trivial)⟩⟩ rfl rfl hl.1 rfl (lv_room (Nat.le_of_ble_eq_true rfl)) dX7_seed_3 ⟨Nat.zero_le _, Nat.zero_le _⟩) hS (fun q _ h => hFc q h) hFc (fun r_1 u t H1 locs ht hvm h hB hz1 hk1 hS => ?_)
  obtain ⟨w_2, rfl⟩ : ∃ z, z = u := ⟨_, rfl⟩
  obtain ⟨hP1, hD1⟩ := hB
  rw [ht] at hP1
  have hP := hP1
  have hD := hD1.weaken (fun _ _ _ h => hFc _ h)
  generalize H1 = H at hP hS ⊢
  have hP : va_P E.1 vwCl (rw_24 E mo mn mi ma ml mt mb mr mp mk mq mc mw mz ms mf mu mv mx mh mA mB mC mM mT mHI mFC mLC mCg mTp mNx mFr mTk mVa mEn mKe mCs mAt mHd mWg w_2 mImg mAsd mLea mLat mBst mRsk mTap mKys mKat mCod mWts mTes mStk mFct mSor mSiz mCel mHol mHoA mHoB mHoC mMov mTel) H := hP
  have hD : va_D A (rw_24 E mo mn mi ma ml mt mb mr mp mk mq mc mw mz ms mf mu mv mx mh mA mB mC mM mT mHI mFC mLC mCg mTp mNx mFr mTk mVa mEn mKe mCs mAt mHd mWg w_2 mImg mAsd mLea mLat mBst mRsk mTap mKys mKat mCod mWts mTes mStk mFct mSor mSiz mCel mHol mHoA mHoB mHoC mMov mTel) := hD
  exact hret _ _ _ _ r_1 (w_2) rfl h hP hD hS dX7_seed_6
def jp_X7_storm_31 (p1 : Int32) (p2 : Int32)  (Q : Int32 → (Nat → Int32) → Prop) (y0 : Int32) (y1 : Int32) (y2 : Int32) (mNow : Nat → Int32) : Prop :=
  wp_X7_in y2 y1 y0 (fun (r_1 : Int32) => ((¬ r_1 = 0 → wp_X7_becomes (4 + p1) p2 mNow (fun (r_3 : Int32) (w_4 : Nat → Int32) => Q r_3 w_4)) ∧ (r_1 = 0 → Q (-1000000001) mNow)))
def wp_X7_storm (p1 : Int32) (p2 : Int32) (mNow : Nat → Int32) (Q : Int32 → (Nat → Int32) → Prop) : Prop :=
  wp_X7_in p1 0 1 (fun (r_5 : Int32) => ((r_5 = 0 → Q (-1000000001) mNow) ∧ (¬ (r_5 = 0) → ((¬ p1 = 0 → ((¬ p1 = 0 → jp_X7_storm_31 p1 p2 Q 9 (-9) p2 mNow) ∧ (p1 = 0 → jp_X7_storm_31 p1 p2 Q 99 (-9) p2 mNow))) ∧ (p1 = 0 → ((¬ p1 = 0 → jp_X7_storm_31 p1 p2 Q 9 0 p2 mNow) ∧ (p1 = 0 → jp_X7_storm_31 p1 p2 Q 99 0 p2 mNow)))))))
set_option maxHeartbeats 4000000 in
set_option maxRecDepth 100000 in
theorem c_X7_storm (l : Launch) (E : gE) (mo mn mi ma ml mt mb mr mp mk mq mc mw mz ms mf mu mv mx mh mA mB mC mM mT : Nat) (sz : Nat) (mHI : Int32) (mFC : Int32) (mLC : Int32) (mCg : Int32) (mTp : Int32) (mNx : Int32) (mFr : Int32) (mTk : Int32) (mVa : Int32) (mEn : Int32) (mKe : Int32) (mCs : Int32) (mAt : Int32) (mHd : Int32) (mWg : Int32) (mNow : Nat → Int32) (mImg : Nat → Int32) (mAsd : Nat → Int32) (mLea : Nat → Int32) (mLat : Nat → Int32) (mBst : Nat → Int32) (mRsk : Nat → Int32) (mTap : Nat → Int32) (mKys : Nat → Int32) (mKat : Nat → Int32) (mCod : Nat → Int32) (mWts : Nat → Int32) (mTes : Nat → Int32) (mStk : Nat → Int32) (mFct : Nat → Int32) (mSor : Nat → Int32) (mSiz : Nat → Int32) (mCel : Nat → Int32) (mHol : Nat → Int32) (mHoA : Nat → Int32) (mHoB : Nat → Int32) (mHoC : Nat → Int32) (mMov : Nat → Int32) (mTel : Nat → Int32) (p1 p2 : Int32)  (Q : Int32 → (Nat → Int32) → Prop) (h : wp_X7_storm p1 p2 mNow Q) : Met l yX7_storm wsX7_storm ({ frames := 1, cells := 0, slots := 0, locals := 23 } : Room) (va_Pc [.ref mo, .int p1, .int p2] (rc_B E (rw_24 E mo mn mi ma ml mt mb mr mp mk mq mc mw mz ms mf mu mv mx mh mA mB mC mM mT mHI mFC mLC mCg mTp mNx mFr mTk mVa mEn mKe mCs mAt mHd mWg mNow mImg mAsd mLea mLat mBst mRsk mTap mKys mKat mCod mWts mTes mStk mFct mSor mSiz mCel mHol mHoA mHoB mHoC mMov mTel) sz)) (va_Qi (S := (Nat → Int32)) (fun (r : Int32) (u : (Nat → Int32)) => Q r u) (fun u t => rc_C E (va_A (rw_24 E mo mn mi ma ml mt mb mr mp mk mq mc mw mz ms mf mu mv mx mh mA mB mC mM mT mHI mFC mLC mCg mTp mNx mFr mTk mVa mEn mKe mCs mAt mHd mWg mNow mImg mAsd mLea mLat mBst mRsk mTap mKys mKat mCod mWts mTes mStk mFct mSor mSiz mCel mHol mHoA mHoB mHoC mMov mTel) sz) (rw_24 E mo mn mi ma ml mt mb mr mp mk mq mc mw mz ms mf mu mv mx mh mA mB mC mM mT mHI mFC mLC mCg mTp mNx mFr mTk mVa mEn mKe mCs mAt mHd mWg u mImg mAsd mLea mLat mBst mRsk mTap mKys mKat mCod mWts mTes mStk mFct mSor mSiz mCel mHol mHoA mHoB mHoC mMov mTel) t) (va_A (rw_24 E mo mn mi ma ml mt mb mr mp mk mq mc mw mz ms mf mu mv mx mh mA mB mC mM mT mHI mFC mLC mCg mTp mNx mFr mTk mVa mEn mKe mCs mAt mHd mWg mNow mImg mAsd mLea mLat mBst mRsk mTap mKys mKat mCod mWts mTes mStk mFct mSor mSiz mCel mHol mHoA mHoB mHoC mMov mTel) sz)) 0 0 (va_A (rw_24 E mo mn mi ma ml mt mb mr mp mk mq mc mw mz ms mf mu mv mx mh mA mB mC mM mT mHI mFC mLC mCg mTp mNx mFr mTk mVa mEn mKe mCs mAt mHd mWg mNow mImg mAsd mLea mLat mBst mRsk mTap mKys mKat mCod mWts mTes mStk mFct mSor mSiz mCel mHol mHoA mHoB mHoC mMov mTel) sz) := by
  refine rc_enterI (cc := cX7_storm) (maxL := 3) (by decide) rfl (Nat.le_of_ble_eq_true rfl) ?_
  intro p e s m args below meth c QQ A hx hb hml hown hts hmn hE hP hD hA hret ls hl
  have hown : s.vm.findClass RX7 = some m.cls := hown
  have hK := hE.1
  have hS : va_S A s.heap s.heap [] := va_S.rf
  have hl : lv_has ls 3 [(0, .ref mo), (1, .int p1), (2, .int p2)] := hl
  have k_89 := hts (.constant RX7 89 (-1000000001)) (List.mem_of_getElem? (i := 1) rfl)
  have J31 : ∀ (y0 : Int32) (y1 : Int32) (y2 : Int32) (mNow : Nat → Int32), jp_X7_storm_31 p1 p2 Q y0 y1 y2 mNow → ∀ (H : Heap) (locs : List Loc), va_P E.1 vwCl (rw_24 E mo mn mi ma ml mt mb mr mp mk mq mc mw mz ms mf mu mv mx mh mA mB mC mM mT mHI mFC mLC mCg mTp mNx mFr mTk mVa mEn mKe mCs mAt mHd mWg mNow mImg mAsd mLea mLat mBst mRsk mTap mKys mKat mCod mWts mTes mStk mFct mSor mSiz mCel mHol mHoA mHoB mHoC mMov mTel) H → va_D A (rw_24 E mo mn mi ma ml mt mb mr mp mk mq mc mw mz ms mf mu mv mx mh mA mB mC mM mT mHI mFC mLC mCg mTp mNx mFr mTk mVa mEn mKe mCs mAt mHd mWg mNow mImg mAsd mLea mLat mBst mRsk mTap mKys mKat mCod mWts mTes mStk mFct mSor mSiz mCel mHol mHoA mHoB mHoC mMov mTel) → va_S A s.heap H locs → ∀ ls : Array Slot, lv_has ls 3 [(0, .ref mo), (1, .int p1), (2, .int p2)] → W p l e ({ frames := 1, cells := 0, slots := 0, locals := 23 } : Room) s m args below meth c H locs 0 0 QQ (F0 m 31 ls [.int y0, .int y1, .int y2]) := by
    intro y0 y1 y2 mNow h H locs hP hD hS ls hl
    unfold jp_X7_storm_31 at h
    have hPc := hP.sub (ws' := []) [] rfl
    have hDc := hD.sub (ws' := []) [] (by decide) rfl
    have hFc := va_free (wc := []) hD hS hA [] rfl
    refine va_calli (va_runS (As := [.int y2, .int y1, .int y0]) (rest := []) ⟨hx, hb, hml, hown, hts⟩ (c_X7_in l E H.size y2 y1 y0 _ h) (va_cwS 3 hts gX7_storm_X7_in rfl rfl rfl (by decide +kernel) ⟨Nat.le_of_ble_eq_true rfl, Nat.le_of_ble_eq_true rfl⟩) ⟨fun a U g mk q => ⟨q.1, q.2.blind⟩, fun U hU hW => ⟨rfl, by rw [hU], by rw [hU]; exact hPc, hE.call hS hFc hW hU, hDc.weaken (fun _ _ _ _ => trivial)⟩⟩ rfl rfl hl.1 rfl (lv_room (Nat.le_of_ble_eq_true rfl)) dX7_storm_31 ⟨Nat.zero_le _, Nat.zero_le _⟩) hS (fun q _ h => hFc q h) hFc (fun r_1 u t H1 locs ht hvm h hB hz1 hk1 hS => ?_)
    obtain ⟨hP1, hD1⟩ := hB
    rw [ht] at hP1
    obtain ⟨hP, hD⟩ := rc_foc hP hD [] [none, none, none, none, none, none, none, none, none, none, none, none, none, none, none, none, none, none, none, none, none, none, none, none, none] (by decide) rfl hk1 hP1 rfl
    generalize H1 = H at hP hS ⊢
    have hP : va_P E.1 vwCl (rw_24 E mo mn mi ma ml mt mb mr mp mk mq mc mw mz ms mf mu mv mx mh mA mB mC mM mT mHI mFC mLC mCg mTp mNx mFr mTk mVa mEn mKe mCs mAt mHd mWg mNow mImg mAsd mLea mLat mBst mRsk mTap mKys mKat mCod mWts mTes mStk mFct mSor mSiz mCel mHol mHoA mHoB mHoC mMov mTel) H := hP
    have hD : va_D A (rw_24 E mo mn mi ma ml mt mb mr mp mk mq mc mw mz ms mf mu mv mx mh mA mB mC mM mT mHI mFC mLC mCg mTp mNx mFr mTk mVa mEn mKe mCs mAt mHd mWg mNow mImg mAsd mLea mLat mBst mRsk mTap mKys mKat mCod mWts mTes mStk mFct mSor mSiz mCel mHol mHoA mHoB mHoC mMov mTel) := hD
    refine lv_if_ne (tgt := 40) hx hb dX7_storm_34 (by decide) (fun c_2 => ?_) (fun c_2 => ?_)
    · have h := h.1 c_2
      refine lv_aload_n hx hb dX7_storm_40 rfl (lv_at hl 0 rfl) ?_
      refine lv_iconst (v := 4) hx hb dX7_storm_41 (by decide) ?_
      refine lv_iload_n hx hb dX7_storm_42 rfl (lv_at hl 1 rfl) ?_
      refine lv_iadd hx hb dX7_storm_43 ?_
      refine lv_iload_n hx hb dX7_storm_44 rfl (lv_at hl 2 rfl) ?_
      have hPc := hP
      have hDc := hD
      have hFc := rc_freeI hD hS hA
      refine va_calli (va_runV (As := [.int (4 + p1), .int p2]) (rest := []) ⟨hx, hb, hml, hown, hts⟩ (c_X7_becomes l E mo mn mi ma ml mt mb mr mp mk mq mc mw mz ms mf mu mv mx mh mA mB mC mM mT H.size mHI mFC mLC mCg mTp mNx mFr mTk mVa mEn mKe mCs mAt mHd mWg mNow mImg mAsd mLea mLat mBst mRsk mTap mKys mKat mCod mWts mTes mStk mFct mSor mSiz mCel mHol mHoA mHoB mHoC mMov mTel (4 + p1) p2 _ h) (cwV 2 hts gX7_storm_X7_becomes rfl rfl rfl (by decide +kernel) ⟨Nat.le_of_ble_eq_true rfl, Nat.le_of_ble_eq_true rfl⟩) ⟨fun a U g mk q => ⟨q.1, q.2.blind⟩, va_recv hK hPc (ci := 7) (q0 := 0) rfl rfl, fun U hU hW => ⟨rfl, by rw [hU], by rw [hU]; exact hPc, hE.call hS hFc hW hU, hDc.weaken (fun _ _ _ _ => trivial)⟩⟩ rfl rfl hl.1 rfl (lv_room (Nat.le_of_ble_eq_true rfl)) dX7_storm_45 ⟨Nat.zero_le _, Nat.zero_le _⟩) hS (fun q _ h => hFc q h) hFc (fun r_3 u t H1 locs ht hvm h hB hz1 hk1 hS => ?_)
      obtain ⟨w_4, rfl⟩ : ∃ z, z = u := ⟨_, rfl⟩
      obtain ⟨hP1, hD1⟩ := hB
      rw [ht] at hP1
      have hP := hP1
      have hD := hD1.weaken (fun _ _ _ h => hFc _ h)
      generalize H1 = H at hP hS ⊢
      have hP : va_P E.1 vwCl (rw_24 E mo mn mi ma ml mt mb mr mp mk mq mc mw mz ms mf mu mv mx mh mA mB mC mM mT mHI mFC mLC mCg mTp mNx mFr mTk mVa mEn mKe mCs mAt mHd mWg w_4 mImg mAsd mLea mLat mBst mRsk mTap mKys mKat mCod mWts mTes mStk mFct mSor mSiz mCel mHol mHoA mHoB mHoC mMov mTel) H := hP
      have hD : va_D A (rw_24 E mo mn mi ma ml mt mb mr mp mk mq mc mw mz ms mf mu mv mx mh mA mB mC mM mT mHI mFC mLC mCg mTp mNx mFr mTk mVa mEn mKe mCs mAt mHd mWg w_4 mImg mAsd mLea mLat mBst mRsk mTap mKys mKat mCod mWts mTes mStk mFct mSor mSiz mCel mHol mHoA mHoB mHoC mMov mTel) := hD
      exact hret _ _ _ _ r_3 (w_4) rfl h hP hD hS dX7_storm_48
    · have h := h.2 c_2
      refine lv_ldc hx hb hown k_89 dX7_storm_37 ?_
      exact hret _ _ _ _ (-1000000001) (mNow) rfl h hP hD hS dX7_storm_39
  unfold wp_X7_storm at h
  obtain ⟨H, hH⟩ : ∃ H, H = s.heap := ⟨_, rfl⟩
  obtain ⟨locs, hlocs⟩ : ∃ locs : List Loc, locs = [] := ⟨_, rfl⟩
  have hP : va_P E.1 vwCl (rw_24 E mo mn mi ma ml mt mb mr mp mk mq mc mw mz ms mf mu mv mx mh mA mB mC mM mT mHI mFC mLC mCg mTp mNx mFr mTk mVa mEn mKe mCs mAt mHd mWg mNow mImg mAsd mLea mLat mBst mRsk mTap mKys mKat mCod mWts mTes mStk mFct mSor mSiz mCel mHol mHoA mHoB mHoC mMov mTel) H := by rw [hH]; exact hP
  have hS : va_S A s.heap H locs := by rw [hH, hlocs]; exact hS
  suffices hgo : W p l e ({ frames := 1, cells := 0, slots := 0, locals := 23 } : Room) s m args below meth c H locs 0 0 QQ (F0 m 0 ls []) from by rw [hH, hlocs] at hgo; exact hgo
  refine lv_iload_n hx hb dX7_storm_0 rfl (lv_at hl 1 rfl) ?_
  refine lv_iconst (v := 0) hx hb dX7_storm_1 (by decide) ?_
  refine lv_iconst (v := 1) hx hb dX7_storm_2 (by decide) ?_
  have hPc := hP.sub (ws' := []) [] rfl
  have hDc := hD.sub (ws' := []) [] (by decide) rfl
  have hFc := va_free (wc := []) hD hS hA [] rfl
  refine va_calli (va_runS (As := [.int p1, .int 0, .int 1]) (rest := []) ⟨hx, hb, hml, hown, hts⟩ (c_X7_in l E H.size p1 0 1 _ h) (va_cwS 3 hts gX7_storm_X7_in rfl rfl rfl (by decide +kernel) ⟨Nat.le_of_ble_eq_true rfl, Nat.le_of_ble_eq_true rfl⟩) ⟨fun a U g mk q => ⟨q.1, q.2.blind⟩, fun U hU hW => ⟨rfl, by rw [hU], by rw [hU]; exact hPc, hE.call hS hFc hW hU, hDc.weaken (fun _ _ _ _ => trivial)⟩⟩ rfl rfl hl.1 rfl (lv_room (Nat.le_of_ble_eq_true rfl)) dX7_storm_3 ⟨Nat.zero_le _, Nat.zero_le _⟩) hS (fun q _ h => hFc q h) hFc (fun r_5 u t H1 locs ht hvm h hB hz1 hk1 hS => ?_)
  obtain ⟨hP1, hD1⟩ := hB
  rw [ht] at hP1
  obtain ⟨hP, hD⟩ := rc_foc hP hD [] [none, none, none, none, none, none, none, none, none, none, none, none, none, none, none, none, none, none, none, none, none, none, none, none, none] (by decide) rfl hk1 hP1 rfl
  generalize H1 = H at hP hS ⊢
  have hP : va_P E.1 vwCl (rw_24 E mo mn mi ma ml mt mb mr mp mk mq mc mw mz ms mf mu mv mx mh mA mB mC mM mT mHI mFC mLC mCg mTp mNx mFr mTk mVa mEn mKe mCs mAt mHd mWg mNow mImg mAsd mLea mLat mBst mRsk mTap mKys mKat mCod mWts mTes mStk mFct mSor mSiz mCel mHol mHoA mHoB mHoC mMov mTel) H := hP
  have hD : va_D A (rw_24 E mo mn mi ma ml mt mb mr mp mk mq mc mw mz ms mf mu mv mx mh mA mB mC mM mT mHI mFC mLC mCg mTp mNx mFr mTk mVa mEn mKe mCs mAt mHd mWg mNow mImg mAsd mLea mLat mBst mRsk mTap mKys mKat mCod mWts mTes mStk mFct mSor mSiz mCel mHol mHoA mHoB mHoC mMov mTel) := hD
  refine lv_if_eq (tgt := 37) hx hb dX7_storm_6 (by decide) (fun c_6 => ?_) (fun c_6 => ?_)
  · have h := h.1 c_6
    refine lv_ldc hx hb hown k_89 dX7_storm_37 ?_
    exact hret _ _ _ _ (-1000000001) (mNow) rfl h hP hD hS dX7_storm_39
  · have h := h.2 c_6
    refine lv_iload_n hx hb dX7_storm_9 rfl (lv_at hl 2 rfl) ?_
    refine lv_iload_n hx hb dX7_storm_10 rfl (lv_at hl 1 rfl) ?_
    refine lv_if_ne (tgt := 18) hx hb dX7_storm_11 (by decide) (fun c_7 => ?_) (fun c_7 => ?_)
    · have h := h.1 c_7
      refine lv_bipush (v := (-9)) hx hb dX7_storm_18 (by decide) ?_
      refine lv_iload_n hx hb dX7_storm_20 rfl (lv_at hl 1 rfl) ?_
      refine lv_if_ne (tgt := 29) hx hb dX7_storm_21 (by decide) (fun c_8 => ?_) (fun c_8 => ?_)
      · have h := h.1 c_8
        refine lv_bipush (v := 9) hx hb dX7_storm_29 (by decide) ?_
        exact J31 9 (-9) p2 mNow h _ _ hP hD hS ls (lv_sub hl [0, 1, 2] rfl)
      · have h := h.2 c_8
        refine lv_bipush (v := 99) hx hb dX7_storm_24 (by decide) ?_
        refine lv_goto (tgt := 31) hx hb dX7_storm_26 (by decide) ?_
        exact J31 99 (-9) p2 mNow h _ _ hP hD hS ls (lv_sub hl [0, 1, 2] rfl)
    · have h := h.2 c_7
      refine lv_iconst (v := 0) hx hb dX7_storm_14 (by decide) ?_
      refine lv_goto (tgt := 20) hx hb dX7_storm_15 (by decide) ?_
      refine lv_iload_n hx hb dX7_storm_20 rfl (lv_at hl 1 rfl) ?_
      refine lv_if_ne (tgt := 29) hx hb dX7_storm_21 (by decide) (fun c_9 => ?_) (fun c_9 => ?_)
      · have h := h.1 c_9
        refine lv_bipush (v := 9) hx hb dX7_storm_29 (by decide) ?_
        exact J31 9 0 p2 mNow h _ _ hP hD hS ls (lv_sub hl [0, 1, 2] rfl)
      · have h := h.2 c_9
        refine lv_bipush (v := 99) hx hb dX7_storm_24 (by decide) ?_
        refine lv_goto (tgt := 31) hx hb dX7_storm_26 (by decide) ?_
        exact J31 99 0 p2 mNow h _ _ hP hD hS ls (lv_sub hl [0, 1, 2] rfl)
def wp_X7_farOn (p1 : Int32) (mNow : Nat → Int32) (Q : Int32 → Prop) : Prop :=
  wp_X7_within ((mNow 4) - ((mNow 5) * p1)) 0 99 (fun (r_1 : Int32) => Q r_1)
set_option maxHeartbeats 4000000 in
set_option maxRecDepth 100000 in
theorem c_X7_farOn (l : Launch) (E : gE) (mo mn mi ma ml mt mb mr mp mk mq mc mw mz ms mf mu mv mx mh mA mB mC mM mT : Nat) (sz : Nat) (mHI : Int32) (mFC : Int32) (mLC : Int32) (mCg : Int32) (mTp : Int32) (mNx : Int32) (mFr : Int32) (mTk : Int32) (mVa : Int32) (mEn : Int32) (mKe : Int32) (mCs : Int32) (mAt : Int32) (mHd : Int32) (mWg : Int32) (mNow : Nat → Int32) (mImg : Nat → Int32) (mAsd : Nat → Int32) (mLea : Nat → Int32) (mLat : Nat → Int32) (mBst : Nat → Int32) (mRsk : Nat → Int32) (mTap : Nat → Int32) (mKys : Nat → Int32) (mKat : Nat → Int32) (mCod : Nat → Int32) (mWts : Nat → Int32) (mTes : Nat → Int32) (mStk : Nat → Int32) (mFct : Nat → Int32) (mSor : Nat → Int32) (mSiz : Nat → Int32) (mCel : Nat → Int32) (mHol : Nat → Int32) (mHoA : Nat → Int32) (mHoB : Nat → Int32) (mHoC : Nat → Int32) (mMov : Nat → Int32) (mTel : Nat → Int32) (p1 : Int32)  (Q : Int32 → Prop) (h : wp_X7_farOn p1 mNow Q) : Met l yX7_farOn wsX7_farOn ({ frames := 1, cells := 0, slots := 0, locals := 22 } : Room) (va_Pc [.ref mo, .int p1] (rc_B E (rw_24 E mo mn mi ma ml mt mb mr mp mk mq mc mw mz ms mf mu mv mx mh mA mB mC mM mT mHI mFC mLC mCg mTp mNx mFr mTk mVa mEn mKe mCs mAt mHd mWg mNow mImg mAsd mLea mLat mBst mRsk mTap mKys mKat mCod mWts mTes mStk mFct mSor mSiz mCel mHol mHoA mHoB mHoC mMov mTel) sz)) (va_Qi (S := Unit) (fun (r : Int32) (u : Unit) => Q r) (fun u t => rc_C E (va_A (rw_24 E mo mn mi ma ml mt mb mr mp mk mq mc mw mz ms mf mu mv mx mh mA mB mC mM mT mHI mFC mLC mCg mTp mNx mFr mTk mVa mEn mKe mCs mAt mHd mWg mNow mImg mAsd mLea mLat mBst mRsk mTap mKys mKat mCod mWts mTes mStk mFct mSor mSiz mCel mHol mHoA mHoB mHoC mMov mTel) sz) (rw_24 E mo mn mi ma ml mt mb mr mp mk mq mc mw mz ms mf mu mv mx mh mA mB mC mM mT mHI mFC mLC mCg mTp mNx mFr mTk mVa mEn mKe mCs mAt mHd mWg mNow mImg mAsd mLea mLat mBst mRsk mTap mKys mKat mCod mWts mTes mStk mFct mSor mSiz mCel mHol mHoA mHoB mHoC mMov mTel) t) (va_A (rw_24 E mo mn mi ma ml mt mb mr mp mk mq mc mw mz ms mf mu mv mx mh mA mB mC mM mT mHI mFC mLC mCg mTp mNx mFr mTk mVa mEn mKe mCs mAt mHd mWg mNow mImg mAsd mLea mLat mBst mRsk mTap mKys mKat mCod mWts mTes mStk mFct mSor mSiz mCel mHol mHoA mHoB mHoC mMov mTel) sz)) 0 0 (va_A (rw_24 E mo mn mi ma ml mt mb mr mp mk mq mc mw mz ms mf mu mv mx mh mA mB mC mM mT mHI mFC mLC mCg mTp mNx mFr mTk mVa mEn mKe mCs mAt mHd mWg mNow mImg mAsd mLea mLat mBst mRsk mTap mKys mKat mCod mWts mTes mStk mFct mSor mSiz mCel mHol mHoA mHoB mHoC mMov mTel) sz) := by
  refine rc_enterI (cc := cX7_farOn) (maxL := 2) (by decide) rfl (Nat.le_of_ble_eq_true rfl) ?_
  intro p e s m args below meth c QQ A hx hb hml hown hts hmn hE hP hD hA hret ls hl
  have hown : s.vm.findClass RX7 = some m.cls := hown
  have hK := hE.1
  have hS : va_S A s.heap s.heap [] := va_S.rf
  have hl : lv_has ls 2 [(0, .ref mo), (1, .int p1)] := hl
  have n_X7 : ∀ w ∈ wsX70, w ∈ wsX7_farOn := fun _ h => List.mem_cons_of_mem _ (List.mem_append_right _ h)
  have k_9 := hts (.fieldLink RX7 9 "RidgeClapsModel" "now" "[I") (List.mem_of_getElem? (i := 1) rfl)
  unfold wp_X7_farOn at h
  obtain ⟨H, hH⟩ : ∃ H, H = s.heap := ⟨_, rfl⟩
  obtain ⟨locs, hlocs⟩ : ∃ locs : List Loc, locs = [] := ⟨_, rfl⟩
  have hP : va_P E.1 vwCl (rw_24 E mo mn mi ma ml mt mb mr mp mk mq mc mw mz ms mf mu mv mx mh mA mB mC mM mT mHI mFC mLC mCg mTp mNx mFr mTk mVa mEn mKe mCs mAt mHd mWg mNow mImg mAsd mLea mLat mBst mRsk mTap mKys mKat mCod mWts mTes mStk mFct mSor mSiz mCel mHol mHoA mHoB mHoC mMov mTel) H := by rw [hH]; exact hP
  have hS : va_S A s.heap H locs := by rw [hH, hlocs]; exact hS
  suffices hgo : W p l e ({ frames := 1, cells := 0, slots := 0, locals := 22 } : Room) s m args below meth c H locs 0 0 QQ (F0 m 0 ls []) from by rw [hH, hlocs] at hgo; exact hgo
  refine lv_aload_n hx hb dX7_farOn_0 rfl (lv_at hl 0 rfl) ?_
  refine va_get (D := E.1) (ci := 7) (v := .ref mn) (C := RX7) (T := TX7) (N := 39) hx hb hts n_X7 hown hK hP 0 rfl rfl 0 (by decide) k_9 (fun _ h9 => h9) rfl dX7_farOn_1 ?_
  refine lv_iconst (v := 4) hx hb dX7_farOn_4 (by decide) ?_
  refine rc_iald hx hb hK hP 1 0 rfl rfl 4 (by decide) (by unfold vp_in; decide) dX7_farOn_5 ?_
  refine lv_aload_n hx hb dX7_farOn_6 rfl (lv_at hl 0 rfl) ?_
  refine va_get (D := E.1) (ci := 7) (v := .ref mn) (C := RX7) (T := TX7) (N := 39) hx hb hts n_X7 hown hK hP 0 rfl rfl 0 (by decide) k_9 (fun _ h9 => h9) rfl dX7_farOn_7 ?_
  refine lv_iconst (v := 5) hx hb dX7_farOn_10 (by decide) ?_
  refine rc_iald hx hb hK hP 1 0 rfl rfl 5 (by decide) (by unfold vp_in; decide) dX7_farOn_11 ?_
  refine lv_iload_n hx hb dX7_farOn_12 rfl (lv_at hl 1 rfl) ?_
  refine lv_imul hx hb dX7_farOn_13 ?_
  refine lv_isub hx hb dX7_farOn_14 ?_
  refine lv_iconst (v := 0) hx hb dX7_farOn_15 (by decide) ?_
  refine lv_bipush (v := 99) hx hb dX7_farOn_16 (by decide) ?_
  have hPc := hP.sub (ws' := []) [] rfl
  have hDc := hD.sub (ws' := []) [] (by decide) rfl
  have hFc := va_free (wc := []) hD hS hA [] rfl
  refine va_calli (va_runS (As := [.int ((mNow 4) - ((mNow 5) * p1)), .int 0, .int 99]) (rest := []) ⟨hx, hb, hml, hown, hts⟩ (c_X7_within l E H.size ((mNow 4) - ((mNow 5) * p1)) 0 99 _ h) (va_cwS 3 hts gX7_farOn_X7_within rfl rfl rfl (by decide +kernel) ⟨Nat.le_of_ble_eq_true rfl, Nat.le_of_ble_eq_true rfl⟩) ⟨fun a U g mk q => ⟨q.1, q.2.blind⟩, fun U hU hW => ⟨rfl, by rw [hU], by rw [hU]; exact hPc, hE.call hS hFc hW hU, hDc.weaken (fun _ _ _ _ => trivial)⟩⟩ rfl rfl hl.1 rfl (lv_room (Nat.le_of_ble_eq_true rfl)) dX7_farOn_18 ⟨Nat.zero_le _, Nat.zero_le _⟩) hS (fun q _ h => hFc q h) hFc (fun r_1 u t H1 locs ht hvm h hB hz1 hk1 hS => ?_)
  obtain ⟨hP1, hD1⟩ := hB
  rw [ht] at hP1
  obtain ⟨hP, hD⟩ := rc_foc hP hD [] [none, none, none, none, none, none, none, none, none, none, none, none, none, none, none, none, none, none, none, none, none, none, none, none, none] (by decide) rfl hk1 hP1 rfl
  generalize H1 = H at hP hS ⊢
  have hP : va_P E.1 vwCl (rw_24 E mo mn mi ma ml mt mb mr mp mk mq mc mw mz ms mf mu mv mx mh mA mB mC mM mT mHI mFC mLC mCg mTp mNx mFr mTk mVa mEn mKe mCs mAt mHd mWg mNow mImg mAsd mLea mLat mBst mRsk mTap mKys mKat mCod mWts mTes mStk mFct mSor mSiz mCel mHol mHoA mHoB mHoC mMov mTel) H := hP
  have hD : va_D A (rw_24 E mo mn mi ma ml mt mb mr mp mk mq mc mw mz ms mf mu mv mx mh mA mB mC mM mT mHI mFC mLC mCg mTp mNx mFr mTk mVa mEn mKe mCs mAt mHd mWg mNow mImg mAsd mLea mLat mBst mRsk mTap mKys mKat mCod mWts mTes mStk mFct mSor mSiz mCel mHol mHoA mHoB mHoC mMov mTel) := hD
  exact hret _ _ _ _ r_1 () rfl h hP hD hS dX7_farOn_21
def wp_X7_oddsOn (p1 : Int32) (mNow : Nat → Int32) (mStk : Nat → Int32) (mFct : Nat → Int32) (Q : Int32 → (Nat → Int32) → (Nat → Int32) → Prop) : Prop :=
  wp_X7_farOn p1 mNow (fun (r_1 : Int32) => wp_X7_counts 1 mNow (fun (r_2 : Int32) => ((0 ≤ r_2 → wp_X7_worksOut r_2 mNow mStk (upd (upd mFct 0 r_1) 1 p1) (fun (r_4 : Int32) (w_5 : Nat → Int32) => wp_X7_within r_4 0 100 (fun (r_6 : Int32) => Q r_6 w_5 (upd (upd mFct 0 r_1) 1 p1)))) ∧ (¬ (0 ≤ r_2) → wp_X7_within (100 - (3 * r_1)) 0 100 (fun (r_7 : Int32) => Q r_7 mStk (upd (upd mFct 0 r_1) 1 p1))))))
set_option maxHeartbeats 4000000 in
set_option maxRecDepth 100000 in
theorem c_X7_oddsOn (l : Launch) (E : gE) (mo mn mi ma ml mt mb mr mp mk mq mc mw mz ms mf mu mv mx mh mA mB mC mM mT : Nat) (sz : Nat) (mHI : Int32) (mFC : Int32) (mLC : Int32) (mCg : Int32) (mTp : Int32) (mNx : Int32) (mFr : Int32) (mTk : Int32) (mVa : Int32) (mEn : Int32) (mKe : Int32) (mCs : Int32) (mAt : Int32) (mHd : Int32) (mWg : Int32) (mNow : Nat → Int32) (mImg : Nat → Int32) (mAsd : Nat → Int32) (mLea : Nat → Int32) (mLat : Nat → Int32) (mBst : Nat → Int32) (mRsk : Nat → Int32) (mTap : Nat → Int32) (mKys : Nat → Int32) (mKat : Nat → Int32) (mCod : Nat → Int32) (mWts : Nat → Int32) (mTes : Nat → Int32) (mStk : Nat → Int32) (mFct : Nat → Int32) (mSor : Nat → Int32) (mSiz : Nat → Int32) (mCel : Nat → Int32) (mHol : Nat → Int32) (mHoA : Nat → Int32) (mHoB : Nat → Int32) (mHoC : Nat → Int32) (mMov : Nat → Int32) (mTel : Nat → Int32) (p1 : Int32)  (Q : Int32 → (Nat → Int32) → (Nat → Int32) → Prop) (h : wp_X7_oddsOn p1 mNow mStk mFct Q) : Met l yX7_oddsOn wsX7_oddsOn ({ frames := 2, cells := 0, slots := 0, locals := 47 } : Room) (va_Pc [.ref mo, .int p1] (rc_B E (rw_24 E mo mn mi ma ml mt mb mr mp mk mq mc mw mz ms mf mu mv mx mh mA mB mC mM mT mHI mFC mLC mCg mTp mNx mFr mTk mVa mEn mKe mCs mAt mHd mWg mNow mImg mAsd mLea mLat mBst mRsk mTap mKys mKat mCod mWts mTes mStk mFct mSor mSiz mCel mHol mHoA mHoB mHoC mMov mTel) sz)) (va_Qi (S := (Nat → Int32) × (Nat → Int32)) (fun (r : Int32) (u : (Nat → Int32) × (Nat → Int32)) => Q r u.1 u.2) (fun u t => rc_C E (va_A (rw_24 E mo mn mi ma ml mt mb mr mp mk mq mc mw mz ms mf mu mv mx mh mA mB mC mM mT mHI mFC mLC mCg mTp mNx mFr mTk mVa mEn mKe mCs mAt mHd mWg mNow mImg mAsd mLea mLat mBst mRsk mTap mKys mKat mCod mWts mTes mStk mFct mSor mSiz mCel mHol mHoA mHoB mHoC mMov mTel) sz) (rw_24 E mo mn mi ma ml mt mb mr mp mk mq mc mw mz ms mf mu mv mx mh mA mB mC mM mT mHI mFC mLC mCg mTp mNx mFr mTk mVa mEn mKe mCs mAt mHd mWg mNow mImg mAsd mLea mLat mBst mRsk mTap mKys mKat mCod mWts mTes u.1 u.2 mSor mSiz mCel mHol mHoA mHoB mHoC mMov mTel) t) (va_A (rw_24 E mo mn mi ma ml mt mb mr mp mk mq mc mw mz ms mf mu mv mx mh mA mB mC mM mT mHI mFC mLC mCg mTp mNx mFr mTk mVa mEn mKe mCs mAt mHd mWg mNow mImg mAsd mLea mLat mBst mRsk mTap mKys mKat mCod mWts mTes mStk mFct mSor mSiz mCel mHol mHoA mHoB mHoC mMov mTel) sz)) 0 0 (va_A (rw_24 E mo mn mi ma ml mt mb mr mp mk mq mc mw mz ms mf mu mv mx mh mA mB mC mM mT mHI mFC mLC mCg mTp mNx mFr mTk mVa mEn mKe mCs mAt mHd mWg mNow mImg mAsd mLea mLat mBst mRsk mTap mKys mKat mCod mWts mTes mStk mFct mSor mSiz mCel mHol mHoA mHoB mHoC mMov mTel) sz) := by
  refine rc_enterI (cc := cX7_oddsOn) (maxL := 4) (by decide) rfl (Nat.le_of_ble_eq_true rfl) ?_
  intro p e s m args below meth c QQ A hx hb hml hown hts hmn hE hP hD hA hret ls hl
  have hown : s.vm.findClass RX7 = some m.cls := hown
  have hK := hE.1
  have hS : va_S A s.heap s.heap [] := va_S.rf
  have hl : lv_has ls 4 [(0, .ref mo), (1, .int p1)] := hl
  have n_X7 : ∀ w ∈ wsX70, w ∈ wsX7_oddsOn := fun _ h => List.mem_cons_of_mem _ (List.mem_append_right _ h)
  have k_54 := hts (.fieldLink RX7 54 "RidgeClapsModel" "facts" "[I") (List.mem_of_getElem? (i := 1) rfl)
  unfold wp_X7_oddsOn at h
  obtain ⟨H, hH⟩ : ∃ H, H = s.heap := ⟨_, rfl⟩
  obtain ⟨locs, hlocs⟩ : ∃ locs : List Loc, locs = [] := ⟨_, rfl⟩
  have hP : va_P E.1 vwCl (rw_24 E mo mn mi ma ml mt mb mr mp mk mq mc mw mz ms mf mu mv mx mh mA mB mC mM mT mHI mFC mLC mCg mTp mNx mFr mTk mVa mEn mKe mCs mAt mHd mWg mNow mImg mAsd mLea mLat mBst mRsk mTap mKys mKat mCod mWts mTes mStk mFct mSor mSiz mCel mHol mHoA mHoB mHoC mMov mTel) H := by rw [hH]; exact hP
  have hS : va_S A s.heap H locs := by rw [hH, hlocs]; exact hS
  suffices hgo : W p l e ({ frames := 2, cells := 0, slots := 0, locals := 47 } : Room) s m args below meth c H locs 0 0 QQ (F0 m 0 ls []) from by rw [hH, hlocs] at hgo; exact hgo
  refine lv_aload_n hx hb dX7_oddsOn_0 rfl (lv_at hl 0 rfl) ?_
  refine lv_iload_n hx hb dX7_oddsOn_1 rfl (lv_at hl 1 rfl) ?_
  have hPc := hP
  have hDc := hD
  have hFc := rc_freeI hD hS hA
  refine va_calli (va_runV (As := [.int p1]) (rest := []) ⟨hx, hb, hml, hown, hts⟩ (c_X7_farOn l E mo mn mi ma ml mt mb mr mp mk mq mc mw mz ms mf mu mv mx mh mA mB mC mM mT H.size mHI mFC mLC mCg mTp mNx mFr mTk mVa mEn mKe mCs mAt mHd mWg mNow mImg mAsd mLea mLat mBst mRsk mTap mKys mKat mCod mWts mTes mStk mFct mSor mSiz mCel mHol mHoA mHoB mHoC mMov mTel p1 _ h) (cwV 1 hts gX7_oddsOn_X7_farOn rfl rfl rfl (by decide +kernel) ⟨Nat.le_of_ble_eq_true rfl, Nat.le_of_ble_eq_true rfl⟩) ⟨fun a U g mk q => ⟨q.1, q.2.blind⟩, va_recv hK hPc (ci := 7) (q0 := 0) rfl rfl, fun U hU hW => ⟨rfl, by rw [hU], by rw [hU]; exact hPc, hE.call hS hFc hW hU, hDc.weaken (fun _ _ _ _ => trivial)⟩⟩ rfl rfl hl.1 rfl (lv_room (Nat.le_of_ble_eq_true rfl)) dX7_oddsOn_2 ⟨Nat.zero_le _, Nat.zero_le _⟩) hS (fun q _ h => hFc q h) hFc (fun r_1 u t H1 locs ht hvm h hB hz1 hk1 hS => ?_)
  obtain ⟨hP1, hD1⟩ := hB
  rw [ht] at hP1
  have hP := hP1
  have hD := hD1.weaken (fun _ _ _ h => hFc _ h)
  generalize H1 = H at hP hS ⊢
  have hP : va_P E.1 vwCl (rw_24 E mo mn mi ma ml mt mb mr mp mk mq mc mw mz ms mf mu mv mx mh mA mB mC mM mT mHI mFC mLC mCg mTp mNx mFr mTk mVa mEn mKe mCs mAt mHd mWg mNow mImg mAsd mLea mLat mBst mRsk mTap mKys mKat mCod mWts mTes mStk mFct mSor mSiz mCel mHol mHoA mHoB mHoC mMov mTel) H := hP
  have hD : va_D A (rw_24 E mo mn mi ma ml mt mb mr mp mk mq mc mw mz ms mf mu mv mx mh mA mB mC mM mT mHI mFC mLC mCg mTp mNx mFr mTk mVa mEn mKe mCs mAt mHd mWg mNow mImg mAsd mLea mLat mBst mRsk mTap mKys mKat mCod mWts mTes mStk mFct mSor mSiz mCel mHol mHoA mHoB mHoC mMov mTel) := hD
  refine lv_istore_n (lv' := [(2, .int r_1), (0, .ref mo), (1, .int p1)]) hx hb dX7_oddsOn_5 rfl hl (by decide) rfl (fun ls hl => ?_)
  refine lv_aload_n hx hb dX7_oddsOn_6 rfl (lv_at hl 1 rfl) ?_
  refine lv_iconst (v := 1) hx hb dX7_oddsOn_7 (by decide) ?_
  have hPc := hP
  have hDc := hD
  have hFc := rc_freeI hD hS hA
  refine va_calli (va_runV (As := [.int 1]) (rest := []) ⟨hx, hb, hml, hown, hts⟩ (c_X7_counts l E mo mn mi ma ml mt mb mr mp mk mq mc mw mz ms mf mu mv mx mh mA mB mC mM mT H.size mHI mFC mLC mCg mTp mNx mFr mTk mVa mEn mKe mCs mAt mHd mWg mNow mImg mAsd mLea mLat mBst mRsk mTap mKys mKat mCod mWts mTes mStk mFct mSor mSiz mCel mHol mHoA mHoB mHoC mMov mTel 1 _ h) (cwV 1 hts gX7_oddsOn_X7_counts rfl rfl rfl (by decide +kernel) ⟨Nat.le_of_ble_eq_true rfl, Nat.le_of_ble_eq_true rfl⟩) ⟨fun a U g mk q => ⟨q.1, q.2.blind⟩, va_recv hK hPc (ci := 7) (q0 := 0) rfl rfl, fun U hU hW => ⟨rfl, by rw [hU], by rw [hU]; exact hPc, hE.call hS hFc hW hU, hDc.weaken (fun _ _ _ _ => trivial)⟩⟩ rfl rfl hl.1 rfl (lv_room (Nat.le_of_ble_eq_true rfl)) dX7_oddsOn_8 ⟨Nat.zero_le _, Nat.zero_le _⟩) hS (fun q _ h => hFc q h) hFc (fun r_2 u t H1 locs ht hvm h hB hz1 hk1 hS => ?_)
  obtain ⟨hP1, hD1⟩ := hB
  rw [ht] at hP1
  have hP := hP1
  have hD := hD1.weaken (fun _ _ _ h => hFc _ h)
  generalize H1 = H at hP hS ⊢
  have hP : va_P E.1 vwCl (rw_24 E mo mn mi ma ml mt mb mr mp mk mq mc mw mz ms mf mu mv mx mh mA mB mC mM mT mHI mFC mLC mCg mTp mNx mFr mTk mVa mEn mKe mCs mAt mHd mWg mNow mImg mAsd mLea mLat mBst mRsk mTap mKys mKat mCod mWts mTes mStk mFct mSor mSiz mCel mHol mHoA mHoB mHoC mMov mTel) H := hP
  have hD : va_D A (rw_24 E mo mn mi ma ml mt mb mr mp mk mq mc mw mz ms mf mu mv mx mh mA mB mC mM mT mHI mFC mLC mCg mTp mNx mFr mTk mVa mEn mKe mCs mAt mHd mWg mNow mImg mAsd mLea mLat mBst mRsk mTap mKys mKat mCod mWts mTes mStk mFct mSor mSiz mCel mHol mHoA mHoB mHoC mMov mTel) := hD
  refine lv_istore_n (lv' := [(3, .int r_2), (2, .int r_1), (0, .ref mo), (1, .int p1)]) hx hb dX7_oddsOn_11 rfl hl (by decide) rfl (fun ls hl => ?_)
  refine lv_aload_n hx hb dX7_oddsOn_12 rfl (lv_at hl 2 rfl) ?_
  refine va_get (D := E.1) (ci := 7) (v := .ref mf) (C := RX7) (T := TX7) (N := 39) hx hb hts n_X7 hown hK hP 0 rfl rfl 28 (by decide) k_54 (fun _ h9 => h9) rfl dX7_oddsOn_13 ?_
  refine lv_iconst (v := 0) hx hb dX7_oddsOn_16 (by decide) ?_
  refine lv_iload_n hx hb dX7_oddsOn_17 rfl (lv_at hl 1 rfl) ?_
  refine rc_iast hx hb hK hP hD hS 15 0 rfl rfl 0 (by decide) (by unfold vp_in; decide) dX7_oddsOn_18 (fun H locs hP hD hS => ?_)
  have hP : va_P E.1 vwCl (rw_24 E mo mn mi ma ml mt mb mr mp mk mq mc mw mz ms mf mu mv mx mh mA mB mC mM mT mHI mFC mLC mCg mTp mNx mFr mTk mVa mEn mKe mCs mAt mHd mWg mNow mImg mAsd mLea mLat mBst mRsk mTap mKys mKat mCod mWts mTes mStk (upd mFct 0 r_1) mSor mSiz mCel mHol mHoA mHoB mHoC mMov mTel) H := hP
  have hD : va_D A (rw_24 E mo mn mi ma ml mt mb mr mp mk mq mc mw mz ms mf mu mv mx mh mA mB mC mM mT mHI mFC mLC mCg mTp mNx mFr mTk mVa mEn mKe mCs mAt mHd mWg mNow mImg mAsd mLea mLat mBst mRsk mTap mKys mKat mCod mWts mTes mStk (upd mFct 0 r_1) mSor mSiz mCel mHol mHoA mHoB mHoC mMov mTel) := hD
  refine lv_aload_n hx hb dX7_oddsOn_19 rfl (lv_at hl 2 rfl) ?_
  refine va_get (D := E.1) (ci := 7) (v := .ref mf) (C := RX7) (T := TX7) (N := 39) hx hb hts n_X7 hown hK hP 0 rfl rfl 28 (by decide) k_54 (fun _ h9 => h9) rfl dX7_oddsOn_20 ?_
  refine lv_iconst (v := 1) hx hb dX7_oddsOn_23 (by decide) ?_
  refine lv_iload_n hx hb dX7_oddsOn_24 rfl (lv_at hl 3 rfl) ?_
  refine rc_iast hx hb hK hP hD hS 15 0 rfl rfl 1 (by decide) (by unfold vp_in; decide) dX7_oddsOn_25 (fun H locs hP hD hS => ?_)
  have hP : va_P E.1 vwCl (rw_24 E mo mn mi ma ml mt mb mr mp mk mq mc mw mz ms mf mu mv mx mh mA mB mC mM mT mHI mFC mLC mCg mTp mNx mFr mTk mVa mEn mKe mCs mAt mHd mWg mNow mImg mAsd mLea mLat mBst mRsk mTap mKys mKat mCod mWts mTes mStk (upd (upd mFct 0 r_1) 1 p1) mSor mSiz mCel mHol mHoA mHoB mHoC mMov mTel) H := hP
  have hD : va_D A (rw_24 E mo mn mi ma ml mt mb mr mp mk mq mc mw mz ms mf mu mv mx mh mA mB mC mM mT mHI mFC mLC mCg mTp mNx mFr mTk mVa mEn mKe mCs mAt mHd mWg mNow mImg mAsd mLea mLat mBst mRsk mTap mKys mKat mCod mWts mTes mStk (upd (upd mFct 0 r_1) 1 p1) mSor mSiz mCel mHol mHoA mHoB mHoC mMov mTel) := hD
  refine lv_iload_n hx hb dX7_oddsOn_26 rfl (lv_at hl 0 rfl) ?_
  refine lv_if_ge (tgt := 45) hx hb dX7_oddsOn_27 (by decide) (fun c_3 => ?_) (fun c_3 => ?_)
  · have h := h.1 c_3
    refine lv_aload_n hx hb dX7_oddsOn_45 rfl (lv_at hl 2 rfl) ?_
    refine lv_iload_n hx hb dX7_oddsOn_46 rfl (lv_at hl 0 rfl) ?_
    have hPc := hP
    have hDc := hD
    have hFc := rc_freeI hD hS hA
    refine va_calli (va_runV (As := [.int r_2]) (rest := []) ⟨hx, hb, hml, hown, hts⟩ (c_X7_worksOut l E mo mn mi ma ml mt mb mr mp mk mq mc mw mz ms mf mu mv mx mh mA mB mC mM mT H.size mHI mFC mLC mCg mTp mNx mFr mTk mVa mEn mKe mCs mAt mHd mWg mNow mImg mAsd mLea mLat mBst mRsk mTap mKys mKat mCod mWts mTes mStk (upd (upd mFct 0 r_1) 1 p1) mSor mSiz mCel mHol mHoA mHoB mHoC mMov mTel r_2 _ h) (cwV 1 hts gX7_oddsOn_X7_worksOut rfl rfl rfl (by decide +kernel) ⟨Nat.le_of_ble_eq_true rfl, Nat.le_of_ble_eq_true rfl⟩) ⟨fun a U g mk q => ⟨q.1, q.2.blind⟩, va_recv hK hPc (ci := 7) (q0 := 0) rfl rfl, fun U hU hW => ⟨rfl, by rw [hU], by rw [hU]; exact hPc, hE.call hS hFc hW hU, hDc.weaken (fun _ _ _ _ => trivial)⟩⟩ rfl rfl hl.1 rfl (lv_room (Nat.le_of_ble_eq_true rfl)) dX7_oddsOn_47 ⟨Nat.zero_le _, Nat.zero_le _⟩) hS (fun q _ h => hFc q h) hFc (fun r_4 u t H1 locs ht hvm h hB hz1 hk1 hS => ?_)
    obtain ⟨w_5, rfl⟩ : ∃ z, z = u := ⟨_, rfl⟩
    obtain ⟨hP1, hD1⟩ := hB
    rw [ht] at hP1
    have hP := hP1
    have hD := hD1.weaken (fun _ _ _ h => hFc _ h)
    generalize H1 = H at hP hS ⊢
    have hP : va_P E.1 vwCl (rw_24 E mo mn mi ma ml mt mb mr mp mk mq mc mw mz ms mf mu mv mx mh mA mB mC mM mT mHI mFC mLC mCg mTp mNx mFr mTk mVa mEn mKe mCs mAt mHd mWg mNow mImg mAsd mLea mLat mBst mRsk mTap mKys mKat mCod mWts mTes w_5 (upd (upd mFct 0 r_1) 1 p1) mSor mSiz mCel mHol mHoA mHoB mHoC mMov mTel) H := hP
    have hD : va_D A (rw_24 E mo mn mi ma ml mt mb mr mp mk mq mc mw mz ms mf mu mv mx mh mA mB mC mM mT mHI mFC mLC mCg mTp mNx mFr mTk mVa mEn mKe mCs mAt mHd mWg mNow mImg mAsd mLea mLat mBst mRsk mTap mKys mKat mCod mWts mTes w_5 (upd (upd mFct 0 r_1) 1 p1) mSor mSiz mCel mHol mHoA mHoB mHoC mMov mTel) := hD
    refine lv_iconst (v := 0) hx hb dX7_oddsOn_50 (by decide) ?_
    refine lv_bipush (v := 100) hx hb dX7_oddsOn_51 (by decide) ?_
    have hPc := hP.sub (ws' := []) [] rfl
    have hDc := hD.sub (ws' := []) [] (by decide) rfl
    have hFc := va_free (wc := []) hD hS hA [] rfl
    refine va_calli (va_runS (As := [.int r_4, .int 0, .int 100]) (rest := []) ⟨hx, hb, hml, hown, hts⟩ (c_X7_within l E H.size r_4 0 100 _ h) (va_cwS 3 hts gX7_oddsOn_X7_within rfl rfl rfl (by decide +kernel) ⟨Nat.le_of_ble_eq_true rfl, Nat.le_of_ble_eq_true rfl⟩) ⟨fun a U g mk q => ⟨q.1, q.2.blind⟩, fun U hU hW => ⟨rfl, by rw [hU], by rw [hU]; exact hPc, hE.call hS hFc hW hU, hDc.weaken (fun _ _ _ _ => trivial)⟩⟩ rfl rfl hl.1 rfl (lv_room (Nat.le_of_ble_eq_true rfl)) dX7_oddsOn_53 ⟨Nat.zero_le _, Nat.zero_le _⟩) hS (fun q _ h => hFc q h) hFc (fun r_6 u t H1 locs ht hvm h hB hz1 hk1 hS => ?_)
    obtain ⟨hP1, hD1⟩ := hB
    rw [ht] at hP1
    obtain ⟨hP, hD⟩ := rc_foc hP hD [] [none, none, none, none, none, none, none, none, none, none, none, none, none, none, none, none, none, none, none, none, none, none, none, none, none] (by decide) rfl hk1 hP1 rfl
    generalize H1 = H at hP hS ⊢
    have hP : va_P E.1 vwCl (rw_24 E mo mn mi ma ml mt mb mr mp mk mq mc mw mz ms mf mu mv mx mh mA mB mC mM mT mHI mFC mLC mCg mTp mNx mFr mTk mVa mEn mKe mCs mAt mHd mWg mNow mImg mAsd mLea mLat mBst mRsk mTap mKys mKat mCod mWts mTes w_5 (upd (upd mFct 0 r_1) 1 p1) mSor mSiz mCel mHol mHoA mHoB mHoC mMov mTel) H := hP
    have hD : va_D A (rw_24 E mo mn mi ma ml mt mb mr mp mk mq mc mw mz ms mf mu mv mx mh mA mB mC mM mT mHI mFC mLC mCg mTp mNx mFr mTk mVa mEn mKe mCs mAt mHd mWg mNow mImg mAsd mLea mLat mBst mRsk mTap mKys mKat mCod mWts mTes w_5 (upd (upd mFct 0 r_1) 1 p1) mSor mSiz mCel mHol mHoA mHoB mHoC mMov mTel) := hD
    exact hret _ _ _ _ r_6 (w_5, upd (upd mFct 0 r_1) 1 p1) rfl h hP hD hS dX7_oddsOn_56
  · have h := h.2 c_3
    refine lv_bipush (v := 100) hx hb dX7_oddsOn_30 (by decide) ?_
    refine lv_iconst (v := 3) hx hb dX7_oddsOn_32 (by decide) ?_
    refine lv_iload_n hx hb dX7_oddsOn_33 rfl (lv_at hl 1 rfl) ?_
    refine lv_imul hx hb dX7_oddsOn_34 ?_
    refine lv_isub hx hb dX7_oddsOn_35 ?_
    refine lv_iconst (v := 0) hx hb dX7_oddsOn_36 (by decide) ?_
    refine lv_bipush (v := 100) hx hb dX7_oddsOn_37 (by decide) ?_
    have hPc := hP.sub (ws' := []) [] rfl
    have hDc := hD.sub (ws' := []) [] (by decide) rfl
    have hFc := va_free (wc := []) hD hS hA [] rfl
    refine va_calli (va_runS (As := [.int (100 - (3 * r_1)), .int 0, .int 100]) (rest := []) ⟨hx, hb, hml, hown, hts⟩ (c_X7_within l E H.size (100 - (3 * r_1)) 0 100 _ h) (va_cwS 3 hts gX7_oddsOn_X7_within rfl rfl rfl (by decide +kernel) ⟨Nat.le_of_ble_eq_true rfl, Nat.le_of_ble_eq_true rfl⟩) ⟨fun a U g mk q => ⟨q.1, q.2.blind⟩, fun U hU hW => ⟨rfl, by rw [hU], by rw [hU]; exact hPc, hE.call hS hFc hW hU, hDc.weaken (fun _ _ _ _ => trivial)⟩⟩ rfl rfl hl.1 rfl (lv_room (Nat.le_of_ble_eq_true rfl)) dX7_oddsOn_39 ⟨Nat.zero_le _, Nat.zero_le _⟩) hS (fun q _ h => hFc q h) hFc (fun r_7 u t H1 locs ht hvm h hB hz1 hk1 hS => ?_)
    obtain ⟨hP1, hD1⟩ := hB
    rw [ht] at hP1
    obtain ⟨hP, hD⟩ := rc_foc hP hD [] [none, none, none, none, none, none, none, none, none, none, none, none, none, none, none, none, none, none, none, none, none, none, none, none, none] (by decide) rfl hk1 hP1 rfl
    generalize H1 = H at hP hS ⊢
    have hP : va_P E.1 vwCl (rw_24 E mo mn mi ma ml mt mb mr mp mk mq mc mw mz ms mf mu mv mx mh mA mB mC mM mT mHI mFC mLC mCg mTp mNx mFr mTk mVa mEn mKe mCs mAt mHd mWg mNow mImg mAsd mLea mLat mBst mRsk mTap mKys mKat mCod mWts mTes mStk (upd (upd mFct 0 r_1) 1 p1) mSor mSiz mCel mHol mHoA mHoB mHoC mMov mTel) H := hP
    have hD : va_D A (rw_24 E mo mn mi ma ml mt mb mr mp mk mq mc mw mz ms mf mu mv mx mh mA mB mC mM mT mHI mFC mLC mCg mTp mNx mFr mTk mVa mEn mKe mCs mAt mHd mWg mNow mImg mAsd mLea mLat mBst mRsk mTap mKys mKat mCod mWts mTes mStk (upd (upd mFct 0 r_1) 1 p1) mSor mSiz mCel mHol mHoA mHoB mHoC mMov mTel) := hD
    refine lv_goto (tgt := 56) hx hb dX7_oddsOn_42 (by decide) ?_
    exact hret _ _ _ _ r_7 (mStk, upd (upd mFct 0 r_1) 1 p1) rfl h hP hD hS dX7_oddsOn_56
def wp_X7_sky (p1 : Int32) (p2 : Int32) (mNow : Nat → Int32) (mStk : Nat → Int32) (mFct : Nat → Int32) (Q : Int32 → (Nat → Int32) → (Nat → Int32) → Prop) : Prop :=
  wp_X7_in p1 0 60 (fun (r_1 : Int32) => ((r_1 = 0 → Q (-1000000001) mStk mFct) ∧ (¬ (r_1 = 0) → wp_X7_in p2 0 1 (fun (r_3 : Int32) => ((¬ r_3 = 0 → ((¬ p2 = 0 → wp_X7_oddsOn p1 mNow mStk mFct (fun (r_6 : Int32) (w_7 : Nat → Int32) (w_8 : Nat → Int32) => Q r_6 w_7 w_8)) ∧ (p2 = 0 → wp_X7_farOn p1 mNow (fun (r_9 : Int32) => Q r_9 mStk mFct)))) ∧ (r_3 = 0 → Q (-1000000001) mStk mFct))))))
set_option maxHeartbeats 4000000 in
set_option maxRecDepth 100000 in
theorem c_X7_sky (l : Launch) (E : gE) (mo mn mi ma ml mt mb mr mp mk mq mc mw mz ms mf mu mv mx mh mA mB mC mM mT : Nat) (sz : Nat) (mHI : Int32) (mFC : Int32) (mLC : Int32) (mCg : Int32) (mTp : Int32) (mNx : Int32) (mFr : Int32) (mTk : Int32) (mVa : Int32) (mEn : Int32) (mKe : Int32) (mCs : Int32) (mAt : Int32) (mHd : Int32) (mWg : Int32) (mNow : Nat → Int32) (mImg : Nat → Int32) (mAsd : Nat → Int32) (mLea : Nat → Int32) (mLat : Nat → Int32) (mBst : Nat → Int32) (mRsk : Nat → Int32) (mTap : Nat → Int32) (mKys : Nat → Int32) (mKat : Nat → Int32) (mCod : Nat → Int32) (mWts : Nat → Int32) (mTes : Nat → Int32) (mStk : Nat → Int32) (mFct : Nat → Int32) (mSor : Nat → Int32) (mSiz : Nat → Int32) (mCel : Nat → Int32) (mHol : Nat → Int32) (mHoA : Nat → Int32) (mHoB : Nat → Int32) (mHoC : Nat → Int32) (mMov : Nat → Int32) (mTel : Nat → Int32) (p1 p2 : Int32)  (Q : Int32 → (Nat → Int32) → (Nat → Int32) → Prop) (h : wp_X7_sky p1 p2 mNow mStk mFct Q) : Met l yX7_sky wsX7_sky ({ frames := 3, cells := 0, slots := 0, locals := 70 } : Room) (va_Pc [.ref mo, .int p1, .int p2] (rc_B E (rw_24 E mo mn mi ma ml mt mb mr mp mk mq mc mw mz ms mf mu mv mx mh mA mB mC mM mT mHI mFC mLC mCg mTp mNx mFr mTk mVa mEn mKe mCs mAt mHd mWg mNow mImg mAsd mLea mLat mBst mRsk mTap mKys mKat mCod mWts mTes mStk mFct mSor mSiz mCel mHol mHoA mHoB mHoC mMov mTel) sz)) (va_Qi (S := (Nat → Int32) × (Nat → Int32)) (fun (r : Int32) (u : (Nat → Int32) × (Nat → Int32)) => Q r u.1 u.2) (fun u t => rc_C E (va_A (rw_24 E mo mn mi ma ml mt mb mr mp mk mq mc mw mz ms mf mu mv mx mh mA mB mC mM mT mHI mFC mLC mCg mTp mNx mFr mTk mVa mEn mKe mCs mAt mHd mWg mNow mImg mAsd mLea mLat mBst mRsk mTap mKys mKat mCod mWts mTes mStk mFct mSor mSiz mCel mHol mHoA mHoB mHoC mMov mTel) sz) (rw_24 E mo mn mi ma ml mt mb mr mp mk mq mc mw mz ms mf mu mv mx mh mA mB mC mM mT mHI mFC mLC mCg mTp mNx mFr mTk mVa mEn mKe mCs mAt mHd mWg mNow mImg mAsd mLea mLat mBst mRsk mTap mKys mKat mCod mWts mTes u.1 u.2 mSor mSiz mCel mHol mHoA mHoB mHoC mMov mTel) t) (va_A (rw_24 E mo mn mi ma ml mt mb mr mp mk mq mc mw mz ms mf mu mv mx mh mA mB mC mM mT mHI mFC mLC mCg mTp mNx mFr mTk mVa mEn mKe mCs mAt mHd mWg mNow mImg mAsd mLea mLat mBst mRsk mTap mKys mKat mCod mWts mTes mStk mFct mSor mSiz mCel mHol mHoA mHoB mHoC mMov mTel) sz)) 0 0 (va_A (rw_24 E mo mn mi ma ml mt mb mr mp mk mq mc mw mz ms mf mu mv mx mh mA mB mC mM mT mHI mFC mLC mCg mTp mNx mFr mTk mVa mEn mKe mCs mAt mHd mWg mNow mImg mAsd mLea mLat mBst mRsk mTap mKys mKat mCod mWts mTes mStk mFct mSor mSiz mCel mHol mHoA mHoB mHoC mMov mTel) sz) := by
  refine rc_enterI (cc := cX7_sky) (maxL := 3) (by decide) rfl (Nat.le_of_ble_eq_true rfl) ?_
  intro p e s m args below meth c QQ A hx hb hml hown hts hmn hE hP hD hA hret ls hl
  have hown : s.vm.findClass RX7 = some m.cls := hown
  have hK := hE.1
  have hS : va_S A s.heap s.heap [] := va_S.rf
  have hl : lv_has ls 3 [(0, .ref mo), (1, .int p1), (2, .int p2)] := hl
  have k_89 := hts (.constant RX7 89 (-1000000001)) (List.mem_of_getElem? (i := 1) rfl)
  unfold wp_X7_sky at h
  obtain ⟨H, hH⟩ : ∃ H, H = s.heap := ⟨_, rfl⟩
  obtain ⟨locs, hlocs⟩ : ∃ locs : List Loc, locs = [] := ⟨_, rfl⟩
  have hP : va_P E.1 vwCl (rw_24 E mo mn mi ma ml mt mb mr mp mk mq mc mw mz ms mf mu mv mx mh mA mB mC mM mT mHI mFC mLC mCg mTp mNx mFr mTk mVa mEn mKe mCs mAt mHd mWg mNow mImg mAsd mLea mLat mBst mRsk mTap mKys mKat mCod mWts mTes mStk mFct mSor mSiz mCel mHol mHoA mHoB mHoC mMov mTel) H := by rw [hH]; exact hP
  have hS : va_S A s.heap H locs := by rw [hH, hlocs]; exact hS
  suffices hgo : W p l e ({ frames := 3, cells := 0, slots := 0, locals := 70 } : Room) s m args below meth c H locs 0 0 QQ (F0 m 0 ls []) from by rw [hH, hlocs] at hgo; exact hgo
  refine lv_iload_n hx hb dX7_sky_0 rfl (lv_at hl 1 rfl) ?_
  refine lv_iconst (v := 0) hx hb dX7_sky_1 (by decide) ?_
  refine lv_bipush (v := 60) hx hb dX7_sky_2 (by decide) ?_
  have hPc := hP.sub (ws' := []) [] rfl
  have hDc := hD.sub (ws' := []) [] (by decide) rfl
  have hFc := va_free (wc := []) hD hS hA [] rfl
  refine va_calli (va_runS (As := [.int p1, .int 0, .int 60]) (rest := []) ⟨hx, hb, hml, hown, hts⟩ (c_X7_in l E H.size p1 0 60 _ h) (va_cwS 3 hts gX7_sky_X7_in rfl rfl rfl (by decide +kernel) ⟨Nat.le_of_ble_eq_true rfl, Nat.le_of_ble_eq_true rfl⟩) ⟨fun a U g mk q => ⟨q.1, q.2.blind⟩, fun U hU hW => ⟨rfl, by rw [hU], by rw [hU]; exact hPc, hE.call hS hFc hW hU, hDc.weaken (fun _ _ _ _ => trivial)⟩⟩ rfl rfl hl.1 rfl (lv_room (Nat.le_of_ble_eq_true rfl)) dX7_sky_4 ⟨Nat.zero_le _, Nat.zero_le _⟩) hS (fun q _ h => hFc q h) hFc (fun r_1 u t H1 locs ht hvm h hB hz1 hk1 hS => ?_)
  obtain ⟨hP1, hD1⟩ := hB
  rw [ht] at hP1
  obtain ⟨hP, hD⟩ := rc_foc hP hD [] [none, none, none, none, none, none, none, none, none, none, none, none, none, none, none, none, none, none, none, none, none, none, none, none, none] (by decide) rfl hk1 hP1 rfl
  generalize H1 = H at hP hS ⊢
  have hP : va_P E.1 vwCl (rw_24 E mo mn mi ma ml mt mb mr mp mk mq mc mw mz ms mf mu mv mx mh mA mB mC mM mT mHI mFC mLC mCg mTp mNx mFr mTk mVa mEn mKe mCs mAt mHd mWg mNow mImg mAsd mLea mLat mBst mRsk mTap mKys mKat mCod mWts mTes mStk mFct mSor mSiz mCel mHol mHoA mHoB mHoC mMov mTel) H := hP
  have hD : va_D A (rw_24 E mo mn mi ma ml mt mb mr mp mk mq mc mw mz ms mf mu mv mx mh mA mB mC mM mT mHI mFC mLC mCg mTp mNx mFr mTk mVa mEn mKe mCs mAt mHd mWg mNow mImg mAsd mLea mLat mBst mRsk mTap mKys mKat mCod mWts mTes mStk mFct mSor mSiz mCel mHol mHoA mHoB mHoC mMov mTel) := hD
  refine lv_if_eq (tgt := 19) hx hb dX7_sky_7 (by decide) (fun c_2 => ?_) (fun c_2 => ?_)
  · have h := h.1 c_2
    refine lv_ldc hx hb hown k_89 dX7_sky_19 ?_
    exact hret _ _ _ _ (-1000000001) (mStk, mFct) rfl h hP hD hS dX7_sky_21
  · have h := h.2 c_2
    refine lv_iload_n hx hb dX7_sky_10 rfl (lv_at hl 2 rfl) ?_
    refine lv_iconst (v := 0) hx hb dX7_sky_11 (by decide) ?_
    refine lv_iconst (v := 1) hx hb dX7_sky_12 (by decide) ?_
    have hPc := hP.sub (ws' := []) [] rfl
    have hDc := hD.sub (ws' := []) [] (by decide) rfl
    have hFc := va_free (wc := []) hD hS hA [] rfl
    refine va_calli (va_runS (As := [.int p2, .int 0, .int 1]) (rest := []) ⟨hx, hb, hml, hown, hts⟩ (c_X7_in l E H.size p2 0 1 _ h) (va_cwS 3 hts gX7_sky_X7_in rfl rfl rfl (by decide +kernel) ⟨Nat.le_of_ble_eq_true rfl, Nat.le_of_ble_eq_true rfl⟩) ⟨fun a U g mk q => ⟨q.1, q.2.blind⟩, fun U hU hW => ⟨rfl, by rw [hU], by rw [hU]; exact hPc, hE.call hS hFc hW hU, hDc.weaken (fun _ _ _ _ => trivial)⟩⟩ rfl rfl hl.1 rfl (lv_room (Nat.le_of_ble_eq_true rfl)) dX7_sky_13 ⟨Nat.zero_le _, Nat.zero_le _⟩) hS (fun q _ h => hFc q h) hFc (fun r_3 u t H1 locs ht hvm h hB hz1 hk1 hS => ?_)
    obtain ⟨hP1, hD1⟩ := hB
    rw [ht] at hP1
    obtain ⟨hP, hD⟩ := rc_foc hP hD [] [none, none, none, none, none, none, none, none, none, none, none, none, none, none, none, none, none, none, none, none, none, none, none, none, none] (by decide) rfl hk1 hP1 rfl
    generalize H1 = H at hP hS ⊢
    have hP : va_P E.1 vwCl (rw_24 E mo mn mi ma ml mt mb mr mp mk mq mc mw mz ms mf mu mv mx mh mA mB mC mM mT mHI mFC mLC mCg mTp mNx mFr mTk mVa mEn mKe mCs mAt mHd mWg mNow mImg mAsd mLea mLat mBst mRsk mTap mKys mKat mCod mWts mTes mStk mFct mSor mSiz mCel mHol mHoA mHoB mHoC mMov mTel) H := hP
    have hD : va_D A (rw_24 E mo mn mi ma ml mt mb mr mp mk mq mc mw mz ms mf mu mv mx mh mA mB mC mM mT mHI mFC mLC mCg mTp mNx mFr mTk mVa mEn mKe mCs mAt mHd mWg mNow mImg mAsd mLea mLat mBst mRsk mTap mKys mKat mCod mWts mTes mStk mFct mSor mSiz mCel mHol mHoA mHoB mHoC mMov mTel) := hD
    refine lv_if_ne (tgt := 22) hx hb dX7_sky_16 (by decide) (fun c_4 => ?_) (fun c_4 => ?_)
    · have h := h.1 c_4
      refine lv_iload_n hx hb dX7_sky_22 rfl (lv_at hl 2 rfl) ?_
      refine lv_if_ne (tgt := 34) hx hb dX7_sky_23 (by decide) (fun c_5 => ?_) (fun c_5 => ?_)
      · have h := h.1 c_5
        refine lv_aload_n hx hb dX7_sky_34 rfl (lv_at hl 0 rfl) ?_
        refine lv_iload_n hx hb dX7_sky_35 rfl (lv_at hl 1 rfl) ?_
        have hPc := hP
        have hDc := hD
        have hFc := rc_freeI hD hS hA
        refine va_calli (va_runV (As := [.int p1]) (rest := []) ⟨hx, hb, hml, hown, hts⟩ (c_X7_oddsOn l E mo mn mi ma ml mt mb mr mp mk mq mc mw mz ms mf mu mv mx mh mA mB mC mM mT H.size mHI mFC mLC mCg mTp mNx mFr mTk mVa mEn mKe mCs mAt mHd mWg mNow mImg mAsd mLea mLat mBst mRsk mTap mKys mKat mCod mWts mTes mStk mFct mSor mSiz mCel mHol mHoA mHoB mHoC mMov mTel p1 _ h) (cwV 1 hts gX7_sky_X7_oddsOn rfl rfl rfl (by decide +kernel) ⟨Nat.le_of_ble_eq_true rfl, Nat.le_of_ble_eq_true rfl⟩) ⟨fun a U g mk q => ⟨q.1, q.2.blind⟩, va_recv hK hPc (ci := 7) (q0 := 0) rfl rfl, fun U hU hW => ⟨rfl, by rw [hU], by rw [hU]; exact hPc, hE.call hS hFc hW hU, hDc.weaken (fun _ _ _ _ => trivial)⟩⟩ rfl rfl hl.1 rfl (lv_room (Nat.le_of_ble_eq_true rfl)) dX7_sky_36 ⟨Nat.zero_le _, Nat.zero_le _⟩) hS (fun q _ h => hFc q h) hFc (fun r_6 u t H1 locs ht hvm h hB hz1 hk1 hS => ?_)
        obtain ⟨w_7, w_8⟩ := u
        obtain ⟨hP1, hD1⟩ := hB
        rw [ht] at hP1
        have hP := hP1
        have hD := hD1.weaken (fun _ _ _ h => hFc _ h)
        generalize H1 = H at hP hS ⊢
        have hP : va_P E.1 vwCl (rw_24 E mo mn mi ma ml mt mb mr mp mk mq mc mw mz ms mf mu mv mx mh mA mB mC mM mT mHI mFC mLC mCg mTp mNx mFr mTk mVa mEn mKe mCs mAt mHd mWg mNow mImg mAsd mLea mLat mBst mRsk mTap mKys mKat mCod mWts mTes w_7 w_8 mSor mSiz mCel mHol mHoA mHoB mHoC mMov mTel) H := hP
        have hD : va_D A (rw_24 E mo mn mi ma ml mt mb mr mp mk mq mc mw mz ms mf mu mv mx mh mA mB mC mM mT mHI mFC mLC mCg mTp mNx mFr mTk mVa mEn mKe mCs mAt mHd mWg mNow mImg mAsd mLea mLat mBst mRsk mTap mKys mKat mCod mWts mTes w_7 w_8 mSor mSiz mCel mHol mHoA mHoB mHoC mMov mTel) := hD
        exact hret _ _ _ _ r_6 (w_7, w_8) rfl h hP hD hS dX7_sky_39
      · have h := h.2 c_5
        refine lv_aload_n hx hb dX7_sky_26 rfl (lv_at hl 0 rfl) ?_
        refine lv_iload_n hx hb dX7_sky_27 rfl (lv_at hl 1 rfl) ?_
        have hPc := hP
        have hDc := hD
        have hFc := rc_freeI hD hS hA
        refine va_calli (va_runV (As := [.int p1]) (rest := []) ⟨hx, hb, hml, hown, hts⟩ (c_X7_farOn l E mo mn mi ma ml mt mb mr mp mk mq mc mw mz ms mf mu mv mx mh mA mB mC mM mT H.size mHI mFC mLC mCg mTp mNx mFr mTk mVa mEn mKe mCs mAt mHd mWg mNow mImg mAsd mLea mLat mBst mRsk mTap mKys mKat mCod mWts mTes mStk mFct mSor mSiz mCel mHol mHoA mHoB mHoC mMov mTel p1 _ h) (cwV 1 hts gX7_sky_X7_farOn rfl rfl rfl (by decide +kernel) ⟨Nat.le_of_ble_eq_true rfl, Nat.le_of_ble_eq_true rfl⟩) ⟨fun a U g mk q => ⟨q.1, q.2.blind⟩, va_recv hK hPc (ci := 7) (q0 := 0) rfl rfl, fun U hU hW => ⟨rfl, by rw [hU], by rw [hU]; exact hPc, hE.call hS hFc hW hU, hDc.weaken (fun _ _ _ _ => trivial)⟩⟩ rfl rfl hl.1 rfl (lv_room (Nat.le_of_ble_eq_true rfl)) dX7_sky_28 ⟨Nat.zero_le _, Nat.zero_le _⟩) hS (fun q _ h => hFc q h) hFc (fun r_9 u t H1 locs ht hvm h hB hz1 hk1 hS => ?_)
        obtain ⟨hP1, hD1⟩ := hB
        rw [ht] at hP1
        have hP := hP1
        have hD := hD1.weaken (fun _ _ _ h => hFc _ h)
        generalize H1 = H at hP hS ⊢
        have hP : va_P E.1 vwCl (rw_24 E mo mn mi ma ml mt mb mr mp mk mq mc mw mz ms mf mu mv mx mh mA mB mC mM mT mHI mFC mLC mCg mTp mNx mFr mTk mVa mEn mKe mCs mAt mHd mWg mNow mImg mAsd mLea mLat mBst mRsk mTap mKys mKat mCod mWts mTes mStk mFct mSor mSiz mCel mHol mHoA mHoB mHoC mMov mTel) H := hP
        have hD : va_D A (rw_24 E mo mn mi ma ml mt mb mr mp mk mq mc mw mz ms mf mu mv mx mh mA mB mC mM mT mHI mFC mLC mCg mTp mNx mFr mTk mVa mEn mKe mCs mAt mHd mWg mNow mImg mAsd mLea mLat mBst mRsk mTap mKys mKat mCod mWts mTes mStk mFct mSor mSiz mCel mHol mHoA mHoB mHoC mMov mTel) := hD
        refine lv_goto (tgt := 39) hx hb dX7_sky_31 (by decide) ?_
        exact hret _ _ _ _ r_9 (mStk, mFct) rfl h hP hD hS dX7_sky_39
    · have h := h.2 c_4
      refine lv_ldc hx hb hown k_89 dX7_sky_19 ?_
      exact hret _ _ _ _ (-1000000001) (mStk, mFct) rfl h hP hD hS dX7_sky_21
def wp_X7_danger (p1 : Int32) (p2 : Int32) (mNow : Nat → Int32) (mStk : Nat → Int32) (mFct : Nat → Int32) (Q : Int32 → (Nat → Int32) → (Nat → Int32) → Prop) : Prop :=
  wp_X7_isPlace p1 mNow (fun (r_1 : Int32) => ((r_1 = 0 → Q (-1000000001) mStk mFct) ∧ (¬ (r_1 = 0) → wp_X7_in p2 0 60 (fun (r_3 : Int32) => ((r_3 = 0 → Q (-1000000001) mStk mFct) ∧ (¬ (r_3 = 0) → wp_X7_riskOf p1 mNow mStk mFct (fun (r_5 : Int32) (w_6 : Nat → Int32) (w_7 : Nat → Int32) => wp_X7_oddsOn p2 mNow w_6 w_7 (fun (r_8 : Int32) (w_9 : Nat → Int32) (w_10 : Nat → Int32) => Q (r_5 * r_8) w_9 w_10))))))))
set_option maxHeartbeats 4000000 in
set_option maxRecDepth 100000 in
theorem c_X7_danger (l : Launch) (E : gE) (mo mn mi ma ml mt mb mr mp mk mq mc mw mz ms mf mu mv mx mh mA mB mC mM mT : Nat) (sz : Nat) (mHI : Int32) (mFC : Int32) (mLC : Int32) (mCg : Int32) (mTp : Int32) (mNx : Int32) (mFr : Int32) (mTk : Int32) (mVa : Int32) (mEn : Int32) (mKe : Int32) (mCs : Int32) (mAt : Int32) (mHd : Int32) (mWg : Int32) (mNow : Nat → Int32) (mImg : Nat → Int32) (mAsd : Nat → Int32) (mLea : Nat → Int32) (mLat : Nat → Int32) (mBst : Nat → Int32) (mRsk : Nat → Int32) (mTap : Nat → Int32) (mKys : Nat → Int32) (mKat : Nat → Int32) (mCod : Nat → Int32) (mWts : Nat → Int32) (mTes : Nat → Int32) (mStk : Nat → Int32) (mFct : Nat → Int32) (mSor : Nat → Int32) (mSiz : Nat → Int32) (mCel : Nat → Int32) (mHol : Nat → Int32) (mHoA : Nat → Int32) (mHoB : Nat → Int32) (mHoC : Nat → Int32) (mMov : Nat → Int32) (mTel : Nat → Int32) (p1 p2 : Int32)  (Q : Int32 → (Nat → Int32) → (Nat → Int32) → Prop) (h : wp_X7_danger p1 p2 mNow mStk mFct Q) : Met l yX7_danger wsX7_danger ({ frames := 3, cells := 0, slots := 0, locals := 70 } : Room) (va_Pc [.ref mo, .int p1, .int p2] (rc_B E (rw_24 E mo mn mi ma ml mt mb mr mp mk mq mc mw mz ms mf mu mv mx mh mA mB mC mM mT mHI mFC mLC mCg mTp mNx mFr mTk mVa mEn mKe mCs mAt mHd mWg mNow mImg mAsd mLea mLat mBst mRsk mTap mKys mKat mCod mWts mTes mStk mFct mSor mSiz mCel mHol mHoA mHoB mHoC mMov mTel) sz)) (va_Qi (S := (Nat → Int32) × (Nat → Int32)) (fun (r : Int32) (u : (Nat → Int32) × (Nat → Int32)) => Q r u.1 u.2) (fun u t => rc_C E (va_A (rw_24 E mo mn mi ma ml mt mb mr mp mk mq mc mw mz ms mf mu mv mx mh mA mB mC mM mT mHI mFC mLC mCg mTp mNx mFr mTk mVa mEn mKe mCs mAt mHd mWg mNow mImg mAsd mLea mLat mBst mRsk mTap mKys mKat mCod mWts mTes mStk mFct mSor mSiz mCel mHol mHoA mHoB mHoC mMov mTel) sz) (rw_24 E mo mn mi ma ml mt mb mr mp mk mq mc mw mz ms mf mu mv mx mh mA mB mC mM mT mHI mFC mLC mCg mTp mNx mFr mTk mVa mEn mKe mCs mAt mHd mWg mNow mImg mAsd mLea mLat mBst mRsk mTap mKys mKat mCod mWts mTes u.1 u.2 mSor mSiz mCel mHol mHoA mHoB mHoC mMov mTel) t) (va_A (rw_24 E mo mn mi ma ml mt mb mr mp mk mq mc mw mz ms mf mu mv mx mh mA mB mC mM mT mHI mFC mLC mCg mTp mNx mFr mTk mVa mEn mKe mCs mAt mHd mWg mNow mImg mAsd mLea mLat mBst mRsk mTap mKys mKat mCod mWts mTes mStk mFct mSor mSiz mCel mHol mHoA mHoB mHoC mMov mTel) sz)) 0 0 (va_A (rw_24 E mo mn mi ma ml mt mb mr mp mk mq mc mw mz ms mf mu mv mx mh mA mB mC mM mT mHI mFC mLC mCg mTp mNx mFr mTk mVa mEn mKe mCs mAt mHd mWg mNow mImg mAsd mLea mLat mBst mRsk mTap mKys mKat mCod mWts mTes mStk mFct mSor mSiz mCel mHol mHoA mHoB mHoC mMov mTel) sz) := by
  refine rc_enterI (cc := cX7_danger) (maxL := 3) (by decide) rfl (Nat.le_of_ble_eq_true rfl) ?_
  intro p e s m args below meth c QQ A hx hb hml hown hts hmn hE hP hD hA hret ls hl
  have hown : s.vm.findClass RX7 = some m.cls := hown
  have hK := hE.1
  have hS : va_S A s.heap s.heap [] := va_S.rf
  have hl : lv_has ls 3 [(0, .ref mo), (1, .int p1), (2, .int p2)] := hl
  have k_89 := hts (.constant RX7 89 (-1000000001)) (List.mem_of_getElem? (i := 1) rfl)
  unfold wp_X7_danger at h
  obtain ⟨H, hH⟩ : ∃ H, H = s.heap := ⟨_, rfl⟩
  obtain ⟨locs, hlocs⟩ : ∃ locs : List Loc, locs = [] := ⟨_, rfl⟩
  have hP : va_P E.1 vwCl (rw_24 E mo mn mi ma ml mt mb mr mp mk mq mc mw mz ms mf mu mv mx mh mA mB mC mM mT mHI mFC mLC mCg mTp mNx mFr mTk mVa mEn mKe mCs mAt mHd mWg mNow mImg mAsd mLea mLat mBst mRsk mTap mKys mKat mCod mWts mTes mStk mFct mSor mSiz mCel mHol mHoA mHoB mHoC mMov mTel) H := by rw [hH]; exact hP
  have hS : va_S A s.heap H locs := by rw [hH, hlocs]; exact hS
  suffices hgo : W p l e ({ frames := 3, cells := 0, slots := 0, locals := 70 } : Room) s m args below meth c H locs 0 0 QQ (F0 m 0 ls []) from by rw [hH, hlocs] at hgo; exact hgo
  refine lv_aload_n hx hb dX7_danger_0 rfl (lv_at hl 0 rfl) ?_
  refine lv_iload_n hx hb dX7_danger_1 rfl (lv_at hl 1 rfl) ?_
  have hPc := hP
  have hDc := hD
  have hFc := rc_freeI hD hS hA
  refine va_calli (va_runV (As := [.int p1]) (rest := []) ⟨hx, hb, hml, hown, hts⟩ (c_X7_isPlace l E mo mn mi ma ml mt mb mr mp mk mq mc mw mz ms mf mu mv mx mh mA mB mC mM mT H.size mHI mFC mLC mCg mTp mNx mFr mTk mVa mEn mKe mCs mAt mHd mWg mNow mImg mAsd mLea mLat mBst mRsk mTap mKys mKat mCod mWts mTes mStk mFct mSor mSiz mCel mHol mHoA mHoB mHoC mMov mTel p1 _ h) (cwV 1 hts gX7_danger_X7_isPlace rfl rfl rfl (by decide +kernel) ⟨Nat.le_of_ble_eq_true rfl, Nat.le_of_ble_eq_true rfl⟩) ⟨fun a U g mk q => ⟨q.1, q.2.blind⟩, va_recv hK hPc (ci := 7) (q0 := 0) rfl rfl, fun U hU hW => ⟨rfl, by rw [hU], by rw [hU]; exact hPc, hE.call hS hFc hW hU, hDc.weaken (fun _ _ _ _ => trivial)⟩⟩ rfl rfl hl.1 rfl (lv_room (Nat.le_of_ble_eq_true rfl)) dX7_danger_2 ⟨Nat.zero_le _, Nat.zero_le _⟩) hS (fun q _ h => hFc q h) hFc (fun r_1 u t H1 locs ht hvm h hB hz1 hk1 hS => ?_)
  obtain ⟨hP1, hD1⟩ := hB
  rw [ht] at hP1
  have hP := hP1
  have hD := hD1.weaken (fun _ _ _ h => hFc _ h)
  generalize H1 = H at hP hS ⊢
  have hP : va_P E.1 vwCl (rw_24 E mo mn mi ma ml mt mb mr mp mk mq mc mw mz ms mf mu mv mx mh mA mB mC mM mT mHI mFC mLC mCg mTp mNx mFr mTk mVa mEn mKe mCs mAt mHd mWg mNow mImg mAsd mLea mLat mBst mRsk mTap mKys mKat mCod mWts mTes mStk mFct mSor mSiz mCel mHol mHoA mHoB mHoC mMov mTel) H := hP
  have hD : va_D A (rw_24 E mo mn mi ma ml mt mb mr mp mk mq mc mw mz ms mf mu mv mx mh mA mB mC mM mT mHI mFC mLC mCg mTp mNx mFr mTk mVa mEn mKe mCs mAt mHd mWg mNow mImg mAsd mLea mLat mBst mRsk mTap mKys mKat mCod mWts mTes mStk mFct mSor mSiz mCel mHol mHoA mHoB mHoC mMov mTel) := hD
  refine lv_if_eq (tgt := 32) hx hb dX7_danger_5 (by decide) (fun c_2 => ?_) (fun c_2 => ?_)
  · have h := h.1 c_2
    refine lv_ldc hx hb hown k_89 dX7_danger_32 ?_
    exact hret _ _ _ _ (-1000000001) (mStk, mFct) rfl h hP hD hS dX7_danger_34
  · have h := h.2 c_2
    refine lv_iload_n hx hb dX7_danger_8 rfl (lv_at hl 2 rfl) ?_
    refine lv_iconst (v := 0) hx hb dX7_danger_9 (by decide) ?_
    refine lv_bipush (v := 60) hx hb dX7_danger_10 (by decide) ?_
    have hPc := hP.sub (ws' := []) [] rfl
    have hDc := hD.sub (ws' := []) [] (by decide) rfl
    have hFc := va_free (wc := []) hD hS hA [] rfl
    refine va_calli (va_runS (As := [.int p2, .int 0, .int 60]) (rest := []) ⟨hx, hb, hml, hown, hts⟩ (c_X7_in l E H.size p2 0 60 _ h) (va_cwS 3 hts gX7_danger_X7_in rfl rfl rfl (by decide +kernel) ⟨Nat.le_of_ble_eq_true rfl, Nat.le_of_ble_eq_true rfl⟩) ⟨fun a U g mk q => ⟨q.1, q.2.blind⟩, fun U hU hW => ⟨rfl, by rw [hU], by rw [hU]; exact hPc, hE.call hS hFc hW hU, hDc.weaken (fun _ _ _ _ => trivial)⟩⟩ rfl rfl hl.1 rfl (lv_room (Nat.le_of_ble_eq_true rfl)) dX7_danger_12 ⟨Nat.zero_le _, Nat.zero_le _⟩) hS (fun q _ h => hFc q h) hFc (fun r_3 u t H1 locs ht hvm h hB hz1 hk1 hS => ?_)
    obtain ⟨hP1, hD1⟩ := hB
    rw [ht] at hP1
    obtain ⟨hP, hD⟩ := rc_foc hP hD [] [none, none, none, none, none, none, none, none, none, none, none, none, none, none, none, none, none, none, none, none, none, none, none, none, none] (by decide) rfl hk1 hP1 rfl
    generalize H1 = H at hP hS ⊢
    have hP : va_P E.1 vwCl (rw_24 E mo mn mi ma ml mt mb mr mp mk mq mc mw mz ms mf mu mv mx mh mA mB mC mM mT mHI mFC mLC mCg mTp mNx mFr mTk mVa mEn mKe mCs mAt mHd mWg mNow mImg mAsd mLea mLat mBst mRsk mTap mKys mKat mCod mWts mTes mStk mFct mSor mSiz mCel mHol mHoA mHoB mHoC mMov mTel) H := hP
    have hD : va_D A (rw_24 E mo mn mi ma ml mt mb mr mp mk mq mc mw mz ms mf mu mv mx mh mA mB mC mM mT mHI mFC mLC mCg mTp mNx mFr mTk mVa mEn mKe mCs mAt mHd mWg mNow mImg mAsd mLea mLat mBst mRsk mTap mKys mKat mCod mWts mTes mStk mFct mSor mSiz mCel mHol mHoA mHoB mHoC mMov mTel) := hD
    refine lv_if_eq (tgt := 32) hx hb dX7_danger_15 (by decide) (fun c_4 => ?_) (fun c_4 => ?_)
    · have h := h.1 c_4
      refine lv_ldc hx hb hown k_89 dX7_danger_32 ?_
      exact hret _ _ _ _ (-1000000001) (mStk, mFct) rfl h hP hD hS dX7_danger_34
    · have h := h.2 c_4
      refine lv_aload_n hx hb dX7_danger_18 rfl (lv_at hl 0 rfl) ?_
      refine lv_iload_n hx hb dX7_danger_19 rfl (lv_at hl 1 rfl) ?_
      have hPc := hP
      have hDc := hD
      have hFc := rc_freeI hD hS hA
      refine va_calli (va_runV (As := [.int p1]) (rest := []) ⟨hx, hb, hml, hown, hts⟩ (c_X7_riskOf l E mo mn mi ma ml mt mb mr mp mk mq mc mw mz ms mf mu mv mx mh mA mB mC mM mT H.size mHI mFC mLC mCg mTp mNx mFr mTk mVa mEn mKe mCs mAt mHd mWg mNow mImg mAsd mLea mLat mBst mRsk mTap mKys mKat mCod mWts mTes mStk mFct mSor mSiz mCel mHol mHoA mHoB mHoC mMov mTel p1 _ h) (cwV 1 hts gX7_danger_X7_riskOf rfl rfl rfl (by decide +kernel) ⟨Nat.le_of_ble_eq_true rfl, Nat.le_of_ble_eq_true rfl⟩) ⟨fun a U g mk q => ⟨q.1, q.2.blind⟩, va_recv hK hPc (ci := 7) (q0 := 0) rfl rfl, fun U hU hW => ⟨rfl, by rw [hU], by rw [hU]; exact hPc, hE.call hS hFc hW hU, hDc.weaken (fun _ _ _ _ => trivial)⟩⟩ rfl rfl hl.1 rfl (lv_room (Nat.le_of_ble_eq_true rfl)) dX7_danger_20 ⟨Nat.zero_le _, Nat.zero_le _⟩) hS (fun q _ h => hFc q h) hFc (fun r_5 u t H1 locs ht hvm h hB hz1 hk1 hS => ?_)
      obtain ⟨w_6, w_7⟩ := u
      obtain ⟨hP1, hD1⟩ := hB
      rw [ht] at hP1
      have hP := hP1
      have hD := hD1.weaken (fun _ _ _ h => hFc _ h)
      generalize H1 = H at hP hS ⊢
      have hP : va_P E.1 vwCl (rw_24 E mo mn mi ma ml mt mb mr mp mk mq mc mw mz ms mf mu mv mx mh mA mB mC mM mT mHI mFC mLC mCg mTp mNx mFr mTk mVa mEn mKe mCs mAt mHd mWg mNow mImg mAsd mLea mLat mBst mRsk mTap mKys mKat mCod mWts mTes w_6 w_7 mSor mSiz mCel mHol mHoA mHoB mHoC mMov mTel) H := hP
      have hD : va_D A (rw_24 E mo mn mi ma ml mt mb mr mp mk mq mc mw mz ms mf mu mv mx mh mA mB mC mM mT mHI mFC mLC mCg mTp mNx mFr mTk mVa mEn mKe mCs mAt mHd mWg mNow mImg mAsd mLea mLat mBst mRsk mTap mKys mKat mCod mWts mTes w_6 w_7 mSor mSiz mCel mHol mHoA mHoB mHoC mMov mTel) := hD
      refine lv_aload_n hx hb dX7_danger_23 rfl (lv_at hl 0 rfl) ?_
      refine lv_iload_n hx hb dX7_danger_24 rfl (lv_at hl 2 rfl) ?_
      have hPc := hP
      have hDc := hD
      have hFc := rc_freeI hD hS hA
      refine va_calli (va_runV (As := [.int p2]) (rest := [.int r_5]) ⟨hx, hb, hml, hown, hts⟩ (c_X7_oddsOn l E mo mn mi ma ml mt mb mr mp mk mq mc mw mz ms mf mu mv mx mh mA mB mC mM mT H.size mHI mFC mLC mCg mTp mNx mFr mTk mVa mEn mKe mCs mAt mHd mWg mNow mImg mAsd mLea mLat mBst mRsk mTap mKys mKat mCod mWts mTes w_6 w_7 mSor mSiz mCel mHol mHoA mHoB mHoC mMov mTel p2 _ h) (cwV 1 hts gX7_danger_X7_oddsOn rfl rfl rfl (by decide +kernel) ⟨Nat.le_of_ble_eq_true rfl, Nat.le_of_ble_eq_true rfl⟩) ⟨fun a U g mk q => ⟨q.1, q.2.blind⟩, va_recv hK hPc (ci := 7) (q0 := 0) rfl rfl, fun U hU hW => ⟨rfl, by rw [hU], by rw [hU]; exact hPc, hE.call hS hFc hW hU, hDc.weaken (fun _ _ _ _ => trivial)⟩⟩ rfl rfl hl.1 rfl (lv_room (Nat.le_of_ble_eq_true rfl)) dX7_danger_25 ⟨Nat.zero_le _, Nat.zero_le _⟩) hS (fun q _ h => hFc q h) hFc (fun r_8 u t H1 locs ht hvm h hB hz1 hk1 hS => ?_)
      obtain ⟨w_9, w_10⟩ := u
      obtain ⟨hP1, hD1⟩ := hB
      rw [ht] at hP1
      have hP := hP1
      have hD := hD1.weaken (fun _ _ _ h => hFc _ h)
      generalize H1 = H at hP hS ⊢
      have hP : va_P E.1 vwCl (rw_24 E mo mn mi ma ml mt mb mr mp mk mq mc mw mz ms mf mu mv mx mh mA mB mC mM mT mHI mFC mLC mCg mTp mNx mFr mTk mVa mEn mKe mCs mAt mHd mWg mNow mImg mAsd mLea mLat mBst mRsk mTap mKys mKat mCod mWts mTes w_9 w_10 mSor mSiz mCel mHol mHoA mHoB mHoC mMov mTel) H := hP
      have hD : va_D A (rw_24 E mo mn mi ma ml mt mb mr mp mk mq mc mw mz ms mf mu mv mx mh mA mB mC mM mT mHI mFC mLC mCg mTp mNx mFr mTk mVa mEn mKe mCs mAt mHd mWg mNow mImg mAsd mLea mLat mBst mRsk mTap mKys mKat mCod mWts mTes w_9 w_10 mSor mSiz mCel mHol mHoA mHoB mHoC mMov mTel) := hD
      refine lv_imul hx hb dX7_danger_28 ?_
      refine lv_goto (tgt := 34) hx hb dX7_danger_29 (by decide) ?_
      exact hret _ _ _ _ (r_5 * r_8) (w_9, w_10) rfl h hP hD hS dX7_danger_34
def jp_X7_come_17 (p1 : Int32)  (Q : Int32 → (Nat → Int32) → Prop) (mNow : Nat → Int32) : Prop :=
  ((¬ p1 = (-1000000005) → wp_X7_becomes 2 p1 mNow (fun (r_2 : Int32) (w_3 : Nat → Int32) => wp_X7_told0 r_2 (fun (r_4 : Int32) => Q r_4 w_3))) ∧ (p1 = (-1000000005) → wp_X7_becomes 2 (-1) mNow (fun (r_5 : Int32) (w_6 : Nat → Int32) => wp_X7_told0 r_5 (fun (r_7 : Int32) => Q r_7 w_6))))
def wp_X7_come (p1 : Int32) (mNow : Nat → Int32) (Q : Int32 → (Nat → Int32) → Prop) : Prop :=
  ((p1 = (-1000000005) → jp_X7_come_17 p1 Q mNow) ∧ (¬ (p1 = (-1000000005)) → wp_X7_isPlace p1 mNow (fun (r_9 : Int32) => ((¬ r_9 = 0 → jp_X7_come_17 p1 Q mNow) ∧ (r_9 = 0 → Q (-1000000001) mNow)))))
set_option maxHeartbeats 4000000 in
set_option maxRecDepth 100000 in
theorem c_X7_come (l : Launch) (E : gE) (mo mn mi ma ml mt mb mr mp mk mq mc mw mz ms mf mu mv mx mh mA mB mC mM mT : Nat) (sz : Nat) (mHI : Int32) (mFC : Int32) (mLC : Int32) (mCg : Int32) (mTp : Int32) (mNx : Int32) (mFr : Int32) (mTk : Int32) (mVa : Int32) (mEn : Int32) (mKe : Int32) (mCs : Int32) (mAt : Int32) (mHd : Int32) (mWg : Int32) (mNow : Nat → Int32) (mImg : Nat → Int32) (mAsd : Nat → Int32) (mLea : Nat → Int32) (mLat : Nat → Int32) (mBst : Nat → Int32) (mRsk : Nat → Int32) (mTap : Nat → Int32) (mKys : Nat → Int32) (mKat : Nat → Int32) (mCod : Nat → Int32) (mWts : Nat → Int32) (mTes : Nat → Int32) (mStk : Nat → Int32) (mFct : Nat → Int32) (mSor : Nat → Int32) (mSiz : Nat → Int32) (mCel : Nat → Int32) (mHol : Nat → Int32) (mHoA : Nat → Int32) (mHoB : Nat → Int32) (mHoC : Nat → Int32) (mMov : Nat → Int32) (mTel : Nat → Int32) (p1 : Int32)  (Q : Int32 → (Nat → Int32) → Prop) (h : wp_X7_come p1 mNow Q) : Met l yX7_come wsX7_come ({ frames := 2, cells := 0, slots := 0, locals := 43 } : Room) (va_Pc [.ref mo, .int p1] (rc_B E (rw_24 E mo mn mi ma ml mt mb mr mp mk mq mc mw mz ms mf mu mv mx mh mA mB mC mM mT mHI mFC mLC mCg mTp mNx mFr mTk mVa mEn mKe mCs mAt mHd mWg mNow mImg mAsd mLea mLat mBst mRsk mTap mKys mKat mCod mWts mTes mStk mFct mSor mSiz mCel mHol mHoA mHoB mHoC mMov mTel) sz)) (va_Qi (S := (Nat → Int32)) (fun (r : Int32) (u : (Nat → Int32)) => Q r u) (fun u t => rc_C E (va_A (rw_24 E mo mn mi ma ml mt mb mr mp mk mq mc mw mz ms mf mu mv mx mh mA mB mC mM mT mHI mFC mLC mCg mTp mNx mFr mTk mVa mEn mKe mCs mAt mHd mWg mNow mImg mAsd mLea mLat mBst mRsk mTap mKys mKat mCod mWts mTes mStk mFct mSor mSiz mCel mHol mHoA mHoB mHoC mMov mTel) sz) (rw_24 E mo mn mi ma ml mt mb mr mp mk mq mc mw mz ms mf mu mv mx mh mA mB mC mM mT mHI mFC mLC mCg mTp mNx mFr mTk mVa mEn mKe mCs mAt mHd mWg u mImg mAsd mLea mLat mBst mRsk mTap mKys mKat mCod mWts mTes mStk mFct mSor mSiz mCel mHol mHoA mHoB mHoC mMov mTel) t) (va_A (rw_24 E mo mn mi ma ml mt mb mr mp mk mq mc mw mz ms mf mu mv mx mh mA mB mC mM mT mHI mFC mLC mCg mTp mNx mFr mTk mVa mEn mKe mCs mAt mHd mWg mNow mImg mAsd mLea mLat mBst mRsk mTap mKys mKat mCod mWts mTes mStk mFct mSor mSiz mCel mHol mHoA mHoB mHoC mMov mTel) sz)) 0 0 (va_A (rw_24 E mo mn mi ma ml mt mb mr mp mk mq mc mw mz ms mf mu mv mx mh mA mB mC mM mT mHI mFC mLC mCg mTp mNx mFr mTk mVa mEn mKe mCs mAt mHd mWg mNow mImg mAsd mLea mLat mBst mRsk mTap mKys mKat mCod mWts mTes mStk mFct mSor mSiz mCel mHol mHoA mHoB mHoC mMov mTel) sz) := by
  refine rc_enterI (cc := cX7_come) (maxL := 2) (by decide) rfl (Nat.le_of_ble_eq_true rfl) ?_
  intro p e s m args below meth c QQ A hx hb hml hown hts hmn hE hP hD hA hret ls hl
  have hown : s.vm.findClass RX7 = some m.cls := hown
  have hK := hE.1
  have hS : va_S A s.heap s.heap [] := va_S.rf
  have hl : lv_has ls 2 [(0, .ref mo), (1, .int p1)] := hl
  have k_84 := hts (.constant RX7 84 (-1000000005)) (List.mem_of_getElem? (i := 1) rfl)
  have k_89 := hts (.constant RX7 89 (-1000000001)) (List.mem_of_getElem? (i := 2) rfl)
  have J17 : ∀ (mNow : Nat → Int32), jp_X7_come_17 p1 Q mNow → ∀ (H : Heap) (locs : List Loc), va_P E.1 vwCl (rw_24 E mo mn mi ma ml mt mb mr mp mk mq mc mw mz ms mf mu mv mx mh mA mB mC mM mT mHI mFC mLC mCg mTp mNx mFr mTk mVa mEn mKe mCs mAt mHd mWg mNow mImg mAsd mLea mLat mBst mRsk mTap mKys mKat mCod mWts mTes mStk mFct mSor mSiz mCel mHol mHoA mHoB mHoC mMov mTel) H → va_D A (rw_24 E mo mn mi ma ml mt mb mr mp mk mq mc mw mz ms mf mu mv mx mh mA mB mC mM mT mHI mFC mLC mCg mTp mNx mFr mTk mVa mEn mKe mCs mAt mHd mWg mNow mImg mAsd mLea mLat mBst mRsk mTap mKys mKat mCod mWts mTes mStk mFct mSor mSiz mCel mHol mHoA mHoB mHoC mMov mTel) → va_S A s.heap H locs → ∀ ls : Array Slot, lv_has ls 2 [(0, .ref mo), (1, .int p1)] → W p l e ({ frames := 2, cells := 0, slots := 0, locals := 43 } : Room) s m args below meth c H locs 0 0 QQ (F0 m 17 ls []) := by
    intro mNow h H locs hP hD hS ls hl
    unfold jp_X7_come_17 at h
    refine lv_aload_n hx hb dX7_come_17 rfl (lv_at hl 0 rfl) ?_
    refine lv_iconst (v := 2) hx hb dX7_come_18 (by decide) ?_
    refine lv_iload_n hx hb dX7_come_19 rfl (lv_at hl 1 rfl) ?_
    refine lv_ldc hx hb hown k_84 dX7_come_20 ?_
    refine lv_icmp_ne (tgt := 29) hx hb dX7_come_22 (by decide) (fun c_1 => ?_) (fun c_1 => ?_)
    · have h := h.1 c_1
      refine lv_iload_n hx hb dX7_come_29 rfl (lv_at hl 1 rfl) ?_
      have hPc := hP
      have hDc := hD
      have hFc := rc_freeI hD hS hA
      refine va_calli (va_runV (As := [.int 2, .int p1]) (rest := []) ⟨hx, hb, hml, hown, hts⟩ (c_X7_becomes l E mo mn mi ma ml mt mb mr mp mk mq mc mw mz ms mf mu mv mx mh mA mB mC mM mT H.size mHI mFC mLC mCg mTp mNx mFr mTk mVa mEn mKe mCs mAt mHd mWg mNow mImg mAsd mLea mLat mBst mRsk mTap mKys mKat mCod mWts mTes mStk mFct mSor mSiz mCel mHol mHoA mHoB mHoC mMov mTel 2 p1 _ h) (cwV 2 hts gX7_come_X7_becomes rfl rfl rfl (by decide +kernel) ⟨Nat.le_of_ble_eq_true rfl, Nat.le_of_ble_eq_true rfl⟩) ⟨fun a U g mk q => ⟨q.1, q.2.blind⟩, va_recv hK hPc (ci := 7) (q0 := 0) rfl rfl, fun U hU hW => ⟨rfl, by rw [hU], by rw [hU]; exact hPc, hE.call hS hFc hW hU, hDc.weaken (fun _ _ _ _ => trivial)⟩⟩ rfl rfl hl.1 rfl (lv_room (Nat.le_of_ble_eq_true rfl)) dX7_come_30 ⟨Nat.zero_le _, Nat.zero_le _⟩) hS (fun q _ h => hFc q h) hFc (fun r_2 u t H1 locs ht hvm h hB hz1 hk1 hS => ?_)
      obtain ⟨w_3, rfl⟩ : ∃ z, z = u := ⟨_, rfl⟩
      obtain ⟨hP1, hD1⟩ := hB
      rw [ht] at hP1
      have hP := hP1
      have hD := hD1.weaken (fun _ _ _ h => hFc _ h)
      generalize H1 = H at hP hS ⊢
      have hP : va_P E.1 vwCl (rw_24 E mo mn mi ma ml mt mb mr mp mk mq mc mw mz ms mf mu mv mx mh mA mB mC mM mT mHI mFC mLC mCg mTp mNx mFr mTk mVa mEn mKe mCs mAt mHd mWg w_3 mImg mAsd mLea mLat mBst mRsk mTap mKys mKat mCod mWts mTes mStk mFct mSor mSiz mCel mHol mHoA mHoB mHoC mMov mTel) H := hP
      have hD : va_D A (rw_24 E mo mn mi ma ml mt mb mr mp mk mq mc mw mz ms mf mu mv mx mh mA mB mC mM mT mHI mFC mLC mCg mTp mNx mFr mTk mVa mEn mKe mCs mAt mHd mWg w_3 mImg mAsd mLea mLat mBst mRsk mTap mKys mKat mCod mWts mTes mStk mFct mSor mSiz mCel mHol mHoA mHoB mHoC mMov mTel) := hD
      have hPc := hP.sub (ws' := []) [] rfl
      have hDc := hD.sub (ws' := []) [] (by decide) rfl
      have hFc := va_free (wc := []) hD hS hA [] rfl
      refine va_calli (va_runS (As := [.int r_2]) (rest := []) ⟨hx, hb, hml, hown, hts⟩ (c_X7_told0 l E H.size r_2 _ h) (va_cwS 1 hts gX7_come_X7_told0 rfl rfl rfl (by decide +kernel) ⟨Nat.le_of_ble_eq_true rfl, Nat.le_of_ble_eq_true rfl⟩) ⟨fun a U g mk q => ⟨q.1, q.2.blind⟩, fun U hU hW => ⟨rfl, by rw [hU], by rw [hU]; exact hPc, hE.call hS hFc hW hU, hDc.weaken (fun _ _ _ _ => trivial)⟩⟩ rfl rfl hl.1 rfl (lv_room (Nat.le_of_ble_eq_true rfl)) dX7_come_33 ⟨Nat.zero_le _, Nat.zero_le _⟩) hS (fun q _ h => hFc q h) hFc (fun r_4 u t H1 locs ht hvm h hB hz1 hk1 hS => ?_)
      obtain ⟨hP1, hD1⟩ := hB
      rw [ht] at hP1
      obtain ⟨hP, hD⟩ := rc_foc hP hD [] [none, none, none, none, none, none, none, none, none, none, none, none, none, none, none, none, none, none, none, none, none, none, none, none, none] (by decide) rfl hk1 hP1 rfl
      generalize H1 = H at hP hS ⊢
      have hP : va_P E.1 vwCl (rw_24 E mo mn mi ma ml mt mb mr mp mk mq mc mw mz ms mf mu mv mx mh mA mB mC mM mT mHI mFC mLC mCg mTp mNx mFr mTk mVa mEn mKe mCs mAt mHd mWg w_3 mImg mAsd mLea mLat mBst mRsk mTap mKys mKat mCod mWts mTes mStk mFct mSor mSiz mCel mHol mHoA mHoB mHoC mMov mTel) H := hP
      have hD : va_D A (rw_24 E mo mn mi ma ml mt mb mr mp mk mq mc mw mz ms mf mu mv mx mh mA mB mC mM mT mHI mFC mLC mCg mTp mNx mFr mTk mVa mEn mKe mCs mAt mHd mWg w_3 mImg mAsd mLea mLat mBst mRsk mTap mKys mKat mCod mWts mTes mStk mFct mSor mSiz mCel mHol mHoA mHoB mHoC mMov mTel) := hD
      exact hret _ _ _ _ r_4 (w_3) rfl h hP hD hS dX7_come_36
    · have h := h.2 c_1
      refine lv_iconst (v := (-1)) hx hb dX7_come_25 (by decide) ?_
      refine lv_goto (tgt := 30) hx hb dX7_come_26 (by decide) ?_
      have hPc := hP
      have hDc := hD
      have hFc := rc_freeI hD hS hA
      refine va_calli (va_runV (As := [.int 2, .int (-1)]) (rest := []) ⟨hx, hb, hml, hown, hts⟩ (c_X7_becomes l E mo mn mi ma ml mt mb mr mp mk mq mc mw mz ms mf mu mv mx mh mA mB mC mM mT H.size mHI mFC mLC mCg mTp mNx mFr mTk mVa mEn mKe mCs mAt mHd mWg mNow mImg mAsd mLea mLat mBst mRsk mTap mKys mKat mCod mWts mTes mStk mFct mSor mSiz mCel mHol mHoA mHoB mHoC mMov mTel 2 (-1) _ h) (cwV 2 hts gX7_come_X7_becomes rfl rfl rfl (by decide +kernel) ⟨Nat.le_of_ble_eq_true rfl, Nat.le_of_ble_eq_true rfl⟩) ⟨fun a U g mk q => ⟨q.1, q.2.blind⟩, va_recv hK hPc (ci := 7) (q0 := 0) rfl rfl, fun U hU hW => ⟨rfl, by rw [hU], by rw [hU]; exact hPc, hE.call hS hFc hW hU, hDc.weaken (fun _ _ _ _ => trivial)⟩⟩ rfl rfl hl.1 rfl (lv_room (Nat.le_of_ble_eq_true rfl)) dX7_come_30 ⟨Nat.zero_le _, Nat.zero_le _⟩) hS (fun q _ h => hFc q h) hFc (fun r_5 u t H1 locs ht hvm h hB hz1 hk1 hS => ?_)
      obtain ⟨w_6, rfl⟩ : ∃ z, z = u := ⟨_, rfl⟩
      obtain ⟨hP1, hD1⟩ := hB
      rw [ht] at hP1
      have hP := hP1
      have hD := hD1.weaken (fun _ _ _ h => hFc _ h)
      generalize H1 = H at hP hS ⊢
      have hP : va_P E.1 vwCl (rw_24 E mo mn mi ma ml mt mb mr mp mk mq mc mw mz ms mf mu mv mx mh mA mB mC mM mT mHI mFC mLC mCg mTp mNx mFr mTk mVa mEn mKe mCs mAt mHd mWg w_6 mImg mAsd mLea mLat mBst mRsk mTap mKys mKat mCod mWts mTes mStk mFct mSor mSiz mCel mHol mHoA mHoB mHoC mMov mTel) H := hP
      have hD : va_D A (rw_24 E mo mn mi ma ml mt mb mr mp mk mq mc mw mz ms mf mu mv mx mh mA mB mC mM mT mHI mFC mLC mCg mTp mNx mFr mTk mVa mEn mKe mCs mAt mHd mWg w_6 mImg mAsd mLea mLat mBst mRsk mTap mKys mKat mCod mWts mTes mStk mFct mSor mSiz mCel mHol mHoA mHoB mHoC mMov mTel) := hD
      have hPc := hP.sub (ws' := []) [] rfl
      have hDc := hD.sub (ws' := []) [] (by decide) rfl
      have hFc := va_free (wc := []) hD hS hA [] rfl
      refine va_calli (va_runS (As := [.int r_5]) (rest := []) ⟨hx, hb, hml, hown, hts⟩ (c_X7_told0 l E H.size r_5 _ h) (va_cwS 1 hts gX7_come_X7_told0 rfl rfl rfl (by decide +kernel) ⟨Nat.le_of_ble_eq_true rfl, Nat.le_of_ble_eq_true rfl⟩) ⟨fun a U g mk q => ⟨q.1, q.2.blind⟩, fun U hU hW => ⟨rfl, by rw [hU], by rw [hU]; exact hPc, hE.call hS hFc hW hU, hDc.weaken (fun _ _ _ _ => trivial)⟩⟩ rfl rfl hl.1 rfl (lv_room (Nat.le_of_ble_eq_true rfl)) dX7_come_33 ⟨Nat.zero_le _, Nat.zero_le _⟩) hS (fun q _ h => hFc q h) hFc (fun r_7 u t H1 locs ht hvm h hB hz1 hk1 hS => ?_)
      obtain ⟨hP1, hD1⟩ := hB
      rw [ht] at hP1
      obtain ⟨hP, hD⟩ := rc_foc hP hD [] [none, none, none, none, none, none, none, none, none, none, none, none, none, none, none, none, none, none, none, none, none, none, none, none, none] (by decide) rfl hk1 hP1 rfl
      generalize H1 = H at hP hS ⊢
      have hP : va_P E.1 vwCl (rw_24 E mo mn mi ma ml mt mb mr mp mk mq mc mw mz ms mf mu mv mx mh mA mB mC mM mT mHI mFC mLC mCg mTp mNx mFr mTk mVa mEn mKe mCs mAt mHd mWg w_6 mImg mAsd mLea mLat mBst mRsk mTap mKys mKat mCod mWts mTes mStk mFct mSor mSiz mCel mHol mHoA mHoB mHoC mMov mTel) H := hP
      have hD : va_D A (rw_24 E mo mn mi ma ml mt mb mr mp mk mq mc mw mz ms mf mu mv mx mh mA mB mC mM mT mHI mFC mLC mCg mTp mNx mFr mTk mVa mEn mKe mCs mAt mHd mWg w_6 mImg mAsd mLea mLat mBst mRsk mTap mKys mKat mCod mWts mTes mStk mFct mSor mSiz mCel mHol mHoA mHoB mHoC mMov mTel) := hD
      exact hret _ _ _ _ r_7 (w_6) rfl h hP hD hS dX7_come_36
  unfold wp_X7_come at h
  obtain ⟨H, hH⟩ : ∃ H, H = s.heap := ⟨_, rfl⟩
  obtain ⟨locs, hlocs⟩ : ∃ locs : List Loc, locs = [] := ⟨_, rfl⟩
  have hP : va_P E.1 vwCl (rw_24 E mo mn mi ma ml mt mb mr mp mk mq mc mw mz ms mf mu mv mx mh mA mB mC mM mT mHI mFC mLC mCg mTp mNx mFr mTk mVa mEn mKe mCs mAt mHd mWg mNow mImg mAsd mLea mLat mBst mRsk mTap mKys mKat mCod mWts mTes mStk mFct mSor mSiz mCel mHol mHoA mHoB mHoC mMov mTel) H := by rw [hH]; exact hP
  have hS : va_S A s.heap H locs := by rw [hH, hlocs]; exact hS
  suffices hgo : W p l e ({ frames := 2, cells := 0, slots := 0, locals := 43 } : Room) s m args below meth c H locs 0 0 QQ (F0 m 0 ls []) from by rw [hH, hlocs] at hgo; exact hgo
  refine lv_iload_n hx hb dX7_come_0 rfl (lv_at hl 1 rfl) ?_
  refine lv_ldc hx hb hown k_84 dX7_come_1 ?_
  refine lv_icmp_eq (tgt := 17) hx hb dX7_come_3 (by decide) (fun c_8 => ?_) (fun c_8 => ?_)
  · have h := h.1 c_8
    exact J17 mNow h _ _ hP hD hS ls (lv_sub hl [0, 1] rfl)
  · have h := h.2 c_8
    refine lv_aload_n hx hb dX7_come_6 rfl (lv_at hl 0 rfl) ?_
    refine lv_iload_n hx hb dX7_come_7 rfl (lv_at hl 1 rfl) ?_
    have hPc := hP
    have hDc := hD
    have hFc := rc_freeI hD hS hA
    refine va_calli (va_runV (As := [.int p1]) (rest := []) ⟨hx, hb, hml, hown, hts⟩ (c_X7_isPlace l E mo mn mi ma ml mt mb mr mp mk mq mc mw mz ms mf mu mv mx mh mA mB mC mM mT H.size mHI mFC mLC mCg mTp mNx mFr mTk mVa mEn mKe mCs mAt mHd mWg mNow mImg mAsd mLea mLat mBst mRsk mTap mKys mKat mCod mWts mTes mStk mFct mSor mSiz mCel mHol mHoA mHoB mHoC mMov mTel p1 _ h) (cwV 1 hts gX7_come_X7_isPlace rfl rfl rfl (by decide +kernel) ⟨Nat.le_of_ble_eq_true rfl, Nat.le_of_ble_eq_true rfl⟩) ⟨fun a U g mk q => ⟨q.1, q.2.blind⟩, va_recv hK hPc (ci := 7) (q0 := 0) rfl rfl, fun U hU hW => ⟨rfl, by rw [hU], by rw [hU]; exact hPc, hE.call hS hFc hW hU, hDc.weaken (fun _ _ _ _ => trivial)⟩⟩ rfl rfl hl.1 rfl (lv_room (Nat.le_of_ble_eq_true rfl)) dX7_come_8 ⟨Nat.zero_le _, Nat.zero_le _⟩) hS (fun q _ h => hFc q h) hFc (fun r_9 u t H1 locs ht hvm h hB hz1 hk1 hS => ?_)
    obtain ⟨hP1, hD1⟩ := hB
    rw [ht] at hP1
    have hP := hP1
    have hD := hD1.weaken (fun _ _ _ h => hFc _ h)
    generalize H1 = H at hP hS ⊢
    have hP : va_P E.1 vwCl (rw_24 E mo mn mi ma ml mt mb mr mp mk mq mc mw mz ms mf mu mv mx mh mA mB mC mM mT mHI mFC mLC mCg mTp mNx mFr mTk mVa mEn mKe mCs mAt mHd mWg mNow mImg mAsd mLea mLat mBst mRsk mTap mKys mKat mCod mWts mTes mStk mFct mSor mSiz mCel mHol mHoA mHoB mHoC mMov mTel) H := hP
    have hD : va_D A (rw_24 E mo mn mi ma ml mt mb mr mp mk mq mc mw mz ms mf mu mv mx mh mA mB mC mM mT mHI mFC mLC mCg mTp mNx mFr mTk mVa mEn mKe mCs mAt mHd mWg mNow mImg mAsd mLea mLat mBst mRsk mTap mKys mKat mCod mWts mTes mStk mFct mSor mSiz mCel mHol mHoA mHoB mHoC mMov mTel) := hD
    refine lv_if_ne (tgt := 17) hx hb dX7_come_11 (by decide) (fun c_10 => ?_) (fun c_10 => ?_)
    · have h := h.1 c_10
      exact J17 mNow h _ _ hP hD hS ls (lv_sub hl [0, 1] rfl)
    · have h := h.2 c_10
      refine lv_ldc hx hb hown k_89 dX7_come_14 ?_
      exact hret _ _ _ _ (-1000000001) (mNow) rfl h hP hD hS dX7_come_16
