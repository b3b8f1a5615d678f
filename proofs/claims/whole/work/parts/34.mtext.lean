def wp_X7_isLetter (p1 : Int32) (mTp : Int32) (mTap : Nat → Int32) (Q : Int32 → Prop) : Prop :=
  ((mTp ≤ p1 → Q 0) ∧ (¬ (mTp ≤ p1) → (vp_in p1 96 ∧ (((mTap p1.toNatClampNeg) < 97 → Q 0) ∧ (¬ ((mTap p1.toNatClampNeg) < 97) → (vp_in p1 96 ∧ ((122 < (mTap p1.toNatClampNeg) → Q 0) ∧ (¬ (122 < (mTap p1.toNatClampNeg)) → Q 1))))))))
set_option maxHeartbeats 4000000 in
set_option maxRecDepth 100000 in
theorem c_X7_isLetter (l : Launch) (E : gE) (mo mn mi ma ml mt mb mr mp mk mq mc mw mz ms mf mu mv mx mh mA mB mC mM mT : Nat) (sz : Nat) (mHI : Int32) (mFC : Int32) (mLC : Int32) (mCg : Int32) (mTp : Int32) (mNx : Int32) (mFr : Int32) (mTk : Int32) (mVa : Int32) (mEn : Int32) (mKe : Int32) (mCs : Int32) (mAt : Int32) (mHd : Int32) (mWg : Int32) (mNow : Nat → Int32) (mImg : Nat → Int32) (mAsd : Nat → Int32) (mLea : Nat → Int32) (mLat : Nat → Int32) (mBst : Nat → Int32) (mRsk : Nat → Int32) (mTap : Nat → Int32) (mKys : Nat → Int32) (mKat : Nat → Int32) (mCod : Nat → Int32) (mWts : Nat → Int32) (mTes : Nat → Int32) (mStk : Nat → Int32) (mFct : Nat → Int32) (mSor : Nat → Int32) (mSiz : Nat → Int32) (mCel : Nat → Int32) (mHol : Nat → Int32) (mHoA : Nat → Int32) (mHoB : Nat → Int32) (mHoC : Nat → Int32) (mMov : Nat → Int32) (mTel : Nat → Int32) (p1 : Int32)  (Q : Int32 → Prop) (h : wp_X7_isLetter p1 mTp mTap Q) : Met l yX7_isLetter wsX7_isLetter ({ frames := 0, cells := 0, slots := 0, locals := 0 } : Room) (va_Pc [.ref mo, .int p1] (rc_B E (rw_24 E mo mn mi ma ml mt mb mr mp mk mq mc mw mz ms mf mu mv mx mh mA mB mC mM mT mHI mFC mLC mCg mTp mNx mFr mTk mVa mEn mKe mCs mAt mHd mWg mNow mImg mAsd mLea mLat mBst mRsk mTap mKys mKat mCod mWts mTes mStk mFct mSor mSiz mCel mHol mHoA mHoB mHoC mMov mTel) sz)) (va_Qi (S := Unit) (fun (r : Int32) (u : Unit) => Q r) (fun u t => rc_C E (va_A (rw_24 E mo mn mi ma ml mt mb mr mp mk mq mc mw mz ms mf mu mv mx mh mA mB mC mM mT mHI mFC mLC mCg mTp mNx mFr mTk mVa mEn mKe mCs mAt mHd mWg mNow mImg mAsd mLea mLat mBst mRsk mTap mKys mKat mCod mWts mTes mStk mFct mSor mSiz mCel mHol mHoA mHoB mHoC mMov mTel) sz) (rw_24 E mo mn mi ma ml mt mb mr mp mk mq mc mw mz ms mf mu mv mx mh mA mB mC mM mT mHI mFC mLC mCg mTp mNx mFr mTk mVa mEn mKe mCs mAt mHd mWg mNow mImg mAsd mLea mLat mBst mRsk mTap mKys mKat mCod mWts mTes mStk mFct mSor mSiz mCel mHol mHoA mHoB mHoC mMov mTel) t) (va_A (rw_24 E mo mn mi ma ml mt mb mr mp mk mq mc mw mz ms mf mu mv mx mh mA mB mC mM mT mHI mFC mLC mCg mTp mNx mFr mTk mVa mEn mKe mCs mAt mHd mWg mNow mImg mAsd mLea mLat mBst mRsk mTap mKys mKat mCod mWts mTes mStk mFct mSor mSiz mCel mHol mHoA mHoB mHoC mMov mTel) sz)) 0 0 (va_A (rw_24 E mo mn mi ma ml mt mb mr mp mk mq mc mw mz ms mf mu mv mx mh mA mB mC mM mT mHI mFC mLC mCg mTp mNx mFr mTk mVa mEn mKe mCs mAt mHd mWg mNow mImg mAsd mLea mLat mBst mRsk mTap mKys mKat mCod mWts mTes mStk mFct mSor mSiz mCel mHol mHoA mHoB mHoC mMov mTel) sz) := by
  refine rc_enterI (cc := cX7_isLetter) (maxL := 2) (by decide) rfl (Nat.le_of_ble_eq_true rfl) ?_
  intro p e s m args below meth c QQ A hx hb hml hown hts hmn hE hP hD hA hret ls hl
  have hown : s.vm.findClass RX7 = some m.cls := hown
  have hK := hE.1
  have hS : va_S A s.heap s.heap [] := va_S.rf
  have hl : lv_has ls 2 [(0, .ref mo), (1, .int p1)] := hl
  have n_X7 : ∀ w ∈ wsX70, w ∈ wsX7_isLetter := fun _ h => List.mem_cons_of_mem _ (List.mem_append_right _ h)
  have k_184 := hts (.fieldLink RX7 184 "RidgeClapsModel" "taped" "I") (List.mem_of_getElem? (i := 1) rfl)
  have k_31 := hts (.fieldLink RX7 31 "RidgeClapsModel" "tape" "[I") (List.mem_of_getElem? (i := 2) rfl)
  unfold wp_X7_isLetter at h
  obtain ⟨H, hH⟩ : ∃ H, H = s.heap := ⟨_, rfl⟩
  obtain ⟨locs, hlocs⟩ : ∃ locs : List Loc, locs = [] := ⟨_, rfl⟩
  have hP : va_P E.1 vwCl (rw_24 E mo mn mi ma ml mt mb mr mp mk mq mc mw mz ms mf mu mv mx mh mA mB mC mM mT mHI mFC mLC mCg mTp mNx mFr mTk mVa mEn mKe mCs mAt mHd mWg mNow mImg mAsd mLea mLat mBst mRsk mTap mKys mKat mCod mWts mTes mStk mFct mSor mSiz mCel mHol mHoA mHoB mHoC mMov mTel) H := by rw [hH]; exact hP
  have hS : va_S A s.heap H locs := by rw [hH, hlocs]; exact hS
  suffices hgo : W p l e ({ frames := 0, cells := 0, slots := 0, locals := 0 } : Room) s m args below meth c H locs 0 0 QQ (F0 m 0 ls []) from by rw [hH, hlocs] at hgo; exact hgo
  refine lv_iload_n hx hb dX7_isLetter_0 rfl (lv_at hl 1 rfl) ?_
  refine lv_aload_n hx hb dX7_isLetter_1 rfl (lv_at hl 0 rfl) ?_
  refine va_get (D := E.1) (ci := 7) (v := .int mTp) (C := RX7) (T := TX7) (N := 39) hx hb hts n_X7 hown hK hP 0 rfl rfl 12 (by decide) k_184 (fun _ h9 => h9) rfl dX7_isLetter_2 ?_
  refine lv_icmp_ge (tgt := 34) hx hb dX7_isLetter_5 (by decide) (fun c_1 => ?_) (fun c_1 => ?_)
  · have h := h.1 c_1
    refine lv_iconst (v := 0) hx hb dX7_isLetter_34 (by decide) ?_
    exact hret _ _ _ _ 0 () (by decide) h hP hD hS dX7_isLetter_35
  · have h := h.2 c_1
    refine lv_aload_n hx hb dX7_isLetter_8 rfl (lv_at hl 0 rfl) ?_
    refine va_get (D := E.1) (ci := 7) (v := .ref mp) (C := RX7) (T := TX7) (N := 39) hx hb hts n_X7 hown hK hP 0 rfl rfl 11 (by decide) k_31 (fun _ h9 => h9) rfl dX7_isLetter_9 ?_
    refine lv_iload_n hx hb dX7_isLetter_12 rfl (lv_at hl 1 rfl) ?_
    obtain ⟨o_2, h⟩ := h
    refine rc_iald hx hb hK hP 8 0 rfl rfl p1.toNatClampNeg rfl o_2 dX7_isLetter_13 ?_
    refine lv_bipush (v := 97) hx hb dX7_isLetter_14 (by decide) ?_
    refine lv_icmp_lt (tgt := 34) hx hb dX7_isLetter_16 (by decide) (fun c_3 => ?_) (fun c_3 => ?_)
    · have h := h.1 c_3
      refine lv_iconst (v := 0) hx hb dX7_isLetter_34 (by decide) ?_
      exact hret _ _ _ _ 0 () (by decide) h hP hD hS dX7_isLetter_35
    · have h := h.2 c_3
      refine lv_aload_n hx hb dX7_isLetter_19 rfl (lv_at hl 0 rfl) ?_
      refine va_get (D := E.1) (ci := 7) (v := .ref mp) (C := RX7) (T := TX7) (N := 39) hx hb hts n_X7 hown hK hP 0 rfl rfl 11 (by decide) k_31 (fun _ h9 => h9) rfl dX7_isLetter_20 ?_
      refine lv_iload_n hx hb dX7_isLetter_23 rfl (lv_at hl 1 rfl) ?_
      obtain ⟨o_4, h⟩ := h
      refine rc_iald hx hb hK hP 8 0 rfl rfl p1.toNatClampNeg rfl o_4 dX7_isLetter_24 ?_
      refine lv_bipush (v := 122) hx hb dX7_isLetter_25 (by decide) ?_
      refine lv_icmp_gt (tgt := 34) hx hb dX7_isLetter_27 (by decide) (fun c_5 => ?_) (fun c_5 => ?_)
      · have h := h.1 c_5
        refine lv_iconst (v := 0) hx hb dX7_isLetter_34 (by decide) ?_
        exact hret _ _ _ _ 0 () (by decide) h hP hD hS dX7_isLetter_35
      · have h := h.2 c_5
        refine lv_iconst (v := 1) hx hb dX7_isLetter_30 (by decide) ?_
        refine lv_goto (tgt := 35) hx hb dX7_isLetter_31 (by decide) ?_
        exact hret _ _ _ _ 1 () (by decide) h hP hD hS dX7_isLetter_35
def wp_X7_isFigure (p1 : Int32) (mTp : Int32) (mTap : Nat → Int32) (Q : Int32 → Prop) : Prop :=
  ((mTp ≤ p1 → Q 0) ∧ (¬ (mTp ≤ p1) → (vp_in p1 96 ∧ (((mTap p1.toNatClampNeg) < 48 → Q 0) ∧ (¬ ((mTap p1.toNatClampNeg) < 48) → (vp_in p1 96 ∧ ((57 < (mTap p1.toNatClampNeg) → Q 0) ∧ (¬ (57 < (mTap p1.toNatClampNeg)) → Q 1))))))))
set_option maxHeartbeats 4000000 in
set_option maxRecDepth 100000 in
theorem c_X7_isFigure (l : Launch) (E : gE) (mo mn mi ma ml mt mb mr mp mk mq mc mw mz ms mf mu mv mx mh mA mB mC mM mT : Nat) (sz : Nat) (mHI : Int32) (mFC : Int32) (mLC : Int32) (mCg : Int32) (mTp : Int32) (mNx : Int32) (mFr : Int32) (mTk : Int32) (mVa : Int32) (mEn : Int32) (mKe : Int32) (mCs : Int32) (mAt : Int32) (mHd : Int32) (mWg : Int32) (mNow : Nat → Int32) (mImg : Nat → Int32) (mAsd : Nat → Int32) (mLea : Nat → Int32) (mLat : Nat → Int32) (mBst : Nat → Int32) (mRsk : Nat → Int32) (mTap : Nat → Int32) (mKys : Nat → Int32) (mKat : Nat → Int32) (mCod : Nat → Int32) (mWts : Nat → Int32) (mTes : Nat → Int32) (mStk : Nat → Int32) (mFct : Nat → Int32) (mSor : Nat → Int32) (mSiz : Nat → Int32) (mCel : Nat → Int32) (mHol : Nat → Int32) (mHoA : Nat → Int32) (mHoB : Nat → Int32) (mHoC : Nat → Int32) (mMov : Nat → Int32) (mTel : Nat → Int32) (p1 : Int32)  (Q : Int32 → Prop) (h : wp_X7_isFigure p1 mTp mTap Q) : Met l yX7_isFigure wsX7_isFigure ({ frames := 0, cells := 0, slots := 0, locals := 0 } : Room) (va_Pc [.ref mo, .int p1] (rc_B E (rw_24 E mo mn mi ma ml mt mb mr mp mk mq mc mw mz ms mf mu mv mx mh mA mB mC mM mT mHI mFC mLC mCg mTp mNx mFr mTk mVa mEn mKe mCs mAt mHd mWg mNow mImg mAsd mLea mLat mBst mRsk mTap mKys mKat mCod mWts mTes mStk mFct mSor mSiz mCel mHol mHoA mHoB mHoC mMov mTel) sz)) (va_Qi (S := Unit) (fun (r : Int32) (u : Unit) => Q r) (fun u t => rc_C E (va_A (rw_24 E mo mn mi ma ml mt mb mr mp mk mq mc mw mz ms mf mu mv mx mh mA mB mC mM mT mHI mFC mLC mCg mTp mNx mFr mTk mVa mEn mKe mCs mAt mHd mWg mNow mImg mAsd mLea mLat mBst mRsk mTap mKys mKat mCod mWts mTes mStk mFct mSor mSiz mCel mHol mHoA mHoB mHoC mMov mTel) sz) (rw_24 E mo mn mi ma ml mt mb mr mp mk mq mc mw mz ms mf mu mv mx mh mA mB mC mM mT mHI mFC mLC mCg mTp mNx mFr mTk mVa mEn mKe mCs mAt mHd mWg mNow mImg mAsd mLea mLat mBst mRsk mTap mKys mKat mCod mWts mTes mStk mFct mSor mSiz mCel mHol mHoA mHoB mHoC mMov mTel) t) (va_A (rw_24 E mo mn mi ma ml mt mb mr mp mk mq mc mw mz ms mf mu mv mx mh mA mB mC mM mT mHI mFC mLC mCg mTp mNx mFr mTk mVa mEn mKe mCs mAt mHd mWg mNow mImg mAsd mLea mLat mBst mRsk mTap mKys mKat mCod mWts mTes mStk mFct mSor mSiz mCel mHol mHoA mHoB mHoC mMov mTel) sz)) 0 0 (va_A (rw_24 E mo mn mi ma ml mt mb mr mp mk mq mc mw mz ms mf mu mv mx mh mA mB mC mM mT mHI mFC mLC mCg mTp mNx mFr mTk mVa mEn mKe mCs mAt mHd mWg mNow mImg mAsd mLea mLat mBst mRsk mTap mKys mKat mCod mWts mTes mStk mFct mSor mSiz mCel mHol mHoA mHoB mHoC mMov mTel) sz) := by
  refine rc_enterI (cc := cX7_isFigure) (maxL := 2) (by decide) rfl (Nat.le_of_ble_eq_true rfl) ?_
  intro p e s m args below meth c QQ A hx hb hml hown hts hmn hE hP hD hA hret ls hl
  have hown : s.vm.findClass RX7 = some m.cls := hown
  have hK := hE.1
  have hS : va_S A s.heap s.heap [] := va_S.rf
  have hl : lv_has ls 2 [(0, .ref mo), (1, .int p1)] := hl
  have n_X7 : ∀ w ∈ wsX70, w ∈ wsX7_isFigure := fun _ h => List.mem_cons_of_mem _ (List.mem_append_right _ h)
  have k_184 := hts (.fieldLink RX7 184 "RidgeClapsModel" "taped" "I") (List.mem_of_getElem? (i := 1) rfl)
  have k_31 := hts (.fieldLink RX7 31 "RidgeClapsModel" "tape" "[I") (List.mem_of_getElem? (i := 2) rfl)
  unfold wp_X7_isFigure at h
  obtain ⟨H, hH⟩ : ∃ H, H = s.heap := ⟨_, rfl⟩
  obtain ⟨locs, hlocs⟩ : ∃ locs : List Loc, locs = [] := ⟨_, rfl⟩
  have hP : va_P E.1 vwCl (rw_24 E mo mn mi ma ml mt mb mr mp mk mq mc mw mz ms mf mu mv mx mh mA mB mC mM mT mHI mFC mLC mCg mTp mNx mFr mTk mVa mEn mKe mCs mAt mHd mWg mNow mImg mAsd mLea mLat mBst mRsk mTap mKys mKat mCod mWts mTes mStk mFct mSor mSiz mCel mHol mHoA mHoB mHoC mMov mTel) H := by rw [hH]; exact hP
  have hS : va_S A s.heap H locs := by rw [hH, hlocs]; exact hS
  suffices hgo : W p l e ({ frames := 0, cells := 0, slots := 0, locals := 0 } : Room) s m args below meth c H locs 0 0 QQ (F0 m 0 ls []) from by rw [hH, hlocs] at hgo; exact hgo
  refine lv_iload_n hx hb dX7_isFigure_0 rfl (lv_at hl 1 rfl) ?_
  refine lv_aload_n hx hb dX7_isFigure_1 rfl (lv_at hl 0 rfl) ?_
  refine va_get (D := E.1) (ci := 7) (v := .int mTp) (C := RX7) (T := TX7) (N := 39) hx hb hts n_X7 hown hK hP 0 rfl rfl 12 (by decide) k_184 (fun _ h9 => h9) rfl dX7_isFigure_2 ?_
  refine lv_icmp_ge (tgt := 34) hx hb dX7_isFigure_5 (by decide) (fun c_1 => ?_) (fun c_1 => ?_)
  · have h := h.1 c_1
    refine lv_iconst (v := 0) hx hb dX7_isFigure_34 (by decide) ?_
    exact hret _ _ _ _ 0 () (by decide) h hP hD hS dX7_isFigure_35
  · have h := h.2 c_1
    refine lv_aload_n hx hb dX7_isFigure_8 rfl (lv_at hl 0 rfl) ?_
    refine va_get (D := E.1) (ci := 7) (v := .ref mp) (C := RX7) (T := TX7) (N := 39) hx hb hts n_X7 hown hK hP 0 rfl rfl 11 (by decide) k_31 (fun _ h9 => h9) rfl dX7_isFigure_9 ?_
    refine lv_iload_n hx hb dX7_isFigure_12 rfl (lv_at hl 1 rfl) ?_
    obtain ⟨o_2, h⟩ := h
    refine rc_iald hx hb hK hP 8 0 rfl rfl p1.toNatClampNeg rfl o_2 dX7_isFigure_13 ?_
    refine lv_bipush (v := 48) hx hb dX7_isFigure_14 (by decide) ?_
    refine lv_icmp_lt (tgt := 34) hx hb dX7_isFigure_16 (by decide) (fun c_3 => ?_) (fun c_3 => ?_)
    · have h := h.1 c_3
      refine lv_iconst (v := 0) hx hb dX7_isFigure_34 (by decide) ?_
      exact hret _ _ _ _ 0 () (by decide) h hP hD hS dX7_isFigure_35
    · have h := h.2 c_3
      refine lv_aload_n hx hb dX7_isFigure_19 rfl (lv_at hl 0 rfl) ?_
      refine va_get (D := E.1) (ci := 7) (v := .ref mp) (C := RX7) (T := TX7) (N := 39) hx hb hts n_X7 hown hK hP 0 rfl rfl 11 (by decide) k_31 (fun _ h9 => h9) rfl dX7_isFigure_20 ?_
      refine lv_iload_n hx hb dX7_isFigure_23 rfl (lv_at hl 1 rfl) ?_
      obtain ⟨o_4, h⟩ := h
      refine rc_iald hx hb hK hP 8 0 rfl rfl p1.toNatClampNeg rfl o_4 dX7_isFigure_24 ?_
      refine lv_bipush (v := 57) hx hb dX7_isFigure_25 (by decide) ?_
      refine lv_icmp_gt (tgt := 34) hx hb dX7_isFigure_27 (by decide) (fun c_5 => ?_) (fun c_5 => ?_)
      · have h := h.1 c_5
        refine lv_iconst (v := 0) hx hb dX7_isFigure_34 (by decide) ?_
        exact hret _ _ _ _ 0 () (by decide) h hP hD hS dX7_isFigure_35
      · have h := h.2 c_5
        refine lv_iconst (v := 1) hx hb dX7_isFigure_30 (by decide) ?_
        refine lv_goto (tgt := 35) hx hb dX7_isFigure_31 (by decide) ?_
        exact hret _ _ _ _ 1 () (by decide) h hP hD hS dX7_isFigure_35
def lp_X7_go_170F (mTp : Int32) (mTap : Nat → Int32)  (Q : Int32 → Int32 → Int32 → Int32 → Int32 → Prop) (R : Int32 → Int32 → Int32 → Int32 → Int32 → Int32 → Prop) (x1 : Int32) (mNx : Int32) (mFr : Int32) (mTk : Int32) (mVa : Int32) (mEn : Int32) : Prop :=
  wp_X7_isFigure mNx mTp mTap (fun (r_1 : Int32) => ((r_1 = 0 → ((¬ x1 = 0 → Q mNx mFr 4 mVa mNx) ∧ (x1 = 0 → (((mNx - mFr) ≤ 4 → Q mNx mFr 2 mVa mNx) ∧ (¬ ((mNx - mFr) ≤ 4) → Q mNx mFr 4 mVa mNx))))) ∧ (¬ (r_1 = 0) → ((4 ≤ (mNx - mFr) → R x1 (mNx + 1) mFr mTk mVa mEn) ∧ (¬ (4 ≤ (mNx - mFr)) → (vp_in mNx 96 ∧ R x1 (mNx + 1) mFr mTk (((10 * mVa) + (mTap mNx.toNatClampNeg)) - 48) mEn))))))
def lp_X7_go_170 (mTp : Int32) (mTap : Nat → Int32)  (Q : Int32 → Int32 → Int32 → Int32 → Int32 → Prop) (n : Nat) : Int32 → Int32 → Int32 → Int32 → Int32 → Int32 → Prop :=
  Nat.rec (motive := fun _ => Int32 → Int32 → Int32 → Int32 → Int32 → Int32 → Prop) (fun _ _ _ _ _ _ => False) (fun _ r => lp_X7_go_170F mTp mTap Q r) n
def jp_X7_go_127 (mTap : Nat → Int32)  (Q : Int32 → Int32 → Int32 → Int32 → Int32 → Prop) (y0 : Int32) (mNx : Int32) (mFr : Int32) (mTk : Int32) (mVa : Int32) (mEn : Int32) : Prop :=
  (vp_in mFr 96 ∧ Q mNx mFr y0 (mTap mFr.toNatClampNeg) mNx)
def lp_X7_go_93F (mTp : Int32) (mTap : Nat → Int32)  (Q : Int32 → Int32 → Int32 → Int32 → Int32 → Prop) (R : Int32 → Int32 → Int32 → Int32 → Int32 → Int32 → Prop) (x1 : Int32) (mNx : Int32) (mFr : Int32) (mTk : Int32) (mVa : Int32) (mEn : Int32) : Prop :=
  wp_X7_isLetter mNx mTp mTap (fun (r_8 : Int32) => ((r_8 = 0 → ((x1 = 0 → jp_X7_go_127 mTap Q 1 mNx mFr mTk mVa mEn) ∧ (¬ (x1 = 0) → jp_X7_go_127 mTap Q 4 mNx mFr mTk mVa mEn))) ∧ (¬ (r_8 = 0) → R x1 (mNx + 1) mFr mTk mVa mEn)))
def lp_X7_go_93 (mTp : Int32) (mTap : Nat → Int32)  (Q : Int32 → Int32 → Int32 → Int32 → Int32 → Prop) (n : Nat) : Int32 → Int32 → Int32 → Int32 → Int32 → Int32 → Prop :=
  Nat.rec (motive := fun _ => Int32 → Int32 → Int32 → Int32 → Int32 → Int32 → Prop) (fun _ _ _ _ _ _ => False) (fun _ r => lp_X7_go_93F mTp mTap Q r) n
def jp_X7_go_62 (mTp : Int32) (mTap : Nat → Int32)  (Q : Int32 → Int32 → Int32 → Int32 → Int32 → Prop) (y0 : Int32) (mNx : Int32) (mFr : Int32) (mTk : Int32) (mVa : Int32) (mEn : Int32) : Prop :=
  ((¬ mFr = mTp → wp_X7_isLetter mFr mTp mTap (fun (r_12 : Int32) => ((r_12 = 0 → wp_X7_isFigure mFr mTp mTap (fun (r_14 : Int32) => ((r_14 = 0 → (vp_in mFr 96 ∧ Q (mNx + 1) mFr 3 (mTap mFr.toNatClampNeg) mEn)) ∧ (¬ (r_14 = 0) → (∃ n : Nat, lp_X7_go_170 mTp mTap Q n y0 mNx mFr mTk 0 mEn))))) ∧ (¬ (r_12 = 0) → (∃ n : Nat, lp_X7_go_93 mTp mTap Q n y0 mNx mFr mTk mVa mEn))))) ∧ (mFr = mTp → Q mNx mFr 0 mVa mEn))
def jp_X7_go_38 (mTp : Int32) (mTap : Nat → Int32)  (Q : Int32 → Int32 → Int32 → Int32 → Int32 → Prop) (mNx : Int32) (mFr : Int32) (mTk : Int32) (mVa : Int32) (mEn : Int32) : Prop :=
  ((¬ mNx = mEn → jp_X7_go_62 mTp mTap Q 0 mNx mNx mTk mVa mEn) ∧ (mNx = mEn → jp_X7_go_62 mTp mTap Q 1 mNx mNx mTk mVa mEn))
def lp_X7_go_0F (mTp : Int32) (mTap : Nat → Int32)  (Q : Int32 → Int32 → Int32 → Int32 → Int32 → Prop) (R : Int32 → Int32 → Int32 → Int32 → Int32 → Prop) (mNx : Int32) (mFr : Int32) (mTk : Int32) (mVa : Int32) (mEn : Int32) : Prop :=
  ((mTp ≤ mNx → jp_X7_go_38 mTp mTap Q mNx mFr mTk mVa mEn) ∧ (¬ (mTp ≤ mNx) → (vp_in mNx 96 ∧ ((¬ (mTap mNx.toNatClampNeg) = 32 → jp_X7_go_38 mTp mTap Q mNx mFr mTk mVa mEn) ∧ ((mTap mNx.toNatClampNeg) = 32 → R (mNx + 1) mFr mTk mVa mEn)))))
def lp_X7_go_0 (mTp : Int32) (mTap : Nat → Int32)  (Q : Int32 → Int32 → Int32 → Int32 → Int32 → Prop) (n : Nat) : Int32 → Int32 → Int32 → Int32 → Int32 → Prop :=
  Nat.rec (motive := fun _ => Int32 → Int32 → Int32 → Int32 → Int32 → Prop) (fun _ _ _ _ _ => False) (fun _ r => lp_X7_go_0F mTp mTap Q r) n
def wp_X7_go (mTp : Int32) (mNx : Int32) (mFr : Int32) (mTk : Int32) (mVa : Int32) (mEn : Int32) (mTap : Nat → Int32) (Q : Int32 → Int32 → Int32 → Int32 → Int32 → Prop) : Prop :=
  (∃ n : Nat, lp_X7_go_0 mTp mTap Q n mNx mFr mTk mVa mEn)
set_option maxHeartbeats 4000000 in
set_option maxRecDepth 100000 in
theorem c_X7_go (l : Launch) (E : gE) (mo mn mi ma ml mt mb mr mp mk mq mc mw mz ms mf mu mv mx mh mA mB mC mM mT : Nat) (sz : Nat) (mHI : Int32) (mFC : Int32) (mLC : Int32) (mCg : Int32) (mTp : Int32) (mNx : Int32) (mFr : Int32) (mTk : Int32) (mVa : Int32) (mEn : Int32) (mKe : Int32) (mCs : Int32) (mAt : Int32) (mHd : Int32) (mWg : Int32) (mNow : Nat → Int32) (mImg : Nat → Int32) (mAsd : Nat → Int32) (mLea : Nat → Int32) (mLat : Nat → Int32) (mBst : Nat → Int32) (mRsk : Nat → Int32) (mTap : Nat → Int32) (mKys : Nat → Int32) (mKat : Nat → Int32) (mCod : Nat → Int32) (mWts : Nat → Int32) (mTes : Nat → Int32) (mStk : Nat → Int32) (mFct : Nat → Int32) (mSor : Nat → Int32) (mSiz : Nat → Int32) (mCel : Nat → Int32) (mHol : Nat → Int32) (mHoA : Nat → Int32) (mHoB : Nat → Int32) (mHoC : Nat → Int32) (mMov : Nat → Int32) (mTel : Nat → Int32)   (Q : Int32 → Int32 → Int32 → Int32 → Int32 → Prop) (h : wp_X7_go mTp mNx mFr mTk mVa mEn mTap Q) : Met l yX7_go wsX7_go ({ frames := 1, cells := 0, slots := 0, locals := 21 } : Room) (va_Pc [.ref mo] (rc_B E (rw_24 E mo mn mi ma ml mt mb mr mp mk mq mc mw mz ms mf mu mv mx mh mA mB mC mM mT mHI mFC mLC mCg mTp mNx mFr mTk mVa mEn mKe mCs mAt mHd mWg mNow mImg mAsd mLea mLat mBst mRsk mTap mKys mKat mCod mWts mTes mStk mFct mSor mSiz mCel mHol mHoA mHoB mHoC mMov mTel) sz)) (va_Qv (S := Int32 × Int32 × Int32 × Int32 × Int32) (fun (u : Int32 × Int32 × Int32 × Int32 × Int32) => Q u.1 u.2.1 u.2.2.1 u.2.2.2.1 u.2.2.2.2) (fun u t => rc_C E (va_A (rw_24 E mo mn mi ma ml mt mb mr mp mk mq mc mw mz ms mf mu mv mx mh mA mB mC mM mT mHI mFC mLC mCg mTp mNx mFr mTk mVa mEn mKe mCs mAt mHd mWg mNow mImg mAsd mLea mLat mBst mRsk mTap mKys mKat mCod mWts mTes mStk mFct mSor mSiz mCel mHol mHoA mHoB mHoC mMov mTel) sz) (rw_24 E mo mn mi ma ml mt mb mr mp mk mq mc mw mz ms mf mu mv mx mh mA mB mC mM mT mHI mFC mLC mCg mTp u.1 u.2.1 u.2.2.1 u.2.2.2.1 u.2.2.2.2 mKe mCs mAt mHd mWg mNow mImg mAsd mLea mLat mBst mRsk mTap mKys mKat mCod mWts mTes mStk mFct mSor mSiz mCel mHol mHoA mHoB mHoC mMov mTel) t) (va_A (rw_24 E mo mn mi ma ml mt mb mr mp mk mq mc mw mz ms mf mu mv mx mh mA mB mC mM mT mHI mFC mLC mCg mTp mNx mFr mTk mVa mEn mKe mCs mAt mHd mWg mNow mImg mAsd mLea mLat mBst mRsk mTap mKys mKat mCod mWts mTes mStk mFct mSor mSiz mCel mHol mHoA mHoB mHoC mMov mTel) sz)) 0 0 (va_A (rw_24 E mo mn mi ma ml mt mb mr mp mk mq mc mw mz ms mf mu mv mx mh mA mB mC mM mT mHI mFC mLC mCg mTp mNx mFr mTk mVa mEn mKe mCs mAt mHd mWg mNow mImg mAsd mLea mLat mBst mRsk mTap mKys mKat mCod mWts mTes mStk mFct mSor mSiz mCel mHol mHoA mHoB mHoC mMov mTel) sz) := by
  refine rc_enterV (cc := cX7_go) (maxL := 2) (by decide) rfl (Nat.le_of_ble_eq_true rfl) ?_
  intro p e s m args below meth c QQ A hx hb hml hown hts hmn hE hP hD hA hret ls hl
  have hown : s.vm.findClass RX7 = some m.cls := hown
  have hK := hE.1
  have hS : va_S A s.heap s.heap [] := va_S.rf
  have hl : lv_has ls 2 [(0, .ref mo)] := hl
  have n_X7 : ∀ w ∈ wsX70, w ∈ wsX7_go := fun _ h => List.mem_cons_of_mem _ (List.mem_append_right _ h)
  have k_187 := hts (.fieldLink RX7 187 "RidgeClapsModel" "next" "I") (List.mem_of_getElem? (i := 1) rfl)
  have k_196 := hts (.fieldLink RX7 196 "RidgeClapsModel" "token" "I") (List.mem_of_getElem? (i := 6) rfl)
  have k_193 := hts (.fieldLink RX7 193 "RidgeClapsModel" "ended" "I") (List.mem_of_getElem? (i := 5) rfl)
  have k_190 := hts (.fieldLink RX7 190 "RidgeClapsModel" "from" "I") (List.mem_of_getElem? (i := 4) rfl)
  have k_202 := hts (.fieldLink RX7 202 "RidgeClapsModel" "value" "I") (List.mem_of_getElem? (i := 7) rfl)
  have k_31 := hts (.fieldLink RX7 31 "RidgeClapsModel" "tape" "[I") (List.mem_of_getElem? (i := 3) rfl)
  have k_184 := hts (.fieldLink RX7 184 "RidgeClapsModel" "taped" "I") (List.mem_of_getElem? (i := 2) rfl)
  have J170 : ∀ (n : Nat) (x1 : Int32) (mNx : Int32) (mFr : Int32) (mTk : Int32) (mVa : Int32) (mEn : Int32), lp_X7_go_170 mTp mTap Q n x1 mNx mFr mTk mVa mEn → ∀ (H : Heap) (locs : List Loc), va_P E.1 vwCl (rw_24 E mo mn mi ma ml mt mb mr mp mk mq mc mw mz ms mf mu mv mx mh mA mB mC mM mT mHI mFC mLC mCg mTp mNx mFr mTk mVa mEn mKe mCs mAt mHd mWg mNow mImg mAsd mLea mLat mBst mRsk mTap mKys mKat mCod mWts mTes mStk mFct mSor mSiz mCel mHol mHoA mHoB mHoC mMov mTel) H → va_D A (rw_24 E mo mn mi ma ml mt mb mr mp mk mq mc mw mz ms mf mu mv mx mh mA mB mC mM mT mHI mFC mLC mCg mTp mNx mFr mTk mVa mEn mKe mCs mAt mHd mWg mNow mImg mAsd mLea mLat mBst mRsk mTap mKys mKat mCod mWts mTes mStk mFct mSor mSiz mCel mHol mHoA mHoB mHoC mMov mTel) → va_S A s.heap H locs → ∀ ls : Array Slot, lv_has ls 2 [(0, .ref mo), (1, .int x1)] → W p l e ({ frames := 1, cells := 0, slots := 0, locals := 21 } : Room) s m args below meth c H locs 0 0 QQ (F0 m 170 ls []) := by
    intro n
    induction n with
    | zero =>
      intro x1 mNx mFr mTk mVa mEn h
      exact False.elim h
    | succ n ih =>
      intro x1 mNx mFr mTk mVa mEn h H locs hP hD hS ls hl
      have h : lp_X7_go_170F mTp mTap Q (lp_X7_go_170 mTp mTap Q n) x1 mNx mFr mTk mVa mEn := h
      unfold lp_X7_go_170F at h
      refine lv_aload_n hx hb dX7_go_170 rfl (lv_at hl 0 rfl) ?_
      refine lv_aload_n hx hb dX7_go_171 rfl (lv_at hl 0 rfl) ?_
      refine va_get (D := E.1) (ci := 7) (v := .int mNx) (C := RX7) (T := TX7) (N := 39) hx hb hts n_X7 hown hK hP 0 rfl rfl 13 (by decide) k_187 (fun _ h9 => h9) rfl dX7_go_172 ?_
      have hPc := hP
      have hDc := hD
      have hFc := rc_freeI hD hS hA
      refine va_calli (va_runV (As := [.int mNx]) (rest := []) ⟨hx, hb, hml, hown, hts⟩ (c_X7_isFigure l E mo mn mi ma ml mt mb mr mp mk mq mc mw mz ms mf mu mv mx mh mA mB mC mM mT H.size mHI mFC mLC mCg mTp mNx mFr mTk mVa mEn mKe mCs mAt mHd mWg mNow mImg mAsd mLea mLat mBst mRsk mTap mKys mKat mCod mWts mTes mStk mFct mSor mSiz mCel mHol mHoA mHoB mHoC mMov mTel mNx _ h) (cwV 1 hts gX7_go_X7_isFigure rfl rfl rfl (by decide +kernel) ⟨Nat.le_of_ble_eq_true rfl, Nat.le_of_ble_eq_true rfl⟩) ⟨fun a U g mk q => ⟨q.1, q.2.blind⟩, va_recv hK hPc (ci := 7) (q0 := 0) rfl rfl, fun U hU hW => ⟨rfl, by rw [hU], by rw [hU]; exact hPc, hE.call hS hFc hW hU, hDc.weaken (fun _ _ _ _ => trivial)⟩⟩ rfl rfl hl.1 rfl (lv_room (Nat.le_of_ble_eq_true rfl)) dX7_go_175 ⟨Nat.zero_le _, Nat.zero_le _⟩) hS (fun q _ h => hFc q h) hFc (fun r_1 u t H1 locs ht hvm h hB hz1 hk1 hS => ?_)
      obtain ⟨hP1, hD1⟩ := hB
      rw [ht] at hP1
      have hP := hP1
      have hD := hD1.weaken (fun _ _ _ h => hFc _ h)
      generalize H1 = H at hP hS ⊢
      have hP : va_P E.1 vwCl (rw_24 E mo mn mi ma ml mt mb mr mp mk mq mc mw mz ms mf mu mv mx mh mA mB mC mM mT mHI mFC mLC mCg mTp mNx mFr mTk mVa mEn mKe mCs mAt mHd mWg mNow mImg mAsd mLea mLat mBst mRsk mTap mKys mKat mCod mWts mTes mStk mFct mSor mSiz mCel mHol mHoA mHoB mHoC mMov mTel) H := hP
      have hD : va_D A (rw_24 E mo mn mi ma ml mt mb mr mp mk mq mc mw mz ms mf mu mv mx mh mA mB mC mM mT mHI mFC mLC mCg mTp mNx mFr mTk mVa mEn mKe mCs mAt mHd mWg mNow mImg mAsd mLea mLat mBst mRsk mTap mKys mKat mCod mWts mTes mStk mFct mSor mSiz mCel mHol mHoA mHoB mHoC mMov mTel) := hD
      refine lv_if_eq (tgt := 238) hx hb dX7_go_178 (by decide) (fun c_2 => ?_) (fun c_2 => ?_)
      · have h := h.1 c_2
        refine lv_aload_n hx hb dX7_go_238 rfl (lv_at hl 0 rfl) ?_
        refine lv_iload_n hx hb dX7_go_239 rfl (lv_at hl 1 rfl) ?_
        refine lv_if_ne (tgt := 256) hx hb dX7_go_240 (by decide) (fun c_3 => ?_) (fun c_3 => ?_)
        · have h := h.1 c_3
          refine lv_iconst (v := 4) hx hb dX7_go_256 (by decide) ?_
          refine lv_goto (tgt := 261) hx hb dX7_go_257 (by decide) ?_
          refine va_put (D := E.1) (ci := 7) (v := .int 4) (ty := .int) (C := RX7) (T := TX7) (N := 39) hx hb hts n_X7 tyX7 tyX7_ok nmX7 hown hK hP hD hS 0 rfl rfl 15 (by decide) k_196 (fun _ h9 => h9) rfl (by decide +kernel) rfl rfl (Nat.le_of_ble_eq_true rfl) dX7_go_261 (fun H locs hP hD hS => ?_)
          have hP : va_P E.1 vwCl (rw_24 E mo mn mi ma ml mt mb mr mp mk mq mc mw mz ms mf mu mv mx mh mA mB mC mM mT mHI mFC mLC mCg mTp mNx mFr 4 mVa mEn mKe mCs mAt mHd mWg mNow mImg mAsd mLea mLat mBst mRsk mTap mKys mKat mCod mWts mTes mStk mFct mSor mSiz mCel mHol mHoA mHoB mHoC mMov mTel) H := hP
          have hD : va_D A (rw_24 E mo mn mi ma ml mt mb mr mp mk mq mc mw mz ms mf mu mv mx mh mA mB mC mM mT mHI mFC mLC mCg mTp mNx mFr 4 mVa mEn mKe mCs mAt mHd mWg mNow mImg mAsd mLea mLat mBst mRsk mTap mKys mKat mCod mWts mTes mStk mFct mSor mSiz mCel mHol mHoA mHoB mHoC mMov mTel) := hD
          refine lv_aload_n hx hb dX7_go_264 rfl (lv_at hl 0 rfl) ?_
          refine lv_aload_n hx hb dX7_go_265 rfl (lv_at hl 0 rfl) ?_
          refine va_get (D := E.1) (ci := 7) (v := .int mNx) (C := RX7) (T := TX7) (N := 39) hx hb hts n_X7 hown hK hP 0 rfl rfl 13 (by decide) k_187 (fun _ h9 => h9) rfl dX7_go_266 ?_
          refine va_put (D := E.1) (ci := 7) (v := .int mNx) (ty := .int) (C := RX7) (T := TX7) (N := 39) hx hb hts n_X7 tyX7 tyX7_ok nmX7 hown hK hP hD hS 0 rfl rfl 17 (by decide) k_193 (fun _ h9 => h9) rfl (by decide +kernel) rfl rfl (Nat.le_of_ble_eq_true rfl) dX7_go_269 (fun H locs hP hD hS => ?_)
          have hP : va_P E.1 vwCl (rw_24 E mo mn mi ma ml mt mb mr mp mk mq mc mw mz ms mf mu mv mx mh mA mB mC mM mT mHI mFC mLC mCg mTp mNx mFr 4 mVa mNx mKe mCs mAt mHd mWg mNow mImg mAsd mLea mLat mBst mRsk mTap mKys mKat mCod mWts mTes mStk mFct mSor mSiz mCel mHol mHoA mHoB mHoC mMov mTel) H := hP
          have hD : va_D A (rw_24 E mo mn mi ma ml mt mb mr mp mk mq mc mw mz ms mf mu mv mx mh mA mB mC mM mT mHI mFC mLC mCg mTp mNx mFr 4 mVa mNx mKe mCs mAt mHd mWg mNow mImg mAsd mLea mLat mBst mRsk mTap mKys mKat mCod mWts mTes mStk mFct mSor mSiz mCel mHol mHoA mHoB mHoC mMov mTel) := hD
          refine lv_goto (tgt := 303) hx hb dX7_go_272 (by decide) ?_
          exact hret _ _ _ _ (mNx, mFr, 4, mVa, mNx) h hP hD hS dX7_go_303
        · have h := h.2 c_3
          refine lv_aload_n hx hb dX7_go_243 rfl (lv_at hl 0 rfl) ?_
          refine va_get (D := E.1) (ci := 7) (v := .int mNx) (C := RX7) (T := TX7) (N := 39) hx hb hts n_X7 hown hK hP 0 rfl rfl 13 (by decide) k_187 (fun _ h9 => h9) rfl dX7_go_244 ?_
          refine lv_aload_n hx hb dX7_go_247 rfl (lv_at hl 0 rfl) ?_
          refine va_get (D := E.1) (ci := 7) (v := .int mFr) (C := RX7) (T := TX7) (N := 39) hx hb hts n_X7 hown hK hP 0 rfl rfl 14 (by decide) k_190 (fun _ h9 => h9) rfl dX7_go_248 ?_
          refine lv_isub hx hb dX7_go_251 ?_
          refine lv_iconst (v := 4) hx hb dX7_go_252 (by decide) ?_
          refine lv_icmp_le (tgt := 260) hx hb dX7_go_253 (by decide) (fun c_4 => ?_) (fun c_4 => ?_)
          · have h := h.1 c_4
            refine lv_iconst (v := 2) hx hb dX7_go_260 (by decide) ?_
            refine va_put (D := E.1) (ci := 7) (v := .int 2) (ty := .int) (C := RX7) (T := TX7) (N := 39) hx hb hts n_X7 tyX7 tyX7_ok nmX7 hown hK hP hD hS 0 rfl rfl 15 (by decide) k_196 (fun _ h9 => h9) rfl (by decide +kernel) rfl rfl (Nat.le_of_ble_eq_true rfl) dX7_go_261 (fun H locs hP hD hS => ?_)
            have hP : va_P E.1 vwCl (rw_24 E mo mn mi ma ml mt mb mr mp mk mq mc mw mz ms mf mu mv mx mh mA mB mC mM mT mHI mFC mLC mCg mTp mNx mFr 2 mVa mEn mKe mCs mAt mHd mWg mNow mImg mAsd mLea mLat mBst mRsk mTap mKys mKat mCod mWts mTes mStk mFct mSor mSiz mCel mHol mHoA mHoB mHoC mMov mTel) H := hP
            have hD : va_D A (rw_24 E mo mn mi ma ml mt mb mr mp mk mq mc mw mz ms mf mu mv mx mh mA mB mC mM mT mHI mFC mLC mCg mTp mNx mFr 2 mVa mEn mKe mCs mAt mHd mWg mNow mImg mAsd mLea mLat mBst mRsk mTap mKys mKat mCod mWts mTes mStk mFct mSor mSiz mCel mHol mHoA mHoB mHoC mMov mTel) := hD
            refine lv_aload_n hx hb dX7_go_264 rfl (lv_at hl 0 rfl) ?_
            refine lv_aload_n hx hb dX7_go_265 rfl (lv_at hl 0 rfl) ?_
            refine va_get (D := E.1) (ci := 7) (v := .int mNx) (C := RX7) (T := TX7) (N := 39) hx hb hts n_X7 hown hK hP 0 rfl rfl 13 (by decide) k_187 (fun _ h9 => h9) rfl dX7_go_266 ?_
            refine va_put (D := E.1) (ci := 7) (v := .int mNx) (ty := .int) (C := RX7) (T := TX7) (N := 39) hx hb hts n_X7 tyX7 tyX7_ok nmX7 hown hK hP hD hS 0 rfl rfl 17 (by decide) k_193 (fun _ h9 => h9) rfl (by decide +kernel) rfl rfl (Nat.le_of_ble_eq_true rfl) dX7_go_269 (fun H locs hP hD hS => ?_)
            have hP : va_P E.1 vwCl (rw_24 E mo mn mi ma ml mt mb mr mp mk mq mc mw mz ms mf mu mv mx mh mA mB mC mM mT mHI mFC mLC mCg mTp mNx mFr 2 mVa mNx mKe mCs mAt mHd mWg mNow mImg mAsd mLea mLat mBst mRsk mTap mKys mKat mCod mWts mTes mStk mFct mSor mSiz mCel mHol mHoA mHoB mHoC mMov mTel) H := hP
            have hD : va_D A (rw_24 E mo mn mi ma ml mt mb mr mp mk mq mc mw mz ms mf mu mv mx mh mA mB mC mM mT mHI mFC mLC mCg mTp mNx mFr 2 mVa mNx mKe mCs mAt mHd mWg mNow mImg mAsd mLea mLat mBst mRsk mTap mKys mKat mCod mWts mTes mStk mFct mSor mSiz mCel mHol mHoA mHoB mHoC mMov mTel) := hD
            refine lv_goto (tgt := 303) hx hb dX7_go_272 (by decide) ?_
            exact hret _ _ _ _ (mNx, mFr, 2, mVa, mNx) h hP hD hS dX7_go_303
          · have h := h.2 c_4
            refine lv_iconst (v := 4) hx hb dX7_go_256 (by decide) ?_
            refine lv_goto (tgt := 261) hx hb dX7_go_257 (by decide) ?_
            refine va_put (D := E.1) (ci := 7) (v := .int 4) (ty := .int) (C := RX7) (T := TX7) (N := 39) hx hb hts n_X7 tyX7 tyX7_ok nmX7 hown hK hP hD hS 0 rfl rfl 15 (by decide) k_196 (fun _ h9 => h9) rfl (by decide +kernel) rfl rfl (Nat.le_of_ble_eq_true rfl) dX7_go_261 (fun H locs hP hD hS => ?_)
            have hP : va_P E.1 vwCl (rw_24 E mo mn mi ma ml mt mb mr mp mk mq mc mw mz ms mf mu mv mx mh mA mB mC mM mT mHI mFC mLC mCg mTp mNx mFr 4 mVa mEn mKe mCs mAt mHd mWg mNow mImg mAsd mLea mLat mBst mRsk mTap mKys mKat mCod mWts mTes mStk mFct mSor mSiz mCel mHol mHoA mHoB mHoC mMov mTel) H := hP
            have hD : va_D A (rw_24 E mo mn mi ma ml mt mb mr mp mk mq mc mw mz ms mf mu mv mx mh mA mB mC mM mT mHI mFC mLC mCg mTp mNx mFr 4 mVa mEn mKe mCs mAt mHd mWg mNow mImg mAsd mLea mLat mBst mRsk mTap mKys mKat mCod mWts mTes mStk mFct mSor mSiz mCel mHol mHoA mHoB mHoC mMov mTel) := hD
            refine lv_aload_n hx hb dX7_go_264 rfl (lv_at hl 0 rfl) ?_
            refine lv_aload_n hx hb dX7_go_265 rfl (lv_at hl 0 rfl) ?_
            refine va_get (D := E.1) (ci := 7) (v := .int mNx) (C := RX7) (T := TX7) (N := 39) hx hb hts n_X7 hown hK hP 0 rfl rfl 13 (by decide) k_187 (fun _ h9 => h9) rfl dX7_go_266 ?_
            refine va_put (D := E.1) (ci := 7) (v := .int mNx) (ty := .int) (C := RX7) (T := TX7) (N := 39) hx hb hts n_X7 tyX7 tyX7_ok nmX7 hown hK hP hD hS 0 rfl rfl 17 (by decide) k_193 (fun _ h9 => h9) rfl (by decide +kernel) rfl rfl (Nat.le_of_ble_eq_true rfl) dX7_go_269 (fun H locs hP hD hS => ?_)
            have hP : va_P E.1 vwCl (rw_24 E mo mn mi ma ml mt mb mr mp mk mq mc mw mz ms mf mu mv mx mh mA mB mC mM mT mHI mFC mLC mCg mTp mNx mFr 4 mVa mNx mKe mCs mAt mHd mWg mNow mImg mAsd mLea mLat mBst mRsk mTap mKys mKat mCod mWts mTes mStk mFct mSor mSiz mCel mHol mHoA mHoB mHoC mMov mTel) H := hP
            have hD : va_D A (rw_24 E mo mn mi ma ml mt mb mr mp mk mq mc mw mz ms mf mu mv mx mh mA mB mC mM mT mHI mFC mLC mCg mTp mNx mFr 4 mVa mNx mKe mCs mAt mHd mWg mNow mImg mAsd mLea mLat mBst mRsk mTap mKys mKat mCod mWts mTes mStk mFct mSor mSiz mCel mHol mHoA mHoB mHoC mMov mTel) := hD
            refine lv_goto (tgt := 303) hx hb dX7_go_272 (by decide) ?_
            exact hret _ _ _ _ (mNx, mFr, 4, mVa, mNx) h hP hD hS dX7_go_303
      · have h := h.2 c_2
        refine lv_aload_n hx hb dX7_go_181 rfl (lv_at hl 0 rfl) ?_
        refine lv_aload_n hx hb dX7_go_182 rfl (lv_at hl 0 rfl) ?_
        refine va_get (D := E.1) (ci := 7) (v := .int mNx) (C := RX7) (T := TX7) (N := 39) hx hb hts n_X7 hown hK hP 0 rfl rfl 13 (by decide) k_187 (fun _ h9 => h9) rfl dX7_go_183 ?_
        refine lv_aload_n hx hb dX7_go_186 rfl (lv_at hl 0 rfl) ?_
        refine va_get (D := E.1) (ci := 7) (v := .int mFr) (C := RX7) (T := TX7) (N := 39) hx hb hts n_X7 hown hK hP 0 rfl rfl 14 (by decide) k_190 (fun _ h9 => h9) rfl dX7_go_187 ?_
        refine lv_isub hx hb dX7_go_190 ?_
        refine lv_iconst (v := 4) hx hb dX7_go_191 (by decide) ?_
        refine lv_icmp_ge (tgt := 218) hx hb dX7_go_192 (by decide) (fun c_5 => ?_) (fun c_5 => ?_)
        · have h := h.1 c_5
          refine lv_aload_n hx hb dX7_go_218 rfl (lv_at hl 0 rfl) ?_
          refine va_get (D := E.1) (ci := 7) (v := .int mVa) (C := RX7) (T := TX7) (N := 39) hx hb hts n_X7 hown hK hP 0 rfl rfl 16 (by decide) k_202 (fun _ h9 => h9) rfl dX7_go_219 ?_
          refine va_put (D := E.1) (ci := 7) (v := .int mVa) (ty := .int) (C := RX7) (T := TX7) (N := 39) hx hb hts n_X7 tyX7 tyX7_ok nmX7 hown hK hP hD hS 0 rfl rfl 16 (by decide) k_202 (fun _ h9 => h9) rfl (by decide +kernel) rfl rfl (Nat.le_of_ble_eq_true rfl) dX7_go_222 (fun H locs hP hD hS => ?_)
          have hP : va_P E.1 vwCl (rw_24 E mo mn mi ma ml mt mb mr mp mk mq mc mw mz ms mf mu mv mx mh mA mB mC mM mT mHI mFC mLC mCg mTp mNx mFr mTk mVa mEn mKe mCs mAt mHd mWg mNow mImg mAsd mLea mLat mBst mRsk mTap mKys mKat mCod mWts mTes mStk mFct mSor mSiz mCel mHol mHoA mHoB mHoC mMov mTel) H := hP
          have hD : va_D A (rw_24 E mo mn mi ma ml mt mb mr mp mk mq mc mw mz ms mf mu mv mx mh mA mB mC mM mT mHI mFC mLC mCg mTp mNx mFr mTk mVa mEn mKe mCs mAt mHd mWg mNow mImg mAsd mLea mLat mBst mRsk mTap mKys mKat mCod mWts mTes mStk mFct mSor mSiz mCel mHol mHoA mHoB mHoC mMov mTel) := hD
          refine lv_aload_n hx hb dX7_go_225 rfl (lv_at hl 0 rfl) ?_
          refine lv_dup hx hb dX7_go_226 rfl ?_
          refine va_get (D := E.1) (ci := 7) (v := .int mNx) (C := RX7) (T := TX7) (N := 39) hx hb hts n_X7 hown hK hP 0 rfl rfl 13 (by decide) k_187 (fun _ h9 => h9) rfl dX7_go_227 ?_
          refine lv_iconst (v := 1) hx hb dX7_go_230 (by decide) ?_
          refine lv_iadd hx hb dX7_go_231 ?_
          refine va_put (D := E.1) (ci := 7) (v := .int (mNx + 1)) (ty := .int) (C := RX7) (T := TX7) (N := 39) hx hb hts n_X7 tyX7 tyX7_ok nmX7 hown hK hP hD hS 0 rfl rfl 13 (by decide) k_187 (fun _ h9 => h9) rfl (by decide +kernel) rfl rfl (Nat.le_of_ble_eq_true rfl) dX7_go_232 (fun H locs hP hD hS => ?_)
          have hP : va_P E.1 vwCl (rw_24 E mo mn mi ma ml mt mb mr mp mk mq mc mw mz ms mf mu mv mx mh mA mB mC mM mT mHI mFC mLC mCg mTp (mNx + 1) mFr mTk mVa mEn mKe mCs mAt mHd mWg mNow mImg mAsd mLea mLat mBst mRsk mTap mKys mKat mCod mWts mTes mStk mFct mSor mSiz mCel mHol mHoA mHoB mHoC mMov mTel) H := hP
          have hD : va_D A (rw_24 E mo mn mi ma ml mt mb mr mp mk mq mc mw mz ms mf mu mv mx mh mA mB mC mM mT mHI mFC mLC mCg mTp (mNx + 1) mFr mTk mVa mEn mKe mCs mAt mHd mWg mNow mImg mAsd mLea mLat mBst mRsk mTap mKys mKat mCod mWts mTes mStk mFct mSor mSiz mCel mHol mHoA mHoB mHoC mMov mTel) := hD
          refine lv_goto (tgt := 170) hx hb dX7_go_235 (by decide) ?_
          exact ih x1 (mNx + 1) mFr mTk mVa mEn h _ _ hP hD hS ls (lv_sub hl [0, 1] rfl)
        · have h := h.2 c_5
          refine lv_bipush (v := 10) hx hb dX7_go_195 (by decide) ?_
          refine lv_aload_n hx hb dX7_go_197 rfl (lv_at hl 0 rfl) ?_
          refine va_get (D := E.1) (ci := 7) (v := .int mVa) (C := RX7) (T := TX7) (N := 39) hx hb hts n_X7 hown hK hP 0 rfl rfl 16 (by decide) k_202 (fun _ h9 => h9) rfl dX7_go_198 ?_
          refine lv_imul hx hb dX7_go_201 ?_
          refine lv_aload_n hx hb dX7_go_202 rfl (lv_at hl 0 rfl) ?_
          refine va_get (D := E.1) (ci := 7) (v := .ref mp) (C := RX7) (T := TX7) (N := 39) hx hb hts n_X7 hown hK hP 0 rfl rfl 11 (by decide) k_31 (fun _ h9 => h9) rfl dX7_go_203 ?_
          refine lv_aload_n hx hb dX7_go_206 rfl (lv_at hl 0 rfl) ?_
          refine va_get (D := E.1) (ci := 7) (v := .int mNx) (C := RX7) (T := TX7) (N := 39) hx hb hts n_X7 hown hK hP 0 rfl rfl 13 (by decide) k_187 (fun _ h9 => h9) rfl dX7_go_207 ?_
          obtain ⟨o_6, h⟩ := h
          refine rc_iald hx hb hK hP 8 0 rfl rfl mNx.toNatClampNeg rfl o_6 dX7_go_210 ?_
          refine lv_iadd hx hb dX7_go_211 ?_
          refine lv_bipush (v := 48) hx hb dX7_go_212 (by decide) ?_
          refine lv_isub hx hb dX7_go_214 ?_
          refine lv_goto (tgt := 222) hx hb dX7_go_215 (by decide) ?_
          refine va_put (D := E.1) (ci := 7) (v := .int (((10 * mVa) + (mTap mNx.toNatClampNeg)) - 48)) (ty := .int) (C := RX7) (T := TX7) (N := 39) hx hb hts n_X7 tyX7 tyX7_ok nmX7 hown hK hP hD hS 0 rfl rfl 16 (by decide) k_202 (fun _ h9 => h9) rfl (by decide +kernel) rfl rfl (Nat.le_of_ble_eq_true rfl) dX7_go_222 (fun H locs hP hD hS => ?_)
          have hP : va_P E.1 vwCl (rw_24 E mo mn mi ma ml mt mb mr mp mk mq mc mw mz ms mf mu mv mx mh mA mB mC mM mT mHI mFC mLC mCg mTp mNx mFr mTk (((10 * mVa) + (mTap mNx.toNatClampNeg)) - 48) mEn mKe mCs mAt mHd mWg mNow mImg mAsd mLea mLat mBst mRsk mTap mKys mKat mCod mWts mTes mStk mFct mSor mSiz mCel mHol mHoA mHoB mHoC mMov mTel) H := hP
          have hD : va_D A (rw_24 E mo mn mi ma ml mt mb mr mp mk mq mc mw mz ms mf mu mv mx mh mA mB mC mM mT mHI mFC mLC mCg mTp mNx mFr mTk (((10 * mVa) + (mTap mNx.toNatClampNeg)) - 48) mEn mKe mCs mAt mHd mWg mNow mImg mAsd mLea mLat mBst mRsk mTap mKys mKat mCod mWts mTes mStk mFct mSor mSiz mCel mHol mHoA mHoB mHoC mMov mTel) := hD
          refine lv_aload_n hx hb dX7_go_225 rfl (lv_at hl 0 rfl) ?_
          refine lv_dup hx hb dX7_go_226 rfl ?_
          refine va_get (D := E.1) (ci := 7) (v := .int mNx) (C := RX7) (T := TX7) (N := 39) hx hb hts n_X7 hown hK hP 0 rfl rfl 13 (by decide) k_187 (fun _ h9 => h9) rfl dX7_go_227 ?_
          refine lv_iconst (v := 1) hx hb dX7_go_230 (by decide) ?_
          refine lv_iadd hx hb dX7_go_231 ?_
          refine va_put (D := E.1) (ci := 7) (v := .int (mNx + 1)) (ty := .int) (C := RX7) (T := TX7) (N := 39) hx hb hts n_X7 tyX7 tyX7_ok nmX7 hown hK hP hD hS 0 rfl rfl 13 (by decide) k_187 (fun _ h9 => h9) rfl (by decide +kernel) rfl rfl (Nat.le_of_ble_eq_true rfl) dX7_go_232 (fun H locs hP hD hS => ?_)
          have hP : va_P E.1 vwCl (rw_24 E mo mn mi ma ml mt mb mr mp mk mq mc mw mz ms mf mu mv mx mh mA mB mC mM mT mHI mFC mLC mCg mTp (mNx + 1) mFr mTk (((10 * mVa) + (mTap mNx.toNatClampNeg)) - 48) mEn mKe mCs mAt mHd mWg mNow mImg mAsd mLea mLat mBst mRsk mTap mKys mKat mCod mWts mTes mStk mFct mSor mSiz mCel mHol mHoA mHoB mHoC mMov mTel) H := hP
          have hD : va_D A (rw_24 E mo mn mi ma ml mt mb mr mp mk mq mc mw mz ms mf mu mv mx mh mA mB mC mM mT mHI mFC mLC mCg mTp (mNx + 1) mFr mTk (((10 * mVa) + (mTap mNx.toNatClampNeg)) - 48) mEn mKe mCs mAt mHd mWg mNow mImg mAsd mLea mLat mBst mRsk mTap mKys mKat mCod mWts mTes mStk mFct mSor mSiz mCel mHol mHoA mHoB mHoC mMov mTel) := hD
          refine lv_goto (tgt := 170) hx hb dX7_go_235 (by decide) ?_
          exact ih x1 (mNx + 1) mFr mTk (((10 * mVa) + (mTap mNx.toNatClampNeg)) - 48) mEn h _ _ hP hD hS ls (lv_sub hl [0, 1] rfl)
  have J127 : ∀ (y0 : Int32) (mNx : Int32) (mFr : Int32) (mTk : Int32) (mVa : Int32) (mEn : Int32), jp_X7_go_127 mTap Q y0 mNx mFr mTk mVa mEn → ∀ (H : Heap) (locs : List Loc), va_P E.1 vwCl (rw_24 E mo mn mi ma ml mt mb mr mp mk mq mc mw mz ms mf mu mv mx mh mA mB mC mM mT mHI mFC mLC mCg mTp mNx mFr mTk mVa mEn mKe mCs mAt mHd mWg mNow mImg mAsd mLea mLat mBst mRsk mTap mKys mKat mCod mWts mTes mStk mFct mSor mSiz mCel mHol mHoA mHoB mHoC mMov mTel) H → va_D A (rw_24 E mo mn mi ma ml mt mb mr mp mk mq mc mw mz ms mf mu mv mx mh mA mB mC mM mT mHI mFC mLC mCg mTp mNx mFr mTk mVa mEn mKe mCs mAt mHd mWg mNow mImg mAsd mLea mLat mBst mRsk mTap mKys mKat mCod mWts mTes mStk mFct mSor mSiz mCel mHol mHoA mHoB mHoC mMov mTel) → va_S A s.heap H locs → ∀ ls : Array Slot, lv_has ls 2 [(0, .ref mo)] → W p l e ({ frames := 1, cells := 0, slots := 0, locals := 21 } : Room) s m args below meth c H locs 0 0 QQ (F0 m 127 ls [.int y0, .ref mo]) := by
    intro y0 mNx mFr mTk mVa mEn h H locs hP hD hS ls hl
    unfold jp_X7_go_127 at h
    refine va_put (D := E.1) (ci := 7) (v := .int y0) (ty := .int) (C := RX7) (T := TX7) (N := 39) hx hb hts n_X7 tyX7 tyX7_ok nmX7 hown hK hP hD hS 0 rfl rfl 15 (by decide) k_196 (fun _ h9 => h9) rfl (by decide +kernel) rfl rfl (Nat.le_of_ble_eq_true rfl) dX7_go_127 (fun H locs hP hD hS => ?_)
    have hP : va_P E.1 vwCl (rw_24 E mo mn mi ma ml mt mb mr mp mk mq mc mw mz ms mf mu mv mx mh mA mB mC mM mT mHI mFC mLC mCg mTp mNx mFr y0 mVa mEn mKe mCs mAt mHd mWg mNow mImg mAsd mLea mLat mBst mRsk mTap mKys mKat mCod mWts mTes mStk mFct mSor mSiz mCel mHol mHoA mHoB mHoC mMov mTel) H := hP
    have hD : va_D A (rw_24 E mo mn mi ma ml mt mb mr mp mk mq mc mw mz ms mf mu mv mx mh mA mB mC mM mT mHI mFC mLC mCg mTp mNx mFr y0 mVa mEn mKe mCs mAt mHd mWg mNow mImg mAsd mLea mLat mBst mRsk mTap mKys mKat mCod mWts mTes mStk mFct mSor mSiz mCel mHol mHoA mHoB mHoC mMov mTel) := hD
    refine lv_aload_n hx hb dX7_go_130 rfl (lv_at hl 0 rfl) ?_
    refine lv_aload_n hx hb dX7_go_131 rfl (lv_at hl 0 rfl) ?_
    refine va_get (D := E.1) (ci := 7) (v := .ref mp) (C := RX7) (T := TX7) (N := 39) hx hb hts n_X7 hown hK hP 0 rfl rfl 11 (by decide) k_31 (fun _ h9 => h9) rfl dX7_go_132 ?_
    refine lv_aload_n hx hb dX7_go_135 rfl (lv_at hl 0 rfl) ?_
    refine va_get (D := E.1) (ci := 7) (v := .int mFr) (C := RX7) (T := TX7) (N := 39) hx hb hts n_X7 hown hK hP 0 rfl rfl 14 (by decide) k_190 (fun _ h9 => h9) rfl dX7_go_136 ?_
    obtain ⟨o_7, h⟩ := h
    refine rc_iald hx hb hK hP 8 0 rfl rfl mFr.toNatClampNeg rfl o_7 dX7_go_139 ?_
    refine va_put (D := E.1) (ci := 7) (v := .int (mTap mFr.toNatClampNeg)) (ty := .int) (C := RX7) (T := TX7) (N := 39) hx hb hts n_X7 tyX7 tyX7_ok nmX7 hown hK hP hD hS 0 rfl rfl 16 (by decide) k_202 (fun _ h9 => h9) rfl (by decide +kernel) rfl rfl (Nat.le_of_ble_eq_true rfl) dX7_go_140 (fun H locs hP hD hS => ?_)
    have hP : va_P E.1 vwCl (rw_24 E mo mn mi ma ml mt mb mr mp mk mq mc mw mz ms mf mu mv mx mh mA mB mC mM mT mHI mFC mLC mCg mTp mNx mFr y0 (mTap mFr.toNatClampNeg) mEn mKe mCs mAt mHd mWg mNow mImg mAsd mLea mLat mBst mRsk mTap mKys mKat mCod mWts mTes mStk mFct mSor mSiz mCel mHol mHoA mHoB mHoC mMov mTel) H := hP
    have hD : va_D A (rw_24 E mo mn mi ma ml mt mb mr mp mk mq mc mw mz ms mf mu mv mx mh mA mB mC mM mT mHI mFC mLC mCg mTp mNx mFr y0 (mTap mFr.toNatClampNeg) mEn mKe mCs mAt mHd mWg mNow mImg mAsd mLea mLat mBst mRsk mTap mKys mKat mCod mWts mTes mStk mFct mSor mSiz mCel mHol mHoA mHoB mHoC mMov mTel) := hD
    refine lv_aload_n hx hb dX7_go_143 rfl (lv_at hl 0 rfl) ?_
    refine lv_aload_n hx hb dX7_go_144 rfl (lv_at hl 0 rfl) ?_
    refine va_get (D := E.1) (ci := 7) (v := .int mNx) (C := RX7) (T := TX7) (N := 39) hx hb hts n_X7 hown hK hP 0 rfl rfl 13 (by decide) k_187 (fun _ h9 => h9) rfl dX7_go_145 ?_
    refine va_put (D := E.1) (ci := 7) (v := .int mNx) (ty := .int) (C := RX7) (T := TX7) (N := 39) hx hb hts n_X7 tyX7 tyX7_ok nmX7 hown hK hP hD hS 0 rfl rfl 17 (by decide) k_193 (fun _ h9 => h9) rfl (by decide +kernel) rfl rfl (Nat.le_of_ble_eq_true rfl) dX7_go_148 (fun H locs hP hD hS => ?_)
    have hP : va_P E.1 vwCl (rw_24 E mo mn mi ma ml mt mb mr mp mk mq mc mw mz ms mf mu mv mx mh mA mB mC mM mT mHI mFC mLC mCg mTp mNx mFr y0 (mTap mFr.toNatClampNeg) mNx mKe mCs mAt mHd mWg mNow mImg mAsd mLea mLat mBst mRsk mTap mKys mKat mCod mWts mTes mStk mFct mSor mSiz mCel mHol mHoA mHoB mHoC mMov mTel) H := hP
    have hD : va_D A (rw_24 E mo mn mi ma ml mt mb mr mp mk mq mc mw mz ms mf mu mv mx mh mA mB mC mM mT mHI mFC mLC mCg mTp mNx mFr y0 (mTap mFr.toNatClampNeg) mNx mKe mCs mAt mHd mWg mNow mImg mAsd mLea mLat mBst mRsk mTap mKys mKat mCod mWts mTes mStk mFct mSor mSiz mCel mHol mHoA mHoB mHoC mMov mTel) := hD
    refine lv_goto (tgt := 303) hx hb dX7_go_151 (by decide) ?_
    exact hret _ _ _ _ (mNx, mFr, y0, mTap mFr.toNatClampNeg, mNx) h hP hD hS dX7_go_303
  have J93 : ∀ (n : Nat) (x1 : Int32) (mNx : Int32) (mFr : Int32) (mTk : Int32) (mVa : Int32) (mEn : Int32), lp_X7_go_93 mTp mTap Q n x1 mNx mFr mTk mVa mEn → ∀ (H : Heap) (locs : List Loc), va_P E.1 vwCl (rw_24 E mo mn mi ma ml mt mb mr mp mk mq mc mw mz ms mf mu mv mx mh mA mB mC mM mT mHI mFC mLC mCg mTp mNx mFr mTk mVa mEn mKe mCs mAt mHd mWg mNow mImg mAsd mLea mLat mBst mRsk mTap mKys mKat mCod mWts mTes mStk mFct mSor mSiz mCel mHol mHoA mHoB mHoC mMov mTel) H → va_D A (rw_24 E mo mn mi ma ml mt mb mr mp mk mq mc mw mz ms mf mu mv mx mh mA mB mC mM mT mHI mFC mLC mCg mTp mNx mFr mTk mVa mEn mKe mCs mAt mHd mWg mNow mImg mAsd mLea mLat mBst mRsk mTap mKys mKat mCod mWts mTes mStk mFct mSor mSiz mCel mHol mHoA mHoB mHoC mMov mTel) → va_S A s.heap H locs → ∀ ls : Array Slot, lv_has ls 2 [(0, .ref mo), (1, .int x1)] → W p l e ({ frames := 1, cells := 0, slots := 0, locals := 21 } : Room) s m args below meth c H locs 0 0 QQ (F0 m 93 ls []) := by
    intro n
    induction n with
    | zero =>
      intro x1 mNx mFr mTk mVa mEn h
      exact False.elim h
    | succ n ih =>
      intro x1 mNx mFr mTk mVa mEn h H locs hP hD hS ls hl
      have h : lp_X7_go_93F mTp mTap Q (lp_X7_go_93 mTp mTap Q n) x1 mNx mFr mTk mVa mEn := h
      unfold lp_X7_go_93F at h
      refine lv_aload_n hx hb dX7_go_93 rfl (lv_at hl 0 rfl) ?_
      refine lv_aload_n hx hb dX7_go_94 rfl (lv_at hl 0 rfl) ?_
      refine va_get (D := E.1) (ci := 7) (v := .int mNx) (C := RX7) (T := TX7) (N := 39) hx hb hts n_X7 hown hK hP 0 rfl rfl 13 (by decide) k_187 (fun _ h9 => h9) rfl dX7_go_95 ?_
      have hPc := hP
      have hDc := hD
      have hFc := rc_freeI hD hS hA
      refine va_calli (va_runV (As := [.int mNx]) (rest := []) ⟨hx, hb, hml, hown, hts⟩ (c_X7_isLetter l E mo mn mi ma ml mt mb mr mp mk mq mc mw mz ms mf mu mv mx mh mA mB mC mM mT H.size mHI mFC mLC mCg mTp mNx mFr mTk mVa mEn mKe mCs mAt mHd mWg mNow mImg mAsd mLea mLat mBst mRsk mTap mKys mKat mCod mWts mTes mStk mFct mSor mSiz mCel mHol mHoA mHoB mHoC mMov mTel mNx _ h) (cwV 1 hts gX7_go_X7_isLetter rfl rfl rfl (by decide +kernel) ⟨Nat.le_of_ble_eq_true rfl, Nat.le_of_ble_eq_true rfl⟩) ⟨fun a U g mk q => ⟨q.1, q.2.blind⟩, va_recv hK hPc (ci := 7) (q0 := 0) rfl rfl, fun U hU hW => ⟨rfl, by rw [hU], by rw [hU]; exact hPc, hE.call hS hFc hW hU, hDc.weaken (fun _ _ _ _ => trivial)⟩⟩ rfl rfl hl.1 rfl (lv_room (Nat.le_of_ble_eq_true rfl)) dX7_go_98 ⟨Nat.zero_le _, Nat.zero_le _⟩) hS (fun q _ h => hFc q h) hFc (fun r_8 u t H1 locs ht hvm h hB hz1 hk1 hS => ?_)
      obtain ⟨hP1, hD1⟩ := hB
      rw [ht] at hP1
      have hP := hP1
      have hD := hD1.weaken (fun _ _ _ h => hFc _ h)
      generalize H1 = H at hP hS ⊢
      have hP : va_P E.1 vwCl (rw_24 E mo mn mi ma ml mt mb mr mp mk mq mc mw mz ms mf mu mv mx mh mA mB mC mM mT mHI mFC mLC mCg mTp mNx mFr mTk mVa mEn mKe mCs mAt mHd mWg mNow mImg mAsd mLea mLat mBst mRsk mTap mKys mKat mCod mWts mTes mStk mFct mSor mSiz mCel mHol mHoA mHoB mHoC mMov mTel) H := hP
      have hD : va_D A (rw_24 E mo mn mi ma ml mt mb mr mp mk mq mc mw mz ms mf mu mv mx mh mA mB mC mM mT mHI mFC mLC mCg mTp mNx mFr mTk mVa mEn mKe mCs mAt mHd mWg mNow mImg mAsd mLea mLat mBst mRsk mTap mKys mKat mCod mWts mTes mStk mFct mSor mSiz mCel mHol mHoA mHoB mHoC mMov mTel) := hD
      refine lv_if_eq (tgt := 117) hx hb dX7_go_101 (by decide) (fun c_9 => ?_) (fun c_9 => ?_)
      · have h := h.1 c_9
        refine lv_aload_n hx hb dX7_go_117 rfl (lv_at hl 0 rfl) ?_
        refine lv_iload_n hx hb dX7_go_118 rfl (lv_at hl 1 rfl) ?_
        refine lv_if_eq (tgt := 126) hx hb dX7_go_119 (by decide) (fun c_10 => ?_) (fun c_10 => ?_)
        · have h := h.1 c_10
          refine lv_iconst (v := 1) hx hb dX7_go_126 (by decide) ?_
          exact J127 1 mNx mFr mTk mVa mEn h _ _ hP hD hS ls (lv_sub hl [0] rfl)
        · have h := h.2 c_10
          refine lv_iconst (v := 4) hx hb dX7_go_122 (by decide) ?_
          refine lv_goto (tgt := 127) hx hb dX7_go_123 (by decide) ?_
          exact J127 4 mNx mFr mTk mVa mEn h _ _ hP hD hS ls (lv_sub hl [0] rfl)
      · have h := h.2 c_9
        refine lv_aload_n hx hb dX7_go_104 rfl (lv_at hl 0 rfl) ?_
        refine lv_dup hx hb dX7_go_105 rfl ?_
        refine va_get (D := E.1) (ci := 7) (v := .int mNx) (C := RX7) (T := TX7) (N := 39) hx hb hts n_X7 hown hK hP 0 rfl rfl 13 (by decide) k_187 (fun _ h9 => h9) rfl dX7_go_106 ?_
        refine lv_iconst (v := 1) hx hb dX7_go_109 (by decide) ?_
        refine lv_iadd hx hb dX7_go_110 ?_
        refine va_put (D := E.1) (ci := 7) (v := .int (mNx + 1)) (ty := .int) (C := RX7) (T := TX7) (N := 39) hx hb hts n_X7 tyX7 tyX7_ok nmX7 hown hK hP hD hS 0 rfl rfl 13 (by decide) k_187 (fun _ h9 => h9) rfl (by decide +kernel) rfl rfl (Nat.le_of_ble_eq_true rfl) dX7_go_111 (fun H locs hP hD hS => ?_)
        have hP : va_P E.1 vwCl (rw_24 E mo mn mi ma ml mt mb mr mp mk mq mc mw mz ms mf mu mv mx mh mA mB mC mM mT mHI mFC mLC mCg mTp (mNx + 1) mFr mTk mVa mEn mKe mCs mAt mHd mWg mNow mImg mAsd mLea mLat mBst mRsk mTap mKys mKat mCod mWts mTes mStk mFct mSor mSiz mCel mHol mHoA mHoB mHoC mMov mTel) H := hP
        have hD : va_D A (rw_24 E mo mn mi ma ml mt mb mr mp mk mq mc mw mz ms mf mu mv mx mh mA mB mC mM mT mHI mFC mLC mCg mTp (mNx + 1) mFr mTk mVa mEn mKe mCs mAt mHd mWg mNow mImg mAsd mLea mLat mBst mRsk mTap mKys mKat mCod mWts mTes mStk mFct mSor mSiz mCel mHol mHoA mHoB mHoC mMov mTel) := hD
        refine lv_goto (tgt := 93) hx hb dX7_go_114 (by decide) ?_
        exact ih x1 (mNx + 1) mFr mTk mVa mEn h _ _ hP hD hS ls (lv_sub hl [0, 1] rfl)
  have J62 : ∀ (y0 : Int32) (mNx : Int32) (mFr : Int32) (mTk : Int32) (mVa : Int32) (mEn : Int32), jp_X7_go_62 mTp mTap Q y0 mNx mFr mTk mVa mEn → ∀ (H : Heap) (locs : List Loc), va_P E.1 vwCl (rw_24 E mo mn mi ma ml mt mb mr mp mk mq mc mw mz ms mf mu mv mx mh mA mB mC mM mT mHI mFC mLC mCg mTp mNx mFr mTk mVa mEn mKe mCs mAt mHd mWg mNow mImg mAsd mLea mLat mBst mRsk mTap mKys mKat mCod mWts mTes mStk mFct mSor mSiz mCel mHol mHoA mHoB mHoC mMov mTel) H → va_D A (rw_24 E mo mn mi ma ml mt mb mr mp mk mq mc mw mz ms mf mu mv mx mh mA mB mC mM mT mHI mFC mLC mCg mTp mNx mFr mTk mVa mEn mKe mCs mAt mHd mWg mNow mImg mAsd mLea mLat mBst mRsk mTap mKys mKat mCod mWts mTes mStk mFct mSor mSiz mCel mHol mHoA mHoB mHoC mMov mTel) → va_S A s.heap H locs → ∀ ls : Array Slot, lv_has ls 2 [(0, .ref mo)] → W p l e ({ frames := 1, cells := 0, slots := 0, locals := 21 } : Room) s m args below meth c H locs 0 0 QQ (F0 m 62 ls [.int y0]) := by
    intro y0 mNx mFr mTk mVa mEn h H locs hP hD hS ls hl
    unfold jp_X7_go_62 at h
    refine lv_istore_n (lv' := [(1, .int y0), (0, .ref mo)]) hx hb dX7_go_62 rfl hl (by decide) rfl (fun ls hl => ?_)
    refine lv_aload_n hx hb dX7_go_63 rfl (lv_at hl 1 rfl) ?_
    refine va_get (D := E.1) (ci := 7) (v := .int mFr) (C := RX7) (T := TX7) (N := 39) hx hb hts n_X7 hown hK hP 0 rfl rfl 14 (by decide) k_190 (fun _ h9 => h9) rfl dX7_go_64 ?_
    refine lv_aload_n hx hb dX7_go_67 rfl (lv_at hl 1 rfl) ?_
    refine va_get (D := E.1) (ci := 7) (v := .int mTp) (C := RX7) (T := TX7) (N := 39) hx hb hts n_X7 hown hK hP 0 rfl rfl 12 (by decide) k_184 (fun _ h9 => h9) rfl dX7_go_68 ?_
    refine lv_icmp_ne (tgt := 82) hx hb dX7_go_71 (by decide) (fun c_11 => ?_) (fun c_11 => ?_)
    · have h := h.1 c_11
      refine lv_aload_n hx hb dX7_go_82 rfl (lv_at hl 1 rfl) ?_
      refine lv_aload_n hx hb dX7_go_83 rfl (lv_at hl 1 rfl) ?_
      refine va_get (D := E.1) (ci := 7) (v := .int mFr) (C := RX7) (T := TX7) (N := 39) hx hb hts n_X7 hown hK hP 0 rfl rfl 14 (by decide) k_190 (fun _ h9 => h9) rfl dX7_go_84 ?_
      have hPc := hP
      have hDc := hD
      have hFc := rc_freeI hD hS hA
      refine va_calli (va_runV (As := [.int mFr]) (rest := []) ⟨hx, hb, hml, hown, hts⟩ (c_X7_isLetter l E mo mn mi ma ml mt mb mr mp mk mq mc mw mz ms mf mu mv mx mh mA mB mC mM mT H.size mHI mFC mLC mCg mTp mNx mFr mTk mVa mEn mKe mCs mAt mHd mWg mNow mImg mAsd mLea mLat mBst mRsk mTap mKys mKat mCod mWts mTes mStk mFct mSor mSiz mCel mHol mHoA mHoB mHoC mMov mTel mFr _ h) (cwV 1 hts gX7_go_X7_isLetter rfl rfl rfl (by decide +kernel) ⟨Nat.le_of_ble_eq_true rfl, Nat.le_of_ble_eq_true rfl⟩) ⟨fun a U g mk q => ⟨q.1, q.2.blind⟩, va_recv hK hPc (ci := 7) (q0 := 0) rfl rfl, fun U hU hW => ⟨rfl, by rw [hU], by rw [hU]; exact hPc, hE.call hS hFc hW hU, hDc.weaken (fun _ _ _ _ => trivial)⟩⟩ rfl rfl hl.1 rfl (lv_room (Nat.le_of_ble_eq_true rfl)) dX7_go_87 ⟨Nat.zero_le _, Nat.zero_le _⟩) hS (fun q _ h => hFc q h) hFc (fun r_12 u t H1 locs ht hvm h hB hz1 hk1 hS => ?_)
      obtain ⟨hP1, hD1⟩ := hB
      rw [ht] at hP1
      have hP := hP1
      have hD := hD1.weaken (fun _ _ _ h => hFc _ h)
      generalize H1 = H at hP hS ⊢
      have hP : va_P E.1 vwCl (rw_24 E mo mn mi ma ml mt mb mr mp mk mq mc mw mz ms mf mu mv mx mh mA mB mC mM mT mHI mFC mLC mCg mTp mNx mFr mTk mVa mEn mKe mCs mAt mHd mWg mNow mImg mAsd mLea mLat mBst mRsk mTap mKys mKat mCod mWts mTes mStk mFct mSor mSiz mCel mHol mHoA mHoB mHoC mMov mTel) H := hP
      have hD : va_D A (rw_24 E mo mn mi ma ml mt mb mr mp mk mq mc mw mz ms mf mu mv mx mh mA mB mC mM mT mHI mFC mLC mCg mTp mNx mFr mTk mVa mEn mKe mCs mAt mHd mWg mNow mImg mAsd mLea mLat mBst mRsk mTap mKys mKat mCod mWts mTes mStk mFct mSor mSiz mCel mHol mHoA mHoB mHoC mMov mTel) := hD
      refine lv_if_eq (tgt := 154) hx hb dX7_go_90 (by decide) (fun c_13 => ?_) (fun c_13 => ?_)
      · have h := h.1 c_13
        refine lv_aload_n hx hb dX7_go_154 rfl (lv_at hl 1 rfl) ?_
        refine lv_aload_n hx hb dX7_go_155 rfl (lv_at hl 1 rfl) ?_
        refine va_get (D := E.1) (ci := 7) (v := .int mFr) (C := RX7) (T := TX7) (N := 39) hx hb hts n_X7 hown hK hP 0 rfl rfl 14 (by decide) k_190 (fun _ h9 => h9) rfl dX7_go_156 ?_
        have hPc := hP
        have hDc := hD
        have hFc := rc_freeI hD hS hA
        refine va_calli (va_runV (As := [.int mFr]) (rest := []) ⟨hx, hb, hml, hown, hts⟩ (c_X7_isFigure l E mo mn mi ma ml mt mb mr mp mk mq mc mw mz ms mf mu mv mx mh mA mB mC mM mT H.size mHI mFC mLC mCg mTp mNx mFr mTk mVa mEn mKe mCs mAt mHd mWg mNow mImg mAsd mLea mLat mBst mRsk mTap mKys mKat mCod mWts mTes mStk mFct mSor mSiz mCel mHol mHoA mHoB mHoC mMov mTel mFr _ h) (cwV 1 hts gX7_go_X7_isFigure rfl rfl rfl (by decide +kernel) ⟨Nat.le_of_ble_eq_true rfl, Nat.le_of_ble_eq_true rfl⟩) ⟨fun a U g mk q => ⟨q.1, q.2.blind⟩, va_recv hK hPc (ci := 7) (q0 := 0) rfl rfl, fun U hU hW => ⟨rfl, by rw [hU], by rw [hU]; exact hPc, hE.call hS hFc hW hU, hDc.weaken (fun _ _ _ _ => trivial)⟩⟩ rfl rfl hl.1 rfl (lv_room (Nat.le_of_ble_eq_true rfl)) dX7_go_159 ⟨Nat.zero_le _, Nat.zero_le _⟩) hS (fun q _ h => hFc q h) hFc (fun r_14 u t H1 locs ht hvm h hB hz1 hk1 hS => ?_)
        obtain ⟨hP1, hD1⟩ := hB
        rw [ht] at hP1
        have hP := hP1
        have hD := hD1.weaken (fun _ _ _ h => hFc _ h)
        generalize H1 = H at hP hS ⊢
        have hP : va_P E.1 vwCl (rw_24 E mo mn mi ma ml mt mb mr mp mk mq mc mw mz ms mf mu mv mx mh mA mB mC mM mT mHI mFC mLC mCg mTp mNx mFr mTk mVa mEn mKe mCs mAt mHd mWg mNow mImg mAsd mLea mLat mBst mRsk mTap mKys mKat mCod mWts mTes mStk mFct mSor mSiz mCel mHol mHoA mHoB mHoC mMov mTel) H := hP
        have hD : va_D A (rw_24 E mo mn mi ma ml mt mb mr mp mk mq mc mw mz ms mf mu mv mx mh mA mB mC mM mT mHI mFC mLC mCg mTp mNx mFr mTk mVa mEn mKe mCs mAt mHd mWg mNow mImg mAsd mLea mLat mBst mRsk mTap mKys mKat mCod mWts mTes mStk mFct mSor mSiz mCel mHol mHoA mHoB mHoC mMov mTel) := hD
        refine lv_if_eq (tgt := 275) hx hb dX7_go_162 (by decide) (fun c_15 => ?_) (fun c_15 => ?_)
        · have h := h.1 c_15
          refine lv_aload_n hx hb dX7_go_275 rfl (lv_at hl 1 rfl) ?_
          refine lv_iconst (v := 3) hx hb dX7_go_276 (by decide) ?_
          refine va_put (D := E.1) (ci := 7) (v := .int 3) (ty := .int) (C := RX7) (T := TX7) (N := 39) hx hb hts n_X7 tyX7 tyX7_ok nmX7 hown hK hP hD hS 0 rfl rfl 15 (by decide) k_196 (fun _ h9 => h9) rfl (by decide +kernel) rfl rfl (Nat.le_of_ble_eq_true rfl) dX7_go_277 (fun H locs hP hD hS => ?_)
          have hP : va_P E.1 vwCl (rw_24 E mo mn mi ma ml mt mb mr mp mk mq mc mw mz ms mf mu mv mx mh mA mB mC mM mT mHI mFC mLC mCg mTp mNx mFr 3 mVa mEn mKe mCs mAt mHd mWg mNow mImg mAsd mLea mLat mBst mRsk mTap mKys mKat mCod mWts mTes mStk mFct mSor mSiz mCel mHol mHoA mHoB mHoC mMov mTel) H := hP
          have hD : va_D A (rw_24 E mo mn mi ma ml mt mb mr mp mk mq mc mw mz ms mf mu mv mx mh mA mB mC mM mT mHI mFC mLC mCg mTp mNx mFr 3 mVa mEn mKe mCs mAt mHd mWg mNow mImg mAsd mLea mLat mBst mRsk mTap mKys mKat mCod mWts mTes mStk mFct mSor mSiz mCel mHol mHoA mHoB mHoC mMov mTel) := hD
          refine lv_aload_n hx hb dX7_go_280 rfl (lv_at hl 1 rfl) ?_
          refine lv_aload_n hx hb dX7_go_281 rfl (lv_at hl 1 rfl) ?_
          refine va_get (D := E.1) (ci := 7) (v := .ref mp) (C := RX7) (T := TX7) (N := 39) hx hb hts n_X7 hown hK hP 0 rfl rfl 11 (by decide) k_31 (fun _ h9 => h9) rfl dX7_go_282 ?_
          refine lv_aload_n hx hb dX7_go_285 rfl (lv_at hl 1 rfl) ?_
          refine va_get (D := E.1) (ci := 7) (v := .int mFr) (C := RX7) (T := TX7) (N := 39) hx hb hts n_X7 hown hK hP 0 rfl rfl 14 (by decide) k_190 (fun _ h9 => h9) rfl dX7_go_286 ?_
          obtain ⟨o_16, h⟩ := h
          refine rc_iald hx hb hK hP 8 0 rfl rfl mFr.toNatClampNeg rfl o_16 dX7_go_289 ?_
          refine va_put (D := E.1) (ci := 7) (v := .int (mTap mFr.toNatClampNeg)) (ty := .int) (C := RX7) (T := TX7) (N := 39) hx hb hts n_X7 tyX7 tyX7_ok nmX7 hown hK hP hD hS 0 rfl rfl 16 (by decide) k_202 (fun _ h9 => h9) rfl (by decide +kernel) rfl rfl (Nat.le_of_ble_eq_true rfl) dX7_go_290 (fun H locs hP hD hS => ?_)
          have hP : va_P E.1 vwCl (rw_24 E mo mn mi ma ml mt mb mr mp mk mq mc mw mz ms mf mu mv mx mh mA mB mC mM mT mHI mFC mLC mCg mTp mNx mFr 3 (mTap mFr.toNatClampNeg) mEn mKe mCs mAt mHd mWg mNow mImg mAsd mLea mLat mBst mRsk mTap mKys mKat mCod mWts mTes mStk mFct mSor mSiz mCel mHol mHoA mHoB mHoC mMov mTel) H := hP
          have hD : va_D A (rw_24 E mo mn mi ma ml mt mb mr mp mk mq mc mw mz ms mf mu mv mx mh mA mB mC mM mT mHI mFC mLC mCg mTp mNx mFr 3 (mTap mFr.toNatClampNeg) mEn mKe mCs mAt mHd mWg mNow mImg mAsd mLea mLat mBst mRsk mTap mKys mKat mCod mWts mTes mStk mFct mSor mSiz mCel mHol mHoA mHoB mHoC mMov mTel) := hD
          refine lv_aload_n hx hb dX7_go_293 rfl (lv_at hl 1 rfl) ?_
          refine lv_dup hx hb dX7_go_294 rfl ?_
          refine va_get (D := E.1) (ci := 7) (v := .int mNx) (C := RX7) (T := TX7) (N := 39) hx hb hts n_X7 hown hK hP 0 rfl rfl 13 (by decide) k_187 (fun _ h9 => h9) rfl dX7_go_295 ?_
          refine lv_iconst (v := 1) hx hb dX7_go_298 (by decide) ?_
          refine lv_iadd hx hb dX7_go_299 ?_
          refine va_put (D := E.1) (ci := 7) (v := .int (mNx + 1)) (ty := .int) (C := RX7) (T := TX7) (N := 39) hx hb hts n_X7 tyX7 tyX7_ok nmX7 hown hK hP hD hS 0 rfl rfl 13 (by decide) k_187 (fun _ h9 => h9) rfl (by decide +kernel) rfl rfl (Nat.le_of_ble_eq_true rfl) dX7_go_300 (fun H locs hP hD hS => ?_)
          have hP : va_P E.1 vwCl (rw_24 E mo mn mi ma ml mt mb mr mp mk mq mc mw mz ms mf mu mv mx mh mA mB mC mM mT mHI mFC mLC mCg mTp (mNx + 1) mFr 3 (mTap mFr.toNatClampNeg) mEn mKe mCs mAt mHd mWg mNow mImg mAsd mLea mLat mBst mRsk mTap mKys mKat mCod mWts mTes mStk mFct mSor mSiz mCel mHol mHoA mHoB mHoC mMov mTel) H := hP
          have hD : va_D A (rw_24 E mo mn mi ma ml mt mb mr mp mk mq mc mw mz ms mf mu mv mx mh mA mB mC mM mT mHI mFC mLC mCg mTp (mNx + 1) mFr 3 (mTap mFr.toNatClampNeg) mEn mKe mCs mAt mHd mWg mNow mImg mAsd mLea mLat mBst mRsk mTap mKys mKat mCod mWts mTes mStk mFct mSor mSiz mCel mHol mHoA mHoB mHoC mMov mTel) := hD
          exact hret _ _ _ _ (mNx + 1, mFr, 3, mTap mFr.toNatClampNeg, mEn) h hP hD hS dX7_go_303
        · have h := h.2 c_15
          refine lv_aload_n hx hb dX7_go_165 rfl (lv_at hl 1 rfl) ?_
          refine lv_iconst (v := 0) hx hb dX7_go_166 (by decide) ?_
          refine va_put (D := E.1) (ci := 7) (v := .int 0) (ty := .int) (C := RX7) (T := TX7) (N := 39) hx hb hts n_X7 tyX7 tyX7_ok nmX7 hown hK hP hD hS 0 rfl rfl 16 (by decide) k_202 (fun _ h9 => h9) rfl (by decide +kernel) rfl rfl (Nat.le_of_ble_eq_true rfl) dX7_go_167 (fun H locs hP hD hS => ?_)
          have hP : va_P E.1 vwCl (rw_24 E mo mn mi ma ml mt mb mr mp mk mq mc mw mz ms mf mu mv mx mh mA mB mC mM mT mHI mFC mLC mCg mTp mNx mFr mTk 0 mEn mKe mCs mAt mHd mWg mNow mImg mAsd mLea mLat mBst mRsk mTap mKys mKat mCod mWts mTes mStk mFct mSor mSiz mCel mHol mHoA mHoB mHoC mMov mTel) H := hP
          have hD : va_D A (rw_24 E mo mn mi ma ml mt mb mr mp mk mq mc mw mz ms mf mu mv mx mh mA mB mC mM mT mHI mFC mLC mCg mTp mNx mFr mTk 0 mEn mKe mCs mAt mHd mWg mNow mImg mAsd mLea mLat mBst mRsk mTap mKys mKat mCod mWts mTes mStk mFct mSor mSiz mCel mHol mHoA mHoB mHoC mMov mTel) := hD
          obtain ⟨n, h⟩ := h
          exact J170 n y0 mNx mFr mTk 0 mEn h _ _ hP hD hS ls (lv_sub hl [1, 0] rfl)
      · have h := h.2 c_13
        obtain ⟨n, h⟩ := h
        exact J93 n y0 mNx mFr mTk mVa mEn h _ _ hP hD hS ls (lv_sub hl [1, 0] rfl)
    · have h := h.2 c_11
      refine lv_aload_n hx hb dX7_go_74 rfl (lv_at hl 1 rfl) ?_
      refine lv_iconst (v := 0) hx hb dX7_go_75 (by decide) ?_
      refine va_put (D := E.1) (ci := 7) (v := .int 0) (ty := .int) (C := RX7) (T := TX7) (N := 39) hx hb hts n_X7 tyX7 tyX7_ok nmX7 hown hK hP hD hS 0 rfl rfl 15 (by decide) k_196 (fun _ h9 => h9) rfl (by decide +kernel) rfl rfl (Nat.le_of_ble_eq_true rfl) dX7_go_76 (fun H locs hP hD hS => ?_)
      have hP : va_P E.1 vwCl (rw_24 E mo mn mi ma ml mt mb mr mp mk mq mc mw mz ms mf mu mv mx mh mA mB mC mM mT mHI mFC mLC mCg mTp mNx mFr 0 mVa mEn mKe mCs mAt mHd mWg mNow mImg mAsd mLea mLat mBst mRsk mTap mKys mKat mCod mWts mTes mStk mFct mSor mSiz mCel mHol mHoA mHoB mHoC mMov mTel) H := hP
      have hD : va_D A (rw_24 E mo mn mi ma ml mt mb mr mp mk mq mc mw mz ms mf mu mv mx mh mA mB mC mM mT mHI mFC mLC mCg mTp mNx mFr 0 mVa mEn mKe mCs mAt mHd mWg mNow mImg mAsd mLea mLat mBst mRsk mTap mKys mKat mCod mWts mTes mStk mFct mSor mSiz mCel mHol mHoA mHoB mHoC mMov mTel) := hD
      refine lv_goto (tgt := 303) hx hb dX7_go_79 (by decide) ?_
      exact hret _ _ _ _ (mNx, mFr, 0, mVa, mEn) h hP hD hS dX7_go_303
  have J38 : ∀ (mNx : Int32) (mFr : Int32) (mTk : Int32) (mVa : Int32) (mEn : Int32), jp_X7_go_38 mTp mTap Q mNx mFr mTk mVa mEn → ∀ (H : Heap) (locs : List Loc), va_P E.1 vwCl (rw_24 E mo mn mi ma ml mt mb mr mp mk mq mc mw mz ms mf mu mv mx mh mA mB mC mM mT mHI mFC mLC mCg mTp mNx mFr mTk mVa mEn mKe mCs mAt mHd mWg mNow mImg mAsd mLea mLat mBst mRsk mTap mKys mKat mCod mWts mTes mStk mFct mSor mSiz mCel mHol mHoA mHoB mHoC mMov mTel) H → va_D A (rw_24 E mo mn mi ma ml mt mb mr mp mk mq mc mw mz ms mf mu mv mx mh mA mB mC mM mT mHI mFC mLC mCg mTp mNx mFr mTk mVa mEn mKe mCs mAt mHd mWg mNow mImg mAsd mLea mLat mBst mRsk mTap mKys mKat mCod mWts mTes mStk mFct mSor mSiz mCel mHol mHoA mHoB mHoC mMov mTel) → va_S A s.heap H locs → ∀ ls : Array Slot, lv_has ls 2 [(0, .ref mo)] → W p l e ({ frames := 1, cells := 0, slots := 0, locals := 21 } : Room) s m args below meth c H locs 0 0 QQ (F0 m 38 ls []) := by
    intro mNx mFr mTk mVa mEn h H locs hP hD hS ls hl
    unfold jp_X7_go_38 at h
    refine lv_aload_n hx hb dX7_go_38 rfl (lv_at hl 0 rfl) ?_
    refine lv_aload_n hx hb dX7_go_39 rfl (lv_at hl 0 rfl) ?_
    refine va_get (D := E.1) (ci := 7) (v := .int mNx) (C := RX7) (T := TX7) (N := 39) hx hb hts n_X7 hown hK hP 0 rfl rfl 13 (by decide) k_187 (fun _ h9 => h9) rfl dX7_go_40 ?_
    refine va_put (D := E.1) (ci := 7) (v := .int mNx) (ty := .int) (C := RX7) (T := TX7) (N := 39) hx hb hts n_X7 tyX7 tyX7_ok nmX7 hown hK hP hD hS 0 rfl rfl 14 (by decide) k_190 (fun _ h9 => h9) rfl (by decide +kernel) rfl rfl (Nat.le_of_ble_eq_true rfl) dX7_go_43 (fun H locs hP hD hS => ?_)
    have hP : va_P E.1 vwCl (rw_24 E mo mn mi ma ml mt mb mr mp mk mq mc mw mz ms mf mu mv mx mh mA mB mC mM mT mHI mFC mLC mCg mTp mNx mNx mTk mVa mEn mKe mCs mAt mHd mWg mNow mImg mAsd mLea mLat mBst mRsk mTap mKys mKat mCod mWts mTes mStk mFct mSor mSiz mCel mHol mHoA mHoB mHoC mMov mTel) H := hP
    have hD : va_D A (rw_24 E mo mn mi ma ml mt mb mr mp mk mq mc mw mz ms mf mu mv mx mh mA mB mC mM mT mHI mFC mLC mCg mTp mNx mNx mTk mVa mEn mKe mCs mAt mHd mWg mNow mImg mAsd mLea mLat mBst mRsk mTap mKys mKat mCod mWts mTes mStk mFct mSor mSiz mCel mHol mHoA mHoB mHoC mMov mTel) := hD
    refine lv_aload_n hx hb dX7_go_46 rfl (lv_at hl 0 rfl) ?_
    refine va_get (D := E.1) (ci := 7) (v := .int mNx) (C := RX7) (T := TX7) (N := 39) hx hb hts n_X7 hown hK hP 0 rfl rfl 14 (by decide) k_190 (fun _ h9 => h9) rfl dX7_go_47 ?_
    refine lv_aload_n hx hb dX7_go_50 rfl (lv_at hl 0 rfl) ?_
    refine va_get (D := E.1) (ci := 7) (v := .int mEn) (C := RX7) (T := TX7) (N := 39) hx hb hts n_X7 hown hK hP 0 rfl rfl 17 (by decide) k_193 (fun _ h9 => h9) rfl dX7_go_51 ?_
    refine lv_icmp_ne (tgt := 61) hx hb dX7_go_54 (by decide) (fun c_17 => ?_) (fun c_17 => ?_)
    · have h := h.1 c_17
      refine lv_iconst (v := 0) hx hb dX7_go_61 (by decide) ?_
      exact J62 0 mNx mNx mTk mVa mEn h _ _ hP hD hS ls (lv_sub hl [0] rfl)
    · have h := h.2 c_17
      refine lv_iconst (v := 1) hx hb dX7_go_57 (by decide) ?_
      refine lv_goto (tgt := 62) hx hb dX7_go_58 (by decide) ?_
      exact J62 1 mNx mNx mTk mVa mEn h _ _ hP hD hS ls (lv_sub hl [0] rfl)
  have J0 : ∀ (n : Nat) (mNx : Int32) (mFr : Int32) (mTk : Int32) (mVa : Int32) (mEn : Int32), lp_X7_go_0 mTp mTap Q n mNx mFr mTk mVa mEn → ∀ (H : Heap) (locs : List Loc), va_P E.1 vwCl (rw_24 E mo mn mi ma ml mt mb mr mp mk mq mc mw mz ms mf mu mv mx mh mA mB mC mM mT mHI mFC mLC mCg mTp mNx mFr mTk mVa mEn mKe mCs mAt mHd mWg mNow mImg mAsd mLea mLat mBst mRsk mTap mKys mKat mCod mWts mTes mStk mFct mSor mSiz mCel mHol mHoA mHoB mHoC mMov mTel) H → va_D A (rw_24 E mo mn mi ma ml mt mb mr mp mk mq mc mw mz ms mf mu mv mx mh mA mB mC mM mT mHI mFC mLC mCg mTp mNx mFr mTk mVa mEn mKe mCs mAt mHd mWg mNow mImg mAsd mLea mLat mBst mRsk mTap mKys mKat mCod mWts mTes mStk mFct mSor mSiz mCel mHol mHoA mHoB mHoC mMov mTel) → va_S A s.heap H locs → ∀ ls : Array Slot, lv_has ls 2 [(0, .ref mo)] → W p l e ({ frames := 1, cells := 0, slots := 0, locals := 21 } : Room) s m args below meth c H locs 0 0 QQ (F0 m 0 ls []) := by
    intro n
    induction n with
    | zero =>
      intro mNx mFr mTk mVa mEn h
      exact False.elim h
    | succ n ih =>
      intro mNx mFr mTk mVa mEn h H locs hP hD hS ls hl
      have h : lp_X7_go_0F mTp mTap Q (lp_X7_go_0 mTp mTap Q n) mNx mFr mTk mVa mEn := h
      unfold lp_X7_go_0F at h
      refine lv_aload_n hx hb dX7_go_0 rfl (lv_at hl 0 rfl) ?_
      refine va_get (D := E.1) (ci := 7) (v := .int mNx) (C := RX7) (T := TX7) (N := 39) hx hb hts n_X7 hown hK hP 0 rfl rfl 13 (by decide) k_187 (fun _ h9 => h9) rfl dX7_go_1 ?_
      refine lv_aload_n hx hb dX7_go_4 rfl (lv_at hl 0 rfl) ?_
      refine va_get (D := E.1) (ci := 7) (v := .int mTp) (C := RX7) (T := TX7) (N := 39) hx hb hts n_X7 hown hK hP 0 rfl rfl 12 (by decide) k_184 (fun _ h9 => h9) rfl dX7_go_5 ?_
      refine lv_icmp_ge (tgt := 38) hx hb dX7_go_8 (by decide) (fun c_18 => ?_) (fun c_18 => ?_)
      · have h := h.1 c_18
        exact J38 mNx mFr mTk mVa mEn h _ _ hP hD hS ls (lv_sub hl [0] rfl)
      · have h := h.2 c_18
        refine lv_aload_n hx hb dX7_go_11 rfl (lv_at hl 0 rfl) ?_
        refine va_get (D := E.1) (ci := 7) (v := .ref mp) (C := RX7) (T := TX7) (N := 39) hx hb hts n_X7 hown hK hP 0 rfl rfl 11 (by decide) k_31 (fun _ h9 => h9) rfl dX7_go_12 ?_
        refine lv_aload_n hx hb dX7_go_15 rfl (lv_at hl 0 rfl) ?_
        refine va_get (D := E.1) (ci := 7) (v := .int mNx) (C := RX7) (T := TX7) (N := 39) hx hb hts n_X7 hown hK hP 0 rfl rfl 13 (by decide) k_187 (fun _ h9 => h9) rfl dX7_go_16 ?_
        obtain ⟨o_19, h⟩ := h
        refine rc_iald hx hb hK hP 8 0 rfl rfl mNx.toNatClampNeg rfl o_19 dX7_go_19 ?_
        refine lv_bipush (v := 32) hx hb dX7_go_20 (by decide) ?_
        refine lv_icmp_ne (tgt := 38) hx hb dX7_go_22 (by decide) (fun c_20 => ?_) (fun c_20 => ?_)
        · have h := h.1 c_20
          exact J38 mNx mFr mTk mVa mEn h _ _ hP hD hS ls (lv_sub hl [0] rfl)
        · have h := h.2 c_20
          refine lv_aload_n hx hb dX7_go_25 rfl (lv_at hl 0 rfl) ?_
          refine lv_dup hx hb dX7_go_26 rfl ?_
          refine va_get (D := E.1) (ci := 7) (v := .int mNx) (C := RX7) (T := TX7) (N := 39) hx hb hts n_X7 hown hK hP 0 rfl rfl 13 (by decide) k_187 (fun _ h9 => h9) rfl dX7_go_27 ?_
          refine lv_iconst (v := 1) hx hb dX7_go_30 (by decide) ?_
          refine lv_iadd hx hb dX7_go_31 ?_
          refine va_put (D := E.1) (ci := 7) (v := .int (mNx + 1)) (ty := .int) (C := RX7) (T := TX7) (N := 39) hx hb hts n_X7 tyX7 tyX7_ok nmX7 hown hK hP hD hS 0 rfl rfl 13 (by decide) k_187 (fun _ h9 => h9) rfl (by decide +kernel) rfl rfl (Nat.le_of_ble_eq_true rfl) dX7_go_32 (fun H locs hP hD hS => ?_)
          have hP : va_P E.1 vwCl (rw_24 E mo mn mi ma ml mt mb mr mp mk mq mc mw mz ms mf mu mv mx mh mA mB mC mM mT mHI mFC mLC mCg mTp (mNx + 1) mFr mTk mVa mEn mKe mCs mAt mHd mWg mNow mImg mAsd mLea mLat mBst mRsk mTap mKys mKat mCod mWts mTes mStk mFct mSor mSiz mCel mHol mHoA mHoB mHoC mMov mTel) H := hP
          have hD : va_D A (rw_24 E mo mn mi ma ml mt mb mr mp mk mq mc mw mz ms mf mu mv mx mh mA mB mC mM mT mHI mFC mLC mCg mTp (mNx + 1) mFr mTk mVa mEn mKe mCs mAt mHd mWg mNow mImg mAsd mLea mLat mBst mRsk mTap mKys mKat mCod mWts mTes mStk mFct mSor mSiz mCel mHol mHoA mHoB mHoC mMov mTel) := hD
          refine lv_goto (tgt := 0) hx hb dX7_go_35 (by decide) ?_
          exact ih (mNx + 1) mFr mTk mVa mEn h _ _ hP hD hS ls (lv_sub hl [0] rfl)
  unfold wp_X7_go at h
  obtain ⟨H, hH⟩ : ∃ H, H = s.heap := ⟨_, rfl⟩
  obtain ⟨locs, hlocs⟩ : ∃ locs : List Loc, locs = [] := ⟨_, rfl⟩
  have hP : va_P E.1 vwCl (rw_24 E mo mn mi ma ml mt mb mr mp mk mq mc mw mz ms mf mu mv mx mh mA mB mC mM mT mHI mFC mLC mCg mTp mNx mFr mTk mVa mEn mKe mCs mAt mHd mWg mNow mImg mAsd mLea mLat mBst mRsk mTap mKys mKat mCod mWts mTes mStk mFct mSor mSiz mCel mHol mHoA mHoB mHoC mMov mTel) H := by rw [hH]; exact hP
  have hS : va_S A s.heap H locs := by rw [hH, hlocs]; exact hS
  suffices hgo : W p l e ({ frames := 1, cells := 0, slots := 0, locals := 21 } : Room) s m args below meth c H locs 0 0 QQ (F0 m 0 ls []) from by rw [hH, hlocs] at hgo; exact hgo
  obtain ⟨n, h⟩ := h
  exact J0 n mNx mFr mTk mVa mEn h _ _ hP hD hS ls (lv_sub hl [0] rfl)
def jp_X7_takesKey_106 (mTp : Int32) (mTap : Nat → Int32) (K12 : Int32 → Int32 → Int32 → Int32 → Int32 → Int32 → Int32 → Prop) (Q : Int32 → Int32 → Int32 → Int32 → Int32 → Int32 → Int32 → Prop) (x1 : Int32) (x3 : Int32) (mNx : Int32) (mFr : Int32) (mTk : Int32) (mVa : Int32) (mEn : Int32) (mKe : Int32) : Prop :=
  ((x3 = 0 → K12 (x1 + 1) mNx mFr mTk mVa mEn mKe) ∧ (¬ (x3 = 0) → wp_X7_go mTp mNx mFr mTk mVa mEn mTap (fun (w_2 : Int32) (w_3 : Int32) (w_4 : Int32) (w_5 : Int32) (w_6 : Int32) => Q 1 w_2 w_3 w_4 w_5 w_6 x1)))
def lp_X7_takesKey_55F (mTp : Int32) (mTap : Nat → Int32) (mKys : Nat → Int32) (mKat : Nat → Int32) (K12 : Int32 → Int32 → Int32 → Int32 → Int32 → Int32 → Int32 → Prop) (Q : Int32 → Int32 → Int32 → Int32 → Int32 → Int32 → Int32 → Prop) (R : Int32 → Int32 → Int32 → Int32 → Int32 → Int32 → Int32 → Int32 → Int32 → Int32 → Prop) (x1 : Int32) (x2 : Int32) (x3 : Int32) (x4 : Int32) (mNx : Int32) (mFr : Int32) (mTk : Int32) (mVa : Int32) (mEn : Int32) (mKe : Int32) : Prop :=
  ((x2 ≤ x4 → jp_X7_takesKey_106 mTp mTap K12 Q x1 x3 mNx mFr mTk mVa mEn mKe) ∧ (¬ (x2 ≤ x4) → ((x3 = 0 → jp_X7_takesKey_106 mTp mTap K12 Q x1 x3 mNx mFr mTk mVa mEn mKe) ∧ (¬ (x3 = 0) → (vp_in (mFr + x4) 96 ∧ (vp_in x1 4 ∧ (vp_in ((mKat x1.toNatClampNeg) + x4) 12 ∧ ((¬ (mTap ((mFr + x4).toNatClampNeg)) = (mKys (((mKat x1.toNatClampNeg) + x4).toNatClampNeg)) → R x1 x2 0 (x4 + 1) mNx mFr mTk mVa mEn mKe) ∧ ((mTap ((mFr + x4).toNatClampNeg)) = (mKys (((mKat x1.toNatClampNeg) + x4).toNatClampNeg)) → R x1 x2 1 (x4 + 1) mNx mFr mTk mVa mEn mKe)))))))))
def lp_X7_takesKey_55 (mTp : Int32) (mTap : Nat → Int32) (mKys : Nat → Int32) (mKat : Nat → Int32) (K12 : Int32 → Int32 → Int32 → Int32 → Int32 → Int32 → Int32 → Prop) (Q : Int32 → Int32 → Int32 → Int32 → Int32 → Int32 → Int32 → Prop) (n : Nat) : Int32 → Int32 → Int32 → Int32 → Int32 → Int32 → Int32 → Int32 → Int32 → Int32 → Prop :=
  Nat.rec (motive := fun _ => Int32 → Int32 → Int32 → Int32 → Int32 → Int32 → Int32 → Int32 → Int32 → Int32 → Prop) (fun _ _ _ _ _ _ _ _ _ _ => False) (fun _ r => lp_X7_takesKey_55F mTp mTap mKys mKat K12 Q r) n
def lp_X7_takesKey_12F (mTp : Int32) (mTap : Nat → Int32) (mKys : Nat → Int32) (mKat : Nat → Int32)  (Q : Int32 → Int32 → Int32 → Int32 → Int32 → Int32 → Int32 → Prop) (R : Int32 → Int32 → Int32 → Int32 → Int32 → Int32 → Int32 → Prop) (x1 : Int32) (mNx : Int32) (mFr : Int32) (mTk : Int32) (mVa : Int32) (mEn : Int32) (mKe : Int32) : Prop :=
  ((3 ≤ x1 → Q 0 mNx mFr mTk mVa mEn mKe) ∧ (¬ (3 ≤ x1) → (vp_in (x1 + 1) 4 ∧ (vp_in x1 4 ∧ ((¬ ((mKat ((x1 + 1).toNatClampNeg)) - (mKat x1.toNatClampNeg)) = (mNx - mFr) → (∃ n : Nat, lp_X7_takesKey_55 mTp mTap mKys mKat R Q n x1 ((mKat ((x1 + 1).toNatClampNeg)) - (mKat x1.toNatClampNeg)) 0 0 mNx mFr mTk mVa mEn mKe)) ∧ (((mKat ((x1 + 1).toNatClampNeg)) - (mKat x1.toNatClampNeg)) = (mNx - mFr) → (∃ n : Nat, lp_X7_takesKey_55 mTp mTap mKys mKat R Q n x1 ((mKat ((x1 + 1).toNatClampNeg)) - (mKat x1.toNatClampNeg)) 1 0 mNx mFr mTk mVa mEn mKe)))))))
def lp_X7_takesKey_12 (mTp : Int32) (mTap : Nat → Int32) (mKys : Nat → Int32) (mKat : Nat → Int32)  (Q : Int32 → Int32 → Int32 → Int32 → Int32 → Int32 → Int32 → Prop) (n : Nat) : Int32 → Int32 → Int32 → Int32 → Int32 → Int32 → Int32 → Prop :=
  Nat.rec (motive := fun _ => Int32 → Int32 → Int32 → Int32 → Int32 → Int32 → Int32 → Prop) (fun _ _ _ _ _ _ _ => False) (fun _ r => lp_X7_takesKey_12F mTp mTap mKys mKat Q r) n
def wp_X7_takesKey (mTp : Int32) (mNx : Int32) (mFr : Int32) (mTk : Int32) (mVa : Int32) (mEn : Int32) (mKe : Int32) (mTap : Nat → Int32) (mKys : Nat → Int32) (mKat : Nat → Int32) (Q : Int32 → Int32 → Int32 → Int32 → Int32 → Int32 → Int32 → Prop) : Prop :=
  ((mTk = 1 → (∃ n : Nat, lp_X7_takesKey_12 mTp mTap mKys mKat Q n 0 mNx mFr mTk mVa mEn mKe)) ∧ (¬ (mTk = 1) → Q 0 mNx mFr mTk mVa mEn mKe))
set_option maxHeartbeats 4000000 in
set_option maxRecDepth 100000 in
theorem c_X7_takesKey (l : Launch) (E : gE) (mo mn mi ma ml mt mb mr mp mk mq mc mw mz ms mf mu mv mx mh mA mB mC mM mT : Nat) (sz : Nat) (mHI : Int32) (mFC : Int32) (mLC : Int32) (mCg : Int32) (mTp : Int32) (mNx : Int32) (mFr : Int32) (mTk : Int32) (mVa : Int32) (mEn : Int32) (mKe : Int32) (mCs : Int32) (mAt : Int32) (mHd : Int32) (mWg : Int32) (mNow : Nat → Int32) (mImg : Nat → Int32) (mAsd : Nat → Int32) (mLea : Nat → Int32) (mLat : Nat → Int32) (mBst : Nat → Int32) (mRsk : Nat → Int32) (mTap : Nat → Int32) (mKys : Nat → Int32) (mKat : Nat → Int32) (mCod : Nat → Int32) (mWts : Nat → Int32) (mTes : Nat → Int32) (mStk : Nat → Int32) (mFct : Nat → Int32) (mSor : Nat → Int32) (mSiz : Nat → Int32) (mCel : Nat → Int32) (mHol : Nat → Int32) (mHoA : Nat → Int32) (mHoB : Nat → Int32) (mHoC : Nat → Int32) (mMov : Nat → Int32) (mTel : Nat → Int32)   (Q : Int32 → Int32 → Int32 → Int32 → Int32 → Int32 → Int32 → Prop) (h : wp_X7_takesKey mTp mNx mFr mTk mVa mEn mKe mTap mKys mKat Q) : Met l yX7_takesKey wsX7_takesKey ({ frames := 2, cells := 0, slots := 0, locals := 42 } : Room) (va_Pc [.ref mo] (rc_B E (rw_24 E mo mn mi ma ml mt mb mr mp mk mq mc mw mz ms mf mu mv mx mh mA mB mC mM mT mHI mFC mLC mCg mTp mNx mFr mTk mVa mEn mKe mCs mAt mHd mWg mNow mImg mAsd mLea mLat mBst mRsk mTap mKys mKat mCod mWts mTes mStk mFct mSor mSiz mCel mHol mHoA mHoB mHoC mMov mTel) sz)) (va_Qi (S := Int32 × Int32 × Int32 × Int32 × Int32 × Int32) (fun (r : Int32) (u : Int32 × Int32 × Int32 × Int32 × Int32 × Int32) => Q r u.1 u.2.1 u.2.2.1 u.2.2.2.1 u.2.2.2.2.1 u.2.2.2.2.2) (fun u t => rc_C E (va_A (rw_24 E mo mn mi ma ml mt mb mr mp mk mq mc mw mz ms mf mu mv mx mh mA mB mC mM mT mHI mFC mLC mCg mTp mNx mFr mTk mVa mEn mKe mCs mAt mHd mWg mNow mImg mAsd mLea mLat mBst mRsk mTap mKys mKat mCod mWts mTes mStk mFct mSor mSiz mCel mHol mHoA mHoB mHoC mMov mTel) sz) (rw_24 E mo mn mi ma ml mt mb mr mp mk mq mc mw mz ms mf mu mv mx mh mA mB mC mM mT mHI mFC mLC mCg mTp u.1 u.2.1 u.2.2.1 u.2.2.2.1 u.2.2.2.2.1 u.2.2.2.2.2 mCs mAt mHd mWg mNow mImg mAsd mLea mLat mBst mRsk mTap mKys mKat mCod mWts mTes mStk mFct mSor mSiz mCel mHol mHoA mHoB mHoC mMov mTel) t) (va_A (rw_24 E mo mn mi ma ml mt mb mr mp mk mq mc mw mz ms mf mu mv mx mh mA mB mC mM mT mHI mFC mLC mCg mTp mNx mFr mTk mVa mEn mKe mCs mAt mHd mWg mNow mImg mAsd mLea mLat mBst mRsk mTap mKys mKat mCod mWts mTes mStk mFct mSor mSiz mCel mHol mHoA mHoB mHoC mMov mTel) sz)) 0 0 (va_A (rw_24 E mo mn mi ma ml mt mb mr mp mk mq mc mw mz ms mf mu mv mx mh mA mB mC mM mT mHI mFC mLC mCg mTp mNx mFr mTk mVa mEn mKe mCs mAt mHd mWg mNow mImg mAsd mLea mLat mBst mRsk mTap mKys mKat mCod mWts mTes mStk mFct mSor mSiz mCel mHol mHoA mHoB mHoC mMov mTel) sz) := by
  refine rc_enterI (cc := cX7_takesKey) (maxL := 5) (by decide) rfl (Nat.le_of_ble_eq_true rfl) ?_
  intro p e s m args below meth c QQ A hx hb hml hown hts hmn hE hP hD hA hret ls hl
  have hown : s.vm.findClass RX7 = some m.cls := hown
  have hK := hE.1
  have hS : va_S A s.heap s.heap [] := va_S.rf
  have hl : lv_has ls 5 [(0, .ref mo)] := hl
  have n_X7 : ∀ w ∈ wsX70, w ∈ wsX7_takesKey := fun _ h => List.mem_cons_of_mem _ (List.mem_append_right _ h)
  have k_208 := hts (.fieldLink RX7 208 "RidgeClapsModel" "key" "I") (List.mem_of_getElem? (i := 7) rfl)
  have k_31 := hts (.fieldLink RX7 31 "RidgeClapsModel" "tape" "[I") (List.mem_of_getElem? (i := 5) rfl)
  have k_190 := hts (.fieldLink RX7 190 "RidgeClapsModel" "from" "I") (List.mem_of_getElem? (i := 4) rfl)
  have k_34 := hts (.fieldLink RX7 34 "RidgeClapsModel" "keys" "[C") (List.mem_of_getElem? (i := 6) rfl)
  have k_38 := hts (.fieldLink RX7 38 "RidgeClapsModel" "keyAt" "[I") (List.mem_of_getElem? (i := 2) rfl)
  have k_187 := hts (.fieldLink RX7 187 "RidgeClapsModel" "next" "I") (List.mem_of_getElem? (i := 3) rfl)
  have k_196 := hts (.fieldLink RX7 196 "RidgeClapsModel" "token" "I") (List.mem_of_getElem? (i := 1) rfl)
  have J106 : ∀ (K12 : Int32 → Int32 → Int32 → Int32 → Int32 → Int32 → Int32 → Prop), (∀ (x1 : Int32) (mNx : Int32) (mFr : Int32) (mTk : Int32) (mVa : Int32) (mEn : Int32) (mKe : Int32), K12 x1 mNx mFr mTk mVa mEn mKe → ∀ (H : Heap) (locs : List Loc), va_P E.1 vwCl (rw_24 E mo mn mi ma ml mt mb mr mp mk mq mc mw mz ms mf mu mv mx mh mA mB mC mM mT mHI mFC mLC mCg mTp mNx mFr mTk mVa mEn mKe mCs mAt mHd mWg mNow mImg mAsd mLea mLat mBst mRsk mTap mKys mKat mCod mWts mTes mStk mFct mSor mSiz mCel mHol mHoA mHoB mHoC mMov mTel) H → va_D A (rw_24 E mo mn mi ma ml mt mb mr mp mk mq mc mw mz ms mf mu mv mx mh mA mB mC mM mT mHI mFC mLC mCg mTp mNx mFr mTk mVa mEn mKe mCs mAt mHd mWg mNow mImg mAsd mLea mLat mBst mRsk mTap mKys mKat mCod mWts mTes mStk mFct mSor mSiz mCel mHol mHoA mHoB mHoC mMov mTel) → va_S A s.heap H locs → ∀ ls : Array Slot, lv_has ls 5 [(0, .ref mo), (1, .int x1)] → W p l e ({ frames := 2, cells := 0, slots := 0, locals := 42 } : Room) s m args below meth c H locs 0 0 QQ (F0 m 12 ls [])) → ∀ (x1 : Int32) (x3 : Int32) (mNx : Int32) (mFr : Int32) (mTk : Int32) (mVa : Int32) (mEn : Int32) (mKe : Int32), jp_X7_takesKey_106 mTp mTap K12 Q x1 x3 mNx mFr mTk mVa mEn mKe → ∀ (H : Heap) (locs : List Loc), va_P E.1 vwCl (rw_24 E mo mn mi ma ml mt mb mr mp mk mq mc mw mz ms mf mu mv mx mh mA mB mC mM mT mHI mFC mLC mCg mTp mNx mFr mTk mVa mEn mKe mCs mAt mHd mWg mNow mImg mAsd mLea mLat mBst mRsk mTap mKys mKat mCod mWts mTes mStk mFct mSor mSiz mCel mHol mHoA mHoB mHoC mMov mTel) H → va_D A (rw_24 E mo mn mi ma ml mt mb mr mp mk mq mc mw mz ms mf mu mv mx mh mA mB mC mM mT mHI mFC mLC mCg mTp mNx mFr mTk mVa mEn mKe mCs mAt mHd mWg mNow mImg mAsd mLea mLat mBst mRsk mTap mKys mKat mCod mWts mTes mStk mFct mSor mSiz mCel mHol mHoA mHoB mHoC mMov mTel) → va_S A s.heap H locs → ∀ ls : Array Slot, lv_has ls 5 [(0, .ref mo), (1, .int x1), (3, .int x3)] → W p l e ({ frames := 2, cells := 0, slots := 0, locals := 42 } : Room) s m args below meth c H locs 0 0 QQ (F0 m 106 ls []) := by
    intro K12 hK12
    intro x1 x3 mNx mFr mTk mVa mEn mKe h H locs hP hD hS ls hl
    unfold jp_X7_takesKey_106 at h
    refine lv_iload_n hx hb dX7_takesKey_106 rfl (lv_at hl 2 rfl) ?_
    refine lv_if_eq (tgt := 121) hx hb dX7_takesKey_107 (by decide) (fun c_1 => ?_) (fun c_1 => ?_)
    · have h := h.1 c_1
      refine lv_iinc (v := x1 + 1) (lv' := [(1, .int (x1 + 1)), (0, .ref mo), (3, .int x3)]) hx hb dX7_takesKey_121 hl (k := 1) rfl (by rfl) (by decide) rfl (fun ls hl => ?_)
      refine lv_goto (tgt := 12) hx hb dX7_takesKey_124 (by decide) ?_
      exact hK12 (x1 + 1) mNx mFr mTk mVa mEn mKe h _ _ hP hD hS ls (lv_sub hl [1, 0] rfl)
    · have h := h.2 c_1
      refine lv_aload_n hx hb dX7_takesKey_110 rfl (lv_at hl 0 rfl) ?_
      refine lv_iload_n hx hb dX7_takesKey_111 rfl (lv_at hl 1 rfl) ?_
      refine va_put (D := E.1) (ci := 7) (v := .int x1) (ty := .int) (C := RX7) (T := TX7) (N := 39) hx hb hts n_X7 tyX7 tyX7_ok nmX7 hown hK hP hD hS 0 rfl rfl 18 (by decide) k_208 (fun _ h9 => h9) rfl (by decide +kernel) rfl rfl (Nat.le_of_ble_eq_true rfl) dX7_takesKey_112 (fun H locs hP hD hS => ?_)
      have hP : va_P E.1 vwCl (rw_24 E mo mn mi ma ml mt mb mr mp mk mq mc mw mz ms mf mu mv mx mh mA mB mC mM mT mHI mFC mLC mCg mTp mNx mFr mTk mVa mEn x1 mCs mAt mHd mWg mNow mImg mAsd mLea mLat mBst mRsk mTap mKys mKat mCod mWts mTes mStk mFct mSor mSiz mCel mHol mHoA mHoB mHoC mMov mTel) H := hP
      have hD : va_D A (rw_24 E mo mn mi ma ml mt mb mr mp mk mq mc mw mz ms mf mu mv mx mh mA mB mC mM mT mHI mFC mLC mCg mTp mNx mFr mTk mVa mEn x1 mCs mAt mHd mWg mNow mImg mAsd mLea mLat mBst mRsk mTap mKys mKat mCod mWts mTes mStk mFct mSor mSiz mCel mHol mHoA mHoB mHoC mMov mTel) := hD
      refine lv_aload_n hx hb dX7_takesKey_115 rfl (lv_at hl 0 rfl) ?_
      have hPc := hP
      have hDc := hD
      have hFc := rc_freeI hD hS hA
      refine va_callv (va_runV (As := []) (rest := []) ⟨hx, hb, hml, hown, hts⟩ (c_X7_go l E mo mn mi ma ml mt mb mr mp mk mq mc mw mz ms mf mu mv mx mh mA mB mC mM mT H.size mHI mFC mLC mCg mTp mNx mFr mTk mVa mEn x1 mCs mAt mHd mWg mNow mImg mAsd mLea mLat mBst mRsk mTap mKys mKat mCod mWts mTes mStk mFct mSor mSiz mCel mHol mHoA mHoB mHoC mMov mTel _ h) (cwV 0 hts gX7_takesKey_X7_go rfl rfl rfl (by decide +kernel) ⟨Nat.le_of_ble_eq_true rfl, Nat.le_of_ble_eq_true rfl⟩) ⟨fun a U g mk q => ⟨q.1, q.2.blind⟩, va_recv hK hPc (ci := 7) (q0 := 0) rfl rfl, fun U hU hW => ⟨rfl, by rw [hU], by rw [hU]; exact hPc, hE.call hS hFc hW hU, hDc.weaken (fun _ _ _ _ => trivial)⟩⟩ rfl rfl hl.1 rfl (lv_room (Nat.le_of_ble_eq_true rfl)) dX7_takesKey_116 ⟨Nat.zero_le _, Nat.zero_le _⟩) hS (fun q _ h => hFc q h) hFc (fun u t H1 locs ht hvm h hB hz1 hk1 hS => ?_)
      obtain ⟨w_2, w_3, w_4, w_5, w_6⟩ := u
      obtain ⟨hP1, hD1⟩ := hB
      rw [ht] at hP1
      have hP := hP1
      have hD := hD1.weaken (fun _ _ _ h => hFc _ h)
      generalize H1 = H at hP hS ⊢
      have hP : va_P E.1 vwCl (rw_24 E mo mn mi ma ml mt mb mr mp mk mq mc mw mz ms mf mu mv mx mh mA mB mC mM mT mHI mFC mLC mCg mTp w_2 w_3 w_4 w_5 w_6 x1 mCs mAt mHd mWg mNow mImg mAsd mLea mLat mBst mRsk mTap mKys mKat mCod mWts mTes mStk mFct mSor mSiz mCel mHol mHoA mHoB mHoC mMov mTel) H := hP
      have hD : va_D A (rw_24 E mo mn mi ma ml mt mb mr mp mk mq mc mw mz ms mf mu mv mx mh mA mB mC mM mT mHI mFC mLC mCg mTp w_2 w_3 w_4 w_5 w_6 x1 mCs mAt mHd mWg mNow mImg mAsd mLea mLat mBst mRsk mTap mKys mKat mCod mWts mTes mStk mFct mSor mSiz mCel mHol mHoA mHoB mHoC mMov mTel) := hD
      refine lv_iconst (v := 1) hx hb dX7_takesKey_119 (by decide) ?_
      exact hret _ _ _ _ 1 (w_2, w_3, w_4, w_5, w_6, x1) (by decide) h hP hD hS dX7_takesKey_120
  have J55 : ∀ (K12 : Int32 → Int32 → Int32 → Int32 → Int32 → Int32 → Int32 → Prop), (∀ (x1 : Int32) (mNx : Int32) (mFr : Int32) (mTk : Int32) (mVa : Int32) (mEn : Int32) (mKe : Int32), K12 x1 mNx mFr mTk mVa mEn mKe → ∀ (H : Heap) (locs : List Loc), va_P E.1 vwCl (rw_24 E mo mn mi ma ml mt mb mr mp mk mq mc mw mz ms mf mu mv mx mh mA mB mC mM mT mHI mFC mLC mCg mTp mNx mFr mTk mVa mEn mKe mCs mAt mHd mWg mNow mImg mAsd mLea mLat mBst mRsk mTap mKys mKat mCod mWts mTes mStk mFct mSor mSiz mCel mHol mHoA mHoB mHoC mMov mTel) H → va_D A (rw_24 E mo mn mi ma ml mt mb mr mp mk mq mc mw mz ms mf mu mv mx mh mA mB mC mM mT mHI mFC mLC mCg mTp mNx mFr mTk mVa mEn mKe mCs mAt mHd mWg mNow mImg mAsd mLea mLat mBst mRsk mTap mKys mKat mCod mWts mTes mStk mFct mSor mSiz mCel mHol mHoA mHoB mHoC mMov mTel) → va_S A s.heap H locs → ∀ ls : Array Slot, lv_has ls 5 [(0, .ref mo), (1, .int x1)] → W p l e ({ frames := 2, cells := 0, slots := 0, locals := 42 } : Room) s m args below meth c H locs 0 0 QQ (F0 m 12 ls [])) → ∀ (n : Nat) (x1 : Int32) (x2 : Int32) (x3 : Int32) (x4 : Int32) (mNx : Int32) (mFr : Int32) (mTk : Int32) (mVa : Int32) (mEn : Int32) (mKe : Int32), lp_X7_takesKey_55 mTp mTap mKys mKat K12 Q n x1 x2 x3 x4 mNx mFr mTk mVa mEn mKe → ∀ (H : Heap) (locs : List Loc), va_P E.1 vwCl (rw_24 E mo mn mi ma ml mt mb mr mp mk mq mc mw mz ms mf mu mv mx mh mA mB mC mM mT mHI mFC mLC mCg mTp mNx mFr mTk mVa mEn mKe mCs mAt mHd mWg mNow mImg mAsd mLea mLat mBst mRsk mTap mKys mKat mCod mWts mTes mStk mFct mSor mSiz mCel mHol mHoA mHoB mHoC mMov mTel) H → va_D A (rw_24 E mo mn mi ma ml mt mb mr mp mk mq mc mw mz ms mf mu mv mx mh mA mB mC mM mT mHI mFC mLC mCg mTp mNx mFr mTk mVa mEn mKe mCs mAt mHd mWg mNow mImg mAsd mLea mLat mBst mRsk mTap mKys mKat mCod mWts mTes mStk mFct mSor mSiz mCel mHol mHoA mHoB mHoC mMov mTel) → va_S A s.heap H locs → ∀ ls : Array Slot, lv_has ls 5 [(0, .ref mo), (1, .int x1), (2, .int x2), (3, .int x3), (4, .int x4)] → W p l e ({ frames := 2, cells := 0, slots := 0, locals := 42 } : Room) s m args below meth c H locs 0 0 QQ (F0 m 55 ls []) := by
    intro K12 hK12
    intro n
    induction n with
    | zero =>
      intro x1 x2 x3 x4 mNx mFr mTk mVa mEn mKe h
      exact False.elim h
    | succ n ih =>
      intro x1 x2 x3 x4 mNx mFr mTk mVa mEn mKe h H locs hP hD hS ls hl
      have h : lp_X7_takesKey_55F mTp mTap mKys mKat K12 Q (lp_X7_takesKey_55 mTp mTap mKys mKat K12 Q n) x1 x2 x3 x4 mNx mFr mTk mVa mEn mKe := h
      unfold lp_X7_takesKey_55F at h
      refine lv_iload hx hb dX7_takesKey_55 (lv_at hl 4 rfl) ?_
      refine lv_iload_n hx hb dX7_takesKey_57 rfl (lv_at hl 2 rfl) ?_
      refine lv_icmp_ge (tgt := 106) hx hb dX7_takesKey_58 (by decide) (fun c_7 => ?_) (fun c_7 => ?_)
      · have h := h.1 c_7
        exact J106 _ hK12 x1 x3 mNx mFr mTk mVa mEn mKe h _ _ hP hD hS ls (lv_sub hl [0, 1, 3] rfl)
      · have h := h.2 c_7
        refine lv_iload_n hx hb dX7_takesKey_61 rfl (lv_at hl 3 rfl) ?_
        refine lv_if_eq (tgt := 106) hx hb dX7_takesKey_62 (by decide) (fun c_8 => ?_) (fun c_8 => ?_)
        · have h := h.1 c_8
          exact J106 _ hK12 x1 x3 mNx mFr mTk mVa mEn mKe h _ _ hP hD hS ls (lv_sub hl [0, 1, 3] rfl)
        · have h := h.2 c_8
          refine lv_aload_n hx hb dX7_takesKey_65 rfl (lv_at hl 0 rfl) ?_
          refine va_get (D := E.1) (ci := 7) (v := .ref mp) (C := RX7) (T := TX7) (N := 39) hx hb hts n_X7 hown hK hP 0 rfl rfl 11 (by decide) k_31 (fun _ h9 => h9) rfl dX7_takesKey_66 ?_
          refine lv_aload_n hx hb dX7_takesKey_69 rfl (lv_at hl 0 rfl) ?_
          refine va_get (D := E.1) (ci := 7) (v := .int mFr) (C := RX7) (T := TX7) (N := 39) hx hb hts n_X7 hown hK hP 0 rfl rfl 14 (by decide) k_190 (fun _ h9 => h9) rfl dX7_takesKey_70 ?_
          refine lv_iload hx hb dX7_takesKey_73 (lv_at hl 4 rfl) ?_
          refine lv_iadd hx hb dX7_takesKey_75 ?_
          obtain ⟨o_9, h⟩ := h
          refine rc_iald hx hb hK hP 8 0 rfl rfl ((mFr + x4).toNatClampNeg) rfl o_9 dX7_takesKey_76 ?_
          refine lv_aload_n hx hb dX7_takesKey_77 rfl (lv_at hl 0 rfl) ?_
          refine va_get (D := E.1) (ci := 7) (v := .ref mk) (C := RX7) (T := TX7) (N := 39) hx hb hts n_X7 hown hK hP 0 rfl rfl 19 (by decide) k_34 (fun _ h9 => h9) rfl dX7_takesKey_78 ?_
          refine lv_aload_n hx hb dX7_takesKey_81 rfl (lv_at hl 0 rfl) ?_
          refine va_get (D := E.1) (ci := 7) (v := .ref mq) (C := RX7) (T := TX7) (N := 39) hx hb hts n_X7 hown hK hP 0 rfl rfl 20 (by decide) k_38 (fun _ h9 => h9) rfl dX7_takesKey_82 ?_
          refine lv_iload_n hx hb dX7_takesKey_85 rfl (lv_at hl 1 rfl) ?_
          obtain ⟨o_10, h⟩ := h
          refine rc_iald hx hb hK hP 10 0 rfl rfl x1.toNatClampNeg rfl o_10 dX7_takesKey_86 ?_
          refine lv_iload hx hb dX7_takesKey_87 (lv_at hl 4 rfl) ?_
          refine lv_iadd hx hb dX7_takesKey_89 ?_
          obtain ⟨o_11, h⟩ := h
          refine rc_cald hx hb hK hP 9 1 rfl rfl (((mKat x1.toNatClampNeg) + x4).toNatClampNeg) rfl o_11 dX7_takesKey_90 ?_
          refine lv_icmp_ne (tgt := 98) hx hb dX7_takesKey_91 (by decide) (fun c_12 => ?_) (fun c_12 => ?_)
          · have h := h.1 c_12
            refine lv_iconst (v := 0) hx hb dX7_takesKey_98 (by decide) ?_
            refine lv_istore_n (lv' := [(3, .int 0), (0, .ref mo), (1, .int x1), (2, .int x2), (4, .int x4)]) hx hb dX7_takesKey_99 rfl hl (by decide) rfl (fun ls hl => ?_)
            refine lv_iinc (v := x4 + 1) (lv' := [(4, .int (x4 + 1)), (3, .int 0), (0, .ref mo), (1, .int x1), (2, .int x2)]) hx hb dX7_takesKey_100 hl (k := 4) rfl (by rfl) (by decide) rfl (fun ls hl => ?_)
            refine lv_goto (tgt := 55) hx hb dX7_takesKey_103 (by decide) ?_
            exact ih x1 x2 0 (x4 + 1) mNx mFr mTk mVa mEn mKe h _ _ hP hD hS ls (lv_sub hl [2, 3, 4, 1, 0] rfl)
          · have h := h.2 c_12
            refine lv_iconst (v := 1) hx hb dX7_takesKey_94 (by decide) ?_
            refine lv_goto (tgt := 99) hx hb dX7_takesKey_95 (by decide) ?_
            refine lv_istore_n (lv' := [(3, .int 1), (0, .ref mo), (1, .int x1), (2, .int x2), (4, .int x4)]) hx hb dX7_takesKey_99 rfl hl (by decide) rfl (fun ls hl => ?_)
            refine lv_iinc (v := x4 + 1) (lv' := [(4, .int (x4 + 1)), (3, .int 1), (0, .ref mo), (1, .int x1), (2, .int x2)]) hx hb dX7_takesKey_100 hl (k := 4) rfl (by rfl) (by decide) rfl (fun ls hl => ?_)
            refine lv_goto (tgt := 55) hx hb dX7_takesKey_103 (by decide) ?_
            exact ih x1 x2 1 (x4 + 1) mNx mFr mTk mVa mEn mKe h _ _ hP hD hS ls (lv_sub hl [2, 3, 4, 1, 0] rfl)
  have J12 : ∀ (n : Nat) (x1 : Int32) (mNx : Int32) (mFr : Int32) (mTk : Int32) (mVa : Int32) (mEn : Int32) (mKe : Int32), lp_X7_takesKey_12 mTp mTap mKys mKat Q n x1 mNx mFr mTk mVa mEn mKe → ∀ (H : Heap) (locs : List Loc), va_P E.1 vwCl (rw_24 E mo mn mi ma ml mt mb mr mp mk mq mc mw mz ms mf mu mv mx mh mA mB mC mM mT mHI mFC mLC mCg mTp mNx mFr mTk mVa mEn mKe mCs mAt mHd mWg mNow mImg mAsd mLea mLat mBst mRsk mTap mKys mKat mCod mWts mTes mStk mFct mSor mSiz mCel mHol mHoA mHoB mHoC mMov mTel) H → va_D A (rw_24 E mo mn mi ma ml mt mb mr mp mk mq mc mw mz ms mf mu mv mx mh mA mB mC mM mT mHI mFC mLC mCg mTp mNx mFr mTk mVa mEn mKe mCs mAt mHd mWg mNow mImg mAsd mLea mLat mBst mRsk mTap mKys mKat mCod mWts mTes mStk mFct mSor mSiz mCel mHol mHoA mHoB mHoC mMov mTel) → va_S A s.heap H locs → ∀ ls : Array Slot, lv_has ls 5 [(0, .ref mo), (1, .int x1)] → W p l e ({ frames := 2, cells := 0, slots := 0, locals := 42 } : Room) s m args below meth c H locs 0 0 QQ (F0 m 12 ls []) := by
    intro n
    induction n with
    | zero =>
      intro x1 mNx mFr mTk mVa mEn mKe h
      exact False.elim h
    | succ n ih =>
      intro x1 mNx mFr mTk mVa mEn mKe h H locs hP hD hS ls hl
      have h : lp_X7_takesKey_12F mTp mTap mKys mKat Q (lp_X7_takesKey_12 mTp mTap mKys mKat Q n) x1 mNx mFr mTk mVa mEn mKe := h
      unfold lp_X7_takesKey_12F at h
      refine lv_iload_n hx hb dX7_takesKey_12 rfl (lv_at hl 1 rfl) ?_
      refine lv_iconst (v := 3) hx hb dX7_takesKey_13 (by decide) ?_
      refine lv_icmp_ge (tgt := 127) hx hb dX7_takesKey_14 (by decide) (fun c_13 => ?_) (fun c_13 => ?_)
      · have h := h.1 c_13
        refine lv_iconst (v := 0) hx hb dX7_takesKey_127 (by decide) ?_
        exact hret _ _ _ _ 0 (mNx, mFr, mTk, mVa, mEn, mKe) (by decide) h hP hD hS dX7_takesKey_128
      · have h := h.2 c_13
        refine lv_aload_n hx hb dX7_takesKey_17 rfl (lv_at hl 0 rfl) ?_
        refine va_get (D := E.1) (ci := 7) (v := .ref mq) (C := RX7) (T := TX7) (N := 39) hx hb hts n_X7 hown hK hP 0 rfl rfl 20 (by decide) k_38 (fun _ h9 => h9) rfl dX7_takesKey_18 ?_
        refine lv_iload_n hx hb dX7_takesKey_21 rfl (lv_at hl 1 rfl) ?_
        refine lv_iconst (v := 1) hx hb dX7_takesKey_22 (by decide) ?_
        refine lv_iadd hx hb dX7_takesKey_23 ?_
        obtain ⟨o_14, h⟩ := h
        refine rc_iald hx hb hK hP 10 0 rfl rfl ((x1 + 1).toNatClampNeg) rfl o_14 dX7_takesKey_24 ?_
        refine lv_aload_n hx hb dX7_takesKey_25 rfl (lv_at hl 0 rfl) ?_
        refine va_get (D := E.1) (ci := 7) (v := .ref mq) (C := RX7) (T := TX7) (N := 39) hx hb hts n_X7 hown hK hP 0 rfl rfl 20 (by decide) k_38 (fun _ h9 => h9) rfl dX7_takesKey_26 ?_
        refine lv_iload_n hx hb dX7_takesKey_29 rfl (lv_at hl 1 rfl) ?_
        obtain ⟨o_15, h⟩ := h
        refine rc_iald hx hb hK hP 10 0 rfl rfl x1.toNatClampNeg rfl o_15 dX7_takesKey_30 ?_
        refine lv_isub hx hb dX7_takesKey_31 ?_
        refine lv_istore_n (lv' := [(2, .int ((mKat ((x1 + 1).toNatClampNeg)) - (mKat x1.toNatClampNeg))), (0, .ref mo), (1, .int x1)]) hx hb dX7_takesKey_32 rfl hl (by decide) rfl (fun ls hl => ?_)
        refine lv_iload_n hx hb dX7_takesKey_33 rfl (lv_at hl 0 rfl) ?_
        refine lv_aload_n hx hb dX7_takesKey_34 rfl (lv_at hl 1 rfl) ?_
        refine va_get (D := E.1) (ci := 7) (v := .int mNx) (C := RX7) (T := TX7) (N := 39) hx hb hts n_X7 hown hK hP 0 rfl rfl 13 (by decide) k_187 (fun _ h9 => h9) rfl dX7_takesKey_35 ?_
        refine lv_aload_n hx hb dX7_takesKey_38 rfl (lv_at hl 1 rfl) ?_
        refine va_get (D := E.1) (ci := 7) (v := .int mFr) (C := RX7) (T := TX7) (N := 39) hx hb hts n_X7 hown hK hP 0 rfl rfl 14 (by decide) k_190 (fun _ h9 => h9) rfl dX7_takesKey_39 ?_
        refine lv_isub hx hb dX7_takesKey_42 ?_
        refine lv_icmp_ne (tgt := 50) hx hb dX7_takesKey_43 (by decide) (fun c_16 => ?_) (fun c_16 => ?_)
        · have h := h.1 c_16
          refine lv_iconst (v := 0) hx hb dX7_takesKey_50 (by decide) ?_
          refine lv_istore_n (lv' := [(3, .int 0), (2, .int ((mKat ((x1 + 1).toNatClampNeg)) - (mKat x1.toNatClampNeg))), (0, .ref mo), (1, .int x1)]) hx hb dX7_takesKey_51 rfl hl (by decide) rfl (fun ls hl => ?_)
          refine lv_iconst (v := 0) hx hb dX7_takesKey_52 (by decide) ?_
          refine lv_istore (lv' := [(4, .int 0), (3, .int 0), (2, .int ((mKat ((x1 + 1).toNatClampNeg)) - (mKat x1.toNatClampNeg))), (0, .ref mo), (1, .int x1)]) hx hb dX7_takesKey_53 hl (by decide) rfl (fun ls hl => ?_)
          obtain ⟨n, h⟩ := h
          exact J55 _ (fun v0 v1 v2 v3 v4 v5 v6 h => ih v0 v1 v2 v3 v4 v5 v6 h) n x1 ((mKat ((x1 + 1).toNatClampNeg)) - (mKat x1.toNatClampNeg)) 0 0 mNx mFr mTk mVa mEn mKe h _ _ hP hD hS ls (lv_sub hl [3, 4, 2, 1, 0] rfl)
        · have h := h.2 c_16
          refine lv_iconst (v := 1) hx hb dX7_takesKey_46 (by decide) ?_
          refine lv_goto (tgt := 51) hx hb dX7_takesKey_47 (by decide) ?_
          refine lv_istore_n (lv' := [(3, .int 1), (2, .int ((mKat ((x1 + 1).toNatClampNeg)) - (mKat x1.toNatClampNeg))), (0, .ref mo), (1, .int x1)]) hx hb dX7_takesKey_51 rfl hl (by decide) rfl (fun ls hl => ?_)
          refine lv_iconst (v := 0) hx hb dX7_takesKey_52 (by decide) ?_
          refine lv_istore (lv' := [(4, .int 0), (3, .int 1), (2, .int ((mKat ((x1 + 1).toNatClampNeg)) - (mKat x1.toNatClampNeg))), (0, .ref mo), (1, .int x1)]) hx hb dX7_takesKey_53 hl (by decide) rfl (fun ls hl => ?_)
          obtain ⟨n, h⟩ := h
          exact J55 _ (fun v0 v1 v2 v3 v4 v5 v6 h => ih v0 v1 v2 v3 v4 v5 v6 h) n x1 ((mKat ((x1 + 1).toNatClampNeg)) - (mKat x1.toNatClampNeg)) 1 0 mNx mFr mTk mVa mEn mKe h _ _ hP hD hS ls (lv_sub hl [3, 4, 2, 1, 0] rfl)
  unfold wp_X7_takesKey at h
  obtain ⟨H, hH⟩ : ∃ H, H = s.heap := ⟨_, rfl⟩
  obtain ⟨locs, hlocs⟩ : ∃ locs : List Loc, locs = [] := ⟨_, rfl⟩
  have hP : va_P E.1 vwCl (rw_24 E mo mn mi ma ml mt mb mr mp mk mq mc mw mz ms mf mu mv mx mh mA mB mC mM mT mHI mFC mLC mCg mTp mNx mFr mTk mVa mEn mKe mCs mAt mHd mWg mNow mImg mAsd mLea mLat mBst mRsk mTap mKys mKat mCod mWts mTes mStk mFct mSor mSiz mCel mHol mHoA mHoB mHoC mMov mTel) H := by rw [hH]; exact hP
  have hS : va_S A s.heap H locs := by rw [hH, hlocs]; exact hS
  suffices hgo : W p l e ({ frames := 2, cells := 0, slots := 0, locals := 42 } : Room) s m args below meth c H locs 0 0 QQ (F0 m 0 ls []) from by rw [hH, hlocs] at hgo; exact hgo
  refine lv_aload_n hx hb dX7_takesKey_0 rfl (lv_at hl 0 rfl) ?_
  refine va_get (D := E.1) (ci := 7) (v := .int mTk) (C := RX7) (T := TX7) (N := 39) hx hb hts n_X7 hown hK hP 0 rfl rfl 15 (by decide) k_196 (fun _ h9 => h9) rfl dX7_takesKey_1 ?_
  refine lv_iconst (v := 1) hx hb dX7_takesKey_4 (by decide) ?_
  refine lv_icmp_eq (tgt := 10) hx hb dX7_takesKey_5 (by decide) (fun c_17 => ?_) (fun c_17 => ?_)
  · have h := h.1 c_17
    refine lv_iconst (v := 0) hx hb dX7_takesKey_10 (by decide) ?_
    refine lv_istore_n (lv' := [(1, .int 0), (0, .ref mo)]) hx hb dX7_takesKey_11 rfl hl (by decide) rfl (fun ls hl => ?_)
    obtain ⟨n, h⟩ := h
    exact J12 n 0 mNx mFr mTk mVa mEn mKe h _ _ hP hD hS ls (lv_sub hl [1, 0] rfl)
  · have h := h.2 c_17
    refine lv_iconst (v := 0) hx hb dX7_takesKey_8 (by decide) ?_
    exact hret _ _ _ _ 0 (mNx, mFr, mTk, mVa, mEn, mKe) (by decide) h hP hD hS dX7_takesKey_9
def wp_X7_nameOf (p1 : Int32) (mKe : Int32) (Q : Int32 → Prop) : Prop :=
  ((mKe = 0 → ((¬ p1 = 104 → ((¬ p1 = 110 → Q (-1)) ∧ (p1 = 110 → Q 1))) ∧ (p1 = 104 → Q 0))) ∧ ((mKe = 1 → ((¬ p1 = 100 → ((¬ p1 = 109 → Q (-1)) ∧ (p1 = 109 → Q 1))) ∧ (p1 = 100 → Q 0))) ∧ (¬ mKe = 0 ∧ ¬ mKe = 1 → ((¬ p1 = 102 → ((¬ p1 = 110 → ((¬ p1 = 109 → Q (-1)) ∧ (p1 = 109 → Q 2))) ∧ (p1 = 110 → Q 1))) ∧ (p1 = 102 → Q 0)))))
set_option maxHeartbeats 4000000 in
set_option maxRecDepth 100000 in
theorem c_X7_nameOf (l : Launch) (E : gE) (mo mn mi ma ml mt mb mr mp mk mq mc mw mz ms mf mu mv mx mh mA mB mC mM mT : Nat) (sz : Nat) (mHI : Int32) (mFC : Int32) (mLC : Int32) (mCg : Int32) (mTp : Int32) (mNx : Int32) (mFr : Int32) (mTk : Int32) (mVa : Int32) (mEn : Int32) (mKe : Int32) (mCs : Int32) (mAt : Int32) (mHd : Int32) (mWg : Int32) (mNow : Nat → Int32) (mImg : Nat → Int32) (mAsd : Nat → Int32) (mLea : Nat → Int32) (mLat : Nat → Int32) (mBst : Nat → Int32) (mRsk : Nat → Int32) (mTap : Nat → Int32) (mKys : Nat → Int32) (mKat : Nat → Int32) (mCod : Nat → Int32) (mWts : Nat → Int32) (mTes : Nat → Int32) (mStk : Nat → Int32) (mFct : Nat → Int32) (mSor : Nat → Int32) (mSiz : Nat → Int32) (mCel : Nat → Int32) (mHol : Nat → Int32) (mHoA : Nat → Int32) (mHoB : Nat → Int32) (mHoC : Nat → Int32) (mMov : Nat → Int32) (mTel : Nat → Int32) (p1 : Int32)  (Q : Int32 → Prop) (h : wp_X7_nameOf p1 mKe Q) : Met l yX7_nameOf wsX7_nameOf ({ frames := 0, cells := 0, slots := 0, locals := 0 } : Room) (va_Pc [.ref mo, .int p1] (rc_B E (rw_24 E mo mn mi ma ml mt mb mr mp mk mq mc mw mz ms mf mu mv mx mh mA mB mC mM mT mHI mFC mLC mCg mTp mNx mFr mTk mVa mEn mKe mCs mAt mHd mWg mNow mImg mAsd mLea mLat mBst mRsk mTap mKys mKat mCod mWts mTes mStk mFct mSor mSiz mCel mHol mHoA mHoB mHoC mMov mTel) sz)) (va_Qi (S := Unit) (fun (r : Int32) (u : Unit) => Q r) (fun u t => rc_C E (va_A (rw_24 E mo mn mi ma ml mt mb mr mp mk mq mc mw mz ms mf mu mv mx mh mA mB mC mM mT mHI mFC mLC mCg mTp mNx mFr mTk mVa mEn mKe mCs mAt mHd mWg mNow mImg mAsd mLea mLat mBst mRsk mTap mKys mKat mCod mWts mTes mStk mFct mSor mSiz mCel mHol mHoA mHoB mHoC mMov mTel) sz) (rw_24 E mo mn mi ma ml mt mb mr mp mk mq mc mw mz ms mf mu mv mx mh mA mB mC mM mT mHI mFC mLC mCg mTp mNx mFr mTk mVa mEn mKe mCs mAt mHd mWg mNow mImg mAsd mLea mLat mBst mRsk mTap mKys mKat mCod mWts mTes mStk mFct mSor mSiz mCel mHol mHoA mHoB mHoC mMov mTel) t) (va_A (rw_24 E mo mn mi ma ml mt mb mr mp mk mq mc mw mz ms mf mu mv mx mh mA mB mC mM mT mHI mFC mLC mCg mTp mNx mFr mTk mVa mEn mKe mCs mAt mHd mWg mNow mImg mAsd mLea mLat mBst mRsk mTap mKys mKat mCod mWts mTes mStk mFct mSor mSiz mCel mHol mHoA mHoB mHoC mMov mTel) sz)) 0 0 (va_A (rw_24 E mo mn mi ma ml mt mb mr mp mk mq mc mw mz ms mf mu mv mx mh mA mB mC mM mT mHI mFC mLC mCg mTp mNx mFr mTk mVa mEn mKe mCs mAt mHd mWg mNow mImg mAsd mLea mLat mBst mRsk mTap mKys mKat mCod mWts mTes mStk mFct mSor mSiz mCel mHol mHoA mHoB mHoC mMov mTel) sz) := by
  refine rc_enterI (cc := cX7_nameOf) (maxL := 2) (by decide) rfl (Nat.le_of_ble_eq_true rfl) ?_
  intro p e s m args below meth c QQ A hx hb hml hown hts hmn hE hP hD hA hret ls hl
  have hown : s.vm.findClass RX7 = some m.cls := hown
  have hK := hE.1
  have hS : va_S A s.heap s.heap [] := va_S.rf
  have hl : lv_has ls 2 [(0, .ref mo), (1, .int p1)] := hl
  have n_X7 : ∀ w ∈ wsX70, w ∈ wsX7_nameOf := fun _ h => List.mem_cons_of_mem _ (List.mem_append_right _ h)
  have k_208 := hts (.fieldLink RX7 208 "RidgeClapsModel" "key" "I") (List.mem_of_getElem? (i := 1) rfl)
  unfold wp_X7_nameOf at h
  obtain ⟨H, hH⟩ : ∃ H, H = s.heap := ⟨_, rfl⟩
  obtain ⟨locs, hlocs⟩ : ∃ locs : List Loc, locs = [] := ⟨_, rfl⟩
  have hP : va_P E.1 vwCl (rw_24 E mo mn mi ma ml mt mb mr mp mk mq mc mw mz ms mf mu mv mx mh mA mB mC mM mT mHI mFC mLC mCg mTp mNx mFr mTk mVa mEn mKe mCs mAt mHd mWg mNow mImg mAsd mLea mLat mBst mRsk mTap mKys mKat mCod mWts mTes mStk mFct mSor mSiz mCel mHol mHoA mHoB mHoC mMov mTel) H := by rw [hH]; exact hP
  have hS : va_S A s.heap H locs := by rw [hH, hlocs]; exact hS
  suffices hgo : W p l e ({ frames := 0, cells := 0, slots := 0, locals := 0 } : Room) s m args below meth c H locs 0 0 QQ (F0 m 0 ls []) from by rw [hH, hlocs] at hgo; exact hgo
  refine lv_aload_n hx hb dX7_nameOf_0 rfl (lv_at hl 0 rfl) ?_
  refine va_get (D := E.1) (ci := 7) (v := .int mKe) (C := RX7) (T := TX7) (N := 39) hx hb hts n_X7 hown hK hP 0 rfl rfl 18 (by decide) k_208 (fun _ h9 => h9) rfl dX7_nameOf_1 ?_
  by_cases c_1_0 : mKe = 0
  · have h := h.1 c_1_0
    refine lv_lookup (off := 28) (tgt := 32) hx hb dX7_nameOf_4 (by decide) (by rw [c_1_0] <;> rfl) (by decide) ?_
    refine lv_iload_n hx hb dX7_nameOf_32 rfl (lv_at hl 1 rfl) ?_
    refine lv_bipush (v := 104) hx hb dX7_nameOf_33 (by decide) ?_
    refine lv_icmp_ne (tgt := 42) hx hb dX7_nameOf_35 (by decide) (fun c_2 => ?_) (fun c_2 => ?_)
    · have h := h.1 c_2
      refine lv_iload_n hx hb dX7_nameOf_42 rfl (lv_at hl 1 rfl) ?_
      refine lv_bipush (v := 110) hx hb dX7_nameOf_43 (by decide) ?_
      refine lv_icmp_ne (tgt := 52) hx hb dX7_nameOf_45 (by decide) (fun c_3 => ?_) (fun c_3 => ?_)
      · have h := h.1 c_3
        refine lv_iconst (v := (-1)) hx hb dX7_nameOf_52 (by decide) ?_
        exact hret _ _ _ _ (-1) () rfl h hP hD hS dX7_nameOf_53
      · have h := h.2 c_3
        refine lv_iconst (v := 1) hx hb dX7_nameOf_48 (by decide) ?_
        refine lv_goto (tgt := 53) hx hb dX7_nameOf_49 (by decide) ?_
        exact hret _ _ _ _ 1 () rfl h hP hD hS dX7_nameOf_53
    · have h := h.2 c_2
      refine lv_iconst (v := 0) hx hb dX7_nameOf_38 (by decide) ?_
      refine lv_goto (tgt := 53) hx hb dX7_nameOf_39 (by decide) ?_
      exact hret _ _ _ _ 0 () rfl h hP hD hS dX7_nameOf_53
  · by_cases c_1_1 : mKe = 1
    · have h := h.2.1 c_1_1
      refine lv_lookup (off := 50) (tgt := 54) hx hb dX7_nameOf_4 (by decide) (by rw [c_1_1] <;> rfl) (by decide) ?_
      refine lv_iload_n hx hb dX7_nameOf_54 rfl (lv_at hl 1 rfl) ?_
      refine lv_bipush (v := 100) hx hb dX7_nameOf_55 (by decide) ?_
      refine lv_icmp_ne (tgt := 64) hx hb dX7_nameOf_57 (by decide) (fun c_4 => ?_) (fun c_4 => ?_)
      · have h := h.1 c_4
        refine lv_iload_n hx hb dX7_nameOf_64 rfl (lv_at hl 1 rfl) ?_
        refine lv_bipush (v := 109) hx hb dX7_nameOf_65 (by decide) ?_
        refine lv_icmp_ne (tgt := 74) hx hb dX7_nameOf_67 (by decide) (fun c_5 => ?_) (fun c_5 => ?_)
        · have h := h.1 c_5
          refine lv_iconst (v := (-1)) hx hb dX7_nameOf_74 (by decide) ?_
          exact hret _ _ _ _ (-1) () rfl h hP hD hS dX7_nameOf_75
        · have h := h.2 c_5
          refine lv_iconst (v := 1) hx hb dX7_nameOf_70 (by decide) ?_
          refine lv_goto (tgt := 75) hx hb dX7_nameOf_71 (by decide) ?_
          exact hret _ _ _ _ 1 () rfl h hP hD hS dX7_nameOf_75
      · have h := h.2 c_4
        refine lv_iconst (v := 0) hx hb dX7_nameOf_60 (by decide) ?_
        refine lv_goto (tgt := 75) hx hb dX7_nameOf_61 (by decide) ?_
        exact hret _ _ _ _ 0 () rfl h hP hD hS dX7_nameOf_75
    · have h := h.2.2 ⟨c_1_0, c_1_1⟩
      refine lv_lookup (off := 72) (tgt := 76) hx hb dX7_nameOf_4 (by decide) ((lv_osw c_1_0 (by decide)).trans ((lv_osw c_1_1 (by decide)).trans (rfl))) (by decide) ?_
      refine lv_iload_n hx hb dX7_nameOf_76 rfl (lv_at hl 1 rfl) ?_
      refine lv_bipush (v := 102) hx hb dX7_nameOf_77 (by decide) ?_
      refine lv_icmp_ne (tgt := 86) hx hb dX7_nameOf_79 (by decide) (fun c_6 => ?_) (fun c_6 => ?_)
      · have h := h.1 c_6
        refine lv_iload_n hx hb dX7_nameOf_86 rfl (lv_at hl 1 rfl) ?_
        refine lv_bipush (v := 110) hx hb dX7_nameOf_87 (by decide) ?_
        refine lv_icmp_ne (tgt := 96) hx hb dX7_nameOf_89 (by decide) (fun c_7 => ?_) (fun c_7 => ?_)
        · have h := h.1 c_7
          refine lv_iload_n hx hb dX7_nameOf_96 rfl (lv_at hl 1 rfl) ?_
          refine lv_bipush (v := 109) hx hb dX7_nameOf_97 (by decide) ?_
          refine lv_icmp_ne (tgt := 106) hx hb dX7_nameOf_99 (by decide) (fun c_8 => ?_) (fun c_8 => ?_)
          · have h := h.1 c_8
            refine lv_iconst (v := (-1)) hx hb dX7_nameOf_106 (by decide) ?_
            exact hret _ _ _ _ (-1) () rfl h hP hD hS dX7_nameOf_107
          · have h := h.2 c_8
            refine lv_iconst (v := 2) hx hb dX7_nameOf_102 (by decide) ?_
            refine lv_goto (tgt := 107) hx hb dX7_nameOf_103 (by decide) ?_
            exact hret _ _ _ _ 2 () rfl h hP hD hS dX7_nameOf_107
        · have h := h.2 c_7
          refine lv_iconst (v := 1) hx hb dX7_nameOf_92 (by decide) ?_
          refine lv_goto (tgt := 107) hx hb dX7_nameOf_93 (by decide) ?_
          exact hret _ _ _ _ 1 () rfl h hP hD hS dX7_nameOf_107
      · have h := h.2 c_6
        refine lv_iconst (v := 0) hx hb dX7_nameOf_82 (by decide) ?_
        refine lv_goto (tgt := 107) hx hb dX7_nameOf_83 (by decide) ?_
        exact hret _ _ _ _ 0 () rfl h hP hD hS dX7_nameOf_107
def lp_X7_settle_0F (p1 : Int32) (mWts : Nat → Int32)  (Q : Int32 → Int32 → (Nat → Int32) → Prop) (R : Int32 → Int32 → (Nat → Int32) → Prop) (mCs : Int32) (mHd : Int32) (mCod : Nat → Int32) : Prop :=
  ((mHd ≤ 0 → Q mCs mHd mCod) ∧ (¬ (mHd ≤ 0) → (vp_in (mHd - 1) 96 ∧ (((mWts ((mHd - 1).toNatClampNeg)) = (-11) → Q mCs mHd mCod) ∧ (¬ ((mWts ((mHd - 1).toNatClampNeg)) = (-11)) → (vp_in (mHd - 1) 96 ∧ wp_X7_rank (mWts ((mHd - 1).toNatClampNeg)) (fun (r_5 : Int32) => ((r_5 < p1 → Q mCs mHd mCod) ∧ (¬ (r_5 < p1) → (vp_in (mHd - 1) 96 ∧ (vp_in mCs 96 ∧ R (mCs + 1) (mHd - 1) (upd mCod mCs.toNatClampNeg (mWts ((mHd - 1).toNatClampNeg))))))))))))))
def lp_X7_settle_0 (p1 : Int32) (mWts : Nat → Int32)  (Q : Int32 → Int32 → (Nat → Int32) → Prop) (n : Nat) : Int32 → Int32 → (Nat → Int32) → Prop :=
  Nat.rec (motive := fun _ => Int32 → Int32 → (Nat → Int32) → Prop) (fun _ _ _ => False) (fun _ r => lp_X7_settle_0F p1 mWts Q r) n
def wp_X7_settle (p1 : Int32) (mCs : Int32) (mHd : Int32) (mCod : Nat → Int32) (mWts : Nat → Int32) (Q : Int32 → Int32 → (Nat → Int32) → Prop) : Prop :=
  (∃ n : Nat, lp_X7_settle_0 p1 mWts Q n mCs mHd mCod)
set_option maxHeartbeats 4000000 in
set_option maxRecDepth 100000 in
theorem c_X7_settle (l : Launch) (E : gE) (mo mn mi ma ml mt mb mr mp mk mq mc mw mz ms mf mu mv mx mh mA mB mC mM mT : Nat) (sz : Nat) (mHI : Int32) (mFC : Int32) (mLC : Int32) (mCg : Int32) (mTp : Int32) (mNx : Int32) (mFr : Int32) (mTk : Int32) (mVa : Int32) (mEn : Int32) (mKe : Int32) (mCs : Int32) (mAt : Int32) (mHd : Int32) (mWg : Int32) (mNow : Nat → Int32) (mImg : Nat → Int32) (mAsd : Nat → Int32) (mLea : Nat → Int32) (mLat : Nat → Int32) (mBst : Nat → Int32) (mRsk : Nat → Int32) (mTap : Nat → Int32) (mKys : Nat → Int32) (mKat : Nat → Int32) (mCod : Nat → Int32) (mWts : Nat → Int32) (mTes : Nat → Int32) (mStk : Nat → Int32) (mFct : Nat → Int32) (mSor : Nat → Int32) (mSiz : Nat → Int32) (mCel : Nat → Int32) (mHol : Nat → Int32) (mHoA : Nat → Int32) (mHoB : Nat → Int32) (mHoC : Nat → Int32) (mMov : Nat → Int32) (mTel : Nat → Int32) (p1 : Int32)  (Q : Int32 → Int32 → (Nat → Int32) → Prop) (h : wp_X7_settle p1 mCs mHd mCod mWts Q) : Met l yX7_settle wsX7_settle ({ frames := 1, cells := 0, slots := 0, locals := 20 } : Room) (va_Pc [.ref mo, .int p1] (rc_B E (rw_24 E mo mn mi ma ml mt mb mr mp mk mq mc mw mz ms mf mu mv mx mh mA mB mC mM mT mHI mFC mLC mCg mTp mNx mFr mTk mVa mEn mKe mCs mAt mHd mWg mNow mImg mAsd mLea mLat mBst mRsk mTap mKys mKat mCod mWts mTes mStk mFct mSor mSiz mCel mHol mHoA mHoB mHoC mMov mTel) sz)) (va_Qv (S := Int32 × Int32 × (Nat → Int32)) (fun (u : Int32 × Int32 × (Nat → Int32)) => Q u.1 u.2.1 u.2.2) (fun u t => rc_C E (va_A (rw_24 E mo mn mi ma ml mt mb mr mp mk mq mc mw mz ms mf mu mv mx mh mA mB mC mM mT mHI mFC mLC mCg mTp mNx mFr mTk mVa mEn mKe mCs mAt mHd mWg mNow mImg mAsd mLea mLat mBst mRsk mTap mKys mKat mCod mWts mTes mStk mFct mSor mSiz mCel mHol mHoA mHoB mHoC mMov mTel) sz) (rw_24 E mo mn mi ma ml mt mb mr mp mk mq mc mw mz ms mf mu mv mx mh mA mB mC mM mT mHI mFC mLC mCg mTp mNx mFr mTk mVa mEn mKe u.1 mAt u.2.1 mWg mNow mImg mAsd mLea mLat mBst mRsk mTap mKys mKat u.2.2 mWts mTes mStk mFct mSor mSiz mCel mHol mHoA mHoB mHoC mMov mTel) t) (va_A (rw_24 E mo mn mi ma ml mt mb mr mp mk mq mc mw mz ms mf mu mv mx mh mA mB mC mM mT mHI mFC mLC mCg mTp mNx mFr mTk mVa mEn mKe mCs mAt mHd mWg mNow mImg mAsd mLea mLat mBst mRsk mTap mKys mKat mCod mWts mTes mStk mFct mSor mSiz mCel mHol mHoA mHoB mHoC mMov mTel) sz)) 0 0 (va_A (rw_24 E mo mn mi ma ml mt mb mr mp mk mq mc mw mz ms mf mu mv mx mh mA mB mC mM mT mHI mFC mLC mCg mTp mNx mFr mTk mVa mEn mKe mCs mAt mHd mWg mNow mImg mAsd mLea mLat mBst mRsk mTap mKys mKat mCod mWts mTes mStk mFct mSor mSiz mCel mHol mHoA mHoB mHoC mMov mTel) sz) := by
  refine rc_enterV (cc := cX7_settle) (maxL := 2) (by decide) rfl (Nat.le_of_ble_eq_true rfl) ?_
  intro p e s m args below meth c QQ A hx hb hml hown hts hmn hE hP hD hA hret ls hl
  have hown : s.vm.findClass RX7 = some m.cls := hown
  have hK := hE.1
  have hS : va_S A s.heap s.heap [] := va_S.rf
  have hl : lv_has ls 2 [(0, .ref mo), (1, .int p1)] := hl
  have n_X7 : ∀ w ∈ wsX70, w ∈ wsX7_settle := fun _ h => List.mem_cons_of_mem _ (List.mem_append_right _ h)
  have k_214 := hts (.fieldLink RX7 214 "RidgeClapsModel" "held" "I") (List.mem_of_getElem? (i := 1) rfl)
  have k_44 := hts (.fieldLink RX7 44 "RidgeClapsModel" "waits" "[I") (List.mem_of_getElem? (i := 2) rfl)
  have k_41 := hts (.fieldLink RX7 41 "RidgeClapsModel" "code" "[I") (List.mem_of_getElem? (i := 3) rfl)
  have k_220 := hts (.fieldLink RX7 220 "RidgeClapsModel" "codes" "I") (List.mem_of_getElem? (i := 4) rfl)
  have J0 : ∀ (n : Nat) (mCs : Int32) (mHd : Int32) (mCod : Nat → Int32), lp_X7_settle_0 p1 mWts Q n mCs mHd mCod → ∀ (H : Heap) (locs : List Loc), va_P E.1 vwCl (rw_24 E mo mn mi ma ml mt mb mr mp mk mq mc mw mz ms mf mu mv mx mh mA mB mC mM mT mHI mFC mLC mCg mTp mNx mFr mTk mVa mEn mKe mCs mAt mHd mWg mNow mImg mAsd mLea mLat mBst mRsk mTap mKys mKat mCod mWts mTes mStk mFct mSor mSiz mCel mHol mHoA mHoB mHoC mMov mTel) H → va_D A (rw_24 E mo mn mi ma ml mt mb mr mp mk mq mc mw mz ms mf mu mv mx mh mA mB mC mM mT mHI mFC mLC mCg mTp mNx mFr mTk mVa mEn mKe mCs mAt mHd mWg mNow mImg mAsd mLea mLat mBst mRsk mTap mKys mKat mCod mWts mTes mStk mFct mSor mSiz mCel mHol mHoA mHoB mHoC mMov mTel) → va_S A s.heap H locs → ∀ ls : Array Slot, lv_has ls 2 [(0, .ref mo), (1, .int p1)] → W p l e ({ frames := 1, cells := 0, slots := 0, locals := 20 } : Room) s m args below meth c H locs 0 0 QQ (F0 m 0 ls []) := by
    intro n
    induction n with
    | zero =>
      intro mCs mHd mCod h
      exact False.elim h
    | succ n ih =>
      intro mCs mHd mCod h H locs hP hD hS ls hl
      have h : lp_X7_settle_0F p1 mWts Q (lp_X7_settle_0 p1 mWts Q n) mCs mHd mCod := h
      unfold lp_X7_settle_0F at h
      refine lv_aload_n hx hb dX7_settle_0 rfl (lv_at hl 0 rfl) ?_
      refine va_get (D := E.1) (ci := 7) (v := .int mHd) (C := RX7) (T := TX7) (N := 39) hx hb hts n_X7 hown hK hP 0 rfl rfl 25 (by decide) k_214 (fun _ h9 => h9) rfl dX7_settle_1 ?_
      refine lv_if_le (tgt := 82) hx hb dX7_settle_4 (by decide) (fun c_1 => ?_) (fun c_1 => ?_)
      · have h := h.1 c_1
        exact hret _ _ _ _ (mCs, mHd, mCod) h hP hD hS dX7_settle_82
      · have h := h.2 c_1
        refine lv_aload_n hx hb dX7_settle_7 rfl (lv_at hl 0 rfl) ?_
        refine va_get (D := E.1) (ci := 7) (v := .ref mw) (C := RX7) (T := TX7) (N := 39) hx hb hts n_X7 hown hK hP 0 rfl rfl 24 (by decide) k_44 (fun _ h9 => h9) rfl dX7_settle_8 ?_
        refine lv_aload_n hx hb dX7_settle_11 rfl (lv_at hl 0 rfl) ?_
        refine va_get (D := E.1) (ci := 7) (v := .int mHd) (C := RX7) (T := TX7) (N := 39) hx hb hts n_X7 hown hK hP 0 rfl rfl 25 (by decide) k_214 (fun _ h9 => h9) rfl dX7_settle_12 ?_
        refine lv_iconst (v := 1) hx hb dX7_settle_15 (by decide) ?_
        refine lv_isub hx hb dX7_settle_16 ?_
        obtain ⟨o_2, h⟩ := h
        refine rc_iald hx hb hK hP 12 0 rfl rfl ((mHd - 1).toNatClampNeg) rfl o_2 dX7_settle_17 ?_
        refine lv_bipush (v := (-11)) hx hb dX7_settle_18 (by decide) ?_
        refine lv_icmp_eq (tgt := 82) hx hb dX7_settle_20 (by decide) (fun c_3 => ?_) (fun c_3 => ?_)
        · have h := h.1 c_3
          exact hret _ _ _ _ (mCs, mHd, mCod) h hP hD hS dX7_settle_82
        · have h := h.2 c_3
          refine lv_aload_n hx hb dX7_settle_23 rfl (lv_at hl 0 rfl) ?_
          refine va_get (D := E.1) (ci := 7) (v := .ref mw) (C := RX7) (T := TX7) (N := 39) hx hb hts n_X7 hown hK hP 0 rfl rfl 24 (by decide) k_44 (fun _ h9 => h9) rfl dX7_settle_24 ?_
          refine lv_aload_n hx hb dX7_settle_27 rfl (lv_at hl 0 rfl) ?_
          refine va_get (D := E.1) (ci := 7) (v := .int mHd) (C := RX7) (T := TX7) (N := 39) hx hb hts n_X7 hown hK hP 0 rfl rfl 25 (by decide) k_214 (fun _ h9 => h9) rfl dX7_settle_28 ?_
          refine lv_iconst (v := 1) hx hb dX7_settle_31 (by decide) ?_
          refine lv_isub hx hb dX7_settle_32 ?_
          obtain ⟨o_4, h⟩ := h
          refine rc_iald hx hb hK hP 12 0 rfl rfl ((mHd - 1).toNatClampNeg) rfl o_4 dX7_settle_33 ?_
          have hPc := hP.sub (ws' := []) [] rfl
          have hDc := hD.sub (ws' := []) [] (by decide) rfl
          have hFc := va_free (wc := []) hD hS hA [] rfl
          refine va_calli (va_runS (As := [.int (mWts ((mHd - 1).toNatClampNeg))]) (rest := []) ⟨hx, hb, hml, hown, hts⟩ (c_X7_rank l E H.size (mWts ((mHd - 1).toNatClampNeg)) _ h) (va_cwS 1 hts gX7_settle_X7_rank rfl rfl rfl (by decide +kernel) ⟨Nat.le_of_ble_eq_true rfl, Nat.le_of_ble_eq_true rfl⟩) ⟨fun a U g mk q => ⟨q.1, q.2.blind⟩, fun U hU hW => ⟨rfl, by rw [hU], by rw [hU]; exact hPc, hE.call hS hFc hW hU, hDc.weaken (fun _ _ _ _ => trivial)⟩⟩ rfl rfl hl.1 rfl (lv_room (Nat.le_of_ble_eq_true rfl)) dX7_settle_34 ⟨Nat.zero_le _, Nat.zero_le _⟩) hS (fun q _ h => hFc q h) hFc (fun r_5 u t H1 locs ht hvm h hB hz1 hk1 hS => ?_)
          obtain ⟨hP1, hD1⟩ := hB
          rw [ht] at hP1
          obtain ⟨hP, hD⟩ := rc_foc hP hD [] [none, none, none, none, none, none, none, none, none, none, none, none, none, none, none, none, none, none, none, none, none, none, none, none, none] (by decide) rfl hk1 hP1 rfl
          generalize H1 = H at hP hS ⊢
          have hP : va_P E.1 vwCl (rw_24 E mo mn mi ma ml mt mb mr mp mk mq mc mw mz ms mf mu mv mx mh mA mB mC mM mT mHI mFC mLC mCg mTp mNx mFr mTk mVa mEn mKe mCs mAt mHd mWg mNow mImg mAsd mLea mLat mBst mRsk mTap mKys mKat mCod mWts mTes mStk mFct mSor mSiz mCel mHol mHoA mHoB mHoC mMov mTel) H := hP
          have hD : va_D A (rw_24 E mo mn mi ma ml mt mb mr mp mk mq mc mw mz ms mf mu mv mx mh mA mB mC mM mT mHI mFC mLC mCg mTp mNx mFr mTk mVa mEn mKe mCs mAt mHd mWg mNow mImg mAsd mLea mLat mBst mRsk mTap mKys mKat mCod mWts mTes mStk mFct mSor mSiz mCel mHol mHoA mHoB mHoC mMov mTel) := hD
          refine lv_iload_n hx hb dX7_settle_37 rfl (lv_at hl 1 rfl) ?_
          refine lv_icmp_lt (tgt := 82) hx hb dX7_settle_38 (by decide) (fun c_6 => ?_) (fun c_6 => ?_)
          · have h := h.1 c_6
            exact hret _ _ _ _ (mCs, mHd, mCod) h hP hD hS dX7_settle_82
          · have h := h.2 c_6
            refine lv_aload_n hx hb dX7_settle_41 rfl (lv_at hl 0 rfl) ?_
            refine lv_dup hx hb dX7_settle_42 rfl ?_
            refine va_get (D := E.1) (ci := 7) (v := .int mHd) (C := RX7) (T := TX7) (N := 39) hx hb hts n_X7 hown hK hP 0 rfl rfl 25 (by decide) k_214 (fun _ h9 => h9) rfl dX7_settle_43 ?_
            refine lv_iconst (v := 1) hx hb dX7_settle_46 (by decide) ?_
            refine lv_isub hx hb dX7_settle_47 ?_
            refine va_put (D := E.1) (ci := 7) (v := .int (mHd - 1)) (ty := .int) (C := RX7) (T := TX7) (N := 39) hx hb hts n_X7 tyX7 tyX7_ok nmX7 hown hK hP hD hS 0 rfl rfl 25 (by decide) k_214 (fun _ h9 => h9) rfl (by decide +kernel) rfl rfl (Nat.le_of_ble_eq_true rfl) dX7_settle_48 (fun H locs hP hD hS => ?_)
            have hP : va_P E.1 vwCl (rw_24 E mo mn mi ma ml mt mb mr mp mk mq mc mw mz ms mf mu mv mx mh mA mB mC mM mT mHI mFC mLC mCg mTp mNx mFr mTk mVa mEn mKe mCs mAt (mHd - 1) mWg mNow mImg mAsd mLea mLat mBst mRsk mTap mKys mKat mCod mWts mTes mStk mFct mSor mSiz mCel mHol mHoA mHoB mHoC mMov mTel) H := hP
            have hD : va_D A (rw_24 E mo mn mi ma ml mt mb mr mp mk mq mc mw mz ms mf mu mv mx mh mA mB mC mM mT mHI mFC mLC mCg mTp mNx mFr mTk mVa mEn mKe mCs mAt (mHd - 1) mWg mNow mImg mAsd mLea mLat mBst mRsk mTap mKys mKat mCod mWts mTes mStk mFct mSor mSiz mCel mHol mHoA mHoB mHoC mMov mTel) := hD
            refine lv_aload_n hx hb dX7_settle_51 rfl (lv_at hl 0 rfl) ?_
            refine va_get (D := E.1) (ci := 7) (v := .ref mc) (C := RX7) (T := TX7) (N := 39) hx hb hts n_X7 hown hK hP 0 rfl rfl 21 (by decide) k_41 (fun _ h9 => h9) rfl dX7_settle_52 ?_
            refine lv_aload_n hx hb dX7_settle_55 rfl (lv_at hl 0 rfl) ?_
            refine va_get (D := E.1) (ci := 7) (v := .int mCs) (C := RX7) (T := TX7) (N := 39) hx hb hts n_X7 hown hK hP 0 rfl rfl 22 (by decide) k_220 (fun _ h9 => h9) rfl dX7_settle_56 ?_
            refine lv_aload_n hx hb dX7_settle_59 rfl (lv_at hl 0 rfl) ?_
            refine va_get (D := E.1) (ci := 7) (v := .ref mw) (C := RX7) (T := TX7) (N := 39) hx hb hts n_X7 hown hK hP 0 rfl rfl 24 (by decide) k_44 (fun _ h9 => h9) rfl dX7_settle_60 ?_
            refine lv_aload_n hx hb dX7_settle_63 rfl (lv_at hl 0 rfl) ?_
            refine va_get (D := E.1) (ci := 7) (v := .int (mHd - 1)) (C := RX7) (T := TX7) (N := 39) hx hb hts n_X7 hown hK hP 0 rfl rfl 25 (by decide) k_214 (fun _ h9 => h9) rfl dX7_settle_64 ?_
            obtain ⟨o_7, h⟩ := h
            refine rc_iald hx hb hK hP 12 0 rfl rfl ((mHd - 1).toNatClampNeg) rfl o_7 dX7_settle_67 ?_
            obtain ⟨o_8, h⟩ := h
            refine rc_iast hx hb hK hP hD hS 11 0 rfl rfl mCs.toNatClampNeg rfl o_8 dX7_settle_68 (fun H locs hP hD hS => ?_)
            have hP : va_P E.1 vwCl (rw_24 E mo mn mi ma ml mt mb mr mp mk mq mc mw mz ms mf mu mv mx mh mA mB mC mM mT mHI mFC mLC mCg mTp mNx mFr mTk mVa mEn mKe mCs mAt (mHd - 1) mWg mNow mImg mAsd mLea mLat mBst mRsk mTap mKys mKat (upd mCod mCs.toNatClampNeg (mWts ((mHd - 1).toNatClampNeg))) mWts mTes mStk mFct mSor mSiz mCel mHol mHoA mHoB mHoC mMov mTel) H := hP
            have hD : va_D A (rw_24 E mo mn mi ma ml mt mb mr mp mk mq mc mw mz ms mf mu mv mx mh mA mB mC mM mT mHI mFC mLC mCg mTp mNx mFr mTk mVa mEn mKe mCs mAt (mHd - 1) mWg mNow mImg mAsd mLea mLat mBst mRsk mTap mKys mKat (upd mCod mCs.toNatClampNeg (mWts ((mHd - 1).toNatClampNeg))) mWts mTes mStk mFct mSor mSiz mCel mHol mHoA mHoB mHoC mMov mTel) := hD
            refine lv_aload_n hx hb dX7_settle_69 rfl (lv_at hl 0 rfl) ?_
            refine lv_dup hx hb dX7_settle_70 rfl ?_
            refine va_get (D := E.1) (ci := 7) (v := .int mCs) (C := RX7) (T := TX7) (N := 39) hx hb hts n_X7 hown hK hP 0 rfl rfl 22 (by decide) k_220 (fun _ h9 => h9) rfl dX7_settle_71 ?_
            refine lv_iconst (v := 1) hx hb dX7_settle_74 (by decide) ?_
            refine lv_iadd hx hb dX7_settle_75 ?_
            refine va_put (D := E.1) (ci := 7) (v := .int (mCs + 1)) (ty := .int) (C := RX7) (T := TX7) (N := 39) hx hb hts n_X7 tyX7 tyX7_ok nmX7 hown hK hP hD hS 0 rfl rfl 22 (by decide) k_220 (fun _ h9 => h9) rfl (by decide +kernel) rfl rfl (Nat.le_of_ble_eq_true rfl) dX7_settle_76 (fun H locs hP hD hS => ?_)
            have hP : va_P E.1 vwCl (rw_24 E mo mn mi ma ml mt mb mr mp mk mq mc mw mz ms mf mu mv mx mh mA mB mC mM mT mHI mFC mLC mCg mTp mNx mFr mTk mVa mEn mKe (mCs + 1) mAt (mHd - 1) mWg mNow mImg mAsd mLea mLat mBst mRsk mTap mKys mKat (upd mCod mCs.toNatClampNeg (mWts ((mHd - 1).toNatClampNeg))) mWts mTes mStk mFct mSor mSiz mCel mHol mHoA mHoB mHoC mMov mTel) H := hP
            have hD : va_D A (rw_24 E mo mn mi ma ml mt mb mr mp mk mq mc mw mz ms mf mu mv mx mh mA mB mC mM mT mHI mFC mLC mCg mTp mNx mFr mTk mVa mEn mKe (mCs + 1) mAt (mHd - 1) mWg mNow mImg mAsd mLea mLat mBst mRsk mTap mKys mKat (upd mCod mCs.toNatClampNeg (mWts ((mHd - 1).toNatClampNeg))) mWts mTes mStk mFct mSor mSiz mCel mHol mHoA mHoB mHoC mMov mTel) := hD
            refine lv_goto (tgt := 0) hx hb dX7_settle_79 (by decide) ?_
            exact ih (mCs + 1) (mHd - 1) (upd mCod mCs.toNatClampNeg (mWts ((mHd - 1).toNatClampNeg))) h _ _ hP hD hS ls (lv_sub hl [0, 1] rfl)
  unfold wp_X7_settle at h
  obtain ⟨H, hH⟩ : ∃ H, H = s.heap := ⟨_, rfl⟩
  obtain ⟨locs, hlocs⟩ : ∃ locs : List Loc, locs = [] := ⟨_, rfl⟩
  have hP : va_P E.1 vwCl (rw_24 E mo mn mi ma ml mt mb mr mp mk mq mc mw mz ms mf mu mv mx mh mA mB mC mM mT mHI mFC mLC mCg mTp mNx mFr mTk mVa mEn mKe mCs mAt mHd mWg mNow mImg mAsd mLea mLat mBst mRsk mTap mKys mKat mCod mWts mTes mStk mFct mSor mSiz mCel mHol mHoA mHoB mHoC mMov mTel) H := by rw [hH]; exact hP
  have hS : va_S A s.heap H locs := by rw [hH, hlocs]; exact hS
  suffices hgo : W p l e ({ frames := 1, cells := 0, slots := 0, locals := 20 } : Room) s m args below meth c H locs 0 0 QQ (F0 m 0 ls []) from by rw [hH, hlocs] at hgo; exact hgo
  obtain ⟨n, h⟩ := h
  exact J0 n mCs mHd mCod h _ _ hP hD hS ls (lv_sub hl [0, 1] rfl)
def wp_X7_signHere (mTk : Int32) (mVa : Int32) (Q : Int32 → Prop) : Prop :=
  ((mTk = 3 → ((mVa = 38 → Q (-2)) ∧ ((mVa = 42 → Q (-8)) ∧ ((mVa = 43 → Q (-6)) ∧ ((mVa = 45 → Q (-7)) ∧ ((mVa = 47 → Q (-9)) ∧ ((mVa = 60 → Q (-3)) ∧ ((mVa = 61 → Q (-4)) ∧ ((mVa = 62 → Q (-5)) ∧ ((mVa = 124 → Q (-1)) ∧ (¬ mVa = 38 ∧ ¬ mVa = 42 ∧ ¬ mVa = 43 ∧ ¬ mVa = 45 ∧ ¬ mVa = 47 ∧ ¬ mVa = 60 ∧ ¬ mVa = 61 ∧ ¬ mVa = 62 ∧ ¬ mVa = 124 → Q 0))))))))))) ∧ (¬ (mTk = 3) → Q 0))
set_option maxHeartbeats 4000000 in
set_option maxRecDepth 100000 in
theorem c_X7_signHere (l : Launch) (E : gE) (mo mn mi ma ml mt mb mr mp mk mq mc mw mz ms mf mu mv mx mh mA mB mC mM mT : Nat) (sz : Nat) (mHI : Int32) (mFC : Int32) (mLC : Int32) (mCg : Int32) (mTp : Int32) (mNx : Int32) (mFr : Int32) (mTk : Int32) (mVa : Int32) (mEn : Int32) (mKe : Int32) (mCs : Int32) (mAt : Int32) (mHd : Int32) (mWg : Int32) (mNow : Nat → Int32) (mImg : Nat → Int32) (mAsd : Nat → Int32) (mLea : Nat → Int32) (mLat : Nat → Int32) (mBst : Nat → Int32) (mRsk : Nat → Int32) (mTap : Nat → Int32) (mKys : Nat → Int32) (mKat : Nat → Int32) (mCod : Nat → Int32) (mWts : Nat → Int32) (mTes : Nat → Int32) (mStk : Nat → Int32) (mFct : Nat → Int32) (mSor : Nat → Int32) (mSiz : Nat → Int32) (mCel : Nat → Int32) (mHol : Nat → Int32) (mHoA : Nat → Int32) (mHoB : Nat → Int32) (mHoC : Nat → Int32) (mMov : Nat → Int32) (mTel : Nat → Int32)   (Q : Int32 → Prop) (h : wp_X7_signHere mTk mVa Q) : Met l yX7_signHere wsX7_signHere ({ frames := 0, cells := 0, slots := 0, locals := 0 } : Room) (va_Pc [.ref mo] (rc_B E (rw_24 E mo mn mi ma ml mt mb mr mp mk mq mc mw mz ms mf mu mv mx mh mA mB mC mM mT mHI mFC mLC mCg mTp mNx mFr mTk mVa mEn mKe mCs mAt mHd mWg mNow mImg mAsd mLea mLat mBst mRsk mTap mKys mKat mCod mWts mTes mStk mFct mSor mSiz mCel mHol mHoA mHoB mHoC mMov mTel) sz)) (va_Qi (S := Unit) (fun (r : Int32) (u : Unit) => Q r) (fun u t => rc_C E (va_A (rw_24 E mo mn mi ma ml mt mb mr mp mk mq mc mw mz ms mf mu mv mx mh mA mB mC mM mT mHI mFC mLC mCg mTp mNx mFr mTk mVa mEn mKe mCs mAt mHd mWg mNow mImg mAsd mLea mLat mBst mRsk mTap mKys mKat mCod mWts mTes mStk mFct mSor mSiz mCel mHol mHoA mHoB mHoC mMov mTel) sz) (rw_24 E mo mn mi ma ml mt mb mr mp mk mq mc mw mz ms mf mu mv mx mh mA mB mC mM mT mHI mFC mLC mCg mTp mNx mFr mTk mVa mEn mKe mCs mAt mHd mWg mNow mImg mAsd mLea mLat mBst mRsk mTap mKys mKat mCod mWts mTes mStk mFct mSor mSiz mCel mHol mHoA mHoB mHoC mMov mTel) t) (va_A (rw_24 E mo mn mi ma ml mt mb mr mp mk mq mc mw mz ms mf mu mv mx mh mA mB mC mM mT mHI mFC mLC mCg mTp mNx mFr mTk mVa mEn mKe mCs mAt mHd mWg mNow mImg mAsd mLea mLat mBst mRsk mTap mKys mKat mCod mWts mTes mStk mFct mSor mSiz mCel mHol mHoA mHoB mHoC mMov mTel) sz)) 0 0 (va_A (rw_24 E mo mn mi ma ml mt mb mr mp mk mq mc mw mz ms mf mu mv mx mh mA mB mC mM mT mHI mFC mLC mCg mTp mNx mFr mTk mVa mEn mKe mCs mAt mHd mWg mNow mImg mAsd mLea mLat mBst mRsk mTap mKys mKat mCod mWts mTes mStk mFct mSor mSiz mCel mHol mHoA mHoB mHoC mMov mTel) sz) := by
  refine rc_enterI (cc := cX7_signHere) (maxL := 1) (by decide) rfl (Nat.le_of_ble_eq_true rfl) ?_
  intro p e s m args below meth c QQ A hx hb hml hown hts hmn hE hP hD hA hret ls hl
  have hown : s.vm.findClass RX7 = some m.cls := hown
  have hK := hE.1
  have hS : va_S A s.heap s.heap [] := va_S.rf
  have hl : lv_has ls 1 [(0, .ref mo)] := hl
  have n_X7 : ∀ w ∈ wsX70, w ∈ wsX7_signHere := fun _ h => List.mem_cons_of_mem _ (List.mem_append_right _ h)
  have k_196 := hts (.fieldLink RX7 196 "RidgeClapsModel" "token" "I") (List.mem_of_getElem? (i := 1) rfl)
  have k_202 := hts (.fieldLink RX7 202 "RidgeClapsModel" "value" "I") (List.mem_of_getElem? (i := 2) rfl)
  unfold wp_X7_signHere at h
  obtain ⟨H, hH⟩ : ∃ H, H = s.heap := ⟨_, rfl⟩
  obtain ⟨locs, hlocs⟩ : ∃ locs : List Loc, locs = [] := ⟨_, rfl⟩
  have hP : va_P E.1 vwCl (rw_24 E mo mn mi ma ml mt mb mr mp mk mq mc mw mz ms mf mu mv mx mh mA mB mC mM mT mHI mFC mLC mCg mTp mNx mFr mTk mVa mEn mKe mCs mAt mHd mWg mNow mImg mAsd mLea mLat mBst mRsk mTap mKys mKat mCod mWts mTes mStk mFct mSor mSiz mCel mHol mHoA mHoB mHoC mMov mTel) H := by rw [hH]; exact hP
  have hS : va_S A s.heap H locs := by rw [hH, hlocs]; exact hS
  suffices hgo : W p l e ({ frames := 0, cells := 0, slots := 0, locals := 0 } : Room) s m args below meth c H locs 0 0 QQ (F0 m 0 ls []) from by rw [hH, hlocs] at hgo; exact hgo
  refine lv_aload_n hx hb dX7_signHere_0 rfl (lv_at hl 0 rfl) ?_
  refine va_get (D := E.1) (ci := 7) (v := .int mTk) (C := RX7) (T := TX7) (N := 39) hx hb hts n_X7 hown hK hP 0 rfl rfl 15 (by decide) k_196 (fun _ h9 => h9) rfl dX7_signHere_1 ?_
  refine lv_iconst (v := 3) hx hb dX7_signHere_4 (by decide) ?_
  refine lv_icmp_eq (tgt := 10) hx hb dX7_signHere_5 (by decide) (fun c_1 => ?_) (fun c_1 => ?_)
  · have h := h.1 c_1
    refine lv_aload_n hx hb dX7_signHere_10 rfl (lv_at hl 0 rfl) ?_
    refine va_get (D := E.1) (ci := 7) (v := .int mVa) (C := RX7) (T := TX7) (N := 39) hx hb hts n_X7 hown hK hP 0 rfl rfl 16 (by decide) k_202 (fun _ h9 => h9) rfl dX7_signHere_11 ?_
    by_cases c_2_0 : mVa = 38
    · have h := h.1 c_2_0
      refine lv_lookup (off := 84) (tgt := 98) hx hb dX7_signHere_14 (by decide) (by rw [c_2_0] <;> rfl) (by decide) ?_
      refine lv_bipush (v := (-2)) hx hb dX7_signHere_98 (by decide) ?_
      exact hret _ _ _ _ (-2) () rfl h hP hD hS dX7_signHere_100
    · by_cases c_2_1 : mVa = 42
      · have h := h.2.1 c_2_1
        refine lv_lookup (off := 102) (tgt := 116) hx hb dX7_signHere_14 (by decide) (by rw [c_2_1] <;> rfl) (by decide) ?_
        refine lv_bipush (v := (-8)) hx hb dX7_signHere_116 (by decide) ?_
        exact hret _ _ _ _ (-8) () rfl h hP hD hS dX7_signHere_118
      · by_cases c_2_2 : mVa = 43
        · have h := h.2.2.1 c_2_2
          refine lv_lookup (off := 96) (tgt := 110) hx hb dX7_signHere_14 (by decide) (by rw [c_2_2] <;> rfl) (by decide) ?_
          refine lv_bipush (v := (-6)) hx hb dX7_signHere_110 (by decide) ?_
          exact hret _ _ _ _ (-6) () rfl h hP hD hS dX7_signHere_112
        · by_cases c_2_3 : mVa = 45
          · have h := h.2.2.2.1 c_2_3
            refine lv_lookup (off := 99) (tgt := 113) hx hb dX7_signHere_14 (by decide) (by rw [c_2_3] <;> rfl) (by decide) ?_
            refine lv_bipush (v := (-7)) hx hb dX7_signHere_113 (by decide) ?_
            exact hret _ _ _ _ (-7) () rfl h hP hD hS dX7_signHere_115
          · by_cases c_2_4 : mVa = 47
            · have h := h.2.2.2.2.1 c_2_4
              refine lv_lookup (off := 105) (tgt := 119) hx hb dX7_signHere_14 (by decide) (by rw [c_2_4] <;> rfl) (by decide) ?_
              refine lv_bipush (v := (-9)) hx hb dX7_signHere_119 (by decide) ?_
              exact hret _ _ _ _ (-9) () rfl h hP hD hS dX7_signHere_121
            · by_cases c_2_5 : mVa = 60
              · have h := h.2.2.2.2.2.1 c_2_5
                refine lv_lookup (off := 87) (tgt := 101) hx hb dX7_signHere_14 (by decide) (by rw [c_2_5] <;> rfl) (by decide) ?_
                refine lv_bipush (v := (-3)) hx hb dX7_signHere_101 (by decide) ?_
                exact hret _ _ _ _ (-3) () rfl h hP hD hS dX7_signHere_103
              · by_cases c_2_6 : mVa = 61
                · have h := h.2.2.2.2.2.2.1 c_2_6
                  refine lv_lookup (off := 90) (tgt := 104) hx hb dX7_signHere_14 (by decide) (by rw [c_2_6] <;> rfl) (by decide) ?_
                  refine lv_bipush (v := (-4)) hx hb dX7_signHere_104 (by decide) ?_
                  exact hret _ _ _ _ (-4) () rfl h hP hD hS dX7_signHere_106
                · by_cases c_2_7 : mVa = 62
                  · have h := h.2.2.2.2.2.2.2.1 c_2_7
                    refine lv_lookup (off := 93) (tgt := 107) hx hb dX7_signHere_14 (by decide) (by rw [c_2_7] <;> rfl) (by decide) ?_
                    refine lv_bipush (v := (-5)) hx hb dX7_signHere_107 (by decide) ?_
                    exact hret _ _ _ _ (-5) () rfl h hP hD hS dX7_signHere_109
                  · by_cases c_2_8 : mVa = 124
                    · have h := h.2.2.2.2.2.2.2.2.1 c_2_8
                      refine lv_lookup (off := 82) (tgt := 96) hx hb dX7_signHere_14 (by decide) (by rw [c_2_8] <;> rfl) (by decide) ?_
                      refine lv_iconst (v := (-1)) hx hb dX7_signHere_96 (by decide) ?_
                      exact hret _ _ _ _ (-1) () rfl h hP hD hS dX7_signHere_97
                    · have h := h.2.2.2.2.2.2.2.2.2 ⟨c_2_0, c_2_1, c_2_2, c_2_3, c_2_4, c_2_5, c_2_6, c_2_7, c_2_8⟩
                      refine lv_lookup (off := 108) (tgt := 122) hx hb dX7_signHere_14 (by decide) ((lv_osw c_2_0 (by decide)).trans ((lv_osw c_2_1 (by decide)).trans ((lv_osw c_2_2 (by decide)).trans ((lv_osw c_2_3 (by decide)).trans ((lv_osw c_2_4 (by decide)).trans ((lv_osw c_2_5 (by decide)).trans ((lv_osw c_2_6 (by decide)).trans ((lv_osw c_2_7 (by decide)).trans ((lv_osw c_2_8 (by decide)).trans (rfl)))))))))) (by decide) ?_
                      refine lv_iconst (v := 0) hx hb dX7_signHere_122 (by decide) ?_
                      exact hret _ _ _ _ 0 () rfl h hP hD hS dX7_signHere_123
  · have h := h.2 c_1
    refine lv_iconst (v := 0) hx hb dX7_signHere_8 (by decide) ?_
    exact hret _ _ _ _ 0 () rfl h hP hD hS dX7_signHere_9
def jp_X7_takesPart_87 (mTp : Int32) (mTap : Nat → Int32) (mWts : Nat → Int32)  (Q : Int32 → Int32 → Int32 → Int32 → Int32 → Int32 → Int32 → Int32 → Int32 → (Nat → Int32) → Prop) (y0 : Int32) (y1 : Int32) (mNx : Int32) (mFr : Int32) (mTk : Int32) (mVa : Int32) (mEn : Int32) (mCs : Int32) (mAt : Int32) (mHd : Int32) (mCod : Nat → Int32) : Prop :=
  (vp_in y1 96 ∧ wp_X7_settle 6 (mCs + 1) mHd (upd mCod y1.toNatClampNeg y0) mWts (fun (w_2 : Int32) (w_3 : Int32) (w_4 : Nat → Int32) => wp_X7_go mTp mNx mFr mTk mVa mEn mTap (fun (w_5 : Int32) (w_6 : Int32) (w_7 : Int32) (w_8 : Int32) (w_9 : Int32) => Q 1 w_5 w_6 w_7 w_8 w_9 w_2 (mAt + 1) w_3 w_4)))
def jp_X7_takesPart_52 (mTp : Int32) (mKe : Int32) (mTap : Nat → Int32) (mWts : Nat → Int32)  (Q : Int32 → Int32 → Int32 → Int32 → Int32 → Int32 → Int32 → Int32 → Int32 → (Nat → Int32) → Prop) (mNx : Int32) (mFr : Int32) (mTk : Int32) (mVa : Int32) (mEn : Int32) (mCs : Int32) (mAt : Int32) (mHd : Int32) (mCod : Nat → Int32) : Prop :=
  ((¬ mTk = 2 → wp_X7_nameOf mVa mKe (fun (r_11 : Int32) => jp_X7_takesPart_87 mTp mTap mWts Q (10000 + r_11) mCs mNx mFr mTk mVa mEn mCs mAt mHd mCod)) ∧ (mTk = 2 → jp_X7_takesPart_87 mTp mTap mWts Q mVa mCs mNx mFr mTk mVa mEn mCs mAt mHd mCod))
def jp_X7_takesPart_37 (mTp : Int32) (mKe : Int32) (mTap : Nat → Int32) (mWts : Nat → Int32)  (Q : Int32 → Int32 → Int32 → Int32 → Int32 → Int32 → Int32 → Int32 → Int32 → (Nat → Int32) → Prop) (y0 : Int32) (mNx : Int32) (mFr : Int32) (mTk : Int32) (mVa : Int32) (mEn : Int32) (mCs : Int32) (mAt : Int32) (mHd : Int32) (mCod : Nat → Int32) : Prop :=
  ((mTk = 2 → jp_X7_takesPart_52 mTp mKe mTap mWts Q mNx mFr mTk mVa mEn mCs mAt mHd mCod) ∧ (¬ (mTk = 2) → ((¬ y0 = 0 → jp_X7_takesPart_52 mTp mKe mTap mWts Q mNx mFr mTk mVa mEn mCs mAt mHd mCod) ∧ (y0 = 0 → Q 0 mNx mFr mTk mVa mEn mCs mAt mHd mCod))))
def wp_X7_takesPart (mTp : Int32) (mNx : Int32) (mFr : Int32) (mTk : Int32) (mVa : Int32) (mEn : Int32) (mKe : Int32) (mCs : Int32) (mAt : Int32) (mHd : Int32) (mTap : Nat → Int32) (mCod : Nat → Int32) (mWts : Nat → Int32) (Q : Int32 → Int32 → Int32 → Int32 → Int32 → Int32 → Int32 → Int32 → Int32 → (Nat → Int32) → Prop) : Prop :=
  ((¬ mTk = 1 → jp_X7_takesPart_37 mTp mKe mTap mWts Q 0 mNx mFr mTk mVa mEn mCs mAt mHd mCod) ∧ (mTk = 1 → ((¬ (mNx - mFr) = 1 → jp_X7_takesPart_37 mTp mKe mTap mWts Q 0 mNx mFr mTk mVa mEn mCs mAt mHd mCod) ∧ ((mNx - mFr) = 1 → wp_X7_nameOf mVa mKe (fun (r_16 : Int32) => ((r_16 < 0 → jp_X7_takesPart_37 mTp mKe mTap mWts Q 0 mNx mFr mTk mVa mEn mCs mAt mHd mCod) ∧ (¬ (r_16 < 0) → jp_X7_takesPart_37 mTp mKe mTap mWts Q 1 mNx mFr mTk mVa mEn mCs mAt mHd mCod)))))))
set_option maxHeartbeats 4000000 in
set_option maxRecDepth 100000 in
theorem c_X7_takesPart (l : Launch) (E : gE) (mo mn mi ma ml mt mb mr mp mk mq mc mw mz ms mf mu mv mx mh mA mB mC mM mT : Nat) (sz : Nat) (mHI : Int32) (mFC : Int32) (mLC : Int32) (mCg : Int32) (mTp : Int32) (mNx : Int32) (mFr : Int32) (mTk : Int32) (mVa : Int32) (mEn : Int32) (mKe : Int32) (mCs : Int32) (mAt : Int32) (mHd : Int32) (mWg : Int32) (mNow : Nat → Int32) (mImg : Nat → Int32) (mAsd : Nat → Int32) (mLea : Nat → Int32) (mLat : Nat → Int32) (mBst : Nat → Int32) (mRsk : Nat → Int32) (mTap : Nat → Int32) (mKys : Nat → Int32) (mKat : Nat → Int32) (mCod : Nat → Int32) (mWts : Nat → Int32) (mTes : Nat → Int32) (mStk : Nat → Int32) (mFct : Nat → Int32) (mSor : Nat → Int32) (mSiz : Nat → Int32) (mCel : Nat → Int32) (mHol : Nat → Int32) (mHoA : Nat → Int32) (mHoB : Nat → Int32) (mHoC : Nat → Int32) (mMov : Nat → Int32) (mTel : Nat → Int32)   (Q : Int32 → Int32 → Int32 → Int32 → Int32 → Int32 → Int32 → Int32 → Int32 → (Nat → Int32) → Prop) (h : wp_X7_takesPart mTp mNx mFr mTk mVa mEn mKe mCs mAt mHd mTap mCod mWts Q) : Met l yX7_takesPart wsX7_takesPart ({ frames := 2, cells := 0, slots := 0, locals := 42 } : Room) (va_Pc [.ref mo] (rc_B E (rw_24 E mo mn mi ma ml mt mb mr mp mk mq mc mw mz ms mf mu mv mx mh mA mB mC mM mT mHI mFC mLC mCg mTp mNx mFr mTk mVa mEn mKe mCs mAt mHd mWg mNow mImg mAsd mLea mLat mBst mRsk mTap mKys mKat mCod mWts mTes mStk mFct mSor mSiz mCel mHol mHoA mHoB mHoC mMov mTel) sz)) (va_Qi (S := Int32 × Int32 × Int32 × Int32 × Int32 × Int32 × Int32 × Int32 × (Nat → Int32)) (fun (r : Int32) (u : Int32 × Int32 × Int32 × Int32 × Int32 × Int32 × Int32 × Int32 × (Nat → Int32)) => Q r u.1 u.2.1 u.2.2.1 u.2.2.2.1 u.2.2.2.2.1 u.2.2.2.2.2.1 u.2.2.2.2.2.2.1 u.2.2.2.2.2.2.2.1 u.2.2.2.2.2.2.2.2) (fun u t => rc_C E (va_A (rw_24 E mo mn mi ma ml mt mb mr mp mk mq mc mw mz ms mf mu mv mx mh mA mB mC mM mT mHI mFC mLC mCg mTp mNx mFr mTk mVa mEn mKe mCs mAt mHd mWg mNow mImg mAsd mLea mLat mBst mRsk mTap mKys mKat mCod mWts mTes mStk mFct mSor mSiz mCel mHol mHoA mHoB mHoC mMov mTel) sz) (rw_24 E mo mn mi ma ml mt mb mr mp mk mq mc mw mz ms mf mu mv mx mh mA mB mC mM mT mHI mFC mLC mCg mTp u.1 u.2.1 u.2.2.1 u.2.2.2.1 u.2.2.2.2.1 mKe u.2.2.2.2.2.1 u.2.2.2.2.2.2.1 u.2.2.2.2.2.2.2.1 mWg mNow mImg mAsd mLea mLat mBst mRsk mTap mKys mKat u.2.2.2.2.2.2.2.2 mWts mTes mStk mFct mSor mSiz mCel mHol mHoA mHoB mHoC mMov mTel) t) (va_A (rw_24 E mo mn mi ma ml mt mb mr mp mk mq mc mw mz ms mf mu mv mx mh mA mB mC mM mT mHI mFC mLC mCg mTp mNx mFr mTk mVa mEn mKe mCs mAt mHd mWg mNow mImg mAsd mLea mLat mBst mRsk mTap mKys mKat mCod mWts mTes mStk mFct mSor mSiz mCel mHol mHoA mHoB mHoC mMov mTel) sz)) 0 0 (va_A (rw_24 E mo mn mi ma ml mt mb mr mp mk mq mc mw mz ms mf mu mv mx mh mA mB mC mM mT mHI mFC mLC mCg mTp mNx mFr mTk mVa mEn mKe mCs mAt mHd mWg mNow mImg mAsd mLea mLat mBst mRsk mTap mKys mKat mCod mWts mTes mStk mFct mSor mSiz mCel mHol mHoA mHoB mHoC mMov mTel) sz) := by
  refine rc_enterI (cc := cX7_takesPart) (maxL := 2) (by decide) rfl (Nat.le_of_ble_eq_true rfl) ?_
  intro p e s m args below meth c QQ A hx hb hml hown hts hmn hE hP hD hA hret ls hl
  have hown : s.vm.findClass RX7 = some m.cls := hown
  have hK := hE.1
  have hS : va_S A s.heap s.heap [] := va_S.rf
  have hl : lv_has ls 2 [(0, .ref mo)] := hl
  have n_X7 : ∀ w ∈ wsX70, w ∈ wsX7_takesPart := fun _ h => List.mem_cons_of_mem _ (List.mem_append_right _ h)
  have k_220 := hts (.fieldLink RX7 220 "RidgeClapsModel" "codes" "I") (List.mem_of_getElem? (i := 6) rfl)
  have k_226 := hts (.fieldLink RX7 226 "RidgeClapsModel" "atoms" "I") (List.mem_of_getElem? (i := 7) rfl)
  have k_41 := hts (.fieldLink RX7 41 "RidgeClapsModel" "code" "[I") (List.mem_of_getElem? (i := 5) rfl)
  have k_196 := hts (.fieldLink RX7 196 "RidgeClapsModel" "token" "I") (List.mem_of_getElem? (i := 1) rfl)
  have k_202 := hts (.fieldLink RX7 202 "RidgeClapsModel" "value" "I") (List.mem_of_getElem? (i := 4) rfl)
  have k_187 := hts (.fieldLink RX7 187 "RidgeClapsModel" "next" "I") (List.mem_of_getElem? (i := 2) rfl)
  have k_190 := hts (.fieldLink RX7 190 "RidgeClapsModel" "from" "I") (List.mem_of_getElem? (i := 3) rfl)
  have J87 : ∀ (y0 : Int32) (y1 : Int32) (mNx : Int32) (mFr : Int32) (mTk : Int32) (mVa : Int32) (mEn : Int32) (mCs : Int32) (mAt : Int32) (mHd : Int32) (mCod : Nat → Int32), jp_X7_takesPart_87 mTp mTap mWts Q y0 y1 mNx mFr mTk mVa mEn mCs mAt mHd mCod → ∀ (H : Heap) (locs : List Loc), va_P E.1 vwCl (rw_24 E mo mn mi ma ml mt mb mr mp mk mq mc mw mz ms mf mu mv mx mh mA mB mC mM mT mHI mFC mLC mCg mTp mNx mFr mTk mVa mEn mKe mCs mAt mHd mWg mNow mImg mAsd mLea mLat mBst mRsk mTap mKys mKat mCod mWts mTes mStk mFct mSor mSiz mCel mHol mHoA mHoB mHoC mMov mTel) H → va_D A (rw_24 E mo mn mi ma ml mt mb mr mp mk mq mc mw mz ms mf mu mv mx mh mA mB mC mM mT mHI mFC mLC mCg mTp mNx mFr mTk mVa mEn mKe mCs mAt mHd mWg mNow mImg mAsd mLea mLat mBst mRsk mTap mKys mKat mCod mWts mTes mStk mFct mSor mSiz mCel mHol mHoA mHoB mHoC mMov mTel) → va_S A s.heap H locs → ∀ ls : Array Slot, lv_has ls 2 [(0, .ref mo)] → W p l e ({ frames := 2, cells := 0, slots := 0, locals := 42 } : Room) s m args below meth c H locs 0 0 QQ (F0 m 87 ls [.int y0, .int y1, .ref mc]) := by
    intro y0 y1 mNx mFr mTk mVa mEn mCs mAt mHd mCod h H locs hP hD hS ls hl
    unfold jp_X7_takesPart_87 at h
    obtain ⟨o_1, h⟩ := h
    refine rc_iast hx hb hK hP hD hS 11 0 rfl rfl y1.toNatClampNeg rfl o_1 dX7_takesPart_87 (fun H locs hP hD hS => ?_)
    have hP : va_P E.1 vwCl (rw_24 E mo mn mi ma ml mt mb mr mp mk mq mc mw mz ms mf mu mv mx mh mA mB mC mM mT mHI mFC mLC mCg mTp mNx mFr mTk mVa mEn mKe mCs mAt mHd mWg mNow mImg mAsd mLea mLat mBst mRsk mTap mKys mKat (upd mCod y1.toNatClampNeg y0) mWts mTes mStk mFct mSor mSiz mCel mHol mHoA mHoB mHoC mMov mTel) H := hP
    have hD : va_D A (rw_24 E mo mn mi ma ml mt mb mr mp mk mq mc mw mz ms mf mu mv mx mh mA mB mC mM mT mHI mFC mLC mCg mTp mNx mFr mTk mVa mEn mKe mCs mAt mHd mWg mNow mImg mAsd mLea mLat mBst mRsk mTap mKys mKat (upd mCod y1.toNatClampNeg y0) mWts mTes mStk mFct mSor mSiz mCel mHol mHoA mHoB mHoC mMov mTel) := hD
    refine lv_aload_n hx hb dX7_takesPart_88 rfl (lv_at hl 0 rfl) ?_
    refine lv_dup hx hb dX7_takesPart_89 rfl ?_
    refine va_get (D := E.1) (ci := 7) (v := .int mCs) (C := RX7) (T := TX7) (N := 39) hx hb hts n_X7 hown hK hP 0 rfl rfl 22 (by decide) k_220 (fun _ h9 => h9) rfl dX7_takesPart_90 ?_
    refine lv_iconst (v := 1) hx hb dX7_takesPart_93 (by decide) ?_
    refine lv_iadd hx hb dX7_takesPart_94 ?_
    refine va_put (D := E.1) (ci := 7) (v := .int (mCs + 1)) (ty := .int) (C := RX7) (T := TX7) (N := 39) hx hb hts n_X7 tyX7 tyX7_ok nmX7 hown hK hP hD hS 0 rfl rfl 22 (by decide) k_220 (fun _ h9 => h9) rfl (by decide +kernel) rfl rfl (Nat.le_of_ble_eq_true rfl) dX7_takesPart_95 (fun H locs hP hD hS => ?_)
    have hP : va_P E.1 vwCl (rw_24 E mo mn mi ma ml mt mb mr mp mk mq mc mw mz ms mf mu mv mx mh mA mB mC mM mT mHI mFC mLC mCg mTp mNx mFr mTk mVa mEn mKe (mCs + 1) mAt mHd mWg mNow mImg mAsd mLea mLat mBst mRsk mTap mKys mKat (upd mCod y1.toNatClampNeg y0) mWts mTes mStk mFct mSor mSiz mCel mHol mHoA mHoB mHoC mMov mTel) H := hP
    have hD : va_D A (rw_24 E mo mn mi ma ml mt mb mr mp mk mq mc mw mz ms mf mu mv mx mh mA mB mC mM mT mHI mFC mLC mCg mTp mNx mFr mTk mVa mEn mKe (mCs + 1) mAt mHd mWg mNow mImg mAsd mLea mLat mBst mRsk mTap mKys mKat (upd mCod y1.toNatClampNeg y0) mWts mTes mStk mFct mSor mSiz mCel mHol mHoA mHoB mHoC mMov mTel) := hD
    refine lv_aload_n hx hb dX7_takesPart_98 rfl (lv_at hl 0 rfl) ?_
    refine lv_dup hx hb dX7_takesPart_99 rfl ?_
    refine va_get (D := E.1) (ci := 7) (v := .int mAt) (C := RX7) (T := TX7) (N := 39) hx hb hts n_X7 hown hK hP 0 rfl rfl 23 (by decide) k_226 (fun _ h9 => h9) rfl dX7_takesPart_100 ?_
    refine lv_iconst (v := 1) hx hb dX7_takesPart_103 (by decide) ?_
    refine lv_iadd hx hb dX7_takesPart_104 ?_
    refine va_put (D := E.1) (ci := 7) (v := .int (mAt + 1)) (ty := .int) (C := RX7) (T := TX7) (N := 39) hx hb hts n_X7 tyX7 tyX7_ok nmX7 hown hK hP hD hS 0 rfl rfl 23 (by decide) k_226 (fun _ h9 => h9) rfl (by decide +kernel) rfl rfl (Nat.le_of_ble_eq_true rfl) dX7_takesPart_105 (fun H locs hP hD hS => ?_)
    have hP : va_P E.1 vwCl (rw_24 E mo mn mi ma ml mt mb mr mp mk mq mc mw mz ms mf mu mv mx mh mA mB mC mM mT mHI mFC mLC mCg mTp mNx mFr mTk mVa mEn mKe (mCs + 1) (mAt + 1) mHd mWg mNow mImg mAsd mLea mLat mBst mRsk mTap mKys mKat (upd mCod y1.toNatClampNeg y0) mWts mTes mStk mFct mSor mSiz mCel mHol mHoA mHoB mHoC mMov mTel) H := hP
    have hD : va_D A (rw_24 E mo mn mi ma ml mt mb mr mp mk mq mc mw mz ms mf mu mv mx mh mA mB mC mM mT mHI mFC mLC mCg mTp mNx mFr mTk mVa mEn mKe (mCs + 1) (mAt + 1) mHd mWg mNow mImg mAsd mLea mLat mBst mRsk mTap mKys mKat (upd mCod y1.toNatClampNeg y0) mWts mTes mStk mFct mSor mSiz mCel mHol mHoA mHoB mHoC mMov mTel) := hD
    refine lv_aload_n hx hb dX7_takesPart_108 rfl (lv_at hl 0 rfl) ?_
    refine lv_bipush (v := 6) hx hb dX7_takesPart_109 (by decide) ?_
    have hPc := hP
    have hDc := hD
    have hFc := rc_freeI hD hS hA
    refine va_callv (va_runV (As := [.int 6]) (rest := []) ⟨hx, hb, hml, hown, hts⟩ (c_X7_settle l E mo mn mi ma ml mt mb mr mp mk mq mc mw mz ms mf mu mv mx mh mA mB mC mM mT H.size mHI mFC mLC mCg mTp mNx mFr mTk mVa mEn mKe (mCs + 1) (mAt + 1) mHd mWg mNow mImg mAsd mLea mLat mBst mRsk mTap mKys mKat (upd mCod y1.toNatClampNeg y0) mWts mTes mStk mFct mSor mSiz mCel mHol mHoA mHoB mHoC mMov mTel 6 _ h) (cwV 1 hts gX7_takesPart_X7_settle rfl rfl rfl (by decide +kernel) ⟨Nat.le_of_ble_eq_true rfl, Nat.le_of_ble_eq_true rfl⟩) ⟨fun a U g mk q => ⟨q.1, q.2.blind⟩, va_recv hK hPc (ci := 7) (q0 := 0) rfl rfl, fun U hU hW => ⟨rfl, by rw [hU], by rw [hU]; exact hPc, hE.call hS hFc hW hU, hDc.weaken (fun _ _ _ _ => trivial)⟩⟩ rfl rfl hl.1 rfl (lv_room (Nat.le_of_ble_eq_true rfl)) dX7_takesPart_111 ⟨Nat.zero_le _, Nat.zero_le _⟩) hS (fun q _ h => hFc q h) hFc (fun u t H1 locs ht hvm h hB hz1 hk1 hS => ?_)
    obtain ⟨w_2, w_3, w_4⟩ := u
    obtain ⟨hP1, hD1⟩ := hB
    rw [ht] at hP1
    have hP := hP1
    have hD := hD1.weaken (fun _ _ _ h => hFc _ h)
    generalize H1 = H at hP hS ⊢
    have hP : va_P E.1 vwCl (rw_24 E mo mn mi ma ml mt mb mr mp mk mq mc mw mz ms mf mu mv mx mh mA mB mC mM mT mHI mFC mLC mCg mTp mNx mFr mTk mVa mEn mKe w_2 (mAt + 1) w_3 mWg mNow mImg mAsd mLea mLat mBst mRsk mTap mKys mKat w_4 mWts mTes mStk mFct mSor mSiz mCel mHol mHoA mHoB mHoC mMov mTel) H := hP
    have hD : va_D A (rw_24 E mo mn mi ma ml mt mb mr mp mk mq mc mw mz ms mf mu mv mx mh mA mB mC mM mT mHI mFC mLC mCg mTp mNx mFr mTk mVa mEn mKe w_2 (mAt + 1) w_3 mWg mNow mImg mAsd mLea mLat mBst mRsk mTap mKys mKat w_4 mWts mTes mStk mFct mSor mSiz mCel mHol mHoA mHoB mHoC mMov mTel) := hD
    refine lv_aload_n hx hb dX7_takesPart_114 rfl (lv_at hl 0 rfl) ?_
    have hPc := hP
    have hDc := hD
    have hFc := rc_freeI hD hS hA
    refine va_callv (va_runV (As := []) (rest := []) ⟨hx, hb, hml, hown, hts⟩ (c_X7_go l E mo mn mi ma ml mt mb mr mp mk mq mc mw mz ms mf mu mv mx mh mA mB mC mM mT H.size mHI mFC mLC mCg mTp mNx mFr mTk mVa mEn mKe w_2 (mAt + 1) w_3 mWg mNow mImg mAsd mLea mLat mBst mRsk mTap mKys mKat w_4 mWts mTes mStk mFct mSor mSiz mCel mHol mHoA mHoB mHoC mMov mTel _ h) (cwV 0 hts gX7_takesPart_X7_go rfl rfl rfl (by decide +kernel) ⟨Nat.le_of_ble_eq_true rfl, Nat.le_of_ble_eq_true rfl⟩) ⟨fun a U g mk q => ⟨q.1, q.2.blind⟩, va_recv hK hPc (ci := 7) (q0 := 0) rfl rfl, fun U hU hW => ⟨rfl, by rw [hU], by rw [hU]; exact hPc, hE.call hS hFc hW hU, hDc.weaken (fun _ _ _ _ => trivial)⟩⟩ rfl rfl hl.1 rfl (lv_room (Nat.le_of_ble_eq_true rfl)) dX7_takesPart_115 ⟨Nat.zero_le _, Nat.zero_le _⟩) hS (fun q _ h => hFc q h) hFc (fun u t H1 locs ht hvm h hB hz1 hk1 hS => ?_)
    obtain ⟨w_5, w_6, w_7, w_8, w_9⟩ := u
    obtain ⟨hP1, hD1⟩ := hB
    rw [ht] at hP1
    have hP := hP1
    have hD := hD1.weaken (fun _ _ _ h => hFc _ h)
    generalize H1 = H at hP hS ⊢
    have hP : va_P E.1 vwCl (rw_24 E mo mn mi ma ml mt mb mr mp mk mq mc mw mz ms mf mu mv mx mh mA mB mC mM mT mHI mFC mLC mCg mTp w_5 w_6 w_7 w_8 w_9 mKe w_2 (mAt + 1) w_3 mWg mNow mImg mAsd mLea mLat mBst mRsk mTap mKys mKat w_4 mWts mTes mStk mFct mSor mSiz mCel mHol mHoA mHoB mHoC mMov mTel) H := hP
    have hD : va_D A (rw_24 E mo mn mi ma ml mt mb mr mp mk mq mc mw mz ms mf mu mv mx mh mA mB mC mM mT mHI mFC mLC mCg mTp w_5 w_6 w_7 w_8 w_9 mKe w_2 (mAt + 1) w_3 mWg mNow mImg mAsd mLea mLat mBst mRsk mTap mKys mKat w_4 mWts mTes mStk mFct mSor mSiz mCel mHol mHoA mHoB mHoC mMov mTel) := hD
    refine lv_iconst (v := 1) hx hb dX7_takesPart_118 (by decide) ?_
    exact hret _ _ _ _ 1 (w_5, w_6, w_7, w_8, w_9, w_2, mAt + 1, w_3, w_4) (by decide) h hP hD hS dX7_takesPart_119
  have J52 : ∀ (mNx : Int32) (mFr : Int32) (mTk : Int32) (mVa : Int32) (mEn : Int32) (mCs : Int32) (mAt : Int32) (mHd : Int32) (mCod : Nat → Int32), jp_X7_takesPart_52 mTp mKe mTap mWts Q mNx mFr mTk mVa mEn mCs mAt mHd mCod → ∀ (H : Heap) (locs : List Loc), va_P E.1 vwCl (rw_24 E mo mn mi ma ml mt mb mr mp mk mq mc mw mz ms mf mu mv mx mh mA mB mC mM mT mHI mFC mLC mCg mTp mNx mFr mTk mVa mEn mKe mCs mAt mHd mWg mNow mImg mAsd mLea mLat mBst mRsk mTap mKys mKat mCod mWts mTes mStk mFct mSor mSiz mCel mHol mHoA mHoB mHoC mMov mTel) H → va_D A (rw_24 E mo mn mi ma ml mt mb mr mp mk mq mc mw mz ms mf mu mv mx mh mA mB mC mM mT mHI mFC mLC mCg mTp mNx mFr mTk mVa mEn mKe mCs mAt mHd mWg mNow mImg mAsd mLea mLat mBst mRsk mTap mKys mKat mCod mWts mTes mStk mFct mSor mSiz mCel mHol mHoA mHoB mHoC mMov mTel) → va_S A s.heap H locs → ∀ ls : Array Slot, lv_has ls 2 [(0, .ref mo)] → W p l e ({ frames := 2, cells := 0, slots := 0, locals := 42 } : Room) s m args below meth c H locs 0 0 QQ (F0 m 52 ls []) := by
    intro mNx mFr mTk mVa mEn mCs mAt mHd mCod h H locs hP hD hS ls hl
    unfold jp_X7_takesPart_52 at h
    refine lv_aload_n hx hb dX7_takesPart_52 rfl (lv_at hl 0 rfl) ?_
    refine va_get (D := E.1) (ci := 7) (v := .ref mc) (C := RX7) (T := TX7) (N := 39) hx hb hts n_X7 hown hK hP 0 rfl rfl 21 (by decide) k_41 (fun _ h9 => h9) rfl dX7_takesPart_53 ?_
    refine lv_aload_n hx hb dX7_takesPart_56 rfl (lv_at hl 0 rfl) ?_
    refine va_get (D := E.1) (ci := 7) (v := .int mCs) (C := RX7) (T := TX7) (N := 39) hx hb hts n_X7 hown hK hP 0 rfl rfl 22 (by decide) k_220 (fun _ h9 => h9) rfl dX7_takesPart_57 ?_
    refine lv_aload_n hx hb dX7_takesPart_60 rfl (lv_at hl 0 rfl) ?_
    refine va_get (D := E.1) (ci := 7) (v := .int mTk) (C := RX7) (T := TX7) (N := 39) hx hb hts n_X7 hown hK hP 0 rfl rfl 15 (by decide) k_196 (fun _ h9 => h9) rfl dX7_takesPart_61 ?_
    refine lv_iconst (v := 2) hx hb dX7_takesPart_64 (by decide) ?_
    refine lv_icmp_ne (tgt := 75) hx hb dX7_takesPart_65 (by decide) (fun c_10 => ?_) (fun c_10 => ?_)
    · have h := h.1 c_10
      refine lv_sipush (v := 10000) hx hb dX7_takesPart_75 (by decide) ?_
      refine lv_aload_n hx hb dX7_takesPart_78 rfl (lv_at hl 0 rfl) ?_
      refine lv_aload_n hx hb dX7_takesPart_79 rfl (lv_at hl 0 rfl) ?_
      refine va_get (D := E.1) (ci := 7) (v := .int mVa) (C := RX7) (T := TX7) (N := 39) hx hb hts n_X7 hown hK hP 0 rfl rfl 16 (by decide) k_202 (fun _ h9 => h9) rfl dX7_takesPart_80 ?_
      have hPc := hP
      have hDc := hD
      have hFc := rc_freeI hD hS hA
      refine va_calli (va_runV (As := [.int mVa]) (rest := [.int 10000, .int mCs, .ref mc]) ⟨hx, hb, hml, hown, hts⟩ (c_X7_nameOf l E mo mn mi ma ml mt mb mr mp mk mq mc mw mz ms mf mu mv mx mh mA mB mC mM mT H.size mHI mFC mLC mCg mTp mNx mFr mTk mVa mEn mKe mCs mAt mHd mWg mNow mImg mAsd mLea mLat mBst mRsk mTap mKys mKat mCod mWts mTes mStk mFct mSor mSiz mCel mHol mHoA mHoB mHoC mMov mTel mVa _ h) (cwV 1 hts gX7_takesPart_X7_nameOf rfl rfl rfl (by decide +kernel) ⟨Nat.le_of_ble_eq_true rfl, Nat.le_of_ble_eq_true rfl⟩) ⟨fun a U g mk q => ⟨q.1, q.2.blind⟩, va_recv hK hPc (ci := 7) (q0 := 0) rfl rfl, fun U hU hW => ⟨rfl, by rw [hU], by rw [hU]; exact hPc, hE.call hS hFc hW hU, hDc.weaken (fun _ _ _ _ => trivial)⟩⟩ rfl rfl hl.1 rfl (lv_room (Nat.le_of_ble_eq_true rfl)) dX7_takesPart_83 ⟨Nat.zero_le _, Nat.zero_le _⟩) hS (fun q _ h => hFc q h) hFc (fun r_11 u t H1 locs ht hvm h hB hz1 hk1 hS => ?_)
      obtain ⟨hP1, hD1⟩ := hB
      rw [ht] at hP1
      have hP := hP1
      have hD := hD1.weaken (fun _ _ _ h => hFc _ h)
      generalize H1 = H at hP hS ⊢
      have hP : va_P E.1 vwCl (rw_24 E mo mn mi ma ml mt mb mr mp mk mq mc mw mz ms mf mu mv mx mh mA mB mC mM mT mHI mFC mLC mCg mTp mNx mFr mTk mVa mEn mKe mCs mAt mHd mWg mNow mImg mAsd mLea mLat mBst mRsk mTap mKys mKat mCod mWts mTes mStk mFct mSor mSiz mCel mHol mHoA mHoB mHoC mMov mTel) H := hP
      have hD : va_D A (rw_24 E mo mn mi ma ml mt mb mr mp mk mq mc mw mz ms mf mu mv mx mh mA mB mC mM mT mHI mFC mLC mCg mTp mNx mFr mTk mVa mEn mKe mCs mAt mHd mWg mNow mImg mAsd mLea mLat mBst mRsk mTap mKys mKat mCod mWts mTes mStk mFct mSor mSiz mCel mHol mHoA mHoB mHoC mMov mTel) := hD
      refine lv_iadd hx hb dX7_takesPart_86 ?_
      exact J87 (10000 + r_11) mCs mNx mFr mTk mVa mEn mCs mAt mHd mCod h _ _ hP hD hS ls (lv_sub hl [0] rfl)
    · have h := h.2 c_10
      refine lv_aload_n hx hb dX7_takesPart_68 rfl (lv_at hl 0 rfl) ?_
      refine va_get (D := E.1) (ci := 7) (v := .int mVa) (C := RX7) (T := TX7) (N := 39) hx hb hts n_X7 hown hK hP 0 rfl rfl 16 (by decide) k_202 (fun _ h9 => h9) rfl dX7_takesPart_69 ?_
      refine lv_goto (tgt := 87) hx hb dX7_takesPart_72 (by decide) ?_
      exact J87 mVa mCs mNx mFr mTk mVa mEn mCs mAt mHd mCod h _ _ hP hD hS ls (lv_sub hl [0] rfl)
  have J37 : ∀ (y0 : Int32) (mNx : Int32) (mFr : Int32) (mTk : Int32) (mVa : Int32) (mEn : Int32) (mCs : Int32) (mAt : Int32) (mHd : Int32) (mCod : Nat → Int32), jp_X7_takesPart_37 mTp mKe mTap mWts Q y0 mNx mFr mTk mVa mEn mCs mAt mHd mCod → ∀ (H : Heap) (locs : List Loc), va_P E.1 vwCl (rw_24 E mo mn mi ma ml mt mb mr mp mk mq mc mw mz ms mf mu mv mx mh mA mB mC mM mT mHI mFC mLC mCg mTp mNx mFr mTk mVa mEn mKe mCs mAt mHd mWg mNow mImg mAsd mLea mLat mBst mRsk mTap mKys mKat mCod mWts mTes mStk mFct mSor mSiz mCel mHol mHoA mHoB mHoC mMov mTel) H → va_D A (rw_24 E mo mn mi ma ml mt mb mr mp mk mq mc mw mz ms mf mu mv mx mh mA mB mC mM mT mHI mFC mLC mCg mTp mNx mFr mTk mVa mEn mKe mCs mAt mHd mWg mNow mImg mAsd mLea mLat mBst mRsk mTap mKys mKat mCod mWts mTes mStk mFct mSor mSiz mCel mHol mHoA mHoB mHoC mMov mTel) → va_S A s.heap H locs → ∀ ls : Array Slot, lv_has ls 2 [(0, .ref mo)] → W p l e ({ frames := 2, cells := 0, slots := 0, locals := 42 } : Room) s m args below meth c H locs 0 0 QQ (F0 m 37 ls [.int y0]) := by
    intro y0 mNx mFr mTk mVa mEn mCs mAt mHd mCod h H locs hP hD hS ls hl
    unfold jp_X7_takesPart_37 at h
    refine lv_istore_n (lv' := [(1, .int y0), (0, .ref mo)]) hx hb dX7_takesPart_37 rfl hl (by decide) rfl (fun ls hl => ?_)
    refine lv_aload_n hx hb dX7_takesPart_38 rfl (lv_at hl 1 rfl) ?_
    refine va_get (D := E.1) (ci := 7) (v := .int mTk) (C := RX7) (T := TX7) (N := 39) hx hb hts n_X7 hown hK hP 0 rfl rfl 15 (by decide) k_196 (fun _ h9 => h9) rfl dX7_takesPart_39 ?_
    refine lv_iconst (v := 2) hx hb dX7_takesPart_42 (by decide) ?_
    refine lv_icmp_eq (tgt := 52) hx hb dX7_takesPart_43 (by decide) (fun c_12 => ?_) (fun c_12 => ?_)
    · have h := h.1 c_12
      exact J52 mNx mFr mTk mVa mEn mCs mAt mHd mCod h _ _ hP hD hS ls (lv_sub hl [1] rfl)
    · have h := h.2 c_12
      refine lv_iload_n hx hb dX7_takesPart_46 rfl (lv_at hl 0 rfl) ?_
      refine lv_if_ne (tgt := 52) hx hb dX7_takesPart_47 (by decide) (fun c_13 => ?_) (fun c_13 => ?_)
      · have h := h.1 c_13
        exact J52 mNx mFr mTk mVa mEn mCs mAt mHd mCod h _ _ hP hD hS ls (lv_sub hl [1] rfl)
      · have h := h.2 c_13
        refine lv_iconst (v := 0) hx hb dX7_takesPart_50 (by decide) ?_
        exact hret _ _ _ _ 0 (mNx, mFr, mTk, mVa, mEn, mCs, mAt, mHd, mCod) (by decide) h hP hD hS dX7_takesPart_51
  unfold wp_X7_takesPart at h
  obtain ⟨H, hH⟩ : ∃ H, H = s.heap := ⟨_, rfl⟩
  obtain ⟨locs, hlocs⟩ : ∃ locs : List Loc, locs = [] := ⟨_, rfl⟩
  have hP : va_P E.1 vwCl (rw_24 E mo mn mi ma ml mt mb mr mp mk mq mc mw mz ms mf mu mv mx mh mA mB mC mM mT mHI mFC mLC mCg mTp mNx mFr mTk mVa mEn mKe mCs mAt mHd mWg mNow mImg mAsd mLea mLat mBst mRsk mTap mKys mKat mCod mWts mTes mStk mFct mSor mSiz mCel mHol mHoA mHoB mHoC mMov mTel) H := by rw [hH]; exact hP
  have hS : va_S A s.heap H locs := by rw [hH, hlocs]; exact hS
  suffices hgo : W p l e ({ frames := 2, cells := 0, slots := 0, locals := 42 } : Room) s m args below meth c H locs 0 0 QQ (F0 m 0 ls []) from by rw [hH, hlocs] at hgo; exact hgo
  refine lv_aload_n hx hb dX7_takesPart_0 rfl (lv_at hl 0 rfl) ?_
  refine va_get (D := E.1) (ci := 7) (v := .int mTk) (C := RX7) (T := TX7) (N := 39) hx hb hts n_X7 hown hK hP 0 rfl rfl 15 (by decide) k_196 (fun _ h9 => h9) rfl dX7_takesPart_1 ?_
  refine lv_iconst (v := 1) hx hb dX7_takesPart_4 (by decide) ?_
  refine lv_icmp_ne (tgt := 36) hx hb dX7_takesPart_5 (by decide) (fun c_14 => ?_) (fun c_14 => ?_)
  · have h := h.1 c_14
    refine lv_iconst (v := 0) hx hb dX7_takesPart_36 (by decide) ?_
    exact J37 0 mNx mFr mTk mVa mEn mCs mAt mHd mCod h _ _ hP hD hS ls (lv_sub hl [0] rfl)
  · have h := h.2 c_14
    refine lv_aload_n hx hb dX7_takesPart_8 rfl (lv_at hl 0 rfl) ?_
    refine va_get (D := E.1) (ci := 7) (v := .int mNx) (C := RX7) (T := TX7) (N := 39) hx hb hts n_X7 hown hK hP 0 rfl rfl 13 (by decide) k_187 (fun _ h9 => h9) rfl dX7_takesPart_9 ?_
    refine lv_aload_n hx hb dX7_takesPart_12 rfl (lv_at hl 0 rfl) ?_
    refine va_get (D := E.1) (ci := 7) (v := .int mFr) (C := RX7) (T := TX7) (N := 39) hx hb hts n_X7 hown hK hP 0 rfl rfl 14 (by decide) k_190 (fun _ h9 => h9) rfl dX7_takesPart_13 ?_
    refine lv_isub hx hb dX7_takesPart_16 ?_
    refine lv_iconst (v := 1) hx hb dX7_takesPart_17 (by decide) ?_
    refine lv_icmp_ne (tgt := 36) hx hb dX7_takesPart_18 (by decide) (fun c_15 => ?_) (fun c_15 => ?_)
    · have h := h.1 c_15
      refine lv_iconst (v := 0) hx hb dX7_takesPart_36 (by decide) ?_
      exact J37 0 mNx mFr mTk mVa mEn mCs mAt mHd mCod h _ _ hP hD hS ls (lv_sub hl [0] rfl)
    · have h := h.2 c_15
      refine lv_aload_n hx hb dX7_takesPart_21 rfl (lv_at hl 0 rfl) ?_
      refine lv_aload_n hx hb dX7_takesPart_22 rfl (lv_at hl 0 rfl) ?_
      refine va_get (D := E.1) (ci := 7) (v := .int mVa) (C := RX7) (T := TX7) (N := 39) hx hb hts n_X7 hown hK hP 0 rfl rfl 16 (by decide) k_202 (fun _ h9 => h9) rfl dX7_takesPart_23 ?_
      have hPc := hP
      have hDc := hD
      have hFc := rc_freeI hD hS hA
      refine va_calli (va_runV (As := [.int mVa]) (rest := []) ⟨hx, hb, hml, hown, hts⟩ (c_X7_nameOf l E mo mn mi ma ml mt mb mr mp mk mq mc mw mz ms mf mu mv mx mh mA mB mC mM mT H.size mHI mFC mLC mCg mTp mNx mFr mTk mVa mEn mKe mCs mAt mHd mWg mNow mImg mAsd mLea mLat mBst mRsk mTap mKys mKat mCod mWts mTes mStk mFct mSor mSiz mCel mHol mHoA mHoB mHoC mMov mTel mVa _ h) (cwV 1 hts gX7_takesPart_X7_nameOf rfl rfl rfl (by decide +kernel) ⟨Nat.le_of_ble_eq_true rfl, Nat.le_of_ble_eq_true rfl⟩) ⟨fun a U g mk q => ⟨q.1, q.2.blind⟩, va_recv hK hPc (ci := 7) (q0 := 0) rfl rfl, fun U hU hW => ⟨rfl, by rw [hU], by rw [hU]; exact hPc, hE.call hS hFc hW hU, hDc.weaken (fun _ _ _ _ => trivial)⟩⟩ rfl rfl hl.1 rfl (lv_room (Nat.le_of_ble_eq_true rfl)) dX7_takesPart_26 ⟨Nat.zero_le _, Nat.zero_le _⟩) hS (fun q _ h => hFc q h) hFc (fun r_16 u t H1 locs ht hvm h hB hz1 hk1 hS => ?_)
      obtain ⟨hP1, hD1⟩ := hB
      rw [ht] at hP1
      have hP := hP1
      have hD := hD1.weaken (fun _ _ _ h => hFc _ h)
      generalize H1 = H at hP hS ⊢
      have hP : va_P E.1 vwCl (rw_24 E mo mn mi ma ml mt mb mr mp mk mq mc mw mz ms mf mu mv mx mh mA mB mC mM mT mHI mFC mLC mCg mTp mNx mFr mTk mVa mEn mKe mCs mAt mHd mWg mNow mImg mAsd mLea mLat mBst mRsk mTap mKys mKat mCod mWts mTes mStk mFct mSor mSiz mCel mHol mHoA mHoB mHoC mMov mTel) H := hP
      have hD : va_D A (rw_24 E mo mn mi ma ml mt mb mr mp mk mq mc mw mz ms mf mu mv mx mh mA mB mC mM mT mHI mFC mLC mCg mTp mNx mFr mTk mVa mEn mKe mCs mAt mHd mWg mNow mImg mAsd mLea mLat mBst mRsk mTap mKys mKat mCod mWts mTes mStk mFct mSor mSiz mCel mHol mHoA mHoB mHoC mMov mTel) := hD
      refine lv_if_lt (tgt := 36) hx hb dX7_takesPart_29 (by decide) (fun c_17 => ?_) (fun c_17 => ?_)
      · have h := h.1 c_17
        refine lv_iconst (v := 0) hx hb dX7_takesPart_36 (by decide) ?_
        exact J37 0 mNx mFr mTk mVa mEn mCs mAt mHd mCod h _ _ hP hD hS ls (lv_sub hl [0] rfl)
      · have h := h.2 c_17
        refine lv_iconst (v := 1) hx hb dX7_takesPart_32 (by decide) ?_
        refine lv_goto (tgt := 37) hx hb dX7_takesPart_33 (by decide) ?_
        exact J37 1 mNx mFr mTk mVa mEn mCs mAt mHd mCod h _ _ hP hD hS ls (lv_sub hl [0] rfl)
def lp_X7_notsOpen_4F (mHd : Int32) (mWts : Nat → Int32)  (Q : Int32 → Prop) (R : Int32 → Int32 → Prop) (x1 : Int32) (x2 : Int32) : Prop :=
  ((mHd ≤ x2 → Q x1) ∧ (¬ (mHd ≤ x2) → (vp_in x2 96 ∧ ((¬ (mWts x2.toNatClampNeg) = (-10) → R (x1 + 0) (x2 + 1)) ∧ ((mWts x2.toNatClampNeg) = (-10) → R (x1 + 1) (x2 + 1))))))
def lp_X7_notsOpen_4 (mHd : Int32) (mWts : Nat → Int32)  (Q : Int32 → Prop) (n : Nat) : Int32 → Int32 → Prop :=
  Nat.rec (motive := fun _ => Int32 → Int32 → Prop) (fun _ _ => False) (fun _ r => lp_X7_notsOpen_4F mHd mWts Q r) n
def wp_X7_notsOpen (mHd : Int32) (mWts : Nat → Int32) (Q : Int32 → Prop) : Prop :=
  (∃ n : Nat, lp_X7_notsOpen_4 mHd mWts Q n 0 0)
set_option maxHeartbeats 4000000 in
set_option maxRecDepth 100000 in
theorem c_X7_notsOpen (l : Launch) (E : gE) (mo mn mi ma ml mt mb mr mp mk mq mc mw mz ms mf mu mv mx mh mA mB mC mM mT : Nat) (sz : Nat) (mHI : Int32) (mFC : Int32) (mLC : Int32) (mCg : Int32) (mTp : Int32) (mNx : Int32) (mFr : Int32) (mTk : Int32) (mVa : Int32) (mEn : Int32) (mKe : Int32) (mCs : Int32) (mAt : Int32) (mHd : Int32) (mWg : Int32) (mNow : Nat → Int32) (mImg : Nat → Int32) (mAsd : Nat → Int32) (mLea : Nat → Int32) (mLat : Nat → Int32) (mBst : Nat → Int32) (mRsk : Nat → Int32) (mTap : Nat → Int32) (mKys : Nat → Int32) (mKat : Nat → Int32) (mCod : Nat → Int32) (mWts : Nat → Int32) (mTes : Nat → Int32) (mStk : Nat → Int32) (mFct : Nat → Int32) (mSor : Nat → Int32) (mSiz : Nat → Int32) (mCel : Nat → Int32) (mHol : Nat → Int32) (mHoA : Nat → Int32) (mHoB : Nat → Int32) (mHoC : Nat → Int32) (mMov : Nat → Int32) (mTel : Nat → Int32)   (Q : Int32 → Prop) (h : wp_X7_notsOpen mHd mWts Q) : Met l yX7_notsOpen wsX7_notsOpen ({ frames := 0, cells := 0, slots := 0, locals := 0 } : Room) (va_Pc [.ref mo] (rc_B E (rw_24 E mo mn mi ma ml mt mb mr mp mk mq mc mw mz ms mf mu mv mx mh mA mB mC mM mT mHI mFC mLC mCg mTp mNx mFr mTk mVa mEn mKe mCs mAt mHd mWg mNow mImg mAsd mLea mLat mBst mRsk mTap mKys mKat mCod mWts mTes mStk mFct mSor mSiz mCel mHol mHoA mHoB mHoC mMov mTel) sz)) (va_Qi (S := Unit) (fun (r : Int32) (u : Unit) => Q r) (fun u t => rc_C E (va_A (rw_24 E mo mn mi ma ml mt mb mr mp mk mq mc mw mz ms mf mu mv mx mh mA mB mC mM mT mHI mFC mLC mCg mTp mNx mFr mTk mVa mEn mKe mCs mAt mHd mWg mNow mImg mAsd mLea mLat mBst mRsk mTap mKys mKat mCod mWts mTes mStk mFct mSor mSiz mCel mHol mHoA mHoB mHoC mMov mTel) sz) (rw_24 E mo mn mi ma ml mt mb mr mp mk mq mc mw mz ms mf mu mv mx mh mA mB mC mM mT mHI mFC mLC mCg mTp mNx mFr mTk mVa mEn mKe mCs mAt mHd mWg mNow mImg mAsd mLea mLat mBst mRsk mTap mKys mKat mCod mWts mTes mStk mFct mSor mSiz mCel mHol mHoA mHoB mHoC mMov mTel) t) (va_A (rw_24 E mo mn mi ma ml mt mb mr mp mk mq mc mw mz ms mf mu mv mx mh mA mB mC mM mT mHI mFC mLC mCg mTp mNx mFr mTk mVa mEn mKe mCs mAt mHd mWg mNow mImg mAsd mLea mLat mBst mRsk mTap mKys mKat mCod mWts mTes mStk mFct mSor mSiz mCel mHol mHoA mHoB mHoC mMov mTel) sz)) 0 0 (va_A (rw_24 E mo mn mi ma ml mt mb mr mp mk mq mc mw mz ms mf mu mv mx mh mA mB mC mM mT mHI mFC mLC mCg mTp mNx mFr mTk mVa mEn mKe mCs mAt mHd mWg mNow mImg mAsd mLea mLat mBst mRsk mTap mKys mKat mCod mWts mTes mStk mFct mSor mSiz mCel mHol mHoA mHoB mHoC mMov mTel) sz) := by
  refine rc_enterI (cc := cX7_notsOpen) (maxL := 3) (by decide) rfl (Nat.le_of_ble_eq_true rfl) ?_
  intro p e s m args below meth c QQ A hx hb hml hown hts hmn hE hP hD hA hret ls hl
  have hown : s.vm.findClass RX7 = some m.cls := hown
  have hK := hE.1
  have hS : va_S A s.heap s.heap [] := va_S.rf
  have hl : lv_has ls 3 [(0, .ref mo)] := hl
  have n_X7 : ∀ w ∈ wsX70, w ∈ wsX7_notsOpen := fun _ h => List.mem_cons_of_mem _ (List.mem_append_right _ h)
  have k_214 := hts (.fieldLink RX7 214 "RidgeClapsModel" "held" "I") (List.mem_of_getElem? (i := 1) rfl)
  have k_44 := hts (.fieldLink RX7 44 "RidgeClapsModel" "waits" "[I") (List.mem_of_getElem? (i := 2) rfl)
  have J4 : ∀ (n : Nat) (x1 : Int32) (x2 : Int32), lp_X7_notsOpen_4 mHd mWts Q n x1 x2 → ∀ (H : Heap) (locs : List Loc), va_P E.1 vwCl (rw_24 E mo mn mi ma ml mt mb mr mp mk mq mc mw mz ms mf mu mv mx mh mA mB mC mM mT mHI mFC mLC mCg mTp mNx mFr mTk mVa mEn mKe mCs mAt mHd mWg mNow mImg mAsd mLea mLat mBst mRsk mTap mKys mKat mCod mWts mTes mStk mFct mSor mSiz mCel mHol mHoA mHoB mHoC mMov mTel) H → va_D A (rw_24 E mo mn mi ma ml mt mb mr mp mk mq mc mw mz ms mf mu mv mx mh mA mB mC mM mT mHI mFC mLC mCg mTp mNx mFr mTk mVa mEn mKe mCs mAt mHd mWg mNow mImg mAsd mLea mLat mBst mRsk mTap mKys mKat mCod mWts mTes mStk mFct mSor mSiz mCel mHol mHoA mHoB mHoC mMov mTel) → va_S A s.heap H locs → ∀ ls : Array Slot, lv_has ls 3 [(0, .ref mo), (1, .int x1), (2, .int x2)] → W p l e ({ frames := 0, cells := 0, slots := 0, locals := 0 } : Room) s m args below meth c H locs 0 0 QQ (F0 m 4 ls []) := by
    intro n
    induction n with
    | zero =>
      intro x1 x2 h
      exact False.elim h
    | succ n ih =>
      intro x1 x2 h H locs hP hD hS ls hl
      have h : lp_X7_notsOpen_4F mHd mWts Q (lp_X7_notsOpen_4 mHd mWts Q n) x1 x2 := h
      unfold lp_X7_notsOpen_4F at h
      refine lv_iload_n hx hb dX7_notsOpen_4 rfl (lv_at hl 2 rfl) ?_
      refine lv_aload_n hx hb dX7_notsOpen_5 rfl (lv_at hl 0 rfl) ?_
      refine va_get (D := E.1) (ci := 7) (v := .int mHd) (C := RX7) (T := TX7) (N := 39) hx hb hts n_X7 hown hK hP 0 rfl rfl 25 (by decide) k_214 (fun _ h9 => h9) rfl dX7_notsOpen_6 ?_
      refine lv_icmp_ge (tgt := 37) hx hb dX7_notsOpen_9 (by decide) (fun c_1 => ?_) (fun c_1 => ?_)
      · have h := h.1 c_1
        refine lv_iload_n hx hb dX7_notsOpen_37 rfl (lv_at hl 1 rfl) ?_
        exact hret _ _ _ _ x1 () rfl h hP hD hS dX7_notsOpen_38
      · have h := h.2 c_1
        refine lv_iload_n hx hb dX7_notsOpen_12 rfl (lv_at hl 1 rfl) ?_
        refine lv_aload_n hx hb dX7_notsOpen_13 rfl (lv_at hl 0 rfl) ?_
        refine va_get (D := E.1) (ci := 7) (v := .ref mw) (C := RX7) (T := TX7) (N := 39) hx hb hts n_X7 hown hK hP 0 rfl rfl 24 (by decide) k_44 (fun _ h9 => h9) rfl dX7_notsOpen_14 ?_
        refine lv_iload_n hx hb dX7_notsOpen_17 rfl (lv_at hl 2 rfl) ?_
        obtain ⟨o_2, h⟩ := h
        refine rc_iald hx hb hK hP 12 0 rfl rfl x2.toNatClampNeg rfl o_2 dX7_notsOpen_18 ?_
        refine lv_bipush (v := (-10)) hx hb dX7_notsOpen_19 (by decide) ?_
        refine lv_icmp_ne (tgt := 28) hx hb dX7_notsOpen_21 (by decide) (fun c_3 => ?_) (fun c_3 => ?_)
        · have h := h.1 c_3
          refine lv_iconst (v := 0) hx hb dX7_notsOpen_28 (by decide) ?_
          refine lv_iadd hx hb dX7_notsOpen_29 ?_
          refine lv_istore_n (lv' := [(1, .int (x1 + 0)), (0, .ref mo), (2, .int x2)]) hx hb dX7_notsOpen_30 rfl hl (by decide) rfl (fun ls hl => ?_)
          refine lv_iinc (v := x2 + 1) (lv' := [(2, .int (x2 + 1)), (1, .int (x1 + 0)), (0, .ref mo)]) hx hb dX7_notsOpen_31 hl (k := 2) rfl (by rfl) (by decide) rfl (fun ls hl => ?_)
          refine lv_goto (tgt := 4) hx hb dX7_notsOpen_34 (by decide) ?_
          exact ih (x1 + 0) (x2 + 1) h _ _ hP hD hS ls (lv_sub hl [2, 1, 0] rfl)
        · have h := h.2 c_3
          refine lv_iconst (v := 1) hx hb dX7_notsOpen_24 (by decide) ?_
          refine lv_goto (tgt := 29) hx hb dX7_notsOpen_25 (by decide) ?_
          refine lv_iadd hx hb dX7_notsOpen_29 ?_
          refine lv_istore_n (lv' := [(1, .int (x1 + 1)), (0, .ref mo), (2, .int x2)]) hx hb dX7_notsOpen_30 rfl hl (by decide) rfl (fun ls hl => ?_)
          refine lv_iinc (v := x2 + 1) (lv' := [(2, .int (x2 + 1)), (1, .int (x1 + 1)), (0, .ref mo)]) hx hb dX7_notsOpen_31 hl (k := 2) rfl (by rfl) (by decide) rfl (fun ls hl => ?_)
          refine lv_goto (tgt := 4) hx hb dX7_notsOpen_34 (by decide) ?_
          exact ih (x1 + 1) (x2 + 1) h _ _ hP hD hS ls (lv_sub hl [2, 1, 0] rfl)
  unfold wp_X7_notsOpen at h
  obtain ⟨H, hH⟩ : ∃ H, H = s.heap := ⟨_, rfl⟩
  obtain ⟨locs, hlocs⟩ : ∃ locs : List Loc, locs = [] := ⟨_, rfl⟩
  have hP : va_P E.1 vwCl (rw_24 E mo mn mi ma ml mt mb mr mp mk mq mc mw mz ms mf mu mv mx mh mA mB mC mM mT mHI mFC mLC mCg mTp mNx mFr mTk mVa mEn mKe mCs mAt mHd mWg mNow mImg mAsd mLea mLat mBst mRsk mTap mKys mKat mCod mWts mTes mStk mFct mSor mSiz mCel mHol mHoA mHoB mHoC mMov mTel) H := by rw [hH]; exact hP
  have hS : va_S A s.heap H locs := by rw [hH, hlocs]; exact hS
  suffices hgo : W p l e ({ frames := 0, cells := 0, slots := 0, locals := 0 } : Room) s m args below meth c H locs 0 0 QQ (F0 m 0 ls []) from by rw [hH, hlocs] at hgo; exact hgo
  refine lv_iconst (v := 0) hx hb dX7_notsOpen_0 (by decide) ?_
  refine lv_istore_n (lv' := [(1, .int 0), (0, .ref mo)]) hx hb dX7_notsOpen_1 rfl hl (by decide) rfl (fun ls hl => ?_)
  refine lv_iconst (v := 0) hx hb dX7_notsOpen_2 (by decide) ?_
  refine lv_istore_n (lv' := [(2, .int 0), (1, .int 0), (0, .ref mo)]) hx hb dX7_notsOpen_3 rfl hl (by decide) rfl (fun ls hl => ?_)
  obtain ⟨n, h⟩ := h
  exact J4 n 0 0 h _ _ hP hD hS ls (lv_sub hl [2, 1, 0] rfl)
def jp_X7_takesE_305 (mTp : Int32) (mTap : Nat → Int32) (K28 : Int32 → Int32 → Int32 → Int32 → Int32 → Int32 → Int32 → Int32 → Int32 → Int32 → Int32 → (Nat → Int32) → (Nat → Int32) → (Nat → Int32) → Prop)  (x1 : Int32) (x2 : Int32) (x4 : Int32) (y0 : Int32) (y1 : Int32) (mNx : Int32) (mFr : Int32) (mTk : Int32) (mVa : Int32) (mEn : Int32) (mCs : Int32) (mAt : Int32) (mHd : Int32) (mCod : Nat → Int32) (mWts : Nat → Int32) (mTes : Nat → Int32) : Prop :=
  (vp_in y1 10 ∧ (vp_nar .boolean y0 = y0 ∧ wp_X7_rank x4 (fun (r_3 : Int32) => wp_X7_settle r_3 mCs mHd mCod mWts (fun (w_4 : Int32) (w_5 : Int32) (w_6 : Nat → Int32) => (vp_in w_5 96 ∧ wp_X7_go mTp mNx mFr mTk mVa mEn mTap (fun (w_8 : Int32) (w_9 : Int32) (w_10 : Int32) (w_11 : Int32) (w_12 : Int32) => K28 x1 x2 1 w_8 w_9 w_10 w_11 w_12 w_4 mAt (w_5 + 1) w_6 (upd mWts w_5.toNatClampNeg x4) (upd mTes y1.toNatClampNeg y0)))))))
def jp_X7_takesE_268 (mTp : Int32) (mTap : Nat → Int32) (K28 : Int32 → Int32 → Int32 → Int32 → Int32 → Int32 → Int32 → Int32 → Int32 → Int32 → Int32 → (Nat → Int32) → (Nat → Int32) → (Nat → Int32) → Prop)  (x1 : Int32) (x2 : Int32) (x4 : Int32) (mNx : Int32) (mFr : Int32) (mTk : Int32) (mVa : Int32) (mEn : Int32) (mCs : Int32) (mAt : Int32) (mHd : Int32) (mCod : Nat → Int32) (mWts : Nat → Int32) (mTes : Nat → Int32) : Prop :=
  wp_X7_rank x4 (fun (r_13 : Int32) => ((r_13 = 3 → jp_X7_takesE_305 mTp mTap K28 x1 x2 x4 1 x1 mNx mFr mTk mVa mEn mCs mAt mHd mCod mWts mTes) ∧ (¬ (r_13 = 3) → wp_X7_rank x4 (fun (r_15 : Int32) => ((r_15 ≤ 3 → jp_X7_takesE_305 mTp mTap K28 x1 x2 x4 0 x1 mNx mFr mTk mVa mEn mCs mAt mHd mCod mWts mTes) ∧ (¬ (r_15 ≤ 3) → (vp_in x1 10 ∧ (((mTes x1.toNatClampNeg) = 0 → jp_X7_takesE_305 mTp mTap K28 x1 x2 x4 0 x1 mNx mFr mTk mVa mEn mCs mAt mHd mCod mWts mTes) ∧ (¬ ((mTes x1.toNatClampNeg) = 0) → jp_X7_takesE_305 mTp mTap K28 x1 x2 x4 1 x1 mNx mFr mTk mVa mEn mCs mAt mHd mCod mWts mTes)))))))))
def jp_X7_takesE_237 (mTp : Int32) (mTap : Nat → Int32) (K28 : Int32 → Int32 → Int32 → Int32 → Int32 → Int32 → Int32 → Int32 → Int32 → Int32 → Int32 → (Nat → Int32) → (Nat → Int32) → (Nat → Int32) → Prop) (Q : Int32 → Int32 → Int32 → Int32 → Int32 → Int32 → Int32 → Int32 → Int32 → (Nat → Int32) → (Nat → Int32) → (Nat → Int32) → Prop) (x1 : Int32) (x2 : Int32) (mNx : Int32) (mFr : Int32) (mTk : Int32) (mVa : Int32) (mEn : Int32) (mCs : Int32) (mAt : Int32) (mHd : Int32) (mCod : Nat → Int32) (mWts : Nat → Int32) (mTes : Nat → Int32) : Prop :=
  wp_X7_signHere mTk mVa (fun (r_19 : Int32) => ((r_19 = 0 → Q 0 mNx mFr mTk mVa mEn mCs mAt mHd mCod mWts mTes) ∧ (¬ (r_19 = 0) → wp_X7_rank r_19 (fun (r_21 : Int32) => ((¬ r_21 = 3 → jp_X7_takesE_268 mTp mTap K28 x1 x2 r_19 mNx mFr mTk mVa mEn mCs mAt mHd mCod mWts mTes) ∧ (r_21 = 3 → (vp_in x1 10 ∧ (((mTes x1.toNatClampNeg) = 0 → jp_X7_takesE_268 mTp mTap K28 x1 x2 r_19 mNx mFr mTk mVa mEn mCs mAt mHd mCod mWts mTes) ∧ (¬ ((mTes x1.toNatClampNeg) = 0) → Q 0 mNx mFr mTk mVa mEn mCs mAt mHd mCod mWts mTes)))))))))
def jp_X7_takesE_158 (mTp : Int32) (mKe : Int32) (mTap : Nat → Int32) (K28 : Int32 → Int32 → Int32 → Int32 → Int32 → Int32 → Int32 → Int32 → Int32 → Int32 → Int32 → (Nat → Int32) → (Nat → Int32) → (Nat → Int32) → Prop) (Q : Int32 → Int32 → Int32 → Int32 → Int32 → Int32 → Int32 → Int32 → Int32 → (Nat → Int32) → (Nat → Int32) → (Nat → Int32) → Prop) (x1 : Int32) (mNx : Int32) (mFr : Int32) (mTk : Int32) (mVa : Int32) (mEn : Int32) (mCs : Int32) (mAt : Int32) (mHd : Int32) (mCod : Nat → Int32) (mWts : Nat → Int32) (mTes : Nat → Int32) : Prop :=
  wp_X7_takesPart mTp mNx mFr mTk mVa mEn mKe mCs mAt mHd mTap mCod mWts (fun (r_25 : Int32) (w_26 : Int32) (w_27 : Int32) (w_28 : Int32) (w_29 : Int32) (w_30 : Int32) (w_31 : Int32) (w_32 : Int32) (w_33 : Int32) (w_34 : Nat → Int32) => ((r_25 = 0 → Q 0 w_26 w_27 w_28 w_29 w_30 w_31 w_32 w_33 w_34 mWts mTes) ∧ (¬ (r_25 = 0) → wp_X7_notsOpen w_33 mWts (fun (r_36 : Int32) => K28 x1 r_36 0 w_26 w_27 w_28 w_29 w_30 w_31 w_32 w_33 w_34 mWts mTes))))
def jp_X7_takesE_97 (mTp : Int32) (mKe : Int32) (mTap : Nat → Int32) (K28 : Int32 → Int32 → Int32 → Int32 → Int32 → Int32 → Int32 → Int32 → Int32 → Int32 → Int32 → (Nat → Int32) → (Nat → Int32) → (Nat → Int32) → Prop) (Q : Int32 → Int32 → Int32 → Int32 → Int32 → Int32 → Int32 → Int32 → Int32 → (Nat → Int32) → (Nat → Int32) → (Nat → Int32) → Prop) (x1 : Int32) (x3 : Int32) (mNx : Int32) (mFr : Int32) (mTk : Int32) (mVa : Int32) (mEn : Int32) (mCs : Int32) (mAt : Int32) (mHd : Int32) (mCod : Nat → Int32) (mWts : Nat → Int32) (mTes : Nat → Int32) : Prop :=
  ((¬ mTk = 3 → jp_X7_takesE_158 mTp mKe mTap K28 Q x1 mNx mFr mTk mVa mEn mCs mAt mHd mCod mWts mTes) ∧ (mTk = 3 → ((¬ mVa = 40 → jp_X7_takesE_158 mTp mKe mTap K28 Q x1 mNx mFr mTk mVa mEn mCs mAt mHd mCod mWts mTes) ∧ (mVa = 40 → ((8 ≤ x1 → jp_X7_takesE_158 mTp mKe mTap K28 Q x1 mNx mFr mTk mVa mEn mCs mAt mHd mCod mWts mTes) ∧ (¬ (8 ≤ x1) → (vp_in mHd 96 ∧ (vp_in (x1 + 1) 10 ∧ wp_X7_go mTp mNx mFr mTk mVa mEn mTap (fun (w_42 : Int32) (w_43 : Int32) (w_44 : Int32) (w_45 : Int32) (w_46 : Int32) => wp_X7_notsOpen (mHd + 1) (upd mWts mHd.toNatClampNeg (-11)) (fun (r_47 : Int32) => K28 (x1 + 1) r_47 x3 w_42 w_43 w_44 w_45 w_46 mCs mAt (mHd + 1) mCod (upd mWts mHd.toNatClampNeg (-11)) (upd mTes ((x1 + 1).toNatClampNeg) 0)))))))))))
def jp_X7_takesE_39 (mTp : Int32) (mKe : Int32) (mTap : Nat → Int32) (K28 : Int32 → Int32 → Int32 → Int32 → Int32 → Int32 → Int32 → Int32 → Int32 → Int32 → Int32 → (Nat → Int32) → (Nat → Int32) → (Nat → Int32) → Prop) (Q : Int32 → Int32 → Int32 → Int32 → Int32 → Int32 → Int32 → Int32 → Int32 → (Nat → Int32) → (Nat → Int32) → (Nat → Int32) → Prop) (x1 : Int32) (x2 : Int32) (x3 : Int32) (mNx : Int32) (mFr : Int32) (mTk : Int32) (mVa : Int32) (mEn : Int32) (mCs : Int32) (mAt : Int32) (mHd : Int32) (mCod : Nat → Int32) (mWts : Nat → Int32) (mTes : Nat → Int32) : Prop :=
  ((x3 = 0 → ((¬ mTk = 3 → jp_X7_takesE_237 mTp mTap K28 Q x1 x2 mNx mFr mTk mVa mEn mCs mAt mHd mCod mWts mTes) ∧ (mTk = 3 → ((¬ mVa = 41 → jp_X7_takesE_237 mTp mTap K28 Q x1 x2 mNx mFr mTk mVa mEn mCs mAt mHd mCod mWts mTes) ∧ (mVa = 41 → ((x1 ≤ 0 → jp_X7_takesE_237 mTp mTap K28 Q x1 x2 mNx mFr mTk mVa mEn mCs mAt mHd mCod mWts mTes) ∧ (¬ (x1 ≤ 0) → wp_X7_settle 0 mCs mHd mCod mWts (fun (w_52 : Int32) (w_53 : Int32) (w_54 : Nat → Int32) => wp_X7_settle 6 w_52 (w_53 - 1) w_54 mWts (fun (w_55 : Int32) (w_56 : Int32) (w_57 : Nat → Int32) => wp_X7_notsOpen w_56 mWts (fun (r_58 : Int32) => wp_X7_go mTp mNx mFr mTk mVa mEn mTap (fun (w_59 : Int32) (w_60 : Int32) (w_61 : Int32) (w_62 : Int32) (w_63 : Int32) => K28 (x1 + (-1)) r_58 x3 w_59 w_60 w_61 w_62 w_63 w_55 mAt w_56 w_57 mWts mTes))))))))))) ∧ (¬ (x3 = 0) → ((¬ mTk = 3 → jp_X7_takesE_97 mTp mKe mTap K28 Q x1 x3 mNx mFr mTk mVa mEn mCs mAt mHd mCod mWts mTes) ∧ (mTk = 3 → ((¬ mVa = 33 → jp_X7_takesE_97 mTp mKe mTap K28 Q x1 x3 mNx mFr mTk mVa mEn mCs mAt mHd mCod mWts mTes) ∧ (mVa = 33 → ((8 ≤ x2 → jp_X7_takesE_97 mTp mKe mTap K28 Q x1 x3 mNx mFr mTk mVa mEn mCs mAt mHd mCod mWts mTes) ∧ (¬ (8 ≤ x2) → (vp_in mHd 96 ∧ wp_X7_go mTp mNx mFr mTk mVa mEn mTap (fun (w_68 : Int32) (w_69 : Int32) (w_70 : Int32) (w_71 : Int32) (w_72 : Int32) => wp_X7_notsOpen (mHd + 1) (upd mWts mHd.toNatClampNeg (-10)) (fun (r_73 : Int32) => K28 x1 r_73 x3 w_68 w_69 w_70 w_71 w_72 mCs mAt (mHd + 1) mCod (upd mWts mHd.toNatClampNeg (-10)) mTes)))))))))))
def lp_X7_takesE_28F (mTp : Int32) (mKe : Int32) (mTap : Nat → Int32)  (Q : Int32 → Int32 → Int32 → Int32 → Int32 → Int32 → Int32 → Int32 → Int32 → (Nat → Int32) → (Nat → Int32) → (Nat → Int32) → Prop) (R : Int32 → Int32 → Int32 → Int32 → Int32 → Int32 → Int32 → Int32 → Int32 → Int32 → Int32 → (Nat → Int32) → (Nat → Int32) → (Nat → Int32) → Prop) (x1 : Int32) (x2 : Int32) (x3 : Int32) (mNx : Int32) (mFr : Int32) (mTk : Int32) (mVa : Int32) (mEn : Int32) (mCs : Int32) (mAt : Int32) (mHd : Int32) (mCod : Nat → Int32) (mWts : Nat → Int32) (mTes : Nat → Int32) : Prop :=
  ((¬ x3 = 0 → jp_X7_takesE_39 mTp mKe mTap R Q x1 x2 x3 mNx mFr mTk mVa mEn mCs mAt mHd mCod mWts mTes) ∧ (x3 = 0 → ((mTk = 0 → wp_X7_settle 0 mCs mHd mCod mWts (fun (w_76 : Int32) (w_77 : Int32) (w_78 : Nat → Int32) => ((¬ x1 = 0 → Q 0 mNx mFr mTk mVa mEn w_76 mAt w_77 w_78 mWts mTes) ∧ (x1 = 0 → Q 1 mNx mFr mTk mVa mEn w_76 mAt w_77 w_78 mWts mTes)))) ∧ (¬ (mTk = 0) → jp_X7_takesE_39 mTp mKe mTap R Q x1 x2 x3 mNx mFr mTk mVa mEn mCs mAt mHd mCod mWts mTes))))
def lp_X7_takesE_28 (mTp : Int32) (mKe : Int32) (mTap : Nat → Int32)  (Q : Int32 → Int32 → Int32 → Int32 → Int32 → Int32 → Int32 → Int32 → Int32 → (Nat → Int32) → (Nat → Int32) → (Nat → Int32) → Prop) (n : Nat) : Int32 → Int32 → Int32 → Int32 → Int32 → Int32 → Int32 → Int32 → Int32 → Int32 → Int32 → (Nat → Int32) → (Nat → Int32) → (Nat → Int32) → Prop :=
  Nat.rec (motive := fun _ => Int32 → Int32 → Int32 → Int32 → Int32 → Int32 → Int32 → Int32 → Int32 → Int32 → Int32 → (Nat → Int32) → (Nat → Int32) → (Nat → Int32) → Prop) (fun _ _ _ _ _ _ _ _ _ _ _ _ _ _ => False) (fun _ r => lp_X7_takesE_28F mTp mKe mTap Q r) n
def wp_X7_takesE (mTp : Int32) (mNx : Int32) (mFr : Int32) (mTk : Int32) (mVa : Int32) (mEn : Int32) (mKe : Int32) (mTap : Nat → Int32) (mCod : Nat → Int32) (mWts : Nat → Int32) (mTes : Nat → Int32) (Q : Int32 → Int32 → Int32 → Int32 → Int32 → Int32 → Int32 → Int32 → Int32 → (Nat → Int32) → (Nat → Int32) → (Nat → Int32) → Prop) : Prop :=
  (∃ n : Nat, lp_X7_takesE_28 mTp mKe mTap Q n 0 0 1 mNx mFr mTk mVa mEn 0 0 0 mCod mWts (upd mTes 0 0))
set_option maxHeartbeats 4000000 in
set_option maxRecDepth 100000 in
theorem c_X7_takesE (l : Launch) (E : gE) (mo mn mi ma ml mt mb mr mp mk mq mc mw mz ms mf mu mv mx mh mA mB mC mM mT : Nat) (sz : Nat) (mHI : Int32) (mFC : Int32) (mLC : Int32) (mCg : Int32) (mTp : Int32) (mNx : Int32) (mFr : Int32) (mTk : Int32) (mVa : Int32) (mEn : Int32) (mKe : Int32) (mCs : Int32) (mAt : Int32) (mHd : Int32) (mWg : Int32) (mNow : Nat → Int32) (mImg : Nat → Int32) (mAsd : Nat → Int32) (mLea : Nat → Int32) (mLat : Nat → Int32) (mBst : Nat → Int32) (mRsk : Nat → Int32) (mTap : Nat → Int32) (mKys : Nat → Int32) (mKat : Nat → Int32) (mCod : Nat → Int32) (mWts : Nat → Int32) (mTes : Nat → Int32) (mStk : Nat → Int32) (mFct : Nat → Int32) (mSor : Nat → Int32) (mSiz : Nat → Int32) (mCel : Nat → Int32) (mHol : Nat → Int32) (mHoA : Nat → Int32) (mHoB : Nat → Int32) (mHoC : Nat → Int32) (mMov : Nat → Int32) (mTel : Nat → Int32)   (Q : Int32 → Int32 → Int32 → Int32 → Int32 → Int32 → Int32 → Int32 → Int32 → (Nat → Int32) → (Nat → Int32) → (Nat → Int32) → Prop) (h : wp_X7_takesE mTp mNx mFr mTk mVa mEn mKe mTap mCod mWts mTes Q) : Met l yX7_takesE wsX7_takesE ({ frames := 3, cells := 0, slots := 0, locals := 63 } : Room) (va_Pc [.ref mo] (rc_B E (rw_24 E mo mn mi ma ml mt mb mr mp mk mq mc mw mz ms mf mu mv mx mh mA mB mC mM mT mHI mFC mLC mCg mTp mNx mFr mTk mVa mEn mKe mCs mAt mHd mWg mNow mImg mAsd mLea mLat mBst mRsk mTap mKys mKat mCod mWts mTes mStk mFct mSor mSiz mCel mHol mHoA mHoB mHoC mMov mTel) sz)) (va_Qi (S := Int32 × Int32 × Int32 × Int32 × Int32 × Int32 × Int32 × Int32 × (Nat → Int32) × (Nat → Int32) × (Nat → Int32)) (fun (r : Int32) (u : Int32 × Int32 × Int32 × Int32 × Int32 × Int32 × Int32 × Int32 × (Nat → Int32) × (Nat → Int32) × (Nat → Int32)) => Q r u.1 u.2.1 u.2.2.1 u.2.2.2.1 u.2.2.2.2.1 u.2.2.2.2.2.1 u.2.2.2.2.2.2.1 u.2.2.2.2.2.2.2.1 u.2.2.2.2.2.2.2.2.1 u.2.2.2.2.2.2.2.2.2.1 u.2.2.2.2.2.2.2.2.2.2) (fun u t => rc_C E (va_A (rw_24 E mo mn mi ma ml mt mb mr mp mk mq mc mw mz ms mf mu mv mx mh mA mB mC mM mT mHI mFC mLC mCg mTp mNx mFr mTk mVa mEn mKe mCs mAt mHd mWg mNow mImg mAsd mLea mLat mBst mRsk mTap mKys mKat mCod mWts mTes mStk mFct mSor mSiz mCel mHol mHoA mHoB mHoC mMov mTel) sz) (rw_24 E mo mn mi ma ml mt mb mr mp mk mq mc mw mz ms mf mu mv mx mh mA mB mC mM mT mHI mFC mLC mCg mTp u.1 u.2.1 u.2.2.1 u.2.2.2.1 u.2.2.2.2.1 mKe u.2.2.2.2.2.1 u.2.2.2.2.2.2.1 u.2.2.2.2.2.2.2.1 mWg mNow mImg mAsd mLea mLat mBst mRsk mTap mKys mKat u.2.2.2.2.2.2.2.2.1 u.2.2.2.2.2.2.2.2.2.1 u.2.2.2.2.2.2.2.2.2.2 mStk mFct mSor mSiz mCel mHol mHoA mHoB mHoC mMov mTel) t) (va_A (rw_24 E mo mn mi ma ml mt mb mr mp mk mq mc mw mz ms mf mu mv mx mh mA mB mC mM mT mHI mFC mLC mCg mTp mNx mFr mTk mVa mEn mKe mCs mAt mHd mWg mNow mImg mAsd mLea mLat mBst mRsk mTap mKys mKat mCod mWts mTes mStk mFct mSor mSiz mCel mHol mHoA mHoB mHoC mMov mTel) sz)) 0 0 (va_A (rw_24 E mo mn mi ma ml mt mb mr mp mk mq mc mw mz ms mf mu mv mx mh mA mB mC mM mT mHI mFC mLC mCg mTp mNx mFr mTk mVa mEn mKe mCs mAt mHd mWg mNow mImg mAsd mLea mLat mBst mRsk mTap mKys mKat mCod mWts mTes mStk mFct mSor mSiz mCel mHol mHoA mHoB mHoC mMov mTel) sz) := by
  refine rc_enterI (cc := cX7_takesE) (maxL := 5) (by decide) rfl (Nat.le_of_ble_eq_true rfl) ?_
  intro p e s m args below meth c QQ A hx hb hml hown hts hmn hE hP hD hA hret ls hl
  have hown : s.vm.findClass RX7 = some m.cls := hown
  have hK := hE.1
  have hS : va_S A s.heap s.heap [] := va_S.rf
  have hl : lv_has ls 5 [(0, .ref mo)] := hl
  have n_X7 : ∀ w ∈ wsX70, w ∈ wsX7_takesE := fun _ h => List.mem_cons_of_mem _ (List.mem_append_right _ h)
  have k_44 := hts (.fieldLink RX7 44 "RidgeClapsModel" "waits" "[I") (List.mem_of_getElem? (i := 7) rfl)
  have k_214 := hts (.fieldLink RX7 214 "RidgeClapsModel" "held" "I") (List.mem_of_getElem? (i := 3) rfl)
  have k_47 := hts (.fieldLink RX7 47 "RidgeClapsModel" "tested" "[Z") (List.mem_of_getElem? (i := 4) rfl)
  have k_196 := hts (.fieldLink RX7 196 "RidgeClapsModel" "token" "I") (List.mem_of_getElem? (i := 5) rfl)
  have k_202 := hts (.fieldLink RX7 202 "RidgeClapsModel" "value" "I") (List.mem_of_getElem? (i := 6) rfl)
  have k_220 := hts (.fieldLink RX7 220 "RidgeClapsModel" "codes" "I") (List.mem_of_getElem? (i := 1) rfl)
  have k_226 := hts (.fieldLink RX7 226 "RidgeClapsModel" "atoms" "I") (List.mem_of_getElem? (i := 2) rfl)
  have J305 : ∀ (K28 : Int32 → Int32 → Int32 → Int32 → Int32 → Int32 → Int32 → Int32 → Int32 → Int32 → Int32 → (Nat → Int32) → (Nat → Int32) → (Nat → Int32) → Prop), (∀ (x1 : Int32) (x2 : Int32) (x3 : Int32) (mNx : Int32) (mFr : Int32) (mTk : Int32) (mVa : Int32) (mEn : Int32) (mCs : Int32) (mAt : Int32) (mHd : Int32) (mCod : Nat → Int32) (mWts : Nat → Int32) (mTes : Nat → Int32), K28 x1 x2 x3 mNx mFr mTk mVa mEn mCs mAt mHd mCod mWts mTes → ∀ (H : Heap) (locs : List Loc), va_P E.1 vwCl (rw_24 E mo mn mi ma ml mt mb mr mp mk mq mc mw mz ms mf mu mv mx mh mA mB mC mM mT mHI mFC mLC mCg mTp mNx mFr mTk mVa mEn mKe mCs mAt mHd mWg mNow mImg mAsd mLea mLat mBst mRsk mTap mKys mKat mCod mWts mTes mStk mFct mSor mSiz mCel mHol mHoA mHoB mHoC mMov mTel) H → va_D A (rw_24 E mo mn mi ma ml mt mb mr mp mk mq mc mw mz ms mf mu mv mx mh mA mB mC mM mT mHI mFC mLC mCg mTp mNx mFr mTk mVa mEn mKe mCs mAt mHd mWg mNow mImg mAsd mLea mLat mBst mRsk mTap mKys mKat mCod mWts mTes mStk mFct mSor mSiz mCel mHol mHoA mHoB mHoC mMov mTel) → va_S A s.heap H locs → ∀ ls : Array Slot, lv_has ls 5 [(0, .ref mo), (1, .int x1), (2, .int x2), (3, .int x3)] → W p l e ({ frames := 3, cells := 0, slots := 0, locals := 63 } : Room) s m args below meth c H locs 0 0 QQ (F0 m 28 ls [])) → ∀ (x1 : Int32) (x2 : Int32) (x4 : Int32) (y0 : Int32) (y1 : Int32) (mNx : Int32) (mFr : Int32) (mTk : Int32) (mVa : Int32) (mEn : Int32) (mCs : Int32) (mAt : Int32) (mHd : Int32) (mCod : Nat → Int32) (mWts : Nat → Int32) (mTes : Nat → Int32), jp_X7_takesE_305 mTp mTap K28 x1 x2 x4 y0 y1 mNx mFr mTk mVa mEn mCs mAt mHd mCod mWts mTes → ∀ (H : Heap) (locs : List Loc), va_P E.1 vwCl (rw_24 E mo mn mi ma ml mt mb mr mp mk mq mc mw mz ms mf mu mv mx mh mA mB mC mM mT mHI mFC mLC mCg mTp mNx mFr mTk mVa mEn mKe mCs mAt mHd mWg mNow mImg mAsd mLea mLat mBst mRsk mTap mKys mKat mCod mWts mTes mStk mFct mSor mSiz mCel mHol mHoA mHoB mHoC mMov mTel) H → va_D A (rw_24 E mo mn mi ma ml mt mb mr mp mk mq mc mw mz ms mf mu mv mx mh mA mB mC mM mT mHI mFC mLC mCg mTp mNx mFr mTk mVa mEn mKe mCs mAt mHd mWg mNow mImg mAsd mLea mLat mBst mRsk mTap mKys mKat mCod mWts mTes mStk mFct mSor mSiz mCel mHol mHoA mHoB mHoC mMov mTel) → va_S A s.heap H locs → ∀ ls : Array Slot, lv_has ls 5 [(0, .ref mo), (1, .int x1), (2, .int x2), (4, .int x4)] → W p l e ({ frames := 3, cells := 0, slots := 0, locals := 63 } : Room) s m args below meth c H locs 0 0 QQ (F0 m 305 ls [.int y0, .int y1, .ref mz]) := by
    intro K28 hK28
    intro x1 x2 x4 y0 y1 mNx mFr mTk mVa mEn mCs mAt mHd mCod mWts mTes h H locs hP hD hS ls hl
    unfold jp_X7_takesE_305 at h
    obtain ⟨o_1, h⟩ := h
    obtain ⟨b_2, h⟩ := h
    refine rc_zast hx hb hK hP hD hS 13 2 rfl rfl y1.toNatClampNeg rfl b_2 o_1 dX7_takesE_305 (fun H locs hP hD hS => ?_)
    have hP : va_P E.1 vwCl (rw_24 E mo mn mi ma ml mt mb mr mp mk mq mc mw mz ms mf mu mv mx mh mA mB mC mM mT mHI mFC mLC mCg mTp mNx mFr mTk mVa mEn mKe mCs mAt mHd mWg mNow mImg mAsd mLea mLat mBst mRsk mTap mKys mKat mCod mWts (upd mTes y1.toNatClampNeg y0) mStk mFct mSor mSiz mCel mHol mHoA mHoB mHoC mMov mTel) H := hP
    have hD : va_D A (rw_24 E mo mn mi ma ml mt mb mr mp mk mq mc mw mz ms mf mu mv mx mh mA mB mC mM mT mHI mFC mLC mCg mTp mNx mFr mTk mVa mEn mKe mCs mAt mHd mWg mNow mImg mAsd mLea mLat mBst mRsk mTap mKys mKat mCod mWts (upd mTes y1.toNatClampNeg y0) mStk mFct mSor mSiz mCel mHol mHoA mHoB mHoC mMov mTel) := hD
    refine lv_aload_n hx hb dX7_takesE_306 rfl (lv_at hl 0 rfl) ?_
    refine lv_iload hx hb dX7_takesE_307 (lv_at hl 3 rfl) ?_
    have hPc := hP.sub (ws' := []) [] rfl
    have hDc := hD.sub (ws' := []) [] (by decide) rfl
    have hFc := va_free (wc := []) hD hS hA [] rfl
    refine va_calli (va_runS (As := [.int x4]) (rest := [.ref mo]) ⟨hx, hb, hml, hown, hts⟩ (c_X7_rank l E H.size x4 _ h) (va_cwS 1 hts gX7_takesE_X7_rank rfl rfl rfl (by decide +kernel) ⟨Nat.le_of_ble_eq_true rfl, Nat.le_of_ble_eq_true rfl⟩) ⟨fun a U g mk q => ⟨q.1, q.2.blind⟩, fun U hU hW => ⟨rfl, by rw [hU], by rw [hU]; exact hPc, hE.call hS hFc hW hU, hDc.weaken (fun _ _ _ _ => trivial)⟩⟩ rfl rfl hl.1 rfl (lv_room (Nat.le_of_ble_eq_true rfl)) dX7_takesE_309 ⟨Nat.zero_le _, Nat.zero_le _⟩) hS (fun q _ h => hFc q h) hFc (fun r_3 u t H1 locs ht hvm h hB hz1 hk1 hS => ?_)
    obtain ⟨hP1, hD1⟩ := hB
    rw [ht] at hP1
    obtain ⟨hP, hD⟩ := rc_foc hP hD [] [none, none, none, none, none, none, none, none, none, none, none, none, none, none, none, none, none, none, none, none, none, none, none, none, none] (by decide) rfl hk1 hP1 rfl
    generalize H1 = H at hP hS ⊢
    have hP : va_P E.1 vwCl (rw_24 E mo mn mi ma ml mt mb mr mp mk mq mc mw mz ms mf mu mv mx mh mA mB mC mM mT mHI mFC mLC mCg mTp mNx mFr mTk mVa mEn mKe mCs mAt mHd mWg mNow mImg mAsd mLea mLat mBst mRsk mTap mKys mKat mCod mWts (upd mTes y1.toNatClampNeg y0) mStk mFct mSor mSiz mCel mHol mHoA mHoB mHoC mMov mTel) H := hP
    have hD : va_D A (rw_24 E mo mn mi ma ml mt mb mr mp mk mq mc mw mz ms mf mu mv mx mh mA mB mC mM mT mHI mFC mLC mCg mTp mNx mFr mTk mVa mEn mKe mCs mAt mHd mWg mNow mImg mAsd mLea mLat mBst mRsk mTap mKys mKat mCod mWts (upd mTes y1.toNatClampNeg y0) mStk mFct mSor mSiz mCel mHol mHoA mHoB mHoC mMov mTel) := hD
    have hPc := hP
    have hDc := hD
    have hFc := rc_freeI hD hS hA
    refine va_callv (va_runV (As := [.int r_3]) (rest := []) ⟨hx, hb, hml, hown, hts⟩ (c_X7_settle l E mo mn mi ma ml mt mb mr mp mk mq mc mw mz ms mf mu mv mx mh mA mB mC mM mT H.size mHI mFC mLC mCg mTp mNx mFr mTk mVa mEn mKe mCs mAt mHd mWg mNow mImg mAsd mLea mLat mBst mRsk mTap mKys mKat mCod mWts (upd mTes y1.toNatClampNeg y0) mStk mFct mSor mSiz mCel mHol mHoA mHoB mHoC mMov mTel r_3 _ h) (cwV 1 hts gX7_takesE_X7_settle rfl rfl rfl (by decide +kernel) ⟨Nat.le_of_ble_eq_true rfl, Nat.le_of_ble_eq_true rfl⟩) ⟨fun a U g mk q => ⟨q.1, q.2.blind⟩, va_recv hK hPc (ci := 7) (q0 := 0) rfl rfl, fun U hU hW => ⟨rfl, by rw [hU], by rw [hU]; exact hPc, hE.call hS hFc hW hU, hDc.weaken (fun _ _ _ _ => trivial)⟩⟩ rfl rfl hl.1 rfl (lv_room (Nat.le_of_ble_eq_true rfl)) dX7_takesE_312 ⟨Nat.zero_le _, Nat.zero_le _⟩) hS (fun q _ h => hFc q h) hFc (fun u t H1 locs ht hvm h hB hz1 hk1 hS => ?_)
    obtain ⟨w_4, w_5, w_6⟩ := u
    obtain ⟨hP1, hD1⟩ := hB
    rw [ht] at hP1
    have hP := hP1
    have hD := hD1.weaken (fun _ _ _ h => hFc _ h)
    generalize H1 = H at hP hS ⊢
    have hP : va_P E.1 vwCl (rw_24 E mo mn mi ma ml mt mb mr mp mk mq mc mw mz ms mf mu mv mx mh mA mB mC mM mT mHI mFC mLC mCg mTp mNx mFr mTk mVa mEn mKe w_4 mAt w_5 mWg mNow mImg mAsd mLea mLat mBst mRsk mTap mKys mKat w_6 mWts (upd mTes y1.toNatClampNeg y0) mStk mFct mSor mSiz mCel mHol mHoA mHoB mHoC mMov mTel) H := hP
    have hD : va_D A (rw_24 E mo mn mi ma ml mt mb mr mp mk mq mc mw mz ms mf mu mv mx mh mA mB mC mM mT mHI mFC mLC mCg mTp mNx mFr mTk mVa mEn mKe w_4 mAt w_5 mWg mNow mImg mAsd mLea mLat mBst mRsk mTap mKys mKat w_6 mWts (upd mTes y1.toNatClampNeg y0) mStk mFct mSor mSiz mCel mHol mHoA mHoB mHoC mMov mTel) := hD
    refine lv_aload_n hx hb dX7_takesE_315 rfl (lv_at hl 0 rfl) ?_
    refine va_get (D := E.1) (ci := 7) (v := .ref mw) (C := RX7) (T := TX7) (N := 39) hx hb hts n_X7 hown hK hP 0 rfl rfl 24 (by decide) k_44 (fun _ h9 => h9) rfl dX7_takesE_316 ?_
    refine lv_aload_n hx hb dX7_takesE_319 rfl (lv_at hl 0 rfl) ?_
    refine va_get (D := E.1) (ci := 7) (v := .int w_5) (C := RX7) (T := TX7) (N := 39) hx hb hts n_X7 hown hK hP 0 rfl rfl 25 (by decide) k_214 (fun _ h9 => h9) rfl dX7_takesE_320 ?_
    refine lv_iload hx hb dX7_takesE_323 (lv_at hl 3 rfl) ?_
    obtain ⟨o_7, h⟩ := h
    refine rc_iast hx hb hK hP hD hS 12 0 rfl rfl w_5.toNatClampNeg rfl o_7 dX7_takesE_325 (fun H locs hP hD hS => ?_)
    have hP : va_P E.1 vwCl (rw_24 E mo mn mi ma ml mt mb mr mp mk mq mc mw mz ms mf mu mv mx mh mA mB mC mM mT mHI mFC mLC mCg mTp mNx mFr mTk mVa mEn mKe w_4 mAt w_5 mWg mNow mImg mAsd mLea mLat mBst mRsk mTap mKys mKat w_6 (upd mWts w_5.toNatClampNeg x4) (upd mTes y1.toNatClampNeg y0) mStk mFct mSor mSiz mCel mHol mHoA mHoB mHoC mMov mTel) H := hP
    have hD : va_D A (rw_24 E mo mn mi ma ml mt mb mr mp mk mq mc mw mz ms mf mu mv mx mh mA mB mC mM mT mHI mFC mLC mCg mTp mNx mFr mTk mVa mEn mKe w_4 mAt w_5 mWg mNow mImg mAsd mLea mLat mBst mRsk mTap mKys mKat w_6 (upd mWts w_5.toNatClampNeg x4) (upd mTes y1.toNatClampNeg y0) mStk mFct mSor mSiz mCel mHol mHoA mHoB mHoC mMov mTel) := hD
    refine lv_aload_n hx hb dX7_takesE_326 rfl (lv_at hl 0 rfl) ?_
    refine lv_dup hx hb dX7_takesE_327 rfl ?_
    refine va_get (D := E.1) (ci := 7) (v := .int w_5) (C := RX7) (T := TX7) (N := 39) hx hb hts n_X7 hown hK hP 0 rfl rfl 25 (by decide) k_214 (fun _ h9 => h9) rfl dX7_takesE_328 ?_
    refine lv_iconst (v := 1) hx hb dX7_takesE_331 (by decide) ?_
    refine lv_iadd hx hb dX7_takesE_332 ?_
    refine va_put (D := E.1) (ci := 7) (v := .int (w_5 + 1)) (ty := .int) (C := RX7) (T := TX7) (N := 39) hx hb hts n_X7 tyX7 tyX7_ok nmX7 hown hK hP hD hS 0 rfl rfl 25 (by decide) k_214 (fun _ h9 => h9) rfl (by decide +kernel) rfl rfl (Nat.le_of_ble_eq_true rfl) dX7_takesE_333 (fun H locs hP hD hS => ?_)
    have hP : va_P E.1 vwCl (rw_24 E mo mn mi ma ml mt mb mr mp mk mq mc mw mz ms mf mu mv mx mh mA mB mC mM mT mHI mFC mLC mCg mTp mNx mFr mTk mVa mEn mKe w_4 mAt (w_5 + 1) mWg mNow mImg mAsd mLea mLat mBst mRsk mTap mKys mKat w_6 (upd mWts w_5.toNatClampNeg x4) (upd mTes y1.toNatClampNeg y0) mStk mFct mSor mSiz mCel mHol mHoA mHoB mHoC mMov mTel) H := hP
    have hD : va_D A (rw_24 E mo mn mi ma ml mt mb mr mp mk mq mc mw mz ms mf mu mv mx mh mA mB mC mM mT mHI mFC mLC mCg mTp mNx mFr mTk mVa mEn mKe w_4 mAt (w_5 + 1) mWg mNow mImg mAsd mLea mLat mBst mRsk mTap mKys mKat w_6 (upd mWts w_5.toNatClampNeg x4) (upd mTes y1.toNatClampNeg y0) mStk mFct mSor mSiz mCel mHol mHoA mHoB mHoC mMov mTel) := hD
    refine lv_iconst (v := 1) hx hb dX7_takesE_336 (by decide) ?_
    refine lv_istore_n (lv' := [(3, .int 1), (0, .ref mo), (1, .int x1), (2, .int x2), (4, .int x4)]) hx hb dX7_takesE_337 rfl hl (by decide) rfl (fun ls hl => ?_)
    refine lv_aload_n hx hb dX7_takesE_338 rfl (lv_at hl 1 rfl) ?_
    have hPc := hP
    have hDc := hD
    have hFc := rc_freeI hD hS hA
    refine va_callv (va_runV (As := []) (rest := []) ⟨hx, hb, hml, hown, hts⟩ (c_X7_go l E mo mn mi ma ml mt mb mr mp mk mq mc mw mz ms mf mu mv mx mh mA mB mC mM mT H.size mHI mFC mLC mCg mTp mNx mFr mTk mVa mEn mKe w_4 mAt (w_5 + 1) mWg mNow mImg mAsd mLea mLat mBst mRsk mTap mKys mKat w_6 (upd mWts w_5.toNatClampNeg x4) (upd mTes y1.toNatClampNeg y0) mStk mFct mSor mSiz mCel mHol mHoA mHoB mHoC mMov mTel _ h) (cwV 0 hts gX7_takesE_X7_go rfl rfl rfl (by decide +kernel) ⟨Nat.le_of_ble_eq_true rfl, Nat.le_of_ble_eq_true rfl⟩) ⟨fun a U g mk q => ⟨q.1, q.2.blind⟩, va_recv hK hPc (ci := 7) (q0 := 0) rfl rfl, fun U hU hW => ⟨rfl, by rw [hU], by rw [hU]; exact hPc, hE.call hS hFc hW hU, hDc.weaken (fun _ _ _ _ => trivial)⟩⟩ rfl rfl hl.1 rfl (lv_room (Nat.le_of_ble_eq_true rfl)) dX7_takesE_339 ⟨Nat.zero_le _, Nat.zero_le _⟩) hS (fun q _ h => hFc q h) hFc (fun u t H1 locs ht hvm h hB hz1 hk1 hS => ?_)
    obtain ⟨w_8, w_9, w_10, w_11, w_12⟩ := u
    obtain ⟨hP1, hD1⟩ := hB
    rw [ht] at hP1
    have hP := hP1
    have hD := hD1.weaken (fun _ _ _ h => hFc _ h)
    generalize H1 = H at hP hS ⊢
    have hP : va_P E.1 vwCl (rw_24 E mo mn mi ma ml mt mb mr mp mk mq mc mw mz ms mf mu mv mx mh mA mB mC mM mT mHI mFC mLC mCg mTp w_8 w_9 w_10 w_11 w_12 mKe w_4 mAt (w_5 + 1) mWg mNow mImg mAsd mLea mLat mBst mRsk mTap mKys mKat w_6 (upd mWts w_5.toNatClampNeg x4) (upd mTes y1.toNatClampNeg y0) mStk mFct mSor mSiz mCel mHol mHoA mHoB mHoC mMov mTel) H := hP
    have hD : va_D A (rw_24 E mo mn mi ma ml mt mb mr mp mk mq mc mw mz ms mf mu mv mx mh mA mB mC mM mT mHI mFC mLC mCg mTp w_8 w_9 w_10 w_11 w_12 mKe w_4 mAt (w_5 + 1) mWg mNow mImg mAsd mLea mLat mBst mRsk mTap mKys mKat w_6 (upd mWts w_5.toNatClampNeg x4) (upd mTes y1.toNatClampNeg y0) mStk mFct mSor mSiz mCel mHol mHoA mHoB mHoC mMov mTel) := hD
    refine lv_goto (tgt := 28) hx hb dX7_takesE_342 (by decide) ?_
    exact hK28 x1 x2 1 w_8 w_9 w_10 w_11 w_12 w_4 mAt (w_5 + 1) w_6 (upd mWts w_5.toNatClampNeg x4) (upd mTes y1.toNatClampNeg y0) h _ _ hP hD hS ls (lv_sub hl [1, 2, 3, 0] rfl)
  have J268 : ∀ (K28 : Int32 → Int32 → Int32 → Int32 → Int32 → Int32 → Int32 → Int32 → Int32 → Int32 → Int32 → (Nat → Int32) → (Nat → Int32) → (Nat → Int32) → Prop), (∀ (x1 : Int32) (x2 : Int32) (x3 : Int32) (mNx : Int32) (mFr : Int32) (mTk : Int32) (mVa : Int32) (mEn : Int32) (mCs : Int32) (mAt : Int32) (mHd : Int32) (mCod : Nat → Int32) (mWts : Nat → Int32) (mTes : Nat → Int32), K28 x1 x2 x3 mNx mFr mTk mVa mEn mCs mAt mHd mCod mWts mTes → ∀ (H : Heap) (locs : List Loc), va_P E.1 vwCl (rw_24 E mo mn mi ma ml mt mb mr mp mk mq mc mw mz ms mf mu mv mx mh mA mB mC mM mT mHI mFC mLC mCg mTp mNx mFr mTk mVa mEn mKe mCs mAt mHd mWg mNow mImg mAsd mLea mLat mBst mRsk mTap mKys mKat mCod mWts mTes mStk mFct mSor mSiz mCel mHol mHoA mHoB mHoC mMov mTel) H → va_D A (rw_24 E mo mn mi ma ml mt mb mr mp mk mq mc mw mz ms mf mu mv mx mh mA mB mC mM mT mHI mFC mLC mCg mTp mNx mFr mTk mVa mEn mKe mCs mAt mHd mWg mNow mImg mAsd mLea mLat mBst mRsk mTap mKys mKat mCod mWts mTes mStk mFct mSor mSiz mCel mHol mHoA mHoB mHoC mMov mTel) → va_S A s.heap H locs → ∀ ls : Array Slot, lv_has ls 5 [(0, .ref mo), (1, .int x1), (2, .int x2), (3, .int x3)] → W p l e ({ frames := 3, cells := 0, slots := 0, locals := 63 } : Room) s m args below meth c H locs 0 0 QQ (F0 m 28 ls [])) → ∀ (x1 : Int32) (x2 : Int32) (x4 : Int32) (mNx : Int32) (mFr : Int32) (mTk : Int32) (mVa : Int32) (mEn : Int32) (mCs : Int32) (mAt : Int32) (mHd : Int32) (mCod : Nat → Int32) (mWts : Nat → Int32) (mTes : Nat → Int32), jp_X7_takesE_268 mTp mTap K28 x1 x2 x4 mNx mFr mTk mVa mEn mCs mAt mHd mCod mWts mTes → ∀ (H : Heap) (locs : List Loc), va_P E.1 vwCl (rw_24 E mo mn mi ma ml mt mb mr mp mk mq mc mw mz ms mf mu mv mx mh mA mB mC mM mT mHI mFC mLC mCg mTp mNx mFr mTk mVa mEn mKe mCs mAt mHd mWg mNow mImg mAsd mLea mLat mBst mRsk mTap mKys mKat mCod mWts mTes mStk mFct mSor mSiz mCel mHol mHoA mHoB mHoC mMov mTel) H → va_D A (rw_24 E mo mn mi ma ml mt mb mr mp mk mq mc mw mz ms mf mu mv mx mh mA mB mC mM mT mHI mFC mLC mCg mTp mNx mFr mTk mVa mEn mKe mCs mAt mHd mWg mNow mImg mAsd mLea mLat mBst mRsk mTap mKys mKat mCod mWts mTes mStk mFct mSor mSiz mCel mHol mHoA mHoB mHoC mMov mTel) → va_S A s.heap H locs → ∀ ls : Array Slot, lv_has ls 5 [(0, .ref mo), (1, .int x1), (2, .int x2), (4, .int x4)] → W p l e ({ frames := 3, cells := 0, slots := 0, locals := 63 } : Room) s m args below meth c H locs 0 0 QQ (F0 m 268 ls []) := by
    intro K28 hK28
    intro x1 x2 x4 mNx mFr mTk mVa mEn mCs mAt mHd mCod mWts mTes h H locs hP hD hS ls hl
    unfold jp_X7_takesE_268 at h
    refine lv_aload_n hx hb dX7_takesE_268 rfl (lv_at hl 0 rfl) ?_
    refine va_get (D := E.1) (ci := 7) (v := .ref mz) (C := RX7) (T := TX7) (N := 39) hx hb hts n_X7 hown hK hP 0 rfl rfl 26 (by decide) k_47 (fun _ h9 => h9) rfl dX7_takesE_269 ?_
    refine lv_iload_n hx hb dX7_takesE_272 rfl (lv_at hl 1 rfl) ?_
    refine lv_iload hx hb dX7_takesE_273 (lv_at hl 3 rfl) ?_
    have hPc := hP.sub (ws' := []) [] rfl
    have hDc := hD.sub (ws' := []) [] (by decide) rfl
    have hFc := va_free (wc := []) hD hS hA [] rfl
    refine va_calli (va_runS (As := [.int x4]) (rest := [.int x1, .ref mz]) ⟨hx, hb, hml, hown, hts⟩ (c_X7_rank l E H.size x4 _ h) (va_cwS 1 hts gX7_takesE_X7_rank rfl rfl rfl (by decide +kernel) ⟨Nat.le_of_ble_eq_true rfl, Nat.le_of_ble_eq_true rfl⟩) ⟨fun a U g mk q => ⟨q.1, q.2.blind⟩, fun U hU hW => ⟨rfl, by rw [hU], by rw [hU]; exact hPc, hE.call hS hFc hW hU, hDc.weaken (fun _ _ _ _ => trivial)⟩⟩ rfl rfl hl.1 rfl (lv_room (Nat.le_of_ble_eq_true rfl)) dX7_takesE_275 ⟨Nat.zero_le _, Nat.zero_le _⟩) hS (fun q _ h => hFc q h) hFc (fun r_13 u t H1 locs ht hvm h hB hz1 hk1 hS => ?_)
    obtain ⟨hP1, hD1⟩ := hB
    rw [ht] at hP1
    obtain ⟨hP, hD⟩ := rc_foc hP hD [] [none, none, none, none, none, none, none, none, none, none, none, none, none, none, none, none, none, none, none, none, none, none, none, none, none] (by decide) rfl hk1 hP1 rfl
    generalize H1 = H at hP hS ⊢
    have hP : va_P E.1 vwCl (rw_24 E mo mn mi ma ml mt mb mr mp mk mq mc mw mz ms mf mu mv mx mh mA mB mC mM mT mHI mFC mLC mCg mTp mNx mFr mTk mVa mEn mKe mCs mAt mHd mWg mNow mImg mAsd mLea mLat mBst mRsk mTap mKys mKat mCod mWts mTes mStk mFct mSor mSiz mCel mHol mHoA mHoB mHoC mMov mTel) H := hP
    have hD : va_D A (rw_24 E mo mn mi ma ml mt mb mr mp mk mq mc mw mz ms mf mu mv mx mh mA mB mC mM mT mHI mFC mLC mCg mTp mNx mFr mTk mVa mEn mKe mCs mAt mHd mWg mNow mImg mAsd mLea mLat mBst mRsk mTap mKys mKat mCod mWts mTes mStk mFct mSor mSiz mCel mHol mHoA mHoB mHoC mMov mTel) := hD
    refine lv_iconst (v := 3) hx hb dX7_takesE_278 (by decide) ?_
    refine lv_icmp_eq (tgt := 300) hx hb dX7_takesE_279 (by decide) (fun c_14 => ?_) (fun c_14 => ?_)
    · have h := h.1 c_14
      refine lv_iconst (v := 1) hx hb dX7_takesE_300 (by decide) ?_
      refine lv_goto (tgt := 305) hx hb dX7_takesE_301 (by decide) ?_
      exact J305 _ hK28 x1 x2 x4 1 x1 mNx mFr mTk mVa mEn mCs mAt mHd mCod mWts mTes h _ _ hP hD hS ls (lv_sub hl [0, 1, 2, 3] rfl)
    · have h := h.2 c_14
      refine lv_iload hx hb dX7_takesE_282 (lv_at hl 3 rfl) ?_
      have hPc := hP.sub (ws' := []) [] rfl
      have hDc := hD.sub (ws' := []) [] (by decide) rfl
      have hFc := va_free (wc := []) hD hS hA [] rfl
      refine va_calli (va_runS (As := [.int x4]) (rest := [.int x1, .ref mz]) ⟨hx, hb, hml, hown, hts⟩ (c_X7_rank l E H.size x4 _ h) (va_cwS 1 hts gX7_takesE_X7_rank rfl rfl rfl (by decide +kernel) ⟨Nat.le_of_ble_eq_true rfl, Nat.le_of_ble_eq_true rfl⟩) ⟨fun a U g mk q => ⟨q.1, q.2.blind⟩, fun U hU hW => ⟨rfl, by rw [hU], by rw [hU]; exact hPc, hE.call hS hFc hW hU, hDc.weaken (fun _ _ _ _ => trivial)⟩⟩ rfl rfl hl.1 rfl (lv_room (Nat.le_of_ble_eq_true rfl)) dX7_takesE_284 ⟨Nat.zero_le _, Nat.zero_le _⟩) hS (fun q _ h => hFc q h) hFc (fun r_15 u t H1 locs ht hvm h hB hz1 hk1 hS => ?_)
      obtain ⟨hP1, hD1⟩ := hB
      rw [ht] at hP1
      obtain ⟨hP, hD⟩ := rc_foc hP hD [] [none, none, none, none, none, none, none, none, none, none, none, none, none, none, none, none, none, none, none, none, none, none, none, none, none] (by decide) rfl hk1 hP1 rfl
      generalize H1 = H at hP hS ⊢
      have hP : va_P E.1 vwCl (rw_24 E mo mn mi ma ml mt mb mr mp mk mq mc mw mz ms mf mu mv mx mh mA mB mC mM mT mHI mFC mLC mCg mTp mNx mFr mTk mVa mEn mKe mCs mAt mHd mWg mNow mImg mAsd mLea mLat mBst mRsk mTap mKys mKat mCod mWts mTes mStk mFct mSor mSiz mCel mHol mHoA mHoB mHoC mMov mTel) H := hP
      have hD : va_D A (rw_24 E mo mn mi ma ml mt mb mr mp mk mq mc mw mz ms mf mu mv mx mh mA mB mC mM mT mHI mFC mLC mCg mTp mNx mFr mTk mVa mEn mKe mCs mAt mHd mWg mNow mImg mAsd mLea mLat mBst mRsk mTap mKys mKat mCod mWts mTes mStk mFct mSor mSiz mCel mHol mHoA mHoB mHoC mMov mTel) := hD
      refine lv_iconst (v := 3) hx hb dX7_takesE_287 (by decide) ?_
      refine lv_icmp_le (tgt := 304) hx hb dX7_takesE_288 (by decide) (fun c_16 => ?_) (fun c_16 => ?_)
      · have h := h.1 c_16
        refine lv_iconst (v := 0) hx hb dX7_takesE_304 (by decide) ?_
        exact J305 _ hK28 x1 x2 x4 0 x1 mNx mFr mTk mVa mEn mCs mAt mHd mCod mWts mTes h _ _ hP hD hS ls (lv_sub hl [0, 1, 2, 3] rfl)
      · have h := h.2 c_16
        refine lv_aload_n hx hb dX7_takesE_291 rfl (lv_at hl 0 rfl) ?_
        refine va_get (D := E.1) (ci := 7) (v := .ref mz) (C := RX7) (T := TX7) (N := 39) hx hb hts n_X7 hown hK hP 0 rfl rfl 26 (by decide) k_47 (fun _ h9 => h9) rfl dX7_takesE_292 ?_
        refine lv_iload_n hx hb dX7_takesE_295 rfl (lv_at hl 1 rfl) ?_
        obtain ⟨o_17, h⟩ := h
        refine rc_zald hx hb hK hP 13 2 rfl rfl x1.toNatClampNeg rfl o_17 dX7_takesE_296 ?_
        refine lv_if_eq (tgt := 304) hx hb dX7_takesE_297 (by decide) (fun c_18 => ?_) (fun c_18 => ?_)
        · have h := h.1 c_18
          refine lv_iconst (v := 0) hx hb dX7_takesE_304 (by decide) ?_
          exact J305 _ hK28 x1 x2 x4 0 x1 mNx mFr mTk mVa mEn mCs mAt mHd mCod mWts mTes h _ _ hP hD hS ls (lv_sub hl [0, 1, 2, 3] rfl)
        · have h := h.2 c_18
          refine lv_iconst (v := 1) hx hb dX7_takesE_300 (by decide) ?_
          refine lv_goto (tgt := 305) hx hb dX7_takesE_301 (by decide) ?_
          exact J305 _ hK28 x1 x2 x4 1 x1 mNx mFr mTk mVa mEn mCs mAt mHd mCod mWts mTes h _ _ hP hD hS ls (lv_sub hl [0, 1, 2, 3] rfl)
  have J237 : ∀ (K28 : Int32 → Int32 → Int32 → Int32 → Int32 → Int32 → Int32 → Int32 → Int32 → Int32 → Int32 → (Nat → Int32) → (Nat → Int32) → (Nat → Int32) → Prop), (∀ (x1 : Int32) (x2 : Int32) (x3 : Int32) (mNx : Int32) (mFr : Int32) (mTk : Int32) (mVa : Int32) (mEn : Int32) (mCs : Int32) (mAt : Int32) (mHd : Int32) (mCod : Nat → Int32) (mWts : Nat → Int32) (mTes : Nat → Int32), K28 x1 x2 x3 mNx mFr mTk mVa mEn mCs mAt mHd mCod mWts mTes → ∀ (H : Heap) (locs : List Loc), va_P E.1 vwCl (rw_24 E mo mn mi ma ml mt mb mr mp mk mq mc mw mz ms mf mu mv mx mh mA mB mC mM mT mHI mFC mLC mCg mTp mNx mFr mTk mVa mEn mKe mCs mAt mHd mWg mNow mImg mAsd mLea mLat mBst mRsk mTap mKys mKat mCod mWts mTes mStk mFct mSor mSiz mCel mHol mHoA mHoB mHoC mMov mTel) H → va_D A (rw_24 E mo mn mi ma ml mt mb mr mp mk mq mc mw mz ms mf mu mv mx mh mA mB mC mM mT mHI mFC mLC mCg mTp mNx mFr mTk mVa mEn mKe mCs mAt mHd mWg mNow mImg mAsd mLea mLat mBst mRsk mTap mKys mKat mCod mWts mTes mStk mFct mSor mSiz mCel mHol mHoA mHoB mHoC mMov mTel) → va_S A s.heap H locs → ∀ ls : Array Slot, lv_has ls 5 [(0, .ref mo), (1, .int x1), (2, .int x2), (3, .int x3)] → W p l e ({ frames := 3, cells := 0, slots := 0, locals := 63 } : Room) s m args below meth c H locs 0 0 QQ (F0 m 28 ls [])) → ∀ (x1 : Int32) (x2 : Int32) (mNx : Int32) (mFr : Int32) (mTk : Int32) (mVa : Int32) (mEn : Int32) (mCs : Int32) (mAt : Int32) (mHd : Int32) (mCod : Nat → Int32) (mWts : Nat → Int32) (mTes : Nat → Int32), jp_X7_takesE_237 mTp mTap K28 Q x1 x2 mNx mFr mTk mVa mEn mCs mAt mHd mCod mWts mTes → ∀ (H : Heap) (locs : List Loc), va_P E.1 vwCl (rw_24 E mo mn mi ma ml mt mb mr mp mk mq mc mw mz ms mf mu mv mx mh mA mB mC mM mT mHI mFC mLC mCg mTp mNx mFr mTk mVa mEn mKe mCs mAt mHd mWg mNow mImg mAsd mLea mLat mBst mRsk mTap mKys mKat mCod mWts mTes mStk mFct mSor mSiz mCel mHol mHoA mHoB mHoC mMov mTel) H → va_D A (rw_24 E mo mn mi ma ml mt mb mr mp mk mq mc mw mz ms mf mu mv mx mh mA mB mC mM mT mHI mFC mLC mCg mTp mNx mFr mTk mVa mEn mKe mCs mAt mHd mWg mNow mImg mAsd mLea mLat mBst mRsk mTap mKys mKat mCod mWts mTes mStk mFct mSor mSiz mCel mHol mHoA mHoB mHoC mMov mTel) → va_S A s.heap H locs → ∀ ls : Array Slot, lv_has ls 5 [(0, .ref mo), (1, .int x1), (2, .int x2)] → W p l e ({ frames := 3, cells := 0, slots := 0, locals := 63 } : Room) s m args below meth c H locs 0 0 QQ (F0 m 237 ls []) := by
    intro K28 hK28
    intro x1 x2 mNx mFr mTk mVa mEn mCs mAt mHd mCod mWts mTes h H locs hP hD hS ls hl
    unfold jp_X7_takesE_237 at h
    refine lv_aload_n hx hb dX7_takesE_237 rfl (lv_at hl 0 rfl) ?_
    have hPc := hP
    have hDc := hD
    have hFc := rc_freeI hD hS hA
    refine va_calli (va_runV (As := []) (rest := []) ⟨hx, hb, hml, hown, hts⟩ (c_X7_signHere l E mo mn mi ma ml mt mb mr mp mk mq mc mw mz ms mf mu mv mx mh mA mB mC mM mT H.size mHI mFC mLC mCg mTp mNx mFr mTk mVa mEn mKe mCs mAt mHd mWg mNow mImg mAsd mLea mLat mBst mRsk mTap mKys mKat mCod mWts mTes mStk mFct mSor mSiz mCel mHol mHoA mHoB mHoC mMov mTel _ h) (cwV 0 hts gX7_takesE_X7_signHere rfl rfl rfl (by decide +kernel) ⟨Nat.le_of_ble_eq_true rfl, Nat.le_of_ble_eq_true rfl⟩) ⟨fun a U g mk q => ⟨q.1, q.2.blind⟩, va_recv hK hPc (ci := 7) (q0 := 0) rfl rfl, fun U hU hW => ⟨rfl, by rw [hU], by rw [hU]; exact hPc, hE.call hS hFc hW hU, hDc.weaken (fun _ _ _ _ => trivial)⟩⟩ rfl rfl hl.1 rfl (lv_room (Nat.le_of_ble_eq_true rfl)) dX7_takesE_238 ⟨Nat.zero_le _, Nat.zero_le _⟩) hS (fun q _ h => hFc q h) hFc (fun r_19 u t H1 locs ht hvm h hB hz1 hk1 hS => ?_)
    obtain ⟨hP1, hD1⟩ := hB
    rw [ht] at hP1
    have hP := hP1
    have hD := hD1.weaken (fun _ _ _ h => hFc _ h)
    generalize H1 = H at hP hS ⊢
    have hP : va_P E.1 vwCl (rw_24 E mo mn mi ma ml mt mb mr mp mk mq mc mw mz ms mf mu mv mx mh mA mB mC mM mT mHI mFC mLC mCg mTp mNx mFr mTk mVa mEn mKe mCs mAt mHd mWg mNow mImg mAsd mLea mLat mBst mRsk mTap mKys mKat mCod mWts mTes mStk mFct mSor mSiz mCel mHol mHoA mHoB mHoC mMov mTel) H := hP
    have hD : va_D A (rw_24 E mo mn mi ma ml mt mb mr mp mk mq mc mw mz ms mf mu mv mx mh mA mB mC mM mT mHI mFC mLC mCg mTp mNx mFr mTk mVa mEn mKe mCs mAt mHd mWg mNow mImg mAsd mLea mLat mBst mRsk mTap mKys mKat mCod mWts mTes mStk mFct mSor mSiz mCel mHol mHoA mHoB mHoC mMov mTel) := hD
    refine lv_istore (lv' := [(4, .int r_19), (0, .ref mo), (1, .int x1), (2, .int x2)]) hx hb dX7_takesE_241 hl (by decide) rfl (fun ls hl => ?_)
    refine lv_iload hx hb dX7_takesE_243 (lv_at hl 0 rfl) ?_
    refine lv_if_eq (tgt := 266) hx hb dX7_takesE_245 (by decide) (fun c_20 => ?_) (fun c_20 => ?_)
    · have h := h.1 c_20
      refine lv_iconst (v := 0) hx hb dX7_takesE_266 (by decide) ?_
      exact hret _ _ _ _ 0 (mNx, mFr, mTk, mVa, mEn, mCs, mAt, mHd, mCod, mWts, mTes) (by decide) h hP hD hS dX7_takesE_267
    · have h := h.2 c_20
      refine lv_iload hx hb dX7_takesE_248 (lv_at hl 0 rfl) ?_
      have hPc := hP.sub (ws' := []) [] rfl
      have hDc := hD.sub (ws' := []) [] (by decide) rfl
      have hFc := va_free (wc := []) hD hS hA [] rfl
      refine va_calli (va_runS (As := [.int r_19]) (rest := []) ⟨hx, hb, hml, hown, hts⟩ (c_X7_rank l E H.size r_19 _ h) (va_cwS 1 hts gX7_takesE_X7_rank rfl rfl rfl (by decide +kernel) ⟨Nat.le_of_ble_eq_true rfl, Nat.le_of_ble_eq_true rfl⟩) ⟨fun a U g mk q => ⟨q.1, q.2.blind⟩, fun U hU hW => ⟨rfl, by rw [hU], by rw [hU]; exact hPc, hE.call hS hFc hW hU, hDc.weaken (fun _ _ _ _ => trivial)⟩⟩ rfl rfl hl.1 rfl (lv_room (Nat.le_of_ble_eq_true rfl)) dX7_takesE_250 ⟨Nat.zero_le _, Nat.zero_le _⟩) hS (fun q _ h => hFc q h) hFc (fun r_21 u t H1 locs ht hvm h hB hz1 hk1 hS => ?_)
      obtain ⟨hP1, hD1⟩ := hB
      rw [ht] at hP1
      obtain ⟨hP, hD⟩ := rc_foc hP hD [] [none, none, none, none, none, none, none, none, none, none, none, none, none, none, none, none, none, none, none, none, none, none, none, none, none] (by decide) rfl hk1 hP1 rfl
      generalize H1 = H at hP hS ⊢
      have hP : va_P E.1 vwCl (rw_24 E mo mn mi ma ml mt mb mr mp mk mq mc mw mz ms mf mu mv mx mh mA mB mC mM mT mHI mFC mLC mCg mTp mNx mFr mTk mVa mEn mKe mCs mAt mHd mWg mNow mImg mAsd mLea mLat mBst mRsk mTap mKys mKat mCod mWts mTes mStk mFct mSor mSiz mCel mHol mHoA mHoB mHoC mMov mTel) H := hP
      have hD : va_D A (rw_24 E mo mn mi ma ml mt mb mr mp mk mq mc mw mz ms mf mu mv mx mh mA mB mC mM mT mHI mFC mLC mCg mTp mNx mFr mTk mVa mEn mKe mCs mAt mHd mWg mNow mImg mAsd mLea mLat mBst mRsk mTap mKys mKat mCod mWts mTes mStk mFct mSor mSiz mCel mHol mHoA mHoB mHoC mMov mTel) := hD
      refine lv_iconst (v := 3) hx hb dX7_takesE_253 (by decide) ?_
      refine lv_icmp_ne (tgt := 268) hx hb dX7_takesE_254 (by decide) (fun c_22 => ?_) (fun c_22 => ?_)
      · have h := h.1 c_22
        exact J268 _ hK28 x1 x2 r_19 mNx mFr mTk mVa mEn mCs mAt mHd mCod mWts mTes h _ _ hP hD hS ls (lv_sub hl [1, 2, 3, 0] rfl)
      · have h := h.2 c_22
        refine lv_aload_n hx hb dX7_takesE_257 rfl (lv_at hl 1 rfl) ?_
        refine va_get (D := E.1) (ci := 7) (v := .ref mz) (C := RX7) (T := TX7) (N := 39) hx hb hts n_X7 hown hK hP 0 rfl rfl 26 (by decide) k_47 (fun _ h9 => h9) rfl dX7_takesE_258 ?_
        refine lv_iload_n hx hb dX7_takesE_261 rfl (lv_at hl 2 rfl) ?_
        obtain ⟨o_23, h⟩ := h
        refine rc_zald hx hb hK hP 13 2 rfl rfl x1.toNatClampNeg rfl o_23 dX7_takesE_262 ?_
        refine lv_if_eq (tgt := 268) hx hb dX7_takesE_263 (by decide) (fun c_24 => ?_) (fun c_24 => ?_)
        · have h := h.1 c_24
          exact J268 _ hK28 x1 x2 r_19 mNx mFr mTk mVa mEn mCs mAt mHd mCod mWts mTes h _ _ hP hD hS ls (lv_sub hl [1, 2, 3, 0] rfl)
        · have h := h.2 c_24
          refine lv_iconst (v := 0) hx hb dX7_takesE_266 (by decide) ?_
          exact hret _ _ _ _ 0 (mNx, mFr, mTk, mVa, mEn, mCs, mAt, mHd, mCod, mWts, mTes) (by decide) h hP hD hS dX7_takesE_267
  have J158 : ∀ (K28 : Int32 → Int32 → Int32 → Int32 → Int32 → Int32 → Int32 → Int32 → Int32 → Int32 → Int32 → (Nat → Int32) → (Nat → Int32) → (Nat → Int32) → Prop), (∀ (x1 : Int32) (x2 : Int32) (x3 : Int32) (mNx : Int32) (mFr : Int32) (mTk : Int32) (mVa : Int32) (mEn : Int32) (mCs : Int32) (mAt : Int32) (mHd : Int32) (mCod : Nat → Int32) (mWts : Nat → Int32) (mTes : Nat → Int32), K28 x1 x2 x3 mNx mFr mTk mVa mEn mCs mAt mHd mCod mWts mTes → ∀ (H : Heap) (locs : List Loc), va_P E.1 vwCl (rw_24 E mo mn mi ma ml mt mb mr mp mk mq mc mw mz ms mf mu mv mx mh mA mB mC mM mT mHI mFC mLC mCg mTp mNx mFr mTk mVa mEn mKe mCs mAt mHd mWg mNow mImg mAsd mLea mLat mBst mRsk mTap mKys mKat mCod mWts mTes mStk mFct mSor mSiz mCel mHol mHoA mHoB mHoC mMov mTel) H → va_D A (rw_24 E mo mn mi ma ml mt mb mr mp mk mq mc mw mz ms mf mu mv mx mh mA mB mC mM mT mHI mFC mLC mCg mTp mNx mFr mTk mVa mEn mKe mCs mAt mHd mWg mNow mImg mAsd mLea mLat mBst mRsk mTap mKys mKat mCod mWts mTes mStk mFct mSor mSiz mCel mHol mHoA mHoB mHoC mMov mTel) → va_S A s.heap H locs → ∀ ls : Array Slot, lv_has ls 5 [(0, .ref mo), (1, .int x1), (2, .int x2), (3, .int x3)] → W p l e ({ frames := 3, cells := 0, slots := 0, locals := 63 } : Room) s m args below meth c H locs 0 0 QQ (F0 m 28 ls [])) → ∀ (x1 : Int32) (mNx : Int32) (mFr : Int32) (mTk : Int32) (mVa : Int32) (mEn : Int32) (mCs : Int32) (mAt : Int32) (mHd : Int32) (mCod : Nat → Int32) (mWts : Nat → Int32) (mTes : Nat → Int32), jp_X7_takesE_158 mTp mKe mTap K28 Q x1 mNx mFr mTk mVa mEn mCs mAt mHd mCod mWts mTes → ∀ (H : Heap) (locs : List Loc), va_P E.1 vwCl (rw_24 E mo mn mi ma ml mt mb mr mp mk mq mc mw mz ms mf mu mv mx mh mA mB mC mM mT mHI mFC mLC mCg mTp mNx mFr mTk mVa mEn mKe mCs mAt mHd mWg mNow mImg mAsd mLea mLat mBst mRsk mTap mKys mKat mCod mWts mTes mStk mFct mSor mSiz mCel mHol mHoA mHoB mHoC mMov mTel) H → va_D A (rw_24 E mo mn mi ma ml mt mb mr mp mk mq mc mw mz ms mf mu mv mx mh mA mB mC mM mT mHI mFC mLC mCg mTp mNx mFr mTk mVa mEn mKe mCs mAt mHd mWg mNow mImg mAsd mLea mLat mBst mRsk mTap mKys mKat mCod mWts mTes mStk mFct mSor mSiz mCel mHol mHoA mHoB mHoC mMov mTel) → va_S A s.heap H locs → ∀ ls : Array Slot, lv_has ls 5 [(0, .ref mo), (1, .int x1)] → W p l e ({ frames := 3, cells := 0, slots := 0, locals := 63 } : Room) s m args below meth c H locs 0 0 QQ (F0 m 158 ls []) := by
    intro K28 hK28
    intro x1 mNx mFr mTk mVa mEn mCs mAt mHd mCod mWts mTes h H locs hP hD hS ls hl
    unfold jp_X7_takesE_158 at h
    refine lv_aload_n hx hb dX7_takesE_158 rfl (lv_at hl 0 rfl) ?_
    have hPc := hP
    have hDc := hD
    have hFc := rc_freeI hD hS hA
    refine va_calli (va_runV (As := []) (rest := []) ⟨hx, hb, hml, hown, hts⟩ (c_X7_takesPart l E mo mn mi ma ml mt mb mr mp mk mq mc mw mz ms mf mu mv mx mh mA mB mC mM mT H.size mHI mFC mLC mCg mTp mNx mFr mTk mVa mEn mKe mCs mAt mHd mWg mNow mImg mAsd mLea mLat mBst mRsk mTap mKys mKat mCod mWts mTes mStk mFct mSor mSiz mCel mHol mHoA mHoB mHoC mMov mTel _ h) (cwV 0 hts gX7_takesE_X7_takesPart rfl rfl rfl (by decide +kernel) ⟨Nat.le_of_ble_eq_true rfl, Nat.le_of_ble_eq_true rfl⟩) ⟨fun a U g mk q => ⟨q.1, q.2.blind⟩, va_recv hK hPc (ci := 7) (q0 := 0) rfl rfl, fun U hU hW => ⟨rfl, by rw [hU], by rw [hU]; exact hPc, hE.call hS hFc hW hU, hDc.weaken (fun _ _ _ _ => trivial)⟩⟩ rfl rfl hl.1 rfl (lv_room (Nat.le_of_ble_eq_true rfl)) dX7_takesE_159 ⟨Nat.zero_le _, Nat.zero_le _⟩) hS (fun q _ h => hFc q h) hFc (fun r_25 u t H1 locs ht hvm h hB hz1 hk1 hS => ?_)
    obtain ⟨w_26, w_27, w_28, w_29, w_30, w_31, w_32, w_33, w_34⟩ := u
    obtain ⟨hP1, hD1⟩ := hB
    rw [ht] at hP1
    have hP := hP1
    have hD := hD1.weaken (fun _ _ _ h => hFc _ h)
    generalize H1 = H at hP hS ⊢
    have hP : va_P E.1 vwCl (rw_24 E mo mn mi ma ml mt mb mr mp mk mq mc mw mz ms mf mu mv mx mh mA mB mC mM mT mHI mFC mLC mCg mTp w_26 w_27 w_28 w_29 w_30 mKe w_31 w_32 w_33 mWg mNow mImg mAsd mLea mLat mBst mRsk mTap mKys mKat w_34 mWts mTes mStk mFct mSor mSiz mCel mHol mHoA mHoB mHoC mMov mTel) H := hP
    have hD : va_D A (rw_24 E mo mn mi ma ml mt mb mr mp mk mq mc mw mz ms mf mu mv mx mh mA mB mC mM mT mHI mFC mLC mCg mTp w_26 w_27 w_28 w_29 w_30 mKe w_31 w_32 w_33 mWg mNow mImg mAsd mLea mLat mBst mRsk mTap mKys mKat w_34 mWts mTes mStk mFct mSor mSiz mCel mHol mHoA mHoB mHoC mMov mTel) := hD
    refine lv_if_eq (tgt := 170) hx hb dX7_takesE_162 (by decide) (fun c_35 => ?_) (fun c_35 => ?_)
    · have h := h.1 c_35
      refine lv_iconst (v := 0) hx hb dX7_takesE_170 (by decide) ?_
      exact hret _ _ _ _ 0 (w_26, w_27, w_28, w_29, w_30, w_31, w_32, w_33, w_34, mWts, mTes) (by decide) h hP hD hS dX7_takesE_171
    · have h := h.2 c_35
      refine lv_iconst (v := 0) hx hb dX7_takesE_165 (by decide) ?_
      refine lv_istore_n (lv' := [(3, .int 0), (0, .ref mo), (1, .int x1)]) hx hb dX7_takesE_166 rfl hl (by decide) rfl (fun ls hl => ?_)
      refine lv_goto (tgt := 172) hx hb dX7_takesE_167 (by decide) ?_
      refine lv_aload_n hx hb dX7_takesE_172 rfl (lv_at hl 1 rfl) ?_
      have hPc := hP
      have hDc := hD
      have hFc := rc_freeI hD hS hA
      refine va_calli (va_runV (As := []) (rest := []) ⟨hx, hb, hml, hown, hts⟩ (c_X7_notsOpen l E mo mn mi ma ml mt mb mr mp mk mq mc mw mz ms mf mu mv mx mh mA mB mC mM mT H.size mHI mFC mLC mCg mTp w_26 w_27 w_28 w_29 w_30 mKe w_31 w_32 w_33 mWg mNow mImg mAsd mLea mLat mBst mRsk mTap mKys mKat w_34 mWts mTes mStk mFct mSor mSiz mCel mHol mHoA mHoB mHoC mMov mTel _ h) (cwV 0 hts gX7_takesE_X7_notsOpen rfl rfl rfl (by decide +kernel) ⟨Nat.le_of_ble_eq_true rfl, Nat.le_of_ble_eq_true rfl⟩) ⟨fun a U g mk q => ⟨q.1, q.2.blind⟩, va_recv hK hPc (ci := 7) (q0 := 0) rfl rfl, fun U hU hW => ⟨rfl, by rw [hU], by rw [hU]; exact hPc, hE.call hS hFc hW hU, hDc.weaken (fun _ _ _ _ => trivial)⟩⟩ rfl rfl hl.1 rfl (lv_room (Nat.le_of_ble_eq_true rfl)) dX7_takesE_173 ⟨Nat.zero_le _, Nat.zero_le _⟩) hS (fun q _ h => hFc q h) hFc (fun r_36 u t H1 locs ht hvm h hB hz1 hk1 hS => ?_)
      obtain ⟨hP1, hD1⟩ := hB
      rw [ht] at hP1
      have hP := hP1
      have hD := hD1.weaken (fun _ _ _ h => hFc _ h)
      generalize H1 = H at hP hS ⊢
      have hP : va_P E.1 vwCl (rw_24 E mo mn mi ma ml mt mb mr mp mk mq mc mw mz ms mf mu mv mx mh mA mB mC mM mT mHI mFC mLC mCg mTp w_26 w_27 w_28 w_29 w_30 mKe w_31 w_32 w_33 mWg mNow mImg mAsd mLea mLat mBst mRsk mTap mKys mKat w_34 mWts mTes mStk mFct mSor mSiz mCel mHol mHoA mHoB mHoC mMov mTel) H := hP
      have hD : va_D A (rw_24 E mo mn mi ma ml mt mb mr mp mk mq mc mw mz ms mf mu mv mx mh mA mB mC mM mT mHI mFC mLC mCg mTp w_26 w_27 w_28 w_29 w_30 mKe w_31 w_32 w_33 mWg mNow mImg mAsd mLea mLat mBst mRsk mTap mKys mKat w_34 mWts mTes mStk mFct mSor mSiz mCel mHol mHoA mHoB mHoC mMov mTel) := hD
      refine lv_istore_n (lv' := [(2, .int r_36), (3, .int 0), (0, .ref mo), (1, .int x1)]) hx hb dX7_takesE_176 rfl hl (by decide) rfl (fun ls hl => ?_)
      refine lv_goto (tgt := 28) hx hb dX7_takesE_177 (by decide) ?_
      exact hK28 x1 r_36 0 w_26 w_27 w_28 w_29 w_30 w_31 w_32 w_33 w_34 mWts mTes h _ _ hP hD hS ls (lv_sub hl [2, 3, 0, 1] rfl)
  have J97 : ∀ (K28 : Int32 → Int32 → Int32 → Int32 → Int32 → Int32 → Int32 → Int32 → Int32 → Int32 → Int32 → (Nat → Int32) → (Nat → Int32) → (Nat → Int32) → Prop), (∀ (x1 : Int32) (x2 : Int32) (x3 : Int32) (mNx : Int32) (mFr : Int32) (mTk : Int32) (mVa : Int32) (mEn : Int32) (mCs : Int32) (mAt : Int32) (mHd : Int32) (mCod : Nat → Int32) (mWts : Nat → Int32) (mTes : Nat → Int32), K28 x1 x2 x3 mNx mFr mTk mVa mEn mCs mAt mHd mCod mWts mTes → ∀ (H : Heap) (locs : List Loc), va_P E.1 vwCl (rw_24 E mo mn mi ma ml mt mb mr mp mk mq mc mw mz ms mf mu mv mx mh mA mB mC mM mT mHI mFC mLC mCg mTp mNx mFr mTk mVa mEn mKe mCs mAt mHd mWg mNow mImg mAsd mLea mLat mBst mRsk mTap mKys mKat mCod mWts mTes mStk mFct mSor mSiz mCel mHol mHoA mHoB mHoC mMov mTel) H → va_D A (rw_24 E mo mn mi ma ml mt mb mr mp mk mq mc mw mz ms mf mu mv mx mh mA mB mC mM mT mHI mFC mLC mCg mTp mNx mFr mTk mVa mEn mKe mCs mAt mHd mWg mNow mImg mAsd mLea mLat mBst mRsk mTap mKys mKat mCod mWts mTes mStk mFct mSor mSiz mCel mHol mHoA mHoB mHoC mMov mTel) → va_S A s.heap H locs → ∀ ls : Array Slot, lv_has ls 5 [(0, .ref mo), (1, .int x1), (2, .int x2), (3, .int x3)] → W p l e ({ frames := 3, cells := 0, slots := 0, locals := 63 } : Room) s m args below meth c H locs 0 0 QQ (F0 m 28 ls [])) → ∀ (x1 : Int32) (x3 : Int32) (mNx : Int32) (mFr : Int32) (mTk : Int32) (mVa : Int32) (mEn : Int32) (mCs : Int32) (mAt : Int32) (mHd : Int32) (mCod : Nat → Int32) (mWts : Nat → Int32) (mTes : Nat → Int32), jp_X7_takesE_97 mTp mKe mTap K28 Q x1 x3 mNx mFr mTk mVa mEn mCs mAt mHd mCod mWts mTes → ∀ (H : Heap) (locs : List Loc), va_P E.1 vwCl (rw_24 E mo mn mi ma ml mt mb mr mp mk mq mc mw mz ms mf mu mv mx mh mA mB mC mM mT mHI mFC mLC mCg mTp mNx mFr mTk mVa mEn mKe mCs mAt mHd mWg mNow mImg mAsd mLea mLat mBst mRsk mTap mKys mKat mCod mWts mTes mStk mFct mSor mSiz mCel mHol mHoA mHoB mHoC mMov mTel) H → va_D A (rw_24 E mo mn mi ma ml mt mb mr mp mk mq mc mw mz ms mf mu mv mx mh mA mB mC mM mT mHI mFC mLC mCg mTp mNx mFr mTk mVa mEn mKe mCs mAt mHd mWg mNow mImg mAsd mLea mLat mBst mRsk mTap mKys mKat mCod mWts mTes mStk mFct mSor mSiz mCel mHol mHoA mHoB mHoC mMov mTel) → va_S A s.heap H locs → ∀ ls : Array Slot, lv_has ls 5 [(0, .ref mo), (1, .int x1), (3, .int x3)] → W p l e ({ frames := 3, cells := 0, slots := 0, locals := 63 } : Room) s m args below meth c H locs 0 0 QQ (F0 m 97 ls []) := by
    intro K28 hK28
    intro x1 x3 mNx mFr mTk mVa mEn mCs mAt mHd mCod mWts mTes h H locs hP hD hS ls hl
    unfold jp_X7_takesE_97 at h
    refine lv_aload_n hx hb dX7_takesE_97 rfl (lv_at hl 0 rfl) ?_
    refine va_get (D := E.1) (ci := 7) (v := .int mTk) (C := RX7) (T := TX7) (N := 39) hx hb hts n_X7 hown hK hP 0 rfl rfl 15 (by decide) k_196 (fun _ h9 => h9) rfl dX7_takesE_98 ?_
    refine lv_iconst (v := 3) hx hb dX7_takesE_101 (by decide) ?_
    refine lv_icmp_ne (tgt := 158) hx hb dX7_takesE_102 (by decide) (fun c_37 => ?_) (fun c_37 => ?_)
    · have h := h.1 c_37
      exact J158 _ hK28 x1 mNx mFr mTk mVa mEn mCs mAt mHd mCod mWts mTes h _ _ hP hD hS ls (lv_sub hl [0, 1] rfl)
    · have h := h.2 c_37
      refine lv_aload_n hx hb dX7_takesE_105 rfl (lv_at hl 0 rfl) ?_
      refine va_get (D := E.1) (ci := 7) (v := .int mVa) (C := RX7) (T := TX7) (N := 39) hx hb hts n_X7 hown hK hP 0 rfl rfl 16 (by decide) k_202 (fun _ h9 => h9) rfl dX7_takesE_106 ?_
      refine lv_bipush (v := 40) hx hb dX7_takesE_109 (by decide) ?_
      refine lv_icmp_ne (tgt := 158) hx hb dX7_takesE_111 (by decide) (fun c_38 => ?_) (fun c_38 => ?_)
      · have h := h.1 c_38
        exact J158 _ hK28 x1 mNx mFr mTk mVa mEn mCs mAt mHd mCod mWts mTes h _ _ hP hD hS ls (lv_sub hl [0, 1] rfl)
      · have h := h.2 c_38
        refine lv_iload_n hx hb dX7_takesE_114 rfl (lv_at hl 1 rfl) ?_
        refine lv_bipush (v := 8) hx hb dX7_takesE_115 (by decide) ?_
        refine lv_icmp_ge (tgt := 158) hx hb dX7_takesE_117 (by decide) (fun c_39 => ?_) (fun c_39 => ?_)
        · have h := h.1 c_39
          exact J158 _ hK28 x1 mNx mFr mTk mVa mEn mCs mAt mHd mCod mWts mTes h _ _ hP hD hS ls (lv_sub hl [0, 1] rfl)
        · have h := h.2 c_39
          refine lv_aload_n hx hb dX7_takesE_120 rfl (lv_at hl 0 rfl) ?_
          refine va_get (D := E.1) (ci := 7) (v := .ref mw) (C := RX7) (T := TX7) (N := 39) hx hb hts n_X7 hown hK hP 0 rfl rfl 24 (by decide) k_44 (fun _ h9 => h9) rfl dX7_takesE_121 ?_
          refine lv_aload_n hx hb dX7_takesE_124 rfl (lv_at hl 0 rfl) ?_
          refine va_get (D := E.1) (ci := 7) (v := .int mHd) (C := RX7) (T := TX7) (N := 39) hx hb hts n_X7 hown hK hP 0 rfl rfl 25 (by decide) k_214 (fun _ h9 => h9) rfl dX7_takesE_125 ?_
          refine lv_bipush (v := (-11)) hx hb dX7_takesE_128 (by decide) ?_
          obtain ⟨o_40, h⟩ := h
          refine rc_iast hx hb hK hP hD hS 12 0 rfl rfl mHd.toNatClampNeg rfl o_40 dX7_takesE_130 (fun H locs hP hD hS => ?_)
          have hP : va_P E.1 vwCl (rw_24 E mo mn mi ma ml mt mb mr mp mk mq mc mw mz ms mf mu mv mx mh mA mB mC mM mT mHI mFC mLC mCg mTp mNx mFr mTk mVa mEn mKe mCs mAt mHd mWg mNow mImg mAsd mLea mLat mBst mRsk mTap mKys mKat mCod (upd mWts mHd.toNatClampNeg (-11)) mTes mStk mFct mSor mSiz mCel mHol mHoA mHoB mHoC mMov mTel) H := hP
          have hD : va_D A (rw_24 E mo mn mi ma ml mt mb mr mp mk mq mc mw mz ms mf mu mv mx mh mA mB mC mM mT mHI mFC mLC mCg mTp mNx mFr mTk mVa mEn mKe mCs mAt mHd mWg mNow mImg mAsd mLea mLat mBst mRsk mTap mKys mKat mCod (upd mWts mHd.toNatClampNeg (-11)) mTes mStk mFct mSor mSiz mCel mHol mHoA mHoB mHoC mMov mTel) := hD
          refine lv_aload_n hx hb dX7_takesE_131 rfl (lv_at hl 0 rfl) ?_
          refine lv_dup hx hb dX7_takesE_132 rfl ?_
          refine va_get (D := E.1) (ci := 7) (v := .int mHd) (C := RX7) (T := TX7) (N := 39) hx hb hts n_X7 hown hK hP 0 rfl rfl 25 (by decide) k_214 (fun _ h9 => h9) rfl dX7_takesE_133 ?_
          refine lv_iconst (v := 1) hx hb dX7_takesE_136 (by decide) ?_
          refine lv_iadd hx hb dX7_takesE_137 ?_
          refine va_put (D := E.1) (ci := 7) (v := .int (mHd + 1)) (ty := .int) (C := RX7) (T := TX7) (N := 39) hx hb hts n_X7 tyX7 tyX7_ok nmX7 hown hK hP hD hS 0 rfl rfl 25 (by decide) k_214 (fun _ h9 => h9) rfl (by decide +kernel) rfl rfl (Nat.le_of_ble_eq_true rfl) dX7_takesE_138 (fun H locs hP hD hS => ?_)
          have hP : va_P E.1 vwCl (rw_24 E mo mn mi ma ml mt mb mr mp mk mq mc mw mz ms mf mu mv mx mh mA mB mC mM mT mHI mFC mLC mCg mTp mNx mFr mTk mVa mEn mKe mCs mAt (mHd + 1) mWg mNow mImg mAsd mLea mLat mBst mRsk mTap mKys mKat mCod (upd mWts mHd.toNatClampNeg (-11)) mTes mStk mFct mSor mSiz mCel mHol mHoA mHoB mHoC mMov mTel) H := hP
          have hD : va_D A (rw_24 E mo mn mi ma ml mt mb mr mp mk mq mc mw mz ms mf mu mv mx mh mA mB mC mM mT mHI mFC mLC mCg mTp mNx mFr mTk mVa mEn mKe mCs mAt (mHd + 1) mWg mNow mImg mAsd mLea mLat mBst mRsk mTap mKys mKat mCod (upd mWts mHd.toNatClampNeg (-11)) mTes mStk mFct mSor mSiz mCel mHol mHoA mHoB mHoC mMov mTel) := hD
          refine lv_iinc (v := x1 + 1) (lv' := [(1, .int (x1 + 1)), (0, .ref mo), (3, .int x3)]) hx hb dX7_takesE_141 hl (k := 1) rfl (by rfl) (by decide) rfl (fun ls hl => ?_)
          refine lv_aload_n hx hb dX7_takesE_144 rfl (lv_at hl 1 rfl) ?_
          refine va_get (D := E.1) (ci := 7) (v := .ref mz) (C := RX7) (T := TX7) (N := 39) hx hb hts n_X7 hown hK hP 0 rfl rfl 26 (by decide) k_47 (fun _ h9 => h9) rfl dX7_takesE_145 ?_
          refine lv_iload_n hx hb dX7_takesE_148 rfl (lv_at hl 0 rfl) ?_
          refine lv_iconst (v := 0) hx hb dX7_takesE_149 (by decide) ?_
          obtain ⟨o_41, h⟩ := h
          refine rc_zast hx hb hK hP hD hS 13 2 rfl rfl ((x1 + 1).toNatClampNeg) rfl (by decide) o_41 dX7_takesE_150 (fun H locs hP hD hS => ?_)
          have hP : va_P E.1 vwCl (rw_24 E mo mn mi ma ml mt mb mr mp mk mq mc mw mz ms mf mu mv mx mh mA mB mC mM mT mHI mFC mLC mCg mTp mNx mFr mTk mVa mEn mKe mCs mAt (mHd + 1) mWg mNow mImg mAsd mLea mLat mBst mRsk mTap mKys mKat mCod (upd mWts mHd.toNatClampNeg (-11)) (upd mTes ((x1 + 1).toNatClampNeg) 0) mStk mFct mSor mSiz mCel mHol mHoA mHoB mHoC mMov mTel) H := hP
          have hD : va_D A (rw_24 E mo mn mi ma ml mt mb mr mp mk mq mc mw mz ms mf mu mv mx mh mA mB mC mM mT mHI mFC mLC mCg mTp mNx mFr mTk mVa mEn mKe mCs mAt (mHd + 1) mWg mNow mImg mAsd mLea mLat mBst mRsk mTap mKys mKat mCod (upd mWts mHd.toNatClampNeg (-11)) (upd mTes ((x1 + 1).toNatClampNeg) 0) mStk mFct mSor mSiz mCel mHol mHoA mHoB mHoC mMov mTel) := hD
          refine lv_aload_n hx hb dX7_takesE_151 rfl (lv_at hl 1 rfl) ?_
          have hPc := hP
          have hDc := hD
          have hFc := rc_freeI hD hS hA
          refine va_callv (va_runV (As := []) (rest := []) ⟨hx, hb, hml, hown, hts⟩ (c_X7_go l E mo mn mi ma ml mt mb mr mp mk mq mc mw mz ms mf mu mv mx mh mA mB mC mM mT H.size mHI mFC mLC mCg mTp mNx mFr mTk mVa mEn mKe mCs mAt (mHd + 1) mWg mNow mImg mAsd mLea mLat mBst mRsk mTap mKys mKat mCod (upd mWts mHd.toNatClampNeg (-11)) (upd mTes ((x1 + 1).toNatClampNeg) 0) mStk mFct mSor mSiz mCel mHol mHoA mHoB mHoC mMov mTel _ h) (cwV 0 hts gX7_takesE_X7_go rfl rfl rfl (by decide +kernel) ⟨Nat.le_of_ble_eq_true rfl, Nat.le_of_ble_eq_true rfl⟩) ⟨fun a U g mk q => ⟨q.1, q.2.blind⟩, va_recv hK hPc (ci := 7) (q0 := 0) rfl rfl, fun U hU hW => ⟨rfl, by rw [hU], by rw [hU]; exact hPc, hE.call hS hFc hW hU, hDc.weaken (fun _ _ _ _ => trivial)⟩⟩ rfl rfl hl.1 rfl (lv_room (Nat.le_of_ble_eq_true rfl)) dX7_takesE_152 ⟨Nat.zero_le _, Nat.zero_le _⟩) hS (fun q _ h => hFc q h) hFc (fun u t H1 locs ht hvm h hB hz1 hk1 hS => ?_)
          obtain ⟨w_42, w_43, w_44, w_45, w_46⟩ := u
          obtain ⟨hP1, hD1⟩ := hB
          rw [ht] at hP1
          have hP := hP1
          have hD := hD1.weaken (fun _ _ _ h => hFc _ h)
          generalize H1 = H at hP hS ⊢
          have hP : va_P E.1 vwCl (rw_24 E mo mn mi ma ml mt mb mr mp mk mq mc mw mz ms mf mu mv mx mh mA mB mC mM mT mHI mFC mLC mCg mTp w_42 w_43 w_44 w_45 w_46 mKe mCs mAt (mHd + 1) mWg mNow mImg mAsd mLea mLat mBst mRsk mTap mKys mKat mCod (upd mWts mHd.toNatClampNeg (-11)) (upd mTes ((x1 + 1).toNatClampNeg) 0) mStk mFct mSor mSiz mCel mHol mHoA mHoB mHoC mMov mTel) H := hP
          have hD : va_D A (rw_24 E mo mn mi ma ml mt mb mr mp mk mq mc mw mz ms mf mu mv mx mh mA mB mC mM mT mHI mFC mLC mCg mTp w_42 w_43 w_44 w_45 w_46 mKe mCs mAt (mHd + 1) mWg mNow mImg mAsd mLea mLat mBst mRsk mTap mKys mKat mCod (upd mWts mHd.toNatClampNeg (-11)) (upd mTes ((x1 + 1).toNatClampNeg) 0) mStk mFct mSor mSiz mCel mHol mHoA mHoB mHoC mMov mTel) := hD
          refine lv_goto (tgt := 172) hx hb dX7_takesE_155 (by decide) ?_
          refine lv_aload_n hx hb dX7_takesE_172 rfl (lv_at hl 1 rfl) ?_
          have hPc := hP
          have hDc := hD
          have hFc := rc_freeI hD hS hA
          refine va_calli (va_runV (As := []) (rest := []) ⟨hx, hb, hml, hown, hts⟩ (c_X7_notsOpen l E mo mn mi ma ml mt mb mr mp mk mq mc mw mz ms mf mu mv mx mh mA mB mC mM mT H.size mHI mFC mLC mCg mTp w_42 w_43 w_44 w_45 w_46 mKe mCs mAt (mHd + 1) mWg mNow mImg mAsd mLea mLat mBst mRsk mTap mKys mKat mCod (upd mWts mHd.toNatClampNeg (-11)) (upd mTes ((x1 + 1).toNatClampNeg) 0) mStk mFct mSor mSiz mCel mHol mHoA mHoB mHoC mMov mTel _ h) (cwV 0 hts gX7_takesE_X7_notsOpen rfl rfl rfl (by decide +kernel) ⟨Nat.le_of_ble_eq_true rfl, Nat.le_of_ble_eq_true rfl⟩) ⟨fun a U g mk q => ⟨q.1, q.2.blind⟩, va_recv hK hPc (ci := 7) (q0 := 0) rfl rfl, fun U hU hW => ⟨rfl, by rw [hU], by rw [hU]; exact hPc, hE.call hS hFc hW hU, hDc.weaken (fun _ _ _ _ => trivial)⟩⟩ rfl rfl hl.1 rfl (lv_room (Nat.le_of_ble_eq_true rfl)) dX7_takesE_173 ⟨Nat.zero_le _, Nat.zero_le _⟩) hS (fun q _ h => hFc q h) hFc (fun r_47 u t H1 locs ht hvm h hB hz1 hk1 hS => ?_)
          obtain ⟨hP1, hD1⟩ := hB
          rw [ht] at hP1
          have hP := hP1
          have hD := hD1.weaken (fun _ _ _ h => hFc _ h)
          generalize H1 = H at hP hS ⊢
          have hP : va_P E.1 vwCl (rw_24 E mo mn mi ma ml mt mb mr mp mk mq mc mw mz ms mf mu mv mx mh mA mB mC mM mT mHI mFC mLC mCg mTp w_42 w_43 w_44 w_45 w_46 mKe mCs mAt (mHd + 1) mWg mNow mImg mAsd mLea mLat mBst mRsk mTap mKys mKat mCod (upd mWts mHd.toNatClampNeg (-11)) (upd mTes ((x1 + 1).toNatClampNeg) 0) mStk mFct mSor mSiz mCel mHol mHoA mHoB mHoC mMov mTel) H := hP
          have hD : va_D A (rw_24 E mo mn mi ma ml mt mb mr mp mk mq mc mw mz ms mf mu mv mx mh mA mB mC mM mT mHI mFC mLC mCg mTp w_42 w_43 w_44 w_45 w_46 mKe mCs mAt (mHd + 1) mWg mNow mImg mAsd mLea mLat mBst mRsk mTap mKys mKat mCod (upd mWts mHd.toNatClampNeg (-11)) (upd mTes ((x1 + 1).toNatClampNeg) 0) mStk mFct mSor mSiz mCel mHol mHoA mHoB mHoC mMov mTel) := hD
          refine lv_istore_n (lv' := [(2, .int r_47), (1, .int (x1 + 1)), (0, .ref mo), (3, .int x3)]) hx hb dX7_takesE_176 rfl hl (by decide) rfl (fun ls hl => ?_)
          refine lv_goto (tgt := 28) hx hb dX7_takesE_177 (by decide) ?_
          exact hK28 (x1 + 1) r_47 x3 w_42 w_43 w_44 w_45 w_46 mCs mAt (mHd + 1) mCod (upd mWts mHd.toNatClampNeg (-11)) (upd mTes ((x1 + 1).toNatClampNeg) 0) h _ _ hP hD hS ls (lv_sub hl [2, 1, 0, 3] rfl)
  have J39 : ∀ (K28 : Int32 → Int32 → Int32 → Int32 → Int32 → Int32 → Int32 → Int32 → Int32 → Int32 → Int32 → (Nat → Int32) → (Nat → Int32) → (Nat → Int32) → Prop), (∀ (x1 : Int32) (x2 : Int32) (x3 : Int32) (mNx : Int32) (mFr : Int32) (mTk : Int32) (mVa : Int32) (mEn : Int32) (mCs : Int32) (mAt : Int32) (mHd : Int32) (mCod : Nat → Int32) (mWts : Nat → Int32) (mTes : Nat → Int32), K28 x1 x2 x3 mNx mFr mTk mVa mEn mCs mAt mHd mCod mWts mTes → ∀ (H : Heap) (locs : List Loc), va_P E.1 vwCl (rw_24 E mo mn mi ma ml mt mb mr mp mk mq mc mw mz ms mf mu mv mx mh mA mB mC mM mT mHI mFC mLC mCg mTp mNx mFr mTk mVa mEn mKe mCs mAt mHd mWg mNow mImg mAsd mLea mLat mBst mRsk mTap mKys mKat mCod mWts mTes mStk mFct mSor mSiz mCel mHol mHoA mHoB mHoC mMov mTel) H → va_D A (rw_24 E mo mn mi ma ml mt mb mr mp mk mq mc mw mz ms mf mu mv mx mh mA mB mC mM mT mHI mFC mLC mCg mTp mNx mFr mTk mVa mEn mKe mCs mAt mHd mWg mNow mImg mAsd mLea mLat mBst mRsk mTap mKys mKat mCod mWts mTes mStk mFct mSor mSiz mCel mHol mHoA mHoB mHoC mMov mTel) → va_S A s.heap H locs → ∀ ls : Array Slot, lv_has ls 5 [(0, .ref mo), (1, .int x1), (2, .int x2), (3, .int x3)] → W p l e ({ frames := 3, cells := 0, slots := 0, locals := 63 } : Room) s m args below meth c H locs 0 0 QQ (F0 m 28 ls [])) → ∀ (x1 : Int32) (x2 : Int32) (x3 : Int32) (mNx : Int32) (mFr : Int32) (mTk : Int32) (mVa : Int32) (mEn : Int32) (mCs : Int32) (mAt : Int32) (mHd : Int32) (mCod : Nat → Int32) (mWts : Nat → Int32) (mTes : Nat → Int32), jp_X7_takesE_39 mTp mKe mTap K28 Q x1 x2 x3 mNx mFr mTk mVa mEn mCs mAt mHd mCod mWts mTes → ∀ (H : Heap) (locs : List Loc), va_P E.1 vwCl (rw_24 E mo mn mi ma ml mt mb mr mp mk mq mc mw mz ms mf mu mv mx mh mA mB mC mM mT mHI mFC mLC mCg mTp mNx mFr mTk mVa mEn mKe mCs mAt mHd mWg mNow mImg mAsd mLea mLat mBst mRsk mTap mKys mKat mCod mWts mTes mStk mFct mSor mSiz mCel mHol mHoA mHoB mHoC mMov mTel) H → va_D A (rw_24 E mo mn mi ma ml mt mb mr mp mk mq mc mw mz ms mf mu mv mx mh mA mB mC mM mT mHI mFC mLC mCg mTp mNx mFr mTk mVa mEn mKe mCs mAt mHd mWg mNow mImg mAsd mLea mLat mBst mRsk mTap mKys mKat mCod mWts mTes mStk mFct mSor mSiz mCel mHol mHoA mHoB mHoC mMov mTel) → va_S A s.heap H locs → ∀ ls : Array Slot, lv_has ls 5 [(0, .ref mo), (1, .int x1), (2, .int x2), (3, .int x3)] → W p l e ({ frames := 3, cells := 0, slots := 0, locals := 63 } : Room) s m args below meth c H locs 0 0 QQ (F0 m 39 ls []) := by
    intro K28 hK28
    intro x1 x2 x3 mNx mFr mTk mVa mEn mCs mAt mHd mCod mWts mTes h H locs hP hD hS ls hl
    unfold jp_X7_takesE_39 at h
    refine lv_iload_n hx hb dX7_takesE_39 rfl (lv_at hl 3 rfl) ?_
    refine lv_if_eq (tgt := 180) hx hb dX7_takesE_40 (by decide) (fun c_48 => ?_) (fun c_48 => ?_)
    · have h := h.1 c_48
      refine lv_aload_n hx hb dX7_takesE_180 rfl (lv_at hl 0 rfl) ?_
      refine va_get (D := E.1) (ci := 7) (v := .int mTk) (C := RX7) (T := TX7) (N := 39) hx hb hts n_X7 hown hK hP 0 rfl rfl 15 (by decide) k_196 (fun _ h9 => h9) rfl dX7_takesE_181 ?_
      refine lv_iconst (v := 3) hx hb dX7_takesE_184 (by decide) ?_
      refine lv_icmp_ne (tgt := 237) hx hb dX7_takesE_185 (by decide) (fun c_49 => ?_) (fun c_49 => ?_)
      · have h := h.1 c_49
        exact J237 _ hK28 x1 x2 mNx mFr mTk mVa mEn mCs mAt mHd mCod mWts mTes h _ _ hP hD hS ls (lv_sub hl [0, 1, 2] rfl)
      · have h := h.2 c_49
        refine lv_aload_n hx hb dX7_takesE_188 rfl (lv_at hl 0 rfl) ?_
        refine va_get (D := E.1) (ci := 7) (v := .int mVa) (C := RX7) (T := TX7) (N := 39) hx hb hts n_X7 hown hK hP 0 rfl rfl 16 (by decide) k_202 (fun _ h9 => h9) rfl dX7_takesE_189 ?_
        refine lv_bipush (v := 41) hx hb dX7_takesE_192 (by decide) ?_
        refine lv_icmp_ne (tgt := 237) hx hb dX7_takesE_194 (by decide) (fun c_50 => ?_) (fun c_50 => ?_)
        · have h := h.1 c_50
          exact J237 _ hK28 x1 x2 mNx mFr mTk mVa mEn mCs mAt mHd mCod mWts mTes h _ _ hP hD hS ls (lv_sub hl [0, 1, 2] rfl)
        · have h := h.2 c_50
          refine lv_iload_n hx hb dX7_takesE_197 rfl (lv_at hl 1 rfl) ?_
          refine lv_if_le (tgt := 237) hx hb dX7_takesE_198 (by decide) (fun c_51 => ?_) (fun c_51 => ?_)
          · have h := h.1 c_51
            exact J237 _ hK28 x1 x2 mNx mFr mTk mVa mEn mCs mAt mHd mCod mWts mTes h _ _ hP hD hS ls (lv_sub hl [0, 1, 2] rfl)
          · have h := h.2 c_51
            refine lv_aload_n hx hb dX7_takesE_201 rfl (lv_at hl 0 rfl) ?_
            refine lv_iconst (v := 0) hx hb dX7_takesE_202 (by decide) ?_
            have hPc := hP
            have hDc := hD
            have hFc := rc_freeI hD hS hA
            refine va_callv (va_runV (As := [.int 0]) (rest := []) ⟨hx, hb, hml, hown, hts⟩ (c_X7_settle l E mo mn mi ma ml mt mb mr mp mk mq mc mw mz ms mf mu mv mx mh mA mB mC mM mT H.size mHI mFC mLC mCg mTp mNx mFr mTk mVa mEn mKe mCs mAt mHd mWg mNow mImg mAsd mLea mLat mBst mRsk mTap mKys mKat mCod mWts mTes mStk mFct mSor mSiz mCel mHol mHoA mHoB mHoC mMov mTel 0 _ h) (cwV 1 hts gX7_takesE_X7_settle rfl rfl rfl (by decide +kernel) ⟨Nat.le_of_ble_eq_true rfl, Nat.le_of_ble_eq_true rfl⟩) ⟨fun a U g mk q => ⟨q.1, q.2.blind⟩, va_recv hK hPc (ci := 7) (q0 := 0) rfl rfl, fun U hU hW => ⟨rfl, by rw [hU], by rw [hU]; exact hPc, hE.call hS hFc hW hU, hDc.weaken (fun _ _ _ _ => trivial)⟩⟩ rfl rfl hl.1 rfl (lv_room (Nat.le_of_ble_eq_true rfl)) dX7_takesE_203 ⟨Nat.zero_le _, Nat.zero_le _⟩) hS (fun q _ h => hFc q h) hFc (fun u t H1 locs ht hvm h hB hz1 hk1 hS => ?_)
            obtain ⟨w_52, w_53, w_54⟩ := u
            obtain ⟨hP1, hD1⟩ := hB
            rw [ht] at hP1
            have hP := hP1
            have hD := hD1.weaken (fun _ _ _ h => hFc _ h)
            generalize H1 = H at hP hS ⊢
            have hP : va_P E.1 vwCl (rw_24 E mo mn mi ma ml mt mb mr mp mk mq mc mw mz ms mf mu mv mx mh mA mB mC mM mT mHI mFC mLC mCg mTp mNx mFr mTk mVa mEn mKe w_52 mAt w_53 mWg mNow mImg mAsd mLea mLat mBst mRsk mTap mKys mKat w_54 mWts mTes mStk mFct mSor mSiz mCel mHol mHoA mHoB mHoC mMov mTel) H := hP
            have hD : va_D A (rw_24 E mo mn mi ma ml mt mb mr mp mk mq mc mw mz ms mf mu mv mx mh mA mB mC mM mT mHI mFC mLC mCg mTp mNx mFr mTk mVa mEn mKe w_52 mAt w_53 mWg mNow mImg mAsd mLea mLat mBst mRsk mTap mKys mKat w_54 mWts mTes mStk mFct mSor mSiz mCel mHol mHoA mHoB mHoC mMov mTel) := hD
            refine lv_aload_n hx hb dX7_takesE_206 rfl (lv_at hl 0 rfl) ?_
            refine lv_dup hx hb dX7_takesE_207 rfl ?_
            refine va_get (D := E.1) (ci := 7) (v := .int w_53) (C := RX7) (T := TX7) (N := 39) hx hb hts n_X7 hown hK hP 0 rfl rfl 25 (by decide) k_214 (fun _ h9 => h9) rfl dX7_takesE_208 ?_
            refine lv_iconst (v := 1) hx hb dX7_takesE_211 (by decide) ?_
            refine lv_isub hx hb dX7_takesE_212 ?_
            refine va_put (D := E.1) (ci := 7) (v := .int (w_53 - 1)) (ty := .int) (C := RX7) (T := TX7) (N := 39) hx hb hts n_X7 tyX7 tyX7_ok nmX7 hown hK hP hD hS 0 rfl rfl 25 (by decide) k_214 (fun _ h9 => h9) rfl (by decide +kernel) rfl rfl (Nat.le_of_ble_eq_true rfl) dX7_takesE_213 (fun H locs hP hD hS => ?_)
            have hP : va_P E.1 vwCl (rw_24 E mo mn mi ma ml mt mb mr mp mk mq mc mw mz ms mf mu mv mx mh mA mB mC mM mT mHI mFC mLC mCg mTp mNx mFr mTk mVa mEn mKe w_52 mAt (w_53 - 1) mWg mNow mImg mAsd mLea mLat mBst mRsk mTap mKys mKat w_54 mWts mTes mStk mFct mSor mSiz mCel mHol mHoA mHoB mHoC mMov mTel) H := hP
            have hD : va_D A (rw_24 E mo mn mi ma ml mt mb mr mp mk mq mc mw mz ms mf mu mv mx mh mA mB mC mM mT mHI mFC mLC mCg mTp mNx mFr mTk mVa mEn mKe w_52 mAt (w_53 - 1) mWg mNow mImg mAsd mLea mLat mBst mRsk mTap mKys mKat w_54 mWts mTes mStk mFct mSor mSiz mCel mHol mHoA mHoB mHoC mMov mTel) := hD
            refine lv_iinc (v := x1 + (-1)) (lv' := [(1, .int (x1 + (-1))), (0, .ref mo), (2, .int x2), (3, .int x3)]) hx hb dX7_takesE_216 hl (k := 1) rfl (by rfl) (by decide) rfl (fun ls hl => ?_)
            refine lv_aload_n hx hb dX7_takesE_219 rfl (lv_at hl 1 rfl) ?_
            refine lv_bipush (v := 6) hx hb dX7_takesE_220 (by decide) ?_
            have hPc := hP
            have hDc := hD
            have hFc := rc_freeI hD hS hA
            refine va_callv (va_runV (As := [.int 6]) (rest := []) ⟨hx, hb, hml, hown, hts⟩ (c_X7_settle l E mo mn mi ma ml mt mb mr mp mk mq mc mw mz ms mf mu mv mx mh mA mB mC mM mT H.size mHI mFC mLC mCg mTp mNx mFr mTk mVa mEn mKe w_52 mAt (w_53 - 1) mWg mNow mImg mAsd mLea mLat mBst mRsk mTap mKys mKat w_54 mWts mTes mStk mFct mSor mSiz mCel mHol mHoA mHoB mHoC mMov mTel 6 _ h) (cwV 1 hts gX7_takesE_X7_settle rfl rfl rfl (by decide +kernel) ⟨Nat.le_of_ble_eq_true rfl, Nat.le_of_ble_eq_true rfl⟩) ⟨fun a U g mk q => ⟨q.1, q.2.blind⟩, va_recv hK hPc (ci := 7) (q0 := 0) rfl rfl, fun U hU hW => ⟨rfl, by rw [hU], by rw [hU]; exact hPc, hE.call hS hFc hW hU, hDc.weaken (fun _ _ _ _ => trivial)⟩⟩ rfl rfl hl.1 rfl (lv_room (Nat.le_of_ble_eq_true rfl)) dX7_takesE_222 ⟨Nat.zero_le _, Nat.zero_le _⟩) hS (fun q _ h => hFc q h) hFc (fun u t H1 locs ht hvm h hB hz1 hk1 hS => ?_)
            obtain ⟨w_55, w_56, w_57⟩ := u
            obtain ⟨hP1, hD1⟩ := hB
            rw [ht] at hP1
            have hP := hP1
            have hD := hD1.weaken (fun _ _ _ h => hFc _ h)
            generalize H1 = H at hP hS ⊢
            have hP : va_P E.1 vwCl (rw_24 E mo mn mi ma ml mt mb mr mp mk mq mc mw mz ms mf mu mv mx mh mA mB mC mM mT mHI mFC mLC mCg mTp mNx mFr mTk mVa mEn mKe w_55 mAt w_56 mWg mNow mImg mAsd mLea mLat mBst mRsk mTap mKys mKat w_57 mWts mTes mStk mFct mSor mSiz mCel mHol mHoA mHoB mHoC mMov mTel) H := hP
            have hD : va_D A (rw_24 E mo mn mi ma ml mt mb mr mp mk mq mc mw mz ms mf mu mv mx mh mA mB mC mM mT mHI mFC mLC mCg mTp mNx mFr mTk mVa mEn mKe w_55 mAt w_56 mWg mNow mImg mAsd mLea mLat mBst mRsk mTap mKys mKat w_57 mWts mTes mStk mFct mSor mSiz mCel mHol mHoA mHoB mHoC mMov mTel) := hD
            refine lv_aload_n hx hb dX7_takesE_225 rfl (lv_at hl 1 rfl) ?_
            have hPc := hP
            have hDc := hD
            have hFc := rc_freeI hD hS hA
            refine va_calli (va_runV (As := []) (rest := []) ⟨hx, hb, hml, hown, hts⟩ (c_X7_notsOpen l E mo mn mi ma ml mt mb mr mp mk mq mc mw mz ms mf mu mv mx mh mA mB mC mM mT H.size mHI mFC mLC mCg mTp mNx mFr mTk mVa mEn mKe w_55 mAt w_56 mWg mNow mImg mAsd mLea mLat mBst mRsk mTap mKys mKat w_57 mWts mTes mStk mFct mSor mSiz mCel mHol mHoA mHoB mHoC mMov mTel _ h) (cwV 0 hts gX7_takesE_X7_notsOpen rfl rfl rfl (by decide +kernel) ⟨Nat.le_of_ble_eq_true rfl, Nat.le_of_ble_eq_true rfl⟩) ⟨fun a U g mk q => ⟨q.1, q.2.blind⟩, va_recv hK hPc (ci := 7) (q0 := 0) rfl rfl, fun U hU hW => ⟨rfl, by rw [hU], by rw [hU]; exact hPc, hE.call hS hFc hW hU, hDc.weaken (fun _ _ _ _ => trivial)⟩⟩ rfl rfl hl.1 rfl (lv_room (Nat.le_of_ble_eq_true rfl)) dX7_takesE_226 ⟨Nat.zero_le _, Nat.zero_le _⟩) hS (fun q _ h => hFc q h) hFc (fun r_58 u t H1 locs ht hvm h hB hz1 hk1 hS => ?_)
            obtain ⟨hP1, hD1⟩ := hB
            rw [ht] at hP1
            have hP := hP1
            have hD := hD1.weaken (fun _ _ _ h => hFc _ h)
            generalize H1 = H at hP hS ⊢
            have hP : va_P E.1 vwCl (rw_24 E mo mn mi ma ml mt mb mr mp mk mq mc mw mz ms mf mu mv mx mh mA mB mC mM mT mHI mFC mLC mCg mTp mNx mFr mTk mVa mEn mKe w_55 mAt w_56 mWg mNow mImg mAsd mLea mLat mBst mRsk mTap mKys mKat w_57 mWts mTes mStk mFct mSor mSiz mCel mHol mHoA mHoB mHoC mMov mTel) H := hP
            have hD : va_D A (rw_24 E mo mn mi ma ml mt mb mr mp mk mq mc mw mz ms mf mu mv mx mh mA mB mC mM mT mHI mFC mLC mCg mTp mNx mFr mTk mVa mEn mKe w_55 mAt w_56 mWg mNow mImg mAsd mLea mLat mBst mRsk mTap mKys mKat w_57 mWts mTes mStk mFct mSor mSiz mCel mHol mHoA mHoB mHoC mMov mTel) := hD
            refine lv_istore_n (lv' := [(2, .int r_58), (1, .int (x1 + (-1))), (0, .ref mo), (3, .int x3)]) hx hb dX7_takesE_229 rfl hl (by decide) rfl (fun ls hl => ?_)
            refine lv_aload_n hx hb dX7_takesE_230 rfl (lv_at hl 2 rfl) ?_
            have hPc := hP
            have hDc := hD
            have hFc := rc_freeI hD hS hA
            refine va_callv (va_runV (As := []) (rest := []) ⟨hx, hb, hml, hown, hts⟩ (c_X7_go l E mo mn mi ma ml mt mb mr mp mk mq mc mw mz ms mf mu mv mx mh mA mB mC mM mT H.size mHI mFC mLC mCg mTp mNx mFr mTk mVa mEn mKe w_55 mAt w_56 mWg mNow mImg mAsd mLea mLat mBst mRsk mTap mKys mKat w_57 mWts mTes mStk mFct mSor mSiz mCel mHol mHoA mHoB mHoC mMov mTel _ h) (cwV 0 hts gX7_takesE_X7_go rfl rfl rfl (by decide +kernel) ⟨Nat.le_of_ble_eq_true rfl, Nat.le_of_ble_eq_true rfl⟩) ⟨fun a U g mk q => ⟨q.1, q.2.blind⟩, va_recv hK hPc (ci := 7) (q0 := 0) rfl rfl, fun U hU hW => ⟨rfl, by rw [hU], by rw [hU]; exact hPc, hE.call hS hFc hW hU, hDc.weaken (fun _ _ _ _ => trivial)⟩⟩ rfl rfl hl.1 rfl (lv_room (Nat.le_of_ble_eq_true rfl)) dX7_takesE_231 ⟨Nat.zero_le _, Nat.zero_le _⟩) hS (fun q _ h => hFc q h) hFc (fun u t H1 locs ht hvm h hB hz1 hk1 hS => ?_)
            obtain ⟨w_59, w_60, w_61, w_62, w_63⟩ := u
            obtain ⟨hP1, hD1⟩ := hB
            rw [ht] at hP1
            have hP := hP1
            have hD := hD1.weaken (fun _ _ _ h => hFc _ h)
            generalize H1 = H at hP hS ⊢
            have hP : va_P E.1 vwCl (rw_24 E mo mn mi ma ml mt mb mr mp mk mq mc mw mz ms mf mu mv mx mh mA mB mC mM mT mHI mFC mLC mCg mTp w_59 w_60 w_61 w_62 w_63 mKe w_55 mAt w_56 mWg mNow mImg mAsd mLea mLat mBst mRsk mTap mKys mKat w_57 mWts mTes mStk mFct mSor mSiz mCel mHol mHoA mHoB mHoC mMov mTel) H := hP
            have hD : va_D A (rw_24 E mo mn mi ma ml mt mb mr mp mk mq mc mw mz ms mf mu mv mx mh mA mB mC mM mT mHI mFC mLC mCg mTp w_59 w_60 w_61 w_62 w_63 mKe w_55 mAt w_56 mWg mNow mImg mAsd mLea mLat mBst mRsk mTap mKys mKat w_57 mWts mTes mStk mFct mSor mSiz mCel mHol mHoA mHoB mHoC mMov mTel) := hD
            refine lv_goto (tgt := 28) hx hb dX7_takesE_234 (by decide) ?_
            exact hK28 (x1 + (-1)) r_58 x3 w_59 w_60 w_61 w_62 w_63 w_55 mAt w_56 w_57 mWts mTes h _ _ hP hD hS ls (lv_sub hl [2, 1, 0, 3] rfl)
    · have h := h.2 c_48
      refine lv_aload_n hx hb dX7_takesE_43 rfl (lv_at hl 0 rfl) ?_
      refine va_get (D := E.1) (ci := 7) (v := .int mTk) (C := RX7) (T := TX7) (N := 39) hx hb hts n_X7 hown hK hP 0 rfl rfl 15 (by decide) k_196 (fun _ h9 => h9) rfl dX7_takesE_44 ?_
      refine lv_iconst (v := 3) hx hb dX7_takesE_47 (by decide) ?_
      refine lv_icmp_ne (tgt := 97) hx hb dX7_takesE_48 (by decide) (fun c_64 => ?_) (fun c_64 => ?_)
      · have h := h.1 c_64
        exact J97 _ hK28 x1 x3 mNx mFr mTk mVa mEn mCs mAt mHd mCod mWts mTes h _ _ hP hD hS ls (lv_sub hl [0, 1, 3] rfl)
      · have h := h.2 c_64
        refine lv_aload_n hx hb dX7_takesE_51 rfl (lv_at hl 0 rfl) ?_
        refine va_get (D := E.1) (ci := 7) (v := .int mVa) (C := RX7) (T := TX7) (N := 39) hx hb hts n_X7 hown hK hP 0 rfl rfl 16 (by decide) k_202 (fun _ h9 => h9) rfl dX7_takesE_52 ?_
        refine lv_bipush (v := 33) hx hb dX7_takesE_55 (by decide) ?_
        refine lv_icmp_ne (tgt := 97) hx hb dX7_takesE_57 (by decide) (fun c_65 => ?_) (fun c_65 => ?_)
        · have h := h.1 c_65
          exact J97 _ hK28 x1 x3 mNx mFr mTk mVa mEn mCs mAt mHd mCod mWts mTes h _ _ hP hD hS ls (lv_sub hl [0, 1, 3] rfl)
        · have h := h.2 c_65
          refine lv_iload_n hx hb dX7_takesE_60 rfl (lv_at hl 2 rfl) ?_
          refine lv_bipush (v := 8) hx hb dX7_takesE_61 (by decide) ?_
          refine lv_icmp_ge (tgt := 97) hx hb dX7_takesE_63 (by decide) (fun c_66 => ?_) (fun c_66 => ?_)
          · have h := h.1 c_66
            exact J97 _ hK28 x1 x3 mNx mFr mTk mVa mEn mCs mAt mHd mCod mWts mTes h _ _ hP hD hS ls (lv_sub hl [0, 1, 3] rfl)
          · have h := h.2 c_66
            refine lv_aload_n hx hb dX7_takesE_66 rfl (lv_at hl 0 rfl) ?_
            refine va_get (D := E.1) (ci := 7) (v := .ref mw) (C := RX7) (T := TX7) (N := 39) hx hb hts n_X7 hown hK hP 0 rfl rfl 24 (by decide) k_44 (fun _ h9 => h9) rfl dX7_takesE_67 ?_
            refine lv_aload_n hx hb dX7_takesE_70 rfl (lv_at hl 0 rfl) ?_
            refine va_get (D := E.1) (ci := 7) (v := .int mHd) (C := RX7) (T := TX7) (N := 39) hx hb hts n_X7 hown hK hP 0 rfl rfl 25 (by decide) k_214 (fun _ h9 => h9) rfl dX7_takesE_71 ?_
            refine lv_bipush (v := (-10)) hx hb dX7_takesE_74 (by decide) ?_
            obtain ⟨o_67, h⟩ := h
            refine rc_iast hx hb hK hP hD hS 12 0 rfl rfl mHd.toNatClampNeg rfl o_67 dX7_takesE_76 (fun H locs hP hD hS => ?_)
            have hP : va_P E.1 vwCl (rw_24 E mo mn mi ma ml mt mb mr mp mk mq mc mw mz ms mf mu mv mx mh mA mB mC mM mT mHI mFC mLC mCg mTp mNx mFr mTk mVa mEn mKe mCs mAt mHd mWg mNow mImg mAsd mLea mLat mBst mRsk mTap mKys mKat mCod (upd mWts mHd.toNatClampNeg (-10)) mTes mStk mFct mSor mSiz mCel mHol mHoA mHoB mHoC mMov mTel) H := hP
            have hD : va_D A (rw_24 E mo mn mi ma ml mt mb mr mp mk mq mc mw mz ms mf mu mv mx mh mA mB mC mM mT mHI mFC mLC mCg mTp mNx mFr mTk mVa mEn mKe mCs mAt mHd mWg mNow mImg mAsd mLea mLat mBst mRsk mTap mKys mKat mCod (upd mWts mHd.toNatClampNeg (-10)) mTes mStk mFct mSor mSiz mCel mHol mHoA mHoB mHoC mMov mTel) := hD
            refine lv_aload_n hx hb dX7_takesE_77 rfl (lv_at hl 0 rfl) ?_
            refine lv_dup hx hb dX7_takesE_78 rfl ?_
            refine va_get (D := E.1) (ci := 7) (v := .int mHd) (C := RX7) (T := TX7) (N := 39) hx hb hts n_X7 hown hK hP 0 rfl rfl 25 (by decide) k_214 (fun _ h9 => h9) rfl dX7_takesE_79 ?_
            refine lv_iconst (v := 1) hx hb dX7_takesE_82 (by decide) ?_
            refine lv_iadd hx hb dX7_takesE_83 ?_
            refine va_put (D := E.1) (ci := 7) (v := .int (mHd + 1)) (ty := .int) (C := RX7) (T := TX7) (N := 39) hx hb hts n_X7 tyX7 tyX7_ok nmX7 hown hK hP hD hS 0 rfl rfl 25 (by decide) k_214 (fun _ h9 => h9) rfl (by decide +kernel) rfl rfl (Nat.le_of_ble_eq_true rfl) dX7_takesE_84 (fun H locs hP hD hS => ?_)
            have hP : va_P E.1 vwCl (rw_24 E mo mn mi ma ml mt mb mr mp mk mq mc mw mz ms mf mu mv mx mh mA mB mC mM mT mHI mFC mLC mCg mTp mNx mFr mTk mVa mEn mKe mCs mAt (mHd + 1) mWg mNow mImg mAsd mLea mLat mBst mRsk mTap mKys mKat mCod (upd mWts mHd.toNatClampNeg (-10)) mTes mStk mFct mSor mSiz mCel mHol mHoA mHoB mHoC mMov mTel) H := hP
            have hD : va_D A (rw_24 E mo mn mi ma ml mt mb mr mp mk mq mc mw mz ms mf mu mv mx mh mA mB mC mM mT mHI mFC mLC mCg mTp mNx mFr mTk mVa mEn mKe mCs mAt (mHd + 1) mWg mNow mImg mAsd mLea mLat mBst mRsk mTap mKys mKat mCod (upd mWts mHd.toNatClampNeg (-10)) mTes mStk mFct mSor mSiz mCel mHol mHoA mHoB mHoC mMov mTel) := hD
            refine lv_iinc (v := x2 + 1) (lv' := [(2, .int (x2 + 1)), (0, .ref mo), (1, .int x1), (3, .int x3)]) hx hb dX7_takesE_87 hl (k := 2) rfl (by rfl) (by decide) rfl (fun ls hl => ?_)
            refine lv_aload_n hx hb dX7_takesE_90 rfl (lv_at hl 1 rfl) ?_
            have hPc := hP
            have hDc := hD
            have hFc := rc_freeI hD hS hA
            refine va_callv (va_runV (As := []) (rest := []) ⟨hx, hb, hml, hown, hts⟩ (c_X7_go l E mo mn mi ma ml mt mb mr mp mk mq mc mw mz ms mf mu mv mx mh mA mB mC mM mT H.size mHI mFC mLC mCg mTp mNx mFr mTk mVa mEn mKe mCs mAt (mHd + 1) mWg mNow mImg mAsd mLea mLat mBst mRsk mTap mKys mKat mCod (upd mWts mHd.toNatClampNeg (-10)) mTes mStk mFct mSor mSiz mCel mHol mHoA mHoB mHoC mMov mTel _ h) (cwV 0 hts gX7_takesE_X7_go rfl rfl rfl (by decide +kernel) ⟨Nat.le_of_ble_eq_true rfl, Nat.le_of_ble_eq_true rfl⟩) ⟨fun a U g mk q => ⟨q.1, q.2.blind⟩, va_recv hK hPc (ci := 7) (q0 := 0) rfl rfl, fun U hU hW => ⟨rfl, by rw [hU], by rw [hU]; exact hPc, hE.call hS hFc hW hU, hDc.weaken (fun _ _ _ _ => trivial)⟩⟩ rfl rfl hl.1 rfl (lv_room (Nat.le_of_ble_eq_true rfl)) dX7_takesE_91 ⟨Nat.zero_le _, Nat.zero_le _⟩) hS (fun q _ h => hFc q h) hFc (fun u t H1 locs ht hvm h hB hz1 hk1 hS => ?_)
            obtain ⟨w_68, w_69, w_70, w_71, w_72⟩ := u
            obtain ⟨hP1, hD1⟩ := hB
            rw [ht] at hP1
            have hP := hP1
            have hD := hD1.weaken (fun _ _ _ h => hFc _ h)
            generalize H1 = H at hP hS ⊢
            have hP : va_P E.1 vwCl (rw_24 E mo mn mi ma ml mt mb mr mp mk mq mc mw mz ms mf mu mv mx mh mA mB mC mM mT mHI mFC mLC mCg mTp w_68 w_69 w_70 w_71 w_72 mKe mCs mAt (mHd + 1) mWg mNow mImg mAsd mLea mLat mBst mRsk mTap mKys mKat mCod (upd mWts mHd.toNatClampNeg (-10)) mTes mStk mFct mSor mSiz mCel mHol mHoA mHoB mHoC mMov mTel) H := hP
            have hD : va_D A (rw_24 E mo mn mi ma ml mt mb mr mp mk mq mc mw mz ms mf mu mv mx mh mA mB mC mM mT mHI mFC mLC mCg mTp w_68 w_69 w_70 w_71 w_72 mKe mCs mAt (mHd + 1) mWg mNow mImg mAsd mLea mLat mBst mRsk mTap mKys mKat mCod (upd mWts mHd.toNatClampNeg (-10)) mTes mStk mFct mSor mSiz mCel mHol mHoA mHoB mHoC mMov mTel) := hD
            refine lv_goto (tgt := 172) hx hb dX7_takesE_94 (by decide) ?_
            refine lv_aload_n hx hb dX7_takesE_172 rfl (lv_at hl 1 rfl) ?_
            have hPc := hP
            have hDc := hD
            have hFc := rc_freeI hD hS hA
            refine va_calli (va_runV (As := []) (rest := []) ⟨hx, hb, hml, hown, hts⟩ (c_X7_notsOpen l E mo mn mi ma ml mt mb mr mp mk mq mc mw mz ms mf mu mv mx mh mA mB mC mM mT H.size mHI mFC mLC mCg mTp w_68 w_69 w_70 w_71 w_72 mKe mCs mAt (mHd + 1) mWg mNow mImg mAsd mLea mLat mBst mRsk mTap mKys mKat mCod (upd mWts mHd.toNatClampNeg (-10)) mTes mStk mFct mSor mSiz mCel mHol mHoA mHoB mHoC mMov mTel _ h) (cwV 0 hts gX7_takesE_X7_notsOpen rfl rfl rfl (by decide +kernel) ⟨Nat.le_of_ble_eq_true rfl, Nat.le_of_ble_eq_true rfl⟩) ⟨fun a U g mk q => ⟨q.1, q.2.blind⟩, va_recv hK hPc (ci := 7) (q0 := 0) rfl rfl, fun U hU hW => ⟨rfl, by rw [hU], by rw [hU]; exact hPc, hE.call hS hFc hW hU, hDc.weaken (fun _ _ _ _ => trivial)⟩⟩ rfl rfl hl.1 rfl (lv_room (Nat.le_of_ble_eq_true rfl)) dX7_takesE_173 ⟨Nat.zero_le _, Nat.zero_le _⟩) hS (fun q _ h => hFc q h) hFc (fun r_73 u t H1 locs ht hvm h hB hz1 hk1 hS => ?_)
            obtain ⟨hP1, hD1⟩ := hB
            rw [ht] at hP1
            have hP := hP1
            have hD := hD1.weaken (fun _ _ _ h => hFc _ h)
            generalize H1 = H at hP hS ⊢
            have hP : va_P E.1 vwCl (rw_24 E mo mn mi ma ml mt mb mr mp mk mq mc mw mz ms mf mu mv mx mh mA mB mC mM mT mHI mFC mLC mCg mTp w_68 w_69 w_70 w_71 w_72 mKe mCs mAt (mHd + 1) mWg mNow mImg mAsd mLea mLat mBst mRsk mTap mKys mKat mCod (upd mWts mHd.toNatClampNeg (-10)) mTes mStk mFct mSor mSiz mCel mHol mHoA mHoB mHoC mMov mTel) H := hP
            have hD : va_D A (rw_24 E mo mn mi ma ml mt mb mr mp mk mq mc mw mz ms mf mu mv mx mh mA mB mC mM mT mHI mFC mLC mCg mTp w_68 w_69 w_70 w_71 w_72 mKe mCs mAt (mHd + 1) mWg mNow mImg mAsd mLea mLat mBst mRsk mTap mKys mKat mCod (upd mWts mHd.toNatClampNeg (-10)) mTes mStk mFct mSor mSiz mCel mHol mHoA mHoB mHoC mMov mTel) := hD
            refine lv_istore_n (lv' := [(2, .int r_73), (0, .ref mo), (1, .int x1), (3, .int x3)]) hx hb dX7_takesE_176 rfl hl (by decide) rfl (fun ls hl => ?_)
            refine lv_goto (tgt := 28) hx hb dX7_takesE_177 (by decide) ?_
            exact hK28 x1 r_73 x3 w_68 w_69 w_70 w_71 w_72 mCs mAt (mHd + 1) mCod (upd mWts mHd.toNatClampNeg (-10)) mTes h _ _ hP hD hS ls (lv_sub hl [1, 2, 0, 3] rfl)
  have J28 : ∀ (n : Nat) (x1 : Int32) (x2 : Int32) (x3 : Int32) (mNx : Int32) (mFr : Int32) (mTk : Int32) (mVa : Int32) (mEn : Int32) (mCs : Int32) (mAt : Int32) (mHd : Int32) (mCod : Nat → Int32) (mWts : Nat → Int32) (mTes : Nat → Int32), lp_X7_takesE_28 mTp mKe mTap Q n x1 x2 x3 mNx mFr mTk mVa mEn mCs mAt mHd mCod mWts mTes → ∀ (H : Heap) (locs : List Loc), va_P E.1 vwCl (rw_24 E mo mn mi ma ml mt mb mr mp mk mq mc mw mz ms mf mu mv mx mh mA mB mC mM mT mHI mFC mLC mCg mTp mNx mFr mTk mVa mEn mKe mCs mAt mHd mWg mNow mImg mAsd mLea mLat mBst mRsk mTap mKys mKat mCod mWts mTes mStk mFct mSor mSiz mCel mHol mHoA mHoB mHoC mMov mTel) H → va_D A (rw_24 E mo mn mi ma ml mt mb mr mp mk mq mc mw mz ms mf mu mv mx mh mA mB mC mM mT mHI mFC mLC mCg mTp mNx mFr mTk mVa mEn mKe mCs mAt mHd mWg mNow mImg mAsd mLea mLat mBst mRsk mTap mKys mKat mCod mWts mTes mStk mFct mSor mSiz mCel mHol mHoA mHoB mHoC mMov mTel) → va_S A s.heap H locs → ∀ ls : Array Slot, lv_has ls 5 [(0, .ref mo), (1, .int x1), (2, .int x2), (3, .int x3)] → W p l e ({ frames := 3, cells := 0, slots := 0, locals := 63 } : Room) s m args below meth c H locs 0 0 QQ (F0 m 28 ls []) := by
    intro n
    induction n with
    | zero =>
      intro x1 x2 x3 mNx mFr mTk mVa mEn mCs mAt mHd mCod mWts mTes h
      exact False.elim h
    | succ n ih =>
      intro x1 x2 x3 mNx mFr mTk mVa mEn mCs mAt mHd mCod mWts mTes h H locs hP hD hS ls hl
      have h : lp_X7_takesE_28F mTp mKe mTap Q (lp_X7_takesE_28 mTp mKe mTap Q n) x1 x2 x3 mNx mFr mTk mVa mEn mCs mAt mHd mCod mWts mTes := h
      unfold lp_X7_takesE_28F at h
      refine lv_iload_n hx hb dX7_takesE_28 rfl (lv_at hl 3 rfl) ?_
      refine lv_if_ne (tgt := 39) hx hb dX7_takesE_29 (by decide) (fun c_74 => ?_) (fun c_74 => ?_)
      · have h := h.1 c_74
        exact J39 _ (fun v0 v1 v2 v3 v4 v5 v6 v7 v8 v9 v10 v11 v12 v13 h => ih v0 v1 v2 v3 v4 v5 v6 v7 v8 v9 v10 v11 v12 v13 h) x1 x2 x3 mNx mFr mTk mVa mEn mCs mAt mHd mCod mWts mTes h _ _ hP hD hS ls (lv_sub hl [0, 1, 2, 3] rfl)
      · have h := h.2 c_74
        refine lv_aload_n hx hb dX7_takesE_32 rfl (lv_at hl 0 rfl) ?_
        refine va_get (D := E.1) (ci := 7) (v := .int mTk) (C := RX7) (T := TX7) (N := 39) hx hb hts n_X7 hown hK hP 0 rfl rfl 15 (by decide) k_196 (fun _ h9 => h9) rfl dX7_takesE_33 ?_
        refine lv_if_eq (tgt := 345) hx hb dX7_takesE_36 (by decide) (fun c_75 => ?_) (fun c_75 => ?_)
        · have h := h.1 c_75
          refine lv_aload_n hx hb dX7_takesE_345 rfl (lv_at hl 0 rfl) ?_
          refine lv_iconst (v := 0) hx hb dX7_takesE_346 (by decide) ?_
          have hPc := hP
          have hDc := hD
          have hFc := rc_freeI hD hS hA
          refine va_callv (va_runV (As := [.int 0]) (rest := []) ⟨hx, hb, hml, hown, hts⟩ (c_X7_settle l E mo mn mi ma ml mt mb mr mp mk mq mc mw mz ms mf mu mv mx mh mA mB mC mM mT H.size mHI mFC mLC mCg mTp mNx mFr mTk mVa mEn mKe mCs mAt mHd mWg mNow mImg mAsd mLea mLat mBst mRsk mTap mKys mKat mCod mWts mTes mStk mFct mSor mSiz mCel mHol mHoA mHoB mHoC mMov mTel 0 _ h) (cwV 1 hts gX7_takesE_X7_settle rfl rfl rfl (by decide +kernel) ⟨Nat.le_of_ble_eq_true rfl, Nat.le_of_ble_eq_true rfl⟩) ⟨fun a U g mk q => ⟨q.1, q.2.blind⟩, va_recv hK hPc (ci := 7) (q0 := 0) rfl rfl, fun U hU hW => ⟨rfl, by rw [hU], by rw [hU]; exact hPc, hE.call hS hFc hW hU, hDc.weaken (fun _ _ _ _ => trivial)⟩⟩ rfl rfl hl.1 rfl (lv_room (Nat.le_of_ble_eq_true rfl)) dX7_takesE_347 ⟨Nat.zero_le _, Nat.zero_le _⟩) hS (fun q _ h => hFc q h) hFc (fun u t H1 locs ht hvm h hB hz1 hk1 hS => ?_)
          obtain ⟨w_76, w_77, w_78⟩ := u
          obtain ⟨hP1, hD1⟩ := hB
          rw [ht] at hP1
          have hP := hP1
          have hD := hD1.weaken (fun _ _ _ h => hFc _ h)
          generalize H1 = H at hP hS ⊢
          have hP : va_P E.1 vwCl (rw_24 E mo mn mi ma ml mt mb mr mp mk mq mc mw mz ms mf mu mv mx mh mA mB mC mM mT mHI mFC mLC mCg mTp mNx mFr mTk mVa mEn mKe w_76 mAt w_77 mWg mNow mImg mAsd mLea mLat mBst mRsk mTap mKys mKat w_78 mWts mTes mStk mFct mSor mSiz mCel mHol mHoA mHoB mHoC mMov mTel) H := hP
          have hD : va_D A (rw_24 E mo mn mi ma ml mt mb mr mp mk mq mc mw mz ms mf mu mv mx mh mA mB mC mM mT mHI mFC mLC mCg mTp mNx mFr mTk mVa mEn mKe w_76 mAt w_77 mWg mNow mImg mAsd mLea mLat mBst mRsk mTap mKys mKat w_78 mWts mTes mStk mFct mSor mSiz mCel mHol mHoA mHoB mHoC mMov mTel) := hD
          refine lv_iload_n hx hb dX7_takesE_350 rfl (lv_at hl 1 rfl) ?_
          refine lv_if_ne (tgt := 358) hx hb dX7_takesE_351 (by decide) (fun c_79 => ?_) (fun c_79 => ?_)
          · have h := h.1 c_79
            refine lv_iconst (v := 0) hx hb dX7_takesE_358 (by decide) ?_
            exact hret _ _ _ _ 0 (mNx, mFr, mTk, mVa, mEn, w_76, mAt, w_77, w_78, mWts, mTes) (by decide) h hP hD hS dX7_takesE_359
          · have h := h.2 c_79
            refine lv_iconst (v := 1) hx hb dX7_takesE_354 (by decide) ?_
            refine lv_goto (tgt := 359) hx hb dX7_takesE_355 (by decide) ?_
            exact hret _ _ _ _ 1 (mNx, mFr, mTk, mVa, mEn, w_76, mAt, w_77, w_78, mWts, mTes) (by decide) h hP hD hS dX7_takesE_359
        · have h := h.2 c_75
          exact J39 _ (fun v0 v1 v2 v3 v4 v5 v6 v7 v8 v9 v10 v11 v12 v13 h => ih v0 v1 v2 v3 v4 v5 v6 v7 v8 v9 v10 v11 v12 v13 h) x1 x2 x3 mNx mFr mTk mVa mEn mCs mAt mHd mCod mWts mTes h _ _ hP hD hS ls (lv_sub hl [0, 1, 2, 3] rfl)
  unfold wp_X7_takesE at h
  obtain ⟨H, hH⟩ : ∃ H, H = s.heap := ⟨_, rfl⟩
  obtain ⟨locs, hlocs⟩ : ∃ locs : List Loc, locs = [] := ⟨_, rfl⟩
  have hP : va_P E.1 vwCl (rw_24 E mo mn mi ma ml mt mb mr mp mk mq mc mw mz ms mf mu mv mx mh mA mB mC mM mT mHI mFC mLC mCg mTp mNx mFr mTk mVa mEn mKe mCs mAt mHd mWg mNow mImg mAsd mLea mLat mBst mRsk mTap mKys mKat mCod mWts mTes mStk mFct mSor mSiz mCel mHol mHoA mHoB mHoC mMov mTel) H := by rw [hH]; exact hP
  have hS : va_S A s.heap H locs := by rw [hH, hlocs]; exact hS
  suffices hgo : W p l e ({ frames := 3, cells := 0, slots := 0, locals := 63 } : Room) s m args below meth c H locs 0 0 QQ (F0 m 0 ls []) from by rw [hH, hlocs] at hgo; exact hgo
  refine lv_iconst (v := 0) hx hb dX7_takesE_0 (by decide) ?_
  refine lv_istore_n (lv' := [(1, .int 0), (0, .ref mo)]) hx hb dX7_takesE_1 rfl hl (by decide) rfl (fun ls hl => ?_)
  refine lv_iconst (v := 0) hx hb dX7_takesE_2 (by decide) ?_
  refine lv_istore_n (lv' := [(2, .int 0), (1, .int 0), (0, .ref mo)]) hx hb dX7_takesE_3 rfl hl (by decide) rfl (fun ls hl => ?_)
  refine lv_iconst (v := 1) hx hb dX7_takesE_4 (by decide) ?_
  refine lv_istore_n (lv' := [(3, .int 1), (2, .int 0), (1, .int 0), (0, .ref mo)]) hx hb dX7_takesE_5 rfl hl (by decide) rfl (fun ls hl => ?_)
  refine lv_aload_n hx hb dX7_takesE_6 rfl (lv_at hl 3 rfl) ?_
  refine lv_iconst (v := 0) hx hb dX7_takesE_7 (by decide) ?_
  refine va_put (D := E.1) (ci := 7) (v := .int 0) (ty := .int) (C := RX7) (T := TX7) (N := 39) hx hb hts n_X7 tyX7 tyX7_ok nmX7 hown hK hP hD hS 0 rfl rfl 22 (by decide) k_220 (fun _ h9 => h9) rfl (by decide +kernel) rfl rfl (Nat.le_of_ble_eq_true rfl) dX7_takesE_8 (fun H locs hP hD hS => ?_)
  have hP : va_P E.1 vwCl (rw_24 E mo mn mi ma ml mt mb mr mp mk mq mc mw mz ms mf mu mv mx mh mA mB mC mM mT mHI mFC mLC mCg mTp mNx mFr mTk mVa mEn mKe 0 mAt mHd mWg mNow mImg mAsd mLea mLat mBst mRsk mTap mKys mKat mCod mWts mTes mStk mFct mSor mSiz mCel mHol mHoA mHoB mHoC mMov mTel) H := hP
  have hD : va_D A (rw_24 E mo mn mi ma ml mt mb mr mp mk mq mc mw mz ms mf mu mv mx mh mA mB mC mM mT mHI mFC mLC mCg mTp mNx mFr mTk mVa mEn mKe 0 mAt mHd mWg mNow mImg mAsd mLea mLat mBst mRsk mTap mKys mKat mCod mWts mTes mStk mFct mSor mSiz mCel mHol mHoA mHoB mHoC mMov mTel) := hD
  refine lv_aload_n hx hb dX7_takesE_11 rfl (lv_at hl 3 rfl) ?_
  refine lv_iconst (v := 0) hx hb dX7_takesE_12 (by decide) ?_
  refine va_put (D := E.1) (ci := 7) (v := .int 0) (ty := .int) (C := RX7) (T := TX7) (N := 39) hx hb hts n_X7 tyX7 tyX7_ok nmX7 hown hK hP hD hS 0 rfl rfl 23 (by decide) k_226 (fun _ h9 => h9) rfl (by decide +kernel) rfl rfl (Nat.le_of_ble_eq_true rfl) dX7_takesE_13 (fun H locs hP hD hS => ?_)
  have hP : va_P E.1 vwCl (rw_24 E mo mn mi ma ml mt mb mr mp mk mq mc mw mz ms mf mu mv mx mh mA mB mC mM mT mHI mFC mLC mCg mTp mNx mFr mTk mVa mEn mKe 0 0 mHd mWg mNow mImg mAsd mLea mLat mBst mRsk mTap mKys mKat mCod mWts mTes mStk mFct mSor mSiz mCel mHol mHoA mHoB mHoC mMov mTel) H := hP
  have hD : va_D A (rw_24 E mo mn mi ma ml mt mb mr mp mk mq mc mw mz ms mf mu mv mx mh mA mB mC mM mT mHI mFC mLC mCg mTp mNx mFr mTk mVa mEn mKe 0 0 mHd mWg mNow mImg mAsd mLea mLat mBst mRsk mTap mKys mKat mCod mWts mTes mStk mFct mSor mSiz mCel mHol mHoA mHoB mHoC mMov mTel) := hD
  refine lv_aload_n hx hb dX7_takesE_16 rfl (lv_at hl 3 rfl) ?_
  refine lv_iconst (v := 0) hx hb dX7_takesE_17 (by decide) ?_
  refine va_put (D := E.1) (ci := 7) (v := .int 0) (ty := .int) (C := RX7) (T := TX7) (N := 39) hx hb hts n_X7 tyX7 tyX7_ok nmX7 hown hK hP hD hS 0 rfl rfl 25 (by decide) k_214 (fun _ h9 => h9) rfl (by decide +kernel) rfl rfl (Nat.le_of_ble_eq_true rfl) dX7_takesE_18 (fun H locs hP hD hS => ?_)
  have hP : va_P E.1 vwCl (rw_24 E mo mn mi ma ml mt mb mr mp mk mq mc mw mz ms mf mu mv mx mh mA mB mC mM mT mHI mFC mLC mCg mTp mNx mFr mTk mVa mEn mKe 0 0 0 mWg mNow mImg mAsd mLea mLat mBst mRsk mTap mKys mKat mCod mWts mTes mStk mFct mSor mSiz mCel mHol mHoA mHoB mHoC mMov mTel) H := hP
  have hD : va_D A (rw_24 E mo mn mi ma ml mt mb mr mp mk mq mc mw mz ms mf mu mv mx mh mA mB mC mM mT mHI mFC mLC mCg mTp mNx mFr mTk mVa mEn mKe 0 0 0 mWg mNow mImg mAsd mLea mLat mBst mRsk mTap mKys mKat mCod mWts mTes mStk mFct mSor mSiz mCel mHol mHoA mHoB mHoC mMov mTel) := hD
  refine lv_aload_n hx hb dX7_takesE_21 rfl (lv_at hl 3 rfl) ?_
  refine va_get (D := E.1) (ci := 7) (v := .ref mz) (C := RX7) (T := TX7) (N := 39) hx hb hts n_X7 hown hK hP 0 rfl rfl 26 (by decide) k_47 (fun _ h9 => h9) rfl dX7_takesE_22 ?_
  refine lv_iconst (v := 0) hx hb dX7_takesE_25 (by decide) ?_
  refine lv_iconst (v := 0) hx hb dX7_takesE_26 (by decide) ?_
  refine rc_zast hx hb hK hP hD hS 13 2 rfl rfl 0 (by decide) (by decide) (by unfold vp_in; decide) dX7_takesE_27 (fun H locs hP hD hS => ?_)
  have hP : va_P E.1 vwCl (rw_24 E mo mn mi ma ml mt mb mr mp mk mq mc mw mz ms mf mu mv mx mh mA mB mC mM mT mHI mFC mLC mCg mTp mNx mFr mTk mVa mEn mKe 0 0 0 mWg mNow mImg mAsd mLea mLat mBst mRsk mTap mKys mKat mCod mWts (upd mTes 0 0) mStk mFct mSor mSiz mCel mHol mHoA mHoB mHoC mMov mTel) H := hP
  have hD : va_D A (rw_24 E mo mn mi ma ml mt mb mr mp mk mq mc mw mz ms mf mu mv mx mh mA mB mC mM mT mHI mFC mLC mCg mTp mNx mFr mTk mVa mEn mKe 0 0 0 mWg mNow mImg mAsd mLea mLat mBst mRsk mTap mKys mKat mCod mWts (upd mTes 0 0) mStk mFct mSor mSiz mCel mHol mHoA mHoB mHoC mMov mTel) := hD
  obtain ⟨n, h⟩ := h
  exact J28 n 0 0 1 mNx mFr mTk mVa mEn 0 0 0 mCod mWts (upd mTes 0 0) h _ _ hP hD hS ls (lv_sub hl [3, 2, 1, 0] rfl)
def lp_X7_text_117F   (Q : Int32 → Int32 → Int32 → Int32 → Int32 → Int32 → Int32 → Int32 → Int32 → Int32 → Int32 → (Nat → Int32) → (Nat → Int32) → (Nat → Int32) → (Nat → Int32) → Prop) (R : Int32 → Int32 → Int32 → Int32 → Int32 → Int32 → Int32 → Int32 → Int32 → Int32 → Int32 → Int32 → (Nat → Int32) → (Nat → Int32) → (Nat → Int32) → (Nat → Int32) → Prop) (x2 : Int32) (x3 : Int32) (mTp : Int32) (mNx : Int32) (mFr : Int32) (mTk : Int32) (mVa : Int32) (mEn : Int32) (mKe : Int32) (mCs : Int32) (mAt : Int32) (mHd : Int32) (mNow : Nat → Int32) (mCod : Nat → Int32) (mWts : Nat → Int32) (mTes : Nat → Int32) : Prop :=
  ((mCs ≤ x3 → Q x2 mTp mNx mFr mTk mVa mEn mKe mCs mAt mHd (upd mNow 8 ((mNow 8) + 1)) mCod mWts mTes) ∧ (¬ (mCs ≤ x3) → (vp_in x3 96 ∧ (vp_in ((109 + (96 * x2)) + x3) 1453 ∧ R x2 (x3 + 1) mTp mNx mFr mTk mVa mEn mKe mCs mAt mHd (upd mNow (((109 + (96 * x2)) + x3).toNatClampNeg) (mCod x3.toNatClampNeg)) mCod mWts mTes))))
def lp_X7_text_117   (Q : Int32 → Int32 → Int32 → Int32 → Int32 → Int32 → Int32 → Int32 → Int32 → Int32 → Int32 → (Nat → Int32) → (Nat → Int32) → (Nat → Int32) → (Nat → Int32) → Prop) (n : Nat) : Int32 → Int32 → Int32 → Int32 → Int32 → Int32 → Int32 → Int32 → Int32 → Int32 → Int32 → Int32 → (Nat → Int32) → (Nat → Int32) → (Nat → Int32) → (Nat → Int32) → Prop :=
  Nat.rec (motive := fun _ => Int32 → Int32 → Int32 → Int32 → Int32 → Int32 → Int32 → Int32 → Int32 → Int32 → Int32 → Int32 → (Nat → Int32) → (Nat → Int32) → (Nat → Int32) → (Nat → Int32) → Prop) (fun _ _ _ _ _ _ _ _ _ _ _ _ _ _ _ _ => False) (fun _ r => lp_X7_text_117F Q r) n
def jp_X7_text_33   (Q : Int32 → Int32 → Int32 → Int32 → Int32 → Int32 → Int32 → Int32 → Int32 → Int32 → Int32 → (Nat → Int32) → (Nat → Int32) → (Nat → Int32) → (Nat → Int32) → Prop) (y0 : Int32) (mTp : Int32) (mNx : Int32) (mFr : Int32) (mTk : Int32) (mVa : Int32) (mEn : Int32) (mKe : Int32) (mCs : Int32) (mAt : Int32) (mHd : Int32) (mNow : Nat → Int32) (mCod : Nat → Int32) (mWts : Nat → Int32) (mTes : Nat → Int32) : Prop :=
  ((¬ y0 = 0 → ((¬ (mNow 8) = 14 → (vp_in (81 + (2 * (mNow 8))) 1453 ∧ (vp_in ((81 + (2 * (mNow 8))) + 1) 1453 ∧ (∃ n : Nat, lp_X7_text_117 Q n (mNow 8) 0 0 mNx mFr mTk mVa mEn mKe mCs mAt mHd (upd (upd mNow ((81 + (2 * (mNow 8))).toNatClampNeg) ((1000 * mKe) + mCs)) (((81 + (2 * (mNow 8))) + 1).toNatClampNeg) mAt) mCod mWts mTes)))) ∧ ((mNow 8) = 14 → Q (-1000000003) 0 mNx mFr mTk mVa mEn mKe mCs mAt mHd mNow mCod mWts mTes))) ∧ (y0 = 0 → Q ((-100) - mFr) 0 mNx mFr mTk mVa mEn mKe mCs mAt mHd mNow mCod mWts mTes))
def wp_X7_text (mTp : Int32) (mFr : Int32) (mTk : Int32) (mVa : Int32) (mKe : Int32) (mCs : Int32) (mAt : Int32) (mHd : Int32) (mNow : Nat → Int32) (mTap : Nat → Int32) (mKys : Nat → Int32) (mKat : Nat → Int32) (mCod : Nat → Int32) (mWts : Nat → Int32) (mTes : Nat → Int32) (Q : Int32 → Int32 → Int32 → Int32 → Int32 → Int32 → Int32 → Int32 → Int32 → Int32 → Int32 → (Nat → Int32) → (Nat → Int32) → (Nat → Int32) → (Nat → Int32) → Prop) : Prop :=
  wp_X7_go mTp 0 mFr mTk mVa (-1) mTap (fun (w_8 : Int32) (w_9 : Int32) (w_10 : Int32) (w_11 : Int32) (w_12 : Int32) => wp_X7_takesKey mTp w_8 w_9 w_10 w_11 w_12 mKe mTap mKys mKat (fun (r_13 : Int32) (w_14 : Int32) (w_15 : Int32) (w_16 : Int32) (w_17 : Int32) (w_18 : Int32) (w_19 : Int32) => ((r_13 = 0 → jp_X7_text_33 Q 0 mTp w_14 w_15 w_16 w_17 w_18 w_19 mCs mAt mHd mNow mCod mWts mTes) ∧ (¬ (r_13 = 0) → wp_X7_takesE mTp w_14 w_15 w_16 w_17 w_18 w_19 mTap mCod mWts mTes (fun (r_21 : Int32) (w_22 : Int32) (w_23 : Int32) (w_24 : Int32) (w_25 : Int32) (w_26 : Int32) (w_27 : Int32) (w_28 : Int32) (w_29 : Int32) (w_30 : Nat → Int32) (w_31 : Nat → Int32) (w_32 : Nat → Int32) => ((r_21 = 0 → jp_X7_text_33 Q 0 mTp w_22 w_23 w_24 w_25 w_26 w_19 w_27 w_28 w_29 mNow w_30 w_31 w_32) ∧ (¬ (r_21 = 0) → jp_X7_text_33 Q 1 mTp w_22 w_23 w_24 w_25 w_26 w_19 w_27 w_28 w_29 mNow w_30 w_31 w_32)))))))
set_option maxHeartbeats 4000000 in
set_option maxRecDepth 100000 in
theorem c_X7_text (l : Launch) (E : gE) (mo mn mi ma ml mt mb mr mp mk mq mc mw mz ms mf mu mv mx mh mA mB mC mM mT : Nat) (sz : Nat) (mHI : Int32) (mFC : Int32) (mLC : Int32) (mCg : Int32) (mTp : Int32) (mNx : Int32) (mFr : Int32) (mTk : Int32) (mVa : Int32) (mEn : Int32) (mKe : Int32) (mCs : Int32) (mAt : Int32) (mHd : Int32) (mWg : Int32) (mNow : Nat → Int32) (mImg : Nat → Int32) (mAsd : Nat → Int32) (mLea : Nat → Int32) (mLat : Nat → Int32) (mBst : Nat → Int32) (mRsk : Nat → Int32) (mTap : Nat → Int32) (mKys : Nat → Int32) (mKat : Nat → Int32) (mCod : Nat → Int32) (mWts : Nat → Int32) (mTes : Nat → Int32) (mStk : Nat → Int32) (mFct : Nat → Int32) (mSor : Nat → Int32) (mSiz : Nat → Int32) (mCel : Nat → Int32) (mHol : Nat → Int32) (mHoA : Nat → Int32) (mHoB : Nat → Int32) (mHoC : Nat → Int32) (mMov : Nat → Int32) (mTel : Nat → Int32)   (Q : Int32 → Int32 → Int32 → Int32 → Int32 → Int32 → Int32 → Int32 → Int32 → Int32 → Int32 → (Nat → Int32) → (Nat → Int32) → (Nat → Int32) → (Nat → Int32) → Prop) (h : wp_X7_text mTp mFr mTk mVa mKe mCs mAt mHd mNow mTap mKys mKat mCod mWts mTes Q) : Met l yX7_text wsX7_text ({ frames := 4, cells := 0, slots := 0, locals := 87 } : Room) (va_Pc [.ref mo] (rc_B E (rw_24 E mo mn mi ma ml mt mb mr mp mk mq mc mw mz ms mf mu mv mx mh mA mB mC mM mT mHI mFC mLC mCg mTp mNx mFr mTk mVa mEn mKe mCs mAt mHd mWg mNow mImg mAsd mLea mLat mBst mRsk mTap mKys mKat mCod mWts mTes mStk mFct mSor mSiz mCel mHol mHoA mHoB mHoC mMov mTel) sz)) (va_Qi (S := Int32 × Int32 × Int32 × Int32 × Int32 × Int32 × Int32 × Int32 × Int32 × Int32 × (Nat → Int32) × (Nat → Int32) × (Nat → Int32) × (Nat → Int32)) (fun (r : Int32) (u : Int32 × Int32 × Int32 × Int32 × Int32 × Int32 × Int32 × Int32 × Int32 × Int32 × (Nat → Int32) × (Nat → Int32) × (Nat → Int32) × (Nat → Int32)) => Q r u.1 u.2.1 u.2.2.1 u.2.2.2.1 u.2.2.2.2.1 u.2.2.2.2.2.1 u.2.2.2.2.2.2.1 u.2.2.2.2.2.2.2.1 u.2.2.2.2.2.2.2.2.1 u.2.2.2.2.2.2.2.2.2.1 u.2.2.2.2.2.2.2.2.2.2.1 u.2.2.2.2.2.2.2.2.2.2.2.1 u.2.2.2.2.2.2.2.2.2.2.2.2.1 u.2.2.2.2.2.2.2.2.2.2.2.2.2) (fun u t => rc_C E (va_A (rw_24 E mo mn mi ma ml mt mb mr mp mk mq mc mw mz ms mf mu mv mx mh mA mB mC mM mT mHI mFC mLC mCg mTp mNx mFr mTk mVa mEn mKe mCs mAt mHd mWg mNow mImg mAsd mLea mLat mBst mRsk mTap mKys mKat mCod mWts mTes mStk mFct mSor mSiz mCel mHol mHoA mHoB mHoC mMov mTel) sz) (rw_24 E mo mn mi ma ml mt mb mr mp mk mq mc mw mz ms mf mu mv mx mh mA mB mC mM mT mHI mFC mLC mCg u.1 u.2.1 u.2.2.1 u.2.2.2.1 u.2.2.2.2.1 u.2.2.2.2.2.1 u.2.2.2.2.2.2.1 u.2.2.2.2.2.2.2.1 u.2.2.2.2.2.2.2.2.1 u.2.2.2.2.2.2.2.2.2.1 mWg u.2.2.2.2.2.2.2.2.2.2.1 mImg mAsd mLea mLat mBst mRsk mTap mKys mKat u.2.2.2.2.2.2.2.2.2.2.2.1 u.2.2.2.2.2.2.2.2.2.2.2.2.1 u.2.2.2.2.2.2.2.2.2.2.2.2.2 mStk mFct mSor mSiz mCel mHol mHoA mHoB mHoC mMov mTel) t) (va_A (rw_24 E mo mn mi ma ml mt mb mr mp mk mq mc mw mz ms mf mu mv mx mh mA mB mC mM mT mHI mFC mLC mCg mTp mNx mFr mTk mVa mEn mKe mCs mAt mHd mWg mNow mImg mAsd mLea mLat mBst mRsk mTap mKys mKat mCod mWts mTes mStk mFct mSor mSiz mCel mHol mHoA mHoB mHoC mMov mTel) sz)) 0 0 (va_A (rw_24 E mo mn mi ma ml mt mb mr mp mk mq mc mw mz ms mf mu mv mx mh mA mB mC mM mT mHI mFC mLC mCg mTp mNx mFr mTk mVa mEn mKe mCs mAt mHd mWg mNow mImg mAsd mLea mLat mBst mRsk mTap mKys mKat mCod mWts mTes mStk mFct mSor mSiz mCel mHol mHoA mHoB mHoC mMov mTel) sz) := by
  refine rc_enterI (cc := cX7_text) (maxL := 4) (by decide) rfl (Nat.le_of_ble_eq_true rfl) ?_
  intro p e s m args below meth c QQ A hx hb hml hown hts hmn hE hP hD hA hret ls hl
  have hown : s.vm.findClass RX7 = some m.cls := hown
  have hK := hE.1
  have hS : va_S A s.heap s.heap [] := va_S.rf
  have hl : lv_has ls 4 [(0, .ref mo)] := hl
  have n_X7 : ∀ w ∈ wsX70, w ∈ wsX7_text := fun _ h => List.mem_cons_of_mem _ (List.mem_append_right _ h)
  have k_220 := hts (.fieldLink RX7 220 "RidgeClapsModel" "codes" "I") (List.mem_of_getElem? (i := 8) rfl)
  have k_9 := hts (.fieldLink RX7 9 "RidgeClapsModel" "now" "[I") (List.mem_of_getElem? (i := 5) rfl)
  have k_41 := hts (.fieldLink RX7 41 "RidgeClapsModel" "code" "[I") (List.mem_of_getElem? (i := 10) rfl)
  have k_184 := hts (.fieldLink RX7 184 "RidgeClapsModel" "taped" "I") (List.mem_of_getElem? (i := 3) rfl)
  have k_208 := hts (.fieldLink RX7 208 "RidgeClapsModel" "key" "I") (List.mem_of_getElem? (i := 7) rfl)
  have k_226 := hts (.fieldLink RX7 226 "RidgeClapsModel" "atoms" "I") (List.mem_of_getElem? (i := 9) rfl)
  have k_90 := hts (.constant RX7 90 (-1000000003)) (List.mem_of_getElem? (i := 6) rfl)
  have k_190 := hts (.fieldLink RX7 190 "RidgeClapsModel" "from" "I") (List.mem_of_getElem? (i := 4) rfl)
  have k_187 := hts (.fieldLink RX7 187 "RidgeClapsModel" "next" "I") (List.mem_of_getElem? (i := 1) rfl)
  have k_193 := hts (.fieldLink RX7 193 "RidgeClapsModel" "ended" "I") (List.mem_of_getElem? (i := 2) rfl)
  have J117 : ∀ (n : Nat) (x2 : Int32) (x3 : Int32) (mTp : Int32) (mNx : Int32) (mFr : Int32) (mTk : Int32) (mVa : Int32) (mEn : Int32) (mKe : Int32) (mCs : Int32) (mAt : Int32) (mHd : Int32) (mNow : Nat → Int32) (mCod : Nat → Int32) (mWts : Nat → Int32) (mTes : Nat → Int32), lp_X7_text_117 Q n x2 x3 mTp mNx mFr mTk mVa mEn mKe mCs mAt mHd mNow mCod mWts mTes → ∀ (H : Heap) (locs : List Loc), va_P E.1 vwCl (rw_24 E mo mn mi ma ml mt mb mr mp mk mq mc mw mz ms mf mu mv mx mh mA mB mC mM mT mHI mFC mLC mCg mTp mNx mFr mTk mVa mEn mKe mCs mAt mHd mWg mNow mImg mAsd mLea mLat mBst mRsk mTap mKys mKat mCod mWts mTes mStk mFct mSor mSiz mCel mHol mHoA mHoB mHoC mMov mTel) H → va_D A (rw_24 E mo mn mi ma ml mt mb mr mp mk mq mc mw mz ms mf mu mv mx mh mA mB mC mM mT mHI mFC mLC mCg mTp mNx mFr mTk mVa mEn mKe mCs mAt mHd mWg mNow mImg mAsd mLea mLat mBst mRsk mTap mKys mKat mCod mWts mTes mStk mFct mSor mSiz mCel mHol mHoA mHoB mHoC mMov mTel) → va_S A s.heap H locs → ∀ ls : Array Slot, lv_has ls 4 [(0, .ref mo), (2, .int x2), (3, .int x3)] → W p l e ({ frames := 4, cells := 0, slots := 0, locals := 87 } : Room) s m args below meth c H locs 0 0 QQ (F0 m 117 ls []) := by
    intro n
    induction n with
    | zero =>
      intro x2 x3 mTp mNx mFr mTk mVa mEn mKe mCs mAt mHd mNow mCod mWts mTes h
      exact False.elim h
    | succ n ih =>
      intro x2 x3 mTp mNx mFr mTk mVa mEn mKe mCs mAt mHd mNow mCod mWts mTes h H locs hP hD hS ls hl
      have h : lp_X7_text_117F Q (lp_X7_text_117 Q n) x2 x3 mTp mNx mFr mTk mVa mEn mKe mCs mAt mHd mNow mCod mWts mTes := h
      unfold lp_X7_text_117F at h
      refine lv_iload_n hx hb dX7_text_117 rfl (lv_at hl 2 rfl) ?_
      refine lv_aload_n hx hb dX7_text_118 rfl (lv_at hl 0 rfl) ?_
      refine va_get (D := E.1) (ci := 7) (v := .int mCs) (C := RX7) (T := TX7) (N := 39) hx hb hts n_X7 hown hK hP 0 rfl rfl 22 (by decide) k_220 (fun _ h9 => h9) rfl dX7_text_119 ?_
      refine lv_icmp_ge (tgt := 151) hx hb dX7_text_122 (by decide) (fun c_1 => ?_) (fun c_1 => ?_)
      · have h := h.1 c_1
        refine lv_aload_n hx hb dX7_text_151 rfl (lv_at hl 0 rfl) ?_
        refine va_get (D := E.1) (ci := 7) (v := .ref mn) (C := RX7) (T := TX7) (N := 39) hx hb hts n_X7 hown hK hP 0 rfl rfl 0 (by decide) k_9 (fun _ h9 => h9) rfl dX7_text_152 ?_
        refine lv_bipush (v := 8) hx hb dX7_text_155 (by decide) ?_
        refine lv_dup2_11 hx hb dX7_text_157 rfl rfl ?_
        refine rc_iald hx hb hK hP 1 0 rfl rfl 8 (by decide) (by unfold vp_in; decide) dX7_text_158 ?_
        refine lv_iconst (v := 1) hx hb dX7_text_159 (by decide) ?_
        refine lv_iadd hx hb dX7_text_160 ?_
        refine rc_iast hx hb hK hP hD hS 1 0 rfl rfl 8 (by decide) (by unfold vp_in; decide) dX7_text_161 (fun H locs hP hD hS => ?_)
        have hP : va_P E.1 vwCl (rw_24 E mo mn mi ma ml mt mb mr mp mk mq mc mw mz ms mf mu mv mx mh mA mB mC mM mT mHI mFC mLC mCg mTp mNx mFr mTk mVa mEn mKe mCs mAt mHd mWg (upd mNow 8 ((mNow 8) + 1)) mImg mAsd mLea mLat mBst mRsk mTap mKys mKat mCod mWts mTes mStk mFct mSor mSiz mCel mHol mHoA mHoB mHoC mMov mTel) H := hP
        have hD : va_D A (rw_24 E mo mn mi ma ml mt mb mr mp mk mq mc mw mz ms mf mu mv mx mh mA mB mC mM mT mHI mFC mLC mCg mTp mNx mFr mTk mVa mEn mKe mCs mAt mHd mWg (upd mNow 8 ((mNow 8) + 1)) mImg mAsd mLea mLat mBst mRsk mTap mKys mKat mCod mWts mTes mStk mFct mSor mSiz mCel mHol mHoA mHoB mHoC mMov mTel) := hD
        refine lv_iload_n hx hb dX7_text_162 rfl (lv_at hl 1 rfl) ?_
        exact hret _ _ _ _ x2 (mTp, mNx, mFr, mTk, mVa, mEn, mKe, mCs, mAt, mHd, upd mNow 8 ((mNow 8) + 1), mCod, mWts, mTes) rfl h hP hD hS dX7_text_163
      · have h := h.2 c_1
        refine lv_aload_n hx hb dX7_text_125 rfl (lv_at hl 0 rfl) ?_
        refine va_get (D := E.1) (ci := 7) (v := .ref mn) (C := RX7) (T := TX7) (N := 39) hx hb hts n_X7 hown hK hP 0 rfl rfl 0 (by decide) k_9 (fun _ h9 => h9) rfl dX7_text_126 ?_
        refine lv_bipush (v := 109) hx hb dX7_text_129 (by decide) ?_
        refine lv_bipush (v := 96) hx hb dX7_text_131 (by decide) ?_
        refine lv_iload_n hx hb dX7_text_133 rfl (lv_at hl 1 rfl) ?_
        refine lv_imul hx hb dX7_text_134 ?_
        refine lv_iadd hx hb dX7_text_135 ?_
        refine lv_iload_n hx hb dX7_text_136 rfl (lv_at hl 2 rfl) ?_
        refine lv_iadd hx hb dX7_text_137 ?_
        refine lv_aload_n hx hb dX7_text_138 rfl (lv_at hl 0 rfl) ?_
        refine va_get (D := E.1) (ci := 7) (v := .ref mc) (C := RX7) (T := TX7) (N := 39) hx hb hts n_X7 hown hK hP 0 rfl rfl 21 (by decide) k_41 (fun _ h9 => h9) rfl dX7_text_139 ?_
        refine lv_iload_n hx hb dX7_text_142 rfl (lv_at hl 2 rfl) ?_
        obtain ⟨o_2, h⟩ := h
        refine rc_iald hx hb hK hP 11 0 rfl rfl x3.toNatClampNeg rfl o_2 dX7_text_143 ?_
        obtain ⟨o_3, h⟩ := h
        refine rc_iast hx hb hK hP hD hS 1 0 rfl rfl (((109 + (96 * x2)) + x3).toNatClampNeg) rfl o_3 dX7_text_144 (fun H locs hP hD hS => ?_)
        have hP : va_P E.1 vwCl (rw_24 E mo mn mi ma ml mt mb mr mp mk mq mc mw mz ms mf mu mv mx mh mA mB mC mM mT mHI mFC mLC mCg mTp mNx mFr mTk mVa mEn mKe mCs mAt mHd mWg (upd mNow (((109 + (96 * x2)) + x3).toNatClampNeg) (mCod x3.toNatClampNeg)) mImg mAsd mLea mLat mBst mRsk mTap mKys mKat mCod mWts mTes mStk mFct mSor mSiz mCel mHol mHoA mHoB mHoC mMov mTel) H := hP
        have hD : va_D A (rw_24 E mo mn mi ma ml mt mb mr mp mk mq mc mw mz ms mf mu mv mx mh mA mB mC mM mT mHI mFC mLC mCg mTp mNx mFr mTk mVa mEn mKe mCs mAt mHd mWg (upd mNow (((109 + (96 * x2)) + x3).toNatClampNeg) (mCod x3.toNatClampNeg)) mImg mAsd mLea mLat mBst mRsk mTap mKys mKat mCod mWts mTes mStk mFct mSor mSiz mCel mHol mHoA mHoB mHoC mMov mTel) := hD
        refine lv_iinc (v := x3 + 1) (lv' := [(3, .int (x3 + 1)), (0, .ref mo), (2, .int x2)]) hx hb dX7_text_145 hl (k := 2) rfl (by rfl) (by decide) rfl (fun ls hl => ?_)
        refine lv_goto (tgt := 117) hx hb dX7_text_148 (by decide) ?_
        exact ih x2 (x3 + 1) mTp mNx mFr mTk mVa mEn mKe mCs mAt mHd (upd mNow (((109 + (96 * x2)) + x3).toNatClampNeg) (mCod x3.toNatClampNeg)) mCod mWts mTes h _ _ hP hD hS ls (lv_sub hl [1, 2, 0] rfl)
  have J33 : ∀ (y0 : Int32) (mTp : Int32) (mNx : Int32) (mFr : Int32) (mTk : Int32) (mVa : Int32) (mEn : Int32) (mKe : Int32) (mCs : Int32) (mAt : Int32) (mHd : Int32) (mNow : Nat → Int32) (mCod : Nat → Int32) (mWts : Nat → Int32) (mTes : Nat → Int32), jp_X7_text_33 Q y0 mTp mNx mFr mTk mVa mEn mKe mCs mAt mHd mNow mCod mWts mTes → ∀ (H : Heap) (locs : List Loc), va_P E.1 vwCl (rw_24 E mo mn mi ma ml mt mb mr mp mk mq mc mw mz ms mf mu mv mx mh mA mB mC mM mT mHI mFC mLC mCg mTp mNx mFr mTk mVa mEn mKe mCs mAt mHd mWg mNow mImg mAsd mLea mLat mBst mRsk mTap mKys mKat mCod mWts mTes mStk mFct mSor mSiz mCel mHol mHoA mHoB mHoC mMov mTel) H → va_D A (rw_24 E mo mn mi ma ml mt mb mr mp mk mq mc mw mz ms mf mu mv mx mh mA mB mC mM mT mHI mFC mLC mCg mTp mNx mFr mTk mVa mEn mKe mCs mAt mHd mWg mNow mImg mAsd mLea mLat mBst mRsk mTap mKys mKat mCod mWts mTes mStk mFct mSor mSiz mCel mHol mHoA mHoB mHoC mMov mTel) → va_S A s.heap H locs → ∀ ls : Array Slot, lv_has ls 4 [(0, .ref mo)] → W p l e ({ frames := 4, cells := 0, slots := 0, locals := 87 } : Room) s m args below meth c H locs 0 0 QQ (F0 m 33 ls [.int y0]) := by
    intro y0 mTp mNx mFr mTk mVa mEn mKe mCs mAt mHd mNow mCod mWts mTes h H locs hP hD hS ls hl
    unfold jp_X7_text_33 at h
    refine lv_istore_n (lv' := [(1, .int y0), (0, .ref mo)]) hx hb dX7_text_33 rfl hl (by decide) rfl (fun ls hl => ?_)
    refine lv_aload_n hx hb dX7_text_34 rfl (lv_at hl 1 rfl) ?_
    refine lv_iconst (v := 0) hx hb dX7_text_35 (by decide) ?_
    refine va_put (D := E.1) (ci := 7) (v := .int 0) (ty := .int) (C := RX7) (T := TX7) (N := 39) hx hb hts n_X7 tyX7 tyX7_ok nmX7 hown hK hP hD hS 0 rfl rfl 12 (by decide) k_184 (fun _ h9 => h9) rfl (by decide +kernel) rfl rfl (Nat.le_of_ble_eq_true rfl) dX7_text_36 (fun H locs hP hD hS => ?_)
    have hP : va_P E.1 vwCl (rw_24 E mo mn mi ma ml mt mb mr mp mk mq mc mw mz ms mf mu mv mx mh mA mB mC mM mT mHI mFC mLC mCg 0 mNx mFr mTk mVa mEn mKe mCs mAt mHd mWg mNow mImg mAsd mLea mLat mBst mRsk mTap mKys mKat mCod mWts mTes mStk mFct mSor mSiz mCel mHol mHoA mHoB mHoC mMov mTel) H := hP
    have hD : va_D A (rw_24 E mo mn mi ma ml mt mb mr mp mk mq mc mw mz ms mf mu mv mx mh mA mB mC mM mT mHI mFC mLC mCg 0 mNx mFr mTk mVa mEn mKe mCs mAt mHd mWg mNow mImg mAsd mLea mLat mBst mRsk mTap mKys mKat mCod mWts mTes mStk mFct mSor mSiz mCel mHol mHoA mHoB mHoC mMov mTel) := hD
    refine lv_iload_n hx hb dX7_text_39 rfl (lv_at hl 0 rfl) ?_
    refine lv_if_ne (tgt := 51) hx hb dX7_text_40 (by decide) (fun c_4 => ?_) (fun c_4 => ?_)
    · have h := h.1 c_4
      refine lv_aload_n hx hb dX7_text_51 rfl (lv_at hl 1 rfl) ?_
      refine va_get (D := E.1) (ci := 7) (v := .ref mn) (C := RX7) (T := TX7) (N := 39) hx hb hts n_X7 hown hK hP 0 rfl rfl 0 (by decide) k_9 (fun _ h9 => h9) rfl dX7_text_52 ?_
      refine lv_bipush (v := 8) hx hb dX7_text_55 (by decide) ?_
      refine rc_iald hx hb hK hP 1 0 rfl rfl 8 (by decide) (by unfold vp_in; decide) dX7_text_57 ?_
      refine lv_bipush (v := 14) hx hb dX7_text_58 (by decide) ?_
      refine lv_icmp_ne (tgt := 66) hx hb dX7_text_60 (by decide) (fun c_5 => ?_) (fun c_5 => ?_)
      · have h := h.1 c_5
        refine lv_aload_n hx hb dX7_text_66 rfl (lv_at hl 1 rfl) ?_
        refine va_get (D := E.1) (ci := 7) (v := .ref mn) (C := RX7) (T := TX7) (N := 39) hx hb hts n_X7 hown hK hP 0 rfl rfl 0 (by decide) k_9 (fun _ h9 => h9) rfl dX7_text_67 ?_
        refine lv_bipush (v := 8) hx hb dX7_text_70 (by decide) ?_
        refine rc_iald hx hb hK hP 1 0 rfl rfl 8 (by decide) (by unfold vp_in; decide) dX7_text_72 ?_
        refine lv_istore_n (lv' := [(2, .int (mNow 8)), (1, .int y0), (0, .ref mo)]) hx hb dX7_text_73 rfl hl (by decide) rfl (fun ls hl => ?_)
        refine lv_aload_n hx hb dX7_text_74 rfl (lv_at hl 2 rfl) ?_
        refine va_get (D := E.1) (ci := 7) (v := .ref mn) (C := RX7) (T := TX7) (N := 39) hx hb hts n_X7 hown hK hP 0 rfl rfl 0 (by decide) k_9 (fun _ h9 => h9) rfl dX7_text_75 ?_
        refine lv_bipush (v := 81) hx hb dX7_text_78 (by decide) ?_
        refine lv_iconst (v := 2) hx hb dX7_text_80 (by decide) ?_
        refine lv_iload_n hx hb dX7_text_81 rfl (lv_at hl 0 rfl) ?_
        refine lv_imul hx hb dX7_text_82 ?_
        refine lv_iadd hx hb dX7_text_83 ?_
        refine lv_sipush (v := 1000) hx hb dX7_text_84 (by decide) ?_
        refine lv_aload_n hx hb dX7_text_87 rfl (lv_at hl 2 rfl) ?_
        refine va_get (D := E.1) (ci := 7) (v := .int mKe) (C := RX7) (T := TX7) (N := 39) hx hb hts n_X7 hown hK hP 0 rfl rfl 18 (by decide) k_208 (fun _ h9 => h9) rfl dX7_text_88 ?_
        refine lv_imul hx hb dX7_text_91 ?_
        refine lv_aload_n hx hb dX7_text_92 rfl (lv_at hl 2 rfl) ?_
        refine va_get (D := E.1) (ci := 7) (v := .int mCs) (C := RX7) (T := TX7) (N := 39) hx hb hts n_X7 hown hK hP 0 rfl rfl 22 (by decide) k_220 (fun _ h9 => h9) rfl dX7_text_93 ?_
        refine lv_iadd hx hb dX7_text_96 ?_
        obtain ⟨o_6, h⟩ := h
        refine rc_iast hx hb hK hP hD hS 1 0 rfl rfl ((81 + (2 * (mNow 8))).toNatClampNeg) rfl o_6 dX7_text_97 (fun H locs hP hD hS => ?_)
        have hP : va_P E.1 vwCl (rw_24 E mo mn mi ma ml mt mb mr mp mk mq mc mw mz ms mf mu mv mx mh mA mB mC mM mT mHI mFC mLC mCg 0 mNx mFr mTk mVa mEn mKe mCs mAt mHd mWg (upd mNow ((81 + (2 * (mNow 8))).toNatClampNeg) ((1000 * mKe) + mCs)) mImg mAsd mLea mLat mBst mRsk mTap mKys mKat mCod mWts mTes mStk mFct mSor mSiz mCel mHol mHoA mHoB mHoC mMov mTel) H := hP
        have hD : va_D A (rw_24 E mo mn mi ma ml mt mb mr mp mk mq mc mw mz ms mf mu mv mx mh mA mB mC mM mT mHI mFC mLC mCg 0 mNx mFr mTk mVa mEn mKe mCs mAt mHd mWg (upd mNow ((81 + (2 * (mNow 8))).toNatClampNeg) ((1000 * mKe) + mCs)) mImg mAsd mLea mLat mBst mRsk mTap mKys mKat mCod mWts mTes mStk mFct mSor mSiz mCel mHol mHoA mHoB mHoC mMov mTel) := hD
        refine lv_aload_n hx hb dX7_text_98 rfl (lv_at hl 2 rfl) ?_
        refine va_get (D := E.1) (ci := 7) (v := .ref mn) (C := RX7) (T := TX7) (N := 39) hx hb hts n_X7 hown hK hP 0 rfl rfl 0 (by decide) k_9 (fun _ h9 => h9) rfl dX7_text_99 ?_
        refine lv_bipush (v := 81) hx hb dX7_text_102 (by decide) ?_
        refine lv_iconst (v := 2) hx hb dX7_text_104 (by decide) ?_
        refine lv_iload_n hx hb dX7_text_105 rfl (lv_at hl 0 rfl) ?_
        refine lv_imul hx hb dX7_text_106 ?_
        refine lv_iadd hx hb dX7_text_107 ?_
        refine lv_iconst (v := 1) hx hb dX7_text_108 (by decide) ?_
        refine lv_iadd hx hb dX7_text_109 ?_
        refine lv_aload_n hx hb dX7_text_110 rfl (lv_at hl 2 rfl) ?_
        refine va_get (D := E.1) (ci := 7) (v := .int mAt) (C := RX7) (T := TX7) (N := 39) hx hb hts n_X7 hown hK hP 0 rfl rfl 23 (by decide) k_226 (fun _ h9 => h9) rfl dX7_text_111 ?_
        obtain ⟨o_7, h⟩ := h
        refine rc_iast hx hb hK hP hD hS 1 0 rfl rfl (((81 + (2 * (mNow 8))) + 1).toNatClampNeg) rfl o_7 dX7_text_114 (fun H locs hP hD hS => ?_)
        have hP : va_P E.1 vwCl (rw_24 E mo mn mi ma ml mt mb mr mp mk mq mc mw mz ms mf mu mv mx mh mA mB mC mM mT mHI mFC mLC mCg 0 mNx mFr mTk mVa mEn mKe mCs mAt mHd mWg (upd (upd mNow ((81 + (2 * (mNow 8))).toNatClampNeg) ((1000 * mKe) + mCs)) (((81 + (2 * (mNow 8))) + 1).toNatClampNeg) mAt) mImg mAsd mLea mLat mBst mRsk mTap mKys mKat mCod mWts mTes mStk mFct mSor mSiz mCel mHol mHoA mHoB mHoC mMov mTel) H := hP
        have hD : va_D A (rw_24 E mo mn mi ma ml mt mb mr mp mk mq mc mw mz ms mf mu mv mx mh mA mB mC mM mT mHI mFC mLC mCg 0 mNx mFr mTk mVa mEn mKe mCs mAt mHd mWg (upd (upd mNow ((81 + (2 * (mNow 8))).toNatClampNeg) ((1000 * mKe) + mCs)) (((81 + (2 * (mNow 8))) + 1).toNatClampNeg) mAt) mImg mAsd mLea mLat mBst mRsk mTap mKys mKat mCod mWts mTes mStk mFct mSor mSiz mCel mHol mHoA mHoB mHoC mMov mTel) := hD
        refine lv_iconst (v := 0) hx hb dX7_text_115 (by decide) ?_
        refine lv_istore_n (lv' := [(3, .int 0), (2, .int (mNow 8)), (1, .int y0), (0, .ref mo)]) hx hb dX7_text_116 rfl hl (by decide) rfl (fun ls hl => ?_)
        obtain ⟨n, h⟩ := h
        exact J117 n (mNow 8) 0 0 mNx mFr mTk mVa mEn mKe mCs mAt mHd (upd (upd mNow ((81 + (2 * (mNow 8))).toNatClampNeg) ((1000 * mKe) + mCs)) (((81 + (2 * (mNow 8))) + 1).toNatClampNeg) mAt) mCod mWts mTes h _ _ hP hD hS ls (lv_sub hl [3, 1, 0] rfl)
      · have h := h.2 c_5
        refine lv_ldc hx hb hown k_90 dX7_text_63 ?_
        exact hret _ _ _ _ (-1000000003) (0, mNx, mFr, mTk, mVa, mEn, mKe, mCs, mAt, mHd, mNow, mCod, mWts, mTes) rfl h hP hD hS dX7_text_65
    · have h := h.2 c_4
      refine lv_bipush (v := (-100)) hx hb dX7_text_43 (by decide) ?_
      refine lv_aload_n hx hb dX7_text_45 rfl (lv_at hl 1 rfl) ?_
      refine va_get (D := E.1) (ci := 7) (v := .int mFr) (C := RX7) (T := TX7) (N := 39) hx hb hts n_X7 hown hK hP 0 rfl rfl 14 (by decide) k_190 (fun _ h9 => h9) rfl dX7_text_46 ?_
      refine lv_isub hx hb dX7_text_49 ?_
      exact hret _ _ _ _ ((-100) - mFr) (0, mNx, mFr, mTk, mVa, mEn, mKe, mCs, mAt, mHd, mNow, mCod, mWts, mTes) rfl h hP hD hS dX7_text_50
  unfold wp_X7_text at h
  obtain ⟨H, hH⟩ : ∃ H, H = s.heap := ⟨_, rfl⟩
  obtain ⟨locs, hlocs⟩ : ∃ locs : List Loc, locs = [] := ⟨_, rfl⟩
  have hP : va_P E.1 vwCl (rw_24 E mo mn mi ma ml mt mb mr mp mk mq mc mw mz ms mf mu mv mx mh mA mB mC mM mT mHI mFC mLC mCg mTp mNx mFr mTk mVa mEn mKe mCs mAt mHd mWg mNow mImg mAsd mLea mLat mBst mRsk mTap mKys mKat mCod mWts mTes mStk mFct mSor mSiz mCel mHol mHoA mHoB mHoC mMov mTel) H := by rw [hH]; exact hP
  have hS : va_S A s.heap H locs := by rw [hH, hlocs]; exact hS
  suffices hgo : W p l e ({ frames := 4, cells := 0, slots := 0, locals := 87 } : Room) s m args below meth c H locs 0 0 QQ (F0 m 0 ls []) from by rw [hH, hlocs] at hgo; exact hgo
  refine lv_aload_n hx hb dX7_text_0 rfl (lv_at hl 0 rfl) ?_
  refine lv_iconst (v := 0) hx hb dX7_text_1 (by decide) ?_
  refine va_put (D := E.1) (ci := 7) (v := .int 0) (ty := .int) (C := RX7) (T := TX7) (N := 39) hx hb hts n_X7 tyX7 tyX7_ok nmX7 hown hK hP hD hS 0 rfl rfl 13 (by decide) k_187 (fun _ h9 => h9) rfl (by decide +kernel) rfl rfl (Nat.le_of_ble_eq_true rfl) dX7_text_2 (fun H locs hP hD hS => ?_)
  have hP : va_P E.1 vwCl (rw_24 E mo mn mi ma ml mt mb mr mp mk mq mc mw mz ms mf mu mv mx mh mA mB mC mM mT mHI mFC mLC mCg mTp 0 mFr mTk mVa mEn mKe mCs mAt mHd mWg mNow mImg mAsd mLea mLat mBst mRsk mTap mKys mKat mCod mWts mTes mStk mFct mSor mSiz mCel mHol mHoA mHoB mHoC mMov mTel) H := hP
  have hD : va_D A (rw_24 E mo mn mi ma ml mt mb mr mp mk mq mc mw mz ms mf mu mv mx mh mA mB mC mM mT mHI mFC mLC mCg mTp 0 mFr mTk mVa mEn mKe mCs mAt mHd mWg mNow mImg mAsd mLea mLat mBst mRsk mTap mKys mKat mCod mWts mTes mStk mFct mSor mSiz mCel mHol mHoA mHoB mHoC mMov mTel) := hD
  refine lv_aload_n hx hb dX7_text_5 rfl (lv_at hl 0 rfl) ?_
  refine lv_iconst (v := (-1)) hx hb dX7_text_6 (by decide) ?_
  refine va_put (D := E.1) (ci := 7) (v := .int (-1)) (ty := .int) (C := RX7) (T := TX7) (N := 39) hx hb hts n_X7 tyX7 tyX7_ok nmX7 hown hK hP hD hS 0 rfl rfl 17 (by decide) k_193 (fun _ h9 => h9) rfl (by decide +kernel) rfl rfl (Nat.le_of_ble_eq_true rfl) dX7_text_7 (fun H locs hP hD hS => ?_)
  have hP : va_P E.1 vwCl (rw_24 E mo mn mi ma ml mt mb mr mp mk mq mc mw mz ms mf mu mv mx mh mA mB mC mM mT mHI mFC mLC mCg mTp 0 mFr mTk mVa (-1) mKe mCs mAt mHd mWg mNow mImg mAsd mLea mLat mBst mRsk mTap mKys mKat mCod mWts mTes mStk mFct mSor mSiz mCel mHol mHoA mHoB mHoC mMov mTel) H := hP
  have hD : va_D A (rw_24 E mo mn mi ma ml mt mb mr mp mk mq mc mw mz ms mf mu mv mx mh mA mB mC mM mT mHI mFC mLC mCg mTp 0 mFr mTk mVa (-1) mKe mCs mAt mHd mWg mNow mImg mAsd mLea mLat mBst mRsk mTap mKys mKat mCod mWts mTes mStk mFct mSor mSiz mCel mHol mHoA mHoB mHoC mMov mTel) := hD
  refine lv_aload_n hx hb dX7_text_10 rfl (lv_at hl 0 rfl) ?_
  have hPc := hP
  have hDc := hD
  have hFc := rc_freeI hD hS hA
  refine va_callv (va_runV (As := []) (rest := []) ⟨hx, hb, hml, hown, hts⟩ (c_X7_go l E mo mn mi ma ml mt mb mr mp mk mq mc mw mz ms mf mu mv mx mh mA mB mC mM mT H.size mHI mFC mLC mCg mTp 0 mFr mTk mVa (-1) mKe mCs mAt mHd mWg mNow mImg mAsd mLea mLat mBst mRsk mTap mKys mKat mCod mWts mTes mStk mFct mSor mSiz mCel mHol mHoA mHoB mHoC mMov mTel _ h) (cwV 0 hts gX7_text_X7_go rfl rfl rfl (by decide +kernel) ⟨Nat.le_of_ble_eq_true rfl, Nat.le_of_ble_eq_true rfl⟩) ⟨fun a U g mk q => ⟨q.1, q.2.blind⟩, va_recv hK hPc (ci := 7) (q0 := 0) rfl rfl, fun U hU hW => ⟨rfl, by rw [hU], by rw [hU]; exact hPc, hE.call hS hFc hW hU, hDc.weaken (fun _ _ _ _ => trivial)⟩⟩ rfl rfl hl.1 rfl (lv_room (Nat.le_of_ble_eq_true rfl)) dX7_text_11 ⟨Nat.zero_le _, Nat.zero_le _⟩) hS (fun q _ h => hFc q h) hFc (fun u t H1 locs ht hvm h hB hz1 hk1 hS => ?_)
  obtain ⟨w_8, w_9, w_10, w_11, w_12⟩ := u
  obtain ⟨hP1, hD1⟩ := hB
  rw [ht] at hP1
  have hP := hP1
  have hD := hD1.weaken (fun _ _ _ h => hFc _ h)
  generalize H1 = H at hP hS ⊢
  have hP : va_P E.1 vwCl (rw_24 E mo mn mi ma ml mt mb mr mp mk mq mc mw mz ms mf mu mv mx mh mA mB mC mM mT mHI mFC mLC mCg mTp w_8 w_9 w_10 w_11 w_12 mKe mCs mAt mHd mWg mNow mImg mAsd mLea mLat mBst mRsk mTap mKys mKat mCod mWts mTes mStk mFct mSor mSiz mCel mHol mHoA mHoB mHoC mMov mTel) H := hP
  have hD : va_D A (rw_24 E mo mn mi ma ml mt mb mr mp mk mq mc mw mz ms mf mu mv mx mh mA mB mC mM mT mHI mFC mLC mCg mTp w_8 w_9 w_10 w_11 w_12 mKe mCs mAt mHd mWg mNow mImg mAsd mLea mLat mBst mRsk mTap mKys mKat mCod mWts mTes mStk mFct mSor mSiz mCel mHol mHoA mHoB mHoC mMov mTel) := hD
  refine lv_aload_n hx hb dX7_text_14 rfl (lv_at hl 0 rfl) ?_
  have hPc := hP
  have hDc := hD
  have hFc := rc_freeI hD hS hA
  refine va_calli (va_runV (As := []) (rest := []) ⟨hx, hb, hml, hown, hts⟩ (c_X7_takesKey l E mo mn mi ma ml mt mb mr mp mk mq mc mw mz ms mf mu mv mx mh mA mB mC mM mT H.size mHI mFC mLC mCg mTp w_8 w_9 w_10 w_11 w_12 mKe mCs mAt mHd mWg mNow mImg mAsd mLea mLat mBst mRsk mTap mKys mKat mCod mWts mTes mStk mFct mSor mSiz mCel mHol mHoA mHoB mHoC mMov mTel _ h) (cwV 0 hts gX7_text_X7_takesKey rfl rfl rfl (by decide +kernel) ⟨Nat.le_of_ble_eq_true rfl, Nat.le_of_ble_eq_true rfl⟩) ⟨fun a U g mk q => ⟨q.1, q.2.blind⟩, va_recv hK hPc (ci := 7) (q0 := 0) rfl rfl, fun U hU hW => ⟨rfl, by rw [hU], by rw [hU]; exact hPc, hE.call hS hFc hW hU, hDc.weaken (fun _ _ _ _ => trivial)⟩⟩ rfl rfl hl.1 rfl (lv_room (Nat.le_of_ble_eq_true rfl)) dX7_text_15 ⟨Nat.zero_le _, Nat.zero_le _⟩) hS (fun q _ h => hFc q h) hFc (fun r_13 u t H1 locs ht hvm h hB hz1 hk1 hS => ?_)
  obtain ⟨w_14, w_15, w_16, w_17, w_18, w_19⟩ := u
  obtain ⟨hP1, hD1⟩ := hB
  rw [ht] at hP1
  have hP := hP1
  have hD := hD1.weaken (fun _ _ _ h => hFc _ h)
  generalize H1 = H at hP hS ⊢
  have hP : va_P E.1 vwCl (rw_24 E mo mn mi ma ml mt mb mr mp mk mq mc mw mz ms mf mu mv mx mh mA mB mC mM mT mHI mFC mLC mCg mTp w_14 w_15 w_16 w_17 w_18 w_19 mCs mAt mHd mWg mNow mImg mAsd mLea mLat mBst mRsk mTap mKys mKat mCod mWts mTes mStk mFct mSor mSiz mCel mHol mHoA mHoB mHoC mMov mTel) H := hP
  have hD : va_D A (rw_24 E mo mn mi ma ml mt mb mr mp mk mq mc mw mz ms mf mu mv mx mh mA mB mC mM mT mHI mFC mLC mCg mTp w_14 w_15 w_16 w_17 w_18 w_19 mCs mAt mHd mWg mNow mImg mAsd mLea mLat mBst mRsk mTap mKys mKat mCod mWts mTes mStk mFct mSor mSiz mCel mHol mHoA mHoB mHoC mMov mTel) := hD
  refine lv_if_eq (tgt := 32) hx hb dX7_text_18 (by decide) (fun c_20 => ?_) (fun c_20 => ?_)
  · have h := h.1 c_20
    refine lv_iconst (v := 0) hx hb dX7_text_32 (by decide) ?_
    exact J33 0 mTp w_14 w_15 w_16 w_17 w_18 w_19 mCs mAt mHd mNow mCod mWts mTes h _ _ hP hD hS ls (lv_sub hl [0] rfl)
  · have h := h.2 c_20
    refine lv_aload_n hx hb dX7_text_21 rfl (lv_at hl 0 rfl) ?_
    have hPc := hP
    have hDc := hD
    have hFc := rc_freeI hD hS hA
    refine va_calli (va_runV (As := []) (rest := []) ⟨hx, hb, hml, hown, hts⟩ (c_X7_takesE l E mo mn mi ma ml mt mb mr mp mk mq mc mw mz ms mf mu mv mx mh mA mB mC mM mT H.size mHI mFC mLC mCg mTp w_14 w_15 w_16 w_17 w_18 w_19 mCs mAt mHd mWg mNow mImg mAsd mLea mLat mBst mRsk mTap mKys mKat mCod mWts mTes mStk mFct mSor mSiz mCel mHol mHoA mHoB mHoC mMov mTel _ h) (cwV 0 hts gX7_text_X7_takesE rfl rfl rfl (by decide +kernel) ⟨Nat.le_of_ble_eq_true rfl, Nat.le_of_ble_eq_true rfl⟩) ⟨fun a U g mk q => ⟨q.1, q.2.blind⟩, va_recv hK hPc (ci := 7) (q0 := 0) rfl rfl, fun U hU hW => ⟨rfl, by rw [hU], by rw [hU]; exact hPc, hE.call hS hFc hW hU, hDc.weaken (fun _ _ _ _ => trivial)⟩⟩ rfl rfl hl.1 rfl (lv_room (Nat.le_of_ble_eq_true rfl)) dX7_text_22 ⟨Nat.zero_le _, Nat.zero_le _⟩) hS (fun q _ h => hFc q h) hFc (fun r_21 u t H1 locs ht hvm h hB hz1 hk1 hS => ?_)
    obtain ⟨w_22, w_23, w_24, w_25, w_26, w_27, w_28, w_29, w_30, w_31, w_32⟩ := u
    obtain ⟨hP1, hD1⟩ := hB
    rw [ht] at hP1
    have hP := hP1
    have hD := hD1.weaken (fun _ _ _ h => hFc _ h)
    generalize H1 = H at hP hS ⊢
    have hP : va_P E.1 vwCl (rw_24 E mo mn mi ma ml mt mb mr mp mk mq mc mw mz ms mf mu mv mx mh mA mB mC mM mT mHI mFC mLC mCg mTp w_22 w_23 w_24 w_25 w_26 w_19 w_27 w_28 w_29 mWg mNow mImg mAsd mLea mLat mBst mRsk mTap mKys mKat w_30 w_31 w_32 mStk mFct mSor mSiz mCel mHol mHoA mHoB mHoC mMov mTel) H := hP
    have hD : va_D A (rw_24 E mo mn mi ma ml mt mb mr mp mk mq mc mw mz ms mf mu mv mx mh mA mB mC mM mT mHI mFC mLC mCg mTp w_22 w_23 w_24 w_25 w_26 w_19 w_27 w_28 w_29 mWg mNow mImg mAsd mLea mLat mBst mRsk mTap mKys mKat w_30 w_31 w_32 mStk mFct mSor mSiz mCel mHol mHoA mHoB mHoC mMov mTel) := hD
    refine lv_if_eq (tgt := 32) hx hb dX7_text_25 (by decide) (fun c_33 => ?_) (fun c_33 => ?_)
    · have h := h.1 c_33
      refine lv_iconst (v := 0) hx hb dX7_text_32 (by decide) ?_
      exact J33 0 mTp w_22 w_23 w_24 w_25 w_26 w_19 w_27 w_28 w_29 mNow w_30 w_31 w_32 h _ _ hP hD hS ls (lv_sub hl [0] rfl)
    · have h := h.2 c_33
      refine lv_iconst (v := 1) hx hb dX7_text_28 (by decide) ?_
      refine lv_goto (tgt := 33) hx hb dX7_text_29 (by decide) ?_
      exact J33 1 mTp w_22 w_23 w_24 w_25 w_26 w_19 w_27 w_28 w_29 mNow w_30 w_31 w_32 h _ _ hP hD hS ls (lv_sub hl [0] rfl)
def wp_X7_textTold (p1 : Int32) (p2 : Int32) (mNow : Nat → Int32) (Q : Int32 → Prop) : Prop :=
  wp_X7_in p1 0 ((mNow 8) - 1) (fun (r_1 : Int32) => ((r_1 = 0 → Q (-1000000001)) ∧ (¬ (r_1 = 0) → wp_X7_in p2 0 1 (fun (r_3 : Int32) => ((¬ r_3 = 0 → ((¬ p2 = 0 → (vp_in ((81 + (2 * p1)) + 1) 1453 ∧ Q (mNow (((81 + (2 * p1)) + 1).toNatClampNeg)))) ∧ (p2 = 0 → (vp_in (81 + (2 * p1)) 1453 ∧ Q ((mNow ((81 + (2 * p1)).toNatClampNeg)) / 1000))))) ∧ (r_3 = 0 → Q (-1000000001)))))))
set_option maxHeartbeats 4000000 in
set_option maxRecDepth 100000 in
theorem c_X7_textTold (l : Launch) (E : gE) (mo mn mi ma ml mt mb mr mp mk mq mc mw mz ms mf mu mv mx mh mA mB mC mM mT : Nat) (sz : Nat) (mHI : Int32) (mFC : Int32) (mLC : Int32) (mCg : Int32) (mTp : Int32) (mNx : Int32) (mFr : Int32) (mTk : Int32) (mVa : Int32) (mEn : Int32) (mKe : Int32) (mCs : Int32) (mAt : Int32) (mHd : Int32) (mWg : Int32) (mNow : Nat → Int32) (mImg : Nat → Int32) (mAsd : Nat → Int32) (mLea : Nat → Int32) (mLat : Nat → Int32) (mBst : Nat → Int32) (mRsk : Nat → Int32) (mTap : Nat → Int32) (mKys : Nat → Int32) (mKat : Nat → Int32) (mCod : Nat → Int32) (mWts : Nat → Int32) (mTes : Nat → Int32) (mStk : Nat → Int32) (mFct : Nat → Int32) (mSor : Nat → Int32) (mSiz : Nat → Int32) (mCel : Nat → Int32) (mHol : Nat → Int32) (mHoA : Nat → Int32) (mHoB : Nat → Int32) (mHoC : Nat → Int32) (mMov : Nat → Int32) (mTel : Nat → Int32) (p1 p2 : Int32)  (Q : Int32 → Prop) (h : wp_X7_textTold p1 p2 mNow Q) : Met l yX7_textTold wsX7_textTold ({ frames := 1, cells := 0, slots := 0, locals := 22 } : Room) (va_Pc [.ref mo, .int p1, .int p2] (rc_B E (rw_24 E mo mn mi ma ml mt mb mr mp mk mq mc mw mz ms mf mu mv mx mh mA mB mC mM mT mHI mFC mLC mCg mTp mNx mFr mTk mVa mEn mKe mCs mAt mHd mWg mNow mImg mAsd mLea mLat mBst mRsk mTap mKys mKat mCod mWts mTes mStk mFct mSor mSiz mCel mHol mHoA mHoB mHoC mMov mTel) sz)) (va_Qi (S := Unit) (fun (r : Int32) (u : Unit) => Q r) (fun u t => rc_C E (va_A (rw_24 E mo mn mi ma ml mt mb mr mp mk mq mc mw mz ms mf mu mv mx mh mA mB mC mM mT mHI mFC mLC mCg mTp mNx mFr mTk mVa mEn mKe mCs mAt mHd mWg mNow mImg mAsd mLea mLat mBst mRsk mTap mKys mKat mCod mWts mTes mStk mFct mSor mSiz mCel mHol mHoA mHoB mHoC mMov mTel) sz) (rw_24 E mo mn mi ma ml mt mb mr mp mk mq mc mw mz ms mf mu mv mx mh mA mB mC mM mT mHI mFC mLC mCg mTp mNx mFr mTk mVa mEn mKe mCs mAt mHd mWg mNow mImg mAsd mLea mLat mBst mRsk mTap mKys mKat mCod mWts mTes mStk mFct mSor mSiz mCel mHol mHoA mHoB mHoC mMov mTel) t) (va_A (rw_24 E mo mn mi ma ml mt mb mr mp mk mq mc mw mz ms mf mu mv mx mh mA mB mC mM mT mHI mFC mLC mCg mTp mNx mFr mTk mVa mEn mKe mCs mAt mHd mWg mNow mImg mAsd mLea mLat mBst mRsk mTap mKys mKat mCod mWts mTes mStk mFct mSor mSiz mCel mHol mHoA mHoB mHoC mMov mTel) sz)) 0 0 (va_A (rw_24 E mo mn mi ma ml mt mb mr mp mk mq mc mw mz ms mf mu mv mx mh mA mB mC mM mT mHI mFC mLC mCg mTp mNx mFr mTk mVa mEn mKe mCs mAt mHd mWg mNow mImg mAsd mLea mLat mBst mRsk mTap mKys mKat mCod mWts mTes mStk mFct mSor mSiz mCel mHol mHoA mHoB mHoC mMov mTel) sz) := by
  refine rc_enterI (cc := cX7_textTold) (maxL := 3) (by decide) rfl (Nat.le_of_ble_eq_true rfl) ?_
  intro p e s m args below meth c QQ A hx hb hml hown hts hmn hE hP hD hA hret ls hl
  have hown : s.vm.findClass RX7 = some m.cls := hown
  have hK := hE.1
  have hS : va_S A s.heap s.heap [] := va_S.rf
  have hl : lv_has ls 3 [(0, .ref mo), (1, .int p1), (2, .int p2)] := hl
  have n_X7 : ∀ w ∈ wsX70, w ∈ wsX7_textTold := fun _ h => List.mem_cons_of_mem _ (List.mem_append_right _ h)
  have k_9 := hts (.fieldLink RX7 9 "RidgeClapsModel" "now" "[I") (List.mem_of_getElem? (i := 1) rfl)
  have k_89 := hts (.constant RX7 89 (-1000000001)) (List.mem_of_getElem? (i := 2) rfl)
  unfold wp_X7_textTold at h
  obtain ⟨H, hH⟩ : ∃ H, H = s.heap := ⟨_, rfl⟩
  obtain ⟨locs, hlocs⟩ : ∃ locs : List Loc, locs = [] := ⟨_, rfl⟩
  have hP : va_P E.1 vwCl (rw_24 E mo mn mi ma ml mt mb mr mp mk mq mc mw mz ms mf mu mv mx mh mA mB mC mM mT mHI mFC mLC mCg mTp mNx mFr mTk mVa mEn mKe mCs mAt mHd mWg mNow mImg mAsd mLea mLat mBst mRsk mTap mKys mKat mCod mWts mTes mStk mFct mSor mSiz mCel mHol mHoA mHoB mHoC mMov mTel) H := by rw [hH]; exact hP
  have hS : va_S A s.heap H locs := by rw [hH, hlocs]; exact hS
  suffices hgo : W p l e ({ frames := 1, cells := 0, slots := 0, locals := 22 } : Room) s m args below meth c H locs 0 0 QQ (F0 m 0 ls []) from by rw [hH, hlocs] at hgo; exact hgo
  refine lv_iload_n hx hb dX7_textTold_0 rfl (lv_at hl 1 rfl) ?_
  refine lv_iconst (v := 0) hx hb dX7_textTold_1 (by decide) ?_
  refine lv_aload_n hx hb dX7_textTold_2 rfl (lv_at hl 0 rfl) ?_
  refine va_get (D := E.1) (ci := 7) (v := .ref mn) (C := RX7) (T := TX7) (N := 39) hx hb hts n_X7 hown hK hP 0 rfl rfl 0 (by decide) k_9 (fun _ h9 => h9) rfl dX7_textTold_3 ?_
  refine lv_bipush (v := 8) hx hb dX7_textTold_6 (by decide) ?_
  refine rc_iald hx hb hK hP 1 0 rfl rfl 8 (by decide) (by unfold vp_in; decide) dX7_textTold_8 ?_
  refine lv_iconst (v := 1) hx hb dX7_textTold_9 (by decide) ?_
  refine lv_isub hx hb dX7_textTold_10 ?_
  have hPc := hP.sub (ws' := []) [] rfl
  have hDc := hD.sub (ws' := []) [] (by decide) rfl
  have hFc := va_free (wc := []) hD hS hA [] rfl
  refine va_calli (va_runS (As := [.int p1, .int 0, .int ((mNow 8) - 1)]) (rest := []) ⟨hx, hb, hml, hown, hts⟩ (c_X7_in l E H.size p1 0 ((mNow 8) - 1) _ h) (va_cwS 3 hts gX7_textTold_X7_in rfl rfl rfl (by decide +kernel) ⟨Nat.le_of_ble_eq_true rfl, Nat.le_of_ble_eq_true rfl⟩) ⟨fun a U g mk q => ⟨q.1, q.2.blind⟩, fun U hU hW => ⟨rfl, by rw [hU], by rw [hU]; exact hPc, hE.call hS hFc hW hU, hDc.weaken (fun _ _ _ _ => trivial)⟩⟩ rfl rfl hl.1 rfl (lv_room (Nat.le_of_ble_eq_true rfl)) dX7_textTold_11 ⟨Nat.zero_le _, Nat.zero_le _⟩) hS (fun q _ h => hFc q h) hFc (fun r_1 u t H1 locs ht hvm h hB hz1 hk1 hS => ?_)
  obtain ⟨hP1, hD1⟩ := hB
  rw [ht] at hP1
  obtain ⟨hP, hD⟩ := rc_foc hP hD [] [none, none, none, none, none, none, none, none, none, none, none, none, none, none, none, none, none, none, none, none, none, none, none, none, none] (by decide) rfl hk1 hP1 rfl
  generalize H1 = H at hP hS ⊢
  have hP : va_P E.1 vwCl (rw_24 E mo mn mi ma ml mt mb mr mp mk mq mc mw mz ms mf mu mv mx mh mA mB mC mM mT mHI mFC mLC mCg mTp mNx mFr mTk mVa mEn mKe mCs mAt mHd mWg mNow mImg mAsd mLea mLat mBst mRsk mTap mKys mKat mCod mWts mTes mStk mFct mSor mSiz mCel mHol mHoA mHoB mHoC mMov mTel) H := hP
  have hD : va_D A (rw_24 E mo mn mi ma ml mt mb mr mp mk mq mc mw mz ms mf mu mv mx mh mA mB mC mM mT mHI mFC mLC mCg mTp mNx mFr mTk mVa mEn mKe mCs mAt mHd mWg mNow mImg mAsd mLea mLat mBst mRsk mTap mKys mKat mCod mWts mTes mStk mFct mSor mSiz mCel mHol mHoA mHoB mHoC mMov mTel) := hD
  refine lv_if_eq (tgt := 26) hx hb dX7_textTold_14 (by decide) (fun c_2 => ?_) (fun c_2 => ?_)
  · have h := h.1 c_2
    refine lv_ldc hx hb hown k_89 dX7_textTold_26 ?_
    exact hret _ _ _ _ (-1000000001) () rfl h hP hD hS dX7_textTold_28
  · have h := h.2 c_2
    refine lv_iload_n hx hb dX7_textTold_17 rfl (lv_at hl 2 rfl) ?_
    refine lv_iconst (v := 0) hx hb dX7_textTold_18 (by decide) ?_
    refine lv_iconst (v := 1) hx hb dX7_textTold_19 (by decide) ?_
    have hPc := hP.sub (ws' := []) [] rfl
    have hDc := hD.sub (ws' := []) [] (by decide) rfl
    have hFc := va_free (wc := []) hD hS hA [] rfl
    refine va_calli (va_runS (As := [.int p2, .int 0, .int 1]) (rest := []) ⟨hx, hb, hml, hown, hts⟩ (c_X7_in l E H.size p2 0 1 _ h) (va_cwS 3 hts gX7_textTold_X7_in rfl rfl rfl (by decide +kernel) ⟨Nat.le_of_ble_eq_true rfl, Nat.le_of_ble_eq_true rfl⟩) ⟨fun a U g mk q => ⟨q.1, q.2.blind⟩, fun U hU hW => ⟨rfl, by rw [hU], by rw [hU]; exact hPc, hE.call hS hFc hW hU, hDc.weaken (fun _ _ _ _ => trivial)⟩⟩ rfl rfl hl.1 rfl (lv_room (Nat.le_of_ble_eq_true rfl)) dX7_textTold_20 ⟨Nat.zero_le _, Nat.zero_le _⟩) hS (fun q _ h => hFc q h) hFc (fun r_3 u t H1 locs ht hvm h hB hz1 hk1 hS => ?_)
    obtain ⟨hP1, hD1⟩ := hB
    rw [ht] at hP1
    obtain ⟨hP, hD⟩ := rc_foc hP hD [] [none, none, none, none, none, none, none, none, none, none, none, none, none, none, none, none, none, none, none, none, none, none, none, none, none] (by decide) rfl hk1 hP1 rfl
    generalize H1 = H at hP hS ⊢
    have hP : va_P E.1 vwCl (rw_24 E mo mn mi ma ml mt mb mr mp mk mq mc mw mz ms mf mu mv mx mh mA mB mC mM mT mHI mFC mLC mCg mTp mNx mFr mTk mVa mEn mKe mCs mAt mHd mWg mNow mImg mAsd mLea mLat mBst mRsk mTap mKys mKat mCod mWts mTes mStk mFct mSor mSiz mCel mHol mHoA mHoB mHoC mMov mTel) H := hP
    have hD : va_D A (rw_24 E mo mn mi ma ml mt mb mr mp mk mq mc mw mz ms mf mu mv mx mh mA mB mC mM mT mHI mFC mLC mCg mTp mNx mFr mTk mVa mEn mKe mCs mAt mHd mWg mNow mImg mAsd mLea mLat mBst mRsk mTap mKys mKat mCod mWts mTes mStk mFct mSor mSiz mCel mHol mHoA mHoB mHoC mMov mTel) := hD
    refine lv_if_ne (tgt := 29) hx hb dX7_textTold_23 (by decide) (fun c_4 => ?_) (fun c_4 => ?_)
    · have h := h.1 c_4
      refine lv_iload_n hx hb dX7_textTold_29 rfl (lv_at hl 2 rfl) ?_
      refine lv_if_ne (tgt := 51) hx hb dX7_textTold_30 (by decide) (fun c_5 => ?_) (fun c_5 => ?_)
      · have h := h.1 c_5
        refine lv_aload_n hx hb dX7_textTold_51 rfl (lv_at hl 0 rfl) ?_
        refine va_get (D := E.1) (ci := 7) (v := .ref mn) (C := RX7) (T := TX7) (N := 39) hx hb hts n_X7 hown hK hP 0 rfl rfl 0 (by decide) k_9 (fun _ h9 => h9) rfl dX7_textTold_52 ?_
        refine lv_bipush (v := 81) hx hb dX7_textTold_55 (by decide) ?_
        refine lv_iconst (v := 2) hx hb dX7_textTold_57 (by decide) ?_
        refine lv_iload_n hx hb dX7_textTold_58 rfl (lv_at hl 1 rfl) ?_
        refine lv_imul hx hb dX7_textTold_59 ?_
        refine lv_iadd hx hb dX7_textTold_60 ?_
        refine lv_iconst (v := 1) hx hb dX7_textTold_61 (by decide) ?_
        refine lv_iadd hx hb dX7_textTold_62 ?_
        obtain ⟨o_6, h⟩ := h
        refine rc_iald hx hb hK hP 1 0 rfl rfl (((81 + (2 * p1)) + 1).toNatClampNeg) rfl o_6 dX7_textTold_63 ?_
        exact hret _ _ _ _ (mNow (((81 + (2 * p1)) + 1).toNatClampNeg)) () rfl h hP hD hS dX7_textTold_64
      · have h := h.2 c_5
        refine lv_aload_n hx hb dX7_textTold_33 rfl (lv_at hl 0 rfl) ?_
        refine va_get (D := E.1) (ci := 7) (v := .ref mn) (C := RX7) (T := TX7) (N := 39) hx hb hts n_X7 hown hK hP 0 rfl rfl 0 (by decide) k_9 (fun _ h9 => h9) rfl dX7_textTold_34 ?_
        refine lv_bipush (v := 81) hx hb dX7_textTold_37 (by decide) ?_
        refine lv_iconst (v := 2) hx hb dX7_textTold_39 (by decide) ?_
        refine lv_iload_n hx hb dX7_textTold_40 rfl (lv_at hl 1 rfl) ?_
        refine lv_imul hx hb dX7_textTold_41 ?_
        refine lv_iadd hx hb dX7_textTold_42 ?_
        obtain ⟨o_7, h⟩ := h
        refine rc_iald hx hb hK hP 1 0 rfl rfl ((81 + (2 * p1)).toNatClampNeg) rfl o_7 dX7_textTold_43 ?_
        refine lv_sipush (v := 1000) hx hb dX7_textTold_44 (by decide) ?_
        refine lv_idiv hx hb dX7_textTold_47 (by decide) ?_
        refine lv_goto (tgt := 64) hx hb dX7_textTold_48 (by decide) ?_
        exact hret _ _ _ _ ((mNow ((81 + (2 * p1)).toNatClampNeg)) / 1000) () rfl h hP hD hS dX7_textTold_64
    · have h := h.2 c_4
      refine lv_ldc hx hb hown k_89 dX7_textTold_26 ?_
      exact hret _ _ _ _ (-1000000001) () rfl h hP hD hS dX7_textTold_28
def wp_X7_why (p1 : Int32) (mNow : Nat → Int32) (Q : Int32 → Prop) : Prop :=
  wp_X7_in p1 0 2 (fun (r_1 : Int32) => ((¬ r_1 = 0 → wp_X7_counts p1 mNow (fun (r_3 : Int32) => ((0 ≤ r_3 → Q r_3) ∧ (¬ (0 ≤ r_3) → Q (-1000000005))))) ∧ (r_1 = 0 → Q (-1000000001))))
set_option maxHeartbeats 4000000 in
set_option maxRecDepth 100000 in
theorem c_X7_why (l : Launch) (E : gE) (mo mn mi ma ml mt mb mr mp mk mq mc mw mz ms mf mu mv mx mh mA mB mC mM mT : Nat) (sz : Nat) (mHI : Int32) (mFC : Int32) (mLC : Int32) (mCg : Int32) (mTp : Int32) (mNx : Int32) (mFr : Int32) (mTk : Int32) (mVa : Int32) (mEn : Int32) (mKe : Int32) (mCs : Int32) (mAt : Int32) (mHd : Int32) (mWg : Int32) (mNow : Nat → Int32) (mImg : Nat → Int32) (mAsd : Nat → Int32) (mLea : Nat → Int32) (mLat : Nat → Int32) (mBst : Nat → Int32) (mRsk : Nat → Int32) (mTap : Nat → Int32) (mKys : Nat → Int32) (mKat : Nat → Int32) (mCod : Nat → Int32) (mWts : Nat → Int32) (mTes : Nat → Int32) (mStk : Nat → Int32) (mFct : Nat → Int32) (mSor : Nat → Int32) (mSiz : Nat → Int32) (mCel : Nat → Int32) (mHol : Nat → Int32) (mHoA : Nat → Int32) (mHoB : Nat → Int32) (mHoC : Nat → Int32) (mMov : Nat → Int32) (mTel : Nat → Int32) (p1 : Int32)  (Q : Int32 → Prop) (h : wp_X7_why p1 mNow Q) : Met l yX7_why wsX7_why ({ frames := 1, cells := 0, slots := 0, locals := 22 } : Room) (va_Pc [.ref mo, .int p1] (rc_B E (rw_24 E mo mn mi ma ml mt mb mr mp mk mq mc mw mz ms mf mu mv mx mh mA mB mC mM mT mHI mFC mLC mCg mTp mNx mFr mTk mVa mEn mKe mCs mAt mHd mWg mNow mImg mAsd mLea mLat mBst mRsk mTap mKys mKat mCod mWts mTes mStk mFct mSor mSiz mCel mHol mHoA mHoB mHoC mMov mTel) sz)) (va_Qi (S := Unit) (fun (r : Int32) (u : Unit) => Q r) (fun u t => rc_C E (va_A (rw_24 E mo mn mi ma ml mt mb mr mp mk mq mc mw mz ms mf mu mv mx mh mA mB mC mM mT mHI mFC mLC mCg mTp mNx mFr mTk mVa mEn mKe mCs mAt mHd mWg mNow mImg mAsd mLea mLat mBst mRsk mTap mKys mKat mCod mWts mTes mStk mFct mSor mSiz mCel mHol mHoA mHoB mHoC mMov mTel) sz) (rw_24 E mo mn mi ma ml mt mb mr mp mk mq mc mw mz ms mf mu mv mx mh mA mB mC mM mT mHI mFC mLC mCg mTp mNx mFr mTk mVa mEn mKe mCs mAt mHd mWg mNow mImg mAsd mLea mLat mBst mRsk mTap mKys mKat mCod mWts mTes mStk mFct mSor mSiz mCel mHol mHoA mHoB mHoC mMov mTel) t) (va_A (rw_24 E mo mn mi ma ml mt mb mr mp mk mq mc mw mz ms mf mu mv mx mh mA mB mC mM mT mHI mFC mLC mCg mTp mNx mFr mTk mVa mEn mKe mCs mAt mHd mWg mNow mImg mAsd mLea mLat mBst mRsk mTap mKys mKat mCod mWts mTes mStk mFct mSor mSiz mCel mHol mHoA mHoB mHoC mMov mTel) sz)) 0 0 (va_A (rw_24 E mo mn mi ma ml mt mb mr mp mk mq mc mw mz ms mf mu mv mx mh mA mB mC mM mT mHI mFC mLC mCg mTp mNx mFr mTk mVa mEn mKe mCs mAt mHd mWg mNow mImg mAsd mLea mLat mBst mRsk mTap mKys mKat mCod mWts mTes mStk mFct mSor mSiz mCel mHol mHoA mHoB mHoC mMov mTel) sz) := by
  refine rc_enterI (cc := cX7_why) (maxL := 3) (by decide) rfl (Nat.le_of_ble_eq_true rfl) ?_
  intro p e s m args below meth c QQ A hx hb hml hown hts hmn hE hP hD hA hret ls hl
  have hown : s.vm.findClass RX7 = some m.cls := hown
  have hK := hE.1
  have hS : va_S A s.heap s.heap [] := va_S.rf
  have hl : lv_has ls 3 [(0, .ref mo), (1, .int p1)] := hl
  have k_84 := hts (.constant RX7 84 (-1000000005)) (List.mem_of_getElem? (i := 2) rfl)
  have k_89 := hts (.constant RX7 89 (-1000000001)) (List.mem_of_getElem? (i := 1) rfl)
  unfold wp_X7_why at h
  obtain ⟨H, hH⟩ : ∃ H, H = s.heap := ⟨_, rfl⟩
  obtain ⟨locs, hlocs⟩ : ∃ locs : List Loc, locs = [] := ⟨_, rfl⟩
  have hP : va_P E.1 vwCl (rw_24 E mo mn mi ma ml mt mb mr mp mk mq mc mw mz ms mf mu mv mx mh mA mB mC mM mT mHI mFC mLC mCg mTp mNx mFr mTk mVa mEn mKe mCs mAt mHd mWg mNow mImg mAsd mLea mLat mBst mRsk mTap mKys mKat mCod mWts mTes mStk mFct mSor mSiz mCel mHol mHoA mHoB mHoC mMov mTel) H := by rw [hH]; exact hP
  have hS : va_S A s.heap H locs := by rw [hH, hlocs]; exact hS
  suffices hgo : W p l e ({ frames := 1, cells := 0, slots := 0, locals := 22 } : Room) s m args below meth c H locs 0 0 QQ (F0 m 0 ls []) from by rw [hH, hlocs] at hgo; exact hgo
  refine lv_iload_n hx hb dX7_why_0 rfl (lv_at hl 1 rfl) ?_
  refine lv_iconst (v := 0) hx hb dX7_why_1 (by decide) ?_
  refine lv_iconst (v := 2) hx hb dX7_why_2 (by decide) ?_
  have hPc := hP.sub (ws' := []) [] rfl
  have hDc := hD.sub (ws' := []) [] (by decide) rfl
  have hFc := va_free (wc := []) hD hS hA [] rfl
  refine va_calli (va_runS (As := [.int p1, .int 0, .int 2]) (rest := []) ⟨hx, hb, hml, hown, hts⟩ (c_X7_in l E H.size p1 0 2 _ h) (va_cwS 3 hts gX7_why_X7_in rfl rfl rfl (by decide +kernel) ⟨Nat.le_of_ble_eq_true rfl, Nat.le_of_ble_eq_true rfl⟩) ⟨fun a U g mk q => ⟨q.1, q.2.blind⟩, fun U hU hW => ⟨rfl, by rw [hU], by rw [hU]; exact hPc, hE.call hS hFc hW hU, hDc.weaken (fun _ _ _ _ => trivial)⟩⟩ rfl rfl hl.1 rfl (lv_room (Nat.le_of_ble_eq_true rfl)) dX7_why_3 ⟨Nat.zero_le _, Nat.zero_le _⟩) hS (fun q _ h => hFc q h) hFc (fun r_1 u t H1 locs ht hvm h hB hz1 hk1 hS => ?_)
  obtain ⟨hP1, hD1⟩ := hB
  rw [ht] at hP1
  obtain ⟨hP, hD⟩ := rc_foc hP hD [] [none, none, none, none, none, none, none, none, none, none, none, none, none, none, none, none, none, none, none, none, none, none, none, none, none] (by decide) rfl hk1 hP1 rfl
  generalize H1 = H at hP hS ⊢
  have hP : va_P E.1 vwCl (rw_24 E mo mn mi ma ml mt mb mr mp mk mq mc mw mz ms mf mu mv mx mh mA mB mC mM mT mHI mFC mLC mCg mTp mNx mFr mTk mVa mEn mKe mCs mAt mHd mWg mNow mImg mAsd mLea mLat mBst mRsk mTap mKys mKat mCod mWts mTes mStk mFct mSor mSiz mCel mHol mHoA mHoB mHoC mMov mTel) H := hP
  have hD : va_D A (rw_24 E mo mn mi ma ml mt mb mr mp mk mq mc mw mz ms mf mu mv mx mh mA mB mC mM mT mHI mFC mLC mCg mTp mNx mFr mTk mVa mEn mKe mCs mAt mHd mWg mNow mImg mAsd mLea mLat mBst mRsk mTap mKys mKat mCod mWts mTes mStk mFct mSor mSiz mCel mHol mHoA mHoB mHoC mMov mTel) := hD
  refine lv_if_ne (tgt := 12) hx hb dX7_why_6 (by decide) (fun c_2 => ?_) (fun c_2 => ?_)
  · have h := h.1 c_2
    refine lv_aload_n hx hb dX7_why_12 rfl (lv_at hl 0 rfl) ?_
    refine lv_iload_n hx hb dX7_why_13 rfl (lv_at hl 1 rfl) ?_
    have hPc := hP
    have hDc := hD
    have hFc := rc_freeI hD hS hA
    refine va_calli (va_runV (As := [.int p1]) (rest := []) ⟨hx, hb, hml, hown, hts⟩ (c_X7_counts l E mo mn mi ma ml mt mb mr mp mk mq mc mw mz ms mf mu mv mx mh mA mB mC mM mT H.size mHI mFC mLC mCg mTp mNx mFr mTk mVa mEn mKe mCs mAt mHd mWg mNow mImg mAsd mLea mLat mBst mRsk mTap mKys mKat mCod mWts mTes mStk mFct mSor mSiz mCel mHol mHoA mHoB mHoC mMov mTel p1 _ h) (cwV 1 hts gX7_why_X7_counts rfl rfl rfl (by decide +kernel) ⟨Nat.le_of_ble_eq_true rfl, Nat.le_of_ble_eq_true rfl⟩) ⟨fun a U g mk q => ⟨q.1, q.2.blind⟩, va_recv hK hPc (ci := 7) (q0 := 0) rfl rfl, fun U hU hW => ⟨rfl, by rw [hU], by rw [hU]; exact hPc, hE.call hS hFc hW hU, hDc.weaken (fun _ _ _ _ => trivial)⟩⟩ rfl rfl hl.1 rfl (lv_room (Nat.le_of_ble_eq_true rfl)) dX7_why_14 ⟨Nat.zero_le _, Nat.zero_le _⟩) hS (fun q _ h => hFc q h) hFc (fun r_3 u t H1 locs ht hvm h hB hz1 hk1 hS => ?_)
    obtain ⟨hP1, hD1⟩ := hB
    rw [ht] at hP1
    have hP := hP1
    have hD := hD1.weaken (fun _ _ _ h => hFc _ h)
    generalize H1 = H at hP hS ⊢
    have hP : va_P E.1 vwCl (rw_24 E mo mn mi ma ml mt mb mr mp mk mq mc mw mz ms mf mu mv mx mh mA mB mC mM mT mHI mFC mLC mCg mTp mNx mFr mTk mVa mEn mKe mCs mAt mHd mWg mNow mImg mAsd mLea mLat mBst mRsk mTap mKys mKat mCod mWts mTes mStk mFct mSor mSiz mCel mHol mHoA mHoB mHoC mMov mTel) H := hP
    have hD : va_D A (rw_24 E mo mn mi ma ml mt mb mr mp mk mq mc mw mz ms mf mu mv mx mh mA mB mC mM mT mHI mFC mLC mCg mTp mNx mFr mTk mVa mEn mKe mCs mAt mHd mWg mNow mImg mAsd mLea mLat mBst mRsk mTap mKys mKat mCod mWts mTes mStk mFct mSor mSiz mCel mHol mHoA mHoB mHoC mMov mTel) := hD
    refine lv_istore_n (lv' := [(2, .int r_3), (0, .ref mo), (1, .int p1)]) hx hb dX7_why_17 rfl hl (by decide) rfl (fun ls hl => ?_)
    refine lv_iload_n hx hb dX7_why_18 rfl (lv_at hl 0 rfl) ?_
    refine lv_if_ge (tgt := 27) hx hb dX7_why_19 (by decide) (fun c_4 => ?_) (fun c_4 => ?_)
    · have h := h.1 c_4
      refine lv_iload_n hx hb dX7_why_27 rfl (lv_at hl 0 rfl) ?_
      exact hret _ _ _ _ r_3 () rfl h hP hD hS dX7_why_28
    · have h := h.2 c_4
      refine lv_ldc hx hb hown k_84 dX7_why_22 ?_
      refine lv_goto (tgt := 28) hx hb dX7_why_24 (by decide) ?_
      exact hret _ _ _ _ (-1000000005) () rfl h hP hD hS dX7_why_28
  · have h := h.2 c_2
    refine lv_ldc hx hb hown k_89 dX7_why_9 ?_
    exact hret _ _ _ _ (-1000000001) () rfl h hP hD hS dX7_why_11
