def wp_X7_goes (p1 : Int32) (p2 : Int32) (mNow : Nat → Int32) (Q : Int32 → Prop) : Prop :=
  ((¬ p2 = 0 → ((¬ p2 = 1 → ((¬ p2 = 2 → Q (-1)) ∧ (p2 = 2 → Q p1))) ∧ (p2 = 1 → Q (p1 - 1)))) ∧ (p2 = 0 → (((mNow 1) ≤ (p1 + 1) → Q (-1)) ∧ (¬ ((mNow 1) ≤ (p1 + 1)) → Q (p1 + 1)))))
set_option maxHeartbeats 4000000 in
set_option maxRecDepth 100000 in
theorem c_X7_goes (l : Launch) (E : gE) (mo mn mi ma ml mt mb mr mp mk mq mc mw mz ms mf mu mv mx mh mA mB mC mM mT : Nat) (sz : Nat) (mHI : Int32) (mFC : Int32) (mLC : Int32) (mCg : Int32) (mTp : Int32) (mNx : Int32) (mFr : Int32) (mTk : Int32) (mVa : Int32) (mEn : Int32) (mKe : Int32) (mCs : Int32) (mAt : Int32) (mHd : Int32) (mWg : Int32) (mNow : Nat → Int32) (mImg : Nat → Int32) (mAsd : Nat → Int32) (mLea : Nat → Int32) (mLat : Nat → Int32) (mBst : Nat → Int32) (mRsk : Nat → Int32) (mTap : Nat → Int32) (mKys : Nat → Int32) (mKat : Nat → Int32) (mCod : Nat → Int32) (mWts : Nat → Int32) (mTes : Nat → Int32) (mStk : Nat → Int32) (mFct : Nat → Int32) (mSor : Nat → Int32) (mSiz : Nat → Int32) (mCel : Nat → Int32) (mHol : Nat → Int32) (mHoA : Nat → Int32) (mHoB : Nat → Int32) (mHoC : Nat → Int32) (mMov : Nat → Int32) (mTel : Nat → Int32) (p1 p2 : Int32)  (Q : Int32 → Prop) (h : wp_X7_goes p1 p2 mNow Q) : Met l yX7_goes wsX7_goes ({ frames := 0, cells := 0, slots := 0, locals := 0 } : Room) (va_Pc [.ref mo, .int p1, .int p2] (rc_B E (rw_24 E mo mn mi ma ml mt mb mr mp mk mq mc mw mz ms mf mu mv mx mh mA mB mC mM mT mHI mFC mLC mCg mTp mNx mFr mTk mVa mEn mKe mCs mAt mHd mWg mNow mImg mAsd mLea mLat mBst mRsk mTap mKys mKat mCod mWts mTes mStk mFct mSor mSiz mCel mHol mHoA mHoB mHoC mMov mTel) sz)) (va_Qi (S := Unit) (fun (r : Int32) (u : Unit) => Q r) (fun u t => rc_C E (va_A (rw_24 E mo mn mi ma ml mt mb mr mp mk mq mc mw mz ms mf mu mv mx mh mA mB mC mM mT mHI mFC mLC mCg mTp mNx mFr mTk mVa mEn mKe mCs mAt mHd mWg mNow mImg mAsd mLea mLat mBst mRsk mTap mKys mKat mCod mWts mTes mStk mFct mSor mSiz mCel mHol mHoA mHoB mHoC mMov mTel) sz) (rw_24 E mo mn mi ma ml mt mb mr mp mk mq mc mw mz ms mf mu mv mx mh mA mB mC mM mT mHI mFC mLC mCg mTp mNx mFr mTk mVa mEn mKe mCs mAt mHd mWg mNow mImg mAsd mLea mLat mBst mRsk mTap mKys mKat mCod mWts mTes mStk mFct mSor mSiz mCel mHol mHoA mHoB mHoC mMov mTel) t) (va_A (rw_24 E mo mn mi ma ml mt mb mr mp mk mq mc mw mz ms mf mu mv mx mh mA mB mC mM mT mHI mFC mLC mCg mTp mNx mFr mTk mVa mEn mKe mCs mAt mHd mWg mNow mImg mAsd mLea mLat mBst mRsk mTap mKys mKat mCod mWts mTes mStk mFct mSor mSiz mCel mHol mHoA mHoB mHoC mMov mTel) sz)) 0 0 (va_A (rw_24 E mo mn mi ma ml mt mb mr mp mk mq mc mw mz ms mf mu mv mx mh mA mB mC mM mT mHI mFC mLC mCg mTp mNx mFr mTk mVa mEn mKe mCs mAt mHd mWg mNow mImg mAsd mLea mLat mBst mRsk mTap mKys mKat mCod mWts mTes mStk mFct mSor mSiz mCel mHol mHoA mHoB mHoC mMov mTel) sz) := by
  refine rc_enterI (cc := cX7_goes) (maxL := 3) (by decide) rfl (Nat.le_of_ble_eq_true rfl) ?_
  intro p e s m args below meth c QQ A hx hb hml hown hts hmn hE hP hD hA hret ls hl
  have hown : s.vm.findClass RX7 = some m.cls := hown
  have hK := hE.1
  have hS : va_S A s.heap s.heap [] := va_S.rf
  have hl : lv_has ls 3 [(0, .ref mo), (1, .int p1), (2, .int p2)] := hl
  have n_X7 : ∀ w ∈ wsX70, w ∈ wsX7_goes := fun _ h => List.mem_cons_of_mem _ (List.mem_append_right _ h)
  have k_9 := hts (.fieldLink RX7 9 "RidgeClapsModel" "now" "[I") (List.mem_of_getElem? (i := 1) rfl)
  unfold wp_X7_goes at h
  obtain ⟨H, hH⟩ : ∃ H, H = s.heap := ⟨_, rfl⟩
  obtain ⟨locs, hlocs⟩ : ∃ locs : List Loc, locs = [] := ⟨_, rfl⟩
  have hP : va_P E.1 vwCl (rw_24 E mo mn mi ma ml mt mb mr mp mk mq mc mw mz ms mf mu mv mx mh mA mB mC mM mT mHI mFC mLC mCg mTp mNx mFr mTk mVa mEn mKe mCs mAt mHd mWg mNow mImg mAsd mLea mLat mBst mRsk mTap mKys mKat mCod mWts mTes mStk mFct mSor mSiz mCel mHol mHoA mHoB mHoC mMov mTel) H := by rw [hH]; exact hP
  have hS : va_S A s.heap H locs := by rw [hH, hlocs]; exact hS
  suffices hgo : W p l e ({ frames := 0, cells := 0, slots := 0, locals := 0 } : Room) s m args below meth c H locs 0 0 QQ (F0 m 0 ls []) from by rw [hH, hlocs] at hgo; exact hgo
  refine lv_iload_n hx hb dX7_goes_0 rfl (lv_at hl 2 rfl) ?_
  refine lv_if_ne (tgt := 26) hx hb dX7_goes_1 (by decide) (fun c_1 => ?_) (fun c_1 => ?_)
  · have h := h.1 c_1
    refine lv_iload_n hx hb dX7_goes_26 rfl (lv_at hl 2 rfl) ?_
    refine lv_iconst (v := 1) hx hb dX7_goes_27 (by decide) ?_
    refine lv_icmp_ne (tgt := 37) hx hb dX7_goes_28 (by decide) (fun c_2 => ?_) (fun c_2 => ?_)
    · have h := h.1 c_2
      refine lv_iload_n hx hb dX7_goes_37 rfl (lv_at hl 2 rfl) ?_
      refine lv_iconst (v := 2) hx hb dX7_goes_38 (by decide) ?_
      refine lv_icmp_ne (tgt := 46) hx hb dX7_goes_39 (by decide) (fun c_3 => ?_) (fun c_3 => ?_)
      · have h := h.1 c_3
        refine lv_iconst (v := (-1)) hx hb dX7_goes_46 (by decide) ?_
        exact hret _ _ _ _ (-1) () rfl h hP hD hS dX7_goes_47
      · have h := h.2 c_3
        refine lv_iload_n hx hb dX7_goes_42 rfl (lv_at hl 1 rfl) ?_
        refine lv_goto (tgt := 47) hx hb dX7_goes_43 (by decide) ?_
        exact hret _ _ _ _ p1 () rfl h hP hD hS dX7_goes_47
    · have h := h.2 c_2
      refine lv_iload_n hx hb dX7_goes_31 rfl (lv_at hl 1 rfl) ?_
      refine lv_iconst (v := 1) hx hb dX7_goes_32 (by decide) ?_
      refine lv_isub hx hb dX7_goes_33 ?_
      refine lv_goto (tgt := 47) hx hb dX7_goes_34 (by decide) ?_
      exact hret _ _ _ _ (p1 - 1) () rfl h hP hD hS dX7_goes_47
  · have h := h.2 c_1
    refine lv_iload_n hx hb dX7_goes_4 rfl (lv_at hl 1 rfl) ?_
    refine lv_iconst (v := 1) hx hb dX7_goes_5 (by decide) ?_
    refine lv_iadd hx hb dX7_goes_6 ?_
    refine lv_aload_n hx hb dX7_goes_7 rfl (lv_at hl 0 rfl) ?_
    refine va_get (D := E.1) (ci := 7) (v := .ref mn) (C := RX7) (T := TX7) (N := 39) hx hb hts n_X7 hown hK hP 0 rfl rfl 0 (by decide) k_9 (fun _ h9 => h9) rfl dX7_goes_8 ?_
    refine lv_iconst (v := 1) hx hb dX7_goes_11 (by decide) ?_
    refine rc_iald hx hb hK hP 1 0 rfl rfl 1 (by decide) (by unfold vp_in; decide) dX7_goes_12 ?_
    refine lv_icmp_ge (tgt := 22) hx hb dX7_goes_13 (by decide) (fun c_4 => ?_) (fun c_4 => ?_)
    · have h := h.1 c_4
      refine lv_iconst (v := (-1)) hx hb dX7_goes_22 (by decide) ?_
      refine lv_goto (tgt := 47) hx hb dX7_goes_23 (by decide) ?_
      exact hret _ _ _ _ (-1) () rfl h hP hD hS dX7_goes_47
    · have h := h.2 c_4
      refine lv_iload_n hx hb dX7_goes_16 rfl (lv_at hl 1 rfl) ?_
      refine lv_iconst (v := 1) hx hb dX7_goes_17 (by decide) ?_
      refine lv_iadd hx hb dX7_goes_18 ?_
      refine lv_goto (tgt := 47) hx hb dX7_goes_19 (by decide) ?_
      exact hret _ _ _ _ (p1 + 1) () rfl h hP hD hS dX7_goes_47
def wp_X7_may (p1 : Int32) (p2 : Int32) (mNow : Nat → Int32) (Q : Int32 → Prop) : Prop :=
  ((0 ≤ p1 → ((¬ p2 = 3 → Q 1) ∧ (p2 = 3 → wp_X7_of p1 2 mNow (fun (r_3 : Int32) => ((¬ r_3 = 1 → Q 0) ∧ (r_3 = 1 → Q 1)))))) ∧ (¬ (0 ≤ p1) → ((¬ p2 = 2 → Q 0) ∧ (p2 = 2 → Q 1))))
set_option maxHeartbeats 4000000 in
set_option maxRecDepth 100000 in
theorem c_X7_may (l : Launch) (E : gE) (mo mn mi ma ml mt mb mr mp mk mq mc mw mz ms mf mu mv mx mh mA mB mC mM mT : Nat) (sz : Nat) (mHI : Int32) (mFC : Int32) (mLC : Int32) (mCg : Int32) (mTp : Int32) (mNx : Int32) (mFr : Int32) (mTk : Int32) (mVa : Int32) (mEn : Int32) (mKe : Int32) (mCs : Int32) (mAt : Int32) (mHd : Int32) (mWg : Int32) (mNow : Nat → Int32) (mImg : Nat → Int32) (mAsd : Nat → Int32) (mLea : Nat → Int32) (mLat : Nat → Int32) (mBst : Nat → Int32) (mRsk : Nat → Int32) (mTap : Nat → Int32) (mKys : Nat → Int32) (mKat : Nat → Int32) (mCod : Nat → Int32) (mWts : Nat → Int32) (mTes : Nat → Int32) (mStk : Nat → Int32) (mFct : Nat → Int32) (mSor : Nat → Int32) (mSiz : Nat → Int32) (mCel : Nat → Int32) (mHol : Nat → Int32) (mHoA : Nat → Int32) (mHoB : Nat → Int32) (mHoC : Nat → Int32) (mMov : Nat → Int32) (mTel : Nat → Int32) (p1 p2 : Int32)  (Q : Int32 → Prop) (h : wp_X7_may p1 p2 mNow Q) : Met l yX7_may wsX7_may ({ frames := 1, cells := 0, slots := 0, locals := 22 } : Room) (va_Pc [.ref mo, .int p1, .int p2] (rc_B E (rw_24 E mo mn mi ma ml mt mb mr mp mk mq mc mw mz ms mf mu mv mx mh mA mB mC mM mT mHI mFC mLC mCg mTp mNx mFr mTk mVa mEn mKe mCs mAt mHd mWg mNow mImg mAsd mLea mLat mBst mRsk mTap mKys mKat mCod mWts mTes mStk mFct mSor mSiz mCel mHol mHoA mHoB mHoC mMov mTel) sz)) (va_Qi (S := Unit) (fun (r : Int32) (u : Unit) => Q r) (fun u t => rc_C E (va_A (rw_24 E mo mn mi ma ml mt mb mr mp mk mq mc mw mz ms mf mu mv mx mh mA mB mC mM mT mHI mFC mLC mCg mTp mNx mFr mTk mVa mEn mKe mCs mAt mHd mWg mNow mImg mAsd mLea mLat mBst mRsk mTap mKys mKat mCod mWts mTes mStk mFct mSor mSiz mCel mHol mHoA mHoB mHoC mMov mTel) sz) (rw_24 E mo mn mi ma ml mt mb mr mp mk mq mc mw mz ms mf mu mv mx mh mA mB mC mM mT mHI mFC mLC mCg mTp mNx mFr mTk mVa mEn mKe mCs mAt mHd mWg mNow mImg mAsd mLea mLat mBst mRsk mTap mKys mKat mCod mWts mTes mStk mFct mSor mSiz mCel mHol mHoA mHoB mHoC mMov mTel) t) (va_A (rw_24 E mo mn mi ma ml mt mb mr mp mk mq mc mw mz ms mf mu mv mx mh mA mB mC mM mT mHI mFC mLC mCg mTp mNx mFr mTk mVa mEn mKe mCs mAt mHd mWg mNow mImg mAsd mLea mLat mBst mRsk mTap mKys mKat mCod mWts mTes mStk mFct mSor mSiz mCel mHol mHoA mHoB mHoC mMov mTel) sz)) 0 0 (va_A (rw_24 E mo mn mi ma ml mt mb mr mp mk mq mc mw mz ms mf mu mv mx mh mA mB mC mM mT mHI mFC mLC mCg mTp mNx mFr mTk mVa mEn mKe mCs mAt mHd mWg mNow mImg mAsd mLea mLat mBst mRsk mTap mKys mKat mCod mWts mTes mStk mFct mSor mSiz mCel mHol mHoA mHoB mHoC mMov mTel) sz) := by
  refine rc_enterI (cc := cX7_may) (maxL := 3) (by decide) rfl (Nat.le_of_ble_eq_true rfl) ?_
  intro p e s m args below meth c QQ A hx hb hml hown hts hmn hE hP hD hA hret ls hl
  have hown : s.vm.findClass RX7 = some m.cls := hown
  have hK := hE.1
  have hS : va_S A s.heap s.heap [] := va_S.rf
  have hl : lv_has ls 3 [(0, .ref mo), (1, .int p1), (2, .int p2)] := hl
  unfold wp_X7_may at h
  obtain ⟨H, hH⟩ : ∃ H, H = s.heap := ⟨_, rfl⟩
  obtain ⟨locs, hlocs⟩ : ∃ locs : List Loc, locs = [] := ⟨_, rfl⟩
  have hP : va_P E.1 vwCl (rw_24 E mo mn mi ma ml mt mb mr mp mk mq mc mw mz ms mf mu mv mx mh mA mB mC mM mT mHI mFC mLC mCg mTp mNx mFr mTk mVa mEn mKe mCs mAt mHd mWg mNow mImg mAsd mLea mLat mBst mRsk mTap mKys mKat mCod mWts mTes mStk mFct mSor mSiz mCel mHol mHoA mHoB mHoC mMov mTel) H := by rw [hH]; exact hP
  have hS : va_S A s.heap H locs := by rw [hH, hlocs]; exact hS
  suffices hgo : W p l e ({ frames := 1, cells := 0, slots := 0, locals := 22 } : Room) s m args below meth c H locs 0 0 QQ (F0 m 0 ls []) from by rw [hH, hlocs] at hgo; exact hgo
  refine lv_iload_n hx hb dX7_may_0 rfl (lv_at hl 1 rfl) ?_
  refine lv_if_ge (tgt := 17) hx hb dX7_may_1 (by decide) (fun c_1 => ?_) (fun c_1 => ?_)
  · have h := h.1 c_1
    refine lv_iload_n hx hb dX7_may_17 rfl (lv_at hl 2 rfl) ?_
    refine lv_iconst (v := 3) hx hb dX7_may_18 (by decide) ?_
    refine lv_icmp_ne (tgt := 32) hx hb dX7_may_19 (by decide) (fun c_2 => ?_) (fun c_2 => ?_)
    · have h := h.1 c_2
      refine lv_iconst (v := 1) hx hb dX7_may_32 (by decide) ?_
      refine lv_goto (tgt := 37) hx hb dX7_may_33 (by decide) ?_
      exact hret _ _ _ _ 1 () (by decide) h hP hD hS dX7_may_37
    · have h := h.2 c_2
      refine lv_aload_n hx hb dX7_may_22 rfl (lv_at hl 0 rfl) ?_
      refine lv_iload_n hx hb dX7_may_23 rfl (lv_at hl 1 rfl) ?_
      refine lv_iconst (v := 2) hx hb dX7_may_24 (by decide) ?_
      have hPc := hP
      have hDc := hD
      have hFc := rc_freeI hD hS hA
      refine va_calli (va_runV (As := [.int p1, .int 2]) (rest := []) ⟨hx, hb, hml, hown, hts⟩ (c_X7_of l E mo mn mi ma ml mt mb mr mp mk mq mc mw mz ms mf mu mv mx mh mA mB mC mM mT H.size mHI mFC mLC mCg mTp mNx mFr mTk mVa mEn mKe mCs mAt mHd mWg mNow mImg mAsd mLea mLat mBst mRsk mTap mKys mKat mCod mWts mTes mStk mFct mSor mSiz mCel mHol mHoA mHoB mHoC mMov mTel p1 2 _ h) (cwV 2 hts gX7_may_X7_of rfl rfl rfl (by decide +kernel) ⟨Nat.le_of_ble_eq_true rfl, Nat.le_of_ble_eq_true rfl⟩) ⟨fun a U g mk q => ⟨q.1, q.2.blind⟩, va_recv hK hPc (ci := 7) (q0 := 0) rfl rfl, fun U hU hW => ⟨rfl, by rw [hU], by rw [hU]; exact hPc, hE.call hS hFc hW hU, hDc.weaken (fun _ _ _ _ => trivial)⟩⟩ rfl rfl hl.1 rfl (lv_room (Nat.le_of_ble_eq_true rfl)) dX7_may_25 ⟨Nat.zero_le _, Nat.zero_le _⟩) hS (fun q _ h => hFc q h) hFc (fun r_3 u t H1 locs ht hvm h hB hz1 hk1 hS => ?_)
      obtain ⟨hP1, hD1⟩ := hB
      rw [ht] at hP1
      have hP := hP1
      have hD := hD1.weaken (fun _ _ _ h => hFc _ h)
      generalize H1 = H at hP hS ⊢
      have hP : va_P E.1 vwCl (rw_24 E mo mn mi ma ml mt mb mr mp mk mq mc mw mz ms mf mu mv mx mh mA mB mC mM mT mHI mFC mLC mCg mTp mNx mFr mTk mVa mEn mKe mCs mAt mHd mWg mNow mImg mAsd mLea mLat mBst mRsk mTap mKys mKat mCod mWts mTes mStk mFct mSor mSiz mCel mHol mHoA mHoB mHoC mMov mTel) H := hP
      have hD : va_D A (rw_24 E mo mn mi ma ml mt mb mr mp mk mq mc mw mz ms mf mu mv mx mh mA mB mC mM mT mHI mFC mLC mCg mTp mNx mFr mTk mVa mEn mKe mCs mAt mHd mWg mNow mImg mAsd mLea mLat mBst mRsk mTap mKys mKat mCod mWts mTes mStk mFct mSor mSiz mCel mHol mHoA mHoB mHoC mMov mTel) := hD
      refine lv_iconst (v := 1) hx hb dX7_may_28 (by decide) ?_
      refine lv_icmp_ne (tgt := 36) hx hb dX7_may_29 (by decide) (fun c_4 => ?_) (fun c_4 => ?_)
      · have h := h.1 c_4
        refine lv_iconst (v := 0) hx hb dX7_may_36 (by decide) ?_
        exact hret _ _ _ _ 0 () (by decide) h hP hD hS dX7_may_37
      · have h := h.2 c_4
        refine lv_iconst (v := 1) hx hb dX7_may_32 (by decide) ?_
        refine lv_goto (tgt := 37) hx hb dX7_may_33 (by decide) ?_
        exact hret _ _ _ _ 1 () (by decide) h hP hD hS dX7_may_37
  · have h := h.2 c_1
    refine lv_iload_n hx hb dX7_may_4 rfl (lv_at hl 2 rfl) ?_
    refine lv_iconst (v := 2) hx hb dX7_may_5 (by decide) ?_
    refine lv_icmp_ne (tgt := 13) hx hb dX7_may_6 (by decide) (fun c_5 => ?_) (fun c_5 => ?_)
    · have h := h.1 c_5
      refine lv_iconst (v := 0) hx hb dX7_may_13 (by decide) ?_
      refine lv_goto (tgt := 37) hx hb dX7_may_14 (by decide) ?_
      exact hret _ _ _ _ 0 () (by decide) h hP hD hS dX7_may_37
    · have h := h.2 c_5
      refine lv_iconst (v := 1) hx hb dX7_may_9 (by decide) ?_
      refine lv_goto (tgt := 37) hx hb dX7_may_10 (by decide) ?_
      exact hret _ _ _ _ 1 () (by decide) h hP hD hS dX7_may_37
def jp_X7_aMinute_81   (Q : Int32 → (Nat → Int32) → (Nat → Int32) → (Nat → Int32) → Prop) (x3 : Int32) (mNow : Nat → Int32) (mStk : Nat → Int32) (mFct : Nat → Int32) : Prop :=
  wp_X7_farOn 1 mNow (fun (r_1 : Int32) => Q x3 (upd (upd mNow 4 r_1) 3 (((upd mNow 4 r_1) 3) + 1)) mStk mFct)
def jp_X7_aMinute_67 (p1 : Int32)  (Q : Int32 → (Nat → Int32) → (Nat → Int32) → (Nat → Int32) → Prop) (x2 : Int32) (x3 : Int32) (y0 : Int32) (y1 : Int32) (y2 : Int32) (mNow : Nat → Int32) (mStk : Nat → Int32) (mFct : Nat → Int32) : Prop :=
  (vp_in y2 1453 ∧ wp_X7_goes x2 p1 (upd mNow y2.toNatClampNeg (y1 + y0)) (fun (r_3 : Int32) => jp_X7_aMinute_81 Q x3 (upd (upd mNow y2.toNatClampNeg (y1 + y0)) 2 r_3) mStk mFct))
def jp_X7_aMinute_26 (p1 : Int32)  (Q : Int32 → (Nat → Int32) → (Nat → Int32) → (Nat → Int32) → Prop) (x2 : Int32) (y0 : Int32) (mNow : Nat → Int32) (mStk : Nat → Int32) (mFct : Nat → Int32) : Prop :=
  ((x2 < 0 → jp_X7_aMinute_81 Q y0 mNow mStk mFct) ∧ (¬ (x2 < 0) → wp_X7_draw (upd mNow 6 ((mNow 6) + y0)) (fun (r_5 : Int32) (w_6 : Nat → Int32) => ((y0 ≤ (rc_rem r_5 10000) → jp_X7_aMinute_67 p1 Q x2 y0 0 ((upd mNow 6 ((mNow 6) + y0)) 7) 7 w_6 mStk mFct) ∧ (¬ (y0 ≤ (rc_rem r_5 10000)) → jp_X7_aMinute_67 p1 Q x2 y0 1 ((upd mNow 6 ((mNow 6) + y0)) 7) 7 w_6 mStk mFct)))))
def wp_X7_aMinute (p1 : Int32) (mNow : Nat → Int32) (mStk : Nat → Int32) (mFct : Nat → Int32) (Q : Int32 → (Nat → Int32) → (Nat → Int32) → (Nat → Int32) → Prop) : Prop :=
  ((0 ≤ (mNow 2) → wp_X7_riskOf (mNow 2) mNow mStk mFct (fun (r_9 : Int32) (w_10 : Nat → Int32) (w_11 : Nat → Int32) => wp_X7_oddsOn 0 mNow w_10 w_11 (fun (r_12 : Int32) (w_13 : Nat → Int32) (w_14 : Nat → Int32) => jp_X7_aMinute_26 p1 Q (mNow 2) (r_9 * r_12) mNow w_13 w_14))) ∧ (¬ (0 ≤ (mNow 2)) → jp_X7_aMinute_26 p1 Q (mNow 2) 0 mNow mStk mFct))
set_option maxHeartbeats 4000000 in
set_option maxRecDepth 100000 in
theorem c_X7_aMinute (l : Launch) (E : gE) (mo mn mi ma ml mt mb mr mp mk mq mc mw mz ms mf mu mv mx mh mA mB mC mM mT : Nat) (sz : Nat) (mHI : Int32) (mFC : Int32) (mLC : Int32) (mCg : Int32) (mTp : Int32) (mNx : Int32) (mFr : Int32) (mTk : Int32) (mVa : Int32) (mEn : Int32) (mKe : Int32) (mCs : Int32) (mAt : Int32) (mHd : Int32) (mWg : Int32) (mNow : Nat → Int32) (mImg : Nat → Int32) (mAsd : Nat → Int32) (mLea : Nat → Int32) (mLat : Nat → Int32) (mBst : Nat → Int32) (mRsk : Nat → Int32) (mTap : Nat → Int32) (mKys : Nat → Int32) (mKat : Nat → Int32) (mCod : Nat → Int32) (mWts : Nat → Int32) (mTes : Nat → Int32) (mStk : Nat → Int32) (mFct : Nat → Int32) (mSor : Nat → Int32) (mSiz : Nat → Int32) (mCel : Nat → Int32) (mHol : Nat → Int32) (mHoA : Nat → Int32) (mHoB : Nat → Int32) (mHoC : Nat → Int32) (mMov : Nat → Int32) (mTel : Nat → Int32) (p1 : Int32)  (Q : Int32 → (Nat → Int32) → (Nat → Int32) → (Nat → Int32) → Prop) (h : wp_X7_aMinute p1 mNow mStk mFct Q) : Met l yX7_aMinute wsX7_aMinute ({ frames := 3, cells := 0, slots := 0, locals := 70 } : Room) (va_Pc [.ref mo, .int p1] (rc_B E (rw_24 E mo mn mi ma ml mt mb mr mp mk mq mc mw mz ms mf mu mv mx mh mA mB mC mM mT mHI mFC mLC mCg mTp mNx mFr mTk mVa mEn mKe mCs mAt mHd mWg mNow mImg mAsd mLea mLat mBst mRsk mTap mKys mKat mCod mWts mTes mStk mFct mSor mSiz mCel mHol mHoA mHoB mHoC mMov mTel) sz)) (va_Qi (S := (Nat → Int32) × (Nat → Int32) × (Nat → Int32)) (fun (r : Int32) (u : (Nat → Int32) × (Nat → Int32) × (Nat → Int32)) => Q r u.1 u.2.1 u.2.2) (fun u t => rc_C E (va_A (rw_24 E mo mn mi ma ml mt mb mr mp mk mq mc mw mz ms mf mu mv mx mh mA mB mC mM mT mHI mFC mLC mCg mTp mNx mFr mTk mVa mEn mKe mCs mAt mHd mWg mNow mImg mAsd mLea mLat mBst mRsk mTap mKys mKat mCod mWts mTes mStk mFct mSor mSiz mCel mHol mHoA mHoB mHoC mMov mTel) sz) (rw_24 E mo mn mi ma ml mt mb mr mp mk mq mc mw mz ms mf mu mv mx mh mA mB mC mM mT mHI mFC mLC mCg mTp mNx mFr mTk mVa mEn mKe mCs mAt mHd mWg u.1 mImg mAsd mLea mLat mBst mRsk mTap mKys mKat mCod mWts mTes u.2.1 u.2.2 mSor mSiz mCel mHol mHoA mHoB mHoC mMov mTel) t) (va_A (rw_24 E mo mn mi ma ml mt mb mr mp mk mq mc mw mz ms mf mu mv mx mh mA mB mC mM mT mHI mFC mLC mCg mTp mNx mFr mTk mVa mEn mKe mCs mAt mHd mWg mNow mImg mAsd mLea mLat mBst mRsk mTap mKys mKat mCod mWts mTes mStk mFct mSor mSiz mCel mHol mHoA mHoB mHoC mMov mTel) sz)) 0 0 (va_A (rw_24 E mo mn mi ma ml mt mb mr mp mk mq mc mw mz ms mf mu mv mx mh mA mB mC mM mT mHI mFC mLC mCg mTp mNx mFr mTk mVa mEn mKe mCs mAt mHd mWg mNow mImg mAsd mLea mLat mBst mRsk mTap mKys mKat mCod mWts mTes mStk mFct mSor mSiz mCel mHol mHoA mHoB mHoC mMov mTel) sz) := by
  refine rc_enterI (cc := cX7_aMinute) (maxL := 4) (by decide) rfl (Nat.le_of_ble_eq_true rfl) ?_
  intro p e s m args below meth c QQ A hx hb hml hown hts hmn hE hP hD hA hret ls hl
  have hown : s.vm.findClass RX7 = some m.cls := hown
  have hK := hE.1
  have hS : va_S A s.heap s.heap [] := va_S.rf
  have hl : lv_has ls 4 [(0, .ref mo), (1, .int p1)] := hl
  have n_X7 : ∀ w ∈ wsX70, w ∈ wsX7_aMinute := fun _ h => List.mem_cons_of_mem _ (List.mem_append_right _ h)
  have k_9 := hts (.fieldLink RX7 9 "RidgeClapsModel" "now" "[I") (List.mem_of_getElem? (i := 1) rfl)
  have J81 : ∀ (x3 : Int32) (mNow : Nat → Int32) (mStk : Nat → Int32) (mFct : Nat → Int32), jp_X7_aMinute_81 Q x3 mNow mStk mFct → ∀ (H : Heap) (locs : List Loc), va_P E.1 vwCl (rw_24 E mo mn mi ma ml mt mb mr mp mk mq mc mw mz ms mf mu mv mx mh mA mB mC mM mT mHI mFC mLC mCg mTp mNx mFr mTk mVa mEn mKe mCs mAt mHd mWg mNow mImg mAsd mLea mLat mBst mRsk mTap mKys mKat mCod mWts mTes mStk mFct mSor mSiz mCel mHol mHoA mHoB mHoC mMov mTel) H → va_D A (rw_24 E mo mn mi ma ml mt mb mr mp mk mq mc mw mz ms mf mu mv mx mh mA mB mC mM mT mHI mFC mLC mCg mTp mNx mFr mTk mVa mEn mKe mCs mAt mHd mWg mNow mImg mAsd mLea mLat mBst mRsk mTap mKys mKat mCod mWts mTes mStk mFct mSor mSiz mCel mHol mHoA mHoB mHoC mMov mTel) → va_S A s.heap H locs → ∀ ls : Array Slot, lv_has ls 4 [(0, .ref mo), (3, .int x3)] → W p l e ({ frames := 3, cells := 0, slots := 0, locals := 70 } : Room) s m args below meth c H locs 0 0 QQ (F0 m 81 ls []) := by
    intro x3 mNow mStk mFct h H locs hP hD hS ls hl
    unfold jp_X7_aMinute_81 at h
    refine lv_aload_n hx hb dX7_aMinute_81 rfl (lv_at hl 0 rfl) ?_
    refine va_get (D := E.1) (ci := 7) (v := .ref mn) (C := RX7) (T := TX7) (N := 39) hx hb hts n_X7 hown hK hP 0 rfl rfl 0 (by decide) k_9 (fun _ h9 => h9) rfl dX7_aMinute_82 ?_
    refine lv_iconst (v := 4) hx hb dX7_aMinute_85 (by decide) ?_
    refine lv_aload_n hx hb dX7_aMinute_86 rfl (lv_at hl 0 rfl) ?_
    refine lv_iconst (v := 1) hx hb dX7_aMinute_87 (by decide) ?_
    have hPc := hP
    have hDc := hD
    have hFc := rc_freeI hD hS hA
    refine va_calli (va_runV (As := [.int 1]) (rest := [.int 4, .ref mn]) ⟨hx, hb, hml, hown, hts⟩ (c_X7_farOn l E mo mn mi ma ml mt mb mr mp mk mq mc mw mz ms mf mu mv mx mh mA mB mC mM mT H.size mHI mFC mLC mCg mTp mNx mFr mTk mVa mEn mKe mCs mAt mHd mWg mNow mImg mAsd mLea mLat mBst mRsk mTap mKys mKat mCod mWts mTes mStk mFct mSor mSiz mCel mHol mHoA mHoB mHoC mMov mTel 1 _ h) (cwV 1 hts gX7_aMinute_X7_farOn rfl rfl rfl (by decide +kernel) ⟨Nat.le_of_ble_eq_true rfl, Nat.le_of_ble_eq_true rfl⟩) ⟨fun a U g mk q => ⟨q.1, q.2.blind⟩, va_recv hK hPc (ci := 7) (q0 := 0) rfl rfl, fun U hU hW => ⟨rfl, by rw [hU], by rw [hU]; exact hPc, hE.call hS hFc hW hU, hDc.weaken (fun _ _ _ _ => trivial)⟩⟩ rfl rfl hl.1 rfl (lv_room (Nat.le_of_ble_eq_true rfl)) dX7_aMinute_88 ⟨Nat.zero_le _, Nat.zero_le _⟩) hS (fun q _ h => hFc q h) hFc (fun r_1 u t H1 locs ht hvm h hB hz1 hk1 hS => ?_)
    obtain ⟨hP1, hD1⟩ := hB
    rw [ht] at hP1
    have hP := hP1
    have hD := hD1.weaken (fun _ _ _ h => hFc _ h)
    generalize H1 = H at hP hS ⊢
    have hP : va_P E.1 vwCl (rw_24 E mo mn mi ma ml mt mb mr mp mk mq mc mw mz ms mf mu mv mx mh mA mB mC mM mT mHI mFC mLC mCg mTp mNx mFr mTk mVa mEn mKe mCs mAt mHd mWg mNow mImg mAsd mLea mLat mBst mRsk mTap mKys mKat mCod mWts mTes mStk mFct mSor mSiz mCel mHol mHoA mHoB mHoC mMov mTel) H := hP
    have hD : va_D A (rw_24 E mo mn mi ma ml mt mb mr mp mk mq mc mw mz ms mf mu mv mx mh mA mB mC mM mT mHI mFC mLC mCg mTp mNx mFr mTk mVa mEn mKe mCs mAt mHd mWg mNow mImg mAsd mLea mLat mBst mRsk mTap mKys mKat mCod mWts mTes mStk mFct mSor mSiz mCel mHol mHoA mHoB mHoC mMov mTel) := hD
    refine rc_iast hx hb hK hP hD hS 1 0 rfl rfl 4 (by decide) (by unfold vp_in; decide) dX7_aMinute_91 (fun H locs hP hD hS => ?_)
    have hP : va_P E.1 vwCl (rw_24 E mo mn mi ma ml mt mb mr mp mk mq mc mw mz ms mf mu mv mx mh mA mB mC mM mT mHI mFC mLC mCg mTp mNx mFr mTk mVa mEn mKe mCs mAt mHd mWg (upd mNow 4 r_1) mImg mAsd mLea mLat mBst mRsk mTap mKys mKat mCod mWts mTes mStk mFct mSor mSiz mCel mHol mHoA mHoB mHoC mMov mTel) H := hP
    have hD : va_D A (rw_24 E mo mn mi ma ml mt mb mr mp mk mq mc mw mz ms mf mu mv mx mh mA mB mC mM mT mHI mFC mLC mCg mTp mNx mFr mTk mVa mEn mKe mCs mAt mHd mWg (upd mNow 4 r_1) mImg mAsd mLea mLat mBst mRsk mTap mKys mKat mCod mWts mTes mStk mFct mSor mSiz mCel mHol mHoA mHoB mHoC mMov mTel) := hD
    refine lv_aload_n hx hb dX7_aMinute_92 rfl (lv_at hl 0 rfl) ?_
    refine va_get (D := E.1) (ci := 7) (v := .ref mn) (C := RX7) (T := TX7) (N := 39) hx hb hts n_X7 hown hK hP 0 rfl rfl 0 (by decide) k_9 (fun _ h9 => h9) rfl dX7_aMinute_93 ?_
    refine lv_iconst (v := 3) hx hb dX7_aMinute_96 (by decide) ?_
    refine lv_dup2_11 hx hb dX7_aMinute_97 rfl rfl ?_
    refine rc_iald hx hb hK hP 1 0 rfl rfl 3 (by decide) (by unfold vp_in; decide) dX7_aMinute_98 ?_
    refine lv_iconst (v := 1) hx hb dX7_aMinute_99 (by decide) ?_
    refine lv_iadd hx hb dX7_aMinute_100 ?_
    refine rc_iast hx hb hK hP hD hS 1 0 rfl rfl 3 (by decide) (by unfold vp_in; decide) dX7_aMinute_101 (fun H locs hP hD hS => ?_)
    have hP : va_P E.1 vwCl (rw_24 E mo mn mi ma ml mt mb mr mp mk mq mc mw mz ms mf mu mv mx mh mA mB mC mM mT mHI mFC mLC mCg mTp mNx mFr mTk mVa mEn mKe mCs mAt mHd mWg (upd (upd mNow 4 r_1) 3 (((upd mNow 4 r_1) 3) + 1)) mImg mAsd mLea mLat mBst mRsk mTap mKys mKat mCod mWts mTes mStk mFct mSor mSiz mCel mHol mHoA mHoB mHoC mMov mTel) H := hP
    have hD : va_D A (rw_24 E mo mn mi ma ml mt mb mr mp mk mq mc mw mz ms mf mu mv mx mh mA mB mC mM mT mHI mFC mLC mCg mTp mNx mFr mTk mVa mEn mKe mCs mAt mHd mWg (upd (upd mNow 4 r_1) 3 (((upd mNow 4 r_1) 3) + 1)) mImg mAsd mLea mLat mBst mRsk mTap mKys mKat mCod mWts mTes mStk mFct mSor mSiz mCel mHol mHoA mHoB mHoC mMov mTel) := hD
    refine lv_iload_n hx hb dX7_aMinute_102 rfl (lv_at hl 1 rfl) ?_
    exact hret _ _ _ _ x3 (upd (upd mNow 4 r_1) 3 (((upd mNow 4 r_1) 3) + 1), mStk, mFct) rfl h hP hD hS dX7_aMinute_103
  have J67 : ∀ (x2 : Int32) (x3 : Int32) (y0 : Int32) (y1 : Int32) (y2 : Int32) (mNow : Nat → Int32) (mStk : Nat → Int32) (mFct : Nat → Int32), jp_X7_aMinute_67 p1 Q x2 x3 y0 y1 y2 mNow mStk mFct → ∀ (H : Heap) (locs : List Loc), va_P E.1 vwCl (rw_24 E mo mn mi ma ml mt mb mr mp mk mq mc mw mz ms mf mu mv mx mh mA mB mC mM mT mHI mFC mLC mCg mTp mNx mFr mTk mVa mEn mKe mCs mAt mHd mWg mNow mImg mAsd mLea mLat mBst mRsk mTap mKys mKat mCod mWts mTes mStk mFct mSor mSiz mCel mHol mHoA mHoB mHoC mMov mTel) H → va_D A (rw_24 E mo mn mi ma ml mt mb mr mp mk mq mc mw mz ms mf mu mv mx mh mA mB mC mM mT mHI mFC mLC mCg mTp mNx mFr mTk mVa mEn mKe mCs mAt mHd mWg mNow mImg mAsd mLea mLat mBst mRsk mTap mKys mKat mCod mWts mTes mStk mFct mSor mSiz mCel mHol mHoA mHoB mHoC mMov mTel) → va_S A s.heap H locs → ∀ ls : Array Slot, lv_has ls 4 [(0, .ref mo), (1, .int p1), (2, .int x2), (3, .int x3)] → W p l e ({ frames := 3, cells := 0, slots := 0, locals := 70 } : Room) s m args below meth c H locs 0 0 QQ (F0 m 67 ls [.int y0, .int y1, .int y2, .ref mn]) := by
    intro x2 x3 y0 y1 y2 mNow mStk mFct h H locs hP hD hS ls hl
    unfold jp_X7_aMinute_67 at h
    refine lv_iadd hx hb dX7_aMinute_67 ?_
    obtain ⟨o_2, h⟩ := h
    refine rc_iast hx hb hK hP hD hS 1 0 rfl rfl y2.toNatClampNeg rfl o_2 dX7_aMinute_68 (fun H locs hP hD hS => ?_)
    have hP : va_P E.1 vwCl (rw_24 E mo mn mi ma ml mt mb mr mp mk mq mc mw mz ms mf mu mv mx mh mA mB mC mM mT mHI mFC mLC mCg mTp mNx mFr mTk mVa mEn mKe mCs mAt mHd mWg (upd mNow y2.toNatClampNeg (y1 + y0)) mImg mAsd mLea mLat mBst mRsk mTap mKys mKat mCod mWts mTes mStk mFct mSor mSiz mCel mHol mHoA mHoB mHoC mMov mTel) H := hP
    have hD : va_D A (rw_24 E mo mn mi ma ml mt mb mr mp mk mq mc mw mz ms mf mu mv mx mh mA mB mC mM mT mHI mFC mLC mCg mTp mNx mFr mTk mVa mEn mKe mCs mAt mHd mWg (upd mNow y2.toNatClampNeg (y1 + y0)) mImg mAsd mLea mLat mBst mRsk mTap mKys mKat mCod mWts mTes mStk mFct mSor mSiz mCel mHol mHoA mHoB mHoC mMov mTel) := hD
    refine lv_aload_n hx hb dX7_aMinute_69 rfl (lv_at hl 0 rfl) ?_
    refine va_get (D := E.1) (ci := 7) (v := .ref mn) (C := RX7) (T := TX7) (N := 39) hx hb hts n_X7 hown hK hP 0 rfl rfl 0 (by decide) k_9 (fun _ h9 => h9) rfl dX7_aMinute_70 ?_
    refine lv_iconst (v := 2) hx hb dX7_aMinute_73 (by decide) ?_
    refine lv_aload_n hx hb dX7_aMinute_74 rfl (lv_at hl 0 rfl) ?_
    refine lv_iload_n hx hb dX7_aMinute_75 rfl (lv_at hl 2 rfl) ?_
    refine lv_iload_n hx hb dX7_aMinute_76 rfl (lv_at hl 1 rfl) ?_
    have hPc := hP
    have hDc := hD
    have hFc := rc_freeI hD hS hA
    refine va_calli (va_runV (As := [.int x2, .int p1]) (rest := [.int 2, .ref mn]) ⟨hx, hb, hml, hown, hts⟩ (c_X7_goes l E mo mn mi ma ml mt mb mr mp mk mq mc mw mz ms mf mu mv mx mh mA mB mC mM mT H.size mHI mFC mLC mCg mTp mNx mFr mTk mVa mEn mKe mCs mAt mHd mWg (upd mNow y2.toNatClampNeg (y1 + y0)) mImg mAsd mLea mLat mBst mRsk mTap mKys mKat mCod mWts mTes mStk mFct mSor mSiz mCel mHol mHoA mHoB mHoC mMov mTel x2 p1 _ h) (cwV 2 hts gX7_aMinute_X7_goes rfl rfl rfl (by decide +kernel) ⟨Nat.le_of_ble_eq_true rfl, Nat.le_of_ble_eq_true rfl⟩) ⟨fun a U g mk q => ⟨q.1, q.2.blind⟩, va_recv hK hPc (ci := 7) (q0 := 0) rfl rfl, fun U hU hW => ⟨rfl, by rw [hU], by rw [hU]; exact hPc, hE.call hS hFc hW hU, hDc.weaken (fun _ _ _ _ => trivial)⟩⟩ rfl rfl hl.1 rfl (lv_room (Nat.le_of_ble_eq_true rfl)) dX7_aMinute_77 ⟨Nat.zero_le _, Nat.zero_le _⟩) hS (fun q _ h => hFc q h) hFc (fun r_3 u t H1 locs ht hvm h hB hz1 hk1 hS => ?_)
    obtain ⟨hP1, hD1⟩ := hB
    rw [ht] at hP1
    have hP := hP1
    have hD := hD1.weaken (fun _ _ _ h => hFc _ h)
    generalize H1 = H at hP hS ⊢
    have hP : va_P E.1 vwCl (rw_24 E mo mn mi ma ml mt mb mr mp mk mq mc mw mz ms mf mu mv mx mh mA mB mC mM mT mHI mFC mLC mCg mTp mNx mFr mTk mVa mEn mKe mCs mAt mHd mWg (upd mNow y2.toNatClampNeg (y1 + y0)) mImg mAsd mLea mLat mBst mRsk mTap mKys mKat mCod mWts mTes mStk mFct mSor mSiz mCel mHol mHoA mHoB mHoC mMov mTel) H := hP
    have hD : va_D A (rw_24 E mo mn mi ma ml mt mb mr mp mk mq mc mw mz ms mf mu mv mx mh mA mB mC mM mT mHI mFC mLC mCg mTp mNx mFr mTk mVa mEn mKe mCs mAt mHd mWg (upd mNow y2.toNatClampNeg (y1 + y0)) mImg mAsd mLea mLat mBst mRsk mTap mKys mKat mCod mWts mTes mStk mFct mSor mSiz mCel mHol mHoA mHoB mHoC mMov mTel) := hD
    refine rc_iast hx hb hK hP hD hS 1 0 rfl rfl 2 (by decide) (by unfold vp_in; decide) dX7_aMinute_80 (fun H locs hP hD hS => ?_)
    have hP : va_P E.1 vwCl (rw_24 E mo mn mi ma ml mt mb mr mp mk mq mc mw mz ms mf mu mv mx mh mA mB mC mM mT mHI mFC mLC mCg mTp mNx mFr mTk mVa mEn mKe mCs mAt mHd mWg (upd (upd mNow y2.toNatClampNeg (y1 + y0)) 2 r_3) mImg mAsd mLea mLat mBst mRsk mTap mKys mKat mCod mWts mTes mStk mFct mSor mSiz mCel mHol mHoA mHoB mHoC mMov mTel) H := hP
    have hD : va_D A (rw_24 E mo mn mi ma ml mt mb mr mp mk mq mc mw mz ms mf mu mv mx mh mA mB mC mM mT mHI mFC mLC mCg mTp mNx mFr mTk mVa mEn mKe mCs mAt mHd mWg (upd (upd mNow y2.toNatClampNeg (y1 + y0)) 2 r_3) mImg mAsd mLea mLat mBst mRsk mTap mKys mKat mCod mWts mTes mStk mFct mSor mSiz mCel mHol mHoA mHoB mHoC mMov mTel) := hD
    exact J81 x3 (upd (upd mNow y2.toNatClampNeg (y1 + y0)) 2 r_3) mStk mFct h _ _ hP hD hS ls (lv_sub hl [0, 3] rfl)
  have J26 : ∀ (x2 : Int32) (y0 : Int32) (mNow : Nat → Int32) (mStk : Nat → Int32) (mFct : Nat → Int32), jp_X7_aMinute_26 p1 Q x2 y0 mNow mStk mFct → ∀ (H : Heap) (locs : List Loc), va_P E.1 vwCl (rw_24 E mo mn mi ma ml mt mb mr mp mk mq mc mw mz ms mf mu mv mx mh mA mB mC mM mT mHI mFC mLC mCg mTp mNx mFr mTk mVa mEn mKe mCs mAt mHd mWg mNow mImg mAsd mLea mLat mBst mRsk mTap mKys mKat mCod mWts mTes mStk mFct mSor mSiz mCel mHol mHoA mHoB mHoC mMov mTel) H → va_D A (rw_24 E mo mn mi ma ml mt mb mr mp mk mq mc mw mz ms mf mu mv mx mh mA mB mC mM mT mHI mFC mLC mCg mTp mNx mFr mTk mVa mEn mKe mCs mAt mHd mWg mNow mImg mAsd mLea mLat mBst mRsk mTap mKys mKat mCod mWts mTes mStk mFct mSor mSiz mCel mHol mHoA mHoB mHoC mMov mTel) → va_S A s.heap H locs → ∀ ls : Array Slot, lv_has ls 4 [(0, .ref mo), (1, .int p1), (2, .int x2)] → W p l e ({ frames := 3, cells := 0, slots := 0, locals := 70 } : Room) s m args below meth c H locs 0 0 QQ (F0 m 26 ls [.int y0]) := by
    intro x2 y0 mNow mStk mFct h H locs hP hD hS ls hl
    unfold jp_X7_aMinute_26 at h
    refine lv_istore_n (lv' := [(3, .int y0), (0, .ref mo), (1, .int p1), (2, .int x2)]) hx hb dX7_aMinute_26 rfl hl (by decide) rfl (fun ls hl => ?_)
    refine lv_iload_n hx hb dX7_aMinute_27 rfl (lv_at hl 3 rfl) ?_
    refine lv_if_lt (tgt := 81) hx hb dX7_aMinute_28 (by decide) (fun c_4 => ?_) (fun c_4 => ?_)
    · have h := h.1 c_4
      exact J81 y0 mNow mStk mFct h _ _ hP hD hS ls (lv_sub hl [1, 0] rfl)
    · have h := h.2 c_4
      refine lv_aload_n hx hb dX7_aMinute_31 rfl (lv_at hl 1 rfl) ?_
      refine va_get (D := E.1) (ci := 7) (v := .ref mn) (C := RX7) (T := TX7) (N := 39) hx hb hts n_X7 hown hK hP 0 rfl rfl 0 (by decide) k_9 (fun _ h9 => h9) rfl dX7_aMinute_32 ?_
      refine lv_bipush (v := 6) hx hb dX7_aMinute_35 (by decide) ?_
      refine lv_dup2_11 hx hb dX7_aMinute_37 rfl rfl ?_
      refine rc_iald hx hb hK hP 1 0 rfl rfl 6 (by decide) (by unfold vp_in; decide) dX7_aMinute_38 ?_
      refine lv_iload_n hx hb dX7_aMinute_39 rfl (lv_at hl 0 rfl) ?_
      refine lv_iadd hx hb dX7_aMinute_40 ?_
      refine rc_iast hx hb hK hP hD hS 1 0 rfl rfl 6 (by decide) (by unfold vp_in; decide) dX7_aMinute_41 (fun H locs hP hD hS => ?_)
      have hP : va_P E.1 vwCl (rw_24 E mo mn mi ma ml mt mb mr mp mk mq mc mw mz ms mf mu mv mx mh mA mB mC mM mT mHI mFC mLC mCg mTp mNx mFr mTk mVa mEn mKe mCs mAt mHd mWg (upd mNow 6 ((mNow 6) + y0)) mImg mAsd mLea mLat mBst mRsk mTap mKys mKat mCod mWts mTes mStk mFct mSor mSiz mCel mHol mHoA mHoB mHoC mMov mTel) H := hP
      have hD : va_D A (rw_24 E mo mn mi ma ml mt mb mr mp mk mq mc mw mz ms mf mu mv mx mh mA mB mC mM mT mHI mFC mLC mCg mTp mNx mFr mTk mVa mEn mKe mCs mAt mHd mWg (upd mNow 6 ((mNow 6) + y0)) mImg mAsd mLea mLat mBst mRsk mTap mKys mKat mCod mWts mTes mStk mFct mSor mSiz mCel mHol mHoA mHoB mHoC mMov mTel) := hD
      refine lv_aload_n hx hb dX7_aMinute_42 rfl (lv_at hl 1 rfl) ?_
      refine va_get (D := E.1) (ci := 7) (v := .ref mn) (C := RX7) (T := TX7) (N := 39) hx hb hts n_X7 hown hK hP 0 rfl rfl 0 (by decide) k_9 (fun _ h9 => h9) rfl dX7_aMinute_43 ?_
      refine lv_bipush (v := 7) hx hb dX7_aMinute_46 (by decide) ?_
      refine lv_dup2_11 hx hb dX7_aMinute_48 rfl rfl ?_
      refine rc_iald hx hb hK hP 1 0 rfl rfl 7 (by decide) (by unfold vp_in; decide) dX7_aMinute_49 ?_
      refine lv_aload_n hx hb dX7_aMinute_50 rfl (lv_at hl 1 rfl) ?_
      have hPc := hP
      have hDc := hD
      have hFc := rc_freeI hD hS hA
      refine va_calli (va_runV (As := []) (rest := [.int ((upd mNow 6 ((mNow 6) + y0)) 7), .int 7, .ref mn]) ⟨hx, hb, hml, hown, hts⟩ (c_X7_draw l E mo mn mi ma ml mt mb mr mp mk mq mc mw mz ms mf mu mv mx mh mA mB mC mM mT H.size mHI mFC mLC mCg mTp mNx mFr mTk mVa mEn mKe mCs mAt mHd mWg (upd mNow 6 ((mNow 6) + y0)) mImg mAsd mLea mLat mBst mRsk mTap mKys mKat mCod mWts mTes mStk mFct mSor mSiz mCel mHol mHoA mHoB mHoC mMov mTel _ h) (cwV 0 hts gX7_aMinute_X7_draw rfl rfl rfl (by decide +kernel) ⟨Nat.le_of_ble_eq_true rfl, Nat.le_of_ble_eq_true rfl⟩) ⟨fun a U g mk q => ⟨q.1, q.2.blind⟩, va_recv hK hPc (ci := 7) (q0 := 0) rfl rfl, fun U hU hW => ⟨rfl, by rw [hU], by rw [hU]; exact hPc, hE.call hS hFc hW hU, hDc.weaken (fun _ _ _ _ => trivial)⟩⟩ rfl rfl hl.1 rfl (lv_room (Nat.le_of_ble_eq_true rfl)) dX7_aMinute_51 ⟨Nat.zero_le _, Nat.zero_le _⟩) hS (fun q _ h => hFc q h) hFc (fun r_5 u t H1 locs ht hvm h hB hz1 hk1 hS => ?_)
      obtain ⟨w_6, rfl⟩ : ∃ z, z = u := ⟨_, rfl⟩
      obtain ⟨hP1, hD1⟩ := hB
      rw [ht] at hP1
      have hP := hP1
      have hD := hD1.weaken (fun _ _ _ h => hFc _ h)
      generalize H1 = H at hP hS ⊢
      have hP : va_P E.1 vwCl (rw_24 E mo mn mi ma ml mt mb mr mp mk mq mc mw mz ms mf mu mv mx mh mA mB mC mM mT mHI mFC mLC mCg mTp mNx mFr mTk mVa mEn mKe mCs mAt mHd mWg w_6 mImg mAsd mLea mLat mBst mRsk mTap mKys mKat mCod mWts mTes mStk mFct mSor mSiz mCel mHol mHoA mHoB mHoC mMov mTel) H := hP
      have hD : va_D A (rw_24 E mo mn mi ma ml mt mb mr mp mk mq mc mw mz ms mf mu mv mx mh mA mB mC mM mT mHI mFC mLC mCg mTp mNx mFr mTk mVa mEn mKe mCs mAt mHd mWg w_6 mImg mAsd mLea mLat mBst mRsk mTap mKys mKat mCod mWts mTes mStk mFct mSor mSiz mCel mHol mHoA mHoB mHoC mMov mTel) := hD
      refine lv_sipush (v := 10000) hx hb dX7_aMinute_54 (by decide) ?_
      refine lv_irem hx hb dX7_aMinute_57 (by decide) ?_
      refine W.eq (g2 := F0 m 58 ls [.int (rc_rem r_5 10000), .int ((upd mNow 6 ((mNow 6) + y0)) 7), .int 7, .ref mn]) rfl ?_
      refine lv_iload_n hx hb dX7_aMinute_58 rfl (lv_at hl 0 rfl) ?_
      refine lv_icmp_ge (tgt := 66) hx hb dX7_aMinute_59 (by decide) (fun c_7 => ?_) (fun c_7 => ?_)
      · have h := h.1 c_7
        refine lv_iconst (v := 0) hx hb dX7_aMinute_66 (by decide) ?_
        exact J67 x2 y0 0 ((upd mNow 6 ((mNow 6) + y0)) 7) 7 w_6 mStk mFct h _ _ hP hD hS ls (lv_sub hl [1, 2, 3, 0] rfl)
      · have h := h.2 c_7
        refine lv_iconst (v := 1) hx hb dX7_aMinute_62 (by decide) ?_
        refine lv_goto (tgt := 67) hx hb dX7_aMinute_63 (by decide) ?_
        exact J67 x2 y0 1 ((upd mNow 6 ((mNow 6) + y0)) 7) 7 w_6 mStk mFct h _ _ hP hD hS ls (lv_sub hl [1, 2, 3, 0] rfl)
  unfold wp_X7_aMinute at h
  obtain ⟨H, hH⟩ : ∃ H, H = s.heap := ⟨_, rfl⟩
  obtain ⟨locs, hlocs⟩ : ∃ locs : List Loc, locs = [] := ⟨_, rfl⟩
  have hP : va_P E.1 vwCl (rw_24 E mo mn mi ma ml mt mb mr mp mk mq mc mw mz ms mf mu mv mx mh mA mB mC mM mT mHI mFC mLC mCg mTp mNx mFr mTk mVa mEn mKe mCs mAt mHd mWg mNow mImg mAsd mLea mLat mBst mRsk mTap mKys mKat mCod mWts mTes mStk mFct mSor mSiz mCel mHol mHoA mHoB mHoC mMov mTel) H := by rw [hH]; exact hP
  have hS : va_S A s.heap H locs := by rw [hH, hlocs]; exact hS
  suffices hgo : W p l e ({ frames := 3, cells := 0, slots := 0, locals := 70 } : Room) s m args below meth c H locs 0 0 QQ (F0 m 0 ls []) from by rw [hH, hlocs] at hgo; exact hgo
  refine lv_aload_n hx hb dX7_aMinute_0 rfl (lv_at hl 0 rfl) ?_
  refine va_get (D := E.1) (ci := 7) (v := .ref mn) (C := RX7) (T := TX7) (N := 39) hx hb hts n_X7 hown hK hP 0 rfl rfl 0 (by decide) k_9 (fun _ h9 => h9) rfl dX7_aMinute_1 ?_
  refine lv_iconst (v := 2) hx hb dX7_aMinute_4 (by decide) ?_
  refine rc_iald hx hb hK hP 1 0 rfl rfl 2 (by decide) (by unfold vp_in; decide) dX7_aMinute_5 ?_
  refine lv_istore_n (lv' := [(2, .int (mNow 2)), (0, .ref mo), (1, .int p1)]) hx hb dX7_aMinute_6 rfl hl (by decide) rfl (fun ls hl => ?_)
  refine lv_iload_n hx hb dX7_aMinute_7 rfl (lv_at hl 0 rfl) ?_
  refine lv_if_ge (tgt := 15) hx hb dX7_aMinute_8 (by decide) (fun c_8 => ?_) (fun c_8 => ?_)
  · have h := h.1 c_8
    refine lv_aload_n hx hb dX7_aMinute_15 rfl (lv_at hl 1 rfl) ?_
    refine lv_iload_n hx hb dX7_aMinute_16 rfl (lv_at hl 0 rfl) ?_
    have hPc := hP
    have hDc := hD
    have hFc := rc_freeI hD hS hA
    refine va_calli (va_runV (As := [.int (mNow 2)]) (rest := []) ⟨hx, hb, hml, hown, hts⟩ (c_X7_riskOf l E mo mn mi ma ml mt mb mr mp mk mq mc mw mz ms mf mu mv mx mh mA mB mC mM mT H.size mHI mFC mLC mCg mTp mNx mFr mTk mVa mEn mKe mCs mAt mHd mWg mNow mImg mAsd mLea mLat mBst mRsk mTap mKys mKat mCod mWts mTes mStk mFct mSor mSiz mCel mHol mHoA mHoB mHoC mMov mTel (mNow 2) _ h) (cwV 1 hts gX7_aMinute_X7_riskOf rfl rfl rfl (by decide +kernel) ⟨Nat.le_of_ble_eq_true rfl, Nat.le_of_ble_eq_true rfl⟩) ⟨fun a U g mk q => ⟨q.1, q.2.blind⟩, va_recv hK hPc (ci := 7) (q0 := 0) rfl rfl, fun U hU hW => ⟨rfl, by rw [hU], by rw [hU]; exact hPc, hE.call hS hFc hW hU, hDc.weaken (fun _ _ _ _ => trivial)⟩⟩ rfl rfl hl.1 rfl (lv_room (Nat.le_of_ble_eq_true rfl)) dX7_aMinute_17 ⟨Nat.zero_le _, Nat.zero_le _⟩) hS (fun q _ h => hFc q h) hFc (fun r_9 u t H1 locs ht hvm h hB hz1 hk1 hS => ?_)
    obtain ⟨w_10, w_11⟩ := u
    obtain ⟨hP1, hD1⟩ := hB
    rw [ht] at hP1
    have hP := hP1
    have hD := hD1.weaken (fun _ _ _ h => hFc _ h)
    generalize H1 = H at hP hS ⊢
    have hP : va_P E.1 vwCl (rw_24 E mo mn mi ma ml mt mb mr mp mk mq mc mw mz ms mf mu mv mx mh mA mB mC mM mT mHI mFC mLC mCg mTp mNx mFr mTk mVa mEn mKe mCs mAt mHd mWg mNow mImg mAsd mLea mLat mBst mRsk mTap mKys mKat mCod mWts mTes w_10 w_11 mSor mSiz mCel mHol mHoA mHoB mHoC mMov mTel) H := hP
    have hD : va_D A (rw_24 E mo mn mi ma ml mt mb mr mp mk mq mc mw mz ms mf mu mv mx mh mA mB mC mM mT mHI mFC mLC mCg mTp mNx mFr mTk mVa mEn mKe mCs mAt mHd mWg mNow mImg mAsd mLea mLat mBst mRsk mTap mKys mKat mCod mWts mTes w_10 w_11 mSor mSiz mCel mHol mHoA mHoB mHoC mMov mTel) := hD
    refine lv_aload_n hx hb dX7_aMinute_20 rfl (lv_at hl 1 rfl) ?_
    refine lv_iconst (v := 0) hx hb dX7_aMinute_21 (by decide) ?_
    have hPc := hP
    have hDc := hD
    have hFc := rc_freeI hD hS hA
    refine va_calli (va_runV (As := [.int 0]) (rest := [.int r_9]) ⟨hx, hb, hml, hown, hts⟩ (c_X7_oddsOn l E mo mn mi ma ml mt mb mr mp mk mq mc mw mz ms mf mu mv mx mh mA mB mC mM mT H.size mHI mFC mLC mCg mTp mNx mFr mTk mVa mEn mKe mCs mAt mHd mWg mNow mImg mAsd mLea mLat mBst mRsk mTap mKys mKat mCod mWts mTes w_10 w_11 mSor mSiz mCel mHol mHoA mHoB mHoC mMov mTel 0 _ h) (cwV 1 hts gX7_aMinute_X7_oddsOn rfl rfl rfl (by decide +kernel) ⟨Nat.le_of_ble_eq_true rfl, Nat.le_of_ble_eq_true rfl⟩) ⟨fun a U g mk q => ⟨q.1, q.2.blind⟩, va_recv hK hPc (ci := 7) (q0 := 0) rfl rfl, fun U hU hW => ⟨rfl, by rw [hU], by rw [hU]; exact hPc, hE.call hS hFc hW hU, hDc.weaken (fun _ _ _ _ => trivial)⟩⟩ rfl rfl hl.1 rfl (lv_room (Nat.le_of_ble_eq_true rfl)) dX7_aMinute_22 ⟨Nat.zero_le _, Nat.zero_le _⟩) hS (fun q _ h => hFc q h) hFc (fun r_12 u t H1 locs ht hvm h hB hz1 hk1 hS => ?_)
    obtain ⟨w_13, w_14⟩ := u
    obtain ⟨hP1, hD1⟩ := hB
    rw [ht] at hP1
    have hP := hP1
    have hD := hD1.weaken (fun _ _ _ h => hFc _ h)
    generalize H1 = H at hP hS ⊢
    have hP : va_P E.1 vwCl (rw_24 E mo mn mi ma ml mt mb mr mp mk mq mc mw mz ms mf mu mv mx mh mA mB mC mM mT mHI mFC mLC mCg mTp mNx mFr mTk mVa mEn mKe mCs mAt mHd mWg mNow mImg mAsd mLea mLat mBst mRsk mTap mKys mKat mCod mWts mTes w_13 w_14 mSor mSiz mCel mHol mHoA mHoB mHoC mMov mTel) H := hP
    have hD : va_D A (rw_24 E mo mn mi ma ml mt mb mr mp mk mq mc mw mz ms mf mu mv mx mh mA mB mC mM mT mHI mFC mLC mCg mTp mNx mFr mTk mVa mEn mKe mCs mAt mHd mWg mNow mImg mAsd mLea mLat mBst mRsk mTap mKys mKat mCod mWts mTes w_13 w_14 mSor mSiz mCel mHol mHoA mHoB mHoC mMov mTel) := hD
    refine lv_imul hx hb dX7_aMinute_25 ?_
    exact J26 (mNow 2) (r_9 * r_12) mNow w_13 w_14 h _ _ hP hD hS ls (lv_sub hl [1, 2, 0] rfl)
  · have h := h.2 c_8
    refine lv_iconst (v := 0) hx hb dX7_aMinute_11 (by decide) ?_
    refine lv_goto (tgt := 26) hx hb dX7_aMinute_12 (by decide) ?_
    exact J26 (mNow 2) 0 mNow mStk mFct h _ _ hP hD hS ls (lv_sub hl [1, 2, 0] rfl)
def wp_X7_step (p1 : Int32) (mNow : Nat → Int32) (mStk : Nat → Int32) (mFct : Nat → Int32) (Q : Int32 → (Nat → Int32) → (Nat → Int32) → (Nat → Int32) → Prop) : Prop :=
  wp_X7_in p1 0 3 (fun (r_1 : Int32) => ((¬ r_1 = 0 → wp_X7_may (mNow 2) p1 mNow (fun (r_3 : Int32) => ((¬ r_3 = 0 → ((¬ (mNow 3) = 9999 → wp_X7_aMinute p1 mNow mStk mFct (fun (r_6 : Int32) (w_7 : Nat → Int32) (w_8 : Nat → Int32) (w_9 : Nat → Int32) => Q r_6 w_7 w_8 w_9)) ∧ ((mNow 3) = 9999 → Q (-1000000003) mNow mStk mFct))) ∧ (r_3 = 0 → Q (-1000000002) mNow mStk mFct)))) ∧ (r_1 = 0 → Q (-1000000001) mNow mStk mFct)))
set_option maxHeartbeats 4000000 in
set_option maxRecDepth 100000 in
theorem c_X7_step (l : Launch) (E : gE) (mo mn mi ma ml mt mb mr mp mk mq mc mw mz ms mf mu mv mx mh mA mB mC mM mT : Nat) (sz : Nat) (mHI : Int32) (mFC : Int32) (mLC : Int32) (mCg : Int32) (mTp : Int32) (mNx : Int32) (mFr : Int32) (mTk : Int32) (mVa : Int32) (mEn : Int32) (mKe : Int32) (mCs : Int32) (mAt : Int32) (mHd : Int32) (mWg : Int32) (mNow : Nat → Int32) (mImg : Nat → Int32) (mAsd : Nat → Int32) (mLea : Nat → Int32) (mLat : Nat → Int32) (mBst : Nat → Int32) (mRsk : Nat → Int32) (mTap : Nat → Int32) (mKys : Nat → Int32) (mKat : Nat → Int32) (mCod : Nat → Int32) (mWts : Nat → Int32) (mTes : Nat → Int32) (mStk : Nat → Int32) (mFct : Nat → Int32) (mSor : Nat → Int32) (mSiz : Nat → Int32) (mCel : Nat → Int32) (mHol : Nat → Int32) (mHoA : Nat → Int32) (mHoB : Nat → Int32) (mHoC : Nat → Int32) (mMov : Nat → Int32) (mTel : Nat → Int32) (p1 : Int32)  (Q : Int32 → (Nat → Int32) → (Nat → Int32) → (Nat → Int32) → Prop) (h : wp_X7_step p1 mNow mStk mFct Q) : Met l yX7_step wsX7_step ({ frames := 4, cells := 0, slots := 0, locals := 93 } : Room) (va_Pc [.ref mo, .int p1] (rc_B E (rw_24 E mo mn mi ma ml mt mb mr mp mk mq mc mw mz ms mf mu mv mx mh mA mB mC mM mT mHI mFC mLC mCg mTp mNx mFr mTk mVa mEn mKe mCs mAt mHd mWg mNow mImg mAsd mLea mLat mBst mRsk mTap mKys mKat mCod mWts mTes mStk mFct mSor mSiz mCel mHol mHoA mHoB mHoC mMov mTel) sz)) (va_Qi (S := (Nat → Int32) × (Nat → Int32) × (Nat → Int32)) (fun (r : Int32) (u : (Nat → Int32) × (Nat → Int32) × (Nat → Int32)) => Q r u.1 u.2.1 u.2.2) (fun u t => rc_C E (va_A (rw_24 E mo mn mi ma ml mt mb mr mp mk mq mc mw mz ms mf mu mv mx mh mA mB mC mM mT mHI mFC mLC mCg mTp mNx mFr mTk mVa mEn mKe mCs mAt mHd mWg mNow mImg mAsd mLea mLat mBst mRsk mTap mKys mKat mCod mWts mTes mStk mFct mSor mSiz mCel mHol mHoA mHoB mHoC mMov mTel) sz) (rw_24 E mo mn mi ma ml mt mb mr mp mk mq mc mw mz ms mf mu mv mx mh mA mB mC mM mT mHI mFC mLC mCg mTp mNx mFr mTk mVa mEn mKe mCs mAt mHd mWg u.1 mImg mAsd mLea mLat mBst mRsk mTap mKys mKat mCod mWts mTes u.2.1 u.2.2 mSor mSiz mCel mHol mHoA mHoB mHoC mMov mTel) t) (va_A (rw_24 E mo mn mi ma ml mt mb mr mp mk mq mc mw mz ms mf mu mv mx mh mA mB mC mM mT mHI mFC mLC mCg mTp mNx mFr mTk mVa mEn mKe mCs mAt mHd mWg mNow mImg mAsd mLea mLat mBst mRsk mTap mKys mKat mCod mWts mTes mStk mFct mSor mSiz mCel mHol mHoA mHoB mHoC mMov mTel) sz)) 0 0 (va_A (rw_24 E mo mn mi ma ml mt mb mr mp mk mq mc mw mz ms mf mu mv mx mh mA mB mC mM mT mHI mFC mLC mCg mTp mNx mFr mTk mVa mEn mKe mCs mAt mHd mWg mNow mImg mAsd mLea mLat mBst mRsk mTap mKys mKat mCod mWts mTes mStk mFct mSor mSiz mCel mHol mHoA mHoB mHoC mMov mTel) sz) := by
  refine rc_enterI (cc := cX7_step) (maxL := 2) (by decide) rfl (Nat.le_of_ble_eq_true rfl) ?_
  intro p e s m args below meth c QQ A hx hb hml hown hts hmn hE hP hD hA hret ls hl
  have hown : s.vm.findClass RX7 = some m.cls := hown
  have hK := hE.1
  have hS : va_S A s.heap s.heap [] := va_S.rf
  have hl : lv_has ls 2 [(0, .ref mo), (1, .int p1)] := hl
  have n_X7 : ∀ w ∈ wsX70, w ∈ wsX7_step := fun _ h => List.mem_cons_of_mem _ (List.mem_append_right _ h)
  have k_9 := hts (.fieldLink RX7 9 "RidgeClapsModel" "now" "[I") (List.mem_of_getElem? (i := 2) rfl)
  have k_90 := hts (.constant RX7 90 (-1000000003)) (List.mem_of_getElem? (i := 4) rfl)
  have k_147 := hts (.constant RX7 147 (-1000000002)) (List.mem_of_getElem? (i := 3) rfl)
  have k_89 := hts (.constant RX7 89 (-1000000001)) (List.mem_of_getElem? (i := 1) rfl)
  unfold wp_X7_step at h
  obtain ⟨H, hH⟩ : ∃ H, H = s.heap := ⟨_, rfl⟩
  obtain ⟨locs, hlocs⟩ : ∃ locs : List Loc, locs = [] := ⟨_, rfl⟩
  have hP : va_P E.1 vwCl (rw_24 E mo mn mi ma ml mt mb mr mp mk mq mc mw mz ms mf mu mv mx mh mA mB mC mM mT mHI mFC mLC mCg mTp mNx mFr mTk mVa mEn mKe mCs mAt mHd mWg mNow mImg mAsd mLea mLat mBst mRsk mTap mKys mKat mCod mWts mTes mStk mFct mSor mSiz mCel mHol mHoA mHoB mHoC mMov mTel) H := by rw [hH]; exact hP
  have hS : va_S A s.heap H locs := by rw [hH, hlocs]; exact hS
  suffices hgo : W p l e ({ frames := 4, cells := 0, slots := 0, locals := 93 } : Room) s m args below meth c H locs 0 0 QQ (F0 m 0 ls []) from by rw [hH, hlocs] at hgo; exact hgo
  refine lv_iload_n hx hb dX7_step_0 rfl (lv_at hl 1 rfl) ?_
  refine lv_iconst (v := 0) hx hb dX7_step_1 (by decide) ?_
  refine lv_iconst (v := 3) hx hb dX7_step_2 (by decide) ?_
  have hPc := hP.sub (ws' := []) [] rfl
  have hDc := hD.sub (ws' := []) [] (by decide) rfl
  have hFc := va_free (wc := []) hD hS hA [] rfl
  refine va_calli (va_runS (As := [.int p1, .int 0, .int 3]) (rest := []) ⟨hx, hb, hml, hown, hts⟩ (c_X7_in l E H.size p1 0 3 _ h) (va_cwS 3 hts gX7_step_X7_in rfl rfl rfl (by decide +kernel) ⟨Nat.le_of_ble_eq_true rfl, Nat.le_of_ble_eq_true rfl⟩) ⟨fun a U g mk q => ⟨q.1, q.2.blind⟩, fun U hU hW => ⟨rfl, by rw [hU], by rw [hU]; exact hPc, hE.call hS hFc hW hU, hDc.weaken (fun _ _ _ _ => trivial)⟩⟩ rfl rfl hl.1 rfl (lv_room (Nat.le_of_ble_eq_true rfl)) dX7_step_3 ⟨Nat.zero_le _, Nat.zero_le _⟩) hS (fun q _ h => hFc q h) hFc (fun r_1 u t H1 locs ht hvm h hB hz1 hk1 hS => ?_)
  obtain ⟨hP1, hD1⟩ := hB
  rw [ht] at hP1
  obtain ⟨hP, hD⟩ := rc_foc hP hD [] [none, none, none, none, none, none, none, none, none, none, none, none, none, none, none, none, none, none, none, none, none, none, none, none, none] (by decide) rfl hk1 hP1 rfl
  generalize H1 = H at hP hS ⊢
  have hP : va_P E.1 vwCl (rw_24 E mo mn mi ma ml mt mb mr mp mk mq mc mw mz ms mf mu mv mx mh mA mB mC mM mT mHI mFC mLC mCg mTp mNx mFr mTk mVa mEn mKe mCs mAt mHd mWg mNow mImg mAsd mLea mLat mBst mRsk mTap mKys mKat mCod mWts mTes mStk mFct mSor mSiz mCel mHol mHoA mHoB mHoC mMov mTel) H := hP
  have hD : va_D A (rw_24 E mo mn mi ma ml mt mb mr mp mk mq mc mw mz ms mf mu mv mx mh mA mB mC mM mT mHI mFC mLC mCg mTp mNx mFr mTk mVa mEn mKe mCs mAt mHd mWg mNow mImg mAsd mLea mLat mBst mRsk mTap mKys mKat mCod mWts mTes mStk mFct mSor mSiz mCel mHol mHoA mHoB mHoC mMov mTel) := hD
  refine lv_if_ne (tgt := 12) hx hb dX7_step_6 (by decide) (fun c_2 => ?_) (fun c_2 => ?_)
  · have h := h.1 c_2
    refine lv_aload_n hx hb dX7_step_12 rfl (lv_at hl 0 rfl) ?_
    refine lv_aload_n hx hb dX7_step_13 rfl (lv_at hl 0 rfl) ?_
    refine va_get (D := E.1) (ci := 7) (v := .ref mn) (C := RX7) (T := TX7) (N := 39) hx hb hts n_X7 hown hK hP 0 rfl rfl 0 (by decide) k_9 (fun _ h9 => h9) rfl dX7_step_14 ?_
    refine lv_iconst (v := 2) hx hb dX7_step_17 (by decide) ?_
    refine rc_iald hx hb hK hP 1 0 rfl rfl 2 (by decide) (by unfold vp_in; decide) dX7_step_18 ?_
    refine lv_iload_n hx hb dX7_step_19 rfl (lv_at hl 1 rfl) ?_
    have hPc := hP
    have hDc := hD
    have hFc := rc_freeI hD hS hA
    refine va_calli (va_runV (As := [.int (mNow 2), .int p1]) (rest := []) ⟨hx, hb, hml, hown, hts⟩ (c_X7_may l E mo mn mi ma ml mt mb mr mp mk mq mc mw mz ms mf mu mv mx mh mA mB mC mM mT H.size mHI mFC mLC mCg mTp mNx mFr mTk mVa mEn mKe mCs mAt mHd mWg mNow mImg mAsd mLea mLat mBst mRsk mTap mKys mKat mCod mWts mTes mStk mFct mSor mSiz mCel mHol mHoA mHoB mHoC mMov mTel (mNow 2) p1 _ h) (cwV 2 hts gX7_step_X7_may rfl rfl rfl (by decide +kernel) ⟨Nat.le_of_ble_eq_true rfl, Nat.le_of_ble_eq_true rfl⟩) ⟨fun a U g mk q => ⟨q.1, q.2.blind⟩, va_recv hK hPc (ci := 7) (q0 := 0) rfl rfl, fun U hU hW => ⟨rfl, by rw [hU], by rw [hU]; exact hPc, hE.call hS hFc hW hU, hDc.weaken (fun _ _ _ _ => trivial)⟩⟩ rfl rfl hl.1 rfl (lv_room (Nat.le_of_ble_eq_true rfl)) dX7_step_20 ⟨Nat.zero_le _, Nat.zero_le _⟩) hS (fun q _ h => hFc q h) hFc (fun r_3 u t H1 locs ht hvm h hB hz1 hk1 hS => ?_)
    obtain ⟨hP1, hD1⟩ := hB
    rw [ht] at hP1
    have hP := hP1
    have hD := hD1.weaken (fun _ _ _ h => hFc _ h)
    generalize H1 = H at hP hS ⊢
    have hP : va_P E.1 vwCl (rw_24 E mo mn mi ma ml mt mb mr mp mk mq mc mw mz ms mf mu mv mx mh mA mB mC mM mT mHI mFC mLC mCg mTp mNx mFr mTk mVa mEn mKe mCs mAt mHd mWg mNow mImg mAsd mLea mLat mBst mRsk mTap mKys mKat mCod mWts mTes mStk mFct mSor mSiz mCel mHol mHoA mHoB mHoC mMov mTel) H := hP
    have hD : va_D A (rw_24 E mo mn mi ma ml mt mb mr mp mk mq mc mw mz ms mf mu mv mx mh mA mB mC mM mT mHI mFC mLC mCg mTp mNx mFr mTk mVa mEn mKe mCs mAt mHd mWg mNow mImg mAsd mLea mLat mBst mRsk mTap mKys mKat mCod mWts mTes mStk mFct mSor mSiz mCel mHol mHoA mHoB mHoC mMov mTel) := hD
    refine lv_if_ne (tgt := 29) hx hb dX7_step_23 (by decide) (fun c_4 => ?_) (fun c_4 => ?_)
    · have h := h.1 c_4
      refine lv_aload_n hx hb dX7_step_29 rfl (lv_at hl 0 rfl) ?_
      refine va_get (D := E.1) (ci := 7) (v := .ref mn) (C := RX7) (T := TX7) (N := 39) hx hb hts n_X7 hown hK hP 0 rfl rfl 0 (by decide) k_9 (fun _ h9 => h9) rfl dX7_step_30 ?_
      refine lv_iconst (v := 3) hx hb dX7_step_33 (by decide) ?_
      refine rc_iald hx hb hK hP 1 0 rfl rfl 3 (by decide) (by unfold vp_in; decide) dX7_step_34 ?_
      refine lv_sipush (v := 9999) hx hb dX7_step_35 (by decide) ?_
      refine lv_icmp_ne (tgt := 46) hx hb dX7_step_38 (by decide) (fun c_5 => ?_) (fun c_5 => ?_)
      · have h := h.1 c_5
        refine lv_aload_n hx hb dX7_step_46 rfl (lv_at hl 0 rfl) ?_
        refine lv_iload_n hx hb dX7_step_47 rfl (lv_at hl 1 rfl) ?_
        have hPc := hP
        have hDc := hD
        have hFc := rc_freeI hD hS hA
        refine va_calli (va_runV (As := [.int p1]) (rest := []) ⟨hx, hb, hml, hown, hts⟩ (c_X7_aMinute l E mo mn mi ma ml mt mb mr mp mk mq mc mw mz ms mf mu mv mx mh mA mB mC mM mT H.size mHI mFC mLC mCg mTp mNx mFr mTk mVa mEn mKe mCs mAt mHd mWg mNow mImg mAsd mLea mLat mBst mRsk mTap mKys mKat mCod mWts mTes mStk mFct mSor mSiz mCel mHol mHoA mHoB mHoC mMov mTel p1 _ h) (cwV 1 hts gX7_step_X7_aMinute rfl rfl rfl (by decide +kernel) ⟨Nat.le_of_ble_eq_true rfl, Nat.le_of_ble_eq_true rfl⟩) ⟨fun a U g mk q => ⟨q.1, q.2.blind⟩, va_recv hK hPc (ci := 7) (q0 := 0) rfl rfl, fun U hU hW => ⟨rfl, by rw [hU], by rw [hU]; exact hPc, hE.call hS hFc hW hU, hDc.weaken (fun _ _ _ _ => trivial)⟩⟩ rfl rfl hl.1 rfl (lv_room (Nat.le_of_ble_eq_true rfl)) dX7_step_48 ⟨Nat.zero_le _, Nat.zero_le _⟩) hS (fun q _ h => hFc q h) hFc (fun r_6 u t H1 locs ht hvm h hB hz1 hk1 hS => ?_)
        obtain ⟨w_7, w_8, w_9⟩ := u
        obtain ⟨hP1, hD1⟩ := hB
        rw [ht] at hP1
        have hP := hP1
        have hD := hD1.weaken (fun _ _ _ h => hFc _ h)
        generalize H1 = H at hP hS ⊢
        have hP : va_P E.1 vwCl (rw_24 E mo mn mi ma ml mt mb mr mp mk mq mc mw mz ms mf mu mv mx mh mA mB mC mM mT mHI mFC mLC mCg mTp mNx mFr mTk mVa mEn mKe mCs mAt mHd mWg w_7 mImg mAsd mLea mLat mBst mRsk mTap mKys mKat mCod mWts mTes w_8 w_9 mSor mSiz mCel mHol mHoA mHoB mHoC mMov mTel) H := hP
        have hD : va_D A (rw_24 E mo mn mi ma ml mt mb mr mp mk mq mc mw mz ms mf mu mv mx mh mA mB mC mM mT mHI mFC mLC mCg mTp mNx mFr mTk mVa mEn mKe mCs mAt mHd mWg w_7 mImg mAsd mLea mLat mBst mRsk mTap mKys mKat mCod mWts mTes w_8 w_9 mSor mSiz mCel mHol mHoA mHoB mHoC mMov mTel) := hD
        exact hret _ _ _ _ r_6 (w_7, w_8, w_9) rfl h hP hD hS dX7_step_51
      · have h := h.2 c_5
        refine lv_ldc hx hb hown k_90 dX7_step_41 ?_
        refine lv_goto (tgt := 51) hx hb dX7_step_43 (by decide) ?_
        exact hret _ _ _ _ (-1000000003) (mNow, mStk, mFct) rfl h hP hD hS dX7_step_51
    · have h := h.2 c_4
      refine lv_ldc hx hb hown k_147 dX7_step_26 ?_
      exact hret _ _ _ _ (-1000000002) (mNow, mStk, mFct) rfl h hP hD hS dX7_step_28
  · have h := h.2 c_2
    refine lv_ldc hx hb hown k_89 dX7_step_9 ?_
    exact hret _ _ _ _ (-1000000001) (mNow, mStk, mFct) rfl h hP hD hS dX7_step_11
def jp_X7_findTree_160  (K104 : Int32 → Int32 → Int32 → Int32 → Int32 → (Nat → Int32) → (Nat → Int32) → (Nat → Int32) → (Nat → Int32) → (Nat → Int32) → (Nat → Int32) → Prop)  (x2 : Int32) (x3 : Int32) (x4 : Int32) (x6 : Int32) (x8 : Int32) (mLea : Nat → Int32) (mLat : Nat → Int32) (mBst : Nat → Int32) (mRsk : Nat → Int32) (mStk : Nat → Int32) (mFct : Nat → Int32) : Prop :=
  (vp_in x4 24 ∧ K104 x2 x3 x4 x8 (x6 + (-1)) mLea mLat (upd mBst x4.toNatClampNeg x6) mRsk mStk mFct)
def jp_X7_findTree_135 (mNow : Nat → Int32) (K104 : Int32 → Int32 → Int32 → Int32 → Int32 → (Nat → Int32) → (Nat → Int32) → (Nat → Int32) → (Nat → Int32) → (Nat → Int32) → (Nat → Int32) → Prop)  (x2 : Int32) (x3 : Int32) (x4 : Int32) (x5 : Int32) (x6 : Int32) (y0 : Int32) (mLea : Nat → Int32) (mLat : Nat → Int32) (mBst : Nat → Int32) (mRsk : Nat → Int32) (mStk : Nat → Int32) (mFct : Nat → Int32) : Prop :=
  wp_X7_may x4 x6 mNow (fun (r_2 : Int32) => ((r_2 = 0 → K104 x2 x3 x4 x5 (x6 + (-1)) mLea mLat mBst mRsk mStk mFct) ∧ (¬ (r_2 = 0) → ((x5 < 0 → jp_X7_findTree_160 K104 x2 x3 x4 x6 y0 mLea mLat mBst mRsk mStk mFct) ∧ (¬ (x5 < 0) → ((x5 < y0 → K104 x2 x3 x4 x5 (x6 + (-1)) mLea mLat mBst mRsk mStk mFct) ∧ (¬ (x5 < y0) → jp_X7_findTree_160 K104 x2 x3 x4 x6 y0 mLea mLat mBst mRsk mStk mFct)))))))
def lp_X7_findTree_104F (mNow : Nat → Int32) (K87 : Int32 → Int32 → Int32 → (Nat → Int32) → (Nat → Int32) → (Nat → Int32) → (Nat → Int32) → (Nat → Int32) → (Nat → Int32) → Prop)  (R : Int32 → Int32 → Int32 → Int32 → Int32 → (Nat → Int32) → (Nat → Int32) → (Nat → Int32) → (Nat → Int32) → (Nat → Int32) → (Nat → Int32) → Prop) (x2 : Int32) (x3 : Int32) (x4 : Int32) (x5 : Int32) (x6 : Int32) (mLea : Nat → Int32) (mLat : Nat → Int32) (mBst : Nat → Int32) (mRsk : Nat → Int32) (mStk : Nat → Int32) (mFct : Nat → Int32) : Prop :=
  ((x6 < 0 → (vp_in x4 24 ∧ (vp_in x4 24 ∧ K87 x2 x3 (x4 + 1) (upd mLea x4.toNatClampNeg (((mRsk x4.toNatClampNeg) * x3) + x5)) mLat mBst mRsk mStk mFct))) ∧ (¬ (x6 < 0) → wp_X7_goes x4 x6 mNow (fun (r_9 : Int32) => ((0 ≤ r_9 → (vp_in r_9 24 ∧ jp_X7_findTree_135 mNow R x2 x3 x4 x5 x6 (mLat r_9.toNatClampNeg) mLea mLat mBst mRsk mStk mFct)) ∧ (¬ (0 ≤ r_9) → jp_X7_findTree_135 mNow R x2 x3 x4 x5 x6 0 mLea mLat mBst mRsk mStk mFct)))))
def lp_X7_findTree_104 (mNow : Nat → Int32) (K87 : Int32 → Int32 → Int32 → (Nat → Int32) → (Nat → Int32) → (Nat → Int32) → (Nat → Int32) → (Nat → Int32) → (Nat → Int32) → Prop)  (n : Nat) : Int32 → Int32 → Int32 → Int32 → Int32 → (Nat → Int32) → (Nat → Int32) → (Nat → Int32) → (Nat → Int32) → (Nat → Int32) → (Nat → Int32) → Prop :=
  Nat.rec (motive := fun _ => Int32 → Int32 → Int32 → Int32 → Int32 → (Nat → Int32) → (Nat → Int32) → (Nat → Int32) → (Nat → Int32) → (Nat → Int32) → (Nat → Int32) → Prop) (fun _ _ _ _ _ _ _ _ _ _ _ => False) (fun _ r => lp_X7_findTree_104F mNow K87 r) n
def lp_X7_findTree_87F (mNow : Nat → Int32) (K40 : Int32 → (Nat → Int32) → (Nat → Int32) → (Nat → Int32) → (Nat → Int32) → (Nat → Int32) → (Nat → Int32) → Prop)  (R : Int32 → Int32 → Int32 → (Nat → Int32) → (Nat → Int32) → (Nat → Int32) → (Nat → Int32) → (Nat → Int32) → (Nat → Int32) → Prop) (x2 : Int32) (x3 : Int32) (x4 : Int32) (mLea : Nat → Int32) (mLat : Nat → Int32) (mBst : Nat → Int32) (mRsk : Nat → Int32) (mStk : Nat → Int32) (mFct : Nat → Int32) : Prop :=
  (((mNow 1) ≤ x4 → K40 (x2 + (-1)) mLea mLat mBst mRsk mStk mFct) ∧ (¬ ((mNow 1) ≤ x4) → (∃ n : Nat, lp_X7_findTree_104 mNow R n x2 x3 x4 (-1) 3 mLea mLat mBst mRsk mStk mFct)))
def lp_X7_findTree_87 (mNow : Nat → Int32) (K40 : Int32 → (Nat → Int32) → (Nat → Int32) → (Nat → Int32) → (Nat → Int32) → (Nat → Int32) → (Nat → Int32) → Prop)  (n : Nat) : Int32 → Int32 → Int32 → (Nat → Int32) → (Nat → Int32) → (Nat → Int32) → (Nat → Int32) → (Nat → Int32) → (Nat → Int32) → Prop :=
  Nat.rec (motive := fun _ => Int32 → Int32 → Int32 → (Nat → Int32) → (Nat → Int32) → (Nat → Int32) → (Nat → Int32) → (Nat → Int32) → (Nat → Int32) → Prop) (fun _ _ _ _ _ _ _ _ _ => False) (fun _ r => lp_X7_findTree_87F mNow K40 r) n
def lp_X7_findTree_53F (mNow : Nat → Int32) (K40 : Int32 → (Nat → Int32) → (Nat → Int32) → (Nat → Int32) → (Nat → Int32) → (Nat → Int32) → (Nat → Int32) → Prop)  (R : Int32 → Int32 → Int32 → (Nat → Int32) → (Nat → Int32) → (Nat → Int32) → (Nat → Int32) → (Nat → Int32) → (Nat → Int32) → Prop) (x2 : Int32) (x3 : Int32) (x4 : Int32) (mLea : Nat → Int32) (mLat : Nat → Int32) (mBst : Nat → Int32) (mRsk : Nat → Int32) (mStk : Nat → Int32) (mFct : Nat → Int32) : Prop :=
  (((mNow 1) ≤ x4 → (∃ n : Nat, lp_X7_findTree_87 mNow K40 n x2 x3 0 mLea mLat mBst mRsk mStk mFct)) ∧ (¬ ((mNow 1) ≤ x4) → (vp_in x4 24 ∧ (vp_in x4 24 ∧ R x2 x3 (x4 + 1) mLea (upd mLat x4.toNatClampNeg (mLea x4.toNatClampNeg)) mBst mRsk mStk mFct))))
def lp_X7_findTree_53 (mNow : Nat → Int32) (K40 : Int32 → (Nat → Int32) → (Nat → Int32) → (Nat → Int32) → (Nat → Int32) → (Nat → Int32) → (Nat → Int32) → Prop)  (n : Nat) : Int32 → Int32 → Int32 → (Nat → Int32) → (Nat → Int32) → (Nat → Int32) → (Nat → Int32) → (Nat → Int32) → (Nat → Int32) → Prop :=
  Nat.rec (motive := fun _ => Int32 → Int32 → Int32 → (Nat → Int32) → (Nat → Int32) → (Nat → Int32) → (Nat → Int32) → (Nat → Int32) → (Nat → Int32) → Prop) (fun _ _ _ _ _ _ _ _ _ => False) (fun _ r => lp_X7_findTree_53F mNow K40 r) n
def lp_X7_findTree_40F (mNow : Nat → Int32)  (Q : (Nat → Int32) → (Nat → Int32) → (Nat → Int32) → (Nat → Int32) → (Nat → Int32) → (Nat → Int32) → Prop) (R : Int32 → (Nat → Int32) → (Nat → Int32) → (Nat → Int32) → (Nat → Int32) → (Nat → Int32) → (Nat → Int32) → Prop) (x2 : Int32) (mLea : Nat → Int32) (mLat : Nat → Int32) (mBst : Nat → Int32) (mRsk : Nat → Int32) (mStk : Nat → Int32) (mFct : Nat → Int32) : Prop :=
  ((x2 < 0 → Q mLea mLat mBst mRsk mStk mFct) ∧ (¬ (x2 < 0) → wp_X7_oddsOn x2 mNow mStk mFct (fun (r_17 : Int32) (w_18 : Nat → Int32) (w_19 : Nat → Int32) => (∃ n : Nat, lp_X7_findTree_53 mNow R n x2 r_17 0 mLea mLat mBst mRsk w_18 w_19))))
def lp_X7_findTree_40 (mNow : Nat → Int32)  (Q : (Nat → Int32) → (Nat → Int32) → (Nat → Int32) → (Nat → Int32) → (Nat → Int32) → (Nat → Int32) → Prop) (n : Nat) : Int32 → (Nat → Int32) → (Nat → Int32) → (Nat → Int32) → (Nat → Int32) → (Nat → Int32) → (Nat → Int32) → Prop :=
  Nat.rec (motive := fun _ => Int32 → (Nat → Int32) → (Nat → Int32) → (Nat → Int32) → (Nat → Int32) → (Nat → Int32) → (Nat → Int32) → Prop) (fun _ _ _ _ _ _ _ => False) (fun _ r => lp_X7_findTree_40F mNow Q r) n
def lp_X7_findTree_2F (p1 : Int32) (mNow : Nat → Int32)  (Q : (Nat → Int32) → (Nat → Int32) → (Nat → Int32) → (Nat → Int32) → (Nat → Int32) → (Nat → Int32) → Prop) (R : Int32 → (Nat → Int32) → (Nat → Int32) → (Nat → Int32) → (Nat → Int32) → (Nat → Int32) → (Nat → Int32) → Prop) (x2 : Int32) (mLea : Nat → Int32) (mLat : Nat → Int32) (mBst : Nat → Int32) (mRsk : Nat → Int32) (mStk : Nat → Int32) (mFct : Nat → Int32) : Prop :=
  (((mNow 1) ≤ x2 → (∃ n : Nat, lp_X7_findTree_40 mNow Q n (p1 - 1) mLea mLat mBst mRsk mStk mFct)) ∧ (¬ ((mNow 1) ≤ x2) → wp_X7_riskOf x2 mNow mStk mFct (fun (r_21 : Int32) (w_22 : Nat → Int32) (w_23 : Nat → Int32) => (vp_in x2 24 ∧ (vp_in x2 24 ∧ R (x2 + 1) (upd mLea x2.toNatClampNeg 0) mLat mBst (upd mRsk x2.toNatClampNeg r_21) w_22 w_23)))))
def lp_X7_findTree_2 (p1 : Int32) (mNow : Nat → Int32)  (Q : (Nat → Int32) → (Nat → Int32) → (Nat → Int32) → (Nat → Int32) → (Nat → Int32) → (Nat → Int32) → Prop) (n : Nat) : Int32 → (Nat → Int32) → (Nat → Int32) → (Nat → Int32) → (Nat → Int32) → (Nat → Int32) → (Nat → Int32) → Prop :=
  Nat.rec (motive := fun _ => Int32 → (Nat → Int32) → (Nat → Int32) → (Nat → Int32) → (Nat → Int32) → (Nat → Int32) → (Nat → Int32) → Prop) (fun _ _ _ _ _ _ _ => False) (fun _ r => lp_X7_findTree_2F p1 mNow Q r) n
def wp_X7_findTree (p1 : Int32) (mNow : Nat → Int32) (mLea : Nat → Int32) (mLat : Nat → Int32) (mBst : Nat → Int32) (mRsk : Nat → Int32) (mStk : Nat → Int32) (mFct : Nat → Int32) (Q : (Nat → Int32) → (Nat → Int32) → (Nat → Int32) → (Nat → Int32) → (Nat → Int32) → (Nat → Int32) → Prop) : Prop :=
  (∃ n : Nat, lp_X7_findTree_2 p1 mNow Q n 0 mLea mLat mBst mRsk mStk mFct)
set_option maxHeartbeats 4000000 in
set_option maxRecDepth 100000 in
theorem c_X7_findTree (l : Launch) (E : gE) (mo mn mi ma ml mt mb mr mp mk mq mc mw mz ms mf mu mv mx mh mA mB mC mM mT : Nat) (sz : Nat) (mHI : Int32) (mFC : Int32) (mLC : Int32) (mCg : Int32) (mTp : Int32) (mNx : Int32) (mFr : Int32) (mTk : Int32) (mVa : Int32) (mEn : Int32) (mKe : Int32) (mCs : Int32) (mAt : Int32) (mHd : Int32) (mWg : Int32) (mNow : Nat → Int32) (mImg : Nat → Int32) (mAsd : Nat → Int32) (mLea : Nat → Int32) (mLat : Nat → Int32) (mBst : Nat → Int32) (mRsk : Nat → Int32) (mTap : Nat → Int32) (mKys : Nat → Int32) (mKat : Nat → Int32) (mCod : Nat → Int32) (mWts : Nat → Int32) (mTes : Nat → Int32) (mStk : Nat → Int32) (mFct : Nat → Int32) (mSor : Nat → Int32) (mSiz : Nat → Int32) (mCel : Nat → Int32) (mHol : Nat → Int32) (mHoA : Nat → Int32) (mHoB : Nat → Int32) (mHoC : Nat → Int32) (mMov : Nat → Int32) (mTel : Nat → Int32) (p1 : Int32)  (Q : (Nat → Int32) → (Nat → Int32) → (Nat → Int32) → (Nat → Int32) → (Nat → Int32) → (Nat → Int32) → Prop) (h : wp_X7_findTree p1 mNow mLea mLat mBst mRsk mStk mFct Q) : Met l yX7_findTree wsX7_findTree ({ frames := 3, cells := 0, slots := 0, locals := 70 } : Room) (va_Pc [.ref mo, .int p1] (rc_B E (rw_24 E mo mn mi ma ml mt mb mr mp mk mq mc mw mz ms mf mu mv mx mh mA mB mC mM mT mHI mFC mLC mCg mTp mNx mFr mTk mVa mEn mKe mCs mAt mHd mWg mNow mImg mAsd mLea mLat mBst mRsk mTap mKys mKat mCod mWts mTes mStk mFct mSor mSiz mCel mHol mHoA mHoB mHoC mMov mTel) sz)) (va_Qv (S := (Nat → Int32) × (Nat → Int32) × (Nat → Int32) × (Nat → Int32) × (Nat → Int32) × (Nat → Int32)) (fun (u : (Nat → Int32) × (Nat → Int32) × (Nat → Int32) × (Nat → Int32) × (Nat → Int32) × (Nat → Int32)) => Q u.1 u.2.1 u.2.2.1 u.2.2.2.1 u.2.2.2.2.1 u.2.2.2.2.2) (fun u t => rc_C E (va_A (rw_24 E mo mn mi ma ml mt mb mr mp mk mq mc mw mz ms mf mu mv mx mh mA mB mC mM mT mHI mFC mLC mCg mTp mNx mFr mTk mVa mEn mKe mCs mAt mHd mWg mNow mImg mAsd mLea mLat mBst mRsk mTap mKys mKat mCod mWts mTes mStk mFct mSor mSiz mCel mHol mHoA mHoB mHoC mMov mTel) sz) (rw_24 E mo mn mi ma ml mt mb mr mp mk mq mc mw mz ms mf mu mv mx mh mA mB mC mM mT mHI mFC mLC mCg mTp mNx mFr mTk mVa mEn mKe mCs mAt mHd mWg mNow mImg mAsd u.1 u.2.1 u.2.2.1 u.2.2.2.1 mTap mKys mKat mCod mWts mTes u.2.2.2.2.1 u.2.2.2.2.2 mSor mSiz mCel mHol mHoA mHoB mHoC mMov mTel) t) (va_A (rw_24 E mo mn mi ma ml mt mb mr mp mk mq mc mw mz ms mf mu mv mx mh mA mB mC mM mT mHI mFC mLC mCg mTp mNx mFr mTk mVa mEn mKe mCs mAt mHd mWg mNow mImg mAsd mLea mLat mBst mRsk mTap mKys mKat mCod mWts mTes mStk mFct mSor mSiz mCel mHol mHoA mHoB mHoC mMov mTel) sz)) 0 0 (va_A (rw_24 E mo mn mi ma ml mt mb mr mp mk mq mc mw mz ms mf mu mv mx mh mA mB mC mM mT mHI mFC mLC mCg mTp mNx mFr mTk mVa mEn mKe mCs mAt mHd mWg mNow mImg mAsd mLea mLat mBst mRsk mTap mKys mKat mCod mWts mTes mStk mFct mSor mSiz mCel mHol mHoA mHoB mHoC mMov mTel) sz) := by
  refine rc_enterV (cc := cX7_findTree) (maxL := 9) (by decide) rfl (Nat.le_of_ble_eq_true rfl) ?_
  intro p e s m args below meth c QQ A hx hb hml hown hts hmn hE hP hD hA hret ls hl
  have hown : s.vm.findClass RX7 = some m.cls := hown
  have hK := hE.1
  have hS : va_S A s.heap s.heap [] := va_S.rf
  have hl : lv_has ls 9 [(0, .ref mo), (1, .int p1)] := hl
  have n_X7 : ∀ w ∈ wsX70, w ∈ wsX7_findTree := fun _ h => List.mem_cons_of_mem _ (List.mem_append_right _ h)
  have k_25 := hts (.fieldLink RX7 25 "RidgeClapsModel" "bestStep" "[I") (List.mem_of_getElem? (i := 5) rfl)
  have k_19 := hts (.fieldLink RX7 19 "RidgeClapsModel" "least" "[I") (List.mem_of_getElem? (i := 3) rfl)
  have k_28 := hts (.fieldLink RX7 28 "RidgeClapsModel" "risks" "[I") (List.mem_of_getElem? (i := 2) rfl)
  have k_22 := hts (.fieldLink RX7 22 "RidgeClapsModel" "later" "[I") (List.mem_of_getElem? (i := 4) rfl)
  have k_9 := hts (.fieldLink RX7 9 "RidgeClapsModel" "now" "[I") (List.mem_of_getElem? (i := 1) rfl)
  have J160 : ∀ (K104 : Int32 → Int32 → Int32 → Int32 → Int32 → (Nat → Int32) → (Nat → Int32) → (Nat → Int32) → (Nat → Int32) → (Nat → Int32) → (Nat → Int32) → Prop), (∀ (x2 : Int32) (x3 : Int32) (x4 : Int32) (x5 : Int32) (x6 : Int32) (mLea : Nat → Int32) (mLat : Nat → Int32) (mBst : Nat → Int32) (mRsk : Nat → Int32) (mStk : Nat → Int32) (mFct : Nat → Int32), K104 x2 x3 x4 x5 x6 mLea mLat mBst mRsk mStk mFct → ∀ (H : Heap) (locs : List Loc), va_P E.1 vwCl (rw_24 E mo mn mi ma ml mt mb mr mp mk mq mc mw mz ms mf mu mv mx mh mA mB mC mM mT mHI mFC mLC mCg mTp mNx mFr mTk mVa mEn mKe mCs mAt mHd mWg mNow mImg mAsd mLea mLat mBst mRsk mTap mKys mKat mCod mWts mTes mStk mFct mSor mSiz mCel mHol mHoA mHoB mHoC mMov mTel) H → va_D A (rw_24 E mo mn mi ma ml mt mb mr mp mk mq mc mw mz ms mf mu mv mx mh mA mB mC mM mT mHI mFC mLC mCg mTp mNx mFr mTk mVa mEn mKe mCs mAt mHd mWg mNow mImg mAsd mLea mLat mBst mRsk mTap mKys mKat mCod mWts mTes mStk mFct mSor mSiz mCel mHol mHoA mHoB mHoC mMov mTel) → va_S A s.heap H locs → ∀ ls : Array Slot, lv_has ls 9 [(0, .ref mo), (2, .int x2), (3, .int x3), (4, .int x4), (5, .int x5), (6, .int x6)] → W p l e ({ frames := 3, cells := 0, slots := 0, locals := 70 } : Room) s m args below meth c H locs 0 0 QQ (F0 m 104 ls [])) → ∀ (x2 : Int32) (x3 : Int32) (x4 : Int32) (x6 : Int32) (x8 : Int32) (mLea : Nat → Int32) (mLat : Nat → Int32) (mBst : Nat → Int32) (mRsk : Nat → Int32) (mStk : Nat → Int32) (mFct : Nat → Int32), jp_X7_findTree_160 K104 x2 x3 x4 x6 x8 mLea mLat mBst mRsk mStk mFct → ∀ (H : Heap) (locs : List Loc), va_P E.1 vwCl (rw_24 E mo mn mi ma ml mt mb mr mp mk mq mc mw mz ms mf mu mv mx mh mA mB mC mM mT mHI mFC mLC mCg mTp mNx mFr mTk mVa mEn mKe mCs mAt mHd mWg mNow mImg mAsd mLea mLat mBst mRsk mTap mKys mKat mCod mWts mTes mStk mFct mSor mSiz mCel mHol mHoA mHoB mHoC mMov mTel) H → va_D A (rw_24 E mo mn mi ma ml mt mb mr mp mk mq mc mw mz ms mf mu mv mx mh mA mB mC mM mT mHI mFC mLC mCg mTp mNx mFr mTk mVa mEn mKe mCs mAt mHd mWg mNow mImg mAsd mLea mLat mBst mRsk mTap mKys mKat mCod mWts mTes mStk mFct mSor mSiz mCel mHol mHoA mHoB mHoC mMov mTel) → va_S A s.heap H locs → ∀ ls : Array Slot, lv_has ls 9 [(0, .ref mo), (2, .int x2), (3, .int x3), (4, .int x4), (6, .int x6), (8, .int x8)] → W p l e ({ frames := 3, cells := 0, slots := 0, locals := 70 } : Room) s m args below meth c H locs 0 0 QQ (F0 m 160 ls []) := by
    intro K104 hK104
    intro x2 x3 x4 x6 x8 mLea mLat mBst mRsk mStk mFct h H locs hP hD hS ls hl
    unfold jp_X7_findTree_160 at h
    refine lv_iload hx hb dX7_findTree_160 (lv_at hl 5 rfl) ?_
    refine lv_istore (lv' := [(5, .int x8), (0, .ref mo), (2, .int x2), (3, .int x3), (4, .int x4), (6, .int x6), (8, .int x8)]) hx hb dX7_findTree_162 hl (by decide) rfl (fun ls hl => ?_)
    refine lv_aload_n hx hb dX7_findTree_164 rfl (lv_at hl 1 rfl) ?_
    refine va_get (D := E.1) (ci := 7) (v := .ref mb) (C := RX7) (T := TX7) (N := 39) hx hb hts n_X7 hown hK hP 0 rfl rfl 6 (by decide) k_25 (fun _ h9 => h9) rfl dX7_findTree_165 ?_
    refine lv_iload hx hb dX7_findTree_168 (lv_at hl 4 rfl) ?_
    refine lv_iload hx hb dX7_findTree_170 (lv_at hl 5 rfl) ?_
    obtain ⟨o_1, h⟩ := h
    refine rc_iast hx hb hK hP hD hS 6 0 rfl rfl x4.toNatClampNeg rfl o_1 dX7_findTree_172 (fun H locs hP hD hS => ?_)
    have hP : va_P E.1 vwCl (rw_24 E mo mn mi ma ml mt mb mr mp mk mq mc mw mz ms mf mu mv mx mh mA mB mC mM mT mHI mFC mLC mCg mTp mNx mFr mTk mVa mEn mKe mCs mAt mHd mWg mNow mImg mAsd mLea mLat (upd mBst x4.toNatClampNeg x6) mRsk mTap mKys mKat mCod mWts mTes mStk mFct mSor mSiz mCel mHol mHoA mHoB mHoC mMov mTel) H := hP
    have hD : va_D A (rw_24 E mo mn mi ma ml mt mb mr mp mk mq mc mw mz ms mf mu mv mx mh mA mB mC mM mT mHI mFC mLC mCg mTp mNx mFr mTk mVa mEn mKe mCs mAt mHd mWg mNow mImg mAsd mLea mLat (upd mBst x4.toNatClampNeg x6) mRsk mTap mKys mKat mCod mWts mTes mStk mFct mSor mSiz mCel mHol mHoA mHoB mHoC mMov mTel) := hD
    refine lv_iinc (v := x6 + (-1)) (lv' := [(6, .int (x6 + (-1))), (5, .int x8), (0, .ref mo), (2, .int x2), (3, .int x3), (4, .int x4), (8, .int x8)]) hx hb dX7_findTree_173 hl (k := 5) rfl (by rfl) (by decide) rfl (fun ls hl => ?_)
    refine lv_goto (tgt := 104) hx hb dX7_findTree_176 (by decide) ?_
    exact hK104 x2 x3 x4 x8 (x6 + (-1)) mLea mLat (upd mBst x4.toNatClampNeg x6) mRsk mStk mFct h _ _ hP hD hS ls (lv_sub hl [2, 3, 4, 5, 1, 0] rfl)
  have J135 : ∀ (K104 : Int32 → Int32 → Int32 → Int32 → Int32 → (Nat → Int32) → (Nat → Int32) → (Nat → Int32) → (Nat → Int32) → (Nat → Int32) → (Nat → Int32) → Prop), (∀ (x2 : Int32) (x3 : Int32) (x4 : Int32) (x5 : Int32) (x6 : Int32) (mLea : Nat → Int32) (mLat : Nat → Int32) (mBst : Nat → Int32) (mRsk : Nat → Int32) (mStk : Nat → Int32) (mFct : Nat → Int32), K104 x2 x3 x4 x5 x6 mLea mLat mBst mRsk mStk mFct → ∀ (H : Heap) (locs : List Loc), va_P E.1 vwCl (rw_24 E mo mn mi ma ml mt mb mr mp mk mq mc mw mz ms mf mu mv mx mh mA mB mC mM mT mHI mFC mLC mCg mTp mNx mFr mTk mVa mEn mKe mCs mAt mHd mWg mNow mImg mAsd mLea mLat mBst mRsk mTap mKys mKat mCod mWts mTes mStk mFct mSor mSiz mCel mHol mHoA mHoB mHoC mMov mTel) H → va_D A (rw_24 E mo mn mi ma ml mt mb mr mp mk mq mc mw mz ms mf mu mv mx mh mA mB mC mM mT mHI mFC mLC mCg mTp mNx mFr mTk mVa mEn mKe mCs mAt mHd mWg mNow mImg mAsd mLea mLat mBst mRsk mTap mKys mKat mCod mWts mTes mStk mFct mSor mSiz mCel mHol mHoA mHoB mHoC mMov mTel) → va_S A s.heap H locs → ∀ ls : Array Slot, lv_has ls 9 [(0, .ref mo), (2, .int x2), (3, .int x3), (4, .int x4), (5, .int x5), (6, .int x6)] → W p l e ({ frames := 3, cells := 0, slots := 0, locals := 70 } : Room) s m args below meth c H locs 0 0 QQ (F0 m 104 ls [])) → ∀ (x2 : Int32) (x3 : Int32) (x4 : Int32) (x5 : Int32) (x6 : Int32) (y0 : Int32) (mLea : Nat → Int32) (mLat : Nat → Int32) (mBst : Nat → Int32) (mRsk : Nat → Int32) (mStk : Nat → Int32) (mFct : Nat → Int32), jp_X7_findTree_135 mNow K104 x2 x3 x4 x5 x6 y0 mLea mLat mBst mRsk mStk mFct → ∀ (H : Heap) (locs : List Loc), va_P E.1 vwCl (rw_24 E mo mn mi ma ml mt mb mr mp mk mq mc mw mz ms mf mu mv mx mh mA mB mC mM mT mHI mFC mLC mCg mTp mNx mFr mTk mVa mEn mKe mCs mAt mHd mWg mNow mImg mAsd mLea mLat mBst mRsk mTap mKys mKat mCod mWts mTes mStk mFct mSor mSiz mCel mHol mHoA mHoB mHoC mMov mTel) H → va_D A (rw_24 E mo mn mi ma ml mt mb mr mp mk mq mc mw mz ms mf mu mv mx mh mA mB mC mM mT mHI mFC mLC mCg mTp mNx mFr mTk mVa mEn mKe mCs mAt mHd mWg mNow mImg mAsd mLea mLat mBst mRsk mTap mKys mKat mCod mWts mTes mStk mFct mSor mSiz mCel mHol mHoA mHoB mHoC mMov mTel) → va_S A s.heap H locs → ∀ ls : Array Slot, lv_has ls 9 [(0, .ref mo), (2, .int x2), (3, .int x3), (4, .int x4), (5, .int x5), (6, .int x6)] → W p l e ({ frames := 3, cells := 0, slots := 0, locals := 70 } : Room) s m args below meth c H locs 0 0 QQ (F0 m 135 ls [.int y0]) := by
    intro K104 hK104
    intro x2 x3 x4 x5 x6 y0 mLea mLat mBst mRsk mStk mFct h H locs hP hD hS ls hl
    unfold jp_X7_findTree_135 at h
    refine lv_istore (lv' := [(8, .int y0), (0, .ref mo), (2, .int x2), (3, .int x3), (4, .int x4), (5, .int x5), (6, .int x6)]) hx hb dX7_findTree_135 hl (by decide) rfl (fun ls hl => ?_)
    refine lv_aload_n hx hb dX7_findTree_137 rfl (lv_at hl 1 rfl) ?_
    refine lv_iload hx hb dX7_findTree_138 (lv_at hl 4 rfl) ?_
    refine lv_iload hx hb dX7_findTree_140 (lv_at hl 6 rfl) ?_
    have hPc := hP
    have hDc := hD
    have hFc := rc_freeI hD hS hA
    refine va_calli (va_runV (As := [.int x4, .int x6]) (rest := []) ⟨hx, hb, hml, hown, hts⟩ (c_X7_may l E mo mn mi ma ml mt mb mr mp mk mq mc mw mz ms mf mu mv mx mh mA mB mC mM mT H.size mHI mFC mLC mCg mTp mNx mFr mTk mVa mEn mKe mCs mAt mHd mWg mNow mImg mAsd mLea mLat mBst mRsk mTap mKys mKat mCod mWts mTes mStk mFct mSor mSiz mCel mHol mHoA mHoB mHoC mMov mTel x4 x6 _ h) (cwV 2 hts gX7_findTree_X7_may rfl rfl rfl (by decide +kernel) ⟨Nat.le_of_ble_eq_true rfl, Nat.le_of_ble_eq_true rfl⟩) ⟨fun a U g mk q => ⟨q.1, q.2.blind⟩, va_recv hK hPc (ci := 7) (q0 := 0) rfl rfl, fun U hU hW => ⟨rfl, by rw [hU], by rw [hU]; exact hPc, hE.call hS hFc hW hU, hDc.weaken (fun _ _ _ _ => trivial)⟩⟩ rfl rfl hl.1 rfl (lv_room (Nat.le_of_ble_eq_true rfl)) dX7_findTree_142 ⟨Nat.zero_le _, Nat.zero_le _⟩) hS (fun q _ h => hFc q h) hFc (fun r_2 u t H1 locs ht hvm h hB hz1 hk1 hS => ?_)
    obtain ⟨hP1, hD1⟩ := hB
    rw [ht] at hP1
    have hP := hP1
    have hD := hD1.weaken (fun _ _ _ h => hFc _ h)
    generalize H1 = H at hP hS ⊢
    have hP : va_P E.1 vwCl (rw_24 E mo mn mi ma ml mt mb mr mp mk mq mc mw mz ms mf mu mv mx mh mA mB mC mM mT mHI mFC mLC mCg mTp mNx mFr mTk mVa mEn mKe mCs mAt mHd mWg mNow mImg mAsd mLea mLat mBst mRsk mTap mKys mKat mCod mWts mTes mStk mFct mSor mSiz mCel mHol mHoA mHoB mHoC mMov mTel) H := hP
    have hD : va_D A (rw_24 E mo mn mi ma ml mt mb mr mp mk mq mc mw mz ms mf mu mv mx mh mA mB mC mM mT mHI mFC mLC mCg mTp mNx mFr mTk mVa mEn mKe mCs mAt mHd mWg mNow mImg mAsd mLea mLat mBst mRsk mTap mKys mKat mCod mWts mTes mStk mFct mSor mSiz mCel mHol mHoA mHoB mHoC mMov mTel) := hD
    refine lv_if_eq (tgt := 173) hx hb dX7_findTree_145 (by decide) (fun c_3 => ?_) (fun c_3 => ?_)
    · have h := h.1 c_3
      refine lv_iinc (v := x6 + (-1)) (lv' := [(6, .int (x6 + (-1))), (8, .int y0), (0, .ref mo), (2, .int x2), (3, .int x3), (4, .int x4), (5, .int x5)]) hx hb dX7_findTree_173 hl (k := 6) rfl (by rfl) (by decide) rfl (fun ls hl => ?_)
      refine lv_goto (tgt := 104) hx hb dX7_findTree_176 (by decide) ?_
      exact hK104 x2 x3 x4 x5 (x6 + (-1)) mLea mLat mBst mRsk mStk mFct h _ _ hP hD hS ls (lv_sub hl [2, 3, 4, 5, 6, 0] rfl)
    · have h := h.2 c_3
      refine lv_iload hx hb dX7_findTree_148 (lv_at hl 5 rfl) ?_
      refine lv_if_lt (tgt := 160) hx hb dX7_findTree_150 (by decide) (fun c_4 => ?_) (fun c_4 => ?_)
      · have h := h.1 c_4
        exact J160 _ hK104 x2 x3 x4 x6 y0 mLea mLat mBst mRsk mStk mFct h _ _ hP hD hS ls (lv_sub hl [1, 2, 3, 4, 6, 0] rfl)
      · have h := h.2 c_4
        refine lv_iload hx hb dX7_findTree_153 (lv_at hl 0 rfl) ?_
        refine lv_iload hx hb dX7_findTree_155 (lv_at hl 5 rfl) ?_
        refine lv_icmp_gt (tgt := 173) hx hb dX7_findTree_157 (by decide) (fun c_5 => ?_) (fun c_5 => ?_)
        · have h := h.1 c_5
          refine lv_iinc (v := x6 + (-1)) (lv' := [(6, .int (x6 + (-1))), (8, .int y0), (0, .ref mo), (2, .int x2), (3, .int x3), (4, .int x4), (5, .int x5)]) hx hb dX7_findTree_173 hl (k := 6) rfl (by rfl) (by decide) rfl (fun ls hl => ?_)
          refine lv_goto (tgt := 104) hx hb dX7_findTree_176 (by decide) ?_
          exact hK104 x2 x3 x4 x5 (x6 + (-1)) mLea mLat mBst mRsk mStk mFct h _ _ hP hD hS ls (lv_sub hl [2, 3, 4, 5, 6, 0] rfl)
        · have h := h.2 c_5
          exact J160 _ hK104 x2 x3 x4 x6 y0 mLea mLat mBst mRsk mStk mFct h _ _ hP hD hS ls (lv_sub hl [1, 2, 3, 4, 6, 0] rfl)
  have J104 : ∀ (K87 : Int32 → Int32 → Int32 → (Nat → Int32) → (Nat → Int32) → (Nat → Int32) → (Nat → Int32) → (Nat → Int32) → (Nat → Int32) → Prop), (∀ (x2 : Int32) (x3 : Int32) (x4 : Int32) (mLea : Nat → Int32) (mLat : Nat → Int32) (mBst : Nat → Int32) (mRsk : Nat → Int32) (mStk : Nat → Int32) (mFct : Nat → Int32), K87 x2 x3 x4 mLea mLat mBst mRsk mStk mFct → ∀ (H : Heap) (locs : List Loc), va_P E.1 vwCl (rw_24 E mo mn mi ma ml mt mb mr mp mk mq mc mw mz ms mf mu mv mx mh mA mB mC mM mT mHI mFC mLC mCg mTp mNx mFr mTk mVa mEn mKe mCs mAt mHd mWg mNow mImg mAsd mLea mLat mBst mRsk mTap mKys mKat mCod mWts mTes mStk mFct mSor mSiz mCel mHol mHoA mHoB mHoC mMov mTel) H → va_D A (rw_24 E mo mn mi ma ml mt mb mr mp mk mq mc mw mz ms mf mu mv mx mh mA mB mC mM mT mHI mFC mLC mCg mTp mNx mFr mTk mVa mEn mKe mCs mAt mHd mWg mNow mImg mAsd mLea mLat mBst mRsk mTap mKys mKat mCod mWts mTes mStk mFct mSor mSiz mCel mHol mHoA mHoB mHoC mMov mTel) → va_S A s.heap H locs → ∀ ls : Array Slot, lv_has ls 9 [(0, .ref mo), (2, .int x2), (3, .int x3), (4, .int x4)] → W p l e ({ frames := 3, cells := 0, slots := 0, locals := 70 } : Room) s m args below meth c H locs 0 0 QQ (F0 m 87 ls [])) → ∀ (n : Nat) (x2 : Int32) (x3 : Int32) (x4 : Int32) (x5 : Int32) (x6 : Int32) (mLea : Nat → Int32) (mLat : Nat → Int32) (mBst : Nat → Int32) (mRsk : Nat → Int32) (mStk : Nat → Int32) (mFct : Nat → Int32), lp_X7_findTree_104 mNow K87 n x2 x3 x4 x5 x6 mLea mLat mBst mRsk mStk mFct → ∀ (H : Heap) (locs : List Loc), va_P E.1 vwCl (rw_24 E mo mn mi ma ml mt mb mr mp mk mq mc mw mz ms mf mu mv mx mh mA mB mC mM mT mHI mFC mLC mCg mTp mNx mFr mTk mVa mEn mKe mCs mAt mHd mWg mNow mImg mAsd mLea mLat mBst mRsk mTap mKys mKat mCod mWts mTes mStk mFct mSor mSiz mCel mHol mHoA mHoB mHoC mMov mTel) H → va_D A (rw_24 E mo mn mi ma ml mt mb mr mp mk mq mc mw mz ms mf mu mv mx mh mA mB mC mM mT mHI mFC mLC mCg mTp mNx mFr mTk mVa mEn mKe mCs mAt mHd mWg mNow mImg mAsd mLea mLat mBst mRsk mTap mKys mKat mCod mWts mTes mStk mFct mSor mSiz mCel mHol mHoA mHoB mHoC mMov mTel) → va_S A s.heap H locs → ∀ ls : Array Slot, lv_has ls 9 [(0, .ref mo), (2, .int x2), (3, .int x3), (4, .int x4), (5, .int x5), (6, .int x6)] → W p l e ({ frames := 3, cells := 0, slots := 0, locals := 70 } : Room) s m args below meth c H locs 0 0 QQ (F0 m 104 ls []) := by
    intro K87 hK87
    intro n
    induction n with
    | zero =>
      intro x2 x3 x4 x5 x6 mLea mLat mBst mRsk mStk mFct h
      exact False.elim h
    | succ n ih =>
      intro x2 x3 x4 x5 x6 mLea mLat mBst mRsk mStk mFct h H locs hP hD hS ls hl
      have h : lp_X7_findTree_104F mNow K87 (lp_X7_findTree_104 mNow K87 n) x2 x3 x4 x5 x6 mLea mLat mBst mRsk mStk mFct := h
      unfold lp_X7_findTree_104F at h
      refine lv_iload hx hb dX7_findTree_104 (lv_at hl 5 rfl) ?_
      refine lv_if_lt (tgt := 179) hx hb dX7_findTree_106 (by decide) (fun c_6 => ?_) (fun c_6 => ?_)
      · have h := h.1 c_6
        refine lv_aload_n hx hb dX7_findTree_179 rfl (lv_at hl 0 rfl) ?_
        refine va_get (D := E.1) (ci := 7) (v := .ref ml) (C := RX7) (T := TX7) (N := 39) hx hb hts n_X7 hown hK hP 0 rfl rfl 4 (by decide) k_19 (fun _ h9 => h9) rfl dX7_findTree_180 ?_
        refine lv_iload hx hb dX7_findTree_183 (lv_at hl 3 rfl) ?_
        refine lv_aload_n hx hb dX7_findTree_185 rfl (lv_at hl 0 rfl) ?_
        refine va_get (D := E.1) (ci := 7) (v := .ref mr) (C := RX7) (T := TX7) (N := 39) hx hb hts n_X7 hown hK hP 0 rfl rfl 7 (by decide) k_28 (fun _ h9 => h9) rfl dX7_findTree_186 ?_
        refine lv_iload hx hb dX7_findTree_189 (lv_at hl 3 rfl) ?_
        obtain ⟨o_7, h⟩ := h
        refine rc_iald hx hb hK hP 7 0 rfl rfl x4.toNatClampNeg rfl o_7 dX7_findTree_191 ?_
        refine lv_iload_n hx hb dX7_findTree_192 rfl (lv_at hl 2 rfl) ?_
        refine lv_imul hx hb dX7_findTree_193 ?_
        refine lv_iload hx hb dX7_findTree_194 (lv_at hl 4 rfl) ?_
        refine lv_iadd hx hb dX7_findTree_196 ?_
        obtain ⟨o_8, h⟩ := h
        refine rc_iast hx hb hK hP hD hS 4 0 rfl rfl x4.toNatClampNeg rfl o_8 dX7_findTree_197 (fun H locs hP hD hS => ?_)
        have hP : va_P E.1 vwCl (rw_24 E mo mn mi ma ml mt mb mr mp mk mq mc mw mz ms mf mu mv mx mh mA mB mC mM mT mHI mFC mLC mCg mTp mNx mFr mTk mVa mEn mKe mCs mAt mHd mWg mNow mImg mAsd (upd mLea x4.toNatClampNeg (((mRsk x4.toNatClampNeg) * x3) + x5)) mLat mBst mRsk mTap mKys mKat mCod mWts mTes mStk mFct mSor mSiz mCel mHol mHoA mHoB mHoC mMov mTel) H := hP
        have hD : va_D A (rw_24 E mo mn mi ma ml mt mb mr mp mk mq mc mw mz ms mf mu mv mx mh mA mB mC mM mT mHI mFC mLC mCg mTp mNx mFr mTk mVa mEn mKe mCs mAt mHd mWg mNow mImg mAsd (upd mLea x4.toNatClampNeg (((mRsk x4.toNatClampNeg) * x3) + x5)) mLat mBst mRsk mTap mKys mKat mCod mWts mTes mStk mFct mSor mSiz mCel mHol mHoA mHoB mHoC mMov mTel) := hD
        refine lv_iinc (v := x4 + 1) (lv' := [(4, .int (x4 + 1)), (0, .ref mo), (2, .int x2), (3, .int x3), (5, .int x5), (6, .int x6)]) hx hb dX7_findTree_198 hl (k := 3) rfl (by rfl) (by decide) rfl (fun ls hl => ?_)
        refine lv_goto (tgt := 87) hx hb dX7_findTree_201 (by decide) ?_
        exact hK87 x2 x3 (x4 + 1) (upd mLea x4.toNatClampNeg (((mRsk x4.toNatClampNeg) * x3) + x5)) mLat mBst mRsk mStk mFct h _ _ hP hD hS ls (lv_sub hl [1, 2, 3, 0] rfl)
      · have h := h.2 c_6
        refine lv_aload_n hx hb dX7_findTree_109 rfl (lv_at hl 0 rfl) ?_
        refine lv_iload hx hb dX7_findTree_110 (lv_at hl 3 rfl) ?_
        refine lv_iload hx hb dX7_findTree_112 (lv_at hl 5 rfl) ?_
        have hPc := hP
        have hDc := hD
        have hFc := rc_freeI hD hS hA
        refine va_calli (va_runV (As := [.int x4, .int x6]) (rest := []) ⟨hx, hb, hml, hown, hts⟩ (c_X7_goes l E mo mn mi ma ml mt mb mr mp mk mq mc mw mz ms mf mu mv mx mh mA mB mC mM mT H.size mHI mFC mLC mCg mTp mNx mFr mTk mVa mEn mKe mCs mAt mHd mWg mNow mImg mAsd mLea mLat mBst mRsk mTap mKys mKat mCod mWts mTes mStk mFct mSor mSiz mCel mHol mHoA mHoB mHoC mMov mTel x4 x6 _ h) (cwV 2 hts gX7_findTree_X7_goes rfl rfl rfl (by decide +kernel) ⟨Nat.le_of_ble_eq_true rfl, Nat.le_of_ble_eq_true rfl⟩) ⟨fun a U g mk q => ⟨q.1, q.2.blind⟩, va_recv hK hPc (ci := 7) (q0 := 0) rfl rfl, fun U hU hW => ⟨rfl, by rw [hU], by rw [hU]; exact hPc, hE.call hS hFc hW hU, hDc.weaken (fun _ _ _ _ => trivial)⟩⟩ rfl rfl hl.1 rfl (lv_room (Nat.le_of_ble_eq_true rfl)) dX7_findTree_114 ⟨Nat.zero_le _, Nat.zero_le _⟩) hS (fun q _ h => hFc q h) hFc (fun r_9 u t H1 locs ht hvm h hB hz1 hk1 hS => ?_)
        obtain ⟨hP1, hD1⟩ := hB
        rw [ht] at hP1
        have hP := hP1
        have hD := hD1.weaken (fun _ _ _ h => hFc _ h)
        generalize H1 = H at hP hS ⊢
        have hP : va_P E.1 vwCl (rw_24 E mo mn mi ma ml mt mb mr mp mk mq mc mw mz ms mf mu mv mx mh mA mB mC mM mT mHI mFC mLC mCg mTp mNx mFr mTk mVa mEn mKe mCs mAt mHd mWg mNow mImg mAsd mLea mLat mBst mRsk mTap mKys mKat mCod mWts mTes mStk mFct mSor mSiz mCel mHol mHoA mHoB mHoC mMov mTel) H := hP
        have hD : va_D A (rw_24 E mo mn mi ma ml mt mb mr mp mk mq mc mw mz ms mf mu mv mx mh mA mB mC mM mT mHI mFC mLC mCg mTp mNx mFr mTk mVa mEn mKe mCs mAt mHd mWg mNow mImg mAsd mLea mLat mBst mRsk mTap mKys mKat mCod mWts mTes mStk mFct mSor mSiz mCel mHol mHoA mHoB mHoC mMov mTel) := hD
        refine lv_istore (lv' := [(7, .int r_9), (0, .ref mo), (2, .int x2), (3, .int x3), (4, .int x4), (5, .int x5), (6, .int x6)]) hx hb dX7_findTree_117 hl (by decide) rfl (fun ls hl => ?_)
        refine lv_iload hx hb dX7_findTree_119 (lv_at hl 0 rfl) ?_
        refine lv_if_ge (tgt := 128) hx hb dX7_findTree_121 (by decide) (fun c_10 => ?_) (fun c_10 => ?_)
        · have h := h.1 c_10
          refine lv_aload_n hx hb dX7_findTree_128 rfl (lv_at hl 1 rfl) ?_
          refine va_get (D := E.1) (ci := 7) (v := .ref mt) (C := RX7) (T := TX7) (N := 39) hx hb hts n_X7 hown hK hP 0 rfl rfl 5 (by decide) k_22 (fun _ h9 => h9) rfl dX7_findTree_129 ?_
          refine lv_iload hx hb dX7_findTree_132 (lv_at hl 0 rfl) ?_
          obtain ⟨o_11, h⟩ := h
          refine rc_iald hx hb hK hP 5 0 rfl rfl r_9.toNatClampNeg rfl o_11 dX7_findTree_134 ?_
          exact J135 _ (fun v0 v1 v2 v3 v4 v5 v6 v7 v8 v9 v10 h => ih v0 v1 v2 v3 v4 v5 v6 v7 v8 v9 v10 h) x2 x3 x4 x5 x6 (mLat r_9.toNatClampNeg) mLea mLat mBst mRsk mStk mFct h _ _ hP hD hS ls (lv_sub hl [1, 2, 3, 4, 5, 6] rfl)
        · have h := h.2 c_10
          refine lv_iconst (v := 0) hx hb dX7_findTree_124 (by decide) ?_
          refine lv_goto (tgt := 135) hx hb dX7_findTree_125 (by decide) ?_
          exact J135 _ (fun v0 v1 v2 v3 v4 v5 v6 v7 v8 v9 v10 h => ih v0 v1 v2 v3 v4 v5 v6 v7 v8 v9 v10 h) x2 x3 x4 x5 x6 0 mLea mLat mBst mRsk mStk mFct h _ _ hP hD hS ls (lv_sub hl [1, 2, 3, 4, 5, 6] rfl)
  have J87 : ∀ (K40 : Int32 → (Nat → Int32) → (Nat → Int32) → (Nat → Int32) → (Nat → Int32) → (Nat → Int32) → (Nat → Int32) → Prop), (∀ (x2 : Int32) (mLea : Nat → Int32) (mLat : Nat → Int32) (mBst : Nat → Int32) (mRsk : Nat → Int32) (mStk : Nat → Int32) (mFct : Nat → Int32), K40 x2 mLea mLat mBst mRsk mStk mFct → ∀ (H : Heap) (locs : List Loc), va_P E.1 vwCl (rw_24 E mo mn mi ma ml mt mb mr mp mk mq mc mw mz ms mf mu mv mx mh mA mB mC mM mT mHI mFC mLC mCg mTp mNx mFr mTk mVa mEn mKe mCs mAt mHd mWg mNow mImg mAsd mLea mLat mBst mRsk mTap mKys mKat mCod mWts mTes mStk mFct mSor mSiz mCel mHol mHoA mHoB mHoC mMov mTel) H → va_D A (rw_24 E mo mn mi ma ml mt mb mr mp mk mq mc mw mz ms mf mu mv mx mh mA mB mC mM mT mHI mFC mLC mCg mTp mNx mFr mTk mVa mEn mKe mCs mAt mHd mWg mNow mImg mAsd mLea mLat mBst mRsk mTap mKys mKat mCod mWts mTes mStk mFct mSor mSiz mCel mHol mHoA mHoB mHoC mMov mTel) → va_S A s.heap H locs → ∀ ls : Array Slot, lv_has ls 9 [(0, .ref mo), (2, .int x2)] → W p l e ({ frames := 3, cells := 0, slots := 0, locals := 70 } : Room) s m args below meth c H locs 0 0 QQ (F0 m 40 ls [])) → ∀ (n : Nat) (x2 : Int32) (x3 : Int32) (x4 : Int32) (mLea : Nat → Int32) (mLat : Nat → Int32) (mBst : Nat → Int32) (mRsk : Nat → Int32) (mStk : Nat → Int32) (mFct : Nat → Int32), lp_X7_findTree_87 mNow K40 n x2 x3 x4 mLea mLat mBst mRsk mStk mFct → ∀ (H : Heap) (locs : List Loc), va_P E.1 vwCl (rw_24 E mo mn mi ma ml mt mb mr mp mk mq mc mw mz ms mf mu mv mx mh mA mB mC mM mT mHI mFC mLC mCg mTp mNx mFr mTk mVa mEn mKe mCs mAt mHd mWg mNow mImg mAsd mLea mLat mBst mRsk mTap mKys mKat mCod mWts mTes mStk mFct mSor mSiz mCel mHol mHoA mHoB mHoC mMov mTel) H → va_D A (rw_24 E mo mn mi ma ml mt mb mr mp mk mq mc mw mz ms mf mu mv mx mh mA mB mC mM mT mHI mFC mLC mCg mTp mNx mFr mTk mVa mEn mKe mCs mAt mHd mWg mNow mImg mAsd mLea mLat mBst mRsk mTap mKys mKat mCod mWts mTes mStk mFct mSor mSiz mCel mHol mHoA mHoB mHoC mMov mTel) → va_S A s.heap H locs → ∀ ls : Array Slot, lv_has ls 9 [(0, .ref mo), (2, .int x2), (3, .int x3), (4, .int x4)] → W p l e ({ frames := 3, cells := 0, slots := 0, locals := 70 } : Room) s m args below meth c H locs 0 0 QQ (F0 m 87 ls []) := by
    intro K40 hK40
    intro n
    induction n with
    | zero =>
      intro x2 x3 x4 mLea mLat mBst mRsk mStk mFct h
      exact False.elim h
    | succ n ih =>
      intro x2 x3 x4 mLea mLat mBst mRsk mStk mFct h H locs hP hD hS ls hl
      have h : lp_X7_findTree_87F mNow K40 (lp_X7_findTree_87 mNow K40 n) x2 x3 x4 mLea mLat mBst mRsk mStk mFct := h
      unfold lp_X7_findTree_87F at h
      refine lv_iload hx hb dX7_findTree_87 (lv_at hl 3 rfl) ?_
      refine lv_aload_n hx hb dX7_findTree_89 rfl (lv_at hl 0 rfl) ?_
      refine va_get (D := E.1) (ci := 7) (v := .ref mn) (C := RX7) (T := TX7) (N := 39) hx hb hts n_X7 hown hK hP 0 rfl rfl 0 (by decide) k_9 (fun _ h9 => h9) rfl dX7_findTree_90 ?_
      refine lv_iconst (v := 1) hx hb dX7_findTree_93 (by decide) ?_
      refine rc_iald hx hb hK hP 1 0 rfl rfl 1 (by decide) (by unfold vp_in; decide) dX7_findTree_94 ?_
      refine lv_icmp_ge (tgt := 204) hx hb dX7_findTree_95 (by decide) (fun c_12 => ?_) (fun c_12 => ?_)
      · have h := h.1 c_12
        refine lv_iinc (v := x2 + (-1)) (lv' := [(2, .int (x2 + (-1))), (0, .ref mo), (3, .int x3), (4, .int x4)]) hx hb dX7_findTree_204 hl (k := 1) rfl (by rfl) (by decide) rfl (fun ls hl => ?_)
        refine lv_goto (tgt := 40) hx hb dX7_findTree_207 (by decide) ?_
        exact hK40 (x2 + (-1)) mLea mLat mBst mRsk mStk mFct h _ _ hP hD hS ls (lv_sub hl [1, 0] rfl)
      · have h := h.2 c_12
        refine lv_iconst (v := (-1)) hx hb dX7_findTree_98 (by decide) ?_
        refine lv_istore (lv' := [(5, .int (-1)), (0, .ref mo), (2, .int x2), (3, .int x3), (4, .int x4)]) hx hb dX7_findTree_99 hl (by decide) rfl (fun ls hl => ?_)
        refine lv_iconst (v := 3) hx hb dX7_findTree_101 (by decide) ?_
        refine lv_istore (lv' := [(6, .int 3), (5, .int (-1)), (0, .ref mo), (2, .int x2), (3, .int x3), (4, .int x4)]) hx hb dX7_findTree_102 hl (by decide) rfl (fun ls hl => ?_)
        obtain ⟨n, h⟩ := h
        exact J104 _ (fun v0 v1 v2 v3 v4 v5 v6 v7 v8 h => ih v0 v1 v2 v3 v4 v5 v6 v7 v8 h) n x2 x3 x4 (-1) 3 mLea mLat mBst mRsk mStk mFct h _ _ hP hD hS ls (lv_sub hl [2, 3, 4, 5, 1, 0] rfl)
  have J53 : ∀ (K40 : Int32 → (Nat → Int32) → (Nat → Int32) → (Nat → Int32) → (Nat → Int32) → (Nat → Int32) → (Nat → Int32) → Prop), (∀ (x2 : Int32) (mLea : Nat → Int32) (mLat : Nat → Int32) (mBst : Nat → Int32) (mRsk : Nat → Int32) (mStk : Nat → Int32) (mFct : Nat → Int32), K40 x2 mLea mLat mBst mRsk mStk mFct → ∀ (H : Heap) (locs : List Loc), va_P E.1 vwCl (rw_24 E mo mn mi ma ml mt mb mr mp mk mq mc mw mz ms mf mu mv mx mh mA mB mC mM mT mHI mFC mLC mCg mTp mNx mFr mTk mVa mEn mKe mCs mAt mHd mWg mNow mImg mAsd mLea mLat mBst mRsk mTap mKys mKat mCod mWts mTes mStk mFct mSor mSiz mCel mHol mHoA mHoB mHoC mMov mTel) H → va_D A (rw_24 E mo mn mi ma ml mt mb mr mp mk mq mc mw mz ms mf mu mv mx mh mA mB mC mM mT mHI mFC mLC mCg mTp mNx mFr mTk mVa mEn mKe mCs mAt mHd mWg mNow mImg mAsd mLea mLat mBst mRsk mTap mKys mKat mCod mWts mTes mStk mFct mSor mSiz mCel mHol mHoA mHoB mHoC mMov mTel) → va_S A s.heap H locs → ∀ ls : Array Slot, lv_has ls 9 [(0, .ref mo), (2, .int x2)] → W p l e ({ frames := 3, cells := 0, slots := 0, locals := 70 } : Room) s m args below meth c H locs 0 0 QQ (F0 m 40 ls [])) → ∀ (n : Nat) (x2 : Int32) (x3 : Int32) (x4 : Int32) (mLea : Nat → Int32) (mLat : Nat → Int32) (mBst : Nat → Int32) (mRsk : Nat → Int32) (mStk : Nat → Int32) (mFct : Nat → Int32), lp_X7_findTree_53 mNow K40 n x2 x3 x4 mLea mLat mBst mRsk mStk mFct → ∀ (H : Heap) (locs : List Loc), va_P E.1 vwCl (rw_24 E mo mn mi ma ml mt mb mr mp mk mq mc mw mz ms mf mu mv mx mh mA mB mC mM mT mHI mFC mLC mCg mTp mNx mFr mTk mVa mEn mKe mCs mAt mHd mWg mNow mImg mAsd mLea mLat mBst mRsk mTap mKys mKat mCod mWts mTes mStk mFct mSor mSiz mCel mHol mHoA mHoB mHoC mMov mTel) H → va_D A (rw_24 E mo mn mi ma ml mt mb mr mp mk mq mc mw mz ms mf mu mv mx mh mA mB mC mM mT mHI mFC mLC mCg mTp mNx mFr mTk mVa mEn mKe mCs mAt mHd mWg mNow mImg mAsd mLea mLat mBst mRsk mTap mKys mKat mCod mWts mTes mStk mFct mSor mSiz mCel mHol mHoA mHoB mHoC mMov mTel) → va_S A s.heap H locs → ∀ ls : Array Slot, lv_has ls 9 [(0, .ref mo), (2, .int x2), (3, .int x3), (4, .int x4)] → W p l e ({ frames := 3, cells := 0, slots := 0, locals := 70 } : Room) s m args below meth c H locs 0 0 QQ (F0 m 53 ls []) := by
    intro K40 hK40
    intro n
    induction n with
    | zero =>
      intro x2 x3 x4 mLea mLat mBst mRsk mStk mFct h
      exact False.elim h
    | succ n ih =>
      intro x2 x3 x4 mLea mLat mBst mRsk mStk mFct h H locs hP hD hS ls hl
      have h : lp_X7_findTree_53F mNow K40 (lp_X7_findTree_53 mNow K40 n) x2 x3 x4 mLea mLat mBst mRsk mStk mFct := h
      unfold lp_X7_findTree_53F at h
      refine lv_iload hx hb dX7_findTree_53 (lv_at hl 3 rfl) ?_
      refine lv_aload_n hx hb dX7_findTree_55 rfl (lv_at hl 0 rfl) ?_
      refine va_get (D := E.1) (ci := 7) (v := .ref mn) (C := RX7) (T := TX7) (N := 39) hx hb hts n_X7 hown hK hP 0 rfl rfl 0 (by decide) k_9 (fun _ h9 => h9) rfl dX7_findTree_56 ?_
      refine lv_iconst (v := 1) hx hb dX7_findTree_59 (by decide) ?_
      refine rc_iald hx hb hK hP 1 0 rfl rfl 1 (by decide) (by unfold vp_in; decide) dX7_findTree_60 ?_
      refine lv_icmp_ge (tgt := 84) hx hb dX7_findTree_61 (by decide) (fun c_13 => ?_) (fun c_13 => ?_)
      · have h := h.1 c_13
        refine lv_iconst (v := 0) hx hb dX7_findTree_84 (by decide) ?_
        refine lv_istore (lv' := [(4, .int 0), (0, .ref mo), (2, .int x2), (3, .int x3)]) hx hb dX7_findTree_85 hl (by decide) rfl (fun ls hl => ?_)
        obtain ⟨n, h⟩ := h
        exact J87 _ hK40 n x2 x3 0 mLea mLat mBst mRsk mStk mFct h _ _ hP hD hS ls (lv_sub hl [1, 2, 3, 0] rfl)
      · have h := h.2 c_13
        refine lv_aload_n hx hb dX7_findTree_64 rfl (lv_at hl 0 rfl) ?_
        refine va_get (D := E.1) (ci := 7) (v := .ref mt) (C := RX7) (T := TX7) (N := 39) hx hb hts n_X7 hown hK hP 0 rfl rfl 5 (by decide) k_22 (fun _ h9 => h9) rfl dX7_findTree_65 ?_
        refine lv_iload hx hb dX7_findTree_68 (lv_at hl 3 rfl) ?_
        refine lv_aload_n hx hb dX7_findTree_70 rfl (lv_at hl 0 rfl) ?_
        refine va_get (D := E.1) (ci := 7) (v := .ref ml) (C := RX7) (T := TX7) (N := 39) hx hb hts n_X7 hown hK hP 0 rfl rfl 4 (by decide) k_19 (fun _ h9 => h9) rfl dX7_findTree_71 ?_
        refine lv_iload hx hb dX7_findTree_74 (lv_at hl 3 rfl) ?_
        obtain ⟨o_14, h⟩ := h
        refine rc_iald hx hb hK hP 4 0 rfl rfl x4.toNatClampNeg rfl o_14 dX7_findTree_76 ?_
        obtain ⟨o_15, h⟩ := h
        refine rc_iast hx hb hK hP hD hS 5 0 rfl rfl x4.toNatClampNeg rfl o_15 dX7_findTree_77 (fun H locs hP hD hS => ?_)
        have hP : va_P E.1 vwCl (rw_24 E mo mn mi ma ml mt mb mr mp mk mq mc mw mz ms mf mu mv mx mh mA mB mC mM mT mHI mFC mLC mCg mTp mNx mFr mTk mVa mEn mKe mCs mAt mHd mWg mNow mImg mAsd mLea (upd mLat x4.toNatClampNeg (mLea x4.toNatClampNeg)) mBst mRsk mTap mKys mKat mCod mWts mTes mStk mFct mSor mSiz mCel mHol mHoA mHoB mHoC mMov mTel) H := hP
        have hD : va_D A (rw_24 E mo mn mi ma ml mt mb mr mp mk mq mc mw mz ms mf mu mv mx mh mA mB mC mM mT mHI mFC mLC mCg mTp mNx mFr mTk mVa mEn mKe mCs mAt mHd mWg mNow mImg mAsd mLea (upd mLat x4.toNatClampNeg (mLea x4.toNatClampNeg)) mBst mRsk mTap mKys mKat mCod mWts mTes mStk mFct mSor mSiz mCel mHol mHoA mHoB mHoC mMov mTel) := hD
        refine lv_iinc (v := x4 + 1) (lv' := [(4, .int (x4 + 1)), (0, .ref mo), (2, .int x2), (3, .int x3)]) hx hb dX7_findTree_78 hl (k := 3) rfl (by rfl) (by decide) rfl (fun ls hl => ?_)
        refine lv_goto (tgt := 53) hx hb dX7_findTree_81 (by decide) ?_
        exact ih x2 x3 (x4 + 1) mLea (upd mLat x4.toNatClampNeg (mLea x4.toNatClampNeg)) mBst mRsk mStk mFct h _ _ hP hD hS ls (lv_sub hl [1, 2, 3, 0] rfl)
  have J40 : ∀ (n : Nat) (x2 : Int32) (mLea : Nat → Int32) (mLat : Nat → Int32) (mBst : Nat → Int32) (mRsk : Nat → Int32) (mStk : Nat → Int32) (mFct : Nat → Int32), lp_X7_findTree_40 mNow Q n x2 mLea mLat mBst mRsk mStk mFct → ∀ (H : Heap) (locs : List Loc), va_P E.1 vwCl (rw_24 E mo mn mi ma ml mt mb mr mp mk mq mc mw mz ms mf mu mv mx mh mA mB mC mM mT mHI mFC mLC mCg mTp mNx mFr mTk mVa mEn mKe mCs mAt mHd mWg mNow mImg mAsd mLea mLat mBst mRsk mTap mKys mKat mCod mWts mTes mStk mFct mSor mSiz mCel mHol mHoA mHoB mHoC mMov mTel) H → va_D A (rw_24 E mo mn mi ma ml mt mb mr mp mk mq mc mw mz ms mf mu mv mx mh mA mB mC mM mT mHI mFC mLC mCg mTp mNx mFr mTk mVa mEn mKe mCs mAt mHd mWg mNow mImg mAsd mLea mLat mBst mRsk mTap mKys mKat mCod mWts mTes mStk mFct mSor mSiz mCel mHol mHoA mHoB mHoC mMov mTel) → va_S A s.heap H locs → ∀ ls : Array Slot, lv_has ls 9 [(0, .ref mo), (2, .int x2)] → W p l e ({ frames := 3, cells := 0, slots := 0, locals := 70 } : Room) s m args below meth c H locs 0 0 QQ (F0 m 40 ls []) := by
    intro n
    induction n with
    | zero =>
      intro x2 mLea mLat mBst mRsk mStk mFct h
      exact False.elim h
    | succ n ih =>
      intro x2 mLea mLat mBst mRsk mStk mFct h H locs hP hD hS ls hl
      have h : lp_X7_findTree_40F mNow Q (lp_X7_findTree_40 mNow Q n) x2 mLea mLat mBst mRsk mStk mFct := h
      unfold lp_X7_findTree_40F at h
      refine lv_iload_n hx hb dX7_findTree_40 rfl (lv_at hl 1 rfl) ?_
      refine lv_if_lt (tgt := 210) hx hb dX7_findTree_41 (by decide) (fun c_16 => ?_) (fun c_16 => ?_)
      · have h := h.1 c_16
        exact hret _ _ _ _ (mLea, mLat, mBst, mRsk, mStk, mFct) h hP hD hS dX7_findTree_210
      · have h := h.2 c_16
        refine lv_aload_n hx hb dX7_findTree_44 rfl (lv_at hl 0 rfl) ?_
        refine lv_iload_n hx hb dX7_findTree_45 rfl (lv_at hl 1 rfl) ?_
        have hPc := hP
        have hDc := hD
        have hFc := rc_freeI hD hS hA
        refine va_calli (va_runV (As := [.int x2]) (rest := []) ⟨hx, hb, hml, hown, hts⟩ (c_X7_oddsOn l E mo mn mi ma ml mt mb mr mp mk mq mc mw mz ms mf mu mv mx mh mA mB mC mM mT H.size mHI mFC mLC mCg mTp mNx mFr mTk mVa mEn mKe mCs mAt mHd mWg mNow mImg mAsd mLea mLat mBst mRsk mTap mKys mKat mCod mWts mTes mStk mFct mSor mSiz mCel mHol mHoA mHoB mHoC mMov mTel x2 _ h) (cwV 1 hts gX7_findTree_X7_oddsOn rfl rfl rfl (by decide +kernel) ⟨Nat.le_of_ble_eq_true rfl, Nat.le_of_ble_eq_true rfl⟩) ⟨fun a U g mk q => ⟨q.1, q.2.blind⟩, va_recv hK hPc (ci := 7) (q0 := 0) rfl rfl, fun U hU hW => ⟨rfl, by rw [hU], by rw [hU]; exact hPc, hE.call hS hFc hW hU, hDc.weaken (fun _ _ _ _ => trivial)⟩⟩ rfl rfl hl.1 rfl (lv_room (Nat.le_of_ble_eq_true rfl)) dX7_findTree_46 ⟨Nat.zero_le _, Nat.zero_le _⟩) hS (fun q _ h => hFc q h) hFc (fun r_17 u t H1 locs ht hvm h hB hz1 hk1 hS => ?_)
        obtain ⟨w_18, w_19⟩ := u
        obtain ⟨hP1, hD1⟩ := hB
        rw [ht] at hP1
        have hP := hP1
        have hD := hD1.weaken (fun _ _ _ h => hFc _ h)
        generalize H1 = H at hP hS ⊢
        have hP : va_P E.1 vwCl (rw_24 E mo mn mi ma ml mt mb mr mp mk mq mc mw mz ms mf mu mv mx mh mA mB mC mM mT mHI mFC mLC mCg mTp mNx mFr mTk mVa mEn mKe mCs mAt mHd mWg mNow mImg mAsd mLea mLat mBst mRsk mTap mKys mKat mCod mWts mTes w_18 w_19 mSor mSiz mCel mHol mHoA mHoB mHoC mMov mTel) H := hP
        have hD : va_D A (rw_24 E mo mn mi ma ml mt mb mr mp mk mq mc mw mz ms mf mu mv mx mh mA mB mC mM mT mHI mFC mLC mCg mTp mNx mFr mTk mVa mEn mKe mCs mAt mHd mWg mNow mImg mAsd mLea mLat mBst mRsk mTap mKys mKat mCod mWts mTes w_18 w_19 mSor mSiz mCel mHol mHoA mHoB mHoC mMov mTel) := hD
        refine lv_istore_n (lv' := [(3, .int r_17), (0, .ref mo), (2, .int x2)]) hx hb dX7_findTree_49 rfl hl (by decide) rfl (fun ls hl => ?_)
        refine lv_iconst (v := 0) hx hb dX7_findTree_50 (by decide) ?_
        refine lv_istore (lv' := [(4, .int 0), (3, .int r_17), (0, .ref mo), (2, .int x2)]) hx hb dX7_findTree_51 hl (by decide) rfl (fun ls hl => ?_)
        obtain ⟨n, h⟩ := h
        exact J53 _ (fun v0 v1 v2 v3 v4 v5 v6 h => ih v0 v1 v2 v3 v4 v5 v6 h) n x2 r_17 0 mLea mLat mBst mRsk w_18 w_19 h _ _ hP hD hS ls (lv_sub hl [2, 3, 1, 0] rfl)
  have J2 : ∀ (n : Nat) (x2 : Int32) (mLea : Nat → Int32) (mLat : Nat → Int32) (mBst : Nat → Int32) (mRsk : Nat → Int32) (mStk : Nat → Int32) (mFct : Nat → Int32), lp_X7_findTree_2 p1 mNow Q n x2 mLea mLat mBst mRsk mStk mFct → ∀ (H : Heap) (locs : List Loc), va_P E.1 vwCl (rw_24 E mo mn mi ma ml mt mb mr mp mk mq mc mw mz ms mf mu mv mx mh mA mB mC mM mT mHI mFC mLC mCg mTp mNx mFr mTk mVa mEn mKe mCs mAt mHd mWg mNow mImg mAsd mLea mLat mBst mRsk mTap mKys mKat mCod mWts mTes mStk mFct mSor mSiz mCel mHol mHoA mHoB mHoC mMov mTel) H → va_D A (rw_24 E mo mn mi ma ml mt mb mr mp mk mq mc mw mz ms mf mu mv mx mh mA mB mC mM mT mHI mFC mLC mCg mTp mNx mFr mTk mVa mEn mKe mCs mAt mHd mWg mNow mImg mAsd mLea mLat mBst mRsk mTap mKys mKat mCod mWts mTes mStk mFct mSor mSiz mCel mHol mHoA mHoB mHoC mMov mTel) → va_S A s.heap H locs → ∀ ls : Array Slot, lv_has ls 9 [(0, .ref mo), (1, .int p1), (2, .int x2)] → W p l e ({ frames := 3, cells := 0, slots := 0, locals := 70 } : Room) s m args below meth c H locs 0 0 QQ (F0 m 2 ls []) := by
    intro n
    induction n with
    | zero =>
      intro x2 mLea mLat mBst mRsk mStk mFct h
      exact False.elim h
    | succ n ih =>
      intro x2 mLea mLat mBst mRsk mStk mFct h H locs hP hD hS ls hl
      have h : lp_X7_findTree_2F p1 mNow Q (lp_X7_findTree_2 p1 mNow Q n) x2 mLea mLat mBst mRsk mStk mFct := h
      unfold lp_X7_findTree_2F at h
      refine lv_iload_n hx hb dX7_findTree_2 rfl (lv_at hl 2 rfl) ?_
      refine lv_aload_n hx hb dX7_findTree_3 rfl (lv_at hl 0 rfl) ?_
      refine va_get (D := E.1) (ci := 7) (v := .ref mn) (C := RX7) (T := TX7) (N := 39) hx hb hts n_X7 hown hK hP 0 rfl rfl 0 (by decide) k_9 (fun _ h9 => h9) rfl dX7_findTree_4 ?_
      refine lv_iconst (v := 1) hx hb dX7_findTree_7 (by decide) ?_
      refine rc_iald hx hb hK hP 1 0 rfl rfl 1 (by decide) (by unfold vp_in; decide) dX7_findTree_8 ?_
      refine lv_icmp_ge (tgt := 36) hx hb dX7_findTree_9 (by decide) (fun c_20 => ?_) (fun c_20 => ?_)
      · have h := h.1 c_20
        refine lv_iload_n hx hb dX7_findTree_36 rfl (lv_at hl 1 rfl) ?_
        refine lv_iconst (v := 1) hx hb dX7_findTree_37 (by decide) ?_
        refine lv_isub hx hb dX7_findTree_38 ?_
        refine lv_istore_n (lv' := [(2, .int (p1 - 1)), (0, .ref mo), (1, .int p1)]) hx hb dX7_findTree_39 rfl hl (by decide) rfl (fun ls hl => ?_)
        obtain ⟨n, h⟩ := h
        exact J40 n (p1 - 1) mLea mLat mBst mRsk mStk mFct h _ _ hP hD hS ls (lv_sub hl [1, 0] rfl)
      · have h := h.2 c_20
        refine lv_aload_n hx hb dX7_findTree_12 rfl (lv_at hl 0 rfl) ?_
        refine va_get (D := E.1) (ci := 7) (v := .ref mr) (C := RX7) (T := TX7) (N := 39) hx hb hts n_X7 hown hK hP 0 rfl rfl 7 (by decide) k_28 (fun _ h9 => h9) rfl dX7_findTree_13 ?_
        refine lv_iload_n hx hb dX7_findTree_16 rfl (lv_at hl 2 rfl) ?_
        refine lv_aload_n hx hb dX7_findTree_17 rfl (lv_at hl 0 rfl) ?_
        refine lv_iload_n hx hb dX7_findTree_18 rfl (lv_at hl 2 rfl) ?_
        have hPc := hP
        have hDc := hD
        have hFc := rc_freeI hD hS hA
        refine va_calli (va_runV (As := [.int x2]) (rest := [.int x2, .ref mr]) ⟨hx, hb, hml, hown, hts⟩ (c_X7_riskOf l E mo mn mi ma ml mt mb mr mp mk mq mc mw mz ms mf mu mv mx mh mA mB mC mM mT H.size mHI mFC mLC mCg mTp mNx mFr mTk mVa mEn mKe mCs mAt mHd mWg mNow mImg mAsd mLea mLat mBst mRsk mTap mKys mKat mCod mWts mTes mStk mFct mSor mSiz mCel mHol mHoA mHoB mHoC mMov mTel x2 _ h) (cwV 1 hts gX7_findTree_X7_riskOf rfl rfl rfl (by decide +kernel) ⟨Nat.le_of_ble_eq_true rfl, Nat.le_of_ble_eq_true rfl⟩) ⟨fun a U g mk q => ⟨q.1, q.2.blind⟩, va_recv hK hPc (ci := 7) (q0 := 0) rfl rfl, fun U hU hW => ⟨rfl, by rw [hU], by rw [hU]; exact hPc, hE.call hS hFc hW hU, hDc.weaken (fun _ _ _ _ => trivial)⟩⟩ rfl rfl hl.1 rfl (lv_room (Nat.le_of_ble_eq_true rfl)) dX7_findTree_19 ⟨Nat.zero_le _, Nat.zero_le _⟩) hS (fun q _ h => hFc q h) hFc (fun r_21 u t H1 locs ht hvm h hB hz1 hk1 hS => ?_)
        obtain ⟨w_22, w_23⟩ := u
        obtain ⟨hP1, hD1⟩ := hB
        rw [ht] at hP1
        have hP := hP1
        have hD := hD1.weaken (fun _ _ _ h => hFc _ h)
        generalize H1 = H at hP hS ⊢
        have hP : va_P E.1 vwCl (rw_24 E mo mn mi ma ml mt mb mr mp mk mq mc mw mz ms mf mu mv mx mh mA mB mC mM mT mHI mFC mLC mCg mTp mNx mFr mTk mVa mEn mKe mCs mAt mHd mWg mNow mImg mAsd mLea mLat mBst mRsk mTap mKys mKat mCod mWts mTes w_22 w_23 mSor mSiz mCel mHol mHoA mHoB mHoC mMov mTel) H := hP
        have hD : va_D A (rw_24 E mo mn mi ma ml mt mb mr mp mk mq mc mw mz ms mf mu mv mx mh mA mB mC mM mT mHI mFC mLC mCg mTp mNx mFr mTk mVa mEn mKe mCs mAt mHd mWg mNow mImg mAsd mLea mLat mBst mRsk mTap mKys mKat mCod mWts mTes w_22 w_23 mSor mSiz mCel mHol mHoA mHoB mHoC mMov mTel) := hD
        obtain ⟨o_24, h⟩ := h
        refine rc_iast hx hb hK hP hD hS 7 0 rfl rfl x2.toNatClampNeg rfl o_24 dX7_findTree_22 (fun H locs hP hD hS => ?_)
        have hP : va_P E.1 vwCl (rw_24 E mo mn mi ma ml mt mb mr mp mk mq mc mw mz ms mf mu mv mx mh mA mB mC mM mT mHI mFC mLC mCg mTp mNx mFr mTk mVa mEn mKe mCs mAt mHd mWg mNow mImg mAsd mLea mLat mBst (upd mRsk x2.toNatClampNeg r_21) mTap mKys mKat mCod mWts mTes w_22 w_23 mSor mSiz mCel mHol mHoA mHoB mHoC mMov mTel) H := hP
        have hD : va_D A (rw_24 E mo mn mi ma ml mt mb mr mp mk mq mc mw mz ms mf mu mv mx mh mA mB mC mM mT mHI mFC mLC mCg mTp mNx mFr mTk mVa mEn mKe mCs mAt mHd mWg mNow mImg mAsd mLea mLat mBst (upd mRsk x2.toNatClampNeg r_21) mTap mKys mKat mCod mWts mTes w_22 w_23 mSor mSiz mCel mHol mHoA mHoB mHoC mMov mTel) := hD
        refine lv_aload_n hx hb dX7_findTree_23 rfl (lv_at hl 0 rfl) ?_
        refine va_get (D := E.1) (ci := 7) (v := .ref ml) (C := RX7) (T := TX7) (N := 39) hx hb hts n_X7 hown hK hP 0 rfl rfl 4 (by decide) k_19 (fun _ h9 => h9) rfl dX7_findTree_24 ?_
        refine lv_iload_n hx hb dX7_findTree_27 rfl (lv_at hl 2 rfl) ?_
        refine lv_iconst (v := 0) hx hb dX7_findTree_28 (by decide) ?_
        obtain ⟨o_25, h⟩ := h
        refine rc_iast hx hb hK hP hD hS 4 0 rfl rfl x2.toNatClampNeg rfl o_25 dX7_findTree_29 (fun H locs hP hD hS => ?_)
        have hP : va_P E.1 vwCl (rw_24 E mo mn mi ma ml mt mb mr mp mk mq mc mw mz ms mf mu mv mx mh mA mB mC mM mT mHI mFC mLC mCg mTp mNx mFr mTk mVa mEn mKe mCs mAt mHd mWg mNow mImg mAsd (upd mLea x2.toNatClampNeg 0) mLat mBst (upd mRsk x2.toNatClampNeg r_21) mTap mKys mKat mCod mWts mTes w_22 w_23 mSor mSiz mCel mHol mHoA mHoB mHoC mMov mTel) H := hP
        have hD : va_D A (rw_24 E mo mn mi ma ml mt mb mr mp mk mq mc mw mz ms mf mu mv mx mh mA mB mC mM mT mHI mFC mLC mCg mTp mNx mFr mTk mVa mEn mKe mCs mAt mHd mWg mNow mImg mAsd (upd mLea x2.toNatClampNeg 0) mLat mBst (upd mRsk x2.toNatClampNeg r_21) mTap mKys mKat mCod mWts mTes w_22 w_23 mSor mSiz mCel mHol mHoA mHoB mHoC mMov mTel) := hD
        refine lv_iinc (v := x2 + 1) (lv' := [(2, .int (x2 + 1)), (0, .ref mo), (1, .int p1)]) hx hb dX7_findTree_30 hl (k := 2) rfl (by rfl) (by decide) rfl (fun ls hl => ?_)
        refine lv_goto (tgt := 2) hx hb dX7_findTree_33 (by decide) ?_
        exact ih (x2 + 1) (upd mLea x2.toNatClampNeg 0) mLat mBst (upd mRsk x2.toNatClampNeg r_21) w_22 w_23 h _ _ hP hD hS ls (lv_sub hl [1, 2, 0] rfl)
  unfold wp_X7_findTree at h
  obtain ⟨H, hH⟩ : ∃ H, H = s.heap := ⟨_, rfl⟩
  obtain ⟨locs, hlocs⟩ : ∃ locs : List Loc, locs = [] := ⟨_, rfl⟩
  have hP : va_P E.1 vwCl (rw_24 E mo mn mi ma ml mt mb mr mp mk mq mc mw mz ms mf mu mv mx mh mA mB mC mM mT mHI mFC mLC mCg mTp mNx mFr mTk mVa mEn mKe mCs mAt mHd mWg mNow mImg mAsd mLea mLat mBst mRsk mTap mKys mKat mCod mWts mTes mStk mFct mSor mSiz mCel mHol mHoA mHoB mHoC mMov mTel) H := by rw [hH]; exact hP
  have hS : va_S A s.heap H locs := by rw [hH, hlocs]; exact hS
  suffices hgo : W p l e ({ frames := 3, cells := 0, slots := 0, locals := 70 } : Room) s m args below meth c H locs 0 0 QQ (F0 m 0 ls []) from by rw [hH, hlocs] at hgo; exact hgo
  refine lv_iconst (v := 0) hx hb dX7_findTree_0 (by decide) ?_
  refine lv_istore_n (lv' := [(2, .int 0), (0, .ref mo), (1, .int p1)]) hx hb dX7_findTree_1 rfl hl (by decide) rfl (fun ls hl => ?_)
  obtain ⟨n, h⟩ := h
  exact J2 n 0 mLea mLat mBst mRsk mStk mFct h _ _ hP hD hS ls (lv_sub hl [1, 2, 0] rfl)
def wp_X7_bestMinute (mNow : Nat → Int32) (mLea : Nat → Int32) (mLat : Nat → Int32) (mBst : Nat → Int32) (mRsk : Nat → Int32) (mStk : Nat → Int32) (mFct : Nat → Int32) (Q : (Nat → Int32) → (Nat → Int32) → (Nat → Int32) → (Nat → Int32) → (Nat → Int32) → (Nat → Int32) → (Nat → Int32) → Prop) : Prop :=
  (((mNow 2) < 0 → wp_X7_aMinute 2 mNow mStk mFct (fun (r_2 : Int32) (w_3 : Nat → Int32) (w_4 : Nat → Int32) (w_5 : Nat → Int32) => Q w_3 mLea mLat mBst mRsk w_4 w_5)) ∧ (¬ ((mNow 2) < 0) → wp_X7_findTree 20 mNow mLea mLat mBst mRsk mStk mFct (fun (w_6 : Nat → Int32) (w_7 : Nat → Int32) (w_8 : Nat → Int32) (w_9 : Nat → Int32) (w_10 : Nat → Int32) (w_11 : Nat → Int32) => (vp_in (mNow 2) 24 ∧ wp_X7_aMinute (w_8 ((mNow 2).toNatClampNeg)) mNow w_10 w_11 (fun (r_13 : Int32) (w_14 : Nat → Int32) (w_15 : Nat → Int32) (w_16 : Nat → Int32) => Q w_14 w_6 w_7 w_8 w_9 w_15 w_16)))))
set_option maxHeartbeats 4000000 in
set_option maxRecDepth 100000 in
theorem c_X7_bestMinute (l : Launch) (E : gE) (mo mn mi ma ml mt mb mr mp mk mq mc mw mz ms mf mu mv mx mh mA mB mC mM mT : Nat) (sz : Nat) (mHI : Int32) (mFC : Int32) (mLC : Int32) (mCg : Int32) (mTp : Int32) (mNx : Int32) (mFr : Int32) (mTk : Int32) (mVa : Int32) (mEn : Int32) (mKe : Int32) (mCs : Int32) (mAt : Int32) (mHd : Int32) (mWg : Int32) (mNow : Nat → Int32) (mImg : Nat → Int32) (mAsd : Nat → Int32) (mLea : Nat → Int32) (mLat : Nat → Int32) (mBst : Nat → Int32) (mRsk : Nat → Int32) (mTap : Nat → Int32) (mKys : Nat → Int32) (mKat : Nat → Int32) (mCod : Nat → Int32) (mWts : Nat → Int32) (mTes : Nat → Int32) (mStk : Nat → Int32) (mFct : Nat → Int32) (mSor : Nat → Int32) (mSiz : Nat → Int32) (mCel : Nat → Int32) (mHol : Nat → Int32) (mHoA : Nat → Int32) (mHoB : Nat → Int32) (mHoC : Nat → Int32) (mMov : Nat → Int32) (mTel : Nat → Int32)   (Q : (Nat → Int32) → (Nat → Int32) → (Nat → Int32) → (Nat → Int32) → (Nat → Int32) → (Nat → Int32) → (Nat → Int32) → Prop) (h : wp_X7_bestMinute mNow mLea mLat mBst mRsk mStk mFct Q) : Met l yX7_bestMinute wsX7_bestMinute ({ frames := 4, cells := 0, slots := 0, locals := 98 } : Room) (va_Pc [.ref mo] (rc_B E (rw_24 E mo mn mi ma ml mt mb mr mp mk mq mc mw mz ms mf mu mv mx mh mA mB mC mM mT mHI mFC mLC mCg mTp mNx mFr mTk mVa mEn mKe mCs mAt mHd mWg mNow mImg mAsd mLea mLat mBst mRsk mTap mKys mKat mCod mWts mTes mStk mFct mSor mSiz mCel mHol mHoA mHoB mHoC mMov mTel) sz)) (va_Qv (S := (Nat → Int32) × (Nat → Int32) × (Nat → Int32) × (Nat → Int32) × (Nat → Int32) × (Nat → Int32) × (Nat → Int32)) (fun (u : (Nat → Int32) × (Nat → Int32) × (Nat → Int32) × (Nat → Int32) × (Nat → Int32) × (Nat → Int32) × (Nat → Int32)) => Q u.1 u.2.1 u.2.2.1 u.2.2.2.1 u.2.2.2.2.1 u.2.2.2.2.2.1 u.2.2.2.2.2.2) (fun u t => rc_C E (va_A (rw_24 E mo mn mi ma ml mt mb mr mp mk mq mc mw mz ms mf mu mv mx mh mA mB mC mM mT mHI mFC mLC mCg mTp mNx mFr mTk mVa mEn mKe mCs mAt mHd mWg mNow mImg mAsd mLea mLat mBst mRsk mTap mKys mKat mCod mWts mTes mStk mFct mSor mSiz mCel mHol mHoA mHoB mHoC mMov mTel) sz) (rw_24 E mo mn mi ma ml mt mb mr mp mk mq mc mw mz ms mf mu mv mx mh mA mB mC mM mT mHI mFC mLC mCg mTp mNx mFr mTk mVa mEn mKe mCs mAt mHd mWg u.1 mImg mAsd u.2.1 u.2.2.1 u.2.2.2.1 u.2.2.2.2.1 mTap mKys mKat mCod mWts mTes u.2.2.2.2.2.1 u.2.2.2.2.2.2 mSor mSiz mCel mHol mHoA mHoB mHoC mMov mTel) t) (va_A (rw_24 E mo mn mi ma ml mt mb mr mp mk mq mc mw mz ms mf mu mv mx mh mA mB mC mM mT mHI mFC mLC mCg mTp mNx mFr mTk mVa mEn mKe mCs mAt mHd mWg mNow mImg mAsd mLea mLat mBst mRsk mTap mKys mKat mCod mWts mTes mStk mFct mSor mSiz mCel mHol mHoA mHoB mHoC mMov mTel) sz)) 0 0 (va_A (rw_24 E mo mn mi ma ml mt mb mr mp mk mq mc mw mz ms mf mu mv mx mh mA mB mC mM mT mHI mFC mLC mCg mTp mNx mFr mTk mVa mEn mKe mCs mAt mHd mWg mNow mImg mAsd mLea mLat mBst mRsk mTap mKys mKat mCod mWts mTes mStk mFct mSor mSiz mCel mHol mHoA mHoB mHoC mMov mTel) sz) := by
  refine rc_enterV (cc := cX7_bestMinute) (maxL := 3) (by decide) rfl (Nat.le_of_ble_eq_true rfl) ?_
  intro p e s m args below meth c QQ A hx hb hml hown hts hmn hE hP hD hA hret ls hl
  have hown : s.vm.findClass RX7 = some m.cls := hown
  have hK := hE.1
  have hS : va_S A s.heap s.heap [] := va_S.rf
  have hl : lv_has ls 3 [(0, .ref mo)] := hl
  have n_X7 : ∀ w ∈ wsX70, w ∈ wsX7_bestMinute := fun _ h => List.mem_cons_of_mem _ (List.mem_append_right _ h)
  have k_9 := hts (.fieldLink RX7 9 "RidgeClapsModel" "now" "[I") (List.mem_of_getElem? (i := 1) rfl)
  have k_25 := hts (.fieldLink RX7 25 "RidgeClapsModel" "bestStep" "[I") (List.mem_of_getElem? (i := 2) rfl)
  unfold wp_X7_bestMinute at h
  obtain ⟨H, hH⟩ : ∃ H, H = s.heap := ⟨_, rfl⟩
  obtain ⟨locs, hlocs⟩ : ∃ locs : List Loc, locs = [] := ⟨_, rfl⟩
  have hP : va_P E.1 vwCl (rw_24 E mo mn mi ma ml mt mb mr mp mk mq mc mw mz ms mf mu mv mx mh mA mB mC mM mT mHI mFC mLC mCg mTp mNx mFr mTk mVa mEn mKe mCs mAt mHd mWg mNow mImg mAsd mLea mLat mBst mRsk mTap mKys mKat mCod mWts mTes mStk mFct mSor mSiz mCel mHol mHoA mHoB mHoC mMov mTel) H := by rw [hH]; exact hP
  have hS : va_S A s.heap H locs := by rw [hH, hlocs]; exact hS
  suffices hgo : W p l e ({ frames := 4, cells := 0, slots := 0, locals := 98 } : Room) s m args below meth c H locs 0 0 QQ (F0 m 0 ls []) from by rw [hH, hlocs] at hgo; exact hgo
  refine lv_iconst (v := 2) hx hb dX7_bestMinute_0 (by decide) ?_
  refine lv_istore_n (lv' := [(1, .int 2), (0, .ref mo)]) hx hb dX7_bestMinute_1 rfl hl (by decide) rfl (fun ls hl => ?_)
  refine lv_aload_n hx hb dX7_bestMinute_2 rfl (lv_at hl 1 rfl) ?_
  refine va_get (D := E.1) (ci := 7) (v := .ref mn) (C := RX7) (T := TX7) (N := 39) hx hb hts n_X7 hown hK hP 0 rfl rfl 0 (by decide) k_9 (fun _ h9 => h9) rfl dX7_bestMinute_3 ?_
  refine lv_iconst (v := 2) hx hb dX7_bestMinute_6 (by decide) ?_
  refine rc_iald hx hb hK hP 1 0 rfl rfl 2 (by decide) (by unfold vp_in; decide) dX7_bestMinute_7 ?_
  refine lv_if_lt (tgt := 29) hx hb dX7_bestMinute_8 (by decide) (fun c_1 => ?_) (fun c_1 => ?_)
  · have h := h.1 c_1
    refine lv_aload_n hx hb dX7_bestMinute_29 rfl (lv_at hl 1 rfl) ?_
    refine lv_iload_n hx hb dX7_bestMinute_30 rfl (lv_at hl 0 rfl) ?_
    have hPc := hP
    have hDc := hD
    have hFc := rc_freeI hD hS hA
    refine va_calli (va_runV (As := [.int 2]) (rest := []) ⟨hx, hb, hml, hown, hts⟩ (c_X7_aMinute l E mo mn mi ma ml mt mb mr mp mk mq mc mw mz ms mf mu mv mx mh mA mB mC mM mT H.size mHI mFC mLC mCg mTp mNx mFr mTk mVa mEn mKe mCs mAt mHd mWg mNow mImg mAsd mLea mLat mBst mRsk mTap mKys mKat mCod mWts mTes mStk mFct mSor mSiz mCel mHol mHoA mHoB mHoC mMov mTel 2 _ h) (cwV 1 hts gX7_bestMinute_X7_aMinute rfl rfl rfl (by decide +kernel) ⟨Nat.le_of_ble_eq_true rfl, Nat.le_of_ble_eq_true rfl⟩) ⟨fun a U g mk q => ⟨q.1, q.2.blind⟩, va_recv hK hPc (ci := 7) (q0 := 0) rfl rfl, fun U hU hW => ⟨rfl, by rw [hU], by rw [hU]; exact hPc, hE.call hS hFc hW hU, hDc.weaken (fun _ _ _ _ => trivial)⟩⟩ rfl rfl hl.1 rfl (lv_room (Nat.le_of_ble_eq_true rfl)) dX7_bestMinute_31 ⟨Nat.zero_le _, Nat.zero_le _⟩) hS (fun q _ h => hFc q h) hFc (fun r_2 u t H1 locs ht hvm h hB hz1 hk1 hS => ?_)
    obtain ⟨w_3, w_4, w_5⟩ := u
    obtain ⟨hP1, hD1⟩ := hB
    rw [ht] at hP1
    have hP := hP1
    have hD := hD1.weaken (fun _ _ _ h => hFc _ h)
    generalize H1 = H at hP hS ⊢
    have hP : va_P E.1 vwCl (rw_24 E mo mn mi ma ml mt mb mr mp mk mq mc mw mz ms mf mu mv mx mh mA mB mC mM mT mHI mFC mLC mCg mTp mNx mFr mTk mVa mEn mKe mCs mAt mHd mWg w_3 mImg mAsd mLea mLat mBst mRsk mTap mKys mKat mCod mWts mTes w_4 w_5 mSor mSiz mCel mHol mHoA mHoB mHoC mMov mTel) H := hP
    have hD : va_D A (rw_24 E mo mn mi ma ml mt mb mr mp mk mq mc mw mz ms mf mu mv mx mh mA mB mC mM mT mHI mFC mLC mCg mTp mNx mFr mTk mVa mEn mKe mCs mAt mHd mWg w_3 mImg mAsd mLea mLat mBst mRsk mTap mKys mKat mCod mWts mTes w_4 w_5 mSor mSiz mCel mHol mHoA mHoB mHoC mMov mTel) := hD
    refine lv_istore_n (lv' := [(2, .int r_2), (1, .int 2), (0, .ref mo)]) hx hb dX7_bestMinute_34 rfl hl (by decide) rfl (fun ls hl => ?_)
    exact hret _ _ _ _ (w_3, mLea, mLat, mBst, mRsk, w_4, w_5) h hP hD hS dX7_bestMinute_35
  · have h := h.2 c_1
    refine lv_aload_n hx hb dX7_bestMinute_11 rfl (lv_at hl 1 rfl) ?_
    refine lv_bipush (v := 20) hx hb dX7_bestMinute_12 (by decide) ?_
    have hPc := hP
    have hDc := hD
    have hFc := rc_freeI hD hS hA
    refine va_callv (va_runV (As := [.int 20]) (rest := []) ⟨hx, hb, hml, hown, hts⟩ (c_X7_findTree l E mo mn mi ma ml mt mb mr mp mk mq mc mw mz ms mf mu mv mx mh mA mB mC mM mT H.size mHI mFC mLC mCg mTp mNx mFr mTk mVa mEn mKe mCs mAt mHd mWg mNow mImg mAsd mLea mLat mBst mRsk mTap mKys mKat mCod mWts mTes mStk mFct mSor mSiz mCel mHol mHoA mHoB mHoC mMov mTel 20 _ h) (cwV 1 hts gX7_bestMinute_X7_findTree rfl rfl rfl (by decide +kernel) ⟨Nat.le_of_ble_eq_true rfl, Nat.le_of_ble_eq_true rfl⟩) ⟨fun a U g mk q => ⟨q.1, q.2.blind⟩, va_recv hK hPc (ci := 7) (q0 := 0) rfl rfl, fun U hU hW => ⟨rfl, by rw [hU], by rw [hU]; exact hPc, hE.call hS hFc hW hU, hDc.weaken (fun _ _ _ _ => trivial)⟩⟩ rfl rfl hl.1 rfl (lv_room (Nat.le_of_ble_eq_true rfl)) dX7_bestMinute_14 ⟨Nat.zero_le _, Nat.zero_le _⟩) hS (fun q _ h => hFc q h) hFc (fun u t H1 locs ht hvm h hB hz1 hk1 hS => ?_)
    obtain ⟨w_6, w_7, w_8, w_9, w_10, w_11⟩ := u
    obtain ⟨hP1, hD1⟩ := hB
    rw [ht] at hP1
    have hP := hP1
    have hD := hD1.weaken (fun _ _ _ h => hFc _ h)
    generalize H1 = H at hP hS ⊢
    have hP : va_P E.1 vwCl (rw_24 E mo mn mi ma ml mt mb mr mp mk mq mc mw mz ms mf mu mv mx mh mA mB mC mM mT mHI mFC mLC mCg mTp mNx mFr mTk mVa mEn mKe mCs mAt mHd mWg mNow mImg mAsd w_6 w_7 w_8 w_9 mTap mKys mKat mCod mWts mTes w_10 w_11 mSor mSiz mCel mHol mHoA mHoB mHoC mMov mTel) H := hP
    have hD : va_D A (rw_24 E mo mn mi ma ml mt mb mr mp mk mq mc mw mz ms mf mu mv mx mh mA mB mC mM mT mHI mFC mLC mCg mTp mNx mFr mTk mVa mEn mKe mCs mAt mHd mWg mNow mImg mAsd w_6 w_7 w_8 w_9 mTap mKys mKat mCod mWts mTes w_10 w_11 mSor mSiz mCel mHol mHoA mHoB mHoC mMov mTel) := hD
    refine lv_aload_n hx hb dX7_bestMinute_17 rfl (lv_at hl 1 rfl) ?_
    refine va_get (D := E.1) (ci := 7) (v := .ref mb) (C := RX7) (T := TX7) (N := 39) hx hb hts n_X7 hown hK hP 0 rfl rfl 6 (by decide) k_25 (fun _ h9 => h9) rfl dX7_bestMinute_18 ?_
    refine lv_aload_n hx hb dX7_bestMinute_21 rfl (lv_at hl 1 rfl) ?_
    refine va_get (D := E.1) (ci := 7) (v := .ref mn) (C := RX7) (T := TX7) (N := 39) hx hb hts n_X7 hown hK hP 0 rfl rfl 0 (by decide) k_9 (fun _ h9 => h9) rfl dX7_bestMinute_22 ?_
    refine lv_iconst (v := 2) hx hb dX7_bestMinute_25 (by decide) ?_
    refine rc_iald hx hb hK hP 1 0 rfl rfl 2 (by decide) (by unfold vp_in; decide) dX7_bestMinute_26 ?_
    obtain ⟨o_12, h⟩ := h
    refine rc_iald hx hb hK hP 6 0 rfl rfl ((mNow 2).toNatClampNeg) rfl o_12 dX7_bestMinute_27 ?_
    refine lv_istore_n (lv' := [(1, .int (w_8 ((mNow 2).toNatClampNeg))), (0, .ref mo)]) hx hb dX7_bestMinute_28 rfl hl (by decide) rfl (fun ls hl => ?_)
    refine lv_aload_n hx hb dX7_bestMinute_29 rfl (lv_at hl 1 rfl) ?_
    refine lv_iload_n hx hb dX7_bestMinute_30 rfl (lv_at hl 0 rfl) ?_
    have hPc := hP
    have hDc := hD
    have hFc := rc_freeI hD hS hA
    refine va_calli (va_runV (As := [.int (w_8 ((mNow 2).toNatClampNeg))]) (rest := []) ⟨hx, hb, hml, hown, hts⟩ (c_X7_aMinute l E mo mn mi ma ml mt mb mr mp mk mq mc mw mz ms mf mu mv mx mh mA mB mC mM mT H.size mHI mFC mLC mCg mTp mNx mFr mTk mVa mEn mKe mCs mAt mHd mWg mNow mImg mAsd w_6 w_7 w_8 w_9 mTap mKys mKat mCod mWts mTes w_10 w_11 mSor mSiz mCel mHol mHoA mHoB mHoC mMov mTel (w_8 ((mNow 2).toNatClampNeg)) _ h) (cwV 1 hts gX7_bestMinute_X7_aMinute rfl rfl rfl (by decide +kernel) ⟨Nat.le_of_ble_eq_true rfl, Nat.le_of_ble_eq_true rfl⟩) ⟨fun a U g mk q => ⟨q.1, q.2.blind⟩, va_recv hK hPc (ci := 7) (q0 := 0) rfl rfl, fun U hU hW => ⟨rfl, by rw [hU], by rw [hU]; exact hPc, hE.call hS hFc hW hU, hDc.weaken (fun _ _ _ _ => trivial)⟩⟩ rfl rfl hl.1 rfl (lv_room (Nat.le_of_ble_eq_true rfl)) dX7_bestMinute_31 ⟨Nat.zero_le _, Nat.zero_le _⟩) hS (fun q _ h => hFc q h) hFc (fun r_13 u t H1 locs ht hvm h hB hz1 hk1 hS => ?_)
    obtain ⟨w_14, w_15, w_16⟩ := u
    obtain ⟨hP1, hD1⟩ := hB
    rw [ht] at hP1
    have hP := hP1
    have hD := hD1.weaken (fun _ _ _ h => hFc _ h)
    generalize H1 = H at hP hS ⊢
    have hP : va_P E.1 vwCl (rw_24 E mo mn mi ma ml mt mb mr mp mk mq mc mw mz ms mf mu mv mx mh mA mB mC mM mT mHI mFC mLC mCg mTp mNx mFr mTk mVa mEn mKe mCs mAt mHd mWg w_14 mImg mAsd w_6 w_7 w_8 w_9 mTap mKys mKat mCod mWts mTes w_15 w_16 mSor mSiz mCel mHol mHoA mHoB mHoC mMov mTel) H := hP
    have hD : va_D A (rw_24 E mo mn mi ma ml mt mb mr mp mk mq mc mw mz ms mf mu mv mx mh mA mB mC mM mT mHI mFC mLC mCg mTp mNx mFr mTk mVa mEn mKe mCs mAt mHd mWg w_14 mImg mAsd w_6 w_7 w_8 w_9 mTap mKys mKat mCod mWts mTes w_15 w_16 mSor mSiz mCel mHol mHoA mHoB mHoC mMov mTel) := hD
    refine lv_istore_n (lv' := [(2, .int r_13), (1, .int (w_8 ((mNow 2).toNatClampNeg))), (0, .ref mo)]) hx hb dX7_bestMinute_34 rfl hl (by decide) rfl (fun ls hl => ?_)
    exact hret _ _ _ _ (w_14, w_6, w_7, w_8, w_9, w_15, w_16) h hP hD hS dX7_bestMinute_35
def lp_X7_run_15F (p1 : Int32)  (Q : Int32 → (Nat → Int32) → (Nat → Int32) → (Nat → Int32) → (Nat → Int32) → (Nat → Int32) → (Nat → Int32) → (Nat → Int32) → Prop) (R : Int32 → (Nat → Int32) → (Nat → Int32) → (Nat → Int32) → (Nat → Int32) → (Nat → Int32) → (Nat → Int32) → (Nat → Int32) → Prop) (x2 : Int32) (mNow : Nat → Int32) (mLea : Nat → Int32) (mLat : Nat → Int32) (mBst : Nat → Int32) (mRsk : Nat → Int32) (mStk : Nat → Int32) (mFct : Nat → Int32) : Prop :=
  ((p1 ≤ x2 → Q x2 mNow mLea mLat mBst mRsk mStk mFct) ∧ (¬ (p1 ≤ x2) → ((9999 ≤ (mNow 3) → Q x2 mNow mLea mLat mBst mRsk mStk mFct) ∧ (¬ (9999 ≤ (mNow 3)) → wp_X7_bestMinute mNow mLea mLat mBst mRsk mStk mFct (fun (w_3 : Nat → Int32) (w_4 : Nat → Int32) (w_5 : Nat → Int32) (w_6 : Nat → Int32) (w_7 : Nat → Int32) (w_8 : Nat → Int32) (w_9 : Nat → Int32) => R (x2 + 1) w_3 w_4 w_5 w_6 w_7 w_8 w_9)))))
def lp_X7_run_15 (p1 : Int32)  (Q : Int32 → (Nat → Int32) → (Nat → Int32) → (Nat → Int32) → (Nat → Int32) → (Nat → Int32) → (Nat → Int32) → (Nat → Int32) → Prop) (n : Nat) : Int32 → (Nat → Int32) → (Nat → Int32) → (Nat → Int32) → (Nat → Int32) → (Nat → Int32) → (Nat → Int32) → (Nat → Int32) → Prop :=
  Nat.rec (motive := fun _ => Int32 → (Nat → Int32) → (Nat → Int32) → (Nat → Int32) → (Nat → Int32) → (Nat → Int32) → (Nat → Int32) → (Nat → Int32) → Prop) (fun _ _ _ _ _ _ _ _ => False) (fun _ r => lp_X7_run_15F p1 Q r) n
def wp_X7_run (p1 : Int32) (mNow : Nat → Int32) (mLea : Nat → Int32) (mLat : Nat → Int32) (mBst : Nat → Int32) (mRsk : Nat → Int32) (mStk : Nat → Int32) (mFct : Nat → Int32) (Q : Int32 → (Nat → Int32) → (Nat → Int32) → (Nat → Int32) → (Nat → Int32) → (Nat → Int32) → (Nat → Int32) → (Nat → Int32) → Prop) : Prop :=
  wp_X7_in p1 1 60 (fun (r_10 : Int32) => ((¬ r_10 = 0 → (∃ n : Nat, lp_X7_run_15 p1 Q n 0 mNow mLea mLat mBst mRsk mStk mFct)) ∧ (r_10 = 0 → Q (-1000000001) mNow mLea mLat mBst mRsk mStk mFct)))
set_option maxHeartbeats 4000000 in
set_option maxRecDepth 100000 in
theorem c_X7_run (l : Launch) (E : gE) (mo mn mi ma ml mt mb mr mp mk mq mc mw mz ms mf mu mv mx mh mA mB mC mM mT : Nat) (sz : Nat) (mHI : Int32) (mFC : Int32) (mLC : Int32) (mCg : Int32) (mTp : Int32) (mNx : Int32) (mFr : Int32) (mTk : Int32) (mVa : Int32) (mEn : Int32) (mKe : Int32) (mCs : Int32) (mAt : Int32) (mHd : Int32) (mWg : Int32) (mNow : Nat → Int32) (mImg : Nat → Int32) (mAsd : Nat → Int32) (mLea : Nat → Int32) (mLat : Nat → Int32) (mBst : Nat → Int32) (mRsk : Nat → Int32) (mTap : Nat → Int32) (mKys : Nat → Int32) (mKat : Nat → Int32) (mCod : Nat → Int32) (mWts : Nat → Int32) (mTes : Nat → Int32) (mStk : Nat → Int32) (mFct : Nat → Int32) (mSor : Nat → Int32) (mSiz : Nat → Int32) (mCel : Nat → Int32) (mHol : Nat → Int32) (mHoA : Nat → Int32) (mHoB : Nat → Int32) (mHoC : Nat → Int32) (mMov : Nat → Int32) (mTel : Nat → Int32) (p1 : Int32)  (Q : Int32 → (Nat → Int32) → (Nat → Int32) → (Nat → Int32) → (Nat → Int32) → (Nat → Int32) → (Nat → Int32) → (Nat → Int32) → Prop) (h : wp_X7_run p1 mNow mLea mLat mBst mRsk mStk mFct Q) : Met l yX7_run wsX7_run ({ frames := 5, cells := 0, slots := 0, locals := 120 } : Room) (va_Pc [.ref mo, .int p1] (rc_B E (rw_24 E mo mn mi ma ml mt mb mr mp mk mq mc mw mz ms mf mu mv mx mh mA mB mC mM mT mHI mFC mLC mCg mTp mNx mFr mTk mVa mEn mKe mCs mAt mHd mWg mNow mImg mAsd mLea mLat mBst mRsk mTap mKys mKat mCod mWts mTes mStk mFct mSor mSiz mCel mHol mHoA mHoB mHoC mMov mTel) sz)) (va_Qi (S := (Nat → Int32) × (Nat → Int32) × (Nat → Int32) × (Nat → Int32) × (Nat → Int32) × (Nat → Int32) × (Nat → Int32)) (fun (r : Int32) (u : (Nat → Int32) × (Nat → Int32) × (Nat → Int32) × (Nat → Int32) × (Nat → Int32) × (Nat → Int32) × (Nat → Int32)) => Q r u.1 u.2.1 u.2.2.1 u.2.2.2.1 u.2.2.2.2.1 u.2.2.2.2.2.1 u.2.2.2.2.2.2) (fun u t => rc_C E (va_A (rw_24 E mo mn mi ma ml mt mb mr mp mk mq mc mw mz ms mf mu mv mx mh mA mB mC mM mT mHI mFC mLC mCg mTp mNx mFr mTk mVa mEn mKe mCs mAt mHd mWg mNow mImg mAsd mLea mLat mBst mRsk mTap mKys mKat mCod mWts mTes mStk mFct mSor mSiz mCel mHol mHoA mHoB mHoC mMov mTel) sz) (rw_24 E mo mn mi ma ml mt mb mr mp mk mq mc mw mz ms mf mu mv mx mh mA mB mC mM mT mHI mFC mLC mCg mTp mNx mFr mTk mVa mEn mKe mCs mAt mHd mWg u.1 mImg mAsd u.2.1 u.2.2.1 u.2.2.2.1 u.2.2.2.2.1 mTap mKys mKat mCod mWts mTes u.2.2.2.2.2.1 u.2.2.2.2.2.2 mSor mSiz mCel mHol mHoA mHoB mHoC mMov mTel) t) (va_A (rw_24 E mo mn mi ma ml mt mb mr mp mk mq mc mw mz ms mf mu mv mx mh mA mB mC mM mT mHI mFC mLC mCg mTp mNx mFr mTk mVa mEn mKe mCs mAt mHd mWg mNow mImg mAsd mLea mLat mBst mRsk mTap mKys mKat mCod mWts mTes mStk mFct mSor mSiz mCel mHol mHoA mHoB mHoC mMov mTel) sz)) 0 0 (va_A (rw_24 E mo mn mi ma ml mt mb mr mp mk mq mc mw mz ms mf mu mv mx mh mA mB mC mM mT mHI mFC mLC mCg mTp mNx mFr mTk mVa mEn mKe mCs mAt mHd mWg mNow mImg mAsd mLea mLat mBst mRsk mTap mKys mKat mCod mWts mTes mStk mFct mSor mSiz mCel mHol mHoA mHoB mHoC mMov mTel) sz) := by
  refine rc_enterI (cc := cX7_run) (maxL := 3) (by decide) rfl (Nat.le_of_ble_eq_true rfl) ?_
  intro p e s m args below meth c QQ A hx hb hml hown hts hmn hE hP hD hA hret ls hl
  have hown : s.vm.findClass RX7 = some m.cls := hown
  have hK := hE.1
  have hS : va_S A s.heap s.heap [] := va_S.rf
  have hl : lv_has ls 3 [(0, .ref mo), (1, .int p1)] := hl
  have n_X7 : ∀ w ∈ wsX70, w ∈ wsX7_run := fun _ h => List.mem_cons_of_mem _ (List.mem_append_right _ h)
  have k_9 := hts (.fieldLink RX7 9 "RidgeClapsModel" "now" "[I") (List.mem_of_getElem? (i := 2) rfl)
  have k_89 := hts (.constant RX7 89 (-1000000001)) (List.mem_of_getElem? (i := 1) rfl)
  have J15 : ∀ (n : Nat) (x2 : Int32) (mNow : Nat → Int32) (mLea : Nat → Int32) (mLat : Nat → Int32) (mBst : Nat → Int32) (mRsk : Nat → Int32) (mStk : Nat → Int32) (mFct : Nat → Int32), lp_X7_run_15 p1 Q n x2 mNow mLea mLat mBst mRsk mStk mFct → ∀ (H : Heap) (locs : List Loc), va_P E.1 vwCl (rw_24 E mo mn mi ma ml mt mb mr mp mk mq mc mw mz ms mf mu mv mx mh mA mB mC mM mT mHI mFC mLC mCg mTp mNx mFr mTk mVa mEn mKe mCs mAt mHd mWg mNow mImg mAsd mLea mLat mBst mRsk mTap mKys mKat mCod mWts mTes mStk mFct mSor mSiz mCel mHol mHoA mHoB mHoC mMov mTel) H → va_D A (rw_24 E mo mn mi ma ml mt mb mr mp mk mq mc mw mz ms mf mu mv mx mh mA mB mC mM mT mHI mFC mLC mCg mTp mNx mFr mTk mVa mEn mKe mCs mAt mHd mWg mNow mImg mAsd mLea mLat mBst mRsk mTap mKys mKat mCod mWts mTes mStk mFct mSor mSiz mCel mHol mHoA mHoB mHoC mMov mTel) → va_S A s.heap H locs → ∀ ls : Array Slot, lv_has ls 3 [(0, .ref mo), (1, .int p1), (2, .int x2)] → W p l e ({ frames := 5, cells := 0, slots := 0, locals := 120 } : Room) s m args below meth c H locs 0 0 QQ (F0 m 15 ls []) := by
    intro n
    induction n with
    | zero =>
      intro x2 mNow mLea mLat mBst mRsk mStk mFct h
      exact False.elim h
    | succ n ih =>
      intro x2 mNow mLea mLat mBst mRsk mStk mFct h H locs hP hD hS ls hl
      have h : lp_X7_run_15F p1 Q (lp_X7_run_15 p1 Q n) x2 mNow mLea mLat mBst mRsk mStk mFct := h
      unfold lp_X7_run_15F at h
      refine lv_iload_n hx hb dX7_run_15 rfl (lv_at hl 2 rfl) ?_
      refine lv_iload_n hx hb dX7_run_16 rfl (lv_at hl 1 rfl) ?_
      refine lv_icmp_ge (tgt := 42) hx hb dX7_run_17 (by decide) (fun c_1 => ?_) (fun c_1 => ?_)
      · have h := h.1 c_1
        refine lv_iload_n hx hb dX7_run_42 rfl (lv_at hl 2 rfl) ?_
        exact hret _ _ _ _ x2 (mNow, mLea, mLat, mBst, mRsk, mStk, mFct) rfl h hP hD hS dX7_run_43
      · have h := h.2 c_1
        refine lv_aload_n hx hb dX7_run_20 rfl (lv_at hl 0 rfl) ?_
        refine va_get (D := E.1) (ci := 7) (v := .ref mn) (C := RX7) (T := TX7) (N := 39) hx hb hts n_X7 hown hK hP 0 rfl rfl 0 (by decide) k_9 (fun _ h9 => h9) rfl dX7_run_21 ?_
        refine lv_iconst (v := 3) hx hb dX7_run_24 (by decide) ?_
        refine rc_iald hx hb hK hP 1 0 rfl rfl 3 (by decide) (by unfold vp_in; decide) dX7_run_25 ?_
        refine lv_sipush (v := 9999) hx hb dX7_run_26 (by decide) ?_
        refine lv_icmp_ge (tgt := 42) hx hb dX7_run_29 (by decide) (fun c_2 => ?_) (fun c_2 => ?_)
        · have h := h.1 c_2
          refine lv_iload_n hx hb dX7_run_42 rfl (lv_at hl 2 rfl) ?_
          exact hret _ _ _ _ x2 (mNow, mLea, mLat, mBst, mRsk, mStk, mFct) rfl h hP hD hS dX7_run_43
        · have h := h.2 c_2
          refine lv_aload_n hx hb dX7_run_32 rfl (lv_at hl 0 rfl) ?_
          have hPc := hP
          have hDc := hD
          have hFc := rc_freeI hD hS hA
          refine va_callv (va_runV (As := []) (rest := []) ⟨hx, hb, hml, hown, hts⟩ (c_X7_bestMinute l E mo mn mi ma ml mt mb mr mp mk mq mc mw mz ms mf mu mv mx mh mA mB mC mM mT H.size mHI mFC mLC mCg mTp mNx mFr mTk mVa mEn mKe mCs mAt mHd mWg mNow mImg mAsd mLea mLat mBst mRsk mTap mKys mKat mCod mWts mTes mStk mFct mSor mSiz mCel mHol mHoA mHoB mHoC mMov mTel _ h) (cwV 0 hts gX7_run_X7_bestMinute rfl rfl rfl (by decide +kernel) ⟨Nat.le_of_ble_eq_true rfl, Nat.le_of_ble_eq_true rfl⟩) ⟨fun a U g mk q => ⟨q.1, q.2.blind⟩, va_recv hK hPc (ci := 7) (q0 := 0) rfl rfl, fun U hU hW => ⟨rfl, by rw [hU], by rw [hU]; exact hPc, hE.call hS hFc hW hU, hDc.weaken (fun _ _ _ _ => trivial)⟩⟩ rfl rfl hl.1 rfl (lv_room (Nat.le_of_ble_eq_true rfl)) dX7_run_33 ⟨Nat.zero_le _, Nat.zero_le _⟩) hS (fun q _ h => hFc q h) hFc (fun u t H1 locs ht hvm h hB hz1 hk1 hS => ?_)
          obtain ⟨w_3, w_4, w_5, w_6, w_7, w_8, w_9⟩ := u
          obtain ⟨hP1, hD1⟩ := hB
          rw [ht] at hP1
          have hP := hP1
          have hD := hD1.weaken (fun _ _ _ h => hFc _ h)
          generalize H1 = H at hP hS ⊢
          have hP : va_P E.1 vwCl (rw_24 E mo mn mi ma ml mt mb mr mp mk mq mc mw mz ms mf mu mv mx mh mA mB mC mM mT mHI mFC mLC mCg mTp mNx mFr mTk mVa mEn mKe mCs mAt mHd mWg w_3 mImg mAsd w_4 w_5 w_6 w_7 mTap mKys mKat mCod mWts mTes w_8 w_9 mSor mSiz mCel mHol mHoA mHoB mHoC mMov mTel) H := hP
          have hD : va_D A (rw_24 E mo mn mi ma ml mt mb mr mp mk mq mc mw mz ms mf mu mv mx mh mA mB mC mM mT mHI mFC mLC mCg mTp mNx mFr mTk mVa mEn mKe mCs mAt mHd mWg w_3 mImg mAsd w_4 w_5 w_6 w_7 mTap mKys mKat mCod mWts mTes w_8 w_9 mSor mSiz mCel mHol mHoA mHoB mHoC mMov mTel) := hD
          refine lv_iinc (v := x2 + 1) (lv' := [(2, .int (x2 + 1)), (0, .ref mo), (1, .int p1)]) hx hb dX7_run_36 hl (k := 2) rfl (by rfl) (by decide) rfl (fun ls hl => ?_)
          refine lv_goto (tgt := 15) hx hb dX7_run_39 (by decide) ?_
          exact ih (x2 + 1) w_3 w_4 w_5 w_6 w_7 w_8 w_9 h _ _ hP hD hS ls (lv_sub hl [1, 2, 0] rfl)
  unfold wp_X7_run at h
  obtain ⟨H, hH⟩ : ∃ H, H = s.heap := ⟨_, rfl⟩
  obtain ⟨locs, hlocs⟩ : ∃ locs : List Loc, locs = [] := ⟨_, rfl⟩
  have hP : va_P E.1 vwCl (rw_24 E mo mn mi ma ml mt mb mr mp mk mq mc mw mz ms mf mu mv mx mh mA mB mC mM mT mHI mFC mLC mCg mTp mNx mFr mTk mVa mEn mKe mCs mAt mHd mWg mNow mImg mAsd mLea mLat mBst mRsk mTap mKys mKat mCod mWts mTes mStk mFct mSor mSiz mCel mHol mHoA mHoB mHoC mMov mTel) H := by rw [hH]; exact hP
  have hS : va_S A s.heap H locs := by rw [hH, hlocs]; exact hS
  suffices hgo : W p l e ({ frames := 5, cells := 0, slots := 0, locals := 120 } : Room) s m args below meth c H locs 0 0 QQ (F0 m 0 ls []) from by rw [hH, hlocs] at hgo; exact hgo
  refine lv_iload_n hx hb dX7_run_0 rfl (lv_at hl 1 rfl) ?_
  refine lv_iconst (v := 1) hx hb dX7_run_1 (by decide) ?_
  refine lv_bipush (v := 60) hx hb dX7_run_2 (by decide) ?_
  have hPc := hP.sub (ws' := []) [] rfl
  have hDc := hD.sub (ws' := []) [] (by decide) rfl
  have hFc := va_free (wc := []) hD hS hA [] rfl
  refine va_calli (va_runS (As := [.int p1, .int 1, .int 60]) (rest := []) ⟨hx, hb, hml, hown, hts⟩ (c_X7_in l E H.size p1 1 60 _ h) (va_cwS 3 hts gX7_run_X7_in rfl rfl rfl (by decide +kernel) ⟨Nat.le_of_ble_eq_true rfl, Nat.le_of_ble_eq_true rfl⟩) ⟨fun a U g mk q => ⟨q.1, q.2.blind⟩, fun U hU hW => ⟨rfl, by rw [hU], by rw [hU]; exact hPc, hE.call hS hFc hW hU, hDc.weaken (fun _ _ _ _ => trivial)⟩⟩ rfl rfl hl.1 rfl (lv_room (Nat.le_of_ble_eq_true rfl)) dX7_run_4 ⟨Nat.zero_le _, Nat.zero_le _⟩) hS (fun q _ h => hFc q h) hFc (fun r_10 u t H1 locs ht hvm h hB hz1 hk1 hS => ?_)
  obtain ⟨hP1, hD1⟩ := hB
  rw [ht] at hP1
  obtain ⟨hP, hD⟩ := rc_foc hP hD [] [none, none, none, none, none, none, none, none, none, none, none, none, none, none, none, none, none, none, none, none, none, none, none, none, none] (by decide) rfl hk1 hP1 rfl
  generalize H1 = H at hP hS ⊢
  have hP : va_P E.1 vwCl (rw_24 E mo mn mi ma ml mt mb mr mp mk mq mc mw mz ms mf mu mv mx mh mA mB mC mM mT mHI mFC mLC mCg mTp mNx mFr mTk mVa mEn mKe mCs mAt mHd mWg mNow mImg mAsd mLea mLat mBst mRsk mTap mKys mKat mCod mWts mTes mStk mFct mSor mSiz mCel mHol mHoA mHoB mHoC mMov mTel) H := hP
  have hD : va_D A (rw_24 E mo mn mi ma ml mt mb mr mp mk mq mc mw mz ms mf mu mv mx mh mA mB mC mM mT mHI mFC mLC mCg mTp mNx mFr mTk mVa mEn mKe mCs mAt mHd mWg mNow mImg mAsd mLea mLat mBst mRsk mTap mKys mKat mCod mWts mTes mStk mFct mSor mSiz mCel mHol mHoA mHoB mHoC mMov mTel) := hD
  refine lv_if_ne (tgt := 13) hx hb dX7_run_7 (by decide) (fun c_11 => ?_) (fun c_11 => ?_)
  · have h := h.1 c_11
    refine lv_iconst (v := 0) hx hb dX7_run_13 (by decide) ?_
    refine lv_istore_n (lv' := [(2, .int 0), (0, .ref mo), (1, .int p1)]) hx hb dX7_run_14 rfl hl (by decide) rfl (fun ls hl => ?_)
    obtain ⟨n, h⟩ := h
    exact J15 n 0 mNow mLea mLat mBst mRsk mStk mFct h _ _ hP hD hS ls (lv_sub hl [1, 2, 0] rfl)
  · have h := h.2 c_11
    refine lv_ldc hx hb hown k_89 dX7_run_10 ?_
    exact hret _ _ _ _ (-1000000001) (mNow, mLea, mLat, mBst, mRsk, mStk, mFct) rfl h hP hD hS dX7_run_12
def wp_X7_tree (p1 : Int32) (p2 : Int32) (p3 : Int32) (mNow : Nat → Int32) (mLea : Nat → Int32) (mLat : Nat → Int32) (mBst : Nat → Int32) (mRsk : Nat → Int32) (mStk : Nat → Int32) (mFct : Nat → Int32) (Q : Int32 → (Nat → Int32) → (Nat → Int32) → (Nat → Int32) → (Nat → Int32) → (Nat → Int32) → (Nat → Int32) → Prop) : Prop :=
  wp_X7_isPlace p1 mNow (fun (r_1 : Int32) => ((r_1 = 0 → Q (-1000000001) mLea mLat mBst mRsk mStk mFct) ∧ (¬ (r_1 = 0) → wp_X7_in p2 1 60 (fun (r_3 : Int32) => ((r_3 = 0 → Q (-1000000001) mLea mLat mBst mRsk mStk mFct) ∧ (¬ (r_3 = 0) → wp_X7_in p3 0 1 (fun (r_5 : Int32) => ((¬ r_5 = 0 → wp_X7_findTree p2 mNow mLea mLat mBst mRsk mStk mFct (fun (w_7 : Nat → Int32) (w_8 : Nat → Int32) (w_9 : Nat → Int32) (w_10 : Nat → Int32) (w_11 : Nat → Int32) (w_12 : Nat → Int32) => ((¬ p3 = 0 → (vp_in p1 24 ∧ Q (w_9 p1.toNatClampNeg) w_7 w_8 w_9 w_10 w_11 w_12)) ∧ (p3 = 0 → (vp_in p1 24 ∧ Q (w_7 p1.toNatClampNeg) w_7 w_8 w_9 w_10 w_11 w_12))))) ∧ (r_5 = 0 → Q (-1000000001) mLea mLat mBst mRsk mStk mFct)))))))))
set_option maxHeartbeats 4000000 in
set_option maxRecDepth 100000 in
theorem c_X7_tree (l : Launch) (E : gE) (mo mn mi ma ml mt mb mr mp mk mq mc mw mz ms mf mu mv mx mh mA mB mC mM mT : Nat) (sz : Nat) (mHI : Int32) (mFC : Int32) (mLC : Int32) (mCg : Int32) (mTp : Int32) (mNx : Int32) (mFr : Int32) (mTk : Int32) (mVa : Int32) (mEn : Int32) (mKe : Int32) (mCs : Int32) (mAt : Int32) (mHd : Int32) (mWg : Int32) (mNow : Nat → Int32) (mImg : Nat → Int32) (mAsd : Nat → Int32) (mLea : Nat → Int32) (mLat : Nat → Int32) (mBst : Nat → Int32) (mRsk : Nat → Int32) (mTap : Nat → Int32) (mKys : Nat → Int32) (mKat : Nat → Int32) (mCod : Nat → Int32) (mWts : Nat → Int32) (mTes : Nat → Int32) (mStk : Nat → Int32) (mFct : Nat → Int32) (mSor : Nat → Int32) (mSiz : Nat → Int32) (mCel : Nat → Int32) (mHol : Nat → Int32) (mHoA : Nat → Int32) (mHoB : Nat → Int32) (mHoC : Nat → Int32) (mMov : Nat → Int32) (mTel : Nat → Int32) (p1 p2 p3 : Int32)  (Q : Int32 → (Nat → Int32) → (Nat → Int32) → (Nat → Int32) → (Nat → Int32) → (Nat → Int32) → (Nat → Int32) → Prop) (h : wp_X7_tree p1 p2 p3 mNow mLea mLat mBst mRsk mStk mFct Q) : Met l yX7_tree wsX7_tree ({ frames := 4, cells := 0, slots := 0, locals := 98 } : Room) (va_Pc [.ref mo, .int p1, .int p2, .int p3] (rc_B E (rw_24 E mo mn mi ma ml mt mb mr mp mk mq mc mw mz ms mf mu mv mx mh mA mB mC mM mT mHI mFC mLC mCg mTp mNx mFr mTk mVa mEn mKe mCs mAt mHd mWg mNow mImg mAsd mLea mLat mBst mRsk mTap mKys mKat mCod mWts mTes mStk mFct mSor mSiz mCel mHol mHoA mHoB mHoC mMov mTel) sz)) (va_Qi (S := (Nat → Int32) × (Nat → Int32) × (Nat → Int32) × (Nat → Int32) × (Nat → Int32) × (Nat → Int32)) (fun (r : Int32) (u : (Nat → Int32) × (Nat → Int32) × (Nat → Int32) × (Nat → Int32) × (Nat → Int32) × (Nat → Int32)) => Q r u.1 u.2.1 u.2.2.1 u.2.2.2.1 u.2.2.2.2.1 u.2.2.2.2.2) (fun u t => rc_C E (va_A (rw_24 E mo mn mi ma ml mt mb mr mp mk mq mc mw mz ms mf mu mv mx mh mA mB mC mM mT mHI mFC mLC mCg mTp mNx mFr mTk mVa mEn mKe mCs mAt mHd mWg mNow mImg mAsd mLea mLat mBst mRsk mTap mKys mKat mCod mWts mTes mStk mFct mSor mSiz mCel mHol mHoA mHoB mHoC mMov mTel) sz) (rw_24 E mo mn mi ma ml mt mb mr mp mk mq mc mw mz ms mf mu mv mx mh mA mB mC mM mT mHI mFC mLC mCg mTp mNx mFr mTk mVa mEn mKe mCs mAt mHd mWg mNow mImg mAsd u.1 u.2.1 u.2.2.1 u.2.2.2.1 mTap mKys mKat mCod mWts mTes u.2.2.2.2.1 u.2.2.2.2.2 mSor mSiz mCel mHol mHoA mHoB mHoC mMov mTel) t) (va_A (rw_24 E mo mn mi ma ml mt mb mr mp mk mq mc mw mz ms mf mu mv mx mh mA mB mC mM mT mHI mFC mLC mCg mTp mNx mFr mTk mVa mEn mKe mCs mAt mHd mWg mNow mImg mAsd mLea mLat mBst mRsk mTap mKys mKat mCod mWts mTes mStk mFct mSor mSiz mCel mHol mHoA mHoB mHoC mMov mTel) sz)) 0 0 (va_A (rw_24 E mo mn mi ma ml mt mb mr mp mk mq mc mw mz ms mf mu mv mx mh mA mB mC mM mT mHI mFC mLC mCg mTp mNx mFr mTk mVa mEn mKe mCs mAt mHd mWg mNow mImg mAsd mLea mLat mBst mRsk mTap mKys mKat mCod mWts mTes mStk mFct mSor mSiz mCel mHol mHoA mHoB mHoC mMov mTel) sz) := by
  refine rc_enterI (cc := cX7_tree) (maxL := 4) (by decide) rfl (Nat.le_of_ble_eq_true rfl) ?_
  intro p e s m args below meth c QQ A hx hb hml hown hts hmn hE hP hD hA hret ls hl
  have hown : s.vm.findClass RX7 = some m.cls := hown
  have hK := hE.1
  have hS : va_S A s.heap s.heap [] := va_S.rf
  have hl : lv_has ls 4 [(0, .ref mo), (1, .int p1), (2, .int p2), (3, .int p3)] := hl
  have n_X7 : ∀ w ∈ wsX70, w ∈ wsX7_tree := fun _ h => List.mem_cons_of_mem _ (List.mem_append_right _ h)
  have k_89 := hts (.constant RX7 89 (-1000000001)) (List.mem_of_getElem? (i := 1) rfl)
  have k_25 := hts (.fieldLink RX7 25 "RidgeClapsModel" "bestStep" "[I") (List.mem_of_getElem? (i := 3) rfl)
  have k_19 := hts (.fieldLink RX7 19 "RidgeClapsModel" "least" "[I") (List.mem_of_getElem? (i := 2) rfl)
  unfold wp_X7_tree at h
  obtain ⟨H, hH⟩ : ∃ H, H = s.heap := ⟨_, rfl⟩
  obtain ⟨locs, hlocs⟩ : ∃ locs : List Loc, locs = [] := ⟨_, rfl⟩
  have hP : va_P E.1 vwCl (rw_24 E mo mn mi ma ml mt mb mr mp mk mq mc mw mz ms mf mu mv mx mh mA mB mC mM mT mHI mFC mLC mCg mTp mNx mFr mTk mVa mEn mKe mCs mAt mHd mWg mNow mImg mAsd mLea mLat mBst mRsk mTap mKys mKat mCod mWts mTes mStk mFct mSor mSiz mCel mHol mHoA mHoB mHoC mMov mTel) H := by rw [hH]; exact hP
  have hS : va_S A s.heap H locs := by rw [hH, hlocs]; exact hS
  suffices hgo : W p l e ({ frames := 4, cells := 0, slots := 0, locals := 98 } : Room) s m args below meth c H locs 0 0 QQ (F0 m 0 ls []) from by rw [hH, hlocs] at hgo; exact hgo
  refine lv_aload_n hx hb dX7_tree_0 rfl (lv_at hl 0 rfl) ?_
  refine lv_iload_n hx hb dX7_tree_1 rfl (lv_at hl 1 rfl) ?_
  have hPc := hP
  have hDc := hD
  have hFc := rc_freeI hD hS hA
  refine va_calli (va_runV (As := [.int p1]) (rest := []) ⟨hx, hb, hml, hown, hts⟩ (c_X7_isPlace l E mo mn mi ma ml mt mb mr mp mk mq mc mw mz ms mf mu mv mx mh mA mB mC mM mT H.size mHI mFC mLC mCg mTp mNx mFr mTk mVa mEn mKe mCs mAt mHd mWg mNow mImg mAsd mLea mLat mBst mRsk mTap mKys mKat mCod mWts mTes mStk mFct mSor mSiz mCel mHol mHoA mHoB mHoC mMov mTel p1 _ h) (cwV 1 hts gX7_tree_X7_isPlace rfl rfl rfl (by decide +kernel) ⟨Nat.le_of_ble_eq_true rfl, Nat.le_of_ble_eq_true rfl⟩) ⟨fun a U g mk q => ⟨q.1, q.2.blind⟩, va_recv hK hPc (ci := 7) (q0 := 0) rfl rfl, fun U hU hW => ⟨rfl, by rw [hU], by rw [hU]; exact hPc, hE.call hS hFc hW hU, hDc.weaken (fun _ _ _ _ => trivial)⟩⟩ rfl rfl hl.1 rfl (lv_room (Nat.le_of_ble_eq_true rfl)) dX7_tree_2 ⟨Nat.zero_le _, Nat.zero_le _⟩) hS (fun q _ h => hFc q h) hFc (fun r_1 u t H1 locs ht hvm h hB hz1 hk1 hS => ?_)
  obtain ⟨hP1, hD1⟩ := hB
  rw [ht] at hP1
  have hP := hP1
  have hD := hD1.weaken (fun _ _ _ h => hFc _ h)
  generalize H1 = H at hP hS ⊢
  have hP : va_P E.1 vwCl (rw_24 E mo mn mi ma ml mt mb mr mp mk mq mc mw mz ms mf mu mv mx mh mA mB mC mM mT mHI mFC mLC mCg mTp mNx mFr mTk mVa mEn mKe mCs mAt mHd mWg mNow mImg mAsd mLea mLat mBst mRsk mTap mKys mKat mCod mWts mTes mStk mFct mSor mSiz mCel mHol mHoA mHoB mHoC mMov mTel) H := hP
  have hD : va_D A (rw_24 E mo mn mi ma ml mt mb mr mp mk mq mc mw mz ms mf mu mv mx mh mA mB mC mM mT mHI mFC mLC mCg mTp mNx mFr mTk mVa mEn mKe mCs mAt mHd mWg mNow mImg mAsd mLea mLat mBst mRsk mTap mKys mKat mCod mWts mTes mStk mFct mSor mSiz mCel mHol mHoA mHoB mHoC mMov mTel) := hD
  refine lv_if_eq (tgt := 27) hx hb dX7_tree_5 (by decide) (fun c_2 => ?_) (fun c_2 => ?_)
  · have h := h.1 c_2
    refine lv_ldc hx hb hown k_89 dX7_tree_27 ?_
    exact hret _ _ _ _ (-1000000001) (mLea, mLat, mBst, mRsk, mStk, mFct) rfl h hP hD hS dX7_tree_29
  · have h := h.2 c_2
    refine lv_iload_n hx hb dX7_tree_8 rfl (lv_at hl 2 rfl) ?_
    refine lv_iconst (v := 1) hx hb dX7_tree_9 (by decide) ?_
    refine lv_bipush (v := 60) hx hb dX7_tree_10 (by decide) ?_
    have hPc := hP.sub (ws' := []) [] rfl
    have hDc := hD.sub (ws' := []) [] (by decide) rfl
    have hFc := va_free (wc := []) hD hS hA [] rfl
    refine va_calli (va_runS (As := [.int p2, .int 1, .int 60]) (rest := []) ⟨hx, hb, hml, hown, hts⟩ (c_X7_in l E H.size p2 1 60 _ h) (va_cwS 3 hts gX7_tree_X7_in rfl rfl rfl (by decide +kernel) ⟨Nat.le_of_ble_eq_true rfl, Nat.le_of_ble_eq_true rfl⟩) ⟨fun a U g mk q => ⟨q.1, q.2.blind⟩, fun U hU hW => ⟨rfl, by rw [hU], by rw [hU]; exact hPc, hE.call hS hFc hW hU, hDc.weaken (fun _ _ _ _ => trivial)⟩⟩ rfl rfl hl.1 rfl (lv_room (Nat.le_of_ble_eq_true rfl)) dX7_tree_12 ⟨Nat.zero_le _, Nat.zero_le _⟩) hS (fun q _ h => hFc q h) hFc (fun r_3 u t H1 locs ht hvm h hB hz1 hk1 hS => ?_)
    obtain ⟨hP1, hD1⟩ := hB
    rw [ht] at hP1
    obtain ⟨hP, hD⟩ := rc_foc hP hD [] [none, none, none, none, none, none, none, none, none, none, none, none, none, none, none, none, none, none, none, none, none, none, none, none, none] (by decide) rfl hk1 hP1 rfl
    generalize H1 = H at hP hS ⊢
    have hP : va_P E.1 vwCl (rw_24 E mo mn mi ma ml mt mb mr mp mk mq mc mw mz ms mf mu mv mx mh mA mB mC mM mT mHI mFC mLC mCg mTp mNx mFr mTk mVa mEn mKe mCs mAt mHd mWg mNow mImg mAsd mLea mLat mBst mRsk mTap mKys mKat mCod mWts mTes mStk mFct mSor mSiz mCel mHol mHoA mHoB mHoC mMov mTel) H := hP
    have hD : va_D A (rw_24 E mo mn mi ma ml mt mb mr mp mk mq mc mw mz ms mf mu mv mx mh mA mB mC mM mT mHI mFC mLC mCg mTp mNx mFr mTk mVa mEn mKe mCs mAt mHd mWg mNow mImg mAsd mLea mLat mBst mRsk mTap mKys mKat mCod mWts mTes mStk mFct mSor mSiz mCel mHol mHoA mHoB mHoC mMov mTel) := hD
    refine lv_if_eq (tgt := 27) hx hb dX7_tree_15 (by decide) (fun c_4 => ?_) (fun c_4 => ?_)
    · have h := h.1 c_4
      refine lv_ldc hx hb hown k_89 dX7_tree_27 ?_
      exact hret _ _ _ _ (-1000000001) (mLea, mLat, mBst, mRsk, mStk, mFct) rfl h hP hD hS dX7_tree_29
    · have h := h.2 c_4
      refine lv_iload_n hx hb dX7_tree_18 rfl (lv_at hl 3 rfl) ?_
      refine lv_iconst (v := 0) hx hb dX7_tree_19 (by decide) ?_
      refine lv_iconst (v := 1) hx hb dX7_tree_20 (by decide) ?_
      have hPc := hP.sub (ws' := []) [] rfl
      have hDc := hD.sub (ws' := []) [] (by decide) rfl
      have hFc := va_free (wc := []) hD hS hA [] rfl
      refine va_calli (va_runS (As := [.int p3, .int 0, .int 1]) (rest := []) ⟨hx, hb, hml, hown, hts⟩ (c_X7_in l E H.size p3 0 1 _ h) (va_cwS 3 hts gX7_tree_X7_in rfl rfl rfl (by decide +kernel) ⟨Nat.le_of_ble_eq_true rfl, Nat.le_of_ble_eq_true rfl⟩) ⟨fun a U g mk q => ⟨q.1, q.2.blind⟩, fun U hU hW => ⟨rfl, by rw [hU], by rw [hU]; exact hPc, hE.call hS hFc hW hU, hDc.weaken (fun _ _ _ _ => trivial)⟩⟩ rfl rfl hl.1 rfl (lv_room (Nat.le_of_ble_eq_true rfl)) dX7_tree_21 ⟨Nat.zero_le _, Nat.zero_le _⟩) hS (fun q _ h => hFc q h) hFc (fun r_5 u t H1 locs ht hvm h hB hz1 hk1 hS => ?_)
      obtain ⟨hP1, hD1⟩ := hB
      rw [ht] at hP1
      obtain ⟨hP, hD⟩ := rc_foc hP hD [] [none, none, none, none, none, none, none, none, none, none, none, none, none, none, none, none, none, none, none, none, none, none, none, none, none] (by decide) rfl hk1 hP1 rfl
      generalize H1 = H at hP hS ⊢
      have hP : va_P E.1 vwCl (rw_24 E mo mn mi ma ml mt mb mr mp mk mq mc mw mz ms mf mu mv mx mh mA mB mC mM mT mHI mFC mLC mCg mTp mNx mFr mTk mVa mEn mKe mCs mAt mHd mWg mNow mImg mAsd mLea mLat mBst mRsk mTap mKys mKat mCod mWts mTes mStk mFct mSor mSiz mCel mHol mHoA mHoB mHoC mMov mTel) H := hP
      have hD : va_D A (rw_24 E mo mn mi ma ml mt mb mr mp mk mq mc mw mz ms mf mu mv mx mh mA mB mC mM mT mHI mFC mLC mCg mTp mNx mFr mTk mVa mEn mKe mCs mAt mHd mWg mNow mImg mAsd mLea mLat mBst mRsk mTap mKys mKat mCod mWts mTes mStk mFct mSor mSiz mCel mHol mHoA mHoB mHoC mMov mTel) := hD
      refine lv_if_ne (tgt := 30) hx hb dX7_tree_24 (by decide) (fun c_6 => ?_) (fun c_6 => ?_)
      · have h := h.1 c_6
        refine lv_aload_n hx hb dX7_tree_30 rfl (lv_at hl 0 rfl) ?_
        refine lv_iload_n hx hb dX7_tree_31 rfl (lv_at hl 2 rfl) ?_
        have hPc := hP
        have hDc := hD
        have hFc := rc_freeI hD hS hA
        refine va_callv (va_runV (As := [.int p2]) (rest := []) ⟨hx, hb, hml, hown, hts⟩ (c_X7_findTree l E mo mn mi ma ml mt mb mr mp mk mq mc mw mz ms mf mu mv mx mh mA mB mC mM mT H.size mHI mFC mLC mCg mTp mNx mFr mTk mVa mEn mKe mCs mAt mHd mWg mNow mImg mAsd mLea mLat mBst mRsk mTap mKys mKat mCod mWts mTes mStk mFct mSor mSiz mCel mHol mHoA mHoB mHoC mMov mTel p2 _ h) (cwV 1 hts gX7_tree_X7_findTree rfl rfl rfl (by decide +kernel) ⟨Nat.le_of_ble_eq_true rfl, Nat.le_of_ble_eq_true rfl⟩) ⟨fun a U g mk q => ⟨q.1, q.2.blind⟩, va_recv hK hPc (ci := 7) (q0 := 0) rfl rfl, fun U hU hW => ⟨rfl, by rw [hU], by rw [hU]; exact hPc, hE.call hS hFc hW hU, hDc.weaken (fun _ _ _ _ => trivial)⟩⟩ rfl rfl hl.1 rfl (lv_room (Nat.le_of_ble_eq_true rfl)) dX7_tree_32 ⟨Nat.zero_le _, Nat.zero_le _⟩) hS (fun q _ h => hFc q h) hFc (fun u t H1 locs ht hvm h hB hz1 hk1 hS => ?_)
        obtain ⟨w_7, w_8, w_9, w_10, w_11, w_12⟩ := u
        obtain ⟨hP1, hD1⟩ := hB
        rw [ht] at hP1
        have hP := hP1
        have hD := hD1.weaken (fun _ _ _ h => hFc _ h)
        generalize H1 = H at hP hS ⊢
        have hP : va_P E.1 vwCl (rw_24 E mo mn mi ma ml mt mb mr mp mk mq mc mw mz ms mf mu mv mx mh mA mB mC mM mT mHI mFC mLC mCg mTp mNx mFr mTk mVa mEn mKe mCs mAt mHd mWg mNow mImg mAsd w_7 w_8 w_9 w_10 mTap mKys mKat mCod mWts mTes w_11 w_12 mSor mSiz mCel mHol mHoA mHoB mHoC mMov mTel) H := hP
        have hD : va_D A (rw_24 E mo mn mi ma ml mt mb mr mp mk mq mc mw mz ms mf mu mv mx mh mA mB mC mM mT mHI mFC mLC mCg mTp mNx mFr mTk mVa mEn mKe mCs mAt mHd mWg mNow mImg mAsd w_7 w_8 w_9 w_10 mTap mKys mKat mCod mWts mTes w_11 w_12 mSor mSiz mCel mHol mHoA mHoB mHoC mMov mTel) := hD
        refine lv_iload_n hx hb dX7_tree_35 rfl (lv_at hl 3 rfl) ?_
        refine lv_if_ne (tgt := 48) hx hb dX7_tree_36 (by decide) (fun c_13 => ?_) (fun c_13 => ?_)
        · have h := h.1 c_13
          refine lv_aload_n hx hb dX7_tree_48 rfl (lv_at hl 0 rfl) ?_
          refine va_get (D := E.1) (ci := 7) (v := .ref mb) (C := RX7) (T := TX7) (N := 39) hx hb hts n_X7 hown hK hP 0 rfl rfl 6 (by decide) k_25 (fun _ h9 => h9) rfl dX7_tree_49 ?_
          refine lv_iload_n hx hb dX7_tree_52 rfl (lv_at hl 1 rfl) ?_
          obtain ⟨o_14, h⟩ := h
          refine rc_iald hx hb hK hP 6 0 rfl rfl p1.toNatClampNeg rfl o_14 dX7_tree_53 ?_
          exact hret _ _ _ _ (w_9 p1.toNatClampNeg) (w_7, w_8, w_9, w_10, w_11, w_12) rfl h hP hD hS dX7_tree_54
        · have h := h.2 c_13
          refine lv_aload_n hx hb dX7_tree_39 rfl (lv_at hl 0 rfl) ?_
          refine va_get (D := E.1) (ci := 7) (v := .ref ml) (C := RX7) (T := TX7) (N := 39) hx hb hts n_X7 hown hK hP 0 rfl rfl 4 (by decide) k_19 (fun _ h9 => h9) rfl dX7_tree_40 ?_
          refine lv_iload_n hx hb dX7_tree_43 rfl (lv_at hl 1 rfl) ?_
          obtain ⟨o_15, h⟩ := h
          refine rc_iald hx hb hK hP 4 0 rfl rfl p1.toNatClampNeg rfl o_15 dX7_tree_44 ?_
          refine lv_goto (tgt := 54) hx hb dX7_tree_45 (by decide) ?_
          exact hret _ _ _ _ (w_7 p1.toNatClampNeg) (w_7, w_8, w_9, w_10, w_11, w_12) rfl h hP hD hS dX7_tree_54
      · have h := h.2 c_6
        refine lv_ldc hx hb hown k_89 dX7_tree_27 ?_
        exact hret _ _ _ _ (-1000000001) (mLea, mLat, mBst, mRsk, mStk, mFct) rfl h hP hD hS dX7_tree_29
def wp_X7_doesTurn (p1 : Int32) (p2 : Int32) (mNow : Nat → Int32) (mStk : Nat → Int32) (mFct : Nat → Int32) (Q : Int32 → (Nat → Int32) → (Nat → Int32) → Prop) : Prop :=
  wp_X7_counts 2 mNow (fun (r_1 : Int32) => wp_X7_farOn p2 mNow (fun (r_2 : Int32) => ((0 ≤ r_1 → wp_X7_worksOut r_1 mNow mStk (upd (upd (upd mFct 0 r_2) 1 p1) 2 p2) (fun (r_4 : Int32) (w_5 : Nat → Int32) => ((r_4 = 0 → Q 0 w_5 (upd (upd (upd mFct 0 r_2) 1 p1) 2 p2)) ∧ (¬ (r_4 = 0) → Q 1 w_5 (upd (upd (upd mFct 0 r_2) 1 p1) 2 p2))))) ∧ (¬ (0 ≤ r_1) → wp_X7_farOn p2 mNow (fun (r_7 : Int32) => ((20 ≤ r_7 → Q 0 mStk (upd (upd (upd mFct 0 r_2) 1 p1) 2 p2)) ∧ (¬ (20 ≤ r_7) → Q 1 mStk (upd (upd (upd mFct 0 r_2) 1 p1) 2 p2))))))))
set_option maxHeartbeats 4000000 in
set_option maxRecDepth 100000 in
theorem c_X7_doesTurn (l : Launch) (E : gE) (mo mn mi ma ml mt mb mr mp mk mq mc mw mz ms mf mu mv mx mh mA mB mC mM mT : Nat) (sz : Nat) (mHI : Int32) (mFC : Int32) (mLC : Int32) (mCg : Int32) (mTp : Int32) (mNx : Int32) (mFr : Int32) (mTk : Int32) (mVa : Int32) (mEn : Int32) (mKe : Int32) (mCs : Int32) (mAt : Int32) (mHd : Int32) (mWg : Int32) (mNow : Nat → Int32) (mImg : Nat → Int32) (mAsd : Nat → Int32) (mLea : Nat → Int32) (mLat : Nat → Int32) (mBst : Nat → Int32) (mRsk : Nat → Int32) (mTap : Nat → Int32) (mKys : Nat → Int32) (mKat : Nat → Int32) (mCod : Nat → Int32) (mWts : Nat → Int32) (mTes : Nat → Int32) (mStk : Nat → Int32) (mFct : Nat → Int32) (mSor : Nat → Int32) (mSiz : Nat → Int32) (mCel : Nat → Int32) (mHol : Nat → Int32) (mHoA : Nat → Int32) (mHoB : Nat → Int32) (mHoC : Nat → Int32) (mMov : Nat → Int32) (mTel : Nat → Int32) (p1 p2 : Int32)  (Q : Int32 → (Nat → Int32) → (Nat → Int32) → Prop) (h : wp_X7_doesTurn p1 p2 mNow mStk mFct Q) : Met l yX7_doesTurn wsX7_doesTurn ({ frames := 2, cells := 0, slots := 0, locals := 47 } : Room) (va_Pc [.ref mo, .int p1, .int p2] (rc_B E (rw_24 E mo mn mi ma ml mt mb mr mp mk mq mc mw mz ms mf mu mv mx mh mA mB mC mM mT mHI mFC mLC mCg mTp mNx mFr mTk mVa mEn mKe mCs mAt mHd mWg mNow mImg mAsd mLea mLat mBst mRsk mTap mKys mKat mCod mWts mTes mStk mFct mSor mSiz mCel mHol mHoA mHoB mHoC mMov mTel) sz)) (va_Qi (S := (Nat → Int32) × (Nat → Int32)) (fun (r : Int32) (u : (Nat → Int32) × (Nat → Int32)) => Q r u.1 u.2) (fun u t => rc_C E (va_A (rw_24 E mo mn mi ma ml mt mb mr mp mk mq mc mw mz ms mf mu mv mx mh mA mB mC mM mT mHI mFC mLC mCg mTp mNx mFr mTk mVa mEn mKe mCs mAt mHd mWg mNow mImg mAsd mLea mLat mBst mRsk mTap mKys mKat mCod mWts mTes mStk mFct mSor mSiz mCel mHol mHoA mHoB mHoC mMov mTel) sz) (rw_24 E mo mn mi ma ml mt mb mr mp mk mq mc mw mz ms mf mu mv mx mh mA mB mC mM mT mHI mFC mLC mCg mTp mNx mFr mTk mVa mEn mKe mCs mAt mHd mWg mNow mImg mAsd mLea mLat mBst mRsk mTap mKys mKat mCod mWts mTes u.1 u.2 mSor mSiz mCel mHol mHoA mHoB mHoC mMov mTel) t) (va_A (rw_24 E mo mn mi ma ml mt mb mr mp mk mq mc mw mz ms mf mu mv mx mh mA mB mC mM mT mHI mFC mLC mCg mTp mNx mFr mTk mVa mEn mKe mCs mAt mHd mWg mNow mImg mAsd mLea mLat mBst mRsk mTap mKys mKat mCod mWts mTes mStk mFct mSor mSiz mCel mHol mHoA mHoB mHoC mMov mTel) sz)) 0 0 (va_A (rw_24 E mo mn mi ma ml mt mb mr mp mk mq mc mw mz ms mf mu mv mx mh mA mB mC mM mT mHI mFC mLC mCg mTp mNx mFr mTk mVa mEn mKe mCs mAt mHd mWg mNow mImg mAsd mLea mLat mBst mRsk mTap mKys mKat mCod mWts mTes mStk mFct mSor mSiz mCel mHol mHoA mHoB mHoC mMov mTel) sz) := by
  refine rc_enterI (cc := cX7_doesTurn) (maxL := 4) (by decide) rfl (Nat.le_of_ble_eq_true rfl) ?_
  intro p e s m args below meth c QQ A hx hb hml hown hts hmn hE hP hD hA hret ls hl
  have hown : s.vm.findClass RX7 = some m.cls := hown
  have hK := hE.1
  have hS : va_S A s.heap s.heap [] := va_S.rf
  have hl : lv_has ls 4 [(0, .ref mo), (1, .int p1), (2, .int p2)] := hl
  have n_X7 : ∀ w ∈ wsX70, w ∈ wsX7_doesTurn := fun _ h => List.mem_cons_of_mem _ (List.mem_append_right _ h)
  have k_54 := hts (.fieldLink RX7 54 "RidgeClapsModel" "facts" "[I") (List.mem_of_getElem? (i := 1) rfl)
  unfold wp_X7_doesTurn at h
  obtain ⟨H, hH⟩ : ∃ H, H = s.heap := ⟨_, rfl⟩
  obtain ⟨locs, hlocs⟩ : ∃ locs : List Loc, locs = [] := ⟨_, rfl⟩
  have hP : va_P E.1 vwCl (rw_24 E mo mn mi ma ml mt mb mr mp mk mq mc mw mz ms mf mu mv mx mh mA mB mC mM mT mHI mFC mLC mCg mTp mNx mFr mTk mVa mEn mKe mCs mAt mHd mWg mNow mImg mAsd mLea mLat mBst mRsk mTap mKys mKat mCod mWts mTes mStk mFct mSor mSiz mCel mHol mHoA mHoB mHoC mMov mTel) H := by rw [hH]; exact hP
  have hS : va_S A s.heap H locs := by rw [hH, hlocs]; exact hS
  suffices hgo : W p l e ({ frames := 2, cells := 0, slots := 0, locals := 47 } : Room) s m args below meth c H locs 0 0 QQ (F0 m 0 ls []) from by rw [hH, hlocs] at hgo; exact hgo
  refine lv_aload_n hx hb dX7_doesTurn_0 rfl (lv_at hl 0 rfl) ?_
  refine lv_iconst (v := 2) hx hb dX7_doesTurn_1 (by decide) ?_
  have hPc := hP
  have hDc := hD
  have hFc := rc_freeI hD hS hA
  refine va_calli (va_runV (As := [.int 2]) (rest := []) ⟨hx, hb, hml, hown, hts⟩ (c_X7_counts l E mo mn mi ma ml mt mb mr mp mk mq mc mw mz ms mf mu mv mx mh mA mB mC mM mT H.size mHI mFC mLC mCg mTp mNx mFr mTk mVa mEn mKe mCs mAt mHd mWg mNow mImg mAsd mLea mLat mBst mRsk mTap mKys mKat mCod mWts mTes mStk mFct mSor mSiz mCel mHol mHoA mHoB mHoC mMov mTel 2 _ h) (cwV 1 hts gX7_doesTurn_X7_counts rfl rfl rfl (by decide +kernel) ⟨Nat.le_of_ble_eq_true rfl, Nat.le_of_ble_eq_true rfl⟩) ⟨fun a U g mk q => ⟨q.1, q.2.blind⟩, va_recv hK hPc (ci := 7) (q0 := 0) rfl rfl, fun U hU hW => ⟨rfl, by rw [hU], by rw [hU]; exact hPc, hE.call hS hFc hW hU, hDc.weaken (fun _ _ _ _ => trivial)⟩⟩ rfl rfl hl.1 rfl (lv_room (Nat.le_of_ble_eq_true rfl)) dX7_doesTurn_2 ⟨Nat.zero_le _, Nat.zero_le _⟩) hS (fun q _ h => hFc q h) hFc (fun r_1 u t H1 locs ht hvm h hB hz1 hk1 hS => ?_)
  obtain ⟨hP1, hD1⟩ := hB
  rw [ht] at hP1
  have hP := hP1
  have hD := hD1.weaken (fun _ _ _ h => hFc _ h)
  generalize H1 = H at hP hS ⊢
  have hP : va_P E.1 vwCl (rw_24 E mo mn mi ma ml mt mb mr mp mk mq mc mw mz ms mf mu mv mx mh mA mB mC mM mT mHI mFC mLC mCg mTp mNx mFr mTk mVa mEn mKe mCs mAt mHd mWg mNow mImg mAsd mLea mLat mBst mRsk mTap mKys mKat mCod mWts mTes mStk mFct mSor mSiz mCel mHol mHoA mHoB mHoC mMov mTel) H := hP
  have hD : va_D A (rw_24 E mo mn mi ma ml mt mb mr mp mk mq mc mw mz ms mf mu mv mx mh mA mB mC mM mT mHI mFC mLC mCg mTp mNx mFr mTk mVa mEn mKe mCs mAt mHd mWg mNow mImg mAsd mLea mLat mBst mRsk mTap mKys mKat mCod mWts mTes mStk mFct mSor mSiz mCel mHol mHoA mHoB mHoC mMov mTel) := hD
  refine lv_istore_n (lv' := [(3, .int r_1), (0, .ref mo), (1, .int p1), (2, .int p2)]) hx hb dX7_doesTurn_5 rfl hl (by decide) rfl (fun ls hl => ?_)
  refine lv_aload_n hx hb dX7_doesTurn_6 rfl (lv_at hl 1 rfl) ?_
  refine va_get (D := E.1) (ci := 7) (v := .ref mf) (C := RX7) (T := TX7) (N := 39) hx hb hts n_X7 hown hK hP 0 rfl rfl 28 (by decide) k_54 (fun _ h9 => h9) rfl dX7_doesTurn_7 ?_
  refine lv_iconst (v := 0) hx hb dX7_doesTurn_10 (by decide) ?_
  refine lv_aload_n hx hb dX7_doesTurn_11 rfl (lv_at hl 1 rfl) ?_
  refine lv_iload_n hx hb dX7_doesTurn_12 rfl (lv_at hl 3 rfl) ?_
  have hPc := hP
  have hDc := hD
  have hFc := rc_freeI hD hS hA
  refine va_calli (va_runV (As := [.int p2]) (rest := [.int 0, .ref mf]) ⟨hx, hb, hml, hown, hts⟩ (c_X7_farOn l E mo mn mi ma ml mt mb mr mp mk mq mc mw mz ms mf mu mv mx mh mA mB mC mM mT H.size mHI mFC mLC mCg mTp mNx mFr mTk mVa mEn mKe mCs mAt mHd mWg mNow mImg mAsd mLea mLat mBst mRsk mTap mKys mKat mCod mWts mTes mStk mFct mSor mSiz mCel mHol mHoA mHoB mHoC mMov mTel p2 _ h) (cwV 1 hts gX7_doesTurn_X7_farOn rfl rfl rfl (by decide +kernel) ⟨Nat.le_of_ble_eq_true rfl, Nat.le_of_ble_eq_true rfl⟩) ⟨fun a U g mk q => ⟨q.1, q.2.blind⟩, va_recv hK hPc (ci := 7) (q0 := 0) rfl rfl, fun U hU hW => ⟨rfl, by rw [hU], by rw [hU]; exact hPc, hE.call hS hFc hW hU, hDc.weaken (fun _ _ _ _ => trivial)⟩⟩ rfl rfl hl.1 rfl (lv_room (Nat.le_of_ble_eq_true rfl)) dX7_doesTurn_13 ⟨Nat.zero_le _, Nat.zero_le _⟩) hS (fun q _ h => hFc q h) hFc (fun r_2 u t H1 locs ht hvm h hB hz1 hk1 hS => ?_)
  obtain ⟨hP1, hD1⟩ := hB
  rw [ht] at hP1
  have hP := hP1
  have hD := hD1.weaken (fun _ _ _ h => hFc _ h)
  generalize H1 = H at hP hS ⊢
  have hP : va_P E.1 vwCl (rw_24 E mo mn mi ma ml mt mb mr mp mk mq mc mw mz ms mf mu mv mx mh mA mB mC mM mT mHI mFC mLC mCg mTp mNx mFr mTk mVa mEn mKe mCs mAt mHd mWg mNow mImg mAsd mLea mLat mBst mRsk mTap mKys mKat mCod mWts mTes mStk mFct mSor mSiz mCel mHol mHoA mHoB mHoC mMov mTel) H := hP
  have hD : va_D A (rw_24 E mo mn mi ma ml mt mb mr mp mk mq mc mw mz ms mf mu mv mx mh mA mB mC mM mT mHI mFC mLC mCg mTp mNx mFr mTk mVa mEn mKe mCs mAt mHd mWg mNow mImg mAsd mLea mLat mBst mRsk mTap mKys mKat mCod mWts mTes mStk mFct mSor mSiz mCel mHol mHoA mHoB mHoC mMov mTel) := hD
  refine rc_iast hx hb hK hP hD hS 15 0 rfl rfl 0 (by decide) (by unfold vp_in; decide) dX7_doesTurn_16 (fun H locs hP hD hS => ?_)
  have hP : va_P E.1 vwCl (rw_24 E mo mn mi ma ml mt mb mr mp mk mq mc mw mz ms mf mu mv mx mh mA mB mC mM mT mHI mFC mLC mCg mTp mNx mFr mTk mVa mEn mKe mCs mAt mHd mWg mNow mImg mAsd mLea mLat mBst mRsk mTap mKys mKat mCod mWts mTes mStk (upd mFct 0 r_2) mSor mSiz mCel mHol mHoA mHoB mHoC mMov mTel) H := hP
  have hD : va_D A (rw_24 E mo mn mi ma ml mt mb mr mp mk mq mc mw mz ms mf mu mv mx mh mA mB mC mM mT mHI mFC mLC mCg mTp mNx mFr mTk mVa mEn mKe mCs mAt mHd mWg mNow mImg mAsd mLea mLat mBst mRsk mTap mKys mKat mCod mWts mTes mStk (upd mFct 0 r_2) mSor mSiz mCel mHol mHoA mHoB mHoC mMov mTel) := hD
  refine lv_aload_n hx hb dX7_doesTurn_17 rfl (lv_at hl 1 rfl) ?_
  refine va_get (D := E.1) (ci := 7) (v := .ref mf) (C := RX7) (T := TX7) (N := 39) hx hb hts n_X7 hown hK hP 0 rfl rfl 28 (by decide) k_54 (fun _ h9 => h9) rfl dX7_doesTurn_18 ?_
  refine lv_iconst (v := 1) hx hb dX7_doesTurn_21 (by decide) ?_
  refine lv_iload_n hx hb dX7_doesTurn_22 rfl (lv_at hl 2 rfl) ?_
  refine rc_iast hx hb hK hP hD hS 15 0 rfl rfl 1 (by decide) (by unfold vp_in; decide) dX7_doesTurn_23 (fun H locs hP hD hS => ?_)
  have hP : va_P E.1 vwCl (rw_24 E mo mn mi ma ml mt mb mr mp mk mq mc mw mz ms mf mu mv mx mh mA mB mC mM mT mHI mFC mLC mCg mTp mNx mFr mTk mVa mEn mKe mCs mAt mHd mWg mNow mImg mAsd mLea mLat mBst mRsk mTap mKys mKat mCod mWts mTes mStk (upd (upd mFct 0 r_2) 1 p1) mSor mSiz mCel mHol mHoA mHoB mHoC mMov mTel) H := hP
  have hD : va_D A (rw_24 E mo mn mi ma ml mt mb mr mp mk mq mc mw mz ms mf mu mv mx mh mA mB mC mM mT mHI mFC mLC mCg mTp mNx mFr mTk mVa mEn mKe mCs mAt mHd mWg mNow mImg mAsd mLea mLat mBst mRsk mTap mKys mKat mCod mWts mTes mStk (upd (upd mFct 0 r_2) 1 p1) mSor mSiz mCel mHol mHoA mHoB mHoC mMov mTel) := hD
  refine lv_aload_n hx hb dX7_doesTurn_24 rfl (lv_at hl 1 rfl) ?_
  refine va_get (D := E.1) (ci := 7) (v := .ref mf) (C := RX7) (T := TX7) (N := 39) hx hb hts n_X7 hown hK hP 0 rfl rfl 28 (by decide) k_54 (fun _ h9 => h9) rfl dX7_doesTurn_25 ?_
  refine lv_iconst (v := 2) hx hb dX7_doesTurn_28 (by decide) ?_
  refine lv_iload_n hx hb dX7_doesTurn_29 rfl (lv_at hl 3 rfl) ?_
  refine rc_iast hx hb hK hP hD hS 15 0 rfl rfl 2 (by decide) (by unfold vp_in; decide) dX7_doesTurn_30 (fun H locs hP hD hS => ?_)
  have hP : va_P E.1 vwCl (rw_24 E mo mn mi ma ml mt mb mr mp mk mq mc mw mz ms mf mu mv mx mh mA mB mC mM mT mHI mFC mLC mCg mTp mNx mFr mTk mVa mEn mKe mCs mAt mHd mWg mNow mImg mAsd mLea mLat mBst mRsk mTap mKys mKat mCod mWts mTes mStk (upd (upd (upd mFct 0 r_2) 1 p1) 2 p2) mSor mSiz mCel mHol mHoA mHoB mHoC mMov mTel) H := hP
  have hD : va_D A (rw_24 E mo mn mi ma ml mt mb mr mp mk mq mc mw mz ms mf mu mv mx mh mA mB mC mM mT mHI mFC mLC mCg mTp mNx mFr mTk mVa mEn mKe mCs mAt mHd mWg mNow mImg mAsd mLea mLat mBst mRsk mTap mKys mKat mCod mWts mTes mStk (upd (upd (upd mFct 0 r_2) 1 p1) 2 p2) mSor mSiz mCel mHol mHoA mHoB mHoC mMov mTel) := hD
  refine lv_iload_n hx hb dX7_doesTurn_31 rfl (lv_at hl 0 rfl) ?_
  refine lv_if_ge (tgt := 53) hx hb dX7_doesTurn_32 (by decide) (fun c_3 => ?_) (fun c_3 => ?_)
  · have h := h.1 c_3
    refine lv_aload_n hx hb dX7_doesTurn_53 rfl (lv_at hl 1 rfl) ?_
    refine lv_iload_n hx hb dX7_doesTurn_54 rfl (lv_at hl 0 rfl) ?_
    have hPc := hP
    have hDc := hD
    have hFc := rc_freeI hD hS hA
    refine va_calli (va_runV (As := [.int r_1]) (rest := []) ⟨hx, hb, hml, hown, hts⟩ (c_X7_worksOut l E mo mn mi ma ml mt mb mr mp mk mq mc mw mz ms mf mu mv mx mh mA mB mC mM mT H.size mHI mFC mLC mCg mTp mNx mFr mTk mVa mEn mKe mCs mAt mHd mWg mNow mImg mAsd mLea mLat mBst mRsk mTap mKys mKat mCod mWts mTes mStk (upd (upd (upd mFct 0 r_2) 1 p1) 2 p2) mSor mSiz mCel mHol mHoA mHoB mHoC mMov mTel r_1 _ h) (cwV 1 hts gX7_doesTurn_X7_worksOut rfl rfl rfl (by decide +kernel) ⟨Nat.le_of_ble_eq_true rfl, Nat.le_of_ble_eq_true rfl⟩) ⟨fun a U g mk q => ⟨q.1, q.2.blind⟩, va_recv hK hPc (ci := 7) (q0 := 0) rfl rfl, fun U hU hW => ⟨rfl, by rw [hU], by rw [hU]; exact hPc, hE.call hS hFc hW hU, hDc.weaken (fun _ _ _ _ => trivial)⟩⟩ rfl rfl hl.1 rfl (lv_room (Nat.le_of_ble_eq_true rfl)) dX7_doesTurn_55 ⟨Nat.zero_le _, Nat.zero_le _⟩) hS (fun q _ h => hFc q h) hFc (fun r_4 u t H1 locs ht hvm h hB hz1 hk1 hS => ?_)
    obtain ⟨w_5, rfl⟩ : ∃ z, z = u := ⟨_, rfl⟩
    obtain ⟨hP1, hD1⟩ := hB
    rw [ht] at hP1
    have hP := hP1
    have hD := hD1.weaken (fun _ _ _ h => hFc _ h)
    generalize H1 = H at hP hS ⊢
    have hP : va_P E.1 vwCl (rw_24 E mo mn mi ma ml mt mb mr mp mk mq mc mw mz ms mf mu mv mx mh mA mB mC mM mT mHI mFC mLC mCg mTp mNx mFr mTk mVa mEn mKe mCs mAt mHd mWg mNow mImg mAsd mLea mLat mBst mRsk mTap mKys mKat mCod mWts mTes w_5 (upd (upd (upd mFct 0 r_2) 1 p1) 2 p2) mSor mSiz mCel mHol mHoA mHoB mHoC mMov mTel) H := hP
    have hD : va_D A (rw_24 E mo mn mi ma ml mt mb mr mp mk mq mc mw mz ms mf mu mv mx mh mA mB mC mM mT mHI mFC mLC mCg mTp mNx mFr mTk mVa mEn mKe mCs mAt mHd mWg mNow mImg mAsd mLea mLat mBst mRsk mTap mKys mKat mCod mWts mTes w_5 (upd (upd (upd mFct 0 r_2) 1 p1) 2 p2) mSor mSiz mCel mHol mHoA mHoB mHoC mMov mTel) := hD
    refine lv_if_eq (tgt := 65) hx hb dX7_doesTurn_58 (by decide) (fun c_6 => ?_) (fun c_6 => ?_)
    · have h := h.1 c_6
      refine lv_iconst (v := 0) hx hb dX7_doesTurn_65 (by decide) ?_
      exact hret _ _ _ _ 0 (w_5, upd (upd (upd mFct 0 r_2) 1 p1) 2 p2) (by decide) h hP hD hS dX7_doesTurn_66
    · have h := h.2 c_6
      refine lv_iconst (v := 1) hx hb dX7_doesTurn_61 (by decide) ?_
      refine lv_goto (tgt := 66) hx hb dX7_doesTurn_62 (by decide) ?_
      exact hret _ _ _ _ 1 (w_5, upd (upd (upd mFct 0 r_2) 1 p1) 2 p2) (by decide) h hP hD hS dX7_doesTurn_66
  · have h := h.2 c_3
    refine lv_aload_n hx hb dX7_doesTurn_35 rfl (lv_at hl 1 rfl) ?_
    refine lv_iload_n hx hb dX7_doesTurn_36 rfl (lv_at hl 3 rfl) ?_
    have hPc := hP
    have hDc := hD
    have hFc := rc_freeI hD hS hA
    refine va_calli (va_runV (As := [.int p2]) (rest := []) ⟨hx, hb, hml, hown, hts⟩ (c_X7_farOn l E mo mn mi ma ml mt mb mr mp mk mq mc mw mz ms mf mu mv mx mh mA mB mC mM mT H.size mHI mFC mLC mCg mTp mNx mFr mTk mVa mEn mKe mCs mAt mHd mWg mNow mImg mAsd mLea mLat mBst mRsk mTap mKys mKat mCod mWts mTes mStk (upd (upd (upd mFct 0 r_2) 1 p1) 2 p2) mSor mSiz mCel mHol mHoA mHoB mHoC mMov mTel p2 _ h) (cwV 1 hts gX7_doesTurn_X7_farOn rfl rfl rfl (by decide +kernel) ⟨Nat.le_of_ble_eq_true rfl, Nat.le_of_ble_eq_true rfl⟩) ⟨fun a U g mk q => ⟨q.1, q.2.blind⟩, va_recv hK hPc (ci := 7) (q0 := 0) rfl rfl, fun U hU hW => ⟨rfl, by rw [hU], by rw [hU]; exact hPc, hE.call hS hFc hW hU, hDc.weaken (fun _ _ _ _ => trivial)⟩⟩ rfl rfl hl.1 rfl (lv_room (Nat.le_of_ble_eq_true rfl)) dX7_doesTurn_37 ⟨Nat.zero_le _, Nat.zero_le _⟩) hS (fun q _ h => hFc q h) hFc (fun r_7 u t H1 locs ht hvm h hB hz1 hk1 hS => ?_)
    obtain ⟨hP1, hD1⟩ := hB
    rw [ht] at hP1
    have hP := hP1
    have hD := hD1.weaken (fun _ _ _ h => hFc _ h)
    generalize H1 = H at hP hS ⊢
    have hP : va_P E.1 vwCl (rw_24 E mo mn mi ma ml mt mb mr mp mk mq mc mw mz ms mf mu mv mx mh mA mB mC mM mT mHI mFC mLC mCg mTp mNx mFr mTk mVa mEn mKe mCs mAt mHd mWg mNow mImg mAsd mLea mLat mBst mRsk mTap mKys mKat mCod mWts mTes mStk (upd (upd (upd mFct 0 r_2) 1 p1) 2 p2) mSor mSiz mCel mHol mHoA mHoB mHoC mMov mTel) H := hP
    have hD : va_D A (rw_24 E mo mn mi ma ml mt mb mr mp mk mq mc mw mz ms mf mu mv mx mh mA mB mC mM mT mHI mFC mLC mCg mTp mNx mFr mTk mVa mEn mKe mCs mAt mHd mWg mNow mImg mAsd mLea mLat mBst mRsk mTap mKys mKat mCod mWts mTes mStk (upd (upd (upd mFct 0 r_2) 1 p1) 2 p2) mSor mSiz mCel mHol mHoA mHoB mHoC mMov mTel) := hD
    refine lv_bipush (v := 20) hx hb dX7_doesTurn_40 (by decide) ?_
    refine lv_icmp_ge (tgt := 49) hx hb dX7_doesTurn_42 (by decide) (fun c_8 => ?_) (fun c_8 => ?_)
    · have h := h.1 c_8
      refine lv_iconst (v := 0) hx hb dX7_doesTurn_49 (by decide) ?_
      refine lv_goto (tgt := 66) hx hb dX7_doesTurn_50 (by decide) ?_
      exact hret _ _ _ _ 0 (mStk, upd (upd (upd mFct 0 r_2) 1 p1) 2 p2) (by decide) h hP hD hS dX7_doesTurn_66
    · have h := h.2 c_8
      refine lv_iconst (v := 1) hx hb dX7_doesTurn_45 (by decide) ?_
      refine lv_goto (tgt := 66) hx hb dX7_doesTurn_46 (by decide) ?_
      exact hret _ _ _ _ 1 (mStk, upd (upd (upd mFct 0 r_2) 1 p1) 2 p2) (by decide) h hP hD hS dX7_doesTurn_66
def jp_X7_rule_98 (p1 : Int32) (p2 : Int32) (p3 : Int32) (mNow : Nat → Int32)  (Q : Int32 → (Nat → Int32) → (Nat → Int32) → (Nat → Int32) → (Nat → Int32) → (Nat → Int32) → (Nat → Int32) → Prop) (x4 : Int32) (mLea : Nat → Int32) (mLat : Nat → Int32) (mBst : Nat → Int32) (mRsk : Nat → Int32) (mStk : Nat → Int32) (mFct : Nat → Int32) : Prop :=
  wp_X7_findTree p2 mNow mLea mLat mBst mRsk mStk mFct (fun (w_1 : Nat → Int32) (w_2 : Nat → Int32) (w_3 : Nat → Int32) (w_4 : Nat → Int32) (w_5 : Nat → Int32) (w_6 : Nat → Int32) => ((¬ p3 = 0 → (vp_in p1 24 ∧ Q (x4 - (w_1 p1.toNatClampNeg)) w_1 w_2 w_3 w_4 w_5 w_6)) ∧ (p3 = 0 → Q x4 w_1 w_2 w_3 w_4 w_5 w_6)))
def lp_X7_rule_39F (p1 : Int32) (p2 : Int32) (p3 : Int32) (mNow : Nat → Int32)  (Q : Int32 → (Nat → Int32) → (Nat → Int32) → (Nat → Int32) → (Nat → Int32) → (Nat → Int32) → (Nat → Int32) → Prop) (R : Int32 → Int32 → Int32 → (Nat → Int32) → (Nat → Int32) → (Nat → Int32) → (Nat → Int32) → (Nat → Int32) → (Nat → Int32) → Prop) (x4 : Int32) (x5 : Int32) (x6 : Int32) (mLea : Nat → Int32) (mLat : Nat → Int32) (mBst : Nat → Int32) (mRsk : Nat → Int32) (mStk : Nat → Int32) (mFct : Nat → Int32) : Prop :=
  ((p2 ≤ x6 → jp_X7_rule_98 p1 p2 p3 mNow Q x4 mLea mLat mBst mRsk mStk mFct) ∧ (¬ (p2 ≤ x6) → ((x5 < 0 → jp_X7_rule_98 p1 p2 p3 mNow Q x4 mLea mLat mBst mRsk mStk mFct) ∧ (¬ (x5 < 0) → wp_X7_riskOf x5 mNow mStk mFct (fun (r_11 : Int32) (w_12 : Nat → Int32) (w_13 : Nat → Int32) => wp_X7_oddsOn x6 mNow w_12 w_13 (fun (r_14 : Int32) (w_15 : Nat → Int32) (w_16 : Nat → Int32) => wp_X7_doesTurn x5 x6 mNow w_15 w_16 (fun (r_17 : Int32) (w_18 : Nat → Int32) (w_19 : Nat → Int32) => ((r_17 = 0 → wp_X7_goes x5 0 mNow (fun (r_21 : Int32) => R (x4 + (r_11 * r_14)) r_21 (x6 + 1) mLea mLat mBst mRsk w_18 w_19)) ∧ (¬ (r_17 = 0) → wp_X7_goes x5 1 mNow (fun (r_22 : Int32) => R (x4 + (r_11 * r_14)) r_22 (x6 + 1) mLea mLat mBst mRsk w_18 w_19))))))))))
def lp_X7_rule_39 (p1 : Int32) (p2 : Int32) (p3 : Int32) (mNow : Nat → Int32)  (Q : Int32 → (Nat → Int32) → (Nat → Int32) → (Nat → Int32) → (Nat → Int32) → (Nat → Int32) → (Nat → Int32) → Prop) (n : Nat) : Int32 → Int32 → Int32 → (Nat → Int32) → (Nat → Int32) → (Nat → Int32) → (Nat → Int32) → (Nat → Int32) → (Nat → Int32) → Prop :=
  Nat.rec (motive := fun _ => Int32 → Int32 → Int32 → (Nat → Int32) → (Nat → Int32) → (Nat → Int32) → (Nat → Int32) → (Nat → Int32) → (Nat → Int32) → Prop) (fun _ _ _ _ _ _ _ _ _ => False) (fun _ r => lp_X7_rule_39F p1 p2 p3 mNow Q r) n
def wp_X7_rule (p1 : Int32) (p2 : Int32) (p3 : Int32) (mNow : Nat → Int32) (mLea : Nat → Int32) (mLat : Nat → Int32) (mBst : Nat → Int32) (mRsk : Nat → Int32) (mStk : Nat → Int32) (mFct : Nat → Int32) (Q : Int32 → (Nat → Int32) → (Nat → Int32) → (Nat → Int32) → (Nat → Int32) → (Nat → Int32) → (Nat → Int32) → Prop) : Prop :=
  wp_X7_isPlace p1 mNow (fun (r_23 : Int32) => ((r_23 = 0 → Q (-1000000001) mLea mLat mBst mRsk mStk mFct) ∧ (¬ (r_23 = 0) → wp_X7_in p2 1 60 (fun (r_25 : Int32) => ((r_25 = 0 → Q (-1000000001) mLea mLat mBst mRsk mStk mFct) ∧ (¬ (r_25 = 0) → wp_X7_in p3 0 1 (fun (r_27 : Int32) => ((¬ r_27 = 0 → (∃ n : Nat, lp_X7_rule_39 p1 p2 p3 mNow Q n 0 p1 0 mLea mLat mBst mRsk mStk mFct)) ∧ (r_27 = 0 → Q (-1000000001) mLea mLat mBst mRsk mStk mFct)))))))))
set_option maxHeartbeats 4000000 in
set_option maxRecDepth 100000 in
theorem c_X7_rule (l : Launch) (E : gE) (mo mn mi ma ml mt mb mr mp mk mq mc mw mz ms mf mu mv mx mh mA mB mC mM mT : Nat) (sz : Nat) (mHI : Int32) (mFC : Int32) (mLC : Int32) (mCg : Int32) (mTp : Int32) (mNx : Int32) (mFr : Int32) (mTk : Int32) (mVa : Int32) (mEn : Int32) (mKe : Int32) (mCs : Int32) (mAt : Int32) (mHd : Int32) (mWg : Int32) (mNow : Nat → Int32) (mImg : Nat → Int32) (mAsd : Nat → Int32) (mLea : Nat → Int32) (mLat : Nat → Int32) (mBst : Nat → Int32) (mRsk : Nat → Int32) (mTap : Nat → Int32) (mKys : Nat → Int32) (mKat : Nat → Int32) (mCod : Nat → Int32) (mWts : Nat → Int32) (mTes : Nat → Int32) (mStk : Nat → Int32) (mFct : Nat → Int32) (mSor : Nat → Int32) (mSiz : Nat → Int32) (mCel : Nat → Int32) (mHol : Nat → Int32) (mHoA : Nat → Int32) (mHoB : Nat → Int32) (mHoC : Nat → Int32) (mMov : Nat → Int32) (mTel : Nat → Int32) (p1 p2 p3 : Int32)  (Q : Int32 → (Nat → Int32) → (Nat → Int32) → (Nat → Int32) → (Nat → Int32) → (Nat → Int32) → (Nat → Int32) → Prop) (h : wp_X7_rule p1 p2 p3 mNow mLea mLat mBst mRsk mStk mFct Q) : Met l yX7_rule wsX7_rule ({ frames := 4, cells := 0, slots := 0, locals := 98 } : Room) (va_Pc [.ref mo, .int p1, .int p2, .int p3] (rc_B E (rw_24 E mo mn mi ma ml mt mb mr mp mk mq mc mw mz ms mf mu mv mx mh mA mB mC mM mT mHI mFC mLC mCg mTp mNx mFr mTk mVa mEn mKe mCs mAt mHd mWg mNow mImg mAsd mLea mLat mBst mRsk mTap mKys mKat mCod mWts mTes mStk mFct mSor mSiz mCel mHol mHoA mHoB mHoC mMov mTel) sz)) (va_Qi (S := (Nat → Int32) × (Nat → Int32) × (Nat → Int32) × (Nat → Int32) × (Nat → Int32) × (Nat → Int32)) (fun (r : Int32) (u : (Nat → Int32) × (Nat → Int32) × (Nat → Int32) × (Nat → Int32) × (Nat → Int32) × (Nat → Int32)) => Q r u.1 u.2.1 u.2.2.1 u.2.2.2.1 u.2.2.2.2.1 u.2.2.2.2.2) (fun u t => rc_C E (va_A (rw_24 E mo mn mi ma ml mt mb mr mp mk mq mc mw mz ms mf mu mv mx mh mA mB mC mM mT mHI mFC mLC mCg mTp mNx mFr mTk mVa mEn mKe mCs mAt mHd mWg mNow mImg mAsd mLea mLat mBst mRsk mTap mKys mKat mCod mWts mTes mStk mFct mSor mSiz mCel mHol mHoA mHoB mHoC mMov mTel) sz) (rw_24 E mo mn mi ma ml mt mb mr mp mk mq mc mw mz ms mf mu mv mx mh mA mB mC mM mT mHI mFC mLC mCg mTp mNx mFr mTk mVa mEn mKe mCs mAt mHd mWg mNow mImg mAsd u.1 u.2.1 u.2.2.1 u.2.2.2.1 mTap mKys mKat mCod mWts mTes u.2.2.2.2.1 u.2.2.2.2.2 mSor mSiz mCel mHol mHoA mHoB mHoC mMov mTel) t) (va_A (rw_24 E mo mn mi ma ml mt mb mr mp mk mq mc mw mz ms mf mu mv mx mh mA mB mC mM mT mHI mFC mLC mCg mTp mNx mFr mTk mVa mEn mKe mCs mAt mHd mWg mNow mImg mAsd mLea mLat mBst mRsk mTap mKys mKat mCod mWts mTes mStk mFct mSor mSiz mCel mHol mHoA mHoB mHoC mMov mTel) sz)) 0 0 (va_A (rw_24 E mo mn mi ma ml mt mb mr mp mk mq mc mw mz ms mf mu mv mx mh mA mB mC mM mT mHI mFC mLC mCg mTp mNx mFr mTk mVa mEn mKe mCs mAt mHd mWg mNow mImg mAsd mLea mLat mBst mRsk mTap mKys mKat mCod mWts mTes mStk mFct mSor mSiz mCel mHol mHoA mHoB mHoC mMov mTel) sz) := by
  refine rc_enterI (cc := cX7_rule) (maxL := 7) (by decide) rfl (Nat.le_of_ble_eq_true rfl) ?_
  intro p e s m args below meth c QQ A hx hb hml hown hts hmn hE hP hD hA hret ls hl
  have hown : s.vm.findClass RX7 = some m.cls := hown
  have hK := hE.1
  have hS : va_S A s.heap s.heap [] := va_S.rf
  have hl : lv_has ls 7 [(0, .ref mo), (1, .int p1), (2, .int p2), (3, .int p3)] := hl
  have n_X7 : ∀ w ∈ wsX70, w ∈ wsX7_rule := fun _ h => List.mem_cons_of_mem _ (List.mem_append_right _ h)
  have k_19 := hts (.fieldLink RX7 19 "RidgeClapsModel" "least" "[I") (List.mem_of_getElem? (i := 2) rfl)
  have k_89 := hts (.constant RX7 89 (-1000000001)) (List.mem_of_getElem? (i := 1) rfl)
  have J98 : ∀ (x4 : Int32) (mLea : Nat → Int32) (mLat : Nat → Int32) (mBst : Nat → Int32) (mRsk : Nat → Int32) (mStk : Nat → Int32) (mFct : Nat → Int32), jp_X7_rule_98 p1 p2 p3 mNow Q x4 mLea mLat mBst mRsk mStk mFct → ∀ (H : Heap) (locs : List Loc), va_P E.1 vwCl (rw_24 E mo mn mi ma ml mt mb mr mp mk mq mc mw mz ms mf mu mv mx mh mA mB mC mM mT mHI mFC mLC mCg mTp mNx mFr mTk mVa mEn mKe mCs mAt mHd mWg mNow mImg mAsd mLea mLat mBst mRsk mTap mKys mKat mCod mWts mTes mStk mFct mSor mSiz mCel mHol mHoA mHoB mHoC mMov mTel) H → va_D A (rw_24 E mo mn mi ma ml mt mb mr mp mk mq mc mw mz ms mf mu mv mx mh mA mB mC mM mT mHI mFC mLC mCg mTp mNx mFr mTk mVa mEn mKe mCs mAt mHd mWg mNow mImg mAsd mLea mLat mBst mRsk mTap mKys mKat mCod mWts mTes mStk mFct mSor mSiz mCel mHol mHoA mHoB mHoC mMov mTel) → va_S A s.heap H locs → ∀ ls : Array Slot, lv_has ls 7 [(0, .ref mo), (1, .int p1), (2, .int p2), (3, .int p3), (4, .int x4)] → W p l e ({ frames := 4, cells := 0, slots := 0, locals := 98 } : Room) s m args below meth c H locs 0 0 QQ (F0 m 98 ls []) := by
    intro x4 mLea mLat mBst mRsk mStk mFct h H locs hP hD hS ls hl
    unfold jp_X7_rule_98 at h
    refine lv_aload_n hx hb dX7_rule_98 rfl (lv_at hl 0 rfl) ?_
    refine lv_iload_n hx hb dX7_rule_99 rfl (lv_at hl 2 rfl) ?_
    have hPc := hP
    have hDc := hD
    have hFc := rc_freeI hD hS hA
    refine va_callv (va_runV (As := [.int p2]) (rest := []) ⟨hx, hb, hml, hown, hts⟩ (c_X7_findTree l E mo mn mi ma ml mt mb mr mp mk mq mc mw mz ms mf mu mv mx mh mA mB mC mM mT H.size mHI mFC mLC mCg mTp mNx mFr mTk mVa mEn mKe mCs mAt mHd mWg mNow mImg mAsd mLea mLat mBst mRsk mTap mKys mKat mCod mWts mTes mStk mFct mSor mSiz mCel mHol mHoA mHoB mHoC mMov mTel p2 _ h) (cwV 1 hts gX7_rule_X7_findTree rfl rfl rfl (by decide +kernel) ⟨Nat.le_of_ble_eq_true rfl, Nat.le_of_ble_eq_true rfl⟩) ⟨fun a U g mk q => ⟨q.1, q.2.blind⟩, va_recv hK hPc (ci := 7) (q0 := 0) rfl rfl, fun U hU hW => ⟨rfl, by rw [hU], by rw [hU]; exact hPc, hE.call hS hFc hW hU, hDc.weaken (fun _ _ _ _ => trivial)⟩⟩ rfl rfl hl.1 rfl (lv_room (Nat.le_of_ble_eq_true rfl)) dX7_rule_100 ⟨Nat.zero_le _, Nat.zero_le _⟩) hS (fun q _ h => hFc q h) hFc (fun u t H1 locs ht hvm h hB hz1 hk1 hS => ?_)
    obtain ⟨w_1, w_2, w_3, w_4, w_5, w_6⟩ := u
    obtain ⟨hP1, hD1⟩ := hB
    rw [ht] at hP1
    have hP := hP1
    have hD := hD1.weaken (fun _ _ _ h => hFc _ h)
    generalize H1 = H at hP hS ⊢
    have hP : va_P E.1 vwCl (rw_24 E mo mn mi ma ml mt mb mr mp mk mq mc mw mz ms mf mu mv mx mh mA mB mC mM mT mHI mFC mLC mCg mTp mNx mFr mTk mVa mEn mKe mCs mAt mHd mWg mNow mImg mAsd w_1 w_2 w_3 w_4 mTap mKys mKat mCod mWts mTes w_5 w_6 mSor mSiz mCel mHol mHoA mHoB mHoC mMov mTel) H := hP
    have hD : va_D A (rw_24 E mo mn mi ma ml mt mb mr mp mk mq mc mw mz ms mf mu mv mx mh mA mB mC mM mT mHI mFC mLC mCg mTp mNx mFr mTk mVa mEn mKe mCs mAt mHd mWg mNow mImg mAsd w_1 w_2 w_3 w_4 mTap mKys mKat mCod mWts mTes w_5 w_6 mSor mSiz mCel mHol mHoA mHoB mHoC mMov mTel) := hD
    refine lv_iload_n hx hb dX7_rule_103 rfl (lv_at hl 3 rfl) ?_
    refine lv_if_ne (tgt := 112) hx hb dX7_rule_104 (by decide) (fun c_7 => ?_) (fun c_7 => ?_)
    · have h := h.1 c_7
      refine lv_iload hx hb dX7_rule_112 (lv_at hl 4 rfl) ?_
      refine lv_aload_n hx hb dX7_rule_114 rfl (lv_at hl 0 rfl) ?_
      refine va_get (D := E.1) (ci := 7) (v := .ref ml) (C := RX7) (T := TX7) (N := 39) hx hb hts n_X7 hown hK hP 0 rfl rfl 4 (by decide) k_19 (fun _ h9 => h9) rfl dX7_rule_115 ?_
      refine lv_iload_n hx hb dX7_rule_118 rfl (lv_at hl 1 rfl) ?_
      obtain ⟨o_8, h⟩ := h
      refine rc_iald hx hb hK hP 4 0 rfl rfl p1.toNatClampNeg rfl o_8 dX7_rule_119 ?_
      refine lv_isub hx hb dX7_rule_120 ?_
      exact hret _ _ _ _ (x4 - (w_1 p1.toNatClampNeg)) (w_1, w_2, w_3, w_4, w_5, w_6) rfl h hP hD hS dX7_rule_121
    · have h := h.2 c_7
      refine lv_iload hx hb dX7_rule_107 (lv_at hl 4 rfl) ?_
      refine lv_goto (tgt := 121) hx hb dX7_rule_109 (by decide) ?_
      exact hret _ _ _ _ x4 (w_1, w_2, w_3, w_4, w_5, w_6) rfl h hP hD hS dX7_rule_121
  have J39 : ∀ (n : Nat) (x4 : Int32) (x5 : Int32) (x6 : Int32) (mLea : Nat → Int32) (mLat : Nat → Int32) (mBst : Nat → Int32) (mRsk : Nat → Int32) (mStk : Nat → Int32) (mFct : Nat → Int32), lp_X7_rule_39 p1 p2 p3 mNow Q n x4 x5 x6 mLea mLat mBst mRsk mStk mFct → ∀ (H : Heap) (locs : List Loc), va_P E.1 vwCl (rw_24 E mo mn mi ma ml mt mb mr mp mk mq mc mw mz ms mf mu mv mx mh mA mB mC mM mT mHI mFC mLC mCg mTp mNx mFr mTk mVa mEn mKe mCs mAt mHd mWg mNow mImg mAsd mLea mLat mBst mRsk mTap mKys mKat mCod mWts mTes mStk mFct mSor mSiz mCel mHol mHoA mHoB mHoC mMov mTel) H → va_D A (rw_24 E mo mn mi ma ml mt mb mr mp mk mq mc mw mz ms mf mu mv mx mh mA mB mC mM mT mHI mFC mLC mCg mTp mNx mFr mTk mVa mEn mKe mCs mAt mHd mWg mNow mImg mAsd mLea mLat mBst mRsk mTap mKys mKat mCod mWts mTes mStk mFct mSor mSiz mCel mHol mHoA mHoB mHoC mMov mTel) → va_S A s.heap H locs → ∀ ls : Array Slot, lv_has ls 7 [(0, .ref mo), (1, .int p1), (2, .int p2), (3, .int p3), (4, .int x4), (5, .int x5), (6, .int x6)] → W p l e ({ frames := 4, cells := 0, slots := 0, locals := 98 } : Room) s m args below meth c H locs 0 0 QQ (F0 m 39 ls []) := by
    intro n
    induction n with
    | zero =>
      intro x4 x5 x6 mLea mLat mBst mRsk mStk mFct h
      exact False.elim h
    | succ n ih =>
      intro x4 x5 x6 mLea mLat mBst mRsk mStk mFct h H locs hP hD hS ls hl
      have h : lp_X7_rule_39F p1 p2 p3 mNow Q (lp_X7_rule_39 p1 p2 p3 mNow Q n) x4 x5 x6 mLea mLat mBst mRsk mStk mFct := h
      unfold lp_X7_rule_39F at h
      refine lv_iload hx hb dX7_rule_39 (lv_at hl 6 rfl) ?_
      refine lv_iload_n hx hb dX7_rule_41 rfl (lv_at hl 2 rfl) ?_
      refine lv_icmp_ge (tgt := 98) hx hb dX7_rule_42 (by decide) (fun c_9 => ?_) (fun c_9 => ?_)
      · have h := h.1 c_9
        exact J98 x4 mLea mLat mBst mRsk mStk mFct h _ _ hP hD hS ls (lv_sub hl [0, 1, 2, 3, 4] rfl)
      · have h := h.2 c_9
        refine lv_iload hx hb dX7_rule_45 (lv_at hl 5 rfl) ?_
        refine lv_if_lt (tgt := 98) hx hb dX7_rule_47 (by decide) (fun c_10 => ?_) (fun c_10 => ?_)
        · have h := h.1 c_10
          exact J98 x4 mLea mLat mBst mRsk mStk mFct h _ _ hP hD hS ls (lv_sub hl [0, 1, 2, 3, 4] rfl)
        · have h := h.2 c_10
          refine lv_iload hx hb dX7_rule_50 (lv_at hl 4 rfl) ?_
          refine lv_aload_n hx hb dX7_rule_52 rfl (lv_at hl 0 rfl) ?_
          refine lv_iload hx hb dX7_rule_53 (lv_at hl 5 rfl) ?_
          have hPc := hP
          have hDc := hD
          have hFc := rc_freeI hD hS hA
          refine va_calli (va_runV (As := [.int x5]) (rest := [.int x4]) ⟨hx, hb, hml, hown, hts⟩ (c_X7_riskOf l E mo mn mi ma ml mt mb mr mp mk mq mc mw mz ms mf mu mv mx mh mA mB mC mM mT H.size mHI mFC mLC mCg mTp mNx mFr mTk mVa mEn mKe mCs mAt mHd mWg mNow mImg mAsd mLea mLat mBst mRsk mTap mKys mKat mCod mWts mTes mStk mFct mSor mSiz mCel mHol mHoA mHoB mHoC mMov mTel x5 _ h) (cwV 1 hts gX7_rule_X7_riskOf rfl rfl rfl (by decide +kernel) ⟨Nat.le_of_ble_eq_true rfl, Nat.le_of_ble_eq_true rfl⟩) ⟨fun a U g mk q => ⟨q.1, q.2.blind⟩, va_recv hK hPc (ci := 7) (q0 := 0) rfl rfl, fun U hU hW => ⟨rfl, by rw [hU], by rw [hU]; exact hPc, hE.call hS hFc hW hU, hDc.weaken (fun _ _ _ _ => trivial)⟩⟩ rfl rfl hl.1 rfl (lv_room (Nat.le_of_ble_eq_true rfl)) dX7_rule_55 ⟨Nat.zero_le _, Nat.zero_le _⟩) hS (fun q _ h => hFc q h) hFc (fun r_11 u t H1 locs ht hvm h hB hz1 hk1 hS => ?_)
          obtain ⟨w_12, w_13⟩ := u
          obtain ⟨hP1, hD1⟩ := hB
          rw [ht] at hP1
          have hP := hP1
          have hD := hD1.weaken (fun _ _ _ h => hFc _ h)
          generalize H1 = H at hP hS ⊢
          have hP : va_P E.1 vwCl (rw_24 E mo mn mi ma ml mt mb mr mp mk mq mc mw mz ms mf mu mv mx mh mA mB mC mM mT mHI mFC mLC mCg mTp mNx mFr mTk mVa mEn mKe mCs mAt mHd mWg mNow mImg mAsd mLea mLat mBst mRsk mTap mKys mKat mCod mWts mTes w_12 w_13 mSor mSiz mCel mHol mHoA mHoB mHoC mMov mTel) H := hP
          have hD : va_D A (rw_24 E mo mn mi ma ml mt mb mr mp mk mq mc mw mz ms mf mu mv mx mh mA mB mC mM mT mHI mFC mLC mCg mTp mNx mFr mTk mVa mEn mKe mCs mAt mHd mWg mNow mImg mAsd mLea mLat mBst mRsk mTap mKys mKat mCod mWts mTes w_12 w_13 mSor mSiz mCel mHol mHoA mHoB mHoC mMov mTel) := hD
          refine lv_aload_n hx hb dX7_rule_58 rfl (lv_at hl 0 rfl) ?_
          refine lv_iload hx hb dX7_rule_59 (lv_at hl 6 rfl) ?_
          have hPc := hP
          have hDc := hD
          have hFc := rc_freeI hD hS hA
          refine va_calli (va_runV (As := [.int x6]) (rest := [.int r_11, .int x4]) ⟨hx, hb, hml, hown, hts⟩ (c_X7_oddsOn l E mo mn mi ma ml mt mb mr mp mk mq mc mw mz ms mf mu mv mx mh mA mB mC mM mT H.size mHI mFC mLC mCg mTp mNx mFr mTk mVa mEn mKe mCs mAt mHd mWg mNow mImg mAsd mLea mLat mBst mRsk mTap mKys mKat mCod mWts mTes w_12 w_13 mSor mSiz mCel mHol mHoA mHoB mHoC mMov mTel x6 _ h) (cwV 1 hts gX7_rule_X7_oddsOn rfl rfl rfl (by decide +kernel) ⟨Nat.le_of_ble_eq_true rfl, Nat.le_of_ble_eq_true rfl⟩) ⟨fun a U g mk q => ⟨q.1, q.2.blind⟩, va_recv hK hPc (ci := 7) (q0 := 0) rfl rfl, fun U hU hW => ⟨rfl, by rw [hU], by rw [hU]; exact hPc, hE.call hS hFc hW hU, hDc.weaken (fun _ _ _ _ => trivial)⟩⟩ rfl rfl hl.1 rfl (lv_room (Nat.le_of_ble_eq_true rfl)) dX7_rule_61 ⟨Nat.zero_le _, Nat.zero_le _⟩) hS (fun q _ h => hFc q h) hFc (fun r_14 u t H1 locs ht hvm h hB hz1 hk1 hS => ?_)
          obtain ⟨w_15, w_16⟩ := u
          obtain ⟨hP1, hD1⟩ := hB
          rw [ht] at hP1
          have hP := hP1
          have hD := hD1.weaken (fun _ _ _ h => hFc _ h)
          generalize H1 = H at hP hS ⊢
          have hP : va_P E.1 vwCl (rw_24 E mo mn mi ma ml mt mb mr mp mk mq mc mw mz ms mf mu mv mx mh mA mB mC mM mT mHI mFC mLC mCg mTp mNx mFr mTk mVa mEn mKe mCs mAt mHd mWg mNow mImg mAsd mLea mLat mBst mRsk mTap mKys mKat mCod mWts mTes w_15 w_16 mSor mSiz mCel mHol mHoA mHoB mHoC mMov mTel) H := hP
          have hD : va_D A (rw_24 E mo mn mi ma ml mt mb mr mp mk mq mc mw mz ms mf mu mv mx mh mA mB mC mM mT mHI mFC mLC mCg mTp mNx mFr mTk mVa mEn mKe mCs mAt mHd mWg mNow mImg mAsd mLea mLat mBst mRsk mTap mKys mKat mCod mWts mTes w_15 w_16 mSor mSiz mCel mHol mHoA mHoB mHoC mMov mTel) := hD
          refine lv_imul hx hb dX7_rule_64 ?_
          refine lv_iadd hx hb dX7_rule_65 ?_
          refine lv_istore (lv' := [(4, .int (x4 + (r_11 * r_14))), (0, .ref mo), (1, .int p1), (2, .int p2), (3, .int p3), (5, .int x5), (6, .int x6)]) hx hb dX7_rule_66 hl (by decide) rfl (fun ls hl => ?_)
          refine lv_aload_n hx hb dX7_rule_68 rfl (lv_at hl 1 rfl) ?_
          refine lv_iload hx hb dX7_rule_69 (lv_at hl 5 rfl) ?_
          refine lv_aload_n hx hb dX7_rule_71 rfl (lv_at hl 1 rfl) ?_
          refine lv_iload hx hb dX7_rule_72 (lv_at hl 5 rfl) ?_
          refine lv_iload hx hb dX7_rule_74 (lv_at hl 6 rfl) ?_
          have hPc := hP
          have hDc := hD
          have hFc := rc_freeI hD hS hA
          refine va_calli (va_runV (As := [.int x5, .int x6]) (rest := [.int x5, .ref mo]) ⟨hx, hb, hml, hown, hts⟩ (c_X7_doesTurn l E mo mn mi ma ml mt mb mr mp mk mq mc mw mz ms mf mu mv mx mh mA mB mC mM mT H.size mHI mFC mLC mCg mTp mNx mFr mTk mVa mEn mKe mCs mAt mHd mWg mNow mImg mAsd mLea mLat mBst mRsk mTap mKys mKat mCod mWts mTes w_15 w_16 mSor mSiz mCel mHol mHoA mHoB mHoC mMov mTel x5 x6 _ h) (cwV 2 hts gX7_rule_X7_doesTurn rfl rfl rfl (by decide +kernel) ⟨Nat.le_of_ble_eq_true rfl, Nat.le_of_ble_eq_true rfl⟩) ⟨fun a U g mk q => ⟨q.1, q.2.blind⟩, va_recv hK hPc (ci := 7) (q0 := 0) rfl rfl, fun U hU hW => ⟨rfl, by rw [hU], by rw [hU]; exact hPc, hE.call hS hFc hW hU, hDc.weaken (fun _ _ _ _ => trivial)⟩⟩ rfl rfl hl.1 rfl (lv_room (Nat.le_of_ble_eq_true rfl)) dX7_rule_76 ⟨Nat.zero_le _, Nat.zero_le _⟩) hS (fun q _ h => hFc q h) hFc (fun r_17 u t H1 locs ht hvm h hB hz1 hk1 hS => ?_)
          obtain ⟨w_18, w_19⟩ := u
          obtain ⟨hP1, hD1⟩ := hB
          rw [ht] at hP1
          have hP := hP1
          have hD := hD1.weaken (fun _ _ _ h => hFc _ h)
          generalize H1 = H at hP hS ⊢
          have hP : va_P E.1 vwCl (rw_24 E mo mn mi ma ml mt mb mr mp mk mq mc mw mz ms mf mu mv mx mh mA mB mC mM mT mHI mFC mLC mCg mTp mNx mFr mTk mVa mEn mKe mCs mAt mHd mWg mNow mImg mAsd mLea mLat mBst mRsk mTap mKys mKat mCod mWts mTes w_18 w_19 mSor mSiz mCel mHol mHoA mHoB mHoC mMov mTel) H := hP
          have hD : va_D A (rw_24 E mo mn mi ma ml mt mb mr mp mk mq mc mw mz ms mf mu mv mx mh mA mB mC mM mT mHI mFC mLC mCg mTp mNx mFr mTk mVa mEn mKe mCs mAt mHd mWg mNow mImg mAsd mLea mLat mBst mRsk mTap mKys mKat mCod mWts mTes w_18 w_19 mSor mSiz mCel mHol mHoA mHoB mHoC mMov mTel) := hD
          refine lv_if_eq (tgt := 86) hx hb dX7_rule_79 (by decide) (fun c_20 => ?_) (fun c_20 => ?_)
          · have h := h.1 c_20
            refine lv_iconst (v := 0) hx hb dX7_rule_86 (by decide) ?_
            have hPc := hP
            have hDc := hD
            have hFc := rc_freeI hD hS hA
            refine va_calli (va_runV (As := [.int x5, .int 0]) (rest := []) ⟨hx, hb, hml, hown, hts⟩ (c_X7_goes l E mo mn mi ma ml mt mb mr mp mk mq mc mw mz ms mf mu mv mx mh mA mB mC mM mT H.size mHI mFC mLC mCg mTp mNx mFr mTk mVa mEn mKe mCs mAt mHd mWg mNow mImg mAsd mLea mLat mBst mRsk mTap mKys mKat mCod mWts mTes w_18 w_19 mSor mSiz mCel mHol mHoA mHoB mHoC mMov mTel x5 0 _ h) (cwV 2 hts gX7_rule_X7_goes rfl rfl rfl (by decide +kernel) ⟨Nat.le_of_ble_eq_true rfl, Nat.le_of_ble_eq_true rfl⟩) ⟨fun a U g mk q => ⟨q.1, q.2.blind⟩, va_recv hK hPc (ci := 7) (q0 := 0) rfl rfl, fun U hU hW => ⟨rfl, by rw [hU], by rw [hU]; exact hPc, hE.call hS hFc hW hU, hDc.weaken (fun _ _ _ _ => trivial)⟩⟩ rfl rfl hl.1 rfl (lv_room (Nat.le_of_ble_eq_true rfl)) dX7_rule_87 ⟨Nat.zero_le _, Nat.zero_le _⟩) hS (fun q _ h => hFc q h) hFc (fun r_21 u t H1 locs ht hvm h hB hz1 hk1 hS => ?_)
            obtain ⟨hP1, hD1⟩ := hB
            rw [ht] at hP1
            have hP := hP1
            have hD := hD1.weaken (fun _ _ _ h => hFc _ h)
            generalize H1 = H at hP hS ⊢
            have hP : va_P E.1 vwCl (rw_24 E mo mn mi ma ml mt mb mr mp mk mq mc mw mz ms mf mu mv mx mh mA mB mC mM mT mHI mFC mLC mCg mTp mNx mFr mTk mVa mEn mKe mCs mAt mHd mWg mNow mImg mAsd mLea mLat mBst mRsk mTap mKys mKat mCod mWts mTes w_18 w_19 mSor mSiz mCel mHol mHoA mHoB mHoC mMov mTel) H := hP
            have hD : va_D A (rw_24 E mo mn mi ma ml mt mb mr mp mk mq mc mw mz ms mf mu mv mx mh mA mB mC mM mT mHI mFC mLC mCg mTp mNx mFr mTk mVa mEn mKe mCs mAt mHd mWg mNow mImg mAsd mLea mLat mBst mRsk mTap mKys mKat mCod mWts mTes w_18 w_19 mSor mSiz mCel mHol mHoA mHoB mHoC mMov mTel) := hD
            refine lv_istore (lv' := [(5, .int r_21), (4, .int (x4 + (r_11 * r_14))), (0, .ref mo), (1, .int p1), (2, .int p2), (3, .int p3), (6, .int x6)]) hx hb dX7_rule_90 hl (by decide) rfl (fun ls hl => ?_)
            refine lv_iinc (v := x6 + 1) (lv' := [(6, .int (x6 + 1)), (5, .int r_21), (4, .int (x4 + (r_11 * r_14))), (0, .ref mo), (1, .int p1), (2, .int p2), (3, .int p3)]) hx hb dX7_rule_92 hl (k := 6) rfl (by rfl) (by decide) rfl (fun ls hl => ?_)
            refine lv_goto (tgt := 39) hx hb dX7_rule_95 (by decide) ?_
            exact ih (x4 + (r_11 * r_14)) r_21 (x6 + 1) mLea mLat mBst mRsk w_18 w_19 h _ _ hP hD hS ls (lv_sub hl [3, 4, 5, 6, 2, 1, 0] rfl)
          · have h := h.2 c_20
            refine lv_iconst (v := 1) hx hb dX7_rule_82 (by decide) ?_
            refine lv_goto (tgt := 87) hx hb dX7_rule_83 (by decide) ?_
            have hPc := hP
            have hDc := hD
            have hFc := rc_freeI hD hS hA
            refine va_calli (va_runV (As := [.int x5, .int 1]) (rest := []) ⟨hx, hb, hml, hown, hts⟩ (c_X7_goes l E mo mn mi ma ml mt mb mr mp mk mq mc mw mz ms mf mu mv mx mh mA mB mC mM mT H.size mHI mFC mLC mCg mTp mNx mFr mTk mVa mEn mKe mCs mAt mHd mWg mNow mImg mAsd mLea mLat mBst mRsk mTap mKys mKat mCod mWts mTes w_18 w_19 mSor mSiz mCel mHol mHoA mHoB mHoC mMov mTel x5 1 _ h) (cwV 2 hts gX7_rule_X7_goes rfl rfl rfl (by decide +kernel) ⟨Nat.le_of_ble_eq_true rfl, Nat.le_of_ble_eq_true rfl⟩) ⟨fun a U g mk q => ⟨q.1, q.2.blind⟩, va_recv hK hPc (ci := 7) (q0 := 0) rfl rfl, fun U hU hW => ⟨rfl, by rw [hU], by rw [hU]; exact hPc, hE.call hS hFc hW hU, hDc.weaken (fun _ _ _ _ => trivial)⟩⟩ rfl rfl hl.1 rfl (lv_room (Nat.le_of_ble_eq_true rfl)) dX7_rule_87 ⟨Nat.zero_le _, Nat.zero_le _⟩) hS (fun q _ h => hFc q h) hFc (fun r_22 u t H1 locs ht hvm h hB hz1 hk1 hS => ?_)
            obtain ⟨hP1, hD1⟩ := hB
            rw [ht] at hP1
            have hP := hP1
            have hD := hD1.weaken (fun _ _ _ h => hFc _ h)
            generalize H1 = H at hP hS ⊢
            have hP : va_P E.1 vwCl (rw_24 E mo mn mi ma ml mt mb mr mp mk mq mc mw mz ms mf mu mv mx mh mA mB mC mM mT mHI mFC mLC mCg mTp mNx mFr mTk mVa mEn mKe mCs mAt mHd mWg mNow mImg mAsd mLea mLat mBst mRsk mTap mKys mKat mCod mWts mTes w_18 w_19 mSor mSiz mCel mHol mHoA mHoB mHoC mMov mTel) H := hP
            have hD : va_D A (rw_24 E mo mn mi ma ml mt mb mr mp mk mq mc mw mz ms mf mu mv mx mh mA mB mC mM mT mHI mFC mLC mCg mTp mNx mFr mTk mVa mEn mKe mCs mAt mHd mWg mNow mImg mAsd mLea mLat mBst mRsk mTap mKys mKat mCod mWts mTes w_18 w_19 mSor mSiz mCel mHol mHoA mHoB mHoC mMov mTel) := hD
            refine lv_istore (lv' := [(5, .int r_22), (4, .int (x4 + (r_11 * r_14))), (0, .ref mo), (1, .int p1), (2, .int p2), (3, .int p3), (6, .int x6)]) hx hb dX7_rule_90 hl (by decide) rfl (fun ls hl => ?_)
            refine lv_iinc (v := x6 + 1) (lv' := [(6, .int (x6 + 1)), (5, .int r_22), (4, .int (x4 + (r_11 * r_14))), (0, .ref mo), (1, .int p1), (2, .int p2), (3, .int p3)]) hx hb dX7_rule_92 hl (k := 6) rfl (by rfl) (by decide) rfl (fun ls hl => ?_)
            refine lv_goto (tgt := 39) hx hb dX7_rule_95 (by decide) ?_
            exact ih (x4 + (r_11 * r_14)) r_22 (x6 + 1) mLea mLat mBst mRsk w_18 w_19 h _ _ hP hD hS ls (lv_sub hl [3, 4, 5, 6, 2, 1, 0] rfl)
  unfold wp_X7_rule at h
  obtain ⟨H, hH⟩ : ∃ H, H = s.heap := ⟨_, rfl⟩
  obtain ⟨locs, hlocs⟩ : ∃ locs : List Loc, locs = [] := ⟨_, rfl⟩
  have hP : va_P E.1 vwCl (rw_24 E mo mn mi ma ml mt mb mr mp mk mq mc mw mz ms mf mu mv mx mh mA mB mC mM mT mHI mFC mLC mCg mTp mNx mFr mTk mVa mEn mKe mCs mAt mHd mWg mNow mImg mAsd mLea mLat mBst mRsk mTap mKys mKat mCod mWts mTes mStk mFct mSor mSiz mCel mHol mHoA mHoB mHoC mMov mTel) H := by rw [hH]; exact hP
  have hS : va_S A s.heap H locs := by rw [hH, hlocs]; exact hS
  suffices hgo : W p l e ({ frames := 4, cells := 0, slots := 0, locals := 98 } : Room) s m args below meth c H locs 0 0 QQ (F0 m 0 ls []) from by rw [hH, hlocs] at hgo; exact hgo
  refine lv_aload_n hx hb dX7_rule_0 rfl (lv_at hl 0 rfl) ?_
  refine lv_iload_n hx hb dX7_rule_1 rfl (lv_at hl 1 rfl) ?_
  have hPc := hP
  have hDc := hD
  have hFc := rc_freeI hD hS hA
  refine va_calli (va_runV (As := [.int p1]) (rest := []) ⟨hx, hb, hml, hown, hts⟩ (c_X7_isPlace l E mo mn mi ma ml mt mb mr mp mk mq mc mw mz ms mf mu mv mx mh mA mB mC mM mT H.size mHI mFC mLC mCg mTp mNx mFr mTk mVa mEn mKe mCs mAt mHd mWg mNow mImg mAsd mLea mLat mBst mRsk mTap mKys mKat mCod mWts mTes mStk mFct mSor mSiz mCel mHol mHoA mHoB mHoC mMov mTel p1 _ h) (cwV 1 hts gX7_rule_X7_isPlace rfl rfl rfl (by decide +kernel) ⟨Nat.le_of_ble_eq_true rfl, Nat.le_of_ble_eq_true rfl⟩) ⟨fun a U g mk q => ⟨q.1, q.2.blind⟩, va_recv hK hPc (ci := 7) (q0 := 0) rfl rfl, fun U hU hW => ⟨rfl, by rw [hU], by rw [hU]; exact hPc, hE.call hS hFc hW hU, hDc.weaken (fun _ _ _ _ => trivial)⟩⟩ rfl rfl hl.1 rfl (lv_room (Nat.le_of_ble_eq_true rfl)) dX7_rule_2 ⟨Nat.zero_le _, Nat.zero_le _⟩) hS (fun q _ h => hFc q h) hFc (fun r_23 u t H1 locs ht hvm h hB hz1 hk1 hS => ?_)
  obtain ⟨hP1, hD1⟩ := hB
  rw [ht] at hP1
  have hP := hP1
  have hD := hD1.weaken (fun _ _ _ h => hFc _ h)
  generalize H1 = H at hP hS ⊢
  have hP : va_P E.1 vwCl (rw_24 E mo mn mi ma ml mt mb mr mp mk mq mc mw mz ms mf mu mv mx mh mA mB mC mM mT mHI mFC mLC mCg mTp mNx mFr mTk mVa mEn mKe mCs mAt mHd mWg mNow mImg mAsd mLea mLat mBst mRsk mTap mKys mKat mCod mWts mTes mStk mFct mSor mSiz mCel mHol mHoA mHoB mHoC mMov mTel) H := hP
  have hD : va_D A (rw_24 E mo mn mi ma ml mt mb mr mp mk mq mc mw mz ms mf mu mv mx mh mA mB mC mM mT mHI mFC mLC mCg mTp mNx mFr mTk mVa mEn mKe mCs mAt mHd mWg mNow mImg mAsd mLea mLat mBst mRsk mTap mKys mKat mCod mWts mTes mStk mFct mSor mSiz mCel mHol mHoA mHoB mHoC mMov mTel) := hD
  refine lv_if_eq (tgt := 27) hx hb dX7_rule_5 (by decide) (fun c_24 => ?_) (fun c_24 => ?_)
  · have h := h.1 c_24
    refine lv_ldc hx hb hown k_89 dX7_rule_27 ?_
    exact hret _ _ _ _ (-1000000001) (mLea, mLat, mBst, mRsk, mStk, mFct) rfl h hP hD hS dX7_rule_29
  · have h := h.2 c_24
    refine lv_iload_n hx hb dX7_rule_8 rfl (lv_at hl 2 rfl) ?_
    refine lv_iconst (v := 1) hx hb dX7_rule_9 (by decide) ?_
    refine lv_bipush (v := 60) hx hb dX7_rule_10 (by decide) ?_
    have hPc := hP.sub (ws' := []) [] rfl
    have hDc := hD.sub (ws' := []) [] (by decide) rfl
    have hFc := va_free (wc := []) hD hS hA [] rfl
    refine va_calli (va_runS (As := [.int p2, .int 1, .int 60]) (rest := []) ⟨hx, hb, hml, hown, hts⟩ (c_X7_in l E H.size p2 1 60 _ h) (va_cwS 3 hts gX7_rule_X7_in rfl rfl rfl (by decide +kernel) ⟨Nat.le_of_ble_eq_true rfl, Nat.le_of_ble_eq_true rfl⟩) ⟨fun a U g mk q => ⟨q.1, q.2.blind⟩, fun U hU hW => ⟨rfl, by rw [hU], by rw [hU]; exact hPc, hE.call hS hFc hW hU, hDc.weaken (fun _ _ _ _ => trivial)⟩⟩ rfl rfl hl.1 rfl (lv_room (Nat.le_of_ble_eq_true rfl)) dX7_rule_12 ⟨Nat.zero_le _, Nat.zero_le _⟩) hS (fun q _ h => hFc q h) hFc (fun r_25 u t H1 locs ht hvm h hB hz1 hk1 hS => ?_)
    obtain ⟨hP1, hD1⟩ := hB
    rw [ht] at hP1
    obtain ⟨hP, hD⟩ := rc_foc hP hD [] [none, none, none, none, none, none, none, none, none, none, none, none, none, none, none, none, none, none, none, none, none, none, none, none, none] (by decide) rfl hk1 hP1 rfl
    generalize H1 = H at hP hS ⊢
    have hP : va_P E.1 vwCl (rw_24 E mo mn mi ma ml mt mb mr mp mk mq mc mw mz ms mf mu mv mx mh mA mB mC mM mT mHI mFC mLC mCg mTp mNx mFr mTk mVa mEn mKe mCs mAt mHd mWg mNow mImg mAsd mLea mLat mBst mRsk mTap mKys mKat mCod mWts mTes mStk mFct mSor mSiz mCel mHol mHoA mHoB mHoC mMov mTel) H := hP
    have hD : va_D A (rw_24 E mo mn mi ma ml mt mb mr mp mk mq mc mw mz ms mf mu mv mx mh mA mB mC mM mT mHI mFC mLC mCg mTp mNx mFr mTk mVa mEn mKe mCs mAt mHd mWg mNow mImg mAsd mLea mLat mBst mRsk mTap mKys mKat mCod mWts mTes mStk mFct mSor mSiz mCel mHol mHoA mHoB mHoC mMov mTel) := hD
    refine lv_if_eq (tgt := 27) hx hb dX7_rule_15 (by decide) (fun c_26 => ?_) (fun c_26 => ?_)
    · have h := h.1 c_26
      refine lv_ldc hx hb hown k_89 dX7_rule_27 ?_
      exact hret _ _ _ _ (-1000000001) (mLea, mLat, mBst, mRsk, mStk, mFct) rfl h hP hD hS dX7_rule_29
    · have h := h.2 c_26
      refine lv_iload_n hx hb dX7_rule_18 rfl (lv_at hl 3 rfl) ?_
      refine lv_iconst (v := 0) hx hb dX7_rule_19 (by decide) ?_
      refine lv_iconst (v := 1) hx hb dX7_rule_20 (by decide) ?_
      have hPc := hP.sub (ws' := []) [] rfl
      have hDc := hD.sub (ws' := []) [] (by decide) rfl
      have hFc := va_free (wc := []) hD hS hA [] rfl
      refine va_calli (va_runS (As := [.int p3, .int 0, .int 1]) (rest := []) ⟨hx, hb, hml, hown, hts⟩ (c_X7_in l E H.size p3 0 1 _ h) (va_cwS 3 hts gX7_rule_X7_in rfl rfl rfl (by decide +kernel) ⟨Nat.le_of_ble_eq_true rfl, Nat.le_of_ble_eq_true rfl⟩) ⟨fun a U g mk q => ⟨q.1, q.2.blind⟩, fun U hU hW => ⟨rfl, by rw [hU], by rw [hU]; exact hPc, hE.call hS hFc hW hU, hDc.weaken (fun _ _ _ _ => trivial)⟩⟩ rfl rfl hl.1 rfl (lv_room (Nat.le_of_ble_eq_true rfl)) dX7_rule_21 ⟨Nat.zero_le _, Nat.zero_le _⟩) hS (fun q _ h => hFc q h) hFc (fun r_27 u t H1 locs ht hvm h hB hz1 hk1 hS => ?_)
      obtain ⟨hP1, hD1⟩ := hB
      rw [ht] at hP1
      obtain ⟨hP, hD⟩ := rc_foc hP hD [] [none, none, none, none, none, none, none, none, none, none, none, none, none, none, none, none, none, none, none, none, none, none, none, none, none] (by decide) rfl hk1 hP1 rfl
      generalize H1 = H at hP hS ⊢
      have hP : va_P E.1 vwCl (rw_24 E mo mn mi ma ml mt mb mr mp mk mq mc mw mz ms mf mu mv mx mh mA mB mC mM mT mHI mFC mLC mCg mTp mNx mFr mTk mVa mEn mKe mCs mAt mHd mWg mNow mImg mAsd mLea mLat mBst mRsk mTap mKys mKat mCod mWts mTes mStk mFct mSor mSiz mCel mHol mHoA mHoB mHoC mMov mTel) H := hP
      have hD : va_D A (rw_24 E mo mn mi ma ml mt mb mr mp mk mq mc mw mz ms mf mu mv mx mh mA mB mC mM mT mHI mFC mLC mCg mTp mNx mFr mTk mVa mEn mKe mCs mAt mHd mWg mNow mImg mAsd mLea mLat mBst mRsk mTap mKys mKat mCod mWts mTes mStk mFct mSor mSiz mCel mHol mHoA mHoB mHoC mMov mTel) := hD
      refine lv_if_ne (tgt := 30) hx hb dX7_rule_24 (by decide) (fun c_28 => ?_) (fun c_28 => ?_)
      · have h := h.1 c_28
        refine lv_iconst (v := 0) hx hb dX7_rule_30 (by decide) ?_
        refine lv_istore (lv' := [(4, .int 0), (0, .ref mo), (1, .int p1), (2, .int p2), (3, .int p3)]) hx hb dX7_rule_31 hl (by decide) rfl (fun ls hl => ?_)
        refine lv_iload_n hx hb dX7_rule_33 rfl (lv_at hl 2 rfl) ?_
        refine lv_istore (lv' := [(5, .int p1), (4, .int 0), (0, .ref mo), (1, .int p1), (2, .int p2), (3, .int p3)]) hx hb dX7_rule_34 hl (by decide) rfl (fun ls hl => ?_)
        refine lv_iconst (v := 0) hx hb dX7_rule_36 (by decide) ?_
        refine lv_istore (lv' := [(6, .int 0), (5, .int p1), (4, .int 0), (0, .ref mo), (1, .int p1), (2, .int p2), (3, .int p3)]) hx hb dX7_rule_37 hl (by decide) rfl (fun ls hl => ?_)
        obtain ⟨n, h⟩ := h
        exact J39 n 0 p1 0 mLea mLat mBst mRsk mStk mFct h _ _ hP hD hS ls (lv_sub hl [3, 4, 5, 6, 2, 1, 0] rfl)
      · have h := h.2 c_28
        refine lv_ldc hx hb hown k_89 dX7_rule_27 ?_
        exact hret _ _ _ _ (-1000000001) (mLea, mLat, mBst, mRsk, mStk, mFct) rfl h hP hD hS dX7_rule_29
def lp_X7_hide_33F (p1 : Int32) (p2 : Int32) (mNow : Nat → Int32)  (Q : Int32 → (Nat → Int32) → (Nat → Int32) → Prop) (R : Int32 → Int32 → (Nat → Int32) → (Nat → Int32) → Prop) (x3 : Int32) (x4 : Int32) (mStk : Nat → Int32) (mFct : Nat → Int32) : Prop :=
  ((x4 < 0 → Q x3 mStk mFct) ∧ (¬ (x4 < 0) → wp_X7_in (x4 - p1) (-p2) p2 (fun (r_2 : Int32) => ((r_2 = 0 → R x3 (x4 + (-1)) mStk mFct) ∧ (¬ (r_2 = 0) → wp_X7_riskOf x4 mNow mStk mFct (fun (r_4 : Int32) (w_5 : Nat → Int32) (w_6 : Nat → Int32) => wp_X7_riskOf x3 mNow w_5 w_6 (fun (r_7 : Int32) (w_8 : Nat → Int32) (w_9 : Nat → Int32) => ((r_4 < r_7 → R x4 (x4 + (-1)) w_8 w_9) ∧ (¬ (r_4 < r_7) → wp_X7_riskOf x4 mNow w_8 w_9 (fun (r_11 : Int32) (w_12 : Nat → Int32) (w_13 : Nat → Int32) => wp_X7_riskOf x3 mNow w_12 w_13 (fun (r_14 : Int32) (w_15 : Nat → Int32) (w_16 : Nat → Int32) => ((¬ r_11 = r_14 → R x3 (x4 + (-1)) w_15 w_16) ∧ (r_11 = r_14 → ((x3 ≤ x4 → R x3 (x4 + (-1)) w_15 w_16) ∧ (¬ (x3 ≤ x4) → R x4 (x4 + (-1)) w_15 w_16)))))))))))))))
def lp_X7_hide_33 (p1 : Int32) (p2 : Int32) (mNow : Nat → Int32)  (Q : Int32 → (Nat → Int32) → (Nat → Int32) → Prop) (n : Nat) : Int32 → Int32 → (Nat → Int32) → (Nat → Int32) → Prop :=
  Nat.rec (motive := fun _ => Int32 → Int32 → (Nat → Int32) → (Nat → Int32) → Prop) (fun _ _ _ _ => False) (fun _ r => lp_X7_hide_33F p1 p2 mNow Q r) n
def wp_X7_hide (p1 : Int32) (p2 : Int32) (mNow : Nat → Int32) (mStk : Nat → Int32) (mFct : Nat → Int32) (Q : Int32 → (Nat → Int32) → (Nat → Int32) → Prop) : Prop :=
  wp_X7_isPlace p1 mNow (fun (r_19 : Int32) => ((r_19 = 0 → Q (-1000000001) mStk mFct) ∧ (¬ (r_19 = 0) → wp_X7_in p2 0 60 (fun (r_21 : Int32) => ((¬ r_21 = 0 → (∃ n : Nat, lp_X7_hide_33 p1 p2 mNow Q n p1 ((mNow 1) - 1) mStk mFct)) ∧ (r_21 = 0 → Q (-1000000001) mStk mFct))))))
set_option maxHeartbeats 4000000 in
set_option maxRecDepth 100000 in
theorem c_X7_hide (l : Launch) (E : gE) (mo mn mi ma ml mt mb mr mp mk mq mc mw mz ms mf mu mv mx mh mA mB mC mM mT : Nat) (sz : Nat) (mHI : Int32) (mFC : Int32) (mLC : Int32) (mCg : Int32) (mTp : Int32) (mNx : Int32) (mFr : Int32) (mTk : Int32) (mVa : Int32) (mEn : Int32) (mKe : Int32) (mCs : Int32) (mAt : Int32) (mHd : Int32) (mWg : Int32) (mNow : Nat → Int32) (mImg : Nat → Int32) (mAsd : Nat → Int32) (mLea : Nat → Int32) (mLat : Nat → Int32) (mBst : Nat → Int32) (mRsk : Nat → Int32) (mTap : Nat → Int32) (mKys : Nat → Int32) (mKat : Nat → Int32) (mCod : Nat → Int32) (mWts : Nat → Int32) (mTes : Nat → Int32) (mStk : Nat → Int32) (mFct : Nat → Int32) (mSor : Nat → Int32) (mSiz : Nat → Int32) (mCel : Nat → Int32) (mHol : Nat → Int32) (mHoA : Nat → Int32) (mHoB : Nat → Int32) (mHoC : Nat → Int32) (mMov : Nat → Int32) (mTel : Nat → Int32) (p1 p2 : Int32)  (Q : Int32 → (Nat → Int32) → (Nat → Int32) → Prop) (h : wp_X7_hide p1 p2 mNow mStk mFct Q) : Met l yX7_hide wsX7_hide ({ frames := 3, cells := 0, slots := 0, locals := 70 } : Room) (va_Pc [.ref mo, .int p1, .int p2] (rc_B E (rw_24 E mo mn mi ma ml mt mb mr mp mk mq mc mw mz ms mf mu mv mx mh mA mB mC mM mT mHI mFC mLC mCg mTp mNx mFr mTk mVa mEn mKe mCs mAt mHd mWg mNow mImg mAsd mLea mLat mBst mRsk mTap mKys mKat mCod mWts mTes mStk mFct mSor mSiz mCel mHol mHoA mHoB mHoC mMov mTel) sz)) (va_Qi (S := (Nat → Int32) × (Nat → Int32)) (fun (r : Int32) (u : (Nat → Int32) × (Nat → Int32)) => Q r u.1 u.2) (fun u t => rc_C E (va_A (rw_24 E mo mn mi ma ml mt mb mr mp mk mq mc mw mz ms mf mu mv mx mh mA mB mC mM mT mHI mFC mLC mCg mTp mNx mFr mTk mVa mEn mKe mCs mAt mHd mWg mNow mImg mAsd mLea mLat mBst mRsk mTap mKys mKat mCod mWts mTes mStk mFct mSor mSiz mCel mHol mHoA mHoB mHoC mMov mTel) sz) (rw_24 E mo mn mi ma ml mt mb mr mp mk mq mc mw mz ms mf mu mv mx mh mA mB mC mM mT mHI mFC mLC mCg mTp mNx mFr mTk mVa mEn mKe mCs mAt mHd mWg mNow mImg mAsd mLea mLat mBst mRsk mTap mKys mKat mCod mWts mTes u.1 u.2 mSor mSiz mCel mHol mHoA mHoB mHoC mMov mTel) t) (va_A (rw_24 E mo mn mi ma ml mt mb mr mp mk mq mc mw mz ms mf mu mv mx mh mA mB mC mM mT mHI mFC mLC mCg mTp mNx mFr mTk mVa mEn mKe mCs mAt mHd mWg mNow mImg mAsd mLea mLat mBst mRsk mTap mKys mKat mCod mWts mTes mStk mFct mSor mSiz mCel mHol mHoA mHoB mHoC mMov mTel) sz)) 0 0 (va_A (rw_24 E mo mn mi ma ml mt mb mr mp mk mq mc mw mz ms mf mu mv mx mh mA mB mC mM mT mHI mFC mLC mCg mTp mNx mFr mTk mVa mEn mKe mCs mAt mHd mWg mNow mImg mAsd mLea mLat mBst mRsk mTap mKys mKat mCod mWts mTes mStk mFct mSor mSiz mCel mHol mHoA mHoB mHoC mMov mTel) sz) := by
  refine rc_enterI (cc := cX7_hide) (maxL := 5) (by decide) rfl (Nat.le_of_ble_eq_true rfl) ?_
  intro p e s m args below meth c QQ A hx hb hml hown hts hmn hE hP hD hA hret ls hl
  have hown : s.vm.findClass RX7 = some m.cls := hown
  have hK := hE.1
  have hS : va_S A s.heap s.heap [] := va_S.rf
  have hl : lv_has ls 5 [(0, .ref mo), (1, .int p1), (2, .int p2)] := hl
  have n_X7 : ∀ w ∈ wsX70, w ∈ wsX7_hide := fun _ h => List.mem_cons_of_mem _ (List.mem_append_right _ h)
  have k_89 := hts (.constant RX7 89 (-1000000001)) (List.mem_of_getElem? (i := 1) rfl)
  have k_9 := hts (.fieldLink RX7 9 "RidgeClapsModel" "now" "[I") (List.mem_of_getElem? (i := 2) rfl)
  have J33 : ∀ (n : Nat) (x3 : Int32) (x4 : Int32) (mStk : Nat → Int32) (mFct : Nat → Int32), lp_X7_hide_33 p1 p2 mNow Q n x3 x4 mStk mFct → ∀ (H : Heap) (locs : List Loc), va_P E.1 vwCl (rw_24 E mo mn mi ma ml mt mb mr mp mk mq mc mw mz ms mf mu mv mx mh mA mB mC mM mT mHI mFC mLC mCg mTp mNx mFr mTk mVa mEn mKe mCs mAt mHd mWg mNow mImg mAsd mLea mLat mBst mRsk mTap mKys mKat mCod mWts mTes mStk mFct mSor mSiz mCel mHol mHoA mHoB mHoC mMov mTel) H → va_D A (rw_24 E mo mn mi ma ml mt mb mr mp mk mq mc mw mz ms mf mu mv mx mh mA mB mC mM mT mHI mFC mLC mCg mTp mNx mFr mTk mVa mEn mKe mCs mAt mHd mWg mNow mImg mAsd mLea mLat mBst mRsk mTap mKys mKat mCod mWts mTes mStk mFct mSor mSiz mCel mHol mHoA mHoB mHoC mMov mTel) → va_S A s.heap H locs → ∀ ls : Array Slot, lv_has ls 5 [(0, .ref mo), (1, .int p1), (2, .int p2), (3, .int x3), (4, .int x4)] → W p l e ({ frames := 3, cells := 0, slots := 0, locals := 70 } : Room) s m args below meth c H locs 0 0 QQ (F0 m 33 ls []) := by
    intro n
    induction n with
    | zero =>
      intro x3 x4 mStk mFct h
      exact False.elim h
    | succ n ih =>
      intro x3 x4 mStk mFct h H locs hP hD hS ls hl
      have h : lp_X7_hide_33F p1 p2 mNow Q (lp_X7_hide_33 p1 p2 mNow Q n) x3 x4 mStk mFct := h
      unfold lp_X7_hide_33F at h
      refine lv_iload hx hb dX7_hide_33 (lv_at hl 4 rfl) ?_
      refine lv_if_lt (tgt := 98) hx hb dX7_hide_35 (by decide) (fun c_1 => ?_) (fun c_1 => ?_)
      · have h := h.1 c_1
        refine lv_iload_n hx hb dX7_hide_98 rfl (lv_at hl 3 rfl) ?_
        exact hret _ _ _ _ x3 (mStk, mFct) rfl h hP hD hS dX7_hide_99
      · have h := h.2 c_1
        refine lv_iload hx hb dX7_hide_38 (lv_at hl 4 rfl) ?_
        refine lv_iload_n hx hb dX7_hide_40 rfl (lv_at hl 1 rfl) ?_
        refine lv_isub hx hb dX7_hide_41 ?_
        refine lv_iload_n hx hb dX7_hide_42 rfl (lv_at hl 2 rfl) ?_
        refine lv_ineg hx hb dX7_hide_43 ?_
        refine lv_iload_n hx hb dX7_hide_44 rfl (lv_at hl 2 rfl) ?_
        have hPc := hP.sub (ws' := []) [] rfl
        have hDc := hD.sub (ws' := []) [] (by decide) rfl
        have hFc := va_free (wc := []) hD hS hA [] rfl
        refine va_calli (va_runS (As := [.int (x4 - p1), .int (-p2), .int p2]) (rest := []) ⟨hx, hb, hml, hown, hts⟩ (c_X7_in l E H.size (x4 - p1) (-p2) p2 _ h) (va_cwS 3 hts gX7_hide_X7_in rfl rfl rfl (by decide +kernel) ⟨Nat.le_of_ble_eq_true rfl, Nat.le_of_ble_eq_true rfl⟩) ⟨fun a U g mk q => ⟨q.1, q.2.blind⟩, fun U hU hW => ⟨rfl, by rw [hU], by rw [hU]; exact hPc, hE.call hS hFc hW hU, hDc.weaken (fun _ _ _ _ => trivial)⟩⟩ rfl rfl hl.1 rfl (lv_room (Nat.le_of_ble_eq_true rfl)) dX7_hide_45 ⟨Nat.zero_le _, Nat.zero_le _⟩) hS (fun q _ h => hFc q h) hFc (fun r_2 u t H1 locs ht hvm h hB hz1 hk1 hS => ?_)
        obtain ⟨hP1, hD1⟩ := hB
        rw [ht] at hP1
        obtain ⟨hP, hD⟩ := rc_foc hP hD [] [none, none, none, none, none, none, none, none, none, none, none, none, none, none, none, none, none, none, none, none, none, none, none, none, none] (by decide) rfl hk1 hP1 rfl
        generalize H1 = H at hP hS ⊢
        have hP : va_P E.1 vwCl (rw_24 E mo mn mi ma ml mt mb mr mp mk mq mc mw mz ms mf mu mv mx mh mA mB mC mM mT mHI mFC mLC mCg mTp mNx mFr mTk mVa mEn mKe mCs mAt mHd mWg mNow mImg mAsd mLea mLat mBst mRsk mTap mKys mKat mCod mWts mTes mStk mFct mSor mSiz mCel mHol mHoA mHoB mHoC mMov mTel) H := hP
        have hD : va_D A (rw_24 E mo mn mi ma ml mt mb mr mp mk mq mc mw mz ms mf mu mv mx mh mA mB mC mM mT mHI mFC mLC mCg mTp mNx mFr mTk mVa mEn mKe mCs mAt mHd mWg mNow mImg mAsd mLea mLat mBst mRsk mTap mKys mKat mCod mWts mTes mStk mFct mSor mSiz mCel mHol mHoA mHoB mHoC mMov mTel) := hD
        refine lv_if_eq (tgt := 90) hx hb dX7_hide_48 (by decide) (fun c_3 => ?_) (fun c_3 => ?_)
        · have h := h.1 c_3
          refine lv_iload_n hx hb dX7_hide_90 rfl (lv_at hl 3 rfl) ?_
          refine lv_istore_n (lv' := [(3, .int x3), (0, .ref mo), (1, .int p1), (2, .int p2), (4, .int x4)]) hx hb dX7_hide_91 rfl hl (by decide) rfl (fun ls hl => ?_)
          refine lv_iinc (v := x4 + (-1)) (lv' := [(4, .int (x4 + (-1))), (3, .int x3), (0, .ref mo), (1, .int p1), (2, .int p2)]) hx hb dX7_hide_92 hl (k := 4) rfl (by rfl) (by decide) rfl (fun ls hl => ?_)
          refine lv_goto (tgt := 33) hx hb dX7_hide_95 (by decide) ?_
          exact ih x3 (x4 + (-1)) mStk mFct h _ _ hP hD hS ls (lv_sub hl [2, 3, 4, 1, 0] rfl)
        · have h := h.2 c_3
          refine lv_aload_n hx hb dX7_hide_51 rfl (lv_at hl 0 rfl) ?_
          refine lv_iload hx hb dX7_hide_52 (lv_at hl 4 rfl) ?_
          have hPc := hP
          have hDc := hD
          have hFc := rc_freeI hD hS hA
          refine va_calli (va_runV (As := [.int x4]) (rest := []) ⟨hx, hb, hml, hown, hts⟩ (c_X7_riskOf l E mo mn mi ma ml mt mb mr mp mk mq mc mw mz ms mf mu mv mx mh mA mB mC mM mT H.size mHI mFC mLC mCg mTp mNx mFr mTk mVa mEn mKe mCs mAt mHd mWg mNow mImg mAsd mLea mLat mBst mRsk mTap mKys mKat mCod mWts mTes mStk mFct mSor mSiz mCel mHol mHoA mHoB mHoC mMov mTel x4 _ h) (cwV 1 hts gX7_hide_X7_riskOf rfl rfl rfl (by decide +kernel) ⟨Nat.le_of_ble_eq_true rfl, Nat.le_of_ble_eq_true rfl⟩) ⟨fun a U g mk q => ⟨q.1, q.2.blind⟩, va_recv hK hPc (ci := 7) (q0 := 0) rfl rfl, fun U hU hW => ⟨rfl, by rw [hU], by rw [hU]; exact hPc, hE.call hS hFc hW hU, hDc.weaken (fun _ _ _ _ => trivial)⟩⟩ rfl rfl hl.1 rfl (lv_room (Nat.le_of_ble_eq_true rfl)) dX7_hide_54 ⟨Nat.zero_le _, Nat.zero_le _⟩) hS (fun q _ h => hFc q h) hFc (fun r_4 u t H1 locs ht hvm h hB hz1 hk1 hS => ?_)
          obtain ⟨w_5, w_6⟩ := u
          obtain ⟨hP1, hD1⟩ := hB
          rw [ht] at hP1
          have hP := hP1
          have hD := hD1.weaken (fun _ _ _ h => hFc _ h)
          generalize H1 = H at hP hS ⊢
          have hP : va_P E.1 vwCl (rw_24 E mo mn mi ma ml mt mb mr mp mk mq mc mw mz ms mf mu mv mx mh mA mB mC mM mT mHI mFC mLC mCg mTp mNx mFr mTk mVa mEn mKe mCs mAt mHd mWg mNow mImg mAsd mLea mLat mBst mRsk mTap mKys mKat mCod mWts mTes w_5 w_6 mSor mSiz mCel mHol mHoA mHoB mHoC mMov mTel) H := hP
          have hD : va_D A (rw_24 E mo mn mi ma ml mt mb mr mp mk mq mc mw mz ms mf mu mv mx mh mA mB mC mM mT mHI mFC mLC mCg mTp mNx mFr mTk mVa mEn mKe mCs mAt mHd mWg mNow mImg mAsd mLea mLat mBst mRsk mTap mKys mKat mCod mWts mTes w_5 w_6 mSor mSiz mCel mHol mHoA mHoB mHoC mMov mTel) := hD
          refine lv_aload_n hx hb dX7_hide_57 rfl (lv_at hl 0 rfl) ?_
          refine lv_iload_n hx hb dX7_hide_58 rfl (lv_at hl 3 rfl) ?_
          have hPc := hP
          have hDc := hD
          have hFc := rc_freeI hD hS hA
          refine va_calli (va_runV (As := [.int x3]) (rest := [.int r_4]) ⟨hx, hb, hml, hown, hts⟩ (c_X7_riskOf l E mo mn mi ma ml mt mb mr mp mk mq mc mw mz ms mf mu mv mx mh mA mB mC mM mT H.size mHI mFC mLC mCg mTp mNx mFr mTk mVa mEn mKe mCs mAt mHd mWg mNow mImg mAsd mLea mLat mBst mRsk mTap mKys mKat mCod mWts mTes w_5 w_6 mSor mSiz mCel mHol mHoA mHoB mHoC mMov mTel x3 _ h) (cwV 1 hts gX7_hide_X7_riskOf rfl rfl rfl (by decide +kernel) ⟨Nat.le_of_ble_eq_true rfl, Nat.le_of_ble_eq_true rfl⟩) ⟨fun a U g mk q => ⟨q.1, q.2.blind⟩, va_recv hK hPc (ci := 7) (q0 := 0) rfl rfl, fun U hU hW => ⟨rfl, by rw [hU], by rw [hU]; exact hPc, hE.call hS hFc hW hU, hDc.weaken (fun _ _ _ _ => trivial)⟩⟩ rfl rfl hl.1 rfl (lv_room (Nat.le_of_ble_eq_true rfl)) dX7_hide_59 ⟨Nat.zero_le _, Nat.zero_le _⟩) hS (fun q _ h => hFc q h) hFc (fun r_7 u t H1 locs ht hvm h hB hz1 hk1 hS => ?_)
          obtain ⟨w_8, w_9⟩ := u
          obtain ⟨hP1, hD1⟩ := hB
          rw [ht] at hP1
          have hP := hP1
          have hD := hD1.weaken (fun _ _ _ h => hFc _ h)
          generalize H1 = H at hP hS ⊢
          have hP : va_P E.1 vwCl (rw_24 E mo mn mi ma ml mt mb mr mp mk mq mc mw mz ms mf mu mv mx mh mA mB mC mM mT mHI mFC mLC mCg mTp mNx mFr mTk mVa mEn mKe mCs mAt mHd mWg mNow mImg mAsd mLea mLat mBst mRsk mTap mKys mKat mCod mWts mTes w_8 w_9 mSor mSiz mCel mHol mHoA mHoB mHoC mMov mTel) H := hP
          have hD : va_D A (rw_24 E mo mn mi ma ml mt mb mr mp mk mq mc mw mz ms mf mu mv mx mh mA mB mC mM mT mHI mFC mLC mCg mTp mNx mFr mTk mVa mEn mKe mCs mAt mHd mWg mNow mImg mAsd mLea mLat mBst mRsk mTap mKys mKat mCod mWts mTes w_8 w_9 mSor mSiz mCel mHol mHoA mHoB mHoC mMov mTel) := hD
          refine lv_icmp_lt (tgt := 85) hx hb dX7_hide_62 (by decide) (fun c_10 => ?_) (fun c_10 => ?_)
          · have h := h.1 c_10
            refine lv_iload hx hb dX7_hide_85 (lv_at hl 4 rfl) ?_
            refine lv_goto (tgt := 91) hx hb dX7_hide_87 (by decide) ?_
            refine lv_istore_n (lv' := [(3, .int x4), (0, .ref mo), (1, .int p1), (2, .int p2), (4, .int x4)]) hx hb dX7_hide_91 rfl hl (by decide) rfl (fun ls hl => ?_)
            refine lv_iinc (v := x4 + (-1)) (lv' := [(4, .int (x4 + (-1))), (3, .int x4), (0, .ref mo), (1, .int p1), (2, .int p2)]) hx hb dX7_hide_92 hl (k := 4) rfl (by rfl) (by decide) rfl (fun ls hl => ?_)
            refine lv_goto (tgt := 33) hx hb dX7_hide_95 (by decide) ?_
            exact ih x4 (x4 + (-1)) w_8 w_9 h _ _ hP hD hS ls (lv_sub hl [2, 3, 4, 1, 0] rfl)
          · have h := h.2 c_10
            refine lv_aload_n hx hb dX7_hide_65 rfl (lv_at hl 0 rfl) ?_
            refine lv_iload hx hb dX7_hide_66 (lv_at hl 4 rfl) ?_
            have hPc := hP
            have hDc := hD
            have hFc := rc_freeI hD hS hA
            refine va_calli (va_runV (As := [.int x4]) (rest := []) ⟨hx, hb, hml, hown, hts⟩ (c_X7_riskOf l E mo mn mi ma ml mt mb mr mp mk mq mc mw mz ms mf mu mv mx mh mA mB mC mM mT H.size mHI mFC mLC mCg mTp mNx mFr mTk mVa mEn mKe mCs mAt mHd mWg mNow mImg mAsd mLea mLat mBst mRsk mTap mKys mKat mCod mWts mTes w_8 w_9 mSor mSiz mCel mHol mHoA mHoB mHoC mMov mTel x4 _ h) (cwV 1 hts gX7_hide_X7_riskOf rfl rfl rfl (by decide +kernel) ⟨Nat.le_of_ble_eq_true rfl, Nat.le_of_ble_eq_true rfl⟩) ⟨fun a U g mk q => ⟨q.1, q.2.blind⟩, va_recv hK hPc (ci := 7) (q0 := 0) rfl rfl, fun U hU hW => ⟨rfl, by rw [hU], by rw [hU]; exact hPc, hE.call hS hFc hW hU, hDc.weaken (fun _ _ _ _ => trivial)⟩⟩ rfl rfl hl.1 rfl (lv_room (Nat.le_of_ble_eq_true rfl)) dX7_hide_68 ⟨Nat.zero_le _, Nat.zero_le _⟩) hS (fun q _ h => hFc q h) hFc (fun r_11 u t H1 locs ht hvm h hB hz1 hk1 hS => ?_)
            obtain ⟨w_12, w_13⟩ := u
            obtain ⟨hP1, hD1⟩ := hB
            rw [ht] at hP1
            have hP := hP1
            have hD := hD1.weaken (fun _ _ _ h => hFc _ h)
            generalize H1 = H at hP hS ⊢
            have hP : va_P E.1 vwCl (rw_24 E mo mn mi ma ml mt mb mr mp mk mq mc mw mz ms mf mu mv mx mh mA mB mC mM mT mHI mFC mLC mCg mTp mNx mFr mTk mVa mEn mKe mCs mAt mHd mWg mNow mImg mAsd mLea mLat mBst mRsk mTap mKys mKat mCod mWts mTes w_12 w_13 mSor mSiz mCel mHol mHoA mHoB mHoC mMov mTel) H := hP
            have hD : va_D A (rw_24 E mo mn mi ma ml mt mb mr mp mk mq mc mw mz ms mf mu mv mx mh mA mB mC mM mT mHI mFC mLC mCg mTp mNx mFr mTk mVa mEn mKe mCs mAt mHd mWg mNow mImg mAsd mLea mLat mBst mRsk mTap mKys mKat mCod mWts mTes w_12 w_13 mSor mSiz mCel mHol mHoA mHoB mHoC mMov mTel) := hD
            refine lv_aload_n hx hb dX7_hide_71 rfl (lv_at hl 0 rfl) ?_
            refine lv_iload_n hx hb dX7_hide_72 rfl (lv_at hl 3 rfl) ?_
            have hPc := hP
            have hDc := hD
            have hFc := rc_freeI hD hS hA
            refine va_calli (va_runV (As := [.int x3]) (rest := [.int r_11]) ⟨hx, hb, hml, hown, hts⟩ (c_X7_riskOf l E mo mn mi ma ml mt mb mr mp mk mq mc mw mz ms mf mu mv mx mh mA mB mC mM mT H.size mHI mFC mLC mCg mTp mNx mFr mTk mVa mEn mKe mCs mAt mHd mWg mNow mImg mAsd mLea mLat mBst mRsk mTap mKys mKat mCod mWts mTes w_12 w_13 mSor mSiz mCel mHol mHoA mHoB mHoC mMov mTel x3 _ h) (cwV 1 hts gX7_hide_X7_riskOf rfl rfl rfl (by decide +kernel) ⟨Nat.le_of_ble_eq_true rfl, Nat.le_of_ble_eq_true rfl⟩) ⟨fun a U g mk q => ⟨q.1, q.2.blind⟩, va_recv hK hPc (ci := 7) (q0 := 0) rfl rfl, fun U hU hW => ⟨rfl, by rw [hU], by rw [hU]; exact hPc, hE.call hS hFc hW hU, hDc.weaken (fun _ _ _ _ => trivial)⟩⟩ rfl rfl hl.1 rfl (lv_room (Nat.le_of_ble_eq_true rfl)) dX7_hide_73 ⟨Nat.zero_le _, Nat.zero_le _⟩) hS (fun q _ h => hFc q h) hFc (fun r_14 u t H1 locs ht hvm h hB hz1 hk1 hS => ?_)
            obtain ⟨w_15, w_16⟩ := u
            obtain ⟨hP1, hD1⟩ := hB
            rw [ht] at hP1
            have hP := hP1
            have hD := hD1.weaken (fun _ _ _ h => hFc _ h)
            generalize H1 = H at hP hS ⊢
            have hP : va_P E.1 vwCl (rw_24 E mo mn mi ma ml mt mb mr mp mk mq mc mw mz ms mf mu mv mx mh mA mB mC mM mT mHI mFC mLC mCg mTp mNx mFr mTk mVa mEn mKe mCs mAt mHd mWg mNow mImg mAsd mLea mLat mBst mRsk mTap mKys mKat mCod mWts mTes w_15 w_16 mSor mSiz mCel mHol mHoA mHoB mHoC mMov mTel) H := hP
            have hD : va_D A (rw_24 E mo mn mi ma ml mt mb mr mp mk mq mc mw mz ms mf mu mv mx mh mA mB mC mM mT mHI mFC mLC mCg mTp mNx mFr mTk mVa mEn mKe mCs mAt mHd mWg mNow mImg mAsd mLea mLat mBst mRsk mTap mKys mKat mCod mWts mTes w_15 w_16 mSor mSiz mCel mHol mHoA mHoB mHoC mMov mTel) := hD
            refine lv_icmp_ne (tgt := 90) hx hb dX7_hide_76 (by decide) (fun c_17 => ?_) (fun c_17 => ?_)
            · have h := h.1 c_17
              refine lv_iload_n hx hb dX7_hide_90 rfl (lv_at hl 3 rfl) ?_
              refine lv_istore_n (lv' := [(3, .int x3), (0, .ref mo), (1, .int p1), (2, .int p2), (4, .int x4)]) hx hb dX7_hide_91 rfl hl (by decide) rfl (fun ls hl => ?_)
              refine lv_iinc (v := x4 + (-1)) (lv' := [(4, .int (x4 + (-1))), (3, .int x3), (0, .ref mo), (1, .int p1), (2, .int p2)]) hx hb dX7_hide_92 hl (k := 4) rfl (by rfl) (by decide) rfl (fun ls hl => ?_)
              refine lv_goto (tgt := 33) hx hb dX7_hide_95 (by decide) ?_
              exact ih x3 (x4 + (-1)) w_15 w_16 h _ _ hP hD hS ls (lv_sub hl [2, 3, 4, 1, 0] rfl)
            · have h := h.2 c_17
              refine lv_iload hx hb dX7_hide_79 (lv_at hl 4 rfl) ?_
              refine lv_iload_n hx hb dX7_hide_81 rfl (lv_at hl 3 rfl) ?_
              refine lv_icmp_ge (tgt := 90) hx hb dX7_hide_82 (by decide) (fun c_18 => ?_) (fun c_18 => ?_)
              · have h := h.1 c_18
                refine lv_iload_n hx hb dX7_hide_90 rfl (lv_at hl 3 rfl) ?_
                refine lv_istore_n (lv' := [(3, .int x3), (0, .ref mo), (1, .int p1), (2, .int p2), (4, .int x4)]) hx hb dX7_hide_91 rfl hl (by decide) rfl (fun ls hl => ?_)
                refine lv_iinc (v := x4 + (-1)) (lv' := [(4, .int (x4 + (-1))), (3, .int x3), (0, .ref mo), (1, .int p1), (2, .int p2)]) hx hb dX7_hide_92 hl (k := 4) rfl (by rfl) (by decide) rfl (fun ls hl => ?_)
                refine lv_goto (tgt := 33) hx hb dX7_hide_95 (by decide) ?_
                exact ih x3 (x4 + (-1)) w_15 w_16 h _ _ hP hD hS ls (lv_sub hl [2, 3, 4, 1, 0] rfl)
              · have h := h.2 c_18
                refine lv_iload hx hb dX7_hide_85 (lv_at hl 4 rfl) ?_
                refine lv_goto (tgt := 91) hx hb dX7_hide_87 (by decide) ?_
                refine lv_istore_n (lv' := [(3, .int x4), (0, .ref mo), (1, .int p1), (2, .int p2), (4, .int x4)]) hx hb dX7_hide_91 rfl hl (by decide) rfl (fun ls hl => ?_)
                refine lv_iinc (v := x4 + (-1)) (lv' := [(4, .int (x4 + (-1))), (3, .int x4), (0, .ref mo), (1, .int p1), (2, .int p2)]) hx hb dX7_hide_92 hl (k := 4) rfl (by rfl) (by decide) rfl (fun ls hl => ?_)
                refine lv_goto (tgt := 33) hx hb dX7_hide_95 (by decide) ?_
                exact ih x4 (x4 + (-1)) w_15 w_16 h _ _ hP hD hS ls (lv_sub hl [2, 3, 4, 1, 0] rfl)
  unfold wp_X7_hide at h
  obtain ⟨H, hH⟩ : ∃ H, H = s.heap := ⟨_, rfl⟩
  obtain ⟨locs, hlocs⟩ : ∃ locs : List Loc, locs = [] := ⟨_, rfl⟩
  have hP : va_P E.1 vwCl (rw_24 E mo mn mi ma ml mt mb mr mp mk mq mc mw mz ms mf mu mv mx mh mA mB mC mM mT mHI mFC mLC mCg mTp mNx mFr mTk mVa mEn mKe mCs mAt mHd mWg mNow mImg mAsd mLea mLat mBst mRsk mTap mKys mKat mCod mWts mTes mStk mFct mSor mSiz mCel mHol mHoA mHoB mHoC mMov mTel) H := by rw [hH]; exact hP
  have hS : va_S A s.heap H locs := by rw [hH, hlocs]; exact hS
  suffices hgo : W p l e ({ frames := 3, cells := 0, slots := 0, locals := 70 } : Room) s m args below meth c H locs 0 0 QQ (F0 m 0 ls []) from by rw [hH, hlocs] at hgo; exact hgo
  refine lv_aload_n hx hb dX7_hide_0 rfl (lv_at hl 0 rfl) ?_
  refine lv_iload_n hx hb dX7_hide_1 rfl (lv_at hl 1 rfl) ?_
  have hPc := hP
  have hDc := hD
  have hFc := rc_freeI hD hS hA
  refine va_calli (va_runV (As := [.int p1]) (rest := []) ⟨hx, hb, hml, hown, hts⟩ (c_X7_isPlace l E mo mn mi ma ml mt mb mr mp mk mq mc mw mz ms mf mu mv mx mh mA mB mC mM mT H.size mHI mFC mLC mCg mTp mNx mFr mTk mVa mEn mKe mCs mAt mHd mWg mNow mImg mAsd mLea mLat mBst mRsk mTap mKys mKat mCod mWts mTes mStk mFct mSor mSiz mCel mHol mHoA mHoB mHoC mMov mTel p1 _ h) (cwV 1 hts gX7_hide_X7_isPlace rfl rfl rfl (by decide +kernel) ⟨Nat.le_of_ble_eq_true rfl, Nat.le_of_ble_eq_true rfl⟩) ⟨fun a U g mk q => ⟨q.1, q.2.blind⟩, va_recv hK hPc (ci := 7) (q0 := 0) rfl rfl, fun U hU hW => ⟨rfl, by rw [hU], by rw [hU]; exact hPc, hE.call hS hFc hW hU, hDc.weaken (fun _ _ _ _ => trivial)⟩⟩ rfl rfl hl.1 rfl (lv_room (Nat.le_of_ble_eq_true rfl)) dX7_hide_2 ⟨Nat.zero_le _, Nat.zero_le _⟩) hS (fun q _ h => hFc q h) hFc (fun r_19 u t H1 locs ht hvm h hB hz1 hk1 hS => ?_)
  obtain ⟨hP1, hD1⟩ := hB
  rw [ht] at hP1
  have hP := hP1
  have hD := hD1.weaken (fun _ _ _ h => hFc _ h)
  generalize H1 = H at hP hS ⊢
  have hP : va_P E.1 vwCl (rw_24 E mo mn mi ma ml mt mb mr mp mk mq mc mw mz ms mf mu mv mx mh mA mB mC mM mT mHI mFC mLC mCg mTp mNx mFr mTk mVa mEn mKe mCs mAt mHd mWg mNow mImg mAsd mLea mLat mBst mRsk mTap mKys mKat mCod mWts mTes mStk mFct mSor mSiz mCel mHol mHoA mHoB mHoC mMov mTel) H := hP
  have hD : va_D A (rw_24 E mo mn mi ma ml mt mb mr mp mk mq mc mw mz ms mf mu mv mx mh mA mB mC mM mT mHI mFC mLC mCg mTp mNx mFr mTk mVa mEn mKe mCs mAt mHd mWg mNow mImg mAsd mLea mLat mBst mRsk mTap mKys mKat mCod mWts mTes mStk mFct mSor mSiz mCel mHol mHoA mHoB mHoC mMov mTel) := hD
  refine lv_if_eq (tgt := 18) hx hb dX7_hide_5 (by decide) (fun c_20 => ?_) (fun c_20 => ?_)
  · have h := h.1 c_20
    refine lv_ldc hx hb hown k_89 dX7_hide_18 ?_
    exact hret _ _ _ _ (-1000000001) (mStk, mFct) rfl h hP hD hS dX7_hide_20
  · have h := h.2 c_20
    refine lv_iload_n hx hb dX7_hide_8 rfl (lv_at hl 2 rfl) ?_
    refine lv_iconst (v := 0) hx hb dX7_hide_9 (by decide) ?_
    refine lv_bipush (v := 60) hx hb dX7_hide_10 (by decide) ?_
    have hPc := hP.sub (ws' := []) [] rfl
    have hDc := hD.sub (ws' := []) [] (by decide) rfl
    have hFc := va_free (wc := []) hD hS hA [] rfl
    refine va_calli (va_runS (As := [.int p2, .int 0, .int 60]) (rest := []) ⟨hx, hb, hml, hown, hts⟩ (c_X7_in l E H.size p2 0 60 _ h) (va_cwS 3 hts gX7_hide_X7_in rfl rfl rfl (by decide +kernel) ⟨Nat.le_of_ble_eq_true rfl, Nat.le_of_ble_eq_true rfl⟩) ⟨fun a U g mk q => ⟨q.1, q.2.blind⟩, fun U hU hW => ⟨rfl, by rw [hU], by rw [hU]; exact hPc, hE.call hS hFc hW hU, hDc.weaken (fun _ _ _ _ => trivial)⟩⟩ rfl rfl hl.1 rfl (lv_room (Nat.le_of_ble_eq_true rfl)) dX7_hide_12 ⟨Nat.zero_le _, Nat.zero_le _⟩) hS (fun q _ h => hFc q h) hFc (fun r_21 u t H1 locs ht hvm h hB hz1 hk1 hS => ?_)
    obtain ⟨hP1, hD1⟩ := hB
    rw [ht] at hP1
    obtain ⟨hP, hD⟩ := rc_foc hP hD [] [none, none, none, none, none, none, none, none, none, none, none, none, none, none, none, none, none, none, none, none, none, none, none, none, none] (by decide) rfl hk1 hP1 rfl
    generalize H1 = H at hP hS ⊢
    have hP : va_P E.1 vwCl (rw_24 E mo mn mi ma ml mt mb mr mp mk mq mc mw mz ms mf mu mv mx mh mA mB mC mM mT mHI mFC mLC mCg mTp mNx mFr mTk mVa mEn mKe mCs mAt mHd mWg mNow mImg mAsd mLea mLat mBst mRsk mTap mKys mKat mCod mWts mTes mStk mFct mSor mSiz mCel mHol mHoA mHoB mHoC mMov mTel) H := hP
    have hD : va_D A (rw_24 E mo mn mi ma ml mt mb mr mp mk mq mc mw mz ms mf mu mv mx mh mA mB mC mM mT mHI mFC mLC mCg mTp mNx mFr mTk mVa mEn mKe mCs mAt mHd mWg mNow mImg mAsd mLea mLat mBst mRsk mTap mKys mKat mCod mWts mTes mStk mFct mSor mSiz mCel mHol mHoA mHoB mHoC mMov mTel) := hD
    refine lv_if_ne (tgt := 21) hx hb dX7_hide_15 (by decide) (fun c_22 => ?_) (fun c_22 => ?_)
    · have h := h.1 c_22
      refine lv_iload_n hx hb dX7_hide_21 rfl (lv_at hl 1 rfl) ?_
      refine lv_istore_n (lv' := [(3, .int p1), (0, .ref mo), (1, .int p1), (2, .int p2)]) hx hb dX7_hide_22 rfl hl (by decide) rfl (fun ls hl => ?_)
      refine lv_aload_n hx hb dX7_hide_23 rfl (lv_at hl 1 rfl) ?_
      refine va_get (D := E.1) (ci := 7) (v := .ref mn) (C := RX7) (T := TX7) (N := 39) hx hb hts n_X7 hown hK hP 0 rfl rfl 0 (by decide) k_9 (fun _ h9 => h9) rfl dX7_hide_24 ?_
      refine lv_iconst (v := 1) hx hb dX7_hide_27 (by decide) ?_
      refine rc_iald hx hb hK hP 1 0 rfl rfl 1 (by decide) (by unfold vp_in; decide) dX7_hide_28 ?_
      refine lv_iconst (v := 1) hx hb dX7_hide_29 (by decide) ?_
      refine lv_isub hx hb dX7_hide_30 ?_
      refine lv_istore (lv' := [(4, .int ((mNow 1) - 1)), (3, .int p1), (0, .ref mo), (1, .int p1), (2, .int p2)]) hx hb dX7_hide_31 hl (by decide) rfl (fun ls hl => ?_)
      obtain ⟨n, h⟩ := h
      exact J33 n p1 ((mNow 1) - 1) mStk mFct h _ _ hP hD hS ls (lv_sub hl [2, 3, 4, 1, 0] rfl)
    · have h := h.2 c_22
      refine lv_ldc hx hb hown k_89 dX7_hide_18 ?_
      exact hret _ _ _ _ (-1000000001) (mStk, mFct) rfl h hP hD hS dX7_hide_20
def lp_X7_safest_22F (mNow : Nat → Int32)  (Q : Int32 → (Nat → Int32) → (Nat → Int32) → (Nat → Int32) → (Nat → Int32) → (Nat → Int32) → (Nat → Int32) → Prop) (R : Int32 → Int32 → (Nat → Int32) → (Nat → Int32) → (Nat → Int32) → (Nat → Int32) → (Nat → Int32) → (Nat → Int32) → Prop) (x2 : Int32) (x3 : Int32) (mLea : Nat → Int32) (mLat : Nat → Int32) (mBst : Nat → Int32) (mRsk : Nat → Int32) (mStk : Nat → Int32) (mFct : Nat → Int32) : Prop :=
  (((mNow 1) ≤ x3 → wp_X7_told0 x2 (fun (r_2 : Int32) => Q r_2 mLea mLat mBst mRsk mStk mFct)) ∧ (¬ ((mNow 1) ≤ x3) → ((x2 < 0 → R x3 (x3 + 1) mLea mLat mBst mRsk mStk mFct) ∧ (¬ (x2 < 0) → (vp_in x3 24 ∧ (vp_in x2 24 ∧ (((mLea x2.toNatClampNeg) ≤ (mLea x3.toNatClampNeg) → R x2 (x3 + 1) mLea mLat mBst mRsk mStk mFct) ∧ (¬ ((mLea x2.toNatClampNeg) ≤ (mLea x3.toNatClampNeg)) → R x3 (x3 + 1) mLea mLat mBst mRsk mStk mFct))))))))
def lp_X7_safest_22 (mNow : Nat → Int32)  (Q : Int32 → (Nat → Int32) → (Nat → Int32) → (Nat → Int32) → (Nat → Int32) → (Nat → Int32) → (Nat → Int32) → Prop) (n : Nat) : Int32 → Int32 → (Nat → Int32) → (Nat → Int32) → (Nat → Int32) → (Nat → Int32) → (Nat → Int32) → (Nat → Int32) → Prop :=
  Nat.rec (motive := fun _ => Int32 → Int32 → (Nat → Int32) → (Nat → Int32) → (Nat → Int32) → (Nat → Int32) → (Nat → Int32) → (Nat → Int32) → Prop) (fun _ _ _ _ _ _ _ _ => False) (fun _ r => lp_X7_safest_22F mNow Q r) n
def wp_X7_safest (p1 : Int32) (mNow : Nat → Int32) (mLea : Nat → Int32) (mLat : Nat → Int32) (mBst : Nat → Int32) (mRsk : Nat → Int32) (mStk : Nat → Int32) (mFct : Nat → Int32) (Q : Int32 → (Nat → Int32) → (Nat → Int32) → (Nat → Int32) → (Nat → Int32) → (Nat → Int32) → (Nat → Int32) → Prop) : Prop :=
  wp_X7_in p1 1 60 (fun (r_7 : Int32) => ((¬ r_7 = 0 → wp_X7_findTree p1 mNow mLea mLat mBst mRsk mStk mFct (fun (w_9 : Nat → Int32) (w_10 : Nat → Int32) (w_11 : Nat → Int32) (w_12 : Nat → Int32) (w_13 : Nat → Int32) (w_14 : Nat → Int32) => (∃ n : Nat, lp_X7_safest_22 mNow Q n (-1) 0 w_9 w_10 w_11 w_12 w_13 w_14))) ∧ (r_7 = 0 → Q (-1000000001) mLea mLat mBst mRsk mStk mFct)))
set_option maxHeartbeats 4000000 in
set_option maxRecDepth 100000 in
theorem c_X7_safest (l : Launch) (E : gE) (mo mn mi ma ml mt mb mr mp mk mq mc mw mz ms mf mu mv mx mh mA mB mC mM mT : Nat) (sz : Nat) (mHI : Int32) (mFC : Int32) (mLC : Int32) (mCg : Int32) (mTp : Int32) (mNx : Int32) (mFr : Int32) (mTk : Int32) (mVa : Int32) (mEn : Int32) (mKe : Int32) (mCs : Int32) (mAt : Int32) (mHd : Int32) (mWg : Int32) (mNow : Nat → Int32) (mImg : Nat → Int32) (mAsd : Nat → Int32) (mLea : Nat → Int32) (mLat : Nat → Int32) (mBst : Nat → Int32) (mRsk : Nat → Int32) (mTap : Nat → Int32) (mKys : Nat → Int32) (mKat : Nat → Int32) (mCod : Nat → Int32) (mWts : Nat → Int32) (mTes : Nat → Int32) (mStk : Nat → Int32) (mFct : Nat → Int32) (mSor : Nat → Int32) (mSiz : Nat → Int32) (mCel : Nat → Int32) (mHol : Nat → Int32) (mHoA : Nat → Int32) (mHoB : Nat → Int32) (mHoC : Nat → Int32) (mMov : Nat → Int32) (mTel : Nat → Int32) (p1 : Int32)  (Q : Int32 → (Nat → Int32) → (Nat → Int32) → (Nat → Int32) → (Nat → Int32) → (Nat → Int32) → (Nat → Int32) → Prop) (h : wp_X7_safest p1 mNow mLea mLat mBst mRsk mStk mFct Q) : Met l yX7_safest wsX7_safest ({ frames := 4, cells := 0, slots := 0, locals := 98 } : Room) (va_Pc [.ref mo, .int p1] (rc_B E (rw_24 E mo mn mi ma ml mt mb mr mp mk mq mc mw mz ms mf mu mv mx mh mA mB mC mM mT mHI mFC mLC mCg mTp mNx mFr mTk mVa mEn mKe mCs mAt mHd mWg mNow mImg mAsd mLea mLat mBst mRsk mTap mKys mKat mCod mWts mTes mStk mFct mSor mSiz mCel mHol mHoA mHoB mHoC mMov mTel) sz)) (va_Qi (S := (Nat → Int32) × (Nat → Int32) × (Nat → Int32) × (Nat → Int32) × (Nat → Int32) × (Nat → Int32)) (fun (r : Int32) (u : (Nat → Int32) × (Nat → Int32) × (Nat → Int32) × (Nat → Int32) × (Nat → Int32) × (Nat → Int32)) => Q r u.1 u.2.1 u.2.2.1 u.2.2.2.1 u.2.2.2.2.1 u.2.2.2.2.2) (fun u t => rc_C E (va_A (rw_24 E mo mn mi ma ml mt mb mr mp mk mq mc mw mz ms mf mu mv mx mh mA mB mC mM mT mHI mFC mLC mCg mTp mNx mFr mTk mVa mEn mKe mCs mAt mHd mWg mNow mImg mAsd mLea mLat mBst mRsk mTap mKys mKat mCod mWts mTes mStk mFct mSor mSiz mCel mHol mHoA mHoB mHoC mMov mTel) sz) (rw_24 E mo mn mi ma ml mt mb mr mp mk mq mc mw mz ms mf mu mv mx mh mA mB mC mM mT mHI mFC mLC mCg mTp mNx mFr mTk mVa mEn mKe mCs mAt mHd mWg mNow mImg mAsd u.1 u.2.1 u.2.2.1 u.2.2.2.1 mTap mKys mKat mCod mWts mTes u.2.2.2.2.1 u.2.2.2.2.2 mSor mSiz mCel mHol mHoA mHoB mHoC mMov mTel) t) (va_A (rw_24 E mo mn mi ma ml mt mb mr mp mk mq mc mw mz ms mf mu mv mx mh mA mB mC mM mT mHI mFC mLC mCg mTp mNx mFr mTk mVa mEn mKe mCs mAt mHd mWg mNow mImg mAsd mLea mLat mBst mRsk mTap mKys mKat mCod mWts mTes mStk mFct mSor mSiz mCel mHol mHoA mHoB mHoC mMov mTel) sz)) 0 0 (va_A (rw_24 E mo mn mi ma ml mt mb mr mp mk mq mc mw mz ms mf mu mv mx mh mA mB mC mM mT mHI mFC mLC mCg mTp mNx mFr mTk mVa mEn mKe mCs mAt mHd mWg mNow mImg mAsd mLea mLat mBst mRsk mTap mKys mKat mCod mWts mTes mStk mFct mSor mSiz mCel mHol mHoA mHoB mHoC mMov mTel) sz) := by
  refine rc_enterI (cc := cX7_safest) (maxL := 4) (by decide) rfl (Nat.le_of_ble_eq_true rfl) ?_
  intro p e s m args below meth c QQ A hx hb hml hown hts hmn hE hP hD hA hret ls hl
  have hown : s.vm.findClass RX7 = some m.cls := hown
  have hK := hE.1
  have hS : va_S A s.heap s.heap [] := va_S.rf
  have hl : lv_has ls 4 [(0, .ref mo), (1, .int p1)] := hl
  have n_X7 : ∀ w ∈ wsX70, w ∈ wsX7_safest := fun _ h => List.mem_cons_of_mem _ (List.mem_append_right _ h)
  have k_9 := hts (.fieldLink RX7 9 "RidgeClapsModel" "now" "[I") (List.mem_of_getElem? (i := 2) rfl)
  have k_19 := hts (.fieldLink RX7 19 "RidgeClapsModel" "least" "[I") (List.mem_of_getElem? (i := 3) rfl)
  have k_89 := hts (.constant RX7 89 (-1000000001)) (List.mem_of_getElem? (i := 1) rfl)
  have J22 : ∀ (n : Nat) (x2 : Int32) (x3 : Int32) (mLea : Nat → Int32) (mLat : Nat → Int32) (mBst : Nat → Int32) (mRsk : Nat → Int32) (mStk : Nat → Int32) (mFct : Nat → Int32), lp_X7_safest_22 mNow Q n x2 x3 mLea mLat mBst mRsk mStk mFct → ∀ (H : Heap) (locs : List Loc), va_P E.1 vwCl (rw_24 E mo mn mi ma ml mt mb mr mp mk mq mc mw mz ms mf mu mv mx mh mA mB mC mM mT mHI mFC mLC mCg mTp mNx mFr mTk mVa mEn mKe mCs mAt mHd mWg mNow mImg mAsd mLea mLat mBst mRsk mTap mKys mKat mCod mWts mTes mStk mFct mSor mSiz mCel mHol mHoA mHoB mHoC mMov mTel) H → va_D A (rw_24 E mo mn mi ma ml mt mb mr mp mk mq mc mw mz ms mf mu mv mx mh mA mB mC mM mT mHI mFC mLC mCg mTp mNx mFr mTk mVa mEn mKe mCs mAt mHd mWg mNow mImg mAsd mLea mLat mBst mRsk mTap mKys mKat mCod mWts mTes mStk mFct mSor mSiz mCel mHol mHoA mHoB mHoC mMov mTel) → va_S A s.heap H locs → ∀ ls : Array Slot, lv_has ls 4 [(0, .ref mo), (2, .int x2), (3, .int x3)] → W p l e ({ frames := 4, cells := 0, slots := 0, locals := 98 } : Room) s m args below meth c H locs 0 0 QQ (F0 m 22 ls []) := by
    intro n
    induction n with
    | zero =>
      intro x2 x3 mLea mLat mBst mRsk mStk mFct h
      exact False.elim h
    | succ n ih =>
      intro x2 x3 mLea mLat mBst mRsk mStk mFct h H locs hP hD hS ls hl
      have h : lp_X7_safest_22F mNow Q (lp_X7_safest_22 mNow Q n) x2 x3 mLea mLat mBst mRsk mStk mFct := h
      unfold lp_X7_safest_22F at h
      refine lv_iload_n hx hb dX7_safest_22 rfl (lv_at hl 2 rfl) ?_
      refine lv_aload_n hx hb dX7_safest_23 rfl (lv_at hl 0 rfl) ?_
      refine va_get (D := E.1) (ci := 7) (v := .ref mn) (C := RX7) (T := TX7) (N := 39) hx hb hts n_X7 hown hK hP 0 rfl rfl 0 (by decide) k_9 (fun _ h9 => h9) rfl dX7_safest_24 ?_
      refine lv_iconst (v := 1) hx hb dX7_safest_27 (by decide) ?_
      refine rc_iald hx hb hK hP 1 0 rfl rfl 1 (by decide) (by unfold vp_in; decide) dX7_safest_28 ?_
      refine lv_icmp_ge (tgt := 63) hx hb dX7_safest_29 (by decide) (fun c_1 => ?_) (fun c_1 => ?_)
      · have h := h.1 c_1
        refine lv_iload_n hx hb dX7_safest_63 rfl (lv_at hl 1 rfl) ?_
        have hPc := hP.sub (ws' := []) [] rfl
        have hDc := hD.sub (ws' := []) [] (by decide) rfl
        have hFc := va_free (wc := []) hD hS hA [] rfl
        refine va_calli (va_runS (As := [.int x2]) (rest := []) ⟨hx, hb, hml, hown, hts⟩ (c_X7_told0 l E H.size x2 _ h) (va_cwS 1 hts gX7_safest_X7_told0 rfl rfl rfl (by decide +kernel) ⟨Nat.le_of_ble_eq_true rfl, Nat.le_of_ble_eq_true rfl⟩) ⟨fun a U g mk q => ⟨q.1, q.2.blind⟩, fun U hU hW => ⟨rfl, by rw [hU], by rw [hU]; exact hPc, hE.call hS hFc hW hU, hDc.weaken (fun _ _ _ _ => trivial)⟩⟩ rfl rfl hl.1 rfl (lv_room (Nat.le_of_ble_eq_true rfl)) dX7_safest_64 ⟨Nat.zero_le _, Nat.zero_le _⟩) hS (fun q _ h => hFc q h) hFc (fun r_2 u t H1 locs ht hvm h hB hz1 hk1 hS => ?_)
        obtain ⟨hP1, hD1⟩ := hB
        rw [ht] at hP1
        obtain ⟨hP, hD⟩ := rc_foc hP hD [] [none, none, none, none, none, none, none, none, none, none, none, none, none, none, none, none, none, none, none, none, none, none, none, none, none] (by decide) rfl hk1 hP1 rfl
        generalize H1 = H at hP hS ⊢
        have hP : va_P E.1 vwCl (rw_24 E mo mn mi ma ml mt mb mr mp mk mq mc mw mz ms mf mu mv mx mh mA mB mC mM mT mHI mFC mLC mCg mTp mNx mFr mTk mVa mEn mKe mCs mAt mHd mWg mNow mImg mAsd mLea mLat mBst mRsk mTap mKys mKat mCod mWts mTes mStk mFct mSor mSiz mCel mHol mHoA mHoB mHoC mMov mTel) H := hP
        have hD : va_D A (rw_24 E mo mn mi ma ml mt mb mr mp mk mq mc mw mz ms mf mu mv mx mh mA mB mC mM mT mHI mFC mLC mCg mTp mNx mFr mTk mVa mEn mKe mCs mAt mHd mWg mNow mImg mAsd mLea mLat mBst mRsk mTap mKys mKat mCod mWts mTes mStk mFct mSor mSiz mCel mHol mHoA mHoB mHoC mMov mTel) := hD
        exact hret _ _ _ _ r_2 (mLea, mLat, mBst, mRsk, mStk, mFct) rfl h hP hD hS dX7_safest_67
      · have h := h.2 c_1
        refine lv_iload_n hx hb dX7_safest_32 rfl (lv_at hl 1 rfl) ?_
        refine lv_if_lt (tgt := 51) hx hb dX7_safest_33 (by decide) (fun c_3 => ?_) (fun c_3 => ?_)
        · have h := h.1 c_3
          refine lv_iload_n hx hb dX7_safest_51 rfl (lv_at hl 2 rfl) ?_
          refine lv_goto (tgt := 56) hx hb dX7_safest_52 (by decide) ?_
          refine lv_istore_n (lv' := [(2, .int x3), (0, .ref mo), (3, .int x3)]) hx hb dX7_safest_56 rfl hl (by decide) rfl (fun ls hl => ?_)
          refine lv_iinc (v := x3 + 1) (lv' := [(3, .int (x3 + 1)), (2, .int x3), (0, .ref mo)]) hx hb dX7_safest_57 hl (k := 2) rfl (by rfl) (by decide) rfl (fun ls hl => ?_)
          refine lv_goto (tgt := 22) hx hb dX7_safest_60 (by decide) ?_
          exact ih x3 (x3 + 1) mLea mLat mBst mRsk mStk mFct h _ _ hP hD hS ls (lv_sub hl [2, 1, 0] rfl)
        · have h := h.2 c_3
          refine lv_aload_n hx hb dX7_safest_36 rfl (lv_at hl 0 rfl) ?_
          refine va_get (D := E.1) (ci := 7) (v := .ref ml) (C := RX7) (T := TX7) (N := 39) hx hb hts n_X7 hown hK hP 0 rfl rfl 4 (by decide) k_19 (fun _ h9 => h9) rfl dX7_safest_37 ?_
          refine lv_iload_n hx hb dX7_safest_40 rfl (lv_at hl 2 rfl) ?_
          obtain ⟨o_4, h⟩ := h
          refine rc_iald hx hb hK hP 4 0 rfl rfl x3.toNatClampNeg rfl o_4 dX7_safest_41 ?_
          refine lv_aload_n hx hb dX7_safest_42 rfl (lv_at hl 0 rfl) ?_
          refine va_get (D := E.1) (ci := 7) (v := .ref ml) (C := RX7) (T := TX7) (N := 39) hx hb hts n_X7 hown hK hP 0 rfl rfl 4 (by decide) k_19 (fun _ h9 => h9) rfl dX7_safest_43 ?_
          refine lv_iload_n hx hb dX7_safest_46 rfl (lv_at hl 1 rfl) ?_
          obtain ⟨o_5, h⟩ := h
          refine rc_iald hx hb hK hP 4 0 rfl rfl x2.toNatClampNeg rfl o_5 dX7_safest_47 ?_
          refine lv_icmp_ge (tgt := 55) hx hb dX7_safest_48 (by decide) (fun c_6 => ?_) (fun c_6 => ?_)
          · have h := h.1 c_6
            refine lv_iload_n hx hb dX7_safest_55 rfl (lv_at hl 1 rfl) ?_
            refine lv_istore_n (lv' := [(2, .int x2), (0, .ref mo), (3, .int x3)]) hx hb dX7_safest_56 rfl hl (by decide) rfl (fun ls hl => ?_)
            refine lv_iinc (v := x3 + 1) (lv' := [(3, .int (x3 + 1)), (2, .int x2), (0, .ref mo)]) hx hb dX7_safest_57 hl (k := 2) rfl (by rfl) (by decide) rfl (fun ls hl => ?_)
            refine lv_goto (tgt := 22) hx hb dX7_safest_60 (by decide) ?_
            exact ih x2 (x3 + 1) mLea mLat mBst mRsk mStk mFct h _ _ hP hD hS ls (lv_sub hl [2, 1, 0] rfl)
          · have h := h.2 c_6
            refine lv_iload_n hx hb dX7_safest_51 rfl (lv_at hl 2 rfl) ?_
            refine lv_goto (tgt := 56) hx hb dX7_safest_52 (by decide) ?_
            refine lv_istore_n (lv' := [(2, .int x3), (0, .ref mo), (3, .int x3)]) hx hb dX7_safest_56 rfl hl (by decide) rfl (fun ls hl => ?_)
            refine lv_iinc (v := x3 + 1) (lv' := [(3, .int (x3 + 1)), (2, .int x3), (0, .ref mo)]) hx hb dX7_safest_57 hl (k := 2) rfl (by rfl) (by decide) rfl (fun ls hl => ?_)
            refine lv_goto (tgt := 22) hx hb dX7_safest_60 (by decide) ?_
            exact ih x3 (x3 + 1) mLea mLat mBst mRsk mStk mFct h _ _ hP hD hS ls (lv_sub hl [2, 1, 0] rfl)
  unfold wp_X7_safest at h
  obtain ⟨H, hH⟩ : ∃ H, H = s.heap := ⟨_, rfl⟩
  obtain ⟨locs, hlocs⟩ : ∃ locs : List Loc, locs = [] := ⟨_, rfl⟩
  have hP : va_P E.1 vwCl (rw_24 E mo mn mi ma ml mt mb mr mp mk mq mc mw mz ms mf mu mv mx mh mA mB mC mM mT mHI mFC mLC mCg mTp mNx mFr mTk mVa mEn mKe mCs mAt mHd mWg mNow mImg mAsd mLea mLat mBst mRsk mTap mKys mKat mCod mWts mTes mStk mFct mSor mSiz mCel mHol mHoA mHoB mHoC mMov mTel) H := by rw [hH]; exact hP
  have hS : va_S A s.heap H locs := by rw [hH, hlocs]; exact hS
  suffices hgo : W p l e ({ frames := 4, cells := 0, slots := 0, locals := 98 } : Room) s m args below meth c H locs 0 0 QQ (F0 m 0 ls []) from by rw [hH, hlocs] at hgo; exact hgo
  refine lv_iload_n hx hb dX7_safest_0 rfl (lv_at hl 1 rfl) ?_
  refine lv_iconst (v := 1) hx hb dX7_safest_1 (by decide) ?_
  refine lv_bipush (v := 60) hx hb dX7_safest_2 (by decide) ?_
  have hPc := hP.sub (ws' := []) [] rfl
  have hDc := hD.sub (ws' := []) [] (by decide) rfl
  have hFc := va_free (wc := []) hD hS hA [] rfl
  refine va_calli (va_runS (As := [.int p1, .int 1, .int 60]) (rest := []) ⟨hx, hb, hml, hown, hts⟩ (c_X7_in l E H.size p1 1 60 _ h) (va_cwS 3 hts gX7_safest_X7_in rfl rfl rfl (by decide +kernel) ⟨Nat.le_of_ble_eq_true rfl, Nat.le_of_ble_eq_true rfl⟩) ⟨fun a U g mk q => ⟨q.1, q.2.blind⟩, fun U hU hW => ⟨rfl, by rw [hU], by rw [hU]; exact hPc, hE.call hS hFc hW hU, hDc.weaken (fun _ _ _ _ => trivial)⟩⟩ rfl rfl hl.1 rfl (lv_room (Nat.le_of_ble_eq_true rfl)) dX7_safest_4 ⟨Nat.zero_le _, Nat.zero_le _⟩) hS (fun q _ h => hFc q h) hFc (fun r_7 u t H1 locs ht hvm h hB hz1 hk1 hS => ?_)
  obtain ⟨hP1, hD1⟩ := hB
  rw [ht] at hP1
  obtain ⟨hP, hD⟩ := rc_foc hP hD [] [none, none, none, none, none, none, none, none, none, none, none, none, none, none, none, none, none, none, none, none, none, none, none, none, none] (by decide) rfl hk1 hP1 rfl
  generalize H1 = H at hP hS ⊢
  have hP : va_P E.1 vwCl (rw_24 E mo mn mi ma ml mt mb mr mp mk mq mc mw mz ms mf mu mv mx mh mA mB mC mM mT mHI mFC mLC mCg mTp mNx mFr mTk mVa mEn mKe mCs mAt mHd mWg mNow mImg mAsd mLea mLat mBst mRsk mTap mKys mKat mCod mWts mTes mStk mFct mSor mSiz mCel mHol mHoA mHoB mHoC mMov mTel) H := hP
  have hD : va_D A (rw_24 E mo mn mi ma ml mt mb mr mp mk mq mc mw mz ms mf mu mv mx mh mA mB mC mM mT mHI mFC mLC mCg mTp mNx mFr mTk mVa mEn mKe mCs mAt mHd mWg mNow mImg mAsd mLea mLat mBst mRsk mTap mKys mKat mCod mWts mTes mStk mFct mSor mSiz mCel mHol mHoA mHoB mHoC mMov mTel) := hD
  refine lv_if_ne (tgt := 13) hx hb dX7_safest_7 (by decide) (fun c_8 => ?_) (fun c_8 => ?_)
  · have h := h.1 c_8
    refine lv_aload_n hx hb dX7_safest_13 rfl (lv_at hl 0 rfl) ?_
    refine lv_iload_n hx hb dX7_safest_14 rfl (lv_at hl 1 rfl) ?_
    have hPc := hP
    have hDc := hD
    have hFc := rc_freeI hD hS hA
    refine va_callv (va_runV (As := [.int p1]) (rest := []) ⟨hx, hb, hml, hown, hts⟩ (c_X7_findTree l E mo mn mi ma ml mt mb mr mp mk mq mc mw mz ms mf mu mv mx mh mA mB mC mM mT H.size mHI mFC mLC mCg mTp mNx mFr mTk mVa mEn mKe mCs mAt mHd mWg mNow mImg mAsd mLea mLat mBst mRsk mTap mKys mKat mCod mWts mTes mStk mFct mSor mSiz mCel mHol mHoA mHoB mHoC mMov mTel p1 _ h) (cwV 1 hts gX7_safest_X7_findTree rfl rfl rfl (by decide +kernel) ⟨Nat.le_of_ble_eq_true rfl, Nat.le_of_ble_eq_true rfl⟩) ⟨fun a U g mk q => ⟨q.1, q.2.blind⟩, va_recv hK hPc (ci := 7) (q0 := 0) rfl rfl, fun U hU hW => ⟨rfl, by rw [hU], by rw [hU]; exact hPc, hE.call hS hFc hW hU, hDc.weaken (fun _ _ _ _ => trivial)⟩⟩ rfl rfl hl.1 rfl (lv_room (Nat.le_of_ble_eq_true rfl)) dX7_safest_15 ⟨Nat.zero_le _, Nat.zero_le _⟩) hS (fun q _ h => hFc q h) hFc (fun u t H1 locs ht hvm h hB hz1 hk1 hS => ?_)
    obtain ⟨w_9, w_10, w_11, w_12, w_13, w_14⟩ := u
    obtain ⟨hP1, hD1⟩ := hB
    rw [ht] at hP1
    have hP := hP1
    have hD := hD1.weaken (fun _ _ _ h => hFc _ h)
    generalize H1 = H at hP hS ⊢
    have hP : va_P E.1 vwCl (rw_24 E mo mn mi ma ml mt mb mr mp mk mq mc mw mz ms mf mu mv mx mh mA mB mC mM mT mHI mFC mLC mCg mTp mNx mFr mTk mVa mEn mKe mCs mAt mHd mWg mNow mImg mAsd w_9 w_10 w_11 w_12 mTap mKys mKat mCod mWts mTes w_13 w_14 mSor mSiz mCel mHol mHoA mHoB mHoC mMov mTel) H := hP
    have hD : va_D A (rw_24 E mo mn mi ma ml mt mb mr mp mk mq mc mw mz ms mf mu mv mx mh mA mB mC mM mT mHI mFC mLC mCg mTp mNx mFr mTk mVa mEn mKe mCs mAt mHd mWg mNow mImg mAsd w_9 w_10 w_11 w_12 mTap mKys mKat mCod mWts mTes w_13 w_14 mSor mSiz mCel mHol mHoA mHoB mHoC mMov mTel) := hD
    refine lv_iconst (v := (-1)) hx hb dX7_safest_18 (by decide) ?_
    refine lv_istore_n (lv' := [(2, .int (-1)), (0, .ref mo), (1, .int p1)]) hx hb dX7_safest_19 rfl hl (by decide) rfl (fun ls hl => ?_)
    refine lv_iconst (v := 0) hx hb dX7_safest_20 (by decide) ?_
    refine lv_istore_n (lv' := [(3, .int 0), (2, .int (-1)), (0, .ref mo), (1, .int p1)]) hx hb dX7_safest_21 rfl hl (by decide) rfl (fun ls hl => ?_)
    obtain ⟨n, h⟩ := h
    exact J22 n (-1) 0 w_9 w_10 w_11 w_12 w_13 w_14 h _ _ hP hD hS ls (lv_sub hl [2, 1, 0] rfl)
  · have h := h.2 c_8
    refine lv_ldc hx hb hown k_89 dX7_safest_10 ?_
    exact hret _ _ _ _ (-1000000001) (mLea, mLat, mBst, mRsk, mStk, mFct) rfl h hP hD hS dX7_safest_12
