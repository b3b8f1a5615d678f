def wp_X7_comes (p1 : Int32) (p2 : Int32) (p3 : Int32) (mNow : Nat → Int32) (Q : Int32 → (Nat → Int32) → Prop) : Prop :=
  (vp_in (9 + (3 * (mNow 1))) 1453 ∧ (vp_in ((9 + (3 * (mNow 1))) + 1) 1453 ∧ (vp_in ((9 + (3 * (mNow 1))) + 2) 1453 ∧ Q (((upd (upd (upd (upd mNow ((9 + (3 * (mNow 1))).toNatClampNeg) p1) (((9 + (3 * (mNow 1))) + 1).toNatClampNeg) p2) (((9 + (3 * (mNow 1))) + 2).toNatClampNeg) p3) 1 (((upd (upd (upd mNow ((9 + (3 * (mNow 1))).toNatClampNeg) p1) (((9 + (3 * (mNow 1))) + 1).toNatClampNeg) p2) (((9 + (3 * (mNow 1))) + 2).toNatClampNeg) p3) 1) + 1)) 1) - 1) (upd (upd (upd (upd mNow ((9 + (3 * (mNow 1))).toNatClampNeg) p1) (((9 + (3 * (mNow 1))) + 1).toNatClampNeg) p2) (((9 + (3 * (mNow 1))) + 2).toNatClampNeg) p3) 1 (((upd (upd (upd mNow ((9 + (3 * (mNow 1))).toNatClampNeg) p1) (((9 + (3 * (mNow 1))) + 1).toNatClampNeg) p2) (((9 + (3 * (mNow 1))) + 2).toNatClampNeg) p3) 1) + 1)))))
set_option maxHeartbeats 4000000 in
set_option maxRecDepth 100000 in
theorem c_X7_comes (l : Launch) (E : gE) (mo mn mi ma ml mt mb mr mp mk mq mc mw mz ms mf mu mv mx mh mA mB mC mM mT : Nat) (sz : Nat) (mHI : Int32) (mFC : Int32) (mLC : Int32) (mCg : Int32) (mTp : Int32) (mNx : Int32) (mFr : Int32) (mTk : Int32) (mVa : Int32) (mEn : Int32) (mKe : Int32) (mCs : Int32) (mAt : Int32) (mHd : Int32) (mWg : Int32) (mNow : Nat → Int32) (mImg : Nat → Int32) (mAsd : Nat → Int32) (mLea : Nat → Int32) (mLat : Nat → Int32) (mBst : Nat → Int32) (mRsk : Nat → Int32) (mTap : Nat → Int32) (mKys : Nat → Int32) (mKat : Nat → Int32) (mCod : Nat → Int32) (mWts : Nat → Int32) (mTes : Nat → Int32) (mStk : Nat → Int32) (mFct : Nat → Int32) (mSor : Nat → Int32) (mSiz : Nat → Int32) (mCel : Nat → Int32) (mHol : Nat → Int32) (mHoA : Nat → Int32) (mHoB : Nat → Int32) (mHoC : Nat → Int32) (mMov : Nat → Int32) (mTel : Nat → Int32) (p1 p2 p3 : Int32)  (Q : Int32 → (Nat → Int32) → Prop) (h : wp_X7_comes p1 p2 p3 mNow Q) : Met l yX7_comes wsX7_comes ({ frames := 0, cells := 0, slots := 0, locals := 0 } : Room) (va_Pc [.ref mo, .int p1, .int p2, .int p3] (rc_B E (rw_24 E mo mn mi ma ml mt mb mr mp mk mq mc mw mz ms mf mu mv mx mh mA mB mC mM mT mHI mFC mLC mCg mTp mNx mFr mTk mVa mEn mKe mCs mAt mHd mWg mNow mImg mAsd mLea mLat mBst mRsk mTap mKys mKat mCod mWts mTes mStk mFct mSor mSiz mCel mHol mHoA mHoB mHoC mMov mTel) sz)) (va_Qi (S := (Nat → Int32)) (fun (r : Int32) (u : (Nat → Int32)) => Q r u) (fun u t => rc_C E (va_A (rw_24 E mo mn mi ma ml mt mb mr mp mk mq mc mw mz ms mf mu mv mx mh mA mB mC mM mT mHI mFC mLC mCg mTp mNx mFr mTk mVa mEn mKe mCs mAt mHd mWg mNow mImg mAsd mLea mLat mBst mRsk mTap mKys mKat mCod mWts mTes mStk mFct mSor mSiz mCel mHol mHoA mHoB mHoC mMov mTel) sz) (rw_24 E mo mn mi ma ml mt mb mr mp mk mq mc mw mz ms mf mu mv mx mh mA mB mC mM mT mHI mFC mLC mCg mTp mNx mFr mTk mVa mEn mKe mCs mAt mHd mWg u mImg mAsd mLea mLat mBst mRsk mTap mKys mKat mCod mWts mTes mStk mFct mSor mSiz mCel mHol mHoA mHoB mHoC mMov mTel) t) (va_A (rw_24 E mo mn mi ma ml mt mb mr mp mk mq mc mw mz ms mf mu mv mx mh mA mB mC mM mT mHI mFC mLC mCg mTp mNx mFr mTk mVa mEn mKe mCs mAt mHd mWg mNow mImg mAsd mLea mLat mBst mRsk mTap mKys mKat mCod mWts mTes mStk mFct mSor mSiz mCel mHol mHoA mHoB mHoC mMov mTel) sz)) 0 0 (va_A (rw_24 E mo mn mi ma ml mt mb mr mp mk mq mc mw mz ms mf mu mv mx mh mA mB mC mM mT mHI mFC mLC mCg mTp mNx mFr mTk mVa mEn mKe mCs mAt mHd mWg mNow mImg mAsd mLea mLat mBst mRsk mTap mKys mKat mCod mWts mTes mStk mFct mSor mSiz mCel mHol mHoA mHoB mHoC mMov mTel) sz) := by
  refine rc_enterI (cc := cX7_comes) (maxL := 5) (by decide) rfl (Nat.le_of_ble_eq_true rfl) ?_
  intro p e s m args below meth c QQ A hx hb hml hown hts hmn hE hP hD hA hret ls hl
  have hown : s.vm.findClass RX7 = some m.cls := hown
  have hK := hE.1
  have hS : va_S A s.heap s.heap [] := va_S.rf
  have hl : lv_has ls 5 [(0, .ref mo), (1, .int p1), (2, .int p2), (3, .int p3)] := hl
  have n_X7 : ∀ w ∈ wsX70, w ∈ wsX7_comes := fun _ h => List.mem_cons_of_mem _ (List.mem_append_right _ h)
  have k_9 := hts (.fieldLink RX7 9 "RidgeClapsModel" "now" "[I") (List.mem_of_getElem? (i := 1) rfl)
  unfold wp_X7_comes at h
  obtain ⟨H, hH⟩ : ∃ H, H = s.heap := ⟨_, rfl⟩
  obtain ⟨locs, hlocs⟩ : ∃ locs : List Loc, locs = [] := ⟨_, rfl⟩
  have hP : va_P E.1 vwCl (rw_24 E mo mn mi ma ml mt mb mr mp mk mq mc mw mz ms mf mu mv mx mh mA mB mC mM mT mHI mFC mLC mCg mTp mNx mFr mTk mVa mEn mKe mCs mAt mHd mWg mNow mImg mAsd mLea mLat mBst mRsk mTap mKys mKat mCod mWts mTes mStk mFct mSor mSiz mCel mHol mHoA mHoB mHoC mMov mTel) H := by rw [hH]; exact hP
  have hS : va_S A s.heap H locs := by rw [hH, hlocs]; exact hS
  suffices hgo : W p l e ({ frames := 0, cells := 0, slots := 0, locals := 0 } : Room) s m args below meth c H locs 0 0 QQ (F0 m 0 ls []) from by rw [hH, hlocs] at hgo; exact hgo
  refine lv_bipush (v := 9) hx hb dX7_comes_0 (by decide) ?_
  refine lv_iconst (v := 3) hx hb dX7_comes_2 (by decide) ?_
  refine lv_aload_n hx hb dX7_comes_3 rfl (lv_at hl 0 rfl) ?_
  refine va_get (D := E.1) (ci := 7) (v := .ref mn) (C := RX7) (T := TX7) (N := 39) hx hb hts n_X7 hown hK hP 0 rfl rfl 0 (by decide) k_9 (fun _ h9 => h9) rfl dX7_comes_4 ?_
  refine lv_iconst (v := 1) hx hb dX7_comes_7 (by decide) ?_
  refine rc_iald hx hb hK hP 1 0 rfl rfl 1 (by decide) (by unfold vp_in; decide) dX7_comes_8 ?_
  refine lv_imul hx hb dX7_comes_9 ?_
  refine lv_iadd hx hb dX7_comes_10 ?_
  refine lv_istore (lv' := [(4, .int (9 + (3 * (mNow 1)))), (0, .ref mo), (1, .int p1), (2, .int p2), (3, .int p3)]) hx hb dX7_comes_11 hl (by decide) rfl (fun ls hl => ?_)
  refine lv_aload_n hx hb dX7_comes_13 rfl (lv_at hl 1 rfl) ?_
  refine va_get (D := E.1) (ci := 7) (v := .ref mn) (C := RX7) (T := TX7) (N := 39) hx hb hts n_X7 hown hK hP 0 rfl rfl 0 (by decide) k_9 (fun _ h9 => h9) rfl dX7_comes_14 ?_
  refine lv_iload hx hb dX7_comes_17 (lv_at hl 0 rfl) ?_
  refine lv_iload_n hx hb dX7_comes_19 rfl (lv_at hl 2 rfl) ?_
  obtain ⟨o_1, h⟩ := h
  refine rc_iast hx hb hK hP hD hS 1 0 rfl rfl ((9 + (3 * (mNow 1))).toNatClampNeg) rfl o_1 dX7_comes_20 (fun H locs hP hD hS => ?_)
  have hP : va_P E.1 vwCl (rw_24 E mo mn mi ma ml mt mb mr mp mk mq mc mw mz ms mf mu mv mx mh mA mB mC mM mT mHI mFC mLC mCg mTp mNx mFr mTk mVa mEn mKe mCs mAt mHd mWg (upd mNow ((9 + (3 * (mNow 1))).toNatClampNeg) p1) mImg mAsd mLea mLat mBst mRsk mTap mKys mKat mCod mWts mTes mStk mFct mSor mSiz mCel mHol mHoA mHoB mHoC mMov mTel) H := hP
  have hD : va_D A (rw_24 E mo mn mi ma ml mt mb mr mp mk mq mc mw mz ms mf mu mv mx mh mA mB mC mM mT mHI mFC mLC mCg mTp mNx mFr mTk mVa mEn mKe mCs mAt mHd mWg (upd mNow ((9 + (3 * (mNow 1))).toNatClampNeg) p1) mImg mAsd mLea mLat mBst mRsk mTap mKys mKat mCod mWts mTes mStk mFct mSor mSiz mCel mHol mHoA mHoB mHoC mMov mTel) := hD
  refine lv_aload_n hx hb dX7_comes_21 rfl (lv_at hl 1 rfl) ?_
  refine va_get (D := E.1) (ci := 7) (v := .ref mn) (C := RX7) (T := TX7) (N := 39) hx hb hts n_X7 hown hK hP 0 rfl rfl 0 (by decide) k_9 (fun _ h9 => h9) rfl dX7_comes_22 ?_
  refine lv_iload hx hb dX7_comes_25 (lv_at hl 0 rfl) ?_
  refine lv_iconst (v := 1) hx hb dX7_comes_27 (by decide) ?_
  refine lv_iadd hx hb dX7_comes_28 ?_
  refine lv_iload_n hx hb dX7_comes_29 rfl (lv_at hl 3 rfl) ?_
  obtain ⟨o_2, h⟩ := h
  refine rc_iast hx hb hK hP hD hS 1 0 rfl rfl (((9 + (3 * (mNow 1))) + 1).toNatClampNeg) rfl o_2 dX7_comes_30 (fun H locs hP hD hS => ?_)
  have hP : va_P E.1 vwCl (rw_24 E mo mn mi ma ml mt mb mr mp mk mq mc mw mz ms mf mu mv mx mh mA mB mC mM mT mHI mFC mLC mCg mTp mNx mFr mTk mVa mEn mKe mCs mAt mHd mWg (upd (upd mNow ((9 + (3 * (mNow 1))).toNatClampNeg) p1) (((9 + (3 * (mNow 1))) + 1).toNatClampNeg) p2) mImg mAsd mLea mLat mBst mRsk mTap mKys mKat mCod mWts mTes mStk mFct mSor mSiz mCel mHol mHoA mHoB mHoC mMov mTel) H := hP
  have hD : va_D A (rw_24 E mo mn mi ma ml mt mb mr mp mk mq mc mw mz ms mf mu mv mx mh mA mB mC mM mT mHI mFC mLC mCg mTp mNx mFr mTk mVa mEn mKe mCs mAt mHd mWg (upd (upd mNow ((9 + (3 * (mNow 1))).toNatClampNeg) p1) (((9 + (3 * (mNow 1))) + 1).toNatClampNeg) p2) mImg mAsd mLea mLat mBst mRsk mTap mKys mKat mCod mWts mTes mStk mFct mSor mSiz mCel mHol mHoA mHoB mHoC mMov mTel) := hD
  refine lv_aload_n hx hb dX7_comes_31 rfl (lv_at hl 1 rfl) ?_
  refine va_get (D := E.1) (ci := 7) (v := .ref mn) (C := RX7) (T := TX7) (N := 39) hx hb hts n_X7 hown hK hP 0 rfl rfl 0 (by decide) k_9 (fun _ h9 => h9) rfl dX7_comes_32 ?_
  refine lv_iload hx hb dX7_comes_35 (lv_at hl 0 rfl) ?_
  refine lv_iconst (v := 2) hx hb dX7_comes_37 (by decide) ?_
  refine lv_iadd hx hb dX7_comes_38 ?_
  refine lv_iload_n hx hb dX7_comes_39 rfl (lv_at hl 4 rfl) ?_
  obtain ⟨o_3, h⟩ := h
  refine rc_iast hx hb hK hP hD hS 1 0 rfl rfl (((9 + (3 * (mNow 1))) + 2).toNatClampNeg) rfl o_3 dX7_comes_40 (fun H locs hP hD hS => ?_)
  have hP : va_P E.1 vwCl (rw_24 E mo mn mi ma ml mt mb mr mp mk mq mc mw mz ms mf mu mv mx mh mA mB mC mM mT mHI mFC mLC mCg mTp mNx mFr mTk mVa mEn mKe mCs mAt mHd mWg (upd (upd (upd mNow ((9 + (3 * (mNow 1))).toNatClampNeg) p1) (((9 + (3 * (mNow 1))) + 1).toNatClampNeg) p2) (((9 + (3 * (mNow 1))) + 2).toNatClampNeg) p3) mImg mAsd mLea mLat mBst mRsk mTap mKys mKat mCod mWts mTes mStk mFct mSor mSiz mCel mHol mHoA mHoB mHoC mMov mTel) H := hP
  have hD : va_D A (rw_24 E mo mn mi ma ml mt mb mr mp mk mq mc mw mz ms mf mu mv mx mh mA mB mC mM mT mHI mFC mLC mCg mTp mNx mFr mTk mVa mEn mKe mCs mAt mHd mWg (upd (upd (upd mNow ((9 + (3 * (mNow 1))).toNatClampNeg) p1) (((9 + (3 * (mNow 1))) + 1).toNatClampNeg) p2) (((9 + (3 * (mNow 1))) + 2).toNatClampNeg) p3) mImg mAsd mLea mLat mBst mRsk mTap mKys mKat mCod mWts mTes mStk mFct mSor mSiz mCel mHol mHoA mHoB mHoC mMov mTel) := hD
  refine lv_aload_n hx hb dX7_comes_41 rfl (lv_at hl 1 rfl) ?_
  refine va_get (D := E.1) (ci := 7) (v := .ref mn) (C := RX7) (T := TX7) (N := 39) hx hb hts n_X7 hown hK hP 0 rfl rfl 0 (by decide) k_9 (fun _ h9 => h9) rfl dX7_comes_42 ?_
  refine lv_iconst (v := 1) hx hb dX7_comes_45 (by decide) ?_
  refine lv_dup2_11 hx hb dX7_comes_46 rfl rfl ?_
  refine rc_iald hx hb hK hP 1 0 rfl rfl 1 (by decide) (by unfold vp_in; decide) dX7_comes_47 ?_
  refine lv_iconst (v := 1) hx hb dX7_comes_48 (by decide) ?_
  refine lv_iadd hx hb dX7_comes_49 ?_
  refine rc_iast hx hb hK hP hD hS 1 0 rfl rfl 1 (by decide) (by unfold vp_in; decide) dX7_comes_50 (fun H locs hP hD hS => ?_)
  have hP : va_P E.1 vwCl (rw_24 E mo mn mi ma ml mt mb mr mp mk mq mc mw mz ms mf mu mv mx mh mA mB mC mM mT mHI mFC mLC mCg mTp mNx mFr mTk mVa mEn mKe mCs mAt mHd mWg (upd (upd (upd (upd mNow ((9 + (3 * (mNow 1))).toNatClampNeg) p1) (((9 + (3 * (mNow 1))) + 1).toNatClampNeg) p2) (((9 + (3 * (mNow 1))) + 2).toNatClampNeg) p3) 1 (((upd (upd (upd mNow ((9 + (3 * (mNow 1))).toNatClampNeg) p1) (((9 + (3 * (mNow 1))) + 1).toNatClampNeg) p2) (((9 + (3 * (mNow 1))) + 2).toNatClampNeg) p3) 1) + 1)) mImg mAsd mLea mLat mBst mRsk mTap mKys mKat mCod mWts mTes mStk mFct mSor mSiz mCel mHol mHoA mHoB mHoC mMov mTel) H := hP
  have hD : va_D A (rw_24 E mo mn mi ma ml mt mb mr mp mk mq mc mw mz ms mf mu mv mx mh mA mB mC mM mT mHI mFC mLC mCg mTp mNx mFr mTk mVa mEn mKe mCs mAt mHd mWg (upd (upd (upd (upd mNow ((9 + (3 * (mNow 1))).toNatClampNeg) p1) (((9 + (3 * (mNow 1))) + 1).toNatClampNeg) p2) (((9 + (3 * (mNow 1))) + 2).toNatClampNeg) p3) 1 (((upd (upd (upd mNow ((9 + (3 * (mNow 1))).toNatClampNeg) p1) (((9 + (3 * (mNow 1))) + 1).toNatClampNeg) p2) (((9 + (3 * (mNow 1))) + 2).toNatClampNeg) p3) 1) + 1)) mImg mAsd mLea mLat mBst mRsk mTap mKys mKat mCod mWts mTes mStk mFct mSor mSiz mCel mHol mHoA mHoB mHoC mMov mTel) := hD
  refine lv_aload_n hx hb dX7_comes_51 rfl (lv_at hl 1 rfl) ?_
  refine va_get (D := E.1) (ci := 7) (v := .ref mn) (C := RX7) (T := TX7) (N := 39) hx hb hts n_X7 hown hK hP 0 rfl rfl 0 (by decide) k_9 (fun _ h9 => h9) rfl dX7_comes_52 ?_
  refine lv_iconst (v := 1) hx hb dX7_comes_55 (by decide) ?_
  refine rc_iald hx hb hK hP 1 0 rfl rfl 1 (by decide) (by unfold vp_in; decide) dX7_comes_56 ?_
  refine lv_iconst (v := 1) hx hb dX7_comes_57 (by decide) ?_
  refine lv_isub hx hb dX7_comes_58 ?_
  exact hret _ _ _ _ (((upd (upd (upd (upd mNow ((9 + (3 * (mNow 1))).toNatClampNeg) p1) (((9 + (3 * (mNow 1))) + 1).toNatClampNeg) p2) (((9 + (3 * (mNow 1))) + 2).toNatClampNeg) p3) 1 (((upd (upd (upd mNow ((9 + (3 * (mNow 1))).toNatClampNeg) p1) (((9 + (3 * (mNow 1))) + 1).toNatClampNeg) p2) (((9 + (3 * (mNow 1))) + 2).toNatClampNeg) p3) 1) + 1)) 1) - 1) (upd (upd (upd (upd mNow ((9 + (3 * (mNow 1))).toNatClampNeg) p1) (((9 + (3 * (mNow 1))) + 1).toNatClampNeg) p2) (((9 + (3 * (mNow 1))) + 2).toNatClampNeg) p3) 1 (((upd (upd (upd mNow ((9 + (3 * (mNow 1))).toNatClampNeg) p1) (((9 + (3 * (mNow 1))) + 1).toNatClampNeg) p2) (((9 + (3 * (mNow 1))) + 2).toNatClampNeg) p3) 1) + 1)) rfl h hP hD hS dX7_comes_59
def wp_X7_place (p1 : Int32) (p2 : Int32) (mNow : Nat → Int32) (Q : Int32 → (Nat → Int32) → Prop) : Prop :=
  wp_X7_in p1 0 5 (fun (r_1 : Int32) => ((r_1 = 0 → Q (-1000000001) mNow) ∧ (¬ (r_1 = 0) → wp_X7_in p2 0 99 (fun (r_3 : Int32) => ((¬ r_3 = 0 → ((¬ (mNow 1) = 24 → wp_X7_comes p1 p2 0 mNow (fun (r_6 : Int32) (w_7 : Nat → Int32) => Q r_6 w_7)) ∧ ((mNow 1) = 24 → Q (-1000000003) mNow))) ∧ (r_3 = 0 → Q (-1000000001) mNow))))))
set_option maxHeartbeats 4000000 in
set_option maxRecDepth 100000 in
theorem c_X7_place (l : Launch) (E : gE) (mo mn mi ma ml mt mb mr mp mk mq mc mw mz ms mf mu mv mx mh mA mB mC mM mT : Nat) (sz : Nat) (mHI : Int32) (mFC : Int32) (mLC : Int32) (mCg : Int32) (mTp : Int32) (mNx : Int32) (mFr : Int32) (mTk : Int32) (mVa : Int32) (mEn : Int32) (mKe : Int32) (mCs : Int32) (mAt : Int32) (mHd : Int32) (mWg : Int32) (mNow : Nat → Int32) (mImg : Nat → Int32) (mAsd : Nat → Int32) (mLea : Nat → Int32) (mLat : Nat → Int32) (mBst : Nat → Int32) (mRsk : Nat → Int32) (mTap : Nat → Int32) (mKys : Nat → Int32) (mKat : Nat → Int32) (mCod : Nat → Int32) (mWts : Nat → Int32) (mTes : Nat → Int32) (mStk : Nat → Int32) (mFct : Nat → Int32) (mSor : Nat → Int32) (mSiz : Nat → Int32) (mCel : Nat → Int32) (mHol : Nat → Int32) (mHoA : Nat → Int32) (mHoB : Nat → Int32) (mHoC : Nat → Int32) (mMov : Nat → Int32) (mTel : Nat → Int32) (p1 p2 : Int32)  (Q : Int32 → (Nat → Int32) → Prop) (h : wp_X7_place p1 p2 mNow Q) : Met l yX7_place wsX7_place ({ frames := 1, cells := 0, slots := 0, locals := 24 } : Room) (va_Pc [.ref mo, .int p1, .int p2] (rc_B E (rw_24 E mo mn mi ma ml mt mb mr mp mk mq mc mw mz ms mf mu mv mx mh mA mB mC mM mT mHI mFC mLC mCg mTp mNx mFr mTk mVa mEn mKe mCs mAt mHd mWg mNow mImg mAsd mLea mLat mBst mRsk mTap mKys mKat mCod mWts mTes mStk mFct mSor mSiz mCel mHol mHoA mHoB mHoC mMov mTel) sz)) (va_Qi (S := (Nat → Int32)) (fun (r : Int32) (u : (Nat → Int32)) => Q r u) (fun u t => rc_C E (va_A (rw_24 E mo mn mi ma ml mt mb mr mp mk mq mc mw mz ms mf mu mv mx mh mA mB mC mM mT mHI mFC mLC mCg mTp mNx mFr mTk mVa mEn mKe mCs mAt mHd mWg mNow mImg mAsd mLea mLat mBst mRsk mTap mKys mKat mCod mWts mTes mStk mFct mSor mSiz mCel mHol mHoA mHoB mHoC mMov mTel) sz) (rw_24 E mo mn mi ma ml mt mb mr mp mk mq mc mw mz ms mf mu mv mx mh mA mB mC mM mT mHI mFC mLC mCg mTp mNx mFr mTk mVa mEn mKe mCs mAt mHd mWg u mImg mAsd mLea mLat mBst mRsk mTap mKys mKat mCod mWts mTes mStk mFct mSor mSiz mCel mHol mHoA mHoB mHoC mMov mTel) t) (va_A (rw_24 E mo mn mi ma ml mt mb mr mp mk mq mc mw mz ms mf mu mv mx mh mA mB mC mM mT mHI mFC mLC mCg mTp mNx mFr mTk mVa mEn mKe mCs mAt mHd mWg mNow mImg mAsd mLea mLat mBst mRsk mTap mKys mKat mCod mWts mTes mStk mFct mSor mSiz mCel mHol mHoA mHoB mHoC mMov mTel) sz)) 0 0 (va_A (rw_24 E mo mn mi ma ml mt mb mr mp mk mq mc mw mz ms mf mu mv mx mh mA mB mC mM mT mHI mFC mLC mCg mTp mNx mFr mTk mVa mEn mKe mCs mAt mHd mWg mNow mImg mAsd mLea mLat mBst mRsk mTap mKys mKat mCod mWts mTes mStk mFct mSor mSiz mCel mHol mHoA mHoB mHoC mMov mTel) sz) := by
  refine rc_enterI (cc := cX7_place) (maxL := 3) (by decide) rfl (Nat.le_of_ble_eq_true rfl) ?_
  intro p e s m args below meth c QQ A hx hb hml hown hts hmn hE hP hD hA hret ls hl
  have hown : s.vm.findClass RX7 = some m.cls := hown
  have hK := hE.1
  have hS : va_S A s.heap s.heap [] := va_S.rf
  have hl : lv_has ls 3 [(0, .ref mo), (1, .int p1), (2, .int p2)] := hl
  have n_X7 : ∀ w ∈ wsX70, w ∈ wsX7_place := fun _ h => List.mem_cons_of_mem _ (List.mem_append_right _ h)
  have k_89 := hts (.constant RX7 89 (-1000000001)) (List.mem_of_getElem? (i := 1) rfl)
  have k_9 := hts (.fieldLink RX7 9 "RidgeClapsModel" "now" "[I") (List.mem_of_getElem? (i := 2) rfl)
  have k_90 := hts (.constant RX7 90 (-1000000003)) (List.mem_of_getElem? (i := 3) rfl)
  unfold wp_X7_place at h
  obtain ⟨H, hH⟩ : ∃ H, H = s.heap := ⟨_, rfl⟩
  obtain ⟨locs, hlocs⟩ : ∃ locs : List Loc, locs = [] := ⟨_, rfl⟩
  have hP : va_P E.1 vwCl (rw_24 E mo mn mi ma ml mt mb mr mp mk mq mc mw mz ms mf mu mv mx mh mA mB mC mM mT mHI mFC mLC mCg mTp mNx mFr mTk mVa mEn mKe mCs mAt mHd mWg mNow mImg mAsd mLea mLat mBst mRsk mTap mKys mKat mCod mWts mTes mStk mFct mSor mSiz mCel mHol mHoA mHoB mHoC mMov mTel) H := by rw [hH]; exact hP
  have hS : va_S A s.heap H locs := by rw [hH, hlocs]; exact hS
  suffices hgo : W p l e ({ frames := 1, cells := 0, slots := 0, locals := 24 } : Room) s m args below meth c H locs 0 0 QQ (F0 m 0 ls []) from by rw [hH, hlocs] at hgo; exact hgo
  refine lv_iload_n hx hb dX7_place_0 rfl (lv_at hl 1 rfl) ?_
  refine lv_iconst (v := 0) hx hb dX7_place_1 (by decide) ?_
  refine lv_iconst (v := 5) hx hb dX7_place_2 (by decide) ?_
  have hPc := hP.sub (ws' := []) [] rfl
  have hDc := hD.sub (ws' := []) [] (by decide) rfl
  have hFc := va_free (wc := []) hD hS hA [] rfl
  refine va_calli (va_runS (As := [.int p1, .int 0, .int 5]) (rest := []) ⟨hx, hb, hml, hown, hts⟩ (c_X7_in l E H.size p1 0 5 _ h) (va_cwS 3 hts gX7_place_X7_in rfl rfl rfl (by decide +kernel) ⟨Nat.le_of_ble_eq_true rfl, Nat.le_of_ble_eq_true rfl⟩) ⟨fun a U g mk q => ⟨q.1, q.2.blind⟩, fun U hU hW => ⟨rfl, by rw [hU], by rw [hU]; exact hPc, hE.call hS hFc hW hU, hDc.weaken (fun _ _ _ _ => trivial)⟩⟩ rfl rfl hl.1 rfl (lv_room (Nat.le_of_ble_eq_true rfl)) dX7_place_3 ⟨Nat.zero_le _, Nat.zero_le _⟩) hS (fun q _ h => hFc q h) hFc (fun r_1 u t H1 locs ht hvm h hB hz1 hk1 hS => ?_)
  obtain ⟨hP1, hD1⟩ := hB
  rw [ht] at hP1
  obtain ⟨hP, hD⟩ := rc_foc hP hD [] [none, none, none, none, none, none, none, none, none, none, none, none, none, none, none, none, none, none, none, none, none, none, none, none, none] (by decide) rfl hk1 hP1 rfl
  generalize H1 = H at hP hS ⊢
  have hP : va_P E.1 vwCl (rw_24 E mo mn mi ma ml mt mb mr mp mk mq mc mw mz ms mf mu mv mx mh mA mB mC mM mT mHI mFC mLC mCg mTp mNx mFr mTk mVa mEn mKe mCs mAt mHd mWg mNow mImg mAsd mLea mLat mBst mRsk mTap mKys mKat mCod mWts mTes mStk mFct mSor mSiz mCel mHol mHoA mHoB mHoC mMov mTel) H := hP
  have hD : va_D A (rw_24 E mo mn mi ma ml mt mb mr mp mk mq mc mw mz ms mf mu mv mx mh mA mB mC mM mT mHI mFC mLC mCg mTp mNx mFr mTk mVa mEn mKe mCs mAt mHd mWg mNow mImg mAsd mLea mLat mBst mRsk mTap mKys mKat mCod mWts mTes mStk mFct mSor mSiz mCel mHol mHoA mHoB mHoC mMov mTel) := hD
  refine lv_if_eq (tgt := 19) hx hb dX7_place_6 (by decide) (fun c_2 => ?_) (fun c_2 => ?_)
  · have h := h.1 c_2
    refine lv_ldc hx hb hown k_89 dX7_place_19 ?_
    exact hret _ _ _ _ (-1000000001) (mNow) rfl h hP hD hS dX7_place_21
  · have h := h.2 c_2
    refine lv_iload_n hx hb dX7_place_9 rfl (lv_at hl 2 rfl) ?_
    refine lv_iconst (v := 0) hx hb dX7_place_10 (by decide) ?_
    refine lv_bipush (v := 99) hx hb dX7_place_11 (by decide) ?_
    have hPc := hP.sub (ws' := []) [] rfl
    have hDc := hD.sub (ws' := []) [] (by decide) rfl
    have hFc := va_free (wc := []) hD hS hA [] rfl
    refine va_calli (va_runS (As := [.int p2, .int 0, .int 99]) (rest := []) ⟨hx, hb, hml, hown, hts⟩ (c_X7_in l E H.size p2 0 99 _ h) (va_cwS 3 hts gX7_place_X7_in rfl rfl rfl (by decide +kernel) ⟨Nat.le_of_ble_eq_true rfl, Nat.le_of_ble_eq_true rfl⟩) ⟨fun a U g mk q => ⟨q.1, q.2.blind⟩, fun U hU hW => ⟨rfl, by rw [hU], by rw [hU]; exact hPc, hE.call hS hFc hW hU, hDc.weaken (fun _ _ _ _ => trivial)⟩⟩ rfl rfl hl.1 rfl (lv_room (Nat.le_of_ble_eq_true rfl)) dX7_place_13 ⟨Nat.zero_le _, Nat.zero_le _⟩) hS (fun q _ h => hFc q h) hFc (fun r_3 u t H1 locs ht hvm h hB hz1 hk1 hS => ?_)
    obtain ⟨hP1, hD1⟩ := hB
    rw [ht] at hP1
    obtain ⟨hP, hD⟩ := rc_foc hP hD [] [none, none, none, none, none, none, none, none, none, none, none, none, none, none, none, none, none, none, none, none, none, none, none, none, none] (by decide) rfl hk1 hP1 rfl
    generalize H1 = H at hP hS ⊢
    have hP : va_P E.1 vwCl (rw_24 E mo mn mi ma ml mt mb mr mp mk mq mc mw mz ms mf mu mv mx mh mA mB mC mM mT mHI mFC mLC mCg mTp mNx mFr mTk mVa mEn mKe mCs mAt mHd mWg mNow mImg mAsd mLea mLat mBst mRsk mTap mKys mKat mCod mWts mTes mStk mFct mSor mSiz mCel mHol mHoA mHoB mHoC mMov mTel) H := hP
    have hD : va_D A (rw_24 E mo mn mi ma ml mt mb mr mp mk mq mc mw mz ms mf mu mv mx mh mA mB mC mM mT mHI mFC mLC mCg mTp mNx mFr mTk mVa mEn mKe mCs mAt mHd mWg mNow mImg mAsd mLea mLat mBst mRsk mTap mKys mKat mCod mWts mTes mStk mFct mSor mSiz mCel mHol mHoA mHoB mHoC mMov mTel) := hD
    refine lv_if_ne (tgt := 22) hx hb dX7_place_16 (by decide) (fun c_4 => ?_) (fun c_4 => ?_)
    · have h := h.1 c_4
      refine lv_aload_n hx hb dX7_place_22 rfl (lv_at hl 0 rfl) ?_
      refine va_get (D := E.1) (ci := 7) (v := .ref mn) (C := RX7) (T := TX7) (N := 39) hx hb hts n_X7 hown hK hP 0 rfl rfl 0 (by decide) k_9 (fun _ h9 => h9) rfl dX7_place_23 ?_
      refine lv_iconst (v := 1) hx hb dX7_place_26 (by decide) ?_
      refine rc_iald hx hb hK hP 1 0 rfl rfl 1 (by decide) (by unfold vp_in; decide) dX7_place_27 ?_
      refine lv_bipush (v := 24) hx hb dX7_place_28 (by decide) ?_
      refine lv_icmp_ne (tgt := 38) hx hb dX7_place_30 (by decide) (fun c_5 => ?_) (fun c_5 => ?_)
      · have h := h.1 c_5
        refine lv_aload_n hx hb dX7_place_38 rfl (lv_at hl 0 rfl) ?_
        refine lv_iload_n hx hb dX7_place_39 rfl (lv_at hl 1 rfl) ?_
        refine lv_iload_n hx hb dX7_place_40 rfl (lv_at hl 2 rfl) ?_
        refine lv_iconst (v := 0) hx hb dX7_place_41 (by decide) ?_
        have hPc := hP
        have hDc := hD
        have hFc := rc_freeI hD hS hA
        refine va_calli (va_runV (As := [.int p1, .int p2, .int 0]) (rest := []) ⟨hx, hb, hml, hown, hts⟩ (c_X7_comes l E mo mn mi ma ml mt mb mr mp mk mq mc mw mz ms mf mu mv mx mh mA mB mC mM mT H.size mHI mFC mLC mCg mTp mNx mFr mTk mVa mEn mKe mCs mAt mHd mWg mNow mImg mAsd mLea mLat mBst mRsk mTap mKys mKat mCod mWts mTes mStk mFct mSor mSiz mCel mHol mHoA mHoB mHoC mMov mTel p1 p2 0 _ h) (cwV 3 hts gX7_place_X7_comes rfl rfl rfl (by decide +kernel) ⟨Nat.le_of_ble_eq_true rfl, Nat.le_of_ble_eq_true rfl⟩) ⟨fun a U g mk q => ⟨q.1, q.2.blind⟩, va_recv hK hPc (ci := 7) (q0 := 0) rfl rfl, fun U hU hW => ⟨rfl, by rw [hU], by rw [hU]; exact hPc, hE.call hS hFc hW hU, hDc.weaken (fun _ _ _ _ => trivial)⟩⟩ rfl rfl hl.1 rfl (lv_room (Nat.le_of_ble_eq_true rfl)) dX7_place_42 ⟨Nat.zero_le _, Nat.zero_le _⟩) hS (fun q _ h => hFc q h) hFc (fun r_6 u t H1 locs ht hvm h hB hz1 hk1 hS => ?_)
        obtain ⟨w_7, rfl⟩ : ∃ z, z = u := ⟨_, rfl⟩
        obtain ⟨hP1, hD1⟩ := hB
        rw [ht] at hP1
        have hP := hP1
        have hD := hD1.weaken (fun _ _ _ h => hFc _ h)
        generalize H1 = H at hP hS ⊢
        have hP : va_P E.1 vwCl (rw_24 E mo mn mi ma ml mt mb mr mp mk mq mc mw mz ms mf mu mv mx mh mA mB mC mM mT mHI mFC mLC mCg mTp mNx mFr mTk mVa mEn mKe mCs mAt mHd mWg w_7 mImg mAsd mLea mLat mBst mRsk mTap mKys mKat mCod mWts mTes mStk mFct mSor mSiz mCel mHol mHoA mHoB mHoC mMov mTel) H := hP
        have hD : va_D A (rw_24 E mo mn mi ma ml mt mb mr mp mk mq mc mw mz ms mf mu mv mx mh mA mB mC mM mT mHI mFC mLC mCg mTp mNx mFr mTk mVa mEn mKe mCs mAt mHd mWg w_7 mImg mAsd mLea mLat mBst mRsk mTap mKys mKat mCod mWts mTes mStk mFct mSor mSiz mCel mHol mHoA mHoB mHoC mMov mTel) := hD
        exact hret _ _ _ _ r_6 (w_7) rfl h hP hD hS dX7_place_45
      · have h := h.2 c_5
        refine lv_ldc hx hb hown k_90 dX7_place_33 ?_
        refine lv_goto (tgt := 45) hx hb dX7_place_35 (by decide) ?_
        exact hret _ _ _ _ (-1000000003) (mNow) rfl h hP hD hS dX7_place_45
    · have h := h.2 c_4
      refine lv_ldc hx hb hown k_89 dX7_place_19 ?_
      exact hret _ _ _ _ (-1000000001) (mNow) rfl h hP hD hS dX7_place_21
