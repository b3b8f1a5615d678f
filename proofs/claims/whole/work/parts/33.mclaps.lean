def jp_X7_findClaps_93  (K12 : Int32 → Int32 → Int32 → Int32 → Prop)  (x2 : Int32) (y0 : Int32) (y1 : Int32) (mFC : Int32) (mLC : Int32) (mCg : Int32) : Prop :=
  ((0 ≤ mFC → K12 (x2 + 1) mFC x2 (y1 + y0)) ∧ (¬ (0 ≤ mFC) → K12 (x2 + 1) x2 x2 (y1 + y0)))
def jp_X7_findClaps_65  (K12 : Int32 → Int32 → Int32 → Int32 → Prop)  (x2 : Int32) (x3 : Int32) (y0 : Int32) (mFC : Int32) (mLC : Int32) (mCg : Int32) : Prop :=
  ((y0 ≤ x3 → ((x3 ≤ y0 → jp_X7_findClaps_93 K12 x2 0 mCg mFC mLC mCg) ∧ (¬ (x3 ≤ y0) → jp_X7_findClaps_93 K12 x2 (-1) mCg mFC mLC mCg))) ∧ (¬ (y0 ≤ x3) → jp_X7_findClaps_93 K12 x2 1 mCg mFC mLC mCg))
def lp_X7_findClaps_12F (p1 : Int32) (mSiz : Nat → Int32) (mCel : Nat → Int32)  (Q : Int32 → Int32 → Int32 → Int32 → Prop) (R : Int32 → Int32 → Int32 → Int32 → Prop) (x2 : Int32) (mFC : Int32) (mLC : Int32) (mCg : Int32) : Prop :=
  (vp_in p1 4 ∧ (((mSiz p1.toNatClampNeg) ≤ x2 → ((mFC < 0 → Q 0 mFC mLC mCg) ∧ (¬ (mFC < 0) → Q 1 mFC mLC mCg))) ∧ (¬ ((mSiz p1.toNatClampNeg) ≤ x2) → (vp_in ((24 * p1) + x2) 96 ∧ (((mCel (((24 * p1) + x2).toNatClampNeg)) = (-1000000005) → R (x2 + 1) mFC mLC mCg) ∧ (¬ ((mCel (((24 * p1) + x2).toNatClampNeg)) = (-1000000005)) → ((0 ≤ mFC → (vp_in ((24 * p1) + mLC) 96 ∧ jp_X7_findClaps_65 R x2 (mCel (((24 * p1) + x2).toNatClampNeg)) (mCel (((24 * p1) + mLC).toNatClampNeg)) mFC mLC mCg)) ∧ (¬ (0 ≤ mFC) → jp_X7_findClaps_65 R x2 (mCel (((24 * p1) + x2).toNatClampNeg)) (mCel (((24 * p1) + x2).toNatClampNeg)) mFC mLC mCg))))))))
def lp_X7_findClaps_12 (p1 : Int32) (mSiz : Nat → Int32) (mCel : Nat → Int32)  (Q : Int32 → Int32 → Int32 → Int32 → Prop) (n : Nat) : Int32 → Int32 → Int32 → Int32 → Prop :=
  Nat.rec (motive := fun _ => Int32 → Int32 → Int32 → Int32 → Prop) (fun _ _ _ _ => False) (fun _ r => lp_X7_findClaps_12F p1 mSiz mCel Q r) n
def wp_X7_findClaps (p1 : Int32) (mLC : Int32) (mSiz : Nat → Int32) (mCel : Nat → Int32) (Q : Int32 → Int32 → Int32 → Int32 → Prop) : Prop :=
  (∃ n : Nat, lp_X7_findClaps_12 p1 mSiz mCel Q n 0 (-1) mLC 0)
set_option maxHeartbeats 4000000 in
set_option maxRecDepth 100000 in
theorem c_X7_findClaps (l : Launch) (E : gE) (mo mn mi ma ml mt mb mr mp mk mq mc mw mz ms mf mu mv mx mh mA mB mC mM mT : Nat) (sz : Nat) (mHI : Int32) (mFC : Int32) (mLC : Int32) (mCg : Int32) (mTp : Int32) (mNx : Int32) (mFr : Int32) (mTk : Int32) (mVa : Int32) (mEn : Int32) (mKe : Int32) (mCs : Int32) (mAt : Int32) (mHd : Int32) (mWg : Int32) (mNow : Nat → Int32) (mImg : Nat → Int32) (mAsd : Nat → Int32) (mLea : Nat → Int32) (mLat : Nat → Int32) (mBst : Nat → Int32) (mRsk : Nat → Int32) (mTap : Nat → Int32) (mKys : Nat → Int32) (mKat : Nat → Int32) (mCod : Nat → Int32) (mWts : Nat → Int32) (mTes : Nat → Int32) (mStk : Nat → Int32) (mFct : Nat → Int32) (mSor : Nat → Int32) (mSiz : Nat → Int32) (mCel : Nat → Int32) (mHol : Nat → Int32) (mHoA : Nat → Int32) (mHoB : Nat → Int32) (mHoC : Nat → Int32) (mMov : Nat → Int32) (mTel : Nat → Int32) (p1 : Int32)  (Q : Int32 → Int32 → Int32 → Int32 → Prop) (h : wp_X7_findClaps p1 mLC mSiz mCel Q) : Met l yX7_findClaps wsX7_findClaps ({ frames := 0, cells := 0, slots := 0, locals := 0 } : Room) (va_Pc [.ref mo, .int p1] (rc_B E (rw_24 E mo mn mi ma ml mt mb mr mp mk mq mc mw mz ms mf mu mv mx mh mA mB mC mM mT mHI mFC mLC mCg mTp mNx mFr mTk mVa mEn mKe mCs mAt mHd mWg mNow mImg mAsd mLea mLat mBst mRsk mTap mKys mKat mCod mWts mTes mStk mFct mSor mSiz mCel mHol mHoA mHoB mHoC mMov mTel) sz)) (va_Qi (S := Int32 × Int32 × Int32) (fun (r : Int32) (u : Int32 × Int32 × Int32) => Q r u.1 u.2.1 u.2.2) (fun u t => rc_C E (va_A (rw_24 E mo mn mi ma ml mt mb mr mp mk mq mc mw mz ms mf mu mv mx mh mA mB mC mM mT mHI mFC mLC mCg mTp mNx mFr mTk mVa mEn mKe mCs mAt mHd mWg mNow mImg mAsd mLea mLat mBst mRsk mTap mKys mKat mCod mWts mTes mStk mFct mSor mSiz mCel mHol mHoA mHoB mHoC mMov mTel) sz) (rw_24 E mo mn mi ma ml mt mb mr mp mk mq mc mw mz ms mf mu mv mx mh mA mB mC mM mT mHI u.1 u.2.1 u.2.2 mTp mNx mFr mTk mVa mEn mKe mCs mAt mHd mWg mNow mImg mAsd mLea mLat mBst mRsk mTap mKys mKat mCod mWts mTes mStk mFct mSor mSiz mCel mHol mHoA mHoB mHoC mMov mTel) t) (va_A (rw_24 E mo mn mi ma ml mt mb mr mp mk mq mc mw mz ms mf mu mv mx mh mA mB mC mM mT mHI mFC mLC mCg mTp mNx mFr mTk mVa mEn mKe mCs mAt mHd mWg mNow mImg mAsd mLea mLat mBst mRsk mTap mKys mKat mCod mWts mTes mStk mFct mSor mSiz mCel mHol mHoA mHoB mHoC mMov mTel) sz)) 0 0 (va_A (rw_24 E mo mn mi ma ml mt mb mr mp mk mq mc mw mz ms mf mu mv mx mh mA mB mC mM mT mHI mFC mLC mCg mTp mNx mFr mTk mVa mEn mKe mCs mAt mHd mWg mNow mImg mAsd mLea mLat mBst mRsk mTap mKys mKat mCod mWts mTes mStk mFct mSor mSiz mCel mHol mHoA mHoB mHoC mMov mTel) sz) := by
  refine rc_enterI (cc := cX7_findClaps) (maxL := 5) (by decide) rfl (Nat.le_of_ble_eq_true rfl) ?_
  intro p e s m args below meth c QQ A hx hb hml hown hts hmn hE hP hD hA hret ls hl
  have hown : s.vm.findClass RX7 = some m.cls := hown
  have hK := hE.1
  have hS : va_S A s.heap s.heap [] := va_S.rf
  have hl : lv_has ls 5 [(0, .ref mo), (1, .int p1)] := hl
  have n_X7 : ∀ w ∈ wsX70, w ∈ wsX7_findClaps := fun _ h => List.mem_cons_of_mem _ (List.mem_append_right _ h)
  have k_165 := hts (.fieldLink RX7 165 "RidgeClapsModel" "coming" "I") (List.mem_of_getElem? (i := 2) rfl)
  have k_161 := hts (.fieldLink RX7 161 "RidgeClapsModel" "firstClap" "I") (List.mem_of_getElem? (i := 1) rfl)
  have k_168 := hts (.fieldLink RX7 168 "RidgeClapsModel" "lastClap" "I") (List.mem_of_getElem? (i := 6) rfl)
  have k_60 := hts (.fieldLink RX7 60 "RidgeClapsModel" "sizes" "[I") (List.mem_of_getElem? (i := 3) rfl)
  have k_63 := hts (.fieldLink RX7 63 "RidgeClapsModel" "cells" "[I") (List.mem_of_getElem? (i := 4) rfl)
  have k_84 := hts (.constant RX7 84 (-1000000005)) (List.mem_of_getElem? (i := 5) rfl)
  have J93 : ∀ (K12 : Int32 → Int32 → Int32 → Int32 → Prop), (∀ (x2 : Int32) (mFC : Int32) (mLC : Int32) (mCg : Int32), K12 x2 mFC mLC mCg → ∀ (H : Heap) (locs : List Loc), va_P E.1 vwCl (rw_24 E mo mn mi ma ml mt mb mr mp mk mq mc mw mz ms mf mu mv mx mh mA mB mC mM mT mHI mFC mLC mCg mTp mNx mFr mTk mVa mEn mKe mCs mAt mHd mWg mNow mImg mAsd mLea mLat mBst mRsk mTap mKys mKat mCod mWts mTes mStk mFct mSor mSiz mCel mHol mHoA mHoB mHoC mMov mTel) H → va_D A (rw_24 E mo mn mi ma ml mt mb mr mp mk mq mc mw mz ms mf mu mv mx mh mA mB mC mM mT mHI mFC mLC mCg mTp mNx mFr mTk mVa mEn mKe mCs mAt mHd mWg mNow mImg mAsd mLea mLat mBst mRsk mTap mKys mKat mCod mWts mTes mStk mFct mSor mSiz mCel mHol mHoA mHoB mHoC mMov mTel) → va_S A s.heap H locs → ∀ ls : Array Slot, lv_has ls 5 [(0, .ref mo), (1, .int p1), (2, .int x2)] → W p l e ({ frames := 0, cells := 0, slots := 0, locals := 0 } : Room) s m args below meth c H locs 0 0 QQ (F0 m 12 ls [])) → ∀ (x2 : Int32) (y0 : Int32) (y1 : Int32) (mFC : Int32) (mLC : Int32) (mCg : Int32), jp_X7_findClaps_93 K12 x2 y0 y1 mFC mLC mCg → ∀ (H : Heap) (locs : List Loc), va_P E.1 vwCl (rw_24 E mo mn mi ma ml mt mb mr mp mk mq mc mw mz ms mf mu mv mx mh mA mB mC mM mT mHI mFC mLC mCg mTp mNx mFr mTk mVa mEn mKe mCs mAt mHd mWg mNow mImg mAsd mLea mLat mBst mRsk mTap mKys mKat mCod mWts mTes mStk mFct mSor mSiz mCel mHol mHoA mHoB mHoC mMov mTel) H → va_D A (rw_24 E mo mn mi ma ml mt mb mr mp mk mq mc mw mz ms mf mu mv mx mh mA mB mC mM mT mHI mFC mLC mCg mTp mNx mFr mTk mVa mEn mKe mCs mAt mHd mWg mNow mImg mAsd mLea mLat mBst mRsk mTap mKys mKat mCod mWts mTes mStk mFct mSor mSiz mCel mHol mHoA mHoB mHoC mMov mTel) → va_S A s.heap H locs → ∀ ls : Array Slot, lv_has ls 5 [(0, .ref mo), (1, .int p1), (2, .int x2)] → W p l e ({ frames := 0, cells := 0, slots := 0, locals := 0 } : Room) s m args below meth c H locs 0 0 QQ (F0 m 93 ls [.int y0, .int y1, .ref mo]) := by
    intro K12 hK12
    intro x2 y0 y1 mFC mLC mCg h H locs hP hD hS ls hl
    unfold jp_X7_findClaps_93 at h
    refine lv_iadd hx hb dX7_findClaps_93 ?_
    refine va_put (D := E.1) (ci := 7) (v := .int (y1 + y0)) (ty := .int) (C := RX7) (T := TX7) (N := 39) hx hb hts n_X7 tyX7 tyX7_ok nmX7 hown hK hP hD hS 0 rfl rfl 10 (by decide) k_165 (fun _ h9 => h9) rfl (by decide +kernel) rfl rfl (Nat.le_of_ble_eq_true rfl) dX7_findClaps_94 (fun H locs hP hD hS => ?_)
    have hP : va_P E.1 vwCl (rw_24 E mo mn mi ma ml mt mb mr mp mk mq mc mw mz ms mf mu mv mx mh mA mB mC mM mT mHI mFC mLC (y1 + y0) mTp mNx mFr mTk mVa mEn mKe mCs mAt mHd mWg mNow mImg mAsd mLea mLat mBst mRsk mTap mKys mKat mCod mWts mTes mStk mFct mSor mSiz mCel mHol mHoA mHoB mHoC mMov mTel) H := hP
    have hD : va_D A (rw_24 E mo mn mi ma ml mt mb mr mp mk mq mc mw mz ms mf mu mv mx mh mA mB mC mM mT mHI mFC mLC (y1 + y0) mTp mNx mFr mTk mVa mEn mKe mCs mAt mHd mWg mNow mImg mAsd mLea mLat mBst mRsk mTap mKys mKat mCod mWts mTes mStk mFct mSor mSiz mCel mHol mHoA mHoB mHoC mMov mTel) := hD
    refine lv_aload_n hx hb dX7_findClaps_97 rfl (lv_at hl 0 rfl) ?_
    refine lv_aload_n hx hb dX7_findClaps_98 rfl (lv_at hl 0 rfl) ?_
    refine va_get (D := E.1) (ci := 7) (v := .int mFC) (C := RX7) (T := TX7) (N := 39) hx hb hts n_X7 hown hK hP 0 rfl rfl 8 (by decide) k_161 (fun _ h9 => h9) rfl dX7_findClaps_99 ?_
    refine lv_if_ge (tgt := 109) hx hb dX7_findClaps_102 (by decide) (fun c_1 => ?_) (fun c_1 => ?_)
    · have h := h.1 c_1
      refine lv_aload_n hx hb dX7_findClaps_109 rfl (lv_at hl 0 rfl) ?_
      refine va_get (D := E.1) (ci := 7) (v := .int mFC) (C := RX7) (T := TX7) (N := 39) hx hb hts n_X7 hown hK hP 0 rfl rfl 8 (by decide) k_161 (fun _ h9 => h9) rfl dX7_findClaps_110 ?_
      refine va_put (D := E.1) (ci := 7) (v := .int mFC) (ty := .int) (C := RX7) (T := TX7) (N := 39) hx hb hts n_X7 tyX7 tyX7_ok nmX7 hown hK hP hD hS 0 rfl rfl 8 (by decide) k_161 (fun _ h9 => h9) rfl (by decide +kernel) rfl rfl (Nat.le_of_ble_eq_true rfl) dX7_findClaps_113 (fun H locs hP hD hS => ?_)
      have hP : va_P E.1 vwCl (rw_24 E mo mn mi ma ml mt mb mr mp mk mq mc mw mz ms mf mu mv mx mh mA mB mC mM mT mHI mFC mLC (y1 + y0) mTp mNx mFr mTk mVa mEn mKe mCs mAt mHd mWg mNow mImg mAsd mLea mLat mBst mRsk mTap mKys mKat mCod mWts mTes mStk mFct mSor mSiz mCel mHol mHoA mHoB mHoC mMov mTel) H := hP
      have hD : va_D A (rw_24 E mo mn mi ma ml mt mb mr mp mk mq mc mw mz ms mf mu mv mx mh mA mB mC mM mT mHI mFC mLC (y1 + y0) mTp mNx mFr mTk mVa mEn mKe mCs mAt mHd mWg mNow mImg mAsd mLea mLat mBst mRsk mTap mKys mKat mCod mWts mTes mStk mFct mSor mSiz mCel mHol mHoA mHoB mHoC mMov mTel) := hD
      refine lv_aload_n hx hb dX7_findClaps_116 rfl (lv_at hl 0 rfl) ?_
      refine lv_iload_n hx hb dX7_findClaps_117 rfl (lv_at hl 2 rfl) ?_
      refine va_put (D := E.1) (ci := 7) (v := .int x2) (ty := .int) (C := RX7) (T := TX7) (N := 39) hx hb hts n_X7 tyX7 tyX7_ok nmX7 hown hK hP hD hS 0 rfl rfl 9 (by decide) k_168 (fun _ h9 => h9) rfl (by decide +kernel) rfl rfl (Nat.le_of_ble_eq_true rfl) dX7_findClaps_118 (fun H locs hP hD hS => ?_)
      have hP : va_P E.1 vwCl (rw_24 E mo mn mi ma ml mt mb mr mp mk mq mc mw mz ms mf mu mv mx mh mA mB mC mM mT mHI mFC x2 (y1 + y0) mTp mNx mFr mTk mVa mEn mKe mCs mAt mHd mWg mNow mImg mAsd mLea mLat mBst mRsk mTap mKys mKat mCod mWts mTes mStk mFct mSor mSiz mCel mHol mHoA mHoB mHoC mMov mTel) H := hP
      have hD : va_D A (rw_24 E mo mn mi ma ml mt mb mr mp mk mq mc mw mz ms mf mu mv mx mh mA mB mC mM mT mHI mFC x2 (y1 + y0) mTp mNx mFr mTk mVa mEn mKe mCs mAt mHd mWg mNow mImg mAsd mLea mLat mBst mRsk mTap mKys mKat mCod mWts mTes mStk mFct mSor mSiz mCel mHol mHoA mHoB mHoC mMov mTel) := hD
      refine lv_iinc (v := x2 + 1) (lv' := [(2, .int (x2 + 1)), (0, .ref mo), (1, .int p1)]) hx hb dX7_findClaps_121 hl (k := 2) rfl (by rfl) (by decide) rfl (fun ls hl => ?_)
      refine lv_goto (tgt := 12) hx hb dX7_findClaps_124 (by decide) ?_
      exact hK12 (x2 + 1) mFC x2 (y1 + y0) h _ _ hP hD hS ls (lv_sub hl [1, 2, 0] rfl)
    · have h := h.2 c_1
      refine lv_iload_n hx hb dX7_findClaps_105 rfl (lv_at hl 2 rfl) ?_
      refine lv_goto (tgt := 113) hx hb dX7_findClaps_106 (by decide) ?_
      refine va_put (D := E.1) (ci := 7) (v := .int x2) (ty := .int) (C := RX7) (T := TX7) (N := 39) hx hb hts n_X7 tyX7 tyX7_ok nmX7 hown hK hP hD hS 0 rfl rfl 8 (by decide) k_161 (fun _ h9 => h9) rfl (by decide +kernel) rfl rfl (Nat.le_of_ble_eq_true rfl) dX7_findClaps_113 (fun H locs hP hD hS => ?_)
      have hP : va_P E.1 vwCl (rw_24 E mo mn mi ma ml mt mb mr mp mk mq mc mw mz ms mf mu mv mx mh mA mB mC mM mT mHI x2 mLC (y1 + y0) mTp mNx mFr mTk mVa mEn mKe mCs mAt mHd mWg mNow mImg mAsd mLea mLat mBst mRsk mTap mKys mKat mCod mWts mTes mStk mFct mSor mSiz mCel mHol mHoA mHoB mHoC mMov mTel) H := hP
      have hD : va_D A (rw_24 E mo mn mi ma ml mt mb mr mp mk mq mc mw mz ms mf mu mv mx mh mA mB mC mM mT mHI x2 mLC (y1 + y0) mTp mNx mFr mTk mVa mEn mKe mCs mAt mHd mWg mNow mImg mAsd mLea mLat mBst mRsk mTap mKys mKat mCod mWts mTes mStk mFct mSor mSiz mCel mHol mHoA mHoB mHoC mMov mTel) := hD
      refine lv_aload_n hx hb dX7_findClaps_116 rfl (lv_at hl 0 rfl) ?_
      refine lv_iload_n hx hb dX7_findClaps_117 rfl (lv_at hl 2 rfl) ?_
      refine va_put (D := E.1) (ci := 7) (v := .int x2) (ty := .int) (C := RX7) (T := TX7) (N := 39) hx hb hts n_X7 tyX7 tyX7_ok nmX7 hown hK hP hD hS 0 rfl rfl 9 (by decide) k_168 (fun _ h9 => h9) rfl (by decide +kernel) rfl rfl (Nat.le_of_ble_eq_true rfl) dX7_findClaps_118 (fun H locs hP hD hS => ?_)
      have hP : va_P E.1 vwCl (rw_24 E mo mn mi ma ml mt mb mr mp mk mq mc mw mz ms mf mu mv mx mh mA mB mC mM mT mHI x2 x2 (y1 + y0) mTp mNx mFr mTk mVa mEn mKe mCs mAt mHd mWg mNow mImg mAsd mLea mLat mBst mRsk mTap mKys mKat mCod mWts mTes mStk mFct mSor mSiz mCel mHol mHoA mHoB mHoC mMov mTel) H := hP
      have hD : va_D A (rw_24 E mo mn mi ma ml mt mb mr mp mk mq mc mw mz ms mf mu mv mx mh mA mB mC mM mT mHI x2 x2 (y1 + y0) mTp mNx mFr mTk mVa mEn mKe mCs mAt mHd mWg mNow mImg mAsd mLea mLat mBst mRsk mTap mKys mKat mCod mWts mTes mStk mFct mSor mSiz mCel mHol mHoA mHoB mHoC mMov mTel) := hD
      refine lv_iinc (v := x2 + 1) (lv' := [(2, .int (x2 + 1)), (0, .ref mo), (1, .int p1)]) hx hb dX7_findClaps_121 hl (k := 2) rfl (by rfl) (by decide) rfl (fun ls hl => ?_)
      refine lv_goto (tgt := 12) hx hb dX7_findClaps_124 (by decide) ?_
      exact hK12 (x2 + 1) x2 x2 (y1 + y0) h _ _ hP hD hS ls (lv_sub hl [1, 2, 0] rfl)
  have J65 : ∀ (K12 : Int32 → Int32 → Int32 → Int32 → Prop), (∀ (x2 : Int32) (mFC : Int32) (mLC : Int32) (mCg : Int32), K12 x2 mFC mLC mCg → ∀ (H : Heap) (locs : List Loc), va_P E.1 vwCl (rw_24 E mo mn mi ma ml mt mb mr mp mk mq mc mw mz ms mf mu mv mx mh mA mB mC mM mT mHI mFC mLC mCg mTp mNx mFr mTk mVa mEn mKe mCs mAt mHd mWg mNow mImg mAsd mLea mLat mBst mRsk mTap mKys mKat mCod mWts mTes mStk mFct mSor mSiz mCel mHol mHoA mHoB mHoC mMov mTel) H → va_D A (rw_24 E mo mn mi ma ml mt mb mr mp mk mq mc mw mz ms mf mu mv mx mh mA mB mC mM mT mHI mFC mLC mCg mTp mNx mFr mTk mVa mEn mKe mCs mAt mHd mWg mNow mImg mAsd mLea mLat mBst mRsk mTap mKys mKat mCod mWts mTes mStk mFct mSor mSiz mCel mHol mHoA mHoB mHoC mMov mTel) → va_S A s.heap H locs → ∀ ls : Array Slot, lv_has ls 5 [(0, .ref mo), (1, .int p1), (2, .int x2)] → W p l e ({ frames := 0, cells := 0, slots := 0, locals := 0 } : Room) s m args below meth c H locs 0 0 QQ (F0 m 12 ls [])) → ∀ (x2 : Int32) (x3 : Int32) (y0 : Int32) (mFC : Int32) (mLC : Int32) (mCg : Int32), jp_X7_findClaps_65 K12 x2 x3 y0 mFC mLC mCg → ∀ (H : Heap) (locs : List Loc), va_P E.1 vwCl (rw_24 E mo mn mi ma ml mt mb mr mp mk mq mc mw mz ms mf mu mv mx mh mA mB mC mM mT mHI mFC mLC mCg mTp mNx mFr mTk mVa mEn mKe mCs mAt mHd mWg mNow mImg mAsd mLea mLat mBst mRsk mTap mKys mKat mCod mWts mTes mStk mFct mSor mSiz mCel mHol mHoA mHoB mHoC mMov mTel) H → va_D A (rw_24 E mo mn mi ma ml mt mb mr mp mk mq mc mw mz ms mf mu mv mx mh mA mB mC mM mT mHI mFC mLC mCg mTp mNx mFr mTk mVa mEn mKe mCs mAt mHd mWg mNow mImg mAsd mLea mLat mBst mRsk mTap mKys mKat mCod mWts mTes mStk mFct mSor mSiz mCel mHol mHoA mHoB mHoC mMov mTel) → va_S A s.heap H locs → ∀ ls : Array Slot, lv_has ls 5 [(0, .ref mo), (1, .int p1), (2, .int x2), (3, .int x3)] → W p l e ({ frames := 0, cells := 0, slots := 0, locals := 0 } : Room) s m args below meth c H locs 0 0 QQ (F0 m 65 ls [.int y0]) := by
    intro K12 hK12
    intro x2 x3 y0 mFC mLC mCg h H locs hP hD hS ls hl
    unfold jp_X7_findClaps_65 at h
    refine lv_istore (lv' := [(4, .int y0), (0, .ref mo), (1, .int p1), (2, .int x2), (3, .int x3)]) hx hb dX7_findClaps_65 hl (by decide) rfl (fun ls hl => ?_)
    refine lv_aload_n hx hb dX7_findClaps_67 rfl (lv_at hl 1 rfl) ?_
    refine lv_dup hx hb dX7_findClaps_68 rfl ?_
    refine va_get (D := E.1) (ci := 7) (v := .int mCg) (C := RX7) (T := TX7) (N := 39) hx hb hts n_X7 hown hK hP 0 rfl rfl 10 (by decide) k_165 (fun _ h9 => h9) rfl dX7_findClaps_69 ?_
    refine lv_iload_n hx hb dX7_findClaps_72 rfl (lv_at hl 4 rfl) ?_
    refine lv_iload hx hb dX7_findClaps_73 (lv_at hl 0 rfl) ?_
    refine lv_icmp_ge (tgt := 82) hx hb dX7_findClaps_75 (by decide) (fun c_2 => ?_) (fun c_2 => ?_)
    · have h := h.1 c_2
      refine lv_iload_n hx hb dX7_findClaps_82 rfl (lv_at hl 4 rfl) ?_
      refine lv_iload hx hb dX7_findClaps_83 (lv_at hl 0 rfl) ?_
      refine lv_icmp_le (tgt := 92) hx hb dX7_findClaps_85 (by decide) (fun c_3 => ?_) (fun c_3 => ?_)
      · have h := h.1 c_3
        refine lv_iconst (v := 0) hx hb dX7_findClaps_92 (by decide) ?_
        exact J93 _ hK12 x2 0 mCg mFC mLC mCg h _ _ hP hD hS ls (lv_sub hl [1, 2, 3] rfl)
      · have h := h.2 c_3
        refine lv_iconst (v := (-1)) hx hb dX7_findClaps_88 (by decide) ?_
        refine lv_goto (tgt := 93) hx hb dX7_findClaps_89 (by decide) ?_
        exact J93 _ hK12 x2 (-1) mCg mFC mLC mCg h _ _ hP hD hS ls (lv_sub hl [1, 2, 3] rfl)
    · have h := h.2 c_2
      refine lv_iconst (v := 1) hx hb dX7_findClaps_78 (by decide) ?_
      refine lv_goto (tgt := 93) hx hb dX7_findClaps_79 (by decide) ?_
      exact J93 _ hK12 x2 1 mCg mFC mLC mCg h _ _ hP hD hS ls (lv_sub hl [1, 2, 3] rfl)
  have J12 : ∀ (n : Nat) (x2 : Int32) (mFC : Int32) (mLC : Int32) (mCg : Int32), lp_X7_findClaps_12 p1 mSiz mCel Q n x2 mFC mLC mCg → ∀ (H : Heap) (locs : List Loc), va_P E.1 vwCl (rw_24 E mo mn mi ma ml mt mb mr mp mk mq mc mw mz ms mf mu mv mx mh mA mB mC mM mT mHI mFC mLC mCg mTp mNx mFr mTk mVa mEn mKe mCs mAt mHd mWg mNow mImg mAsd mLea mLat mBst mRsk mTap mKys mKat mCod mWts mTes mStk mFct mSor mSiz mCel mHol mHoA mHoB mHoC mMov mTel) H → va_D A (rw_24 E mo mn mi ma ml mt mb mr mp mk mq mc mw mz ms mf mu mv mx mh mA mB mC mM mT mHI mFC mLC mCg mTp mNx mFr mTk mVa mEn mKe mCs mAt mHd mWg mNow mImg mAsd mLea mLat mBst mRsk mTap mKys mKat mCod mWts mTes mStk mFct mSor mSiz mCel mHol mHoA mHoB mHoC mMov mTel) → va_S A s.heap H locs → ∀ ls : Array Slot, lv_has ls 5 [(0, .ref mo), (1, .int p1), (2, .int x2)] → W p l e ({ frames := 0, cells := 0, slots := 0, locals := 0 } : Room) s m args below meth c H locs 0 0 QQ (F0 m 12 ls []) := by
    intro n
    induction n with
    | zero =>
      intro x2 mFC mLC mCg h
      exact False.elim h
    | succ n ih =>
      intro x2 mFC mLC mCg h H locs hP hD hS ls hl
      have h : lp_X7_findClaps_12F p1 mSiz mCel Q (lp_X7_findClaps_12 p1 mSiz mCel Q n) x2 mFC mLC mCg := h
      unfold lp_X7_findClaps_12F at h
      refine lv_iload_n hx hb dX7_findClaps_12 rfl (lv_at hl 2 rfl) ?_
      refine lv_aload_n hx hb dX7_findClaps_13 rfl (lv_at hl 0 rfl) ?_
      refine va_get (D := E.1) (ci := 7) (v := .ref mv) (C := RX7) (T := TX7) (N := 39) hx hb hts n_X7 hown hK hP 0 rfl rfl 30 (by decide) k_60 (fun _ h9 => h9) rfl dX7_findClaps_14 ?_
      refine lv_iload_n hx hb dX7_findClaps_17 rfl (lv_at hl 1 rfl) ?_
      obtain ⟨o_4, h⟩ := h
      refine rc_iald hx hb hK hP 17 0 rfl rfl p1.toNatClampNeg rfl o_4 dX7_findClaps_18 ?_
      refine lv_icmp_ge (tgt := 127) hx hb dX7_findClaps_19 (by decide) (fun c_5 => ?_) (fun c_5 => ?_)
      · have h := h.1 c_5
        refine lv_aload_n hx hb dX7_findClaps_127 rfl (lv_at hl 0 rfl) ?_
        refine va_get (D := E.1) (ci := 7) (v := .int mFC) (C := RX7) (T := TX7) (N := 39) hx hb hts n_X7 hown hK hP 0 rfl rfl 8 (by decide) k_161 (fun _ h9 => h9) rfl dX7_findClaps_128 ?_
        refine lv_if_lt (tgt := 138) hx hb dX7_findClaps_131 (by decide) (fun c_6 => ?_) (fun c_6 => ?_)
        · have h := h.1 c_6
          refine lv_iconst (v := 0) hx hb dX7_findClaps_138 (by decide) ?_
          exact hret _ _ _ _ 0 (mFC, mLC, mCg) (by decide) h hP hD hS dX7_findClaps_139
        · have h := h.2 c_6
          refine lv_iconst (v := 1) hx hb dX7_findClaps_134 (by decide) ?_
          refine lv_goto (tgt := 139) hx hb dX7_findClaps_135 (by decide) ?_
          exact hret _ _ _ _ 1 (mFC, mLC, mCg) (by decide) h hP hD hS dX7_findClaps_139
      · have h := h.2 c_5
        refine lv_aload_n hx hb dX7_findClaps_22 rfl (lv_at hl 0 rfl) ?_
        refine va_get (D := E.1) (ci := 7) (v := .ref mx) (C := RX7) (T := TX7) (N := 39) hx hb hts n_X7 hown hK hP 0 rfl rfl 31 (by decide) k_63 (fun _ h9 => h9) rfl dX7_findClaps_23 ?_
        refine lv_bipush (v := 24) hx hb dX7_findClaps_26 (by decide) ?_
        refine lv_iload_n hx hb dX7_findClaps_28 rfl (lv_at hl 1 rfl) ?_
        refine lv_imul hx hb dX7_findClaps_29 ?_
        refine lv_iload_n hx hb dX7_findClaps_30 rfl (lv_at hl 2 rfl) ?_
        refine lv_iadd hx hb dX7_findClaps_31 ?_
        obtain ⟨o_7, h⟩ := h
        refine rc_iald hx hb hK hP 18 0 rfl rfl (((24 * p1) + x2).toNatClampNeg) rfl o_7 dX7_findClaps_32 ?_
        refine lv_istore_n (lv' := [(3, .int (mCel (((24 * p1) + x2).toNatClampNeg))), (0, .ref mo), (1, .int p1), (2, .int x2)]) hx hb dX7_findClaps_33 rfl hl (by decide) rfl (fun ls hl => ?_)
        refine lv_iload_n hx hb dX7_findClaps_34 rfl (lv_at hl 0 rfl) ?_
        refine lv_ldc hx hb hown k_84 dX7_findClaps_35 ?_
        refine lv_icmp_eq (tgt := 121) hx hb dX7_findClaps_37 (by decide) (fun c_8 => ?_) (fun c_8 => ?_)
        · have h := h.1 c_8
          refine lv_iinc (v := x2 + 1) (lv' := [(2, .int (x2 + 1)), (3, .int (mCel (((24 * p1) + x2).toNatClampNeg))), (0, .ref mo), (1, .int p1)]) hx hb dX7_findClaps_121 hl (k := 3) rfl (by rfl) (by decide) rfl (fun ls hl => ?_)
          refine lv_goto (tgt := 12) hx hb dX7_findClaps_124 (by decide) ?_
          exact ih (x2 + 1) mFC mLC mCg h _ _ hP hD hS ls (lv_sub hl [2, 3, 0] rfl)
        · have h := h.2 c_8
          refine lv_aload_n hx hb dX7_findClaps_40 rfl (lv_at hl 1 rfl) ?_
          refine va_get (D := E.1) (ci := 7) (v := .int mFC) (C := RX7) (T := TX7) (N := 39) hx hb hts n_X7 hown hK hP 0 rfl rfl 8 (by decide) k_161 (fun _ h9 => h9) rfl dX7_findClaps_41 ?_
          refine lv_if_ge (tgt := 51) hx hb dX7_findClaps_44 (by decide) (fun c_9 => ?_) (fun c_9 => ?_)
          · have h := h.1 c_9
            refine lv_aload_n hx hb dX7_findClaps_51 rfl (lv_at hl 1 rfl) ?_
            refine va_get (D := E.1) (ci := 7) (v := .ref mx) (C := RX7) (T := TX7) (N := 39) hx hb hts n_X7 hown hK hP 0 rfl rfl 31 (by decide) k_63 (fun _ h9 => h9) rfl dX7_findClaps_52 ?_
            refine lv_bipush (v := 24) hx hb dX7_findClaps_55 (by decide) ?_
            refine lv_iload_n hx hb dX7_findClaps_57 rfl (lv_at hl 2 rfl) ?_
            refine lv_imul hx hb dX7_findClaps_58 ?_
            refine lv_aload_n hx hb dX7_findClaps_59 rfl (lv_at hl 1 rfl) ?_
            refine va_get (D := E.1) (ci := 7) (v := .int mLC) (C := RX7) (T := TX7) (N := 39) hx hb hts n_X7 hown hK hP 0 rfl rfl 9 (by decide) k_168 (fun _ h9 => h9) rfl dX7_findClaps_60 ?_
            refine lv_iadd hx hb dX7_findClaps_63 ?_
            obtain ⟨o_10, h⟩ := h
            refine rc_iald hx hb hK hP 18 0 rfl rfl (((24 * p1) + mLC).toNatClampNeg) rfl o_10 dX7_findClaps_64 ?_
            exact J65 _ (fun v0 v1 v2 v3 h => ih v0 v1 v2 v3 h) x2 (mCel (((24 * p1) + x2).toNatClampNeg)) (mCel (((24 * p1) + mLC).toNatClampNeg)) mFC mLC mCg h _ _ hP hD hS ls (lv_sub hl [1, 2, 3, 0] rfl)
          · have h := h.2 c_9
            refine lv_iload_n hx hb dX7_findClaps_47 rfl (lv_at hl 0 rfl) ?_
            refine lv_goto (tgt := 65) hx hb dX7_findClaps_48 (by decide) ?_
            exact J65 _ (fun v0 v1 v2 v3 h => ih v0 v1 v2 v3 h) x2 (mCel (((24 * p1) + x2).toNatClampNeg)) (mCel (((24 * p1) + x2).toNatClampNeg)) mFC mLC mCg h _ _ hP hD hS ls (lv_sub hl [1, 2, 3, 0] rfl)
  unfold wp_X7_findClaps at h
  obtain ⟨H, hH⟩ : ∃ H, H = s.heap := ⟨_, rfl⟩
  obtain ⟨locs, hlocs⟩ : ∃ locs : List Loc, locs = [] := ⟨_, rfl⟩
  have hP : va_P E.1 vwCl (rw_24 E mo mn mi ma ml mt mb mr mp mk mq mc mw mz ms mf mu mv mx mh mA mB mC mM mT mHI mFC mLC mCg mTp mNx mFr mTk mVa mEn mKe mCs mAt mHd mWg mNow mImg mAsd mLea mLat mBst mRsk mTap mKys mKat mCod mWts mTes mStk mFct mSor mSiz mCel mHol mHoA mHoB mHoC mMov mTel) H := by rw [hH]; exact hP
  have hS : va_S A s.heap H locs := by rw [hH, hlocs]; exact hS
  suffices hgo : W p l e ({ frames := 0, cells := 0, slots := 0, locals := 0 } : Room) s m args below meth c H locs 0 0 QQ (F0 m 0 ls []) from by rw [hH, hlocs] at hgo; exact hgo
  refine lv_aload_n hx hb dX7_findClaps_0 rfl (lv_at hl 0 rfl) ?_
  refine lv_iconst (v := (-1)) hx hb dX7_findClaps_1 (by decide) ?_
  refine va_put (D := E.1) (ci := 7) (v := .int (-1)) (ty := .int) (C := RX7) (T := TX7) (N := 39) hx hb hts n_X7 tyX7 tyX7_ok nmX7 hown hK hP hD hS 0 rfl rfl 8 (by decide) k_161 (fun _ h9 => h9) rfl (by decide +kernel) rfl rfl (Nat.le_of_ble_eq_true rfl) dX7_findClaps_2 (fun H locs hP hD hS => ?_)
  have hP : va_P E.1 vwCl (rw_24 E mo mn mi ma ml mt mb mr mp mk mq mc mw mz ms mf mu mv mx mh mA mB mC mM mT mHI (-1) mLC mCg mTp mNx mFr mTk mVa mEn mKe mCs mAt mHd mWg mNow mImg mAsd mLea mLat mBst mRsk mTap mKys mKat mCod mWts mTes mStk mFct mSor mSiz mCel mHol mHoA mHoB mHoC mMov mTel) H := hP
  have hD : va_D A (rw_24 E mo mn mi ma ml mt mb mr mp mk mq mc mw mz ms mf mu mv mx mh mA mB mC mM mT mHI (-1) mLC mCg mTp mNx mFr mTk mVa mEn mKe mCs mAt mHd mWg mNow mImg mAsd mLea mLat mBst mRsk mTap mKys mKat mCod mWts mTes mStk mFct mSor mSiz mCel mHol mHoA mHoB mHoC mMov mTel) := hD
  refine lv_aload_n hx hb dX7_findClaps_5 rfl (lv_at hl 0 rfl) ?_
  refine lv_iconst (v := 0) hx hb dX7_findClaps_6 (by decide) ?_
  refine va_put (D := E.1) (ci := 7) (v := .int 0) (ty := .int) (C := RX7) (T := TX7) (N := 39) hx hb hts n_X7 tyX7 tyX7_ok nmX7 hown hK hP hD hS 0 rfl rfl 10 (by decide) k_165 (fun _ h9 => h9) rfl (by decide +kernel) rfl rfl (Nat.le_of_ble_eq_true rfl) dX7_findClaps_7 (fun H locs hP hD hS => ?_)
  have hP : va_P E.1 vwCl (rw_24 E mo mn mi ma ml mt mb mr mp mk mq mc mw mz ms mf mu mv mx mh mA mB mC mM mT mHI (-1) mLC 0 mTp mNx mFr mTk mVa mEn mKe mCs mAt mHd mWg mNow mImg mAsd mLea mLat mBst mRsk mTap mKys mKat mCod mWts mTes mStk mFct mSor mSiz mCel mHol mHoA mHoB mHoC mMov mTel) H := hP
  have hD : va_D A (rw_24 E mo mn mi ma ml mt mb mr mp mk mq mc mw mz ms mf mu mv mx mh mA mB mC mM mT mHI (-1) mLC 0 mTp mNx mFr mTk mVa mEn mKe mCs mAt mHd mWg mNow mImg mAsd mLea mLat mBst mRsk mTap mKys mKat mCod mWts mTes mStk mFct mSor mSiz mCel mHol mHoA mHoB mHoC mMov mTel) := hD
  refine lv_iconst (v := 0) hx hb dX7_findClaps_10 (by decide) ?_
  refine lv_istore_n (lv' := [(2, .int 0), (0, .ref mo), (1, .int p1)]) hx hb dX7_findClaps_11 rfl hl (by decide) rfl (fun ls hl => ?_)
  obtain ⟨n, h⟩ := h
  exact J12 n 0 (-1) mLC 0 h _ _ hP hD hS ls (lv_sub hl [1, 2, 0] rfl)
def lp_X7_offBy_26F (p1 : Int32) (p2 : Int32) (mFC : Int32) (mLC : Int32) (mCel : Nat → Int32)  (Q : Int32 → Prop) (R : Int32 → Int32 → Int32 → Prop) (x3 : Int32) (x4 : Int32) (x5 : Int32) : Prop :=
  ((mLC < x5 → Q x4) ∧ (¬ (mLC < x5) → (vp_in ((24 * p1) + x5) 96 ∧ wp_X7_within (x3 - (p2 * (x5 - mFC))) 0 99 (fun (r_3 : Int32) => ((¬ (mCel (((24 * p1) + x5).toNatClampNeg)) = (-1000000005) → ((0 ≤ ((mCel (((24 * p1) + x5).toNatClampNeg)) - (3 * r_3)) → R x3 (x4 + ((mCel (((24 * p1) + x5).toNatClampNeg)) - (3 * r_3))) (x5 + 1)) ∧ (¬ (0 ≤ ((mCel (((24 * p1) + x5).toNatClampNeg)) - (3 * r_3))) → R x3 (x4 + (-((mCel (((24 * p1) + x5).toNatClampNeg)) - (3 * r_3)))) (x5 + 1)))) ∧ ((mCel (((24 * p1) + x5).toNatClampNeg)) = (-1000000005) → R x3 (x4 + 0) (x5 + 1)))))))
def lp_X7_offBy_26 (p1 : Int32) (p2 : Int32) (mFC : Int32) (mLC : Int32) (mCel : Nat → Int32)  (Q : Int32 → Prop) (n : Nat) : Int32 → Int32 → Int32 → Prop :=
  Nat.rec (motive := fun _ => Int32 → Int32 → Int32 → Prop) (fun _ _ _ => False) (fun _ r => lp_X7_offBy_26F p1 p2 mFC mLC mCel Q r) n
def wp_X7_offBy (p1 : Int32) (p2 : Int32) (mFC : Int32) (mLC : Int32) (mCel : Nat → Int32) (Q : Int32 → Prop) : Prop :=
  (vp_in ((24 * p1) + mFC) 96 ∧ (∃ n : Nat, lp_X7_offBy_26 p1 p2 mFC mLC mCel Q n ((mCel (((24 * p1) + mFC).toNatClampNeg)) / 3) 0 mFC))
set_option maxHeartbeats 4000000 in
set_option maxRecDepth 100000 in
theorem c_X7_offBy (l : Launch) (E : gE) (mo mn mi ma ml mt mb mr mp mk mq mc mw mz ms mf mu mv mx mh mA mB mC mM mT : Nat) (sz : Nat) (mHI : Int32) (mFC : Int32) (mLC : Int32) (mCg : Int32) (mTp : Int32) (mNx : Int32) (mFr : Int32) (mTk : Int32) (mVa : Int32) (mEn : Int32) (mKe : Int32) (mCs : Int32) (mAt : Int32) (mHd : Int32) (mWg : Int32) (mNow : Nat → Int32) (mImg : Nat → Int32) (mAsd : Nat → Int32) (mLea : Nat → Int32) (mLat : Nat → Int32) (mBst : Nat → Int32) (mRsk : Nat → Int32) (mTap : Nat → Int32) (mKys : Nat → Int32) (mKat : Nat → Int32) (mCod : Nat → Int32) (mWts : Nat → Int32) (mTes : Nat → Int32) (mStk : Nat → Int32) (mFct : Nat → Int32) (mSor : Nat → Int32) (mSiz : Nat → Int32) (mCel : Nat → Int32) (mHol : Nat → Int32) (mHoA : Nat → Int32) (mHoB : Nat → Int32) (mHoC : Nat → Int32) (mMov : Nat → Int32) (mTel : Nat → Int32) (p1 p2 : Int32)  (Q : Int32 → Prop) (h : wp_X7_offBy p1 p2 mFC mLC mCel Q) : Met l yX7_offBy wsX7_offBy ({ frames := 1, cells := 0, slots := 0, locals := 22 } : Room) (va_Pc [.ref mo, .int p1, .int p2] (rc_B E (rw_24 E mo mn mi ma ml mt mb mr mp mk mq mc mw mz ms mf mu mv mx mh mA mB mC mM mT mHI mFC mLC mCg mTp mNx mFr mTk mVa mEn mKe mCs mAt mHd mWg mNow mImg mAsd mLea mLat mBst mRsk mTap mKys mKat mCod mWts mTes mStk mFct mSor mSiz mCel mHol mHoA mHoB mHoC mMov mTel) sz)) (va_Qi (S := Unit) (fun (r : Int32) (u : Unit) => Q r) (fun u t => rc_C E (va_A (rw_24 E mo mn mi ma ml mt mb mr mp mk mq mc mw mz ms mf mu mv mx mh mA mB mC mM mT mHI mFC mLC mCg mTp mNx mFr mTk mVa mEn mKe mCs mAt mHd mWg mNow mImg mAsd mLea mLat mBst mRsk mTap mKys mKat mCod mWts mTes mStk mFct mSor mSiz mCel mHol mHoA mHoB mHoC mMov mTel) sz) (rw_24 E mo mn mi ma ml mt mb mr mp mk mq mc mw mz ms mf mu mv mx mh mA mB mC mM mT mHI mFC mLC mCg mTp mNx mFr mTk mVa mEn mKe mCs mAt mHd mWg mNow mImg mAsd mLea mLat mBst mRsk mTap mKys mKat mCod mWts mTes mStk mFct mSor mSiz mCel mHol mHoA mHoB mHoC mMov mTel) t) (va_A (rw_24 E mo mn mi ma ml mt mb mr mp mk mq mc mw mz ms mf mu mv mx mh mA mB mC mM mT mHI mFC mLC mCg mTp mNx mFr mTk mVa mEn mKe mCs mAt mHd mWg mNow mImg mAsd mLea mLat mBst mRsk mTap mKys mKat mCod mWts mTes mStk mFct mSor mSiz mCel mHol mHoA mHoB mHoC mMov mTel) sz)) 0 0 (va_A (rw_24 E mo mn mi ma ml mt mb mr mp mk mq mc mw mz ms mf mu mv mx mh mA mB mC mM mT mHI mFC mLC mCg mTp mNx mFr mTk mVa mEn mKe mCs mAt mHd mWg mNow mImg mAsd mLea mLat mBst mRsk mTap mKys mKat mCod mWts mTes mStk mFct mSor mSiz mCel mHol mHoA mHoB mHoC mMov mTel) sz) := by
  refine rc_enterI (cc := cX7_offBy) (maxL := 8) (by decide) rfl (Nat.le_of_ble_eq_true rfl) ?_
  intro p e s m args below meth c QQ A hx hb hml hown hts hmn hE hP hD hA hret ls hl
  have hown : s.vm.findClass RX7 = some m.cls := hown
  have hK := hE.1
  have hS : va_S A s.heap s.heap [] := va_S.rf
  have hl : lv_has ls 8 [(0, .ref mo), (1, .int p1), (2, .int p2)] := hl
  have n_X7 : ∀ w ∈ wsX70, w ∈ wsX7_offBy := fun _ h => List.mem_cons_of_mem _ (List.mem_append_right _ h)
  have k_168 := hts (.fieldLink RX7 168 "RidgeClapsModel" "lastClap" "I") (List.mem_of_getElem? (i := 3) rfl)
  have k_63 := hts (.fieldLink RX7 63 "RidgeClapsModel" "cells" "[I") (List.mem_of_getElem? (i := 1) rfl)
  have k_161 := hts (.fieldLink RX7 161 "RidgeClapsModel" "firstClap" "I") (List.mem_of_getElem? (i := 2) rfl)
  have k_84 := hts (.constant RX7 84 (-1000000005)) (List.mem_of_getElem? (i := 4) rfl)
  have J26 : ∀ (n : Nat) (x3 : Int32) (x4 : Int32) (x5 : Int32), lp_X7_offBy_26 p1 p2 mFC mLC mCel Q n x3 x4 x5 → ∀ (H : Heap) (locs : List Loc), va_P E.1 vwCl (rw_24 E mo mn mi ma ml mt mb mr mp mk mq mc mw mz ms mf mu mv mx mh mA mB mC mM mT mHI mFC mLC mCg mTp mNx mFr mTk mVa mEn mKe mCs mAt mHd mWg mNow mImg mAsd mLea mLat mBst mRsk mTap mKys mKat mCod mWts mTes mStk mFct mSor mSiz mCel mHol mHoA mHoB mHoC mMov mTel) H → va_D A (rw_24 E mo mn mi ma ml mt mb mr mp mk mq mc mw mz ms mf mu mv mx mh mA mB mC mM mT mHI mFC mLC mCg mTp mNx mFr mTk mVa mEn mKe mCs mAt mHd mWg mNow mImg mAsd mLea mLat mBst mRsk mTap mKys mKat mCod mWts mTes mStk mFct mSor mSiz mCel mHol mHoA mHoB mHoC mMov mTel) → va_S A s.heap H locs → ∀ ls : Array Slot, lv_has ls 8 [(0, .ref mo), (1, .int p1), (2, .int p2), (3, .int x3), (4, .int x4), (5, .int x5)] → W p l e ({ frames := 1, cells := 0, slots := 0, locals := 22 } : Room) s m args below meth c H locs 0 0 QQ (F0 m 26 ls []) := by
    intro n
    induction n with
    | zero =>
      intro x3 x4 x5 h
      exact False.elim h
    | succ n ih =>
      intro x3 x4 x5 h H locs hP hD hS ls hl
      have h : lp_X7_offBy_26F p1 p2 mFC mLC mCel Q (lp_X7_offBy_26 p1 p2 mFC mLC mCel Q n) x3 x4 x5 := h
      unfold lp_X7_offBy_26F at h
      refine lv_iload hx hb dX7_offBy_26 (lv_at hl 5 rfl) ?_
      refine lv_aload_n hx hb dX7_offBy_28 rfl (lv_at hl 0 rfl) ?_
      refine va_get (D := E.1) (ci := 7) (v := .int mLC) (C := RX7) (T := TX7) (N := 39) hx hb hts n_X7 hown hK hP 0 rfl rfl 9 (by decide) k_168 (fun _ h9 => h9) rfl dX7_offBy_29 ?_
      refine lv_icmp_gt (tgt := 108) hx hb dX7_offBy_32 (by decide) (fun c_1 => ?_) (fun c_1 => ?_)
      · have h := h.1 c_1
        refine lv_iload hx hb dX7_offBy_108 (lv_at hl 4 rfl) ?_
        exact hret _ _ _ _ x4 () rfl h hP hD hS dX7_offBy_110
      · have h := h.2 c_1
        refine lv_aload_n hx hb dX7_offBy_35 rfl (lv_at hl 0 rfl) ?_
        refine va_get (D := E.1) (ci := 7) (v := .ref mx) (C := RX7) (T := TX7) (N := 39) hx hb hts n_X7 hown hK hP 0 rfl rfl 31 (by decide) k_63 (fun _ h9 => h9) rfl dX7_offBy_36 ?_
        refine lv_bipush (v := 24) hx hb dX7_offBy_39 (by decide) ?_
        refine lv_iload_n hx hb dX7_offBy_41 rfl (lv_at hl 1 rfl) ?_
        refine lv_imul hx hb dX7_offBy_42 ?_
        refine lv_iload hx hb dX7_offBy_43 (lv_at hl 5 rfl) ?_
        refine lv_iadd hx hb dX7_offBy_45 ?_
        obtain ⟨o_2, h⟩ := h
        refine rc_iald hx hb hK hP 18 0 rfl rfl (((24 * p1) + x5).toNatClampNeg) rfl o_2 dX7_offBy_46 ?_
        refine lv_istore (lv' := [(6, .int (mCel (((24 * p1) + x5).toNatClampNeg))), (0, .ref mo), (1, .int p1), (2, .int p2), (3, .int x3), (4, .int x4), (5, .int x5)]) hx hb dX7_offBy_47 hl (by decide) rfl (fun ls hl => ?_)
        refine lv_iload hx hb dX7_offBy_49 (lv_at hl 0 rfl) ?_
        refine lv_iconst (v := 3) hx hb dX7_offBy_51 (by decide) ?_
        refine lv_iload_n hx hb dX7_offBy_52 rfl (lv_at hl 4 rfl) ?_
        refine lv_iload_n hx hb dX7_offBy_53 rfl (lv_at hl 3 rfl) ?_
        refine lv_iload hx hb dX7_offBy_54 (lv_at hl 6 rfl) ?_
        refine lv_aload_n hx hb dX7_offBy_56 rfl (lv_at hl 1 rfl) ?_
        refine va_get (D := E.1) (ci := 7) (v := .int mFC) (C := RX7) (T := TX7) (N := 39) hx hb hts n_X7 hown hK hP 0 rfl rfl 8 (by decide) k_161 (fun _ h9 => h9) rfl dX7_offBy_57 ?_
        refine lv_isub hx hb dX7_offBy_60 ?_
        refine lv_imul hx hb dX7_offBy_61 ?_
        refine lv_isub hx hb dX7_offBy_62 ?_
        refine lv_iconst (v := 0) hx hb dX7_offBy_63 (by decide) ?_
        refine lv_bipush (v := 99) hx hb dX7_offBy_64 (by decide) ?_
        have hPc := hP.sub (ws' := []) [] rfl
        have hDc := hD.sub (ws' := []) [] (by decide) rfl
        have hFc := va_free (wc := []) hD hS hA [] rfl
        refine va_calli (va_runS (As := [.int (x3 - (p2 * (x5 - mFC))), .int 0, .int 99]) (rest := [.int 3, .int (mCel (((24 * p1) + x5).toNatClampNeg))]) ⟨hx, hb, hml, hown, hts⟩ (c_X7_within l E H.size (x3 - (p2 * (x5 - mFC))) 0 99 _ h) (va_cwS 3 hts gX7_offBy_X7_within rfl rfl rfl (by decide +kernel) ⟨Nat.le_of_ble_eq_true rfl, Nat.le_of_ble_eq_true rfl⟩) ⟨fun a U g mk q => ⟨q.1, q.2.blind⟩, fun U hU hW => ⟨rfl, by rw [hU], by rw [hU]; exact hPc, hE.call hS hFc hW hU, hDc.weaken (fun _ _ _ _ => trivial)⟩⟩ rfl rfl hl.1 rfl (lv_room (Nat.le_of_ble_eq_true rfl)) dX7_offBy_66 ⟨Nat.zero_le _, Nat.zero_le _⟩) hS (fun q _ h => hFc q h) hFc (fun r_3 u t H1 locs ht hvm h hB hz1 hk1 hS => ?_)
        obtain ⟨hP1, hD1⟩ := hB
        rw [ht] at hP1
        obtain ⟨hP, hD⟩ := rc_foc hP hD [] [none, none, none, none, none, none, none, none, none, none, none, none, none, none, none, none, none, none, none, none, none, none, none, none, none] (by decide) rfl hk1 hP1 rfl
        generalize H1 = H at hP hS ⊢
        have hP : va_P E.1 vwCl (rw_24 E mo mn mi ma ml mt mb mr mp mk mq mc mw mz ms mf mu mv mx mh mA mB mC mM mT mHI mFC mLC mCg mTp mNx mFr mTk mVa mEn mKe mCs mAt mHd mWg mNow mImg mAsd mLea mLat mBst mRsk mTap mKys mKat mCod mWts mTes mStk mFct mSor mSiz mCel mHol mHoA mHoB mHoC mMov mTel) H := hP
        have hD : va_D A (rw_24 E mo mn mi ma ml mt mb mr mp mk mq mc mw mz ms mf mu mv mx mh mA mB mC mM mT mHI mFC mLC mCg mTp mNx mFr mTk mVa mEn mKe mCs mAt mHd mWg mNow mImg mAsd mLea mLat mBst mRsk mTap mKys mKat mCod mWts mTes mStk mFct mSor mSiz mCel mHol mHoA mHoB mHoC mMov mTel) := hD
        refine lv_imul hx hb dX7_offBy_69 ?_
        refine lv_isub hx hb dX7_offBy_70 ?_
        refine lv_istore (lv' := [(7, .int ((mCel (((24 * p1) + x5).toNatClampNeg)) - (3 * r_3))), (6, .int (mCel (((24 * p1) + x5).toNatClampNeg))), (0, .ref mo), (1, .int p1), (2, .int p2), (3, .int x3), (4, .int x4), (5, .int x5)]) hx hb dX7_offBy_71 hl (by decide) rfl (fun ls hl => ?_)
        refine lv_iload hx hb dX7_offBy_73 (lv_at hl 6 rfl) ?_
        refine lv_iload hx hb dX7_offBy_75 (lv_at hl 1 rfl) ?_
        refine lv_ldc hx hb hown k_84 dX7_offBy_77 ?_
        refine lv_icmp_ne (tgt := 86) hx hb dX7_offBy_79 (by decide) (fun c_4 => ?_) (fun c_4 => ?_)
        · have h := h.1 c_4
          refine lv_iload hx hb dX7_offBy_86 (lv_at hl 0 rfl) ?_
          refine lv_if_ge (tgt := 97) hx hb dX7_offBy_88 (by decide) (fun c_5 => ?_) (fun c_5 => ?_)
          · have h := h.1 c_5
            refine lv_iload hx hb dX7_offBy_97 (lv_at hl 0 rfl) ?_
            refine lv_iadd hx hb dX7_offBy_99 ?_
            refine lv_istore (lv' := [(4, .int (x4 + ((mCel (((24 * p1) + x5).toNatClampNeg)) - (3 * r_3)))), (7, .int ((mCel (((24 * p1) + x5).toNatClampNeg)) - (3 * r_3))), (6, .int (mCel (((24 * p1) + x5).toNatClampNeg))), (0, .ref mo), (1, .int p1), (2, .int p2), (3, .int x3), (5, .int x5)]) hx hb dX7_offBy_100 hl (by decide) rfl (fun ls hl => ?_)
            refine lv_iinc (v := x5 + 1) (lv' := [(5, .int (x5 + 1)), (4, .int (x4 + ((mCel (((24 * p1) + x5).toNatClampNeg)) - (3 * r_3)))), (7, .int ((mCel (((24 * p1) + x5).toNatClampNeg)) - (3 * r_3))), (6, .int (mCel (((24 * p1) + x5).toNatClampNeg))), (0, .ref mo), (1, .int p1), (2, .int p2), (3, .int x3)]) hx hb dX7_offBy_102 hl (k := 7) rfl (by rfl) (by decide) rfl (fun ls hl => ?_)
            refine lv_goto (tgt := 26) hx hb dX7_offBy_105 (by decide) ?_
            exact ih x3 (x4 + ((mCel (((24 * p1) + x5).toNatClampNeg)) - (3 * r_3))) (x5 + 1) h _ _ hP hD hS ls (lv_sub hl [4, 5, 6, 7, 1, 0] rfl)
          · have h := h.2 c_5
            refine lv_iload hx hb dX7_offBy_91 (lv_at hl 0 rfl) ?_
            refine lv_ineg hx hb dX7_offBy_93 ?_
            refine lv_goto (tgt := 99) hx hb dX7_offBy_94 (by decide) ?_
            refine lv_iadd hx hb dX7_offBy_99 ?_
            refine lv_istore (lv' := [(4, .int (x4 + (-((mCel (((24 * p1) + x5).toNatClampNeg)) - (3 * r_3))))), (7, .int ((mCel (((24 * p1) + x5).toNatClampNeg)) - (3 * r_3))), (6, .int (mCel (((24 * p1) + x5).toNatClampNeg))), (0, .ref mo), (1, .int p1), (2, .int p2), (3, .int x3), (5, .int x5)]) hx hb dX7_offBy_100 hl (by decide) rfl (fun ls hl => ?_)
            refine lv_iinc (v := x5 + 1) (lv' := [(5, .int (x5 + 1)), (4, .int (x4 + (-((mCel (((24 * p1) + x5).toNatClampNeg)) - (3 * r_3))))), (7, .int ((mCel (((24 * p1) + x5).toNatClampNeg)) - (3 * r_3))), (6, .int (mCel (((24 * p1) + x5).toNatClampNeg))), (0, .ref mo), (1, .int p1), (2, .int p2), (3, .int x3)]) hx hb dX7_offBy_102 hl (k := 7) rfl (by rfl) (by decide) rfl (fun ls hl => ?_)
            refine lv_goto (tgt := 26) hx hb dX7_offBy_105 (by decide) ?_
            exact ih x3 (x4 + (-((mCel (((24 * p1) + x5).toNatClampNeg)) - (3 * r_3)))) (x5 + 1) h _ _ hP hD hS ls (lv_sub hl [4, 5, 6, 7, 1, 0] rfl)
        · have h := h.2 c_4
          refine lv_iconst (v := 0) hx hb dX7_offBy_82 (by decide) ?_
          refine lv_goto (tgt := 99) hx hb dX7_offBy_83 (by decide) ?_
          refine lv_iadd hx hb dX7_offBy_99 ?_
          refine lv_istore (lv' := [(4, .int (x4 + 0)), (7, .int ((mCel (((24 * p1) + x5).toNatClampNeg)) - (3 * r_3))), (6, .int (mCel (((24 * p1) + x5).toNatClampNeg))), (0, .ref mo), (1, .int p1), (2, .int p2), (3, .int x3), (5, .int x5)]) hx hb dX7_offBy_100 hl (by decide) rfl (fun ls hl => ?_)
          refine lv_iinc (v := x5 + 1) (lv' := [(5, .int (x5 + 1)), (4, .int (x4 + 0)), (7, .int ((mCel (((24 * p1) + x5).toNatClampNeg)) - (3 * r_3))), (6, .int (mCel (((24 * p1) + x5).toNatClampNeg))), (0, .ref mo), (1, .int p1), (2, .int p2), (3, .int x3)]) hx hb dX7_offBy_102 hl (k := 7) rfl (by rfl) (by decide) rfl (fun ls hl => ?_)
          refine lv_goto (tgt := 26) hx hb dX7_offBy_105 (by decide) ?_
          exact ih x3 (x4 + 0) (x5 + 1) h _ _ hP hD hS ls (lv_sub hl [4, 5, 6, 7, 1, 0] rfl)
  unfold wp_X7_offBy at h
  obtain ⟨H, hH⟩ : ∃ H, H = s.heap := ⟨_, rfl⟩
  obtain ⟨locs, hlocs⟩ : ∃ locs : List Loc, locs = [] := ⟨_, rfl⟩
  have hP : va_P E.1 vwCl (rw_24 E mo mn mi ma ml mt mb mr mp mk mq mc mw mz ms mf mu mv mx mh mA mB mC mM mT mHI mFC mLC mCg mTp mNx mFr mTk mVa mEn mKe mCs mAt mHd mWg mNow mImg mAsd mLea mLat mBst mRsk mTap mKys mKat mCod mWts mTes mStk mFct mSor mSiz mCel mHol mHoA mHoB mHoC mMov mTel) H := by rw [hH]; exact hP
  have hS : va_S A s.heap H locs := by rw [hH, hlocs]; exact hS
  suffices hgo : W p l e ({ frames := 1, cells := 0, slots := 0, locals := 22 } : Room) s m args below meth c H locs 0 0 QQ (F0 m 0 ls []) from by rw [hH, hlocs] at hgo; exact hgo
  refine lv_aload_n hx hb dX7_offBy_0 rfl (lv_at hl 0 rfl) ?_
  refine va_get (D := E.1) (ci := 7) (v := .ref mx) (C := RX7) (T := TX7) (N := 39) hx hb hts n_X7 hown hK hP 0 rfl rfl 31 (by decide) k_63 (fun _ h9 => h9) rfl dX7_offBy_1 ?_
  refine lv_bipush (v := 24) hx hb dX7_offBy_4 (by decide) ?_
  refine lv_iload_n hx hb dX7_offBy_6 rfl (lv_at hl 1 rfl) ?_
  refine lv_imul hx hb dX7_offBy_7 ?_
  refine lv_aload_n hx hb dX7_offBy_8 rfl (lv_at hl 0 rfl) ?_
  refine va_get (D := E.1) (ci := 7) (v := .int mFC) (C := RX7) (T := TX7) (N := 39) hx hb hts n_X7 hown hK hP 0 rfl rfl 8 (by decide) k_161 (fun _ h9 => h9) rfl dX7_offBy_9 ?_
  refine lv_iadd hx hb dX7_offBy_12 ?_
  obtain ⟨o_6, h⟩ := h
  refine rc_iald hx hb hK hP 18 0 rfl rfl (((24 * p1) + mFC).toNatClampNeg) rfl o_6 dX7_offBy_13 ?_
  refine lv_iconst (v := 3) hx hb dX7_offBy_14 (by decide) ?_
  refine lv_idiv hx hb dX7_offBy_15 (by decide) ?_
  refine lv_istore_n (lv' := [(3, .int ((mCel (((24 * p1) + mFC).toNatClampNeg)) / 3)), (0, .ref mo), (1, .int p1), (2, .int p2)]) hx hb dX7_offBy_16 rfl hl (by decide) rfl (fun ls hl => ?_)
  refine lv_iconst (v := 0) hx hb dX7_offBy_17 (by decide) ?_
  refine lv_istore (lv' := [(4, .int 0), (3, .int ((mCel (((24 * p1) + mFC).toNatClampNeg)) / 3)), (0, .ref mo), (1, .int p1), (2, .int p2)]) hx hb dX7_offBy_18 hl (by decide) rfl (fun ls hl => ?_)
  refine lv_aload_n hx hb dX7_offBy_20 rfl (lv_at hl 2 rfl) ?_
  refine va_get (D := E.1) (ci := 7) (v := .int mFC) (C := RX7) (T := TX7) (N := 39) hx hb hts n_X7 hown hK hP 0 rfl rfl 8 (by decide) k_161 (fun _ h9 => h9) rfl dX7_offBy_21 ?_
  refine lv_istore (lv' := [(5, .int mFC), (4, .int 0), (3, .int ((mCel (((24 * p1) + mFC).toNatClampNeg)) / 3)), (0, .ref mo), (1, .int p1), (2, .int p2)]) hx hb dX7_offBy_24 hl (by decide) rfl (fun ls hl => ?_)
  obtain ⟨n, h⟩ := h
  exact J26 n ((mCel (((24 * p1) + mFC).toNatClampNeg)) / 3) 0 mFC h _ _ hP hD hS ls (lv_sub hl [3, 4, 5, 2, 1, 0] rfl)
def lp_X7_paceOf_6F (p1 : Int32) (mFC : Int32) (mLC : Int32) (mCel : Nat → Int32)  (Q : Int32 → Prop) (R : Int32 → Int32 → Prop) (x2 : Int32) (x3 : Int32) : Prop :=
  ((10 ≤ x3 → Q x2) ∧ (¬ (10 ≤ x3) → wp_X7_offBy p1 x3 mFC mLC mCel (fun (r_2 : Int32) => wp_X7_offBy p1 x2 mFC mLC mCel (fun (r_3 : Int32) => ((r_3 ≤ r_2 → R x2 (x3 + 1)) ∧ (¬ (r_3 ≤ r_2) → R x3 (x3 + 1)))))))
def lp_X7_paceOf_6 (p1 : Int32) (mFC : Int32) (mLC : Int32) (mCel : Nat → Int32)  (Q : Int32 → Prop) (n : Nat) : Int32 → Int32 → Prop :=
  Nat.rec (motive := fun _ => Int32 → Int32 → Prop) (fun _ _ => False) (fun _ r => lp_X7_paceOf_6F p1 mFC mLC mCel Q r) n
def wp_X7_paceOf (p1 : Int32) (mFC : Int32) (mLC : Int32) (mCel : Nat → Int32) (Q : Int32 → Prop) : Prop :=
  (∃ n : Nat, lp_X7_paceOf_6 p1 mFC mLC mCel Q n (-9) (-8))
set_option maxHeartbeats 4000000 in
set_option maxRecDepth 100000 in
theorem c_X7_paceOf (l : Launch) (E : gE) (mo mn mi ma ml mt mb mr mp mk mq mc mw mz ms mf mu mv mx mh mA mB mC mM mT : Nat) (sz : Nat) (mHI : Int32) (mFC : Int32) (mLC : Int32) (mCg : Int32) (mTp : Int32) (mNx : Int32) (mFr : Int32) (mTk : Int32) (mVa : Int32) (mEn : Int32) (mKe : Int32) (mCs : Int32) (mAt : Int32) (mHd : Int32) (mWg : Int32) (mNow : Nat → Int32) (mImg : Nat → Int32) (mAsd : Nat → Int32) (mLea : Nat → Int32) (mLat : Nat → Int32) (mBst : Nat → Int32) (mRsk : Nat → Int32) (mTap : Nat → Int32) (mKys : Nat → Int32) (mKat : Nat → Int32) (mCod : Nat → Int32) (mWts : Nat → Int32) (mTes : Nat → Int32) (mStk : Nat → Int32) (mFct : Nat → Int32) (mSor : Nat → Int32) (mSiz : Nat → Int32) (mCel : Nat → Int32) (mHol : Nat → Int32) (mHoA : Nat → Int32) (mHoB : Nat → Int32) (mHoC : Nat → Int32) (mMov : Nat → Int32) (mTel : Nat → Int32) (p1 : Int32)  (Q : Int32 → Prop) (h : wp_X7_paceOf p1 mFC mLC mCel Q) : Met l yX7_paceOf wsX7_paceOf ({ frames := 2, cells := 0, slots := 0, locals := 49 } : Room) (va_Pc [.ref mo, .int p1] (rc_B E (rw_24 E mo mn mi ma ml mt mb mr mp mk mq mc mw mz ms mf mu mv mx mh mA mB mC mM mT mHI mFC mLC mCg mTp mNx mFr mTk mVa mEn mKe mCs mAt mHd mWg mNow mImg mAsd mLea mLat mBst mRsk mTap mKys mKat mCod mWts mTes mStk mFct mSor mSiz mCel mHol mHoA mHoB mHoC mMov mTel) sz)) (va_Qi (S := Unit) (fun (r : Int32) (u : Unit) => Q r) (fun u t => rc_C E (va_A (rw_24 E mo mn mi ma ml mt mb mr mp mk mq mc mw mz ms mf mu mv mx mh mA mB mC mM mT mHI mFC mLC mCg mTp mNx mFr mTk mVa mEn mKe mCs mAt mHd mWg mNow mImg mAsd mLea mLat mBst mRsk mTap mKys mKat mCod mWts mTes mStk mFct mSor mSiz mCel mHol mHoA mHoB mHoC mMov mTel) sz) (rw_24 E mo mn mi ma ml mt mb mr mp mk mq mc mw mz ms mf mu mv mx mh mA mB mC mM mT mHI mFC mLC mCg mTp mNx mFr mTk mVa mEn mKe mCs mAt mHd mWg mNow mImg mAsd mLea mLat mBst mRsk mTap mKys mKat mCod mWts mTes mStk mFct mSor mSiz mCel mHol mHoA mHoB mHoC mMov mTel) t) (va_A (rw_24 E mo mn mi ma ml mt mb mr mp mk mq mc mw mz ms mf mu mv mx mh mA mB mC mM mT mHI mFC mLC mCg mTp mNx mFr mTk mVa mEn mKe mCs mAt mHd mWg mNow mImg mAsd mLea mLat mBst mRsk mTap mKys mKat mCod mWts mTes mStk mFct mSor mSiz mCel mHol mHoA mHoB mHoC mMov mTel) sz)) 0 0 (va_A (rw_24 E mo mn mi ma ml mt mb mr mp mk mq mc mw mz ms mf mu mv mx mh mA mB mC mM mT mHI mFC mLC mCg mTp mNx mFr mTk mVa mEn mKe mCs mAt mHd mWg mNow mImg mAsd mLea mLat mBst mRsk mTap mKys mKat mCod mWts mTes mStk mFct mSor mSiz mCel mHol mHoA mHoB mHoC mMov mTel) sz) := by
  refine rc_enterI (cc := cX7_paceOf) (maxL := 4) (by decide) rfl (Nat.le_of_ble_eq_true rfl) ?_
  intro p e s m args below meth c QQ A hx hb hml hown hts hmn hE hP hD hA hret ls hl
  have hown : s.vm.findClass RX7 = some m.cls := hown
  have hK := hE.1
  have hS : va_S A s.heap s.heap [] := va_S.rf
  have hl : lv_has ls 4 [(0, .ref mo), (1, .int p1)] := hl
  have J6 : ∀ (n : Nat) (x2 : Int32) (x3 : Int32), lp_X7_paceOf_6 p1 mFC mLC mCel Q n x2 x3 → ∀ (H : Heap) (locs : List Loc), va_P E.1 vwCl (rw_24 E mo mn mi ma ml mt mb mr mp mk mq mc mw mz ms mf mu mv mx mh mA mB mC mM mT mHI mFC mLC mCg mTp mNx mFr mTk mVa mEn mKe mCs mAt mHd mWg mNow mImg mAsd mLea mLat mBst mRsk mTap mKys mKat mCod mWts mTes mStk mFct mSor mSiz mCel mHol mHoA mHoB mHoC mMov mTel) H → va_D A (rw_24 E mo mn mi ma ml mt mb mr mp mk mq mc mw mz ms mf mu mv mx mh mA mB mC mM mT mHI mFC mLC mCg mTp mNx mFr mTk mVa mEn mKe mCs mAt mHd mWg mNow mImg mAsd mLea mLat mBst mRsk mTap mKys mKat mCod mWts mTes mStk mFct mSor mSiz mCel mHol mHoA mHoB mHoC mMov mTel) → va_S A s.heap H locs → ∀ ls : Array Slot, lv_has ls 4 [(0, .ref mo), (1, .int p1), (2, .int x2), (3, .int x3)] → W p l e ({ frames := 2, cells := 0, slots := 0, locals := 49 } : Room) s m args below meth c H locs 0 0 QQ (F0 m 6 ls []) := by
    intro n
    induction n with
    | zero =>
      intro x2 x3 h
      exact False.elim h
    | succ n ih =>
      intro x2 x3 h H locs hP hD hS ls hl
      have h : lp_X7_paceOf_6F p1 mFC mLC mCel Q (lp_X7_paceOf_6 p1 mFC mLC mCel Q n) x2 x3 := h
      unfold lp_X7_paceOf_6F at h
      refine lv_iload_n hx hb dX7_paceOf_6 rfl (lv_at hl 3 rfl) ?_
      refine lv_bipush (v := 10) hx hb dX7_paceOf_7 (by decide) ?_
      refine lv_icmp_ge (tgt := 39) hx hb dX7_paceOf_9 (by decide) (fun c_1 => ?_) (fun c_1 => ?_)
      · have h := h.1 c_1
        refine lv_iload_n hx hb dX7_paceOf_39 rfl (lv_at hl 2 rfl) ?_
        exact hret _ _ _ _ x2 () rfl h hP hD hS dX7_paceOf_40
      · have h := h.2 c_1
        refine lv_aload_n hx hb dX7_paceOf_12 rfl (lv_at hl 0 rfl) ?_
        refine lv_iload_n hx hb dX7_paceOf_13 rfl (lv_at hl 1 rfl) ?_
        refine lv_iload_n hx hb dX7_paceOf_14 rfl (lv_at hl 3 rfl) ?_
        have hPc := hP
        have hDc := hD
        have hFc := rc_freeI hD hS hA
        refine va_calli (va_runV (As := [.int p1, .int x3]) (rest := []) ⟨hx, hb, hml, hown, hts⟩ (c_X7_offBy l E mo mn mi ma ml mt mb mr mp mk mq mc mw mz ms mf mu mv mx mh mA mB mC mM mT H.size mHI mFC mLC mCg mTp mNx mFr mTk mVa mEn mKe mCs mAt mHd mWg mNow mImg mAsd mLea mLat mBst mRsk mTap mKys mKat mCod mWts mTes mStk mFct mSor mSiz mCel mHol mHoA mHoB mHoC mMov mTel p1 x3 _ h) (cwV 2 hts gX7_paceOf_X7_offBy rfl rfl rfl (by decide +kernel) ⟨Nat.le_of_ble_eq_true rfl, Nat.le_of_ble_eq_true rfl⟩) ⟨fun a U g mk q => ⟨q.1, q.2.blind⟩, va_recv hK hPc (ci := 7) (q0 := 0) rfl rfl, fun U hU hW => ⟨rfl, by rw [hU], by rw [hU]; exact hPc, hE.call hS hFc hW hU, hDc.weaken (fun _ _ _ _ => trivial)⟩⟩ rfl rfl hl.1 rfl (lv_room (Nat.le_of_ble_eq_true rfl)) dX7_paceOf_15 ⟨Nat.zero_le _, Nat.zero_le _⟩) hS (fun q _ h => hFc q h) hFc (fun r_2 u t H1 locs ht hvm h hB hz1 hk1 hS => ?_)
        obtain ⟨hP1, hD1⟩ := hB
        rw [ht] at hP1
        have hP := hP1
        have hD := hD1.weaken (fun _ _ _ h => hFc _ h)
        generalize H1 = H at hP hS ⊢
        have hP : va_P E.1 vwCl (rw_24 E mo mn mi ma ml mt mb mr mp mk mq mc mw mz ms mf mu mv mx mh mA mB mC mM mT mHI mFC mLC mCg mTp mNx mFr mTk mVa mEn mKe mCs mAt mHd mWg mNow mImg mAsd mLea mLat mBst mRsk mTap mKys mKat mCod mWts mTes mStk mFct mSor mSiz mCel mHol mHoA mHoB mHoC mMov mTel) H := hP
        have hD : va_D A (rw_24 E mo mn mi ma ml mt mb mr mp mk mq mc mw mz ms mf mu mv mx mh mA mB mC mM mT mHI mFC mLC mCg mTp mNx mFr mTk mVa mEn mKe mCs mAt mHd mWg mNow mImg mAsd mLea mLat mBst mRsk mTap mKys mKat mCod mWts mTes mStk mFct mSor mSiz mCel mHol mHoA mHoB mHoC mMov mTel) := hD
        refine lv_aload_n hx hb dX7_paceOf_18 rfl (lv_at hl 0 rfl) ?_
        refine lv_iload_n hx hb dX7_paceOf_19 rfl (lv_at hl 1 rfl) ?_
        refine lv_iload_n hx hb dX7_paceOf_20 rfl (lv_at hl 2 rfl) ?_
        have hPc := hP
        have hDc := hD
        have hFc := rc_freeI hD hS hA
        refine va_calli (va_runV (As := [.int p1, .int x2]) (rest := [.int r_2]) ⟨hx, hb, hml, hown, hts⟩ (c_X7_offBy l E mo mn mi ma ml mt mb mr mp mk mq mc mw mz ms mf mu mv mx mh mA mB mC mM mT H.size mHI mFC mLC mCg mTp mNx mFr mTk mVa mEn mKe mCs mAt mHd mWg mNow mImg mAsd mLea mLat mBst mRsk mTap mKys mKat mCod mWts mTes mStk mFct mSor mSiz mCel mHol mHoA mHoB mHoC mMov mTel p1 x2 _ h) (cwV 2 hts gX7_paceOf_X7_offBy rfl rfl rfl (by decide +kernel) ⟨Nat.le_of_ble_eq_true rfl, Nat.le_of_ble_eq_true rfl⟩) ⟨fun a U g mk q => ⟨q.1, q.2.blind⟩, va_recv hK hPc (ci := 7) (q0 := 0) rfl rfl, fun U hU hW => ⟨rfl, by rw [hU], by rw [hU]; exact hPc, hE.call hS hFc hW hU, hDc.weaken (fun _ _ _ _ => trivial)⟩⟩ rfl rfl hl.1 rfl (lv_room (Nat.le_of_ble_eq_true rfl)) dX7_paceOf_21 ⟨Nat.zero_le _, Nat.zero_le _⟩) hS (fun q _ h => hFc q h) hFc (fun r_3 u t H1 locs ht hvm h hB hz1 hk1 hS => ?_)
        obtain ⟨hP1, hD1⟩ := hB
        rw [ht] at hP1
        have hP := hP1
        have hD := hD1.weaken (fun _ _ _ h => hFc _ h)
        generalize H1 = H at hP hS ⊢
        have hP : va_P E.1 vwCl (rw_24 E mo mn mi ma ml mt mb mr mp mk mq mc mw mz ms mf mu mv mx mh mA mB mC mM mT mHI mFC mLC mCg mTp mNx mFr mTk mVa mEn mKe mCs mAt mHd mWg mNow mImg mAsd mLea mLat mBst mRsk mTap mKys mKat mCod mWts mTes mStk mFct mSor mSiz mCel mHol mHoA mHoB mHoC mMov mTel) H := hP
        have hD : va_D A (rw_24 E mo mn mi ma ml mt mb mr mp mk mq mc mw mz ms mf mu mv mx mh mA mB mC mM mT mHI mFC mLC mCg mTp mNx mFr mTk mVa mEn mKe mCs mAt mHd mWg mNow mImg mAsd mLea mLat mBst mRsk mTap mKys mKat mCod mWts mTes mStk mFct mSor mSiz mCel mHol mHoA mHoB mHoC mMov mTel) := hD
        refine lv_icmp_ge (tgt := 31) hx hb dX7_paceOf_24 (by decide) (fun c_4 => ?_) (fun c_4 => ?_)
        · have h := h.1 c_4
          refine lv_iload_n hx hb dX7_paceOf_31 rfl (lv_at hl 2 rfl) ?_
          refine lv_istore_n (lv' := [(2, .int x2), (0, .ref mo), (1, .int p1), (3, .int x3)]) hx hb dX7_paceOf_32 rfl hl (by decide) rfl (fun ls hl => ?_)
          refine lv_iinc (v := x3 + 1) (lv' := [(3, .int (x3 + 1)), (2, .int x2), (0, .ref mo), (1, .int p1)]) hx hb dX7_paceOf_33 hl (k := 3) rfl (by rfl) (by decide) rfl (fun ls hl => ?_)
          refine lv_goto (tgt := 6) hx hb dX7_paceOf_36 (by decide) ?_
          exact ih x2 (x3 + 1) h _ _ hP hD hS ls (lv_sub hl [2, 3, 1, 0] rfl)
        · have h := h.2 c_4
          refine lv_iload_n hx hb dX7_paceOf_27 rfl (lv_at hl 3 rfl) ?_
          refine lv_goto (tgt := 32) hx hb dX7_paceOf_28 (by decide) ?_
          refine lv_istore_n (lv' := [(2, .int x3), (0, .ref mo), (1, .int p1), (3, .int x3)]) hx hb dX7_paceOf_32 rfl hl (by decide) rfl (fun ls hl => ?_)
          refine lv_iinc (v := x3 + 1) (lv' := [(3, .int (x3 + 1)), (2, .int x3), (0, .ref mo), (1, .int p1)]) hx hb dX7_paceOf_33 hl (k := 3) rfl (by rfl) (by decide) rfl (fun ls hl => ?_)
          refine lv_goto (tgt := 6) hx hb dX7_paceOf_36 (by decide) ?_
          exact ih x3 (x3 + 1) h _ _ hP hD hS ls (lv_sub hl [2, 3, 1, 0] rfl)
  unfold wp_X7_paceOf at h
  obtain ⟨H, hH⟩ : ∃ H, H = s.heap := ⟨_, rfl⟩
  obtain ⟨locs, hlocs⟩ : ∃ locs : List Loc, locs = [] := ⟨_, rfl⟩
  have hP : va_P E.1 vwCl (rw_24 E mo mn mi ma ml mt mb mr mp mk mq mc mw mz ms mf mu mv mx mh mA mB mC mM mT mHI mFC mLC mCg mTp mNx mFr mTk mVa mEn mKe mCs mAt mHd mWg mNow mImg mAsd mLea mLat mBst mRsk mTap mKys mKat mCod mWts mTes mStk mFct mSor mSiz mCel mHol mHoA mHoB mHoC mMov mTel) H := by rw [hH]; exact hP
  have hS : va_S A s.heap H locs := by rw [hH, hlocs]; exact hS
  suffices hgo : W p l e ({ frames := 2, cells := 0, slots := 0, locals := 49 } : Room) s m args below meth c H locs 0 0 QQ (F0 m 0 ls []) from by rw [hH, hlocs] at hgo; exact hgo
  refine lv_bipush (v := (-9)) hx hb dX7_paceOf_0 (by decide) ?_
  refine lv_istore_n (lv' := [(2, .int (-9)), (0, .ref mo), (1, .int p1)]) hx hb dX7_paceOf_2 rfl hl (by decide) rfl (fun ls hl => ?_)
  refine lv_bipush (v := (-8)) hx hb dX7_paceOf_3 (by decide) ?_
  refine lv_istore_n (lv' := [(3, .int (-8)), (2, .int (-9)), (0, .ref mo), (1, .int p1)]) hx hb dX7_paceOf_5 rfl hl (by decide) rfl (fun ls hl => ?_)
  obtain ⟨n, h⟩ := h
  exact J6 n (-9) (-8) h _ _ hP hD hS ls (lv_sub hl [2, 3, 1, 0] rfl)
def wp_X7_claps (p1 : Int32) (p2 : Int32) (mFC : Int32) (mLC : Int32) (mCg : Int32) (mSor : Nat → Int32) (mSiz : Nat → Int32) (mCel : Nat → Int32) (Q : Int32 → Int32 → Int32 → Int32 → Prop) : Prop :=
  wp_X7_isSheet p1 (fun (r_1 : Int32) => ((r_1 = 0 → Q (-1000000001) mFC mLC mCg) ∧ (¬ (r_1 = 0) → wp_X7_in p2 0 3 (fun (r_3 : Int32) => ((¬ r_3 = 0 → (vp_in p1 4 ∧ ((0 ≤ (mSor p1.toNatClampNeg) → wp_X7_findClaps p1 mLC mSiz mCel (fun (r_7 : Int32) (w_8 : Int32) (w_9 : Int32) (w_10 : Int32) => ((¬ r_7 = 0 → wp_X7_paceOf p1 w_8 w_9 mCel (fun (r_12 : Int32) => ((¬ p2 = 0 → ((¬ p2 = 1 → ((¬ p2 = 2 → wp_X7_offBy p1 r_12 w_8 w_9 mCel (fun (r_16 : Int32) => Q r_16 w_8 w_9 w_10)) ∧ (p2 = 2 → Q r_12 w_8 w_9 w_10))) ∧ (p2 = 1 → Q w_10 w_8 w_9 w_10))) ∧ (p2 = 0 → (vp_in ((24 * p1) + w_9) 96 ∧ Q ((mCel (((24 * p1) + w_9).toNatClampNeg)) / 3) w_8 w_9 w_10))))) ∧ (r_7 = 0 → Q (-1000000005) w_8 w_9 w_10)))) ∧ (¬ (0 ≤ (mSor p1.toNatClampNeg)) → Q (-1000000011) mFC mLC mCg)))) ∧ (r_3 = 0 → Q (-1000000001) mFC mLC mCg))))))
set_option maxHeartbeats 4000000 in
set_option maxRecDepth 100000 in
theorem c_X7_claps (l : Launch) (E : gE) (mo mn mi ma ml mt mb mr mp mk mq mc mw mz ms mf mu mv mx mh mA mB mC mM mT : Nat) (sz : Nat) (mHI : Int32) (mFC : Int32) (mLC : Int32) (mCg : Int32) (mTp : Int32) (mNx : Int32) (mFr : Int32) (mTk : Int32) (mVa : Int32) (mEn : Int32) (mKe : Int32) (mCs : Int32) (mAt : Int32) (mHd : Int32) (mWg : Int32) (mNow : Nat → Int32) (mImg : Nat → Int32) (mAsd : Nat → Int32) (mLea : Nat → Int32) (mLat : Nat → Int32) (mBst : Nat → Int32) (mRsk : Nat → Int32) (mTap : Nat → Int32) (mKys : Nat → Int32) (mKat : Nat → Int32) (mCod : Nat → Int32) (mWts : Nat → Int32) (mTes : Nat → Int32) (mStk : Nat → Int32) (mFct : Nat → Int32) (mSor : Nat → Int32) (mSiz : Nat → Int32) (mCel : Nat → Int32) (mHol : Nat → Int32) (mHoA : Nat → Int32) (mHoB : Nat → Int32) (mHoC : Nat → Int32) (mMov : Nat → Int32) (mTel : Nat → Int32) (p1 p2 : Int32)  (Q : Int32 → Int32 → Int32 → Int32 → Prop) (h : wp_X7_claps p1 p2 mFC mLC mCg mSor mSiz mCel Q) : Met l yX7_claps wsX7_claps ({ frames := 3, cells := 0, slots := 0, locals := 72 } : Room) (va_Pc [.ref mo, .int p1, .int p2] (rc_B E (rw_24 E mo mn mi ma ml mt mb mr mp mk mq mc mw mz ms mf mu mv mx mh mA mB mC mM mT mHI mFC mLC mCg mTp mNx mFr mTk mVa mEn mKe mCs mAt mHd mWg mNow mImg mAsd mLea mLat mBst mRsk mTap mKys mKat mCod mWts mTes mStk mFct mSor mSiz mCel mHol mHoA mHoB mHoC mMov mTel) sz)) (va_Qi (S := Int32 × Int32 × Int32) (fun (r : Int32) (u : Int32 × Int32 × Int32) => Q r u.1 u.2.1 u.2.2) (fun u t => rc_C E (va_A (rw_24 E mo mn mi ma ml mt mb mr mp mk mq mc mw mz ms mf mu mv mx mh mA mB mC mM mT mHI mFC mLC mCg mTp mNx mFr mTk mVa mEn mKe mCs mAt mHd mWg mNow mImg mAsd mLea mLat mBst mRsk mTap mKys mKat mCod mWts mTes mStk mFct mSor mSiz mCel mHol mHoA mHoB mHoC mMov mTel) sz) (rw_24 E mo mn mi ma ml mt mb mr mp mk mq mc mw mz ms mf mu mv mx mh mA mB mC mM mT mHI u.1 u.2.1 u.2.2 mTp mNx mFr mTk mVa mEn mKe mCs mAt mHd mWg mNow mImg mAsd mLea mLat mBst mRsk mTap mKys mKat mCod mWts mTes mStk mFct mSor mSiz mCel mHol mHoA mHoB mHoC mMov mTel) t) (va_A (rw_24 E mo mn mi ma ml mt mb mr mp mk mq mc mw mz ms mf mu mv mx mh mA mB mC mM mT mHI mFC mLC mCg mTp mNx mFr mTk mVa mEn mKe mCs mAt mHd mWg mNow mImg mAsd mLea mLat mBst mRsk mTap mKys mKat mCod mWts mTes mStk mFct mSor mSiz mCel mHol mHoA mHoB mHoC mMov mTel) sz)) 0 0 (va_A (rw_24 E mo mn mi ma ml mt mb mr mp mk mq mc mw mz ms mf mu mv mx mh mA mB mC mM mT mHI mFC mLC mCg mTp mNx mFr mTk mVa mEn mKe mCs mAt mHd mWg mNow mImg mAsd mLea mLat mBst mRsk mTap mKys mKat mCod mWts mTes mStk mFct mSor mSiz mCel mHol mHoA mHoB mHoC mMov mTel) sz) := by
  refine rc_enterI (cc := cX7_claps) (maxL := 4) (by decide) rfl (Nat.le_of_ble_eq_true rfl) ?_
  intro p e s m args below meth c QQ A hx hb hml hown hts hmn hE hP hD hA hret ls hl
  have hown : s.vm.findClass RX7 = some m.cls := hown
  have hK := hE.1
  have hS : va_S A s.heap s.heap [] := va_S.rf
  have hl : lv_has ls 4 [(0, .ref mo), (1, .int p1), (2, .int p2)] := hl
  have n_X7 : ∀ w ∈ wsX70, w ∈ wsX7_claps := fun _ h => List.mem_cons_of_mem _ (List.mem_append_right _ h)
  have k_89 := hts (.constant RX7 89 (-1000000001)) (List.mem_of_getElem? (i := 1) rfl)
  have k_57 := hts (.fieldLink RX7 57 "RidgeClapsModel" "sorts" "[I") (List.mem_of_getElem? (i := 2) rfl)
  have k_165 := hts (.fieldLink RX7 165 "RidgeClapsModel" "coming" "I") (List.mem_of_getElem? (i := 7) rfl)
  have k_63 := hts (.fieldLink RX7 63 "RidgeClapsModel" "cells" "[I") (List.mem_of_getElem? (i := 5) rfl)
  have k_168 := hts (.fieldLink RX7 168 "RidgeClapsModel" "lastClap" "I") (List.mem_of_getElem? (i := 6) rfl)
  have k_84 := hts (.constant RX7 84 (-1000000005)) (List.mem_of_getElem? (i := 4) rfl)
  have k_177 := hts (.constant RX7 177 (-1000000011)) (List.mem_of_getElem? (i := 3) rfl)
  unfold wp_X7_claps at h
  obtain ⟨H, hH⟩ : ∃ H, H = s.heap := ⟨_, rfl⟩
  obtain ⟨locs, hlocs⟩ : ∃ locs : List Loc, locs = [] := ⟨_, rfl⟩
  have hP : va_P E.1 vwCl (rw_24 E mo mn mi ma ml mt mb mr mp mk mq mc mw mz ms mf mu mv mx mh mA mB mC mM mT mHI mFC mLC mCg mTp mNx mFr mTk mVa mEn mKe mCs mAt mHd mWg mNow mImg mAsd mLea mLat mBst mRsk mTap mKys mKat mCod mWts mTes mStk mFct mSor mSiz mCel mHol mHoA mHoB mHoC mMov mTel) H := by rw [hH]; exact hP
  have hS : va_S A s.heap H locs := by rw [hH, hlocs]; exact hS
  suffices hgo : W p l e ({ frames := 3, cells := 0, slots := 0, locals := 72 } : Room) s m args below meth c H locs 0 0 QQ (F0 m 0 ls []) from by rw [hH, hlocs] at hgo; exact hgo
  refine lv_iload_n hx hb dX7_claps_0 rfl (lv_at hl 1 rfl) ?_
  have hPc := hP.sub (ws' := []) [] rfl
  have hDc := hD.sub (ws' := []) [] (by decide) rfl
  have hFc := va_free (wc := []) hD hS hA [] rfl
  refine va_calli (va_runS (As := [.int p1]) (rest := []) ⟨hx, hb, hml, hown, hts⟩ (c_X7_isSheet l E H.size p1 _ h) (va_cwS 1 hts gX7_claps_X7_isSheet rfl rfl rfl (by decide +kernel) ⟨Nat.le_of_ble_eq_true rfl, Nat.le_of_ble_eq_true rfl⟩) ⟨fun a U g mk q => ⟨q.1, q.2.blind⟩, fun U hU hW => ⟨rfl, by rw [hU], by rw [hU]; exact hPc, hE.call hS hFc hW hU, hDc.weaken (fun _ _ _ _ => trivial)⟩⟩ rfl rfl hl.1 rfl (lv_room (Nat.le_of_ble_eq_true rfl)) dX7_claps_1 ⟨Nat.zero_le _, Nat.zero_le _⟩) hS (fun q _ h => hFc q h) hFc (fun r_1 u t H1 locs ht hvm h hB hz1 hk1 hS => ?_)
  obtain ⟨hP1, hD1⟩ := hB
  rw [ht] at hP1
  obtain ⟨hP, hD⟩ := rc_foc hP hD [] [none, none, none, none, none, none, none, none, none, none, none, none, none, none, none, none, none, none, none, none, none, none, none, none, none] (by decide) rfl hk1 hP1 rfl
  generalize H1 = H at hP hS ⊢
  have hP : va_P E.1 vwCl (rw_24 E mo mn mi ma ml mt mb mr mp mk mq mc mw mz ms mf mu mv mx mh mA mB mC mM mT mHI mFC mLC mCg mTp mNx mFr mTk mVa mEn mKe mCs mAt mHd mWg mNow mImg mAsd mLea mLat mBst mRsk mTap mKys mKat mCod mWts mTes mStk mFct mSor mSiz mCel mHol mHoA mHoB mHoC mMov mTel) H := hP
  have hD : va_D A (rw_24 E mo mn mi ma ml mt mb mr mp mk mq mc mw mz ms mf mu mv mx mh mA mB mC mM mT mHI mFC mLC mCg mTp mNx mFr mTk mVa mEn mKe mCs mAt mHd mWg mNow mImg mAsd mLea mLat mBst mRsk mTap mKys mKat mCod mWts mTes mStk mFct mSor mSiz mCel mHol mHoA mHoB mHoC mMov mTel) := hD
  refine lv_if_eq (tgt := 16) hx hb dX7_claps_4 (by decide) (fun c_2 => ?_) (fun c_2 => ?_)
  · have h := h.1 c_2
    refine lv_ldc hx hb hown k_89 dX7_claps_16 ?_
    exact hret _ _ _ _ (-1000000001) (mFC, mLC, mCg) rfl h hP hD hS dX7_claps_18
  · have h := h.2 c_2
    refine lv_iload_n hx hb dX7_claps_7 rfl (lv_at hl 2 rfl) ?_
    refine lv_iconst (v := 0) hx hb dX7_claps_8 (by decide) ?_
    refine lv_iconst (v := 3) hx hb dX7_claps_9 (by decide) ?_
    have hPc := hP.sub (ws' := []) [] rfl
    have hDc := hD.sub (ws' := []) [] (by decide) rfl
    have hFc := va_free (wc := []) hD hS hA [] rfl
    refine va_calli (va_runS (As := [.int p2, .int 0, .int 3]) (rest := []) ⟨hx, hb, hml, hown, hts⟩ (c_X7_in l E H.size p2 0 3 _ h) (va_cwS 3 hts gX7_claps_X7_in rfl rfl rfl (by decide +kernel) ⟨Nat.le_of_ble_eq_true rfl, Nat.le_of_ble_eq_true rfl⟩) ⟨fun a U g mk q => ⟨q.1, q.2.blind⟩, fun U hU hW => ⟨rfl, by rw [hU], by rw [hU]; exact hPc, hE.call hS hFc hW hU, hDc.weaken (fun _ _ _ _ => trivial)⟩⟩ rfl rfl hl.1 rfl (lv_room (Nat.le_of_ble_eq_true rfl)) dX7_claps_10 ⟨Nat.zero_le _, Nat.zero_le _⟩) hS (fun q _ h => hFc q h) hFc (fun r_3 u t H1 locs ht hvm h hB hz1 hk1 hS => ?_)
    obtain ⟨hP1, hD1⟩ := hB
    rw [ht] at hP1
    obtain ⟨hP, hD⟩ := rc_foc hP hD [] [none, none, none, none, none, none, none, none, none, none, none, none, none, none, none, none, none, none, none, none, none, none, none, none, none] (by decide) rfl hk1 hP1 rfl
    generalize H1 = H at hP hS ⊢
    have hP : va_P E.1 vwCl (rw_24 E mo mn mi ma ml mt mb mr mp mk mq mc mw mz ms mf mu mv mx mh mA mB mC mM mT mHI mFC mLC mCg mTp mNx mFr mTk mVa mEn mKe mCs mAt mHd mWg mNow mImg mAsd mLea mLat mBst mRsk mTap mKys mKat mCod mWts mTes mStk mFct mSor mSiz mCel mHol mHoA mHoB mHoC mMov mTel) H := hP
    have hD : va_D A (rw_24 E mo mn mi ma ml mt mb mr mp mk mq mc mw mz ms mf mu mv mx mh mA mB mC mM mT mHI mFC mLC mCg mTp mNx mFr mTk mVa mEn mKe mCs mAt mHd mWg mNow mImg mAsd mLea mLat mBst mRsk mTap mKys mKat mCod mWts mTes mStk mFct mSor mSiz mCel mHol mHoA mHoB mHoC mMov mTel) := hD
    refine lv_if_ne (tgt := 19) hx hb dX7_claps_13 (by decide) (fun c_4 => ?_) (fun c_4 => ?_)
    · have h := h.1 c_4
      refine lv_aload_n hx hb dX7_claps_19 rfl (lv_at hl 0 rfl) ?_
      refine va_get (D := E.1) (ci := 7) (v := .ref mu) (C := RX7) (T := TX7) (N := 39) hx hb hts n_X7 hown hK hP 0 rfl rfl 29 (by decide) k_57 (fun _ h9 => h9) rfl dX7_claps_20 ?_
      refine lv_iload_n hx hb dX7_claps_23 rfl (lv_at hl 1 rfl) ?_
      obtain ⟨o_5, h⟩ := h
      refine rc_iald hx hb hK hP 16 0 rfl rfl p1.toNatClampNeg rfl o_5 dX7_claps_24 ?_
      refine lv_if_ge (tgt := 31) hx hb dX7_claps_25 (by decide) (fun c_6 => ?_) (fun c_6 => ?_)
      · have h := h.1 c_6
        refine lv_aload_n hx hb dX7_claps_31 rfl (lv_at hl 0 rfl) ?_
        refine lv_iload_n hx hb dX7_claps_32 rfl (lv_at hl 1 rfl) ?_
        have hPc := hP
        have hDc := hD
        have hFc := rc_freeI hD hS hA
        refine va_calli (va_runV (As := [.int p1]) (rest := []) ⟨hx, hb, hml, hown, hts⟩ (c_X7_findClaps l E mo mn mi ma ml mt mb mr mp mk mq mc mw mz ms mf mu mv mx mh mA mB mC mM mT H.size mHI mFC mLC mCg mTp mNx mFr mTk mVa mEn mKe mCs mAt mHd mWg mNow mImg mAsd mLea mLat mBst mRsk mTap mKys mKat mCod mWts mTes mStk mFct mSor mSiz mCel mHol mHoA mHoB mHoC mMov mTel p1 _ h) (cwV 1 hts gX7_claps_X7_findClaps rfl rfl rfl (by decide +kernel) ⟨Nat.le_of_ble_eq_true rfl, Nat.le_of_ble_eq_true rfl⟩) ⟨fun a U g mk q => ⟨q.1, q.2.blind⟩, va_recv hK hPc (ci := 7) (q0 := 0) rfl rfl, fun U hU hW => ⟨rfl, by rw [hU], by rw [hU]; exact hPc, hE.call hS hFc hW hU, hDc.weaken (fun _ _ _ _ => trivial)⟩⟩ rfl rfl hl.1 rfl (lv_room (Nat.le_of_ble_eq_true rfl)) dX7_claps_33 ⟨Nat.zero_le _, Nat.zero_le _⟩) hS (fun q _ h => hFc q h) hFc (fun r_7 u t H1 locs ht hvm h hB hz1 hk1 hS => ?_)
        obtain ⟨w_8, w_9, w_10⟩ := u
        obtain ⟨hP1, hD1⟩ := hB
        rw [ht] at hP1
        have hP := hP1
        have hD := hD1.weaken (fun _ _ _ h => hFc _ h)
        generalize H1 = H at hP hS ⊢
        have hP : va_P E.1 vwCl (rw_24 E mo mn mi ma ml mt mb mr mp mk mq mc mw mz ms mf mu mv mx mh mA mB mC mM mT mHI w_8 w_9 w_10 mTp mNx mFr mTk mVa mEn mKe mCs mAt mHd mWg mNow mImg mAsd mLea mLat mBst mRsk mTap mKys mKat mCod mWts mTes mStk mFct mSor mSiz mCel mHol mHoA mHoB mHoC mMov mTel) H := hP
        have hD : va_D A (rw_24 E mo mn mi ma ml mt mb mr mp mk mq mc mw mz ms mf mu mv mx mh mA mB mC mM mT mHI w_8 w_9 w_10 mTp mNx mFr mTk mVa mEn mKe mCs mAt mHd mWg mNow mImg mAsd mLea mLat mBst mRsk mTap mKys mKat mCod mWts mTes mStk mFct mSor mSiz mCel mHol mHoA mHoB mHoC mMov mTel) := hD
        refine lv_if_ne (tgt := 42) hx hb dX7_claps_36 (by decide) (fun c_11 => ?_) (fun c_11 => ?_)
        · have h := h.1 c_11
          refine lv_aload_n hx hb dX7_claps_42 rfl (lv_at hl 0 rfl) ?_
          refine lv_iload_n hx hb dX7_claps_43 rfl (lv_at hl 1 rfl) ?_
          have hPc := hP
          have hDc := hD
          have hFc := rc_freeI hD hS hA
          refine va_calli (va_runV (As := [.int p1]) (rest := []) ⟨hx, hb, hml, hown, hts⟩ (c_X7_paceOf l E mo mn mi ma ml mt mb mr mp mk mq mc mw mz ms mf mu mv mx mh mA mB mC mM mT H.size mHI w_8 w_9 w_10 mTp mNx mFr mTk mVa mEn mKe mCs mAt mHd mWg mNow mImg mAsd mLea mLat mBst mRsk mTap mKys mKat mCod mWts mTes mStk mFct mSor mSiz mCel mHol mHoA mHoB mHoC mMov mTel p1 _ h) (cwV 1 hts gX7_claps_X7_paceOf rfl rfl rfl (by decide +kernel) ⟨Nat.le_of_ble_eq_true rfl, Nat.le_of_ble_eq_true rfl⟩) ⟨fun a U g mk q => ⟨q.1, q.2.blind⟩, va_recv hK hPc (ci := 7) (q0 := 0) rfl rfl, fun U hU hW => ⟨rfl, by rw [hU], by rw [hU]; exact hPc, hE.call hS hFc hW hU, hDc.weaken (fun _ _ _ _ => trivial)⟩⟩ rfl rfl hl.1 rfl (lv_room (Nat.le_of_ble_eq_true rfl)) dX7_claps_44 ⟨Nat.zero_le _, Nat.zero_le _⟩) hS (fun q _ h => hFc q h) hFc (fun r_12 u t H1 locs ht hvm h hB hz1 hk1 hS => ?_)
          obtain ⟨hP1, hD1⟩ := hB
          rw [ht] at hP1
          have hP := hP1
          have hD := hD1.weaken (fun _ _ _ h => hFc _ h)
          generalize H1 = H at hP hS ⊢
          have hP : va_P E.1 vwCl (rw_24 E mo mn mi ma ml mt mb mr mp mk mq mc mw mz ms mf mu mv mx mh mA mB mC mM mT mHI w_8 w_9 w_10 mTp mNx mFr mTk mVa mEn mKe mCs mAt mHd mWg mNow mImg mAsd mLea mLat mBst mRsk mTap mKys mKat mCod mWts mTes mStk mFct mSor mSiz mCel mHol mHoA mHoB mHoC mMov mTel) H := hP
          have hD : va_D A (rw_24 E mo mn mi ma ml mt mb mr mp mk mq mc mw mz ms mf mu mv mx mh mA mB mC mM mT mHI w_8 w_9 w_10 mTp mNx mFr mTk mVa mEn mKe mCs mAt mHd mWg mNow mImg mAsd mLea mLat mBst mRsk mTap mKys mKat mCod mWts mTes mStk mFct mSor mSiz mCel mHol mHoA mHoB mHoC mMov mTel) := hD
          refine lv_istore_n (lv' := [(3, .int r_12), (0, .ref mo), (1, .int p1), (2, .int p2)]) hx hb dX7_claps_47 rfl hl (by decide) rfl (fun ls hl => ?_)
          refine lv_iload_n hx hb dX7_claps_48 rfl (lv_at hl 3 rfl) ?_
          refine lv_if_ne (tgt := 71) hx hb dX7_claps_49 (by decide) (fun c_13 => ?_) (fun c_13 => ?_)
          · have h := h.1 c_13
            refine lv_iload_n hx hb dX7_claps_71 rfl (lv_at hl 3 rfl) ?_
            refine lv_iconst (v := 1) hx hb dX7_claps_72 (by decide) ?_
            refine lv_icmp_ne (tgt := 83) hx hb dX7_claps_73 (by decide) (fun c_14 => ?_) (fun c_14 => ?_)
            · have h := h.1 c_14
              refine lv_iload_n hx hb dX7_claps_83 rfl (lv_at hl 3 rfl) ?_
              refine lv_iconst (v := 2) hx hb dX7_claps_84 (by decide) ?_
              refine lv_icmp_ne (tgt := 92) hx hb dX7_claps_85 (by decide) (fun c_15 => ?_) (fun c_15 => ?_)
              · have h := h.1 c_15
                refine lv_aload_n hx hb dX7_claps_92 rfl (lv_at hl 1 rfl) ?_
                refine lv_iload_n hx hb dX7_claps_93 rfl (lv_at hl 2 rfl) ?_
                refine lv_iload_n hx hb dX7_claps_94 rfl (lv_at hl 0 rfl) ?_
                have hPc := hP
                have hDc := hD
                have hFc := rc_freeI hD hS hA
                refine va_calli (va_runV (As := [.int p1, .int r_12]) (rest := []) ⟨hx, hb, hml, hown, hts⟩ (c_X7_offBy l E mo mn mi ma ml mt mb mr mp mk mq mc mw mz ms mf mu mv mx mh mA mB mC mM mT H.size mHI w_8 w_9 w_10 mTp mNx mFr mTk mVa mEn mKe mCs mAt mHd mWg mNow mImg mAsd mLea mLat mBst mRsk mTap mKys mKat mCod mWts mTes mStk mFct mSor mSiz mCel mHol mHoA mHoB mHoC mMov mTel p1 r_12 _ h) (cwV 2 hts gX7_claps_X7_offBy rfl rfl rfl (by decide +kernel) ⟨Nat.le_of_ble_eq_true rfl, Nat.le_of_ble_eq_true rfl⟩) ⟨fun a U g mk q => ⟨q.1, q.2.blind⟩, va_recv hK hPc (ci := 7) (q0 := 0) rfl rfl, fun U hU hW => ⟨rfl, by rw [hU], by rw [hU]; exact hPc, hE.call hS hFc hW hU, hDc.weaken (fun _ _ _ _ => trivial)⟩⟩ rfl rfl hl.1 rfl (lv_room (Nat.le_of_ble_eq_true rfl)) dX7_claps_95 ⟨Nat.zero_le _, Nat.zero_le _⟩) hS (fun q _ h => hFc q h) hFc (fun r_16 u t H1 locs ht hvm h hB hz1 hk1 hS => ?_)
                obtain ⟨hP1, hD1⟩ := hB
                rw [ht] at hP1
                have hP := hP1
                have hD := hD1.weaken (fun _ _ _ h => hFc _ h)
                generalize H1 = H at hP hS ⊢
                have hP : va_P E.1 vwCl (rw_24 E mo mn mi ma ml mt mb mr mp mk mq mc mw mz ms mf mu mv mx mh mA mB mC mM mT mHI w_8 w_9 w_10 mTp mNx mFr mTk mVa mEn mKe mCs mAt mHd mWg mNow mImg mAsd mLea mLat mBst mRsk mTap mKys mKat mCod mWts mTes mStk mFct mSor mSiz mCel mHol mHoA mHoB mHoC mMov mTel) H := hP
                have hD : va_D A (rw_24 E mo mn mi ma ml mt mb mr mp mk mq mc mw mz ms mf mu mv mx mh mA mB mC mM mT mHI w_8 w_9 w_10 mTp mNx mFr mTk mVa mEn mKe mCs mAt mHd mWg mNow mImg mAsd mLea mLat mBst mRsk mTap mKys mKat mCod mWts mTes mStk mFct mSor mSiz mCel mHol mHoA mHoB mHoC mMov mTel) := hD
                exact hret _ _ _ _ r_16 (w_8, w_9, w_10) rfl h hP hD hS dX7_claps_98
              · have h := h.2 c_15
                refine lv_iload_n hx hb dX7_claps_88 rfl (lv_at hl 0 rfl) ?_
                refine lv_goto (tgt := 98) hx hb dX7_claps_89 (by decide) ?_
                exact hret _ _ _ _ r_12 (w_8, w_9, w_10) rfl h hP hD hS dX7_claps_98
            · have h := h.2 c_14
              refine lv_aload_n hx hb dX7_claps_76 rfl (lv_at hl 1 rfl) ?_
              refine va_get (D := E.1) (ci := 7) (v := .int w_10) (C := RX7) (T := TX7) (N := 39) hx hb hts n_X7 hown hK hP 0 rfl rfl 10 (by decide) k_165 (fun _ h9 => h9) rfl dX7_claps_77 ?_
              refine lv_goto (tgt := 98) hx hb dX7_claps_80 (by decide) ?_
              exact hret _ _ _ _ w_10 (w_8, w_9, w_10) rfl h hP hD hS dX7_claps_98
          · have h := h.2 c_13
            refine lv_aload_n hx hb dX7_claps_52 rfl (lv_at hl 1 rfl) ?_
            refine va_get (D := E.1) (ci := 7) (v := .ref mx) (C := RX7) (T := TX7) (N := 39) hx hb hts n_X7 hown hK hP 0 rfl rfl 31 (by decide) k_63 (fun _ h9 => h9) rfl dX7_claps_53 ?_
            refine lv_bipush (v := 24) hx hb dX7_claps_56 (by decide) ?_
            refine lv_iload_n hx hb dX7_claps_58 rfl (lv_at hl 2 rfl) ?_
            refine lv_imul hx hb dX7_claps_59 ?_
            refine lv_aload_n hx hb dX7_claps_60 rfl (lv_at hl 1 rfl) ?_
            refine va_get (D := E.1) (ci := 7) (v := .int w_9) (C := RX7) (T := TX7) (N := 39) hx hb hts n_X7 hown hK hP 0 rfl rfl 9 (by decide) k_168 (fun _ h9 => h9) rfl dX7_claps_61 ?_
            refine lv_iadd hx hb dX7_claps_64 ?_
            obtain ⟨o_17, h⟩ := h
            refine rc_iald hx hb hK hP 18 0 rfl rfl (((24 * p1) + w_9).toNatClampNeg) rfl o_17 dX7_claps_65 ?_
            refine lv_iconst (v := 3) hx hb dX7_claps_66 (by decide) ?_
            refine lv_idiv hx hb dX7_claps_67 (by decide) ?_
            refine lv_goto (tgt := 98) hx hb dX7_claps_68 (by decide) ?_
            exact hret _ _ _ _ ((mCel (((24 * p1) + w_9).toNatClampNeg)) / 3) (w_8, w_9, w_10) rfl h hP hD hS dX7_claps_98
        · have h := h.2 c_11
          refine lv_ldc hx hb hown k_84 dX7_claps_39 ?_
          exact hret _ _ _ _ (-1000000005) (w_8, w_9, w_10) rfl h hP hD hS dX7_claps_41
      · have h := h.2 c_6
        refine lv_ldc hx hb hown k_177 dX7_claps_28 ?_
        exact hret _ _ _ _ (-1000000011) (mFC, mLC, mCg) rfl h hP hD hS dX7_claps_30
    · have h := h.2 c_4
      refine lv_ldc hx hb hown k_89 dX7_claps_16 ?_
      exact hret _ _ _ _ (-1000000001) (mFC, mLC, mCg) rfl h hP hD hS dX7_claps_18
def wp_X7_hear (p1 : Int32) (mFC : Int32) (mLC : Int32) (mCg : Int32) (mNow : Nat → Int32) (mSor : Nat → Int32) (mSiz : Nat → Int32) (mCel : Nat → Int32) (Q : Int32 → Int32 → Int32 → Int32 → (Nat → Int32) → Prop) : Prop :=
  wp_X7_isSheet p1 (fun (r_1 : Int32) => ((¬ r_1 = 0 → (vp_in p1 4 ∧ ((0 ≤ (mSor p1.toNatClampNeg) → wp_X7_findClaps p1 mLC mSiz mCel (fun (r_5 : Int32) (w_6 : Int32) (w_7 : Int32) (w_8 : Int32) => ((¬ r_5 = 0 → (vp_in ((24 * p1) + w_7) 96 ∧ wp_X7_within ((mCel (((24 * p1) + w_7).toNatClampNeg)) / 3) 0 99 (fun (r_11 : Int32) => wp_X7_paceOf p1 w_6 w_7 mCel (fun (r_12 : Int32) => Q ((upd (upd mNow 4 r_11) 5 r_12) 4) w_6 w_7 w_8 (upd (upd mNow 4 r_11) 5 r_12))))) ∧ (r_5 = 0 → Q (-1000000005) w_6 w_7 w_8 mNow)))) ∧ (¬ (0 ≤ (mSor p1.toNatClampNeg)) → Q (-1000000011) mFC mLC mCg mNow)))) ∧ (r_1 = 0 → Q (-1000000001) mFC mLC mCg mNow)))
set_option maxHeartbeats 4000000 in
set_option maxRecDepth 100000 in
theorem c_X7_hear (l : Launch) (E : gE) (mo mn mi ma ml mt mb mr mp mk mq mc mw mz ms mf mu mv mx mh mA mB mC mM mT : Nat) (sz : Nat) (mHI : Int32) (mFC : Int32) (mLC : Int32) (mCg : Int32) (mTp : Int32) (mNx : Int32) (mFr : Int32) (mTk : Int32) (mVa : Int32) (mEn : Int32) (mKe : Int32) (mCs : Int32) (mAt : Int32) (mHd : Int32) (mWg : Int32) (mNow : Nat → Int32) (mImg : Nat → Int32) (mAsd : Nat → Int32) (mLea : Nat → Int32) (mLat : Nat → Int32) (mBst : Nat → Int32) (mRsk : Nat → Int32) (mTap : Nat → Int32) (mKys : Nat → Int32) (mKat : Nat → Int32) (mCod : Nat → Int32) (mWts : Nat → Int32) (mTes : Nat → Int32) (mStk : Nat → Int32) (mFct : Nat → Int32) (mSor : Nat → Int32) (mSiz : Nat → Int32) (mCel : Nat → Int32) (mHol : Nat → Int32) (mHoA : Nat → Int32) (mHoB : Nat → Int32) (mHoC : Nat → Int32) (mMov : Nat → Int32) (mTel : Nat → Int32) (p1 : Int32)  (Q : Int32 → Int32 → Int32 → Int32 → (Nat → Int32) → Prop) (h : wp_X7_hear p1 mFC mLC mCg mNow mSor mSiz mCel Q) : Met l yX7_hear wsX7_hear ({ frames := 3, cells := 0, slots := 0, locals := 72 } : Room) (va_Pc [.ref mo, .int p1] (rc_B E (rw_24 E mo mn mi ma ml mt mb mr mp mk mq mc mw mz ms mf mu mv mx mh mA mB mC mM mT mHI mFC mLC mCg mTp mNx mFr mTk mVa mEn mKe mCs mAt mHd mWg mNow mImg mAsd mLea mLat mBst mRsk mTap mKys mKat mCod mWts mTes mStk mFct mSor mSiz mCel mHol mHoA mHoB mHoC mMov mTel) sz)) (va_Qi (S := Int32 × Int32 × Int32 × (Nat → Int32)) (fun (r : Int32) (u : Int32 × Int32 × Int32 × (Nat → Int32)) => Q r u.1 u.2.1 u.2.2.1 u.2.2.2) (fun u t => rc_C E (va_A (rw_24 E mo mn mi ma ml mt mb mr mp mk mq mc mw mz ms mf mu mv mx mh mA mB mC mM mT mHI mFC mLC mCg mTp mNx mFr mTk mVa mEn mKe mCs mAt mHd mWg mNow mImg mAsd mLea mLat mBst mRsk mTap mKys mKat mCod mWts mTes mStk mFct mSor mSiz mCel mHol mHoA mHoB mHoC mMov mTel) sz) (rw_24 E mo mn mi ma ml mt mb mr mp mk mq mc mw mz ms mf mu mv mx mh mA mB mC mM mT mHI u.1 u.2.1 u.2.2.1 mTp mNx mFr mTk mVa mEn mKe mCs mAt mHd mWg u.2.2.2 mImg mAsd mLea mLat mBst mRsk mTap mKys mKat mCod mWts mTes mStk mFct mSor mSiz mCel mHol mHoA mHoB mHoC mMov mTel) t) (va_A (rw_24 E mo mn mi ma ml mt mb mr mp mk mq mc mw mz ms mf mu mv mx mh mA mB mC mM mT mHI mFC mLC mCg mTp mNx mFr mTk mVa mEn mKe mCs mAt mHd mWg mNow mImg mAsd mLea mLat mBst mRsk mTap mKys mKat mCod mWts mTes mStk mFct mSor mSiz mCel mHol mHoA mHoB mHoC mMov mTel) sz)) 0 0 (va_A (rw_24 E mo mn mi ma ml mt mb mr mp mk mq mc mw mz ms mf mu mv mx mh mA mB mC mM mT mHI mFC mLC mCg mTp mNx mFr mTk mVa mEn mKe mCs mAt mHd mWg mNow mImg mAsd mLea mLat mBst mRsk mTap mKys mKat mCod mWts mTes mStk mFct mSor mSiz mCel mHol mHoA mHoB mHoC mMov mTel) sz) := by
  refine rc_enterI (cc := cX7_hear) (maxL := 2) (by decide) rfl (Nat.le_of_ble_eq_true rfl) ?_
  intro p e s m args below meth c QQ A hx hb hml hown hts hmn hE hP hD hA hret ls hl
  have hown : s.vm.findClass RX7 = some m.cls := hown
  have hK := hE.1
  have hS : va_S A s.heap s.heap [] := va_S.rf
  have hl : lv_has ls 2 [(0, .ref mo), (1, .int p1)] := hl
  have n_X7 : ∀ w ∈ wsX70, w ∈ wsX7_hear := fun _ h => List.mem_cons_of_mem _ (List.mem_append_right _ h)
  have k_57 := hts (.fieldLink RX7 57 "RidgeClapsModel" "sorts" "[I") (List.mem_of_getElem? (i := 2) rfl)
  have k_9 := hts (.fieldLink RX7 9 "RidgeClapsModel" "now" "[I") (List.mem_of_getElem? (i := 5) rfl)
  have k_63 := hts (.fieldLink RX7 63 "RidgeClapsModel" "cells" "[I") (List.mem_of_getElem? (i := 6) rfl)
  have k_168 := hts (.fieldLink RX7 168 "RidgeClapsModel" "lastClap" "I") (List.mem_of_getElem? (i := 7) rfl)
  have k_84 := hts (.constant RX7 84 (-1000000005)) (List.mem_of_getElem? (i := 4) rfl)
  have k_177 := hts (.constant RX7 177 (-1000000011)) (List.mem_of_getElem? (i := 3) rfl)
  have k_89 := hts (.constant RX7 89 (-1000000001)) (List.mem_of_getElem? (i := 1) rfl)
  unfold wp_X7_hear at h
  obtain ⟨H, hH⟩ : ∃ H, H = s.heap := ⟨_, rfl⟩
  obtain ⟨locs, hlocs⟩ : ∃ locs : List Loc, locs = [] := ⟨_, rfl⟩
  have hP : va_P E.1 vwCl (rw_24 E mo mn mi ma ml mt mb mr mp mk mq mc mw mz ms mf mu mv mx mh mA mB mC mM mT mHI mFC mLC mCg mTp mNx mFr mTk mVa mEn mKe mCs mAt mHd mWg mNow mImg mAsd mLea mLat mBst mRsk mTap mKys mKat mCod mWts mTes mStk mFct mSor mSiz mCel mHol mHoA mHoB mHoC mMov mTel) H := by rw [hH]; exact hP
  have hS : va_S A s.heap H locs := by rw [hH, hlocs]; exact hS
  suffices hgo : W p l e ({ frames := 3, cells := 0, slots := 0, locals := 72 } : Room) s m args below meth c H locs 0 0 QQ (F0 m 0 ls []) from by rw [hH, hlocs] at hgo; exact hgo
  refine lv_iload_n hx hb dX7_hear_0 rfl (lv_at hl 1 rfl) ?_
  have hPc := hP.sub (ws' := []) [] rfl
  have hDc := hD.sub (ws' := []) [] (by decide) rfl
  have hFc := va_free (wc := []) hD hS hA [] rfl
  refine va_calli (va_runS (As := [.int p1]) (rest := []) ⟨hx, hb, hml, hown, hts⟩ (c_X7_isSheet l E H.size p1 _ h) (va_cwS 1 hts gX7_hear_X7_isSheet rfl rfl rfl (by decide +kernel) ⟨Nat.le_of_ble_eq_true rfl, Nat.le_of_ble_eq_true rfl⟩) ⟨fun a U g mk q => ⟨q.1, q.2.blind⟩, fun U hU hW => ⟨rfl, by rw [hU], by rw [hU]; exact hPc, hE.call hS hFc hW hU, hDc.weaken (fun _ _ _ _ => trivial)⟩⟩ rfl rfl hl.1 rfl (lv_room (Nat.le_of_ble_eq_true rfl)) dX7_hear_1 ⟨Nat.zero_le _, Nat.zero_le _⟩) hS (fun q _ h => hFc q h) hFc (fun r_1 u t H1 locs ht hvm h hB hz1 hk1 hS => ?_)
  obtain ⟨hP1, hD1⟩ := hB
  rw [ht] at hP1
  obtain ⟨hP, hD⟩ := rc_foc hP hD [] [none, none, none, none, none, none, none, none, none, none, none, none, none, none, none, none, none, none, none, none, none, none, none, none, none] (by decide) rfl hk1 hP1 rfl
  generalize H1 = H at hP hS ⊢
  have hP : va_P E.1 vwCl (rw_24 E mo mn mi ma ml mt mb mr mp mk mq mc mw mz ms mf mu mv mx mh mA mB mC mM mT mHI mFC mLC mCg mTp mNx mFr mTk mVa mEn mKe mCs mAt mHd mWg mNow mImg mAsd mLea mLat mBst mRsk mTap mKys mKat mCod mWts mTes mStk mFct mSor mSiz mCel mHol mHoA mHoB mHoC mMov mTel) H := hP
  have hD : va_D A (rw_24 E mo mn mi ma ml mt mb mr mp mk mq mc mw mz ms mf mu mv mx mh mA mB mC mM mT mHI mFC mLC mCg mTp mNx mFr mTk mVa mEn mKe mCs mAt mHd mWg mNow mImg mAsd mLea mLat mBst mRsk mTap mKys mKat mCod mWts mTes mStk mFct mSor mSiz mCel mHol mHoA mHoB mHoC mMov mTel) := hD
  refine lv_if_ne (tgt := 10) hx hb dX7_hear_4 (by decide) (fun c_2 => ?_) (fun c_2 => ?_)
  · have h := h.1 c_2
    refine lv_aload_n hx hb dX7_hear_10 rfl (lv_at hl 0 rfl) ?_
    refine va_get (D := E.1) (ci := 7) (v := .ref mu) (C := RX7) (T := TX7) (N := 39) hx hb hts n_X7 hown hK hP 0 rfl rfl 29 (by decide) k_57 (fun _ h9 => h9) rfl dX7_hear_11 ?_
    refine lv_iload_n hx hb dX7_hear_14 rfl (lv_at hl 1 rfl) ?_
    obtain ⟨o_3, h⟩ := h
    refine rc_iald hx hb hK hP 16 0 rfl rfl p1.toNatClampNeg rfl o_3 dX7_hear_15 ?_
    refine lv_if_ge (tgt := 22) hx hb dX7_hear_16 (by decide) (fun c_4 => ?_) (fun c_4 => ?_)
    · have h := h.1 c_4
      refine lv_aload_n hx hb dX7_hear_22 rfl (lv_at hl 0 rfl) ?_
      refine lv_iload_n hx hb dX7_hear_23 rfl (lv_at hl 1 rfl) ?_
      have hPc := hP
      have hDc := hD
      have hFc := rc_freeI hD hS hA
      refine va_calli (va_runV (As := [.int p1]) (rest := []) ⟨hx, hb, hml, hown, hts⟩ (c_X7_findClaps l E mo mn mi ma ml mt mb mr mp mk mq mc mw mz ms mf mu mv mx mh mA mB mC mM mT H.size mHI mFC mLC mCg mTp mNx mFr mTk mVa mEn mKe mCs mAt mHd mWg mNow mImg mAsd mLea mLat mBst mRsk mTap mKys mKat mCod mWts mTes mStk mFct mSor mSiz mCel mHol mHoA mHoB mHoC mMov mTel p1 _ h) (cwV 1 hts gX7_hear_X7_findClaps rfl rfl rfl (by decide +kernel) ⟨Nat.le_of_ble_eq_true rfl, Nat.le_of_ble_eq_true rfl⟩) ⟨fun a U g mk q => ⟨q.1, q.2.blind⟩, va_recv hK hPc (ci := 7) (q0 := 0) rfl rfl, fun U hU hW => ⟨rfl, by rw [hU], by rw [hU]; exact hPc, hE.call hS hFc hW hU, hDc.weaken (fun _ _ _ _ => trivial)⟩⟩ rfl rfl hl.1 rfl (lv_room (Nat.le_of_ble_eq_true rfl)) dX7_hear_24 ⟨Nat.zero_le _, Nat.zero_le _⟩) hS (fun q _ h => hFc q h) hFc (fun r_5 u t H1 locs ht hvm h hB hz1 hk1 hS => ?_)
      obtain ⟨w_6, w_7, w_8⟩ := u
      obtain ⟨hP1, hD1⟩ := hB
      rw [ht] at hP1
      have hP := hP1
      have hD := hD1.weaken (fun _ _ _ h => hFc _ h)
      generalize H1 = H at hP hS ⊢
      have hP : va_P E.1 vwCl (rw_24 E mo mn mi ma ml mt mb mr mp mk mq mc mw mz ms mf mu mv mx mh mA mB mC mM mT mHI w_6 w_7 w_8 mTp mNx mFr mTk mVa mEn mKe mCs mAt mHd mWg mNow mImg mAsd mLea mLat mBst mRsk mTap mKys mKat mCod mWts mTes mStk mFct mSor mSiz mCel mHol mHoA mHoB mHoC mMov mTel) H := hP
      have hD : va_D A (rw_24 E mo mn mi ma ml mt mb mr mp mk mq mc mw mz ms mf mu mv mx mh mA mB mC mM mT mHI w_6 w_7 w_8 mTp mNx mFr mTk mVa mEn mKe mCs mAt mHd mWg mNow mImg mAsd mLea mLat mBst mRsk mTap mKys mKat mCod mWts mTes mStk mFct mSor mSiz mCel mHol mHoA mHoB mHoC mMov mTel) := hD
      refine lv_if_ne (tgt := 33) hx hb dX7_hear_27 (by decide) (fun c_9 => ?_) (fun c_9 => ?_)
      · have h := h.1 c_9
        refine lv_aload_n hx hb dX7_hear_33 rfl (lv_at hl 0 rfl) ?_
        refine va_get (D := E.1) (ci := 7) (v := .ref mn) (C := RX7) (T := TX7) (N := 39) hx hb hts n_X7 hown hK hP 0 rfl rfl 0 (by decide) k_9 (fun _ h9 => h9) rfl dX7_hear_34 ?_
        refine lv_iconst (v := 4) hx hb dX7_hear_37 (by decide) ?_
        refine lv_aload_n hx hb dX7_hear_38 rfl (lv_at hl 0 rfl) ?_
        refine va_get (D := E.1) (ci := 7) (v := .ref mx) (C := RX7) (T := TX7) (N := 39) hx hb hts n_X7 hown hK hP 0 rfl rfl 31 (by decide) k_63 (fun _ h9 => h9) rfl dX7_hear_39 ?_
        refine lv_bipush (v := 24) hx hb dX7_hear_42 (by decide) ?_
        refine lv_iload_n hx hb dX7_hear_44 rfl (lv_at hl 1 rfl) ?_
        refine lv_imul hx hb dX7_hear_45 ?_
        refine lv_aload_n hx hb dX7_hear_46 rfl (lv_at hl 0 rfl) ?_
        refine va_get (D := E.1) (ci := 7) (v := .int w_7) (C := RX7) (T := TX7) (N := 39) hx hb hts n_X7 hown hK hP 0 rfl rfl 9 (by decide) k_168 (fun _ h9 => h9) rfl dX7_hear_47 ?_
        refine lv_iadd hx hb dX7_hear_50 ?_
        obtain ⟨o_10, h⟩ := h
        refine rc_iald hx hb hK hP 18 0 rfl rfl (((24 * p1) + w_7).toNatClampNeg) rfl o_10 dX7_hear_51 ?_
        refine lv_iconst (v := 3) hx hb dX7_hear_52 (by decide) ?_
        refine lv_idiv hx hb dX7_hear_53 (by decide) ?_
        refine lv_iconst (v := 0) hx hb dX7_hear_54 (by decide) ?_
        refine lv_bipush (v := 99) hx hb dX7_hear_55 (by decide) ?_
        have hPc := hP.sub (ws' := []) [] rfl
        have hDc := hD.sub (ws' := []) [] (by decide) rfl
        have hFc := va_free (wc := []) hD hS hA [] rfl
        refine va_calli (va_runS (As := [.int ((mCel (((24 * p1) + w_7).toNatClampNeg)) / 3), .int 0, .int 99]) (rest := [.int 4, .ref mn]) ⟨hx, hb, hml, hown, hts⟩ (c_X7_within l E H.size ((mCel (((24 * p1) + w_7).toNatClampNeg)) / 3) 0 99 _ h) (va_cwS 3 hts gX7_hear_X7_within rfl rfl rfl (by decide +kernel) ⟨Nat.le_of_ble_eq_true rfl, Nat.le_of_ble_eq_true rfl⟩) ⟨fun a U g mk q => ⟨q.1, q.2.blind⟩, fun U hU hW => ⟨rfl, by rw [hU], by rw [hU]; exact hPc, hE.call hS hFc hW hU, hDc.weaken (fun _ _ _ _ => trivial)⟩⟩ rfl rfl hl.1 rfl (lv_room (Nat.le_of_ble_eq_true rfl)) dX7_hear_57 ⟨Nat.zero_le _, Nat.zero_le _⟩) hS (fun q _ h => hFc q h) hFc (fun r_11 u t H1 locs ht hvm h hB hz1 hk1 hS => ?_)
        obtain ⟨hP1, hD1⟩ := hB
        rw [ht] at hP1
        obtain ⟨hP, hD⟩ := rc_foc hP hD [] [none, none, none, none, none, none, none, none, none, none, none, none, none, none, none, none, none, none, none, none, none, none, none, none, none] (by decide) rfl hk1 hP1 rfl
        generalize H1 = H at hP hS ⊢
        have hP : va_P E.1 vwCl (rw_24 E mo mn mi ma ml mt mb mr mp mk mq mc mw mz ms mf mu mv mx mh mA mB mC mM mT mHI w_6 w_7 w_8 mTp mNx mFr mTk mVa mEn mKe mCs mAt mHd mWg mNow mImg mAsd mLea mLat mBst mRsk mTap mKys mKat mCod mWts mTes mStk mFct mSor mSiz mCel mHol mHoA mHoB mHoC mMov mTel) H := hP
        have hD : va_D A (rw_24 E mo mn mi ma ml mt mb mr mp mk mq mc mw mz ms mf mu mv mx mh mA mB mC mM mT mHI w_6 w_7 w_8 mTp mNx mFr mTk mVa mEn mKe mCs mAt mHd mWg mNow mImg mAsd mLea mLat mBst mRsk mTap mKys mKat mCod mWts mTes mStk mFct mSor mSiz mCel mHol mHoA mHoB mHoC mMov mTel) := hD
        refine rc_iast hx hb hK hP hD hS 1 0 rfl rfl 4 (by decide) (by unfold vp_in; decide) dX7_hear_60 (fun H locs hP hD hS => ?_)
        have hP : va_P E.1 vwCl (rw_24 E mo mn mi ma ml mt mb mr mp mk mq mc mw mz ms mf mu mv mx mh mA mB mC mM mT mHI w_6 w_7 w_8 mTp mNx mFr mTk mVa mEn mKe mCs mAt mHd mWg (upd mNow 4 r_11) mImg mAsd mLea mLat mBst mRsk mTap mKys mKat mCod mWts mTes mStk mFct mSor mSiz mCel mHol mHoA mHoB mHoC mMov mTel) H := hP
        have hD : va_D A (rw_24 E mo mn mi ma ml mt mb mr mp mk mq mc mw mz ms mf mu mv mx mh mA mB mC mM mT mHI w_6 w_7 w_8 mTp mNx mFr mTk mVa mEn mKe mCs mAt mHd mWg (upd mNow 4 r_11) mImg mAsd mLea mLat mBst mRsk mTap mKys mKat mCod mWts mTes mStk mFct mSor mSiz mCel mHol mHoA mHoB mHoC mMov mTel) := hD
        refine lv_aload_n hx hb dX7_hear_61 rfl (lv_at hl 0 rfl) ?_
        refine va_get (D := E.1) (ci := 7) (v := .ref mn) (C := RX7) (T := TX7) (N := 39) hx hb hts n_X7 hown hK hP 0 rfl rfl 0 (by decide) k_9 (fun _ h9 => h9) rfl dX7_hear_62 ?_
        refine lv_iconst (v := 5) hx hb dX7_hear_65 (by decide) ?_
        refine lv_aload_n hx hb dX7_hear_66 rfl (lv_at hl 0 rfl) ?_
        refine lv_iload_n hx hb dX7_hear_67 rfl (lv_at hl 1 rfl) ?_
        have hPc := hP
        have hDc := hD
        have hFc := rc_freeI hD hS hA
        refine va_calli (va_runV (As := [.int p1]) (rest := [.int 5, .ref mn]) ⟨hx, hb, hml, hown, hts⟩ (c_X7_paceOf l E mo mn mi ma ml mt mb mr mp mk mq mc mw mz ms mf mu mv mx mh mA mB mC mM mT H.size mHI w_6 w_7 w_8 mTp mNx mFr mTk mVa mEn mKe mCs mAt mHd mWg (upd mNow 4 r_11) mImg mAsd mLea mLat mBst mRsk mTap mKys mKat mCod mWts mTes mStk mFct mSor mSiz mCel mHol mHoA mHoB mHoC mMov mTel p1 _ h) (cwV 1 hts gX7_hear_X7_paceOf rfl rfl rfl (by decide +kernel) ⟨Nat.le_of_ble_eq_true rfl, Nat.le_of_ble_eq_true rfl⟩) ⟨fun a U g mk q => ⟨q.1, q.2.blind⟩, va_recv hK hPc (ci := 7) (q0 := 0) rfl rfl, fun U hU hW => ⟨rfl, by rw [hU], by rw [hU]; exact hPc, hE.call hS hFc hW hU, hDc.weaken (fun _ _ _ _ => trivial)⟩⟩ rfl rfl hl.1 rfl (lv_room (Nat.le_of_ble_eq_true rfl)) dX7_hear_68 ⟨Nat.zero_le _, Nat.zero_le _⟩) hS (fun q _ h => hFc q h) hFc (fun r_12 u t H1 locs ht hvm h hB hz1 hk1 hS => ?_)
        obtain ⟨hP1, hD1⟩ := hB
        rw [ht] at hP1
        have hP := hP1
        have hD := hD1.weaken (fun _ _ _ h => hFc _ h)
        generalize H1 = H at hP hS ⊢
        have hP : va_P E.1 vwCl (rw_24 E mo mn mi ma ml mt mb mr mp mk mq mc mw mz ms mf mu mv mx mh mA mB mC mM mT mHI w_6 w_7 w_8 mTp mNx mFr mTk mVa mEn mKe mCs mAt mHd mWg (upd mNow 4 r_11) mImg mAsd mLea mLat mBst mRsk mTap mKys mKat mCod mWts mTes mStk mFct mSor mSiz mCel mHol mHoA mHoB mHoC mMov mTel) H := hP
        have hD : va_D A (rw_24 E mo mn mi ma ml mt mb mr mp mk mq mc mw mz ms mf mu mv mx mh mA mB mC mM mT mHI w_6 w_7 w_8 mTp mNx mFr mTk mVa mEn mKe mCs mAt mHd mWg (upd mNow 4 r_11) mImg mAsd mLea mLat mBst mRsk mTap mKys mKat mCod mWts mTes mStk mFct mSor mSiz mCel mHol mHoA mHoB mHoC mMov mTel) := hD
        refine rc_iast hx hb hK hP hD hS 1 0 rfl rfl 5 (by decide) (by unfold vp_in; decide) dX7_hear_71 (fun H locs hP hD hS => ?_)
        have hP : va_P E.1 vwCl (rw_24 E mo mn mi ma ml mt mb mr mp mk mq mc mw mz ms mf mu mv mx mh mA mB mC mM mT mHI w_6 w_7 w_8 mTp mNx mFr mTk mVa mEn mKe mCs mAt mHd mWg (upd (upd mNow 4 r_11) 5 r_12) mImg mAsd mLea mLat mBst mRsk mTap mKys mKat mCod mWts mTes mStk mFct mSor mSiz mCel mHol mHoA mHoB mHoC mMov mTel) H := hP
        have hD : va_D A (rw_24 E mo mn mi ma ml mt mb mr mp mk mq mc mw mz ms mf mu mv mx mh mA mB mC mM mT mHI w_6 w_7 w_8 mTp mNx mFr mTk mVa mEn mKe mCs mAt mHd mWg (upd (upd mNow 4 r_11) 5 r_12) mImg mAsd mLea mLat mBst mRsk mTap mKys mKat mCod mWts mTes mStk mFct mSor mSiz mCel mHol mHoA mHoB mHoC mMov mTel) := hD
        refine lv_aload_n hx hb dX7_hear_72 rfl (lv_at hl 0 rfl) ?_
        refine va_get (D := E.1) (ci := 7) (v := .ref mn) (C := RX7) (T := TX7) (N := 39) hx hb hts n_X7 hown hK hP 0 rfl rfl 0 (by decide) k_9 (fun _ h9 => h9) rfl dX7_hear_73 ?_
        refine lv_iconst (v := 4) hx hb dX7_hear_76 (by decide) ?_
        refine rc_iald hx hb hK hP 1 0 rfl rfl 4 (by decide) (by unfold vp_in; decide) dX7_hear_77 ?_
        exact hret _ _ _ _ ((upd (upd mNow 4 r_11) 5 r_12) 4) (w_6, w_7, w_8, upd (upd mNow 4 r_11) 5 r_12) rfl h hP hD hS dX7_hear_78
      · have h := h.2 c_9
        refine lv_ldc hx hb hown k_84 dX7_hear_30 ?_
        exact hret _ _ _ _ (-1000000005) (w_6, w_7, w_8, mNow) rfl h hP hD hS dX7_hear_32
    · have h := h.2 c_4
      refine lv_ldc hx hb hown k_177 dX7_hear_19 ?_
      exact hret _ _ _ _ (-1000000011) (mFC, mLC, mCg, mNow) rfl h hP hD hS dX7_hear_21
  · have h := h.2 c_2
    refine lv_ldc hx hb hown k_89 dX7_hear_7 ?_
    exact hret _ _ _ _ (-1000000001) (mFC, mLC, mCg, mNow) rfl h hP hD hS dX7_hear_9
def jp_X7_feed_47  (K18 : Int32 → Int32 → (Nat → Int32) → Prop)  (x4 : Int32) (y0 : Int32) (mTp : Int32) (mTap : Nat → Int32) : Prop :=
  (vp_in (mTp + x4) 96 ∧ K18 (x4 + 1) mTp (upd mTap ((mTp + x4).toNatClampNeg) ((y0 >>> ((24 - (8 * (rc_rem x4 4))) &&& 31)) &&& 255)))
def lp_X7_feed_18F (p1 : Int32) (p2 : Int32) (p3 : Int32)  (Q : Int32 → Int32 → (Nat → Int32) → Prop) (R : Int32 → Int32 → (Nat → Int32) → Prop) (x4 : Int32) (mTp : Int32) (mTap : Nat → Int32) : Prop :=
  ((12 ≤ x4 → Q (mTp + 12) (mTp + 12) mTap) ∧ (¬ (12 ≤ x4) → ((4 ≤ x4 → ((8 ≤ x4 → jp_X7_feed_47 R x4 p3 mTp mTap) ∧ (¬ (8 ≤ x4) → jp_X7_feed_47 R x4 p2 mTp mTap))) ∧ (¬ (4 ≤ x4) → jp_X7_feed_47 R x4 p1 mTp mTap))))
def lp_X7_feed_18 (p1 : Int32) (p2 : Int32) (p3 : Int32)  (Q : Int32 → Int32 → (Nat → Int32) → Prop) (n : Nat) : Int32 → Int32 → (Nat → Int32) → Prop :=
  Nat.rec (motive := fun _ => Int32 → Int32 → (Nat → Int32) → Prop) (fun _ _ _ => False) (fun _ r => lp_X7_feed_18F p1 p2 p3 Q r) n
def wp_X7_feed (p1 : Int32) (p2 : Int32) (p3 : Int32) (mTp : Int32) (mTap : Nat → Int32) (Q : Int32 → Int32 → (Nat → Int32) → Prop) : Prop :=
  (((mTp + 12) ≤ 96 → (∃ n : Nat, lp_X7_feed_18 p1 p2 p3 Q n 0 mTp mTap)) ∧ (¬ ((mTp + 12) ≤ 96) → Q (-1000000003) mTp mTap))
set_option maxHeartbeats 4000000 in
set_option maxRecDepth 100000 in
theorem c_X7_feed (l : Launch) (E : gE) (mo mn mi ma ml mt mb mr mp mk mq mc mw mz ms mf mu mv mx mh mA mB mC mM mT : Nat) (sz : Nat) (mHI : Int32) (mFC : Int32) (mLC : Int32) (mCg : Int32) (mTp : Int32) (mNx : Int32) (mFr : Int32) (mTk : Int32) (mVa : Int32) (mEn : Int32) (mKe : Int32) (mCs : Int32) (mAt : Int32) (mHd : Int32) (mWg : Int32) (mNow : Nat → Int32) (mImg : Nat → Int32) (mAsd : Nat → Int32) (mLea : Nat → Int32) (mLat : Nat → Int32) (mBst : Nat → Int32) (mRsk : Nat → Int32) (mTap : Nat → Int32) (mKys : Nat → Int32) (mKat : Nat → Int32) (mCod : Nat → Int32) (mWts : Nat → Int32) (mTes : Nat → Int32) (mStk : Nat → Int32) (mFct : Nat → Int32) (mSor : Nat → Int32) (mSiz : Nat → Int32) (mCel : Nat → Int32) (mHol : Nat → Int32) (mHoA : Nat → Int32) (mHoB : Nat → Int32) (mHoC : Nat → Int32) (mMov : Nat → Int32) (mTel : Nat → Int32) (p1 p2 p3 : Int32)  (Q : Int32 → Int32 → (Nat → Int32) → Prop) (h : wp_X7_feed p1 p2 p3 mTp mTap Q) : Met l yX7_feed wsX7_feed ({ frames := 0, cells := 0, slots := 0, locals := 0 } : Room) (va_Pc [.ref mo, .int p1, .int p2, .int p3] (rc_B E (rw_24 E mo mn mi ma ml mt mb mr mp mk mq mc mw mz ms mf mu mv mx mh mA mB mC mM mT mHI mFC mLC mCg mTp mNx mFr mTk mVa mEn mKe mCs mAt mHd mWg mNow mImg mAsd mLea mLat mBst mRsk mTap mKys mKat mCod mWts mTes mStk mFct mSor mSiz mCel mHol mHoA mHoB mHoC mMov mTel) sz)) (va_Qi (S := Int32 × (Nat → Int32)) (fun (r : Int32) (u : Int32 × (Nat → Int32)) => Q r u.1 u.2) (fun u t => rc_C E (va_A (rw_24 E mo mn mi ma ml mt mb mr mp mk mq mc mw mz ms mf mu mv mx mh mA mB mC mM mT mHI mFC mLC mCg mTp mNx mFr mTk mVa mEn mKe mCs mAt mHd mWg mNow mImg mAsd mLea mLat mBst mRsk mTap mKys mKat mCod mWts mTes mStk mFct mSor mSiz mCel mHol mHoA mHoB mHoC mMov mTel) sz) (rw_24 E mo mn mi ma ml mt mb mr mp mk mq mc mw mz ms mf mu mv mx mh mA mB mC mM mT mHI mFC mLC mCg u.1 mNx mFr mTk mVa mEn mKe mCs mAt mHd mWg mNow mImg mAsd mLea mLat mBst mRsk u.2 mKys mKat mCod mWts mTes mStk mFct mSor mSiz mCel mHol mHoA mHoB mHoC mMov mTel) t) (va_A (rw_24 E mo mn mi ma ml mt mb mr mp mk mq mc mw mz ms mf mu mv mx mh mA mB mC mM mT mHI mFC mLC mCg mTp mNx mFr mTk mVa mEn mKe mCs mAt mHd mWg mNow mImg mAsd mLea mLat mBst mRsk mTap mKys mKat mCod mWts mTes mStk mFct mSor mSiz mCel mHol mHoA mHoB mHoC mMov mTel) sz)) 0 0 (va_A (rw_24 E mo mn mi ma ml mt mb mr mp mk mq mc mw mz ms mf mu mv mx mh mA mB mC mM mT mHI mFC mLC mCg mTp mNx mFr mTk mVa mEn mKe mCs mAt mHd mWg mNow mImg mAsd mLea mLat mBst mRsk mTap mKys mKat mCod mWts mTes mStk mFct mSor mSiz mCel mHol mHoA mHoB mHoC mMov mTel) sz) := by
  refine rc_enterI (cc := cX7_feed) (maxL := 6) (by decide) rfl (Nat.le_of_ble_eq_true rfl) ?_
  intro p e s m args below meth c QQ A hx hb hml hown hts hmn hE hP hD hA hret ls hl
  have hown : s.vm.findClass RX7 = some m.cls := hown
  have hK := hE.1
  have hS : va_S A s.heap s.heap [] := va_S.rf
  have hl : lv_has ls 6 [(0, .ref mo), (1, .int p1), (2, .int p2), (3, .int p3)] := hl
  have n_X7 : ∀ w ∈ wsX70, w ∈ wsX7_feed := fun _ h => List.mem_cons_of_mem _ (List.mem_append_right _ h)
  have k_31 := hts (.fieldLink RX7 31 "RidgeClapsModel" "tape" "[I") (List.mem_of_getElem? (i := 3) rfl)
  have k_184 := hts (.fieldLink RX7 184 "RidgeClapsModel" "taped" "I") (List.mem_of_getElem? (i := 1) rfl)
  have k_90 := hts (.constant RX7 90 (-1000000003)) (List.mem_of_getElem? (i := 2) rfl)
  have J47 : ∀ (K18 : Int32 → Int32 → (Nat → Int32) → Prop), (∀ (x4 : Int32) (mTp : Int32) (mTap : Nat → Int32), K18 x4 mTp mTap → ∀ (H : Heap) (locs : List Loc), va_P E.1 vwCl (rw_24 E mo mn mi ma ml mt mb mr mp mk mq mc mw mz ms mf mu mv mx mh mA mB mC mM mT mHI mFC mLC mCg mTp mNx mFr mTk mVa mEn mKe mCs mAt mHd mWg mNow mImg mAsd mLea mLat mBst mRsk mTap mKys mKat mCod mWts mTes mStk mFct mSor mSiz mCel mHol mHoA mHoB mHoC mMov mTel) H → va_D A (rw_24 E mo mn mi ma ml mt mb mr mp mk mq mc mw mz ms mf mu mv mx mh mA mB mC mM mT mHI mFC mLC mCg mTp mNx mFr mTk mVa mEn mKe mCs mAt mHd mWg mNow mImg mAsd mLea mLat mBst mRsk mTap mKys mKat mCod mWts mTes mStk mFct mSor mSiz mCel mHol mHoA mHoB mHoC mMov mTel) → va_S A s.heap H locs → ∀ ls : Array Slot, lv_has ls 6 [(0, .ref mo), (1, .int p1), (2, .int p2), (3, .int p3), (4, .int x4)] → W p l e ({ frames := 0, cells := 0, slots := 0, locals := 0 } : Room) s m args below meth c H locs 0 0 QQ (F0 m 18 ls [])) → ∀ (x4 : Int32) (y0 : Int32) (mTp : Int32) (mTap : Nat → Int32), jp_X7_feed_47 K18 x4 y0 mTp mTap → ∀ (H : Heap) (locs : List Loc), va_P E.1 vwCl (rw_24 E mo mn mi ma ml mt mb mr mp mk mq mc mw mz ms mf mu mv mx mh mA mB mC mM mT mHI mFC mLC mCg mTp mNx mFr mTk mVa mEn mKe mCs mAt mHd mWg mNow mImg mAsd mLea mLat mBst mRsk mTap mKys mKat mCod mWts mTes mStk mFct mSor mSiz mCel mHol mHoA mHoB mHoC mMov mTel) H → va_D A (rw_24 E mo mn mi ma ml mt mb mr mp mk mq mc mw mz ms mf mu mv mx mh mA mB mC mM mT mHI mFC mLC mCg mTp mNx mFr mTk mVa mEn mKe mCs mAt mHd mWg mNow mImg mAsd mLea mLat mBst mRsk mTap mKys mKat mCod mWts mTes mStk mFct mSor mSiz mCel mHol mHoA mHoB mHoC mMov mTel) → va_S A s.heap H locs → ∀ ls : Array Slot, lv_has ls 6 [(0, .ref mo), (1, .int p1), (2, .int p2), (3, .int p3), (4, .int x4)] → W p l e ({ frames := 0, cells := 0, slots := 0, locals := 0 } : Room) s m args below meth c H locs 0 0 QQ (F0 m 47 ls [.int y0]) := by
    intro K18 hK18
    intro x4 y0 mTp mTap h H locs hP hD hS ls hl
    unfold jp_X7_feed_47 at h
    refine lv_istore (lv' := [(5, .int y0), (0, .ref mo), (1, .int p1), (2, .int p2), (3, .int p3), (4, .int x4)]) hx hb dX7_feed_47 hl (by decide) rfl (fun ls hl => ?_)
    refine lv_aload_n hx hb dX7_feed_49 rfl (lv_at hl 1 rfl) ?_
    refine va_get (D := E.1) (ci := 7) (v := .ref mp) (C := RX7) (T := TX7) (N := 39) hx hb hts n_X7 hown hK hP 0 rfl rfl 11 (by decide) k_31 (fun _ h9 => h9) rfl dX7_feed_50 ?_
    refine lv_aload_n hx hb dX7_feed_53 rfl (lv_at hl 1 rfl) ?_
    refine va_get (D := E.1) (ci := 7) (v := .int mTp) (C := RX7) (T := TX7) (N := 39) hx hb hts n_X7 hown hK hP 0 rfl rfl 12 (by decide) k_184 (fun _ h9 => h9) rfl dX7_feed_54 ?_
    refine lv_iload hx hb dX7_feed_57 (lv_at hl 5 rfl) ?_
    refine lv_iadd hx hb dX7_feed_59 ?_
    refine lv_iload hx hb dX7_feed_60 (lv_at hl 0 rfl) ?_
    refine lv_bipush (v := 24) hx hb dX7_feed_62 (by decide) ?_
    refine lv_bipush (v := 8) hx hb dX7_feed_64 (by decide) ?_
    refine lv_iload hx hb dX7_feed_66 (lv_at hl 5 rfl) ?_
    refine lv_iconst (v := 4) hx hb dX7_feed_68 (by decide) ?_
    refine lv_irem hx hb dX7_feed_69 (by decide) ?_
    refine W.eq (g2 := F0 m 70 ls [.int (rc_rem x4 4), .int 8, .int 24, .int y0, .int (mTp + x4), .ref mp]) rfl ?_
    refine lv_imul hx hb dX7_feed_70 ?_
    refine lv_isub hx hb dX7_feed_71 ?_
    refine lv_ishr hx hb dX7_feed_72 ?_
    refine lv_sipush (v := 255) hx hb dX7_feed_73 (by decide) ?_
    refine lv_iand hx hb dX7_feed_76 ?_
    obtain ⟨o_1, h⟩ := h
    refine rc_iast hx hb hK hP hD hS 8 0 rfl rfl ((mTp + x4).toNatClampNeg) rfl o_1 dX7_feed_77 (fun H locs hP hD hS => ?_)
    have hP : va_P E.1 vwCl (rw_24 E mo mn mi ma ml mt mb mr mp mk mq mc mw mz ms mf mu mv mx mh mA mB mC mM mT mHI mFC mLC mCg mTp mNx mFr mTk mVa mEn mKe mCs mAt mHd mWg mNow mImg mAsd mLea mLat mBst mRsk (upd mTap ((mTp + x4).toNatClampNeg) ((y0 >>> ((24 - (8 * (rc_rem x4 4))) &&& 31)) &&& 255)) mKys mKat mCod mWts mTes mStk mFct mSor mSiz mCel mHol mHoA mHoB mHoC mMov mTel) H := hP
    have hD : va_D A (rw_24 E mo mn mi ma ml mt mb mr mp mk mq mc mw mz ms mf mu mv mx mh mA mB mC mM mT mHI mFC mLC mCg mTp mNx mFr mTk mVa mEn mKe mCs mAt mHd mWg mNow mImg mAsd mLea mLat mBst mRsk (upd mTap ((mTp + x4).toNatClampNeg) ((y0 >>> ((24 - (8 * (rc_rem x4 4))) &&& 31)) &&& 255)) mKys mKat mCod mWts mTes mStk mFct mSor mSiz mCel mHol mHoA mHoB mHoC mMov mTel) := hD
    refine lv_iinc (v := x4 + 1) (lv' := [(4, .int (x4 + 1)), (5, .int y0), (0, .ref mo), (1, .int p1), (2, .int p2), (3, .int p3)]) hx hb dX7_feed_78 hl (k := 5) rfl (by rfl) (by decide) rfl (fun ls hl => ?_)
    refine lv_goto (tgt := 18) hx hb dX7_feed_81 (by decide) ?_
    exact hK18 (x4 + 1) mTp (upd mTap ((mTp + x4).toNatClampNeg) ((y0 >>> ((24 - (8 * (rc_rem x4 4))) &&& 31)) &&& 255)) h _ _ hP hD hS ls (lv_sub hl [2, 3, 4, 5, 0] rfl)
  have J18 : ∀ (n : Nat) (x4 : Int32) (mTp : Int32) (mTap : Nat → Int32), lp_X7_feed_18 p1 p2 p3 Q n x4 mTp mTap → ∀ (H : Heap) (locs : List Loc), va_P E.1 vwCl (rw_24 E mo mn mi ma ml mt mb mr mp mk mq mc mw mz ms mf mu mv mx mh mA mB mC mM mT mHI mFC mLC mCg mTp mNx mFr mTk mVa mEn mKe mCs mAt mHd mWg mNow mImg mAsd mLea mLat mBst mRsk mTap mKys mKat mCod mWts mTes mStk mFct mSor mSiz mCel mHol mHoA mHoB mHoC mMov mTel) H → va_D A (rw_24 E mo mn mi ma ml mt mb mr mp mk mq mc mw mz ms mf mu mv mx mh mA mB mC mM mT mHI mFC mLC mCg mTp mNx mFr mTk mVa mEn mKe mCs mAt mHd mWg mNow mImg mAsd mLea mLat mBst mRsk mTap mKys mKat mCod mWts mTes mStk mFct mSor mSiz mCel mHol mHoA mHoB mHoC mMov mTel) → va_S A s.heap H locs → ∀ ls : Array Slot, lv_has ls 6 [(0, .ref mo), (1, .int p1), (2, .int p2), (3, .int p3), (4, .int x4)] → W p l e ({ frames := 0, cells := 0, slots := 0, locals := 0 } : Room) s m args below meth c H locs 0 0 QQ (F0 m 18 ls []) := by
    intro n
    induction n with
    | zero =>
      intro x4 mTp mTap h
      exact False.elim h
    | succ n ih =>
      intro x4 mTp mTap h H locs hP hD hS ls hl
      have h : lp_X7_feed_18F p1 p2 p3 Q (lp_X7_feed_18 p1 p2 p3 Q n) x4 mTp mTap := h
      unfold lp_X7_feed_18F at h
      refine lv_iload hx hb dX7_feed_18 (lv_at hl 4 rfl) ?_
      refine lv_bipush (v := 12) hx hb dX7_feed_20 (by decide) ?_
      refine lv_icmp_ge (tgt := 84) hx hb dX7_feed_22 (by decide) (fun c_2 => ?_) (fun c_2 => ?_)
      · have h := h.1 c_2
        refine lv_aload_n hx hb dX7_feed_84 rfl (lv_at hl 0 rfl) ?_
        refine lv_dup hx hb dX7_feed_85 rfl ?_
        refine va_get (D := E.1) (ci := 7) (v := .int mTp) (C := RX7) (T := TX7) (N := 39) hx hb hts n_X7 hown hK hP 0 rfl rfl 12 (by decide) k_184 (fun _ h9 => h9) rfl dX7_feed_86 ?_
        refine lv_bipush (v := 12) hx hb dX7_feed_89 (by decide) ?_
        refine lv_iadd hx hb dX7_feed_91 ?_
        refine va_put (D := E.1) (ci := 7) (v := .int (mTp + 12)) (ty := .int) (C := RX7) (T := TX7) (N := 39) hx hb hts n_X7 tyX7 tyX7_ok nmX7 hown hK hP hD hS 0 rfl rfl 12 (by decide) k_184 (fun _ h9 => h9) rfl (by decide +kernel) rfl rfl (Nat.le_of_ble_eq_true rfl) dX7_feed_92 (fun H locs hP hD hS => ?_)
        have hP : va_P E.1 vwCl (rw_24 E mo mn mi ma ml mt mb mr mp mk mq mc mw mz ms mf mu mv mx mh mA mB mC mM mT mHI mFC mLC mCg (mTp + 12) mNx mFr mTk mVa mEn mKe mCs mAt mHd mWg mNow mImg mAsd mLea mLat mBst mRsk mTap mKys mKat mCod mWts mTes mStk mFct mSor mSiz mCel mHol mHoA mHoB mHoC mMov mTel) H := hP
        have hD : va_D A (rw_24 E mo mn mi ma ml mt mb mr mp mk mq mc mw mz ms mf mu mv mx mh mA mB mC mM mT mHI mFC mLC mCg (mTp + 12) mNx mFr mTk mVa mEn mKe mCs mAt mHd mWg mNow mImg mAsd mLea mLat mBst mRsk mTap mKys mKat mCod mWts mTes mStk mFct mSor mSiz mCel mHol mHoA mHoB mHoC mMov mTel) := hD
        refine lv_aload_n hx hb dX7_feed_95 rfl (lv_at hl 0 rfl) ?_
        refine va_get (D := E.1) (ci := 7) (v := .int (mTp + 12)) (C := RX7) (T := TX7) (N := 39) hx hb hts n_X7 hown hK hP 0 rfl rfl 12 (by decide) k_184 (fun _ h9 => h9) rfl dX7_feed_96 ?_
        exact hret _ _ _ _ (mTp + 12) (mTp + 12, mTap) rfl h hP hD hS dX7_feed_99
      · have h := h.2 c_2
        refine lv_iload hx hb dX7_feed_25 (lv_at hl 4 rfl) ?_
        refine lv_iconst (v := 4) hx hb dX7_feed_27 (by decide) ?_
        refine lv_icmp_ge (tgt := 35) hx hb dX7_feed_28 (by decide) (fun c_3 => ?_) (fun c_3 => ?_)
        · have h := h.1 c_3
          refine lv_iload hx hb dX7_feed_35 (lv_at hl 4 rfl) ?_
          refine lv_bipush (v := 8) hx hb dX7_feed_37 (by decide) ?_
          refine lv_icmp_ge (tgt := 46) hx hb dX7_feed_39 (by decide) (fun c_4 => ?_) (fun c_4 => ?_)
          · have h := h.1 c_4
            refine lv_iload_n hx hb dX7_feed_46 rfl (lv_at hl 3 rfl) ?_
            exact J47 _ (fun v0 v1 v2 h => ih v0 v1 v2 h) x4 p3 mTp mTap h _ _ hP hD hS ls (lv_sub hl [0, 1, 2, 3, 4] rfl)
          · have h := h.2 c_4
            refine lv_iload_n hx hb dX7_feed_42 rfl (lv_at hl 2 rfl) ?_
            refine lv_goto (tgt := 47) hx hb dX7_feed_43 (by decide) ?_
            exact J47 _ (fun v0 v1 v2 h => ih v0 v1 v2 h) x4 p2 mTp mTap h _ _ hP hD hS ls (lv_sub hl [0, 1, 2, 3, 4] rfl)
        · have h := h.2 c_3
          refine lv_iload_n hx hb dX7_feed_31 rfl (lv_at hl 1 rfl) ?_
          refine lv_goto (tgt := 47) hx hb dX7_feed_32 (by decide) ?_
          exact J47 _ (fun v0 v1 v2 h => ih v0 v1 v2 h) x4 p1 mTp mTap h _ _ hP hD hS ls (lv_sub hl [0, 1, 2, 3, 4] rfl)
  unfold wp_X7_feed at h
  obtain ⟨H, hH⟩ : ∃ H, H = s.heap := ⟨_, rfl⟩
  obtain ⟨locs, hlocs⟩ : ∃ locs : List Loc, locs = [] := ⟨_, rfl⟩
  have hP : va_P E.1 vwCl (rw_24 E mo mn mi ma ml mt mb mr mp mk mq mc mw mz ms mf mu mv mx mh mA mB mC mM mT mHI mFC mLC mCg mTp mNx mFr mTk mVa mEn mKe mCs mAt mHd mWg mNow mImg mAsd mLea mLat mBst mRsk mTap mKys mKat mCod mWts mTes mStk mFct mSor mSiz mCel mHol mHoA mHoB mHoC mMov mTel) H := by rw [hH]; exact hP
  have hS : va_S A s.heap H locs := by rw [hH, hlocs]; exact hS
  suffices hgo : W p l e ({ frames := 0, cells := 0, slots := 0, locals := 0 } : Room) s m args below meth c H locs 0 0 QQ (F0 m 0 ls []) from by rw [hH, hlocs] at hgo; exact hgo
  refine lv_aload_n hx hb dX7_feed_0 rfl (lv_at hl 0 rfl) ?_
  refine va_get (D := E.1) (ci := 7) (v := .int mTp) (C := RX7) (T := TX7) (N := 39) hx hb hts n_X7 hown hK hP 0 rfl rfl 12 (by decide) k_184 (fun _ h9 => h9) rfl dX7_feed_1 ?_
  refine lv_bipush (v := 12) hx hb dX7_feed_4 (by decide) ?_
  refine lv_iadd hx hb dX7_feed_6 ?_
  refine lv_bipush (v := 96) hx hb dX7_feed_7 (by decide) ?_
  refine lv_icmp_le (tgt := 15) hx hb dX7_feed_9 (by decide) (fun c_5 => ?_) (fun c_5 => ?_)
  · have h := h.1 c_5
    refine lv_iconst (v := 0) hx hb dX7_feed_15 (by decide) ?_
    refine lv_istore (lv' := [(4, .int 0), (0, .ref mo), (1, .int p1), (2, .int p2), (3, .int p3)]) hx hb dX7_feed_16 hl (by decide) rfl (fun ls hl => ?_)
    obtain ⟨n, h⟩ := h
    exact J18 n 0 mTp mTap h _ _ hP hD hS ls (lv_sub hl [1, 2, 3, 4, 0] rfl)
  · have h := h.2 c_5
    refine lv_ldc hx hb hown k_90 dX7_feed_12 ?_
    exact hret _ _ _ _ (-1000000003) (mTp, mTap) rfl h hP hD hS dX7_feed_14
def wp_X7_trim (p1 : Int32) (mTp : Int32) (Q : Int32 → Int32 → Prop) : Prop :=
  wp_X7_in p1 0 mTp (fun (r_1 : Int32) => ((¬ r_1 = 0 → Q p1 p1) ∧ (r_1 = 0 → Q (-1000000001) mTp)))
set_option maxHeartbeats 4000000 in
set_option maxRecDepth 100000 in
theorem c_X7_trim (l : Launch) (E : gE) (mo mn mi ma ml mt mb mr mp mk mq mc mw mz ms mf mu mv mx mh mA mB mC mM mT : Nat) (sz : Nat) (mHI : Int32) (mFC : Int32) (mLC : Int32) (mCg : Int32) (mTp : Int32) (mNx : Int32) (mFr : Int32) (mTk : Int32) (mVa : Int32) (mEn : Int32) (mKe : Int32) (mCs : Int32) (mAt : Int32) (mHd : Int32) (mWg : Int32) (mNow : Nat → Int32) (mImg : Nat → Int32) (mAsd : Nat → Int32) (mLea : Nat → Int32) (mLat : Nat → Int32) (mBst : Nat → Int32) (mRsk : Nat → Int32) (mTap : Nat → Int32) (mKys : Nat → Int32) (mKat : Nat → Int32) (mCod : Nat → Int32) (mWts : Nat → Int32) (mTes : Nat → Int32) (mStk : Nat → Int32) (mFct : Nat → Int32) (mSor : Nat → Int32) (mSiz : Nat → Int32) (mCel : Nat → Int32) (mHol : Nat → Int32) (mHoA : Nat → Int32) (mHoB : Nat → Int32) (mHoC : Nat → Int32) (mMov : Nat → Int32) (mTel : Nat → Int32) (p1 : Int32)  (Q : Int32 → Int32 → Prop) (h : wp_X7_trim p1 mTp Q) : Met l yX7_trim wsX7_trim ({ frames := 1, cells := 0, slots := 0, locals := 22 } : Room) (va_Pc [.ref mo, .int p1] (rc_B E (rw_24 E mo mn mi ma ml mt mb mr mp mk mq mc mw mz ms mf mu mv mx mh mA mB mC mM mT mHI mFC mLC mCg mTp mNx mFr mTk mVa mEn mKe mCs mAt mHd mWg mNow mImg mAsd mLea mLat mBst mRsk mTap mKys mKat mCod mWts mTes mStk mFct mSor mSiz mCel mHol mHoA mHoB mHoC mMov mTel) sz)) (va_Qi (S := Int32) (fun (r : Int32) (u : Int32) => Q r u) (fun u t => rc_C E (va_A (rw_24 E mo mn mi ma ml mt mb mr mp mk mq mc mw mz ms mf mu mv mx mh mA mB mC mM mT mHI mFC mLC mCg mTp mNx mFr mTk mVa mEn mKe mCs mAt mHd mWg mNow mImg mAsd mLea mLat mBst mRsk mTap mKys mKat mCod mWts mTes mStk mFct mSor mSiz mCel mHol mHoA mHoB mHoC mMov mTel) sz) (rw_24 E mo mn mi ma ml mt mb mr mp mk mq mc mw mz ms mf mu mv mx mh mA mB mC mM mT mHI mFC mLC mCg u mNx mFr mTk mVa mEn mKe mCs mAt mHd mWg mNow mImg mAsd mLea mLat mBst mRsk mTap mKys mKat mCod mWts mTes mStk mFct mSor mSiz mCel mHol mHoA mHoB mHoC mMov mTel) t) (va_A (rw_24 E mo mn mi ma ml mt mb mr mp mk mq mc mw mz ms mf mu mv mx mh mA mB mC mM mT mHI mFC mLC mCg mTp mNx mFr mTk mVa mEn mKe mCs mAt mHd mWg mNow mImg mAsd mLea mLat mBst mRsk mTap mKys mKat mCod mWts mTes mStk mFct mSor mSiz mCel mHol mHoA mHoB mHoC mMov mTel) sz)) 0 0 (va_A (rw_24 E mo mn mi ma ml mt mb mr mp mk mq mc mw mz ms mf mu mv mx mh mA mB mC mM mT mHI mFC mLC mCg mTp mNx mFr mTk mVa mEn mKe mCs mAt mHd mWg mNow mImg mAsd mLea mLat mBst mRsk mTap mKys mKat mCod mWts mTes mStk mFct mSor mSiz mCel mHol mHoA mHoB mHoC mMov mTel) sz) := by
  refine rc_enterI (cc := cX7_trim) (maxL := 2) (by decide) rfl (Nat.le_of_ble_eq_true rfl) ?_
  intro p e s m args below meth c QQ A hx hb hml hown hts hmn hE hP hD hA hret ls hl
  have hown : s.vm.findClass RX7 = some m.cls := hown
  have hK := hE.1
  have hS : va_S A s.heap s.heap [] := va_S.rf
  have hl : lv_has ls 2 [(0, .ref mo), (1, .int p1)] := hl
  have n_X7 : ∀ w ∈ wsX70, w ∈ wsX7_trim := fun _ h => List.mem_cons_of_mem _ (List.mem_append_right _ h)
  have k_184 := hts (.fieldLink RX7 184 "RidgeClapsModel" "taped" "I") (List.mem_of_getElem? (i := 1) rfl)
  have k_89 := hts (.constant RX7 89 (-1000000001)) (List.mem_of_getElem? (i := 2) rfl)
  unfold wp_X7_trim at h
  obtain ⟨H, hH⟩ : ∃ H, H = s.heap := ⟨_, rfl⟩
  obtain ⟨locs, hlocs⟩ : ∃ locs : List Loc, locs = [] := ⟨_, rfl⟩
  have hP : va_P E.1 vwCl (rw_24 E mo mn mi ma ml mt mb mr mp mk mq mc mw mz ms mf mu mv mx mh mA mB mC mM mT mHI mFC mLC mCg mTp mNx mFr mTk mVa mEn mKe mCs mAt mHd mWg mNow mImg mAsd mLea mLat mBst mRsk mTap mKys mKat mCod mWts mTes mStk mFct mSor mSiz mCel mHol mHoA mHoB mHoC mMov mTel) H := by rw [hH]; exact hP
  have hS : va_S A s.heap H locs := by rw [hH, hlocs]; exact hS
  suffices hgo : W p l e ({ frames := 1, cells := 0, slots := 0, locals := 22 } : Room) s m args below meth c H locs 0 0 QQ (F0 m 0 ls []) from by rw [hH, hlocs] at hgo; exact hgo
  refine lv_iload_n hx hb dX7_trim_0 rfl (lv_at hl 1 rfl) ?_
  refine lv_iconst (v := 0) hx hb dX7_trim_1 (by decide) ?_
  refine lv_aload_n hx hb dX7_trim_2 rfl (lv_at hl 0 rfl) ?_
  refine va_get (D := E.1) (ci := 7) (v := .int mTp) (C := RX7) (T := TX7) (N := 39) hx hb hts n_X7 hown hK hP 0 rfl rfl 12 (by decide) k_184 (fun _ h9 => h9) rfl dX7_trim_3 ?_
  have hPc := hP.sub (ws' := []) [] rfl
  have hDc := hD.sub (ws' := []) [] (by decide) rfl
  have hFc := va_free (wc := []) hD hS hA [] rfl
  refine va_calli (va_runS (As := [.int p1, .int 0, .int mTp]) (rest := []) ⟨hx, hb, hml, hown, hts⟩ (c_X7_in l E H.size p1 0 mTp _ h) (va_cwS 3 hts gX7_trim_X7_in rfl rfl rfl (by decide +kernel) ⟨Nat.le_of_ble_eq_true rfl, Nat.le_of_ble_eq_true rfl⟩) ⟨fun a U g mk q => ⟨q.1, q.2.blind⟩, fun U hU hW => ⟨rfl, by rw [hU], by rw [hU]; exact hPc, hE.call hS hFc hW hU, hDc.weaken (fun _ _ _ _ => trivial)⟩⟩ rfl rfl hl.1 rfl (lv_room (Nat.le_of_ble_eq_true rfl)) dX7_trim_6 ⟨Nat.zero_le _, Nat.zero_le _⟩) hS (fun q _ h => hFc q h) hFc (fun r_1 u t H1 locs ht hvm h hB hz1 hk1 hS => ?_)
  obtain ⟨hP1, hD1⟩ := hB
  rw [ht] at hP1
  obtain ⟨hP, hD⟩ := rc_foc hP hD [] [none, none, none, none, none, none, none, none, none, none, none, none, none, none, none, none, none, none, none, none, none, none, none, none, none] (by decide) rfl hk1 hP1 rfl
  generalize H1 = H at hP hS ⊢
  have hP : va_P E.1 vwCl (rw_24 E mo mn mi ma ml mt mb mr mp mk mq mc mw mz ms mf mu mv mx mh mA mB mC mM mT mHI mFC mLC mCg mTp mNx mFr mTk mVa mEn mKe mCs mAt mHd mWg mNow mImg mAsd mLea mLat mBst mRsk mTap mKys mKat mCod mWts mTes mStk mFct mSor mSiz mCel mHol mHoA mHoB mHoC mMov mTel) H := hP
  have hD : va_D A (rw_24 E mo mn mi ma ml mt mb mr mp mk mq mc mw mz ms mf mu mv mx mh mA mB mC mM mT mHI mFC mLC mCg mTp mNx mFr mTk mVa mEn mKe mCs mAt mHd mWg mNow mImg mAsd mLea mLat mBst mRsk mTap mKys mKat mCod mWts mTes mStk mFct mSor mSiz mCel mHol mHoA mHoB mHoC mMov mTel) := hD
  refine lv_if_ne (tgt := 15) hx hb dX7_trim_9 (by decide) (fun c_2 => ?_) (fun c_2 => ?_)
  · have h := h.1 c_2
    refine lv_aload_n hx hb dX7_trim_15 rfl (lv_at hl 0 rfl) ?_
    refine lv_iload_n hx hb dX7_trim_16 rfl (lv_at hl 1 rfl) ?_
    refine va_put (D := E.1) (ci := 7) (v := .int p1) (ty := .int) (C := RX7) (T := TX7) (N := 39) hx hb hts n_X7 tyX7 tyX7_ok nmX7 hown hK hP hD hS 0 rfl rfl 12 (by decide) k_184 (fun _ h9 => h9) rfl (by decide +kernel) rfl rfl (Nat.le_of_ble_eq_true rfl) dX7_trim_17 (fun H locs hP hD hS => ?_)
    have hP : va_P E.1 vwCl (rw_24 E mo mn mi ma ml mt mb mr mp mk mq mc mw mz ms mf mu mv mx mh mA mB mC mM mT mHI mFC mLC mCg p1 mNx mFr mTk mVa mEn mKe mCs mAt mHd mWg mNow mImg mAsd mLea mLat mBst mRsk mTap mKys mKat mCod mWts mTes mStk mFct mSor mSiz mCel mHol mHoA mHoB mHoC mMov mTel) H := hP
    have hD : va_D A (rw_24 E mo mn mi ma ml mt mb mr mp mk mq mc mw mz ms mf mu mv mx mh mA mB mC mM mT mHI mFC mLC mCg p1 mNx mFr mTk mVa mEn mKe mCs mAt mHd mWg mNow mImg mAsd mLea mLat mBst mRsk mTap mKys mKat mCod mWts mTes mStk mFct mSor mSiz mCel mHol mHoA mHoB mHoC mMov mTel) := hD
    refine lv_iload_n hx hb dX7_trim_20 rfl (lv_at hl 1 rfl) ?_
    exact hret _ _ _ _ p1 (p1) rfl h hP hD hS dX7_trim_21
  · have h := h.2 c_2
    refine lv_ldc hx hb hown k_89 dX7_trim_12 ?_
    exact hret _ _ _ _ (-1000000001) (mTp) rfl h hP hD hS dX7_trim_14
