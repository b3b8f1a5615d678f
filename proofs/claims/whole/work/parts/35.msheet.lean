def lp_X7_sheet_65F (p1 : Int32)  (Q : Int32 → (Nat → Int32) → (Nat → Int32) → (Nat → Int32) → Prop) (R : Int32 → (Nat → Int32) → (Nat → Int32) → (Nat → Int32) → Prop) (x4 : Int32) (mSor : Nat → Int32) (mSiz : Nat → Int32) (mCel : Nat → Int32) : Prop :=
  ((24 ≤ x4 → (vp_in p1 4 ∧ Q (mSiz p1.toNatClampNeg) mSor mSiz mCel)) ∧ (¬ (24 ≤ x4) → (vp_in ((24 * p1) + x4) 96 ∧ R (x4 + 1) mSor mSiz (upd mCel (((24 * p1) + x4).toNatClampNeg) 0))))
def lp_X7_sheet_65 (p1 : Int32)  (Q : Int32 → (Nat → Int32) → (Nat → Int32) → (Nat → Int32) → Prop) (n : Nat) : Int32 → (Nat → Int32) → (Nat → Int32) → (Nat → Int32) → Prop :=
  Nat.rec (motive := fun _ => Int32 → (Nat → Int32) → (Nat → Int32) → (Nat → Int32) → Prop) (fun _ _ _ _ => False) (fun _ r => lp_X7_sheet_65F p1 Q r) n
def jp_X7_sheet_40 (p1 : Int32) (p2 : Int32) (p3 : Int32)  (Q : Int32 → (Nat → Int32) → (Nat → Int32) → (Nat → Int32) → Prop) (mSor : Nat → Int32) (mSiz : Nat → Int32) (mCel : Nat → Int32) : Prop :=
  (vp_in p1 4 ∧ ((0 ≤ p2 → (vp_in p1 4 ∧ (∃ n : Nat, lp_X7_sheet_65 p1 Q n 0 (upd mSor p1.toNatClampNeg p2) (upd mSiz p1.toNatClampNeg p3) mCel))) ∧ (¬ (0 ≤ p2) → (vp_in p1 4 ∧ (∃ n : Nat, lp_X7_sheet_65 p1 Q n 0 (upd mSor p1.toNatClampNeg p2) (upd mSiz p1.toNatClampNeg 0) mCel)))))
def wp_X7_sheet (p1 : Int32) (p2 : Int32) (p3 : Int32) (mSor : Nat → Int32) (mSiz : Nat → Int32) (mCel : Nat → Int32) (Q : Int32 → (Nat → Int32) → (Nat → Int32) → (Nat → Int32) → Prop) : Prop :=
  wp_X7_isSheet p1 (fun (r_8 : Int32) => ((r_8 = 0 → Q (-1000000001) mSor mSiz mCel) ∧ (¬ (r_8 = 0) → wp_X7_in p2 (-1) 1 (fun (r_10 : Int32) => ((r_10 = 0 → Q (-1000000001) mSor mSiz mCel) ∧ (¬ (r_10 = 0) → ((p2 < 0 → ((p2 < 0 → jp_X7_sheet_40 p1 p2 p3 Q mSor mSiz mCel) ∧ (¬ (p2 < 0) → ((0 ≤ p3 → jp_X7_sheet_40 p1 p2 p3 Q mSor mSiz mCel) ∧ (¬ (0 ≤ p3) → Q (-1000000014) mSor mSiz mCel))))) ∧ (¬ (p2 < 0) → ((p3 ≤ 24 → ((p2 < 0 → jp_X7_sheet_40 p1 p2 p3 Q mSor mSiz mCel) ∧ (¬ (p2 < 0) → ((0 ≤ p3 → jp_X7_sheet_40 p1 p2 p3 Q mSor mSiz mCel) ∧ (¬ (0 ≤ p3) → Q (-1000000014) mSor mSiz mCel))))) ∧ (¬ (p3 ≤ 24) → Q (-1000000001) mSor mSiz mCel))))))))))
set_option maxHeartbeats 4000000 in
set_option maxRecDepth 100000 in
theorem c_X7_sheet (l : Launch) (E : gE) (mo mn mi ma ml mt mb mr mp mk mq mc mw mz ms mf mu mv mx mh mA mB mC mM mT : Nat) (sz : Nat) (mHI : Int32) (mFC : Int32) (mLC : Int32) (mCg : Int32) (mTp : Int32) (mNx : Int32) (mFr : Int32) (mTk : Int32) (mVa : Int32) (mEn : Int32) (mKe : Int32) (mCs : Int32) (mAt : Int32) (mHd : Int32) (mWg : Int32) (mNow : Nat → Int32) (mImg : Nat → Int32) (mAsd : Nat → Int32) (mLea : Nat → Int32) (mLat : Nat → Int32) (mBst : Nat → Int32) (mRsk : Nat → Int32) (mTap : Nat → Int32) (mKys : Nat → Int32) (mKat : Nat → Int32) (mCod : Nat → Int32) (mWts : Nat → Int32) (mTes : Nat → Int32) (mStk : Nat → Int32) (mFct : Nat → Int32) (mSor : Nat → Int32) (mSiz : Nat → Int32) (mCel : Nat → Int32) (mHol : Nat → Int32) (mHoA : Nat → Int32) (mHoB : Nat → Int32) (mHoC : Nat → Int32) (mMov : Nat → Int32) (mTel : Nat → Int32) (p1 p2 p3 : Int32)  (Q : Int32 → (Nat → Int32) → (Nat → Int32) → (Nat → Int32) → Prop) (h : wp_X7_sheet p1 p2 p3 mSor mSiz mCel Q) : Met l yX7_sheet wsX7_sheet ({ frames := 2, cells := 0, slots := 0, locals := 42 } : Room) (va_Pc [.ref mo, .int p1, .int p2, .int p3] (rc_B E (rw_24 E mo mn mi ma ml mt mb mr mp mk mq mc mw mz ms mf mu mv mx mh mA mB mC mM mT mHI mFC mLC mCg mTp mNx mFr mTk mVa mEn mKe mCs mAt mHd mWg mNow mImg mAsd mLea mLat mBst mRsk mTap mKys mKat mCod mWts mTes mStk mFct mSor mSiz mCel mHol mHoA mHoB mHoC mMov mTel) sz)) (va_Qi (S := (Nat → Int32) × (Nat → Int32) × (Nat → Int32)) (fun (r : Int32) (u : (Nat → Int32) × (Nat → Int32) × (Nat → Int32)) => Q r u.1 u.2.1 u.2.2) (fun u t => rc_C E (va_A (rw_24 E mo mn mi ma ml mt mb mr mp mk mq mc mw mz ms mf mu mv mx mh mA mB mC mM mT mHI mFC mLC mCg mTp mNx mFr mTk mVa mEn mKe mCs mAt mHd mWg mNow mImg mAsd mLea mLat mBst mRsk mTap mKys mKat mCod mWts mTes mStk mFct mSor mSiz mCel mHol mHoA mHoB mHoC mMov mTel) sz) (rw_24 E mo mn mi ma ml mt mb mr mp mk mq mc mw mz ms mf mu mv mx mh mA mB mC mM mT mHI mFC mLC mCg mTp mNx mFr mTk mVa mEn mKe mCs mAt mHd mWg mNow mImg mAsd mLea mLat mBst mRsk mTap mKys mKat mCod mWts mTes mStk mFct u.1 u.2.1 u.2.2 mHol mHoA mHoB mHoC mMov mTel) t) (va_A (rw_24 E mo mn mi ma ml mt mb mr mp mk mq mc mw mz ms mf mu mv mx mh mA mB mC mM mT mHI mFC mLC mCg mTp mNx mFr mTk mVa mEn mKe mCs mAt mHd mWg mNow mImg mAsd mLea mLat mBst mRsk mTap mKys mKat mCod mWts mTes mStk mFct mSor mSiz mCel mHol mHoA mHoB mHoC mMov mTel) sz)) 0 0 (va_A (rw_24 E mo mn mi ma ml mt mb mr mp mk mq mc mw mz ms mf mu mv mx mh mA mB mC mM mT mHI mFC mLC mCg mTp mNx mFr mTk mVa mEn mKe mCs mAt mHd mWg mNow mImg mAsd mLea mLat mBst mRsk mTap mKys mKat mCod mWts mTes mStk mFct mSor mSiz mCel mHol mHoA mHoB mHoC mMov mTel) sz) := by
  refine rc_enterI (cc := cX7_sheet) (maxL := 5) (by decide) rfl (Nat.le_of_ble_eq_true rfl) ?_
  intro p e s m args below meth c QQ A hx hb hml hown hts hmn hE hP hD hA hret ls hl
  have hown : s.vm.findClass RX7 = some m.cls := hown
  have hK := hE.1
  have hS : va_S A s.heap s.heap [] := va_S.rf
  have hl : lv_has ls 5 [(0, .ref mo), (1, .int p1), (2, .int p2), (3, .int p3)] := hl
  have n_X7 : ∀ w ∈ wsX70, w ∈ wsX7_sheet := fun _ h => List.mem_cons_of_mem _ (List.mem_append_right _ h)
  have k_60 := hts (.fieldLink RX7 60 "RidgeClapsModel" "sizes" "[I") (List.mem_of_getElem? (i := 4) rfl)
  have k_63 := hts (.fieldLink RX7 63 "RidgeClapsModel" "cells" "[I") (List.mem_of_getElem? (i := 5) rfl)
  have k_57 := hts (.fieldLink RX7 57 "RidgeClapsModel" "sorts" "[I") (List.mem_of_getElem? (i := 3) rfl)
  have k_89 := hts (.constant RX7 89 (-1000000001)) (List.mem_of_getElem? (i := 1) rfl)
  have k_251 := hts (.constant RX7 251 (-1000000014)) (List.mem_of_getElem? (i := 2) rfl)
  have J65 : ∀ (n : Nat) (x4 : Int32) (mSor : Nat → Int32) (mSiz : Nat → Int32) (mCel : Nat → Int32), lp_X7_sheet_65 p1 Q n x4 mSor mSiz mCel → ∀ (H : Heap) (locs : List Loc), va_P E.1 vwCl (rw_24 E mo mn mi ma ml mt mb mr mp mk mq mc mw mz ms mf mu mv mx mh mA mB mC mM mT mHI mFC mLC mCg mTp mNx mFr mTk mVa mEn mKe mCs mAt mHd mWg mNow mImg mAsd mLea mLat mBst mRsk mTap mKys mKat mCod mWts mTes mStk mFct mSor mSiz mCel mHol mHoA mHoB mHoC mMov mTel) H → va_D A (rw_24 E mo mn mi ma ml mt mb mr mp mk mq mc mw mz ms mf mu mv mx mh mA mB mC mM mT mHI mFC mLC mCg mTp mNx mFr mTk mVa mEn mKe mCs mAt mHd mWg mNow mImg mAsd mLea mLat mBst mRsk mTap mKys mKat mCod mWts mTes mStk mFct mSor mSiz mCel mHol mHoA mHoB mHoC mMov mTel) → va_S A s.heap H locs → ∀ ls : Array Slot, lv_has ls 5 [(0, .ref mo), (1, .int p1), (4, .int x4)] → W p l e ({ frames := 2, cells := 0, slots := 0, locals := 42 } : Room) s m args below meth c H locs 0 0 QQ (F0 m 65 ls []) := by
    intro n
    induction n with
    | zero =>
      intro x4 mSor mSiz mCel h
      exact False.elim h
    | succ n ih =>
      intro x4 mSor mSiz mCel h H locs hP hD hS ls hl
      have h : lp_X7_sheet_65F p1 Q (lp_X7_sheet_65 p1 Q n) x4 mSor mSiz mCel := h
      unfold lp_X7_sheet_65F at h
      refine lv_iload hx hb dX7_sheet_65 (lv_at hl 2 rfl) ?_
      refine lv_bipush (v := 24) hx hb dX7_sheet_67 (by decide) ?_
      refine lv_icmp_ge (tgt := 91) hx hb dX7_sheet_69 (by decide) (fun c_1 => ?_) (fun c_1 => ?_)
      · have h := h.1 c_1
        refine lv_aload_n hx hb dX7_sheet_91 rfl (lv_at hl 0 rfl) ?_
        refine va_get (D := E.1) (ci := 7) (v := .ref mv) (C := RX7) (T := TX7) (N := 39) hx hb hts n_X7 hown hK hP 0 rfl rfl 30 (by decide) k_60 (fun _ h9 => h9) rfl dX7_sheet_92 ?_
        refine lv_iload_n hx hb dX7_sheet_95 rfl (lv_at hl 1 rfl) ?_
        obtain ⟨o_2, h⟩ := h
        refine rc_iald hx hb hK hP 17 0 rfl rfl p1.toNatClampNeg rfl o_2 dX7_sheet_96 ?_
        exact hret _ _ _ _ (mSiz p1.toNatClampNeg) (mSor, mSiz, mCel) rfl h hP hD hS dX7_sheet_97
      · have h := h.2 c_1
        refine lv_aload_n hx hb dX7_sheet_72 rfl (lv_at hl 0 rfl) ?_
        refine va_get (D := E.1) (ci := 7) (v := .ref mx) (C := RX7) (T := TX7) (N := 39) hx hb hts n_X7 hown hK hP 0 rfl rfl 31 (by decide) k_63 (fun _ h9 => h9) rfl dX7_sheet_73 ?_
        refine lv_bipush (v := 24) hx hb dX7_sheet_76 (by decide) ?_
        refine lv_iload_n hx hb dX7_sheet_78 rfl (lv_at hl 1 rfl) ?_
        refine lv_imul hx hb dX7_sheet_79 ?_
        refine lv_iload hx hb dX7_sheet_80 (lv_at hl 2 rfl) ?_
        refine lv_iadd hx hb dX7_sheet_82 ?_
        refine lv_iconst (v := 0) hx hb dX7_sheet_83 (by decide) ?_
        obtain ⟨o_3, h⟩ := h
        refine rc_iast hx hb hK hP hD hS 18 0 rfl rfl (((24 * p1) + x4).toNatClampNeg) rfl o_3 dX7_sheet_84 (fun H locs hP hD hS => ?_)
        have hP : va_P E.1 vwCl (rw_24 E mo mn mi ma ml mt mb mr mp mk mq mc mw mz ms mf mu mv mx mh mA mB mC mM mT mHI mFC mLC mCg mTp mNx mFr mTk mVa mEn mKe mCs mAt mHd mWg mNow mImg mAsd mLea mLat mBst mRsk mTap mKys mKat mCod mWts mTes mStk mFct mSor mSiz (upd mCel (((24 * p1) + x4).toNatClampNeg) 0) mHol mHoA mHoB mHoC mMov mTel) H := hP
        have hD : va_D A (rw_24 E mo mn mi ma ml mt mb mr mp mk mq mc mw mz ms mf mu mv mx mh mA mB mC mM mT mHI mFC mLC mCg mTp mNx mFr mTk mVa mEn mKe mCs mAt mHd mWg mNow mImg mAsd mLea mLat mBst mRsk mTap mKys mKat mCod mWts mTes mStk mFct mSor mSiz (upd mCel (((24 * p1) + x4).toNatClampNeg) 0) mHol mHoA mHoB mHoC mMov mTel) := hD
        refine lv_iinc (v := x4 + 1) (lv' := [(4, .int (x4 + 1)), (0, .ref mo), (1, .int p1)]) hx hb dX7_sheet_85 hl (k := 2) rfl (by rfl) (by decide) rfl (fun ls hl => ?_)
        refine lv_goto (tgt := 65) hx hb dX7_sheet_88 (by decide) ?_
        exact ih (x4 + 1) mSor mSiz (upd mCel (((24 * p1) + x4).toNatClampNeg) 0) h _ _ hP hD hS ls (lv_sub hl [1, 2, 0] rfl)
  have J40 : ∀ (mSor : Nat → Int32) (mSiz : Nat → Int32) (mCel : Nat → Int32), jp_X7_sheet_40 p1 p2 p3 Q mSor mSiz mCel → ∀ (H : Heap) (locs : List Loc), va_P E.1 vwCl (rw_24 E mo mn mi ma ml mt mb mr mp mk mq mc mw mz ms mf mu mv mx mh mA mB mC mM mT mHI mFC mLC mCg mTp mNx mFr mTk mVa mEn mKe mCs mAt mHd mWg mNow mImg mAsd mLea mLat mBst mRsk mTap mKys mKat mCod mWts mTes mStk mFct mSor mSiz mCel mHol mHoA mHoB mHoC mMov mTel) H → va_D A (rw_24 E mo mn mi ma ml mt mb mr mp mk mq mc mw mz ms mf mu mv mx mh mA mB mC mM mT mHI mFC mLC mCg mTp mNx mFr mTk mVa mEn mKe mCs mAt mHd mWg mNow mImg mAsd mLea mLat mBst mRsk mTap mKys mKat mCod mWts mTes mStk mFct mSor mSiz mCel mHol mHoA mHoB mHoC mMov mTel) → va_S A s.heap H locs → ∀ ls : Array Slot, lv_has ls 5 [(0, .ref mo), (1, .int p1), (2, .int p2), (3, .int p3)] → W p l e ({ frames := 2, cells := 0, slots := 0, locals := 42 } : Room) s m args below meth c H locs 0 0 QQ (F0 m 40 ls []) := by
    intro mSor mSiz mCel h H locs hP hD hS ls hl
    unfold jp_X7_sheet_40 at h
    refine lv_aload_n hx hb dX7_sheet_40 rfl (lv_at hl 0 rfl) ?_
    refine va_get (D := E.1) (ci := 7) (v := .ref mu) (C := RX7) (T := TX7) (N := 39) hx hb hts n_X7 hown hK hP 0 rfl rfl 29 (by decide) k_57 (fun _ h9 => h9) rfl dX7_sheet_41 ?_
    refine lv_iload_n hx hb dX7_sheet_44 rfl (lv_at hl 1 rfl) ?_
    refine lv_iload_n hx hb dX7_sheet_45 rfl (lv_at hl 2 rfl) ?_
    obtain ⟨o_4, h⟩ := h
    refine rc_iast hx hb hK hP hD hS 16 0 rfl rfl p1.toNatClampNeg rfl o_4 dX7_sheet_46 (fun H locs hP hD hS => ?_)
    have hP : va_P E.1 vwCl (rw_24 E mo mn mi ma ml mt mb mr mp mk mq mc mw mz ms mf mu mv mx mh mA mB mC mM mT mHI mFC mLC mCg mTp mNx mFr mTk mVa mEn mKe mCs mAt mHd mWg mNow mImg mAsd mLea mLat mBst mRsk mTap mKys mKat mCod mWts mTes mStk mFct (upd mSor p1.toNatClampNeg p2) mSiz mCel mHol mHoA mHoB mHoC mMov mTel) H := hP
    have hD : va_D A (rw_24 E mo mn mi ma ml mt mb mr mp mk mq mc mw mz ms mf mu mv mx mh mA mB mC mM mT mHI mFC mLC mCg mTp mNx mFr mTk mVa mEn mKe mCs mAt mHd mWg mNow mImg mAsd mLea mLat mBst mRsk mTap mKys mKat mCod mWts mTes mStk mFct (upd mSor p1.toNatClampNeg p2) mSiz mCel mHol mHoA mHoB mHoC mMov mTel) := hD
    refine lv_aload_n hx hb dX7_sheet_47 rfl (lv_at hl 0 rfl) ?_
    refine va_get (D := E.1) (ci := 7) (v := .ref mv) (C := RX7) (T := TX7) (N := 39) hx hb hts n_X7 hown hK hP 0 rfl rfl 30 (by decide) k_60 (fun _ h9 => h9) rfl dX7_sheet_48 ?_
    refine lv_iload_n hx hb dX7_sheet_51 rfl (lv_at hl 1 rfl) ?_
    refine lv_iload_n hx hb dX7_sheet_52 rfl (lv_at hl 2 rfl) ?_
    refine lv_if_ge (tgt := 60) hx hb dX7_sheet_53 (by decide) (fun c_5 => ?_) (fun c_5 => ?_)
    · have h := h.1 c_5
      refine lv_iload_n hx hb dX7_sheet_60 rfl (lv_at hl 3 rfl) ?_
      obtain ⟨o_6, h⟩ := h
      refine rc_iast hx hb hK hP hD hS 17 0 rfl rfl p1.toNatClampNeg rfl o_6 dX7_sheet_61 (fun H locs hP hD hS => ?_)
      have hP : va_P E.1 vwCl (rw_24 E mo mn mi ma ml mt mb mr mp mk mq mc mw mz ms mf mu mv mx mh mA mB mC mM mT mHI mFC mLC mCg mTp mNx mFr mTk mVa mEn mKe mCs mAt mHd mWg mNow mImg mAsd mLea mLat mBst mRsk mTap mKys mKat mCod mWts mTes mStk mFct (upd mSor p1.toNatClampNeg p2) (upd mSiz p1.toNatClampNeg p3) mCel mHol mHoA mHoB mHoC mMov mTel) H := hP
      have hD : va_D A (rw_24 E mo mn mi ma ml mt mb mr mp mk mq mc mw mz ms mf mu mv mx mh mA mB mC mM mT mHI mFC mLC mCg mTp mNx mFr mTk mVa mEn mKe mCs mAt mHd mWg mNow mImg mAsd mLea mLat mBst mRsk mTap mKys mKat mCod mWts mTes mStk mFct (upd mSor p1.toNatClampNeg p2) (upd mSiz p1.toNatClampNeg p3) mCel mHol mHoA mHoB mHoC mMov mTel) := hD
      refine lv_iconst (v := 0) hx hb dX7_sheet_62 (by decide) ?_
      refine lv_istore (lv' := [(4, .int 0), (0, .ref mo), (1, .int p1), (2, .int p2), (3, .int p3)]) hx hb dX7_sheet_63 hl (by decide) rfl (fun ls hl => ?_)
      obtain ⟨n, h⟩ := h
      exact J65 n 0 (upd mSor p1.toNatClampNeg p2) (upd mSiz p1.toNatClampNeg p3) mCel h _ _ hP hD hS ls (lv_sub hl [1, 2, 0] rfl)
    · have h := h.2 c_5
      refine lv_iconst (v := 0) hx hb dX7_sheet_56 (by decide) ?_
      refine lv_goto (tgt := 61) hx hb dX7_sheet_57 (by decide) ?_
      obtain ⟨o_7, h⟩ := h
      refine rc_iast hx hb hK hP hD hS 17 0 rfl rfl p1.toNatClampNeg rfl o_7 dX7_sheet_61 (fun H locs hP hD hS => ?_)
      have hP : va_P E.1 vwCl (rw_24 E mo mn mi ma ml mt mb mr mp mk mq mc mw mz ms mf mu mv mx mh mA mB mC mM mT mHI mFC mLC mCg mTp mNx mFr mTk mVa mEn mKe mCs mAt mHd mWg mNow mImg mAsd mLea mLat mBst mRsk mTap mKys mKat mCod mWts mTes mStk mFct (upd mSor p1.toNatClampNeg p2) (upd mSiz p1.toNatClampNeg 0) mCel mHol mHoA mHoB mHoC mMov mTel) H := hP
      have hD : va_D A (rw_24 E mo mn mi ma ml mt mb mr mp mk mq mc mw mz ms mf mu mv mx mh mA mB mC mM mT mHI mFC mLC mCg mTp mNx mFr mTk mVa mEn mKe mCs mAt mHd mWg mNow mImg mAsd mLea mLat mBst mRsk mTap mKys mKat mCod mWts mTes mStk mFct (upd mSor p1.toNatClampNeg p2) (upd mSiz p1.toNatClampNeg 0) mCel mHol mHoA mHoB mHoC mMov mTel) := hD
      refine lv_iconst (v := 0) hx hb dX7_sheet_62 (by decide) ?_
      refine lv_istore (lv' := [(4, .int 0), (0, .ref mo), (1, .int p1), (2, .int p2), (3, .int p3)]) hx hb dX7_sheet_63 hl (by decide) rfl (fun ls hl => ?_)
      obtain ⟨n, h⟩ := h
      exact J65 n 0 (upd mSor p1.toNatClampNeg p2) (upd mSiz p1.toNatClampNeg 0) mCel h _ _ hP hD hS ls (lv_sub hl [1, 2, 0] rfl)
  unfold wp_X7_sheet at h
  obtain ⟨H, hH⟩ : ∃ H, H = s.heap := ⟨_, rfl⟩
  obtain ⟨locs, hlocs⟩ : ∃ locs : List Loc, locs = [] := ⟨_, rfl⟩
  have hP : va_P E.1 vwCl (rw_24 E mo mn mi ma ml mt mb mr mp mk mq mc mw mz ms mf mu mv mx mh mA mB mC mM mT mHI mFC mLC mCg mTp mNx mFr mTk mVa mEn mKe mCs mAt mHd mWg mNow mImg mAsd mLea mLat mBst mRsk mTap mKys mKat mCod mWts mTes mStk mFct mSor mSiz mCel mHol mHoA mHoB mHoC mMov mTel) H := by rw [hH]; exact hP
  have hS : va_S A s.heap H locs := by rw [hH, hlocs]; exact hS
  suffices hgo : W p l e ({ frames := 2, cells := 0, slots := 0, locals := 42 } : Room) s m args below meth c H locs 0 0 QQ (F0 m 0 ls []) from by rw [hH, hlocs] at hgo; exact hgo
  refine lv_iload_n hx hb dX7_sheet_0 rfl (lv_at hl 1 rfl) ?_
  have hPc := hP.sub (ws' := []) [] rfl
  have hDc := hD.sub (ws' := []) [] (by decide) rfl
  have hFc := va_free (wc := []) hD hS hA [] rfl
  refine va_calli (va_runS (As := [.int p1]) (rest := []) ⟨hx, hb, hml, hown, hts⟩ (c_X7_isSheet l E H.size p1 _ h) (va_cwS 1 hts gX7_sheet_X7_isSheet rfl rfl rfl (by decide +kernel) ⟨Nat.le_of_ble_eq_true rfl, Nat.le_of_ble_eq_true rfl⟩) ⟨fun a U g mk q => ⟨q.1, q.2.blind⟩, fun U hU hW => ⟨rfl, by rw [hU], by rw [hU]; exact hPc, hE.call hS hFc hW hU, hDc.weaken (fun _ _ _ _ => trivial)⟩⟩ rfl rfl hl.1 rfl (lv_room (Nat.le_of_ble_eq_true rfl)) dX7_sheet_1 ⟨Nat.zero_le _, Nat.zero_le _⟩) hS (fun q _ h => hFc q h) hFc (fun r_8 u t H1 locs ht hvm h hB hz1 hk1 hS => ?_)
  obtain ⟨hP1, hD1⟩ := hB
  rw [ht] at hP1
  obtain ⟨hP, hD⟩ := rc_foc hP hD [] [none, none, none, none, none, none, none, none, none, none, none, none, none, none, none, none, none, none, none, none, none, none, none, none, none] (by decide) rfl hk1 hP1 rfl
  generalize H1 = H at hP hS ⊢
  have hP : va_P E.1 vwCl (rw_24 E mo mn mi ma ml mt mb mr mp mk mq mc mw mz ms mf mu mv mx mh mA mB mC mM mT mHI mFC mLC mCg mTp mNx mFr mTk mVa mEn mKe mCs mAt mHd mWg mNow mImg mAsd mLea mLat mBst mRsk mTap mKys mKat mCod mWts mTes mStk mFct mSor mSiz mCel mHol mHoA mHoB mHoC mMov mTel) H := hP
  have hD : va_D A (rw_24 E mo mn mi ma ml mt mb mr mp mk mq mc mw mz ms mf mu mv mx mh mA mB mC mM mT mHI mFC mLC mCg mTp mNx mFr mTk mVa mEn mKe mCs mAt mHd mWg mNow mImg mAsd mLea mLat mBst mRsk mTap mKys mKat mCod mWts mTes mStk mFct mSor mSiz mCel mHol mHoA mHoB mHoC mMov mTel) := hD
  refine lv_if_eq (tgt := 26) hx hb dX7_sheet_4 (by decide) (fun c_9 => ?_) (fun c_9 => ?_)
  · have h := h.1 c_9
    refine lv_ldc hx hb hown k_89 dX7_sheet_26 ?_
    exact hret _ _ _ _ (-1000000001) (mSor, mSiz, mCel) rfl h hP hD hS dX7_sheet_28
  · have h := h.2 c_9
    refine lv_iload_n hx hb dX7_sheet_7 rfl (lv_at hl 2 rfl) ?_
    refine lv_iconst (v := (-1)) hx hb dX7_sheet_8 (by decide) ?_
    refine lv_iconst (v := 1) hx hb dX7_sheet_9 (by decide) ?_
    have hPc := hP.sub (ws' := []) [] rfl
    have hDc := hD.sub (ws' := []) [] (by decide) rfl
    have hFc := va_free (wc := []) hD hS hA [] rfl
    refine va_calli (va_runS (As := [.int p2, .int (-1), .int 1]) (rest := []) ⟨hx, hb, hml, hown, hts⟩ (c_X7_in l E H.size p2 (-1) 1 _ h) (va_cwS 3 hts gX7_sheet_X7_in rfl rfl rfl (by decide +kernel) ⟨Nat.le_of_ble_eq_true rfl, Nat.le_of_ble_eq_true rfl⟩) ⟨fun a U g mk q => ⟨q.1, q.2.blind⟩, fun U hU hW => ⟨rfl, by rw [hU], by rw [hU]; exact hPc, hE.call hS hFc hW hU, hDc.weaken (fun _ _ _ _ => trivial)⟩⟩ rfl rfl hl.1 rfl (lv_room (Nat.le_of_ble_eq_true rfl)) dX7_sheet_10 ⟨Nat.zero_le _, Nat.zero_le _⟩) hS (fun q _ h => hFc q h) hFc (fun r_10 u t H1 locs ht hvm h hB hz1 hk1 hS => ?_)
    obtain ⟨hP1, hD1⟩ := hB
    rw [ht] at hP1
    obtain ⟨hP, hD⟩ := rc_foc hP hD [] [none, none, none, none, none, none, none, none, none, none, none, none, none, none, none, none, none, none, none, none, none, none, none, none, none] (by decide) rfl hk1 hP1 rfl
    generalize H1 = H at hP hS ⊢
    have hP : va_P E.1 vwCl (rw_24 E mo mn mi ma ml mt mb mr mp mk mq mc mw mz ms mf mu mv mx mh mA mB mC mM mT mHI mFC mLC mCg mTp mNx mFr mTk mVa mEn mKe mCs mAt mHd mWg mNow mImg mAsd mLea mLat mBst mRsk mTap mKys mKat mCod mWts mTes mStk mFct mSor mSiz mCel mHol mHoA mHoB mHoC mMov mTel) H := hP
    have hD : va_D A (rw_24 E mo mn mi ma ml mt mb mr mp mk mq mc mw mz ms mf mu mv mx mh mA mB mC mM mT mHI mFC mLC mCg mTp mNx mFr mTk mVa mEn mKe mCs mAt mHd mWg mNow mImg mAsd mLea mLat mBst mRsk mTap mKys mKat mCod mWts mTes mStk mFct mSor mSiz mCel mHol mHoA mHoB mHoC mMov mTel) := hD
    refine lv_if_eq (tgt := 26) hx hb dX7_sheet_13 (by decide) (fun c_11 => ?_) (fun c_11 => ?_)
    · have h := h.1 c_11
      refine lv_ldc hx hb hown k_89 dX7_sheet_26 ?_
      exact hret _ _ _ _ (-1000000001) (mSor, mSiz, mCel) rfl h hP hD hS dX7_sheet_28
    · have h := h.2 c_11
      refine lv_iload_n hx hb dX7_sheet_16 rfl (lv_at hl 2 rfl) ?_
      refine lv_if_lt (tgt := 29) hx hb dX7_sheet_17 (by decide) (fun c_12 => ?_) (fun c_12 => ?_)
      · have h := h.1 c_12
        refine lv_iload_n hx hb dX7_sheet_29 rfl (lv_at hl 2 rfl) ?_
        refine lv_if_lt (tgt := 40) hx hb dX7_sheet_30 (by decide) (fun c_13 => ?_) (fun c_13 => ?_)
        · have h := h.1 c_13
          exact J40 mSor mSiz mCel h _ _ hP hD hS ls (lv_sub hl [0, 1, 2, 3] rfl)
        · have h := h.2 c_13
          refine lv_iload_n hx hb dX7_sheet_33 rfl (lv_at hl 3 rfl) ?_
          refine lv_if_ge (tgt := 40) hx hb dX7_sheet_34 (by decide) (fun c_14 => ?_) (fun c_14 => ?_)
          · have h := h.1 c_14
            exact J40 mSor mSiz mCel h _ _ hP hD hS ls (lv_sub hl [0, 1, 2, 3] rfl)
          · have h := h.2 c_14
            refine lv_ldc hx hb hown k_251 dX7_sheet_37 ?_
            exact hret _ _ _ _ (-1000000014) (mSor, mSiz, mCel) rfl h hP hD hS dX7_sheet_39
      · have h := h.2 c_12
        refine lv_iload_n hx hb dX7_sheet_20 rfl (lv_at hl 3 rfl) ?_
        refine lv_bipush (v := 24) hx hb dX7_sheet_21 (by decide) ?_
        refine lv_icmp_le (tgt := 29) hx hb dX7_sheet_23 (by decide) (fun c_15 => ?_) (fun c_15 => ?_)
        · have h := h.1 c_15
          refine lv_iload_n hx hb dX7_sheet_29 rfl (lv_at hl 2 rfl) ?_
          refine lv_if_lt (tgt := 40) hx hb dX7_sheet_30 (by decide) (fun c_16 => ?_) (fun c_16 => ?_)
          · have h := h.1 c_16
            exact J40 mSor mSiz mCel h _ _ hP hD hS ls (lv_sub hl [0, 1, 2, 3] rfl)
          · have h := h.2 c_16
            refine lv_iload_n hx hb dX7_sheet_33 rfl (lv_at hl 3 rfl) ?_
            refine lv_if_ge (tgt := 40) hx hb dX7_sheet_34 (by decide) (fun c_17 => ?_) (fun c_17 => ?_)
            · have h := h.1 c_17
              exact J40 mSor mSiz mCel h _ _ hP hD hS ls (lv_sub hl [0, 1, 2, 3] rfl)
            · have h := h.2 c_17
              refine lv_ldc hx hb hown k_251 dX7_sheet_37 ?_
              exact hret _ _ _ _ (-1000000014) (mSor, mSiz, mCel) rfl h hP hD hS dX7_sheet_39
        · have h := h.2 c_15
          refine lv_ldc hx hb hown k_89 dX7_sheet_26 ?_
          exact hret _ _ _ _ (-1000000001) (mSor, mSiz, mCel) rfl h hP hD hS dX7_sheet_28
def jp_X7_mark_89 (p1 : Int32) (p2 : Int32) (p3 : Int32) (mSor : Nat → Int32)  (Q : Int32 → (Nat → Int32) → Prop) (mCel : Nat → Int32) : Prop :=
  (vp_in p1 4 ∧ ((¬ (mSor p1.toNatClampNeg) = 0 → (vp_in ((24 * p1) + p2) 96 ∧ Q 1 (upd mCel (((24 * p1) + p2).toNatClampNeg) p3))) ∧ ((mSor p1.toNatClampNeg) = 0 → (vp_in ((24 * p1) + p2) 96 ∧ Q 1 (upd mCel (((24 * p1) + p2).toNatClampNeg) p3.toInt16.toInt32)))))
def jp_X7_mark_59 (p1 : Int32) (p2 : Int32) (p3 : Int32) (mSor : Nat → Int32)  (Q : Int32 → (Nat → Int32) → Prop) (mCel : Nat → Int32) : Prop :=
  (vp_in p1 4 ∧ ((¬ (mSor p1.toNatClampNeg) = 1 → jp_X7_mark_89 p1 p2 p3 mSor Q mCel) ∧ ((mSor p1.toNatClampNeg) = 1 → ((p3 = (-1000000005) → jp_X7_mark_89 p1 p2 p3 mSor Q mCel) ∧ (¬ (p3 = (-1000000005)) → wp_X7_in p3 (-99999) 99999 (fun (r_8 : Int32) => ((¬ r_8 = 0 → jp_X7_mark_89 p1 p2 p3 mSor Q mCel) ∧ (r_8 = 0 → Q (-1000000001) mCel))))))))
def wp_X7_mark (p1 : Int32) (p2 : Int32) (p3 : Int32) (mSor : Nat → Int32) (mSiz : Nat → Int32) (mCel : Nat → Int32) (Q : Int32 → (Nat → Int32) → Prop) : Prop :=
  wp_X7_isSheet p1 (fun (r_10 : Int32) => ((¬ r_10 = 0 → (vp_in p1 4 ∧ ((0 ≤ (mSor p1.toNatClampNeg) → (vp_in p1 4 ∧ wp_X7_in p2 0 ((mSiz p1.toNatClampNeg) - 1) (fun (r_15 : Int32) => ((¬ r_15 = 0 → (vp_in p1 4 ∧ ((¬ (mSor p1.toNatClampNeg) = 0 → jp_X7_mark_59 p1 p2 p3 mSor Q mCel) ∧ ((mSor p1.toNatClampNeg) = 0 → ((¬ p3 = (-1000000005) → jp_X7_mark_59 p1 p2 p3 mSor Q mCel) ∧ (p3 = (-1000000005) → Q (-1000000012) mCel)))))) ∧ (r_15 = 0 → Q (-1000000013) mCel))))) ∧ (¬ (0 ≤ (mSor p1.toNatClampNeg)) → Q (-1000000011) mCel)))) ∧ (r_10 = 0 → Q (-1000000001) mCel)))
set_option maxHeartbeats 4000000 in
set_option maxRecDepth 100000 in
theorem c_X7_mark (l : Launch) (E : gE) (mo mn mi ma ml mt mb mr mp mk mq mc mw mz ms mf mu mv mx mh mA mB mC mM mT : Nat) (sz : Nat) (mHI : Int32) (mFC : Int32) (mLC : Int32) (mCg : Int32) (mTp : Int32) (mNx : Int32) (mFr : Int32) (mTk : Int32) (mVa : Int32) (mEn : Int32) (mKe : Int32) (mCs : Int32) (mAt : Int32) (mHd : Int32) (mWg : Int32) (mNow : Nat → Int32) (mImg : Nat → Int32) (mAsd : Nat → Int32) (mLea : Nat → Int32) (mLat : Nat → Int32) (mBst : Nat → Int32) (mRsk : Nat → Int32) (mTap : Nat → Int32) (mKys : Nat → Int32) (mKat : Nat → Int32) (mCod : Nat → Int32) (mWts : Nat → Int32) (mTes : Nat → Int32) (mStk : Nat → Int32) (mFct : Nat → Int32) (mSor : Nat → Int32) (mSiz : Nat → Int32) (mCel : Nat → Int32) (mHol : Nat → Int32) (mHoA : Nat → Int32) (mHoB : Nat → Int32) (mHoC : Nat → Int32) (mMov : Nat → Int32) (mTel : Nat → Int32) (p1 p2 p3 : Int32)  (Q : Int32 → (Nat → Int32) → Prop) (h : wp_X7_mark p1 p2 p3 mSor mSiz mCel Q) : Met l yX7_mark wsX7_mark ({ frames := 2, cells := 0, slots := 0, locals := 42 } : Room) (va_Pc [.ref mo, .int p1, .int p2, .int p3] (rc_B E (rw_24 E mo mn mi ma ml mt mb mr mp mk mq mc mw mz ms mf mu mv mx mh mA mB mC mM mT mHI mFC mLC mCg mTp mNx mFr mTk mVa mEn mKe mCs mAt mHd mWg mNow mImg mAsd mLea mLat mBst mRsk mTap mKys mKat mCod mWts mTes mStk mFct mSor mSiz mCel mHol mHoA mHoB mHoC mMov mTel) sz)) (va_Qi (S := (Nat → Int32)) (fun (r : Int32) (u : (Nat → Int32)) => Q r u) (fun u t => rc_C E (va_A (rw_24 E mo mn mi ma ml mt mb mr mp mk mq mc mw mz ms mf mu mv mx mh mA mB mC mM mT mHI mFC mLC mCg mTp mNx mFr mTk mVa mEn mKe mCs mAt mHd mWg mNow mImg mAsd mLea mLat mBst mRsk mTap mKys mKat mCod mWts mTes mStk mFct mSor mSiz mCel mHol mHoA mHoB mHoC mMov mTel) sz) (rw_24 E mo mn mi ma ml mt mb mr mp mk mq mc mw mz ms mf mu mv mx mh mA mB mC mM mT mHI mFC mLC mCg mTp mNx mFr mTk mVa mEn mKe mCs mAt mHd mWg mNow mImg mAsd mLea mLat mBst mRsk mTap mKys mKat mCod mWts mTes mStk mFct mSor mSiz u mHol mHoA mHoB mHoC mMov mTel) t) (va_A (rw_24 E mo mn mi ma ml mt mb mr mp mk mq mc mw mz ms mf mu mv mx mh mA mB mC mM mT mHI mFC mLC mCg mTp mNx mFr mTk mVa mEn mKe mCs mAt mHd mWg mNow mImg mAsd mLea mLat mBst mRsk mTap mKys mKat mCod mWts mTes mStk mFct mSor mSiz mCel mHol mHoA mHoB mHoC mMov mTel) sz)) 0 0 (va_A (rw_24 E mo mn mi ma ml mt mb mr mp mk mq mc mw mz ms mf mu mv mx mh mA mB mC mM mT mHI mFC mLC mCg mTp mNx mFr mTk mVa mEn mKe mCs mAt mHd mWg mNow mImg mAsd mLea mLat mBst mRsk mTap mKys mKat mCod mWts mTes mStk mFct mSor mSiz mCel mHol mHoA mHoB mHoC mMov mTel) sz) := by
  refine rc_enterI (cc := cX7_mark) (maxL := 4) (by decide) rfl (Nat.le_of_ble_eq_true rfl) ?_
  intro p e s m args below meth c QQ A hx hb hml hown hts hmn hE hP hD hA hret ls hl
  have hown : s.vm.findClass RX7 = some m.cls := hown
  have hK := hE.1
  have hS : va_S A s.heap s.heap [] := va_S.rf
  have hl : lv_has ls 4 [(0, .ref mo), (1, .int p1), (2, .int p2), (3, .int p3)] := hl
  have n_X7 : ∀ w ∈ wsX70, w ∈ wsX7_mark := fun _ h => List.mem_cons_of_mem _ (List.mem_append_right _ h)
  have k_63 := hts (.fieldLink RX7 63 "RidgeClapsModel" "cells" "[I") (List.mem_of_getElem? (i := 10) rfl)
  have k_57 := hts (.fieldLink RX7 57 "RidgeClapsModel" "sorts" "[I") (List.mem_of_getElem? (i := 2) rfl)
  have k_84 := hts (.constant RX7 84 (-1000000005)) (List.mem_of_getElem? (i := 6) rfl)
  have k_253 := hts (.constant RX7 253 (-99999)) (List.mem_of_getElem? (i := 8) rfl)
  have k_254 := hts (.constant RX7 254 (99999)) (List.mem_of_getElem? (i := 9) rfl)
  have k_89 := hts (.constant RX7 89 (-1000000001)) (List.mem_of_getElem? (i := 1) rfl)
  have k_60 := hts (.fieldLink RX7 60 "RidgeClapsModel" "sizes" "[I") (List.mem_of_getElem? (i := 4) rfl)
  have k_123 := hts (.constant RX7 123 (-1000000012)) (List.mem_of_getElem? (i := 7) rfl)
  have k_252 := hts (.constant RX7 252 (-1000000013)) (List.mem_of_getElem? (i := 5) rfl)
  have k_177 := hts (.constant RX7 177 (-1000000011)) (List.mem_of_getElem? (i := 3) rfl)
  have J89 : ∀ (mCel : Nat → Int32), jp_X7_mark_89 p1 p2 p3 mSor Q mCel → ∀ (H : Heap) (locs : List Loc), va_P E.1 vwCl (rw_24 E mo mn mi ma ml mt mb mr mp mk mq mc mw mz ms mf mu mv mx mh mA mB mC mM mT mHI mFC mLC mCg mTp mNx mFr mTk mVa mEn mKe mCs mAt mHd mWg mNow mImg mAsd mLea mLat mBst mRsk mTap mKys mKat mCod mWts mTes mStk mFct mSor mSiz mCel mHol mHoA mHoB mHoC mMov mTel) H → va_D A (rw_24 E mo mn mi ma ml mt mb mr mp mk mq mc mw mz ms mf mu mv mx mh mA mB mC mM mT mHI mFC mLC mCg mTp mNx mFr mTk mVa mEn mKe mCs mAt mHd mWg mNow mImg mAsd mLea mLat mBst mRsk mTap mKys mKat mCod mWts mTes mStk mFct mSor mSiz mCel mHol mHoA mHoB mHoC mMov mTel) → va_S A s.heap H locs → ∀ ls : Array Slot, lv_has ls 4 [(0, .ref mo), (1, .int p1), (2, .int p2), (3, .int p3)] → W p l e ({ frames := 2, cells := 0, slots := 0, locals := 42 } : Room) s m args below meth c H locs 0 0 QQ (F0 m 89 ls []) := by
    intro mCel h H locs hP hD hS ls hl
    unfold jp_X7_mark_89 at h
    refine lv_aload_n hx hb dX7_mark_89 rfl (lv_at hl 0 rfl) ?_
    refine va_get (D := E.1) (ci := 7) (v := .ref mx) (C := RX7) (T := TX7) (N := 39) hx hb hts n_X7 hown hK hP 0 rfl rfl 31 (by decide) k_63 (fun _ h9 => h9) rfl dX7_mark_90 ?_
    refine lv_bipush (v := 24) hx hb dX7_mark_93 (by decide) ?_
    refine lv_iload_n hx hb dX7_mark_95 rfl (lv_at hl 1 rfl) ?_
    refine lv_imul hx hb dX7_mark_96 ?_
    refine lv_iload_n hx hb dX7_mark_97 rfl (lv_at hl 2 rfl) ?_
    refine lv_iadd hx hb dX7_mark_98 ?_
    refine lv_aload_n hx hb dX7_mark_99 rfl (lv_at hl 0 rfl) ?_
    refine va_get (D := E.1) (ci := 7) (v := .ref mu) (C := RX7) (T := TX7) (N := 39) hx hb hts n_X7 hown hK hP 0 rfl rfl 29 (by decide) k_57 (fun _ h9 => h9) rfl dX7_mark_100 ?_
    refine lv_iload_n hx hb dX7_mark_103 rfl (lv_at hl 1 rfl) ?_
    obtain ⟨o_1, h⟩ := h
    refine rc_iald hx hb hK hP 16 0 rfl rfl p1.toNatClampNeg rfl o_1 dX7_mark_104 ?_
    refine lv_if_ne (tgt := 113) hx hb dX7_mark_105 (by decide) (fun c_2 => ?_) (fun c_2 => ?_)
    · have h := h.1 c_2
      refine lv_iload_n hx hb dX7_mark_113 rfl (lv_at hl 3 rfl) ?_
      obtain ⟨o_3, h⟩ := h
      refine rc_iast hx hb hK hP hD hS 18 0 rfl rfl (((24 * p1) + p2).toNatClampNeg) rfl o_3 dX7_mark_114 (fun H locs hP hD hS => ?_)
      have hP : va_P E.1 vwCl (rw_24 E mo mn mi ma ml mt mb mr mp mk mq mc mw mz ms mf mu mv mx mh mA mB mC mM mT mHI mFC mLC mCg mTp mNx mFr mTk mVa mEn mKe mCs mAt mHd mWg mNow mImg mAsd mLea mLat mBst mRsk mTap mKys mKat mCod mWts mTes mStk mFct mSor mSiz (upd mCel (((24 * p1) + p2).toNatClampNeg) p3) mHol mHoA mHoB mHoC mMov mTel) H := hP
      have hD : va_D A (rw_24 E mo mn mi ma ml mt mb mr mp mk mq mc mw mz ms mf mu mv mx mh mA mB mC mM mT mHI mFC mLC mCg mTp mNx mFr mTk mVa mEn mKe mCs mAt mHd mWg mNow mImg mAsd mLea mLat mBst mRsk mTap mKys mKat mCod mWts mTes mStk mFct mSor mSiz (upd mCel (((24 * p1) + p2).toNatClampNeg) p3) mHol mHoA mHoB mHoC mMov mTel) := hD
      refine lv_iconst (v := 1) hx hb dX7_mark_115 (by decide) ?_
      exact hret _ _ _ _ 1 (upd mCel (((24 * p1) + p2).toNatClampNeg) p3) rfl h hP hD hS dX7_mark_116
    · have h := h.2 c_2
      refine lv_iload_n hx hb dX7_mark_108 rfl (lv_at hl 3 rfl) ?_
      refine lv_i2s (v := p3.toInt16.toInt32) hx hb dX7_mark_109 rfl ?_
      refine lv_goto (tgt := 114) hx hb dX7_mark_110 (by decide) ?_
      obtain ⟨o_4, h⟩ := h
      refine rc_iast hx hb hK hP hD hS 18 0 rfl rfl (((24 * p1) + p2).toNatClampNeg) rfl o_4 dX7_mark_114 (fun H locs hP hD hS => ?_)
      have hP : va_P E.1 vwCl (rw_24 E mo mn mi ma ml mt mb mr mp mk mq mc mw mz ms mf mu mv mx mh mA mB mC mM mT mHI mFC mLC mCg mTp mNx mFr mTk mVa mEn mKe mCs mAt mHd mWg mNow mImg mAsd mLea mLat mBst mRsk mTap mKys mKat mCod mWts mTes mStk mFct mSor mSiz (upd mCel (((24 * p1) + p2).toNatClampNeg) p3.toInt16.toInt32) mHol mHoA mHoB mHoC mMov mTel) H := hP
      have hD : va_D A (rw_24 E mo mn mi ma ml mt mb mr mp mk mq mc mw mz ms mf mu mv mx mh mA mB mC mM mT mHI mFC mLC mCg mTp mNx mFr mTk mVa mEn mKe mCs mAt mHd mWg mNow mImg mAsd mLea mLat mBst mRsk mTap mKys mKat mCod mWts mTes mStk mFct mSor mSiz (upd mCel (((24 * p1) + p2).toNatClampNeg) p3.toInt16.toInt32) mHol mHoA mHoB mHoC mMov mTel) := hD
      refine lv_iconst (v := 1) hx hb dX7_mark_115 (by decide) ?_
      exact hret _ _ _ _ 1 (upd mCel (((24 * p1) + p2).toNatClampNeg) p3.toInt16.toInt32) rfl h hP hD hS dX7_mark_116
  have J59 : ∀ (mCel : Nat → Int32), jp_X7_mark_59 p1 p2 p3 mSor Q mCel → ∀ (H : Heap) (locs : List Loc), va_P E.1 vwCl (rw_24 E mo mn mi ma ml mt mb mr mp mk mq mc mw mz ms mf mu mv mx mh mA mB mC mM mT mHI mFC mLC mCg mTp mNx mFr mTk mVa mEn mKe mCs mAt mHd mWg mNow mImg mAsd mLea mLat mBst mRsk mTap mKys mKat mCod mWts mTes mStk mFct mSor mSiz mCel mHol mHoA mHoB mHoC mMov mTel) H → va_D A (rw_24 E mo mn mi ma ml mt mb mr mp mk mq mc mw mz ms mf mu mv mx mh mA mB mC mM mT mHI mFC mLC mCg mTp mNx mFr mTk mVa mEn mKe mCs mAt mHd mWg mNow mImg mAsd mLea mLat mBst mRsk mTap mKys mKat mCod mWts mTes mStk mFct mSor mSiz mCel mHol mHoA mHoB mHoC mMov mTel) → va_S A s.heap H locs → ∀ ls : Array Slot, lv_has ls 4 [(0, .ref mo), (1, .int p1), (2, .int p2), (3, .int p3)] → W p l e ({ frames := 2, cells := 0, slots := 0, locals := 42 } : Room) s m args below meth c H locs 0 0 QQ (F0 m 59 ls []) := by
    intro mCel h H locs hP hD hS ls hl
    unfold jp_X7_mark_59 at h
    refine lv_aload_n hx hb dX7_mark_59 rfl (lv_at hl 0 rfl) ?_
    refine va_get (D := E.1) (ci := 7) (v := .ref mu) (C := RX7) (T := TX7) (N := 39) hx hb hts n_X7 hown hK hP 0 rfl rfl 29 (by decide) k_57 (fun _ h9 => h9) rfl dX7_mark_60 ?_
    refine lv_iload_n hx hb dX7_mark_63 rfl (lv_at hl 1 rfl) ?_
    obtain ⟨o_5, h⟩ := h
    refine rc_iald hx hb hK hP 16 0 rfl rfl p1.toNatClampNeg rfl o_5 dX7_mark_64 ?_
    refine lv_iconst (v := 1) hx hb dX7_mark_65 (by decide) ?_
    refine lv_icmp_ne (tgt := 89) hx hb dX7_mark_66 (by decide) (fun c_6 => ?_) (fun c_6 => ?_)
    · have h := h.1 c_6
      exact J89 mCel h _ _ hP hD hS ls (lv_sub hl [0, 1, 2, 3] rfl)
    · have h := h.2 c_6
      refine lv_iload_n hx hb dX7_mark_69 rfl (lv_at hl 3 rfl) ?_
      refine lv_ldc hx hb hown k_84 dX7_mark_70 ?_
      refine lv_icmp_eq (tgt := 89) hx hb dX7_mark_72 (by decide) (fun c_7 => ?_) (fun c_7 => ?_)
      · have h := h.1 c_7
        exact J89 mCel h _ _ hP hD hS ls (lv_sub hl [0, 1, 2, 3] rfl)
      · have h := h.2 c_7
        refine lv_iload_n hx hb dX7_mark_75 rfl (lv_at hl 3 rfl) ?_
        refine lv_ldc hx hb hown k_253 dX7_mark_76 ?_
        refine lv_ldc hx hb hown k_254 dX7_mark_78 ?_
        have hPc := hP.sub (ws' := []) [] rfl
        have hDc := hD.sub (ws' := []) [] (by decide) rfl
        have hFc := va_free (wc := []) hD hS hA [] rfl
        refine va_calli (va_runS (As := [.int p3, .int (-99999), .int 99999]) (rest := []) ⟨hx, hb, hml, hown, hts⟩ (c_X7_in l E H.size p3 (-99999) 99999 _ h) (va_cwS 3 hts gX7_mark_X7_in rfl rfl rfl (by decide +kernel) ⟨Nat.le_of_ble_eq_true rfl, Nat.le_of_ble_eq_true rfl⟩) ⟨fun a U g mk q => ⟨q.1, q.2.blind⟩, fun U hU hW => ⟨rfl, by rw [hU], by rw [hU]; exact hPc, hE.call hS hFc hW hU, hDc.weaken (fun _ _ _ _ => trivial)⟩⟩ rfl rfl hl.1 rfl (lv_room (Nat.le_of_ble_eq_true rfl)) dX7_mark_80 ⟨Nat.zero_le _, Nat.zero_le _⟩) hS (fun q _ h => hFc q h) hFc (fun r_8 u t H1 locs ht hvm h hB hz1 hk1 hS => ?_)
        obtain ⟨hP1, hD1⟩ := hB
        rw [ht] at hP1
        obtain ⟨hP, hD⟩ := rc_foc hP hD [] [none, none, none, none, none, none, none, none, none, none, none, none, none, none, none, none, none, none, none, none, none, none, none, none, none] (by decide) rfl hk1 hP1 rfl
        generalize H1 = H at hP hS ⊢
        have hP : va_P E.1 vwCl (rw_24 E mo mn mi ma ml mt mb mr mp mk mq mc mw mz ms mf mu mv mx mh mA mB mC mM mT mHI mFC mLC mCg mTp mNx mFr mTk mVa mEn mKe mCs mAt mHd mWg mNow mImg mAsd mLea mLat mBst mRsk mTap mKys mKat mCod mWts mTes mStk mFct mSor mSiz mCel mHol mHoA mHoB mHoC mMov mTel) H := hP
        have hD : va_D A (rw_24 E mo mn mi ma ml mt mb mr mp mk mq mc mw mz ms mf mu mv mx mh mA mB mC mM mT mHI mFC mLC mCg mTp mNx mFr mTk mVa mEn mKe mCs mAt mHd mWg mNow mImg mAsd mLea mLat mBst mRsk mTap mKys mKat mCod mWts mTes mStk mFct mSor mSiz mCel mHol mHoA mHoB mHoC mMov mTel) := hD
        refine lv_if_ne (tgt := 89) hx hb dX7_mark_83 (by decide) (fun c_9 => ?_) (fun c_9 => ?_)
        · have h := h.1 c_9
          exact J89 mCel h _ _ hP hD hS ls (lv_sub hl [0, 1, 2, 3] rfl)
        · have h := h.2 c_9
          refine lv_ldc hx hb hown k_89 dX7_mark_86 ?_
          exact hret _ _ _ _ (-1000000001) (mCel) rfl h hP hD hS dX7_mark_88
  unfold wp_X7_mark at h
  obtain ⟨H, hH⟩ : ∃ H, H = s.heap := ⟨_, rfl⟩
  obtain ⟨locs, hlocs⟩ : ∃ locs : List Loc, locs = [] := ⟨_, rfl⟩
  have hP : va_P E.1 vwCl (rw_24 E mo mn mi ma ml mt mb mr mp mk mq mc mw mz ms mf mu mv mx mh mA mB mC mM mT mHI mFC mLC mCg mTp mNx mFr mTk mVa mEn mKe mCs mAt mHd mWg mNow mImg mAsd mLea mLat mBst mRsk mTap mKys mKat mCod mWts mTes mStk mFct mSor mSiz mCel mHol mHoA mHoB mHoC mMov mTel) H := by rw [hH]; exact hP
  have hS : va_S A s.heap H locs := by rw [hH, hlocs]; exact hS
  suffices hgo : W p l e ({ frames := 2, cells := 0, slots := 0, locals := 42 } : Room) s m args below meth c H locs 0 0 QQ (F0 m 0 ls []) from by rw [hH, hlocs] at hgo; exact hgo
  refine lv_iload_n hx hb dX7_mark_0 rfl (lv_at hl 1 rfl) ?_
  have hPc := hP.sub (ws' := []) [] rfl
  have hDc := hD.sub (ws' := []) [] (by decide) rfl
  have hFc := va_free (wc := []) hD hS hA [] rfl
  refine va_calli (va_runS (As := [.int p1]) (rest := []) ⟨hx, hb, hml, hown, hts⟩ (c_X7_isSheet l E H.size p1 _ h) (va_cwS 1 hts gX7_mark_X7_isSheet rfl rfl rfl (by decide +kernel) ⟨Nat.le_of_ble_eq_true rfl, Nat.le_of_ble_eq_true rfl⟩) ⟨fun a U g mk q => ⟨q.1, q.2.blind⟩, fun U hU hW => ⟨rfl, by rw [hU], by rw [hU]; exact hPc, hE.call hS hFc hW hU, hDc.weaken (fun _ _ _ _ => trivial)⟩⟩ rfl rfl hl.1 rfl (lv_room (Nat.le_of_ble_eq_true rfl)) dX7_mark_1 ⟨Nat.zero_le _, Nat.zero_le _⟩) hS (fun q _ h => hFc q h) hFc (fun r_10 u t H1 locs ht hvm h hB hz1 hk1 hS => ?_)
  obtain ⟨hP1, hD1⟩ := hB
  rw [ht] at hP1
  obtain ⟨hP, hD⟩ := rc_foc hP hD [] [none, none, none, none, none, none, none, none, none, none, none, none, none, none, none, none, none, none, none, none, none, none, none, none, none] (by decide) rfl hk1 hP1 rfl
  generalize H1 = H at hP hS ⊢
  have hP : va_P E.1 vwCl (rw_24 E mo mn mi ma ml mt mb mr mp mk mq mc mw mz ms mf mu mv mx mh mA mB mC mM mT mHI mFC mLC mCg mTp mNx mFr mTk mVa mEn mKe mCs mAt mHd mWg mNow mImg mAsd mLea mLat mBst mRsk mTap mKys mKat mCod mWts mTes mStk mFct mSor mSiz mCel mHol mHoA mHoB mHoC mMov mTel) H := hP
  have hD : va_D A (rw_24 E mo mn mi ma ml mt mb mr mp mk mq mc mw mz ms mf mu mv mx mh mA mB mC mM mT mHI mFC mLC mCg mTp mNx mFr mTk mVa mEn mKe mCs mAt mHd mWg mNow mImg mAsd mLea mLat mBst mRsk mTap mKys mKat mCod mWts mTes mStk mFct mSor mSiz mCel mHol mHoA mHoB mHoC mMov mTel) := hD
  refine lv_if_ne (tgt := 10) hx hb dX7_mark_4 (by decide) (fun c_11 => ?_) (fun c_11 => ?_)
  · have h := h.1 c_11
    refine lv_aload_n hx hb dX7_mark_10 rfl (lv_at hl 0 rfl) ?_
    refine va_get (D := E.1) (ci := 7) (v := .ref mu) (C := RX7) (T := TX7) (N := 39) hx hb hts n_X7 hown hK hP 0 rfl rfl 29 (by decide) k_57 (fun _ h9 => h9) rfl dX7_mark_11 ?_
    refine lv_iload_n hx hb dX7_mark_14 rfl (lv_at hl 1 rfl) ?_
    obtain ⟨o_12, h⟩ := h
    refine rc_iald hx hb hK hP 16 0 rfl rfl p1.toNatClampNeg rfl o_12 dX7_mark_15 ?_
    refine lv_if_ge (tgt := 22) hx hb dX7_mark_16 (by decide) (fun c_13 => ?_) (fun c_13 => ?_)
    · have h := h.1 c_13
      refine lv_iload_n hx hb dX7_mark_22 rfl (lv_at hl 2 rfl) ?_
      refine lv_iconst (v := 0) hx hb dX7_mark_23 (by decide) ?_
      refine lv_aload_n hx hb dX7_mark_24 rfl (lv_at hl 0 rfl) ?_
      refine va_get (D := E.1) (ci := 7) (v := .ref mv) (C := RX7) (T := TX7) (N := 39) hx hb hts n_X7 hown hK hP 0 rfl rfl 30 (by decide) k_60 (fun _ h9 => h9) rfl dX7_mark_25 ?_
      refine lv_iload_n hx hb dX7_mark_28 rfl (lv_at hl 1 rfl) ?_
      obtain ⟨o_14, h⟩ := h
      refine rc_iald hx hb hK hP 17 0 rfl rfl p1.toNatClampNeg rfl o_14 dX7_mark_29 ?_
      refine lv_iconst (v := 1) hx hb dX7_mark_30 (by decide) ?_
      refine lv_isub hx hb dX7_mark_31 ?_
      have hPc := hP.sub (ws' := []) [] rfl
      have hDc := hD.sub (ws' := []) [] (by decide) rfl
      have hFc := va_free (wc := []) hD hS hA [] rfl
      refine va_calli (va_runS (As := [.int p2, .int 0, .int ((mSiz p1.toNatClampNeg) - 1)]) (rest := []) ⟨hx, hb, hml, hown, hts⟩ (c_X7_in l E H.size p2 0 ((mSiz p1.toNatClampNeg) - 1) _ h) (va_cwS 3 hts gX7_mark_X7_in rfl rfl rfl (by decide +kernel) ⟨Nat.le_of_ble_eq_true rfl, Nat.le_of_ble_eq_true rfl⟩) ⟨fun a U g mk q => ⟨q.1, q.2.blind⟩, fun U hU hW => ⟨rfl, by rw [hU], by rw [hU]; exact hPc, hE.call hS hFc hW hU, hDc.weaken (fun _ _ _ _ => trivial)⟩⟩ rfl rfl hl.1 rfl (lv_room (Nat.le_of_ble_eq_true rfl)) dX7_mark_32 ⟨Nat.zero_le _, Nat.zero_le _⟩) hS (fun q _ h => hFc q h) hFc (fun r_15 u t H1 locs ht hvm h hB hz1 hk1 hS => ?_)
      obtain ⟨hP1, hD1⟩ := hB
      rw [ht] at hP1
      obtain ⟨hP, hD⟩ := rc_foc hP hD [] [none, none, none, none, none, none, none, none, none, none, none, none, none, none, none, none, none, none, none, none, none, none, none, none, none] (by decide) rfl hk1 hP1 rfl
      generalize H1 = H at hP hS ⊢
      have hP : va_P E.1 vwCl (rw_24 E mo mn mi ma ml mt mb mr mp mk mq mc mw mz ms mf mu mv mx mh mA mB mC mM mT mHI mFC mLC mCg mTp mNx mFr mTk mVa mEn mKe mCs mAt mHd mWg mNow mImg mAsd mLea mLat mBst mRsk mTap mKys mKat mCod mWts mTes mStk mFct mSor mSiz mCel mHol mHoA mHoB mHoC mMov mTel) H := hP
      have hD : va_D A (rw_24 E mo mn mi ma ml mt mb mr mp mk mq mc mw mz ms mf mu mv mx mh mA mB mC mM mT mHI mFC mLC mCg mTp mNx mFr mTk mVa mEn mKe mCs mAt mHd mWg mNow mImg mAsd mLea mLat mBst mRsk mTap mKys mKat mCod mWts mTes mStk mFct mSor mSiz mCel mHol mHoA mHoB mHoC mMov mTel) := hD
      refine lv_if_ne (tgt := 41) hx hb dX7_mark_35 (by decide) (fun c_16 => ?_) (fun c_16 => ?_)
      · have h := h.1 c_16
        refine lv_aload_n hx hb dX7_mark_41 rfl (lv_at hl 0 rfl) ?_
        refine va_get (D := E.1) (ci := 7) (v := .ref mu) (C := RX7) (T := TX7) (N := 39) hx hb hts n_X7 hown hK hP 0 rfl rfl 29 (by decide) k_57 (fun _ h9 => h9) rfl dX7_mark_42 ?_
        refine lv_iload_n hx hb dX7_mark_45 rfl (lv_at hl 1 rfl) ?_
        obtain ⟨o_17, h⟩ := h
        refine rc_iald hx hb hK hP 16 0 rfl rfl p1.toNatClampNeg rfl o_17 dX7_mark_46 ?_
        refine lv_if_ne (tgt := 59) hx hb dX7_mark_47 (by decide) (fun c_18 => ?_) (fun c_18 => ?_)
        · have h := h.1 c_18
          exact J59 mCel h _ _ hP hD hS ls (lv_sub hl [0, 1, 2, 3] rfl)
        · have h := h.2 c_18
          refine lv_iload_n hx hb dX7_mark_50 rfl (lv_at hl 3 rfl) ?_
          refine lv_ldc hx hb hown k_84 dX7_mark_51 ?_
          refine lv_icmp_ne (tgt := 59) hx hb dX7_mark_53 (by decide) (fun c_19 => ?_) (fun c_19 => ?_)
          · have h := h.1 c_19
            exact J59 mCel h _ _ hP hD hS ls (lv_sub hl [0, 1, 2, 3] rfl)
          · have h := h.2 c_19
            refine lv_ldc hx hb hown k_123 dX7_mark_56 ?_
            exact hret _ _ _ _ (-1000000012) (mCel) rfl h hP hD hS dX7_mark_58
      · have h := h.2 c_16
        refine lv_ldc hx hb hown k_252 dX7_mark_38 ?_
        exact hret _ _ _ _ (-1000000013) (mCel) rfl h hP hD hS dX7_mark_40
    · have h := h.2 c_13
      refine lv_ldc hx hb hown k_177 dX7_mark_19 ?_
      exact hret _ _ _ _ (-1000000011) (mCel) rfl h hP hD hS dX7_mark_21
  · have h := h.2 c_11
    refine lv_ldc hx hb hown k_89 dX7_mark_7 ?_
    exact hret _ _ _ _ (-1000000001) (mCel) rfl h hP hD hS dX7_mark_9
def jp_X7_pour_83  (K26 : Int32 → Int32 → (Nat → Int32) → Prop)  (x2 : Int32) (x3 : Int32) (y0 : Int32) (mNow : Nat → Int32) : Prop :=
  wp_X7_becomes ((9 + (3 * x3)) + 1) y0 mNow (fun (r_1 : Int32) (w_2 : Nat → Int32) => ((¬ r_1 = y0 → K26 (x2 + 1) (x3 + 1) w_2) ∧ (r_1 = y0 → K26 (x2 + 0) (x3 + 1) w_2)))
def lp_X7_pour_26F (p1 : Int32) (mSiz : Nat → Int32) (mCel : Nat → Int32)  (Q : Int32 → (Nat → Int32) → Prop) (R : Int32 → Int32 → (Nat → Int32) → Prop) (x2 : Int32) (x3 : Int32) (mNow : Nat → Int32) : Prop :=
  (vp_in p1 4 ∧ (((mSiz p1.toNatClampNeg) ≤ x3 → Q x2 mNow) ∧ (¬ ((mSiz p1.toNatClampNeg) ≤ x3) → (((mNow 1) ≤ x3 → Q x2 mNow) ∧ (¬ ((mNow 1) ≤ x3) → (vp_in ((24 * p1) + x3) 96 ∧ ((¬ (mCel (((24 * p1) + x3).toNatClampNeg)) = (-1000000005) → wp_X7_within (mCel (((24 * p1) + x3).toNatClampNeg)) 0 99 (fun (r_9 : Int32) => jp_X7_pour_83 R x2 x3 r_9 mNow)) ∧ ((mCel (((24 * p1) + x3).toNatClampNeg)) = (-1000000005) → wp_X7_of x3 1 mNow (fun (r_10 : Int32) => jp_X7_pour_83 R x2 x3 r_10 mNow)))))))))
def lp_X7_pour_26 (p1 : Int32) (mSiz : Nat → Int32) (mCel : Nat → Int32)  (Q : Int32 → (Nat → Int32) → Prop) (n : Nat) : Int32 → Int32 → (Nat → Int32) → Prop :=
  Nat.rec (motive := fun _ => Int32 → Int32 → (Nat → Int32) → Prop) (fun _ _ _ => False) (fun _ r => lp_X7_pour_26F p1 mSiz mCel Q r) n
def wp_X7_pour (p1 : Int32) (mNow : Nat → Int32) (mSor : Nat → Int32) (mSiz : Nat → Int32) (mCel : Nat → Int32) (Q : Int32 → (Nat → Int32) → Prop) : Prop :=
  wp_X7_isSheet p1 (fun (r_11 : Int32) => ((¬ r_11 = 0 → (vp_in p1 4 ∧ ((0 ≤ (mSor p1.toNatClampNeg) → (∃ n : Nat, lp_X7_pour_26 p1 mSiz mCel Q n 0 0 mNow)) ∧ (¬ (0 ≤ (mSor p1.toNatClampNeg)) → Q (-1000000011) mNow)))) ∧ (r_11 = 0 → Q (-1000000001) mNow)))
set_option maxHeartbeats 4000000 in
set_option maxRecDepth 100000 in
theorem c_X7_pour (l : Launch) (E : gE) (mo mn mi ma ml mt mb mr mp mk mq mc mw mz ms mf mu mv mx mh mA mB mC mM mT : Nat) (sz : Nat) (mHI : Int32) (mFC : Int32) (mLC : Int32) (mCg : Int32) (mTp : Int32) (mNx : Int32) (mFr : Int32) (mTk : Int32) (mVa : Int32) (mEn : Int32) (mKe : Int32) (mCs : Int32) (mAt : Int32) (mHd : Int32) (mWg : Int32) (mNow : Nat → Int32) (mImg : Nat → Int32) (mAsd : Nat → Int32) (mLea : Nat → Int32) (mLat : Nat → Int32) (mBst : Nat → Int32) (mRsk : Nat → Int32) (mTap : Nat → Int32) (mKys : Nat → Int32) (mKat : Nat → Int32) (mCod : Nat → Int32) (mWts : Nat → Int32) (mTes : Nat → Int32) (mStk : Nat → Int32) (mFct : Nat → Int32) (mSor : Nat → Int32) (mSiz : Nat → Int32) (mCel : Nat → Int32) (mHol : Nat → Int32) (mHoA : Nat → Int32) (mHoB : Nat → Int32) (mHoC : Nat → Int32) (mMov : Nat → Int32) (mTel : Nat → Int32) (p1 : Int32)  (Q : Int32 → (Nat → Int32) → Prop) (h : wp_X7_pour p1 mNow mSor mSiz mCel Q) : Met l yX7_pour wsX7_pour ({ frames := 2, cells := 0, slots := 0, locals := 42 } : Room) (va_Pc [.ref mo, .int p1] (rc_B E (rw_24 E mo mn mi ma ml mt mb mr mp mk mq mc mw mz ms mf mu mv mx mh mA mB mC mM mT mHI mFC mLC mCg mTp mNx mFr mTk mVa mEn mKe mCs mAt mHd mWg mNow mImg mAsd mLea mLat mBst mRsk mTap mKys mKat mCod mWts mTes mStk mFct mSor mSiz mCel mHol mHoA mHoB mHoC mMov mTel) sz)) (va_Qi (S := (Nat → Int32)) (fun (r : Int32) (u : (Nat → Int32)) => Q r u) (fun u t => rc_C E (va_A (rw_24 E mo mn mi ma ml mt mb mr mp mk mq mc mw mz ms mf mu mv mx mh mA mB mC mM mT mHI mFC mLC mCg mTp mNx mFr mTk mVa mEn mKe mCs mAt mHd mWg mNow mImg mAsd mLea mLat mBst mRsk mTap mKys mKat mCod mWts mTes mStk mFct mSor mSiz mCel mHol mHoA mHoB mHoC mMov mTel) sz) (rw_24 E mo mn mi ma ml mt mb mr mp mk mq mc mw mz ms mf mu mv mx mh mA mB mC mM mT mHI mFC mLC mCg mTp mNx mFr mTk mVa mEn mKe mCs mAt mHd mWg u mImg mAsd mLea mLat mBst mRsk mTap mKys mKat mCod mWts mTes mStk mFct mSor mSiz mCel mHol mHoA mHoB mHoC mMov mTel) t) (va_A (rw_24 E mo mn mi ma ml mt mb mr mp mk mq mc mw mz ms mf mu mv mx mh mA mB mC mM mT mHI mFC mLC mCg mTp mNx mFr mTk mVa mEn mKe mCs mAt mHd mWg mNow mImg mAsd mLea mLat mBst mRsk mTap mKys mKat mCod mWts mTes mStk mFct mSor mSiz mCel mHol mHoA mHoB mHoC mMov mTel) sz)) 0 0 (va_A (rw_24 E mo mn mi ma ml mt mb mr mp mk mq mc mw mz ms mf mu mv mx mh mA mB mC mM mT mHI mFC mLC mCg mTp mNx mFr mTk mVa mEn mKe mCs mAt mHd mWg mNow mImg mAsd mLea mLat mBst mRsk mTap mKys mKat mCod mWts mTes mStk mFct mSor mSiz mCel mHol mHoA mHoB mHoC mMov mTel) sz) := by
  refine rc_enterI (cc := cX7_pour) (maxL := 6) (by decide) rfl (Nat.le_of_ble_eq_true rfl) ?_
  intro p e s m args below meth c QQ A hx hb hml hown hts hmn hE hP hD hA hret ls hl
  have hown : s.vm.findClass RX7 = some m.cls := hown
  have hK := hE.1
  have hS : va_S A s.heap s.heap [] := va_S.rf
  have hl : lv_has ls 6 [(0, .ref mo), (1, .int p1)] := hl
  have n_X7 : ∀ w ∈ wsX70, w ∈ wsX7_pour := fun _ h => List.mem_cons_of_mem _ (List.mem_append_right _ h)
  have k_60 := hts (.fieldLink RX7 60 "RidgeClapsModel" "sizes" "[I") (List.mem_of_getElem? (i := 4) rfl)
  have k_9 := hts (.fieldLink RX7 9 "RidgeClapsModel" "now" "[I") (List.mem_of_getElem? (i := 5) rfl)
  have k_63 := hts (.fieldLink RX7 63 "RidgeClapsModel" "cells" "[I") (List.mem_of_getElem? (i := 6) rfl)
  have k_84 := hts (.constant RX7 84 (-1000000005)) (List.mem_of_getElem? (i := 7) rfl)
  have k_57 := hts (.fieldLink RX7 57 "RidgeClapsModel" "sorts" "[I") (List.mem_of_getElem? (i := 2) rfl)
  have k_177 := hts (.constant RX7 177 (-1000000011)) (List.mem_of_getElem? (i := 3) rfl)
  have k_89 := hts (.constant RX7 89 (-1000000001)) (List.mem_of_getElem? (i := 1) rfl)
  have J83 : ∀ (K26 : Int32 → Int32 → (Nat → Int32) → Prop), (∀ (x2 : Int32) (x3 : Int32) (mNow : Nat → Int32), K26 x2 x3 mNow → ∀ (H : Heap) (locs : List Loc), va_P E.1 vwCl (rw_24 E mo mn mi ma ml mt mb mr mp mk mq mc mw mz ms mf mu mv mx mh mA mB mC mM mT mHI mFC mLC mCg mTp mNx mFr mTk mVa mEn mKe mCs mAt mHd mWg mNow mImg mAsd mLea mLat mBst mRsk mTap mKys mKat mCod mWts mTes mStk mFct mSor mSiz mCel mHol mHoA mHoB mHoC mMov mTel) H → va_D A (rw_24 E mo mn mi ma ml mt mb mr mp mk mq mc mw mz ms mf mu mv mx mh mA mB mC mM mT mHI mFC mLC mCg mTp mNx mFr mTk mVa mEn mKe mCs mAt mHd mWg mNow mImg mAsd mLea mLat mBst mRsk mTap mKys mKat mCod mWts mTes mStk mFct mSor mSiz mCel mHol mHoA mHoB mHoC mMov mTel) → va_S A s.heap H locs → ∀ ls : Array Slot, lv_has ls 6 [(0, .ref mo), (1, .int p1), (2, .int x2), (3, .int x3)] → W p l e ({ frames := 2, cells := 0, slots := 0, locals := 42 } : Room) s m args below meth c H locs 0 0 QQ (F0 m 26 ls [])) → ∀ (x2 : Int32) (x3 : Int32) (y0 : Int32) (mNow : Nat → Int32), jp_X7_pour_83 K26 x2 x3 y0 mNow → ∀ (H : Heap) (locs : List Loc), va_P E.1 vwCl (rw_24 E mo mn mi ma ml mt mb mr mp mk mq mc mw mz ms mf mu mv mx mh mA mB mC mM mT mHI mFC mLC mCg mTp mNx mFr mTk mVa mEn mKe mCs mAt mHd mWg mNow mImg mAsd mLea mLat mBst mRsk mTap mKys mKat mCod mWts mTes mStk mFct mSor mSiz mCel mHol mHoA mHoB mHoC mMov mTel) H → va_D A (rw_24 E mo mn mi ma ml mt mb mr mp mk mq mc mw mz ms mf mu mv mx mh mA mB mC mM mT mHI mFC mLC mCg mTp mNx mFr mTk mVa mEn mKe mCs mAt mHd mWg mNow mImg mAsd mLea mLat mBst mRsk mTap mKys mKat mCod mWts mTes mStk mFct mSor mSiz mCel mHol mHoA mHoB mHoC mMov mTel) → va_S A s.heap H locs → ∀ ls : Array Slot, lv_has ls 6 [(0, .ref mo), (1, .int p1), (2, .int x2), (3, .int x3)] → W p l e ({ frames := 2, cells := 0, slots := 0, locals := 42 } : Room) s m args below meth c H locs 0 0 QQ (F0 m 83 ls [.int y0]) := by
    intro K26 hK26
    intro x2 x3 y0 mNow h H locs hP hD hS ls hl
    unfold jp_X7_pour_83 at h
    refine lv_istore (lv' := [(5, .int y0), (0, .ref mo), (1, .int p1), (2, .int x2), (3, .int x3)]) hx hb dX7_pour_83 hl (by decide) rfl (fun ls hl => ?_)
    refine lv_iload_n hx hb dX7_pour_85 rfl (lv_at hl 3 rfl) ?_
    refine lv_aload_n hx hb dX7_pour_86 rfl (lv_at hl 1 rfl) ?_
    refine lv_bipush (v := 9) hx hb dX7_pour_87 (by decide) ?_
    refine lv_iconst (v := 3) hx hb dX7_pour_89 (by decide) ?_
    refine lv_iload_n hx hb dX7_pour_90 rfl (lv_at hl 4 rfl) ?_
    refine lv_imul hx hb dX7_pour_91 ?_
    refine lv_iadd hx hb dX7_pour_92 ?_
    refine lv_iconst (v := 1) hx hb dX7_pour_93 (by decide) ?_
    refine lv_iadd hx hb dX7_pour_94 ?_
    refine lv_iload hx hb dX7_pour_95 (lv_at hl 0 rfl) ?_
    have hPc := hP
    have hDc := hD
    have hFc := rc_freeI hD hS hA
    refine va_calli (va_runV (As := [.int ((9 + (3 * x3)) + 1), .int y0]) (rest := [.int x2]) ⟨hx, hb, hml, hown, hts⟩ (c_X7_becomes l E mo mn mi ma ml mt mb mr mp mk mq mc mw mz ms mf mu mv mx mh mA mB mC mM mT H.size mHI mFC mLC mCg mTp mNx mFr mTk mVa mEn mKe mCs mAt mHd mWg mNow mImg mAsd mLea mLat mBst mRsk mTap mKys mKat mCod mWts mTes mStk mFct mSor mSiz mCel mHol mHoA mHoB mHoC mMov mTel ((9 + (3 * x3)) + 1) y0 _ h) (cwV 2 hts gX7_pour_X7_becomes rfl rfl rfl (by decide +kernel) ⟨Nat.le_of_ble_eq_true rfl, Nat.le_of_ble_eq_true rfl⟩) ⟨fun a U g mk q => ⟨q.1, q.2.blind⟩, va_recv hK hPc (ci := 7) (q0 := 0) rfl rfl, fun U hU hW => ⟨rfl, by rw [hU], by rw [hU]; exact hPc, hE.call hS hFc hW hU, hDc.weaken (fun _ _ _ _ => trivial)⟩⟩ rfl rfl hl.1 rfl (lv_room (Nat.le_of_ble_eq_true rfl)) dX7_pour_97 ⟨Nat.zero_le _, Nat.zero_le _⟩) hS (fun q _ h => hFc q h) hFc (fun r_1 u t H1 locs ht hvm h hB hz1 hk1 hS => ?_)
    obtain ⟨w_2, rfl⟩ : ∃ z, z = u := ⟨_, rfl⟩
    obtain ⟨hP1, hD1⟩ := hB
    rw [ht] at hP1
    have hP := hP1
    have hD := hD1.weaken (fun _ _ _ h => hFc _ h)
    generalize H1 = H at hP hS ⊢
    have hP : va_P E.1 vwCl (rw_24 E mo mn mi ma ml mt mb mr mp mk mq mc mw mz ms mf mu mv mx mh mA mB mC mM mT mHI mFC mLC mCg mTp mNx mFr mTk mVa mEn mKe mCs mAt mHd mWg w_2 mImg mAsd mLea mLat mBst mRsk mTap mKys mKat mCod mWts mTes mStk mFct mSor mSiz mCel mHol mHoA mHoB mHoC mMov mTel) H := hP
    have hD : va_D A (rw_24 E mo mn mi ma ml mt mb mr mp mk mq mc mw mz ms mf mu mv mx mh mA mB mC mM mT mHI mFC mLC mCg mTp mNx mFr mTk mVa mEn mKe mCs mAt mHd mWg w_2 mImg mAsd mLea mLat mBst mRsk mTap mKys mKat mCod mWts mTes mStk mFct mSor mSiz mCel mHol mHoA mHoB mHoC mMov mTel) := hD
    refine lv_iload hx hb dX7_pour_100 (lv_at hl 0 rfl) ?_
    refine lv_icmp_ne (tgt := 109) hx hb dX7_pour_102 (by decide) (fun c_3 => ?_) (fun c_3 => ?_)
    · have h := h.1 c_3
      refine lv_iconst (v := 1) hx hb dX7_pour_109 (by decide) ?_
      refine lv_iadd hx hb dX7_pour_110 ?_
      refine lv_istore_n (lv' := [(2, .int (x2 + 1)), (5, .int y0), (0, .ref mo), (1, .int p1), (3, .int x3)]) hx hb dX7_pour_111 rfl hl (by decide) rfl (fun ls hl => ?_)
      refine lv_iinc (v := x3 + 1) (lv' := [(3, .int (x3 + 1)), (2, .int (x2 + 1)), (5, .int y0), (0, .ref mo), (1, .int p1)]) hx hb dX7_pour_112 hl (k := 4) rfl (by rfl) (by decide) rfl (fun ls hl => ?_)
      refine lv_goto (tgt := 26) hx hb dX7_pour_115 (by decide) ?_
      exact hK26 (x2 + 1) (x3 + 1) w_2 h _ _ hP hD hS ls (lv_sub hl [3, 4, 1, 0] rfl)
    · have h := h.2 c_3
      refine lv_iconst (v := 0) hx hb dX7_pour_105 (by decide) ?_
      refine lv_goto (tgt := 110) hx hb dX7_pour_106 (by decide) ?_
      refine lv_iadd hx hb dX7_pour_110 ?_
      refine lv_istore_n (lv' := [(2, .int (x2 + 0)), (5, .int y0), (0, .ref mo), (1, .int p1), (3, .int x3)]) hx hb dX7_pour_111 rfl hl (by decide) rfl (fun ls hl => ?_)
      refine lv_iinc (v := x3 + 1) (lv' := [(3, .int (x3 + 1)), (2, .int (x2 + 0)), (5, .int y0), (0, .ref mo), (1, .int p1)]) hx hb dX7_pour_112 hl (k := 4) rfl (by rfl) (by decide) rfl (fun ls hl => ?_)
      refine lv_goto (tgt := 26) hx hb dX7_pour_115 (by decide) ?_
      exact hK26 (x2 + 0) (x3 + 1) w_2 h _ _ hP hD hS ls (lv_sub hl [3, 4, 1, 0] rfl)
  have J26 : ∀ (n : Nat) (x2 : Int32) (x3 : Int32) (mNow : Nat → Int32), lp_X7_pour_26 p1 mSiz mCel Q n x2 x3 mNow → ∀ (H : Heap) (locs : List Loc), va_P E.1 vwCl (rw_24 E mo mn mi ma ml mt mb mr mp mk mq mc mw mz ms mf mu mv mx mh mA mB mC mM mT mHI mFC mLC mCg mTp mNx mFr mTk mVa mEn mKe mCs mAt mHd mWg mNow mImg mAsd mLea mLat mBst mRsk mTap mKys mKat mCod mWts mTes mStk mFct mSor mSiz mCel mHol mHoA mHoB mHoC mMov mTel) H → va_D A (rw_24 E mo mn mi ma ml mt mb mr mp mk mq mc mw mz ms mf mu mv mx mh mA mB mC mM mT mHI mFC mLC mCg mTp mNx mFr mTk mVa mEn mKe mCs mAt mHd mWg mNow mImg mAsd mLea mLat mBst mRsk mTap mKys mKat mCod mWts mTes mStk mFct mSor mSiz mCel mHol mHoA mHoB mHoC mMov mTel) → va_S A s.heap H locs → ∀ ls : Array Slot, lv_has ls 6 [(0, .ref mo), (1, .int p1), (2, .int x2), (3, .int x3)] → W p l e ({ frames := 2, cells := 0, slots := 0, locals := 42 } : Room) s m args below meth c H locs 0 0 QQ (F0 m 26 ls []) := by
    intro n
    induction n with
    | zero =>
      intro x2 x3 mNow h
      exact False.elim h
    | succ n ih =>
      intro x2 x3 mNow h H locs hP hD hS ls hl
      have h : lp_X7_pour_26F p1 mSiz mCel Q (lp_X7_pour_26 p1 mSiz mCel Q n) x2 x3 mNow := h
      unfold lp_X7_pour_26F at h
      refine lv_iload_n hx hb dX7_pour_26 rfl (lv_at hl 3 rfl) ?_
      refine lv_aload_n hx hb dX7_pour_27 rfl (lv_at hl 0 rfl) ?_
      refine va_get (D := E.1) (ci := 7) (v := .ref mv) (C := RX7) (T := TX7) (N := 39) hx hb hts n_X7 hown hK hP 0 rfl rfl 30 (by decide) k_60 (fun _ h9 => h9) rfl dX7_pour_28 ?_
      refine lv_iload_n hx hb dX7_pour_31 rfl (lv_at hl 1 rfl) ?_
      obtain ⟨o_4, h⟩ := h
      refine rc_iald hx hb hK hP 17 0 rfl rfl p1.toNatClampNeg rfl o_4 dX7_pour_32 ?_
      refine lv_icmp_ge (tgt := 118) hx hb dX7_pour_33 (by decide) (fun c_5 => ?_) (fun c_5 => ?_)
      · have h := h.1 c_5
        refine lv_iload_n hx hb dX7_pour_118 rfl (lv_at hl 2 rfl) ?_
        exact hret _ _ _ _ x2 (mNow) rfl h hP hD hS dX7_pour_119
      · have h := h.2 c_5
        refine lv_iload_n hx hb dX7_pour_36 rfl (lv_at hl 3 rfl) ?_
        refine lv_aload_n hx hb dX7_pour_37 rfl (lv_at hl 0 rfl) ?_
        refine va_get (D := E.1) (ci := 7) (v := .ref mn) (C := RX7) (T := TX7) (N := 39) hx hb hts n_X7 hown hK hP 0 rfl rfl 0 (by decide) k_9 (fun _ h9 => h9) rfl dX7_pour_38 ?_
        refine lv_iconst (v := 1) hx hb dX7_pour_41 (by decide) ?_
        refine rc_iald hx hb hK hP 1 0 rfl rfl 1 (by decide) (by unfold vp_in; decide) dX7_pour_42 ?_
        refine lv_icmp_ge (tgt := 118) hx hb dX7_pour_43 (by decide) (fun c_6 => ?_) (fun c_6 => ?_)
        · have h := h.1 c_6
          refine lv_iload_n hx hb dX7_pour_118 rfl (lv_at hl 2 rfl) ?_
          exact hret _ _ _ _ x2 (mNow) rfl h hP hD hS dX7_pour_119
        · have h := h.2 c_6
          refine lv_aload_n hx hb dX7_pour_46 rfl (lv_at hl 0 rfl) ?_
          refine va_get (D := E.1) (ci := 7) (v := .ref mx) (C := RX7) (T := TX7) (N := 39) hx hb hts n_X7 hown hK hP 0 rfl rfl 31 (by decide) k_63 (fun _ h9 => h9) rfl dX7_pour_47 ?_
          refine lv_bipush (v := 24) hx hb dX7_pour_50 (by decide) ?_
          refine lv_iload_n hx hb dX7_pour_52 rfl (lv_at hl 1 rfl) ?_
          refine lv_imul hx hb dX7_pour_53 ?_
          refine lv_iload_n hx hb dX7_pour_54 rfl (lv_at hl 3 rfl) ?_
          refine lv_iadd hx hb dX7_pour_55 ?_
          obtain ⟨o_7, h⟩ := h
          refine rc_iald hx hb hK hP 18 0 rfl rfl (((24 * p1) + x3).toNatClampNeg) rfl o_7 dX7_pour_56 ?_
          refine lv_istore (lv' := [(4, .int (mCel (((24 * p1) + x3).toNatClampNeg))), (0, .ref mo), (1, .int p1), (2, .int x2), (3, .int x3)]) hx hb dX7_pour_57 hl (by decide) rfl (fun ls hl => ?_)
          refine lv_iload hx hb dX7_pour_59 (lv_at hl 0 rfl) ?_
          refine lv_ldc hx hb hown k_84 dX7_pour_61 ?_
          refine lv_icmp_ne (tgt := 75) hx hb dX7_pour_63 (by decide) (fun c_8 => ?_) (fun c_8 => ?_)
          · have h := h.1 c_8
            refine lv_iload hx hb dX7_pour_75 (lv_at hl 0 rfl) ?_
            refine lv_iconst (v := 0) hx hb dX7_pour_77 (by decide) ?_
            refine lv_bipush (v := 99) hx hb dX7_pour_78 (by decide) ?_
            have hPc := hP.sub (ws' := []) [] rfl
            have hDc := hD.sub (ws' := []) [] (by decide) rfl
            have hFc := va_free (wc := []) hD hS hA [] rfl
            refine va_calli (va_runS (As := [.int (mCel (((24 * p1) + x3).toNatClampNeg)), .int 0, .int 99]) (rest := []) ⟨hx, hb, hml, hown, hts⟩ (c_X7_within l E H.size (mCel (((24 * p1) + x3).toNatClampNeg)) 0 99 _ h) (va_cwS 3 hts gX7_pour_X7_within rfl rfl rfl (by decide +kernel) ⟨Nat.le_of_ble_eq_true rfl, Nat.le_of_ble_eq_true rfl⟩) ⟨fun a U g mk q => ⟨q.1, q.2.blind⟩, fun U hU hW => ⟨rfl, by rw [hU], by rw [hU]; exact hPc, hE.call hS hFc hW hU, hDc.weaken (fun _ _ _ _ => trivial)⟩⟩ rfl rfl hl.1 rfl (lv_room (Nat.le_of_ble_eq_true rfl)) dX7_pour_80 ⟨Nat.zero_le _, Nat.zero_le _⟩) hS (fun q _ h => hFc q h) hFc (fun r_9 u t H1 locs ht hvm h hB hz1 hk1 hS => ?_)
            obtain ⟨hP1, hD1⟩ := hB
            rw [ht] at hP1
            obtain ⟨hP, hD⟩ := rc_foc hP hD [] [none, none, none, none, none, none, none, none, none, none, none, none, none, none, none, none, none, none, none, none, none, none, none, none, none] (by decide) rfl hk1 hP1 rfl
            generalize H1 = H at hP hS ⊢
            have hP : va_P E.1 vwCl (rw_24 E mo mn mi ma ml mt mb mr mp mk mq mc mw mz ms mf mu mv mx mh mA mB mC mM mT mHI mFC mLC mCg mTp mNx mFr mTk mVa mEn mKe mCs mAt mHd mWg mNow mImg mAsd mLea mLat mBst mRsk mTap mKys mKat mCod mWts mTes mStk mFct mSor mSiz mCel mHol mHoA mHoB mHoC mMov mTel) H := hP
            have hD : va_D A (rw_24 E mo mn mi ma ml mt mb mr mp mk mq mc mw mz ms mf mu mv mx mh mA mB mC mM mT mHI mFC mLC mCg mTp mNx mFr mTk mVa mEn mKe mCs mAt mHd mWg mNow mImg mAsd mLea mLat mBst mRsk mTap mKys mKat mCod mWts mTes mStk mFct mSor mSiz mCel mHol mHoA mHoB mHoC mMov mTel) := hD
            exact J83 _ (fun v0 v1 v2 h => ih v0 v1 v2 h) x2 x3 r_9 mNow h _ _ hP hD hS ls (lv_sub hl [1, 2, 3, 4] rfl)
          · have h := h.2 c_8
            refine lv_aload_n hx hb dX7_pour_66 rfl (lv_at hl 1 rfl) ?_
            refine lv_iload_n hx hb dX7_pour_67 rfl (lv_at hl 4 rfl) ?_
            refine lv_iconst (v := 1) hx hb dX7_pour_68 (by decide) ?_
            have hPc := hP
            have hDc := hD
            have hFc := rc_freeI hD hS hA
            refine va_calli (va_runV (As := [.int x3, .int 1]) (rest := []) ⟨hx, hb, hml, hown, hts⟩ (c_X7_of l E mo mn mi ma ml mt mb mr mp mk mq mc mw mz ms mf mu mv mx mh mA mB mC mM mT H.size mHI mFC mLC mCg mTp mNx mFr mTk mVa mEn mKe mCs mAt mHd mWg mNow mImg mAsd mLea mLat mBst mRsk mTap mKys mKat mCod mWts mTes mStk mFct mSor mSiz mCel mHol mHoA mHoB mHoC mMov mTel x3 1 _ h) (cwV 2 hts gX7_pour_X7_of rfl rfl rfl (by decide +kernel) ⟨Nat.le_of_ble_eq_true rfl, Nat.le_of_ble_eq_true rfl⟩) ⟨fun a U g mk q => ⟨q.1, q.2.blind⟩, va_recv hK hPc (ci := 7) (q0 := 0) rfl rfl, fun U hU hW => ⟨rfl, by rw [hU], by rw [hU]; exact hPc, hE.call hS hFc hW hU, hDc.weaken (fun _ _ _ _ => trivial)⟩⟩ rfl rfl hl.1 rfl (lv_room (Nat.le_of_ble_eq_true rfl)) dX7_pour_69 ⟨Nat.zero_le _, Nat.zero_le _⟩) hS (fun q _ h => hFc q h) hFc (fun r_10 u t H1 locs ht hvm h hB hz1 hk1 hS => ?_)
            obtain ⟨hP1, hD1⟩ := hB
            rw [ht] at hP1
            have hP := hP1
            have hD := hD1.weaken (fun _ _ _ h => hFc _ h)
            generalize H1 = H at hP hS ⊢
            have hP : va_P E.1 vwCl (rw_24 E mo mn mi ma ml mt mb mr mp mk mq mc mw mz ms mf mu mv mx mh mA mB mC mM mT mHI mFC mLC mCg mTp mNx mFr mTk mVa mEn mKe mCs mAt mHd mWg mNow mImg mAsd mLea mLat mBst mRsk mTap mKys mKat mCod mWts mTes mStk mFct mSor mSiz mCel mHol mHoA mHoB mHoC mMov mTel) H := hP
            have hD : va_D A (rw_24 E mo mn mi ma ml mt mb mr mp mk mq mc mw mz ms mf mu mv mx mh mA mB mC mM mT mHI mFC mLC mCg mTp mNx mFr mTk mVa mEn mKe mCs mAt mHd mWg mNow mImg mAsd mLea mLat mBst mRsk mTap mKys mKat mCod mWts mTes mStk mFct mSor mSiz mCel mHol mHoA mHoB mHoC mMov mTel) := hD
            refine lv_goto (tgt := 83) hx hb dX7_pour_72 (by decide) ?_
            exact J83 _ (fun v0 v1 v2 h => ih v0 v1 v2 h) x2 x3 r_10 mNow h _ _ hP hD hS ls (lv_sub hl [1, 2, 3, 4] rfl)
  unfold wp_X7_pour at h
  obtain ⟨H, hH⟩ : ∃ H, H = s.heap := ⟨_, rfl⟩
  obtain ⟨locs, hlocs⟩ : ∃ locs : List Loc, locs = [] := ⟨_, rfl⟩
  have hP : va_P E.1 vwCl (rw_24 E mo mn mi ma ml mt mb mr mp mk mq mc mw mz ms mf mu mv mx mh mA mB mC mM mT mHI mFC mLC mCg mTp mNx mFr mTk mVa mEn mKe mCs mAt mHd mWg mNow mImg mAsd mLea mLat mBst mRsk mTap mKys mKat mCod mWts mTes mStk mFct mSor mSiz mCel mHol mHoA mHoB mHoC mMov mTel) H := by rw [hH]; exact hP
  have hS : va_S A s.heap H locs := by rw [hH, hlocs]; exact hS
  suffices hgo : W p l e ({ frames := 2, cells := 0, slots := 0, locals := 42 } : Room) s m args below meth c H locs 0 0 QQ (F0 m 0 ls []) from by rw [hH, hlocs] at hgo; exact hgo
  refine lv_iload_n hx hb dX7_pour_0 rfl (lv_at hl 1 rfl) ?_
  have hPc := hP.sub (ws' := []) [] rfl
  have hDc := hD.sub (ws' := []) [] (by decide) rfl
  have hFc := va_free (wc := []) hD hS hA [] rfl
  refine va_calli (va_runS (As := [.int p1]) (rest := []) ⟨hx, hb, hml, hown, hts⟩ (c_X7_isSheet l E H.size p1 _ h) (va_cwS 1 hts gX7_pour_X7_isSheet rfl rfl rfl (by decide +kernel) ⟨Nat.le_of_ble_eq_true rfl, Nat.le_of_ble_eq_true rfl⟩) ⟨fun a U g mk q => ⟨q.1, q.2.blind⟩, fun U hU hW => ⟨rfl, by rw [hU], by rw [hU]; exact hPc, hE.call hS hFc hW hU, hDc.weaken (fun _ _ _ _ => trivial)⟩⟩ rfl rfl hl.1 rfl (lv_room (Nat.le_of_ble_eq_true rfl)) dX7_pour_1 ⟨Nat.zero_le _, Nat.zero_le _⟩) hS (fun q _ h => hFc q h) hFc (fun r_11 u t H1 locs ht hvm h hB hz1 hk1 hS => ?_)
  obtain ⟨hP1, hD1⟩ := hB
  rw [ht] at hP1
  obtain ⟨hP, hD⟩ := rc_foc hP hD [] [none, none, none, none, none, none, none, none, none, none, none, none, none, none, none, none, none, none, none, none, none, none, none, none, none] (by decide) rfl hk1 hP1 rfl
  generalize H1 = H at hP hS ⊢
  have hP : va_P E.1 vwCl (rw_24 E mo mn mi ma ml mt mb mr mp mk mq mc mw mz ms mf mu mv mx mh mA mB mC mM mT mHI mFC mLC mCg mTp mNx mFr mTk mVa mEn mKe mCs mAt mHd mWg mNow mImg mAsd mLea mLat mBst mRsk mTap mKys mKat mCod mWts mTes mStk mFct mSor mSiz mCel mHol mHoA mHoB mHoC mMov mTel) H := hP
  have hD : va_D A (rw_24 E mo mn mi ma ml mt mb mr mp mk mq mc mw mz ms mf mu mv mx mh mA mB mC mM mT mHI mFC mLC mCg mTp mNx mFr mTk mVa mEn mKe mCs mAt mHd mWg mNow mImg mAsd mLea mLat mBst mRsk mTap mKys mKat mCod mWts mTes mStk mFct mSor mSiz mCel mHol mHoA mHoB mHoC mMov mTel) := hD
  refine lv_if_ne (tgt := 10) hx hb dX7_pour_4 (by decide) (fun c_12 => ?_) (fun c_12 => ?_)
  · have h := h.1 c_12
    refine lv_aload_n hx hb dX7_pour_10 rfl (lv_at hl 0 rfl) ?_
    refine va_get (D := E.1) (ci := 7) (v := .ref mu) (C := RX7) (T := TX7) (N := 39) hx hb hts n_X7 hown hK hP 0 rfl rfl 29 (by decide) k_57 (fun _ h9 => h9) rfl dX7_pour_11 ?_
    refine lv_iload_n hx hb dX7_pour_14 rfl (lv_at hl 1 rfl) ?_
    obtain ⟨o_13, h⟩ := h
    refine rc_iald hx hb hK hP 16 0 rfl rfl p1.toNatClampNeg rfl o_13 dX7_pour_15 ?_
    refine lv_if_ge (tgt := 22) hx hb dX7_pour_16 (by decide) (fun c_14 => ?_) (fun c_14 => ?_)
    · have h := h.1 c_14
      refine lv_iconst (v := 0) hx hb dX7_pour_22 (by decide) ?_
      refine lv_istore_n (lv' := [(2, .int 0), (0, .ref mo), (1, .int p1)]) hx hb dX7_pour_23 rfl hl (by decide) rfl (fun ls hl => ?_)
      refine lv_iconst (v := 0) hx hb dX7_pour_24 (by decide) ?_
      refine lv_istore_n (lv' := [(3, .int 0), (2, .int 0), (0, .ref mo), (1, .int p1)]) hx hb dX7_pour_25 rfl hl (by decide) rfl (fun ls hl => ?_)
      obtain ⟨n, h⟩ := h
      exact J26 n 0 0 mNow h _ _ hP hD hS ls (lv_sub hl [2, 3, 1, 0] rfl)
    · have h := h.2 c_14
      refine lv_ldc hx hb hown k_177 dX7_pour_19 ?_
      exact hret _ _ _ _ (-1000000011) (mNow) rfl h hP hD hS dX7_pour_21
  · have h := h.2 c_12
    refine lv_ldc hx hb hown k_89 dX7_pour_7 ?_
    exact hret _ _ _ _ (-1000000001) (mNow) rfl h hP hD hS dX7_pour_9
def lp_X7_reads_24F (p1 : Int32) (mNow : Nat → Int32) (mSiz : Nat → Int32) (mCel : Nat → Int32)  (Q : Int32 → (Nat → Int32) → (Nat → Int32) → Prop) (R : Int32 → (Nat → Int32) → (Nat → Int32) → Prop) (x2 : Int32) (mStk : Nat → Int32) (mFct : Nat → Int32) : Prop :=
  (vp_in p1 4 ∧ (((mSiz p1.toNatClampNeg) ≤ x2 → Q (-1000000005) mStk mFct) ∧ (¬ ((mSiz p1.toNatClampNeg) ≤ x2) → (vp_in ((24 * p1) + x2) 96 ∧ (((mCel (((24 * p1) + x2).toNatClampNeg)) = (-1000000005) → R (x2 + 1) mStk mFct) ∧ (¬ ((mCel (((24 * p1) + x2).toNatClampNeg)) = (-1000000005)) → wp_X7_isPlace x2 mNow (fun (r_5 : Int32) => ((r_5 = 0 → Q x2 mStk mFct) ∧ (¬ (r_5 = 0) → wp_X7_riskOf x2 mNow mStk mFct (fun (r_7 : Int32) (w_8 : Nat → Int32) (w_9 : Nat → Int32) => (((mCel (((24 * p1) + x2).toNatClampNeg)) = r_7 → R (x2 + 1) w_8 w_9) ∧ (¬ ((mCel (((24 * p1) + x2).toNatClampNeg)) = r_7) → Q x2 w_8 w_9))))))))))))
def lp_X7_reads_24 (p1 : Int32) (mNow : Nat → Int32) (mSiz : Nat → Int32) (mCel : Nat → Int32)  (Q : Int32 → (Nat → Int32) → (Nat → Int32) → Prop) (n : Nat) : Int32 → (Nat → Int32) → (Nat → Int32) → Prop :=
  Nat.rec (motive := fun _ => Int32 → (Nat → Int32) → (Nat → Int32) → Prop) (fun _ _ _ => False) (fun _ r => lp_X7_reads_24F p1 mNow mSiz mCel Q r) n
def wp_X7_reads (p1 : Int32) (mNow : Nat → Int32) (mStk : Nat → Int32) (mFct : Nat → Int32) (mSor : Nat → Int32) (mSiz : Nat → Int32) (mCel : Nat → Int32) (Q : Int32 → (Nat → Int32) → (Nat → Int32) → Prop) : Prop :=
  wp_X7_isSheet p1 (fun (r_11 : Int32) => ((¬ r_11 = 0 → (vp_in p1 4 ∧ ((0 ≤ (mSor p1.toNatClampNeg) → (∃ n : Nat, lp_X7_reads_24 p1 mNow mSiz mCel Q n 0 mStk mFct)) ∧ (¬ (0 ≤ (mSor p1.toNatClampNeg)) → Q (-1000000011) mStk mFct)))) ∧ (r_11 = 0 → Q (-1000000001) mStk mFct)))
set_option maxHeartbeats 4000000 in
set_option maxRecDepth 100000 in
theorem c_X7_reads (l : Launch) (E : gE) (mo mn mi ma ml mt mb mr mp mk mq mc mw mz ms mf mu mv mx mh mA mB mC mM mT : Nat) (sz : Nat) (mHI : Int32) (mFC : Int32) (mLC : Int32) (mCg : Int32) (mTp : Int32) (mNx : Int32) (mFr : Int32) (mTk : Int32) (mVa : Int32) (mEn : Int32) (mKe : Int32) (mCs : Int32) (mAt : Int32) (mHd : Int32) (mWg : Int32) (mNow : Nat → Int32) (mImg : Nat → Int32) (mAsd : Nat → Int32) (mLea : Nat → Int32) (mLat : Nat → Int32) (mBst : Nat → Int32) (mRsk : Nat → Int32) (mTap : Nat → Int32) (mKys : Nat → Int32) (mKat : Nat → Int32) (mCod : Nat → Int32) (mWts : Nat → Int32) (mTes : Nat → Int32) (mStk : Nat → Int32) (mFct : Nat → Int32) (mSor : Nat → Int32) (mSiz : Nat → Int32) (mCel : Nat → Int32) (mHol : Nat → Int32) (mHoA : Nat → Int32) (mHoB : Nat → Int32) (mHoC : Nat → Int32) (mMov : Nat → Int32) (mTel : Nat → Int32) (p1 : Int32)  (Q : Int32 → (Nat → Int32) → (Nat → Int32) → Prop) (h : wp_X7_reads p1 mNow mStk mFct mSor mSiz mCel Q) : Met l yX7_reads wsX7_reads ({ frames := 3, cells := 0, slots := 0, locals := 70 } : Room) (va_Pc [.ref mo, .int p1] (rc_B E (rw_24 E mo mn mi ma ml mt mb mr mp mk mq mc mw mz ms mf mu mv mx mh mA mB mC mM mT mHI mFC mLC mCg mTp mNx mFr mTk mVa mEn mKe mCs mAt mHd mWg mNow mImg mAsd mLea mLat mBst mRsk mTap mKys mKat mCod mWts mTes mStk mFct mSor mSiz mCel mHol mHoA mHoB mHoC mMov mTel) sz)) (va_Qi (S := (Nat → Int32) × (Nat → Int32)) (fun (r : Int32) (u : (Nat → Int32) × (Nat → Int32)) => Q r u.1 u.2) (fun u t => rc_C E (va_A (rw_24 E mo mn mi ma ml mt mb mr mp mk mq mc mw mz ms mf mu mv mx mh mA mB mC mM mT mHI mFC mLC mCg mTp mNx mFr mTk mVa mEn mKe mCs mAt mHd mWg mNow mImg mAsd mLea mLat mBst mRsk mTap mKys mKat mCod mWts mTes mStk mFct mSor mSiz mCel mHol mHoA mHoB mHoC mMov mTel) sz) (rw_24 E mo mn mi ma ml mt mb mr mp mk mq mc mw mz ms mf mu mv mx mh mA mB mC mM mT mHI mFC mLC mCg mTp mNx mFr mTk mVa mEn mKe mCs mAt mHd mWg mNow mImg mAsd mLea mLat mBst mRsk mTap mKys mKat mCod mWts mTes u.1 u.2 mSor mSiz mCel mHol mHoA mHoB mHoC mMov mTel) t) (va_A (rw_24 E mo mn mi ma ml mt mb mr mp mk mq mc mw mz ms mf mu mv mx mh mA mB mC mM mT mHI mFC mLC mCg mTp mNx mFr mTk mVa mEn mKe mCs mAt mHd mWg mNow mImg mAsd mLea mLat mBst mRsk mTap mKys mKat mCod mWts mTes mStk mFct mSor mSiz mCel mHol mHoA mHoB mHoC mMov mTel) sz)) 0 0 (va_A (rw_24 E mo mn mi ma ml mt mb mr mp mk mq mc mw mz ms mf mu mv mx mh mA mB mC mM mT mHI mFC mLC mCg mTp mNx mFr mTk mVa mEn mKe mCs mAt mHd mWg mNow mImg mAsd mLea mLat mBst mRsk mTap mKys mKat mCod mWts mTes mStk mFct mSor mSiz mCel mHol mHoA mHoB mHoC mMov mTel) sz) := by
  refine rc_enterI (cc := cX7_reads) (maxL := 4) (by decide) rfl (Nat.le_of_ble_eq_true rfl) ?_
  intro p e s m args below meth c QQ A hx hb hml hown hts hmn hE hP hD hA hret ls hl
  have hown : s.vm.findClass RX7 = some m.cls := hown
  have hK := hE.1
  have hS : va_S A s.heap s.heap [] := va_S.rf
  have hl : lv_has ls 4 [(0, .ref mo), (1, .int p1)] := hl
  have n_X7 : ∀ w ∈ wsX70, w ∈ wsX7_reads := fun _ h => List.mem_cons_of_mem _ (List.mem_append_right _ h)
  have k_60 := hts (.fieldLink RX7 60 "RidgeClapsModel" "sizes" "[I") (List.mem_of_getElem? (i := 4) rfl)
  have k_84 := hts (.constant RX7 84 (-1000000005)) (List.mem_of_getElem? (i := 6) rfl)
  have k_63 := hts (.fieldLink RX7 63 "RidgeClapsModel" "cells" "[I") (List.mem_of_getElem? (i := 5) rfl)
  have k_57 := hts (.fieldLink RX7 57 "RidgeClapsModel" "sorts" "[I") (List.mem_of_getElem? (i := 2) rfl)
  have k_177 := hts (.constant RX7 177 (-1000000011)) (List.mem_of_getElem? (i := 3) rfl)
  have k_89 := hts (.constant RX7 89 (-1000000001)) (List.mem_of_getElem? (i := 1) rfl)
  have J24 : ∀ (n : Nat) (x2 : Int32) (mStk : Nat → Int32) (mFct : Nat → Int32), lp_X7_reads_24 p1 mNow mSiz mCel Q n x2 mStk mFct → ∀ (H : Heap) (locs : List Loc), va_P E.1 vwCl (rw_24 E mo mn mi ma ml mt mb mr mp mk mq mc mw mz ms mf mu mv mx mh mA mB mC mM mT mHI mFC mLC mCg mTp mNx mFr mTk mVa mEn mKe mCs mAt mHd mWg mNow mImg mAsd mLea mLat mBst mRsk mTap mKys mKat mCod mWts mTes mStk mFct mSor mSiz mCel mHol mHoA mHoB mHoC mMov mTel) H → va_D A (rw_24 E mo mn mi ma ml mt mb mr mp mk mq mc mw mz ms mf mu mv mx mh mA mB mC mM mT mHI mFC mLC mCg mTp mNx mFr mTk mVa mEn mKe mCs mAt mHd mWg mNow mImg mAsd mLea mLat mBst mRsk mTap mKys mKat mCod mWts mTes mStk mFct mSor mSiz mCel mHol mHoA mHoB mHoC mMov mTel) → va_S A s.heap H locs → ∀ ls : Array Slot, lv_has ls 4 [(0, .ref mo), (1, .int p1), (2, .int x2)] → W p l e ({ frames := 3, cells := 0, slots := 0, locals := 70 } : Room) s m args below meth c H locs 0 0 QQ (F0 m 24 ls []) := by
    intro n
    induction n with
    | zero =>
      intro x2 mStk mFct h
      exact False.elim h
    | succ n ih =>
      intro x2 mStk mFct h H locs hP hD hS ls hl
      have h : lp_X7_reads_24F p1 mNow mSiz mCel Q (lp_X7_reads_24 p1 mNow mSiz mCel Q n) x2 mStk mFct := h
      unfold lp_X7_reads_24F at h
      refine lv_iload_n hx hb dX7_reads_24 rfl (lv_at hl 2 rfl) ?_
      refine lv_aload_n hx hb dX7_reads_25 rfl (lv_at hl 0 rfl) ?_
      refine va_get (D := E.1) (ci := 7) (v := .ref mv) (C := RX7) (T := TX7) (N := 39) hx hb hts n_X7 hown hK hP 0 rfl rfl 30 (by decide) k_60 (fun _ h9 => h9) rfl dX7_reads_26 ?_
      refine lv_iload_n hx hb dX7_reads_29 rfl (lv_at hl 1 rfl) ?_
      obtain ⟨o_1, h⟩ := h
      refine rc_iald hx hb hK hP 17 0 rfl rfl p1.toNatClampNeg rfl o_1 dX7_reads_30 ?_
      refine lv_icmp_ge (tgt := 77) hx hb dX7_reads_31 (by decide) (fun c_2 => ?_) (fun c_2 => ?_)
      · have h := h.1 c_2
        refine lv_ldc hx hb hown k_84 dX7_reads_77 ?_
        exact hret _ _ _ _ (-1000000005) (mStk, mFct) rfl h hP hD hS dX7_reads_79
      · have h := h.2 c_2
        refine lv_aload_n hx hb dX7_reads_34 rfl (lv_at hl 0 rfl) ?_
        refine va_get (D := E.1) (ci := 7) (v := .ref mx) (C := RX7) (T := TX7) (N := 39) hx hb hts n_X7 hown hK hP 0 rfl rfl 31 (by decide) k_63 (fun _ h9 => h9) rfl dX7_reads_35 ?_
        refine lv_bipush (v := 24) hx hb dX7_reads_38 (by decide) ?_
        refine lv_iload_n hx hb dX7_reads_40 rfl (lv_at hl 1 rfl) ?_
        refine lv_imul hx hb dX7_reads_41 ?_
        refine lv_iload_n hx hb dX7_reads_42 rfl (lv_at hl 2 rfl) ?_
        refine lv_iadd hx hb dX7_reads_43 ?_
        obtain ⟨o_3, h⟩ := h
        refine rc_iald hx hb hK hP 18 0 rfl rfl (((24 * p1) + x2).toNatClampNeg) rfl o_3 dX7_reads_44 ?_
        refine lv_istore_n (lv' := [(3, .int (mCel (((24 * p1) + x2).toNatClampNeg))), (0, .ref mo), (1, .int p1), (2, .int x2)]) hx hb dX7_reads_45 rfl hl (by decide) rfl (fun ls hl => ?_)
        refine lv_iload_n hx hb dX7_reads_46 rfl (lv_at hl 0 rfl) ?_
        refine lv_ldc hx hb hown k_84 dX7_reads_47 ?_
        refine lv_icmp_eq (tgt := 71) hx hb dX7_reads_49 (by decide) (fun c_4 => ?_) (fun c_4 => ?_)
        · have h := h.1 c_4
          refine lv_iinc (v := x2 + 1) (lv' := [(2, .int (x2 + 1)), (3, .int (mCel (((24 * p1) + x2).toNatClampNeg))), (0, .ref mo), (1, .int p1)]) hx hb dX7_reads_71 hl (k := 3) rfl (by rfl) (by decide) rfl (fun ls hl => ?_)
          refine lv_goto (tgt := 24) hx hb dX7_reads_74 (by decide) ?_
          exact ih (x2 + 1) mStk mFct h _ _ hP hD hS ls (lv_sub hl [2, 3, 0] rfl)
        · have h := h.2 c_4
          refine lv_aload_n hx hb dX7_reads_52 rfl (lv_at hl 1 rfl) ?_
          refine lv_iload_n hx hb dX7_reads_53 rfl (lv_at hl 3 rfl) ?_
          have hPc := hP
          have hDc := hD
          have hFc := rc_freeI hD hS hA
          refine va_calli (va_runV (As := [.int x2]) (rest := []) ⟨hx, hb, hml, hown, hts⟩ (c_X7_isPlace l E mo mn mi ma ml mt mb mr mp mk mq mc mw mz ms mf mu mv mx mh mA mB mC mM mT H.size mHI mFC mLC mCg mTp mNx mFr mTk mVa mEn mKe mCs mAt mHd mWg mNow mImg mAsd mLea mLat mBst mRsk mTap mKys mKat mCod mWts mTes mStk mFct mSor mSiz mCel mHol mHoA mHoB mHoC mMov mTel x2 _ h) (cwV 1 hts gX7_reads_X7_isPlace rfl rfl rfl (by decide +kernel) ⟨Nat.le_of_ble_eq_true rfl, Nat.le_of_ble_eq_true rfl⟩) ⟨fun a U g mk q => ⟨q.1, q.2.blind⟩, va_recv hK hPc (ci := 7) (q0 := 0) rfl rfl, fun U hU hW => ⟨rfl, by rw [hU], by rw [hU]; exact hPc, hE.call hS hFc hW hU, hDc.weaken (fun _ _ _ _ => trivial)⟩⟩ rfl rfl hl.1 rfl (lv_room (Nat.le_of_ble_eq_true rfl)) dX7_reads_54 ⟨Nat.zero_le _, Nat.zero_le _⟩) hS (fun q _ h => hFc q h) hFc (fun r_5 u t H1 locs ht hvm h hB hz1 hk1 hS => ?_)
          obtain ⟨hP1, hD1⟩ := hB
          rw [ht] at hP1
          have hP := hP1
          have hD := hD1.weaken (fun _ _ _ h => hFc _ h)
          generalize H1 = H at hP hS ⊢
          have hP : va_P E.1 vwCl (rw_24 E mo mn mi ma ml mt mb mr mp mk mq mc mw mz ms mf mu mv mx mh mA mB mC mM mT mHI mFC mLC mCg mTp mNx mFr mTk mVa mEn mKe mCs mAt mHd mWg mNow mImg mAsd mLea mLat mBst mRsk mTap mKys mKat mCod mWts mTes mStk mFct mSor mSiz mCel mHol mHoA mHoB mHoC mMov mTel) H := hP
          have hD : va_D A (rw_24 E mo mn mi ma ml mt mb mr mp mk mq mc mw mz ms mf mu mv mx mh mA mB mC mM mT mHI mFC mLC mCg mTp mNx mFr mTk mVa mEn mKe mCs mAt mHd mWg mNow mImg mAsd mLea mLat mBst mRsk mTap mKys mKat mCod mWts mTes mStk mFct mSor mSiz mCel mHol mHoA mHoB mHoC mMov mTel) := hD
          refine lv_if_eq (tgt := 69) hx hb dX7_reads_57 (by decide) (fun c_6 => ?_) (fun c_6 => ?_)
          · have h := h.1 c_6
            refine lv_iload_n hx hb dX7_reads_69 rfl (lv_at hl 3 rfl) ?_
            exact hret _ _ _ _ x2 (mStk, mFct) rfl h hP hD hS dX7_reads_70
          · have h := h.2 c_6
            refine lv_iload_n hx hb dX7_reads_60 rfl (lv_at hl 0 rfl) ?_
            refine lv_aload_n hx hb dX7_reads_61 rfl (lv_at hl 1 rfl) ?_
            refine lv_iload_n hx hb dX7_reads_62 rfl (lv_at hl 3 rfl) ?_
            have hPc := hP
            have hDc := hD
            have hFc := rc_freeI hD hS hA
            refine va_calli (va_runV (As := [.int x2]) (rest := [.int (mCel (((24 * p1) + x2).toNatClampNeg))]) ⟨hx, hb, hml, hown, hts⟩ (c_X7_riskOf l E mo mn mi ma ml mt mb mr mp mk mq mc mw mz ms mf mu mv mx mh mA mB mC mM mT H.size mHI mFC mLC mCg mTp mNx mFr mTk mVa mEn mKe mCs mAt mHd mWg mNow mImg mAsd mLea mLat mBst mRsk mTap mKys mKat mCod mWts mTes mStk mFct mSor mSiz mCel mHol mHoA mHoB mHoC mMov mTel x2 _ h) (cwV 1 hts gX7_reads_X7_riskOf rfl rfl rfl (by decide +kernel) ⟨Nat.le_of_ble_eq_true rfl, Nat.le_of_ble_eq_true rfl⟩) ⟨fun a U g mk q => ⟨q.1, q.2.blind⟩, va_recv hK hPc (ci := 7) (q0 := 0) rfl rfl, fun U hU hW => ⟨rfl, by rw [hU], by rw [hU]; exact hPc, hE.call hS hFc hW hU, hDc.weaken (fun _ _ _ _ => trivial)⟩⟩ rfl rfl hl.1 rfl (lv_room (Nat.le_of_ble_eq_true rfl)) dX7_reads_63 ⟨Nat.zero_le _, Nat.zero_le _⟩) hS (fun q _ h => hFc q h) hFc (fun r_7 u t H1 locs ht hvm h hB hz1 hk1 hS => ?_)
            obtain ⟨w_8, w_9⟩ := u
            obtain ⟨hP1, hD1⟩ := hB
            rw [ht] at hP1
            have hP := hP1
            have hD := hD1.weaken (fun _ _ _ h => hFc _ h)
            generalize H1 = H at hP hS ⊢
            have hP : va_P E.1 vwCl (rw_24 E mo mn mi ma ml mt mb mr mp mk mq mc mw mz ms mf mu mv mx mh mA mB mC mM mT mHI mFC mLC mCg mTp mNx mFr mTk mVa mEn mKe mCs mAt mHd mWg mNow mImg mAsd mLea mLat mBst mRsk mTap mKys mKat mCod mWts mTes w_8 w_9 mSor mSiz mCel mHol mHoA mHoB mHoC mMov mTel) H := hP
            have hD : va_D A (rw_24 E mo mn mi ma ml mt mb mr mp mk mq mc mw mz ms mf mu mv mx mh mA mB mC mM mT mHI mFC mLC mCg mTp mNx mFr mTk mVa mEn mKe mCs mAt mHd mWg mNow mImg mAsd mLea mLat mBst mRsk mTap mKys mKat mCod mWts mTes w_8 w_9 mSor mSiz mCel mHol mHoA mHoB mHoC mMov mTel) := hD
            refine lv_icmp_eq (tgt := 71) hx hb dX7_reads_66 (by decide) (fun c_10 => ?_) (fun c_10 => ?_)
            · have h := h.1 c_10
              refine lv_iinc (v := x2 + 1) (lv' := [(2, .int (x2 + 1)), (3, .int (mCel (((24 * p1) + x2).toNatClampNeg))), (0, .ref mo), (1, .int p1)]) hx hb dX7_reads_71 hl (k := 3) rfl (by rfl) (by decide) rfl (fun ls hl => ?_)
              refine lv_goto (tgt := 24) hx hb dX7_reads_74 (by decide) ?_
              exact ih (x2 + 1) w_8 w_9 h _ _ hP hD hS ls (lv_sub hl [2, 3, 0] rfl)
            · have h := h.2 c_10
              refine lv_iload_n hx hb dX7_reads_69 rfl (lv_at hl 3 rfl) ?_
              exact hret _ _ _ _ x2 (w_8, w_9) rfl h hP hD hS dX7_reads_70
  unfold wp_X7_reads at h
  obtain ⟨H, hH⟩ : ∃ H, H = s.heap := ⟨_, rfl⟩
  obtain ⟨locs, hlocs⟩ : ∃ locs : List Loc, locs = [] := ⟨_, rfl⟩
  have hP : va_P E.1 vwCl (rw_24 E mo mn mi ma ml mt mb mr mp mk mq mc mw mz ms mf mu mv mx mh mA mB mC mM mT mHI mFC mLC mCg mTp mNx mFr mTk mVa mEn mKe mCs mAt mHd mWg mNow mImg mAsd mLea mLat mBst mRsk mTap mKys mKat mCod mWts mTes mStk mFct mSor mSiz mCel mHol mHoA mHoB mHoC mMov mTel) H := by rw [hH]; exact hP
  have hS : va_S A s.heap H locs := by rw [hH, hlocs]; exact hS
  suffices hgo : W p l e ({ frames := 3, cells := 0, slots := 0, locals := 70 } : Room) s m args below meth c H locs 0 0 QQ (F0 m 0 ls []) from by rw [hH, hlocs] at hgo; exact hgo
  refine lv_iload_n hx hb dX7_reads_0 rfl (lv_at hl 1 rfl) ?_
  have hPc := hP.sub (ws' := []) [] rfl
  have hDc := hD.sub (ws' := []) [] (by decide) rfl
  have hFc := va_free (wc := []) hD hS hA [] rfl
  refine va_calli (va_runS (As := [.int p1]) (rest := []) ⟨hx, hb, hml, hown, hts⟩ (c_X7_isSheet l E H.size p1 _ h) (va_cwS 1 hts gX7_reads_X7_isSheet rfl rfl rfl (by decide +kernel) ⟨Nat.le_of_ble_eq_true rfl, Nat.le_of_ble_eq_true rfl⟩) ⟨fun a U g mk q => ⟨q.1, q.2.blind⟩, fun U hU hW => ⟨rfl, by rw [hU], by rw [hU]; exact hPc, hE.call hS hFc hW hU, hDc.weaken (fun _ _ _ _ => trivial)⟩⟩ rfl rfl hl.1 rfl (lv_room (Nat.le_of_ble_eq_true rfl)) dX7_reads_1 ⟨Nat.zero_le _, Nat.zero_le _⟩) hS (fun q _ h => hFc q h) hFc (fun r_11 u t H1 locs ht hvm h hB hz1 hk1 hS => ?_)
  obtain ⟨hP1, hD1⟩ := hB
  rw [ht] at hP1
  obtain ⟨hP, hD⟩ := rc_foc hP hD [] [none, none, none, none, none, none, none, none, none, none, none, none, none, none, none, none, none, none, none, none, none, none, none, none, none] (by decide) rfl hk1 hP1 rfl
  generalize H1 = H at hP hS ⊢
  have hP : va_P E.1 vwCl (rw_24 E mo mn mi ma ml mt mb mr mp mk mq mc mw mz ms mf mu mv mx mh mA mB mC mM mT mHI mFC mLC mCg mTp mNx mFr mTk mVa mEn mKe mCs mAt mHd mWg mNow mImg mAsd mLea mLat mBst mRsk mTap mKys mKat mCod mWts mTes mStk mFct mSor mSiz mCel mHol mHoA mHoB mHoC mMov mTel) H := hP
  have hD : va_D A (rw_24 E mo mn mi ma ml mt mb mr mp mk mq mc mw mz ms mf mu mv mx mh mA mB mC mM mT mHI mFC mLC mCg mTp mNx mFr mTk mVa mEn mKe mCs mAt mHd mWg mNow mImg mAsd mLea mLat mBst mRsk mTap mKys mKat mCod mWts mTes mStk mFct mSor mSiz mCel mHol mHoA mHoB mHoC mMov mTel) := hD
  refine lv_if_ne (tgt := 10) hx hb dX7_reads_4 (by decide) (fun c_12 => ?_) (fun c_12 => ?_)
  · have h := h.1 c_12
    refine lv_aload_n hx hb dX7_reads_10 rfl (lv_at hl 0 rfl) ?_
    refine va_get (D := E.1) (ci := 7) (v := .ref mu) (C := RX7) (T := TX7) (N := 39) hx hb hts n_X7 hown hK hP 0 rfl rfl 29 (by decide) k_57 (fun _ h9 => h9) rfl dX7_reads_11 ?_
    refine lv_iload_n hx hb dX7_reads_14 rfl (lv_at hl 1 rfl) ?_
    obtain ⟨o_13, h⟩ := h
    refine rc_iald hx hb hK hP 16 0 rfl rfl p1.toNatClampNeg rfl o_13 dX7_reads_15 ?_
    refine lv_if_ge (tgt := 22) hx hb dX7_reads_16 (by decide) (fun c_14 => ?_) (fun c_14 => ?_)
    · have h := h.1 c_14
      refine lv_iconst (v := 0) hx hb dX7_reads_22 (by decide) ?_
      refine lv_istore_n (lv' := [(2, .int 0), (0, .ref mo), (1, .int p1)]) hx hb dX7_reads_23 rfl hl (by decide) rfl (fun ls hl => ?_)
      obtain ⟨n, h⟩ := h
      exact J24 n 0 mStk mFct h _ _ hP hD hS ls (lv_sub hl [1, 2, 0] rfl)
    · have h := h.2 c_14
      refine lv_ldc hx hb hown k_177 dX7_reads_19 ?_
      exact hret _ _ _ _ (-1000000011) (mStk, mFct) rfl h hP hD hS dX7_reads_21
  · have h := h.2 c_12
    refine lv_ldc hx hb hown k_89 dX7_reads_7 ?_
    exact hret _ _ _ _ (-1000000001) (mStk, mFct) rfl h hP hD hS dX7_reads_9
def lp_X7_copy_140F (p3 : Int32) (p4 : Int32) (p5 : Int32)  (Q : Int32 → (Nat → Int32) → (Nat → Int32) → Prop) (R : Int32 → (Nat → Int32) → (Nat → Int32) → Prop) (x6 : Int32) (mCel : Nat → Int32) (mMov : Nat → Int32) : Prop :=
  ((p5 ≤ x6 → Q p5 mCel mMov) ∧ (¬ (p5 ≤ x6) → (vp_in x6 24 ∧ (vp_in (((24 * p3) + p4) + x6) 96 ∧ R (x6 + 1) (upd mCel ((((24 * p3) + p4) + x6).toNatClampNeg) (mMov x6.toNatClampNeg)) mMov))))
def lp_X7_copy_140 (p3 : Int32) (p4 : Int32) (p5 : Int32)  (Q : Int32 → (Nat → Int32) → (Nat → Int32) → Prop) (n : Nat) : Int32 → (Nat → Int32) → (Nat → Int32) → Prop :=
  Nat.rec (motive := fun _ => Int32 → (Nat → Int32) → (Nat → Int32) → Prop) (fun _ _ _ => False) (fun _ r => lp_X7_copy_140F p3 p4 p5 Q r) n
def lp_X7_copy_103F (p1 : Int32) (p2 : Int32) (p3 : Int32) (p4 : Int32) (p5 : Int32)  (Q : Int32 → (Nat → Int32) → (Nat → Int32) → Prop) (R : Int32 → (Nat → Int32) → (Nat → Int32) → Prop) (x6 : Int32) (mCel : Nat → Int32) (mMov : Nat → Int32) : Prop :=
  ((p5 ≤ x6 → (∃ n : Nat, lp_X7_copy_140 p3 p4 p5 Q n 0 mCel mMov)) ∧ (¬ (p5 ≤ x6) → (vp_in (((24 * p1) + p2) + x6) 96 ∧ (vp_in x6 24 ∧ R (x6 + 1) mCel (upd mMov x6.toNatClampNeg (mCel ((((24 * p1) + p2) + x6).toNatClampNeg)))))))
def lp_X7_copy_103 (p1 : Int32) (p2 : Int32) (p3 : Int32) (p4 : Int32) (p5 : Int32)  (Q : Int32 → (Nat → Int32) → (Nat → Int32) → Prop) (n : Nat) : Int32 → (Nat → Int32) → (Nat → Int32) → Prop :=
  Nat.rec (motive := fun _ => Int32 → (Nat → Int32) → (Nat → Int32) → Prop) (fun _ _ _ => False) (fun _ r => lp_X7_copy_103F p1 p2 p3 p4 p5 Q r) n
def wp_X7_copy (p1 : Int32) (p2 : Int32) (p3 : Int32) (p4 : Int32) (p5 : Int32) (mSor : Nat → Int32) (mSiz : Nat → Int32) (mCel : Nat → Int32) (mMov : Nat → Int32) (Q : Int32 → (Nat → Int32) → (Nat → Int32) → Prop) : Prop :=
  wp_X7_isSheet p1 (fun (r_7 : Int32) => ((r_7 = 0 → Q (-1000000001) mCel mMov) ∧ (¬ (r_7 = 0) → wp_X7_isSheet p3 (fun (r_9 : Int32) => ((¬ r_9 = 0 → (vp_in p1 4 ∧ (((mSor p1.toNatClampNeg) < 0 → Q (-1000000011) mCel mMov) ∧ (¬ ((mSor p1.toNatClampNeg) < 0) → (vp_in p3 4 ∧ ((0 ≤ (mSor p3.toNatClampNeg) → (vp_in p1 4 ∧ (vp_in p3 4 ∧ (((mSor p1.toNatClampNeg) = (mSor p3.toNatClampNeg) → ((p2 < 0 → Q (-1000000013) mCel mMov) ∧ (¬ (p2 < 0) → ((p4 < 0 → Q (-1000000013) mCel mMov) ∧ (¬ (p4 < 0) → ((p5 < 0 → Q (-1000000013) mCel mMov) ∧ (¬ (p5 < 0) → (vp_in p1 4 ∧ ((((mSiz p1.toNatClampNeg) - p5) < p2 → Q (-1000000013) mCel mMov) ∧ (¬ (((mSiz p1.toNatClampNeg) - p5) < p2) → (vp_in p3 4 ∧ ((p4 ≤ ((mSiz p3.toNatClampNeg) - p5) → (∃ n : Nat, lp_X7_copy_103 p1 p2 p3 p4 p5 Q n 0 mCel mMov)) ∧ (¬ (p4 ≤ ((mSiz p3.toNatClampNeg) - p5)) → Q (-1000000013) mCel mMov))))))))))))) ∧ (¬ ((mSor p1.toNatClampNeg) = (mSor p3.toNatClampNeg)) → Q (-1000000012) mCel mMov))))) ∧ (¬ (0 ≤ (mSor p3.toNatClampNeg)) → Q (-1000000011) mCel mMov))))))) ∧ (r_9 = 0 → Q (-1000000001) mCel mMov))))))
set_option maxHeartbeats 4000000 in
set_option maxRecDepth 100000 in
theorem c_X7_copy (l : Launch) (E : gE) (mo mn mi ma ml mt mb mr mp mk mq mc mw mz ms mf mu mv mx mh mA mB mC mM mT : Nat) (sz : Nat) (mHI : Int32) (mFC : Int32) (mLC : Int32) (mCg : Int32) (mTp : Int32) (mNx : Int32) (mFr : Int32) (mTk : Int32) (mVa : Int32) (mEn : Int32) (mKe : Int32) (mCs : Int32) (mAt : Int32) (mHd : Int32) (mWg : Int32) (mNow : Nat → Int32) (mImg : Nat → Int32) (mAsd : Nat → Int32) (mLea : Nat → Int32) (mLat : Nat → Int32) (mBst : Nat → Int32) (mRsk : Nat → Int32) (mTap : Nat → Int32) (mKys : Nat → Int32) (mKat : Nat → Int32) (mCod : Nat → Int32) (mWts : Nat → Int32) (mTes : Nat → Int32) (mStk : Nat → Int32) (mFct : Nat → Int32) (mSor : Nat → Int32) (mSiz : Nat → Int32) (mCel : Nat → Int32) (mHol : Nat → Int32) (mHoA : Nat → Int32) (mHoB : Nat → Int32) (mHoC : Nat → Int32) (mMov : Nat → Int32) (mTel : Nat → Int32) (p1 p2 p3 p4 p5 : Int32)  (Q : Int32 → (Nat → Int32) → (Nat → Int32) → Prop) (h : wp_X7_copy p1 p2 p3 p4 p5 mSor mSiz mCel mMov Q) : Met l yX7_copy wsX7_copy ({ frames := 2, cells := 0, slots := 0, locals := 42 } : Room) (va_Pc [.ref mo, .int p1, .int p2, .int p3, .int p4, .int p5] (rc_B E (rw_24 E mo mn mi ma ml mt mb mr mp mk mq mc mw mz ms mf mu mv mx mh mA mB mC mM mT mHI mFC mLC mCg mTp mNx mFr mTk mVa mEn mKe mCs mAt mHd mWg mNow mImg mAsd mLea mLat mBst mRsk mTap mKys mKat mCod mWts mTes mStk mFct mSor mSiz mCel mHol mHoA mHoB mHoC mMov mTel) sz)) (va_Qi (S := (Nat → Int32) × (Nat → Int32)) (fun (r : Int32) (u : (Nat → Int32) × (Nat → Int32)) => Q r u.1 u.2) (fun u t => rc_C E (va_A (rw_24 E mo mn mi ma ml mt mb mr mp mk mq mc mw mz ms mf mu mv mx mh mA mB mC mM mT mHI mFC mLC mCg mTp mNx mFr mTk mVa mEn mKe mCs mAt mHd mWg mNow mImg mAsd mLea mLat mBst mRsk mTap mKys mKat mCod mWts mTes mStk mFct mSor mSiz mCel mHol mHoA mHoB mHoC mMov mTel) sz) (rw_24 E mo mn mi ma ml mt mb mr mp mk mq mc mw mz ms mf mu mv mx mh mA mB mC mM mT mHI mFC mLC mCg mTp mNx mFr mTk mVa mEn mKe mCs mAt mHd mWg mNow mImg mAsd mLea mLat mBst mRsk mTap mKys mKat mCod mWts mTes mStk mFct mSor mSiz u.1 mHol mHoA mHoB mHoC u.2 mTel) t) (va_A (rw_24 E mo mn mi ma ml mt mb mr mp mk mq mc mw mz ms mf mu mv mx mh mA mB mC mM mT mHI mFC mLC mCg mTp mNx mFr mTk mVa mEn mKe mCs mAt mHd mWg mNow mImg mAsd mLea mLat mBst mRsk mTap mKys mKat mCod mWts mTes mStk mFct mSor mSiz mCel mHol mHoA mHoB mHoC mMov mTel) sz)) 0 0 (va_A (rw_24 E mo mn mi ma ml mt mb mr mp mk mq mc mw mz ms mf mu mv mx mh mA mB mC mM mT mHI mFC mLC mCg mTp mNx mFr mTk mVa mEn mKe mCs mAt mHd mWg mNow mImg mAsd mLea mLat mBst mRsk mTap mKys mKat mCod mWts mTes mStk mFct mSor mSiz mCel mHol mHoA mHoB mHoC mMov mTel) sz) := by
  refine rc_enterI (cc := cX7_copy) (maxL := 7) (by decide) rfl (Nat.le_of_ble_eq_true rfl) ?_
  intro p e s m args below meth c QQ A hx hb hml hown hts hmn hE hP hD hA hret ls hl
  have hown : s.vm.findClass RX7 = some m.cls := hown
  have hK := hE.1
  have hS : va_S A s.heap s.heap [] := va_S.rf
  have hl : lv_has ls 7 [(0, .ref mo), (1, .int p1), (2, .int p2), (3, .int p3), (4, .int p4), (5, .int p5)] := hl
  have n_X7 : ∀ w ∈ wsX70, w ∈ wsX7_copy := fun _ h => List.mem_cons_of_mem _ (List.mem_append_right _ h)
  have k_63 := hts (.fieldLink RX7 63 "RidgeClapsModel" "cells" "[I") (List.mem_of_getElem? (i := 8) rfl)
  have k_78 := hts (.fieldLink RX7 78 "RidgeClapsModel" "moved" "[I") (List.mem_of_getElem? (i := 7) rfl)
  have k_89 := hts (.constant RX7 89 (-1000000001)) (List.mem_of_getElem? (i := 1) rfl)
  have k_57 := hts (.fieldLink RX7 57 "RidgeClapsModel" "sorts" "[I") (List.mem_of_getElem? (i := 2) rfl)
  have k_177 := hts (.constant RX7 177 (-1000000011)) (List.mem_of_getElem? (i := 3) rfl)
  have k_252 := hts (.constant RX7 252 (-1000000013)) (List.mem_of_getElem? (i := 6) rfl)
  have k_60 := hts (.fieldLink RX7 60 "RidgeClapsModel" "sizes" "[I") (List.mem_of_getElem? (i := 5) rfl)
  have k_123 := hts (.constant RX7 123 (-1000000012)) (List.mem_of_getElem? (i := 4) rfl)
  have J140 : ∀ (n : Nat) (x6 : Int32) (mCel : Nat → Int32) (mMov : Nat → Int32), lp_X7_copy_140 p3 p4 p5 Q n x6 mCel mMov → ∀ (H : Heap) (locs : List Loc), va_P E.1 vwCl (rw_24 E mo mn mi ma ml mt mb mr mp mk mq mc mw mz ms mf mu mv mx mh mA mB mC mM mT mHI mFC mLC mCg mTp mNx mFr mTk mVa mEn mKe mCs mAt mHd mWg mNow mImg mAsd mLea mLat mBst mRsk mTap mKys mKat mCod mWts mTes mStk mFct mSor mSiz mCel mHol mHoA mHoB mHoC mMov mTel) H → va_D A (rw_24 E mo mn mi ma ml mt mb mr mp mk mq mc mw mz ms mf mu mv mx mh mA mB mC mM mT mHI mFC mLC mCg mTp mNx mFr mTk mVa mEn mKe mCs mAt mHd mWg mNow mImg mAsd mLea mLat mBst mRsk mTap mKys mKat mCod mWts mTes mStk mFct mSor mSiz mCel mHol mHoA mHoB mHoC mMov mTel) → va_S A s.heap H locs → ∀ ls : Array Slot, lv_has ls 7 [(0, .ref mo), (3, .int p3), (4, .int p4), (5, .int p5), (6, .int x6)] → W p l e ({ frames := 2, cells := 0, slots := 0, locals := 42 } : Room) s m args below meth c H locs 0 0 QQ (F0 m 140 ls []) := by
    intro n
    induction n with
    | zero =>
      intro x6 mCel mMov h
      exact False.elim h
    | succ n ih =>
      intro x6 mCel mMov h H locs hP hD hS ls hl
      have h : lp_X7_copy_140F p3 p4 p5 Q (lp_X7_copy_140 p3 p4 p5 Q n) x6 mCel mMov := h
      unfold lp_X7_copy_140F at h
      refine lv_iload hx hb dX7_copy_140 (lv_at hl 4 rfl) ?_
      refine lv_iload hx hb dX7_copy_142 (lv_at hl 3 rfl) ?_
      refine lv_icmp_ge (tgt := 175) hx hb dX7_copy_144 (by decide) (fun c_1 => ?_) (fun c_1 => ?_)
      · have h := h.1 c_1
        refine lv_iload hx hb dX7_copy_175 (lv_at hl 3 rfl) ?_
        exact hret _ _ _ _ p5 (mCel, mMov) rfl h hP hD hS dX7_copy_177
      · have h := h.2 c_1
        refine lv_aload_n hx hb dX7_copy_147 rfl (lv_at hl 0 rfl) ?_
        refine va_get (D := E.1) (ci := 7) (v := .ref mx) (C := RX7) (T := TX7) (N := 39) hx hb hts n_X7 hown hK hP 0 rfl rfl 31 (by decide) k_63 (fun _ h9 => h9) rfl dX7_copy_148 ?_
        refine lv_bipush (v := 24) hx hb dX7_copy_151 (by decide) ?_
        refine lv_iload_n hx hb dX7_copy_153 rfl (lv_at hl 1 rfl) ?_
        refine lv_imul hx hb dX7_copy_154 ?_
        refine lv_iload hx hb dX7_copy_155 (lv_at hl 2 rfl) ?_
        refine lv_iadd hx hb dX7_copy_157 ?_
        refine lv_iload hx hb dX7_copy_158 (lv_at hl 4 rfl) ?_
        refine lv_iadd hx hb dX7_copy_160 ?_
        refine lv_aload_n hx hb dX7_copy_161 rfl (lv_at hl 0 rfl) ?_
        refine va_get (D := E.1) (ci := 7) (v := .ref mM) (C := RX7) (T := TX7) (N := 39) hx hb hts n_X7 hown hK hP 0 rfl rfl 36 (by decide) k_78 (fun _ h9 => h9) rfl dX7_copy_162 ?_
        refine lv_iload hx hb dX7_copy_165 (lv_at hl 4 rfl) ?_
        obtain ⟨o_2, h⟩ := h
        refine rc_iald hx hb hK hP 23 0 rfl rfl x6.toNatClampNeg rfl o_2 dX7_copy_167 ?_
        obtain ⟨o_3, h⟩ := h
        refine rc_iast hx hb hK hP hD hS 18 0 rfl rfl ((((24 * p3) + p4) + x6).toNatClampNeg) rfl o_3 dX7_copy_168 (fun H locs hP hD hS => ?_)
        have hP : va_P E.1 vwCl (rw_24 E mo mn mi ma ml mt mb mr mp mk mq mc mw mz ms mf mu mv mx mh mA mB mC mM mT mHI mFC mLC mCg mTp mNx mFr mTk mVa mEn mKe mCs mAt mHd mWg mNow mImg mAsd mLea mLat mBst mRsk mTap mKys mKat mCod mWts mTes mStk mFct mSor mSiz (upd mCel ((((24 * p3) + p4) + x6).toNatClampNeg) (mMov x6.toNatClampNeg)) mHol mHoA mHoB mHoC mMov mTel) H := hP
        have hD : va_D A (rw_24 E mo mn mi ma ml mt mb mr mp mk mq mc mw mz ms mf mu mv mx mh mA mB mC mM mT mHI mFC mLC mCg mTp mNx mFr mTk mVa mEn mKe mCs mAt mHd mWg mNow mImg mAsd mLea mLat mBst mRsk mTap mKys mKat mCod mWts mTes mStk mFct mSor mSiz (upd mCel ((((24 * p3) + p4) + x6).toNatClampNeg) (mMov x6.toNatClampNeg)) mHol mHoA mHoB mHoC mMov mTel) := hD
        refine lv_iinc (v := x6 + 1) (lv' := [(6, .int (x6 + 1)), (0, .ref mo), (3, .int p3), (4, .int p4), (5, .int p5)]) hx hb dX7_copy_169 hl (k := 4) rfl (by rfl) (by decide) rfl (fun ls hl => ?_)
        refine lv_goto (tgt := 140) hx hb dX7_copy_172 (by decide) ?_
        exact ih (x6 + 1) (upd mCel ((((24 * p3) + p4) + x6).toNatClampNeg) (mMov x6.toNatClampNeg)) mMov h _ _ hP hD hS ls (lv_sub hl [1, 2, 3, 4, 0] rfl)
  have J103 : ∀ (n : Nat) (x6 : Int32) (mCel : Nat → Int32) (mMov : Nat → Int32), lp_X7_copy_103 p1 p2 p3 p4 p5 Q n x6 mCel mMov → ∀ (H : Heap) (locs : List Loc), va_P E.1 vwCl (rw_24 E mo mn mi ma ml mt mb mr mp mk mq mc mw mz ms mf mu mv mx mh mA mB mC mM mT mHI mFC mLC mCg mTp mNx mFr mTk mVa mEn mKe mCs mAt mHd mWg mNow mImg mAsd mLea mLat mBst mRsk mTap mKys mKat mCod mWts mTes mStk mFct mSor mSiz mCel mHol mHoA mHoB mHoC mMov mTel) H → va_D A (rw_24 E mo mn mi ma ml mt mb mr mp mk mq mc mw mz ms mf mu mv mx mh mA mB mC mM mT mHI mFC mLC mCg mTp mNx mFr mTk mVa mEn mKe mCs mAt mHd mWg mNow mImg mAsd mLea mLat mBst mRsk mTap mKys mKat mCod mWts mTes mStk mFct mSor mSiz mCel mHol mHoA mHoB mHoC mMov mTel) → va_S A s.heap H locs → ∀ ls : Array Slot, lv_has ls 7 [(0, .ref mo), (1, .int p1), (2, .int p2), (3, .int p3), (4, .int p4), (5, .int p5), (6, .int x6)] → W p l e ({ frames := 2, cells := 0, slots := 0, locals := 42 } : Room) s m args below meth c H locs 0 0 QQ (F0 m 103 ls []) := by
    intro n
    induction n with
    | zero =>
      intro x6 mCel mMov h
      exact False.elim h
    | succ n ih =>
      intro x6 mCel mMov h H locs hP hD hS ls hl
      have h : lp_X7_copy_103F p1 p2 p3 p4 p5 Q (lp_X7_copy_103 p1 p2 p3 p4 p5 Q n) x6 mCel mMov := h
      unfold lp_X7_copy_103F at h
      refine lv_iload hx hb dX7_copy_103 (lv_at hl 6 rfl) ?_
      refine lv_iload hx hb dX7_copy_105 (lv_at hl 5 rfl) ?_
      refine lv_icmp_ge (tgt := 137) hx hb dX7_copy_107 (by decide) (fun c_4 => ?_) (fun c_4 => ?_)
      · have h := h.1 c_4
        refine lv_iconst (v := 0) hx hb dX7_copy_137 (by decide) ?_
        refine lv_istore (lv' := [(6, .int 0), (0, .ref mo), (1, .int p1), (2, .int p2), (3, .int p3), (4, .int p4), (5, .int p5)]) hx hb dX7_copy_138 hl (by decide) rfl (fun ls hl => ?_)
        obtain ⟨n, h⟩ := h
        exact J140 n 0 mCel mMov h _ _ hP hD hS ls (lv_sub hl [1, 4, 5, 6, 0] rfl)
      · have h := h.2 c_4
        refine lv_aload_n hx hb dX7_copy_110 rfl (lv_at hl 0 rfl) ?_
        refine va_get (D := E.1) (ci := 7) (v := .ref mM) (C := RX7) (T := TX7) (N := 39) hx hb hts n_X7 hown hK hP 0 rfl rfl 36 (by decide) k_78 (fun _ h9 => h9) rfl dX7_copy_111 ?_
        refine lv_iload hx hb dX7_copy_114 (lv_at hl 6 rfl) ?_
        refine lv_aload_n hx hb dX7_copy_116 rfl (lv_at hl 0 rfl) ?_
        refine va_get (D := E.1) (ci := 7) (v := .ref mx) (C := RX7) (T := TX7) (N := 39) hx hb hts n_X7 hown hK hP 0 rfl rfl 31 (by decide) k_63 (fun _ h9 => h9) rfl dX7_copy_117 ?_
        refine lv_bipush (v := 24) hx hb dX7_copy_120 (by decide) ?_
        refine lv_iload_n hx hb dX7_copy_122 rfl (lv_at hl 1 rfl) ?_
        refine lv_imul hx hb dX7_copy_123 ?_
        refine lv_iload_n hx hb dX7_copy_124 rfl (lv_at hl 2 rfl) ?_
        refine lv_iadd hx hb dX7_copy_125 ?_
        refine lv_iload hx hb dX7_copy_126 (lv_at hl 6 rfl) ?_
        refine lv_iadd hx hb dX7_copy_128 ?_
        obtain ⟨o_5, h⟩ := h
        refine rc_iald hx hb hK hP 18 0 rfl rfl ((((24 * p1) + p2) + x6).toNatClampNeg) rfl o_5 dX7_copy_129 ?_
        obtain ⟨o_6, h⟩ := h
        refine rc_iast hx hb hK hP hD hS 23 0 rfl rfl x6.toNatClampNeg rfl o_6 dX7_copy_130 (fun H locs hP hD hS => ?_)
        have hP : va_P E.1 vwCl (rw_24 E mo mn mi ma ml mt mb mr mp mk mq mc mw mz ms mf mu mv mx mh mA mB mC mM mT mHI mFC mLC mCg mTp mNx mFr mTk mVa mEn mKe mCs mAt mHd mWg mNow mImg mAsd mLea mLat mBst mRsk mTap mKys mKat mCod mWts mTes mStk mFct mSor mSiz mCel mHol mHoA mHoB mHoC (upd mMov x6.toNatClampNeg (mCel ((((24 * p1) + p2) + x6).toNatClampNeg))) mTel) H := hP
        have hD : va_D A (rw_24 E mo mn mi ma ml mt mb mr mp mk mq mc mw mz ms mf mu mv mx mh mA mB mC mM mT mHI mFC mLC mCg mTp mNx mFr mTk mVa mEn mKe mCs mAt mHd mWg mNow mImg mAsd mLea mLat mBst mRsk mTap mKys mKat mCod mWts mTes mStk mFct mSor mSiz mCel mHol mHoA mHoB mHoC (upd mMov x6.toNatClampNeg (mCel ((((24 * p1) + p2) + x6).toNatClampNeg))) mTel) := hD
        refine lv_iinc (v := x6 + 1) (lv' := [(6, .int (x6 + 1)), (0, .ref mo), (1, .int p1), (2, .int p2), (3, .int p3), (4, .int p4), (5, .int p5)]) hx hb dX7_copy_131 hl (k := 6) rfl (by rfl) (by decide) rfl (fun ls hl => ?_)
        refine lv_goto (tgt := 103) hx hb dX7_copy_134 (by decide) ?_
        exact ih (x6 + 1) mCel (upd mMov x6.toNatClampNeg (mCel ((((24 * p1) + p2) + x6).toNatClampNeg))) h _ _ hP hD hS ls (lv_sub hl [1, 2, 3, 4, 5, 6, 0] rfl)
  unfold wp_X7_copy at h
  obtain ⟨H, hH⟩ : ∃ H, H = s.heap := ⟨_, rfl⟩
  obtain ⟨locs, hlocs⟩ : ∃ locs : List Loc, locs = [] := ⟨_, rfl⟩
  have hP : va_P E.1 vwCl (rw_24 E mo mn mi ma ml mt mb mr mp mk mq mc mw mz ms mf mu mv mx mh mA mB mC mM mT mHI mFC mLC mCg mTp mNx mFr mTk mVa mEn mKe mCs mAt mHd mWg mNow mImg mAsd mLea mLat mBst mRsk mTap mKys mKat mCod mWts mTes mStk mFct mSor mSiz mCel mHol mHoA mHoB mHoC mMov mTel) H := by rw [hH]; exact hP
  have hS : va_S A s.heap H locs := by rw [hH, hlocs]; exact hS
  suffices hgo : W p l e ({ frames := 2, cells := 0, slots := 0, locals := 42 } : Room) s m args below meth c H locs 0 0 QQ (F0 m 0 ls []) from by rw [hH, hlocs] at hgo; exact hgo
  refine lv_iload_n hx hb dX7_copy_0 rfl (lv_at hl 1 rfl) ?_
  have hPc := hP.sub (ws' := []) [] rfl
  have hDc := hD.sub (ws' := []) [] (by decide) rfl
  have hFc := va_free (wc := []) hD hS hA [] rfl
  refine va_calli (va_runS (As := [.int p1]) (rest := []) ⟨hx, hb, hml, hown, hts⟩ (c_X7_isSheet l E H.size p1 _ h) (va_cwS 1 hts gX7_copy_X7_isSheet rfl rfl rfl (by decide +kernel) ⟨Nat.le_of_ble_eq_true rfl, Nat.le_of_ble_eq_true rfl⟩) ⟨fun a U g mk q => ⟨q.1, q.2.blind⟩, fun U hU hW => ⟨rfl, by rw [hU], by rw [hU]; exact hPc, hE.call hS hFc hW hU, hDc.weaken (fun _ _ _ _ => trivial)⟩⟩ rfl rfl hl.1 rfl (lv_room (Nat.le_of_ble_eq_true rfl)) dX7_copy_1 ⟨Nat.zero_le _, Nat.zero_le _⟩) hS (fun q _ h => hFc q h) hFc (fun r_7 u t H1 locs ht hvm h hB hz1 hk1 hS => ?_)
  obtain ⟨hP1, hD1⟩ := hB
  rw [ht] at hP1
  obtain ⟨hP, hD⟩ := rc_foc hP hD [] [none, none, none, none, none, none, none, none, none, none, none, none, none, none, none, none, none, none, none, none, none, none, none, none, none] (by decide) rfl hk1 hP1 rfl
  generalize H1 = H at hP hS ⊢
  have hP : va_P E.1 vwCl (rw_24 E mo mn mi ma ml mt mb mr mp mk mq mc mw mz ms mf mu mv mx mh mA mB mC mM mT mHI mFC mLC mCg mTp mNx mFr mTk mVa mEn mKe mCs mAt mHd mWg mNow mImg mAsd mLea mLat mBst mRsk mTap mKys mKat mCod mWts mTes mStk mFct mSor mSiz mCel mHol mHoA mHoB mHoC mMov mTel) H := hP
  have hD : va_D A (rw_24 E mo mn mi ma ml mt mb mr mp mk mq mc mw mz ms mf mu mv mx mh mA mB mC mM mT mHI mFC mLC mCg mTp mNx mFr mTk mVa mEn mKe mCs mAt mHd mWg mNow mImg mAsd mLea mLat mBst mRsk mTap mKys mKat mCod mWts mTes mStk mFct mSor mSiz mCel mHol mHoA mHoB mHoC mMov mTel) := hD
  refine lv_if_eq (tgt := 14) hx hb dX7_copy_4 (by decide) (fun c_8 => ?_) (fun c_8 => ?_)
  · have h := h.1 c_8
    refine lv_ldc hx hb hown k_89 dX7_copy_14 ?_
    exact hret _ _ _ _ (-1000000001) (mCel, mMov) rfl h hP hD hS dX7_copy_16
  · have h := h.2 c_8
    refine lv_iload_n hx hb dX7_copy_7 rfl (lv_at hl 3 rfl) ?_
    have hPc := hP.sub (ws' := []) [] rfl
    have hDc := hD.sub (ws' := []) [] (by decide) rfl
    have hFc := va_free (wc := []) hD hS hA [] rfl
    refine va_calli (va_runS (As := [.int p3]) (rest := []) ⟨hx, hb, hml, hown, hts⟩ (c_X7_isSheet l E H.size p3 _ h) (va_cwS 1 hts gX7_copy_X7_isSheet rfl rfl rfl (by decide +kernel) ⟨Nat.le_of_ble_eq_true rfl, Nat.le_of_ble_eq_true rfl⟩) ⟨fun a U g mk q => ⟨q.1, q.2.blind⟩, fun U hU hW => ⟨rfl, by rw [hU], by rw [hU]; exact hPc, hE.call hS hFc hW hU, hDc.weaken (fun _ _ _ _ => trivial)⟩⟩ rfl rfl hl.1 rfl (lv_room (Nat.le_of_ble_eq_true rfl)) dX7_copy_8 ⟨Nat.zero_le _, Nat.zero_le _⟩) hS (fun q _ h => hFc q h) hFc (fun r_9 u t H1 locs ht hvm h hB hz1 hk1 hS => ?_)
    obtain ⟨hP1, hD1⟩ := hB
    rw [ht] at hP1
    obtain ⟨hP, hD⟩ := rc_foc hP hD [] [none, none, none, none, none, none, none, none, none, none, none, none, none, none, none, none, none, none, none, none, none, none, none, none, none] (by decide) rfl hk1 hP1 rfl
    generalize H1 = H at hP hS ⊢
    have hP : va_P E.1 vwCl (rw_24 E mo mn mi ma ml mt mb mr mp mk mq mc mw mz ms mf mu mv mx mh mA mB mC mM mT mHI mFC mLC mCg mTp mNx mFr mTk mVa mEn mKe mCs mAt mHd mWg mNow mImg mAsd mLea mLat mBst mRsk mTap mKys mKat mCod mWts mTes mStk mFct mSor mSiz mCel mHol mHoA mHoB mHoC mMov mTel) H := hP
    have hD : va_D A (rw_24 E mo mn mi ma ml mt mb mr mp mk mq mc mw mz ms mf mu mv mx mh mA mB mC mM mT mHI mFC mLC mCg mTp mNx mFr mTk mVa mEn mKe mCs mAt mHd mWg mNow mImg mAsd mLea mLat mBst mRsk mTap mKys mKat mCod mWts mTes mStk mFct mSor mSiz mCel mHol mHoA mHoB mHoC mMov mTel) := hD
    refine lv_if_ne (tgt := 17) hx hb dX7_copy_11 (by decide) (fun c_10 => ?_) (fun c_10 => ?_)
    · have h := h.1 c_10
      refine lv_aload_n hx hb dX7_copy_17 rfl (lv_at hl 0 rfl) ?_
      refine va_get (D := E.1) (ci := 7) (v := .ref mu) (C := RX7) (T := TX7) (N := 39) hx hb hts n_X7 hown hK hP 0 rfl rfl 29 (by decide) k_57 (fun _ h9 => h9) rfl dX7_copy_18 ?_
      refine lv_iload_n hx hb dX7_copy_21 rfl (lv_at hl 1 rfl) ?_
      obtain ⟨o_11, h⟩ := h
      refine rc_iald hx hb hK hP 16 0 rfl rfl p1.toNatClampNeg rfl o_11 dX7_copy_22 ?_
      refine lv_if_lt (tgt := 35) hx hb dX7_copy_23 (by decide) (fun c_12 => ?_) (fun c_12 => ?_)
      · have h := h.1 c_12
        refine lv_ldc hx hb hown k_177 dX7_copy_35 ?_
        exact hret _ _ _ _ (-1000000011) (mCel, mMov) rfl h hP hD hS dX7_copy_37
      · have h := h.2 c_12
        refine lv_aload_n hx hb dX7_copy_26 rfl (lv_at hl 0 rfl) ?_
        refine va_get (D := E.1) (ci := 7) (v := .ref mu) (C := RX7) (T := TX7) (N := 39) hx hb hts n_X7 hown hK hP 0 rfl rfl 29 (by decide) k_57 (fun _ h9 => h9) rfl dX7_copy_27 ?_
        refine lv_iload_n hx hb dX7_copy_30 rfl (lv_at hl 3 rfl) ?_
        obtain ⟨o_13, h⟩ := h
        refine rc_iald hx hb hK hP 16 0 rfl rfl p3.toNatClampNeg rfl o_13 dX7_copy_31 ?_
        refine lv_if_ge (tgt := 38) hx hb dX7_copy_32 (by decide) (fun c_14 => ?_) (fun c_14 => ?_)
        · have h := h.1 c_14
          refine lv_aload_n hx hb dX7_copy_38 rfl (lv_at hl 0 rfl) ?_
          refine va_get (D := E.1) (ci := 7) (v := .ref mu) (C := RX7) (T := TX7) (N := 39) hx hb hts n_X7 hown hK hP 0 rfl rfl 29 (by decide) k_57 (fun _ h9 => h9) rfl dX7_copy_39 ?_
          refine lv_iload_n hx hb dX7_copy_42 rfl (lv_at hl 1 rfl) ?_
          obtain ⟨o_15, h⟩ := h
          refine rc_iald hx hb hK hP 16 0 rfl rfl p1.toNatClampNeg rfl o_15 dX7_copy_43 ?_
          refine lv_aload_n hx hb dX7_copy_44 rfl (lv_at hl 0 rfl) ?_
          refine va_get (D := E.1) (ci := 7) (v := .ref mu) (C := RX7) (T := TX7) (N := 39) hx hb hts n_X7 hown hK hP 0 rfl rfl 29 (by decide) k_57 (fun _ h9 => h9) rfl dX7_copy_45 ?_
          refine lv_iload_n hx hb dX7_copy_48 rfl (lv_at hl 3 rfl) ?_
          obtain ⟨o_16, h⟩ := h
          refine rc_iald hx hb hK hP 16 0 rfl rfl p3.toNatClampNeg rfl o_16 dX7_copy_49 ?_
          refine lv_icmp_eq (tgt := 56) hx hb dX7_copy_50 (by decide) (fun c_17 => ?_) (fun c_17 => ?_)
          · have h := h.1 c_17
            refine lv_iload_n hx hb dX7_copy_56 rfl (lv_at hl 2 rfl) ?_
            refine lv_if_lt (tgt := 97) hx hb dX7_copy_57 (by decide) (fun c_18 => ?_) (fun c_18 => ?_)
            · have h := h.1 c_18
              refine lv_ldc hx hb hown k_252 dX7_copy_97 ?_
              exact hret _ _ _ _ (-1000000013) (mCel, mMov) rfl h hP hD hS dX7_copy_99
            · have h := h.2 c_18
              refine lv_iload hx hb dX7_copy_60 (lv_at hl 4 rfl) ?_
              refine lv_if_lt (tgt := 97) hx hb dX7_copy_62 (by decide) (fun c_19 => ?_) (fun c_19 => ?_)
              · have h := h.1 c_19
                refine lv_ldc hx hb hown k_252 dX7_copy_97 ?_
                exact hret _ _ _ _ (-1000000013) (mCel, mMov) rfl h hP hD hS dX7_copy_99
              · have h := h.2 c_19
                refine lv_iload hx hb dX7_copy_65 (lv_at hl 5 rfl) ?_
                refine lv_if_lt (tgt := 97) hx hb dX7_copy_67 (by decide) (fun c_20 => ?_) (fun c_20 => ?_)
                · have h := h.1 c_20
                  refine lv_ldc hx hb hown k_252 dX7_copy_97 ?_
                  exact hret _ _ _ _ (-1000000013) (mCel, mMov) rfl h hP hD hS dX7_copy_99
                · have h := h.2 c_20
                  refine lv_iload_n hx hb dX7_copy_70 rfl (lv_at hl 2 rfl) ?_
                  refine lv_aload_n hx hb dX7_copy_71 rfl (lv_at hl 0 rfl) ?_
                  refine va_get (D := E.1) (ci := 7) (v := .ref mv) (C := RX7) (T := TX7) (N := 39) hx hb hts n_X7 hown hK hP 0 rfl rfl 30 (by decide) k_60 (fun _ h9 => h9) rfl dX7_copy_72 ?_
                  refine lv_iload_n hx hb dX7_copy_75 rfl (lv_at hl 1 rfl) ?_
                  obtain ⟨o_21, h⟩ := h
                  refine rc_iald hx hb hK hP 17 0 rfl rfl p1.toNatClampNeg rfl o_21 dX7_copy_76 ?_
                  refine lv_iload hx hb dX7_copy_77 (lv_at hl 5 rfl) ?_
                  refine lv_isub hx hb dX7_copy_79 ?_
                  refine lv_icmp_gt (tgt := 97) hx hb dX7_copy_80 (by decide) (fun c_22 => ?_) (fun c_22 => ?_)
                  · have h := h.1 c_22
                    refine lv_ldc hx hb hown k_252 dX7_copy_97 ?_
                    exact hret _ _ _ _ (-1000000013) (mCel, mMov) rfl h hP hD hS dX7_copy_99
                  · have h := h.2 c_22
                    refine lv_iload hx hb dX7_copy_83 (lv_at hl 4 rfl) ?_
                    refine lv_aload_n hx hb dX7_copy_85 rfl (lv_at hl 0 rfl) ?_
                    refine va_get (D := E.1) (ci := 7) (v := .ref mv) (C := RX7) (T := TX7) (N := 39) hx hb hts n_X7 hown hK hP 0 rfl rfl 30 (by decide) k_60 (fun _ h9 => h9) rfl dX7_copy_86 ?_
                    refine lv_iload_n hx hb dX7_copy_89 rfl (lv_at hl 3 rfl) ?_
                    obtain ⟨o_23, h⟩ := h
                    refine rc_iald hx hb hK hP 17 0 rfl rfl p3.toNatClampNeg rfl o_23 dX7_copy_90 ?_
                    refine lv_iload hx hb dX7_copy_91 (lv_at hl 5 rfl) ?_
                    refine lv_isub hx hb dX7_copy_93 ?_
                    refine lv_icmp_le (tgt := 100) hx hb dX7_copy_94 (by decide) (fun c_24 => ?_) (fun c_24 => ?_)
                    · have h := h.1 c_24
                      refine lv_iconst (v := 0) hx hb dX7_copy_100 (by decide) ?_
                      refine lv_istore (lv' := [(6, .int 0), (0, .ref mo), (1, .int p1), (2, .int p2), (3, .int p3), (4, .int p4), (5, .int p5)]) hx hb dX7_copy_101 hl (by decide) rfl (fun ls hl => ?_)
                      obtain ⟨n, h⟩ := h
                      exact J103 n 0 mCel mMov h _ _ hP hD hS ls (lv_sub hl [1, 2, 3, 4, 5, 6, 0] rfl)
                    · have h := h.2 c_24
                      refine lv_ldc hx hb hown k_252 dX7_copy_97 ?_
                      exact hret _ _ _ _ (-1000000013) (mCel, mMov) rfl h hP hD hS dX7_copy_99
          · have h := h.2 c_17
            refine lv_ldc hx hb hown k_123 dX7_copy_53 ?_
            exact hret _ _ _ _ (-1000000012) (mCel, mMov) rfl h hP hD hS dX7_copy_55
        · have h := h.2 c_14
          refine lv_ldc hx hb hown k_177 dX7_copy_35 ?_
          exact hret _ _ _ _ (-1000000011) (mCel, mMov) rfl h hP hD hS dX7_copy_37
    · have h := h.2 c_10
      refine lv_ldc hx hb hown k_89 dX7_copy_14 ?_
      exact hret _ _ _ _ (-1000000001) (mCel, mMov) rfl h hP hD hS dX7_copy_16
def lp_X7_lay_134F (p1 : Int32) (p2 : Int32) (p3 : Int32) (mCel : Nat → Int32)  (Q : Int32 → (Nat → Int32) → (Nat → Int32) → (Nat → Int32) → (Nat → Int32) → Prop) (R : Int32 → Int32 → (Nat → Int32) → (Nat → Int32) → (Nat → Int32) → (Nat → Int32) → Prop) (x4 : Int32) (x5 : Int32) (mHol : Nat → Int32) (mHoA : Nat → Int32) (mHoB : Nat → Int32) (mHoC : Nat → Int32) : Prop :=
  ((24 ≤ x5 → Q x4 mHol mHoA mHoB mHoC) ∧ (¬ (24 ≤ x5) → ((¬ p2 = 2 → Q x4 mHol mHoA mHoB mHoC) ∧ (p2 = 2 → (vp_in ((24 * p3) + x5) 96 ∧ (vp_in ((24 * p1) + x5) 120 ∧ R x4 (x5 + 1) mHol mHoA mHoB (upd mHoC (((24 * p1) + x5).toNatClampNeg) (mCel (((24 * p3) + x5).toNatClampNeg)))))))))
def lp_X7_lay_134 (p1 : Int32) (p2 : Int32) (p3 : Int32) (mCel : Nat → Int32)  (Q : Int32 → (Nat → Int32) → (Nat → Int32) → (Nat → Int32) → (Nat → Int32) → Prop) (n : Nat) : Int32 → Int32 → (Nat → Int32) → (Nat → Int32) → (Nat → Int32) → (Nat → Int32) → Prop :=
  Nat.rec (motive := fun _ => Int32 → Int32 → (Nat → Int32) → (Nat → Int32) → (Nat → Int32) → (Nat → Int32) → Prop) (fun _ _ _ _ _ _ => False) (fun _ r => lp_X7_lay_134F p1 p2 p3 mCel Q r) n
def jp_X7_lay_110 (p1 : Int32) (p2 : Int32) (p3 : Int32) (mNow : Nat → Int32) (mCel : Nat → Int32)  (Q : Int32 → (Nat → Int32) → (Nat → Int32) → (Nat → Int32) → (Nat → Int32) → Prop) (x4 : Int32) (y0 : Int32) (y1 : Int32) (mHol : Nat → Int32) (mHoA : Nat → Int32) (mHoB : Nat → Int32) (mHoC : Nat → Int32) : Prop :=
  (vp_in y1 5 ∧ ((¬ p2 = 1 → (vp_in p1 5 ∧ (∃ n : Nat, lp_X7_lay_134 p1 p2 p3 mCel Q n x4 0 mHol (upd mHoA y1.toNatClampNeg y0) (upd mHoB p1.toNatClampNeg 0) mHoC))) ∧ (p2 = 1 → wp_X7_worthOf p3 mNow (fun (r_8 : Int32) => (vp_in p1 5 ∧ (∃ n : Nat, lp_X7_lay_134 p1 p2 p3 mCel Q n x4 0 mHol (upd mHoA y1.toNatClampNeg y0) (upd mHoB p1.toNatClampNeg r_8) mHoC))))))
def jp_X7_lay_61 (p1 : Int32) (p2 : Int32) (p3 : Int32) (mNow : Nat → Int32) (mSiz : Nat → Int32) (mCel : Nat → Int32)  (Q : Int32 → (Nat → Int32) → (Nat → Int32) → (Nat → Int32) → (Nat → Int32) → Prop) (mHol : Nat → Int32) (mHoA : Nat → Int32) (mHoB : Nat → Int32) (mHoC : Nat → Int32) : Prop :=
  (vp_in p1 5 ∧ (vp_in p1 5 ∧ ((¬ p2 = 1 → ((¬ p2 = 2 → jp_X7_lay_110 p1 p2 p3 mNow mCel Q (mHol p1.toNatClampNeg) p3 p1 (upd mHol p1.toNatClampNeg p2) mHoA mHoB mHoC) ∧ (p2 = 2 → (vp_in p3 4 ∧ jp_X7_lay_110 p1 p2 p3 mNow mCel Q (mHol p1.toNatClampNeg) (mSiz p3.toNatClampNeg) p1 (upd mHol p1.toNatClampNeg p2) mHoA mHoB mHoC)))) ∧ (p2 = 1 → wp_X7_of p3 0 mNow (fun (r_15 : Int32) => jp_X7_lay_110 p1 p2 p3 mNow mCel Q (mHol p1.toNatClampNeg) r_15 p1 (upd mHol p1.toNatClampNeg p2) mHoA mHoB mHoC)))))
def jp_X7_lay_44 (p1 : Int32) (p2 : Int32) (p3 : Int32) (mNow : Nat → Int32) (mSor : Nat → Int32) (mSiz : Nat → Int32) (mCel : Nat → Int32)  (Q : Int32 → (Nat → Int32) → (Nat → Int32) → (Nat → Int32) → (Nat → Int32) → Prop) (mHol : Nat → Int32) (mHoA : Nat → Int32) (mHoB : Nat → Int32) (mHoC : Nat → Int32) : Prop :=
  ((¬ p2 = 2 → jp_X7_lay_61 p1 p2 p3 mNow mSiz mCel Q mHol mHoA mHoB mHoC) ∧ (p2 = 2 → (vp_in p3 4 ∧ ((0 ≤ (mSor p3.toNatClampNeg) → jp_X7_lay_61 p1 p2 p3 mNow mSiz mCel Q mHol mHoA mHoB mHoC) ∧ (¬ (0 ≤ (mSor p3.toNatClampNeg)) → Q (-1000000011) mHol mHoA mHoB mHoC)))))
def jp_X7_lay_29 (p1 : Int32) (p2 : Int32) (p3 : Int32) (mNow : Nat → Int32) (mSor : Nat → Int32) (mSiz : Nat → Int32) (mCel : Nat → Int32)  (Q : Int32 → (Nat → Int32) → (Nat → Int32) → (Nat → Int32) → (Nat → Int32) → Prop) (mHol : Nat → Int32) (mHoA : Nat → Int32) (mHoB : Nat → Int32) (mHoC : Nat → Int32) : Prop :=
  ((¬ p2 = 2 → jp_X7_lay_44 p1 p2 p3 mNow mSor mSiz mCel Q mHol mHoA mHoB mHoC) ∧ (p2 = 2 → wp_X7_isSheet p3 (fun (r_20 : Int32) => ((¬ r_20 = 0 → jp_X7_lay_44 p1 p2 p3 mNow mSor mSiz mCel Q mHol mHoA mHoB mHoC) ∧ (r_20 = 0 → Q (-1000000001) mHol mHoA mHoB mHoC)))))
def wp_X7_lay (p1 : Int32) (p2 : Int32) (p3 : Int32) (mNow : Nat → Int32) (mSor : Nat → Int32) (mSiz : Nat → Int32) (mCel : Nat → Int32) (mHol : Nat → Int32) (mHoA : Nat → Int32) (mHoB : Nat → Int32) (mHoC : Nat → Int32) (Q : Int32 → (Nat → Int32) → (Nat → Int32) → (Nat → Int32) → (Nat → Int32) → Prop) : Prop :=
  wp_X7_isSlot p1 (fun (r_22 : Int32) => ((r_22 = 0 → Q (-1000000001) mHol mHoA mHoB mHoC) ∧ (¬ (r_22 = 0) → wp_X7_in p2 0 3 (fun (r_24 : Int32) => ((r_24 = 0 → Q (-1000000001) mHol mHoA mHoB mHoC) ∧ (¬ (r_24 = 0) → ((¬ p2 = 1 → jp_X7_lay_29 p1 p2 p3 mNow mSor mSiz mCel Q mHol mHoA mHoB mHoC) ∧ (p2 = 1 → wp_X7_isPlace p3 mNow (fun (r_27 : Int32) => ((r_27 = 0 → Q (-1000000001) mHol mHoA mHoB mHoC) ∧ (¬ (r_27 = 0) → jp_X7_lay_29 p1 p2 p3 mNow mSor mSiz mCel Q mHol mHoA mHoB mHoC)))))))))))
set_option maxHeartbeats 4000000 in
set_option maxRecDepth 100000 in
theorem c_X7_lay (l : Launch) (E : gE) (mo mn mi ma ml mt mb mr mp mk mq mc mw mz ms mf mu mv mx mh mA mB mC mM mT : Nat) (sz : Nat) (mHI : Int32) (mFC : Int32) (mLC : Int32) (mCg : Int32) (mTp : Int32) (mNx : Int32) (mFr : Int32) (mTk : Int32) (mVa : Int32) (mEn : Int32) (mKe : Int32) (mCs : Int32) (mAt : Int32) (mHd : Int32) (mWg : Int32) (mNow : Nat → Int32) (mImg : Nat → Int32) (mAsd : Nat → Int32) (mLea : Nat → Int32) (mLat : Nat → Int32) (mBst : Nat → Int32) (mRsk : Nat → Int32) (mTap : Nat → Int32) (mKys : Nat → Int32) (mKat : Nat → Int32) (mCod : Nat → Int32) (mWts : Nat → Int32) (mTes : Nat → Int32) (mStk : Nat → Int32) (mFct : Nat → Int32) (mSor : Nat → Int32) (mSiz : Nat → Int32) (mCel : Nat → Int32) (mHol : Nat → Int32) (mHoA : Nat → Int32) (mHoB : Nat → Int32) (mHoC : Nat → Int32) (mMov : Nat → Int32) (mTel : Nat → Int32) (p1 p2 p3 : Int32)  (Q : Int32 → (Nat → Int32) → (Nat → Int32) → (Nat → Int32) → (Nat → Int32) → Prop) (h : wp_X7_lay p1 p2 p3 mNow mSor mSiz mCel mHol mHoA mHoB mHoC Q) : Met l yX7_lay wsX7_lay ({ frames := 2, cells := 0, slots := 0, locals := 44 } : Room) (va_Pc [.ref mo, .int p1, .int p2, .int p3] (rc_B E (rw_24 E mo mn mi ma ml mt mb mr mp mk mq mc mw mz ms mf mu mv mx mh mA mB mC mM mT mHI mFC mLC mCg mTp mNx mFr mTk mVa mEn mKe mCs mAt mHd mWg mNow mImg mAsd mLea mLat mBst mRsk mTap mKys mKat mCod mWts mTes mStk mFct mSor mSiz mCel mHol mHoA mHoB mHoC mMov mTel) sz)) (va_Qi (S := (Nat → Int32) × (Nat → Int32) × (Nat → Int32) × (Nat → Int32)) (fun (r : Int32) (u : (Nat → Int32) × (Nat → Int32) × (Nat → Int32) × (Nat → Int32)) => Q r u.1 u.2.1 u.2.2.1 u.2.2.2) (fun u t => rc_C E (va_A (rw_24 E mo mn mi ma ml mt mb mr mp mk mq mc mw mz ms mf mu mv mx mh mA mB mC mM mT mHI mFC mLC mCg mTp mNx mFr mTk mVa mEn mKe mCs mAt mHd mWg mNow mImg mAsd mLea mLat mBst mRsk mTap mKys mKat mCod mWts mTes mStk mFct mSor mSiz mCel mHol mHoA mHoB mHoC mMov mTel) sz) (rw_24 E mo mn mi ma ml mt mb mr mp mk mq mc mw mz ms mf mu mv mx mh mA mB mC mM mT mHI mFC mLC mCg mTp mNx mFr mTk mVa mEn mKe mCs mAt mHd mWg mNow mImg mAsd mLea mLat mBst mRsk mTap mKys mKat mCod mWts mTes mStk mFct mSor mSiz mCel u.1 u.2.1 u.2.2.1 u.2.2.2 mMov mTel) t) (va_A (rw_24 E mo mn mi ma ml mt mb mr mp mk mq mc mw mz ms mf mu mv mx mh mA mB mC mM mT mHI mFC mLC mCg mTp mNx mFr mTk mVa mEn mKe mCs mAt mHd mWg mNow mImg mAsd mLea mLat mBst mRsk mTap mKys mKat mCod mWts mTes mStk mFct mSor mSiz mCel mHol mHoA mHoB mHoC mMov mTel) sz)) 0 0 (va_A (rw_24 E mo mn mi ma ml mt mb mr mp mk mq mc mw mz ms mf mu mv mx mh mA mB mC mM mT mHI mFC mLC mCg mTp mNx mFr mTk mVa mEn mKe mCs mAt mHd mWg mNow mImg mAsd mLea mLat mBst mRsk mTap mKys mKat mCod mWts mTes mStk mFct mSor mSiz mCel mHol mHoA mHoB mHoC mMov mTel) sz) := by
  refine rc_enterI (cc := cX7_lay) (maxL := 6) (by decide) rfl (Nat.le_of_ble_eq_true rfl) ?_
  intro p e s m args below meth c QQ A hx hb hml hown hts hmn hE hP hD hA hret ls hl
  have hown : s.vm.findClass RX7 = some m.cls := hown
  have hK := hE.1
  have hS : va_S A s.heap s.heap [] := va_S.rf
  have hl : lv_has ls 6 [(0, .ref mo), (1, .int p1), (2, .int p2), (3, .int p3)] := hl
  have n_X7 : ∀ w ∈ wsX70, w ∈ wsX7_lay := fun _ h => List.mem_cons_of_mem _ (List.mem_append_right _ h)
  have k_75 := hts (.fieldLink RX7 75 "RidgeClapsModel" "heldCells" "[I") (List.mem_of_getElem? (i := 8) rfl)
  have k_63 := hts (.fieldLink RX7 63 "RidgeClapsModel" "cells" "[I") (List.mem_of_getElem? (i := 9) rfl)
  have k_72 := hts (.fieldLink RX7 72 "RidgeClapsModel" "holdsB" "[I") (List.mem_of_getElem? (i := 7) rfl)
  have k_66 := hts (.fieldLink RX7 66 "RidgeClapsModel" "holds" "[I") (List.mem_of_getElem? (i := 4) rfl)
  have k_69 := hts (.fieldLink RX7 69 "RidgeClapsModel" "holdsA" "[I") (List.mem_of_getElem? (i := 5) rfl)
  have k_60 := hts (.fieldLink RX7 60 "RidgeClapsModel" "sizes" "[I") (List.mem_of_getElem? (i := 6) rfl)
  have k_57 := hts (.fieldLink RX7 57 "RidgeClapsModel" "sorts" "[I") (List.mem_of_getElem? (i := 2) rfl)
  have k_177 := hts (.constant RX7 177 (-1000000011)) (List.mem_of_getElem? (i := 3) rfl)
  have k_89 := hts (.constant RX7 89 (-1000000001)) (List.mem_of_getElem? (i := 1) rfl)
  have J134 : ∀ (n : Nat) (x4 : Int32) (x5 : Int32) (mHol : Nat → Int32) (mHoA : Nat → Int32) (mHoB : Nat → Int32) (mHoC : Nat → Int32), lp_X7_lay_134 p1 p2 p3 mCel Q n x4 x5 mHol mHoA mHoB mHoC → ∀ (H : Heap) (locs : List Loc), va_P E.1 vwCl (rw_24 E mo mn mi ma ml mt mb mr mp mk mq mc mw mz ms mf mu mv mx mh mA mB mC mM mT mHI mFC mLC mCg mTp mNx mFr mTk mVa mEn mKe mCs mAt mHd mWg mNow mImg mAsd mLea mLat mBst mRsk mTap mKys mKat mCod mWts mTes mStk mFct mSor mSiz mCel mHol mHoA mHoB mHoC mMov mTel) H → va_D A (rw_24 E mo mn mi ma ml mt mb mr mp mk mq mc mw mz ms mf mu mv mx mh mA mB mC mM mT mHI mFC mLC mCg mTp mNx mFr mTk mVa mEn mKe mCs mAt mHd mWg mNow mImg mAsd mLea mLat mBst mRsk mTap mKys mKat mCod mWts mTes mStk mFct mSor mSiz mCel mHol mHoA mHoB mHoC mMov mTel) → va_S A s.heap H locs → ∀ ls : Array Slot, lv_has ls 6 [(0, .ref mo), (1, .int p1), (2, .int p2), (3, .int p3), (4, .int x4), (5, .int x5)] → W p l e ({ frames := 2, cells := 0, slots := 0, locals := 44 } : Room) s m args below meth c H locs 0 0 QQ (F0 m 134 ls []) := by
    intro n
    induction n with
    | zero =>
      intro x4 x5 mHol mHoA mHoB mHoC h
      exact False.elim h
    | succ n ih =>
      intro x4 x5 mHol mHoA mHoB mHoC h H locs hP hD hS ls hl
      have h : lp_X7_lay_134F p1 p2 p3 mCel Q (lp_X7_lay_134 p1 p2 p3 mCel Q n) x4 x5 mHol mHoA mHoB mHoC := h
      unfold lp_X7_lay_134F at h
      refine lv_iload hx hb dX7_lay_134 (lv_at hl 5 rfl) ?_
      refine lv_bipush (v := 24) hx hb dX7_lay_136 (by decide) ?_
      refine lv_icmp_ge (tgt := 176) hx hb dX7_lay_138 (by decide) (fun c_1 => ?_) (fun c_1 => ?_)
      · have h := h.1 c_1
        refine lv_iload hx hb dX7_lay_176 (lv_at hl 4 rfl) ?_
        exact hret _ _ _ _ x4 (mHol, mHoA, mHoB, mHoC) rfl h hP hD hS dX7_lay_178
      · have h := h.2 c_1
        refine lv_iload_n hx hb dX7_lay_141 rfl (lv_at hl 2 rfl) ?_
        refine lv_iconst (v := 2) hx hb dX7_lay_142 (by decide) ?_
        refine lv_icmp_ne (tgt := 176) hx hb dX7_lay_143 (by decide) (fun c_2 => ?_) (fun c_2 => ?_)
        · have h := h.1 c_2
          refine lv_iload hx hb dX7_lay_176 (lv_at hl 4 rfl) ?_
          exact hret _ _ _ _ x4 (mHol, mHoA, mHoB, mHoC) rfl h hP hD hS dX7_lay_178
        · have h := h.2 c_2
          refine lv_aload_n hx hb dX7_lay_146 rfl (lv_at hl 0 rfl) ?_
          refine va_get (D := E.1) (ci := 7) (v := .ref mC) (C := RX7) (T := TX7) (N := 39) hx hb hts n_X7 hown hK hP 0 rfl rfl 35 (by decide) k_75 (fun _ h9 => h9) rfl dX7_lay_147 ?_
          refine lv_bipush (v := 24) hx hb dX7_lay_150 (by decide) ?_
          refine lv_iload_n hx hb dX7_lay_152 rfl (lv_at hl 1 rfl) ?_
          refine lv_imul hx hb dX7_lay_153 ?_
          refine lv_iload hx hb dX7_lay_154 (lv_at hl 5 rfl) ?_
          refine lv_iadd hx hb dX7_lay_156 ?_
          refine lv_aload_n hx hb dX7_lay_157 rfl (lv_at hl 0 rfl) ?_
          refine va_get (D := E.1) (ci := 7) (v := .ref mx) (C := RX7) (T := TX7) (N := 39) hx hb hts n_X7 hown hK hP 0 rfl rfl 31 (by decide) k_63 (fun _ h9 => h9) rfl dX7_lay_158 ?_
          refine lv_bipush (v := 24) hx hb dX7_lay_161 (by decide) ?_
          refine lv_iload_n hx hb dX7_lay_163 rfl (lv_at hl 3 rfl) ?_
          refine lv_imul hx hb dX7_lay_164 ?_
          refine lv_iload hx hb dX7_lay_165 (lv_at hl 5 rfl) ?_
          refine lv_iadd hx hb dX7_lay_167 ?_
          obtain ⟨o_3, h⟩ := h
          refine rc_iald hx hb hK hP 18 0 rfl rfl (((24 * p3) + x5).toNatClampNeg) rfl o_3 dX7_lay_168 ?_
          obtain ⟨o_4, h⟩ := h
          refine rc_iast hx hb hK hP hD hS 22 0 rfl rfl (((24 * p1) + x5).toNatClampNeg) rfl o_4 dX7_lay_169 (fun H locs hP hD hS => ?_)
          have hP : va_P E.1 vwCl (rw_24 E mo mn mi ma ml mt mb mr mp mk mq mc mw mz ms mf mu mv mx mh mA mB mC mM mT mHI mFC mLC mCg mTp mNx mFr mTk mVa mEn mKe mCs mAt mHd mWg mNow mImg mAsd mLea mLat mBst mRsk mTap mKys mKat mCod mWts mTes mStk mFct mSor mSiz mCel mHol mHoA mHoB (upd mHoC (((24 * p1) + x5).toNatClampNeg) (mCel (((24 * p3) + x5).toNatClampNeg))) mMov mTel) H := hP
          have hD : va_D A (rw_24 E mo mn mi ma ml mt mb mr mp mk mq mc mw mz ms mf mu mv mx mh mA mB mC mM mT mHI mFC mLC mCg mTp mNx mFr mTk mVa mEn mKe mCs mAt mHd mWg mNow mImg mAsd mLea mLat mBst mRsk mTap mKys mKat mCod mWts mTes mStk mFct mSor mSiz mCel mHol mHoA mHoB (upd mHoC (((24 * p1) + x5).toNatClampNeg) (mCel (((24 * p3) + x5).toNatClampNeg))) mMov mTel) := hD
          refine lv_iinc (v := x5 + 1) (lv' := [(5, .int (x5 + 1)), (0, .ref mo), (1, .int p1), (2, .int p2), (3, .int p3), (4, .int x4)]) hx hb dX7_lay_170 hl (k := 5) rfl (by rfl) (by decide) rfl (fun ls hl => ?_)
          refine lv_goto (tgt := 134) hx hb dX7_lay_173 (by decide) ?_
          exact ih x4 (x5 + 1) mHol mHoA mHoB (upd mHoC (((24 * p1) + x5).toNatClampNeg) (mCel (((24 * p3) + x5).toNatClampNeg))) h _ _ hP hD hS ls (lv_sub hl [1, 2, 3, 4, 5, 0] rfl)
  have J110 : ∀ (x4 : Int32) (y0 : Int32) (y1 : Int32) (mHol : Nat → Int32) (mHoA : Nat → Int32) (mHoB : Nat → Int32) (mHoC : Nat → Int32), jp_X7_lay_110 p1 p2 p3 mNow mCel Q x4 y0 y1 mHol mHoA mHoB mHoC → ∀ (H : Heap) (locs : List Loc), va_P E.1 vwCl (rw_24 E mo mn mi ma ml mt mb mr mp mk mq mc mw mz ms mf mu mv mx mh mA mB mC mM mT mHI mFC mLC mCg mTp mNx mFr mTk mVa mEn mKe mCs mAt mHd mWg mNow mImg mAsd mLea mLat mBst mRsk mTap mKys mKat mCod mWts mTes mStk mFct mSor mSiz mCel mHol mHoA mHoB mHoC mMov mTel) H → va_D A (rw_24 E mo mn mi ma ml mt mb mr mp mk mq mc mw mz ms mf mu mv mx mh mA mB mC mM mT mHI mFC mLC mCg mTp mNx mFr mTk mVa mEn mKe mCs mAt mHd mWg mNow mImg mAsd mLea mLat mBst mRsk mTap mKys mKat mCod mWts mTes mStk mFct mSor mSiz mCel mHol mHoA mHoB mHoC mMov mTel) → va_S A s.heap H locs → ∀ ls : Array Slot, lv_has ls 6 [(0, .ref mo), (1, .int p1), (2, .int p2), (3, .int p3), (4, .int x4)] → W p l e ({ frames := 2, cells := 0, slots := 0, locals := 44 } : Room) s m args below meth c H locs 0 0 QQ (F0 m 110 ls [.int y0, .int y1, .ref mA]) := by
    intro x4 y0 y1 mHol mHoA mHoB mHoC h H locs hP hD hS ls hl
    unfold jp_X7_lay_110 at h
    obtain ⟨o_5, h⟩ := h
    refine rc_iast hx hb hK hP hD hS 20 0 rfl rfl y1.toNatClampNeg rfl o_5 dX7_lay_110 (fun H locs hP hD hS => ?_)
    have hP : va_P E.1 vwCl (rw_24 E mo mn mi ma ml mt mb mr mp mk mq mc mw mz ms mf mu mv mx mh mA mB mC mM mT mHI mFC mLC mCg mTp mNx mFr mTk mVa mEn mKe mCs mAt mHd mWg mNow mImg mAsd mLea mLat mBst mRsk mTap mKys mKat mCod mWts mTes mStk mFct mSor mSiz mCel mHol (upd mHoA y1.toNatClampNeg y0) mHoB mHoC mMov mTel) H := hP
    have hD : va_D A (rw_24 E mo mn mi ma ml mt mb mr mp mk mq mc mw mz ms mf mu mv mx mh mA mB mC mM mT mHI mFC mLC mCg mTp mNx mFr mTk mVa mEn mKe mCs mAt mHd mWg mNow mImg mAsd mLea mLat mBst mRsk mTap mKys mKat mCod mWts mTes mStk mFct mSor mSiz mCel mHol (upd mHoA y1.toNatClampNeg y0) mHoB mHoC mMov mTel) := hD
    refine lv_aload_n hx hb dX7_lay_111 rfl (lv_at hl 0 rfl) ?_
    refine va_get (D := E.1) (ci := 7) (v := .ref mB) (C := RX7) (T := TX7) (N := 39) hx hb hts n_X7 hown hK hP 0 rfl rfl 34 (by decide) k_72 (fun _ h9 => h9) rfl dX7_lay_112 ?_
    refine lv_iload_n hx hb dX7_lay_115 rfl (lv_at hl 1 rfl) ?_
    refine lv_iload_n hx hb dX7_lay_116 rfl (lv_at hl 2 rfl) ?_
    refine lv_iconst (v := 1) hx hb dX7_lay_117 (by decide) ?_
    refine lv_icmp_ne (tgt := 129) hx hb dX7_lay_118 (by decide) (fun c_6 => ?_) (fun c_6 => ?_)
    · have h := h.1 c_6
      refine lv_iconst (v := 0) hx hb dX7_lay_129 (by decide) ?_
      obtain ⟨o_7, h⟩ := h
      refine rc_iast hx hb hK hP hD hS 21 0 rfl rfl p1.toNatClampNeg rfl o_7 dX7_lay_130 (fun H locs hP hD hS => ?_)
      have hP : va_P E.1 vwCl (rw_24 E mo mn mi ma ml mt mb mr mp mk mq mc mw mz ms mf mu mv mx mh mA mB mC mM mT mHI mFC mLC mCg mTp mNx mFr mTk mVa mEn mKe mCs mAt mHd mWg mNow mImg mAsd mLea mLat mBst mRsk mTap mKys mKat mCod mWts mTes mStk mFct mSor mSiz mCel mHol (upd mHoA y1.toNatClampNeg y0) (upd mHoB p1.toNatClampNeg 0) mHoC mMov mTel) H := hP
      have hD : va_D A (rw_24 E mo mn mi ma ml mt mb mr mp mk mq mc mw mz ms mf mu mv mx mh mA mB mC mM mT mHI mFC mLC mCg mTp mNx mFr mTk mVa mEn mKe mCs mAt mHd mWg mNow mImg mAsd mLea mLat mBst mRsk mTap mKys mKat mCod mWts mTes mStk mFct mSor mSiz mCel mHol (upd mHoA y1.toNatClampNeg y0) (upd mHoB p1.toNatClampNeg 0) mHoC mMov mTel) := hD
      refine lv_iconst (v := 0) hx hb dX7_lay_131 (by decide) ?_
      refine lv_istore (lv' := [(5, .int 0), (0, .ref mo), (1, .int p1), (2, .int p2), (3, .int p3), (4, .int x4)]) hx hb dX7_lay_132 hl (by decide) rfl (fun ls hl => ?_)
      obtain ⟨n, h⟩ := h
      exact J134 n x4 0 mHol (upd mHoA y1.toNatClampNeg y0) (upd mHoB p1.toNatClampNeg 0) mHoC h _ _ hP hD hS ls (lv_sub hl [1, 2, 3, 4, 5, 0] rfl)
    · have h := h.2 c_6
      refine lv_aload_n hx hb dX7_lay_121 rfl (lv_at hl 0 rfl) ?_
      refine lv_iload_n hx hb dX7_lay_122 rfl (lv_at hl 3 rfl) ?_
      have hPc := hP
      have hDc := hD
      have hFc := rc_freeI hD hS hA
      refine va_calli (va_runV (As := [.int p3]) (rest := [.int p1, .ref mB]) ⟨hx, hb, hml, hown, hts⟩ (c_X7_worthOf l E mo mn mi ma ml mt mb mr mp mk mq mc mw mz ms mf mu mv mx mh mA mB mC mM mT H.size mHI mFC mLC mCg mTp mNx mFr mTk mVa mEn mKe mCs mAt mHd mWg mNow mImg mAsd mLea mLat mBst mRsk mTap mKys mKat mCod mWts mTes mStk mFct mSor mSiz mCel mHol (upd mHoA y1.toNatClampNeg y0) mHoB mHoC mMov mTel p3 _ h) (cwV 1 hts gX7_lay_X7_worthOf rfl rfl rfl (by decide +kernel) ⟨Nat.le_of_ble_eq_true rfl, Nat.le_of_ble_eq_true rfl⟩) ⟨fun a U g mk q => ⟨q.1, q.2.blind⟩, va_recv hK hPc (ci := 7) (q0 := 0) rfl rfl, fun U hU hW => ⟨rfl, by rw [hU], by rw [hU]; exact hPc, hE.call hS hFc hW hU, hDc.weaken (fun _ _ _ _ => trivial)⟩⟩ rfl rfl hl.1 rfl (lv_room (Nat.le_of_ble_eq_true rfl)) dX7_lay_123 ⟨Nat.zero_le _, Nat.zero_le _⟩) hS (fun q _ h => hFc q h) hFc (fun r_8 u t H1 locs ht hvm h hB hz1 hk1 hS => ?_)
      obtain ⟨hP1, hD1⟩ := hB
      rw [ht] at hP1
      have hP := hP1
      have hD := hD1.weaken (fun _ _ _ h => hFc _ h)
      generalize H1 = H at hP hS ⊢
      have hP : va_P E.1 vwCl (rw_24 E mo mn mi ma ml mt mb mr mp mk mq mc mw mz ms mf mu mv mx mh mA mB mC mM mT mHI mFC mLC mCg mTp mNx mFr mTk mVa mEn mKe mCs mAt mHd mWg mNow mImg mAsd mLea mLat mBst mRsk mTap mKys mKat mCod mWts mTes mStk mFct mSor mSiz mCel mHol (upd mHoA y1.toNatClampNeg y0) mHoB mHoC mMov mTel) H := hP
      have hD : va_D A (rw_24 E mo mn mi ma ml mt mb mr mp mk mq mc mw mz ms mf mu mv mx mh mA mB mC mM mT mHI mFC mLC mCg mTp mNx mFr mTk mVa mEn mKe mCs mAt mHd mWg mNow mImg mAsd mLea mLat mBst mRsk mTap mKys mKat mCod mWts mTes mStk mFct mSor mSiz mCel mHol (upd mHoA y1.toNatClampNeg y0) mHoB mHoC mMov mTel) := hD
      refine lv_goto (tgt := 130) hx hb dX7_lay_126 (by decide) ?_
      obtain ⟨o_9, h⟩ := h
      refine rc_iast hx hb hK hP hD hS 21 0 rfl rfl p1.toNatClampNeg rfl o_9 dX7_lay_130 (fun H locs hP hD hS => ?_)
      have hP : va_P E.1 vwCl (rw_24 E mo mn mi ma ml mt mb mr mp mk mq mc mw mz ms mf mu mv mx mh mA mB mC mM mT mHI mFC mLC mCg mTp mNx mFr mTk mVa mEn mKe mCs mAt mHd mWg mNow mImg mAsd mLea mLat mBst mRsk mTap mKys mKat mCod mWts mTes mStk mFct mSor mSiz mCel mHol (upd mHoA y1.toNatClampNeg y0) (upd mHoB p1.toNatClampNeg r_8) mHoC mMov mTel) H := hP
      have hD : va_D A (rw_24 E mo mn mi ma ml mt mb mr mp mk mq mc mw mz ms mf mu mv mx mh mA mB mC mM mT mHI mFC mLC mCg mTp mNx mFr mTk mVa mEn mKe mCs mAt mHd mWg mNow mImg mAsd mLea mLat mBst mRsk mTap mKys mKat mCod mWts mTes mStk mFct mSor mSiz mCel mHol (upd mHoA y1.toNatClampNeg y0) (upd mHoB p1.toNatClampNeg r_8) mHoC mMov mTel) := hD
      refine lv_iconst (v := 0) hx hb dX7_lay_131 (by decide) ?_
      refine lv_istore (lv' := [(5, .int 0), (0, .ref mo), (1, .int p1), (2, .int p2), (3, .int p3), (4, .int x4)]) hx hb dX7_lay_132 hl (by decide) rfl (fun ls hl => ?_)
      obtain ⟨n, h⟩ := h
      exact J134 n x4 0 mHol (upd mHoA y1.toNatClampNeg y0) (upd mHoB p1.toNatClampNeg r_8) mHoC h _ _ hP hD hS ls (lv_sub hl [1, 2, 3, 4, 5, 0] rfl)
  have J61 : ∀ (mHol : Nat → Int32) (mHoA : Nat → Int32) (mHoB : Nat → Int32) (mHoC : Nat → Int32), jp_X7_lay_61 p1 p2 p3 mNow mSiz mCel Q mHol mHoA mHoB mHoC → ∀ (H : Heap) (locs : List Loc), va_P E.1 vwCl (rw_24 E mo mn mi ma ml mt mb mr mp mk mq mc mw mz ms mf mu mv mx mh mA mB mC mM mT mHI mFC mLC mCg mTp mNx mFr mTk mVa mEn mKe mCs mAt mHd mWg mNow mImg mAsd mLea mLat mBst mRsk mTap mKys mKat mCod mWts mTes mStk mFct mSor mSiz mCel mHol mHoA mHoB mHoC mMov mTel) H → va_D A (rw_24 E mo mn mi ma ml mt mb mr mp mk mq mc mw mz ms mf mu mv mx mh mA mB mC mM mT mHI mFC mLC mCg mTp mNx mFr mTk mVa mEn mKe mCs mAt mHd mWg mNow mImg mAsd mLea mLat mBst mRsk mTap mKys mKat mCod mWts mTes mStk mFct mSor mSiz mCel mHol mHoA mHoB mHoC mMov mTel) → va_S A s.heap H locs → ∀ ls : Array Slot, lv_has ls 6 [(0, .ref mo), (1, .int p1), (2, .int p2), (3, .int p3)] → W p l e ({ frames := 2, cells := 0, slots := 0, locals := 44 } : Room) s m args below meth c H locs 0 0 QQ (F0 m 61 ls []) := by
    intro mHol mHoA mHoB mHoC h H locs hP hD hS ls hl
    unfold jp_X7_lay_61 at h
    refine lv_aload_n hx hb dX7_lay_61 rfl (lv_at hl 0 rfl) ?_
    refine va_get (D := E.1) (ci := 7) (v := .ref mh) (C := RX7) (T := TX7) (N := 39) hx hb hts n_X7 hown hK hP 0 rfl rfl 32 (by decide) k_66 (fun _ h9 => h9) rfl dX7_lay_62 ?_
    refine lv_iload_n hx hb dX7_lay_65 rfl (lv_at hl 1 rfl) ?_
    obtain ⟨o_10, h⟩ := h
    refine rc_iald hx hb hK hP 19 0 rfl rfl p1.toNatClampNeg rfl o_10 dX7_lay_66 ?_
    refine lv_istore (lv' := [(4, .int (mHol p1.toNatClampNeg)), (0, .ref mo), (1, .int p1), (2, .int p2), (3, .int p3)]) hx hb dX7_lay_67 hl (by decide) rfl (fun ls hl => ?_)
    refine lv_aload_n hx hb dX7_lay_69 rfl (lv_at hl 1 rfl) ?_
    refine va_get (D := E.1) (ci := 7) (v := .ref mh) (C := RX7) (T := TX7) (N := 39) hx hb hts n_X7 hown hK hP 0 rfl rfl 32 (by decide) k_66 (fun _ h9 => h9) rfl dX7_lay_70 ?_
    refine lv_iload_n hx hb dX7_lay_73 rfl (lv_at hl 2 rfl) ?_
    refine lv_iload_n hx hb dX7_lay_74 rfl (lv_at hl 3 rfl) ?_
    obtain ⟨o_11, h⟩ := h
    refine rc_iast hx hb hK hP hD hS 19 0 rfl rfl p1.toNatClampNeg rfl o_11 dX7_lay_75 (fun H locs hP hD hS => ?_)
    have hP : va_P E.1 vwCl (rw_24 E mo mn mi ma ml mt mb mr mp mk mq mc mw mz ms mf mu mv mx mh mA mB mC mM mT mHI mFC mLC mCg mTp mNx mFr mTk mVa mEn mKe mCs mAt mHd mWg mNow mImg mAsd mLea mLat mBst mRsk mTap mKys mKat mCod mWts mTes mStk mFct mSor mSiz mCel (upd mHol p1.toNatClampNeg p2) mHoA mHoB mHoC mMov mTel) H := hP
    have hD : va_D A (rw_24 E mo mn mi ma ml mt mb mr mp mk mq mc mw mz ms mf mu mv mx mh mA mB mC mM mT mHI mFC mLC mCg mTp mNx mFr mTk mVa mEn mKe mCs mAt mHd mWg mNow mImg mAsd mLea mLat mBst mRsk mTap mKys mKat mCod mWts mTes mStk mFct mSor mSiz mCel (upd mHol p1.toNatClampNeg p2) mHoA mHoB mHoC mMov mTel) := hD
    refine lv_aload_n hx hb dX7_lay_76 rfl (lv_at hl 1 rfl) ?_
    refine va_get (D := E.1) (ci := 7) (v := .ref mA) (C := RX7) (T := TX7) (N := 39) hx hb hts n_X7 hown hK hP 0 rfl rfl 33 (by decide) k_69 (fun _ h9 => h9) rfl dX7_lay_77 ?_
    refine lv_iload_n hx hb dX7_lay_80 rfl (lv_at hl 2 rfl) ?_
    refine lv_iload_n hx hb dX7_lay_81 rfl (lv_at hl 3 rfl) ?_
    refine lv_iconst (v := 1) hx hb dX7_lay_82 (by decide) ?_
    refine lv_icmp_ne (tgt := 95) hx hb dX7_lay_83 (by decide) (fun c_12 => ?_) (fun c_12 => ?_)
    · have h := h.1 c_12
      refine lv_iload_n hx hb dX7_lay_95 rfl (lv_at hl 3 rfl) ?_
      refine lv_iconst (v := 2) hx hb dX7_lay_96 (by decide) ?_
      refine lv_icmp_ne (tgt := 109) hx hb dX7_lay_97 (by decide) (fun c_13 => ?_) (fun c_13 => ?_)
      · have h := h.1 c_13
        refine lv_iload_n hx hb dX7_lay_109 rfl (lv_at hl 4 rfl) ?_
        exact J110 (mHol p1.toNatClampNeg) p3 p1 (upd mHol p1.toNatClampNeg p2) mHoA mHoB mHoC h _ _ hP hD hS ls (lv_sub hl [1, 2, 3, 4, 0] rfl)
      · have h := h.2 c_13
        refine lv_aload_n hx hb dX7_lay_100 rfl (lv_at hl 1 rfl) ?_
        refine va_get (D := E.1) (ci := 7) (v := .ref mv) (C := RX7) (T := TX7) (N := 39) hx hb hts n_X7 hown hK hP 0 rfl rfl 30 (by decide) k_60 (fun _ h9 => h9) rfl dX7_lay_101 ?_
        refine lv_iload_n hx hb dX7_lay_104 rfl (lv_at hl 4 rfl) ?_
        obtain ⟨o_14, h⟩ := h
        refine rc_iald hx hb hK hP 17 0 rfl rfl p3.toNatClampNeg rfl o_14 dX7_lay_105 ?_
        refine lv_goto (tgt := 110) hx hb dX7_lay_106 (by decide) ?_
        exact J110 (mHol p1.toNatClampNeg) (mSiz p3.toNatClampNeg) p1 (upd mHol p1.toNatClampNeg p2) mHoA mHoB mHoC h _ _ hP hD hS ls (lv_sub hl [1, 2, 3, 4, 0] rfl)
    · have h := h.2 c_12
      refine lv_aload_n hx hb dX7_lay_86 rfl (lv_at hl 1 rfl) ?_
      refine lv_iload_n hx hb dX7_lay_87 rfl (lv_at hl 4 rfl) ?_
      refine lv_iconst (v := 0) hx hb dX7_lay_88 (by decide) ?_
      have hPc := hP
      have hDc := hD
      have hFc := rc_freeI hD hS hA
      refine va_calli (va_runV (As := [.int p3, .int 0]) (rest := [.int p1, .ref mA]) ⟨hx, hb, hml, hown, hts⟩ (c_X7_of l E mo mn mi ma ml mt mb mr mp mk mq mc mw mz ms mf mu mv mx mh mA mB mC mM mT H.size mHI mFC mLC mCg mTp mNx mFr mTk mVa mEn mKe mCs mAt mHd mWg mNow mImg mAsd mLea mLat mBst mRsk mTap mKys mKat mCod mWts mTes mStk mFct mSor mSiz mCel (upd mHol p1.toNatClampNeg p2) mHoA mHoB mHoC mMov mTel p3 0 _ h) (cwV 2 hts gX7_lay_X7_of rfl rfl rfl (by decide +kernel) ⟨Nat.le_of_ble_eq_true rfl, Nat.le_of_ble_eq_true rfl⟩) ⟨fun a U g mk q => ⟨q.1, q.2.blind⟩, va_recv hK hPc (ci := 7) (q0 := 0) rfl rfl, fun U hU hW => ⟨rfl, by rw [hU], by rw [hU]; exact hPc, hE.call hS hFc hW hU, hDc.weaken (fun _ _ _ _ => trivial)⟩⟩ rfl rfl hl.1 rfl (lv_room (Nat.le_of_ble_eq_true rfl)) dX7_lay_89 ⟨Nat.zero_le _, Nat.zero_le _⟩) hS (fun q _ h => hFc q h) hFc (fun r_15 u t H1 locs ht hvm h hB hz1 hk1 hS => ?_)
      obtain ⟨hP1, hD1⟩ := hB
      rw [ht] at hP1
      have hP := hP1
      have hD := hD1.weaken (fun _ _ _ h => hFc _ h)
      generalize H1 = H at hP hS ⊢
      have hP : va_P E.1 vwCl (rw_24 E mo mn mi ma ml mt mb mr mp mk mq mc mw mz ms mf mu mv mx mh mA mB mC mM mT mHI mFC mLC mCg mTp mNx mFr mTk mVa mEn mKe mCs mAt mHd mWg mNow mImg mAsd mLea mLat mBst mRsk mTap mKys mKat mCod mWts mTes mStk mFct mSor mSiz mCel (upd mHol p1.toNatClampNeg p2) mHoA mHoB mHoC mMov mTel) H := hP
      have hD : va_D A (rw_24 E mo mn mi ma ml mt mb mr mp mk mq mc mw mz ms mf mu mv mx mh mA mB mC mM mT mHI mFC mLC mCg mTp mNx mFr mTk mVa mEn mKe mCs mAt mHd mWg mNow mImg mAsd mLea mLat mBst mRsk mTap mKys mKat mCod mWts mTes mStk mFct mSor mSiz mCel (upd mHol p1.toNatClampNeg p2) mHoA mHoB mHoC mMov mTel) := hD
      refine lv_goto (tgt := 110) hx hb dX7_lay_92 (by decide) ?_
      exact J110 (mHol p1.toNatClampNeg) r_15 p1 (upd mHol p1.toNatClampNeg p2) mHoA mHoB mHoC h _ _ hP hD hS ls (lv_sub hl [1, 2, 3, 4, 0] rfl)
  have J44 : ∀ (mHol : Nat → Int32) (mHoA : Nat → Int32) (mHoB : Nat → Int32) (mHoC : Nat → Int32), jp_X7_lay_44 p1 p2 p3 mNow mSor mSiz mCel Q mHol mHoA mHoB mHoC → ∀ (H : Heap) (locs : List Loc), va_P E.1 vwCl (rw_24 E mo mn mi ma ml mt mb mr mp mk mq mc mw mz ms mf mu mv mx mh mA mB mC mM mT mHI mFC mLC mCg mTp mNx mFr mTk mVa mEn mKe mCs mAt mHd mWg mNow mImg mAsd mLea mLat mBst mRsk mTap mKys mKat mCod mWts mTes mStk mFct mSor mSiz mCel mHol mHoA mHoB mHoC mMov mTel) H → va_D A (rw_24 E mo mn mi ma ml mt mb mr mp mk mq mc mw mz ms mf mu mv mx mh mA mB mC mM mT mHI mFC mLC mCg mTp mNx mFr mTk mVa mEn mKe mCs mAt mHd mWg mNow mImg mAsd mLea mLat mBst mRsk mTap mKys mKat mCod mWts mTes mStk mFct mSor mSiz mCel mHol mHoA mHoB mHoC mMov mTel) → va_S A s.heap H locs → ∀ ls : Array Slot, lv_has ls 6 [(0, .ref mo), (1, .int p1), (2, .int p2), (3, .int p3)] → W p l e ({ frames := 2, cells := 0, slots := 0, locals := 44 } : Room) s m args below meth c H locs 0 0 QQ (F0 m 44 ls []) := by
    intro mHol mHoA mHoB mHoC h H locs hP hD hS ls hl
    unfold jp_X7_lay_44 at h
    refine lv_iload_n hx hb dX7_lay_44 rfl (lv_at hl 2 rfl) ?_
    refine lv_iconst (v := 2) hx hb dX7_lay_45 (by decide) ?_
    refine lv_icmp_ne (tgt := 61) hx hb dX7_lay_46 (by decide) (fun c_16 => ?_) (fun c_16 => ?_)
    · have h := h.1 c_16
      exact J61 mHol mHoA mHoB mHoC h _ _ hP hD hS ls (lv_sub hl [0, 1, 2, 3] rfl)
    · have h := h.2 c_16
      refine lv_aload_n hx hb dX7_lay_49 rfl (lv_at hl 0 rfl) ?_
      refine va_get (D := E.1) (ci := 7) (v := .ref mu) (C := RX7) (T := TX7) (N := 39) hx hb hts n_X7 hown hK hP 0 rfl rfl 29 (by decide) k_57 (fun _ h9 => h9) rfl dX7_lay_50 ?_
      refine lv_iload_n hx hb dX7_lay_53 rfl (lv_at hl 3 rfl) ?_
      obtain ⟨o_17, h⟩ := h
      refine rc_iald hx hb hK hP 16 0 rfl rfl p3.toNatClampNeg rfl o_17 dX7_lay_54 ?_
      refine lv_if_ge (tgt := 61) hx hb dX7_lay_55 (by decide) (fun c_18 => ?_) (fun c_18 => ?_)
      · have h := h.1 c_18
        exact J61 mHol mHoA mHoB mHoC h _ _ hP hD hS ls (lv_sub hl [0, 1, 2, 3] rfl)
      · have h := h.2 c_18
        refine lv_ldc hx hb hown k_177 dX7_lay_58 ?_
        exact hret _ _ _ _ (-1000000011) (mHol, mHoA, mHoB, mHoC) rfl h hP hD hS dX7_lay_60
  have J29 : ∀ (mHol : Nat → Int32) (mHoA : Nat → Int32) (mHoB : Nat → Int32) (mHoC : Nat → Int32), jp_X7_lay_29 p1 p2 p3 mNow mSor mSiz mCel Q mHol mHoA mHoB mHoC → ∀ (H : Heap) (locs : List Loc), va_P E.1 vwCl (rw_24 E mo mn mi ma ml mt mb mr mp mk mq mc mw mz ms mf mu mv mx mh mA mB mC mM mT mHI mFC mLC mCg mTp mNx mFr mTk mVa mEn mKe mCs mAt mHd mWg mNow mImg mAsd mLea mLat mBst mRsk mTap mKys mKat mCod mWts mTes mStk mFct mSor mSiz mCel mHol mHoA mHoB mHoC mMov mTel) H → va_D A (rw_24 E mo mn mi ma ml mt mb mr mp mk mq mc mw mz ms mf mu mv mx mh mA mB mC mM mT mHI mFC mLC mCg mTp mNx mFr mTk mVa mEn mKe mCs mAt mHd mWg mNow mImg mAsd mLea mLat mBst mRsk mTap mKys mKat mCod mWts mTes mStk mFct mSor mSiz mCel mHol mHoA mHoB mHoC mMov mTel) → va_S A s.heap H locs → ∀ ls : Array Slot, lv_has ls 6 [(0, .ref mo), (1, .int p1), (2, .int p2), (3, .int p3)] → W p l e ({ frames := 2, cells := 0, slots := 0, locals := 44 } : Room) s m args below meth c H locs 0 0 QQ (F0 m 29 ls []) := by
    intro mHol mHoA mHoB mHoC h H locs hP hD hS ls hl
    unfold jp_X7_lay_29 at h
    refine lv_iload_n hx hb dX7_lay_29 rfl (lv_at hl 2 rfl) ?_
    refine lv_iconst (v := 2) hx hb dX7_lay_30 (by decide) ?_
    refine lv_icmp_ne (tgt := 44) hx hb dX7_lay_31 (by decide) (fun c_19 => ?_) (fun c_19 => ?_)
    · have h := h.1 c_19
      exact J44 mHol mHoA mHoB mHoC h _ _ hP hD hS ls (lv_sub hl [0, 1, 2, 3] rfl)
    · have h := h.2 c_19
      refine lv_iload_n hx hb dX7_lay_34 rfl (lv_at hl 3 rfl) ?_
      have hPc := hP.sub (ws' := []) [] rfl
      have hDc := hD.sub (ws' := []) [] (by decide) rfl
      have hFc := va_free (wc := []) hD hS hA [] rfl
      refine va_calli (va_runS (As := [.int p3]) (rest := []) ⟨hx, hb, hml, hown, hts⟩ (c_X7_isSheet l E H.size p3 _ h) (va_cwS 1 hts gX7_lay_X7_isSheet rfl rfl rfl (by decide +kernel) ⟨Nat.le_of_ble_eq_true rfl, Nat.le_of_ble_eq_true rfl⟩) ⟨fun a U g mk q => ⟨q.1, q.2.blind⟩, fun U hU hW => ⟨rfl, by rw [hU], by rw [hU]; exact hPc, hE.call hS hFc hW hU, hDc.weaken (fun _ _ _ _ => trivial)⟩⟩ rfl rfl hl.1 rfl (lv_room (Nat.le_of_ble_eq_true rfl)) dX7_lay_35 ⟨Nat.zero_le _, Nat.zero_le _⟩) hS (fun q _ h => hFc q h) hFc (fun r_20 u t H1 locs ht hvm h hB hz1 hk1 hS => ?_)
      obtain ⟨hP1, hD1⟩ := hB
      rw [ht] at hP1
      obtain ⟨hP, hD⟩ := rc_foc hP hD [] [none, none, none, none, none, none, none, none, none, none, none, none, none, none, none, none, none, none, none, none, none, none, none, none, none] (by decide) rfl hk1 hP1 rfl
      generalize H1 = H at hP hS ⊢
      have hP : va_P E.1 vwCl (rw_24 E mo mn mi ma ml mt mb mr mp mk mq mc mw mz ms mf mu mv mx mh mA mB mC mM mT mHI mFC mLC mCg mTp mNx mFr mTk mVa mEn mKe mCs mAt mHd mWg mNow mImg mAsd mLea mLat mBst mRsk mTap mKys mKat mCod mWts mTes mStk mFct mSor mSiz mCel mHol mHoA mHoB mHoC mMov mTel) H := hP
      have hD : va_D A (rw_24 E mo mn mi ma ml mt mb mr mp mk mq mc mw mz ms mf mu mv mx mh mA mB mC mM mT mHI mFC mLC mCg mTp mNx mFr mTk mVa mEn mKe mCs mAt mHd mWg mNow mImg mAsd mLea mLat mBst mRsk mTap mKys mKat mCod mWts mTes mStk mFct mSor mSiz mCel mHol mHoA mHoB mHoC mMov mTel) := hD
      refine lv_if_ne (tgt := 44) hx hb dX7_lay_38 (by decide) (fun c_21 => ?_) (fun c_21 => ?_)
      · have h := h.1 c_21
        exact J44 mHol mHoA mHoB mHoC h _ _ hP hD hS ls (lv_sub hl [0, 1, 2, 3] rfl)
      · have h := h.2 c_21
        refine lv_ldc hx hb hown k_89 dX7_lay_41 ?_
        exact hret _ _ _ _ (-1000000001) (mHol, mHoA, mHoB, mHoC) rfl h hP hD hS dX7_lay_43
  unfold wp_X7_lay at h
  obtain ⟨H, hH⟩ : ∃ H, H = s.heap := ⟨_, rfl⟩
  obtain ⟨locs, hlocs⟩ : ∃ locs : List Loc, locs = [] := ⟨_, rfl⟩
  have hP : va_P E.1 vwCl (rw_24 E mo mn mi ma ml mt mb mr mp mk mq mc mw mz ms mf mu mv mx mh mA mB mC mM mT mHI mFC mLC mCg mTp mNx mFr mTk mVa mEn mKe mCs mAt mHd mWg mNow mImg mAsd mLea mLat mBst mRsk mTap mKys mKat mCod mWts mTes mStk mFct mSor mSiz mCel mHol mHoA mHoB mHoC mMov mTel) H := by rw [hH]; exact hP
  have hS : va_S A s.heap H locs := by rw [hH, hlocs]; exact hS
  suffices hgo : W p l e ({ frames := 2, cells := 0, slots := 0, locals := 44 } : Room) s m args below meth c H locs 0 0 QQ (F0 m 0 ls []) from by rw [hH, hlocs] at hgo; exact hgo
  refine lv_iload_n hx hb dX7_lay_0 rfl (lv_at hl 1 rfl) ?_
  have hPc := hP.sub (ws' := []) [] rfl
  have hDc := hD.sub (ws' := []) [] (by decide) rfl
  have hFc := va_free (wc := []) hD hS hA [] rfl
  refine va_calli (va_runS (As := [.int p1]) (rest := []) ⟨hx, hb, hml, hown, hts⟩ (c_X7_isSlot l E H.size p1 _ h) (va_cwS 1 hts gX7_lay_X7_isSlot rfl rfl rfl (by decide +kernel) ⟨Nat.le_of_ble_eq_true rfl, Nat.le_of_ble_eq_true rfl⟩) ⟨fun a U g mk q => ⟨q.1, q.2.blind⟩, fun U hU hW => ⟨rfl, by rw [hU], by rw [hU]; exact hPc, hE.call hS hFc hW hU, hDc.weaken (fun _ _ _ _ => trivial)⟩⟩ rfl rfl hl.1 rfl (lv_room (Nat.le_of_ble_eq_true rfl)) dX7_lay_1 ⟨Nat.zero_le _, Nat.zero_le _⟩) hS (fun q _ h => hFc q h) hFc (fun r_22 u t H1 locs ht hvm h hB hz1 hk1 hS => ?_)
  obtain ⟨hP1, hD1⟩ := hB
  rw [ht] at hP1
  obtain ⟨hP, hD⟩ := rc_foc hP hD [] [none, none, none, none, none, none, none, none, none, none, none, none, none, none, none, none, none, none, none, none, none, none, none, none, none] (by decide) rfl hk1 hP1 rfl
  generalize H1 = H at hP hS ⊢
  have hP : va_P E.1 vwCl (rw_24 E mo mn mi ma ml mt mb mr mp mk mq mc mw mz ms mf mu mv mx mh mA mB mC mM mT mHI mFC mLC mCg mTp mNx mFr mTk mVa mEn mKe mCs mAt mHd mWg mNow mImg mAsd mLea mLat mBst mRsk mTap mKys mKat mCod mWts mTes mStk mFct mSor mSiz mCel mHol mHoA mHoB mHoC mMov mTel) H := hP
  have hD : va_D A (rw_24 E mo mn mi ma ml mt mb mr mp mk mq mc mw mz ms mf mu mv mx mh mA mB mC mM mT mHI mFC mLC mCg mTp mNx mFr mTk mVa mEn mKe mCs mAt mHd mWg mNow mImg mAsd mLea mLat mBst mRsk mTap mKys mKat mCod mWts mTes mStk mFct mSor mSiz mCel mHol mHoA mHoB mHoC mMov mTel) := hD
  refine lv_if_eq (tgt := 41) hx hb dX7_lay_4 (by decide) (fun c_23 => ?_) (fun c_23 => ?_)
  · have h := h.1 c_23
    refine lv_ldc hx hb hown k_89 dX7_lay_41 ?_
    exact hret _ _ _ _ (-1000000001) (mHol, mHoA, mHoB, mHoC) rfl h hP hD hS dX7_lay_43
  · have h := h.2 c_23
    refine lv_iload_n hx hb dX7_lay_7 rfl (lv_at hl 2 rfl) ?_
    refine lv_iconst (v := 0) hx hb dX7_lay_8 (by decide) ?_
    refine lv_iconst (v := 3) hx hb dX7_lay_9 (by decide) ?_
    have hPc := hP.sub (ws' := []) [] rfl
    have hDc := hD.sub (ws' := []) [] (by decide) rfl
    have hFc := va_free (wc := []) hD hS hA [] rfl
    refine va_calli (va_runS (As := [.int p2, .int 0, .int 3]) (rest := []) ⟨hx, hb, hml, hown, hts⟩ (c_X7_in l E H.size p2 0 3 _ h) (va_cwS 3 hts gX7_lay_X7_in rfl rfl rfl (by decide +kernel) ⟨Nat.le_of_ble_eq_true rfl, Nat.le_of_ble_eq_true rfl⟩) ⟨fun a U g mk q => ⟨q.1, q.2.blind⟩, fun U hU hW => ⟨rfl, by rw [hU], by rw [hU]; exact hPc, hE.call hS hFc hW hU, hDc.weaken (fun _ _ _ _ => trivial)⟩⟩ rfl rfl hl.1 rfl (lv_room (Nat.le_of_ble_eq_true rfl)) dX7_lay_10 ⟨Nat.zero_le _, Nat.zero_le _⟩) hS (fun q _ h => hFc q h) hFc (fun r_24 u t H1 locs ht hvm h hB hz1 hk1 hS => ?_)
    obtain ⟨hP1, hD1⟩ := hB
    rw [ht] at hP1
    obtain ⟨hP, hD⟩ := rc_foc hP hD [] [none, none, none, none, none, none, none, none, none, none, none, none, none, none, none, none, none, none, none, none, none, none, none, none, none] (by decide) rfl hk1 hP1 rfl
    generalize H1 = H at hP hS ⊢
    have hP : va_P E.1 vwCl (rw_24 E mo mn mi ma ml mt mb mr mp mk mq mc mw mz ms mf mu mv mx mh mA mB mC mM mT mHI mFC mLC mCg mTp mNx mFr mTk mVa mEn mKe mCs mAt mHd mWg mNow mImg mAsd mLea mLat mBst mRsk mTap mKys mKat mCod mWts mTes mStk mFct mSor mSiz mCel mHol mHoA mHoB mHoC mMov mTel) H := hP
    have hD : va_D A (rw_24 E mo mn mi ma ml mt mb mr mp mk mq mc mw mz ms mf mu mv mx mh mA mB mC mM mT mHI mFC mLC mCg mTp mNx mFr mTk mVa mEn mKe mCs mAt mHd mWg mNow mImg mAsd mLea mLat mBst mRsk mTap mKys mKat mCod mWts mTes mStk mFct mSor mSiz mCel mHol mHoA mHoB mHoC mMov mTel) := hD
    refine lv_if_eq (tgt := 41) hx hb dX7_lay_13 (by decide) (fun c_25 => ?_) (fun c_25 => ?_)
    · have h := h.1 c_25
      refine lv_ldc hx hb hown k_89 dX7_lay_41 ?_
      exact hret _ _ _ _ (-1000000001) (mHol, mHoA, mHoB, mHoC) rfl h hP hD hS dX7_lay_43
    · have h := h.2 c_25
      refine lv_iload_n hx hb dX7_lay_16 rfl (lv_at hl 2 rfl) ?_
      refine lv_iconst (v := 1) hx hb dX7_lay_17 (by decide) ?_
      refine lv_icmp_ne (tgt := 29) hx hb dX7_lay_18 (by decide) (fun c_26 => ?_) (fun c_26 => ?_)
      · have h := h.1 c_26
        exact J29 mHol mHoA mHoB mHoC h _ _ hP hD hS ls (lv_sub hl [0, 1, 2, 3] rfl)
      · have h := h.2 c_26
        refine lv_aload_n hx hb dX7_lay_21 rfl (lv_at hl 0 rfl) ?_
        refine lv_iload_n hx hb dX7_lay_22 rfl (lv_at hl 3 rfl) ?_
        have hPc := hP
        have hDc := hD
        have hFc := rc_freeI hD hS hA
        refine va_calli (va_runV (As := [.int p3]) (rest := []) ⟨hx, hb, hml, hown, hts⟩ (c_X7_isPlace l E mo mn mi ma ml mt mb mr mp mk mq mc mw mz ms mf mu mv mx mh mA mB mC mM mT H.size mHI mFC mLC mCg mTp mNx mFr mTk mVa mEn mKe mCs mAt mHd mWg mNow mImg mAsd mLea mLat mBst mRsk mTap mKys mKat mCod mWts mTes mStk mFct mSor mSiz mCel mHol mHoA mHoB mHoC mMov mTel p3 _ h) (cwV 1 hts gX7_lay_X7_isPlace rfl rfl rfl (by decide +kernel) ⟨Nat.le_of_ble_eq_true rfl, Nat.le_of_ble_eq_true rfl⟩) ⟨fun a U g mk q => ⟨q.1, q.2.blind⟩, va_recv hK hPc (ci := 7) (q0 := 0) rfl rfl, fun U hU hW => ⟨rfl, by rw [hU], by rw [hU]; exact hPc, hE.call hS hFc hW hU, hDc.weaken (fun _ _ _ _ => trivial)⟩⟩ rfl rfl hl.1 rfl (lv_room (Nat.le_of_ble_eq_true rfl)) dX7_lay_23 ⟨Nat.zero_le _, Nat.zero_le _⟩) hS (fun q _ h => hFc q h) hFc (fun r_27 u t H1 locs ht hvm h hB hz1 hk1 hS => ?_)
        obtain ⟨hP1, hD1⟩ := hB
        rw [ht] at hP1
        have hP := hP1
        have hD := hD1.weaken (fun _ _ _ h => hFc _ h)
        generalize H1 = H at hP hS ⊢
        have hP : va_P E.1 vwCl (rw_24 E mo mn mi ma ml mt mb mr mp mk mq mc mw mz ms mf mu mv mx mh mA mB mC mM mT mHI mFC mLC mCg mTp mNx mFr mTk mVa mEn mKe mCs mAt mHd mWg mNow mImg mAsd mLea mLat mBst mRsk mTap mKys mKat mCod mWts mTes mStk mFct mSor mSiz mCel mHol mHoA mHoB mHoC mMov mTel) H := hP
        have hD : va_D A (rw_24 E mo mn mi ma ml mt mb mr mp mk mq mc mw mz ms mf mu mv mx mh mA mB mC mM mT mHI mFC mLC mCg mTp mNx mFr mTk mVa mEn mKe mCs mAt mHd mWg mNow mImg mAsd mLea mLat mBst mRsk mTap mKys mKat mCod mWts mTes mStk mFct mSor mSiz mCel mHol mHoA mHoB mHoC mMov mTel) := hD
        refine lv_if_eq (tgt := 41) hx hb dX7_lay_26 (by decide) (fun c_28 => ?_) (fun c_28 => ?_)
        · have h := h.1 c_28
          refine lv_ldc hx hb hown k_89 dX7_lay_41 ?_
          exact hret _ _ _ _ (-1000000001) (mHol, mHoA, mHoB, mHoC) rfl h hP hD hS dX7_lay_43
        · have h := h.2 c_28
          exact J29 mHol mHoA mHoB mHoC h _ _ hP hD hS ls (lv_sub hl [0, 1, 2, 3] rfl)
def wp_X7_ask (p1 : Int32) (p2 : Int32) (mHol : Nat → Int32) (mHoA : Nat → Int32) (mHoB : Nat → Int32) (Q : Int32 → Prop) : Prop :=
  wp_X7_isSlot p1 (fun (r_1 : Int32) => ((r_1 = 0 → Q (-1000000001)) ∧ (¬ (r_1 = 0) → wp_X7_in p2 0 5 (fun (r_3 : Int32) => ((¬ r_3 = 0 → (vp_in p1 5 ∧ ((¬ (mHol p1.toNatClampNeg) = 0 → (vp_in p1 5 ∧ ((¬ (mHol p1.toNatClampNeg) = 1 → Q (-1000000012)) ∧ ((mHol p1.toNatClampNeg) = 1 → (vp_in p1 5 ∧ wp_X7_isUnder (mHoA p1.toNatClampNeg) p2 (fun (r_10 : Int32) => ((r_10 = 0 → Q (-1000000012)) ∧ (¬ (r_10 = 0) → (vp_in p1 5 ∧ Q (mHoB p1.toNatClampNeg)))))))))) ∧ ((mHol p1.toNatClampNeg) = 0 → Q (-1000000011))))) ∧ (r_3 = 0 → Q (-1000000001)))))))
set_option maxHeartbeats 4000000 in
set_option maxRecDepth 100000 in
theorem c_X7_ask (l : Launch) (E : gE) (mo mn mi ma ml mt mb mr mp mk mq mc mw mz ms mf mu mv mx mh mA mB mC mM mT : Nat) (sz : Nat) (mHI : Int32) (mFC : Int32) (mLC : Int32) (mCg : Int32) (mTp : Int32) (mNx : Int32) (mFr : Int32) (mTk : Int32) (mVa : Int32) (mEn : Int32) (mKe : Int32) (mCs : Int32) (mAt : Int32) (mHd : Int32) (mWg : Int32) (mNow : Nat → Int32) (mImg : Nat → Int32) (mAsd : Nat → Int32) (mLea : Nat → Int32) (mLat : Nat → Int32) (mBst : Nat → Int32) (mRsk : Nat → Int32) (mTap : Nat → Int32) (mKys : Nat → Int32) (mKat : Nat → Int32) (mCod : Nat → Int32) (mWts : Nat → Int32) (mTes : Nat → Int32) (mStk : Nat → Int32) (mFct : Nat → Int32) (mSor : Nat → Int32) (mSiz : Nat → Int32) (mCel : Nat → Int32) (mHol : Nat → Int32) (mHoA : Nat → Int32) (mHoB : Nat → Int32) (mHoC : Nat → Int32) (mMov : Nat → Int32) (mTel : Nat → Int32) (p1 p2 : Int32)  (Q : Int32 → Prop) (h : wp_X7_ask p1 p2 mHol mHoA mHoB Q) : Met l yX7_ask wsX7_ask ({ frames := 2, cells := 0, slots := 0, locals := 42 } : Room) (va_Pc [.ref mo, .int p1, .int p2] (rc_B E (rw_24 E mo mn mi ma ml mt mb mr mp mk mq mc mw mz ms mf mu mv mx mh mA mB mC mM mT mHI mFC mLC mCg mTp mNx mFr mTk mVa mEn mKe mCs mAt mHd mWg mNow mImg mAsd mLea mLat mBst mRsk mTap mKys mKat mCod mWts mTes mStk mFct mSor mSiz mCel mHol mHoA mHoB mHoC mMov mTel) sz)) (va_Qi (S := Unit) (fun (r : Int32) (u : Unit) => Q r) (fun u t => rc_C E (va_A (rw_24 E mo mn mi ma ml mt mb mr mp mk mq mc mw mz ms mf mu mv mx mh mA mB mC mM mT mHI mFC mLC mCg mTp mNx mFr mTk mVa mEn mKe mCs mAt mHd mWg mNow mImg mAsd mLea mLat mBst mRsk mTap mKys mKat mCod mWts mTes mStk mFct mSor mSiz mCel mHol mHoA mHoB mHoC mMov mTel) sz) (rw_24 E mo mn mi ma ml mt mb mr mp mk mq mc mw mz ms mf mu mv mx mh mA mB mC mM mT mHI mFC mLC mCg mTp mNx mFr mTk mVa mEn mKe mCs mAt mHd mWg mNow mImg mAsd mLea mLat mBst mRsk mTap mKys mKat mCod mWts mTes mStk mFct mSor mSiz mCel mHol mHoA mHoB mHoC mMov mTel) t) (va_A (rw_24 E mo mn mi ma ml mt mb mr mp mk mq mc mw mz ms mf mu mv mx mh mA mB mC mM mT mHI mFC mLC mCg mTp mNx mFr mTk mVa mEn mKe mCs mAt mHd mWg mNow mImg mAsd mLea mLat mBst mRsk mTap mKys mKat mCod mWts mTes mStk mFct mSor mSiz mCel mHol mHoA mHoB mHoC mMov mTel) sz)) 0 0 (va_A (rw_24 E mo mn mi ma ml mt mb mr mp mk mq mc mw mz ms mf mu mv mx mh mA mB mC mM mT mHI mFC mLC mCg mTp mNx mFr mTk mVa mEn mKe mCs mAt mHd mWg mNow mImg mAsd mLea mLat mBst mRsk mTap mKys mKat mCod mWts mTes mStk mFct mSor mSiz mCel mHol mHoA mHoB mHoC mMov mTel) sz) := by
  refine rc_enterI (cc := cX7_ask) (maxL := 3) (by decide) rfl (Nat.le_of_ble_eq_true rfl) ?_
  intro p e s m args below meth c QQ A hx hb hml hown hts hmn hE hP hD hA hret ls hl
  have hown : s.vm.findClass RX7 = some m.cls := hown
  have hK := hE.1
  have hS : va_S A s.heap s.heap [] := va_S.rf
  have hl : lv_has ls 3 [(0, .ref mo), (1, .int p1), (2, .int p2)] := hl
  have n_X7 : ∀ w ∈ wsX70, w ∈ wsX7_ask := fun _ h => List.mem_cons_of_mem _ (List.mem_append_right _ h)
  have k_89 := hts (.constant RX7 89 (-1000000001)) (List.mem_of_getElem? (i := 1) rfl)
  have k_66 := hts (.fieldLink RX7 66 "RidgeClapsModel" "holds" "[I") (List.mem_of_getElem? (i := 2) rfl)
  have k_123 := hts (.constant RX7 123 (-1000000012)) (List.mem_of_getElem? (i := 6) rfl)
  have k_69 := hts (.fieldLink RX7 69 "RidgeClapsModel" "holdsA" "[I") (List.mem_of_getElem? (i := 4) rfl)
  have k_72 := hts (.fieldLink RX7 72 "RidgeClapsModel" "holdsB" "[I") (List.mem_of_getElem? (i := 5) rfl)
  have k_177 := hts (.constant RX7 177 (-1000000011)) (List.mem_of_getElem? (i := 3) rfl)
  unfold wp_X7_ask at h
  obtain ⟨H, hH⟩ : ∃ H, H = s.heap := ⟨_, rfl⟩
  obtain ⟨locs, hlocs⟩ : ∃ locs : List Loc, locs = [] := ⟨_, rfl⟩
  have hP : va_P E.1 vwCl (rw_24 E mo mn mi ma ml mt mb mr mp mk mq mc mw mz ms mf mu mv mx mh mA mB mC mM mT mHI mFC mLC mCg mTp mNx mFr mTk mVa mEn mKe mCs mAt mHd mWg mNow mImg mAsd mLea mLat mBst mRsk mTap mKys mKat mCod mWts mTes mStk mFct mSor mSiz mCel mHol mHoA mHoB mHoC mMov mTel) H := by rw [hH]; exact hP
  have hS : va_S A s.heap H locs := by rw [hH, hlocs]; exact hS
  suffices hgo : W p l e ({ frames := 2, cells := 0, slots := 0, locals := 42 } : Room) s m args below meth c H locs 0 0 QQ (F0 m 0 ls []) from by rw [hH, hlocs] at hgo; exact hgo
  refine lv_iload_n hx hb dX7_ask_0 rfl (lv_at hl 1 rfl) ?_
  have hPc := hP.sub (ws' := []) [] rfl
  have hDc := hD.sub (ws' := []) [] (by decide) rfl
  have hFc := va_free (wc := []) hD hS hA [] rfl
  refine va_calli (va_runS (As := [.int p1]) (rest := []) ⟨hx, hb, hml, hown, hts⟩ (c_X7_isSlot l E H.size p1 _ h) (va_cwS 1 hts gX7_ask_X7_isSlot rfl rfl rfl (by decide +kernel) ⟨Nat.le_of_ble_eq_true rfl, Nat.le_of_ble_eq_true rfl⟩) ⟨fun a U g mk q => ⟨q.1, q.2.blind⟩, fun U hU hW => ⟨rfl, by rw [hU], by rw [hU]; exact hPc, hE.call hS hFc hW hU, hDc.weaken (fun _ _ _ _ => trivial)⟩⟩ rfl rfl hl.1 rfl (lv_room (Nat.le_of_ble_eq_true rfl)) dX7_ask_1 ⟨Nat.zero_le _, Nat.zero_le _⟩) hS (fun q _ h => hFc q h) hFc (fun r_1 u t H1 locs ht hvm h hB hz1 hk1 hS => ?_)
  obtain ⟨hP1, hD1⟩ := hB
  rw [ht] at hP1
  obtain ⟨hP, hD⟩ := rc_foc hP hD [] [none, none, none, none, none, none, none, none, none, none, none, none, none, none, none, none, none, none, none, none, none, none, none, none, none] (by decide) rfl hk1 hP1 rfl
  generalize H1 = H at hP hS ⊢
  have hP : va_P E.1 vwCl (rw_24 E mo mn mi ma ml mt mb mr mp mk mq mc mw mz ms mf mu mv mx mh mA mB mC mM mT mHI mFC mLC mCg mTp mNx mFr mTk mVa mEn mKe mCs mAt mHd mWg mNow mImg mAsd mLea mLat mBst mRsk mTap mKys mKat mCod mWts mTes mStk mFct mSor mSiz mCel mHol mHoA mHoB mHoC mMov mTel) H := hP
  have hD : va_D A (rw_24 E mo mn mi ma ml mt mb mr mp mk mq mc mw mz ms mf mu mv mx mh mA mB mC mM mT mHI mFC mLC mCg mTp mNx mFr mTk mVa mEn mKe mCs mAt mHd mWg mNow mImg mAsd mLea mLat mBst mRsk mTap mKys mKat mCod mWts mTes mStk mFct mSor mSiz mCel mHol mHoA mHoB mHoC mMov mTel) := hD
  refine lv_if_eq (tgt := 16) hx hb dX7_ask_4 (by decide) (fun c_2 => ?_) (fun c_2 => ?_)
  · have h := h.1 c_2
    refine lv_ldc hx hb hown k_89 dX7_ask_16 ?_
    exact hret _ _ _ _ (-1000000001) () rfl h hP hD hS dX7_ask_18
  · have h := h.2 c_2
    refine lv_iload_n hx hb dX7_ask_7 rfl (lv_at hl 2 rfl) ?_
    refine lv_iconst (v := 0) hx hb dX7_ask_8 (by decide) ?_
    refine lv_iconst (v := 5) hx hb dX7_ask_9 (by decide) ?_
    have hPc := hP.sub (ws' := []) [] rfl
    have hDc := hD.sub (ws' := []) [] (by decide) rfl
    have hFc := va_free (wc := []) hD hS hA [] rfl
    refine va_calli (va_runS (As := [.int p2, .int 0, .int 5]) (rest := []) ⟨hx, hb, hml, hown, hts⟩ (c_X7_in l E H.size p2 0 5 _ h) (va_cwS 3 hts gX7_ask_X7_in rfl rfl rfl (by decide +kernel) ⟨Nat.le_of_ble_eq_true rfl, Nat.le_of_ble_eq_true rfl⟩) ⟨fun a U g mk q => ⟨q.1, q.2.blind⟩, fun U hU hW => ⟨rfl, by rw [hU], by rw [hU]; exact hPc, hE.call hS hFc hW hU, hDc.weaken (fun _ _ _ _ => trivial)⟩⟩ rfl rfl hl.1 rfl (lv_room (Nat.le_of_ble_eq_true rfl)) dX7_ask_10 ⟨Nat.zero_le _, Nat.zero_le _⟩) hS (fun q _ h => hFc q h) hFc (fun r_3 u t H1 locs ht hvm h hB hz1 hk1 hS => ?_)
    obtain ⟨hP1, hD1⟩ := hB
    rw [ht] at hP1
    obtain ⟨hP, hD⟩ := rc_foc hP hD [] [none, none, none, none, none, none, none, none, none, none, none, none, none, none, none, none, none, none, none, none, none, none, none, none, none] (by decide) rfl hk1 hP1 rfl
    generalize H1 = H at hP hS ⊢
    have hP : va_P E.1 vwCl (rw_24 E mo mn mi ma ml mt mb mr mp mk mq mc mw mz ms mf mu mv mx mh mA mB mC mM mT mHI mFC mLC mCg mTp mNx mFr mTk mVa mEn mKe mCs mAt mHd mWg mNow mImg mAsd mLea mLat mBst mRsk mTap mKys mKat mCod mWts mTes mStk mFct mSor mSiz mCel mHol mHoA mHoB mHoC mMov mTel) H := hP
    have hD : va_D A (rw_24 E mo mn mi ma ml mt mb mr mp mk mq mc mw mz ms mf mu mv mx mh mA mB mC mM mT mHI mFC mLC mCg mTp mNx mFr mTk mVa mEn mKe mCs mAt mHd mWg mNow mImg mAsd mLea mLat mBst mRsk mTap mKys mKat mCod mWts mTes mStk mFct mSor mSiz mCel mHol mHoA mHoB mHoC mMov mTel) := hD
    refine lv_if_ne (tgt := 19) hx hb dX7_ask_13 (by decide) (fun c_4 => ?_) (fun c_4 => ?_)
    · have h := h.1 c_4
      refine lv_aload_n hx hb dX7_ask_19 rfl (lv_at hl 0 rfl) ?_
      refine va_get (D := E.1) (ci := 7) (v := .ref mh) (C := RX7) (T := TX7) (N := 39) hx hb hts n_X7 hown hK hP 0 rfl rfl 32 (by decide) k_66 (fun _ h9 => h9) rfl dX7_ask_20 ?_
      refine lv_iload_n hx hb dX7_ask_23 rfl (lv_at hl 1 rfl) ?_
      obtain ⟨o_5, h⟩ := h
      refine rc_iald hx hb hK hP 19 0 rfl rfl p1.toNatClampNeg rfl o_5 dX7_ask_24 ?_
      refine lv_if_ne (tgt := 31) hx hb dX7_ask_25 (by decide) (fun c_6 => ?_) (fun c_6 => ?_)
      · have h := h.1 c_6
        refine lv_aload_n hx hb dX7_ask_31 rfl (lv_at hl 0 rfl) ?_
        refine va_get (D := E.1) (ci := 7) (v := .ref mh) (C := RX7) (T := TX7) (N := 39) hx hb hts n_X7 hown hK hP 0 rfl rfl 32 (by decide) k_66 (fun _ h9 => h9) rfl dX7_ask_32 ?_
        refine lv_iload_n hx hb dX7_ask_35 rfl (lv_at hl 1 rfl) ?_
        obtain ⟨o_7, h⟩ := h
        refine rc_iald hx hb hK hP 19 0 rfl rfl p1.toNatClampNeg rfl o_7 dX7_ask_36 ?_
        refine lv_iconst (v := 1) hx hb dX7_ask_37 (by decide) ?_
        refine lv_icmp_ne (tgt := 63) hx hb dX7_ask_38 (by decide) (fun c_8 => ?_) (fun c_8 => ?_)
        · have h := h.1 c_8
          refine lv_ldc hx hb hown k_123 dX7_ask_63 ?_
          exact hret _ _ _ _ (-1000000012) () rfl h hP hD hS dX7_ask_65
        · have h := h.2 c_8
          refine lv_aload_n hx hb dX7_ask_41 rfl (lv_at hl 0 rfl) ?_
          refine va_get (D := E.1) (ci := 7) (v := .ref mA) (C := RX7) (T := TX7) (N := 39) hx hb hts n_X7 hown hK hP 0 rfl rfl 33 (by decide) k_69 (fun _ h9 => h9) rfl dX7_ask_42 ?_
          refine lv_iload_n hx hb dX7_ask_45 rfl (lv_at hl 1 rfl) ?_
          obtain ⟨o_9, h⟩ := h
          refine rc_iald hx hb hK hP 20 0 rfl rfl p1.toNatClampNeg rfl o_9 dX7_ask_46 ?_
          refine lv_iload_n hx hb dX7_ask_47 rfl (lv_at hl 2 rfl) ?_
          have hPc := hP.sub (ws' := []) [] rfl
          have hDc := hD.sub (ws' := []) [] (by decide) rfl
          have hFc := va_free (wc := []) hD hS hA [] rfl
          refine va_calli (va_runS (As := [.int (mHoA p1.toNatClampNeg), .int p2]) (rest := []) ⟨hx, hb, hml, hown, hts⟩ (c_X7_isUnder l E H.size (mHoA p1.toNatClampNeg) p2 _ h) (va_cwS 2 hts gX7_ask_X7_isUnder rfl rfl rfl (by decide +kernel) ⟨Nat.le_of_ble_eq_true rfl, Nat.le_of_ble_eq_true rfl⟩) ⟨fun a U g mk q => ⟨q.1, q.2.blind⟩, fun U hU hW => ⟨rfl, by rw [hU], by rw [hU]; exact hPc, hE.call hS hFc hW hU, hDc.weaken (fun _ _ _ _ => trivial)⟩⟩ rfl rfl hl.1 rfl (lv_room (Nat.le_of_ble_eq_true rfl)) dX7_ask_48 ⟨Nat.zero_le _, Nat.zero_le _⟩) hS (fun q _ h => hFc q h) hFc (fun r_10 u t H1 locs ht hvm h hB hz1 hk1 hS => ?_)
          obtain ⟨hP1, hD1⟩ := hB
          rw [ht] at hP1
          obtain ⟨hP, hD⟩ := rc_foc hP hD [] [none, none, none, none, none, none, none, none, none, none, none, none, none, none, none, none, none, none, none, none, none, none, none, none, none] (by decide) rfl hk1 hP1 rfl
          generalize H1 = H at hP hS ⊢
          have hP : va_P E.1 vwCl (rw_24 E mo mn mi ma ml mt mb mr mp mk mq mc mw mz ms mf mu mv mx mh mA mB mC mM mT mHI mFC mLC mCg mTp mNx mFr mTk mVa mEn mKe mCs mAt mHd mWg mNow mImg mAsd mLea mLat mBst mRsk mTap mKys mKat mCod mWts mTes mStk mFct mSor mSiz mCel mHol mHoA mHoB mHoC mMov mTel) H := hP
          have hD : va_D A (rw_24 E mo mn mi ma ml mt mb mr mp mk mq mc mw mz ms mf mu mv mx mh mA mB mC mM mT mHI mFC mLC mCg mTp mNx mFr mTk mVa mEn mKe mCs mAt mHd mWg mNow mImg mAsd mLea mLat mBst mRsk mTap mKys mKat mCod mWts mTes mStk mFct mSor mSiz mCel mHol mHoA mHoB mHoC mMov mTel) := hD
          refine lv_if_eq (tgt := 63) hx hb dX7_ask_51 (by decide) (fun c_11 => ?_) (fun c_11 => ?_)
          · have h := h.1 c_11
            refine lv_ldc hx hb hown k_123 dX7_ask_63 ?_
            exact hret _ _ _ _ (-1000000012) () rfl h hP hD hS dX7_ask_65
          · have h := h.2 c_11
            refine lv_aload_n hx hb dX7_ask_54 rfl (lv_at hl 0 rfl) ?_
            refine va_get (D := E.1) (ci := 7) (v := .ref mB) (C := RX7) (T := TX7) (N := 39) hx hb hts n_X7 hown hK hP 0 rfl rfl 34 (by decide) k_72 (fun _ h9 => h9) rfl dX7_ask_55 ?_
            refine lv_iload_n hx hb dX7_ask_58 rfl (lv_at hl 1 rfl) ?_
            obtain ⟨o_12, h⟩ := h
            refine rc_iald hx hb hK hP 21 0 rfl rfl p1.toNatClampNeg rfl o_12 dX7_ask_59 ?_
            refine lv_goto (tgt := 65) hx hb dX7_ask_60 (by decide) ?_
            exact hret _ _ _ _ (mHoB p1.toNatClampNeg) () rfl h hP hD hS dX7_ask_65
      · have h := h.2 c_6
        refine lv_ldc hx hb hown k_177 dX7_ask_28 ?_
        exact hret _ _ _ _ (-1000000011) () rfl h hP hD hS dX7_ask_30
    · have h := h.2 c_4
      refine lv_ldc hx hb hown k_89 dX7_ask_16 ?_
      exact hret _ _ _ _ (-1000000001) () rfl h hP hD hS dX7_ask_18
def wp_X7_item (p1 : Int32) (p2 : Int32) (mHol : Nat → Int32) (mHoA : Nat → Int32) (mHoC : Nat → Int32) (Q : Int32 → Prop) : Prop :=
  wp_X7_isSlot p1 (fun (r_1 : Int32) => ((¬ r_1 = 0 → (vp_in p1 5 ∧ ((¬ (mHol p1.toNatClampNeg) = 0 → (vp_in p1 5 ∧ (((mHol p1.toNatClampNeg) = 2 → (vp_in p1 5 ∧ wp_X7_in p2 0 ((mHoA p1.toNatClampNeg) - 1) (fun (r_8 : Int32) => ((¬ r_8 = 0 → (vp_in ((24 * p1) + p2) 120 ∧ ((¬ (mHoC (((24 * p1) + p2).toNatClampNeg)) = (-1000000005) → Q (mHoC (((24 * p1) + p2).toNatClampNeg))) ∧ ((mHoC (((24 * p1) + p2).toNatClampNeg)) = (-1000000005) → Q (-1000000012))))) ∧ (r_8 = 0 → Q (-1000000013)))))) ∧ (¬ ((mHol p1.toNatClampNeg) = 2) → Q (-1000000012))))) ∧ ((mHol p1.toNatClampNeg) = 0 → Q (-1000000011))))) ∧ (r_1 = 0 → Q (-1000000001))))
set_option maxHeartbeats 4000000 in
set_option maxRecDepth 100000 in
theorem c_X7_item (l : Launch) (E : gE) (mo mn mi ma ml mt mb mr mp mk mq mc mw mz ms mf mu mv mx mh mA mB mC mM mT : Nat) (sz : Nat) (mHI : Int32) (mFC : Int32) (mLC : Int32) (mCg : Int32) (mTp : Int32) (mNx : Int32) (mFr : Int32) (mTk : Int32) (mVa : Int32) (mEn : Int32) (mKe : Int32) (mCs : Int32) (mAt : Int32) (mHd : Int32) (mWg : Int32) (mNow : Nat → Int32) (mImg : Nat → Int32) (mAsd : Nat → Int32) (mLea : Nat → Int32) (mLat : Nat → Int32) (mBst : Nat → Int32) (mRsk : Nat → Int32) (mTap : Nat → Int32) (mKys : Nat → Int32) (mKat : Nat → Int32) (mCod : Nat → Int32) (mWts : Nat → Int32) (mTes : Nat → Int32) (mStk : Nat → Int32) (mFct : Nat → Int32) (mSor : Nat → Int32) (mSiz : Nat → Int32) (mCel : Nat → Int32) (mHol : Nat → Int32) (mHoA : Nat → Int32) (mHoB : Nat → Int32) (mHoC : Nat → Int32) (mMov : Nat → Int32) (mTel : Nat → Int32) (p1 p2 : Int32)  (Q : Int32 → Prop) (h : wp_X7_item p1 p2 mHol mHoA mHoC Q) : Met l yX7_item wsX7_item ({ frames := 2, cells := 0, slots := 0, locals := 42 } : Room) (va_Pc [.ref mo, .int p1, .int p2] (rc_B E (rw_24 E mo mn mi ma ml mt mb mr mp mk mq mc mw mz ms mf mu mv mx mh mA mB mC mM mT mHI mFC mLC mCg mTp mNx mFr mTk mVa mEn mKe mCs mAt mHd mWg mNow mImg mAsd mLea mLat mBst mRsk mTap mKys mKat mCod mWts mTes mStk mFct mSor mSiz mCel mHol mHoA mHoB mHoC mMov mTel) sz)) (va_Qi (S := Unit) (fun (r : Int32) (u : Unit) => Q r) (fun u t => rc_C E (va_A (rw_24 E mo mn mi ma ml mt mb mr mp mk mq mc mw mz ms mf mu mv mx mh mA mB mC mM mT mHI mFC mLC mCg mTp mNx mFr mTk mVa mEn mKe mCs mAt mHd mWg mNow mImg mAsd mLea mLat mBst mRsk mTap mKys mKat mCod mWts mTes mStk mFct mSor mSiz mCel mHol mHoA mHoB mHoC mMov mTel) sz) (rw_24 E mo mn mi ma ml mt mb mr mp mk mq mc mw mz ms mf mu mv mx mh mA mB mC mM mT mHI mFC mLC mCg mTp mNx mFr mTk mVa mEn mKe mCs mAt mHd mWg mNow mImg mAsd mLea mLat mBst mRsk mTap mKys mKat mCod mWts mTes mStk mFct mSor mSiz mCel mHol mHoA mHoB mHoC mMov mTel) t) (va_A (rw_24 E mo mn mi ma ml mt mb mr mp mk mq mc mw mz ms mf mu mv mx mh mA mB mC mM mT mHI mFC mLC mCg mTp mNx mFr mTk mVa mEn mKe mCs mAt mHd mWg mNow mImg mAsd mLea mLat mBst mRsk mTap mKys mKat mCod mWts mTes mStk mFct mSor mSiz mCel mHol mHoA mHoB mHoC mMov mTel) sz)) 0 0 (va_A (rw_24 E mo mn mi ma ml mt mb mr mp mk mq mc mw mz ms mf mu mv mx mh mA mB mC mM mT mHI mFC mLC mCg mTp mNx mFr mTk mVa mEn mKe mCs mAt mHd mWg mNow mImg mAsd mLea mLat mBst mRsk mTap mKys mKat mCod mWts mTes mStk mFct mSor mSiz mCel mHol mHoA mHoB mHoC mMov mTel) sz) := by
  refine rc_enterI (cc := cX7_item) (maxL := 4) (by decide) rfl (Nat.le_of_ble_eq_true rfl) ?_
  intro p e s m args below meth c QQ A hx hb hml hown hts hmn hE hP hD hA hret ls hl
  have hown : s.vm.findClass RX7 = some m.cls := hown
  have hK := hE.1
  have hS : va_S A s.heap s.heap [] := va_S.rf
  have hl : lv_has ls 4 [(0, .ref mo), (1, .int p1), (2, .int p2)] := hl
  have n_X7 : ∀ w ∈ wsX70, w ∈ wsX7_item := fun _ h => List.mem_cons_of_mem _ (List.mem_append_right _ h)
  have k_66 := hts (.fieldLink RX7 66 "RidgeClapsModel" "holds" "[I") (List.mem_of_getElem? (i := 2) rfl)
  have k_69 := hts (.fieldLink RX7 69 "RidgeClapsModel" "holdsA" "[I") (List.mem_of_getElem? (i := 5) rfl)
  have k_75 := hts (.fieldLink RX7 75 "RidgeClapsModel" "heldCells" "[I") (List.mem_of_getElem? (i := 7) rfl)
  have k_84 := hts (.constant RX7 84 (-1000000005)) (List.mem_of_getElem? (i := 8) rfl)
  have k_123 := hts (.constant RX7 123 (-1000000012)) (List.mem_of_getElem? (i := 4) rfl)
  have k_252 := hts (.constant RX7 252 (-1000000013)) (List.mem_of_getElem? (i := 6) rfl)
  have k_177 := hts (.constant RX7 177 (-1000000011)) (List.mem_of_getElem? (i := 3) rfl)
  have k_89 := hts (.constant RX7 89 (-1000000001)) (List.mem_of_getElem? (i := 1) rfl)
  unfold wp_X7_item at h
  obtain ⟨H, hH⟩ : ∃ H, H = s.heap := ⟨_, rfl⟩
  obtain ⟨locs, hlocs⟩ : ∃ locs : List Loc, locs = [] := ⟨_, rfl⟩
  have hP : va_P E.1 vwCl (rw_24 E mo mn mi ma ml mt mb mr mp mk mq mc mw mz ms mf mu mv mx mh mA mB mC mM mT mHI mFC mLC mCg mTp mNx mFr mTk mVa mEn mKe mCs mAt mHd mWg mNow mImg mAsd mLea mLat mBst mRsk mTap mKys mKat mCod mWts mTes mStk mFct mSor mSiz mCel mHol mHoA mHoB mHoC mMov mTel) H := by rw [hH]; exact hP
  have hS : va_S A s.heap H locs := by rw [hH, hlocs]; exact hS
  suffices hgo : W p l e ({ frames := 2, cells := 0, slots := 0, locals := 42 } : Room) s m args below meth c H locs 0 0 QQ (F0 m 0 ls []) from by rw [hH, hlocs] at hgo; exact hgo
  refine lv_iload_n hx hb dX7_item_0 rfl (lv_at hl 1 rfl) ?_
  have hPc := hP.sub (ws' := []) [] rfl
  have hDc := hD.sub (ws' := []) [] (by decide) rfl
  have hFc := va_free (wc := []) hD hS hA [] rfl
  refine va_calli (va_runS (As := [.int p1]) (rest := []) ⟨hx, hb, hml, hown, hts⟩ (c_X7_isSlot l E H.size p1 _ h) (va_cwS 1 hts gX7_item_X7_isSlot rfl rfl rfl (by decide +kernel) ⟨Nat.le_of_ble_eq_true rfl, Nat.le_of_ble_eq_true rfl⟩) ⟨fun a U g mk q => ⟨q.1, q.2.blind⟩, fun U hU hW => ⟨rfl, by rw [hU], by rw [hU]; exact hPc, hE.call hS hFc hW hU, hDc.weaken (fun _ _ _ _ => trivial)⟩⟩ rfl rfl hl.1 rfl (lv_room (Nat.le_of_ble_eq_true rfl)) dX7_item_1 ⟨Nat.zero_le _, Nat.zero_le _⟩) hS (fun q _ h => hFc q h) hFc (fun r_1 u t H1 locs ht hvm h hB hz1 hk1 hS => ?_)
  obtain ⟨hP1, hD1⟩ := hB
  rw [ht] at hP1
  obtain ⟨hP, hD⟩ := rc_foc hP hD [] [none, none, none, none, none, none, none, none, none, none, none, none, none, none, none, none, none, none, none, none, none, none, none, none, none] (by decide) rfl hk1 hP1 rfl
  generalize H1 = H at hP hS ⊢
  have hP : va_P E.1 vwCl (rw_24 E mo mn mi ma ml mt mb mr mp mk mq mc mw mz ms mf mu mv mx mh mA mB mC mM mT mHI mFC mLC mCg mTp mNx mFr mTk mVa mEn mKe mCs mAt mHd mWg mNow mImg mAsd mLea mLat mBst mRsk mTap mKys mKat mCod mWts mTes mStk mFct mSor mSiz mCel mHol mHoA mHoB mHoC mMov mTel) H := hP
  have hD : va_D A (rw_24 E mo mn mi ma ml mt mb mr mp mk mq mc mw mz ms mf mu mv mx mh mA mB mC mM mT mHI mFC mLC mCg mTp mNx mFr mTk mVa mEn mKe mCs mAt mHd mWg mNow mImg mAsd mLea mLat mBst mRsk mTap mKys mKat mCod mWts mTes mStk mFct mSor mSiz mCel mHol mHoA mHoB mHoC mMov mTel) := hD
  refine lv_if_ne (tgt := 10) hx hb dX7_item_4 (by decide) (fun c_2 => ?_) (fun c_2 => ?_)
  · have h := h.1 c_2
    refine lv_aload_n hx hb dX7_item_10 rfl (lv_at hl 0 rfl) ?_
    refine va_get (D := E.1) (ci := 7) (v := .ref mh) (C := RX7) (T := TX7) (N := 39) hx hb hts n_X7 hown hK hP 0 rfl rfl 32 (by decide) k_66 (fun _ h9 => h9) rfl dX7_item_11 ?_
    refine lv_iload_n hx hb dX7_item_14 rfl (lv_at hl 1 rfl) ?_
    obtain ⟨o_3, h⟩ := h
    refine rc_iald hx hb hK hP 19 0 rfl rfl p1.toNatClampNeg rfl o_3 dX7_item_15 ?_
    refine lv_if_ne (tgt := 22) hx hb dX7_item_16 (by decide) (fun c_4 => ?_) (fun c_4 => ?_)
    · have h := h.1 c_4
      refine lv_aload_n hx hb dX7_item_22 rfl (lv_at hl 0 rfl) ?_
      refine va_get (D := E.1) (ci := 7) (v := .ref mh) (C := RX7) (T := TX7) (N := 39) hx hb hts n_X7 hown hK hP 0 rfl rfl 32 (by decide) k_66 (fun _ h9 => h9) rfl dX7_item_23 ?_
      refine lv_iload_n hx hb dX7_item_26 rfl (lv_at hl 1 rfl) ?_
      obtain ⟨o_5, h⟩ := h
      refine rc_iald hx hb hK hP 19 0 rfl rfl p1.toNatClampNeg rfl o_5 dX7_item_27 ?_
      refine lv_iconst (v := 2) hx hb dX7_item_28 (by decide) ?_
      refine lv_icmp_eq (tgt := 35) hx hb dX7_item_29 (by decide) (fun c_6 => ?_) (fun c_6 => ?_)
      · have h := h.1 c_6
        refine lv_iload_n hx hb dX7_item_35 rfl (lv_at hl 2 rfl) ?_
        refine lv_iconst (v := 0) hx hb dX7_item_36 (by decide) ?_
        refine lv_aload_n hx hb dX7_item_37 rfl (lv_at hl 0 rfl) ?_
        refine va_get (D := E.1) (ci := 7) (v := .ref mA) (C := RX7) (T := TX7) (N := 39) hx hb hts n_X7 hown hK hP 0 rfl rfl 33 (by decide) k_69 (fun _ h9 => h9) rfl dX7_item_38 ?_
        refine lv_iload_n hx hb dX7_item_41 rfl (lv_at hl 1 rfl) ?_
        obtain ⟨o_7, h⟩ := h
        refine rc_iald hx hb hK hP 20 0 rfl rfl p1.toNatClampNeg rfl o_7 dX7_item_42 ?_
        refine lv_iconst (v := 1) hx hb dX7_item_43 (by decide) ?_
        refine lv_isub hx hb dX7_item_44 ?_
        have hPc := hP.sub (ws' := []) [] rfl
        have hDc := hD.sub (ws' := []) [] (by decide) rfl
        have hFc := va_free (wc := []) hD hS hA [] rfl
        refine va_calli (va_runS (As := [.int p2, .int 0, .int ((mHoA p1.toNatClampNeg) - 1)]) (rest := []) ⟨hx, hb, hml, hown, hts⟩ (c_X7_in l E H.size p2 0 ((mHoA p1.toNatClampNeg) - 1) _ h) (va_cwS 3 hts gX7_item_X7_in rfl rfl rfl (by decide +kernel) ⟨Nat.le_of_ble_eq_true rfl, Nat.le_of_ble_eq_true rfl⟩) ⟨fun a U g mk q => ⟨q.1, q.2.blind⟩, fun U hU hW => ⟨rfl, by rw [hU], by rw [hU]; exact hPc, hE.call hS hFc hW hU, hDc.weaken (fun _ _ _ _ => trivial)⟩⟩ rfl rfl hl.1 rfl (lv_room (Nat.le_of_ble_eq_true rfl)) dX7_item_45 ⟨Nat.zero_le _, Nat.zero_le _⟩) hS (fun q _ h => hFc q h) hFc (fun r_8 u t H1 locs ht hvm h hB hz1 hk1 hS => ?_)
        obtain ⟨hP1, hD1⟩ := hB
        rw [ht] at hP1
        obtain ⟨hP, hD⟩ := rc_foc hP hD [] [none, none, none, none, none, none, none, none, none, none, none, none, none, none, none, none, none, none, none, none, none, none, none, none, none] (by decide) rfl hk1 hP1 rfl
        generalize H1 = H at hP hS ⊢
        have hP : va_P E.1 vwCl (rw_24 E mo mn mi ma ml mt mb mr mp mk mq mc mw mz ms mf mu mv mx mh mA mB mC mM mT mHI mFC mLC mCg mTp mNx mFr mTk mVa mEn mKe mCs mAt mHd mWg mNow mImg mAsd mLea mLat mBst mRsk mTap mKys mKat mCod mWts mTes mStk mFct mSor mSiz mCel mHol mHoA mHoB mHoC mMov mTel) H := hP
        have hD : va_D A (rw_24 E mo mn mi ma ml mt mb mr mp mk mq mc mw mz ms mf mu mv mx mh mA mB mC mM mT mHI mFC mLC mCg mTp mNx mFr mTk mVa mEn mKe mCs mAt mHd mWg mNow mImg mAsd mLea mLat mBst mRsk mTap mKys mKat mCod mWts mTes mStk mFct mSor mSiz mCel mHol mHoA mHoB mHoC mMov mTel) := hD
        refine lv_if_ne (tgt := 54) hx hb dX7_item_48 (by decide) (fun c_9 => ?_) (fun c_9 => ?_)
        · have h := h.1 c_9
          refine lv_aload_n hx hb dX7_item_54 rfl (lv_at hl 0 rfl) ?_
          refine va_get (D := E.1) (ci := 7) (v := .ref mC) (C := RX7) (T := TX7) (N := 39) hx hb hts n_X7 hown hK hP 0 rfl rfl 35 (by decide) k_75 (fun _ h9 => h9) rfl dX7_item_55 ?_
          refine lv_bipush (v := 24) hx hb dX7_item_58 (by decide) ?_
          refine lv_iload_n hx hb dX7_item_60 rfl (lv_at hl 1 rfl) ?_
          refine lv_imul hx hb dX7_item_61 ?_
          refine lv_iload_n hx hb dX7_item_62 rfl (lv_at hl 2 rfl) ?_
          refine lv_iadd hx hb dX7_item_63 ?_
          obtain ⟨o_10, h⟩ := h
          refine rc_iald hx hb hK hP 22 0 rfl rfl (((24 * p1) + p2).toNatClampNeg) rfl o_10 dX7_item_64 ?_
          refine lv_istore_n (lv' := [(3, .int (mHoC (((24 * p1) + p2).toNatClampNeg))), (0, .ref mo), (1, .int p1), (2, .int p2)]) hx hb dX7_item_65 rfl hl (by decide) rfl (fun ls hl => ?_)
          refine lv_iload_n hx hb dX7_item_66 rfl (lv_at hl 0 rfl) ?_
          refine lv_ldc hx hb hown k_84 dX7_item_67 ?_
          refine lv_icmp_ne (tgt := 77) hx hb dX7_item_69 (by decide) (fun c_11 => ?_) (fun c_11 => ?_)
          · have h := h.1 c_11
            refine lv_iload_n hx hb dX7_item_77 rfl (lv_at hl 0 rfl) ?_
            exact hret _ _ _ _ (mHoC (((24 * p1) + p2).toNatClampNeg)) () rfl h hP hD hS dX7_item_78
          · have h := h.2 c_11
            refine lv_ldc hx hb hown k_123 dX7_item_72 ?_
            refine lv_goto (tgt := 78) hx hb dX7_item_74 (by decide) ?_
            exact hret _ _ _ _ (-1000000012) () rfl h hP hD hS dX7_item_78
        · have h := h.2 c_9
          refine lv_ldc hx hb hown k_252 dX7_item_51 ?_
          exact hret _ _ _ _ (-1000000013) () rfl h hP hD hS dX7_item_53
      · have h := h.2 c_6
        refine lv_ldc hx hb hown k_123 dX7_item_32 ?_
        exact hret _ _ _ _ (-1000000012) () rfl h hP hD hS dX7_item_34
    · have h := h.2 c_4
      refine lv_ldc hx hb hown k_177 dX7_item_19 ?_
      exact hret _ _ _ _ (-1000000011) () rfl h hP hD hS dX7_item_21
  · have h := h.2 c_2
    refine lv_ldc hx hb hown k_89 dX7_item_7 ?_
    exact hret _ _ _ _ (-1000000001) () rfl h hP hD hS dX7_item_9
def wp_X7_rest (p1 : Int32) (p2 : Int32) (mHol : Nat → Int32) (mHoA : Nat → Int32) (Q : Int32 → Prop) : Prop :=
  wp_X7_isSlot p1 (fun (r_1 : Int32) => ((¬ r_1 = 0 → (vp_in p1 5 ∧ ((¬ (mHol p1.toNatClampNeg) = 0 → (vp_in p1 5 ∧ (((mHol p1.toNatClampNeg) = 3 → ((¬ p2 = 0 → ((¬ p2 = (-1) → (vp_in p1 5 ∧ (¬ p2 = 0 ∧ Q (rc_rem (mHoA p1.toNatClampNeg) p2)))) ∧ (p2 = (-1) → Q 0))) ∧ (p2 = 0 → Q (-1000000002)))) ∧ (¬ ((mHol p1.toNatClampNeg) = 3) → Q (-1000000012))))) ∧ ((mHol p1.toNatClampNeg) = 0 → Q (-1000000011))))) ∧ (r_1 = 0 → Q (-1000000001))))
set_option maxHeartbeats 4000000 in
set_option maxRecDepth 100000 in
theorem c_X7_rest (l : Launch) (E : gE) (mo mn mi ma ml mt mb mr mp mk mq mc mw mz ms mf mu mv mx mh mA mB mC mM mT : Nat) (sz : Nat) (mHI : Int32) (mFC : Int32) (mLC : Int32) (mCg : Int32) (mTp : Int32) (mNx : Int32) (mFr : Int32) (mTk : Int32) (mVa : Int32) (mEn : Int32) (mKe : Int32) (mCs : Int32) (mAt : Int32) (mHd : Int32) (mWg : Int32) (mNow : Nat → Int32) (mImg : Nat → Int32) (mAsd : Nat → Int32) (mLea : Nat → Int32) (mLat : Nat → Int32) (mBst : Nat → Int32) (mRsk : Nat → Int32) (mTap : Nat → Int32) (mKys : Nat → Int32) (mKat : Nat → Int32) (mCod : Nat → Int32) (mWts : Nat → Int32) (mTes : Nat → Int32) (mStk : Nat → Int32) (mFct : Nat → Int32) (mSor : Nat → Int32) (mSiz : Nat → Int32) (mCel : Nat → Int32) (mHol : Nat → Int32) (mHoA : Nat → Int32) (mHoB : Nat → Int32) (mHoC : Nat → Int32) (mMov : Nat → Int32) (mTel : Nat → Int32) (p1 p2 : Int32)  (Q : Int32 → Prop) (h : wp_X7_rest p1 p2 mHol mHoA Q) : Met l yX7_rest wsX7_rest ({ frames := 2, cells := 0, slots := 0, locals := 42 } : Room) (va_Pc [.ref mo, .int p1, .int p2] (rc_B E (rw_24 E mo mn mi ma ml mt mb mr mp mk mq mc mw mz ms mf mu mv mx mh mA mB mC mM mT mHI mFC mLC mCg mTp mNx mFr mTk mVa mEn mKe mCs mAt mHd mWg mNow mImg mAsd mLea mLat mBst mRsk mTap mKys mKat mCod mWts mTes mStk mFct mSor mSiz mCel mHol mHoA mHoB mHoC mMov mTel) sz)) (va_Qi (S := Unit) (fun (r : Int32) (u : Unit) => Q r) (fun u t => rc_C E (va_A (rw_24 E mo mn mi ma ml mt mb mr mp mk mq mc mw mz ms mf mu mv mx mh mA mB mC mM mT mHI mFC mLC mCg mTp mNx mFr mTk mVa mEn mKe mCs mAt mHd mWg mNow mImg mAsd mLea mLat mBst mRsk mTap mKys mKat mCod mWts mTes mStk mFct mSor mSiz mCel mHol mHoA mHoB mHoC mMov mTel) sz) (rw_24 E mo mn mi ma ml mt mb mr mp mk mq mc mw mz ms mf mu mv mx mh mA mB mC mM mT mHI mFC mLC mCg mTp mNx mFr mTk mVa mEn mKe mCs mAt mHd mWg mNow mImg mAsd mLea mLat mBst mRsk mTap mKys mKat mCod mWts mTes mStk mFct mSor mSiz mCel mHol mHoA mHoB mHoC mMov mTel) t) (va_A (rw_24 E mo mn mi ma ml mt mb mr mp mk mq mc mw mz ms mf mu mv mx mh mA mB mC mM mT mHI mFC mLC mCg mTp mNx mFr mTk mVa mEn mKe mCs mAt mHd mWg mNow mImg mAsd mLea mLat mBst mRsk mTap mKys mKat mCod mWts mTes mStk mFct mSor mSiz mCel mHol mHoA mHoB mHoC mMov mTel) sz)) 0 0 (va_A (rw_24 E mo mn mi ma ml mt mb mr mp mk mq mc mw mz ms mf mu mv mx mh mA mB mC mM mT mHI mFC mLC mCg mTp mNx mFr mTk mVa mEn mKe mCs mAt mHd mWg mNow mImg mAsd mLea mLat mBst mRsk mTap mKys mKat mCod mWts mTes mStk mFct mSor mSiz mCel mHol mHoA mHoB mHoC mMov mTel) sz) := by
  refine rc_enterI (cc := cX7_rest) (maxL := 3) (by decide) rfl (Nat.le_of_ble_eq_true rfl) ?_
  intro p e s m args below meth c QQ A hx hb hml hown hts hmn hE hP hD hA hret ls hl
  have hown : s.vm.findClass RX7 = some m.cls := hown
  have hK := hE.1
  have hS : va_S A s.heap s.heap [] := va_S.rf
  have hl : lv_has ls 3 [(0, .ref mo), (1, .int p1), (2, .int p2)] := hl
  have n_X7 : ∀ w ∈ wsX70, w ∈ wsX7_rest := fun _ h => List.mem_cons_of_mem _ (List.mem_append_right _ h)
  have k_66 := hts (.fieldLink RX7 66 "RidgeClapsModel" "holds" "[I") (List.mem_of_getElem? (i := 2) rfl)
  have k_69 := hts (.fieldLink RX7 69 "RidgeClapsModel" "holdsA" "[I") (List.mem_of_getElem? (i := 6) rfl)
  have k_147 := hts (.constant RX7 147 (-1000000002)) (List.mem_of_getElem? (i := 5) rfl)
  have k_123 := hts (.constant RX7 123 (-1000000012)) (List.mem_of_getElem? (i := 4) rfl)
  have k_177 := hts (.constant RX7 177 (-1000000011)) (List.mem_of_getElem? (i := 3) rfl)
  have k_89 := hts (.constant RX7 89 (-1000000001)) (List.mem_of_getElem? (i := 1) rfl)
  unfold wp_X7_rest at h
  obtain ⟨H, hH⟩ : ∃ H, H = s.heap := ⟨_, rfl⟩
  obtain ⟨locs, hlocs⟩ : ∃ locs : List Loc, locs = [] := ⟨_, rfl⟩
  have hP : va_P E.1 vwCl (rw_24 E mo mn mi ma ml mt mb mr mp mk mq mc mw mz ms mf mu mv mx mh mA mB mC mM mT mHI mFC mLC mCg mTp mNx mFr mTk mVa mEn mKe mCs mAt mHd mWg mNow mImg mAsd mLea mLat mBst mRsk mTap mKys mKat mCod mWts mTes mStk mFct mSor mSiz mCel mHol mHoA mHoB mHoC mMov mTel) H := by rw [hH]; exact hP
  have hS : va_S A s.heap H locs := by rw [hH, hlocs]; exact hS
  suffices hgo : W p l e ({ frames := 2, cells := 0, slots := 0, locals := 42 } : Room) s m args below meth c H locs 0 0 QQ (F0 m 0 ls []) from by rw [hH, hlocs] at hgo; exact hgo
  refine lv_iload_n hx hb dX7_rest_0 rfl (lv_at hl 1 rfl) ?_
  have hPc := hP.sub (ws' := []) [] rfl
  have hDc := hD.sub (ws' := []) [] (by decide) rfl
  have hFc := va_free (wc := []) hD hS hA [] rfl
  refine va_calli (va_runS (As := [.int p1]) (rest := []) ⟨hx, hb, hml, hown, hts⟩ (c_X7_isSlot l E H.size p1 _ h) (va_cwS 1 hts gX7_rest_X7_isSlot rfl rfl rfl (by decide +kernel) ⟨Nat.le_of_ble_eq_true rfl, Nat.le_of_ble_eq_true rfl⟩) ⟨fun a U g mk q => ⟨q.1, q.2.blind⟩, fun U hU hW => ⟨rfl, by rw [hU], by rw [hU]; exact hPc, hE.call hS hFc hW hU, hDc.weaken (fun _ _ _ _ => trivial)⟩⟩ rfl rfl hl.1 rfl (lv_room (Nat.le_of_ble_eq_true rfl)) dX7_rest_1 ⟨Nat.zero_le _, Nat.zero_le _⟩) hS (fun q _ h => hFc q h) hFc (fun r_1 u t H1 locs ht hvm h hB hz1 hk1 hS => ?_)
  obtain ⟨hP1, hD1⟩ := hB
  rw [ht] at hP1
  obtain ⟨hP, hD⟩ := rc_foc hP hD [] [none, none, none, none, none, none, none, none, none, none, none, none, none, none, none, none, none, none, none, none, none, none, none, none, none] (by decide) rfl hk1 hP1 rfl
  generalize H1 = H at hP hS ⊢
  have hP : va_P E.1 vwCl (rw_24 E mo mn mi ma ml mt mb mr mp mk mq mc mw mz ms mf mu mv mx mh mA mB mC mM mT mHI mFC mLC mCg mTp mNx mFr mTk mVa mEn mKe mCs mAt mHd mWg mNow mImg mAsd mLea mLat mBst mRsk mTap mKys mKat mCod mWts mTes mStk mFct mSor mSiz mCel mHol mHoA mHoB mHoC mMov mTel) H := hP
  have hD : va_D A (rw_24 E mo mn mi ma ml mt mb mr mp mk mq mc mw mz ms mf mu mv mx mh mA mB mC mM mT mHI mFC mLC mCg mTp mNx mFr mTk mVa mEn mKe mCs mAt mHd mWg mNow mImg mAsd mLea mLat mBst mRsk mTap mKys mKat mCod mWts mTes mStk mFct mSor mSiz mCel mHol mHoA mHoB mHoC mMov mTel) := hD
  refine lv_if_ne (tgt := 10) hx hb dX7_rest_4 (by decide) (fun c_2 => ?_) (fun c_2 => ?_)
  · have h := h.1 c_2
    refine lv_aload_n hx hb dX7_rest_10 rfl (lv_at hl 0 rfl) ?_
    refine va_get (D := E.1) (ci := 7) (v := .ref mh) (C := RX7) (T := TX7) (N := 39) hx hb hts n_X7 hown hK hP 0 rfl rfl 32 (by decide) k_66 (fun _ h9 => h9) rfl dX7_rest_11 ?_
    refine lv_iload_n hx hb dX7_rest_14 rfl (lv_at hl 1 rfl) ?_
    obtain ⟨o_3, h⟩ := h
    refine rc_iald hx hb hK hP 19 0 rfl rfl p1.toNatClampNeg rfl o_3 dX7_rest_15 ?_
    refine lv_if_ne (tgt := 22) hx hb dX7_rest_16 (by decide) (fun c_4 => ?_) (fun c_4 => ?_)
    · have h := h.1 c_4
      refine lv_aload_n hx hb dX7_rest_22 rfl (lv_at hl 0 rfl) ?_
      refine va_get (D := E.1) (ci := 7) (v := .ref mh) (C := RX7) (T := TX7) (N := 39) hx hb hts n_X7 hown hK hP 0 rfl rfl 32 (by decide) k_66 (fun _ h9 => h9) rfl dX7_rest_23 ?_
      refine lv_iload_n hx hb dX7_rest_26 rfl (lv_at hl 1 rfl) ?_
      obtain ⟨o_5, h⟩ := h
      refine rc_iald hx hb hK hP 19 0 rfl rfl p1.toNatClampNeg rfl o_5 dX7_rest_27 ?_
      refine lv_iconst (v := 3) hx hb dX7_rest_28 (by decide) ?_
      refine lv_icmp_eq (tgt := 35) hx hb dX7_rest_29 (by decide) (fun c_6 => ?_) (fun c_6 => ?_)
      · have h := h.1 c_6
        refine lv_iload_n hx hb dX7_rest_35 rfl (lv_at hl 2 rfl) ?_
        refine lv_if_ne (tgt := 44) hx hb dX7_rest_36 (by decide) (fun c_7 => ?_) (fun c_7 => ?_)
        · have h := h.1 c_7
          refine lv_iload_n hx hb dX7_rest_44 rfl (lv_at hl 2 rfl) ?_
          refine lv_iconst (v := (-1)) hx hb dX7_rest_45 (by decide) ?_
          refine lv_icmp_ne (tgt := 53) hx hb dX7_rest_46 (by decide) (fun c_8 => ?_) (fun c_8 => ?_)
          · have h := h.1 c_8
            refine lv_aload_n hx hb dX7_rest_53 rfl (lv_at hl 0 rfl) ?_
            refine va_get (D := E.1) (ci := 7) (v := .ref mA) (C := RX7) (T := TX7) (N := 39) hx hb hts n_X7 hown hK hP 0 rfl rfl 33 (by decide) k_69 (fun _ h9 => h9) rfl dX7_rest_54 ?_
            refine lv_iload_n hx hb dX7_rest_57 rfl (lv_at hl 1 rfl) ?_
            obtain ⟨o_9, h⟩ := h
            refine rc_iald hx hb hK hP 20 0 rfl rfl p1.toNatClampNeg rfl o_9 dX7_rest_58 ?_
            refine lv_iload_n hx hb dX7_rest_59 rfl (lv_at hl 2 rfl) ?_
            obtain ⟨z_10, h⟩ := h
            refine lv_irem hx hb dX7_rest_60 z_10 ?_
            refine W.eq (g2 := F0 m 61 ls [.int (rc_rem (mHoA p1.toNatClampNeg) p2)]) rfl ?_
            exact hret _ _ _ _ (rc_rem (mHoA p1.toNatClampNeg) p2) () rfl h hP hD hS dX7_rest_61
          · have h := h.2 c_8
            refine lv_iconst (v := 0) hx hb dX7_rest_49 (by decide) ?_
            refine lv_goto (tgt := 61) hx hb dX7_rest_50 (by decide) ?_
            exact hret _ _ _ _ 0 () rfl h hP hD hS dX7_rest_61
        · have h := h.2 c_7
          refine lv_ldc hx hb hown k_147 dX7_rest_39 ?_
          refine lv_goto (tgt := 61) hx hb dX7_rest_41 (by decide) ?_
          exact hret _ _ _ _ (-1000000002) () rfl h hP hD hS dX7_rest_61
      · have h := h.2 c_6
        refine lv_ldc hx hb hown k_123 dX7_rest_32 ?_
        exact hret _ _ _ _ (-1000000012) () rfl h hP hD hS dX7_rest_34
    · have h := h.2 c_4
      refine lv_ldc hx hb hown k_177 dX7_rest_19 ?_
      exact hret _ _ _ _ (-1000000011) () rfl h hP hD hS dX7_rest_21
  · have h := h.2 c_2
    refine lv_ldc hx hb hown k_89 dX7_rest_7 ?_
    exact hret _ _ _ _ (-1000000001) () rfl h hP hD hS dX7_rest_9
def wp_X7_tell (p1 : Int32) (mWg : Int32) (mTel : Nat → Int32) (Q : Int32 → Int32 → (Nat → Int32) → Prop) : Prop :=
  ((¬ mWg = 60 → (vp_in mWg 60 ∧ Q (mWg + 1) (mWg + 1) (upd mTel mWg.toNatClampNeg p1))) ∧ (mWg = 60 → Q (-1000000003) mWg mTel))
set_option maxHeartbeats 4000000 in
set_option maxRecDepth 100000 in
theorem c_X7_tell (l : Launch) (E : gE) (mo mn mi ma ml mt mb mr mp mk mq mc mw mz ms mf mu mv mx mh mA mB mC mM mT : Nat) (sz : Nat) (mHI : Int32) (mFC : Int32) (mLC : Int32) (mCg : Int32) (mTp : Int32) (mNx : Int32) (mFr : Int32) (mTk : Int32) (mVa : Int32) (mEn : Int32) (mKe : Int32) (mCs : Int32) (mAt : Int32) (mHd : Int32) (mWg : Int32) (mNow : Nat → Int32) (mImg : Nat → Int32) (mAsd : Nat → Int32) (mLea : Nat → Int32) (mLat : Nat → Int32) (mBst : Nat → Int32) (mRsk : Nat → Int32) (mTap : Nat → Int32) (mKys : Nat → Int32) (mKat : Nat → Int32) (mCod : Nat → Int32) (mWts : Nat → Int32) (mTes : Nat → Int32) (mStk : Nat → Int32) (mFct : Nat → Int32) (mSor : Nat → Int32) (mSiz : Nat → Int32) (mCel : Nat → Int32) (mHol : Nat → Int32) (mHoA : Nat → Int32) (mHoB : Nat → Int32) (mHoC : Nat → Int32) (mMov : Nat → Int32) (mTel : Nat → Int32) (p1 : Int32)  (Q : Int32 → Int32 → (Nat → Int32) → Prop) (h : wp_X7_tell p1 mWg mTel Q) : Met l yX7_tell wsX7_tell ({ frames := 0, cells := 0, slots := 0, locals := 0 } : Room) (va_Pc [.ref mo, .int p1] (rc_B E (rw_24 E mo mn mi ma ml mt mb mr mp mk mq mc mw mz ms mf mu mv mx mh mA mB mC mM mT mHI mFC mLC mCg mTp mNx mFr mTk mVa mEn mKe mCs mAt mHd mWg mNow mImg mAsd mLea mLat mBst mRsk mTap mKys mKat mCod mWts mTes mStk mFct mSor mSiz mCel mHol mHoA mHoB mHoC mMov mTel) sz)) (va_Qi (S := Int32 × (Nat → Int32)) (fun (r : Int32) (u : Int32 × (Nat → Int32)) => Q r u.1 u.2) (fun u t => rc_C E (va_A (rw_24 E mo mn mi ma ml mt mb mr mp mk mq mc mw mz ms mf mu mv mx mh mA mB mC mM mT mHI mFC mLC mCg mTp mNx mFr mTk mVa mEn mKe mCs mAt mHd mWg mNow mImg mAsd mLea mLat mBst mRsk mTap mKys mKat mCod mWts mTes mStk mFct mSor mSiz mCel mHol mHoA mHoB mHoC mMov mTel) sz) (rw_24 E mo mn mi ma ml mt mb mr mp mk mq mc mw mz ms mf mu mv mx mh mA mB mC mM mT mHI mFC mLC mCg mTp mNx mFr mTk mVa mEn mKe mCs mAt mHd u.1 mNow mImg mAsd mLea mLat mBst mRsk mTap mKys mKat mCod mWts mTes mStk mFct mSor mSiz mCel mHol mHoA mHoB mHoC mMov u.2) t) (va_A (rw_24 E mo mn mi ma ml mt mb mr mp mk mq mc mw mz ms mf mu mv mx mh mA mB mC mM mT mHI mFC mLC mCg mTp mNx mFr mTk mVa mEn mKe mCs mAt mHd mWg mNow mImg mAsd mLea mLat mBst mRsk mTap mKys mKat mCod mWts mTes mStk mFct mSor mSiz mCel mHol mHoA mHoB mHoC mMov mTel) sz)) 0 0 (va_A (rw_24 E mo mn mi ma ml mt mb mr mp mk mq mc mw mz ms mf mu mv mx mh mA mB mC mM mT mHI mFC mLC mCg mTp mNx mFr mTk mVa mEn mKe mCs mAt mHd mWg mNow mImg mAsd mLea mLat mBst mRsk mTap mKys mKat mCod mWts mTes mStk mFct mSor mSiz mCel mHol mHoA mHoB mHoC mMov mTel) sz) := by
  refine rc_enterI (cc := cX7_tell) (maxL := 2) (by decide) rfl (Nat.le_of_ble_eq_true rfl) ?_
  intro p e s m args below meth c QQ A hx hb hml hown hts hmn hE hP hD hA hret ls hl
  have hown : s.vm.findClass RX7 = some m.cls := hown
  have hK := hE.1
  have hS : va_S A s.heap s.heap [] := va_S.rf
  have hl : lv_has ls 2 [(0, .ref mo), (1, .int p1)] := hl
  have n_X7 : ∀ w ∈ wsX70, w ∈ wsX7_tell := fun _ h => List.mem_cons_of_mem _ (List.mem_append_right _ h)
  have k_258 := hts (.fieldLink RX7 258 "RidgeClapsModel" "waiting" "I") (List.mem_of_getElem? (i := 1) rfl)
  have k_81 := hts (.fieldLink RX7 81 "RidgeClapsModel" "tells" "[I") (List.mem_of_getElem? (i := 3) rfl)
  have k_90 := hts (.constant RX7 90 (-1000000003)) (List.mem_of_getElem? (i := 2) rfl)
  unfold wp_X7_tell at h
  obtain ⟨H, hH⟩ : ∃ H, H = s.heap := ⟨_, rfl⟩
  obtain ⟨locs, hlocs⟩ : ∃ locs : List Loc, locs = [] := ⟨_, rfl⟩
  have hP : va_P E.1 vwCl (rw_24 E mo mn mi ma ml mt mb mr mp mk mq mc mw mz ms mf mu mv mx mh mA mB mC mM mT mHI mFC mLC mCg mTp mNx mFr mTk mVa mEn mKe mCs mAt mHd mWg mNow mImg mAsd mLea mLat mBst mRsk mTap mKys mKat mCod mWts mTes mStk mFct mSor mSiz mCel mHol mHoA mHoB mHoC mMov mTel) H := by rw [hH]; exact hP
  have hS : va_S A s.heap H locs := by rw [hH, hlocs]; exact hS
  suffices hgo : W p l e ({ frames := 0, cells := 0, slots := 0, locals := 0 } : Room) s m args below meth c H locs 0 0 QQ (F0 m 0 ls []) from by rw [hH, hlocs] at hgo; exact hgo
  refine lv_aload_n hx hb dX7_tell_0 rfl (lv_at hl 0 rfl) ?_
  refine va_get (D := E.1) (ci := 7) (v := .int mWg) (C := RX7) (T := TX7) (N := 39) hx hb hts n_X7 hown hK hP 0 rfl rfl 38 (by decide) k_258 (fun _ h9 => h9) rfl dX7_tell_1 ?_
  refine lv_bipush (v := 60) hx hb dX7_tell_4 (by decide) ?_
  refine lv_icmp_ne (tgt := 12) hx hb dX7_tell_6 (by decide) (fun c_1 => ?_) (fun c_1 => ?_)
  · have h := h.1 c_1
    refine lv_aload_n hx hb dX7_tell_12 rfl (lv_at hl 0 rfl) ?_
    refine va_get (D := E.1) (ci := 7) (v := .ref mT) (C := RX7) (T := TX7) (N := 39) hx hb hts n_X7 hown hK hP 0 rfl rfl 37 (by decide) k_81 (fun _ h9 => h9) rfl dX7_tell_13 ?_
    refine lv_aload_n hx hb dX7_tell_16 rfl (lv_at hl 0 rfl) ?_
    refine va_get (D := E.1) (ci := 7) (v := .int mWg) (C := RX7) (T := TX7) (N := 39) hx hb hts n_X7 hown hK hP 0 rfl rfl 38 (by decide) k_258 (fun _ h9 => h9) rfl dX7_tell_17 ?_
    refine lv_iload_n hx hb dX7_tell_20 rfl (lv_at hl 1 rfl) ?_
    obtain ⟨o_2, h⟩ := h
    refine rc_iast hx hb hK hP hD hS 24 0 rfl rfl mWg.toNatClampNeg rfl o_2 dX7_tell_21 (fun H locs hP hD hS => ?_)
    have hP : va_P E.1 vwCl (rw_24 E mo mn mi ma ml mt mb mr mp mk mq mc mw mz ms mf mu mv mx mh mA mB mC mM mT mHI mFC mLC mCg mTp mNx mFr mTk mVa mEn mKe mCs mAt mHd mWg mNow mImg mAsd mLea mLat mBst mRsk mTap mKys mKat mCod mWts mTes mStk mFct mSor mSiz mCel mHol mHoA mHoB mHoC mMov (upd mTel mWg.toNatClampNeg p1)) H := hP
    have hD : va_D A (rw_24 E mo mn mi ma ml mt mb mr mp mk mq mc mw mz ms mf mu mv mx mh mA mB mC mM mT mHI mFC mLC mCg mTp mNx mFr mTk mVa mEn mKe mCs mAt mHd mWg mNow mImg mAsd mLea mLat mBst mRsk mTap mKys mKat mCod mWts mTes mStk mFct mSor mSiz mCel mHol mHoA mHoB mHoC mMov (upd mTel mWg.toNatClampNeg p1)) := hD
    refine lv_aload_n hx hb dX7_tell_22 rfl (lv_at hl 0 rfl) ?_
    refine lv_dup hx hb dX7_tell_23 rfl ?_
    refine va_get (D := E.1) (ci := 7) (v := .int mWg) (C := RX7) (T := TX7) (N := 39) hx hb hts n_X7 hown hK hP 0 rfl rfl 38 (by decide) k_258 (fun _ h9 => h9) rfl dX7_tell_24 ?_
    refine lv_iconst (v := 1) hx hb dX7_tell_27 (by decide) ?_
    refine lv_iadd hx hb dX7_tell_28 ?_
    refine va_put (D := E.1) (ci := 7) (v := .int (mWg + 1)) (ty := .int) (C := RX7) (T := TX7) (N := 39) hx hb hts n_X7 tyX7 tyX7_ok nmX7 hown hK hP hD hS 0 rfl rfl 38 (by decide) k_258 (fun _ h9 => h9) rfl (by decide +kernel) rfl rfl (Nat.le_of_ble_eq_true rfl) dX7_tell_29 (fun H locs hP hD hS => ?_)
    have hP : va_P E.1 vwCl (rw_24 E mo mn mi ma ml mt mb mr mp mk mq mc mw mz ms mf mu mv mx mh mA mB mC mM mT mHI mFC mLC mCg mTp mNx mFr mTk mVa mEn mKe mCs mAt mHd (mWg + 1) mNow mImg mAsd mLea mLat mBst mRsk mTap mKys mKat mCod mWts mTes mStk mFct mSor mSiz mCel mHol mHoA mHoB mHoC mMov (upd mTel mWg.toNatClampNeg p1)) H := hP
    have hD : va_D A (rw_24 E mo mn mi ma ml mt mb mr mp mk mq mc mw mz ms mf mu mv mx mh mA mB mC mM mT mHI mFC mLC mCg mTp mNx mFr mTk mVa mEn mKe mCs mAt mHd (mWg + 1) mNow mImg mAsd mLea mLat mBst mRsk mTap mKys mKat mCod mWts mTes mStk mFct mSor mSiz mCel mHol mHoA mHoB mHoC mMov (upd mTel mWg.toNatClampNeg p1)) := hD
    refine lv_aload_n hx hb dX7_tell_32 rfl (lv_at hl 0 rfl) ?_
    refine va_get (D := E.1) (ci := 7) (v := .int (mWg + 1)) (C := RX7) (T := TX7) (N := 39) hx hb hts n_X7 hown hK hP 0 rfl rfl 38 (by decide) k_258 (fun _ h9 => h9) rfl dX7_tell_33 ?_
    exact hret _ _ _ _ (mWg + 1) (mWg + 1, upd mTel mWg.toNatClampNeg p1) rfl h hP hD hS dX7_tell_36
  · have h := h.2 c_1
    refine lv_ldc hx hb hown k_90 dX7_tell_9 ?_
    exact hret _ _ _ _ (-1000000003) (mWg, mTel) rfl h hP hD hS dX7_tell_11
def jp_X7_check_183   (Q : Int32 → Int32 → (Nat → Int32) → (Nat → Int32) → (Nat → Int32) → (Nat → Int32) → (Nat → Int32) → (Nat → Int32) → (Nat → Int32) → (Nat → Int32) → Prop) (x2 : Int32) (x3 : Int32) (x4 : Int32) (mWg : Int32) (mNow : Nat → Int32) (mAsd : Nat → Int32) (mLea : Nat → Int32) (mLat : Nat → Int32) (mBst : Nat → Int32) (mRsk : Nat → Int32) (mStk : Nat → Int32) (mFct : Nat → Int32) : Prop :=
  wp_X7_copyAll mAsd mNow (fun (w_1 : Nat → Int32) => ((¬ x4 = x2 → Q (1 + x4) mWg w_1 mAsd mLea mLat mBst mRsk mStk mFct) ∧ (x4 = x2 → ((¬ x4 = x3 → Q (1 + x4) mWg w_1 mAsd mLea mLat mBst mRsk mStk mFct) ∧ (x4 = x3 → Q 0 mWg w_1 mAsd mLea mLat mBst mRsk mStk mFct)))))
def jp_X7_check_130 (mTel : Nat → Int32) (K79 : Int32 → Int32 → Int32 → Int32 → Int32 → (Nat → Int32) → (Nat → Int32) → (Nat → Int32) → (Nat → Int32) → (Nat → Int32) → (Nat → Int32) → (Nat → Int32) → (Nat → Int32) → Prop)  (x2 : Int32) (x3 : Int32) (x5 : Int32) (y0 : Int32) (y1 : Int32) (mWg : Int32) (mNow : Nat → Int32) (mAsd : Nat → Int32) (mLea : Nat → Int32) (mLat : Nat → Int32) (mBst : Nat → Int32) (mRsk : Nat → Int32) (mStk : Nat → Int32) (mFct : Nat → Int32) : Prop :=
  ((¬ (y1 + y0) = ((2 * x5) + 1) → K79 x2 x3 ((y1 + y0) + 0) (x5 + 1) mWg mNow mAsd mLea mLat mBst mRsk mStk mFct) ∧ ((y1 + y0) = ((2 * x5) + 1) → ((x2 ≤ (y1 + y0) → K79 x2 x3 ((y1 + y0) + 0) (x5 + 1) mWg mNow mAsd mLea mLat mBst mRsk mStk mFct) ∧ (¬ (x2 ≤ (y1 + y0)) → (vp_in (y1 + y0) 60 ∧ ((¬ (mTel ((y1 + y0).toNatClampNeg)) = (mNow 7) → K79 x2 x3 ((y1 + y0) + 0) (x5 + 1) mWg mNow mAsd mLea mLat mBst mRsk mStk mFct) ∧ ((mTel ((y1 + y0).toNatClampNeg)) = (mNow 7) → K79 x2 x3 ((y1 + y0) + 1) (x5 + 1) mWg mNow mAsd mLea mLat mBst mRsk mStk mFct)))))))
def lp_X7_check_79F (mTel : Nat → Int32)  (Q : Int32 → Int32 → (Nat → Int32) → (Nat → Int32) → (Nat → Int32) → (Nat → Int32) → (Nat → Int32) → (Nat → Int32) → (Nat → Int32) → (Nat → Int32) → Prop) (R : Int32 → Int32 → Int32 → Int32 → Int32 → (Nat → Int32) → (Nat → Int32) → (Nat → Int32) → (Nat → Int32) → (Nat → Int32) → (Nat → Int32) → (Nat → Int32) → (Nat → Int32) → Prop) (x2 : Int32) (x3 : Int32) (x4 : Int32) (x5 : Int32) (mWg : Int32) (mNow : Nat → Int32) (mAsd : Nat → Int32) (mLea : Nat → Int32) (mLat : Nat → Int32) (mBst : Nat → Int32) (mRsk : Nat → Int32) (mStk : Nat → Int32) (mFct : Nat → Int32) : Prop :=
  ((x3 ≤ (2 * x5) → jp_X7_check_183 Q x2 x3 x4 mWg mNow mAsd mLea mLat mBst mRsk mStk mFct) ∧ (¬ (x3 ≤ (2 * x5)) → ((¬ x4 = (2 * x5) → jp_X7_check_183 Q x2 x3 x4 mWg mNow mAsd mLea mLat mBst mRsk mStk mFct) ∧ (x4 = (2 * x5) → wp_X7_bestMinute mNow mLea mLat mBst mRsk mStk mFct (fun (w_10 : Nat → Int32) (w_11 : Nat → Int32) (w_12 : Nat → Int32) (w_13 : Nat → Int32) (w_14 : Nat → Int32) (w_15 : Nat → Int32) (w_16 : Nat → Int32) => ((x2 ≤ x4 → jp_X7_check_130 mTel R x2 x3 x5 0 x4 mWg w_10 mAsd w_11 w_12 w_13 w_14 w_15 w_16) ∧ (¬ (x2 ≤ x4) → (vp_in x4 60 ∧ ((¬ (mTel x4.toNatClampNeg) = (w_10 6) → jp_X7_check_130 mTel R x2 x3 x5 0 x4 mWg w_10 mAsd w_11 w_12 w_13 w_14 w_15 w_16) ∧ ((mTel x4.toNatClampNeg) = (w_10 6) → jp_X7_check_130 mTel R x2 x3 x5 1 x4 mWg w_10 mAsd w_11 w_12 w_13 w_14 w_15 w_16))))))))))
def lp_X7_check_79 (mTel : Nat → Int32)  (Q : Int32 → Int32 → (Nat → Int32) → (Nat → Int32) → (Nat → Int32) → (Nat → Int32) → (Nat → Int32) → (Nat → Int32) → (Nat → Int32) → (Nat → Int32) → Prop) (n : Nat) : Int32 → Int32 → Int32 → Int32 → Int32 → (Nat → Int32) → (Nat → Int32) → (Nat → Int32) → (Nat → Int32) → (Nat → Int32) → (Nat → Int32) → (Nat → Int32) → (Nat → Int32) → Prop :=
  Nat.rec (motive := fun _ => Int32 → Int32 → Int32 → Int32 → Int32 → (Nat → Int32) → (Nat → Int32) → (Nat → Int32) → (Nat → Int32) → (Nat → Int32) → (Nat → Int32) → (Nat → Int32) → (Nat → Int32) → Prop) (fun _ _ _ _ _ _ _ _ _ _ _ _ _ => False) (fun _ r => lp_X7_check_79F mTel Q r) n
def wp_X7_check (p1 : Int32) (mHI : Int32) (mWg : Int32) (mNow : Nat → Int32) (mImg : Nat → Int32) (mAsd : Nat → Int32) (mLea : Nat → Int32) (mLat : Nat → Int32) (mBst : Nat → Int32) (mRsk : Nat → Int32) (mStk : Nat → Int32) (mFct : Nat → Int32) (mTel : Nat → Int32) (Q : Int32 → Int32 → (Nat → Int32) → (Nat → Int32) → (Nat → Int32) → (Nat → Int32) → (Nat → Int32) → (Nat → Int32) → (Nat → Int32) → (Nat → Int32) → Prop) : Prop :=
  wp_X7_in p1 1 30 (fun (r_20 : Int32) => ((¬ r_20 = 0 → ((¬ mHI = 0 → wp_X7_copyAll mNow mAsd (fun (w_23 : Nat → Int32) => wp_X7_copyAll mImg mNow (fun (w_24 : Nat → Int32) => wp_X7_within (9999 - (w_24 3)) 0 p1 (fun (r_25 : Int32) => (∃ n : Nat, lp_X7_check_79 mTel Q n mWg (2 * r_25) 0 0 0 w_24 w_23 mLea mLat mBst mRsk mStk mFct))))) ∧ (mHI = 0 → Q (-1000000002) 0 mNow mAsd mLea mLat mBst mRsk mStk mFct))) ∧ (r_20 = 0 → Q (-1000000001) 0 mNow mAsd mLea mLat mBst mRsk mStk mFct)))
set_option maxHeartbeats 4000000 in
set_option maxRecDepth 100000 in
theorem c_X7_check (l : Launch) (E : gE) (mo mn mi ma ml mt mb mr mp mk mq mc mw mz ms mf mu mv mx mh mA mB mC mM mT : Nat) (sz : Nat) (mHI : Int32) (mFC : Int32) (mLC : Int32) (mCg : Int32) (mTp : Int32) (mNx : Int32) (mFr : Int32) (mTk : Int32) (mVa : Int32) (mEn : Int32) (mKe : Int32) (mCs : Int32) (mAt : Int32) (mHd : Int32) (mWg : Int32) (mNow : Nat → Int32) (mImg : Nat → Int32) (mAsd : Nat → Int32) (mLea : Nat → Int32) (mLat : Nat → Int32) (mBst : Nat → Int32) (mRsk : Nat → Int32) (mTap : Nat → Int32) (mKys : Nat → Int32) (mKat : Nat → Int32) (mCod : Nat → Int32) (mWts : Nat → Int32) (mTes : Nat → Int32) (mStk : Nat → Int32) (mFct : Nat → Int32) (mSor : Nat → Int32) (mSiz : Nat → Int32) (mCel : Nat → Int32) (mHol : Nat → Int32) (mHoA : Nat → Int32) (mHoB : Nat → Int32) (mHoC : Nat → Int32) (mMov : Nat → Int32) (mTel : Nat → Int32) (p1 : Int32)  (Q : Int32 → Int32 → (Nat → Int32) → (Nat → Int32) → (Nat → Int32) → (Nat → Int32) → (Nat → Int32) → (Nat → Int32) → (Nat → Int32) → (Nat → Int32) → Prop) (h : wp_X7_check p1 mHI mWg mNow mImg mAsd mLea mLat mBst mRsk mStk mFct mTel Q) : Met l yX7_check wsX7_check ({ frames := 5, cells := 0, slots := 0, locals := 120 } : Room) (va_Pc [.ref mo, .int p1] (rc_B E (rw_24 E mo mn mi ma ml mt mb mr mp mk mq mc mw mz ms mf mu mv mx mh mA mB mC mM mT mHI mFC mLC mCg mTp mNx mFr mTk mVa mEn mKe mCs mAt mHd mWg mNow mImg mAsd mLea mLat mBst mRsk mTap mKys mKat mCod mWts mTes mStk mFct mSor mSiz mCel mHol mHoA mHoB mHoC mMov mTel) sz)) (va_Qi (S := Int32 × (Nat → Int32) × (Nat → Int32) × (Nat → Int32) × (Nat → Int32) × (Nat → Int32) × (Nat → Int32) × (Nat → Int32) × (Nat → Int32)) (fun (r : Int32) (u : Int32 × (Nat → Int32) × (Nat → Int32) × (Nat → Int32) × (Nat → Int32) × (Nat → Int32) × (Nat → Int32) × (Nat → Int32) × (Nat → Int32)) => Q r u.1 u.2.1 u.2.2.1 u.2.2.2.1 u.2.2.2.2.1 u.2.2.2.2.2.1 u.2.2.2.2.2.2.1 u.2.2.2.2.2.2.2.1 u.2.2.2.2.2.2.2.2) (fun u t => rc_C E (va_A (rw_24 E mo mn mi ma ml mt mb mr mp mk mq mc mw mz ms mf mu mv mx mh mA mB mC mM mT mHI mFC mLC mCg mTp mNx mFr mTk mVa mEn mKe mCs mAt mHd mWg mNow mImg mAsd mLea mLat mBst mRsk mTap mKys mKat mCod mWts mTes mStk mFct mSor mSiz mCel mHol mHoA mHoB mHoC mMov mTel) sz) (rw_24 E mo mn mi ma ml mt mb mr mp mk mq mc mw mz ms mf mu mv mx mh mA mB mC mM mT mHI mFC mLC mCg mTp mNx mFr mTk mVa mEn mKe mCs mAt mHd u.1 u.2.1 mImg u.2.2.1 u.2.2.2.1 u.2.2.2.2.1 u.2.2.2.2.2.1 u.2.2.2.2.2.2.1 mTap mKys mKat mCod mWts mTes u.2.2.2.2.2.2.2.1 u.2.2.2.2.2.2.2.2 mSor mSiz mCel mHol mHoA mHoB mHoC mMov mTel) t) (va_A (rw_24 E mo mn mi ma ml mt mb mr mp mk mq mc mw mz ms mf mu mv mx mh mA mB mC mM mT mHI mFC mLC mCg mTp mNx mFr mTk mVa mEn mKe mCs mAt mHd mWg mNow mImg mAsd mLea mLat mBst mRsk mTap mKys mKat mCod mWts mTes mStk mFct mSor mSiz mCel mHol mHoA mHoB mHoC mMov mTel) sz)) 0 0 (va_A (rw_24 E mo mn mi ma ml mt mb mr mp mk mq mc mw mz ms mf mu mv mx mh mA mB mC mM mT mHI mFC mLC mCg mTp mNx mFr mTk mVa mEn mKe mCs mAt mHd mWg mNow mImg mAsd mLea mLat mBst mRsk mTap mKys mKat mCod mWts mTes mStk mFct mSor mSiz mCel mHol mHoA mHoB mHoC mMov mTel) sz) := by
  refine rc_enterI (cc := cX7_check) (maxL := 6) (by decide) rfl (Nat.le_of_ble_eq_true rfl) ?_
  intro p e s m args below meth c QQ A hx hb hml hown hts hmn hE hP hD hA hret ls hl
  have hown : s.vm.findClass RX7 = some m.cls := hown
  have hK := hE.1
  have hS : va_S A s.heap s.heap [] := va_S.rf
  have hl : lv_has ls 6 [(0, .ref mo), (1, .int p1)] := hl
  have n_X7 : ∀ w ∈ wsX70, w ∈ wsX7_check := fun _ h => List.mem_cons_of_mem _ (List.mem_append_right _ h)
  have k_16 := hts (.fieldLink RX7 16 "RidgeClapsModel" "aside" "[I") (List.mem_of_getElem? (i := 6) rfl)
  have k_9 := hts (.fieldLink RX7 9 "RidgeClapsModel" "now" "[I") (List.mem_of_getElem? (i := 5) rfl)
  have k_81 := hts (.fieldLink RX7 81 "RidgeClapsModel" "tells" "[I") (List.mem_of_getElem? (i := 8) rfl)
  have k_258 := hts (.fieldLink RX7 258 "RidgeClapsModel" "waiting" "I") (List.mem_of_getElem? (i := 1) rfl)
  have k_261 := hts (.fieldLink RX7 261 "RidgeClapsModel" "hasImage" "Z") (List.mem_of_getElem? (i := 3) rfl)
  have k_13 := hts (.fieldLink RX7 13 "RidgeClapsModel" "image" "[I") (List.mem_of_getElem? (i := 7) rfl)
  have k_147 := hts (.constant RX7 147 (-1000000002)) (List.mem_of_getElem? (i := 4) rfl)
  have k_89 := hts (.constant RX7 89 (-1000000001)) (List.mem_of_getElem? (i := 2) rfl)
  have J183 : ∀ (x2 : Int32) (x3 : Int32) (x4 : Int32) (mWg : Int32) (mNow : Nat → Int32) (mAsd : Nat → Int32) (mLea : Nat → Int32) (mLat : Nat → Int32) (mBst : Nat → Int32) (mRsk : Nat → Int32) (mStk : Nat → Int32) (mFct : Nat → Int32), jp_X7_check_183 Q x2 x3 x4 mWg mNow mAsd mLea mLat mBst mRsk mStk mFct → ∀ (H : Heap) (locs : List Loc), va_P E.1 vwCl (rw_24 E mo mn mi ma ml mt mb mr mp mk mq mc mw mz ms mf mu mv mx mh mA mB mC mM mT mHI mFC mLC mCg mTp mNx mFr mTk mVa mEn mKe mCs mAt mHd mWg mNow mImg mAsd mLea mLat mBst mRsk mTap mKys mKat mCod mWts mTes mStk mFct mSor mSiz mCel mHol mHoA mHoB mHoC mMov mTel) H → va_D A (rw_24 E mo mn mi ma ml mt mb mr mp mk mq mc mw mz ms mf mu mv mx mh mA mB mC mM mT mHI mFC mLC mCg mTp mNx mFr mTk mVa mEn mKe mCs mAt mHd mWg mNow mImg mAsd mLea mLat mBst mRsk mTap mKys mKat mCod mWts mTes mStk mFct mSor mSiz mCel mHol mHoA mHoB mHoC mMov mTel) → va_S A s.heap H locs → ∀ ls : Array Slot, lv_has ls 6 [(0, .ref mo), (2, .int x2), (3, .int x3), (4, .int x4)] → W p l e ({ frames := 5, cells := 0, slots := 0, locals := 120 } : Room) s m args below meth c H locs 0 0 QQ (F0 m 183 ls []) := by
    intro x2 x3 x4 mWg mNow mAsd mLea mLat mBst mRsk mStk mFct h H locs hP hD hS ls hl
    unfold jp_X7_check_183 at h
    refine lv_aload_n hx hb dX7_check_183 rfl (lv_at hl 0 rfl) ?_
    refine va_get (D := E.1) (ci := 7) (v := .ref ma) (C := RX7) (T := TX7) (N := 39) hx hb hts n_X7 hown hK hP 0 rfl rfl 2 (by decide) k_16 (fun _ h9 => h9) rfl dX7_check_184 ?_
    refine lv_aload_n hx hb dX7_check_187 rfl (lv_at hl 0 rfl) ?_
    refine va_get (D := E.1) (ci := 7) (v := .ref mn) (C := RX7) (T := TX7) (N := 39) hx hb hts n_X7 hown hK hP 0 rfl rfl 0 (by decide) k_9 (fun _ h9 => h9) rfl dX7_check_188 ?_
    have hPc := hP.sub (ws' := (rw_23 E ma mn mAsd mNow)) [3, 1] rfl
    have hDc := hD.sub (ws' := (rw_23 E ma mn mAsd mNow)) [3, 1] (by decide) rfl
    have hFc := va_free (wc := (rw_23 E ma mn mAsd mNow)) hD hS hA [3, 1] rfl
    refine va_callv (va_runS (As := [.ref ma, .ref mn]) (rest := []) ⟨hx, hb, hml, hown, hts⟩ (c_X7_copyAll l E ma mn H.size mAsd mNow _ h) (va_cwS 2 hts gX7_check_X7_copyAll rfl rfl rfl (by decide +kernel) ⟨Nat.le_of_ble_eq_true rfl, Nat.le_of_ble_eq_true rfl⟩) ⟨fun a U g mk q => ⟨q.1, q.2.blind⟩, fun U hU hW => ⟨rfl, by rw [hU], by rw [hU]; exact hPc, hE.call hS hFc hW hU, hDc.weaken (fun _ _ _ _ => trivial)⟩⟩ rfl rfl hl.1 rfl (lv_room (Nat.le_of_ble_eq_true rfl)) dX7_check_191 ⟨Nat.zero_le _, Nat.zero_le _⟩) hS (fun q _ h => hFc q h) hFc (fun u t H1 locs ht hvm h hB hz1 hk1 hS => ?_)
    obtain ⟨w_1, rfl⟩ : ∃ z, z = u := ⟨_, rfl⟩
    obtain ⟨hP1, hD1⟩ := hB
    rw [ht] at hP1
    obtain ⟨hP, hD⟩ := rc_foc hP hD [3, 1] [none, some 1, none, some 0, none, none, none, none, none, none, none, none, none, none, none, none, none, none, none, none, none, none, none, none, none] (by decide) rfl hk1 hP1 rfl
    generalize H1 = H at hP hS ⊢
    have hP : va_P E.1 vwCl (rw_24 E mo mn mi ma ml mt mb mr mp mk mq mc mw mz ms mf mu mv mx mh mA mB mC mM mT mHI mFC mLC mCg mTp mNx mFr mTk mVa mEn mKe mCs mAt mHd mWg w_1 mImg mAsd mLea mLat mBst mRsk mTap mKys mKat mCod mWts mTes mStk mFct mSor mSiz mCel mHol mHoA mHoB mHoC mMov mTel) H := hP
    have hD : va_D A (rw_24 E mo mn mi ma ml mt mb mr mp mk mq mc mw mz ms mf mu mv mx mh mA mB mC mM mT mHI mFC mLC mCg mTp mNx mFr mTk mVa mEn mKe mCs mAt mHd mWg w_1 mImg mAsd mLea mLat mBst mRsk mTap mKys mKat mCod mWts mTes mStk mFct mSor mSiz mCel mHol mHoA mHoB mHoC mMov mTel) := hD
    refine lv_iload hx hb dX7_check_194 (lv_at hl 3 rfl) ?_
    refine lv_iload_n hx hb dX7_check_196 rfl (lv_at hl 1 rfl) ?_
    refine lv_icmp_ne (tgt := 210) hx hb dX7_check_197 (by decide) (fun c_2 => ?_) (fun c_2 => ?_)
    · have h := h.1 c_2
      refine lv_iconst (v := 1) hx hb dX7_check_210 (by decide) ?_
      refine lv_iload hx hb dX7_check_211 (lv_at hl 3 rfl) ?_
      refine lv_iadd hx hb dX7_check_213 ?_
      exact hret _ _ _ _ (1 + x4) (mWg, w_1, mAsd, mLea, mLat, mBst, mRsk, mStk, mFct) rfl h hP hD hS dX7_check_214
    · have h := h.2 c_2
      refine lv_iload hx hb dX7_check_200 (lv_at hl 3 rfl) ?_
      refine lv_iload_n hx hb dX7_check_202 rfl (lv_at hl 2 rfl) ?_
      refine lv_icmp_ne (tgt := 210) hx hb dX7_check_203 (by decide) (fun c_3 => ?_) (fun c_3 => ?_)
      · have h := h.1 c_3
        refine lv_iconst (v := 1) hx hb dX7_check_210 (by decide) ?_
        refine lv_iload hx hb dX7_check_211 (lv_at hl 3 rfl) ?_
        refine lv_iadd hx hb dX7_check_213 ?_
        exact hret _ _ _ _ (1 + x4) (mWg, w_1, mAsd, mLea, mLat, mBst, mRsk, mStk, mFct) rfl h hP hD hS dX7_check_214
      · have h := h.2 c_3
        refine lv_iconst (v := 0) hx hb dX7_check_206 (by decide) ?_
        refine lv_goto (tgt := 214) hx hb dX7_check_207 (by decide) ?_
        exact hret _ _ _ _ 0 (mWg, w_1, mAsd, mLea, mLat, mBst, mRsk, mStk, mFct) rfl h hP hD hS dX7_check_214
  have J130 : ∀ (K79 : Int32 → Int32 → Int32 → Int32 → Int32 → (Nat → Int32) → (Nat → Int32) → (Nat → Int32) → (Nat → Int32) → (Nat → Int32) → (Nat → Int32) → (Nat → Int32) → (Nat → Int32) → Prop), (∀ (x2 : Int32) (x3 : Int32) (x4 : Int32) (x5 : Int32) (mWg : Int32) (mNow : Nat → Int32) (mAsd : Nat → Int32) (mLea : Nat → Int32) (mLat : Nat → Int32) (mBst : Nat → Int32) (mRsk : Nat → Int32) (mStk : Nat → Int32) (mFct : Nat → Int32), K79 x2 x3 x4 x5 mWg mNow mAsd mLea mLat mBst mRsk mStk mFct → ∀ (H : Heap) (locs : List Loc), va_P E.1 vwCl (rw_24 E mo mn mi ma ml mt mb mr mp mk mq mc mw mz ms mf mu mv mx mh mA mB mC mM mT mHI mFC mLC mCg mTp mNx mFr mTk mVa mEn mKe mCs mAt mHd mWg mNow mImg mAsd mLea mLat mBst mRsk mTap mKys mKat mCod mWts mTes mStk mFct mSor mSiz mCel mHol mHoA mHoB mHoC mMov mTel) H → va_D A (rw_24 E mo mn mi ma ml mt mb mr mp mk mq mc mw mz ms mf mu mv mx mh mA mB mC mM mT mHI mFC mLC mCg mTp mNx mFr mTk mVa mEn mKe mCs mAt mHd mWg mNow mImg mAsd mLea mLat mBst mRsk mTap mKys mKat mCod mWts mTes mStk mFct mSor mSiz mCel mHol mHoA mHoB mHoC mMov mTel) → va_S A s.heap H locs → ∀ ls : Array Slot, lv_has ls 6 [(0, .ref mo), (2, .int x2), (3, .int x3), (4, .int x4), (5, .int x5)] → W p l e ({ frames := 5, cells := 0, slots := 0, locals := 120 } : Room) s m args below meth c H locs 0 0 QQ (F0 m 79 ls [])) → ∀ (x2 : Int32) (x3 : Int32) (x5 : Int32) (y0 : Int32) (y1 : Int32) (mWg : Int32) (mNow : Nat → Int32) (mAsd : Nat → Int32) (mLea : Nat → Int32) (mLat : Nat → Int32) (mBst : Nat → Int32) (mRsk : Nat → Int32) (mStk : Nat → Int32) (mFct : Nat → Int32), jp_X7_check_130 mTel K79 x2 x3 x5 y0 y1 mWg mNow mAsd mLea mLat mBst mRsk mStk mFct → ∀ (H : Heap) (locs : List Loc), va_P E.1 vwCl (rw_24 E mo mn mi ma ml mt mb mr mp mk mq mc mw mz ms mf mu mv mx mh mA mB mC mM mT mHI mFC mLC mCg mTp mNx mFr mTk mVa mEn mKe mCs mAt mHd mWg mNow mImg mAsd mLea mLat mBst mRsk mTap mKys mKat mCod mWts mTes mStk mFct mSor mSiz mCel mHol mHoA mHoB mHoC mMov mTel) H → va_D A (rw_24 E mo mn mi ma ml mt mb mr mp mk mq mc mw mz ms mf mu mv mx mh mA mB mC mM mT mHI mFC mLC mCg mTp mNx mFr mTk mVa mEn mKe mCs mAt mHd mWg mNow mImg mAsd mLea mLat mBst mRsk mTap mKys mKat mCod mWts mTes mStk mFct mSor mSiz mCel mHol mHoA mHoB mHoC mMov mTel) → va_S A s.heap H locs → ∀ ls : Array Slot, lv_has ls 6 [(0, .ref mo), (2, .int x2), (3, .int x3), (5, .int x5)] → W p l e ({ frames := 5, cells := 0, slots := 0, locals := 120 } : Room) s m args below meth c H locs 0 0 QQ (F0 m 130 ls [.int y0, .int y1]) := by
    intro K79 hK79
    intro x2 x3 x5 y0 y1 mWg mNow mAsd mLea mLat mBst mRsk mStk mFct h H locs hP hD hS ls hl
    unfold jp_X7_check_130 at h
    refine lv_iadd hx hb dX7_check_130 ?_
    refine lv_istore (lv' := [(4, .int (y1 + y0)), (0, .ref mo), (2, .int x2), (3, .int x3), (5, .int x5)]) hx hb dX7_check_131 hl (by decide) rfl (fun ls hl => ?_)
    refine lv_iload hx hb dX7_check_133 (lv_at hl 0 rfl) ?_
    refine lv_iload hx hb dX7_check_135 (lv_at hl 0 rfl) ?_
    refine lv_iconst (v := 2) hx hb dX7_check_137 (by decide) ?_
    refine lv_iload hx hb dX7_check_138 (lv_at hl 4 rfl) ?_
    refine lv_imul hx hb dX7_check_140 ?_
    refine lv_iconst (v := 1) hx hb dX7_check_141 (by decide) ?_
    refine lv_iadd hx hb dX7_check_142 ?_
    refine lv_icmp_ne (tgt := 173) hx hb dX7_check_143 (by decide) (fun c_4 => ?_) (fun c_4 => ?_)
    · have h := h.1 c_4
      refine lv_iconst (v := 0) hx hb dX7_check_173 (by decide) ?_
      refine lv_iadd hx hb dX7_check_174 ?_
      refine lv_istore (lv' := [(4, .int ((y1 + y0) + 0)), (0, .ref mo), (2, .int x2), (3, .int x3), (5, .int x5)]) hx hb dX7_check_175 hl (by decide) rfl (fun ls hl => ?_)
      refine lv_iinc (v := x5 + 1) (lv' := [(5, .int (x5 + 1)), (4, .int ((y1 + y0) + 0)), (0, .ref mo), (2, .int x2), (3, .int x3)]) hx hb dX7_check_177 hl (k := 4) rfl (by rfl) (by decide) rfl (fun ls hl => ?_)
      refine lv_goto (tgt := 79) hx hb dX7_check_180 (by decide) ?_
      exact hK79 x2 x3 ((y1 + y0) + 0) (x5 + 1) mWg mNow mAsd mLea mLat mBst mRsk mStk mFct h _ _ hP hD hS ls (lv_sub hl [2, 3, 4, 1, 0] rfl)
    · have h := h.2 c_4
      refine lv_iload hx hb dX7_check_146 (lv_at hl 0 rfl) ?_
      refine lv_iload_n hx hb dX7_check_148 rfl (lv_at hl 2 rfl) ?_
      refine lv_icmp_ge (tgt := 173) hx hb dX7_check_149 (by decide) (fun c_5 => ?_) (fun c_5 => ?_)
      · have h := h.1 c_5
        refine lv_iconst (v := 0) hx hb dX7_check_173 (by decide) ?_
        refine lv_iadd hx hb dX7_check_174 ?_
        refine lv_istore (lv' := [(4, .int ((y1 + y0) + 0)), (0, .ref mo), (2, .int x2), (3, .int x3), (5, .int x5)]) hx hb dX7_check_175 hl (by decide) rfl (fun ls hl => ?_)
        refine lv_iinc (v := x5 + 1) (lv' := [(5, .int (x5 + 1)), (4, .int ((y1 + y0) + 0)), (0, .ref mo), (2, .int x2), (3, .int x3)]) hx hb dX7_check_177 hl (k := 4) rfl (by rfl) (by decide) rfl (fun ls hl => ?_)
        refine lv_goto (tgt := 79) hx hb dX7_check_180 (by decide) ?_
        exact hK79 x2 x3 ((y1 + y0) + 0) (x5 + 1) mWg mNow mAsd mLea mLat mBst mRsk mStk mFct h _ _ hP hD hS ls (lv_sub hl [2, 3, 4, 1, 0] rfl)
      · have h := h.2 c_5
        refine lv_aload_n hx hb dX7_check_152 rfl (lv_at hl 1 rfl) ?_
        refine va_get (D := E.1) (ci := 7) (v := .ref mT) (C := RX7) (T := TX7) (N := 39) hx hb hts n_X7 hown hK hP 0 rfl rfl 37 (by decide) k_81 (fun _ h9 => h9) rfl dX7_check_153 ?_
        refine lv_iload hx hb dX7_check_156 (lv_at hl 0 rfl) ?_
        obtain ⟨o_6, h⟩ := h
        refine rc_iald hx hb hK hP 24 0 rfl rfl ((y1 + y0).toNatClampNeg) rfl o_6 dX7_check_158 ?_
        refine lv_aload_n hx hb dX7_check_159 rfl (lv_at hl 1 rfl) ?_
        refine va_get (D := E.1) (ci := 7) (v := .ref mn) (C := RX7) (T := TX7) (N := 39) hx hb hts n_X7 hown hK hP 0 rfl rfl 0 (by decide) k_9 (fun _ h9 => h9) rfl dX7_check_160 ?_
        refine lv_bipush (v := 7) hx hb dX7_check_163 (by decide) ?_
        refine rc_iald hx hb hK hP 1 0 rfl rfl 7 (by decide) (by unfold vp_in; decide) dX7_check_165 ?_
        refine lv_icmp_ne (tgt := 173) hx hb dX7_check_166 (by decide) (fun c_7 => ?_) (fun c_7 => ?_)
        · have h := h.1 c_7
          refine lv_iconst (v := 0) hx hb dX7_check_173 (by decide) ?_
          refine lv_iadd hx hb dX7_check_174 ?_
          refine lv_istore (lv' := [(4, .int ((y1 + y0) + 0)), (0, .ref mo), (2, .int x2), (3, .int x3), (5, .int x5)]) hx hb dX7_check_175 hl (by decide) rfl (fun ls hl => ?_)
          refine lv_iinc (v := x5 + 1) (lv' := [(5, .int (x5 + 1)), (4, .int ((y1 + y0) + 0)), (0, .ref mo), (2, .int x2), (3, .int x3)]) hx hb dX7_check_177 hl (k := 4) rfl (by rfl) (by decide) rfl (fun ls hl => ?_)
          refine lv_goto (tgt := 79) hx hb dX7_check_180 (by decide) ?_
          exact hK79 x2 x3 ((y1 + y0) + 0) (x5 + 1) mWg mNow mAsd mLea mLat mBst mRsk mStk mFct h _ _ hP hD hS ls (lv_sub hl [2, 3, 4, 1, 0] rfl)
        · have h := h.2 c_7
          refine lv_iconst (v := 1) hx hb dX7_check_169 (by decide) ?_
          refine lv_goto (tgt := 174) hx hb dX7_check_170 (by decide) ?_
          refine lv_iadd hx hb dX7_check_174 ?_
          refine lv_istore (lv' := [(4, .int ((y1 + y0) + 1)), (0, .ref mo), (2, .int x2), (3, .int x3), (5, .int x5)]) hx hb dX7_check_175 hl (by decide) rfl (fun ls hl => ?_)
          refine lv_iinc (v := x5 + 1) (lv' := [(5, .int (x5 + 1)), (4, .int ((y1 + y0) + 1)), (0, .ref mo), (2, .int x2), (3, .int x3)]) hx hb dX7_check_177 hl (k := 4) rfl (by rfl) (by decide) rfl (fun ls hl => ?_)
          refine lv_goto (tgt := 79) hx hb dX7_check_180 (by decide) ?_
          exact hK79 x2 x3 ((y1 + y0) + 1) (x5 + 1) mWg mNow mAsd mLea mLat mBst mRsk mStk mFct h _ _ hP hD hS ls (lv_sub hl [2, 3, 4, 1, 0] rfl)
  have J79 : ∀ (n : Nat) (x2 : Int32) (x3 : Int32) (x4 : Int32) (x5 : Int32) (mWg : Int32) (mNow : Nat → Int32) (mAsd : Nat → Int32) (mLea : Nat → Int32) (mLat : Nat → Int32) (mBst : Nat → Int32) (mRsk : Nat → Int32) (mStk : Nat → Int32) (mFct : Nat → Int32), lp_X7_check_79 mTel Q n x2 x3 x4 x5 mWg mNow mAsd mLea mLat mBst mRsk mStk mFct → ∀ (H : Heap) (locs : List Loc), va_P E.1 vwCl (rw_24 E mo mn mi ma ml mt mb mr mp mk mq mc mw mz ms mf mu mv mx mh mA mB mC mM mT mHI mFC mLC mCg mTp mNx mFr mTk mVa mEn mKe mCs mAt mHd mWg mNow mImg mAsd mLea mLat mBst mRsk mTap mKys mKat mCod mWts mTes mStk mFct mSor mSiz mCel mHol mHoA mHoB mHoC mMov mTel) H → va_D A (rw_24 E mo mn mi ma ml mt mb mr mp mk mq mc mw mz ms mf mu mv mx mh mA mB mC mM mT mHI mFC mLC mCg mTp mNx mFr mTk mVa mEn mKe mCs mAt mHd mWg mNow mImg mAsd mLea mLat mBst mRsk mTap mKys mKat mCod mWts mTes mStk mFct mSor mSiz mCel mHol mHoA mHoB mHoC mMov mTel) → va_S A s.heap H locs → ∀ ls : Array Slot, lv_has ls 6 [(0, .ref mo), (2, .int x2), (3, .int x3), (4, .int x4), (5, .int x5)] → W p l e ({ frames := 5, cells := 0, slots := 0, locals := 120 } : Room) s m args below meth c H locs 0 0 QQ (F0 m 79 ls []) := by
    intro n
    induction n with
    | zero =>
      intro x2 x3 x4 x5 mWg mNow mAsd mLea mLat mBst mRsk mStk mFct h
      exact False.elim h
    | succ n ih =>
      intro x2 x3 x4 x5 mWg mNow mAsd mLea mLat mBst mRsk mStk mFct h H locs hP hD hS ls hl
      have h : lp_X7_check_79F mTel Q (lp_X7_check_79 mTel Q n) x2 x3 x4 x5 mWg mNow mAsd mLea mLat mBst mRsk mStk mFct := h
      unfold lp_X7_check_79F at h
      refine lv_iconst (v := 2) hx hb dX7_check_79 (by decide) ?_
      refine lv_iload hx hb dX7_check_80 (lv_at hl 4 rfl) ?_
      refine lv_imul hx hb dX7_check_82 ?_
      refine lv_iload_n hx hb dX7_check_83 rfl (lv_at hl 2 rfl) ?_
      refine lv_icmp_ge (tgt := 183) hx hb dX7_check_84 (by decide) (fun c_8 => ?_) (fun c_8 => ?_)
      · have h := h.1 c_8
        exact J183 x2 x3 x4 mWg mNow mAsd mLea mLat mBst mRsk mStk mFct h _ _ hP hD hS ls (lv_sub hl [0, 1, 2, 3] rfl)
      · have h := h.2 c_8
        refine lv_iload hx hb dX7_check_87 (lv_at hl 3 rfl) ?_
        refine lv_iconst (v := 2) hx hb dX7_check_89 (by decide) ?_
        refine lv_iload hx hb dX7_check_90 (lv_at hl 4 rfl) ?_
        refine lv_imul hx hb dX7_check_92 ?_
        refine lv_icmp_ne (tgt := 183) hx hb dX7_check_93 (by decide) (fun c_9 => ?_) (fun c_9 => ?_)
        · have h := h.1 c_9
          exact J183 x2 x3 x4 mWg mNow mAsd mLea mLat mBst mRsk mStk mFct h _ _ hP hD hS ls (lv_sub hl [0, 1, 2, 3] rfl)
        · have h := h.2 c_9
          refine lv_aload_n hx hb dX7_check_96 rfl (lv_at hl 0 rfl) ?_
          have hPc := hP
          have hDc := hD
          have hFc := rc_freeI hD hS hA
          refine va_callv (va_runV (As := []) (rest := []) ⟨hx, hb, hml, hown, hts⟩ (c_X7_bestMinute l E mo mn mi ma ml mt mb mr mp mk mq mc mw mz ms mf mu mv mx mh mA mB mC mM mT H.size mHI mFC mLC mCg mTp mNx mFr mTk mVa mEn mKe mCs mAt mHd mWg mNow mImg mAsd mLea mLat mBst mRsk mTap mKys mKat mCod mWts mTes mStk mFct mSor mSiz mCel mHol mHoA mHoB mHoC mMov mTel _ h) (cwV 0 hts gX7_check_X7_bestMinute rfl rfl rfl (by decide +kernel) ⟨Nat.le_of_ble_eq_true rfl, Nat.le_of_ble_eq_true rfl⟩) ⟨fun a U g mk q => ⟨q.1, q.2.blind⟩, va_recv hK hPc (ci := 7) (q0 := 0) rfl rfl, fun U hU hW => ⟨rfl, by rw [hU], by rw [hU]; exact hPc, hE.call hS hFc hW hU, hDc.weaken (fun _ _ _ _ => trivial)⟩⟩ rfl rfl hl.1 rfl (lv_room (Nat.le_of_ble_eq_true rfl)) dX7_check_97 ⟨Nat.zero_le _, Nat.zero_le _⟩) hS (fun q _ h => hFc q h) hFc (fun u t H1 locs ht hvm h hB hz1 hk1 hS => ?_)
          obtain ⟨w_10, w_11, w_12, w_13, w_14, w_15, w_16⟩ := u
          obtain ⟨hP1, hD1⟩ := hB
          rw [ht] at hP1
          have hP := hP1
          have hD := hD1.weaken (fun _ _ _ h => hFc _ h)
          generalize H1 = H at hP hS ⊢
          have hP : va_P E.1 vwCl (rw_24 E mo mn mi ma ml mt mb mr mp mk mq mc mw mz ms mf mu mv mx mh mA mB mC mM mT mHI mFC mLC mCg mTp mNx mFr mTk mVa mEn mKe mCs mAt mHd mWg w_10 mImg mAsd w_11 w_12 w_13 w_14 mTap mKys mKat mCod mWts mTes w_15 w_16 mSor mSiz mCel mHol mHoA mHoB mHoC mMov mTel) H := hP
          have hD : va_D A (rw_24 E mo mn mi ma ml mt mb mr mp mk mq mc mw mz ms mf mu mv mx mh mA mB mC mM mT mHI mFC mLC mCg mTp mNx mFr mTk mVa mEn mKe mCs mAt mHd mWg w_10 mImg mAsd w_11 w_12 w_13 w_14 mTap mKys mKat mCod mWts mTes w_15 w_16 mSor mSiz mCel mHol mHoA mHoB mHoC mMov mTel) := hD
          refine lv_iload hx hb dX7_check_100 (lv_at hl 3 rfl) ?_
          refine lv_iload hx hb dX7_check_102 (lv_at hl 3 rfl) ?_
          refine lv_iload_n hx hb dX7_check_104 rfl (lv_at hl 1 rfl) ?_
          refine lv_icmp_ge (tgt := 129) hx hb dX7_check_105 (by decide) (fun c_17 => ?_) (fun c_17 => ?_)
          · have h := h.1 c_17
            refine lv_iconst (v := 0) hx hb dX7_check_129 (by decide) ?_
            exact J130 _ (fun v0 v1 v2 v3 v4 v5 v6 v7 v8 v9 v10 v11 v12 h => ih v0 v1 v2 v3 v4 v5 v6 v7 v8 v9 v10 v11 v12 h) x2 x3 x5 0 x4 mWg w_10 mAsd w_11 w_12 w_13 w_14 w_15 w_16 h _ _ hP hD hS ls (lv_sub hl [0, 1, 2, 4] rfl)
          · have h := h.2 c_17
            refine lv_aload_n hx hb dX7_check_108 rfl (lv_at hl 0 rfl) ?_
            refine va_get (D := E.1) (ci := 7) (v := .ref mT) (C := RX7) (T := TX7) (N := 39) hx hb hts n_X7 hown hK hP 0 rfl rfl 37 (by decide) k_81 (fun _ h9 => h9) rfl dX7_check_109 ?_
            refine lv_iload hx hb dX7_check_112 (lv_at hl 3 rfl) ?_
            obtain ⟨o_18, h⟩ := h
            refine rc_iald hx hb hK hP 24 0 rfl rfl x4.toNatClampNeg rfl o_18 dX7_check_114 ?_
            refine lv_aload_n hx hb dX7_check_115 rfl (lv_at hl 0 rfl) ?_
            refine va_get (D := E.1) (ci := 7) (v := .ref mn) (C := RX7) (T := TX7) (N := 39) hx hb hts n_X7 hown hK hP 0 rfl rfl 0 (by decide) k_9 (fun _ h9 => h9) rfl dX7_check_116 ?_
            refine lv_bipush (v := 6) hx hb dX7_check_119 (by decide) ?_
            refine rc_iald hx hb hK hP 1 0 rfl rfl 6 (by decide) (by unfold vp_in; decide) dX7_check_121 ?_
            refine lv_icmp_ne (tgt := 129) hx hb dX7_check_122 (by decide) (fun c_19 => ?_) (fun c_19 => ?_)
            · have h := h.1 c_19
              refine lv_iconst (v := 0) hx hb dX7_check_129 (by decide) ?_
              exact J130 _ (fun v0 v1 v2 v3 v4 v5 v6 v7 v8 v9 v10 v11 v12 h => ih v0 v1 v2 v3 v4 v5 v6 v7 v8 v9 v10 v11 v12 h) x2 x3 x5 0 x4 mWg w_10 mAsd w_11 w_12 w_13 w_14 w_15 w_16 h _ _ hP hD hS ls (lv_sub hl [0, 1, 2, 4] rfl)
            · have h := h.2 c_19
              refine lv_iconst (v := 1) hx hb dX7_check_125 (by decide) ?_
              refine lv_goto (tgt := 130) hx hb dX7_check_126 (by decide) ?_
              exact J130 _ (fun v0 v1 v2 v3 v4 v5 v6 v7 v8 v9 v10 v11 v12 h => ih v0 v1 v2 v3 v4 v5 v6 v7 v8 v9 v10 v11 v12 h) x2 x3 x5 1 x4 mWg w_10 mAsd w_11 w_12 w_13 w_14 w_15 w_16 h _ _ hP hD hS ls (lv_sub hl [0, 1, 2, 4] rfl)
  unfold wp_X7_check at h
  obtain ⟨H, hH⟩ : ∃ H, H = s.heap := ⟨_, rfl⟩
  obtain ⟨locs, hlocs⟩ : ∃ locs : List Loc, locs = [] := ⟨_, rfl⟩
  have hP : va_P E.1 vwCl (rw_24 E mo mn mi ma ml mt mb mr mp mk mq mc mw mz ms mf mu mv mx mh mA mB mC mM mT mHI mFC mLC mCg mTp mNx mFr mTk mVa mEn mKe mCs mAt mHd mWg mNow mImg mAsd mLea mLat mBst mRsk mTap mKys mKat mCod mWts mTes mStk mFct mSor mSiz mCel mHol mHoA mHoB mHoC mMov mTel) H := by rw [hH]; exact hP
  have hS : va_S A s.heap H locs := by rw [hH, hlocs]; exact hS
  suffices hgo : W p l e ({ frames := 5, cells := 0, slots := 0, locals := 120 } : Room) s m args below meth c H locs 0 0 QQ (F0 m 0 ls []) from by rw [hH, hlocs] at hgo; exact hgo
  refine lv_aload_n hx hb dX7_check_0 rfl (lv_at hl 0 rfl) ?_
  refine va_get (D := E.1) (ci := 7) (v := .int mWg) (C := RX7) (T := TX7) (N := 39) hx hb hts n_X7 hown hK hP 0 rfl rfl 38 (by decide) k_258 (fun _ h9 => h9) rfl dX7_check_1 ?_
  refine lv_istore_n (lv' := [(2, .int mWg), (0, .ref mo), (1, .int p1)]) hx hb dX7_check_4 rfl hl (by decide) rfl (fun ls hl => ?_)
  refine lv_aload_n hx hb dX7_check_5 rfl (lv_at hl 1 rfl) ?_
  refine lv_iconst (v := 0) hx hb dX7_check_6 (by decide) ?_
  refine va_put (D := E.1) (ci := 7) (v := .int 0) (ty := .int) (C := RX7) (T := TX7) (N := 39) hx hb hts n_X7 tyX7 tyX7_ok nmX7 hown hK hP hD hS 0 rfl rfl 38 (by decide) k_258 (fun _ h9 => h9) rfl (by decide +kernel) rfl rfl (Nat.le_of_ble_eq_true rfl) dX7_check_7 (fun H locs hP hD hS => ?_)
  have hP : va_P E.1 vwCl (rw_24 E mo mn mi ma ml mt mb mr mp mk mq mc mw mz ms mf mu mv mx mh mA mB mC mM mT mHI mFC mLC mCg mTp mNx mFr mTk mVa mEn mKe mCs mAt mHd 0 mNow mImg mAsd mLea mLat mBst mRsk mTap mKys mKat mCod mWts mTes mStk mFct mSor mSiz mCel mHol mHoA mHoB mHoC mMov mTel) H := hP
  have hD : va_D A (rw_24 E mo mn mi ma ml mt mb mr mp mk mq mc mw mz ms mf mu mv mx mh mA mB mC mM mT mHI mFC mLC mCg mTp mNx mFr mTk mVa mEn mKe mCs mAt mHd 0 mNow mImg mAsd mLea mLat mBst mRsk mTap mKys mKat mCod mWts mTes mStk mFct mSor mSiz mCel mHol mHoA mHoB mHoC mMov mTel) := hD
  refine lv_iload_n hx hb dX7_check_10 rfl (lv_at hl 2 rfl) ?_
  refine lv_iconst (v := 1) hx hb dX7_check_11 (by decide) ?_
  refine lv_bipush (v := 30) hx hb dX7_check_12 (by decide) ?_
  have hPc := hP.sub (ws' := []) [] rfl
  have hDc := hD.sub (ws' := []) [] (by decide) rfl
  have hFc := va_free (wc := []) hD hS hA [] rfl
  refine va_calli (va_runS (As := [.int p1, .int 1, .int 30]) (rest := []) ⟨hx, hb, hml, hown, hts⟩ (c_X7_in l E H.size p1 1 30 _ h) (va_cwS 3 hts gX7_check_X7_in rfl rfl rfl (by decide +kernel) ⟨Nat.le_of_ble_eq_true rfl, Nat.le_of_ble_eq_true rfl⟩) ⟨fun a U g mk q => ⟨q.1, q.2.blind⟩, fun U hU hW => ⟨rfl, by rw [hU], by rw [hU]; exact hPc, hE.call hS hFc hW hU, hDc.weaken (fun _ _ _ _ => trivial)⟩⟩ rfl rfl hl.1 rfl (lv_room (Nat.le_of_ble_eq_true rfl)) dX7_check_14 ⟨Nat.zero_le _, Nat.zero_le _⟩) hS (fun q _ h => hFc q h) hFc (fun r_20 u t H1 locs ht hvm h hB hz1 hk1 hS => ?_)
  obtain ⟨hP1, hD1⟩ := hB
  rw [ht] at hP1
  obtain ⟨hP, hD⟩ := rc_foc hP hD [] [none, none, none, none, none, none, none, none, none, none, none, none, none, none, none, none, none, none, none, none, none, none, none, none, none] (by decide) rfl hk1 hP1 rfl
  generalize H1 = H at hP hS ⊢
  have hP : va_P E.1 vwCl (rw_24 E mo mn mi ma ml mt mb mr mp mk mq mc mw mz ms mf mu mv mx mh mA mB mC mM mT mHI mFC mLC mCg mTp mNx mFr mTk mVa mEn mKe mCs mAt mHd 0 mNow mImg mAsd mLea mLat mBst mRsk mTap mKys mKat mCod mWts mTes mStk mFct mSor mSiz mCel mHol mHoA mHoB mHoC mMov mTel) H := hP
  have hD : va_D A (rw_24 E mo mn mi ma ml mt mb mr mp mk mq mc mw mz ms mf mu mv mx mh mA mB mC mM mT mHI mFC mLC mCg mTp mNx mFr mTk mVa mEn mKe mCs mAt mHd 0 mNow mImg mAsd mLea mLat mBst mRsk mTap mKys mKat mCod mWts mTes mStk mFct mSor mSiz mCel mHol mHoA mHoB mHoC mMov mTel) := hD
  refine lv_if_ne (tgt := 23) hx hb dX7_check_17 (by decide) (fun c_21 => ?_) (fun c_21 => ?_)
  · have h := h.1 c_21
    refine lv_aload_n hx hb dX7_check_23 rfl (lv_at hl 1 rfl) ?_
    refine va_get (D := E.1) (ci := 7) (v := .int mHI) (C := RX7) (T := TX7) (N := 39) hx hb hts n_X7 hown hK hP 0 rfl rfl 3 (by decide) k_261 (fun _ h9 => h9) rfl dX7_check_24 ?_
    refine lv_if_ne (tgt := 33) hx hb dX7_check_27 (by decide) (fun c_22 => ?_) (fun c_22 => ?_)
    · have h := h.1 c_22
      refine lv_aload_n hx hb dX7_check_33 rfl (lv_at hl 1 rfl) ?_
      refine va_get (D := E.1) (ci := 7) (v := .ref mn) (C := RX7) (T := TX7) (N := 39) hx hb hts n_X7 hown hK hP 0 rfl rfl 0 (by decide) k_9 (fun _ h9 => h9) rfl dX7_check_34 ?_
      refine lv_aload_n hx hb dX7_check_37 rfl (lv_at hl 1 rfl) ?_
      refine va_get (D := E.1) (ci := 7) (v := .ref ma) (C := RX7) (T := TX7) (N := 39) hx hb hts n_X7 hown hK hP 0 rfl rfl 2 (by decide) k_16 (fun _ h9 => h9) rfl dX7_check_38 ?_
      have hPc := hP.sub (ws' := (rw_23 E mn ma mNow mAsd)) [1, 3] rfl
      have hDc := hD.sub (ws' := (rw_23 E mn ma mNow mAsd)) [1, 3] (by decide) rfl
      have hFc := va_free (wc := (rw_23 E mn ma mNow mAsd)) hD hS hA [1, 3] rfl
      refine va_callv (va_runS (As := [.ref mn, .ref ma]) (rest := []) ⟨hx, hb, hml, hown, hts⟩ (c_X7_copyAll l E mn ma H.size mNow mAsd _ h) (va_cwS 2 hts gX7_check_X7_copyAll rfl rfl rfl (by decide +kernel) ⟨Nat.le_of_ble_eq_true rfl, Nat.le_of_ble_eq_true rfl⟩) ⟨fun a U g mk q => ⟨q.1, q.2.blind⟩, fun U hU hW => ⟨rfl, by rw [hU], by rw [hU]; exact hPc, hE.call hS hFc hW hU, hDc.weaken (fun _ _ _ _ => trivial)⟩⟩ rfl rfl hl.1 rfl (lv_room (Nat.le_of_ble_eq_true rfl)) dX7_check_41 ⟨Nat.zero_le _, Nat.zero_le _⟩) hS (fun q _ h => hFc q h) hFc (fun u t H1 locs ht hvm h hB hz1 hk1 hS => ?_)
      obtain ⟨w_23, rfl⟩ : ∃ z, z = u := ⟨_, rfl⟩
      obtain ⟨hP1, hD1⟩ := hB
      rw [ht] at hP1
      obtain ⟨hP, hD⟩ := rc_foc hP hD [1, 3] [none, some 0, none, some 1, none, none, none, none, none, none, none, none, none, none, none, none, none, none, none, none, none, none, none, none, none] (by decide) rfl hk1 hP1 rfl
      generalize H1 = H at hP hS ⊢
      have hP : va_P E.1 vwCl (rw_24 E mo mn mi ma ml mt mb mr mp mk mq mc mw mz ms mf mu mv mx mh mA mB mC mM mT mHI mFC mLC mCg mTp mNx mFr mTk mVa mEn mKe mCs mAt mHd 0 mNow mImg w_23 mLea mLat mBst mRsk mTap mKys mKat mCod mWts mTes mStk mFct mSor mSiz mCel mHol mHoA mHoB mHoC mMov mTel) H := hP
      have hD : va_D A (rw_24 E mo mn mi ma ml mt mb mr mp mk mq mc mw mz ms mf mu mv mx mh mA mB mC mM mT mHI mFC mLC mCg mTp mNx mFr mTk mVa mEn mKe mCs mAt mHd 0 mNow mImg w_23 mLea mLat mBst mRsk mTap mKys mKat mCod mWts mTes mStk mFct mSor mSiz mCel mHol mHoA mHoB mHoC mMov mTel) := hD
      refine lv_aload_n hx hb dX7_check_44 rfl (lv_at hl 1 rfl) ?_
      refine va_get (D := E.1) (ci := 7) (v := .ref mi) (C := RX7) (T := TX7) (N := 39) hx hb hts n_X7 hown hK hP 0 rfl rfl 1 (by decide) k_13 (fun _ h9 => h9) rfl dX7_check_45 ?_
      refine lv_aload_n hx hb dX7_check_48 rfl (lv_at hl 1 rfl) ?_
      refine va_get (D := E.1) (ci := 7) (v := .ref mn) (C := RX7) (T := TX7) (N := 39) hx hb hts n_X7 hown hK hP 0 rfl rfl 0 (by decide) k_9 (fun _ h9 => h9) rfl dX7_check_49 ?_
      have hPc := hP.sub (ws' := (rw_23 E mi mn mImg mNow)) [2, 1] rfl
      have hDc := hD.sub (ws' := (rw_23 E mi mn mImg mNow)) [2, 1] (by decide) rfl
      have hFc := va_free (wc := (rw_23 E mi mn mImg mNow)) hD hS hA [2, 1] rfl
      refine va_callv (va_runS (As := [.ref mi, .ref mn]) (rest := []) ⟨hx, hb, hml, hown, hts⟩ (c_X7_copyAll l E mi mn H.size mImg mNow _ h) (va_cwS 2 hts gX7_check_X7_copyAll rfl rfl rfl (by decide +kernel) ⟨Nat.le_of_ble_eq_true rfl, Nat.le_of_ble_eq_true rfl⟩) ⟨fun a U g mk q => ⟨q.1, q.2.blind⟩, fun U hU hW => ⟨rfl, by rw [hU], by rw [hU]; exact hPc, hE.call hS hFc hW hU, hDc.weaken (fun _ _ _ _ => trivial)⟩⟩ rfl rfl hl.1 rfl (lv_room (Nat.le_of_ble_eq_true rfl)) dX7_check_52 ⟨Nat.zero_le _, Nat.zero_le _⟩) hS (fun q _ h => hFc q h) hFc (fun u t H1 locs ht hvm h hB hz1 hk1 hS => ?_)
      obtain ⟨w_24, rfl⟩ : ∃ z, z = u := ⟨_, rfl⟩
      obtain ⟨hP1, hD1⟩ := hB
      rw [ht] at hP1
      obtain ⟨hP, hD⟩ := rc_foc hP hD [2, 1] [none, some 1, some 0, none, none, none, none, none, none, none, none, none, none, none, none, none, none, none, none, none, none, none, none, none, none] (by decide) rfl hk1 hP1 rfl
      generalize H1 = H at hP hS ⊢
      have hP : va_P E.1 vwCl (rw_24 E mo mn mi ma ml mt mb mr mp mk mq mc mw mz ms mf mu mv mx mh mA mB mC mM mT mHI mFC mLC mCg mTp mNx mFr mTk mVa mEn mKe mCs mAt mHd 0 w_24 mImg w_23 mLea mLat mBst mRsk mTap mKys mKat mCod mWts mTes mStk mFct mSor mSiz mCel mHol mHoA mHoB mHoC mMov mTel) H := hP
      have hD : va_D A (rw_24 E mo mn mi ma ml mt mb mr mp mk mq mc mw mz ms mf mu mv mx mh mA mB mC mM mT mHI mFC mLC mCg mTp mNx mFr mTk mVa mEn mKe mCs mAt mHd 0 w_24 mImg w_23 mLea mLat mBst mRsk mTap mKys mKat mCod mWts mTes mStk mFct mSor mSiz mCel mHol mHoA mHoB mHoC mMov mTel) := hD
      refine lv_iconst (v := 2) hx hb dX7_check_55 (by decide) ?_
      refine lv_sipush (v := 9999) hx hb dX7_check_56 (by decide) ?_
      refine lv_aload_n hx hb dX7_check_59 rfl (lv_at hl 1 rfl) ?_
      refine va_get (D := E.1) (ci := 7) (v := .ref mn) (C := RX7) (T := TX7) (N := 39) hx hb hts n_X7 hown hK hP 0 rfl rfl 0 (by decide) k_9 (fun _ h9 => h9) rfl dX7_check_60 ?_
      refine lv_iconst (v := 3) hx hb dX7_check_63 (by decide) ?_
      refine rc_iald hx hb hK hP 1 0 rfl rfl 3 (by decide) (by unfold vp_in; decide) dX7_check_64 ?_
      refine lv_isub hx hb dX7_check_65 ?_
      refine lv_iconst (v := 0) hx hb dX7_check_66 (by decide) ?_
      refine lv_iload_n hx hb dX7_check_67 rfl (lv_at hl 2 rfl) ?_
      have hPc := hP.sub (ws' := []) [] rfl
      have hDc := hD.sub (ws' := []) [] (by decide) rfl
      have hFc := va_free (wc := []) hD hS hA [] rfl
      refine va_calli (va_runS (As := [.int (9999 - (w_24 3)), .int 0, .int p1]) (rest := [.int 2]) ⟨hx, hb, hml, hown, hts⟩ (c_X7_within l E H.size (9999 - (w_24 3)) 0 p1 _ h) (va_cwS 3 hts gX7_check_X7_within rfl rfl rfl (by decide +kernel) ⟨Nat.le_of_ble_eq_true rfl, Nat.le_of_ble_eq_true rfl⟩) ⟨fun a U g mk q => ⟨q.1, q.2.blind⟩, fun U hU hW => ⟨rfl, by rw [hU], by rw [hU]; exact hPc, hE.call hS hFc hW hU, hDc.weaken (fun _ _ _ _ => trivial)⟩⟩ rfl rfl hl.1 rfl (lv_room (Nat.le_of_ble_eq_true rfl)) dX7_check_68 ⟨Nat.zero_le _, Nat.zero_le _⟩) hS (fun q _ h => hFc q h) hFc (fun r_25 u t H1 locs ht hvm h hB hz1 hk1 hS => ?_)
      obtain ⟨hP1, hD1⟩ := hB
      rw [ht] at hP1
      obtain ⟨hP, hD⟩ := rc_foc hP hD [] [none, none, none, none, none, none, none, none, none, none, none, none, none, none, none, none, none, none, none, none, none, none, none, none, none] (by decide) rfl hk1 hP1 rfl
      generalize H1 = H at hP hS ⊢
      have hP : va_P E.1 vwCl (rw_24 E mo mn mi ma ml mt mb mr mp mk mq mc mw mz ms mf mu mv mx mh mA mB mC mM mT mHI mFC mLC mCg mTp mNx mFr mTk mVa mEn mKe mCs mAt mHd 0 w_24 mImg w_23 mLea mLat mBst mRsk mTap mKys mKat mCod mWts mTes mStk mFct mSor mSiz mCel mHol mHoA mHoB mHoC mMov mTel) H := hP
      have hD : va_D A (rw_24 E mo mn mi ma ml mt mb mr mp mk mq mc mw mz ms mf mu mv mx mh mA mB mC mM mT mHI mFC mLC mCg mTp mNx mFr mTk mVa mEn mKe mCs mAt mHd 0 w_24 mImg w_23 mLea mLat mBst mRsk mTap mKys mKat mCod mWts mTes mStk mFct mSor mSiz mCel mHol mHoA mHoB mHoC mMov mTel) := hD
      refine lv_imul hx hb dX7_check_71 ?_
      refine lv_istore_n (lv' := [(3, .int (2 * r_25)), (2, .int mWg), (0, .ref mo), (1, .int p1)]) hx hb dX7_check_72 rfl hl (by decide) rfl (fun ls hl => ?_)
      refine lv_iconst (v := 0) hx hb dX7_check_73 (by decide) ?_
      refine lv_istore (lv' := [(4, .int 0), (3, .int (2 * r_25)), (2, .int mWg), (0, .ref mo), (1, .int p1)]) hx hb dX7_check_74 hl (by decide) rfl (fun ls hl => ?_)
      refine lv_iconst (v := 0) hx hb dX7_check_76 (by decide) ?_
      refine lv_istore (lv' := [(5, .int 0), (4, .int 0), (3, .int (2 * r_25)), (2, .int mWg), (0, .ref mo), (1, .int p1)]) hx hb dX7_check_77 hl (by decide) rfl (fun ls hl => ?_)
      obtain ⟨n, h⟩ := h
      exact J79 n mWg (2 * r_25) 0 0 0 w_24 w_23 mLea mLat mBst mRsk mStk mFct h _ _ hP hD hS ls (lv_sub hl [4, 3, 2, 1, 0] rfl)
    · have h := h.2 c_22
      refine lv_ldc hx hb hown k_147 dX7_check_30 ?_
      exact hret _ _ _ _ (-1000000002) (0, mNow, mAsd, mLea, mLat, mBst, mRsk, mStk, mFct) rfl h hP hD hS dX7_check_32
  · have h := h.2 c_21
    refine lv_ldc hx hb hown k_89 dX7_check_20 ?_
    exact hret _ _ _ _ (-1000000001) (0, mNow, mAsd, mLea, mLat, mBst, mRsk, mStk, mFct) rfl h hP hD hS dX7_check_22
def wp_X7_keep (mNow : Nat → Int32) (mImg : Nat → Int32) (Q : Int32 → Int32 → (Nat → Int32) → Prop) : Prop :=
  wp_X7_copyAll mNow mImg (fun (w_1 : Nat → Int32) => Q (mNow 1) 1 w_1)
set_option maxHeartbeats 4000000 in
set_option maxRecDepth 100000 in
theorem c_X7_keep (l : Launch) (E : gE) (mo mn mi ma ml mt mb mr mp mk mq mc mw mz ms mf mu mv mx mh mA mB mC mM mT : Nat) (sz : Nat) (mHI : Int32) (mFC : Int32) (mLC : Int32) (mCg : Int32) (mTp : Int32) (mNx : Int32) (mFr : Int32) (mTk : Int32) (mVa : Int32) (mEn : Int32) (mKe : Int32) (mCs : Int32) (mAt : Int32) (mHd : Int32) (mWg : Int32) (mNow : Nat → Int32) (mImg : Nat → Int32) (mAsd : Nat → Int32) (mLea : Nat → Int32) (mLat : Nat → Int32) (mBst : Nat → Int32) (mRsk : Nat → Int32) (mTap : Nat → Int32) (mKys : Nat → Int32) (mKat : Nat → Int32) (mCod : Nat → Int32) (mWts : Nat → Int32) (mTes : Nat → Int32) (mStk : Nat → Int32) (mFct : Nat → Int32) (mSor : Nat → Int32) (mSiz : Nat → Int32) (mCel : Nat → Int32) (mHol : Nat → Int32) (mHoA : Nat → Int32) (mHoB : Nat → Int32) (mHoC : Nat → Int32) (mMov : Nat → Int32) (mTel : Nat → Int32)   (Q : Int32 → Int32 → (Nat → Int32) → Prop) (h : wp_X7_keep mNow mImg Q) : Met l yX7_keep wsX7_keep ({ frames := 1, cells := 0, slots := 0, locals := 22 } : Room) (va_Pc [.ref mo] (rc_B E (rw_24 E mo mn mi ma ml mt mb mr mp mk mq mc mw mz ms mf mu mv mx mh mA mB mC mM mT mHI mFC mLC mCg mTp mNx mFr mTk mVa mEn mKe mCs mAt mHd mWg mNow mImg mAsd mLea mLat mBst mRsk mTap mKys mKat mCod mWts mTes mStk mFct mSor mSiz mCel mHol mHoA mHoB mHoC mMov mTel) sz)) (va_Qi (S := Int32 × (Nat → Int32)) (fun (r : Int32) (u : Int32 × (Nat → Int32)) => Q r u.1 u.2) (fun u t => rc_C E (va_A (rw_24 E mo mn mi ma ml mt mb mr mp mk mq mc mw mz ms mf mu mv mx mh mA mB mC mM mT mHI mFC mLC mCg mTp mNx mFr mTk mVa mEn mKe mCs mAt mHd mWg mNow mImg mAsd mLea mLat mBst mRsk mTap mKys mKat mCod mWts mTes mStk mFct mSor mSiz mCel mHol mHoA mHoB mHoC mMov mTel) sz) (rw_24 E mo mn mi ma ml mt mb mr mp mk mq mc mw mz ms mf mu mv mx mh mA mB mC mM mT u.1 mFC mLC mCg mTp mNx mFr mTk mVa mEn mKe mCs mAt mHd mWg mNow u.2 mAsd mLea mLat mBst mRsk mTap mKys mKat mCod mWts mTes mStk mFct mSor mSiz mCel mHol mHoA mHoB mHoC mMov mTel) t) (va_A (rw_24 E mo mn mi ma ml mt mb mr mp mk mq mc mw mz ms mf mu mv mx mh mA mB mC mM mT mHI mFC mLC mCg mTp mNx mFr mTk mVa mEn mKe mCs mAt mHd mWg mNow mImg mAsd mLea mLat mBst mRsk mTap mKys mKat mCod mWts mTes mStk mFct mSor mSiz mCel mHol mHoA mHoB mHoC mMov mTel) sz)) 0 0 (va_A (rw_24 E mo mn mi ma ml mt mb mr mp mk mq mc mw mz ms mf mu mv mx mh mA mB mC mM mT mHI mFC mLC mCg mTp mNx mFr mTk mVa mEn mKe mCs mAt mHd mWg mNow mImg mAsd mLea mLat mBst mRsk mTap mKys mKat mCod mWts mTes mStk mFct mSor mSiz mCel mHol mHoA mHoB mHoC mMov mTel) sz) := by
  refine rc_enterI (cc := cX7_keep) (maxL := 1) (by decide) rfl (Nat.le_of_ble_eq_true rfl) ?_
  intro p e s m args below meth c QQ A hx hb hml hown hts hmn hE hP hD hA hret ls hl
  have hown : s.vm.findClass RX7 = some m.cls := hown
  have hK := hE.1
  have hS : va_S A s.heap s.heap [] := va_S.rf
  have hl : lv_has ls 1 [(0, .ref mo)] := hl
  have n_X7 : ∀ w ∈ wsX70, w ∈ wsX7_keep := fun _ h => List.mem_cons_of_mem _ (List.mem_append_right _ h)
  have k_9 := hts (.fieldLink RX7 9 "RidgeClapsModel" "now" "[I") (List.mem_of_getElem? (i := 1) rfl)
  have k_13 := hts (.fieldLink RX7 13 "RidgeClapsModel" "image" "[I") (List.mem_of_getElem? (i := 2) rfl)
  have k_261 := hts (.fieldLink RX7 261 "RidgeClapsModel" "hasImage" "Z") (List.mem_of_getElem? (i := 3) rfl)
  unfold wp_X7_keep at h
  obtain ⟨H, hH⟩ : ∃ H, H = s.heap := ⟨_, rfl⟩
  obtain ⟨locs, hlocs⟩ : ∃ locs : List Loc, locs = [] := ⟨_, rfl⟩
  have hP : va_P E.1 vwCl (rw_24 E mo mn mi ma ml mt mb mr mp mk mq mc mw mz ms mf mu mv mx mh mA mB mC mM mT mHI mFC mLC mCg mTp mNx mFr mTk mVa mEn mKe mCs mAt mHd mWg mNow mImg mAsd mLea mLat mBst mRsk mTap mKys mKat mCod mWts mTes mStk mFct mSor mSiz mCel mHol mHoA mHoB mHoC mMov mTel) H := by rw [hH]; exact hP
  have hS : va_S A s.heap H locs := by rw [hH, hlocs]; exact hS
  suffices hgo : W p l e ({ frames := 1, cells := 0, slots := 0, locals := 22 } : Room) s m args below meth c H locs 0 0 QQ (F0 m 0 ls []) from by rw [hH, hlocs] at hgo; exact hgo
  refine lv_aload_n hx hb dX7_keep_0 rfl (lv_at hl 0 rfl) ?_
  refine va_get (D := E.1) (ci := 7) (v := .ref mn) (C := RX7) (T := TX7) (N := 39) hx hb hts n_X7 hown hK hP 0 rfl rfl 0 (by decide) k_9 (fun _ h9 => h9) rfl dX7_keep_1 ?_
  refine lv_aload_n hx hb dX7_keep_4 rfl (lv_at hl 0 rfl) ?_
  refine va_get (D := E.1) (ci := 7) (v := .ref mi) (C := RX7) (T := TX7) (N := 39) hx hb hts n_X7 hown hK hP 0 rfl rfl 1 (by decide) k_13 (fun _ h9 => h9) rfl dX7_keep_5 ?_
  have hPc := hP.sub (ws' := (rw_23 E mn mi mNow mImg)) [1, 2] rfl
  have hDc := hD.sub (ws' := (rw_23 E mn mi mNow mImg)) [1, 2] (by decide) rfl
  have hFc := va_free (wc := (rw_23 E mn mi mNow mImg)) hD hS hA [1, 2] rfl
  refine va_callv (va_runS (As := [.ref mn, .ref mi]) (rest := []) ⟨hx, hb, hml, hown, hts⟩ (c_X7_copyAll l E mn mi H.size mNow mImg _ h) (va_cwS 2 hts gX7_keep_X7_copyAll rfl rfl rfl (by decide +kernel) ⟨Nat.le_of_ble_eq_true rfl, Nat.le_of_ble_eq_true rfl⟩) ⟨fun a U g mk q => ⟨q.1, q.2.blind⟩, fun U hU hW => ⟨rfl, by rw [hU], by rw [hU]; exact hPc, hE.call hS hFc hW hU, hDc.weaken (fun _ _ _ _ => trivial)⟩⟩ rfl rfl hl.1 rfl (lv_room (Nat.le_of_ble_eq_true rfl)) dX7_keep_8 ⟨Nat.zero_le _, Nat.zero_le _⟩) hS (fun q _ h => hFc q h) hFc (fun u t H1 locs ht hvm h hB hz1 hk1 hS => ?_)
  obtain ⟨w_1, rfl⟩ : ∃ z, z = u := ⟨_, rfl⟩
  obtain ⟨hP1, hD1⟩ := hB
  rw [ht] at hP1
  obtain ⟨hP, hD⟩ := rc_foc hP hD [1, 2] [none, some 0, some 1, none, none, none, none, none, none, none, none, none, none, none, none, none, none, none, none, none, none, none, none, none, none] (by decide) rfl hk1 hP1 rfl
  generalize H1 = H at hP hS ⊢
  have hP : va_P E.1 vwCl (rw_24 E mo mn mi ma ml mt mb mr mp mk mq mc mw mz ms mf mu mv mx mh mA mB mC mM mT mHI mFC mLC mCg mTp mNx mFr mTk mVa mEn mKe mCs mAt mHd mWg mNow w_1 mAsd mLea mLat mBst mRsk mTap mKys mKat mCod mWts mTes mStk mFct mSor mSiz mCel mHol mHoA mHoB mHoC mMov mTel) H := hP
  have hD : va_D A (rw_24 E mo mn mi ma ml mt mb mr mp mk mq mc mw mz ms mf mu mv mx mh mA mB mC mM mT mHI mFC mLC mCg mTp mNx mFr mTk mVa mEn mKe mCs mAt mHd mWg mNow w_1 mAsd mLea mLat mBst mRsk mTap mKys mKat mCod mWts mTes mStk mFct mSor mSiz mCel mHol mHoA mHoB mHoC mMov mTel) := hD
  refine lv_aload_n hx hb dX7_keep_11 rfl (lv_at hl 0 rfl) ?_
  refine lv_iconst (v := 1) hx hb dX7_keep_12 (by decide) ?_
  refine va_put (D := E.1) (ci := 7) (v := .int 1) (ty := .boolean) (C := RX7) (T := TX7) (N := 39) hx hb hts n_X7 tyX7 tyX7_ok nmX7 hown hK hP hD hS 0 rfl rfl 3 (by decide) k_261 (fun _ h9 => h9) rfl (by decide +kernel) (by decide) (by decide) (Nat.le_of_ble_eq_true rfl) dX7_keep_13 (fun H locs hP hD hS => ?_)
  have hP : va_P E.1 vwCl (rw_24 E mo mn mi ma ml mt mb mr mp mk mq mc mw mz ms mf mu mv mx mh mA mB mC mM mT 1 mFC mLC mCg mTp mNx mFr mTk mVa mEn mKe mCs mAt mHd mWg mNow w_1 mAsd mLea mLat mBst mRsk mTap mKys mKat mCod mWts mTes mStk mFct mSor mSiz mCel mHol mHoA mHoB mHoC mMov mTel) H := hP
  have hD : va_D A (rw_24 E mo mn mi ma ml mt mb mr mp mk mq mc mw mz ms mf mu mv mx mh mA mB mC mM mT 1 mFC mLC mCg mTp mNx mFr mTk mVa mEn mKe mCs mAt mHd mWg mNow w_1 mAsd mLea mLat mBst mRsk mTap mKys mKat mCod mWts mTes mStk mFct mSor mSiz mCel mHol mHoA mHoB mHoC mMov mTel) := hD
  refine lv_aload_n hx hb dX7_keep_16 rfl (lv_at hl 0 rfl) ?_
  refine va_get (D := E.1) (ci := 7) (v := .ref mn) (C := RX7) (T := TX7) (N := 39) hx hb hts n_X7 hown hK hP 0 rfl rfl 0 (by decide) k_9 (fun _ h9 => h9) rfl dX7_keep_17 ?_
  refine lv_iconst (v := 1) hx hb dX7_keep_20 (by decide) ?_
  refine rc_iald hx hb hK hP 1 0 rfl rfl 1 (by decide) (by unfold vp_in; decide) dX7_keep_21 ?_
  exact hret _ _ _ _ (mNow 1) (1, w_1) rfl h hP hD hS dX7_keep_22
def wp_X7_back (mHI : Int32) (mNow : Nat → Int32) (mImg : Nat → Int32) (Q : Int32 → (Nat → Int32) → Prop) : Prop :=
  ((¬ mHI = 0 → wp_X7_copyAll mImg mNow (fun (w_2 : Nat → Int32) => Q (w_2 1) w_2)) ∧ (mHI = 0 → Q (-1000000002) mNow))
set_option maxHeartbeats 4000000 in
set_option maxRecDepth 100000 in
theorem c_X7_back (l : Launch) (E : gE) (mo mn mi ma ml mt mb mr mp mk mq mc mw mz ms mf mu mv mx mh mA mB mC mM mT : Nat) (sz : Nat) (mHI : Int32) (mFC : Int32) (mLC : Int32) (mCg : Int32) (mTp : Int32) (mNx : Int32) (mFr : Int32) (mTk : Int32) (mVa : Int32) (mEn : Int32) (mKe : Int32) (mCs : Int32) (mAt : Int32) (mHd : Int32) (mWg : Int32) (mNow : Nat → Int32) (mImg : Nat → Int32) (mAsd : Nat → Int32) (mLea : Nat → Int32) (mLat : Nat → Int32) (mBst : Nat → Int32) (mRsk : Nat → Int32) (mTap : Nat → Int32) (mKys : Nat → Int32) (mKat : Nat → Int32) (mCod : Nat → Int32) (mWts : Nat → Int32) (mTes : Nat → Int32) (mStk : Nat → Int32) (mFct : Nat → Int32) (mSor : Nat → Int32) (mSiz : Nat → Int32) (mCel : Nat → Int32) (mHol : Nat → Int32) (mHoA : Nat → Int32) (mHoB : Nat → Int32) (mHoC : Nat → Int32) (mMov : Nat → Int32) (mTel : Nat → Int32)   (Q : Int32 → (Nat → Int32) → Prop) (h : wp_X7_back mHI mNow mImg Q) : Met l yX7_back wsX7_back ({ frames := 1, cells := 0, slots := 0, locals := 22 } : Room) (va_Pc [.ref mo] (rc_B E (rw_24 E mo mn mi ma ml mt mb mr mp mk mq mc mw mz ms mf mu mv mx mh mA mB mC mM mT mHI mFC mLC mCg mTp mNx mFr mTk mVa mEn mKe mCs mAt mHd mWg mNow mImg mAsd mLea mLat mBst mRsk mTap mKys mKat mCod mWts mTes mStk mFct mSor mSiz mCel mHol mHoA mHoB mHoC mMov mTel) sz)) (va_Qi (S := (Nat → Int32)) (fun (r : Int32) (u : (Nat → Int32)) => Q r u) (fun u t => rc_C E (va_A (rw_24 E mo mn mi ma ml mt mb mr mp mk mq mc mw mz ms mf mu mv mx mh mA mB mC mM mT mHI mFC mLC mCg mTp mNx mFr mTk mVa mEn mKe mCs mAt mHd mWg mNow mImg mAsd mLea mLat mBst mRsk mTap mKys mKat mCod mWts mTes mStk mFct mSor mSiz mCel mHol mHoA mHoB mHoC mMov mTel) sz) (rw_24 E mo mn mi ma ml mt mb mr mp mk mq mc mw mz ms mf mu mv mx mh mA mB mC mM mT mHI mFC mLC mCg mTp mNx mFr mTk mVa mEn mKe mCs mAt mHd mWg u mImg mAsd mLea mLat mBst mRsk mTap mKys mKat mCod mWts mTes mStk mFct mSor mSiz mCel mHol mHoA mHoB mHoC mMov mTel) t) (va_A (rw_24 E mo mn mi ma ml mt mb mr mp mk mq mc mw mz ms mf mu mv mx mh mA mB mC mM mT mHI mFC mLC mCg mTp mNx mFr mTk mVa mEn mKe mCs mAt mHd mWg mNow mImg mAsd mLea mLat mBst mRsk mTap mKys mKat mCod mWts mTes mStk mFct mSor mSiz mCel mHol mHoA mHoB mHoC mMov mTel) sz)) 0 0 (va_A (rw_24 E mo mn mi ma ml mt mb mr mp mk mq mc mw mz ms mf mu mv mx mh mA mB mC mM mT mHI mFC mLC mCg mTp mNx mFr mTk mVa mEn mKe mCs mAt mHd mWg mNow mImg mAsd mLea mLat mBst mRsk mTap mKys mKat mCod mWts mTes mStk mFct mSor mSiz mCel mHol mHoA mHoB mHoC mMov mTel) sz) := by
  refine rc_enterI (cc := cX7_back) (maxL := 1) (by decide) rfl (Nat.le_of_ble_eq_true rfl) ?_
  intro p e s m args below meth c QQ A hx hb hml hown hts hmn hE hP hD hA hret ls hl
  have hown : s.vm.findClass RX7 = some m.cls := hown
  have hK := hE.1
  have hS : va_S A s.heap s.heap [] := va_S.rf
  have hl : lv_has ls 1 [(0, .ref mo)] := hl
  have n_X7 : ∀ w ∈ wsX70, w ∈ wsX7_back := fun _ h => List.mem_cons_of_mem _ (List.mem_append_right _ h)
  have k_261 := hts (.fieldLink RX7 261 "RidgeClapsModel" "hasImage" "Z") (List.mem_of_getElem? (i := 1) rfl)
  have k_13 := hts (.fieldLink RX7 13 "RidgeClapsModel" "image" "[I") (List.mem_of_getElem? (i := 3) rfl)
  have k_9 := hts (.fieldLink RX7 9 "RidgeClapsModel" "now" "[I") (List.mem_of_getElem? (i := 4) rfl)
  have k_147 := hts (.constant RX7 147 (-1000000002)) (List.mem_of_getElem? (i := 2) rfl)
  unfold wp_X7_back at h
  obtain ⟨H, hH⟩ : ∃ H, H = s.heap := ⟨_, rfl⟩
  obtain ⟨locs, hlocs⟩ : ∃ locs : List Loc, locs = [] := ⟨_, rfl⟩
  have hP : va_P E.1 vwCl (rw_24 E mo mn mi ma ml mt mb mr mp mk mq mc mw mz ms mf mu mv mx mh mA mB mC mM mT mHI mFC mLC mCg mTp mNx mFr mTk mVa mEn mKe mCs mAt mHd mWg mNow mImg mAsd mLea mLat mBst mRsk mTap mKys mKat mCod mWts mTes mStk mFct mSor mSiz mCel mHol mHoA mHoB mHoC mMov mTel) H := by rw [hH]; exact hP
  have hS : va_S A s.heap H locs := by rw [hH, hlocs]; exact hS
  suffices hgo : W p l e ({ frames := 1, cells := 0, slots := 0, locals := 22 } : Room) s m args below meth c H locs 0 0 QQ (F0 m 0 ls []) from by rw [hH, hlocs] at hgo; exact hgo
  refine lv_aload_n hx hb dX7_back_0 rfl (lv_at hl 0 rfl) ?_
  refine va_get (D := E.1) (ci := 7) (v := .int mHI) (C := RX7) (T := TX7) (N := 39) hx hb hts n_X7 hown hK hP 0 rfl rfl 3 (by decide) k_261 (fun _ h9 => h9) rfl dX7_back_1 ?_
  refine lv_if_ne (tgt := 10) hx hb dX7_back_4 (by decide) (fun c_1 => ?_) (fun c_1 => ?_)
  · have h := h.1 c_1
    refine lv_aload_n hx hb dX7_back_10 rfl (lv_at hl 0 rfl) ?_
    refine va_get (D := E.1) (ci := 7) (v := .ref mi) (C := RX7) (T := TX7) (N := 39) hx hb hts n_X7 hown hK hP 0 rfl rfl 1 (by decide) k_13 (fun _ h9 => h9) rfl dX7_back_11 ?_
    refine lv_aload_n hx hb dX7_back_14 rfl (lv_at hl 0 rfl) ?_
    refine va_get (D := E.1) (ci := 7) (v := .ref mn) (C := RX7) (T := TX7) (N := 39) hx hb hts n_X7 hown hK hP 0 rfl rfl 0 (by decide) k_9 (fun _ h9 => h9) rfl dX7_back_15 ?_
    have hPc := hP.sub (ws' := (rw_23 E mi mn mImg mNow)) [2, 1] rfl
    have hDc := hD.sub (ws' := (rw_23 E mi mn mImg mNow)) [2, 1] (by decide) rfl
    have hFc := va_free (wc := (rw_23 E mi mn mImg mNow)) hD hS hA [2, 1] rfl
    refine va_callv (va_runS (As := [.ref mi, .ref mn]) (rest := []) ⟨hx, hb, hml, hown, hts⟩ (c_X7_copyAll l E mi mn H.size mImg mNow _ h) (va_cwS 2 hts gX7_back_X7_copyAll rfl rfl rfl (by decide +kernel) ⟨Nat.le_of_ble_eq_true rfl, Nat.le_of_ble_eq_true rfl⟩) ⟨fun a U g mk q => ⟨q.1, q.2.blind⟩, fun U hU hW => ⟨rfl, by rw [hU], by rw [hU]; exact hPc, hE.call hS hFc hW hU, hDc.weaken (fun _ _ _ _ => trivial)⟩⟩ rfl rfl hl.1 rfl (lv_room (Nat.le_of_ble_eq_true rfl)) dX7_back_18 ⟨Nat.zero_le _, Nat.zero_le _⟩) hS (fun q _ h => hFc q h) hFc (fun u t H1 locs ht hvm h hB hz1 hk1 hS => ?_)
    obtain ⟨w_2, rfl⟩ : ∃ z, z = u := ⟨_, rfl⟩
    obtain ⟨hP1, hD1⟩ := hB
    rw [ht] at hP1
    obtain ⟨hP, hD⟩ := rc_foc hP hD [2, 1] [none, some 1, some 0, none, none, none, none, none, none, none, none, none, none, none, none, none, none, none, none, none, none, none, none, none, none] (by decide) rfl hk1 hP1 rfl
    generalize H1 = H at hP hS ⊢
    have hP : va_P E.1 vwCl (rw_24 E mo mn mi ma ml mt mb mr mp mk mq mc mw mz ms mf mu mv mx mh mA mB mC mM mT mHI mFC mLC mCg mTp mNx mFr mTk mVa mEn mKe mCs mAt mHd mWg w_2 mImg mAsd mLea mLat mBst mRsk mTap mKys mKat mCod mWts mTes mStk mFct mSor mSiz mCel mHol mHoA mHoB mHoC mMov mTel) H := hP
    have hD : va_D A (rw_24 E mo mn mi ma ml mt mb mr mp mk mq mc mw mz ms mf mu mv mx mh mA mB mC mM mT mHI mFC mLC mCg mTp mNx mFr mTk mVa mEn mKe mCs mAt mHd mWg w_2 mImg mAsd mLea mLat mBst mRsk mTap mKys mKat mCod mWts mTes mStk mFct mSor mSiz mCel mHol mHoA mHoB mHoC mMov mTel) := hD
    refine lv_aload_n hx hb dX7_back_21 rfl (lv_at hl 0 rfl) ?_
    refine va_get (D := E.1) (ci := 7) (v := .ref mn) (C := RX7) (T := TX7) (N := 39) hx hb hts n_X7 hown hK hP 0 rfl rfl 0 (by decide) k_9 (fun _ h9 => h9) rfl dX7_back_22 ?_
    refine lv_iconst (v := 1) hx hb dX7_back_25 (by decide) ?_
    refine rc_iald hx hb hK hP 1 0 rfl rfl 1 (by decide) (by unfold vp_in; decide) dX7_back_26 ?_
    exact hret _ _ _ _ (w_2 1) (w_2) rfl h hP hD hS dX7_back_27
  · have h := h.2 c_1
    refine lv_ldc hx hb hown k_147 dX7_back_7 ?_
    exact hret _ _ _ _ (-1000000002) (mNow) rfl h hP hD hS dX7_back_9
def wp_X7_count (p1 : Int32) (mTp : Int32) (mWg : Int32) (mNow : Nat → Int32) (Q : Int32 → Prop) : Prop :=
  ((p1 = 0 → Q (mNow 1)) ∧ ((p1 = 1 → wp_X7_told0 (mNow 2) (fun (r_2 : Int32) => Q r_2)) ∧ ((p1 = 2 → (vp_in ((3 + p1) - 2) 1453 ∧ Q (mNow (((3 + p1) - 2).toNatClampNeg)))) ∧ ((p1 = 3 → (vp_in ((3 + p1) - 2) 1453 ∧ Q (mNow (((3 + p1) - 2).toNatClampNeg)))) ∧ ((p1 = 4 → (vp_in ((3 + p1) - 2) 1453 ∧ Q (mNow (((3 + p1) - 2).toNatClampNeg)))) ∧ ((p1 = 5 → (vp_in ((3 + p1) - 2) 1453 ∧ Q (mNow (((3 + p1) - 2).toNatClampNeg)))) ∧ ((p1 = 6 → (vp_in ((3 + p1) - 2) 1453 ∧ Q (mNow (((3 + p1) - 2).toNatClampNeg)))) ∧ ((p1 = 7 → Q (mNow 8)) ∧ ((p1 = 8 → Q mWg) ∧ ((p1 = 9 → Q mTp) ∧ ((p1 = 10 → Q (mNow 0)) ∧ (¬ p1 = 0 ∧ ¬ p1 = 1 ∧ ¬ p1 = 2 ∧ ¬ p1 = 3 ∧ ¬ p1 = 4 ∧ ¬ p1 = 5 ∧ ¬ p1 = 6 ∧ ¬ p1 = 7 ∧ ¬ p1 = 8 ∧ ¬ p1 = 9 ∧ ¬ p1 = 10 → Q (-1000000001)))))))))))))
set_option maxHeartbeats 4000000 in
set_option maxRecDepth 100000 in
theorem c_X7_count (l : Launch) (E : gE) (mo mn mi ma ml mt mb mr mp mk mq mc mw mz ms mf mu mv mx mh mA mB mC mM mT : Nat) (sz : Nat) (mHI : Int32) (mFC : Int32) (mLC : Int32) (mCg : Int32) (mTp : Int32) (mNx : Int32) (mFr : Int32) (mTk : Int32) (mVa : Int32) (mEn : Int32) (mKe : Int32) (mCs : Int32) (mAt : Int32) (mHd : Int32) (mWg : Int32) (mNow : Nat → Int32) (mImg : Nat → Int32) (mAsd : Nat → Int32) (mLea : Nat → Int32) (mLat : Nat → Int32) (mBst : Nat → Int32) (mRsk : Nat → Int32) (mTap : Nat → Int32) (mKys : Nat → Int32) (mKat : Nat → Int32) (mCod : Nat → Int32) (mWts : Nat → Int32) (mTes : Nat → Int32) (mStk : Nat → Int32) (mFct : Nat → Int32) (mSor : Nat → Int32) (mSiz : Nat → Int32) (mCel : Nat → Int32) (mHol : Nat → Int32) (mHoA : Nat → Int32) (mHoB : Nat → Int32) (mHoC : Nat → Int32) (mMov : Nat → Int32) (mTel : Nat → Int32) (p1 : Int32)  (Q : Int32 → Prop) (h : wp_X7_count p1 mTp mWg mNow Q) : Met l yX7_count wsX7_count ({ frames := 1, cells := 0, slots := 0, locals := 20 } : Room) (va_Pc [.ref mo, .int p1] (rc_B E (rw_24 E mo mn mi ma ml mt mb mr mp mk mq mc mw mz ms mf mu mv mx mh mA mB mC mM mT mHI mFC mLC mCg mTp mNx mFr mTk mVa mEn mKe mCs mAt mHd mWg mNow mImg mAsd mLea mLat mBst mRsk mTap mKys mKat mCod mWts mTes mStk mFct mSor mSiz mCel mHol mHoA mHoB mHoC mMov mTel) sz)) (va_Qi (S := Unit) (fun (r : Int32) (u : Unit) => Q r) (fun u t => rc_C E (va_A (rw_24 E mo mn mi ma ml mt mb mr mp mk mq mc mw mz ms mf mu mv mx mh mA mB mC mM mT mHI mFC mLC mCg mTp mNx mFr mTk mVa mEn mKe mCs mAt mHd mWg mNow mImg mAsd mLea mLat mBst mRsk mTap mKys mKat mCod mWts mTes mStk mFct mSor mSiz mCel mHol mHoA mHoB mHoC mMov mTel) sz) (rw_24 E mo mn mi ma ml mt mb mr mp mk mq mc mw mz ms mf mu mv mx mh mA mB mC mM mT mHI mFC mLC mCg mTp mNx mFr mTk mVa mEn mKe mCs mAt mHd mWg mNow mImg mAsd mLea mLat mBst mRsk mTap mKys mKat mCod mWts mTes mStk mFct mSor mSiz mCel mHol mHoA mHoB mHoC mMov mTel) t) (va_A (rw_24 E mo mn mi ma ml mt mb mr mp mk mq mc mw mz ms mf mu mv mx mh mA mB mC mM mT mHI mFC mLC mCg mTp mNx mFr mTk mVa mEn mKe mCs mAt mHd mWg mNow mImg mAsd mLea mLat mBst mRsk mTap mKys mKat mCod mWts mTes mStk mFct mSor mSiz mCel mHol mHoA mHoB mHoC mMov mTel) sz)) 0 0 (va_A (rw_24 E mo mn mi ma ml mt mb mr mp mk mq mc mw mz ms mf mu mv mx mh mA mB mC mM mT mHI mFC mLC mCg mTp mNx mFr mTk mVa mEn mKe mCs mAt mHd mWg mNow mImg mAsd mLea mLat mBst mRsk mTap mKys mKat mCod mWts mTes mStk mFct mSor mSiz mCel mHol mHoA mHoB mHoC mMov mTel) sz) := by
  refine rc_enterI (cc := cX7_count) (maxL := 2) (by decide) rfl (Nat.le_of_ble_eq_true rfl) ?_
  intro p e s m args below meth c QQ A hx hb hml hown hts hmn hE hP hD hA hret ls hl
  have hown : s.vm.findClass RX7 = some m.cls := hown
  have hK := hE.1
  have hS : va_S A s.heap s.heap [] := va_S.rf
  have hl : lv_has ls 2 [(0, .ref mo), (1, .int p1)] := hl
  have n_X7 : ∀ w ∈ wsX70, w ∈ wsX7_count := fun _ h => List.mem_cons_of_mem _ (List.mem_append_right _ h)
  have k_9 := hts (.fieldLink RX7 9 "RidgeClapsModel" "now" "[I") (List.mem_of_getElem? (i := 1) rfl)
  have k_258 := hts (.fieldLink RX7 258 "RidgeClapsModel" "waiting" "I") (List.mem_of_getElem? (i := 2) rfl)
  have k_184 := hts (.fieldLink RX7 184 "RidgeClapsModel" "taped" "I") (List.mem_of_getElem? (i := 3) rfl)
  have k_89 := hts (.constant RX7 89 (-1000000001)) (List.mem_of_getElem? (i := 4) rfl)
  unfold wp_X7_count at h
  obtain ⟨H, hH⟩ : ∃ H, H = s.heap := ⟨_, rfl⟩
  obtain ⟨locs, hlocs⟩ : ∃ locs : List Loc, locs = [] := ⟨_, rfl⟩
  have hP : va_P E.1 vwCl (rw_24 E mo mn mi ma ml mt mb mr mp mk mq mc mw mz ms mf mu mv mx mh mA mB mC mM mT mHI mFC mLC mCg mTp mNx mFr mTk mVa mEn mKe mCs mAt mHd mWg mNow mImg mAsd mLea mLat mBst mRsk mTap mKys mKat mCod mWts mTes mStk mFct mSor mSiz mCel mHol mHoA mHoB mHoC mMov mTel) H := by rw [hH]; exact hP
  have hS : va_S A s.heap H locs := by rw [hH, hlocs]; exact hS
  suffices hgo : W p l e ({ frames := 1, cells := 0, slots := 0, locals := 20 } : Room) s m args below meth c H locs 0 0 QQ (F0 m 0 ls []) from by rw [hH, hlocs] at hgo; exact hgo
  refine lv_iload_n hx hb dX7_count_0 rfl (lv_at hl 1 rfl) ?_
  by_cases c_1_0 : p1 = 0
  · have h := h.1 c_1_0
    refine lv_tableIn (tgt := 60) hx hb dX7_count_1 (by rw [c_1_0]; decide) (by rw [c_1_0]; decide) (by rw [c_1_0]; rfl) (by decide) ?_
    refine lv_aload_n hx hb dX7_count_60 rfl (lv_at hl 0 rfl) ?_
    refine va_get (D := E.1) (ci := 7) (v := .ref mn) (C := RX7) (T := TX7) (N := 39) hx hb hts n_X7 hown hK hP 0 rfl rfl 0 (by decide) k_9 (fun _ h9 => h9) rfl dX7_count_61 ?_
    refine lv_iconst (v := 1) hx hb dX7_count_64 (by decide) ?_
    refine rc_iald hx hb hK hP 1 0 rfl rfl 1 (by decide) (by unfold vp_in; decide) dX7_count_65 ?_
    exact hret _ _ _ _ (mNow 1) () rfl h hP hD hS dX7_count_66
  · by_cases c_1_1 : p1 = 1
    · have h := h.2.1 c_1_1
      refine lv_tableIn (tgt := 67) hx hb dX7_count_1 (by rw [c_1_1]; decide) (by rw [c_1_1]; decide) (by rw [c_1_1]; rfl) (by decide) ?_
      refine lv_aload_n hx hb dX7_count_67 rfl (lv_at hl 0 rfl) ?_
      refine va_get (D := E.1) (ci := 7) (v := .ref mn) (C := RX7) (T := TX7) (N := 39) hx hb hts n_X7 hown hK hP 0 rfl rfl 0 (by decide) k_9 (fun _ h9 => h9) rfl dX7_count_68 ?_
      refine lv_iconst (v := 2) hx hb dX7_count_71 (by decide) ?_
      refine rc_iald hx hb hK hP 1 0 rfl rfl 2 (by decide) (by unfold vp_in; decide) dX7_count_72 ?_
      have hPc := hP.sub (ws' := []) [] rfl
      have hDc := hD.sub (ws' := []) [] (by decide) rfl
      have hFc := va_free (wc := []) hD hS hA [] rfl
      refine va_calli (va_runS (As := [.int (mNow 2)]) (rest := []) ⟨hx, hb, hml, hown, hts⟩ (c_X7_told0 l E H.size (mNow 2) _ h) (va_cwS 1 hts gX7_count_X7_told0 rfl rfl rfl (by decide +kernel) ⟨Nat.le_of_ble_eq_true rfl, Nat.le_of_ble_eq_true rfl⟩) ⟨fun a U g mk q => ⟨q.1, q.2.blind⟩, fun U hU hW => ⟨rfl, by rw [hU], by rw [hU]; exact hPc, hE.call hS hFc hW hU, hDc.weaken (fun _ _ _ _ => trivial)⟩⟩ rfl rfl hl.1 rfl (lv_room (Nat.le_of_ble_eq_true rfl)) dX7_count_73 ⟨Nat.zero_le _, Nat.zero_le _⟩) hS (fun q _ h => hFc q h) hFc (fun r_2 u t H1 locs ht hvm h hB hz1 hk1 hS => ?_)
      obtain ⟨hP1, hD1⟩ := hB
      rw [ht] at hP1
      obtain ⟨hP, hD⟩ := rc_foc hP hD [] [none, none, none, none, none, none, none, none, none, none, none, none, none, none, none, none, none, none, none, none, none, none, none, none, none] (by decide) rfl hk1 hP1 rfl
      generalize H1 = H at hP hS ⊢
      have hP : va_P E.1 vwCl (rw_24 E mo mn mi ma ml mt mb mr mp mk mq mc mw mz ms mf mu mv mx mh mA mB mC mM mT mHI mFC mLC mCg mTp mNx mFr mTk mVa mEn mKe mCs mAt mHd mWg mNow mImg mAsd mLea mLat mBst mRsk mTap mKys mKat mCod mWts mTes mStk mFct mSor mSiz mCel mHol mHoA mHoB mHoC mMov mTel) H := hP
      have hD : va_D A (rw_24 E mo mn mi ma ml mt mb mr mp mk mq mc mw mz ms mf mu mv mx mh mA mB mC mM mT mHI mFC mLC mCg mTp mNx mFr mTk mVa mEn mKe mCs mAt mHd mWg mNow mImg mAsd mLea mLat mBst mRsk mTap mKys mKat mCod mWts mTes mStk mFct mSor mSiz mCel mHol mHoA mHoB mHoC mMov mTel) := hD
      exact hret _ _ _ _ r_2 () rfl h hP hD hS dX7_count_76
    · by_cases c_1_2 : p1 = 2
      · have h := h.2.2.1 c_1_2
        refine lv_tableIn (tgt := 77) hx hb dX7_count_1 (by rw [c_1_2]; decide) (by rw [c_1_2]; decide) (by rw [c_1_2]; rfl) (by decide) ?_
        refine lv_aload_n hx hb dX7_count_77 rfl (lv_at hl 0 rfl) ?_
        refine va_get (D := E.1) (ci := 7) (v := .ref mn) (C := RX7) (T := TX7) (N := 39) hx hb hts n_X7 hown hK hP 0 rfl rfl 0 (by decide) k_9 (fun _ h9 => h9) rfl dX7_count_78 ?_
        refine lv_iconst (v := 3) hx hb dX7_count_81 (by decide) ?_
        refine lv_iload_n hx hb dX7_count_82 rfl (lv_at hl 1 rfl) ?_
        refine lv_iadd hx hb dX7_count_83 ?_
        refine lv_iconst (v := 2) hx hb dX7_count_84 (by decide) ?_
        refine lv_isub hx hb dX7_count_85 ?_
        obtain ⟨o_3, h⟩ := h
        refine rc_iald hx hb hK hP 1 0 rfl rfl (((3 + p1) - 2).toNatClampNeg) rfl o_3 dX7_count_86 ?_
        exact hret _ _ _ _ (mNow (((3 + p1) - 2).toNatClampNeg)) () rfl h hP hD hS dX7_count_87
      · by_cases c_1_3 : p1 = 3
        · have h := h.2.2.2.1 c_1_3
          refine lv_tableIn (tgt := 77) hx hb dX7_count_1 (by rw [c_1_3]; decide) (by rw [c_1_3]; decide) (by rw [c_1_3]; rfl) (by decide) ?_
          refine lv_aload_n hx hb dX7_count_77 rfl (lv_at hl 0 rfl) ?_
          refine va_get (D := E.1) (ci := 7) (v := .ref mn) (C := RX7) (T := TX7) (N := 39) hx hb hts n_X7 hown hK hP 0 rfl rfl 0 (by decide) k_9 (fun _ h9 => h9) rfl dX7_count_78 ?_
          refine lv_iconst (v := 3) hx hb dX7_count_81 (by decide) ?_
          refine lv_iload_n hx hb dX7_count_82 rfl (lv_at hl 1 rfl) ?_
          refine lv_iadd hx hb dX7_count_83 ?_
          refine lv_iconst (v := 2) hx hb dX7_count_84 (by decide) ?_
          refine lv_isub hx hb dX7_count_85 ?_
          obtain ⟨o_4, h⟩ := h
          refine rc_iald hx hb hK hP 1 0 rfl rfl (((3 + p1) - 2).toNatClampNeg) rfl o_4 dX7_count_86 ?_
          exact hret _ _ _ _ (mNow (((3 + p1) - 2).toNatClampNeg)) () rfl h hP hD hS dX7_count_87
        · by_cases c_1_4 : p1 = 4
          · have h := h.2.2.2.2.1 c_1_4
            refine lv_tableIn (tgt := 77) hx hb dX7_count_1 (by rw [c_1_4]; decide) (by rw [c_1_4]; decide) (by rw [c_1_4]; rfl) (by decide) ?_
            refine lv_aload_n hx hb dX7_count_77 rfl (lv_at hl 0 rfl) ?_
            refine va_get (D := E.1) (ci := 7) (v := .ref mn) (C := RX7) (T := TX7) (N := 39) hx hb hts n_X7 hown hK hP 0 rfl rfl 0 (by decide) k_9 (fun _ h9 => h9) rfl dX7_count_78 ?_
            refine lv_iconst (v := 3) hx hb dX7_count_81 (by decide) ?_
            refine lv_iload_n hx hb dX7_count_82 rfl (lv_at hl 1 rfl) ?_
            refine lv_iadd hx hb dX7_count_83 ?_
            refine lv_iconst (v := 2) hx hb dX7_count_84 (by decide) ?_
            refine lv_isub hx hb dX7_count_85 ?_
            obtain ⟨o_5, h⟩ := h
            refine rc_iald hx hb hK hP 1 0 rfl rfl (((3 + p1) - 2).toNatClampNeg) rfl o_5 dX7_count_86 ?_
            exact hret _ _ _ _ (mNow (((3 + p1) - 2).toNatClampNeg)) () rfl h hP hD hS dX7_count_87
          · by_cases c_1_5 : p1 = 5
            · have h := h.2.2.2.2.2.1 c_1_5
              refine lv_tableIn (tgt := 77) hx hb dX7_count_1 (by rw [c_1_5]; decide) (by rw [c_1_5]; decide) (by rw [c_1_5]; rfl) (by decide) ?_
              refine lv_aload_n hx hb dX7_count_77 rfl (lv_at hl 0 rfl) ?_
              refine va_get (D := E.1) (ci := 7) (v := .ref mn) (C := RX7) (T := TX7) (N := 39) hx hb hts n_X7 hown hK hP 0 rfl rfl 0 (by decide) k_9 (fun _ h9 => h9) rfl dX7_count_78 ?_
              refine lv_iconst (v := 3) hx hb dX7_count_81 (by decide) ?_
              refine lv_iload_n hx hb dX7_count_82 rfl (lv_at hl 1 rfl) ?_
              refine lv_iadd hx hb dX7_count_83 ?_
              refine lv_iconst (v := 2) hx hb dX7_count_84 (by decide) ?_
              refine lv_isub hx hb dX7_count_85 ?_
              obtain ⟨o_6, h⟩ := h
              refine rc_iald hx hb hK hP 1 0 rfl rfl (((3 + p1) - 2).toNatClampNeg) rfl o_6 dX7_count_86 ?_
              exact hret _ _ _ _ (mNow (((3 + p1) - 2).toNatClampNeg)) () rfl h hP hD hS dX7_count_87
            · by_cases c_1_6 : p1 = 6
              · have h := h.2.2.2.2.2.2.1 c_1_6
                refine lv_tableIn (tgt := 77) hx hb dX7_count_1 (by rw [c_1_6]; decide) (by rw [c_1_6]; decide) (by rw [c_1_6]; rfl) (by decide) ?_
                refine lv_aload_n hx hb dX7_count_77 rfl (lv_at hl 0 rfl) ?_
                refine va_get (D := E.1) (ci := 7) (v := .ref mn) (C := RX7) (T := TX7) (N := 39) hx hb hts n_X7 hown hK hP 0 rfl rfl 0 (by decide) k_9 (fun _ h9 => h9) rfl dX7_count_78 ?_
                refine lv_iconst (v := 3) hx hb dX7_count_81 (by decide) ?_
                refine lv_iload_n hx hb dX7_count_82 rfl (lv_at hl 1 rfl) ?_
                refine lv_iadd hx hb dX7_count_83 ?_
                refine lv_iconst (v := 2) hx hb dX7_count_84 (by decide) ?_
                refine lv_isub hx hb dX7_count_85 ?_
                obtain ⟨o_7, h⟩ := h
                refine rc_iald hx hb hK hP 1 0 rfl rfl (((3 + p1) - 2).toNatClampNeg) rfl o_7 dX7_count_86 ?_
                exact hret _ _ _ _ (mNow (((3 + p1) - 2).toNatClampNeg)) () rfl h hP hD hS dX7_count_87
              · by_cases c_1_7 : p1 = 7
                · have h := h.2.2.2.2.2.2.2.1 c_1_7
                  refine lv_tableIn (tgt := 88) hx hb dX7_count_1 (by rw [c_1_7]; decide) (by rw [c_1_7]; decide) (by rw [c_1_7]; rfl) (by decide) ?_
                  refine lv_aload_n hx hb dX7_count_88 rfl (lv_at hl 0 rfl) ?_
                  refine va_get (D := E.1) (ci := 7) (v := .ref mn) (C := RX7) (T := TX7) (N := 39) hx hb hts n_X7 hown hK hP 0 rfl rfl 0 (by decide) k_9 (fun _ h9 => h9) rfl dX7_count_89 ?_
                  refine lv_bipush (v := 8) hx hb dX7_count_92 (by decide) ?_
                  refine rc_iald hx hb hK hP 1 0 rfl rfl 8 (by decide) (by unfold vp_in; decide) dX7_count_94 ?_
                  exact hret _ _ _ _ (mNow 8) () rfl h hP hD hS dX7_count_95
                · by_cases c_1_8 : p1 = 8
                  · have h := h.2.2.2.2.2.2.2.2.1 c_1_8
                    refine lv_tableIn (tgt := 96) hx hb dX7_count_1 (by rw [c_1_8]; decide) (by rw [c_1_8]; decide) (by rw [c_1_8]; rfl) (by decide) ?_
                    refine lv_aload_n hx hb dX7_count_96 rfl (lv_at hl 0 rfl) ?_
                    refine va_get (D := E.1) (ci := 7) (v := .int mWg) (C := RX7) (T := TX7) (N := 39) hx hb hts n_X7 hown hK hP 0 rfl rfl 38 (by decide) k_258 (fun _ h9 => h9) rfl dX7_count_97 ?_
                    exact hret _ _ _ _ mWg () rfl h hP hD hS dX7_count_100
                  · by_cases c_1_9 : p1 = 9
                    · have h := h.2.2.2.2.2.2.2.2.2.1 c_1_9
                      refine lv_tableIn (tgt := 101) hx hb dX7_count_1 (by rw [c_1_9]; decide) (by rw [c_1_9]; decide) (by rw [c_1_9]; rfl) (by decide) ?_
                      refine lv_aload_n hx hb dX7_count_101 rfl (lv_at hl 0 rfl) ?_
                      refine va_get (D := E.1) (ci := 7) (v := .int mTp) (C := RX7) (T := TX7) (N := 39) hx hb hts n_X7 hown hK hP 0 rfl rfl 12 (by decide) k_184 (fun _ h9 => h9) rfl dX7_count_102 ?_
                      exact hret _ _ _ _ mTp () rfl h hP hD hS dX7_count_105
                    · by_cases c_1_10 : p1 = 10
                      · have h := h.2.2.2.2.2.2.2.2.2.2.1 c_1_10
                        refine lv_tableIn (tgt := 106) hx hb dX7_count_1 (by rw [c_1_10]; decide) (by rw [c_1_10]; decide) (by rw [c_1_10]; rfl) (by decide) ?_
                        refine lv_aload_n hx hb dX7_count_106 rfl (lv_at hl 0 rfl) ?_
                        refine va_get (D := E.1) (ci := 7) (v := .ref mn) (C := RX7) (T := TX7) (N := 39) hx hb hts n_X7 hown hK hP 0 rfl rfl 0 (by decide) k_9 (fun _ h9 => h9) rfl dX7_count_107 ?_
                        refine lv_iconst (v := 0) hx hb dX7_count_110 (by decide) ?_
                        refine rc_iald hx hb hK hP 1 0 rfl rfl 0 (by decide) (by unfold vp_in; decide) dX7_count_111 ?_
                        exact hret _ _ _ _ (mNow 0) () rfl h hP hD hS dX7_count_112
                      · have h := h.2.2.2.2.2.2.2.2.2.2.2 ⟨c_1_0, c_1_1, c_1_2, c_1_3, c_1_4, c_1_5, c_1_6, c_1_7, c_1_8, c_1_9, c_1_10⟩
                        refine lv_tableOut (tgt := 113) hx hb dX7_count_1 (rc_swo (0) 11 (fun k hk => by match k, hk with | 0, _ => exact lv_neT c_1_0 (by decide) | 1, _ => exact lv_neT c_1_1 (by decide) | 2, _ => exact lv_neT c_1_2 (by decide) | 3, _ => exact lv_neT c_1_3 (by decide) | 4, _ => exact lv_neT c_1_4 (by decide) | 5, _ => exact lv_neT c_1_5 (by decide) | 6, _ => exact lv_neT c_1_6 (by decide) | 7, _ => exact lv_neT c_1_7 (by decide) | 8, _ => exact lv_neT c_1_8 (by decide) | 9, _ => exact lv_neT c_1_9 (by decide) | 10, _ => exact lv_neT c_1_10 (by decide))) (by decide) ?_
                        refine lv_ldc hx hb hown k_89 dX7_count_113 ?_
                        exact hret _ _ _ _ (-1000000001) () rfl h hP hD hS dX7_count_115
