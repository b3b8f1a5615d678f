set_option maxHeartbeats 4000000 in
set_option maxRecDepth 100000 in
theorem lw_c13 {p : Program} {l : Launch} {e : Env} {s : State} {m : MethodId} {below : List Frame} {meth : Method} {c : Code} {E : gE} {co : Nat} {u : Nat → Nat} {mo : Nat} {v : Nat → Nat} {b L : Nat} {xs : Nat → Int32} {x3 : Int32} {K S : Nat} (C0 : lw_At p s m meth c b L xs) (hE : rc_ev E (fun q : Nat => s.heap.size ≤ q) s s.heap) (i1 : vp_in (x3 + 1) L) (i2 : vp_in (x3 + 2) L) (i3 : vp_in (x3 + 3) L) (i4 : vp_in (x3 + 4) L) (i5 : vp_in (x3 + 5) L) (hKb : K + 2 ≤ 600000) (hSb : S + 99 ≤ 7302250) (kk : lw_go p l e s m below meth c E co u mo v b x3 (K + 2) (S + 99) 1354) : lw_go p l e s m below meth c E co u mo v b x3 K S 589 := by
  obtain ⟨hx, hb, hr, hml, hown, hts, hX, hbl, hlocks, hgv⟩ := id C0
  have hts := fun w hw => hts w (wsL_law_in w hw)
  have hown : s.vm.findClass RL = some m.cls := hown
  have hb : c.code = cL_law := hb
  have hA : ∀ q : Nat, s.heap.size ≤ q → (fun q : Nat => s.heap.size ≤ q) q := fun _ h => h
  have hbA : ¬ (fun q : Nat => s.heap.size ≤ q) b := Nat.not_le.mpr hbl
  have hK := hE.1
  intro cWs cKp rSz rTc rFa rPa rPy rMi rMe rSr rZ rKi rHe rDo rTx rLa rSk jSz jTc jFa jPa jPy jMi jMe jSr jZ jKi jHe jDo jTx jLa jSk qSz qTc qFa qPa qPy qMi qMe qSr qZ qKi qHe qDo qTx qLa qSk yRi yLe yLa eLn eFt eCc eKy eLv eOb eOn eSt eEd eSo eBy eCo cWt w0So w0Sz w0Vl w1So w1Sz w1Vl w2So w2Sz w2Vl w3So w3Sz w3Vl z0Th z0Ki z0He z0Nu x0So x0Sz x0Vl z1Th z1Ki z1He z1Nu x1So x1Sz x1Vl z2Th z2Ki z2He z2Nu x2So x2Sz x2Vl z3Th z3Ki z3He z3Nu x3So x3Sz x3Vl z4Th z4Ki z4He z4Nu x4So x4Sz x4Vl mHI mFC mLC mCg mTp mNx mFr mTk mVa mEn mKe mCs mAt mHd mWg mNow mImg mAsd mLea mLat mBst mRsk mTap mKys mKat mCod mWts mTes mStk mFct mSor mSiz mCel mHol mHoA mHoB mHoC mMov mTel LT pk pv pa pn tc H locs ls hR hJ hW hF hC hU hZ hP hD hS hl
  obtain ⟨n, tn, hp⟩ := id hR
  refine lv_aload_n hx hb dL_law_589 rfl (lv_at hl 1 rfl) ?_
  refine lv_aload_n hx hb dL_law_590 rfl (lv_at hl 0 rfl) ?_
  refine lv_iload_n hx hb dL_law_591 rfl (lv_at hl 3 rfl) ?_
  refine lv_iconst (v := 1) hx hb dL_law_592 (by decide) ?_
  refine lv_iadd hx hb dL_law_593 ?_
  refine va_sld hx hb hX hbl hbA hS i1 dL_law_594 ?_
  refine lv_topi (fun a1 ae1 => ?_)
  refine lv_aload_n hx hb dL_law_595 rfl (lv_at hl 0 rfl) ?_
  refine lv_iload_n hx hb dL_law_596 rfl (lv_at hl 3 rfl) ?_
  refine lv_iconst (v := 2) hx hb dL_law_597 (by decide) ?_
  refine lv_iadd hx hb dL_law_598 ?_
  refine va_sld hx hb hX hbl hbA hS i2 dL_law_599 ?_
  refine lv_topi (fun a2 ae2 => ?_)
  refine lv_aload_n hx hb dL_law_600 rfl (lv_at hl 0 rfl) ?_
  refine lv_iload_n hx hb dL_law_601 rfl (lv_at hl 3 rfl) ?_
  refine lv_iconst (v := 3) hx hb dL_law_602 (by decide) ?_
  refine lv_iadd hx hb dL_law_603 ?_
  refine va_sld hx hb hX hbl hbA hS i3 dL_law_604 ?_
  refine lv_topi (fun a3 ae3 => ?_)
  have h := j_tree hp a1 a2 a3 yRi yLe yLa rSk mLea mLat mBst mRsk mStk mFct
  have hPc := hP.part (cx := (rw_10 E co (u 0) (u 7) (u 14) (u 21) (u 25) (u 28) (u 29) (u 30) (u 22) (u 23) (u 24) (u 1) (u 2) (u 3) (u 4) (u 5) (u 6) cWs cKp yRi yLe yLa rSz rTc rFa rPa rPy rMi rMe rSr rZ rKi rHe rDo rTx rLa rSk)) [0, 22, 23, 24, 25, 1, 2, 3, 4, 5, 6, 7] rfl
  have hDc := hD.part (cx := (rw_10 E co (u 0) (u 7) (u 14) (u 21) (u 25) (u 28) (u 29) (u 30) (u 22) (u 23) (u 24) (u 1) (u 2) (u 3) (u 4) (u 5) (u 6) cWs cKp yRi yLe yLa rSz rTc rFa rPa rPy rMi rMe rSr rZ rKi rHe rDo rTx rLa rSk)) [0, 22, 23, 24, 25, 1, 2, 3, 4, 5, 6, 7] (by decide) rfl
  have hFc := va_freeP (cx := (rw_10 E co (u 0) (u 7) (u 14) (u 21) (u 25) (u 28) (u 29) (u 30) (u 22) (u 23) (u 24) (u 1) (u 2) (u 3) (u 4) (u 5) (u 6) cWs cKp yRi yLe yLa rSz rTc rFa rPa rPy rMi rMe rSr rZ rKi rHe rDo rTx rLa rSk)) hD hS hA [0, 22, 23, 24, 25, 1, 2, 3, 4, 5, 6, 7] rfl
  refine va_calli (va_runV (As := [.int a1, .int a2, .int a3]) (rest := []) ⟨hx, hb, hml, hown, hts⟩ (c_X6_tree l E co (u 0) (u 7) (u 14) (u 21) (u 25) (u 28) (u 29) (u 30) (u 22) (u 23) (u 24) (u 1) (u 2) (u 3) (u 4) (u 5) (u 6) H.size cWs cKp yRi yLe yLa rSz rTc rFa rPa rPy rMi rMe rSr rZ rKi rHe rDo rTx rLa rSk a1 a2 a3 LT pk pv pa pn tc _ h) (cwV 3 hts gL_law_X6_tree rfl rfl rfl (by decide +kernel) ⟨Nat.le_of_ble_eq_true rfl, Nat.le_of_ble_eq_true rfl⟩) ⟨fun a U g mk q => ⟨q.1, q.2.blind⟩, va_recv hK hPc (ci := 6) (q0 := 0) rfl rfl, fun U hU hW => ⟨rfl, by rw [hU], by rw [hU]; exact hPc, hE.call hS hFc hW hU, hDc.weaken (fun _ _ _ _ => trivial)⟩⟩ rfl rfl hl.1 rfl (lv_room (Nat.le_of_ble_eq_true rfl)) dL_law_605 ⟨show K + 0 ≤ 600000 by omega, show S + 0 ≤ 7302250 by omega⟩) hS (fun q _ h => hFc q h) hFc (fun r1 w t H1 locs ht hvm h hB hz1 hk1 hS => ?_)
  obtain ⟨n1_0, n1_1, n1_2, n1_3⟩ := w
  obtain ⟨hP1, hD1⟩ := hB
  rw [ht] at hP1
  obtain ⟨hP, hD⟩ := rc_focP hP hD [0, 22, 23, 24, 25, 1, 2, 3, 4, 5, 6, 7] [some 0, some 5, some 6, some 7, some 8, some 9, some 10, some 11, none, none, none, none, none, none, none, none, none, none, none, none, none, none, some 1, some 2, some 3, some 4, none, none, none, none, none, none, none, none, none, none, none, none, none, none, none, none, none, none, none, none, none, none, none, none, none, none, none, none, none, none, none, none, none, none, none, none, none, none, none, none, none, none, none, none, none, none, none, none, none, none, none, none, none, none] (by decide) rfl rfl hk1 hP1 rfl
  generalize H1 = H at hP hS ⊢
  have hP : va_P E.1 vwCl (rw_L E co u mo v cWs cKp rSz rTc rFa rPa rPy rMi rMe rSr rZ rKi rHe rDo rTx rLa n1_3 jSz jTc jFa jPa jPy jMi jMe jSr jZ jKi jHe jDo jTx jLa jSk qSz qTc qFa qPa qPy qMi qMe qSr qZ qKi qHe qDo qTx qLa qSk n1_0 n1_1 n1_2 eLn eFt eCc eKy eLv eOb eOn eSt eEd eSo eBy eCo cWt w0So w0Sz w0Vl w1So w1Sz w1Vl w2So w2Sz w2Vl w3So w3Sz w3Vl z0Th z0Ki z0He z0Nu x0So x0Sz x0Vl z1Th z1Ki z1He z1Nu x1So x1Sz x1Vl z2Th z2Ki z2He z2Nu x2So x2Sz x2Vl z3Th z3Ki z3He z3Nu x3So x3Sz x3Vl z4Th z4Ki z4He z4Nu x4So x4Sz x4Vl mHI mFC mLC mCg mTp mNx mFr mTk mVa mEn mKe mCs mAt mHd mWg mNow mImg mAsd mLea mLat mBst mRsk mTap mKys mKat mCod mWts mTes mStk mFct mSor mSiz mCel mHol mHoA mHoB mHoC mMov mTel ++ rc_tp E LT pk pv pa pn tc) H := hP
  have hD : va_D (fun q : Nat => s.heap.size ≤ q) (rw_L E co u mo v cWs cKp rSz rTc rFa rPa rPy rMi rMe rSr rZ rKi rHe rDo rTx rLa n1_3 jSz jTc jFa jPa jPy jMi jMe jSr jZ jKi jHe jDo jTx jLa jSk qSz qTc qFa qPa qPy qMi qMe qSr qZ qKi qHe qDo qTx qLa qSk n1_0 n1_1 n1_2 eLn eFt eCc eKy eLv eOb eOn eSt eEd eSo eBy eCo cWt w0So w0Sz w0Vl w1So w1Sz w1Vl w2So w2Sz w2Vl w3So w3Sz w3Vl z0Th z0Ki z0He z0Nu x0So x0Sz x0Vl z1Th z1Ki z1He z1Nu x1So x1Sz x1Vl z2Th z2Ki z2He z2Nu x2So x2Sz x2Vl z3Th z3Ki z3He z3Nu x3So x3Sz x3Vl z4Th z4Ki z4He z4Nu x4So x4Sz x4Vl mHI mFC mLC mCg mTp mNx mFr mTk mVa mEn mKe mCs mAt mHd mWg mNow mImg mAsd mLea mLat mBst mRsk mTap mKys mKat mCod mWts mTes mStk mFct mSor mSiz mCel mHol mHoA mHoB mHoC mMov mTel ++ rc_tp E LT pk pv pa pn tc) := hD
  refine lv_aload_n hx hb dL_law_608 rfl (lv_at hl 2 rfl) ?_
  refine lv_aload_n hx hb dL_law_609 rfl (lv_at hl 0 rfl) ?_
  refine lv_iload_n hx hb dL_law_610 rfl (lv_at hl 3 rfl) ?_
  refine lv_iconst (v := 1) hx hb dL_law_611 (by decide) ?_
  refine lv_iadd hx hb dL_law_612 ?_
  refine va_sld hx hb hX hbl hbA hS i1 dL_law_613 ?_
  refine lv_topi (fun b1 be1 => ?_)
  obtain rfl : a1 = b1 := ae1.trans be1.symm
  refine lv_aload_n hx hb dL_law_614 rfl (lv_at hl 0 rfl) ?_
  refine lv_iload_n hx hb dL_law_615 rfl (lv_at hl 3 rfl) ?_
  refine lv_iconst (v := 2) hx hb dL_law_616 (by decide) ?_
  refine lv_iadd hx hb dL_law_617 ?_
  refine va_sld hx hb hX hbl hbA hS i2 dL_law_618 ?_
  refine lv_topi (fun b2 be2 => ?_)
  obtain rfl : a2 = b2 := ae2.trans be2.symm
  refine lv_aload_n hx hb dL_law_619 rfl (lv_at hl 0 rfl) ?_
  refine lv_iload_n hx hb dL_law_620 rfl (lv_at hl 3 rfl) ?_
  refine lv_iconst (v := 3) hx hb dL_law_621 (by decide) ?_
  refine lv_iadd hx hb dL_law_622 ?_
  refine va_sld hx hb hX hbl hbA hS i3 dL_law_623 ?_
  refine lv_topi (fun b3 be3 => ?_)
  obtain rfl : a3 = b3 := ae3.trans be3.symm
  have h : wp_X7_tree a1 a2 a3 mNow mLea mLat mBst mRsk mStk mFct _ := h
  have hPc := hP.sub (ws' := (rw_24 E mo (v 0) (v 1) (v 2) (v 3) (v 4) (v 5) (v 6) (v 7) (v 8) (v 9) (v 10) (v 11) (v 12) (v 13) (v 14) (v 15) (v 16) (v 17) (v 18) (v 19) (v 20) (v 21) (v 22) (v 23) mHI mFC mLC mCg mTp mNx mFr mTk mVa mEn mKe mCs mAt mHd mWg mNow mImg mAsd mLea mLat mBst mRsk mTap mKys mKat mCod mWts mTes mStk mFct mSor mSiz mCel mHol mHoA mHoB mHoC mMov mTel)) [55, 56, 57, 58, 59, 60, 61, 62, 63, 64, 65, 66, 67, 68, 69, 70, 71, 72, 73, 74, 75, 76, 77, 78, 79] rfl
  have hDc := hD.sub (ws' := (rw_24 E mo (v 0) (v 1) (v 2) (v 3) (v 4) (v 5) (v 6) (v 7) (v 8) (v 9) (v 10) (v 11) (v 12) (v 13) (v 14) (v 15) (v 16) (v 17) (v 18) (v 19) (v 20) (v 21) (v 22) (v 23) mHI mFC mLC mCg mTp mNx mFr mTk mVa mEn mKe mCs mAt mHd mWg mNow mImg mAsd mLea mLat mBst mRsk mTap mKys mKat mCod mWts mTes mStk mFct mSor mSiz mCel mHol mHoA mHoB mHoC mMov mTel)) [55, 56, 57, 58, 59, 60, 61, 62, 63, 64, 65, 66, 67, 68, 69, 70, 71, 72, 73, 74, 75, 76, 77, 78, 79] (by decide) rfl
  have hFc := va_free (wc := (rw_24 E mo (v 0) (v 1) (v 2) (v 3) (v 4) (v 5) (v 6) (v 7) (v 8) (v 9) (v 10) (v 11) (v 12) (v 13) (v 14) (v 15) (v 16) (v 17) (v 18) (v 19) (v 20) (v 21) (v 22) (v 23) mHI mFC mLC mCg mTp mNx mFr mTk mVa mEn mKe mCs mAt mHd mWg mNow mImg mAsd mLea mLat mBst mRsk mTap mKys mKat mCod mWts mTes mStk mFct mSor mSiz mCel mHol mHoA mHoB mHoC mMov mTel)) hD hS hA [55, 56, 57, 58, 59, 60, 61, 62, 63, 64, 65, 66, 67, 68, 69, 70, 71, 72, 73, 74, 75, 76, 77, 78, 79] rfl
  refine va_calli (va_runV (As := [.int a1, .int a2, .int a3]) (rest := [.int r1]) ⟨hx, hb, hml, hown, hts⟩ (c_X7_tree l E mo (v 0) (v 1) (v 2) (v 3) (v 4) (v 5) (v 6) (v 7) (v 8) (v 9) (v 10) (v 11) (v 12) (v 13) (v 14) (v 15) (v 16) (v 17) (v 18) (v 19) (v 20) (v 21) (v 22) (v 23) H.size mHI mFC mLC mCg mTp mNx mFr mTk mVa mEn mKe mCs mAt mHd mWg mNow mImg mAsd mLea mLat mBst mRsk mTap mKys mKat mCod mWts mTes mStk mFct mSor mSiz mCel mHol mHoA mHoB mHoC mMov mTel a1 a2 a3 _ h) (cwV 3 hts gL_law_X7_tree rfl rfl rfl (by decide +kernel) ⟨Nat.le_of_ble_eq_true rfl, Nat.le_of_ble_eq_true rfl⟩) ⟨fun a U g mk q => ⟨q.1, q.2.blind⟩, va_recv hK hPc (ci := 7) (q0 := 0) rfl rfl, fun U hU hW => ⟨rfl, by rw [hU], by rw [hU]; exact hPc, hE.call hS hFc hW hU, hDc.weaken (fun _ _ _ _ => trivial)⟩⟩ rfl rfl hl.1 rfl (lv_room (Nat.le_of_ble_eq_true rfl)) dL_law_624 ⟨show (K + 0) + 0 ≤ 600000 by omega, show (S + 0) + 0 ≤ 7302250 by omega⟩) hS (fun q _ h => hFc q h) hFc (fun r2 w t H1 locs ht hvm h hB hz1 hk1 hS => ?_)
  obtain ⟨n2_0, n2_1, n2_2, n2_3, n2_4, n2_5⟩ := w
  obtain ⟨hP1, hD1⟩ := hB
  rw [ht] at hP1
  obtain ⟨hP, hD⟩ := rc_foc hP hD [55, 56, 57, 58, 59, 60, 61, 62, 63, 64, 65, 66, 67, 68, 69, 70, 71, 72, 73, 74, 75, 76, 77, 78, 79] [none, none, none, none, none, none, none, none, none, none, none, none, none, none, none, none, none, none, none, none, none, none, none, none, none, none, none, none, none, none, none, none, none, none, none, none, none, none, none, none, none, none, none, none, none, none, none, none, none, none, none, none, none, none, none, some 0, some 1, some 2, some 3, some 4, some 5, some 6, some 7, some 8, some 9, some 10, some 11, some 12, some 13, some 14, some 15, some 16, some 17, some 18, some 19, some 20, some 21, some 22, some 23, some 24] (by decide) rfl hk1 hP1 rfl
  generalize H1 = H at hP hS ⊢
  have hP : va_P E.1 vwCl (rw_L E co u mo v cWs cKp rSz rTc rFa rPa rPy rMi rMe rSr rZ rKi rHe rDo rTx rLa n1_3 jSz jTc jFa jPa jPy jMi jMe jSr jZ jKi jHe jDo jTx jLa jSk qSz qTc qFa qPa qPy qMi qMe qSr qZ qKi qHe qDo qTx qLa qSk n1_0 n1_1 n1_2 eLn eFt eCc eKy eLv eOb eOn eSt eEd eSo eBy eCo cWt w0So w0Sz w0Vl w1So w1Sz w1Vl w2So w2Sz w2Vl w3So w3Sz w3Vl z0Th z0Ki z0He z0Nu x0So x0Sz x0Vl z1Th z1Ki z1He z1Nu x1So x1Sz x1Vl z2Th z2Ki z2He z2Nu x2So x2Sz x2Vl z3Th z3Ki z3He z3Nu x3So x3Sz x3Vl z4Th z4Ki z4He z4Nu x4So x4Sz x4Vl mHI mFC mLC mCg mTp mNx mFr mTk mVa mEn mKe mCs mAt mHd mWg mNow mImg mAsd n2_0 n2_1 n2_2 n2_3 mTap mKys mKat mCod mWts mTes n2_4 n2_5 mSor mSiz mCel mHol mHoA mHoB mHoC mMov mTel ++ rc_tp E LT pk pv pa pn tc) H := hP
  have hD : va_D (fun q : Nat => s.heap.size ≤ q) (rw_L E co u mo v cWs cKp rSz rTc rFa rPa rPy rMi rMe rSr rZ rKi rHe rDo rTx rLa n1_3 jSz jTc jFa jPa jPy jMi jMe jSr jZ jKi jHe jDo jTx jLa jSk qSz qTc qFa qPa qPy qMi qMe qSr qZ qKi qHe qDo qTx qLa qSk n1_0 n1_1 n1_2 eLn eFt eCc eKy eLv eOb eOn eSt eEd eSo eBy eCo cWt w0So w0Sz w0Vl w1So w1Sz w1Vl w2So w2Sz w2Vl w3So w3Sz w3Vl z0Th z0Ki z0He z0Nu x0So x0Sz x0Vl z1Th z1Ki z1He z1Nu x1So x1Sz x1Vl z2Th z2Ki z2He z2Nu x2So x2Sz x2Vl z3Th z3Ki z3He z3Nu x3So x3Sz x3Vl z4Th z4Ki z4He z4Nu x4So x4Sz x4Vl mHI mFC mLC mCg mTp mNx mFr mTk mVa mEn mKe mCs mAt mHd mWg mNow mImg mAsd n2_0 n2_1 n2_2 n2_3 mTap mKys mKat mCod mWts mTes n2_4 n2_5 mSor mSiz mCel mHol mHoA mHoB mHoC mMov mTel ++ rc_tp E LT pk pv pa pn tc) := hD
  refine lv_icmp_eq (tgt := 1354) hx hb dL_law_627 (by decide) (fun _ => ?_) (fun z => absurd h z)
  refine W.widen (k := K + 2) (n := S + 99) (by omega) (by omega) ?_
  exact kk hR hJ hW hF hC hU hZ hP hD hS hl
