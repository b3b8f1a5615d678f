set_option maxHeartbeats 4000000 in
set_option maxRecDepth 100000 in
theorem lw_c31_0 {p : Program} {l : Launch} {e : Env} {s : State} {m : MethodId} {below : List Frame} {meth : Method} {c : Code} {E : gE} {co : Nat} {u : Nat → Nat} {mo : Nat} {v : Nat → Nat} {b L : Nat} {xs : Nat → Int32} {x3 : Int32} {K S : Nat} (C0 : lw_At p s m meth c b L xs) (hE : rc_ev E (fun q : Nat => s.heap.size ≤ q) s s.heap) (i1 : vp_in (x3 + 1) L) (i2 : vp_in (x3 + 2) L) (i3 : vp_in (x3 + 3) L) (i4 : vp_in (x3 + 4) L) (i5 : vp_in (x3 + 5) L) (hKb : K + 2 ≤ 600000) (hSb : S + 99 ≤ 7302250) (hi : pz_is 0 (xs (x3 + 1).toNatClampNeg)) (kk : lw_go p l e s m below meth c E co u mo v b x3 (K + 2) (S + 99) 1354) : lw_go p l e s m below meth c E co u mo v b x3 K S 1193 := by
  obtain ⟨hx, hb, hr, hml, hown, hts, hX, hbl, hlocks, hgv⟩ := id C0
  have hts := fun w hw => hts w (wsL_law_in w hw)
  have hown : s.vm.findClass RL = some m.cls := hown
  have hb : c.code = cL_law := hb
  have hA : ∀ q : Nat, s.heap.size ≤ q → (fun q : Nat => s.heap.size ≤ q) q := fun _ h => h
  have hbA : ¬ (fun q : Nat => s.heap.size ≤ q) b := Nat.not_le.mpr hbl
  have hK := hE.1
  intro cWs cKp rSz rTc rFa rPa rPy rMi rMe rSr rZ rKi rHe rDo rTx rLa rSk jSz jTc jFa jPa jPy jMi jMe jSr jZ jKi jHe jDo jTx jLa jSk qSz qTc qFa qPa qPy qMi qMe qSr qZ qKi qHe qDo qTx qLa qSk yRi yLe yLa eLn eFt eCc eKy eLv eOb eOn eSt eEd eSo eBy eCo cWt w0So w0Sz w0Vl w1So w1Sz w1Vl w2So w2Sz w2Vl w3So w3Sz w3Vl z0Th z0Ki z0He z0Nu x0So x0Sz x0Vl z1Th z1Ki z1He z1Nu x1So x1Sz x1Vl z2Th z2Ki z2He z2Nu x2So x2Sz x2Vl z3Th z3Ki z3He z3Nu x3So x3Sz x3Vl z4Th z4Ki z4He z4Nu x4So x4Sz x4Vl mHI mFC mLC mCg mTp mNx mFr mTk mVa mEn mKe mCs mAt mHd mWg mNow mImg mAsd mLea mLat mBst mRsk mTap mKys mKat mCod mWts mTes mStk mFct mSor mSiz mCel mHol mHoA mHoB mHoC mMov mTel LT pk pv pa pn tc H locs ls hR hJ hW hF hC hU hZ hP hD hS hl
  refine lv_aload_n hx hb dL_law_1193 rfl (lv_at hl 1 rfl) ?_
  refine lv_aload_n hx hb dL_law_1194 rfl (lv_at hl 0 rfl) ?_
  refine lv_iload_n hx hb dL_law_1195 rfl (lv_at hl 3 rfl) ?_
  refine lv_iconst (v := 1) hx hb dL_law_1196 (by decide) ?_
  refine lv_iadd hx hb dL_law_1197 ?_
  refine va_sld hx hb hX hbl hbA hS i1 dL_law_1198 ?_
  refine lv_topi (fun a1 ae1 => ?_)
  refine lv_aload_n hx hb dL_law_1199 rfl (lv_at hl 0 rfl) ?_
  refine lv_iload_n hx hb dL_law_1200 rfl (lv_at hl 3 rfl) ?_
  refine lv_iconst (v := 2) hx hb dL_law_1201 (by decide) ?_
  refine lv_iadd hx hb dL_law_1202 ?_
  refine va_sld hx hb hX hbl hbA hS i2 dL_law_1203 ?_
  refine lv_topi (fun a2 ae2 => ?_)
  have hi : pz_is 0 a1 := by rw [ae1]; exact hi
  have h := j_item (Sl := lw_sl u) (zo := u 39) a1 a2 hi hZ.1 rfl
  have hPc := hP.sub (ws' := (rw_16 E co (u 0) (u 7) (u 14) (u 21) (u 25) (u 28) (u 29) (u 30) (u 39) (u 40) (u 41) cWs cKp (lw_sl u) z0Th z0Ki z0He z0Nu x0So x0Sz x0Vl)) [0, 30, 40, 41, 42] rfl
  have hDc := hD.sub (ws' := (rw_16 E co (u 0) (u 7) (u 14) (u 21) (u 25) (u 28) (u 29) (u 30) (u 39) (u 40) (u 41) cWs cKp (lw_sl u) z0Th z0Ki z0He z0Nu x0So x0Sz x0Vl)) [0, 30, 40, 41, 42] (by decide) rfl
  have hFc := va_free (wc := (rw_16 E co (u 0) (u 7) (u 14) (u 21) (u 25) (u 28) (u 29) (u 30) (u 39) (u 40) (u 41) cWs cKp (lw_sl u) z0Th z0Ki z0He z0Nu x0So x0Sz x0Vl)) hD hS hA [0, 30, 40, 41, 42] rfl
  refine va_calli (va_runV (As := [.int a1, .int a2]) (rest := []) ⟨hx, hb, hml, hown, hts⟩ (c_X6_item l E co (u 0) (u 7) (u 14) (u 21) (u 25) (u 28) (u 29) (u 30) (u 39) (u 40) (u 41) H.size cWs cKp (lw_sl u) z0Th z0Ki z0He z0Nu x0So x0Sz x0Vl a1 a2 _ h) (cwV 2 hts gL_law_X6_item rfl rfl rfl (by decide +kernel) ⟨Nat.le_of_ble_eq_true rfl, Nat.le_of_ble_eq_true rfl⟩) ⟨fun a U g mk q => ⟨q.1, q.2.blind⟩, va_recv hK hPc (ci := 6) (q0 := 0) rfl rfl, fun U hU hW => ⟨rfl, by rw [hU], by rw [hU]; exact hPc, hE.call hS hFc hW hU, hDc.weaken (fun _ _ _ _ => trivial)⟩⟩ rfl rfl hl.1 rfl (lv_room (Nat.le_of_ble_eq_true rfl)) dL_law_1204 ⟨show K + 0 ≤ 600000 by omega, show S + 0 ≤ 7302250 by omega⟩) hS (fun q _ h => hFc q h) hFc (fun r1 w t H1 locs ht hvm h hB hz1 hk1 hS => ?_)
  obtain ⟨hP1, hD1⟩ := hB
  rw [ht] at hP1
  obtain ⟨hP, hD⟩ := rc_foc hP hD [0, 30, 40, 41, 42] [some 0, none, none, none, none, none, none, none, none, none, none, none, none, none, none, none, none, none, none, none, none, none, none, none, none, none, none, none, none, none, some 1, none, none, none, none, none, none, none, none, none, some 2, some 3, some 4, none, none, none, none, none, none, none, none, none, none, none, none, none, none, none, none, none, none, none, none, none, none, none, none, none, none, none, none, none, none, none, none, none, none, none, none, none] (by decide) rfl hk1 hP1 rfl
  generalize H1 = H at hP hS ⊢
  have hP : va_P E.1 vwCl (rw_L E co u mo v cWs cKp rSz rTc rFa rPa rPy rMi rMe rSr rZ rKi rHe rDo rTx rLa rSk jSz jTc jFa jPa jPy jMi jMe jSr jZ jKi jHe jDo jTx jLa jSk qSz qTc qFa qPa qPy qMi qMe qSr qZ qKi qHe qDo qTx qLa qSk yRi yLe yLa eLn eFt eCc eKy eLv eOb eOn eSt eEd eSo eBy eCo cWt w0So w0Sz w0Vl w1So w1Sz w1Vl w2So w2Sz w2Vl w3So w3Sz w3Vl z0Th z0Ki z0He z0Nu x0So x0Sz x0Vl z1Th z1Ki z1He z1Nu x1So x1Sz x1Vl z2Th z2Ki z2He z2Nu x2So x2Sz x2Vl z3Th z3Ki z3He z3Nu x3So x3Sz x3Vl z4Th z4Ki z4He z4Nu x4So x4Sz x4Vl mHI mFC mLC mCg mTp mNx mFr mTk mVa mEn mKe mCs mAt mHd mWg mNow mImg mAsd mLea mLat mBst mRsk mTap mKys mKat mCod mWts mTes mStk mFct mSor mSiz mCel mHol mHoA mHoB mHoC mMov mTel ++ rc_tp E LT pk pv pa pn tc) H := hP
  have hD : va_D (fun q : Nat => s.heap.size ≤ q) (rw_L E co u mo v cWs cKp rSz rTc rFa rPa rPy rMi rMe rSr rZ rKi rHe rDo rTx rLa rSk jSz jTc jFa jPa jPy jMi jMe jSr jZ jKi jHe jDo jTx jLa jSk qSz qTc qFa qPa qPy qMi qMe qSr qZ qKi qHe qDo qTx qLa qSk yRi yLe yLa eLn eFt eCc eKy eLv eOb eOn eSt eEd eSo eBy eCo cWt w0So w0Sz w0Vl w1So w1Sz w1Vl w2So w2Sz w2Vl w3So w3Sz w3Vl z0Th z0Ki z0He z0Nu x0So x0Sz x0Vl z1Th z1Ki z1He z1Nu x1So x1Sz x1Vl z2Th z2Ki z2He z2Nu x2So x2Sz x2Vl z3Th z3Ki z3He z3Nu x3So x3Sz x3Vl z4Th z4Ki z4He z4Nu x4So x4Sz x4Vl mHI mFC mLC mCg mTp mNx mFr mTk mVa mEn mKe mCs mAt mHd mWg mNow mImg mAsd mLea mLat mBst mRsk mTap mKys mKat mCod mWts mTes mStk mFct mSor mSiz mCel mHol mHoA mHoB mHoC mMov mTel ++ rc_tp E LT pk pv pa pn tc) := hD
  refine lv_aload_n hx hb dL_law_1207 rfl (lv_at hl 2 rfl) ?_
  refine lv_aload_n hx hb dL_law_1208 rfl (lv_at hl 0 rfl) ?_
  refine lv_iload_n hx hb dL_law_1209 rfl (lv_at hl 3 rfl) ?_
  refine lv_iconst (v := 1) hx hb dL_law_1210 (by decide) ?_
  refine lv_iadd hx hb dL_law_1211 ?_
  refine va_sld hx hb hX hbl hbA hS i1 dL_law_1212 ?_
  refine lv_topi (fun b1 be1 => ?_)
  obtain rfl : a1 = b1 := ae1.trans be1.symm
  refine lv_aload_n hx hb dL_law_1213 rfl (lv_at hl 0 rfl) ?_
  refine lv_iload_n hx hb dL_law_1214 rfl (lv_at hl 3 rfl) ?_
  refine lv_iconst (v := 2) hx hb dL_law_1215 (by decide) ?_
  refine lv_iadd hx hb dL_law_1216 ?_
  refine va_sld hx hb hX hbl hbA hS i2 dL_law_1217 ?_
  refine lv_topi (fun b2 be2 => ?_)
  obtain rfl : a2 = b2 := ae2.trans be2.symm
  have h : wp_X7_item a1 a2 mHol mHoA mHoC _ := h
  have hPc := hP.sub (ws' := (rw_24 E mo (v 0) (v 1) (v 2) (v 3) (v 4) (v 5) (v 6) (v 7) (v 8) (v 9) (v 10) (v 11) (v 12) (v 13) (v 14) (v 15) (v 16) (v 17) (v 18) (v 19) (v 20) (v 21) (v 22) (v 23) mHI mFC mLC mCg mTp mNx mFr mTk mVa mEn mKe mCs mAt mHd mWg mNow mImg mAsd mLea mLat mBst mRsk mTap mKys mKat mCod mWts mTes mStk mFct mSor mSiz mCel mHol mHoA mHoB mHoC mMov mTel)) [55, 56, 57, 58, 59, 60, 61, 62, 63, 64, 65, 66, 67, 68, 69, 70, 71, 72, 73, 74, 75, 76, 77, 78, 79] rfl
  have hDc := hD.sub (ws' := (rw_24 E mo (v 0) (v 1) (v 2) (v 3) (v 4) (v 5) (v 6) (v 7) (v 8) (v 9) (v 10) (v 11) (v 12) (v 13) (v 14) (v 15) (v 16) (v 17) (v 18) (v 19) (v 20) (v 21) (v 22) (v 23) mHI mFC mLC mCg mTp mNx mFr mTk mVa mEn mKe mCs mAt mHd mWg mNow mImg mAsd mLea mLat mBst mRsk mTap mKys mKat mCod mWts mTes mStk mFct mSor mSiz mCel mHol mHoA mHoB mHoC mMov mTel)) [55, 56, 57, 58, 59, 60, 61, 62, 63, 64, 65, 66, 67, 68, 69, 70, 71, 72, 73, 74, 75, 76, 77, 78, 79] (by decide) rfl
  have hFc := va_free (wc := (rw_24 E mo (v 0) (v 1) (v 2) (v 3) (v 4) (v 5) (v 6) (v 7) (v 8) (v 9) (v 10) (v 11) (v 12) (v 13) (v 14) (v 15) (v 16) (v 17) (v 18) (v 19) (v 20) (v 21) (v 22) (v 23) mHI mFC mLC mCg mTp mNx mFr mTk mVa mEn mKe mCs mAt mHd mWg mNow mImg mAsd mLea mLat mBst mRsk mTap mKys mKat mCod mWts mTes mStk mFct mSor mSiz mCel mHol mHoA mHoB mHoC mMov mTel)) hD hS hA [55, 56, 57, 58, 59, 60, 61, 62, 63, 64, 65, 66, 67, 68, 69, 70, 71, 72, 73, 74, 75, 76, 77, 78, 79] rfl
  refine va_calli (va_runV (As := [.int a1, .int a2]) (rest := [.int r1]) ⟨hx, hb, hml, hown, hts⟩ (c_X7_item l E mo (v 0) (v 1) (v 2) (v 3) (v 4) (v 5) (v 6) (v 7) (v 8) (v 9) (v 10) (v 11) (v 12) (v 13) (v 14) (v 15) (v 16) (v 17) (v 18) (v 19) (v 20) (v 21) (v 22) (v 23) H.size mHI mFC mLC mCg mTp mNx mFr mTk mVa mEn mKe mCs mAt mHd mWg mNow mImg mAsd mLea mLat mBst mRsk mTap mKys mKat mCod mWts mTes mStk mFct mSor mSiz mCel mHol mHoA mHoB mHoC mMov mTel a1 a2 _ h) (cwV 2 hts gL_law_X7_item rfl rfl rfl (by decide +kernel) ⟨Nat.le_of_ble_eq_true rfl, Nat.le_of_ble_eq_true rfl⟩) ⟨fun a U g mk q => ⟨q.1, q.2.blind⟩, va_recv hK hPc (ci := 7) (q0 := 0) rfl rfl, fun U hU hW => ⟨rfl, by rw [hU], by rw [hU]; exact hPc, hE.call hS hFc hW hU, hDc.weaken (fun _ _ _ _ => trivial)⟩⟩ rfl rfl hl.1 rfl (lv_room (Nat.le_of_ble_eq_true rfl)) dL_law_1218 ⟨show (K + 0) + 0 ≤ 600000 by omega, show (S + 0) + 0 ≤ 7302250 by omega⟩) hS (fun q _ h => hFc q h) hFc (fun r2 w t H1 locs ht hvm h hB hz1 hk1 hS => ?_)
  obtain ⟨hP1, hD1⟩ := hB
  rw [ht] at hP1
  obtain ⟨hP, hD⟩ := rc_foc hP hD [55, 56, 57, 58, 59, 60, 61, 62, 63, 64, 65, 66, 67, 68, 69, 70, 71, 72, 73, 74, 75, 76, 77, 78, 79] [none, none, none, none, none, none, none, none, none, none, none, none, none, none, none, none, none, none, none, none, none, none, none, none, none, none, none, none, none, none, none, none, none, none, none, none, none, none, none, none, none, none, none, none, none, none, none, none, none, none, none, none, none, none, none, some 0, some 1, some 2, some 3, some 4, some 5, some 6, some 7, some 8, some 9, some 10, some 11, some 12, some 13, some 14, some 15, some 16, some 17, some 18, some 19, some 20, some 21, some 22, some 23, some 24] (by decide) rfl hk1 hP1 rfl
  generalize H1 = H at hP hS ⊢
  have hP : va_P E.1 vwCl (rw_L E co u mo v cWs cKp rSz rTc rFa rPa rPy rMi rMe rSr rZ rKi rHe rDo rTx rLa rSk jSz jTc jFa jPa jPy jMi jMe jSr jZ jKi jHe jDo jTx jLa jSk qSz qTc qFa qPa qPy qMi qMe qSr qZ qKi qHe qDo qTx qLa qSk yRi yLe yLa eLn eFt eCc eKy eLv eOb eOn eSt eEd eSo eBy eCo cWt w0So w0Sz w0Vl w1So w1Sz w1Vl w2So w2Sz w2Vl w3So w3Sz w3Vl z0Th z0Ki z0He z0Nu x0So x0Sz x0Vl z1Th z1Ki z1He z1Nu x1So x1Sz x1Vl z2Th z2Ki z2He z2Nu x2So x2Sz x2Vl z3Th z3Ki z3He z3Nu x3So x3Sz x3Vl z4Th z4Ki z4He z4Nu x4So x4Sz x4Vl mHI mFC mLC mCg mTp mNx mFr mTk mVa mEn mKe mCs mAt mHd mWg mNow mImg mAsd mLea mLat mBst mRsk mTap mKys mKat mCod mWts mTes mStk mFct mSor mSiz mCel mHol mHoA mHoB mHoC mMov mTel ++ rc_tp E LT pk pv pa pn tc) H := hP
  have hD : va_D (fun q : Nat => s.heap.size ≤ q) (rw_L E co u mo v cWs cKp rSz rTc rFa rPa rPy rMi rMe rSr rZ rKi rHe rDo rTx rLa rSk jSz jTc jFa jPa jPy jMi jMe jSr jZ jKi jHe jDo jTx jLa jSk qSz qTc qFa qPa qPy qMi qMe qSr qZ qKi qHe qDo qTx qLa qSk yRi yLe yLa eLn eFt eCc eKy eLv eOb eOn eSt eEd eSo eBy eCo cWt w0So w0Sz w0Vl w1So w1Sz w1Vl w2So w2Sz w2Vl w3So w3Sz w3Vl z0Th z0Ki z0He z0Nu x0So x0Sz x0Vl z1Th z1Ki z1He z1Nu x1So x1Sz x1Vl z2Th z2Ki z2He z2Nu x2So x2Sz x2Vl z3Th z3Ki z3He z3Nu x3So x3Sz x3Vl z4Th z4Ki z4He z4Nu x4So x4Sz x4Vl mHI mFC mLC mCg mTp mNx mFr mTk mVa mEn mKe mCs mAt mHd mWg mNow mImg mAsd mLea mLat mBst mRsk mTap mKys mKat mCod mWts mTes mStk mFct mSor mSiz mCel mHol mHoA mHoB mHoC mMov mTel ++ rc_tp E LT pk pv pa pn tc) := hD
  refine lv_icmp_eq (tgt := 1354) hx hb dL_law_1221 (by decide) (fun _ => ?_) (fun z => absurd h z)
  refine W.widen (k := K + 2) (n := S + 99) (by omega) (by omega) ?_
  exact kk hR hJ hW hF hC hU hZ hP hD hS hl
set_option maxHeartbeats 4000000 in
set_option maxRecDepth 100000 in
theorem lw_c31_1 {p : Program} {l : Launch} {e : Env} {s : State} {m : MethodId} {below : List Frame} {meth : Method} {c : Code} {E : gE} {co : Nat} {u : Nat → Nat} {mo : Nat} {v : Nat → Nat} {b L : Nat} {xs : Nat → Int32} {x3 : Int32} {K S : Nat} (C0 : lw_At p s m meth c b L xs) (hE : rc_ev E (fun q : Nat => s.heap.size ≤ q) s s.heap) (i1 : vp_in (x3 + 1) L) (i2 : vp_in (x3 + 2) L) (i3 : vp_in (x3 + 3) L) (i4 : vp_in (x3 + 4) L) (i5 : vp_in (x3 + 5) L) (hKb : K + 2 ≤ 600000) (hSb : S + 99 ≤ 7302250) (hi : pz_is 1 (xs (x3 + 1).toNatClampNeg)) (kk : lw_go p l e s m below meth c E co u mo v b x3 (K + 2) (S + 99) 1354) : lw_go p l e s m below meth c E co u mo v b x3 K S 1193 := by
  obtain ⟨hx, hb, hr, hml, hown, hts, hX, hbl, hlocks, hgv⟩ := id C0
  have hts := fun w hw => hts w (wsL_law_in w hw)
  have hown : s.vm.findClass RL = some m.cls := hown
  have hb : c.code = cL_law := hb
  have hA : ∀ q : Nat, s.heap.size ≤ q → (fun q : Nat => s.heap.size ≤ q) q := fun _ h => h
  have hbA : ¬ (fun q : Nat => s.heap.size ≤ q) b := Nat.not_le.mpr hbl
  have hK := hE.1
  intro cWs cKp rSz rTc rFa rPa rPy rMi rMe rSr rZ rKi rHe rDo rTx rLa rSk jSz jTc jFa jPa jPy jMi jMe jSr jZ jKi jHe jDo jTx jLa jSk qSz qTc qFa qPa qPy qMi qMe qSr qZ qKi qHe qDo qTx qLa qSk yRi yLe yLa eLn eFt eCc eKy eLv eOb eOn eSt eEd eSo eBy eCo cWt w0So w0Sz w0Vl w1So w1Sz w1Vl w2So w2Sz w2Vl w3So w3Sz w3Vl z0Th z0Ki z0He z0Nu x0So x0Sz x0Vl z1Th z1Ki z1He z1Nu x1So x1Sz x1Vl z2Th z2Ki z2He z2Nu x2So x2Sz x2Vl z3Th z3Ki z3He z3Nu x3So x3Sz x3Vl z4Th z4Ki z4He z4Nu x4So x4Sz x4Vl mHI mFC mLC mCg mTp mNx mFr mTk mVa mEn mKe mCs mAt mHd mWg mNow mImg mAsd mLea mLat mBst mRsk mTap mKys mKat mCod mWts mTes mStk mFct mSor mSiz mCel mHol mHoA mHoB mHoC mMov mTel LT pk pv pa pn tc H locs ls hR hJ hW hF hC hU hZ hP hD hS hl
  refine lv_aload_n hx hb dL_law_1193 rfl (lv_at hl 1 rfl) ?_
  refine lv_aload_n hx hb dL_law_1194 rfl (lv_at hl 0 rfl) ?_
  refine lv_iload_n hx hb dL_law_1195 rfl (lv_at hl 3 rfl) ?_
  refine lv_iconst (v := 1) hx hb dL_law_1196 (by decide) ?_
  refine lv_iadd hx hb dL_law_1197 ?_
  refine va_sld hx hb hX hbl hbA hS i1 dL_law_1198 ?_
  refine lv_topi (fun a1 ae1 => ?_)
  refine lv_aload_n hx hb dL_law_1199 rfl (lv_at hl 0 rfl) ?_
  refine lv_iload_n hx hb dL_law_1200 rfl (lv_at hl 3 rfl) ?_
  refine lv_iconst (v := 2) hx hb dL_law_1201 (by decide) ?_
  refine lv_iadd hx hb dL_law_1202 ?_
  refine va_sld hx hb hX hbl hbA hS i2 dL_law_1203 ?_
  refine lv_topi (fun a2 ae2 => ?_)
  have hi : pz_is 1 a1 := by rw [ae1]; exact hi
  have h := j_item (Sl := lw_sl u) (zo := u 42) a1 a2 hi hZ.2.1 rfl
  have hPc := hP.sub (ws' := (rw_16 E co (u 0) (u 7) (u 14) (u 21) (u 25) (u 28) (u 29) (u 30) (u 42) (u 43) (u 44) cWs cKp (lw_sl u) z1Th z1Ki z1He z1Nu x1So x1Sz x1Vl)) [0, 30, 43, 44, 45] rfl
  have hDc := hD.sub (ws' := (rw_16 E co (u 0) (u 7) (u 14) (u 21) (u 25) (u 28) (u 29) (u 30) (u 42) (u 43) (u 44) cWs cKp (lw_sl u) z1Th z1Ki z1He z1Nu x1So x1Sz x1Vl)) [0, 30, 43, 44, 45] (by decide) rfl
  have hFc := va_free (wc := (rw_16 E co (u 0) (u 7) (u 14) (u 21) (u 25) (u 28) (u 29) (u 30) (u 42) (u 43) (u 44) cWs cKp (lw_sl u) z1Th z1Ki z1He z1Nu x1So x1Sz x1Vl)) hD hS hA [0, 30, 43, 44, 45] rfl
  refine va_calli (va_runV (As := [.int a1, .int a2]) (rest := []) ⟨hx, hb, hml, hown, hts⟩ (c_X6_item l E co (u 0) (u 7) (u 14) (u 21) (u 25) (u 28) (u 29) (u 30) (u 42) (u 43) (u 44) H.size cWs cKp (lw_sl u) z1Th z1Ki z1He z1Nu x1So x1Sz x1Vl a1 a2 _ h) (cwV 2 hts gL_law_X6_item rfl rfl rfl (by decide +kernel) ⟨Nat.le_of_ble_eq_true rfl, Nat.le_of_ble_eq_true rfl⟩) ⟨fun a U g mk q => ⟨q.1, q.2.blind⟩, va_recv hK hPc (ci := 6) (q0 := 0) rfl rfl, fun U hU hW => ⟨rfl, by rw [hU], by rw [hU]; exact hPc, hE.call hS hFc hW hU, hDc.weaken (fun _ _ _ _ => trivial)⟩⟩ rfl rfl hl.1 rfl (lv_room (Nat.le_of_ble_eq_true rfl)) dL_law_1204 ⟨show K + 0 ≤ 600000 by omega, show S + 0 ≤ 7302250 by omega⟩) hS (fun q _ h => hFc q h) hFc (fun r1 w t H1 locs ht hvm h hB hz1 hk1 hS => ?_)
  obtain ⟨hP1, hD1⟩ := hB
  rw [ht] at hP1
  obtain ⟨hP, hD⟩ := rc_foc hP hD [0, 30, 43, 44, 45] [some 0, none, none, none, none, none, none, none, none, none, none, none, none, none, none, none, none, none, none, none, none, none, none, none, none, none, none, none, none, none, some 1, none, none, none, none, none, none, none, none, none, none, none, none, some 2, some 3, some 4, none, none, none, none, none, none, none, none, none, none, none, none, none, none, none, none, none, none, none, none, none, none, none, none, none, none, none, none, none, none, none, none, none, none] (by decide) rfl hk1 hP1 rfl
  generalize H1 = H at hP hS ⊢
  have hP : va_P E.1 vwCl (rw_L E co u mo v cWs cKp rSz rTc rFa rPa rPy rMi rMe rSr rZ rKi rHe rDo rTx rLa rSk jSz jTc jFa jPa jPy jMi jMe jSr jZ jKi jHe jDo jTx jLa jSk qSz qTc qFa qPa qPy qMi qMe qSr qZ qKi qHe qDo qTx qLa qSk yRi yLe yLa eLn eFt eCc eKy eLv eOb eOn eSt eEd eSo eBy eCo cWt w0So w0Sz w0Vl w1So w1Sz w1Vl w2So w2Sz w2Vl w3So w3Sz w3Vl z0Th z0Ki z0He z0Nu x0So x0Sz x0Vl z1Th z1Ki z1He z1Nu x1So x1Sz x1Vl z2Th z2Ki z2He z2Nu x2So x2Sz x2Vl z3Th z3Ki z3He z3Nu x3So x3Sz x3Vl z4Th z4Ki z4He z4Nu x4So x4Sz x4Vl mHI mFC mLC mCg mTp mNx mFr mTk mVa mEn mKe mCs mAt mHd mWg mNow mImg mAsd mLea mLat mBst mRsk mTap mKys mKat mCod mWts mTes mStk mFct mSor mSiz mCel mHol mHoA mHoB mHoC mMov mTel ++ rc_tp E LT pk pv pa pn tc) H := hP
  have hD : va_D (fun q : Nat => s.heap.size ≤ q) (rw_L E co u mo v cWs cKp rSz rTc rFa rPa rPy rMi rMe rSr rZ rKi rHe rDo rTx rLa rSk jSz jTc jFa jPa jPy jMi jMe jSr jZ jKi jHe jDo jTx jLa jSk qSz qTc qFa qPa qPy qMi qMe qSr qZ qKi qHe qDo qTx qLa qSk yRi yLe yLa eLn eFt eCc eKy eLv eOb eOn eSt eEd eSo eBy eCo cWt w0So w0Sz w0Vl w1So w1Sz w1Vl w2So w2Sz w2Vl w3So w3Sz w3Vl z0Th z0Ki z0He z0Nu x0So x0Sz x0Vl z1Th z1Ki z1He z1Nu x1So x1Sz x1Vl z2Th z2Ki z2He z2Nu x2So x2Sz x2Vl z3Th z3Ki z3He z3Nu x3So x3Sz x3Vl z4Th z4Ki z4He z4Nu x4So x4Sz x4Vl mHI mFC mLC mCg mTp mNx mFr mTk mVa mEn mKe mCs mAt mHd mWg mNow mImg mAsd mLea mLat mBst mRsk mTap mKys mKat mCod mWts mTes mStk mFct mSor mSiz mCel mHol mHoA mHoB mHoC mMov mTel ++ rc_tp E LT pk pv pa pn tc) := hD
  refine lv_aload_n hx hb dL_law_1207 rfl (lv_at hl 2 rfl) ?_
  refine lv_aload_n hx hb dL_law_1208 rfl (lv_at hl 0 rfl) ?_
  refine lv_iload_n hx hb dL_law_1209 rfl (lv_at hl 3 rfl) ?_
  refine lv_iconst (v := 1) hx hb dL_law_1210 (by decide) ?_
  refine lv_iadd hx hb dL_law_1211 ?_
  refine va_sld hx hb hX hbl hbA hS i1 dL_law_1212 ?_
  refine lv_topi (fun b1 be1 => ?_)
  obtain rfl : a1 = b1 := ae1.trans be1.symm
  refine lv_aload_n hx hb dL_law_1213 rfl (lv_at hl 0 rfl) ?_
  refine lv_iload_n hx hb dL_law_1214 rfl (lv_at hl 3 rfl) ?_
  refine lv_iconst (v := 2) hx hb dL_law_1215 (by decide) ?_
  refine lv_iadd hx hb dL_law_1216 ?_
  refine va_sld hx hb hX hbl hbA hS i2 dL_law_1217 ?_
  refine lv_topi (fun b2 be2 => ?_)
  obtain rfl : a2 = b2 := ae2.trans be2.symm
  have h : wp_X7_item a1 a2 mHol mHoA mHoC _ := h
  have hPc := hP.sub (ws' := (rw_24 E mo (v 0) (v 1) (v 2) (v 3) (v 4) (v 5) (v 6) (v 7) (v 8) (v 9) (v 10) (v 11) (v 12) (v 13) (v 14) (v 15) (v 16) (v 17) (v 18) (v 19) (v 20) (v 21) (v 22) (v 23) mHI mFC mLC mCg mTp mNx mFr mTk mVa mEn mKe mCs mAt mHd mWg mNow mImg mAsd mLea mLat mBst mRsk mTap mKys mKat mCod mWts mTes mStk mFct mSor mSiz mCel mHol mHoA mHoB mHoC mMov mTel)) [55, 56, 57, 58, 59, 60, 61, 62, 63, 64, 65, 66, 67, 68, 69, 70, 71, 72, 73, 74, 75, 76, 77, 78, 79] rfl
  have hDc := hD.sub (ws' := (rw_24 E mo (v 0) (v 1) (v 2) (v 3) (v 4) (v 5) (v 6) (v 7) (v 8) (v 9) (v 10) (v 11) (v 12) (v 13) (v 14) (v 15) (v 16) (v 17) (v 18) (v 19) (v 20) (v 21) (v 22) (v 23) mHI mFC mLC mCg mTp mNx mFr mTk mVa mEn mKe mCs mAt mHd mWg mNow mImg mAsd mLea mLat mBst mRsk mTap mKys mKat mCod mWts mTes mStk mFct mSor mSiz mCel mHol mHoA mHoB mHoC mMov mTel)) [55, 56, 57, 58, 59, 60, 61, 62, 63, 64, 65, 66, 67, 68, 69, 70, 71, 72, 73, 74, 75, 76, 77, 78, 79] (by decide) rfl
  have hFc := va_free (wc := (rw_24 E mo (v 0) (v 1) (v 2) (v 3) (v 4) (v 5) (v 6) (v 7) (v 8) (v 9) (v 10) (v 11) (v 12) (v 13) (v 14) (v 15) (v 16) (v 17) (v 18) (v 19) (v 20) (v 21) (v 22) (v 23) mHI mFC mLC mCg mTp mNx mFr mTk mVa mEn mKe mCs mAt mHd mWg mNow mImg mAsd mLea mLat mBst mRsk mTap mKys mKat mCod mWts mTes mStk mFct mSor mSiz mCel mHol mHoA mHoB mHoC mMov mTel)) hD hS hA [55, 56, 57, 58, 59, 60, 61, 62, 63, 64, 65, 66, 67, 68, 69, 70, 71, 72, 73, 74, 75, 76, 77, 78, 79] rfl
  refine va_calli (va_runV (As := [.int a1, .int a2]) (rest := [.int r1]) ⟨hx, hb, hml, hown, hts⟩ (c_X7_item l E mo (v 0) (v 1) (v 2) (v 3) (v 4) (v 5) (v 6) (v 7) (v 8) (v 9) (v 10) (v 11) (v 12) (v 13) (v 14) (v 15) (v 16) (v 17) (v 18) (v 19) (v 20) (v 21) (v 22) (v 23) H.size mHI mFC mLC mCg mTp mNx mFr mTk mVa mEn mKe mCs mAt mHd mWg mNow mImg mAsd mLea mLat mBst mRsk mTap mKys mKat mCod mWts mTes mStk mFct mSor mSiz mCel mHol mHoA mHoB mHoC mMov mTel a1 a2 _ h) (cwV 2 hts gL_law_X7_item rfl rfl rfl (by decide +kernel) ⟨Nat.le_of_ble_eq_true rfl, Nat.le_of_ble_eq_true rfl⟩) ⟨fun a U g mk q => ⟨q.1, q.2.blind⟩, va_recv hK hPc (ci := 7) (q0 := 0) rfl rfl, fun U hU hW => ⟨rfl, by rw [hU], by rw [hU]; exact hPc, hE.call hS hFc hW hU, hDc.weaken (fun _ _ _ _ => trivial)⟩⟩ rfl rfl hl.1 rfl (lv_room (Nat.le_of_ble_eq_true rfl)) dL_law_1218 ⟨show (K + 0) + 0 ≤ 600000 by omega, show (S + 0) + 0 ≤ 7302250 by omega⟩) hS (fun q _ h => hFc q h) hFc (fun r2 w t H1 locs ht hvm h hB hz1 hk1 hS => ?_)
  obtain ⟨hP1, hD1⟩ := hB
  rw [ht] at hP1
  obtain ⟨hP, hD⟩ := rc_foc hP hD [55, 56, 57, 58, 59, 60, 61, 62, 63, 64, 65, 66, 67, 68, 69, 70, 71, 72, 73, 74, 75, 76, 77, 78, 79] [none, none, none, none, none, none, none, none, none, none, none, none, none, none, none, none, none, none, none, none, none, none, none, none, none, none, none, none, none, none, none, none, none, none, none, none, none, none, none, none, none, none, none, none, none, none, none, none, none, none, none, none, none, none, none, some 0, some 1, some 2, some 3, some 4, some 5, some 6, some 7, some 8, some 9, some 10, some 11, some 12, some 13, some 14, some 15, some 16, some 17, some 18, some 19, some 20, some 21, some 22, some 23, some 24] (by decide) rfl hk1 hP1 rfl
  generalize H1 = H at hP hS ⊢
  have hP : va_P E.1 vwCl (rw_L E co u mo v cWs cKp rSz rTc rFa rPa rPy rMi rMe rSr rZ rKi rHe rDo rTx rLa rSk jSz jTc jFa jPa jPy jMi jMe jSr jZ jKi jHe jDo jTx jLa jSk qSz qTc qFa qPa qPy qMi qMe qSr qZ qKi qHe qDo qTx qLa qSk yRi yLe yLa eLn eFt eCc eKy eLv eOb eOn eSt eEd eSo eBy eCo cWt w0So w0Sz w0Vl w1So w1Sz w1Vl w2So w2Sz w2Vl w3So w3Sz w3Vl z0Th z0Ki z0He z0Nu x0So x0Sz x0Vl z1Th z1Ki z1He z1Nu x1So x1Sz x1Vl z2Th z2Ki z2He z2Nu x2So x2Sz x2Vl z3Th z3Ki z3He z3Nu x3So x3Sz x3Vl z4Th z4Ki z4He z4Nu x4So x4Sz x4Vl mHI mFC mLC mCg mTp mNx mFr mTk mVa mEn mKe mCs mAt mHd mWg mNow mImg mAsd mLea mLat mBst mRsk mTap mKys mKat mCod mWts mTes mStk mFct mSor mSiz mCel mHol mHoA mHoB mHoC mMov mTel ++ rc_tp E LT pk pv pa pn tc) H := hP
  have hD : va_D (fun q : Nat => s.heap.size ≤ q) (rw_L E co u mo v cWs cKp rSz rTc rFa rPa rPy rMi rMe rSr rZ rKi rHe rDo rTx rLa rSk jSz jTc jFa jPa jPy jMi jMe jSr jZ jKi jHe jDo jTx jLa jSk qSz qTc qFa qPa qPy qMi qMe qSr qZ qKi qHe qDo qTx qLa qSk yRi yLe yLa eLn eFt eCc eKy eLv eOb eOn eSt eEd eSo eBy eCo cWt w0So w0Sz w0Vl w1So w1Sz w1Vl w2So w2Sz w2Vl w3So w3Sz w3Vl z0Th z0Ki z0He z0Nu x0So x0Sz x0Vl z1Th z1Ki z1He z1Nu x1So x1Sz x1Vl z2Th z2Ki z2He z2Nu x2So x2Sz x2Vl z3Th z3Ki z3He z3Nu x3So x3Sz x3Vl z4Th z4Ki z4He z4Nu x4So x4Sz x4Vl mHI mFC mLC mCg mTp mNx mFr mTk mVa mEn mKe mCs mAt mHd mWg mNow mImg mAsd mLea mLat mBst mRsk mTap mKys mKat mCod mWts mTes mStk mFct mSor mSiz mCel mHol mHoA mHoB mHoC mMov mTel ++ rc_tp E LT pk pv pa pn tc) := hD
  refine lv_icmp_eq (tgt := 1354) hx hb dL_law_1221 (by decide) (fun _ => ?_) (fun z => absurd h z)
  refine W.widen (k := K + 2) (n := S + 99) (by omega) (by omega) ?_
  exact kk hR hJ hW hF hC hU hZ hP hD hS hl
set_option maxHeartbeats 4000000 in
set_option maxRecDepth 100000 in
theorem lw_c31_2 {p : Program} {l : Launch} {e : Env} {s : State} {m : MethodId} {below : List Frame} {meth : Method} {c : Code} {E : gE} {co : Nat} {u : Nat → Nat} {mo : Nat} {v : Nat → Nat} {b L : Nat} {xs : Nat → Int32} {x3 : Int32} {K S : Nat} (C0 : lw_At p s m meth c b L xs) (hE : rc_ev E (fun q : Nat => s.heap.size ≤ q) s s.heap) (i1 : vp_in (x3 + 1) L) (i2 : vp_in (x3 + 2) L) (i3 : vp_in (x3 + 3) L) (i4 : vp_in (x3 + 4) L) (i5 : vp_in (x3 + 5) L) (hKb : K + 2 ≤ 600000) (hSb : S + 99 ≤ 7302250) (hi : pz_is 2 (xs (x3 + 1).toNatClampNeg)) (kk : lw_go p l e s m below meth c E co u mo v b x3 (K + 2) (S + 99) 1354) : lw_go p l e s m below meth c E co u mo v b x3 K S 1193 := by
  obtain ⟨hx, hb, hr, hml, hown, hts, hX, hbl, hlocks, hgv⟩ := id C0
  have hts := fun w hw => hts w (wsL_law_in w hw)
  have hown : s.vm.findClass RL = some m.cls := hown
  have hb : c.code = cL_law := hb
  have hA : ∀ q : Nat, s.heap.size ≤ q → (fun q : Nat => s.heap.size ≤ q) q := fun _ h => h
  have hbA : ¬ (fun q : Nat => s.heap.size ≤ q) b := Nat.not_le.mpr hbl
  have hK := hE.1
  intro cWs cKp rSz rTc rFa rPa rPy rMi rMe rSr rZ rKi rHe rDo rTx rLa rSk jSz jTc jFa jPa jPy jMi jMe jSr jZ jKi jHe jDo jTx jLa jSk qSz qTc qFa qPa qPy qMi qMe qSr qZ qKi qHe qDo qTx qLa qSk yRi yLe yLa eLn eFt eCc eKy eLv eOb eOn eSt eEd eSo eBy eCo cWt w0So w0Sz w0Vl w1So w1Sz w1Vl w2So w2Sz w2Vl w3So w3Sz w3Vl z0Th z0Ki z0He z0Nu x0So x0Sz x0Vl z1Th z1Ki z1He z1Nu x1So x1Sz x1Vl z2Th z2Ki z2He z2Nu x2So x2Sz x2Vl z3Th z3Ki z3He z3Nu x3So x3Sz x3Vl z4Th z4Ki z4He z4Nu x4So x4Sz x4Vl mHI mFC mLC mCg mTp mNx mFr mTk mVa mEn mKe mCs mAt mHd mWg mNow mImg mAsd mLea mLat mBst mRsk mTap mKys mKat mCod mWts mTes mStk mFct mSor mSiz mCel mHol mHoA mHoB mHoC mMov mTel LT pk pv pa pn tc H locs ls hR hJ hW hF hC hU hZ hP hD hS hl
  refine lv_aload_n hx hb dL_law_1193 rfl (lv_at hl 1 rfl) ?_
  refine lv_aload_n hx hb dL_law_1194 rfl (lv_at hl 0 rfl) ?_
  refine lv_iload_n hx hb dL_law_1195 rfl (lv_at hl 3 rfl) ?_
  refine lv_iconst (v := 1) hx hb dL_law_1196 (by decide) ?_
  refine lv_iadd hx hb dL_law_1197 ?_
  refine va_sld hx hb hX hbl hbA hS i1 dL_law_1198 ?_
  refine lv_topi (fun a1 ae1 => ?_)
  refine lv_aload_n hx hb dL_law_1199 rfl (lv_at hl 0 rfl) ?_
  refine lv_iload_n hx hb dL_law_1200 rfl (lv_at hl 3 rfl) ?_
  refine lv_iconst (v := 2) hx hb dL_law_1201 (by decide) ?_
  refine lv_iadd hx hb dL_law_1202 ?_
  refine va_sld hx hb hX hbl hbA hS i2 dL_law_1203 ?_
  refine lv_topi (fun a2 ae2 => ?_)
  have hi : pz_is 2 a1 := by rw [ae1]; exact hi
  have h := j_item (Sl := lw_sl u) (zo := u 45) a1 a2 hi hZ.2.2.1 rfl
  have hPc := hP.sub (ws' := (rw_16 E co (u 0) (u 7) (u 14) (u 21) (u 25) (u 28) (u 29) (u 30) (u 45) (u 46) (u 47) cWs cKp (lw_sl u) z2Th z2Ki z2He z2Nu x2So x2Sz x2Vl)) [0, 30, 46, 47, 48] rfl
  have hDc := hD.sub (ws' := (rw_16 E co (u 0) (u 7) (u 14) (u 21) (u 25) (u 28) (u 29) (u 30) (u 45) (u 46) (u 47) cWs cKp (lw_sl u) z2Th z2Ki z2He z2Nu x2So x2Sz x2Vl)) [0, 30, 46, 47, 48] (by decide) rfl
  have hFc := va_free (wc := (rw_16 E co (u 0) (u 7) (u 14) (u 21) (u 25) (u 28) (u 29) (u 30) (u 45) (u 46) (u 47) cWs cKp (lw_sl u) z2Th z2Ki z2He z2Nu x2So x2Sz x2Vl)) hD hS hA [0, 30, 46, 47, 48] rfl
  refine va_calli (va_runV (As := [.int a1, .int a2]) (rest := []) ⟨hx, hb, hml, hown, hts⟩ (c_X6_item l E co (u 0) (u 7) (u 14) (u 21) (u 25) (u 28) (u 29) (u 30) (u 45) (u 46) (u 47) H.size cWs cKp (lw_sl u) z2Th z2Ki z2He z2Nu x2So x2Sz x2Vl a1 a2 _ h) (cwV 2 hts gL_law_X6_item rfl rfl rfl (by decide +kernel) ⟨Nat.le_of_ble_eq_true rfl, Nat.le_of_ble_eq_true rfl⟩) ⟨fun a U g mk q => ⟨q.1, q.2.blind⟩, va_recv hK hPc (ci := 6) (q0 := 0) rfl rfl, fun U hU hW => ⟨rfl, by rw [hU], by rw [hU]; exact hPc, hE.call hS hFc hW hU, hDc.weaken (fun _ _ _ _ => trivial)⟩⟩ rfl rfl hl.1 rfl (lv_room (Nat.le_of_ble_eq_true rfl)) dL_law_1204 ⟨show K + 0 ≤ 600000 by omega, show S + 0 ≤ 7302250 by omega⟩) hS (fun q _ h => hFc q h) hFc (fun r1 w t H1 locs ht hvm h hB hz1 hk1 hS => ?_)
  obtain ⟨hP1, hD1⟩ := hB
  rw [ht] at hP1
  obtain ⟨hP, hD⟩ := rc_foc hP hD [0, 30, 46, 47, 48] [some 0, none, none, none, none, none, none, none, none, none, none, none, none, none, none, none, none, none, none, none, none, none, none, none, none, none, none, none, none, none, some 1, none, none, none, none, none, none, none, none, none, none, none, none, none, none, none, some 2, some 3, some 4, none, none, none, none, none, none, none, none, none, none, none, none, none, none, none, none, none, none, none, none, none, none, none, none, none, none, none, none, none, none, none] (by decide) rfl hk1 hP1 rfl
  generalize H1 = H at hP hS ⊢
  have hP : va_P E.1 vwCl (rw_L E co u mo v cWs cKp rSz rTc rFa rPa rPy rMi rMe rSr rZ rKi rHe rDo rTx rLa rSk jSz jTc jFa jPa jPy jMi jMe jSr jZ jKi jHe jDo jTx jLa jSk qSz qTc qFa qPa qPy qMi qMe qSr qZ qKi qHe qDo qTx qLa qSk yRi yLe yLa eLn eFt eCc eKy eLv eOb eOn eSt eEd eSo eBy eCo cWt w0So w0Sz w0Vl w1So w1Sz w1Vl w2So w2Sz w2Vl w3So w3Sz w3Vl z0Th z0Ki z0He z0Nu x0So x0Sz x0Vl z1Th z1Ki z1He z1Nu x1So x1Sz x1Vl z2Th z2Ki z2He z2Nu x2So x2Sz x2Vl z3Th z3Ki z3He z3Nu x3So x3Sz x3Vl z4Th z4Ki z4He z4Nu x4So x4Sz x4Vl mHI mFC mLC mCg mTp mNx mFr mTk mVa mEn mKe mCs mAt mHd mWg mNow mImg mAsd mLea mLat mBst mRsk mTap mKys mKat mCod mWts mTes mStk mFct mSor mSiz mCel mHol mHoA mHoB mHoC mMov mTel ++ rc_tp E LT pk pv pa pn tc) H := hP
  have hD : va_D (fun q : Nat => s.heap.size ≤ q) (rw_L E co u mo v cWs cKp rSz rTc rFa rPa rPy rMi rMe rSr rZ rKi rHe rDo rTx rLa rSk jSz jTc jFa jPa jPy jMi jMe jSr jZ jKi jHe jDo jTx jLa jSk qSz qTc qFa qPa qPy qMi qMe qSr qZ qKi qHe qDo qTx qLa qSk yRi yLe yLa eLn eFt eCc eKy eLv eOb eOn eSt eEd eSo eBy eCo cWt w0So w0Sz w0Vl w1So w1Sz w1Vl w2So w2Sz w2Vl w3So w3Sz w3Vl z0Th z0Ki z0He z0Nu x0So x0Sz x0Vl z1Th z1Ki z1He z1Nu x1So x1Sz x1Vl z2Th z2Ki z2He z2Nu x2So x2Sz x2Vl z3Th z3Ki z3He z3Nu x3So x3Sz x3Vl z4Th z4Ki z4He z4Nu x4So x4Sz x4Vl mHI mFC mLC mCg mTp mNx mFr mTk mVa mEn mKe mCs mAt mHd mWg mNow mImg mAsd mLea mLat mBst mRsk mTap mKys mKat mCod mWts mTes mStk mFct mSor mSiz mCel mHol mHoA mHoB mHoC mMov mTel ++ rc_tp E LT pk pv pa pn tc) := hD
  refine lv_aload_n hx hb dL_law_1207 rfl (lv_at hl 2 rfl) ?_
  refine lv_aload_n hx hb dL_law_1208 rfl (lv_at hl 0 rfl) ?_
  refine lv_iload_n hx hb dL_law_1209 rfl (lv_at hl 3 rfl) ?_
  refine lv_iconst (v := 1) hx hb dL_law_1210 (by decide) ?_
  refine lv_iadd hx hb dL_law_1211 ?_
  refine va_sld hx hb hX hbl hbA hS i1 dL_law_1212 ?_
  refine lv_topi (fun b1 be1 => ?_)
  obtain rfl : a1 = b1 := ae1.trans be1.symm
  refine lv_aload_n hx hb dL_law_1213 rfl (lv_at hl 0 rfl) ?_
  refine lv_iload_n hx hb dL_law_1214 rfl (lv_at hl 3 rfl) ?_
  refine lv_iconst (v := 2) hx hb dL_law_1215 (by decide) ?_
  refine lv_iadd hx hb dL_law_1216 ?_
  refine va_sld hx hb hX hbl hbA hS i2 dL_law_1217 ?_
  refine lv_topi (fun b2 be2 => ?_)
  obtain rfl : a2 = b2 := ae2.trans be2.symm
  have h : wp_X7_item a1 a2 mHol mHoA mHoC _ := h
  have hPc := hP.sub (ws' := (rw_24 E mo (v 0) (v 1) (v 2) (v 3) (v 4) (v 5) (v 6) (v 7) (v 8) (v 9) (v 10) (v 11) (v 12) (v 13) (v 14) (v 15) (v 16) (v 17) (v 18) (v 19) (v 20) (v 21) (v 22) (v 23) mHI mFC mLC mCg mTp mNx mFr mTk mVa mEn mKe mCs mAt mHd mWg mNow mImg mAsd mLea mLat mBst mRsk mTap mKys mKat mCod mWts mTes mStk mFct mSor mSiz mCel mHol mHoA mHoB mHoC mMov mTel)) [55, 56, 57, 58, 59, 60, 61, 62, 63, 64, 65, 66, 67, 68, 69, 70, 71, 72, 73, 74, 75, 76, 77, 78, 79] rfl
  have hDc := hD.sub (ws' := (rw_24 E mo (v 0) (v 1) (v 2) (v 3) (v 4) (v 5) (v 6) (v 7) (v 8) (v 9) (v 10) (v 11) (v 12) (v 13) (v 14) (v 15) (v 16) (v 17) (v 18) (v 19) (v 20) (v 21) (v 22) (v 23) mHI mFC mLC mCg mTp mNx mFr mTk mVa mEn mKe mCs mAt mHd mWg mNow mImg mAsd mLea mLat mBst mRsk mTap mKys mKat mCod mWts mTes mStk mFct mSor mSiz mCel mHol mHoA mHoB mHoC mMov mTel)) [55, 56, 57, 58, 59, 60, 61, 62, 63, 64, 65, 66, 67, 68, 69, 70, 71, 72, 73, 74, 75, 76, 77, 78, 79] (by decide) rfl
  have hFc := va_free (wc := (rw_24 E mo (v 0) (v 1) (v 2) (v 3) (v 4) (v 5) (v 6) (v 7) (v 8) (v 9) (v 10) (v 11) (v 12) (v 13) (v 14) (v 15) (v 16) (v 17) (v 18) (v 19) (v 20) (v 21) (v 22) (v 23) mHI mFC mLC mCg mTp mNx mFr mTk mVa mEn mKe mCs mAt mHd mWg mNow mImg mAsd mLea mLat mBst mRsk mTap mKys mKat mCod mWts mTes mStk mFct mSor mSiz mCel mHol mHoA mHoB mHoC mMov mTel)) hD hS hA [55, 56, 57, 58, 59, 60, 61, 62, 63, 64, 65, 66, 67, 68, 69, 70, 71, 72, 73, 74, 75, 76, 77, 78, 79] rfl
  refine va_calli (va_runV (As := [.int a1, .int a2]) (rest := [.int r1]) ⟨hx, hb, hml, hown, hts⟩ (c_X7_item l E mo (v 0) (v 1) (v 2) (v 3) (v 4) (v 5) (v 6) (v 7) (v 8) (v 9) (v 10) (v 11) (v 12) (v 13) (v 14) (v 15) (v 16) (v 17) (v 18) (v 19) (v 20) (v 21) (v 22) (v 23) H.size mHI mFC mLC mCg mTp mNx mFr mTk mVa mEn mKe mCs mAt mHd mWg mNow mImg mAsd mLea mLat mBst mRsk mTap mKys mKat mCod mWts mTes mStk mFct mSor mSiz mCel mHol mHoA mHoB mHoC mMov mTel a1 a2 _ h) (cwV 2 hts gL_law_X7_item rfl rfl rfl (by decide +kernel) ⟨Nat.le_of_ble_eq_true rfl, Nat.le_of_ble_eq_true rfl⟩) ⟨fun a U g mk q => ⟨q.1, q.2.blind⟩, va_recv hK hPc (ci := 7) (q0 := 0) rfl rfl, fun U hU hW => ⟨rfl, by rw [hU], by rw [hU]; exact hPc, hE.call hS hFc hW hU, hDc.weaken (fun _ _ _ _ => trivial)⟩⟩ rfl rfl hl.1 rfl (lv_room (Nat.le_of_ble_eq_true rfl)) dL_law_1218 ⟨show (K + 0) + 0 ≤ 600000 by omega, show (S + 0) + 0 ≤ 7302250 by omega⟩) hS (fun q _ h => hFc q h) hFc (fun r2 w t H1 locs ht hvm h hB hz1 hk1 hS => ?_)
  obtain ⟨hP1, hD1⟩ := hB
  rw [ht] at hP1
  obtain ⟨hP, hD⟩ := rc_foc hP hD [55, 56, 57, 58, 59, 60, 61, 62, 63, 64, 65, 66, 67, 68, 69, 70, 71, 72, 73, 74, 75, 76, 77, 78, 79] [none, none, none, none, none, none, none, none, none, none, none, none, none, none, none, none, none, none, none, none, none, none, none, none, none, none, none, none, none, none, none, none, none, none, none, none, none, none, none, none, none, none, none, none, none, none, none, none, none, none, none, none, none, none, none, some 0, some 1, some 2, some 3, some 4, some 5, some 6, some 7, some 8, some 9, some 10, some 11, some 12, some 13, some 14, some 15, some 16, some 17, some 18, some 19, some 20, some 21, some 22, some 23, some 24] (by decide) rfl hk1 hP1 rfl
  generalize H1 = H at hP hS ⊢
  have hP : va_P E.1 vwCl (rw_L E co u mo v cWs cKp rSz rTc rFa rPa rPy rMi rMe rSr rZ rKi rHe rDo rTx rLa rSk jSz jTc jFa jPa jPy jMi jMe jSr jZ jKi jHe jDo jTx jLa jSk qSz qTc qFa qPa qPy qMi qMe qSr qZ qKi qHe qDo qTx qLa qSk yRi yLe yLa eLn eFt eCc eKy eLv eOb eOn eSt eEd eSo eBy eCo cWt w0So w0Sz w0Vl w1So w1Sz w1Vl w2So w2Sz w2Vl w3So w3Sz w3Vl z0Th z0Ki z0He z0Nu x0So x0Sz x0Vl z1Th z1Ki z1He z1Nu x1So x1Sz x1Vl z2Th z2Ki z2He z2Nu x2So x2Sz x2Vl z3Th z3Ki z3He z3Nu x3So x3Sz x3Vl z4Th z4Ki z4He z4Nu x4So x4Sz x4Vl mHI mFC mLC mCg mTp mNx mFr mTk mVa mEn mKe mCs mAt mHd mWg mNow mImg mAsd mLea mLat mBst mRsk mTap mKys mKat mCod mWts mTes mStk mFct mSor mSiz mCel mHol mHoA mHoB mHoC mMov mTel ++ rc_tp E LT pk pv pa pn tc) H := hP
  have hD : va_D (fun q : Nat => s.heap.size ≤ q) (rw_L E co u mo v cWs cKp rSz rTc rFa rPa rPy rMi rMe rSr rZ rKi rHe rDo rTx rLa rSk jSz jTc jFa jPa jPy jMi jMe jSr jZ jKi jHe jDo jTx jLa jSk qSz qTc qFa qPa qPy qMi qMe qSr qZ qKi qHe qDo qTx qLa qSk yRi yLe yLa eLn eFt eCc eKy eLv eOb eOn eSt eEd eSo eBy eCo cWt w0So w0Sz w0Vl w1So w1Sz w1Vl w2So w2Sz w2Vl w3So w3Sz w3Vl z0Th z0Ki z0He z0Nu x0So x0Sz x0Vl z1Th z1Ki z1He z1Nu x1So x1Sz x1Vl z2Th z2Ki z2He z2Nu x2So x2Sz x2Vl z3Th z3Ki z3He z3Nu x3So x3Sz x3Vl z4Th z4Ki z4He z4Nu x4So x4Sz x4Vl mHI mFC mLC mCg mTp mNx mFr mTk mVa mEn mKe mCs mAt mHd mWg mNow mImg mAsd mLea mLat mBst mRsk mTap mKys mKat mCod mWts mTes mStk mFct mSor mSiz mCel mHol mHoA mHoB mHoC mMov mTel ++ rc_tp E LT pk pv pa pn tc) := hD
  refine lv_icmp_eq (tgt := 1354) hx hb dL_law_1221 (by decide) (fun _ => ?_) (fun z => absurd h z)
  refine W.widen (k := K + 2) (n := S + 99) (by omega) (by omega) ?_
  exact kk hR hJ hW hF hC hU hZ hP hD hS hl
set_option maxHeartbeats 4000000 in
set_option maxRecDepth 100000 in
theorem lw_c31_3 {p : Program} {l : Launch} {e : Env} {s : State} {m : MethodId} {below : List Frame} {meth : Method} {c : Code} {E : gE} {co : Nat} {u : Nat → Nat} {mo : Nat} {v : Nat → Nat} {b L : Nat} {xs : Nat → Int32} {x3 : Int32} {K S : Nat} (C0 : lw_At p s m meth c b L xs) (hE : rc_ev E (fun q : Nat => s.heap.size ≤ q) s s.heap) (i1 : vp_in (x3 + 1) L) (i2 : vp_in (x3 + 2) L) (i3 : vp_in (x3 + 3) L) (i4 : vp_in (x3 + 4) L) (i5 : vp_in (x3 + 5) L) (hKb : K + 2 ≤ 600000) (hSb : S + 99 ≤ 7302250) (hi : pz_is 3 (xs (x3 + 1).toNatClampNeg)) (kk : lw_go p l e s m below meth c E co u mo v b x3 (K + 2) (S + 99) 1354) : lw_go p l e s m below meth c E co u mo v b x3 K S 1193 := by
  obtain ⟨hx, hb, hr, hml, hown, hts, hX, hbl, hlocks, hgv⟩ := id C0
  have hts := fun w hw => hts w (wsL_law_in w hw)
  have hown : s.vm.findClass RL = some m.cls := hown
  have hb : c.code = cL_law := hb
  have hA : ∀ q : Nat, s.heap.size ≤ q → (fun q : Nat => s.heap.size ≤ q) q := fun _ h => h
  have hbA : ¬ (fun q : Nat => s.heap.size ≤ q) b := Nat.not_le.mpr hbl
  have hK := hE.1
  intro cWs cKp rSz rTc rFa rPa rPy rMi rMe rSr rZ rKi rHe rDo rTx rLa rSk jSz jTc jFa jPa jPy jMi jMe jSr jZ jKi jHe jDo jTx jLa jSk qSz qTc qFa qPa qPy qMi qMe qSr qZ qKi qHe qDo qTx qLa qSk yRi yLe yLa eLn eFt eCc eKy eLv eOb eOn eSt eEd eSo eBy eCo cWt w0So w0Sz w0Vl w1So w1Sz w1Vl w2So w2Sz w2Vl w3So w3Sz w3Vl z0Th z0Ki z0He z0Nu x0So x0Sz x0Vl z1Th z1Ki z1He z1Nu x1So x1Sz x1Vl z2Th z2Ki z2He z2Nu x2So x2Sz x2Vl z3Th z3Ki z3He z3Nu x3So x3Sz x3Vl z4Th z4Ki z4He z4Nu x4So x4Sz x4Vl mHI mFC mLC mCg mTp mNx mFr mTk mVa mEn mKe mCs mAt mHd mWg mNow mImg mAsd mLea mLat mBst mRsk mTap mKys mKat mCod mWts mTes mStk mFct mSor mSiz mCel mHol mHoA mHoB mHoC mMov mTel LT pk pv pa pn tc H locs ls hR hJ hW hF hC hU hZ hP hD hS hl
  refine lv_aload_n hx hb dL_law_1193 rfl (lv_at hl 1 rfl) ?_
  refine lv_aload_n hx hb dL_law_1194 rfl (lv_at hl 0 rfl) ?_
  refine lv_iload_n hx hb dL_law_1195 rfl (lv_at hl 3 rfl) ?_
  refine lv_iconst (v := 1) hx hb dL_law_1196 (by decide) ?_
  refine lv_iadd hx hb dL_law_1197 ?_
  refine va_sld hx hb hX hbl hbA hS i1 dL_law_1198 ?_
  refine lv_topi (fun a1 ae1 => ?_)
  refine lv_aload_n hx hb dL_law_1199 rfl (lv_at hl 0 rfl) ?_
  refine lv_iload_n hx hb dL_law_1200 rfl (lv_at hl 3 rfl) ?_
  refine lv_iconst (v := 2) hx hb dL_law_1201 (by decide) ?_
  refine lv_iadd hx hb dL_law_1202 ?_
  refine va_sld hx hb hX hbl hbA hS i2 dL_law_1203 ?_
  refine lv_topi (fun a2 ae2 => ?_)
  have hi : pz_is 3 a1 := by rw [ae1]; exact hi
  have h := j_item (Sl := lw_sl u) (zo := u 48) a1 a2 hi hZ.2.2.2.1 rfl
  have hPc := hP.sub (ws' := (rw_16 E co (u 0) (u 7) (u 14) (u 21) (u 25) (u 28) (u 29) (u 30) (u 48) (u 49) (u 50) cWs cKp (lw_sl u) z3Th z3Ki z3He z3Nu x3So x3Sz x3Vl)) [0, 30, 49, 50, 51] rfl
  have hDc := hD.sub (ws' := (rw_16 E co (u 0) (u 7) (u 14) (u 21) (u 25) (u 28) (u 29) (u 30) (u 48) (u 49) (u 50) cWs cKp (lw_sl u) z3Th z3Ki z3He z3Nu x3So x3Sz x3Vl)) [0, 30, 49, 50, 51] (by decide) rfl
  have hFc := va_free (wc := (rw_16 E co (u 0) (u 7) (u 14) (u 21) (u 25) (u 28) (u 29) (u 30) (u 48) (u 49) (u 50) cWs cKp (lw_sl u) z3Th z3Ki z3He z3Nu x3So x3Sz x3Vl)) hD hS hA [0, 30, 49, 50, 51] rfl
  refine va_calli (va_runV (As := [.int a1, .int a2]) (rest := []) ⟨hx, hb, hml, hown, hts⟩ (c_X6_item l E co (u 0) (u 7) (u 14) (u 21) (u 25) (u 28) (u 29) (u 30) (u 48) (u 49) (u 50) H.size cWs cKp (lw_sl u) z3Th z3Ki z3He z3Nu x3So x3Sz x3Vl a1 a2 _ h) (cwV 2 hts gL_law_X6_item rfl rfl rfl (by decide +kernel) ⟨Nat.le_of_ble_eq_true rfl, Nat.le_of_ble_eq_true rfl⟩) ⟨fun a U g mk q => ⟨q.1, q.2.blind⟩, va_recv hK hPc (ci := 6) (q0 := 0) rfl rfl, fun U hU hW => ⟨rfl, by rw [hU], by rw [hU]; exact hPc, hE.call hS hFc hW hU, hDc.weaken (fun _ _ _ _ => trivial)⟩⟩ rfl rfl hl.1 rfl (lv_room (Nat.le_of_ble_eq_true rfl)) dL_law_1204 ⟨show K + 0 ≤ 600000 by omega, show S + 0 ≤ 7302250 by omega⟩) hS (fun q _ h => hFc q h) hFc (fun r1 w t H1 locs ht hvm h hB hz1 hk1 hS => ?_)
  obtain ⟨hP1, hD1⟩ := hB
  rw [ht] at hP1
  obtain ⟨hP, hD⟩ := rc_foc hP hD [0, 30, 49, 50, 51] [some 0, none, none, none, none, none, none, none, none, none, none, none, none, none, none, none, none, none, none, none, none, none, none, none, none, none, none, none, none, none, some 1, none, none, none, none, none, none, none, none, none, none, none, none, none, none, none, none, none, none, some 2, some 3, some 4, none, none, none, none, none, none, none, none, none, none, none, none, none, none, none, none, none, none, none, none, none, none, none, none, none, none, none, none] (by decide) rfl hk1 hP1 rfl
  generalize H1 = H at hP hS ⊢
  have hP : va_P E.1 vwCl (rw_L E co u mo v cWs cKp rSz rTc rFa rPa rPy rMi rMe rSr rZ rKi rHe rDo rTx rLa rSk jSz jTc jFa jPa jPy jMi jMe jSr jZ jKi jHe jDo jTx jLa jSk qSz qTc qFa qPa qPy qMi qMe qSr qZ qKi qHe qDo qTx qLa qSk yRi yLe yLa eLn eFt eCc eKy eLv eOb eOn eSt eEd eSo eBy eCo cWt w0So w0Sz w0Vl w1So w1Sz w1Vl w2So w2Sz w2Vl w3So w3Sz w3Vl z0Th z0Ki z0He z0Nu x0So x0Sz x0Vl z1Th z1Ki z1He z1Nu x1So x1Sz x1Vl z2Th z2Ki z2He z2Nu x2So x2Sz x2Vl z3Th z3Ki z3He z3Nu x3So x3Sz x3Vl z4Th z4Ki z4He z4Nu x4So x4Sz x4Vl mHI mFC mLC mCg mTp mNx mFr mTk mVa mEn mKe mCs mAt mHd mWg mNow mImg mAsd mLea mLat mBst mRsk mTap mKys mKat mCod mWts mTes mStk mFct mSor mSiz mCel mHol mHoA mHoB mHoC mMov mTel ++ rc_tp E LT pk pv pa pn tc) H := hP
  have hD : va_D (fun q : Nat => s.heap.size ≤ q) (rw_L E co u mo v cWs cKp rSz rTc rFa rPa rPy rMi rMe rSr rZ rKi rHe rDo rTx rLa rSk jSz jTc jFa jPa jPy jMi jMe jSr jZ jKi jHe jDo jTx jLa jSk qSz qTc qFa qPa qPy qMi qMe qSr qZ qKi qHe qDo qTx qLa qSk yRi yLe yLa eLn eFt eCc eKy eLv eOb eOn eSt eEd eSo eBy eCo cWt w0So w0Sz w0Vl w1So w1Sz w1Vl w2So w2Sz w2Vl w3So w3Sz w3Vl z0Th z0Ki z0He z0Nu x0So x0Sz x0Vl z1Th z1Ki z1He z1Nu x1So x1Sz x1Vl z2Th z2Ki z2He z2Nu x2So x2Sz x2Vl z3Th z3Ki z3He z3Nu x3So x3Sz x3Vl z4Th z4Ki z4He z4Nu x4So x4Sz x4Vl mHI mFC mLC mCg mTp mNx mFr mTk mVa mEn mKe mCs mAt mHd mWg mNow mImg mAsd mLea mLat mBst mRsk mTap mKys mKat mCod mWts mTes mStk mFct mSor mSiz mCel mHol mHoA mHoB mHoC mMov mTel ++ rc_tp E LT pk pv pa pn tc) := hD
  refine lv_aload_n hx hb dL_law_1207 rfl (lv_at hl 2 rfl) ?_
  refine lv_aload_n hx hb dL_law_1208 rfl (lv_at hl 0 rfl) ?_
  refine lv_iload_n hx hb dL_law_1209 rfl (lv_at hl 3 rfl) ?_
  refine lv_iconst (v := 1) hx hb dL_law_1210 (by decide) ?_
  refine lv_iadd hx hb dL_law_1211 ?_
  refine va_sld hx hb hX hbl hbA hS i1 dL_law_1212 ?_
  refine lv_topi (fun b1 be1 => ?_)
  obtain rfl : a1 = b1 := ae1.trans be1.symm
  refine lv_aload_n hx hb dL_law_1213 rfl (lv_at hl 0 rfl) ?_
  refine lv_iload_n hx hb dL_law_1214 rfl (lv_at hl 3 rfl) ?_
  refine lv_iconst (v := 2) hx hb dL_law_1215 (by decide) ?_
  refine lv_iadd hx hb dL_law_1216 ?_
  refine va_sld hx hb hX hbl hbA hS i2 dL_law_1217 ?_
  refine lv_topi (fun b2 be2 => ?_)
  obtain rfl : a2 = b2 := ae2.trans be2.symm
  have h : wp_X7_item a1 a2 mHol mHoA mHoC _ := h
  have hPc := hP.sub (ws' := (rw_24 E mo (v 0) (v 1) (v 2) (v 3) (v 4) (v 5) (v 6) (v 7) (v 8) (v 9) (v 10) (v 11) (v 12) (v 13) (v 14) (v 15) (v 16) (v 17) (v 18) (v 19) (v 20) (v 21) (v 22) (v 23) mHI mFC mLC mCg mTp mNx mFr mTk mVa mEn mKe mCs mAt mHd mWg mNow mImg mAsd mLea mLat mBst mRsk mTap mKys mKat mCod mWts mTes mStk mFct mSor mSiz mCel mHol mHoA mHoB mHoC mMov mTel)) [55, 56, 57, 58, 59, 60, 61, 62, 63, 64, 65, 66, 67, 68, 69, 70, 71, 72, 73, 74, 75, 76, 77, 78, 79] rfl
  have hDc := hD.sub (ws' := (rw_24 E mo (v 0) (v 1) (v 2) (v 3) (v 4) (v 5) (v 6) (v 7) (v 8) (v 9) (v 10) (v 11) (v 12) (v 13) (v 14) (v 15) (v 16) (v 17) (v 18) (v 19) (v 20) (v 21) (v 22) (v 23) mHI mFC mLC mCg mTp mNx mFr mTk mVa mEn mKe mCs mAt mHd mWg mNow mImg mAsd mLea mLat mBst mRsk mTap mKys mKat mCod mWts mTes mStk mFct mSor mSiz mCel mHol mHoA mHoB mHoC mMov mTel)) [55, 56, 57, 58, 59, 60, 61, 62, 63, 64, 65, 66, 67, 68, 69, 70, 71, 72, 73, 74, 75, 76, 77, 78, 79] (by decide) rfl
  have hFc := va_free (wc := (rw_24 E mo (v 0) (v 1) (v 2) (v 3) (v 4) (v 5) (v 6) (v 7) (v 8) (v 9) (v 10) (v 11) (v 12) (v 13) (v 14) (v 15) (v 16) (v 17) (v 18) (v 19) (v 20) (v 21) (v 22) (v 23) mHI mFC mLC mCg mTp mNx mFr mTk mVa mEn mKe mCs mAt mHd mWg mNow mImg mAsd mLea mLat mBst mRsk mTap mKys mKat mCod mWts mTes mStk mFct mSor mSiz mCel mHol mHoA mHoB mHoC mMov mTel)) hD hS hA [55, 56, 57, 58, 59, 60, 61, 62, 63, 64, 65, 66, 67, 68, 69, 70, 71, 72, 73, 74, 75, 76, 77, 78, 79] rfl
  refine va_calli (va_runV (As := [.int a1, .int a2]) (rest := [.int r1]) ⟨hx, hb, hml, hown, hts⟩ (c_X7_item l E mo (v 0) (v 1) (v 2) (v 3) (v 4) (v 5) (v 6) (v 7) (v 8) (v 9) (v 10) (v 11) (v 12) (v 13) (v 14) (v 15) (v 16) (v 17) (v 18) (v 19) (v 20) (v 21) (v 22) (v 23) H.size mHI mFC mLC mCg mTp mNx mFr mTk mVa mEn mKe mCs mAt mHd mWg mNow mImg mAsd mLea mLat mBst mRsk mTap mKys mKat mCod mWts mTes mStk mFct mSor mSiz mCel mHol mHoA mHoB mHoC mMov mTel a1 a2 _ h) (cwV 2 hts gL_law_X7_item rfl rfl rfl (by decide +kernel) ⟨Nat.le_of_ble_eq_true rfl, Nat.le_of_ble_eq_true rfl⟩) ⟨fun a U g mk q => ⟨q.1, q.2.blind⟩, va_recv hK hPc (ci := 7) (q0 := 0) rfl rfl, fun U hU hW => ⟨rfl, by rw [hU], by rw [hU]; exact hPc, hE.call hS hFc hW hU, hDc.weaken (fun _ _ _ _ => trivial)⟩⟩ rfl rfl hl.1 rfl (lv_room (Nat.le_of_ble_eq_true rfl)) dL_law_1218 ⟨show (K + 0) + 0 ≤ 600000 by omega, show (S + 0) + 0 ≤ 7302250 by omega⟩) hS (fun q _ h => hFc q h) hFc (fun r2 w t H1 locs ht hvm h hB hz1 hk1 hS => ?_)
  obtain ⟨hP1, hD1⟩ := hB
  rw [ht] at hP1
  obtain ⟨hP, hD⟩ := rc_foc hP hD [55, 56, 57, 58, 59, 60, 61, 62, 63, 64, 65, 66, 67, 68, 69, 70, 71, 72, 73, 74, 75, 76, 77, 78, 79] [none, none, none, none, none, none, none, none, none, none, none, none, none, none, none, none, none, none, none, none, none, none, none, none, none, none, none, none, none, none, none, none, none, none, none, none, none, none, none, none, none, none, none, none, none, none, none, none, none, none, none, none, none, none, none, some 0, some 1, some 2, some 3, some 4, some 5, some 6, some 7, some 8, some 9, some 10, some 11, some 12, some 13, some 14, some 15, some 16, some 17, some 18, some 19, some 20, some 21, some 22, some 23, some 24] (by decide) rfl hk1 hP1 rfl
  generalize H1 = H at hP hS ⊢
  have hP : va_P E.1 vwCl (rw_L E co u mo v cWs cKp rSz rTc rFa rPa rPy rMi rMe rSr rZ rKi rHe rDo rTx rLa rSk jSz jTc jFa jPa jPy jMi jMe jSr jZ jKi jHe jDo jTx jLa jSk qSz qTc qFa qPa qPy qMi qMe qSr qZ qKi qHe qDo qTx qLa qSk yRi yLe yLa eLn eFt eCc eKy eLv eOb eOn eSt eEd eSo eBy eCo cWt w0So w0Sz w0Vl w1So w1Sz w1Vl w2So w2Sz w2Vl w3So w3Sz w3Vl z0Th z0Ki z0He z0Nu x0So x0Sz x0Vl z1Th z1Ki z1He z1Nu x1So x1Sz x1Vl z2Th z2Ki z2He z2Nu x2So x2Sz x2Vl z3Th z3Ki z3He z3Nu x3So x3Sz x3Vl z4Th z4Ki z4He z4Nu x4So x4Sz x4Vl mHI mFC mLC mCg mTp mNx mFr mTk mVa mEn mKe mCs mAt mHd mWg mNow mImg mAsd mLea mLat mBst mRsk mTap mKys mKat mCod mWts mTes mStk mFct mSor mSiz mCel mHol mHoA mHoB mHoC mMov mTel ++ rc_tp E LT pk pv pa pn tc) H := hP
  have hD : va_D (fun q : Nat => s.heap.size ≤ q) (rw_L E co u mo v cWs cKp rSz rTc rFa rPa rPy rMi rMe rSr rZ rKi rHe rDo rTx rLa rSk jSz jTc jFa jPa jPy jMi jMe jSr jZ jKi jHe jDo jTx jLa jSk qSz qTc qFa qPa qPy qMi qMe qSr qZ qKi qHe qDo qTx qLa qSk yRi yLe yLa eLn eFt eCc eKy eLv eOb eOn eSt eEd eSo eBy eCo cWt w0So w0Sz w0Vl w1So w1Sz w1Vl w2So w2Sz w2Vl w3So w3Sz w3Vl z0Th z0Ki z0He z0Nu x0So x0Sz x0Vl z1Th z1Ki z1He z1Nu x1So x1Sz x1Vl z2Th z2Ki z2He z2Nu x2So x2Sz x2Vl z3Th z3Ki z3He z3Nu x3So x3Sz x3Vl z4Th z4Ki z4He z4Nu x4So x4Sz x4Vl mHI mFC mLC mCg mTp mNx mFr mTk mVa mEn mKe mCs mAt mHd mWg mNow mImg mAsd mLea mLat mBst mRsk mTap mKys mKat mCod mWts mTes mStk mFct mSor mSiz mCel mHol mHoA mHoB mHoC mMov mTel ++ rc_tp E LT pk pv pa pn tc) := hD
  refine lv_icmp_eq (tgt := 1354) hx hb dL_law_1221 (by decide) (fun _ => ?_) (fun z => absurd h z)
  refine W.widen (k := K + 2) (n := S + 99) (by omega) (by omega) ?_
  exact kk hR hJ hW hF hC hU hZ hP hD hS hl
