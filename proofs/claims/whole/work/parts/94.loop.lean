theorem lw_d0 {p : Program} {l : Launch} {e : Env} {s : State} {m : MethodId} {below : List Frame} {meth : Method} {c : Code} {E : gE} {co : Nat} {u : Nat → Nat} {mo : Nat} {v : Nat → Nat} {b L : Nat} {xs : Nat → Int32} {x3 : Int32} {K S : Nat} (C0 : lw_At p s m meth c b L xs) (hE : rc_ev E (fun q : Nat => s.heap.size ≤ q) s s.heap) (i1 : vp_in (x3 + 1) L) (i2 : vp_in (x3 + 2) L) (i3 : vp_in (x3 + 3) L) (i4 : vp_in (x3 + 4) L) (i5 : vp_in (x3 + 5) L) (hKb : K + 2 ≤ 600000) (hSb : S + 99 ≤ 7302250) (kk : lw_go p l e s m below meth c E co u mo v b x3 (K + 2) (S + 99) 1354) : lw_go p l e s m below meth c E co u mo v b x3 K S 200 := by
  exact lw_c0 C0 hE i1 i2 i3 i4 i5 hKb hSb kk
theorem lw_d1 {p : Program} {l : Launch} {e : Env} {s : State} {m : MethodId} {below : List Frame} {meth : Method} {c : Code} {E : gE} {co : Nat} {u : Nat → Nat} {mo : Nat} {v : Nat → Nat} {b L : Nat} {xs : Nat → Int32} {x3 : Int32} {K S : Nat} (C0 : lw_At p s m meth c b L xs) (hE : rc_ev E (fun q : Nat => s.heap.size ≤ q) s s.heap) (i1 : vp_in (x3 + 1) L) (i2 : vp_in (x3 + 2) L) (i3 : vp_in (x3 + 3) L) (i4 : vp_in (x3 + 4) L) (i5 : vp_in (x3 + 5) L) (hKb : K + 2 ≤ 600000) (hSb : S + 99 ≤ 7302250) (kk : lw_go p l e s m below meth c E co u mo v b x3 (K + 2) (S + 99) 1354) : lw_go p l e s m below meth c E co u mo v b x3 K S 233 := by
  exact lw_c1 C0 hE i1 i2 i3 i4 i5 hKb hSb kk
theorem lw_d2 {p : Program} {l : Launch} {e : Env} {s : State} {m : MethodId} {below : List Frame} {meth : Method} {c : Code} {E : gE} {co : Nat} {u : Nat → Nat} {mo : Nat} {v : Nat → Nat} {b L : Nat} {xs : Nat → Int32} {x3 : Int32} {K S : Nat} (C0 : lw_At p s m meth c b L xs) (hE : rc_ev E (fun q : Nat => s.heap.size ≤ q) s s.heap) (i1 : vp_in (x3 + 1) L) (i2 : vp_in (x3 + 2) L) (i3 : vp_in (x3 + 3) L) (i4 : vp_in (x3 + 4) L) (i5 : vp_in (x3 + 5) L) (hKb : K + 2 ≤ 600000) (hSb : S + 99 ≤ 7302250) (kk : lw_go p l e s m below meth c E co u mo v b x3 (K + 2) (S + 99) 1354) : lw_go p l e s m below meth c E co u mo v b x3 K S 266 := by
  exact lw_c2 C0 hE i1 i2 i3 i4 i5 hKb hSb kk
theorem lw_d3 {p : Program} {l : Launch} {e : Env} {s : State} {m : MethodId} {below : List Frame} {meth : Method} {c : Code} {E : gE} {co : Nat} {u : Nat → Nat} {mo : Nat} {v : Nat → Nat} {b L : Nat} {xs : Nat → Int32} {x3 : Int32} {K S : Nat} (C0 : lw_At p s m meth c b L xs) (hE : rc_ev E (fun q : Nat => s.heap.size ≤ q) s s.heap) (i1 : vp_in (x3 + 1) L) (i2 : vp_in (x3 + 2) L) (i3 : vp_in (x3 + 3) L) (i4 : vp_in (x3 + 4) L) (i5 : vp_in (x3 + 5) L) (hKb : K + 2 ≤ 600000) (hSb : S + 99 ≤ 7302250) (kk : lw_go p l e s m below meth c E co u mo v b x3 (K + 2) (S + 99) 1354) : lw_go p l e s m below meth c E co u mo v b x3 K S 299 := by
  exact lw_c3 C0 hE i1 i2 i3 i4 i5 hKb hSb kk
theorem lw_d4 {p : Program} {l : Launch} {e : Env} {s : State} {m : MethodId} {below : List Frame} {meth : Method} {c : Code} {E : gE} {co : Nat} {u : Nat → Nat} {mo : Nat} {v : Nat → Nat} {b L : Nat} {xs : Nat → Int32} {x3 : Int32} {K S : Nat} (C0 : lw_At p s m meth c b L xs) (hE : rc_ev E (fun q : Nat => s.heap.size ≤ q) s s.heap) (i1 : vp_in (x3 + 1) L) (i2 : vp_in (x3 + 2) L) (i3 : vp_in (x3 + 3) L) (i4 : vp_in (x3 + 4) L) (i5 : vp_in (x3 + 5) L) (hKb : K + 2 ≤ 600000) (hSb : S + 99 ≤ 7302250) (kk : lw_go p l e s m below meth c E co u mo v b x3 (K + 2) (S + 99) 1354) : lw_go p l e s m below meth c E co u mo v b x3 K S 332 := by
  exact lw_c4 C0 hE i1 i2 i3 i4 i5 hKb hSb kk
theorem lw_d5 {p : Program} {l : Launch} {e : Env} {s : State} {m : MethodId} {below : List Frame} {meth : Method} {c : Code} {E : gE} {co : Nat} {u : Nat → Nat} {mo : Nat} {v : Nat → Nat} {b L : Nat} {xs : Nat → Int32} {x3 : Int32} {K S : Nat} (C0 : lw_At p s m meth c b L xs) (hE : rc_ev E (fun q : Nat => s.heap.size ≤ q) s s.heap) (i1 : vp_in (x3 + 1) L) (i2 : vp_in (x3 + 2) L) (i3 : vp_in (x3 + 3) L) (i4 : vp_in (x3 + 4) L) (i5 : vp_in (x3 + 5) L) (hKb : K + 2 ≤ 600000) (hSb : S + 99 ≤ 7302250) (kk : lw_go p l e s m below meth c E co u mo v b x3 (K + 2) (S + 99) 1354) : lw_go p l e s m below meth c E co u mo v b x3 K S 375 := by
  exact lw_c5 C0 hE i1 i2 i3 i4 i5 hKb hSb kk
theorem lw_d6 {p : Program} {l : Launch} {e : Env} {s : State} {m : MethodId} {below : List Frame} {meth : Method} {c : Code} {E : gE} {co : Nat} {u : Nat → Nat} {mo : Nat} {v : Nat → Nat} {b L : Nat} {xs : Nat → Int32} {x3 : Int32} {K S : Nat} (C0 : lw_At p s m meth c b L xs) (hE : rc_ev E (fun q : Nat => s.heap.size ≤ q) s s.heap) (i1 : vp_in (x3 + 1) L) (i2 : vp_in (x3 + 2) L) (i3 : vp_in (x3 + 3) L) (i4 : vp_in (x3 + 4) L) (i5 : vp_in (x3 + 5) L) (hKb : K + 2 ≤ 600000) (hSb : S + 99 ≤ 7302250) (kk : lw_go p l e s m below meth c E co u mo v b x3 (K + 2) (S + 99) 1354) : lw_go p l e s m below meth c E co u mo v b x3 K S 398 := by
  exact lw_c6 C0 hE i1 i2 i3 i4 i5 hKb hSb kk
theorem lw_d7 {p : Program} {l : Launch} {e : Env} {s : State} {m : MethodId} {below : List Frame} {meth : Method} {c : Code} {E : gE} {co : Nat} {u : Nat → Nat} {mo : Nat} {v : Nat → Nat} {b L : Nat} {xs : Nat → Int32} {x3 : Int32} {K S : Nat} (C0 : lw_At p s m meth c b L xs) (hE : rc_ev E (fun q : Nat => s.heap.size ≤ q) s s.heap) (i1 : vp_in (x3 + 1) L) (i2 : vp_in (x3 + 2) L) (i3 : vp_in (x3 + 3) L) (i4 : vp_in (x3 + 4) L) (i5 : vp_in (x3 + 5) L) (hKb : K + 2 ≤ 600000) (hSb : S + 99 ≤ 7302250) (kk : lw_go p l e s m below meth c E co u mo v b x3 (K + 2) (S + 99) 1354) : lw_go p l e s m below meth c E co u mo v b x3 K S 421 := by
  exact lw_c7 C0 hE i1 i2 i3 i4 i5 hKb hSb kk
theorem lw_d8 {p : Program} {l : Launch} {e : Env} {s : State} {m : MethodId} {below : List Frame} {meth : Method} {c : Code} {E : gE} {co : Nat} {u : Nat → Nat} {mo : Nat} {v : Nat → Nat} {b L : Nat} {xs : Nat → Int32} {x3 : Int32} {K S : Nat} (C0 : lw_At p s m meth c b L xs) (hE : rc_ev E (fun q : Nat => s.heap.size ≤ q) s s.heap) (i1 : vp_in (x3 + 1) L) (i2 : vp_in (x3 + 2) L) (i3 : vp_in (x3 + 3) L) (i4 : vp_in (x3 + 4) L) (i5 : vp_in (x3 + 5) L) (hKb : K + 2 ≤ 600000) (hSb : S + 99 ≤ 7302250) (kk : lw_go p l e s m below meth c E co u mo v b x3 (K + 2) (S + 99) 1354) : lw_go p l e s m below meth c E co u mo v b x3 K S 454 := by
  exact lw_c8 C0 hE i1 i2 i3 i4 i5 hKb hSb kk
theorem lw_d9 {p : Program} {l : Launch} {e : Env} {s : State} {m : MethodId} {below : List Frame} {meth : Method} {c : Code} {E : gE} {co : Nat} {u : Nat → Nat} {mo : Nat} {v : Nat → Nat} {b L : Nat} {xs : Nat → Int32} {x3 : Int32} {K S : Nat} (C0 : lw_At p s m meth c b L xs) (hE : rc_ev E (fun q : Nat => s.heap.size ≤ q) s s.heap) (i1 : vp_in (x3 + 1) L) (i2 : vp_in (x3 + 2) L) (i3 : vp_in (x3 + 3) L) (i4 : vp_in (x3 + 4) L) (i5 : vp_in (x3 + 5) L) (hKb : K + 2 ≤ 600000) (hSb : S + 99 ≤ 7302250) (kk : lw_go p l e s m below meth c E co u mo v b x3 (K + 2) (S + 99) 1354) : lw_go p l e s m below meth c E co u mo v b x3 K S 487 := by
  exact lw_c9 C0 hE i1 i2 i3 i4 i5 hKb hSb kk
theorem lw_d10 {p : Program} {l : Launch} {e : Env} {s : State} {m : MethodId} {below : List Frame} {meth : Method} {c : Code} {E : gE} {co : Nat} {u : Nat → Nat} {mo : Nat} {v : Nat → Nat} {b L : Nat} {xs : Nat → Int32} {x3 : Int32} {K S : Nat} (C0 : lw_At p s m meth c b L xs) (hE : rc_ev E (fun q : Nat => s.heap.size ≤ q) s s.heap) (i1 : vp_in (x3 + 1) L) (i2 : vp_in (x3 + 2) L) (i3 : vp_in (x3 + 3) L) (i4 : vp_in (x3 + 4) L) (i5 : vp_in (x3 + 5) L) (hKb : K + 2 ≤ 600000) (hSb : S + 99 ≤ 7302250) (kk : lw_go p l e s m below meth c E co u mo v b x3 (K + 2) (S + 99) 1354) : lw_go p l e s m below meth c E co u mo v b x3 K S 520 := by
  exact lw_c10 C0 hE i1 i2 i3 i4 i5 hKb hSb kk
theorem lw_d11 {p : Program} {l : Launch} {e : Env} {s : State} {m : MethodId} {below : List Frame} {meth : Method} {c : Code} {E : gE} {co : Nat} {u : Nat → Nat} {mo : Nat} {v : Nat → Nat} {b L : Nat} {xs : Nat → Int32} {x3 : Int32} {K S : Nat} (C0 : lw_At p s m meth c b L xs) (hE : rc_ev E (fun q : Nat => s.heap.size ≤ q) s s.heap) (i1 : vp_in (x3 + 1) L) (i2 : vp_in (x3 + 2) L) (i3 : vp_in (x3 + 3) L) (i4 : vp_in (x3 + 4) L) (i5 : vp_in (x3 + 5) L) (hKb : K + 2 ≤ 600000) (hSb : S + 99 ≤ 7302250) (kk : lw_go p l e s m below meth c E co u mo v b x3 (K + 2) (S + 99) 1354) : lw_go p l e s m below meth c E co u mo v b x3 K S 543 := by
  exact lw_c11 C0 hE i1 i2 i3 i4 i5 hKb hSb kk
theorem lw_d12 {p : Program} {l : Launch} {e : Env} {s : State} {m : MethodId} {below : List Frame} {meth : Method} {c : Code} {E : gE} {co : Nat} {u : Nat → Nat} {mo : Nat} {v : Nat → Nat} {b L : Nat} {xs : Nat → Int32} {x3 : Int32} {K S : Nat} (C0 : lw_At p s m meth c b L xs) (hE : rc_ev E (fun q : Nat => s.heap.size ≤ q) s s.heap) (i1 : vp_in (x3 + 1) L) (i2 : vp_in (x3 + 2) L) (i3 : vp_in (x3 + 3) L) (i4 : vp_in (x3 + 4) L) (i5 : vp_in (x3 + 5) L) (hKb : K + 2 ≤ 600000) (hSb : S + 99 ≤ 7302250) (kk : lw_go p l e s m below meth c E co u mo v b x3 (K + 2) (S + 99) 1354) : lw_go p l e s m below meth c E co u mo v b x3 K S 566 := by
  exact lw_c12 C0 hE i1 i2 i3 i4 i5 hKb hSb kk
theorem lw_d13 {p : Program} {l : Launch} {e : Env} {s : State} {m : MethodId} {below : List Frame} {meth : Method} {c : Code} {E : gE} {co : Nat} {u : Nat → Nat} {mo : Nat} {v : Nat → Nat} {b L : Nat} {xs : Nat → Int32} {x3 : Int32} {K S : Nat} (C0 : lw_At p s m meth c b L xs) (hE : rc_ev E (fun q : Nat => s.heap.size ≤ q) s s.heap) (i1 : vp_in (x3 + 1) L) (i2 : vp_in (x3 + 2) L) (i3 : vp_in (x3 + 3) L) (i4 : vp_in (x3 + 4) L) (i5 : vp_in (x3 + 5) L) (hKb : K + 2 ≤ 600000) (hSb : S + 99 ≤ 7302250) (kk : lw_go p l e s m below meth c E co u mo v b x3 (K + 2) (S + 99) 1354) : lw_go p l e s m below meth c E co u mo v b x3 K S 589 := by
  exact lw_c13 C0 hE i1 i2 i3 i4 i5 hKb hSb kk
theorem lw_d14 {p : Program} {l : Launch} {e : Env} {s : State} {m : MethodId} {below : List Frame} {meth : Method} {c : Code} {E : gE} {co : Nat} {u : Nat → Nat} {mo : Nat} {v : Nat → Nat} {b L : Nat} {xs : Nat → Int32} {x3 : Int32} {K S : Nat} (C0 : lw_At p s m meth c b L xs) (hE : rc_ev E (fun q : Nat => s.heap.size ≤ q) s s.heap) (i1 : vp_in (x3 + 1) L) (i2 : vp_in (x3 + 2) L) (i3 : vp_in (x3 + 3) L) (i4 : vp_in (x3 + 4) L) (i5 : vp_in (x3 + 5) L) (hKb : K + 2 ≤ 600000) (hSb : S + 99 ≤ 7302250) (kk : lw_go p l e s m below meth c E co u mo v b x3 (K + 2) (S + 99) 1354) : lw_go p l e s m below meth c E co u mo v b x3 K S 632 := by
  exact lw_c14 C0 hE i1 i2 i3 i4 i5 hKb hSb kk
theorem lw_d15 {p : Program} {l : Launch} {e : Env} {s : State} {m : MethodId} {below : List Frame} {meth : Method} {c : Code} {E : gE} {co : Nat} {u : Nat → Nat} {mo : Nat} {v : Nat → Nat} {b L : Nat} {xs : Nat → Int32} {x3 : Int32} {K S : Nat} (C0 : lw_At p s m meth c b L xs) (hE : rc_ev E (fun q : Nat => s.heap.size ≤ q) s s.heap) (i1 : vp_in (x3 + 1) L) (i2 : vp_in (x3 + 2) L) (i3 : vp_in (x3 + 3) L) (i4 : vp_in (x3 + 4) L) (i5 : vp_in (x3 + 5) L) (hKb : K + 2 ≤ 600000) (hSb : S + 99 ≤ 7302250) (kk : lw_go p l e s m below meth c E co u mo v b x3 (K + 2) (S + 99) 1354) : lw_go p l e s m below meth c E co u mo v b x3 K S 675 := by
  exact lw_c15 C0 hE i1 i2 i3 i4 i5 hKb hSb kk
theorem lw_d16 {p : Program} {l : Launch} {e : Env} {s : State} {m : MethodId} {below : List Frame} {meth : Method} {c : Code} {E : gE} {co : Nat} {u : Nat → Nat} {mo : Nat} {v : Nat → Nat} {b L : Nat} {xs : Nat → Int32} {x3 : Int32} {K S : Nat} (C0 : lw_At p s m meth c b L xs) (hE : rc_ev E (fun q : Nat => s.heap.size ≤ q) s s.heap) (i1 : vp_in (x3 + 1) L) (i2 : vp_in (x3 + 2) L) (i3 : vp_in (x3 + 3) L) (i4 : vp_in (x3 + 4) L) (i5 : vp_in (x3 + 5) L) (hKb : K + 2 ≤ 600000) (hSb : S + 99 ≤ 7302250) (kk : lw_go p l e s m below meth c E co u mo v b x3 (K + 2) (S + 99) 1354) : lw_go p l e s m below meth c E co u mo v b x3 K S 708 := by
  exact lw_c16 C0 hE i1 i2 i3 i4 i5 hKb hSb kk
theorem lw_d17 {p : Program} {l : Launch} {e : Env} {s : State} {m : MethodId} {below : List Frame} {meth : Method} {c : Code} {E : gE} {co : Nat} {u : Nat → Nat} {mo : Nat} {v : Nat → Nat} {b L : Nat} {xs : Nat → Int32} {x3 : Int32} {K S : Nat} (C0 : lw_At p s m meth c b L xs) (hE : rc_ev E (fun q : Nat => s.heap.size ≤ q) s s.heap) (i1 : vp_in (x3 + 1) L) (i2 : vp_in (x3 + 2) L) (i3 : vp_in (x3 + 3) L) (i4 : vp_in (x3 + 4) L) (i5 : vp_in (x3 + 5) L) (hKb : K + 2 ≤ 600000) (hSb : S + 99 ≤ 7302250) (kk : lw_go p l e s m below meth c E co u mo v b x3 (K + 2) (S + 99) 1354) : lw_go p l e s m below meth c E co u mo v b x3 K S 731 := by
  obtain ⟨q, hi⟩ := ps_ex (xs (x3 + 1).toNatClampNeg)
  have hq := hi.1
  rcases (show q = 0 ∨ q = 1 ∨ q = 2 ∨ q = 3 by omega) with rfl | rfl | rfl | rfl
  · exact lw_c17_0 C0 hE i1 i2 i3 i4 i5 hKb hSb hi kk
  · exact lw_c17_1 C0 hE i1 i2 i3 i4 i5 hKb hSb hi kk
  · exact lw_c17_2 C0 hE i1 i2 i3 i4 i5 hKb hSb hi kk
  · exact lw_c17_3 C0 hE i1 i2 i3 i4 i5 hKb hSb hi kk
theorem lw_d18 {p : Program} {l : Launch} {e : Env} {s : State} {m : MethodId} {below : List Frame} {meth : Method} {c : Code} {E : gE} {co : Nat} {u : Nat → Nat} {mo : Nat} {v : Nat → Nat} {b L : Nat} {xs : Nat → Int32} {x3 : Int32} {K S : Nat} (C0 : lw_At p s m meth c b L xs) (hE : rc_ev E (fun q : Nat => s.heap.size ≤ q) s s.heap) (i1 : vp_in (x3 + 1) L) (i2 : vp_in (x3 + 2) L) (i3 : vp_in (x3 + 3) L) (i4 : vp_in (x3 + 4) L) (i5 : vp_in (x3 + 5) L) (hKb : K + 2 ≤ 600000) (hSb : S + 99 ≤ 7302250) (kk : lw_go p l e s m below meth c E co u mo v b x3 (K + 2) (S + 99) 1354) : lw_go p l e s m below meth c E co u mo v b x3 K S 764 := by
  obtain ⟨q, hi⟩ := ps_ex (xs (x3 + 1).toNatClampNeg)
  have hq := hi.1
  rcases (show q = 0 ∨ q = 1 ∨ q = 2 ∨ q = 3 by omega) with rfl | rfl | rfl | rfl
  · exact lw_c18_0 C0 hE i1 i2 i3 i4 i5 hKb hSb hi kk
  · exact lw_c18_1 C0 hE i1 i2 i3 i4 i5 hKb hSb hi kk
  · exact lw_c18_2 C0 hE i1 i2 i3 i4 i5 hKb hSb hi kk
  · exact lw_c18_3 C0 hE i1 i2 i3 i4 i5 hKb hSb hi kk
theorem lw_d19 {p : Program} {l : Launch} {e : Env} {s : State} {m : MethodId} {below : List Frame} {meth : Method} {c : Code} {E : gE} {co : Nat} {u : Nat → Nat} {mo : Nat} {v : Nat → Nat} {b L : Nat} {xs : Nat → Int32} {x3 : Int32} {K S : Nat} (C0 : lw_At p s m meth c b L xs) (hE : rc_ev E (fun q : Nat => s.heap.size ≤ q) s s.heap) (i1 : vp_in (x3 + 1) L) (i2 : vp_in (x3 + 2) L) (i3 : vp_in (x3 + 3) L) (i4 : vp_in (x3 + 4) L) (i5 : vp_in (x3 + 5) L) (hKb : K + 2 ≤ 600000) (hSb : S + 99 ≤ 7302250) (kk : lw_go p l e s m below meth c E co u mo v b x3 (K + 2) (S + 99) 1354) : lw_go p l e s m below meth c E co u mo v b x3 K S 787 := by
  exact lw_c19 C0 hE i1 i2 i3 i4 i5 hKb hSb kk
theorem lw_d20 {p : Program} {l : Launch} {e : Env} {s : State} {m : MethodId} {below : List Frame} {meth : Method} {c : Code} {E : gE} {co : Nat} {u : Nat → Nat} {mo : Nat} {v : Nat → Nat} {b L : Nat} {xs : Nat → Int32} {x3 : Int32} {K S : Nat} (C0 : lw_At p s m meth c b L xs) (hE : rc_ev E (fun q : Nat => s.heap.size ≤ q) s s.heap) (i1 : vp_in (x3 + 1) L) (i2 : vp_in (x3 + 2) L) (i3 : vp_in (x3 + 3) L) (i4 : vp_in (x3 + 4) L) (i5 : vp_in (x3 + 5) L) (hKb : K + 2 ≤ 600000) (hSb : S + 99 ≤ 7302250) (kk : lw_go p l e s m below meth c E co u mo v b x3 (K + 2) (S + 99) 1354) : lw_go p l e s m below meth c E co u mo v b x3 K S 830 := by
  exact lw_c20 C0 hE i1 i2 i3 i4 i5 hKb hSb kk
theorem lw_d21 {p : Program} {l : Launch} {e : Env} {s : State} {m : MethodId} {below : List Frame} {meth : Method} {c : Code} {E : gE} {co : Nat} {u : Nat → Nat} {mo : Nat} {v : Nat → Nat} {b L : Nat} {xs : Nat → Int32} {x3 : Int32} {K S : Nat} (C0 : lw_At p s m meth c b L xs) (hE : rc_ev E (fun q : Nat => s.heap.size ≤ q) s s.heap) (i1 : vp_in (x3 + 1) L) (i2 : vp_in (x3 + 2) L) (i3 : vp_in (x3 + 3) L) (i4 : vp_in (x3 + 4) L) (i5 : vp_in (x3 + 5) L) (hKb : K + 2 ≤ 600000) (hSb : S + 99 ≤ 7302250) (kk : lw_go p l e s m below meth c E co u mo v b x3 (K + 2) (S + 99) 1354) : lw_go p l e s m below meth c E co u mo v b x3 K S 853 := by
  exact lw_c21 C0 hE i1 i2 i3 i4 i5 hKb hSb kk
theorem lw_d22 {p : Program} {l : Launch} {e : Env} {s : State} {m : MethodId} {below : List Frame} {meth : Method} {c : Code} {E : gE} {co : Nat} {u : Nat → Nat} {mo : Nat} {v : Nat → Nat} {b L : Nat} {xs : Nat → Int32} {x3 : Int32} {K S : Nat} (C0 : lw_At p s m meth c b L xs) (hE : rc_ev E (fun q : Nat => s.heap.size ≤ q) s s.heap) (i1 : vp_in (x3 + 1) L) (i2 : vp_in (x3 + 2) L) (i3 : vp_in (x3 + 3) L) (i4 : vp_in (x3 + 4) L) (i5 : vp_in (x3 + 5) L) (hKb : K + 2 ≤ 600000) (hSb : S + 99 ≤ 7302250) (kk : lw_go p l e s m below meth c E co u mo v b x3 (K + 2) (S + 99) 1354) : lw_go p l e s m below meth c E co u mo v b x3 K S 866 := by
  exact lw_c22 C0 hE i1 i2 i3 i4 i5 hKb hSb kk
theorem lw_d23 {p : Program} {l : Launch} {e : Env} {s : State} {m : MethodId} {below : List Frame} {meth : Method} {c : Code} {E : gE} {co : Nat} {u : Nat → Nat} {mo : Nat} {v : Nat → Nat} {b L : Nat} {xs : Nat → Int32} {x3 : Int32} {K S : Nat} (C0 : lw_At p s m meth c b L xs) (hE : rc_ev E (fun q : Nat => s.heap.size ≤ q) s s.heap) (i1 : vp_in (x3 + 1) L) (i2 : vp_in (x3 + 2) L) (i3 : vp_in (x3 + 3) L) (i4 : vp_in (x3 + 4) L) (i5 : vp_in (x3 + 5) L) (hKb : K + 2 ≤ 600000) (hSb : S + 99 ≤ 7302250) (kk : lw_go p l e s m below meth c E co u mo v b x3 (K + 2) (S + 99) 1354) : lw_go p l e s m below meth c E co u mo v b x3 K S 899 := by
  exact lw_c23 C0 hE i1 i2 i3 i4 i5 hKb hSb kk
theorem lw_d24 {p : Program} {l : Launch} {e : Env} {s : State} {m : MethodId} {below : List Frame} {meth : Method} {c : Code} {E : gE} {co : Nat} {u : Nat → Nat} {mo : Nat} {v : Nat → Nat} {b L : Nat} {xs : Nat → Int32} {x3 : Int32} {K S : Nat} (C0 : lw_At p s m meth c b L xs) (hE : rc_ev E (fun q : Nat => s.heap.size ≤ q) s s.heap) (i1 : vp_in (x3 + 1) L) (i2 : vp_in (x3 + 2) L) (i3 : vp_in (x3 + 3) L) (i4 : vp_in (x3 + 4) L) (i5 : vp_in (x3 + 5) L) (hKb : K + 2 ≤ 600000) (hSb : S + 99 ≤ 7302250) (kk : lw_go p l e s m below meth c E co u mo v b x3 (K + 2) (S + 99) 1354) : lw_go p l e s m below meth c E co u mo v b x3 K S 922 := by
  obtain ⟨q, hi⟩ := ps_ex (xs (x3 + 1).toNatClampNeg)
  have hq := hi.1
  rcases (show q = 0 ∨ q = 1 ∨ q = 2 ∨ q = 3 by omega) with rfl | rfl | rfl | rfl
  · exact lw_c24_0 C0 hE i1 i2 i3 i4 i5 hKb hSb hi kk
  · exact lw_c24_1 C0 hE i1 i2 i3 i4 i5 hKb hSb hi kk
  · exact lw_c24_2 C0 hE i1 i2 i3 i4 i5 hKb hSb hi kk
  · exact lw_c24_3 C0 hE i1 i2 i3 i4 i5 hKb hSb hi kk
theorem lw_d25 {p : Program} {l : Launch} {e : Env} {s : State} {m : MethodId} {below : List Frame} {meth : Method} {c : Code} {E : gE} {co : Nat} {u : Nat → Nat} {mo : Nat} {v : Nat → Nat} {b L : Nat} {xs : Nat → Int32} {x3 : Int32} {K S : Nat} (C0 : lw_At p s m meth c b L xs) (hE : rc_ev E (fun q : Nat => s.heap.size ≤ q) s s.heap) (i1 : vp_in (x3 + 1) L) (i2 : vp_in (x3 + 2) L) (i3 : vp_in (x3 + 3) L) (i4 : vp_in (x3 + 4) L) (i5 : vp_in (x3 + 5) L) (hKb : K + 2 ≤ 600000) (hSb : S + 99 ≤ 7302250) (kk : lw_go p l e s m below meth c E co u mo v b x3 (K + 2) (S + 99) 1354) : lw_go p l e s m below meth c E co u mo v b x3 K S 965 := by
  obtain ⟨q, hi⟩ := ps_ex (xs (x3 + 1).toNatClampNeg)
  have hq := hi.1
  rcases (show q = 0 ∨ q = 1 ∨ q = 2 ∨ q = 3 by omega) with rfl | rfl | rfl | rfl
  · exact lw_c25_0 C0 hE i1 i2 i3 i4 i5 hKb hSb hi kk
  · exact lw_c25_1 C0 hE i1 i2 i3 i4 i5 hKb hSb hi kk
  · exact lw_c25_2 C0 hE i1 i2 i3 i4 i5 hKb hSb hi kk
  · exact lw_c25_3 C0 hE i1 i2 i3 i4 i5 hKb hSb hi kk
theorem lw_d26 {p : Program} {l : Launch} {e : Env} {s : State} {m : MethodId} {below : List Frame} {meth : Method} {c : Code} {E : gE} {co : Nat} {u : Nat → Nat} {mo : Nat} {v : Nat → Nat} {b L : Nat} {xs : Nat → Int32} {x3 : Int32} {K S : Nat} (C0 : lw_At p s m meth c b L xs) (hE : rc_ev E (fun q : Nat => s.heap.size ≤ q) s s.heap) (i1 : vp_in (x3 + 1) L) (i2 : vp_in (x3 + 2) L) (i3 : vp_in (x3 + 3) L) (i4 : vp_in (x3 + 4) L) (i5 : vp_in (x3 + 5) L) (hKb : K + 2 ≤ 600000) (hSb : S + 99 ≤ 7302250) (kk : lw_go p l e s m below meth c E co u mo v b x3 (K + 2) (S + 99) 1354) : lw_go p l e s m below meth c E co u mo v b x3 K S 1008 := by
  obtain ⟨q, hi⟩ := ps_ex (xs (x3 + 1).toNatClampNeg)
  have hq := hi.1
  rcases (show q = 0 ∨ q = 1 ∨ q = 2 ∨ q = 3 by omega) with rfl | rfl | rfl | rfl
  · exact lw_c26_0 C0 hE i1 i2 i3 i4 i5 hKb hSb hi kk
  · exact lw_c26_1 C0 hE i1 i2 i3 i4 i5 hKb hSb hi kk
  · exact lw_c26_2 C0 hE i1 i2 i3 i4 i5 hKb hSb hi kk
  · exact lw_c26_3 C0 hE i1 i2 i3 i4 i5 hKb hSb hi kk
theorem lw_d27 {p : Program} {l : Launch} {e : Env} {s : State} {m : MethodId} {below : List Frame} {meth : Method} {c : Code} {E : gE} {co : Nat} {u : Nat → Nat} {mo : Nat} {v : Nat → Nat} {b L : Nat} {xs : Nat → Int32} {x3 : Int32} {K S : Nat} (C0 : lw_At p s m meth c b L xs) (hE : rc_ev E (fun q : Nat => s.heap.size ≤ q) s s.heap) (i1 : vp_in (x3 + 1) L) (i2 : vp_in (x3 + 2) L) (i3 : vp_in (x3 + 3) L) (i4 : vp_in (x3 + 4) L) (i5 : vp_in (x3 + 5) L) (hKb : K + 2 ≤ 600000) (hSb : S + 99 ≤ 7302250) (kk : lw_go p l e s m below meth c E co u mo v b x3 (K + 2) (S + 99) 1354) : lw_go p l e s m below meth c E co u mo v b x3 K S 1031 := by
  obtain ⟨q, hi⟩ := ps_ex (xs (x3 + 1).toNatClampNeg)
  have hq := hi.1
  rcases (show q = 0 ∨ q = 1 ∨ q = 2 ∨ q = 3 by omega) with rfl | rfl | rfl | rfl
  · exact lw_c27_0 C0 hE i1 i2 i3 i4 i5 hKb hSb hi kk
  · exact lw_c27_1 C0 hE i1 i2 i3 i4 i5 hKb hSb hi kk
  · exact lw_c27_2 C0 hE i1 i2 i3 i4 i5 hKb hSb hi kk
  · exact lw_c27_3 C0 hE i1 i2 i3 i4 i5 hKb hSb hi kk
theorem lw_d28 {p : Program} {l : Launch} {e : Env} {s : State} {m : MethodId} {below : List Frame} {meth : Method} {c : Code} {E : gE} {co : Nat} {u : Nat → Nat} {mo : Nat} {v : Nat → Nat} {b L : Nat} {xs : Nat → Int32} {x3 : Int32} {K S : Nat} (C0 : lw_At p s m meth c b L xs) (hE : rc_ev E (fun q : Nat => s.heap.size ≤ q) s s.heap) (i1 : vp_in (x3 + 1) L) (i2 : vp_in (x3 + 2) L) (i3 : vp_in (x3 + 3) L) (i4 : vp_in (x3 + 4) L) (i5 : vp_in (x3 + 5) L) (hKb : K + 2 ≤ 600000) (hSb : S + 99 ≤ 7302250) (kk : lw_go p l e s m below meth c E co u mo v b x3 (K + 2) (S + 99) 1354) : lw_go p l e s m below meth c E co u mo v b x3 K S 1054 := by
  by_cases h1 : 0 ≤ xs (x3 + 1).toNatClampNeg ∧ xs (x3 + 1).toNatClampNeg ≤ 3
  · obtain ⟨q, hq, e1⟩ := pn_k (m := 3) (by decide) h1
    by_cases h3 : 0 ≤ xs (x3 + 3).toNatClampNeg ∧ xs (x3 + 3).toNatClampNeg ≤ 3
    · obtain ⟨q2, hq2, e3⟩ := pn_k (m := 3) (by decide) h3
      rcases (show q = 0 ∨ q = 1 ∨ q = 2 ∨ q = 3 by omega) with rfl | rfl | rfl | rfl
      · rcases (show q2 = 0 ∨ q2 = 1 ∨ q2 = 2 ∨ q2 = 3 by omega) with rfl | rfl | rfl | rfl
        · exact lw_c28_0_0 C0 hE i1 i2 i3 i4 i5 hKb hSb (Or.inl ⟨e1, Or.inl e3⟩) kk
        · exact lw_c28_0_1 C0 hE i1 i2 i3 i4 i5 hKb hSb e1 e3 kk
        · exact lw_c28_0_2 C0 hE i1 i2 i3 i4 i5 hKb hSb e1 e3 kk
        · exact lw_c28_0_3 C0 hE i1 i2 i3 i4 i5 hKb hSb e1 e3 kk
      · rcases (show q2 = 0 ∨ q2 = 1 ∨ q2 = 2 ∨ q2 = 3 by omega) with rfl | rfl | rfl | rfl
        · exact lw_c28_1_0 C0 hE i1 i2 i3 i4 i5 hKb hSb e1 e3 kk
        · exact lw_c28_1_1 C0 hE i1 i2 i3 i4 i5 hKb hSb (Or.inl ⟨e1, Or.inl e3⟩) kk
        · exact lw_c28_1_2 C0 hE i1 i2 i3 i4 i5 hKb hSb e1 e3 kk
        · exact lw_c28_1_3 C0 hE i1 i2 i3 i4 i5 hKb hSb e1 e3 kk
      · rcases (show q2 = 0 ∨ q2 = 1 ∨ q2 = 2 ∨ q2 = 3 by omega) with rfl | rfl | rfl | rfl
        · exact lw_c28_2_0 C0 hE i1 i2 i3 i4 i5 hKb hSb e1 e3 kk
        · exact lw_c28_2_1 C0 hE i1 i2 i3 i4 i5 hKb hSb e1 e3 kk
        · exact lw_c28_2_2 C0 hE i1 i2 i3 i4 i5 hKb hSb (Or.inl ⟨e1, Or.inl e3⟩) kk
        · exact lw_c28_2_3 C0 hE i1 i2 i3 i4 i5 hKb hSb e1 e3 kk
      · rcases (show q2 = 0 ∨ q2 = 1 ∨ q2 = 2 ∨ q2 = 3 by omega) with rfl | rfl | rfl | rfl
        · exact lw_c28_3_0 C0 hE i1 i2 i3 i4 i5 hKb hSb e1 e3 kk
        · exact lw_c28_3_1 C0 hE i1 i2 i3 i4 i5 hKb hSb e1 e3 kk
        · exact lw_c28_3_2 C0 hE i1 i2 i3 i4 i5 hKb hSb e1 e3 kk
        · exact lw_c28_3_3 C0 hE i1 i2 i3 i4 i5 hKb hSb (Or.inl ⟨e1, Or.inl e3⟩) kk
    · rcases (show q = 0 ∨ q = 1 ∨ q = 2 ∨ q = 3 by omega) with rfl | rfl | rfl | rfl
      · exact lw_c28_0_0 C0 hE i1 i2 i3 i4 i5 hKb hSb (Or.inl ⟨e1, Or.inr h3⟩) kk
      · exact lw_c28_1_1 C0 hE i1 i2 i3 i4 i5 hKb hSb (Or.inl ⟨e1, Or.inr h3⟩) kk
      · exact lw_c28_2_2 C0 hE i1 i2 i3 i4 i5 hKb hSb (Or.inl ⟨e1, Or.inr h3⟩) kk
      · exact lw_c28_3_3 C0 hE i1 i2 i3 i4 i5 hKb hSb (Or.inl ⟨e1, Or.inr h3⟩) kk
  · exact lw_c28_0_0 C0 hE i1 i2 i3 i4 i5 hKb hSb (Or.inr h1) kk
theorem lw_d29 {p : Program} {l : Launch} {e : Env} {s : State} {m : MethodId} {below : List Frame} {meth : Method} {c : Code} {E : gE} {co : Nat} {u : Nat → Nat} {mo : Nat} {v : Nat → Nat} {b L : Nat} {xs : Nat → Int32} {x3 : Int32} {K S : Nat} (C0 : lw_At p s m meth c b L xs) (hE : rc_ev E (fun q : Nat => s.heap.size ≤ q) s s.heap) (i1 : vp_in (x3 + 1) L) (i2 : vp_in (x3 + 2) L) (i3 : vp_in (x3 + 3) L) (i4 : vp_in (x3 + 4) L) (i5 : vp_in (x3 + 5) L) (hKb : K + 2 ≤ 600000) (hSb : S + 99 ≤ 7302250) (kk : lw_go p l e s m below meth c E co u mo v b x3 (K + 2) (S + 99) 1354) : lw_go p l e s m below meth c E co u mo v b x3 K S 1117 := by
  obtain ⟨q, hi⟩ := pz_ex (xs (x3 + 1).toNatClampNeg)
  obtain ⟨q2, hj⟩ := ps_ex (xs (x3 + 3).toNatClampNeg)
  have hq := hi.1
  have hq2 := hj.1
  rcases (show q = 0 ∨ q = 1 ∨ q = 2 ∨ q = 3 ∨ q = 4 by omega) with rfl | rfl | rfl | rfl | rfl
  · rcases (show q2 = 0 ∨ q2 = 1 ∨ q2 = 2 ∨ q2 = 3 by omega) with rfl | rfl | rfl | rfl
    · exact lw_c29_0_0 C0 hE i1 i2 i3 i4 i5 hKb hSb hi hj kk
    · exact lw_c29_0_1 C0 hE i1 i2 i3 i4 i5 hKb hSb hi hj kk
    · exact lw_c29_0_2 C0 hE i1 i2 i3 i4 i5 hKb hSb hi hj kk
    · exact lw_c29_0_3 C0 hE i1 i2 i3 i4 i5 hKb hSb hi hj kk
  · rcases (show q2 = 0 ∨ q2 = 1 ∨ q2 = 2 ∨ q2 = 3 by omega) with rfl | rfl | rfl | rfl
    · exact lw_c29_1_0 C0 hE i1 i2 i3 i4 i5 hKb hSb hi hj kk
    · exact lw_c29_1_1 C0 hE i1 i2 i3 i4 i5 hKb hSb hi hj kk
    · exact lw_c29_1_2 C0 hE i1 i2 i3 i4 i5 hKb hSb hi hj kk
    · exact lw_c29_1_3 C0 hE i1 i2 i3 i4 i5 hKb hSb hi hj kk
  · rcases (show q2 = 0 ∨ q2 = 1 ∨ q2 = 2 ∨ q2 = 3 by omega) with rfl | rfl | rfl | rfl
    · exact lw_c29_2_0 C0 hE i1 i2 i3 i4 i5 hKb hSb hi hj kk
    · exact lw_c29_2_1 C0 hE i1 i2 i3 i4 i5 hKb hSb hi hj kk
    · exact lw_c29_2_2 C0 hE i1 i2 i3 i4 i5 hKb hSb hi hj kk
    · exact lw_c29_2_3 C0 hE i1 i2 i3 i4 i5 hKb hSb hi hj kk
  · rcases (show q2 = 0 ∨ q2 = 1 ∨ q2 = 2 ∨ q2 = 3 by omega) with rfl | rfl | rfl | rfl
    · exact lw_c29_3_0 C0 hE i1 i2 i3 i4 i5 hKb hSb hi hj kk
    · exact lw_c29_3_1 C0 hE i1 i2 i3 i4 i5 hKb hSb hi hj kk
    · exact lw_c29_3_2 C0 hE i1 i2 i3 i4 i5 hKb hSb hi hj kk
    · exact lw_c29_3_3 C0 hE i1 i2 i3 i4 i5 hKb hSb hi hj kk
  · rcases (show q2 = 0 ∨ q2 = 1 ∨ q2 = 2 ∨ q2 = 3 by omega) with rfl | rfl | rfl | rfl
    · exact lw_c29_4_0 C0 hE i1 i2 i3 i4 i5 hKb hSb hi hj kk
    · exact lw_c29_4_1 C0 hE i1 i2 i3 i4 i5 hKb hSb hi hj kk
    · exact lw_c29_4_2 C0 hE i1 i2 i3 i4 i5 hKb hSb hi hj kk
    · exact lw_c29_4_3 C0 hE i1 i2 i3 i4 i5 hKb hSb hi hj kk
theorem lw_d30 {p : Program} {l : Launch} {e : Env} {s : State} {m : MethodId} {below : List Frame} {meth : Method} {c : Code} {E : gE} {co : Nat} {u : Nat → Nat} {mo : Nat} {v : Nat → Nat} {b L : Nat} {xs : Nat → Int32} {x3 : Int32} {K S : Nat} (C0 : lw_At p s m meth c b L xs) (hE : rc_ev E (fun q : Nat => s.heap.size ≤ q) s s.heap) (i1 : vp_in (x3 + 1) L) (i2 : vp_in (x3 + 2) L) (i3 : vp_in (x3 + 3) L) (i4 : vp_in (x3 + 4) L) (i5 : vp_in (x3 + 5) L) (hKb : K + 2 ≤ 600000) (hSb : S + 99 ≤ 7302250) (kk : lw_go p l e s m below meth c E co u mo v b x3 (K + 2) (S + 99) 1354) : lw_go p l e s m below meth c E co u mo v b x3 K S 1160 := by
  obtain ⟨q, hi⟩ := pz_ex (xs (x3 + 1).toNatClampNeg)
  have hq := hi.1
  rcases (show q = 0 ∨ q = 1 ∨ q = 2 ∨ q = 3 ∨ q = 4 by omega) with rfl | rfl | rfl | rfl | rfl
  · exact lw_c30_0 C0 hE i1 i2 i3 i4 i5 hKb hSb hi kk
  · exact lw_c30_1 C0 hE i1 i2 i3 i4 i5 hKb hSb hi kk
  · exact lw_c30_2 C0 hE i1 i2 i3 i4 i5 hKb hSb hi kk
  · exact lw_c30_3 C0 hE i1 i2 i3 i4 i5 hKb hSb hi kk
  · exact lw_c30_4 C0 hE i1 i2 i3 i4 i5 hKb hSb hi kk
theorem lw_d31 {p : Program} {l : Launch} {e : Env} {s : State} {m : MethodId} {below : List Frame} {meth : Method} {c : Code} {E : gE} {co : Nat} {u : Nat → Nat} {mo : Nat} {v : Nat → Nat} {b L : Nat} {xs : Nat → Int32} {x3 : Int32} {K S : Nat} (C0 : lw_At p s m meth c b L xs) (hE : rc_ev E (fun q : Nat => s.heap.size ≤ q) s s.heap) (i1 : vp_in (x3 + 1) L) (i2 : vp_in (x3 + 2) L) (i3 : vp_in (x3 + 3) L) (i4 : vp_in (x3 + 4) L) (i5 : vp_in (x3 + 5) L) (hKb : K + 2 ≤ 600000) (hSb : S + 99 ≤ 7302250) (kk : lw_go p l e s m below meth c E co u mo v b x3 (K + 2) (S + 99) 1354) : lw_go p l e s m below meth c E co u mo v b x3 K S 1193 := by
  obtain ⟨q, hi⟩ := pz_ex (xs (x3 + 1).toNatClampNeg)
  have hq := hi.1
  rcases (show q = 0 ∨ q = 1 ∨ q = 2 ∨ q = 3 ∨ q = 4 by omega) with rfl | rfl | rfl | rfl | rfl
  · exact lw_c31_0 C0 hE i1 i2 i3 i4 i5 hKb hSb hi kk
  · exact lw_c31_1 C0 hE i1 i2 i3 i4 i5 hKb hSb hi kk
  · exact lw_c31_2 C0 hE i1 i2 i3 i4 i5 hKb hSb hi kk
  · exact lw_c31_3 C0 hE i1 i2 i3 i4 i5 hKb hSb hi kk
  · exact lw_c31_4 C0 hE i1 i2 i3 i4 i5 hKb hSb hi kk
theorem lw_d32 {p : Program} {l : Launch} {e : Env} {s : State} {m : MethodId} {below : List Frame} {meth : Method} {c : Code} {E : gE} {co : Nat} {u : Nat → Nat} {mo : Nat} {v : Nat → Nat} {b L : Nat} {xs : Nat → Int32} {x3 : Int32} {K S : Nat} (C0 : lw_At p s m meth c b L xs) (hE : rc_ev E (fun q : Nat => s.heap.size ≤ q) s s.heap) (i1 : vp_in (x3 + 1) L) (i2 : vp_in (x3 + 2) L) (i3 : vp_in (x3 + 3) L) (i4 : vp_in (x3 + 4) L) (i5 : vp_in (x3 + 5) L) (hKb : K + 2 ≤ 600000) (hSb : S + 99 ≤ 7302250) (kk : lw_go p l e s m below meth c E co u mo v b x3 (K + 2) (S + 99) 1354) : lw_go p l e s m below meth c E co u mo v b x3 K S 1226 := by
  obtain ⟨q, hi⟩ := pz_ex (xs (x3 + 1).toNatClampNeg)
  have hq := hi.1
  rcases (show q = 0 ∨ q = 1 ∨ q = 2 ∨ q = 3 ∨ q = 4 by omega) with rfl | rfl | rfl | rfl | rfl
  · exact lw_c32_0 C0 hE i1 i2 i3 i4 i5 hKb hSb hi kk
  · exact lw_c32_1 C0 hE i1 i2 i3 i4 i5 hKb hSb hi kk
  · exact lw_c32_2 C0 hE i1 i2 i3 i4 i5 hKb hSb hi kk
  · exact lw_c32_3 C0 hE i1 i2 i3 i4 i5 hKb hSb hi kk
  · exact lw_c32_4 C0 hE i1 i2 i3 i4 i5 hKb hSb hi kk
theorem lw_d33 {p : Program} {l : Launch} {e : Env} {s : State} {m : MethodId} {below : List Frame} {meth : Method} {c : Code} {E : gE} {co : Nat} {u : Nat → Nat} {mo : Nat} {v : Nat → Nat} {b L : Nat} {xs : Nat → Int32} {x3 : Int32} {K S : Nat} (C0 : lw_At p s m meth c b L xs) (hE : rc_ev E (fun q : Nat => s.heap.size ≤ q) s s.heap) (i1 : vp_in (x3 + 1) L) (i2 : vp_in (x3 + 2) L) (i3 : vp_in (x3 + 3) L) (i4 : vp_in (x3 + 4) L) (i5 : vp_in (x3 + 5) L) (hKb : K + 2 ≤ 600000) (hSb : S + 99 ≤ 7302250) (kk : lw_go p l e s m below meth c E co u mo v b x3 (K + 2) (S + 99) 1354) : lw_go p l e s m below meth c E co u mo v b x3 K S 1259 := by
  exact lw_c33 C0 hE i1 i2 i3 i4 i5 hKb hSb kk
theorem lw_d34 {p : Program} {l : Launch} {e : Env} {s : State} {m : MethodId} {below : List Frame} {meth : Method} {c : Code} {E : gE} {co : Nat} {u : Nat → Nat} {mo : Nat} {v : Nat → Nat} {b L : Nat} {xs : Nat → Int32} {x3 : Int32} {K S : Nat} (C0 : lw_At p s m meth c b L xs) (hE : rc_ev E (fun q : Nat => s.heap.size ≤ q) s s.heap) (i1 : vp_in (x3 + 1) L) (i2 : vp_in (x3 + 2) L) (i3 : vp_in (x3 + 3) L) (i4 : vp_in (x3 + 4) L) (i5 : vp_in (x3 + 5) L) (hKb : K + 2 ≤ 600000) (hSb : S + 99 ≤ 7302250) (kk : lw_go p l e s m below meth c E co u mo v b x3 (K + 2) (S + 99) 1354) : lw_go p l e s m below meth c E co u mo v b x3 K S 1282 := by
  exact lw_c34 C0 hE i1 i2 i3 i4 i5 hKb hSb kk
theorem lw_d35 {p : Program} {l : Launch} {e : Env} {s : State} {m : MethodId} {below : List Frame} {meth : Method} {c : Code} {E : gE} {co : Nat} {u : Nat → Nat} {mo : Nat} {v : Nat → Nat} {b L : Nat} {xs : Nat → Int32} {x3 : Int32} {K S : Nat} (C0 : lw_At p s m meth c b L xs) (hE : rc_ev E (fun q : Nat => s.heap.size ≤ q) s s.heap) (i1 : vp_in (x3 + 1) L) (i2 : vp_in (x3 + 2) L) (i3 : vp_in (x3 + 3) L) (i4 : vp_in (x3 + 4) L) (i5 : vp_in (x3 + 5) L) (hKb : K + 2 ≤ 600000) (hSb : S + 99 ≤ 7302250) (kk : lw_go p l e s m below meth c E co u mo v b x3 (K + 2) (S + 99) 1354) : lw_go p l e s m below meth c E co u mo v b x3 K S 1305 := by
  exact lw_c35 C0 hE i1 i2 i3 i4 i5 hKb hSb kk
theorem lw_d36 {p : Program} {l : Launch} {e : Env} {s : State} {m : MethodId} {below : List Frame} {meth : Method} {c : Code} {E : gE} {co : Nat} {u : Nat → Nat} {mo : Nat} {v : Nat → Nat} {b L : Nat} {xs : Nat → Int32} {x3 : Int32} {K S : Nat} (C0 : lw_At p s m meth c b L xs) (hE : rc_ev E (fun q : Nat => s.heap.size ≤ q) s s.heap) (i1 : vp_in (x3 + 1) L) (i2 : vp_in (x3 + 2) L) (i3 : vp_in (x3 + 3) L) (i4 : vp_in (x3 + 4) L) (i5 : vp_in (x3 + 5) L) (hKb : K + 2 ≤ 600000) (hSb : S + 99 ≤ 7302250) (kk : lw_go p l e s m below meth c E co u mo v b x3 (K + 2) (S + 99) 1354) : lw_go p l e s m below meth c E co u mo v b x3 K S 1318 := by
  exact lw_c36 C0 hE i1 i2 i3 i4 i5 hKb hSb kk
theorem lw_d37 {p : Program} {l : Launch} {e : Env} {s : State} {m : MethodId} {below : List Frame} {meth : Method} {c : Code} {E : gE} {co : Nat} {u : Nat → Nat} {mo : Nat} {v : Nat → Nat} {b L : Nat} {xs : Nat → Int32} {x3 : Int32} {K S : Nat} (C0 : lw_At p s m meth c b L xs) (hE : rc_ev E (fun q : Nat => s.heap.size ≤ q) s s.heap) (i1 : vp_in (x3 + 1) L) (i2 : vp_in (x3 + 2) L) (i3 : vp_in (x3 + 3) L) (i4 : vp_in (x3 + 4) L) (i5 : vp_in (x3 + 5) L) (hKb : K + 2 ≤ 600000) (hSb : S + 99 ≤ 7302250) (kk : lw_go p l e s m below meth c E co u mo v b x3 (K + 2) (S + 99) 1354) : lw_go p l e s m below meth c E co u mo v b x3 K S 1331 := by
  exact lw_c37 C0 hE i1 i2 i3 i4 i5 hKb hSb kk
theorem lw_sub {L k : Nat} (hL : L ≤ 3072) (hk : 6 * k ≤ L + 5) (h : ¬ (Int32.ofNat L - 6 < nI (6 * k))) : 6 * k + 6 ≤ L := by
  have e : Int32.ofNat L = nI L := rfl
  rw [e] at h
  grind [pg_n]
set_option maxHeartbeats 4000000 in
set_option maxRecDepth 100000 in
theorem lw_step {p : Program} {l : Launch} {e : Env} {s : State} {m : MethodId} {below : List Frame} {meth : Method} {c : Code} {E : gE} {co : Nat} {u : Nat → Nat} {mo : Nat} {v : Nat → Nat} {b L : Nat} {xs : Nat → Int32} {K S k : Nat} (hL : L ≤ 3072) (C0 : lw_At p s m meth c b L xs) (hE : rc_ev E (fun q : Nat => s.heap.size ≤ q) s s.heap) (hk : 6 * k ≤ L + 5) (hKb : K + 2 ≤ 600000) (hSb : S + 99 ≤ 7302250) (nxt : 6 * k + 6 ≤ L → lw_go p l e s m below meth c E co u mo v b (nI (6 * (k + 1))) (K + 2) (S + 99) 18) : lw_go p l e s m below meth c E co u mo v b (nI (6 * k)) K S 18 := by
  obtain ⟨hx, hb, hr, hml, hown, hts, hX, hbl, hlocks, hgv⟩ := id C0
  have hb : c.code = cL_law := hb
  have hbA : ¬ (fun q : Nat => s.heap.size ≤ q) b := Nat.not_le.mpr hbl
  intro cWs cKp rSz rTc rFa rPa rPy rMi rMe rSr rZ rKi rHe rDo rTx rLa rSk jSz jTc jFa jPa jPy jMi jMe jSr jZ jKi jHe jDo jTx jLa jSk qSz qTc qFa qPa qPy qMi qMe qSr qZ qKi qHe qDo qTx qLa qSk yRi yLe yLa eLn eFt eCc eKy eLv eOb eOn eSt eEd eSo eBy eCo cWt w0So w0Sz w0Vl w1So w1Sz w1Vl w2So w2Sz w2Vl w3So w3Sz w3Vl z0Th z0Ki z0He z0Nu x0So x0Sz x0Vl z1Th z1Ki z1He z1Nu x1So x1Sz x1Vl z2Th z2Ki z2He z2Nu x2So x2Sz x2Vl z3Th z3Ki z3He z3Nu x3So x3Sz x3Vl z4Th z4Ki z4He z4Nu x4So x4Sz x4Vl mHI mFC mLC mCg mTp mNx mFr mTk mVa mEn mKe mCs mAt mHd mWg mNow mImg mAsd mLea mLat mBst mRsk mTap mKys mKat mCod mWts mTes mStk mFct mSor mSiz mCel mHol mHoA mHoB mHoC mMov mTel LT pk pv pa pn tc H locs ls hR hJ hW hF hC hU hZ hP hD hS hl
  refine lv_iload_n hx hb dL_law_18 rfl (lv_at hl 3 rfl) ?_
  refine lv_aload_n hx hb dL_law_19 rfl (lv_at hl 0 rfl) ?_
  refine va_slen hx hb hX hbl hbA hS dL_law_20 ?_
  refine lv_bipush (v := 6) hx hb dL_law_21 (by decide) ?_
  refine lv_isub hx hb dL_law_23 ?_
  refine lv_icmp_gt (tgt := 1360) hx hb dL_law_24 (by decide) (fun _ => ?_) (fun z => ?_)
  · refine lv_iconst (v := 1) hx hb dL_law_1360 (by decide) ?_
    refine va_forget (fun q hq => hS.2.2 q hq) ?_
    refine W.widen (k := 600000) (n := 7302250) (by omega) (by omega) ?_
    exact lw_ret hx hb hr hlocks dL_law_1361
  · have hk6 := lw_sub hL hk z
    have nx := nxt hk6
    have i0 : vp_in (nI (6 * k)) L := vp_in_nI (by omega) (by omega)
    have i1 : vp_in (nI (6 * k) + 1) L := by rw [show nI (6 * k) + 1 = nI (6 * k + 1) from nI_add _ 1]; exact vp_in_nI (by omega) (by omega)
    have i2 : vp_in (nI (6 * k) + 2) L := by rw [show nI (6 * k) + 2 = nI (6 * k + 2) from nI_add _ 2]; exact vp_in_nI (by omega) (by omega)
    have i3 : vp_in (nI (6 * k) + 3) L := by rw [show nI (6 * k) + 3 = nI (6 * k + 3) from nI_add _ 3]; exact vp_in_nI (by omega) (by omega)
    have i4 : vp_in (nI (6 * k) + 4) L := by rw [show nI (6 * k) + 4 = nI (6 * k + 4) from nI_add _ 4]; exact vp_in_nI (by omega) (by omega)
    have i5 : vp_in (nI (6 * k) + 5) L := by rw [show nI (6 * k) + 5 = nI (6 * k + 5) from nI_add _ 5]; exact vp_in_nI (by omega) (by omega)
    have kk : lw_go p l e s m below meth c E co u mo v b (nI (6 * k)) (K + 2) (S + 99) 1354 := by
      clear hR hJ hW hF hC hU hZ hP hD hS hl
      intro cWs cKp rSz rTc rFa rPa rPy rMi rMe rSr rZ rKi rHe rDo rTx rLa rSk jSz jTc jFa jPa jPy jMi jMe jSr jZ jKi jHe jDo jTx jLa jSk qSz qTc qFa qPa qPy qMi qMe qSr qZ qKi qHe qDo qTx qLa qSk yRi yLe yLa eLn eFt eCc eKy eLv eOb eOn eSt eEd eSo eBy eCo cWt w0So w0Sz w0Vl w1So w1Sz w1Vl w2So w2Sz w2Vl w3So w3Sz w3Vl z0Th z0Ki z0He z0Nu x0So x0Sz x0Vl z1Th z1Ki z1He z1Nu x1So x1Sz x1Vl z2Th z2Ki z2He z2Nu x2So x2Sz x2Vl z3Th z3Ki z3He z3Nu x3So x3Sz x3Vl z4Th z4Ki z4He z4Nu x4So x4Sz x4Vl mHI mFC mLC mCg mTp mNx mFr mTk mVa mEn mKe mCs mAt mHd mWg mNow mImg mAsd mLea mLat mBst mRsk mTap mKys mKat mCod mWts mTes mStk mFct mSor mSiz mCel mHol mHoA mHoB mHoC mMov mTel LT pk pv pa pn tc H locs ls hR hJ hW hF hC hU hZ hP hD hS hl
      refine lv_iinc (v := nI (6 * (k + 1))) (lv' := [(3, .int (nI (6 * (k + 1)))), (0, .ref b), (1, .ref co), (2, .ref mo)]) hx hb dL_law_1354 hl (k := 3) rfl (show nI (6 * k) + nI 6 = nI (6 * (k + 1)) by rw [nI_add, Nat.mul_succ]) (by decide) rfl (fun ls hl => ?_)
      refine lv_goto (tgt := 18) hx hb dL_law_1357 (by decide) ?_
      exact nx hR hJ hW hF hC hU hZ hP hD hS (lv_sub hl [1, 2, 3, 0] rfl)
    refine lv_aload_n hx hb dL_law_27 rfl (lv_at hl 0 rfl) ?_
    refine lv_iload_n hx hb dL_law_28 rfl (lv_at hl 3 rfl) ?_
    refine va_sld hx hb hX hbl hbA hS i0 dL_law_29 ?_
    refine lv_bipush (v := 63) hx hb dL_law_30 (by decide) ?_
    refine lv_iand hx hb dL_law_32 ?_
    refine lv_topi (fun x ex => ?_)
    by_cases t0 : x.toInt = 0
    · exact lv_tableIn (tgt := 200) (off := 167) hx hb dL_law_33 (by omega) (by omega) (by rw [t0]; rfl) (by decide) (lw_d0 C0 hE i1 i2 i3 i4 i5 hKb hSb kk hR hJ hW hF hC hU hZ hP hD hS hl)
    by_cases t1 : x.toInt = 1
    · exact lv_tableIn (tgt := 233) (off := 200) hx hb dL_law_33 (by omega) (by omega) (by rw [t1]; rfl) (by decide) (lw_d1 C0 hE i1 i2 i3 i4 i5 hKb hSb kk hR hJ hW hF hC hU hZ hP hD hS hl)
    by_cases t2 : x.toInt = 2
    · exact lv_tableIn (tgt := 266) (off := 233) hx hb dL_law_33 (by omega) (by omega) (by rw [t2]; rfl) (by decide) (lw_d2 C0 hE i1 i2 i3 i4 i5 hKb hSb kk hR hJ hW hF hC hU hZ hP hD hS hl)
    by_cases t3 : x.toInt = 3
    · exact lv_tableIn (tgt := 299) (off := 266) hx hb dL_law_33 (by omega) (by omega) (by rw [t3]; rfl) (by decide) (lw_d3 C0 hE i1 i2 i3 i4 i5 hKb hSb kk hR hJ hW hF hC hU hZ hP hD hS hl)
    by_cases t4 : x.toInt = 4
    · exact lv_tableIn (tgt := 332) (off := 299) hx hb dL_law_33 (by omega) (by omega) (by rw [t4]; rfl) (by decide) (lw_d4 C0 hE i1 i2 i3 i4 i5 hKb hSb kk hR hJ hW hF hC hU hZ hP hD hS hl)
    by_cases t5 : x.toInt = 5
    · exact lv_tableIn (tgt := 375) (off := 342) hx hb dL_law_33 (by omega) (by omega) (by rw [t5]; rfl) (by decide) (lw_d5 C0 hE i1 i2 i3 i4 i5 hKb hSb kk hR hJ hW hF hC hU hZ hP hD hS hl)
    by_cases t6 : x.toInt = 6
    · exact lv_tableIn (tgt := 398) (off := 365) hx hb dL_law_33 (by omega) (by omega) (by rw [t6]; rfl) (by decide) (lw_d6 C0 hE i1 i2 i3 i4 i5 hKb hSb kk hR hJ hW hF hC hU hZ hP hD hS hl)
    by_cases t7 : x.toInt = 7
    · exact lv_tableIn (tgt := 421) (off := 388) hx hb dL_law_33 (by omega) (by omega) (by rw [t7]; rfl) (by decide) (lw_d7 C0 hE i1 i2 i3 i4 i5 hKb hSb kk hR hJ hW hF hC hU hZ hP hD hS hl)
    by_cases t8 : x.toInt = 8
    · exact lv_tableIn (tgt := 454) (off := 421) hx hb dL_law_33 (by omega) (by omega) (by rw [t8]; rfl) (by decide) (lw_d8 C0 hE i1 i2 i3 i4 i5 hKb hSb kk hR hJ hW hF hC hU hZ hP hD hS hl)
    by_cases t9 : x.toInt = 9
    · exact lv_tableIn (tgt := 487) (off := 454) hx hb dL_law_33 (by omega) (by omega) (by rw [t9]; rfl) (by decide) (lw_d9 C0 hE i1 i2 i3 i4 i5 hKb hSb kk hR hJ hW hF hC hU hZ hP hD hS hl)
    by_cases t10 : x.toInt = 10
    · exact lv_tableIn (tgt := 520) (off := 487) hx hb dL_law_33 (by omega) (by omega) (by rw [t10]; rfl) (by decide) (lw_d10 C0 hE i1 i2 i3 i4 i5 hKb hSb kk hR hJ hW hF hC hU hZ hP hD hS hl)
    by_cases t11 : x.toInt = 11
    · exact lv_tableIn (tgt := 543) (off := 510) hx hb dL_law_33 (by omega) (by omega) (by rw [t11]; rfl) (by decide) (lw_d11 C0 hE i1 i2 i3 i4 i5 hKb hSb kk hR hJ hW hF hC hU hZ hP hD hS hl)
    by_cases t12 : x.toInt = 12
    · exact lv_tableIn (tgt := 566) (off := 533) hx hb dL_law_33 (by omega) (by omega) (by rw [t12]; rfl) (by decide) (lw_d12 C0 hE i1 i2 i3 i4 i5 hKb hSb kk hR hJ hW hF hC hU hZ hP hD hS hl)
    by_cases t13 : x.toInt = 13
    · exact lv_tableIn (tgt := 589) (off := 556) hx hb dL_law_33 (by omega) (by omega) (by rw [t13]; rfl) (by decide) (lw_d13 C0 hE i1 i2 i3 i4 i5 hKb hSb kk hR hJ hW hF hC hU hZ hP hD hS hl)
    by_cases t14 : x.toInt = 14
    · exact lv_tableIn (tgt := 632) (off := 599) hx hb dL_law_33 (by omega) (by omega) (by rw [t14]; rfl) (by decide) (lw_d14 C0 hE i1 i2 i3 i4 i5 hKb hSb kk hR hJ hW hF hC hU hZ hP hD hS hl)
    by_cases t15 : x.toInt = 15
    · exact lv_tableIn (tgt := 675) (off := 642) hx hb dL_law_33 (by omega) (by omega) (by rw [t15]; rfl) (by decide) (lw_d15 C0 hE i1 i2 i3 i4 i5 hKb hSb kk hR hJ hW hF hC hU hZ hP hD hS hl)
    by_cases t16 : x.toInt = 16
    · exact lv_tableIn (tgt := 708) (off := 675) hx hb dL_law_33 (by omega) (by omega) (by rw [t16]; rfl) (by decide) (lw_d16 C0 hE i1 i2 i3 i4 i5 hKb hSb kk hR hJ hW hF hC hU hZ hP hD hS hl)
    by_cases t17 : x.toInt = 17
    · exact lv_tableIn (tgt := 731) (off := 698) hx hb dL_law_33 (by omega) (by omega) (by rw [t17]; rfl) (by decide) (lw_d17 C0 hE i1 i2 i3 i4 i5 hKb hSb kk hR hJ hW hF hC hU hZ hP hD hS hl)
    by_cases t18 : x.toInt = 18
    · exact lv_tableIn (tgt := 764) (off := 731) hx hb dL_law_33 (by omega) (by omega) (by rw [t18]; rfl) (by decide) (lw_d18 C0 hE i1 i2 i3 i4 i5 hKb hSb kk hR hJ hW hF hC hU hZ hP hD hS hl)
    by_cases t19 : x.toInt = 19
    · exact lv_tableIn (tgt := 787) (off := 754) hx hb dL_law_33 (by omega) (by omega) (by rw [t19]; rfl) (by decide) (lw_d19 C0 hE i1 i2 i3 i4 i5 hKb hSb kk hR hJ hW hF hC hU hZ hP hD hS hl)
    by_cases t20 : x.toInt = 20
    · exact lv_tableIn (tgt := 830) (off := 797) hx hb dL_law_33 (by omega) (by omega) (by rw [t20]; rfl) (by decide) (lw_d20 C0 hE i1 i2 i3 i4 i5 hKb hSb kk hR hJ hW hF hC hU hZ hP hD hS hl)
    by_cases t21 : x.toInt = 21
    · exact lv_tableIn (tgt := 853) (off := 820) hx hb dL_law_33 (by omega) (by omega) (by rw [t21]; rfl) (by decide) (lw_d21 C0 hE i1 i2 i3 i4 i5 hKb hSb kk hR hJ hW hF hC hU hZ hP hD hS hl)
    by_cases t22 : x.toInt = 22
    · exact lv_tableIn (tgt := 866) (off := 833) hx hb dL_law_33 (by omega) (by omega) (by rw [t22]; rfl) (by decide) (lw_d22 C0 hE i1 i2 i3 i4 i5 hKb hSb kk hR hJ hW hF hC hU hZ hP hD hS hl)
    by_cases t23 : x.toInt = 23
    · exact lv_tableIn (tgt := 899) (off := 866) hx hb dL_law_33 (by omega) (by omega) (by rw [t23]; rfl) (by decide) (lw_d23 C0 hE i1 i2 i3 i4 i5 hKb hSb kk hR hJ hW hF hC hU hZ hP hD hS hl)
    by_cases t24 : x.toInt = 24
    · exact lv_tableIn (tgt := 922) (off := 889) hx hb dL_law_33 (by omega) (by omega) (by rw [t24]; rfl) (by decide) (lw_d24 C0 hE i1 i2 i3 i4 i5 hKb hSb kk hR hJ hW hF hC hU hZ hP hD hS hl)
    by_cases t25 : x.toInt = 25
    · exact lv_tableIn (tgt := 965) (off := 932) hx hb dL_law_33 (by omega) (by omega) (by rw [t25]; rfl) (by decide) (lw_d25 C0 hE i1 i2 i3 i4 i5 hKb hSb kk hR hJ hW hF hC hU hZ hP hD hS hl)
    by_cases t26 : x.toInt = 26
    · exact lv_tableIn (tgt := 1008) (off := 975) hx hb dL_law_33 (by omega) (by omega) (by rw [t26]; rfl) (by decide) (lw_d26 C0 hE i1 i2 i3 i4 i5 hKb hSb kk hR hJ hW hF hC hU hZ hP hD hS hl)
    by_cases t27 : x.toInt = 27
    · exact lv_tableIn (tgt := 1031) (off := 998) hx hb dL_law_33 (by omega) (by omega) (by rw [t27]; rfl) (by decide) (lw_d27 C0 hE i1 i2 i3 i4 i5 hKb hSb kk hR hJ hW hF hC hU hZ hP hD hS hl)
    by_cases t28 : x.toInt = 28
    · exact lv_tableIn (tgt := 1054) (off := 1021) hx hb dL_law_33 (by omega) (by omega) (by rw [t28]; rfl) (by decide) (lw_d28 C0 hE i1 i2 i3 i4 i5 hKb hSb kk hR hJ hW hF hC hU hZ hP hD hS hl)
    by_cases t29 : x.toInt = 29
    · exact lv_tableIn (tgt := 1117) (off := 1084) hx hb dL_law_33 (by omega) (by omega) (by rw [t29]; rfl) (by decide) (lw_d29 C0 hE i1 i2 i3 i4 i5 hKb hSb kk hR hJ hW hF hC hU hZ hP hD hS hl)
    by_cases t30 : x.toInt = 30
    · exact lv_tableIn (tgt := 1160) (off := 1127) hx hb dL_law_33 (by omega) (by omega) (by rw [t30]; rfl) (by decide) (lw_d30 C0 hE i1 i2 i3 i4 i5 hKb hSb kk hR hJ hW hF hC hU hZ hP hD hS hl)
    by_cases t31 : x.toInt = 31
    · exact lv_tableIn (tgt := 1193) (off := 1160) hx hb dL_law_33 (by omega) (by omega) (by rw [t31]; rfl) (by decide) (lw_d31 C0 hE i1 i2 i3 i4 i5 hKb hSb kk hR hJ hW hF hC hU hZ hP hD hS hl)
    by_cases t32 : x.toInt = 32
    · exact lv_tableIn (tgt := 1226) (off := 1193) hx hb dL_law_33 (by omega) (by omega) (by rw [t32]; rfl) (by decide) (lw_d32 C0 hE i1 i2 i3 i4 i5 hKb hSb kk hR hJ hW hF hC hU hZ hP hD hS hl)
    by_cases t33 : x.toInt = 33
    · exact lv_tableIn (tgt := 1259) (off := 1226) hx hb dL_law_33 (by omega) (by omega) (by rw [t33]; rfl) (by decide) (lw_d33 C0 hE i1 i2 i3 i4 i5 hKb hSb kk hR hJ hW hF hC hU hZ hP hD hS hl)
    by_cases t34 : x.toInt = 34
    · exact lv_tableIn (tgt := 1282) (off := 1249) hx hb dL_law_33 (by omega) (by omega) (by rw [t34]; rfl) (by decide) (lw_d34 C0 hE i1 i2 i3 i4 i5 hKb hSb kk hR hJ hW hF hC hU hZ hP hD hS hl)
    by_cases t35 : x.toInt = 35
    · exact lv_tableIn (tgt := 1305) (off := 1272) hx hb dL_law_33 (by omega) (by omega) (by rw [t35]; rfl) (by decide) (lw_d35 C0 hE i1 i2 i3 i4 i5 hKb hSb kk hR hJ hW hF hC hU hZ hP hD hS hl)
    by_cases t36 : x.toInt = 36
    · exact lv_tableIn (tgt := 1318) (off := 1285) hx hb dL_law_33 (by omega) (by omega) (by rw [t36]; rfl) (by decide) (lw_d36 C0 hE i1 i2 i3 i4 i5 hKb hSb kk hR hJ hW hF hC hU hZ hP hD hS hl)
    by_cases t37 : x.toInt = 37
    · exact lv_tableIn (tgt := 1331) (off := 1298) hx hb dL_law_33 (by omega) (by omega) (by rw [t37]; rfl) (by decide) (lw_d37 C0 hE i1 i2 i3 i4 i5 hKb hSb kk hR hJ hW hF hC hU hZ hP hD hS hl)
    refine lv_tableOut (tgt := 1354) hx hb dL_law_33 (by omega) (by decide) ?_
    refine W.widen (k := K + 2) (n := S + 99) (by omega) (by omega) ?_
    exact kk hR hJ hW hF hC hU hZ hP hD hS hl
theorem lw_loop {p : Program} {l : Launch} {e : Env} {s : State} {m : MethodId} {below : List Frame} {meth : Method} {c : Code} {E : gE} {co : Nat} {u : Nat → Nat} {mo : Nat} {v : Nat → Nat} {b L : Nat} {xs : Nat → Int32} (hL : L ≤ 3072) (C0 : lw_At p s m meth c b L xs) (hE : rc_ev E (fun q : Nat => s.heap.size ≤ q) s s.heap) : ∀ (n k : Nat), L < 6 * k + 6 * n → 6 * k ≤ L + 5 → lw_go p l e s m below meth c E co u mo v b (nI (6 * k)) (100 + 2 * k) (10000 + 99 * k) 18 := by
  intro n
  induction n with
  | zero => intro k h1 h2; exact lw_step hL C0 hE h2 (by omega) (by omega) (fun h => absurd h1 (by omega))
  | succ n ih =>
    intro k h1 h2
    exact lw_step hL C0 hE h2 (by omega) (by omega) (fun h => ih (k + 1) (by omega) (by omega))
