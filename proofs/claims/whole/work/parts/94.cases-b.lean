set_option maxHeartbeats 4000000 in
set_option maxRecDepth 100000 in
theorem lc_now {p : Program} {l : Launch} {e : Env} {s : State} {m : MethodId} {below : List Frame} {meth : Method} {c : Code} {D : va_G} {C : Nat → ClassId} {A : Nat → Prop} {a : Nat → Nat → Nat} {aZ : Nat → Nat} {b L : Nat} {xs : Nat → Int32} {Q : State → Prop} {ls : Array Slot} {i : Int32} {mX mR mF mT mP mA mI mJ mH mK mD : Mm} {mG : Int64} {mZ : Mm} {mY : Int64} {H : Heap} {locs : List Loc} (hx : p.tables.exec = Jvm.exec) (hb : c.code = cL_law) (hml : c.maxLocals = 4) (hown : s.vm.findClass RL = some m.cls) (hts : ∀ w ∈ wsL_law, w.before #[Value.ref b] s = true) (hX : va_X b L xs s s.heap) (hbl : b < s.heap.size) (hbA : ¬ A b) (hA : ∀ q : Nat, s.heap.size ≤ q → A q) (hK : va_K D vwCl (tyL C) s) (hN : vv_NE C A s) (h1 : vp_in (i + 1) L) (h2 : vp_in (i + 2) L) (h3 : vp_in (i + 3) L) (h4 : vp_in (i + 4) L) (hl : lv_has ls 4 [(0, .ref b), (1, .ref (a 0 0)), (2, .ref (aZ 0)), (3, .int i)]) (hR : Rl mX mR mT mP mI mJ mD mG mZ mY) (hP : va_P D vwCl (w_L C a aZ mX mR mF mT mP mA mI mJ mH mK mD mG mZ mY) H) (hD : va_D A (w_L C a aZ mX mR mF mT mP mA mI mJ mH mK mD mG mZ mY)) (hS : va_S A s.heap H locs)
    (kk : ∀ (mX mR mF mT mP mA mI mJ mH mK mD : Mm) (mG : Int64) (mZ : Mm) (mY : Int64) (H : Heap) (locs : List Loc), Rl mX mR mT mP mI mJ mD mG mZ mY → va_P D vwCl (w_L C a aZ mX mR mF mT mP mA mI mJ mH mK mD mG mZ mY) H → va_D A (w_L C a aZ mX mR mF mT mP mA mI mJ mH mK mD mG mZ mY) → va_S A s.heap H locs → W p l e room_1 s m #[Value.ref b] below meth c H locs 100 2000 Q (F0 m 953 ls [])) : W p l e room_1 s m #[Value.ref b] below meth c H locs 100 2000 Q (F0 m 444 ls []) := by
  obtain ⟨r, e1, e2⟩ := st_now hR  (xs (i + 1).toNatClampNeg)
  refine lv_aload_n hx hb dL_law_444 rfl (lv_at hl 1 rfl) ?_
  refine lv_aload_n hx hb dL_law_445 rfl (lv_at hl 0 rfl) ?_
  refine lv_iload_n hx hb dL_law_446 rfl (lv_at hl 3 rfl) ?_
  refine lv_iconst (v := 1) hx hb dL_law_447 (by decide) ?_
  refine lv_iadd hx hb dL_law_448 ?_
  refine va_sld hx hb hX hbl hbA hS h1 dL_law_449 ?_
  have hs9 : vv_Sub D H A (w_FR C a mX ++ (w_Told C (a 3) mT ++ w_Mom C (a 3) (a 4) mP)) (w_FR C a mX ++ (w_Told C (a 3) mT ++ w_Mom C (a 3) (a 4) mP)) (w_L C a aZ mX mR mF mT mP mA mI mJ mH mK mD mG mZ mY) := vv_Sub.part (ws := w_L C a aZ mX mR mF mT mP mA mI mJ mH mK mD mG mZ mY) (wr := w_Rd C (a 2) (a 1) mR ++ (w_Told C (a 2) mF ++ (w_Mom C (a 3) (a 5) mA ++ (w_Mom C (a 3) (a 6) mI ++ (w_Mom C (a 3) (a 7) mJ ++ (w_Hg C (a 3) (a 4) (a 5) (a 8) mH ++ (w_Tk C (a 3) (a 4) (a 9) mK ++ (w_Dy C (a 10) mD ++ (w_Mk (a 3) (a 4) (a 11) mG ++ w_MD C aZ mZ mY))))))))) [0, 1, 2, 12, 13, 14, 15, 16, 17, 18, 19, 20, 21, 22, 23] [3, 4, 5, 6, 7, 8, 9, 10, 11, 24, 25, 26, 27, 28, 29, 30, 31, 32, 33, 34, 35, 36, 37, 38, 39, 40, 41, 42, 43, 44, 45, 46, 47, 48, 49, 50, 51, 52, 53, 54, 55, 56, 57, 58, 59, 60, 61, 62, 63, 64, 65, 66, 67, 68, 69, 70, 71, 72, 73, 74, 75, 76, 77, 78] [64, 65, 66, 0, 1, 2, 3, 4, 5, 6, 7, 8, 67, 68, 69, 70, 71, 72, 73, 74, 75, 76, 77, 78, 9, 10, 11, 12, 13, 14, 15, 16, 17, 18, 19, 20, 21, 22, 23, 24, 25, 26, 27, 28, 29, 30, 31, 32, 33, 34, 35, 36, 37, 38, 39, 40, 41, 42, 43, 44, 45, 46, 47, 48, 49, 50, 51, 52, 53, 54, 55, 56, 57, 58, 59, 60, 61, 62, 63] hP hD hS hA rfl rfl (by decide) rfl
  refine vv_goi (wn := w_L C a aZ mX mR mF mT mP mA mI mJ mH mK mD mG mZ mY) hK hs9 hS (vv_rV (As := [.int (xs (i + 1).toNatClampNeg)]) (rest := []) hx hb hml hown hts hK hN hS hs9 (ccX7_now l D C H.size a mX mT mP (xs (i + 1).toNatClampNeg) r e1) (cwV 1 hts gL_law_X7_now rfl rfl rfl (by decide +kernel) ⟨(Nat.le_of_ble_eq_true rfl), (Nat.le_of_ble_eq_true rfl)⟩) (va_recv hK hP (ci := 7) (q0 := 0) rfl rfl) rfl hl.1 rfl (Nat.le_of_ble_eq_true rfl) dL_law_450 ⟨(Nat.le_of_ble_eq_true rfl), (Nat.le_of_ble_eq_true rfl)⟩) (fun H locs hP hD hS => ?_)
  refine lv_aload_n hx hb dL_law_453 rfl (lv_at hl 2 rfl) ?_
  refine lv_aload_n hx hb dL_law_454 rfl (lv_at hl 0 rfl) ?_
  refine lv_iload_n hx hb dL_law_455 rfl (lv_at hl 3 rfl) ?_
  refine lv_iconst (v := 1) hx hb dL_law_456 (by decide) ?_
  refine lv_iadd hx hb dL_law_457 ?_
  refine va_sld hx hb hX hbl hbA hS h1 dL_law_458 ?_
  have hs9 := law_subM mZ mY hP hD hS hA
  refine vv_goi (wn := w_L C a aZ mX mR mF mT mP mA mI mJ mH mK mD mG mZ mY) hK hs9 hS (vv_rV (As := [.int (xs (i + 1).toNatClampNeg)]) (rest := [.int r]) hx hb hml hown hts hK hN hS hs9 (ccX8_now l D C H.size aZ mZ mY (xs (i + 1).toNatClampNeg) r e2) (cwV 1 hts gL_law_X8_now rfl rfl rfl (by decide +kernel) ⟨(Nat.le_of_ble_eq_true rfl), (Nat.le_of_ble_eq_true rfl)⟩) (va_recv hK hP (ci := 8) (q0 := 60) rfl rfl) rfl hl.1 rfl (Nat.le_of_ble_eq_true rfl) dL_law_459 ⟨(Nat.le_of_ble_eq_true rfl), (Nat.le_of_ble_eq_true rfl)⟩) (fun H locs hP hD hS => ?_)
  refine lv_icmp_eq (tgt := 953) hx hb dL_law_462 (by decide) (fun _ => ?_) (fun hc => absurd rfl hc)
  exact kk mX mR mF mT mP mA mI mJ mH mK mD mG mZ mY H locs hR hP hD hS
set_option maxHeartbeats 4000000 in
set_option maxRecDepth 100000 in
theorem lc_anew {p : Program} {l : Launch} {e : Env} {s : State} {m : MethodId} {below : List Frame} {meth : Method} {c : Code} {D : va_G} {C : Nat → ClassId} {A : Nat → Prop} {a : Nat → Nat → Nat} {aZ : Nat → Nat} {b L : Nat} {xs : Nat → Int32} {Q : State → Prop} {ls : Array Slot} {i : Int32} {mX mR mF mT mP mA mI mJ mH mK mD : Mm} {mG : Int64} {mZ : Mm} {mY : Int64} {H : Heap} {locs : List Loc} (hx : p.tables.exec = Jvm.exec) (hb : c.code = cL_law) (hml : c.maxLocals = 4) (hown : s.vm.findClass RL = some m.cls) (hts : ∀ w ∈ wsL_law, w.before #[Value.ref b] s = true) (hX : va_X b L xs s s.heap) (hbl : b < s.heap.size) (hbA : ¬ A b) (hA : ∀ q : Nat, s.heap.size ≤ q → A q) (hK : va_K D vwCl (tyL C) s) (hN : vv_NE C A s) (h1 : vp_in (i + 1) L) (h2 : vp_in (i + 2) L) (h3 : vp_in (i + 3) L) (h4 : vp_in (i + 4) L) (hl : lv_has ls 4 [(0, .ref b), (1, .ref (a 0 0)), (2, .ref (aZ 0)), (3, .int i)]) (hR : Rl mX mR mT mP mI mJ mD mG mZ mY) (hP : va_P D vwCl (w_L C a aZ mX mR mF mT mP mA mI mJ mH mK mD mG mZ mY) H) (hD : va_D A (w_L C a aZ mX mR mF mT mP mA mI mJ mH mK mD mG mZ mY)) (hS : va_S A s.heap H locs)
    (kk : ∀ (mX mR mF mT mP mA mI mJ mH mK mD : Mm) (mG : Int64) (mZ : Mm) (mY : Int64) (H : Heap) (locs : List Loc), Rl mX mR mT mP mI mJ mD mG mZ mY → va_P D vwCl (w_L C a aZ mX mR mF mT mP mA mI mJ mH mK mD mG mZ mY) H → va_D A (w_L C a aZ mX mR mF mT mP mA mI mJ mH mK mD mG mZ mY) → va_S A s.heap H locs → W p l e room_1 s m #[Value.ref b] below meth c H locs 100 2000 Q (F0 m 953 ls [])) : W p l e room_1 s m #[Value.ref b] below meth c H locs 100 2000 Q (F0 m 467 ls []) := by
  obtain ⟨r, oP, oZ, e1, e2, hR⟩ := st_anew hR  
  refine lv_aload_n hx hb dL_law_467 rfl (lv_at hl 1 rfl) ?_
  have hs9 : vv_Sub D H A (w_FR C a mX ++ (w_Told C (a 3) mT ++ w_Mom C (a 3) (a 4) mP)) (w_FR C a mX ++ (w_Told C (a 3) mT ++ w_Mom C (a 3) (a 4) oP)) (w_L C a aZ mX mR mF mT oP mA mI mJ mH mK mD mG mZ mY) := vv_Sub.part (ws := w_L C a aZ mX mR mF mT mP mA mI mJ mH mK mD mG mZ mY) (wr := w_Rd C (a 2) (a 1) mR ++ (w_Told C (a 2) mF ++ (w_Mom C (a 3) (a 5) mA ++ (w_Mom C (a 3) (a 6) mI ++ (w_Mom C (a 3) (a 7) mJ ++ (w_Hg C (a 3) (a 4) (a 5) (a 8) mH ++ (w_Tk C (a 3) (a 4) (a 9) mK ++ (w_Dy C (a 10) mD ++ (w_Mk (a 3) (a 4) (a 11) mG ++ w_MD C aZ mZ mY))))))))) [0, 1, 2, 12, 13, 14, 15, 16, 17, 18, 19, 20, 21, 22, 23] [3, 4, 5, 6, 7, 8, 9, 10, 11, 24, 25, 26, 27, 28, 29, 30, 31, 32, 33, 34, 35, 36, 37, 38, 39, 40, 41, 42, 43, 44, 45, 46, 47, 48, 49, 50, 51, 52, 53, 54, 55, 56, 57, 58, 59, 60, 61, 62, 63, 64, 65, 66, 67, 68, 69, 70, 71, 72, 73, 74, 75, 76, 77, 78] [64, 65, 66, 0, 1, 2, 3, 4, 5, 6, 7, 8, 67, 68, 69, 70, 71, 72, 73, 74, 75, 76, 77, 78, 9, 10, 11, 12, 13, 14, 15, 16, 17, 18, 19, 20, 21, 22, 23, 24, 25, 26, 27, 28, 29, 30, 31, 32, 33, 34, 35, 36, 37, 38, 39, 40, 41, 42, 43, 44, 45, 46, 47, 48, 49, 50, 51, 52, 53, 54, 55, 56, 57, 58, 59, 60, 61, 62, 63] hP hD hS hA rfl rfl (by decide) rfl
  refine vv_goi (wn := w_L C a aZ mX mR mF mT oP mA mI mJ mH mK mD mG mZ mY) hK hs9 hS (vv_rV (As := []) (rest := []) hx hb hml hown hts hK hN hS hs9 (ccX7_anew l D C H.size a mX mT mP r oP e1) (cwV 0 hts gL_law_X7_anew rfl rfl rfl (by decide +kernel) ⟨(Nat.le_of_ble_eq_true rfl), (Nat.le_of_ble_eq_true rfl)⟩) (va_recv hK hP (ci := 7) (q0 := 0) rfl rfl) rfl hl.1 rfl (Nat.le_of_ble_eq_true rfl) dL_law_468 ⟨(Nat.le_of_ble_eq_true rfl), (Nat.le_of_ble_eq_true rfl)⟩) (fun H locs hP hD hS => ?_)
  refine lv_aload_n hx hb dL_law_471 rfl (lv_at hl 2 rfl) ?_
  have hs9 := law_subM oZ mY hP hD hS hA
  refine vv_goi (wn := w_L C a aZ mX mR mF mT oP mA mI mJ mH mK mD mG oZ mY) hK hs9 hS (vv_rV (As := []) (rest := [.int r]) hx hb hml hown hts hK hN hS hs9 (ccX8_anew l D C H.size aZ mZ mY r oZ e2) (cwV 0 hts gL_law_X8_anew rfl rfl rfl (by decide +kernel) ⟨(Nat.le_of_ble_eq_true rfl), (Nat.le_of_ble_eq_true rfl)⟩) (va_recv hK hP (ci := 8) (q0 := 60) rfl rfl) rfl hl.1 rfl (Nat.le_of_ble_eq_true rfl) dL_law_472 ⟨(Nat.le_of_ble_eq_true rfl), (Nat.le_of_ble_eq_true rfl)⟩) (fun H locs hP hD hS => ?_)
  refine lv_icmp_eq (tgt := 953) hx hb dL_law_475 (by decide) (fun _ => ?_) (fun hc => absurd rfl hc)
  exact kk mX mR mF mT oP mA mI mJ mH mK mD mG oZ mY H locs hR hP hD hS
set_option maxHeartbeats 4000000 in
set_option maxRecDepth 100000 in
theorem lc_when {p : Program} {l : Launch} {e : Env} {s : State} {m : MethodId} {below : List Frame} {meth : Method} {c : Code} {D : va_G} {C : Nat → ClassId} {A : Nat → Prop} {a : Nat → Nat → Nat} {aZ : Nat → Nat} {b L : Nat} {xs : Nat → Int32} {Q : State → Prop} {ls : Array Slot} {i : Int32} {mX mR mF mT mP mA mI mJ mH mK mD : Mm} {mG : Int64} {mZ : Mm} {mY : Int64} {H : Heap} {locs : List Loc} (hx : p.tables.exec = Jvm.exec) (hb : c.code = cL_law) (hml : c.maxLocals = 4) (hown : s.vm.findClass RL = some m.cls) (hts : ∀ w ∈ wsL_law, w.before #[Value.ref b] s = true) (hX : va_X b L xs s s.heap) (hbl : b < s.heap.size) (hbA : ¬ A b) (hA : ∀ q : Nat, s.heap.size ≤ q → A q) (hK : va_K D vwCl (tyL C) s) (hN : vv_NE C A s) (h1 : vp_in (i + 1) L) (h2 : vp_in (i + 2) L) (h3 : vp_in (i + 3) L) (h4 : vp_in (i + 4) L) (hl : lv_has ls 4 [(0, .ref b), (1, .ref (a 0 0)), (2, .ref (aZ 0)), (3, .int i)]) (hR : Rl mX mR mT mP mI mJ mD mG mZ mY) (hP : va_P D vwCl (w_L C a aZ mX mR mF mT mP mA mI mJ mH mK mD mG mZ mY) H) (hD : va_D A (w_L C a aZ mX mR mF mT mP mA mI mJ mH mK mD mG mZ mY)) (hS : va_S A s.heap H locs)
    (kk : ∀ (mX mR mF mT mP mA mI mJ mH mK mD : Mm) (mG : Int64) (mZ : Mm) (mY : Int64) (H : Heap) (locs : List Loc), Rl mX mR mT mP mI mJ mD mG mZ mY → va_P D vwCl (w_L C a aZ mX mR mF mT mP mA mI mJ mH mK mD mG mZ mY) H → va_D A (w_L C a aZ mX mR mF mT mP mA mI mJ mH mK mD mG mZ mY) → va_S A s.heap H locs → W p l e room_1 s m #[Value.ref b] below meth c H locs 100 2000 Q (F0 m 953 ls [])) : W p l e room_1 s m #[Value.ref b] below meth c H locs 100 2000 Q (F0 m 480 ls []) := by
  obtain ⟨r, oA, oZ, e1, e2, hR⟩ := st_when hR mA (xs (i + 1).toNatClampNeg)
  refine lv_aload_n hx hb dL_law_480 rfl (lv_at hl 1 rfl) ?_
  refine lv_aload_n hx hb dL_law_481 rfl (lv_at hl 0 rfl) ?_
  refine lv_iload_n hx hb dL_law_482 rfl (lv_at hl 3 rfl) ?_
  refine lv_iconst (v := 1) hx hb dL_law_483 (by decide) ?_
  refine lv_iadd hx hb dL_law_484 ?_
  refine va_sld hx hb hX hbl hbA hS h1 dL_law_485 ?_
  have hs9 : vv_Sub D H A (w_FR C a mX ++ (w_Told C (a 3) mT ++ (w_Mom C (a 3) (a 4) mP ++ w_Mom C (a 3) (a 5) mA))) (w_FR C a mX ++ (w_Told C (a 3) mT ++ (w_Mom C (a 3) (a 4) mP ++ w_Mom C (a 3) (a 5) oA))) (w_L C a aZ mX mR mF mT mP oA mI mJ mH mK mD mG mZ mY) := vv_Sub.part (ws := w_L C a aZ mX mR mF mT mP mA mI mJ mH mK mD mG mZ mY) (wr := w_Rd C (a 2) (a 1) mR ++ (w_Told C (a 2) mF ++ (w_Mom C (a 3) (a 6) mI ++ (w_Mom C (a 3) (a 7) mJ ++ (w_Hg C (a 3) (a 4) (a 5) (a 8) mH ++ (w_Tk C (a 3) (a 4) (a 9) mK ++ (w_Dy C (a 10) mD ++ (w_Mk (a 3) (a 4) (a 11) mG ++ w_MD C aZ mZ mY)))))))) [0, 1, 2, 12, 13, 14, 15, 16, 17, 18, 19, 20, 21, 22, 23, 24, 25, 26, 27, 28] [3, 4, 5, 6, 7, 8, 9, 10, 11, 29, 30, 31, 32, 33, 34, 35, 36, 37, 38, 39, 40, 41, 42, 43, 44, 45, 46, 47, 48, 49, 50, 51, 52, 53, 54, 55, 56, 57, 58, 59, 60, 61, 62, 63, 64, 65, 66, 67, 68, 69, 70, 71, 72, 73, 74, 75, 76, 77, 78] [59, 60, 61, 0, 1, 2, 3, 4, 5, 6, 7, 8, 62, 63, 64, 65, 66, 67, 68, 69, 70, 71, 72, 73, 74, 75, 76, 77, 78, 9, 10, 11, 12, 13, 14, 15, 16, 17, 18, 19, 20, 21, 22, 23, 24, 25, 26, 27, 28, 29, 30, 31, 32, 33, 34, 35, 36, 37, 38, 39, 40, 41, 42, 43, 44, 45, 46, 47, 48, 49, 50, 51, 52, 53, 54, 55, 56, 57, 58] hP hD hS hA rfl rfl (by decide) rfl
  refine vv_goi (wn := w_L C a aZ mX mR mF mT mP oA mI mJ mH mK mD mG mZ mY) hK hs9 hS (vv_rV (As := [.int (xs (i + 1).toNatClampNeg)]) (rest := []) hx hb hml hown hts hK hN hS hs9 (ccX7_when l D C H.size a mX mT mP mA (xs (i + 1).toNatClampNeg) r oA e1) (cwV 1 hts gL_law_X7_when rfl rfl rfl (by decide +kernel) ⟨(Nat.le_of_ble_eq_true rfl), (Nat.le_of_ble_eq_true rfl)⟩) (va_recv hK hP (ci := 7) (q0 := 0) rfl rfl) rfl hl.1 rfl (Nat.le_of_ble_eq_true rfl) dL_law_486 ⟨(Nat.le_of_ble_eq_true rfl), (Nat.le_of_ble_eq_true rfl)⟩) (fun H locs hP hD hS => ?_)
  refine lv_aload_n hx hb dL_law_489 rfl (lv_at hl 2 rfl) ?_
  refine lv_aload_n hx hb dL_law_490 rfl (lv_at hl 0 rfl) ?_
  refine lv_iload_n hx hb dL_law_491 rfl (lv_at hl 3 rfl) ?_
  refine lv_iconst (v := 1) hx hb dL_law_492 (by decide) ?_
  refine lv_iadd hx hb dL_law_493 ?_
  refine va_sld hx hb hX hbl hbA hS h1 dL_law_494 ?_
  have hs9 := law_subM oZ mY hP hD hS hA
  refine vv_goi (wn := w_L C a aZ mX mR mF mT mP oA mI mJ mH mK mD mG oZ mY) hK hs9 hS (vv_rV (As := [.int (xs (i + 1).toNatClampNeg)]) (rest := [.int r]) hx hb hml hown hts hK hN hS hs9 (ccX8_when l D C H.size aZ mZ mY (xs (i + 1).toNatClampNeg) r oZ e2) (cwV 1 hts gL_law_X8_when rfl rfl rfl (by decide +kernel) ⟨(Nat.le_of_ble_eq_true rfl), (Nat.le_of_ble_eq_true rfl)⟩) (va_recv hK hP (ci := 8) (q0 := 60) rfl rfl) rfl hl.1 rfl (Nat.le_of_ble_eq_true rfl) dL_law_495 ⟨(Nat.le_of_ble_eq_true rfl), (Nat.le_of_ble_eq_true rfl)⟩) (fun H locs hP hD hS => ?_)
  refine lv_icmp_eq (tgt := 953) hx hb dL_law_498 (by decide) (fun _ => ?_) (fun hc => absurd rfl hc)
  exact kk mX mR mF mT mP oA mI mJ mH mK mD mG oZ mY H locs hR hP hD hS
set_option maxHeartbeats 4000000 in
set_option maxRecDepth 100000 in
theorem lc_damp {p : Program} {l : Launch} {e : Env} {s : State} {m : MethodId} {below : List Frame} {meth : Method} {c : Code} {D : va_G} {C : Nat → ClassId} {A : Nat → Prop} {a : Nat → Nat → Nat} {aZ : Nat → Nat} {b L : Nat} {xs : Nat → Int32} {Q : State → Prop} {ls : Array Slot} {i : Int32} {mX mR mF mT mP mA mI mJ mH mK mD : Mm} {mG : Int64} {mZ : Mm} {mY : Int64} {H : Heap} {locs : List Loc} (hx : p.tables.exec = Jvm.exec) (hb : c.code = cL_law) (hml : c.maxLocals = 4) (hown : s.vm.findClass RL = some m.cls) (hts : ∀ w ∈ wsL_law, w.before #[Value.ref b] s = true) (hX : va_X b L xs s s.heap) (hbl : b < s.heap.size) (hbA : ¬ A b) (hA : ∀ q : Nat, s.heap.size ≤ q → A q) (hK : va_K D vwCl (tyL C) s) (hN : vv_NE C A s) (h1 : vp_in (i + 1) L) (h2 : vp_in (i + 2) L) (h3 : vp_in (i + 3) L) (h4 : vp_in (i + 4) L) (hl : lv_has ls 4 [(0, .ref b), (1, .ref (a 0 0)), (2, .ref (aZ 0)), (3, .int i)]) (hR : Rl mX mR mT mP mI mJ mD mG mZ mY) (hP : va_P D vwCl (w_L C a aZ mX mR mF mT mP mA mI mJ mH mK mD mG mZ mY) H) (hD : va_D A (w_L C a aZ mX mR mF mT mP mA mI mJ mH mK mD mG mZ mY)) (hS : va_S A s.heap H locs)
    (kk : ∀ (mX mR mF mT mP mA mI mJ mH mK mD : Mm) (mG : Int64) (mZ : Mm) (mY : Int64) (H : Heap) (locs : List Loc), Rl mX mR mT mP mI mJ mD mG mZ mY → va_P D vwCl (w_L C a aZ mX mR mF mT mP mA mI mJ mH mK mD mG mZ mY) H → va_D A (w_L C a aZ mX mR mF mT mP mA mI mJ mH mK mD mG mZ mY) → va_S A s.heap H locs → W p l e room_1 s m #[Value.ref b] below meth c H locs 100 2000 Q (F0 m 953 ls [])) : W p l e room_1 s m #[Value.ref b] below meth c H locs 100 2000 Q (F0 m 503 ls []) := by
  obtain ⟨r, oA, oZ, e1, e2, hR⟩ := st_damp hR mA (xs (i + 1).toNatClampNeg) (xs (i + 2).toNatClampNeg) (xs (i + 3).toNatClampNeg) (xs (i + 4).toNatClampNeg)
  refine lv_aload_n hx hb dL_law_503 rfl (lv_at hl 1 rfl) ?_
  refine lv_aload_n hx hb dL_law_504 rfl (lv_at hl 0 rfl) ?_
  refine lv_iload_n hx hb dL_law_505 rfl (lv_at hl 3 rfl) ?_
  refine lv_iconst (v := 1) hx hb dL_law_506 (by decide) ?_
  refine lv_iadd hx hb dL_law_507 ?_
  refine va_sld hx hb hX hbl hbA hS h1 dL_law_508 ?_
  refine lv_aload_n hx hb dL_law_509 rfl (lv_at hl 0 rfl) ?_
  refine lv_iload_n hx hb dL_law_510 rfl (lv_at hl 3 rfl) ?_
  refine lv_iconst (v := 2) hx hb dL_law_511 (by decide) ?_
  refine lv_iadd hx hb dL_law_512 ?_
  refine va_sld hx hb hX hbl hbA hS h2 dL_law_513 ?_
  refine lv_aload_n hx hb dL_law_514 rfl (lv_at hl 0 rfl) ?_
  refine lv_iload_n hx hb dL_law_515 rfl (lv_at hl 3 rfl) ?_
  refine lv_iconst (v := 3) hx hb dL_law_516 (by decide) ?_
  refine lv_iadd hx hb dL_law_517 ?_
  refine va_sld hx hb hX hbl hbA hS h3 dL_law_518 ?_
  refine lv_aload_n hx hb dL_law_519 rfl (lv_at hl 0 rfl) ?_
  refine lv_iload_n hx hb dL_law_520 rfl (lv_at hl 3 rfl) ?_
  refine lv_iconst (v := 4) hx hb dL_law_521 (by decide) ?_
  refine lv_iadd hx hb dL_law_522 ?_
  refine va_sld hx hb hX hbl hbA hS h4 dL_law_523 ?_
  have hs9 : vv_Sub D H A (w_FR C a mX ++ (w_Told C (a 3) mT ++ (w_Mom C (a 3) (a 4) mP ++ w_Mom C (a 3) (a 5) mA))) (w_FR C a mX ++ (w_Told C (a 3) mT ++ (w_Mom C (a 3) (a 4) mP ++ w_Mom C (a 3) (a 5) oA))) (w_L C a aZ mX mR mF mT mP oA mI mJ mH mK mD mG mZ mY) := vv_Sub.part (ws := w_L C a aZ mX mR mF mT mP mA mI mJ mH mK mD mG mZ mY) (wr := w_Rd C (a 2) (a 1) mR ++ (w_Told C (a 2) mF ++ (w_Mom C (a 3) (a 6) mI ++ (w_Mom C (a 3) (a 7) mJ ++ (w_Hg C (a 3) (a 4) (a 5) (a 8) mH ++ (w_Tk C (a 3) (a 4) (a 9) mK ++ (w_Dy C (a 10) mD ++ (w_Mk (a 3) (a 4) (a 11) mG ++ w_MD C aZ mZ mY)))))))) [0, 1, 2, 12, 13, 14, 15, 16, 17, 18, 19, 20, 21, 22, 23, 24, 25, 26, 27, 28] [3, 4, 5, 6, 7, 8, 9, 10, 11, 29, 30, 31, 32, 33, 34, 35, 36, 37, 38, 39, 40, 41, 42, 43, 44, 45, 46, 47, 48, 49, 50, 51, 52, 53, 54, 55, 56, 57, 58, 59, 60, 61, 62, 63, 64, 65, 66, 67, 68, 69, 70, 71, 72, 73, 74, 75, 76, 77, 78] [59, 60, 61, 0, 1, 2, 3, 4, 5, 6, 7, 8, 62, 63, 64, 65, 66, 67, 68, 69, 70, 71, 72, 73, 74, 75, 76, 77, 78, 9, 10, 11, 12, 13, 14, 15, 16, 17, 18, 19, 20, 21, 22, 23, 24, 25, 26, 27, 28, 29, 30, 31, 32, 33, 34, 35, 36, 37, 38, 39, 40, 41, 42, 43, 44, 45, 46, 47, 48, 49, 50, 51, 52, 53, 54, 55, 56, 57, 58] hP hD hS hA rfl rfl (by decide) rfl
  refine vv_goi (wn := w_L C a aZ mX mR mF mT mP oA mI mJ mH mK mD mG mZ mY) hK hs9 hS (vv_rV (As := [.int (xs (i + 1).toNatClampNeg), .int (xs (i + 2).toNatClampNeg), .int (xs (i + 3).toNatClampNeg), .int (xs (i + 4).toNatClampNeg)]) (rest := []) hx hb hml hown hts hK hN hS hs9 (ccX7_damp l D C H.size a mX mT mP mA (xs (i + 1).toNatClampNeg) (xs (i + 2).toNatClampNeg) (xs (i + 3).toNatClampNeg) (xs (i + 4).toNatClampNeg) r oA e1) (cwV 4 hts gL_law_X7_damp rfl rfl rfl (by decide +kernel) ⟨(Nat.le_of_ble_eq_true rfl), (Nat.le_of_ble_eq_true rfl)⟩) (va_recv hK hP (ci := 7) (q0 := 0) rfl rfl) rfl hl.1 rfl (Nat.le_of_ble_eq_true rfl) dL_law_524 ⟨(Nat.le_of_ble_eq_true rfl), (Nat.le_of_ble_eq_true rfl)⟩) (fun H locs hP hD hS => ?_)
  refine lv_aload_n hx hb dL_law_527 rfl (lv_at hl 2 rfl) ?_
  refine lv_aload_n hx hb dL_law_528 rfl (lv_at hl 0 rfl) ?_
  refine lv_iload_n hx hb dL_law_529 rfl (lv_at hl 3 rfl) ?_
  refine lv_iconst (v := 1) hx hb dL_law_530 (by decide) ?_
  refine lv_iadd hx hb dL_law_531 ?_
  refine va_sld hx hb hX hbl hbA hS h1 dL_law_532 ?_
  refine lv_aload_n hx hb dL_law_533 rfl (lv_at hl 0 rfl) ?_
  refine lv_iload_n hx hb dL_law_534 rfl (lv_at hl 3 rfl) ?_
  refine lv_iconst (v := 2) hx hb dL_law_535 (by decide) ?_
  refine lv_iadd hx hb dL_law_536 ?_
  refine va_sld hx hb hX hbl hbA hS h2 dL_law_537 ?_
  refine lv_aload_n hx hb dL_law_538 rfl (lv_at hl 0 rfl) ?_
  refine lv_iload_n hx hb dL_law_539 rfl (lv_at hl 3 rfl) ?_
  refine lv_iconst (v := 3) hx hb dL_law_540 (by decide) ?_
  refine lv_iadd hx hb dL_law_541 ?_
  refine va_sld hx hb hX hbl hbA hS h3 dL_law_542 ?_
  refine lv_aload_n hx hb dL_law_543 rfl (lv_at hl 0 rfl) ?_
  refine lv_iload_n hx hb dL_law_544 rfl (lv_at hl 3 rfl) ?_
  refine lv_iconst (v := 4) hx hb dL_law_545 (by decide) ?_
  refine lv_iadd hx hb dL_law_546 ?_
  refine va_sld hx hb hX hbl hbA hS h4 dL_law_547 ?_
  have hs9 := law_subM oZ mY hP hD hS hA
  refine vv_goi (wn := w_L C a aZ mX mR mF mT mP oA mI mJ mH mK mD mG oZ mY) hK hs9 hS (vv_rV (As := [.int (xs (i + 1).toNatClampNeg), .int (xs (i + 2).toNatClampNeg), .int (xs (i + 3).toNatClampNeg), .int (xs (i + 4).toNatClampNeg)]) (rest := [.int r]) hx hb hml hown hts hK hN hS hs9 (ccX8_damp l D C H.size aZ mZ mY (xs (i + 1).toNatClampNeg) (xs (i + 2).toNatClampNeg) (xs (i + 3).toNatClampNeg) (xs (i + 4).toNatClampNeg) r oZ e2) (cwV 4 hts gL_law_X8_damp rfl rfl rfl (by decide +kernel) ⟨(Nat.le_of_ble_eq_true rfl), (Nat.le_of_ble_eq_true rfl)⟩) (va_recv hK hP (ci := 8) (q0 := 60) rfl rfl) rfl hl.1 rfl (Nat.le_of_ble_eq_true rfl) dL_law_548 ⟨(Nat.le_of_ble_eq_true rfl), (Nat.le_of_ble_eq_true rfl)⟩) (fun H locs hP hD hS => ?_)
  refine lv_icmp_eq (tgt := 953) hx hb dL_law_551 (by decide) (fun _ => ?_) (fun hc => absurd rfl hc)
  exact kk mX mR mF mT mP oA mI mJ mH mK mD mG oZ mY H locs hR hP hD hS
set_option maxHeartbeats 4000000 in
set_option maxRecDepth 100000 in
theorem lc_where {p : Program} {l : Launch} {e : Env} {s : State} {m : MethodId} {below : List Frame} {meth : Method} {c : Code} {D : va_G} {C : Nat → ClassId} {A : Nat → Prop} {a : Nat → Nat → Nat} {aZ : Nat → Nat} {b L : Nat} {xs : Nat → Int32} {Q : State → Prop} {ls : Array Slot} {i : Int32} {mX mR mF mT mP mA mI mJ mH mK mD : Mm} {mG : Int64} {mZ : Mm} {mY : Int64} {H : Heap} {locs : List Loc} (hx : p.tables.exec = Jvm.exec) (hb : c.code = cL_law) (hml : c.maxLocals = 4) (hown : s.vm.findClass RL = some m.cls) (hts : ∀ w ∈ wsL_law, w.before #[Value.ref b] s = true) (hX : va_X b L xs s s.heap) (hbl : b < s.heap.size) (hbA : ¬ A b) (hA : ∀ q : Nat, s.heap.size ≤ q → A q) (hK : va_K D vwCl (tyL C) s) (hN : vv_NE C A s) (h1 : vp_in (i + 1) L) (h2 : vp_in (i + 2) L) (h3 : vp_in (i + 3) L) (h4 : vp_in (i + 4) L) (hl : lv_has ls 4 [(0, .ref b), (1, .ref (a 0 0)), (2, .ref (aZ 0)), (3, .int i)]) (hR : Rl mX mR mT mP mI mJ mD mG mZ mY) (hP : va_P D vwCl (w_L C a aZ mX mR mF mT mP mA mI mJ mH mK mD mG mZ mY) H) (hD : va_D A (w_L C a aZ mX mR mF mT mP mA mI mJ mH mK mD mG mZ mY)) (hS : va_S A s.heap H locs)
    (kk : ∀ (mX mR mF mT mP mA mI mJ mH mK mD : Mm) (mG : Int64) (mZ : Mm) (mY : Int64) (H : Heap) (locs : List Loc), Rl mX mR mT mP mI mJ mD mG mZ mY → va_P D vwCl (w_L C a aZ mX mR mF mT mP mA mI mJ mH mK mD mG mZ mY) H → va_D A (w_L C a aZ mX mR mF mT mP mA mI mJ mH mK mD mG mZ mY) → va_S A s.heap H locs → W p l e room_1 s m #[Value.ref b] below meth c H locs 100 2000 Q (F0 m 953 ls [])) : W p l e room_1 s m #[Value.ref b] below meth c H locs 100 2000 Q (F0 m 556 ls []) := by
  obtain ⟨r, oA, oH, oZ, e1, e2, hR⟩ := st_where hR mA mH (xs (i + 1).toNatClampNeg) (xs (i + 2).toNatClampNeg)
  refine lv_aload_n hx hb dL_law_556 rfl (lv_at hl 1 rfl) ?_
  refine lv_aload_n hx hb dL_law_557 rfl (lv_at hl 0 rfl) ?_
  refine lv_iload_n hx hb dL_law_558 rfl (lv_at hl 3 rfl) ?_
  refine lv_iconst (v := 1) hx hb dL_law_559 (by decide) ?_
  refine lv_iadd hx hb dL_law_560 ?_
  refine va_sld hx hb hX hbl hbA hS h1 dL_law_561 ?_
  refine lv_aload_n hx hb dL_law_562 rfl (lv_at hl 0 rfl) ?_
  refine lv_iload_n hx hb dL_law_563 rfl (lv_at hl 3 rfl) ?_
  refine lv_iconst (v := 2) hx hb dL_law_564 (by decide) ?_
  refine lv_iadd hx hb dL_law_565 ?_
  refine va_sld hx hb hX hbl hbA hS h2 dL_law_566 ?_
  have hs9 : vv_Sub D H A (w_FR C a mX ++ (w_Told C (a 3) mT ++ (w_Mom C (a 3) (a 4) mP ++ (w_Mom C (a 3) (a 5) mA ++ w_Hg C (a 3) (a 4) (a 5) (a 8) mH)))) (w_FR C a mX ++ (w_Told C (a 3) mT ++ (w_Mom C (a 3) (a 4) mP ++ (w_Mom C (a 3) (a 5) oA ++ w_Hg C (a 3) (a 4) (a 5) (a 8) oH)))) (w_L C a aZ mX mR mF mT mP oA mI mJ oH mK mD mG mZ mY) := vv_Sub.part (ws := w_L C a aZ mX mR mF mT mP mA mI mJ mH mK mD mG mZ mY) (wr := w_Rd C (a 2) (a 1) mR ++ (w_Told C (a 2) mF ++ (w_Mom C (a 3) (a 6) mI ++ (w_Mom C (a 3) (a 7) mJ ++ (w_Tk C (a 3) (a 4) (a 9) mK ++ (w_Dy C (a 10) mD ++ (w_Mk (a 3) (a 4) (a 11) mG ++ w_MD C aZ mZ mY))))))) [0, 1, 2, 12, 13, 14, 15, 16, 17, 18, 19, 20, 21, 22, 23, 24, 25, 26, 27, 28, 39, 40, 41, 42, 43, 44, 45, 46, 47, 48, 49, 50] [3, 4, 5, 6, 7, 8, 9, 10, 11, 29, 30, 31, 32, 33, 34, 35, 36, 37, 38, 51, 52, 53, 54, 55, 56, 57, 58, 59, 60, 61, 62, 63, 64, 65, 66, 67, 68, 69, 70, 71, 72, 73, 74, 75, 76, 77, 78] [47, 48, 49, 0, 1, 2, 3, 4, 5, 6, 7, 8, 50, 51, 52, 53, 54, 55, 56, 57, 58, 59, 60, 61, 62, 63, 64, 65, 66, 9, 10, 11, 12, 13, 14, 15, 16, 17, 18, 67, 68, 69, 70, 71, 72, 73, 74, 75, 76, 77, 78, 19, 20, 21, 22, 23, 24, 25, 26, 27, 28, 29, 30, 31, 32, 33, 34, 35, 36, 37, 38, 39, 40, 41, 42, 43, 44, 45, 46] hP hD hS hA rfl rfl (by decide) rfl
  refine vv_goi (wn := w_L C a aZ mX mR mF mT mP oA mI mJ oH mK mD mG mZ mY) hK hs9 hS (vv_rV (As := [.int (xs (i + 1).toNatClampNeg), .int (xs (i + 2).toNatClampNeg)]) (rest := []) hx hb hml hown hts hK hN hS hs9 (ccX7_where l D C H.size a mX mT mP mA mH (xs (i + 1).toNatClampNeg) (xs (i + 2).toNatClampNeg) r oA oH e1) (cwV 2 hts gL_law_X7_where rfl rfl rfl (by decide +kernel) ⟨(Nat.le_of_ble_eq_true rfl), (Nat.le_of_ble_eq_true rfl)⟩) (va_recv hK hP (ci := 7) (q0 := 0) rfl rfl) rfl hl.1 rfl (Nat.le_of_ble_eq_true rfl) dL_law_567 ⟨(Nat.le_of_ble_eq_true rfl), (Nat.le_of_ble_eq_true rfl)⟩) (fun H locs hP hD hS => ?_)
  refine lv_aload_n hx hb dL_law_570 rfl (lv_at hl 2 rfl) ?_
  refine lv_aload_n hx hb dL_law_571 rfl (lv_at hl 0 rfl) ?_
  refine lv_iload_n hx hb dL_law_572 rfl (lv_at hl 3 rfl) ?_
  refine lv_iconst (v := 1) hx hb dL_law_573 (by decide) ?_
  refine lv_iadd hx hb dL_law_574 ?_
  refine va_sld hx hb hX hbl hbA hS h1 dL_law_575 ?_
  refine lv_aload_n hx hb dL_law_576 rfl (lv_at hl 0 rfl) ?_
  refine lv_iload_n hx hb dL_law_577 rfl (lv_at hl 3 rfl) ?_
  refine lv_iconst (v := 2) hx hb dL_law_578 (by decide) ?_
  refine lv_iadd hx hb dL_law_579 ?_
  refine va_sld hx hb hX hbl hbA hS h2 dL_law_580 ?_
  have hs9 := law_subM oZ mY hP hD hS hA
  refine vv_goi (wn := w_L C a aZ mX mR mF mT mP oA mI mJ oH mK mD mG oZ mY) hK hs9 hS (vv_rV (As := [.int (xs (i + 1).toNatClampNeg), .int (xs (i + 2).toNatClampNeg)]) (rest := [.int r]) hx hb hml hown hts hK hN hS hs9 (ccX8_where l D C H.size aZ mZ mY (xs (i + 1).toNatClampNeg) (xs (i + 2).toNatClampNeg) r oZ e2) (cwV 2 hts gL_law_X8_where rfl rfl rfl (by decide +kernel) ⟨(Nat.le_of_ble_eq_true rfl), (Nat.le_of_ble_eq_true rfl)⟩) (va_recv hK hP (ci := 8) (q0 := 60) rfl rfl) rfl hl.1 rfl (Nat.le_of_ble_eq_true rfl) dL_law_581 ⟨(Nat.le_of_ble_eq_true rfl), (Nat.le_of_ble_eq_true rfl)⟩) (fun H locs hP hD hS => ?_)
  refine lv_icmp_eq (tgt := 953) hx hb dL_law_584 (by decide) (fun _ => ?_) (fun hc => absurd rfl hc)
  exact kk mX mR mF mT mP oA mI mJ oH mK mD mG oZ mY H locs hR hP hD hS
set_option maxHeartbeats 4000000 in
set_option maxRecDepth 100000 in
theorem lc_order {p : Program} {l : Launch} {e : Env} {s : State} {m : MethodId} {below : List Frame} {meth : Method} {c : Code} {D : va_G} {C : Nat → ClassId} {A : Nat → Prop} {a : Nat → Nat → Nat} {aZ : Nat → Nat} {b L : Nat} {xs : Nat → Int32} {Q : State → Prop} {ls : Array Slot} {i : Int32} {mX mR mF mT mP mA mI mJ mH mK mD : Mm} {mG : Int64} {mZ : Mm} {mY : Int64} {H : Heap} {locs : List Loc} (hx : p.tables.exec = Jvm.exec) (hb : c.code = cL_law) (hml : c.maxLocals = 4) (hown : s.vm.findClass RL = some m.cls) (hts : ∀ w ∈ wsL_law, w.before #[Value.ref b] s = true) (hX : va_X b L xs s s.heap) (hbl : b < s.heap.size) (hbA : ¬ A b) (hA : ∀ q : Nat, s.heap.size ≤ q → A q) (hK : va_K D vwCl (tyL C) s) (hN : vv_NE C A s) (h1 : vp_in (i + 1) L) (h2 : vp_in (i + 2) L) (h3 : vp_in (i + 3) L) (h4 : vp_in (i + 4) L) (hl : lv_has ls 4 [(0, .ref b), (1, .ref (a 0 0)), (2, .ref (aZ 0)), (3, .int i)]) (hR : Rl mX mR mT mP mI mJ mD mG mZ mY) (hP : va_P D vwCl (w_L C a aZ mX mR mF mT mP mA mI mJ mH mK mD mG mZ mY) H) (hD : va_D A (w_L C a aZ mX mR mF mT mP mA mI mJ mH mK mD mG mZ mY)) (hS : va_S A s.heap H locs)
    (kk : ∀ (mX mR mF mT mP mA mI mJ mH mK mD : Mm) (mG : Int64) (mZ : Mm) (mY : Int64) (H : Heap) (locs : List Loc), Rl mX mR mT mP mI mJ mD mG mZ mY → va_P D vwCl (w_L C a aZ mX mR mF mT mP mA mI mJ mH mK mD mG mZ mY) H → va_D A (w_L C a aZ mX mR mF mT mP mA mI mJ mH mK mD mG mZ mY) → va_S A s.heap H locs → W p l e room_1 s m #[Value.ref b] below meth c H locs 100 2000 Q (F0 m 953 ls [])) : W p l e room_1 s m #[Value.ref b] below meth c H locs 100 2000 Q (F0 m 589 ls []) := by
  obtain ⟨r, oK, oZ, e1, e2, hR⟩ := st_order hR mK (xs (i + 1).toNatClampNeg) (xs (i + 2).toNatClampNeg)
  refine lv_aload_n hx hb dL_law_589 rfl (lv_at hl 1 rfl) ?_
  refine lv_aload_n hx hb dL_law_590 rfl (lv_at hl 0 rfl) ?_
  refine lv_iload_n hx hb dL_law_591 rfl (lv_at hl 3 rfl) ?_
  refine lv_iconst (v := 1) hx hb dL_law_592 (by decide) ?_
  refine lv_iadd hx hb dL_law_593 ?_
  refine va_sld hx hb hX hbl hbA hS h1 dL_law_594 ?_
  refine lv_aload_n hx hb dL_law_595 rfl (lv_at hl 0 rfl) ?_
  refine lv_iload_n hx hb dL_law_596 rfl (lv_at hl 3 rfl) ?_
  refine lv_iconst (v := 2) hx hb dL_law_597 (by decide) ?_
  refine lv_iadd hx hb dL_law_598 ?_
  refine va_sld hx hb hX hbl hbA hS h2 dL_law_599 ?_
  have hs9 : vv_Sub D H A (w_FR C a mX ++ (w_Told C (a 3) mT ++ (w_Mom C (a 3) (a 4) mP ++ w_Tk C (a 3) (a 4) (a 9) mK))) (w_FR C a mX ++ (w_Told C (a 3) mT ++ (w_Mom C (a 3) (a 4) mP ++ w_Tk C (a 3) (a 4) (a 9) oK))) (w_L C a aZ mX mR mF mT mP mA mI mJ mH oK mD mG mZ mY) := vv_Sub.part (ws := w_L C a aZ mX mR mF mT mP mA mI mJ mH mK mD mG mZ mY) (wr := w_Rd C (a 2) (a 1) mR ++ (w_Told C (a 2) mF ++ (w_Mom C (a 3) (a 5) mA ++ (w_Mom C (a 3) (a 6) mI ++ (w_Mom C (a 3) (a 7) mJ ++ (w_Hg C (a 3) (a 4) (a 5) (a 8) mH ++ (w_Dy C (a 10) mD ++ (w_Mk (a 3) (a 4) (a 11) mG ++ w_MD C aZ mZ mY)))))))) [0, 1, 2, 12, 13, 14, 15, 16, 17, 18, 19, 20, 21, 22, 23, 51, 52, 53, 54] [3, 4, 5, 6, 7, 8, 9, 10, 11, 24, 25, 26, 27, 28, 29, 30, 31, 32, 33, 34, 35, 36, 37, 38, 39, 40, 41, 42, 43, 44, 45, 46, 47, 48, 49, 50, 55, 56, 57, 58, 59, 60, 61, 62, 63, 64, 65, 66, 67, 68, 69, 70, 71, 72, 73, 74, 75, 76, 77, 78] [60, 61, 62, 0, 1, 2, 3, 4, 5, 6, 7, 8, 63, 64, 65, 66, 67, 68, 69, 70, 71, 72, 73, 74, 9, 10, 11, 12, 13, 14, 15, 16, 17, 18, 19, 20, 21, 22, 23, 24, 25, 26, 27, 28, 29, 30, 31, 32, 33, 34, 35, 75, 76, 77, 78, 36, 37, 38, 39, 40, 41, 42, 43, 44, 45, 46, 47, 48, 49, 50, 51, 52, 53, 54, 55, 56, 57, 58, 59] hP hD hS hA rfl rfl (by decide) rfl
  refine vv_goi (wn := w_L C a aZ mX mR mF mT mP mA mI mJ mH oK mD mG mZ mY) hK hs9 hS (vv_rV (As := [.int (xs (i + 1).toNatClampNeg), .int (xs (i + 2).toNatClampNeg)]) (rest := []) hx hb hml hown hts hK hN hS hs9 (ccX7_order l D C H.size a mX mT mP mK (xs (i + 1).toNatClampNeg) (xs (i + 2).toNatClampNeg) r oK e1) (cwV 2 hts gL_law_X7_order rfl rfl rfl (by decide +kernel) ⟨(Nat.le_of_ble_eq_true rfl), (Nat.le_of_ble_eq_true rfl)⟩) (va_recv hK hP (ci := 7) (q0 := 0) rfl rfl) rfl hl.1 rfl (Nat.le_of_ble_eq_true rfl) dL_law_600 ⟨(Nat.le_of_ble_eq_true rfl), (Nat.le_of_ble_eq_true rfl)⟩) (fun H locs hP hD hS => ?_)
  refine lv_aload_n hx hb dL_law_603 rfl (lv_at hl 2 rfl) ?_
  refine lv_aload_n hx hb dL_law_604 rfl (lv_at hl 0 rfl) ?_
  refine lv_iload_n hx hb dL_law_605 rfl (lv_at hl 3 rfl) ?_
  refine lv_iconst (v := 1) hx hb dL_law_606 (by decide) ?_
  refine lv_iadd hx hb dL_law_607 ?_
  refine va_sld hx hb hX hbl hbA hS h1 dL_law_608 ?_
  refine lv_aload_n hx hb dL_law_609 rfl (lv_at hl 0 rfl) ?_
  refine lv_iload_n hx hb dL_law_610 rfl (lv_at hl 3 rfl) ?_
  refine lv_iconst (v := 2) hx hb dL_law_611 (by decide) ?_
  refine lv_iadd hx hb dL_law_612 ?_
  refine va_sld hx hb hX hbl hbA hS h2 dL_law_613 ?_
  have hs9 := law_subM oZ mY hP hD hS hA
  refine vv_goi (wn := w_L C a aZ mX mR mF mT mP mA mI mJ mH oK mD mG oZ mY) hK hs9 hS (vv_rV (As := [.int (xs (i + 1).toNatClampNeg), .int (xs (i + 2).toNatClampNeg)]) (rest := [.int r]) hx hb hml hown hts hK hN hS hs9 (ccX8_order l D C H.size aZ mZ mY (xs (i + 1).toNatClampNeg) (xs (i + 2).toNatClampNeg) r oZ e2) (cwV 2 hts gL_law_X8_order rfl rfl rfl (by decide +kernel) ⟨(Nat.le_of_ble_eq_true rfl), (Nat.le_of_ble_eq_true rfl)⟩) (va_recv hK hP (ci := 8) (q0 := 60) rfl rfl) rfl hl.1 rfl (Nat.le_of_ble_eq_true rfl) dL_law_614 ⟨(Nat.le_of_ble_eq_true rfl), (Nat.le_of_ble_eq_true rfl)⟩) (fun H locs hP hD hS => ?_)
  refine lv_icmp_eq (tgt := 953) hx hb dL_law_617 (by decide) (fun _ => ?_) (fun hc => absurd rfl hc)
  exact kk mX mR mF mT mP mA mI mJ mH oK mD mG oZ mY H locs hR hP hD hS
set_option maxHeartbeats 4000000 in
set_option maxRecDepth 100000 in
theorem lc_odds {p : Program} {l : Launch} {e : Env} {s : State} {m : MethodId} {below : List Frame} {meth : Method} {c : Code} {D : va_G} {C : Nat → ClassId} {A : Nat → Prop} {a : Nat → Nat → Nat} {aZ : Nat → Nat} {b L : Nat} {xs : Nat → Int32} {Q : State → Prop} {ls : Array Slot} {i : Int32} {mX mR mF mT mP mA mI mJ mH mK mD : Mm} {mG : Int64} {mZ : Mm} {mY : Int64} {H : Heap} {locs : List Loc} (hx : p.tables.exec = Jvm.exec) (hb : c.code = cL_law) (hml : c.maxLocals = 4) (hown : s.vm.findClass RL = some m.cls) (hts : ∀ w ∈ wsL_law, w.before #[Value.ref b] s = true) (hX : va_X b L xs s s.heap) (hbl : b < s.heap.size) (hbA : ¬ A b) (hA : ∀ q : Nat, s.heap.size ≤ q → A q) (hK : va_K D vwCl (tyL C) s) (hN : vv_NE C A s) (h1 : vp_in (i + 1) L) (h2 : vp_in (i + 2) L) (h3 : vp_in (i + 3) L) (h4 : vp_in (i + 4) L) (hl : lv_has ls 4 [(0, .ref b), (1, .ref (a 0 0)), (2, .ref (aZ 0)), (3, .int i)]) (hR : Rl mX mR mT mP mI mJ mD mG mZ mY) (hP : va_P D vwCl (w_L C a aZ mX mR mF mT mP mA mI mJ mH mK mD mG mZ mY) H) (hD : va_D A (w_L C a aZ mX mR mF mT mP mA mI mJ mH mK mD mG mZ mY)) (hS : va_S A s.heap H locs)
    (kk : ∀ (mX mR mF mT mP mA mI mJ mH mK mD : Mm) (mG : Int64) (mZ : Mm) (mY : Int64) (H : Heap) (locs : List Loc), Rl mX mR mT mP mI mJ mD mG mZ mY → va_P D vwCl (w_L C a aZ mX mR mF mT mP mA mI mJ mH mK mD mG mZ mY) H → va_D A (w_L C a aZ mX mR mF mT mP mA mI mJ mH mK mD mG mZ mY) → va_S A s.heap H locs → W p l e room_1 s m #[Value.ref b] below meth c H locs 100 2000 Q (F0 m 953 ls [])) : W p l e room_1 s m #[Value.ref b] below meth c H locs 100 2000 Q (F0 m 622 ls []) := by
  obtain ⟨r, oA, oZ, e1, e2, hR⟩ := st_odds hR mA (xs (i + 1).toNatClampNeg) (xs (i + 2).toNatClampNeg) (xs (i + 3).toNatClampNeg)
  refine lv_aload_n hx hb dL_law_622 rfl (lv_at hl 1 rfl) ?_
  refine lv_aload_n hx hb dL_law_623 rfl (lv_at hl 0 rfl) ?_
  refine lv_iload_n hx hb dL_law_624 rfl (lv_at hl 3 rfl) ?_
  refine lv_iconst (v := 1) hx hb dL_law_625 (by decide) ?_
  refine lv_iadd hx hb dL_law_626 ?_
  refine va_sld hx hb hX hbl hbA hS h1 dL_law_627 ?_
  refine lv_aload_n hx hb dL_law_628 rfl (lv_at hl 0 rfl) ?_
  refine lv_iload_n hx hb dL_law_629 rfl (lv_at hl 3 rfl) ?_
  refine lv_iconst (v := 2) hx hb dL_law_630 (by decide) ?_
  refine lv_iadd hx hb dL_law_631 ?_
  refine va_sld hx hb hX hbl hbA hS h2 dL_law_632 ?_
  refine lv_aload_n hx hb dL_law_633 rfl (lv_at hl 0 rfl) ?_
  refine lv_iload_n hx hb dL_law_634 rfl (lv_at hl 3 rfl) ?_
  refine lv_iconst (v := 3) hx hb dL_law_635 (by decide) ?_
  refine lv_iadd hx hb dL_law_636 ?_
  refine va_sld hx hb hX hbl hbA hS h3 dL_law_637 ?_
  have hs9 : vv_Sub D H A (w_FR C a mX ++ (w_Told C (a 3) mT ++ (w_Mom C (a 3) (a 4) mP ++ w_Mom C (a 3) (a 5) mA))) (w_FR C a mX ++ (w_Told C (a 3) mT ++ (w_Mom C (a 3) (a 4) mP ++ w_Mom C (a 3) (a 5) oA))) (w_L C a aZ mX mR mF mT mP oA mI mJ mH mK mD mG mZ mY) := vv_Sub.part (ws := w_L C a aZ mX mR mF mT mP mA mI mJ mH mK mD mG mZ mY) (wr := w_Rd C (a 2) (a 1) mR ++ (w_Told C (a 2) mF ++ (w_Mom C (a 3) (a 6) mI ++ (w_Mom C (a 3) (a 7) mJ ++ (w_Hg C (a 3) (a 4) (a 5) (a 8) mH ++ (w_Tk C (a 3) (a 4) (a 9) mK ++ (w_Dy C (a 10) mD ++ (w_Mk (a 3) (a 4) (a 11) mG ++ w_MD C aZ mZ mY)))))))) [0, 1, 2, 12, 13, 14, 15, 16, 17, 18, 19, 20, 21, 22, 23, 24, 25, 26, 27, 28] [3, 4, 5, 6, 7, 8, 9, 10, 11, 29, 30, 31, 32, 33, 34, 35, 36, 37, 38, 39, 40, 41, 42, 43, 44, 45, 46, 47, 48, 49, 50, 51, 52, 53, 54, 55, 56, 57, 58, 59, 60, 61, 62, 63, 64, 65, 66, 67, 68, 69, 70, 71, 72, 73, 74, 75, 76, 77, 78] [59, 60, 61, 0, 1, 2, 3, 4, 5, 6, 7, 8, 62, 63, 64, 65, 66, 67, 68, 69, 70, 71, 72, 73, 74, 75, 76, 77, 78, 9, 10, 11, 12, 13, 14, 15, 16, 17, 18, 19, 20, 21, 22, 23, 24, 25, 26, 27, 28, 29, 30, 31, 32, 33, 34, 35, 36, 37, 38, 39, 40, 41, 42, 43, 44, 45, 46, 47, 48, 49, 50, 51, 52, 53, 54, 55, 56, 57, 58] hP hD hS hA rfl rfl (by decide) rfl
  refine vv_gol (wn := w_L C a aZ mX mR mF mT mP oA mI mJ mH mK mD mG mZ mY) hK hs9 hS (vv_rV (As := [.int (xs (i + 1).toNatClampNeg), .int (xs (i + 2).toNatClampNeg), .int (xs (i + 3).toNatClampNeg)]) (rest := []) hx hb hml hown hts hK hN hS hs9 (ccX7_odds l D C H.size a mX mT mP mA (xs (i + 1).toNatClampNeg) (xs (i + 2).toNatClampNeg) (xs (i + 3).toNatClampNeg) r oA e1) (cwV 3 hts gL_law_X7_odds rfl rfl rfl (by decide +kernel) ⟨(Nat.le_of_ble_eq_true rfl), (Nat.le_of_ble_eq_true rfl)⟩) (va_recv hK hP (ci := 7) (q0 := 0) rfl rfl) rfl hl.1 rfl (Nat.le_of_ble_eq_true rfl) dL_law_638 ⟨(Nat.le_of_ble_eq_true rfl), (Nat.le_of_ble_eq_true rfl)⟩) (fun H locs hP hD hS => ?_)
  refine lv_aload_n hx hb dL_law_641 rfl (lv_at hl 2 rfl) ?_
  refine lv_aload_n hx hb dL_law_642 rfl (lv_at hl 0 rfl) ?_
  refine lv_iload_n hx hb dL_law_643 rfl (lv_at hl 3 rfl) ?_
  refine lv_iconst (v := 1) hx hb dL_law_644 (by decide) ?_
  refine lv_iadd hx hb dL_law_645 ?_
  refine va_sld hx hb hX hbl hbA hS h1 dL_law_646 ?_
  refine lv_aload_n hx hb dL_law_647 rfl (lv_at hl 0 rfl) ?_
  refine lv_iload_n hx hb dL_law_648 rfl (lv_at hl 3 rfl) ?_
  refine lv_iconst (v := 2) hx hb dL_law_649 (by decide) ?_
  refine lv_iadd hx hb dL_law_650 ?_
  refine va_sld hx hb hX hbl hbA hS h2 dL_law_651 ?_
  refine lv_aload_n hx hb dL_law_652 rfl (lv_at hl 0 rfl) ?_
  refine lv_iload_n hx hb dL_law_653 rfl (lv_at hl 3 rfl) ?_
  refine lv_iconst (v := 3) hx hb dL_law_654 (by decide) ?_
  refine lv_iadd hx hb dL_law_655 ?_
  refine va_sld hx hb hX hbl hbA hS h3 dL_law_656 ?_
  have hs9 := law_subM oZ mY hP hD hS hA
  refine vv_gol (wn := w_L C a aZ mX mR mF mT mP oA mI mJ mH mK mD mG oZ mY) hK hs9 hS (vv_rV (As := [.int (xs (i + 1).toNatClampNeg), .int (xs (i + 2).toNatClampNeg), .int (xs (i + 3).toNatClampNeg)]) (rest := [.long r]) hx hb hml hown hts hK hN hS hs9 (ccX8_odds l D C H.size aZ mZ mY (xs (i + 1).toNatClampNeg) (xs (i + 2).toNatClampNeg) (xs (i + 3).toNatClampNeg) r oZ e2) (cwV 3 hts gL_law_X8_odds rfl rfl rfl (by decide +kernel) ⟨(Nat.le_of_ble_eq_true rfl), (Nat.le_of_ble_eq_true rfl)⟩) (va_recv hK hP (ci := 8) (q0 := 60) rfl rfl) rfl hl.1 rfl (Nat.le_of_ble_eq_true rfl) dL_law_657 ⟨(Nat.le_of_ble_eq_true rfl), (Nat.le_of_ble_eq_true rfl)⟩) (fun H locs hP hD hS => ?_)
  refine W.lcmp hx hb dL_law_660 ?_
  refine lv_if_eq (tgt := 953) hx hb dL_law_661 (by decide) (fun _ => ?_) (fun hc => absurd (lg_self r) hc)
  exact kk mX mR mF mT mP oA mI mJ mH mK mD mG oZ mY H locs hR hP hD hS
set_option maxHeartbeats 4000000 in
set_option maxRecDepth 100000 in
theorem lc_roomFor {p : Program} {l : Launch} {e : Env} {s : State} {m : MethodId} {below : List Frame} {meth : Method} {c : Code} {D : va_G} {C : Nat → ClassId} {A : Nat → Prop} {a : Nat → Nat → Nat} {aZ : Nat → Nat} {b L : Nat} {xs : Nat → Int32} {Q : State → Prop} {ls : Array Slot} {i : Int32} {mX mR mF mT mP mA mI mJ mH mK mD : Mm} {mG : Int64} {mZ : Mm} {mY : Int64} {H : Heap} {locs : List Loc} (hx : p.tables.exec = Jvm.exec) (hb : c.code = cL_law) (hml : c.maxLocals = 4) (hown : s.vm.findClass RL = some m.cls) (hts : ∀ w ∈ wsL_law, w.before #[Value.ref b] s = true) (hX : va_X b L xs s s.heap) (hbl : b < s.heap.size) (hbA : ¬ A b) (hA : ∀ q : Nat, s.heap.size ≤ q → A q) (hK : va_K D vwCl (tyL C) s) (hN : vv_NE C A s) (h1 : vp_in (i + 1) L) (h2 : vp_in (i + 2) L) (h3 : vp_in (i + 3) L) (h4 : vp_in (i + 4) L) (hl : lv_has ls 4 [(0, .ref b), (1, .ref (a 0 0)), (2, .ref (aZ 0)), (3, .int i)]) (hR : Rl mX mR mT mP mI mJ mD mG mZ mY) (hP : va_P D vwCl (w_L C a aZ mX mR mF mT mP mA mI mJ mH mK mD mG mZ mY) H) (hD : va_D A (w_L C a aZ mX mR mF mT mP mA mI mJ mH mK mD mG mZ mY)) (hS : va_S A s.heap H locs)
    (kk : ∀ (mX mR mF mT mP mA mI mJ mH mK mD : Mm) (mG : Int64) (mZ : Mm) (mY : Int64) (H : Heap) (locs : List Loc), Rl mX mR mT mP mI mJ mD mG mZ mY → va_P D vwCl (w_L C a aZ mX mR mF mT mP mA mI mJ mH mK mD mG mZ mY) H → va_D A (w_L C a aZ mX mR mF mT mP mA mI mJ mH mK mD mG mZ mY) → va_S A s.heap H locs → W p l e room_1 s m #[Value.ref b] below meth c H locs 100 2000 Q (F0 m 953 ls [])) : W p l e room_1 s m #[Value.ref b] below meth c H locs 100 2000 Q (F0 m 666 ls []) := by
  obtain ⟨r, oA, oZ, e1, e2, hR⟩ := st_roomFor hR mA (xs (i + 1).toNatClampNeg)
  refine lv_aload_n hx hb dL_law_666 rfl (lv_at hl 1 rfl) ?_
  refine lv_aload_n hx hb dL_law_667 rfl (lv_at hl 0 rfl) ?_
  refine lv_iload_n hx hb dL_law_668 rfl (lv_at hl 3 rfl) ?_
  refine lv_iconst (v := 1) hx hb dL_law_669 (by decide) ?_
  refine lv_iadd hx hb dL_law_670 ?_
  refine va_sld hx hb hX hbl hbA hS h1 dL_law_671 ?_
  have hs9 : vv_Sub D H A (w_FR C a mX ++ (w_Told C (a 3) mT ++ (w_Mom C (a 3) (a 4) mP ++ w_Mom C (a 3) (a 5) mA))) (w_FR C a mX ++ (w_Told C (a 3) mT ++ (w_Mom C (a 3) (a 4) mP ++ w_Mom C (a 3) (a 5) oA))) (w_L C a aZ mX mR mF mT mP oA mI mJ mH mK mD mG mZ mY) := vv_Sub.part (ws := w_L C a aZ mX mR mF mT mP mA mI mJ mH mK mD mG mZ mY) (wr := w_Rd C (a 2) (a 1) mR ++ (w_Told C (a 2) mF ++ (w_Mom C (a 3) (a 6) mI ++ (w_Mom C (a 3) (a 7) mJ ++ (w_Hg C (a 3) (a 4) (a 5) (a 8) mH ++ (w_Tk C (a 3) (a 4) (a 9) mK ++ (w_Dy C (a 10) mD ++ (w_Mk (a 3) (a 4) (a 11) mG ++ w_MD C aZ mZ mY)))))))) [0, 1, 2, 12, 13, 14, 15, 16, 17, 18, 19, 20, 21, 22, 23, 24, 25, 26, 27, 28] [3, 4, 5, 6, 7, 8, 9, 10, 11, 29, 30, 31, 32, 33, 34, 35, 36, 37, 38, 39, 40, 41, 42, 43, 44, 45, 46, 47, 48, 49, 50, 51, 52, 53, 54, 55, 56, 57, 58, 59, 60, 61, 62, 63, 64, 65, 66, 67, 68, 69, 70, 71, 72, 73, 74, 75, 76, 77, 78] [59, 60, 61, 0, 1, 2, 3, 4, 5, 6, 7, 8, 62, 63, 64, 65, 66, 67, 68, 69, 70, 71, 72, 73, 74, 75, 76, 77, 78, 9, 10, 11, 12, 13, 14, 15, 16, 17, 18, 19, 20, 21, 22, 23, 24, 25, 26, 27, 28, 29, 30, 31, 32, 33, 34, 35, 36, 37, 38, 39, 40, 41, 42, 43, 44, 45, 46, 47, 48, 49, 50, 51, 52, 53, 54, 55, 56, 57, 58] hP hD hS hA rfl rfl (by decide) rfl
  refine vv_goi (wn := w_L C a aZ mX mR mF mT mP oA mI mJ mH mK mD mG mZ mY) hK hs9 hS (vv_rV (As := [.int (xs (i + 1).toNatClampNeg)]) (rest := []) hx hb hml hown hts hK hN hS hs9 (ccX7_roomFor l D C H.size a mX mT mP mA (xs (i + 1).toNatClampNeg) r oA e1) (cwV 1 hts gL_law_X7_roomFor rfl rfl rfl (by decide +kernel) ⟨(Nat.le_of_ble_eq_true rfl), (Nat.le_of_ble_eq_true rfl)⟩) (va_recv hK hP (ci := 7) (q0 := 0) rfl rfl) rfl hl.1 rfl (Nat.le_of_ble_eq_true rfl) dL_law_672 ⟨(Nat.le_of_ble_eq_true rfl), (Nat.le_of_ble_eq_true rfl)⟩) (fun H locs hP hD hS => ?_)
  refine lv_aload_n hx hb dL_law_675 rfl (lv_at hl 2 rfl) ?_
  refine lv_aload_n hx hb dL_law_676 rfl (lv_at hl 0 rfl) ?_
  refine lv_iload_n hx hb dL_law_677 rfl (lv_at hl 3 rfl) ?_
  refine lv_iconst (v := 1) hx hb dL_law_678 (by decide) ?_
  refine lv_iadd hx hb dL_law_679 ?_
  refine va_sld hx hb hX hbl hbA hS h1 dL_law_680 ?_
  have hs9 := law_subM oZ mY hP hD hS hA
  refine vv_goi (wn := w_L C a aZ mX mR mF mT mP oA mI mJ mH mK mD mG oZ mY) hK hs9 hS (vv_rV (As := [.int (xs (i + 1).toNatClampNeg)]) (rest := [.int r]) hx hb hml hown hts hK hN hS hs9 (ccX8_roomFor l D C H.size aZ mZ mY (xs (i + 1).toNatClampNeg) r oZ e2) (cwV 1 hts gL_law_X8_roomFor rfl rfl rfl (by decide +kernel) ⟨(Nat.le_of_ble_eq_true rfl), (Nat.le_of_ble_eq_true rfl)⟩) (va_recv hK hP (ci := 8) (q0 := 60) rfl rfl) rfl hl.1 rfl (Nat.le_of_ble_eq_true rfl) dL_law_681 ⟨(Nat.le_of_ble_eq_true rfl), (Nat.le_of_ble_eq_true rfl)⟩) (fun H locs hP hD hS => ?_)
  refine lv_icmp_eq (tgt := 953) hx hb dL_law_684 (by decide) (fun _ => ?_) (fun hc => absurd rfl hc)
  exact kk mX mR mF mT mP oA mI mJ mH mK mD mG oZ mY H locs hR hP hD hS
set_option maxHeartbeats 4000000 in
set_option maxRecDepth 100000 in
theorem lc_pegs {p : Program} {l : Launch} {e : Env} {s : State} {m : MethodId} {below : List Frame} {meth : Method} {c : Code} {D : va_G} {C : Nat → ClassId} {A : Nat → Prop} {a : Nat → Nat → Nat} {aZ : Nat → Nat} {b L : Nat} {xs : Nat → Int32} {Q : State → Prop} {ls : Array Slot} {i : Int32} {mX mR mF mT mP mA mI mJ mH mK mD : Mm} {mG : Int64} {mZ : Mm} {mY : Int64} {H : Heap} {locs : List Loc} (hx : p.tables.exec = Jvm.exec) (hb : c.code = cL_law) (hml : c.maxLocals = 4) (hown : s.vm.findClass RL = some m.cls) (hts : ∀ w ∈ wsL_law, w.before #[Value.ref b] s = true) (hX : va_X b L xs s s.heap) (hbl : b < s.heap.size) (hbA : ¬ A b) (hA : ∀ q : Nat, s.heap.size ≤ q → A q) (hK : va_K D vwCl (tyL C) s) (hN : vv_NE C A s) (h1 : vp_in (i + 1) L) (h2 : vp_in (i + 2) L) (h3 : vp_in (i + 3) L) (h4 : vp_in (i + 4) L) (hl : lv_has ls 4 [(0, .ref b), (1, .ref (a 0 0)), (2, .ref (aZ 0)), (3, .int i)]) (hR : Rl mX mR mT mP mI mJ mD mG mZ mY) (hP : va_P D vwCl (w_L C a aZ mX mR mF mT mP mA mI mJ mH mK mD mG mZ mY) H) (hD : va_D A (w_L C a aZ mX mR mF mT mP mA mI mJ mH mK mD mG mZ mY)) (hS : va_S A s.heap H locs)
    (kk : ∀ (mX mR mF mT mP mA mI mJ mH mK mD : Mm) (mG : Int64) (mZ : Mm) (mY : Int64) (H : Heap) (locs : List Loc), Rl mX mR mT mP mI mJ mD mG mZ mY → va_P D vwCl (w_L C a aZ mX mR mF mT mP mA mI mJ mH mK mD mG mZ mY) H → va_D A (w_L C a aZ mX mR mF mT mP mA mI mJ mH mK mD mG mZ mY) → va_S A s.heap H locs → W p l e room_1 s m #[Value.ref b] below meth c H locs 100 2000 Q (F0 m 953 ls [])) : W p l e room_1 s m #[Value.ref b] below meth c H locs 100 2000 Q (F0 m 689 ls []) := by
  obtain ⟨r, e1, e2⟩ := st_pegs hR  
  refine lv_aload_n hx hb dL_law_689 rfl (lv_at hl 1 rfl) ?_
  have hs9 : vv_Sub D H A (w_FR C a mX ++ (w_Told C (a 3) mT ++ w_Mom C (a 3) (a 4) mP)) (w_FR C a mX ++ (w_Told C (a 3) mT ++ w_Mom C (a 3) (a 4) mP)) (w_L C a aZ mX mR mF mT mP mA mI mJ mH mK mD mG mZ mY) := vv_Sub.part (ws := w_L C a aZ mX mR mF mT mP mA mI mJ mH mK mD mG mZ mY) (wr := w_Rd C (a 2) (a 1) mR ++ (w_Told C (a 2) mF ++ (w_Mom C (a 3) (a 5) mA ++ (w_Mom C (a 3) (a 6) mI ++ (w_Mom C (a 3) (a 7) mJ ++ (w_Hg C (a 3) (a 4) (a 5) (a 8) mH ++ (w_Tk C (a 3) (a 4) (a 9) mK ++ (w_Dy C (a 10) mD ++ (w_Mk (a 3) (a 4) (a 11) mG ++ w_MD C aZ mZ mY))))))))) [0, 1, 2, 12, 13, 14, 15, 16, 17, 18, 19, 20, 21, 22, 23] [3, 4, 5, 6, 7, 8, 9, 10, 11, 24, 25, 26, 27, 28, 29, 30, 31, 32, 33, 34, 35, 36, 37, 38, 39, 40, 41, 42, 43, 44, 45, 46, 47, 48, 49, 50, 51, 52, 53, 54, 55, 56, 57, 58, 59, 60, 61, 62, 63, 64, 65, 66, 67, 68, 69, 70, 71, 72, 73, 74, 75, 76, 77, 78] [64, 65, 66, 0, 1, 2, 3, 4, 5, 6, 7, 8, 67, 68, 69, 70, 71, 72, 73, 74, 75, 76, 77, 78, 9, 10, 11, 12, 13, 14, 15, 16, 17, 18, 19, 20, 21, 22, 23, 24, 25, 26, 27, 28, 29, 30, 31, 32, 33, 34, 35, 36, 37, 38, 39, 40, 41, 42, 43, 44, 45, 46, 47, 48, 49, 50, 51, 52, 53, 54, 55, 56, 57, 58, 59, 60, 61, 62, 63] hP hD hS hA rfl rfl (by decide) rfl
  refine vv_goi (wn := w_L C a aZ mX mR mF mT mP mA mI mJ mH mK mD mG mZ mY) hK hs9 hS (vv_rV (As := []) (rest := []) hx hb hml hown hts hK hN hS hs9 (ccX7_pegs l D C H.size a mX mT mP r e1) (cwV 0 hts gL_law_X7_pegs rfl rfl rfl (by decide +kernel) ⟨(Nat.le_of_ble_eq_true rfl), (Nat.le_of_ble_eq_true rfl)⟩) (va_recv hK hP (ci := 7) (q0 := 0) rfl rfl) rfl hl.1 rfl (Nat.le_of_ble_eq_true rfl) dL_law_690 ⟨(Nat.le_of_ble_eq_true rfl), (Nat.le_of_ble_eq_true rfl)⟩) (fun H locs hP hD hS => ?_)
  refine lv_aload_n hx hb dL_law_693 rfl (lv_at hl 2 rfl) ?_
  have hs9 := law_subM mZ mY hP hD hS hA
  refine vv_goi (wn := w_L C a aZ mX mR mF mT mP mA mI mJ mH mK mD mG mZ mY) hK hs9 hS (vv_rV (As := []) (rest := [.int r]) hx hb hml hown hts hK hN hS hs9 (ccX8_pegs l D C H.size aZ mZ mY r e2) (cwV 0 hts gL_law_X8_pegs rfl rfl rfl (by decide +kernel) ⟨(Nat.le_of_ble_eq_true rfl), (Nat.le_of_ble_eq_true rfl)⟩) (va_recv hK hP (ci := 8) (q0 := 60) rfl rfl) rfl hl.1 rfl (Nat.le_of_ble_eq_true rfl) dL_law_694 ⟨(Nat.le_of_ble_eq_true rfl), (Nat.le_of_ble_eq_true rfl)⟩) (fun H locs hP hD hS => ?_)
  refine lv_icmp_eq (tgt := 953) hx hb dL_law_697 (by decide) (fun _ => ?_) (fun hc => absurd rfl hc)
  exact kk mX mR mF mT mP mA mI mJ mH mK mD mG mZ mY H locs hR hP hD hS
set_option maxHeartbeats 4000000 in
set_option maxRecDepth 100000 in
theorem lc_coins {p : Program} {l : Launch} {e : Env} {s : State} {m : MethodId} {below : List Frame} {meth : Method} {c : Code} {D : va_G} {C : Nat → ClassId} {A : Nat → Prop} {a : Nat → Nat → Nat} {aZ : Nat → Nat} {b L : Nat} {xs : Nat → Int32} {Q : State → Prop} {ls : Array Slot} {i : Int32} {mX mR mF mT mP mA mI mJ mH mK mD : Mm} {mG : Int64} {mZ : Mm} {mY : Int64} {H : Heap} {locs : List Loc} (hx : p.tables.exec = Jvm.exec) (hb : c.code = cL_law) (hml : c.maxLocals = 4) (hown : s.vm.findClass RL = some m.cls) (hts : ∀ w ∈ wsL_law, w.before #[Value.ref b] s = true) (hX : va_X b L xs s s.heap) (hbl : b < s.heap.size) (hbA : ¬ A b) (hA : ∀ q : Nat, s.heap.size ≤ q → A q) (hK : va_K D vwCl (tyL C) s) (hN : vv_NE C A s) (h1 : vp_in (i + 1) L) (h2 : vp_in (i + 2) L) (h3 : vp_in (i + 3) L) (h4 : vp_in (i + 4) L) (hl : lv_has ls 4 [(0, .ref b), (1, .ref (a 0 0)), (2, .ref (aZ 0)), (3, .int i)]) (hR : Rl mX mR mT mP mI mJ mD mG mZ mY) (hP : va_P D vwCl (w_L C a aZ mX mR mF mT mP mA mI mJ mH mK mD mG mZ mY) H) (hD : va_D A (w_L C a aZ mX mR mF mT mP mA mI mJ mH mK mD mG mZ mY)) (hS : va_S A s.heap H locs)
    (kk : ∀ (mX mR mF mT mP mA mI mJ mH mK mD : Mm) (mG : Int64) (mZ : Mm) (mY : Int64) (H : Heap) (locs : List Loc), Rl mX mR mT mP mI mJ mD mG mZ mY → va_P D vwCl (w_L C a aZ mX mR mF mT mP mA mI mJ mH mK mD mG mZ mY) H → va_D A (w_L C a aZ mX mR mF mT mP mA mI mJ mH mK mD mG mZ mY) → va_S A s.heap H locs → W p l e room_1 s m #[Value.ref b] below meth c H locs 100 2000 Q (F0 m 953 ls [])) : W p l e room_1 s m #[Value.ref b] below meth c H locs 100 2000 Q (F0 m 702 ls []) := by
  obtain ⟨r, oA, oZ, e1, e2, hR⟩ := st_coins hR mA (xs (i + 1).toNatClampNeg)
  refine lv_aload_n hx hb dL_law_702 rfl (lv_at hl 1 rfl) ?_
  refine lv_aload_n hx hb dL_law_703 rfl (lv_at hl 0 rfl) ?_
  refine lv_iload_n hx hb dL_law_704 rfl (lv_at hl 3 rfl) ?_
  refine lv_iconst (v := 1) hx hb dL_law_705 (by decide) ?_
  refine lv_iadd hx hb dL_law_706 ?_
  refine va_sld hx hb hX hbl hbA hS h1 dL_law_707 ?_
  have hs9 : vv_Sub D H A (w_FR C a mX ++ (w_Told C (a 3) mT ++ (w_Mom C (a 3) (a 4) mP ++ w_Mom C (a 3) (a 5) mA))) (w_FR C a mX ++ (w_Told C (a 3) mT ++ (w_Mom C (a 3) (a 4) mP ++ w_Mom C (a 3) (a 5) oA))) (w_L C a aZ mX mR mF mT mP oA mI mJ mH mK mD mG mZ mY) := vv_Sub.part (ws := w_L C a aZ mX mR mF mT mP mA mI mJ mH mK mD mG mZ mY) (wr := w_Rd C (a 2) (a 1) mR ++ (w_Told C (a 2) mF ++ (w_Mom C (a 3) (a 6) mI ++ (w_Mom C (a 3) (a 7) mJ ++ (w_Hg C (a 3) (a 4) (a 5) (a 8) mH ++ (w_Tk C (a 3) (a 4) (a 9) mK ++ (w_Dy C (a 10) mD ++ (w_Mk (a 3) (a 4) (a 11) mG ++ w_MD C aZ mZ mY)))))))) [0, 1, 2, 12, 13, 14, 15, 16, 17, 18, 19, 20, 21, 22, 23, 24, 25, 26, 27, 28] [3, 4, 5, 6, 7, 8, 9, 10, 11, 29, 30, 31, 32, 33, 34, 35, 36, 37, 38, 39, 40, 41, 42, 43, 44, 45, 46, 47, 48, 49, 50, 51, 52, 53, 54, 55, 56, 57, 58, 59, 60, 61, 62, 63, 64, 65, 66, 67, 68, 69, 70, 71, 72, 73, 74, 75, 76, 77, 78] [59, 60, 61, 0, 1, 2, 3, 4, 5, 6, 7, 8, 62, 63, 64, 65, 66, 67, 68, 69, 70, 71, 72, 73, 74, 75, 76, 77, 78, 9, 10, 11, 12, 13, 14, 15, 16, 17, 18, 19, 20, 21, 22, 23, 24, 25, 26, 27, 28, 29, 30, 31, 32, 33, 34, 35, 36, 37, 38, 39, 40, 41, 42, 43, 44, 45, 46, 47, 48, 49, 50, 51, 52, 53, 54, 55, 56, 57, 58] hP hD hS hA rfl rfl (by decide) rfl
  refine vv_goi (wn := w_L C a aZ mX mR mF mT mP oA mI mJ mH mK mD mG mZ mY) hK hs9 hS (vv_rV (As := [.int (xs (i + 1).toNatClampNeg)]) (rest := []) hx hb hml hown hts hK hN hS hs9 (ccX7_coins l D C H.size a mX mT mP mA (xs (i + 1).toNatClampNeg) r oA e1) (cwV 1 hts gL_law_X7_coins rfl rfl rfl (by decide +kernel) ⟨(Nat.le_of_ble_eq_true rfl), (Nat.le_of_ble_eq_true rfl)⟩) (va_recv hK hP (ci := 7) (q0 := 0) rfl rfl) rfl hl.1 rfl (Nat.le_of_ble_eq_true rfl) dL_law_708 ⟨(Nat.le_of_ble_eq_true rfl), (Nat.le_of_ble_eq_true rfl)⟩) (fun H locs hP hD hS => ?_)
  refine lv_aload_n hx hb dL_law_711 rfl (lv_at hl 2 rfl) ?_
  refine lv_aload_n hx hb dL_law_712 rfl (lv_at hl 0 rfl) ?_
  refine lv_iload_n hx hb dL_law_713 rfl (lv_at hl 3 rfl) ?_
  refine lv_iconst (v := 1) hx hb dL_law_714 (by decide) ?_
  refine lv_iadd hx hb dL_law_715 ?_
  refine va_sld hx hb hX hbl hbA hS h1 dL_law_716 ?_
  have hs9 := law_subM oZ mY hP hD hS hA
  refine vv_goi (wn := w_L C a aZ mX mR mF mT mP oA mI mJ mH mK mD mG oZ mY) hK hs9 hS (vv_rV (As := [.int (xs (i + 1).toNatClampNeg)]) (rest := [.int r]) hx hb hml hown hts hK hN hS hs9 (ccX8_coins l D C H.size aZ mZ mY (xs (i + 1).toNatClampNeg) r oZ e2) (cwV 1 hts gL_law_X8_coins rfl rfl rfl (by decide +kernel) ⟨(Nat.le_of_ble_eq_true rfl), (Nat.le_of_ble_eq_true rfl)⟩) (va_recv hK hP (ci := 8) (q0 := 60) rfl rfl) rfl hl.1 rfl (Nat.le_of_ble_eq_true rfl) dL_law_717 ⟨(Nat.le_of_ble_eq_true rfl), (Nat.le_of_ble_eq_true rfl)⟩) (fun H locs hP hD hS => ?_)
  refine lv_icmp_eq (tgt := 953) hx hb dL_law_720 (by decide) (fun _ => ?_) (fun hc => absurd rfl hc)
  exact kk mX mR mF mT mP oA mI mJ mH mK mD mG oZ mY H locs hR hP hD hS
