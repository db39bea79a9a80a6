abbrev rX7_anew : Room := { frames := 1, cells := 0, slots := 0, locals := 21 }
set_option maxHeartbeats 4000000 in
set_option maxRecDepth 100000 in
theorem ccX7_anew (l : Launch) (D : va_G) (C : Nat → ClassId) (sz : Nat) (a : Nat → Nat → Nat) (mX : Mm) (mT : Mm) (mP : Mm) (rr : Int32) (oP : Mm) (hf : ffX7_anew mX mT mP = some (rr, oP)) : Met l yX7_anew wsX7_anew rX7_anew (va_Pc [.ref (a 0 0)] (vv_pre D C (w_FR C a mX ++ (w_Told C (a 3) mT ++ w_Mom C (a 3) (a 4) mP)) sz)) (vv_QI D C (w_FR C a mX ++ (w_Told C (a 3) mT ++ w_Mom C (a 3) (a 4) mP)) (w_FR C a mX ++ (w_Told C (a 3) mT ++ w_Mom C (a 3) (a 4) oP)) sz rr) 0 0 (va_A (w_FR C a mX ++ (w_Told C (a 3) mT ++ w_Mom C (a 3) (a 4) mP)) sz) := by
  unfold ffX7_anew at hf
  refine vv_metI (cc := cX7_anew) (maxL := 2) (ty := .int) (by decide) rfl (Nat.le_of_ble_eq_true rfl) ?_
  intro p e s m args below meth c A Q H locs ls hx hb hml hown hts hA hK hN hP hD hS hl hret
  have hown : s.vm.findClass RX7 = some m.cls := hown
  have hl : lv_has ls 2 [(0, .ref (a 0 0))] := hl
  have hret : ∀ (v0 : Int32) (v1 : Mm) (H : Heap) (locs : List Loc) (ls : Array Slot) (pc : Nat), some (v0, v1) = some (rr, oP) → narrow .int (.int v0) = .int v0 → va_P D vwCl (w_FR C a mX ++ (w_Told C (a 3) mT ++ w_Mom C (a 3) (a 4) v1)) H → va_D A (w_FR C a mX ++ (w_Told C (a 3) mT ++ w_Mom C (a 3) (a 4) v1)) → va_S A s.heap H locs → decode cX7_anew pc = .ok (.ireturn, 1) → W p l e rX7_anew s m args below meth c H locs 0 0 Q (F0 m pc ls [.int v0]) := by
    intro v0 v1 H locs ls pc h0 hn h1 h2 h3 h4
    cases h0
    exact hret H locs ls pc hn h1 h2 h3 h4
  have q0 := hts (.fieldLink RX7 28 "ForeRain" "present" "LForeRain$Moment;") (by decide +kernel)
  have q1 := hts (.fieldLink RX7 150 "ForeRain$Moment" "step" "I") (by decide +kernel)
  have iX7 : ∀ w ∈ u_ws RX7 TX7 10, w ∈ wsX7_anew := by decide +kernel
  have iX3 : ∀ w ∈ u_ws RX3 TX3 7, w ∈ wsX7_anew := by decide +kernel
  refine lv_aload_n hx hb dX7_anew_0 rfl (lv_at hl 0 rfl) ?_
  refine va_get (D := D) (ci := 7) (v := .ref (a 4 0)) (C := RX7) (T := TX7) (N := 10) hx hb hts iX7 hown hK hP 0 rfl rfl 2 (by decide) q0 (fun _ h9 => h9) rfl dX7_anew_1 ?_
  refine va_get (D := D) (ci := 3) (v := .int (mP 0 1)) (C := RX3) (T := TX3) (N := 7) hx hb hts iX3 hown hK hP 10 rfl rfl 1 (by decide) q1 (fun _ h9 => h9) rfl dX7_anew_4 ?_
  obtain ⟨x1, ex1, hf⟩ := kv_lt_e hf
  refine vv_nami ex1 ?_
  refine lv_istore_n (lv' := [(1, .int x1), (0, .ref (a 0 0))]) hx hb dX7_anew_7 rfl hl (by decide) rfl (fun ls hl => ?_)
  refine lv_aload_n hx hb dX7_anew_8 rfl (lv_at hl 1 rfl) ?_
  refine va_get (D := D) (ci := 7) (v := .ref (a 4 0)) (C := RX7) (T := TX7) (N := 10) hx hb hts iX7 hown hK hP 0 rfl rfl 2 (by decide) q0 (fun _ h9 => h9) rfl dX7_anew_9 ?_
  obtain ⟨mP2, hc, hf⟩ := kv_b1_e hf
  have hs9 : vv_Sub D H A (w_Told C (a 3) mT ++ w_Mom C (a 3) (a 4) mP) (w_Told C (a 3) mT ++ w_Mom C (a 3) (a 4) mP2) (w_FR C a mX ++ (w_Told C (a 3) mT ++ w_Mom C (a 3) (a 4) mP2)) := vv_Sub.part (ws := (w_FR C a mX ++ (w_Told C (a 3) mT ++ w_Mom C (a 3) (a 4) mP))) (wr := (w_FR C a mX)) [3, 4, 5, 6, 7, 8, 9, 10, 11, 12, 13, 14] [0, 1, 2] [0, 1, 2, 3, 4, 5, 6, 7, 8, 9, 10, 11, 12, 13, 14] hP hD hS hA rfl rfl (by decide) rfl
  refine vv_gov (wn := (w_FR C a mX ++ (w_Told C (a 3) mT ++ w_Mom C (a 3) (a 4) mP2))) hK hs9 hS (vv_rV (As := []) (rest := []) hx hb hml hown hts hK hN hS hs9 (ccX3_begin l D C H.size (a 3) (a 4) mT mP mP2 hc) (cwV 0 hts gX7_anew_X3_begin rfl rfl rfl (by decide +kernel) ⟨(Nat.le_of_ble_eq_true rfl), (Nat.le_of_ble_eq_true rfl)⟩) (va_recv hK hP (ci := 3) (q0 := 10) rfl rfl) rfl hl.1 rfl (Nat.le_of_ble_eq_true rfl) dX7_anew_12 ⟨Nat.zero_le _, Nat.zero_le _⟩) (fun H locs hP hD hS => ?_)
  refine lv_iload_n hx hb dX7_anew_15 rfl (lv_at hl 0 rfl) ?_
  exact hret _ _ _ _ _ _ hf rfl hP hD hS dX7_anew_16
abbrev rX7_back : Room := { frames := 1, cells := 0, slots := 0, locals := 22 }
set_option maxHeartbeats 4000000 in
set_option maxRecDepth 100000 in
theorem ccX7_back (l : Launch) (D : va_G) (C : Nat → ClassId) (sz : Nat) (a : Nat → Nat → Nat) (mX : Mm) (mT : Mm) (mP : Mm) (mI : Mm) (mJ : Mm) (p0 : Int32) (rr : Int32) (oP : Mm) (hf : ffX7_back p0 mX mT mP mI mJ = some (rr, oP)) : Met l yX7_back wsX7_back rX7_back (va_Pc [.ref (a 0 0), .int p0] (vv_pre D C (w_FR C a mX ++ (w_Told C (a 3) mT ++ (w_Mom C (a 3) (a 4) mP ++ (w_Mom C (a 3) (a 6) mI ++ w_Mom C (a 3) (a 7) mJ)))) sz)) (vv_QI D C (w_FR C a mX ++ (w_Told C (a 3) mT ++ (w_Mom C (a 3) (a 4) mP ++ (w_Mom C (a 3) (a 6) mI ++ w_Mom C (a 3) (a 7) mJ)))) (w_FR C a mX ++ (w_Told C (a 3) mT ++ (w_Mom C (a 3) (a 4) oP ++ (w_Mom C (a 3) (a 6) mI ++ w_Mom C (a 3) (a 7) mJ)))) sz rr) 0 0 (va_A (w_FR C a mX ++ (w_Told C (a 3) mT ++ (w_Mom C (a 3) (a 4) mP ++ (w_Mom C (a 3) (a 6) mI ++ w_Mom C (a 3) (a 7) mJ)))) sz) := by
  unfold ffX7_back at hf
  refine vv_metI (cc := cX7_back) (maxL := 2) (ty := .int) (by decide) rfl (Nat.le_of_ble_eq_true rfl) ?_
  intro p e s m args below meth c A Q H locs ls hx hb hml hown hts hA hK hN hP hD hS hl hret
  have hown : s.vm.findClass RX7 = some m.cls := hown
  have hl : lv_has ls 2 [(0, .ref (a 0 0)), (1, .int p0)] := hl
  have hret : ∀ (v0 : Int32) (v1 : Mm) (H : Heap) (locs : List Loc) (ls : Array Slot) (pc : Nat), some (v0, v1) = some (rr, oP) → narrow .int (.int v0) = .int v0 → va_P D vwCl (w_FR C a mX ++ (w_Told C (a 3) mT ++ (w_Mom C (a 3) (a 4) v1 ++ (w_Mom C (a 3) (a 6) mI ++ w_Mom C (a 3) (a 7) mJ)))) H → va_D A (w_FR C a mX ++ (w_Told C (a 3) mT ++ (w_Mom C (a 3) (a 4) v1 ++ (w_Mom C (a 3) (a 6) mI ++ w_Mom C (a 3) (a 7) mJ)))) → va_S A s.heap H locs → decode cX7_back pc = .ok (.ireturn, 1) → W p l e rX7_back s m args below meth c H locs 0 0 Q (F0 m pc ls [.int v0]) := by
    intro v0 v1 H locs ls pc h0 hn h1 h2 h3 h4
    cases h0
    exact hret H locs ls pc hn h1 h2 h3 h4
  have q0 := hts (.fieldLink RX7 39 "ForeRain" "kept" "[Z") (by decide +kernel)
  have q1 := hts (.fieldLink RX7 28 "ForeRain" "present" "LForeRain$Moment;") (by decide +kernel)
  have q2 := hts (.fieldLink RX7 35 "ForeRain" "images" "[LForeRain$Moment;") (by decide +kernel)
  have q3 := hts (.fieldLink RX7 150 "ForeRain$Moment" "step" "I") (by decide +kernel)
  have iX7 : ∀ w ∈ u_ws RX7 TX7 10, w ∈ wsX7_back := by decide +kernel
  have iX3 : ∀ w ∈ u_ws RX3 TX3 7, w ∈ wsX7_back := by decide +kernel
  refine lv_iload_n hx hb dX7_back_0 rfl (lv_at hl 1 rfl) ?_
  refine lv_iconst (v := 0) hx hb dX7_back_1 (by decide) ?_
  refine lv_iconst (v := 1) hx hb dX7_back_2 (by decide) ?_
  obtain ⟨r1, hc, hf⟩ := kv_b1_e hf
  have hs9 : vv_Sub D H A ([] : va_W) ([] : va_W) (w_FR C a mX ++ (w_Told C (a 3) mT ++ (w_Mom C (a 3) (a 4) mP ++ (w_Mom C (a 3) (a 6) mI ++ w_Mom C (a 3) (a 7) mJ)))) := vv_Sub.none hP hD hS hA
  refine vv_goi (wn := (w_FR C a mX ++ (w_Told C (a 3) mT ++ (w_Mom C (a 3) (a 4) mP ++ (w_Mom C (a 3) (a 6) mI ++ w_Mom C (a 3) (a 7) mJ))))) hK hs9 hS (vv_rS (As := [.int p0, .int 0, .int 1]) (rest := []) hx hb hml hown hts hK hN hS hs9 (ccX7_within l D C H.size p0 (0 : Int32) (1 : Int32) r1 hc) (va_cwS 3 hts gX7_back_X7_within rfl rfl rfl (by decide +kernel) ⟨(Nat.le_of_ble_eq_true rfl), (Nat.le_of_ble_eq_true rfl)⟩) rfl hl.1 rfl (Nat.le_of_ble_eq_true rfl) dX7_back_3 ⟨Nat.zero_le _, Nat.zero_le _⟩) (fun H locs hP hD hS => ?_)
  refine lv_if_ne (tgt := 11) hx hb dX7_back_6 (by decide) (fun hc => ?_) (fun hc => ?_)
  · have hf := kv_f hc hf
    refine lv_aload_n hx hb dX7_back_11 rfl (lv_at hl 0 rfl) ?_
    refine va_get (D := D) (ci := 7) (v := .ref (a 0 2)) (C := RX7) (T := TX7) (N := 10) hx hb hts iX7 hown hK hP 0 rfl rfl 5 (by decide) q0 (fun _ h9 => h9) rfl dX7_back_12 ?_
    refine lv_iload_n hx hb dX7_back_15 rfl (lv_at hl 1 rfl) ?_
    obtain ⟨h9, hf⟩ := kv_ix_e hf
    refine va_zald hx hb hK hP 2 2 rfl rfl h9 dX7_back_16 ?_
    refine lv_if_ne (tgt := 23) hx hb dX7_back_17 (by decide) (fun hc => ?_) (fun hc => ?_)
    · have hf := kv_f hc hf
      refine lv_aload_n hx hb dX7_back_23 rfl (lv_at hl 0 rfl) ?_
      refine va_get (D := D) (ci := 7) (v := .ref (a 4 0)) (C := RX7) (T := TX7) (N := 10) hx hb hts iX7 hown hK hP 0 rfl rfl 2 (by decide) q1 (fun _ h9 => h9) rfl dX7_back_24 ?_
      refine lv_aload_n hx hb dX7_back_27 rfl (lv_at hl 0 rfl) ?_
      refine va_get (D := D) (ci := 7) (v := .ref (a 0 1)) (C := RX7) (T := TX7) (N := 10) hx hb hts iX7 hown hK hP 0 rfl rfl 4 (by decide) q2 (fun _ h9 => h9) rfl dX7_back_28 ?_
      refine lv_iload_n hx hb dX7_back_31 rfl (lv_at hl 1 rfl) ?_
      by_cases c0 : p0 = 0
      · have hf := kv_t c0 hf
        refine va_aldq hx hb hK hP 1 3 rfl rfl (by rw [c0]; unfold vp_in; decide) dX7_back_32 ?_
        refine vv_reft (q := a 6 0) (by rw [c0]; rfl) ?_
        obtain ⟨mP2, hc, hf⟩ := kv_b1_e hf
        have hs9 : vv_Sub D H A (w_Told C (a 3) mT ++ (w_Mom C (a 3) (a 4) mP ++ w_Mom C (a 3) (a 6) mI)) (w_Told C (a 3) mT ++ (w_Mom C (a 3) (a 4) mP2 ++ w_Mom C (a 3) (a 6) mI)) (w_FR C a mX ++ (w_Told C (a 3) mT ++ (w_Mom C (a 3) (a 4) mP2 ++ (w_Mom C (a 3) (a 6) mI ++ w_Mom C (a 3) (a 7) mJ)))) := vv_Sub.part (ws := (w_FR C a mX ++ (w_Told C (a 3) mT ++ (w_Mom C (a 3) (a 4) mP ++ (w_Mom C (a 3) (a 6) mI ++ w_Mom C (a 3) (a 7) mJ))))) (wr := (w_FR C a mX ++ w_Mom C (a 3) (a 7) mJ)) [3, 4, 5, 6, 7, 8, 9, 10, 11, 12, 13, 14, 15, 16, 17, 18, 19] [0, 1, 2, 20, 21, 22, 23, 24] [0, 1, 2, 8, 9, 10, 11, 12, 13, 14, 15, 16, 17, 18, 19, 20, 21, 22, 23, 24, 3, 4, 5, 6, 7] hP hD hS hA rfl rfl (by decide) rfl
        refine vv_gov (wn := (w_FR C a mX ++ (w_Told C (a 3) mT ++ (w_Mom C (a 3) (a 4) mP2 ++ (w_Mom C (a 3) (a 6) mI ++ w_Mom C (a 3) (a 7) mJ))))) hK hs9 hS (vv_rV (As := [.ref (a 6 0)]) (rest := []) hx hb hml hown hts hK hN hS hs9 (ccX3_copy l D C H.size (a 3) (a 4) (a 6) mT mP mI mP2 hc) (cwV 1 hts gX7_back_X3_copy rfl rfl rfl (by decide +kernel) ⟨(Nat.le_of_ble_eq_true rfl), (Nat.le_of_ble_eq_true rfl)⟩) (va_recv hK hP (ci := 3) (q0 := 10) rfl rfl) rfl hl.1 rfl (Nat.le_of_ble_eq_true rfl) dX7_back_33 ⟨Nat.zero_le _, Nat.zero_le _⟩) (fun H locs hP hD hS => ?_)
        refine lv_aload_n hx hb dX7_back_36 rfl (lv_at hl 0 rfl) ?_
        refine va_get (D := D) (ci := 7) (v := .ref (a 4 0)) (C := RX7) (T := TX7) (N := 10) hx hb hts iX7 hown hK hP 0 rfl rfl 2 (by decide) q1 (fun _ h9 => h9) rfl dX7_back_37 ?_
        refine va_get (D := D) (ci := 3) (v := .int (mP2 0 1)) (C := RX3) (T := TX3) (N := 7) hx hb hts iX3 hown hK hP 10 rfl rfl 1 (by decide) q3 (fun _ h9 => h9) rfl dX7_back_40 ?_
        exact hret _ _ _ _ _ _ hf rfl hP hD hS dX7_back_43
      have hf := kv_f c0 hf
      by_cases c1 : p0 = 1
      · have hf := kv_t c1 hf
        refine va_aldq hx hb hK hP 1 3 rfl rfl (by rw [c1]; unfold vp_in; decide) dX7_back_32 ?_
        refine vv_reft (q := a 7 0) (by rw [c1]; rfl) ?_
        obtain ⟨mP3, hc, hf⟩ := kv_b1_e hf
        have hs9 : vv_Sub D H A (w_Told C (a 3) mT ++ (w_Mom C (a 3) (a 4) mP ++ w_Mom C (a 3) (a 7) mJ)) (w_Told C (a 3) mT ++ (w_Mom C (a 3) (a 4) mP3 ++ w_Mom C (a 3) (a 7) mJ)) (w_FR C a mX ++ (w_Told C (a 3) mT ++ (w_Mom C (a 3) (a 4) mP3 ++ (w_Mom C (a 3) (a 6) mI ++ w_Mom C (a 3) (a 7) mJ)))) := vv_Sub.part (ws := (w_FR C a mX ++ (w_Told C (a 3) mT ++ (w_Mom C (a 3) (a 4) mP ++ (w_Mom C (a 3) (a 6) mI ++ w_Mom C (a 3) (a 7) mJ))))) (wr := (w_FR C a mX ++ w_Mom C (a 3) (a 6) mI)) [3, 4, 5, 6, 7, 8, 9, 10, 11, 12, 13, 14, 20, 21, 22, 23, 24] [0, 1, 2, 15, 16, 17, 18, 19] [0, 1, 2, 8, 9, 10, 11, 12, 13, 14, 15, 16, 17, 18, 19, 3, 4, 5, 6, 7, 20, 21, 22, 23, 24] hP hD hS hA rfl rfl (by decide) rfl
        refine vv_gov (wn := (w_FR C a mX ++ (w_Told C (a 3) mT ++ (w_Mom C (a 3) (a 4) mP3 ++ (w_Mom C (a 3) (a 6) mI ++ w_Mom C (a 3) (a 7) mJ))))) hK hs9 hS (vv_rV (As := [.ref (a 7 0)]) (rest := []) hx hb hml hown hts hK hN hS hs9 (ccX3_copy l D C H.size (a 3) (a 4) (a 7) mT mP mJ mP3 hc) (cwV 1 hts gX7_back_X3_copy rfl rfl rfl (by decide +kernel) ⟨(Nat.le_of_ble_eq_true rfl), (Nat.le_of_ble_eq_true rfl)⟩) (va_recv hK hP (ci := 3) (q0 := 10) rfl rfl) rfl hl.1 rfl (Nat.le_of_ble_eq_true rfl) dX7_back_33 ⟨Nat.zero_le _, Nat.zero_le _⟩) (fun H locs hP hD hS => ?_)
        refine lv_aload_n hx hb dX7_back_36 rfl (lv_at hl 0 rfl) ?_
        refine va_get (D := D) (ci := 7) (v := .ref (a 4 0)) (C := RX7) (T := TX7) (N := 10) hx hb hts iX7 hown hK hP 0 rfl rfl 2 (by decide) q1 (fun _ h9 => h9) rfl dX7_back_37 ?_
        refine va_get (D := D) (ci := 3) (v := .int (mP3 0 1)) (C := RX3) (T := TX3) (N := 7) hx hb hts iX3 hown hK hP 10 rfl rfl 1 (by decide) q3 (fun _ h9 => h9) rfl dX7_back_40 ?_
        exact hret _ _ _ _ _ _ hf rfl hP hD hS dX7_back_43
      have hf := kv_f c1 hf
      exact kv_no hf
    · have hf := kv_t hc hf
      refine lv_bipush (v := (-2)) hx hb dX7_back_20 (by decide) ?_
      exact hret _ _ _ _ _ _ hf rfl hP hD hS dX7_back_22
  · have hf := kv_t hc hf
    refine lv_iconst (v := (-1)) hx hb dX7_back_9 (by decide) ?_
    exact hret _ _ _ _ _ _ hf rfl hP hD hS dX7_back_10
abbrev rX7_isPiece : Room := { frames := 1, cells := 0, slots := 0, locals := 22 }
set_option maxHeartbeats 4000000 in
set_option maxRecDepth 100000 in
theorem ccX7_isPiece (l : Launch) (D : va_G) (C : Nat → ClassId) (sz : Nat) (a : Nat → Nat → Nat) (mX : Mm) (mT : Mm) (p0 : Int32) (rr : Int32) (hf : ffX7_isPiece p0 mX mT = some (rr)) : Met l yX7_isPiece wsX7_isPiece rX7_isPiece (va_Pc [.ref (a 0 0), .int p0] (vv_pre D C (w_FR C a mX ++ w_Told C (a 3) mT) sz)) (vv_QI D C (w_FR C a mX ++ w_Told C (a 3) mT) (w_FR C a mX ++ w_Told C (a 3) mT) sz rr) 0 0 (va_A (w_FR C a mX ++ w_Told C (a 3) mT) sz) := by
  unfold ffX7_isPiece at hf
  refine vv_metI (cc := cX7_isPiece) (maxL := 2) (ty := .boolean) (by decide) rfl (Nat.le_of_ble_eq_true rfl) ?_
  intro p e s m args below meth c A Q H locs ls hx hb hml hown hts hA hK hN hP hD hS hl hret
  have hown : s.vm.findClass RX7 = some m.cls := hown
  have hl : lv_has ls 2 [(0, .ref (a 0 0)), (1, .int p0)] := hl
  have hret : ∀ (v0 : Int32) (H : Heap) (locs : List Loc) (ls : Array Slot) (pc : Nat), some (v0) = some (rr) → narrow .boolean (.int v0) = .int v0 → va_P D vwCl (w_FR C a mX ++ w_Told C (a 3) mT) H → va_D A (w_FR C a mX ++ w_Told C (a 3) mT) → va_S A s.heap H locs → decode cX7_isPiece pc = .ok (.ireturn, 1) → W p l e rX7_isPiece s m args below meth c H locs 0 0 Q (F0 m pc ls [.int v0]) := by
    intro v0 H locs ls pc h0 hn h1 h2 h3 h4
    cases h0
    exact hret H locs ls pc hn h1 h2 h3 h4
  have q0 := hts (.fieldLink RX7 19 "ForeRain" "told" "LForeRain$Told;") (by decide +kernel)
  have q1 := hts (.fieldLink RX7 215 "ForeRain$Told" "pieces" "I") (by decide +kernel)
  have iX7 : ∀ w ∈ u_ws RX7 TX7 10, w ∈ wsX7_isPiece := by decide +kernel
  have iX6 : ∀ w ∈ u_ws RX6 TX6 9, w ∈ wsX7_isPiece := by decide +kernel
  refine lv_iload_n hx hb dX7_isPiece_0 rfl (lv_at hl 1 rfl) ?_
  refine lv_iconst (v := 0) hx hb dX7_isPiece_1 (by decide) ?_
  refine lv_aload_n hx hb dX7_isPiece_2 rfl (lv_at hl 0 rfl) ?_
  refine va_get (D := D) (ci := 7) (v := .ref (a 3 0)) (C := RX7) (T := TX7) (N := 10) hx hb hts iX7 hown hK hP 0 rfl rfl 1 (by decide) q0 (fun _ h9 => h9) rfl dX7_isPiece_3 ?_
  refine va_get (D := D) (ci := 6) (v := .int (mT 0 0)) (C := RX6) (T := TX6) (N := 9) hx hb hts iX6 hown hK hP 3 rfl rfl 0 (by decide) q1 (fun _ h9 => h9) rfl dX7_isPiece_6 ?_
  refine lv_iconst (v := 1) hx hb dX7_isPiece_9 (by decide) ?_
  refine lv_isub hx hb dX7_isPiece_10 ?_
  obtain ⟨r1, hc, hf⟩ := kv_b1_e hf
  have hs9 : vv_Sub D H A ([] : va_W) ([] : va_W) (w_FR C a mX ++ w_Told C (a 3) mT) := vv_Sub.none hP hD hS hA
  refine vv_goi (wn := (w_FR C a mX ++ w_Told C (a 3) mT)) hK hs9 hS (vv_rS (As := [.int p0, .int 0, .int ((mT 0 0) - 1)]) (rest := []) hx hb hml hown hts hK hN hS hs9 (ccX7_within l D C H.size p0 (0 : Int32) ((mT 0 0) - 1) r1 hc) (va_cwS 3 hts gX7_isPiece_X7_within rfl rfl rfl (by decide +kernel) ⟨(Nat.le_of_ble_eq_true rfl), (Nat.le_of_ble_eq_true rfl)⟩) rfl hl.1 rfl (Nat.le_of_ble_eq_true rfl) dX7_isPiece_11 ⟨Nat.zero_le _, Nat.zero_le _⟩) (fun H locs hP hD hS => ?_)
  obtain ⟨h9, hf⟩ := kv_bo_e hf
  exact hret _ _ _ _ _ hf h9 hP hD hS dX7_isPiece_14
abbrev rX7_basket : Room := { frames := 2, cells := 0, slots := 0, locals := 43 }
set_option maxHeartbeats 4000000 in
set_option maxRecDepth 100000 in
theorem ccX7_basket (l : Launch) (D : va_G) (C : Nat → ClassId) (sz : Nat) (a : Nat → Nat → Nat) (mX : Mm) (mT : Mm) (mP : Mm) (p0 : Int32) (rr : Int32) (oP : Mm) (hf : ffX7_basket p0 mX mT mP = some (rr, oP)) : Met l yX7_basket wsX7_basket rX7_basket (va_Pc [.ref (a 0 0), .int p0] (vv_pre D C (w_FR C a mX ++ (w_Told C (a 3) mT ++ w_Mom C (a 3) (a 4) mP)) sz)) (vv_QI D C (w_FR C a mX ++ (w_Told C (a 3) mT ++ w_Mom C (a 3) (a 4) mP)) (w_FR C a mX ++ (w_Told C (a 3) mT ++ w_Mom C (a 3) (a 4) oP)) sz rr) 0 0 (va_A (w_FR C a mX ++ (w_Told C (a 3) mT ++ w_Mom C (a 3) (a 4) mP)) sz) := by
  unfold ffX7_basket at hf
  refine vv_metI (cc := cX7_basket) (maxL := 2) (ty := .int) (by decide) rfl (Nat.le_of_ble_eq_true rfl) ?_
  intro p e s m args below meth c A Q H locs ls hx hb hml hown hts hA hK hN hP hD hS hl hret
  have hown : s.vm.findClass RX7 = some m.cls := hown
  have hl : lv_has ls 2 [(0, .ref (a 0 0)), (1, .int p0)] := hl
  have hret : ∀ (v0 : Int32) (v1 : Mm) (H : Heap) (locs : List Loc) (ls : Array Slot) (pc : Nat), some (v0, v1) = some (rr, oP) → narrow .int (.int v0) = .int v0 → va_P D vwCl (w_FR C a mX ++ (w_Told C (a 3) mT ++ w_Mom C (a 3) (a 4) v1)) H → va_D A (w_FR C a mX ++ (w_Told C (a 3) mT ++ w_Mom C (a 3) (a 4) v1)) → va_S A s.heap H locs → decode cX7_basket pc = .ok (.ireturn, 1) → W p l e rX7_basket s m args below meth c H locs 0 0 Q (F0 m pc ls [.int v0]) := by
    intro v0 v1 H locs ls pc h0 hn h1 h2 h3 h4
    cases h0
    exact hret H locs ls pc hn h1 h2 h3 h4
  have q0 := hts (.fieldLink RX7 28 "ForeRain" "present" "LForeRain$Moment;") (by decide +kernel)
  have q1 := hts (.fieldLink RX7 123 "ForeRain$Moment" "place" "[I") (by decide +kernel)
  have iX7 : ∀ w ∈ u_ws RX7 TX7 10, w ∈ wsX7_basket := by decide +kernel
  have iX3 : ∀ w ∈ u_ws RX3 TX3 7, w ∈ wsX7_basket := by decide +kernel
  refine lv_aload_n hx hb dX7_basket_0 rfl (lv_at hl 0 rfl) ?_
  refine lv_iload_n hx hb dX7_basket_1 rfl (lv_at hl 1 rfl) ?_
  obtain ⟨r1, hc, hf⟩ := kv_b1_e hf
  have hs9 : vv_Sub D H A (w_FR C a mX ++ w_Told C (a 3) mT) (w_FR C a mX ++ w_Told C (a 3) mT) (w_FR C a mX ++ (w_Told C (a 3) mT ++ w_Mom C (a 3) (a 4) mP)) := vv_Sub.part (ws := (w_FR C a mX ++ (w_Told C (a 3) mT ++ w_Mom C (a 3) (a 4) mP))) (wr := (w_Mom C (a 3) (a 4) mP)) [0, 1, 2, 3, 4, 5, 6, 7, 8, 9] [10, 11, 12, 13, 14] [5, 6, 7, 8, 9, 10, 11, 12, 13, 14, 0, 1, 2, 3, 4] hP hD hS hA rfl rfl (by decide) rfl
  refine vv_goi (wn := (w_FR C a mX ++ (w_Told C (a 3) mT ++ w_Mom C (a 3) (a 4) mP))) hK hs9 hS (vv_rV (As := [.int p0]) (rest := []) hx hb hml hown hts hK hN hS hs9 (ccX7_isPiece l D C H.size a mX mT p0 r1 hc) (cwV 1 hts gX7_basket_X7_isPiece rfl rfl rfl (by decide +kernel) ⟨(Nat.le_of_ble_eq_true rfl), (Nat.le_of_ble_eq_true rfl)⟩) (va_recv hK hP (ci := 7) (q0 := 0) rfl rfl) rfl hl.1 rfl (Nat.le_of_ble_eq_true rfl) dX7_basket_2 ⟨Nat.zero_le _, Nat.zero_le _⟩) (fun H locs hP hD hS => ?_)
  refine lv_if_ne (tgt := 10) hx hb dX7_basket_5 (by decide) (fun hc => ?_) (fun hc => ?_)
  · have hf := kv_f hc hf
    refine lv_aload_n hx hb dX7_basket_10 rfl (lv_at hl 0 rfl) ?_
    refine va_get (D := D) (ci := 7) (v := .ref (a 4 0)) (C := RX7) (T := TX7) (N := 10) hx hb hts iX7 hown hK hP 0 rfl rfl 2 (by decide) q0 (fun _ h9 => h9) rfl dX7_basket_11 ?_
    refine va_get (D := D) (ci := 3) (v := .ref (a 4 3)) (C := RX3) (T := TX3) (N := 7) hx hb hts iX3 hown hK hP 10 rfl rfl 5 (by decide) q1 (fun _ h9 => h9) rfl dX7_basket_14 ?_
    refine lv_iload_n hx hb dX7_basket_17 rfl (lv_at hl 1 rfl) ?_
    obtain ⟨h9, hf⟩ := kv_ix_e hf
    refine va_iald hx hb hK hP 13 1 rfl rfl h9 dX7_basket_18 ?_
    refine lv_bipush (v := 9) hx hb dX7_basket_19 (by decide) ?_
    refine lv_icmp_ne (tgt := 27) hx hb dX7_basket_21 (by decide) (fun hc => ?_) (fun hc => ?_)
    · have hf := kv_f hc hf
      refine lv_aload_n hx hb dX7_basket_27 rfl (lv_at hl 0 rfl) ?_
      refine va_get (D := D) (ci := 7) (v := .ref (a 4 0)) (C := RX7) (T := TX7) (N := 10) hx hb hts iX7 hown hK hP 0 rfl rfl 2 (by decide) q0 (fun _ h9 => h9) rfl dX7_basket_28 ?_
      refine va_get (D := D) (ci := 3) (v := .ref (a 4 3)) (C := RX3) (T := TX3) (N := 7) hx hb hts iX3 hown hK hP 10 rfl rfl 5 (by decide) q1 (fun _ h9 => h9) rfl dX7_basket_31 ?_
      refine lv_iload_n hx hb dX7_basket_34 rfl (lv_at hl 1 rfl) ?_
      refine lv_bipush (v := 9) hx hb dX7_basket_35 (by decide) ?_
      obtain ⟨h9, hf⟩ := kv_ix_e hf
      obtain ⟨mP2, emP2, hf⟩ := kv_lt_e hf
      refine va_iast hx hb hK hP hD hS 13 1 rfl rfl h9 dX7_basket_37 (fun H locs hP hD hS => ?_)
      have hP : va_P D vwCl (w_FR C a mX ++ (w_Told C (a 3) mT ++ w_Mom C (a 3) (a 4) mP2)) H := by rw [emP2]; exact hP
      have hD : va_D A (w_FR C a mX ++ (w_Told C (a 3) mT ++ w_Mom C (a 3) (a 4) mP2)) := by rw [emP2]; exact hD
      refine lv_iconst (v := 1) hx hb dX7_basket_38 (by decide) ?_
      exact hret _ _ _ _ _ _ hf rfl hP hD hS dX7_basket_39
    · have hf := kv_t hc hf
      refine lv_bipush (v := (-2)) hx hb dX7_basket_24 (by decide) ?_
      exact hret _ _ _ _ _ _ hf rfl hP hD hS dX7_basket_26
  · have hf := kv_t hc hf
    refine lv_iconst (v := (-1)) hx hb dX7_basket_8 (by decide) ?_
    exact hret _ _ _ _ _ _ hf rfl hP hD hS dX7_basket_9
abbrev rX7_better : Room := { frames := 0, cells := 0, slots := 0, locals := 0 }
set_option maxHeartbeats 4000000 in
set_option maxRecDepth 100000 in
theorem ccX7_better (l : Launch) (D : va_G) (C : Nat → ClassId) (sz : Nat) (a : Nat → Nat → Nat) (mX : Mm) (mD : Mm) (rr : Int32) (hf : ffX7_better mX mD = some (rr)) : Met l yX7_better wsX7_better rX7_better (va_Pc [.ref (a 0 0)] (vv_pre D C (w_FR C a mX ++ w_Dy C (a 10) mD) sz)) (vv_QI D C (w_FR C a mX ++ w_Dy C (a 10) mD) (w_FR C a mX ++ w_Dy C (a 10) mD) sz rr) 0 0 (va_A (w_FR C a mX ++ w_Dy C (a 10) mD) sz) := by
  unfold ffX7_better at hf
  refine vv_metI (cc := cX7_better) (maxL := 1) (ty := .int) (by decide) rfl (Nat.le_of_ble_eq_true rfl) ?_
  intro p e s m args below meth c A Q H locs ls hx hb hml hown hts hA hK hN hP hD hS hl hret
  have hown : s.vm.findClass RX7 = some m.cls := hown
  have hl : lv_has ls 1 [(0, .ref (a 0 0))] := hl
  have hret : ∀ (v0 : Int32) (H : Heap) (locs : List Loc) (ls : Array Slot) (pc : Nat), some (v0) = some (rr) → narrow .int (.int v0) = .int v0 → va_P D vwCl (w_FR C a mX ++ w_Dy C (a 10) mD) H → va_D A (w_FR C a mX ++ w_Dy C (a 10) mD) → va_S A s.heap H locs → decode cX7_better pc = .ok (.ireturn, 1) → W p l e rX7_better s m args below meth c H locs 0 0 Q (F0 m pc ls [.int v0]) := by
    intro v0 H locs ls pc h0 hn h1 h2 h3 h4
    cases h0
    exact hret H locs ls pc hn h1 h2 h3 h4
  have q0 := hts (.fieldLink RX7 64 "ForeRain" "days" "LForeRain$Days;") (by decide +kernel)
  have q1 := hts (.fieldLink RX7 218 "ForeRain$Days" "number" "I") (by decide +kernel)
  have q2 := hts (.fieldLink RX7 225 "ForeRain$Days" "rights" "[I") (by decide +kernel)
  have iX7 : ∀ w ∈ u_ws RX7 TX7 10, w ∈ wsX7_better := by decide +kernel
  have iX0 : ∀ w ∈ u_ws RX0 TX0 4, w ∈ wsX7_better := by decide +kernel
  refine lv_aload_n hx hb dX7_better_0 rfl (lv_at hl 0 rfl) ?_
  refine va_get (D := D) (ci := 7) (v := .ref (a 10 0)) (C := RX7) (T := TX7) (N := 10) hx hb hts iX7 hown hK hP 0 rfl rfl 8 (by decide) q0 (fun _ h9 => h9) rfl dX7_better_1 ?_
  refine va_get (D := D) (ci := 0) (v := .int (mD 0 0)) (C := RX0) (T := TX0) (N := 4) hx hb hts iX0 hown hK hP 3 rfl rfl 0 (by decide) q1 (fun _ h9 => h9) rfl dX7_better_4 ?_
  refine lv_if_ne (tgt := 13) hx hb dX7_better_7 (by decide) (fun hc => ?_) (fun hc => ?_)
  · have hf := kv_f hc hf
    refine lv_aload_n hx hb dX7_better_13 rfl (lv_at hl 0 rfl) ?_
    refine va_get (D := D) (ci := 7) (v := .ref (a 10 0)) (C := RX7) (T := TX7) (N := 10) hx hb hts iX7 hown hK hP 0 rfl rfl 8 (by decide) q0 (fun _ h9 => h9) rfl dX7_better_14 ?_
    refine va_get (D := D) (ci := 0) (v := .ref (a 10 1)) (C := RX0) (T := TX0) (N := 4) hx hb hts iX0 hown hK hP 3 rfl rfl 1 (by decide) q2 (fun _ h9 => h9) rfl dX7_better_17 ?_
    refine lv_iconst (v := 1) hx hb dX7_better_20 (by decide) ?_
    obtain ⟨h9, hf⟩ := kv_ix_e hf
    refine va_iald hx hb hK hP 4 1 rfl rfl h9 dX7_better_21 ?_
    refine lv_aload_n hx hb dX7_better_22 rfl (lv_at hl 0 rfl) ?_
    refine va_get (D := D) (ci := 7) (v := .ref (a 10 0)) (C := RX7) (T := TX7) (N := 10) hx hb hts iX7 hown hK hP 0 rfl rfl 8 (by decide) q0 (fun _ h9 => h9) rfl dX7_better_23 ?_
    refine va_get (D := D) (ci := 0) (v := .ref (a 10 1)) (C := RX0) (T := TX0) (N := 4) hx hb hts iX0 hown hK hP 3 rfl rfl 1 (by decide) q2 (fun _ h9 => h9) rfl dX7_better_26 ?_
    refine lv_iconst (v := 0) hx hb dX7_better_29 (by decide) ?_
    obtain ⟨h9, hf⟩ := kv_ix_e hf
    refine va_iald hx hb hK hP 4 1 rfl rfl h9 dX7_better_30 ?_
    refine lv_icmp_le (tgt := 38) hx hb dX7_better_31 (by decide) (fun hc => ?_) (fun hc => ?_)
    · have hf := kv_t hc hf
      refine lv_iconst (v := 0) hx hb dX7_better_38 (by decide) ?_
      exact hret _ _ _ _ _ hf rfl hP hD hS dX7_better_39
    · have hf := kv_f hc hf
      refine lv_iconst (v := 1) hx hb dX7_better_34 (by decide) ?_
      refine lv_goto (tgt := 39) hx hb dX7_better_35 (by decide) ?_
      exact hret _ _ _ _ _ hf rfl hP hD hS dX7_better_39
  · have hf := kv_t hc hf
    refine lv_bipush (v := (-9)) hx hb dX7_better_10 (by decide) ?_
    exact hret _ _ _ _ _ hf rfl hP hD hS dX7_better_12
abbrev rX7_clear : Room := { frames := 1, cells := 0, slots := 0, locals := 21 }
set_option maxHeartbeats 4000000 in
set_option maxRecDepth 100000 in
theorem ccX7_clear (l : Launch) (D : va_G) (C : Nat → ClassId) (sz : Nat) (a : Nat → Nat → Nat) (mX : Mm) (mR : Mm) (rr : Int32) (oR : Mm) (hf : ffX7_clear mX mR = some (rr, oR)) : Met l yX7_clear wsX7_clear rX7_clear (va_Pc [.ref (a 0 0)] (vv_pre D C (w_FR C a mX ++ w_Rd C (a 2) (a 1) mR) sz)) (vv_QI D C (w_FR C a mX ++ w_Rd C (a 2) (a 1) mR) (w_FR C a mX ++ w_Rd C (a 2) (a 1) oR) sz rr) 0 0 (va_A (w_FR C a mX ++ w_Rd C (a 2) (a 1) mR) sz) := by
  unfold ffX7_clear at hf
  refine vv_metI (cc := cX7_clear) (maxL := 1) (ty := .int) (by decide) rfl (Nat.le_of_ble_eq_true rfl) ?_
  intro p e s m args below meth c A Q H locs ls hx hb hml hown hts hA hK hN hP hD hS hl hret
  have hown : s.vm.findClass RX7 = some m.cls := hown
  have hl : lv_has ls 1 [(0, .ref (a 0 0))] := hl
  have hret : ∀ (v0 : Int32) (v1 : Mm) (H : Heap) (locs : List Loc) (ls : Array Slot) (pc : Nat), some (v0, v1) = some (rr, oR) → narrow .int (.int v0) = .int v0 → va_P D vwCl (w_FR C a mX ++ w_Rd C (a 2) (a 1) v1) H → va_D A (w_FR C a mX ++ w_Rd C (a 2) (a 1) v1) → va_S A s.heap H locs → decode cX7_clear pc = .ok (.ireturn, 1) → W p l e rX7_clear s m args below meth c H locs 0 0 Q (F0 m pc ls [.int v0]) := by
    intro v0 v1 H locs ls pc h0 hn h1 h2 h3 h4
    cases h0
    exact hret H locs ls pc hn h1 h2 h3 h4
  have q0 := hts (.fieldLink RX7 10 "ForeRain" "reader" "LForeRain$Reader;") (by decide +kernel)
  have iX7 : ∀ w ∈ u_ws RX7 TX7 10, w ∈ wsX7_clear := by decide +kernel
  refine lv_aload_n hx hb dX7_clear_0 rfl (lv_at hl 0 rfl) ?_
  refine va_get (D := D) (ci := 7) (v := .ref (a 1 0)) (C := RX7) (T := TX7) (N := 10) hx hb hts iX7 hown hK hP 0 rfl rfl 0 (by decide) q0 (fun _ h9 => h9) rfl dX7_clear_1 ?_
  obtain ⟨r1, mR2, hc, hf⟩ := kv_b2_e hf
  have hs9 : vv_Sub D H A (w_Rd C (a 2) (a 1) mR) (w_Rd C (a 2) (a 1) mR2) (w_FR C a mX ++ w_Rd C (a 2) (a 1) mR2) := vv_Sub.part (ws := (w_FR C a mX ++ w_Rd C (a 2) (a 1) mR)) (wr := (w_FR C a mX)) [3, 4] [0, 1, 2] [0, 1, 2, 3, 4] hP hD hS hA rfl rfl (by decide) rfl
  refine vv_goi (wn := (w_FR C a mX ++ w_Rd C (a 2) (a 1) mR2)) hK hs9 hS (vv_rV (As := []) (rest := []) hx hb hml hown hts hK hN hS hs9 (ccX4_empty l D C H.size (a 1) (a 2) mR r1 mR2 hc) (cwV 0 hts gX7_clear_X4_empty rfl rfl rfl (by decide +kernel) ⟨(Nat.le_of_ble_eq_true rfl), (Nat.le_of_ble_eq_true rfl)⟩) (va_recv hK hP (ci := 4) (q0 := 3) rfl rfl) rfl hl.1 rfl (Nat.le_of_ble_eq_true rfl) dX7_clear_4 ⟨Nat.zero_le _, Nat.zero_le _⟩) (fun H locs hP hD hS => ?_)
  exact hret _ _ _ _ _ _ hf rfl hP hD hS dX7_clear_7
abbrev rX7_coins : Room := { frames := 3, cells := 0, slots := 0, locals := 128 }
set_option maxHeartbeats 4000000 in
set_option maxRecDepth 100000 in
theorem ccX7_coins (l : Launch) (D : va_G) (C : Nat → ClassId) (sz : Nat) (a : Nat → Nat → Nat) (mX : Mm) (mT : Mm) (mP : Mm) (mA : Mm) (p0 : Int32) (rr : Int32) (oA : Mm) (hf : ffX7_coins p0 mX mT mP mA = some (rr, oA)) : Met l yX7_coins wsX7_coins rX7_coins (va_Pc [.ref (a 0 0), .int p0] (vv_pre D C (w_FR C a mX ++ (w_Told C (a 3) mT ++ (w_Mom C (a 3) (a 4) mP ++ w_Mom C (a 3) (a 5) mA))) sz)) (vv_QI D C (w_FR C a mX ++ (w_Told C (a 3) mT ++ (w_Mom C (a 3) (a 4) mP ++ w_Mom C (a 3) (a 5) mA))) (w_FR C a mX ++ (w_Told C (a 3) mT ++ (w_Mom C (a 3) (a 4) mP ++ w_Mom C (a 3) (a 5) oA))) sz rr) 0 0 (va_A (w_FR C a mX ++ (w_Told C (a 3) mT ++ (w_Mom C (a 3) (a 4) mP ++ w_Mom C (a 3) (a 5) mA))) sz) := by
  unfold ffX7_coins at hf
  refine vv_metI (cc := cX7_coins) (maxL := 4) (ty := .int) (by decide) rfl (Nat.le_of_ble_eq_true rfl) ?_
  intro p e s m args below meth c A Q H locs ls hx hb hml hown hts hA hK hN hP hD hS hl hret
  have hown : s.vm.findClass RX7 = some m.cls := hown
  have hl : lv_has ls 4 [(0, .ref (a 0 0)), (1, .int p0)] := hl
  have hret : ∀ (v0 : Int32) (v1 : Mm) (H : Heap) (locs : List Loc) (ls : Array Slot) (pc : Nat), some (v0, v1) = some (rr, oA) → narrow .int (.int v0) = .int v0 → va_P D vwCl (w_FR C a mX ++ (w_Told C (a 3) mT ++ (w_Mom C (a 3) (a 4) mP ++ w_Mom C (a 3) (a 5) v1))) H → va_D A (w_FR C a mX ++ (w_Told C (a 3) mT ++ (w_Mom C (a 3) (a 4) mP ++ w_Mom C (a 3) (a 5) v1))) → va_S A s.heap H locs → decode cX7_coins pc = .ok (.ireturn, 1) → W p l e rX7_coins s m args below meth c H locs 0 0 Q (F0 m pc ls [.int v0]) := by
    intro v0 v1 H locs ls pc h0 hn h1 h2 h3 h4
    cases h0
    exact hret H locs ls pc hn h1 h2 h3 h4
  have q0 := hts (.fieldLink RX7 32 "ForeRain" "ahead" "LForeRain$Moment;") (by decide +kernel)
  have q1 := hts (.fieldLink RX7 28 "ForeRain" "present" "LForeRain$Moment;") (by decide +kernel)
  have q2 := hts (.fieldLink RX7 19 "ForeRain" "told" "LForeRain$Told;") (by decide +kernel)
  have q3 := hts (.fieldLink RX7 215 "ForeRain$Told" "pieces" "I") (by decide +kernel)
  have q4 := hts (.fieldLink RX7 107 "ForeRain$Moment" "water" "[I") (by decide +kernel)
  have iX7 : ∀ w ∈ u_ws RX7 TX7 10, w ∈ wsX7_coins := by decide +kernel
  have iX6 : ∀ w ∈ u_ws RX6 TX6 9, w ∈ wsX7_coins := by decide +kernel
  have iX3 : ∀ w ∈ u_ws RX3 TX3 7, w ∈ wsX7_coins := by decide +kernel
  refine lv_iload_n hx hb dX7_coins_0 rfl (lv_at hl 1 rfl) ?_
  refine lv_iconst (v := 0) hx hb dX7_coins_1 (by decide) ?_
  refine lv_bipush (v := 24) hx hb dX7_coins_2 (by decide) ?_
  obtain ⟨r1, hc, hf⟩ := kv_b1_e hf
  have hs9 : vv_Sub D H A ([] : va_W) ([] : va_W) (w_FR C a mX ++ (w_Told C (a 3) mT ++ (w_Mom C (a 3) (a 4) mP ++ w_Mom C (a 3) (a 5) mA))) := vv_Sub.none hP hD hS hA
  refine vv_goi (wn := (w_FR C a mX ++ (w_Told C (a 3) mT ++ (w_Mom C (a 3) (a 4) mP ++ w_Mom C (a 3) (a 5) mA)))) hK hs9 hS (vv_rS (As := [.int p0, .int 0, .int 24]) (rest := []) hx hb hml hown hts hK hN hS hs9 (ccX7_within l D C H.size p0 (0 : Int32) (24 : Int32) r1 hc) (va_cwS 3 hts gX7_coins_X7_within rfl rfl rfl (by decide +kernel) ⟨(Nat.le_of_ble_eq_true rfl), (Nat.le_of_ble_eq_true rfl)⟩) rfl hl.1 rfl (Nat.le_of_ble_eq_true rfl) dX7_coins_4 ⟨Nat.zero_le _, Nat.zero_le _⟩) (fun H locs hP hD hS => ?_)
  refine lv_if_ne (tgt := 12) hx hb dX7_coins_7 (by decide) (fun hc => ?_) (fun hc => ?_)
  · have hf := kv_f hc hf
    refine lv_aload_n hx hb dX7_coins_12 rfl (lv_at hl 0 rfl) ?_
    refine va_get (D := D) (ci := 7) (v := .ref (a 5 0)) (C := RX7) (T := TX7) (N := 10) hx hb hts iX7 hown hK hP 0 rfl rfl 3 (by decide) q0 (fun _ h9 => h9) rfl dX7_coins_13 ?_
    refine lv_aload_n hx hb dX7_coins_16 rfl (lv_at hl 0 rfl) ?_
    refine va_get (D := D) (ci := 7) (v := .ref (a 4 0)) (C := RX7) (T := TX7) (N := 10) hx hb hts iX7 hown hK hP 0 rfl rfl 2 (by decide) q1 (fun _ h9 => h9) rfl dX7_coins_17 ?_
    obtain ⟨mA2, hc, hf⟩ := kv_b1_e hf
    have hs9 : vv_Sub D H A (w_Told C (a 3) mT ++ (w_Mom C (a 3) (a 5) mA ++ w_Mom C (a 3) (a 4) mP)) (w_Told C (a 3) mT ++ (w_Mom C (a 3) (a 5) mA2 ++ w_Mom C (a 3) (a 4) mP)) (w_FR C a mX ++ (w_Told C (a 3) mT ++ (w_Mom C (a 3) (a 4) mP ++ w_Mom C (a 3) (a 5) mA2))) := vv_Sub.part (ws := (w_FR C a mX ++ (w_Told C (a 3) mT ++ (w_Mom C (a 3) (a 4) mP ++ w_Mom C (a 3) (a 5) mA)))) (wr := (w_FR C a mX)) [3, 4, 5, 6, 7, 8, 9, 15, 16, 17, 18, 19, 10, 11, 12, 13, 14] [0, 1, 2] [0, 1, 2, 3, 4, 5, 6, 7, 8, 9, 15, 16, 17, 18, 19, 10, 11, 12, 13, 14] hP hD hS hA rfl rfl (by decide) rfl
    refine vv_gov (wn := (w_FR C a mX ++ (w_Told C (a 3) mT ++ (w_Mom C (a 3) (a 4) mP ++ w_Mom C (a 3) (a 5) mA2)))) hK hs9 hS (vv_rV (As := [.ref (a 4 0)]) (rest := []) hx hb hml hown hts hK hN hS hs9 (ccX3_copy l D C H.size (a 3) (a 5) (a 4) mT mA mP mA2 hc) (cwV 1 hts gX7_coins_X3_copy rfl rfl rfl (by decide +kernel) ⟨(Nat.le_of_ble_eq_true rfl), (Nat.le_of_ble_eq_true rfl)⟩) (va_recv hK hP (ci := 3) (q0 := 15) rfl rfl) rfl hl.1 rfl (Nat.le_of_ble_eq_true rfl) dX7_coins_20 ⟨Nat.zero_le _, Nat.zero_le _⟩) (fun H locs hP hD hS => ?_)
    refine lv_iconst (v := 0) hx hb dX7_coins_23 (by decide) ?_
    refine lv_istore_n (lv' := [(2, .int 0), (0, .ref (a 0 0)), (1, .int p0)]) hx hb dX7_coins_24 rfl hl (by decide) rfl (fun ls hl => ?_)
    have L25 : ∀ (K25 : Int32 → Mm → Option (Int32 × Mm)), (∀ (x3 : Int32) (mA4 : Mm) (H : Heap) (locs : List Loc) (ls : Array Slot), va_P D vwCl (w_FR C a mX ++ (w_Told C (a 3) mT ++ (w_Mom C (a 3) (a 4) mP ++ w_Mom C (a 3) (a 5) mA4))) H → va_D A (w_FR C a mX ++ (w_Told C (a 3) mT ++ (w_Mom C (a 3) (a 4) mP ++ w_Mom C (a 3) (a 5) mA4))) → va_S A s.heap H locs → lv_has ls 4 [(2, .int x3), (0, .ref (a 0 0)), (1, .int p0)] → K25 x3 mA4 = some (rr, oA) → W p l e rX7_coins s m args below meth c H locs 0 0 Q (F0 m 44 ls [])) → ∀ (n : Nat) (x3 : Int32) (mA4 : Mm) (H : Heap) (locs : List Loc) (ls : Array Slot), va_P D vwCl (w_FR C a mX ++ (w_Told C (a 3) mT ++ (w_Mom C (a 3) (a 4) mP ++ w_Mom C (a 3) (a 5) mA4))) H → va_D A (w_FR C a mX ++ (w_Told C (a 3) mT ++ (w_Mom C (a 3) (a 4) mP ++ w_Mom C (a 3) (a 5) mA4))) → va_S A s.heap H locs → lv_has ls 4 [(2, .int x3), (0, .ref (a 0 0)), (1, .int p0)] → ffX7_coins_L25 p0 mT K25 n x3 mA4 = some (rr, oA) → W p l e rX7_coins s m args below meth c H locs 0 0 Q (F0 m 25 ls []) := by
      intro K25 hK9 n
      induction n with
      | zero => intro x3 mA4 H locs ls hP hD hS hl hf; exact kv_no hf
      | succ n ih =>
        intro x3 mA4 H locs ls hP hD hS hl hf
        rw [ffX7_coins_L25_s] at hf
        refine lv_iload_n hx hb dX7_coins_25 rfl (lv_at hl 0 rfl) ?_
        refine lv_iload_n hx hb dX7_coins_26 rfl (lv_at hl 2 rfl) ?_
        refine lv_icmp_ge (tgt := 44) hx hb dX7_coins_27 (by decide) (fun hc => ?_) (fun hc => ?_)
        · have hf := kv_t hc hf
          exact hK9 _ _ _ _ _ hP hD hS (lv_sub hl [0, 1, 2] rfl) hf
        · have hf := kv_f hc hf
          refine lv_aload_n hx hb dX7_coins_30 rfl (lv_at hl 1 rfl) ?_
          refine va_get (D := D) (ci := 7) (v := .ref (a 5 0)) (C := RX7) (T := TX7) (N := 10) hx hb hts iX7 hown hK hP 0 rfl rfl 3 (by decide) q0 (fun _ h9 => h9) rfl dX7_coins_31 ?_
          obtain ⟨r5, mA6, hc, hf⟩ := kv_b2_e hf
          have hs9 : vv_Sub D H A (w_Told C (a 3) mT ++ w_Mom C (a 3) (a 5) mA4) (w_Told C (a 3) mT ++ w_Mom C (a 3) (a 5) mA6) (w_FR C a mX ++ (w_Told C (a 3) mT ++ (w_Mom C (a 3) (a 4) mP ++ w_Mom C (a 3) (a 5) mA6))) := vv_Sub.part (ws := (w_FR C a mX ++ (w_Told C (a 3) mT ++ (w_Mom C (a 3) (a 4) mP ++ w_Mom C (a 3) (a 5) mA4)))) (wr := (w_FR C a mX ++ w_Mom C (a 3) (a 4) mP)) [3, 4, 5, 6, 7, 8, 9, 15, 16, 17, 18, 19] [0, 1, 2, 10, 11, 12, 13, 14] [0, 1, 2, 8, 9, 10, 11, 12, 13, 14, 3, 4, 5, 6, 7, 15, 16, 17, 18, 19] hP hD hS hA rfl rfl (by decide) rfl
          refine vv_goi (wn := (w_FR C a mX ++ (w_Told C (a 3) mT ++ (w_Mom C (a 3) (a 4) mP ++ w_Mom C (a 3) (a 5) mA6)))) hK hs9 hS (vv_rV (As := []) (rest := []) hx hb hml hown hts hK hN hS hs9 (ccX3_pass l D C H.size (a 3) (a 5) mT mA4 r5 mA6 hc) (cwV 0 hts gX7_coins_X3_pass rfl rfl rfl (by decide +kernel) ⟨(Nat.le_of_ble_eq_true rfl), (Nat.le_of_ble_eq_true rfl)⟩) (va_recv hK hP (ci := 3) (q0 := 15) rfl rfl) rfl hl.1 rfl (Nat.le_of_ble_eq_true rfl) dX7_coins_34 ⟨Nat.zero_le _, Nat.zero_le _⟩) (fun H locs hP hD hS => ?_)
          refine lv_pop hx hb dX7_coins_37 rfl ?_
          obtain ⟨x7, ex7, hf⟩ := kv_lt_e hf
          refine lv_iinc (v := x7) (lv' := [(2, .int x7), (0, .ref (a 0 0)), (1, .int p0)]) hx hb dX7_coins_38 hl (k := 0) rfl (by rw [ex7]; rfl) (by decide) rfl (fun ls hl => ?_)
          refine lv_goto (tgt := 25) hx hb dX7_coins_41 (by decide) ?_
          exact ih _ _ _ _ _ hP hD hS (lv_sub hl [0, 1, 2] rfl) hf
    refine L25 _ (fun x8 mA9 H locs ls hP hD hS hl hf => ?_) _ _ _ _ _ _ hP hD hS (lv_sub hl [0, 1, 2] rfl) hf
    refine lv_iconst (v := 0) hx hb dX7_coins_44 (by decide) ?_
    refine lv_istore_n (lv' := [(2, .int 0), (0, .ref (a 0 0)), (1, .int p0)]) hx hb dX7_coins_45 rfl hl (by decide) rfl (fun ls hl => ?_)
    refine lv_iconst (v := 0) hx hb dX7_coins_46 (by decide) ?_
    refine lv_istore_n (lv' := [(3, .int 0), (2, .int 0), (0, .ref (a 0 0)), (1, .int p0)]) hx hb dX7_coins_47 rfl hl (by decide) rfl (fun ls hl => ?_)
    have L48 : ∀ (K48 : Int32 → Int32 → Option (Int32 × Mm)), (∀ (x10 : Int32) (x11 : Int32) (H : Heap) (locs : List Loc) (ls : Array Slot), va_P D vwCl (w_FR C a mX ++ (w_Told C (a 3) mT ++ (w_Mom C (a 3) (a 4) mP ++ w_Mom C (a 3) (a 5) mA9))) H → va_D A (w_FR C a mX ++ (w_Told C (a 3) mT ++ (w_Mom C (a 3) (a 4) mP ++ w_Mom C (a 3) (a 5) mA9))) → va_S A s.heap H locs → lv_has ls 4 [(3, .int x10), (2, .int x11), (0, .ref (a 0 0))] → K48 x10 x11 = some (rr, oA) → W p l e rX7_coins s m args below meth c H locs 0 0 Q (F0 m 85 ls [])) → ∀ (n : Nat) (x10 : Int32) (x11 : Int32) (H : Heap) (locs : List Loc) (ls : Array Slot), va_P D vwCl (w_FR C a mX ++ (w_Told C (a 3) mT ++ (w_Mom C (a 3) (a 4) mP ++ w_Mom C (a 3) (a 5) mA9))) H → va_D A (w_FR C a mX ++ (w_Told C (a 3) mT ++ (w_Mom C (a 3) (a 4) mP ++ w_Mom C (a 3) (a 5) mA9))) → va_S A s.heap H locs → lv_has ls 4 [(3, .int x10), (2, .int x11), (0, .ref (a 0 0))] → ffX7_coins_L48 mT mA9 K48 n x10 x11 = some (rr, oA) → W p l e rX7_coins s m args below meth c H locs 0 0 Q (F0 m 48 ls []) := by
      intro K48 hK9 n
      induction n with
      | zero => intro x10 x11 H locs ls hP hD hS hl hf; exact kv_no hf
      | succ n ih =>
        intro x10 x11 H locs ls hP hD hS hl hf
        rw [ffX7_coins_L48_s] at hf
        refine lv_iload_n hx hb dX7_coins_48 rfl (lv_at hl 0 rfl) ?_
        refine lv_aload_n hx hb dX7_coins_49 rfl (lv_at hl 2 rfl) ?_
        refine va_get (D := D) (ci := 7) (v := .ref (a 3 0)) (C := RX7) (T := TX7) (N := 10) hx hb hts iX7 hown hK hP 0 rfl rfl 1 (by decide) q2 (fun _ h9 => h9) rfl dX7_coins_50 ?_
        refine va_get (D := D) (ci := 6) (v := .int (mT 0 0)) (C := RX6) (T := TX6) (N := 9) hx hb hts iX6 hown hK hP 3 rfl rfl 0 (by decide) q3 (fun _ h9 => h9) rfl dX7_coins_53 ?_
        refine lv_icmp_ge (tgt := 85) hx hb dX7_coins_56 (by decide) (fun hc => ?_) (fun hc => ?_)
        · have hf := kv_t hc hf
          exact hK9 _ _ _ _ _ hP hD hS (lv_sub hl [0, 1, 2] rfl) hf
        · have hf := kv_f hc hf
          refine lv_iload_n hx hb dX7_coins_59 rfl (lv_at hl 1 rfl) ?_
          refine lv_aload_n hx hb dX7_coins_60 rfl (lv_at hl 2 rfl) ?_
          refine va_get (D := D) (ci := 7) (v := .ref (a 5 0)) (C := RX7) (T := TX7) (N := 10) hx hb hts iX7 hown hK hP 0 rfl rfl 3 (by decide) q0 (fun _ h9 => h9) rfl dX7_coins_61 ?_
          refine va_get (D := D) (ci := 3) (v := .ref (a 5 1)) (C := RX3) (T := TX3) (N := 7) hx hb hts iX3 hown hK hP 15 rfl rfl 3 (by decide) q4 (fun _ h9 => h9) rfl dX7_coins_64 ?_
          refine lv_iload_n hx hb dX7_coins_67 rfl (lv_at hl 0 rfl) ?_
          obtain ⟨h9, hf⟩ := kv_ix_e hf
          refine va_iald hx hb hK hP 16 1 rfl rfl h9 dX7_coins_68 ?_
          refine lv_bipush (v := 20) hx hb dX7_coins_69 (by decide) ?_
          refine lv_iadd hx hb dX7_coins_71 ?_
          refine lv_iconst (v := 1) hx hb dX7_coins_72 (by decide) ?_
          refine lv_isub hx hb dX7_coins_73 ?_
          refine lv_bipush (v := 20) hx hb dX7_coins_74 (by decide) ?_
          refine lv_idiv hx hb dX7_coins_76 (by decide) ?_
          refine lv_iadd hx hb dX7_coins_77 ?_
          obtain ⟨x12, ex12, hf⟩ := kv_lt_e hf
          refine vv_nami ex12 ?_
          refine lv_istore_n (lv' := [(2, .int x12), (3, .int x10), (0, .ref (a 0 0))]) hx hb dX7_coins_78 rfl hl (by decide) rfl (fun ls hl => ?_)
          obtain ⟨x13, ex13, hf⟩ := kv_lt_e hf
          refine lv_iinc (v := x13) (lv' := [(3, .int x13), (2, .int x12), (0, .ref (a 0 0))]) hx hb dX7_coins_79 hl (k := 1) rfl (by rw [ex13]; rfl) (by decide) rfl (fun ls hl => ?_)
          refine lv_goto (tgt := 48) hx hb dX7_coins_82 (by decide) ?_
          exact ih _ _ _ _ _ hP hD hS (lv_sub hl [0, 1, 2] rfl) hf
    refine L48 _ (fun x14 x15 H locs ls hP hD hS hl hf => ?_) _ _ _ _ _ _ hP hD hS (lv_sub hl [0, 1, 2] rfl) hf
    refine lv_iload_n hx hb dX7_coins_85 rfl (lv_at hl 1 rfl) ?_
    exact hret _ _ _ _ _ _ hf rfl hP hD hS dX7_coins_86
  · have hf := kv_t hc hf
    refine lv_iconst (v := (-1)) hx hb dX7_coins_10 (by decide) ?_
    exact hret _ _ _ _ _ _ hf rfl hP hD hS dX7_coins_11
abbrev rX7_commonDivisor : Room := { frames := 0, cells := 0, slots := 0, locals := 0 }
set_option maxHeartbeats 4000000 in
set_option maxRecDepth 100000 in
theorem ccX7_commonDivisor (l : Launch) (D : va_G) (C : Nat → ClassId) (sz : Nat) (p0 : Int32) (p1 : Int32) (rr : Int32) (hf : ffX7_commonDivisor p0 p1 = some (rr)) : Met l yX7_commonDivisor wsX7_commonDivisor rX7_commonDivisor (va_Pc [.int p0, .int p1] (vv_pre D C ([] : va_W) sz)) (vv_QI D C ([] : va_W) ([] : va_W) sz rr) 0 0 (va_A ([] : va_W) sz) := by
  unfold ffX7_commonDivisor at hf
  refine vv_metI (cc := cX7_commonDivisor) (maxL := 3) (ty := .int) (by decide) rfl (Nat.le_of_ble_eq_true rfl) ?_
  intro p e s m args below meth c A Q H locs ls hx hb hml hown hts hA hK hN hP hD hS hl hret
  have hown : s.vm.findClass RX7 = some m.cls := hown
  have hl : lv_has ls 3 [(0, .int p0), (1, .int p1)] := hl
  have hret : ∀ (v0 : Int32) (H : Heap) (locs : List Loc) (ls : Array Slot) (pc : Nat), some (v0) = some (rr) → narrow .int (.int v0) = .int v0 → va_P D vwCl ([] : va_W) H → va_D A ([] : va_W) → va_S A s.heap H locs → decode cX7_commonDivisor pc = .ok (.ireturn, 1) → W p l e rX7_commonDivisor s m args below meth c H locs 0 0 Q (F0 m pc ls [.int v0]) := by
    intro v0 H locs ls pc h0 hn h1 h2 h3 h4
    cases h0
    exact hret H locs ls pc hn h1 h2 h3 h4
  refine lv_iload_n hx hb dX7_commonDivisor_0 rfl (lv_at hl 1 rfl) ?_
  refine lv_istore_n (lv' := [(2, .int p1), (0, .int p0), (1, .int p1)]) hx hb dX7_commonDivisor_1 rfl hl (by decide) rfl (fun ls hl => ?_)
  have L2 : ∀ (K2 : Int32 → Option (Int32)), (∀ (x1 : Int32) (H : Heap) (locs : List Loc) (ls : Array Slot), va_P D vwCl ([] : va_W) H → va_D A ([] : va_W) → va_S A s.heap H locs → lv_has ls 3 [(2, .int x1), (0, .int p0), (1, .int p1)] → K2 x1 = some (rr) → W p l e rX7_commonDivisor s m args below meth c H locs 0 0 Q (F0 m 27 ls [])) → ∀ (n : Nat) (x1 : Int32) (H : Heap) (locs : List Loc) (ls : Array Slot), va_P D vwCl ([] : va_W) H → va_D A ([] : va_W) → va_S A s.heap H locs → lv_has ls 3 [(2, .int x1), (0, .int p0), (1, .int p1)] → ffX7_commonDivisor_L2 p0 p1 K2 n x1 = some (rr) → W p l e rX7_commonDivisor s m args below meth c H locs 0 0 Q (F0 m 2 ls []) := by
    intro K2 hK9 n
    induction n with
    | zero => intro x1 H locs ls hP hD hS hl hf; exact kv_no hf
    | succ n ih =>
      intro x1 H locs ls hP hD hS hl hf
      rw [ffX7_commonDivisor_L2_s] at hf
      refine lv_iload_n hx hb dX7_commonDivisor_2 rfl (lv_at hl 0 rfl) ?_
      refine lv_iconst (v := 1) hx hb dX7_commonDivisor_3 (by decide) ?_
      refine lv_icmp_le (tgt := 27) hx hb dX7_commonDivisor_4 (by decide) (fun hc => ?_) (fun hc => ?_)
      · have hf := kv_t hc hf
        exact hK9 _ _ _ _ hP hD hS (lv_sub hl [0, 1, 2] rfl) hf
      · have hf := kv_f hc hf
        refine lv_iload_n hx hb dX7_commonDivisor_7 rfl (lv_at hl 1 rfl) ?_
        refine lv_iload_n hx hb dX7_commonDivisor_8 rfl (lv_at hl 0 rfl) ?_
        obtain ⟨h9, hf⟩ := kv_nz_e hf
        refine lv_irem hx hb dX7_commonDivisor_9 h9 ?_
        refine lv_if_ne (tgt := 21) hx hb dX7_commonDivisor_10 (by decide) (fun hc => ?_) (fun hc => ?_)
        · have hf := kv_f hc hf
          obtain ⟨x2, ex2, hf⟩ := kv_lt_e hf
          refine lv_iinc (v := x2) (lv' := [(2, .int x2), (0, .int p0), (1, .int p1)]) hx hb dX7_commonDivisor_21 hl (k := 0) rfl (by rw [ex2]; rfl) (by decide) rfl (fun ls hl => ?_)
          refine lv_goto (tgt := 2) hx hb dX7_commonDivisor_24 (by decide) ?_
          exact ih _ _ _ _ hP hD hS (lv_sub hl [0, 1, 2] rfl) hf
        · have hf := kv_t hc hf
          refine lv_iload_n hx hb dX7_commonDivisor_13 rfl (lv_at hl 2 rfl) ?_
          refine lv_iload_n hx hb dX7_commonDivisor_14 rfl (lv_at hl 0 rfl) ?_
          obtain ⟨h9, hf⟩ := kv_nz_e hf
          refine lv_irem hx hb dX7_commonDivisor_15 h9 ?_
          refine lv_if_ne (tgt := 21) hx hb dX7_commonDivisor_16 (by decide) (fun hc => ?_) (fun hc => ?_)
          · have hf := kv_f hc hf
            obtain ⟨x3, ex3, hf⟩ := kv_lt_e hf
            refine lv_iinc (v := x3) (lv' := [(2, .int x3), (0, .int p0), (1, .int p1)]) hx hb dX7_commonDivisor_21 hl (k := 0) rfl (by rw [ex3]; rfl) (by decide) rfl (fun ls hl => ?_)
            refine lv_goto (tgt := 2) hx hb dX7_commonDivisor_24 (by decide) ?_
            exact ih _ _ _ _ hP hD hS (lv_sub hl [0, 1, 2] rfl) hf
          · have hf := kv_t hc hf
            refine lv_iload_n hx hb dX7_commonDivisor_19 rfl (lv_at hl 0 rfl) ?_
            exact hret _ _ _ _ _ hf rfl hP hD hS dX7_commonDivisor_20
  refine L2 _ (fun x4 H locs ls hP hD hS hl hf => ?_) _ _ _ _ _ hP hD hS (lv_sub hl [0, 1, 2] rfl) hf
  refine lv_iconst (v := 1) hx hb dX7_commonDivisor_27 (by decide) ?_
  exact hret _ _ _ _ _ hf rfl hP hD hS dX7_commonDivisor_28
abbrev rX7_count : Room := { frames := 1, cells := 0, slots := 0, locals := 22 }
set_option maxHeartbeats 4000000 in
set_option maxRecDepth 100000 in
theorem ccX7_count (l : Launch) (D : va_G) (C : Nat → ClassId) (sz : Nat) (a : Nat → Nat → Nat) (mX : Mm) (mR : Mm) (mT : Mm) (mP : Mm) (mD : Mm) (p0 : Int32) (rr : Int32) (hf : ffX7_count p0 mX mR mT mP mD = some (rr)) : Met l yX7_count wsX7_count rX7_count (va_Pc [.ref (a 0 0), .int p0] (vv_pre D C (w_FR C a mX ++ (w_Rd C (a 2) (a 1) mR ++ (w_Told C (a 3) mT ++ (w_Mom C (a 3) (a 4) mP ++ w_Dy C (a 10) mD)))) sz)) (vv_QI D C (w_FR C a mX ++ (w_Rd C (a 2) (a 1) mR ++ (w_Told C (a 3) mT ++ (w_Mom C (a 3) (a 4) mP ++ w_Dy C (a 10) mD)))) (w_FR C a mX ++ (w_Rd C (a 2) (a 1) mR ++ (w_Told C (a 3) mT ++ (w_Mom C (a 3) (a 4) mP ++ w_Dy C (a 10) mD)))) sz rr) 0 0 (va_A (w_FR C a mX ++ (w_Rd C (a 2) (a 1) mR ++ (w_Told C (a 3) mT ++ (w_Mom C (a 3) (a 4) mP ++ w_Dy C (a 10) mD)))) sz) := by
  unfold ffX7_count at hf
  refine vv_metI (cc := cX7_count) (maxL := 2) (ty := .int) (by decide) rfl (Nat.le_of_ble_eq_true rfl) ?_
  intro p e s m args below meth c A Q H locs ls hx hb hml hown hts hA hK hN hP hD hS hl hret
  have hown : s.vm.findClass RX7 = some m.cls := hown
  have hl : lv_has ls 2 [(0, .ref (a 0 0)), (1, .int p0)] := hl
  have hret : ∀ (v0 : Int32) (H : Heap) (locs : List Loc) (ls : Array Slot) (pc : Nat), some (v0) = some (rr) → narrow .int (.int v0) = .int v0 → va_P D vwCl (w_FR C a mX ++ (w_Rd C (a 2) (a 1) mR ++ (w_Told C (a 3) mT ++ (w_Mom C (a 3) (a 4) mP ++ w_Dy C (a 10) mD)))) H → va_D A (w_FR C a mX ++ (w_Rd C (a 2) (a 1) mR ++ (w_Told C (a 3) mT ++ (w_Mom C (a 3) (a 4) mP ++ w_Dy C (a 10) mD)))) → va_S A s.heap H locs → decode cX7_count pc = .ok (.ireturn, 1) → W p l e rX7_count s m args below meth c H locs 0 0 Q (F0 m pc ls [.int v0]) := by
    intro v0 H locs ls pc h0 hn h1 h2 h3 h4
    cases h0
    exact hret H locs ls pc hn h1 h2 h3 h4
  have q0 := hts (.fieldLink RX7 19 "ForeRain" "told" "LForeRain$Told;") (by decide +kernel)
  have q1 := hts (.fieldLink RX7 215 "ForeRain$Told" "pieces" "I") (by decide +kernel)
  have q2 := hts (.fieldLink RX7 209 "ForeRain$Told" "spots" "I") (by decide +kernel)
  have q3 := hts (.fieldLink RX7 237 "ForeRain$Told" "steps" "I") (by decide +kernel)
  have q4 := hts (.fieldLink RX7 28 "ForeRain" "present" "LForeRain$Moment;") (by decide +kernel)
  have q5 := hts (.fieldLink RX7 64 "ForeRain" "days" "LForeRain$Days;") (by decide +kernel)
  have q6 := hts (.fieldLink RX7 218 "ForeRain$Days" "number" "I") (by decide +kernel)
  have q7 := hts (.fieldLink RX7 10 "ForeRain" "reader" "LForeRain$Reader;") (by decide +kernel)
  have q8 := hts (.fieldLink RX7 83 "ForeRain$Reader" "length" "I") (by decide +kernel)
  have iX7 : ∀ w ∈ u_ws RX7 TX7 10, w ∈ wsX7_count := by decide +kernel
  have iX6 : ∀ w ∈ u_ws RX6 TX6 9, w ∈ wsX7_count := by decide +kernel
  have iX0 : ∀ w ∈ u_ws RX0 TX0 4, w ∈ wsX7_count := by decide +kernel
  have iX4 : ∀ w ∈ u_ws RX4 TX4 8, w ∈ wsX7_count := by decide +kernel
  refine lv_iload_n hx hb dX7_count_0 rfl (lv_at hl 1 rfl) ?_
  by_cases c0 : p0 = 0
  · have hf := kv_t c0 hf
    refine lv_tableIn (off := 39) (tgt := 40) hx hb dX7_count_1 (by rw [c0]; decide) (by rw [c0]; decide) (by rw [c0]; rfl) (by decide) ?_
    refine lv_aload_n hx hb dX7_count_40 rfl (lv_at hl 0 rfl) ?_
    refine va_get (D := D) (ci := 7) (v := .ref (a 3 0)) (C := RX7) (T := TX7) (N := 10) hx hb hts iX7 hown hK hP 0 rfl rfl 1 (by decide) q0 (fun _ h9 => h9) rfl dX7_count_41 ?_
    refine va_get (D := D) (ci := 6) (v := .int (mT 0 0)) (C := RX6) (T := TX6) (N := 9) hx hb hts iX6 hown hK hP 5 rfl rfl 0 (by decide) q1 (fun _ h9 => h9) rfl dX7_count_44 ?_
    exact hret _ _ _ _ _ hf rfl hP hD hS dX7_count_47
  have hf := kv_f c0 hf
  by_cases c1 : p0 = 1
  · have hf := kv_t c1 hf
    refine lv_tableIn (off := 47) (tgt := 48) hx hb dX7_count_1 (by rw [c1]; decide) (by rw [c1]; decide) (by rw [c1]; rfl) (by decide) ?_
    refine lv_aload_n hx hb dX7_count_48 rfl (lv_at hl 0 rfl) ?_
    refine va_get (D := D) (ci := 7) (v := .ref (a 3 0)) (C := RX7) (T := TX7) (N := 10) hx hb hts iX7 hown hK hP 0 rfl rfl 1 (by decide) q0 (fun _ h9 => h9) rfl dX7_count_49 ?_
    refine va_get (D := D) (ci := 6) (v := .int (mT 0 1)) (C := RX6) (T := TX6) (N := 9) hx hb hts iX6 hown hK hP 5 rfl rfl 1 (by decide) q2 (fun _ h9 => h9) rfl dX7_count_52 ?_
    exact hret _ _ _ _ _ hf rfl hP hD hS dX7_count_55
  have hf := kv_f c1 hf
  by_cases c2 : p0 = 2
  · have hf := kv_t c2 hf
    refine lv_tableIn (off := 55) (tgt := 56) hx hb dX7_count_1 (by rw [c2]; decide) (by rw [c2]; decide) (by rw [c2]; rfl) (by decide) ?_
    refine lv_aload_n hx hb dX7_count_56 rfl (lv_at hl 0 rfl) ?_
    refine va_get (D := D) (ci := 7) (v := .ref (a 3 0)) (C := RX7) (T := TX7) (N := 10) hx hb hts iX7 hown hK hP 0 rfl rfl 1 (by decide) q0 (fun _ h9 => h9) rfl dX7_count_57 ?_
    refine va_get (D := D) (ci := 6) (v := .int (mT 0 2)) (C := RX6) (T := TX6) (N := 9) hx hb hts iX6 hown hK hP 5 rfl rfl 2 (by decide) q3 (fun _ h9 => h9) rfl dX7_count_60 ?_
    exact hret _ _ _ _ _ hf rfl hP hD hS dX7_count_63
  have hf := kv_f c2 hf
  by_cases c3 : p0 = 3
  · have hf := kv_t c3 hf
    refine lv_tableIn (off := 63) (tgt := 64) hx hb dX7_count_1 (by rw [c3]; decide) (by rw [c3]; decide) (by rw [c3]; rfl) (by decide) ?_
    refine lv_aload_n hx hb dX7_count_64 rfl (lv_at hl 0 rfl) ?_
    refine va_get (D := D) (ci := 7) (v := .ref (a 4 0)) (C := RX7) (T := TX7) (N := 10) hx hb hts iX7 hown hK hP 0 rfl rfl 2 (by decide) q4 (fun _ h9 => h9) rfl dX7_count_65 ?_
    obtain ⟨r1, hc, hf⟩ := kv_b1_e hf
    have hs9 : vv_Sub D H A (w_Told C (a 3) mT ++ w_Mom C (a 3) (a 4) mP) (w_Told C (a 3) mT ++ w_Mom C (a 3) (a 4) mP) (w_FR C a mX ++ (w_Rd C (a 2) (a 1) mR ++ (w_Told C (a 3) mT ++ (w_Mom C (a 3) (a 4) mP ++ w_Dy C (a 10) mD)))) := vv_Sub.part (ws := (w_FR C a mX ++ (w_Rd C (a 2) (a 1) mR ++ (w_Told C (a 3) mT ++ (w_Mom C (a 3) (a 4) mP ++ w_Dy C (a 10) mD))))) (wr := (w_FR C a mX ++ (w_Rd C (a 2) (a 1) mR ++ w_Dy C (a 10) mD))) [5, 6, 7, 8, 9, 10, 11, 12, 13, 14, 15, 16] [0, 1, 2, 3, 4, 17, 18, 19, 20] [0, 1, 2, 3, 4, 9, 10, 11, 12, 13, 14, 15, 16, 17, 18, 19, 20, 5, 6, 7, 8] hP hD hS hA rfl rfl (by decide) rfl
    refine vv_goi (wn := (w_FR C a mX ++ (w_Rd C (a 2) (a 1) mR ++ (w_Told C (a 3) mT ++ (w_Mom C (a 3) (a 4) mP ++ w_Dy C (a 10) mD))))) hK hs9 hS (vv_rV (As := []) (rest := []) hx hb hml hown hts hK hN hS hs9 (ccX3_onRack l D C H.size (a 3) (a 4) mT mP r1 hc) (cwV 0 hts gX7_count_X3_onRack rfl rfl rfl (by decide +kernel) ⟨(Nat.le_of_ble_eq_true rfl), (Nat.le_of_ble_eq_true rfl)⟩) (va_recv hK hP (ci := 3) (q0 := 12) rfl rfl) rfl hl.1 rfl (Nat.le_of_ble_eq_true rfl) dX7_count_68 ⟨Nat.zero_le _, Nat.zero_le _⟩) (fun H locs hP hD hS => ?_)
    exact hret _ _ _ _ _ hf rfl hP hD hS dX7_count_71
  have hf := kv_f c3 hf
  by_cases c4 : p0 = 4
  · have hf := kv_t c4 hf
    refine lv_tableIn (off := 71) (tgt := 72) hx hb dX7_count_1 (by rw [c4]; decide) (by rw [c4]; decide) (by rw [c4]; rfl) (by decide) ?_
    refine lv_aload_n hx hb dX7_count_72 rfl (lv_at hl 0 rfl) ?_
    refine va_get (D := D) (ci := 7) (v := .ref (a 10 0)) (C := RX7) (T := TX7) (N := 10) hx hb hts iX7 hown hK hP 0 rfl rfl 8 (by decide) q5 (fun _ h9 => h9) rfl dX7_count_73 ?_
    refine va_get (D := D) (ci := 0) (v := .int (mD 0 0)) (C := RX0) (T := TX0) (N := 4) hx hb hts iX0 hown hK hP 17 rfl rfl 0 (by decide) q6 (fun _ h9 => h9) rfl dX7_count_76 ?_
    exact hret _ _ _ _ _ hf rfl hP hD hS dX7_count_79
  have hf := kv_f c4 hf
  by_cases c5 : p0 = 5
  · have hf := kv_t c5 hf
    refine lv_tableIn (off := 79) (tgt := 80) hx hb dX7_count_1 (by rw [c5]; decide) (by rw [c5]; decide) (by rw [c5]; rfl) (by decide) ?_
    refine lv_aload_n hx hb dX7_count_80 rfl (lv_at hl 0 rfl) ?_
    refine va_get (D := D) (ci := 7) (v := .ref (a 1 0)) (C := RX7) (T := TX7) (N := 10) hx hb hts iX7 hown hK hP 0 rfl rfl 0 (by decide) q7 (fun _ h9 => h9) rfl dX7_count_81 ?_
    refine va_get (D := D) (ci := 4) (v := .int (mR 0 2)) (C := RX4) (T := TX4) (N := 8) hx hb hts iX4 hown hK hP 3 rfl rfl 2 (by decide) q8 (fun _ h9 => h9) rfl dX7_count_84 ?_
    exact hret _ _ _ _ _ hf rfl hP hD hS dX7_count_87
  have hf := kv_f c5 hf
  refine lv_tableOut (tgt := 88) hx hb dX7_count_1 (by have a0 : p0.toInt ≠ 0 := kv_ti c0; have a1 : p0.toInt ≠ 1 := kv_ti c1; have a2 : p0.toInt ≠ 2 := kv_ti c2; have a3 : p0.toInt ≠ 3 := kv_ti c3; have a4 : p0.toInt ≠ 4 := kv_ti c4; have a5 : p0.toInt ≠ 5 := kv_ti c5; omega) (by decide) ?_
  refine lv_iconst (v := (-1)) hx hb dX7_count_88 (by decide) ?_
  exact hret _ _ _ _ _ hf rfl hP hD hS dX7_count_89
abbrev rX7_firstOrLast : Room := { frames := 3, cells := 0, slots := 0, locals := 128 }
set_option maxHeartbeats 4000000 in
set_option maxRecDepth 100000 in
theorem ccX7_firstOrLast (l : Launch) (D : va_G) (C : Nat → ClassId) (sz : Nat) (a : Nat → Nat → Nat) (mX : Mm) (mT : Mm) (mP : Mm) (mA : Mm) (p0 : Int32) (p1 : Int32) (p2 : Int32) (p3 : Int32) (rr : Int32) (oA : Mm) (hf : ffX7_firstOrLast p0 p1 p2 p3 mX mT mP mA = some (rr, oA)) : Met l yX7_firstOrLast wsX7_firstOrLast rX7_firstOrLast (va_Pc [.ref (a 0 0), .int p0, .int p1, .int p2, .int p3] (vv_pre D C (w_FR C a mX ++ (w_Told C (a 3) mT ++ (w_Mom C (a 3) (a 4) mP ++ w_Mom C (a 3) (a 5) mA))) sz)) (vv_QI D C (w_FR C a mX ++ (w_Told C (a 3) mT ++ (w_Mom C (a 3) (a 4) mP ++ w_Mom C (a 3) (a 5) mA))) (w_FR C a mX ++ (w_Told C (a 3) mT ++ (w_Mom C (a 3) (a 4) mP ++ w_Mom C (a 3) (a 5) oA))) sz rr) 0 0 (va_A (w_FR C a mX ++ (w_Told C (a 3) mT ++ (w_Mom C (a 3) (a 4) mP ++ w_Mom C (a 3) (a 5) mA))) sz) := by
  unfold ffX7_firstOrLast at hf
  refine vv_metI (cc := cX7_firstOrLast) (maxL := 7) (ty := .int) (by decide) rfl (Nat.le_of_ble_eq_true rfl) ?_
  intro p e s m args below meth c A Q H locs ls hx hb hml hown hts hA hK hN hP hD hS hl hret
  have hown : s.vm.findClass RX7 = some m.cls := hown
  have hl : lv_has ls 7 [(0, .ref (a 0 0)), (1, .int p0), (2, .int p1), (3, .int p2), (4, .int p3)] := hl
  have hret : ∀ (v0 : Int32) (v1 : Mm) (H : Heap) (locs : List Loc) (ls : Array Slot) (pc : Nat), some (v0, v1) = some (rr, oA) → narrow .int (.int v0) = .int v0 → va_P D vwCl (w_FR C a mX ++ (w_Told C (a 3) mT ++ (w_Mom C (a 3) (a 4) mP ++ w_Mom C (a 3) (a 5) v1))) H → va_D A (w_FR C a mX ++ (w_Told C (a 3) mT ++ (w_Mom C (a 3) (a 4) mP ++ w_Mom C (a 3) (a 5) v1))) → va_S A s.heap H locs → decode cX7_firstOrLast pc = .ok (.ireturn, 1) → W p l e rX7_firstOrLast s m args below meth c H locs 0 0 Q (F0 m pc ls [.int v0]) := by
    intro v0 v1 H locs ls pc h0 hn h1 h2 h3 h4
    cases h0
    exact hret H locs ls pc hn h1 h2 h3 h4
  have q0 := hts (.fieldLink RX7 32 "ForeRain" "ahead" "LForeRain$Moment;") (by decide +kernel)
  have q1 := hts (.fieldLink RX7 28 "ForeRain" "present" "LForeRain$Moment;") (by decide +kernel)
  have q2 := hts (.fieldLink RX7 107 "ForeRain$Moment" "water" "[I") (by decide +kernel)
  have iX7 : ∀ w ∈ u_ws RX7 TX7 10, w ∈ wsX7_firstOrLast := by decide +kernel
  have iX3 : ∀ w ∈ u_ws RX3 TX3 7, w ∈ wsX7_firstOrLast := by decide +kernel
  refine lv_bipush (v := (-9)) hx hb dX7_firstOrLast_0 (by decide) ?_
  refine lv_istore (lv' := [(5, .int (-9)), (0, .ref (a 0 0)), (1, .int p0), (2, .int p1), (3, .int p2), (4, .int p3)]) hx hb dX7_firstOrLast_2 hl (by decide) rfl (fun ls hl => ?_)
  refine lv_aload_n hx hb dX7_firstOrLast_4 rfl (lv_at hl 1 rfl) ?_
  refine va_get (D := D) (ci := 7) (v := .ref (a 5 0)) (C := RX7) (T := TX7) (N := 10) hx hb hts iX7 hown hK hP 0 rfl rfl 3 (by decide) q0 (fun _ h9 => h9) rfl dX7_firstOrLast_5 ?_
  refine lv_aload_n hx hb dX7_firstOrLast_8 rfl (lv_at hl 1 rfl) ?_
  refine va_get (D := D) (ci := 7) (v := .ref (a 4 0)) (C := RX7) (T := TX7) (N := 10) hx hb hts iX7 hown hK hP 0 rfl rfl 2 (by decide) q1 (fun _ h9 => h9) rfl dX7_firstOrLast_9 ?_
  obtain ⟨mA1, hc, hf⟩ := kv_b1_e hf
  have hs9 : vv_Sub D H A (w_Told C (a 3) mT ++ (w_Mom C (a 3) (a 5) mA ++ w_Mom C (a 3) (a 4) mP)) (w_Told C (a 3) mT ++ (w_Mom C (a 3) (a 5) mA1 ++ w_Mom C (a 3) (a 4) mP)) (w_FR C a mX ++ (w_Told C (a 3) mT ++ (w_Mom C (a 3) (a 4) mP ++ w_Mom C (a 3) (a 5) mA1))) := vv_Sub.part (ws := (w_FR C a mX ++ (w_Told C (a 3) mT ++ (w_Mom C (a 3) (a 4) mP ++ w_Mom C (a 3) (a 5) mA)))) (wr := (w_FR C a mX)) [3, 4, 5, 6, 7, 8, 9, 15, 16, 17, 18, 19, 10, 11, 12, 13, 14] [0, 1, 2] [0, 1, 2, 3, 4, 5, 6, 7, 8, 9, 15, 16, 17, 18, 19, 10, 11, 12, 13, 14] hP hD hS hA rfl rfl (by decide) rfl
  refine vv_gov (wn := (w_FR C a mX ++ (w_Told C (a 3) mT ++ (w_Mom C (a 3) (a 4) mP ++ w_Mom C (a 3) (a 5) mA1)))) hK hs9 hS (vv_rV (As := [.ref (a 4 0)]) (rest := []) hx hb hml hown hts hK hN hS hs9 (ccX3_copy l D C H.size (a 3) (a 5) (a 4) mT mA mP mA1 hc) (cwV 1 hts gX7_firstOrLast_X3_copy rfl rfl rfl (by decide +kernel) ⟨(Nat.le_of_ble_eq_true rfl), (Nat.le_of_ble_eq_true rfl)⟩) (va_recv hK hP (ci := 3) (q0 := 15) rfl rfl) rfl hl.1 rfl (Nat.le_of_ble_eq_true rfl) dX7_firstOrLast_12 ⟨Nat.zero_le _, Nat.zero_le _⟩) (fun H locs hP hD hS => ?_)
  refine lv_iconst (v := 0) hx hb dX7_firstOrLast_15 (by decide) ?_
  refine lv_istore (lv' := [(6, .int 0), (5, .int (-9)), (0, .ref (a 0 0)), (1, .int p0), (2, .int p1), (3, .int p2), (4, .int p3)]) hx hb dX7_firstOrLast_16 hl (by decide) rfl (fun ls hl => ?_)
  have L18 : ∀ (K18 : Int32 → Int32 → Mm → Option (Int32 × Mm)), (∀ (x2 : Int32) (x3 : Int32) (mA4 : Mm) (H : Heap) (locs : List Loc) (ls : Array Slot), va_P D vwCl (w_FR C a mX ++ (w_Told C (a 3) mT ++ (w_Mom C (a 3) (a 4) mP ++ w_Mom C (a 3) (a 5) mA4))) H → va_D A (w_FR C a mX ++ (w_Told C (a 3) mT ++ (w_Mom C (a 3) (a 4) mP ++ w_Mom C (a 3) (a 5) mA4))) → va_S A s.heap H locs → lv_has ls 7 [(6, .int x2), (5, .int x3), (0, .ref (a 0 0)), (1, .int p0), (2, .int p1), (3, .int p2), (4, .int p3)] → K18 x2 x3 mA4 = some (rr, oA) → W p l e rX7_firstOrLast s m args below meth c H locs 0 0 Q (F0 m 68 ls [])) → ∀ (n : Nat) (x2 : Int32) (x3 : Int32) (mA4 : Mm) (H : Heap) (locs : List Loc) (ls : Array Slot), va_P D vwCl (w_FR C a mX ++ (w_Told C (a 3) mT ++ (w_Mom C (a 3) (a 4) mP ++ w_Mom C (a 3) (a 5) mA4))) H → va_D A (w_FR C a mX ++ (w_Told C (a 3) mT ++ (w_Mom C (a 3) (a 4) mP ++ w_Mom C (a 3) (a 5) mA4))) → va_S A s.heap H locs → lv_has ls 7 [(6, .int x2), (5, .int x3), (0, .ref (a 0 0)), (1, .int p0), (2, .int p1), (3, .int p2), (4, .int p3)] → ffX7_firstOrLast_L18 p0 p1 p2 p3 mT K18 n x2 x3 mA4 = some (rr, oA) → W p l e rX7_firstOrLast s m args below meth c H locs 0 0 Q (F0 m 18 ls []) := by
    intro K18 hK9 n
    induction n with
    | zero => intro x2 x3 mA4 H locs ls hP hD hS hl hf; exact kv_no hf
    | succ n ih =>
      intro x2 x3 mA4 H locs ls hP hD hS hl hf
      rw [ffX7_firstOrLast_L18_s] at hf
      refine lv_iload hx hb dX7_firstOrLast_18 (lv_at hl 0 rfl) ?_
      refine lv_bipush (v := 99) hx hb dX7_firstOrLast_20 (by decide) ?_
      refine lv_icmp_gt (tgt := 68) hx hb dX7_firstOrLast_22 (by decide) (fun hc => ?_) (fun hc => ?_)
      · have hf := kv_t hc hf
        exact hK9 _ _ _ _ _ _ hP hD hS (lv_sub hl [0, 1, 2, 3, 4, 5, 6] rfl) hf
      · have hf := kv_f hc hf
        refine lv_aload_n hx hb dX7_firstOrLast_25 rfl (lv_at hl 2 rfl) ?_
        refine va_get (D := D) (ci := 7) (v := .ref (a 5 0)) (C := RX7) (T := TX7) (N := 10) hx hb hts iX7 hown hK hP 0 rfl rfl 3 (by decide) q0 (fun _ h9 => h9) rfl dX7_firstOrLast_26 ?_
        refine va_get (D := D) (ci := 3) (v := .ref (a 5 1)) (C := RX3) (T := TX3) (N := 7) hx hb hts iX3 hown hK hP 15 rfl rfl 3 (by decide) q2 (fun _ h9 => h9) rfl dX7_firstOrLast_29 ?_
        refine lv_iload_n hx hb dX7_firstOrLast_32 rfl (lv_at hl 3 rfl) ?_
        obtain ⟨h9, hf⟩ := kv_ix_e hf
        refine va_iald hx hb hK hP 16 1 rfl rfl h9 dX7_firstOrLast_33 ?_
        refine lv_iload_n hx hb dX7_firstOrLast_34 rfl (lv_at hl 4 rfl) ?_
        refine lv_iload_n hx hb dX7_firstOrLast_35 rfl (lv_at hl 5 rfl) ?_
        obtain ⟨r5, hc, hf⟩ := kv_b1_e hf
        have hs9 : vv_Sub D H A ([] : va_W) ([] : va_W) (w_FR C a mX ++ (w_Told C (a 3) mT ++ (w_Mom C (a 3) (a 4) mP ++ w_Mom C (a 3) (a 5) mA4))) := vv_Sub.none hP hD hS hA
        refine vv_goi (wn := (w_FR C a mX ++ (w_Told C (a 3) mT ++ (w_Mom C (a 3) (a 4) mP ++ w_Mom C (a 3) (a 5) mA4)))) hK hs9 hS (vv_rS (As := [.int (mA4 1 p0.toNatClampNeg), .int p1, .int p2]) (rest := []) hx hb hml hown hts hK hN hS hs9 (ccX7_within l D C H.size (mA4 1 p0.toNatClampNeg) p1 p2 r5 hc) (va_cwS 3 hts gX7_firstOrLast_X7_within rfl rfl rfl (by decide +kernel) ⟨(Nat.le_of_ble_eq_true rfl), (Nat.le_of_ble_eq_true rfl)⟩) rfl hl.1 rfl (Nat.le_of_ble_eq_true rfl) dX7_firstOrLast_36 ⟨Nat.zero_le _, Nat.zero_le _⟩) (fun H locs hP hD hS => ?_)
        obtain ⟨k54_6, ek54_6, hf⟩ := kv_lt_e hf
        have J54_6 : ∀ (x7 : Int32) (H : Heap) (locs : List Loc) (ls : Array Slot), va_P D vwCl (w_FR C a mX ++ (w_Told C (a 3) mT ++ (w_Mom C (a 3) (a 4) mP ++ w_Mom C (a 3) (a 5) mA4))) H → va_D A (w_FR C a mX ++ (w_Told C (a 3) mT ++ (w_Mom C (a 3) (a 4) mP ++ w_Mom C (a 3) (a 5) mA4))) → va_S A s.heap H locs → lv_has ls 7 [(6, .int x2), (5, .int x7), (0, .ref (a 0 0)), (1, .int p0), (2, .int p1), (3, .int p2), (4, .int p3)] → k54_6 x7 = some (rr, oA) → W p l e rX7_firstOrLast s m args below meth c H locs 0 0 Q (F0 m 54 ls []) := by
          intro x7 H locs ls hP hD hS hl hf
          rw [ek54_6] at hf
          refine lv_aload_n hx hb dX7_firstOrLast_54 rfl (lv_at hl 2 rfl) ?_
          refine va_get (D := D) (ci := 7) (v := .ref (a 5 0)) (C := RX7) (T := TX7) (N := 10) hx hb hts iX7 hown hK hP 0 rfl rfl 3 (by decide) q0 (fun _ h9 => h9) rfl dX7_firstOrLast_55 ?_
          obtain ⟨r8, mA9, hc, hf⟩ := kv_b2_e hf
          have hs9 : vv_Sub D H A (w_Told C (a 3) mT ++ w_Mom C (a 3) (a 5) mA4) (w_Told C (a 3) mT ++ w_Mom C (a 3) (a 5) mA9) (w_FR C a mX ++ (w_Told C (a 3) mT ++ (w_Mom C (a 3) (a 4) mP ++ w_Mom C (a 3) (a 5) mA9))) := vv_Sub.part (ws := (w_FR C a mX ++ (w_Told C (a 3) mT ++ (w_Mom C (a 3) (a 4) mP ++ w_Mom C (a 3) (a 5) mA4)))) (wr := (w_FR C a mX ++ w_Mom C (a 3) (a 4) mP)) [3, 4, 5, 6, 7, 8, 9, 15, 16, 17, 18, 19] [0, 1, 2, 10, 11, 12, 13, 14] [0, 1, 2, 8, 9, 10, 11, 12, 13, 14, 3, 4, 5, 6, 7, 15, 16, 17, 18, 19] hP hD hS hA rfl rfl (by decide) rfl
          refine vv_goi (wn := (w_FR C a mX ++ (w_Told C (a 3) mT ++ (w_Mom C (a 3) (a 4) mP ++ w_Mom C (a 3) (a 5) mA9)))) hK hs9 hS (vv_rV (As := []) (rest := []) hx hb hml hown hts hK hN hS hs9 (ccX3_pass l D C H.size (a 3) (a 5) mT mA4 r8 mA9 hc) (cwV 0 hts gX7_firstOrLast_X3_pass rfl rfl rfl (by decide +kernel) ⟨(Nat.le_of_ble_eq_true rfl), (Nat.le_of_ble_eq_true rfl)⟩) (va_recv hK hP (ci := 3) (q0 := 15) rfl rfl) rfl hl.1 rfl (Nat.le_of_ble_eq_true rfl) dX7_firstOrLast_58 ⟨Nat.zero_le _, Nat.zero_le _⟩) (fun H locs hP hD hS => ?_)
          refine lv_pop hx hb dX7_firstOrLast_61 rfl ?_
          obtain ⟨x10, ex10, hf⟩ := kv_lt_e hf
          refine lv_iinc (v := x10) (lv' := [(6, .int x10), (5, .int x7), (0, .ref (a 0 0)), (1, .int p0), (2, .int p1), (3, .int p2), (4, .int p3)]) hx hb dX7_firstOrLast_62 hl (k := 0) rfl (by rw [ex10]; rfl) (by decide) rfl (fun ls hl => ?_)
          refine lv_goto (tgt := 18) hx hb dX7_firstOrLast_65 (by decide) ?_
          exact ih _ _ _ _ _ _ hP hD hS (lv_sub hl [0, 1, 2, 3, 4, 5, 6] rfl) hf
        refine lv_if_eq (tgt := 54) hx hb dX7_firstOrLast_39 (by decide) (fun hc => ?_) (fun hc => ?_)
        · have hf := kv_t hc hf
          exact J54_6 _ _ _ _ hP hD hS (lv_sub hl [0, 1, 2, 3, 4, 5, 6] rfl) hf
        · have hf := kv_f hc hf
          refine lv_iload hx hb dX7_firstOrLast_42 (lv_at hl 0 rfl) ?_
          refine lv_istore (lv' := [(5, .int x2), (6, .int x2), (0, .ref (a 0 0)), (1, .int p0), (2, .int p1), (3, .int p2), (4, .int p3)]) hx hb dX7_firstOrLast_44 hl (by decide) rfl (fun ls hl => ?_)
          refine lv_iload hx hb dX7_firstOrLast_46 (lv_at hl 6 rfl) ?_
          refine lv_if_ne (tgt := 54) hx hb dX7_firstOrLast_48 (by decide) (fun hc => ?_) (fun hc => ?_)
          · have hf := kv_f hc hf
            exact J54_6 _ _ _ _ hP hD hS (lv_sub hl [1, 0, 2, 3, 4, 5, 6] rfl) hf
          · have hf := kv_t hc hf
            refine lv_goto (tgt := 68) hx hb dX7_firstOrLast_51 (by decide) ?_
            exact hK9 _ _ _ _ _ _ hP hD hS (lv_sub hl [1, 0, 2, 3, 4, 5, 6] rfl) hf
  refine L18 _ (fun x11 x12 mA13 H locs ls hP hD hS hl hf => ?_) _ _ _ _ _ _ _ hP hD hS (lv_sub hl [0, 1, 2, 3, 4, 5, 6] rfl) hf
  refine lv_iload hx hb dX7_firstOrLast_68 (lv_at hl 1 rfl) ?_
  exact hret _ _ _ _ _ _ hf rfl hP hD hS dX7_firstOrLast_70
abbrev rX7_damp : Room := { frames := 4, cells := 0, slots := 0, locals := 154 }
set_option maxHeartbeats 4000000 in
set_option maxRecDepth 100000 in
theorem ccX7_damp (l : Launch) (D : va_G) (C : Nat → ClassId) (sz : Nat) (a : Nat → Nat → Nat) (mX : Mm) (mT : Mm) (mP : Mm) (mA : Mm) (p0 : Int32) (p1 : Int32) (p2 : Int32) (p3 : Int32) (rr : Int32) (oA : Mm) (hf : ffX7_damp p0 p1 p2 p3 mX mT mP mA = some (rr, oA)) : Met l yX7_damp wsX7_damp rX7_damp (va_Pc [.ref (a 0 0), .int p0, .int p1, .int p2, .int p3] (vv_pre D C (w_FR C a mX ++ (w_Told C (a 3) mT ++ (w_Mom C (a 3) (a 4) mP ++ w_Mom C (a 3) (a 5) mA))) sz)) (vv_QI D C (w_FR C a mX ++ (w_Told C (a 3) mT ++ (w_Mom C (a 3) (a 4) mP ++ w_Mom C (a 3) (a 5) mA))) (w_FR C a mX ++ (w_Told C (a 3) mT ++ (w_Mom C (a 3) (a 4) mP ++ w_Mom C (a 3) (a 5) oA))) sz rr) 0 0 (va_A (w_FR C a mX ++ (w_Told C (a 3) mT ++ (w_Mom C (a 3) (a 4) mP ++ w_Mom C (a 3) (a 5) mA))) sz) := by
  unfold ffX7_damp at hf
  refine vv_metI (cc := cX7_damp) (maxL := 5) (ty := .int) (by decide) rfl (Nat.le_of_ble_eq_true rfl) ?_
  intro p e s m args below meth c A Q H locs ls hx hb hml hown hts hA hK hN hP hD hS hl hret
  have hown : s.vm.findClass RX7 = some m.cls := hown
  have hl : lv_has ls 5 [(0, .ref (a 0 0)), (1, .int p0), (2, .int p1), (3, .int p2), (4, .int p3)] := hl
  have hret : ∀ (v0 : Int32) (v1 : Mm) (H : Heap) (locs : List Loc) (ls : Array Slot) (pc : Nat), some (v0, v1) = some (rr, oA) → narrow .int (.int v0) = .int v0 → va_P D vwCl (w_FR C a mX ++ (w_Told C (a 3) mT ++ (w_Mom C (a 3) (a 4) mP ++ w_Mom C (a 3) (a 5) v1))) H → va_D A (w_FR C a mX ++ (w_Told C (a 3) mT ++ (w_Mom C (a 3) (a 4) mP ++ w_Mom C (a 3) (a 5) v1))) → va_S A s.heap H locs → decode cX7_damp pc = .ok (.ireturn, 1) → W p l e rX7_damp s m args below meth c H locs 0 0 Q (F0 m pc ls [.int v0]) := by
    intro v0 v1 H locs ls pc h0 hn h1 h2 h3 h4
    cases h0
    exact hret H locs ls pc hn h1 h2 h3 h4
  refine lv_aload_n hx hb dX7_damp_0 rfl (lv_at hl 0 rfl) ?_
  refine lv_iload_n hx hb dX7_damp_1 rfl (lv_at hl 1 rfl) ?_
  obtain ⟨r1, hc, hf⟩ := kv_b1_e hf
  have hs9 : vv_Sub D H A (w_FR C a mX ++ w_Told C (a 3) mT) (w_FR C a mX ++ w_Told C (a 3) mT) (w_FR C a mX ++ (w_Told C (a 3) mT ++ (w_Mom C (a 3) (a 4) mP ++ w_Mom C (a 3) (a 5) mA))) := vv_Sub.part (ws := (w_FR C a mX ++ (w_Told C (a 3) mT ++ (w_Mom C (a 3) (a 4) mP ++ w_Mom C (a 3) (a 5) mA)))) (wr := (w_Mom C (a 3) (a 4) mP ++ w_Mom C (a 3) (a 5) mA)) [0, 1, 2, 3, 4, 5, 6, 7, 8, 9] [10, 11, 12, 13, 14, 15, 16, 17, 18, 19] [10, 11, 12, 13, 14, 15, 16, 17, 18, 19, 0, 1, 2, 3, 4, 5, 6, 7, 8, 9] hP hD hS hA rfl rfl (by decide) rfl
  refine vv_goi (wn := (w_FR C a mX ++ (w_Told C (a 3) mT ++ (w_Mom C (a 3) (a 4) mP ++ w_Mom C (a 3) (a 5) mA)))) hK hs9 hS (vv_rV (As := [.int p0]) (rest := []) hx hb hml hown hts hK hN hS hs9 (ccX7_isPiece l D C H.size a mX mT p0 r1 hc) (cwV 1 hts gX7_damp_X7_isPiece rfl rfl rfl (by decide +kernel) ⟨(Nat.le_of_ble_eq_true rfl), (Nat.le_of_ble_eq_true rfl)⟩) (va_recv hK hP (ci := 7) (q0 := 0) rfl rfl) rfl hl.1 rfl (Nat.le_of_ble_eq_true rfl) dX7_damp_2 ⟨Nat.zero_le _, Nat.zero_le _⟩) (fun H locs hP hD hS => ?_)
  refine lv_if_eq (tgt := 38) hx hb dX7_damp_5 (by decide) (fun hc => ?_) (fun hc => ?_)
  · have hf := kv_t hc hf
    refine lv_iconst (v := (-1)) hx hb dX7_damp_38 (by decide) ?_
    exact hret _ _ _ _ _ _ hf rfl hP hD hS dX7_damp_39
  · have hf := kv_f hc hf
    refine lv_iload_n hx hb dX7_damp_8 rfl (lv_at hl 2 rfl) ?_
    refine lv_iconst (v := 0) hx hb dX7_damp_9 (by decide) ?_
    refine lv_bipush (v := 99) hx hb dX7_damp_10 (by decide) ?_
    obtain ⟨r2, hc, hf⟩ := kv_b1_e hf
    have hs9 : vv_Sub D H A ([] : va_W) ([] : va_W) (w_FR C a mX ++ (w_Told C (a 3) mT ++ (w_Mom C (a 3) (a 4) mP ++ w_Mom C (a 3) (a 5) mA))) := vv_Sub.none hP hD hS hA
    refine vv_goi (wn := (w_FR C a mX ++ (w_Told C (a 3) mT ++ (w_Mom C (a 3) (a 4) mP ++ w_Mom C (a 3) (a 5) mA)))) hK hs9 hS (vv_rS (As := [.int p1, .int 0, .int 99]) (rest := []) hx hb hml hown hts hK hN hS hs9 (ccX7_within l D C H.size p1 (0 : Int32) (99 : Int32) r2 hc) (va_cwS 3 hts gX7_damp_X7_within rfl rfl rfl (by decide +kernel) ⟨(Nat.le_of_ble_eq_true rfl), (Nat.le_of_ble_eq_true rfl)⟩) rfl hl.1 rfl (Nat.le_of_ble_eq_true rfl) dX7_damp_12 ⟨Nat.zero_le _, Nat.zero_le _⟩) (fun H locs hP hD hS => ?_)
    refine lv_if_eq (tgt := 38) hx hb dX7_damp_15 (by decide) (fun hc => ?_) (fun hc => ?_)
    · have hf := kv_t hc hf
      refine lv_iconst (v := (-1)) hx hb dX7_damp_38 (by decide) ?_
      exact hret _ _ _ _ _ _ hf rfl hP hD hS dX7_damp_39
    · have hf := kv_f hc hf
      refine lv_iload_n hx hb dX7_damp_18 rfl (lv_at hl 3 rfl) ?_
      refine lv_iload_n hx hb dX7_damp_19 rfl (lv_at hl 2 rfl) ?_
      refine lv_bipush (v := 99) hx hb dX7_damp_20 (by decide) ?_
      obtain ⟨r3, hc, hf⟩ := kv_b1_e hf
      have hs9 : vv_Sub D H A ([] : va_W) ([] : va_W) (w_FR C a mX ++ (w_Told C (a 3) mT ++ (w_Mom C (a 3) (a 4) mP ++ w_Mom C (a 3) (a 5) mA))) := vv_Sub.none hP hD hS hA
      refine vv_goi (wn := (w_FR C a mX ++ (w_Told C (a 3) mT ++ (w_Mom C (a 3) (a 4) mP ++ w_Mom C (a 3) (a 5) mA)))) hK hs9 hS (vv_rS (As := [.int p2, .int p1, .int 99]) (rest := []) hx hb hml hown hts hK hN hS hs9 (ccX7_within l D C H.size p2 p1 (99 : Int32) r3 hc) (va_cwS 3 hts gX7_damp_X7_within rfl rfl rfl (by decide +kernel) ⟨(Nat.le_of_ble_eq_true rfl), (Nat.le_of_ble_eq_true rfl)⟩) rfl hl.1 rfl (Nat.le_of_ble_eq_true rfl) dX7_damp_22 ⟨Nat.zero_le _, Nat.zero_le _⟩) (fun H locs hP hD hS => ?_)
      refine lv_if_eq (tgt := 38) hx hb dX7_damp_25 (by decide) (fun hc => ?_) (fun hc => ?_)
      · have hf := kv_t hc hf
        refine lv_iconst (v := (-1)) hx hb dX7_damp_38 (by decide) ?_
        exact hret _ _ _ _ _ _ hf rfl hP hD hS dX7_damp_39
      · have hf := kv_f hc hf
        refine lv_iload hx hb dX7_damp_28 (lv_at hl 4 rfl) ?_
        refine lv_iconst (v := 0) hx hb dX7_damp_30 (by decide) ?_
        refine lv_iconst (v := 1) hx hb dX7_damp_31 (by decide) ?_
        obtain ⟨r4, hc, hf⟩ := kv_b1_e hf
        have hs9 : vv_Sub D H A ([] : va_W) ([] : va_W) (w_FR C a mX ++ (w_Told C (a 3) mT ++ (w_Mom C (a 3) (a 4) mP ++ w_Mom C (a 3) (a 5) mA))) := vv_Sub.none hP hD hS hA
        refine vv_goi (wn := (w_FR C a mX ++ (w_Told C (a 3) mT ++ (w_Mom C (a 3) (a 4) mP ++ w_Mom C (a 3) (a 5) mA)))) hK hs9 hS (vv_rS (As := [.int p3, .int 0, .int 1]) (rest := []) hx hb hml hown hts hK hN hS hs9 (ccX7_within l D C H.size p3 (0 : Int32) (1 : Int32) r4 hc) (va_cwS 3 hts gX7_damp_X7_within rfl rfl rfl (by decide +kernel) ⟨(Nat.le_of_ble_eq_true rfl), (Nat.le_of_ble_eq_true rfl)⟩) rfl hl.1 rfl (Nat.le_of_ble_eq_true rfl) dX7_damp_32 ⟨Nat.zero_le _, Nat.zero_le _⟩) (fun H locs hP hD hS => ?_)
        refine lv_if_ne (tgt := 40) hx hb dX7_damp_35 (by decide) (fun hc => ?_) (fun hc => ?_)
        · have hf := kv_f hc hf
          refine lv_aload_n hx hb dX7_damp_40 rfl (lv_at hl 0 rfl) ?_
          refine lv_iload_n hx hb dX7_damp_41 rfl (lv_at hl 1 rfl) ?_
          refine lv_iload_n hx hb dX7_damp_42 rfl (lv_at hl 2 rfl) ?_
          refine lv_iload_n hx hb dX7_damp_43 rfl (lv_at hl 3 rfl) ?_
          refine lv_iload hx hb dX7_damp_44 (lv_at hl 4 rfl) ?_
          obtain ⟨r5, mA6, hc, hf⟩ := kv_b2_e hf
          have hs9 : vv_Sub D H A (w_FR C a mX ++ (w_Told C (a 3) mT ++ (w_Mom C (a 3) (a 4) mP ++ w_Mom C (a 3) (a 5) mA))) (w_FR C a mX ++ (w_Told C (a 3) mT ++ (w_Mom C (a 3) (a 4) mP ++ w_Mom C (a 3) (a 5) mA6))) (w_FR C a mX ++ (w_Told C (a 3) mT ++ (w_Mom C (a 3) (a 4) mP ++ w_Mom C (a 3) (a 5) mA6))) := vv_Sub.same (w_FR C a mX ++ (w_Told C (a 3) mT ++ (w_Mom C (a 3) (a 4) mP ++ w_Mom C (a 3) (a 5) mA6))) hP hD hS hA
          refine vv_goi (wn := (w_FR C a mX ++ (w_Told C (a 3) mT ++ (w_Mom C (a 3) (a 4) mP ++ w_Mom C (a 3) (a 5) mA6)))) hK hs9 hS (vv_rV (As := [.int p0, .int p1, .int p2, .int p3]) (rest := []) hx hb hml hown hts hK hN hS hs9 (ccX7_firstOrLast l D C H.size a mX mT mP mA p0 p1 p2 p3 r5 mA6 hc) (cwV 4 hts gX7_damp_X7_firstOrLast rfl rfl rfl (by decide +kernel) ⟨(Nat.le_of_ble_eq_true rfl), (Nat.le_of_ble_eq_true rfl)⟩) (va_recv hK hP (ci := 7) (q0 := 0) rfl rfl) rfl hl.1 rfl (Nat.le_of_ble_eq_true rfl) dX7_damp_46 ⟨Nat.zero_le _, Nat.zero_le _⟩) (fun H locs hP hD hS => ?_)
          exact hret _ _ _ _ _ _ hf rfl hP hD hS dX7_damp_49
        · have hf := kv_t hc hf
          refine lv_iconst (v := (-1)) hx hb dX7_damp_38 (by decide) ?_
          exact hret _ _ _ _ _ _ hf rfl hP hD hS dX7_damp_39
abbrev rX7_day : Room := { frames := 7, cells := 0, slots := 0, locals := 303 }
set_option maxHeartbeats 4000000 in
set_option maxRecDepth 100000 in
theorem ccX7_day (l : Launch) (D : va_G) (C : Nat → ClassId) (sz : Nat) (a : Nat → Nat → Nat) (mX : Mm) (mR : Mm) (mF : Mm) (mT : Mm) (mP : Mm) (rr : Int32) (oX : Mm) (oR : Mm) (oF : Mm) (oT : Mm) (oP : Mm) (hf : ffX7_day mX mR mF mT mP = some (rr, oX, oR, oF, oT, oP)) : Met l yX7_day wsX7_day rX7_day (va_Pc [.ref (a 0 0)] (vv_pre D C (w_FR C a mX ++ (w_Rd C (a 2) (a 1) mR ++ (w_Told C (a 2) mF ++ (w_Told C (a 3) mT ++ w_Mom C (a 3) (a 4) mP)))) sz)) (vv_QI D C (w_FR C a mX ++ (w_Rd C (a 2) (a 1) mR ++ (w_Told C (a 2) mF ++ (w_Told C (a 3) mT ++ w_Mom C (a 3) (a 4) mP)))) (w_FR C a oX ++ (w_Rd C (a 2) (a 1) oR ++ (w_Told C (a 2) oF ++ (w_Told C (a 3) oT ++ w_Mom C (a 3) (a 4) oP)))) sz rr) 0 0 (va_A (w_FR C a mX ++ (w_Rd C (a 2) (a 1) mR ++ (w_Told C (a 2) mF ++ (w_Told C (a 3) mT ++ w_Mom C (a 3) (a 4) mP)))) sz) := by
  unfold ffX7_day at hf
  refine vv_metI (cc := cX7_day) (maxL := 3) (ty := .int) (by decide) rfl (Nat.le_of_ble_eq_true rfl) ?_
  intro p e s m args below meth c A Q H locs ls hx hb hml hown hts hA hK hN hP hD hS hl hret
  have hown : s.vm.findClass RX7 = some m.cls := hown
  have hl : lv_has ls 3 [(0, .ref (a 0 0))] := hl
  have hret : ∀ (v0 : Int32) (v1 : Mm) (v2 : Mm) (v3 : Mm) (v4 : Mm) (v5 : Mm) (H : Heap) (locs : List Loc) (ls : Array Slot) (pc : Nat), some (v0, v1, v2, v3, v4, v5) = some (rr, oX, oR, oF, oT, oP) → narrow .int (.int v0) = .int v0 → va_P D vwCl (w_FR C a v1 ++ (w_Rd C (a 2) (a 1) v2 ++ (w_Told C (a 2) v3 ++ (w_Told C (a 3) v4 ++ w_Mom C (a 3) (a 4) v5)))) H → va_D A (w_FR C a v1 ++ (w_Rd C (a 2) (a 1) v2 ++ (w_Told C (a 2) v3 ++ (w_Told C (a 3) v4 ++ w_Mom C (a 3) (a 4) v5)))) → va_S A s.heap H locs → decode cX7_day pc = .ok (.ireturn, 1) → W p l e rX7_day s m args below meth c H locs 0 0 Q (F0 m pc ls [.int v0]) := by
    intro v0 v1 v2 v3 v4 v5 H locs ls pc h0 hn h1 h2 h3 h4
    cases h0
    exact hret H locs ls pc hn h1 h2 h3 h4
  have q0 := hts (.fieldLink RX7 10 "ForeRain" "reader" "LForeRain$Reader;") (by decide +kernel)
  have q1 := hts (.fieldLink RX7 19 "ForeRain" "told" "LForeRain$Told;") (by decide +kernel)
  have q2 := hts (.fieldLink RX7 94 "ForeRain$Reader" "found" "LForeRain$Told;") (by decide +kernel)
  have q3 := hts (.fieldLink RX7 28 "ForeRain" "present" "LForeRain$Moment;") (by decide +kernel)
  have q4 := hts (.fieldLink RX7 39 "ForeRain" "kept" "[Z") (by decide +kernel)
  have iX7 : ∀ w ∈ u_ws RX7 TX7 10, w ∈ wsX7_day := by decide +kernel
  have iX4 : ∀ w ∈ u_ws RX4 TX4 8, w ∈ wsX7_day := by decide +kernel
  refine lv_aload_n hx hb dX7_day_0 rfl (lv_at hl 0 rfl) ?_
  refine va_get (D := D) (ci := 7) (v := .ref (a 1 0)) (C := RX7) (T := TX7) (N := 10) hx hb hts iX7 hown hK hP 0 rfl rfl 0 (by decide) q0 (fun _ h9 => h9) rfl dX7_day_1 ?_
  obtain ⟨r1, mR2, mF3, hc, hf⟩ := kv_b3_e hf
  have hs9 : vv_Sub D H A (w_Rd C (a 2) (a 1) mR ++ w_Told C (a 2) mF) (w_Rd C (a 2) (a 1) mR2 ++ w_Told C (a 2) mF3) (w_FR C a mX ++ (w_Rd C (a 2) (a 1) mR2 ++ (w_Told C (a 2) mF3 ++ (w_Told C (a 3) mT ++ w_Mom C (a 3) (a 4) mP)))) := vv_Sub.part (ws := (w_FR C a mX ++ (w_Rd C (a 2) (a 1) mR ++ (w_Told C (a 2) mF ++ (w_Told C (a 3) mT ++ w_Mom C (a 3) (a 4) mP))))) (wr := (w_FR C a mX ++ (w_Told C (a 3) mT ++ w_Mom C (a 3) (a 4) mP))) [3, 4, 5, 6, 7, 8, 9, 10, 11] [0, 1, 2, 12, 13, 14, 15, 16, 17, 18, 19, 20, 21, 22, 23] [0, 1, 2, 15, 16, 17, 18, 19, 20, 21, 22, 23, 3, 4, 5, 6, 7, 8, 9, 10, 11, 12, 13, 14] hP hD hS hA rfl rfl (by decide) rfl
  refine vv_goi (wn := (w_FR C a mX ++ (w_Rd C (a 2) (a 1) mR2 ++ (w_Told C (a 2) mF3 ++ (w_Told C (a 3) mT ++ w_Mom C (a 3) (a 4) mP))))) hK hs9 hS (vv_rV (As := []) (rest := []) hx hb hml hown hts hK hN hS hs9 (ccX4_readAll l D C H.size (a 1) (a 2) mR mF r1 mR2 mF3 hc) (cwV 0 hts gX7_day_X4_readAll rfl rfl rfl (by decide +kernel) ⟨(Nat.le_of_ble_eq_true rfl), (Nat.le_of_ble_eq_true rfl)⟩) (va_recv hK hP (ci := 4) (q0 := 3) rfl rfl) rfl hl.1 rfl (Nat.le_of_ble_eq_true rfl) dX7_day_4 ⟨Nat.zero_le _, Nat.zero_le _⟩) (fun H locs hP hD hS => ?_)
  refine lv_istore_n (lv' := [(1, .int r1), (0, .ref (a 0 0))]) hx hb dX7_day_7 rfl hl (by decide) rfl (fun ls hl => ?_)
  refine lv_iload_n hx hb dX7_day_8 rfl (lv_at hl 0 rfl) ?_
  refine lv_if_ge (tgt := 14) hx hb dX7_day_9 (by decide) (fun hc => ?_) (fun hc => ?_)
  · have hf := kv_t hc hf
    refine lv_aload_n hx hb dX7_day_14 rfl (lv_at hl 1 rfl) ?_
    refine va_get (D := D) (ci := 7) (v := .ref (a 3 0)) (C := RX7) (T := TX7) (N := 10) hx hb hts iX7 hown hK hP 0 rfl rfl 1 (by decide) q1 (fun _ h9 => h9) rfl dX7_day_15 ?_
    refine lv_aload_n hx hb dX7_day_18 rfl (lv_at hl 1 rfl) ?_
    refine va_get (D := D) (ci := 7) (v := .ref (a 1 0)) (C := RX7) (T := TX7) (N := 10) hx hb hts iX7 hown hK hP 0 rfl rfl 0 (by decide) q0 (fun _ h9 => h9) rfl dX7_day_19 ?_
    refine va_get (D := D) (ci := 4) (v := .ref (a 2 0)) (C := RX4) (T := TX4) (N := 8) hx hb hts iX4 hown hK hP 3 rfl rfl 1 (by decide) q2 (fun _ h9 => h9) rfl dX7_day_22 ?_
    obtain ⟨mT4, hc, hf⟩ := kv_b1_e hf
    have hs9 : vv_Sub D H A (w_Told C (a 3) mT ++ w_Told C (a 2) mF3) (w_Told C (a 3) mT4 ++ w_Told C (a 2) mF3) (w_FR C a mX ++ (w_Rd C (a 2) (a 1) mR2 ++ (w_Told C (a 2) mF3 ++ (w_Told C (a 3) mT4 ++ w_Mom C (a 3) (a 4) mP)))) := vv_Sub.part (ws := (w_FR C a mX ++ (w_Rd C (a 2) (a 1) mR2 ++ (w_Told C (a 2) mF3 ++ (w_Told C (a 3) mT ++ w_Mom C (a 3) (a 4) mP))))) (wr := (w_FR C a mX ++ (w_Rd C (a 2) (a 1) mR2 ++ w_Mom C (a 3) (a 4) mP))) [12, 13, 14, 15, 16, 17, 18, 5, 6, 7, 8, 9, 10, 11] [0, 1, 2, 3, 4, 19, 20, 21, 22, 23] [0, 1, 2, 3, 4, 17, 18, 19, 20, 21, 22, 23, 10, 11, 12, 13, 14, 15, 16, 5, 6, 7, 8, 9] hP hD hS hA rfl rfl (by decide) rfl
    refine vv_gov (wn := (w_FR C a mX ++ (w_Rd C (a 2) (a 1) mR2 ++ (w_Told C (a 2) mF3 ++ (w_Told C (a 3) mT4 ++ w_Mom C (a 3) (a 4) mP))))) hK hs9 hS (vv_rV (As := [.ref (a 2 0)]) (rest := []) hx hb hml hown hts hK hN hS hs9 (ccX6_copy l D C H.size (a 3) (a 2) mT mF3 mT4 hc) (cwV 1 hts gX7_day_X6_copy rfl rfl rfl (by decide +kernel) ⟨(Nat.le_of_ble_eq_true rfl), (Nat.le_of_ble_eq_true rfl)⟩) (va_recv hK hP (ci := 6) (q0 := 12) rfl rfl) rfl hl.1 rfl (Nat.le_of_ble_eq_true rfl) dX7_day_25 ⟨Nat.zero_le _, Nat.zero_le _⟩) (fun H locs hP hD hS => ?_)
    refine lv_aload_n hx hb dX7_day_28 rfl (lv_at hl 1 rfl) ?_
    refine va_get (D := D) (ci := 7) (v := .ref (a 1 0)) (C := RX7) (T := TX7) (N := 10) hx hb hts iX7 hown hK hP 0 rfl rfl 0 (by decide) q0 (fun _ h9 => h9) rfl dX7_day_29 ?_
    obtain ⟨r5, mR6, hc, hf⟩ := kv_b2_e hf
    have hs9 : vv_Sub D H A (w_Rd C (a 2) (a 1) mR2) (w_Rd C (a 2) (a 1) mR6) (w_FR C a mX ++ (w_Rd C (a 2) (a 1) mR6 ++ (w_Told C (a 2) mF3 ++ (w_Told C (a 3) mT4 ++ w_Mom C (a 3) (a 4) mP)))) := vv_Sub.part (ws := (w_FR C a mX ++ (w_Rd C (a 2) (a 1) mR2 ++ (w_Told C (a 2) mF3 ++ (w_Told C (a 3) mT4 ++ w_Mom C (a 3) (a 4) mP))))) (wr := (w_FR C a mX ++ (w_Told C (a 2) mF3 ++ (w_Told C (a 3) mT4 ++ w_Mom C (a 3) (a 4) mP)))) [3, 4] [0, 1, 2, 5, 6, 7, 8, 9, 10, 11, 12, 13, 14, 15, 16, 17, 18, 19, 20, 21, 22, 23] [0, 1, 2, 22, 23, 3, 4, 5, 6, 7, 8, 9, 10, 11, 12, 13, 14, 15, 16, 17, 18, 19, 20, 21] hP hD hS hA rfl rfl (by decide) rfl
    refine vv_goi (wn := (w_FR C a mX ++ (w_Rd C (a 2) (a 1) mR6 ++ (w_Told C (a 2) mF3 ++ (w_Told C (a 3) mT4 ++ w_Mom C (a 3) (a 4) mP))))) hK hs9 hS (vv_rV (As := []) (rest := []) hx hb hml hown hts hK hN hS hs9 (ccX4_empty l D C H.size (a 1) (a 2) mR2 r5 mR6 hc) (cwV 0 hts gX7_day_X4_empty rfl rfl rfl (by decide +kernel) ⟨(Nat.le_of_ble_eq_true rfl), (Nat.le_of_ble_eq_true rfl)⟩) (va_recv hK hP (ci := 4) (q0 := 3) rfl rfl) rfl hl.1 rfl (Nat.le_of_ble_eq_true rfl) dX7_day_32 ⟨Nat.zero_le _, Nat.zero_le _⟩) (fun H locs hP hD hS => ?_)
    refine lv_pop hx hb dX7_day_35 rfl ?_
    refine lv_aload_n hx hb dX7_day_36 rfl (lv_at hl 1 rfl) ?_
    refine va_get (D := D) (ci := 7) (v := .ref (a 4 0)) (C := RX7) (T := TX7) (N := 10) hx hb hts iX7 hown hK hP 0 rfl rfl 2 (by decide) q3 (fun _ h9 => h9) rfl dX7_day_37 ?_
    obtain ⟨mP7, hc, hf⟩ := kv_b1_e hf
    have hs9 : vv_Sub D H A (w_Told C (a 3) mT4 ++ w_Mom C (a 3) (a 4) mP) (w_Told C (a 3) mT4 ++ w_Mom C (a 3) (a 4) mP7) (w_FR C a mX ++ (w_Rd C (a 2) (a 1) mR6 ++ (w_Told C (a 2) mF3 ++ (w_Told C (a 3) mT4 ++ w_Mom C (a 3) (a 4) mP7)))) := vv_Sub.part (ws := (w_FR C a mX ++ (w_Rd C (a 2) (a 1) mR6 ++ (w_Told C (a 2) mF3 ++ (w_Told C (a 3) mT4 ++ w_Mom C (a 3) (a 4) mP))))) (wr := (w_FR C a mX ++ (w_Rd C (a 2) (a 1) mR6 ++ w_Told C (a 2) mF3))) [12, 13, 14, 15, 16, 17, 18, 19, 20, 21, 22, 23] [0, 1, 2, 3, 4, 5, 6, 7, 8, 9, 10, 11] [0, 1, 2, 3, 4, 5, 6, 7, 8, 9, 10, 11, 12, 13, 14, 15, 16, 17, 18, 19, 20, 21, 22, 23] hP hD hS hA rfl rfl (by decide) rfl
    refine vv_gov (wn := (w_FR C a mX ++ (w_Rd C (a 2) (a 1) mR6 ++ (w_Told C (a 2) mF3 ++ (w_Told C (a 3) mT4 ++ w_Mom C (a 3) (a 4) mP7))))) hK hs9 hS (vv_rV (As := []) (rest := []) hx hb hml hown hts hK hN hS hs9 (ccX3_begin l D C H.size (a 3) (a 4) mT4 mP mP7 hc) (cwV 0 hts gX7_day_X3_begin rfl rfl rfl (by decide +kernel) ⟨(Nat.le_of_ble_eq_true rfl), (Nat.le_of_ble_eq_true rfl)⟩) (va_recv hK hP (ci := 3) (q0 := 19) rfl rfl) rfl hl.1 rfl (Nat.le_of_ble_eq_true rfl) dX7_day_40 ⟨Nat.zero_le _, Nat.zero_le _⟩) (fun H locs hP hD hS => ?_)
    refine lv_iconst (v := 0) hx hb dX7_day_43 (by decide) ?_
    refine lv_istore_n (lv' := [(2, .int 0), (1, .int r1), (0, .ref (a 0 0))]) hx hb dX7_day_44 rfl hl (by decide) rfl (fun ls hl => ?_)
    have L45 : ∀ (K45 : Int32 → Mm → Option (Int32 × Mm × Mm × Mm × Mm × Mm)), (∀ (x8 : Int32) (mX9 : Mm) (H : Heap) (locs : List Loc) (ls : Array Slot), va_P D vwCl (w_FR C a mX9 ++ (w_Rd C (a 2) (a 1) mR6 ++ (w_Told C (a 2) mF3 ++ (w_Told C (a 3) mT4 ++ w_Mom C (a 3) (a 4) mP7)))) H → va_D A (w_FR C a mX9 ++ (w_Rd C (a 2) (a 1) mR6 ++ (w_Told C (a 2) mF3 ++ (w_Told C (a 3) mT4 ++ w_Mom C (a 3) (a 4) mP7)))) → va_S A s.heap H locs → lv_has ls 3 [(2, .int x8), (1, .int r1), (0, .ref (a 0 0))] → K45 x8 mX9 = some (rr, oX, oR, oF, oT, oP) → W p l e rX7_day s m args below meth c H locs 0 0 Q (F0 m 63 ls [])) → ∀ (n : Nat) (x8 : Int32) (mX9 : Mm) (H : Heap) (locs : List Loc) (ls : Array Slot), va_P D vwCl (w_FR C a mX9 ++ (w_Rd C (a 2) (a 1) mR6 ++ (w_Told C (a 2) mF3 ++ (w_Told C (a 3) mT4 ++ w_Mom C (a 3) (a 4) mP7)))) H → va_D A (w_FR C a mX9 ++ (w_Rd C (a 2) (a 1) mR6 ++ (w_Told C (a 2) mF3 ++ (w_Told C (a 3) mT4 ++ w_Mom C (a 3) (a 4) mP7)))) → va_S A s.heap H locs → lv_has ls 3 [(2, .int x8), (1, .int r1), (0, .ref (a 0 0))] → ffX7_day_L45  K45 n x8 mX9 = some (rr, oX, oR, oF, oT, oP) → W p l e rX7_day s m args below meth c H locs 0 0 Q (F0 m 45 ls []) := by
      intro K45 hK9 n
      induction n with
      | zero => intro x8 mX9 H locs ls hP hD hS hl hf; exact kv_no hf
      | succ n ih =>
        intro x8 mX9 H locs ls hP hD hS hl hf
        rw [ffX7_day_L45_s] at hf
        refine lv_iload_n hx hb dX7_day_45 rfl (lv_at hl 0 rfl) ?_
        refine lv_iconst (v := 2) hx hb dX7_day_46 (by decide) ?_
        refine lv_icmp_ge (tgt := 63) hx hb dX7_day_47 (by decide) (fun hc => ?_) (fun hc => ?_)
        · have hf := kv_t hc hf
          exact hK9 _ _ _ _ _ hP hD hS (lv_sub hl [0, 1, 2] rfl) hf
        · have hf := kv_f hc hf
          refine lv_aload_n hx hb dX7_day_50 rfl (lv_at hl 2 rfl) ?_
          refine va_get (D := D) (ci := 7) (v := .ref (a 0 2)) (C := RX7) (T := TX7) (N := 10) hx hb hts iX7 hown hK hP 0 rfl rfl 5 (by decide) q4 (fun _ h9 => h9) rfl dX7_day_51 ?_
          refine lv_iload_n hx hb dX7_day_54 rfl (lv_at hl 0 rfl) ?_
          refine lv_iconst (v := 0) hx hb dX7_day_55 (by decide) ?_
          obtain ⟨h9, hf⟩ := kv_ix_e hf
          obtain ⟨mX10, emX10, hf⟩ := kv_lt_e hf
          refine va_zast hx hb hK hP hD hS 2 2 rfl rfl h9 dX7_day_56 (fun H locs hP hD hS => ?_)
          have hP : va_P D vwCl (w_FR C a mX10 ++ (w_Rd C (a 2) (a 1) mR6 ++ (w_Told C (a 2) mF3 ++ (w_Told C (a 3) mT4 ++ w_Mom C (a 3) (a 4) mP7)))) H := by rw [emX10]; exact hP
          have hD : va_D A (w_FR C a mX10 ++ (w_Rd C (a 2) (a 1) mR6 ++ (w_Told C (a 2) mF3 ++ (w_Told C (a 3) mT4 ++ w_Mom C (a 3) (a 4) mP7)))) := by rw [emX10]; exact hD
          obtain ⟨x11, ex11, hf⟩ := kv_lt_e hf
          refine lv_iinc (v := x11) (lv' := [(2, .int x11), (1, .int r1), (0, .ref (a 0 0))]) hx hb dX7_day_57 hl (k := 0) rfl (by rw [ex11]; rfl) (by decide) rfl (fun ls hl => ?_)
          refine lv_goto (tgt := 45) hx hb dX7_day_60 (by decide) ?_
          exact ih _ _ _ _ _ hP hD hS (lv_sub hl [0, 1, 2] rfl) hf
    refine L45 _ (fun x12 mX13 H locs ls hP hD hS hl hf => ?_) _ _ _ _ _ _ hP hD hS (lv_sub hl [0, 1, 2] rfl) hf
    refine lv_iload_n hx hb dX7_day_63 rfl (lv_at hl 1 rfl) ?_
    exact hret _ _ _ _ _ _ _ _ _ _ hf rfl hP hD hS dX7_day_64
  · have hf := kv_f hc hf
    refine lv_iload_n hx hb dX7_day_12 rfl (lv_at hl 0 rfl) ?_
    exact hret _ _ _ _ _ _ _ _ _ _ hf rfl hP hD hS dX7_day_13
abbrev rX7_go : Room := { frames := 3, cells := 0, slots := 0, locals := 128 }
set_option maxHeartbeats 4000000 in
set_option maxRecDepth 100000 in
theorem ccX7_go (l : Launch) (D : va_G) (C : Nat → ClassId) (sz : Nat) (a : Nat → Nat → Nat) (mX : Mm) (mT : Mm) (mP : Mm) (p0 : Int32) (rr : Int32) (oP : Mm) (hf : ffX7_go p0 mX mT mP = some (rr, oP)) : Met l yX7_go wsX7_go rX7_go (va_Pc [.ref (a 0 0), .int p0] (vv_pre D C (w_FR C a mX ++ (w_Told C (a 3) mT ++ w_Mom C (a 3) (a 4) mP)) sz)) (vv_QI D C (w_FR C a mX ++ (w_Told C (a 3) mT ++ w_Mom C (a 3) (a 4) mP)) (w_FR C a mX ++ (w_Told C (a 3) mT ++ w_Mom C (a 3) (a 4) oP)) sz rr) 0 0 (va_A (w_FR C a mX ++ (w_Told C (a 3) mT ++ w_Mom C (a 3) (a 4) mP)) sz) := by
  unfold ffX7_go at hf
  refine vv_metI (cc := cX7_go) (maxL := 4) (ty := .int) (by decide) rfl (Nat.le_of_ble_eq_true rfl) ?_
  intro p e s m args below meth c A Q H locs ls hx hb hml hown hts hA hK hN hP hD hS hl hret
  have hown : s.vm.findClass RX7 = some m.cls := hown
  have hl : lv_has ls 4 [(0, .ref (a 0 0)), (1, .int p0)] := hl
  have hret : ∀ (v0 : Int32) (v1 : Mm) (H : Heap) (locs : List Loc) (ls : Array Slot) (pc : Nat), some (v0, v1) = some (rr, oP) → narrow .int (.int v0) = .int v0 → va_P D vwCl (w_FR C a mX ++ (w_Told C (a 3) mT ++ w_Mom C (a 3) (a 4) v1)) H → va_D A (w_FR C a mX ++ (w_Told C (a 3) mT ++ w_Mom C (a 3) (a 4) v1)) → va_S A s.heap H locs → decode cX7_go pc = .ok (.ireturn, 1) → W p l e rX7_go s m args below meth c H locs 0 0 Q (F0 m pc ls [.int v0]) := by
    intro v0 v1 H locs ls pc h0 hn h1 h2 h3 h4
    cases h0
    exact hret H locs ls pc hn h1 h2 h3 h4
  have q0 := hts (.fieldLink RX7 28 "ForeRain" "present" "LForeRain$Moment;") (by decide +kernel)
  have q1 := hts (.fieldLink RX7 150 "ForeRain$Moment" "step" "I") (by decide +kernel)
  have iX7 : ∀ w ∈ u_ws RX7 TX7 10, w ∈ wsX7_go := by decide +kernel
  have iX3 : ∀ w ∈ u_ws RX3 TX3 7, w ∈ wsX7_go := by decide +kernel
  refine lv_iload_n hx hb dX7_go_0 rfl (lv_at hl 1 rfl) ?_
  refine lv_iconst (v := 1) hx hb dX7_go_1 (by decide) ?_
  refine lv_bipush (v := 99) hx hb dX7_go_2 (by decide) ?_
  obtain ⟨r1, hc, hf⟩ := kv_b1_e hf
  have hs9 : vv_Sub D H A ([] : va_W) ([] : va_W) (w_FR C a mX ++ (w_Told C (a 3) mT ++ w_Mom C (a 3) (a 4) mP)) := vv_Sub.none hP hD hS hA
  refine vv_goi (wn := (w_FR C a mX ++ (w_Told C (a 3) mT ++ w_Mom C (a 3) (a 4) mP))) hK hs9 hS (vv_rS (As := [.int p0, .int 1, .int 99]) (rest := []) hx hb hml hown hts hK hN hS hs9 (ccX7_within l D C H.size p0 (1 : Int32) (99 : Int32) r1 hc) (va_cwS 3 hts gX7_go_X7_within rfl rfl rfl (by decide +kernel) ⟨(Nat.le_of_ble_eq_true rfl), (Nat.le_of_ble_eq_true rfl)⟩) rfl hl.1 rfl (Nat.le_of_ble_eq_true rfl) dX7_go_4 ⟨Nat.zero_le _, Nat.zero_le _⟩) (fun H locs hP hD hS => ?_)
  refine lv_if_ne (tgt := 12) hx hb dX7_go_7 (by decide) (fun hc => ?_) (fun hc => ?_)
  · have hf := kv_f hc hf
    refine lv_aload_n hx hb dX7_go_12 rfl (lv_at hl 0 rfl) ?_
    refine va_get (D := D) (ci := 7) (v := .ref (a 4 0)) (C := RX7) (T := TX7) (N := 10) hx hb hts iX7 hown hK hP 0 rfl rfl 2 (by decide) q0 (fun _ h9 => h9) rfl dX7_go_13 ?_
    refine va_get (D := D) (ci := 3) (v := .int (mP 0 1)) (C := RX3) (T := TX3) (N := 7) hx hb hts iX3 hown hK hP 10 rfl rfl 1 (by decide) q1 (fun _ h9 => h9) rfl dX7_go_16 ?_
    refine lv_bipush (v := 99) hx hb dX7_go_19 (by decide) ?_
    refine lv_icmp_lt (tgt := 27) hx hb dX7_go_21 (by decide) (fun hc => ?_) (fun hc => ?_)
    · have hf := kv_t hc hf
      refine lv_iconst (v := 0) hx hb dX7_go_27 (by decide) ?_
      refine lv_istore_n (lv' := [(2, .int 0), (0, .ref (a 0 0)), (1, .int p0)]) hx hb dX7_go_28 rfl hl (by decide) rfl (fun ls hl => ?_)
      refine lv_iconst (v := 0) hx hb dX7_go_29 (by decide) ?_
      refine lv_istore_n (lv' := [(3, .int 0), (2, .int 0), (0, .ref (a 0 0)), (1, .int p0)]) hx hb dX7_go_30 rfl hl (by decide) rfl (fun ls hl => ?_)
      have L31 : ∀ (K31 : Int32 → Int32 → Mm → Option (Int32 × Mm)), (∀ (x2 : Int32) (x3 : Int32) (mP4 : Mm) (H : Heap) (locs : List Loc) (ls : Array Slot), va_P D vwCl (w_FR C a mX ++ (w_Told C (a 3) mT ++ w_Mom C (a 3) (a 4) mP4)) H → va_D A (w_FR C a mX ++ (w_Told C (a 3) mT ++ w_Mom C (a 3) (a 4) mP4)) → va_S A s.heap H locs → lv_has ls 4 [(3, .int x2), (2, .int x3), (0, .ref (a 0 0)), (1, .int p0)] → K31 x2 x3 mP4 = some (rr, oP) → W p l e rX7_go s m args below meth c H locs 0 0 Q (F0 m 64 ls [])) → ∀ (n : Nat) (x2 : Int32) (x3 : Int32) (mP4 : Mm) (H : Heap) (locs : List Loc) (ls : Array Slot), va_P D vwCl (w_FR C a mX ++ (w_Told C (a 3) mT ++ w_Mom C (a 3) (a 4) mP4)) H → va_D A (w_FR C a mX ++ (w_Told C (a 3) mT ++ w_Mom C (a 3) (a 4) mP4)) → va_S A s.heap H locs → lv_has ls 4 [(3, .int x2), (2, .int x3), (0, .ref (a 0 0)), (1, .int p0)] → ffX7_go_L31 p0 mT K31 n x2 x3 mP4 = some (rr, oP) → W p l e rX7_go s m args below meth c H locs 0 0 Q (F0 m 31 ls []) := by
        intro K31 hK9 n
        induction n with
        | zero => intro x2 x3 mP4 H locs ls hP hD hS hl hf; exact kv_no hf
        | succ n ih =>
          intro x2 x3 mP4 H locs ls hP hD hS hl hf
          rw [ffX7_go_L31_s] at hf
          refine lv_iload_n hx hb dX7_go_31 rfl (lv_at hl 0 rfl) ?_
          refine lv_iload_n hx hb dX7_go_32 rfl (lv_at hl 3 rfl) ?_
          refine lv_icmp_ge (tgt := 64) hx hb dX7_go_33 (by decide) (fun hc => ?_) (fun hc => ?_)
          · have hf := kv_t hc hf
            exact hK9 _ _ _ _ _ _ hP hD hS (lv_sub hl [0, 1, 2, 3] rfl) hf
          · have hf := kv_f hc hf
            refine lv_aload_n hx hb dX7_go_36 rfl (lv_at hl 2 rfl) ?_
            refine va_get (D := D) (ci := 7) (v := .ref (a 4 0)) (C := RX7) (T := TX7) (N := 10) hx hb hts iX7 hown hK hP 0 rfl rfl 2 (by decide) q0 (fun _ h9 => h9) rfl dX7_go_37 ?_
            refine va_get (D := D) (ci := 3) (v := .int (mP4 0 1)) (C := RX3) (T := TX3) (N := 7) hx hb hts iX3 hown hK hP 10 rfl rfl 1 (by decide) q1 (fun _ h9 => h9) rfl dX7_go_40 ?_
            refine lv_bipush (v := 99) hx hb dX7_go_43 (by decide) ?_
            refine lv_icmp_ge (tgt := 64) hx hb dX7_go_45 (by decide) (fun hc => ?_) (fun hc => ?_)
            · have hf := kv_t hc hf
              exact hK9 _ _ _ _ _ _ hP hD hS (lv_sub hl [0, 1, 2, 3] rfl) hf
            · have hf := kv_f hc hf
              refine lv_iload_n hx hb dX7_go_48 rfl (lv_at hl 1 rfl) ?_
              refine lv_aload_n hx hb dX7_go_49 rfl (lv_at hl 2 rfl) ?_
              refine va_get (D := D) (ci := 7) (v := .ref (a 4 0)) (C := RX7) (T := TX7) (N := 10) hx hb hts iX7 hown hK hP 0 rfl rfl 2 (by decide) q0 (fun _ h9 => h9) rfl dX7_go_50 ?_
              obtain ⟨r5, mP6, hc, hf⟩ := kv_b2_e hf
              have hs9 : vv_Sub D H A (w_Told C (a 3) mT ++ w_Mom C (a 3) (a 4) mP4) (w_Told C (a 3) mT ++ w_Mom C (a 3) (a 4) mP6) (w_FR C a mX ++ (w_Told C (a 3) mT ++ w_Mom C (a 3) (a 4) mP6)) := vv_Sub.part (ws := (w_FR C a mX ++ (w_Told C (a 3) mT ++ w_Mom C (a 3) (a 4) mP4))) (wr := (w_FR C a mX)) [3, 4, 5, 6, 7, 8, 9, 10, 11, 12, 13, 14] [0, 1, 2] [0, 1, 2, 3, 4, 5, 6, 7, 8, 9, 10, 11, 12, 13, 14] hP hD hS hA rfl rfl (by decide) rfl
              refine vv_goi (wn := (w_FR C a mX ++ (w_Told C (a 3) mT ++ w_Mom C (a 3) (a 4) mP6))) hK hs9 hS (vv_rV (As := []) (rest := [.int x3]) hx hb hml hown hts hK hN hS hs9 (ccX3_pass l D C H.size (a 3) (a 4) mT mP4 r5 mP6 hc) (cwV 0 hts gX7_go_X3_pass rfl rfl rfl (by decide +kernel) ⟨(Nat.le_of_ble_eq_true rfl), (Nat.le_of_ble_eq_true rfl)⟩) (va_recv hK hP (ci := 3) (q0 := 10) rfl rfl) rfl hl.1 rfl (Nat.le_of_ble_eq_true rfl) dX7_go_53 ⟨Nat.zero_le _, Nat.zero_le _⟩) (fun H locs hP hD hS => ?_)
              refine lv_iadd hx hb dX7_go_56 ?_
              obtain ⟨x7, ex7, hf⟩ := kv_lt_e hf
              refine vv_nami ex7 ?_
              refine lv_istore_n (lv' := [(2, .int x7), (3, .int x2), (0, .ref (a 0 0)), (1, .int p0)]) hx hb dX7_go_57 rfl hl (by decide) rfl (fun ls hl => ?_)
              obtain ⟨x8, ex8, hf⟩ := kv_lt_e hf
              refine lv_iinc (v := x8) (lv' := [(3, .int x8), (2, .int x7), (0, .ref (a 0 0)), (1, .int p0)]) hx hb dX7_go_58 hl (k := 1) rfl (by rw [ex8]; rfl) (by decide) rfl (fun ls hl => ?_)
              refine lv_goto (tgt := 31) hx hb dX7_go_61 (by decide) ?_
              exact ih _ _ _ _ _ _ hP hD hS (lv_sub hl [0, 1, 2, 3] rfl) hf
      refine L31 _ (fun x9 x10 mP11 H locs ls hP hD hS hl hf => ?_) _ _ _ _ _ _ _ hP hD hS (lv_sub hl [0, 1, 2, 3] rfl) hf
      refine lv_iload_n hx hb dX7_go_64 rfl (lv_at hl 1 rfl) ?_
      exact hret _ _ _ _ _ _ hf rfl hP hD hS dX7_go_65
    · have hf := kv_f hc hf
      refine lv_bipush (v := (-2)) hx hb dX7_go_24 (by decide) ?_
      exact hret _ _ _ _ _ _ hf rfl hP hD hS dX7_go_26
  · have hf := kv_t hc hf
    refine lv_iconst (v := (-1)) hx hb dX7_go_10 (by decide) ?_
    exact hret _ _ _ _ _ _ hf rfl hP hD hS dX7_go_11
abbrev rX7_isSpot : Room := { frames := 1, cells := 0, slots := 0, locals := 22 }
set_option maxHeartbeats 4000000 in
set_option maxRecDepth 100000 in
theorem ccX7_isSpot (l : Launch) (D : va_G) (C : Nat → ClassId) (sz : Nat) (a : Nat → Nat → Nat) (mX : Mm) (mT : Mm) (p0 : Int32) (rr : Int32) (hf : ffX7_isSpot p0 mX mT = some (rr)) : Met l yX7_isSpot wsX7_isSpot rX7_isSpot (va_Pc [.ref (a 0 0), .int p0] (vv_pre D C (w_FR C a mX ++ w_Told C (a 3) mT) sz)) (vv_QI D C (w_FR C a mX ++ w_Told C (a 3) mT) (w_FR C a mX ++ w_Told C (a 3) mT) sz rr) 0 0 (va_A (w_FR C a mX ++ w_Told C (a 3) mT) sz) := by
  unfold ffX7_isSpot at hf
  refine vv_metI (cc := cX7_isSpot) (maxL := 2) (ty := .boolean) (by decide) rfl (Nat.le_of_ble_eq_true rfl) ?_
  intro p e s m args below meth c A Q H locs ls hx hb hml hown hts hA hK hN hP hD hS hl hret
  have hown : s.vm.findClass RX7 = some m.cls := hown
  have hl : lv_has ls 2 [(0, .ref (a 0 0)), (1, .int p0)] := hl
  have hret : ∀ (v0 : Int32) (H : Heap) (locs : List Loc) (ls : Array Slot) (pc : Nat), some (v0) = some (rr) → narrow .boolean (.int v0) = .int v0 → va_P D vwCl (w_FR C a mX ++ w_Told C (a 3) mT) H → va_D A (w_FR C a mX ++ w_Told C (a 3) mT) → va_S A s.heap H locs → decode cX7_isSpot pc = .ok (.ireturn, 1) → W p l e rX7_isSpot s m args below meth c H locs 0 0 Q (F0 m pc ls [.int v0]) := by
    intro v0 H locs ls pc h0 hn h1 h2 h3 h4
    cases h0
    exact hret H locs ls pc hn h1 h2 h3 h4
  have q0 := hts (.fieldLink RX7 19 "ForeRain" "told" "LForeRain$Told;") (by decide +kernel)
  have q1 := hts (.fieldLink RX7 209 "ForeRain$Told" "spots" "I") (by decide +kernel)
  have iX7 : ∀ w ∈ u_ws RX7 TX7 10, w ∈ wsX7_isSpot := by decide +kernel
  have iX6 : ∀ w ∈ u_ws RX6 TX6 9, w ∈ wsX7_isSpot := by decide +kernel
  refine lv_iload_n hx hb dX7_isSpot_0 rfl (lv_at hl 1 rfl) ?_
  refine lv_iconst (v := 0) hx hb dX7_isSpot_1 (by decide) ?_
  refine lv_aload_n hx hb dX7_isSpot_2 rfl (lv_at hl 0 rfl) ?_
  refine va_get (D := D) (ci := 7) (v := .ref (a 3 0)) (C := RX7) (T := TX7) (N := 10) hx hb hts iX7 hown hK hP 0 rfl rfl 1 (by decide) q0 (fun _ h9 => h9) rfl dX7_isSpot_3 ?_
  refine va_get (D := D) (ci := 6) (v := .int (mT 0 1)) (C := RX6) (T := TX6) (N := 9) hx hb hts iX6 hown hK hP 3 rfl rfl 1 (by decide) q1 (fun _ h9 => h9) rfl dX7_isSpot_6 ?_
  refine lv_iconst (v := 1) hx hb dX7_isSpot_9 (by decide) ?_
  refine lv_isub hx hb dX7_isSpot_10 ?_
  obtain ⟨r1, hc, hf⟩ := kv_b1_e hf
  have hs9 : vv_Sub D H A ([] : va_W) ([] : va_W) (w_FR C a mX ++ w_Told C (a 3) mT) := vv_Sub.none hP hD hS hA
  refine vv_goi (wn := (w_FR C a mX ++ w_Told C (a 3) mT)) hK hs9 hS (vv_rS (As := [.int p0, .int 0, .int ((mT 0 1) - 1)]) (rest := []) hx hb hml hown hts hK hN hS hs9 (ccX7_within l D C H.size p0 (0 : Int32) ((mT 0 1) - 1) r1 hc) (va_cwS 3 hts gX7_isSpot_X7_within rfl rfl rfl (by decide +kernel) ⟨(Nat.le_of_ble_eq_true rfl), (Nat.le_of_ble_eq_true rfl)⟩) rfl hl.1 rfl (Nat.le_of_ble_eq_true rfl) dX7_isSpot_11 ⟨Nat.zero_le _, Nat.zero_le _⟩) (fun H locs hP hD hS => ?_)
  obtain ⟨h9, hf⟩ := kv_bo_e hf
  exact hret _ _ _ _ _ hf h9 hP hD hS dX7_isSpot_14
abbrev rX7_hang : Room := { frames := 2, cells := 0, slots := 0, locals := 43 }
set_option maxHeartbeats 4000000 in
set_option maxRecDepth 100000 in
theorem ccX7_hang (l : Launch) (D : va_G) (C : Nat → ClassId) (sz : Nat) (a : Nat → Nat → Nat) (mX : Mm) (mT : Mm) (mP : Mm) (p0 : Int32) (p1 : Int32) (rr : Int32) (oP : Mm) (hf : ffX7_hang p0 p1 mX mT mP = some (rr, oP)) : Met l yX7_hang wsX7_hang rX7_hang (va_Pc [.ref (a 0 0), .int p0, .int p1] (vv_pre D C (w_FR C a mX ++ (w_Told C (a 3) mT ++ w_Mom C (a 3) (a 4) mP)) sz)) (vv_QI D C (w_FR C a mX ++ (w_Told C (a 3) mT ++ w_Mom C (a 3) (a 4) mP)) (w_FR C a mX ++ (w_Told C (a 3) mT ++ w_Mom C (a 3) (a 4) oP)) sz rr) 0 0 (va_A (w_FR C a mX ++ (w_Told C (a 3) mT ++ w_Mom C (a 3) (a 4) mP)) sz) := by
  unfold ffX7_hang at hf
  refine vv_metI (cc := cX7_hang) (maxL := 3) (ty := .int) (by decide) rfl (Nat.le_of_ble_eq_true rfl) ?_
  intro p e s m args below meth c A Q H locs ls hx hb hml hown hts hA hK hN hP hD hS hl hret
  have hown : s.vm.findClass RX7 = some m.cls := hown
  have hl : lv_has ls 3 [(0, .ref (a 0 0)), (1, .int p0), (2, .int p1)] := hl
  have hret : ∀ (v0 : Int32) (v1 : Mm) (H : Heap) (locs : List Loc) (ls : Array Slot) (pc : Nat), some (v0, v1) = some (rr, oP) → narrow .int (.int v0) = .int v0 → va_P D vwCl (w_FR C a mX ++ (w_Told C (a 3) mT ++ w_Mom C (a 3) (a 4) v1)) H → va_D A (w_FR C a mX ++ (w_Told C (a 3) mT ++ w_Mom C (a 3) (a 4) v1)) → va_S A s.heap H locs → decode cX7_hang pc = .ok (.ireturn, 1) → W p l e rX7_hang s m args below meth c H locs 0 0 Q (F0 m pc ls [.int v0]) := by
    intro v0 v1 H locs ls pc h0 hn h1 h2 h3 h4
    cases h0
    exact hret H locs ls pc hn h1 h2 h3 h4
  have q0 := hts (.fieldLink RX7 28 "ForeRain" "present" "LForeRain$Moment;") (by decide +kernel)
  have q1 := hts (.fieldLink RX7 19 "ForeRain" "told" "LForeRain$Told;") (by decide +kernel)
  have q2 := hts (.fieldLink RX7 123 "ForeRain$Moment" "place" "[I") (by decide +kernel)
  have iX7 : ∀ w ∈ u_ws RX7 TX7 10, w ∈ wsX7_hang := by decide +kernel
  have iX3 : ∀ w ∈ u_ws RX3 TX3 7, w ∈ wsX7_hang := by decide +kernel
  refine lv_aload_n hx hb dX7_hang_0 rfl (lv_at hl 0 rfl) ?_
  refine lv_iload_n hx hb dX7_hang_1 rfl (lv_at hl 1 rfl) ?_
  obtain ⟨r1, hc, hf⟩ := kv_b1_e hf
  have hs9 : vv_Sub D H A (w_FR C a mX ++ w_Told C (a 3) mT) (w_FR C a mX ++ w_Told C (a 3) mT) (w_FR C a mX ++ (w_Told C (a 3) mT ++ w_Mom C (a 3) (a 4) mP)) := vv_Sub.part (ws := (w_FR C a mX ++ (w_Told C (a 3) mT ++ w_Mom C (a 3) (a 4) mP))) (wr := (w_Mom C (a 3) (a 4) mP)) [0, 1, 2, 3, 4, 5, 6, 7, 8, 9] [10, 11, 12, 13, 14] [5, 6, 7, 8, 9, 10, 11, 12, 13, 14, 0, 1, 2, 3, 4] hP hD hS hA rfl rfl (by decide) rfl
  refine vv_goi (wn := (w_FR C a mX ++ (w_Told C (a 3) mT ++ w_Mom C (a 3) (a 4) mP))) hK hs9 hS (vv_rV (As := [.int p0]) (rest := []) hx hb hml hown hts hK hN hS hs9 (ccX7_isPiece l D C H.size a mX mT p0 r1 hc) (cwV 1 hts gX7_hang_X7_isPiece rfl rfl rfl (by decide +kernel) ⟨(Nat.le_of_ble_eq_true rfl), (Nat.le_of_ble_eq_true rfl)⟩) (va_recv hK hP (ci := 7) (q0 := 0) rfl rfl) rfl hl.1 rfl (Nat.le_of_ble_eq_true rfl) dX7_hang_2 ⟨Nat.zero_le _, Nat.zero_le _⟩) (fun H locs hP hD hS => ?_)
  refine lv_if_eq (tgt := 16) hx hb dX7_hang_5 (by decide) (fun hc => ?_) (fun hc => ?_)
  · have hf := kv_t hc hf
    refine lv_iconst (v := (-1)) hx hb dX7_hang_16 (by decide) ?_
    exact hret _ _ _ _ _ _ hf rfl hP hD hS dX7_hang_17
  · have hf := kv_f hc hf
    refine lv_aload_n hx hb dX7_hang_8 rfl (lv_at hl 0 rfl) ?_
    refine lv_iload_n hx hb dX7_hang_9 rfl (lv_at hl 2 rfl) ?_
    obtain ⟨r2, hc, hf⟩ := kv_b1_e hf
    have hs9 : vv_Sub D H A (w_FR C a mX ++ w_Told C (a 3) mT) (w_FR C a mX ++ w_Told C (a 3) mT) (w_FR C a mX ++ (w_Told C (a 3) mT ++ w_Mom C (a 3) (a 4) mP)) := vv_Sub.part (ws := (w_FR C a mX ++ (w_Told C (a 3) mT ++ w_Mom C (a 3) (a 4) mP))) (wr := (w_Mom C (a 3) (a 4) mP)) [0, 1, 2, 3, 4, 5, 6, 7, 8, 9] [10, 11, 12, 13, 14] [5, 6, 7, 8, 9, 10, 11, 12, 13, 14, 0, 1, 2, 3, 4] hP hD hS hA rfl rfl (by decide) rfl
    refine vv_goi (wn := (w_FR C a mX ++ (w_Told C (a 3) mT ++ w_Mom C (a 3) (a 4) mP))) hK hs9 hS (vv_rV (As := [.int p1]) (rest := []) hx hb hml hown hts hK hN hS hs9 (ccX7_isSpot l D C H.size a mX mT p1 r2 hc) (cwV 1 hts gX7_hang_X7_isSpot rfl rfl rfl (by decide +kernel) ⟨(Nat.le_of_ble_eq_true rfl), (Nat.le_of_ble_eq_true rfl)⟩) (va_recv hK hP (ci := 7) (q0 := 0) rfl rfl) rfl hl.1 rfl (Nat.le_of_ble_eq_true rfl) dX7_hang_10 ⟨Nat.zero_le _, Nat.zero_le _⟩) (fun H locs hP hD hS => ?_)
    refine lv_if_ne (tgt := 18) hx hb dX7_hang_13 (by decide) (fun hc => ?_) (fun hc => ?_)
    · have hf := kv_f hc hf
      refine lv_aload_n hx hb dX7_hang_18 rfl (lv_at hl 0 rfl) ?_
      refine va_get (D := D) (ci := 7) (v := .ref (a 4 0)) (C := RX7) (T := TX7) (N := 10) hx hb hts iX7 hown hK hP 0 rfl rfl 2 (by decide) q0 (fun _ h9 => h9) rfl dX7_hang_19 ?_
      refine lv_iload_n hx hb dX7_hang_22 rfl (lv_at hl 2 rfl) ?_
      obtain ⟨r3, hc, hf⟩ := kv_b1_e hf
      have hs9 : vv_Sub D H A (w_Told C (a 3) mT ++ w_Mom C (a 3) (a 4) mP) (w_Told C (a 3) mT ++ w_Mom C (a 3) (a 4) mP) (w_FR C a mX ++ (w_Told C (a 3) mT ++ w_Mom C (a 3) (a 4) mP)) := vv_Sub.part (ws := (w_FR C a mX ++ (w_Told C (a 3) mT ++ w_Mom C (a 3) (a 4) mP))) (wr := (w_FR C a mX)) [3, 4, 5, 6, 7, 8, 9, 10, 11, 12, 13, 14] [0, 1, 2] [0, 1, 2, 3, 4, 5, 6, 7, 8, 9, 10, 11, 12, 13, 14] hP hD hS hA rfl rfl (by decide) rfl
      refine vv_goi (wn := (w_FR C a mX ++ (w_Told C (a 3) mT ++ w_Mom C (a 3) (a 4) mP))) hK hs9 hS (vv_rV (As := [.int p1]) (rest := []) hx hb hml hown hts hK hN hS hs9 (ccX3_pieceAt l D C H.size (a 3) (a 4) mT mP p1 r3 hc) (cwV 1 hts gX7_hang_X3_pieceAt rfl rfl rfl (by decide +kernel) ⟨(Nat.le_of_ble_eq_true rfl), (Nat.le_of_ble_eq_true rfl)⟩) (va_recv hK hP (ci := 3) (q0 := 10) rfl rfl) rfl hl.1 rfl (Nat.le_of_ble_eq_true rfl) dX7_hang_23 ⟨Nat.zero_le _, Nat.zero_le _⟩) (fun H locs hP hD hS => ?_)
      refine lv_bipush (v := (-9)) hx hb dX7_hang_26 (by decide) ?_
      refine lv_icmp_ne (tgt := 43) hx hb dX7_hang_28 (by decide) (fun hc => ?_) (fun hc => ?_)
      · have hf := kv_f hc hf
        refine lv_bipush (v := (-2)) hx hb dX7_hang_43 (by decide) ?_
        exact hret _ _ _ _ _ _ hf rfl hP hD hS dX7_hang_45
      · have hf := kv_t hc hf
        refine lv_aload_n hx hb dX7_hang_31 rfl (lv_at hl 0 rfl) ?_
        refine va_get (D := D) (ci := 7) (v := .ref (a 3 0)) (C := RX7) (T := TX7) (N := 10) hx hb hts iX7 hown hK hP 0 rfl rfl 1 (by decide) q1 (fun _ h9 => h9) rfl dX7_hang_32 ?_
        refine lv_iload_n hx hb dX7_hang_35 rfl (lv_at hl 1 rfl) ?_
        refine lv_iload_n hx hb dX7_hang_36 rfl (lv_at hl 2 rfl) ?_
        obtain ⟨r4, hc, hf⟩ := kv_b1_e hf
        have hs9 : vv_Sub D H A (w_Told C (a 3) mT) (w_Told C (a 3) mT) (w_FR C a mX ++ (w_Told C (a 3) mT ++ w_Mom C (a 3) (a 4) mP)) := vv_Sub.part (ws := (w_FR C a mX ++ (w_Told C (a 3) mT ++ w_Mom C (a 3) (a 4) mP))) (wr := (w_FR C a mX ++ w_Mom C (a 3) (a 4) mP)) [3, 4, 5, 6, 7, 8, 9] [0, 1, 2, 10, 11, 12, 13, 14] [0, 1, 2, 8, 9, 10, 11, 12, 13, 14, 3, 4, 5, 6, 7] hP hD hS hA rfl rfl (by decide) rfl
        refine vv_goi (wn := (w_FR C a mX ++ (w_Told C (a 3) mT ++ w_Mom C (a 3) (a 4) mP))) hK hs9 hS (vv_rV (As := [.int p0, .int p1]) (rest := []) hx hb hml hown hts hK hN hS hs9 (ccX6_fits l D C H.size (a 3) mT p0 p1 r4 hc) (cwV 2 hts gX7_hang_X6_fits rfl rfl rfl (by decide +kernel) ⟨(Nat.le_of_ble_eq_true rfl), (Nat.le_of_ble_eq_true rfl)⟩) (va_recv hK hP (ci := 6) (q0 := 3) rfl rfl) rfl hl.1 rfl (Nat.le_of_ble_eq_true rfl) dX7_hang_37 ⟨Nat.zero_le _, Nat.zero_le _⟩) (fun H locs hP hD hS => ?_)
        refine lv_if_ne (tgt := 46) hx hb dX7_hang_40 (by decide) (fun hc => ?_) (fun hc => ?_)
        · have hf := kv_f hc hf
          refine lv_aload_n hx hb dX7_hang_46 rfl (lv_at hl 0 rfl) ?_
          refine va_get (D := D) (ci := 7) (v := .ref (a 4 0)) (C := RX7) (T := TX7) (N := 10) hx hb hts iX7 hown hK hP 0 rfl rfl 2 (by decide) q0 (fun _ h9 => h9) rfl dX7_hang_47 ?_
          refine va_get (D := D) (ci := 3) (v := .ref (a 4 3)) (C := RX3) (T := TX3) (N := 7) hx hb hts iX3 hown hK hP 10 rfl rfl 5 (by decide) q2 (fun _ h9 => h9) rfl dX7_hang_50 ?_
          refine lv_iload_n hx hb dX7_hang_53 rfl (lv_at hl 1 rfl) ?_
          refine lv_iload_n hx hb dX7_hang_54 rfl (lv_at hl 2 rfl) ?_
          obtain ⟨h9, hf⟩ := kv_ix_e hf
          obtain ⟨mP5, emP5, hf⟩ := kv_lt_e hf
          refine va_iast hx hb hK hP hD hS 13 1 rfl rfl h9 dX7_hang_55 (fun H locs hP hD hS => ?_)
          have hP : va_P D vwCl (w_FR C a mX ++ (w_Told C (a 3) mT ++ w_Mom C (a 3) (a 4) mP5)) H := by rw [emP5]; exact hP
          have hD : va_D A (w_FR C a mX ++ (w_Told C (a 3) mT ++ w_Mom C (a 3) (a 4) mP5)) := by rw [emP5]; exact hD
          refine lv_iconst (v := 1) hx hb dX7_hang_56 (by decide) ?_
          exact hret _ _ _ _ _ _ hf rfl hP hD hS dX7_hang_57
        · have hf := kv_t hc hf
          refine lv_bipush (v := (-2)) hx hb dX7_hang_43 (by decide) ?_
          exact hret _ _ _ _ _ _ hf rfl hP hD hS dX7_hang_45
    · have hf := kv_t hc hf
      refine lv_iconst (v := (-1)) hx hb dX7_hang_16 (by decide) ?_
      exact hret _ _ _ _ _ _ hf rfl hP hD hS dX7_hang_17
abbrev rX7_held : Room := { frames := 2, cells := 0, slots := 0, locals := 46 }
set_option maxHeartbeats 4000000 in
set_option maxRecDepth 100000 in
theorem ccX7_held (l : Launch) (D : va_G) (C : Nat → ClassId) (sz : Nat) (a : Nat → Nat → Nat) (mX : Mm) (mD : Mm) (p0 : Int32) (p1 : Int32) (p2 : Int32) (rr : Int32) (oD : Mm) (hf : ffX7_held p0 p1 p2 mX mD = some (rr, oD)) : Met l yX7_held wsX7_held rX7_held (va_Pc [.ref (a 0 0), .int p0, .int p1, .int p2] (vv_pre D C (w_FR C a mX ++ w_Dy C (a 10) mD) sz)) (vv_QI D C (w_FR C a mX ++ w_Dy C (a 10) mD) (w_FR C a mX ++ w_Dy C (a 10) oD) sz rr) 0 0 (va_A (w_FR C a mX ++ w_Dy C (a 10) mD) sz) := by
  unfold ffX7_held at hf
  refine vv_metI (cc := cX7_held) (maxL := 4) (ty := .int) (by decide) rfl (Nat.le_of_ble_eq_true rfl) ?_
  intro p e s m args below meth c A Q H locs ls hx hb hml hown hts hA hK hN hP hD hS hl hret
  have hown : s.vm.findClass RX7 = some m.cls := hown
  have hl : lv_has ls 4 [(0, .ref (a 0 0)), (1, .int p0), (2, .int p1), (3, .int p2)] := hl
  have hret : ∀ (v0 : Int32) (v1 : Mm) (H : Heap) (locs : List Loc) (ls : Array Slot) (pc : Nat), some (v0, v1) = some (rr, oD) → narrow .int (.int v0) = .int v0 → va_P D vwCl (w_FR C a mX ++ w_Dy C (a 10) v1) H → va_D A (w_FR C a mX ++ w_Dy C (a 10) v1) → va_S A s.heap H locs → decode cX7_held pc = .ok (.ireturn, 1) → W p l e rX7_held s m args below meth c H locs 0 0 Q (F0 m pc ls [.int v0]) := by
    intro v0 v1 H locs ls pc h0 hn h1 h2 h3 h4
    cases h0
    exact hret H locs ls pc hn h1 h2 h3 h4
  have q0 := hts (.fieldLink RX7 64 "ForeRain" "days" "LForeRain$Days;") (by decide +kernel)
  have q1 := hts (.fieldLink RX7 218 "ForeRain$Days" "number" "I") (by decide +kernel)
  have iX7 : ∀ w ∈ u_ws RX7 TX7 10, w ∈ wsX7_held := by decide +kernel
  have iX0 : ∀ w ∈ u_ws RX0 TX0 4, w ∈ wsX7_held := by decide +kernel
  refine lv_iload_n hx hb dX7_held_0 rfl (lv_at hl 1 rfl) ?_
  refine lv_iconst (v := 0) hx hb dX7_held_1 (by decide) ?_
  refine lv_iconst (v := 1) hx hb dX7_held_2 (by decide) ?_
  obtain ⟨r1, hc, hf⟩ := kv_b1_e hf
  have hs9 : vv_Sub D H A ([] : va_W) ([] : va_W) (w_FR C a mX ++ w_Dy C (a 10) mD) := vv_Sub.none hP hD hS hA
  refine vv_goi (wn := (w_FR C a mX ++ w_Dy C (a 10) mD)) hK hs9 hS (vv_rS (As := [.int p0, .int 0, .int 1]) (rest := []) hx hb hml hown hts hK hN hS hs9 (ccX7_within l D C H.size p0 (0 : Int32) (1 : Int32) r1 hc) (va_cwS 3 hts gX7_held_X7_within rfl rfl rfl (by decide +kernel) ⟨(Nat.le_of_ble_eq_true rfl), (Nat.le_of_ble_eq_true rfl)⟩) rfl hl.1 rfl (Nat.le_of_ble_eq_true rfl) dX7_held_3 ⟨Nat.zero_le _, Nat.zero_le _⟩) (fun H locs hP hD hS => ?_)
  refine lv_if_eq (tgt := 27) hx hb dX7_held_6 (by decide) (fun hc => ?_) (fun hc => ?_)
  · have hf := kv_t hc hf
    refine lv_iconst (v := (-1)) hx hb dX7_held_27 (by decide) ?_
    exact hret _ _ _ _ _ _ hf rfl hP hD hS dX7_held_28
  · have hf := kv_f hc hf
    refine lv_iload_n hx hb dX7_held_9 rfl (lv_at hl 2 rfl) ?_
    refine lv_iconst (v := 0) hx hb dX7_held_10 (by decide) ?_
    refine lv_iconst (v := 1) hx hb dX7_held_11 (by decide) ?_
    obtain ⟨r2, hc, hf⟩ := kv_b1_e hf
    have hs9 : vv_Sub D H A ([] : va_W) ([] : va_W) (w_FR C a mX ++ w_Dy C (a 10) mD) := vv_Sub.none hP hD hS hA
    refine vv_goi (wn := (w_FR C a mX ++ w_Dy C (a 10) mD)) hK hs9 hS (vv_rS (As := [.int p1, .int 0, .int 1]) (rest := []) hx hb hml hown hts hK hN hS hs9 (ccX7_within l D C H.size p1 (0 : Int32) (1 : Int32) r2 hc) (va_cwS 3 hts gX7_held_X7_within rfl rfl rfl (by decide +kernel) ⟨(Nat.le_of_ble_eq_true rfl), (Nat.le_of_ble_eq_true rfl)⟩) rfl hl.1 rfl (Nat.le_of_ble_eq_true rfl) dX7_held_12 ⟨Nat.zero_le _, Nat.zero_le _⟩) (fun H locs hP hD hS => ?_)
    refine lv_if_eq (tgt := 27) hx hb dX7_held_15 (by decide) (fun hc => ?_) (fun hc => ?_)
    · have hf := kv_t hc hf
      refine lv_iconst (v := (-1)) hx hb dX7_held_27 (by decide) ?_
      exact hret _ _ _ _ _ _ hf rfl hP hD hS dX7_held_28
    · have hf := kv_f hc hf
      refine lv_iload_n hx hb dX7_held_18 rfl (lv_at hl 3 rfl) ?_
      refine lv_iconst (v := 0) hx hb dX7_held_19 (by decide) ?_
      refine lv_iconst (v := 1) hx hb dX7_held_20 (by decide) ?_
      obtain ⟨r3, hc, hf⟩ := kv_b1_e hf
      have hs9 : vv_Sub D H A ([] : va_W) ([] : va_W) (w_FR C a mX ++ w_Dy C (a 10) mD) := vv_Sub.none hP hD hS hA
      refine vv_goi (wn := (w_FR C a mX ++ w_Dy C (a 10) mD)) hK hs9 hS (vv_rS (As := [.int p2, .int 0, .int 1]) (rest := []) hx hb hml hown hts hK hN hS hs9 (ccX7_within l D C H.size p2 (0 : Int32) (1 : Int32) r3 hc) (va_cwS 3 hts gX7_held_X7_within rfl rfl rfl (by decide +kernel) ⟨(Nat.le_of_ble_eq_true rfl), (Nat.le_of_ble_eq_true rfl)⟩) rfl hl.1 rfl (Nat.le_of_ble_eq_true rfl) dX7_held_21 ⟨Nat.zero_le _, Nat.zero_le _⟩) (fun H locs hP hD hS => ?_)
      refine lv_if_ne (tgt := 29) hx hb dX7_held_24 (by decide) (fun hc => ?_) (fun hc => ?_)
      · have hf := kv_f hc hf
        refine lv_aload_n hx hb dX7_held_29 rfl (lv_at hl 0 rfl) ?_
        refine va_get (D := D) (ci := 7) (v := .ref (a 10 0)) (C := RX7) (T := TX7) (N := 10) hx hb hts iX7 hown hK hP 0 rfl rfl 8 (by decide) q0 (fun _ h9 => h9) rfl dX7_held_30 ?_
        refine va_get (D := D) (ci := 0) (v := .int (mD 0 0)) (C := RX0) (T := TX0) (N := 4) hx hb hts iX0 hown hK hP 3 rfl rfl 0 (by decide) q1 (fun _ h9 => h9) rfl dX7_held_33 ?_
        refine lv_bipush (v := 30) hx hb dX7_held_36 (by decide) ?_
        refine lv_icmp_lt (tgt := 44) hx hb dX7_held_38 (by decide) (fun hc => ?_) (fun hc => ?_)
        · have hf := kv_t hc hf
          refine lv_aload_n hx hb dX7_held_44 rfl (lv_at hl 0 rfl) ?_
          refine va_get (D := D) (ci := 7) (v := .ref (a 10 0)) (C := RX7) (T := TX7) (N := 10) hx hb hts iX7 hown hK hP 0 rfl rfl 8 (by decide) q0 (fun _ h9 => h9) rfl dX7_held_45 ?_
          refine lv_iload_n hx hb dX7_held_48 rfl (lv_at hl 1 rfl) ?_
          refine lv_iload_n hx hb dX7_held_49 rfl (lv_at hl 2 rfl) ?_
          refine lv_iload_n hx hb dX7_held_50 rfl (lv_at hl 3 rfl) ?_
          obtain ⟨mD4, hc, hf⟩ := kv_b1_e hf
          have hs9 : vv_Sub D H A (w_Dy C (a 10) mD) (w_Dy C (a 10) mD4) (w_FR C a mX ++ w_Dy C (a 10) mD4) := vv_Sub.part (ws := (w_FR C a mX ++ w_Dy C (a 10) mD)) (wr := (w_FR C a mX)) [3, 4, 5, 6] [0, 1, 2] [0, 1, 2, 3, 4, 5, 6] hP hD hS hA rfl rfl (by decide) rfl
          refine vv_gov (wn := (w_FR C a mX ++ w_Dy C (a 10) mD4)) hK hs9 hS (vv_rV (As := [.int p0, .int p1, .int p2]) (rest := []) hx hb hml hown hts hK hN hS hs9 (ccX0_add l D C H.size (a 10) mD p0 p1 p2 mD4 hc) (cwV 3 hts gX7_held_X0_add rfl rfl rfl (by decide +kernel) ⟨(Nat.le_of_ble_eq_true rfl), (Nat.le_of_ble_eq_true rfl)⟩) (va_recv hK hP (ci := 0) (q0 := 3) rfl rfl) rfl hl.1 rfl (Nat.le_of_ble_eq_true rfl) dX7_held_51 ⟨Nat.zero_le _, Nat.zero_le _⟩) (fun H locs hP hD hS => ?_)
          refine lv_aload_n hx hb dX7_held_54 rfl (lv_at hl 0 rfl) ?_
          refine va_get (D := D) (ci := 7) (v := .ref (a 10 0)) (C := RX7) (T := TX7) (N := 10) hx hb hts iX7 hown hK hP 0 rfl rfl 8 (by decide) q0 (fun _ h9 => h9) rfl dX7_held_55 ?_
          refine va_get (D := D) (ci := 0) (v := .int (mD4 0 0)) (C := RX0) (T := TX0) (N := 4) hx hb hts iX0 hown hK hP 3 rfl rfl 0 (by decide) q1 (fun _ h9 => h9) rfl dX7_held_58 ?_
          exact hret _ _ _ _ _ _ hf rfl hP hD hS dX7_held_61
        · have hf := kv_f hc hf
          refine lv_bipush (v := (-3)) hx hb dX7_held_41 (by decide) ?_
          exact hret _ _ _ _ _ _ hf rfl hP hD hS dX7_held_43
      · have hf := kv_t hc hf
        refine lv_iconst (v := (-1)) hx hb dX7_held_27 (by decide) ?_
        exact hret _ _ _ _ _ _ hf rfl hP hD hS dX7_held_28
abbrev rX7_keep : Room := { frames := 1, cells := 0, slots := 0, locals := 22 }
set_option maxHeartbeats 4000000 in
set_option maxRecDepth 100000 in
theorem ccX7_keep (l : Launch) (D : va_G) (C : Nat → ClassId) (sz : Nat) (a : Nat → Nat → Nat) (mX : Mm) (mT : Mm) (mP : Mm) (mI : Mm) (mJ : Mm) (p0 : Int32) (rr : Int32) (oX : Mm) (oI : Mm) (oJ : Mm) (hf : ffX7_keep p0 mX mT mP mI mJ = some (rr, oX, oI, oJ)) : Met l yX7_keep wsX7_keep rX7_keep (va_Pc [.ref (a 0 0), .int p0] (vv_pre D C (w_FR C a mX ++ (w_Told C (a 3) mT ++ (w_Mom C (a 3) (a 4) mP ++ (w_Mom C (a 3) (a 6) mI ++ w_Mom C (a 3) (a 7) mJ)))) sz)) (vv_QI D C (w_FR C a mX ++ (w_Told C (a 3) mT ++ (w_Mom C (a 3) (a 4) mP ++ (w_Mom C (a 3) (a 6) mI ++ w_Mom C (a 3) (a 7) mJ)))) (w_FR C a oX ++ (w_Told C (a 3) mT ++ (w_Mom C (a 3) (a 4) mP ++ (w_Mom C (a 3) (a 6) oI ++ w_Mom C (a 3) (a 7) oJ)))) sz rr) 0 0 (va_A (w_FR C a mX ++ (w_Told C (a 3) mT ++ (w_Mom C (a 3) (a 4) mP ++ (w_Mom C (a 3) (a 6) mI ++ w_Mom C (a 3) (a 7) mJ)))) sz) := by
  unfold ffX7_keep at hf
  refine vv_metI (cc := cX7_keep) (maxL := 2) (ty := .int) (by decide) rfl (Nat.le_of_ble_eq_true rfl) ?_
  intro p e s m args below meth c A Q H locs ls hx hb hml hown hts hA hK hN hP hD hS hl hret
  have hown : s.vm.findClass RX7 = some m.cls := hown
  have hl : lv_has ls 2 [(0, .ref (a 0 0)), (1, .int p0)] := hl
  have hret : ∀ (v0 : Int32) (v1 : Mm) (v2 : Mm) (v3 : Mm) (H : Heap) (locs : List Loc) (ls : Array Slot) (pc : Nat), some (v0, v1, v2, v3) = some (rr, oX, oI, oJ) → narrow .int (.int v0) = .int v0 → va_P D vwCl (w_FR C a v1 ++ (w_Told C (a 3) mT ++ (w_Mom C (a 3) (a 4) mP ++ (w_Mom C (a 3) (a 6) v2 ++ w_Mom C (a 3) (a 7) v3)))) H → va_D A (w_FR C a v1 ++ (w_Told C (a 3) mT ++ (w_Mom C (a 3) (a 4) mP ++ (w_Mom C (a 3) (a 6) v2 ++ w_Mom C (a 3) (a 7) v3)))) → va_S A s.heap H locs → decode cX7_keep pc = .ok (.ireturn, 1) → W p l e rX7_keep s m args below meth c H locs 0 0 Q (F0 m pc ls [.int v0]) := by
    intro v0 v1 v2 v3 H locs ls pc h0 hn h1 h2 h3 h4
    cases h0
    exact hret H locs ls pc hn h1 h2 h3 h4
  have q0 := hts (.fieldLink RX7 35 "ForeRain" "images" "[LForeRain$Moment;") (by decide +kernel)
  have q1 := hts (.fieldLink RX7 28 "ForeRain" "present" "LForeRain$Moment;") (by decide +kernel)
  have q2 := hts (.fieldLink RX7 39 "ForeRain" "kept" "[Z") (by decide +kernel)
  have q3 := hts (.fieldLink RX7 150 "ForeRain$Moment" "step" "I") (by decide +kernel)
  have iX7 : ∀ w ∈ u_ws RX7 TX7 10, w ∈ wsX7_keep := by decide +kernel
  have iX3 : ∀ w ∈ u_ws RX3 TX3 7, w ∈ wsX7_keep := by decide +kernel
  refine lv_iload_n hx hb dX7_keep_0 rfl (lv_at hl 1 rfl) ?_
  refine lv_iconst (v := 0) hx hb dX7_keep_1 (by decide) ?_
  refine lv_iconst (v := 1) hx hb dX7_keep_2 (by decide) ?_
  obtain ⟨r1, hc, hf⟩ := kv_b1_e hf
  have hs9 : vv_Sub D H A ([] : va_W) ([] : va_W) (w_FR C a mX ++ (w_Told C (a 3) mT ++ (w_Mom C (a 3) (a 4) mP ++ (w_Mom C (a 3) (a 6) mI ++ w_Mom C (a 3) (a 7) mJ)))) := vv_Sub.none hP hD hS hA
  refine vv_goi (wn := (w_FR C a mX ++ (w_Told C (a 3) mT ++ (w_Mom C (a 3) (a 4) mP ++ (w_Mom C (a 3) (a 6) mI ++ w_Mom C (a 3) (a 7) mJ))))) hK hs9 hS (vv_rS (As := [.int p0, .int 0, .int 1]) (rest := []) hx hb hml hown hts hK hN hS hs9 (ccX7_within l D C H.size p0 (0 : Int32) (1 : Int32) r1 hc) (va_cwS 3 hts gX7_keep_X7_within rfl rfl rfl (by decide +kernel) ⟨(Nat.le_of_ble_eq_true rfl), (Nat.le_of_ble_eq_true rfl)⟩) rfl hl.1 rfl (Nat.le_of_ble_eq_true rfl) dX7_keep_3 ⟨Nat.zero_le _, Nat.zero_le _⟩) (fun H locs hP hD hS => ?_)
  refine lv_if_ne (tgt := 11) hx hb dX7_keep_6 (by decide) (fun hc => ?_) (fun hc => ?_)
  · have hf := kv_f hc hf
    refine lv_aload_n hx hb dX7_keep_11 rfl (lv_at hl 0 rfl) ?_
    refine va_get (D := D) (ci := 7) (v := .ref (a 0 1)) (C := RX7) (T := TX7) (N := 10) hx hb hts iX7 hown hK hP 0 rfl rfl 4 (by decide) q0 (fun _ h9 => h9) rfl dX7_keep_12 ?_
    refine lv_iload_n hx hb dX7_keep_15 rfl (lv_at hl 1 rfl) ?_
    by_cases c0 : p0 = 0
    · have hf := kv_t c0 hf
      refine va_aldq hx hb hK hP 1 3 rfl rfl (by rw [c0]; unfold vp_in; decide) dX7_keep_16 ?_
      refine vv_reft (q := a 6 0) (by rw [c0]; rfl) ?_
      refine lv_aload_n hx hb dX7_keep_17 rfl (lv_at hl 0 rfl) ?_
      refine va_get (D := D) (ci := 7) (v := .ref (a 4 0)) (C := RX7) (T := TX7) (N := 10) hx hb hts iX7 hown hK hP 0 rfl rfl 2 (by decide) q1 (fun _ h9 => h9) rfl dX7_keep_18 ?_
      obtain ⟨mI2, hc, hf⟩ := kv_b1_e hf
      have hs9 : vv_Sub D H A (w_Told C (a 3) mT ++ (w_Mom C (a 3) (a 6) mI ++ w_Mom C (a 3) (a 4) mP)) (w_Told C (a 3) mT ++ (w_Mom C (a 3) (a 6) mI2 ++ w_Mom C (a 3) (a 4) mP)) (w_FR C a mX ++ (w_Told C (a 3) mT ++ (w_Mom C (a 3) (a 4) mP ++ (w_Mom C (a 3) (a 6) mI2 ++ w_Mom C (a 3) (a 7) mJ)))) := vv_Sub.part (ws := (w_FR C a mX ++ (w_Told C (a 3) mT ++ (w_Mom C (a 3) (a 4) mP ++ (w_Mom C (a 3) (a 6) mI ++ w_Mom C (a 3) (a 7) mJ))))) (wr := (w_FR C a mX ++ w_Mom C (a 3) (a 7) mJ)) [3, 4, 5, 6, 7, 8, 9, 15, 16, 17, 18, 19, 10, 11, 12, 13, 14] [0, 1, 2, 20, 21, 22, 23, 24] [0, 1, 2, 8, 9, 10, 11, 12, 13, 14, 20, 21, 22, 23, 24, 15, 16, 17, 18, 19, 3, 4, 5, 6, 7] hP hD hS hA rfl rfl (by decide) rfl
      refine vv_gov (wn := (w_FR C a mX ++ (w_Told C (a 3) mT ++ (w_Mom C (a 3) (a 4) mP ++ (w_Mom C (a 3) (a 6) mI2 ++ w_Mom C (a 3) (a 7) mJ))))) hK hs9 hS (vv_rV (As := [.ref (a 4 0)]) (rest := []) hx hb hml hown hts hK hN hS hs9 (ccX3_copy l D C H.size (a 3) (a 6) (a 4) mT mI mP mI2 hc) (cwV 1 hts gX7_keep_X3_copy rfl rfl rfl (by decide +kernel) ⟨(Nat.le_of_ble_eq_true rfl), (Nat.le_of_ble_eq_true rfl)⟩) (va_recv hK hP (ci := 3) (q0 := 15) rfl rfl) rfl hl.1 rfl (Nat.le_of_ble_eq_true rfl) dX7_keep_21 ⟨Nat.zero_le _, Nat.zero_le _⟩) (fun H locs hP hD hS => ?_)
      refine lv_aload_n hx hb dX7_keep_24 rfl (lv_at hl 0 rfl) ?_
      refine va_get (D := D) (ci := 7) (v := .ref (a 0 2)) (C := RX7) (T := TX7) (N := 10) hx hb hts iX7 hown hK hP 0 rfl rfl 5 (by decide) q2 (fun _ h9 => h9) rfl dX7_keep_25 ?_
      refine lv_iload_n hx hb dX7_keep_28 rfl (lv_at hl 1 rfl) ?_
      refine lv_iconst (v := 1) hx hb dX7_keep_29 (by decide) ?_
      obtain ⟨h9, hf⟩ := kv_ix_e hf
      obtain ⟨mX3, emX3, hf⟩ := kv_lt_e hf
      refine va_zast hx hb hK hP hD hS 2 2 rfl rfl h9 dX7_keep_30 (fun H locs hP hD hS => ?_)
      have hP : va_P D vwCl (w_FR C a mX3 ++ (w_Told C (a 3) mT ++ (w_Mom C (a 3) (a 4) mP ++ (w_Mom C (a 3) (a 6) mI2 ++ w_Mom C (a 3) (a 7) mJ)))) H := by rw [emX3]; exact hP
      have hD : va_D A (w_FR C a mX3 ++ (w_Told C (a 3) mT ++ (w_Mom C (a 3) (a 4) mP ++ (w_Mom C (a 3) (a 6) mI2 ++ w_Mom C (a 3) (a 7) mJ)))) := by rw [emX3]; exact hD
      refine lv_aload_n hx hb dX7_keep_31 rfl (lv_at hl 0 rfl) ?_
      refine va_get (D := D) (ci := 7) (v := .ref (a 4 0)) (C := RX7) (T := TX7) (N := 10) hx hb hts iX7 hown hK hP 0 rfl rfl 2 (by decide) q1 (fun _ h9 => h9) rfl dX7_keep_32 ?_
      refine va_get (D := D) (ci := 3) (v := .int (mP 0 1)) (C := RX3) (T := TX3) (N := 7) hx hb hts iX3 hown hK hP 10 rfl rfl 1 (by decide) q3 (fun _ h9 => h9) rfl dX7_keep_35 ?_
      exact hret _ _ _ _ _ _ _ _ hf rfl hP hD hS dX7_keep_38
    have hf := kv_f c0 hf
    by_cases c1 : p0 = 1
    · have hf := kv_t c1 hf
      refine va_aldq hx hb hK hP 1 3 rfl rfl (by rw [c1]; unfold vp_in; decide) dX7_keep_16 ?_
      refine vv_reft (q := a 7 0) (by rw [c1]; rfl) ?_
      refine lv_aload_n hx hb dX7_keep_17 rfl (lv_at hl 0 rfl) ?_
      refine va_get (D := D) (ci := 7) (v := .ref (a 4 0)) (C := RX7) (T := TX7) (N := 10) hx hb hts iX7 hown hK hP 0 rfl rfl 2 (by decide) q1 (fun _ h9 => h9) rfl dX7_keep_18 ?_
      obtain ⟨mJ4, hc, hf⟩ := kv_b1_e hf
      have hs9 : vv_Sub D H A (w_Told C (a 3) mT ++ (w_Mom C (a 3) (a 7) mJ ++ w_Mom C (a 3) (a 4) mP)) (w_Told C (a 3) mT ++ (w_Mom C (a 3) (a 7) mJ4 ++ w_Mom C (a 3) (a 4) mP)) (w_FR C a mX ++ (w_Told C (a 3) mT ++ (w_Mom C (a 3) (a 4) mP ++ (w_Mom C (a 3) (a 6) mI ++ w_Mom C (a 3) (a 7) mJ4)))) := vv_Sub.part (ws := (w_FR C a mX ++ (w_Told C (a 3) mT ++ (w_Mom C (a 3) (a 4) mP ++ (w_Mom C (a 3) (a 6) mI ++ w_Mom C (a 3) (a 7) mJ))))) (wr := (w_FR C a mX ++ w_Mom C (a 3) (a 6) mI)) [3, 4, 5, 6, 7, 8, 9, 20, 21, 22, 23, 24, 10, 11, 12, 13, 14] [0, 1, 2, 15, 16, 17, 18, 19] [0, 1, 2, 8, 9, 10, 11, 12, 13, 14, 20, 21, 22, 23, 24, 3, 4, 5, 6, 7, 15, 16, 17, 18, 19] hP hD hS hA rfl rfl (by decide) rfl
      refine vv_gov (wn := (w_FR C a mX ++ (w_Told C (a 3) mT ++ (w_Mom C (a 3) (a 4) mP ++ (w_Mom C (a 3) (a 6) mI ++ w_Mom C (a 3) (a 7) mJ4))))) hK hs9 hS (vv_rV (As := [.ref (a 4 0)]) (rest := []) hx hb hml hown hts hK hN hS hs9 (ccX3_copy l D C H.size (a 3) (a 7) (a 4) mT mJ mP mJ4 hc) (cwV 1 hts gX7_keep_X3_copy rfl rfl rfl (by decide +kernel) ⟨(Nat.le_of_ble_eq_true rfl), (Nat.le_of_ble_eq_true rfl)⟩) (va_recv hK hP (ci := 3) (q0 := 20) rfl rfl) rfl hl.1 rfl (Nat.le_of_ble_eq_true rfl) dX7_keep_21 ⟨Nat.zero_le _, Nat.zero_le _⟩) (fun H locs hP hD hS => ?_)
      refine lv_aload_n hx hb dX7_keep_24 rfl (lv_at hl 0 rfl) ?_
      refine va_get (D := D) (ci := 7) (v := .ref (a 0 2)) (C := RX7) (T := TX7) (N := 10) hx hb hts iX7 hown hK hP 0 rfl rfl 5 (by decide) q2 (fun _ h9 => h9) rfl dX7_keep_25 ?_
      refine lv_iload_n hx hb dX7_keep_28 rfl (lv_at hl 1 rfl) ?_
      refine lv_iconst (v := 1) hx hb dX7_keep_29 (by decide) ?_
      obtain ⟨h9, hf⟩ := kv_ix_e hf
      obtain ⟨mX5, emX5, hf⟩ := kv_lt_e hf
      refine va_zast hx hb hK hP hD hS 2 2 rfl rfl h9 dX7_keep_30 (fun H locs hP hD hS => ?_)
      have hP : va_P D vwCl (w_FR C a mX5 ++ (w_Told C (a 3) mT ++ (w_Mom C (a 3) (a 4) mP ++ (w_Mom C (a 3) (a 6) mI ++ w_Mom C (a 3) (a 7) mJ4)))) H := by rw [emX5]; exact hP
      have hD : va_D A (w_FR C a mX5 ++ (w_Told C (a 3) mT ++ (w_Mom C (a 3) (a 4) mP ++ (w_Mom C (a 3) (a 6) mI ++ w_Mom C (a 3) (a 7) mJ4)))) := by rw [emX5]; exact hD
      refine lv_aload_n hx hb dX7_keep_31 rfl (lv_at hl 0 rfl) ?_
      refine va_get (D := D) (ci := 7) (v := .ref (a 4 0)) (C := RX7) (T := TX7) (N := 10) hx hb hts iX7 hown hK hP 0 rfl rfl 2 (by decide) q1 (fun _ h9 => h9) rfl dX7_keep_32 ?_
      refine va_get (D := D) (ci := 3) (v := .int (mP 0 1)) (C := RX3) (T := TX3) (N := 7) hx hb hts iX3 hown hK hP 10 rfl rfl 1 (by decide) q3 (fun _ h9 => h9) rfl dX7_keep_35 ?_
      exact hret _ _ _ _ _ _ _ _ hf rfl hP hD hS dX7_keep_38
    have hf := kv_f c1 hf
    exact kv_no hf
  · have hf := kv_t hc hf
    refine lv_iconst (v := (-1)) hx hb dX7_keep_9 (by decide) ?_
    exact hret _ _ _ _ _ _ _ _ hf rfl hP hD hS dX7_keep_10
abbrev rX7_mark : Room := { frames := 4, cells := 0, slots := 0, locals := 85 }
set_option maxHeartbeats 4000000 in
set_option maxRecDepth 100000 in
theorem ccX7_mark (l : Launch) (D : va_G) (C : Nat → ClassId) (sz : Nat) (a : Nat → Nat → Nat) (mX : Mm) (mT : Mm) (mP : Mm) (mG : Int64) (p0 : Int32) (p1 : Int32) (rr : Int32) (oG : Int64) (hf : ffX7_mark p0 p1 mX mT mP mG = some (rr, oG)) : Met l yX7_mark wsX7_mark rX7_mark (va_Pc [.ref (a 0 0), .int p0, .int p1] (vv_pre D C (w_FR C a mX ++ (w_Told C (a 3) mT ++ (w_Mom C (a 3) (a 4) mP ++ w_Mk (a 3) (a 4) (a 11) mG))) sz)) (vv_QI D C (w_FR C a mX ++ (w_Told C (a 3) mT ++ (w_Mom C (a 3) (a 4) mP ++ w_Mk (a 3) (a 4) (a 11) mG))) (w_FR C a mX ++ (w_Told C (a 3) mT ++ (w_Mom C (a 3) (a 4) mP ++ w_Mk (a 3) (a 4) (a 11) oG))) sz rr) 0 0 (va_A (w_FR C a mX ++ (w_Told C (a 3) mT ++ (w_Mom C (a 3) (a 4) mP ++ w_Mk (a 3) (a 4) (a 11) mG))) sz) := by
  unfold ffX7_mark at hf
  refine vv_metI (cc := cX7_mark) (maxL := 3) (ty := .int) (by decide) rfl (Nat.le_of_ble_eq_true rfl) ?_
  intro p e s m args below meth c A Q H locs ls hx hb hml hown hts hA hK hN hP hD hS hl hret
  have hown : s.vm.findClass RX7 = some m.cls := hown
  have hl : lv_has ls 3 [(0, .ref (a 0 0)), (1, .int p0), (2, .int p1)] := hl
  have hret : ∀ (v0 : Int32) (v1 : Int64) (H : Heap) (locs : List Loc) (ls : Array Slot) (pc : Nat), some (v0, v1) = some (rr, oG) → narrow .int (.int v0) = .int v0 → va_P D vwCl (w_FR C a mX ++ (w_Told C (a 3) mT ++ (w_Mom C (a 3) (a 4) mP ++ w_Mk (a 3) (a 4) (a 11) v1))) H → va_D A (w_FR C a mX ++ (w_Told C (a 3) mT ++ (w_Mom C (a 3) (a 4) mP ++ w_Mk (a 3) (a 4) (a 11) v1))) → va_S A s.heap H locs → decode cX7_mark pc = .ok (.ireturn, 1) → W p l e rX7_mark s m args below meth c H locs 0 0 Q (F0 m pc ls [.int v0]) := by
    intro v0 v1 H locs ls pc h0 hn h1 h2 h3 h4
    cases h0
    exact hret H locs ls pc hn h1 h2 h3 h4
  have q0 := hts (.constant RX7 142 (-1000000)) (by decide +kernel)
  have q1 := hts (.fieldLink RX7 71 "ForeRain" "marks" "LForeRain$Marks;") (by decide +kernel)
  have iX7 : ∀ w ∈ u_ws RX7 TX7 10, w ∈ wsX7_mark := by decide +kernel
  refine lv_iload_n hx hb dX7_mark_0 rfl (lv_at hl 1 rfl) ?_
  refine lv_iconst (v := 0) hx hb dX7_mark_1 (by decide) ?_
  refine lv_iconst (v := 5) hx hb dX7_mark_2 (by decide) ?_
  obtain ⟨r1, hc, hf⟩ := kv_b1_e hf
  have hs9 : vv_Sub D H A ([] : va_W) ([] : va_W) (w_FR C a mX ++ (w_Told C (a 3) mT ++ (w_Mom C (a 3) (a 4) mP ++ w_Mk (a 3) (a 4) (a 11) mG))) := vv_Sub.none hP hD hS hA
  refine vv_goi (wn := (w_FR C a mX ++ (w_Told C (a 3) mT ++ (w_Mom C (a 3) (a 4) mP ++ w_Mk (a 3) (a 4) (a 11) mG)))) hK hs9 hS (vv_rS (As := [.int p0, .int 0, .int 5]) (rest := []) hx hb hml hown hts hK hN hS hs9 (ccX7_within l D C H.size p0 (0 : Int32) (5 : Int32) r1 hc) (va_cwS 3 hts gX7_mark_X7_within rfl rfl rfl (by decide +kernel) ⟨(Nat.le_of_ble_eq_true rfl), (Nat.le_of_ble_eq_true rfl)⟩) rfl hl.1 rfl (Nat.le_of_ble_eq_true rfl) dX7_mark_3 ⟨Nat.zero_le _, Nat.zero_le _⟩) (fun H locs hP hD hS => ?_)
  refine lv_if_eq (tgt := 29) hx hb dX7_mark_6 (by decide) (fun hc => ?_) (fun hc => ?_)
  · have hf := kv_t hc hf
    refine lv_ldc (v := (-1000000)) hx hb hown q0 dX7_mark_29 ?_
    exact hret _ _ _ _ _ _ hf rfl hP hD hS dX7_mark_31
  · have hf := kv_f hc hf
    refine lv_aload_n hx hb dX7_mark_9 rfl (lv_at hl 0 rfl) ?_
    refine lv_iload_n hx hb dX7_mark_10 rfl (lv_at hl 2 rfl) ?_
    obtain ⟨r2, hc, hf⟩ := kv_b1_e hf
    have hs9 : vv_Sub D H A (w_FR C a mX ++ w_Told C (a 3) mT) (w_FR C a mX ++ w_Told C (a 3) mT) (w_FR C a mX ++ (w_Told C (a 3) mT ++ (w_Mom C (a 3) (a 4) mP ++ w_Mk (a 3) (a 4) (a 11) mG))) := vv_Sub.part (ws := (w_FR C a mX ++ (w_Told C (a 3) mT ++ (w_Mom C (a 3) (a 4) mP ++ w_Mk (a 3) (a 4) (a 11) mG)))) (wr := (w_Mom C (a 3) (a 4) mP ++ w_Mk (a 3) (a 4) (a 11) mG)) [0, 1, 2, 3, 4, 5, 6, 7, 8, 9] [10, 11, 12, 13, 14, 15] [6, 7, 8, 9, 10, 11, 12, 13, 14, 15, 0, 1, 2, 3, 4, 5] hP hD hS hA rfl rfl (by decide) rfl
    refine vv_goi (wn := (w_FR C a mX ++ (w_Told C (a 3) mT ++ (w_Mom C (a 3) (a 4) mP ++ w_Mk (a 3) (a 4) (a 11) mG)))) hK hs9 hS (vv_rV (As := [.int p1]) (rest := []) hx hb hml hown hts hK hN hS hs9 (ccX7_isPiece l D C H.size a mX mT p1 r2 hc) (cwV 1 hts gX7_mark_X7_isPiece rfl rfl rfl (by decide +kernel) ⟨(Nat.le_of_ble_eq_true rfl), (Nat.le_of_ble_eq_true rfl)⟩) (va_recv hK hP (ci := 7) (q0 := 0) rfl rfl) rfl hl.1 rfl (Nat.le_of_ble_eq_true rfl) dX7_mark_11 ⟨Nat.zero_le _, Nat.zero_le _⟩) (fun H locs hP hD hS => ?_)
    refine lv_if_eq (tgt := 29) hx hb dX7_mark_14 (by decide) (fun hc => ?_) (fun hc => ?_)
    · have hf := kv_t hc hf
      refine lv_ldc (v := (-1000000)) hx hb hown q0 dX7_mark_29 ?_
      exact hret _ _ _ _ _ _ hf rfl hP hD hS dX7_mark_31
    · have hf := kv_f hc hf
      refine lv_aload_n hx hb dX7_mark_17 rfl (lv_at hl 0 rfl) ?_
      refine va_get (D := D) (ci := 7) (v := .ref (a 11 0)) (C := RX7) (T := TX7) (N := 10) hx hb hts iX7 hown hK hP 0 rfl rfl 9 (by decide) q1 (fun _ h9 => h9) rfl dX7_mark_18 ?_
      refine lv_iload_n hx hb dX7_mark_21 rfl (lv_at hl 1 rfl) ?_
      refine lv_iload_n hx hb dX7_mark_22 rfl (lv_at hl 2 rfl) ?_
      obtain ⟨r3, mG4, hc, hf⟩ := kv_b2_e hf
      have hs9 : vv_Sub D H A (w_Told C (a 3) mT ++ (w_Mom C (a 3) (a 4) mP ++ w_Mk (a 3) (a 4) (a 11) mG)) (w_Told C (a 3) mT ++ (w_Mom C (a 3) (a 4) mP ++ w_Mk (a 3) (a 4) (a 11) mG4)) (w_FR C a mX ++ (w_Told C (a 3) mT ++ (w_Mom C (a 3) (a 4) mP ++ w_Mk (a 3) (a 4) (a 11) mG4))) := vv_Sub.part (ws := (w_FR C a mX ++ (w_Told C (a 3) mT ++ (w_Mom C (a 3) (a 4) mP ++ w_Mk (a 3) (a 4) (a 11) mG)))) (wr := (w_FR C a mX)) [3, 4, 5, 6, 7, 8, 9, 10, 11, 12, 13, 14, 15] [0, 1, 2] [0, 1, 2, 3, 4, 5, 6, 7, 8, 9, 10, 11, 12, 13, 14, 15] hP hD hS hA rfl rfl (by decide) rfl
      refine vv_goi (wn := (w_FR C a mX ++ (w_Told C (a 3) mT ++ (w_Mom C (a 3) (a 4) mP ++ w_Mk (a 3) (a 4) (a 11) mG4)))) hK hs9 hS (vv_rV (As := [.int p0, .int p1]) (rest := []) hx hb hml hown hts hK hN hS hs9 (ccX2_as l D C H.size (a 3) (a 4) (a 11) mT mP mG p0 p1 r3 mG4 hc) (cwV 2 hts gX7_mark_X2_as rfl rfl rfl (by decide +kernel) ⟨(Nat.le_of_ble_eq_true rfl), (Nat.le_of_ble_eq_true rfl)⟩) (va_recv hK hP (ci := 2) (q0 := 15) rfl rfl) rfl hl.1 rfl (Nat.le_of_ble_eq_true rfl) dX7_mark_23 ⟨Nat.zero_le _, Nat.zero_le _⟩) (fun H locs hP hD hS => ?_)
      refine lv_goto (tgt := 31) hx hb dX7_mark_26 (by decide) ?_
      exact hret _ _ _ _ _ _ hf rfl hP hD hS dX7_mark_31
abbrev rX7_now : Room := { frames := 3, cells := 0, slots := 0, locals := 65 }
set_option maxHeartbeats 4000000 in
set_option maxRecDepth 100000 in
theorem ccX7_now (l : Launch) (D : va_G) (C : Nat → ClassId) (sz : Nat) (a : Nat → Nat → Nat) (mX : Mm) (mT : Mm) (mP : Mm) (p0 : Int32) (rr : Int32) (hf : ffX7_now p0 mX mT mP = some (rr)) : Met l yX7_now wsX7_now rX7_now (va_Pc [.ref (a 0 0), .int p0] (vv_pre D C (w_FR C a mX ++ (w_Told C (a 3) mT ++ w_Mom C (a 3) (a 4) mP)) sz)) (vv_QI D C (w_FR C a mX ++ (w_Told C (a 3) mT ++ w_Mom C (a 3) (a 4) mP)) (w_FR C a mX ++ (w_Told C (a 3) mT ++ w_Mom C (a 3) (a 4) mP)) sz rr) 0 0 (va_A (w_FR C a mX ++ (w_Told C (a 3) mT ++ w_Mom C (a 3) (a 4) mP)) sz) := by
  unfold ffX7_now at hf
  refine vv_metI (cc := cX7_now) (maxL := 2) (ty := .int) (by decide) rfl (Nat.le_of_ble_eq_true rfl) ?_
  intro p e s m args below meth c A Q H locs ls hx hb hml hown hts hA hK hN hP hD hS hl hret
  have hown : s.vm.findClass RX7 = some m.cls := hown
  have hl : lv_has ls 2 [(0, .ref (a 0 0)), (1, .int p0)] := hl
  have hret : ∀ (v0 : Int32) (H : Heap) (locs : List Loc) (ls : Array Slot) (pc : Nat), some (v0) = some (rr) → narrow .int (.int v0) = .int v0 → va_P D vwCl (w_FR C a mX ++ (w_Told C (a 3) mT ++ w_Mom C (a 3) (a 4) mP)) H → va_D A (w_FR C a mX ++ (w_Told C (a 3) mT ++ w_Mom C (a 3) (a 4) mP)) → va_S A s.heap H locs → decode cX7_now pc = .ok (.ireturn, 1) → W p l e rX7_now s m args below meth c H locs 0 0 Q (F0 m pc ls [.int v0]) := by
    intro v0 H locs ls pc h0 hn h1 h2 h3 h4
    cases h0
    exact hret H locs ls pc hn h1 h2 h3 h4
  have q0 := hts (.fieldLink RX7 28 "ForeRain" "present" "LForeRain$Moment;") (by decide +kernel)
  have q1 := hts (.fieldLink RX7 150 "ForeRain$Moment" "step" "I") (by decide +kernel)
  have q2 := hts (.fieldLink RX7 156 "ForeRain$Moment" "damp" "I") (by decide +kernel)
  have iX7 : ∀ w ∈ u_ws RX7 TX7 10, w ∈ wsX7_now := by decide +kernel
  have iX3 : ∀ w ∈ u_ws RX3 TX3 7, w ∈ wsX7_now := by decide +kernel
  refine lv_iload_n hx hb dX7_now_0 rfl (lv_at hl 1 rfl) ?_
  by_cases c0 : p0 = 0
  · have hf := kv_t c0 hf
    refine lv_tableIn (off := 39) (tgt := 40) hx hb dX7_now_1 (by rw [c0]; decide) (by rw [c0]; decide) (by rw [c0]; rfl) (by decide) ?_
    refine lv_aload_n hx hb dX7_now_40 rfl (lv_at hl 0 rfl) ?_
    refine va_get (D := D) (ci := 7) (v := .ref (a 4 0)) (C := RX7) (T := TX7) (N := 10) hx hb hts iX7 hown hK hP 0 rfl rfl 2 (by decide) q0 (fun _ h9 => h9) rfl dX7_now_41 ?_
    refine va_get (D := D) (ci := 3) (v := .int (mP 0 1)) (C := RX3) (T := TX3) (N := 7) hx hb hts iX3 hown hK hP 10 rfl rfl 1 (by decide) q1 (fun _ h9 => h9) rfl dX7_now_44 ?_
    exact hret _ _ _ _ _ hf rfl hP hD hS dX7_now_47
  have hf := kv_f c0 hf
  by_cases c1 : p0 = 1
  · have hf := kv_t c1 hf
    refine lv_tableIn (off := 47) (tgt := 48) hx hb dX7_now_1 (by rw [c1]; decide) (by rw [c1]; decide) (by rw [c1]; rfl) (by decide) ?_
    refine lv_aload_n hx hb dX7_now_48 rfl (lv_at hl 0 rfl) ?_
    refine va_get (D := D) (ci := 7) (v := .ref (a 4 0)) (C := RX7) (T := TX7) (N := 10) hx hb hts iX7 hown hK hP 0 rfl rfl 2 (by decide) q0 (fun _ h9 => h9) rfl dX7_now_49 ?_
    refine va_get (D := D) (ci := 3) (v := .int (mP 0 2)) (C := RX3) (T := TX3) (N := 7) hx hb hts iX3 hown hK hP 10 rfl rfl 2 (by decide) q2 (fun _ h9 => h9) rfl dX7_now_52 ?_
    exact hret _ _ _ _ _ hf rfl hP hD hS dX7_now_55
  have hf := kv_f c1 hf
  by_cases c2 : p0 = 2
  · have hf := kv_t c2 hf
    refine lv_tableIn (off := 55) (tgt := 56) hx hb dX7_now_1 (by rw [c2]; decide) (by rw [c2]; decide) (by rw [c2]; rfl) (by decide) ?_
    refine lv_aload_n hx hb dX7_now_56 rfl (lv_at hl 0 rfl) ?_
    refine va_get (D := D) (ci := 7) (v := .ref (a 4 0)) (C := RX7) (T := TX7) (N := 10) hx hb hts iX7 hown hK hP 0 rfl rfl 2 (by decide) q0 (fun _ h9 => h9) rfl dX7_now_57 ?_
    obtain ⟨r1, hc, hf⟩ := kv_b1_e hf
    have hs9 : vv_Sub D H A (w_Told C (a 3) mT ++ w_Mom C (a 3) (a 4) mP) (w_Told C (a 3) mT ++ w_Mom C (a 3) (a 4) mP) (w_FR C a mX ++ (w_Told C (a 3) mT ++ w_Mom C (a 3) (a 4) mP)) := vv_Sub.part (ws := (w_FR C a mX ++ (w_Told C (a 3) mT ++ w_Mom C (a 3) (a 4) mP))) (wr := (w_FR C a mX)) [3, 4, 5, 6, 7, 8, 9, 10, 11, 12, 13, 14] [0, 1, 2] [0, 1, 2, 3, 4, 5, 6, 7, 8, 9, 10, 11, 12, 13, 14] hP hD hS hA rfl rfl (by decide) rfl
    refine vv_goi (wn := (w_FR C a mX ++ (w_Told C (a 3) mT ++ w_Mom C (a 3) (a 4) mP))) hK hs9 hS (vv_rV (As := []) (rest := []) hx hb hml hown hts hK hN hS hs9 (ccX3_allWater l D C H.size (a 3) (a 4) mT mP r1 hc) (cwV 0 hts gX7_now_X3_allWater rfl rfl rfl (by decide +kernel) ⟨(Nat.le_of_ble_eq_true rfl), (Nat.le_of_ble_eq_true rfl)⟩) (va_recv hK hP (ci := 3) (q0 := 10) rfl rfl) rfl hl.1 rfl (Nat.le_of_ble_eq_true rfl) dX7_now_60 ⟨Nat.zero_le _, Nat.zero_le _⟩) (fun H locs hP hD hS => ?_)
    exact hret _ _ _ _ _ hf rfl hP hD hS dX7_now_63
  have hf := kv_f c2 hf
  by_cases c3 : p0 = 3
  · have hf := kv_t c3 hf
    refine lv_tableIn (off := 63) (tgt := 64) hx hb dX7_now_1 (by rw [c3]; decide) (by rw [c3]; decide) (by rw [c3]; rfl) (by decide) ?_
    refine lv_aload_n hx hb dX7_now_64 rfl (lv_at hl 0 rfl) ?_
    refine va_get (D := D) (ci := 7) (v := .ref (a 4 0)) (C := RX7) (T := TX7) (N := 10) hx hb hts iX7 hown hK hP 0 rfl rfl 2 (by decide) q0 (fun _ h9 => h9) rfl dX7_now_65 ?_
    obtain ⟨r2, hc, hf⟩ := kv_b1_e hf
    have hs9 : vv_Sub D H A (w_Told C (a 3) mT ++ w_Mom C (a 3) (a 4) mP) (w_Told C (a 3) mT ++ w_Mom C (a 3) (a 4) mP) (w_FR C a mX ++ (w_Told C (a 3) mT ++ w_Mom C (a 3) (a 4) mP)) := vv_Sub.part (ws := (w_FR C a mX ++ (w_Told C (a 3) mT ++ w_Mom C (a 3) (a 4) mP))) (wr := (w_FR C a mX)) [3, 4, 5, 6, 7, 8, 9, 10, 11, 12, 13, 14] [0, 1, 2] [0, 1, 2, 3, 4, 5, 6, 7, 8, 9, 10, 11, 12, 13, 14] hP hD hS hA rfl rfl (by decide) rfl
    refine vv_goi (wn := (w_FR C a mX ++ (w_Told C (a 3) mT ++ w_Mom C (a 3) (a 4) mP))) hK hs9 hS (vv_rV (As := []) (rest := []) hx hb hml hown hts hK hN hS hs9 (ccX3_onLine l D C H.size (a 3) (a 4) mT mP r2 hc) (cwV 0 hts gX7_now_X3_onLine rfl rfl rfl (by decide +kernel) ⟨(Nat.le_of_ble_eq_true rfl), (Nat.le_of_ble_eq_true rfl)⟩) (va_recv hK hP (ci := 3) (q0 := 10) rfl rfl) rfl hl.1 rfl (Nat.le_of_ble_eq_true rfl) dX7_now_68 ⟨Nat.zero_le _, Nat.zero_le _⟩) (fun H locs hP hD hS => ?_)
    exact hret _ _ _ _ _ hf rfl hP hD hS dX7_now_71
  have hf := kv_f c3 hf
  by_cases c4 : p0 = 4
  · have hf := kv_t c4 hf
    refine lv_tableIn (off := 71) (tgt := 72) hx hb dX7_now_1 (by rw [c4]; decide) (by rw [c4]; decide) (by rw [c4]; rfl) (by decide) ?_
    refine lv_aload_n hx hb dX7_now_72 rfl (lv_at hl 0 rfl) ?_
    refine va_get (D := D) (ci := 7) (v := .ref (a 4 0)) (C := RX7) (T := TX7) (N := 10) hx hb hts iX7 hown hK hP 0 rfl rfl 2 (by decide) q0 (fun _ h9 => h9) rfl dX7_now_73 ?_
    obtain ⟨r3, hc, hf⟩ := kv_b1_e hf
    have hs9 : vv_Sub D H A (w_Told C (a 3) mT ++ w_Mom C (a 3) (a 4) mP) (w_Told C (a 3) mT ++ w_Mom C (a 3) (a 4) mP) (w_FR C a mX ++ (w_Told C (a 3) mT ++ w_Mom C (a 3) (a 4) mP)) := vv_Sub.part (ws := (w_FR C a mX ++ (w_Told C (a 3) mT ++ w_Mom C (a 3) (a 4) mP))) (wr := (w_FR C a mX)) [3, 4, 5, 6, 7, 8, 9, 10, 11, 12, 13, 14] [0, 1, 2] [0, 1, 2, 3, 4, 5, 6, 7, 8, 9, 10, 11, 12, 13, 14] hP hD hS hA rfl rfl (by decide) rfl
    refine vv_goi (wn := (w_FR C a mX ++ (w_Told C (a 3) mT ++ w_Mom C (a 3) (a 4) mP))) hK hs9 hS (vv_rV (As := []) (rest := []) hx hb hml hown hts hK hN hS hs9 (ccX3_howManyDry l D C H.size (a 3) (a 4) mT mP r3 hc) (cwV 0 hts gX7_now_X3_howManyDry rfl rfl rfl (by decide +kernel) ⟨(Nat.le_of_ble_eq_true rfl), (Nat.le_of_ble_eq_true rfl)⟩) (va_recv hK hP (ci := 3) (q0 := 10) rfl rfl) rfl hl.1 rfl (Nat.le_of_ble_eq_true rfl) dX7_now_76 ⟨Nat.zero_le _, Nat.zero_le _⟩) (fun H locs hP hD hS => ?_)
    exact hret _ _ _ _ _ hf rfl hP hD hS dX7_now_79
  have hf := kv_f c4 hf
  by_cases c5 : p0 = 5
  · have hf := kv_t c5 hf
    refine lv_tableIn (off := 79) (tgt := 80) hx hb dX7_now_1 (by rw [c5]; decide) (by rw [c5]; decide) (by rw [c5]; rfl) (by decide) ?_
    refine lv_aload_n hx hb dX7_now_80 rfl (lv_at hl 0 rfl) ?_
    refine va_get (D := D) (ci := 7) (v := .ref (a 4 0)) (C := RX7) (T := TX7) (N := 10) hx hb hts iX7 hown hK hP 0 rfl rfl 2 (by decide) q0 (fun _ h9 => h9) rfl dX7_now_81 ?_
    obtain ⟨r4, hc, hf⟩ := kv_b1_e hf
    have hs9 : vv_Sub D H A (w_Told C (a 3) mT ++ w_Mom C (a 3) (a 4) mP) (w_Told C (a 3) mT ++ w_Mom C (a 3) (a 4) mP) (w_FR C a mX ++ (w_Told C (a 3) mT ++ w_Mom C (a 3) (a 4) mP)) := vv_Sub.part (ws := (w_FR C a mX ++ (w_Told C (a 3) mT ++ w_Mom C (a 3) (a 4) mP))) (wr := (w_FR C a mX)) [3, 4, 5, 6, 7, 8, 9, 10, 11, 12, 13, 14] [0, 1, 2] [0, 1, 2, 3, 4, 5, 6, 7, 8, 9, 10, 11, 12, 13, 14] hP hD hS hA rfl rfl (by decide) rfl
    refine vv_goi (wn := (w_FR C a mX ++ (w_Told C (a 3) mT ++ w_Mom C (a 3) (a 4) mP))) hK hs9 hS (vv_rV (As := []) (rest := []) hx hb hml hown hts hK hN hS hs9 (ccX3_howManySmell l D C H.size (a 3) (a 4) mT mP r4 hc) (cwV 0 hts gX7_now_X3_howManySmell rfl rfl rfl (by decide +kernel) ⟨(Nat.le_of_ble_eq_true rfl), (Nat.le_of_ble_eq_true rfl)⟩) (va_recv hK hP (ci := 3) (q0 := 10) rfl rfl) rfl hl.1 rfl (Nat.le_of_ble_eq_true rfl) dX7_now_84 ⟨Nat.zero_le _, Nat.zero_le _⟩) (fun H locs hP hD hS => ?_)
    exact hret _ _ _ _ _ hf rfl hP hD hS dX7_now_87
  have hf := kv_f c5 hf
  refine lv_tableOut (tgt := 88) hx hb dX7_now_1 (by have a0 : p0.toInt ≠ 0 := kv_ti c0; have a1 : p0.toInt ≠ 1 := kv_ti c1; have a2 : p0.toInt ≠ 2 := kv_ti c2; have a3 : p0.toInt ≠ 3 := kv_ti c3; have a4 : p0.toInt ≠ 4 := kv_ti c4; have a5 : p0.toInt ≠ 5 := kv_ti c5; omega) (by decide) ?_
  refine lv_iconst (v := (-1)) hx hb dX7_now_88 (by decide) ?_
  exact hret _ _ _ _ _ hf rfl hP hD hS dX7_now_89
abbrev rX7_stepsWithoutRain : Room := { frames := 3, cells := 0, slots := 0, locals := 128 }
set_option maxHeartbeats 4000000 in
set_option maxRecDepth 100000 in
theorem ccX7_stepsWithoutRain (l : Launch) (D : va_G) (C : Nat → ClassId) (sz : Nat) (a : Nat → Nat → Nat) (mX : Mm) (mT : Mm) (mP : Mm) (mA : Mm) (rr : Int32) (oA : Mm) (hf : ffX7_stepsWithoutRain mX mT mP mA = some (rr, oA)) : Met l yX7_stepsWithoutRain wsX7_stepsWithoutRain rX7_stepsWithoutRain (va_Pc [.ref (a 0 0)] (vv_pre D C (w_FR C a mX ++ (w_Told C (a 3) mT ++ (w_Mom C (a 3) (a 4) mP ++ w_Mom C (a 3) (a 5) mA))) sz)) (vv_QI D C (w_FR C a mX ++ (w_Told C (a 3) mT ++ (w_Mom C (a 3) (a 4) mP ++ w_Mom C (a 3) (a 5) mA))) (w_FR C a mX ++ (w_Told C (a 3) mT ++ (w_Mom C (a 3) (a 4) mP ++ w_Mom C (a 3) (a 5) oA))) sz rr) 0 0 (va_A (w_FR C a mX ++ (w_Told C (a 3) mT ++ (w_Mom C (a 3) (a 4) mP ++ w_Mom C (a 3) (a 5) mA))) sz) := by
  unfold ffX7_stepsWithoutRain at hf
  refine vv_metI (cc := cX7_stepsWithoutRain) (maxL := 2) (ty := .int) (by decide) rfl (Nat.le_of_ble_eq_true rfl) ?_
  intro p e s m args below meth c A Q H locs ls hx hb hml hown hts hA hK hN hP hD hS hl hret
  have hown : s.vm.findClass RX7 = some m.cls := hown
  have hl : lv_has ls 2 [(0, .ref (a 0 0))] := hl
  have hret : ∀ (v0 : Int32) (v1 : Mm) (H : Heap) (locs : List Loc) (ls : Array Slot) (pc : Nat), some (v0, v1) = some (rr, oA) → narrow .int (.int v0) = .int v0 → va_P D vwCl (w_FR C a mX ++ (w_Told C (a 3) mT ++ (w_Mom C (a 3) (a 4) mP ++ w_Mom C (a 3) (a 5) v1))) H → va_D A (w_FR C a mX ++ (w_Told C (a 3) mT ++ (w_Mom C (a 3) (a 4) mP ++ w_Mom C (a 3) (a 5) v1))) → va_S A s.heap H locs → decode cX7_stepsWithoutRain pc = .ok (.ireturn, 1) → W p l e rX7_stepsWithoutRain s m args below meth c H locs 0 0 Q (F0 m pc ls [.int v0]) := by
    intro v0 v1 H locs ls pc h0 hn h1 h2 h3 h4
    cases h0
    exact hret H locs ls pc hn h1 h2 h3 h4
  have q0 := hts (.fieldLink RX7 32 "ForeRain" "ahead" "LForeRain$Moment;") (by decide +kernel)
  have q1 := hts (.fieldLink RX7 28 "ForeRain" "present" "LForeRain$Moment;") (by decide +kernel)
  have q2 := hts (.fieldLink RX7 19 "ForeRain" "told" "LForeRain$Told;") (by decide +kernel)
  have q3 := hts (.fieldLink RX7 150 "ForeRain$Moment" "step" "I") (by decide +kernel)
  have iX7 : ∀ w ∈ u_ws RX7 TX7 10, w ∈ wsX7_stepsWithoutRain := by decide +kernel
  have iX3 : ∀ w ∈ u_ws RX3 TX3 7, w ∈ wsX7_stepsWithoutRain := by decide +kernel
  refine lv_aload_n hx hb dX7_stepsWithoutRain_0 rfl (lv_at hl 0 rfl) ?_
  refine va_get (D := D) (ci := 7) (v := .ref (a 5 0)) (C := RX7) (T := TX7) (N := 10) hx hb hts iX7 hown hK hP 0 rfl rfl 3 (by decide) q0 (fun _ h9 => h9) rfl dX7_stepsWithoutRain_1 ?_
  refine lv_aload_n hx hb dX7_stepsWithoutRain_4 rfl (lv_at hl 0 rfl) ?_
  refine va_get (D := D) (ci := 7) (v := .ref (a 4 0)) (C := RX7) (T := TX7) (N := 10) hx hb hts iX7 hown hK hP 0 rfl rfl 2 (by decide) q1 (fun _ h9 => h9) rfl dX7_stepsWithoutRain_5 ?_
  obtain ⟨mA1, hc, hf⟩ := kv_b1_e hf
  have hs9 : vv_Sub D H A (w_Told C (a 3) mT ++ (w_Mom C (a 3) (a 5) mA ++ w_Mom C (a 3) (a 4) mP)) (w_Told C (a 3) mT ++ (w_Mom C (a 3) (a 5) mA1 ++ w_Mom C (a 3) (a 4) mP)) (w_FR C a mX ++ (w_Told C (a 3) mT ++ (w_Mom C (a 3) (a 4) mP ++ w_Mom C (a 3) (a 5) mA1))) := vv_Sub.part (ws := (w_FR C a mX ++ (w_Told C (a 3) mT ++ (w_Mom C (a 3) (a 4) mP ++ w_Mom C (a 3) (a 5) mA)))) (wr := (w_FR C a mX)) [3, 4, 5, 6, 7, 8, 9, 15, 16, 17, 18, 19, 10, 11, 12, 13, 14] [0, 1, 2] [0, 1, 2, 3, 4, 5, 6, 7, 8, 9, 15, 16, 17, 18, 19, 10, 11, 12, 13, 14] hP hD hS hA rfl rfl (by decide) rfl
  refine vv_gov (wn := (w_FR C a mX ++ (w_Told C (a 3) mT ++ (w_Mom C (a 3) (a 4) mP ++ w_Mom C (a 3) (a 5) mA1)))) hK hs9 hS (vv_rV (As := [.ref (a 4 0)]) (rest := []) hx hb hml hown hts hK hN hS hs9 (ccX3_copy l D C H.size (a 3) (a 5) (a 4) mT mA mP mA1 hc) (cwV 1 hts gX7_stepsWithoutRain_X3_copy rfl rfl rfl (by decide +kernel) ⟨(Nat.le_of_ble_eq_true rfl), (Nat.le_of_ble_eq_true rfl)⟩) (va_recv hK hP (ci := 3) (q0 := 15) rfl rfl) rfl hl.1 rfl (Nat.le_of_ble_eq_true rfl) dX7_stepsWithoutRain_8 ⟨Nat.zero_le _, Nat.zero_le _⟩) (fun H locs hP hD hS => ?_)
  refine lv_iconst (v := 0) hx hb dX7_stepsWithoutRain_11 (by decide) ?_
  refine lv_istore_n (lv' := [(1, .int 0), (0, .ref (a 0 0))]) hx hb dX7_stepsWithoutRain_12 rfl hl (by decide) rfl (fun ls hl => ?_)
  have L13 : ∀ (K13 : Int32 → Mm → Option (Int32 × Mm)), (∀ (x2 : Int32) (mA3 : Mm) (H : Heap) (locs : List Loc) (ls : Array Slot), va_P D vwCl (w_FR C a mX ++ (w_Told C (a 3) mT ++ (w_Mom C (a 3) (a 4) mP ++ w_Mom C (a 3) (a 5) mA3))) H → va_D A (w_FR C a mX ++ (w_Told C (a 3) mT ++ (w_Mom C (a 3) (a 4) mP ++ w_Mom C (a 3) (a 5) mA3))) → va_S A s.heap H locs → lv_has ls 2 [(1, .int x2), (0, .ref (a 0 0))] → K13 x2 mA3 = some (rr, oA) → W p l e rX7_stepsWithoutRain s m args below meth c H locs 0 0 Q (F0 m 65 ls [])) → ∀ (n : Nat) (x2 : Int32) (mA3 : Mm) (H : Heap) (locs : List Loc) (ls : Array Slot), va_P D vwCl (w_FR C a mX ++ (w_Told C (a 3) mT ++ (w_Mom C (a 3) (a 4) mP ++ w_Mom C (a 3) (a 5) mA3))) H → va_D A (w_FR C a mX ++ (w_Told C (a 3) mT ++ (w_Mom C (a 3) (a 4) mP ++ w_Mom C (a 3) (a 5) mA3))) → va_S A s.heap H locs → lv_has ls 2 [(1, .int x2), (0, .ref (a 0 0))] → ffX7_stepsWithoutRain_L13 mT K13 n x2 mA3 = some (rr, oA) → W p l e rX7_stepsWithoutRain s m args below meth c H locs 0 0 Q (F0 m 13 ls []) := by
    intro K13 hK9 n
    induction n with
    | zero => intro x2 mA3 H locs ls hP hD hS hl hf; exact kv_no hf
    | succ n ih =>
      intro x2 mA3 H locs ls hP hD hS hl hf
      rw [ffX7_stepsWithoutRain_L13_s] at hf
      refine lv_iload_n hx hb dX7_stepsWithoutRain_13 rfl (lv_at hl 0 rfl) ?_
      refine lv_bipush (v := 99) hx hb dX7_stepsWithoutRain_14 (by decide) ?_
      refine lv_icmp_gt (tgt := 65) hx hb dX7_stepsWithoutRain_16 (by decide) (fun hc => ?_) (fun hc => ?_)
      · have hf := kv_t hc hf
        exact hK9 _ _ _ _ _ hP hD hS (lv_sub hl [0, 1] rfl) hf
      · have hf := kv_f hc hf
        refine lv_aload_n hx hb dX7_stepsWithoutRain_19 rfl (lv_at hl 1 rfl) ?_
        refine va_get (D := D) (ci := 7) (v := .ref (a 5 0)) (C := RX7) (T := TX7) (N := 10) hx hb hts iX7 hown hK hP 0 rfl rfl 3 (by decide) q0 (fun _ h9 => h9) rfl dX7_stepsWithoutRain_20 ?_
        obtain ⟨r4, hc, hf⟩ := kv_b1_e hf
        have hs9 : vv_Sub D H A (w_Told C (a 3) mT ++ w_Mom C (a 3) (a 5) mA3) (w_Told C (a 3) mT ++ w_Mom C (a 3) (a 5) mA3) (w_FR C a mX ++ (w_Told C (a 3) mT ++ (w_Mom C (a 3) (a 4) mP ++ w_Mom C (a 3) (a 5) mA3))) := vv_Sub.part (ws := (w_FR C a mX ++ (w_Told C (a 3) mT ++ (w_Mom C (a 3) (a 4) mP ++ w_Mom C (a 3) (a 5) mA3)))) (wr := (w_FR C a mX ++ w_Mom C (a 3) (a 4) mP)) [3, 4, 5, 6, 7, 8, 9, 15, 16, 17, 18, 19] [0, 1, 2, 10, 11, 12, 13, 14] [0, 1, 2, 8, 9, 10, 11, 12, 13, 14, 3, 4, 5, 6, 7, 15, 16, 17, 18, 19] hP hD hS hA rfl rfl (by decide) rfl
        refine vv_goi (wn := (w_FR C a mX ++ (w_Told C (a 3) mT ++ (w_Mom C (a 3) (a 4) mP ++ w_Mom C (a 3) (a 5) mA3)))) hK hs9 hS (vv_rV (As := []) (rest := []) hx hb hml hown hts hK hN hS hs9 (ccX3_wetOnLine l D C H.size (a 3) (a 5) mT mA3 r4 hc) (cwV 0 hts gX7_stepsWithoutRain_X3_wetOnLine rfl rfl rfl (by decide +kernel) ⟨(Nat.le_of_ble_eq_true rfl), (Nat.le_of_ble_eq_true rfl)⟩) (va_recv hK hP (ci := 3) (q0 := 15) rfl rfl) rfl hl.1 rfl (Nat.le_of_ble_eq_true rfl) dX7_stepsWithoutRain_23 ⟨Nat.zero_le _, Nat.zero_le _⟩) (fun H locs hP hD hS => ?_)
        refine lv_if_ne (tgt := 31) hx hb dX7_stepsWithoutRain_26 (by decide) (fun hc => ?_) (fun hc => ?_)
        · have hf := kv_f hc hf
          refine lv_aload_n hx hb dX7_stepsWithoutRain_31 rfl (lv_at hl 1 rfl) ?_
          refine va_get (D := D) (ci := 7) (v := .ref (a 3 0)) (C := RX7) (T := TX7) (N := 10) hx hb hts iX7 hown hK hP 0 rfl rfl 1 (by decide) q2 (fun _ h9 => h9) rfl dX7_stepsWithoutRain_32 ?_
          refine lv_aload_n hx hb dX7_stepsWithoutRain_35 rfl (lv_at hl 1 rfl) ?_
          refine va_get (D := D) (ci := 7) (v := .ref (a 5 0)) (C := RX7) (T := TX7) (N := 10) hx hb hts iX7 hown hK hP 0 rfl rfl 3 (by decide) q0 (fun _ h9 => h9) rfl dX7_stepsWithoutRain_36 ?_
          refine va_get (D := D) (ci := 3) (v := .int (mA3 0 1)) (C := RX3) (T := TX3) (N := 7) hx hb hts iX3 hown hK hP 15 rfl rfl 1 (by decide) q3 (fun _ h9 => h9) rfl dX7_stepsWithoutRain_39 ?_
          obtain ⟨r5, hc, hf⟩ := kv_b1_e hf
          have hs9 : vv_Sub D H A (w_Told C (a 3) mT) (w_Told C (a 3) mT) (w_FR C a mX ++ (w_Told C (a 3) mT ++ (w_Mom C (a 3) (a 4) mP ++ w_Mom C (a 3) (a 5) mA3))) := vv_Sub.part (ws := (w_FR C a mX ++ (w_Told C (a 3) mT ++ (w_Mom C (a 3) (a 4) mP ++ w_Mom C (a 3) (a 5) mA3)))) (wr := (w_FR C a mX ++ (w_Mom C (a 3) (a 4) mP ++ w_Mom C (a 3) (a 5) mA3))) [3, 4, 5, 6, 7, 8, 9] [0, 1, 2, 10, 11, 12, 13, 14, 15, 16, 17, 18, 19] [0, 1, 2, 13, 14, 15, 16, 17, 18, 19, 3, 4, 5, 6, 7, 8, 9, 10, 11, 12] hP hD hS hA rfl rfl (by decide) rfl
          refine vv_goi (wn := (w_FR C a mX ++ (w_Told C (a 3) mT ++ (w_Mom C (a 3) (a 4) mP ++ w_Mom C (a 3) (a 5) mA3)))) hK hs9 hS (vv_rV (As := [.int (mA3 0 1)]) (rest := []) hx hb hml hown hts hK hN hS hs9 (ccX6_skyIn l D C H.size (a 3) mT (mA3 0 1) r5 hc) (cwV 1 hts gX7_stepsWithoutRain_X6_skyIn rfl rfl rfl (by decide +kernel) ⟨(Nat.le_of_ble_eq_true rfl), (Nat.le_of_ble_eq_true rfl)⟩) (va_recv hK hP (ci := 6) (q0 := 3) rfl rfl) rfl hl.1 rfl (Nat.le_of_ble_eq_true rfl) dX7_stepsWithoutRain_42 ⟨Nat.zero_le _, Nat.zero_le _⟩) (fun H locs hP hD hS => ?_)
          refine lv_if_ge (tgt := 51) hx hb dX7_stepsWithoutRain_45 (by decide) (fun hc => ?_) (fun hc => ?_)
          · have hf := kv_t hc hf
            refine lv_aload_n hx hb dX7_stepsWithoutRain_51 rfl (lv_at hl 1 rfl) ?_
            refine va_get (D := D) (ci := 7) (v := .ref (a 5 0)) (C := RX7) (T := TX7) (N := 10) hx hb hts iX7 hown hK hP 0 rfl rfl 3 (by decide) q0 (fun _ h9 => h9) rfl dX7_stepsWithoutRain_52 ?_
            obtain ⟨r6, mA7, hc, hf⟩ := kv_b2_e hf
            have hs9 : vv_Sub D H A (w_Told C (a 3) mT ++ w_Mom C (a 3) (a 5) mA3) (w_Told C (a 3) mT ++ w_Mom C (a 3) (a 5) mA7) (w_FR C a mX ++ (w_Told C (a 3) mT ++ (w_Mom C (a 3) (a 4) mP ++ w_Mom C (a 3) (a 5) mA7))) := vv_Sub.part (ws := (w_FR C a mX ++ (w_Told C (a 3) mT ++ (w_Mom C (a 3) (a 4) mP ++ w_Mom C (a 3) (a 5) mA3)))) (wr := (w_FR C a mX ++ w_Mom C (a 3) (a 4) mP)) [3, 4, 5, 6, 7, 8, 9, 15, 16, 17, 18, 19] [0, 1, 2, 10, 11, 12, 13, 14] [0, 1, 2, 8, 9, 10, 11, 12, 13, 14, 3, 4, 5, 6, 7, 15, 16, 17, 18, 19] hP hD hS hA rfl rfl (by decide) rfl
            refine vv_goi (wn := (w_FR C a mX ++ (w_Told C (a 3) mT ++ (w_Mom C (a 3) (a 4) mP ++ w_Mom C (a 3) (a 5) mA7)))) hK hs9 hS (vv_rV (As := []) (rest := []) hx hb hml hown hts hK hN hS hs9 (ccX3_pass l D C H.size (a 3) (a 5) mT mA3 r6 mA7 hc) (cwV 0 hts gX7_stepsWithoutRain_X3_pass rfl rfl rfl (by decide +kernel) ⟨(Nat.le_of_ble_eq_true rfl), (Nat.le_of_ble_eq_true rfl)⟩) (va_recv hK hP (ci := 3) (q0 := 15) rfl rfl) rfl hl.1 rfl (Nat.le_of_ble_eq_true rfl) dX7_stepsWithoutRain_55 ⟨Nat.zero_le _, Nat.zero_le _⟩) (fun H locs hP hD hS => ?_)
            refine lv_pop hx hb dX7_stepsWithoutRain_58 rfl ?_
            obtain ⟨x8, ex8, hf⟩ := kv_lt_e hf
            refine lv_iinc (v := x8) (lv' := [(1, .int x8), (0, .ref (a 0 0))]) hx hb dX7_stepsWithoutRain_59 hl (k := 0) rfl (by rw [ex8]; rfl) (by decide) rfl (fun ls hl => ?_)
            refine lv_goto (tgt := 13) hx hb dX7_stepsWithoutRain_62 (by decide) ?_
            exact ih _ _ _ _ _ hP hD hS (lv_sub hl [0, 1] rfl) hf
          · have hf := kv_f hc hf
            refine lv_bipush (v := (-9)) hx hb dX7_stepsWithoutRain_48 (by decide) ?_
            exact hret _ _ _ _ _ _ hf rfl hP hD hS dX7_stepsWithoutRain_50
        · have hf := kv_t hc hf
          refine lv_iload_n hx hb dX7_stepsWithoutRain_29 rfl (lv_at hl 0 rfl) ?_
          exact hret _ _ _ _ _ _ hf rfl hP hD hS dX7_stepsWithoutRain_30
  refine L13 _ (fun x9 mA10 H locs ls hP hD hS hl hf => ?_) _ _ _ _ _ _ hP hD hS (lv_sub hl [0, 1] rfl) hf
  refine lv_bipush (v := (-9)) hx hb dX7_stepsWithoutRain_65 (by decide) ?_
  exact hret _ _ _ _ _ _ hf rfl hP hD hS dX7_stepsWithoutRain_67
abbrev rX7_power : Room := { frames := 0, cells := 0, slots := 0, locals := 0 }
set_option maxHeartbeats 4000000 in
set_option maxRecDepth 100000 in
theorem ccX7_power (l : Launch) (D : va_G) (C : Nat → ClassId) (sz : Nat) (p0 : Int32) (p1 : Int32) (rr : Int64) (hf : ffX7_power p0 p1 = some (rr)) : Met l yX7_power wsX7_power rX7_power (va_Pc [.int p0, .int p1] (vv_pre D C ([] : va_W) sz)) (vv_QL D C ([] : va_W) ([] : va_W) sz rr) 0 0 (va_A ([] : va_W) sz) := by
  unfold ffX7_power at hf
  refine vv_metL (cc := cX7_power) (maxL := 5) (by decide) rfl (Nat.le_of_ble_eq_true rfl) ?_
  intro p e s m args below meth c A Q H locs ls hx hb hml hown hts hA hK hN hP hD hS hl hret
  have hown : s.vm.findClass RX7 = some m.cls := hown
  have hl : lv_has ls 5 [(0, .int p0), (1, .int p1)] := hl
  have hret : ∀ (v0 : Int64) (H : Heap) (locs : List Loc) (ls : Array Slot) (pc : Nat), some (v0) = some (rr) → va_P D vwCl ([] : va_W) H → va_D A ([] : va_W) → va_S A s.heap H locs → decode cX7_power pc = .ok (.lreturn, 1) → W p l e rX7_power s m args below meth c H locs 0 0 Q (F0 m pc ls [.long v0]) := by
    intro v0 H locs ls pc h0 h1 h2 h3 h4
    cases h0
    exact hret H locs ls pc h1 h2 h3 h4
  refine lv_lconst (v := 1) hx hb dX7_power_0 (by decide) ?_
  refine lv_lstore_n (lv' := [(2, .long 1), (0, .int p0), (1, .int p1)]) hx hb dX7_power_1 rfl hl (by decide) rfl (fun ls hl => ?_)
  refine lv_iconst (v := 0) hx hb dX7_power_2 (by decide) ?_
  refine lv_istore (lv' := [(4, .int 0), (2, .long 1), (0, .int p0), (1, .int p1)]) hx hb dX7_power_3 hl (by decide) rfl (fun ls hl => ?_)
  have L5 : ∀ (K5 : Int32 → Int64 → Option (Int64)), (∀ (x1 : Int32) (x2 : Int64) (H : Heap) (locs : List Loc) (ls : Array Slot), va_P D vwCl ([] : va_W) H → va_D A ([] : va_W) → va_S A s.heap H locs → lv_has ls 5 [(4, .int x1), (2, .long x2), (0, .int p0), (1, .int p1)] → K5 x1 x2 = some (rr) → W p l e rX7_power s m args below meth c H locs 0 0 Q (F0 m 22 ls [])) → ∀ (n : Nat) (x1 : Int32) (x2 : Int64) (H : Heap) (locs : List Loc) (ls : Array Slot), va_P D vwCl ([] : va_W) H → va_D A ([] : va_W) → va_S A s.heap H locs → lv_has ls 5 [(4, .int x1), (2, .long x2), (0, .int p0), (1, .int p1)] → ffX7_power_L5 p0 p1 K5 n x1 x2 = some (rr) → W p l e rX7_power s m args below meth c H locs 0 0 Q (F0 m 5 ls []) := by
    intro K5 hK9 n
    induction n with
    | zero => intro x1 x2 H locs ls hP hD hS hl hf; exact kv_no hf
    | succ n ih =>
      intro x1 x2 H locs ls hP hD hS hl hf
      rw [ffX7_power_L5_s] at hf
      refine lv_iload hx hb dX7_power_5 (lv_at hl 0 rfl) ?_
      refine lv_iload_n hx hb dX7_power_7 rfl (lv_at hl 3 rfl) ?_
      refine lv_icmp_ge (tgt := 22) hx hb dX7_power_8 (by decide) (fun hc => ?_) (fun hc => ?_)
      · have hf := kv_t hc hf
        exact hK9 _ _ _ _ _ hP hD hS (lv_sub hl [0, 1, 2, 3] rfl) hf
      · have hf := kv_f hc hf
        refine lv_lload_n hx hb dX7_power_11 rfl (lv_at hl 1 rfl) ?_
        refine lv_iload_n hx hb dX7_power_12 rfl (lv_at hl 2 rfl) ?_
        refine lv_i2l hx hb dX7_power_13 rfl ?_
        refine lv_lmul hx hb dX7_power_14 ?_
        obtain ⟨x3, ex3, hf⟩ := kv_lt_e hf
        refine vv_naml ex3 ?_
        refine lv_lstore_n (lv' := [(2, .long x3), (4, .int x1), (0, .int p0), (1, .int p1)]) hx hb dX7_power_15 rfl hl (by decide) rfl (fun ls hl => ?_)
        obtain ⟨x4, ex4, hf⟩ := kv_lt_e hf
        refine lv_iinc (v := x4) (lv' := [(4, .int x4), (2, .long x3), (0, .int p0), (1, .int p1)]) hx hb dX7_power_16 hl (k := 1) rfl (by rw [ex4]; rfl) (by decide) rfl (fun ls hl => ?_)
        refine lv_goto (tgt := 5) hx hb dX7_power_19 (by decide) ?_
        exact ih _ _ _ _ _ hP hD hS (lv_sub hl [0, 1, 2, 3] rfl) hf
  refine L5 _ (fun x5 x6 H locs ls hP hD hS hl hf => ?_) _ _ _ _ _ _ hP hD hS (lv_sub hl [0, 1, 2, 3] rfl) hf
  refine lv_lload_n hx hb dX7_power_22 rfl (lv_at hl 1 rfl) ?_
  exact hret _ _ _ _ _ hf hP hD hS dX7_power_23
abbrev rX7_odds : Room := { frames := 4, cells := 0, slots := 0, locals := 149 }
set_option maxHeartbeats 4000000 in
set_option maxRecDepth 100000 in
theorem ccX7_odds (l : Launch) (D : va_G) (C : Nat → ClassId) (sz : Nat) (a : Nat → Nat → Nat) (mX : Mm) (mT : Mm) (mP : Mm) (mA : Mm) (p0 : Int32) (p1 : Int32) (p2 : Int32) (rr : Int64) (oA : Mm) (hf : ffX7_odds p0 p1 p2 mX mT mP mA = some (rr, oA)) : Met l yX7_odds wsX7_odds rX7_odds (va_Pc [.ref (a 0 0), .int p0, .int p1, .int p2] (vv_pre D C (w_FR C a mX ++ (w_Told C (a 3) mT ++ (w_Mom C (a 3) (a 4) mP ++ w_Mom C (a 3) (a 5) mA))) sz)) (vv_QL D C (w_FR C a mX ++ (w_Told C (a 3) mT ++ (w_Mom C (a 3) (a 4) mP ++ w_Mom C (a 3) (a 5) mA))) (w_FR C a mX ++ (w_Told C (a 3) mT ++ (w_Mom C (a 3) (a 4) mP ++ w_Mom C (a 3) (a 5) oA))) sz rr) 0 0 (va_A (w_FR C a mX ++ (w_Told C (a 3) mT ++ (w_Mom C (a 3) (a 4) mP ++ w_Mom C (a 3) (a 5) mA))) sz) := by
  unfold ffX7_odds at hf
  refine vv_metL (cc := cX7_odds) (maxL := 6) (by decide) rfl (Nat.le_of_ble_eq_true rfl) ?_
  intro p e s m args below meth c A Q H locs ls hx hb hml hown hts hA hK hN hP hD hS hl hret
  have hown : s.vm.findClass RX7 = some m.cls := hown
  have hl : lv_has ls 6 [(0, .ref (a 0 0)), (1, .int p0), (2, .int p1), (3, .int p2)] := hl
  have hret : ∀ (v0 : Int64) (v1 : Mm) (H : Heap) (locs : List Loc) (ls : Array Slot) (pc : Nat), some (v0, v1) = some (rr, oA) → va_P D vwCl (w_FR C a mX ++ (w_Told C (a 3) mT ++ (w_Mom C (a 3) (a 4) mP ++ w_Mom C (a 3) (a 5) v1))) H → va_D A (w_FR C a mX ++ (w_Told C (a 3) mT ++ (w_Mom C (a 3) (a 4) mP ++ w_Mom C (a 3) (a 5) v1))) → va_S A s.heap H locs → decode cX7_odds pc = .ok (.lreturn, 1) → W p l e rX7_odds s m args below meth c H locs 0 0 Q (F0 m pc ls [.long v0]) := by
    intro v0 v1 H locs ls pc h0 h1 h2 h3 h4
    cases h0
    exact hret H locs ls pc h1 h2 h3 h4
  have q0 := hts (.constantLong RX7 191 (-1)) (by decide +kernel)
  have q1 := hts (.fieldLink RX7 28 "ForeRain" "present" "LForeRain$Moment;") (by decide +kernel)
  have q2 := hts (.constantLong RX7 193 (-2)) (by decide +kernel)
  have iX7 : ∀ w ∈ u_ws RX7 TX7 10, w ∈ wsX7_odds := by decide +kernel
  refine lv_iload_n hx hb dX7_odds_0 rfl (lv_at hl 2 rfl) ?_
  refine lv_iconst (v := 1) hx hb dX7_odds_1 (by decide) ?_
  refine lv_bipush (v := 9) hx hb dX7_odds_2 (by decide) ?_
  obtain ⟨r1, hc, hf⟩ := kv_b1_e hf
  have hs9 : vv_Sub D H A ([] : va_W) ([] : va_W) (w_FR C a mX ++ (w_Told C (a 3) mT ++ (w_Mom C (a 3) (a 4) mP ++ w_Mom C (a 3) (a 5) mA))) := vv_Sub.none hP hD hS hA
  refine vv_goi (wn := (w_FR C a mX ++ (w_Told C (a 3) mT ++ (w_Mom C (a 3) (a 4) mP ++ w_Mom C (a 3) (a 5) mA)))) hK hs9 hS (vv_rS (As := [.int p1, .int 1, .int 9]) (rest := []) hx hb hml hown hts hK hN hS hs9 (ccX7_within l D C H.size p1 (1 : Int32) (9 : Int32) r1 hc) (va_cwS 3 hts gX7_odds_X7_within rfl rfl rfl (by decide +kernel) ⟨(Nat.le_of_ble_eq_true rfl), (Nat.le_of_ble_eq_true rfl)⟩) rfl hl.1 rfl (Nat.le_of_ble_eq_true rfl) dX7_odds_4 ⟨Nat.zero_le _, Nat.zero_le _⟩) (fun H locs hP hD hS => ?_)
  refine lv_if_eq (tgt := 28) hx hb dX7_odds_7 (by decide) (fun hc => ?_) (fun hc => ?_)
  · have hf := kv_t hc hf
    refine lv_ldc2 (v := (-1)) hx hb hown q0 dX7_odds_28 ?_
    exact hret _ _ _ _ _ _ hf hP hD hS dX7_odds_31
  · have hf := kv_f hc hf
    refine lv_iload_n hx hb dX7_odds_10 rfl (lv_at hl 1 rfl) ?_
    refine lv_iconst (v := 0) hx hb dX7_odds_11 (by decide) ?_
    refine lv_iload_n hx hb dX7_odds_12 rfl (lv_at hl 2 rfl) ?_
    obtain ⟨r2, hc, hf⟩ := kv_b1_e hf
    have hs9 : vv_Sub D H A ([] : va_W) ([] : va_W) (w_FR C a mX ++ (w_Told C (a 3) mT ++ (w_Mom C (a 3) (a 4) mP ++ w_Mom C (a 3) (a 5) mA))) := vv_Sub.none hP hD hS hA
    refine vv_goi (wn := (w_FR C a mX ++ (w_Told C (a 3) mT ++ (w_Mom C (a 3) (a 4) mP ++ w_Mom C (a 3) (a 5) mA)))) hK hs9 hS (vv_rS (As := [.int p0, .int 0, .int p1]) (rest := []) hx hb hml hown hts hK hN hS hs9 (ccX7_within l D C H.size p0 (0 : Int32) p1 r2 hc) (va_cwS 3 hts gX7_odds_X7_within rfl rfl rfl (by decide +kernel) ⟨(Nat.le_of_ble_eq_true rfl), (Nat.le_of_ble_eq_true rfl)⟩) rfl hl.1 rfl (Nat.le_of_ble_eq_true rfl) dX7_odds_13 ⟨Nat.zero_le _, Nat.zero_le _⟩) (fun H locs hP hD hS => ?_)
    refine lv_if_eq (tgt := 28) hx hb dX7_odds_16 (by decide) (fun hc => ?_) (fun hc => ?_)
    · have hf := kv_t hc hf
      refine lv_ldc2 (v := (-1)) hx hb hown q0 dX7_odds_28 ?_
      exact hret _ _ _ _ _ _ hf hP hD hS dX7_odds_31
    · have hf := kv_f hc hf
      refine lv_iload_n hx hb dX7_odds_19 rfl (lv_at hl 3 rfl) ?_
      refine lv_iconst (v := 0) hx hb dX7_odds_20 (by decide) ?_
      refine lv_iconst (v := 1) hx hb dX7_odds_21 (by decide) ?_
      obtain ⟨r3, hc, hf⟩ := kv_b1_e hf
      have hs9 : vv_Sub D H A ([] : va_W) ([] : va_W) (w_FR C a mX ++ (w_Told C (a 3) mT ++ (w_Mom C (a 3) (a 4) mP ++ w_Mom C (a 3) (a 5) mA))) := vv_Sub.none hP hD hS hA
      refine vv_goi (wn := (w_FR C a mX ++ (w_Told C (a 3) mT ++ (w_Mom C (a 3) (a 4) mP ++ w_Mom C (a 3) (a 5) mA)))) hK hs9 hS (vv_rS (As := [.int p2, .int 0, .int 1]) (rest := []) hx hb hml hown hts hK hN hS hs9 (ccX7_within l D C H.size p2 (0 : Int32) (1 : Int32) r3 hc) (va_cwS 3 hts gX7_odds_X7_within rfl rfl rfl (by decide +kernel) ⟨(Nat.le_of_ble_eq_true rfl), (Nat.le_of_ble_eq_true rfl)⟩) rfl hl.1 rfl (Nat.le_of_ble_eq_true rfl) dX7_odds_22 ⟨Nat.zero_le _, Nat.zero_le _⟩) (fun H locs hP hD hS => ?_)
      refine lv_if_ne (tgt := 32) hx hb dX7_odds_25 (by decide) (fun hc => ?_) (fun hc => ?_)
      · have hf := kv_f hc hf
        refine lv_aload_n hx hb dX7_odds_32 rfl (lv_at hl 0 rfl) ?_
        refine va_get (D := D) (ci := 7) (v := .ref (a 4 0)) (C := RX7) (T := TX7) (N := 10) hx hb hts iX7 hown hK hP 0 rfl rfl 2 (by decide) q1 (fun _ h9 => h9) rfl dX7_odds_33 ?_
        obtain ⟨r4, hc, hf⟩ := kv_b1_e hf
        have hs9 : vv_Sub D H A (w_Told C (a 3) mT ++ w_Mom C (a 3) (a 4) mP) (w_Told C (a 3) mT ++ w_Mom C (a 3) (a 4) mP) (w_FR C a mX ++ (w_Told C (a 3) mT ++ (w_Mom C (a 3) (a 4) mP ++ w_Mom C (a 3) (a 5) mA))) := vv_Sub.part (ws := (w_FR C a mX ++ (w_Told C (a 3) mT ++ (w_Mom C (a 3) (a 4) mP ++ w_Mom C (a 3) (a 5) mA)))) (wr := (w_FR C a mX ++ w_Mom C (a 3) (a 5) mA)) [3, 4, 5, 6, 7, 8, 9, 10, 11, 12, 13, 14] [0, 1, 2, 15, 16, 17, 18, 19] [0, 1, 2, 8, 9, 10, 11, 12, 13, 14, 15, 16, 17, 18, 19, 3, 4, 5, 6, 7] hP hD hS hA rfl rfl (by decide) rfl
        refine vv_goi (wn := (w_FR C a mX ++ (w_Told C (a 3) mT ++ (w_Mom C (a 3) (a 4) mP ++ w_Mom C (a 3) (a 5) mA)))) hK hs9 hS (vv_rV (As := []) (rest := []) hx hb hml hown hts hK hN hS hs9 (ccX3_onLine l D C H.size (a 3) (a 4) mT mP r4 hc) (cwV 0 hts gX7_odds_X3_onLine rfl rfl rfl (by decide +kernel) ⟨(Nat.le_of_ble_eq_true rfl), (Nat.le_of_ble_eq_true rfl)⟩) (va_recv hK hP (ci := 3) (q0 := 10) rfl rfl) rfl hl.1 rfl (Nat.le_of_ble_eq_true rfl) dX7_odds_36 ⟨Nat.zero_le _, Nat.zero_le _⟩) (fun H locs hP hD hS => ?_)
        refine lv_if_ne (tgt := 46) hx hb dX7_odds_39 (by decide) (fun hc => ?_) (fun hc => ?_)
        · have hf := kv_f hc hf
          refine lv_aload_n hx hb dX7_odds_46 rfl (lv_at hl 0 rfl) ?_
          obtain ⟨r5, mA6, hc, hf⟩ := kv_b2_e hf
          have hs9 : vv_Sub D H A (w_FR C a mX ++ (w_Told C (a 3) mT ++ (w_Mom C (a 3) (a 4) mP ++ w_Mom C (a 3) (a 5) mA))) (w_FR C a mX ++ (w_Told C (a 3) mT ++ (w_Mom C (a 3) (a 4) mP ++ w_Mom C (a 3) (a 5) mA6))) (w_FR C a mX ++ (w_Told C (a 3) mT ++ (w_Mom C (a 3) (a 4) mP ++ w_Mom C (a 3) (a 5) mA6))) := vv_Sub.same (w_FR C a mX ++ (w_Told C (a 3) mT ++ (w_Mom C (a 3) (a 4) mP ++ w_Mom C (a 3) (a 5) mA6))) hP hD hS hA
          refine vv_goi (wn := (w_FR C a mX ++ (w_Told C (a 3) mT ++ (w_Mom C (a 3) (a 4) mP ++ w_Mom C (a 3) (a 5) mA6)))) hK hs9 hS (vv_rV (As := []) (rest := []) hx hb hml hown hts hK hN hS hs9 (ccX7_stepsWithoutRain l D C H.size a mX mT mP mA r5 mA6 hc) (cwV 0 hts gX7_odds_X7_stepsWithoutRain rfl rfl rfl (by decide +kernel) ⟨(Nat.le_of_ble_eq_true rfl), (Nat.le_of_ble_eq_true rfl)⟩) (va_recv hK hP (ci := 7) (q0 := 0) rfl rfl) rfl hl.1 rfl (Nat.le_of_ble_eq_true rfl) dX7_odds_47 ⟨Nat.zero_le _, Nat.zero_le _⟩) (fun H locs hP hD hS => ?_)
          refine lv_istore (lv' := [(4, .int r5), (0, .ref (a 0 0)), (1, .int p0), (2, .int p1), (3, .int p2)]) hx hb dX7_odds_50 hl (by decide) rfl (fun ls hl => ?_)
          refine lv_iload hx hb dX7_odds_52 (lv_at hl 0 rfl) ?_
          refine lv_bipush (v := (-9)) hx hb dX7_odds_54 (by decide) ?_
          refine lv_icmp_ne (tgt := 69) hx hb dX7_odds_56 (by decide) (fun hc => ?_) (fun hc => ?_)
          · have hf := kv_f hc hf
            refine lv_iload hx hb dX7_odds_69 (lv_at hl 0 rfl) ?_
            refine lv_bipush (v := 18) hx hb dX7_odds_71 (by decide) ?_
            refine lv_icmp_le (tgt := 80) hx hb dX7_odds_73 (by decide) (fun hc => ?_) (fun hc => ?_)
            · have hf := kv_t hc hf
              refine lv_iload_n hx hb dX7_odds_80 rfl (lv_at hl 3 rfl) ?_
              refine lv_iload_n hx hb dX7_odds_81 rfl (lv_at hl 2 rfl) ?_
              refine lv_isub hx hb dX7_odds_82 ?_
              refine lv_iload_n hx hb dX7_odds_83 rfl (lv_at hl 3 rfl) ?_
              obtain ⟨r7, hc, hf⟩ := kv_b1_e hf
              have hs9 : vv_Sub D H A ([] : va_W) ([] : va_W) (w_FR C a mX ++ (w_Told C (a 3) mT ++ (w_Mom C (a 3) (a 4) mP ++ w_Mom C (a 3) (a 5) mA6))) := vv_Sub.none hP hD hS hA
              refine vv_goi (wn := (w_FR C a mX ++ (w_Told C (a 3) mT ++ (w_Mom C (a 3) (a 4) mP ++ w_Mom C (a 3) (a 5) mA6)))) hK hs9 hS (vv_rS (As := [.int (p1 - p0), .int p1]) (rest := []) hx hb hml hown hts hK hN hS hs9 (ccX7_commonDivisor l D C H.size (p1 - p0) p1 r7 hc) (va_cwS 2 hts gX7_odds_X7_commonDivisor rfl rfl rfl (by decide +kernel) ⟨(Nat.le_of_ble_eq_true rfl), (Nat.le_of_ble_eq_true rfl)⟩) rfl hl.1 rfl (Nat.le_of_ble_eq_true rfl) dX7_odds_84 ⟨Nat.zero_le _, Nat.zero_le _⟩) (fun H locs hP hD hS => ?_)
              refine lv_istore (lv' := [(5, .int r7), (4, .int r5), (0, .ref (a 0 0)), (1, .int p0), (2, .int p1), (3, .int p2)]) hx hb dX7_odds_87 hl (by decide) rfl (fun ls hl => ?_)
              refine lv_iload_n hx hb dX7_odds_89 rfl (lv_at hl 5 rfl) ?_
              obtain ⟨k100_8, ek100_8, hf⟩ := kv_lt_e hf
              have J100_8 : ∀ (x9 : Int32) (H : Heap) (locs : List Loc) (ls : Array Slot), va_P D vwCl (w_FR C a mX ++ (w_Told C (a 3) mT ++ (w_Mom C (a 3) (a 4) mP ++ w_Mom C (a 3) (a 5) mA6))) H → va_D A (w_FR C a mX ++ (w_Told C (a 3) mT ++ (w_Mom C (a 3) (a 4) mP ++ w_Mom C (a 3) (a 5) mA6))) → va_S A s.heap H locs → lv_has ls 6 [(5, .int r7), (4, .int r5)] → k100_8 x9 = some (rr, oA) → W p l e rX7_odds s m args below meth c H locs 0 0 Q (F0 m 100 ls [.int x9]) := by
                intro x9 H locs ls hP hD hS hl hf
                rw [ek100_8] at hf
                refine lv_iload hx hb dX7_odds_100 (lv_at hl 0 rfl) ?_
                obtain ⟨h9, hf⟩ := kv_nz_e hf
                refine lv_idiv hx hb dX7_odds_102 h9 ?_
                refine lv_iload hx hb dX7_odds_103 (lv_at hl 1 rfl) ?_
                obtain ⟨r10, hc, hf⟩ := kv_b1_e hf
                have hs9 : vv_Sub D H A ([] : va_W) ([] : va_W) (w_FR C a mX ++ (w_Told C (a 3) mT ++ (w_Mom C (a 3) (a 4) mP ++ w_Mom C (a 3) (a 5) mA6))) := vv_Sub.none hP hD hS hA
                refine vv_gol (wn := (w_FR C a mX ++ (w_Told C (a 3) mT ++ (w_Mom C (a 3) (a 4) mP ++ w_Mom C (a 3) (a 5) mA6)))) hK hs9 hS (vv_rS (As := [.int (x9 / r7), .int r5]) (rest := []) hx hb hml hown hts hK hN hS hs9 (ccX7_power l D C H.size (x9 / r7) r5 r10 hc) (va_cwS 2 hts gX7_odds_X7_power rfl rfl rfl (by decide +kernel) ⟨(Nat.le_of_ble_eq_true rfl), (Nat.le_of_ble_eq_true rfl)⟩) rfl hl.1 rfl (Nat.le_of_ble_eq_true rfl) dX7_odds_105 ⟨Nat.zero_le _, Nat.zero_le _⟩) (fun H locs hP hD hS => ?_)
                exact hret _ _ _ _ _ _ hf hP hD hS dX7_odds_108
              refine lv_if_ne (tgt := 99) hx hb dX7_odds_90 (by decide) (fun hc => ?_) (fun hc => ?_)
              · have hf := kv_f hc hf
                refine lv_iload_n hx hb dX7_odds_99 rfl (lv_at hl 4 rfl) ?_
                exact J100_8 _ _ _ _ hP hD hS (lv_sub hl [0, 1] rfl) hf
              · have hf := kv_t hc hf
                refine lv_iload_n hx hb dX7_odds_93 rfl (lv_at hl 4 rfl) ?_
                refine lv_iload_n hx hb dX7_odds_94 rfl (lv_at hl 3 rfl) ?_
                refine lv_isub hx hb dX7_odds_95 ?_
                refine lv_goto (tgt := 100) hx hb dX7_odds_96 (by decide) ?_
                exact J100_8 _ _ _ _ hP hD hS (lv_sub hl [0, 1] rfl) hf
            · have hf := kv_f hc hf
              refine lv_ldc2 (v := (-2)) hx hb hown q2 dX7_odds_76 ?_
              exact hret _ _ _ _ _ _ hf hP hD hS dX7_odds_79
          · have hf := kv_t hc hf
            refine lv_iload_n hx hb dX7_odds_59 rfl (lv_at hl 4 rfl) ?_
            refine lv_if_ne (tgt := 67) hx hb dX7_odds_60 (by decide) (fun hc => ?_) (fun hc => ?_)
            · have hf := kv_f hc hf
              refine lv_lconst (v := 1) hx hb dX7_odds_67 (by decide) ?_
              exact hret _ _ _ _ _ _ hf hP hD hS dX7_odds_68
            · have hf := kv_t hc hf
              refine lv_lconst (v := 0) hx hb dX7_odds_63 (by decide) ?_
              refine lv_goto (tgt := 68) hx hb dX7_odds_64 (by decide) ?_
              exact hret _ _ _ _ _ _ hf hP hD hS dX7_odds_68
        · have hf := kv_t hc hf
          refine lv_ldc2 (v := (-2)) hx hb hown q2 dX7_odds_42 ?_
          exact hret _ _ _ _ _ _ hf hP hD hS dX7_odds_45
      · have hf := kv_t hc hf
        refine lv_ldc2 (v := (-1)) hx hb hown q0 dX7_odds_28 ?_
        exact hret _ _ _ _ _ _ hf hP hD hS dX7_odds_31
abbrev rX7_order : Room := { frames := 12, cells := 0, slots := 0, locals := 351 }
set_option maxHeartbeats 4000000 in
set_option maxRecDepth 100000 in
theorem ccX7_order (l : Launch) (D : va_G) (C : Nat → ClassId) (sz : Nat) (a : Nat → Nat → Nat) (mX : Mm) (mT : Mm) (mP : Mm) (mK : Mm) (p0 : Int32) (p1 : Int32) (rr : Int32) (oK : Mm) (hf : ffX7_order p0 p1 mX mT mP mK = some (rr, oK)) : Met l yX7_order wsX7_order rX7_order (va_Pc [.ref (a 0 0), .int p0, .int p1] (vv_pre D C (w_FR C a mX ++ (w_Told C (a 3) mT ++ (w_Mom C (a 3) (a 4) mP ++ w_Tk C (a 3) (a 4) (a 9) mK))) sz)) (vv_QI D C (w_FR C a mX ++ (w_Told C (a 3) mT ++ (w_Mom C (a 3) (a 4) mP ++ w_Tk C (a 3) (a 4) (a 9) mK))) (w_FR C a mX ++ (w_Told C (a 3) mT ++ (w_Mom C (a 3) (a 4) mP ++ w_Tk C (a 3) (a 4) (a 9) oK))) sz rr) 0 0 (va_A (w_FR C a mX ++ (w_Told C (a 3) mT ++ (w_Mom C (a 3) (a 4) mP ++ w_Tk C (a 3) (a 4) (a 9) mK))) sz) := by
  unfold ffX7_order at hf
  refine vv_metI (cc := cX7_order) (maxL := 3) (ty := .int) (by decide) rfl (Nat.le_of_ble_eq_true rfl) ?_
  intro p e s m args below meth c A Q H locs ls hx hb hml hown hts hA hK hN hP hD hS hl hret
  have hown : s.vm.findClass RX7 = some m.cls := hown
  have hl : lv_has ls 3 [(0, .ref (a 0 0)), (1, .int p0), (2, .int p1)] := hl
  have hret : ∀ (v0 : Int32) (v1 : Mm) (H : Heap) (locs : List Loc) (ls : Array Slot) (pc : Nat), some (v0, v1) = some (rr, oK) → narrow .int (.int v0) = .int v0 → va_P D vwCl (w_FR C a mX ++ (w_Told C (a 3) mT ++ (w_Mom C (a 3) (a 4) mP ++ w_Tk C (a 3) (a 4) (a 9) v1))) H → va_D A (w_FR C a mX ++ (w_Told C (a 3) mT ++ (w_Mom C (a 3) (a 4) mP ++ w_Tk C (a 3) (a 4) (a 9) v1))) → va_S A s.heap H locs → decode cX7_order pc = .ok (.ireturn, 1) → W p l e rX7_order s m args below meth c H locs 0 0 Q (F0 m pc ls [.int v0]) := by
    intro v0 v1 H locs ls pc h0 hn h1 h2 h3 h4
    cases h0
    exact hret H locs ls pc hn h1 h2 h3 h4
  have q0 := hts (.fieldLink RX7 57 "ForeRain" "takingIn" "LForeRain$TakingIn;") (by decide +kernel)
  have q1 := hts (.fieldLink RX7 187 "ForeRain$TakingIn" "hung" "I") (by decide +kernel)
  have q2 := hts (.fieldLink RX7 190 "ForeRain$TakingIn" "best" "[I") (by decide +kernel)
  have q3 := hts (.fieldLink RX7 186 "ForeRain$TakingIn" "least" "I") (by decide +kernel)
  have iX7 : ∀ w ∈ u_ws RX7 TX7 10, w ∈ wsX7_order := by decide +kernel
  have iX5 : ∀ w ∈ u_ws RX5 TX5 8, w ∈ wsX7_order := by decide +kernel
  refine lv_iload_n hx hb dX7_order_0 rfl (lv_at hl 1 rfl) ?_
  refine lv_iconst (v := 1) hx hb dX7_order_1 (by decide) ?_
  refine lv_bipush (v := 9) hx hb dX7_order_2 (by decide) ?_
  obtain ⟨r1, hc, hf⟩ := kv_b1_e hf
  have hs9 : vv_Sub D H A ([] : va_W) ([] : va_W) (w_FR C a mX ++ (w_Told C (a 3) mT ++ (w_Mom C (a 3) (a 4) mP ++ w_Tk C (a 3) (a 4) (a 9) mK))) := vv_Sub.none hP hD hS hA
  refine vv_goi (wn := (w_FR C a mX ++ (w_Told C (a 3) mT ++ (w_Mom C (a 3) (a 4) mP ++ w_Tk C (a 3) (a 4) (a 9) mK)))) hK hs9 hS (vv_rS (As := [.int p0, .int 1, .int 9]) (rest := []) hx hb hml hown hts hK hN hS hs9 (ccX7_within l D C H.size p0 (1 : Int32) (9 : Int32) r1 hc) (va_cwS 3 hts gX7_order_X7_within rfl rfl rfl (by decide +kernel) ⟨(Nat.le_of_ble_eq_true rfl), (Nat.le_of_ble_eq_true rfl)⟩) rfl hl.1 rfl (Nat.le_of_ble_eq_true rfl) dX7_order_4 ⟨Nat.zero_le _, Nat.zero_le _⟩) (fun H locs hP hD hS => ?_)
  refine lv_if_eq (tgt := 19) hx hb dX7_order_7 (by decide) (fun hc => ?_) (fun hc => ?_)
  · have hf := kv_t hc hf
    refine lv_iconst (v := (-1)) hx hb dX7_order_19 (by decide) ?_
    exact hret _ _ _ _ _ _ hf rfl hP hD hS dX7_order_20
  · have hf := kv_f hc hf
    refine lv_iload_n hx hb dX7_order_10 rfl (lv_at hl 2 rfl) ?_
    refine lv_iconst (v := (-1)) hx hb dX7_order_11 (by decide) ?_
    refine lv_iconst (v := 5) hx hb dX7_order_12 (by decide) ?_
    obtain ⟨r2, hc, hf⟩ := kv_b1_e hf
    have hs9 : vv_Sub D H A ([] : va_W) ([] : va_W) (w_FR C a mX ++ (w_Told C (a 3) mT ++ (w_Mom C (a 3) (a 4) mP ++ w_Tk C (a 3) (a 4) (a 9) mK))) := vv_Sub.none hP hD hS hA
    refine vv_goi (wn := (w_FR C a mX ++ (w_Told C (a 3) mT ++ (w_Mom C (a 3) (a 4) mP ++ w_Tk C (a 3) (a 4) (a 9) mK)))) hK hs9 hS (vv_rS (As := [.int p1, .int (-1), .int 5]) (rest := []) hx hb hml hown hts hK hN hS hs9 (ccX7_within l D C H.size p1 ((-1) : Int32) (5 : Int32) r2 hc) (va_cwS 3 hts gX7_order_X7_within rfl rfl rfl (by decide +kernel) ⟨(Nat.le_of_ble_eq_true rfl), (Nat.le_of_ble_eq_true rfl)⟩) rfl hl.1 rfl (Nat.le_of_ble_eq_true rfl) dX7_order_13 ⟨Nat.zero_le _, Nat.zero_le _⟩) (fun H locs hP hD hS => ?_)
    refine lv_if_ne (tgt := 21) hx hb dX7_order_16 (by decide) (fun hc => ?_) (fun hc => ?_)
    · have hf := kv_f hc hf
      refine lv_aload_n hx hb dX7_order_21 rfl (lv_at hl 0 rfl) ?_
      refine va_get (D := D) (ci := 7) (v := .ref (a 9 0)) (C := RX7) (T := TX7) (N := 10) hx hb hts iX7 hown hK hP 0 rfl rfl 7 (by decide) q0 (fun _ h9 => h9) rfl dX7_order_22 ?_
      refine lv_iload_n hx hb dX7_order_25 rfl (lv_at hl 1 rfl) ?_
      obtain ⟨mK3, hc, hf⟩ := kv_b1_e hf
      have hs9 : vv_Sub D H A (w_Told C (a 3) mT ++ (w_Mom C (a 3) (a 4) mP ++ w_Tk C (a 3) (a 4) (a 9) mK)) (w_Told C (a 3) mT ++ (w_Mom C (a 3) (a 4) mP ++ w_Tk C (a 3) (a 4) (a 9) mK3)) (w_FR C a mX ++ (w_Told C (a 3) mT ++ (w_Mom C (a 3) (a 4) mP ++ w_Tk C (a 3) (a 4) (a 9) mK3))) := vv_Sub.part (ws := (w_FR C a mX ++ (w_Told C (a 3) mT ++ (w_Mom C (a 3) (a 4) mP ++ w_Tk C (a 3) (a 4) (a 9) mK)))) (wr := (w_FR C a mX)) [3, 4, 5, 6, 7, 8, 9, 10, 11, 12, 13, 14, 15, 16, 17, 18] [0, 1, 2] [0, 1, 2, 3, 4, 5, 6, 7, 8, 9, 10, 11, 12, 13, 14, 15, 16, 17, 18] hP hD hS hA rfl rfl (by decide) rfl
      refine vv_gov (wn := (w_FR C a mX ++ (w_Told C (a 3) mT ++ (w_Mom C (a 3) (a 4) mP ++ w_Tk C (a 3) (a 4) (a 9) mK3)))) hK hs9 hS (vv_rV (As := [.int p0]) (rest := []) hx hb hml hown hts hK hN hS hs9 (ccX5_search l D C H.size (a 3) (a 4) (a 9) mT mP mK p0 mK3 hc) (cwV 1 hts gX7_order_X5_search rfl rfl rfl (by decide +kernel) ⟨(Nat.le_of_ble_eq_true rfl), (Nat.le_of_ble_eq_true rfl)⟩) (va_recv hK hP (ci := 5) (q0 := 15) rfl rfl) rfl hl.1 rfl (Nat.le_of_ble_eq_true rfl) dX7_order_26 ⟨Nat.zero_le _, Nat.zero_le _⟩) (fun H locs hP hD hS => ?_)
      refine lv_iload_n hx hb dX7_order_29 rfl (lv_at hl 2 rfl) ?_
      refine lv_iconst (v := (-1)) hx hb dX7_order_30 (by decide) ?_
      refine lv_icmp_ne (tgt := 42) hx hb dX7_order_31 (by decide) (fun hc => ?_) (fun hc => ?_)
      · have hf := kv_f hc hf
        refine lv_iload_n hx hb dX7_order_42 rfl (lv_at hl 2 rfl) ?_
        refine lv_aload_n hx hb dX7_order_43 rfl (lv_at hl 0 rfl) ?_
        refine va_get (D := D) (ci := 7) (v := .ref (a 9 0)) (C := RX7) (T := TX7) (N := 10) hx hb hts iX7 hown hK hP 0 rfl rfl 7 (by decide) q0 (fun _ h9 => h9) rfl dX7_order_44 ?_
        refine va_get (D := D) (ci := 5) (v := .int (mK3 0 6)) (C := RX5) (T := TX5) (N := 8) hx hb hts iX5 hown hK hP 15 rfl rfl 6 (by decide) q1 (fun _ h9 => h9) rfl dX7_order_47 ?_
        refine lv_icmp_ge (tgt := 65) hx hb dX7_order_50 (by decide) (fun hc => ?_) (fun hc => ?_)
        · have hf := kv_t hc hf
          refine lv_bipush (v := (-9)) hx hb dX7_order_65 (by decide) ?_
          exact hret _ _ _ _ _ _ hf rfl hP hD hS dX7_order_67
        · have hf := kv_f hc hf
          refine lv_aload_n hx hb dX7_order_53 rfl (lv_at hl 0 rfl) ?_
          refine va_get (D := D) (ci := 7) (v := .ref (a 9 0)) (C := RX7) (T := TX7) (N := 10) hx hb hts iX7 hown hK hP 0 rfl rfl 7 (by decide) q0 (fun _ h9 => h9) rfl dX7_order_54 ?_
          refine va_get (D := D) (ci := 5) (v := .ref (a 9 3)) (C := RX5) (T := TX5) (N := 8) hx hb hts iX5 hown hK hP 15 rfl rfl 5 (by decide) q2 (fun _ h9 => h9) rfl dX7_order_57 ?_
          refine lv_iload_n hx hb dX7_order_60 rfl (lv_at hl 2 rfl) ?_
          obtain ⟨h9, hf⟩ := kv_ix_e hf
          refine va_iald hx hb hK hP 18 1 rfl rfl h9 dX7_order_61 ?_
          refine lv_goto (tgt := 67) hx hb dX7_order_62 (by decide) ?_
          exact hret _ _ _ _ _ _ hf rfl hP hD hS dX7_order_67
      · have hf := kv_t hc hf
        refine lv_aload_n hx hb dX7_order_34 rfl (lv_at hl 0 rfl) ?_
        refine va_get (D := D) (ci := 7) (v := .ref (a 9 0)) (C := RX7) (T := TX7) (N := 10) hx hb hts iX7 hown hK hP 0 rfl rfl 7 (by decide) q0 (fun _ h9 => h9) rfl dX7_order_35 ?_
        refine va_get (D := D) (ci := 5) (v := .int (mK3 0 7)) (C := RX5) (T := TX5) (N := 8) hx hb hts iX5 hown hK hP 15 rfl rfl 7 (by decide) q3 (fun _ h9 => h9) rfl dX7_order_38 ?_
        exact hret _ _ _ _ _ _ hf rfl hP hD hS dX7_order_41
    · have hf := kv_t hc hf
      refine lv_iconst (v := (-1)) hx hb dX7_order_19 (by decide) ?_
      exact hret _ _ _ _ _ _ hf rfl hP hD hS dX7_order_20
abbrev rX7_pegs : Room := { frames := 1, cells := 0, slots := 0, locals := 22 }
set_option maxHeartbeats 4000000 in
set_option maxRecDepth 100000 in
theorem ccX7_pegs (l : Launch) (D : va_G) (C : Nat → ClassId) (sz : Nat) (a : Nat → Nat → Nat) (mX : Mm) (mT : Mm) (mP : Mm) (rr : Int32) (hf : ffX7_pegs mX mT mP = some (rr)) : Met l yX7_pegs wsX7_pegs rX7_pegs (va_Pc [.ref (a 0 0)] (vv_pre D C (w_FR C a mX ++ (w_Told C (a 3) mT ++ w_Mom C (a 3) (a 4) mP)) sz)) (vv_QI D C (w_FR C a mX ++ (w_Told C (a 3) mT ++ w_Mom C (a 3) (a 4) mP)) (w_FR C a mX ++ (w_Told C (a 3) mT ++ w_Mom C (a 3) (a 4) mP)) sz rr) 0 0 (va_A (w_FR C a mX ++ (w_Told C (a 3) mT ++ w_Mom C (a 3) (a 4) mP)) sz) := by
  unfold ffX7_pegs at hf
  refine vv_metI (cc := cX7_pegs) (maxL := 5) (ty := .int) (by decide) rfl (Nat.le_of_ble_eq_true rfl) ?_
  intro p e s m args below meth c A Q H locs ls hx hb hml hown hts hA hK hN hP hD hS hl hret
  have hown : s.vm.findClass RX7 = some m.cls := hown
  have hl : lv_has ls 5 [(0, .ref (a 0 0))] := hl
  have hret : ∀ (v0 : Int32) (H : Heap) (locs : List Loc) (ls : Array Slot) (pc : Nat), some (v0) = some (rr) → narrow .int (.int v0) = .int v0 → va_P D vwCl (w_FR C a mX ++ (w_Told C (a 3) mT ++ w_Mom C (a 3) (a 4) mP)) H → va_D A (w_FR C a mX ++ (w_Told C (a 3) mT ++ w_Mom C (a 3) (a 4) mP)) → va_S A s.heap H locs → decode cX7_pegs pc = .ok (.ireturn, 1) → W p l e rX7_pegs s m args below meth c H locs 0 0 Q (F0 m pc ls [.int v0]) := by
    intro v0 H locs ls pc h0 hn h1 h2 h3 h4
    cases h0
    exact hret H locs ls pc hn h1 h2 h3 h4
  have q0 := hts (.fieldLink RX7 19 "ForeRain" "told" "LForeRain$Told;") (by decide +kernel)
  have q1 := hts (.fieldLink RX7 209 "ForeRain$Told" "spots" "I") (by decide +kernel)
  have q2 := hts (.fieldLink RX7 28 "ForeRain" "present" "LForeRain$Moment;") (by decide +kernel)
  have q3 := hts (.fieldLink RX7 111 "ForeRain$Told" "wide" "[I") (by decide +kernel)
  have q4 := hts (.fieldLink RX7 132 "ForeRain$Told" "wind" "[I") (by decide +kernel)
  have iX7 : ∀ w ∈ u_ws RX7 TX7 10, w ∈ wsX7_pegs := by decide +kernel
  have iX6 : ∀ w ∈ u_ws RX6 TX6 9, w ∈ wsX7_pegs := by decide +kernel
  refine lv_iconst (v := 0) hx hb dX7_pegs_0 (by decide) ?_
  refine lv_istore_n (lv' := [(1, .int 0), (0, .ref (a 0 0))]) hx hb dX7_pegs_1 rfl hl (by decide) rfl (fun ls hl => ?_)
  refine lv_iconst (v := 0) hx hb dX7_pegs_2 (by decide) ?_
  refine lv_istore_n (lv' := [(2, .int 0), (1, .int 0), (0, .ref (a 0 0))]) hx hb dX7_pegs_3 rfl hl (by decide) rfl (fun ls hl => ?_)
  refine lv_iconst (v := 0) hx hb dX7_pegs_4 (by decide) ?_
  refine lv_istore_n (lv' := [(3, .int 0), (2, .int 0), (1, .int 0), (0, .ref (a 0 0))]) hx hb dX7_pegs_5 rfl hl (by decide) rfl (fun ls hl => ?_)
  have L6 : ∀ (K6 : Int32 → Int32 → Int32 → Option (Int32)), (∀ (x1 : Int32) (x2 : Int32) (x3 : Int32) (H : Heap) (locs : List Loc) (ls : Array Slot), va_P D vwCl (w_FR C a mX ++ (w_Told C (a 3) mT ++ w_Mom C (a 3) (a 4) mP)) H → va_D A (w_FR C a mX ++ (w_Told C (a 3) mT ++ w_Mom C (a 3) (a 4) mP)) → va_S A s.heap H locs → lv_has ls 5 [(3, .int x1), (2, .int x2), (1, .int x3), (0, .ref (a 0 0))] → K6 x1 x2 x3 = some (rr) → W p l e rX7_pegs s m args below meth c H locs 0 0 Q (F0 m 91 ls [])) → ∀ (n : Nat) (x1 : Int32) (x2 : Int32) (x3 : Int32) (H : Heap) (locs : List Loc) (ls : Array Slot), va_P D vwCl (w_FR C a mX ++ (w_Told C (a 3) mT ++ w_Mom C (a 3) (a 4) mP)) H → va_D A (w_FR C a mX ++ (w_Told C (a 3) mT ++ w_Mom C (a 3) (a 4) mP)) → va_S A s.heap H locs → lv_has ls 5 [(3, .int x1), (2, .int x2), (1, .int x3), (0, .ref (a 0 0))] → ffX7_pegs_L6 mT mP K6 n x1 x2 x3 = some (rr) → W p l e rX7_pegs s m args below meth c H locs 0 0 Q (F0 m 6 ls []) := by
    intro K6 hK9 n
    induction n with
    | zero => intro x1 x2 x3 H locs ls hP hD hS hl hf; exact kv_no hf
    | succ n ih =>
      intro x1 x2 x3 H locs ls hP hD hS hl hf
      rw [ffX7_pegs_L6_s] at hf
      refine lv_iload_n hx hb dX7_pegs_6 rfl (lv_at hl 0 rfl) ?_
      refine lv_aload_n hx hb dX7_pegs_7 rfl (lv_at hl 3 rfl) ?_
      refine va_get (D := D) (ci := 7) (v := .ref (a 3 0)) (C := RX7) (T := TX7) (N := 10) hx hb hts iX7 hown hK hP 0 rfl rfl 1 (by decide) q0 (fun _ h9 => h9) rfl dX7_pegs_8 ?_
      refine va_get (D := D) (ci := 6) (v := .int (mT 0 1)) (C := RX6) (T := TX6) (N := 9) hx hb hts iX6 hown hK hP 3 rfl rfl 1 (by decide) q1 (fun _ h9 => h9) rfl dX7_pegs_11 ?_
      refine lv_icmp_ge (tgt := 91) hx hb dX7_pegs_14 (by decide) (fun hc => ?_) (fun hc => ?_)
      · have hf := kv_t hc hf
        exact hK9 _ _ _ _ _ _ hP hD hS (lv_sub hl [0, 1, 2, 3] rfl) hf
      · have hf := kv_f hc hf
        refine lv_aload_n hx hb dX7_pegs_17 rfl (lv_at hl 3 rfl) ?_
        refine va_get (D := D) (ci := 7) (v := .ref (a 4 0)) (C := RX7) (T := TX7) (N := 10) hx hb hts iX7 hown hK hP 0 rfl rfl 2 (by decide) q2 (fun _ h9 => h9) rfl dX7_pegs_18 ?_
        refine lv_iload_n hx hb dX7_pegs_21 rfl (lv_at hl 0 rfl) ?_
        obtain ⟨r4, hc, hf⟩ := kv_b1_e hf
        have hs9 : vv_Sub D H A (w_Told C (a 3) mT ++ w_Mom C (a 3) (a 4) mP) (w_Told C (a 3) mT ++ w_Mom C (a 3) (a 4) mP) (w_FR C a mX ++ (w_Told C (a 3) mT ++ w_Mom C (a 3) (a 4) mP)) := vv_Sub.part (ws := (w_FR C a mX ++ (w_Told C (a 3) mT ++ w_Mom C (a 3) (a 4) mP))) (wr := (w_FR C a mX)) [3, 4, 5, 6, 7, 8, 9, 10, 11, 12, 13, 14] [0, 1, 2] [0, 1, 2, 3, 4, 5, 6, 7, 8, 9, 10, 11, 12, 13, 14] hP hD hS hA rfl rfl (by decide) rfl
        refine vv_goi (wn := (w_FR C a mX ++ (w_Told C (a 3) mT ++ w_Mom C (a 3) (a 4) mP))) hK hs9 hS (vv_rV (As := [.int x1]) (rest := []) hx hb hml hown hts hK hN hS hs9 (ccX3_pieceAt l D C H.size (a 3) (a 4) mT mP x1 r4 hc) (cwV 1 hts gX7_pegs_X3_pieceAt rfl rfl rfl (by decide +kernel) ⟨(Nat.le_of_ble_eq_true rfl), (Nat.le_of_ble_eq_true rfl)⟩) (va_recv hK hP (ci := 3) (q0 := 10) rfl rfl) rfl hl.1 rfl (Nat.le_of_ble_eq_true rfl) dX7_pegs_22 ⟨Nat.zero_le _, Nat.zero_le _⟩) (fun H locs hP hD hS => ?_)
        refine lv_istore (lv' := [(4, .int r4), (3, .int x1), (2, .int x2), (1, .int x3), (0, .ref (a 0 0))]) hx hb dX7_pegs_25 hl (by decide) rfl (fun ls hl => ?_)
        refine lv_iload hx hb dX7_pegs_27 (lv_at hl 0 rfl) ?_
        refine lv_bipush (v := (-9)) hx hb dX7_pegs_29 (by decide) ?_
        obtain ⟨k72_5, ek72_5, hf⟩ := kv_lt_e hf
        have J72_5 : ∀ (x6 : Int32) (H : Heap) (locs : List Loc) (ls : Array Slot), va_P D vwCl (w_FR C a mX ++ (w_Told C (a 3) mT ++ w_Mom C (a 3) (a 4) mP)) H → va_D A (w_FR C a mX ++ (w_Told C (a 3) mT ++ w_Mom C (a 3) (a 4) mP)) → va_S A s.heap H locs → lv_has ls 5 [(4, .int r4), (3, .int x1), (1, .int x6), (0, .ref (a 0 0))] → k72_5 x6 = some (rr) → W p l e rX7_pegs s m args below meth c H locs 0 0 Q (F0 m 72 ls []) := by
          intro x6 H locs ls hP hD hS hl hf
          rw [ek72_5] at hf
          refine lv_iload hx hb dX7_pegs_72 (lv_at hl 0 rfl) ?_
          refine lv_bipush (v := (-9)) hx hb dX7_pegs_74 (by decide) ?_
          refine lv_icmp_eq (tgt := 83) hx hb dX7_pegs_76 (by decide) (fun hc => ?_) (fun hc => ?_)
          · have hf := kv_t hc hf
            refine lv_iconst (v := 0) hx hb dX7_pegs_83 (by decide) ?_
            refine lv_istore_n (lv' := [(2, .int 0), (4, .int r4), (3, .int x1), (1, .int x6), (0, .ref (a 0 0))]) hx hb dX7_pegs_84 rfl hl (by decide) rfl (fun ls hl => ?_)
            obtain ⟨x7, ex7, hf⟩ := kv_lt_e hf
            refine lv_iinc (v := x7) (lv' := [(3, .int x7), (2, .int 0), (4, .int r4), (1, .int x6), (0, .ref (a 0 0))]) hx hb dX7_pegs_85 hl (k := 2) rfl (by rw [ex7]; rfl) (by decide) rfl (fun ls hl => ?_)
            refine lv_goto (tgt := 6) hx hb dX7_pegs_88 (by decide) ?_
            exact ih _ _ _ _ _ _ hP hD hS (lv_sub hl [0, 1, 3, 4] rfl) hf
          · have hf := kv_f hc hf
            refine lv_iconst (v := 1) hx hb dX7_pegs_79 (by decide) ?_
            refine lv_goto (tgt := 84) hx hb dX7_pegs_80 (by decide) ?_
            refine lv_istore_n (lv' := [(2, .int 1), (4, .int r4), (3, .int x1), (1, .int x6), (0, .ref (a 0 0))]) hx hb dX7_pegs_84 rfl hl (by decide) rfl (fun ls hl => ?_)
            obtain ⟨x8, ex8, hf⟩ := kv_lt_e hf
            refine lv_iinc (v := x8) (lv' := [(3, .int x8), (2, .int 1), (4, .int r4), (1, .int x6), (0, .ref (a 0 0))]) hx hb dX7_pegs_85 hl (k := 2) rfl (by rw [ex8]; rfl) (by decide) rfl (fun ls hl => ?_)
            refine lv_goto (tgt := 6) hx hb dX7_pegs_88 (by decide) ?_
            exact ih _ _ _ _ _ _ hP hD hS (lv_sub hl [0, 1, 3, 4] rfl) hf
        refine lv_icmp_eq (tgt := 72) hx hb dX7_pegs_31 (by decide) (fun hc => ?_) (fun hc => ?_)
        · have hf := kv_t hc hf
          exact J72_5 _ _ _ _ hP hD hS (lv_sub hl [0, 1, 3, 4] rfl) hf
        · have hf := kv_f hc hf
          refine lv_iload_n hx hb dX7_pegs_34 rfl (lv_at hl 3 rfl) ?_
          refine lv_iconst (v := 1) hx hb dX7_pegs_35 (by decide) ?_
          refine lv_aload_n hx hb dX7_pegs_36 rfl (lv_at hl 4 rfl) ?_
          refine va_get (D := D) (ci := 7) (v := .ref (a 3 0)) (C := RX7) (T := TX7) (N := 10) hx hb hts iX7 hown hK hP 0 rfl rfl 1 (by decide) q0 (fun _ h9 => h9) rfl dX7_pegs_37 ?_
          refine va_get (D := D) (ci := 6) (v := .ref (a 3 2)) (C := RX6) (T := TX6) (N := 9) hx hb hts iX6 hown hK hP 3 rfl rfl 4 (by decide) q3 (fun _ h9 => h9) rfl dX7_pegs_40 ?_
          refine lv_iload hx hb dX7_pegs_43 (lv_at hl 0 rfl) ?_
          obtain ⟨h9, hf⟩ := kv_ix_e hf
          refine va_iald hx hb hK hP 5 1 rfl rfl h9 dX7_pegs_45 ?_
          refine lv_aload_n hx hb dX7_pegs_46 rfl (lv_at hl 4 rfl) ?_
          refine va_get (D := D) (ci := 7) (v := .ref (a 3 0)) (C := RX7) (T := TX7) (N := 10) hx hb hts iX7 hown hK hP 0 rfl rfl 1 (by decide) q0 (fun _ h9 => h9) rfl dX7_pegs_47 ?_
          refine va_get (D := D) (ci := 6) (v := .ref (a 3 5)) (C := RX6) (T := TX6) (N := 9) hx hb hts iX6 hown hK hP 3 rfl rfl 7 (by decide) q4 (fun _ h9 => h9) rfl dX7_pegs_50 ?_
          refine lv_iload_n hx hb dX7_pegs_53 rfl (lv_at hl 1 rfl) ?_
          obtain ⟨h9, hf⟩ := kv_ix_e hf
          refine va_iald hx hb hK hP 8 1 rfl rfl h9 dX7_pegs_54 ?_
          refine lv_imul hx hb dX7_pegs_55 ?_
          refine lv_bipush (v := 9) hx hb dX7_pegs_56 (by decide) ?_
          refine lv_idiv hx hb dX7_pegs_58 (by decide) ?_
          refine lv_iadd hx hb dX7_pegs_59 ?_
          refine lv_iload_n hx hb dX7_pegs_60 rfl (lv_at hl 2 rfl) ?_
          obtain ⟨k69_9, ek69_9, hf⟩ := kv_lt_e hf
          have J69_9 : ∀ (x10 : Int32) (H : Heap) (locs : List Loc) (ls : Array Slot), va_P D vwCl (w_FR C a mX ++ (w_Told C (a 3) mT ++ w_Mom C (a 3) (a 4) mP)) H → va_D A (w_FR C a mX ++ (w_Told C (a 3) mT ++ w_Mom C (a 3) (a 4) mP)) → va_S A s.heap H locs → lv_has ls 5 [(4, .int r4), (3, .int x1), (0, .ref (a 0 0))] → k69_9 x10 = some (rr) → W p l e rX7_pegs s m args below meth c H locs 0 0 Q (F0 m 69 ls [.int x10, .int (1 + (((mT 2 r4.toNatClampNeg) * (mT 5 x1.toNatClampNeg)) / 9)), .int x3]) := by
            intro x10 H locs ls hP hD hS hl hf
            rw [ek69_9] at hf
            refine lv_isub hx hb dX7_pegs_69 ?_
            refine lv_iadd hx hb dX7_pegs_70 ?_
            obtain ⟨x11, ex11, hf⟩ := kv_lt_e hf
            refine vv_nami ex11 ?_
            refine lv_istore_n (lv' := [(1, .int x11), (4, .int r4), (3, .int x1), (0, .ref (a 0 0))]) hx hb dX7_pegs_71 rfl hl (by decide) rfl (fun ls hl => ?_)
            exact J72_5 _ _ _ _ hP hD hS (lv_sub hl [1, 2, 0, 3] rfl) hf
          refine lv_if_eq (tgt := 68) hx hb dX7_pegs_61 (by decide) (fun hc => ?_) (fun hc => ?_)
          · have hf := kv_t hc hf
            refine lv_iconst (v := 0) hx hb dX7_pegs_68 (by decide) ?_
            exact J69_9 _ _ _ _ hP hD hS (lv_sub hl [0, 1, 4] rfl) hf
          · have hf := kv_f hc hf
            refine lv_iconst (v := 1) hx hb dX7_pegs_64 (by decide) ?_
            refine lv_goto (tgt := 69) hx hb dX7_pegs_65 (by decide) ?_
            exact J69_9 _ _ _ _ hP hD hS (lv_sub hl [0, 1, 4] rfl) hf
  refine L6 _ (fun x12 x13 x14 H locs ls hP hD hS hl hf => ?_) _ _ _ _ _ _ _ hP hD hS (lv_sub hl [0, 1, 2, 3] rfl) hf
  refine lv_iload_n hx hb dX7_pegs_91 rfl (lv_at hl 2 rfl) ?_
  exact hret _ _ _ _ _ hf rfl hP hD hS dX7_pegs_92
abbrev rX7_piece : Room := { frames := 2, cells := 0, slots := 0, locals := 43 }
set_option maxHeartbeats 4000000 in
set_option maxRecDepth 100000 in
theorem ccX7_piece (l : Launch) (D : va_G) (C : Nat → ClassId) (sz : Nat) (a : Nat → Nat → Nat) (mX : Mm) (mT : Mm) (mP : Mm) (p0 : Int32) (p1 : Int32) (rr : Int32) (hf : ffX7_piece p0 p1 mX mT mP = some (rr)) : Met l yX7_piece wsX7_piece rX7_piece (va_Pc [.ref (a 0 0), .int p0, .int p1] (vv_pre D C (w_FR C a mX ++ (w_Told C (a 3) mT ++ w_Mom C (a 3) (a 4) mP)) sz)) (vv_QI D C (w_FR C a mX ++ (w_Told C (a 3) mT ++ w_Mom C (a 3) (a 4) mP)) (w_FR C a mX ++ (w_Told C (a 3) mT ++ w_Mom C (a 3) (a 4) mP)) sz rr) 0 0 (va_A (w_FR C a mX ++ (w_Told C (a 3) mT ++ w_Mom C (a 3) (a 4) mP)) sz) := by
  unfold ffX7_piece at hf
  refine vv_metI (cc := cX7_piece) (maxL := 3) (ty := .int) (by decide) rfl (Nat.le_of_ble_eq_true rfl) ?_
  intro p e s m args below meth c A Q H locs ls hx hb hml hown hts hA hK hN hP hD hS hl hret
  have hown : s.vm.findClass RX7 = some m.cls := hown
  have hl : lv_has ls 3 [(0, .ref (a 0 0)), (1, .int p0), (2, .int p1)] := hl
  have hret : ∀ (v0 : Int32) (H : Heap) (locs : List Loc) (ls : Array Slot) (pc : Nat), some (v0) = some (rr) → narrow .int (.int v0) = .int v0 → va_P D vwCl (w_FR C a mX ++ (w_Told C (a 3) mT ++ w_Mom C (a 3) (a 4) mP)) H → va_D A (w_FR C a mX ++ (w_Told C (a 3) mT ++ w_Mom C (a 3) (a 4) mP)) → va_S A s.heap H locs → decode cX7_piece pc = .ok (.ireturn, 1) → W p l e rX7_piece s m args below meth c H locs 0 0 Q (F0 m pc ls [.int v0]) := by
    intro v0 H locs ls pc h0 hn h1 h2 h3 h4
    cases h0
    exact hret H locs ls pc hn h1 h2 h3 h4
  have q0 := hts (.fieldLink RX7 28 "ForeRain" "present" "LForeRain$Moment;") (by decide +kernel)
  have q1 := hts (.fieldLink RX7 107 "ForeRain$Moment" "water" "[I") (by decide +kernel)
  have q2 := hts (.fieldLink RX7 19 "ForeRain" "told" "LForeRain$Told;") (by decide +kernel)
  have q3 := hts (.fieldLink RX7 111 "ForeRain$Told" "wide" "[I") (by decide +kernel)
  have q4 := hts (.fieldLink RX7 114 "ForeRain$Told" "cloth" "[I") (by decide +kernel)
  have q5 := hts (.fieldLink RX7 117 "ForeRain$Moment" "age" "[I") (by decide +kernel)
  have q6 := hts (.fieldLink RX7 120 "ForeRain$Moment" "smells" "[Z") (by decide +kernel)
  have q7 := hts (.fieldLink RX7 123 "ForeRain$Moment" "place" "[I") (by decide +kernel)
  have iX7 : ∀ w ∈ u_ws RX7 TX7 10, w ∈ wsX7_piece := by decide +kernel
  have iX3 : ∀ w ∈ u_ws RX3 TX3 7, w ∈ wsX7_piece := by decide +kernel
  have iX6 : ∀ w ∈ u_ws RX6 TX6 9, w ∈ wsX7_piece := by decide +kernel
  refine lv_aload_n hx hb dX7_piece_0 rfl (lv_at hl 0 rfl) ?_
  refine lv_iload_n hx hb dX7_piece_1 rfl (lv_at hl 1 rfl) ?_
  obtain ⟨r1, hc, hf⟩ := kv_b1_e hf
  have hs9 : vv_Sub D H A (w_FR C a mX ++ w_Told C (a 3) mT) (w_FR C a mX ++ w_Told C (a 3) mT) (w_FR C a mX ++ (w_Told C (a 3) mT ++ w_Mom C (a 3) (a 4) mP)) := vv_Sub.part (ws := (w_FR C a mX ++ (w_Told C (a 3) mT ++ w_Mom C (a 3) (a 4) mP))) (wr := (w_Mom C (a 3) (a 4) mP)) [0, 1, 2, 3, 4, 5, 6, 7, 8, 9] [10, 11, 12, 13, 14] [5, 6, 7, 8, 9, 10, 11, 12, 13, 14, 0, 1, 2, 3, 4] hP hD hS hA rfl rfl (by decide) rfl
  refine vv_goi (wn := (w_FR C a mX ++ (w_Told C (a 3) mT ++ w_Mom C (a 3) (a 4) mP))) hK hs9 hS (vv_rV (As := [.int p0]) (rest := []) hx hb hml hown hts hK hN hS hs9 (ccX7_isPiece l D C H.size a mX mT p0 r1 hc) (cwV 1 hts gX7_piece_X7_isPiece rfl rfl rfl (by decide +kernel) ⟨(Nat.le_of_ble_eq_true rfl), (Nat.le_of_ble_eq_true rfl)⟩) (va_recv hK hP (ci := 7) (q0 := 0) rfl rfl) rfl hl.1 rfl (Nat.le_of_ble_eq_true rfl) dX7_piece_2 ⟨Nat.zero_le _, Nat.zero_le _⟩) (fun H locs hP hD hS => ?_)
  refine lv_if_ne (tgt := 10) hx hb dX7_piece_5 (by decide) (fun hc => ?_) (fun hc => ?_)
  · have hf := kv_f hc hf
    refine lv_iload_n hx hb dX7_piece_10 rfl (lv_at hl 2 rfl) ?_
    by_cases c0 : p1 = 0
    · have hf := kv_t c0 hf
      refine lv_tableIn (off := 37) (tgt := 48) hx hb dX7_piece_11 (by rw [c0]; decide) (by rw [c0]; decide) (by rw [c0]; rfl) (by decide) ?_
      refine lv_aload_n hx hb dX7_piece_48 rfl (lv_at hl 0 rfl) ?_
      refine va_get (D := D) (ci := 7) (v := .ref (a 4 0)) (C := RX7) (T := TX7) (N := 10) hx hb hts iX7 hown hK hP 0 rfl rfl 2 (by decide) q0 (fun _ h9 => h9) rfl dX7_piece_49 ?_
      refine va_get (D := D) (ci := 3) (v := .ref (a 4 1)) (C := RX3) (T := TX3) (N := 7) hx hb hts iX3 hown hK hP 10 rfl rfl 3 (by decide) q1 (fun _ h9 => h9) rfl dX7_piece_52 ?_
      refine lv_iload_n hx hb dX7_piece_55 rfl (lv_at hl 1 rfl) ?_
      obtain ⟨h9, hf⟩ := kv_ix_e hf
      refine va_iald hx hb hK hP 11 1 rfl rfl h9 dX7_piece_56 ?_
      exact hret _ _ _ _ _ hf rfl hP hD hS dX7_piece_57
    have hf := kv_f c0 hf
    by_cases c1 : p1 = 1
    · have hf := kv_t c1 hf
      refine lv_tableIn (off := 47) (tgt := 58) hx hb dX7_piece_11 (by rw [c1]; decide) (by rw [c1]; decide) (by rw [c1]; rfl) (by decide) ?_
      refine lv_aload_n hx hb dX7_piece_58 rfl (lv_at hl 0 rfl) ?_
      refine va_get (D := D) (ci := 7) (v := .ref (a 3 0)) (C := RX7) (T := TX7) (N := 10) hx hb hts iX7 hown hK hP 0 rfl rfl 1 (by decide) q2 (fun _ h9 => h9) rfl dX7_piece_59 ?_
      refine va_get (D := D) (ci := 6) (v := .ref (a 3 2)) (C := RX6) (T := TX6) (N := 9) hx hb hts iX6 hown hK hP 3 rfl rfl 4 (by decide) q3 (fun _ h9 => h9) rfl dX7_piece_62 ?_
      refine lv_iload_n hx hb dX7_piece_65 rfl (lv_at hl 1 rfl) ?_
      obtain ⟨h9, hf⟩ := kv_ix_e hf
      refine va_iald hx hb hK hP 5 1 rfl rfl h9 dX7_piece_66 ?_
      exact hret _ _ _ _ _ hf rfl hP hD hS dX7_piece_67
    have hf := kv_f c1 hf
    by_cases c2 : p1 = 2
    · have hf := kv_t c2 hf
      refine lv_tableIn (off := 57) (tgt := 68) hx hb dX7_piece_11 (by rw [c2]; decide) (by rw [c2]; decide) (by rw [c2]; rfl) (by decide) ?_
      refine lv_aload_n hx hb dX7_piece_68 rfl (lv_at hl 0 rfl) ?_
      refine va_get (D := D) (ci := 7) (v := .ref (a 3 0)) (C := RX7) (T := TX7) (N := 10) hx hb hts iX7 hown hK hP 0 rfl rfl 1 (by decide) q2 (fun _ h9 => h9) rfl dX7_piece_69 ?_
      refine va_get (D := D) (ci := 6) (v := .ref (a 3 3)) (C := RX6) (T := TX6) (N := 9) hx hb hts iX6 hown hK hP 3 rfl rfl 5 (by decide) q4 (fun _ h9 => h9) rfl dX7_piece_72 ?_
      refine lv_iload_n hx hb dX7_piece_75 rfl (lv_at hl 1 rfl) ?_
      obtain ⟨h9, hf⟩ := kv_ix_e hf
      refine va_iald hx hb hK hP 6 1 rfl rfl h9 dX7_piece_76 ?_
      exact hret _ _ _ _ _ hf rfl hP hD hS dX7_piece_77
    have hf := kv_f c2 hf
    by_cases c3 : p1 = 3
    · have hf := kv_t c3 hf
      refine lv_tableIn (off := 67) (tgt := 78) hx hb dX7_piece_11 (by rw [c3]; decide) (by rw [c3]; decide) (by rw [c3]; rfl) (by decide) ?_
      refine lv_aload_n hx hb dX7_piece_78 rfl (lv_at hl 0 rfl) ?_
      refine va_get (D := D) (ci := 7) (v := .ref (a 4 0)) (C := RX7) (T := TX7) (N := 10) hx hb hts iX7 hown hK hP 0 rfl rfl 2 (by decide) q0 (fun _ h9 => h9) rfl dX7_piece_79 ?_
      refine va_get (D := D) (ci := 3) (v := .ref (a 4 2)) (C := RX3) (T := TX3) (N := 7) hx hb hts iX3 hown hK hP 10 rfl rfl 4 (by decide) q5 (fun _ h9 => h9) rfl dX7_piece_82 ?_
      refine lv_iload_n hx hb dX7_piece_85 rfl (lv_at hl 1 rfl) ?_
      obtain ⟨h9, hf⟩ := kv_ix_e hf
      refine va_iald hx hb hK hP 12 1 rfl rfl h9 dX7_piece_86 ?_
      exact hret _ _ _ _ _ hf rfl hP hD hS dX7_piece_87
    have hf := kv_f c3 hf
    by_cases c4 : p1 = 4
    · have hf := kv_t c4 hf
      refine lv_tableIn (off := 77) (tgt := 88) hx hb dX7_piece_11 (by rw [c4]; decide) (by rw [c4]; decide) (by rw [c4]; rfl) (by decide) ?_
      refine lv_aload_n hx hb dX7_piece_88 rfl (lv_at hl 0 rfl) ?_
      refine va_get (D := D) (ci := 7) (v := .ref (a 4 0)) (C := RX7) (T := TX7) (N := 10) hx hb hts iX7 hown hK hP 0 rfl rfl 2 (by decide) q0 (fun _ h9 => h9) rfl dX7_piece_89 ?_
      refine va_get (D := D) (ci := 3) (v := .ref (a 4 4)) (C := RX3) (T := TX3) (N := 7) hx hb hts iX3 hown hK hP 10 rfl rfl 6 (by decide) q6 (fun _ h9 => h9) rfl dX7_piece_92 ?_
      refine lv_iload_n hx hb dX7_piece_95 rfl (lv_at hl 1 rfl) ?_
      obtain ⟨h9, hf⟩ := kv_ix_e hf
      refine va_zald hx hb hK hP 14 2 rfl rfl h9 dX7_piece_96 ?_
      refine lv_if_eq (tgt := 104) hx hb dX7_piece_97 (by decide) (fun hc => ?_) (fun hc => ?_)
      · have hf := kv_t hc hf
        refine lv_iconst (v := 0) hx hb dX7_piece_104 (by decide) ?_
        exact hret _ _ _ _ _ hf rfl hP hD hS dX7_piece_105
      · have hf := kv_f hc hf
        refine lv_iconst (v := 1) hx hb dX7_piece_100 (by decide) ?_
        refine lv_goto (tgt := 105) hx hb dX7_piece_101 (by decide) ?_
        exact hret _ _ _ _ _ hf rfl hP hD hS dX7_piece_105
    have hf := kv_f c4 hf
    by_cases c5 : p1 = 5
    · have hf := kv_t c5 hf
      refine lv_tableIn (off := 95) (tgt := 106) hx hb dX7_piece_11 (by rw [c5]; decide) (by rw [c5]; decide) (by rw [c5]; rfl) (by decide) ?_
      refine lv_aload_n hx hb dX7_piece_106 rfl (lv_at hl 0 rfl) ?_
      refine va_get (D := D) (ci := 7) (v := .ref (a 4 0)) (C := RX7) (T := TX7) (N := 10) hx hb hts iX7 hown hK hP 0 rfl rfl 2 (by decide) q0 (fun _ h9 => h9) rfl dX7_piece_107 ?_
      refine va_get (D := D) (ci := 3) (v := .ref (a 4 3)) (C := RX3) (T := TX3) (N := 7) hx hb hts iX3 hown hK hP 10 rfl rfl 5 (by decide) q7 (fun _ h9 => h9) rfl dX7_piece_110 ?_
      refine lv_iload_n hx hb dX7_piece_113 rfl (lv_at hl 1 rfl) ?_
      obtain ⟨h9, hf⟩ := kv_ix_e hf
      refine va_iald hx hb hK hP 13 1 rfl rfl h9 dX7_piece_114 ?_
      exact hret _ _ _ _ _ hf rfl hP hD hS dX7_piece_115
    have hf := kv_f c5 hf
    refine lv_tableOut (tgt := 116) hx hb dX7_piece_11 (by have a0 : p1.toInt ≠ 0 := kv_ti c0; have a1 : p1.toInt ≠ 1 := kv_ti c1; have a2 : p1.toInt ≠ 2 := kv_ti c2; have a3 : p1.toInt ≠ 3 := kv_ti c3; have a4 : p1.toInt ≠ 4 := kv_ti c4; have a5 : p1.toInt ≠ 5 := kv_ti c5; omega) (by decide) ?_
    refine lv_iconst (v := (-1)) hx hb dX7_piece_116 (by decide) ?_
    exact hret _ _ _ _ _ hf rfl hP hD hS dX7_piece_117
  · have hf := kv_t hc hf
    refine lv_iconst (v := (-1)) hx hb dX7_piece_8 (by decide) ?_
    exact hret _ _ _ _ _ hf rfl hP hD hS dX7_piece_9
abbrev rX7_rack : Room := { frames := 2, cells := 0, slots := 0, locals := 43 }
set_option maxHeartbeats 4000000 in
set_option maxRecDepth 100000 in
theorem ccX7_rack (l : Launch) (D : va_G) (C : Nat → ClassId) (sz : Nat) (a : Nat → Nat → Nat) (mX : Mm) (mT : Mm) (mP : Mm) (p0 : Int32) (rr : Int32) (oP : Mm) (hf : ffX7_rack p0 mX mT mP = some (rr, oP)) : Met l yX7_rack wsX7_rack rX7_rack (va_Pc [.ref (a 0 0), .int p0] (vv_pre D C (w_FR C a mX ++ (w_Told C (a 3) mT ++ w_Mom C (a 3) (a 4) mP)) sz)) (vv_QI D C (w_FR C a mX ++ (w_Told C (a 3) mT ++ w_Mom C (a 3) (a 4) mP)) (w_FR C a mX ++ (w_Told C (a 3) mT ++ w_Mom C (a 3) (a 4) oP)) sz rr) 0 0 (va_A (w_FR C a mX ++ (w_Told C (a 3) mT ++ w_Mom C (a 3) (a 4) mP)) sz) := by
  unfold ffX7_rack at hf
  refine vv_metI (cc := cX7_rack) (maxL := 2) (ty := .int) (by decide) rfl (Nat.le_of_ble_eq_true rfl) ?_
  intro p e s m args below meth c A Q H locs ls hx hb hml hown hts hA hK hN hP hD hS hl hret
  have hown : s.vm.findClass RX7 = some m.cls := hown
  have hl : lv_has ls 2 [(0, .ref (a 0 0)), (1, .int p0)] := hl
  have hret : ∀ (v0 : Int32) (v1 : Mm) (H : Heap) (locs : List Loc) (ls : Array Slot) (pc : Nat), some (v0, v1) = some (rr, oP) → narrow .int (.int v0) = .int v0 → va_P D vwCl (w_FR C a mX ++ (w_Told C (a 3) mT ++ w_Mom C (a 3) (a 4) v1)) H → va_D A (w_FR C a mX ++ (w_Told C (a 3) mT ++ w_Mom C (a 3) (a 4) v1)) → va_S A s.heap H locs → decode cX7_rack pc = .ok (.ireturn, 1) → W p l e rX7_rack s m args below meth c H locs 0 0 Q (F0 m pc ls [.int v0]) := by
    intro v0 v1 H locs ls pc h0 hn h1 h2 h3 h4
    cases h0
    exact hret H locs ls pc hn h1 h2 h3 h4
  have q0 := hts (.fieldLink RX7 28 "ForeRain" "present" "LForeRain$Moment;") (by decide +kernel)
  have q1 := hts (.fieldLink RX7 123 "ForeRain$Moment" "place" "[I") (by decide +kernel)
  have iX7 : ∀ w ∈ u_ws RX7 TX7 10, w ∈ wsX7_rack := by decide +kernel
  have iX3 : ∀ w ∈ u_ws RX3 TX3 7, w ∈ wsX7_rack := by decide +kernel
  refine lv_aload_n hx hb dX7_rack_0 rfl (lv_at hl 0 rfl) ?_
  refine lv_iload_n hx hb dX7_rack_1 rfl (lv_at hl 1 rfl) ?_
  obtain ⟨r1, hc, hf⟩ := kv_b1_e hf
  have hs9 : vv_Sub D H A (w_FR C a mX ++ w_Told C (a 3) mT) (w_FR C a mX ++ w_Told C (a 3) mT) (w_FR C a mX ++ (w_Told C (a 3) mT ++ w_Mom C (a 3) (a 4) mP)) := vv_Sub.part (ws := (w_FR C a mX ++ (w_Told C (a 3) mT ++ w_Mom C (a 3) (a 4) mP))) (wr := (w_Mom C (a 3) (a 4) mP)) [0, 1, 2, 3, 4, 5, 6, 7, 8, 9] [10, 11, 12, 13, 14] [5, 6, 7, 8, 9, 10, 11, 12, 13, 14, 0, 1, 2, 3, 4] hP hD hS hA rfl rfl (by decide) rfl
  refine vv_goi (wn := (w_FR C a mX ++ (w_Told C (a 3) mT ++ w_Mom C (a 3) (a 4) mP))) hK hs9 hS (vv_rV (As := [.int p0]) (rest := []) hx hb hml hown hts hK hN hS hs9 (ccX7_isPiece l D C H.size a mX mT p0 r1 hc) (cwV 1 hts gX7_rack_X7_isPiece rfl rfl rfl (by decide +kernel) ⟨(Nat.le_of_ble_eq_true rfl), (Nat.le_of_ble_eq_true rfl)⟩) (va_recv hK hP (ci := 7) (q0 := 0) rfl rfl) rfl hl.1 rfl (Nat.le_of_ble_eq_true rfl) dX7_rack_2 ⟨Nat.zero_le _, Nat.zero_le _⟩) (fun H locs hP hD hS => ?_)
  refine lv_if_ne (tgt := 10) hx hb dX7_rack_5 (by decide) (fun hc => ?_) (fun hc => ?_)
  · have hf := kv_f hc hf
    refine lv_aload_n hx hb dX7_rack_10 rfl (lv_at hl 0 rfl) ?_
    refine va_get (D := D) (ci := 7) (v := .ref (a 4 0)) (C := RX7) (T := TX7) (N := 10) hx hb hts iX7 hown hK hP 0 rfl rfl 2 (by decide) q0 (fun _ h9 => h9) rfl dX7_rack_11 ?_
    refine va_get (D := D) (ci := 3) (v := .ref (a 4 3)) (C := RX3) (T := TX3) (N := 7) hx hb hts iX3 hown hK hP 10 rfl rfl 5 (by decide) q1 (fun _ h9 => h9) rfl dX7_rack_14 ?_
    refine lv_iload_n hx hb dX7_rack_17 rfl (lv_at hl 1 rfl) ?_
    obtain ⟨h9, hf⟩ := kv_ix_e hf
    refine va_iald hx hb hK hP 13 1 rfl rfl h9 dX7_rack_18 ?_
    refine lv_bipush (v := 8) hx hb dX7_rack_19 (by decide) ?_
    refine lv_icmp_ne (tgt := 27) hx hb dX7_rack_21 (by decide) (fun hc => ?_) (fun hc => ?_)
    · have hf := kv_f hc hf
      refine lv_aload_n hx hb dX7_rack_27 rfl (lv_at hl 0 rfl) ?_
      refine va_get (D := D) (ci := 7) (v := .ref (a 4 0)) (C := RX7) (T := TX7) (N := 10) hx hb hts iX7 hown hK hP 0 rfl rfl 2 (by decide) q0 (fun _ h9 => h9) rfl dX7_rack_28 ?_
      obtain ⟨r2, hc, hf⟩ := kv_b1_e hf
      have hs9 : vv_Sub D H A (w_Told C (a 3) mT ++ w_Mom C (a 3) (a 4) mP) (w_Told C (a 3) mT ++ w_Mom C (a 3) (a 4) mP) (w_FR C a mX ++ (w_Told C (a 3) mT ++ w_Mom C (a 3) (a 4) mP)) := vv_Sub.part (ws := (w_FR C a mX ++ (w_Told C (a 3) mT ++ w_Mom C (a 3) (a 4) mP))) (wr := (w_FR C a mX)) [3, 4, 5, 6, 7, 8, 9, 10, 11, 12, 13, 14] [0, 1, 2] [0, 1, 2, 3, 4, 5, 6, 7, 8, 9, 10, 11, 12, 13, 14] hP hD hS hA rfl rfl (by decide) rfl
      refine vv_goi (wn := (w_FR C a mX ++ (w_Told C (a 3) mT ++ w_Mom C (a 3) (a 4) mP))) hK hs9 hS (vv_rV (As := []) (rest := []) hx hb hml hown hts hK hN hS hs9 (ccX3_onRack l D C H.size (a 3) (a 4) mT mP r2 hc) (cwV 0 hts gX7_rack_X3_onRack rfl rfl rfl (by decide +kernel) ⟨(Nat.le_of_ble_eq_true rfl), (Nat.le_of_ble_eq_true rfl)⟩) (va_recv hK hP (ci := 3) (q0 := 10) rfl rfl) rfl hl.1 rfl (Nat.le_of_ble_eq_true rfl) dX7_rack_31 ⟨Nat.zero_le _, Nat.zero_le _⟩) (fun H locs hP hD hS => ?_)
      refine lv_iconst (v := 3) hx hb dX7_rack_34 (by decide) ?_
      refine lv_icmp_lt (tgt := 41) hx hb dX7_rack_35 (by decide) (fun hc => ?_) (fun hc => ?_)
      · have hf := kv_t hc hf
        refine lv_aload_n hx hb dX7_rack_41 rfl (lv_at hl 0 rfl) ?_
        refine va_get (D := D) (ci := 7) (v := .ref (a 4 0)) (C := RX7) (T := TX7) (N := 10) hx hb hts iX7 hown hK hP 0 rfl rfl 2 (by decide) q0 (fun _ h9 => h9) rfl dX7_rack_42 ?_
        refine va_get (D := D) (ci := 3) (v := .ref (a 4 3)) (C := RX3) (T := TX3) (N := 7) hx hb hts iX3 hown hK hP 10 rfl rfl 5 (by decide) q1 (fun _ h9 => h9) rfl dX7_rack_45 ?_
        refine lv_iload_n hx hb dX7_rack_48 rfl (lv_at hl 1 rfl) ?_
        refine lv_bipush (v := 8) hx hb dX7_rack_49 (by decide) ?_
        obtain ⟨h9, hf⟩ := kv_ix_e hf
        obtain ⟨mP3, emP3, hf⟩ := kv_lt_e hf
        refine va_iast hx hb hK hP hD hS 13 1 rfl rfl h9 dX7_rack_51 (fun H locs hP hD hS => ?_)
        have hP : va_P D vwCl (w_FR C a mX ++ (w_Told C (a 3) mT ++ w_Mom C (a 3) (a 4) mP3)) H := by rw [emP3]; exact hP
        have hD : va_D A (w_FR C a mX ++ (w_Told C (a 3) mT ++ w_Mom C (a 3) (a 4) mP3)) := by rw [emP3]; exact hD
        refine lv_aload_n hx hb dX7_rack_52 rfl (lv_at hl 0 rfl) ?_
        refine va_get (D := D) (ci := 7) (v := .ref (a 4 0)) (C := RX7) (T := TX7) (N := 10) hx hb hts iX7 hown hK hP 0 rfl rfl 2 (by decide) q0 (fun _ h9 => h9) rfl dX7_rack_53 ?_
        obtain ⟨r4, hc, hf⟩ := kv_b1_e hf
        have hs9 : vv_Sub D H A (w_Told C (a 3) mT ++ w_Mom C (a 3) (a 4) mP3) (w_Told C (a 3) mT ++ w_Mom C (a 3) (a 4) mP3) (w_FR C a mX ++ (w_Told C (a 3) mT ++ w_Mom C (a 3) (a 4) mP3)) := vv_Sub.part (ws := (w_FR C a mX ++ (w_Told C (a 3) mT ++ w_Mom C (a 3) (a 4) mP3))) (wr := (w_FR C a mX)) [3, 4, 5, 6, 7, 8, 9, 10, 11, 12, 13, 14] [0, 1, 2] [0, 1, 2, 3, 4, 5, 6, 7, 8, 9, 10, 11, 12, 13, 14] hP hD hS hA rfl rfl (by decide) rfl
        refine vv_goi (wn := (w_FR C a mX ++ (w_Told C (a 3) mT ++ w_Mom C (a 3) (a 4) mP3))) hK hs9 hS (vv_rV (As := []) (rest := []) hx hb hml hown hts hK hN hS hs9 (ccX3_onRack l D C H.size (a 3) (a 4) mT mP3 r4 hc) (cwV 0 hts gX7_rack_X3_onRack rfl rfl rfl (by decide +kernel) ⟨(Nat.le_of_ble_eq_true rfl), (Nat.le_of_ble_eq_true rfl)⟩) (va_recv hK hP (ci := 3) (q0 := 10) rfl rfl) rfl hl.1 rfl (Nat.le_of_ble_eq_true rfl) dX7_rack_56 ⟨Nat.zero_le _, Nat.zero_le _⟩) (fun H locs hP hD hS => ?_)
        exact hret _ _ _ _ _ _ hf rfl hP hD hS dX7_rack_59
      · have hf := kv_f hc hf
        refine lv_bipush (v := (-3)) hx hb dX7_rack_38 (by decide) ?_
        exact hret _ _ _ _ _ _ hf rfl hP hD hS dX7_rack_40
    · have hf := kv_t hc hf
      refine lv_bipush (v := (-2)) hx hb dX7_rack_24 (by decide) ?_
      exact hret _ _ _ _ _ _ hf rfl hP hD hS dX7_rack_26
  · have hf := kv_t hc hf
    refine lv_iconst (v := (-1)) hx hb dX7_rack_8 (by decide) ?_
    exact hret _ _ _ _ _ _ hf rfl hP hD hS dX7_rack_9
abbrev rX7_right : Room := { frames := 1, cells := 0, slots := 0, locals := 22 }
set_option maxHeartbeats 4000000 in
set_option maxRecDepth 100000 in
theorem ccX7_right (l : Launch) (D : va_G) (C : Nat → ClassId) (sz : Nat) (a : Nat → Nat → Nat) (mX : Mm) (mD : Mm) (p0 : Int32) (rr : Int32) (hf : ffX7_right p0 mX mD = some (rr)) : Met l yX7_right wsX7_right rX7_right (va_Pc [.ref (a 0 0), .int p0] (vv_pre D C (w_FR C a mX ++ w_Dy C (a 10) mD) sz)) (vv_QI D C (w_FR C a mX ++ w_Dy C (a 10) mD) (w_FR C a mX ++ w_Dy C (a 10) mD) sz rr) 0 0 (va_A (w_FR C a mX ++ w_Dy C (a 10) mD) sz) := by
  unfold ffX7_right at hf
  refine vv_metI (cc := cX7_right) (maxL := 2) (ty := .int) (by decide) rfl (Nat.le_of_ble_eq_true rfl) ?_
  intro p e s m args below meth c A Q H locs ls hx hb hml hown hts hA hK hN hP hD hS hl hret
  have hown : s.vm.findClass RX7 = some m.cls := hown
  have hl : lv_has ls 2 [(0, .ref (a 0 0)), (1, .int p0)] := hl
  have hret : ∀ (v0 : Int32) (H : Heap) (locs : List Loc) (ls : Array Slot) (pc : Nat), some (v0) = some (rr) → narrow .int (.int v0) = .int v0 → va_P D vwCl (w_FR C a mX ++ w_Dy C (a 10) mD) H → va_D A (w_FR C a mX ++ w_Dy C (a 10) mD) → va_S A s.heap H locs → decode cX7_right pc = .ok (.ireturn, 1) → W p l e rX7_right s m args below meth c H locs 0 0 Q (F0 m pc ls [.int v0]) := by
    intro v0 H locs ls pc h0 hn h1 h2 h3 h4
    cases h0
    exact hret H locs ls pc hn h1 h2 h3 h4
  have q0 := hts (.fieldLink RX7 64 "ForeRain" "days" "LForeRain$Days;") (by decide +kernel)
  have q1 := hts (.fieldLink RX7 225 "ForeRain$Days" "rights" "[I") (by decide +kernel)
  have iX7 : ∀ w ∈ u_ws RX7 TX7 10, w ∈ wsX7_right := by decide +kernel
  have iX0 : ∀ w ∈ u_ws RX0 TX0 4, w ∈ wsX7_right := by decide +kernel
  refine lv_iload_n hx hb dX7_right_0 rfl (lv_at hl 1 rfl) ?_
  refine lv_iconst (v := 0) hx hb dX7_right_1 (by decide) ?_
  refine lv_iconst (v := 1) hx hb dX7_right_2 (by decide) ?_
  obtain ⟨r1, hc, hf⟩ := kv_b1_e hf
  have hs9 : vv_Sub D H A ([] : va_W) ([] : va_W) (w_FR C a mX ++ w_Dy C (a 10) mD) := vv_Sub.none hP hD hS hA
  refine vv_goi (wn := (w_FR C a mX ++ w_Dy C (a 10) mD)) hK hs9 hS (vv_rS (As := [.int p0, .int 0, .int 1]) (rest := []) hx hb hml hown hts hK hN hS hs9 (ccX7_within l D C H.size p0 (0 : Int32) (1 : Int32) r1 hc) (va_cwS 3 hts gX7_right_X7_within rfl rfl rfl (by decide +kernel) ⟨(Nat.le_of_ble_eq_true rfl), (Nat.le_of_ble_eq_true rfl)⟩) rfl hl.1 rfl (Nat.le_of_ble_eq_true rfl) dX7_right_3 ⟨Nat.zero_le _, Nat.zero_le _⟩) (fun H locs hP hD hS => ?_)
  refine lv_if_eq (tgt := 21) hx hb dX7_right_6 (by decide) (fun hc => ?_) (fun hc => ?_)
  · have hf := kv_t hc hf
    refine lv_iconst (v := (-1)) hx hb dX7_right_21 (by decide) ?_
    exact hret _ _ _ _ _ hf rfl hP hD hS dX7_right_22
  · have hf := kv_f hc hf
    refine lv_aload_n hx hb dX7_right_9 rfl (lv_at hl 0 rfl) ?_
    refine va_get (D := D) (ci := 7) (v := .ref (a 10 0)) (C := RX7) (T := TX7) (N := 10) hx hb hts iX7 hown hK hP 0 rfl rfl 8 (by decide) q0 (fun _ h9 => h9) rfl dX7_right_10 ?_
    refine va_get (D := D) (ci := 0) (v := .ref (a 10 1)) (C := RX0) (T := TX0) (N := 4) hx hb hts iX0 hown hK hP 3 rfl rfl 1 (by decide) q1 (fun _ h9 => h9) rfl dX7_right_13 ?_
    refine lv_iload_n hx hb dX7_right_16 rfl (lv_at hl 1 rfl) ?_
    obtain ⟨h9, hf⟩ := kv_ix_e hf
    refine va_iald hx hb hK hP 4 1 rfl rfl h9 dX7_right_17 ?_
    refine lv_goto (tgt := 22) hx hb dX7_right_18 (by decide) ?_
    exact hret _ _ _ _ _ hf rfl hP hD hS dX7_right_22
abbrev rX7_roomFor : Room := { frames := 3, cells := 0, slots := 0, locals := 128 }
set_option maxHeartbeats 4000000 in
set_option maxRecDepth 100000 in
theorem ccX7_roomFor (l : Launch) (D : va_G) (C : Nat → ClassId) (sz : Nat) (a : Nat → Nat → Nat) (mX : Mm) (mT : Mm) (mP : Mm) (mA : Mm) (p0 : Int32) (rr : Int32) (oA : Mm) (hf : ffX7_roomFor p0 mX mT mP mA = some (rr, oA)) : Met l yX7_roomFor wsX7_roomFor rX7_roomFor (va_Pc [.ref (a 0 0), .int p0] (vv_pre D C (w_FR C a mX ++ (w_Told C (a 3) mT ++ (w_Mom C (a 3) (a 4) mP ++ w_Mom C (a 3) (a 5) mA))) sz)) (vv_QI D C (w_FR C a mX ++ (w_Told C (a 3) mT ++ (w_Mom C (a 3) (a 4) mP ++ w_Mom C (a 3) (a 5) mA))) (w_FR C a mX ++ (w_Told C (a 3) mT ++ (w_Mom C (a 3) (a 4) mP ++ w_Mom C (a 3) (a 5) oA))) sz rr) 0 0 (va_A (w_FR C a mX ++ (w_Told C (a 3) mT ++ (w_Mom C (a 3) (a 4) mP ++ w_Mom C (a 3) (a 5) mA))) sz) := by
  unfold ffX7_roomFor at hf
  refine vv_metI (cc := cX7_roomFor) (maxL := 3) (ty := .int) (by decide) rfl (Nat.le_of_ble_eq_true rfl) ?_
  intro p e s m args below meth c A Q H locs ls hx hb hml hown hts hA hK hN hP hD hS hl hret
  have hown : s.vm.findClass RX7 = some m.cls := hown
  have hl : lv_has ls 3 [(0, .ref (a 0 0)), (1, .int p0)] := hl
  have hret : ∀ (v0 : Int32) (v1 : Mm) (H : Heap) (locs : List Loc) (ls : Array Slot) (pc : Nat), some (v0, v1) = some (rr, oA) → narrow .int (.int v0) = .int v0 → va_P D vwCl (w_FR C a mX ++ (w_Told C (a 3) mT ++ (w_Mom C (a 3) (a 4) mP ++ w_Mom C (a 3) (a 5) v1))) H → va_D A (w_FR C a mX ++ (w_Told C (a 3) mT ++ (w_Mom C (a 3) (a 4) mP ++ w_Mom C (a 3) (a 5) v1))) → va_S A s.heap H locs → decode cX7_roomFor pc = .ok (.ireturn, 1) → W p l e rX7_roomFor s m args below meth c H locs 0 0 Q (F0 m pc ls [.int v0]) := by
    intro v0 v1 H locs ls pc h0 hn h1 h2 h3 h4
    cases h0
    exact hret H locs ls pc hn h1 h2 h3 h4
  have q0 := hts (.fieldLink RX7 32 "ForeRain" "ahead" "LForeRain$Moment;") (by decide +kernel)
  have q1 := hts (.fieldLink RX7 28 "ForeRain" "present" "LForeRain$Moment;") (by decide +kernel)
  have q2 := hts (.fieldLink RX7 19 "ForeRain" "told" "LForeRain$Told;") (by decide +kernel)
  have q3 := hts (.fieldLink RX7 209 "ForeRain$Told" "spots" "I") (by decide +kernel)
  have iX7 : ∀ w ∈ u_ws RX7 TX7 10, w ∈ wsX7_roomFor := by decide +kernel
  have iX6 : ∀ w ∈ u_ws RX6 TX6 9, w ∈ wsX7_roomFor := by decide +kernel
  refine lv_iload_n hx hb dX7_roomFor_0 rfl (lv_at hl 1 rfl) ?_
  refine lv_iconst (v := 1) hx hb dX7_roomFor_1 (by decide) ?_
  refine lv_iconst (v := 5) hx hb dX7_roomFor_2 (by decide) ?_
  obtain ⟨r1, hc, hf⟩ := kv_b1_e hf
  have hs9 : vv_Sub D H A ([] : va_W) ([] : va_W) (w_FR C a mX ++ (w_Told C (a 3) mT ++ (w_Mom C (a 3) (a 4) mP ++ w_Mom C (a 3) (a 5) mA))) := vv_Sub.none hP hD hS hA
  refine vv_goi (wn := (w_FR C a mX ++ (w_Told C (a 3) mT ++ (w_Mom C (a 3) (a 4) mP ++ w_Mom C (a 3) (a 5) mA)))) hK hs9 hS (vv_rS (As := [.int p0, .int 1, .int 5]) (rest := []) hx hb hml hown hts hK hN hS hs9 (ccX7_within l D C H.size p0 (1 : Int32) (5 : Int32) r1 hc) (va_cwS 3 hts gX7_roomFor_X7_within rfl rfl rfl (by decide +kernel) ⟨(Nat.le_of_ble_eq_true rfl), (Nat.le_of_ble_eq_true rfl)⟩) rfl hl.1 rfl (Nat.le_of_ble_eq_true rfl) dX7_roomFor_3 ⟨Nat.zero_le _, Nat.zero_le _⟩) (fun H locs hP hD hS => ?_)
  refine lv_if_ne (tgt := 11) hx hb dX7_roomFor_6 (by decide) (fun hc => ?_) (fun hc => ?_)
  · have hf := kv_f hc hf
    refine lv_aload_n hx hb dX7_roomFor_11 rfl (lv_at hl 0 rfl) ?_
    refine va_get (D := D) (ci := 7) (v := .ref (a 5 0)) (C := RX7) (T := TX7) (N := 10) hx hb hts iX7 hown hK hP 0 rfl rfl 3 (by decide) q0 (fun _ h9 => h9) rfl dX7_roomFor_12 ?_
    refine lv_aload_n hx hb dX7_roomFor_15 rfl (lv_at hl 0 rfl) ?_
    refine va_get (D := D) (ci := 7) (v := .ref (a 4 0)) (C := RX7) (T := TX7) (N := 10) hx hb hts iX7 hown hK hP 0 rfl rfl 2 (by decide) q1 (fun _ h9 => h9) rfl dX7_roomFor_16 ?_
    obtain ⟨mA2, hc, hf⟩ := kv_b1_e hf
    have hs9 : vv_Sub D H A (w_Told C (a 3) mT ++ (w_Mom C (a 3) (a 5) mA ++ w_Mom C (a 3) (a 4) mP)) (w_Told C (a 3) mT ++ (w_Mom C (a 3) (a 5) mA2 ++ w_Mom C (a 3) (a 4) mP)) (w_FR C a mX ++ (w_Told C (a 3) mT ++ (w_Mom C (a 3) (a 4) mP ++ w_Mom C (a 3) (a 5) mA2))) := vv_Sub.part (ws := (w_FR C a mX ++ (w_Told C (a 3) mT ++ (w_Mom C (a 3) (a 4) mP ++ w_Mom C (a 3) (a 5) mA)))) (wr := (w_FR C a mX)) [3, 4, 5, 6, 7, 8, 9, 15, 16, 17, 18, 19, 10, 11, 12, 13, 14] [0, 1, 2] [0, 1, 2, 3, 4, 5, 6, 7, 8, 9, 15, 16, 17, 18, 19, 10, 11, 12, 13, 14] hP hD hS hA rfl rfl (by decide) rfl
    refine vv_gov (wn := (w_FR C a mX ++ (w_Told C (a 3) mT ++ (w_Mom C (a 3) (a 4) mP ++ w_Mom C (a 3) (a 5) mA2)))) hK hs9 hS (vv_rV (As := [.ref (a 4 0)]) (rest := []) hx hb hml hown hts hK hN hS hs9 (ccX3_copy l D C H.size (a 3) (a 5) (a 4) mT mA mP mA2 hc) (cwV 1 hts gX7_roomFor_X3_copy rfl rfl rfl (by decide +kernel) ⟨(Nat.le_of_ble_eq_true rfl), (Nat.le_of_ble_eq_true rfl)⟩) (va_recv hK hP (ci := 3) (q0 := 15) rfl rfl) rfl hl.1 rfl (Nat.le_of_ble_eq_true rfl) dX7_roomFor_19 ⟨Nat.zero_le _, Nat.zero_le _⟩) (fun H locs hP hD hS => ?_)
    refine lv_iconst (v := 0) hx hb dX7_roomFor_22 (by decide) ?_
    refine lv_istore_n (lv' := [(2, .int 0), (0, .ref (a 0 0)), (1, .int p0)]) hx hb dX7_roomFor_23 rfl hl (by decide) rfl (fun ls hl => ?_)
    have L24 : ∀ (K24 : Int32 → Mm → Option (Int32 × Mm)), (∀ (x3 : Int32) (mA4 : Mm) (H : Heap) (locs : List Loc) (ls : Array Slot), va_P D vwCl (w_FR C a mX ++ (w_Told C (a 3) mT ++ (w_Mom C (a 3) (a 4) mP ++ w_Mom C (a 3) (a 5) mA4))) H → va_D A (w_FR C a mX ++ (w_Told C (a 3) mT ++ (w_Mom C (a 3) (a 4) mP ++ w_Mom C (a 3) (a 5) mA4))) → va_S A s.heap H locs → lv_has ls 3 [(2, .int x3), (0, .ref (a 0 0)), (1, .int p0)] → K24 x3 mA4 = some (rr, oA) → W p l e rX7_roomFor s m args below meth c H locs 0 0 Q (F0 m 65 ls [])) → ∀ (n : Nat) (x3 : Int32) (mA4 : Mm) (H : Heap) (locs : List Loc) (ls : Array Slot), va_P D vwCl (w_FR C a mX ++ (w_Told C (a 3) mT ++ (w_Mom C (a 3) (a 4) mP ++ w_Mom C (a 3) (a 5) mA4))) H → va_D A (w_FR C a mX ++ (w_Told C (a 3) mT ++ (w_Mom C (a 3) (a 4) mP ++ w_Mom C (a 3) (a 5) mA4))) → va_S A s.heap H locs → lv_has ls 3 [(2, .int x3), (0, .ref (a 0 0)), (1, .int p0)] → ffX7_roomFor_L24 p0 mT K24 n x3 mA4 = some (rr, oA) → W p l e rX7_roomFor s m args below meth c H locs 0 0 Q (F0 m 24 ls []) := by
      intro K24 hK9 n
      induction n with
      | zero => intro x3 mA4 H locs ls hP hD hS hl hf; exact kv_no hf
      | succ n ih =>
        intro x3 mA4 H locs ls hP hD hS hl hf
        rw [ffX7_roomFor_L24_s] at hf
        refine lv_iload_n hx hb dX7_roomFor_24 rfl (lv_at hl 0 rfl) ?_
        refine lv_bipush (v := 99) hx hb dX7_roomFor_25 (by decide) ?_
        refine lv_icmp_gt (tgt := 65) hx hb dX7_roomFor_27 (by decide) (fun hc => ?_) (fun hc => ?_)
        · have hf := kv_t hc hf
          exact hK9 _ _ _ _ _ hP hD hS (lv_sub hl [0, 1, 2] rfl) hf
        · have hf := kv_f hc hf
          refine lv_aload_n hx hb dX7_roomFor_30 rfl (lv_at hl 1 rfl) ?_
          refine va_get (D := D) (ci := 7) (v := .ref (a 3 0)) (C := RX7) (T := TX7) (N := 10) hx hb hts iX7 hown hK hP 0 rfl rfl 1 (by decide) q2 (fun _ h9 => h9) rfl dX7_roomFor_31 ?_
          refine va_get (D := D) (ci := 6) (v := .int (mT 0 1)) (C := RX6) (T := TX6) (N := 9) hx hb hts iX6 hown hK hP 3 rfl rfl 1 (by decide) q3 (fun _ h9 => h9) rfl dX7_roomFor_34 ?_
          refine lv_aload_n hx hb dX7_roomFor_37 rfl (lv_at hl 1 rfl) ?_
          refine va_get (D := D) (ci := 7) (v := .ref (a 5 0)) (C := RX7) (T := TX7) (N := 10) hx hb hts iX7 hown hK hP 0 rfl rfl 3 (by decide) q0 (fun _ h9 => h9) rfl dX7_roomFor_38 ?_
          obtain ⟨r5, hc, hf⟩ := kv_b1_e hf
          have hs9 : vv_Sub D H A (w_Told C (a 3) mT ++ w_Mom C (a 3) (a 5) mA4) (w_Told C (a 3) mT ++ w_Mom C (a 3) (a 5) mA4) (w_FR C a mX ++ (w_Told C (a 3) mT ++ (w_Mom C (a 3) (a 4) mP ++ w_Mom C (a 3) (a 5) mA4))) := vv_Sub.part (ws := (w_FR C a mX ++ (w_Told C (a 3) mT ++ (w_Mom C (a 3) (a 4) mP ++ w_Mom C (a 3) (a 5) mA4)))) (wr := (w_FR C a mX ++ w_Mom C (a 3) (a 4) mP)) [3, 4, 5, 6, 7, 8, 9, 15, 16, 17, 18, 19] [0, 1, 2, 10, 11, 12, 13, 14] [0, 1, 2, 8, 9, 10, 11, 12, 13, 14, 3, 4, 5, 6, 7, 15, 16, 17, 18, 19] hP hD hS hA rfl rfl (by decide) rfl
          refine vv_goi (wn := (w_FR C a mX ++ (w_Told C (a 3) mT ++ (w_Mom C (a 3) (a 4) mP ++ w_Mom C (a 3) (a 5) mA4)))) hK hs9 hS (vv_rV (As := []) (rest := [.int (mT 0 1)]) hx hb hml hown hts hK hN hS hs9 (ccX3_wetOnLine l D C H.size (a 3) (a 5) mT mA4 r5 hc) (cwV 0 hts gX7_roomFor_X3_wetOnLine rfl rfl rfl (by decide +kernel) ⟨(Nat.le_of_ble_eq_true rfl), (Nat.le_of_ble_eq_true rfl)⟩) (va_recv hK hP (ci := 3) (q0 := 15) rfl rfl) rfl hl.1 rfl (Nat.le_of_ble_eq_true rfl) dX7_roomFor_41 ⟨Nat.zero_le _, Nat.zero_le _⟩) (fun H locs hP hD hS => ?_)
          refine lv_isub hx hb dX7_roomFor_44 ?_
          refine lv_iload_n hx hb dX7_roomFor_45 rfl (lv_at hl 2 rfl) ?_
          refine lv_icmp_lt (tgt := 51) hx hb dX7_roomFor_46 (by decide) (fun hc => ?_) (fun hc => ?_)
          · have hf := kv_t hc hf
            refine lv_aload_n hx hb dX7_roomFor_51 rfl (lv_at hl 1 rfl) ?_
            refine va_get (D := D) (ci := 7) (v := .ref (a 5 0)) (C := RX7) (T := TX7) (N := 10) hx hb hts iX7 hown hK hP 0 rfl rfl 3 (by decide) q0 (fun _ h9 => h9) rfl dX7_roomFor_52 ?_
            obtain ⟨r6, mA7, hc, hf⟩ := kv_b2_e hf
            have hs9 : vv_Sub D H A (w_Told C (a 3) mT ++ w_Mom C (a 3) (a 5) mA4) (w_Told C (a 3) mT ++ w_Mom C (a 3) (a 5) mA7) (w_FR C a mX ++ (w_Told C (a 3) mT ++ (w_Mom C (a 3) (a 4) mP ++ w_Mom C (a 3) (a 5) mA7))) := vv_Sub.part (ws := (w_FR C a mX ++ (w_Told C (a 3) mT ++ (w_Mom C (a 3) (a 4) mP ++ w_Mom C (a 3) (a 5) mA4)))) (wr := (w_FR C a mX ++ w_Mom C (a 3) (a 4) mP)) [3, 4, 5, 6, 7, 8, 9, 15, 16, 17, 18, 19] [0, 1, 2, 10, 11, 12, 13, 14] [0, 1, 2, 8, 9, 10, 11, 12, 13, 14, 3, 4, 5, 6, 7, 15, 16, 17, 18, 19] hP hD hS hA rfl rfl (by decide) rfl
            refine vv_goi (wn := (w_FR C a mX ++ (w_Told C (a 3) mT ++ (w_Mom C (a 3) (a 4) mP ++ w_Mom C (a 3) (a 5) mA7)))) hK hs9 hS (vv_rV (As := []) (rest := []) hx hb hml hown hts hK hN hS hs9 (ccX3_pass l D C H.size (a 3) (a 5) mT mA4 r6 mA7 hc) (cwV 0 hts gX7_roomFor_X3_pass rfl rfl rfl (by decide +kernel) ⟨(Nat.le_of_ble_eq_true rfl), (Nat.le_of_ble_eq_true rfl)⟩) (va_recv hK hP (ci := 3) (q0 := 15) rfl rfl) rfl hl.1 rfl (Nat.le_of_ble_eq_true rfl) dX7_roomFor_55 ⟨Nat.zero_le _, Nat.zero_le _⟩) (fun H locs hP hD hS => ?_)
            refine lv_pop hx hb dX7_roomFor_58 rfl ?_
            obtain ⟨x8, ex8, hf⟩ := kv_lt_e hf
            refine lv_iinc (v := x8) (lv' := [(2, .int x8), (0, .ref (a 0 0)), (1, .int p0)]) hx hb dX7_roomFor_59 hl (k := 0) rfl (by rw [ex8]; rfl) (by decide) rfl (fun ls hl => ?_)
            refine lv_goto (tgt := 24) hx hb dX7_roomFor_62 (by decide) ?_
            exact ih _ _ _ _ _ hP hD hS (lv_sub hl [0, 1, 2] rfl) hf
          · have hf := kv_f hc hf
            refine lv_iload_n hx hb dX7_roomFor_49 rfl (lv_at hl 0 rfl) ?_
            exact hret _ _ _ _ _ _ hf rfl hP hD hS dX7_roomFor_50
    refine L24 _ (fun x9 mA10 H locs ls hP hD hS hl hf => ?_) _ _ _ _ _ _ hP hD hS (lv_sub hl [0, 1, 2] rfl) hf
    refine lv_bipush (v := (-9)) hx hb dX7_roomFor_65 (by decide) ?_
    exact hret _ _ _ _ _ _ hf rfl hP hD hS dX7_roomFor_67
  · have hf := kv_t hc hf
    refine lv_iconst (v := (-1)) hx hb dX7_roomFor_9 (by decide) ?_
    exact hret _ _ _ _ _ _ hf rfl hP hD hS dX7_roomFor_10
abbrev rX7_sky : Room := { frames := 2, cells := 0, slots := 0, locals := 43 }
set_option maxHeartbeats 4000000 in
set_option maxRecDepth 100000 in
theorem ccX7_sky (l : Launch) (D : va_G) (C : Nat → ClassId) (sz : Nat) (a : Nat → Nat → Nat) (mX : Mm) (mT : Mm) (p0 : Int32) (rr : Int32) (hf : ffX7_sky p0 mX mT = some (rr)) : Met l yX7_sky wsX7_sky rX7_sky (va_Pc [.ref (a 0 0), .int p0] (vv_pre D C (w_FR C a mX ++ w_Told C (a 3) mT) sz)) (vv_QI D C (w_FR C a mX ++ w_Told C (a 3) mT) (w_FR C a mX ++ w_Told C (a 3) mT) sz rr) 0 0 (va_A (w_FR C a mX ++ w_Told C (a 3) mT) sz) := by
  unfold ffX7_sky at hf
  refine vv_metI (cc := cX7_sky) (maxL := 2) (ty := .int) (by decide) rfl (Nat.le_of_ble_eq_true rfl) ?_
  intro p e s m args below meth c A Q H locs ls hx hb hml hown hts hA hK hN hP hD hS hl hret
  have hown : s.vm.findClass RX7 = some m.cls := hown
  have hl : lv_has ls 2 [(0, .ref (a 0 0)), (1, .int p0)] := hl
  have hret : ∀ (v0 : Int32) (H : Heap) (locs : List Loc) (ls : Array Slot) (pc : Nat), some (v0) = some (rr) → narrow .int (.int v0) = .int v0 → va_P D vwCl (w_FR C a mX ++ w_Told C (a 3) mT) H → va_D A (w_FR C a mX ++ w_Told C (a 3) mT) → va_S A s.heap H locs → decode cX7_sky pc = .ok (.ireturn, 1) → W p l e rX7_sky s m args below meth c H locs 0 0 Q (F0 m pc ls [.int v0]) := by
    intro v0 H locs ls pc h0 hn h1 h2 h3 h4
    cases h0
    exact hret H locs ls pc hn h1 h2 h3 h4
  have q0 := hts (.constant RX7 142 (-1000000)) (by decide +kernel)
  have q1 := hts (.fieldLink RX7 19 "ForeRain" "told" "LForeRain$Told;") (by decide +kernel)
  have iX7 : ∀ w ∈ u_ws RX7 TX7 10, w ∈ wsX7_sky := by decide +kernel
  refine lv_iload_n hx hb dX7_sky_0 rfl (lv_at hl 1 rfl) ?_
  refine lv_iconst (v := 0) hx hb dX7_sky_1 (by decide) ?_
  refine lv_bipush (v := 99) hx hb dX7_sky_2 (by decide) ?_
  obtain ⟨r1, hc, hf⟩ := kv_b1_e hf
  have hs9 : vv_Sub D H A ([] : va_W) ([] : va_W) (w_FR C a mX ++ w_Told C (a 3) mT) := vv_Sub.none hP hD hS hA
  refine vv_goi (wn := (w_FR C a mX ++ w_Told C (a 3) mT)) hK hs9 hS (vv_rS (As := [.int p0, .int 0, .int 99]) (rest := []) hx hb hml hown hts hK hN hS hs9 (ccX7_within l D C H.size p0 (0 : Int32) (99 : Int32) r1 hc) (va_cwS 3 hts gX7_sky_X7_within rfl rfl rfl (by decide +kernel) ⟨(Nat.le_of_ble_eq_true rfl), (Nat.le_of_ble_eq_true rfl)⟩) rfl hl.1 rfl (Nat.le_of_ble_eq_true rfl) dX7_sky_4 ⟨Nat.zero_le _, Nat.zero_le _⟩) (fun H locs hP hD hS => ?_)
  refine lv_if_eq (tgt := 21) hx hb dX7_sky_7 (by decide) (fun hc => ?_) (fun hc => ?_)
  · have hf := kv_t hc hf
    refine lv_ldc (v := (-1000000)) hx hb hown q0 dX7_sky_21 ?_
    exact hret _ _ _ _ _ hf rfl hP hD hS dX7_sky_23
  · have hf := kv_f hc hf
    refine lv_aload_n hx hb dX7_sky_10 rfl (lv_at hl 0 rfl) ?_
    refine va_get (D := D) (ci := 7) (v := .ref (a 3 0)) (C := RX7) (T := TX7) (N := 10) hx hb hts iX7 hown hK hP 0 rfl rfl 1 (by decide) q1 (fun _ h9 => h9) rfl dX7_sky_11 ?_
    refine lv_iload_n hx hb dX7_sky_14 rfl (lv_at hl 1 rfl) ?_
    obtain ⟨r2, hc, hf⟩ := kv_b1_e hf
    have hs9 : vv_Sub D H A (w_Told C (a 3) mT) (w_Told C (a 3) mT) (w_FR C a mX ++ w_Told C (a 3) mT) := vv_Sub.part (ws := (w_FR C a mX ++ w_Told C (a 3) mT)) (wr := (w_FR C a mX)) [3, 4, 5, 6, 7, 8, 9] [0, 1, 2] [0, 1, 2, 3, 4, 5, 6, 7, 8, 9] hP hD hS hA rfl rfl (by decide) rfl
    refine vv_goi (wn := (w_FR C a mX ++ w_Told C (a 3) mT)) hK hs9 hS (vv_rV (As := [.int p0]) (rest := []) hx hb hml hown hts hK hN hS hs9 (ccX6_skyIn l D C H.size (a 3) mT p0 r2 hc) (cwV 1 hts gX7_sky_X6_skyIn rfl rfl rfl (by decide +kernel) ⟨(Nat.le_of_ble_eq_true rfl), (Nat.le_of_ble_eq_true rfl)⟩) (va_recv hK hP (ci := 6) (q0 := 3) rfl rfl) rfl hl.1 rfl (Nat.le_of_ble_eq_true rfl) dX7_sky_15 ⟨Nat.zero_le _, Nat.zero_le _⟩) (fun H locs hP hD hS => ?_)
    refine lv_goto (tgt := 23) hx hb dX7_sky_18 (by decide) ?_
    exact hret _ _ _ _ _ hf rfl hP hD hS dX7_sky_23
abbrev rX7_spot : Room := { frames := 2, cells := 0, slots := 0, locals := 43 }
set_option maxHeartbeats 4000000 in
set_option maxRecDepth 100000 in
theorem ccX7_spot (l : Launch) (D : va_G) (C : Nat → ClassId) (sz : Nat) (a : Nat → Nat → Nat) (mX : Mm) (mT : Mm) (mP : Mm) (p0 : Int32) (p1 : Int32) (rr : Int32) (hf : ffX7_spot p0 p1 mX mT mP = some (rr)) : Met l yX7_spot wsX7_spot rX7_spot (va_Pc [.ref (a 0 0), .int p0, .int p1] (vv_pre D C (w_FR C a mX ++ (w_Told C (a 3) mT ++ w_Mom C (a 3) (a 4) mP)) sz)) (vv_QI D C (w_FR C a mX ++ (w_Told C (a 3) mT ++ w_Mom C (a 3) (a 4) mP)) (w_FR C a mX ++ (w_Told C (a 3) mT ++ w_Mom C (a 3) (a 4) mP)) sz rr) 0 0 (va_A (w_FR C a mX ++ (w_Told C (a 3) mT ++ w_Mom C (a 3) (a 4) mP)) sz) := by
  unfold ffX7_spot at hf
  refine vv_metI (cc := cX7_spot) (maxL := 3) (ty := .int) (by decide) rfl (Nat.le_of_ble_eq_true rfl) ?_
  intro p e s m args below meth c A Q H locs ls hx hb hml hown hts hA hK hN hP hD hS hl hret
  have hown : s.vm.findClass RX7 = some m.cls := hown
  have hl : lv_has ls 3 [(0, .ref (a 0 0)), (1, .int p0), (2, .int p1)] := hl
  have hret : ∀ (v0 : Int32) (H : Heap) (locs : List Loc) (ls : Array Slot) (pc : Nat), some (v0) = some (rr) → narrow .int (.int v0) = .int v0 → va_P D vwCl (w_FR C a mX ++ (w_Told C (a 3) mT ++ w_Mom C (a 3) (a 4) mP)) H → va_D A (w_FR C a mX ++ (w_Told C (a 3) mT ++ w_Mom C (a 3) (a 4) mP)) → va_S A s.heap H locs → decode cX7_spot pc = .ok (.ireturn, 1) → W p l e rX7_spot s m args below meth c H locs 0 0 Q (F0 m pc ls [.int v0]) := by
    intro v0 H locs ls pc h0 hn h1 h2 h3 h4
    cases h0
    exact hret H locs ls pc hn h1 h2 h3 h4
  have q0 := hts (.fieldLink RX7 19 "ForeRain" "told" "LForeRain$Told;") (by decide +kernel)
  have q1 := hts (.fieldLink RX7 129 "ForeRain$Told" "room" "[I") (by decide +kernel)
  have q2 := hts (.fieldLink RX7 132 "ForeRain$Told" "wind" "[I") (by decide +kernel)
  have q3 := hts (.fieldLink RX7 28 "ForeRain" "present" "LForeRain$Moment;") (by decide +kernel)
  have iX7 : ∀ w ∈ u_ws RX7 TX7 10, w ∈ wsX7_spot := by decide +kernel
  have iX6 : ∀ w ∈ u_ws RX6 TX6 9, w ∈ wsX7_spot := by decide +kernel
  refine lv_aload_n hx hb dX7_spot_0 rfl (lv_at hl 0 rfl) ?_
  refine lv_iload_n hx hb dX7_spot_1 rfl (lv_at hl 1 rfl) ?_
  obtain ⟨r1, hc, hf⟩ := kv_b1_e hf
  have hs9 : vv_Sub D H A (w_FR C a mX ++ w_Told C (a 3) mT) (w_FR C a mX ++ w_Told C (a 3) mT) (w_FR C a mX ++ (w_Told C (a 3) mT ++ w_Mom C (a 3) (a 4) mP)) := vv_Sub.part (ws := (w_FR C a mX ++ (w_Told C (a 3) mT ++ w_Mom C (a 3) (a 4) mP))) (wr := (w_Mom C (a 3) (a 4) mP)) [0, 1, 2, 3, 4, 5, 6, 7, 8, 9] [10, 11, 12, 13, 14] [5, 6, 7, 8, 9, 10, 11, 12, 13, 14, 0, 1, 2, 3, 4] hP hD hS hA rfl rfl (by decide) rfl
  refine vv_goi (wn := (w_FR C a mX ++ (w_Told C (a 3) mT ++ w_Mom C (a 3) (a 4) mP))) hK hs9 hS (vv_rV (As := [.int p0]) (rest := []) hx hb hml hown hts hK hN hS hs9 (ccX7_isSpot l D C H.size a mX mT p0 r1 hc) (cwV 1 hts gX7_spot_X7_isSpot rfl rfl rfl (by decide +kernel) ⟨(Nat.le_of_ble_eq_true rfl), (Nat.le_of_ble_eq_true rfl)⟩) (va_recv hK hP (ci := 7) (q0 := 0) rfl rfl) rfl hl.1 rfl (Nat.le_of_ble_eq_true rfl) dX7_spot_2 ⟨Nat.zero_le _, Nat.zero_le _⟩) (fun H locs hP hD hS => ?_)
  refine lv_if_ne (tgt := 10) hx hb dX7_spot_5 (by decide) (fun hc => ?_) (fun hc => ?_)
  · have hf := kv_f hc hf
    refine lv_iload_n hx hb dX7_spot_10 rfl (lv_at hl 2 rfl) ?_
    by_cases c0 : p1 = 0
    · have hf := kv_t c0 hf
      refine lv_tableIn (off := 25) (tgt := 36) hx hb dX7_spot_11 (by rw [c0]; decide) (by rw [c0]; decide) (by rw [c0]; rfl) (by decide) ?_
      refine lv_aload_n hx hb dX7_spot_36 rfl (lv_at hl 0 rfl) ?_
      refine va_get (D := D) (ci := 7) (v := .ref (a 3 0)) (C := RX7) (T := TX7) (N := 10) hx hb hts iX7 hown hK hP 0 rfl rfl 1 (by decide) q0 (fun _ h9 => h9) rfl dX7_spot_37 ?_
      refine va_get (D := D) (ci := 6) (v := .ref (a 3 4)) (C := RX6) (T := TX6) (N := 9) hx hb hts iX6 hown hK hP 3 rfl rfl 6 (by decide) q1 (fun _ h9 => h9) rfl dX7_spot_40 ?_
      refine lv_iload_n hx hb dX7_spot_43 rfl (lv_at hl 1 rfl) ?_
      obtain ⟨h9, hf⟩ := kv_ix_e hf
      refine va_iald hx hb hK hP 7 1 rfl rfl h9 dX7_spot_44 ?_
      exact hret _ _ _ _ _ hf rfl hP hD hS dX7_spot_45
    have hf := kv_f c0 hf
    by_cases c1 : p1 = 1
    · have hf := kv_t c1 hf
      refine lv_tableIn (off := 35) (tgt := 46) hx hb dX7_spot_11 (by rw [c1]; decide) (by rw [c1]; decide) (by rw [c1]; rfl) (by decide) ?_
      refine lv_aload_n hx hb dX7_spot_46 rfl (lv_at hl 0 rfl) ?_
      refine va_get (D := D) (ci := 7) (v := .ref (a 3 0)) (C := RX7) (T := TX7) (N := 10) hx hb hts iX7 hown hK hP 0 rfl rfl 1 (by decide) q0 (fun _ h9 => h9) rfl dX7_spot_47 ?_
      refine va_get (D := D) (ci := 6) (v := .ref (a 3 5)) (C := RX6) (T := TX6) (N := 9) hx hb hts iX6 hown hK hP 3 rfl rfl 7 (by decide) q2 (fun _ h9 => h9) rfl dX7_spot_50 ?_
      refine lv_iload_n hx hb dX7_spot_53 rfl (lv_at hl 1 rfl) ?_
      obtain ⟨h9, hf⟩ := kv_ix_e hf
      refine va_iald hx hb hK hP 8 1 rfl rfl h9 dX7_spot_54 ?_
      exact hret _ _ _ _ _ hf rfl hP hD hS dX7_spot_55
    have hf := kv_f c1 hf
    by_cases c2 : p1 = 2
    · have hf := kv_t c2 hf
      refine lv_tableIn (off := 45) (tgt := 56) hx hb dX7_spot_11 (by rw [c2]; decide) (by rw [c2]; decide) (by rw [c2]; rfl) (by decide) ?_
      refine lv_aload_n hx hb dX7_spot_56 rfl (lv_at hl 0 rfl) ?_
      refine va_get (D := D) (ci := 7) (v := .ref (a 4 0)) (C := RX7) (T := TX7) (N := 10) hx hb hts iX7 hown hK hP 0 rfl rfl 2 (by decide) q3 (fun _ h9 => h9) rfl dX7_spot_57 ?_
      refine lv_iload_n hx hb dX7_spot_60 rfl (lv_at hl 1 rfl) ?_
      obtain ⟨r2, hc, hf⟩ := kv_b1_e hf
      have hs9 : vv_Sub D H A (w_Told C (a 3) mT ++ w_Mom C (a 3) (a 4) mP) (w_Told C (a 3) mT ++ w_Mom C (a 3) (a 4) mP) (w_FR C a mX ++ (w_Told C (a 3) mT ++ w_Mom C (a 3) (a 4) mP)) := vv_Sub.part (ws := (w_FR C a mX ++ (w_Told C (a 3) mT ++ w_Mom C (a 3) (a 4) mP))) (wr := (w_FR C a mX)) [3, 4, 5, 6, 7, 8, 9, 10, 11, 12, 13, 14] [0, 1, 2] [0, 1, 2, 3, 4, 5, 6, 7, 8, 9, 10, 11, 12, 13, 14] hP hD hS hA rfl rfl (by decide) rfl
      refine vv_goi (wn := (w_FR C a mX ++ (w_Told C (a 3) mT ++ w_Mom C (a 3) (a 4) mP))) hK hs9 hS (vv_rV (As := [.int p0]) (rest := []) hx hb hml hown hts hK hN hS hs9 (ccX3_pieceAt l D C H.size (a 3) (a 4) mT mP p0 r2 hc) (cwV 1 hts gX7_spot_X3_pieceAt rfl rfl rfl (by decide +kernel) ⟨(Nat.le_of_ble_eq_true rfl), (Nat.le_of_ble_eq_true rfl)⟩) (va_recv hK hP (ci := 3) (q0 := 10) rfl rfl) rfl hl.1 rfl (Nat.le_of_ble_eq_true rfl) dX7_spot_61 ⟨Nat.zero_le _, Nat.zero_le _⟩) (fun H locs hP hD hS => ?_)
      exact hret _ _ _ _ _ hf rfl hP hD hS dX7_spot_64
    have hf := kv_f c2 hf
    refine lv_tableOut (tgt := 65) hx hb dX7_spot_11 (by have a0 : p1.toInt ≠ 0 := kv_ti c0; have a1 : p1.toInt ≠ 1 := kv_ti c1; have a2 : p1.toInt ≠ 2 := kv_ti c2; omega) (by decide) ?_
    refine lv_iconst (v := (-1)) hx hb dX7_spot_65 (by decide) ?_
    exact hret _ _ _ _ _ hf rfl hP hD hS dX7_spot_66
  · have hf := kv_t hc hf
    refine lv_iconst (v := (-1)) hx hb dX7_spot_8 (by decide) ?_
    exact hret _ _ _ _ _ hf rfl hP hD hS dX7_spot_9
abbrev rX7_trace : Room := { frames := 0, cells := 0, slots := 0, locals := 0 }
set_option maxHeartbeats 4000000 in
set_option maxRecDepth 100000 in
theorem ccX7_trace (l : Launch) (D : va_G) (C : Nat → ClassId) (sz : Nat) (a : Nat → Nat → Nat) (mX : Mm) (mG : Int64) (rr : Int64) (hf : ffX7_trace mX mG = some (rr)) : Met l yX7_trace wsX7_trace rX7_trace (va_Pc [.ref (a 0 0)] (vv_pre D C (w_FR C a mX ++ w_Mk (a 3) (a 4) (a 11) mG) sz)) (vv_QL D C (w_FR C a mX ++ w_Mk (a 3) (a 4) (a 11) mG) (w_FR C a mX ++ w_Mk (a 3) (a 4) (a 11) mG) sz rr) 0 0 (va_A (w_FR C a mX ++ w_Mk (a 3) (a 4) (a 11) mG) sz) := by
  unfold ffX7_trace at hf
  refine vv_metL (cc := cX7_trace) (maxL := 1) (by decide) rfl (Nat.le_of_ble_eq_true rfl) ?_
  intro p e s m args below meth c A Q H locs ls hx hb hml hown hts hA hK hN hP hD hS hl hret
  have hown : s.vm.findClass RX7 = some m.cls := hown
  have hl : lv_has ls 1 [(0, .ref (a 0 0))] := hl
  have hret : ∀ (v0 : Int64) (H : Heap) (locs : List Loc) (ls : Array Slot) (pc : Nat), some (v0) = some (rr) → va_P D vwCl (w_FR C a mX ++ w_Mk (a 3) (a 4) (a 11) mG) H → va_D A (w_FR C a mX ++ w_Mk (a 3) (a 4) (a 11) mG) → va_S A s.heap H locs → decode cX7_trace pc = .ok (.lreturn, 1) → W p l e rX7_trace s m args below meth c H locs 0 0 Q (F0 m pc ls [.long v0]) := by
    intro v0 H locs ls pc h0 h1 h2 h3 h4
    cases h0
    exact hret H locs ls pc h1 h2 h3 h4
  have q0 := hts (.fieldLink RX7 71 "ForeRain" "marks" "LForeRain$Marks;") (by decide +kernel)
  have q1 := hts (.fieldLink RX7 240 "ForeRain$Marks" "trace" "J") (by decide +kernel)
  have iX7 : ∀ w ∈ u_ws RX7 TX7 10, w ∈ wsX7_trace := by decide +kernel
  have iX2 : ∀ w ∈ u_ws RX2 TX2 3, w ∈ wsX7_trace := by decide +kernel
  refine lv_aload_n hx hb dX7_trace_0 rfl (lv_at hl 0 rfl) ?_
  refine va_get (D := D) (ci := 7) (v := .ref (a 11 0)) (C := RX7) (T := TX7) (N := 10) hx hb hts iX7 hown hK hP 0 rfl rfl 9 (by decide) q0 (fun _ h9 => h9) rfl dX7_trace_1 ?_
  refine va_get (D := D) (ci := 2) (v := .long mG) (C := RX2) (T := TX2) (N := 3) hx hb hts iX2 hown hK hP 3 rfl rfl 2 (by decide) q1 (fun _ h9 => h9) rfl dX7_trace_4 ?_
  exact hret _ _ _ _ _ hf hP hD hS dX7_trace_7
abbrev rX7_trust : Room := { frames := 1, cells := 0, slots := 0, locals := 22 }
set_option maxHeartbeats 4000000 in
set_option maxRecDepth 100000 in
theorem ccX7_trust (l : Launch) (D : va_G) (C : Nat → ClassId) (sz : Nat) (a : Nat → Nat → Nat) (mX : Mm) (mD : Mm) (p0 : Int32) (p1 : Int32) (rr : Int32) (hf : ffX7_trust p0 p1 mX mD = some (rr)) : Met l yX7_trust wsX7_trust rX7_trust (va_Pc [.ref (a 0 0), .int p0, .int p1] (vv_pre D C (w_FR C a mX ++ w_Dy C (a 10) mD) sz)) (vv_QI D C (w_FR C a mX ++ w_Dy C (a 10) mD) (w_FR C a mX ++ w_Dy C (a 10) mD) sz rr) 0 0 (va_A (w_FR C a mX ++ w_Dy C (a 10) mD) sz) := by
  unfold ffX7_trust at hf
  refine vv_metI (cc := cX7_trust) (maxL := 5) (ty := .int) (by decide) rfl (Nat.le_of_ble_eq_true rfl) ?_
  intro p e s m args below meth c A Q H locs ls hx hb hml hown hts hA hK hN hP hD hS hl hret
  have hown : s.vm.findClass RX7 = some m.cls := hown
  have hl : lv_has ls 5 [(0, .ref (a 0 0)), (1, .int p0), (2, .int p1)] := hl
  have hret : ∀ (v0 : Int32) (H : Heap) (locs : List Loc) (ls : Array Slot) (pc : Nat), some (v0) = some (rr) → narrow .int (.int v0) = .int v0 → va_P D vwCl (w_FR C a mX ++ w_Dy C (a 10) mD) H → va_D A (w_FR C a mX ++ w_Dy C (a 10) mD) → va_S A s.heap H locs → decode cX7_trust pc = .ok (.ireturn, 1) → W p l e rX7_trust s m args below meth c H locs 0 0 Q (F0 m pc ls [.int v0]) := by
    intro v0 H locs ls pc h0 hn h1 h2 h3 h4
    cases h0
    exact hret H locs ls pc hn h1 h2 h3 h4
  have q0 := hts (.fieldLink RX7 64 "ForeRain" "days" "LForeRain$Days;") (by decide +kernel)
  have q1 := hts (.fieldLink RX7 228 "ForeRain$Days" "saidRain" "[I") (by decide +kernel)
  have q2 := hts (.fieldLink RX7 231 "ForeRain$Days" "rainCame" "[I") (by decide +kernel)
  have iX7 : ∀ w ∈ u_ws RX7 TX7 10, w ∈ wsX7_trust := by decide +kernel
  have iX0 : ∀ w ∈ u_ws RX0 TX0 4, w ∈ wsX7_trust := by decide +kernel
  refine lv_iload_n hx hb dX7_trust_0 rfl (lv_at hl 1 rfl) ?_
  refine lv_iconst (v := 0) hx hb dX7_trust_1 (by decide) ?_
  refine lv_iconst (v := 1) hx hb dX7_trust_2 (by decide) ?_
  obtain ⟨r1, hc, hf⟩ := kv_b1_e hf
  have hs9 : vv_Sub D H A ([] : va_W) ([] : va_W) (w_FR C a mX ++ w_Dy C (a 10) mD) := vv_Sub.none hP hD hS hA
  refine vv_goi (wn := (w_FR C a mX ++ w_Dy C (a 10) mD)) hK hs9 hS (vv_rS (As := [.int p0, .int 0, .int 1]) (rest := []) hx hb hml hown hts hK hN hS hs9 (ccX7_within l D C H.size p0 (0 : Int32) (1 : Int32) r1 hc) (va_cwS 3 hts gX7_trust_X7_within rfl rfl rfl (by decide +kernel) ⟨(Nat.le_of_ble_eq_true rfl), (Nat.le_of_ble_eq_true rfl)⟩) rfl hl.1 rfl (Nat.le_of_ble_eq_true rfl) dX7_trust_3 ⟨Nat.zero_le _, Nat.zero_le _⟩) (fun H locs hP hD hS => ?_)
  refine lv_if_eq (tgt := 18) hx hb dX7_trust_6 (by decide) (fun hc => ?_) (fun hc => ?_)
  · have hf := kv_t hc hf
    refine lv_iconst (v := (-1)) hx hb dX7_trust_18 (by decide) ?_
    exact hret _ _ _ _ _ hf rfl hP hD hS dX7_trust_19
  · have hf := kv_f hc hf
    refine lv_iload_n hx hb dX7_trust_9 rfl (lv_at hl 2 rfl) ?_
    refine lv_iconst (v := 0) hx hb dX7_trust_10 (by decide) ?_
    refine lv_iconst (v := 1) hx hb dX7_trust_11 (by decide) ?_
    obtain ⟨r2, hc, hf⟩ := kv_b1_e hf
    have hs9 : vv_Sub D H A ([] : va_W) ([] : va_W) (w_FR C a mX ++ w_Dy C (a 10) mD) := vv_Sub.none hP hD hS hA
    refine vv_goi (wn := (w_FR C a mX ++ w_Dy C (a 10) mD)) hK hs9 hS (vv_rS (As := [.int p1, .int 0, .int 1]) (rest := []) hx hb hml hown hts hK hN hS hs9 (ccX7_within l D C H.size p1 (0 : Int32) (1 : Int32) r2 hc) (va_cwS 3 hts gX7_trust_X7_within rfl rfl rfl (by decide +kernel) ⟨(Nat.le_of_ble_eq_true rfl), (Nat.le_of_ble_eq_true rfl)⟩) rfl hl.1 rfl (Nat.le_of_ble_eq_true rfl) dX7_trust_12 ⟨Nat.zero_le _, Nat.zero_le _⟩) (fun H locs hP hD hS => ?_)
    refine lv_if_ne (tgt := 20) hx hb dX7_trust_15 (by decide) (fun hc => ?_) (fun hc => ?_)
    · have hf := kv_f hc hf
      refine lv_aload_n hx hb dX7_trust_20 rfl (lv_at hl 0 rfl) ?_
      refine va_get (D := D) (ci := 7) (v := .ref (a 10 0)) (C := RX7) (T := TX7) (N := 10) hx hb hts iX7 hown hK hP 0 rfl rfl 8 (by decide) q0 (fun _ h9 => h9) rfl dX7_trust_21 ?_
      refine va_get (D := D) (ci := 0) (v := .ref (a 10 2)) (C := RX0) (T := TX0) (N := 4) hx hb hts iX0 hown hK hP 3 rfl rfl 2 (by decide) q1 (fun _ h9 => h9) rfl dX7_trust_24 ?_
      refine lv_iload_n hx hb dX7_trust_27 rfl (lv_at hl 1 rfl) ?_
      obtain ⟨h9, hf⟩ := kv_ix_e hf
      refine va_iald hx hb hK hP 5 1 rfl rfl h9 dX7_trust_28 ?_
      obtain ⟨x3, ex3, hf⟩ := kv_lt_e hf
      refine vv_nami ex3 ?_
      refine lv_istore_n (lv' := [(3, .int x3), (0, .ref (a 0 0)), (1, .int p0), (2, .int p1)]) hx hb dX7_trust_29 rfl hl (by decide) rfl (fun ls hl => ?_)
      refine lv_iload_n hx hb dX7_trust_30 rfl (lv_at hl 0 rfl) ?_
      refine lv_if_ne (tgt := 37) hx hb dX7_trust_31 (by decide) (fun hc => ?_) (fun hc => ?_)
      · have hf := kv_f hc hf
        refine lv_aload_n hx hb dX7_trust_37 rfl (lv_at hl 1 rfl) ?_
        refine va_get (D := D) (ci := 7) (v := .ref (a 10 0)) (C := RX7) (T := TX7) (N := 10) hx hb hts iX7 hown hK hP 0 rfl rfl 8 (by decide) q0 (fun _ h9 => h9) rfl dX7_trust_38 ?_
        refine va_get (D := D) (ci := 0) (v := .ref (a 10 3)) (C := RX0) (T := TX0) (N := 4) hx hb hts iX0 hown hK hP 3 rfl rfl 3 (by decide) q2 (fun _ h9 => h9) rfl dX7_trust_41 ?_
        refine lv_iload_n hx hb dX7_trust_44 rfl (lv_at hl 2 rfl) ?_
        obtain ⟨h9, hf⟩ := kv_ix_e hf
        refine va_iald hx hb hK hP 6 1 rfl rfl h9 dX7_trust_45 ?_
        obtain ⟨x4, ex4, hf⟩ := kv_lt_e hf
        refine vv_nami ex4 ?_
        refine lv_istore (lv' := [(4, .int x4), (3, .int x3), (0, .ref (a 0 0)), (1, .int p0), (2, .int p1)]) hx hb dX7_trust_46 hl (by decide) rfl (fun ls hl => ?_)
        refine lv_iload_n hx hb dX7_trust_48 rfl (lv_at hl 4 rfl) ?_
        obtain ⟨k58_5, ek58_5, hf⟩ := kv_lt_e hf
        have J58_5 : ∀ (x6 : Int32) (H : Heap) (locs : List Loc) (ls : Array Slot), va_P D vwCl (w_FR C a mX ++ w_Dy C (a 10) mD) H → va_D A (w_FR C a mX ++ w_Dy C (a 10) mD) → va_S A s.heap H locs → lv_has ls 5 [(4, .int x4), (3, .int x3)] → k58_5 x6 = some (rr) → W p l e rX7_trust s m args below meth c H locs 0 0 Q (F0 m 58 ls [.int x6]) := by
          intro x6 H locs ls hP hD hS hl hf
          rw [ek58_5] at hf
          refine lv_iload hx hb dX7_trust_58 (lv_at hl 0 rfl) ?_
          refine lv_iload_n hx hb dX7_trust_60 rfl (lv_at hl 1 rfl) ?_
          obtain ⟨r7, hc, hf⟩ := kv_b1_e hf
          have hs9 : vv_Sub D H A ([] : va_W) ([] : va_W) (w_FR C a mX ++ w_Dy C (a 10) mD) := vv_Sub.none hP hD hS hA
          refine vv_goi (wn := (w_FR C a mX ++ w_Dy C (a 10) mD)) hK hs9 hS (vv_rS (As := [.int x4, .int x3]) (rest := [.int x6]) hx hb hml hown hts hK hN hS hs9 (ccX7_commonDivisor l D C H.size x4 x3 r7 hc) (va_cwS 2 hts gX7_trust_X7_commonDivisor rfl rfl rfl (by decide +kernel) ⟨(Nat.le_of_ble_eq_true rfl), (Nat.le_of_ble_eq_true rfl)⟩) rfl hl.1 rfl (Nat.le_of_ble_eq_true rfl) dX7_trust_61 ⟨Nat.zero_le _, Nat.zero_le _⟩) (fun H locs hP hD hS => ?_)
          obtain ⟨h9, hf⟩ := kv_nz_e hf
          refine lv_idiv hx hb dX7_trust_64 h9 ?_
          exact hret _ _ _ _ _ hf rfl hP hD hS dX7_trust_65
        refine lv_if_ne (tgt := 57) hx hb dX7_trust_49 (by decide) (fun hc => ?_) (fun hc => ?_)
        · have hf := kv_f hc hf
          refine lv_iload_n hx hb dX7_trust_57 rfl (lv_at hl 1 rfl) ?_
          exact J58_5 _ _ _ _ hP hD hS (lv_sub hl [0, 1] rfl) hf
        · have hf := kv_t hc hf
          refine lv_iload hx hb dX7_trust_52 (lv_at hl 0 rfl) ?_
          refine lv_goto (tgt := 58) hx hb dX7_trust_54 (by decide) ?_
          exact J58_5 _ _ _ _ hP hD hS (lv_sub hl [0, 1] rfl) hf
      · have hf := kv_t hc hf
        refine lv_bipush (v := (-2)) hx hb dX7_trust_34 (by decide) ?_
        exact hret _ _ _ _ _ hf rfl hP hD hS dX7_trust_36
    · have hf := kv_t hc hf
      refine lv_iconst (v := (-1)) hx hb dX7_trust_18 (by decide) ?_
      exact hret _ _ _ _ _ hf rfl hP hD hS dX7_trust_19
abbrev rX7_type : Room := { frames := 1, cells := 0, slots := 0, locals := 24 }
set_option maxHeartbeats 4000000 in
set_option maxRecDepth 100000 in
theorem ccX7_type (l : Launch) (D : va_G) (C : Nat → ClassId) (sz : Nat) (a : Nat → Nat → Nat) (mX : Mm) (mR : Mm) (p0 : Int64) (p1 : Int32) (rr : Int32) (oR : Mm) (hf : ffX7_type p0 p1 mX mR = some (rr, oR)) : Met l yX7_type wsX7_type rX7_type (va_Pc [.ref (a 0 0), .long p0, .int p1] (vv_pre D C (w_FR C a mX ++ w_Rd C (a 2) (a 1) mR) sz)) (vv_QI D C (w_FR C a mX ++ w_Rd C (a 2) (a 1) mR) (w_FR C a mX ++ w_Rd C (a 2) (a 1) oR) sz rr) 0 0 (va_A (w_FR C a mX ++ w_Rd C (a 2) (a 1) mR) sz) := by
  unfold ffX7_type at hf
  refine vv_metI (cc := cX7_type) (maxL := 4) (ty := .int) (by decide) rfl (Nat.le_of_ble_eq_true rfl) ?_
  intro p e s m args below meth c A Q H locs ls hx hb hml hown hts hA hK hN hP hD hS hl hret
  have hown : s.vm.findClass RX7 = some m.cls := hown
  have hl : lv_has ls 4 [(0, .ref (a 0 0)), (1, .long p0), (3, .int p1)] := hl
  have hret : ∀ (v0 : Int32) (v1 : Mm) (H : Heap) (locs : List Loc) (ls : Array Slot) (pc : Nat), some (v0, v1) = some (rr, oR) → narrow .int (.int v0) = .int v0 → va_P D vwCl (w_FR C a mX ++ w_Rd C (a 2) (a 1) v1) H → va_D A (w_FR C a mX ++ w_Rd C (a 2) (a 1) v1) → va_S A s.heap H locs → decode cX7_type pc = .ok (.ireturn, 1) → W p l e rX7_type s m args below meth c H locs 0 0 Q (F0 m pc ls [.int v0]) := by
    intro v0 v1 H locs ls pc h0 hn h1 h2 h3 h4
    cases h0
    exact hret H locs ls pc hn h1 h2 h3 h4
  have q0 := hts (.fieldLink RX7 10 "ForeRain" "reader" "LForeRain$Reader;") (by decide +kernel)
  have q1 := hts (.fieldLink RX7 83 "ForeRain$Reader" "length" "I") (by decide +kernel)
  have iX7 : ∀ w ∈ u_ws RX7 TX7 10, w ∈ wsX7_type := by decide +kernel
  have iX4 : ∀ w ∈ u_ws RX4 TX4 8, w ∈ wsX7_type := by decide +kernel
  refine lv_iload_n hx hb dX7_type_0 rfl (lv_at hl 2 rfl) ?_
  refine lv_iconst (v := 1) hx hb dX7_type_1 (by decide) ?_
  refine lv_bipush (v := 8) hx hb dX7_type_2 (by decide) ?_
  obtain ⟨r1, hc, hf⟩ := kv_b1_e hf
  have hs9 : vv_Sub D H A ([] : va_W) ([] : va_W) (w_FR C a mX ++ w_Rd C (a 2) (a 1) mR) := vv_Sub.none hP hD hS hA
  refine vv_goi (wn := (w_FR C a mX ++ w_Rd C (a 2) (a 1) mR)) hK hs9 hS (vv_rS (As := [.int p1, .int 1, .int 8]) (rest := []) hx hb hml hown hts hK hN hS hs9 (ccX7_within l D C H.size p1 (1 : Int32) (8 : Int32) r1 hc) (va_cwS 3 hts gX7_type_X7_within rfl rfl rfl (by decide +kernel) ⟨(Nat.le_of_ble_eq_true rfl), (Nat.le_of_ble_eq_true rfl)⟩) rfl hl.1 rfl (Nat.le_of_ble_eq_true rfl) dX7_type_4 ⟨Nat.zero_le _, Nat.zero_le _⟩) (fun H locs hP hD hS => ?_)
  refine lv_if_ne (tgt := 12) hx hb dX7_type_7 (by decide) (fun hc => ?_) (fun hc => ?_)
  · have hf := kv_f hc hf
    refine lv_aload_n hx hb dX7_type_12 rfl (lv_at hl 0 rfl) ?_
    refine va_get (D := D) (ci := 7) (v := .ref (a 1 0)) (C := RX7) (T := TX7) (N := 10) hx hb hts iX7 hown hK hP 0 rfl rfl 0 (by decide) q0 (fun _ h9 => h9) rfl dX7_type_13 ?_
    refine lv_lload_n hx hb dX7_type_16 rfl (lv_at hl 1 rfl) ?_
    refine lv_iload_n hx hb dX7_type_17 rfl (lv_at hl 2 rfl) ?_
    obtain ⟨r2, mR3, hc, hf⟩ := kv_b2_e hf
    have hs9 : vv_Sub D H A (w_Rd C (a 2) (a 1) mR) (w_Rd C (a 2) (a 1) mR3) (w_FR C a mX ++ w_Rd C (a 2) (a 1) mR3) := vv_Sub.part (ws := (w_FR C a mX ++ w_Rd C (a 2) (a 1) mR)) (wr := (w_FR C a mX)) [3, 4] [0, 1, 2] [0, 1, 2, 3, 4] hP hD hS hA rfl rfl (by decide) rfl
    refine vv_goi (wn := (w_FR C a mX ++ w_Rd C (a 2) (a 1) mR3)) hK hs9 hS (vv_rV (As := [.long p0, .int p1]) (rest := []) hx hb hml hown hts hK hN hS hs9 (ccX4_take l D C H.size (a 1) (a 2) mR p0 p1 r2 mR3 hc) (cwV 2 hts gX7_type_X4_take rfl rfl rfl (by decide +kernel) ⟨(Nat.le_of_ble_eq_true rfl), (Nat.le_of_ble_eq_true rfl)⟩) (va_recv hK hP (ci := 4) (q0 := 3) rfl rfl) rfl hl.1 rfl (Nat.le_of_ble_eq_true rfl) dX7_type_18 ⟨Nat.zero_le _, Nat.zero_le _⟩) (fun H locs hP hD hS => ?_)
    refine lv_if_eq (tgt := 34) hx hb dX7_type_21 (by decide) (fun hc => ?_) (fun hc => ?_)
    · have hf := kv_t hc hf
      refine lv_bipush (v := (-3)) hx hb dX7_type_34 (by decide) ?_
      exact hret _ _ _ _ _ _ hf rfl hP hD hS dX7_type_36
    · have hf := kv_f hc hf
      refine lv_aload_n hx hb dX7_type_24 rfl (lv_at hl 0 rfl) ?_
      refine va_get (D := D) (ci := 7) (v := .ref (a 1 0)) (C := RX7) (T := TX7) (N := 10) hx hb hts iX7 hown hK hP 0 rfl rfl 0 (by decide) q0 (fun _ h9 => h9) rfl dX7_type_25 ?_
      refine va_get (D := D) (ci := 4) (v := .int (mR3 0 2)) (C := RX4) (T := TX4) (N := 8) hx hb hts iX4 hown hK hP 3 rfl rfl 2 (by decide) q1 (fun _ h9 => h9) rfl dX7_type_28 ?_
      refine lv_goto (tgt := 36) hx hb dX7_type_31 (by decide) ?_
      exact hret _ _ _ _ _ _ hf rfl hP hD hS dX7_type_36
  · have hf := kv_t hc hf
    refine lv_iconst (v := (-1)) hx hb dX7_type_10 (by decide) ?_
    exact hret _ _ _ _ _ _ hf rfl hP hD hS dX7_type_11
abbrev rX7_when : Room := { frames := 4, cells := 0, slots := 0, locals := 154 }
set_option maxHeartbeats 4000000 in
set_option maxRecDepth 100000 in
theorem ccX7_when (l : Launch) (D : va_G) (C : Nat → ClassId) (sz : Nat) (a : Nat → Nat → Nat) (mX : Mm) (mT : Mm) (mP : Mm) (mA : Mm) (p0 : Int32) (rr : Int32) (oA : Mm) (hf : ffX7_when p0 mX mT mP mA = some (rr, oA)) : Met l yX7_when wsX7_when rX7_when (va_Pc [.ref (a 0 0), .int p0] (vv_pre D C (w_FR C a mX ++ (w_Told C (a 3) mT ++ (w_Mom C (a 3) (a 4) mP ++ w_Mom C (a 3) (a 5) mA))) sz)) (vv_QI D C (w_FR C a mX ++ (w_Told C (a 3) mT ++ (w_Mom C (a 3) (a 4) mP ++ w_Mom C (a 3) (a 5) mA))) (w_FR C a mX ++ (w_Told C (a 3) mT ++ (w_Mom C (a 3) (a 4) mP ++ w_Mom C (a 3) (a 5) oA))) sz rr) 0 0 (va_A (w_FR C a mX ++ (w_Told C (a 3) mT ++ (w_Mom C (a 3) (a 4) mP ++ w_Mom C (a 3) (a 5) mA))) sz) := by
  unfold ffX7_when at hf
  refine vv_metI (cc := cX7_when) (maxL := 2) (ty := .int) (by decide) rfl (Nat.le_of_ble_eq_true rfl) ?_
  intro p e s m args below meth c A Q H locs ls hx hb hml hown hts hA hK hN hP hD hS hl hret
  have hown : s.vm.findClass RX7 = some m.cls := hown
  have hl : lv_has ls 2 [(0, .ref (a 0 0)), (1, .int p0)] := hl
  have hret : ∀ (v0 : Int32) (v1 : Mm) (H : Heap) (locs : List Loc) (ls : Array Slot) (pc : Nat), some (v0, v1) = some (rr, oA) → narrow .int (.int v0) = .int v0 → va_P D vwCl (w_FR C a mX ++ (w_Told C (a 3) mT ++ (w_Mom C (a 3) (a 4) mP ++ w_Mom C (a 3) (a 5) v1))) H → va_D A (w_FR C a mX ++ (w_Told C (a 3) mT ++ (w_Mom C (a 3) (a 4) mP ++ w_Mom C (a 3) (a 5) v1))) → va_S A s.heap H locs → decode cX7_when pc = .ok (.ireturn, 1) → W p l e rX7_when s m args below meth c H locs 0 0 Q (F0 m pc ls [.int v0]) := by
    intro v0 v1 H locs ls pc h0 hn h1 h2 h3 h4
    cases h0
    exact hret H locs ls pc hn h1 h2 h3 h4
  refine lv_aload_n hx hb dX7_when_0 rfl (lv_at hl 0 rfl) ?_
  refine lv_iload_n hx hb dX7_when_1 rfl (lv_at hl 1 rfl) ?_
  obtain ⟨r1, hc, hf⟩ := kv_b1_e hf
  have hs9 : vv_Sub D H A (w_FR C a mX ++ w_Told C (a 3) mT) (w_FR C a mX ++ w_Told C (a 3) mT) (w_FR C a mX ++ (w_Told C (a 3) mT ++ (w_Mom C (a 3) (a 4) mP ++ w_Mom C (a 3) (a 5) mA))) := vv_Sub.part (ws := (w_FR C a mX ++ (w_Told C (a 3) mT ++ (w_Mom C (a 3) (a 4) mP ++ w_Mom C (a 3) (a 5) mA)))) (wr := (w_Mom C (a 3) (a 4) mP ++ w_Mom C (a 3) (a 5) mA)) [0, 1, 2, 3, 4, 5, 6, 7, 8, 9] [10, 11, 12, 13, 14, 15, 16, 17, 18, 19] [10, 11, 12, 13, 14, 15, 16, 17, 18, 19, 0, 1, 2, 3, 4, 5, 6, 7, 8, 9] hP hD hS hA rfl rfl (by decide) rfl
  refine vv_goi (wn := (w_FR C a mX ++ (w_Told C (a 3) mT ++ (w_Mom C (a 3) (a 4) mP ++ w_Mom C (a 3) (a 5) mA)))) hK hs9 hS (vv_rV (As := [.int p0]) (rest := []) hx hb hml hown hts hK hN hS hs9 (ccX7_isPiece l D C H.size a mX mT p0 r1 hc) (cwV 1 hts gX7_when_X7_isPiece rfl rfl rfl (by decide +kernel) ⟨(Nat.le_of_ble_eq_true rfl), (Nat.le_of_ble_eq_true rfl)⟩) (va_recv hK hP (ci := 7) (q0 := 0) rfl rfl) rfl hl.1 rfl (Nat.le_of_ble_eq_true rfl) dX7_when_2 ⟨Nat.zero_le _, Nat.zero_le _⟩) (fun H locs hP hD hS => ?_)
  refine lv_if_eq (tgt := 19) hx hb dX7_when_5 (by decide) (fun hc => ?_) (fun hc => ?_)
  · have hf := kv_t hc hf
    refine lv_iconst (v := (-1)) hx hb dX7_when_19 (by decide) ?_
    exact hret _ _ _ _ _ _ hf rfl hP hD hS dX7_when_20
  · have hf := kv_f hc hf
    refine lv_aload_n hx hb dX7_when_8 rfl (lv_at hl 0 rfl) ?_
    refine lv_iload_n hx hb dX7_when_9 rfl (lv_at hl 1 rfl) ?_
    refine lv_iconst (v := 0) hx hb dX7_when_10 (by decide) ?_
    refine lv_iconst (v := 0) hx hb dX7_when_11 (by decide) ?_
    refine lv_iconst (v := 0) hx hb dX7_when_12 (by decide) ?_
    obtain ⟨r2, mA3, hc, hf⟩ := kv_b2_e hf
    have hs9 : vv_Sub D H A (w_FR C a mX ++ (w_Told C (a 3) mT ++ (w_Mom C (a 3) (a 4) mP ++ w_Mom C (a 3) (a 5) mA))) (w_FR C a mX ++ (w_Told C (a 3) mT ++ (w_Mom C (a 3) (a 4) mP ++ w_Mom C (a 3) (a 5) mA3))) (w_FR C a mX ++ (w_Told C (a 3) mT ++ (w_Mom C (a 3) (a 4) mP ++ w_Mom C (a 3) (a 5) mA3))) := vv_Sub.same (w_FR C a mX ++ (w_Told C (a 3) mT ++ (w_Mom C (a 3) (a 4) mP ++ w_Mom C (a 3) (a 5) mA3))) hP hD hS hA
    refine vv_goi (wn := (w_FR C a mX ++ (w_Told C (a 3) mT ++ (w_Mom C (a 3) (a 4) mP ++ w_Mom C (a 3) (a 5) mA3)))) hK hs9 hS (vv_rV (As := [.int p0, .int 0, .int 0, .int 0]) (rest := []) hx hb hml hown hts hK hN hS hs9 (ccX7_firstOrLast l D C H.size a mX mT mP mA p0 (0 : Int32) (0 : Int32) (0 : Int32) r2 mA3 hc) (cwV 4 hts gX7_when_X7_firstOrLast rfl rfl rfl (by decide +kernel) ⟨(Nat.le_of_ble_eq_true rfl), (Nat.le_of_ble_eq_true rfl)⟩) (va_recv hK hP (ci := 7) (q0 := 0) rfl rfl) rfl hl.1 rfl (Nat.le_of_ble_eq_true rfl) dX7_when_13 ⟨Nat.zero_le _, Nat.zero_le _⟩) (fun H locs hP hD hS => ?_)
    refine lv_goto (tgt := 20) hx hb dX7_when_16 (by decide) ?_
    exact hret _ _ _ _ _ _ hf rfl hP hD hS dX7_when_20
abbrev rX7_where : Room := { frames := 14, cells := 0, slots := 0, locals := 396 }
set_option maxHeartbeats 4000000 in
set_option maxRecDepth 100000 in
theorem ccX7_where (l : Launch) (D : va_G) (C : Nat → ClassId) (sz : Nat) (a : Nat → Nat → Nat) (mX : Mm) (mT : Mm) (mP : Mm) (mA : Mm) (mH : Mm) (p0 : Int32) (p1 : Int32) (rr : Int32) (oA : Mm) (oH : Mm) (hf : ffX7_where p0 p1 mX mT mP mA mH = some (rr, oA, oH)) : Met l yX7_where wsX7_where rX7_where (va_Pc [.ref (a 0 0), .int p0, .int p1] (vv_pre D C (w_FR C a mX ++ (w_Told C (a 3) mT ++ (w_Mom C (a 3) (a 4) mP ++ (w_Mom C (a 3) (a 5) mA ++ w_Hg C (a 3) (a 4) (a 5) (a 8) mH)))) sz)) (vv_QI D C (w_FR C a mX ++ (w_Told C (a 3) mT ++ (w_Mom C (a 3) (a 4) mP ++ (w_Mom C (a 3) (a 5) mA ++ w_Hg C (a 3) (a 4) (a 5) (a 8) mH)))) (w_FR C a mX ++ (w_Told C (a 3) mT ++ (w_Mom C (a 3) (a 4) mP ++ (w_Mom C (a 3) (a 5) oA ++ w_Hg C (a 3) (a 4) (a 5) (a 8) oH)))) sz rr) 0 0 (va_A (w_FR C a mX ++ (w_Told C (a 3) mT ++ (w_Mom C (a 3) (a 4) mP ++ (w_Mom C (a 3) (a 5) mA ++ w_Hg C (a 3) (a 4) (a 5) (a 8) mH)))) sz) := by
  unfold ffX7_where at hf
  refine vv_metI (cc := cX7_where) (maxL := 3) (ty := .int) (by decide) rfl (Nat.le_of_ble_eq_true rfl) ?_
  intro p e s m args below meth c A Q H locs ls hx hb hml hown hts hA hK hN hP hD hS hl hret
  have hown : s.vm.findClass RX7 = some m.cls := hown
  have hl : lv_has ls 3 [(0, .ref (a 0 0)), (1, .int p0), (2, .int p1)] := hl
  have hret : ∀ (v0 : Int32) (v1 : Mm) (v2 : Mm) (H : Heap) (locs : List Loc) (ls : Array Slot) (pc : Nat), some (v0, v1, v2) = some (rr, oA, oH) → narrow .int (.int v0) = .int v0 → va_P D vwCl (w_FR C a mX ++ (w_Told C (a 3) mT ++ (w_Mom C (a 3) (a 4) mP ++ (w_Mom C (a 3) (a 5) v1 ++ w_Hg C (a 3) (a 4) (a 5) (a 8) v2)))) H → va_D A (w_FR C a mX ++ (w_Told C (a 3) mT ++ (w_Mom C (a 3) (a 4) mP ++ (w_Mom C (a 3) (a 5) v1 ++ w_Hg C (a 3) (a 4) (a 5) (a 8) v2)))) → va_S A s.heap H locs → decode cX7_where pc = .ok (.ireturn, 1) → W p l e rX7_where s m args below meth c H locs 0 0 Q (F0 m pc ls [.int v0]) := by
    intro v0 v1 v2 H locs ls pc h0 hn h1 h2 h3 h4
    cases h0
    exact hret H locs ls pc hn h1 h2 h3 h4
  have q0 := hts (.fieldLink RX7 48 "ForeRain" "hanging" "LForeRain$Hanging;") (by decide +kernel)
  have q1 := hts (.fieldLink RX7 182 "ForeRain$Hanging" "best" "[I") (by decide +kernel)
  have q2 := hts (.fieldLink RX7 179 "ForeRain$Hanging" "least" "I") (by decide +kernel)
  have iX7 : ∀ w ∈ u_ws RX7 TX7 10, w ∈ wsX7_where := by decide +kernel
  have iX1 : ∀ w ∈ u_ws RX1 TX1 10, w ∈ wsX7_where := by decide +kernel
  refine lv_iload_n hx hb dX7_where_0 rfl (lv_at hl 1 rfl) ?_
  refine lv_iconst (v := 1) hx hb dX7_where_1 (by decide) ?_
  refine lv_bipush (v := 24) hx hb dX7_where_2 (by decide) ?_
  obtain ⟨r1, hc, hf⟩ := kv_b1_e hf
  have hs9 : vv_Sub D H A ([] : va_W) ([] : va_W) (w_FR C a mX ++ (w_Told C (a 3) mT ++ (w_Mom C (a 3) (a 4) mP ++ (w_Mom C (a 3) (a 5) mA ++ w_Hg C (a 3) (a 4) (a 5) (a 8) mH)))) := vv_Sub.none hP hD hS hA
  refine vv_goi (wn := (w_FR C a mX ++ (w_Told C (a 3) mT ++ (w_Mom C (a 3) (a 4) mP ++ (w_Mom C (a 3) (a 5) mA ++ w_Hg C (a 3) (a 4) (a 5) (a 8) mH))))) hK hs9 hS (vv_rS (As := [.int p0, .int 1, .int 24]) (rest := []) hx hb hml hown hts hK hN hS hs9 (ccX7_within l D C H.size p0 (1 : Int32) (24 : Int32) r1 hc) (va_cwS 3 hts gX7_where_X7_within rfl rfl rfl (by decide +kernel) ⟨(Nat.le_of_ble_eq_true rfl), (Nat.le_of_ble_eq_true rfl)⟩) rfl hl.1 rfl (Nat.le_of_ble_eq_true rfl) dX7_where_4 ⟨Nat.zero_le _, Nat.zero_le _⟩) (fun H locs hP hD hS => ?_)
  refine lv_if_eq (tgt := 23) hx hb dX7_where_7 (by decide) (fun hc => ?_) (fun hc => ?_)
  · have hf := kv_t hc hf
    refine lv_iconst (v := (-1)) hx hb dX7_where_23 (by decide) ?_
    exact hret _ _ _ _ _ _ _ hf rfl hP hD hS dX7_where_24
  · have hf := kv_f hc hf
    refine lv_iload_n hx hb dX7_where_10 rfl (lv_at hl 2 rfl) ?_
    refine lv_iconst (v := (-1)) hx hb dX7_where_11 (by decide) ?_
    obtain ⟨k25_2, ek25_2, hf⟩ := kv_lt_e hf
    have J25_2 : ∀  (H : Heap) (locs : List Loc) (ls : Array Slot), va_P D vwCl (w_FR C a mX ++ (w_Told C (a 3) mT ++ (w_Mom C (a 3) (a 4) mP ++ (w_Mom C (a 3) (a 5) mA ++ w_Hg C (a 3) (a 4) (a 5) (a 8) mH)))) H → va_D A (w_FR C a mX ++ (w_Told C (a 3) mT ++ (w_Mom C (a 3) (a 4) mP ++ (w_Mom C (a 3) (a 5) mA ++ w_Hg C (a 3) (a 4) (a 5) (a 8) mH)))) → va_S A s.heap H locs → lv_has ls 3 [(0, .ref (a 0 0)), (1, .int p0), (2, .int p1)] → k25_2  = some (rr, oA, oH) → W p l e rX7_where s m args below meth c H locs 0 0 Q (F0 m 25 ls []) := by
      intro  H locs ls hP hD hS hl hf
      rw [ek25_2] at hf
      refine lv_aload_n hx hb dX7_where_25 rfl (lv_at hl 0 rfl) ?_
      refine va_get (D := D) (ci := 7) (v := .ref (a 8 0)) (C := RX7) (T := TX7) (N := 10) hx hb hts iX7 hown hK hP 0 rfl rfl 6 (by decide) q0 (fun _ h9 => h9) rfl dX7_where_26 ?_
      refine lv_iload_n hx hb dX7_where_29 rfl (lv_at hl 1 rfl) ?_
      obtain ⟨mA3, mH4, hc, hf⟩ := kv_b2_e hf
      have hs9 : vv_Sub D H A (w_Told C (a 3) mT ++ (w_Mom C (a 3) (a 4) mP ++ (w_Mom C (a 3) (a 5) mA ++ w_Hg C (a 3) (a 4) (a 5) (a 8) mH))) (w_Told C (a 3) mT ++ (w_Mom C (a 3) (a 4) mP ++ (w_Mom C (a 3) (a 5) mA3 ++ w_Hg C (a 3) (a 4) (a 5) (a 8) mH4))) (w_FR C a mX ++ (w_Told C (a 3) mT ++ (w_Mom C (a 3) (a 4) mP ++ (w_Mom C (a 3) (a 5) mA3 ++ w_Hg C (a 3) (a 4) (a 5) (a 8) mH4)))) := vv_Sub.part (ws := (w_FR C a mX ++ (w_Told C (a 3) mT ++ (w_Mom C (a 3) (a 4) mP ++ (w_Mom C (a 3) (a 5) mA ++ w_Hg C (a 3) (a 4) (a 5) (a 8) mH))))) (wr := (w_FR C a mX)) [3, 4, 5, 6, 7, 8, 9, 10, 11, 12, 13, 14, 15, 16, 17, 18, 19, 20, 21, 22, 23, 24, 25, 26, 27, 28, 29, 30, 31] [0, 1, 2] [0, 1, 2, 3, 4, 5, 6, 7, 8, 9, 10, 11, 12, 13, 14, 15, 16, 17, 18, 19, 20, 21, 22, 23, 24, 25, 26, 27, 28, 29, 30, 31] hP hD hS hA rfl rfl (by decide) rfl
      refine vv_gov (wn := (w_FR C a mX ++ (w_Told C (a 3) mT ++ (w_Mom C (a 3) (a 4) mP ++ (w_Mom C (a 3) (a 5) mA3 ++ w_Hg C (a 3) (a 4) (a 5) (a 8) mH4))))) hK hs9 hS (vv_rV (As := [.int p0]) (rest := []) hx hb hml hown hts hK hN hS hs9 (ccX1_search l D C H.size (a 3) (a 4) (a 5) (a 8) mT mP mA mH p0 mA3 mH4 hc) (cwV 1 hts gX7_where_X1_search rfl rfl rfl (by decide +kernel) ⟨(Nat.le_of_ble_eq_true rfl), (Nat.le_of_ble_eq_true rfl)⟩) (va_recv hK hP (ci := 1) (q0 := 20) rfl rfl) rfl hl.1 rfl (Nat.le_of_ble_eq_true rfl) dX7_where_30 ⟨Nat.zero_le _, Nat.zero_le _⟩) (fun H locs hP hD hS => ?_)
      refine lv_iload_n hx hb dX7_where_33 rfl (lv_at hl 2 rfl) ?_
      refine lv_iconst (v := (-1)) hx hb dX7_where_34 (by decide) ?_
      refine lv_icmp_ne (tgt := 48) hx hb dX7_where_35 (by decide) (fun hc => ?_) (fun hc => ?_)
      · have hf := kv_f hc hf
        refine lv_aload_n hx hb dX7_where_48 rfl (lv_at hl 0 rfl) ?_
        refine va_get (D := D) (ci := 7) (v := .ref (a 8 0)) (C := RX7) (T := TX7) (N := 10) hx hb hts iX7 hown hK hP 0 rfl rfl 6 (by decide) q0 (fun _ h9 => h9) rfl dX7_where_49 ?_
        refine va_get (D := D) (ci := 1) (v := .ref (a 8 5)) (C := RX1) (T := TX1) (N := 10) hx hb hts iX1 hown hK hP 20 rfl rfl 8 (by decide) q1 (fun _ h9 => h9) rfl dX7_where_52 ?_
        refine lv_iload_n hx hb dX7_where_55 rfl (lv_at hl 2 rfl) ?_
        obtain ⟨h9, hf⟩ := kv_ix_e hf
        refine va_iald hx hb hK hP 25 1 rfl rfl h9 dX7_where_56 ?_
        exact hret _ _ _ _ _ _ _ hf rfl hP hD hS dX7_where_57
      · have hf := kv_t hc hf
        refine lv_aload_n hx hb dX7_where_38 rfl (lv_at hl 0 rfl) ?_
        refine va_get (D := D) (ci := 7) (v := .ref (a 8 0)) (C := RX7) (T := TX7) (N := 10) hx hb hts iX7 hown hK hP 0 rfl rfl 6 (by decide) q0 (fun _ h9 => h9) rfl dX7_where_39 ?_
        refine va_get (D := D) (ci := 1) (v := .int (mH4 0 9)) (C := RX1) (T := TX1) (N := 10) hx hb hts iX1 hown hK hP 20 rfl rfl 9 (by decide) q2 (fun _ h9 => h9) rfl dX7_where_42 ?_
        refine lv_goto (tgt := 57) hx hb dX7_where_45 (by decide) ?_
        exact hret _ _ _ _ _ _ _ hf rfl hP hD hS dX7_where_57
    refine lv_icmp_eq (tgt := 25) hx hb dX7_where_12 (by decide) (fun hc => ?_) (fun hc => ?_)
    · have hf := kv_t hc hf
      exact J25_2 _ _ _ hP hD hS (lv_sub hl [0, 1, 2] rfl) hf
    · have hf := kv_f hc hf
      refine lv_aload_n hx hb dX7_where_15 rfl (lv_at hl 0 rfl) ?_
      refine lv_iload_n hx hb dX7_where_16 rfl (lv_at hl 2 rfl) ?_
      obtain ⟨r5, hc, hf⟩ := kv_b1_e hf
      have hs9 : vv_Sub D H A (w_FR C a mX ++ w_Told C (a 3) mT) (w_FR C a mX ++ w_Told C (a 3) mT) (w_FR C a mX ++ (w_Told C (a 3) mT ++ (w_Mom C (a 3) (a 4) mP ++ (w_Mom C (a 3) (a 5) mA ++ w_Hg C (a 3) (a 4) (a 5) (a 8) mH)))) := vv_Sub.part (ws := (w_FR C a mX ++ (w_Told C (a 3) mT ++ (w_Mom C (a 3) (a 4) mP ++ (w_Mom C (a 3) (a 5) mA ++ w_Hg C (a 3) (a 4) (a 5) (a 8) mH))))) (wr := (w_Mom C (a 3) (a 4) mP ++ (w_Mom C (a 3) (a 5) mA ++ w_Hg C (a 3) (a 4) (a 5) (a 8) mH))) [0, 1, 2, 3, 4, 5, 6, 7, 8, 9] [10, 11, 12, 13, 14, 15, 16, 17, 18, 19, 20, 21, 22, 23, 24, 25, 26, 27, 28, 29, 30, 31] [22, 23, 24, 25, 26, 27, 28, 29, 30, 31, 0, 1, 2, 3, 4, 5, 6, 7, 8, 9, 10, 11, 12, 13, 14, 15, 16, 17, 18, 19, 20, 21] hP hD hS hA rfl rfl (by decide) rfl
      refine vv_goi (wn := (w_FR C a mX ++ (w_Told C (a 3) mT ++ (w_Mom C (a 3) (a 4) mP ++ (w_Mom C (a 3) (a 5) mA ++ w_Hg C (a 3) (a 4) (a 5) (a 8) mH))))) hK hs9 hS (vv_rV (As := [.int p1]) (rest := []) hx hb hml hown hts hK hN hS hs9 (ccX7_isPiece l D C H.size a mX mT p1 r5 hc) (cwV 1 hts gX7_where_X7_isPiece rfl rfl rfl (by decide +kernel) ⟨(Nat.le_of_ble_eq_true rfl), (Nat.le_of_ble_eq_true rfl)⟩) (va_recv hK hP (ci := 7) (q0 := 0) rfl rfl) rfl hl.1 rfl (Nat.le_of_ble_eq_true rfl) dX7_where_17 ⟨Nat.zero_le _, Nat.zero_le _⟩) (fun H locs hP hD hS => ?_)
      refine lv_if_ne (tgt := 25) hx hb dX7_where_20 (by decide) (fun hc => ?_) (fun hc => ?_)
      · have hf := kv_f hc hf
        exact J25_2 _ _ _ hP hD hS (lv_sub hl [0, 1, 2] rfl) hf
      · have hf := kv_t hc hf
        refine lv_iconst (v := (-1)) hx hb dX7_where_23 (by decide) ?_
        exact hret _ _ _ _ _ _ _ hf rfl hP hD hS dX7_where_24
