abbrev rX0_addOf : Room := { frames := 0, cells := 0, slots := 0, locals := 0 }
set_option maxHeartbeats 4000000 in
set_option maxRecDepth 100000 in
theorem ccX0_addOf (l : Launch) (D : va_G) (C : Nat → ClassId) (sz : Nat) (aD : Nat → Nat) (mD : Mm) (p0 : Int32) (p1 : Int32) (p2 : Int32) (oD : Mm) (hf : ffX0_addOf p0 p1 p2 mD = some (oD)) : Met l yX0_addOf wsX0_addOf rX0_addOf (va_Pc [.ref (aD 0), .int p0, .int p1, .int p2] (vv_pre D C (w_Dy C aD mD) sz)) (vv_QV D C (w_Dy C aD mD) (w_Dy C aD oD) sz) 0 0 (va_A (w_Dy C aD mD) sz) := by
  unfold ffX0_addOf at hf
  refine vv_metV (cc := cX0_addOf) (maxL := 4) (by decide) rfl (Nat.le_of_ble_eq_true rfl) ?_
  intro p e s m args below meth c A Q H locs ls hx hb hml hown hts hA hK hN hP hD hS hl hret
  have hown : s.vm.findClass RX0 = some m.cls := hown
  have hl : lv_has ls 4 [(0, .ref (aD 0)), (1, .int p0), (2, .int p1), (3, .int p2)] := hl
  have hret : ∀ (v0 : Mm) (H : Heap) (locs : List Loc) (ls : Array Slot) (pc : Nat), some (v0) = some (oD) → va_P D vwCl (w_Dy C aD v0) H → va_D A (w_Dy C aD v0) → va_S A s.heap H locs → decode cX0_addOf pc = .ok (.return_, 1) → W p l e rX0_addOf s m args below meth c H locs 0 0 Q (F0 m pc ls []) := by
    intro v0 H locs ls pc h0 h1 h2 h3 h4
    cases h0
    exact hret H locs ls pc h1 h2 h3 h4
  have q0 := hts (.fieldLink RX0 7 "ForeRain$Days" "rights" "[I") (by decide +kernel)
  have q1 := hts (.fieldLink RX0 13 "ForeRain$Days" "saidRain" "[I") (by decide +kernel)
  have q2 := hts (.fieldLink RX0 16 "ForeRain$Days" "rainCame" "[I") (by decide +kernel)
  have iX0 : ∀ w ∈ u_ws RX0 TX0 4, w ∈ wsX0_addOf := by decide +kernel
  refine lv_aload_n hx hb dX0_addOf_0 rfl (lv_at hl 0 rfl) ?_
  refine va_get (D := D) (ci := 0) (v := .ref (aD 1)) (C := RX0) (T := TX0) (N := 4) hx hb hts iX0 hown hK hP 0 rfl rfl 1 (by decide) q0 (fun _ h9 => h9) rfl dX0_addOf_1 ?_
  refine lv_iload_n hx hb dX0_addOf_4 rfl (lv_at hl 1 rfl) ?_
  refine lv_dup2_11 hx hb dX0_addOf_5 rfl rfl ?_
  obtain ⟨h9, hf⟩ := kv_ix_e hf
  refine va_iald hx hb hK hP 1 1 rfl rfl h9 dX0_addOf_6 ?_
  refine lv_iload_n hx hb dX0_addOf_7 rfl (lv_at hl 2 rfl) ?_
  refine lv_iload_n hx hb dX0_addOf_8 rfl (lv_at hl 3 rfl) ?_
  obtain ⟨k17_1, ek17_1, hf⟩ := kv_lt_e hf
  have J17_1 : ∀ (x2 : Int32) (H : Heap) (locs : List Loc) (ls : Array Slot), va_P D vwCl (w_Dy C aD mD) H → va_D A (w_Dy C aD mD) → va_S A s.heap H locs → lv_has ls 4 [(0, .ref (aD 0)), (1, .int p0), (2, .int p1), (3, .int p2)] → k17_1 x2 = some (oD) → W p l e rX0_addOf s m args below meth c H locs 0 0 Q (F0 m 17 ls [.int x2, .int (mD 1 p0.toNatClampNeg), .int p0, .ref (aD 1)]) := by
    intro x2 H locs ls hP hD hS hl hf
    rw [ek17_1] at hf
    refine lv_iadd hx hb dX0_addOf_17 ?_
    obtain ⟨x3, ex3, hf⟩ := kv_lt_e hf
    refine vv_nami ex3 ?_
    obtain ⟨h9, hf⟩ := kv_ix_e hf
    obtain ⟨mD4, emD4, hf⟩ := kv_lt_e hf
    refine va_iast hx hb hK hP hD hS 1 1 rfl rfl h9 dX0_addOf_18 (fun H locs hP hD hS => ?_)
    have hP : va_P D vwCl (w_Dy C aD mD4) H := by rw [emD4]; exact hP
    have hD : va_D A (w_Dy C aD mD4) := by rw [emD4]; exact hD
    refine lv_aload_n hx hb dX0_addOf_19 rfl (lv_at hl 0 rfl) ?_
    refine va_get (D := D) (ci := 0) (v := .ref (aD 2)) (C := RX0) (T := TX0) (N := 4) hx hb hts iX0 hown hK hP 0 rfl rfl 2 (by decide) q1 (fun _ h9 => h9) rfl dX0_addOf_20 ?_
    refine lv_iload_n hx hb dX0_addOf_23 rfl (lv_at hl 1 rfl) ?_
    refine lv_dup2_11 hx hb dX0_addOf_24 rfl rfl ?_
    obtain ⟨h9, hf⟩ := kv_ix_e hf
    refine va_iald hx hb hK hP 2 1 rfl rfl h9 dX0_addOf_25 ?_
    refine lv_iload_n hx hb dX0_addOf_26 rfl (lv_at hl 2 rfl) ?_
    refine lv_iadd hx hb dX0_addOf_27 ?_
    obtain ⟨x5, ex5, hf⟩ := kv_lt_e hf
    refine vv_nami ex5 ?_
    obtain ⟨h9, hf⟩ := kv_ix_e hf
    obtain ⟨mD6, emD6, hf⟩ := kv_lt_e hf
    refine va_iast hx hb hK hP hD hS 2 1 rfl rfl h9 dX0_addOf_28 (fun H locs hP hD hS => ?_)
    have hP : va_P D vwCl (w_Dy C aD mD6) H := by rw [emD6]; exact hP
    have hD : va_D A (w_Dy C aD mD6) := by rw [emD6]; exact hD
    refine lv_aload_n hx hb dX0_addOf_29 rfl (lv_at hl 0 rfl) ?_
    refine va_get (D := D) (ci := 0) (v := .ref (aD 3)) (C := RX0) (T := TX0) (N := 4) hx hb hts iX0 hown hK hP 0 rfl rfl 3 (by decide) q2 (fun _ h9 => h9) rfl dX0_addOf_30 ?_
    refine lv_iload_n hx hb dX0_addOf_33 rfl (lv_at hl 1 rfl) ?_
    refine lv_dup2_11 hx hb dX0_addOf_34 rfl rfl ?_
    obtain ⟨h9, hf⟩ := kv_ix_e hf
    refine va_iald hx hb hK hP 3 1 rfl rfl h9 dX0_addOf_35 ?_
    refine lv_iload_n hx hb dX0_addOf_36 rfl (lv_at hl 2 rfl) ?_
    refine lv_iload_n hx hb dX0_addOf_37 rfl (lv_at hl 3 rfl) ?_
    refine lv_imul hx hb dX0_addOf_38 ?_
    refine lv_iadd hx hb dX0_addOf_39 ?_
    obtain ⟨x7, ex7, hf⟩ := kv_lt_e hf
    refine vv_nami ex7 ?_
    obtain ⟨h9, hf⟩ := kv_ix_e hf
    obtain ⟨mD8, emD8, hf⟩ := kv_lt_e hf
    refine va_iast hx hb hK hP hD hS 3 1 rfl rfl h9 dX0_addOf_40 (fun H locs hP hD hS => ?_)
    have hP : va_P D vwCl (w_Dy C aD mD8) H := by rw [emD8]; exact hP
    have hD : va_D A (w_Dy C aD mD8) := by rw [emD8]; exact hD
    exact hret _ _ _ _ _ hf hP hD hS dX0_addOf_41
  refine lv_icmp_ne (tgt := 16) hx hb dX0_addOf_9 (by decide) (fun hc => ?_) (fun hc => ?_)
  · have hf := kv_f hc hf
    refine lv_iconst (v := 0) hx hb dX0_addOf_16 (by decide) ?_
    exact J17_1 _ _ _ _ hP hD hS (lv_sub hl [0, 1, 2, 3] rfl) hf
  · have hf := kv_t hc hf
    refine lv_iconst (v := 1) hx hb dX0_addOf_12 (by decide) ?_
    refine lv_goto (tgt := 17) hx hb dX0_addOf_13 (by decide) ?_
    exact J17_1 _ _ _ _ hP hD hS (lv_sub hl [0, 1, 2, 3] rfl) hf
abbrev rX0_add : Room := { frames := 1, cells := 0, slots := 0, locals := 23 }
set_option maxHeartbeats 4000000 in
set_option maxRecDepth 100000 in
theorem ccX0_add (l : Launch) (D : va_G) (C : Nat → ClassId) (sz : Nat) (aD : Nat → Nat) (mD : Mm) (p0 : Int32) (p1 : Int32) (p2 : Int32) (oD : Mm) (hf : ffX0_add p0 p1 p2 mD = some (oD)) : Met l yX0_add wsX0_add rX0_add (va_Pc [.ref (aD 0), .int p0, .int p1, .int p2] (vv_pre D C (w_Dy C aD mD) sz)) (vv_QV D C (w_Dy C aD mD) (w_Dy C aD oD) sz) 0 0 (va_A (w_Dy C aD mD) sz) := by
  unfold ffX0_add at hf
  refine vv_metV (cc := cX0_add) (maxL := 4) (by decide) rfl (Nat.le_of_ble_eq_true rfl) ?_
  intro p e s m args below meth c A Q H locs ls hx hb hml hown hts hA hK hN hP hD hS hl hret
  have hown : s.vm.findClass RX0 = some m.cls := hown
  have hl : lv_has ls 4 [(0, .ref (aD 0)), (1, .int p0), (2, .int p1), (3, .int p2)] := hl
  have hret : ∀ (v0 : Mm) (H : Heap) (locs : List Loc) (ls : Array Slot) (pc : Nat), some (v0) = some (oD) → va_P D vwCl (w_Dy C aD v0) H → va_D A (w_Dy C aD v0) → va_S A s.heap H locs → decode cX0_add pc = .ok (.return_, 1) → W p l e rX0_add s m args below meth c H locs 0 0 Q (F0 m pc ls []) := by
    intro v0 H locs ls pc h0 h1 h2 h3 h4
    cases h0
    exact hret H locs ls pc h1 h2 h3 h4
  have q0 := hts (.fieldLink RX0 19 "ForeRain$Days" "number" "I") (by decide +kernel)
  have iX0 : ∀ w ∈ u_ws RX0 TX0 4, w ∈ wsX0_add := by decide +kernel
  refine lv_aload_n hx hb dX0_add_0 rfl (lv_at hl 0 rfl) ?_
  refine lv_dup hx hb dX0_add_1 rfl ?_
  refine va_get (D := D) (ci := 0) (v := .int (mD 0 0)) (C := RX0) (T := TX0) (N := 4) hx hb hts iX0 hown hK hP 0 rfl rfl 0 (by decide) q0 (fun _ h9 => h9) rfl dX0_add_2 ?_
  refine lv_iconst (v := 1) hx hb dX0_add_5 (by decide) ?_
  refine lv_iadd hx hb dX0_add_6 ?_
  obtain ⟨x1, ex1, hf⟩ := kv_lt_e hf
  refine vv_nami ex1 ?_
  obtain ⟨mD2, emD2, hf⟩ := kv_lt_e hf
  refine va_put (D := D) (ci := 0) (v := .int x1) (ty := .int) (C := RX0) (T := TX0) (N := 4) hx hb hts iX0 tyX0 tyX0_ok nmX0 hown hK hP hD hS 0 rfl rfl 0 (by decide) q0 (fun _ h9 => h9) rfl (tyX0_ok 0 (by decide)) rfl rfl (Nat.le_of_ble_eq_true rfl) dX0_add_7 (fun H locs hP hD hS => ?_)
  have hP : va_P D vwCl (w_Dy C aD mD2) H := by rw [emD2]; exact hP
  have hD : va_D A (w_Dy C aD mD2) := by rw [emD2]; exact hD
  refine lv_aload_n hx hb dX0_add_10 rfl (lv_at hl 0 rfl) ?_
  refine lv_iconst (v := 0) hx hb dX0_add_11 (by decide) ?_
  refine lv_iload_n hx hb dX0_add_12 rfl (lv_at hl 1 rfl) ?_
  refine lv_iload_n hx hb dX0_add_13 rfl (lv_at hl 3 rfl) ?_
  obtain ⟨mD3, hc, hf⟩ := kv_b1_e hf
  have hs9 : vv_Sub D H A (w_Dy C aD mD2) (w_Dy C aD mD3) (w_Dy C aD mD3) := vv_Sub.same (w_Dy C aD mD3) hP hD hS hA
  refine vv_gov (wn := (w_Dy C aD mD3)) hK hs9 hS (vv_rV (As := [.int 0, .int p0, .int p2]) (rest := []) hx hb hml hown hts hK hN hS hs9 (ccX0_addOf l D C H.size aD mD2 (0 : Int32) p0 p2 mD3 hc) (cwV 3 hts gX0_add_X0_addOf rfl rfl rfl (by decide +kernel) ⟨(Nat.le_of_ble_eq_true rfl), (Nat.le_of_ble_eq_true rfl)⟩) (va_recv hK hP (ci := 0) (q0 := 0) rfl rfl) rfl hl.1 rfl (Nat.le_of_ble_eq_true rfl) dX0_add_14 ⟨Nat.zero_le _, Nat.zero_le _⟩) (fun H locs hP hD hS => ?_)
  refine lv_aload_n hx hb dX0_add_17 rfl (lv_at hl 0 rfl) ?_
  refine lv_iconst (v := 1) hx hb dX0_add_18 (by decide) ?_
  refine lv_iload_n hx hb dX0_add_19 rfl (lv_at hl 2 rfl) ?_
  refine lv_iload_n hx hb dX0_add_20 rfl (lv_at hl 3 rfl) ?_
  obtain ⟨mD4, hc, hf⟩ := kv_b1_e hf
  have hs9 : vv_Sub D H A (w_Dy C aD mD3) (w_Dy C aD mD4) (w_Dy C aD mD4) := vv_Sub.same (w_Dy C aD mD4) hP hD hS hA
  refine vv_gov (wn := (w_Dy C aD mD4)) hK hs9 hS (vv_rV (As := [.int 1, .int p1, .int p2]) (rest := []) hx hb hml hown hts hK hN hS hs9 (ccX0_addOf l D C H.size aD mD3 (1 : Int32) p1 p2 mD4 hc) (cwV 3 hts gX0_add_X0_addOf rfl rfl rfl (by decide +kernel) ⟨(Nat.le_of_ble_eq_true rfl), (Nat.le_of_ble_eq_true rfl)⟩) (va_recv hK hP (ci := 0) (q0 := 0) rfl rfl) rfl hl.1 rfl (Nat.le_of_ble_eq_true rfl) dX0_add_21 ⟨Nat.zero_le _, Nat.zero_le _⟩) (fun H locs hP hD hS => ?_)
  exact hret _ _ _ _ _ hf hP hD hS dX0_add_24
abbrev rX2_asPiece : Room := { frames := 0, cells := 0, slots := 0, locals := 0 }
set_option maxHeartbeats 4000000 in
set_option maxRecDepth 100000 in
theorem ccX2_asPiece (l : Launch) (D : va_G) (C : Nat → ClassId) (sz : Nat) (aT : Nat → Nat) (aP : Nat → Nat) (aG : Nat → Nat) (mP : Mm) (mG : Int64) (p0 : Int32) (rr : Int32) (oG : Int64) (hf : ffX2_asPiece p0 mP mG = some (rr, oG)) : Met l yX2_asPiece wsX2_asPiece rX2_asPiece (va_Pc [.ref (aG 0), .int p0] (vv_pre D C (w_Mom C aT aP mP ++ w_Mk aT aP aG mG) sz)) (vv_QI D C (w_Mom C aT aP mP ++ w_Mk aT aP aG mG) (w_Mom C aT aP mP ++ w_Mk aT aP aG oG) sz rr) 0 0 (va_A (w_Mom C aT aP mP ++ w_Mk aT aP aG mG) sz) := by
  unfold ffX2_asPiece at hf
  refine vv_metI (cc := cX2_asPiece) (maxL := 2) (ty := .int) (by decide) rfl (Nat.le_of_ble_eq_true rfl) ?_
  intro p e s m args below meth c A Q H locs ls hx hb hml hown hts hA hK hN hP hD hS hl hret
  have hown : s.vm.findClass RX2 = some m.cls := hown
  have hl : lv_has ls 2 [(0, .ref (aG 0)), (1, .int p0)] := hl
  have hret : ∀ (v0 : Int32) (v1 : Int64) (H : Heap) (locs : List Loc) (ls : Array Slot) (pc : Nat), some (v0, v1) = some (rr, oG) → narrow .int (.int v0) = .int v0 → va_P D vwCl (w_Mom C aT aP mP ++ w_Mk aT aP aG v1) H → va_D A (w_Mom C aT aP mP ++ w_Mk aT aP aG v1) → va_S A s.heap H locs → decode cX2_asPiece pc = .ok (.ireturn, 1) → W p l e rX2_asPiece s m args below meth c H locs 0 0 Q (F0 m pc ls [.int v0]) := by
    intro v0 v1 H locs ls pc h0 hn h1 h2 h3 h4
    cases h0
    exact hret H locs ls pc hn h1 h2 h3 h4
  have q0 := hts (.fieldLink RX2 36 "ForeRain$Marks" "trace" "J") (by decide +kernel)
  have q1 := hts (.fieldLink RX2 13 "ForeRain$Marks" "present" "LForeRain$Moment;") (by decide +kernel)
  have q2 := hts (.fieldLink RX2 40 "ForeRain$Moment" "water" "[I") (by decide +kernel)
  have iX2 : ∀ w ∈ u_ws RX2 TX2 3, w ∈ wsX2_asPiece := by decide +kernel
  have iX3 : ∀ w ∈ u_ws RX3 TX3 7, w ∈ wsX2_asPiece := by decide +kernel
  refine lv_aload_n hx hb dX2_asPiece_0 rfl (lv_at hl 0 rfl) ?_
  refine lv_dup hx hb dX2_asPiece_1 rfl ?_
  refine va_get (D := D) (ci := 2) (v := .long mG) (C := RX2) (T := TX2) (N := 3) hx hb hts iX2 hown hK hP 5 rfl rfl 2 (by decide) q0 (fun _ h9 => h9) rfl dX2_asPiece_2 ?_
  refine lv_lconst (v := 1) hx hb dX2_asPiece_5 (by decide) ?_
  refine lv_ladd hx hb dX2_asPiece_6 ?_
  obtain ⟨x1, ex1, hf⟩ := kv_lt_e hf
  refine vv_naml ex1 ?_
  refine va_put (D := D) (ci := 2) (v := .long x1) (ty := .long) (C := RX2) (T := TX2) (N := 3) hx hb hts iX2 tyX2 tyX2_ok nmX2 hown hK hP hD hS 5 rfl rfl 2 (by decide) q0 (fun _ h9 => h9) rfl (tyX2_ok 2 (by decide)) rfl rfl (Nat.le_of_ble_eq_true rfl) dX2_asPiece_7 (fun H locs hP hD hS => ?_)
  have hP : va_P D vwCl (w_Mom C aT aP mP ++ w_Mk aT aP aG x1) H := hP
  have hD : va_D A (w_Mom C aT aP mP ++ w_Mk aT aP aG x1) := hD
  refine lv_aload_n hx hb dX2_asPiece_10 rfl (lv_at hl 0 rfl) ?_
  refine va_get (D := D) (ci := 2) (v := .ref (aP 0)) (C := RX2) (T := TX2) (N := 3) hx hb hts iX2 hown hK hP 5 rfl rfl 1 (by decide) q1 (fun _ h9 => h9) rfl dX2_asPiece_11 ?_
  refine va_get (D := D) (ci := 3) (v := .ref (aP 1)) (C := RX3) (T := TX3) (N := 7) hx hb hts iX3 hown hK hP 0 rfl rfl 3 (by decide) q2 (fun _ h9 => h9) rfl dX2_asPiece_14 ?_
  refine lv_iload_n hx hb dX2_asPiece_17 rfl (lv_at hl 1 rfl) ?_
  obtain ⟨h9, hf⟩ := kv_ix_e hf
  refine va_iald hx hb hK hP 1 1 rfl rfl h9 dX2_asPiece_18 ?_
  exact hret _ _ _ _ _ _ hf rfl hP hD hS dX2_asPiece_19
abbrev rX2_asWet : Room := { frames := 1, cells := 0, slots := 0, locals := 21 }
set_option maxHeartbeats 4000000 in
set_option maxRecDepth 100000 in
theorem ccX2_asWet (l : Launch) (D : va_G) (C : Nat → ClassId) (sz : Nat) (aT : Nat → Nat) (aP : Nat → Nat) (aG : Nat → Nat) (mP : Mm) (mG : Int64) (p0 : Int32) (rr : Int32) (oG : Int64) (hf : ffX2_asWet p0 mP mG = some (rr, oG)) : Met l yX2_asWet wsX2_asWet rX2_asWet (va_Pc [.ref (aG 0), .int p0] (vv_pre D C (w_Mom C aT aP mP ++ w_Mk aT aP aG mG) sz)) (vv_QI D C (w_Mom C aT aP mP ++ w_Mk aT aP aG mG) (w_Mom C aT aP mP ++ w_Mk aT aP aG oG) sz rr) 0 0 (va_A (w_Mom C aT aP mP ++ w_Mk aT aP aG mG) sz) := by
  unfold ffX2_asWet at hf
  refine vv_metI (cc := cX2_asWet) (maxL := 2) (ty := .int) (by decide) rfl (Nat.le_of_ble_eq_true rfl) ?_
  intro p e s m args below meth c A Q H locs ls hx hb hml hown hts hA hK hN hP hD hS hl hret
  have hown : s.vm.findClass RX2 = some m.cls := hown
  have hl : lv_has ls 2 [(0, .ref (aG 0)), (1, .int p0)] := hl
  have hret : ∀ (v0 : Int32) (v1 : Int64) (H : Heap) (locs : List Loc) (ls : Array Slot) (pc : Nat), some (v0, v1) = some (rr, oG) → narrow .int (.int v0) = .int v0 → va_P D vwCl (w_Mom C aT aP mP ++ w_Mk aT aP aG v1) H → va_D A (w_Mom C aT aP mP ++ w_Mk aT aP aG v1) → va_S A s.heap H locs → decode cX2_asWet pc = .ok (.ireturn, 1) → W p l e rX2_asWet s m args below meth c H locs 0 0 Q (F0 m pc ls [.int v0]) := by
    intro v0 v1 H locs ls pc h0 hn h1 h2 h3 h4
    cases h0
    exact hret H locs ls pc hn h1 h2 h3 h4
  have q0 := hts (.fieldLink RX2 36 "ForeRain$Marks" "trace" "J") (by decide +kernel)
  have q1 := hts (.constantLong RX2 46 10) (by decide +kernel)
  have iX2 : ∀ w ∈ u_ws RX2 TX2 3, w ∈ wsX2_asWet := by decide +kernel
  refine lv_aload_n hx hb dX2_asWet_0 rfl (lv_at hl 0 rfl) ?_
  refine lv_dup hx hb dX2_asWet_1 rfl ?_
  refine va_get (D := D) (ci := 2) (v := .long mG) (C := RX2) (T := TX2) (N := 3) hx hb hts iX2 hown hK hP 5 rfl rfl 2 (by decide) q0 (fun _ h9 => h9) rfl dX2_asWet_2 ?_
  refine lv_ldc2 (v := 10) hx hb hown q1 dX2_asWet_5 ?_
  refine lv_ladd hx hb dX2_asWet_8 ?_
  obtain ⟨x1, ex1, hf⟩ := kv_lt_e hf
  refine vv_naml ex1 ?_
  refine va_put (D := D) (ci := 2) (v := .long x1) (ty := .long) (C := RX2) (T := TX2) (N := 3) hx hb hts iX2 tyX2 tyX2_ok nmX2 hown hK hP hD hS 5 rfl rfl 2 (by decide) q0 (fun _ h9 => h9) rfl (tyX2_ok 2 (by decide)) rfl rfl (Nat.le_of_ble_eq_true rfl) dX2_asWet_9 (fun H locs hP hD hS => ?_)
  have hP : va_P D vwCl (w_Mom C aT aP mP ++ w_Mk aT aP aG x1) H := hP
  have hD : va_D A (w_Mom C aT aP mP ++ w_Mk aT aP aG x1) := hD
  refine lv_iconst (v := 2) hx hb dX2_asWet_12 (by decide) ?_
  refine lv_aload_n hx hb dX2_asWet_13 rfl (lv_at hl 0 rfl) ?_
  refine lv_iload_n hx hb dX2_asWet_14 rfl (lv_at hl 1 rfl) ?_
  obtain ⟨r2, mG3, hc, hf⟩ := kv_b2_e hf
  have hs9 : vv_Sub D H A (w_Mom C aT aP mP ++ w_Mk aT aP aG x1) (w_Mom C aT aP mP ++ w_Mk aT aP aG mG3) (w_Mom C aT aP mP ++ w_Mk aT aP aG mG3) := vv_Sub.same (w_Mom C aT aP mP ++ w_Mk aT aP aG mG3) hP hD hS hA
  refine vv_goi (wn := (w_Mom C aT aP mP ++ w_Mk aT aP aG mG3)) hK hs9 hS (vv_rV (As := [.int p0]) (rest := [.int 2]) hx hb hml hown hts hK hN hS hs9 (ccX2_asPiece l D C H.size aT aP aG mP x1 p0 r2 mG3 hc) (cwV 1 hts gX2_asWet_X2_asPiece rfl rfl rfl (by decide +kernel) ⟨(Nat.le_of_ble_eq_true rfl), (Nat.le_of_ble_eq_true rfl)⟩) (va_recv hK hP (ci := 2) (q0 := 5) rfl rfl) rfl hl.1 rfl (Nat.le_of_ble_eq_true rfl) dX2_asWet_15 ⟨Nat.zero_le _, Nat.zero_le _⟩) (fun H locs hP hD hS => ?_)
  refine lv_imul hx hb dX2_asWet_18 ?_
  exact hret _ _ _ _ _ _ hf rfl hP hD hS dX2_asWet_19
abbrev rX2_asDrying : Room := { frames := 1, cells := 0, slots := 0, locals := 21 }
set_option maxHeartbeats 4000000 in
set_option maxRecDepth 100000 in
theorem ccX2_asDrying (l : Launch) (D : va_G) (C : Nat → ClassId) (sz : Nat) (aT : Nat → Nat) (aP : Nat → Nat) (aG : Nat → Nat) (mT : Mm) (mP : Mm) (mG : Int64) (p0 : Int32) (rr : Int32) (oG : Int64) (hf : ffX2_asDrying p0 mT mP mG = some (rr, oG)) : Met l yX2_asDrying wsX2_asDrying rX2_asDrying (va_Pc [.ref (aG 0), .int p0] (vv_pre D C (w_Told C aT mT ++ (w_Mom C aT aP mP ++ w_Mk aT aP aG mG)) sz)) (vv_QI D C (w_Told C aT mT ++ (w_Mom C aT aP mP ++ w_Mk aT aP aG mG)) (w_Told C aT mT ++ (w_Mom C aT aP mP ++ w_Mk aT aP aG oG)) sz rr) 0 0 (va_A (w_Told C aT mT ++ (w_Mom C aT aP mP ++ w_Mk aT aP aG mG)) sz) := by
  unfold ffX2_asDrying at hf
  refine vv_metI (cc := cX2_asDrying) (maxL := 2) (ty := .int) (by decide) rfl (Nat.le_of_ble_eq_true rfl) ?_
  intro p e s m args below meth c A Q H locs ls hx hb hml hown hts hA hK hN hP hD hS hl hret
  have hown : s.vm.findClass RX2 = some m.cls := hown
  have hl : lv_has ls 2 [(0, .ref (aG 0)), (1, .int p0)] := hl
  have hret : ∀ (v0 : Int32) (v1 : Int64) (H : Heap) (locs : List Loc) (ls : Array Slot) (pc : Nat), some (v0, v1) = some (rr, oG) → narrow .int (.int v0) = .int v0 → va_P D vwCl (w_Told C aT mT ++ (w_Mom C aT aP mP ++ w_Mk aT aP aG v1)) H → va_D A (w_Told C aT mT ++ (w_Mom C aT aP mP ++ w_Mk aT aP aG v1)) → va_S A s.heap H locs → decode cX2_asDrying pc = .ok (.ireturn, 1) → W p l e rX2_asDrying s m args below meth c H locs 0 0 Q (F0 m pc ls [.int v0]) := by
    intro v0 v1 H locs ls pc h0 hn h1 h2 h3 h4
    cases h0
    exact hret H locs ls pc hn h1 h2 h3 h4
  have q0 := hts (.fieldLink RX2 36 "ForeRain$Marks" "trace" "J") (by decide +kernel)
  have q1 := hts (.constantLong RX2 48 100) (by decide +kernel)
  have q2 := hts (.fieldLink RX2 7 "ForeRain$Marks" "told" "LForeRain$Told;") (by decide +kernel)
  have q3 := hts (.fieldLink RX2 50 "ForeRain$Told" "cloth" "[I") (by decide +kernel)
  have iX2 : ∀ w ∈ u_ws RX2 TX2 3, w ∈ wsX2_asDrying := by decide +kernel
  have iX6 : ∀ w ∈ u_ws RX6 TX6 9, w ∈ wsX2_asDrying := by decide +kernel
  refine lv_aload_n hx hb dX2_asDrying_0 rfl (lv_at hl 0 rfl) ?_
  refine lv_dup hx hb dX2_asDrying_1 rfl ?_
  refine va_get (D := D) (ci := 2) (v := .long mG) (C := RX2) (T := TX2) (N := 3) hx hb hts iX2 hown hK hP 12 rfl rfl 2 (by decide) q0 (fun _ h9 => h9) rfl dX2_asDrying_2 ?_
  refine lv_ldc2 (v := 100) hx hb hown q1 dX2_asDrying_5 ?_
  refine lv_ladd hx hb dX2_asDrying_8 ?_
  obtain ⟨x1, ex1, hf⟩ := kv_lt_e hf
  refine vv_naml ex1 ?_
  refine va_put (D := D) (ci := 2) (v := .long x1) (ty := .long) (C := RX2) (T := TX2) (N := 3) hx hb hts iX2 tyX2 tyX2_ok nmX2 hown hK hP hD hS 12 rfl rfl 2 (by decide) q0 (fun _ h9 => h9) rfl (tyX2_ok 2 (by decide)) rfl rfl (Nat.le_of_ble_eq_true rfl) dX2_asDrying_9 (fun H locs hP hD hS => ?_)
  have hP : va_P D vwCl (w_Told C aT mT ++ (w_Mom C aT aP mP ++ w_Mk aT aP aG x1)) H := hP
  have hD : va_D A (w_Told C aT mT ++ (w_Mom C aT aP mP ++ w_Mk aT aP aG x1)) := hD
  refine lv_aload_n hx hb dX2_asDrying_12 rfl (lv_at hl 0 rfl) ?_
  refine lv_iload_n hx hb dX2_asDrying_13 rfl (lv_at hl 1 rfl) ?_
  obtain ⟨r2, mG3, hc, hf⟩ := kv_b2_e hf
  have hs9 : vv_Sub D H A (w_Mom C aT aP mP ++ w_Mk aT aP aG x1) (w_Mom C aT aP mP ++ w_Mk aT aP aG mG3) (w_Told C aT mT ++ (w_Mom C aT aP mP ++ w_Mk aT aP aG mG3)) := vv_Sub.part (ws := (w_Told C aT mT ++ (w_Mom C aT aP mP ++ w_Mk aT aP aG x1))) (wr := (w_Told C aT mT)) [7, 8, 9, 10, 11, 12] [0, 1, 2, 3, 4, 5, 6] [0, 1, 2, 3, 4, 5, 6, 7, 8, 9, 10, 11, 12] hP hD hS hA rfl rfl (by decide) rfl
  refine vv_goi (wn := (w_Told C aT mT ++ (w_Mom C aT aP mP ++ w_Mk aT aP aG mG3))) hK hs9 hS (vv_rV (As := [.int p0]) (rest := []) hx hb hml hown hts hK hN hS hs9 (ccX2_asPiece l D C H.size aT aP aG mP x1 p0 r2 mG3 hc) (cwV 1 hts gX2_asDrying_X2_asPiece rfl rfl rfl (by decide +kernel) ⟨(Nat.le_of_ble_eq_true rfl), (Nat.le_of_ble_eq_true rfl)⟩) (va_recv hK hP (ci := 2) (q0 := 12) rfl rfl) rfl hl.1 rfl (Nat.le_of_ble_eq_true rfl) dX2_asDrying_14 ⟨Nat.zero_le _, Nat.zero_le _⟩) (fun H locs hP hD hS => ?_)
  refine lv_aload_n hx hb dX2_asDrying_17 rfl (lv_at hl 0 rfl) ?_
  refine va_get (D := D) (ci := 2) (v := .ref (aT 0)) (C := RX2) (T := TX2) (N := 3) hx hb hts iX2 hown hK hP 12 rfl rfl 0 (by decide) q2 (fun _ h9 => h9) rfl dX2_asDrying_18 ?_
  refine va_get (D := D) (ci := 6) (v := .ref (aT 3)) (C := RX6) (T := TX6) (N := 9) hx hb hts iX6 hown hK hP 0 rfl rfl 5 (by decide) q3 (fun _ h9 => h9) rfl dX2_asDrying_21 ?_
  refine lv_iload_n hx hb dX2_asDrying_24 rfl (lv_at hl 1 rfl) ?_
  obtain ⟨h9, hf⟩ := kv_ix_e hf
  refine va_iald hx hb hK hP 3 1 rfl rfl h9 dX2_asDrying_25 ?_
  refine lv_isub hx hb dX2_asDrying_26 ?_
  exact hret _ _ _ _ _ _ hf rfl hP hD hS dX2_asDrying_27
abbrev rX2_asRainedOn : Room := { frames := 2, cells := 0, slots := 0, locals := 42 }
set_option maxHeartbeats 4000000 in
set_option maxRecDepth 100000 in
theorem ccX2_asRainedOn (l : Launch) (D : va_G) (C : Nat → ClassId) (sz : Nat) (aT : Nat → Nat) (aP : Nat → Nat) (aG : Nat → Nat) (mT : Mm) (mP : Mm) (mG : Int64) (p0 : Int32) (rr : Int32) (oG : Int64) (hf : ffX2_asRainedOn p0 mT mP mG = some (rr, oG)) : Met l yX2_asRainedOn wsX2_asRainedOn rX2_asRainedOn (va_Pc [.ref (aG 0), .int p0] (vv_pre D C (w_Told C aT mT ++ (w_Mom C aT aP mP ++ w_Mk aT aP aG mG)) sz)) (vv_QI D C (w_Told C aT mT ++ (w_Mom C aT aP mP ++ w_Mk aT aP aG mG)) (w_Told C aT mT ++ (w_Mom C aT aP mP ++ w_Mk aT aP aG oG)) sz rr) 0 0 (va_A (w_Told C aT mT ++ (w_Mom C aT aP mP ++ w_Mk aT aP aG mG)) sz) := by
  unfold ffX2_asRainedOn at hf
  refine vv_metI (cc := cX2_asRainedOn) (maxL := 2) (ty := .int) (by decide) rfl (Nat.le_of_ble_eq_true rfl) ?_
  intro p e s m args below meth c A Q H locs ls hx hb hml hown hts hA hK hN hP hD hS hl hret
  have hown : s.vm.findClass RX2 = some m.cls := hown
  have hl : lv_has ls 2 [(0, .ref (aG 0)), (1, .int p0)] := hl
  have hret : ∀ (v0 : Int32) (v1 : Int64) (H : Heap) (locs : List Loc) (ls : Array Slot) (pc : Nat), some (v0, v1) = some (rr, oG) → narrow .int (.int v0) = .int v0 → va_P D vwCl (w_Told C aT mT ++ (w_Mom C aT aP mP ++ w_Mk aT aP aG v1)) H → va_D A (w_Told C aT mT ++ (w_Mom C aT aP mP ++ w_Mk aT aP aG v1)) → va_S A s.heap H locs → decode cX2_asRainedOn pc = .ok (.ireturn, 1) → W p l e rX2_asRainedOn s m args below meth c H locs 0 0 Q (F0 m pc ls [.int v0]) := by
    intro v0 v1 H locs ls pc h0 hn h1 h2 h3 h4
    cases h0
    exact hret H locs ls pc hn h1 h2 h3 h4
  have q0 := hts (.fieldLink RX2 36 "ForeRain$Marks" "trace" "J") (by decide +kernel)
  have q1 := hts (.constantLong RX2 55 1000) (by decide +kernel)
  have q2 := hts (.fieldLink RX2 7 "ForeRain$Marks" "told" "LForeRain$Told;") (by decide +kernel)
  have q3 := hts (.fieldLink RX2 57 "ForeRain$Told" "wide" "[I") (by decide +kernel)
  have iX2 : ∀ w ∈ u_ws RX2 TX2 3, w ∈ wsX2_asRainedOn := by decide +kernel
  have iX6 : ∀ w ∈ u_ws RX6 TX6 9, w ∈ wsX2_asRainedOn := by decide +kernel
  refine lv_aload_n hx hb dX2_asRainedOn_0 rfl (lv_at hl 0 rfl) ?_
  refine lv_dup hx hb dX2_asRainedOn_1 rfl ?_
  refine va_get (D := D) (ci := 2) (v := .long mG) (C := RX2) (T := TX2) (N := 3) hx hb hts iX2 hown hK hP 12 rfl rfl 2 (by decide) q0 (fun _ h9 => h9) rfl dX2_asRainedOn_2 ?_
  refine lv_ldc2 (v := 1000) hx hb hown q1 dX2_asRainedOn_5 ?_
  refine lv_ladd hx hb dX2_asRainedOn_8 ?_
  obtain ⟨x1, ex1, hf⟩ := kv_lt_e hf
  refine vv_naml ex1 ?_
  refine va_put (D := D) (ci := 2) (v := .long x1) (ty := .long) (C := RX2) (T := TX2) (N := 3) hx hb hts iX2 tyX2 tyX2_ok nmX2 hown hK hP hD hS 12 rfl rfl 2 (by decide) q0 (fun _ h9 => h9) rfl (tyX2_ok 2 (by decide)) rfl rfl (Nat.le_of_ble_eq_true rfl) dX2_asRainedOn_9 (fun H locs hP hD hS => ?_)
  have hP : va_P D vwCl (w_Told C aT mT ++ (w_Mom C aT aP mP ++ w_Mk aT aP aG x1)) H := hP
  have hD : va_D A (w_Told C aT mT ++ (w_Mom C aT aP mP ++ w_Mk aT aP aG x1)) := hD
  refine lv_aload_n hx hb dX2_asRainedOn_12 rfl (lv_at hl 0 rfl) ?_
  refine lv_iload_n hx hb dX2_asRainedOn_13 rfl (lv_at hl 1 rfl) ?_
  obtain ⟨r2, mG3, hc, hf⟩ := kv_b2_e hf
  have hs9 : vv_Sub D H A (w_Mom C aT aP mP ++ w_Mk aT aP aG x1) (w_Mom C aT aP mP ++ w_Mk aT aP aG mG3) (w_Told C aT mT ++ (w_Mom C aT aP mP ++ w_Mk aT aP aG mG3)) := vv_Sub.part (ws := (w_Told C aT mT ++ (w_Mom C aT aP mP ++ w_Mk aT aP aG x1))) (wr := (w_Told C aT mT)) [7, 8, 9, 10, 11, 12] [0, 1, 2, 3, 4, 5, 6] [0, 1, 2, 3, 4, 5, 6, 7, 8, 9, 10, 11, 12] hP hD hS hA rfl rfl (by decide) rfl
  refine vv_goi (wn := (w_Told C aT mT ++ (w_Mom C aT aP mP ++ w_Mk aT aP aG mG3))) hK hs9 hS (vv_rV (As := [.int p0]) (rest := []) hx hb hml hown hts hK hN hS hs9 (ccX2_asWet l D C H.size aT aP aG mP x1 p0 r2 mG3 hc) (cwV 1 hts gX2_asRainedOn_X2_asWet rfl rfl rfl (by decide +kernel) ⟨(Nat.le_of_ble_eq_true rfl), (Nat.le_of_ble_eq_true rfl)⟩) (va_recv hK hP (ci := 2) (q0 := 12) rfl rfl) rfl hl.1 rfl (Nat.le_of_ble_eq_true rfl) dX2_asRainedOn_14 ⟨Nat.zero_le _, Nat.zero_le _⟩) (fun H locs hP hD hS => ?_)
  refine lv_aload_n hx hb dX2_asRainedOn_17 rfl (lv_at hl 0 rfl) ?_
  refine va_get (D := D) (ci := 2) (v := .ref (aT 0)) (C := RX2) (T := TX2) (N := 3) hx hb hts iX2 hown hK hP 12 rfl rfl 0 (by decide) q2 (fun _ h9 => h9) rfl dX2_asRainedOn_18 ?_
  refine va_get (D := D) (ci := 6) (v := .ref (aT 2)) (C := RX6) (T := TX6) (N := 9) hx hb hts iX6 hown hK hP 0 rfl rfl 4 (by decide) q3 (fun _ h9 => h9) rfl dX2_asRainedOn_21 ?_
  refine lv_iload_n hx hb dX2_asRainedOn_24 rfl (lv_at hl 1 rfl) ?_
  obtain ⟨h9, hf⟩ := kv_ix_e hf
  refine va_iald hx hb hK hP 2 1 rfl rfl h9 dX2_asRainedOn_25 ?_
  refine lv_iadd hx hb dX2_asRainedOn_26 ?_
  exact hret _ _ _ _ _ _ hf rfl hP hD hS dX2_asRainedOn_27
abbrev rX2_asSmelling : Room := { frames := 2, cells := 0, slots := 0, locals := 42 }
set_option maxHeartbeats 4000000 in
set_option maxRecDepth 100000 in
theorem ccX2_asSmelling (l : Launch) (D : va_G) (C : Nat → ClassId) (sz : Nat) (aT : Nat → Nat) (aP : Nat → Nat) (aG : Nat → Nat) (mT : Mm) (mP : Mm) (mG : Int64) (p0 : Int32) (rr : Int32) (oG : Int64) (hf : ffX2_asSmelling p0 mT mP mG = some (rr, oG)) : Met l yX2_asSmelling wsX2_asSmelling rX2_asSmelling (va_Pc [.ref (aG 0), .int p0] (vv_pre D C (w_Told C aT mT ++ (w_Mom C aT aP mP ++ w_Mk aT aP aG mG)) sz)) (vv_QI D C (w_Told C aT mT ++ (w_Mom C aT aP mP ++ w_Mk aT aP aG mG)) (w_Told C aT mT ++ (w_Mom C aT aP mP ++ w_Mk aT aP aG oG)) sz rr) 0 0 (va_A (w_Told C aT mT ++ (w_Mom C aT aP mP ++ w_Mk aT aP aG mG)) sz) := by
  unfold ffX2_asSmelling at hf
  refine vv_metI (cc := cX2_asSmelling) (maxL := 2) (ty := .int) (by decide) rfl (Nat.le_of_ble_eq_true rfl) ?_
  intro p e s m args below meth c A Q H locs ls hx hb hml hown hts hA hK hN hP hD hS hl hret
  have hown : s.vm.findClass RX2 = some m.cls := hown
  have hl : lv_has ls 2 [(0, .ref (aG 0)), (1, .int p0)] := hl
  have hret : ∀ (v0 : Int32) (v1 : Int64) (H : Heap) (locs : List Loc) (ls : Array Slot) (pc : Nat), some (v0, v1) = some (rr, oG) → narrow .int (.int v0) = .int v0 → va_P D vwCl (w_Told C aT mT ++ (w_Mom C aT aP mP ++ w_Mk aT aP aG v1)) H → va_D A (w_Told C aT mT ++ (w_Mom C aT aP mP ++ w_Mk aT aP aG v1)) → va_S A s.heap H locs → decode cX2_asSmelling pc = .ok (.ireturn, 1) → W p l e rX2_asSmelling s m args below meth c H locs 0 0 Q (F0 m pc ls [.int v0]) := by
    intro v0 v1 H locs ls pc h0 hn h1 h2 h3 h4
    cases h0
    exact hret H locs ls pc hn h1 h2 h3 h4
  have q0 := hts (.fieldLink RX2 36 "ForeRain$Marks" "trace" "J") (by decide +kernel)
  have q1 := hts (.constantLong RX2 60 10000) (by decide +kernel)
  have q2 := hts (.fieldLink RX2 13 "ForeRain$Marks" "present" "LForeRain$Moment;") (by decide +kernel)
  have q3 := hts (.fieldLink RX2 62 "ForeRain$Moment" "age" "[I") (by decide +kernel)
  have iX2 : ∀ w ∈ u_ws RX2 TX2 3, w ∈ wsX2_asSmelling := by decide +kernel
  have iX3 : ∀ w ∈ u_ws RX3 TX3 7, w ∈ wsX2_asSmelling := by decide +kernel
  refine lv_aload_n hx hb dX2_asSmelling_0 rfl (lv_at hl 0 rfl) ?_
  refine lv_dup hx hb dX2_asSmelling_1 rfl ?_
  refine va_get (D := D) (ci := 2) (v := .long mG) (C := RX2) (T := TX2) (N := 3) hx hb hts iX2 hown hK hP 12 rfl rfl 2 (by decide) q0 (fun _ h9 => h9) rfl dX2_asSmelling_2 ?_
  refine lv_ldc2 (v := 10000) hx hb hown q1 dX2_asSmelling_5 ?_
  refine lv_ladd hx hb dX2_asSmelling_8 ?_
  obtain ⟨x1, ex1, hf⟩ := kv_lt_e hf
  refine vv_naml ex1 ?_
  refine va_put (D := D) (ci := 2) (v := .long x1) (ty := .long) (C := RX2) (T := TX2) (N := 3) hx hb hts iX2 tyX2 tyX2_ok nmX2 hown hK hP hD hS 12 rfl rfl 2 (by decide) q0 (fun _ h9 => h9) rfl (tyX2_ok 2 (by decide)) rfl rfl (Nat.le_of_ble_eq_true rfl) dX2_asSmelling_9 (fun H locs hP hD hS => ?_)
  have hP : va_P D vwCl (w_Told C aT mT ++ (w_Mom C aT aP mP ++ w_Mk aT aP aG x1)) H := hP
  have hD : va_D A (w_Told C aT mT ++ (w_Mom C aT aP mP ++ w_Mk aT aP aG x1)) := hD
  refine lv_aload_n hx hb dX2_asSmelling_12 rfl (lv_at hl 0 rfl) ?_
  refine lv_iload_n hx hb dX2_asSmelling_13 rfl (lv_at hl 1 rfl) ?_
  obtain ⟨r2, mG3, hc, hf⟩ := kv_b2_e hf
  have hs9 : vv_Sub D H A (w_Told C aT mT ++ (w_Mom C aT aP mP ++ w_Mk aT aP aG x1)) (w_Told C aT mT ++ (w_Mom C aT aP mP ++ w_Mk aT aP aG mG3)) (w_Told C aT mT ++ (w_Mom C aT aP mP ++ w_Mk aT aP aG mG3)) := vv_Sub.same (w_Told C aT mT ++ (w_Mom C aT aP mP ++ w_Mk aT aP aG mG3)) hP hD hS hA
  refine vv_goi (wn := (w_Told C aT mT ++ (w_Mom C aT aP mP ++ w_Mk aT aP aG mG3))) hK hs9 hS (vv_rV (As := [.int p0]) (rest := []) hx hb hml hown hts hK hN hS hs9 (ccX2_asDrying l D C H.size aT aP aG mT mP x1 p0 r2 mG3 hc) (cwV 1 hts gX2_asSmelling_X2_asDrying rfl rfl rfl (by decide +kernel) ⟨(Nat.le_of_ble_eq_true rfl), (Nat.le_of_ble_eq_true rfl)⟩) (va_recv hK hP (ci := 2) (q0 := 12) rfl rfl) rfl hl.1 rfl (Nat.le_of_ble_eq_true rfl) dX2_asSmelling_14 ⟨Nat.zero_le _, Nat.zero_le _⟩) (fun H locs hP hD hS => ?_)
  refine lv_aload_n hx hb dX2_asSmelling_17 rfl (lv_at hl 0 rfl) ?_
  refine va_get (D := D) (ci := 2) (v := .ref (aP 0)) (C := RX2) (T := TX2) (N := 3) hx hb hts iX2 hown hK hP 12 rfl rfl 1 (by decide) q2 (fun _ h9 => h9) rfl dX2_asSmelling_18 ?_
  refine va_get (D := D) (ci := 3) (v := .ref (aP 2)) (C := RX3) (T := TX3) (N := 7) hx hb hts iX3 hown hK hP 7 rfl rfl 4 (by decide) q3 (fun _ h9 => h9) rfl dX2_asSmelling_21 ?_
  refine lv_iload_n hx hb dX2_asSmelling_24 rfl (lv_at hl 1 rfl) ?_
  obtain ⟨h9, hf⟩ := kv_ix_e hf
  refine va_iald hx hb hK hP 9 1 rfl rfl h9 dX2_asSmelling_25 ?_
  refine lv_iadd hx hb dX2_asSmelling_26 ?_
  exact hret _ _ _ _ _ _ hf rfl hP hD hS dX2_asSmelling_27
abbrev rX2_asFrozen : Room := { frames := 1, cells := 0, slots := 0, locals := 21 }
set_option maxHeartbeats 4000000 in
set_option maxRecDepth 100000 in
theorem ccX2_asFrozen (l : Launch) (D : va_G) (C : Nat → ClassId) (sz : Nat) (aT : Nat → Nat) (aP : Nat → Nat) (aG : Nat → Nat) (mP : Mm) (mG : Int64) (p0 : Int32) (rr : Int32) (oG : Int64) (hf : ffX2_asFrozen p0 mP mG = some (rr, oG)) : Met l yX2_asFrozen wsX2_asFrozen rX2_asFrozen (va_Pc [.ref (aG 0), .int p0] (vv_pre D C (w_Mom C aT aP mP ++ w_Mk aT aP aG mG) sz)) (vv_QI D C (w_Mom C aT aP mP ++ w_Mk aT aP aG mG) (w_Mom C aT aP mP ++ w_Mk aT aP aG oG) sz rr) 0 0 (va_A (w_Mom C aT aP mP ++ w_Mk aT aP aG mG) sz) := by
  unfold ffX2_asFrozen at hf
  refine vv_metI (cc := cX2_asFrozen) (maxL := 2) (ty := .int) (by decide) rfl (Nat.le_of_ble_eq_true rfl) ?_
  intro p e s m args below meth c A Q H locs ls hx hb hml hown hts hA hK hN hP hD hS hl hret
  have hown : s.vm.findClass RX2 = some m.cls := hown
  have hl : lv_has ls 2 [(0, .ref (aG 0)), (1, .int p0)] := hl
  have hret : ∀ (v0 : Int32) (v1 : Int64) (H : Heap) (locs : List Loc) (ls : Array Slot) (pc : Nat), some (v0, v1) = some (rr, oG) → narrow .int (.int v0) = .int v0 → va_P D vwCl (w_Mom C aT aP mP ++ w_Mk aT aP aG v1) H → va_D A (w_Mom C aT aP mP ++ w_Mk aT aP aG v1) → va_S A s.heap H locs → decode cX2_asFrozen pc = .ok (.ireturn, 1) → W p l e rX2_asFrozen s m args below meth c H locs 0 0 Q (F0 m pc ls [.int v0]) := by
    intro v0 v1 H locs ls pc h0 hn h1 h2 h3 h4
    cases h0
    exact hret H locs ls pc hn h1 h2 h3 h4
  have q0 := hts (.fieldLink RX2 36 "ForeRain$Marks" "trace" "J") (by decide +kernel)
  have q1 := hts (.constantLong RX2 65 100000) (by decide +kernel)
  have q2 := hts (.fieldLink RX2 13 "ForeRain$Marks" "present" "LForeRain$Moment;") (by decide +kernel)
  have q3 := hts (.fieldLink RX2 67 "ForeRain$Moment" "step" "I") (by decide +kernel)
  have iX2 : ∀ w ∈ u_ws RX2 TX2 3, w ∈ wsX2_asFrozen := by decide +kernel
  have iX3 : ∀ w ∈ u_ws RX3 TX3 7, w ∈ wsX2_asFrozen := by decide +kernel
  refine lv_aload_n hx hb dX2_asFrozen_0 rfl (lv_at hl 0 rfl) ?_
  refine lv_dup hx hb dX2_asFrozen_1 rfl ?_
  refine va_get (D := D) (ci := 2) (v := .long mG) (C := RX2) (T := TX2) (N := 3) hx hb hts iX2 hown hK hP 5 rfl rfl 2 (by decide) q0 (fun _ h9 => h9) rfl dX2_asFrozen_2 ?_
  refine lv_ldc2 (v := 100000) hx hb hown q1 dX2_asFrozen_5 ?_
  refine lv_ladd hx hb dX2_asFrozen_8 ?_
  obtain ⟨x1, ex1, hf⟩ := kv_lt_e hf
  refine vv_naml ex1 ?_
  refine va_put (D := D) (ci := 2) (v := .long x1) (ty := .long) (C := RX2) (T := TX2) (N := 3) hx hb hts iX2 tyX2 tyX2_ok nmX2 hown hK hP hD hS 5 rfl rfl 2 (by decide) q0 (fun _ h9 => h9) rfl (tyX2_ok 2 (by decide)) rfl rfl (Nat.le_of_ble_eq_true rfl) dX2_asFrozen_9 (fun H locs hP hD hS => ?_)
  have hP : va_P D vwCl (w_Mom C aT aP mP ++ w_Mk aT aP aG x1) H := hP
  have hD : va_D A (w_Mom C aT aP mP ++ w_Mk aT aP aG x1) := hD
  refine lv_aload_n hx hb dX2_asFrozen_12 rfl (lv_at hl 0 rfl) ?_
  refine lv_iload_n hx hb dX2_asFrozen_13 rfl (lv_at hl 1 rfl) ?_
  obtain ⟨r2, mG3, hc, hf⟩ := kv_b2_e hf
  have hs9 : vv_Sub D H A (w_Mom C aT aP mP ++ w_Mk aT aP aG x1) (w_Mom C aT aP mP ++ w_Mk aT aP aG mG3) (w_Mom C aT aP mP ++ w_Mk aT aP aG mG3) := vv_Sub.same (w_Mom C aT aP mP ++ w_Mk aT aP aG mG3) hP hD hS hA
  refine vv_goi (wn := (w_Mom C aT aP mP ++ w_Mk aT aP aG mG3)) hK hs9 hS (vv_rV (As := [.int p0]) (rest := []) hx hb hml hown hts hK hN hS hs9 (ccX2_asPiece l D C H.size aT aP aG mP x1 p0 r2 mG3 hc) (cwV 1 hts gX2_asFrozen_X2_asPiece rfl rfl rfl (by decide +kernel) ⟨(Nat.le_of_ble_eq_true rfl), (Nat.le_of_ble_eq_true rfl)⟩) (va_recv hK hP (ci := 2) (q0 := 5) rfl rfl) rfl hl.1 rfl (Nat.le_of_ble_eq_true rfl) dX2_asFrozen_14 ⟨Nat.zero_le _, Nat.zero_le _⟩) (fun H locs hP hD hS => ?_)
  refine lv_aload_n hx hb dX2_asFrozen_17 rfl (lv_at hl 0 rfl) ?_
  refine va_get (D := D) (ci := 2) (v := .ref (aP 0)) (C := RX2) (T := TX2) (N := 3) hx hb hts iX2 hown hK hP 5 rfl rfl 1 (by decide) q2 (fun _ h9 => h9) rfl dX2_asFrozen_18 ?_
  refine va_get (D := D) (ci := 3) (v := .int (mP 0 1)) (C := RX3) (T := TX3) (N := 7) hx hb hts iX3 hown hK hP 0 rfl rfl 1 (by decide) q3 (fun _ h9 => h9) rfl dX2_asFrozen_21 ?_
  refine lv_isub hx hb dX2_asFrozen_24 ?_
  exact hret _ _ _ _ _ _ hf rfl hP hD hS dX2_asFrozen_25
abbrev rX2_as : Room := { frames := 3, cells := 0, slots := 0, locals := 63 }
set_option maxHeartbeats 4000000 in
set_option maxRecDepth 100000 in
theorem ccX2_as (l : Launch) (D : va_G) (C : Nat → ClassId) (sz : Nat) (aT : Nat → Nat) (aP : Nat → Nat) (aG : Nat → Nat) (mT : Mm) (mP : Mm) (mG : Int64) (p0 : Int32) (p1 : Int32) (rr : Int32) (oG : Int64) (hf : ffX2_as p0 p1 mT mP mG = some (rr, oG)) : Met l yX2_as wsX2_as rX2_as (va_Pc [.ref (aG 0), .int p0, .int p1] (vv_pre D C (w_Told C aT mT ++ (w_Mom C aT aP mP ++ w_Mk aT aP aG mG)) sz)) (vv_QI D C (w_Told C aT mT ++ (w_Mom C aT aP mP ++ w_Mk aT aP aG mG)) (w_Told C aT mT ++ (w_Mom C aT aP mP ++ w_Mk aT aP aG oG)) sz rr) 0 0 (va_A (w_Told C aT mT ++ (w_Mom C aT aP mP ++ w_Mk aT aP aG mG)) sz) := by
  unfold ffX2_as at hf
  refine vv_metI (cc := cX2_as) (maxL := 3) (ty := .int) (by decide) rfl (Nat.le_of_ble_eq_true rfl) ?_
  intro p e s m args below meth c A Q H locs ls hx hb hml hown hts hA hK hN hP hD hS hl hret
  have hown : s.vm.findClass RX2 = some m.cls := hown
  have hl : lv_has ls 3 [(0, .ref (aG 0)), (1, .int p0), (2, .int p1)] := hl
  have hret : ∀ (v0 : Int32) (v1 : Int64) (H : Heap) (locs : List Loc) (ls : Array Slot) (pc : Nat), some (v0, v1) = some (rr, oG) → narrow .int (.int v0) = .int v0 → va_P D vwCl (w_Told C aT mT ++ (w_Mom C aT aP mP ++ w_Mk aT aP aG v1)) H → va_D A (w_Told C aT mT ++ (w_Mom C aT aP mP ++ w_Mk aT aP aG v1)) → va_S A s.heap H locs → decode cX2_as pc = .ok (.ireturn, 1) → W p l e rX2_as s m args below meth c H locs 0 0 Q (F0 m pc ls [.int v0]) := by
    intro v0 v1 H locs ls pc h0 hn h1 h2 h3 h4
    cases h0
    exact hret H locs ls pc hn h1 h2 h3 h4
  refine lv_iload_n hx hb dX2_as_0 rfl (lv_at hl 1 rfl) ?_
  by_cases c0 : p0 = 1
  · have hf := kv_t c0 hf
    refine lv_tableIn (off := 35) (tgt := 36) hx hb dX2_as_1 (by rw [c0]; decide) (by rw [c0]; decide) (by rw [c0]; rfl) (by decide) ?_
    refine lv_aload_n hx hb dX2_as_36 rfl (lv_at hl 0 rfl) ?_
    refine lv_iload_n hx hb dX2_as_37 rfl (lv_at hl 2 rfl) ?_
    obtain ⟨r1, mG2, hc, hf⟩ := kv_b2_e hf
    have hs9 : vv_Sub D H A (w_Mom C aT aP mP ++ w_Mk aT aP aG mG) (w_Mom C aT aP mP ++ w_Mk aT aP aG mG2) (w_Told C aT mT ++ (w_Mom C aT aP mP ++ w_Mk aT aP aG mG2)) := vv_Sub.part (ws := (w_Told C aT mT ++ (w_Mom C aT aP mP ++ w_Mk aT aP aG mG))) (wr := (w_Told C aT mT)) [7, 8, 9, 10, 11, 12] [0, 1, 2, 3, 4, 5, 6] [0, 1, 2, 3, 4, 5, 6, 7, 8, 9, 10, 11, 12] hP hD hS hA rfl rfl (by decide) rfl
    refine vv_goi (wn := (w_Told C aT mT ++ (w_Mom C aT aP mP ++ w_Mk aT aP aG mG2))) hK hs9 hS (vv_rV (As := [.int p1]) (rest := []) hx hb hml hown hts hK hN hS hs9 (ccX2_asWet l D C H.size aT aP aG mP mG p1 r1 mG2 hc) (cwV 1 hts gX2_as_X2_asWet rfl rfl rfl (by decide +kernel) ⟨(Nat.le_of_ble_eq_true rfl), (Nat.le_of_ble_eq_true rfl)⟩) (va_recv hK hP (ci := 2) (q0 := 12) rfl rfl) rfl hl.1 rfl (Nat.le_of_ble_eq_true rfl) dX2_as_38 ⟨Nat.zero_le _, Nat.zero_le _⟩) (fun H locs hP hD hS => ?_)
    exact hret _ _ _ _ _ _ hf rfl hP hD hS dX2_as_41
  have hf := kv_f c0 hf
  by_cases c1 : p0 = 2
  · have hf := kv_t c1 hf
    refine lv_tableIn (off := 41) (tgt := 42) hx hb dX2_as_1 (by rw [c1]; decide) (by rw [c1]; decide) (by rw [c1]; rfl) (by decide) ?_
    refine lv_aload_n hx hb dX2_as_42 rfl (lv_at hl 0 rfl) ?_
    refine lv_iload_n hx hb dX2_as_43 rfl (lv_at hl 2 rfl) ?_
    obtain ⟨r3, mG4, hc, hf⟩ := kv_b2_e hf
    have hs9 : vv_Sub D H A (w_Told C aT mT ++ (w_Mom C aT aP mP ++ w_Mk aT aP aG mG)) (w_Told C aT mT ++ (w_Mom C aT aP mP ++ w_Mk aT aP aG mG4)) (w_Told C aT mT ++ (w_Mom C aT aP mP ++ w_Mk aT aP aG mG4)) := vv_Sub.same (w_Told C aT mT ++ (w_Mom C aT aP mP ++ w_Mk aT aP aG mG4)) hP hD hS hA
    refine vv_goi (wn := (w_Told C aT mT ++ (w_Mom C aT aP mP ++ w_Mk aT aP aG mG4))) hK hs9 hS (vv_rV (As := [.int p1]) (rest := []) hx hb hml hown hts hK hN hS hs9 (ccX2_asDrying l D C H.size aT aP aG mT mP mG p1 r3 mG4 hc) (cwV 1 hts gX2_as_X2_asDrying rfl rfl rfl (by decide +kernel) ⟨(Nat.le_of_ble_eq_true rfl), (Nat.le_of_ble_eq_true rfl)⟩) (va_recv hK hP (ci := 2) (q0 := 12) rfl rfl) rfl hl.1 rfl (Nat.le_of_ble_eq_true rfl) dX2_as_44 ⟨Nat.zero_le _, Nat.zero_le _⟩) (fun H locs hP hD hS => ?_)
    exact hret _ _ _ _ _ _ hf rfl hP hD hS dX2_as_47
  have hf := kv_f c1 hf
  by_cases c2 : p0 = 3
  · have hf := kv_t c2 hf
    refine lv_tableIn (off := 47) (tgt := 48) hx hb dX2_as_1 (by rw [c2]; decide) (by rw [c2]; decide) (by rw [c2]; rfl) (by decide) ?_
    refine lv_aload_n hx hb dX2_as_48 rfl (lv_at hl 0 rfl) ?_
    refine lv_iload_n hx hb dX2_as_49 rfl (lv_at hl 2 rfl) ?_
    obtain ⟨r5, mG6, hc, hf⟩ := kv_b2_e hf
    have hs9 : vv_Sub D H A (w_Told C aT mT ++ (w_Mom C aT aP mP ++ w_Mk aT aP aG mG)) (w_Told C aT mT ++ (w_Mom C aT aP mP ++ w_Mk aT aP aG mG6)) (w_Told C aT mT ++ (w_Mom C aT aP mP ++ w_Mk aT aP aG mG6)) := vv_Sub.same (w_Told C aT mT ++ (w_Mom C aT aP mP ++ w_Mk aT aP aG mG6)) hP hD hS hA
    refine vv_goi (wn := (w_Told C aT mT ++ (w_Mom C aT aP mP ++ w_Mk aT aP aG mG6))) hK hs9 hS (vv_rV (As := [.int p1]) (rest := []) hx hb hml hown hts hK hN hS hs9 (ccX2_asRainedOn l D C H.size aT aP aG mT mP mG p1 r5 mG6 hc) (cwV 1 hts gX2_as_X2_asRainedOn rfl rfl rfl (by decide +kernel) ⟨(Nat.le_of_ble_eq_true rfl), (Nat.le_of_ble_eq_true rfl)⟩) (va_recv hK hP (ci := 2) (q0 := 12) rfl rfl) rfl hl.1 rfl (Nat.le_of_ble_eq_true rfl) dX2_as_50 ⟨Nat.zero_le _, Nat.zero_le _⟩) (fun H locs hP hD hS => ?_)
    exact hret _ _ _ _ _ _ hf rfl hP hD hS dX2_as_53
  have hf := kv_f c2 hf
  by_cases c3 : p0 = 4
  · have hf := kv_t c3 hf
    refine lv_tableIn (off := 53) (tgt := 54) hx hb dX2_as_1 (by rw [c3]; decide) (by rw [c3]; decide) (by rw [c3]; rfl) (by decide) ?_
    refine lv_aload_n hx hb dX2_as_54 rfl (lv_at hl 0 rfl) ?_
    refine lv_iload_n hx hb dX2_as_55 rfl (lv_at hl 2 rfl) ?_
    obtain ⟨r7, mG8, hc, hf⟩ := kv_b2_e hf
    have hs9 : vv_Sub D H A (w_Told C aT mT ++ (w_Mom C aT aP mP ++ w_Mk aT aP aG mG)) (w_Told C aT mT ++ (w_Mom C aT aP mP ++ w_Mk aT aP aG mG8)) (w_Told C aT mT ++ (w_Mom C aT aP mP ++ w_Mk aT aP aG mG8)) := vv_Sub.same (w_Told C aT mT ++ (w_Mom C aT aP mP ++ w_Mk aT aP aG mG8)) hP hD hS hA
    refine vv_goi (wn := (w_Told C aT mT ++ (w_Mom C aT aP mP ++ w_Mk aT aP aG mG8))) hK hs9 hS (vv_rV (As := [.int p1]) (rest := []) hx hb hml hown hts hK hN hS hs9 (ccX2_asSmelling l D C H.size aT aP aG mT mP mG p1 r7 mG8 hc) (cwV 1 hts gX2_as_X2_asSmelling rfl rfl rfl (by decide +kernel) ⟨(Nat.le_of_ble_eq_true rfl), (Nat.le_of_ble_eq_true rfl)⟩) (va_recv hK hP (ci := 2) (q0 := 12) rfl rfl) rfl hl.1 rfl (Nat.le_of_ble_eq_true rfl) dX2_as_56 ⟨Nat.zero_le _, Nat.zero_le _⟩) (fun H locs hP hD hS => ?_)
    exact hret _ _ _ _ _ _ hf rfl hP hD hS dX2_as_59
  have hf := kv_f c3 hf
  by_cases c4 : p0 = 5
  · have hf := kv_t c4 hf
    refine lv_tableIn (off := 59) (tgt := 60) hx hb dX2_as_1 (by rw [c4]; decide) (by rw [c4]; decide) (by rw [c4]; rfl) (by decide) ?_
    refine lv_aload_n hx hb dX2_as_60 rfl (lv_at hl 0 rfl) ?_
    refine lv_iload_n hx hb dX2_as_61 rfl (lv_at hl 2 rfl) ?_
    obtain ⟨r9, mG10, hc, hf⟩ := kv_b2_e hf
    have hs9 : vv_Sub D H A (w_Mom C aT aP mP ++ w_Mk aT aP aG mG) (w_Mom C aT aP mP ++ w_Mk aT aP aG mG10) (w_Told C aT mT ++ (w_Mom C aT aP mP ++ w_Mk aT aP aG mG10)) := vv_Sub.part (ws := (w_Told C aT mT ++ (w_Mom C aT aP mP ++ w_Mk aT aP aG mG))) (wr := (w_Told C aT mT)) [7, 8, 9, 10, 11, 12] [0, 1, 2, 3, 4, 5, 6] [0, 1, 2, 3, 4, 5, 6, 7, 8, 9, 10, 11, 12] hP hD hS hA rfl rfl (by decide) rfl
    refine vv_goi (wn := (w_Told C aT mT ++ (w_Mom C aT aP mP ++ w_Mk aT aP aG mG10))) hK hs9 hS (vv_rV (As := [.int p1]) (rest := []) hx hb hml hown hts hK hN hS hs9 (ccX2_asFrozen l D C H.size aT aP aG mP mG p1 r9 mG10 hc) (cwV 1 hts gX2_as_X2_asFrozen rfl rfl rfl (by decide +kernel) ⟨(Nat.le_of_ble_eq_true rfl), (Nat.le_of_ble_eq_true rfl)⟩) (va_recv hK hP (ci := 2) (q0 := 12) rfl rfl) rfl hl.1 rfl (Nat.le_of_ble_eq_true rfl) dX2_as_62 ⟨Nat.zero_le _, Nat.zero_le _⟩) (fun H locs hP hD hS => ?_)
    exact hret _ _ _ _ _ _ hf rfl hP hD hS dX2_as_65
  have hf := kv_f c4 hf
  refine lv_tableOut (tgt := 66) hx hb dX2_as_1 (by have a0 : p0.toInt ≠ 1 := kv_ti c0; have a1 : p0.toInt ≠ 2 := kv_ti c1; have a2 : p0.toInt ≠ 3 := kv_ti c2; have a3 : p0.toInt ≠ 4 := kv_ti c3; have a4 : p0.toInt ≠ 5 := kv_ti c4; omega) (by decide) ?_
  refine lv_aload_n hx hb dX2_as_66 rfl (lv_at hl 0 rfl) ?_
  refine lv_iload_n hx hb dX2_as_67 rfl (lv_at hl 2 rfl) ?_
  obtain ⟨r11, mG12, hc, hf⟩ := kv_b2_e hf
  have hs9 : vv_Sub D H A (w_Mom C aT aP mP ++ w_Mk aT aP aG mG) (w_Mom C aT aP mP ++ w_Mk aT aP aG mG12) (w_Told C aT mT ++ (w_Mom C aT aP mP ++ w_Mk aT aP aG mG12)) := vv_Sub.part (ws := (w_Told C aT mT ++ (w_Mom C aT aP mP ++ w_Mk aT aP aG mG))) (wr := (w_Told C aT mT)) [7, 8, 9, 10, 11, 12] [0, 1, 2, 3, 4, 5, 6] [0, 1, 2, 3, 4, 5, 6, 7, 8, 9, 10, 11, 12] hP hD hS hA rfl rfl (by decide) rfl
  refine vv_goi (wn := (w_Told C aT mT ++ (w_Mom C aT aP mP ++ w_Mk aT aP aG mG12))) hK hs9 hS (vv_rV (As := [.int p1]) (rest := []) hx hb hml hown hts hK hN hS hs9 (ccX2_asPiece l D C H.size aT aP aG mP mG p1 r11 mG12 hc) (cwV 1 hts gX2_as_X2_asPiece rfl rfl rfl (by decide +kernel) ⟨(Nat.le_of_ble_eq_true rfl), (Nat.le_of_ble_eq_true rfl)⟩) (va_recv hK hP (ci := 2) (q0 := 12) rfl rfl) rfl hl.1 rfl (Nat.le_of_ble_eq_true rfl) dX2_as_68 ⟨Nat.zero_le _, Nat.zero_le _⟩) (fun H locs hP hD hS => ?_)
  exact hret _ _ _ _ _ _ hf rfl hP hD hS dX2_as_71
