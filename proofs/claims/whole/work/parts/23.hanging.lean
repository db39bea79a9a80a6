abbrev rX1_withoutDamp : Room := { frames := 3, cells := 0, slots := 0, locals := 128 }
set_option maxHeartbeats 4000000 in
set_option maxRecDepth 100000 in
theorem ccX1_withoutDamp (l : Launch) (D : va_G) (C : Nat → ClassId) (sz : Nat) (aT : Nat → Nat) (aP : Nat → Nat) (aA : Nat → Nat) (aH : Nat → Nat) (mT : Mm) (mP : Mm) (mA : Mm) (mH : Mm) (p0 : Int32) (p1 : Int32) (rr : Int32) (oA : Mm) (hf : ffX1_withoutDamp p0 p1 mT mP mA mH = some (rr, oA)) : Met l yX1_withoutDamp wsX1_withoutDamp rX1_withoutDamp (va_Pc [.ref (aH 0), .int p0, .int p1] (vv_pre D C (w_Told C aT mT ++ (w_Mom C aT aP mP ++ (w_Mom C aT aA mA ++ w_Hg C aT aP aA aH mH))) sz)) (vv_QI D C (w_Told C aT mT ++ (w_Mom C aT aP mP ++ (w_Mom C aT aA mA ++ w_Hg C aT aP aA aH mH))) (w_Told C aT mT ++ (w_Mom C aT aP mP ++ (w_Mom C aT aA oA ++ w_Hg C aT aP aA aH mH))) sz rr) 0 0 (va_A (w_Told C aT mT ++ (w_Mom C aT aP mP ++ (w_Mom C aT aA mA ++ w_Hg C aT aP aA aH mH))) sz) := by
  unfold ffX1_withoutDamp at hf
  refine vv_metI (cc := cX1_withoutDamp) (maxL := 4) (ty := .int) (by decide) rfl (Nat.le_of_ble_eq_true rfl) ?_
  intro p e s m args below meth c A Q H locs ls hx hb hml hown hts hA hK hN hP hD hS hl hret
  have hown : s.vm.findClass RX1 = some m.cls := hown
  have hl : lv_has ls 4 [(0, .ref (aH 0)), (1, .int p0), (2, .int p1)] := hl
  have hret : ∀ (v0 : Int32) (v1 : Mm) (H : Heap) (locs : List Loc) (ls : Array Slot) (pc : Nat), some (v0, v1) = some (rr, oA) → narrow .int (.int v0) = .int v0 → va_P D vwCl (w_Told C aT mT ++ (w_Mom C aT aP mP ++ (w_Mom C aT aA v1 ++ w_Hg C aT aP aA aH mH))) H → va_D A (w_Told C aT mT ++ (w_Mom C aT aP mP ++ (w_Mom C aT aA v1 ++ w_Hg C aT aP aA aH mH))) → va_S A s.heap H locs → decode cX1_withoutDamp pc = .ok (.ireturn, 1) → W p l e rX1_withoutDamp s m args below meth c H locs 0 0 Q (F0 m pc ls [.int v0]) := by
    intro v0 v1 H locs ls pc h0 hn h1 h2 h3 h4
    cases h0
    exact hret H locs ls pc hn h1 h2 h3 h4
  have q0 := hts (.fieldLink RX1 38 "ForeRain$Hanging" "ahead" "LForeRain$Moment;") (by decide +kernel)
  have q1 := hts (.fieldLink RX1 34 "ForeRain$Hanging" "present" "LForeRain$Moment;") (by decide +kernel)
  have q2 := hts (.fieldLink RX1 86 "ForeRain$Moment" "place" "[I") (by decide +kernel)
  have q3 := hts (.fieldLink RX1 41 "ForeRain$Hanging" "steps" "I") (by decide +kernel)
  have q4 := hts (.fieldLink RX1 89 "ForeRain$Moment" "damp" "I") (by decide +kernel)
  have q5 := hts (.fieldLink RX1 61 "ForeRain$Moment" "water" "[I") (by decide +kernel)
  have iX1 : ∀ w ∈ u_ws RX1 TX1 10, w ∈ wsX1_withoutDamp := by decide +kernel
  have iX3 : ∀ w ∈ u_ws RX3 TX3 7, w ∈ wsX1_withoutDamp := by decide +kernel
  refine lv_aload_n hx hb dX1_withoutDamp_0 rfl (lv_at hl 0 rfl) ?_
  refine va_get (D := D) (ci := 1) (v := .ref (aA 0)) (C := RX1) (T := TX1) (N := 10) hx hb hts iX1 hown hK hP 17 rfl rfl 2 (by decide) q0 (fun _ h9 => h9) rfl dX1_withoutDamp_1 ?_
  refine lv_aload_n hx hb dX1_withoutDamp_4 rfl (lv_at hl 0 rfl) ?_
  refine va_get (D := D) (ci := 1) (v := .ref (aP 0)) (C := RX1) (T := TX1) (N := 10) hx hb hts iX1 hown hK hP 17 rfl rfl 1 (by decide) q1 (fun _ h9 => h9) rfl dX1_withoutDamp_5 ?_
  obtain ⟨mA1, hc, hf⟩ := kv_b1_e hf
  have hs9 : vv_Sub D H A (w_Told C aT mT ++ (w_Mom C aT aA mA ++ w_Mom C aT aP mP)) (w_Told C aT mT ++ (w_Mom C aT aA mA1 ++ w_Mom C aT aP mP)) (w_Told C aT mT ++ (w_Mom C aT aP mP ++ (w_Mom C aT aA mA1 ++ w_Hg C aT aP aA aH mH))) := vv_Sub.part (ws := (w_Told C aT mT ++ (w_Mom C aT aP mP ++ (w_Mom C aT aA mA ++ w_Hg C aT aP aA aH mH)))) (wr := (w_Hg C aT aP aA aH mH)) [0, 1, 2, 3, 4, 5, 6, 12, 13, 14, 15, 16, 7, 8, 9, 10, 11] [17, 18, 19, 20, 21, 22, 23, 24, 25, 26, 27, 28] [12, 13, 14, 15, 16, 17, 18, 24, 25, 26, 27, 28, 19, 20, 21, 22, 23, 0, 1, 2, 3, 4, 5, 6, 7, 8, 9, 10, 11] hP hD hS hA rfl rfl (by decide) rfl
  refine vv_gov (wn := (w_Told C aT mT ++ (w_Mom C aT aP mP ++ (w_Mom C aT aA mA1 ++ w_Hg C aT aP aA aH mH)))) hK hs9 hS (vv_rV (As := [.ref (aP 0)]) (rest := []) hx hb hml hown hts hK hN hs9 (ccX3_copy l D C H.size aT aA aP mT mA mP mA1 hc) (cwV 1 hts gX1_withoutDamp_X3_copy rfl rfl rfl (by decide +kernel) ⟨Nat.le_of_ble_eq_true rfl, Nat.le_of_ble_eq_true rfl⟩) (va_recv hK hP (ci := 3) (q0 := 12) rfl rfl) rfl hl.1 rfl (Nat.le_of_ble_eq_true rfl) dX1_withoutDamp_8 ⟨Nat.zero_le _, Nat.zero_le _⟩) (fun H locs hP hD hS => ?_)
  refine lv_aload_n hx hb dX1_withoutDamp_11 rfl (lv_at hl 0 rfl) ?_
  refine va_get (D := D) (ci := 1) (v := .ref (aA 0)) (C := RX1) (T := TX1) (N := 10) hx hb hts iX1 hown hK hP 17 rfl rfl 2 (by decide) q0 (fun _ h9 => h9) rfl dX1_withoutDamp_12 ?_
  refine va_get (D := D) (ci := 3) (v := .ref (aA 3)) (C := RX3) (T := TX3) (N := 7) hx hb hts iX3 hown hK hP 12 rfl rfl 5 (by decide) q2 (fun _ h9 => h9) rfl dX1_withoutDamp_15 ?_
  refine lv_iload_n hx hb dX1_withoutDamp_18 rfl (lv_at hl 1 rfl) ?_
  refine lv_iload_n hx hb dX1_withoutDamp_19 rfl (lv_at hl 2 rfl) ?_
  obtain ⟨h9, hf⟩ := kv_ix_e hf
  obtain ⟨mA2, emA2, hf⟩ := kv_lt_e hf
  refine va_iast hx hb hK hP hD hS 15 1 rfl rfl h9 dX1_withoutDamp_20 (fun H locs hP hD hS => ?_)
  have hP : va_P D vwCl (w_Told C aT mT ++ (w_Mom C aT aP mP ++ (w_Mom C aT aA mA2 ++ w_Hg C aT aP aA aH mH))) H := by rw [emA2]; exact hP
  have hD : va_D A (w_Told C aT mT ++ (w_Mom C aT aP mP ++ (w_Mom C aT aA mA2 ++ w_Hg C aT aP aA aH mH))) := by rw [emA2]; exact hD
  refine lv_iconst (v := 0) hx hb dX1_withoutDamp_21 (by decide) ?_
  refine lv_istore_n (lv' := [(3, .int 0), (0, .ref (aH 0)), (1, .int p0), (2, .int p1)]) hx hb dX1_withoutDamp_22 rfl hl (by decide) rfl (fun ls hl => ?_)
  have L23 : ∀ (K23 : Int32 → Mm → Option (Int32 × Mm)), (∀ (x3 : Int32) (mA4 : Mm) (H : Heap) (locs : List Loc) (ls : Array Slot), va_P D vwCl (w_Told C aT mT ++ (w_Mom C aT aP mP ++ (w_Mom C aT aA mA4 ++ w_Hg C aT aP aA aH mH))) H → va_D A (w_Told C aT mT ++ (w_Mom C aT aP mP ++ (w_Mom C aT aA mA4 ++ w_Hg C aT aP aA aH mH))) → va_S A s.heap H locs → lv_has ls 4 [(3, .int x3), (0, .ref (aH 0)), (1, .int p0)] → K23 x3 mA4 = some (rr, oA) → W p l e rX1_withoutDamp s m args below meth c H locs 0 0 Q (F0 m 53 ls [])) → ∀ (n : Nat) (x3 : Int32) (mA4 : Mm) (H : Heap) (locs : List Loc) (ls : Array Slot), va_P D vwCl (w_Told C aT mT ++ (w_Mom C aT aP mP ++ (w_Mom C aT aA mA4 ++ w_Hg C aT aP aA aH mH))) H → va_D A (w_Told C aT mT ++ (w_Mom C aT aP mP ++ (w_Mom C aT aA mA4 ++ w_Hg C aT aP aA aH mH))) → va_S A s.heap H locs → lv_has ls 4 [(3, .int x3), (0, .ref (aH 0)), (1, .int p0)] → ffX1_withoutDamp_L23 mT mH K23 n x3 mA4 = some (rr, oA) → W p l e rX1_withoutDamp s m args below meth c H locs 0 0 Q (F0 m 23 ls []) := by
    intro K23 hK9 n
    induction n with
    | zero => intro x3 mA4 H locs ls hP hD hS hl hf; exact kv_no hf
    | succ n ih =>
      intro x3 mA4 H locs ls hP hD hS hl hf
      rw [ffX1_withoutDamp_L23_s] at hf
      refine lv_iload_n hx hb dX1_withoutDamp_23 rfl (lv_at hl 0 rfl) ?_
      refine lv_aload_n hx hb dX1_withoutDamp_24 rfl (lv_at hl 1 rfl) ?_
      refine va_get (D := D) (ci := 1) (v := .int (mH 0 7)) (C := RX1) (T := TX1) (N := 10) hx hb hts iX1 hown hK hP 17 rfl rfl 7 (by decide) q3 (fun _ h9 => h9) rfl dX1_withoutDamp_25 ?_
      refine lv_icmp_ge (tgt := 53) hx hb dX1_withoutDamp_28 (by decide) (fun hc => ?_) (fun hc => ?_)
      · have hf := kv_t hc hf
        exact hK9 _ _ _ _ _ hP hD hS (lv_sub hl [0, 1, 2] rfl) hf
      · have hf := kv_f hc hf
        refine lv_aload_n hx hb dX1_withoutDamp_31 rfl (lv_at hl 1 rfl) ?_
        refine va_get (D := D) (ci := 1) (v := .ref (aA 0)) (C := RX1) (T := TX1) (N := 10) hx hb hts iX1 hown hK hP 17 rfl rfl 2 (by decide) q0 (fun _ h9 => h9) rfl dX1_withoutDamp_32 ?_
        refine lv_iconst (v := 0) hx hb dX1_withoutDamp_35 (by decide) ?_
        obtain ⟨mA5, emA5, hf⟩ := kv_lt_e hf
        refine va_put (D := D) (ci := 3) (v := .int 0) (ty := .int) (C := RX3) (T := TX3) (N := 7) hx hb hts iX3 tyX3 tyX3_ok nmX3 hown hK hP hD hS 12 rfl rfl 2 (by decide) q4 (fun _ h9 => h9) rfl (tyX3_ok 2 (by decide)) rfl rfl (Nat.le_of_ble_eq_true rfl) dX1_withoutDamp_36 (fun H locs hP hD hS => ?_)
        have hP : va_P D vwCl (w_Told C aT mT ++ (w_Mom C aT aP mP ++ (w_Mom C aT aA mA5 ++ w_Hg C aT aP aA aH mH))) H := by rw [emA5]; exact hP
        have hD : va_D A (w_Told C aT mT ++ (w_Mom C aT aP mP ++ (w_Mom C aT aA mA5 ++ w_Hg C aT aP aA aH mH))) := by rw [emA5]; exact hD
        refine lv_aload_n hx hb dX1_withoutDamp_39 rfl (lv_at hl 1 rfl) ?_
        refine va_get (D := D) (ci := 1) (v := .ref (aA 0)) (C := RX1) (T := TX1) (N := 10) hx hb hts iX1 hown hK hP 17 rfl rfl 2 (by decide) q0 (fun _ h9 => h9) rfl dX1_withoutDamp_40 ?_
        obtain ⟨r6, mA7, hc, hf⟩ := kv_b2_e hf
        have hs9 : vv_Sub D H A (w_Told C aT mT ++ w_Mom C aT aA mA5) (w_Told C aT mT ++ w_Mom C aT aA mA7) (w_Told C aT mT ++ (w_Mom C aT aP mP ++ (w_Mom C aT aA mA7 ++ w_Hg C aT aP aA aH mH))) := vv_Sub.part (ws := (w_Told C aT mT ++ (w_Mom C aT aP mP ++ (w_Mom C aT aA mA5 ++ w_Hg C aT aP aA aH mH)))) (wr := (w_Mom C aT aP mP ++ w_Hg C aT aP aA aH mH)) [0, 1, 2, 3, 4, 5, 6, 12, 13, 14, 15, 16] [7, 8, 9, 10, 11, 17, 18, 19, 20, 21, 22, 23, 24, 25, 26, 27, 28] [17, 18, 19, 20, 21, 22, 23, 0, 1, 2, 3, 4, 24, 25, 26, 27, 28, 5, 6, 7, 8, 9, 10, 11, 12, 13, 14, 15, 16] hP hD hS hA rfl rfl (by decide) rfl
        refine vv_goi (wn := (w_Told C aT mT ++ (w_Mom C aT aP mP ++ (w_Mom C aT aA mA7 ++ w_Hg C aT aP aA aH mH)))) hK hs9 hS (vv_rV (As := []) (rest := []) hx hb hml hown hts hK hN hs9 (ccX3_pass l D C H.size aT aA mT mA5 r6 mA7 hc) (cwV 0 hts gX1_withoutDamp_X3_pass rfl rfl rfl (by decide +kernel) ⟨Nat.le_of_ble_eq_true rfl, Nat.le_of_ble_eq_true rfl⟩) (va_recv hK hP (ci := 3) (q0 := 12) rfl rfl) rfl hl.1 rfl (Nat.le_of_ble_eq_true rfl) dX1_withoutDamp_43 ⟨Nat.zero_le _, Nat.zero_le _⟩) (fun H locs hP hD hS => ?_)
        refine lv_pop hx hb dX1_withoutDamp_46 rfl ?_
        obtain ⟨x8, ex8, hf⟩ := kv_lt_e hf
        refine lv_iinc (v := x8) (lv' := [(3, .int x8), (0, .ref (aH 0)), (1, .int p0)]) hx hb dX1_withoutDamp_47 hl (k := 0) rfl (by rw [ex8]; rfl) (by decide) rfl (fun ls hl => ?_)
        refine lv_goto (tgt := 23) hx hb dX1_withoutDamp_50 (by decide) ?_
        exact ih _ _ _ _ _ hP hD hS (lv_sub hl [0, 1, 2] rfl) hf
  refine L23 _ (fun x9 mA10 H locs ls hP hD hS hl hf => ?_) _ _ _ _ _ _ hP hD hS (lv_sub hl [0, 1, 2] rfl) hf
  refine lv_aload_n hx hb dX1_withoutDamp_53 rfl (lv_at hl 1 rfl) ?_
  refine va_get (D := D) (ci := 1) (v := .ref (aA 0)) (C := RX1) (T := TX1) (N := 10) hx hb hts iX1 hown hK hP 17 rfl rfl 2 (by decide) q0 (fun _ h9 => h9) rfl dX1_withoutDamp_54 ?_
  refine va_get (D := D) (ci := 3) (v := .ref (aA 1)) (C := RX3) (T := TX3) (N := 7) hx hb hts iX3 hown hK hP 12 rfl rfl 3 (by decide) q5 (fun _ h9 => h9) rfl dX1_withoutDamp_57 ?_
  refine lv_iload_n hx hb dX1_withoutDamp_60 rfl (lv_at hl 2 rfl) ?_
  obtain ⟨h9, hf⟩ := kv_ix_e hf
  refine va_iald hx hb hK hP 13 1 rfl rfl h9 dX1_withoutDamp_61 ?_
  exact hret _ _ _ _ _ _ hf rfl hP hD hS dX1_withoutDamp_62
abbrev rX1_weigh : Room := { frames := 3, cells := 0, slots := 0, locals := 128 }
set_option maxHeartbeats 4000000 in
set_option maxRecDepth 100000 in
theorem ccX1_weigh (l : Launch) (D : va_G) (C : Nat → ClassId) (sz : Nat) (aT : Nat → Nat) (aP : Nat → Nat) (aA : Nat → Nat) (aH : Nat → Nat) (mT : Mm) (mP : Mm) (mA : Mm) (mH : Mm) (oA : Mm) (oH : Mm) (hf : ffX1_weigh mT mP mA mH = some (oA, oH)) : Met l yX1_weigh wsX1_weigh rX1_weigh (va_Pc [.ref (aH 0)] (vv_pre D C (w_Told C aT mT ++ (w_Mom C aT aP mP ++ (w_Mom C aT aA mA ++ w_Hg C aT aP aA aH mH))) sz)) (vv_QV D C (w_Told C aT mT ++ (w_Mom C aT aP mP ++ (w_Mom C aT aA mA ++ w_Hg C aT aP aA aH mH))) (w_Told C aT mT ++ (w_Mom C aT aP mP ++ (w_Mom C aT aA oA ++ w_Hg C aT aP aA aH oH))) sz) 0 0 (va_A (w_Told C aT mT ++ (w_Mom C aT aP mP ++ (w_Mom C aT aA mA ++ w_Hg C aT aP aA aH mH))) sz) := by
  unfold ffX1_weigh at hf
  refine vv_metV (cc := cX1_weigh) (maxL := 2) (by decide) rfl (Nat.le_of_ble_eq_true rfl) ?_
  intro p e s m args below meth c A Q H locs ls hx hb hml hown hts hA hK hN hP hD hS hl hret
  have hown : s.vm.findClass RX1 = some m.cls := hown
  have hl : lv_has ls 2 [(0, .ref (aH 0))] := hl
  have hret : ∀ (v0 : Mm) (v1 : Mm) (H : Heap) (locs : List Loc) (ls : Array Slot) (pc : Nat), some (v0, v1) = some (oA, oH) → va_P D vwCl (w_Told C aT mT ++ (w_Mom C aT aP mP ++ (w_Mom C aT aA v0 ++ w_Hg C aT aP aA aH v1))) H → va_D A (w_Told C aT mT ++ (w_Mom C aT aP mP ++ (w_Mom C aT aA v0 ++ w_Hg C aT aP aA aH v1))) → va_S A s.heap H locs → decode cX1_weigh pc = .ok (.return_, 1) → W p l e rX1_weigh s m args below meth c H locs 0 0 Q (F0 m pc ls []) := by
    intro v0 v1 H locs ls pc h0 h1 h2 h3 h4
    cases h0
    exact hret H locs ls pc h1 h2 h3 h4
  have q0 := hts (.fieldLink RX1 38 "ForeRain$Hanging" "ahead" "LForeRain$Moment;") (by decide +kernel)
  have q1 := hts (.fieldLink RX1 34 "ForeRain$Hanging" "present" "LForeRain$Moment;") (by decide +kernel)
  have q2 := hts (.fieldLink RX1 30 "ForeRain$Hanging" "told" "LForeRain$Told;") (by decide +kernel)
  have q3 := hts (.fieldLink RX1 56 "ForeRain$Told" "pieces" "I") (by decide +kernel)
  have q4 := hts (.fieldLink RX1 86 "ForeRain$Moment" "place" "[I") (by decide +kernel)
  have q5 := hts (.fieldLink RX1 9 "ForeRain$Hanging" "tried" "[I") (by decide +kernel)
  have q6 := hts (.fieldLink RX1 41 "ForeRain$Hanging" "steps" "I") (by decide +kernel)
  have q7 := hts (.fieldLink RX1 46 "ForeRain$Hanging" "least" "I") (by decide +kernel)
  have q8 := hts (.fieldLink RX1 27 "ForeRain$Hanging" "best" "[I") (by decide +kernel)
  have q9 := hts (.methodLink RX1 102 arraycopyName) (by decide +kernel)
  have q10 := hts (.native arraycopyName) (by decide +kernel)
  have q11 := hts (.static arraycopyName) (by decide +kernel)
  have q12 := hts (.initialized "java/lang/System") (by decide +kernel)
  have iX1 : ∀ w ∈ u_ws RX1 TX1 10, w ∈ wsX1_weigh := by decide +kernel
  have iX6 : ∀ w ∈ u_ws RX6 TX6 9, w ∈ wsX1_weigh := by decide +kernel
  have iX3 : ∀ w ∈ u_ws RX3 TX3 7, w ∈ wsX1_weigh := by decide +kernel
  refine lv_aload_n hx hb dX1_weigh_0 rfl (lv_at hl 0 rfl) ?_
  refine va_get (D := D) (ci := 1) (v := .ref (aA 0)) (C := RX1) (T := TX1) (N := 10) hx hb hts iX1 hown hK hP 17 rfl rfl 2 (by decide) q0 (fun _ h9 => h9) rfl dX1_weigh_1 ?_
  refine lv_aload_n hx hb dX1_weigh_4 rfl (lv_at hl 0 rfl) ?_
  refine va_get (D := D) (ci := 1) (v := .ref (aP 0)) (C := RX1) (T := TX1) (N := 10) hx hb hts iX1 hown hK hP 17 rfl rfl 1 (by decide) q1 (fun _ h9 => h9) rfl dX1_weigh_5 ?_
  obtain ⟨mA1, hc, hf⟩ := kv_b1_e hf
  have hs9 : vv_Sub D H A (w_Told C aT mT ++ (w_Mom C aT aA mA ++ w_Mom C aT aP mP)) (w_Told C aT mT ++ (w_Mom C aT aA mA1 ++ w_Mom C aT aP mP)) (w_Told C aT mT ++ (w_Mom C aT aP mP ++ (w_Mom C aT aA mA1 ++ w_Hg C aT aP aA aH mH))) := vv_Sub.part (ws := (w_Told C aT mT ++ (w_Mom C aT aP mP ++ (w_Mom C aT aA mA ++ w_Hg C aT aP aA aH mH)))) (wr := (w_Hg C aT aP aA aH mH)) [0, 1, 2, 3, 4, 5, 6, 12, 13, 14, 15, 16, 7, 8, 9, 10, 11] [17, 18, 19, 20, 21, 22, 23, 24, 25, 26, 27, 28] [12, 13, 14, 15, 16, 17, 18, 24, 25, 26, 27, 28, 19, 20, 21, 22, 23, 0, 1, 2, 3, 4, 5, 6, 7, 8, 9, 10, 11] hP hD hS hA rfl rfl (by decide) rfl
  refine vv_gov (wn := (w_Told C aT mT ++ (w_Mom C aT aP mP ++ (w_Mom C aT aA mA1 ++ w_Hg C aT aP aA aH mH)))) hK hs9 hS (vv_rV (As := [.ref (aP 0)]) (rest := []) hx hb hml hown hts hK hN hs9 (ccX3_copy l D C H.size aT aA aP mT mA mP mA1 hc) (cwV 1 hts gX1_weigh_X3_copy rfl rfl rfl (by decide +kernel) ⟨Nat.le_of_ble_eq_true rfl, Nat.le_of_ble_eq_true rfl⟩) (va_recv hK hP (ci := 3) (q0 := 12) rfl rfl) rfl hl.1 rfl (Nat.le_of_ble_eq_true rfl) dX1_weigh_8 ⟨Nat.zero_le _, Nat.zero_le _⟩) (fun H locs hP hD hS => ?_)
  refine lv_iconst (v := 0) hx hb dX1_weigh_11 (by decide) ?_
  refine lv_istore_n (lv' := [(1, .int 0), (0, .ref (aH 0))]) hx hb dX1_weigh_12 rfl hl (by decide) rfl (fun ls hl => ?_)
  have L13 : ∀ (K13 : Int32 → Mm → Option (Mm × Mm)), (∀ (x2 : Int32) (mA3 : Mm) (H : Heap) (locs : List Loc) (ls : Array Slot), va_P D vwCl (w_Told C aT mT ++ (w_Mom C aT aP mP ++ (w_Mom C aT aA mA3 ++ w_Hg C aT aP aA aH mH))) H → va_D A (w_Told C aT mT ++ (w_Mom C aT aP mP ++ (w_Mom C aT aA mA3 ++ w_Hg C aT aP aA aH mH))) → va_S A s.heap H locs → lv_has ls 2 [(1, .int x2), (0, .ref (aH 0))] → K13 x2 mA3 = some (oA, oH) → W p l e rX1_weigh s m args below meth c H locs 0 0 Q (F0 m 45 ls [])) → ∀ (n : Nat) (x2 : Int32) (mA3 : Mm) (H : Heap) (locs : List Loc) (ls : Array Slot), va_P D vwCl (w_Told C aT mT ++ (w_Mom C aT aP mP ++ (w_Mom C aT aA mA3 ++ w_Hg C aT aP aA aH mH))) H → va_D A (w_Told C aT mT ++ (w_Mom C aT aP mP ++ (w_Mom C aT aA mA3 ++ w_Hg C aT aP aA aH mH))) → va_S A s.heap H locs → lv_has ls 2 [(1, .int x2), (0, .ref (aH 0))] → ffX1_weigh_L13 mT mH K13 n x2 mA3 = some (oA, oH) → W p l e rX1_weigh s m args below meth c H locs 0 0 Q (F0 m 13 ls []) := by
    intro K13 hK9 n
    induction n with
    | zero => intro x2 mA3 H locs ls hP hD hS hl hf; exact kv_no hf
    | succ n ih =>
      intro x2 mA3 H locs ls hP hD hS hl hf
      rw [ffX1_weigh_L13_s] at hf
      refine lv_iload_n hx hb dX1_weigh_13 rfl (lv_at hl 0 rfl) ?_
      refine lv_aload_n hx hb dX1_weigh_14 rfl (lv_at hl 1 rfl) ?_
      refine va_get (D := D) (ci := 1) (v := .ref (aT 0)) (C := RX1) (T := TX1) (N := 10) hx hb hts iX1 hown hK hP 17 rfl rfl 0 (by decide) q2 (fun _ h9 => h9) rfl dX1_weigh_15 ?_
      refine va_get (D := D) (ci := 6) (v := .int (mT 0 0)) (C := RX6) (T := TX6) (N := 9) hx hb hts iX6 hown hK hP 0 rfl rfl 0 (by decide) q3 (fun _ h9 => h9) rfl dX1_weigh_18 ?_
      refine lv_icmp_ge (tgt := 45) hx hb dX1_weigh_21 (by decide) (fun hc => ?_) (fun hc => ?_)
      · have hf := kv_t hc hf
        exact hK9 _ _ _ _ _ hP hD hS (lv_sub hl [0, 1] rfl) hf
      · have hf := kv_f hc hf
        refine lv_aload_n hx hb dX1_weigh_24 rfl (lv_at hl 1 rfl) ?_
        refine va_get (D := D) (ci := 1) (v := .ref (aA 0)) (C := RX1) (T := TX1) (N := 10) hx hb hts iX1 hown hK hP 17 rfl rfl 2 (by decide) q0 (fun _ h9 => h9) rfl dX1_weigh_25 ?_
        refine va_get (D := D) (ci := 3) (v := .ref (aA 3)) (C := RX3) (T := TX3) (N := 7) hx hb hts iX3 hown hK hP 12 rfl rfl 5 (by decide) q4 (fun _ h9 => h9) rfl dX1_weigh_28 ?_
        refine lv_iload_n hx hb dX1_weigh_31 rfl (lv_at hl 0 rfl) ?_
        refine lv_aload_n hx hb dX1_weigh_32 rfl (lv_at hl 1 rfl) ?_
        refine va_get (D := D) (ci := 1) (v := .ref (aH 1)) (C := RX1) (T := TX1) (N := 10) hx hb hts iX1 hown hK hP 17 rfl rfl 3 (by decide) q5 (fun _ h9 => h9) rfl dX1_weigh_33 ?_
        refine lv_iload_n hx hb dX1_weigh_36 rfl (lv_at hl 0 rfl) ?_
        obtain ⟨h9, hf⟩ := kv_ix_e hf
        refine va_iald hx hb hK hP 18 1 rfl rfl h9 dX1_weigh_37 ?_
        obtain ⟨x4, ex4, hf⟩ := kv_lt_e hf
        refine vv_nami ex4 ?_
        obtain ⟨h9, hf⟩ := kv_ix_e hf
        obtain ⟨mA5, emA5, hf⟩ := kv_lt_e hf
        refine va_iast hx hb hK hP hD hS 15 1 rfl rfl h9 dX1_weigh_38 (fun H locs hP hD hS => ?_)
        have hP : va_P D vwCl (w_Told C aT mT ++ (w_Mom C aT aP mP ++ (w_Mom C aT aA mA5 ++ w_Hg C aT aP aA aH mH))) H := by rw [emA5]; exact hP
        have hD : va_D A (w_Told C aT mT ++ (w_Mom C aT aP mP ++ (w_Mom C aT aA mA5 ++ w_Hg C aT aP aA aH mH))) := by rw [emA5]; exact hD
        obtain ⟨x6, ex6, hf⟩ := kv_lt_e hf
        refine lv_iinc (v := x6) (lv' := [(1, .int x6), (0, .ref (aH 0))]) hx hb dX1_weigh_39 hl (k := 0) rfl (by rw [ex6]; rfl) (by decide) rfl (fun ls hl => ?_)
        refine lv_goto (tgt := 13) hx hb dX1_weigh_42 (by decide) ?_
        exact ih _ _ _ _ _ hP hD hS (lv_sub hl [0, 1] rfl) hf
  refine L13 _ (fun x7 mA8 H locs ls hP hD hS hl hf => ?_) _ _ _ _ _ _ hP hD hS (lv_sub hl [0, 1] rfl) hf
  refine lv_iconst (v := 0) hx hb dX1_weigh_45 (by decide) ?_
  refine lv_istore_n (lv' := [(1, .int 0), (0, .ref (aH 0))]) hx hb dX1_weigh_46 rfl hl (by decide) rfl (fun ls hl => ?_)
  have L47 : ∀ (K47 : Int32 → Mm → Option (Mm × Mm)), (∀ (x9 : Int32) (mA10 : Mm) (H : Heap) (locs : List Loc) (ls : Array Slot), va_P D vwCl (w_Told C aT mT ++ (w_Mom C aT aP mP ++ (w_Mom C aT aA mA10 ++ w_Hg C aT aP aA aH mH))) H → va_D A (w_Told C aT mT ++ (w_Mom C aT aP mP ++ (w_Mom C aT aA mA10 ++ w_Hg C aT aP aA aH mH))) → va_S A s.heap H locs → lv_has ls 2 [(1, .int x9), (0, .ref (aH 0))] → K47 x9 mA10 = some (oA, oH) → W p l e rX1_weigh s m args below meth c H locs 0 0 Q (F0 m 69 ls [])) → ∀ (n : Nat) (x9 : Int32) (mA10 : Mm) (H : Heap) (locs : List Loc) (ls : Array Slot), va_P D vwCl (w_Told C aT mT ++ (w_Mom C aT aP mP ++ (w_Mom C aT aA mA10 ++ w_Hg C aT aP aA aH mH))) H → va_D A (w_Told C aT mT ++ (w_Mom C aT aP mP ++ (w_Mom C aT aA mA10 ++ w_Hg C aT aP aA aH mH))) → va_S A s.heap H locs → lv_has ls 2 [(1, .int x9), (0, .ref (aH 0))] → ffX1_weigh_L47 mT mH K47 n x9 mA10 = some (oA, oH) → W p l e rX1_weigh s m args below meth c H locs 0 0 Q (F0 m 47 ls []) := by
    intro K47 hK9 n
    induction n with
    | zero => intro x9 mA10 H locs ls hP hD hS hl hf; exact kv_no hf
    | succ n ih =>
      intro x9 mA10 H locs ls hP hD hS hl hf
      rw [ffX1_weigh_L47_s] at hf
      refine lv_iload_n hx hb dX1_weigh_47 rfl (lv_at hl 0 rfl) ?_
      refine lv_aload_n hx hb dX1_weigh_48 rfl (lv_at hl 1 rfl) ?_
      refine va_get (D := D) (ci := 1) (v := .int (mH 0 7)) (C := RX1) (T := TX1) (N := 10) hx hb hts iX1 hown hK hP 17 rfl rfl 7 (by decide) q6 (fun _ h9 => h9) rfl dX1_weigh_49 ?_
      refine lv_icmp_ge (tgt := 69) hx hb dX1_weigh_52 (by decide) (fun hc => ?_) (fun hc => ?_)
      · have hf := kv_t hc hf
        exact hK9 _ _ _ _ _ hP hD hS (lv_sub hl [0, 1] rfl) hf
      · have hf := kv_f hc hf
        refine lv_aload_n hx hb dX1_weigh_55 rfl (lv_at hl 1 rfl) ?_
        refine va_get (D := D) (ci := 1) (v := .ref (aA 0)) (C := RX1) (T := TX1) (N := 10) hx hb hts iX1 hown hK hP 17 rfl rfl 2 (by decide) q0 (fun _ h9 => h9) rfl dX1_weigh_56 ?_
        obtain ⟨r11, mA12, hc, hf⟩ := kv_b2_e hf
        have hs9 : vv_Sub D H A (w_Told C aT mT ++ w_Mom C aT aA mA10) (w_Told C aT mT ++ w_Mom C aT aA mA12) (w_Told C aT mT ++ (w_Mom C aT aP mP ++ (w_Mom C aT aA mA12 ++ w_Hg C aT aP aA aH mH))) := vv_Sub.part (ws := (w_Told C aT mT ++ (w_Mom C aT aP mP ++ (w_Mom C aT aA mA10 ++ w_Hg C aT aP aA aH mH)))) (wr := (w_Mom C aT aP mP ++ w_Hg C aT aP aA aH mH)) [0, 1, 2, 3, 4, 5, 6, 12, 13, 14, 15, 16] [7, 8, 9, 10, 11, 17, 18, 19, 20, 21, 22, 23, 24, 25, 26, 27, 28] [17, 18, 19, 20, 21, 22, 23, 0, 1, 2, 3, 4, 24, 25, 26, 27, 28, 5, 6, 7, 8, 9, 10, 11, 12, 13, 14, 15, 16] hP hD hS hA rfl rfl (by decide) rfl
        refine vv_goi (wn := (w_Told C aT mT ++ (w_Mom C aT aP mP ++ (w_Mom C aT aA mA12 ++ w_Hg C aT aP aA aH mH)))) hK hs9 hS (vv_rV (As := []) (rest := []) hx hb hml hown hts hK hN hs9 (ccX3_pass l D C H.size aT aA mT mA10 r11 mA12 hc) (cwV 0 hts gX1_weigh_X3_pass rfl rfl rfl (by decide +kernel) ⟨Nat.le_of_ble_eq_true rfl, Nat.le_of_ble_eq_true rfl⟩) (va_recv hK hP (ci := 3) (q0 := 12) rfl rfl) rfl hl.1 rfl (Nat.le_of_ble_eq_true rfl) dX1_weigh_59 ⟨Nat.zero_le _, Nat.zero_le _⟩) (fun H locs hP hD hS => ?_)
        refine lv_pop hx hb dX1_weigh_62 rfl ?_
        obtain ⟨x13, ex13, hf⟩ := kv_lt_e hf
        refine lv_iinc (v := x13) (lv' := [(1, .int x13), (0, .ref (aH 0))]) hx hb dX1_weigh_63 hl (k := 0) rfl (by rw [ex13]; rfl) (by decide) rfl (fun ls hl => ?_)
        refine lv_goto (tgt := 47) hx hb dX1_weigh_66 (by decide) ?_
        exact ih _ _ _ _ _ hP hD hS (lv_sub hl [0, 1] rfl) hf
  refine L47 _ (fun x14 mA15 H locs ls hP hD hS hl hf => ?_) _ _ _ _ _ _ hP hD hS (lv_sub hl [0, 1] rfl) hf
  refine lv_aload_n hx hb dX1_weigh_69 rfl (lv_at hl 1 rfl) ?_
  refine va_get (D := D) (ci := 1) (v := .ref (aA 0)) (C := RX1) (T := TX1) (N := 10) hx hb hts iX1 hown hK hP 17 rfl rfl 2 (by decide) q0 (fun _ h9 => h9) rfl dX1_weigh_70 ?_
  obtain ⟨r16, hc, hf⟩ := kv_b1_e hf
  have hs9 : vv_Sub D H A (w_Told C aT mT ++ w_Mom C aT aA mA15) (w_Told C aT mT ++ w_Mom C aT aA mA15) (w_Told C aT mT ++ (w_Mom C aT aP mP ++ (w_Mom C aT aA mA15 ++ w_Hg C aT aP aA aH mH))) := vv_Sub.part (ws := (w_Told C aT mT ++ (w_Mom C aT aP mP ++ (w_Mom C aT aA mA15 ++ w_Hg C aT aP aA aH mH)))) (wr := (w_Mom C aT aP mP ++ w_Hg C aT aP aA aH mH)) [0, 1, 2, 3, 4, 5, 6, 12, 13, 14, 15, 16] [7, 8, 9, 10, 11, 17, 18, 19, 20, 21, 22, 23, 24, 25, 26, 27, 28] [17, 18, 19, 20, 21, 22, 23, 0, 1, 2, 3, 4, 24, 25, 26, 27, 28, 5, 6, 7, 8, 9, 10, 11, 12, 13, 14, 15, 16] hP hD hS hA rfl rfl (by decide) rfl
  refine vv_goi (wn := (w_Told C aT mT ++ (w_Mom C aT aP mP ++ (w_Mom C aT aA mA15 ++ w_Hg C aT aP aA aH mH)))) hK hs9 hS (vv_rV (As := []) (rest := []) hx hb hml hown hts hK hN hs9 (ccX3_allWater l D C H.size aT aA mT mA15 r16 hc) (cwV 0 hts gX1_weigh_X3_allWater rfl rfl rfl (by decide +kernel) ⟨Nat.le_of_ble_eq_true rfl, Nat.le_of_ble_eq_true rfl⟩) (va_recv hK hP (ci := 3) (q0 := 12) rfl rfl) rfl hl.1 rfl (Nat.le_of_ble_eq_true rfl) dX1_weigh_73 ⟨Nat.zero_le _, Nat.zero_le _⟩) (fun H locs hP hD hS => ?_)
  refine lv_istore_n (lv' := [(1, .int r16), (0, .ref (aH 0))]) hx hb dX1_weigh_76 rfl hl (by decide) rfl (fun ls hl => ?_)
  refine lv_iload_n hx hb dX1_weigh_77 rfl (lv_at hl 0 rfl) ?_
  refine lv_aload_n hx hb dX1_weigh_78 rfl (lv_at hl 1 rfl) ?_
  refine va_get (D := D) (ci := 1) (v := .int (mH 0 9)) (C := RX1) (T := TX1) (N := 10) hx hb hts iX1 hown hK hP 17 rfl rfl 9 (by decide) q7 (fun _ h9 => h9) rfl dX1_weigh_79 ?_
  refine lv_icmp_ge (tgt := 105) hx hb dX1_weigh_82 (by decide) (fun hc => ?_) (fun hc => ?_)
  · have hf := kv_t hc hf
    exact hret _ _ _ _ _ _ hf hP hD hS dX1_weigh_105
  · have hf := kv_f hc hf
    refine lv_aload_n hx hb dX1_weigh_85 rfl (lv_at hl 1 rfl) ?_
    refine lv_iload_n hx hb dX1_weigh_86 rfl (lv_at hl 0 rfl) ?_
    obtain ⟨mH17, emH17, hf⟩ := kv_lt_e hf
    refine va_put (D := D) (ci := 1) (v := .int r16) (ty := .int) (C := RX1) (T := TX1) (N := 10) hx hb hts iX1 tyX1 tyX1_ok nmX1 hown hK hP hD hS 17 rfl rfl 9 (by decide) q7 (fun _ h9 => h9) rfl (tyX1_ok 9 (by decide)) rfl rfl (Nat.le_of_ble_eq_true rfl) dX1_weigh_87 (fun H locs hP hD hS => ?_)
    have hP : va_P D vwCl (w_Told C aT mT ++ (w_Mom C aT aP mP ++ (w_Mom C aT aA mA15 ++ w_Hg C aT aP aA aH mH17))) H := by rw [emH17]; exact hP
    have hD : va_D A (w_Told C aT mT ++ (w_Mom C aT aP mP ++ (w_Mom C aT aA mA15 ++ w_Hg C aT aP aA aH mH17))) := by rw [emH17]; exact hD
    refine lv_aload_n hx hb dX1_weigh_90 rfl (lv_at hl 1 rfl) ?_
    refine va_get (D := D) (ci := 1) (v := .ref (aH 1)) (C := RX1) (T := TX1) (N := 10) hx hb hts iX1 hown hK hP 17 rfl rfl 3 (by decide) q5 (fun _ h9 => h9) rfl dX1_weigh_91 ?_
    refine lv_iconst (v := 0) hx hb dX1_weigh_94 (by decide) ?_
    refine lv_aload_n hx hb dX1_weigh_95 rfl (lv_at hl 1 rfl) ?_
    refine va_get (D := D) (ci := 1) (v := .ref (aH 5)) (C := RX1) (T := TX1) (N := 10) hx hb hts iX1 hown hK hP 17 rfl rfl 8 (by decide) q8 (fun _ h9 => h9) rfl dX1_weigh_96 ?_
    refine lv_iconst (v := 0) hx hb dX1_weigh_99 (by decide) ?_
    refine lv_bipush (v := 6) hx hb dX1_weigh_100 (by decide) ?_
    obtain ⟨mH18, emH18, hf⟩ := kv_lt_e hf
    refine va_copyi hx hb (hml.trans hl.1.symm) hown q9 q10 q11 q12 hK hP hD hS 18 22 1 1 rfl rfl rfl rfl rfl (by decide) (by decide) (by decide) (by decide) (by decide) (fun _ _ => rfl) (Nat.le_of_ble_eq_true rfl) (by decide +kernel) dX1_weigh_102 (fun H locs hP hD hS => ?_)
    have hP : va_P D vwCl (w_Told C aT mT ++ (w_Mom C aT aP mP ++ (w_Mom C aT aA mA15 ++ w_Hg C aT aP aA aH mH18))) H := by rw [emH18]; exact hP
    have hD : va_D A (w_Told C aT mT ++ (w_Mom C aT aP mP ++ (w_Mom C aT aA mA15 ++ w_Hg C aT aP aA aH mH18))) := by rw [emH18]; exact hD
    exact hret _ _ _ _ _ _ hf hP hD hS dX1_weigh_105
abbrev rX5_weigh : Room := { frames := 1, cells := 0, slots := 0, locals := 80 }
set_option maxHeartbeats 4000000 in
set_option maxRecDepth 100000 in
theorem ccX5_weigh (l : Launch) (D : va_G) (C : Nat → ClassId) (sz : Nat) (aT : Nat → Nat) (aP : Nat → Nat) (aK : Nat → Nat) (mK : Mm) (p0 : Int32) (oK : Mm) (hf : ffX5_weigh p0 mK = some (oK)) : Met l yX5_weigh wsX5_weigh rX5_weigh (va_Pc [.ref (aK 0), .int p0] (vv_pre D C (w_Tk C aT aP aK mK) sz)) (vv_QV D C (w_Tk C aT aP aK mK) (w_Tk C aT aP aK oK) sz) 0 0 (va_A (w_Tk C aT aP aK mK) sz) := by
  unfold ffX5_weigh at hf
  refine vv_metV (cc := cX5_weigh) (maxL := 2) (by decide) rfl (Nat.le_of_ble_eq_true rfl) ?_
  intro p e s m args below meth c A Q H locs ls hx hb hml hown hts hA hK hN hP hD hS hl hret
  have hown : s.vm.findClass RX5 = some m.cls := hown
  have hl : lv_has ls 2 [(0, .ref (aK 0)), (1, .int p0)] := hl
  have hret : ∀ (v0 : Mm) (H : Heap) (locs : List Loc) (ls : Array Slot) (pc : Nat), some (v0) = some (oK) → va_P D vwCl (w_Tk C aT aP aK v0) H → va_D A (w_Tk C aT aP aK v0) → va_S A s.heap H locs → decode cX5_weigh pc = .ok (.return_, 1) → W p l e rX5_weigh s m args below meth c H locs 0 0 Q (F0 m pc ls []) := by
    intro v0 H locs ls pc h0 h1 h2 h3 h4
    cases h0
    exact hret H locs ls pc h1 h2 h3 h4
  have q0 := hts (.fieldLink RX5 44 "ForeRain$TakingIn" "least" "I") (by decide +kernel)
  have q1 := hts (.fieldLink RX5 9 "ForeRain$TakingIn" "tried" "[I") (by decide +kernel)
  have q2 := hts (.fieldLink RX5 19 "ForeRain$TakingIn" "best" "[I") (by decide +kernel)
  have q3 := hts (.methodLink RX5 74 arraycopyName) (by decide +kernel)
  have q4 := hts (.native arraycopyName) (by decide +kernel)
  have q5 := hts (.static arraycopyName) (by decide +kernel)
  have q6 := hts (.initialized "java/lang/System") (by decide +kernel)
  have iX5 : ∀ w ∈ u_ws RX5 TX5 8, w ∈ wsX5_weigh := by decide +kernel
  refine lv_iload_n hx hb dX5_weigh_0 rfl (lv_at hl 1 rfl) ?_
  refine lv_aload_n hx hb dX5_weigh_1 rfl (lv_at hl 0 rfl) ?_
  refine va_get (D := D) (ci := 5) (v := .int (mK 0 7)) (C := RX5) (T := TX5) (N := 8) hx hb hts iX5 hown hK hP 0 rfl rfl 7 (by decide) q0 (fun _ h9 => h9) rfl dX5_weigh_2 ?_
  refine lv_icmp_ge (tgt := 28) hx hb dX5_weigh_5 (by decide) (fun hc => ?_) (fun hc => ?_)
  · have hf := kv_t hc hf
    exact hret _ _ _ _ _ hf hP hD hS dX5_weigh_28
  · have hf := kv_f hc hf
    refine lv_aload_n hx hb dX5_weigh_8 rfl (lv_at hl 0 rfl) ?_
    refine lv_iload_n hx hb dX5_weigh_9 rfl (lv_at hl 1 rfl) ?_
    obtain ⟨mK1, emK1, hf⟩ := kv_lt_e hf
    refine va_put (D := D) (ci := 5) (v := .int p0) (ty := .int) (C := RX5) (T := TX5) (N := 8) hx hb hts iX5 tyX5 tyX5_ok nmX5 hown hK hP hD hS 0 rfl rfl 7 (by decide) q0 (fun _ h9 => h9) rfl (tyX5_ok 7 (by decide)) rfl rfl (Nat.le_of_ble_eq_true rfl) dX5_weigh_10 (fun H locs hP hD hS => ?_)
    have hP : va_P D vwCl (w_Tk C aT aP aK mK1) H := by rw [emK1]; exact hP
    have hD : va_D A (w_Tk C aT aP aK mK1) := by rw [emK1]; exact hD
    refine lv_aload_n hx hb dX5_weigh_13 rfl (lv_at hl 0 rfl) ?_
    refine va_get (D := D) (ci := 5) (v := .ref (aK 1)) (C := RX5) (T := TX5) (N := 8) hx hb hts iX5 hown hK hP 0 rfl rfl 2 (by decide) q1 (fun _ h9 => h9) rfl dX5_weigh_14 ?_
    refine lv_iconst (v := 0) hx hb dX5_weigh_17 (by decide) ?_
    refine lv_aload_n hx hb dX5_weigh_18 rfl (lv_at hl 0 rfl) ?_
    refine va_get (D := D) (ci := 5) (v := .ref (aK 3)) (C := RX5) (T := TX5) (N := 8) hx hb hts iX5 hown hK hP 0 rfl rfl 5 (by decide) q2 (fun _ h9 => h9) rfl dX5_weigh_19 ?_
    refine lv_iconst (v := 0) hx hb dX5_weigh_22 (by decide) ?_
    refine lv_bipush (v := 6) hx hb dX5_weigh_23 (by decide) ?_
    obtain ⟨mK2, emK2, hf⟩ := kv_lt_e hf
    refine va_copyi hx hb (hml.trans hl.1.symm) hown q3 q4 q5 q6 hK hP hD hS 1 3 1 1 rfl rfl rfl rfl rfl (by decide) (by decide) (by decide) (by decide) (by decide) (fun _ _ => rfl) (Nat.le_of_ble_eq_true rfl) (by decide +kernel) dX5_weigh_25 (fun H locs hP hD hS => ?_)
    have hP : va_P D vwCl (w_Tk C aT aP aK mK2) H := by rw [emK2]; exact hP
    have hD : va_D A (w_Tk C aT aP aK mK2) := by rw [emK2]; exact hD
    exact hret _ _ _ _ _ hf hP hD hS dX5_weigh_28
