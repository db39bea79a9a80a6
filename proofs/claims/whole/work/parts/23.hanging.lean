abbrev rX1_withoutDamp : Room := { frames := 3, cells := 0, slots := 0, locals := 128 }
set_option maxHeartbeats 4000000 in
set_option maxRecDepth 100000 in
theorem ccX1_withoutDamp (l : Launch) (D : va_G) (C : Nat → ClassId) (sz : Nat) (aT : Nat → Nat) (aP : Nat → Nat) (aA : Nat → Nat) (aH : Nat → Nat) (mT : Mm) (mP : Mm) (mA : Mm) (mH : Mm) (p0 : Int32) (p1 : Int32) (rr : Int32) (oA : Mm) (hf : ffX1_withoutDamp p0 p1 mT mP mA mH = some (rr, oA)) : Met l yX1_withoutDamp wsX1_withoutDamp rX1_withoutDamp (va_Pc [.ref (aH 0), .int p0, .int p1] (vv_pre D C (w_Told C aT mT ++ (w_Mom C aT aP mP ++ (w_Mom C aT aA mA ++ w_Hg C aT aP aA aH mH))) sz)) (vv_QI D C (w_Told C aT mT ++ (w_Mom C aT aP mP ++ (w_Mom C aT aA mA ++ w_Hg C aT aP aA aH mH))) (w_Told C aT mT ++ (w_Mom C aT aP mP ++ (w_Mom C aT aA oA ++ w_Hg C aT aP aA aH mH))) sz rr) 0 0 (va_A (w_Told C aT mT ++ (w_Mom C aT aP mP ++ (w_Mom C aT aA mA ++ w_Hg C aT aP aA aH mH))) sz) := by
  unfold ffX1_withoutDamp at hf
  refine vv_metI (cc := cX1_withoutDamp) (maxL := 4) (ty := .int) (by decide) rfl (Nat.le_of_ble_eq_true rfl) ?_
  intro p e s m args below meth c A Q H locs ls hx hb hml hown hts hA hK hN hP hD hS hl hret
  have hown : s.vm.findClass RX1 = some m.cls := hown
  have hl : lv_has ls 4 [(0, .ref (aH 0)), (1, .int p0), (2, .int p1)] := hl
  have hret : ∀ (v0 : Int32) (v1 : Mm) (H : Heap) (locs : List Loc) (ls : Array Slot) (pc : Nat), some (v0, v1) = some (rr, oA) → narrow .int (.int v0) = .int v0 → va_P D vwCl (w_Told C aT mT ++ (w_Mom C aT aP mP ++ (w_Mom C aT aA v1 ++ w_Hg C aT aP aA aH mH))) H → va_D A (w_Told C aT mT ++ (w_Mom C aT aP mP ++ (w_Mom C aT aA v1 ++ w_Hg C aT aP aA aH mH))) → va_S A s.heap H locs → decode cX1_withoutDamp pc = .ok (.ireturn, 1) → W p l e rX1_withoutDamp s m args below meth c H locs 0 0 Q (F0 m pc ls [.int v0]) := by
    intro v0 v1 H locs ls pc h0 hn h1 h2 h3 h4
    cases h0
    exact hret H locs ls pc hn h1 h2 h3 h4
  have q0 := hts (.fieldLink RX1 38 "ForeRain$Hanging" "ahead" "LForeRain$Moment;") (by decide +kernel)
  have q1 := hts (.fieldLink RX1 34 "ForeRain$Hanging" "present" "LForeRain$Moment;") (by decide +kernel)
  have q2 := hts (.fieldLink RX1 86 "ForeRain$Moment" "place" "[I") (by decide +kernel)
  have q3 := hts (.fieldLink RX1 41 "ForeRain$Hanging" "steps" "I") (by decide +kernel)
  have q4 := hts (.fieldLink RX1 89 "ForeRain$Moment" "damp" "I") (by decide +kernel)
  have q5 := hts (.fieldLink RX1 61 "ForeRain$Moment" "water" "[I") (by decide +kernel)
  have iX1 : ∀ w ∈ u_ws RX1 TX1 10, w ∈ wsX1_withoutDamp := by decide +kernel
  have iX3 : ∀ w ∈ u_ws RX3 TX3 7, w ∈ wsX1_withoutDamp := by decide +kernel
  refine lv_aload_n hx hb dX1_withoutDamp_0 rfl (lv_at hl 0 rfl) ?_
  refine va_get (D := D) (ci := 1) (v := .ref (aA 0)) (C := RX1) (T := TX1) (N := 10) hx hb hts iX1 hown hK hP 17 rfl rfl 2 (by decide) q0 (fun _ h9 => h9) rfl dX1_withoutDamp_1 ?_
  refine lv_aload_n hx hb dX1_withoutDamp_4 rfl (lv_at hl 0 rfl) ?_
  refine va_get (D := D) (ci := 1) (v := .ref (aP 0)) (C := RX1) (T := TX1) (N := 10) hx hb hts iX1 hown hK hP 17 rfl rfl 1 (by decide) q1 (fun _ h9 => h9) rfl dX1_withoutDamp_5 ?_
  obtain ⟨mA1, hc, hf⟩ := kv_b1_e hf
  have hs9 : vv_Sub D H A (w_Told C aT mT ++ (w_Mom C aT aA mA ++ w_Mom C aT aP mP)) (w_Told C aT mT ++ (w_Mom C aT aA mA1 ++ w_Mom C aT aP mP)) (w_Told C aT mT ++ (w_Mom C aT aP mP ++ (w_Mom C aT aA mA1 ++ w_Hg C aT aP aA aH mH))) := vv_Sub.part (ws := (w_Told C aT mT ++ (w_Mom C aT aP mP ++ (w_Mom C aT aA mA ++ w_Hg C aT aP aA aH mH)))) (wr := (w_Hg C aT aP aA aH mH)) [0, 1, 2, 3, 4, 5, 6, 12, 13, 14, 15, 16, 7, 8, 9, 10, 11] [17, 18, 19, 20, 21, 22, 23, 24, 25, 26, 27, 28] [12, 13, 14, 15, 16, 17, 18, 24, 25, 26, 27, 28, 19, 20, 21, 22, 23, 0, 1, 2, 3, 4, 5, 6, 7, 8, 9, 10, 11] hP hD hS hA rfl rfl (by decide) rfl
  refine vv_gov (wn := (w_Told C aT mT ++ (w_Mom C aT aP mP ++ (w_Mom C aT aA mA1 ++ w_Hg C aT aP aA aH mH)))) hK hs9 hS (vv_rV (As := [.ref (aP 0)]) (rest := []) hx hb hml hown hts hK hN hS hs9 (ccX3_copy l D C H.size aT aA aP mT mA mP mA1 hc) (cwV 1 hts gX1_withoutDamp_X3_copy rfl rfl rfl (by decide +kernel) ⟨(Nat.le_of_ble_eq_true rfl), (Nat.le_of_ble_eq_true rfl)⟩) (va_recv hK hP (ci := 3) (q0 := 12) rfl rfl) rfl hl.1 rfl (Nat.le_of_ble_eq_true rfl) dX1_withoutDamp_8 ⟨Nat.zero_le _, Nat.zero_le _⟩) (fun H locs hP hD hS => ?_)
  refine lv_aload_n hx hb dX1_withoutDamp_11 rfl (lv_at hl 0 rfl) ?_
  refine va_get (D := D) (ci := 1) (v := .ref (aA 0)) (C := RX1) (T := TX1) (N := 10) hx hb hts iX1 hown hK hP 17 rfl rfl 2 (by decide) q0 (fun _ h9 => h9) rfl dX1_withoutDamp_12 ?_
  refine va_get (D := D) (ci := 3) (v := .ref (aA 3)) (C := RX3) (T := TX3) (N := 7) hx hb hts iX3 hown hK hP 12 rfl rfl 5 (by decide) q2 (fun _ h9 => h9) rfl dX1_withoutDamp_15 ?_
  refine lv_iload_n hx hb dX1_withoutDamp_18 rfl (lv_at hl 1 rfl) ?_
  refine lv_iload_n hx hb dX1_withoutDamp_19 rfl (lv_at hl 2 rfl) ?_
  obtain ⟨h9, hf⟩ := kv_ix_e hf
  obtain ⟨mA2, emA2, hf⟩ := kv_lt_e hf
  refine va_iast hx hb hK hP hD hS 15 1 rfl rfl h9 dX1_withoutDamp_20 (fun H locs hP hD hS => ?_)
  have hP : va_P D vwCl (w_Told C aT mT ++ (w_Mom C aT aP mP ++ (w_Mom C aT aA mA2 ++ w_Hg C aT aP aA aH mH))) H := by rw [emA2]; exact hP
  have hD : va_D A (w_Told C aT mT ++ (w_Mom C aT aP mP ++ (w_Mom C aT aA mA2 ++ w_Hg C aT aP aA aH mH))) := by rw [emA2]; exact hD
  refine lv_iconst (v := 0) hx hb dX1_withoutDamp_21 (by decide) ?_
  refine lv_istore_n (lv' := [(3, .int 0), (0, .ref (aH 0)), (1, .int p0), (2, .int p1)]) hx hb dX1_withoutDamp_22 rfl hl (by decide) rfl (fun ls hl => ?_)
  have L23 : ∀ (K23 : Int32 → Mm → Option (Int32 × Mm)), (∀ (x3 : Int32) (mA4 : Mm) (H : Heap) (locs : List Loc) (ls : Array Slot), va_P D vwCl (w_Told C aT mT ++ (w_Mom C aT aP mP ++ (w_Mom C aT aA mA4 ++ w_Hg C aT aP aA aH mH))) H → va_D A (w_Told C aT mT ++ (w_Mom C aT aP mP ++ (w_Mom C aT aA mA4 ++ w_Hg C aT aP aA aH mH))) → va_S A s.heap H locs → lv_has ls 4 [(3, .int x3), (0, .ref (aH 0)), (1, .int p0)] → K23 x3 mA4 = some (rr, oA) → W p l e rX1_withoutDamp s m args below meth c H locs 0 0 Q (F0 m 53 ls [])) → ∀ (n : Nat) (x3 : Int32) (mA4 : Mm) (H : Heap) (locs : List Loc) (ls : Array Slot), va_P D vwCl (w_Told C aT mT ++ (w_Mom C aT aP mP ++ (w_Mom C aT aA mA4 ++ w_Hg C aT aP aA aH mH))) H → va_D A (w_Told C aT mT ++ (w_Mom C aT aP mP ++ (w_Mom C aT aA mA4 ++ w_Hg C aT aP aA aH mH))) → va_S A s.heap H locs → lv_has ls 4 [(3, .int x3), (0, .ref (aH 0)), (1, .int p0)] → ffX1_withoutDamp_L23 mT mH K23 n x3 mA4 = some (rr, oA) → W p l e rX1_withoutDamp s m args below meth c H locs 0 0 Q (F0 m 23 ls []) := by
    intro K23 hK9 n
    induction n with
    | zero => intro x3 mA4 H locs ls hP hD hS hl hf; exact kv_no hf
    | succ n ih =>
      intro x3 mA4 H locs ls hP hD hS hl hf
      rw [ffX1_withoutDamp_L23_s] at hf
      refine lv_iload_n hx hb dX1_withoutDamp_23 rfl (lv_at hl 0 rfl) ?_
      refine lv_aload_n hx hb dX1_withoutDamp_24 rfl (lv_at hl 1 rfl) ?_
      refine va_get (D := D) (ci := 1) (v := .int (mH 0 7)) (C := RX1) (T := TX1) (N := 10) hx hb hts iX1 hown hK hP 17 rfl rfl 7 (by decide) q3 (fun _ h9 => h9) rfl dX1_withoutDamp_25 ?_
      refine lv_icmp_ge (tgt := 53) hx hb dX1_withoutDamp_28 (by decide) (fun hc => ?_) (fun hc => ?_)
      · have hf := kv_t hc hf
        exact hK9 _ _ _ _ _ hP hD hS (lv_sub hl [0, 1, 2] rfl) hf
      · have hf := kv_f hc hf
        refine lv_aload_n hx hb dX1_withoutDamp_31 rfl (lv_at hl 1 rfl) ?_
        refine va_get (D := D) (ci := 1) (v := .ref (aA 0)) (C := RX1) (T := TX1) (N := 10) hx hb hts iX1 hown hK hP 17 rfl rfl 2 (by decide) q0 (fun _ h9 => h9) rfl dX1_withoutDamp_32 ?_
        refine lv_iconst (v := 0) hx hb dX1_withoutDamp_35 (by decide) ?_
        obtain ⟨mA5, emA5, hf⟩ := kv_lt_e hf
        refine va_put (D := D) (ci := 3) (v := .int 0) (ty := .int) (C := RX3) (T := TX3) (N := 7) hx hb hts iX3 tyX3 tyX3_ok nmX3 hown hK hP hD hS 12 rfl rfl 2 (by decide) q4 (fun _ h9 => h9) rfl (tyX3_ok 2 (by decide)) rfl rfl (Nat.le_of_ble_eq_true rfl) dX1_withoutDamp_36 (fun H locs hP hD hS => ?_)
        have hP : va_P D vwCl (w_Told C aT mT ++ (w_Mom C aT aP mP ++ (w_Mom C aT aA mA5 ++ w_Hg C aT aP aA aH mH))) H := by rw [emA5]; exact hP
        have hD : va_D A (w_Told C aT mT ++ (w_Mom C aT aP mP ++ (w_Mom C aT aA mA5 ++ w_Hg C aT aP aA aH mH))) := by rw [emA5]; exact hD
        refine lv_aload_n hx hb dX1_withoutDamp_39 rfl (lv_at hl 1 rfl) ?_
        refine va_get (D := D) (ci := 1) (v := .ref (aA 0)) (C := RX1) (T := TX1) (N := 10) hx hb hts iX1 hown hK hP 17 rfl rfl 2 (by decide) q0 (fun _ h9 => h9) rfl dX1_withoutDamp_40 ?_
        obtain ⟨r6, mA7, hc, hf⟩ := kv_b2_e hf
        have hs9 : vv_Sub D H A (w_Told C aT mT ++ w_Mom C aT aA mA5) (w_Told C aT mT ++ w_Mom C aT aA mA7) (w_Told C aT mT ++ (w_Mom C aT aP mP ++ (w_Mom C aT aA mA7 ++ w_Hg C aT aP aA aH mH))) := vv_Sub.part (ws := (w_Told C aT mT ++ (w_Mom C aT aP mP ++ (w_Mom C aT aA mA5 ++ w_Hg C aT aP aA aH mH)))) (wr := (w_Mom C aT aP mP ++ w_Hg C aT aP aA aH mH)) [0, 1, 2, 3, 4, 5, 6, 12, 13, 14, 15, 16] [7, 8, 9, 10, 11, 17, 18, 19, 20, 21, 22, 23, 24, 25, 26, 27, 28] [17, 18, 19, 20, 21, 22, 23, 0, 1, 2, 3, 4, 24, 25, 26, 27, 28, 5, 6, 7, 8, 9, 10, 11, 12, 13, 14, 15, 16] hP hD hS hA rfl rfl (by decide) rfl
        refine vv_goi (wn := (w_Told C aT mT ++ (w_Mom C aT aP mP ++ (w_Mom C aT aA mA7 ++ w_Hg C aT aP aA aH mH)))) hK hs9 hS (vv_rV (As := []) (rest := []) hx hb hml hown hts hK hN hS hs9 (ccX3_pass l D C H.size aT aA mT mA5 r6 mA7 hc) (cwV 0 hts gX1_withoutDamp_X3_pass rfl rfl rfl (by decide +kernel) ⟨(Nat.le_of_ble_eq_true rfl), (Nat.le_of_ble_eq_true rfl)⟩) (va_recv hK hP (ci := 3) (q0 := 12) rfl rfl) rfl hl.1 rfl (Nat.le_of_ble_eq_true rfl) dX1_withoutDamp_43 ⟨Nat.zero_le _, Nat.zero_le _⟩) (fun H locs hP hD hS => ?_)
        refine lv_pop hx hb dX1_withoutDamp_46 rfl ?_
        obtain ⟨x8, ex8, hf⟩ := kv_lt_e hf
        refine lv_iinc (v := x8) (lv' := [(3, .int x8), (0, .ref (aH 0)), (1, .int p0)]) hx hb dX1_withoutDamp_47 hl (k := 0) rfl (by rw [ex8]; rfl) (by decide) rfl (fun ls hl => ?_)
        refine lv_goto (tgt := 23) hx hb dX1_withoutDamp_50 (by decide) ?_
        exact ih _ _ _ _ _ hP hD hS (lv_sub hl [0, 1, 2] rfl) hf
  refine L23 _ (fun x9 mA10 H locs ls hP hD hS hl hf => ?_) _ _ _ _ _ _ hP hD hS (lv_sub hl [0, 1, 2] rfl) hf
  refine lv_aload_n hx hb dX1_withoutDamp_53 rfl (lv_at hl 1 rfl) ?_
  refine va_get (D := D) (ci := 1) (v := .ref (aA 0)) (C := RX1) (T := TX1) (N := 10) hx hb hts iX1 hown hK hP 17 rfl rfl 2 (by decide) q0 (fun _ h9 => h9) rfl dX1_withoutDamp_54 ?_
  refine va_get (D := D) (ci := 3) (v := .ref (aA 1)) (C := RX3) (T := TX3) (N := 7) hx hb hts iX3 hown hK hP 12 rfl rfl 3 (by decide) q5 (fun _ h9 => h9) rfl dX1_withoutDamp_57 ?_
  refine lv_iload_n hx hb dX1_withoutDamp_60 rfl (lv_at hl 2 rfl) ?_
  obtain ⟨h9, hf⟩ := kv_ix_e hf
  refine va_iald hx hb hK hP 13 1 rfl rfl h9 dX1_withoutDamp_61 ?_
  exact hret _ _ _ _ _ _ hf rfl hP hD hS dX1_withoutDamp_62
abbrev rX1_findLowest : Room := { frames := 4, cells := 0, slots := 0, locals := 151 }
set_option maxHeartbeats 4000000 in
set_option maxRecDepth 100000 in
theorem ccX1_findLowest (l : Launch) (D : va_G) (C : Nat → ClassId) (sz : Nat) (aT : Nat → Nat) (aP : Nat → Nat) (aA : Nat → Nat) (aH : Nat → Nat) (mT : Mm) (mP : Mm) (mA : Mm) (mH : Mm) (oA : Mm) (oH : Mm) (hf : ffX1_findLowest mT mP mA mH = some (oA, oH)) : Met l yX1_findLowest wsX1_findLowest rX1_findLowest (va_Pc [.ref (aH 0)] (vv_pre D C (w_Told C aT mT ++ (w_Mom C aT aP mP ++ (w_Mom C aT aA mA ++ w_Hg C aT aP aA aH mH))) sz)) (vv_QV D C (w_Told C aT mT ++ (w_Mom C aT aP mP ++ (w_Mom C aT aA mA ++ w_Hg C aT aP aA aH mH))) (w_Told C aT mT ++ (w_Mom C aT aP mP ++ (w_Mom C aT aA oA ++ w_Hg C aT aP aA aH oH))) sz) 0 0 (va_A (w_Told C aT mT ++ (w_Mom C aT aP mP ++ (w_Mom C aT aA mA ++ w_Hg C aT aP aA aH mH))) sz) := by
  unfold ffX1_findLowest at hf
  refine vv_metV (cc := cX1_findLowest) (maxL := 4) (by decide) rfl (Nat.le_of_ble_eq_true rfl) ?_
  intro p e s m args below meth c A Q H locs ls hx hb hml hown hts hA hK hN hP hD hS hl hret
  have hown : s.vm.findClass RX1 = some m.cls := hown
  have hl : lv_has ls 4 [(0, .ref (aH 0))] := hl
  have hret : ∀ (v0 : Mm) (v1 : Mm) (H : Heap) (locs : List Loc) (ls : Array Slot) (pc : Nat), some (v0, v1) = some (oA, oH) → va_P D vwCl (w_Told C aT mT ++ (w_Mom C aT aP mP ++ (w_Mom C aT aA v0 ++ w_Hg C aT aP aA aH v1))) H → va_D A (w_Told C aT mT ++ (w_Mom C aT aP mP ++ (w_Mom C aT aA v0 ++ w_Hg C aT aP aA aH v1))) → va_S A s.heap H locs → decode cX1_findLowest pc = .ok (.return_, 1) → W p l e rX1_findLowest s m args below meth c H locs 0 0 Q (F0 m pc ls []) := by
    intro v0 v1 H locs ls pc h0 h1 h2 h3 h4
    cases h0
    exact hret H locs ls pc h1 h2 h3 h4
  have q0 := hts (.fieldLink RX1 24 "ForeRain$Hanging" "lowestFrom" "[I") (by decide +kernel)
  have q1 := hts (.fieldLink RX1 30 "ForeRain$Hanging" "told" "LForeRain$Told;") (by decide +kernel)
  have q2 := hts (.fieldLink RX1 56 "ForeRain$Told" "pieces" "I") (by decide +kernel)
  have q3 := hts (.fieldLink RX1 34 "ForeRain$Hanging" "present" "LForeRain$Moment;") (by decide +kernel)
  have q4 := hts (.fieldLink RX1 61 "ForeRain$Moment" "water" "[I") (by decide +kernel)
  have q5 := hts (.fieldLink RX1 21 "ForeRain$Hanging" "lowest" "[[I") (by decide +kernel)
  have q6 := hts (.fieldLink RX1 66 "ForeRain$Told" "spots" "I") (by decide +kernel)
  have q7 := hts (.methodLink RX1 77 Lib.Math.min.name) (by decide +kernel)
  have q8 := hts (.static Lib.Math.min.name) (by decide +kernel)
  have q9 := hts (.initialized "java/lang/Math") (by decide +kernel)
  have q10 := hts (.code Lib.Math.min.name Lib.Math.min.code 2 (some .int)) (by decide +kernel)
  have iX1 : ∀ w ∈ u_ws RX1 TX1 10, w ∈ wsX1_findLowest := by decide +kernel
  have iX6 : ∀ w ∈ u_ws RX6 TX6 9, w ∈ wsX1_findLowest := by decide +kernel
  have iX3 : ∀ w ∈ u_ws RX3 TX3 7, w ∈ wsX1_findLowest := by decide +kernel
  refine lv_aload_n hx hb dX1_findLowest_0 rfl (lv_at hl 0 rfl) ?_
  refine va_get (D := D) (ci := 1) (v := .ref (aH 4)) (C := RX1) (T := TX1) (N := 10) hx hb hts iX1 hown hK hP 17 rfl rfl 6 (by decide) q0 (fun _ h9 => h9) rfl dX1_findLowest_1 ?_
  refine lv_aload_n hx hb dX1_findLowest_4 rfl (lv_at hl 0 rfl) ?_
  refine va_get (D := D) (ci := 1) (v := .ref (aT 0)) (C := RX1) (T := TX1) (N := 10) hx hb hts iX1 hown hK hP 17 rfl rfl 0 (by decide) q1 (fun _ h9 => h9) rfl dX1_findLowest_5 ?_
  refine va_get (D := D) (ci := 6) (v := .int (mT 0 0)) (C := RX6) (T := TX6) (N := 9) hx hb hts iX6 hown hK hP 0 rfl rfl 0 (by decide) q2 (fun _ h9 => h9) rfl dX1_findLowest_8 ?_
  refine lv_iconst (v := 0) hx hb dX1_findLowest_11 (by decide) ?_
  obtain ⟨h9, hf⟩ := kv_ix_e hf
  obtain ⟨mH1, emH1, hf⟩ := kv_lt_e hf
  refine va_iast hx hb hK hP hD hS 21 1 rfl rfl h9 dX1_findLowest_12 (fun H locs hP hD hS => ?_)
  have hP : va_P D vwCl (w_Told C aT mT ++ (w_Mom C aT aP mP ++ (w_Mom C aT aA mA ++ w_Hg C aT aP aA aH mH1))) H := by rw [emH1]; exact hP
  have hD : va_D A (w_Told C aT mT ++ (w_Mom C aT aP mP ++ (w_Mom C aT aA mA ++ w_Hg C aT aP aA aH mH1))) := by rw [emH1]; exact hD
  refine lv_aload_n hx hb dX1_findLowest_13 rfl (lv_at hl 0 rfl) ?_
  refine va_get (D := D) (ci := 1) (v := .ref (aT 0)) (C := RX1) (T := TX1) (N := 10) hx hb hts iX1 hown hK hP 17 rfl rfl 0 (by decide) q1 (fun _ h9 => h9) rfl dX1_findLowest_14 ?_
  refine va_get (D := D) (ci := 6) (v := .int (mT 0 0)) (C := RX6) (T := TX6) (N := 9) hx hb hts iX6 hown hK hP 0 rfl rfl 0 (by decide) q2 (fun _ h9 => h9) rfl dX1_findLowest_17 ?_
  refine lv_iconst (v := 1) hx hb dX1_findLowest_20 (by decide) ?_
  refine lv_isub hx hb dX1_findLowest_21 ?_
  obtain ⟨x2, ex2, hf⟩ := kv_lt_e hf
  refine vv_nami ex2 ?_
  refine lv_istore_n (lv' := [(1, .int x2), (0, .ref (aH 0))]) hx hb dX1_findLowest_22 rfl hl (by decide) rfl (fun ls hl => ?_)
  have L23 : ∀ (K23 : Int32 → Mm → Mm → Option (Mm × Mm)), (∀ (x3 : Int32) (mA4 : Mm) (mH5 : Mm) (H : Heap) (locs : List Loc) (ls : Array Slot), va_P D vwCl (w_Told C aT mT ++ (w_Mom C aT aP mP ++ (w_Mom C aT aA mA4 ++ w_Hg C aT aP aA aH mH5))) H → va_D A (w_Told C aT mT ++ (w_Mom C aT aP mP ++ (w_Mom C aT aA mA4 ++ w_Hg C aT aP aA aH mH5))) → va_S A s.heap H locs → lv_has ls 4 [(1, .int x3), (0, .ref (aH 0))] → K23 x3 mA4 mH5 = some (oA, oH) → W p l e rX1_findLowest s m args below meth c H locs 0 0 Q (F0 m 134 ls [])) → ∀ (n : Nat) (x3 : Int32) (mA4 : Mm) (mH5 : Mm) (H : Heap) (locs : List Loc) (ls : Array Slot), va_P D vwCl (w_Told C aT mT ++ (w_Mom C aT aP mP ++ (w_Mom C aT aA mA4 ++ w_Hg C aT aP aA aH mH5))) H → va_D A (w_Told C aT mT ++ (w_Mom C aT aP mP ++ (w_Mom C aT aA mA4 ++ w_Hg C aT aP aA aH mH5))) → va_S A s.heap H locs → lv_has ls 4 [(1, .int x3), (0, .ref (aH 0))] → ffX1_findLowest_L23 mT mP K23 n x3 mA4 mH5 = some (oA, oH) → W p l e rX1_findLowest s m args below meth c H locs 0 0 Q (F0 m 23 ls []) := by
    intro K23 hK9 n
    induction n with
    | zero => intro x3 mA4 mH5 H locs ls hP hD hS hl hf; exact kv_no hf
    | succ n ih =>
      intro x3 mA4 mH5 H locs ls hP hD hS hl hf
      rw [ffX1_findLowest_L23_s] at hf
      refine lv_iload_n hx hb dX1_findLowest_23 rfl (lv_at hl 0 rfl) ?_
      refine lv_if_lt (tgt := 134) hx hb dX1_findLowest_24 (by decide) (fun hc => ?_) (fun hc => ?_)
      · have hf := kv_t hc hf
        exact hK9 _ _ _ _ _ _ hP hD hS (lv_sub hl [0, 1] rfl) hf
      · have hf := kv_f hc hf
        refine lv_aload_n hx hb dX1_findLowest_27 rfl (lv_at hl 1 rfl) ?_
        refine va_get (D := D) (ci := 1) (v := .ref (aP 0)) (C := RX1) (T := TX1) (N := 10) hx hb hts iX1 hown hK hP 17 rfl rfl 1 (by decide) q3 (fun _ h9 => h9) rfl dX1_findLowest_28 ?_
        refine va_get (D := D) (ci := 3) (v := .ref (aP 1)) (C := RX3) (T := TX3) (N := 7) hx hb hts iX3 hown hK hP 7 rfl rfl 3 (by decide) q4 (fun _ h9 => h9) rfl dX1_findLowest_31 ?_
        refine lv_iload_n hx hb dX1_findLowest_34 rfl (lv_at hl 0 rfl) ?_
        obtain ⟨h9, hf⟩ := kv_ix_e hf
        refine va_iald hx hb hK hP 8 1 rfl rfl h9 dX1_findLowest_35 ?_
        obtain ⟨x6, ex6, hf⟩ := kv_lt_e hf
        refine vv_nami ex6 ?_
        refine lv_istore_n (lv' := [(2, .int x6), (1, .int x3), (0, .ref (aH 0))]) hx hb dX1_findLowest_36 rfl hl (by decide) rfl (fun ls hl => ?_)
        refine lv_aload_n hx hb dX1_findLowest_37 rfl (lv_at hl 2 rfl) ?_
        refine va_get (D := D) (ci := 1) (v := .ref (aH 3)) (C := RX1) (T := TX1) (N := 10) hx hb hts iX1 hown hK hP 17 rfl rfl 5 (by decide) q5 (fun _ h9 => h9) rfl dX1_findLowest_38 ?_
        refine lv_iload_n hx hb dX1_findLowest_41 rfl (lv_at hl 1 rfl) ?_
        obtain ⟨hw7, hf⟩ := kv_ix_e hf
        refine vv_aldA hx hb hK hP 20 4 rfl rfl hw7 (vv_if6 hw7) dX1_findLowest_42 ?_
        refine lv_iconst (v := 5) hx hb dX1_findLowest_43 (by decide) ?_
        refine lv_aload_n hx hb dX1_findLowest_44 rfl (lv_at hl 2 rfl) ?_
        refine va_get (D := D) (ci := 1) (v := .ref (aP 0)) (C := RX1) (T := TX1) (N := 10) hx hb hts iX1 hown hK hP 17 rfl rfl 1 (by decide) q3 (fun _ h9 => h9) rfl dX1_findLowest_45 ?_
        refine va_get (D := D) (ci := 3) (v := .ref (aP 1)) (C := RX3) (T := TX3) (N := 7) hx hb hts iX3 hown hK hP 7 rfl rfl 3 (by decide) q4 (fun _ h9 => h9) rfl dX1_findLowest_48 ?_
        refine lv_iload_n hx hb dX1_findLowest_51 rfl (lv_at hl 1 rfl) ?_
        obtain ⟨h9, hf⟩ := kv_ix_e hf
        refine va_iald hx hb hK hP 8 1 rfl rfl h9 dX1_findLowest_52 ?_
        obtain ⟨x8, ex8, hf⟩ := kv_lt_e hf
        refine vv_nami ex8 ?_
        obtain ⟨h9, hf⟩ := kv_ix_e hf
        obtain ⟨mH9, emH9, hf⟩ := kv_lt_e hf
        refine va_iast hx hb hK hP hD hS (23 + x3.toNatClampNeg) 1 (vv_rowget C aT aP aA aH _ _ _ _ (vv_lt hw7)) rfl h9 dX1_findLowest_53 (fun H locs hP hD hS => ?_)
        rw [vv_rowset C aT aP aA aH _ _ _ _ (vv_lt hw7)] at hP hD
        have hP : va_P D vwCl (w_Told C aT mT ++ (w_Mom C aT aP mP ++ (w_Mom C aT aA mA4 ++ w_Hg C aT aP aA aH mH9))) H := by rw [emH9]; exact hP
        have hD : va_D A (w_Told C aT mT ++ (w_Mom C aT aP mP ++ (w_Mom C aT aA mA4 ++ w_Hg C aT aP aA aH mH9))) := by rw [emH9]; exact hD
        refine lv_iconst (v := 0) hx hb dX1_findLowest_54 (by decide) ?_
        refine lv_istore_n (lv' := [(3, .int 0), (2, .int x6), (1, .int x3), (0, .ref (aH 0))]) hx hb dX1_findLowest_55 rfl hl (by decide) rfl (fun ls hl => ?_)
        have L56 : ∀ (K56 : Int32 → Int32 → Mm → Mm → Option (Mm × Mm)), (∀ (x10 : Int32) (x11 : Int32) (mA12 : Mm) (mH13 : Mm) (H : Heap) (locs : List Loc) (ls : Array Slot), va_P D vwCl (w_Told C aT mT ++ (w_Mom C aT aP mP ++ (w_Mom C aT aA mA12 ++ w_Hg C aT aP aA aH mH13))) H → va_D A (w_Told C aT mT ++ (w_Mom C aT aP mP ++ (w_Mom C aT aA mA12 ++ w_Hg C aT aP aA aH mH13))) → va_S A s.heap H locs → lv_has ls 4 [(3, .int x10), (2, .int x11), (1, .int x3), (0, .ref (aH 0))] → K56 x10 x11 mA12 mH13 = some (oA, oH) → W p l e rX1_findLowest s m args below meth c H locs 0 0 Q (F0 m 112 ls [])) → ∀ (n : Nat) (x10 : Int32) (x11 : Int32) (mA12 : Mm) (mH13 : Mm) (H : Heap) (locs : List Loc) (ls : Array Slot), va_P D vwCl (w_Told C aT mT ++ (w_Mom C aT aP mP ++ (w_Mom C aT aA mA12 ++ w_Hg C aT aP aA aH mH13))) H → va_D A (w_Told C aT mT ++ (w_Mom C aT aP mP ++ (w_Mom C aT aA mA12 ++ w_Hg C aT aP aA aH mH13))) → va_S A s.heap H locs → lv_has ls 4 [(3, .int x10), (2, .int x11), (1, .int x3), (0, .ref (aH 0))] → ffX1_findLowest_L56 mT mP x3 K56 n x10 x11 mA12 mH13 = some (oA, oH) → W p l e rX1_findLowest s m args below meth c H locs 0 0 Q (F0 m 56 ls []) := by
          intro K56 hK9 n
          induction n with
          | zero => intro x10 x11 mA12 mH13 H locs ls hP hD hS hl hf; exact kv_no hf
          | succ n ih =>
            intro x10 x11 mA12 mH13 H locs ls hP hD hS hl hf
            rw [ffX1_findLowest_L56_s] at hf
            refine lv_iload_n hx hb dX1_findLowest_56 rfl (lv_at hl 0 rfl) ?_
            refine lv_aload_n hx hb dX1_findLowest_57 rfl (lv_at hl 3 rfl) ?_
            refine va_get (D := D) (ci := 1) (v := .ref (aT 0)) (C := RX1) (T := TX1) (N := 10) hx hb hts iX1 hown hK hP 17 rfl rfl 0 (by decide) q1 (fun _ h9 => h9) rfl dX1_findLowest_58 ?_
            refine va_get (D := D) (ci := 6) (v := .int (mT 0 1)) (C := RX6) (T := TX6) (N := 9) hx hb hts iX6 hown hK hP 0 rfl rfl 1 (by decide) q6 (fun _ h9 => h9) rfl dX1_findLowest_61 ?_
            refine lv_icmp_ge (tgt := 112) hx hb dX1_findLowest_64 (by decide) (fun hc => ?_) (fun hc => ?_)
            · have hf := kv_t hc hf
              exact hK9 _ _ _ _ _ _ _ hP hD hS (lv_sub hl [0, 1, 2, 3] rfl) hf
            · have hf := kv_f hc hf
              refine lv_aload_n hx hb dX1_findLowest_67 rfl (lv_at hl 3 rfl) ?_
              refine va_get (D := D) (ci := 1) (v := .ref (aT 0)) (C := RX1) (T := TX1) (N := 10) hx hb hts iX1 hown hK hP 17 rfl rfl 0 (by decide) q1 (fun _ h9 => h9) rfl dX1_findLowest_68 ?_
              refine lv_iload_n hx hb dX1_findLowest_71 rfl (lv_at hl 2 rfl) ?_
              refine lv_iload_n hx hb dX1_findLowest_72 rfl (lv_at hl 0 rfl) ?_
              obtain ⟨r14, hc, hf⟩ := kv_b1_e hf
              have hs9 : vv_Sub D H A (w_Told C aT mT) (w_Told C aT mT) (w_Told C aT mT ++ (w_Mom C aT aP mP ++ (w_Mom C aT aA mA12 ++ w_Hg C aT aP aA aH mH13))) := vv_Sub.part (ws := (w_Told C aT mT ++ (w_Mom C aT aP mP ++ (w_Mom C aT aA mA12 ++ w_Hg C aT aP aA aH mH13)))) (wr := (w_Mom C aT aP mP ++ (w_Mom C aT aA mA12 ++ w_Hg C aT aP aA aH mH13))) [0, 1, 2, 3, 4, 5, 6] [7, 8, 9, 10, 11, 12, 13, 14, 15, 16, 17, 18, 19, 20, 21, 22, 23, 24, 25, 26, 27, 28] [22, 23, 24, 25, 26, 27, 28, 0, 1, 2, 3, 4, 5, 6, 7, 8, 9, 10, 11, 12, 13, 14, 15, 16, 17, 18, 19, 20, 21] hP hD hS hA rfl rfl (by decide) rfl
              refine vv_goi (wn := (w_Told C aT mT ++ (w_Mom C aT aP mP ++ (w_Mom C aT aA mA12 ++ w_Hg C aT aP aA aH mH13)))) hK hs9 hS (vv_rV (As := [.int x3, .int x10]) (rest := []) hx hb hml hown hts hK hN hS hs9 (ccX6_fits l D C H.size aT mT x3 x10 r14 hc) (cwV 2 hts gX1_findLowest_X6_fits rfl rfl rfl (by decide +kernel) ⟨(Nat.le_of_ble_eq_true rfl), (Nat.le_of_ble_eq_true rfl)⟩) (va_recv hK hP (ci := 6) (q0 := 0) rfl rfl) rfl hl.1 rfl (Nat.le_of_ble_eq_true rfl) dX1_findLowest_73 ⟨Nat.zero_le _, Nat.zero_le _⟩) (fun H locs hP hD hS => ?_)
              refine lv_if_eq (tgt := 106) hx hb dX1_findLowest_76 (by decide) (fun hc => ?_) (fun hc => ?_)
              · have hf := kv_t hc hf
                obtain ⟨x15, ex15, hf⟩ := kv_lt_e hf
                refine lv_iinc (v := x15) (lv' := [(3, .int x15), (2, .int x11), (1, .int x3), (0, .ref (aH 0))]) hx hb dX1_findLowest_106 hl (k := 0) rfl (by rw [ex15]; rfl) (by decide) rfl (fun ls hl => ?_)
                refine lv_goto (tgt := 56) hx hb dX1_findLowest_109 (by decide) ?_
                exact ih _ _ _ _ _ _ _ hP hD hS (lv_sub hl [0, 1, 2, 3] rfl) hf
              · have hf := kv_f hc hf
                refine lv_aload_n hx hb dX1_findLowest_79 rfl (lv_at hl 3 rfl) ?_
                refine va_get (D := D) (ci := 1) (v := .ref (aH 3)) (C := RX1) (T := TX1) (N := 10) hx hb hts iX1 hown hK hP 17 rfl rfl 5 (by decide) q5 (fun _ h9 => h9) rfl dX1_findLowest_80 ?_
                refine lv_iload_n hx hb dX1_findLowest_83 rfl (lv_at hl 2 rfl) ?_
                obtain ⟨hw16, hf⟩ := kv_ix_e hf
                refine vv_aldA hx hb hK hP 20 4 rfl rfl hw16 (vv_if6 hw16) dX1_findLowest_84 ?_
                refine lv_iload_n hx hb dX1_findLowest_85 rfl (lv_at hl 0 rfl) ?_
                refine lv_aload_n hx hb dX1_findLowest_86 rfl (lv_at hl 3 rfl) ?_
                refine lv_iload_n hx hb dX1_findLowest_87 rfl (lv_at hl 2 rfl) ?_
                refine lv_iload_n hx hb dX1_findLowest_88 rfl (lv_at hl 0 rfl) ?_
                obtain ⟨r17, mA18, hc, hf⟩ := kv_b2_e hf
                have hs9 : vv_Sub D H A (w_Told C aT mT ++ (w_Mom C aT aP mP ++ (w_Mom C aT aA mA12 ++ w_Hg C aT aP aA aH mH13))) (w_Told C aT mT ++ (w_Mom C aT aP mP ++ (w_Mom C aT aA mA18 ++ w_Hg C aT aP aA aH mH13))) (w_Told C aT mT ++ (w_Mom C aT aP mP ++ (w_Mom C aT aA mA18 ++ w_Hg C aT aP aA aH mH13))) := vv_Sub.same (w_Told C aT mT ++ (w_Mom C aT aP mP ++ (w_Mom C aT aA mA18 ++ w_Hg C aT aP aA aH mH13))) hP hD hS hA
                refine vv_goi (wn := (w_Told C aT mT ++ (w_Mom C aT aP mP ++ (w_Mom C aT aA mA18 ++ w_Hg C aT aP aA aH mH13)))) hK hs9 hS (vv_rV (As := [.int x3, .int x10]) (rest := [.int x10, .ref (aH (6 + x3.toNatClampNeg))]) hx hb hml hown hts hK hN hS hs9 (ccX1_withoutDamp l D C H.size aT aP aA aH mT mP mA12 mH13 x3 x10 r17 mA18 hc) (cwV 2 hts gX1_findLowest_X1_withoutDamp rfl rfl rfl (by decide +kernel) ⟨(Nat.le_of_ble_eq_true rfl), (Nat.le_of_ble_eq_true rfl)⟩) (va_recv hK hP (ci := 1) (q0 := 17) rfl rfl) rfl hl.1 rfl (Nat.le_of_ble_eq_true rfl) dX1_findLowest_89 ⟨Nat.zero_le _, Nat.zero_le _⟩) (fun H locs hP hD hS => ?_)
                obtain ⟨h9, hf⟩ := kv_ix_e hf
                obtain ⟨mH19, emH19, hf⟩ := kv_lt_e hf
                refine va_iast hx hb hK hP hD hS (23 + x3.toNatClampNeg) 1 (vv_rowget C aT aP aA aH _ _ _ _ (vv_lt hw16)) rfl h9 dX1_findLowest_92 (fun H locs hP hD hS => ?_)
                rw [vv_rowset C aT aP aA aH _ _ _ _ (vv_lt hw16)] at hP hD
                have hP : va_P D vwCl (w_Told C aT mT ++ (w_Mom C aT aP mP ++ (w_Mom C aT aA mA18 ++ w_Hg C aT aP aA aH mH19))) H := by rw [emH19]; exact hP
                have hD : va_D A (w_Told C aT mT ++ (w_Mom C aT aP mP ++ (w_Mom C aT aA mA18 ++ w_Hg C aT aP aA aH mH19))) := by rw [emH19]; exact hD
                refine lv_iload_n hx hb dX1_findLowest_93 rfl (lv_at hl 1 rfl) ?_
                refine lv_aload_n hx hb dX1_findLowest_94 rfl (lv_at hl 3 rfl) ?_
                refine va_get (D := D) (ci := 1) (v := .ref (aH 3)) (C := RX1) (T := TX1) (N := 10) hx hb hts iX1 hown hK hP 17 rfl rfl 5 (by decide) q5 (fun _ h9 => h9) rfl dX1_findLowest_95 ?_
                refine lv_iload_n hx hb dX1_findLowest_98 rfl (lv_at hl 2 rfl) ?_
                obtain ⟨hw20, hf⟩ := kv_ix_e hf
                refine vv_aldA hx hb hK hP 20 4 rfl rfl hw20 (vv_if6 hw20) dX1_findLowest_99 ?_
                refine lv_iload_n hx hb dX1_findLowest_100 rfl (lv_at hl 0 rfl) ?_
                obtain ⟨h9, hf⟩ := kv_ix_e hf
                refine va_iald hx hb hK hP (23 + x3.toNatClampNeg) 1 (vv_rowget C aT aP aA aH _ _ _ _ (vv_lt hw20)) rfl h9 dX1_findLowest_101 ?_
                refine va_mmin hx hb (hml.trans hl.1.symm) hown q7 q8 q9 q10 (Nat.le_of_ble_eq_true rfl) (Nat.le_of_ble_eq_true rfl) (Nat.zero_le _) (Nat.zero_le _) dX1_findLowest_102 ?_
                obtain ⟨x21, ex21, hf⟩ := kv_lt_e hf
                refine vv_nami ex21 ?_
                refine lv_istore_n (lv' := [(2, .int x21), (3, .int x10), (1, .int x3), (0, .ref (aH 0))]) hx hb dX1_findLowest_105 rfl hl (by decide) rfl (fun ls hl => ?_)
                obtain ⟨x22, ex22, hf⟩ := kv_lt_e hf
                refine lv_iinc (v := x22) (lv' := [(3, .int x22), (2, .int x21), (1, .int x3), (0, .ref (aH 0))]) hx hb dX1_findLowest_106 hl (k := 1) rfl (by rw [ex22]; rfl) (by decide) rfl (fun ls hl => ?_)
                refine lv_goto (tgt := 56) hx hb dX1_findLowest_109 (by decide) ?_
                exact ih _ _ _ _ _ _ _ hP hD hS (lv_sub hl [0, 1, 2, 3] rfl) hf
        refine L56 _ (fun x23 x24 mA25 mH26 H locs ls hP hD hS hl hf => ?_) _ _ _ _ _ _ _ _ hP hD hS (lv_sub hl [0, 1, 2, 3] rfl) hf
        refine lv_aload_n hx hb dX1_findLowest_112 rfl (lv_at hl 3 rfl) ?_
        refine va_get (D := D) (ci := 1) (v := .ref (aH 4)) (C := RX1) (T := TX1) (N := 10) hx hb hts iX1 hown hK hP 17 rfl rfl 6 (by decide) q0 (fun _ h9 => h9) rfl dX1_findLowest_113 ?_
        refine lv_iload_n hx hb dX1_findLowest_116 rfl (lv_at hl 2 rfl) ?_
        refine lv_aload_n hx hb dX1_findLowest_117 rfl (lv_at hl 3 rfl) ?_
        refine va_get (D := D) (ci := 1) (v := .ref (aH 4)) (C := RX1) (T := TX1) (N := 10) hx hb hts iX1 hown hK hP 17 rfl rfl 6 (by decide) q0 (fun _ h9 => h9) rfl dX1_findLowest_118 ?_
        refine lv_iload_n hx hb dX1_findLowest_121 rfl (lv_at hl 2 rfl) ?_
        refine lv_iconst (v := 1) hx hb dX1_findLowest_122 (by decide) ?_
        refine lv_iadd hx hb dX1_findLowest_123 ?_
        obtain ⟨h9, hf⟩ := kv_ix_e hf
        refine va_iald hx hb hK hP 21 1 rfl rfl h9 dX1_findLowest_124 ?_
        refine lv_iload_n hx hb dX1_findLowest_125 rfl (lv_at hl 1 rfl) ?_
        refine lv_iadd hx hb dX1_findLowest_126 ?_
        obtain ⟨x27, ex27, hf⟩ := kv_lt_e hf
        refine vv_nami ex27 ?_
        obtain ⟨h9, hf⟩ := kv_ix_e hf
        obtain ⟨mH28, emH28, hf⟩ := kv_lt_e hf
        refine va_iast hx hb hK hP hD hS 21 1 rfl rfl h9 dX1_findLowest_127 (fun H locs hP hD hS => ?_)
        have hP : va_P D vwCl (w_Told C aT mT ++ (w_Mom C aT aP mP ++ (w_Mom C aT aA mA25 ++ w_Hg C aT aP aA aH mH28))) H := by rw [emH28]; exact hP
        have hD : va_D A (w_Told C aT mT ++ (w_Mom C aT aP mP ++ (w_Mom C aT aA mA25 ++ w_Hg C aT aP aA aH mH28))) := by rw [emH28]; exact hD
        obtain ⟨x29, ex29, hf⟩ := kv_lt_e hf
        refine lv_iinc (v := x29) (lv' := [(1, .int x29), (3, .int x23), (2, .int x24), (0, .ref (aH 0))]) hx hb dX1_findLowest_128 hl (k := 2) rfl (by rw [ex29]; rfl) (by decide) rfl (fun ls hl => ?_)
        refine lv_goto (tgt := 23) hx hb dX1_findLowest_131 (by decide) ?_
        exact ih _ _ _ _ _ _ hP hD hS (lv_sub hl [0, 3] rfl) hf
  refine L23 _ (fun x30 mA31 mH32 H locs ls hP hD hS hl hf => ?_) _ _ _ _ _ _ _ hP hD hS (lv_sub hl [0, 1] rfl) hf
  exact hret _ _ _ _ _ _ hf hP hD hS dX1_findLowest_134
abbrev rX1_weigh : Room := { frames := 3, cells := 0, slots := 0, locals := 128 }
set_option maxHeartbeats 4000000 in
set_option maxRecDepth 100000 in
theorem ccX1_weigh (l : Launch) (D : va_G) (C : Nat → ClassId) (sz : Nat) (aT : Nat → Nat) (aP : Nat → Nat) (aA : Nat → Nat) (aH : Nat → Nat) (mT : Mm) (mP : Mm) (mA : Mm) (mH : Mm) (oA : Mm) (oH : Mm) (hf : ffX1_weigh mT mP mA mH = some (oA, oH)) : Met l yX1_weigh wsX1_weigh rX1_weigh (va_Pc [.ref (aH 0)] (vv_pre D C (w_Told C aT mT ++ (w_Mom C aT aP mP ++ (w_Mom C aT aA mA ++ w_Hg C aT aP aA aH mH))) sz)) (vv_QV D C (w_Told C aT mT ++ (w_Mom C aT aP mP ++ (w_Mom C aT aA mA ++ w_Hg C aT aP aA aH mH))) (w_Told C aT mT ++ (w_Mom C aT aP mP ++ (w_Mom C aT aA oA ++ w_Hg C aT aP aA aH oH))) sz) 0 0 (va_A (w_Told C aT mT ++ (w_Mom C aT aP mP ++ (w_Mom C aT aA mA ++ w_Hg C aT aP aA aH mH))) sz) := by
  unfold ffX1_weigh at hf
  refine vv_metV (cc := cX1_weigh) (maxL := 2) (by decide) rfl (Nat.le_of_ble_eq_true rfl) ?_
  intro p e s m args below meth c A Q H locs ls hx hb hml hown hts hA hK hN hP hD hS hl hret
  have hown : s.vm.findClass RX1 = some m.cls := hown
  have hl : lv_has ls 2 [(0, .ref (aH 0))] := hl
  have hret : ∀ (v0 : Mm) (v1 : Mm) (H : Heap) (locs : List Loc) (ls : Array Slot) (pc : Nat), some (v0, v1) = some (oA, oH) → va_P D vwCl (w_Told C aT mT ++ (w_Mom C aT aP mP ++ (w_Mom C aT aA v0 ++ w_Hg C aT aP aA aH v1))) H → va_D A (w_Told C aT mT ++ (w_Mom C aT aP mP ++ (w_Mom C aT aA v0 ++ w_Hg C aT aP aA aH v1))) → va_S A s.heap H locs → decode cX1_weigh pc = .ok (.return_, 1) → W p l e rX1_weigh s m args below meth c H locs 0 0 Q (F0 m pc ls []) := by
    intro v0 v1 H locs ls pc h0 h1 h2 h3 h4
    cases h0
    exact hret H locs ls pc h1 h2 h3 h4
  have q0 := hts (.fieldLink RX1 38 "ForeRain$Hanging" "ahead" "LForeRain$Moment;") (by decide +kernel)
  have q1 := hts (.fieldLink RX1 34 "ForeRain$Hanging" "present" "LForeRain$Moment;") (by decide +kernel)
  have q2 := hts (.fieldLink RX1 30 "ForeRain$Hanging" "told" "LForeRain$Told;") (by decide +kernel)
  have q3 := hts (.fieldLink RX1 56 "ForeRain$Told" "pieces" "I") (by decide +kernel)
  have q4 := hts (.fieldLink RX1 86 "ForeRain$Moment" "place" "[I") (by decide +kernel)
  have q5 := hts (.fieldLink RX1 9 "ForeRain$Hanging" "tried" "[I") (by decide +kernel)
  have q6 := hts (.fieldLink RX1 41 "ForeRain$Hanging" "steps" "I") (by decide +kernel)
  have q7 := hts (.fieldLink RX1 46 "ForeRain$Hanging" "least" "I") (by decide +kernel)
  have q8 := hts (.fieldLink RX1 27 "ForeRain$Hanging" "best" "[I") (by decide +kernel)
  have q9 := hts (.methodLink RX1 102 arraycopyName) (by decide +kernel)
  have q10 := hts (.native arraycopyName) (by decide +kernel)
  have q11 := hts (.static arraycopyName) (by decide +kernel)
  have q12 := hts (.initialized "java/lang/System") (by decide +kernel)
  have iX1 : ∀ w ∈ u_ws RX1 TX1 10, w ∈ wsX1_weigh := by decide +kernel
  have iX6 : ∀ w ∈ u_ws RX6 TX6 9, w ∈ wsX1_weigh := by decide +kernel
  have iX3 : ∀ w ∈ u_ws RX3 TX3 7, w ∈ wsX1_weigh := by decide +kernel
  refine lv_aload_n hx hb dX1_weigh_0 rfl (lv_at hl 0 rfl) ?_
  refine va_get (D := D) (ci := 1) (v := .ref (aA 0)) (C := RX1) (T := TX1) (N := 10) hx hb hts iX1 hown hK hP 17 rfl rfl 2 (by decide) q0 (fun _ h9 => h9) rfl dX1_weigh_1 ?_
  refine lv_aload_n hx hb dX1_weigh_4 rfl (lv_at hl 0 rfl) ?_
  refine va_get (D := D) (ci := 1) (v := .ref (aP 0)) (C := RX1) (T := TX1) (N := 10) hx hb hts iX1 hown hK hP 17 rfl rfl 1 (by decide) q1 (fun _ h9 => h9) rfl dX1_weigh_5 ?_
  obtain ⟨mA1, hc, hf⟩ := kv_b1_e hf
  have hs9 : vv_Sub D H A (w_Told C aT mT ++ (w_Mom C aT aA mA ++ w_Mom C aT aP mP)) (w_Told C aT mT ++ (w_Mom C aT aA mA1 ++ w_Mom C aT aP mP)) (w_Told C aT mT ++ (w_Mom C aT aP mP ++ (w_Mom C aT aA mA1 ++ w_Hg C aT aP aA aH mH))) := vv_Sub.part (ws := (w_Told C aT mT ++ (w_Mom C aT aP mP ++ (w_Mom C aT aA mA ++ w_Hg C aT aP aA aH mH)))) (wr := (w_Hg C aT aP aA aH mH)) [0, 1, 2, 3, 4, 5, 6, 12, 13, 14, 15, 16, 7, 8, 9, 10, 11] [17, 18, 19, 20, 21, 22, 23, 24, 25, 26, 27, 28] [12, 13, 14, 15, 16, 17, 18, 24, 25, 26, 27, 28, 19, 20, 21, 22, 23, 0, 1, 2, 3, 4, 5, 6, 7, 8, 9, 10, 11] hP hD hS hA rfl rfl (by decide) rfl
  refine vv_gov (wn := (w_Told C aT mT ++ (w_Mom C aT aP mP ++ (w_Mom C aT aA mA1 ++ w_Hg C aT aP aA aH mH)))) hK hs9 hS (vv_rV (As := [.ref (aP 0)]) (rest := []) hx hb hml hown hts hK hN hS hs9 (ccX3_copy l D C H.size aT aA aP mT mA mP mA1 hc) (cwV 1 hts gX1_weigh_X3_copy rfl rfl rfl (by decide +kernel) ⟨(Nat.le_of_ble_eq_true rfl), (Nat.le_of_ble_eq_true rfl)⟩) (va_recv hK hP (ci := 3) (q0 := 12) rfl rfl) rfl hl.1 rfl (Nat.le_of_ble_eq_true rfl) dX1_weigh_8 ⟨Nat.zero_le _, Nat.zero_le _⟩) (fun H locs hP hD hS => ?_)
  refine lv_iconst (v := 0) hx hb dX1_weigh_11 (by decide) ?_
  refine lv_istore_n (lv' := [(1, .int 0), (0, .ref (aH 0))]) hx hb dX1_weigh_12 rfl hl (by decide) rfl (fun ls hl => ?_)
  have L13 : ∀ (K13 : Int32 → Mm → Option (Mm × Mm)), (∀ (x2 : Int32) (mA3 : Mm) (H : Heap) (locs : List Loc) (ls : Array Slot), va_P D vwCl (w_Told C aT mT ++ (w_Mom C aT aP mP ++ (w_Mom C aT aA mA3 ++ w_Hg C aT aP aA aH mH))) H → va_D A (w_Told C aT mT ++ (w_Mom C aT aP mP ++ (w_Mom C aT aA mA3 ++ w_Hg C aT aP aA aH mH))) → va_S A s.heap H locs → lv_has ls 2 [(1, .int x2), (0, .ref (aH 0))] → K13 x2 mA3 = some (oA, oH) → W p l e rX1_weigh s m args below meth c H locs 0 0 Q (F0 m 45 ls [])) → ∀ (n : Nat) (x2 : Int32) (mA3 : Mm) (H : Heap) (locs : List Loc) (ls : Array Slot), va_P D vwCl (w_Told C aT mT ++ (w_Mom C aT aP mP ++ (w_Mom C aT aA mA3 ++ w_Hg C aT aP aA aH mH))) H → va_D A (w_Told C aT mT ++ (w_Mom C aT aP mP ++ (w_Mom C aT aA mA3 ++ w_Hg C aT aP aA aH mH))) → va_S A s.heap H locs → lv_has ls 2 [(1, .int x2), (0, .ref (aH 0))] → ffX1_weigh_L13 mT mH K13 n x2 mA3 = some (oA, oH) → W p l e rX1_weigh s m args below meth c H locs 0 0 Q (F0 m 13 ls []) := by
    intro K13 hK9 n
    induction n with
    | zero => intro x2 mA3 H locs ls hP hD hS hl hf; exact kv_no hf
    | succ n ih =>
      intro x2 mA3 H locs ls hP hD hS hl hf
      rw [ffX1_weigh_L13_s] at hf
      refine lv_iload_n hx hb dX1_weigh_13 rfl (lv_at hl 0 rfl) ?_
      refine lv_aload_n hx hb dX1_weigh_14 rfl (lv_at hl 1 rfl) ?_
      refine va_get (D := D) (ci := 1) (v := .ref (aT 0)) (C := RX1) (T := TX1) (N := 10) hx hb hts iX1 hown hK hP 17 rfl rfl 0 (by decide) q2 (fun _ h9 => h9) rfl dX1_weigh_15 ?_
      refine va_get (D := D) (ci := 6) (v := .int (mT 0 0)) (C := RX6) (T := TX6) (N := 9) hx hb hts iX6 hown hK hP 0 rfl rfl 0 (by decide) q3 (fun _ h9 => h9) rfl dX1_weigh_18 ?_
      refine lv_icmp_ge (tgt := 45) hx hb dX1_weigh_21 (by decide) (fun hc => ?_) (fun hc => ?_)
      · have hf := kv_t hc hf
        exact hK9 _ _ _ _ _ hP hD hS (lv_sub hl [0, 1] rfl) hf
      · have hf := kv_f hc hf
        refine lv_aload_n hx hb dX1_weigh_24 rfl (lv_at hl 1 rfl) ?_
        refine va_get (D := D) (ci := 1) (v := .ref (aA 0)) (C := RX1) (T := TX1) (N := 10) hx hb hts iX1 hown hK hP 17 rfl rfl 2 (by decide) q0 (fun _ h9 => h9) rfl dX1_weigh_25 ?_
        refine va_get (D := D) (ci := 3) (v := .ref (aA 3)) (C := RX3) (T := TX3) (N := 7) hx hb hts iX3 hown hK hP 12 rfl rfl 5 (by decide) q4 (fun _ h9 => h9) rfl dX1_weigh_28 ?_
        refine lv_iload_n hx hb dX1_weigh_31 rfl (lv_at hl 0 rfl) ?_
        refine lv_aload_n hx hb dX1_weigh_32 rfl (lv_at hl 1 rfl) ?_
        refine va_get (D := D) (ci := 1) (v := .ref (aH 1)) (C := RX1) (T := TX1) (N := 10) hx hb hts iX1 hown hK hP 17 rfl rfl 3 (by decide) q5 (fun _ h9 => h9) rfl dX1_weigh_33 ?_
        refine lv_iload_n hx hb dX1_weigh_36 rfl (lv_at hl 0 rfl) ?_
        obtain ⟨h9, hf⟩ := kv_ix_e hf
        refine va_iald hx hb hK hP 18 1 rfl rfl h9 dX1_weigh_37 ?_
        obtain ⟨x4, ex4, hf⟩ := kv_lt_e hf
        refine vv_nami ex4 ?_
        obtain ⟨h9, hf⟩ := kv_ix_e hf
        obtain ⟨mA5, emA5, hf⟩ := kv_lt_e hf
        refine va_iast hx hb hK hP hD hS 15 1 rfl rfl h9 dX1_weigh_38 (fun H locs hP hD hS => ?_)
        have hP : va_P D vwCl (w_Told C aT mT ++ (w_Mom C aT aP mP ++ (w_Mom C aT aA mA5 ++ w_Hg C aT aP aA aH mH))) H := by rw [emA5]; exact hP
        have hD : va_D A (w_Told C aT mT ++ (w_Mom C aT aP mP ++ (w_Mom C aT aA mA5 ++ w_Hg C aT aP aA aH mH))) := by rw [emA5]; exact hD
        obtain ⟨x6, ex6, hf⟩ := kv_lt_e hf
        refine lv_iinc (v := x6) (lv' := [(1, .int x6), (0, .ref (aH 0))]) hx hb dX1_weigh_39 hl (k := 0) rfl (by rw [ex6]; rfl) (by decide) rfl (fun ls hl => ?_)
        refine lv_goto (tgt := 13) hx hb dX1_weigh_42 (by decide) ?_
        exact ih _ _ _ _ _ hP hD hS (lv_sub hl [0, 1] rfl) hf
  refine L13 _ (fun x7 mA8 H locs ls hP hD hS hl hf => ?_) _ _ _ _ _ _ hP hD hS (lv_sub hl [0, 1] rfl) hf
  refine lv_iconst (v := 0) hx hb dX1_weigh_45 (by decide) ?_
  refine lv_istore_n (lv' := [(1, .int 0), (0, .ref (aH 0))]) hx hb dX1_weigh_46 rfl hl (by decide) rfl (fun ls hl => ?_)
  have L47 : ∀ (K47 : Int32 → Mm → Option (Mm × Mm)), (∀ (x9 : Int32) (mA10 : Mm) (H : Heap) (locs : List Loc) (ls : Array Slot), va_P D vwCl (w_Told C aT mT ++ (w_Mom C aT aP mP ++ (w_Mom C aT aA mA10 ++ w_Hg C aT aP aA aH mH))) H → va_D A (w_Told C aT mT ++ (w_Mom C aT aP mP ++ (w_Mom C aT aA mA10 ++ w_Hg C aT aP aA aH mH))) → va_S A s.heap H locs → lv_has ls 2 [(1, .int x9), (0, .ref (aH 0))] → K47 x9 mA10 = some (oA, oH) → W p l e rX1_weigh s m args below meth c H locs 0 0 Q (F0 m 69 ls [])) → ∀ (n : Nat) (x9 : Int32) (mA10 : Mm) (H : Heap) (locs : List Loc) (ls : Array Slot), va_P D vwCl (w_Told C aT mT ++ (w_Mom C aT aP mP ++ (w_Mom C aT aA mA10 ++ w_Hg C aT aP aA aH mH))) H → va_D A (w_Told C aT mT ++ (w_Mom C aT aP mP ++ (w_Mom C aT aA mA10 ++ w_Hg C aT aP aA aH mH))) → va_S A s.heap H locs → lv_has ls 2 [(1, .int x9), (0, .ref (aH 0))] → ffX1_weigh_L47 mT mH K47 n x9 mA10 = some (oA, oH) → W p l e rX1_weigh s m args below meth c H locs 0 0 Q (F0 m 47 ls []) := by
    intro K47 hK9 n
    induction n with
    | zero => intro x9 mA10 H locs ls hP hD hS hl hf; exact kv_no hf
    | succ n ih =>
      intro x9 mA10 H locs ls hP hD hS hl hf
      rw [ffX1_weigh_L47_s] at hf
      refine lv_iload_n hx hb dX1_weigh_47 rfl (lv_at hl 0 rfl) ?_
      refine lv_aload_n hx hb dX1_weigh_48 rfl (lv_at hl 1 rfl) ?_
      refine va_get (D := D) (ci := 1) (v := .int (mH 0 7)) (C := RX1) (T := TX1) (N := 10) hx hb hts iX1 hown hK hP 17 rfl rfl 7 (by decide) q6 (fun _ h9 => h9) rfl dX1_weigh_49 ?_
      refine lv_icmp_ge (tgt := 69) hx hb dX1_weigh_52 (by decide) (fun hc => ?_) (fun hc => ?_)
      · have hf := kv_t hc hf
        exact hK9 _ _ _ _ _ hP hD hS (lv_sub hl [0, 1] rfl) hf
      · have hf := kv_f hc hf
        refine lv_aload_n hx hb dX1_weigh_55 rfl (lv_at hl 1 rfl) ?_
        refine va_get (D := D) (ci := 1) (v := .ref (aA 0)) (C := RX1) (T := TX1) (N := 10) hx hb hts iX1 hown hK hP 17 rfl rfl 2 (by decide) q0 (fun _ h9 => h9) rfl dX1_weigh_56 ?_
        obtain ⟨r11, mA12, hc, hf⟩ := kv_b2_e hf
        have hs9 : vv_Sub D H A (w_Told C aT mT ++ w_Mom C aT aA mA10) (w_Told C aT mT ++ w_Mom C aT aA mA12) (w_Told C aT mT ++ (w_Mom C aT aP mP ++ (w_Mom C aT aA mA12 ++ w_Hg C aT aP aA aH mH))) := vv_Sub.part (ws := (w_Told C aT mT ++ (w_Mom C aT aP mP ++ (w_Mom C aT aA mA10 ++ w_Hg C aT aP aA aH mH)))) (wr := (w_Mom C aT aP mP ++ w_Hg C aT aP aA aH mH)) [0, 1, 2, 3, 4, 5, 6, 12, 13, 14, 15, 16] [7, 8, 9, 10, 11, 17, 18, 19, 20, 21, 22, 23, 24, 25, 26, 27, 28] [17, 18, 19, 20, 21, 22, 23, 0, 1, 2, 3, 4, 24, 25, 26, 27, 28, 5, 6, 7, 8, 9, 10, 11, 12, 13, 14, 15, 16] hP hD hS hA rfl rfl (by decide) rfl
        refine vv_goi (wn := (w_Told C aT mT ++ (w_Mom C aT aP mP ++ (w_Mom C aT aA mA12 ++ w_Hg C aT aP aA aH mH)))) hK hs9 hS (vv_rV (As := []) (rest := []) hx hb hml hown hts hK hN hS hs9 (ccX3_pass l D C H.size aT aA mT mA10 r11 mA12 hc) (cwV 0 hts gX1_weigh_X3_pass rfl rfl rfl (by decide +kernel) ⟨(Nat.le_of_ble_eq_true rfl), (Nat.le_of_ble_eq_true rfl)⟩) (va_recv hK hP (ci := 3) (q0 := 12) rfl rfl) rfl hl.1 rfl (Nat.le_of_ble_eq_true rfl) dX1_weigh_59 ⟨Nat.zero_le _, Nat.zero_le _⟩) (fun H locs hP hD hS => ?_)
        refine lv_pop hx hb dX1_weigh_62 rfl ?_
        obtain ⟨x13, ex13, hf⟩ := kv_lt_e hf
        refine lv_iinc (v := x13) (lv' := [(1, .int x13), (0, .ref (aH 0))]) hx hb dX1_weigh_63 hl (k := 0) rfl (by rw [ex13]; rfl) (by decide) rfl (fun ls hl => ?_)
        refine lv_goto (tgt := 47) hx hb dX1_weigh_66 (by decide) ?_
        exact ih _ _ _ _ _ hP hD hS (lv_sub hl [0, 1] rfl) hf
  refine L47 _ (fun x14 mA15 H locs ls hP hD hS hl hf => ?_) _ _ _ _ _ _ hP hD hS (lv_sub hl [0, 1] rfl) hf
  refine lv_aload_n hx hb dX1_weigh_69 rfl (lv_at hl 1 rfl) ?_
  refine va_get (D := D) (ci := 1) (v := .ref (aA 0)) (C := RX1) (T := TX1) (N := 10) hx hb hts iX1 hown hK hP 17 rfl rfl 2 (by decide) q0 (fun _ h9 => h9) rfl dX1_weigh_70 ?_
  obtain ⟨r16, hc, hf⟩ := kv_b1_e hf
  have hs9 : vv_Sub D H A (w_Told C aT mT ++ w_Mom C aT aA mA15) (w_Told C aT mT ++ w_Mom C aT aA mA15) (w_Told C aT mT ++ (w_Mom C aT aP mP ++ (w_Mom C aT aA mA15 ++ w_Hg C aT aP aA aH mH))) := vv_Sub.part (ws := (w_Told C aT mT ++ (w_Mom C aT aP mP ++ (w_Mom C aT aA mA15 ++ w_Hg C aT aP aA aH mH)))) (wr := (w_Mom C aT aP mP ++ w_Hg C aT aP aA aH mH)) [0, 1, 2, 3, 4, 5, 6, 12, 13, 14, 15, 16] [7, 8, 9, 10, 11, 17, 18, 19, 20, 21, 22, 23, 24, 25, 26, 27, 28] [17, 18, 19, 20, 21, 22, 23, 0, 1, 2, 3, 4, 24, 25, 26, 27, 28, 5, 6, 7, 8, 9, 10, 11, 12, 13, 14, 15, 16] hP hD hS hA rfl rfl (by decide) rfl
  refine vv_goi (wn := (w_Told C aT mT ++ (w_Mom C aT aP mP ++ (w_Mom C aT aA mA15 ++ w_Hg C aT aP aA aH mH)))) hK hs9 hS (vv_rV (As := []) (rest := []) hx hb hml hown hts hK hN hS hs9 (ccX3_allWater l D C H.size aT aA mT mA15 r16 hc) (cwV 0 hts gX1_weigh_X3_allWater rfl rfl rfl (by decide +kernel) ⟨(Nat.le_of_ble_eq_true rfl), (Nat.le_of_ble_eq_true rfl)⟩) (va_recv hK hP (ci := 3) (q0 := 12) rfl rfl) rfl hl.1 rfl (Nat.le_of_ble_eq_true rfl) dX1_weigh_73 ⟨Nat.zero_le _, Nat.zero_le _⟩) (fun H locs hP hD hS => ?_)
  refine lv_istore_n (lv' := [(1, .int r16), (0, .ref (aH 0))]) hx hb dX1_weigh_76 rfl hl (by decide) rfl (fun ls hl => ?_)
  refine lv_iload_n hx hb dX1_weigh_77 rfl (lv_at hl 0 rfl) ?_
  refine lv_aload_n hx hb dX1_weigh_78 rfl (lv_at hl 1 rfl) ?_
  refine va_get (D := D) (ci := 1) (v := .int (mH 0 9)) (C := RX1) (T := TX1) (N := 10) hx hb hts iX1 hown hK hP 17 rfl rfl 9 (by decide) q7 (fun _ h9 => h9) rfl dX1_weigh_79 ?_
  refine lv_icmp_ge (tgt := 105) hx hb dX1_weigh_82 (by decide) (fun hc => ?_) (fun hc => ?_)
  · have hf := kv_t hc hf
    exact hret _ _ _ _ _ _ hf hP hD hS dX1_weigh_105
  · have hf := kv_f hc hf
    refine lv_aload_n hx hb dX1_weigh_85 rfl (lv_at hl 1 rfl) ?_
    refine lv_iload_n hx hb dX1_weigh_86 rfl (lv_at hl 0 rfl) ?_
    obtain ⟨mH17, emH17, hf⟩ := kv_lt_e hf
    refine va_put (D := D) (ci := 1) (v := .int r16) (ty := .int) (C := RX1) (T := TX1) (N := 10) hx hb hts iX1 tyX1 tyX1_ok nmX1 hown hK hP hD hS 17 rfl rfl 9 (by decide) q7 (fun _ h9 => h9) rfl (tyX1_ok 9 (by decide)) rfl rfl (Nat.le_of_ble_eq_true rfl) dX1_weigh_87 (fun H locs hP hD hS => ?_)
    have hP : va_P D vwCl (w_Told C aT mT ++ (w_Mom C aT aP mP ++ (w_Mom C aT aA mA15 ++ w_Hg C aT aP aA aH mH17))) H := by rw [emH17]; exact hP
    have hD : va_D A (w_Told C aT mT ++ (w_Mom C aT aP mP ++ (w_Mom C aT aA mA15 ++ w_Hg C aT aP aA aH mH17))) := by rw [emH17]; exact hD
    refine lv_aload_n hx hb dX1_weigh_90 rfl (lv_at hl 1 rfl) ?_
    refine va_get (D := D) (ci := 1) (v := .ref (aH 1)) (C := RX1) (T := TX1) (N := 10) hx hb hts iX1 hown hK hP 17 rfl rfl 3 (by decide) q5 (fun _ h9 => h9) rfl dX1_weigh_91 ?_
    refine lv_iconst (v := 0) hx hb dX1_weigh_94 (by decide) ?_
    refine lv_aload_n hx hb dX1_weigh_95 rfl (lv_at hl 1 rfl) ?_
    refine va_get (D := D) (ci := 1) (v := .ref (aH 5)) (C := RX1) (T := TX1) (N := 10) hx hb hts iX1 hown hK hP 17 rfl rfl 8 (by decide) q8 (fun _ h9 => h9) rfl dX1_weigh_96 ?_
    refine lv_iconst (v := 0) hx hb dX1_weigh_99 (by decide) ?_
    refine lv_bipush (v := 6) hx hb dX1_weigh_100 (by decide) ?_
    obtain ⟨mH18, emH18, hf⟩ := kv_lt_e hf
    refine va_copyi hx hb (hml.trans hl.1.symm) hown q9 q10 q11 q12 hK hP hD hS 18 22 1 1 rfl rfl rfl rfl rfl (by decide) (by decide) (by decide) (by decide) (by decide) (fun _ _ => rfl) (Nat.le_of_ble_eq_true rfl) (by decide +kernel) dX1_weigh_102 (fun H locs hP hD hS => ?_)
    have hP : va_P D vwCl (w_Told C aT mT ++ (w_Mom C aT aP mP ++ (w_Mom C aT aA mA15 ++ w_Hg C aT aP aA aH mH18))) H := by rw [emH18]; exact hP
    have hD : va_D A (w_Told C aT mT ++ (w_Mom C aT aP mP ++ (w_Mom C aT aA mA15 ++ w_Hg C aT aP aA aH mH18))) := by rw [emH18]; exact hD
    exact hret _ _ _ _ _ _ hf hP hD hS dX1_weigh_105
abbrev rX1_tryFrom (d : Nat) : Room := { frames := 4 + d, cells := 0, slots := 0, locals := 149 + d * 25 }
set_option maxHeartbeats 4000000 in
set_option maxRecDepth 100000 in
theorem ccX1_tryFrom (l : Launch) (D : va_G) (C : Nat → ClassId) : ∀ (d : Nat) (sz : Nat) (aT : Nat → Nat) (aP : Nat → Nat) (aA : Nat → Nat) (aH : Nat → Nat) (mT : Mm) (mP : Mm) (mA : Mm) (mH : Mm) (p0 : Int32) (p1 : Int32) (oA : Mm) (oH : Mm), ffX1_tryFrom d p0 p1 mT mP mA mH = some (oA, oH) → Met l yX1_tryFrom wsX1_tryFrom (rX1_tryFrom d) (va_Pc [.ref (aH 0), .int p0, .int p1] (vv_pre D C (w_Told C aT mT ++ (w_Mom C aT aP mP ++ (w_Mom C aT aA mA ++ w_Hg C aT aP aA aH mH))) sz)) (vv_QV D C (w_Told C aT mT ++ (w_Mom C aT aP mP ++ (w_Mom C aT aA mA ++ w_Hg C aT aP aA aH mH))) (w_Told C aT mT ++ (w_Mom C aT aP mP ++ (w_Mom C aT aA oA ++ w_Hg C aT aP aA aH oH))) sz) 0 0 (va_A (w_Told C aT mT ++ (w_Mom C aT aP mP ++ (w_Mom C aT aA mA ++ w_Hg C aT aP aA aH mH))) sz) := by
  intro d
  induction d with
  | zero => intro sz aT aP aA aH mT mP mA mH p0 p1 oA oH hf; exact kv_no hf
  | succ d ihd =>
    intro sz aT aP aA aH mT mP mA mH p0 p1 oA oH hf
    rw [ffX1_tryFrom_s] at hf
    refine vv_metV (cc := cX1_tryFrom) (maxL := 6) (by decide) rfl (Nat.le_of_ble_eq_true rfl) ?_
    intro p e s m args below meth c A Q H locs ls hx hb hml hown hts hA hK hN hP hD hS hl hret
    have hown : s.vm.findClass RX1 = some m.cls := hown
    have hl : lv_has ls 6 [(0, .ref (aH 0)), (1, .int p0), (2, .int p1)] := hl
    have hret : ∀ (v0 : Mm) (v1 : Mm) (H : Heap) (locs : List Loc) (ls : Array Slot) (pc : Nat), some (v0, v1) = some (oA, oH) → va_P D vwCl (w_Told C aT mT ++ (w_Mom C aT aP mP ++ (w_Mom C aT aA v0 ++ w_Hg C aT aP aA aH v1))) H → va_D A (w_Told C aT mT ++ (w_Mom C aT aP mP ++ (w_Mom C aT aA v0 ++ w_Hg C aT aP aA aH v1))) → va_S A s.heap H locs → decode cX1_tryFrom pc = .ok (.return_, 1) → W p l e (rX1_tryFrom (d + 1)) s m args below meth c H locs 0 0 Q (F0 m pc ls []) := by
      intro v0 v1 H locs ls pc h0 h1 h2 h3 h4
      cases h0
      exact hret H locs ls pc h1 h2 h3 h4
    have q0 := hts (.fieldLink RX1 30 "ForeRain$Hanging" "told" "LForeRain$Told;") (by decide +kernel)
    have q1 := hts (.fieldLink RX1 56 "ForeRain$Told" "pieces" "I") (by decide +kernel)
    have q2 := hts (.fieldLink RX1 21 "ForeRain$Hanging" "lowest" "[[I") (by decide +kernel)
    have q3 := hts (.fieldLink RX1 24 "ForeRain$Hanging" "lowestFrom" "[I") (by decide +kernel)
    have q4 := hts (.fieldLink RX1 46 "ForeRain$Hanging" "least" "I") (by decide +kernel)
    have q5 := hts (.fieldLink RX1 66 "ForeRain$Told" "spots" "I") (by decide +kernel)
    have q6 := hts (.fieldLink RX1 15 "ForeRain$Hanging" "taken" "[Z") (by decide +kernel)
    have q7 := hts (.fieldLink RX1 9 "ForeRain$Hanging" "tried" "[I") (by decide +kernel)
    have iX1 : ∀ w ∈ u_ws RX1 TX1 10, w ∈ wsX1_tryFrom := by decide +kernel
    have iX6 : ∀ w ∈ u_ws RX6 TX6 9, w ∈ wsX1_tryFrom := by decide +kernel
    refine lv_iload_n hx hb dX1_tryFrom_0 rfl (lv_at hl 1 rfl) ?_
    refine lv_aload_n hx hb dX1_tryFrom_1 rfl (lv_at hl 0 rfl) ?_
    refine va_get (D := D) (ci := 1) (v := .ref (aT 0)) (C := RX1) (T := TX1) (N := 10) hx hb hts iX1 hown hK hP 17 rfl rfl 0 (by decide) q0 (fun _ h9 => h9) rfl dX1_tryFrom_2 ?_
    refine va_get (D := D) (ci := 6) (v := .int (mT 0 0)) (C := RX6) (T := TX6) (N := 9) hx hb hts iX6 hown hK hP 0 rfl rfl 0 (by decide) q1 (fun _ h9 => h9) rfl dX1_tryFrom_5 ?_
    refine lv_icmp_lt (tgt := 16) hx hb dX1_tryFrom_8 (by decide) (fun hc => ?_) (fun hc => ?_)
    · have hf := kv_t hc hf
      refine lv_iload_n hx hb dX1_tryFrom_16 rfl (lv_at hl 2 rfl) ?_
      refine lv_aload_n hx hb dX1_tryFrom_17 rfl (lv_at hl 0 rfl) ?_
      refine va_get (D := D) (ci := 1) (v := .ref (aH 3)) (C := RX1) (T := TX1) (N := 10) hx hb hts iX1 hown hK hP 17 rfl rfl 5 (by decide) q2 (fun _ h9 => h9) rfl dX1_tryFrom_18 ?_
      refine lv_iload_n hx hb dX1_tryFrom_21 rfl (lv_at hl 1 rfl) ?_
      obtain ⟨hw1, hf⟩ := kv_ix_e hf
      refine vv_aldA hx hb hK hP 20 4 rfl rfl hw1 (vv_if6 hw1) dX1_tryFrom_22 ?_
      refine lv_iconst (v := 5) hx hb dX1_tryFrom_23 (by decide) ?_
      obtain ⟨h9, hf⟩ := kv_ix_e hf
      refine va_iald hx hb hK hP (23 + p0.toNatClampNeg) 1 (vv_rowget C aT aP aA aH _ _ _ _ (vv_lt hw1)) rfl h9 dX1_tryFrom_24 ?_
      refine lv_iadd hx hb dX1_tryFrom_25 ?_
      obtain ⟨x2, ex2, hf⟩ := kv_lt_e hf
      refine vv_nami ex2 ?_
      refine lv_istore_n (lv' := [(3, .int x2), (0, .ref (aH 0)), (1, .int p0), (2, .int p1)]) hx hb dX1_tryFrom_26 rfl hl (by decide) rfl (fun ls hl => ?_)
      refine lv_iload_n hx hb dX1_tryFrom_27 rfl (lv_at hl 0 rfl) ?_
      refine lv_aload_n hx hb dX1_tryFrom_28 rfl (lv_at hl 1 rfl) ?_
      refine va_get (D := D) (ci := 1) (v := .ref (aH 4)) (C := RX1) (T := TX1) (N := 10) hx hb hts iX1 hown hK hP 17 rfl rfl 6 (by decide) q3 (fun _ h9 => h9) rfl dX1_tryFrom_29 ?_
      refine lv_iload_n hx hb dX1_tryFrom_32 rfl (lv_at hl 2 rfl) ?_
      refine lv_iconst (v := 1) hx hb dX1_tryFrom_33 (by decide) ?_
      refine lv_iadd hx hb dX1_tryFrom_34 ?_
      obtain ⟨h9, hf⟩ := kv_ix_e hf
      refine va_iald hx hb hK hP 21 1 rfl rfl h9 dX1_tryFrom_35 ?_
      refine lv_iadd hx hb dX1_tryFrom_36 ?_
      refine lv_aload_n hx hb dX1_tryFrom_37 rfl (lv_at hl 1 rfl) ?_
      refine va_get (D := D) (ci := 1) (v := .int (mH 0 9)) (C := RX1) (T := TX1) (N := 10) hx hb hts iX1 hown hK hP 17 rfl rfl 9 (by decide) q4 (fun _ h9 => h9) rfl dX1_tryFrom_38 ?_
      obtain ⟨k60_3, ek60_3, hf⟩ := kv_lt_e hf
      have J60_3 : ∀ (mA4 : Mm) (mH5 : Mm) (H : Heap) (locs : List Loc) (ls : Array Slot), va_P D vwCl (w_Told C aT mT ++ (w_Mom C aT aP mP ++ (w_Mom C aT aA mA4 ++ w_Hg C aT aP aA aH mH5))) H → va_D A (w_Told C aT mT ++ (w_Mom C aT aP mP ++ (w_Mom C aT aA mA4 ++ w_Hg C aT aP aA aH mH5))) → va_S A s.heap H locs → lv_has ls 6 [(0, .ref (aH 0)), (1, .int p0), (2, .int p1)] → k60_3 mA4 mH5 = some (oA, oH) → W p l e (rX1_tryFrom (d + 1)) s m args below meth c H locs 0 0 Q (F0 m 60 ls []) := by
        intro mA4 mH5 H locs ls hP hD hS hl hf
        rw [ek60_3] at hf
        refine lv_iconst (v := 0) hx hb dX1_tryFrom_60 (by decide) ?_
        refine lv_istore (lv' := [(4, .int 0), (0, .ref (aH 0)), (1, .int p0), (2, .int p1)]) hx hb dX1_tryFrom_61 hl (by decide) rfl (fun ls hl => ?_)
        have L63 : ∀ (K63 : Int32 → Mm → Mm → Option (Mm × Mm)), (∀ (x6 : Int32) (mA7 : Mm) (mH8 : Mm) (H : Heap) (locs : List Loc) (ls : Array Slot), va_P D vwCl (w_Told C aT mT ++ (w_Mom C aT aP mP ++ (w_Mom C aT aA mA7 ++ w_Hg C aT aP aA aH mH8))) H → va_D A (w_Told C aT mT ++ (w_Mom C aT aP mP ++ (w_Mom C aT aA mA7 ++ w_Hg C aT aP aA aH mH8))) → va_S A s.heap H locs → lv_has ls 6 [(4, .int x6), (0, .ref (aH 0)), (1, .int p0), (2, .int p1)] → K63 x6 mA7 mH8 = some (oA, oH) → W p l e (rX1_tryFrom (d + 1)) s m args below meth c H locs 0 0 Q (F0 m 171 ls [])) → ∀ (n : Nat) (x6 : Int32) (mA7 : Mm) (mH8 : Mm) (H : Heap) (locs : List Loc) (ls : Array Slot), va_P D vwCl (w_Told C aT mT ++ (w_Mom C aT aP mP ++ (w_Mom C aT aA mA7 ++ w_Hg C aT aP aA aH mH8))) H → va_D A (w_Told C aT mT ++ (w_Mom C aT aP mP ++ (w_Mom C aT aA mA7 ++ w_Hg C aT aP aA aH mH8))) → va_S A s.heap H locs → lv_has ls 6 [(4, .int x6), (0, .ref (aH 0)), (1, .int p0), (2, .int p1)] → ffX1_tryFrom_L63 p0 p1 mT mP (ffX1_tryFrom d) K63 n x6 mA7 mH8 = some (oA, oH) → W p l e (rX1_tryFrom (d + 1)) s m args below meth c H locs 0 0 Q (F0 m 63 ls []) := by
          intro K63 hK9 n
          induction n with
          | zero => intro x6 mA7 mH8 H locs ls hP hD hS hl hf; exact kv_no hf
          | succ n ih =>
            intro x6 mA7 mH8 H locs ls hP hD hS hl hf
            rw [ffX1_tryFrom_L63_s] at hf
            refine lv_iload hx hb dX1_tryFrom_63 (lv_at hl 0 rfl) ?_
            refine lv_aload_n hx hb dX1_tryFrom_65 rfl (lv_at hl 1 rfl) ?_
            refine va_get (D := D) (ci := 1) (v := .ref (aT 0)) (C := RX1) (T := TX1) (N := 10) hx hb hts iX1 hown hK hP 17 rfl rfl 0 (by decide) q0 (fun _ h9 => h9) rfl dX1_tryFrom_66 ?_
            refine va_get (D := D) (ci := 6) (v := .int (mT 0 1)) (C := RX6) (T := TX6) (N := 9) hx hb hts iX6 hown hK hP 0 rfl rfl 1 (by decide) q5 (fun _ h9 => h9) rfl dX1_tryFrom_69 ?_
            refine lv_icmp_ge (tgt := 171) hx hb dX1_tryFrom_72 (by decide) (fun hc => ?_) (fun hc => ?_)
            · have hf := kv_t hc hf
              exact hK9 _ _ _ _ _ _ hP hD hS (lv_sub hl [0, 1, 2, 3] rfl) hf
            · have hf := kv_f hc hf
              refine lv_aload_n hx hb dX1_tryFrom_75 rfl (lv_at hl 1 rfl) ?_
              refine va_get (D := D) (ci := 1) (v := .ref (aH 2)) (C := RX1) (T := TX1) (N := 10) hx hb hts iX1 hown hK hP 17 rfl rfl 4 (by decide) q6 (fun _ h9 => h9) rfl dX1_tryFrom_76 ?_
              refine lv_iload hx hb dX1_tryFrom_79 (lv_at hl 0 rfl) ?_
              obtain ⟨h9, hf⟩ := kv_ix_e hf
              refine va_zald hx hb hK hP 19 2 rfl rfl h9 dX1_tryFrom_81 ?_
              refine lv_if_ne (tgt := 165) hx hb dX1_tryFrom_82 (by decide) (fun hc => ?_) (fun hc => ?_)
              · have hf := kv_f hc hf
                obtain ⟨x9, ex9, hf⟩ := kv_lt_e hf
                refine lv_iinc (v := x9) (lv' := [(4, .int x9), (0, .ref (aH 0)), (1, .int p0), (2, .int p1)]) hx hb dX1_tryFrom_165 hl (k := 0) rfl (by rw [ex9]; rfl) (by decide) rfl (fun ls hl => ?_)
                refine lv_goto (tgt := 63) hx hb dX1_tryFrom_168 (by decide) ?_
                exact ih _ _ _ _ _ _ hP hD hS (lv_sub hl [0, 1, 2, 3] rfl) hf
              · have hf := kv_t hc hf
                refine lv_aload_n hx hb dX1_tryFrom_85 rfl (lv_at hl 1 rfl) ?_
                refine va_get (D := D) (ci := 1) (v := .ref (aT 0)) (C := RX1) (T := TX1) (N := 10) hx hb hts iX1 hown hK hP 17 rfl rfl 0 (by decide) q0 (fun _ h9 => h9) rfl dX1_tryFrom_86 ?_
                refine lv_iload_n hx hb dX1_tryFrom_89 rfl (lv_at hl 2 rfl) ?_
                refine lv_iload hx hb dX1_tryFrom_90 (lv_at hl 0 rfl) ?_
                obtain ⟨r10, hc, hf⟩ := kv_b1_e hf
                have hs9 : vv_Sub D H A (w_Told C aT mT) (w_Told C aT mT) (w_Told C aT mT ++ (w_Mom C aT aP mP ++ (w_Mom C aT aA mA7 ++ w_Hg C aT aP aA aH mH8))) := vv_Sub.part (ws := (w_Told C aT mT ++ (w_Mom C aT aP mP ++ (w_Mom C aT aA mA7 ++ w_Hg C aT aP aA aH mH8)))) (wr := (w_Mom C aT aP mP ++ (w_Mom C aT aA mA7 ++ w_Hg C aT aP aA aH mH8))) [0, 1, 2, 3, 4, 5, 6] [7, 8, 9, 10, 11, 12, 13, 14, 15, 16, 17, 18, 19, 20, 21, 22, 23, 24, 25, 26, 27, 28] [22, 23, 24, 25, 26, 27, 28, 0, 1, 2, 3, 4, 5, 6, 7, 8, 9, 10, 11, 12, 13, 14, 15, 16, 17, 18, 19, 20, 21] hP hD hS hA rfl rfl (by decide) rfl
                refine vv_goi (wn := (w_Told C aT mT ++ (w_Mom C aT aP mP ++ (w_Mom C aT aA mA7 ++ w_Hg C aT aP aA aH mH8)))) hK hs9 hS (vv_rV (As := [.int p0, .int x6]) (rest := []) hx hb hml hown hts hK hN hS hs9 (ccX6_fits l D C H.size aT mT p0 x6 r10 hc) (cwV 2 hts gX1_tryFrom_X6_fits rfl rfl rfl (by decide +kernel) ⟨by simp only [rX6_fits, rX1_tryFrom]; omega, by simp only [rX6_fits, rX1_tryFrom]; omega⟩) (va_recv hK hP (ci := 6) (q0 := 0) rfl rfl) rfl hl.1 rfl (Nat.le_of_ble_eq_true rfl) dX1_tryFrom_92 ⟨Nat.zero_le _, Nat.zero_le _⟩) (fun H locs hP hD hS => ?_)
                refine lv_if_ne (tgt := 101) hx hb dX1_tryFrom_95 (by decide) (fun hc => ?_) (fun hc => ?_)
                · have hf := kv_f hc hf
                  refine lv_iload_n hx hb dX1_tryFrom_101 rfl (lv_at hl 3 rfl) ?_
                  refine lv_aload_n hx hb dX1_tryFrom_102 rfl (lv_at hl 1 rfl) ?_
                  refine va_get (D := D) (ci := 1) (v := .ref (aH 3)) (C := RX1) (T := TX1) (N := 10) hx hb hts iX1 hown hK hP 17 rfl rfl 5 (by decide) q2 (fun _ h9 => h9) rfl dX1_tryFrom_103 ?_
                  refine lv_iload_n hx hb dX1_tryFrom_106 rfl (lv_at hl 2 rfl) ?_
                  obtain ⟨hw11, hf⟩ := kv_ix_e hf
                  refine vv_aldA hx hb hK hP 20 4 rfl rfl hw11 (vv_if6 hw11) dX1_tryFrom_107 ?_
                  refine lv_iload hx hb dX1_tryFrom_108 (lv_at hl 0 rfl) ?_
                  obtain ⟨h9, hf⟩ := kv_ix_e hf
                  refine va_iald hx hb hK hP (23 + p0.toNatClampNeg) 1 (vv_rowget C aT aP aA aH _ _ _ _ (vv_lt hw11)) rfl h9 dX1_tryFrom_110 ?_
                  refine lv_iadd hx hb dX1_tryFrom_111 ?_
                  obtain ⟨x12, ex12, hf⟩ := kv_lt_e hf
                  refine vv_nami ex12 ?_
                  refine lv_istore (lv' := [(5, .int x12), (4, .int x6), (0, .ref (aH 0)), (1, .int p0), (2, .int p1)]) hx hb dX1_tryFrom_112 hl (by decide) rfl (fun ls hl => ?_)
                  refine lv_iload hx hb dX1_tryFrom_114 (lv_at hl 0 rfl) ?_
                  refine lv_aload_n hx hb dX1_tryFrom_116 rfl (lv_at hl 2 rfl) ?_
                  refine va_get (D := D) (ci := 1) (v := .ref (aH 4)) (C := RX1) (T := TX1) (N := 10) hx hb hts iX1 hown hK hP 17 rfl rfl 6 (by decide) q3 (fun _ h9 => h9) rfl dX1_tryFrom_117 ?_
                  refine lv_iload_n hx hb dX1_tryFrom_120 rfl (lv_at hl 3 rfl) ?_
                  refine lv_iconst (v := 1) hx hb dX1_tryFrom_121 (by decide) ?_
                  refine lv_iadd hx hb dX1_tryFrom_122 ?_
                  obtain ⟨h9, hf⟩ := kv_ix_e hf
                  refine va_iald hx hb hK hP 21 1 rfl rfl h9 dX1_tryFrom_123 ?_
                  refine lv_iadd hx hb dX1_tryFrom_124 ?_
                  refine lv_aload_n hx hb dX1_tryFrom_125 rfl (lv_at hl 2 rfl) ?_
                  refine va_get (D := D) (ci := 1) (v := .int (mH8 0 9)) (C := RX1) (T := TX1) (N := 10) hx hb hts iX1 hown hK hP 17 rfl rfl 9 (by decide) q4 (fun _ h9 => h9) rfl dX1_tryFrom_126 ?_
                  refine lv_icmp_ge (tgt := 165) hx hb dX1_tryFrom_129 (by decide) (fun hc => ?_) (fun hc => ?_)
                  · have hf := kv_t hc hf
                    obtain ⟨x13, ex13, hf⟩ := kv_lt_e hf
                    refine lv_iinc (v := x13) (lv' := [(4, .int x13), (5, .int x12), (0, .ref (aH 0)), (1, .int p0), (2, .int p1)]) hx hb dX1_tryFrom_165 hl (k := 1) rfl (by rw [ex13]; rfl) (by decide) rfl (fun ls hl => ?_)
                    refine lv_goto (tgt := 63) hx hb dX1_tryFrom_168 (by decide) ?_
                    exact ih _ _ _ _ _ _ hP hD hS (lv_sub hl [0, 2, 3, 4] rfl) hf
                  · have hf := kv_f hc hf
                    refine lv_aload_n hx hb dX1_tryFrom_132 rfl (lv_at hl 2 rfl) ?_
                    refine va_get (D := D) (ci := 1) (v := .ref (aH 1)) (C := RX1) (T := TX1) (N := 10) hx hb hts iX1 hown hK hP 17 rfl rfl 3 (by decide) q7 (fun _ h9 => h9) rfl dX1_tryFrom_133 ?_
                    refine lv_iload_n hx hb dX1_tryFrom_136 rfl (lv_at hl 3 rfl) ?_
                    refine lv_iload hx hb dX1_tryFrom_137 (lv_at hl 1 rfl) ?_
                    obtain ⟨h9, hf⟩ := kv_ix_e hf
                    obtain ⟨mH14, emH14, hf⟩ := kv_lt_e hf
                    refine va_iast hx hb hK hP hD hS 18 1 rfl rfl h9 dX1_tryFrom_139 (fun H locs hP hD hS => ?_)
                    have hP : va_P D vwCl (w_Told C aT mT ++ (w_Mom C aT aP mP ++ (w_Mom C aT aA mA7 ++ w_Hg C aT aP aA aH mH14))) H := by rw [emH14]; exact hP
                    have hD : va_D A (w_Told C aT mT ++ (w_Mom C aT aP mP ++ (w_Mom C aT aA mA7 ++ w_Hg C aT aP aA aH mH14))) := by rw [emH14]; exact hD
                    refine lv_aload_n hx hb dX1_tryFrom_140 rfl (lv_at hl 2 rfl) ?_
                    refine va_get (D := D) (ci := 1) (v := .ref (aH 2)) (C := RX1) (T := TX1) (N := 10) hx hb hts iX1 hown hK hP 17 rfl rfl 4 (by decide) q6 (fun _ h9 => h9) rfl dX1_tryFrom_141 ?_
                    refine lv_iload hx hb dX1_tryFrom_144 (lv_at hl 1 rfl) ?_
                    refine lv_iconst (v := 1) hx hb dX1_tryFrom_146 (by decide) ?_
                    obtain ⟨h9, hf⟩ := kv_ix_e hf
                    obtain ⟨mH15, emH15, hf⟩ := kv_lt_e hf
                    refine va_zast hx hb hK hP hD hS 19 2 rfl rfl h9 dX1_tryFrom_147 (fun H locs hP hD hS => ?_)
                    have hP : va_P D vwCl (w_Told C aT mT ++ (w_Mom C aT aP mP ++ (w_Mom C aT aA mA7 ++ w_Hg C aT aP aA aH mH15))) H := by rw [emH15]; exact hP
                    have hD : va_D A (w_Told C aT mT ++ (w_Mom C aT aP mP ++ (w_Mom C aT aA mA7 ++ w_Hg C aT aP aA aH mH15))) := by rw [emH15]; exact hD
                    refine lv_aload_n hx hb dX1_tryFrom_148 rfl (lv_at hl 2 rfl) ?_
                    refine lv_iload_n hx hb dX1_tryFrom_149 rfl (lv_at hl 3 rfl) ?_
                    refine lv_iconst (v := 1) hx hb dX1_tryFrom_150 (by decide) ?_
                    refine lv_iadd hx hb dX1_tryFrom_151 ?_
                    refine lv_iload hx hb dX1_tryFrom_152 (lv_at hl 0 rfl) ?_
                    obtain ⟨mA16, mH17, hc, hf⟩ := kv_b2_e hf
                    have hs9 : vv_Sub D H A (w_Told C aT mT ++ (w_Mom C aT aP mP ++ (w_Mom C aT aA mA7 ++ w_Hg C aT aP aA aH mH15))) (w_Told C aT mT ++ (w_Mom C aT aP mP ++ (w_Mom C aT aA mA16 ++ w_Hg C aT aP aA aH mH17))) (w_Told C aT mT ++ (w_Mom C aT aP mP ++ (w_Mom C aT aA mA16 ++ w_Hg C aT aP aA aH mH17))) := vv_Sub.same (w_Told C aT mT ++ (w_Mom C aT aP mP ++ (w_Mom C aT aA mA16 ++ w_Hg C aT aP aA aH mH17))) hP hD hS hA
                    refine vv_gov (wn := (w_Told C aT mT ++ (w_Mom C aT aP mP ++ (w_Mom C aT aA mA16 ++ w_Hg C aT aP aA aH mH17)))) hK hs9 hS (vv_rS (As := [.ref (aH 0), .int (p0 + 1), .int x12]) (rest := []) hx hb hml hown hts hK hN hS hs9 (ihd H.size aT aP aA aH mT mP mA7 mH15 (p0 + 1) x12 mA16 mH17 hc) (va_cwS 3 hts gX1_tryFrom_X1_tryFrom rfl rfl rfl (by decide +kernel) ⟨(by simp only [rX1_tryFrom]; omega), (by simp only [rX1_tryFrom]; omega)⟩) rfl hl.1 rfl (Nat.le_of_ble_eq_true rfl) dX1_tryFrom_154 ⟨Nat.zero_le _, Nat.zero_le _⟩) (fun H locs hP hD hS => ?_)
                    refine lv_aload_n hx hb dX1_tryFrom_157 rfl (lv_at hl 2 rfl) ?_
                    refine va_get (D := D) (ci := 1) (v := .ref (aH 2)) (C := RX1) (T := TX1) (N := 10) hx hb hts iX1 hown hK hP 17 rfl rfl 4 (by decide) q6 (fun _ h9 => h9) rfl dX1_tryFrom_158 ?_
                    refine lv_iload hx hb dX1_tryFrom_161 (lv_at hl 1 rfl) ?_
                    refine lv_iconst (v := 0) hx hb dX1_tryFrom_163 (by decide) ?_
                    obtain ⟨h9, hf⟩ := kv_ix_e hf
                    obtain ⟨mH18, emH18, hf⟩ := kv_lt_e hf
                    refine va_zast hx hb hK hP hD hS 19 2 rfl rfl h9 dX1_tryFrom_164 (fun H locs hP hD hS => ?_)
                    have hP : va_P D vwCl (w_Told C aT mT ++ (w_Mom C aT aP mP ++ (w_Mom C aT aA mA16 ++ w_Hg C aT aP aA aH mH18))) H := by rw [emH18]; exact hP
                    have hD : va_D A (w_Told C aT mT ++ (w_Mom C aT aP mP ++ (w_Mom C aT aA mA16 ++ w_Hg C aT aP aA aH mH18))) := by rw [emH18]; exact hD
                    obtain ⟨x19, ex19, hf⟩ := kv_lt_e hf
                    refine lv_iinc (v := x19) (lv' := [(4, .int x19), (5, .int x12), (0, .ref (aH 0)), (1, .int p0), (2, .int p1)]) hx hb dX1_tryFrom_165 hl (k := 1) rfl (by rw [ex19]; rfl) (by decide) rfl (fun ls hl => ?_)
                    refine lv_goto (tgt := 63) hx hb dX1_tryFrom_168 (by decide) ?_
                    exact ih _ _ _ _ _ _ hP hD hS (lv_sub hl [0, 2, 3, 4] rfl) hf
                · have hf := kv_t hc hf
                  refine lv_goto (tgt := 165) hx hb dX1_tryFrom_98 (by decide) ?_
                  obtain ⟨x20, ex20, hf⟩ := kv_lt_e hf
                  refine lv_iinc (v := x20) (lv' := [(4, .int x20), (0, .ref (aH 0)), (1, .int p0), (2, .int p1)]) hx hb dX1_tryFrom_165 hl (k := 0) rfl (by rw [ex20]; rfl) (by decide) rfl (fun ls hl => ?_)
                  refine lv_goto (tgt := 63) hx hb dX1_tryFrom_168 (by decide) ?_
                  exact ih _ _ _ _ _ _ hP hD hS (lv_sub hl [0, 1, 2, 3] rfl) hf
        refine L63 _ (fun x21 mA22 mH23 H locs ls hP hD hS hl hf => ?_) _ _ _ _ _ _ _ hP hD hS (lv_sub hl [0, 1, 2, 3] rfl) hf
        exact hret _ _ _ _ _ _ hf hP hD hS dX1_tryFrom_171
      refine lv_icmp_ge (tgt := 60) hx hb dX1_tryFrom_41 (by decide) (fun hc => ?_) (fun hc => ?_)
      · have hf := kv_t hc hf
        exact J60_3 _ _ _ _ _ hP hD hS (lv_sub hl [1, 2, 3] rfl) hf
      · have hf := kv_f hc hf
        refine lv_aload_n hx hb dX1_tryFrom_44 rfl (lv_at hl 1 rfl) ?_
        refine va_get (D := D) (ci := 1) (v := .ref (aH 1)) (C := RX1) (T := TX1) (N := 10) hx hb hts iX1 hown hK hP 17 rfl rfl 3 (by decide) q7 (fun _ h9 => h9) rfl dX1_tryFrom_45 ?_
        refine lv_iload_n hx hb dX1_tryFrom_48 rfl (lv_at hl 2 rfl) ?_
        refine lv_bipush (v := 9) hx hb dX1_tryFrom_49 (by decide) ?_
        obtain ⟨h9, hf⟩ := kv_ix_e hf
        obtain ⟨mH24, emH24, hf⟩ := kv_lt_e hf
        refine va_iast hx hb hK hP hD hS 18 1 rfl rfl h9 dX1_tryFrom_51 (fun H locs hP hD hS => ?_)
        have hP : va_P D vwCl (w_Told C aT mT ++ (w_Mom C aT aP mP ++ (w_Mom C aT aA mA ++ w_Hg C aT aP aA aH mH24))) H := by rw [emH24]; exact hP
        have hD : va_D A (w_Told C aT mT ++ (w_Mom C aT aP mP ++ (w_Mom C aT aA mA ++ w_Hg C aT aP aA aH mH24))) := by rw [emH24]; exact hD
        refine lv_aload_n hx hb dX1_tryFrom_52 rfl (lv_at hl 1 rfl) ?_
        refine lv_iload_n hx hb dX1_tryFrom_53 rfl (lv_at hl 2 rfl) ?_
        refine lv_iconst (v := 1) hx hb dX1_tryFrom_54 (by decide) ?_
        refine lv_iadd hx hb dX1_tryFrom_55 ?_
        refine lv_iload_n hx hb dX1_tryFrom_56 rfl (lv_at hl 0 rfl) ?_
        obtain ⟨mA25, mH26, hc, hf⟩ := kv_b2_e hf
        have hs9 : vv_Sub D H A (w_Told C aT mT ++ (w_Mom C aT aP mP ++ (w_Mom C aT aA mA ++ w_Hg C aT aP aA aH mH24))) (w_Told C aT mT ++ (w_Mom C aT aP mP ++ (w_Mom C aT aA mA25 ++ w_Hg C aT aP aA aH mH26))) (w_Told C aT mT ++ (w_Mom C aT aP mP ++ (w_Mom C aT aA mA25 ++ w_Hg C aT aP aA aH mH26))) := vv_Sub.same (w_Told C aT mT ++ (w_Mom C aT aP mP ++ (w_Mom C aT aA mA25 ++ w_Hg C aT aP aA aH mH26))) hP hD hS hA
        refine vv_gov (wn := (w_Told C aT mT ++ (w_Mom C aT aP mP ++ (w_Mom C aT aA mA25 ++ w_Hg C aT aP aA aH mH26)))) hK hs9 hS (vv_rS (As := [.ref (aH 0), .int (p0 + 1), .int x2]) (rest := []) hx hb hml hown hts hK hN hS hs9 (ihd H.size aT aP aA aH mT mP mA mH24 (p0 + 1) x2 mA25 mH26 hc) (va_cwS 3 hts gX1_tryFrom_X1_tryFrom rfl rfl rfl (by decide +kernel) ⟨(by simp only [rX1_tryFrom]; omega), (by simp only [rX1_tryFrom]; omega)⟩) rfl hl.1 rfl (Nat.le_of_ble_eq_true rfl) dX1_tryFrom_57 ⟨Nat.zero_le _, Nat.zero_le _⟩) (fun H locs hP hD hS => ?_)
        exact J60_3 _ _ _ _ _ hP hD hS (lv_sub hl [1, 2, 3] rfl) hf
    · have hf := kv_f hc hf
      refine lv_aload_n hx hb dX1_tryFrom_11 rfl (lv_at hl 0 rfl) ?_
      obtain ⟨mA27, mH28, hc, hf⟩ := kv_b2_e hf
      have hs9 : vv_Sub D H A (w_Told C aT mT ++ (w_Mom C aT aP mP ++ (w_Mom C aT aA mA ++ w_Hg C aT aP aA aH mH))) (w_Told C aT mT ++ (w_Mom C aT aP mP ++ (w_Mom C aT aA mA27 ++ w_Hg C aT aP aA aH mH28))) (w_Told C aT mT ++ (w_Mom C aT aP mP ++ (w_Mom C aT aA mA27 ++ w_Hg C aT aP aA aH mH28))) := vv_Sub.same (w_Told C aT mT ++ (w_Mom C aT aP mP ++ (w_Mom C aT aA mA27 ++ w_Hg C aT aP aA aH mH28))) hP hD hS hA
      refine vv_gov (wn := (w_Told C aT mT ++ (w_Mom C aT aP mP ++ (w_Mom C aT aA mA27 ++ w_Hg C aT aP aA aH mH28)))) hK hs9 hS (vv_rV (As := []) (rest := []) hx hb hml hown hts hK hN hS hs9 (ccX1_weigh l D C H.size aT aP aA aH mT mP mA mH mA27 mH28 hc) (cwV 0 hts gX1_tryFrom_X1_weigh rfl rfl rfl (by decide +kernel) ⟨by simp only [rX1_weigh, rX1_tryFrom]; omega, by simp only [rX1_weigh, rX1_tryFrom]; omega⟩) (va_recv hK hP (ci := 1) (q0 := 17) rfl rfl) rfl hl.1 rfl (Nat.le_of_ble_eq_true rfl) dX1_tryFrom_12 ⟨Nat.zero_le _, Nat.zero_le _⟩) (fun H locs hP hD hS => ?_)
      exact hret _ _ _ _ _ _ hf hP hD hS dX1_tryFrom_15
abbrev rX1_search : Room := { frames := 13, cells := 0, slots := 0, locals := 374 }
set_option maxHeartbeats 4000000 in
set_option maxRecDepth 100000 in
theorem ccX1_search (l : Launch) (D : va_G) (C : Nat → ClassId) (sz : Nat) (aT : Nat → Nat) (aP : Nat → Nat) (aA : Nat → Nat) (aH : Nat → Nat) (mT : Mm) (mP : Mm) (mA : Mm) (mH : Mm) (p0 : Int32) (oA : Mm) (oH : Mm) (hf : ffX1_search p0 mT mP mA mH = some (oA, oH)) : Met l yX1_search wsX1_search rX1_search (va_Pc [.ref (aH 0), .int p0] (vv_pre D C (w_Told C aT mT ++ (w_Mom C aT aP mP ++ (w_Mom C aT aA mA ++ w_Hg C aT aP aA aH mH))) sz)) (vv_QV D C (w_Told C aT mT ++ (w_Mom C aT aP mP ++ (w_Mom C aT aA mA ++ w_Hg C aT aP aA aH mH))) (w_Told C aT mT ++ (w_Mom C aT aP mP ++ (w_Mom C aT aA oA ++ w_Hg C aT aP aA aH oH))) sz) 0 0 (va_A (w_Told C aT mT ++ (w_Mom C aT aP mP ++ (w_Mom C aT aA mA ++ w_Hg C aT aP aA aH mH))) sz) := by
  unfold ffX1_search at hf
  refine vv_metV (cc := cX1_search) (maxL := 3) (by decide) rfl (Nat.le_of_ble_eq_true rfl) ?_
  intro p e s m args below meth c A Q H locs ls hx hb hml hown hts hA hK hN hP hD hS hl hret
  have hown : s.vm.findClass RX1 = some m.cls := hown
  have hl : lv_has ls 3 [(0, .ref (aH 0)), (1, .int p0)] := hl
  have hret : ∀ (v0 : Mm) (v1 : Mm) (H : Heap) (locs : List Loc) (ls : Array Slot) (pc : Nat), some (v0, v1) = some (oA, oH) → va_P D vwCl (w_Told C aT mT ++ (w_Mom C aT aP mP ++ (w_Mom C aT aA v0 ++ w_Hg C aT aP aA aH v1))) H → va_D A (w_Told C aT mT ++ (w_Mom C aT aP mP ++ (w_Mom C aT aA v0 ++ w_Hg C aT aP aA aH v1))) → va_S A s.heap H locs → decode cX1_search pc = .ok (.return_, 1) → W p l e rX1_search s m args below meth c H locs 0 0 Q (F0 m pc ls []) := by
    intro v0 v1 H locs ls pc h0 h1 h2 h3 h4
    cases h0
    exact hret H locs ls pc h1 h2 h3 h4
  have q0 := hts (.fieldLink RX1 41 "ForeRain$Hanging" "steps" "I") (by decide +kernel)
  have q1 := hts (.constant RX1 45 1000000) (by decide +kernel)
  have q2 := hts (.fieldLink RX1 46 "ForeRain$Hanging" "least" "I") (by decide +kernel)
  have q3 := hts (.fieldLink RX1 15 "ForeRain$Hanging" "taken" "[Z") (by decide +kernel)
  have iX1 : ∀ w ∈ u_ws RX1 TX1 10, w ∈ wsX1_search := by decide +kernel
  refine lv_aload_n hx hb dX1_search_0 rfl (lv_at hl 0 rfl) ?_
  refine lv_iload_n hx hb dX1_search_1 rfl (lv_at hl 1 rfl) ?_
  obtain ⟨mH1, emH1, hf⟩ := kv_lt_e hf
  refine va_put (D := D) (ci := 1) (v := .int p0) (ty := .int) (C := RX1) (T := TX1) (N := 10) hx hb hts iX1 tyX1 tyX1_ok nmX1 hown hK hP hD hS 17 rfl rfl 7 (by decide) q0 (fun _ h9 => h9) rfl (tyX1_ok 7 (by decide)) rfl rfl (Nat.le_of_ble_eq_true rfl) dX1_search_2 (fun H locs hP hD hS => ?_)
  have hP : va_P D vwCl (w_Told C aT mT ++ (w_Mom C aT aP mP ++ (w_Mom C aT aA mA ++ w_Hg C aT aP aA aH mH1))) H := by rw [emH1]; exact hP
  have hD : va_D A (w_Told C aT mT ++ (w_Mom C aT aP mP ++ (w_Mom C aT aA mA ++ w_Hg C aT aP aA aH mH1))) := by rw [emH1]; exact hD
  refine lv_aload_n hx hb dX1_search_5 rfl (lv_at hl 0 rfl) ?_
  refine lv_ldc (v := 1000000) hx hb hown q1 dX1_search_6 ?_
  obtain ⟨mH2, emH2, hf⟩ := kv_lt_e hf
  refine va_put (D := D) (ci := 1) (v := .int 1000000) (ty := .int) (C := RX1) (T := TX1) (N := 10) hx hb hts iX1 tyX1 tyX1_ok nmX1 hown hK hP hD hS 17 rfl rfl 9 (by decide) q2 (fun _ h9 => h9) rfl (tyX1_ok 9 (by decide)) rfl rfl (Nat.le_of_ble_eq_true rfl) dX1_search_8 (fun H locs hP hD hS => ?_)
  have hP : va_P D vwCl (w_Told C aT mT ++ (w_Mom C aT aP mP ++ (w_Mom C aT aA mA ++ w_Hg C aT aP aA aH mH2))) H := by rw [emH2]; exact hP
  have hD : va_D A (w_Told C aT mT ++ (w_Mom C aT aP mP ++ (w_Mom C aT aA mA ++ w_Hg C aT aP aA aH mH2))) := by rw [emH2]; exact hD
  refine lv_iconst (v := 0) hx hb dX1_search_11 (by decide) ?_
  refine lv_istore_n (lv' := [(2, .int 0), (0, .ref (aH 0)), (1, .int p0)]) hx hb dX1_search_12 rfl hl (by decide) rfl (fun ls hl => ?_)
  have L13 : ∀ (K13 : Int32 → Mm → Option (Mm × Mm)), (∀ (x3 : Int32) (mH4 : Mm) (H : Heap) (locs : List Loc) (ls : Array Slot), va_P D vwCl (w_Told C aT mT ++ (w_Mom C aT aP mP ++ (w_Mom C aT aA mA ++ w_Hg C aT aP aA aH mH4))) H → va_D A (w_Told C aT mT ++ (w_Mom C aT aP mP ++ (w_Mom C aT aA mA ++ w_Hg C aT aP aA aH mH4))) → va_S A s.heap H locs → lv_has ls 3 [(2, .int x3), (0, .ref (aH 0))] → K13 x3 mH4 = some (oA, oH) → W p l e rX1_search s m args below meth c H locs 0 0 Q (F0 m 31 ls [])) → ∀ (n : Nat) (x3 : Int32) (mH4 : Mm) (H : Heap) (locs : List Loc) (ls : Array Slot), va_P D vwCl (w_Told C aT mT ++ (w_Mom C aT aP mP ++ (w_Mom C aT aA mA ++ w_Hg C aT aP aA aH mH4))) H → va_D A (w_Told C aT mT ++ (w_Mom C aT aP mP ++ (w_Mom C aT aA mA ++ w_Hg C aT aP aA aH mH4))) → va_S A s.heap H locs → lv_has ls 3 [(2, .int x3), (0, .ref (aH 0))] → ffX1_search_L13  K13 n x3 mH4 = some (oA, oH) → W p l e rX1_search s m args below meth c H locs 0 0 Q (F0 m 13 ls []) := by
    intro K13 hK9 n
    induction n with
    | zero => intro x3 mH4 H locs ls hP hD hS hl hf; exact kv_no hf
    | succ n ih =>
      intro x3 mH4 H locs ls hP hD hS hl hf
      rw [ffX1_search_L13_s] at hf
      refine lv_iload_n hx hb dX1_search_13 rfl (lv_at hl 0 rfl) ?_
      refine lv_iconst (v := 5) hx hb dX1_search_14 (by decide) ?_
      refine lv_icmp_ge (tgt := 31) hx hb dX1_search_15 (by decide) (fun hc => ?_) (fun hc => ?_)
      · have hf := kv_t hc hf
        exact hK9 _ _ _ _ _ hP hD hS (lv_sub hl [0, 1] rfl) hf
      · have hf := kv_f hc hf
        refine lv_aload_n hx hb dX1_search_18 rfl (lv_at hl 1 rfl) ?_
        refine va_get (D := D) (ci := 1) (v := .ref (aH 2)) (C := RX1) (T := TX1) (N := 10) hx hb hts iX1 hown hK hP 17 rfl rfl 4 (by decide) q3 (fun _ h9 => h9) rfl dX1_search_19 ?_
        refine lv_iload_n hx hb dX1_search_22 rfl (lv_at hl 0 rfl) ?_
        refine lv_iconst (v := 0) hx hb dX1_search_23 (by decide) ?_
        obtain ⟨h9, hf⟩ := kv_ix_e hf
        obtain ⟨mH5, emH5, hf⟩ := kv_lt_e hf
        refine va_zast hx hb hK hP hD hS 19 2 rfl rfl h9 dX1_search_24 (fun H locs hP hD hS => ?_)
        have hP : va_P D vwCl (w_Told C aT mT ++ (w_Mom C aT aP mP ++ (w_Mom C aT aA mA ++ w_Hg C aT aP aA aH mH5))) H := by rw [emH5]; exact hP
        have hD : va_D A (w_Told C aT mT ++ (w_Mom C aT aP mP ++ (w_Mom C aT aA mA ++ w_Hg C aT aP aA aH mH5))) := by rw [emH5]; exact hD
        obtain ⟨x6, ex6, hf⟩ := kv_lt_e hf
        refine lv_iinc (v := x6) (lv' := [(2, .int x6), (0, .ref (aH 0))]) hx hb dX1_search_25 hl (k := 0) rfl (by rw [ex6]; rfl) (by decide) rfl (fun ls hl => ?_)
        refine lv_goto (tgt := 13) hx hb dX1_search_28 (by decide) ?_
        exact ih _ _ _ _ _ hP hD hS (lv_sub hl [0, 1] rfl) hf
  refine L13 _ (fun x7 mH8 H locs ls hP hD hS hl hf => ?_) _ _ _ _ _ _ hP hD hS (lv_sub hl [0, 1] rfl) hf
  refine lv_aload_n hx hb dX1_search_31 rfl (lv_at hl 1 rfl) ?_
  obtain ⟨mA9, mH10, hc, hf⟩ := kv_b2_e hf
  have hs9 : vv_Sub D H A (w_Told C aT mT ++ (w_Mom C aT aP mP ++ (w_Mom C aT aA mA ++ w_Hg C aT aP aA aH mH8))) (w_Told C aT mT ++ (w_Mom C aT aP mP ++ (w_Mom C aT aA mA9 ++ w_Hg C aT aP aA aH mH10))) (w_Told C aT mT ++ (w_Mom C aT aP mP ++ (w_Mom C aT aA mA9 ++ w_Hg C aT aP aA aH mH10))) := vv_Sub.same (w_Told C aT mT ++ (w_Mom C aT aP mP ++ (w_Mom C aT aA mA9 ++ w_Hg C aT aP aA aH mH10))) hP hD hS hA
  refine vv_gov (wn := (w_Told C aT mT ++ (w_Mom C aT aP mP ++ (w_Mom C aT aA mA9 ++ w_Hg C aT aP aA aH mH10)))) hK hs9 hS (vv_rV (As := []) (rest := []) hx hb hml hown hts hK hN hS hs9 (ccX1_findLowest l D C H.size aT aP aA aH mT mP mA mH8 mA9 mH10 hc) (cwV 0 hts gX1_search_X1_findLowest rfl rfl rfl (by decide +kernel) ⟨(Nat.le_of_ble_eq_true rfl), (Nat.le_of_ble_eq_true rfl)⟩) (va_recv hK hP (ci := 1) (q0 := 17) rfl rfl) rfl hl.1 rfl (Nat.le_of_ble_eq_true rfl) dX1_search_32 ⟨Nat.zero_le _, Nat.zero_le _⟩) (fun H locs hP hD hS => ?_)
  refine lv_aload_n hx hb dX1_search_35 rfl (lv_at hl 1 rfl) ?_
  refine lv_iconst (v := 0) hx hb dX1_search_36 (by decide) ?_
  refine lv_iconst (v := 0) hx hb dX1_search_37 (by decide) ?_
  obtain ⟨mA11, mH12, hc, hf⟩ := kv_b2_e hf
  have hs9 : vv_Sub D H A (w_Told C aT mT ++ (w_Mom C aT aP mP ++ (w_Mom C aT aA mA9 ++ w_Hg C aT aP aA aH mH10))) (w_Told C aT mT ++ (w_Mom C aT aP mP ++ (w_Mom C aT aA mA11 ++ w_Hg C aT aP aA aH mH12))) (w_Told C aT mT ++ (w_Mom C aT aP mP ++ (w_Mom C aT aA mA11 ++ w_Hg C aT aP aA aH mH12))) := vv_Sub.same (w_Told C aT mT ++ (w_Mom C aT aP mP ++ (w_Mom C aT aA mA11 ++ w_Hg C aT aP aA aH mH12))) hP hD hS hA
  refine vv_gov (wn := (w_Told C aT mT ++ (w_Mom C aT aP mP ++ (w_Mom C aT aA mA11 ++ w_Hg C aT aP aA aH mH12)))) hK hs9 hS (vv_rS (As := [.ref (aH 0), .int 0, .int 0]) (rest := []) hx hb hml hown hts hK hN hS hs9 (ccX1_tryFrom l D C 8 H.size aT aP aA aH mT mP mA9 mH10 (0 : Int32) (0 : Int32) mA11 mH12 hc) (va_cwS 3 hts gX1_search_X1_tryFrom rfl rfl rfl (by decide +kernel) ⟨by simp only [rX1_tryFrom, rX1_search]; omega, by simp only [rX1_tryFrom, rX1_search]; omega⟩) rfl hl.1 rfl (Nat.le_of_ble_eq_true rfl) dX1_search_38 ⟨Nat.zero_le _, Nat.zero_le _⟩) (fun H locs hP hD hS => ?_)
  exact hret _ _ _ _ _ _ hf hP hD hS dX1_search_41
abbrev rX5_weigh : Room := { frames := 1, cells := 0, slots := 0, locals := 80 }
set_option maxHeartbeats 4000000 in
set_option maxRecDepth 100000 in
theorem ccX5_weigh (l : Launch) (D : va_G) (C : Nat → ClassId) (sz : Nat) (aT : Nat → Nat) (aP : Nat → Nat) (aK : Nat → Nat) (mK : Mm) (p0 : Int32) (oK : Mm) (hf : ffX5_weigh p0 mK = some (oK)) : Met l yX5_weigh wsX5_weigh rX5_weigh (va_Pc [.ref (aK 0), .int p0] (vv_pre D C (w_Tk C aT aP aK mK) sz)) (vv_QV D C (w_Tk C aT aP aK mK) (w_Tk C aT aP aK oK) sz) 0 0 (va_A (w_Tk C aT aP aK mK) sz) := by
  unfold ffX5_weigh at hf
  refine vv_metV (cc := cX5_weigh) (maxL := 2) (by decide) rfl (Nat.le_of_ble_eq_true rfl) ?_
  intro p e s m args below meth c A Q H locs ls hx hb hml hown hts hA hK hN hP hD hS hl hret
  have hown : s.vm.findClass RX5 = some m.cls := hown
  have hl : lv_has ls 2 [(0, .ref (aK 0)), (1, .int p0)] := hl
  have hret : ∀ (v0 : Mm) (H : Heap) (locs : List Loc) (ls : Array Slot) (pc : Nat), some (v0) = some (oK) → va_P D vwCl (w_Tk C aT aP aK v0) H → va_D A (w_Tk C aT aP aK v0) → va_S A s.heap H locs → decode cX5_weigh pc = .ok (.return_, 1) → W p l e rX5_weigh s m args below meth c H locs 0 0 Q (F0 m pc ls []) := by
    intro v0 H locs ls pc h0 h1 h2 h3 h4
    cases h0
    exact hret H locs ls pc h1 h2 h3 h4
  have q0 := hts (.fieldLink RX5 44 "ForeRain$TakingIn" "least" "I") (by decide +kernel)
  have q1 := hts (.fieldLink RX5 9 "ForeRain$TakingIn" "tried" "[I") (by decide +kernel)
  have q2 := hts (.fieldLink RX5 19 "ForeRain$TakingIn" "best" "[I") (by decide +kernel)
  have q3 := hts (.methodLink RX5 74 arraycopyName) (by decide +kernel)
  have q4 := hts (.native arraycopyName) (by decide +kernel)
  have q5 := hts (.static arraycopyName) (by decide +kernel)
  have q6 := hts (.initialized "java/lang/System") (by decide +kernel)
  have iX5 : ∀ w ∈ u_ws RX5 TX5 8, w ∈ wsX5_weigh := by decide +kernel
  refine lv_iload_n hx hb dX5_weigh_0 rfl (lv_at hl 1 rfl) ?_
  refine lv_aload_n hx hb dX5_weigh_1 rfl (lv_at hl 0 rfl) ?_
  refine va_get (D := D) (ci := 5) (v := .int (mK 0 7)) (C := RX5) (T := TX5) (N := 8) hx hb hts iX5 hown hK hP 0 rfl rfl 7 (by decide) q0 (fun _ h9 => h9) rfl dX5_weigh_2 ?_
  refine lv_icmp_ge (tgt := 28) hx hb dX5_weigh_5 (by decide) (fun hc => ?_) (fun hc => ?_)
  · have hf := kv_t hc hf
    exact hret _ _ _ _ _ hf hP hD hS dX5_weigh_28
  · have hf := kv_f hc hf
    refine lv_aload_n hx hb dX5_weigh_8 rfl (lv_at hl 0 rfl) ?_
    refine lv_iload_n hx hb dX5_weigh_9 rfl (lv_at hl 1 rfl) ?_
    obtain ⟨mK1, emK1, hf⟩ := kv_lt_e hf
    refine va_put (D := D) (ci := 5) (v := .int p0) (ty := .int) (C := RX5) (T := TX5) (N := 8) hx hb hts iX5 tyX5 tyX5_ok nmX5 hown hK hP hD hS 0 rfl rfl 7 (by decide) q0 (fun _ h9 => h9) rfl (tyX5_ok 7 (by decide)) rfl rfl (Nat.le_of_ble_eq_true rfl) dX5_weigh_10 (fun H locs hP hD hS => ?_)
    have hP : va_P D vwCl (w_Tk C aT aP aK mK1) H := by rw [emK1]; exact hP
    have hD : va_D A (w_Tk C aT aP aK mK1) := by rw [emK1]; exact hD
    refine lv_aload_n hx hb dX5_weigh_13 rfl (lv_at hl 0 rfl) ?_
    refine va_get (D := D) (ci := 5) (v := .ref (aK 1)) (C := RX5) (T := TX5) (N := 8) hx hb hts iX5 hown hK hP 0 rfl rfl 2 (by decide) q1 (fun _ h9 => h9) rfl dX5_weigh_14 ?_
    refine lv_iconst (v := 0) hx hb dX5_weigh_17 (by decide) ?_
    refine lv_aload_n hx hb dX5_weigh_18 rfl (lv_at hl 0 rfl) ?_
    refine va_get (D := D) (ci := 5) (v := .ref (aK 3)) (C := RX5) (T := TX5) (N := 8) hx hb hts iX5 hown hK hP 0 rfl rfl 5 (by decide) q2 (fun _ h9 => h9) rfl dX5_weigh_19 ?_
    refine lv_iconst (v := 0) hx hb dX5_weigh_22 (by decide) ?_
    refine lv_bipush (v := 6) hx hb dX5_weigh_23 (by decide) ?_
    obtain ⟨mK2, emK2, hf⟩ := kv_lt_e hf
    refine va_copyi hx hb (hml.trans hl.1.symm) hown q3 q4 q5 q6 hK hP hD hS 1 3 1 1 rfl rfl rfl rfl rfl (by decide) (by decide) (by decide) (by decide) (by decide) (fun _ _ => rfl) (Nat.le_of_ble_eq_true rfl) (by decide +kernel) dX5_weigh_25 (fun H locs hP hD hS => ?_)
    have hP : va_P D vwCl (w_Tk C aT aP aK mK2) H := by rw [emK2]; exact hP
    have hD : va_D A (w_Tk C aT aP aK mK2) := by rw [emK2]; exact hD
    exact hret _ _ _ _ _ hf hP hD hS dX5_weigh_28
abbrev rX5_tryFrom (d : Nat) : Room := { frames := 2 + d, cells := 0, slots := 0, locals := 104 + d * 25 }
set_option maxHeartbeats 4000000 in
set_option maxRecDepth 100000 in
theorem ccX5_tryFrom (l : Launch) (D : va_G) (C : Nat → ClassId) : ∀ (d : Nat) (sz : Nat) (aT : Nat → Nat) (aP : Nat → Nat) (aK : Nat → Nat) (mT : Mm) (mP : Mm) (mK : Mm) (p0 : Int32) (p1 : Int32) (oK : Mm), ffX5_tryFrom d p0 p1 mT mP mK = some (oK) → Met l yX5_tryFrom wsX5_tryFrom (rX5_tryFrom d) (va_Pc [.ref (aK 0), .int p0, .int p1] (vv_pre D C (w_Told C aT mT ++ (w_Mom C aT aP mP ++ w_Tk C aT aP aK mK)) sz)) (vv_QV D C (w_Told C aT mT ++ (w_Mom C aT aP mP ++ w_Tk C aT aP aK mK)) (w_Told C aT mT ++ (w_Mom C aT aP mP ++ w_Tk C aT aP aK oK)) sz) 0 0 (va_A (w_Told C aT mT ++ (w_Mom C aT aP mP ++ w_Tk C aT aP aK mK)) sz) := by
  intro d
  induction d with
  | zero => intro sz aT aP aK mT mP mK p0 p1 oK hf; exact kv_no hf
  | succ d ihd =>
    intro sz aT aP aK mT mP mK p0 p1 oK hf
    rw [ffX5_tryFrom_s] at hf
    refine vv_metV (cc := cX5_tryFrom) (maxL := 6) (by decide) rfl (Nat.le_of_ble_eq_true rfl) ?_
    intro p e s m args below meth c A Q H locs ls hx hb hml hown hts hA hK hN hP hD hS hl hret
    have hown : s.vm.findClass RX5 = some m.cls := hown
    have hl : lv_has ls 6 [(0, .ref (aK 0)), (1, .int p0), (2, .int p1)] := hl
    have hret : ∀ (v0 : Mm) (H : Heap) (locs : List Loc) (ls : Array Slot) (pc : Nat), some (v0) = some (oK) → va_P D vwCl (w_Told C aT mT ++ (w_Mom C aT aP mP ++ w_Tk C aT aP aK v0)) H → va_D A (w_Told C aT mT ++ (w_Mom C aT aP mP ++ w_Tk C aT aP aK v0)) → va_S A s.heap H locs → decode cX5_tryFrom pc = .ok (.return_, 1) → W p l e (rX5_tryFrom (d + 1)) s m args below meth c H locs 0 0 Q (F0 m pc ls []) := by
      intro v0 H locs ls pc h0 h1 h2 h3 h4
      cases h0
      exact hret H locs ls pc h1 h2 h3 h4
    have q0 := hts (.fieldLink RX5 40 "ForeRain$TakingIn" "hung" "I") (by decide +kernel)
    have q1 := hts (.fieldLink RX5 22 "ForeRain$TakingIn" "told" "LForeRain$Told;") (by decide +kernel)
    have q2 := hts (.fieldLink RX5 58 "ForeRain$Told" "pieces" "I") (by decide +kernel)
    have q3 := hts (.fieldLink RX5 26 "ForeRain$TakingIn" "present" "LForeRain$Moment;") (by decide +kernel)
    have q4 := hts (.fieldLink RX5 15 "ForeRain$TakingIn" "taken" "[Z") (by decide +kernel)
    have q5 := hts (.fieldLink RX5 67 "ForeRain$Moment" "water" "[I") (by decide +kernel)
    have q6 := hts (.fieldLink RX5 30 "ForeRain$TakingIn" "rain" "I") (by decide +kernel)
    have q7 := hts (.fieldLink RX5 9 "ForeRain$TakingIn" "tried" "[I") (by decide +kernel)
    have iX5 : ∀ w ∈ u_ws RX5 TX5 8, w ∈ wsX5_tryFrom := by decide +kernel
    have iX6 : ∀ w ∈ u_ws RX6 TX6 9, w ∈ wsX5_tryFrom := by decide +kernel
    have iX3 : ∀ w ∈ u_ws RX3 TX3 7, w ∈ wsX5_tryFrom := by decide +kernel
    refine lv_iload_n hx hb dX5_tryFrom_0 rfl (lv_at hl 1 rfl) ?_
    refine lv_aload_n hx hb dX5_tryFrom_1 rfl (lv_at hl 0 rfl) ?_
    refine va_get (D := D) (ci := 5) (v := .int (mK 0 6)) (C := RX5) (T := TX5) (N := 8) hx hb hts iX5 hown hK hP 12 rfl rfl 6 (by decide) q0 (fun _ h9 => h9) rfl dX5_tryFrom_2 ?_
    refine lv_icmp_lt (tgt := 14) hx hb dX5_tryFrom_5 (by decide) (fun hc => ?_) (fun hc => ?_)
    · have hf := kv_t hc hf
      refine lv_iconst (v := 0) hx hb dX5_tryFrom_14 (by decide) ?_
      refine lv_istore_n (lv' := [(3, .int 0), (0, .ref (aK 0)), (1, .int p0), (2, .int p1)]) hx hb dX5_tryFrom_15 rfl hl (by decide) rfl (fun ls hl => ?_)
      have L16 : ∀ (K16 : Int32 → Mm → Option (Mm)), (∀ (x1 : Int32) (mK2 : Mm) (H : Heap) (locs : List Loc) (ls : Array Slot), va_P D vwCl (w_Told C aT mT ++ (w_Mom C aT aP mP ++ w_Tk C aT aP aK mK2)) H → va_D A (w_Told C aT mT ++ (w_Mom C aT aP mP ++ w_Tk C aT aP aK mK2)) → va_S A s.heap H locs → lv_has ls 6 [(3, .int x1), (0, .ref (aK 0)), (1, .int p0), (2, .int p1)] → K16 x1 mK2 = some (oK) → W p l e (rX5_tryFrom (d + 1)) s m args below meth c H locs 0 0 Q (F0 m 116 ls [])) → ∀ (n : Nat) (x1 : Int32) (mK2 : Mm) (H : Heap) (locs : List Loc) (ls : Array Slot), va_P D vwCl (w_Told C aT mT ++ (w_Mom C aT aP mP ++ w_Tk C aT aP aK mK2)) H → va_D A (w_Told C aT mT ++ (w_Mom C aT aP mP ++ w_Tk C aT aP aK mK2)) → va_S A s.heap H locs → lv_has ls 6 [(3, .int x1), (0, .ref (aK 0)), (1, .int p0), (2, .int p1)] → ffX5_tryFrom_L16 p0 p1 mT mP (ffX5_tryFrom d) K16 n x1 mK2 = some (oK) → W p l e (rX5_tryFrom (d + 1)) s m args below meth c H locs 0 0 Q (F0 m 16 ls []) := by
        intro K16 hK9 n
        induction n with
        | zero => intro x1 mK2 H locs ls hP hD hS hl hf; exact kv_no hf
        | succ n ih =>
          intro x1 mK2 H locs ls hP hD hS hl hf
          rw [ffX5_tryFrom_L16_s] at hf
          refine lv_iload_n hx hb dX5_tryFrom_16 rfl (lv_at hl 0 rfl) ?_
          refine lv_aload_n hx hb dX5_tryFrom_17 rfl (lv_at hl 1 rfl) ?_
          refine va_get (D := D) (ci := 5) (v := .ref (aT 0)) (C := RX5) (T := TX5) (N := 8) hx hb hts iX5 hown hK hP 12 rfl rfl 0 (by decide) q1 (fun _ h9 => h9) rfl dX5_tryFrom_18 ?_
          refine va_get (D := D) (ci := 6) (v := .int (mT 0 0)) (C := RX6) (T := TX6) (N := 9) hx hb hts iX6 hown hK hP 0 rfl rfl 0 (by decide) q2 (fun _ h9 => h9) rfl dX5_tryFrom_21 ?_
          refine lv_icmp_ge (tgt := 116) hx hb dX5_tryFrom_24 (by decide) (fun hc => ?_) (fun hc => ?_)
          · have hf := kv_t hc hf
            exact hK9 _ _ _ _ _ hP hD hS (lv_sub hl [0, 1, 2, 3] rfl) hf
          · have hf := kv_f hc hf
            refine lv_aload_n hx hb dX5_tryFrom_27 rfl (lv_at hl 1 rfl) ?_
            refine va_get (D := D) (ci := 5) (v := .ref (aP 0)) (C := RX5) (T := TX5) (N := 8) hx hb hts iX5 hown hK hP 12 rfl rfl 1 (by decide) q3 (fun _ h9 => h9) rfl dX5_tryFrom_28 ?_
            refine lv_iload_n hx hb dX5_tryFrom_31 rfl (lv_at hl 0 rfl) ?_
            obtain ⟨r3, hc, hf⟩ := kv_b1_e hf
            have hs9 : vv_Sub D H A (w_Told C aT mT ++ w_Mom C aT aP mP) (w_Told C aT mT ++ w_Mom C aT aP mP) (w_Told C aT mT ++ (w_Mom C aT aP mP ++ w_Tk C aT aP aK mK2)) := vv_Sub.part (ws := (w_Told C aT mT ++ (w_Mom C aT aP mP ++ w_Tk C aT aP aK mK2))) (wr := (w_Tk C aT aP aK mK2)) [0, 1, 2, 3, 4, 5, 6, 7, 8, 9, 10, 11] [12, 13, 14, 15] [4, 5, 6, 7, 8, 9, 10, 11, 12, 13, 14, 15, 0, 1, 2, 3] hP hD hS hA rfl rfl (by decide) rfl
            refine vv_goi (wn := (w_Told C aT mT ++ (w_Mom C aT aP mP ++ w_Tk C aT aP aK mK2))) hK hs9 hS (vv_rV (As := [.int x1]) (rest := []) hx hb hml hown hts hK hN hS hs9 (ccX3_hangs l D C H.size aT aP mT mP x1 r3 hc) (cwV 1 hts gX5_tryFrom_X3_hangs rfl rfl rfl (by decide +kernel) ⟨by simp only [rX3_hangs, rX5_tryFrom]; omega, by simp only [rX3_hangs, rX5_tryFrom]; omega⟩) (va_recv hK hP (ci := 3) (q0 := 7) rfl rfl) rfl hl.1 rfl (Nat.le_of_ble_eq_true rfl) dX5_tryFrom_32 ⟨Nat.zero_le _, Nat.zero_le _⟩) (fun H locs hP hD hS => ?_)
            refine lv_if_eq (tgt := 110) hx hb dX5_tryFrom_35 (by decide) (fun hc => ?_) (fun hc => ?_)
            · have hf := kv_t hc hf
              obtain ⟨x4, ex4, hf⟩ := kv_lt_e hf
              refine lv_iinc (v := x4) (lv' := [(3, .int x4), (0, .ref (aK 0)), (1, .int p0), (2, .int p1)]) hx hb dX5_tryFrom_110 hl (k := 0) rfl (by rw [ex4]; rfl) (by decide) rfl (fun ls hl => ?_)
              refine lv_goto (tgt := 16) hx hb dX5_tryFrom_113 (by decide) ?_
              exact ih _ _ _ _ _ hP hD hS (lv_sub hl [0, 1, 2, 3] rfl) hf
            · have hf := kv_f hc hf
              refine lv_aload_n hx hb dX5_tryFrom_38 rfl (lv_at hl 1 rfl) ?_
              refine va_get (D := D) (ci := 5) (v := .ref (aK 2)) (C := RX5) (T := TX5) (N := 8) hx hb hts iX5 hown hK hP 12 rfl rfl 3 (by decide) q4 (fun _ h9 => h9) rfl dX5_tryFrom_39 ?_
              refine lv_iload_n hx hb dX5_tryFrom_42 rfl (lv_at hl 0 rfl) ?_
              obtain ⟨h9, hf⟩ := kv_ix_e hf
              refine va_zald hx hb hK hP 14 2 rfl rfl h9 dX5_tryFrom_43 ?_
              refine lv_if_ne (tgt := 110) hx hb dX5_tryFrom_44 (by decide) (fun hc => ?_) (fun hc => ?_)
              · have hf := kv_f hc hf
                obtain ⟨x5, ex5, hf⟩ := kv_lt_e hf
                refine lv_iinc (v := x5) (lv' := [(3, .int x5), (0, .ref (aK 0)), (1, .int p0), (2, .int p1)]) hx hb dX5_tryFrom_110 hl (k := 0) rfl (by rw [ex5]; rfl) (by decide) rfl (fun ls hl => ?_)
                refine lv_goto (tgt := 16) hx hb dX5_tryFrom_113 (by decide) ?_
                exact ih _ _ _ _ _ hP hD hS (lv_sub hl [0, 1, 2, 3] rfl) hf
              · have hf := kv_t hc hf
                refine lv_aload_n hx hb dX5_tryFrom_47 rfl (lv_at hl 1 rfl) ?_
                refine va_get (D := D) (ci := 5) (v := .ref (aP 0)) (C := RX5) (T := TX5) (N := 8) hx hb hts iX5 hown hK hP 12 rfl rfl 1 (by decide) q3 (fun _ h9 => h9) rfl dX5_tryFrom_48 ?_
                refine va_get (D := D) (ci := 3) (v := .ref (aP 1)) (C := RX3) (T := TX3) (N := 7) hx hb hts iX3 hown hK hP 7 rfl rfl 3 (by decide) q5 (fun _ h9 => h9) rfl dX5_tryFrom_51 ?_
                refine lv_iload_n hx hb dX5_tryFrom_54 rfl (lv_at hl 0 rfl) ?_
                obtain ⟨h9, hf⟩ := kv_ix_e hf
                refine va_iald hx hb hK hP 8 1 rfl rfl h9 dX5_tryFrom_55 ?_
                obtain ⟨x6, ex6, hf⟩ := kv_lt_e hf
                refine vv_nami ex6 ?_
                refine lv_istore (lv' := [(4, .int x6), (3, .int x1), (0, .ref (aK 0)), (1, .int p0), (2, .int p1)]) hx hb dX5_tryFrom_56 hl (by decide) rfl (fun ls hl => ?_)
                refine lv_aload_n hx hb dX5_tryFrom_58 rfl (lv_at hl 2 rfl) ?_
                refine va_get (D := D) (ci := 5) (v := .ref (aT 0)) (C := RX5) (T := TX5) (N := 8) hx hb hts iX5 hown hK hP 12 rfl rfl 0 (by decide) q1 (fun _ h9 => h9) rfl dX5_tryFrom_59 ?_
                refine lv_iload_n hx hb dX5_tryFrom_62 rfl (lv_at hl 1 rfl) ?_
                refine lv_iload hx hb dX5_tryFrom_63 (lv_at hl 0 rfl) ?_
                refine lv_aload_n hx hb dX5_tryFrom_65 rfl (lv_at hl 2 rfl) ?_
                refine va_get (D := D) (ci := 5) (v := .int (mK2 0 4)) (C := RX5) (T := TX5) (N := 8) hx hb hts iX5 hown hK hP 12 rfl rfl 4 (by decide) q6 (fun _ h9 => h9) rfl dX5_tryFrom_66 ?_
                refine lv_iload_n hx hb dX5_tryFrom_69 rfl (lv_at hl 3 rfl) ?_
                obtain ⟨r7, hc, hf⟩ := kv_b1_e hf
                have hs9 : vv_Sub D H A (w_Told C aT mT) (w_Told C aT mT) (w_Told C aT mT ++ (w_Mom C aT aP mP ++ w_Tk C aT aP aK mK2)) := vv_Sub.part (ws := (w_Told C aT mT ++ (w_Mom C aT aP mP ++ w_Tk C aT aP aK mK2))) (wr := (w_Mom C aT aP mP ++ w_Tk C aT aP aK mK2)) [0, 1, 2, 3, 4, 5, 6] [7, 8, 9, 10, 11, 12, 13, 14, 15] [9, 10, 11, 12, 13, 14, 15, 0, 1, 2, 3, 4, 5, 6, 7, 8] hP hD hS hA rfl rfl (by decide) rfl
                refine vv_goi (wn := (w_Told C aT mT ++ (w_Mom C aT aP mP ++ w_Tk C aT aP aK mK2))) hK hs9 hS (vv_rV (As := [.int x1, .int x6, .int (mK2 0 4), .int p0]) (rest := []) hx hb hml hown hts hK hN hS hs9 (ccX6_soaked l D C H.size aT mT x1 x6 (mK2 0 4) p0 r7 hc) (cwV 4 hts gX5_tryFrom_X6_soaked rfl rfl rfl (by decide +kernel) ⟨by simp only [rX6_soaked, rX5_tryFrom]; omega, by simp only [rX6_soaked, rX5_tryFrom]; omega⟩) (va_recv hK hP (ci := 6) (q0 := 0) rfl rfl) rfl hl.1 rfl (Nat.le_of_ble_eq_true rfl) dX5_tryFrom_70 ⟨Nat.zero_le _, Nat.zero_le _⟩) (fun H locs hP hD hS => ?_)
                refine lv_istore (lv' := [(5, .int r7), (4, .int x6), (3, .int x1), (0, .ref (aK 0)), (1, .int p0), (2, .int p1)]) hx hb dX5_tryFrom_73 hl (by decide) rfl (fun ls hl => ?_)
                refine lv_aload_n hx hb dX5_tryFrom_75 rfl (lv_at hl 3 rfl) ?_
                refine va_get (D := D) (ci := 5) (v := .ref (aK 1)) (C := RX5) (T := TX5) (N := 8) hx hb hts iX5 hown hK hP 12 rfl rfl 2 (by decide) q7 (fun _ h9 => h9) rfl dX5_tryFrom_76 ?_
                refine lv_iload_n hx hb dX5_tryFrom_79 rfl (lv_at hl 4 rfl) ?_
                refine lv_iload_n hx hb dX5_tryFrom_80 rfl (lv_at hl 2 rfl) ?_
                obtain ⟨h9, hf⟩ := kv_ix_e hf
                obtain ⟨mK8, emK8, hf⟩ := kv_lt_e hf
                refine va_iast hx hb hK hP hD hS 13 1 rfl rfl h9 dX5_tryFrom_81 (fun H locs hP hD hS => ?_)
                have hP : va_P D vwCl (w_Told C aT mT ++ (w_Mom C aT aP mP ++ w_Tk C aT aP aK mK8)) H := by rw [emK8]; exact hP
                have hD : va_D A (w_Told C aT mT ++ (w_Mom C aT aP mP ++ w_Tk C aT aP aK mK8)) := by rw [emK8]; exact hD
                refine lv_aload_n hx hb dX5_tryFrom_82 rfl (lv_at hl 3 rfl) ?_
                refine va_get (D := D) (ci := 5) (v := .ref (aK 2)) (C := RX5) (T := TX5) (N := 8) hx hb hts iX5 hown hK hP 12 rfl rfl 3 (by decide) q4 (fun _ h9 => h9) rfl dX5_tryFrom_83 ?_
                refine lv_iload_n hx hb dX5_tryFrom_86 rfl (lv_at hl 2 rfl) ?_
                refine lv_iconst (v := 1) hx hb dX5_tryFrom_87 (by decide) ?_
                obtain ⟨h9, hf⟩ := kv_ix_e hf
                obtain ⟨mK9, emK9, hf⟩ := kv_lt_e hf
                refine va_zast hx hb hK hP hD hS 14 2 rfl rfl h9 dX5_tryFrom_88 (fun H locs hP hD hS => ?_)
                have hP : va_P D vwCl (w_Told C aT mT ++ (w_Mom C aT aP mP ++ w_Tk C aT aP aK mK9)) H := by rw [emK9]; exact hP
                have hD : va_D A (w_Told C aT mT ++ (w_Mom C aT aP mP ++ w_Tk C aT aP aK mK9)) := by rw [emK9]; exact hD
                refine lv_aload_n hx hb dX5_tryFrom_89 rfl (lv_at hl 3 rfl) ?_
                refine lv_iload_n hx hb dX5_tryFrom_90 rfl (lv_at hl 4 rfl) ?_
                refine lv_iconst (v := 1) hx hb dX5_tryFrom_91 (by decide) ?_
                refine lv_iadd hx hb dX5_tryFrom_92 ?_
                refine lv_iload_n hx hb dX5_tryFrom_93 rfl (lv_at hl 5 rfl) ?_
                refine lv_iload hx hb dX5_tryFrom_94 (lv_at hl 0 rfl) ?_
                refine lv_iadd hx hb dX5_tryFrom_96 ?_
                refine lv_iload hx hb dX5_tryFrom_97 (lv_at hl 1 rfl) ?_
                refine lv_isub hx hb dX5_tryFrom_99 ?_
                obtain ⟨mK10, hc, hf⟩ := kv_b1_e hf
                have hs9 : vv_Sub D H A (w_Told C aT mT ++ (w_Mom C aT aP mP ++ w_Tk C aT aP aK mK9)) (w_Told C aT mT ++ (w_Mom C aT aP mP ++ w_Tk C aT aP aK mK10)) (w_Told C aT mT ++ (w_Mom C aT aP mP ++ w_Tk C aT aP aK mK10)) := vv_Sub.same (w_Told C aT mT ++ (w_Mom C aT aP mP ++ w_Tk C aT aP aK mK10)) hP hD hS hA
                refine vv_gov (wn := (w_Told C aT mT ++ (w_Mom C aT aP mP ++ w_Tk C aT aP aK mK10))) hK hs9 hS (vv_rS (As := [.ref (aK 0), .int (p0 + 1), .int ((p1 + r7) - x6)]) (rest := []) hx hb hml hown hts hK hN hS hs9 (ihd H.size aT aP aK mT mP mK9 (p0 + 1) ((p1 + r7) - x6) mK10 hc) (va_cwS 3 hts gX5_tryFrom_X5_tryFrom rfl rfl rfl (by decide +kernel) ⟨(by simp only [rX5_tryFrom]; omega), (by simp only [rX5_tryFrom]; omega)⟩) rfl hl.1 rfl (Nat.le_of_ble_eq_true rfl) dX5_tryFrom_100 ⟨Nat.zero_le _, Nat.zero_le _⟩) (fun H locs hP hD hS => ?_)
                refine lv_aload_n hx hb dX5_tryFrom_103 rfl (lv_at hl 3 rfl) ?_
                refine va_get (D := D) (ci := 5) (v := .ref (aK 2)) (C := RX5) (T := TX5) (N := 8) hx hb hts iX5 hown hK hP 12 rfl rfl 3 (by decide) q4 (fun _ h9 => h9) rfl dX5_tryFrom_104 ?_
                refine lv_iload_n hx hb dX5_tryFrom_107 rfl (lv_at hl 2 rfl) ?_
                refine lv_iconst (v := 0) hx hb dX5_tryFrom_108 (by decide) ?_
                obtain ⟨h9, hf⟩ := kv_ix_e hf
                obtain ⟨mK11, emK11, hf⟩ := kv_lt_e hf
                refine va_zast hx hb hK hP hD hS 14 2 rfl rfl h9 dX5_tryFrom_109 (fun H locs hP hD hS => ?_)
                have hP : va_P D vwCl (w_Told C aT mT ++ (w_Mom C aT aP mP ++ w_Tk C aT aP aK mK11)) H := by rw [emK11]; exact hP
                have hD : va_D A (w_Told C aT mT ++ (w_Mom C aT aP mP ++ w_Tk C aT aP aK mK11)) := by rw [emK11]; exact hD
                obtain ⟨x12, ex12, hf⟩ := kv_lt_e hf
                refine lv_iinc (v := x12) (lv' := [(3, .int x12), (5, .int r7), (4, .int x6), (0, .ref (aK 0)), (1, .int p0), (2, .int p1)]) hx hb dX5_tryFrom_110 hl (k := 2) rfl (by rw [ex12]; rfl) (by decide) rfl (fun ls hl => ?_)
                refine lv_goto (tgt := 16) hx hb dX5_tryFrom_113 (by decide) ?_
                exact ih _ _ _ _ _ hP hD hS (lv_sub hl [0, 3, 4, 5] rfl) hf
      refine L16 _ (fun x13 mK14 H locs ls hP hD hS hl hf => ?_) _ _ _ _ _ _ hP hD hS (lv_sub hl [0, 1, 2, 3] rfl) hf
      exact hret _ _ _ _ _ hf hP hD hS dX5_tryFrom_116
    · have hf := kv_f hc hf
      refine lv_aload_n hx hb dX5_tryFrom_8 rfl (lv_at hl 0 rfl) ?_
      refine lv_iload_n hx hb dX5_tryFrom_9 rfl (lv_at hl 2 rfl) ?_
      obtain ⟨mK15, hc, hf⟩ := kv_b1_e hf
      have hs9 : vv_Sub D H A (w_Tk C aT aP aK mK) (w_Tk C aT aP aK mK15) (w_Told C aT mT ++ (w_Mom C aT aP mP ++ w_Tk C aT aP aK mK15)) := vv_Sub.part (ws := (w_Told C aT mT ++ (w_Mom C aT aP mP ++ w_Tk C aT aP aK mK))) (wr := (w_Told C aT mT ++ w_Mom C aT aP mP)) [12, 13, 14, 15] [0, 1, 2, 3, 4, 5, 6, 7, 8, 9, 10, 11] [0, 1, 2, 3, 4, 5, 6, 7, 8, 9, 10, 11, 12, 13, 14, 15] hP hD hS hA rfl rfl (by decide) rfl
      refine vv_gov (wn := (w_Told C aT mT ++ (w_Mom C aT aP mP ++ w_Tk C aT aP aK mK15))) hK hs9 hS (vv_rV (As := [.int p1]) (rest := []) hx hb hml hown hts hK hN hS hs9 (ccX5_weigh l D C H.size aT aP aK mK p1 mK15 hc) (cwV 1 hts gX5_tryFrom_X5_weigh rfl rfl rfl (by decide +kernel) ⟨by simp only [rX5_weigh, rX5_tryFrom]; omega, by simp only [rX5_weigh, rX5_tryFrom]; omega⟩) (va_recv hK hP (ci := 5) (q0 := 12) rfl rfl) rfl hl.1 rfl (Nat.le_of_ble_eq_true rfl) dX5_tryFrom_10 ⟨Nat.zero_le _, Nat.zero_le _⟩) (fun H locs hP hD hS => ?_)
      exact hret _ _ _ _ _ hf hP hD hS dX5_tryFrom_13
abbrev rX5_search : Room := { frames := 11, cells := 0, slots := 0, locals := 329 }
set_option maxHeartbeats 4000000 in
set_option maxRecDepth 100000 in
theorem ccX5_search (l : Launch) (D : va_G) (C : Nat → ClassId) (sz : Nat) (aT : Nat → Nat) (aP : Nat → Nat) (aK : Nat → Nat) (mT : Mm) (mP : Mm) (mK : Mm) (p0 : Int32) (oK : Mm) (hf : ffX5_search p0 mT mP mK = some (oK)) : Met l yX5_search wsX5_search rX5_search (va_Pc [.ref (aK 0), .int p0] (vv_pre D C (w_Told C aT mT ++ (w_Mom C aT aP mP ++ w_Tk C aT aP aK mK)) sz)) (vv_QV D C (w_Told C aT mT ++ (w_Mom C aT aP mP ++ w_Tk C aT aP aK mK)) (w_Told C aT mT ++ (w_Mom C aT aP mP ++ w_Tk C aT aP aK oK)) sz) 0 0 (va_A (w_Told C aT mT ++ (w_Mom C aT aP mP ++ w_Tk C aT aP aK mK)) sz) := by
  unfold ffX5_search at hf
  refine vv_metV (cc := cX5_search) (maxL := 3) (by decide) rfl (Nat.le_of_ble_eq_true rfl) ?_
  intro p e s m args below meth c A Q H locs ls hx hb hml hown hts hA hK hN hP hD hS hl hret
  have hown : s.vm.findClass RX5 = some m.cls := hown
  have hl : lv_has ls 3 [(0, .ref (aK 0)), (1, .int p0)] := hl
  have hret : ∀ (v0 : Mm) (H : Heap) (locs : List Loc) (ls : Array Slot) (pc : Nat), some (v0) = some (oK) → va_P D vwCl (w_Told C aT mT ++ (w_Mom C aT aP mP ++ w_Tk C aT aP aK v0)) H → va_D A (w_Told C aT mT ++ (w_Mom C aT aP mP ++ w_Tk C aT aP aK v0)) → va_S A s.heap H locs → decode cX5_search pc = .ok (.return_, 1) → W p l e rX5_search s m args below meth c H locs 0 0 Q (F0 m pc ls []) := by
    intro v0 H locs ls pc h0 h1 h2 h3 h4
    cases h0
    exact hret H locs ls pc h1 h2 h3 h4
  have q0 := hts (.fieldLink RX5 30 "ForeRain$TakingIn" "rain" "I") (by decide +kernel)
  have q1 := hts (.fieldLink RX5 26 "ForeRain$TakingIn" "present" "LForeRain$Moment;") (by decide +kernel)
  have q2 := hts (.fieldLink RX5 40 "ForeRain$TakingIn" "hung" "I") (by decide +kernel)
  have q3 := hts (.constant RX5 43 1000000) (by decide +kernel)
  have q4 := hts (.fieldLink RX5 44 "ForeRain$TakingIn" "least" "I") (by decide +kernel)
  have q5 := hts (.fieldLink RX5 15 "ForeRain$TakingIn" "taken" "[Z") (by decide +kernel)
  have iX5 : ∀ w ∈ u_ws RX5 TX5 8, w ∈ wsX5_search := by decide +kernel
  refine lv_aload_n hx hb dX5_search_0 rfl (lv_at hl 0 rfl) ?_
  refine lv_iload_n hx hb dX5_search_1 rfl (lv_at hl 1 rfl) ?_
  obtain ⟨mK1, emK1, hf⟩ := kv_lt_e hf
  refine va_put (D := D) (ci := 5) (v := .int p0) (ty := .int) (C := RX5) (T := TX5) (N := 8) hx hb hts iX5 tyX5 tyX5_ok nmX5 hown hK hP hD hS 12 rfl rfl 4 (by decide) q0 (fun _ h9 => h9) rfl (tyX5_ok 4 (by decide)) rfl rfl (Nat.le_of_ble_eq_true rfl) dX5_search_2 (fun H locs hP hD hS => ?_)
  have hP : va_P D vwCl (w_Told C aT mT ++ (w_Mom C aT aP mP ++ w_Tk C aT aP aK mK1)) H := by rw [emK1]; exact hP
  have hD : va_D A (w_Told C aT mT ++ (w_Mom C aT aP mP ++ w_Tk C aT aP aK mK1)) := by rw [emK1]; exact hD
  refine lv_aload_n hx hb dX5_search_5 rfl (lv_at hl 0 rfl) ?_
  refine lv_aload_n hx hb dX5_search_6 rfl (lv_at hl 0 rfl) ?_
  refine va_get (D := D) (ci := 5) (v := .ref (aP 0)) (C := RX5) (T := TX5) (N := 8) hx hb hts iX5 hown hK hP 12 rfl rfl 1 (by decide) q1 (fun _ h9 => h9) rfl dX5_search_7 ?_
  obtain ⟨r2, hc, hf⟩ := kv_b1_e hf
  have hs9 : vv_Sub D H A (w_Told C aT mT ++ w_Mom C aT aP mP) (w_Told C aT mT ++ w_Mom C aT aP mP) (w_Told C aT mT ++ (w_Mom C aT aP mP ++ w_Tk C aT aP aK mK1)) := vv_Sub.part (ws := (w_Told C aT mT ++ (w_Mom C aT aP mP ++ w_Tk C aT aP aK mK1))) (wr := (w_Tk C aT aP aK mK1)) [0, 1, 2, 3, 4, 5, 6, 7, 8, 9, 10, 11] [12, 13, 14, 15] [4, 5, 6, 7, 8, 9, 10, 11, 12, 13, 14, 15, 0, 1, 2, 3] hP hD hS hA rfl rfl (by decide) rfl
  refine vv_goi (wn := (w_Told C aT mT ++ (w_Mom C aT aP mP ++ w_Tk C aT aP aK mK1))) hK hs9 hS (vv_rV (As := []) (rest := [.ref (aK 0)]) hx hb hml hown hts hK hN hS hs9 (ccX3_onLine l D C H.size aT aP mT mP r2 hc) (cwV 0 hts gX5_search_X3_onLine rfl rfl rfl (by decide +kernel) ⟨(Nat.le_of_ble_eq_true rfl), (Nat.le_of_ble_eq_true rfl)⟩) (va_recv hK hP (ci := 3) (q0 := 7) rfl rfl) rfl hl.1 rfl (Nat.le_of_ble_eq_true rfl) dX5_search_10 ⟨Nat.zero_le _, Nat.zero_le _⟩) (fun H locs hP hD hS => ?_)
  obtain ⟨mK3, emK3, hf⟩ := kv_lt_e hf
  refine va_put (D := D) (ci := 5) (v := .int r2) (ty := .int) (C := RX5) (T := TX5) (N := 8) hx hb hts iX5 tyX5 tyX5_ok nmX5 hown hK hP hD hS 12 rfl rfl 6 (by decide) q2 (fun _ h9 => h9) rfl (tyX5_ok 6 (by decide)) rfl rfl (Nat.le_of_ble_eq_true rfl) dX5_search_13 (fun H locs hP hD hS => ?_)
  have hP : va_P D vwCl (w_Told C aT mT ++ (w_Mom C aT aP mP ++ w_Tk C aT aP aK mK3)) H := by rw [emK3]; exact hP
  have hD : va_D A (w_Told C aT mT ++ (w_Mom C aT aP mP ++ w_Tk C aT aP aK mK3)) := by rw [emK3]; exact hD
  refine lv_aload_n hx hb dX5_search_16 rfl (lv_at hl 0 rfl) ?_
  refine lv_ldc (v := 1000000) hx hb hown q3 dX5_search_17 ?_
  obtain ⟨mK4, emK4, hf⟩ := kv_lt_e hf
  refine va_put (D := D) (ci := 5) (v := .int 1000000) (ty := .int) (C := RX5) (T := TX5) (N := 8) hx hb hts iX5 tyX5 tyX5_ok nmX5 hown hK hP hD hS 12 rfl rfl 7 (by decide) q4 (fun _ h9 => h9) rfl (tyX5_ok 7 (by decide)) rfl rfl (Nat.le_of_ble_eq_true rfl) dX5_search_19 (fun H locs hP hD hS => ?_)
  have hP : va_P D vwCl (w_Told C aT mT ++ (w_Mom C aT aP mP ++ w_Tk C aT aP aK mK4)) H := by rw [emK4]; exact hP
  have hD : va_D A (w_Told C aT mT ++ (w_Mom C aT aP mP ++ w_Tk C aT aP aK mK4)) := by rw [emK4]; exact hD
  refine lv_iconst (v := 0) hx hb dX5_search_22 (by decide) ?_
  refine lv_istore_n (lv' := [(2, .int 0), (0, .ref (aK 0)), (1, .int p0)]) hx hb dX5_search_23 rfl hl (by decide) rfl (fun ls hl => ?_)
  have L24 : ∀ (K24 : Int32 → Mm → Option (Mm)), (∀ (x5 : Int32) (mK6 : Mm) (H : Heap) (locs : List Loc) (ls : Array Slot), va_P D vwCl (w_Told C aT mT ++ (w_Mom C aT aP mP ++ w_Tk C aT aP aK mK6)) H → va_D A (w_Told C aT mT ++ (w_Mom C aT aP mP ++ w_Tk C aT aP aK mK6)) → va_S A s.heap H locs → lv_has ls 3 [(2, .int x5), (0, .ref (aK 0))] → K24 x5 mK6 = some (oK) → W p l e rX5_search s m args below meth c H locs 0 0 Q (F0 m 43 ls [])) → ∀ (n : Nat) (x5 : Int32) (mK6 : Mm) (H : Heap) (locs : List Loc) (ls : Array Slot), va_P D vwCl (w_Told C aT mT ++ (w_Mom C aT aP mP ++ w_Tk C aT aP aK mK6)) H → va_D A (w_Told C aT mT ++ (w_Mom C aT aP mP ++ w_Tk C aT aP aK mK6)) → va_S A s.heap H locs → lv_has ls 3 [(2, .int x5), (0, .ref (aK 0))] → ffX5_search_L24  K24 n x5 mK6 = some (oK) → W p l e rX5_search s m args below meth c H locs 0 0 Q (F0 m 24 ls []) := by
    intro K24 hK9 n
    induction n with
    | zero => intro x5 mK6 H locs ls hP hD hS hl hf; exact kv_no hf
    | succ n ih =>
      intro x5 mK6 H locs ls hP hD hS hl hf
      rw [ffX5_search_L24_s] at hf
      refine lv_iload_n hx hb dX5_search_24 rfl (lv_at hl 0 rfl) ?_
      refine lv_bipush (v := 6) hx hb dX5_search_25 (by decide) ?_
      refine lv_icmp_ge (tgt := 43) hx hb dX5_search_27 (by decide) (fun hc => ?_) (fun hc => ?_)
      · have hf := kv_t hc hf
        exact hK9 _ _ _ _ _ hP hD hS (lv_sub hl [0, 1] rfl) hf
      · have hf := kv_f hc hf
        refine lv_aload_n hx hb dX5_search_30 rfl (lv_at hl 1 rfl) ?_
        refine va_get (D := D) (ci := 5) (v := .ref (aK 2)) (C := RX5) (T := TX5) (N := 8) hx hb hts iX5 hown hK hP 12 rfl rfl 3 (by decide) q5 (fun _ h9 => h9) rfl dX5_search_31 ?_
        refine lv_iload_n hx hb dX5_search_34 rfl (lv_at hl 0 rfl) ?_
        refine lv_iconst (v := 0) hx hb dX5_search_35 (by decide) ?_
        obtain ⟨h9, hf⟩ := kv_ix_e hf
        obtain ⟨mK7, emK7, hf⟩ := kv_lt_e hf
        refine va_zast hx hb hK hP hD hS 14 2 rfl rfl h9 dX5_search_36 (fun H locs hP hD hS => ?_)
        have hP : va_P D vwCl (w_Told C aT mT ++ (w_Mom C aT aP mP ++ w_Tk C aT aP aK mK7)) H := by rw [emK7]; exact hP
        have hD : va_D A (w_Told C aT mT ++ (w_Mom C aT aP mP ++ w_Tk C aT aP aK mK7)) := by rw [emK7]; exact hD
        obtain ⟨x8, ex8, hf⟩ := kv_lt_e hf
        refine lv_iinc (v := x8) (lv' := [(2, .int x8), (0, .ref (aK 0))]) hx hb dX5_search_37 hl (k := 0) rfl (by rw [ex8]; rfl) (by decide) rfl (fun ls hl => ?_)
        refine lv_goto (tgt := 24) hx hb dX5_search_40 (by decide) ?_
        exact ih _ _ _ _ _ hP hD hS (lv_sub hl [0, 1] rfl) hf
  refine L24 _ (fun x9 mK10 H locs ls hP hD hS hl hf => ?_) _ _ _ _ _ _ hP hD hS (lv_sub hl [0, 1] rfl) hf
  refine lv_aload_n hx hb dX5_search_43 rfl (lv_at hl 1 rfl) ?_
  refine lv_iconst (v := 0) hx hb dX5_search_44 (by decide) ?_
  refine lv_aload_n hx hb dX5_search_45 rfl (lv_at hl 1 rfl) ?_
  refine va_get (D := D) (ci := 5) (v := .ref (aP 0)) (C := RX5) (T := TX5) (N := 8) hx hb hts iX5 hown hK hP 12 rfl rfl 1 (by decide) q1 (fun _ h9 => h9) rfl dX5_search_46 ?_
  obtain ⟨r11, hc, hf⟩ := kv_b1_e hf
  have hs9 : vv_Sub D H A (w_Told C aT mT ++ w_Mom C aT aP mP) (w_Told C aT mT ++ w_Mom C aT aP mP) (w_Told C aT mT ++ (w_Mom C aT aP mP ++ w_Tk C aT aP aK mK10)) := vv_Sub.part (ws := (w_Told C aT mT ++ (w_Mom C aT aP mP ++ w_Tk C aT aP aK mK10))) (wr := (w_Tk C aT aP aK mK10)) [0, 1, 2, 3, 4, 5, 6, 7, 8, 9, 10, 11] [12, 13, 14, 15] [4, 5, 6, 7, 8, 9, 10, 11, 12, 13, 14, 15, 0, 1, 2, 3] hP hD hS hA rfl rfl (by decide) rfl
  refine vv_goi (wn := (w_Told C aT mT ++ (w_Mom C aT aP mP ++ w_Tk C aT aP aK mK10))) hK hs9 hS (vv_rV (As := []) (rest := [.int 0, .ref (aK 0)]) hx hb hml hown hts hK hN hS hs9 (ccX3_allWater l D C H.size aT aP mT mP r11 hc) (cwV 0 hts gX5_search_X3_allWater rfl rfl rfl (by decide +kernel) ⟨(Nat.le_of_ble_eq_true rfl), (Nat.le_of_ble_eq_true rfl)⟩) (va_recv hK hP (ci := 3) (q0 := 7) rfl rfl) rfl hl.1 rfl (Nat.le_of_ble_eq_true rfl) dX5_search_49 ⟨Nat.zero_le _, Nat.zero_le _⟩) (fun H locs hP hD hS => ?_)
  obtain ⟨mK12, hc, hf⟩ := kv_b1_e hf
  have hs9 : vv_Sub D H A (w_Told C aT mT ++ (w_Mom C aT aP mP ++ w_Tk C aT aP aK mK10)) (w_Told C aT mT ++ (w_Mom C aT aP mP ++ w_Tk C aT aP aK mK12)) (w_Told C aT mT ++ (w_Mom C aT aP mP ++ w_Tk C aT aP aK mK12)) := vv_Sub.same (w_Told C aT mT ++ (w_Mom C aT aP mP ++ w_Tk C aT aP aK mK12)) hP hD hS hA
  refine vv_gov (wn := (w_Told C aT mT ++ (w_Mom C aT aP mP ++ w_Tk C aT aP aK mK12))) hK hs9 hS (vv_rS (As := [.ref (aK 0), .int 0, .int r11]) (rest := []) hx hb hml hown hts hK hN hS hs9 (ccX5_tryFrom l D C 8 H.size aT aP aK mT mP mK10 (0 : Int32) r11 mK12 hc) (va_cwS 3 hts gX5_search_X5_tryFrom rfl rfl rfl (by decide +kernel) ⟨by simp only [rX5_tryFrom, rX5_search]; omega, by simp only [rX5_tryFrom, rX5_search]; omega⟩) rfl hl.1 rfl (Nat.le_of_ble_eq_true rfl) dX5_search_52 ⟨Nat.zero_le _, Nat.zero_le _⟩) (fun H locs hP hD hS => ?_)
  exact hret _ _ _ _ _ hf hP hD hS dX5_search_55
