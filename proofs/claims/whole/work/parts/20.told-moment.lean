abbrev rX6_fits : Room := { frames := 0, cells := 0, slots := 0, locals := 0 }
set_option maxHeartbeats 4000000 in
set_option maxRecDepth 100000 in
theorem ccX6_fits (l : Launch) (D : va_G) (C : Nat → ClassId) (sz : Nat) (aT : Nat → Nat) (mT : Mm) (p0 : Int32) (p1 : Int32) (rr : Int32) (hf : ffX6_fits p0 p1 mT = some (rr)) : Met l yX6_fits wsX6_fits rX6_fits (va_Pc [.ref (aT 0), .int p0, .int p1] (vv_pre D C (w_Told C aT mT) sz)) (vv_QI D C (w_Told C aT mT) (w_Told C aT mT) sz rr) 0 0 (va_A (w_Told C aT mT) sz) := by
  unfold ffX6_fits at hf
  refine vv_metI (cc := cX6_fits) (maxL := 3) (ty := .boolean) (by decide) rfl (Nat.le_of_ble_eq_true rfl) ?_
  intro p e s m args below meth c A Q H locs ls hx hb hml hown hts hA hK hN hP hD hS hl hret
  have hown : s.vm.findClass RX6 = some m.cls := hown
  have hl : lv_has ls 3 [(0, .ref (aT 0)), (1, .int p0), (2, .int p1)] := hl
  have hret : ∀ (v0 : Int32) (H : Heap) (locs : List Loc) (ls : Array Slot) (pc : Nat), some (v0) = some (rr) → narrow .boolean (.int v0) = .int v0 → va_P D vwCl (w_Told C aT mT) H → va_D A (w_Told C aT mT) → va_S A s.heap H locs → decode cX6_fits pc = .ok (.ireturn, 1) → W p l e rX6_fits s m args below meth c H locs 0 0 Q (F0 m pc ls [.int v0]) := by
    intro v0 H locs ls pc h0 hn h1 h2 h3 h4
    cases h0
    exact hret H locs ls pc hn h1 h2 h3 h4
  have q0 := hts (.fieldLink RX6 15 "ForeRain$Told" "wide" "[I") (by decide +kernel)
  have q1 := hts (.fieldLink RX6 21 "ForeRain$Told" "room" "[I") (by decide +kernel)
  have iX6 : ∀ w ∈ u_ws RX6 TX6 9, w ∈ wsX6_fits := by decide +kernel
  refine lv_aload_n hx hb dX6_fits_0 rfl (lv_at hl 0 rfl) ?_
  refine va_get (D := D) (ci := 6) (v := .ref (aT 2)) (C := RX6) (T := TX6) (N := 9) hx hb hts iX6 hown hK hP 0 rfl rfl 4 (by decide) q0 (fun _ h9 => h9) rfl dX6_fits_1 ?_
  refine lv_iload_n hx hb dX6_fits_4 rfl (lv_at hl 1 rfl) ?_
  obtain ⟨h9, hf⟩ := kv_ix_e hf
  refine va_iald hx hb hK hP 2 1 rfl rfl h9 dX6_fits_5 ?_
  refine lv_aload_n hx hb dX6_fits_6 rfl (lv_at hl 0 rfl) ?_
  refine va_get (D := D) (ci := 6) (v := .ref (aT 4)) (C := RX6) (T := TX6) (N := 9) hx hb hts iX6 hown hK hP 0 rfl rfl 6 (by decide) q1 (fun _ h9 => h9) rfl dX6_fits_7 ?_
  refine lv_iload_n hx hb dX6_fits_10 rfl (lv_at hl 2 rfl) ?_
  obtain ⟨h9, hf⟩ := kv_ix_e hf
  refine va_iald hx hb hK hP 4 1 rfl rfl h9 dX6_fits_11 ?_
  refine lv_icmp_gt (tgt := 19) hx hb dX6_fits_12 (by decide) (fun hc => ?_) (fun hc => ?_)
  · have hf := kv_t hc hf
    refine lv_iconst (v := 0) hx hb dX6_fits_19 (by decide) ?_
    exact hret _ _ _ _ _ hf rfl hP hD hS dX6_fits_20
  · have hf := kv_f hc hf
    refine lv_iconst (v := 1) hx hb dX6_fits_15 (by decide) ?_
    refine lv_goto (tgt := 20) hx hb dX6_fits_16 (by decide) ?_
    exact hret _ _ _ _ _ hf rfl hP hD hS dX6_fits_20
abbrev rX3_copy : Room := { frames := 0, cells := 0, slots := 0, locals := 0 }
set_option maxHeartbeats 4000000 in
set_option maxRecDepth 100000 in
theorem ccX3_copy (l : Launch) (D : va_G) (C : Nat → ClassId) (sz : Nat) (aT : Nat → Nat) (aM : Nat → Nat) (aO3 : Nat → Nat) (mT : Mm) (mM : Mm) (mO3 : Mm) (oM : Mm) (hf : ffX3_copy mT mM mO3 = some (oM)) : Met l yX3_copy wsX3_copy rX3_copy (va_Pc [.ref (aM 0), .ref (aO3 0)] (vv_pre D C (w_Told C aT mT ++ (w_Mom C aT aM mM ++ w_Mom C aT aO3 mO3)) sz)) (vv_QV D C (w_Told C aT mT ++ (w_Mom C aT aM mM ++ w_Mom C aT aO3 mO3)) (w_Told C aT mT ++ (w_Mom C aT aM oM ++ w_Mom C aT aO3 mO3)) sz) 0 0 (va_A (w_Told C aT mT ++ (w_Mom C aT aM mM ++ w_Mom C aT aO3 mO3)) sz) := by
  unfold ffX3_copy at hf
  refine vv_metV (cc := cX3_copy) (maxL := 3) (by decide) rfl (Nat.le_of_ble_eq_true rfl) ?_
  intro p e s m args below meth c A Q H locs ls hx hb hml hown hts hA hK hN hP hD hS hl hret
  have hown : s.vm.findClass RX3 = some m.cls := hown
  have hl : lv_has ls 3 [(0, .ref (aM 0)), (1, .ref (aO3 0))] := hl
  have hret : ∀ (v0 : Mm) (H : Heap) (locs : List Loc) (ls : Array Slot) (pc : Nat), some (v0) = some (oM) → va_P D vwCl (w_Told C aT mT ++ (w_Mom C aT aM v0 ++ w_Mom C aT aO3 mO3)) H → va_D A (w_Told C aT mT ++ (w_Mom C aT aM v0 ++ w_Mom C aT aO3 mO3)) → va_S A s.heap H locs → decode cX3_copy pc = .ok (.return_, 1) → W p l e rX3_copy s m args below meth c H locs 0 0 Q (F0 m pc ls []) := by
    intro v0 H locs ls pc h0 h1 h2 h3 h4
    cases h0
    exact hret H locs ls pc h1 h2 h3 h4
  have q0 := hts (.fieldLink RX3 29 "ForeRain$Moment" "step" "I") (by decide +kernel)
  have q1 := hts (.fieldLink RX3 33 "ForeRain$Moment" "damp" "I") (by decide +kernel)
  have q2 := hts (.fieldLink RX3 25 "ForeRain$Moment" "told" "LForeRain$Told;") (by decide +kernel)
  have q3 := hts (.fieldLink RX3 36 "ForeRain$Told" "pieces" "I") (by decide +kernel)
  have q4 := hts (.fieldLink RX3 9 "ForeRain$Moment" "water" "[I") (by decide +kernel)
  have q5 := hts (.fieldLink RX3 15 "ForeRain$Moment" "age" "[I") (by decide +kernel)
  have q6 := hts (.fieldLink RX3 18 "ForeRain$Moment" "place" "[I") (by decide +kernel)
  have q7 := hts (.fieldLink RX3 21 "ForeRain$Moment" "smells" "[Z") (by decide +kernel)
  have iX3 : ∀ w ∈ u_ws RX3 TX3 7, w ∈ wsX3_copy := by decide +kernel
  have iX6 : ∀ w ∈ u_ws RX6 TX6 9, w ∈ wsX3_copy := by decide +kernel
  refine lv_aload_n hx hb dX3_copy_0 rfl (lv_at hl 0 rfl) ?_
  refine lv_aload_n hx hb dX3_copy_1 rfl (lv_at hl 1 rfl) ?_
  refine va_get (D := D) (ci := 3) (v := .int (mO3 0 1)) (C := RX3) (T := TX3) (N := 7) hx hb hts iX3 hown hK hP 12 rfl rfl 1 (by decide) q0 (fun _ h9 => h9) rfl dX3_copy_2 ?_
  obtain ⟨x1, ex1, hf⟩ := kv_lt_e hf
  refine vv_nami ex1 ?_
  obtain ⟨mM2, emM2, hf⟩ := kv_lt_e hf
  refine va_put (D := D) (ci := 3) (v := .int x1) (ty := .int) (C := RX3) (T := TX3) (N := 7) hx hb hts iX3 tyX3 tyX3_ok nmX3 hown hK hP hD hS 7 rfl rfl 1 (by decide) q0 (fun _ h9 => h9) rfl (tyX3_ok 1 (by decide)) rfl rfl (Nat.le_of_ble_eq_true rfl) dX3_copy_5 (fun H locs hP hD hS => ?_)
  have hP : va_P D vwCl (w_Told C aT mT ++ (w_Mom C aT aM mM2 ++ w_Mom C aT aO3 mO3)) H := by rw [emM2]; exact hP
  have hD : va_D A (w_Told C aT mT ++ (w_Mom C aT aM mM2 ++ w_Mom C aT aO3 mO3)) := by rw [emM2]; exact hD
  refine lv_aload_n hx hb dX3_copy_8 rfl (lv_at hl 0 rfl) ?_
  refine lv_aload_n hx hb dX3_copy_9 rfl (lv_at hl 1 rfl) ?_
  refine va_get (D := D) (ci := 3) (v := .int (mO3 0 2)) (C := RX3) (T := TX3) (N := 7) hx hb hts iX3 hown hK hP 12 rfl rfl 2 (by decide) q1 (fun _ h9 => h9) rfl dX3_copy_10 ?_
  obtain ⟨x3, ex3, hf⟩ := kv_lt_e hf
  refine vv_nami ex3 ?_
  obtain ⟨mM4, emM4, hf⟩ := kv_lt_e hf
  refine va_put (D := D) (ci := 3) (v := .int x3) (ty := .int) (C := RX3) (T := TX3) (N := 7) hx hb hts iX3 tyX3 tyX3_ok nmX3 hown hK hP hD hS 7 rfl rfl 2 (by decide) q1 (fun _ h9 => h9) rfl (tyX3_ok 2 (by decide)) rfl rfl (Nat.le_of_ble_eq_true rfl) dX3_copy_13 (fun H locs hP hD hS => ?_)
  have hP : va_P D vwCl (w_Told C aT mT ++ (w_Mom C aT aM mM4 ++ w_Mom C aT aO3 mO3)) H := by rw [emM4]; exact hP
  have hD : va_D A (w_Told C aT mT ++ (w_Mom C aT aM mM4 ++ w_Mom C aT aO3 mO3)) := by rw [emM4]; exact hD
  refine lv_iconst (v := 0) hx hb dX3_copy_16 (by decide) ?_
  refine lv_istore_n (lv' := [(2, .int 0), (0, .ref (aM 0)), (1, .ref (aO3 0))]) hx hb dX3_copy_17 rfl hl (by decide) rfl (fun ls hl => ?_)
  have L18 : ∀ (K18 : Int32 → Mm → Option (Mm)), (∀ (x5 : Int32) (mM6 : Mm) (H : Heap) (locs : List Loc) (ls : Array Slot), va_P D vwCl (w_Told C aT mT ++ (w_Mom C aT aM mM6 ++ w_Mom C aT aO3 mO3)) H → va_D A (w_Told C aT mT ++ (w_Mom C aT aM mM6 ++ w_Mom C aT aO3 mO3)) → va_S A s.heap H locs → lv_has ls 3 [(2, .int x5), (0, .ref (aM 0)), (1, .ref (aO3 0))] → K18 x5 mM6 = some (oM) → W p l e rX3_copy s m args below meth c H locs 0 0 Q (F0 m 83 ls [])) → ∀ (n : Nat) (x5 : Int32) (mM6 : Mm) (H : Heap) (locs : List Loc) (ls : Array Slot), va_P D vwCl (w_Told C aT mT ++ (w_Mom C aT aM mM6 ++ w_Mom C aT aO3 mO3)) H → va_D A (w_Told C aT mT ++ (w_Mom C aT aM mM6 ++ w_Mom C aT aO3 mO3)) → va_S A s.heap H locs → lv_has ls 3 [(2, .int x5), (0, .ref (aM 0)), (1, .ref (aO3 0))] → ffX3_copy_L18 mT mO3 K18 n x5 mM6 = some (oM) → W p l e rX3_copy s m args below meth c H locs 0 0 Q (F0 m 18 ls []) := by
    intro K18 hK9 n
    induction n with
    | zero => intro x5 mM6 H locs ls hP hD hS hl hf; exact kv_no hf
    | succ n ih =>
      intro x5 mM6 H locs ls hP hD hS hl hf
      rw [ffX3_copy_L18_s] at hf
      refine lv_iload_n hx hb dX3_copy_18 rfl (lv_at hl 0 rfl) ?_
      refine lv_aload_n hx hb dX3_copy_19 rfl (lv_at hl 1 rfl) ?_
      refine va_get (D := D) (ci := 3) (v := .ref (aT 0)) (C := RX3) (T := TX3) (N := 7) hx hb hts iX3 hown hK hP 7 rfl rfl 0 (by decide) q2 (fun _ h9 => h9) rfl dX3_copy_20 ?_
      refine va_get (D := D) (ci := 6) (v := .int (mT 0 0)) (C := RX6) (T := TX6) (N := 9) hx hb hts iX6 hown hK hP 0 rfl rfl 0 (by decide) q3 (fun _ h9 => h9) rfl dX3_copy_23 ?_
      refine lv_icmp_ge (tgt := 83) hx hb dX3_copy_26 (by decide) (fun hc => ?_) (fun hc => ?_)
      · have hf := kv_t hc hf
        exact hK9 _ _ _ _ _ hP hD hS (lv_sub hl [0, 1, 2] rfl) hf
      · have hf := kv_f hc hf
        refine lv_aload_n hx hb dX3_copy_29 rfl (lv_at hl 1 rfl) ?_
        refine va_get (D := D) (ci := 3) (v := .ref (aM 1)) (C := RX3) (T := TX3) (N := 7) hx hb hts iX3 hown hK hP 7 rfl rfl 3 (by decide) q4 (fun _ h9 => h9) rfl dX3_copy_30 ?_
        refine lv_iload_n hx hb dX3_copy_33 rfl (lv_at hl 0 rfl) ?_
        refine lv_aload_n hx hb dX3_copy_34 rfl (lv_at hl 2 rfl) ?_
        refine va_get (D := D) (ci := 3) (v := .ref (aO3 1)) (C := RX3) (T := TX3) (N := 7) hx hb hts iX3 hown hK hP 12 rfl rfl 3 (by decide) q4 (fun _ h9 => h9) rfl dX3_copy_35 ?_
        refine lv_iload_n hx hb dX3_copy_38 rfl (lv_at hl 0 rfl) ?_
        obtain ⟨h9, hf⟩ := kv_ix_e hf
        refine va_iald hx hb hK hP 13 1 rfl rfl h9 dX3_copy_39 ?_
        obtain ⟨x7, ex7, hf⟩ := kv_lt_e hf
        refine vv_nami ex7 ?_
        obtain ⟨h9, hf⟩ := kv_ix_e hf
        obtain ⟨mM8, emM8, hf⟩ := kv_lt_e hf
        refine va_iast hx hb hK hP hD hS 8 1 rfl rfl h9 dX3_copy_40 (fun H locs hP hD hS => ?_)
        have hP : va_P D vwCl (w_Told C aT mT ++ (w_Mom C aT aM mM8 ++ w_Mom C aT aO3 mO3)) H := by rw [emM8]; exact hP
        have hD : va_D A (w_Told C aT mT ++ (w_Mom C aT aM mM8 ++ w_Mom C aT aO3 mO3)) := by rw [emM8]; exact hD
        refine lv_aload_n hx hb dX3_copy_41 rfl (lv_at hl 1 rfl) ?_
        refine va_get (D := D) (ci := 3) (v := .ref (aM 2)) (C := RX3) (T := TX3) (N := 7) hx hb hts iX3 hown hK hP 7 rfl rfl 4 (by decide) q5 (fun _ h9 => h9) rfl dX3_copy_42 ?_
        refine lv_iload_n hx hb dX3_copy_45 rfl (lv_at hl 0 rfl) ?_
        refine lv_aload_n hx hb dX3_copy_46 rfl (lv_at hl 2 rfl) ?_
        refine va_get (D := D) (ci := 3) (v := .ref (aO3 2)) (C := RX3) (T := TX3) (N := 7) hx hb hts iX3 hown hK hP 12 rfl rfl 4 (by decide) q5 (fun _ h9 => h9) rfl dX3_copy_47 ?_
        refine lv_iload_n hx hb dX3_copy_50 rfl (lv_at hl 0 rfl) ?_
        obtain ⟨h9, hf⟩ := kv_ix_e hf
        refine va_iald hx hb hK hP 14 1 rfl rfl h9 dX3_copy_51 ?_
        obtain ⟨x9, ex9, hf⟩ := kv_lt_e hf
        refine vv_nami ex9 ?_
        obtain ⟨h9, hf⟩ := kv_ix_e hf
        obtain ⟨mM10, emM10, hf⟩ := kv_lt_e hf
        refine va_iast hx hb hK hP hD hS 9 1 rfl rfl h9 dX3_copy_52 (fun H locs hP hD hS => ?_)
        have hP : va_P D vwCl (w_Told C aT mT ++ (w_Mom C aT aM mM10 ++ w_Mom C aT aO3 mO3)) H := by rw [emM10]; exact hP
        have hD : va_D A (w_Told C aT mT ++ (w_Mom C aT aM mM10 ++ w_Mom C aT aO3 mO3)) := by rw [emM10]; exact hD
        refine lv_aload_n hx hb dX3_copy_53 rfl (lv_at hl 1 rfl) ?_
        refine va_get (D := D) (ci := 3) (v := .ref (aM 3)) (C := RX3) (T := TX3) (N := 7) hx hb hts iX3 hown hK hP 7 rfl rfl 5 (by decide) q6 (fun _ h9 => h9) rfl dX3_copy_54 ?_
        refine lv_iload_n hx hb dX3_copy_57 rfl (lv_at hl 0 rfl) ?_
        refine lv_aload_n hx hb dX3_copy_58 rfl (lv_at hl 2 rfl) ?_
        refine va_get (D := D) (ci := 3) (v := .ref (aO3 3)) (C := RX3) (T := TX3) (N := 7) hx hb hts iX3 hown hK hP 12 rfl rfl 5 (by decide) q6 (fun _ h9 => h9) rfl dX3_copy_59 ?_
        refine lv_iload_n hx hb dX3_copy_62 rfl (lv_at hl 0 rfl) ?_
        obtain ⟨h9, hf⟩ := kv_ix_e hf
        refine va_iald hx hb hK hP 15 1 rfl rfl h9 dX3_copy_63 ?_
        obtain ⟨x11, ex11, hf⟩ := kv_lt_e hf
        refine vv_nami ex11 ?_
        obtain ⟨h9, hf⟩ := kv_ix_e hf
        obtain ⟨mM12, emM12, hf⟩ := kv_lt_e hf
        refine va_iast hx hb hK hP hD hS 10 1 rfl rfl h9 dX3_copy_64 (fun H locs hP hD hS => ?_)
        have hP : va_P D vwCl (w_Told C aT mT ++ (w_Mom C aT aM mM12 ++ w_Mom C aT aO3 mO3)) H := by rw [emM12]; exact hP
        have hD : va_D A (w_Told C aT mT ++ (w_Mom C aT aM mM12 ++ w_Mom C aT aO3 mO3)) := by rw [emM12]; exact hD
        refine lv_aload_n hx hb dX3_copy_65 rfl (lv_at hl 1 rfl) ?_
        refine va_get (D := D) (ci := 3) (v := .ref (aM 4)) (C := RX3) (T := TX3) (N := 7) hx hb hts iX3 hown hK hP 7 rfl rfl 6 (by decide) q7 (fun _ h9 => h9) rfl dX3_copy_66 ?_
        refine lv_iload_n hx hb dX3_copy_69 rfl (lv_at hl 0 rfl) ?_
        refine lv_aload_n hx hb dX3_copy_70 rfl (lv_at hl 2 rfl) ?_
        refine va_get (D := D) (ci := 3) (v := .ref (aO3 4)) (C := RX3) (T := TX3) (N := 7) hx hb hts iX3 hown hK hP 12 rfl rfl 6 (by decide) q7 (fun _ h9 => h9) rfl dX3_copy_71 ?_
        refine lv_iload_n hx hb dX3_copy_74 rfl (lv_at hl 0 rfl) ?_
        obtain ⟨h9, hf⟩ := kv_ix_e hf
        refine va_zald hx hb hK hP 16 2 rfl rfl h9 dX3_copy_75 ?_
        obtain ⟨x13, ex13, hf⟩ := kv_lt_e hf
        refine vv_nami ex13 ?_
        obtain ⟨h9, hf⟩ := kv_ix_e hf
        obtain ⟨mM14, emM14, hf⟩ := kv_lt_e hf
        refine va_zast hx hb hK hP hD hS 11 2 rfl rfl h9 dX3_copy_76 (fun H locs hP hD hS => ?_)
        have hP : va_P D vwCl (w_Told C aT mT ++ (w_Mom C aT aM mM14 ++ w_Mom C aT aO3 mO3)) H := by rw [emM14]; exact hP
        have hD : va_D A (w_Told C aT mT ++ (w_Mom C aT aM mM14 ++ w_Mom C aT aO3 mO3)) := by rw [emM14]; exact hD
        obtain ⟨x15, ex15, hf⟩ := kv_lt_e hf
        refine lv_iinc (v := x15) (lv' := [(2, .int x15), (0, .ref (aM 0)), (1, .ref (aO3 0))]) hx hb dX3_copy_77 hl (k := 0) rfl (by rw [ex15]; rfl) (by decide) rfl (fun ls hl => ?_)
        refine lv_goto (tgt := 18) hx hb dX3_copy_80 (by decide) ?_
        exact ih _ _ _ _ _ hP hD hS (lv_sub hl [0, 1, 2] rfl) hf
  refine L18 _ (fun x16 mM17 H locs ls hP hD hS hl hf => ?_) _ _ _ _ _ _ hP hD hS (lv_sub hl [0, 1, 2] rfl) hf
  exact hret _ _ _ _ _ hf hP hD hS dX3_copy_83
abbrev rX7_within : Room := { frames := 0, cells := 0, slots := 0, locals := 0 }
set_option maxHeartbeats 4000000 in
set_option maxRecDepth 100000 in
theorem ccX7_within (l : Launch) (D : va_G) (C : Nat → ClassId) (sz : Nat) (p0 : Int32) (p1 : Int32) (p2 : Int32) (rr : Int32) (hf : ffX7_within p0 p1 p2 = some (rr)) : Met l yX7_within wsX7_within rX7_within (va_Pc [.int p0, .int p1, .int p2] (vv_pre D C ([] : va_W) sz)) (vv_QI D C ([] : va_W) ([] : va_W) sz rr) 0 0 (va_A ([] : va_W) sz) := by
  unfold ffX7_within at hf
  refine vv_metI (cc := cX7_within) (maxL := 3) (ty := .boolean) (by decide) rfl (Nat.le_of_ble_eq_true rfl) ?_
  intro p e s m args below meth c A Q H locs ls hx hb hml hown hts hA hK hN hP hD hS hl hret
  have hown : s.vm.findClass RX7 = some m.cls := hown
  have hl : lv_has ls 3 [(0, .int p0), (1, .int p1), (2, .int p2)] := hl
  have hret : ∀ (v0 : Int32) (H : Heap) (locs : List Loc) (ls : Array Slot) (pc : Nat), some (v0) = some (rr) → narrow .boolean (.int v0) = .int v0 → va_P D vwCl ([] : va_W) H → va_D A ([] : va_W) → va_S A s.heap H locs → decode cX7_within pc = .ok (.ireturn, 1) → W p l e rX7_within s m args below meth c H locs 0 0 Q (F0 m pc ls [.int v0]) := by
    intro v0 H locs ls pc h0 hn h1 h2 h3 h4
    cases h0
    exact hret H locs ls pc hn h1 h2 h3 h4
  refine lv_iload_n hx hb dX7_within_0 rfl (lv_at hl 0 rfl) ?_
  refine lv_iload_n hx hb dX7_within_1 rfl (lv_at hl 1 rfl) ?_
  refine lv_icmp_lt (tgt := 14) hx hb dX7_within_2 (by decide) (fun hc => ?_) (fun hc => ?_)
  · have hf := kv_t hc hf
    refine lv_iconst (v := 0) hx hb dX7_within_14 (by decide) ?_
    exact hret _ _ _ _ _ hf rfl hP hD hS dX7_within_15
  · have hf := kv_f hc hf
    refine lv_iload_n hx hb dX7_within_5 rfl (lv_at hl 0 rfl) ?_
    refine lv_iload_n hx hb dX7_within_6 rfl (lv_at hl 2 rfl) ?_
    refine lv_icmp_gt (tgt := 14) hx hb dX7_within_7 (by decide) (fun hc => ?_) (fun hc => ?_)
    · have hf := kv_t hc hf
      refine lv_iconst (v := 0) hx hb dX7_within_14 (by decide) ?_
      exact hret _ _ _ _ _ hf rfl hP hD hS dX7_within_15
    · have hf := kv_f hc hf
      refine lv_iconst (v := 1) hx hb dX7_within_10 (by decide) ?_
      refine lv_goto (tgt := 15) hx hb dX7_within_11 (by decide) ?_
      exact hret _ _ _ _ _ hf rfl hP hD hS dX7_within_15
abbrev rX6_skyIn : Room := { frames := 1, cells := 0, slots := 0, locals := 22 }
set_option maxHeartbeats 4000000 in
set_option maxRecDepth 100000 in
theorem ccX6_skyIn (l : Launch) (D : va_G) (C : Nat → ClassId) (sz : Nat) (aT : Nat → Nat) (mT : Mm) (p0 : Int32) (rr : Int32) (hf : ffX6_skyIn p0 mT = some (rr)) : Met l yX6_skyIn wsX6_skyIn rX6_skyIn (va_Pc [.ref (aT 0), .int p0] (vv_pre D C (w_Told C aT mT) sz)) (vv_QI D C (w_Told C aT mT) (w_Told C aT mT) sz rr) 0 0 (va_A (w_Told C aT mT) sz) := by
  unfold ffX6_skyIn at hf
  refine vv_metI (cc := cX6_skyIn) (maxL := 2) (ty := .int) (by decide) rfl (Nat.le_of_ble_eq_true rfl) ?_
  intro p e s m args below meth c A Q H locs ls hx hb hml hown hts hA hK hN hP hD hS hl hret
  have hown : s.vm.findClass RX6 = some m.cls := hown
  have hl : lv_has ls 2 [(0, .ref (aT 0)), (1, .int p0)] := hl
  have hret : ∀ (v0 : Int32) (H : Heap) (locs : List Loc) (ls : Array Slot) (pc : Nat), some (v0) = some (rr) → narrow .int (.int v0) = .int v0 → va_P D vwCl (w_Told C aT mT) H → va_D A (w_Told C aT mT) → va_S A s.heap H locs → decode cX6_skyIn pc = .ok (.ireturn, 1) → W p l e rX6_skyIn s m args below meth c H locs 0 0 Q (F0 m pc ls [.int v0]) := by
    intro v0 H locs ls pc h0 hn h1 h2 h3 h4
    cases h0
    exact hret H locs ls pc hn h1 h2 h3 h4
  have q0 := hts (.fieldLink RX6 37 "ForeRain$Told" "steps" "I") (by decide +kernel)
  have q1 := hts (.initialized RX7) (by decide +kernel)
  have q2 := hts (.static yX7_within) (by decide +kernel)
  have q3 := hts (.fieldLink RX6 27 "ForeRain$Told" "suns" "[I") (by decide +kernel)
  have iX6 : ∀ w ∈ u_ws RX6 TX6 9, w ∈ wsX6_skyIn := by decide +kernel
  refine lv_iload_n hx hb dX6_skyIn_0 rfl (lv_at hl 1 rfl) ?_
  refine lv_iconst (v := 0) hx hb dX6_skyIn_1 (by decide) ?_
  refine lv_aload_n hx hb dX6_skyIn_2 rfl (lv_at hl 0 rfl) ?_
  refine va_get (D := D) (ci := 6) (v := .int (mT 0 2)) (C := RX6) (T := TX6) (N := 9) hx hb hts iX6 hown hK hP 0 rfl rfl 2 (by decide) q0 (fun _ h9 => h9) rfl dX6_skyIn_3 ?_
  refine lv_iconst (v := 1) hx hb dX6_skyIn_6 (by decide) ?_
  refine lv_isub hx hb dX6_skyIn_7 ?_
  obtain ⟨r1, hc, hf⟩ := kv_b1_e hf
  have hs9 : vv_Sub D H A ([] : va_W) ([] : va_W) (w_Told C aT mT) := vv_Sub.none hP hD hS hA
  refine vv_goi (wn := (w_Told C aT mT)) hK hs9 hS (vv_rSN (As := [.int p0, .int 0, .int ((mT 0 2) - 1)]) (rest := []) (host := RX7) hx hb hml hown hts hK hN hS hs9 (ccX7_within l D C H.size p0 (0 : Int32) ((mT 0 2) - 1) r1 hc) (va_cnB 3 hts gX6_skyIn_X7_within_n46 rfl rfl rfl hN.1.2.2 q1 (by decide +kernel) ⟨(Nat.le_of_ble_eq_true rfl), (Nat.le_of_ble_eq_true rfl)⟩) q2 rfl hl.1 rfl (Nat.le_of_ble_eq_true rfl) dX6_skyIn_8 ⟨Nat.zero_le _, Nat.zero_le _⟩) (fun H locs hP hD hS => ?_)
  refine lv_if_eq (tgt := 23) hx hb dX6_skyIn_11 (by decide) (fun hc => ?_) (fun hc => ?_)
  · have hf := kv_t hc hf
    refine lv_iconst (v := 0) hx hb dX6_skyIn_23 (by decide) ?_
    exact hret _ _ _ _ _ hf rfl hP hD hS dX6_skyIn_24
  · have hf := kv_f hc hf
    refine lv_aload_n hx hb dX6_skyIn_14 rfl (lv_at hl 0 rfl) ?_
    refine va_get (D := D) (ci := 6) (v := .ref (aT 6)) (C := RX6) (T := TX6) (N := 9) hx hb hts iX6 hown hK hP 0 rfl rfl 8 (by decide) q3 (fun _ h9 => h9) rfl dX6_skyIn_15 ?_
    refine lv_iload_n hx hb dX6_skyIn_18 rfl (lv_at hl 1 rfl) ?_
    obtain ⟨h9, hf⟩ := kv_ix_e hf
    refine va_iald hx hb hK hP 6 1 rfl rfl h9 dX6_skyIn_19 ?_
    refine lv_goto (tgt := 24) hx hb dX6_skyIn_20 (by decide) ?_
    exact hret _ _ _ _ _ hf rfl hP hD hS dX6_skyIn_24
abbrev rX3_hangs : Room := { frames := 1, cells := 0, slots := 0, locals := 22 }
set_option maxHeartbeats 4000000 in
set_option maxRecDepth 100000 in
theorem ccX3_hangs (l : Launch) (D : va_G) (C : Nat → ClassId) (sz : Nat) (aT : Nat → Nat) (aM : Nat → Nat) (mT : Mm) (mM : Mm) (p0 : Int32) (rr : Int32) (hf : ffX3_hangs p0 mT mM = some (rr)) : Met l yX3_hangs wsX3_hangs rX3_hangs (va_Pc [.ref (aM 0), .int p0] (vv_pre D C (w_Told C aT mT ++ w_Mom C aT aM mM) sz)) (vv_QI D C (w_Told C aT mT ++ w_Mom C aT aM mM) (w_Told C aT mT ++ w_Mom C aT aM mM) sz rr) 0 0 (va_A (w_Told C aT mT ++ w_Mom C aT aM mM) sz) := by
  unfold ffX3_hangs at hf
  refine vv_metI (cc := cX3_hangs) (maxL := 2) (ty := .boolean) (by decide) rfl (Nat.le_of_ble_eq_true rfl) ?_
  intro p e s m args below meth c A Q H locs ls hx hb hml hown hts hA hK hN hP hD hS hl hret
  have hown : s.vm.findClass RX3 = some m.cls := hown
  have hl : lv_has ls 2 [(0, .ref (aM 0)), (1, .int p0)] := hl
  have hret : ∀ (v0 : Int32) (H : Heap) (locs : List Loc) (ls : Array Slot) (pc : Nat), some (v0) = some (rr) → narrow .boolean (.int v0) = .int v0 → va_P D vwCl (w_Told C aT mT ++ w_Mom C aT aM mM) H → va_D A (w_Told C aT mT ++ w_Mom C aT aM mM) → va_S A s.heap H locs → decode cX3_hangs pc = .ok (.ireturn, 1) → W p l e rX3_hangs s m args below meth c H locs 0 0 Q (F0 m pc ls [.int v0]) := by
    intro v0 H locs ls pc h0 hn h1 h2 h3 h4
    cases h0
    exact hret H locs ls pc hn h1 h2 h3 h4
  have q0 := hts (.fieldLink RX3 18 "ForeRain$Moment" "place" "[I") (by decide +kernel)
  have q1 := hts (.fieldLink RX3 25 "ForeRain$Moment" "told" "LForeRain$Told;") (by decide +kernel)
  have q2 := hts (.fieldLink RX3 73 "ForeRain$Told" "spots" "I") (by decide +kernel)
  have q3 := hts (.initialized RX7) (by decide +kernel)
  have q4 := hts (.static yX7_within) (by decide +kernel)
  have iX3 : ∀ w ∈ u_ws RX3 TX3 7, w ∈ wsX3_hangs := by decide +kernel
  have iX6 : ∀ w ∈ u_ws RX6 TX6 9, w ∈ wsX3_hangs := by decide +kernel
  refine lv_aload_n hx hb dX3_hangs_0 rfl (lv_at hl 0 rfl) ?_
  refine va_get (D := D) (ci := 3) (v := .ref (aM 3)) (C := RX3) (T := TX3) (N := 7) hx hb hts iX3 hown hK hP 7 rfl rfl 5 (by decide) q0 (fun _ h9 => h9) rfl dX3_hangs_1 ?_
  refine lv_iload_n hx hb dX3_hangs_4 rfl (lv_at hl 1 rfl) ?_
  obtain ⟨h9, hf⟩ := kv_ix_e hf
  refine va_iald hx hb hK hP 10 1 rfl rfl h9 dX3_hangs_5 ?_
  refine lv_iconst (v := 0) hx hb dX3_hangs_6 (by decide) ?_
  refine lv_aload_n hx hb dX3_hangs_7 rfl (lv_at hl 0 rfl) ?_
  refine va_get (D := D) (ci := 3) (v := .ref (aT 0)) (C := RX3) (T := TX3) (N := 7) hx hb hts iX3 hown hK hP 7 rfl rfl 0 (by decide) q1 (fun _ h9 => h9) rfl dX3_hangs_8 ?_
  refine va_get (D := D) (ci := 6) (v := .int (mT 0 1)) (C := RX6) (T := TX6) (N := 9) hx hb hts iX6 hown hK hP 0 rfl rfl 1 (by decide) q2 (fun _ h9 => h9) rfl dX3_hangs_11 ?_
  refine lv_iconst (v := 1) hx hb dX3_hangs_14 (by decide) ?_
  refine lv_isub hx hb dX3_hangs_15 ?_
  obtain ⟨r1, hc, hf⟩ := kv_b1_e hf
  have hs9 : vv_Sub D H A ([] : va_W) ([] : va_W) (w_Told C aT mT ++ w_Mom C aT aM mM) := vv_Sub.none hP hD hS hA
  refine vv_goi (wn := (w_Told C aT mT ++ w_Mom C aT aM mM)) hK hs9 hS (vv_rSN (As := [.int (mM 3 p0.toNatClampNeg), .int 0, .int ((mT 0 1) - 1)]) (rest := []) (host := RX7) hx hb hml hown hts hK hN hS hs9 (ccX7_within l D C H.size (mM 3 p0.toNatClampNeg) (0 : Int32) ((mT 0 1) - 1) r1 hc) (va_cnB 3 hts gX3_hangs_X7_within_n76 rfl rfl rfl hN.1.1 q3 (by decide +kernel) ⟨(Nat.le_of_ble_eq_true rfl), (Nat.le_of_ble_eq_true rfl)⟩) q4 rfl hl.1 rfl (Nat.le_of_ble_eq_true rfl) dX3_hangs_16 ⟨Nat.zero_le _, Nat.zero_le _⟩) (fun H locs hP hD hS => ?_)
  obtain ⟨h9, hf⟩ := kv_bo_e hf
  exact hret _ _ _ _ _ hf h9 hP hD hS dX3_hangs_19
abbrev rX6_soaked : Room := { frames := 1, cells := 0, slots := 0, locals := 80 }
set_option maxHeartbeats 4000000 in
set_option maxRecDepth 100000 in
theorem ccX6_soaked (l : Launch) (D : va_G) (C : Nat → ClassId) (sz : Nat) (aT : Nat → Nat) (mT : Mm) (p0 : Int32) (p1 : Int32) (p2 : Int32) (p3 : Int32) (rr : Int32) (hf : ffX6_soaked p0 p1 p2 p3 mT = some (rr)) : Met l yX6_soaked wsX6_soaked rX6_soaked (va_Pc [.ref (aT 0), .int p0, .int p1, .int p2, .int p3] (vv_pre D C (w_Told C aT mT) sz)) (vv_QI D C (w_Told C aT mT) (w_Told C aT mT) sz rr) 0 0 (va_A (w_Told C aT mT) sz) := by
  unfold ffX6_soaked at hf
  refine vv_metI (cc := cX6_soaked) (maxL := 5) (ty := .int) (by decide) rfl (Nat.le_of_ble_eq_true rfl) ?_
  intro p e s m args below meth c A Q H locs ls hx hb hml hown hts hA hK hN hP hD hS hl hret
  have hown : s.vm.findClass RX6 = some m.cls := hown
  have hl : lv_has ls 5 [(0, .ref (aT 0)), (1, .int p0), (2, .int p1), (3, .int p2), (4, .int p3)] := hl
  have hret : ∀ (v0 : Int32) (H : Heap) (locs : List Loc) (ls : Array Slot) (pc : Nat), some (v0) = some (rr) → narrow .int (.int v0) = .int v0 → va_P D vwCl (w_Told C aT mT) H → va_D A (w_Told C aT mT) → va_S A s.heap H locs → decode cX6_soaked pc = .ok (.ireturn, 1) → W p l e rX6_soaked s m args below meth c H locs 0 0 Q (F0 m pc ls [.int v0]) := by
    intro v0 H locs ls pc h0 hn h1 h2 h3 h4
    cases h0
    exact hret H locs ls pc hn h1 h2 h3 h4
  have q0 := hts (.fieldLink RX6 9 "ForeRain$Told" "water" "[I") (by decide +kernel)
  have q1 := hts (.fieldLink RX6 15 "ForeRain$Told" "wide" "[I") (by decide +kernel)
  have q2 := hts (.methodLink RX6 50 Lib.Math.min.name) (by decide +kernel)
  have q3 := hts (.static Lib.Math.min.name) (by decide +kernel)
  have q4 := hts (.initialized "java/lang/Math") (by decide +kernel)
  have q5 := hts (.code Lib.Math.min.name Lib.Math.min.code 2 (some .int)) (by decide +kernel)
  have iX6 : ∀ w ∈ u_ws RX6 TX6 9, w ∈ wsX6_soaked := by decide +kernel
  refine lv_iconst (v := 2) hx hb dX6_soaked_0 (by decide) ?_
  refine lv_aload_n hx hb dX6_soaked_1 rfl (lv_at hl 0 rfl) ?_
  refine va_get (D := D) (ci := 6) (v := .ref (aT 1)) (C := RX6) (T := TX6) (N := 9) hx hb hts iX6 hown hK hP 0 rfl rfl 3 (by decide) q0 (fun _ h9 => h9) rfl dX6_soaked_2 ?_
  refine lv_iload_n hx hb dX6_soaked_5 rfl (lv_at hl 1 rfl) ?_
  obtain ⟨h9, hf⟩ := kv_ix_e hf
  refine va_iald hx hb hK hP 1 1 rfl rfl h9 dX6_soaked_6 ?_
  refine lv_imul hx hb dX6_soaked_7 ?_
  refine lv_iload_n hx hb dX6_soaked_8 rfl (lv_at hl 2 rfl) ?_
  refine lv_iload hx hb dX6_soaked_9 (lv_at hl 4 rfl) ?_
  refine lv_iload_n hx hb dX6_soaked_11 rfl (lv_at hl 3 rfl) ?_
  refine lv_imul hx hb dX6_soaked_12 ?_
  refine lv_aload_n hx hb dX6_soaked_13 rfl (lv_at hl 0 rfl) ?_
  refine va_get (D := D) (ci := 6) (v := .ref (aT 2)) (C := RX6) (T := TX6) (N := 9) hx hb hts iX6 hown hK hP 0 rfl rfl 4 (by decide) q1 (fun _ h9 => h9) rfl dX6_soaked_14 ?_
  refine lv_iload_n hx hb dX6_soaked_17 rfl (lv_at hl 1 rfl) ?_
  obtain ⟨h9, hf⟩ := kv_ix_e hf
  refine va_iald hx hb hK hP 2 1 rfl rfl h9 dX6_soaked_18 ?_
  refine lv_imul hx hb dX6_soaked_19 ?_
  refine lv_iadd hx hb dX6_soaked_20 ?_
  refine va_mmin hx hb (hml.trans hl.1.symm) hown q2 q3 q4 q5 (Nat.le_of_ble_eq_true rfl) (Nat.le_of_ble_eq_true rfl) (Nat.zero_le _) (Nat.zero_le _) dX6_soaked_21 ?_
  exact hret _ _ _ _ _ hf rfl hP hD hS dX6_soaked_24
abbrev rX3_pull : Room := { frames := 1, cells := 0, slots := 0, locals := 80 }
set_option maxHeartbeats 4000000 in
set_option maxRecDepth 100000 in
theorem ccX3_pull (l : Launch) (D : va_G) (C : Nat → ClassId) (sz : Nat) (aT : Nat → Nat) (aM : Nat → Nat) (mT : Mm) (mM : Mm) (p0 : Int32) (p1 : Int32) (rr : Int32) (hf : ffX3_pull p0 p1 mT mM = some (rr)) : Met l yX3_pull wsX3_pull rX3_pull (va_Pc [.ref (aM 0), .int p0, .int p1] (vv_pre D C (w_Told C aT mT ++ w_Mom C aT aM mM) sz)) (vv_QI D C (w_Told C aT mT ++ w_Mom C aT aM mM) (w_Told C aT mT ++ w_Mom C aT aM mM) sz rr) 0 0 (va_A (w_Told C aT mT ++ w_Mom C aT aM mM) sz) := by
  unfold ffX3_pull at hf
  refine vv_metI (cc := cX3_pull) (maxL := 3) (ty := .int) (by decide) rfl (Nat.le_of_ble_eq_true rfl) ?_
  intro p e s m args below meth c A Q H locs ls hx hb hml hown hts hA hK hN hP hD hS hl hret
  have hown : s.vm.findClass RX3 = some m.cls := hown
  have hl : lv_has ls 3 [(0, .ref (aM 0)), (1, .int p0), (2, .int p1)] := hl
  have hret : ∀ (v0 : Int32) (H : Heap) (locs : List Loc) (ls : Array Slot) (pc : Nat), some (v0) = some (rr) → narrow .int (.int v0) = .int v0 → va_P D vwCl (w_Told C aT mT ++ w_Mom C aT aM mM) H → va_D A (w_Told C aT mT ++ w_Mom C aT aM mM) → va_S A s.heap H locs → decode cX3_pull pc = .ok (.ireturn, 1) → W p l e rX3_pull s m args below meth c H locs 0 0 Q (F0 m pc ls [.int v0]) := by
    intro v0 H locs ls pc h0 hn h1 h2 h3 h4
    cases h0
    exact hret H locs ls pc hn h1 h2 h3 h4
  have q0 := hts (.fieldLink RX3 25 "ForeRain$Moment" "told" "LForeRain$Told;") (by decide +kernel)
  have q1 := hts (.fieldLink RX3 67 "ForeRain$Told" "wind" "[I") (by decide +kernel)
  have q2 := hts (.fieldLink RX3 18 "ForeRain$Moment" "place" "[I") (by decide +kernel)
  have q3 := hts (.fieldLink RX3 70 "ForeRain$Told" "cloth" "[I") (by decide +kernel)
  have q4 := hts (.fieldLink RX3 33 "ForeRain$Moment" "damp" "I") (by decide +kernel)
  have q5 := hts (.methodLink RX3 46 Lib.Math.max.name) (by decide +kernel)
  have q6 := hts (.static Lib.Math.max.name) (by decide +kernel)
  have q7 := hts (.initialized "java/lang/Math") (by decide +kernel)
  have q8 := hts (.code Lib.Math.max.name Lib.Math.max.code 2 (some .int)) (by decide +kernel)
  have iX3 : ∀ w ∈ u_ws RX3 TX3 7, w ∈ wsX3_pull := by decide +kernel
  have iX6 : ∀ w ∈ u_ws RX6 TX6 9, w ∈ wsX3_pull := by decide +kernel
  refine lv_iconst (v := 0) hx hb dX3_pull_0 (by decide) ?_
  refine lv_iload_n hx hb dX3_pull_1 rfl (lv_at hl 2 rfl) ?_
  refine lv_aload_n hx hb dX3_pull_2 rfl (lv_at hl 0 rfl) ?_
  refine va_get (D := D) (ci := 3) (v := .ref (aT 0)) (C := RX3) (T := TX3) (N := 7) hx hb hts iX3 hown hK hP 7 rfl rfl 0 (by decide) q0 (fun _ h9 => h9) rfl dX3_pull_3 ?_
  refine va_get (D := D) (ci := 6) (v := .ref (aT 5)) (C := RX6) (T := TX6) (N := 9) hx hb hts iX6 hown hK hP 0 rfl rfl 7 (by decide) q1 (fun _ h9 => h9) rfl dX3_pull_6 ?_
  refine lv_aload_n hx hb dX3_pull_9 rfl (lv_at hl 0 rfl) ?_
  refine va_get (D := D) (ci := 3) (v := .ref (aM 3)) (C := RX3) (T := TX3) (N := 7) hx hb hts iX3 hown hK hP 7 rfl rfl 5 (by decide) q2 (fun _ h9 => h9) rfl dX3_pull_10 ?_
  refine lv_iload_n hx hb dX3_pull_13 rfl (lv_at hl 1 rfl) ?_
  obtain ⟨h9, hf⟩ := kv_ix_e hf
  refine va_iald hx hb hK hP 10 1 rfl rfl h9 dX3_pull_14 ?_
  obtain ⟨h9, hf⟩ := kv_ix_e hf
  refine va_iald hx hb hK hP 5 1 rfl rfl h9 dX3_pull_15 ?_
  refine lv_iadd hx hb dX3_pull_16 ?_
  refine lv_aload_n hx hb dX3_pull_17 rfl (lv_at hl 0 rfl) ?_
  refine va_get (D := D) (ci := 3) (v := .ref (aT 0)) (C := RX3) (T := TX3) (N := 7) hx hb hts iX3 hown hK hP 7 rfl rfl 0 (by decide) q0 (fun _ h9 => h9) rfl dX3_pull_18 ?_
  refine va_get (D := D) (ci := 6) (v := .ref (aT 3)) (C := RX6) (T := TX6) (N := 9) hx hb hts iX6 hown hK hP 0 rfl rfl 5 (by decide) q3 (fun _ h9 => h9) rfl dX3_pull_21 ?_
  refine lv_iload_n hx hb dX3_pull_24 rfl (lv_at hl 1 rfl) ?_
  obtain ⟨h9, hf⟩ := kv_ix_e hf
  refine va_iald hx hb hK hP 3 1 rfl rfl h9 dX3_pull_25 ?_
  refine lv_imul hx hb dX3_pull_26 ?_
  refine lv_aload_n hx hb dX3_pull_27 rfl (lv_at hl 0 rfl) ?_
  refine va_get (D := D) (ci := 3) (v := .int (mM 0 2)) (C := RX3) (T := TX3) (N := 7) hx hb hts iX3 hown hK hP 7 rfl rfl 2 (by decide) q4 (fun _ h9 => h9) rfl dX3_pull_28 ?_
  refine lv_isub hx hb dX3_pull_31 ?_
  refine va_mmax hx hb (hml.trans hl.1.symm) hown q5 q6 q7 q8 (Nat.le_of_ble_eq_true rfl) (Nat.le_of_ble_eq_true rfl) (Nat.zero_le _) (Nat.zero_le _) dX3_pull_32 ?_
  exact hret _ _ _ _ _ hf rfl hP hD hS dX3_pull_35
abbrev rX3_grow : Room := { frames := 0, cells := 0, slots := 0, locals := 0 }
set_option maxHeartbeats 4000000 in
set_option maxRecDepth 100000 in
theorem ccX3_grow (l : Launch) (D : va_G) (C : Nat → ClassId) (sz : Nat) (aT : Nat → Nat) (aM : Nat → Nat) (mM : Mm) (p0 : Int32) (oM : Mm) (hf : ffX3_grow p0 mM = some (oM)) : Met l yX3_grow wsX3_grow rX3_grow (va_Pc [.ref (aM 0), .int p0] (vv_pre D C (w_Mom C aT aM mM) sz)) (vv_QV D C (w_Mom C aT aM mM) (w_Mom C aT aM oM) sz) 0 0 (va_A (w_Mom C aT aM mM) sz) := by
  unfold ffX3_grow at hf
  refine vv_metV (cc := cX3_grow) (maxL := 2) (by decide) rfl (Nat.le_of_ble_eq_true rfl) ?_
  intro p e s m args below meth c A Q H locs ls hx hb hml hown hts hA hK hN hP hD hS hl hret
  have hown : s.vm.findClass RX3 = some m.cls := hown
  have hl : lv_has ls 2 [(0, .ref (aM 0)), (1, .int p0)] := hl
  have hret : ∀ (v0 : Mm) (H : Heap) (locs : List Loc) (ls : Array Slot) (pc : Nat), some (v0) = some (oM) → va_P D vwCl (w_Mom C aT aM v0) H → va_D A (w_Mom C aT aM v0) → va_S A s.heap H locs → decode cX3_grow pc = .ok (.return_, 1) → W p l e rX3_grow s m args below meth c H locs 0 0 Q (F0 m pc ls []) := by
    intro v0 H locs ls pc h0 h1 h2 h3 h4
    cases h0
    exact hret H locs ls pc h1 h2 h3 h4
  have q0 := hts (.fieldLink RX3 15 "ForeRain$Moment" "age" "[I") (by decide +kernel)
  have q1 := hts (.fieldLink RX3 9 "ForeRain$Moment" "water" "[I") (by decide +kernel)
  have q2 := hts (.fieldLink RX3 21 "ForeRain$Moment" "smells" "[Z") (by decide +kernel)
  have iX3 : ∀ w ∈ u_ws RX3 TX3 7, w ∈ wsX3_grow := by decide +kernel
  refine lv_aload_n hx hb dX3_grow_0 rfl (lv_at hl 0 rfl) ?_
  refine va_get (D := D) (ci := 3) (v := .ref (aM 2)) (C := RX3) (T := TX3) (N := 7) hx hb hts iX3 hown hK hP 0 rfl rfl 4 (by decide) q0 (fun _ h9 => h9) rfl dX3_grow_1 ?_
  refine lv_iload_n hx hb dX3_grow_4 rfl (lv_at hl 1 rfl) ?_
  refine lv_aload_n hx hb dX3_grow_5 rfl (lv_at hl 0 rfl) ?_
  refine va_get (D := D) (ci := 3) (v := .ref (aM 1)) (C := RX3) (T := TX3) (N := 7) hx hb hts iX3 hown hK hP 0 rfl rfl 3 (by decide) q1 (fun _ h9 => h9) rfl dX3_grow_6 ?_
  refine lv_iload_n hx hb dX3_grow_9 rfl (lv_at hl 1 rfl) ?_
  obtain ⟨h9, hf⟩ := kv_ix_e hf
  refine va_iald hx hb hK hP 1 1 rfl rfl h9 dX3_grow_10 ?_
  obtain ⟨k26_1, ek26_1, hf⟩ := kv_lt_e hf
  have J26_1 : ∀ (x2 : Int32) (H : Heap) (locs : List Loc) (ls : Array Slot), va_P D vwCl (w_Mom C aT aM mM) H → va_D A (w_Mom C aT aM mM) → va_S A s.heap H locs → lv_has ls 2 [(0, .ref (aM 0)), (1, .int p0)] → k26_1 x2 = some (oM) → W p l e rX3_grow s m args below meth c H locs 0 0 Q (F0 m 26 ls [.int x2, .int p0, .ref (aM 2)]) := by
    intro x2 H locs ls hP hD hS hl hf
    rw [ek26_1] at hf
    obtain ⟨h9, hf⟩ := kv_ix_e hf
    obtain ⟨mM3, emM3, hf⟩ := kv_lt_e hf
    refine va_iast hx hb hK hP hD hS 2 1 rfl rfl h9 dX3_grow_26 (fun H locs hP hD hS => ?_)
    have hP : va_P D vwCl (w_Mom C aT aM mM3) H := by rw [emM3]; exact hP
    have hD : va_D A (w_Mom C aT aM mM3) := by rw [emM3]; exact hD
    refine lv_aload_n hx hb dX3_grow_27 rfl (lv_at hl 0 rfl) ?_
    refine va_get (D := D) (ci := 3) (v := .ref (aM 2)) (C := RX3) (T := TX3) (N := 7) hx hb hts iX3 hown hK hP 0 rfl rfl 4 (by decide) q0 (fun _ h9 => h9) rfl dX3_grow_28 ?_
    refine lv_iload_n hx hb dX3_grow_31 rfl (lv_at hl 1 rfl) ?_
    obtain ⟨h9, hf⟩ := kv_ix_e hf
    refine va_iald hx hb hK hP 2 1 rfl rfl h9 dX3_grow_32 ?_
    refine lv_bipush (v := 12) hx hb dX3_grow_33 (by decide) ?_
    refine lv_icmp_lt (tgt := 45) hx hb dX3_grow_35 (by decide) (fun hc => ?_) (fun hc => ?_)
    · have hf := kv_t hc hf
      exact hret _ _ _ _ _ hf hP hD hS dX3_grow_45
    · have hf := kv_f hc hf
      refine lv_aload_n hx hb dX3_grow_38 rfl (lv_at hl 0 rfl) ?_
      refine va_get (D := D) (ci := 3) (v := .ref (aM 4)) (C := RX3) (T := TX3) (N := 7) hx hb hts iX3 hown hK hP 0 rfl rfl 6 (by decide) q2 (fun _ h9 => h9) rfl dX3_grow_39 ?_
      refine lv_iload_n hx hb dX3_grow_42 rfl (lv_at hl 1 rfl) ?_
      refine lv_iconst (v := 1) hx hb dX3_grow_43 (by decide) ?_
      obtain ⟨h9, hf⟩ := kv_ix_e hf
      obtain ⟨mM4, emM4, hf⟩ := kv_lt_e hf
      refine va_zast hx hb hK hP hD hS 4 2 rfl rfl h9 dX3_grow_44 (fun H locs hP hD hS => ?_)
      have hP : va_P D vwCl (w_Mom C aT aM mM4) H := by rw [emM4]; exact hP
      have hD : va_D A (w_Mom C aT aM mM4) := by rw [emM4]; exact hD
      exact hret _ _ _ _ _ hf hP hD hS dX3_grow_45
  refine lv_if_le (tgt := 25) hx hb dX3_grow_11 (by decide) (fun hc => ?_) (fun hc => ?_)
  · have hf := kv_t hc hf
    refine lv_iconst (v := 0) hx hb dX3_grow_25 (by decide) ?_
    exact J26_1 _ _ _ _ hP hD hS (lv_sub hl [0, 1] rfl) hf
  · have hf := kv_f hc hf
    refine lv_aload_n hx hb dX3_grow_14 rfl (lv_at hl 0 rfl) ?_
    refine va_get (D := D) (ci := 3) (v := .ref (aM 2)) (C := RX3) (T := TX3) (N := 7) hx hb hts iX3 hown hK hP 0 rfl rfl 4 (by decide) q0 (fun _ h9 => h9) rfl dX3_grow_15 ?_
    refine lv_iload_n hx hb dX3_grow_18 rfl (lv_at hl 1 rfl) ?_
    obtain ⟨h9, hf⟩ := kv_ix_e hf
    refine va_iald hx hb hK hP 2 1 rfl rfl h9 dX3_grow_19 ?_
    refine lv_iconst (v := 1) hx hb dX3_grow_20 (by decide) ?_
    refine lv_iadd hx hb dX3_grow_21 ?_
    refine lv_goto (tgt := 26) hx hb dX3_grow_22 (by decide) ?_
    exact J26_1 _ _ _ _ hP hD hS (lv_sub hl [0, 1] rfl) hf
abbrev rX3_pass : Room := { frames := 2, cells := 0, slots := 0, locals := 104 }
set_option maxHeartbeats 4000000 in
set_option maxRecDepth 100000 in
theorem ccX3_pass (l : Launch) (D : va_G) (C : Nat → ClassId) (sz : Nat) (aT : Nat → Nat) (aM : Nat → Nat) (mT : Mm) (mM : Mm) (rr : Int32) (oM : Mm) (hf : ffX3_pass mT mM = some (rr, oM)) : Met l yX3_pass wsX3_pass rX3_pass (va_Pc [.ref (aM 0)] (vv_pre D C (w_Told C aT mT ++ w_Mom C aT aM mM) sz)) (vv_QI D C (w_Told C aT mT ++ w_Mom C aT aM mM) (w_Told C aT mT ++ w_Mom C aT aM oM) sz rr) 0 0 (va_A (w_Told C aT mT ++ w_Mom C aT aM mM) sz) := by
  unfold ffX3_pass at hf
  refine vv_metI (cc := cX3_pass) (maxL := 5) (ty := .int) (by decide) rfl (Nat.le_of_ble_eq_true rfl) ?_
  intro p e s m args below meth c A Q H locs ls hx hb hml hown hts hA hK hN hP hD hS hl hret
  have hown : s.vm.findClass RX3 = some m.cls := hown
  have hl : lv_has ls 5 [(0, .ref (aM 0))] := hl
  have hret : ∀ (v0 : Int32) (v1 : Mm) (H : Heap) (locs : List Loc) (ls : Array Slot) (pc : Nat), some (v0, v1) = some (rr, oM) → narrow .int (.int v0) = .int v0 → va_P D vwCl (w_Told C aT mT ++ w_Mom C aT aM v1) H → va_D A (w_Told C aT mT ++ w_Mom C aT aM v1) → va_S A s.heap H locs → decode cX3_pass pc = .ok (.ireturn, 1) → W p l e rX3_pass s m args below meth c H locs 0 0 Q (F0 m pc ls [.int v0]) := by
    intro v0 v1 H locs ls pc h0 hn h1 h2 h3 h4
    cases h0
    exact hret H locs ls pc hn h1 h2 h3 h4
  have q0 := hts (.fieldLink RX3 25 "ForeRain$Moment" "told" "LForeRain$Told;") (by decide +kernel)
  have q1 := hts (.fieldLink RX3 29 "ForeRain$Moment" "step" "I") (by decide +kernel)
  have q2 := hts (.fieldLink RX3 36 "ForeRain$Told" "pieces" "I") (by decide +kernel)
  have q3 := hts (.fieldLink RX3 9 "ForeRain$Moment" "water" "[I") (by decide +kernel)
  have q4 := hts (.fieldLink RX3 18 "ForeRain$Moment" "place" "[I") (by decide +kernel)
  have q5 := hts (.methodLink RX3 46 Lib.Math.max.name) (by decide +kernel)
  have q6 := hts (.static Lib.Math.max.name) (by decide +kernel)
  have q7 := hts (.initialized "java/lang/Math") (by decide +kernel)
  have q8 := hts (.code Lib.Math.max.name Lib.Math.max.code 2 (some .int)) (by decide +kernel)
  have q9 := hts (.fieldLink RX3 33 "ForeRain$Moment" "damp" "I") (by decide +kernel)
  have iX3 : ∀ w ∈ u_ws RX3 TX3 7, w ∈ wsX3_pass := by decide +kernel
  have iX6 : ∀ w ∈ u_ws RX6 TX6 9, w ∈ wsX3_pass := by decide +kernel
  refine lv_aload_n hx hb dX3_pass_0 rfl (lv_at hl 0 rfl) ?_
  refine va_get (D := D) (ci := 3) (v := .ref (aT 0)) (C := RX3) (T := TX3) (N := 7) hx hb hts iX3 hown hK hP 7 rfl rfl 0 (by decide) q0 (fun _ h9 => h9) rfl dX3_pass_1 ?_
  refine lv_aload_n hx hb dX3_pass_4 rfl (lv_at hl 0 rfl) ?_
  refine va_get (D := D) (ci := 3) (v := .int (mM 0 1)) (C := RX3) (T := TX3) (N := 7) hx hb hts iX3 hown hK hP 7 rfl rfl 1 (by decide) q1 (fun _ h9 => h9) rfl dX3_pass_5 ?_
  obtain ⟨r1, hc, hf⟩ := kv_b1_e hf
  have hs9 : vv_Sub D H A (w_Told C aT mT) (w_Told C aT mT) (w_Told C aT mT ++ w_Mom C aT aM mM) := vv_Sub.part (ws := (w_Told C aT mT ++ w_Mom C aT aM mM)) (wr := (w_Mom C aT aM mM)) [0, 1, 2, 3, 4, 5, 6] [7, 8, 9, 10, 11] [5, 6, 7, 8, 9, 10, 11, 0, 1, 2, 3, 4] hP hD hS hA rfl rfl (by decide) rfl
  refine vv_goi (wn := (w_Told C aT mT ++ w_Mom C aT aM mM)) hK hs9 hS (vv_rV (As := [.int (mM 0 1)]) (rest := []) hx hb hml hown hts hK hN hS hs9 (ccX6_skyIn l D C H.size aT mT (mM 0 1) r1 hc) (cwV 1 hts gX3_pass_X6_skyIn rfl rfl rfl (by decide +kernel) ⟨(Nat.le_of_ble_eq_true rfl), (Nat.le_of_ble_eq_true rfl)⟩) (va_recv hK hP (ci := 6) (q0 := 0) rfl rfl) rfl hl.1 rfl (Nat.le_of_ble_eq_true rfl) dX3_pass_8 ⟨Nat.zero_le _, Nat.zero_le _⟩) (fun H locs hP hD hS => ?_)
  refine lv_istore_n (lv' := [(1, .int r1), (0, .ref (aM 0))]) hx hb dX3_pass_11 rfl hl (by decide) rfl (fun ls hl => ?_)
  refine lv_iconst (v := 0) hx hb dX3_pass_12 (by decide) ?_
  refine lv_istore_n (lv' := [(2, .int 0), (1, .int r1), (0, .ref (aM 0))]) hx hb dX3_pass_13 rfl hl (by decide) rfl (fun ls hl => ?_)
  refine lv_iconst (v := 0) hx hb dX3_pass_14 (by decide) ?_
  refine lv_istore_n (lv' := [(3, .int 0), (2, .int 0), (1, .int r1), (0, .ref (aM 0))]) hx hb dX3_pass_15 rfl hl (by decide) rfl (fun ls hl => ?_)
  have L16 : ∀ (K16 : Int32 → Int32 → Mm → Option (Int32 × Mm)), (∀ (x2 : Int32) (x3 : Int32) (mM4 : Mm) (H : Heap) (locs : List Loc) (ls : Array Slot), va_P D vwCl (w_Told C aT mT ++ w_Mom C aT aM mM4) H → va_D A (w_Told C aT mT ++ w_Mom C aT aM mM4) → va_S A s.heap H locs → lv_has ls 5 [(3, .int x2), (2, .int x3), (1, .int r1), (0, .ref (aM 0))] → K16 x2 x3 mM4 = some (rr, oM) → W p l e rX3_pass s m args below meth c H locs 0 0 Q (F0 m 147 ls [])) → ∀ (n : Nat) (x2 : Int32) (x3 : Int32) (mM4 : Mm) (H : Heap) (locs : List Loc) (ls : Array Slot), va_P D vwCl (w_Told C aT mT ++ w_Mom C aT aM mM4) H → va_D A (w_Told C aT mT ++ w_Mom C aT aM mM4) → va_S A s.heap H locs → lv_has ls 5 [(3, .int x2), (2, .int x3), (1, .int r1), (0, .ref (aM 0))] → ffX3_pass_L16 mT r1 K16 n x2 x3 mM4 = some (rr, oM) → W p l e rX3_pass s m args below meth c H locs 0 0 Q (F0 m 16 ls []) := by
    intro K16 hK9 n
    induction n with
    | zero => intro x2 x3 mM4 H locs ls hP hD hS hl hf; exact kv_no hf
    | succ n ih =>
      intro x2 x3 mM4 H locs ls hP hD hS hl hf
      rw [ffX3_pass_L16_s] at hf
      refine lv_iload_n hx hb dX3_pass_16 rfl (lv_at hl 0 rfl) ?_
      refine lv_aload_n hx hb dX3_pass_17 rfl (lv_at hl 3 rfl) ?_
      refine va_get (D := D) (ci := 3) (v := .ref (aT 0)) (C := RX3) (T := TX3) (N := 7) hx hb hts iX3 hown hK hP 7 rfl rfl 0 (by decide) q0 (fun _ h9 => h9) rfl dX3_pass_18 ?_
      refine va_get (D := D) (ci := 6) (v := .int (mT 0 0)) (C := RX6) (T := TX6) (N := 9) hx hb hts iX6 hown hK hP 0 rfl rfl 0 (by decide) q2 (fun _ h9 => h9) rfl dX3_pass_21 ?_
      refine lv_icmp_ge (tgt := 147) hx hb dX3_pass_24 (by decide) (fun hc => ?_) (fun hc => ?_)
      · have hf := kv_t hc hf
        exact hK9 _ _ _ _ _ _ hP hD hS (lv_sub hl [0, 1, 2, 3] rfl) hf
      · have hf := kv_f hc hf
        refine lv_aload_n hx hb dX3_pass_27 rfl (lv_at hl 3 rfl) ?_
        refine va_get (D := D) (ci := 3) (v := .ref (aM 1)) (C := RX3) (T := TX3) (N := 7) hx hb hts iX3 hown hK hP 7 rfl rfl 3 (by decide) q3 (fun _ h9 => h9) rfl dX3_pass_28 ?_
        refine lv_iload_n hx hb dX3_pass_31 rfl (lv_at hl 0 rfl) ?_
        obtain ⟨h9, hf⟩ := kv_ix_e hf
        refine va_iald hx hb hK hP 8 1 rfl rfl h9 dX3_pass_32 ?_
        obtain ⟨x5, ex5, hf⟩ := kv_lt_e hf
        refine vv_nami ex5 ?_
        refine lv_istore (lv' := [(4, .int x5), (3, .int x2), (2, .int x3), (1, .int r1), (0, .ref (aM 0))]) hx hb dX3_pass_33 hl (by decide) rfl (fun ls hl => ?_)
        refine lv_aload_n hx hb dX3_pass_35 rfl (lv_at hl 4 rfl) ?_
        refine va_get (D := D) (ci := 3) (v := .ref (aM 3)) (C := RX3) (T := TX3) (N := 7) hx hb hts iX3 hown hK hP 7 rfl rfl 5 (by decide) q4 (fun _ h9 => h9) rfl dX3_pass_36 ?_
        refine lv_iload_n hx hb dX3_pass_39 rfl (lv_at hl 1 rfl) ?_
        obtain ⟨h9, hf⟩ := kv_ix_e hf
        refine va_iald hx hb hK hP 10 1 rfl rfl h9 dX3_pass_40 ?_
        refine lv_bipush (v := 8) hx hb dX3_pass_41 (by decide) ?_
        obtain ⟨k136_6, ek136_6, hf⟩ := kv_lt_e hf
        have J136_6 : ∀ (x7 : Int32) (mM8 : Mm) (H : Heap) (locs : List Loc) (ls : Array Slot), va_P D vwCl (w_Told C aT mT ++ w_Mom C aT aM mM8) H → va_D A (w_Told C aT mT ++ w_Mom C aT aM mM8) → va_S A s.heap H locs → lv_has ls 5 [(3, .int x2), (2, .int x7), (1, .int r1), (0, .ref (aM 0))] → k136_6 x7 mM8 = some (rr, oM) → W p l e rX3_pass s m args below meth c H locs 0 0 Q (F0 m 136 ls []) := by
          intro x7 mM8 H locs ls hP hD hS hl hf
          rw [ek136_6] at hf
          refine lv_aload_n hx hb dX3_pass_136 rfl (lv_at hl 3 rfl) ?_
          refine lv_iload_n hx hb dX3_pass_137 rfl (lv_at hl 0 rfl) ?_
          obtain ⟨mM9, hc, hf⟩ := kv_b1_e hf
          have hs9 : vv_Sub D H A (w_Mom C aT aM mM8) (w_Mom C aT aM mM9) (w_Told C aT mT ++ w_Mom C aT aM mM9) := vv_Sub.part (ws := (w_Told C aT mT ++ w_Mom C aT aM mM8)) (wr := (w_Told C aT mT)) [7, 8, 9, 10, 11] [0, 1, 2, 3, 4, 5, 6] [0, 1, 2, 3, 4, 5, 6, 7, 8, 9, 10, 11] hP hD hS hA rfl rfl (by decide) rfl
          refine vv_gov (wn := (w_Told C aT mT ++ w_Mom C aT aM mM9)) hK hs9 hS (vv_rV (As := [.int x2]) (rest := []) hx hb hml hown hts hK hN hS hs9 (ccX3_grow l D C H.size aT aM mM8 x2 mM9 hc) (cwV 1 hts gX3_pass_X3_grow rfl rfl rfl (by decide +kernel) ⟨(Nat.le_of_ble_eq_true rfl), (Nat.le_of_ble_eq_true rfl)⟩) (va_recv hK hP (ci := 3) (q0 := 7) rfl rfl) rfl hl.1 rfl (Nat.le_of_ble_eq_true rfl) dX3_pass_138 ⟨Nat.zero_le _, Nat.zero_le _⟩) (fun H locs hP hD hS => ?_)
          obtain ⟨x10, ex10, hf⟩ := kv_lt_e hf
          refine lv_iinc (v := x10) (lv' := [(3, .int x10), (2, .int x7), (1, .int r1), (0, .ref (aM 0))]) hx hb dX3_pass_141 hl (k := 0) rfl (by rw [ex10]; rfl) (by decide) rfl (fun ls hl => ?_)
          refine lv_goto (tgt := 16) hx hb dX3_pass_144 (by decide) ?_
          exact ih _ _ _ _ _ _ hP hD hS (lv_sub hl [0, 1, 2, 3] rfl) hf
        refine lv_icmp_ne (tgt := 63) hx hb dX3_pass_43 (by decide) (fun hc => ?_) (fun hc => ?_)
        · have hf := kv_f hc hf
          refine lv_aload_n hx hb dX3_pass_63 rfl (lv_at hl 4 rfl) ?_
          refine lv_iload_n hx hb dX3_pass_64 rfl (lv_at hl 1 rfl) ?_
          obtain ⟨r11, hc, hf⟩ := kv_b1_e hf
          have hs9 : vv_Sub D H A (w_Told C aT mT ++ w_Mom C aT aM mM4) (w_Told C aT mT ++ w_Mom C aT aM mM4) (w_Told C aT mT ++ w_Mom C aT aM mM4) := vv_Sub.same (w_Told C aT mT ++ w_Mom C aT aM mM4) hP hD hS hA
          refine vv_goi (wn := (w_Told C aT mT ++ w_Mom C aT aM mM4)) hK hs9 hS (vv_rV (As := [.int x2]) (rest := []) hx hb hml hown hts hK hN hS hs9 (ccX3_hangs l D C H.size aT aM mT mM4 x2 r11 hc) (cwV 1 hts gX3_pass_X3_hangs rfl rfl rfl (by decide +kernel) ⟨(Nat.le_of_ble_eq_true rfl), (Nat.le_of_ble_eq_true rfl)⟩) (va_recv hK hP (ci := 3) (q0 := 7) rfl rfl) rfl hl.1 rfl (Nat.le_of_ble_eq_true rfl) dX3_pass_65 ⟨Nat.zero_le _, Nat.zero_le _⟩) (fun H locs hP hD hS => ?_)
          obtain ⟨k97_12, ek97_12, hf⟩ := kv_lt_e hf
          have J97_12 : ∀ (mM13 : Mm) (H : Heap) (locs : List Loc) (ls : Array Slot), va_P D vwCl (w_Told C aT mT ++ w_Mom C aT aM mM13) H → va_D A (w_Told C aT mT ++ w_Mom C aT aM mM13) → va_S A s.heap H locs → lv_has ls 5 [(4, .int x5), (3, .int x2), (2, .int x3), (1, .int r1), (0, .ref (aM 0))] → k97_12 mM13 = some (rr, oM) → W p l e rX3_pass s m args below meth c H locs 0 0 Q (F0 m 97 ls []) := by
            intro mM13 H locs ls hP hD hS hl hf
            rw [ek97_12] at hf
            refine lv_aload_n hx hb dX3_pass_97 rfl (lv_at hl 4 rfl) ?_
            refine lv_iload_n hx hb dX3_pass_98 rfl (lv_at hl 1 rfl) ?_
            obtain ⟨r14, hc, hf⟩ := kv_b1_e hf
            have hs9 : vv_Sub D H A (w_Told C aT mT ++ w_Mom C aT aM mM13) (w_Told C aT mT ++ w_Mom C aT aM mM13) (w_Told C aT mT ++ w_Mom C aT aM mM13) := vv_Sub.same (w_Told C aT mT ++ w_Mom C aT aM mM13) hP hD hS hA
            refine vv_goi (wn := (w_Told C aT mT ++ w_Mom C aT aM mM13)) hK hs9 hS (vv_rV (As := [.int x2]) (rest := []) hx hb hml hown hts hK hN hS hs9 (ccX3_hangs l D C H.size aT aM mT mM13 x2 r14 hc) (cwV 1 hts gX3_pass_X3_hangs rfl rfl rfl (by decide +kernel) ⟨(Nat.le_of_ble_eq_true rfl), (Nat.le_of_ble_eq_true rfl)⟩) (va_recv hK hP (ci := 3) (q0 := 7) rfl rfl) rfl hl.1 rfl (Nat.le_of_ble_eq_true rfl) dX3_pass_99 ⟨Nat.zero_le _, Nat.zero_le _⟩) (fun H locs hP hD hS => ?_)
            refine lv_if_eq (tgt := 136) hx hb dX3_pass_102 (by decide) (fun hc => ?_) (fun hc => ?_)
            · have hf := kv_t hc hf
              exact J136_6 _ _ _ _ _ hP hD hS (lv_sub hl [1, 2, 3, 4] rfl) hf
            · have hf := kv_f hc hf
              refine lv_aload_n hx hb dX3_pass_105 rfl (lv_at hl 4 rfl) ?_
              refine va_get (D := D) (ci := 3) (v := .ref (aM 1)) (C := RX3) (T := TX3) (N := 7) hx hb hts iX3 hown hK hP 7 rfl rfl 3 (by decide) q3 (fun _ h9 => h9) rfl dX3_pass_106 ?_
              refine lv_iload_n hx hb dX3_pass_109 rfl (lv_at hl 1 rfl) ?_
              refine lv_iconst (v := 0) hx hb dX3_pass_110 (by decide) ?_
              refine lv_iload hx hb dX3_pass_111 (lv_at hl 0 rfl) ?_
              refine lv_aload_n hx hb dX3_pass_113 rfl (lv_at hl 4 rfl) ?_
              refine lv_iload_n hx hb dX3_pass_114 rfl (lv_at hl 1 rfl) ?_
              refine lv_iload_n hx hb dX3_pass_115 rfl (lv_at hl 3 rfl) ?_
              obtain ⟨r15, hc, hf⟩ := kv_b1_e hf
              have hs9 : vv_Sub D H A (w_Told C aT mT ++ w_Mom C aT aM mM13) (w_Told C aT mT ++ w_Mom C aT aM mM13) (w_Told C aT mT ++ w_Mom C aT aM mM13) := vv_Sub.same (w_Told C aT mT ++ w_Mom C aT aM mM13) hP hD hS hA
              refine vv_goi (wn := (w_Told C aT mT ++ w_Mom C aT aM mM13)) hK hs9 hS (vv_rV (As := [.int x2, .int r1]) (rest := [.int x5, .int 0, .int x2, .ref (aM 1)]) hx hb hml hown hts hK hN hS hs9 (ccX3_pull l D C H.size aT aM mT mM13 x2 r1 r15 hc) (cwV 2 hts gX3_pass_X3_pull rfl rfl rfl (by decide +kernel) ⟨(Nat.le_of_ble_eq_true rfl), (Nat.le_of_ble_eq_true rfl)⟩) (va_recv hK hP (ci := 3) (q0 := 7) rfl rfl) rfl hl.1 rfl (Nat.le_of_ble_eq_true rfl) dX3_pass_116 ⟨Nat.zero_le _, Nat.zero_le _⟩) (fun H locs hP hD hS => ?_)
              refine lv_isub hx hb dX3_pass_119 ?_
              refine va_mmax hx hb (hml.trans hl.1.symm) hown q5 q6 q7 q8 (Nat.le_of_ble_eq_true rfl) (Nat.le_of_ble_eq_true rfl) (Nat.zero_le _) (Nat.zero_le _) dX3_pass_120 ?_
              obtain ⟨x16, ex16, hf⟩ := kv_lt_e hf
              refine vv_nami ex16 ?_
              obtain ⟨h9, hf⟩ := kv_ix_e hf
              obtain ⟨mM17, emM17, hf⟩ := kv_lt_e hf
              refine va_iast hx hb hK hP hD hS 8 1 rfl rfl h9 dX3_pass_123 (fun H locs hP hD hS => ?_)
              have hP : va_P D vwCl (w_Told C aT mT ++ w_Mom C aT aM mM17) H := by rw [emM17]; exact hP
              have hD : va_D A (w_Told C aT mT ++ w_Mom C aT aM mM17) := by rw [emM17]; exact hD
              refine lv_iload_n hx hb dX3_pass_124 rfl (lv_at hl 2 rfl) ?_
              refine lv_iload hx hb dX3_pass_125 (lv_at hl 0 rfl) ?_
              refine lv_aload_n hx hb dX3_pass_127 rfl (lv_at hl 4 rfl) ?_
              refine va_get (D := D) (ci := 3) (v := .ref (aM 1)) (C := RX3) (T := TX3) (N := 7) hx hb hts iX3 hown hK hP 7 rfl rfl 3 (by decide) q3 (fun _ h9 => h9) rfl dX3_pass_128 ?_
              refine lv_iload_n hx hb dX3_pass_131 rfl (lv_at hl 1 rfl) ?_
              obtain ⟨h9, hf⟩ := kv_ix_e hf
              refine va_iald hx hb hK hP 8 1 rfl rfl h9 dX3_pass_132 ?_
              refine lv_isub hx hb dX3_pass_133 ?_
              refine lv_iadd hx hb dX3_pass_134 ?_
              obtain ⟨x18, ex18, hf⟩ := kv_lt_e hf
              refine vv_nami ex18 ?_
              refine lv_istore_n (lv' := [(2, .int x18), (4, .int x5), (3, .int x2), (1, .int r1), (0, .ref (aM 0))]) hx hb dX3_pass_135 rfl hl (by decide) rfl (fun ls hl => ?_)
              exact J136_6 _ _ _ _ _ hP hD hS (lv_sub hl [2, 0, 3, 4] rfl) hf
          refine lv_if_eq (tgt := 97) hx hb dX3_pass_68 (by decide) (fun hc => ?_) (fun hc => ?_)
          · have hf := kv_t hc hf
            exact J97_12 _ _ _ _ hP hD hS (lv_sub hl [0, 1, 2, 3, 4] rfl) hf
          · have hf := kv_f hc hf
            refine lv_iload_n hx hb dX3_pass_71 rfl (lv_at hl 3 rfl) ?_
            refine lv_if_ge (tgt := 97) hx hb dX3_pass_72 (by decide) (fun hc => ?_) (fun hc => ?_)
            · have hf := kv_t hc hf
              exact J97_12 _ _ _ _ hP hD hS (lv_sub hl [0, 1, 2, 3, 4] rfl) hf
            · have hf := kv_f hc hf
              refine lv_aload_n hx hb dX3_pass_75 rfl (lv_at hl 4 rfl) ?_
              refine va_get (D := D) (ci := 3) (v := .ref (aM 1)) (C := RX3) (T := TX3) (N := 7) hx hb hts iX3 hown hK hP 7 rfl rfl 3 (by decide) q3 (fun _ h9 => h9) rfl dX3_pass_76 ?_
              refine lv_iload_n hx hb dX3_pass_79 rfl (lv_at hl 1 rfl) ?_
              refine lv_aload_n hx hb dX3_pass_80 rfl (lv_at hl 4 rfl) ?_
              refine va_get (D := D) (ci := 3) (v := .ref (aT 0)) (C := RX3) (T := TX3) (N := 7) hx hb hts iX3 hown hK hP 7 rfl rfl 0 (by decide) q0 (fun _ h9 => h9) rfl dX3_pass_81 ?_
              refine lv_iload_n hx hb dX3_pass_84 rfl (lv_at hl 1 rfl) ?_
              refine lv_iload hx hb dX3_pass_85 (lv_at hl 0 rfl) ?_
              refine lv_iload_n hx hb dX3_pass_87 rfl (lv_at hl 3 rfl) ?_
              refine lv_ineg hx hb dX3_pass_88 ?_
              refine lv_iconst (v := 1) hx hb dX3_pass_89 (by decide) ?_
              obtain ⟨r19, hc, hf⟩ := kv_b1_e hf
              have hs9 : vv_Sub D H A (w_Told C aT mT) (w_Told C aT mT) (w_Told C aT mT ++ w_Mom C aT aM mM4) := vv_Sub.part (ws := (w_Told C aT mT ++ w_Mom C aT aM mM4)) (wr := (w_Mom C aT aM mM4)) [0, 1, 2, 3, 4, 5, 6] [7, 8, 9, 10, 11] [5, 6, 7, 8, 9, 10, 11, 0, 1, 2, 3, 4] hP hD hS hA rfl rfl (by decide) rfl
              refine vv_goi (wn := (w_Told C aT mT ++ w_Mom C aT aM mM4)) hK hs9 hS (vv_rV (As := [.int x2, .int x5, .int (-r1), .int 1]) (rest := [.int x2, .ref (aM 1)]) hx hb hml hown hts hK hN hS hs9 (ccX6_soaked l D C H.size aT mT x2 x5 (-r1) (1 : Int32) r19 hc) (cwV 4 hts gX3_pass_X6_soaked rfl rfl rfl (by decide +kernel) ⟨(Nat.le_of_ble_eq_true rfl), (Nat.le_of_ble_eq_true rfl)⟩) (va_recv hK hP (ci := 6) (q0 := 0) rfl rfl) rfl hl.1 rfl (Nat.le_of_ble_eq_true rfl) dX3_pass_90 ⟨Nat.zero_le _, Nat.zero_le _⟩) (fun H locs hP hD hS => ?_)
              obtain ⟨h9, hf⟩ := kv_ix_e hf
              obtain ⟨mM20, emM20, hf⟩ := kv_lt_e hf
              refine va_iast hx hb hK hP hD hS 8 1 rfl rfl h9 dX3_pass_93 (fun H locs hP hD hS => ?_)
              have hP : va_P D vwCl (w_Told C aT mT ++ w_Mom C aT aM mM20) H := by rw [emM20]; exact hP
              have hD : va_D A (w_Told C aT mT ++ w_Mom C aT aM mM20) := by rw [emM20]; exact hD
              refine lv_goto (tgt := 136) hx hb dX3_pass_94 (by decide) ?_
              exact J136_6 _ _ _ _ _ hP hD hS (lv_sub hl [1, 2, 3, 4] rfl) hf
        · have hf := kv_t hc hf
          refine lv_aload_n hx hb dX3_pass_46 rfl (lv_at hl 4 rfl) ?_
          refine va_get (D := D) (ci := 3) (v := .ref (aM 1)) (C := RX3) (T := TX3) (N := 7) hx hb hts iX3 hown hK hP 7 rfl rfl 3 (by decide) q3 (fun _ h9 => h9) rfl dX3_pass_47 ?_
          refine lv_iload_n hx hb dX3_pass_50 rfl (lv_at hl 1 rfl) ?_
          refine lv_iconst (v := 0) hx hb dX3_pass_51 (by decide) ?_
          refine lv_iload hx hb dX3_pass_52 (lv_at hl 0 rfl) ?_
          refine lv_iconst (v := 1) hx hb dX3_pass_54 (by decide) ?_
          refine lv_isub hx hb dX3_pass_55 ?_
          refine va_mmax hx hb (hml.trans hl.1.symm) hown q5 q6 q7 q8 (Nat.le_of_ble_eq_true rfl) (Nat.le_of_ble_eq_true rfl) (Nat.zero_le _) (Nat.zero_le _) dX3_pass_56 ?_
          obtain ⟨x21, ex21, hf⟩ := kv_lt_e hf
          refine vv_nami ex21 ?_
          obtain ⟨h9, hf⟩ := kv_ix_e hf
          obtain ⟨mM22, emM22, hf⟩ := kv_lt_e hf
          refine va_iast hx hb hK hP hD hS 8 1 rfl rfl h9 dX3_pass_59 (fun H locs hP hD hS => ?_)
          have hP : va_P D vwCl (w_Told C aT mT ++ w_Mom C aT aM mM22) H := by rw [emM22]; exact hP
          have hD : va_D A (w_Told C aT mT ++ w_Mom C aT aM mM22) := by rw [emM22]; exact hD
          refine lv_goto (tgt := 136) hx hb dX3_pass_60 (by decide) ?_
          exact J136_6 _ _ _ _ _ hP hD hS (lv_sub hl [1, 2, 3, 4] rfl) hf
  refine L16 _ (fun x23 x24 mM25 H locs ls hP hD hS hl hf => ?_) _ _ _ _ _ _ _ hP hD hS (lv_sub hl [0, 1, 2, 3] rfl) hf
  refine lv_aload_n hx hb dX3_pass_147 rfl (lv_at hl 3 rfl) ?_
  refine lv_aload_n hx hb dX3_pass_148 rfl (lv_at hl 3 rfl) ?_
  refine va_get (D := D) (ci := 3) (v := .int (mM25 0 2)) (C := RX3) (T := TX3) (N := 7) hx hb hts iX3 hown hK hP 7 rfl rfl 2 (by decide) q9 (fun _ h9 => h9) rfl dX3_pass_149 ?_
  refine lv_iconst (v := 2) hx hb dX3_pass_152 (by decide) ?_
  refine lv_idiv hx hb dX3_pass_153 (by decide) ?_
  refine lv_iload_n hx hb dX3_pass_154 rfl (lv_at hl 1 rfl) ?_
  refine lv_bipush (v := 8) hx hb dX3_pass_155 (by decide) ?_
  refine lv_idiv hx hb dX3_pass_157 (by decide) ?_
  refine lv_iadd hx hb dX3_pass_158 ?_
  obtain ⟨x26, ex26, hf⟩ := kv_lt_e hf
  refine vv_nami ex26 ?_
  obtain ⟨mM27, emM27, hf⟩ := kv_lt_e hf
  refine va_put (D := D) (ci := 3) (v := .int x26) (ty := .int) (C := RX3) (T := TX3) (N := 7) hx hb hts iX3 tyX3 tyX3_ok nmX3 hown hK hP hD hS 7 rfl rfl 2 (by decide) q9 (fun _ h9 => h9) rfl (tyX3_ok 2 (by decide)) rfl rfl (Nat.le_of_ble_eq_true rfl) dX3_pass_159 (fun H locs hP hD hS => ?_)
  have hP : va_P D vwCl (w_Told C aT mT ++ w_Mom C aT aM mM27) H := by rw [emM27]; exact hP
  have hD : va_D A (w_Told C aT mT ++ w_Mom C aT aM mM27) := by rw [emM27]; exact hD
  refine lv_aload_n hx hb dX3_pass_162 rfl (lv_at hl 3 rfl) ?_
  refine lv_dup hx hb dX3_pass_163 rfl ?_
  refine va_get (D := D) (ci := 3) (v := .int (mM27 0 1)) (C := RX3) (T := TX3) (N := 7) hx hb hts iX3 hown hK hP 7 rfl rfl 1 (by decide) q1 (fun _ h9 => h9) rfl dX3_pass_164 ?_
  refine lv_iconst (v := 1) hx hb dX3_pass_167 (by decide) ?_
  refine lv_iadd hx hb dX3_pass_168 ?_
  obtain ⟨x28, ex28, hf⟩ := kv_lt_e hf
  refine vv_nami ex28 ?_
  obtain ⟨mM29, emM29, hf⟩ := kv_lt_e hf
  refine va_put (D := D) (ci := 3) (v := .int x28) (ty := .int) (C := RX3) (T := TX3) (N := 7) hx hb hts iX3 tyX3 tyX3_ok nmX3 hown hK hP hD hS 7 rfl rfl 1 (by decide) q1 (fun _ h9 => h9) rfl (tyX3_ok 1 (by decide)) rfl rfl (Nat.le_of_ble_eq_true rfl) dX3_pass_169 (fun H locs hP hD hS => ?_)
  have hP : va_P D vwCl (w_Told C aT mT ++ w_Mom C aT aM mM29) H := by rw [emM29]; exact hP
  have hD : va_D A (w_Told C aT mT ++ w_Mom C aT aM mM29) := by rw [emM29]; exact hD
  refine lv_iload_n hx hb dX3_pass_172 rfl (lv_at hl 1 rfl) ?_
  exact hret _ _ _ _ _ _ hf rfl hP hD hS dX3_pass_173
abbrev rX3_allWater : Room := { frames := 0, cells := 0, slots := 0, locals := 0 }
set_option maxHeartbeats 4000000 in
set_option maxRecDepth 100000 in
theorem ccX3_allWater (l : Launch) (D : va_G) (C : Nat → ClassId) (sz : Nat) (aT : Nat → Nat) (aM : Nat → Nat) (mT : Mm) (mM : Mm) (rr : Int32) (hf : ffX3_allWater mT mM = some (rr)) : Met l yX3_allWater wsX3_allWater rX3_allWater (va_Pc [.ref (aM 0)] (vv_pre D C (w_Told C aT mT ++ w_Mom C aT aM mM) sz)) (vv_QI D C (w_Told C aT mT ++ w_Mom C aT aM mM) (w_Told C aT mT ++ w_Mom C aT aM mM) sz rr) 0 0 (va_A (w_Told C aT mT ++ w_Mom C aT aM mM) sz) := by
  unfold ffX3_allWater at hf
  refine vv_metI (cc := cX3_allWater) (maxL := 3) (ty := .int) (by decide) rfl (Nat.le_of_ble_eq_true rfl) ?_
  intro p e s m args below meth c A Q H locs ls hx hb hml hown hts hA hK hN hP hD hS hl hret
  have hown : s.vm.findClass RX3 = some m.cls := hown
  have hl : lv_has ls 3 [(0, .ref (aM 0))] := hl
  have hret : ∀ (v0 : Int32) (H : Heap) (locs : List Loc) (ls : Array Slot) (pc : Nat), some (v0) = some (rr) → narrow .int (.int v0) = .int v0 → va_P D vwCl (w_Told C aT mT ++ w_Mom C aT aM mM) H → va_D A (w_Told C aT mT ++ w_Mom C aT aM mM) → va_S A s.heap H locs → decode cX3_allWater pc = .ok (.ireturn, 1) → W p l e rX3_allWater s m args below meth c H locs 0 0 Q (F0 m pc ls [.int v0]) := by
    intro v0 H locs ls pc h0 hn h1 h2 h3 h4
    cases h0
    exact hret H locs ls pc hn h1 h2 h3 h4
  have q0 := hts (.fieldLink RX3 25 "ForeRain$Moment" "told" "LForeRain$Told;") (by decide +kernel)
  have q1 := hts (.fieldLink RX3 36 "ForeRain$Told" "pieces" "I") (by decide +kernel)
  have q2 := hts (.fieldLink RX3 9 "ForeRain$Moment" "water" "[I") (by decide +kernel)
  have iX3 : ∀ w ∈ u_ws RX3 TX3 7, w ∈ wsX3_allWater := by decide +kernel
  have iX6 : ∀ w ∈ u_ws RX6 TX6 9, w ∈ wsX3_allWater := by decide +kernel
  refine lv_iconst (v := 0) hx hb dX3_allWater_0 (by decide) ?_
  refine lv_istore_n (lv' := [(1, .int 0), (0, .ref (aM 0))]) hx hb dX3_allWater_1 rfl hl (by decide) rfl (fun ls hl => ?_)
  refine lv_iconst (v := 0) hx hb dX3_allWater_2 (by decide) ?_
  refine lv_istore_n (lv' := [(2, .int 0), (1, .int 0), (0, .ref (aM 0))]) hx hb dX3_allWater_3 rfl hl (by decide) rfl (fun ls hl => ?_)
  have L4 : ∀ (K4 : Int32 → Int32 → Option (Int32)), (∀ (x1 : Int32) (x2 : Int32) (H : Heap) (locs : List Loc) (ls : Array Slot), va_P D vwCl (w_Told C aT mT ++ w_Mom C aT aM mM) H → va_D A (w_Told C aT mT ++ w_Mom C aT aM mM) → va_S A s.heap H locs → lv_has ls 3 [(2, .int x1), (1, .int x2), (0, .ref (aM 0))] → K4 x1 x2 = some (rr) → W p l e rX3_allWater s m args below meth c H locs 0 0 Q (F0 m 30 ls [])) → ∀ (n : Nat) (x1 : Int32) (x2 : Int32) (H : Heap) (locs : List Loc) (ls : Array Slot), va_P D vwCl (w_Told C aT mT ++ w_Mom C aT aM mM) H → va_D A (w_Told C aT mT ++ w_Mom C aT aM mM) → va_S A s.heap H locs → lv_has ls 3 [(2, .int x1), (1, .int x2), (0, .ref (aM 0))] → ffX3_allWater_L4 mT mM K4 n x1 x2 = some (rr) → W p l e rX3_allWater s m args below meth c H locs 0 0 Q (F0 m 4 ls []) := by
    intro K4 hK9 n
    induction n with
    | zero => intro x1 x2 H locs ls hP hD hS hl hf; exact kv_no hf
    | succ n ih =>
      intro x1 x2 H locs ls hP hD hS hl hf
      rw [ffX3_allWater_L4_s] at hf
      refine lv_iload_n hx hb dX3_allWater_4 rfl (lv_at hl 0 rfl) ?_
      refine lv_aload_n hx hb dX3_allWater_5 rfl (lv_at hl 2 rfl) ?_
      refine va_get (D := D) (ci := 3) (v := .ref (aT 0)) (C := RX3) (T := TX3) (N := 7) hx hb hts iX3 hown hK hP 7 rfl rfl 0 (by decide) q0 (fun _ h9 => h9) rfl dX3_allWater_6 ?_
      refine va_get (D := D) (ci := 6) (v := .int (mT 0 0)) (C := RX6) (T := TX6) (N := 9) hx hb hts iX6 hown hK hP 0 rfl rfl 0 (by decide) q1 (fun _ h9 => h9) rfl dX3_allWater_9 ?_
      refine lv_icmp_ge (tgt := 30) hx hb dX3_allWater_12 (by decide) (fun hc => ?_) (fun hc => ?_)
      · have hf := kv_t hc hf
        exact hK9 _ _ _ _ _ hP hD hS (lv_sub hl [0, 1, 2] rfl) hf
      · have hf := kv_f hc hf
        refine lv_iload_n hx hb dX3_allWater_15 rfl (lv_at hl 1 rfl) ?_
        refine lv_aload_n hx hb dX3_allWater_16 rfl (lv_at hl 2 rfl) ?_
        refine va_get (D := D) (ci := 3) (v := .ref (aM 1)) (C := RX3) (T := TX3) (N := 7) hx hb hts iX3 hown hK hP 7 rfl rfl 3 (by decide) q2 (fun _ h9 => h9) rfl dX3_allWater_17 ?_
        refine lv_iload_n hx hb dX3_allWater_20 rfl (lv_at hl 0 rfl) ?_
        obtain ⟨h9, hf⟩ := kv_ix_e hf
        refine va_iald hx hb hK hP 8 1 rfl rfl h9 dX3_allWater_21 ?_
        refine lv_iadd hx hb dX3_allWater_22 ?_
        obtain ⟨x3, ex3, hf⟩ := kv_lt_e hf
        refine vv_nami ex3 ?_
        refine lv_istore_n (lv' := [(1, .int x3), (2, .int x1), (0, .ref (aM 0))]) hx hb dX3_allWater_23 rfl hl (by decide) rfl (fun ls hl => ?_)
        obtain ⟨x4, ex4, hf⟩ := kv_lt_e hf
        refine lv_iinc (v := x4) (lv' := [(2, .int x4), (1, .int x3), (0, .ref (aM 0))]) hx hb dX3_allWater_24 hl (k := 1) rfl (by rw [ex4]; rfl) (by decide) rfl (fun ls hl => ?_)
        refine lv_goto (tgt := 4) hx hb dX3_allWater_27 (by decide) ?_
        exact ih _ _ _ _ _ hP hD hS (lv_sub hl [0, 1, 2] rfl) hf
  refine L4 _ (fun x5 x6 H locs ls hP hD hS hl hf => ?_) _ _ _ _ _ _ hP hD hS (lv_sub hl [0, 1, 2] rfl) hf
  refine lv_iload_n hx hb dX3_allWater_30 rfl (lv_at hl 1 rfl) ?_
  exact hret _ _ _ _ _ hf rfl hP hD hS dX3_allWater_31
abbrev rX3_begin : Room := { frames := 0, cells := 0, slots := 0, locals := 0 }
set_option maxHeartbeats 4000000 in
set_option maxRecDepth 100000 in
theorem ccX3_begin (l : Launch) (D : va_G) (C : Nat → ClassId) (sz : Nat) (aT : Nat → Nat) (aM : Nat → Nat) (mT : Mm) (mM : Mm) (oM : Mm) (hf : ffX3_begin mT mM = some (oM)) : Met l yX3_begin wsX3_begin rX3_begin (va_Pc [.ref (aM 0)] (vv_pre D C (w_Told C aT mT ++ w_Mom C aT aM mM) sz)) (vv_QV D C (w_Told C aT mT ++ w_Mom C aT aM mM) (w_Told C aT mT ++ w_Mom C aT aM oM) sz) 0 0 (va_A (w_Told C aT mT ++ w_Mom C aT aM mM) sz) := by
  unfold ffX3_begin at hf
  refine vv_metV (cc := cX3_begin) (maxL := 2) (by decide) rfl (Nat.le_of_ble_eq_true rfl) ?_
  intro p e s m args below meth c A Q H locs ls hx hb hml hown hts hA hK hN hP hD hS hl hret
  have hown : s.vm.findClass RX3 = some m.cls := hown
  have hl : lv_has ls 2 [(0, .ref (aM 0))] := hl
  have hret : ∀ (v0 : Mm) (H : Heap) (locs : List Loc) (ls : Array Slot) (pc : Nat), some (v0) = some (oM) → va_P D vwCl (w_Told C aT mT ++ w_Mom C aT aM v0) H → va_D A (w_Told C aT mT ++ w_Mom C aT aM v0) → va_S A s.heap H locs → decode cX3_begin pc = .ok (.return_, 1) → W p l e rX3_begin s m args below meth c H locs 0 0 Q (F0 m pc ls []) := by
    intro v0 H locs ls pc h0 h1 h2 h3 h4
    cases h0
    exact hret H locs ls pc h1 h2 h3 h4
  have q0 := hts (.fieldLink RX3 29 "ForeRain$Moment" "step" "I") (by decide +kernel)
  have q1 := hts (.fieldLink RX3 33 "ForeRain$Moment" "damp" "I") (by decide +kernel)
  have q2 := hts (.fieldLink RX3 25 "ForeRain$Moment" "told" "LForeRain$Told;") (by decide +kernel)
  have q3 := hts (.fieldLink RX3 36 "ForeRain$Told" "pieces" "I") (by decide +kernel)
  have q4 := hts (.fieldLink RX3 9 "ForeRain$Moment" "water" "[I") (by decide +kernel)
  have q5 := hts (.fieldLink RX3 41 "ForeRain$Told" "water" "[I") (by decide +kernel)
  have q6 := hts (.fieldLink RX3 15 "ForeRain$Moment" "age" "[I") (by decide +kernel)
  have q7 := hts (.fieldLink RX3 18 "ForeRain$Moment" "place" "[I") (by decide +kernel)
  have q8 := hts (.fieldLink RX3 21 "ForeRain$Moment" "smells" "[Z") (by decide +kernel)
  have iX3 : ∀ w ∈ u_ws RX3 TX3 7, w ∈ wsX3_begin := by decide +kernel
  have iX6 : ∀ w ∈ u_ws RX6 TX6 9, w ∈ wsX3_begin := by decide +kernel
  refine lv_aload_n hx hb dX3_begin_0 rfl (lv_at hl 0 rfl) ?_
  refine lv_iconst (v := 0) hx hb dX3_begin_1 (by decide) ?_
  obtain ⟨mM1, emM1, hf⟩ := kv_lt_e hf
  refine va_put (D := D) (ci := 3) (v := .int 0) (ty := .int) (C := RX3) (T := TX3) (N := 7) hx hb hts iX3 tyX3 tyX3_ok nmX3 hown hK hP hD hS 7 rfl rfl 1 (by decide) q0 (fun _ h9 => h9) rfl (tyX3_ok 1 (by decide)) rfl rfl (Nat.le_of_ble_eq_true rfl) dX3_begin_2 (fun H locs hP hD hS => ?_)
  have hP : va_P D vwCl (w_Told C aT mT ++ w_Mom C aT aM mM1) H := by rw [emM1]; exact hP
  have hD : va_D A (w_Told C aT mT ++ w_Mom C aT aM mM1) := by rw [emM1]; exact hD
  refine lv_aload_n hx hb dX3_begin_5 rfl (lv_at hl 0 rfl) ?_
  refine lv_iconst (v := 0) hx hb dX3_begin_6 (by decide) ?_
  obtain ⟨mM2, emM2, hf⟩ := kv_lt_e hf
  refine va_put (D := D) (ci := 3) (v := .int 0) (ty := .int) (C := RX3) (T := TX3) (N := 7) hx hb hts iX3 tyX3 tyX3_ok nmX3 hown hK hP hD hS 7 rfl rfl 2 (by decide) q1 (fun _ h9 => h9) rfl (tyX3_ok 2 (by decide)) rfl rfl (Nat.le_of_ble_eq_true rfl) dX3_begin_7 (fun H locs hP hD hS => ?_)
  have hP : va_P D vwCl (w_Told C aT mT ++ w_Mom C aT aM mM2) H := by rw [emM2]; exact hP
  have hD : va_D A (w_Told C aT mT ++ w_Mom C aT aM mM2) := by rw [emM2]; exact hD
  refine lv_iconst (v := 0) hx hb dX3_begin_10 (by decide) ?_
  refine lv_istore_n (lv' := [(1, .int 0), (0, .ref (aM 0))]) hx hb dX3_begin_11 rfl hl (by decide) rfl (fun ls hl => ?_)
  have L12 : ∀ (K12 : Int32 → Mm → Option (Mm)), (∀ (x3 : Int32) (mM4 : Mm) (H : Heap) (locs : List Loc) (ls : Array Slot), va_P D vwCl (w_Told C aT mT ++ w_Mom C aT aM mM4) H → va_D A (w_Told C aT mT ++ w_Mom C aT aM mM4) → va_S A s.heap H locs → lv_has ls 2 [(1, .int x3), (0, .ref (aM 0))] → K12 x3 mM4 = some (oM) → W p l e rX3_begin s m args below meth c H locs 0 0 Q (F0 m 66 ls [])) → ∀ (n : Nat) (x3 : Int32) (mM4 : Mm) (H : Heap) (locs : List Loc) (ls : Array Slot), va_P D vwCl (w_Told C aT mT ++ w_Mom C aT aM mM4) H → va_D A (w_Told C aT mT ++ w_Mom C aT aM mM4) → va_S A s.heap H locs → lv_has ls 2 [(1, .int x3), (0, .ref (aM 0))] → ffX3_begin_L12 mT K12 n x3 mM4 = some (oM) → W p l e rX3_begin s m args below meth c H locs 0 0 Q (F0 m 12 ls []) := by
    intro K12 hK9 n
    induction n with
    | zero => intro x3 mM4 H locs ls hP hD hS hl hf; exact kv_no hf
    | succ n ih =>
      intro x3 mM4 H locs ls hP hD hS hl hf
      rw [ffX3_begin_L12_s] at hf
      refine lv_iload_n hx hb dX3_begin_12 rfl (lv_at hl 0 rfl) ?_
      refine lv_aload_n hx hb dX3_begin_13 rfl (lv_at hl 1 rfl) ?_
      refine va_get (D := D) (ci := 3) (v := .ref (aT 0)) (C := RX3) (T := TX3) (N := 7) hx hb hts iX3 hown hK hP 7 rfl rfl 0 (by decide) q2 (fun _ h9 => h9) rfl dX3_begin_14 ?_
      refine va_get (D := D) (ci := 6) (v := .int (mT 0 0)) (C := RX6) (T := TX6) (N := 9) hx hb hts iX6 hown hK hP 0 rfl rfl 0 (by decide) q3 (fun _ h9 => h9) rfl dX3_begin_17 ?_
      refine lv_icmp_ge (tgt := 66) hx hb dX3_begin_20 (by decide) (fun hc => ?_) (fun hc => ?_)
      · have hf := kv_t hc hf
        exact hK9 _ _ _ _ _ hP hD hS (lv_sub hl [0, 1] rfl) hf
      · have hf := kv_f hc hf
        refine lv_aload_n hx hb dX3_begin_23 rfl (lv_at hl 1 rfl) ?_
        refine va_get (D := D) (ci := 3) (v := .ref (aM 1)) (C := RX3) (T := TX3) (N := 7) hx hb hts iX3 hown hK hP 7 rfl rfl 3 (by decide) q4 (fun _ h9 => h9) rfl dX3_begin_24 ?_
        refine lv_iload_n hx hb dX3_begin_27 rfl (lv_at hl 0 rfl) ?_
        refine lv_aload_n hx hb dX3_begin_28 rfl (lv_at hl 1 rfl) ?_
        refine va_get (D := D) (ci := 3) (v := .ref (aT 0)) (C := RX3) (T := TX3) (N := 7) hx hb hts iX3 hown hK hP 7 rfl rfl 0 (by decide) q2 (fun _ h9 => h9) rfl dX3_begin_29 ?_
        refine va_get (D := D) (ci := 6) (v := .ref (aT 1)) (C := RX6) (T := TX6) (N := 9) hx hb hts iX6 hown hK hP 0 rfl rfl 3 (by decide) q5 (fun _ h9 => h9) rfl dX3_begin_32 ?_
        refine lv_iload_n hx hb dX3_begin_35 rfl (lv_at hl 0 rfl) ?_
        obtain ⟨h9, hf⟩ := kv_ix_e hf
        refine va_iald hx hb hK hP 1 1 rfl rfl h9 dX3_begin_36 ?_
        obtain ⟨x5, ex5, hf⟩ := kv_lt_e hf
        refine vv_nami ex5 ?_
        obtain ⟨h9, hf⟩ := kv_ix_e hf
        obtain ⟨mM6, emM6, hf⟩ := kv_lt_e hf
        refine va_iast hx hb hK hP hD hS 8 1 rfl rfl h9 dX3_begin_37 (fun H locs hP hD hS => ?_)
        have hP : va_P D vwCl (w_Told C aT mT ++ w_Mom C aT aM mM6) H := by rw [emM6]; exact hP
        have hD : va_D A (w_Told C aT mT ++ w_Mom C aT aM mM6) := by rw [emM6]; exact hD
        refine lv_aload_n hx hb dX3_begin_38 rfl (lv_at hl 1 rfl) ?_
        refine va_get (D := D) (ci := 3) (v := .ref (aM 2)) (C := RX3) (T := TX3) (N := 7) hx hb hts iX3 hown hK hP 7 rfl rfl 4 (by decide) q6 (fun _ h9 => h9) rfl dX3_begin_39 ?_
        refine lv_iload_n hx hb dX3_begin_42 rfl (lv_at hl 0 rfl) ?_
        refine lv_iconst (v := 0) hx hb dX3_begin_43 (by decide) ?_
        obtain ⟨h9, hf⟩ := kv_ix_e hf
        obtain ⟨mM7, emM7, hf⟩ := kv_lt_e hf
        refine va_iast hx hb hK hP hD hS 9 1 rfl rfl h9 dX3_begin_44 (fun H locs hP hD hS => ?_)
        have hP : va_P D vwCl (w_Told C aT mT ++ w_Mom C aT aM mM7) H := by rw [emM7]; exact hP
        have hD : va_D A (w_Told C aT mT ++ w_Mom C aT aM mM7) := by rw [emM7]; exact hD
        refine lv_aload_n hx hb dX3_begin_45 rfl (lv_at hl 1 rfl) ?_
        refine va_get (D := D) (ci := 3) (v := .ref (aM 3)) (C := RX3) (T := TX3) (N := 7) hx hb hts iX3 hown hK hP 7 rfl rfl 5 (by decide) q7 (fun _ h9 => h9) rfl dX3_begin_46 ?_
        refine lv_iload_n hx hb dX3_begin_49 rfl (lv_at hl 0 rfl) ?_
        refine lv_bipush (v := 9) hx hb dX3_begin_50 (by decide) ?_
        obtain ⟨h9, hf⟩ := kv_ix_e hf
        obtain ⟨mM8, emM8, hf⟩ := kv_lt_e hf
        refine va_iast hx hb hK hP hD hS 10 1 rfl rfl h9 dX3_begin_52 (fun H locs hP hD hS => ?_)
        have hP : va_P D vwCl (w_Told C aT mT ++ w_Mom C aT aM mM8) H := by rw [emM8]; exact hP
        have hD : va_D A (w_Told C aT mT ++ w_Mom C aT aM mM8) := by rw [emM8]; exact hD
        refine lv_aload_n hx hb dX3_begin_53 rfl (lv_at hl 1 rfl) ?_
        refine va_get (D := D) (ci := 3) (v := .ref (aM 4)) (C := RX3) (T := TX3) (N := 7) hx hb hts iX3 hown hK hP 7 rfl rfl 6 (by decide) q8 (fun _ h9 => h9) rfl dX3_begin_54 ?_
        refine lv_iload_n hx hb dX3_begin_57 rfl (lv_at hl 0 rfl) ?_
        refine lv_iconst (v := 0) hx hb dX3_begin_58 (by decide) ?_
        obtain ⟨h9, hf⟩ := kv_ix_e hf
        obtain ⟨mM9, emM9, hf⟩ := kv_lt_e hf
        refine va_zast hx hb hK hP hD hS 11 2 rfl rfl h9 dX3_begin_59 (fun H locs hP hD hS => ?_)
        have hP : va_P D vwCl (w_Told C aT mT ++ w_Mom C aT aM mM9) H := by rw [emM9]; exact hP
        have hD : va_D A (w_Told C aT mT ++ w_Mom C aT aM mM9) := by rw [emM9]; exact hD
        obtain ⟨x10, ex10, hf⟩ := kv_lt_e hf
        refine lv_iinc (v := x10) (lv' := [(1, .int x10), (0, .ref (aM 0))]) hx hb dX3_begin_60 hl (k := 0) rfl (by rw [ex10]; rfl) (by decide) rfl (fun ls hl => ?_)
        refine lv_goto (tgt := 12) hx hb dX3_begin_63 (by decide) ?_
        exact ih _ _ _ _ _ hP hD hS (lv_sub hl [0, 1] rfl) hf
  refine L12 _ (fun x11 mM12 H locs ls hP hD hS hl hf => ?_) _ _ _ _ _ _ hP hD hS (lv_sub hl [0, 1] rfl) hf
  exact hret _ _ _ _ _ hf hP hD hS dX3_begin_66
abbrev rX3_howManyDry : Room := { frames := 0, cells := 0, slots := 0, locals := 0 }
set_option maxHeartbeats 4000000 in
set_option maxRecDepth 100000 in
theorem ccX3_howManyDry (l : Launch) (D : va_G) (C : Nat → ClassId) (sz : Nat) (aT : Nat → Nat) (aM : Nat → Nat) (mT : Mm) (mM : Mm) (rr : Int32) (hf : ffX3_howManyDry mT mM = some (rr)) : Met l yX3_howManyDry wsX3_howManyDry rX3_howManyDry (va_Pc [.ref (aM 0)] (vv_pre D C (w_Told C aT mT ++ w_Mom C aT aM mM) sz)) (vv_QI D C (w_Told C aT mT ++ w_Mom C aT aM mM) (w_Told C aT mT ++ w_Mom C aT aM mM) sz rr) 0 0 (va_A (w_Told C aT mT ++ w_Mom C aT aM mM) sz) := by
  unfold ffX3_howManyDry at hf
  refine vv_metI (cc := cX3_howManyDry) (maxL := 3) (ty := .int) (by decide) rfl (Nat.le_of_ble_eq_true rfl) ?_
  intro p e s m args below meth c A Q H locs ls hx hb hml hown hts hA hK hN hP hD hS hl hret
  have hown : s.vm.findClass RX3 = some m.cls := hown
  have hl : lv_has ls 3 [(0, .ref (aM 0))] := hl
  have hret : ∀ (v0 : Int32) (H : Heap) (locs : List Loc) (ls : Array Slot) (pc : Nat), some (v0) = some (rr) → narrow .int (.int v0) = .int v0 → va_P D vwCl (w_Told C aT mT ++ w_Mom C aT aM mM) H → va_D A (w_Told C aT mT ++ w_Mom C aT aM mM) → va_S A s.heap H locs → decode cX3_howManyDry pc = .ok (.ireturn, 1) → W p l e rX3_howManyDry s m args below meth c H locs 0 0 Q (F0 m pc ls [.int v0]) := by
    intro v0 H locs ls pc h0 hn h1 h2 h3 h4
    cases h0
    exact hret H locs ls pc hn h1 h2 h3 h4
  have q0 := hts (.fieldLink RX3 25 "ForeRain$Moment" "told" "LForeRain$Told;") (by decide +kernel)
  have q1 := hts (.fieldLink RX3 36 "ForeRain$Told" "pieces" "I") (by decide +kernel)
  have q2 := hts (.fieldLink RX3 9 "ForeRain$Moment" "water" "[I") (by decide +kernel)
  have iX3 : ∀ w ∈ u_ws RX3 TX3 7, w ∈ wsX3_howManyDry := by decide +kernel
  have iX6 : ∀ w ∈ u_ws RX6 TX6 9, w ∈ wsX3_howManyDry := by decide +kernel
  refine lv_iconst (v := 0) hx hb dX3_howManyDry_0 (by decide) ?_
  refine lv_istore_n (lv' := [(1, .int 0), (0, .ref (aM 0))]) hx hb dX3_howManyDry_1 rfl hl (by decide) rfl (fun ls hl => ?_)
  refine lv_iconst (v := 0) hx hb dX3_howManyDry_2 (by decide) ?_
  refine lv_istore_n (lv' := [(2, .int 0), (1, .int 0), (0, .ref (aM 0))]) hx hb dX3_howManyDry_3 rfl hl (by decide) rfl (fun ls hl => ?_)
  have L4 : ∀ (K4 : Int32 → Int32 → Option (Int32)), (∀ (x1 : Int32) (x2 : Int32) (H : Heap) (locs : List Loc) (ls : Array Slot), va_P D vwCl (w_Told C aT mT ++ w_Mom C aT aM mM) H → va_D A (w_Told C aT mT ++ w_Mom C aT aM mM) → va_S A s.heap H locs → lv_has ls 3 [(2, .int x1), (1, .int x2), (0, .ref (aM 0))] → K4 x1 x2 = some (rr) → W p l e rX3_howManyDry s m args below meth c H locs 0 0 Q (F0 m 38 ls [])) → ∀ (n : Nat) (x1 : Int32) (x2 : Int32) (H : Heap) (locs : List Loc) (ls : Array Slot), va_P D vwCl (w_Told C aT mT ++ w_Mom C aT aM mM) H → va_D A (w_Told C aT mT ++ w_Mom C aT aM mM) → va_S A s.heap H locs → lv_has ls 3 [(2, .int x1), (1, .int x2), (0, .ref (aM 0))] → ffX3_howManyDry_L4 mT mM K4 n x1 x2 = some (rr) → W p l e rX3_howManyDry s m args below meth c H locs 0 0 Q (F0 m 4 ls []) := by
    intro K4 hK9 n
    induction n with
    | zero => intro x1 x2 H locs ls hP hD hS hl hf; exact kv_no hf
    | succ n ih =>
      intro x1 x2 H locs ls hP hD hS hl hf
      rw [ffX3_howManyDry_L4_s] at hf
      refine lv_iload_n hx hb dX3_howManyDry_4 rfl (lv_at hl 0 rfl) ?_
      refine lv_aload_n hx hb dX3_howManyDry_5 rfl (lv_at hl 2 rfl) ?_
      refine va_get (D := D) (ci := 3) (v := .ref (aT 0)) (C := RX3) (T := TX3) (N := 7) hx hb hts iX3 hown hK hP 7 rfl rfl 0 (by decide) q0 (fun _ h9 => h9) rfl dX3_howManyDry_6 ?_
      refine va_get (D := D) (ci := 6) (v := .int (mT 0 0)) (C := RX6) (T := TX6) (N := 9) hx hb hts iX6 hown hK hP 0 rfl rfl 0 (by decide) q1 (fun _ h9 => h9) rfl dX3_howManyDry_9 ?_
      refine lv_icmp_ge (tgt := 38) hx hb dX3_howManyDry_12 (by decide) (fun hc => ?_) (fun hc => ?_)
      · have hf := kv_t hc hf
        exact hK9 _ _ _ _ _ hP hD hS (lv_sub hl [0, 1, 2] rfl) hf
      · have hf := kv_f hc hf
        refine lv_iload_n hx hb dX3_howManyDry_15 rfl (lv_at hl 1 rfl) ?_
        refine lv_aload_n hx hb dX3_howManyDry_16 rfl (lv_at hl 2 rfl) ?_
        refine va_get (D := D) (ci := 3) (v := .ref (aM 1)) (C := RX3) (T := TX3) (N := 7) hx hb hts iX3 hown hK hP 7 rfl rfl 3 (by decide) q2 (fun _ h9 => h9) rfl dX3_howManyDry_17 ?_
        refine lv_iload_n hx hb dX3_howManyDry_20 rfl (lv_at hl 0 rfl) ?_
        obtain ⟨h9, hf⟩ := kv_ix_e hf
        refine va_iald hx hb hK hP 8 1 rfl rfl h9 dX3_howManyDry_21 ?_
        refine lv_if_ne (tgt := 29) hx hb dX3_howManyDry_22 (by decide) (fun hc => ?_) (fun hc => ?_)
        · have hf := kv_f hc hf
          refine lv_iconst (v := 0) hx hb dX3_howManyDry_29 (by decide) ?_
          refine lv_iadd hx hb dX3_howManyDry_30 ?_
          obtain ⟨x3, ex3, hf⟩ := kv_lt_e hf
          refine vv_nami ex3 ?_
          refine lv_istore_n (lv' := [(1, .int x3), (2, .int x1), (0, .ref (aM 0))]) hx hb dX3_howManyDry_31 rfl hl (by decide) rfl (fun ls hl => ?_)
          obtain ⟨x4, ex4, hf⟩ := kv_lt_e hf
          refine lv_iinc (v := x4) (lv' := [(2, .int x4), (1, .int x3), (0, .ref (aM 0))]) hx hb dX3_howManyDry_32 hl (k := 1) rfl (by rw [ex4]; rfl) (by decide) rfl (fun ls hl => ?_)
          refine lv_goto (tgt := 4) hx hb dX3_howManyDry_35 (by decide) ?_
          exact ih _ _ _ _ _ hP hD hS (lv_sub hl [0, 1, 2] rfl) hf
        · have hf := kv_t hc hf
          refine lv_iconst (v := 1) hx hb dX3_howManyDry_25 (by decide) ?_
          refine lv_goto (tgt := 30) hx hb dX3_howManyDry_26 (by decide) ?_
          refine lv_iadd hx hb dX3_howManyDry_30 ?_
          obtain ⟨x5, ex5, hf⟩ := kv_lt_e hf
          refine vv_nami ex5 ?_
          refine lv_istore_n (lv' := [(1, .int x5), (2, .int x1), (0, .ref (aM 0))]) hx hb dX3_howManyDry_31 rfl hl (by decide) rfl (fun ls hl => ?_)
          obtain ⟨x6, ex6, hf⟩ := kv_lt_e hf
          refine lv_iinc (v := x6) (lv' := [(2, .int x6), (1, .int x5), (0, .ref (aM 0))]) hx hb dX3_howManyDry_32 hl (k := 1) rfl (by rw [ex6]; rfl) (by decide) rfl (fun ls hl => ?_)
          refine lv_goto (tgt := 4) hx hb dX3_howManyDry_35 (by decide) ?_
          exact ih _ _ _ _ _ hP hD hS (lv_sub hl [0, 1, 2] rfl) hf
  refine L4 _ (fun x7 x8 H locs ls hP hD hS hl hf => ?_) _ _ _ _ _ _ hP hD hS (lv_sub hl [0, 1, 2] rfl) hf
  refine lv_iload_n hx hb dX3_howManyDry_38 rfl (lv_at hl 1 rfl) ?_
  exact hret _ _ _ _ _ hf rfl hP hD hS dX3_howManyDry_39
abbrev rX3_howManySmell : Room := { frames := 0, cells := 0, slots := 0, locals := 0 }
set_option maxHeartbeats 4000000 in
set_option maxRecDepth 100000 in
theorem ccX3_howManySmell (l : Launch) (D : va_G) (C : Nat → ClassId) (sz : Nat) (aT : Nat → Nat) (aM : Nat → Nat) (mT : Mm) (mM : Mm) (rr : Int32) (hf : ffX3_howManySmell mT mM = some (rr)) : Met l yX3_howManySmell wsX3_howManySmell rX3_howManySmell (va_Pc [.ref (aM 0)] (vv_pre D C (w_Told C aT mT ++ w_Mom C aT aM mM) sz)) (vv_QI D C (w_Told C aT mT ++ w_Mom C aT aM mM) (w_Told C aT mT ++ w_Mom C aT aM mM) sz rr) 0 0 (va_A (w_Told C aT mT ++ w_Mom C aT aM mM) sz) := by
  unfold ffX3_howManySmell at hf
  refine vv_metI (cc := cX3_howManySmell) (maxL := 3) (ty := .int) (by decide) rfl (Nat.le_of_ble_eq_true rfl) ?_
  intro p e s m args below meth c A Q H locs ls hx hb hml hown hts hA hK hN hP hD hS hl hret
  have hown : s.vm.findClass RX3 = some m.cls := hown
  have hl : lv_has ls 3 [(0, .ref (aM 0))] := hl
  have hret : ∀ (v0 : Int32) (H : Heap) (locs : List Loc) (ls : Array Slot) (pc : Nat), some (v0) = some (rr) → narrow .int (.int v0) = .int v0 → va_P D vwCl (w_Told C aT mT ++ w_Mom C aT aM mM) H → va_D A (w_Told C aT mT ++ w_Mom C aT aM mM) → va_S A s.heap H locs → decode cX3_howManySmell pc = .ok (.ireturn, 1) → W p l e rX3_howManySmell s m args below meth c H locs 0 0 Q (F0 m pc ls [.int v0]) := by
    intro v0 H locs ls pc h0 hn h1 h2 h3 h4
    cases h0
    exact hret H locs ls pc hn h1 h2 h3 h4
  have q0 := hts (.fieldLink RX3 25 "ForeRain$Moment" "told" "LForeRain$Told;") (by decide +kernel)
  have q1 := hts (.fieldLink RX3 36 "ForeRain$Told" "pieces" "I") (by decide +kernel)
  have q2 := hts (.fieldLink RX3 21 "ForeRain$Moment" "smells" "[Z") (by decide +kernel)
  have iX3 : ∀ w ∈ u_ws RX3 TX3 7, w ∈ wsX3_howManySmell := by decide +kernel
  have iX6 : ∀ w ∈ u_ws RX6 TX6 9, w ∈ wsX3_howManySmell := by decide +kernel
  refine lv_iconst (v := 0) hx hb dX3_howManySmell_0 (by decide) ?_
  refine lv_istore_n (lv' := [(1, .int 0), (0, .ref (aM 0))]) hx hb dX3_howManySmell_1 rfl hl (by decide) rfl (fun ls hl => ?_)
  refine lv_iconst (v := 0) hx hb dX3_howManySmell_2 (by decide) ?_
  refine lv_istore_n (lv' := [(2, .int 0), (1, .int 0), (0, .ref (aM 0))]) hx hb dX3_howManySmell_3 rfl hl (by decide) rfl (fun ls hl => ?_)
  have L4 : ∀ (K4 : Int32 → Int32 → Option (Int32)), (∀ (x1 : Int32) (x2 : Int32) (H : Heap) (locs : List Loc) (ls : Array Slot), va_P D vwCl (w_Told C aT mT ++ w_Mom C aT aM mM) H → va_D A (w_Told C aT mT ++ w_Mom C aT aM mM) → va_S A s.heap H locs → lv_has ls 3 [(2, .int x1), (1, .int x2), (0, .ref (aM 0))] → K4 x1 x2 = some (rr) → W p l e rX3_howManySmell s m args below meth c H locs 0 0 Q (F0 m 38 ls [])) → ∀ (n : Nat) (x1 : Int32) (x2 : Int32) (H : Heap) (locs : List Loc) (ls : Array Slot), va_P D vwCl (w_Told C aT mT ++ w_Mom C aT aM mM) H → va_D A (w_Told C aT mT ++ w_Mom C aT aM mM) → va_S A s.heap H locs → lv_has ls 3 [(2, .int x1), (1, .int x2), (0, .ref (aM 0))] → ffX3_howManySmell_L4 mT mM K4 n x1 x2 = some (rr) → W p l e rX3_howManySmell s m args below meth c H locs 0 0 Q (F0 m 4 ls []) := by
    intro K4 hK9 n
    induction n with
    | zero => intro x1 x2 H locs ls hP hD hS hl hf; exact kv_no hf
    | succ n ih =>
      intro x1 x2 H locs ls hP hD hS hl hf
      rw [ffX3_howManySmell_L4_s] at hf
      refine lv_iload_n hx hb dX3_howManySmell_4 rfl (lv_at hl 0 rfl) ?_
      refine lv_aload_n hx hb dX3_howManySmell_5 rfl (lv_at hl 2 rfl) ?_
      refine va_get (D := D) (ci := 3) (v := .ref (aT 0)) (C := RX3) (T := TX3) (N := 7) hx hb hts iX3 hown hK hP 7 rfl rfl 0 (by decide) q0 (fun _ h9 => h9) rfl dX3_howManySmell_6 ?_
      refine va_get (D := D) (ci := 6) (v := .int (mT 0 0)) (C := RX6) (T := TX6) (N := 9) hx hb hts iX6 hown hK hP 0 rfl rfl 0 (by decide) q1 (fun _ h9 => h9) rfl dX3_howManySmell_9 ?_
      refine lv_icmp_ge (tgt := 38) hx hb dX3_howManySmell_12 (by decide) (fun hc => ?_) (fun hc => ?_)
      · have hf := kv_t hc hf
        exact hK9 _ _ _ _ _ hP hD hS (lv_sub hl [0, 1, 2] rfl) hf
      · have hf := kv_f hc hf
        refine lv_iload_n hx hb dX3_howManySmell_15 rfl (lv_at hl 1 rfl) ?_
        refine lv_aload_n hx hb dX3_howManySmell_16 rfl (lv_at hl 2 rfl) ?_
        refine va_get (D := D) (ci := 3) (v := .ref (aM 4)) (C := RX3) (T := TX3) (N := 7) hx hb hts iX3 hown hK hP 7 rfl rfl 6 (by decide) q2 (fun _ h9 => h9) rfl dX3_howManySmell_17 ?_
        refine lv_iload_n hx hb dX3_howManySmell_20 rfl (lv_at hl 0 rfl) ?_
        obtain ⟨h9, hf⟩ := kv_ix_e hf
        refine va_zald hx hb hK hP 11 2 rfl rfl h9 dX3_howManySmell_21 ?_
        refine lv_if_eq (tgt := 29) hx hb dX3_howManySmell_22 (by decide) (fun hc => ?_) (fun hc => ?_)
        · have hf := kv_t hc hf
          refine lv_iconst (v := 0) hx hb dX3_howManySmell_29 (by decide) ?_
          refine lv_iadd hx hb dX3_howManySmell_30 ?_
          obtain ⟨x3, ex3, hf⟩ := kv_lt_e hf
          refine vv_nami ex3 ?_
          refine lv_istore_n (lv' := [(1, .int x3), (2, .int x1), (0, .ref (aM 0))]) hx hb dX3_howManySmell_31 rfl hl (by decide) rfl (fun ls hl => ?_)
          obtain ⟨x4, ex4, hf⟩ := kv_lt_e hf
          refine lv_iinc (v := x4) (lv' := [(2, .int x4), (1, .int x3), (0, .ref (aM 0))]) hx hb dX3_howManySmell_32 hl (k := 1) rfl (by rw [ex4]; rfl) (by decide) rfl (fun ls hl => ?_)
          refine lv_goto (tgt := 4) hx hb dX3_howManySmell_35 (by decide) ?_
          exact ih _ _ _ _ _ hP hD hS (lv_sub hl [0, 1, 2] rfl) hf
        · have hf := kv_f hc hf
          refine lv_iconst (v := 1) hx hb dX3_howManySmell_25 (by decide) ?_
          refine lv_goto (tgt := 30) hx hb dX3_howManySmell_26 (by decide) ?_
          refine lv_iadd hx hb dX3_howManySmell_30 ?_
          obtain ⟨x5, ex5, hf⟩ := kv_lt_e hf
          refine vv_nami ex5 ?_
          refine lv_istore_n (lv' := [(1, .int x5), (2, .int x1), (0, .ref (aM 0))]) hx hb dX3_howManySmell_31 rfl hl (by decide) rfl (fun ls hl => ?_)
          obtain ⟨x6, ex6, hf⟩ := kv_lt_e hf
          refine lv_iinc (v := x6) (lv' := [(2, .int x6), (1, .int x5), (0, .ref (aM 0))]) hx hb dX3_howManySmell_32 hl (k := 1) rfl (by rw [ex6]; rfl) (by decide) rfl (fun ls hl => ?_)
          refine lv_goto (tgt := 4) hx hb dX3_howManySmell_35 (by decide) ?_
          exact ih _ _ _ _ _ hP hD hS (lv_sub hl [0, 1, 2] rfl) hf
  refine L4 _ (fun x7 x8 H locs ls hP hD hS hl hf => ?_) _ _ _ _ _ _ hP hD hS (lv_sub hl [0, 1, 2] rfl) hf
  refine lv_iload_n hx hb dX3_howManySmell_38 rfl (lv_at hl 1 rfl) ?_
  exact hret _ _ _ _ _ hf rfl hP hD hS dX3_howManySmell_39
abbrev rX3_onLine : Room := { frames := 2, cells := 0, slots := 0, locals := 43 }
set_option maxHeartbeats 4000000 in
set_option maxRecDepth 100000 in
theorem ccX3_onLine (l : Launch) (D : va_G) (C : Nat → ClassId) (sz : Nat) (aT : Nat → Nat) (aM : Nat → Nat) (mT : Mm) (mM : Mm) (rr : Int32) (hf : ffX3_onLine mT mM = some (rr)) : Met l yX3_onLine wsX3_onLine rX3_onLine (va_Pc [.ref (aM 0)] (vv_pre D C (w_Told C aT mT ++ w_Mom C aT aM mM) sz)) (vv_QI D C (w_Told C aT mT ++ w_Mom C aT aM mM) (w_Told C aT mT ++ w_Mom C aT aM mM) sz rr) 0 0 (va_A (w_Told C aT mT ++ w_Mom C aT aM mM) sz) := by
  unfold ffX3_onLine at hf
  refine vv_metI (cc := cX3_onLine) (maxL := 3) (ty := .int) (by decide) rfl (Nat.le_of_ble_eq_true rfl) ?_
  intro p e s m args below meth c A Q H locs ls hx hb hml hown hts hA hK hN hP hD hS hl hret
  have hown : s.vm.findClass RX3 = some m.cls := hown
  have hl : lv_has ls 3 [(0, .ref (aM 0))] := hl
  have hret : ∀ (v0 : Int32) (H : Heap) (locs : List Loc) (ls : Array Slot) (pc : Nat), some (v0) = some (rr) → narrow .int (.int v0) = .int v0 → va_P D vwCl (w_Told C aT mT ++ w_Mom C aT aM mM) H → va_D A (w_Told C aT mT ++ w_Mom C aT aM mM) → va_S A s.heap H locs → decode cX3_onLine pc = .ok (.ireturn, 1) → W p l e rX3_onLine s m args below meth c H locs 0 0 Q (F0 m pc ls [.int v0]) := by
    intro v0 H locs ls pc h0 hn h1 h2 h3 h4
    cases h0
    exact hret H locs ls pc hn h1 h2 h3 h4
  have q0 := hts (.fieldLink RX3 25 "ForeRain$Moment" "told" "LForeRain$Told;") (by decide +kernel)
  have q1 := hts (.fieldLink RX3 36 "ForeRain$Told" "pieces" "I") (by decide +kernel)
  have iX3 : ∀ w ∈ u_ws RX3 TX3 7, w ∈ wsX3_onLine := by decide +kernel
  have iX6 : ∀ w ∈ u_ws RX6 TX6 9, w ∈ wsX3_onLine := by decide +kernel
  refine lv_iconst (v := 0) hx hb dX3_onLine_0 (by decide) ?_
  refine lv_istore_n (lv' := [(1, .int 0), (0, .ref (aM 0))]) hx hb dX3_onLine_1 rfl hl (by decide) rfl (fun ls hl => ?_)
  refine lv_iconst (v := 0) hx hb dX3_onLine_2 (by decide) ?_
  refine lv_istore_n (lv' := [(2, .int 0), (1, .int 0), (0, .ref (aM 0))]) hx hb dX3_onLine_3 rfl hl (by decide) rfl (fun ls hl => ?_)
  have L4 : ∀ (K4 : Int32 → Int32 → Option (Int32)), (∀ (x1 : Int32) (x2 : Int32) (H : Heap) (locs : List Loc) (ls : Array Slot), va_P D vwCl (w_Told C aT mT ++ w_Mom C aT aM mM) H → va_D A (w_Told C aT mT ++ w_Mom C aT aM mM) → va_S A s.heap H locs → lv_has ls 3 [(2, .int x1), (1, .int x2), (0, .ref (aM 0))] → K4 x1 x2 = some (rr) → W p l e rX3_onLine s m args below meth c H locs 0 0 Q (F0 m 37 ls [])) → ∀ (n : Nat) (x1 : Int32) (x2 : Int32) (H : Heap) (locs : List Loc) (ls : Array Slot), va_P D vwCl (w_Told C aT mT ++ w_Mom C aT aM mM) H → va_D A (w_Told C aT mT ++ w_Mom C aT aM mM) → va_S A s.heap H locs → lv_has ls 3 [(2, .int x1), (1, .int x2), (0, .ref (aM 0))] → ffX3_onLine_L4 mT mM K4 n x1 x2 = some (rr) → W p l e rX3_onLine s m args below meth c H locs 0 0 Q (F0 m 4 ls []) := by
    intro K4 hK9 n
    induction n with
    | zero => intro x1 x2 H locs ls hP hD hS hl hf; exact kv_no hf
    | succ n ih =>
      intro x1 x2 H locs ls hP hD hS hl hf
      rw [ffX3_onLine_L4_s] at hf
      refine lv_iload_n hx hb dX3_onLine_4 rfl (lv_at hl 0 rfl) ?_
      refine lv_aload_n hx hb dX3_onLine_5 rfl (lv_at hl 2 rfl) ?_
      refine va_get (D := D) (ci := 3) (v := .ref (aT 0)) (C := RX3) (T := TX3) (N := 7) hx hb hts iX3 hown hK hP 7 rfl rfl 0 (by decide) q0 (fun _ h9 => h9) rfl dX3_onLine_6 ?_
      refine va_get (D := D) (ci := 6) (v := .int (mT 0 0)) (C := RX6) (T := TX6) (N := 9) hx hb hts iX6 hown hK hP 0 rfl rfl 0 (by decide) q1 (fun _ h9 => h9) rfl dX3_onLine_9 ?_
      refine lv_icmp_ge (tgt := 37) hx hb dX3_onLine_12 (by decide) (fun hc => ?_) (fun hc => ?_)
      · have hf := kv_t hc hf
        exact hK9 _ _ _ _ _ hP hD hS (lv_sub hl [0, 1, 2] rfl) hf
      · have hf := kv_f hc hf
        refine lv_iload_n hx hb dX3_onLine_15 rfl (lv_at hl 1 rfl) ?_
        refine lv_aload_n hx hb dX3_onLine_16 rfl (lv_at hl 2 rfl) ?_
        refine lv_iload_n hx hb dX3_onLine_17 rfl (lv_at hl 0 rfl) ?_
        obtain ⟨r3, hc, hf⟩ := kv_b1_e hf
        have hs9 : vv_Sub D H A (w_Told C aT mT ++ w_Mom C aT aM mM) (w_Told C aT mT ++ w_Mom C aT aM mM) (w_Told C aT mT ++ w_Mom C aT aM mM) := vv_Sub.same (w_Told C aT mT ++ w_Mom C aT aM mM) hP hD hS hA
        refine vv_goi (wn := (w_Told C aT mT ++ w_Mom C aT aM mM)) hK hs9 hS (vv_rV (As := [.int x1]) (rest := [.int x2]) hx hb hml hown hts hK hN hS hs9 (ccX3_hangs l D C H.size aT aM mT mM x1 r3 hc) (cwV 1 hts gX3_onLine_X3_hangs rfl rfl rfl (by decide +kernel) ⟨(Nat.le_of_ble_eq_true rfl), (Nat.le_of_ble_eq_true rfl)⟩) (va_recv hK hP (ci := 3) (q0 := 7) rfl rfl) rfl hl.1 rfl (Nat.le_of_ble_eq_true rfl) dX3_onLine_18 ⟨Nat.zero_le _, Nat.zero_le _⟩) (fun H locs hP hD hS => ?_)
        refine lv_if_eq (tgt := 28) hx hb dX3_onLine_21 (by decide) (fun hc => ?_) (fun hc => ?_)
        · have hf := kv_t hc hf
          refine lv_iconst (v := 0) hx hb dX3_onLine_28 (by decide) ?_
          refine lv_iadd hx hb dX3_onLine_29 ?_
          obtain ⟨x4, ex4, hf⟩ := kv_lt_e hf
          refine vv_nami ex4 ?_
          refine lv_istore_n (lv' := [(1, .int x4), (2, .int x1), (0, .ref (aM 0))]) hx hb dX3_onLine_30 rfl hl (by decide) rfl (fun ls hl => ?_)
          obtain ⟨x5, ex5, hf⟩ := kv_lt_e hf
          refine lv_iinc (v := x5) (lv' := [(2, .int x5), (1, .int x4), (0, .ref (aM 0))]) hx hb dX3_onLine_31 hl (k := 1) rfl (by rw [ex5]; rfl) (by decide) rfl (fun ls hl => ?_)
          refine lv_goto (tgt := 4) hx hb dX3_onLine_34 (by decide) ?_
          exact ih _ _ _ _ _ hP hD hS (lv_sub hl [0, 1, 2] rfl) hf
        · have hf := kv_f hc hf
          refine lv_iconst (v := 1) hx hb dX3_onLine_24 (by decide) ?_
          refine lv_goto (tgt := 29) hx hb dX3_onLine_25 (by decide) ?_
          refine lv_iadd hx hb dX3_onLine_29 ?_
          obtain ⟨x6, ex6, hf⟩ := kv_lt_e hf
          refine vv_nami ex6 ?_
          refine lv_istore_n (lv' := [(1, .int x6), (2, .int x1), (0, .ref (aM 0))]) hx hb dX3_onLine_30 rfl hl (by decide) rfl (fun ls hl => ?_)
          obtain ⟨x7, ex7, hf⟩ := kv_lt_e hf
          refine lv_iinc (v := x7) (lv' := [(2, .int x7), (1, .int x6), (0, .ref (aM 0))]) hx hb dX3_onLine_31 hl (k := 1) rfl (by rw [ex7]; rfl) (by decide) rfl (fun ls hl => ?_)
          refine lv_goto (tgt := 4) hx hb dX3_onLine_34 (by decide) ?_
          exact ih _ _ _ _ _ hP hD hS (lv_sub hl [0, 1, 2] rfl) hf
  refine L4 _ (fun x8 x9 H locs ls hP hD hS hl hf => ?_) _ _ _ _ _ _ hP hD hS (lv_sub hl [0, 1, 2] rfl) hf
  refine lv_iload_n hx hb dX3_onLine_37 rfl (lv_at hl 1 rfl) ?_
  exact hret _ _ _ _ _ hf rfl hP hD hS dX3_onLine_38
abbrev rX3_onRack : Room := { frames := 0, cells := 0, slots := 0, locals := 0 }
set_option maxHeartbeats 4000000 in
set_option maxRecDepth 100000 in
theorem ccX3_onRack (l : Launch) (D : va_G) (C : Nat → ClassId) (sz : Nat) (aT : Nat → Nat) (aM : Nat → Nat) (mT : Mm) (mM : Mm) (rr : Int32) (hf : ffX3_onRack mT mM = some (rr)) : Met l yX3_onRack wsX3_onRack rX3_onRack (va_Pc [.ref (aM 0)] (vv_pre D C (w_Told C aT mT ++ w_Mom C aT aM mM) sz)) (vv_QI D C (w_Told C aT mT ++ w_Mom C aT aM mM) (w_Told C aT mT ++ w_Mom C aT aM mM) sz rr) 0 0 (va_A (w_Told C aT mT ++ w_Mom C aT aM mM) sz) := by
  unfold ffX3_onRack at hf
  refine vv_metI (cc := cX3_onRack) (maxL := 3) (ty := .int) (by decide) rfl (Nat.le_of_ble_eq_true rfl) ?_
  intro p e s m args below meth c A Q H locs ls hx hb hml hown hts hA hK hN hP hD hS hl hret
  have hown : s.vm.findClass RX3 = some m.cls := hown
  have hl : lv_has ls 3 [(0, .ref (aM 0))] := hl
  have hret : ∀ (v0 : Int32) (H : Heap) (locs : List Loc) (ls : Array Slot) (pc : Nat), some (v0) = some (rr) → narrow .int (.int v0) = .int v0 → va_P D vwCl (w_Told C aT mT ++ w_Mom C aT aM mM) H → va_D A (w_Told C aT mT ++ w_Mom C aT aM mM) → va_S A s.heap H locs → decode cX3_onRack pc = .ok (.ireturn, 1) → W p l e rX3_onRack s m args below meth c H locs 0 0 Q (F0 m pc ls [.int v0]) := by
    intro v0 H locs ls pc h0 hn h1 h2 h3 h4
    cases h0
    exact hret H locs ls pc hn h1 h2 h3 h4
  have q0 := hts (.fieldLink RX3 25 "ForeRain$Moment" "told" "LForeRain$Told;") (by decide +kernel)
  have q1 := hts (.fieldLink RX3 36 "ForeRain$Told" "pieces" "I") (by decide +kernel)
  have q2 := hts (.fieldLink RX3 18 "ForeRain$Moment" "place" "[I") (by decide +kernel)
  have iX3 : ∀ w ∈ u_ws RX3 TX3 7, w ∈ wsX3_onRack := by decide +kernel
  have iX6 : ∀ w ∈ u_ws RX6 TX6 9, w ∈ wsX3_onRack := by decide +kernel
  refine lv_iconst (v := 0) hx hb dX3_onRack_0 (by decide) ?_
  refine lv_istore_n (lv' := [(1, .int 0), (0, .ref (aM 0))]) hx hb dX3_onRack_1 rfl hl (by decide) rfl (fun ls hl => ?_)
  refine lv_iconst (v := 0) hx hb dX3_onRack_2 (by decide) ?_
  refine lv_istore_n (lv' := [(2, .int 0), (1, .int 0), (0, .ref (aM 0))]) hx hb dX3_onRack_3 rfl hl (by decide) rfl (fun ls hl => ?_)
  have L4 : ∀ (K4 : Int32 → Int32 → Option (Int32)), (∀ (x1 : Int32) (x2 : Int32) (H : Heap) (locs : List Loc) (ls : Array Slot), va_P D vwCl (w_Told C aT mT ++ w_Mom C aT aM mM) H → va_D A (w_Told C aT mT ++ w_Mom C aT aM mM) → va_S A s.heap H locs → lv_has ls 3 [(2, .int x1), (1, .int x2), (0, .ref (aM 0))] → K4 x1 x2 = some (rr) → W p l e rX3_onRack s m args below meth c H locs 0 0 Q (F0 m 40 ls [])) → ∀ (n : Nat) (x1 : Int32) (x2 : Int32) (H : Heap) (locs : List Loc) (ls : Array Slot), va_P D vwCl (w_Told C aT mT ++ w_Mom C aT aM mM) H → va_D A (w_Told C aT mT ++ w_Mom C aT aM mM) → va_S A s.heap H locs → lv_has ls 3 [(2, .int x1), (1, .int x2), (0, .ref (aM 0))] → ffX3_onRack_L4 mT mM K4 n x1 x2 = some (rr) → W p l e rX3_onRack s m args below meth c H locs 0 0 Q (F0 m 4 ls []) := by
    intro K4 hK9 n
    induction n with
    | zero => intro x1 x2 H locs ls hP hD hS hl hf; exact kv_no hf
    | succ n ih =>
      intro x1 x2 H locs ls hP hD hS hl hf
      rw [ffX3_onRack_L4_s] at hf
      refine lv_iload_n hx hb dX3_onRack_4 rfl (lv_at hl 0 rfl) ?_
      refine lv_aload_n hx hb dX3_onRack_5 rfl (lv_at hl 2 rfl) ?_
      refine va_get (D := D) (ci := 3) (v := .ref (aT 0)) (C := RX3) (T := TX3) (N := 7) hx hb hts iX3 hown hK hP 7 rfl rfl 0 (by decide) q0 (fun _ h9 => h9) rfl dX3_onRack_6 ?_
      refine va_get (D := D) (ci := 6) (v := .int (mT 0 0)) (C := RX6) (T := TX6) (N := 9) hx hb hts iX6 hown hK hP 0 rfl rfl 0 (by decide) q1 (fun _ h9 => h9) rfl dX3_onRack_9 ?_
      refine lv_icmp_ge (tgt := 40) hx hb dX3_onRack_12 (by decide) (fun hc => ?_) (fun hc => ?_)
      · have hf := kv_t hc hf
        exact hK9 _ _ _ _ _ hP hD hS (lv_sub hl [0, 1, 2] rfl) hf
      · have hf := kv_f hc hf
        refine lv_iload_n hx hb dX3_onRack_15 rfl (lv_at hl 1 rfl) ?_
        refine lv_aload_n hx hb dX3_onRack_16 rfl (lv_at hl 2 rfl) ?_
        refine va_get (D := D) (ci := 3) (v := .ref (aM 3)) (C := RX3) (T := TX3) (N := 7) hx hb hts iX3 hown hK hP 7 rfl rfl 5 (by decide) q2 (fun _ h9 => h9) rfl dX3_onRack_17 ?_
        refine lv_iload_n hx hb dX3_onRack_20 rfl (lv_at hl 0 rfl) ?_
        obtain ⟨h9, hf⟩ := kv_ix_e hf
        refine va_iald hx hb hK hP 10 1 rfl rfl h9 dX3_onRack_21 ?_
        refine lv_bipush (v := 8) hx hb dX3_onRack_22 (by decide) ?_
        refine lv_icmp_ne (tgt := 31) hx hb dX3_onRack_24 (by decide) (fun hc => ?_) (fun hc => ?_)
        · have hf := kv_f hc hf
          refine lv_iconst (v := 0) hx hb dX3_onRack_31 (by decide) ?_
          refine lv_iadd hx hb dX3_onRack_32 ?_
          obtain ⟨x3, ex3, hf⟩ := kv_lt_e hf
          refine vv_nami ex3 ?_
          refine lv_istore_n (lv' := [(1, .int x3), (2, .int x1), (0, .ref (aM 0))]) hx hb dX3_onRack_33 rfl hl (by decide) rfl (fun ls hl => ?_)
          obtain ⟨x4, ex4, hf⟩ := kv_lt_e hf
          refine lv_iinc (v := x4) (lv' := [(2, .int x4), (1, .int x3), (0, .ref (aM 0))]) hx hb dX3_onRack_34 hl (k := 1) rfl (by rw [ex4]; rfl) (by decide) rfl (fun ls hl => ?_)
          refine lv_goto (tgt := 4) hx hb dX3_onRack_37 (by decide) ?_
          exact ih _ _ _ _ _ hP hD hS (lv_sub hl [0, 1, 2] rfl) hf
        · have hf := kv_t hc hf
          refine lv_iconst (v := 1) hx hb dX3_onRack_27 (by decide) ?_
          refine lv_goto (tgt := 32) hx hb dX3_onRack_28 (by decide) ?_
          refine lv_iadd hx hb dX3_onRack_32 ?_
          obtain ⟨x5, ex5, hf⟩ := kv_lt_e hf
          refine vv_nami ex5 ?_
          refine lv_istore_n (lv' := [(1, .int x5), (2, .int x1), (0, .ref (aM 0))]) hx hb dX3_onRack_33 rfl hl (by decide) rfl (fun ls hl => ?_)
          obtain ⟨x6, ex6, hf⟩ := kv_lt_e hf
          refine lv_iinc (v := x6) (lv' := [(2, .int x6), (1, .int x5), (0, .ref (aM 0))]) hx hb dX3_onRack_34 hl (k := 1) rfl (by rw [ex6]; rfl) (by decide) rfl (fun ls hl => ?_)
          refine lv_goto (tgt := 4) hx hb dX3_onRack_37 (by decide) ?_
          exact ih _ _ _ _ _ hP hD hS (lv_sub hl [0, 1, 2] rfl) hf
  refine L4 _ (fun x7 x8 H locs ls hP hD hS hl hf => ?_) _ _ _ _ _ _ hP hD hS (lv_sub hl [0, 1, 2] rfl) hf
  refine lv_iload_n hx hb dX3_onRack_40 rfl (lv_at hl 1 rfl) ?_
  exact hret _ _ _ _ _ hf rfl hP hD hS dX3_onRack_41
abbrev rX3_pieceAt : Room := { frames := 0, cells := 0, slots := 0, locals := 0 }
set_option maxHeartbeats 4000000 in
set_option maxRecDepth 100000 in
theorem ccX3_pieceAt (l : Launch) (D : va_G) (C : Nat → ClassId) (sz : Nat) (aT : Nat → Nat) (aM : Nat → Nat) (mT : Mm) (mM : Mm) (p0 : Int32) (rr : Int32) (hf : ffX3_pieceAt p0 mT mM = some (rr)) : Met l yX3_pieceAt wsX3_pieceAt rX3_pieceAt (va_Pc [.ref (aM 0), .int p0] (vv_pre D C (w_Told C aT mT ++ w_Mom C aT aM mM) sz)) (vv_QI D C (w_Told C aT mT ++ w_Mom C aT aM mM) (w_Told C aT mT ++ w_Mom C aT aM mM) sz rr) 0 0 (va_A (w_Told C aT mT ++ w_Mom C aT aM mM) sz) := by
  unfold ffX3_pieceAt at hf
  refine vv_metI (cc := cX3_pieceAt) (maxL := 3) (ty := .int) (by decide) rfl (Nat.le_of_ble_eq_true rfl) ?_
  intro p e s m args below meth c A Q H locs ls hx hb hml hown hts hA hK hN hP hD hS hl hret
  have hown : s.vm.findClass RX3 = some m.cls := hown
  have hl : lv_has ls 3 [(0, .ref (aM 0)), (1, .int p0)] := hl
  have hret : ∀ (v0 : Int32) (H : Heap) (locs : List Loc) (ls : Array Slot) (pc : Nat), some (v0) = some (rr) → narrow .int (.int v0) = .int v0 → va_P D vwCl (w_Told C aT mT ++ w_Mom C aT aM mM) H → va_D A (w_Told C aT mT ++ w_Mom C aT aM mM) → va_S A s.heap H locs → decode cX3_pieceAt pc = .ok (.ireturn, 1) → W p l e rX3_pieceAt s m args below meth c H locs 0 0 Q (F0 m pc ls [.int v0]) := by
    intro v0 H locs ls pc h0 hn h1 h2 h3 h4
    cases h0
    exact hret H locs ls pc hn h1 h2 h3 h4
  have q0 := hts (.fieldLink RX3 25 "ForeRain$Moment" "told" "LForeRain$Told;") (by decide +kernel)
  have q1 := hts (.fieldLink RX3 36 "ForeRain$Told" "pieces" "I") (by decide +kernel)
  have q2 := hts (.fieldLink RX3 18 "ForeRain$Moment" "place" "[I") (by decide +kernel)
  have iX3 : ∀ w ∈ u_ws RX3 TX3 7, w ∈ wsX3_pieceAt := by decide +kernel
  have iX6 : ∀ w ∈ u_ws RX6 TX6 9, w ∈ wsX3_pieceAt := by decide +kernel
  refine lv_iconst (v := 0) hx hb dX3_pieceAt_0 (by decide) ?_
  refine lv_istore_n (lv' := [(2, .int 0), (0, .ref (aM 0)), (1, .int p0)]) hx hb dX3_pieceAt_1 rfl hl (by decide) rfl (fun ls hl => ?_)
  have L2 : ∀ (K2 : Int32 → Option (Int32)), (∀ (x1 : Int32) (H : Heap) (locs : List Loc) (ls : Array Slot), va_P D vwCl (w_Told C aT mT ++ w_Mom C aT aM mM) H → va_D A (w_Told C aT mT ++ w_Mom C aT aM mM) → va_S A s.heap H locs → lv_has ls 3 [(2, .int x1), (0, .ref (aM 0)), (1, .int p0)] → K2 x1 = some (rr) → W p l e rX3_pieceAt s m args below meth c H locs 0 0 Q (F0 m 31 ls [])) → ∀ (n : Nat) (x1 : Int32) (H : Heap) (locs : List Loc) (ls : Array Slot), va_P D vwCl (w_Told C aT mT ++ w_Mom C aT aM mM) H → va_D A (w_Told C aT mT ++ w_Mom C aT aM mM) → va_S A s.heap H locs → lv_has ls 3 [(2, .int x1), (0, .ref (aM 0)), (1, .int p0)] → ffX3_pieceAt_L2 p0 mT mM K2 n x1 = some (rr) → W p l e rX3_pieceAt s m args below meth c H locs 0 0 Q (F0 m 2 ls []) := by
    intro K2 hK9 n
    induction n with
    | zero => intro x1 H locs ls hP hD hS hl hf; exact kv_no hf
    | succ n ih =>
      intro x1 H locs ls hP hD hS hl hf
      rw [ffX3_pieceAt_L2_s] at hf
      refine lv_iload_n hx hb dX3_pieceAt_2 rfl (lv_at hl 0 rfl) ?_
      refine lv_aload_n hx hb dX3_pieceAt_3 rfl (lv_at hl 1 rfl) ?_
      refine va_get (D := D) (ci := 3) (v := .ref (aT 0)) (C := RX3) (T := TX3) (N := 7) hx hb hts iX3 hown hK hP 7 rfl rfl 0 (by decide) q0 (fun _ h9 => h9) rfl dX3_pieceAt_4 ?_
      refine va_get (D := D) (ci := 6) (v := .int (mT 0 0)) (C := RX6) (T := TX6) (N := 9) hx hb hts iX6 hown hK hP 0 rfl rfl 0 (by decide) q1 (fun _ h9 => h9) rfl dX3_pieceAt_7 ?_
      refine lv_icmp_ge (tgt := 31) hx hb dX3_pieceAt_10 (by decide) (fun hc => ?_) (fun hc => ?_)
      · have hf := kv_t hc hf
        exact hK9 _ _ _ _ hP hD hS (lv_sub hl [0, 1, 2] rfl) hf
      · have hf := kv_f hc hf
        refine lv_aload_n hx hb dX3_pieceAt_13 rfl (lv_at hl 1 rfl) ?_
        refine va_get (D := D) (ci := 3) (v := .ref (aM 3)) (C := RX3) (T := TX3) (N := 7) hx hb hts iX3 hown hK hP 7 rfl rfl 5 (by decide) q2 (fun _ h9 => h9) rfl dX3_pieceAt_14 ?_
        refine lv_iload_n hx hb dX3_pieceAt_17 rfl (lv_at hl 0 rfl) ?_
        obtain ⟨h9, hf⟩ := kv_ix_e hf
        refine va_iald hx hb hK hP 10 1 rfl rfl h9 dX3_pieceAt_18 ?_
        refine lv_iload_n hx hb dX3_pieceAt_19 rfl (lv_at hl 2 rfl) ?_
        refine lv_icmp_ne (tgt := 25) hx hb dX3_pieceAt_20 (by decide) (fun hc => ?_) (fun hc => ?_)
        · have hf := kv_f hc hf
          obtain ⟨x2, ex2, hf⟩ := kv_lt_e hf
          refine lv_iinc (v := x2) (lv' := [(2, .int x2), (0, .ref (aM 0)), (1, .int p0)]) hx hb dX3_pieceAt_25 hl (k := 0) rfl (by rw [ex2]; rfl) (by decide) rfl (fun ls hl => ?_)
          refine lv_goto (tgt := 2) hx hb dX3_pieceAt_28 (by decide) ?_
          exact ih _ _ _ _ hP hD hS (lv_sub hl [0, 1, 2] rfl) hf
        · have hf := kv_t hc hf
          refine lv_iload_n hx hb dX3_pieceAt_23 rfl (lv_at hl 0 rfl) ?_
          exact hret _ _ _ _ _ hf rfl hP hD hS dX3_pieceAt_24
  refine L2 _ (fun x3 H locs ls hP hD hS hl hf => ?_) _ _ _ _ _ hP hD hS (lv_sub hl [0, 1, 2] rfl) hf
  refine lv_bipush (v := (-9)) hx hb dX3_pieceAt_31 (by decide) ?_
  exact hret _ _ _ _ _ hf rfl hP hD hS dX3_pieceAt_33
abbrev rX3_wetOnLine : Room := { frames := 2, cells := 0, slots := 0, locals := 43 }
set_option maxHeartbeats 4000000 in
set_option maxRecDepth 100000 in
theorem ccX3_wetOnLine (l : Launch) (D : va_G) (C : Nat → ClassId) (sz : Nat) (aT : Nat → Nat) (aM : Nat → Nat) (mT : Mm) (mM : Mm) (rr : Int32) (hf : ffX3_wetOnLine mT mM = some (rr)) : Met l yX3_wetOnLine wsX3_wetOnLine rX3_wetOnLine (va_Pc [.ref (aM 0)] (vv_pre D C (w_Told C aT mT ++ w_Mom C aT aM mM) sz)) (vv_QI D C (w_Told C aT mT ++ w_Mom C aT aM mM) (w_Told C aT mT ++ w_Mom C aT aM mM) sz rr) 0 0 (va_A (w_Told C aT mT ++ w_Mom C aT aM mM) sz) := by
  unfold ffX3_wetOnLine at hf
  refine vv_metI (cc := cX3_wetOnLine) (maxL := 3) (ty := .int) (by decide) rfl (Nat.le_of_ble_eq_true rfl) ?_
  intro p e s m args below meth c A Q H locs ls hx hb hml hown hts hA hK hN hP hD hS hl hret
  have hown : s.vm.findClass RX3 = some m.cls := hown
  have hl : lv_has ls 3 [(0, .ref (aM 0))] := hl
  have hret : ∀ (v0 : Int32) (H : Heap) (locs : List Loc) (ls : Array Slot) (pc : Nat), some (v0) = some (rr) → narrow .int (.int v0) = .int v0 → va_P D vwCl (w_Told C aT mT ++ w_Mom C aT aM mM) H → va_D A (w_Told C aT mT ++ w_Mom C aT aM mM) → va_S A s.heap H locs → decode cX3_wetOnLine pc = .ok (.ireturn, 1) → W p l e rX3_wetOnLine s m args below meth c H locs 0 0 Q (F0 m pc ls [.int v0]) := by
    intro v0 H locs ls pc h0 hn h1 h2 h3 h4
    cases h0
    exact hret H locs ls pc hn h1 h2 h3 h4
  have q0 := hts (.fieldLink RX3 25 "ForeRain$Moment" "told" "LForeRain$Told;") (by decide +kernel)
  have q1 := hts (.fieldLink RX3 36 "ForeRain$Told" "pieces" "I") (by decide +kernel)
  have q2 := hts (.fieldLink RX3 9 "ForeRain$Moment" "water" "[I") (by decide +kernel)
  have iX3 : ∀ w ∈ u_ws RX3 TX3 7, w ∈ wsX3_wetOnLine := by decide +kernel
  have iX6 : ∀ w ∈ u_ws RX6 TX6 9, w ∈ wsX3_wetOnLine := by decide +kernel
  refine lv_iconst (v := 0) hx hb dX3_wetOnLine_0 (by decide) ?_
  refine lv_istore_n (lv' := [(1, .int 0), (0, .ref (aM 0))]) hx hb dX3_wetOnLine_1 rfl hl (by decide) rfl (fun ls hl => ?_)
  refine lv_iconst (v := 0) hx hb dX3_wetOnLine_2 (by decide) ?_
  refine lv_istore_n (lv' := [(2, .int 0), (1, .int 0), (0, .ref (aM 0))]) hx hb dX3_wetOnLine_3 rfl hl (by decide) rfl (fun ls hl => ?_)
  have L4 : ∀ (K4 : Int32 → Int32 → Option (Int32)), (∀ (x1 : Int32) (x2 : Int32) (H : Heap) (locs : List Loc) (ls : Array Slot), va_P D vwCl (w_Told C aT mT ++ w_Mom C aT aM mM) H → va_D A (w_Told C aT mT ++ w_Mom C aT aM mM) → va_S A s.heap H locs → lv_has ls 3 [(2, .int x1), (1, .int x2), (0, .ref (aM 0))] → K4 x1 x2 = some (rr) → W p l e rX3_wetOnLine s m args below meth c H locs 0 0 Q (F0 m 46 ls [])) → ∀ (n : Nat) (x1 : Int32) (x2 : Int32) (H : Heap) (locs : List Loc) (ls : Array Slot), va_P D vwCl (w_Told C aT mT ++ w_Mom C aT aM mM) H → va_D A (w_Told C aT mT ++ w_Mom C aT aM mM) → va_S A s.heap H locs → lv_has ls 3 [(2, .int x1), (1, .int x2), (0, .ref (aM 0))] → ffX3_wetOnLine_L4 mT mM K4 n x1 x2 = some (rr) → W p l e rX3_wetOnLine s m args below meth c H locs 0 0 Q (F0 m 4 ls []) := by
    intro K4 hK9 n
    induction n with
    | zero => intro x1 x2 H locs ls hP hD hS hl hf; exact kv_no hf
    | succ n ih =>
      intro x1 x2 H locs ls hP hD hS hl hf
      rw [ffX3_wetOnLine_L4_s] at hf
      refine lv_iload_n hx hb dX3_wetOnLine_4 rfl (lv_at hl 0 rfl) ?_
      refine lv_aload_n hx hb dX3_wetOnLine_5 rfl (lv_at hl 2 rfl) ?_
      refine va_get (D := D) (ci := 3) (v := .ref (aT 0)) (C := RX3) (T := TX3) (N := 7) hx hb hts iX3 hown hK hP 7 rfl rfl 0 (by decide) q0 (fun _ h9 => h9) rfl dX3_wetOnLine_6 ?_
      refine va_get (D := D) (ci := 6) (v := .int (mT 0 0)) (C := RX6) (T := TX6) (N := 9) hx hb hts iX6 hown hK hP 0 rfl rfl 0 (by decide) q1 (fun _ h9 => h9) rfl dX3_wetOnLine_9 ?_
      refine lv_icmp_ge (tgt := 46) hx hb dX3_wetOnLine_12 (by decide) (fun hc => ?_) (fun hc => ?_)
      · have hf := kv_t hc hf
        exact hK9 _ _ _ _ _ hP hD hS (lv_sub hl [0, 1, 2] rfl) hf
      · have hf := kv_f hc hf
        refine lv_iload_n hx hb dX3_wetOnLine_15 rfl (lv_at hl 1 rfl) ?_
        refine lv_aload_n hx hb dX3_wetOnLine_16 rfl (lv_at hl 2 rfl) ?_
        refine lv_iload_n hx hb dX3_wetOnLine_17 rfl (lv_at hl 0 rfl) ?_
        obtain ⟨r3, hc, hf⟩ := kv_b1_e hf
        have hs9 : vv_Sub D H A (w_Told C aT mT ++ w_Mom C aT aM mM) (w_Told C aT mT ++ w_Mom C aT aM mM) (w_Told C aT mT ++ w_Mom C aT aM mM) := vv_Sub.same (w_Told C aT mT ++ w_Mom C aT aM mM) hP hD hS hA
        refine vv_goi (wn := (w_Told C aT mT ++ w_Mom C aT aM mM)) hK hs9 hS (vv_rV (As := [.int x1]) (rest := [.int x2]) hx hb hml hown hts hK hN hS hs9 (ccX3_hangs l D C H.size aT aM mT mM x1 r3 hc) (cwV 1 hts gX3_wetOnLine_X3_hangs rfl rfl rfl (by decide +kernel) ⟨(Nat.le_of_ble_eq_true rfl), (Nat.le_of_ble_eq_true rfl)⟩) (va_recv hK hP (ci := 3) (q0 := 7) rfl rfl) rfl hl.1 rfl (Nat.le_of_ble_eq_true rfl) dX3_wetOnLine_18 ⟨Nat.zero_le _, Nat.zero_le _⟩) (fun H locs hP hD hS => ?_)
        obtain ⟨k37_4, ek37_4, hf⟩ := kv_lt_e hf
        have J37_4 : ∀  (H : Heap) (locs : List Loc) (ls : Array Slot), va_P D vwCl (w_Told C aT mT ++ w_Mom C aT aM mM) H → va_D A (w_Told C aT mT ++ w_Mom C aT aM mM) → va_S A s.heap H locs → lv_has ls 3 [(2, .int x1), (0, .ref (aM 0))] → k37_4  = some (rr) → W p l e rX3_wetOnLine s m args below meth c H locs 0 0 Q (F0 m 37 ls [.int x2]) := by
          intro  H locs ls hP hD hS hl hf
          rw [ek37_4] at hf
          refine lv_iconst (v := 0) hx hb dX3_wetOnLine_37 (by decide) ?_
          refine lv_iadd hx hb dX3_wetOnLine_38 ?_
          obtain ⟨x5, ex5, hf⟩ := kv_lt_e hf
          refine vv_nami ex5 ?_
          refine lv_istore_n (lv' := [(1, .int x5), (2, .int x1), (0, .ref (aM 0))]) hx hb dX3_wetOnLine_39 rfl hl (by decide) rfl (fun ls hl => ?_)
          obtain ⟨x6, ex6, hf⟩ := kv_lt_e hf
          refine lv_iinc (v := x6) (lv' := [(2, .int x6), (1, .int x5), (0, .ref (aM 0))]) hx hb dX3_wetOnLine_40 hl (k := 1) rfl (by rw [ex6]; rfl) (by decide) rfl (fun ls hl => ?_)
          refine lv_goto (tgt := 4) hx hb dX3_wetOnLine_43 (by decide) ?_
          exact ih _ _ _ _ _ hP hD hS (lv_sub hl [0, 1, 2] rfl) hf
        refine lv_if_eq (tgt := 37) hx hb dX3_wetOnLine_21 (by decide) (fun hc => ?_) (fun hc => ?_)
        · have hf := kv_t hc hf
          exact J37_4 _ _ _ hP hD hS (lv_sub hl [0, 2] rfl) hf
        · have hf := kv_f hc hf
          refine lv_aload_n hx hb dX3_wetOnLine_24 rfl (lv_at hl 2 rfl) ?_
          refine va_get (D := D) (ci := 3) (v := .ref (aM 1)) (C := RX3) (T := TX3) (N := 7) hx hb hts iX3 hown hK hP 7 rfl rfl 3 (by decide) q2 (fun _ h9 => h9) rfl dX3_wetOnLine_25 ?_
          refine lv_iload_n hx hb dX3_wetOnLine_28 rfl (lv_at hl 0 rfl) ?_
          obtain ⟨h9, hf⟩ := kv_ix_e hf
          refine va_iald hx hb hK hP 8 1 rfl rfl h9 dX3_wetOnLine_29 ?_
          refine lv_if_le (tgt := 37) hx hb dX3_wetOnLine_30 (by decide) (fun hc => ?_) (fun hc => ?_)
          · have hf := kv_t hc hf
            exact J37_4 _ _ _ hP hD hS (lv_sub hl [0, 2] rfl) hf
          · have hf := kv_f hc hf
            refine lv_iconst (v := 1) hx hb dX3_wetOnLine_33 (by decide) ?_
            refine lv_goto (tgt := 38) hx hb dX3_wetOnLine_34 (by decide) ?_
            refine lv_iadd hx hb dX3_wetOnLine_38 ?_
            obtain ⟨x7, ex7, hf⟩ := kv_lt_e hf
            refine vv_nami ex7 ?_
            refine lv_istore_n (lv' := [(1, .int x7), (2, .int x1), (0, .ref (aM 0))]) hx hb dX3_wetOnLine_39 rfl hl (by decide) rfl (fun ls hl => ?_)
            obtain ⟨x8, ex8, hf⟩ := kv_lt_e hf
            refine lv_iinc (v := x8) (lv' := [(2, .int x8), (1, .int x7), (0, .ref (aM 0))]) hx hb dX3_wetOnLine_40 hl (k := 1) rfl (by rw [ex8]; rfl) (by decide) rfl (fun ls hl => ?_)
            refine lv_goto (tgt := 4) hx hb dX3_wetOnLine_43 (by decide) ?_
            exact ih _ _ _ _ _ hP hD hS (lv_sub hl [0, 1, 2] rfl) hf
  refine L4 _ (fun x9 x10 H locs ls hP hD hS hl hf => ?_) _ _ _ _ _ _ hP hD hS (lv_sub hl [0, 1, 2] rfl) hf
  refine lv_iload_n hx hb dX3_wetOnLine_46 rfl (lv_at hl 1 rfl) ?_
  exact hret _ _ _ _ _ hf rfl hP hD hS dX3_wetOnLine_47
abbrev rX6_forget : Room := { frames := 0, cells := 0, slots := 0, locals := 0 }
set_option maxHeartbeats 4000000 in
set_option maxRecDepth 100000 in
theorem ccX6_forget (l : Launch) (D : va_G) (C : Nat → ClassId) (sz : Nat) (aT : Nat → Nat) (mT : Mm) (oT : Mm) (hf : ffX6_forget mT = some (oT)) : Met l yX6_forget wsX6_forget rX6_forget (va_Pc [.ref (aT 0)] (vv_pre D C (w_Told C aT mT) sz)) (vv_QV D C (w_Told C aT mT) (w_Told C aT oT) sz) 0 0 (va_A (w_Told C aT mT) sz) := by
  unfold ffX6_forget at hf
  refine vv_metV (cc := cX6_forget) (maxL := 1) (by decide) rfl (Nat.le_of_ble_eq_true rfl) ?_
  intro p e s m args below meth c A Q H locs ls hx hb hml hown hts hA hK hN hP hD hS hl hret
  have hown : s.vm.findClass RX6 = some m.cls := hown
  have hl : lv_has ls 1 [(0, .ref (aT 0))] := hl
  have hret : ∀ (v0 : Mm) (H : Heap) (locs : List Loc) (ls : Array Slot) (pc : Nat), some (v0) = some (oT) → va_P D vwCl (w_Told C aT v0) H → va_D A (w_Told C aT v0) → va_S A s.heap H locs → decode cX6_forget pc = .ok (.return_, 1) → W p l e rX6_forget s m args below meth c H locs 0 0 Q (F0 m pc ls []) := by
    intro v0 H locs ls pc h0 h1 h2 h3 h4
    cases h0
    exact hret H locs ls pc h1 h2 h3 h4
  have q0 := hts (.fieldLink RX6 30 "ForeRain$Told" "pieces" "I") (by decide +kernel)
  have q1 := hts (.fieldLink RX6 34 "ForeRain$Told" "spots" "I") (by decide +kernel)
  have q2 := hts (.fieldLink RX6 37 "ForeRain$Told" "steps" "I") (by decide +kernel)
  have iX6 : ∀ w ∈ u_ws RX6 TX6 9, w ∈ wsX6_forget := by decide +kernel
  refine lv_aload_n hx hb dX6_forget_0 rfl (lv_at hl 0 rfl) ?_
  refine lv_iconst (v := 0) hx hb dX6_forget_1 (by decide) ?_
  obtain ⟨mT1, emT1, hf⟩ := kv_lt_e hf
  refine va_put (D := D) (ci := 6) (v := .int 0) (ty := .int) (C := RX6) (T := TX6) (N := 9) hx hb hts iX6 tyX6 tyX6_ok nmX6 hown hK hP hD hS 0 rfl rfl 0 (by decide) q0 (fun _ h9 => h9) rfl (tyX6_ok 0 (by decide)) rfl rfl (Nat.le_of_ble_eq_true rfl) dX6_forget_2 (fun H locs hP hD hS => ?_)
  have hP : va_P D vwCl (w_Told C aT mT1) H := by rw [emT1]; exact hP
  have hD : va_D A (w_Told C aT mT1) := by rw [emT1]; exact hD
  refine lv_aload_n hx hb dX6_forget_5 rfl (lv_at hl 0 rfl) ?_
  refine lv_iconst (v := 0) hx hb dX6_forget_6 (by decide) ?_
  obtain ⟨mT2, emT2, hf⟩ := kv_lt_e hf
  refine va_put (D := D) (ci := 6) (v := .int 0) (ty := .int) (C := RX6) (T := TX6) (N := 9) hx hb hts iX6 tyX6 tyX6_ok nmX6 hown hK hP hD hS 0 rfl rfl 1 (by decide) q1 (fun _ h9 => h9) rfl (tyX6_ok 1 (by decide)) rfl rfl (Nat.le_of_ble_eq_true rfl) dX6_forget_7 (fun H locs hP hD hS => ?_)
  have hP : va_P D vwCl (w_Told C aT mT2) H := by rw [emT2]; exact hP
  have hD : va_D A (w_Told C aT mT2) := by rw [emT2]; exact hD
  refine lv_aload_n hx hb dX6_forget_10 rfl (lv_at hl 0 rfl) ?_
  refine lv_iconst (v := 0) hx hb dX6_forget_11 (by decide) ?_
  obtain ⟨mT3, emT3, hf⟩ := kv_lt_e hf
  refine va_put (D := D) (ci := 6) (v := .int 0) (ty := .int) (C := RX6) (T := TX6) (N := 9) hx hb hts iX6 tyX6 tyX6_ok nmX6 hown hK hP hD hS 0 rfl rfl 2 (by decide) q2 (fun _ h9 => h9) rfl (tyX6_ok 2 (by decide)) rfl rfl (Nat.le_of_ble_eq_true rfl) dX6_forget_12 (fun H locs hP hD hS => ?_)
  have hP : va_P D vwCl (w_Told C aT mT3) H := by rw [emT3]; exact hP
  have hD : va_D A (w_Told C aT mT3) := by rw [emT3]; exact hD
  exact hret _ _ _ _ _ hf hP hD hS dX6_forget_15
abbrev rX6_copy : Room := { frames := 1, cells := 0, slots := 0, locals := 80 }
set_option maxHeartbeats 4000000 in
set_option maxRecDepth 100000 in
theorem ccX6_copy (l : Launch) (D : va_G) (C : Nat → ClassId) (sz : Nat) (aT : Nat → Nat) (aO6 : Nat → Nat) (mT : Mm) (mO6 : Mm) (oT : Mm) (hf : ffX6_copy mT mO6 = some (oT)) : Met l yX6_copy wsX6_copy rX6_copy (va_Pc [.ref (aT 0), .ref (aO6 0)] (vv_pre D C (w_Told C aT mT ++ w_Told C aO6 mO6) sz)) (vv_QV D C (w_Told C aT mT ++ w_Told C aO6 mO6) (w_Told C aT oT ++ w_Told C aO6 mO6) sz) 0 0 (va_A (w_Told C aT mT ++ w_Told C aO6 mO6) sz) := by
  unfold ffX6_copy at hf
  refine vv_metV (cc := cX6_copy) (maxL := 2) (by decide) rfl (Nat.le_of_ble_eq_true rfl) ?_
  intro p e s m args below meth c A Q H locs ls hx hb hml hown hts hA hK hN hP hD hS hl hret
  have hown : s.vm.findClass RX6 = some m.cls := hown
  have hl : lv_has ls 2 [(0, .ref (aT 0)), (1, .ref (aO6 0))] := hl
  have hret : ∀ (v0 : Mm) (H : Heap) (locs : List Loc) (ls : Array Slot) (pc : Nat), some (v0) = some (oT) → va_P D vwCl (w_Told C aT v0 ++ w_Told C aO6 mO6) H → va_D A (w_Told C aT v0 ++ w_Told C aO6 mO6) → va_S A s.heap H locs → decode cX6_copy pc = .ok (.return_, 1) → W p l e rX6_copy s m args below meth c H locs 0 0 Q (F0 m pc ls []) := by
    intro v0 H locs ls pc h0 h1 h2 h3 h4
    cases h0
    exact hret H locs ls pc h1 h2 h3 h4
  have q0 := hts (.fieldLink RX6 30 "ForeRain$Told" "pieces" "I") (by decide +kernel)
  have q1 := hts (.fieldLink RX6 34 "ForeRain$Told" "spots" "I") (by decide +kernel)
  have q2 := hts (.fieldLink RX6 37 "ForeRain$Told" "steps" "I") (by decide +kernel)
  have q3 := hts (.fieldLink RX6 9 "ForeRain$Told" "water" "[I") (by decide +kernel)
  have q4 := hts (.methodLink RX6 40 arraycopyName) (by decide +kernel)
  have q5 := hts (.native arraycopyName) (by decide +kernel)
  have q6 := hts (.static arraycopyName) (by decide +kernel)
  have q7 := hts (.initialized "java/lang/System") (by decide +kernel)
  have q8 := hts (.fieldLink RX6 15 "ForeRain$Told" "wide" "[I") (by decide +kernel)
  have q9 := hts (.fieldLink RX6 18 "ForeRain$Told" "cloth" "[I") (by decide +kernel)
  have q10 := hts (.fieldLink RX6 21 "ForeRain$Told" "room" "[I") (by decide +kernel)
  have q11 := hts (.fieldLink RX6 24 "ForeRain$Told" "wind" "[I") (by decide +kernel)
  have q12 := hts (.fieldLink RX6 27 "ForeRain$Told" "suns" "[I") (by decide +kernel)
  have iX6 : ∀ w ∈ u_ws RX6 TX6 9, w ∈ wsX6_copy := by decide +kernel
  refine lv_aload_n hx hb dX6_copy_0 rfl (lv_at hl 0 rfl) ?_
  refine lv_aload_n hx hb dX6_copy_1 rfl (lv_at hl 1 rfl) ?_
  refine va_get (D := D) (ci := 6) (v := .int (mO6 0 0)) (C := RX6) (T := TX6) (N := 9) hx hb hts iX6 hown hK hP 7 rfl rfl 0 (by decide) q0 (fun _ h9 => h9) rfl dX6_copy_2 ?_
  obtain ⟨x1, ex1, hf⟩ := kv_lt_e hf
  refine vv_nami ex1 ?_
  obtain ⟨mT2, emT2, hf⟩ := kv_lt_e hf
  refine va_put (D := D) (ci := 6) (v := .int x1) (ty := .int) (C := RX6) (T := TX6) (N := 9) hx hb hts iX6 tyX6 tyX6_ok nmX6 hown hK hP hD hS 0 rfl rfl 0 (by decide) q0 (fun _ h9 => h9) rfl (tyX6_ok 0 (by decide)) rfl rfl (Nat.le_of_ble_eq_true rfl) dX6_copy_5 (fun H locs hP hD hS => ?_)
  have hP : va_P D vwCl (w_Told C aT mT2 ++ w_Told C aO6 mO6) H := by rw [emT2]; exact hP
  have hD : va_D A (w_Told C aT mT2 ++ w_Told C aO6 mO6) := by rw [emT2]; exact hD
  refine lv_aload_n hx hb dX6_copy_8 rfl (lv_at hl 0 rfl) ?_
  refine lv_aload_n hx hb dX6_copy_9 rfl (lv_at hl 1 rfl) ?_
  refine va_get (D := D) (ci := 6) (v := .int (mO6 0 1)) (C := RX6) (T := TX6) (N := 9) hx hb hts iX6 hown hK hP 7 rfl rfl 1 (by decide) q1 (fun _ h9 => h9) rfl dX6_copy_10 ?_
  obtain ⟨x3, ex3, hf⟩ := kv_lt_e hf
  refine vv_nami ex3 ?_
  obtain ⟨mT4, emT4, hf⟩ := kv_lt_e hf
  refine va_put (D := D) (ci := 6) (v := .int x3) (ty := .int) (C := RX6) (T := TX6) (N := 9) hx hb hts iX6 tyX6 tyX6_ok nmX6 hown hK hP hD hS 0 rfl rfl 1 (by decide) q1 (fun _ h9 => h9) rfl (tyX6_ok 1 (by decide)) rfl rfl (Nat.le_of_ble_eq_true rfl) dX6_copy_13 (fun H locs hP hD hS => ?_)
  have hP : va_P D vwCl (w_Told C aT mT4 ++ w_Told C aO6 mO6) H := by rw [emT4]; exact hP
  have hD : va_D A (w_Told C aT mT4 ++ w_Told C aO6 mO6) := by rw [emT4]; exact hD
  refine lv_aload_n hx hb dX6_copy_16 rfl (lv_at hl 0 rfl) ?_
  refine lv_aload_n hx hb dX6_copy_17 rfl (lv_at hl 1 rfl) ?_
  refine va_get (D := D) (ci := 6) (v := .int (mO6 0 2)) (C := RX6) (T := TX6) (N := 9) hx hb hts iX6 hown hK hP 7 rfl rfl 2 (by decide) q2 (fun _ h9 => h9) rfl dX6_copy_18 ?_
  obtain ⟨x5, ex5, hf⟩ := kv_lt_e hf
  refine vv_nami ex5 ?_
  obtain ⟨mT6, emT6, hf⟩ := kv_lt_e hf
  refine va_put (D := D) (ci := 6) (v := .int x5) (ty := .int) (C := RX6) (T := TX6) (N := 9) hx hb hts iX6 tyX6 tyX6_ok nmX6 hown hK hP hD hS 0 rfl rfl 2 (by decide) q2 (fun _ h9 => h9) rfl (tyX6_ok 2 (by decide)) rfl rfl (Nat.le_of_ble_eq_true rfl) dX6_copy_21 (fun H locs hP hD hS => ?_)
  have hP : va_P D vwCl (w_Told C aT mT6 ++ w_Told C aO6 mO6) H := by rw [emT6]; exact hP
  have hD : va_D A (w_Told C aT mT6 ++ w_Told C aO6 mO6) := by rw [emT6]; exact hD
  refine lv_aload_n hx hb dX6_copy_24 rfl (lv_at hl 1 rfl) ?_
  refine va_get (D := D) (ci := 6) (v := .ref (aO6 1)) (C := RX6) (T := TX6) (N := 9) hx hb hts iX6 hown hK hP 7 rfl rfl 3 (by decide) q3 (fun _ h9 => h9) rfl dX6_copy_25 ?_
  refine lv_iconst (v := 0) hx hb dX6_copy_28 (by decide) ?_
  refine lv_aload_n hx hb dX6_copy_29 rfl (lv_at hl 0 rfl) ?_
  refine va_get (D := D) (ci := 6) (v := .ref (aT 1)) (C := RX6) (T := TX6) (N := 9) hx hb hts iX6 hown hK hP 0 rfl rfl 3 (by decide) q3 (fun _ h9 => h9) rfl dX6_copy_30 ?_
  refine lv_iconst (v := 0) hx hb dX6_copy_33 (by decide) ?_
  refine lv_bipush (v := 6) hx hb dX6_copy_34 (by decide) ?_
  obtain ⟨mT7, emT7, hf⟩ := kv_lt_e hf
  refine va_copyi hx hb (hml.trans hl.1.symm) hown q4 q5 q6 q7 hK hP hD hS 8 1 1 1 rfl rfl rfl rfl rfl (by decide) (by decide) (by decide) (by decide) (by decide) (fun _ _ => rfl) (Nat.le_of_ble_eq_true rfl) (by decide +kernel) dX6_copy_36 (fun H locs hP hD hS => ?_)
  have hP : va_P D vwCl (w_Told C aT mT7 ++ w_Told C aO6 mO6) H := by rw [emT7]; exact hP
  have hD : va_D A (w_Told C aT mT7 ++ w_Told C aO6 mO6) := by rw [emT7]; exact hD
  refine lv_aload_n hx hb dX6_copy_39 rfl (lv_at hl 1 rfl) ?_
  refine va_get (D := D) (ci := 6) (v := .ref (aO6 2)) (C := RX6) (T := TX6) (N := 9) hx hb hts iX6 hown hK hP 7 rfl rfl 4 (by decide) q8 (fun _ h9 => h9) rfl dX6_copy_40 ?_
  refine lv_iconst (v := 0) hx hb dX6_copy_43 (by decide) ?_
  refine lv_aload_n hx hb dX6_copy_44 rfl (lv_at hl 0 rfl) ?_
  refine va_get (D := D) (ci := 6) (v := .ref (aT 2)) (C := RX6) (T := TX6) (N := 9) hx hb hts iX6 hown hK hP 0 rfl rfl 4 (by decide) q8 (fun _ h9 => h9) rfl dX6_copy_45 ?_
  refine lv_iconst (v := 0) hx hb dX6_copy_48 (by decide) ?_
  refine lv_bipush (v := 6) hx hb dX6_copy_49 (by decide) ?_
  obtain ⟨mT8, emT8, hf⟩ := kv_lt_e hf
  refine va_copyi hx hb (hml.trans hl.1.symm) hown q4 q5 q6 q7 hK hP hD hS 9 2 1 1 rfl rfl rfl rfl rfl (by decide) (by decide) (by decide) (by decide) (by decide) (fun _ _ => rfl) (Nat.le_of_ble_eq_true rfl) (by decide +kernel) dX6_copy_51 (fun H locs hP hD hS => ?_)
  have hP : va_P D vwCl (w_Told C aT mT8 ++ w_Told C aO6 mO6) H := by rw [emT8]; exact hP
  have hD : va_D A (w_Told C aT mT8 ++ w_Told C aO6 mO6) := by rw [emT8]; exact hD
  refine lv_aload_n hx hb dX6_copy_54 rfl (lv_at hl 1 rfl) ?_
  refine va_get (D := D) (ci := 6) (v := .ref (aO6 3)) (C := RX6) (T := TX6) (N := 9) hx hb hts iX6 hown hK hP 7 rfl rfl 5 (by decide) q9 (fun _ h9 => h9) rfl dX6_copy_55 ?_
  refine lv_iconst (v := 0) hx hb dX6_copy_58 (by decide) ?_
  refine lv_aload_n hx hb dX6_copy_59 rfl (lv_at hl 0 rfl) ?_
  refine va_get (D := D) (ci := 6) (v := .ref (aT 3)) (C := RX6) (T := TX6) (N := 9) hx hb hts iX6 hown hK hP 0 rfl rfl 5 (by decide) q9 (fun _ h9 => h9) rfl dX6_copy_60 ?_
  refine lv_iconst (v := 0) hx hb dX6_copy_63 (by decide) ?_
  refine lv_bipush (v := 6) hx hb dX6_copy_64 (by decide) ?_
  obtain ⟨mT9, emT9, hf⟩ := kv_lt_e hf
  refine va_copyi hx hb (hml.trans hl.1.symm) hown q4 q5 q6 q7 hK hP hD hS 10 3 1 1 rfl rfl rfl rfl rfl (by decide) (by decide) (by decide) (by decide) (by decide) (fun _ _ => rfl) (Nat.le_of_ble_eq_true rfl) (by decide +kernel) dX6_copy_66 (fun H locs hP hD hS => ?_)
  have hP : va_P D vwCl (w_Told C aT mT9 ++ w_Told C aO6 mO6) H := by rw [emT9]; exact hP
  have hD : va_D A (w_Told C aT mT9 ++ w_Told C aO6 mO6) := by rw [emT9]; exact hD
  refine lv_aload_n hx hb dX6_copy_69 rfl (lv_at hl 1 rfl) ?_
  refine va_get (D := D) (ci := 6) (v := .ref (aO6 4)) (C := RX6) (T := TX6) (N := 9) hx hb hts iX6 hown hK hP 7 rfl rfl 6 (by decide) q10 (fun _ h9 => h9) rfl dX6_copy_70 ?_
  refine lv_iconst (v := 0) hx hb dX6_copy_73 (by decide) ?_
  refine lv_aload_n hx hb dX6_copy_74 rfl (lv_at hl 0 rfl) ?_
  refine va_get (D := D) (ci := 6) (v := .ref (aT 4)) (C := RX6) (T := TX6) (N := 9) hx hb hts iX6 hown hK hP 0 rfl rfl 6 (by decide) q10 (fun _ h9 => h9) rfl dX6_copy_75 ?_
  refine lv_iconst (v := 0) hx hb dX6_copy_78 (by decide) ?_
  refine lv_iconst (v := 5) hx hb dX6_copy_79 (by decide) ?_
  obtain ⟨mT10, emT10, hf⟩ := kv_lt_e hf
  refine va_copyi hx hb (hml.trans hl.1.symm) hown q4 q5 q6 q7 hK hP hD hS 11 4 1 1 rfl rfl rfl rfl rfl (by decide) (by decide) (by decide) (by decide) (by decide) (fun _ _ => rfl) (Nat.le_of_ble_eq_true rfl) (by decide +kernel) dX6_copy_80 (fun H locs hP hD hS => ?_)
  have hP : va_P D vwCl (w_Told C aT mT10 ++ w_Told C aO6 mO6) H := by rw [emT10]; exact hP
  have hD : va_D A (w_Told C aT mT10 ++ w_Told C aO6 mO6) := by rw [emT10]; exact hD
  refine lv_aload_n hx hb dX6_copy_83 rfl (lv_at hl 1 rfl) ?_
  refine va_get (D := D) (ci := 6) (v := .ref (aO6 5)) (C := RX6) (T := TX6) (N := 9) hx hb hts iX6 hown hK hP 7 rfl rfl 7 (by decide) q11 (fun _ h9 => h9) rfl dX6_copy_84 ?_
  refine lv_iconst (v := 0) hx hb dX6_copy_87 (by decide) ?_
  refine lv_aload_n hx hb dX6_copy_88 rfl (lv_at hl 0 rfl) ?_
  refine va_get (D := D) (ci := 6) (v := .ref (aT 5)) (C := RX6) (T := TX6) (N := 9) hx hb hts iX6 hown hK hP 0 rfl rfl 7 (by decide) q11 (fun _ h9 => h9) rfl dX6_copy_89 ?_
  refine lv_iconst (v := 0) hx hb dX6_copy_92 (by decide) ?_
  refine lv_iconst (v := 5) hx hb dX6_copy_93 (by decide) ?_
  obtain ⟨mT11, emT11, hf⟩ := kv_lt_e hf
  refine va_copyi hx hb (hml.trans hl.1.symm) hown q4 q5 q6 q7 hK hP hD hS 12 5 1 1 rfl rfl rfl rfl rfl (by decide) (by decide) (by decide) (by decide) (by decide) (fun _ _ => rfl) (Nat.le_of_ble_eq_true rfl) (by decide +kernel) dX6_copy_94 (fun H locs hP hD hS => ?_)
  have hP : va_P D vwCl (w_Told C aT mT11 ++ w_Told C aO6 mO6) H := by rw [emT11]; exact hP
  have hD : va_D A (w_Told C aT mT11 ++ w_Told C aO6 mO6) := by rw [emT11]; exact hD
  refine lv_aload_n hx hb dX6_copy_97 rfl (lv_at hl 1 rfl) ?_
  refine va_get (D := D) (ci := 6) (v := .ref (aO6 6)) (C := RX6) (T := TX6) (N := 9) hx hb hts iX6 hown hK hP 7 rfl rfl 8 (by decide) q12 (fun _ h9 => h9) rfl dX6_copy_98 ?_
  refine lv_iconst (v := 0) hx hb dX6_copy_101 (by decide) ?_
  refine lv_aload_n hx hb dX6_copy_102 rfl (lv_at hl 0 rfl) ?_
  refine va_get (D := D) (ci := 6) (v := .ref (aT 6)) (C := RX6) (T := TX6) (N := 9) hx hb hts iX6 hown hK hP 0 rfl rfl 8 (by decide) q12 (fun _ h9 => h9) rfl dX6_copy_103 ?_
  refine lv_iconst (v := 0) hx hb dX6_copy_106 (by decide) ?_
  refine lv_bipush (v := 24) hx hb dX6_copy_107 (by decide) ?_
  obtain ⟨mT12, emT12, hf⟩ := kv_lt_e hf
  refine va_copyi hx hb (hml.trans hl.1.symm) hown q4 q5 q6 q7 hK hP hD hS 13 6 1 1 rfl rfl rfl rfl rfl (by decide) (by decide) (by decide) (by decide) (by decide) (fun _ _ => rfl) (Nat.le_of_ble_eq_true rfl) (by decide +kernel) dX6_copy_109 (fun H locs hP hD hS => ?_)
  have hP : va_P D vwCl (w_Told C aT mT12 ++ w_Told C aO6 mO6) H := by rw [emT12]; exact hP
  have hD : va_D A (w_Told C aT mT12 ++ w_Told C aO6 mO6) := by rw [emT12]; exact hD
  exact hret _ _ _ _ _ hf hP hD hS dX6_copy_112
