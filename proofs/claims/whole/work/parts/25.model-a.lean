abbrev rX8_allWater : Room := { frames := 0, cells := 0, slots := 0, locals := 0 }
set_option maxHeartbeats 4000000 in
set_option maxRecDepth 100000 in
theorem ccX8_allWater (l : Launch) (D : va_G) (C : Nat → ClassId) (sz : Nat) (aZ : Nat → Nat) (mZ : Mm) (mY : Int64) (p0 : Int32) (rr : Int32) (hf : ffX8_allWater p0 mZ = some (rr)) : Met l yX8_allWater wsX8_allWater rX8_allWater (va_Pc [.ref (aZ 0), .int p0] (vv_pre D C (w_MD C aZ mZ mY) sz)) (vv_QI D C (w_MD C aZ mZ mY) (w_MD C aZ mZ mY) sz rr) 0 0 (va_A (w_MD C aZ mZ mY) sz) := by
  unfold ffX8_allWater at hf
  refine vv_metI (cc := cX8_allWater) (maxL := 4) (ty := .int) (by decide) rfl (Nat.le_of_ble_eq_true rfl) ?_
  intro p e s m args below meth c A Q H locs ls hx hb hml hown hts hA hK hN hP hD hS hl hret
  have hown : s.vm.findClass RX8 = some m.cls := hown
  have hl : lv_has ls 4 [(0, .ref (aZ 0)), (1, .int p0)] := hl
  have hret : ∀ (v0 : Int32) (H : Heap) (locs : List Loc) (ls : Array Slot) (pc : Nat), some (v0) = some (rr) → narrow .int (.int v0) = .int v0 → va_P D vwCl (w_MD C aZ mZ mY) H → va_D A (w_MD C aZ mZ mY) → va_S A s.heap H locs → decode cX8_allWater pc = .ok (.ireturn, 1) → W p l e rX8_allWater s m args below meth c H locs 0 0 Q (F0 m pc ls [.int v0]) := by
    intro v0 H locs ls pc h0 hn h1 h2 h3 h4
    cases h0
    exact hret H locs ls pc hn h1 h2 h3 h4
  have q0 := hts (.fieldLink RX8 13 "ForeRainModel" "pieces" "[I") (by decide +kernel)
  have q1 := hts (.fieldLink RX8 41 "ForeRainModel" "now" "[I") (by decide +kernel)
  have iX8 : ∀ w ∈ u_ws RX8 TX8 26, w ∈ wsX8_allWater := by decide +kernel
  refine lv_iconst (v := 0) hx hb dX8_allWater_0 (by decide) ?_
  refine lv_istore_n (lv' := [(2, .int 0), (0, .ref (aZ 0)), (1, .int p0)]) hx hb dX8_allWater_1 rfl hl (by decide) rfl (fun ls hl => ?_)
  refine lv_iconst (v := 0) hx hb dX8_allWater_2 (by decide) ?_
  refine lv_istore_n (lv' := [(3, .int 0), (2, .int 0), (0, .ref (aZ 0)), (1, .int p0)]) hx hb dX8_allWater_3 rfl hl (by decide) rfl (fun ls hl => ?_)
  have L4 : ∀ (K4 : Int32 → Int32 → Option (Int32)), (∀ (x1 : Int32) (x2 : Int32) (H : Heap) (locs : List Loc) (ls : Array Slot), va_P D vwCl (w_MD C aZ mZ mY) H → va_D A (w_MD C aZ mZ mY) → va_S A s.heap H locs → lv_has ls 4 [(3, .int x1), (2, .int x2), (0, .ref (aZ 0)), (1, .int p0)] → K4 x1 x2 = some (rr) → W p l e rX8_allWater s m args below meth c H locs 0 0 Q (F0 m 33 ls [])) → ∀ (n : Nat) (x1 : Int32) (x2 : Int32) (H : Heap) (locs : List Loc) (ls : Array Slot), va_P D vwCl (w_MD C aZ mZ mY) H → va_D A (w_MD C aZ mZ mY) → va_S A s.heap H locs → lv_has ls 4 [(3, .int x1), (2, .int x2), (0, .ref (aZ 0)), (1, .int p0)] → ffX8_allWater_L4 p0 mZ K4 n x1 x2 = some (rr) → W p l e rX8_allWater s m args below meth c H locs 0 0 Q (F0 m 4 ls []) := by
    intro K4 hK9 n
    induction n with
    | zero => intro x1 x2 H locs ls hP hD hS hl hf; exact kv_no hf
    | succ n ih =>
      intro x1 x2 H locs ls hP hD hS hl hf
      rw [ffX8_allWater_L4_s] at hf
      refine lv_iload_n hx hb dX8_allWater_4 rfl (lv_at hl 0 rfl) ?_
      refine lv_aload_n hx hb dX8_allWater_5 rfl (lv_at hl 2 rfl) ?_
      refine va_get (D := D) (ci := 8) (v := .ref (aZ 2)) (C := RX8) (T := TX8) (N := 26) hx hb hts iX8 hown hK hP 0 rfl rfl 3 (by decide) q0 (fun _ h9 => h9) rfl dX8_allWater_6 ?_
      refine lv_iconst (v := 0) hx hb dX8_allWater_9 (by decide) ?_
      obtain ⟨h9, hf⟩ := kv_ix_e hf
      refine va_iald hx hb hK hP 2 1 rfl rfl h9 dX8_allWater_10 ?_
      refine lv_icmp_ge (tgt := 33) hx hb dX8_allWater_11 (by decide) (fun hc => ?_) (fun hc => ?_)
      · have hf := kv_t hc hf
        exact hK9 _ _ _ _ _ hP hD hS (lv_sub hl [0, 1, 2, 3] rfl) hf
      · have hf := kv_f hc hf
        refine lv_iload_n hx hb dX8_allWater_14 rfl (lv_at hl 1 rfl) ?_
        refine lv_aload_n hx hb dX8_allWater_15 rfl (lv_at hl 2 rfl) ?_
        refine va_get (D := D) (ci := 8) (v := .ref (aZ 11)) (C := RX8) (T := TX8) (N := 26) hx hb hts iX8 hown hK hP 0 rfl rfl 17 (by decide) q1 (fun _ h9 => h9) rfl dX8_allWater_16 ?_
        refine lv_iload_n hx hb dX8_allWater_19 rfl (lv_at hl 3 rfl) ?_
        refine lv_iconst (v := 2) hx hb dX8_allWater_20 (by decide) ?_
        refine lv_iadd hx hb dX8_allWater_21 ?_
        refine lv_iload_n hx hb dX8_allWater_22 rfl (lv_at hl 0 rfl) ?_
        refine lv_iadd hx hb dX8_allWater_23 ?_
        obtain ⟨h9, hf⟩ := kv_ix_e hf
        refine va_iald hx hb hK hP 11 1 rfl rfl h9 dX8_allWater_24 ?_
        refine lv_iadd hx hb dX8_allWater_25 ?_
        obtain ⟨x3, ex3, hf⟩ := kv_lt_e hf
        refine vv_nami ex3 ?_
        refine lv_istore_n (lv' := [(2, .int x3), (3, .int x1), (0, .ref (aZ 0)), (1, .int p0)]) hx hb dX8_allWater_26 rfl hl (by decide) rfl (fun ls hl => ?_)
        obtain ⟨x4, ex4, hf⟩ := kv_lt_e hf
        refine lv_iinc (v := x4) (lv' := [(3, .int x4), (2, .int x3), (0, .ref (aZ 0)), (1, .int p0)]) hx hb dX8_allWater_27 hl (k := 1) rfl (by rw [ex4]; rfl) (by decide) rfl (fun ls hl => ?_)
        refine lv_goto (tgt := 4) hx hb dX8_allWater_30 (by decide) ?_
        exact ih _ _ _ _ _ hP hD hS (lv_sub hl [0, 1, 2, 3] rfl) hf
  refine L4 _ (fun x5 x6 H locs ls hP hD hS hl hf => ?_) _ _ _ _ _ _ hP hD hS (lv_sub hl [0, 1, 2, 3] rfl) hf
  refine lv_iload_n hx hb dX8_allWater_33 rfl (lv_at hl 1 rfl) ?_
  exact hret _ _ _ _ _ hf rfl hP hD hS dX8_allWater_34
abbrev rX8_anew : Room := { frames := 0, cells := 0, slots := 0, locals := 0 }
set_option maxHeartbeats 4000000 in
set_option maxRecDepth 100000 in
theorem ccX8_anew (l : Launch) (D : va_G) (C : Nat → ClassId) (sz : Nat) (aZ : Nat → Nat) (mZ : Mm) (mY : Int64) (rr : Int32) (oZ : Mm) (hf : ffX8_anew mZ = some (rr, oZ)) : Met l yX8_anew wsX8_anew rX8_anew (va_Pc [.ref (aZ 0)] (vv_pre D C (w_MD C aZ mZ mY) sz)) (vv_QI D C (w_MD C aZ mZ mY) (w_MD C aZ oZ mY) sz rr) 0 0 (va_A (w_MD C aZ mZ mY) sz) := by
  unfold ffX8_anew at hf
  refine vv_metI (cc := cX8_anew) (maxL := 3) (ty := .int) (by decide) rfl (Nat.le_of_ble_eq_true rfl) ?_
  intro p e s m args below meth c A Q H locs ls hx hb hml hown hts hA hK hN hP hD hS hl hret
  have hown : s.vm.findClass RX8 = some m.cls := hown
  have hl : lv_has ls 3 [(0, .ref (aZ 0))] := hl
  have hret : ∀ (v0 : Int32) (v1 : Mm) (H : Heap) (locs : List Loc) (ls : Array Slot) (pc : Nat), some (v0, v1) = some (rr, oZ) → narrow .int (.int v0) = .int v0 → va_P D vwCl (w_MD C aZ v1 mY) H → va_D A (w_MD C aZ v1 mY) → va_S A s.heap H locs → decode cX8_anew pc = .ok (.ireturn, 1) → W p l e rX8_anew s m args below meth c H locs 0 0 Q (F0 m pc ls [.int v0]) := by
    intro v0 v1 H locs ls pc h0 hn h1 h2 h3 h4
    cases h0
    exact hret H locs ls pc hn h1 h2 h3 h4
  have q0 := hts (.fieldLink RX8 41 "ForeRainModel" "now" "[I") (by decide +kernel)
  have q1 := hts (.fieldLink RX8 13 "ForeRainModel" "pieces" "[I") (by decide +kernel)
  have q2 := hts (.fieldLink RX8 17 "ForeRainModel" "wet" "[I") (by decide +kernel)
  have iX8 : ∀ w ∈ u_ws RX8 TX8 26, w ∈ wsX8_anew := by decide +kernel
  refine lv_aload_n hx hb dX8_anew_0 rfl (lv_at hl 0 rfl) ?_
  refine va_get (D := D) (ci := 8) (v := .ref (aZ 11)) (C := RX8) (T := TX8) (N := 26) hx hb hts iX8 hown hK hP 0 rfl rfl 17 (by decide) q0 (fun _ h9 => h9) rfl dX8_anew_1 ?_
  refine lv_iconst (v := 0) hx hb dX8_anew_4 (by decide) ?_
  obtain ⟨h9, hf⟩ := kv_ix_e hf
  refine va_iald hx hb hK hP 11 1 rfl rfl h9 dX8_anew_5 ?_
  obtain ⟨x1, ex1, hf⟩ := kv_lt_e hf
  refine vv_nami ex1 ?_
  refine lv_istore_n (lv' := [(1, .int x1), (0, .ref (aZ 0))]) hx hb dX8_anew_6 rfl hl (by decide) rfl (fun ls hl => ?_)
  refine lv_aload_n hx hb dX8_anew_7 rfl (lv_at hl 1 rfl) ?_
  refine va_get (D := D) (ci := 8) (v := .ref (aZ 11)) (C := RX8) (T := TX8) (N := 26) hx hb hts iX8 hown hK hP 0 rfl rfl 17 (by decide) q0 (fun _ h9 => h9) rfl dX8_anew_8 ?_
  refine lv_iconst (v := 0) hx hb dX8_anew_11 (by decide) ?_
  refine lv_iconst (v := 0) hx hb dX8_anew_12 (by decide) ?_
  obtain ⟨h9, hf⟩ := kv_ix_e hf
  obtain ⟨mZ2, emZ2, hf⟩ := kv_lt_e hf
  refine va_iast hx hb hK hP hD hS 11 1 rfl rfl h9 dX8_anew_13 (fun H locs hP hD hS => ?_)
  have hP : va_P D vwCl (w_MD C aZ mZ2 mY) H := by rw [emZ2]; exact hP
  have hD : va_D A (w_MD C aZ mZ2 mY) := by rw [emZ2]; exact hD
  refine lv_aload_n hx hb dX8_anew_14 rfl (lv_at hl 1 rfl) ?_
  refine va_get (D := D) (ci := 8) (v := .ref (aZ 11)) (C := RX8) (T := TX8) (N := 26) hx hb hts iX8 hown hK hP 0 rfl rfl 17 (by decide) q0 (fun _ h9 => h9) rfl dX8_anew_15 ?_
  refine lv_iconst (v := 1) hx hb dX8_anew_18 (by decide) ?_
  refine lv_iconst (v := 0) hx hb dX8_anew_19 (by decide) ?_
  obtain ⟨h9, hf⟩ := kv_ix_e hf
  obtain ⟨mZ3, emZ3, hf⟩ := kv_lt_e hf
  refine va_iast hx hb hK hP hD hS 11 1 rfl rfl h9 dX8_anew_20 (fun H locs hP hD hS => ?_)
  have hP : va_P D vwCl (w_MD C aZ mZ3 mY) H := by rw [emZ3]; exact hP
  have hD : va_D A (w_MD C aZ mZ3 mY) := by rw [emZ3]; exact hD
  refine lv_iconst (v := 0) hx hb dX8_anew_21 (by decide) ?_
  refine lv_istore_n (lv' := [(2, .int 0), (1, .int x1), (0, .ref (aZ 0))]) hx hb dX8_anew_22 rfl hl (by decide) rfl (fun ls hl => ?_)
  have L23 : ∀ (K23 : Int32 → Mm → Option (Int32 × Mm)), (∀ (x4 : Int32) (mZ5 : Mm) (H : Heap) (locs : List Loc) (ls : Array Slot), va_P D vwCl (w_MD C aZ mZ5 mY) H → va_D A (w_MD C aZ mZ5 mY) → va_S A s.heap H locs → lv_has ls 3 [(2, .int x4), (1, .int x1), (0, .ref (aZ 0))] → K23 x4 mZ5 = some (rr, oZ) → W p l e rX8_anew s m args below meth c H locs 0 0 Q (F0 m 94 ls [])) → ∀ (n : Nat) (x4 : Int32) (mZ5 : Mm) (H : Heap) (locs : List Loc) (ls : Array Slot), va_P D vwCl (w_MD C aZ mZ5 mY) H → va_D A (w_MD C aZ mZ5 mY) → va_S A s.heap H locs → lv_has ls 3 [(2, .int x4), (1, .int x1), (0, .ref (aZ 0))] → ffX8_anew_L23  K23 n x4 mZ5 = some (rr, oZ) → W p l e rX8_anew s m args below meth c H locs 0 0 Q (F0 m 23 ls []) := by
    intro K23 hK9 n
    induction n with
    | zero => intro x4 mZ5 H locs ls hP hD hS hl hf; exact kv_no hf
    | succ n ih =>
      intro x4 mZ5 H locs ls hP hD hS hl hf
      rw [ffX8_anew_L23_s] at hf
      refine lv_iload_n hx hb dX8_anew_23 rfl (lv_at hl 0 rfl) ?_
      refine lv_bipush (v := 6) hx hb dX8_anew_24 (by decide) ?_
      refine lv_icmp_ge (tgt := 94) hx hb dX8_anew_26 (by decide) (fun hc => ?_) (fun hc => ?_)
      · have hf := kv_t hc hf
        exact hK9 _ _ _ _ _ hP hD hS (lv_sub hl [0, 1, 2] rfl) hf
      · have hf := kv_f hc hf
        refine lv_aload_n hx hb dX8_anew_29 rfl (lv_at hl 2 rfl) ?_
        refine va_get (D := D) (ci := 8) (v := .ref (aZ 11)) (C := RX8) (T := TX8) (N := 26) hx hb hts iX8 hown hK hP 0 rfl rfl 17 (by decide) q0 (fun _ h9 => h9) rfl dX8_anew_30 ?_
        refine lv_iconst (v := 2) hx hb dX8_anew_33 (by decide) ?_
        refine lv_iload_n hx hb dX8_anew_34 rfl (lv_at hl 0 rfl) ?_
        refine lv_iadd hx hb dX8_anew_35 ?_
        refine lv_iload_n hx hb dX8_anew_36 rfl (lv_at hl 0 rfl) ?_
        refine lv_aload_n hx hb dX8_anew_37 rfl (lv_at hl 2 rfl) ?_
        refine va_get (D := D) (ci := 8) (v := .ref (aZ 2)) (C := RX8) (T := TX8) (N := 26) hx hb hts iX8 hown hK hP 0 rfl rfl 3 (by decide) q1 (fun _ h9 => h9) rfl dX8_anew_38 ?_
        refine lv_iconst (v := 0) hx hb dX8_anew_41 (by decide) ?_
        obtain ⟨h9, hf⟩ := kv_ix_e hf
        refine va_iald hx hb hK hP 2 1 rfl rfl h9 dX8_anew_42 ?_
        obtain ⟨k56_6, ek56_6, hf⟩ := kv_lt_e hf
        have J56_6 : ∀ (x7 : Int32) (H : Heap) (locs : List Loc) (ls : Array Slot), va_P D vwCl (w_MD C aZ mZ5 mY) H → va_D A (w_MD C aZ mZ5 mY) → va_S A s.heap H locs → lv_has ls 3 [(2, .int x4), (1, .int x1), (0, .ref (aZ 0))] → k56_6 x7 = some (rr, oZ) → W p l e rX8_anew s m args below meth c H locs 0 0 Q (F0 m 56 ls [.int x7, .int (2 + x4), .ref (aZ 11)]) := by
          intro x7 H locs ls hP hD hS hl hf
          rw [ek56_6] at hf
          obtain ⟨h9, hf⟩ := kv_ix_e hf
          obtain ⟨mZ8, emZ8, hf⟩ := kv_lt_e hf
          refine va_iast hx hb hK hP hD hS 11 1 rfl rfl h9 dX8_anew_56 (fun H locs hP hD hS => ?_)
          have hP : va_P D vwCl (w_MD C aZ mZ8 mY) H := by rw [emZ8]; exact hP
          have hD : va_D A (w_MD C aZ mZ8 mY) := by rw [emZ8]; exact hD
          refine lv_aload_n hx hb dX8_anew_57 rfl (lv_at hl 2 rfl) ?_
          refine va_get (D := D) (ci := 8) (v := .ref (aZ 11)) (C := RX8) (T := TX8) (N := 26) hx hb hts iX8 hown hK hP 0 rfl rfl 17 (by decide) q0 (fun _ h9 => h9) rfl dX8_anew_58 ?_
          refine lv_bipush (v := 8) hx hb dX8_anew_61 (by decide) ?_
          refine lv_iload_n hx hb dX8_anew_63 rfl (lv_at hl 0 rfl) ?_
          refine lv_iadd hx hb dX8_anew_64 ?_
          refine lv_iconst (v := 0) hx hb dX8_anew_65 (by decide) ?_
          obtain ⟨h9, hf⟩ := kv_ix_e hf
          obtain ⟨mZ9, emZ9, hf⟩ := kv_lt_e hf
          refine va_iast hx hb hK hP hD hS 11 1 rfl rfl h9 dX8_anew_66 (fun H locs hP hD hS => ?_)
          have hP : va_P D vwCl (w_MD C aZ mZ9 mY) H := by rw [emZ9]; exact hP
          have hD : va_D A (w_MD C aZ mZ9 mY) := by rw [emZ9]; exact hD
          refine lv_aload_n hx hb dX8_anew_67 rfl (lv_at hl 2 rfl) ?_
          refine va_get (D := D) (ci := 8) (v := .ref (aZ 11)) (C := RX8) (T := TX8) (N := 26) hx hb hts iX8 hown hK hP 0 rfl rfl 17 (by decide) q0 (fun _ h9 => h9) rfl dX8_anew_68 ?_
          refine lv_bipush (v := 14) hx hb dX8_anew_71 (by decide) ?_
          refine lv_iload_n hx hb dX8_anew_73 rfl (lv_at hl 0 rfl) ?_
          refine lv_iadd hx hb dX8_anew_74 ?_
          refine lv_iconst (v := 0) hx hb dX8_anew_75 (by decide) ?_
          obtain ⟨h9, hf⟩ := kv_ix_e hf
          obtain ⟨mZ10, emZ10, hf⟩ := kv_lt_e hf
          refine va_iast hx hb hK hP hD hS 11 1 rfl rfl h9 dX8_anew_76 (fun H locs hP hD hS => ?_)
          have hP : va_P D vwCl (w_MD C aZ mZ10 mY) H := by rw [emZ10]; exact hP
          have hD : va_D A (w_MD C aZ mZ10 mY) := by rw [emZ10]; exact hD
          refine lv_aload_n hx hb dX8_anew_77 rfl (lv_at hl 2 rfl) ?_
          refine va_get (D := D) (ci := 8) (v := .ref (aZ 11)) (C := RX8) (T := TX8) (N := 26) hx hb hts iX8 hown hK hP 0 rfl rfl 17 (by decide) q0 (fun _ h9 => h9) rfl dX8_anew_78 ?_
          refine lv_bipush (v := 20) hx hb dX8_anew_81 (by decide) ?_
          refine lv_iload_n hx hb dX8_anew_83 rfl (lv_at hl 0 rfl) ?_
          refine lv_iadd hx hb dX8_anew_84 ?_
          refine lv_bipush (v := 9) hx hb dX8_anew_85 (by decide) ?_
          obtain ⟨h9, hf⟩ := kv_ix_e hf
          obtain ⟨mZ11, emZ11, hf⟩ := kv_lt_e hf
          refine va_iast hx hb hK hP hD hS 11 1 rfl rfl h9 dX8_anew_87 (fun H locs hP hD hS => ?_)
          have hP : va_P D vwCl (w_MD C aZ mZ11 mY) H := by rw [emZ11]; exact hP
          have hD : va_D A (w_MD C aZ mZ11 mY) := by rw [emZ11]; exact hD
          obtain ⟨x12, ex12, hf⟩ := kv_lt_e hf
          refine lv_iinc (v := x12) (lv' := [(2, .int x12), (1, .int x1), (0, .ref (aZ 0))]) hx hb dX8_anew_88 hl (k := 0) rfl (by rw [ex12]; rfl) (by decide) rfl (fun ls hl => ?_)
          refine lv_goto (tgt := 23) hx hb dX8_anew_91 (by decide) ?_
          exact ih _ _ _ _ _ hP hD hS (lv_sub hl [0, 1, 2] rfl) hf
        refine lv_icmp_ge (tgt := 55) hx hb dX8_anew_43 (by decide) (fun hc => ?_) (fun hc => ?_)
        · have hf := kv_t hc hf
          refine lv_iconst (v := 0) hx hb dX8_anew_55 (by decide) ?_
          exact J56_6 _ _ _ _ hP hD hS (lv_sub hl [0, 1, 2] rfl) hf
        · have hf := kv_f hc hf
          refine lv_aload_n hx hb dX8_anew_46 rfl (lv_at hl 2 rfl) ?_
          refine va_get (D := D) (ci := 8) (v := .ref (aZ 3)) (C := RX8) (T := TX8) (N := 26) hx hb hts iX8 hown hK hP 0 rfl rfl 4 (by decide) q2 (fun _ h9 => h9) rfl dX8_anew_47 ?_
          refine lv_iload_n hx hb dX8_anew_50 rfl (lv_at hl 0 rfl) ?_
          obtain ⟨h9, hf⟩ := kv_ix_e hf
          refine va_iald hx hb hK hP 3 1 rfl rfl h9 dX8_anew_51 ?_
          refine lv_goto (tgt := 56) hx hb dX8_anew_52 (by decide) ?_
          exact J56_6 _ _ _ _ hP hD hS (lv_sub hl [0, 1, 2] rfl) hf
  refine L23 _ (fun x13 mZ14 H locs ls hP hD hS hl hf => ?_) _ _ _ _ _ _ hP hD hS (lv_sub hl [0, 1, 2] rfl) hf
  refine lv_iload_n hx hb dX8_anew_94 rfl (lv_at hl 1 rfl) ?_
  exact hret _ _ _ _ _ _ hf rfl hP hD hS dX8_anew_95
abbrev rX8_in : Room := { frames := 0, cells := 0, slots := 0, locals := 0 }
set_option maxHeartbeats 4000000 in
set_option maxRecDepth 100000 in
theorem ccX8_in (l : Launch) (D : va_G) (C : Nat → ClassId) (sz : Nat) (p0 : Int32) (p1 : Int32) (p2 : Int32) (rr : Int32) (hf : ffX8_in p0 p1 p2 = some (rr)) : Met l yX8_in wsX8_in rX8_in (va_Pc [.int p0, .int p1, .int p2] (vv_pre D C ([] : va_W) sz)) (vv_QI D C ([] : va_W) ([] : va_W) sz rr) 0 0 (va_A ([] : va_W) sz) := by
  unfold ffX8_in at hf
  refine vv_metI (cc := cX8_in) (maxL := 3) (ty := .boolean) (by decide) rfl (Nat.le_of_ble_eq_true rfl) ?_
  intro p e s m args below meth c A Q H locs ls hx hb hml hown hts hA hK hN hP hD hS hl hret
  have hown : s.vm.findClass RX8 = some m.cls := hown
  have hl : lv_has ls 3 [(0, .int p0), (1, .int p1), (2, .int p2)] := hl
  have hret : ∀ (v0 : Int32) (H : Heap) (locs : List Loc) (ls : Array Slot) (pc : Nat), some (v0) = some (rr) → narrow .boolean (.int v0) = .int v0 → va_P D vwCl ([] : va_W) H → va_D A ([] : va_W) → va_S A s.heap H locs → decode cX8_in pc = .ok (.ireturn, 1) → W p l e rX8_in s m args below meth c H locs 0 0 Q (F0 m pc ls [.int v0]) := by
    intro v0 H locs ls pc h0 hn h1 h2 h3 h4
    cases h0
    exact hret H locs ls pc hn h1 h2 h3 h4
  refine lv_iload_n hx hb dX8_in_0 rfl (lv_at hl 0 rfl) ?_
  refine lv_iload_n hx hb dX8_in_1 rfl (lv_at hl 1 rfl) ?_
  refine lv_icmp_lt (tgt := 14) hx hb dX8_in_2 (by decide) (fun hc => ?_) (fun hc => ?_)
  · have hf := kv_t hc hf
    refine lv_iconst (v := 0) hx hb dX8_in_14 (by decide) ?_
    exact hret _ _ _ _ _ hf rfl hP hD hS dX8_in_15
  · have hf := kv_f hc hf
    refine lv_iload_n hx hb dX8_in_5 rfl (lv_at hl 0 rfl) ?_
    refine lv_iload_n hx hb dX8_in_6 rfl (lv_at hl 2 rfl) ?_
    refine lv_icmp_gt (tgt := 14) hx hb dX8_in_7 (by decide) (fun hc => ?_) (fun hc => ?_)
    · have hf := kv_t hc hf
      refine lv_iconst (v := 0) hx hb dX8_in_14 (by decide) ?_
      exact hret _ _ _ _ _ hf rfl hP hD hS dX8_in_15
    · have hf := kv_f hc hf
      refine lv_iconst (v := 1) hx hb dX8_in_10 (by decide) ?_
      refine lv_goto (tgt := 15) hx hb dX8_in_11 (by decide) ?_
      exact hret _ _ _ _ _ hf rfl hP hD hS dX8_in_15
abbrev rX8_copy : Room := { frames := 0, cells := 0, slots := 0, locals := 0 }
set_option maxHeartbeats 4000000 in
set_option maxRecDepth 100000 in
theorem ccX8_copy (l : Launch) (D : va_G) (C : Nat → ClassId) (sz : Nat) (aZ : Nat → Nat) (mZ : Mm) (mY : Int64) (p0 : Int32) (p1 : Int32) (oZ : Mm) (hf : ffX8_copy p0 p1 mZ = some (oZ)) : Met l yX8_copy wsX8_copy rX8_copy (va_Pc [.ref (aZ 0), .int p0, .int p1] (vv_pre D C (w_MD C aZ mZ mY) sz)) (vv_QV D C (w_MD C aZ mZ mY) (w_MD C aZ oZ mY) sz) 0 0 (va_A (w_MD C aZ mZ mY) sz) := by
  unfold ffX8_copy at hf
  refine vv_metV (cc := cX8_copy) (maxL := 4) (by decide) rfl (Nat.le_of_ble_eq_true rfl) ?_
  intro p e s m args below meth c A Q H locs ls hx hb hml hown hts hA hK hN hP hD hS hl hret
  have hown : s.vm.findClass RX8 = some m.cls := hown
  have hl : lv_has ls 4 [(0, .ref (aZ 0)), (1, .int p0), (2, .int p1)] := hl
  have hret : ∀ (v0 : Mm) (H : Heap) (locs : List Loc) (ls : Array Slot) (pc : Nat), some (v0) = some (oZ) → va_P D vwCl (w_MD C aZ v0 mY) H → va_D A (w_MD C aZ v0 mY) → va_S A s.heap H locs → decode cX8_copy pc = .ok (.return_, 1) → W p l e rX8_copy s m args below meth c H locs 0 0 Q (F0 m pc ls []) := by
    intro v0 H locs ls pc h0 h1 h2 h3 h4
    cases h0
    exact hret H locs ls pc h1 h2 h3 h4
  have q0 := hts (.fieldLink RX8 41 "ForeRainModel" "now" "[I") (by decide +kernel)
  have iX8 : ∀ w ∈ u_ws RX8 TX8 26, w ∈ wsX8_copy := by decide +kernel
  refine lv_iconst (v := 0) hx hb dX8_copy_0 (by decide) ?_
  refine lv_istore_n (lv' := [(3, .int 0), (0, .ref (aZ 0)), (1, .int p0), (2, .int p1)]) hx hb dX8_copy_1 rfl hl (by decide) rfl (fun ls hl => ?_)
  have L2 : ∀ (K2 : Int32 → Mm → Option (Mm)), (∀ (x1 : Int32) (mZ2 : Mm) (H : Heap) (locs : List Loc) (ls : Array Slot), va_P D vwCl (w_MD C aZ mZ2 mY) H → va_D A (w_MD C aZ mZ2 mY) → va_S A s.heap H locs → lv_has ls 4 [(3, .int x1), (0, .ref (aZ 0)), (1, .int p0), (2, .int p1)] → K2 x1 mZ2 = some (oZ) → W p l e rX8_copy s m args below meth c H locs 0 0 Q (F0 m 30 ls [])) → ∀ (n : Nat) (x1 : Int32) (mZ2 : Mm) (H : Heap) (locs : List Loc) (ls : Array Slot), va_P D vwCl (w_MD C aZ mZ2 mY) H → va_D A (w_MD C aZ mZ2 mY) → va_S A s.heap H locs → lv_has ls 4 [(3, .int x1), (0, .ref (aZ 0)), (1, .int p0), (2, .int p1)] → ffX8_copy_L2 p0 p1 K2 n x1 mZ2 = some (oZ) → W p l e rX8_copy s m args below meth c H locs 0 0 Q (F0 m 2 ls []) := by
    intro K2 hK9 n
    induction n with
    | zero => intro x1 mZ2 H locs ls hP hD hS hl hf; exact kv_no hf
    | succ n ih =>
      intro x1 mZ2 H locs ls hP hD hS hl hf
      rw [ffX8_copy_L2_s] at hf
      refine lv_iload_n hx hb dX8_copy_2 rfl (lv_at hl 0 rfl) ?_
      refine lv_bipush (v := 26) hx hb dX8_copy_3 (by decide) ?_
      refine lv_icmp_ge (tgt := 30) hx hb dX8_copy_5 (by decide) (fun hc => ?_) (fun hc => ?_)
      · have hf := kv_t hc hf
        exact hK9 _ _ _ _ _ hP hD hS (lv_sub hl [0, 1, 2, 3] rfl) hf
      · have hf := kv_f hc hf
        refine lv_aload_n hx hb dX8_copy_8 rfl (lv_at hl 1 rfl) ?_
        refine va_get (D := D) (ci := 8) (v := .ref (aZ 11)) (C := RX8) (T := TX8) (N := 26) hx hb hts iX8 hown hK hP 0 rfl rfl 17 (by decide) q0 (fun _ h9 => h9) rfl dX8_copy_9 ?_
        refine lv_iload_n hx hb dX8_copy_12 rfl (lv_at hl 3 rfl) ?_
        refine lv_iload_n hx hb dX8_copy_13 rfl (lv_at hl 0 rfl) ?_
        refine lv_iadd hx hb dX8_copy_14 ?_
        refine lv_aload_n hx hb dX8_copy_15 rfl (lv_at hl 1 rfl) ?_
        refine va_get (D := D) (ci := 8) (v := .ref (aZ 11)) (C := RX8) (T := TX8) (N := 26) hx hb hts iX8 hown hK hP 0 rfl rfl 17 (by decide) q0 (fun _ h9 => h9) rfl dX8_copy_16 ?_
        refine lv_iload_n hx hb dX8_copy_19 rfl (lv_at hl 2 rfl) ?_
        refine lv_iload_n hx hb dX8_copy_20 rfl (lv_at hl 0 rfl) ?_
        refine lv_iadd hx hb dX8_copy_21 ?_
        obtain ⟨h9, hf⟩ := kv_ix_e hf
        refine va_iald hx hb hK hP 11 1 rfl rfl h9 dX8_copy_22 ?_
        obtain ⟨x3, ex3, hf⟩ := kv_lt_e hf
        refine vv_nami ex3 ?_
        obtain ⟨h9, hf⟩ := kv_ix_e hf
        obtain ⟨mZ4, emZ4, hf⟩ := kv_lt_e hf
        refine va_iast hx hb hK hP hD hS 11 1 rfl rfl h9 dX8_copy_23 (fun H locs hP hD hS => ?_)
        have hP : va_P D vwCl (w_MD C aZ mZ4 mY) H := by rw [emZ4]; exact hP
        have hD : va_D A (w_MD C aZ mZ4 mY) := by rw [emZ4]; exact hD
        obtain ⟨x5, ex5, hf⟩ := kv_lt_e hf
        refine lv_iinc (v := x5) (lv' := [(3, .int x5), (0, .ref (aZ 0)), (1, .int p0), (2, .int p1)]) hx hb dX8_copy_24 hl (k := 0) rfl (by rw [ex5]; rfl) (by decide) rfl (fun ls hl => ?_)
        refine lv_goto (tgt := 2) hx hb dX8_copy_27 (by decide) ?_
        exact ih _ _ _ _ _ hP hD hS (lv_sub hl [0, 1, 2, 3] rfl) hf
  refine L2 _ (fun x6 mZ7 H locs ls hP hD hS hl hf => ?_) _ _ _ _ _ _ hP hD hS (lv_sub hl [0, 1, 2, 3] rfl) hf
  exact hret _ _ _ _ _ hf hP hD hS dX8_copy_30
abbrev rX8_back : Room := { frames := 1, cells := 0, slots := 0, locals := 23 }
set_option maxHeartbeats 4000000 in
set_option maxRecDepth 100000 in
theorem ccX8_back (l : Launch) (D : va_G) (C : Nat → ClassId) (sz : Nat) (aZ : Nat → Nat) (mZ : Mm) (mY : Int64) (p0 : Int32) (rr : Int32) (oZ : Mm) (hf : ffX8_back p0 mZ = some (rr, oZ)) : Met l yX8_back wsX8_back rX8_back (va_Pc [.ref (aZ 0), .int p0] (vv_pre D C (w_MD C aZ mZ mY) sz)) (vv_QI D C (w_MD C aZ mZ mY) (w_MD C aZ oZ mY) sz rr) 0 0 (va_A (w_MD C aZ mZ mY) sz) := by
  unfold ffX8_back at hf
  refine vv_metI (cc := cX8_back) (maxL := 2) (ty := .int) (by decide) rfl (Nat.le_of_ble_eq_true rfl) ?_
  intro p e s m args below meth c A Q H locs ls hx hb hml hown hts hA hK hN hP hD hS hl hret
  have hown : s.vm.findClass RX8 = some m.cls := hown
  have hl : lv_has ls 2 [(0, .ref (aZ 0)), (1, .int p0)] := hl
  have hret : ∀ (v0 : Int32) (v1 : Mm) (H : Heap) (locs : List Loc) (ls : Array Slot) (pc : Nat), some (v0, v1) = some (rr, oZ) → narrow .int (.int v0) = .int v0 → va_P D vwCl (w_MD C aZ v1 mY) H → va_D A (w_MD C aZ v1 mY) → va_S A s.heap H locs → decode cX8_back pc = .ok (.ireturn, 1) → W p l e rX8_back s m args below meth c H locs 0 0 Q (F0 m pc ls [.int v0]) := by
    intro v0 v1 H locs ls pc h0 hn h1 h2 h3 h4
    cases h0
    exact hret H locs ls pc hn h1 h2 h3 h4
  have q0 := hts (.fieldLink RX8 44 "ForeRainModel" "isKept" "[Z") (by decide +kernel)
  have q1 := hts (.fieldLink RX8 41 "ForeRainModel" "now" "[I") (by decide +kernel)
  have iX8 : ∀ w ∈ u_ws RX8 TX8 26, w ∈ wsX8_back := by decide +kernel
  refine lv_iload_n hx hb dX8_back_0 rfl (lv_at hl 1 rfl) ?_
  refine lv_iconst (v := 0) hx hb dX8_back_1 (by decide) ?_
  refine lv_iconst (v := 1) hx hb dX8_back_2 (by decide) ?_
  obtain ⟨r1, hc, hf⟩ := kv_b1_e hf
  have hs9 : vv_Sub D H A ([] : va_W) ([] : va_W) (w_MD C aZ mZ mY) := vv_Sub.none hP hD hS hA
  refine vv_goi (wn := (w_MD C aZ mZ mY)) hK hs9 hS (vv_rS (As := [.int p0, .int 0, .int 1]) (rest := []) hx hb hml hown hts hK hN hS hs9 (ccX8_in l D C H.size p0 (0 : Int32) (1 : Int32) r1 hc) (va_cwS 3 hts gX8_back_X8_in rfl rfl rfl (by decide +kernel) ⟨(Nat.le_of_ble_eq_true rfl), (Nat.le_of_ble_eq_true rfl)⟩) rfl hl.1 rfl (Nat.le_of_ble_eq_true rfl) dX8_back_3 ⟨Nat.zero_le _, Nat.zero_le _⟩) (fun H locs hP hD hS => ?_)
  refine lv_if_ne (tgt := 11) hx hb dX8_back_6 (by decide) (fun hc => ?_) (fun hc => ?_)
  · have hf := kv_f hc hf
    refine lv_aload_n hx hb dX8_back_11 rfl (lv_at hl 0 rfl) ?_
    refine va_get (D := D) (ci := 8) (v := .ref (aZ 12)) (C := RX8) (T := TX8) (N := 26) hx hb hts iX8 hown hK hP 0 rfl rfl 18 (by decide) q0 (fun _ h9 => h9) rfl dX8_back_12 ?_
    refine lv_iload_n hx hb dX8_back_15 rfl (lv_at hl 1 rfl) ?_
    obtain ⟨h9, hf⟩ := kv_ix_e hf
    refine va_zald hx hb hK hP 12 2 rfl rfl h9 dX8_back_16 ?_
    refine lv_if_ne (tgt := 23) hx hb dX8_back_17 (by decide) (fun hc => ?_) (fun hc => ?_)
    · have hf := kv_f hc hf
      refine lv_aload_n hx hb dX8_back_23 rfl (lv_at hl 0 rfl) ?_
      refine lv_bipush (v := 26) hx hb dX8_back_24 (by decide) ?_
      refine lv_iconst (v := 2) hx hb dX8_back_26 (by decide) ?_
      refine lv_iload_n hx hb dX8_back_27 rfl (lv_at hl 1 rfl) ?_
      refine lv_iadd hx hb dX8_back_28 ?_
      refine lv_imul hx hb dX8_back_29 ?_
      refine lv_iconst (v := 0) hx hb dX8_back_30 (by decide) ?_
      obtain ⟨mZ2, hc, hf⟩ := kv_b1_e hf
      have hs9 : vv_Sub D H A (w_MD C aZ mZ mY) (w_MD C aZ mZ2 mY) (w_MD C aZ mZ2 mY) := vv_Sub.same (w_MD C aZ mZ2 mY) hP hD hS hA
      refine vv_gov (wn := (w_MD C aZ mZ2 mY)) hK hs9 hS (vv_rV (As := [.int (26 * (2 + p0)), .int 0]) (rest := []) hx hb hml hown hts hK hN hS hs9 (ccX8_copy l D C H.size aZ mZ mY (26 * (2 + p0)) (0 : Int32) mZ2 hc) (cwV 2 hts gX8_back_X8_copy rfl rfl rfl (by decide +kernel) ⟨(Nat.le_of_ble_eq_true rfl), (Nat.le_of_ble_eq_true rfl)⟩) (va_recv hK hP (ci := 8) (q0 := 0) rfl rfl) rfl hl.1 rfl (Nat.le_of_ble_eq_true rfl) dX8_back_31 ⟨Nat.zero_le _, Nat.zero_le _⟩) (fun H locs hP hD hS => ?_)
      refine lv_aload_n hx hb dX8_back_34 rfl (lv_at hl 0 rfl) ?_
      refine va_get (D := D) (ci := 8) (v := .ref (aZ 11)) (C := RX8) (T := TX8) (N := 26) hx hb hts iX8 hown hK hP 0 rfl rfl 17 (by decide) q1 (fun _ h9 => h9) rfl dX8_back_35 ?_
      refine lv_iconst (v := 0) hx hb dX8_back_38 (by decide) ?_
      obtain ⟨h9, hf⟩ := kv_ix_e hf
      refine va_iald hx hb hK hP 11 1 rfl rfl h9 dX8_back_39 ?_
      exact hret _ _ _ _ _ _ hf rfl hP hD hS dX8_back_40
    · have hf := kv_t hc hf
      refine lv_bipush (v := (-2)) hx hb dX8_back_20 (by decide) ?_
      exact hret _ _ _ _ _ _ hf rfl hP hD hS dX8_back_22
  · have hf := kv_t hc hf
    refine lv_iconst (v := (-1)) hx hb dX8_back_9 (by decide) ?_
    exact hret _ _ _ _ _ _ hf rfl hP hD hS dX8_back_10
abbrev rX8_isPiece : Room := { frames := 1, cells := 0, slots := 0, locals := 22 }
set_option maxHeartbeats 4000000 in
set_option maxRecDepth 100000 in
theorem ccX8_isPiece (l : Launch) (D : va_G) (C : Nat → ClassId) (sz : Nat) (aZ : Nat → Nat) (mZ : Mm) (mY : Int64) (p0 : Int32) (rr : Int32) (hf : ffX8_isPiece p0 mZ = some (rr)) : Met l yX8_isPiece wsX8_isPiece rX8_isPiece (va_Pc [.ref (aZ 0), .int p0] (vv_pre D C (w_MD C aZ mZ mY) sz)) (vv_QI D C (w_MD C aZ mZ mY) (w_MD C aZ mZ mY) sz rr) 0 0 (va_A (w_MD C aZ mZ mY) sz) := by
  unfold ffX8_isPiece at hf
  refine vv_metI (cc := cX8_isPiece) (maxL := 2) (ty := .boolean) (by decide) rfl (Nat.le_of_ble_eq_true rfl) ?_
  intro p e s m args below meth c A Q H locs ls hx hb hml hown hts hA hK hN hP hD hS hl hret
  have hown : s.vm.findClass RX8 = some m.cls := hown
  have hl : lv_has ls 2 [(0, .ref (aZ 0)), (1, .int p0)] := hl
  have hret : ∀ (v0 : Int32) (H : Heap) (locs : List Loc) (ls : Array Slot) (pc : Nat), some (v0) = some (rr) → narrow .boolean (.int v0) = .int v0 → va_P D vwCl (w_MD C aZ mZ mY) H → va_D A (w_MD C aZ mZ mY) → va_S A s.heap H locs → decode cX8_isPiece pc = .ok (.ireturn, 1) → W p l e rX8_isPiece s m args below meth c H locs 0 0 Q (F0 m pc ls [.int v0]) := by
    intro v0 H locs ls pc h0 hn h1 h2 h3 h4
    cases h0
    exact hret H locs ls pc hn h1 h2 h3 h4
  have q0 := hts (.fieldLink RX8 13 "ForeRainModel" "pieces" "[I") (by decide +kernel)
  have iX8 : ∀ w ∈ u_ws RX8 TX8 26, w ∈ wsX8_isPiece := by decide +kernel
  refine lv_iload_n hx hb dX8_isPiece_0 rfl (lv_at hl 1 rfl) ?_
  refine lv_iconst (v := 0) hx hb dX8_isPiece_1 (by decide) ?_
  refine lv_aload_n hx hb dX8_isPiece_2 rfl (lv_at hl 0 rfl) ?_
  refine va_get (D := D) (ci := 8) (v := .ref (aZ 2)) (C := RX8) (T := TX8) (N := 26) hx hb hts iX8 hown hK hP 0 rfl rfl 3 (by decide) q0 (fun _ h9 => h9) rfl dX8_isPiece_3 ?_
  refine lv_iconst (v := 0) hx hb dX8_isPiece_6 (by decide) ?_
  obtain ⟨h9, hf⟩ := kv_ix_e hf
  refine va_iald hx hb hK hP 2 1 rfl rfl h9 dX8_isPiece_7 ?_
  refine lv_iconst (v := 1) hx hb dX8_isPiece_8 (by decide) ?_
  refine lv_isub hx hb dX8_isPiece_9 ?_
  obtain ⟨r1, hc, hf⟩ := kv_b1_e hf
  have hs9 : vv_Sub D H A ([] : va_W) ([] : va_W) (w_MD C aZ mZ mY) := vv_Sub.none hP hD hS hA
  refine vv_goi (wn := (w_MD C aZ mZ mY)) hK hs9 hS (vv_rS (As := [.int p0, .int 0, .int ((mZ 2 (0 : Int32).toNatClampNeg) - 1)]) (rest := []) hx hb hml hown hts hK hN hS hs9 (ccX8_in l D C H.size p0 (0 : Int32) ((mZ 2 (0 : Int32).toNatClampNeg) - 1) r1 hc) (va_cwS 3 hts gX8_isPiece_X8_in rfl rfl rfl (by decide +kernel) ⟨(Nat.le_of_ble_eq_true rfl), (Nat.le_of_ble_eq_true rfl)⟩) rfl hl.1 rfl (Nat.le_of_ble_eq_true rfl) dX8_isPiece_10 ⟨Nat.zero_le _, Nat.zero_le _⟩) (fun H locs hP hD hS => ?_)
  obtain ⟨h9, hf⟩ := kv_bo_e hf
  exact hret _ _ _ _ _ hf h9 hP hD hS dX8_isPiece_13
abbrev rX8_basket : Room := { frames := 2, cells := 0, slots := 0, locals := 43 }
set_option maxHeartbeats 4000000 in
set_option maxRecDepth 100000 in
theorem ccX8_basket (l : Launch) (D : va_G) (C : Nat → ClassId) (sz : Nat) (aZ : Nat → Nat) (mZ : Mm) (mY : Int64) (p0 : Int32) (rr : Int32) (oZ : Mm) (hf : ffX8_basket p0 mZ = some (rr, oZ)) : Met l yX8_basket wsX8_basket rX8_basket (va_Pc [.ref (aZ 0), .int p0] (vv_pre D C (w_MD C aZ mZ mY) sz)) (vv_QI D C (w_MD C aZ mZ mY) (w_MD C aZ oZ mY) sz rr) 0 0 (va_A (w_MD C aZ mZ mY) sz) := by
  unfold ffX8_basket at hf
  refine vv_metI (cc := cX8_basket) (maxL := 2) (ty := .int) (by decide) rfl (Nat.le_of_ble_eq_true rfl) ?_
  intro p e s m args below meth c A Q H locs ls hx hb hml hown hts hA hK hN hP hD hS hl hret
  have hown : s.vm.findClass RX8 = some m.cls := hown
  have hl : lv_has ls 2 [(0, .ref (aZ 0)), (1, .int p0)] := hl
  have hret : ∀ (v0 : Int32) (v1 : Mm) (H : Heap) (locs : List Loc) (ls : Array Slot) (pc : Nat), some (v0, v1) = some (rr, oZ) → narrow .int (.int v0) = .int v0 → va_P D vwCl (w_MD C aZ v1 mY) H → va_D A (w_MD C aZ v1 mY) → va_S A s.heap H locs → decode cX8_basket pc = .ok (.ireturn, 1) → W p l e rX8_basket s m args below meth c H locs 0 0 Q (F0 m pc ls [.int v0]) := by
    intro v0 v1 H locs ls pc h0 hn h1 h2 h3 h4
    cases h0
    exact hret H locs ls pc hn h1 h2 h3 h4
  have q0 := hts (.fieldLink RX8 41 "ForeRainModel" "now" "[I") (by decide +kernel)
  have iX8 : ∀ w ∈ u_ws RX8 TX8 26, w ∈ wsX8_basket := by decide +kernel
  refine lv_aload_n hx hb dX8_basket_0 rfl (lv_at hl 0 rfl) ?_
  refine lv_iload_n hx hb dX8_basket_1 rfl (lv_at hl 1 rfl) ?_
  obtain ⟨r1, hc, hf⟩ := kv_b1_e hf
  have hs9 : vv_Sub D H A (w_MD C aZ mZ mY) (w_MD C aZ mZ mY) (w_MD C aZ mZ mY) := vv_Sub.same (w_MD C aZ mZ mY) hP hD hS hA
  refine vv_goi (wn := (w_MD C aZ mZ mY)) hK hs9 hS (vv_rV (As := [.int p0]) (rest := []) hx hb hml hown hts hK hN hS hs9 (ccX8_isPiece l D C H.size aZ mZ mY p0 r1 hc) (cwV 1 hts gX8_basket_X8_isPiece rfl rfl rfl (by decide +kernel) ⟨(Nat.le_of_ble_eq_true rfl), (Nat.le_of_ble_eq_true rfl)⟩) (va_recv hK hP (ci := 8) (q0 := 0) rfl rfl) rfl hl.1 rfl (Nat.le_of_ble_eq_true rfl) dX8_basket_2 ⟨Nat.zero_le _, Nat.zero_le _⟩) (fun H locs hP hD hS => ?_)
  refine lv_if_ne (tgt := 10) hx hb dX8_basket_5 (by decide) (fun hc => ?_) (fun hc => ?_)
  · have hf := kv_f hc hf
    refine lv_aload_n hx hb dX8_basket_10 rfl (lv_at hl 0 rfl) ?_
    refine va_get (D := D) (ci := 8) (v := .ref (aZ 11)) (C := RX8) (T := TX8) (N := 26) hx hb hts iX8 hown hK hP 0 rfl rfl 17 (by decide) q0 (fun _ h9 => h9) rfl dX8_basket_11 ?_
    refine lv_bipush (v := 20) hx hb dX8_basket_14 (by decide) ?_
    refine lv_iload_n hx hb dX8_basket_16 rfl (lv_at hl 1 rfl) ?_
    refine lv_iadd hx hb dX8_basket_17 ?_
    obtain ⟨h9, hf⟩ := kv_ix_e hf
    refine va_iald hx hb hK hP 11 1 rfl rfl h9 dX8_basket_18 ?_
    refine lv_bipush (v := 9) hx hb dX8_basket_19 (by decide) ?_
    refine lv_icmp_ne (tgt := 27) hx hb dX8_basket_21 (by decide) (fun hc => ?_) (fun hc => ?_)
    · have hf := kv_f hc hf
      refine lv_aload_n hx hb dX8_basket_27 rfl (lv_at hl 0 rfl) ?_
      refine va_get (D := D) (ci := 8) (v := .ref (aZ 11)) (C := RX8) (T := TX8) (N := 26) hx hb hts iX8 hown hK hP 0 rfl rfl 17 (by decide) q0 (fun _ h9 => h9) rfl dX8_basket_28 ?_
      refine lv_bipush (v := 20) hx hb dX8_basket_31 (by decide) ?_
      refine lv_iload_n hx hb dX8_basket_33 rfl (lv_at hl 1 rfl) ?_
      refine lv_iadd hx hb dX8_basket_34 ?_
      refine lv_bipush (v := 9) hx hb dX8_basket_35 (by decide) ?_
      obtain ⟨h9, hf⟩ := kv_ix_e hf
      obtain ⟨mZ2, emZ2, hf⟩ := kv_lt_e hf
      refine va_iast hx hb hK hP hD hS 11 1 rfl rfl h9 dX8_basket_37 (fun H locs hP hD hS => ?_)
      have hP : va_P D vwCl (w_MD C aZ mZ2 mY) H := by rw [emZ2]; exact hP
      have hD : va_D A (w_MD C aZ mZ2 mY) := by rw [emZ2]; exact hD
      refine lv_iconst (v := 1) hx hb dX8_basket_38 (by decide) ?_
      exact hret _ _ _ _ _ _ hf rfl hP hD hS dX8_basket_39
    · have hf := kv_t hc hf
      refine lv_bipush (v := (-2)) hx hb dX8_basket_24 (by decide) ?_
      exact hret _ _ _ _ _ _ hf rfl hP hD hS dX8_basket_26
  · have hf := kv_t hc hf
    refine lv_iconst (v := (-1)) hx hb dX8_basket_8 (by decide) ?_
    exact hret _ _ _ _ _ _ hf rfl hP hD hS dX8_basket_9
abbrev rX8_rightOf : Room := { frames := 0, cells := 0, slots := 0, locals := 0 }
set_option maxHeartbeats 4000000 in
set_option maxRecDepth 100000 in
theorem ccX8_rightOf (l : Launch) (D : va_G) (C : Nat → ClassId) (sz : Nat) (aZ : Nat → Nat) (mZ : Mm) (mY : Int64) (p0 : Int32) (rr : Int32) (hf : ffX8_rightOf p0 mZ = some (rr)) : Met l yX8_rightOf wsX8_rightOf rX8_rightOf (va_Pc [.ref (aZ 0), .int p0] (vv_pre D C (w_MD C aZ mZ mY) sz)) (vv_QI D C (w_MD C aZ mZ mY) (w_MD C aZ mZ mY) sz rr) 0 0 (va_A (w_MD C aZ mZ mY) sz) := by
  unfold ffX8_rightOf at hf
  refine vv_metI (cc := cX8_rightOf) (maxL := 4) (ty := .int) (by decide) rfl (Nat.le_of_ble_eq_true rfl) ?_
  intro p e s m args below meth c A Q H locs ls hx hb hml hown hts hA hK hN hP hD hS hl hret
  have hown : s.vm.findClass RX8 = some m.cls := hown
  have hl : lv_has ls 4 [(0, .ref (aZ 0)), (1, .int p0)] := hl
  have hret : ∀ (v0 : Int32) (H : Heap) (locs : List Loc) (ls : Array Slot) (pc : Nat), some (v0) = some (rr) → narrow .int (.int v0) = .int v0 → va_P D vwCl (w_MD C aZ mZ mY) H → va_D A (w_MD C aZ mZ mY) → va_S A s.heap H locs → decode cX8_rightOf pc = .ok (.ireturn, 1) → W p l e rX8_rightOf s m args below meth c H locs 0 0 Q (F0 m pc ls [.int v0]) := by
    intro v0 H locs ls pc h0 hn h1 h2 h3 h4
    cases h0
    exact hret H locs ls pc hn h1 h2 h3 h4
  have q0 := hts (.fieldLink RX8 174 "ForeRainModel" "days" "I") (by decide +kernel)
  have q1 := hts (.fieldLink RX8 60 "ForeRainModel" "said" "[I") (by decide +kernel)
  have q2 := hts (.fieldLink RX8 63 "ForeRainModel" "came" "[I") (by decide +kernel)
  have iX8 : ∀ w ∈ u_ws RX8 TX8 26, w ∈ wsX8_rightOf := by decide +kernel
  refine lv_iconst (v := 0) hx hb dX8_rightOf_0 (by decide) ?_
  refine lv_istore_n (lv' := [(2, .int 0), (0, .ref (aZ 0)), (1, .int p0)]) hx hb dX8_rightOf_1 rfl hl (by decide) rfl (fun ls hl => ?_)
  refine lv_iconst (v := 0) hx hb dX8_rightOf_2 (by decide) ?_
  refine lv_istore_n (lv' := [(3, .int 0), (2, .int 0), (0, .ref (aZ 0)), (1, .int p0)]) hx hb dX8_rightOf_3 rfl hl (by decide) rfl (fun ls hl => ?_)
  have L4 : ∀ (K4 : Int32 → Int32 → Option (Int32)), (∀ (x1 : Int32) (x2 : Int32) (H : Heap) (locs : List Loc) (ls : Array Slot), va_P D vwCl (w_MD C aZ mZ mY) H → va_D A (w_MD C aZ mZ mY) → va_S A s.heap H locs → lv_has ls 4 [(3, .int x1), (2, .int x2), (0, .ref (aZ 0)), (1, .int p0)] → K4 x1 x2 = some (rr) → W p l e rX8_rightOf s m args below meth c H locs 0 0 Q (F0 m 45 ls [])) → ∀ (n : Nat) (x1 : Int32) (x2 : Int32) (H : Heap) (locs : List Loc) (ls : Array Slot), va_P D vwCl (w_MD C aZ mZ mY) H → va_D A (w_MD C aZ mZ mY) → va_S A s.heap H locs → lv_has ls 4 [(3, .int x1), (2, .int x2), (0, .ref (aZ 0)), (1, .int p0)] → ffX8_rightOf_L4 p0 mZ K4 n x1 x2 = some (rr) → W p l e rX8_rightOf s m args below meth c H locs 0 0 Q (F0 m 4 ls []) := by
    intro K4 hK9 n
    induction n with
    | zero => intro x1 x2 H locs ls hP hD hS hl hf; exact kv_no hf
    | succ n ih =>
      intro x1 x2 H locs ls hP hD hS hl hf
      rw [ffX8_rightOf_L4_s] at hf
      refine lv_iload_n hx hb dX8_rightOf_4 rfl (lv_at hl 0 rfl) ?_
      refine lv_aload_n hx hb dX8_rightOf_5 rfl (lv_at hl 2 rfl) ?_
      refine va_get (D := D) (ci := 8) (v := .int (mZ 0 23)) (C := RX8) (T := TX8) (N := 26) hx hb hts iX8 hown hK hP 0 rfl rfl 23 (by decide) q0 (fun _ h9 => h9) rfl dX8_rightOf_6 ?_
      refine lv_icmp_ge (tgt := 45) hx hb dX8_rightOf_9 (by decide) (fun hc => ?_) (fun hc => ?_)
      · have hf := kv_t hc hf
        exact hK9 _ _ _ _ _ hP hD hS (lv_sub hl [0, 1, 2, 3] rfl) hf
      · have hf := kv_f hc hf
        refine lv_iload_n hx hb dX8_rightOf_12 rfl (lv_at hl 1 rfl) ?_
        refine lv_aload_n hx hb dX8_rightOf_13 rfl (lv_at hl 2 rfl) ?_
        refine va_get (D := D) (ci := 8) (v := .ref (aZ 17)) (C := RX8) (T := TX8) (N := 26) hx hb hts iX8 hown hK hP 0 rfl rfl 24 (by decide) q1 (fun _ h9 => h9) rfl dX8_rightOf_14 ?_
        refine lv_iconst (v := 2) hx hb dX8_rightOf_17 (by decide) ?_
        refine lv_iload_n hx hb dX8_rightOf_18 rfl (lv_at hl 0 rfl) ?_
        refine lv_imul hx hb dX8_rightOf_19 ?_
        refine lv_iload_n hx hb dX8_rightOf_20 rfl (lv_at hl 3 rfl) ?_
        refine lv_iadd hx hb dX8_rightOf_21 ?_
        obtain ⟨h9, hf⟩ := kv_ix_e hf
        refine va_iald hx hb hK hP 17 1 rfl rfl h9 dX8_rightOf_22 ?_
        refine lv_aload_n hx hb dX8_rightOf_23 rfl (lv_at hl 2 rfl) ?_
        refine va_get (D := D) (ci := 8) (v := .ref (aZ 18)) (C := RX8) (T := TX8) (N := 26) hx hb hts iX8 hown hK hP 0 rfl rfl 25 (by decide) q2 (fun _ h9 => h9) rfl dX8_rightOf_24 ?_
        refine lv_iload_n hx hb dX8_rightOf_27 rfl (lv_at hl 0 rfl) ?_
        obtain ⟨h9, hf⟩ := kv_ix_e hf
        refine va_iald hx hb hK hP 18 1 rfl rfl h9 dX8_rightOf_28 ?_
        refine lv_icmp_ne (tgt := 36) hx hb dX8_rightOf_29 (by decide) (fun hc => ?_) (fun hc => ?_)
        · have hf := kv_f hc hf
          refine lv_iconst (v := 0) hx hb dX8_rightOf_36 (by decide) ?_
          refine lv_iadd hx hb dX8_rightOf_37 ?_
          obtain ⟨x3, ex3, hf⟩ := kv_lt_e hf
          refine vv_nami ex3 ?_
          refine lv_istore_n (lv' := [(2, .int x3), (3, .int x1), (0, .ref (aZ 0)), (1, .int p0)]) hx hb dX8_rightOf_38 rfl hl (by decide) rfl (fun ls hl => ?_)
          obtain ⟨x4, ex4, hf⟩ := kv_lt_e hf
          refine lv_iinc (v := x4) (lv' := [(3, .int x4), (2, .int x3), (0, .ref (aZ 0)), (1, .int p0)]) hx hb dX8_rightOf_39 hl (k := 1) rfl (by rw [ex4]; rfl) (by decide) rfl (fun ls hl => ?_)
          refine lv_goto (tgt := 4) hx hb dX8_rightOf_42 (by decide) ?_
          exact ih _ _ _ _ _ hP hD hS (lv_sub hl [0, 1, 2, 3] rfl) hf
        · have hf := kv_t hc hf
          refine lv_iconst (v := 1) hx hb dX8_rightOf_32 (by decide) ?_
          refine lv_goto (tgt := 37) hx hb dX8_rightOf_33 (by decide) ?_
          refine lv_iadd hx hb dX8_rightOf_37 ?_
          obtain ⟨x5, ex5, hf⟩ := kv_lt_e hf
          refine vv_nami ex5 ?_
          refine lv_istore_n (lv' := [(2, .int x5), (3, .int x1), (0, .ref (aZ 0)), (1, .int p0)]) hx hb dX8_rightOf_38 rfl hl (by decide) rfl (fun ls hl => ?_)
          obtain ⟨x6, ex6, hf⟩ := kv_lt_e hf
          refine lv_iinc (v := x6) (lv' := [(3, .int x6), (2, .int x5), (0, .ref (aZ 0)), (1, .int p0)]) hx hb dX8_rightOf_39 hl (k := 1) rfl (by rw [ex6]; rfl) (by decide) rfl (fun ls hl => ?_)
          refine lv_goto (tgt := 4) hx hb dX8_rightOf_42 (by decide) ?_
          exact ih _ _ _ _ _ hP hD hS (lv_sub hl [0, 1, 2, 3] rfl) hf
  refine L4 _ (fun x7 x8 H locs ls hP hD hS hl hf => ?_) _ _ _ _ _ _ hP hD hS (lv_sub hl [0, 1, 2, 3] rfl) hf
  refine lv_iload_n hx hb dX8_rightOf_45 rfl (lv_at hl 1 rfl) ?_
  exact hret _ _ _ _ _ hf rfl hP hD hS dX8_rightOf_46
abbrev rX8_better : Room := { frames := 1, cells := 0, slots := 0, locals := 23 }
set_option maxHeartbeats 4000000 in
set_option maxRecDepth 100000 in
theorem ccX8_better (l : Launch) (D : va_G) (C : Nat → ClassId) (sz : Nat) (aZ : Nat → Nat) (mZ : Mm) (mY : Int64) (rr : Int32) (hf : ffX8_better mZ = some (rr)) : Met l yX8_better wsX8_better rX8_better (va_Pc [.ref (aZ 0)] (vv_pre D C (w_MD C aZ mZ mY) sz)) (vv_QI D C (w_MD C aZ mZ mY) (w_MD C aZ mZ mY) sz rr) 0 0 (va_A (w_MD C aZ mZ mY) sz) := by
  unfold ffX8_better at hf
  refine vv_metI (cc := cX8_better) (maxL := 1) (ty := .int) (by decide) rfl (Nat.le_of_ble_eq_true rfl) ?_
  intro p e s m args below meth c A Q H locs ls hx hb hml hown hts hA hK hN hP hD hS hl hret
  have hown : s.vm.findClass RX8 = some m.cls := hown
  have hl : lv_has ls 1 [(0, .ref (aZ 0))] := hl
  have hret : ∀ (v0 : Int32) (H : Heap) (locs : List Loc) (ls : Array Slot) (pc : Nat), some (v0) = some (rr) → narrow .int (.int v0) = .int v0 → va_P D vwCl (w_MD C aZ mZ mY) H → va_D A (w_MD C aZ mZ mY) → va_S A s.heap H locs → decode cX8_better pc = .ok (.ireturn, 1) → W p l e rX8_better s m args below meth c H locs 0 0 Q (F0 m pc ls [.int v0]) := by
    intro v0 H locs ls pc h0 hn h1 h2 h3 h4
    cases h0
    exact hret H locs ls pc hn h1 h2 h3 h4
  have q0 := hts (.fieldLink RX8 174 "ForeRainModel" "days" "I") (by decide +kernel)
  have iX8 : ∀ w ∈ u_ws RX8 TX8 26, w ∈ wsX8_better := by decide +kernel
  refine lv_aload_n hx hb dX8_better_0 rfl (lv_at hl 0 rfl) ?_
  refine va_get (D := D) (ci := 8) (v := .int (mZ 0 23)) (C := RX8) (T := TX8) (N := 26) hx hb hts iX8 hown hK hP 0 rfl rfl 23 (by decide) q0 (fun _ h9 => h9) rfl dX8_better_1 ?_
  refine lv_if_ne (tgt := 12) hx hb dX8_better_4 (by decide) (fun hc => ?_) (fun hc => ?_)
  · have hf := kv_f hc hf
    refine lv_aload_n hx hb dX8_better_12 rfl (lv_at hl 0 rfl) ?_
    refine lv_iconst (v := 1) hx hb dX8_better_13 (by decide) ?_
    obtain ⟨r1, hc, hf⟩ := kv_b1_e hf
    have hs9 : vv_Sub D H A (w_MD C aZ mZ mY) (w_MD C aZ mZ mY) (w_MD C aZ mZ mY) := vv_Sub.same (w_MD C aZ mZ mY) hP hD hS hA
    refine vv_goi (wn := (w_MD C aZ mZ mY)) hK hs9 hS (vv_rV (As := [.int 1]) (rest := []) hx hb hml hown hts hK hN hS hs9 (ccX8_rightOf l D C H.size aZ mZ mY (1 : Int32) r1 hc) (cwV 1 hts gX8_better_X8_rightOf rfl rfl rfl (by decide +kernel) ⟨(Nat.le_of_ble_eq_true rfl), (Nat.le_of_ble_eq_true rfl)⟩) (va_recv hK hP (ci := 8) (q0 := 0) rfl rfl) rfl hl.1 rfl (Nat.le_of_ble_eq_true rfl) dX8_better_14 ⟨Nat.zero_le _, Nat.zero_le _⟩) (fun H locs hP hD hS => ?_)
    refine lv_aload_n hx hb dX8_better_17 rfl (lv_at hl 0 rfl) ?_
    refine lv_iconst (v := 0) hx hb dX8_better_18 (by decide) ?_
    obtain ⟨r2, hc, hf⟩ := kv_b1_e hf
    have hs9 : vv_Sub D H A (w_MD C aZ mZ mY) (w_MD C aZ mZ mY) (w_MD C aZ mZ mY) := vv_Sub.same (w_MD C aZ mZ mY) hP hD hS hA
    refine vv_goi (wn := (w_MD C aZ mZ mY)) hK hs9 hS (vv_rV (As := [.int 0]) (rest := [.int r1]) hx hb hml hown hts hK hN hS hs9 (ccX8_rightOf l D C H.size aZ mZ mY (0 : Int32) r2 hc) (cwV 1 hts gX8_better_X8_rightOf rfl rfl rfl (by decide +kernel) ⟨(Nat.le_of_ble_eq_true rfl), (Nat.le_of_ble_eq_true rfl)⟩) (va_recv hK hP (ci := 8) (q0 := 0) rfl rfl) rfl hl.1 rfl (Nat.le_of_ble_eq_true rfl) dX8_better_19 ⟨Nat.zero_le _, Nat.zero_le _⟩) (fun H locs hP hD hS => ?_)
    refine lv_icmp_le (tgt := 29) hx hb dX8_better_22 (by decide) (fun hc => ?_) (fun hc => ?_)
    · have hf := kv_t hc hf
      refine lv_iconst (v := 0) hx hb dX8_better_29 (by decide) ?_
      exact hret _ _ _ _ _ hf rfl hP hD hS dX8_better_30
    · have hf := kv_f hc hf
      refine lv_iconst (v := 1) hx hb dX8_better_25 (by decide) ?_
      refine lv_goto (tgt := 30) hx hb dX8_better_26 (by decide) ?_
      exact hret _ _ _ _ _ hf rfl hP hD hS dX8_better_30
  · have hf := kv_t hc hf
    refine lv_bipush (v := (-9)) hx hb dX8_better_7 (by decide) ?_
    refine lv_goto (tgt := 30) hx hb dX8_better_9 (by decide) ?_
    exact hret _ _ _ _ _ hf rfl hP hD hS dX8_better_30
abbrev rX8_bitsIn : Room := { frames := 0, cells := 0, slots := 0, locals := 0 }
set_option maxHeartbeats 4000000 in
set_option maxRecDepth 100000 in
theorem ccX8_bitsIn (l : Launch) (D : va_G) (C : Nat → ClassId) (sz : Nat) (p0 : Int32) (rr : Int32) (hf : ffX8_bitsIn p0 = some (rr)) : Met l yX8_bitsIn wsX8_bitsIn rX8_bitsIn (va_Pc [.int p0] (vv_pre D C ([] : va_W) sz)) (vv_QI D C ([] : va_W) ([] : va_W) sz rr) 0 0 (va_A ([] : va_W) sz) := by
  unfold ffX8_bitsIn at hf
  refine vv_metI (cc := cX8_bitsIn) (maxL := 3) (ty := .int) (by decide) rfl (Nat.le_of_ble_eq_true rfl) ?_
  intro p e s m args below meth c A Q H locs ls hx hb hml hown hts hA hK hN hP hD hS hl hret
  have hown : s.vm.findClass RX8 = some m.cls := hown
  have hl : lv_has ls 3 [(0, .int p0)] := hl
  have hret : ∀ (v0 : Int32) (H : Heap) (locs : List Loc) (ls : Array Slot) (pc : Nat), some (v0) = some (rr) → narrow .int (.int v0) = .int v0 → va_P D vwCl ([] : va_W) H → va_D A ([] : va_W) → va_S A s.heap H locs → decode cX8_bitsIn pc = .ok (.ireturn, 1) → W p l e rX8_bitsIn s m args below meth c H locs 0 0 Q (F0 m pc ls [.int v0]) := by
    intro v0 H locs ls pc h0 hn h1 h2 h3 h4
    cases h0
    exact hret H locs ls pc hn h1 h2 h3 h4
  refine lv_iconst (v := 0) hx hb dX8_bitsIn_0 (by decide) ?_
  refine lv_istore_n (lv' := [(1, .int 0), (0, .int p0)]) hx hb dX8_bitsIn_1 rfl hl (by decide) rfl (fun ls hl => ?_)
  refine lv_iconst (v := 0) hx hb dX8_bitsIn_2 (by decide) ?_
  refine lv_istore_n (lv' := [(2, .int 0), (1, .int 0), (0, .int p0)]) hx hb dX8_bitsIn_3 rfl hl (by decide) rfl (fun ls hl => ?_)
  have L4 : ∀ (K4 : Int32 → Int32 → Option (Int32)), (∀ (x1 : Int32) (x2 : Int32) (H : Heap) (locs : List Loc) (ls : Array Slot), va_P D vwCl ([] : va_W) H → va_D A ([] : va_W) → va_S A s.heap H locs → lv_has ls 3 [(2, .int x1), (1, .int x2), (0, .int p0)] → K4 x1 x2 = some (rr) → W p l e rX8_bitsIn s m args below meth c H locs 0 0 Q (F0 m 24 ls [])) → ∀ (n : Nat) (x1 : Int32) (x2 : Int32) (H : Heap) (locs : List Loc) (ls : Array Slot), va_P D vwCl ([] : va_W) H → va_D A ([] : va_W) → va_S A s.heap H locs → lv_has ls 3 [(2, .int x1), (1, .int x2), (0, .int p0)] → ffX8_bitsIn_L4 p0 K4 n x1 x2 = some (rr) → W p l e rX8_bitsIn s m args below meth c H locs 0 0 Q (F0 m 4 ls []) := by
    intro K4 hK9 n
    induction n with
    | zero => intro x1 x2 H locs ls hP hD hS hl hf; exact kv_no hf
    | succ n ih =>
      intro x1 x2 H locs ls hP hD hS hl hf
      rw [ffX8_bitsIn_L4_s] at hf
      refine lv_iload_n hx hb dX8_bitsIn_4 rfl (lv_at hl 0 rfl) ?_
      refine lv_bipush (v := 6) hx hb dX8_bitsIn_5 (by decide) ?_
      refine lv_icmp_ge (tgt := 24) hx hb dX8_bitsIn_7 (by decide) (fun hc => ?_) (fun hc => ?_)
      · have hf := kv_t hc hf
        exact hK9 _ _ _ _ _ hP hD hS (lv_sub hl [0, 1, 2] rfl) hf
      · have hf := kv_f hc hf
        refine lv_iload_n hx hb dX8_bitsIn_10 rfl (lv_at hl 1 rfl) ?_
        refine lv_iload_n hx hb dX8_bitsIn_11 rfl (lv_at hl 2 rfl) ?_
        refine lv_iload_n hx hb dX8_bitsIn_12 rfl (lv_at hl 0 rfl) ?_
        refine lv_ishr hx hb dX8_bitsIn_13 ?_
        refine lv_iconst (v := 1) hx hb dX8_bitsIn_14 (by decide) ?_
        refine lv_iand hx hb dX8_bitsIn_15 ?_
        refine lv_iadd hx hb dX8_bitsIn_16 ?_
        obtain ⟨x3, ex3, hf⟩ := kv_lt_e hf
        refine vv_nami ex3 ?_
        refine lv_istore_n (lv' := [(1, .int x3), (2, .int x1), (0, .int p0)]) hx hb dX8_bitsIn_17 rfl hl (by decide) rfl (fun ls hl => ?_)
        obtain ⟨x4, ex4, hf⟩ := kv_lt_e hf
        refine lv_iinc (v := x4) (lv' := [(2, .int x4), (1, .int x3), (0, .int p0)]) hx hb dX8_bitsIn_18 hl (k := 1) rfl (by rw [ex4]; rfl) (by decide) rfl (fun ls hl => ?_)
        refine lv_goto (tgt := 4) hx hb dX8_bitsIn_21 (by decide) ?_
        exact ih _ _ _ _ _ hP hD hS (lv_sub hl [0, 1, 2] rfl) hf
  refine L4 _ (fun x5 x6 H locs ls hP hD hS hl hf => ?_) _ _ _ _ _ _ hP hD hS (lv_sub hl [0, 1, 2] rfl) hf
  refine lv_iload_n hx hb dX8_bitsIn_24 rfl (lv_at hl 1 rfl) ?_
  exact hret _ _ _ _ _ hf rfl hP hD hS dX8_bitsIn_25
abbrev rX8_clear : Room := { frames := 0, cells := 0, slots := 0, locals := 0 }
set_option maxHeartbeats 4000000 in
set_option maxRecDepth 100000 in
theorem ccX8_clear (l : Launch) (D : va_G) (C : Nat → ClassId) (sz : Nat) (aZ : Nat → Nat) (mZ : Mm) (mY : Int64) (rr : Int32) (oZ : Mm) (hf : ffX8_clear mZ = some (rr, oZ)) : Met l yX8_clear wsX8_clear rX8_clear (va_Pc [.ref (aZ 0)] (vv_pre D C (w_MD C aZ mZ mY) sz)) (vv_QI D C (w_MD C aZ mZ mY) (w_MD C aZ oZ mY) sz rr) 0 0 (va_A (w_MD C aZ mZ mY) sz) := by
  unfold ffX8_clear at hf
  refine vv_metI (cc := cX8_clear) (maxL := 2) (ty := .int) (by decide) rfl (Nat.le_of_ble_eq_true rfl) ?_
  intro p e s m args below meth c A Q H locs ls hx hb hml hown hts hA hK hN hP hD hS hl hret
  have hown : s.vm.findClass RX8 = some m.cls := hown
  have hl : lv_has ls 2 [(0, .ref (aZ 0))] := hl
  have hret : ∀ (v0 : Int32) (v1 : Mm) (H : Heap) (locs : List Loc) (ls : Array Slot) (pc : Nat), some (v0, v1) = some (rr, oZ) → narrow .int (.int v0) = .int v0 → va_P D vwCl (w_MD C aZ v1 mY) H → va_D A (w_MD C aZ v1 mY) → va_S A s.heap H locs → decode cX8_clear pc = .ok (.ireturn, 1) → W p l e rX8_clear s m args below meth c H locs 0 0 Q (F0 m pc ls [.int v0]) := by
    intro v0 v1 H locs ls pc h0 hn h1 h2 h3 h4
    cases h0
    exact hret H locs ls pc hn h1 h2 h3 h4
  have q0 := hts (.fieldLink RX8 70 "ForeRainModel" "typed" "I") (by decide +kernel)
  have iX8 : ∀ w ∈ u_ws RX8 TX8 26, w ∈ wsX8_clear := by decide +kernel
  refine lv_aload_n hx hb dX8_clear_0 rfl (lv_at hl 0 rfl) ?_
  refine va_get (D := D) (ci := 8) (v := .int (mZ 0 2)) (C := RX8) (T := TX8) (N := 26) hx hb hts iX8 hown hK hP 0 rfl rfl 2 (by decide) q0 (fun _ h9 => h9) rfl dX8_clear_1 ?_
  obtain ⟨x1, ex1, hf⟩ := kv_lt_e hf
  refine vv_nami ex1 ?_
  refine lv_istore_n (lv' := [(1, .int x1), (0, .ref (aZ 0))]) hx hb dX8_clear_4 rfl hl (by decide) rfl (fun ls hl => ?_)
  refine lv_aload_n hx hb dX8_clear_5 rfl (lv_at hl 1 rfl) ?_
  refine lv_iconst (v := 0) hx hb dX8_clear_6 (by decide) ?_
  obtain ⟨mZ2, emZ2, hf⟩ := kv_lt_e hf
  refine va_put (D := D) (ci := 8) (v := .int 0) (ty := .int) (C := RX8) (T := TX8) (N := 26) hx hb hts iX8 tyX8 tyX8_ok nmX8 hown hK hP hD hS 0 rfl rfl 2 (by decide) q0 (fun _ h9 => h9) rfl (tyX8_ok 2 (by decide)) rfl rfl (Nat.le_of_ble_eq_true rfl) dX8_clear_7 (fun H locs hP hD hS => ?_)
  have hP : va_P D vwCl (w_MD C aZ mZ2 mY) H := by rw [emZ2]; exact hP
  have hD : va_D A (w_MD C aZ mZ2 mY) := by rw [emZ2]; exact hD
  refine lv_iload_n hx hb dX8_clear_10 rfl (lv_at hl 0 rfl) ?_
  exact hret _ _ _ _ _ _ hf rfl hP hD hS dX8_clear_11
abbrev rX8_skyAt : Room := { frames := 0, cells := 0, slots := 0, locals := 0 }
set_option maxHeartbeats 4000000 in
set_option maxRecDepth 100000 in
theorem ccX8_skyAt (l : Launch) (D : va_G) (C : Nat → ClassId) (sz : Nat) (aZ : Nat → Nat) (mZ : Mm) (mY : Int64) (p0 : Int32) (rr : Int32) (hf : ffX8_skyAt p0 mZ = some (rr)) : Met l yX8_skyAt wsX8_skyAt rX8_skyAt (va_Pc [.ref (aZ 0), .int p0] (vv_pre D C (w_MD C aZ mZ mY) sz)) (vv_QI D C (w_MD C aZ mZ mY) (w_MD C aZ mZ mY) sz rr) 0 0 (va_A (w_MD C aZ mZ mY) sz) := by
  unfold ffX8_skyAt at hf
  refine vv_metI (cc := cX8_skyAt) (maxL := 2) (ty := .int) (by decide) rfl (Nat.le_of_ble_eq_true rfl) ?_
  intro p e s m args below meth c A Q H locs ls hx hb hml hown hts hA hK hN hP hD hS hl hret
  have hown : s.vm.findClass RX8 = some m.cls := hown
  have hl : lv_has ls 2 [(0, .ref (aZ 0)), (1, .int p0)] := hl
  have hret : ∀ (v0 : Int32) (H : Heap) (locs : List Loc) (ls : Array Slot) (pc : Nat), some (v0) = some (rr) → narrow .int (.int v0) = .int v0 → va_P D vwCl (w_MD C aZ mZ mY) H → va_D A (w_MD C aZ mZ mY) → va_S A s.heap H locs → decode cX8_skyAt pc = .ok (.ireturn, 1) → W p l e rX8_skyAt s m args below meth c H locs 0 0 Q (F0 m pc ls [.int v0]) := by
    intro v0 H locs ls pc h0 hn h1 h2 h3 h4
    cases h0
    exact hret H locs ls pc hn h1 h2 h3 h4
  have q0 := hts (.fieldLink RX8 35 "ForeRainModel" "told" "[I") (by decide +kernel)
  have q1 := hts (.fieldLink RX8 38 "ForeRainModel" "skies" "[I") (by decide +kernel)
  have iX8 : ∀ w ∈ u_ws RX8 TX8 26, w ∈ wsX8_skyAt := by decide +kernel
  refine lv_iload_n hx hb dX8_skyAt_0 rfl (lv_at hl 1 rfl) ?_
  refine lv_aload_n hx hb dX8_skyAt_1 rfl (lv_at hl 0 rfl) ?_
  refine va_get (D := D) (ci := 8) (v := .ref (aZ 9)) (C := RX8) (T := TX8) (N := 26) hx hb hts iX8 hown hK hP 0 rfl rfl 10 (by decide) q0 (fun _ h9 => h9) rfl dX8_skyAt_2 ?_
  refine lv_iconst (v := 0) hx hb dX8_skyAt_5 (by decide) ?_
  obtain ⟨h9, hf⟩ := kv_ix_e hf
  refine va_iald hx hb hK hP 9 1 rfl rfl h9 dX8_skyAt_6 ?_
  refine lv_icmp_ge (tgt := 19) hx hb dX8_skyAt_7 (by decide) (fun hc => ?_) (fun hc => ?_)
  · have hf := kv_t hc hf
    refine lv_iconst (v := 0) hx hb dX8_skyAt_19 (by decide) ?_
    exact hret _ _ _ _ _ hf rfl hP hD hS dX8_skyAt_20
  · have hf := kv_f hc hf
    refine lv_aload_n hx hb dX8_skyAt_10 rfl (lv_at hl 0 rfl) ?_
    refine va_get (D := D) (ci := 8) (v := .ref (aZ 10)) (C := RX8) (T := TX8) (N := 26) hx hb hts iX8 hown hK hP 0 rfl rfl 11 (by decide) q1 (fun _ h9 => h9) rfl dX8_skyAt_11 ?_
    refine lv_iload_n hx hb dX8_skyAt_14 rfl (lv_at hl 1 rfl) ?_
    obtain ⟨h9, hf⟩ := kv_ix_e hf
    refine va_iald hx hb hK hP 10 1 rfl rfl h9 dX8_skyAt_15 ?_
    refine lv_goto (tgt := 20) hx hb dX8_skyAt_16 (by decide) ?_
    exact hret _ _ _ _ _ hf rfl hP hD hS dX8_skyAt_20
abbrev rX8_losesOn : Room := { frames := 0, cells := 0, slots := 0, locals := 0 }
set_option maxHeartbeats 4000000 in
set_option maxRecDepth 100000 in
theorem ccX8_losesOn (l : Launch) (D : va_G) (C : Nat → ClassId) (sz : Nat) (aZ : Nat → Nat) (mZ : Mm) (mY : Int64) (p0 : Int32) (p1 : Int32) (p2 : Int32) (rr : Int32) (hf : ffX8_losesOn p0 p1 p2 mZ = some (rr)) : Met l yX8_losesOn wsX8_losesOn rX8_losesOn (va_Pc [.ref (aZ 0), .int p0, .int p1, .int p2] (vv_pre D C (w_MD C aZ mZ mY) sz)) (vv_QI D C (w_MD C aZ mZ mY) (w_MD C aZ mZ mY) sz rr) 0 0 (va_A (w_MD C aZ mZ mY) sz) := by
  unfold ffX8_losesOn at hf
  refine vv_metI (cc := cX8_losesOn) (maxL := 6) (ty := .int) (by decide) rfl (Nat.le_of_ble_eq_true rfl) ?_
  intro p e s m args below meth c A Q H locs ls hx hb hml hown hts hA hK hN hP hD hS hl hret
  have hown : s.vm.findClass RX8 = some m.cls := hown
  have hl : lv_has ls 6 [(0, .ref (aZ 0)), (1, .int p0), (2, .int p1), (3, .int p2)] := hl
  have hret : ∀ (v0 : Int32) (H : Heap) (locs : List Loc) (ls : Array Slot) (pc : Nat), some (v0) = some (rr) → narrow .int (.int v0) = .int v0 → va_P D vwCl (w_MD C aZ mZ mY) H → va_D A (w_MD C aZ mZ mY) → va_S A s.heap H locs → decode cX8_losesOn pc = .ok (.ireturn, 1) → W p l e rX8_losesOn s m args below meth c H locs 0 0 Q (F0 m pc ls [.int v0]) := by
    intro v0 H locs ls pc h0 hn h1 h2 h3 h4
    cases h0
    exact hret H locs ls pc hn h1 h2 h3 h4
  have q0 := hts (.fieldLink RX8 41 "ForeRainModel" "now" "[I") (by decide +kernel)
  have q1 := hts (.fieldLink RX8 32 "ForeRainModel" "wind" "[I") (by decide +kernel)
  have q2 := hts (.fieldLink RX8 23 "ForeRainModel" "cloth" "[I") (by decide +kernel)
  have q3 := hts (.fieldLink RX8 20 "ForeRainModel" "wide" "[I") (by decide +kernel)
  have q4 := hts (.fieldLink RX8 17 "ForeRainModel" "wet" "[I") (by decide +kernel)
  have iX8 : ∀ w ∈ u_ws RX8 TX8 26, w ∈ wsX8_losesOn := by decide +kernel
  refine lv_aload_n hx hb dX8_losesOn_0 rfl (lv_at hl 0 rfl) ?_
  refine va_get (D := D) (ci := 8) (v := .ref (aZ 11)) (C := RX8) (T := TX8) (N := 26) hx hb hts iX8 hown hK hP 0 rfl rfl 17 (by decide) q0 (fun _ h9 => h9) rfl dX8_losesOn_1 ?_
  refine lv_iload_n hx hb dX8_losesOn_4 rfl (lv_at hl 1 rfl) ?_
  refine lv_iconst (v := 2) hx hb dX8_losesOn_5 (by decide) ?_
  refine lv_iadd hx hb dX8_losesOn_6 ?_
  refine lv_iload_n hx hb dX8_losesOn_7 rfl (lv_at hl 2 rfl) ?_
  refine lv_iadd hx hb dX8_losesOn_8 ?_
  obtain ⟨h9, hf⟩ := kv_ix_e hf
  refine va_iald hx hb hK hP 11 1 rfl rfl h9 dX8_losesOn_9 ?_
  obtain ⟨x1, ex1, hf⟩ := kv_lt_e hf
  refine vv_nami ex1 ?_
  refine lv_istore (lv' := [(4, .int x1), (0, .ref (aZ 0)), (1, .int p0), (2, .int p1), (3, .int p2)]) hx hb dX8_losesOn_10 hl (by decide) rfl (fun ls hl => ?_)
  refine lv_iload_n hx hb dX8_losesOn_12 rfl (lv_at hl 4 rfl) ?_
  refine lv_if_ge (tgt := 61) hx hb dX8_losesOn_13 (by decide) (fun hc => ?_) (fun hc => ?_)
  · have hf := kv_t hc hf
    refine lv_iload_n hx hb dX8_losesOn_61 rfl (lv_at hl 4 rfl) ?_
    refine lv_aload_n hx hb dX8_losesOn_62 rfl (lv_at hl 1 rfl) ?_
    refine va_get (D := D) (ci := 8) (v := .ref (aZ 8)) (C := RX8) (T := TX8) (N := 26) hx hb hts iX8 hown hK hP 0 rfl rfl 9 (by decide) q1 (fun _ h9 => h9) rfl dX8_losesOn_63 ?_
    refine lv_aload_n hx hb dX8_losesOn_66 rfl (lv_at hl 1 rfl) ?_
    refine va_get (D := D) (ci := 8) (v := .ref (aZ 11)) (C := RX8) (T := TX8) (N := 26) hx hb hts iX8 hown hK hP 0 rfl rfl 17 (by decide) q0 (fun _ h9 => h9) rfl dX8_losesOn_67 ?_
    refine lv_iload_n hx hb dX8_losesOn_70 rfl (lv_at hl 2 rfl) ?_
    refine lv_bipush (v := 20) hx hb dX8_losesOn_71 (by decide) ?_
    refine lv_iadd hx hb dX8_losesOn_73 ?_
    refine lv_iload_n hx hb dX8_losesOn_74 rfl (lv_at hl 3 rfl) ?_
    refine lv_iadd hx hb dX8_losesOn_75 ?_
    obtain ⟨h9, hf⟩ := kv_ix_e hf
    refine va_iald hx hb hK hP 11 1 rfl rfl h9 dX8_losesOn_76 ?_
    obtain ⟨h9, hf⟩ := kv_ix_e hf
    refine va_iald hx hb hK hP 8 1 rfl rfl h9 dX8_losesOn_77 ?_
    refine lv_iadd hx hb dX8_losesOn_78 ?_
    refine lv_aload_n hx hb dX8_losesOn_79 rfl (lv_at hl 1 rfl) ?_
    refine va_get (D := D) (ci := 8) (v := .ref (aZ 5)) (C := RX8) (T := TX8) (N := 26) hx hb hts iX8 hown hK hP 0 rfl rfl 6 (by decide) q2 (fun _ h9 => h9) rfl dX8_losesOn_80 ?_
    refine lv_iload_n hx hb dX8_losesOn_83 rfl (lv_at hl 3 rfl) ?_
    obtain ⟨h9, hf⟩ := kv_ix_e hf
    refine va_iald hx hb hK hP 5 1 rfl rfl h9 dX8_losesOn_84 ?_
    refine lv_imul hx hb dX8_losesOn_85 ?_
    refine lv_aload_n hx hb dX8_losesOn_86 rfl (lv_at hl 1 rfl) ?_
    refine va_get (D := D) (ci := 8) (v := .ref (aZ 11)) (C := RX8) (T := TX8) (N := 26) hx hb hts iX8 hown hK hP 0 rfl rfl 17 (by decide) q0 (fun _ h9 => h9) rfl dX8_losesOn_87 ?_
    refine lv_iload_n hx hb dX8_losesOn_90 rfl (lv_at hl 2 rfl) ?_
    refine lv_iconst (v := 1) hx hb dX8_losesOn_91 (by decide) ?_
    refine lv_iadd hx hb dX8_losesOn_92 ?_
    obtain ⟨h9, hf⟩ := kv_ix_e hf
    refine va_iald hx hb hK hP 11 1 rfl rfl h9 dX8_losesOn_93 ?_
    refine lv_isub hx hb dX8_losesOn_94 ?_
    obtain ⟨x2, ex2, hf⟩ := kv_lt_e hf
    refine vv_nami ex2 ?_
    refine lv_istore (lv' := [(5, .int x2), (4, .int x1), (0, .ref (aZ 0)), (1, .int p0), (2, .int p1), (3, .int p2)]) hx hb dX8_losesOn_95 hl (by decide) rfl (fun ls hl => ?_)
    refine lv_iload hx hb dX8_losesOn_97 (lv_at hl 0 rfl) ?_
    refine lv_if_ge (tgt := 106) hx hb dX8_losesOn_99 (by decide) (fun hc => ?_) (fun hc => ?_)
    · have hf := kv_t hc hf
      refine lv_iload hx hb dX8_losesOn_106 (lv_at hl 0 rfl) ?_
      refine lv_iload hx hb dX8_losesOn_108 (lv_at hl 1 rfl) ?_
      refine lv_icmp_le (tgt := 118) hx hb dX8_losesOn_110 (by decide) (fun hc => ?_) (fun hc => ?_)
      · have hf := kv_t hc hf
        refine lv_iload hx hb dX8_losesOn_118 (lv_at hl 0 rfl) ?_
        exact hret _ _ _ _ _ hf rfl hP hD hS dX8_losesOn_120
      · have hf := kv_f hc hf
        refine lv_iload hx hb dX8_losesOn_113 (lv_at hl 1 rfl) ?_
        refine lv_goto (tgt := 120) hx hb dX8_losesOn_115 (by decide) ?_
        exact hret _ _ _ _ _ hf rfl hP hD hS dX8_losesOn_120
    · have hf := kv_f hc hf
      refine lv_iconst (v := 0) hx hb dX8_losesOn_102 (by decide) ?_
      refine lv_goto (tgt := 120) hx hb dX8_losesOn_103 (by decide) ?_
      exact hret _ _ _ _ _ hf rfl hP hD hS dX8_losesOn_120
  · have hf := kv_f hc hf
    refine lv_iload_n hx hb dX8_losesOn_16 rfl (lv_at hl 4 rfl) ?_
    refine lv_ineg hx hb dX8_losesOn_17 ?_
    refine lv_aload_n hx hb dX8_losesOn_18 rfl (lv_at hl 1 rfl) ?_
    refine va_get (D := D) (ci := 8) (v := .ref (aZ 4)) (C := RX8) (T := TX8) (N := 26) hx hb hts iX8 hown hK hP 0 rfl rfl 5 (by decide) q3 (fun _ h9 => h9) rfl dX8_losesOn_19 ?_
    refine lv_iload_n hx hb dX8_losesOn_22 rfl (lv_at hl 3 rfl) ?_
    obtain ⟨h9, hf⟩ := kv_ix_e hf
    refine va_iald hx hb hK hP 4 1 rfl rfl h9 dX8_losesOn_23 ?_
    refine lv_imul hx hb dX8_losesOn_24 ?_
    obtain ⟨x3, ex3, hf⟩ := kv_lt_e hf
    refine vv_nami ex3 ?_
    refine lv_istore (lv' := [(5, .int x3), (4, .int x1), (0, .ref (aZ 0)), (1, .int p0), (2, .int p1), (3, .int p2)]) hx hb dX8_losesOn_25 hl (by decide) rfl (fun ls hl => ?_)
    refine lv_iload hx hb dX8_losesOn_27 (lv_at hl 1 rfl) ?_
    refine lv_iload hx hb dX8_losesOn_29 (lv_at hl 0 rfl) ?_
    refine lv_iadd hx hb dX8_losesOn_31 ?_
    refine lv_iconst (v := 2) hx hb dX8_losesOn_32 (by decide) ?_
    refine lv_aload_n hx hb dX8_losesOn_33 rfl (lv_at hl 2 rfl) ?_
    refine va_get (D := D) (ci := 8) (v := .ref (aZ 3)) (C := RX8) (T := TX8) (N := 26) hx hb hts iX8 hown hK hP 0 rfl rfl 4 (by decide) q4 (fun _ h9 => h9) rfl dX8_losesOn_34 ?_
    refine lv_iload_n hx hb dX8_losesOn_37 rfl (lv_at hl 4 rfl) ?_
    obtain ⟨h9, hf⟩ := kv_ix_e hf
    refine va_iald hx hb hK hP 3 1 rfl rfl h9 dX8_losesOn_38 ?_
    refine lv_imul hx hb dX8_losesOn_39 ?_
    refine lv_icmp_le (tgt := 57) hx hb dX8_losesOn_40 (by decide) (fun hc => ?_) (fun hc => ?_)
    · have hf := kv_t hc hf
      refine lv_iload hx hb dX8_losesOn_57 (lv_at hl 0 rfl) ?_
      refine lv_ineg hx hb dX8_losesOn_59 ?_
      exact hret _ _ _ _ _ hf rfl hP hD hS dX8_losesOn_60
    · have hf := kv_f hc hf
      refine lv_iload hx hb dX8_losesOn_43 (lv_at hl 1 rfl) ?_
      refine lv_iconst (v := 2) hx hb dX8_losesOn_45 (by decide) ?_
      refine lv_aload_n hx hb dX8_losesOn_46 rfl (lv_at hl 2 rfl) ?_
      refine va_get (D := D) (ci := 8) (v := .ref (aZ 3)) (C := RX8) (T := TX8) (N := 26) hx hb hts iX8 hown hK hP 0 rfl rfl 4 (by decide) q4 (fun _ h9 => h9) rfl dX8_losesOn_47 ?_
      refine lv_iload_n hx hb dX8_losesOn_50 rfl (lv_at hl 4 rfl) ?_
      obtain ⟨h9, hf⟩ := kv_ix_e hf
      refine va_iald hx hb hK hP 3 1 rfl rfl h9 dX8_losesOn_51 ?_
      refine lv_imul hx hb dX8_losesOn_52 ?_
      refine lv_isub hx hb dX8_losesOn_53 ?_
      refine lv_goto (tgt := 60) hx hb dX8_losesOn_54 (by decide) ?_
      exact hret _ _ _ _ _ hf rfl hP hD hS dX8_losesOn_60
abbrev rX8_goStep : Room := { frames := 1, cells := 0, slots := 0, locals := 25 }
set_option maxHeartbeats 4000000 in
set_option maxRecDepth 100000 in
theorem ccX8_goStep (l : Launch) (D : va_G) (C : Nat → ClassId) (sz : Nat) (aZ : Nat → Nat) (mZ : Mm) (mY : Int64) (p0 : Int32) (rr : Int32) (oZ : Mm) (hf : ffX8_goStep p0 mZ = some (rr, oZ)) : Met l yX8_goStep wsX8_goStep rX8_goStep (va_Pc [.ref (aZ 0), .int p0] (vv_pre D C (w_MD C aZ mZ mY) sz)) (vv_QI D C (w_MD C aZ mZ mY) (w_MD C aZ oZ mY) sz rr) 0 0 (va_A (w_MD C aZ mZ mY) sz) := by
  unfold ffX8_goStep at hf
  refine vv_metI (cc := cX8_goStep) (maxL := 7) (ty := .int) (by decide) rfl (Nat.le_of_ble_eq_true rfl) ?_
  intro p e s m args below meth c A Q H locs ls hx hb hml hown hts hA hK hN hP hD hS hl hret
  have hown : s.vm.findClass RX8 = some m.cls := hown
  have hl : lv_has ls 7 [(0, .ref (aZ 0)), (1, .int p0)] := hl
  have hret : ∀ (v0 : Int32) (v1 : Mm) (H : Heap) (locs : List Loc) (ls : Array Slot) (pc : Nat), some (v0, v1) = some (rr, oZ) → narrow .int (.int v0) = .int v0 → va_P D vwCl (w_MD C aZ v1 mY) H → va_D A (w_MD C aZ v1 mY) → va_S A s.heap H locs → decode cX8_goStep pc = .ok (.ireturn, 1) → W p l e rX8_goStep s m args below meth c H locs 0 0 Q (F0 m pc ls [.int v0]) := by
    intro v0 v1 H locs ls pc h0 hn h1 h2 h3 h4
    cases h0
    exact hret H locs ls pc hn h1 h2 h3 h4
  have q0 := hts (.fieldLink RX8 41 "ForeRainModel" "now" "[I") (by decide +kernel)
  have q1 := hts (.fieldLink RX8 13 "ForeRainModel" "pieces" "[I") (by decide +kernel)
  have iX8 : ∀ w ∈ u_ws RX8 TX8 26, w ∈ wsX8_goStep := by decide +kernel
  refine lv_aload_n hx hb dX8_goStep_0 rfl (lv_at hl 0 rfl) ?_
  refine lv_aload_n hx hb dX8_goStep_1 rfl (lv_at hl 0 rfl) ?_
  refine va_get (D := D) (ci := 8) (v := .ref (aZ 11)) (C := RX8) (T := TX8) (N := 26) hx hb hts iX8 hown hK hP 0 rfl rfl 17 (by decide) q0 (fun _ h9 => h9) rfl dX8_goStep_2 ?_
  refine lv_iload_n hx hb dX8_goStep_5 rfl (lv_at hl 1 rfl) ?_
  refine lv_iconst (v := 0) hx hb dX8_goStep_6 (by decide) ?_
  refine lv_iadd hx hb dX8_goStep_7 ?_
  obtain ⟨h9, hf⟩ := kv_ix_e hf
  refine va_iald hx hb hK hP 11 1 rfl rfl h9 dX8_goStep_8 ?_
  obtain ⟨r1, hc, hf⟩ := kv_b1_e hf
  have hs9 : vv_Sub D H A (w_MD C aZ mZ mY) (w_MD C aZ mZ mY) (w_MD C aZ mZ mY) := vv_Sub.same (w_MD C aZ mZ mY) hP hD hS hA
  refine vv_goi (wn := (w_MD C aZ mZ mY)) hK hs9 hS (vv_rV (As := [.int (mZ 11 (p0 + 0).toNatClampNeg)]) (rest := []) hx hb hml hown hts hK hN hS hs9 (ccX8_skyAt l D C H.size aZ mZ mY (mZ 11 (p0 + 0).toNatClampNeg) r1 hc) (cwV 1 hts gX8_goStep_X8_skyAt rfl rfl rfl (by decide +kernel) ⟨(Nat.le_of_ble_eq_true rfl), (Nat.le_of_ble_eq_true rfl)⟩) (va_recv hK hP (ci := 8) (q0 := 0) rfl rfl) rfl hl.1 rfl (Nat.le_of_ble_eq_true rfl) dX8_goStep_9 ⟨Nat.zero_le _, Nat.zero_le _⟩) (fun H locs hP hD hS => ?_)
  refine lv_istore_n (lv' := [(2, .int r1), (0, .ref (aZ 0)), (1, .int p0)]) hx hb dX8_goStep_12 rfl hl (by decide) rfl (fun ls hl => ?_)
  refine lv_iconst (v := 0) hx hb dX8_goStep_13 (by decide) ?_
  refine lv_istore_n (lv' := [(3, .int 0), (2, .int r1), (0, .ref (aZ 0)), (1, .int p0)]) hx hb dX8_goStep_14 rfl hl (by decide) rfl (fun ls hl => ?_)
  refine lv_iconst (v := 0) hx hb dX8_goStep_15 (by decide) ?_
  refine lv_istore (lv' := [(4, .int 0), (3, .int 0), (2, .int r1), (0, .ref (aZ 0)), (1, .int p0)]) hx hb dX8_goStep_16 hl (by decide) rfl (fun ls hl => ?_)
  have L18 : ∀ (K18 : Int32 → Int32 → Mm → Option (Int32 × Mm)), (∀ (x2 : Int32) (x3 : Int32) (mZ4 : Mm) (H : Heap) (locs : List Loc) (ls : Array Slot), va_P D vwCl (w_MD C aZ mZ4 mY) H → va_D A (w_MD C aZ mZ4 mY) → va_S A s.heap H locs → lv_has ls 7 [(4, .int x2), (3, .int x3), (2, .int r1), (0, .ref (aZ 0)), (1, .int p0)] → K18 x2 x3 mZ4 = some (rr, oZ) → W p l e rX8_goStep s m args below meth c H locs 0 0 Q (F0 m 135 ls [])) → ∀ (n : Nat) (x2 : Int32) (x3 : Int32) (mZ4 : Mm) (H : Heap) (locs : List Loc) (ls : Array Slot), va_P D vwCl (w_MD C aZ mZ4 mY) H → va_D A (w_MD C aZ mZ4 mY) → va_S A s.heap H locs → lv_has ls 7 [(4, .int x2), (3, .int x3), (2, .int r1), (0, .ref (aZ 0)), (1, .int p0)] → ffX8_goStep_L18 p0 r1 K18 n x2 x3 mZ4 = some (rr, oZ) → W p l e rX8_goStep s m args below meth c H locs 0 0 Q (F0 m 18 ls []) := by
    intro K18 hK9 n
    induction n with
    | zero => intro x2 x3 mZ4 H locs ls hP hD hS hl hf; exact kv_no hf
    | succ n ih =>
      intro x2 x3 mZ4 H locs ls hP hD hS hl hf
      rw [ffX8_goStep_L18_s] at hf
      refine lv_iload hx hb dX8_goStep_18 (lv_at hl 0 rfl) ?_
      refine lv_aload_n hx hb dX8_goStep_20 rfl (lv_at hl 3 rfl) ?_
      refine va_get (D := D) (ci := 8) (v := .ref (aZ 2)) (C := RX8) (T := TX8) (N := 26) hx hb hts iX8 hown hK hP 0 rfl rfl 3 (by decide) q1 (fun _ h9 => h9) rfl dX8_goStep_21 ?_
      refine lv_iconst (v := 0) hx hb dX8_goStep_24 (by decide) ?_
      obtain ⟨h9, hf⟩ := kv_ix_e hf
      refine va_iald hx hb hK hP 2 1 rfl rfl h9 dX8_goStep_25 ?_
      refine lv_icmp_ge (tgt := 135) hx hb dX8_goStep_26 (by decide) (fun hc => ?_) (fun hc => ?_)
      · have hf := kv_t hc hf
        exact hK9 _ _ _ _ _ _ hP hD hS (lv_sub hl [0, 1, 2, 3, 4] rfl) hf
      · have hf := kv_f hc hf
        refine lv_aload_n hx hb dX8_goStep_29 rfl (lv_at hl 3 rfl) ?_
        refine va_get (D := D) (ci := 8) (v := .ref (aZ 11)) (C := RX8) (T := TX8) (N := 26) hx hb hts iX8 hown hK hP 0 rfl rfl 17 (by decide) q0 (fun _ h9 => h9) rfl dX8_goStep_30 ?_
        refine lv_iload_n hx hb dX8_goStep_33 rfl (lv_at hl 4 rfl) ?_
        refine lv_bipush (v := 20) hx hb dX8_goStep_34 (by decide) ?_
        refine lv_iadd hx hb dX8_goStep_36 ?_
        refine lv_iload hx hb dX8_goStep_37 (lv_at hl 0 rfl) ?_
        refine lv_iadd hx hb dX8_goStep_39 ?_
        obtain ⟨h9, hf⟩ := kv_ix_e hf
        refine va_iald hx hb hK hP 11 1 rfl rfl h9 dX8_goStep_40 ?_
        obtain ⟨x5, ex5, hf⟩ := kv_lt_e hf
        refine vv_nami ex5 ?_
        refine lv_istore (lv' := [(5, .int x5), (4, .int x2), (3, .int x3), (2, .int r1), (0, .ref (aZ 0)), (1, .int p0)]) hx hb dX8_goStep_41 hl (by decide) rfl (fun ls hl => ?_)
        refine lv_iload hx hb dX8_goStep_43 (lv_at hl 0 rfl) ?_
        refine lv_bipush (v := 8) hx hb dX8_goStep_45 (by decide) ?_
        refine lv_icmp_ge (tgt := 93) hx hb dX8_goStep_47 (by decide) (fun hc => ?_) (fun hc => ?_)
        · have hf := kv_t hc hf
          refine lv_iload hx hb dX8_goStep_93 (lv_at hl 0 rfl) ?_
          refine lv_bipush (v := 8) hx hb dX8_goStep_95 (by decide) ?_
          refine lv_icmp_ne (tgt := 129) hx hb dX8_goStep_97 (by decide) (fun hc => ?_) (fun hc => ?_)
          · have hf := kv_f hc hf
            obtain ⟨x6, ex6, hf⟩ := kv_lt_e hf
            refine lv_iinc (v := x6) (lv' := [(4, .int x6), (5, .int x5), (3, .int x3), (2, .int r1), (0, .ref (aZ 0)), (1, .int p0)]) hx hb dX8_goStep_129 hl (k := 1) rfl (by rw [ex6]; rfl) (by decide) rfl (fun ls hl => ?_)
            refine lv_goto (tgt := 18) hx hb dX8_goStep_132 (by decide) ?_
            exact ih _ _ _ _ _ _ hP hD hS (lv_sub hl [0, 2, 3, 4, 5] rfl) hf
          · have hf := kv_t hc hf
            refine lv_aload_n hx hb dX8_goStep_100 rfl (lv_at hl 4 rfl) ?_
            refine va_get (D := D) (ci := 8) (v := .ref (aZ 11)) (C := RX8) (T := TX8) (N := 26) hx hb hts iX8 hown hK hP 0 rfl rfl 17 (by decide) q0 (fun _ h9 => h9) rfl dX8_goStep_101 ?_
            refine lv_iload_n hx hb dX8_goStep_104 rfl (lv_at hl 5 rfl) ?_
            refine lv_iconst (v := 2) hx hb dX8_goStep_105 (by decide) ?_
            refine lv_iadd hx hb dX8_goStep_106 ?_
            refine lv_iload hx hb dX8_goStep_107 (lv_at hl 1 rfl) ?_
            refine lv_iadd hx hb dX8_goStep_109 ?_
            obtain ⟨h9, hf⟩ := kv_ix_e hf
            refine va_iald hx hb hK hP 11 1 rfl rfl h9 dX8_goStep_110 ?_
            refine lv_if_le (tgt := 129) hx hb dX8_goStep_111 (by decide) (fun hc => ?_) (fun hc => ?_)
            · have hf := kv_t hc hf
              obtain ⟨x7, ex7, hf⟩ := kv_lt_e hf
              refine lv_iinc (v := x7) (lv' := [(4, .int x7), (5, .int x5), (3, .int x3), (2, .int r1), (0, .ref (aZ 0)), (1, .int p0)]) hx hb dX8_goStep_129 hl (k := 1) rfl (by rw [ex7]; rfl) (by decide) rfl (fun ls hl => ?_)
              refine lv_goto (tgt := 18) hx hb dX8_goStep_132 (by decide) ?_
              exact ih _ _ _ _ _ _ hP hD hS (lv_sub hl [0, 2, 3, 4, 5] rfl) hf
            · have hf := kv_f hc hf
              refine lv_aload_n hx hb dX8_goStep_114 rfl (lv_at hl 4 rfl) ?_
              refine va_get (D := D) (ci := 8) (v := .ref (aZ 11)) (C := RX8) (T := TX8) (N := 26) hx hb hts iX8 hown hK hP 0 rfl rfl 17 (by decide) q0 (fun _ h9 => h9) rfl dX8_goStep_115 ?_
              refine lv_iload_n hx hb dX8_goStep_118 rfl (lv_at hl 5 rfl) ?_
              refine lv_iconst (v := 2) hx hb dX8_goStep_119 (by decide) ?_
              refine lv_iadd hx hb dX8_goStep_120 ?_
              refine lv_iload hx hb dX8_goStep_121 (lv_at hl 1 rfl) ?_
              refine lv_iadd hx hb dX8_goStep_123 ?_
              refine lv_dup2_11 hx hb dX8_goStep_124 rfl rfl ?_
              obtain ⟨h9, hf⟩ := kv_ix_e hf
              refine va_iald hx hb hK hP 11 1 rfl rfl h9 dX8_goStep_125 ?_
              refine lv_iconst (v := 1) hx hb dX8_goStep_126 (by decide) ?_
              refine lv_isub hx hb dX8_goStep_127 ?_
              obtain ⟨x8, ex8, hf⟩ := kv_lt_e hf
              refine vv_nami ex8 ?_
              obtain ⟨h9, hf⟩ := kv_ix_e hf
              obtain ⟨mZ9, emZ9, hf⟩ := kv_lt_e hf
              refine va_iast hx hb hK hP hD hS 11 1 rfl rfl h9 dX8_goStep_128 (fun H locs hP hD hS => ?_)
              have hP : va_P D vwCl (w_MD C aZ mZ9 mY) H := by rw [emZ9]; exact hP
              have hD : va_D A (w_MD C aZ mZ9 mY) := by rw [emZ9]; exact hD
              obtain ⟨x10, ex10, hf⟩ := kv_lt_e hf
              refine lv_iinc (v := x10) (lv' := [(4, .int x10), (5, .int x5), (3, .int x3), (2, .int r1), (0, .ref (aZ 0)), (1, .int p0)]) hx hb dX8_goStep_129 hl (k := 1) rfl (by rw [ex10]; rfl) (by decide) rfl (fun ls hl => ?_)
              refine lv_goto (tgt := 18) hx hb dX8_goStep_132 (by decide) ?_
              exact ih _ _ _ _ _ _ hP hD hS (lv_sub hl [0, 2, 3, 4, 5] rfl) hf
        · have hf := kv_f hc hf
          refine lv_aload_n hx hb dX8_goStep_50 rfl (lv_at hl 4 rfl) ?_
          refine lv_iload_n hx hb dX8_goStep_51 rfl (lv_at hl 5 rfl) ?_
          refine lv_iload hx hb dX8_goStep_52 (lv_at hl 1 rfl) ?_
          refine lv_iload_n hx hb dX8_goStep_54 rfl (lv_at hl 3 rfl) ?_
          obtain ⟨r11, hc, hf⟩ := kv_b1_e hf
          have hs9 : vv_Sub D H A (w_MD C aZ mZ4 mY) (w_MD C aZ mZ4 mY) (w_MD C aZ mZ4 mY) := vv_Sub.same (w_MD C aZ mZ4 mY) hP hD hS hA
          refine vv_goi (wn := (w_MD C aZ mZ4 mY)) hK hs9 hS (vv_rV (As := [.int p0, .int x2, .int r1]) (rest := []) hx hb hml hown hts hK hN hS hs9 (ccX8_losesOn l D C H.size aZ mZ4 mY p0 x2 r1 r11 hc) (cwV 3 hts gX8_goStep_X8_losesOn rfl rfl rfl (by decide +kernel) ⟨(Nat.le_of_ble_eq_true rfl), (Nat.le_of_ble_eq_true rfl)⟩) (va_recv hK hP (ci := 8) (q0 := 0) rfl rfl) rfl hl.1 rfl (Nat.le_of_ble_eq_true rfl) dX8_goStep_55 ⟨Nat.zero_le _, Nat.zero_le _⟩) (fun H locs hP hD hS => ?_)
          refine lv_istore (lv' := [(6, .int r11), (5, .int x5), (4, .int x2), (3, .int x3), (2, .int r1), (0, .ref (aZ 0)), (1, .int p0)]) hx hb dX8_goStep_58 hl (by decide) rfl (fun ls hl => ?_)
          refine lv_aload_n hx hb dX8_goStep_60 rfl (lv_at hl 5 rfl) ?_
          refine va_get (D := D) (ci := 8) (v := .ref (aZ 11)) (C := RX8) (T := TX8) (N := 26) hx hb hts iX8 hown hK hP 0 rfl rfl 17 (by decide) q0 (fun _ h9 => h9) rfl dX8_goStep_61 ?_
          refine lv_iload_n hx hb dX8_goStep_64 rfl (lv_at hl 6 rfl) ?_
          refine lv_iconst (v := 2) hx hb dX8_goStep_65 (by decide) ?_
          refine lv_iadd hx hb dX8_goStep_66 ?_
          refine lv_iload hx hb dX8_goStep_67 (lv_at hl 2 rfl) ?_
          refine lv_iadd hx hb dX8_goStep_69 ?_
          refine lv_dup2_11 hx hb dX8_goStep_70 rfl rfl ?_
          obtain ⟨h9, hf⟩ := kv_ix_e hf
          refine va_iald hx hb hK hP 11 1 rfl rfl h9 dX8_goStep_71 ?_
          refine lv_iload hx hb dX8_goStep_72 (lv_at hl 0 rfl) ?_
          refine lv_isub hx hb dX8_goStep_74 ?_
          obtain ⟨x12, ex12, hf⟩ := kv_lt_e hf
          refine vv_nami ex12 ?_
          obtain ⟨h9, hf⟩ := kv_ix_e hf
          obtain ⟨mZ13, emZ13, hf⟩ := kv_lt_e hf
          refine va_iast hx hb hK hP hD hS 11 1 rfl rfl h9 dX8_goStep_75 (fun H locs hP hD hS => ?_)
          have hP : va_P D vwCl (w_MD C aZ mZ13 mY) H := by rw [emZ13]; exact hP
          have hD : va_D A (w_MD C aZ mZ13 mY) := by rw [emZ13]; exact hD
          refine lv_iload_n hx hb dX8_goStep_76 rfl (lv_at hl 3 rfl) ?_
          refine lv_iload hx hb dX8_goStep_77 (lv_at hl 0 rfl) ?_
          obtain ⟨k88_14, ek88_14, hf⟩ := kv_lt_e hf
          have J88_14 : ∀ (x15 : Int32) (H : Heap) (locs : List Loc) (ls : Array Slot), va_P D vwCl (w_MD C aZ mZ13 mY) H → va_D A (w_MD C aZ mZ13 mY) → va_S A s.heap H locs → lv_has ls 7 [(4, .int x2), (2, .int r1), (0, .ref (aZ 0)), (1, .int p0)] → k88_14 x15 = some (rr, oZ) → W p l e rX8_goStep s m args below meth c H locs 0 0 Q (F0 m 88 ls [.int x15, .int x3]) := by
            intro x15 H locs ls hP hD hS hl hf
            rw [ek88_14] at hf
            refine lv_iadd hx hb dX8_goStep_88 ?_
            obtain ⟨x16, ex16, hf⟩ := kv_lt_e hf
            refine vv_nami ex16 ?_
            refine lv_istore_n (lv' := [(3, .int x16), (4, .int x2), (2, .int r1), (0, .ref (aZ 0)), (1, .int p0)]) hx hb dX8_goStep_89 rfl hl (by decide) rfl (fun ls hl => ?_)
            refine lv_goto (tgt := 129) hx hb dX8_goStep_90 (by decide) ?_
            obtain ⟨x17, ex17, hf⟩ := kv_lt_e hf
            refine lv_iinc (v := x17) (lv' := [(4, .int x17), (3, .int x16), (2, .int r1), (0, .ref (aZ 0)), (1, .int p0)]) hx hb dX8_goStep_129 hl (k := 1) rfl (by rw [ex17]; rfl) (by decide) rfl (fun ls hl => ?_)
            refine lv_goto (tgt := 18) hx hb dX8_goStep_132 (by decide) ?_
            exact ih _ _ _ _ _ _ hP hD hS (lv_sub hl [0, 1, 2, 3, 4] rfl) hf
          refine lv_if_le (tgt := 87) hx hb dX8_goStep_79 (by decide) (fun hc => ?_) (fun hc => ?_)
          · have hf := kv_t hc hf
            refine lv_iconst (v := 0) hx hb dX8_goStep_87 (by decide) ?_
            exact J88_14 _ _ _ _ hP hD hS (lv_sub hl [2, 4, 5, 6] rfl) hf
          · have hf := kv_f hc hf
            refine lv_iload hx hb dX8_goStep_82 (lv_at hl 0 rfl) ?_
            refine lv_goto (tgt := 88) hx hb dX8_goStep_84 (by decide) ?_
            exact J88_14 _ _ _ _ hP hD hS (lv_sub hl [2, 4, 5, 6] rfl) hf
  refine L18 _ (fun x18 x19 mZ20 H locs ls hP hD hS hl hf => ?_) _ _ _ _ _ _ _ hP hD hS (lv_sub hl [0, 1, 2, 3, 4] rfl) hf
  refine lv_aload_n hx hb dX8_goStep_135 rfl (lv_at hl 3 rfl) ?_
  refine va_get (D := D) (ci := 8) (v := .ref (aZ 11)) (C := RX8) (T := TX8) (N := 26) hx hb hts iX8 hown hK hP 0 rfl rfl 17 (by decide) q0 (fun _ h9 => h9) rfl dX8_goStep_136 ?_
  refine lv_iload_n hx hb dX8_goStep_139 rfl (lv_at hl 4 rfl) ?_
  refine lv_iconst (v := 1) hx hb dX8_goStep_140 (by decide) ?_
  refine lv_iadd hx hb dX8_goStep_141 ?_
  refine lv_aload_n hx hb dX8_goStep_142 rfl (lv_at hl 3 rfl) ?_
  refine va_get (D := D) (ci := 8) (v := .ref (aZ 11)) (C := RX8) (T := TX8) (N := 26) hx hb hts iX8 hown hK hP 0 rfl rfl 17 (by decide) q0 (fun _ h9 => h9) rfl dX8_goStep_143 ?_
  refine lv_iload_n hx hb dX8_goStep_146 rfl (lv_at hl 4 rfl) ?_
  refine lv_iconst (v := 1) hx hb dX8_goStep_147 (by decide) ?_
  refine lv_iadd hx hb dX8_goStep_148 ?_
  obtain ⟨h9, hf⟩ := kv_ix_e hf
  refine va_iald hx hb hK hP 11 1 rfl rfl h9 dX8_goStep_149 ?_
  refine lv_iconst (v := 2) hx hb dX8_goStep_150 (by decide) ?_
  refine lv_idiv hx hb dX8_goStep_151 (by decide) ?_
  refine lv_iload_n hx hb dX8_goStep_152 rfl (lv_at hl 1 rfl) ?_
  refine lv_bipush (v := 8) hx hb dX8_goStep_153 (by decide) ?_
  refine lv_idiv hx hb dX8_goStep_155 (by decide) ?_
  refine lv_iadd hx hb dX8_goStep_156 ?_
  obtain ⟨x21, ex21, hf⟩ := kv_lt_e hf
  refine vv_nami ex21 ?_
  obtain ⟨h9, hf⟩ := kv_ix_e hf
  obtain ⟨mZ22, emZ22, hf⟩ := kv_lt_e hf
  refine va_iast hx hb hK hP hD hS 11 1 rfl rfl h9 dX8_goStep_157 (fun H locs hP hD hS => ?_)
  have hP : va_P D vwCl (w_MD C aZ mZ22 mY) H := by rw [emZ22]; exact hP
  have hD : va_D A (w_MD C aZ mZ22 mY) := by rw [emZ22]; exact hD
  refine lv_iconst (v := 0) hx hb dX8_goStep_158 (by decide) ?_
  refine lv_istore (lv' := [(4, .int 0), (3, .int x19), (2, .int r1), (0, .ref (aZ 0)), (1, .int p0)]) hx hb dX8_goStep_159 hl (by decide) rfl (fun ls hl => ?_)
  have L161 : ∀ (K161 : Int32 → Mm → Option (Int32 × Mm)), (∀ (x23 : Int32) (mZ24 : Mm) (H : Heap) (locs : List Loc) (ls : Array Slot), va_P D vwCl (w_MD C aZ mZ24 mY) H → va_D A (w_MD C aZ mZ24 mY) → va_S A s.heap H locs → lv_has ls 7 [(4, .int x23), (3, .int x19), (0, .ref (aZ 0)), (1, .int p0)] → K161 x23 mZ24 = some (rr, oZ) → W p l e rX8_goStep s m args below meth c H locs 0 0 Q (F0 m 267 ls [])) → ∀ (n : Nat) (x23 : Int32) (mZ24 : Mm) (H : Heap) (locs : List Loc) (ls : Array Slot), va_P D vwCl (w_MD C aZ mZ24 mY) H → va_D A (w_MD C aZ mZ24 mY) → va_S A s.heap H locs → lv_has ls 7 [(4, .int x23), (3, .int x19), (0, .ref (aZ 0)), (1, .int p0)] → ffX8_goStep_L161 p0 K161 n x23 mZ24 = some (rr, oZ) → W p l e rX8_goStep s m args below meth c H locs 0 0 Q (F0 m 161 ls []) := by
    intro K161 hK9 n
    induction n with
    | zero => intro x23 mZ24 H locs ls hP hD hS hl hf; exact kv_no hf
    | succ n ih =>
      intro x23 mZ24 H locs ls hP hD hS hl hf
      rw [ffX8_goStep_L161_s] at hf
      refine lv_iload hx hb dX8_goStep_161 (lv_at hl 0 rfl) ?_
      refine lv_aload_n hx hb dX8_goStep_163 rfl (lv_at hl 2 rfl) ?_
      refine va_get (D := D) (ci := 8) (v := .ref (aZ 2)) (C := RX8) (T := TX8) (N := 26) hx hb hts iX8 hown hK hP 0 rfl rfl 3 (by decide) q1 (fun _ h9 => h9) rfl dX8_goStep_164 ?_
      refine lv_iconst (v := 0) hx hb dX8_goStep_167 (by decide) ?_
      obtain ⟨h9, hf⟩ := kv_ix_e hf
      refine va_iald hx hb hK hP 2 1 rfl rfl h9 dX8_goStep_168 ?_
      refine lv_icmp_ge (tgt := 267) hx hb dX8_goStep_169 (by decide) (fun hc => ?_) (fun hc => ?_)
      · have hf := kv_t hc hf
        exact hK9 _ _ _ _ _ hP hD hS (lv_sub hl [0, 1, 2, 3] rfl) hf
      · have hf := kv_f hc hf
        refine lv_aload_n hx hb dX8_goStep_172 rfl (lv_at hl 2 rfl) ?_
        refine va_get (D := D) (ci := 8) (v := .ref (aZ 11)) (C := RX8) (T := TX8) (N := 26) hx hb hts iX8 hown hK hP 0 rfl rfl 17 (by decide) q0 (fun _ h9 => h9) rfl dX8_goStep_173 ?_
        refine lv_iload_n hx hb dX8_goStep_176 rfl (lv_at hl 3 rfl) ?_
        refine lv_bipush (v := 8) hx hb dX8_goStep_177 (by decide) ?_
        refine lv_iadd hx hb dX8_goStep_179 ?_
        refine lv_iload hx hb dX8_goStep_180 (lv_at hl 0 rfl) ?_
        refine lv_iadd hx hb dX8_goStep_182 ?_
        refine lv_aload_n hx hb dX8_goStep_183 rfl (lv_at hl 2 rfl) ?_
        refine va_get (D := D) (ci := 8) (v := .ref (aZ 11)) (C := RX8) (T := TX8) (N := 26) hx hb hts iX8 hown hK hP 0 rfl rfl 17 (by decide) q0 (fun _ h9 => h9) rfl dX8_goStep_184 ?_
        refine lv_iload_n hx hb dX8_goStep_187 rfl (lv_at hl 3 rfl) ?_
        refine lv_iconst (v := 2) hx hb dX8_goStep_188 (by decide) ?_
        refine lv_iadd hx hb dX8_goStep_189 ?_
        refine lv_iload hx hb dX8_goStep_190 (lv_at hl 0 rfl) ?_
        refine lv_iadd hx hb dX8_goStep_192 ?_
        obtain ⟨h9, hf⟩ := kv_ix_e hf
        refine va_iald hx hb hK hP 11 1 rfl rfl h9 dX8_goStep_193 ?_
        obtain ⟨k215_25, ek215_25, hf⟩ := kv_lt_e hf
        have J215_25 : ∀ (x26 : Int32) (H : Heap) (locs : List Loc) (ls : Array Slot), va_P D vwCl (w_MD C aZ mZ24 mY) H → va_D A (w_MD C aZ mZ24 mY) → va_S A s.heap H locs → lv_has ls 7 [(4, .int x23), (3, .int x19), (0, .ref (aZ 0)), (1, .int p0)] → k215_25 x26 = some (rr, oZ) → W p l e rX8_goStep s m args below meth c H locs 0 0 Q (F0 m 215 ls [.int x26, .int ((p0 + 8) + x23), .ref (aZ 11)]) := by
          intro x26 H locs ls hP hD hS hl hf
          rw [ek215_25] at hf
          obtain ⟨h9, hf⟩ := kv_ix_e hf
          obtain ⟨mZ27, emZ27, hf⟩ := kv_lt_e hf
          refine va_iast hx hb hK hP hD hS 11 1 rfl rfl h9 dX8_goStep_215 (fun H locs hP hD hS => ?_)
          have hP : va_P D vwCl (w_MD C aZ mZ27 mY) H := by rw [emZ27]; exact hP
          have hD : va_D A (w_MD C aZ mZ27 mY) := by rw [emZ27]; exact hD
          refine lv_aload_n hx hb dX8_goStep_216 rfl (lv_at hl 2 rfl) ?_
          refine va_get (D := D) (ci := 8) (v := .ref (aZ 11)) (C := RX8) (T := TX8) (N := 26) hx hb hts iX8 hown hK hP 0 rfl rfl 17 (by decide) q0 (fun _ h9 => h9) rfl dX8_goStep_217 ?_
          refine lv_iload_n hx hb dX8_goStep_220 rfl (lv_at hl 3 rfl) ?_
          refine lv_bipush (v := 14) hx hb dX8_goStep_221 (by decide) ?_
          refine lv_iadd hx hb dX8_goStep_223 ?_
          refine lv_iload hx hb dX8_goStep_224 (lv_at hl 0 rfl) ?_
          refine lv_iadd hx hb dX8_goStep_226 ?_
          refine lv_aload_n hx hb dX8_goStep_227 rfl (lv_at hl 2 rfl) ?_
          refine va_get (D := D) (ci := 8) (v := .ref (aZ 11)) (C := RX8) (T := TX8) (N := 26) hx hb hts iX8 hown hK hP 0 rfl rfl 17 (by decide) q0 (fun _ h9 => h9) rfl dX8_goStep_228 ?_
          refine lv_iload_n hx hb dX8_goStep_231 rfl (lv_at hl 3 rfl) ?_
          refine lv_bipush (v := 8) hx hb dX8_goStep_232 (by decide) ?_
          refine lv_iadd hx hb dX8_goStep_234 ?_
          refine lv_iload hx hb dX8_goStep_235 (lv_at hl 0 rfl) ?_
          refine lv_iadd hx hb dX8_goStep_237 ?_
          obtain ⟨h9, hf⟩ := kv_ix_e hf
          refine va_iald hx hb hK hP 11 1 rfl rfl h9 dX8_goStep_238 ?_
          refine lv_bipush (v := 12) hx hb dX8_goStep_239 (by decide) ?_
          refine lv_icmp_lt (tgt := 248) hx hb dX8_goStep_241 (by decide) (fun hc => ?_) (fun hc => ?_)
          · have hf := kv_t hc hf
            refine lv_aload_n hx hb dX8_goStep_248 rfl (lv_at hl 2 rfl) ?_
            refine va_get (D := D) (ci := 8) (v := .ref (aZ 11)) (C := RX8) (T := TX8) (N := 26) hx hb hts iX8 hown hK hP 0 rfl rfl 17 (by decide) q0 (fun _ h9 => h9) rfl dX8_goStep_249 ?_
            refine lv_iload_n hx hb dX8_goStep_252 rfl (lv_at hl 3 rfl) ?_
            refine lv_bipush (v := 14) hx hb dX8_goStep_253 (by decide) ?_
            refine lv_iadd hx hb dX8_goStep_255 ?_
            refine lv_iload hx hb dX8_goStep_256 (lv_at hl 0 rfl) ?_
            refine lv_iadd hx hb dX8_goStep_258 ?_
            obtain ⟨h9, hf⟩ := kv_ix_e hf
            refine va_iald hx hb hK hP 11 1 rfl rfl h9 dX8_goStep_259 ?_
            obtain ⟨x28, ex28, hf⟩ := kv_lt_e hf
            refine vv_nami ex28 ?_
            obtain ⟨h9, hf⟩ := kv_ix_e hf
            obtain ⟨mZ29, emZ29, hf⟩ := kv_lt_e hf
            refine va_iast hx hb hK hP hD hS 11 1 rfl rfl h9 dX8_goStep_260 (fun H locs hP hD hS => ?_)
            have hP : va_P D vwCl (w_MD C aZ mZ29 mY) H := by rw [emZ29]; exact hP
            have hD : va_D A (w_MD C aZ mZ29 mY) := by rw [emZ29]; exact hD
            obtain ⟨x30, ex30, hf⟩ := kv_lt_e hf
            refine lv_iinc (v := x30) (lv' := [(4, .int x30), (3, .int x19), (0, .ref (aZ 0)), (1, .int p0)]) hx hb dX8_goStep_261 hl (k := 0) rfl (by rw [ex30]; rfl) (by decide) rfl (fun ls hl => ?_)
            refine lv_goto (tgt := 161) hx hb dX8_goStep_264 (by decide) ?_
            exact ih _ _ _ _ _ hP hD hS (lv_sub hl [0, 1, 2, 3] rfl) hf
          · have hf := kv_f hc hf
            refine lv_iconst (v := 1) hx hb dX8_goStep_244 (by decide) ?_
            refine lv_goto (tgt := 260) hx hb dX8_goStep_245 (by decide) ?_
            obtain ⟨h9, hf⟩ := kv_ix_e hf
            obtain ⟨mZ31, emZ31, hf⟩ := kv_lt_e hf
            refine va_iast hx hb hK hP hD hS 11 1 rfl rfl h9 dX8_goStep_260 (fun H locs hP hD hS => ?_)
            have hP : va_P D vwCl (w_MD C aZ mZ31 mY) H := by rw [emZ31]; exact hP
            have hD : va_D A (w_MD C aZ mZ31 mY) := by rw [emZ31]; exact hD
            obtain ⟨x32, ex32, hf⟩ := kv_lt_e hf
            refine lv_iinc (v := x32) (lv' := [(4, .int x32), (3, .int x19), (0, .ref (aZ 0)), (1, .int p0)]) hx hb dX8_goStep_261 hl (k := 0) rfl (by rw [ex32]; rfl) (by decide) rfl (fun ls hl => ?_)
            refine lv_goto (tgt := 161) hx hb dX8_goStep_264 (by decide) ?_
            exact ih _ _ _ _ _ hP hD hS (lv_sub hl [0, 1, 2, 3] rfl) hf
        refine lv_if_le (tgt := 214) hx hb dX8_goStep_194 (by decide) (fun hc => ?_) (fun hc => ?_)
        · have hf := kv_t hc hf
          refine lv_iconst (v := 0) hx hb dX8_goStep_214 (by decide) ?_
          exact J215_25 _ _ _ _ hP hD hS (lv_sub hl [0, 1, 2, 3] rfl) hf
        · have hf := kv_f hc hf
          refine lv_aload_n hx hb dX8_goStep_197 rfl (lv_at hl 2 rfl) ?_
          refine va_get (D := D) (ci := 8) (v := .ref (aZ 11)) (C := RX8) (T := TX8) (N := 26) hx hb hts iX8 hown hK hP 0 rfl rfl 17 (by decide) q0 (fun _ h9 => h9) rfl dX8_goStep_198 ?_
          refine lv_iload_n hx hb dX8_goStep_201 rfl (lv_at hl 3 rfl) ?_
          refine lv_bipush (v := 8) hx hb dX8_goStep_202 (by decide) ?_
          refine lv_iadd hx hb dX8_goStep_204 ?_
          refine lv_iload hx hb dX8_goStep_205 (lv_at hl 0 rfl) ?_
          refine lv_iadd hx hb dX8_goStep_207 ?_
          obtain ⟨h9, hf⟩ := kv_ix_e hf
          refine va_iald hx hb hK hP 11 1 rfl rfl h9 dX8_goStep_208 ?_
          refine lv_iconst (v := 1) hx hb dX8_goStep_209 (by decide) ?_
          refine lv_iadd hx hb dX8_goStep_210 ?_
          refine lv_goto (tgt := 215) hx hb dX8_goStep_211 (by decide) ?_
          exact J215_25 _ _ _ _ hP hD hS (lv_sub hl [0, 1, 2, 3] rfl) hf
  refine L161 _ (fun x33 mZ34 H locs ls hP hD hS hl hf => ?_) _ _ _ _ _ _ hP hD hS (lv_sub hl [0, 1, 3, 4] rfl) hf
  refine lv_aload_n hx hb dX8_goStep_267 rfl (lv_at hl 2 rfl) ?_
  refine va_get (D := D) (ci := 8) (v := .ref (aZ 11)) (C := RX8) (T := TX8) (N := 26) hx hb hts iX8 hown hK hP 0 rfl rfl 17 (by decide) q0 (fun _ h9 => h9) rfl dX8_goStep_268 ?_
  refine lv_iload_n hx hb dX8_goStep_271 rfl (lv_at hl 3 rfl) ?_
  refine lv_iconst (v := 0) hx hb dX8_goStep_272 (by decide) ?_
  refine lv_iadd hx hb dX8_goStep_273 ?_
  refine lv_dup2_11 hx hb dX8_goStep_274 rfl rfl ?_
  obtain ⟨h9, hf⟩ := kv_ix_e hf
  refine va_iald hx hb hK hP 11 1 rfl rfl h9 dX8_goStep_275 ?_
  refine lv_iconst (v := 1) hx hb dX8_goStep_276 (by decide) ?_
  refine lv_iadd hx hb dX8_goStep_277 ?_
  obtain ⟨x35, ex35, hf⟩ := kv_lt_e hf
  refine vv_nami ex35 ?_
  obtain ⟨h9, hf⟩ := kv_ix_e hf
  obtain ⟨mZ36, emZ36, hf⟩ := kv_lt_e hf
  refine va_iast hx hb hK hP hD hS 11 1 rfl rfl h9 dX8_goStep_278 (fun H locs hP hD hS => ?_)
  have hP : va_P D vwCl (w_MD C aZ mZ36 mY) H := by rw [emZ36]; exact hP
  have hD : va_D A (w_MD C aZ mZ36 mY) := by rw [emZ36]; exact hD
  refine lv_iload_n hx hb dX8_goStep_279 rfl (lv_at hl 1 rfl) ?_
  exact hret _ _ _ _ _ _ hf rfl hP hD hS dX8_goStep_280
abbrev rX8_coins : Room := { frames := 2, cells := 0, slots := 0, locals := 51 }
set_option maxHeartbeats 4000000 in
set_option maxRecDepth 100000 in
theorem ccX8_coins (l : Launch) (D : va_G) (C : Nat → ClassId) (sz : Nat) (aZ : Nat → Nat) (mZ : Mm) (mY : Int64) (p0 : Int32) (rr : Int32) (oZ : Mm) (hf : ffX8_coins p0 mZ = some (rr, oZ)) : Met l yX8_coins wsX8_coins rX8_coins (va_Pc [.ref (aZ 0), .int p0] (vv_pre D C (w_MD C aZ mZ mY) sz)) (vv_QI D C (w_MD C aZ mZ mY) (w_MD C aZ oZ mY) sz rr) 0 0 (va_A (w_MD C aZ mZ mY) sz) := by
  unfold ffX8_coins at hf
  refine vv_metI (cc := cX8_coins) (maxL := 4) (ty := .int) (by decide) rfl (Nat.le_of_ble_eq_true rfl) ?_
  intro p e s m args below meth c A Q H locs ls hx hb hml hown hts hA hK hN hP hD hS hl hret
  have hown : s.vm.findClass RX8 = some m.cls := hown
  have hl : lv_has ls 4 [(0, .ref (aZ 0)), (1, .int p0)] := hl
  have hret : ∀ (v0 : Int32) (v1 : Mm) (H : Heap) (locs : List Loc) (ls : Array Slot) (pc : Nat), some (v0, v1) = some (rr, oZ) → narrow .int (.int v0) = .int v0 → va_P D vwCl (w_MD C aZ v1 mY) H → va_D A (w_MD C aZ v1 mY) → va_S A s.heap H locs → decode cX8_coins pc = .ok (.ireturn, 1) → W p l e rX8_coins s m args below meth c H locs 0 0 Q (F0 m pc ls [.int v0]) := by
    intro v0 v1 H locs ls pc h0 hn h1 h2 h3 h4
    cases h0
    exact hret H locs ls pc hn h1 h2 h3 h4
  have q0 := hts (.fieldLink RX8 13 "ForeRainModel" "pieces" "[I") (by decide +kernel)
  have q1 := hts (.fieldLink RX8 41 "ForeRainModel" "now" "[I") (by decide +kernel)
  have iX8 : ∀ w ∈ u_ws RX8 TX8 26, w ∈ wsX8_coins := by decide +kernel
  refine lv_iload_n hx hb dX8_coins_0 rfl (lv_at hl 1 rfl) ?_
  refine lv_iconst (v := 0) hx hb dX8_coins_1 (by decide) ?_
  refine lv_bipush (v := 24) hx hb dX8_coins_2 (by decide) ?_
  obtain ⟨r1, hc, hf⟩ := kv_b1_e hf
  have hs9 : vv_Sub D H A ([] : va_W) ([] : va_W) (w_MD C aZ mZ mY) := vv_Sub.none hP hD hS hA
  refine vv_goi (wn := (w_MD C aZ mZ mY)) hK hs9 hS (vv_rS (As := [.int p0, .int 0, .int 24]) (rest := []) hx hb hml hown hts hK hN hS hs9 (ccX8_in l D C H.size p0 (0 : Int32) (24 : Int32) r1 hc) (va_cwS 3 hts gX8_coins_X8_in rfl rfl rfl (by decide +kernel) ⟨(Nat.le_of_ble_eq_true rfl), (Nat.le_of_ble_eq_true rfl)⟩) rfl hl.1 rfl (Nat.le_of_ble_eq_true rfl) dX8_coins_4 ⟨Nat.zero_le _, Nat.zero_le _⟩) (fun H locs hP hD hS => ?_)
  refine lv_if_ne (tgt := 12) hx hb dX8_coins_7 (by decide) (fun hc => ?_) (fun hc => ?_)
  · have hf := kv_f hc hf
    refine lv_aload_n hx hb dX8_coins_12 rfl (lv_at hl 0 rfl) ?_
    refine lv_iconst (v := 0) hx hb dX8_coins_13 (by decide) ?_
    refine lv_bipush (v := 26) hx hb dX8_coins_14 (by decide) ?_
    obtain ⟨mZ2, hc, hf⟩ := kv_b1_e hf
    have hs9 : vv_Sub D H A (w_MD C aZ mZ mY) (w_MD C aZ mZ2 mY) (w_MD C aZ mZ2 mY) := vv_Sub.same (w_MD C aZ mZ2 mY) hP hD hS hA
    refine vv_gov (wn := (w_MD C aZ mZ2 mY)) hK hs9 hS (vv_rV (As := [.int 0, .int 26]) (rest := []) hx hb hml hown hts hK hN hS hs9 (ccX8_copy l D C H.size aZ mZ mY (0 : Int32) (26 : Int32) mZ2 hc) (cwV 2 hts gX8_coins_X8_copy rfl rfl rfl (by decide +kernel) ⟨(Nat.le_of_ble_eq_true rfl), (Nat.le_of_ble_eq_true rfl)⟩) (va_recv hK hP (ci := 8) (q0 := 0) rfl rfl) rfl hl.1 rfl (Nat.le_of_ble_eq_true rfl) dX8_coins_16 ⟨Nat.zero_le _, Nat.zero_le _⟩) (fun H locs hP hD hS => ?_)
    refine lv_iconst (v := 0) hx hb dX8_coins_19 (by decide) ?_
    refine lv_istore_n (lv' := [(2, .int 0), (0, .ref (aZ 0)), (1, .int p0)]) hx hb dX8_coins_20 rfl hl (by decide) rfl (fun ls hl => ?_)
    have L21 : ∀ (K21 : Int32 → Mm → Option (Int32 × Mm)), (∀ (x3 : Int32) (mZ4 : Mm) (H : Heap) (locs : List Loc) (ls : Array Slot), va_P D vwCl (w_MD C aZ mZ4 mY) H → va_D A (w_MD C aZ mZ4 mY) → va_S A s.heap H locs → lv_has ls 4 [(2, .int x3), (0, .ref (aZ 0)), (1, .int p0)] → K21 x3 mZ4 = some (rr, oZ) → W p l e rX8_coins s m args below meth c H locs 0 0 Q (F0 m 39 ls [])) → ∀ (n : Nat) (x3 : Int32) (mZ4 : Mm) (H : Heap) (locs : List Loc) (ls : Array Slot), va_P D vwCl (w_MD C aZ mZ4 mY) H → va_D A (w_MD C aZ mZ4 mY) → va_S A s.heap H locs → lv_has ls 4 [(2, .int x3), (0, .ref (aZ 0)), (1, .int p0)] → ffX8_coins_L21 p0 K21 n x3 mZ4 = some (rr, oZ) → W p l e rX8_coins s m args below meth c H locs 0 0 Q (F0 m 21 ls []) := by
      intro K21 hK9 n
      induction n with
      | zero => intro x3 mZ4 H locs ls hP hD hS hl hf; exact kv_no hf
      | succ n ih =>
        intro x3 mZ4 H locs ls hP hD hS hl hf
        rw [ffX8_coins_L21_s] at hf
        refine lv_iload_n hx hb dX8_coins_21 rfl (lv_at hl 0 rfl) ?_
        refine lv_iload_n hx hb dX8_coins_22 rfl (lv_at hl 2 rfl) ?_
        refine lv_icmp_ge (tgt := 39) hx hb dX8_coins_23 (by decide) (fun hc => ?_) (fun hc => ?_)
        · have hf := kv_t hc hf
          exact hK9 _ _ _ _ _ hP hD hS (lv_sub hl [0, 1, 2] rfl) hf
        · have hf := kv_f hc hf
          refine lv_aload_n hx hb dX8_coins_26 rfl (lv_at hl 1 rfl) ?_
          refine lv_bipush (v := 26) hx hb dX8_coins_27 (by decide) ?_
          obtain ⟨r5, mZ6, hc, hf⟩ := kv_b2_e hf
          have hs9 : vv_Sub D H A (w_MD C aZ mZ4 mY) (w_MD C aZ mZ6 mY) (w_MD C aZ mZ6 mY) := vv_Sub.same (w_MD C aZ mZ6 mY) hP hD hS hA
          refine vv_goi (wn := (w_MD C aZ mZ6 mY)) hK hs9 hS (vv_rV (As := [.int 26]) (rest := []) hx hb hml hown hts hK hN hS hs9 (ccX8_goStep l D C H.size aZ mZ4 mY (26 : Int32) r5 mZ6 hc) (cwV 1 hts gX8_coins_X8_goStep rfl rfl rfl (by decide +kernel) ⟨(Nat.le_of_ble_eq_true rfl), (Nat.le_of_ble_eq_true rfl)⟩) (va_recv hK hP (ci := 8) (q0 := 0) rfl rfl) rfl hl.1 rfl (Nat.le_of_ble_eq_true rfl) dX8_coins_29 ⟨Nat.zero_le _, Nat.zero_le _⟩) (fun H locs hP hD hS => ?_)
          refine lv_pop hx hb dX8_coins_32 rfl ?_
          obtain ⟨x7, ex7, hf⟩ := kv_lt_e hf
          refine lv_iinc (v := x7) (lv' := [(2, .int x7), (0, .ref (aZ 0)), (1, .int p0)]) hx hb dX8_coins_33 hl (k := 0) rfl (by rw [ex7]; rfl) (by decide) rfl (fun ls hl => ?_)
          refine lv_goto (tgt := 21) hx hb dX8_coins_36 (by decide) ?_
          exact ih _ _ _ _ _ hP hD hS (lv_sub hl [0, 1, 2] rfl) hf
    refine L21 _ (fun x8 mZ9 H locs ls hP hD hS hl hf => ?_) _ _ _ _ _ _ hP hD hS (lv_sub hl [0, 1, 2] rfl) hf
    refine lv_iconst (v := 0) hx hb dX8_coins_39 (by decide) ?_
    refine lv_istore_n (lv' := [(2, .int 0), (0, .ref (aZ 0)), (1, .int p0)]) hx hb dX8_coins_40 rfl hl (by decide) rfl (fun ls hl => ?_)
    refine lv_iconst (v := 0) hx hb dX8_coins_41 (by decide) ?_
    refine lv_istore_n (lv' := [(3, .int 0), (2, .int 0), (0, .ref (aZ 0)), (1, .int p0)]) hx hb dX8_coins_42 rfl hl (by decide) rfl (fun ls hl => ?_)
    have L43 : ∀ (K43 : Int32 → Int32 → Option (Int32 × Mm)), (∀ (x10 : Int32) (x11 : Int32) (H : Heap) (locs : List Loc) (ls : Array Slot), va_P D vwCl (w_MD C aZ mZ9 mY) H → va_D A (w_MD C aZ mZ9 mY) → va_S A s.heap H locs → lv_has ls 4 [(3, .int x10), (2, .int x11), (0, .ref (aZ 0))] → K43 x10 x11 = some (rr, oZ) → W p l e rX8_coins s m args below meth c H locs 0 0 Q (F0 m 77 ls [])) → ∀ (n : Nat) (x10 : Int32) (x11 : Int32) (H : Heap) (locs : List Loc) (ls : Array Slot), va_P D vwCl (w_MD C aZ mZ9 mY) H → va_D A (w_MD C aZ mZ9 mY) → va_S A s.heap H locs → lv_has ls 4 [(3, .int x10), (2, .int x11), (0, .ref (aZ 0))] → ffX8_coins_L43 mZ9 K43 n x10 x11 = some (rr, oZ) → W p l e rX8_coins s m args below meth c H locs 0 0 Q (F0 m 43 ls []) := by
      intro K43 hK9 n
      induction n with
      | zero => intro x10 x11 H locs ls hP hD hS hl hf; exact kv_no hf
      | succ n ih =>
        intro x10 x11 H locs ls hP hD hS hl hf
        rw [ffX8_coins_L43_s] at hf
        refine lv_iload_n hx hb dX8_coins_43 rfl (lv_at hl 0 rfl) ?_
        refine lv_aload_n hx hb dX8_coins_44 rfl (lv_at hl 2 rfl) ?_
        refine va_get (D := D) (ci := 8) (v := .ref (aZ 2)) (C := RX8) (T := TX8) (N := 26) hx hb hts iX8 hown hK hP 0 rfl rfl 3 (by decide) q0 (fun _ h9 => h9) rfl dX8_coins_45 ?_
        refine lv_iconst (v := 0) hx hb dX8_coins_48 (by decide) ?_
        obtain ⟨h9, hf⟩ := kv_ix_e hf
        refine va_iald hx hb hK hP 2 1 rfl rfl h9 dX8_coins_49 ?_
        refine lv_icmp_ge (tgt := 77) hx hb dX8_coins_50 (by decide) (fun hc => ?_) (fun hc => ?_)
        · have hf := kv_t hc hf
          exact hK9 _ _ _ _ _ hP hD hS (lv_sub hl [0, 1, 2] rfl) hf
        · have hf := kv_f hc hf
          refine lv_iload_n hx hb dX8_coins_53 rfl (lv_at hl 1 rfl) ?_
          refine lv_aload_n hx hb dX8_coins_54 rfl (lv_at hl 2 rfl) ?_
          refine va_get (D := D) (ci := 8) (v := .ref (aZ 11)) (C := RX8) (T := TX8) (N := 26) hx hb hts iX8 hown hK hP 0 rfl rfl 17 (by decide) q1 (fun _ h9 => h9) rfl dX8_coins_55 ?_
          refine lv_bipush (v := 28) hx hb dX8_coins_58 (by decide) ?_
          refine lv_iload_n hx hb dX8_coins_60 rfl (lv_at hl 0 rfl) ?_
          refine lv_iadd hx hb dX8_coins_61 ?_
          obtain ⟨h9, hf⟩ := kv_ix_e hf
          refine va_iald hx hb hK hP 11 1 rfl rfl h9 dX8_coins_62 ?_
          refine lv_bipush (v := 19) hx hb dX8_coins_63 (by decide) ?_
          refine lv_iadd hx hb dX8_coins_65 ?_
          refine lv_bipush (v := 20) hx hb dX8_coins_66 (by decide) ?_
          refine lv_idiv hx hb dX8_coins_68 (by decide) ?_
          refine lv_iadd hx hb dX8_coins_69 ?_
          obtain ⟨x12, ex12, hf⟩ := kv_lt_e hf
          refine vv_nami ex12 ?_
          refine lv_istore_n (lv' := [(2, .int x12), (3, .int x10), (0, .ref (aZ 0))]) hx hb dX8_coins_70 rfl hl (by decide) rfl (fun ls hl => ?_)
          obtain ⟨x13, ex13, hf⟩ := kv_lt_e hf
          refine lv_iinc (v := x13) (lv' := [(3, .int x13), (2, .int x12), (0, .ref (aZ 0))]) hx hb dX8_coins_71 hl (k := 1) rfl (by rw [ex13]; rfl) (by decide) rfl (fun ls hl => ?_)
          refine lv_goto (tgt := 43) hx hb dX8_coins_74 (by decide) ?_
          exact ih _ _ _ _ _ hP hD hS (lv_sub hl [0, 1, 2] rfl) hf
    refine L43 _ (fun x14 x15 H locs ls hP hD hS hl hf => ?_) _ _ _ _ _ _ hP hD hS (lv_sub hl [0, 1, 2] rfl) hf
    refine lv_iload_n hx hb dX8_coins_77 rfl (lv_at hl 1 rfl) ?_
    exact hret _ _ _ _ _ _ hf rfl hP hD hS dX8_coins_78
  · have hf := kv_t hc hf
    refine lv_iconst (v := (-1)) hx hb dX8_coins_10 (by decide) ?_
    exact hret _ _ _ _ _ _ hf rfl hP hD hS dX8_coins_11
abbrev rX8_common : Room := { frames := 0, cells := 0, slots := 0, locals := 0 }
set_option maxHeartbeats 4000000 in
set_option maxRecDepth 100000 in
theorem ccX8_common (l : Launch) (D : va_G) (C : Nat → ClassId) (sz : Nat) (p0 : Int64) (p1 : Int64) (rr : Int64) (hf : ffX8_common p0 p1 = some (rr)) : Met l yX8_common wsX8_common rX8_common (va_Pc [.long p0, .long p1] (vv_pre D C ([] : va_W) sz)) (vv_QL D C ([] : va_W) ([] : va_W) sz rr) 0 0 (va_A ([] : va_W) sz) := by
  unfold ffX8_common at hf
  refine vv_metL (cc := cX8_common) (maxL := 10) (by decide) rfl (Nat.le_of_ble_eq_true rfl) ?_
  intro p e s m args below meth c A Q H locs ls hx hb hml hown hts hA hK hN hP hD hS hl hret
  have hown : s.vm.findClass RX8 = some m.cls := hown
  have hl : lv_has ls 10 [(0, .long p0), (2, .long p1)] := hl
  have hret : ∀ (v0 : Int64) (H : Heap) (locs : List Loc) (ls : Array Slot) (pc : Nat), some (v0) = some (rr) → va_P D vwCl ([] : va_W) H → va_D A ([] : va_W) → va_S A s.heap H locs → decode cX8_common pc = .ok (.lreturn, 1) → W p l e rX8_common s m args below meth c H locs 0 0 Q (F0 m pc ls [.long v0]) := by
    intro v0 H locs ls pc h0 h1 h2 h3 h4
    cases h0
    exact hret H locs ls pc h1 h2 h3 h4
  refine lv_lload_n hx hb dX8_common_0 rfl (lv_at hl 0 rfl) ?_
  refine lv_lstore (lv' := [(4, .long p0), (0, .long p0), (2, .long p1)]) hx hb dX8_common_1 hl (by decide) rfl (fun ls hl => ?_)
  refine lv_lload_n hx hb dX8_common_3 rfl (lv_at hl 2 rfl) ?_
  refine lv_lstore (lv' := [(6, .long p1), (4, .long p0), (0, .long p0), (2, .long p1)]) hx hb dX8_common_4 hl (by decide) rfl (fun ls hl => ?_)
  have L6 : ∀ (K6 : Int64 → Int64 → Option (Int64)), (∀ (x1 : Int64) (x2 : Int64) (H : Heap) (locs : List Loc) (ls : Array Slot), va_P D vwCl ([] : va_W) H → va_D A ([] : va_W) → va_S A s.heap H locs → lv_has ls 10 [(6, .long x1), (4, .long x2)] → K6 x1 x2 = some (rr) → W p l e rX8_common s m args below meth c H locs 0 0 Q (F0 m 31 ls [])) → ∀ (n : Nat) (x1 : Int64) (x2 : Int64) (H : Heap) (locs : List Loc) (ls : Array Slot), va_P D vwCl ([] : va_W) H → va_D A ([] : va_W) → va_S A s.heap H locs → lv_has ls 10 [(6, .long x1), (4, .long x2)] → ffX8_common_L6  K6 n x1 x2 = some (rr) → W p l e rX8_common s m args below meth c H locs 0 0 Q (F0 m 6 ls []) := by
    intro K6 hK9 n
    induction n with
    | zero => intro x1 x2 H locs ls hP hD hS hl hf; exact kv_no hf
    | succ n ih =>
      intro x1 x2 H locs ls hP hD hS hl hf
      rw [ffX8_common_L6_s] at hf
      refine lv_lload hx hb dX8_common_6 (lv_at hl 0 rfl) ?_
      refine lv_lconst (v := 0) hx hb dX8_common_8 (by decide) ?_
      refine W.lcmp hx hb dX8_common_9 ?_
      refine lv_if_eq (tgt := 31) hx hb dX8_common_10 (by decide) (fun hc => ?_) (fun hc => ?_)
      · have hf := kv_t hc hf
        exact hK9 _ _ _ _ _ hP hD hS (lv_sub hl [0, 1] rfl) hf
      · have hf := kv_f hc hf
        refine lv_lload hx hb dX8_common_13 (lv_at hl 1 rfl) ?_
        refine lv_lload hx hb dX8_common_15 (lv_at hl 0 rfl) ?_
        obtain ⟨h9, hf⟩ := kv_nzl_e hf
        refine lv_lrem hx hb dX8_common_17 h9 ?_
        obtain ⟨x3, ex3, hf⟩ := kv_lt_e hf
        refine vv_naml ex3 ?_
        refine lv_lstore (lv' := [(8, .long x3), (6, .long x1), (4, .long x2)]) hx hb dX8_common_18 hl (by decide) rfl (fun ls hl => ?_)
        refine lv_lload hx hb dX8_common_20 (lv_at hl 1 rfl) ?_
        refine lv_lstore (lv' := [(4, .long x1), (8, .long x3), (6, .long x1)]) hx hb dX8_common_22 hl (by decide) rfl (fun ls hl => ?_)
        refine lv_lload hx hb dX8_common_24 (lv_at hl 1 rfl) ?_
        refine lv_lstore (lv' := [(6, .long x3), (4, .long x1), (8, .long x3)]) hx hb dX8_common_26 hl (by decide) rfl (fun ls hl => ?_)
        refine lv_goto (tgt := 6) hx hb dX8_common_28 (by decide) ?_
        exact ih _ _ _ _ _ hP hD hS (lv_sub hl [0, 1] rfl) hf
  refine L6 _ (fun x4 x5 H locs ls hP hD hS hl hf => ?_) _ _ _ _ _ _ hP hD hS (lv_sub hl [0, 1] rfl) hf
  refine lv_lload hx hb dX8_common_31 (lv_at hl 1 rfl) ?_
  exact hret _ _ _ _ _ hf hP hD hS dX8_common_33
abbrev rX8_rackedNow : Room := { frames := 0, cells := 0, slots := 0, locals := 0 }
set_option maxHeartbeats 4000000 in
set_option maxRecDepth 100000 in
theorem ccX8_rackedNow (l : Launch) (D : va_G) (C : Nat → ClassId) (sz : Nat) (aZ : Nat → Nat) (mZ : Mm) (mY : Int64) (rr : Int32) (hf : ffX8_rackedNow mZ = some (rr)) : Met l yX8_rackedNow wsX8_rackedNow rX8_rackedNow (va_Pc [.ref (aZ 0)] (vv_pre D C (w_MD C aZ mZ mY) sz)) (vv_QI D C (w_MD C aZ mZ mY) (w_MD C aZ mZ mY) sz rr) 0 0 (va_A (w_MD C aZ mZ mY) sz) := by
  unfold ffX8_rackedNow at hf
  refine vv_metI (cc := cX8_rackedNow) (maxL := 3) (ty := .int) (by decide) rfl (Nat.le_of_ble_eq_true rfl) ?_
  intro p e s m args below meth c A Q H locs ls hx hb hml hown hts hA hK hN hP hD hS hl hret
  have hown : s.vm.findClass RX8 = some m.cls := hown
  have hl : lv_has ls 3 [(0, .ref (aZ 0))] := hl
  have hret : ∀ (v0 : Int32) (H : Heap) (locs : List Loc) (ls : Array Slot) (pc : Nat), some (v0) = some (rr) → narrow .int (.int v0) = .int v0 → va_P D vwCl (w_MD C aZ mZ mY) H → va_D A (w_MD C aZ mZ mY) → va_S A s.heap H locs → decode cX8_rackedNow pc = .ok (.ireturn, 1) → W p l e rX8_rackedNow s m args below meth c H locs 0 0 Q (F0 m pc ls [.int v0]) := by
    intro v0 H locs ls pc h0 hn h1 h2 h3 h4
    cases h0
    exact hret H locs ls pc hn h1 h2 h3 h4
  have q0 := hts (.fieldLink RX8 13 "ForeRainModel" "pieces" "[I") (by decide +kernel)
  have q1 := hts (.fieldLink RX8 41 "ForeRainModel" "now" "[I") (by decide +kernel)
  have iX8 : ∀ w ∈ u_ws RX8 TX8 26, w ∈ wsX8_rackedNow := by decide +kernel
  refine lv_iconst (v := 0) hx hb dX8_rackedNow_0 (by decide) ?_
  refine lv_istore_n (lv' := [(1, .int 0), (0, .ref (aZ 0))]) hx hb dX8_rackedNow_1 rfl hl (by decide) rfl (fun ls hl => ?_)
  refine lv_iconst (v := 0) hx hb dX8_rackedNow_2 (by decide) ?_
  refine lv_istore_n (lv' := [(2, .int 0), (1, .int 0), (0, .ref (aZ 0))]) hx hb dX8_rackedNow_3 rfl hl (by decide) rfl (fun ls hl => ?_)
  have L4 : ∀ (K4 : Int32 → Int32 → Option (Int32)), (∀ (x1 : Int32) (x2 : Int32) (H : Heap) (locs : List Loc) (ls : Array Slot), va_P D vwCl (w_MD C aZ mZ mY) H → va_D A (w_MD C aZ mZ mY) → va_S A s.heap H locs → lv_has ls 3 [(2, .int x1), (1, .int x2), (0, .ref (aZ 0))] → K4 x1 x2 = some (rr) → W p l e rX8_rackedNow s m args below meth c H locs 0 0 Q (F0 m 42 ls [])) → ∀ (n : Nat) (x1 : Int32) (x2 : Int32) (H : Heap) (locs : List Loc) (ls : Array Slot), va_P D vwCl (w_MD C aZ mZ mY) H → va_D A (w_MD C aZ mZ mY) → va_S A s.heap H locs → lv_has ls 3 [(2, .int x1), (1, .int x2), (0, .ref (aZ 0))] → ffX8_rackedNow_L4 mZ K4 n x1 x2 = some (rr) → W p l e rX8_rackedNow s m args below meth c H locs 0 0 Q (F0 m 4 ls []) := by
    intro K4 hK9 n
    induction n with
    | zero => intro x1 x2 H locs ls hP hD hS hl hf; exact kv_no hf
    | succ n ih =>
      intro x1 x2 H locs ls hP hD hS hl hf
      rw [ffX8_rackedNow_L4_s] at hf
      refine lv_iload_n hx hb dX8_rackedNow_4 rfl (lv_at hl 0 rfl) ?_
      refine lv_aload_n hx hb dX8_rackedNow_5 rfl (lv_at hl 2 rfl) ?_
      refine va_get (D := D) (ci := 8) (v := .ref (aZ 2)) (C := RX8) (T := TX8) (N := 26) hx hb hts iX8 hown hK hP 0 rfl rfl 3 (by decide) q0 (fun _ h9 => h9) rfl dX8_rackedNow_6 ?_
      refine lv_iconst (v := 0) hx hb dX8_rackedNow_9 (by decide) ?_
      obtain ⟨h9, hf⟩ := kv_ix_e hf
      refine va_iald hx hb hK hP 2 1 rfl rfl h9 dX8_rackedNow_10 ?_
      refine lv_icmp_ge (tgt := 42) hx hb dX8_rackedNow_11 (by decide) (fun hc => ?_) (fun hc => ?_)
      · have hf := kv_t hc hf
        exact hK9 _ _ _ _ _ hP hD hS (lv_sub hl [0, 1, 2] rfl) hf
      · have hf := kv_f hc hf
        refine lv_iload_n hx hb dX8_rackedNow_14 rfl (lv_at hl 1 rfl) ?_
        refine lv_aload_n hx hb dX8_rackedNow_15 rfl (lv_at hl 2 rfl) ?_
        refine va_get (D := D) (ci := 8) (v := .ref (aZ 11)) (C := RX8) (T := TX8) (N := 26) hx hb hts iX8 hown hK hP 0 rfl rfl 17 (by decide) q1 (fun _ h9 => h9) rfl dX8_rackedNow_16 ?_
        refine lv_bipush (v := 20) hx hb dX8_rackedNow_19 (by decide) ?_
        refine lv_iload_n hx hb dX8_rackedNow_21 rfl (lv_at hl 0 rfl) ?_
        refine lv_iadd hx hb dX8_rackedNow_22 ?_
        obtain ⟨h9, hf⟩ := kv_ix_e hf
        refine va_iald hx hb hK hP 11 1 rfl rfl h9 dX8_rackedNow_23 ?_
        refine lv_bipush (v := 8) hx hb dX8_rackedNow_24 (by decide) ?_
        refine lv_icmp_ne (tgt := 33) hx hb dX8_rackedNow_26 (by decide) (fun hc => ?_) (fun hc => ?_)
        · have hf := kv_f hc hf
          refine lv_iconst (v := 0) hx hb dX8_rackedNow_33 (by decide) ?_
          refine lv_iadd hx hb dX8_rackedNow_34 ?_
          obtain ⟨x3, ex3, hf⟩ := kv_lt_e hf
          refine vv_nami ex3 ?_
          refine lv_istore_n (lv' := [(1, .int x3), (2, .int x1), (0, .ref (aZ 0))]) hx hb dX8_rackedNow_35 rfl hl (by decide) rfl (fun ls hl => ?_)
          obtain ⟨x4, ex4, hf⟩ := kv_lt_e hf
          refine lv_iinc (v := x4) (lv' := [(2, .int x4), (1, .int x3), (0, .ref (aZ 0))]) hx hb dX8_rackedNow_36 hl (k := 1) rfl (by rw [ex4]; rfl) (by decide) rfl (fun ls hl => ?_)
          refine lv_goto (tgt := 4) hx hb dX8_rackedNow_39 (by decide) ?_
          exact ih _ _ _ _ _ hP hD hS (lv_sub hl [0, 1, 2] rfl) hf
        · have hf := kv_t hc hf
          refine lv_iconst (v := 1) hx hb dX8_rackedNow_29 (by decide) ?_
          refine lv_goto (tgt := 34) hx hb dX8_rackedNow_30 (by decide) ?_
          refine lv_iadd hx hb dX8_rackedNow_34 ?_
          obtain ⟨x5, ex5, hf⟩ := kv_lt_e hf
          refine vv_nami ex5 ?_
          refine lv_istore_n (lv' := [(1, .int x5), (2, .int x1), (0, .ref (aZ 0))]) hx hb dX8_rackedNow_35 rfl hl (by decide) rfl (fun ls hl => ?_)
          obtain ⟨x6, ex6, hf⟩ := kv_lt_e hf
          refine lv_iinc (v := x6) (lv' := [(2, .int x6), (1, .int x5), (0, .ref (aZ 0))]) hx hb dX8_rackedNow_36 hl (k := 1) rfl (by rw [ex6]; rfl) (by decide) rfl (fun ls hl => ?_)
          refine lv_goto (tgt := 4) hx hb dX8_rackedNow_39 (by decide) ?_
          exact ih _ _ _ _ _ hP hD hS (lv_sub hl [0, 1, 2] rfl) hf
  refine L4 _ (fun x7 x8 H locs ls hP hD hS hl hf => ?_) _ _ _ _ _ _ hP hD hS (lv_sub hl [0, 1, 2] rfl) hf
  refine lv_iload_n hx hb dX8_rackedNow_42 rfl (lv_at hl 1 rfl) ?_
  exact hret _ _ _ _ _ hf rfl hP hD hS dX8_rackedNow_43
abbrev rX8_count : Room := { frames := 1, cells := 0, slots := 0, locals := 22 }
set_option maxHeartbeats 4000000 in
set_option maxRecDepth 100000 in
theorem ccX8_count (l : Launch) (D : va_G) (C : Nat → ClassId) (sz : Nat) (aZ : Nat → Nat) (mZ : Mm) (mY : Int64) (p0 : Int32) (rr : Int32) (hf : ffX8_count p0 mZ = some (rr)) : Met l yX8_count wsX8_count rX8_count (va_Pc [.ref (aZ 0), .int p0] (vv_pre D C (w_MD C aZ mZ mY) sz)) (vv_QI D C (w_MD C aZ mZ mY) (w_MD C aZ mZ mY) sz rr) 0 0 (va_A (w_MD C aZ mZ mY) sz) := by
  unfold ffX8_count at hf
  refine vv_metI (cc := cX8_count) (maxL := 2) (ty := .int) (by decide) rfl (Nat.le_of_ble_eq_true rfl) ?_
  intro p e s m args below meth c A Q H locs ls hx hb hml hown hts hA hK hN hP hD hS hl hret
  have hown : s.vm.findClass RX8 = some m.cls := hown
  have hl : lv_has ls 2 [(0, .ref (aZ 0)), (1, .int p0)] := hl
  have hret : ∀ (v0 : Int32) (H : Heap) (locs : List Loc) (ls : Array Slot) (pc : Nat), some (v0) = some (rr) → narrow .int (.int v0) = .int v0 → va_P D vwCl (w_MD C aZ mZ mY) H → va_D A (w_MD C aZ mZ mY) → va_S A s.heap H locs → decode cX8_count pc = .ok (.ireturn, 1) → W p l e rX8_count s m args below meth c H locs 0 0 Q (F0 m pc ls [.int v0]) := by
    intro v0 H locs ls pc h0 hn h1 h2 h3 h4
    cases h0
    exact hret H locs ls pc hn h1 h2 h3 h4
  have q0 := hts (.fieldLink RX8 13 "ForeRainModel" "pieces" "[I") (by decide +kernel)
  have q1 := hts (.fieldLink RX8 26 "ForeRainModel" "spots" "[I") (by decide +kernel)
  have q2 := hts (.fieldLink RX8 35 "ForeRainModel" "told" "[I") (by decide +kernel)
  have q3 := hts (.fieldLink RX8 174 "ForeRainModel" "days" "I") (by decide +kernel)
  have q4 := hts (.fieldLink RX8 70 "ForeRainModel" "typed" "I") (by decide +kernel)
  have iX8 : ∀ w ∈ u_ws RX8 TX8 26, w ∈ wsX8_count := by decide +kernel
  refine lv_iload_n hx hb dX8_count_0 rfl (lv_at hl 1 rfl) ?_
  by_cases c0 : p0 = 0
  · have hf := kv_t c0 hf
    refine lv_tableIn (off := 39) (tgt := 40) hx hb dX8_count_1 (by rw [c0]; decide) (by rw [c0]; decide) (by rw [c0]; rfl) (by decide) ?_
    refine lv_aload_n hx hb dX8_count_40 rfl (lv_at hl 0 rfl) ?_
    refine va_get (D := D) (ci := 8) (v := .ref (aZ 2)) (C := RX8) (T := TX8) (N := 26) hx hb hts iX8 hown hK hP 0 rfl rfl 3 (by decide) q0 (fun _ h9 => h9) rfl dX8_count_41 ?_
    refine lv_iconst (v := 0) hx hb dX8_count_44 (by decide) ?_
    obtain ⟨h9, hf⟩ := kv_ix_e hf
    refine va_iald hx hb hK hP 2 1 rfl rfl h9 dX8_count_45 ?_
    exact hret _ _ _ _ _ hf rfl hP hD hS dX8_count_46
  have hf := kv_f c0 hf
  by_cases c1 : p0 = 1
  · have hf := kv_t c1 hf
    refine lv_tableIn (off := 46) (tgt := 47) hx hb dX8_count_1 (by rw [c1]; decide) (by rw [c1]; decide) (by rw [c1]; rfl) (by decide) ?_
    refine lv_aload_n hx hb dX8_count_47 rfl (lv_at hl 0 rfl) ?_
    refine va_get (D := D) (ci := 8) (v := .ref (aZ 6)) (C := RX8) (T := TX8) (N := 26) hx hb hts iX8 hown hK hP 0 rfl rfl 7 (by decide) q1 (fun _ h9 => h9) rfl dX8_count_48 ?_
    refine lv_iconst (v := 0) hx hb dX8_count_51 (by decide) ?_
    obtain ⟨h9, hf⟩ := kv_ix_e hf
    refine va_iald hx hb hK hP 6 1 rfl rfl h9 dX8_count_52 ?_
    exact hret _ _ _ _ _ hf rfl hP hD hS dX8_count_53
  have hf := kv_f c1 hf
  by_cases c2 : p0 = 2
  · have hf := kv_t c2 hf
    refine lv_tableIn (off := 53) (tgt := 54) hx hb dX8_count_1 (by rw [c2]; decide) (by rw [c2]; decide) (by rw [c2]; rfl) (by decide) ?_
    refine lv_aload_n hx hb dX8_count_54 rfl (lv_at hl 0 rfl) ?_
    refine va_get (D := D) (ci := 8) (v := .ref (aZ 9)) (C := RX8) (T := TX8) (N := 26) hx hb hts iX8 hown hK hP 0 rfl rfl 10 (by decide) q2 (fun _ h9 => h9) rfl dX8_count_55 ?_
    refine lv_iconst (v := 0) hx hb dX8_count_58 (by decide) ?_
    obtain ⟨h9, hf⟩ := kv_ix_e hf
    refine va_iald hx hb hK hP 9 1 rfl rfl h9 dX8_count_59 ?_
    exact hret _ _ _ _ _ hf rfl hP hD hS dX8_count_60
  have hf := kv_f c2 hf
  by_cases c3 : p0 = 3
  · have hf := kv_t c3 hf
    refine lv_tableIn (off := 60) (tgt := 61) hx hb dX8_count_1 (by rw [c3]; decide) (by rw [c3]; decide) (by rw [c3]; rfl) (by decide) ?_
    refine lv_aload_n hx hb dX8_count_61 rfl (lv_at hl 0 rfl) ?_
    obtain ⟨r1, hc, hf⟩ := kv_b1_e hf
    have hs9 : vv_Sub D H A (w_MD C aZ mZ mY) (w_MD C aZ mZ mY) (w_MD C aZ mZ mY) := vv_Sub.same (w_MD C aZ mZ mY) hP hD hS hA
    refine vv_goi (wn := (w_MD C aZ mZ mY)) hK hs9 hS (vv_rV (As := []) (rest := []) hx hb hml hown hts hK hN hS hs9 (ccX8_rackedNow l D C H.size aZ mZ mY r1 hc) (cwV 0 hts gX8_count_X8_rackedNow rfl rfl rfl (by decide +kernel) ⟨(Nat.le_of_ble_eq_true rfl), (Nat.le_of_ble_eq_true rfl)⟩) (va_recv hK hP (ci := 8) (q0 := 0) rfl rfl) rfl hl.1 rfl (Nat.le_of_ble_eq_true rfl) dX8_count_62 ⟨Nat.zero_le _, Nat.zero_le _⟩) (fun H locs hP hD hS => ?_)
    exact hret _ _ _ _ _ hf rfl hP hD hS dX8_count_65
  have hf := kv_f c3 hf
  by_cases c4 : p0 = 4
  · have hf := kv_t c4 hf
    refine lv_tableIn (off := 65) (tgt := 66) hx hb dX8_count_1 (by rw [c4]; decide) (by rw [c4]; decide) (by rw [c4]; rfl) (by decide) ?_
    refine lv_aload_n hx hb dX8_count_66 rfl (lv_at hl 0 rfl) ?_
    refine va_get (D := D) (ci := 8) (v := .int (mZ 0 23)) (C := RX8) (T := TX8) (N := 26) hx hb hts iX8 hown hK hP 0 rfl rfl 23 (by decide) q3 (fun _ h9 => h9) rfl dX8_count_67 ?_
    exact hret _ _ _ _ _ hf rfl hP hD hS dX8_count_70
  have hf := kv_f c4 hf
  by_cases c5 : p0 = 5
  · have hf := kv_t c5 hf
    refine lv_tableIn (off := 70) (tgt := 71) hx hb dX8_count_1 (by rw [c5]; decide) (by rw [c5]; decide) (by rw [c5]; rfl) (by decide) ?_
    refine lv_aload_n hx hb dX8_count_71 rfl (lv_at hl 0 rfl) ?_
    refine va_get (D := D) (ci := 8) (v := .int (mZ 0 2)) (C := RX8) (T := TX8) (N := 26) hx hb hts iX8 hown hK hP 0 rfl rfl 2 (by decide) q4 (fun _ h9 => h9) rfl dX8_count_72 ?_
    exact hret _ _ _ _ _ hf rfl hP hD hS dX8_count_75
  have hf := kv_f c5 hf
  refine lv_tableOut (tgt := 76) hx hb dX8_count_1 (by have a0 : p0.toInt ≠ 0 := kv_ti c0; have a1 : p0.toInt ≠ 1 := kv_ti c1; have a2 : p0.toInt ≠ 2 := kv_ti c2; have a3 : p0.toInt ≠ 3 := kv_ti c3; have a4 : p0.toInt ≠ 4 := kv_ti c4; have a5 : p0.toInt ≠ 5 := kv_ti c5; omega) (by decide) ?_
  refine lv_iconst (v := (-1)) hx hb dX8_count_76 (by decide) ?_
  exact hret _ _ _ _ _ hf rfl hP hD hS dX8_count_77
abbrev rX8_damp : Room := { frames := 2, cells := 0, slots := 0, locals := 51 }
set_option maxHeartbeats 4000000 in
set_option maxRecDepth 100000 in
theorem ccX8_damp (l : Launch) (D : va_G) (C : Nat → ClassId) (sz : Nat) (aZ : Nat → Nat) (mZ : Mm) (mY : Int64) (p0 : Int32) (p1 : Int32) (p2 : Int32) (p3 : Int32) (rr : Int32) (oZ : Mm) (hf : ffX8_damp p0 p1 p2 p3 mZ = some (rr, oZ)) : Met l yX8_damp wsX8_damp rX8_damp (va_Pc [.ref (aZ 0), .int p0, .int p1, .int p2, .int p3] (vv_pre D C (w_MD C aZ mZ mY) sz)) (vv_QI D C (w_MD C aZ mZ mY) (w_MD C aZ oZ mY) sz rr) 0 0 (va_A (w_MD C aZ mZ mY) sz) := by
  unfold ffX8_damp at hf
  refine vv_metI (cc := cX8_damp) (maxL := 8) (ty := .int) (by decide) rfl (Nat.le_of_ble_eq_true rfl) ?_
  intro p e s m args below meth c A Q H locs ls hx hb hml hown hts hA hK hN hP hD hS hl hret
  have hown : s.vm.findClass RX8 = some m.cls := hown
  have hl : lv_has ls 8 [(0, .ref (aZ 0)), (1, .int p0), (2, .int p1), (3, .int p2), (4, .int p3)] := hl
  have hret : ∀ (v0 : Int32) (v1 : Mm) (H : Heap) (locs : List Loc) (ls : Array Slot) (pc : Nat), some (v0, v1) = some (rr, oZ) → narrow .int (.int v0) = .int v0 → va_P D vwCl (w_MD C aZ v1 mY) H → va_D A (w_MD C aZ v1 mY) → va_S A s.heap H locs → decode cX8_damp pc = .ok (.ireturn, 1) → W p l e rX8_damp s m args below meth c H locs 0 0 Q (F0 m pc ls [.int v0]) := by
    intro v0 v1 H locs ls pc h0 hn h1 h2 h3 h4
    cases h0
    exact hret H locs ls pc hn h1 h2 h3 h4
  have q0 := hts (.fieldLink RX8 41 "ForeRainModel" "now" "[I") (by decide +kernel)
  have iX8 : ∀ w ∈ u_ws RX8 TX8 26, w ∈ wsX8_damp := by decide +kernel
  refine lv_aload_n hx hb dX8_damp_0 rfl (lv_at hl 0 rfl) ?_
  refine lv_iload_n hx hb dX8_damp_1 rfl (lv_at hl 1 rfl) ?_
  obtain ⟨r1, hc, hf⟩ := kv_b1_e hf
  have hs9 : vv_Sub D H A (w_MD C aZ mZ mY) (w_MD C aZ mZ mY) (w_MD C aZ mZ mY) := vv_Sub.same (w_MD C aZ mZ mY) hP hD hS hA
  refine vv_goi (wn := (w_MD C aZ mZ mY)) hK hs9 hS (vv_rV (As := [.int p0]) (rest := []) hx hb hml hown hts hK hN hS hs9 (ccX8_isPiece l D C H.size aZ mZ mY p0 r1 hc) (cwV 1 hts gX8_damp_X8_isPiece rfl rfl rfl (by decide +kernel) ⟨(Nat.le_of_ble_eq_true rfl), (Nat.le_of_ble_eq_true rfl)⟩) (va_recv hK hP (ci := 8) (q0 := 0) rfl rfl) rfl hl.1 rfl (Nat.le_of_ble_eq_true rfl) dX8_damp_2 ⟨Nat.zero_le _, Nat.zero_le _⟩) (fun H locs hP hD hS => ?_)
  refine lv_if_eq (tgt := 38) hx hb dX8_damp_5 (by decide) (fun hc => ?_) (fun hc => ?_)
  · have hf := kv_t hc hf
    refine lv_iconst (v := (-1)) hx hb dX8_damp_38 (by decide) ?_
    exact hret _ _ _ _ _ _ hf rfl hP hD hS dX8_damp_39
  · have hf := kv_f hc hf
    refine lv_iload_n hx hb dX8_damp_8 rfl (lv_at hl 2 rfl) ?_
    refine lv_iconst (v := 0) hx hb dX8_damp_9 (by decide) ?_
    refine lv_bipush (v := 99) hx hb dX8_damp_10 (by decide) ?_
    obtain ⟨r2, hc, hf⟩ := kv_b1_e hf
    have hs9 : vv_Sub D H A ([] : va_W) ([] : va_W) (w_MD C aZ mZ mY) := vv_Sub.none hP hD hS hA
    refine vv_goi (wn := (w_MD C aZ mZ mY)) hK hs9 hS (vv_rS (As := [.int p1, .int 0, .int 99]) (rest := []) hx hb hml hown hts hK hN hS hs9 (ccX8_in l D C H.size p1 (0 : Int32) (99 : Int32) r2 hc) (va_cwS 3 hts gX8_damp_X8_in rfl rfl rfl (by decide +kernel) ⟨(Nat.le_of_ble_eq_true rfl), (Nat.le_of_ble_eq_true rfl)⟩) rfl hl.1 rfl (Nat.le_of_ble_eq_true rfl) dX8_damp_12 ⟨Nat.zero_le _, Nat.zero_le _⟩) (fun H locs hP hD hS => ?_)
    refine lv_if_eq (tgt := 38) hx hb dX8_damp_15 (by decide) (fun hc => ?_) (fun hc => ?_)
    · have hf := kv_t hc hf
      refine lv_iconst (v := (-1)) hx hb dX8_damp_38 (by decide) ?_
      exact hret _ _ _ _ _ _ hf rfl hP hD hS dX8_damp_39
    · have hf := kv_f hc hf
      refine lv_iload_n hx hb dX8_damp_18 rfl (lv_at hl 3 rfl) ?_
      refine lv_iload_n hx hb dX8_damp_19 rfl (lv_at hl 2 rfl) ?_
      refine lv_bipush (v := 99) hx hb dX8_damp_20 (by decide) ?_
      obtain ⟨r3, hc, hf⟩ := kv_b1_e hf
      have hs9 : vv_Sub D H A ([] : va_W) ([] : va_W) (w_MD C aZ mZ mY) := vv_Sub.none hP hD hS hA
      refine vv_goi (wn := (w_MD C aZ mZ mY)) hK hs9 hS (vv_rS (As := [.int p2, .int p1, .int 99]) (rest := []) hx hb hml hown hts hK hN hS hs9 (ccX8_in l D C H.size p2 p1 (99 : Int32) r3 hc) (va_cwS 3 hts gX8_damp_X8_in rfl rfl rfl (by decide +kernel) ⟨(Nat.le_of_ble_eq_true rfl), (Nat.le_of_ble_eq_true rfl)⟩) rfl hl.1 rfl (Nat.le_of_ble_eq_true rfl) dX8_damp_22 ⟨Nat.zero_le _, Nat.zero_le _⟩) (fun H locs hP hD hS => ?_)
      refine lv_if_eq (tgt := 38) hx hb dX8_damp_25 (by decide) (fun hc => ?_) (fun hc => ?_)
      · have hf := kv_t hc hf
        refine lv_iconst (v := (-1)) hx hb dX8_damp_38 (by decide) ?_
        exact hret _ _ _ _ _ _ hf rfl hP hD hS dX8_damp_39
      · have hf := kv_f hc hf
        refine lv_iload hx hb dX8_damp_28 (lv_at hl 4 rfl) ?_
        refine lv_iconst (v := 0) hx hb dX8_damp_30 (by decide) ?_
        refine lv_iconst (v := 1) hx hb dX8_damp_31 (by decide) ?_
        obtain ⟨r4, hc, hf⟩ := kv_b1_e hf
        have hs9 : vv_Sub D H A ([] : va_W) ([] : va_W) (w_MD C aZ mZ mY) := vv_Sub.none hP hD hS hA
        refine vv_goi (wn := (w_MD C aZ mZ mY)) hK hs9 hS (vv_rS (As := [.int p3, .int 0, .int 1]) (rest := []) hx hb hml hown hts hK hN hS hs9 (ccX8_in l D C H.size p3 (0 : Int32) (1 : Int32) r4 hc) (va_cwS 3 hts gX8_damp_X8_in rfl rfl rfl (by decide +kernel) ⟨(Nat.le_of_ble_eq_true rfl), (Nat.le_of_ble_eq_true rfl)⟩) rfl hl.1 rfl (Nat.le_of_ble_eq_true rfl) dX8_damp_32 ⟨Nat.zero_le _, Nat.zero_le _⟩) (fun H locs hP hD hS => ?_)
        refine lv_if_ne (tgt := 40) hx hb dX8_damp_35 (by decide) (fun hc => ?_) (fun hc => ?_)
        · have hf := kv_f hc hf
          refine lv_aload_n hx hb dX8_damp_40 rfl (lv_at hl 0 rfl) ?_
          refine lv_iconst (v := 0) hx hb dX8_damp_41 (by decide) ?_
          refine lv_bipush (v := 26) hx hb dX8_damp_42 (by decide) ?_
          obtain ⟨mZ5, hc, hf⟩ := kv_b1_e hf
          have hs9 : vv_Sub D H A (w_MD C aZ mZ mY) (w_MD C aZ mZ5 mY) (w_MD C aZ mZ5 mY) := vv_Sub.same (w_MD C aZ mZ5 mY) hP hD hS hA
          refine vv_gov (wn := (w_MD C aZ mZ5 mY)) hK hs9 hS (vv_rV (As := [.int 0, .int 26]) (rest := []) hx hb hml hown hts hK hN hS hs9 (ccX8_copy l D C H.size aZ mZ mY (0 : Int32) (26 : Int32) mZ5 hc) (cwV 2 hts gX8_damp_X8_copy rfl rfl rfl (by decide +kernel) ⟨(Nat.le_of_ble_eq_true rfl), (Nat.le_of_ble_eq_true rfl)⟩) (va_recv hK hP (ci := 8) (q0 := 0) rfl rfl) rfl hl.1 rfl (Nat.le_of_ble_eq_true rfl) dX8_damp_44 ⟨Nat.zero_le _, Nat.zero_le _⟩) (fun H locs hP hD hS => ?_)
          refine lv_bipush (v := (-9)) hx hb dX8_damp_47 (by decide) ?_
          refine lv_istore (lv' := [(5, .int (-9)), (0, .ref (aZ 0)), (1, .int p0), (2, .int p1), (3, .int p2), (4, .int p3)]) hx hb dX8_damp_49 hl (by decide) rfl (fun ls hl => ?_)
          refine lv_iconst (v := 0) hx hb dX8_damp_51 (by decide) ?_
          refine lv_istore (lv' := [(6, .int 0), (5, .int (-9)), (0, .ref (aZ 0)), (1, .int p0), (2, .int p1), (3, .int p2), (4, .int p3)]) hx hb dX8_damp_52 hl (by decide) rfl (fun ls hl => ?_)
          have L54 : ∀ (K54 : Int32 → Int32 → Mm → Option (Int32 × Mm)), (∀ (x6 : Int32) (x7 : Int32) (mZ8 : Mm) (H : Heap) (locs : List Loc) (ls : Array Slot), va_P D vwCl (w_MD C aZ mZ8 mY) H → va_D A (w_MD C aZ mZ8 mY) → va_S A s.heap H locs → lv_has ls 8 [(6, .int x6), (5, .int x7), (0, .ref (aZ 0)), (1, .int p0), (2, .int p1), (3, .int p2), (4, .int p3)] → K54 x6 x7 mZ8 = some (rr, oZ) → W p l e rX8_damp s m args below meth c H locs 0 0 Q (F0 m 117 ls [])) → ∀ (n : Nat) (x6 : Int32) (x7 : Int32) (mZ8 : Mm) (H : Heap) (locs : List Loc) (ls : Array Slot), va_P D vwCl (w_MD C aZ mZ8 mY) H → va_D A (w_MD C aZ mZ8 mY) → va_S A s.heap H locs → lv_has ls 8 [(6, .int x6), (5, .int x7), (0, .ref (aZ 0)), (1, .int p0), (2, .int p1), (3, .int p2), (4, .int p3)] → ffX8_damp_L54 p0 p1 p2 p3 K54 n x6 x7 mZ8 = some (rr, oZ) → W p l e rX8_damp s m args below meth c H locs 0 0 Q (F0 m 54 ls []) := by
            intro K54 hK9 n
            induction n with
            | zero => intro x6 x7 mZ8 H locs ls hP hD hS hl hf; exact kv_no hf
            | succ n ih =>
              intro x6 x7 mZ8 H locs ls hP hD hS hl hf
              rw [ffX8_damp_L54_s] at hf
              refine lv_iload hx hb dX8_damp_54 (lv_at hl 0 rfl) ?_
              refine lv_bipush (v := 99) hx hb dX8_damp_56 (by decide) ?_
              refine lv_icmp_gt (tgt := 117) hx hb dX8_damp_58 (by decide) (fun hc => ?_) (fun hc => ?_)
              · have hf := kv_t hc hf
                exact hK9 _ _ _ _ _ _ hP hD hS (lv_sub hl [0, 1, 2, 3, 4, 5, 6] rfl) hf
              · have hf := kv_f hc hf
                refine lv_aload_n hx hb dX8_damp_61 rfl (lv_at hl 2 rfl) ?_
                refine va_get (D := D) (ci := 8) (v := .ref (aZ 11)) (C := RX8) (T := TX8) (N := 26) hx hb hts iX8 hown hK hP 0 rfl rfl 17 (by decide) q0 (fun _ h9 => h9) rfl dX8_damp_62 ?_
                refine lv_bipush (v := 28) hx hb dX8_damp_65 (by decide) ?_
                refine lv_iload_n hx hb dX8_damp_67 rfl (lv_at hl 3 rfl) ?_
                refine lv_iadd hx hb dX8_damp_68 ?_
                obtain ⟨h9, hf⟩ := kv_ix_e hf
                refine va_iald hx hb hK hP 11 1 rfl rfl h9 dX8_damp_69 ?_
                refine lv_iload_n hx hb dX8_damp_70 rfl (lv_at hl 4 rfl) ?_
                refine lv_iload_n hx hb dX8_damp_71 rfl (lv_at hl 5 rfl) ?_
                obtain ⟨r9, hc, hf⟩ := kv_b1_e hf
                have hs9 : vv_Sub D H A ([] : va_W) ([] : va_W) (w_MD C aZ mZ8 mY) := vv_Sub.none hP hD hS hA
                refine vv_goi (wn := (w_MD C aZ mZ8 mY)) hK hs9 hS (vv_rS (As := [.int (mZ8 11 (28 + p0).toNatClampNeg), .int p1, .int p2]) (rest := []) hx hb hml hown hts hK hN hS hs9 (ccX8_in l D C H.size (mZ8 11 (28 + p0).toNatClampNeg) p1 p2 r9 hc) (va_cwS 3 hts gX8_damp_X8_in rfl rfl rfl (by decide +kernel) ⟨(Nat.le_of_ble_eq_true rfl), (Nat.le_of_ble_eq_true rfl)⟩) rfl hl.1 rfl (Nat.le_of_ble_eq_true rfl) dX8_damp_72 ⟨Nat.zero_le _, Nat.zero_le _⟩) (fun H locs hP hD hS => ?_)
                refine lv_istore (lv' := [(7, .int r9), (6, .int x6), (5, .int x7), (0, .ref (aZ 0)), (1, .int p0), (2, .int p1), (3, .int p2), (4, .int p3)]) hx hb dX8_damp_75 hl (by decide) rfl (fun ls hl => ?_)
                refine lv_iload hx hb dX8_damp_77 (lv_at hl 0 rfl) ?_
                obtain ⟨k102_10, ek102_10, hf⟩ := kv_lt_e hf
                have J102_10 : ∀ (x11 : Int32) (H : Heap) (locs : List Loc) (ls : Array Slot), va_P D vwCl (w_MD C aZ mZ8 mY) H → va_D A (w_MD C aZ mZ8 mY) → va_S A s.heap H locs → lv_has ls 8 [(6, .int x6), (0, .ref (aZ 0)), (1, .int p0), (2, .int p1), (3, .int p2), (4, .int p3)] → k102_10 x11 = some (rr, oZ) → W p l e rX8_damp s m args below meth c H locs 0 0 Q (F0 m 102 ls [.int x11]) := by
                  intro x11 H locs ls hP hD hS hl hf
                  rw [ek102_10] at hf
                  refine lv_istore (lv' := [(5, .int x11), (6, .int x6), (0, .ref (aZ 0)), (1, .int p0), (2, .int p1), (3, .int p2), (4, .int p3)]) hx hb dX8_damp_102 hl (by decide) rfl (fun ls hl => ?_)
                  refine lv_aload_n hx hb dX8_damp_104 rfl (lv_at hl 2 rfl) ?_
                  refine lv_bipush (v := 26) hx hb dX8_damp_105 (by decide) ?_
                  obtain ⟨r12, mZ13, hc, hf⟩ := kv_b2_e hf
                  have hs9 : vv_Sub D H A (w_MD C aZ mZ8 mY) (w_MD C aZ mZ13 mY) (w_MD C aZ mZ13 mY) := vv_Sub.same (w_MD C aZ mZ13 mY) hP hD hS hA
                  refine vv_goi (wn := (w_MD C aZ mZ13 mY)) hK hs9 hS (vv_rV (As := [.int 26]) (rest := []) hx hb hml hown hts hK hN hS hs9 (ccX8_goStep l D C H.size aZ mZ8 mY (26 : Int32) r12 mZ13 hc) (cwV 1 hts gX8_damp_X8_goStep rfl rfl rfl (by decide +kernel) ⟨(Nat.le_of_ble_eq_true rfl), (Nat.le_of_ble_eq_true rfl)⟩) (va_recv hK hP (ci := 8) (q0 := 0) rfl rfl) rfl hl.1 rfl (Nat.le_of_ble_eq_true rfl) dX8_damp_107 ⟨Nat.zero_le _, Nat.zero_le _⟩) (fun H locs hP hD hS => ?_)
                  refine lv_pop hx hb dX8_damp_110 rfl ?_
                  obtain ⟨x14, ex14, hf⟩ := kv_lt_e hf
                  refine lv_iinc (v := x14) (lv' := [(6, .int x14), (5, .int x11), (0, .ref (aZ 0)), (1, .int p0), (2, .int p1), (3, .int p2), (4, .int p3)]) hx hb dX8_damp_111 hl (k := 1) rfl (by rw [ex14]; rfl) (by decide) rfl (fun ls hl => ?_)
                  refine lv_goto (tgt := 54) hx hb dX8_damp_114 (by decide) ?_
                  exact ih _ _ _ _ _ _ hP hD hS (lv_sub hl [0, 1, 2, 3, 4, 5, 6] rfl) hf
                obtain ⟨k100_15, ek100_15, hf⟩ := kv_lt_e hf
                have J100_15 : ∀  (H : Heap) (locs : List Loc) (ls : Array Slot), va_P D vwCl (w_MD C aZ mZ8 mY) H → va_D A (w_MD C aZ mZ8 mY) → va_S A s.heap H locs → lv_has ls 8 [(6, .int x6), (5, .int x7), (0, .ref (aZ 0)), (1, .int p0), (2, .int p1), (3, .int p2), (4, .int p3)] → k100_15  = some (rr, oZ) → W p l e rX8_damp s m args below meth c H locs 0 0 Q (F0 m 100 ls []) := by
                  intro  H locs ls hP hD hS hl hf
                  rw [ek100_15] at hf
                  refine lv_iload hx hb dX8_damp_100 (lv_at hl 1 rfl) ?_
                  exact J102_10 _ _ _ _ hP hD hS (lv_sub hl [0, 2, 3, 4, 5, 6] rfl) hf
                refine lv_if_eq (tgt := 100) hx hb dX8_damp_79 (by decide) (fun hc => ?_) (fun hc => ?_)
                · have hf := kv_t hc hf
                  exact J100_15 _ _ _ hP hD hS (lv_sub hl [1, 2, 3, 4, 5, 6, 7] rfl) hf
                · have hf := kv_f hc hf
                  refine lv_iload hx hb dX8_damp_82 (lv_at hl 7 rfl) ?_
                  refine lv_iconst (v := 1) hx hb dX8_damp_84 (by decide) ?_
                  obtain ⟨k95_16, ek95_16, hf⟩ := kv_lt_e hf
                  have J95_16 : ∀  (H : Heap) (locs : List Loc) (ls : Array Slot), va_P D vwCl (w_MD C aZ mZ8 mY) H → va_D A (w_MD C aZ mZ8 mY) → va_S A s.heap H locs → lv_has ls 8 [(6, .int x6), (0, .ref (aZ 0)), (1, .int p0), (2, .int p1), (3, .int p2), (4, .int p3)] → k95_16  = some (rr, oZ) → W p l e rX8_damp s m args below meth c H locs 0 0 Q (F0 m 95 ls []) := by
                    intro  H locs ls hP hD hS hl hf
                    rw [ek95_16] at hf
                    refine lv_iload hx hb dX8_damp_95 (lv_at hl 0 rfl) ?_
                    refine lv_goto (tgt := 102) hx hb dX8_damp_97 (by decide) ?_
                    exact J102_10 _ _ _ _ hP hD hS (lv_sub hl [0, 1, 2, 3, 4, 5] rfl) hf
                  refine lv_icmp_eq (tgt := 95) hx hb dX8_damp_85 (by decide) (fun hc => ?_) (fun hc => ?_)
                  · have hf := kv_t hc hf
                    exact J95_16 _ _ _ hP hD hS (lv_sub hl [1, 3, 4, 5, 6, 7] rfl) hf
                  · have hf := kv_f hc hf
                    refine lv_iload hx hb dX8_damp_88 (lv_at hl 2 rfl) ?_
                    refine lv_bipush (v := (-9)) hx hb dX8_damp_90 (by decide) ?_
                    refine lv_icmp_ne (tgt := 100) hx hb dX8_damp_92 (by decide) (fun hc => ?_) (fun hc => ?_)
                    · have hf := kv_f hc hf
                      exact J100_15 _ _ _ hP hD hS (lv_sub hl [1, 2, 3, 4, 5, 6, 7] rfl) hf
                    · have hf := kv_t hc hf
                      exact J95_16 _ _ _ hP hD hS (lv_sub hl [1, 3, 4, 5, 6, 7] rfl) hf
          refine L54 _ (fun x17 x18 mZ19 H locs ls hP hD hS hl hf => ?_) _ _ _ _ _ _ _ hP hD hS (lv_sub hl [0, 1, 2, 3, 4, 5, 6] rfl) hf
          refine lv_iload hx hb dX8_damp_117 (lv_at hl 1 rfl) ?_
          exact hret _ _ _ _ _ _ hf rfl hP hD hS dX8_damp_119
        · have hf := kv_t hc hf
          refine lv_iconst (v := (-1)) hx hb dX8_damp_38 (by decide) ?_
          exact hret _ _ _ _ _ _ hf rfl hP hD hS dX8_damp_39
abbrev rX8_here : Room := { frames := 0, cells := 0, slots := 0, locals := 0 }
set_option maxHeartbeats 4000000 in
set_option maxRecDepth 100000 in
theorem ccX8_here (l : Launch) (D : va_G) (C : Nat → ClassId) (sz : Nat) (aZ : Nat → Nat) (mZ : Mm) (mY : Int64) (rr : Int32) (hf : ffX8_here mZ = some (rr)) : Met l yX8_here wsX8_here rX8_here (va_Pc [.ref (aZ 0)] (vv_pre D C (w_MD C aZ mZ mY) sz)) (vv_QI D C (w_MD C aZ mZ mY) (w_MD C aZ mZ mY) sz rr) 0 0 (va_A (w_MD C aZ mZ mY) sz) := by
  unfold ffX8_here at hf
  refine vv_metI (cc := cX8_here) (maxL := 1) (ty := .int) (by decide) rfl (Nat.le_of_ble_eq_true rfl) ?_
  intro p e s m args below meth c A Q H locs ls hx hb hml hown hts hA hK hN hP hD hS hl hret
  have hown : s.vm.findClass RX8 = some m.cls := hown
  have hl : lv_has ls 1 [(0, .ref (aZ 0))] := hl
  have hret : ∀ (v0 : Int32) (H : Heap) (locs : List Loc) (ls : Array Slot) (pc : Nat), some (v0) = some (rr) → narrow .int (.int v0) = .int v0 → va_P D vwCl (w_MD C aZ mZ mY) H → va_D A (w_MD C aZ mZ mY) → va_S A s.heap H locs → decode cX8_here pc = .ok (.ireturn, 1) → W p l e rX8_here s m args below meth c H locs 0 0 Q (F0 m pc ls [.int v0]) := by
    intro v0 H locs ls pc h0 hn h1 h2 h3 h4
    cases h0
    exact hret H locs ls pc hn h1 h2 h3 h4
  have q0 := hts (.fieldLink RX8 76 "ForeRainModel" "at" "I") (by decide +kernel)
  have q1 := hts (.fieldLink RX8 70 "ForeRainModel" "typed" "I") (by decide +kernel)
  have q2 := hts (.fieldLink RX8 7 "ForeRainModel" "text" "[B") (by decide +kernel)
  have iX8 : ∀ w ∈ u_ws RX8 TX8 26, w ∈ wsX8_here := by decide +kernel
  refine lv_aload_n hx hb dX8_here_0 rfl (lv_at hl 0 rfl) ?_
  refine va_get (D := D) (ci := 8) (v := .int (mZ 0 12)) (C := RX8) (T := TX8) (N := 26) hx hb hts iX8 hown hK hP 0 rfl rfl 12 (by decide) q0 (fun _ h9 => h9) rfl dX8_here_1 ?_
  refine lv_aload_n hx hb dX8_here_4 rfl (lv_at hl 0 rfl) ?_
  refine va_get (D := D) (ci := 8) (v := .int (mZ 0 2)) (C := RX8) (T := TX8) (N := 26) hx hb hts iX8 hown hK hP 0 rfl rfl 2 (by decide) q1 (fun _ h9 => h9) rfl dX8_here_5 ?_
  refine lv_icmp_ge (tgt := 27) hx hb dX8_here_8 (by decide) (fun hc => ?_) (fun hc => ?_)
  · have hf := kv_t hc hf
    refine lv_iconst (v := (-1)) hx hb dX8_here_27 (by decide) ?_
    exact hret _ _ _ _ _ hf rfl hP hD hS dX8_here_28
  · have hf := kv_f hc hf
    refine lv_aload_n hx hb dX8_here_11 rfl (lv_at hl 0 rfl) ?_
    refine va_get (D := D) (ci := 8) (v := .ref (aZ 1)) (C := RX8) (T := TX8) (N := 26) hx hb hts iX8 hown hK hP 0 rfl rfl 1 (by decide) q2 (fun _ h9 => h9) rfl dX8_here_12 ?_
    refine lv_aload_n hx hb dX8_here_15 rfl (lv_at hl 0 rfl) ?_
    refine va_get (D := D) (ci := 8) (v := .int (mZ 0 12)) (C := RX8) (T := TX8) (N := 26) hx hb hts iX8 hown hK hP 0 rfl rfl 12 (by decide) q0 (fun _ h9 => h9) rfl dX8_here_16 ?_
    obtain ⟨h9, hf⟩ := kv_ix_e hf
    refine va_bald hx hb hK hP 1 0 rfl rfl h9 dX8_here_19 ?_
    refine lv_sipush (v := 255) hx hb dX8_here_20 (by decide) ?_
    refine lv_iand hx hb dX8_here_23 ?_
    refine lv_goto (tgt := 28) hx hb dX8_here_24 (by decide) ?_
    exact hret _ _ _ _ _ hf rfl hP hD hS dX8_here_28
abbrev rX8_meaning : Room := { frames := 0, cells := 0, slots := 0, locals := 0 }
set_option maxHeartbeats 4000000 in
set_option maxRecDepth 100000 in
theorem ccX8_meaning (l : Launch) (D : va_G) (C : Nat → ClassId) (sz : Nat) (p0 : Int32) (rr : Int32) (hf : ffX8_meaning p0 = some (rr)) : Met l yX8_meaning wsX8_meaning rX8_meaning (va_Pc [.int p0] (vv_pre D C ([] : va_W) sz)) (vv_QI D C ([] : va_W) ([] : va_W) sz rr) 0 0 (va_A ([] : va_W) sz) := by
  unfold ffX8_meaning at hf
  refine vv_metI (cc := cX8_meaning) (maxL := 1) (ty := .int) (by decide) rfl (Nat.le_of_ble_eq_true rfl) ?_
  intro p e s m args below meth c A Q H locs ls hx hb hml hown hts hA hK hN hP hD hS hl hret
  have hown : s.vm.findClass RX8 = some m.cls := hown
  have hl : lv_has ls 1 [(0, .int p0)] := hl
  have hret : ∀ (v0 : Int32) (H : Heap) (locs : List Loc) (ls : Array Slot) (pc : Nat), some (v0) = some (rr) → narrow .int (.int v0) = .int v0 → va_P D vwCl ([] : va_W) H → va_D A ([] : va_W) → va_S A s.heap H locs → decode cX8_meaning pc = .ok (.ireturn, 1) → W p l e rX8_meaning s m args below meth c H locs 0 0 Q (F0 m pc ls [.int v0]) := by
    intro v0 H locs ls pc h0 hn h1 h2 h3 h4
    cases h0
    exact hret H locs ls pc hn h1 h2 h3 h4
  refine lv_iload_n hx hb dX8_meaning_0 rfl (lv_at hl 0 rfl) ?_
  by_cases c0 : p0 = 14432
  · have hf := kv_t c0 hf
    refine lv_lookup (off := 47) (tgt := 48) hx hb dX8_meaning_1 (by decide) (by rw [c0]; decide) (by decide) ?_
    refine lv_iconst (v := 2) hx hb dX8_meaning_48 (by decide) ?_
    exact hret _ _ _ _ _ hf rfl hP hD hS dX8_meaning_49
  have hf := kv_f c0 hf
  by_cases c1 : p0 = 355280
  · have hf := kv_t c1 hf
    refine lv_lookup (off := 49) (tgt := 50) hx hb dX8_meaning_1 (by decide) (by rw [c1]; decide) (by decide) ?_
    refine lv_iconst (v := 3) hx hb dX8_meaning_50 (by decide) ?_
    exact hret _ _ _ _ _ hf rfl hP hD hS dX8_meaning_51
  have hf := kv_f c1 hf
  by_cases c2 : p0 = 386066
  · have hf := kv_t c2 hf
    refine lv_lookup (off := 45) (tgt := 46) hx hb dX8_meaning_1 (by decide) (by rw [c2]; decide) (by decide) ?_
    refine lv_iconst (v := 1) hx hb dX8_meaning_46 (by decide) ?_
    exact hret _ _ _ _ _ hf rfl hP hD hS dX8_meaning_47
  have hf := kv_f c2 hf
  by_cases c3 : p0 = 8683934
  · have hf := kv_t c3 hf
    refine lv_lookup (off := 43) (tgt := 44) hx hb dX8_meaning_1 (by decide) (by rw [c3]; decide) (by decide) ?_
    refine lv_iconst (v := 0) hx hb dX8_meaning_44 (by decide) ?_
    exact hret _ _ _ _ _ hf rfl hP hD hS dX8_meaning_45
  have hf := kv_f c3 hf
  refine lv_lookup (off := 51) (tgt := 52) hx hb dX8_meaning_1 (by decide) (by have a0 : p0.toInt ≠ 14432 := kv_ti c0; have a1 : p0.toInt ≠ 355280 := kv_ti c1; have a2 : p0.toInt ≠ 386066 := kv_ti c2; have a3 : p0.toInt ≠ 8683934 := kv_ti c3; simp [Op.lookupswitch.offset, a0, a0.symm, a1, a1.symm, a2, a2.symm, a3, a3.symm]) (by decide) ?_
  refine lv_bipush (v := 7) hx hb dX8_meaning_52 (by decide) ?_
  exact hret _ _ _ _ _ hf rfl hP hD hS dX8_meaning_54
abbrev rX8_next : Room := { frames := 1, cells := 0, slots := 0, locals := 22 }
set_option maxHeartbeats 4000000 in
set_option maxRecDepth 100000 in
theorem ccX8_next (l : Launch) (D : va_G) (C : Nat → ClassId) (sz : Nat) (aZ : Nat → Nat) (mZ : Mm) (mY : Int64) (oZ : Mm) (hf : ffX8_next mZ = some (oZ)) : Met l yX8_next wsX8_next rX8_next (va_Pc [.ref (aZ 0)] (vv_pre D C (w_MD C aZ mZ mY) sz)) (vv_QV D C (w_MD C aZ mZ mY) (w_MD C aZ oZ mY) sz) 0 0 (va_A (w_MD C aZ mZ mY) sz) := by
  unfold ffX8_next at hf
  refine vv_metV (cc := cX8_next) (maxL := 3) (by decide) rfl (Nat.le_of_ble_eq_true rfl) ?_
  intro p e s m args below meth c A Q H locs ls hx hb hml hown hts hA hK hN hP hD hS hl hret
  have hown : s.vm.findClass RX8 = some m.cls := hown
  have hl : lv_has ls 3 [(0, .ref (aZ 0))] := hl
  have hret : ∀ (v0 : Mm) (H : Heap) (locs : List Loc) (ls : Array Slot) (pc : Nat), some (v0) = some (oZ) → va_P D vwCl (w_MD C aZ v0 mY) H → va_D A (w_MD C aZ v0 mY) → va_S A s.heap H locs → decode cX8_next pc = .ok (.return_, 1) → W p l e rX8_next s m args below meth c H locs 0 0 Q (F0 m pc ls []) := by
    intro v0 H locs ls pc h0 h1 h2 h3 h4
    cases h0
    exact hret H locs ls pc h1 h2 h3 h4
  have q0 := hts (.fieldLink RX8 76 "ForeRainModel" "at" "I") (by decide +kernel)
  have q1 := hts (.fieldLink RX8 83 "ForeRainModel" "start" "I") (by decide +kernel)
  have q2 := hts (.fieldLink RX8 86 "ForeRainModel" "value" "I") (by decide +kernel)
  have q3 := hts (.fieldLink RX8 89 "ForeRainModel" "sort" "I") (by decide +kernel)
  have iX8 : ∀ w ∈ u_ws RX8 TX8 26, w ∈ wsX8_next := by decide +kernel
  have L0 : ∀ (K0 : Mm → Option (Mm)), (∀ (mZ1 : Mm) (H : Heap) (locs : List Loc) (ls : Array Slot), va_P D vwCl (w_MD C aZ mZ1 mY) H → va_D A (w_MD C aZ mZ1 mY) → va_S A s.heap H locs → lv_has ls 3 [(0, .ref (aZ 0))] → K0 mZ1 = some (oZ) → W p l e rX8_next s m args below meth c H locs 0 0 Q (F0 m 22 ls [])) → ∀ (n : Nat) (mZ1 : Mm) (H : Heap) (locs : List Loc) (ls : Array Slot), va_P D vwCl (w_MD C aZ mZ1 mY) H → va_D A (w_MD C aZ mZ1 mY) → va_S A s.heap H locs → lv_has ls 3 [(0, .ref (aZ 0))] → ffX8_next_L0  K0 n mZ1 = some (oZ) → W p l e rX8_next s m args below meth c H locs 0 0 Q (F0 m 0 ls []) := by
    intro K0 hK9 n
    induction n with
    | zero => intro mZ1 H locs ls hP hD hS hl hf; exact kv_no hf
    | succ n ih =>
      intro mZ1 H locs ls hP hD hS hl hf
      rw [ffX8_next_L0_s] at hf
      refine lv_aload_n hx hb dX8_next_0 rfl (lv_at hl 0 rfl) ?_
      obtain ⟨r2, hc, hf⟩ := kv_b1_e hf
      have hs9 : vv_Sub D H A (w_MD C aZ mZ1 mY) (w_MD C aZ mZ1 mY) (w_MD C aZ mZ1 mY) := vv_Sub.same (w_MD C aZ mZ1 mY) hP hD hS hA
      refine vv_goi (wn := (w_MD C aZ mZ1 mY)) hK hs9 hS (vv_rV (As := []) (rest := []) hx hb hml hown hts hK hN hS hs9 (ccX8_here l D C H.size aZ mZ1 mY r2 hc) (cwV 0 hts gX8_next_X8_here rfl rfl rfl (by decide +kernel) ⟨(Nat.le_of_ble_eq_true rfl), (Nat.le_of_ble_eq_true rfl)⟩) (va_recv hK hP (ci := 8) (q0 := 0) rfl rfl) rfl hl.1 rfl (Nat.le_of_ble_eq_true rfl) dX8_next_1 ⟨Nat.zero_le _, Nat.zero_le _⟩) (fun H locs hP hD hS => ?_)
      refine lv_bipush (v := 32) hx hb dX8_next_4 (by decide) ?_
      refine lv_icmp_ne (tgt := 22) hx hb dX8_next_6 (by decide) (fun hc => ?_) (fun hc => ?_)
      · have hf := kv_f hc hf
        exact hK9 _ _ _ _ hP hD hS (lv_sub hl [0] rfl) hf
      · have hf := kv_t hc hf
        refine lv_aload_n hx hb dX8_next_9 rfl (lv_at hl 0 rfl) ?_
        refine lv_dup hx hb dX8_next_10 rfl ?_
        refine va_get (D := D) (ci := 8) (v := .int (mZ1 0 12)) (C := RX8) (T := TX8) (N := 26) hx hb hts iX8 hown hK hP 0 rfl rfl 12 (by decide) q0 (fun _ h9 => h9) rfl dX8_next_11 ?_
        refine lv_iconst (v := 1) hx hb dX8_next_14 (by decide) ?_
        refine lv_iadd hx hb dX8_next_15 ?_
        obtain ⟨x3, ex3, hf⟩ := kv_lt_e hf
        refine vv_nami ex3 ?_
        obtain ⟨mZ4, emZ4, hf⟩ := kv_lt_e hf
        refine va_put (D := D) (ci := 8) (v := .int x3) (ty := .int) (C := RX8) (T := TX8) (N := 26) hx hb hts iX8 tyX8 tyX8_ok nmX8 hown hK hP hD hS 0 rfl rfl 12 (by decide) q0 (fun _ h9 => h9) rfl (tyX8_ok 12 (by decide)) rfl rfl (Nat.le_of_ble_eq_true rfl) dX8_next_16 (fun H locs hP hD hS => ?_)
        have hP : va_P D vwCl (w_MD C aZ mZ4 mY) H := by rw [emZ4]; exact hP
        have hD : va_D A (w_MD C aZ mZ4 mY) := by rw [emZ4]; exact hD
        refine lv_goto (tgt := 0) hx hb dX8_next_19 (by decide) ?_
        exact ih _ _ _ _ hP hD hS (lv_sub hl [0] rfl) hf
  refine L0 _ (fun mZ5 H locs ls hP hD hS hl hf => ?_) _ _ _ _ _ hP hD hS (lv_sub hl [0] rfl) hf
  refine lv_aload_n hx hb dX8_next_22 rfl (lv_at hl 0 rfl) ?_
  refine lv_aload_n hx hb dX8_next_23 rfl (lv_at hl 0 rfl) ?_
  refine va_get (D := D) (ci := 8) (v := .int (mZ5 0 12)) (C := RX8) (T := TX8) (N := 26) hx hb hts iX8 hown hK hP 0 rfl rfl 12 (by decide) q0 (fun _ h9 => h9) rfl dX8_next_24 ?_
  obtain ⟨x6, ex6, hf⟩ := kv_lt_e hf
  refine vv_nami ex6 ?_
  obtain ⟨mZ7, emZ7, hf⟩ := kv_lt_e hf
  refine va_put (D := D) (ci := 8) (v := .int x6) (ty := .int) (C := RX8) (T := TX8) (N := 26) hx hb hts iX8 tyX8 tyX8_ok nmX8 hown hK hP hD hS 0 rfl rfl 13 (by decide) q1 (fun _ h9 => h9) rfl (tyX8_ok 13 (by decide)) rfl rfl (Nat.le_of_ble_eq_true rfl) dX8_next_27 (fun H locs hP hD hS => ?_)
  have hP : va_P D vwCl (w_MD C aZ mZ7 mY) H := by rw [emZ7]; exact hP
  have hD : va_D A (w_MD C aZ mZ7 mY) := by rw [emZ7]; exact hD
  refine lv_aload_n hx hb dX8_next_30 rfl (lv_at hl 0 rfl) ?_
  refine lv_iconst (v := 0) hx hb dX8_next_31 (by decide) ?_
  obtain ⟨mZ8, emZ8, hf⟩ := kv_lt_e hf
  refine va_put (D := D) (ci := 8) (v := .int 0) (ty := .int) (C := RX8) (T := TX8) (N := 26) hx hb hts iX8 tyX8 tyX8_ok nmX8 hown hK hP hD hS 0 rfl rfl 15 (by decide) q2 (fun _ h9 => h9) rfl (tyX8_ok 15 (by decide)) rfl rfl (Nat.le_of_ble_eq_true rfl) dX8_next_32 (fun H locs hP hD hS => ?_)
  have hP : va_P D vwCl (w_MD C aZ mZ8 mY) H := by rw [emZ8]; exact hP
  have hD : va_D A (w_MD C aZ mZ8 mY) := by rw [emZ8]; exact hD
  refine lv_aload_n hx hb dX8_next_35 rfl (lv_at hl 0 rfl) ?_
  obtain ⟨r9, hc, hf⟩ := kv_b1_e hf
  have hs9 : vv_Sub D H A (w_MD C aZ mZ8 mY) (w_MD C aZ mZ8 mY) (w_MD C aZ mZ8 mY) := vv_Sub.same (w_MD C aZ mZ8 mY) hP hD hS hA
  refine vv_goi (wn := (w_MD C aZ mZ8 mY)) hK hs9 hS (vv_rV (As := []) (rest := []) hx hb hml hown hts hK hN hS hs9 (ccX8_here l D C H.size aZ mZ8 mY r9 hc) (cwV 0 hts gX8_next_X8_here rfl rfl rfl (by decide +kernel) ⟨(Nat.le_of_ble_eq_true rfl), (Nat.le_of_ble_eq_true rfl)⟩) (va_recv hK hP (ci := 8) (q0 := 0) rfl rfl) rfl hl.1 rfl (Nat.le_of_ble_eq_true rfl) dX8_next_36 ⟨Nat.zero_le _, Nat.zero_le _⟩) (fun H locs hP hD hS => ?_)
  refine lv_istore_n (lv' := [(1, .int r9), (0, .ref (aZ 0))]) hx hb dX8_next_39 rfl hl (by decide) rfl (fun ls hl => ?_)
  refine lv_iload_n hx hb dX8_next_40 rfl (lv_at hl 0 rfl) ?_
  refine lv_if_ge (tgt := 52) hx hb dX8_next_41 (by decide) (fun hc => ?_) (fun hc => ?_)
  · have hf := kv_t hc hf
    refine lv_iload_n hx hb dX8_next_52 rfl (lv_at hl 0 rfl) ?_
    refine lv_bipush (v := 97) hx hb dX8_next_53 (by decide) ?_
    refine lv_bipush (v := 122) hx hb dX8_next_55 (by decide) ?_
    obtain ⟨r10, hc, hf⟩ := kv_b1_e hf
    have hs9 : vv_Sub D H A ([] : va_W) ([] : va_W) (w_MD C aZ mZ8 mY) := vv_Sub.none hP hD hS hA
    refine vv_goi (wn := (w_MD C aZ mZ8 mY)) hK hs9 hS (vv_rS (As := [.int r9, .int 97, .int 122]) (rest := []) hx hb hml hown hts hK hN hS hs9 (ccX8_in l D C H.size r9 (97 : Int32) (122 : Int32) r10 hc) (va_cwS 3 hts gX8_next_X8_in rfl rfl rfl (by decide +kernel) ⟨(Nat.le_of_ble_eq_true rfl), (Nat.le_of_ble_eq_true rfl)⟩) rfl hl.1 rfl (Nat.le_of_ble_eq_true rfl) dX8_next_57 ⟨Nat.zero_le _, Nat.zero_le _⟩) (fun H locs hP hD hS => ?_)
    refine lv_if_eq (tgt := 150) hx hb dX8_next_60 (by decide) (fun hc => ?_) (fun hc => ?_)
    · have hf := kv_t hc hf
      refine lv_iload_n hx hb dX8_next_150 rfl (lv_at hl 0 rfl) ?_
      refine lv_bipush (v := 48) hx hb dX8_next_151 (by decide) ?_
      refine lv_bipush (v := 57) hx hb dX8_next_153 (by decide) ?_
      obtain ⟨r11, hc, hf⟩ := kv_b1_e hf
      have hs9 : vv_Sub D H A ([] : va_W) ([] : va_W) (w_MD C aZ mZ8 mY) := vv_Sub.none hP hD hS hA
      refine vv_goi (wn := (w_MD C aZ mZ8 mY)) hK hs9 hS (vv_rS (As := [.int r9, .int 48, .int 57]) (rest := []) hx hb hml hown hts hK hN hS hs9 (ccX8_in l D C H.size r9 (48 : Int32) (57 : Int32) r11 hc) (va_cwS 3 hts gX8_next_X8_in rfl rfl rfl (by decide +kernel) ⟨(Nat.le_of_ble_eq_true rfl), (Nat.le_of_ble_eq_true rfl)⟩) rfl hl.1 rfl (Nat.le_of_ble_eq_true rfl) dX8_next_155 ⟨Nat.zero_le _, Nat.zero_le _⟩) (fun H locs hP hD hS => ?_)
      refine lv_if_eq (tgt := 264) hx hb dX8_next_158 (by decide) (fun hc => ?_) (fun hc => ?_)
      · have hf := kv_t hc hf
        refine lv_aload_n hx hb dX8_next_264 rfl (lv_at hl 1 rfl) ?_
        refine lv_dup hx hb dX8_next_265 rfl ?_
        refine va_get (D := D) (ci := 8) (v := .int (mZ8 0 12)) (C := RX8) (T := TX8) (N := 26) hx hb hts iX8 hown hK hP 0 rfl rfl 12 (by decide) q0 (fun _ h9 => h9) rfl dX8_next_266 ?_
        refine lv_iconst (v := 1) hx hb dX8_next_269 (by decide) ?_
        refine lv_iadd hx hb dX8_next_270 ?_
        obtain ⟨x12, ex12, hf⟩ := kv_lt_e hf
        refine vv_nami ex12 ?_
        obtain ⟨mZ13, emZ13, hf⟩ := kv_lt_e hf
        refine va_put (D := D) (ci := 8) (v := .int x12) (ty := .int) (C := RX8) (T := TX8) (N := 26) hx hb hts iX8 tyX8 tyX8_ok nmX8 hown hK hP hD hS 0 rfl rfl 12 (by decide) q0 (fun _ h9 => h9) rfl (tyX8_ok 12 (by decide)) rfl rfl (Nat.le_of_ble_eq_true rfl) dX8_next_271 (fun H locs hP hD hS => ?_)
        have hP : va_P D vwCl (w_MD C aZ mZ13 mY) H := by rw [emZ13]; exact hP
        have hD : va_D A (w_MD C aZ mZ13 mY) := by rw [emZ13]; exact hD
        refine lv_aload_n hx hb dX8_next_274 rfl (lv_at hl 1 rfl) ?_
        refine lv_iload_n hx hb dX8_next_275 rfl (lv_at hl 0 rfl) ?_
        refine lv_bipush (v := 59) hx hb dX8_next_276 (by decide) ?_
        refine lv_icmp_ne (tgt := 286) hx hb dX8_next_278 (by decide) (fun hc => ?_) (fun hc => ?_)
        · have hf := kv_f hc hf
          refine lv_bipush (v := 7) hx hb dX8_next_286 (by decide) ?_
          obtain ⟨mZ14, emZ14, hf⟩ := kv_lt_e hf
          refine va_put (D := D) (ci := 8) (v := .int 7) (ty := .int) (C := RX8) (T := TX8) (N := 26) hx hb hts iX8 tyX8 tyX8_ok nmX8 hown hK hP hD hS 0 rfl rfl 14 (by decide) q3 (fun _ h9 => h9) rfl (tyX8_ok 14 (by decide)) rfl rfl (Nat.le_of_ble_eq_true rfl) dX8_next_288 (fun H locs hP hD hS => ?_)
          have hP : va_P D vwCl (w_MD C aZ mZ14 mY) H := by rw [emZ14]; exact hP
          have hD : va_D A (w_MD C aZ mZ14 mY) := by rw [emZ14]; exact hD
          exact hret _ _ _ _ _ hf hP hD hS dX8_next_291
        · have hf := kv_t hc hf
          refine lv_bipush (v := 6) hx hb dX8_next_281 (by decide) ?_
          refine lv_goto (tgt := 288) hx hb dX8_next_283 (by decide) ?_
          obtain ⟨mZ15, emZ15, hf⟩ := kv_lt_e hf
          refine va_put (D := D) (ci := 8) (v := .int 6) (ty := .int) (C := RX8) (T := TX8) (N := 26) hx hb hts iX8 tyX8 tyX8_ok nmX8 hown hK hP hD hS 0 rfl rfl 14 (by decide) q3 (fun _ h9 => h9) rfl (tyX8_ok 14 (by decide)) rfl rfl (Nat.le_of_ble_eq_true rfl) dX8_next_288 (fun H locs hP hD hS => ?_)
          have hP : va_P D vwCl (w_MD C aZ mZ15 mY) H := by rw [emZ15]; exact hP
          have hD : va_D A (w_MD C aZ mZ15 mY) := by rw [emZ15]; exact hD
          exact hret _ _ _ _ _ hf hP hD hS dX8_next_291
      · have hf := kv_f hc hf
        have L161 : ∀ (K161 : Mm → Option (Mm)), (∀ (mZ16 : Mm) (H : Heap) (locs : List Loc) (ls : Array Slot), va_P D vwCl (w_MD C aZ mZ16 mY) H → va_D A (w_MD C aZ mZ16 mY) → va_S A s.heap H locs → lv_has ls 3 [(1, .int r9), (0, .ref (aZ 0))] → K161 mZ16 = some (oZ) → W p l e rX8_next s m args below meth c H locs 0 0 Q (F0 m 223 ls [])) → ∀ (n : Nat) (mZ16 : Mm) (H : Heap) (locs : List Loc) (ls : Array Slot), va_P D vwCl (w_MD C aZ mZ16 mY) H → va_D A (w_MD C aZ mZ16 mY) → va_S A s.heap H locs → lv_has ls 3 [(1, .int r9), (0, .ref (aZ 0))] → ffX8_next_L161  K161 n mZ16 = some (oZ) → W p l e rX8_next s m args below meth c H locs 0 0 Q (F0 m 161 ls []) := by
          intro K161 hK9 n
          induction n with
          | zero => intro mZ16 H locs ls hP hD hS hl hf; exact kv_no hf
          | succ n ih =>
            intro mZ16 H locs ls hP hD hS hl hf
            rw [ffX8_next_L161_s] at hf
            refine lv_aload_n hx hb dX8_next_161 rfl (lv_at hl 1 rfl) ?_
            obtain ⟨r17, hc, hf⟩ := kv_b1_e hf
            have hs9 : vv_Sub D H A (w_MD C aZ mZ16 mY) (w_MD C aZ mZ16 mY) (w_MD C aZ mZ16 mY) := vv_Sub.same (w_MD C aZ mZ16 mY) hP hD hS hA
            refine vv_goi (wn := (w_MD C aZ mZ16 mY)) hK hs9 hS (vv_rV (As := []) (rest := []) hx hb hml hown hts hK hN hS hs9 (ccX8_here l D C H.size aZ mZ16 mY r17 hc) (cwV 0 hts gX8_next_X8_here rfl rfl rfl (by decide +kernel) ⟨(Nat.le_of_ble_eq_true rfl), (Nat.le_of_ble_eq_true rfl)⟩) (va_recv hK hP (ci := 8) (q0 := 0) rfl rfl) rfl hl.1 rfl (Nat.le_of_ble_eq_true rfl) dX8_next_162 ⟨Nat.zero_le _, Nat.zero_le _⟩) (fun H locs hP hD hS => ?_)
            refine lv_bipush (v := 48) hx hb dX8_next_165 (by decide) ?_
            refine lv_bipush (v := 57) hx hb dX8_next_167 (by decide) ?_
            obtain ⟨r18, hc, hf⟩ := kv_b1_e hf
            have hs9 : vv_Sub D H A ([] : va_W) ([] : va_W) (w_MD C aZ mZ16 mY) := vv_Sub.none hP hD hS hA
            refine vv_goi (wn := (w_MD C aZ mZ16 mY)) hK hs9 hS (vv_rS (As := [.int r17, .int 48, .int 57]) (rest := []) hx hb hml hown hts hK hN hS hs9 (ccX8_in l D C H.size r17 (48 : Int32) (57 : Int32) r18 hc) (va_cwS 3 hts gX8_next_X8_in rfl rfl rfl (by decide +kernel) ⟨(Nat.le_of_ble_eq_true rfl), (Nat.le_of_ble_eq_true rfl)⟩) rfl hl.1 rfl (Nat.le_of_ble_eq_true rfl) dX8_next_169 ⟨Nat.zero_le _, Nat.zero_le _⟩) (fun H locs hP hD hS => ?_)
            refine lv_if_eq (tgt := 223) hx hb dX8_next_172 (by decide) (fun hc => ?_) (fun hc => ?_)
            · have hf := kv_t hc hf
              exact hK9 _ _ _ _ hP hD hS (lv_sub hl [0, 1] rfl) hf
            · have hf := kv_f hc hf
              refine lv_aload_n hx hb dX8_next_175 rfl (lv_at hl 1 rfl) ?_
              refine lv_aload_n hx hb dX8_next_176 rfl (lv_at hl 1 rfl) ?_
              refine va_get (D := D) (ci := 8) (v := .int (mZ16 0 15)) (C := RX8) (T := TX8) (N := 26) hx hb hts iX8 hown hK hP 0 rfl rfl 15 (by decide) q2 (fun _ h9 => h9) rfl dX8_next_177 ?_
              refine lv_bipush (v := 99) hx hb dX8_next_180 (by decide) ?_
              obtain ⟨k207_19, ek207_19, hf⟩ := kv_lt_e hf
              have J207_19 : ∀ (x20 : Int32) (H : Heap) (locs : List Loc) (ls : Array Slot), va_P D vwCl (w_MD C aZ mZ16 mY) H → va_D A (w_MD C aZ mZ16 mY) → va_S A s.heap H locs → lv_has ls 3 [(1, .int r9), (0, .ref (aZ 0))] → k207_19 x20 = some (oZ) → W p l e rX8_next s m args below meth c H locs 0 0 Q (F0 m 207 ls [.int x20, .ref (aZ 0)]) := by
                intro x20 H locs ls hP hD hS hl hf
                rw [ek207_19] at hf
                obtain ⟨mZ21, emZ21, hf⟩ := kv_lt_e hf
                refine va_put (D := D) (ci := 8) (v := .int x20) (ty := .int) (C := RX8) (T := TX8) (N := 26) hx hb hts iX8 tyX8 tyX8_ok nmX8 hown hK hP hD hS 0 rfl rfl 15 (by decide) q2 (fun _ h9 => h9) rfl (tyX8_ok 15 (by decide)) rfl rfl (Nat.le_of_ble_eq_true rfl) dX8_next_207 (fun H locs hP hD hS => ?_)
                have hP : va_P D vwCl (w_MD C aZ mZ21 mY) H := by rw [emZ21]; exact hP
                have hD : va_D A (w_MD C aZ mZ21 mY) := by rw [emZ21]; exact hD
                refine lv_aload_n hx hb dX8_next_210 rfl (lv_at hl 1 rfl) ?_
                refine lv_dup hx hb dX8_next_211 rfl ?_
                refine va_get (D := D) (ci := 8) (v := .int (mZ21 0 12)) (C := RX8) (T := TX8) (N := 26) hx hb hts iX8 hown hK hP 0 rfl rfl 12 (by decide) q0 (fun _ h9 => h9) rfl dX8_next_212 ?_
                refine lv_iconst (v := 1) hx hb dX8_next_215 (by decide) ?_
                refine lv_iadd hx hb dX8_next_216 ?_
                obtain ⟨x22, ex22, hf⟩ := kv_lt_e hf
                refine vv_nami ex22 ?_
                obtain ⟨mZ23, emZ23, hf⟩ := kv_lt_e hf
                refine va_put (D := D) (ci := 8) (v := .int x22) (ty := .int) (C := RX8) (T := TX8) (N := 26) hx hb hts iX8 tyX8 tyX8_ok nmX8 hown hK hP hD hS 0 rfl rfl 12 (by decide) q0 (fun _ h9 => h9) rfl (tyX8_ok 12 (by decide)) rfl rfl (Nat.le_of_ble_eq_true rfl) dX8_next_217 (fun H locs hP hD hS => ?_)
                have hP : va_P D vwCl (w_MD C aZ mZ23 mY) H := by rw [emZ23]; exact hP
                have hD : va_D A (w_MD C aZ mZ23 mY) := by rw [emZ23]; exact hD
                refine lv_goto (tgt := 161) hx hb dX8_next_220 (by decide) ?_
                exact ih _ _ _ _ hP hD hS (lv_sub hl [0, 1] rfl) hf
              refine lv_icmp_le (tgt := 192) hx hb dX8_next_182 (by decide) (fun hc => ?_) (fun hc => ?_)
              · have hf := kv_t hc hf
                refine lv_bipush (v := 10) hx hb dX8_next_192 (by decide) ?_
                refine lv_aload_n hx hb dX8_next_194 rfl (lv_at hl 1 rfl) ?_
                refine va_get (D := D) (ci := 8) (v := .int (mZ16 0 15)) (C := RX8) (T := TX8) (N := 26) hx hb hts iX8 hown hK hP 0 rfl rfl 15 (by decide) q2 (fun _ h9 => h9) rfl dX8_next_195 ?_
                refine lv_imul hx hb dX8_next_198 ?_
                refine lv_aload_n hx hb dX8_next_199 rfl (lv_at hl 1 rfl) ?_
                obtain ⟨r24, hc, hf⟩ := kv_b1_e hf
                have hs9 : vv_Sub D H A (w_MD C aZ mZ16 mY) (w_MD C aZ mZ16 mY) (w_MD C aZ mZ16 mY) := vv_Sub.same (w_MD C aZ mZ16 mY) hP hD hS hA
                refine vv_goi (wn := (w_MD C aZ mZ16 mY)) hK hs9 hS (vv_rV (As := []) (rest := [.int (10 * (mZ16 0 15)), .ref (aZ 0)]) hx hb hml hown hts hK hN hS hs9 (ccX8_here l D C H.size aZ mZ16 mY r24 hc) (cwV 0 hts gX8_next_X8_here rfl rfl rfl (by decide +kernel) ⟨(Nat.le_of_ble_eq_true rfl), (Nat.le_of_ble_eq_true rfl)⟩) (va_recv hK hP (ci := 8) (q0 := 0) rfl rfl) rfl hl.1 rfl (Nat.le_of_ble_eq_true rfl) dX8_next_200 ⟨Nat.zero_le _, Nat.zero_le _⟩) (fun H locs hP hD hS => ?_)
                refine lv_iadd hx hb dX8_next_203 ?_
                refine lv_bipush (v := 48) hx hb dX8_next_204 (by decide) ?_
                refine lv_isub hx hb dX8_next_206 ?_
                exact J207_19 _ _ _ _ hP hD hS (lv_sub hl [0, 1] rfl) hf
              · have hf := kv_f hc hf
                refine lv_aload_n hx hb dX8_next_185 rfl (lv_at hl 1 rfl) ?_
                refine va_get (D := D) (ci := 8) (v := .int (mZ16 0 15)) (C := RX8) (T := TX8) (N := 26) hx hb hts iX8 hown hK hP 0 rfl rfl 15 (by decide) q2 (fun _ h9 => h9) rfl dX8_next_186 ?_
                refine lv_goto (tgt := 207) hx hb dX8_next_189 (by decide) ?_
                exact J207_19 _ _ _ _ hP hD hS (lv_sub hl [0, 1] rfl) hf
        refine L161 _ (fun mZ25 H locs ls hP hD hS hl hf => ?_) _ _ _ _ _ hP hD hS (lv_sub hl [0, 1] rfl) hf
        refine lv_aload_n hx hb dX8_next_223 rfl (lv_at hl 1 rfl) ?_
        refine lv_aload_n hx hb dX8_next_224 rfl (lv_at hl 1 rfl) ?_
        refine va_get (D := D) (ci := 8) (v := .int (mZ25 0 15)) (C := RX8) (T := TX8) (N := 26) hx hb hts iX8 hown hK hP 0 rfl rfl 15 (by decide) q2 (fun _ h9 => h9) rfl dX8_next_225 ?_
        refine lv_bipush (v := 99) hx hb dX8_next_228 (by decide) ?_
        obtain ⟨k252_26, ek252_26, hf⟩ := kv_lt_e hf
        have J252_26 : ∀  (H : Heap) (locs : List Loc) (ls : Array Slot), va_P D vwCl (w_MD C aZ mZ25 mY) H → va_D A (w_MD C aZ mZ25 mY) → va_S A s.heap H locs → lv_has ls 3 [] → k252_26  = some (oZ) → W p l e rX8_next s m args below meth c H locs 0 0 Q (F0 m 252 ls [.ref (aZ 0)]) := by
          intro  H locs ls hP hD hS hl hf
          rw [ek252_26] at hf
          refine lv_bipush (v := 7) hx hb dX8_next_252 (by decide) ?_
          refine lv_goto (tgt := 258) hx hb dX8_next_254 (by decide) ?_
          obtain ⟨mZ27, emZ27, hf⟩ := kv_lt_e hf
          refine va_put (D := D) (ci := 8) (v := .int 7) (ty := .int) (C := RX8) (T := TX8) (N := 26) hx hb hts iX8 tyX8 tyX8_ok nmX8 hown hK hP hD hS 0 rfl rfl 14 (by decide) q3 (fun _ h9 => h9) rfl (tyX8_ok 14 (by decide)) rfl rfl (Nat.le_of_ble_eq_true rfl) dX8_next_258 (fun H locs hP hD hS => ?_)
          have hP : va_P D vwCl (w_MD C aZ mZ27 mY) H := by rw [emZ27]; exact hP
          have hD : va_D A (w_MD C aZ mZ27 mY) := by rw [emZ27]; exact hD
          refine lv_goto (tgt := 291) hx hb dX8_next_261 (by decide) ?_
          exact hret _ _ _ _ _ hf hP hD hS dX8_next_291
        refine lv_icmp_gt (tgt := 252) hx hb dX8_next_230 (by decide) (fun hc => ?_) (fun hc => ?_)
        · have hf := kv_t hc hf
          exact J252_26 _ _ _ hP hD hS (lv_sub hl [] rfl) hf
        · have hf := kv_f hc hf
          refine lv_iload_n hx hb dX8_next_233 rfl (lv_at hl 0 rfl) ?_
          refine lv_bipush (v := 48) hx hb dX8_next_234 (by decide) ?_
          refine lv_icmp_ne (tgt := 257) hx hb dX8_next_236 (by decide) (fun hc => ?_) (fun hc => ?_)
          · have hf := kv_f hc hf
            refine lv_iconst (v := 5) hx hb dX8_next_257 (by decide) ?_
            obtain ⟨mZ28, emZ28, hf⟩ := kv_lt_e hf
            refine va_put (D := D) (ci := 8) (v := .int 5) (ty := .int) (C := RX8) (T := TX8) (N := 26) hx hb hts iX8 tyX8 tyX8_ok nmX8 hown hK hP hD hS 0 rfl rfl 14 (by decide) q3 (fun _ h9 => h9) rfl (tyX8_ok 14 (by decide)) rfl rfl (Nat.le_of_ble_eq_true rfl) dX8_next_258 (fun H locs hP hD hS => ?_)
            have hP : va_P D vwCl (w_MD C aZ mZ28 mY) H := by rw [emZ28]; exact hP
            have hD : va_D A (w_MD C aZ mZ28 mY) := by rw [emZ28]; exact hD
            refine lv_goto (tgt := 291) hx hb dX8_next_261 (by decide) ?_
            exact hret _ _ _ _ _ hf hP hD hS dX8_next_291
          · have hf := kv_t hc hf
            refine lv_aload_n hx hb dX8_next_239 rfl (lv_at hl 1 rfl) ?_
            refine va_get (D := D) (ci := 8) (v := .int (mZ25 0 12)) (C := RX8) (T := TX8) (N := 26) hx hb hts iX8 hown hK hP 0 rfl rfl 12 (by decide) q0 (fun _ h9 => h9) rfl dX8_next_240 ?_
            refine lv_aload_n hx hb dX8_next_243 rfl (lv_at hl 1 rfl) ?_
            refine va_get (D := D) (ci := 8) (v := .int (mZ25 0 13)) (C := RX8) (T := TX8) (N := 26) hx hb hts iX8 hown hK hP 0 rfl rfl 13 (by decide) q1 (fun _ h9 => h9) rfl dX8_next_244 ?_
            refine lv_isub hx hb dX8_next_247 ?_
            refine lv_iconst (v := 1) hx hb dX8_next_248 (by decide) ?_
            refine lv_icmp_le (tgt := 257) hx hb dX8_next_249 (by decide) (fun hc => ?_) (fun hc => ?_)
            · have hf := kv_t hc hf
              refine lv_iconst (v := 5) hx hb dX8_next_257 (by decide) ?_
              obtain ⟨mZ29, emZ29, hf⟩ := kv_lt_e hf
              refine va_put (D := D) (ci := 8) (v := .int 5) (ty := .int) (C := RX8) (T := TX8) (N := 26) hx hb hts iX8 tyX8 tyX8_ok nmX8 hown hK hP hD hS 0 rfl rfl 14 (by decide) q3 (fun _ h9 => h9) rfl (tyX8_ok 14 (by decide)) rfl rfl (Nat.le_of_ble_eq_true rfl) dX8_next_258 (fun H locs hP hD hS => ?_)
              have hP : va_P D vwCl (w_MD C aZ mZ29 mY) H := by rw [emZ29]; exact hP
              have hD : va_D A (w_MD C aZ mZ29 mY) := by rw [emZ29]; exact hD
              refine lv_goto (tgt := 291) hx hb dX8_next_261 (by decide) ?_
              exact hret _ _ _ _ _ hf hP hD hS dX8_next_291
            · have hf := kv_f hc hf
              exact J252_26 _ _ _ hP hD hS (lv_sub hl [] rfl) hf
    · have hf := kv_f hc hf
      refine lv_iconst (v := 0) hx hb dX8_next_63 (by decide) ?_
      refine lv_istore_n (lv' := [(2, .int 0), (1, .int r9), (0, .ref (aZ 0))]) hx hb dX8_next_64 rfl hl (by decide) rfl (fun ls hl => ?_)
      have L65 : ∀ (K65 : Int32 → Mm → Option (Mm)), (∀ (x30 : Int32) (mZ31 : Mm) (H : Heap) (locs : List Loc) (ls : Array Slot), va_P D vwCl (w_MD C aZ mZ31 mY) H → va_D A (w_MD C aZ mZ31 mY) → va_S A s.heap H locs → lv_has ls 3 [(2, .int x30), (0, .ref (aZ 0))] → K65 x30 mZ31 = some (oZ) → W p l e rX8_next s m args below meth c H locs 0 0 Q (F0 m 122 ls [])) → ∀ (n : Nat) (x30 : Int32) (mZ31 : Mm) (H : Heap) (locs : List Loc) (ls : Array Slot), va_P D vwCl (w_MD C aZ mZ31 mY) H → va_D A (w_MD C aZ mZ31 mY) → va_S A s.heap H locs → lv_has ls 3 [(2, .int x30), (0, .ref (aZ 0))] → ffX8_next_L65  K65 n x30 mZ31 = some (oZ) → W p l e rX8_next s m args below meth c H locs 0 0 Q (F0 m 65 ls []) := by
        intro K65 hK9 n
        induction n with
        | zero => intro x30 mZ31 H locs ls hP hD hS hl hf; exact kv_no hf
        | succ n ih =>
          intro x30 mZ31 H locs ls hP hD hS hl hf
          rw [ffX8_next_L65_s] at hf
          refine lv_aload_n hx hb dX8_next_65 rfl (lv_at hl 1 rfl) ?_
          obtain ⟨r32, hc, hf⟩ := kv_b1_e hf
          have hs9 : vv_Sub D H A (w_MD C aZ mZ31 mY) (w_MD C aZ mZ31 mY) (w_MD C aZ mZ31 mY) := vv_Sub.same (w_MD C aZ mZ31 mY) hP hD hS hA
          refine vv_goi (wn := (w_MD C aZ mZ31 mY)) hK hs9 hS (vv_rV (As := []) (rest := []) hx hb hml hown hts hK hN hS hs9 (ccX8_here l D C H.size aZ mZ31 mY r32 hc) (cwV 0 hts gX8_next_X8_here rfl rfl rfl (by decide +kernel) ⟨(Nat.le_of_ble_eq_true rfl), (Nat.le_of_ble_eq_true rfl)⟩) (va_recv hK hP (ci := 8) (q0 := 0) rfl rfl) rfl hl.1 rfl (Nat.le_of_ble_eq_true rfl) dX8_next_66 ⟨Nat.zero_le _, Nat.zero_le _⟩) (fun H locs hP hD hS => ?_)
          refine lv_bipush (v := 97) hx hb dX8_next_69 (by decide) ?_
          refine lv_bipush (v := 122) hx hb dX8_next_71 (by decide) ?_
          obtain ⟨r33, hc, hf⟩ := kv_b1_e hf
          have hs9 : vv_Sub D H A ([] : va_W) ([] : va_W) (w_MD C aZ mZ31 mY) := vv_Sub.none hP hD hS hA
          refine vv_goi (wn := (w_MD C aZ mZ31 mY)) hK hs9 hS (vv_rS (As := [.int r32, .int 97, .int 122]) (rest := []) hx hb hml hown hts hK hN hS hs9 (ccX8_in l D C H.size r32 (97 : Int32) (122 : Int32) r33 hc) (va_cwS 3 hts gX8_next_X8_in rfl rfl rfl (by decide +kernel) ⟨(Nat.le_of_ble_eq_true rfl), (Nat.le_of_ble_eq_true rfl)⟩) rfl hl.1 rfl (Nat.le_of_ble_eq_true rfl) dX8_next_73 ⟨Nat.zero_le _, Nat.zero_le _⟩) (fun H locs hP hD hS => ?_)
          refine lv_if_eq (tgt := 122) hx hb dX8_next_76 (by decide) (fun hc => ?_) (fun hc => ?_)
          · have hf := kv_t hc hf
            exact hK9 _ _ _ _ _ hP hD hS (lv_sub hl [0, 1] rfl) hf
          · have hf := kv_f hc hf
            refine lv_aload_n hx hb dX8_next_79 rfl (lv_at hl 1 rfl) ?_
            refine va_get (D := D) (ci := 8) (v := .int (mZ31 0 12)) (C := RX8) (T := TX8) (N := 26) hx hb hts iX8 hown hK hP 0 rfl rfl 12 (by decide) q0 (fun _ h9 => h9) rfl dX8_next_80 ?_
            refine lv_aload_n hx hb dX8_next_83 rfl (lv_at hl 1 rfl) ?_
            refine va_get (D := D) (ci := 8) (v := .int (mZ31 0 13)) (C := RX8) (T := TX8) (N := 26) hx hb hts iX8 hown hK hP 0 rfl rfl 13 (by decide) q1 (fun _ h9 => h9) rfl dX8_next_84 ?_
            refine lv_isub hx hb dX8_next_87 ?_
            refine lv_iconst (v := 5) hx hb dX8_next_88 (by decide) ?_
            obtain ⟨k108_34, ek108_34, hf⟩ := kv_lt_e hf
            have J108_34 : ∀ (x35 : Int32) (H : Heap) (locs : List Loc) (ls : Array Slot), va_P D vwCl (w_MD C aZ mZ31 mY) H → va_D A (w_MD C aZ mZ31 mY) → va_S A s.heap H locs → lv_has ls 3 [(0, .ref (aZ 0))] → k108_34 x35 = some (oZ) → W p l e rX8_next s m args below meth c H locs 0 0 Q (F0 m 108 ls [.int x35]) := by
              intro x35 H locs ls hP hD hS hl hf
              rw [ek108_34] at hf
              refine lv_istore_n (lv' := [(2, .int x35), (0, .ref (aZ 0))]) hx hb dX8_next_108 rfl hl (by decide) rfl (fun ls hl => ?_)
              refine lv_aload_n hx hb dX8_next_109 rfl (lv_at hl 1 rfl) ?_
              refine lv_dup hx hb dX8_next_110 rfl ?_
              refine va_get (D := D) (ci := 8) (v := .int (mZ31 0 12)) (C := RX8) (T := TX8) (N := 26) hx hb hts iX8 hown hK hP 0 rfl rfl 12 (by decide) q0 (fun _ h9 => h9) rfl dX8_next_111 ?_
              refine lv_iconst (v := 1) hx hb dX8_next_114 (by decide) ?_
              refine lv_iadd hx hb dX8_next_115 ?_
              obtain ⟨x36, ex36, hf⟩ := kv_lt_e hf
              refine vv_nami ex36 ?_
              obtain ⟨mZ37, emZ37, hf⟩ := kv_lt_e hf
              refine va_put (D := D) (ci := 8) (v := .int x36) (ty := .int) (C := RX8) (T := TX8) (N := 26) hx hb hts iX8 tyX8 tyX8_ok nmX8 hown hK hP hD hS 0 rfl rfl 12 (by decide) q0 (fun _ h9 => h9) rfl (tyX8_ok 12 (by decide)) rfl rfl (Nat.le_of_ble_eq_true rfl) dX8_next_116 (fun H locs hP hD hS => ?_)
              have hP : va_P D vwCl (w_MD C aZ mZ37 mY) H := by rw [emZ37]; exact hP
              have hD : va_D A (w_MD C aZ mZ37 mY) := by rw [emZ37]; exact hD
              refine lv_goto (tgt := 65) hx hb dX8_next_119 (by decide) ?_
              exact ih _ _ _ _ _ hP hD hS (lv_sub hl [0, 1] rfl) hf
            refine lv_icmp_ge (tgt := 107) hx hb dX8_next_89 (by decide) (fun hc => ?_) (fun hc => ?_)
            · have hf := kv_t hc hf
              refine lv_iconst (v := 0) hx hb dX8_next_107 (by decide) ?_
              exact J108_34 _ _ _ _ hP hD hS (lv_sub hl [1] rfl) hf
            · have hf := kv_f hc hf
              refine lv_bipush (v := 27) hx hb dX8_next_92 (by decide) ?_
              refine lv_iload_n hx hb dX8_next_94 rfl (lv_at hl 0 rfl) ?_
              refine lv_imul hx hb dX8_next_95 ?_
              refine lv_aload_n hx hb dX8_next_96 rfl (lv_at hl 1 rfl) ?_
              obtain ⟨r38, hc, hf⟩ := kv_b1_e hf
              have hs9 : vv_Sub D H A (w_MD C aZ mZ31 mY) (w_MD C aZ mZ31 mY) (w_MD C aZ mZ31 mY) := vv_Sub.same (w_MD C aZ mZ31 mY) hP hD hS hA
              refine vv_goi (wn := (w_MD C aZ mZ31 mY)) hK hs9 hS (vv_rV (As := []) (rest := [.int (27 * x30)]) hx hb hml hown hts hK hN hS hs9 (ccX8_here l D C H.size aZ mZ31 mY r38 hc) (cwV 0 hts gX8_next_X8_here rfl rfl rfl (by decide +kernel) ⟨(Nat.le_of_ble_eq_true rfl), (Nat.le_of_ble_eq_true rfl)⟩) (va_recv hK hP (ci := 8) (q0 := 0) rfl rfl) rfl hl.1 rfl (Nat.le_of_ble_eq_true rfl) dX8_next_97 ⟨Nat.zero_le _, Nat.zero_le _⟩) (fun H locs hP hD hS => ?_)
              refine lv_iadd hx hb dX8_next_100 ?_
              refine lv_bipush (v := 96) hx hb dX8_next_101 (by decide) ?_
              refine lv_isub hx hb dX8_next_103 ?_
              refine lv_goto (tgt := 108) hx hb dX8_next_104 (by decide) ?_
              exact J108_34 _ _ _ _ hP hD hS (lv_sub hl [1] rfl) hf
      refine L65 _ (fun x39 mZ40 H locs ls hP hD hS hl hf => ?_) _ _ _ _ _ _ hP hD hS (lv_sub hl [0, 2] rfl) hf
      refine lv_aload_n hx hb dX8_next_122 rfl (lv_at hl 1 rfl) ?_
      refine lv_aload_n hx hb dX8_next_123 rfl (lv_at hl 1 rfl) ?_
      refine va_get (D := D) (ci := 8) (v := .int (mZ40 0 12)) (C := RX8) (T := TX8) (N := 26) hx hb hts iX8 hown hK hP 0 rfl rfl 12 (by decide) q0 (fun _ h9 => h9) rfl dX8_next_124 ?_
      refine lv_aload_n hx hb dX8_next_127 rfl (lv_at hl 1 rfl) ?_
      refine va_get (D := D) (ci := 8) (v := .int (mZ40 0 13)) (C := RX8) (T := TX8) (N := 26) hx hb hts iX8 hown hK hP 0 rfl rfl 13 (by decide) q1 (fun _ h9 => h9) rfl dX8_next_128 ?_
      refine lv_isub hx hb dX8_next_131 ?_
      refine lv_iconst (v := 5) hx hb dX8_next_132 (by decide) ?_
      obtain ⟨k141_41, ek141_41, hf⟩ := kv_lt_e hf
      have J141_41 : ∀ (x42 : Int32) (H : Heap) (locs : List Loc) (ls : Array Slot), va_P D vwCl (w_MD C aZ mZ40 mY) H → va_D A (w_MD C aZ mZ40 mY) → va_S A s.heap H locs → lv_has ls 3 [] → k141_41 x42 = some (oZ) → W p l e rX8_next s m args below meth c H locs 0 0 Q (F0 m 141 ls [.int x42, .ref (aZ 0)]) := by
        intro x42 H locs ls hP hD hS hl hf
        rw [ek141_41] at hf
        obtain ⟨r43, hc, hf⟩ := kv_b1_e hf
        have hs9 : vv_Sub D H A ([] : va_W) ([] : va_W) (w_MD C aZ mZ40 mY) := vv_Sub.none hP hD hS hA
        refine vv_goi (wn := (w_MD C aZ mZ40 mY)) hK hs9 hS (vv_rS (As := [.int x42]) (rest := [.ref (aZ 0)]) hx hb hml hown hts hK hN hS hs9 (ccX8_meaning l D C H.size x42 r43 hc) (va_cwS 1 hts gX8_next_X8_meaning rfl rfl rfl (by decide +kernel) ⟨(Nat.le_of_ble_eq_true rfl), (Nat.le_of_ble_eq_true rfl)⟩) rfl hl.1 rfl (Nat.le_of_ble_eq_true rfl) dX8_next_141 ⟨Nat.zero_le _, Nat.zero_le _⟩) (fun H locs hP hD hS => ?_)
        obtain ⟨mZ44, emZ44, hf⟩ := kv_lt_e hf
        refine va_put (D := D) (ci := 8) (v := .int r43) (ty := .int) (C := RX8) (T := TX8) (N := 26) hx hb hts iX8 tyX8 tyX8_ok nmX8 hown hK hP hD hS 0 rfl rfl 14 (by decide) q3 (fun _ h9 => h9) rfl (tyX8_ok 14 (by decide)) rfl rfl (Nat.le_of_ble_eq_true rfl) dX8_next_144 (fun H locs hP hD hS => ?_)
        have hP : va_P D vwCl (w_MD C aZ mZ44 mY) H := by rw [emZ44]; exact hP
        have hD : va_D A (w_MD C aZ mZ44 mY) := by rw [emZ44]; exact hD
        refine lv_goto (tgt := 291) hx hb dX8_next_147 (by decide) ?_
        exact hret _ _ _ _ _ hf hP hD hS dX8_next_291
      refine lv_icmp_le (tgt := 140) hx hb dX8_next_133 (by decide) (fun hc => ?_) (fun hc => ?_)
      · have hf := kv_t hc hf
        refine lv_iload_n hx hb dX8_next_140 rfl (lv_at hl 0 rfl) ?_
        exact J141_41 _ _ _ _ hP hD hS (lv_sub hl [] rfl) hf
      · have hf := kv_f hc hf
        refine lv_iconst (v := 0) hx hb dX8_next_136 (by decide) ?_
        refine lv_goto (tgt := 141) hx hb dX8_next_137 (by decide) ?_
        exact J141_41 _ _ _ _ hP hD hS (lv_sub hl [] rfl) hf
  · have hf := kv_f hc hf
    refine lv_aload_n hx hb dX8_next_44 rfl (lv_at hl 1 rfl) ?_
    refine lv_iconst (v := 4) hx hb dX8_next_45 (by decide) ?_
    obtain ⟨mZ45, emZ45, hf⟩ := kv_lt_e hf
    refine va_put (D := D) (ci := 8) (v := .int 4) (ty := .int) (C := RX8) (T := TX8) (N := 26) hx hb hts iX8 tyX8 tyX8_ok nmX8 hown hK hP hD hS 0 rfl rfl 14 (by decide) q3 (fun _ h9 => h9) rfl (tyX8_ok 14 (by decide)) rfl rfl (Nat.le_of_ble_eq_true rfl) dX8_next_46 (fun H locs hP hD hS => ?_)
    have hP : va_P D vwCl (w_MD C aZ mZ45 mY) H := by rw [emZ45]; exact hP
    have hD : va_D A (w_MD C aZ mZ45 mY) := by rw [emZ45]; exact hD
    refine lv_goto (tgt := 291) hx hb dX8_next_49 (by decide) ?_
    exact hret _ _ _ _ _ hf hP hD hS dX8_next_291
abbrev rX8_due : Room := { frames := 2, cells := 0, slots := 0, locals := 44 }
set_option maxHeartbeats 4000000 in
set_option maxRecDepth 100000 in
theorem ccX8_due (l : Launch) (D : va_G) (C : Nat → ClassId) (sz : Nat) (aZ : Nat → Nat) (mZ : Mm) (mY : Int64) (p0 : Int32) (rr : Int32) (oZ : Mm) (hf : ffX8_due p0 mZ = some (rr, oZ)) : Met l yX8_due wsX8_due rX8_due (va_Pc [.ref (aZ 0), .int p0] (vv_pre D C (w_MD C aZ mZ mY) sz)) (vv_QI D C (w_MD C aZ mZ mY) (w_MD C aZ oZ mY) sz rr) 0 0 (va_A (w_MD C aZ mZ mY) sz) := by
  unfold ffX8_due at hf
  refine vv_metI (cc := cX8_due) (maxL := 3) (ty := .int) (by decide) rfl (Nat.le_of_ble_eq_true rfl) ?_
  intro p e s m args below meth c A Q H locs ls hx hb hml hown hts hA hK hN hP hD hS hl hret
  have hown : s.vm.findClass RX8 = some m.cls := hown
  have hl : lv_has ls 3 [(0, .ref (aZ 0)), (1, .int p0)] := hl
  have hret : ∀ (v0 : Int32) (v1 : Mm) (H : Heap) (locs : List Loc) (ls : Array Slot) (pc : Nat), some (v0, v1) = some (rr, oZ) → narrow .int (.int v0) = .int v0 → va_P D vwCl (w_MD C aZ v1 mY) H → va_D A (w_MD C aZ v1 mY) → va_S A s.heap H locs → decode cX8_due pc = .ok (.ireturn, 1) → W p l e rX8_due s m args below meth c H locs 0 0 Q (F0 m pc ls [.int v0]) := by
    intro v0 v1 H locs ls pc h0 hn h1 h2 h3 h4
    cases h0
    exact hret H locs ls pc hn h1 h2 h3 h4
  have q0 := hts (.fieldLink RX8 86 "ForeRainModel" "value" "I") (by decide +kernel)
  have q1 := hts (.fieldLink RX8 96 "ForeRainModel" "fault" "I") (by decide +kernel)
  have q2 := hts (.fieldLink RX8 83 "ForeRainModel" "start" "I") (by decide +kernel)
  have iX8 : ∀ w ∈ u_ws RX8 TX8 26, w ∈ wsX8_due := by decide +kernel
  refine lv_aload_n hx hb dX8_due_0 rfl (lv_at hl 0 rfl) ?_
  refine va_get (D := D) (ci := 8) (v := .int (mZ 0 15)) (C := RX8) (T := TX8) (N := 26) hx hb hts iX8 hown hK hP 0 rfl rfl 15 (by decide) q0 (fun _ h9 => h9) rfl dX8_due_1 ?_
  obtain ⟨x1, ex1, hf⟩ := kv_lt_e hf
  refine vv_nami ex1 ?_
  refine lv_istore_n (lv' := [(2, .int x1), (0, .ref (aZ 0)), (1, .int p0)]) hx hb dX8_due_4 rfl hl (by decide) rfl (fun ls hl => ?_)
  refine lv_aload_n hx hb dX8_due_5 rfl (lv_at hl 1 rfl) ?_
  refine va_get (D := D) (ci := 8) (v := .int (mZ 0 16)) (C := RX8) (T := TX8) (N := 26) hx hb hts iX8 hown hK hP 0 rfl rfl 16 (by decide) q1 (fun _ h9 => h9) rfl dX8_due_6 ?_
  refine lv_bipush (v := (-9)) hx hb dX8_due_9 (by decide) ?_
  refine lv_icmp_ne (tgt := 33) hx hb dX8_due_11 (by decide) (fun hc => ?_) (fun hc => ?_)
  · have hf := kv_f hc hf
    refine lv_iload_n hx hb dX8_due_33 rfl (lv_at hl 0 rfl) ?_
    exact hret _ _ _ _ _ _ hf rfl hP hD hS dX8_due_34
  · have hf := kv_t hc hf
    refine lv_iload_n hx hb dX8_due_14 rfl (lv_at hl 2 rfl) ?_
    refine lv_if_eq (tgt := 25) hx hb dX8_due_15 (by decide) (fun hc => ?_) (fun hc => ?_)
    · have hf := kv_t hc hf
      refine lv_aload_n hx hb dX8_due_25 rfl (lv_at hl 1 rfl) ?_
      refine lv_aload_n hx hb dX8_due_26 rfl (lv_at hl 1 rfl) ?_
      refine va_get (D := D) (ci := 8) (v := .int (mZ 0 13)) (C := RX8) (T := TX8) (N := 26) hx hb hts iX8 hown hK hP 0 rfl rfl 13 (by decide) q2 (fun _ h9 => h9) rfl dX8_due_27 ?_
      obtain ⟨x2, ex2, hf⟩ := kv_lt_e hf
      refine vv_nami ex2 ?_
      obtain ⟨mZ3, emZ3, hf⟩ := kv_lt_e hf
      refine va_put (D := D) (ci := 8) (v := .int x2) (ty := .int) (C := RX8) (T := TX8) (N := 26) hx hb hts iX8 tyX8 tyX8_ok nmX8 hown hK hP hD hS 0 rfl rfl 16 (by decide) q1 (fun _ h9 => h9) rfl (tyX8_ok 16 (by decide)) rfl rfl (Nat.le_of_ble_eq_true rfl) dX8_due_30 (fun H locs hP hD hS => ?_)
      have hP : va_P D vwCl (w_MD C aZ mZ3 mY) H := by rw [emZ3]; exact hP
      have hD : va_D A (w_MD C aZ mZ3 mY) := by rw [emZ3]; exact hD
      refine lv_iload_n hx hb dX8_due_33 rfl (lv_at hl 0 rfl) ?_
      exact hret _ _ _ _ _ _ hf rfl hP hD hS dX8_due_34
    · have hf := kv_f hc hf
      refine lv_aload_n hx hb dX8_due_18 rfl (lv_at hl 1 rfl) ?_
      obtain ⟨mZ4, hc, hf⟩ := kv_b1_e hf
      have hs9 : vv_Sub D H A (w_MD C aZ mZ mY) (w_MD C aZ mZ4 mY) (w_MD C aZ mZ4 mY) := vv_Sub.same (w_MD C aZ mZ4 mY) hP hD hS hA
      refine vv_gov (wn := (w_MD C aZ mZ4 mY)) hK hs9 hS (vv_rV (As := []) (rest := []) hx hb hml hown hts hK hN hS hs9 (ccX8_next l D C H.size aZ mZ mY mZ4 hc) (cwV 0 hts gX8_due_X8_next rfl rfl rfl (by decide +kernel) ⟨(Nat.le_of_ble_eq_true rfl), (Nat.le_of_ble_eq_true rfl)⟩) (va_recv hK hP (ci := 8) (q0 := 0) rfl rfl) rfl hl.1 rfl (Nat.le_of_ble_eq_true rfl) dX8_due_19 ⟨Nat.zero_le _, Nat.zero_le _⟩) (fun H locs hP hD hS => ?_)
      refine lv_goto (tgt := 33) hx hb dX8_due_22 (by decide) ?_
      refine lv_iload_n hx hb dX8_due_33 rfl (lv_at hl 0 rfl) ?_
      exact hret _ _ _ _ _ _ hf rfl hP hD hS dX8_due_34
abbrev rX8_number : Room := { frames := 3, cells := 0, slots := 0, locals := 66 }
set_option maxHeartbeats 4000000 in
set_option maxRecDepth 100000 in
theorem ccX8_number (l : Launch) (D : va_G) (C : Nat → ClassId) (sz : Nat) (aZ : Nat → Nat) (mZ : Mm) (mY : Int64) (p0 : Int32) (p1 : Int32) (rr : Int32) (oZ : Mm) (hf : ffX8_number p0 p1 mZ = some (rr, oZ)) : Met l yX8_number wsX8_number rX8_number (va_Pc [.ref (aZ 0), .int p0, .int p1] (vv_pre D C (w_MD C aZ mZ mY) sz)) (vv_QI D C (w_MD C aZ mZ mY) (w_MD C aZ oZ mY) sz rr) 0 0 (va_A (w_MD C aZ mZ mY) sz) := by
  unfold ffX8_number at hf
  refine vv_metI (cc := cX8_number) (maxL := 3) (ty := .int) (by decide) rfl (Nat.le_of_ble_eq_true rfl) ?_
  intro p e s m args below meth c A Q H locs ls hx hb hml hown hts hA hK hN hP hD hS hl hret
  have hown : s.vm.findClass RX8 = some m.cls := hown
  have hl : lv_has ls 3 [(0, .ref (aZ 0)), (1, .int p0), (2, .int p1)] := hl
  have hret : ∀ (v0 : Int32) (v1 : Mm) (H : Heap) (locs : List Loc) (ls : Array Slot) (pc : Nat), some (v0, v1) = some (rr, oZ) → narrow .int (.int v0) = .int v0 → va_P D vwCl (w_MD C aZ v1 mY) H → va_D A (w_MD C aZ v1 mY) → va_S A s.heap H locs → decode cX8_number pc = .ok (.ireturn, 1) → W p l e rX8_number s m args below meth c H locs 0 0 Q (F0 m pc ls [.int v0]) := by
    intro v0 v1 H locs ls pc h0 hn h1 h2 h3 h4
    cases h0
    exact hret H locs ls pc hn h1 h2 h3 h4
  have q0 := hts (.fieldLink RX8 89 "ForeRainModel" "sort" "I") (by decide +kernel)
  have q1 := hts (.fieldLink RX8 86 "ForeRainModel" "value" "I") (by decide +kernel)
  have iX8 : ∀ w ∈ u_ws RX8 TX8 26, w ∈ wsX8_number := by decide +kernel
  refine lv_aload_n hx hb dX8_number_0 rfl (lv_at hl 0 rfl) ?_
  refine lv_aload_n hx hb dX8_number_1 rfl (lv_at hl 0 rfl) ?_
  refine va_get (D := D) (ci := 8) (v := .int (mZ 0 14)) (C := RX8) (T := TX8) (N := 26) hx hb hts iX8 hown hK hP 0 rfl rfl 14 (by decide) q0 (fun _ h9 => h9) rfl dX8_number_2 ?_
  refine lv_iconst (v := 5) hx hb dX8_number_5 (by decide) ?_
  obtain ⟨k26_1, ek26_1, hf⟩ := kv_lt_e hf
  have J26_1 : ∀ (x2 : Int32) (H : Heap) (locs : List Loc) (ls : Array Slot), va_P D vwCl (w_MD C aZ mZ mY) H → va_D A (w_MD C aZ mZ mY) → va_S A s.heap H locs → lv_has ls 3 [] → k26_1 x2 = some (rr, oZ) → W p l e rX8_number s m args below meth c H locs 0 0 Q (F0 m 26 ls [.int x2, .ref (aZ 0)]) := by
    intro x2 H locs ls hP hD hS hl hf
    rw [ek26_1] at hf
    obtain ⟨r3, mZ4, hc, hf⟩ := kv_b2_e hf
    have hs9 : vv_Sub D H A (w_MD C aZ mZ mY) (w_MD C aZ mZ4 mY) (w_MD C aZ mZ4 mY) := vv_Sub.same (w_MD C aZ mZ4 mY) hP hD hS hA
    refine vv_goi (wn := (w_MD C aZ mZ4 mY)) hK hs9 hS (vv_rV (As := [.int x2]) (rest := []) hx hb hml hown hts hK hN hS hs9 (ccX8_due l D C H.size aZ mZ mY x2 r3 mZ4 hc) (cwV 1 hts gX8_number_X8_due rfl rfl rfl (by decide +kernel) ⟨(Nat.le_of_ble_eq_true rfl), (Nat.le_of_ble_eq_true rfl)⟩) (va_recv hK hP (ci := 8) (q0 := 0) rfl rfl) rfl hl.1 rfl (Nat.le_of_ble_eq_true rfl) dX8_number_26 ⟨Nat.zero_le _, Nat.zero_le _⟩) (fun H locs hP hD hS => ?_)
    exact hret _ _ _ _ _ _ hf rfl hP hD hS dX8_number_29
  obtain ⟨k25_5, ek25_5, hf⟩ := kv_lt_e hf
  have J25_5 : ∀  (H : Heap) (locs : List Loc) (ls : Array Slot), va_P D vwCl (w_MD C aZ mZ mY) H → va_D A (w_MD C aZ mZ mY) → va_S A s.heap H locs → lv_has ls 3 [] → k25_5  = some (rr, oZ) → W p l e rX8_number s m args below meth c H locs 0 0 Q (F0 m 25 ls [.ref (aZ 0)]) := by
    intro  H locs ls hP hD hS hl hf
    rw [ek25_5] at hf
    refine lv_iconst (v := 0) hx hb dX8_number_25 (by decide) ?_
    exact J26_1 _ _ _ _ hP hD hS (lv_sub hl [] rfl) hf
  refine lv_icmp_ne (tgt := 25) hx hb dX8_number_6 (by decide) (fun hc => ?_) (fun hc => ?_)
  · have hf := kv_f hc hf
    exact J25_5 _ _ _ hP hD hS (lv_sub hl [] rfl) hf
  · have hf := kv_t hc hf
    refine lv_aload_n hx hb dX8_number_9 rfl (lv_at hl 0 rfl) ?_
    refine va_get (D := D) (ci := 8) (v := .int (mZ 0 15)) (C := RX8) (T := TX8) (N := 26) hx hb hts iX8 hown hK hP 0 rfl rfl 15 (by decide) q1 (fun _ h9 => h9) rfl dX8_number_10 ?_
    refine lv_iload_n hx hb dX8_number_13 rfl (lv_at hl 1 rfl) ?_
    refine lv_iload_n hx hb dX8_number_14 rfl (lv_at hl 2 rfl) ?_
    obtain ⟨r6, hc, hf⟩ := kv_b1_e hf
    have hs9 : vv_Sub D H A ([] : va_W) ([] : va_W) (w_MD C aZ mZ mY) := vv_Sub.none hP hD hS hA
    refine vv_goi (wn := (w_MD C aZ mZ mY)) hK hs9 hS (vv_rS (As := [.int (mZ 0 15), .int p0, .int p1]) (rest := [.ref (aZ 0)]) hx hb hml hown hts hK hN hS hs9 (ccX8_in l D C H.size (mZ 0 15) p0 p1 r6 hc) (va_cwS 3 hts gX8_number_X8_in rfl rfl rfl (by decide +kernel) ⟨(Nat.le_of_ble_eq_true rfl), (Nat.le_of_ble_eq_true rfl)⟩) rfl hl.1 rfl (Nat.le_of_ble_eq_true rfl) dX8_number_15 ⟨Nat.zero_le _, Nat.zero_le _⟩) (fun H locs hP hD hS => ?_)
    refine lv_if_eq (tgt := 25) hx hb dX8_number_18 (by decide) (fun hc => ?_) (fun hc => ?_)
    · have hf := kv_t hc hf
      exact J25_5 _ _ _ hP hD hS (lv_sub hl [] rfl) hf
    · have hf := kv_f hc hf
      refine lv_iconst (v := 1) hx hb dX8_number_21 (by decide) ?_
      refine lv_goto (tgt := 26) hx hb dX8_number_22 (by decide) ?_
      exact J26_1 _ _ _ _ hP hD hS (lv_sub hl [] rfl) hf
abbrev rX8_readItem : Room := { frames := 4, cells := 0, slots := 0, locals := 88 }
set_option maxHeartbeats 4000000 in
set_option maxRecDepth 100000 in
theorem ccX8_readItem (l : Launch) (D : va_G) (C : Nat → ClassId) (sz : Nat) (aZ : Nat → Nat) (mZ : Mm) (mY : Int64) (oZ : Mm) (hf : ffX8_readItem mZ = some (oZ)) : Met l yX8_readItem wsX8_readItem rX8_readItem (va_Pc [.ref (aZ 0)] (vv_pre D C (w_MD C aZ mZ mY) sz)) (vv_QV D C (w_MD C aZ mZ mY) (w_MD C aZ oZ mY) sz) 0 0 (va_A (w_MD C aZ mZ mY) sz) := by
  unfold ffX8_readItem at hf
  refine vv_metV (cc := cX8_readItem) (maxL := 5) (by decide) rfl (Nat.le_of_ble_eq_true rfl) ?_
  intro p e s m args below meth c A Q H locs ls hx hb hml hown hts hA hK hN hP hD hS hl hret
  have hown : s.vm.findClass RX8 = some m.cls := hown
  have hl : lv_has ls 5 [(0, .ref (aZ 0))] := hl
  have hret : ∀ (v0 : Mm) (H : Heap) (locs : List Loc) (ls : Array Slot) (pc : Nat), some (v0) = some (oZ) → va_P D vwCl (w_MD C aZ v0 mY) H → va_D A (w_MD C aZ v0 mY) → va_S A s.heap H locs → decode cX8_readItem pc = .ok (.return_, 1) → W p l e rX8_readItem s m args below meth c H locs 0 0 Q (F0 m pc ls []) := by
    intro v0 H locs ls pc h0 h1 h2 h3 h4
    cases h0
    exact hret H locs ls pc h1 h2 h3 h4
  have q0 := hts (.fieldLink RX8 89 "ForeRainModel" "sort" "I") (by decide +kernel)
  have q1 := hts (.fieldLink RX8 96 "ForeRainModel" "fault" "I") (by decide +kernel)
  have q2 := hts (.fieldLink RX8 35 "ForeRainModel" "told" "[I") (by decide +kernel)
  have q3 := hts (.fieldLink RX8 38 "ForeRainModel" "skies" "[I") (by decide +kernel)
  have q4 := hts (.fieldLink RX8 26 "ForeRainModel" "spots" "[I") (by decide +kernel)
  have q5 := hts (.fieldLink RX8 29 "ForeRainModel" "room" "[I") (by decide +kernel)
  have q6 := hts (.fieldLink RX8 32 "ForeRainModel" "wind" "[I") (by decide +kernel)
  have q7 := hts (.fieldLink RX8 13 "ForeRainModel" "pieces" "[I") (by decide +kernel)
  have q8 := hts (.fieldLink RX8 17 "ForeRainModel" "wet" "[I") (by decide +kernel)
  have q9 := hts (.fieldLink RX8 20 "ForeRainModel" "wide" "[I") (by decide +kernel)
  have q10 := hts (.fieldLink RX8 23 "ForeRainModel" "cloth" "[I") (by decide +kernel)
  have iX8 : ∀ w ∈ u_ws RX8 TX8 26, w ∈ wsX8_readItem := by decide +kernel
  refine lv_aload_n hx hb dX8_readItem_0 rfl (lv_at hl 0 rfl) ?_
  refine va_get (D := D) (ci := 8) (v := .int (mZ 0 14)) (C := RX8) (T := TX8) (N := 26) hx hb hts iX8 hown hK hP 0 rfl rfl 14 (by decide) q0 (fun _ h9 => h9) rfl dX8_readItem_1 ?_
  obtain ⟨x1, ex1, hf⟩ := kv_lt_e hf
  refine vv_nami ex1 ?_
  refine lv_istore_n (lv' := [(1, .int x1), (0, .ref (aZ 0))]) hx hb dX8_readItem_4 rfl hl (by decide) rfl (fun ls hl => ?_)
  refine lv_aload_n hx hb dX8_readItem_5 rfl (lv_at hl 1 rfl) ?_
  refine lv_iload_n hx hb dX8_readItem_6 rfl (lv_at hl 0 rfl) ?_
  obtain ⟨k51_2, ek51_2, hf⟩ := kv_lt_e hf
  have J51_2 : ∀ (x3 : Int32) (H : Heap) (locs : List Loc) (ls : Array Slot), va_P D vwCl (w_MD C aZ mZ mY) H → va_D A (w_MD C aZ mZ mY) → va_S A s.heap H locs → lv_has ls 5 [(1, .int x1), (0, .ref (aZ 0))] → k51_2 x3 = some (oZ) → W p l e rX8_readItem s m args below meth c H locs 0 0 Q (F0 m 51 ls [.int x3, .ref (aZ 0)]) := by
    intro x3 H locs ls hP hD hS hl hf
    rw [ek51_2] at hf
    obtain ⟨r4, mZ5, hc, hf⟩ := kv_b2_e hf
    have hs9 : vv_Sub D H A (w_MD C aZ mZ mY) (w_MD C aZ mZ5 mY) (w_MD C aZ mZ5 mY) := vv_Sub.same (w_MD C aZ mZ5 mY) hP hD hS hA
    refine vv_goi (wn := (w_MD C aZ mZ5 mY)) hK hs9 hS (vv_rV (As := [.int x3]) (rest := []) hx hb hml hown hts hK hN hS hs9 (ccX8_due l D C H.size aZ mZ mY x3 r4 mZ5 hc) (cwV 1 hts gX8_readItem_X8_due rfl rfl rfl (by decide +kernel) ⟨(Nat.le_of_ble_eq_true rfl), (Nat.le_of_ble_eq_true rfl)⟩) (va_recv hK hP (ci := 8) (q0 := 0) rfl rfl) rfl hl.1 rfl (Nat.le_of_ble_eq_true rfl) dX8_readItem_51 ⟨Nat.zero_le _, Nat.zero_le _⟩) (fun H locs hP hD hS => ?_)
    refine lv_pop hx hb dX8_readItem_54 rfl ?_
    refine lv_aload_n hx hb dX8_readItem_55 rfl (lv_at hl 1 rfl) ?_
    refine va_get (D := D) (ci := 8) (v := .int (mZ5 0 16)) (C := RX8) (T := TX8) (N := 26) hx hb hts iX8 hown hK hP 0 rfl rfl 16 (by decide) q1 (fun _ h9 => h9) rfl dX8_readItem_56 ?_
    refine lv_bipush (v := (-9)) hx hb dX8_readItem_59 (by decide) ?_
    refine lv_icmp_eq (tgt := 65) hx hb dX8_readItem_61 (by decide) (fun hc => ?_) (fun hc => ?_)
    · have hf := kv_t hc hf
      refine lv_iload_n hx hb dX8_readItem_65 rfl (lv_at hl 0 rfl) ?_
      refine lv_if_ne (tgt := 130) hx hb dX8_readItem_66 (by decide) (fun hc => ?_) (fun hc => ?_)
      · have hf := kv_f hc hf
        refine lv_iload_n hx hb dX8_readItem_130 rfl (lv_at hl 0 rfl) ?_
        refine lv_iconst (v := 1) hx hb dX8_readItem_131 (by decide) ?_
        refine lv_icmp_ne (tgt := 183) hx hb dX8_readItem_132 (by decide) (fun hc => ?_) (fun hc => ?_)
        · have hf := kv_f hc hf
          refine lv_aload_n hx hb dX8_readItem_183 rfl (lv_at hl 1 rfl) ?_
          refine lv_iload_n hx hb dX8_readItem_184 rfl (lv_at hl 0 rfl) ?_
          refine lv_iconst (v := 2) hx hb dX8_readItem_185 (by decide) ?_
          obtain ⟨k194_6, ek194_6, hf⟩ := kv_lt_e hf
          have J194_6 : ∀ (x7 : Int32) (H : Heap) (locs : List Loc) (ls : Array Slot), va_P D vwCl (w_MD C aZ mZ5 mY) H → va_D A (w_MD C aZ mZ5 mY) → va_S A s.heap H locs → lv_has ls 5 [(1, .int x1), (0, .ref (aZ 0))] → k194_6 x7 = some (oZ) → W p l e rX8_readItem s m args below meth c H locs 0 0 Q (F0 m 194 ls [.int x7, .ref (aZ 0)]) := by
            intro x7 H locs ls hP hD hS hl hf
            rw [ek194_6] at hf
            refine lv_bipush (v := 9) hx hb dX8_readItem_194 (by decide) ?_
            obtain ⟨r8, mZ9, hc, hf⟩ := kv_b2_e hf
            have hs9 : vv_Sub D H A (w_MD C aZ mZ5 mY) (w_MD C aZ mZ9 mY) (w_MD C aZ mZ9 mY) := vv_Sub.same (w_MD C aZ mZ9 mY) hP hD hS hA
            refine vv_goi (wn := (w_MD C aZ mZ9 mY)) hK hs9 hS (vv_rV (As := [.int x7, .int 9]) (rest := []) hx hb hml hown hts hK hN hS hs9 (ccX8_number l D C H.size aZ mZ5 mY x7 (9 : Int32) r8 mZ9 hc) (cwV 2 hts gX8_readItem_X8_number rfl rfl rfl (by decide +kernel) ⟨(Nat.le_of_ble_eq_true rfl), (Nat.le_of_ble_eq_true rfl)⟩) (va_recv hK hP (ci := 8) (q0 := 0) rfl rfl) rfl hl.1 rfl (Nat.le_of_ble_eq_true rfl) dX8_readItem_196 ⟨Nat.zero_le _, Nat.zero_le _⟩) (fun H locs hP hD hS => ?_)
            refine lv_istore_n (lv' := [(2, .int r8), (1, .int x1), (0, .ref (aZ 0))]) hx hb dX8_readItem_199 rfl hl (by decide) rfl (fun ls hl => ?_)
            refine lv_aload_n hx hb dX8_readItem_200 rfl (lv_at hl 2 rfl) ?_
            refine lv_iconst (v := 1) hx hb dX8_readItem_201 (by decide) ?_
            refine lv_bipush (v := 24) hx hb dX8_readItem_202 (by decide) ?_
            refine lv_aload_n hx hb dX8_readItem_204 rfl (lv_at hl 2 rfl) ?_
            refine va_get (D := D) (ci := 8) (v := .ref (aZ 9)) (C := RX8) (T := TX8) (N := 26) hx hb hts iX8 hown hK hP 0 rfl rfl 10 (by decide) q2 (fun _ h9 => h9) rfl dX8_readItem_205 ?_
            refine lv_iconst (v := 1) hx hb dX8_readItem_208 (by decide) ?_
            obtain ⟨h9, hf⟩ := kv_ix_e hf
            refine va_iald hx hb hK hP 9 1 rfl rfl h9 dX8_readItem_209 ?_
            refine lv_isub hx hb dX8_readItem_210 ?_
            obtain ⟨r10, mZ11, hc, hf⟩ := kv_b2_e hf
            have hs9 : vv_Sub D H A (w_MD C aZ mZ9 mY) (w_MD C aZ mZ11 mY) (w_MD C aZ mZ11 mY) := vv_Sub.same (w_MD C aZ mZ11 mY) hP hD hS hA
            refine vv_goi (wn := (w_MD C aZ mZ11 mY)) hK hs9 hS (vv_rV (As := [.int 1, .int (24 - (mZ9 9 (1 : Int32).toNatClampNeg))]) (rest := []) hx hb hml hown hts hK hN hS hs9 (ccX8_number l D C H.size aZ mZ9 mY (1 : Int32) (24 - (mZ9 9 (1 : Int32).toNatClampNeg)) r10 mZ11 hc) (cwV 2 hts gX8_readItem_X8_number rfl rfl rfl (by decide +kernel) ⟨(Nat.le_of_ble_eq_true rfl), (Nat.le_of_ble_eq_true rfl)⟩) (va_recv hK hP (ci := 8) (q0 := 0) rfl rfl) rfl hl.1 rfl (Nat.le_of_ble_eq_true rfl) dX8_readItem_211 ⟨Nat.zero_le _, Nat.zero_le _⟩) (fun H locs hP hD hS => ?_)
            refine lv_istore_n (lv' := [(3, .int r10), (2, .int r8), (1, .int x1), (0, .ref (aZ 0))]) hx hb dX8_readItem_214 rfl hl (by decide) rfl (fun ls hl => ?_)
            refine lv_iconst (v := 0) hx hb dX8_readItem_215 (by decide) ?_
            refine lv_istore (lv' := [(4, .int 0), (3, .int r10), (2, .int r8), (1, .int x1), (0, .ref (aZ 0))]) hx hb dX8_readItem_216 hl (by decide) rfl (fun ls hl => ?_)
            have L218 : ∀ (K218 : Int32 → Mm → Option (Mm)), (∀ (x12 : Int32) (mZ13 : Mm) (H : Heap) (locs : List Loc) (ls : Array Slot), va_P D vwCl (w_MD C aZ mZ13 mY) H → va_D A (w_MD C aZ mZ13 mY) → va_S A s.heap H locs → lv_has ls 5 [(4, .int x12), (3, .int r10), (2, .int r8), (1, .int x1), (0, .ref (aZ 0))] → K218 x12 mZ13 = some (oZ) → W p l e rX8_readItem s m args below meth c H locs 0 0 Q (F0 m 274 ls [])) → ∀ (n : Nat) (x12 : Int32) (mZ13 : Mm) (H : Heap) (locs : List Loc) (ls : Array Slot), va_P D vwCl (w_MD C aZ mZ13 mY) H → va_D A (w_MD C aZ mZ13 mY) → va_S A s.heap H locs → lv_has ls 5 [(4, .int x12), (3, .int r10), (2, .int r8), (1, .int x1), (0, .ref (aZ 0))] → ffX8_readItem_L218 x1 r8 r10 K218 n x12 mZ13 = some (oZ) → W p l e rX8_readItem s m args below meth c H locs 0 0 Q (F0 m 218 ls []) := by
              intro K218 hK9 n
              induction n with
              | zero => intro x12 mZ13 H locs ls hP hD hS hl hf; exact kv_no hf
              | succ n ih =>
                intro x12 mZ13 H locs ls hP hD hS hl hf
                rw [ffX8_readItem_L218_s] at hf
                refine lv_iload hx hb dX8_readItem_218 (lv_at hl 0 rfl) ?_
                refine lv_iload_n hx hb dX8_readItem_220 rfl (lv_at hl 1 rfl) ?_
                refine lv_icmp_ge (tgt := 274) hx hb dX8_readItem_221 (by decide) (fun hc => ?_) (fun hc => ?_)
                · have hf := kv_t hc hf
                  exact hK9 _ _ _ _ _ hP hD hS (lv_sub hl [0, 1, 2, 3, 4] rfl) hf
                · have hf := kv_f hc hf
                  refine lv_aload_n hx hb dX8_readItem_224 rfl (lv_at hl 4 rfl) ?_
                  refine va_get (D := D) (ci := 8) (v := .int (mZ13 0 16)) (C := RX8) (T := TX8) (N := 26) hx hb hts iX8 hown hK hP 0 rfl rfl 16 (by decide) q1 (fun _ h9 => h9) rfl dX8_readItem_225 ?_
                  refine lv_bipush (v := (-9)) hx hb dX8_readItem_228 (by decide) ?_
                  refine lv_icmp_ne (tgt := 274) hx hb dX8_readItem_230 (by decide) (fun hc => ?_) (fun hc => ?_)
                  · have hf := kv_f hc hf
                    exact hK9 _ _ _ _ _ hP hD hS (lv_sub hl [0, 1, 2, 3, 4] rfl) hf
                  · have hf := kv_t hc hf
                    refine lv_aload_n hx hb dX8_readItem_233 rfl (lv_at hl 4 rfl) ?_
                    refine va_get (D := D) (ci := 8) (v := .ref (aZ 10)) (C := RX8) (T := TX8) (N := 26) hx hb hts iX8 hown hK hP 0 rfl rfl 11 (by decide) q3 (fun _ h9 => h9) rfl dX8_readItem_234 ?_
                    refine lv_bipush (v := 24) hx hb dX8_readItem_237 (by decide) ?_
                    refine lv_aload_n hx hb dX8_readItem_239 rfl (lv_at hl 4 rfl) ?_
                    refine va_get (D := D) (ci := 8) (v := .ref (aZ 9)) (C := RX8) (T := TX8) (N := 26) hx hb hts iX8 hown hK hP 0 rfl rfl 10 (by decide) q2 (fun _ h9 => h9) rfl dX8_readItem_240 ?_
                    refine lv_iconst (v := 1) hx hb dX8_readItem_243 (by decide) ?_
                    obtain ⟨h9, hf⟩ := kv_ix_e hf
                    refine va_iald hx hb hK hP 9 1 rfl rfl h9 dX8_readItem_244 ?_
                    refine lv_iadd hx hb dX8_readItem_245 ?_
                    refine lv_iload_n hx hb dX8_readItem_246 rfl (lv_at hl 3 rfl) ?_
                    refine lv_iconst (v := 2) hx hb dX8_readItem_247 (by decide) ?_
                    obtain ⟨k257_14, ek257_14, hf⟩ := kv_lt_e hf
                    have J257_14 : ∀ (x15 : Int32) (H : Heap) (locs : List Loc) (ls : Array Slot), va_P D vwCl (w_MD C aZ mZ13 mY) H → va_D A (w_MD C aZ mZ13 mY) → va_S A s.heap H locs → lv_has ls 5 [(4, .int x12), (3, .int r10), (2, .int r8), (1, .int x1), (0, .ref (aZ 0))] → k257_14 x15 = some (oZ) → W p l e rX8_readItem s m args below meth c H locs 0 0 Q (F0 m 257 ls [.int x15, .int (24 + (mZ13 9 (1 : Int32).toNatClampNeg)), .ref (aZ 10)]) := by
                      intro x15 H locs ls hP hD hS hl hf
                      rw [ek257_14] at hf
                      obtain ⟨h9, hf⟩ := kv_ix_e hf
                      obtain ⟨mZ16, emZ16, hf⟩ := kv_lt_e hf
                      refine va_iast hx hb hK hP hD hS 10 1 rfl rfl h9 dX8_readItem_257 (fun H locs hP hD hS => ?_)
                      have hP : va_P D vwCl (w_MD C aZ mZ16 mY) H := by rw [emZ16]; exact hP
                      have hD : va_D A (w_MD C aZ mZ16 mY) := by rw [emZ16]; exact hD
                      refine lv_aload_n hx hb dX8_readItem_258 rfl (lv_at hl 4 rfl) ?_
                      refine va_get (D := D) (ci := 8) (v := .ref (aZ 9)) (C := RX8) (T := TX8) (N := 26) hx hb hts iX8 hown hK hP 0 rfl rfl 10 (by decide) q2 (fun _ h9 => h9) rfl dX8_readItem_259 ?_
                      refine lv_iconst (v := 1) hx hb dX8_readItem_262 (by decide) ?_
                      refine lv_dup2_11 hx hb dX8_readItem_263 rfl rfl ?_
                      obtain ⟨h9, hf⟩ := kv_ix_e hf
                      refine va_iald hx hb hK hP 9 1 rfl rfl h9 dX8_readItem_264 ?_
                      refine lv_iconst (v := 1) hx hb dX8_readItem_265 (by decide) ?_
                      refine lv_iadd hx hb dX8_readItem_266 ?_
                      obtain ⟨x17, ex17, hf⟩ := kv_lt_e hf
                      refine vv_nami ex17 ?_
                      obtain ⟨h9, hf⟩ := kv_ix_e hf
                      obtain ⟨mZ18, emZ18, hf⟩ := kv_lt_e hf
                      refine va_iast hx hb hK hP hD hS 9 1 rfl rfl h9 dX8_readItem_267 (fun H locs hP hD hS => ?_)
                      have hP : va_P D vwCl (w_MD C aZ mZ18 mY) H := by rw [emZ18]; exact hP
                      have hD : va_D A (w_MD C aZ mZ18 mY) := by rw [emZ18]; exact hD
                      obtain ⟨x19, ex19, hf⟩ := kv_lt_e hf
                      refine lv_iinc (v := x19) (lv' := [(4, .int x19), (3, .int r10), (2, .int r8), (1, .int x1), (0, .ref (aZ 0))]) hx hb dX8_readItem_268 hl (k := 0) rfl (by rw [ex19]; rfl) (by decide) rfl (fun ls hl => ?_)
                      refine lv_goto (tgt := 218) hx hb dX8_readItem_271 (by decide) ?_
                      exact ih _ _ _ _ _ hP hD hS (lv_sub hl [0, 1, 2, 3, 4] rfl) hf
                    refine lv_icmp_ne (tgt := 255) hx hb dX8_readItem_248 (by decide) (fun hc => ?_) (fun hc => ?_)
                    · have hf := kv_f hc hf
                      refine lv_iload_n hx hb dX8_readItem_255 rfl (lv_at hl 2 rfl) ?_
                      refine lv_ineg hx hb dX8_readItem_256 ?_
                      exact J257_14 _ _ _ _ hP hD hS (lv_sub hl [0, 1, 2, 3, 4] rfl) hf
                    · have hf := kv_t hc hf
                      refine lv_iload_n hx hb dX8_readItem_251 rfl (lv_at hl 2 rfl) ?_
                      refine lv_goto (tgt := 257) hx hb dX8_readItem_252 (by decide) ?_
                      exact J257_14 _ _ _ _ hP hD hS (lv_sub hl [0, 1, 2, 3, 4] rfl) hf
            refine L218 _ (fun x20 mZ21 H locs ls hP hD hS hl hf => ?_) _ _ _ _ _ _ hP hD hS (lv_sub hl [0, 1, 2, 3, 4] rfl) hf
            refine lv_aload_n hx hb dX8_readItem_274 rfl (lv_at hl 4 rfl) ?_
            refine lv_aload_n hx hb dX8_readItem_275 rfl (lv_at hl 4 rfl) ?_
            refine va_get (D := D) (ci := 8) (v := .int (mZ21 0 14)) (C := RX8) (T := TX8) (N := 26) hx hb hts iX8 hown hK hP 0 rfl rfl 14 (by decide) q0 (fun _ h9 => h9) rfl dX8_readItem_276 ?_
            refine lv_bipush (v := 6) hx hb dX8_readItem_279 (by decide) ?_
            obtain ⟨k289_22, ek289_22, hf⟩ := kv_lt_e hf
            have J289_22 : ∀ (x23 : Int32) (H : Heap) (locs : List Loc) (ls : Array Slot), va_P D vwCl (w_MD C aZ mZ21 mY) H → va_D A (w_MD C aZ mZ21 mY) → va_S A s.heap H locs → lv_has ls 5 [] → k289_22 x23 = some (oZ) → W p l e rX8_readItem s m args below meth c H locs 0 0 Q (F0 m 289 ls [.int x23, .ref (aZ 0)]) := by
              intro x23 H locs ls hP hD hS hl hf
              rw [ek289_22] at hf
              obtain ⟨r24, mZ25, hc, hf⟩ := kv_b2_e hf
              have hs9 : vv_Sub D H A (w_MD C aZ mZ21 mY) (w_MD C aZ mZ25 mY) (w_MD C aZ mZ25 mY) := vv_Sub.same (w_MD C aZ mZ25 mY) hP hD hS hA
              refine vv_goi (wn := (w_MD C aZ mZ25 mY)) hK hs9 hS (vv_rV (As := [.int x23]) (rest := []) hx hb hml hown hts hK hN hS hs9 (ccX8_due l D C H.size aZ mZ21 mY x23 r24 mZ25 hc) (cwV 1 hts gX8_readItem_X8_due rfl rfl rfl (by decide +kernel) ⟨(Nat.le_of_ble_eq_true rfl), (Nat.le_of_ble_eq_true rfl)⟩) (va_recv hK hP (ci := 8) (q0 := 0) rfl rfl) rfl hl.1 rfl (Nat.le_of_ble_eq_true rfl) dX8_readItem_289 ⟨Nat.zero_le _, Nat.zero_le _⟩) (fun H locs hP hD hS => ?_)
              refine lv_pop hx hb dX8_readItem_292 rfl ?_
              exact hret _ _ _ _ _ hf hP hD hS dX8_readItem_293
            refine lv_icmp_ne (tgt := 288) hx hb dX8_readItem_281 (by decide) (fun hc => ?_) (fun hc => ?_)
            · have hf := kv_f hc hf
              refine lv_iconst (v := 0) hx hb dX8_readItem_288 (by decide) ?_
              exact J289_22 _ _ _ _ hP hD hS (lv_sub hl [] rfl) hf
            · have hf := kv_t hc hf
              refine lv_iconst (v := 1) hx hb dX8_readItem_284 (by decide) ?_
              refine lv_goto (tgt := 289) hx hb dX8_readItem_285 (by decide) ?_
              exact J289_22 _ _ _ _ hP hD hS (lv_sub hl [] rfl) hf
          refine lv_icmp_ne (tgt := 193) hx hb dX8_readItem_186 (by decide) (fun hc => ?_) (fun hc => ?_)
          · have hf := kv_f hc hf
            refine lv_iconst (v := 1) hx hb dX8_readItem_193 (by decide) ?_
            exact J194_6 _ _ _ _ hP hD hS (lv_sub hl [0, 1] rfl) hf
          · have hf := kv_t hc hf
            refine lv_iconst (v := 0) hx hb dX8_readItem_189 (by decide) ?_
            refine lv_goto (tgt := 194) hx hb dX8_readItem_190 (by decide) ?_
            exact J194_6 _ _ _ _ hP hD hS (lv_sub hl [0, 1] rfl) hf
        · have hf := kv_t hc hf
          refine lv_iconst (v := 5) hx hb dX8_readItem_135 (by decide) ?_
          refine lv_aload_n hx hb dX8_readItem_136 rfl (lv_at hl 1 rfl) ?_
          refine va_get (D := D) (ci := 8) (v := .ref (aZ 6)) (C := RX8) (T := TX8) (N := 26) hx hb hts iX8 hown hK hP 0 rfl rfl 7 (by decide) q4 (fun _ h9 => h9) rfl dX8_readItem_137 ?_
          refine lv_iconst (v := 1) hx hb dX8_readItem_140 (by decide) ?_
          obtain ⟨h9, hf⟩ := kv_ix_e hf
          refine va_iald hx hb hK hP 6 1 rfl rfl h9 dX8_readItem_141 ?_
          refine lv_iadd hx hb dX8_readItem_142 ?_
          obtain ⟨x26, ex26, hf⟩ := kv_lt_e hf
          refine vv_nami ex26 ?_
          refine lv_istore_n (lv' := [(2, .int x26), (1, .int x1), (0, .ref (aZ 0))]) hx hb dX8_readItem_143 rfl hl (by decide) rfl (fun ls hl => ?_)
          refine lv_aload_n hx hb dX8_readItem_144 rfl (lv_at hl 2 rfl) ?_
          refine va_get (D := D) (ci := 8) (v := .ref (aZ 7)) (C := RX8) (T := TX8) (N := 26) hx hb hts iX8 hown hK hP 0 rfl rfl 8 (by decide) q5 (fun _ h9 => h9) rfl dX8_readItem_145 ?_
          refine lv_iload_n hx hb dX8_readItem_148 rfl (lv_at hl 0 rfl) ?_
          refine lv_aload_n hx hb dX8_readItem_149 rfl (lv_at hl 2 rfl) ?_
          refine lv_iconst (v := 1) hx hb dX8_readItem_150 (by decide) ?_
          refine lv_bipush (v := 9) hx hb dX8_readItem_151 (by decide) ?_
          obtain ⟨r27, mZ28, hc, hf⟩ := kv_b2_e hf
          have hs9 : vv_Sub D H A (w_MD C aZ mZ5 mY) (w_MD C aZ mZ28 mY) (w_MD C aZ mZ28 mY) := vv_Sub.same (w_MD C aZ mZ28 mY) hP hD hS hA
          refine vv_goi (wn := (w_MD C aZ mZ28 mY)) hK hs9 hS (vv_rV (As := [.int 1, .int 9]) (rest := [.int x26, .ref (aZ 7)]) hx hb hml hown hts hK hN hS hs9 (ccX8_number l D C H.size aZ mZ5 mY (1 : Int32) (9 : Int32) r27 mZ28 hc) (cwV 2 hts gX8_readItem_X8_number rfl rfl rfl (by decide +kernel) ⟨(Nat.le_of_ble_eq_true rfl), (Nat.le_of_ble_eq_true rfl)⟩) (va_recv hK hP (ci := 8) (q0 := 0) rfl rfl) rfl hl.1 rfl (Nat.le_of_ble_eq_true rfl) dX8_readItem_153 ⟨Nat.zero_le _, Nat.zero_le _⟩) (fun H locs hP hD hS => ?_)
          obtain ⟨h9, hf⟩ := kv_ix_e hf
          obtain ⟨mZ29, emZ29, hf⟩ := kv_lt_e hf
          refine va_iast hx hb hK hP hD hS 7 1 rfl rfl h9 dX8_readItem_156 (fun H locs hP hD hS => ?_)
          have hP : va_P D vwCl (w_MD C aZ mZ29 mY) H := by rw [emZ29]; exact hP
          have hD : va_D A (w_MD C aZ mZ29 mY) := by rw [emZ29]; exact hD
          refine lv_aload_n hx hb dX8_readItem_157 rfl (lv_at hl 2 rfl) ?_
          refine va_get (D := D) (ci := 8) (v := .ref (aZ 8)) (C := RX8) (T := TX8) (N := 26) hx hb hts iX8 hown hK hP 0 rfl rfl 9 (by decide) q6 (fun _ h9 => h9) rfl dX8_readItem_158 ?_
          refine lv_iload_n hx hb dX8_readItem_161 rfl (lv_at hl 0 rfl) ?_
          refine lv_aload_n hx hb dX8_readItem_162 rfl (lv_at hl 2 rfl) ?_
          refine lv_iconst (v := 0) hx hb dX8_readItem_163 (by decide) ?_
          refine lv_bipush (v := 9) hx hb dX8_readItem_164 (by decide) ?_
          obtain ⟨r30, mZ31, hc, hf⟩ := kv_b2_e hf
          have hs9 : vv_Sub D H A (w_MD C aZ mZ29 mY) (w_MD C aZ mZ31 mY) (w_MD C aZ mZ31 mY) := vv_Sub.same (w_MD C aZ mZ31 mY) hP hD hS hA
          refine vv_goi (wn := (w_MD C aZ mZ31 mY)) hK hs9 hS (vv_rV (As := [.int 0, .int 9]) (rest := [.int x26, .ref (aZ 8)]) hx hb hml hown hts hK hN hS hs9 (ccX8_number l D C H.size aZ mZ29 mY (0 : Int32) (9 : Int32) r30 mZ31 hc) (cwV 2 hts gX8_readItem_X8_number rfl rfl rfl (by decide +kernel) ⟨(Nat.le_of_ble_eq_true rfl), (Nat.le_of_ble_eq_true rfl)⟩) (va_recv hK hP (ci := 8) (q0 := 0) rfl rfl) rfl hl.1 rfl (Nat.le_of_ble_eq_true rfl) dX8_readItem_166 ⟨Nat.zero_le _, Nat.zero_le _⟩) (fun H locs hP hD hS => ?_)
          obtain ⟨h9, hf⟩ := kv_ix_e hf
          obtain ⟨mZ32, emZ32, hf⟩ := kv_lt_e hf
          refine va_iast hx hb hK hP hD hS 8 1 rfl rfl h9 dX8_readItem_169 (fun H locs hP hD hS => ?_)
          have hP : va_P D vwCl (w_MD C aZ mZ32 mY) H := by rw [emZ32]; exact hP
          have hD : va_D A (w_MD C aZ mZ32 mY) := by rw [emZ32]; exact hD
          refine lv_aload_n hx hb dX8_readItem_170 rfl (lv_at hl 2 rfl) ?_
          refine va_get (D := D) (ci := 8) (v := .ref (aZ 6)) (C := RX8) (T := TX8) (N := 26) hx hb hts iX8 hown hK hP 0 rfl rfl 7 (by decide) q4 (fun _ h9 => h9) rfl dX8_readItem_171 ?_
          refine lv_iconst (v := 1) hx hb dX8_readItem_174 (by decide) ?_
          refine lv_dup2_11 hx hb dX8_readItem_175 rfl rfl ?_
          obtain ⟨h9, hf⟩ := kv_ix_e hf
          refine va_iald hx hb hK hP 6 1 rfl rfl h9 dX8_readItem_176 ?_
          refine lv_iconst (v := 1) hx hb dX8_readItem_177 (by decide) ?_
          refine lv_iadd hx hb dX8_readItem_178 ?_
          obtain ⟨x33, ex33, hf⟩ := kv_lt_e hf
          refine vv_nami ex33 ?_
          obtain ⟨h9, hf⟩ := kv_ix_e hf
          obtain ⟨mZ34, emZ34, hf⟩ := kv_lt_e hf
          refine va_iast hx hb hK hP hD hS 6 1 rfl rfl h9 dX8_readItem_179 (fun H locs hP hD hS => ?_)
          have hP : va_P D vwCl (w_MD C aZ mZ34 mY) H := by rw [emZ34]; exact hP
          have hD : va_D A (w_MD C aZ mZ34 mY) := by rw [emZ34]; exact hD
          refine lv_goto (tgt := 274) hx hb dX8_readItem_180 (by decide) ?_
          refine lv_aload_n hx hb dX8_readItem_274 rfl (lv_at hl 2 rfl) ?_
          refine lv_aload_n hx hb dX8_readItem_275 rfl (lv_at hl 2 rfl) ?_
          refine va_get (D := D) (ci := 8) (v := .int (mZ34 0 14)) (C := RX8) (T := TX8) (N := 26) hx hb hts iX8 hown hK hP 0 rfl rfl 14 (by decide) q0 (fun _ h9 => h9) rfl dX8_readItem_276 ?_
          refine lv_bipush (v := 6) hx hb dX8_readItem_279 (by decide) ?_
          obtain ⟨k289_35, ek289_35, hf⟩ := kv_lt_e hf
          have J289_35 : ∀ (x36 : Int32) (H : Heap) (locs : List Loc) (ls : Array Slot), va_P D vwCl (w_MD C aZ mZ34 mY) H → va_D A (w_MD C aZ mZ34 mY) → va_S A s.heap H locs → lv_has ls 5 [] → k289_35 x36 = some (oZ) → W p l e rX8_readItem s m args below meth c H locs 0 0 Q (F0 m 289 ls [.int x36, .ref (aZ 0)]) := by
            intro x36 H locs ls hP hD hS hl hf
            rw [ek289_35] at hf
            obtain ⟨r37, mZ38, hc, hf⟩ := kv_b2_e hf
            have hs9 : vv_Sub D H A (w_MD C aZ mZ34 mY) (w_MD C aZ mZ38 mY) (w_MD C aZ mZ38 mY) := vv_Sub.same (w_MD C aZ mZ38 mY) hP hD hS hA
            refine vv_goi (wn := (w_MD C aZ mZ38 mY)) hK hs9 hS (vv_rV (As := [.int x36]) (rest := []) hx hb hml hown hts hK hN hS hs9 (ccX8_due l D C H.size aZ mZ34 mY x36 r37 mZ38 hc) (cwV 1 hts gX8_readItem_X8_due rfl rfl rfl (by decide +kernel) ⟨(Nat.le_of_ble_eq_true rfl), (Nat.le_of_ble_eq_true rfl)⟩) (va_recv hK hP (ci := 8) (q0 := 0) rfl rfl) rfl hl.1 rfl (Nat.le_of_ble_eq_true rfl) dX8_readItem_289 ⟨Nat.zero_le _, Nat.zero_le _⟩) (fun H locs hP hD hS => ?_)
            refine lv_pop hx hb dX8_readItem_292 rfl ?_
            exact hret _ _ _ _ _ hf hP hD hS dX8_readItem_293
          refine lv_icmp_ne (tgt := 288) hx hb dX8_readItem_281 (by decide) (fun hc => ?_) (fun hc => ?_)
          · have hf := kv_f hc hf
            refine lv_iconst (v := 0) hx hb dX8_readItem_288 (by decide) ?_
            exact J289_35 _ _ _ _ hP hD hS (lv_sub hl [] rfl) hf
          · have hf := kv_t hc hf
            refine lv_iconst (v := 1) hx hb dX8_readItem_284 (by decide) ?_
            refine lv_goto (tgt := 289) hx hb dX8_readItem_285 (by decide) ?_
            exact J289_35 _ _ _ _ hP hD hS (lv_sub hl [] rfl) hf
      · have hf := kv_t hc hf
        refine lv_bipush (v := 6) hx hb dX8_readItem_69 (by decide) ?_
        refine lv_aload_n hx hb dX8_readItem_71 rfl (lv_at hl 1 rfl) ?_
        refine va_get (D := D) (ci := 8) (v := .ref (aZ 2)) (C := RX8) (T := TX8) (N := 26) hx hb hts iX8 hown hK hP 0 rfl rfl 3 (by decide) q7 (fun _ h9 => h9) rfl dX8_readItem_72 ?_
        refine lv_iconst (v := 1) hx hb dX8_readItem_75 (by decide) ?_
        obtain ⟨h9, hf⟩ := kv_ix_e hf
        refine va_iald hx hb hK hP 2 1 rfl rfl h9 dX8_readItem_76 ?_
        refine lv_iadd hx hb dX8_readItem_77 ?_
        obtain ⟨x39, ex39, hf⟩ := kv_lt_e hf
        refine vv_nami ex39 ?_
        refine lv_istore_n (lv' := [(2, .int x39), (1, .int x1), (0, .ref (aZ 0))]) hx hb dX8_readItem_78 rfl hl (by decide) rfl (fun ls hl => ?_)
        refine lv_aload_n hx hb dX8_readItem_79 rfl (lv_at hl 2 rfl) ?_
        refine va_get (D := D) (ci := 8) (v := .ref (aZ 3)) (C := RX8) (T := TX8) (N := 26) hx hb hts iX8 hown hK hP 0 rfl rfl 4 (by decide) q8 (fun _ h9 => h9) rfl dX8_readItem_80 ?_
        refine lv_iload_n hx hb dX8_readItem_83 rfl (lv_at hl 0 rfl) ?_
        refine lv_aload_n hx hb dX8_readItem_84 rfl (lv_at hl 2 rfl) ?_
        refine lv_iconst (v := 1) hx hb dX8_readItem_85 (by decide) ?_
        refine lv_bipush (v := 99) hx hb dX8_readItem_86 (by decide) ?_
        obtain ⟨r40, mZ41, hc, hf⟩ := kv_b2_e hf
        have hs9 : vv_Sub D H A (w_MD C aZ mZ5 mY) (w_MD C aZ mZ41 mY) (w_MD C aZ mZ41 mY) := vv_Sub.same (w_MD C aZ mZ41 mY) hP hD hS hA
        refine vv_goi (wn := (w_MD C aZ mZ41 mY)) hK hs9 hS (vv_rV (As := [.int 1, .int 99]) (rest := [.int x39, .ref (aZ 3)]) hx hb hml hown hts hK hN hS hs9 (ccX8_number l D C H.size aZ mZ5 mY (1 : Int32) (99 : Int32) r40 mZ41 hc) (cwV 2 hts gX8_readItem_X8_number rfl rfl rfl (by decide +kernel) ⟨(Nat.le_of_ble_eq_true rfl), (Nat.le_of_ble_eq_true rfl)⟩) (va_recv hK hP (ci := 8) (q0 := 0) rfl rfl) rfl hl.1 rfl (Nat.le_of_ble_eq_true rfl) dX8_readItem_88 ⟨Nat.zero_le _, Nat.zero_le _⟩) (fun H locs hP hD hS => ?_)
        obtain ⟨h9, hf⟩ := kv_ix_e hf
        obtain ⟨mZ42, emZ42, hf⟩ := kv_lt_e hf
        refine va_iast hx hb hK hP hD hS 3 1 rfl rfl h9 dX8_readItem_91 (fun H locs hP hD hS => ?_)
        have hP : va_P D vwCl (w_MD C aZ mZ42 mY) H := by rw [emZ42]; exact hP
        have hD : va_D A (w_MD C aZ mZ42 mY) := by rw [emZ42]; exact hD
        refine lv_aload_n hx hb dX8_readItem_92 rfl (lv_at hl 2 rfl) ?_
        refine va_get (D := D) (ci := 8) (v := .ref (aZ 4)) (C := RX8) (T := TX8) (N := 26) hx hb hts iX8 hown hK hP 0 rfl rfl 5 (by decide) q9 (fun _ h9 => h9) rfl dX8_readItem_93 ?_
        refine lv_iload_n hx hb dX8_readItem_96 rfl (lv_at hl 0 rfl) ?_
        refine lv_aload_n hx hb dX8_readItem_97 rfl (lv_at hl 2 rfl) ?_
        refine lv_iconst (v := 1) hx hb dX8_readItem_98 (by decide) ?_
        refine lv_bipush (v := 9) hx hb dX8_readItem_99 (by decide) ?_
        obtain ⟨r43, mZ44, hc, hf⟩ := kv_b2_e hf
        have hs9 : vv_Sub D H A (w_MD C aZ mZ42 mY) (w_MD C aZ mZ44 mY) (w_MD C aZ mZ44 mY) := vv_Sub.same (w_MD C aZ mZ44 mY) hP hD hS hA
        refine vv_goi (wn := (w_MD C aZ mZ44 mY)) hK hs9 hS (vv_rV (As := [.int 1, .int 9]) (rest := [.int x39, .ref (aZ 4)]) hx hb hml hown hts hK hN hS hs9 (ccX8_number l D C H.size aZ mZ42 mY (1 : Int32) (9 : Int32) r43 mZ44 hc) (cwV 2 hts gX8_readItem_X8_number rfl rfl rfl (by decide +kernel) ⟨(Nat.le_of_ble_eq_true rfl), (Nat.le_of_ble_eq_true rfl)⟩) (va_recv hK hP (ci := 8) (q0 := 0) rfl rfl) rfl hl.1 rfl (Nat.le_of_ble_eq_true rfl) dX8_readItem_101 ⟨Nat.zero_le _, Nat.zero_le _⟩) (fun H locs hP hD hS => ?_)
        obtain ⟨h9, hf⟩ := kv_ix_e hf
        obtain ⟨mZ45, emZ45, hf⟩ := kv_lt_e hf
        refine va_iast hx hb hK hP hD hS 4 1 rfl rfl h9 dX8_readItem_104 (fun H locs hP hD hS => ?_)
        have hP : va_P D vwCl (w_MD C aZ mZ45 mY) H := by rw [emZ45]; exact hP
        have hD : va_D A (w_MD C aZ mZ45 mY) := by rw [emZ45]; exact hD
        refine lv_aload_n hx hb dX8_readItem_105 rfl (lv_at hl 2 rfl) ?_
        refine va_get (D := D) (ci := 8) (v := .ref (aZ 5)) (C := RX8) (T := TX8) (N := 26) hx hb hts iX8 hown hK hP 0 rfl rfl 6 (by decide) q10 (fun _ h9 => h9) rfl dX8_readItem_106 ?_
        refine lv_iload_n hx hb dX8_readItem_109 rfl (lv_at hl 0 rfl) ?_
        refine lv_aload_n hx hb dX8_readItem_110 rfl (lv_at hl 2 rfl) ?_
        refine lv_iconst (v := 1) hx hb dX8_readItem_111 (by decide) ?_
        refine lv_iconst (v := 3) hx hb dX8_readItem_112 (by decide) ?_
        obtain ⟨r46, mZ47, hc, hf⟩ := kv_b2_e hf
        have hs9 : vv_Sub D H A (w_MD C aZ mZ45 mY) (w_MD C aZ mZ47 mY) (w_MD C aZ mZ47 mY) := vv_Sub.same (w_MD C aZ mZ47 mY) hP hD hS hA
        refine vv_goi (wn := (w_MD C aZ mZ47 mY)) hK hs9 hS (vv_rV (As := [.int 1, .int 3]) (rest := [.int x39, .ref (aZ 5)]) hx hb hml hown hts hK hN hS hs9 (ccX8_number l D C H.size aZ mZ45 mY (1 : Int32) (3 : Int32) r46 mZ47 hc) (cwV 2 hts gX8_readItem_X8_number rfl rfl rfl (by decide +kernel) ⟨(Nat.le_of_ble_eq_true rfl), (Nat.le_of_ble_eq_true rfl)⟩) (va_recv hK hP (ci := 8) (q0 := 0) rfl rfl) rfl hl.1 rfl (Nat.le_of_ble_eq_true rfl) dX8_readItem_113 ⟨Nat.zero_le _, Nat.zero_le _⟩) (fun H locs hP hD hS => ?_)
        obtain ⟨h9, hf⟩ := kv_ix_e hf
        obtain ⟨mZ48, emZ48, hf⟩ := kv_lt_e hf
        refine va_iast hx hb hK hP hD hS 5 1 rfl rfl h9 dX8_readItem_116 (fun H locs hP hD hS => ?_)
        have hP : va_P D vwCl (w_MD C aZ mZ48 mY) H := by rw [emZ48]; exact hP
        have hD : va_D A (w_MD C aZ mZ48 mY) := by rw [emZ48]; exact hD
        refine lv_aload_n hx hb dX8_readItem_117 rfl (lv_at hl 2 rfl) ?_
        refine va_get (D := D) (ci := 8) (v := .ref (aZ 2)) (C := RX8) (T := TX8) (N := 26) hx hb hts iX8 hown hK hP 0 rfl rfl 3 (by decide) q7 (fun _ h9 => h9) rfl dX8_readItem_118 ?_
        refine lv_iconst (v := 1) hx hb dX8_readItem_121 (by decide) ?_
        refine lv_dup2_11 hx hb dX8_readItem_122 rfl rfl ?_
        obtain ⟨h9, hf⟩ := kv_ix_e hf
        refine va_iald hx hb hK hP 2 1 rfl rfl h9 dX8_readItem_123 ?_
        refine lv_iconst (v := 1) hx hb dX8_readItem_124 (by decide) ?_
        refine lv_iadd hx hb dX8_readItem_125 ?_
        obtain ⟨x49, ex49, hf⟩ := kv_lt_e hf
        refine vv_nami ex49 ?_
        obtain ⟨h9, hf⟩ := kv_ix_e hf
        obtain ⟨mZ50, emZ50, hf⟩ := kv_lt_e hf
        refine va_iast hx hb hK hP hD hS 2 1 rfl rfl h9 dX8_readItem_126 (fun H locs hP hD hS => ?_)
        have hP : va_P D vwCl (w_MD C aZ mZ50 mY) H := by rw [emZ50]; exact hP
        have hD : va_D A (w_MD C aZ mZ50 mY) := by rw [emZ50]; exact hD
        refine lv_goto (tgt := 274) hx hb dX8_readItem_127 (by decide) ?_
        refine lv_aload_n hx hb dX8_readItem_274 rfl (lv_at hl 2 rfl) ?_
        refine lv_aload_n hx hb dX8_readItem_275 rfl (lv_at hl 2 rfl) ?_
        refine va_get (D := D) (ci := 8) (v := .int (mZ50 0 14)) (C := RX8) (T := TX8) (N := 26) hx hb hts iX8 hown hK hP 0 rfl rfl 14 (by decide) q0 (fun _ h9 => h9) rfl dX8_readItem_276 ?_
        refine lv_bipush (v := 6) hx hb dX8_readItem_279 (by decide) ?_
        obtain ⟨k289_51, ek289_51, hf⟩ := kv_lt_e hf
        have J289_51 : ∀ (x52 : Int32) (H : Heap) (locs : List Loc) (ls : Array Slot), va_P D vwCl (w_MD C aZ mZ50 mY) H → va_D A (w_MD C aZ mZ50 mY) → va_S A s.heap H locs → lv_has ls 5 [] → k289_51 x52 = some (oZ) → W p l e rX8_readItem s m args below meth c H locs 0 0 Q (F0 m 289 ls [.int x52, .ref (aZ 0)]) := by
          intro x52 H locs ls hP hD hS hl hf
          rw [ek289_51] at hf
          obtain ⟨r53, mZ54, hc, hf⟩ := kv_b2_e hf
          have hs9 : vv_Sub D H A (w_MD C aZ mZ50 mY) (w_MD C aZ mZ54 mY) (w_MD C aZ mZ54 mY) := vv_Sub.same (w_MD C aZ mZ54 mY) hP hD hS hA
          refine vv_goi (wn := (w_MD C aZ mZ54 mY)) hK hs9 hS (vv_rV (As := [.int x52]) (rest := []) hx hb hml hown hts hK hN hS hs9 (ccX8_due l D C H.size aZ mZ50 mY x52 r53 mZ54 hc) (cwV 1 hts gX8_readItem_X8_due rfl rfl rfl (by decide +kernel) ⟨(Nat.le_of_ble_eq_true rfl), (Nat.le_of_ble_eq_true rfl)⟩) (va_recv hK hP (ci := 8) (q0 := 0) rfl rfl) rfl hl.1 rfl (Nat.le_of_ble_eq_true rfl) dX8_readItem_289 ⟨Nat.zero_le _, Nat.zero_le _⟩) (fun H locs hP hD hS => ?_)
          refine lv_pop hx hb dX8_readItem_292 rfl ?_
          exact hret _ _ _ _ _ hf hP hD hS dX8_readItem_293
        refine lv_icmp_ne (tgt := 288) hx hb dX8_readItem_281 (by decide) (fun hc => ?_) (fun hc => ?_)
        · have hf := kv_f hc hf
          refine lv_iconst (v := 0) hx hb dX8_readItem_288 (by decide) ?_
          exact J289_51 _ _ _ _ hP hD hS (lv_sub hl [] rfl) hf
        · have hf := kv_t hc hf
          refine lv_iconst (v := 1) hx hb dX8_readItem_284 (by decide) ?_
          refine lv_goto (tgt := 289) hx hb dX8_readItem_285 (by decide) ?_
          exact J289_51 _ _ _ _ hP hD hS (lv_sub hl [] rfl) hf
    · have hf := kv_f hc hf
      exact hret _ _ _ _ _ hf hP hD hS dX8_readItem_64
  obtain ⟨k46_55, ek46_55, hf⟩ := kv_lt_e hf
  have J46_55 : ∀  (H : Heap) (locs : List Loc) (ls : Array Slot), va_P D vwCl (w_MD C aZ mZ mY) H → va_D A (w_MD C aZ mZ mY) → va_S A s.heap H locs → lv_has ls 5 [(1, .int x1), (0, .ref (aZ 0))] → k46_55  = some (oZ) → W p l e rX8_readItem s m args below meth c H locs 0 0 Q (F0 m 46 ls [.ref (aZ 0)]) := by
    intro  H locs ls hP hD hS hl hf
    rw [ek46_55] at hf
    refine lv_iconst (v := 1) hx hb dX8_readItem_46 (by decide) ?_
    refine lv_goto (tgt := 51) hx hb dX8_readItem_47 (by decide) ?_
    exact J51_2 _ _ _ _ hP hD hS (lv_sub hl [0, 1] rfl) hf
  obtain ⟨k21_56, ek21_56, hf⟩ := kv_lt_e hf
  have J21_56 : ∀  (H : Heap) (locs : List Loc) (ls : Array Slot), va_P D vwCl (w_MD C aZ mZ mY) H → va_D A (w_MD C aZ mZ mY) → va_S A s.heap H locs → lv_has ls 5 [(1, .int x1), (0, .ref (aZ 0))] → k21_56  = some (oZ) → W p l e rX8_readItem s m args below meth c H locs 0 0 Q (F0 m 21 ls [.ref (aZ 0)]) := by
    intro  H locs ls hP hD hS hl hf
    rw [ek21_56] at hf
    refine lv_iload_n hx hb dX8_readItem_21 rfl (lv_at hl 0 rfl) ?_
    refine lv_iconst (v := 1) hx hb dX8_readItem_22 (by decide) ?_
    obtain ⟨k36_57, ek36_57, hf⟩ := kv_lt_e hf
    have J36_57 : ∀  (H : Heap) (locs : List Loc) (ls : Array Slot), va_P D vwCl (w_MD C aZ mZ mY) H → va_D A (w_MD C aZ mZ mY) → va_S A s.heap H locs → lv_has ls 5 [(1, .int x1), (0, .ref (aZ 0))] → k36_57  = some (oZ) → W p l e rX8_readItem s m args below meth c H locs 0 0 Q (F0 m 36 ls [.ref (aZ 0)]) := by
      intro  H locs ls hP hD hS hl hf
      rw [ek36_57] at hf
      refine lv_iload_n hx hb dX8_readItem_36 rfl (lv_at hl 0 rfl) ?_
      refine lv_iconst (v := 2) hx hb dX8_readItem_37 (by decide) ?_
      refine lv_icmp_eq (tgt := 46) hx hb dX8_readItem_38 (by decide) (fun hc => ?_) (fun hc => ?_)
      · have hf := kv_t hc hf
        exact J46_55 _ _ _ hP hD hS (lv_sub hl [0, 1] rfl) hf
      · have hf := kv_f hc hf
        refine lv_iload_n hx hb dX8_readItem_41 rfl (lv_at hl 0 rfl) ?_
        refine lv_iconst (v := 3) hx hb dX8_readItem_42 (by decide) ?_
        refine lv_icmp_ne (tgt := 50) hx hb dX8_readItem_43 (by decide) (fun hc => ?_) (fun hc => ?_)
        · have hf := kv_f hc hf
          refine lv_iconst (v := 0) hx hb dX8_readItem_50 (by decide) ?_
          exact J51_2 _ _ _ _ hP hD hS (lv_sub hl [0, 1] rfl) hf
        · have hf := kv_t hc hf
          exact J46_55 _ _ _ hP hD hS (lv_sub hl [0, 1] rfl) hf
    refine lv_icmp_ne (tgt := 36) hx hb dX8_readItem_23 (by decide) (fun hc => ?_) (fun hc => ?_)
    · have hf := kv_f hc hf
      exact J36_57 _ _ _ hP hD hS (lv_sub hl [0, 1] rfl) hf
    · have hf := kv_t hc hf
      refine lv_aload_n hx hb dX8_readItem_26 rfl (lv_at hl 1 rfl) ?_
      refine va_get (D := D) (ci := 8) (v := .ref (aZ 6)) (C := RX8) (T := TX8) (N := 26) hx hb hts iX8 hown hK hP 0 rfl rfl 7 (by decide) q4 (fun _ h9 => h9) rfl dX8_readItem_27 ?_
      refine lv_iconst (v := 1) hx hb dX8_readItem_30 (by decide) ?_
      obtain ⟨h9, hf⟩ := kv_ix_e hf
      refine va_iald hx hb hK hP 6 1 rfl rfl h9 dX8_readItem_31 ?_
      refine lv_iconst (v := 5) hx hb dX8_readItem_32 (by decide) ?_
      refine lv_icmp_lt (tgt := 46) hx hb dX8_readItem_33 (by decide) (fun hc => ?_) (fun hc => ?_)
      · have hf := kv_t hc hf
        exact J46_55 _ _ _ hP hD hS (lv_sub hl [0, 1] rfl) hf
      · have hf := kv_f hc hf
        exact J36_57 _ _ _ hP hD hS (lv_sub hl [0, 1] rfl) hf
  refine lv_if_ne (tgt := 21) hx hb dX8_readItem_7 (by decide) (fun hc => ?_) (fun hc => ?_)
  · have hf := kv_f hc hf
    exact J21_56 _ _ _ hP hD hS (lv_sub hl [0, 1] rfl) hf
  · have hf := kv_t hc hf
    refine lv_aload_n hx hb dX8_readItem_10 rfl (lv_at hl 1 rfl) ?_
    refine va_get (D := D) (ci := 8) (v := .ref (aZ 2)) (C := RX8) (T := TX8) (N := 26) hx hb hts iX8 hown hK hP 0 rfl rfl 3 (by decide) q7 (fun _ h9 => h9) rfl dX8_readItem_11 ?_
    refine lv_iconst (v := 1) hx hb dX8_readItem_14 (by decide) ?_
    obtain ⟨h9, hf⟩ := kv_ix_e hf
    refine va_iald hx hb hK hP 2 1 rfl rfl h9 dX8_readItem_15 ?_
    refine lv_bipush (v := 6) hx hb dX8_readItem_16 (by decide) ?_
    refine lv_icmp_lt (tgt := 46) hx hb dX8_readItem_18 (by decide) (fun hc => ?_) (fun hc => ?_)
    · have hf := kv_t hc hf
      exact J46_55 _ _ _ hP hD hS (lv_sub hl [0, 1] rfl) hf
    · have hf := kv_f hc hf
      exact J21_56 _ _ _ hP hD hS (lv_sub hl [0, 1] rfl) hf
abbrev rX8_day : Room := { frames := 5, cells := 0, slots := 0, locals := 112 }
set_option maxHeartbeats 4000000 in
set_option maxRecDepth 100000 in
theorem ccX8_day (l : Launch) (D : va_G) (C : Nat → ClassId) (sz : Nat) (aZ : Nat → Nat) (mZ : Mm) (mY : Int64) (rr : Int32) (oZ : Mm) (hf : ffX8_day mZ = some (rr, oZ)) : Met l yX8_day wsX8_day rX8_day (va_Pc [.ref (aZ 0)] (vv_pre D C (w_MD C aZ mZ mY) sz)) (vv_QI D C (w_MD C aZ mZ mY) (w_MD C aZ oZ mY) sz rr) 0 0 (va_A (w_MD C aZ mZ mY) sz) := by
  unfold ffX8_day at hf
  refine vv_metI (cc := cX8_day) (maxL := 3) (ty := .int) (by decide) rfl (Nat.le_of_ble_eq_true rfl) ?_
  intro p e s m args below meth c A Q H locs ls hx hb hml hown hts hA hK hN hP hD hS hl hret
  have hown : s.vm.findClass RX8 = some m.cls := hown
  have hl : lv_has ls 3 [(0, .ref (aZ 0))] := hl
  have hret : ∀ (v0 : Int32) (v1 : Mm) (H : Heap) (locs : List Loc) (ls : Array Slot) (pc : Nat), some (v0, v1) = some (rr, oZ) → narrow .int (.int v0) = .int v0 → va_P D vwCl (w_MD C aZ v1 mY) H → va_D A (w_MD C aZ v1 mY) → va_S A s.heap H locs → decode cX8_day pc = .ok (.ireturn, 1) → W p l e rX8_day s m args below meth c H locs 0 0 Q (F0 m pc ls [.int v0]) := by
    intro v0 v1 H locs ls pc h0 hn h1 h2 h3 h4
    cases h0
    exact hret H locs ls pc hn h1 h2 h3 h4
  have q0 := hts (.fieldLink RX8 76 "ForeRainModel" "at" "I") (by decide +kernel)
  have q1 := hts (.fieldLink RX8 96 "ForeRainModel" "fault" "I") (by decide +kernel)
  have q2 := hts (.fieldLink RX8 13 "ForeRainModel" "pieces" "[I") (by decide +kernel)
  have q3 := hts (.fieldLink RX8 26 "ForeRainModel" "spots" "[I") (by decide +kernel)
  have q4 := hts (.fieldLink RX8 35 "ForeRainModel" "told" "[I") (by decide +kernel)
  have q5 := hts (.fieldLink RX8 89 "ForeRainModel" "sort" "I") (by decide +kernel)
  have q6 := hts (.fieldLink RX8 17 "ForeRainModel" "wet" "[I") (by decide +kernel)
  have q7 := hts (.fieldLink RX8 20 "ForeRainModel" "wide" "[I") (by decide +kernel)
  have q8 := hts (.fieldLink RX8 23 "ForeRainModel" "cloth" "[I") (by decide +kernel)
  have q9 := hts (.fieldLink RX8 29 "ForeRainModel" "room" "[I") (by decide +kernel)
  have q10 := hts (.fieldLink RX8 32 "ForeRainModel" "wind" "[I") (by decide +kernel)
  have q11 := hts (.fieldLink RX8 38 "ForeRainModel" "skies" "[I") (by decide +kernel)
  have q12 := hts (.fieldLink RX8 44 "ForeRainModel" "isKept" "[Z") (by decide +kernel)
  have q13 := hts (.fieldLink RX8 70 "ForeRainModel" "typed" "I") (by decide +kernel)
  have iX8 : ∀ w ∈ u_ws RX8 TX8 26, w ∈ wsX8_day := by decide +kernel
  refine lv_aload_n hx hb dX8_day_0 rfl (lv_at hl 0 rfl) ?_
  refine lv_iconst (v := 0) hx hb dX8_day_1 (by decide) ?_
  obtain ⟨mZ1, emZ1, hf⟩ := kv_lt_e hf
  refine va_put (D := D) (ci := 8) (v := .int 0) (ty := .int) (C := RX8) (T := TX8) (N := 26) hx hb hts iX8 tyX8 tyX8_ok nmX8 hown hK hP hD hS 0 rfl rfl 12 (by decide) q0 (fun _ h9 => h9) rfl (tyX8_ok 12 (by decide)) rfl rfl (Nat.le_of_ble_eq_true rfl) dX8_day_2 (fun H locs hP hD hS => ?_)
  have hP : va_P D vwCl (w_MD C aZ mZ1 mY) H := by rw [emZ1]; exact hP
  have hD : va_D A (w_MD C aZ mZ1 mY) := by rw [emZ1]; exact hD
  refine lv_aload_n hx hb dX8_day_5 rfl (lv_at hl 0 rfl) ?_
  refine lv_bipush (v := (-9)) hx hb dX8_day_6 (by decide) ?_
  obtain ⟨mZ2, emZ2, hf⟩ := kv_lt_e hf
  refine va_put (D := D) (ci := 8) (v := .int (-9)) (ty := .int) (C := RX8) (T := TX8) (N := 26) hx hb hts iX8 tyX8 tyX8_ok nmX8 hown hK hP hD hS 0 rfl rfl 16 (by decide) q1 (fun _ h9 => h9) rfl (tyX8_ok 16 (by decide)) rfl rfl (Nat.le_of_ble_eq_true rfl) dX8_day_8 (fun H locs hP hD hS => ?_)
  have hP : va_P D vwCl (w_MD C aZ mZ2 mY) H := by rw [emZ2]; exact hP
  have hD : va_D A (w_MD C aZ mZ2 mY) := by rw [emZ2]; exact hD
  refine lv_aload_n hx hb dX8_day_11 rfl (lv_at hl 0 rfl) ?_
  refine va_get (D := D) (ci := 8) (v := .ref (aZ 2)) (C := RX8) (T := TX8) (N := 26) hx hb hts iX8 hown hK hP 0 rfl rfl 3 (by decide) q2 (fun _ h9 => h9) rfl dX8_day_12 ?_
  refine lv_iconst (v := 1) hx hb dX8_day_15 (by decide) ?_
  refine lv_iconst (v := 0) hx hb dX8_day_16 (by decide) ?_
  obtain ⟨h9, hf⟩ := kv_ix_e hf
  obtain ⟨mZ3, emZ3, hf⟩ := kv_lt_e hf
  refine va_iast hx hb hK hP hD hS 2 1 rfl rfl h9 dX8_day_17 (fun H locs hP hD hS => ?_)
  have hP : va_P D vwCl (w_MD C aZ mZ3 mY) H := by rw [emZ3]; exact hP
  have hD : va_D A (w_MD C aZ mZ3 mY) := by rw [emZ3]; exact hD
  refine lv_aload_n hx hb dX8_day_18 rfl (lv_at hl 0 rfl) ?_
  refine va_get (D := D) (ci := 8) (v := .ref (aZ 6)) (C := RX8) (T := TX8) (N := 26) hx hb hts iX8 hown hK hP 0 rfl rfl 7 (by decide) q3 (fun _ h9 => h9) rfl dX8_day_19 ?_
  refine lv_iconst (v := 1) hx hb dX8_day_22 (by decide) ?_
  refine lv_iconst (v := 0) hx hb dX8_day_23 (by decide) ?_
  obtain ⟨h9, hf⟩ := kv_ix_e hf
  obtain ⟨mZ4, emZ4, hf⟩ := kv_lt_e hf
  refine va_iast hx hb hK hP hD hS 6 1 rfl rfl h9 dX8_day_24 (fun H locs hP hD hS => ?_)
  have hP : va_P D vwCl (w_MD C aZ mZ4 mY) H := by rw [emZ4]; exact hP
  have hD : va_D A (w_MD C aZ mZ4 mY) := by rw [emZ4]; exact hD
  refine lv_aload_n hx hb dX8_day_25 rfl (lv_at hl 0 rfl) ?_
  refine va_get (D := D) (ci := 8) (v := .ref (aZ 9)) (C := RX8) (T := TX8) (N := 26) hx hb hts iX8 hown hK hP 0 rfl rfl 10 (by decide) q4 (fun _ h9 => h9) rfl dX8_day_26 ?_
  refine lv_iconst (v := 1) hx hb dX8_day_29 (by decide) ?_
  refine lv_iconst (v := 0) hx hb dX8_day_30 (by decide) ?_
  obtain ⟨h9, hf⟩ := kv_ix_e hf
  obtain ⟨mZ5, emZ5, hf⟩ := kv_lt_e hf
  refine va_iast hx hb hK hP hD hS 9 1 rfl rfl h9 dX8_day_31 (fun H locs hP hD hS => ?_)
  have hP : va_P D vwCl (w_MD C aZ mZ5 mY) H := by rw [emZ5]; exact hP
  have hD : va_D A (w_MD C aZ mZ5 mY) := by rw [emZ5]; exact hD
  refine lv_iconst (v := 0) hx hb dX8_day_32 (by decide) ?_
  refine lv_istore_n (lv' := [(1, .int 0), (0, .ref (aZ 0))]) hx hb dX8_day_33 rfl hl (by decide) rfl (fun ls hl => ?_)
  refine lv_aload_n hx hb dX8_day_34 rfl (lv_at hl 1 rfl) ?_
  obtain ⟨mZ6, hc, hf⟩ := kv_b1_e hf
  have hs9 : vv_Sub D H A (w_MD C aZ mZ5 mY) (w_MD C aZ mZ6 mY) (w_MD C aZ mZ6 mY) := vv_Sub.same (w_MD C aZ mZ6 mY) hP hD hS hA
  refine vv_gov (wn := (w_MD C aZ mZ6 mY)) hK hs9 hS (vv_rV (As := []) (rest := []) hx hb hml hown hts hK hN hS hs9 (ccX8_next l D C H.size aZ mZ5 mY mZ6 hc) (cwV 0 hts gX8_day_X8_next rfl rfl rfl (by decide +kernel) ⟨(Nat.le_of_ble_eq_true rfl), (Nat.le_of_ble_eq_true rfl)⟩) (va_recv hK hP (ci := 8) (q0 := 0) rfl rfl) rfl hl.1 rfl (Nat.le_of_ble_eq_true rfl) dX8_day_35 ⟨Nat.zero_le _, Nat.zero_le _⟩) (fun H locs hP hD hS => ?_)
  have L38 : ∀ (K38 : Int32 → Mm → Option (Int32 × Mm)), (∀ (x7 : Int32) (mZ8 : Mm) (H : Heap) (locs : List Loc) (ls : Array Slot), va_P D vwCl (w_MD C aZ mZ8 mY) H → va_D A (w_MD C aZ mZ8 mY) → va_S A s.heap H locs → lv_has ls 3 [(1, .int x7), (0, .ref (aZ 0))] → K38 x7 mZ8 = some (rr, oZ) → W p l e rX8_day s m args below meth c H locs 0 0 Q (F0 m 65 ls [])) → ∀ (n : Nat) (x7 : Int32) (mZ8 : Mm) (H : Heap) (locs : List Loc) (ls : Array Slot), va_P D vwCl (w_MD C aZ mZ8 mY) H → va_D A (w_MD C aZ mZ8 mY) → va_S A s.heap H locs → lv_has ls 3 [(1, .int x7), (0, .ref (aZ 0))] → ffX8_day_L38  K38 n x7 mZ8 = some (rr, oZ) → W p l e rX8_day s m args below meth c H locs 0 0 Q (F0 m 38 ls []) := by
    intro K38 hK9 n
    induction n with
    | zero => intro x7 mZ8 H locs ls hP hD hS hl hf; exact kv_no hf
    | succ n ih =>
      intro x7 mZ8 H locs ls hP hD hS hl hf
      rw [ffX8_day_L38_s] at hf
      refine lv_aload_n hx hb dX8_day_38 rfl (lv_at hl 1 rfl) ?_
      refine va_get (D := D) (ci := 8) (v := .int (mZ8 0 16)) (C := RX8) (T := TX8) (N := 26) hx hb hts iX8 hown hK hP 0 rfl rfl 16 (by decide) q1 (fun _ h9 => h9) rfl dX8_day_39 ?_
      refine lv_bipush (v := (-9)) hx hb dX8_day_42 (by decide) ?_
      refine lv_icmp_ne (tgt := 65) hx hb dX8_day_44 (by decide) (fun hc => ?_) (fun hc => ?_)
      · have hf := kv_f hc hf
        exact hK9 _ _ _ _ _ hP hD hS (lv_sub hl [0, 1] rfl) hf
      · have hf := kv_t hc hf
        refine lv_aload_n hx hb dX8_day_47 rfl (lv_at hl 1 rfl) ?_
        refine va_get (D := D) (ci := 8) (v := .int (mZ8 0 14)) (C := RX8) (T := TX8) (N := 26) hx hb hts iX8 hown hK hP 0 rfl rfl 14 (by decide) q5 (fun _ h9 => h9) rfl dX8_day_48 ?_
        refine lv_iconst (v := 4) hx hb dX8_day_51 (by decide) ?_
        refine lv_icmp_eq (tgt := 65) hx hb dX8_day_52 (by decide) (fun hc => ?_) (fun hc => ?_)
        · have hf := kv_t hc hf
          exact hK9 _ _ _ _ _ hP hD hS (lv_sub hl [0, 1] rfl) hf
        · have hf := kv_f hc hf
          refine lv_aload_n hx hb dX8_day_55 rfl (lv_at hl 1 rfl) ?_
          obtain ⟨mZ9, hc, hf⟩ := kv_b1_e hf
          have hs9 : vv_Sub D H A (w_MD C aZ mZ8 mY) (w_MD C aZ mZ9 mY) (w_MD C aZ mZ9 mY) := vv_Sub.same (w_MD C aZ mZ9 mY) hP hD hS hA
          refine vv_gov (wn := (w_MD C aZ mZ9 mY)) hK hs9 hS (vv_rV (As := []) (rest := []) hx hb hml hown hts hK hN hS hs9 (ccX8_readItem l D C H.size aZ mZ8 mY mZ9 hc) (cwV 0 hts gX8_day_X8_readItem rfl rfl rfl (by decide +kernel) ⟨(Nat.le_of_ble_eq_true rfl), (Nat.le_of_ble_eq_true rfl)⟩) (va_recv hK hP (ci := 8) (q0 := 0) rfl rfl) rfl hl.1 rfl (Nat.le_of_ble_eq_true rfl) dX8_day_56 ⟨Nat.zero_le _, Nat.zero_le _⟩) (fun H locs hP hD hS => ?_)
          obtain ⟨x10, ex10, hf⟩ := kv_lt_e hf
          refine lv_iinc (v := x10) (lv' := [(1, .int x10), (0, .ref (aZ 0))]) hx hb dX8_day_59 hl (k := 0) rfl (by rw [ex10]; rfl) (by decide) rfl (fun ls hl => ?_)
          refine lv_goto (tgt := 38) hx hb dX8_day_62 (by decide) ?_
          exact ih _ _ _ _ _ hP hD hS (lv_sub hl [0, 1] rfl) hf
  refine L38 _ (fun x11 mZ12 H locs ls hP hD hS hl hf => ?_) _ _ _ _ _ _ hP hD hS (lv_sub hl [0, 1] rfl) hf
  refine lv_aload_n hx hb dX8_day_65 rfl (lv_at hl 1 rfl) ?_
  refine va_get (D := D) (ci := 8) (v := .int (mZ12 0 16)) (C := RX8) (T := TX8) (N := 26) hx hb hts iX8 hown hK hP 0 rfl rfl 16 (by decide) q1 (fun _ h9 => h9) rfl dX8_day_66 ?_
  refine lv_bipush (v := (-9)) hx hb dX8_day_69 (by decide) ?_
  refine lv_icmp_eq (tgt := 82) hx hb dX8_day_71 (by decide) (fun hc => ?_) (fun hc => ?_)
  · have hf := kv_t hc hf
    refine lv_aload_n hx hb dX8_day_82 rfl (lv_at hl 1 rfl) ?_
    refine va_get (D := D) (ci := 8) (v := .ref (aZ 2)) (C := RX8) (T := TX8) (N := 26) hx hb hts iX8 hown hK hP 0 rfl rfl 3 (by decide) q2 (fun _ h9 => h9) rfl dX8_day_83 ?_
    refine lv_iconst (v := 0) hx hb dX8_day_86 (by decide) ?_
    refine lv_aload_n hx hb dX8_day_87 rfl (lv_at hl 1 rfl) ?_
    refine va_get (D := D) (ci := 8) (v := .ref (aZ 2)) (C := RX8) (T := TX8) (N := 26) hx hb hts iX8 hown hK hP 0 rfl rfl 3 (by decide) q2 (fun _ h9 => h9) rfl dX8_day_88 ?_
    refine lv_iconst (v := 1) hx hb dX8_day_91 (by decide) ?_
    obtain ⟨h9, hf⟩ := kv_ix_e hf
    refine va_iald hx hb hK hP 2 1 rfl rfl h9 dX8_day_92 ?_
    obtain ⟨x13, ex13, hf⟩ := kv_lt_e hf
    refine vv_nami ex13 ?_
    obtain ⟨h9, hf⟩ := kv_ix_e hf
    obtain ⟨mZ14, emZ14, hf⟩ := kv_lt_e hf
    refine va_iast hx hb hK hP hD hS 2 1 rfl rfl h9 dX8_day_93 (fun H locs hP hD hS => ?_)
    have hP : va_P D vwCl (w_MD C aZ mZ14 mY) H := by rw [emZ14]; exact hP
    have hD : va_D A (w_MD C aZ mZ14 mY) := by rw [emZ14]; exact hD
    refine lv_aload_n hx hb dX8_day_94 rfl (lv_at hl 1 rfl) ?_
    refine va_get (D := D) (ci := 8) (v := .ref (aZ 6)) (C := RX8) (T := TX8) (N := 26) hx hb hts iX8 hown hK hP 0 rfl rfl 7 (by decide) q3 (fun _ h9 => h9) rfl dX8_day_95 ?_
    refine lv_iconst (v := 0) hx hb dX8_day_98 (by decide) ?_
    refine lv_aload_n hx hb dX8_day_99 rfl (lv_at hl 1 rfl) ?_
    refine va_get (D := D) (ci := 8) (v := .ref (aZ 6)) (C := RX8) (T := TX8) (N := 26) hx hb hts iX8 hown hK hP 0 rfl rfl 7 (by decide) q3 (fun _ h9 => h9) rfl dX8_day_100 ?_
    refine lv_iconst (v := 1) hx hb dX8_day_103 (by decide) ?_
    obtain ⟨h9, hf⟩ := kv_ix_e hf
    refine va_iald hx hb hK hP 6 1 rfl rfl h9 dX8_day_104 ?_
    obtain ⟨x15, ex15, hf⟩ := kv_lt_e hf
    refine vv_nami ex15 ?_
    obtain ⟨h9, hf⟩ := kv_ix_e hf
    obtain ⟨mZ16, emZ16, hf⟩ := kv_lt_e hf
    refine va_iast hx hb hK hP hD hS 6 1 rfl rfl h9 dX8_day_105 (fun H locs hP hD hS => ?_)
    have hP : va_P D vwCl (w_MD C aZ mZ16 mY) H := by rw [emZ16]; exact hP
    have hD : va_D A (w_MD C aZ mZ16 mY) := by rw [emZ16]; exact hD
    refine lv_aload_n hx hb dX8_day_106 rfl (lv_at hl 1 rfl) ?_
    refine va_get (D := D) (ci := 8) (v := .ref (aZ 9)) (C := RX8) (T := TX8) (N := 26) hx hb hts iX8 hown hK hP 0 rfl rfl 10 (by decide) q4 (fun _ h9 => h9) rfl dX8_day_107 ?_
    refine lv_iconst (v := 0) hx hb dX8_day_110 (by decide) ?_
    refine lv_aload_n hx hb dX8_day_111 rfl (lv_at hl 1 rfl) ?_
    refine va_get (D := D) (ci := 8) (v := .ref (aZ 9)) (C := RX8) (T := TX8) (N := 26) hx hb hts iX8 hown hK hP 0 rfl rfl 10 (by decide) q4 (fun _ h9 => h9) rfl dX8_day_112 ?_
    refine lv_iconst (v := 1) hx hb dX8_day_115 (by decide) ?_
    obtain ⟨h9, hf⟩ := kv_ix_e hf
    refine va_iald hx hb hK hP 9 1 rfl rfl h9 dX8_day_116 ?_
    obtain ⟨x17, ex17, hf⟩ := kv_lt_e hf
    refine vv_nami ex17 ?_
    obtain ⟨h9, hf⟩ := kv_ix_e hf
    obtain ⟨mZ18, emZ18, hf⟩ := kv_lt_e hf
    refine va_iast hx hb hK hP hD hS 9 1 rfl rfl h9 dX8_day_117 (fun H locs hP hD hS => ?_)
    have hP : va_P D vwCl (w_MD C aZ mZ18 mY) H := by rw [emZ18]; exact hP
    have hD : va_D A (w_MD C aZ mZ18 mY) := by rw [emZ18]; exact hD
    refine lv_iconst (v := 0) hx hb dX8_day_118 (by decide) ?_
    refine lv_istore_n (lv' := [(2, .int 0), (1, .int x11), (0, .ref (aZ 0))]) hx hb dX8_day_119 rfl hl (by decide) rfl (fun ls hl => ?_)
    have L120 : ∀ (K120 : Int32 → Mm → Option (Int32 × Mm)), (∀ (x19 : Int32) (mZ20 : Mm) (H : Heap) (locs : List Loc) (ls : Array Slot), va_P D vwCl (w_MD C aZ mZ20 mY) H → va_D A (w_MD C aZ mZ20 mY) → va_S A s.heap H locs → lv_has ls 3 [(2, .int x19), (1, .int x11), (0, .ref (aZ 0))] → K120 x19 mZ20 = some (rr, oZ) → W p l e rX8_day s m args below meth c H locs 0 0 Q (F0 m 177 ls [])) → ∀ (n : Nat) (x19 : Int32) (mZ20 : Mm) (H : Heap) (locs : List Loc) (ls : Array Slot), va_P D vwCl (w_MD C aZ mZ20 mY) H → va_D A (w_MD C aZ mZ20 mY) → va_S A s.heap H locs → lv_has ls 3 [(2, .int x19), (1, .int x11), (0, .ref (aZ 0))] → ffX8_day_L120  K120 n x19 mZ20 = some (rr, oZ) → W p l e rX8_day s m args below meth c H locs 0 0 Q (F0 m 120 ls []) := by
      intro K120 hK9 n
      induction n with
      | zero => intro x19 mZ20 H locs ls hP hD hS hl hf; exact kv_no hf
      | succ n ih =>
        intro x19 mZ20 H locs ls hP hD hS hl hf
        rw [ffX8_day_L120_s] at hf
        refine lv_iload_n hx hb dX8_day_120 rfl (lv_at hl 0 rfl) ?_
        refine lv_bipush (v := 6) hx hb dX8_day_121 (by decide) ?_
        refine lv_icmp_ge (tgt := 177) hx hb dX8_day_123 (by decide) (fun hc => ?_) (fun hc => ?_)
        · have hf := kv_t hc hf
          exact hK9 _ _ _ _ _ hP hD hS (lv_sub hl [0, 1, 2] rfl) hf
        · have hf := kv_f hc hf
          refine lv_aload_n hx hb dX8_day_126 rfl (lv_at hl 2 rfl) ?_
          refine va_get (D := D) (ci := 8) (v := .ref (aZ 3)) (C := RX8) (T := TX8) (N := 26) hx hb hts iX8 hown hK hP 0 rfl rfl 4 (by decide) q6 (fun _ h9 => h9) rfl dX8_day_127 ?_
          refine lv_iload_n hx hb dX8_day_130 rfl (lv_at hl 0 rfl) ?_
          refine lv_aload_n hx hb dX8_day_131 rfl (lv_at hl 2 rfl) ?_
          refine va_get (D := D) (ci := 8) (v := .ref (aZ 3)) (C := RX8) (T := TX8) (N := 26) hx hb hts iX8 hown hK hP 0 rfl rfl 4 (by decide) q6 (fun _ h9 => h9) rfl dX8_day_132 ?_
          refine lv_bipush (v := 6) hx hb dX8_day_135 (by decide) ?_
          refine lv_iload_n hx hb dX8_day_137 rfl (lv_at hl 0 rfl) ?_
          refine lv_iadd hx hb dX8_day_138 ?_
          obtain ⟨h9, hf⟩ := kv_ix_e hf
          refine va_iald hx hb hK hP 3 1 rfl rfl h9 dX8_day_139 ?_
          obtain ⟨x21, ex21, hf⟩ := kv_lt_e hf
          refine vv_nami ex21 ?_
          obtain ⟨h9, hf⟩ := kv_ix_e hf
          obtain ⟨mZ22, emZ22, hf⟩ := kv_lt_e hf
          refine va_iast hx hb hK hP hD hS 3 1 rfl rfl h9 dX8_day_140 (fun H locs hP hD hS => ?_)
          have hP : va_P D vwCl (w_MD C aZ mZ22 mY) H := by rw [emZ22]; exact hP
          have hD : va_D A (w_MD C aZ mZ22 mY) := by rw [emZ22]; exact hD
          refine lv_aload_n hx hb dX8_day_141 rfl (lv_at hl 2 rfl) ?_
          refine va_get (D := D) (ci := 8) (v := .ref (aZ 4)) (C := RX8) (T := TX8) (N := 26) hx hb hts iX8 hown hK hP 0 rfl rfl 5 (by decide) q7 (fun _ h9 => h9) rfl dX8_day_142 ?_
          refine lv_iload_n hx hb dX8_day_145 rfl (lv_at hl 0 rfl) ?_
          refine lv_aload_n hx hb dX8_day_146 rfl (lv_at hl 2 rfl) ?_
          refine va_get (D := D) (ci := 8) (v := .ref (aZ 4)) (C := RX8) (T := TX8) (N := 26) hx hb hts iX8 hown hK hP 0 rfl rfl 5 (by decide) q7 (fun _ h9 => h9) rfl dX8_day_147 ?_
          refine lv_bipush (v := 6) hx hb dX8_day_150 (by decide) ?_
          refine lv_iload_n hx hb dX8_day_152 rfl (lv_at hl 0 rfl) ?_
          refine lv_iadd hx hb dX8_day_153 ?_
          obtain ⟨h9, hf⟩ := kv_ix_e hf
          refine va_iald hx hb hK hP 4 1 rfl rfl h9 dX8_day_154 ?_
          obtain ⟨x23, ex23, hf⟩ := kv_lt_e hf
          refine vv_nami ex23 ?_
          obtain ⟨h9, hf⟩ := kv_ix_e hf
          obtain ⟨mZ24, emZ24, hf⟩ := kv_lt_e hf
          refine va_iast hx hb hK hP hD hS 4 1 rfl rfl h9 dX8_day_155 (fun H locs hP hD hS => ?_)
          have hP : va_P D vwCl (w_MD C aZ mZ24 mY) H := by rw [emZ24]; exact hP
          have hD : va_D A (w_MD C aZ mZ24 mY) := by rw [emZ24]; exact hD
          refine lv_aload_n hx hb dX8_day_156 rfl (lv_at hl 2 rfl) ?_
          refine va_get (D := D) (ci := 8) (v := .ref (aZ 5)) (C := RX8) (T := TX8) (N := 26) hx hb hts iX8 hown hK hP 0 rfl rfl 6 (by decide) q8 (fun _ h9 => h9) rfl dX8_day_157 ?_
          refine lv_iload_n hx hb dX8_day_160 rfl (lv_at hl 0 rfl) ?_
          refine lv_aload_n hx hb dX8_day_161 rfl (lv_at hl 2 rfl) ?_
          refine va_get (D := D) (ci := 8) (v := .ref (aZ 5)) (C := RX8) (T := TX8) (N := 26) hx hb hts iX8 hown hK hP 0 rfl rfl 6 (by decide) q8 (fun _ h9 => h9) rfl dX8_day_162 ?_
          refine lv_bipush (v := 6) hx hb dX8_day_165 (by decide) ?_
          refine lv_iload_n hx hb dX8_day_167 rfl (lv_at hl 0 rfl) ?_
          refine lv_iadd hx hb dX8_day_168 ?_
          obtain ⟨h9, hf⟩ := kv_ix_e hf
          refine va_iald hx hb hK hP 5 1 rfl rfl h9 dX8_day_169 ?_
          obtain ⟨x25, ex25, hf⟩ := kv_lt_e hf
          refine vv_nami ex25 ?_
          obtain ⟨h9, hf⟩ := kv_ix_e hf
          obtain ⟨mZ26, emZ26, hf⟩ := kv_lt_e hf
          refine va_iast hx hb hK hP hD hS 5 1 rfl rfl h9 dX8_day_170 (fun H locs hP hD hS => ?_)
          have hP : va_P D vwCl (w_MD C aZ mZ26 mY) H := by rw [emZ26]; exact hP
          have hD : va_D A (w_MD C aZ mZ26 mY) := by rw [emZ26]; exact hD
          obtain ⟨x27, ex27, hf⟩ := kv_lt_e hf
          refine lv_iinc (v := x27) (lv' := [(2, .int x27), (1, .int x11), (0, .ref (aZ 0))]) hx hb dX8_day_171 hl (k := 0) rfl (by rw [ex27]; rfl) (by decide) rfl (fun ls hl => ?_)
          refine lv_goto (tgt := 120) hx hb dX8_day_174 (by decide) ?_
          exact ih _ _ _ _ _ hP hD hS (lv_sub hl [0, 1, 2] rfl) hf
    refine L120 _ (fun x28 mZ29 H locs ls hP hD hS hl hf => ?_) _ _ _ _ _ _ hP hD hS (lv_sub hl [0, 1, 2] rfl) hf
    refine lv_iconst (v := 0) hx hb dX8_day_177 (by decide) ?_
    refine lv_istore_n (lv' := [(2, .int 0), (1, .int x11), (0, .ref (aZ 0))]) hx hb dX8_day_178 rfl hl (by decide) rfl (fun ls hl => ?_)
    have L179 : ∀ (K179 : Int32 → Mm → Option (Int32 × Mm)), (∀ (x30 : Int32) (mZ31 : Mm) (H : Heap) (locs : List Loc) (ls : Array Slot), va_P D vwCl (w_MD C aZ mZ31 mY) H → va_D A (w_MD C aZ mZ31 mY) → va_S A s.heap H locs → lv_has ls 3 [(2, .int x30), (1, .int x11), (0, .ref (aZ 0))] → K179 x30 mZ31 = some (rr, oZ) → W p l e rX8_day s m args below meth c H locs 0 0 Q (F0 m 218 ls [])) → ∀ (n : Nat) (x30 : Int32) (mZ31 : Mm) (H : Heap) (locs : List Loc) (ls : Array Slot), va_P D vwCl (w_MD C aZ mZ31 mY) H → va_D A (w_MD C aZ mZ31 mY) → va_S A s.heap H locs → lv_has ls 3 [(2, .int x30), (1, .int x11), (0, .ref (aZ 0))] → ffX8_day_L179  K179 n x30 mZ31 = some (rr, oZ) → W p l e rX8_day s m args below meth c H locs 0 0 Q (F0 m 179 ls []) := by
      intro K179 hK9 n
      induction n with
      | zero => intro x30 mZ31 H locs ls hP hD hS hl hf; exact kv_no hf
      | succ n ih =>
        intro x30 mZ31 H locs ls hP hD hS hl hf
        rw [ffX8_day_L179_s] at hf
        refine lv_iload_n hx hb dX8_day_179 rfl (lv_at hl 0 rfl) ?_
        refine lv_iconst (v := 5) hx hb dX8_day_180 (by decide) ?_
        refine lv_icmp_ge (tgt := 218) hx hb dX8_day_181 (by decide) (fun hc => ?_) (fun hc => ?_)
        · have hf := kv_t hc hf
          exact hK9 _ _ _ _ _ hP hD hS (lv_sub hl [0, 1, 2] rfl) hf
        · have hf := kv_f hc hf
          refine lv_aload_n hx hb dX8_day_184 rfl (lv_at hl 2 rfl) ?_
          refine va_get (D := D) (ci := 8) (v := .ref (aZ 7)) (C := RX8) (T := TX8) (N := 26) hx hb hts iX8 hown hK hP 0 rfl rfl 8 (by decide) q9 (fun _ h9 => h9) rfl dX8_day_185 ?_
          refine lv_iload_n hx hb dX8_day_188 rfl (lv_at hl 0 rfl) ?_
          refine lv_aload_n hx hb dX8_day_189 rfl (lv_at hl 2 rfl) ?_
          refine va_get (D := D) (ci := 8) (v := .ref (aZ 7)) (C := RX8) (T := TX8) (N := 26) hx hb hts iX8 hown hK hP 0 rfl rfl 8 (by decide) q9 (fun _ h9 => h9) rfl dX8_day_190 ?_
          refine lv_iconst (v := 5) hx hb dX8_day_193 (by decide) ?_
          refine lv_iload_n hx hb dX8_day_194 rfl (lv_at hl 0 rfl) ?_
          refine lv_iadd hx hb dX8_day_195 ?_
          obtain ⟨h9, hf⟩ := kv_ix_e hf
          refine va_iald hx hb hK hP 7 1 rfl rfl h9 dX8_day_196 ?_
          obtain ⟨x32, ex32, hf⟩ := kv_lt_e hf
          refine vv_nami ex32 ?_
          obtain ⟨h9, hf⟩ := kv_ix_e hf
          obtain ⟨mZ33, emZ33, hf⟩ := kv_lt_e hf
          refine va_iast hx hb hK hP hD hS 7 1 rfl rfl h9 dX8_day_197 (fun H locs hP hD hS => ?_)
          have hP : va_P D vwCl (w_MD C aZ mZ33 mY) H := by rw [emZ33]; exact hP
          have hD : va_D A (w_MD C aZ mZ33 mY) := by rw [emZ33]; exact hD
          refine lv_aload_n hx hb dX8_day_198 rfl (lv_at hl 2 rfl) ?_
          refine va_get (D := D) (ci := 8) (v := .ref (aZ 8)) (C := RX8) (T := TX8) (N := 26) hx hb hts iX8 hown hK hP 0 rfl rfl 9 (by decide) q10 (fun _ h9 => h9) rfl dX8_day_199 ?_
          refine lv_iload_n hx hb dX8_day_202 rfl (lv_at hl 0 rfl) ?_
          refine lv_aload_n hx hb dX8_day_203 rfl (lv_at hl 2 rfl) ?_
          refine va_get (D := D) (ci := 8) (v := .ref (aZ 8)) (C := RX8) (T := TX8) (N := 26) hx hb hts iX8 hown hK hP 0 rfl rfl 9 (by decide) q10 (fun _ h9 => h9) rfl dX8_day_204 ?_
          refine lv_iconst (v := 5) hx hb dX8_day_207 (by decide) ?_
          refine lv_iload_n hx hb dX8_day_208 rfl (lv_at hl 0 rfl) ?_
          refine lv_iadd hx hb dX8_day_209 ?_
          obtain ⟨h9, hf⟩ := kv_ix_e hf
          refine va_iald hx hb hK hP 8 1 rfl rfl h9 dX8_day_210 ?_
          obtain ⟨x34, ex34, hf⟩ := kv_lt_e hf
          refine vv_nami ex34 ?_
          obtain ⟨h9, hf⟩ := kv_ix_e hf
          obtain ⟨mZ35, emZ35, hf⟩ := kv_lt_e hf
          refine va_iast hx hb hK hP hD hS 8 1 rfl rfl h9 dX8_day_211 (fun H locs hP hD hS => ?_)
          have hP : va_P D vwCl (w_MD C aZ mZ35 mY) H := by rw [emZ35]; exact hP
          have hD : va_D A (w_MD C aZ mZ35 mY) := by rw [emZ35]; exact hD
          obtain ⟨x36, ex36, hf⟩ := kv_lt_e hf
          refine lv_iinc (v := x36) (lv' := [(2, .int x36), (1, .int x11), (0, .ref (aZ 0))]) hx hb dX8_day_212 hl (k := 0) rfl (by rw [ex36]; rfl) (by decide) rfl (fun ls hl => ?_)
          refine lv_goto (tgt := 179) hx hb dX8_day_215 (by decide) ?_
          exact ih _ _ _ _ _ hP hD hS (lv_sub hl [0, 1, 2] rfl) hf
    refine L179 _ (fun x37 mZ38 H locs ls hP hD hS hl hf => ?_) _ _ _ _ _ _ hP hD hS (lv_sub hl [0, 1, 2] rfl) hf
    refine lv_iconst (v := 0) hx hb dX8_day_218 (by decide) ?_
    refine lv_istore_n (lv' := [(2, .int 0), (1, .int x11), (0, .ref (aZ 0))]) hx hb dX8_day_219 rfl hl (by decide) rfl (fun ls hl => ?_)
    have L220 : ∀ (K220 : Int32 → Mm → Option (Int32 × Mm)), (∀ (x39 : Int32) (mZ40 : Mm) (H : Heap) (locs : List Loc) (ls : Array Slot), va_P D vwCl (w_MD C aZ mZ40 mY) H → va_D A (w_MD C aZ mZ40 mY) → va_S A s.heap H locs → lv_has ls 3 [(2, .int x39), (1, .int x11), (0, .ref (aZ 0))] → K220 x39 mZ40 = some (rr, oZ) → W p l e rX8_day s m args below meth c H locs 0 0 Q (F0 m 247 ls [])) → ∀ (n : Nat) (x39 : Int32) (mZ40 : Mm) (H : Heap) (locs : List Loc) (ls : Array Slot), va_P D vwCl (w_MD C aZ mZ40 mY) H → va_D A (w_MD C aZ mZ40 mY) → va_S A s.heap H locs → lv_has ls 3 [(2, .int x39), (1, .int x11), (0, .ref (aZ 0))] → ffX8_day_L220  K220 n x39 mZ40 = some (rr, oZ) → W p l e rX8_day s m args below meth c H locs 0 0 Q (F0 m 220 ls []) := by
      intro K220 hK9 n
      induction n with
      | zero => intro x39 mZ40 H locs ls hP hD hS hl hf; exact kv_no hf
      | succ n ih =>
        intro x39 mZ40 H locs ls hP hD hS hl hf
        rw [ffX8_day_L220_s] at hf
        refine lv_iload_n hx hb dX8_day_220 rfl (lv_at hl 0 rfl) ?_
        refine lv_bipush (v := 24) hx hb dX8_day_221 (by decide) ?_
        refine lv_icmp_ge (tgt := 247) hx hb dX8_day_223 (by decide) (fun hc => ?_) (fun hc => ?_)
        · have hf := kv_t hc hf
          exact hK9 _ _ _ _ _ hP hD hS (lv_sub hl [0, 1, 2] rfl) hf
        · have hf := kv_f hc hf
          refine lv_aload_n hx hb dX8_day_226 rfl (lv_at hl 2 rfl) ?_
          refine va_get (D := D) (ci := 8) (v := .ref (aZ 10)) (C := RX8) (T := TX8) (N := 26) hx hb hts iX8 hown hK hP 0 rfl rfl 11 (by decide) q11 (fun _ h9 => h9) rfl dX8_day_227 ?_
          refine lv_iload_n hx hb dX8_day_230 rfl (lv_at hl 0 rfl) ?_
          refine lv_aload_n hx hb dX8_day_231 rfl (lv_at hl 2 rfl) ?_
          refine va_get (D := D) (ci := 8) (v := .ref (aZ 10)) (C := RX8) (T := TX8) (N := 26) hx hb hts iX8 hown hK hP 0 rfl rfl 11 (by decide) q11 (fun _ h9 => h9) rfl dX8_day_232 ?_
          refine lv_bipush (v := 24) hx hb dX8_day_235 (by decide) ?_
          refine lv_iload_n hx hb dX8_day_237 rfl (lv_at hl 0 rfl) ?_
          refine lv_iadd hx hb dX8_day_238 ?_
          obtain ⟨h9, hf⟩ := kv_ix_e hf
          refine va_iald hx hb hK hP 10 1 rfl rfl h9 dX8_day_239 ?_
          obtain ⟨x41, ex41, hf⟩ := kv_lt_e hf
          refine vv_nami ex41 ?_
          obtain ⟨h9, hf⟩ := kv_ix_e hf
          obtain ⟨mZ42, emZ42, hf⟩ := kv_lt_e hf
          refine va_iast hx hb hK hP hD hS 10 1 rfl rfl h9 dX8_day_240 (fun H locs hP hD hS => ?_)
          have hP : va_P D vwCl (w_MD C aZ mZ42 mY) H := by rw [emZ42]; exact hP
          have hD : va_D A (w_MD C aZ mZ42 mY) := by rw [emZ42]; exact hD
          obtain ⟨x43, ex43, hf⟩ := kv_lt_e hf
          refine lv_iinc (v := x43) (lv' := [(2, .int x43), (1, .int x11), (0, .ref (aZ 0))]) hx hb dX8_day_241 hl (k := 0) rfl (by rw [ex43]; rfl) (by decide) rfl (fun ls hl => ?_)
          refine lv_goto (tgt := 220) hx hb dX8_day_244 (by decide) ?_
          exact ih _ _ _ _ _ hP hD hS (lv_sub hl [0, 1, 2] rfl) hf
    refine L220 _ (fun x44 mZ45 H locs ls hP hD hS hl hf => ?_) _ _ _ _ _ _ hP hD hS (lv_sub hl [0, 1, 2] rfl) hf
    refine lv_aload_n hx hb dX8_day_247 rfl (lv_at hl 2 rfl) ?_
    obtain ⟨r46, mZ47, hc, hf⟩ := kv_b2_e hf
    have hs9 : vv_Sub D H A (w_MD C aZ mZ45 mY) (w_MD C aZ mZ47 mY) (w_MD C aZ mZ47 mY) := vv_Sub.same (w_MD C aZ mZ47 mY) hP hD hS hA
    refine vv_goi (wn := (w_MD C aZ mZ47 mY)) hK hs9 hS (vv_rV (As := []) (rest := []) hx hb hml hown hts hK hN hS hs9 (ccX8_anew l D C H.size aZ mZ45 mY r46 mZ47 hc) (cwV 0 hts gX8_day_X8_anew rfl rfl rfl (by decide +kernel) ⟨(Nat.le_of_ble_eq_true rfl), (Nat.le_of_ble_eq_true rfl)⟩) (va_recv hK hP (ci := 8) (q0 := 0) rfl rfl) rfl hl.1 rfl (Nat.le_of_ble_eq_true rfl) dX8_day_248 ⟨Nat.zero_le _, Nat.zero_le _⟩) (fun H locs hP hD hS => ?_)
    refine lv_pop hx hb dX8_day_251 rfl ?_
    refine lv_aload_n hx hb dX8_day_252 rfl (lv_at hl 2 rfl) ?_
    refine va_get (D := D) (ci := 8) (v := .ref (aZ 12)) (C := RX8) (T := TX8) (N := 26) hx hb hts iX8 hown hK hP 0 rfl rfl 18 (by decide) q12 (fun _ h9 => h9) rfl dX8_day_253 ?_
    refine lv_iconst (v := 0) hx hb dX8_day_256 (by decide) ?_
    refine lv_iconst (v := 0) hx hb dX8_day_257 (by decide) ?_
    obtain ⟨h9, hf⟩ := kv_ix_e hf
    obtain ⟨mZ48, emZ48, hf⟩ := kv_lt_e hf
    refine va_zast hx hb hK hP hD hS 12 2 rfl rfl h9 dX8_day_258 (fun H locs hP hD hS => ?_)
    have hP : va_P D vwCl (w_MD C aZ mZ48 mY) H := by rw [emZ48]; exact hP
    have hD : va_D A (w_MD C aZ mZ48 mY) := by rw [emZ48]; exact hD
    refine lv_aload_n hx hb dX8_day_259 rfl (lv_at hl 2 rfl) ?_
    refine va_get (D := D) (ci := 8) (v := .ref (aZ 12)) (C := RX8) (T := TX8) (N := 26) hx hb hts iX8 hown hK hP 0 rfl rfl 18 (by decide) q12 (fun _ h9 => h9) rfl dX8_day_260 ?_
    refine lv_iconst (v := 1) hx hb dX8_day_263 (by decide) ?_
    refine lv_iconst (v := 0) hx hb dX8_day_264 (by decide) ?_
    obtain ⟨h9, hf⟩ := kv_ix_e hf
    obtain ⟨mZ49, emZ49, hf⟩ := kv_lt_e hf
    refine va_zast hx hb hK hP hD hS 12 2 rfl rfl h9 dX8_day_265 (fun H locs hP hD hS => ?_)
    have hP : va_P D vwCl (w_MD C aZ mZ49 mY) H := by rw [emZ49]; exact hP
    have hD : va_D A (w_MD C aZ mZ49 mY) := by rw [emZ49]; exact hD
    refine lv_aload_n hx hb dX8_day_266 rfl (lv_at hl 2 rfl) ?_
    refine lv_iconst (v := 0) hx hb dX8_day_267 (by decide) ?_
    obtain ⟨mZ50, emZ50, hf⟩ := kv_lt_e hf
    refine va_put (D := D) (ci := 8) (v := .int 0) (ty := .int) (C := RX8) (T := TX8) (N := 26) hx hb hts iX8 tyX8 tyX8_ok nmX8 hown hK hP hD hS 0 rfl rfl 2 (by decide) q13 (fun _ h9 => h9) rfl (tyX8_ok 2 (by decide)) rfl rfl (Nat.le_of_ble_eq_true rfl) dX8_day_268 (fun H locs hP hD hS => ?_)
    have hP : va_P D vwCl (w_MD C aZ mZ50 mY) H := by rw [emZ50]; exact hP
    have hD : va_D A (w_MD C aZ mZ50 mY) := by rw [emZ50]; exact hD
    refine lv_iload_n hx hb dX8_day_271 rfl (lv_at hl 1 rfl) ?_
    exact hret _ _ _ _ _ _ hf rfl hP hD hS dX8_day_272
  · have hf := kv_f hc hf
    refine lv_bipush (v := (-10)) hx hb dX8_day_74 (by decide) ?_
    refine lv_aload_n hx hb dX8_day_76 rfl (lv_at hl 1 rfl) ?_
    refine va_get (D := D) (ci := 8) (v := .int (mZ12 0 16)) (C := RX8) (T := TX8) (N := 26) hx hb hts iX8 hown hK hP 0 rfl rfl 16 (by decide) q1 (fun _ h9 => h9) rfl dX8_day_77 ?_
    refine lv_isub hx hb dX8_day_80 ?_
    exact hret _ _ _ _ _ _ hf rfl hP hD hS dX8_day_81
abbrev rX8_go : Room := { frames := 2, cells := 0, slots := 0, locals := 51 }
set_option maxHeartbeats 4000000 in
set_option maxRecDepth 100000 in
theorem ccX8_go (l : Launch) (D : va_G) (C : Nat → ClassId) (sz : Nat) (aZ : Nat → Nat) (mZ : Mm) (mY : Int64) (p0 : Int32) (rr : Int32) (oZ : Mm) (hf : ffX8_go p0 mZ = some (rr, oZ)) : Met l yX8_go wsX8_go rX8_go (va_Pc [.ref (aZ 0), .int p0] (vv_pre D C (w_MD C aZ mZ mY) sz)) (vv_QI D C (w_MD C aZ mZ mY) (w_MD C aZ oZ mY) sz rr) 0 0 (va_A (w_MD C aZ mZ mY) sz) := by
  unfold ffX8_go at hf
  refine vv_metI (cc := cX8_go) (maxL := 4) (ty := .int) (by decide) rfl (Nat.le_of_ble_eq_true rfl) ?_
  intro p e s m args below meth c A Q H locs ls hx hb hml hown hts hA hK hN hP hD hS hl hret
  have hown : s.vm.findClass RX8 = some m.cls := hown
  have hl : lv_has ls 4 [(0, .ref (aZ 0)), (1, .int p0)] := hl
  have hret : ∀ (v0 : Int32) (v1 : Mm) (H : Heap) (locs : List Loc) (ls : Array Slot) (pc : Nat), some (v0, v1) = some (rr, oZ) → narrow .int (.int v0) = .int v0 → va_P D vwCl (w_MD C aZ v1 mY) H → va_D A (w_MD C aZ v1 mY) → va_S A s.heap H locs → decode cX8_go pc = .ok (.ireturn, 1) → W p l e rX8_go s m args below meth c H locs 0 0 Q (F0 m pc ls [.int v0]) := by
    intro v0 v1 H locs ls pc h0 hn h1 h2 h3 h4
    cases h0
    exact hret H locs ls pc hn h1 h2 h3 h4
  have q0 := hts (.fieldLink RX8 41 "ForeRainModel" "now" "[I") (by decide +kernel)
  have iX8 : ∀ w ∈ u_ws RX8 TX8 26, w ∈ wsX8_go := by decide +kernel
  refine lv_iload_n hx hb dX8_go_0 rfl (lv_at hl 1 rfl) ?_
  refine lv_iconst (v := 1) hx hb dX8_go_1 (by decide) ?_
  refine lv_bipush (v := 99) hx hb dX8_go_2 (by decide) ?_
  obtain ⟨r1, hc, hf⟩ := kv_b1_e hf
  have hs9 : vv_Sub D H A ([] : va_W) ([] : va_W) (w_MD C aZ mZ mY) := vv_Sub.none hP hD hS hA
  refine vv_goi (wn := (w_MD C aZ mZ mY)) hK hs9 hS (vv_rS (As := [.int p0, .int 1, .int 99]) (rest := []) hx hb hml hown hts hK hN hS hs9 (ccX8_in l D C H.size p0 (1 : Int32) (99 : Int32) r1 hc) (va_cwS 3 hts gX8_go_X8_in rfl rfl rfl (by decide +kernel) ⟨(Nat.le_of_ble_eq_true rfl), (Nat.le_of_ble_eq_true rfl)⟩) rfl hl.1 rfl (Nat.le_of_ble_eq_true rfl) dX8_go_4 ⟨Nat.zero_le _, Nat.zero_le _⟩) (fun H locs hP hD hS => ?_)
  refine lv_if_ne (tgt := 12) hx hb dX8_go_7 (by decide) (fun hc => ?_) (fun hc => ?_)
  · have hf := kv_f hc hf
    refine lv_aload_n hx hb dX8_go_12 rfl (lv_at hl 0 rfl) ?_
    refine va_get (D := D) (ci := 8) (v := .ref (aZ 11)) (C := RX8) (T := TX8) (N := 26) hx hb hts iX8 hown hK hP 0 rfl rfl 17 (by decide) q0 (fun _ h9 => h9) rfl dX8_go_13 ?_
    refine lv_iconst (v := 0) hx hb dX8_go_16 (by decide) ?_
    obtain ⟨h9, hf⟩ := kv_ix_e hf
    refine va_iald hx hb hK hP 11 1 rfl rfl h9 dX8_go_17 ?_
    refine lv_bipush (v := 99) hx hb dX8_go_18 (by decide) ?_
    refine lv_icmp_ne (tgt := 26) hx hb dX8_go_20 (by decide) (fun hc => ?_) (fun hc => ?_)
    · have hf := kv_f hc hf
      refine lv_iconst (v := 0) hx hb dX8_go_26 (by decide) ?_
      refine lv_istore_n (lv' := [(2, .int 0), (0, .ref (aZ 0)), (1, .int p0)]) hx hb dX8_go_27 rfl hl (by decide) rfl (fun ls hl => ?_)
      refine lv_iconst (v := 0) hx hb dX8_go_28 (by decide) ?_
      refine lv_istore_n (lv' := [(3, .int 0), (2, .int 0), (0, .ref (aZ 0)), (1, .int p0)]) hx hb dX8_go_29 rfl hl (by decide) rfl (fun ls hl => ?_)
      have L30 : ∀ (K30 : Int32 → Int32 → Mm → Option (Int32 × Mm)), (∀ (x2 : Int32) (x3 : Int32) (mZ4 : Mm) (H : Heap) (locs : List Loc) (ls : Array Slot), va_P D vwCl (w_MD C aZ mZ4 mY) H → va_D A (w_MD C aZ mZ4 mY) → va_S A s.heap H locs → lv_has ls 4 [(3, .int x2), (2, .int x3), (0, .ref (aZ 0)), (1, .int p0)] → K30 x2 x3 mZ4 = some (rr, oZ) → W p l e rX8_go s m args below meth c H locs 0 0 Q (F0 m 60 ls [])) → ∀ (n : Nat) (x2 : Int32) (x3 : Int32) (mZ4 : Mm) (H : Heap) (locs : List Loc) (ls : Array Slot), va_P D vwCl (w_MD C aZ mZ4 mY) H → va_D A (w_MD C aZ mZ4 mY) → va_S A s.heap H locs → lv_has ls 4 [(3, .int x2), (2, .int x3), (0, .ref (aZ 0)), (1, .int p0)] → ffX8_go_L30 p0 K30 n x2 x3 mZ4 = some (rr, oZ) → W p l e rX8_go s m args below meth c H locs 0 0 Q (F0 m 30 ls []) := by
        intro K30 hK9 n
        induction n with
        | zero => intro x2 x3 mZ4 H locs ls hP hD hS hl hf; exact kv_no hf
        | succ n ih =>
          intro x2 x3 mZ4 H locs ls hP hD hS hl hf
          rw [ffX8_go_L30_s] at hf
          refine lv_iload_n hx hb dX8_go_30 rfl (lv_at hl 0 rfl) ?_
          refine lv_iload_n hx hb dX8_go_31 rfl (lv_at hl 3 rfl) ?_
          refine lv_icmp_ge (tgt := 60) hx hb dX8_go_32 (by decide) (fun hc => ?_) (fun hc => ?_)
          · have hf := kv_t hc hf
            exact hK9 _ _ _ _ _ _ hP hD hS (lv_sub hl [0, 1, 2, 3] rfl) hf
          · have hf := kv_f hc hf
            refine lv_aload_n hx hb dX8_go_35 rfl (lv_at hl 2 rfl) ?_
            refine va_get (D := D) (ci := 8) (v := .ref (aZ 11)) (C := RX8) (T := TX8) (N := 26) hx hb hts iX8 hown hK hP 0 rfl rfl 17 (by decide) q0 (fun _ h9 => h9) rfl dX8_go_36 ?_
            refine lv_iconst (v := 0) hx hb dX8_go_39 (by decide) ?_
            obtain ⟨h9, hf⟩ := kv_ix_e hf
            refine va_iald hx hb hK hP 11 1 rfl rfl h9 dX8_go_40 ?_
            refine lv_bipush (v := 99) hx hb dX8_go_41 (by decide) ?_
            refine lv_icmp_ge (tgt := 60) hx hb dX8_go_43 (by decide) (fun hc => ?_) (fun hc => ?_)
            · have hf := kv_t hc hf
              exact hK9 _ _ _ _ _ _ hP hD hS (lv_sub hl [0, 1, 2, 3] rfl) hf
            · have hf := kv_f hc hf
              refine lv_iload_n hx hb dX8_go_46 rfl (lv_at hl 1 rfl) ?_
              refine lv_aload_n hx hb dX8_go_47 rfl (lv_at hl 2 rfl) ?_
              refine lv_iconst (v := 0) hx hb dX8_go_48 (by decide) ?_
              obtain ⟨r5, mZ6, hc, hf⟩ := kv_b2_e hf
              have hs9 : vv_Sub D H A (w_MD C aZ mZ4 mY) (w_MD C aZ mZ6 mY) (w_MD C aZ mZ6 mY) := vv_Sub.same (w_MD C aZ mZ6 mY) hP hD hS hA
              refine vv_goi (wn := (w_MD C aZ mZ6 mY)) hK hs9 hS (vv_rV (As := [.int 0]) (rest := [.int x3]) hx hb hml hown hts hK hN hS hs9 (ccX8_goStep l D C H.size aZ mZ4 mY (0 : Int32) r5 mZ6 hc) (cwV 1 hts gX8_go_X8_goStep rfl rfl rfl (by decide +kernel) ⟨(Nat.le_of_ble_eq_true rfl), (Nat.le_of_ble_eq_true rfl)⟩) (va_recv hK hP (ci := 8) (q0 := 0) rfl rfl) rfl hl.1 rfl (Nat.le_of_ble_eq_true rfl) dX8_go_49 ⟨Nat.zero_le _, Nat.zero_le _⟩) (fun H locs hP hD hS => ?_)
              refine lv_iadd hx hb dX8_go_52 ?_
              obtain ⟨x7, ex7, hf⟩ := kv_lt_e hf
              refine vv_nami ex7 ?_
              refine lv_istore_n (lv' := [(2, .int x7), (3, .int x2), (0, .ref (aZ 0)), (1, .int p0)]) hx hb dX8_go_53 rfl hl (by decide) rfl (fun ls hl => ?_)
              obtain ⟨x8, ex8, hf⟩ := kv_lt_e hf
              refine lv_iinc (v := x8) (lv' := [(3, .int x8), (2, .int x7), (0, .ref (aZ 0)), (1, .int p0)]) hx hb dX8_go_54 hl (k := 1) rfl (by rw [ex8]; rfl) (by decide) rfl (fun ls hl => ?_)
              refine lv_goto (tgt := 30) hx hb dX8_go_57 (by decide) ?_
              exact ih _ _ _ _ _ _ hP hD hS (lv_sub hl [0, 1, 2, 3] rfl) hf
      refine L30 _ (fun x9 x10 mZ11 H locs ls hP hD hS hl hf => ?_) _ _ _ _ _ _ _ hP hD hS (lv_sub hl [0, 1, 2, 3] rfl) hf
      refine lv_iload_n hx hb dX8_go_60 rfl (lv_at hl 1 rfl) ?_
      exact hret _ _ _ _ _ _ hf rfl hP hD hS dX8_go_61
    · have hf := kv_t hc hf
      refine lv_bipush (v := (-2)) hx hb dX8_go_23 (by decide) ?_
      exact hret _ _ _ _ _ _ hf rfl hP hD hS dX8_go_25
  · have hf := kv_t hc hf
    refine lv_iconst (v := (-1)) hx hb dX8_go_10 (by decide) ?_
    exact hret _ _ _ _ _ _ hf rfl hP hD hS dX8_go_11
abbrev rX8_isSpot : Room := { frames := 1, cells := 0, slots := 0, locals := 22 }
set_option maxHeartbeats 4000000 in
set_option maxRecDepth 100000 in
theorem ccX8_isSpot (l : Launch) (D : va_G) (C : Nat → ClassId) (sz : Nat) (aZ : Nat → Nat) (mZ : Mm) (mY : Int64) (p0 : Int32) (rr : Int32) (hf : ffX8_isSpot p0 mZ = some (rr)) : Met l yX8_isSpot wsX8_isSpot rX8_isSpot (va_Pc [.ref (aZ 0), .int p0] (vv_pre D C (w_MD C aZ mZ mY) sz)) (vv_QI D C (w_MD C aZ mZ mY) (w_MD C aZ mZ mY) sz rr) 0 0 (va_A (w_MD C aZ mZ mY) sz) := by
  unfold ffX8_isSpot at hf
  refine vv_metI (cc := cX8_isSpot) (maxL := 2) (ty := .boolean) (by decide) rfl (Nat.le_of_ble_eq_true rfl) ?_
  intro p e s m args below meth c A Q H locs ls hx hb hml hown hts hA hK hN hP hD hS hl hret
  have hown : s.vm.findClass RX8 = some m.cls := hown
  have hl : lv_has ls 2 [(0, .ref (aZ 0)), (1, .int p0)] := hl
  have hret : ∀ (v0 : Int32) (H : Heap) (locs : List Loc) (ls : Array Slot) (pc : Nat), some (v0) = some (rr) → narrow .boolean (.int v0) = .int v0 → va_P D vwCl (w_MD C aZ mZ mY) H → va_D A (w_MD C aZ mZ mY) → va_S A s.heap H locs → decode cX8_isSpot pc = .ok (.ireturn, 1) → W p l e rX8_isSpot s m args below meth c H locs 0 0 Q (F0 m pc ls [.int v0]) := by
    intro v0 H locs ls pc h0 hn h1 h2 h3 h4
    cases h0
    exact hret H locs ls pc hn h1 h2 h3 h4
  have q0 := hts (.fieldLink RX8 26 "ForeRainModel" "spots" "[I") (by decide +kernel)
  have iX8 : ∀ w ∈ u_ws RX8 TX8 26, w ∈ wsX8_isSpot := by decide +kernel
  refine lv_iload_n hx hb dX8_isSpot_0 rfl (lv_at hl 1 rfl) ?_
  refine lv_iconst (v := 0) hx hb dX8_isSpot_1 (by decide) ?_
  refine lv_aload_n hx hb dX8_isSpot_2 rfl (lv_at hl 0 rfl) ?_
  refine va_get (D := D) (ci := 8) (v := .ref (aZ 6)) (C := RX8) (T := TX8) (N := 26) hx hb hts iX8 hown hK hP 0 rfl rfl 7 (by decide) q0 (fun _ h9 => h9) rfl dX8_isSpot_3 ?_
  refine lv_iconst (v := 0) hx hb dX8_isSpot_6 (by decide) ?_
  obtain ⟨h9, hf⟩ := kv_ix_e hf
  refine va_iald hx hb hK hP 6 1 rfl rfl h9 dX8_isSpot_7 ?_
  refine lv_iconst (v := 1) hx hb dX8_isSpot_8 (by decide) ?_
  refine lv_isub hx hb dX8_isSpot_9 ?_
  obtain ⟨r1, hc, hf⟩ := kv_b1_e hf
  have hs9 : vv_Sub D H A ([] : va_W) ([] : va_W) (w_MD C aZ mZ mY) := vv_Sub.none hP hD hS hA
  refine vv_goi (wn := (w_MD C aZ mZ mY)) hK hs9 hS (vv_rS (As := [.int p0, .int 0, .int ((mZ 6 (0 : Int32).toNatClampNeg) - 1)]) (rest := []) hx hb hml hown hts hK hN hS hs9 (ccX8_in l D C H.size p0 (0 : Int32) ((mZ 6 (0 : Int32).toNatClampNeg) - 1) r1 hc) (va_cwS 3 hts gX8_isSpot_X8_in rfl rfl rfl (by decide +kernel) ⟨(Nat.le_of_ble_eq_true rfl), (Nat.le_of_ble_eq_true rfl)⟩) rfl hl.1 rfl (Nat.le_of_ble_eq_true rfl) dX8_isSpot_10 ⟨Nat.zero_le _, Nat.zero_le _⟩) (fun H locs hP hD hS => ?_)
  obtain ⟨h9, hf⟩ := kv_bo_e hf
  exact hret _ _ _ _ _ hf h9 hP hD hS dX8_isSpot_13
abbrev rX8_pieceOn : Room := { frames := 0, cells := 0, slots := 0, locals := 0 }
set_option maxHeartbeats 4000000 in
set_option maxRecDepth 100000 in
theorem ccX8_pieceOn (l : Launch) (D : va_G) (C : Nat → ClassId) (sz : Nat) (aZ : Nat → Nat) (mZ : Mm) (mY : Int64) (p0 : Int32) (p1 : Int32) (rr : Int32) (hf : ffX8_pieceOn p0 p1 mZ = some (rr)) : Met l yX8_pieceOn wsX8_pieceOn rX8_pieceOn (va_Pc [.ref (aZ 0), .int p0, .int p1] (vv_pre D C (w_MD C aZ mZ mY) sz)) (vv_QI D C (w_MD C aZ mZ mY) (w_MD C aZ mZ mY) sz rr) 0 0 (va_A (w_MD C aZ mZ mY) sz) := by
  unfold ffX8_pieceOn at hf
  refine vv_metI (cc := cX8_pieceOn) (maxL := 4) (ty := .int) (by decide) rfl (Nat.le_of_ble_eq_true rfl) ?_
  intro p e s m args below meth c A Q H locs ls hx hb hml hown hts hA hK hN hP hD hS hl hret
  have hown : s.vm.findClass RX8 = some m.cls := hown
  have hl : lv_has ls 4 [(0, .ref (aZ 0)), (1, .int p0), (2, .int p1)] := hl
  have hret : ∀ (v0 : Int32) (H : Heap) (locs : List Loc) (ls : Array Slot) (pc : Nat), some (v0) = some (rr) → narrow .int (.int v0) = .int v0 → va_P D vwCl (w_MD C aZ mZ mY) H → va_D A (w_MD C aZ mZ mY) → va_S A s.heap H locs → decode cX8_pieceOn pc = .ok (.ireturn, 1) → W p l e rX8_pieceOn s m args below meth c H locs 0 0 Q (F0 m pc ls [.int v0]) := by
    intro v0 H locs ls pc h0 hn h1 h2 h3 h4
    cases h0
    exact hret H locs ls pc hn h1 h2 h3 h4
  have q0 := hts (.fieldLink RX8 13 "ForeRainModel" "pieces" "[I") (by decide +kernel)
  have q1 := hts (.fieldLink RX8 41 "ForeRainModel" "now" "[I") (by decide +kernel)
  have iX8 : ∀ w ∈ u_ws RX8 TX8 26, w ∈ wsX8_pieceOn := by decide +kernel
  refine lv_iconst (v := 0) hx hb dX8_pieceOn_0 (by decide) ?_
  refine lv_istore_n (lv' := [(3, .int 0), (0, .ref (aZ 0)), (1, .int p0), (2, .int p1)]) hx hb dX8_pieceOn_1 rfl hl (by decide) rfl (fun ls hl => ?_)
  have L2 : ∀ (K2 : Int32 → Option (Int32)), (∀ (x1 : Int32) (H : Heap) (locs : List Loc) (ls : Array Slot), va_P D vwCl (w_MD C aZ mZ mY) H → va_D A (w_MD C aZ mZ mY) → va_S A s.heap H locs → lv_has ls 4 [(3, .int x1), (0, .ref (aZ 0)), (1, .int p0), (2, .int p1)] → K2 x1 = some (rr) → W p l e rX8_pieceOn s m args below meth c H locs 0 0 Q (F0 m 35 ls [])) → ∀ (n : Nat) (x1 : Int32) (H : Heap) (locs : List Loc) (ls : Array Slot), va_P D vwCl (w_MD C aZ mZ mY) H → va_D A (w_MD C aZ mZ mY) → va_S A s.heap H locs → lv_has ls 4 [(3, .int x1), (0, .ref (aZ 0)), (1, .int p0), (2, .int p1)] → ffX8_pieceOn_L2 p0 p1 mZ K2 n x1 = some (rr) → W p l e rX8_pieceOn s m args below meth c H locs 0 0 Q (F0 m 2 ls []) := by
    intro K2 hK9 n
    induction n with
    | zero => intro x1 H locs ls hP hD hS hl hf; exact kv_no hf
    | succ n ih =>
      intro x1 H locs ls hP hD hS hl hf
      rw [ffX8_pieceOn_L2_s] at hf
      refine lv_iload_n hx hb dX8_pieceOn_2 rfl (lv_at hl 0 rfl) ?_
      refine lv_aload_n hx hb dX8_pieceOn_3 rfl (lv_at hl 1 rfl) ?_
      refine va_get (D := D) (ci := 8) (v := .ref (aZ 2)) (C := RX8) (T := TX8) (N := 26) hx hb hts iX8 hown hK hP 0 rfl rfl 3 (by decide) q0 (fun _ h9 => h9) rfl dX8_pieceOn_4 ?_
      refine lv_iconst (v := 0) hx hb dX8_pieceOn_7 (by decide) ?_
      obtain ⟨h9, hf⟩ := kv_ix_e hf
      refine va_iald hx hb hK hP 2 1 rfl rfl h9 dX8_pieceOn_8 ?_
      refine lv_icmp_ge (tgt := 35) hx hb dX8_pieceOn_9 (by decide) (fun hc => ?_) (fun hc => ?_)
      · have hf := kv_t hc hf
        exact hK9 _ _ _ _ hP hD hS (lv_sub hl [0, 1, 2, 3] rfl) hf
      · have hf := kv_f hc hf
        refine lv_aload_n hx hb dX8_pieceOn_12 rfl (lv_at hl 1 rfl) ?_
        refine va_get (D := D) (ci := 8) (v := .ref (aZ 11)) (C := RX8) (T := TX8) (N := 26) hx hb hts iX8 hown hK hP 0 rfl rfl 17 (by decide) q1 (fun _ h9 => h9) rfl dX8_pieceOn_13 ?_
        refine lv_iload_n hx hb dX8_pieceOn_16 rfl (lv_at hl 2 rfl) ?_
        refine lv_bipush (v := 20) hx hb dX8_pieceOn_17 (by decide) ?_
        refine lv_iadd hx hb dX8_pieceOn_19 ?_
        refine lv_iload_n hx hb dX8_pieceOn_20 rfl (lv_at hl 0 rfl) ?_
        refine lv_iadd hx hb dX8_pieceOn_21 ?_
        obtain ⟨h9, hf⟩ := kv_ix_e hf
        refine va_iald hx hb hK hP 11 1 rfl rfl h9 dX8_pieceOn_22 ?_
        refine lv_iload_n hx hb dX8_pieceOn_23 rfl (lv_at hl 3 rfl) ?_
        refine lv_icmp_ne (tgt := 29) hx hb dX8_pieceOn_24 (by decide) (fun hc => ?_) (fun hc => ?_)
        · have hf := kv_f hc hf
          obtain ⟨x2, ex2, hf⟩ := kv_lt_e hf
          refine lv_iinc (v := x2) (lv' := [(3, .int x2), (0, .ref (aZ 0)), (1, .int p0), (2, .int p1)]) hx hb dX8_pieceOn_29 hl (k := 0) rfl (by rw [ex2]; rfl) (by decide) rfl (fun ls hl => ?_)
          refine lv_goto (tgt := 2) hx hb dX8_pieceOn_32 (by decide) ?_
          exact ih _ _ _ _ hP hD hS (lv_sub hl [0, 1, 2, 3] rfl) hf
        · have hf := kv_t hc hf
          refine lv_iload_n hx hb dX8_pieceOn_27 rfl (lv_at hl 0 rfl) ?_
          exact hret _ _ _ _ _ hf rfl hP hD hS dX8_pieceOn_28
  refine L2 _ (fun x3 H locs ls hP hD hS hl hf => ?_) _ _ _ _ _ hP hD hS (lv_sub hl [0, 1, 2, 3] rfl) hf
  refine lv_bipush (v := (-9)) hx hb dX8_pieceOn_35 (by decide) ?_
  exact hret _ _ _ _ _ hf rfl hP hD hS dX8_pieceOn_37
abbrev rX8_hang : Room := { frames := 2, cells := 0, slots := 0, locals := 43 }
set_option maxHeartbeats 4000000 in
set_option maxRecDepth 100000 in
theorem ccX8_hang (l : Launch) (D : va_G) (C : Nat → ClassId) (sz : Nat) (aZ : Nat → Nat) (mZ : Mm) (mY : Int64) (p0 : Int32) (p1 : Int32) (rr : Int32) (oZ : Mm) (hf : ffX8_hang p0 p1 mZ = some (rr, oZ)) : Met l yX8_hang wsX8_hang rX8_hang (va_Pc [.ref (aZ 0), .int p0, .int p1] (vv_pre D C (w_MD C aZ mZ mY) sz)) (vv_QI D C (w_MD C aZ mZ mY) (w_MD C aZ oZ mY) sz rr) 0 0 (va_A (w_MD C aZ mZ mY) sz) := by
  unfold ffX8_hang at hf
  refine vv_metI (cc := cX8_hang) (maxL := 3) (ty := .int) (by decide) rfl (Nat.le_of_ble_eq_true rfl) ?_
  intro p e s m args below meth c A Q H locs ls hx hb hml hown hts hA hK hN hP hD hS hl hret
  have hown : s.vm.findClass RX8 = some m.cls := hown
  have hl : lv_has ls 3 [(0, .ref (aZ 0)), (1, .int p0), (2, .int p1)] := hl
  have hret : ∀ (v0 : Int32) (v1 : Mm) (H : Heap) (locs : List Loc) (ls : Array Slot) (pc : Nat), some (v0, v1) = some (rr, oZ) → narrow .int (.int v0) = .int v0 → va_P D vwCl (w_MD C aZ v1 mY) H → va_D A (w_MD C aZ v1 mY) → va_S A s.heap H locs → decode cX8_hang pc = .ok (.ireturn, 1) → W p l e rX8_hang s m args below meth c H locs 0 0 Q (F0 m pc ls [.int v0]) := by
    intro v0 v1 H locs ls pc h0 hn h1 h2 h3 h4
    cases h0
    exact hret H locs ls pc hn h1 h2 h3 h4
  have q0 := hts (.fieldLink RX8 20 "ForeRainModel" "wide" "[I") (by decide +kernel)
  have q1 := hts (.fieldLink RX8 29 "ForeRainModel" "room" "[I") (by decide +kernel)
  have q2 := hts (.fieldLink RX8 41 "ForeRainModel" "now" "[I") (by decide +kernel)
  have iX8 : ∀ w ∈ u_ws RX8 TX8 26, w ∈ wsX8_hang := by decide +kernel
  refine lv_aload_n hx hb dX8_hang_0 rfl (lv_at hl 0 rfl) ?_
  refine lv_iload_n hx hb dX8_hang_1 rfl (lv_at hl 1 rfl) ?_
  obtain ⟨r1, hc, hf⟩ := kv_b1_e hf
  have hs9 : vv_Sub D H A (w_MD C aZ mZ mY) (w_MD C aZ mZ mY) (w_MD C aZ mZ mY) := vv_Sub.same (w_MD C aZ mZ mY) hP hD hS hA
  refine vv_goi (wn := (w_MD C aZ mZ mY)) hK hs9 hS (vv_rV (As := [.int p0]) (rest := []) hx hb hml hown hts hK hN hS hs9 (ccX8_isPiece l D C H.size aZ mZ mY p0 r1 hc) (cwV 1 hts gX8_hang_X8_isPiece rfl rfl rfl (by decide +kernel) ⟨(Nat.le_of_ble_eq_true rfl), (Nat.le_of_ble_eq_true rfl)⟩) (va_recv hK hP (ci := 8) (q0 := 0) rfl rfl) rfl hl.1 rfl (Nat.le_of_ble_eq_true rfl) dX8_hang_2 ⟨Nat.zero_le _, Nat.zero_le _⟩) (fun H locs hP hD hS => ?_)
  refine lv_if_eq (tgt := 16) hx hb dX8_hang_5 (by decide) (fun hc => ?_) (fun hc => ?_)
  · have hf := kv_t hc hf
    refine lv_iconst (v := (-1)) hx hb dX8_hang_16 (by decide) ?_
    exact hret _ _ _ _ _ _ hf rfl hP hD hS dX8_hang_17
  · have hf := kv_f hc hf
    refine lv_aload_n hx hb dX8_hang_8 rfl (lv_at hl 0 rfl) ?_
    refine lv_iload_n hx hb dX8_hang_9 rfl (lv_at hl 2 rfl) ?_
    obtain ⟨r2, hc, hf⟩ := kv_b1_e hf
    have hs9 : vv_Sub D H A (w_MD C aZ mZ mY) (w_MD C aZ mZ mY) (w_MD C aZ mZ mY) := vv_Sub.same (w_MD C aZ mZ mY) hP hD hS hA
    refine vv_goi (wn := (w_MD C aZ mZ mY)) hK hs9 hS (vv_rV (As := [.int p1]) (rest := []) hx hb hml hown hts hK hN hS hs9 (ccX8_isSpot l D C H.size aZ mZ mY p1 r2 hc) (cwV 1 hts gX8_hang_X8_isSpot rfl rfl rfl (by decide +kernel) ⟨(Nat.le_of_ble_eq_true rfl), (Nat.le_of_ble_eq_true rfl)⟩) (va_recv hK hP (ci := 8) (q0 := 0) rfl rfl) rfl hl.1 rfl (Nat.le_of_ble_eq_true rfl) dX8_hang_10 ⟨Nat.zero_le _, Nat.zero_le _⟩) (fun H locs hP hD hS => ?_)
    refine lv_if_ne (tgt := 18) hx hb dX8_hang_13 (by decide) (fun hc => ?_) (fun hc => ?_)
    · have hf := kv_f hc hf
      refine lv_aload_n hx hb dX8_hang_18 rfl (lv_at hl 0 rfl) ?_
      refine lv_iconst (v := 0) hx hb dX8_hang_19 (by decide) ?_
      refine lv_iload_n hx hb dX8_hang_20 rfl (lv_at hl 2 rfl) ?_
      obtain ⟨r3, hc, hf⟩ := kv_b1_e hf
      have hs9 : vv_Sub D H A (w_MD C aZ mZ mY) (w_MD C aZ mZ mY) (w_MD C aZ mZ mY) := vv_Sub.same (w_MD C aZ mZ mY) hP hD hS hA
      refine vv_goi (wn := (w_MD C aZ mZ mY)) hK hs9 hS (vv_rV (As := [.int 0, .int p1]) (rest := []) hx hb hml hown hts hK hN hS hs9 (ccX8_pieceOn l D C H.size aZ mZ mY (0 : Int32) p1 r3 hc) (cwV 2 hts gX8_hang_X8_pieceOn rfl rfl rfl (by decide +kernel) ⟨(Nat.le_of_ble_eq_true rfl), (Nat.le_of_ble_eq_true rfl)⟩) (va_recv hK hP (ci := 8) (q0 := 0) rfl rfl) rfl hl.1 rfl (Nat.le_of_ble_eq_true rfl) dX8_hang_21 ⟨Nat.zero_le _, Nat.zero_le _⟩) (fun H locs hP hD hS => ?_)
      refine lv_bipush (v := (-9)) hx hb dX8_hang_24 (by decide) ?_
      refine lv_icmp_ne (tgt := 44) hx hb dX8_hang_26 (by decide) (fun hc => ?_) (fun hc => ?_)
      · have hf := kv_f hc hf
        refine lv_bipush (v := (-2)) hx hb dX8_hang_44 (by decide) ?_
        exact hret _ _ _ _ _ _ hf rfl hP hD hS dX8_hang_46
      · have hf := kv_t hc hf
        refine lv_aload_n hx hb dX8_hang_29 rfl (lv_at hl 0 rfl) ?_
        refine va_get (D := D) (ci := 8) (v := .ref (aZ 4)) (C := RX8) (T := TX8) (N := 26) hx hb hts iX8 hown hK hP 0 rfl rfl 5 (by decide) q0 (fun _ h9 => h9) rfl dX8_hang_30 ?_
        refine lv_iload_n hx hb dX8_hang_33 rfl (lv_at hl 1 rfl) ?_
        obtain ⟨h9, hf⟩ := kv_ix_e hf
        refine va_iald hx hb hK hP 4 1 rfl rfl h9 dX8_hang_34 ?_
        refine lv_aload_n hx hb dX8_hang_35 rfl (lv_at hl 0 rfl) ?_
        refine va_get (D := D) (ci := 8) (v := .ref (aZ 7)) (C := RX8) (T := TX8) (N := 26) hx hb hts iX8 hown hK hP 0 rfl rfl 8 (by decide) q1 (fun _ h9 => h9) rfl dX8_hang_36 ?_
        refine lv_iload_n hx hb dX8_hang_39 rfl (lv_at hl 2 rfl) ?_
        obtain ⟨h9, hf⟩ := kv_ix_e hf
        refine va_iald hx hb hK hP 7 1 rfl rfl h9 dX8_hang_40 ?_
        refine lv_icmp_le (tgt := 47) hx hb dX8_hang_41 (by decide) (fun hc => ?_) (fun hc => ?_)
        · have hf := kv_t hc hf
          refine lv_aload_n hx hb dX8_hang_47 rfl (lv_at hl 0 rfl) ?_
          refine va_get (D := D) (ci := 8) (v := .ref (aZ 11)) (C := RX8) (T := TX8) (N := 26) hx hb hts iX8 hown hK hP 0 rfl rfl 17 (by decide) q2 (fun _ h9 => h9) rfl dX8_hang_48 ?_
          refine lv_bipush (v := 20) hx hb dX8_hang_51 (by decide) ?_
          refine lv_iload_n hx hb dX8_hang_53 rfl (lv_at hl 1 rfl) ?_
          refine lv_iadd hx hb dX8_hang_54 ?_
          refine lv_iload_n hx hb dX8_hang_55 rfl (lv_at hl 2 rfl) ?_
          obtain ⟨h9, hf⟩ := kv_ix_e hf
          obtain ⟨mZ4, emZ4, hf⟩ := kv_lt_e hf
          refine va_iast hx hb hK hP hD hS 11 1 rfl rfl h9 dX8_hang_56 (fun H locs hP hD hS => ?_)
          have hP : va_P D vwCl (w_MD C aZ mZ4 mY) H := by rw [emZ4]; exact hP
          have hD : va_D A (w_MD C aZ mZ4 mY) := by rw [emZ4]; exact hD
          refine lv_iconst (v := 1) hx hb dX8_hang_57 (by decide) ?_
          exact hret _ _ _ _ _ _ hf rfl hP hD hS dX8_hang_58
        · have hf := kv_f hc hf
          refine lv_bipush (v := (-2)) hx hb dX8_hang_44 (by decide) ?_
          exact hret _ _ _ _ _ _ hf rfl hP hD hS dX8_hang_46
    · have hf := kv_t hc hf
      refine lv_iconst (v := (-1)) hx hb dX8_hang_16 (by decide) ?_
      exact hret _ _ _ _ _ _ hf rfl hP hD hS dX8_hang_17
abbrev rX8_hanging : Room := { frames := 0, cells := 0, slots := 0, locals := 0 }
set_option maxHeartbeats 4000000 in
set_option maxRecDepth 100000 in
theorem ccX8_hanging (l : Launch) (D : va_G) (C : Nat → ClassId) (sz : Nat) (aZ : Nat → Nat) (mZ : Mm) (mY : Int64) (rr : Int32) (hf : ffX8_hanging mZ = some (rr)) : Met l yX8_hanging wsX8_hanging rX8_hanging (va_Pc [.ref (aZ 0)] (vv_pre D C (w_MD C aZ mZ mY) sz)) (vv_QI D C (w_MD C aZ mZ mY) (w_MD C aZ mZ mY) sz rr) 0 0 (va_A (w_MD C aZ mZ mY) sz) := by
  unfold ffX8_hanging at hf
  refine vv_metI (cc := cX8_hanging) (maxL := 3) (ty := .int) (by decide) rfl (Nat.le_of_ble_eq_true rfl) ?_
  intro p e s m args below meth c A Q H locs ls hx hb hml hown hts hA hK hN hP hD hS hl hret
  have hown : s.vm.findClass RX8 = some m.cls := hown
  have hl : lv_has ls 3 [(0, .ref (aZ 0))] := hl
  have hret : ∀ (v0 : Int32) (H : Heap) (locs : List Loc) (ls : Array Slot) (pc : Nat), some (v0) = some (rr) → narrow .int (.int v0) = .int v0 → va_P D vwCl (w_MD C aZ mZ mY) H → va_D A (w_MD C aZ mZ mY) → va_S A s.heap H locs → decode cX8_hanging pc = .ok (.ireturn, 1) → W p l e rX8_hanging s m args below meth c H locs 0 0 Q (F0 m pc ls [.int v0]) := by
    intro v0 H locs ls pc h0 hn h1 h2 h3 h4
    cases h0
    exact hret H locs ls pc hn h1 h2 h3 h4
  have q0 := hts (.fieldLink RX8 13 "ForeRainModel" "pieces" "[I") (by decide +kernel)
  have q1 := hts (.fieldLink RX8 41 "ForeRainModel" "now" "[I") (by decide +kernel)
  have iX8 : ∀ w ∈ u_ws RX8 TX8 26, w ∈ wsX8_hanging := by decide +kernel
  refine lv_iconst (v := 0) hx hb dX8_hanging_0 (by decide) ?_
  refine lv_istore_n (lv' := [(1, .int 0), (0, .ref (aZ 0))]) hx hb dX8_hanging_1 rfl hl (by decide) rfl (fun ls hl => ?_)
  refine lv_iconst (v := 0) hx hb dX8_hanging_2 (by decide) ?_
  refine lv_istore_n (lv' := [(2, .int 0), (1, .int 0), (0, .ref (aZ 0))]) hx hb dX8_hanging_3 rfl hl (by decide) rfl (fun ls hl => ?_)
  have L4 : ∀ (K4 : Int32 → Int32 → Option (Int32)), (∀ (x1 : Int32) (x2 : Int32) (H : Heap) (locs : List Loc) (ls : Array Slot), va_P D vwCl (w_MD C aZ mZ mY) H → va_D A (w_MD C aZ mZ mY) → va_S A s.heap H locs → lv_has ls 3 [(2, .int x1), (1, .int x2), (0, .ref (aZ 0))] → K4 x1 x2 = some (rr) → W p l e rX8_hanging s m args below meth c H locs 0 0 Q (F0 m 44 ls [])) → ∀ (n : Nat) (x1 : Int32) (x2 : Int32) (H : Heap) (locs : List Loc) (ls : Array Slot), va_P D vwCl (w_MD C aZ mZ mY) H → va_D A (w_MD C aZ mZ mY) → va_S A s.heap H locs → lv_has ls 3 [(2, .int x1), (1, .int x2), (0, .ref (aZ 0))] → ffX8_hanging_L4 mZ K4 n x1 x2 = some (rr) → W p l e rX8_hanging s m args below meth c H locs 0 0 Q (F0 m 4 ls []) := by
    intro K4 hK9 n
    induction n with
    | zero => intro x1 x2 H locs ls hP hD hS hl hf; exact kv_no hf
    | succ n ih =>
      intro x1 x2 H locs ls hP hD hS hl hf
      rw [ffX8_hanging_L4_s] at hf
      refine lv_iload_n hx hb dX8_hanging_4 rfl (lv_at hl 0 rfl) ?_
      refine lv_aload_n hx hb dX8_hanging_5 rfl (lv_at hl 2 rfl) ?_
      refine va_get (D := D) (ci := 8) (v := .ref (aZ 2)) (C := RX8) (T := TX8) (N := 26) hx hb hts iX8 hown hK hP 0 rfl rfl 3 (by decide) q0 (fun _ h9 => h9) rfl dX8_hanging_6 ?_
      refine lv_iconst (v := 0) hx hb dX8_hanging_9 (by decide) ?_
      obtain ⟨h9, hf⟩ := kv_ix_e hf
      refine va_iald hx hb hK hP 2 1 rfl rfl h9 dX8_hanging_10 ?_
      refine lv_icmp_ge (tgt := 44) hx hb dX8_hanging_11 (by decide) (fun hc => ?_) (fun hc => ?_)
      · have hf := kv_t hc hf
        exact hK9 _ _ _ _ _ hP hD hS (lv_sub hl [0, 1, 2] rfl) hf
      · have hf := kv_f hc hf
        refine lv_iload_n hx hb dX8_hanging_14 rfl (lv_at hl 1 rfl) ?_
        refine lv_aload_n hx hb dX8_hanging_15 rfl (lv_at hl 2 rfl) ?_
        refine va_get (D := D) (ci := 8) (v := .ref (aZ 11)) (C := RX8) (T := TX8) (N := 26) hx hb hts iX8 hown hK hP 0 rfl rfl 17 (by decide) q1 (fun _ h9 => h9) rfl dX8_hanging_16 ?_
        refine lv_bipush (v := 20) hx hb dX8_hanging_19 (by decide) ?_
        refine lv_iload_n hx hb dX8_hanging_21 rfl (lv_at hl 0 rfl) ?_
        refine lv_iadd hx hb dX8_hanging_22 ?_
        obtain ⟨h9, hf⟩ := kv_ix_e hf
        refine va_iald hx hb hK hP 11 1 rfl rfl h9 dX8_hanging_23 ?_
        refine lv_bipush (v := 8) hx hb dX8_hanging_24 (by decide) ?_
        refine lv_icmp_ge (tgt := 35) hx hb dX8_hanging_26 (by decide) (fun hc => ?_) (fun hc => ?_)
        · have hf := kv_t hc hf
          refine lv_iconst (v := 0) hx hb dX8_hanging_35 (by decide) ?_
          refine lv_ior hx hb dX8_hanging_36 ?_
          obtain ⟨x3, ex3, hf⟩ := kv_lt_e hf
          refine vv_nami ex3 ?_
          refine lv_istore_n (lv' := [(1, .int x3), (2, .int x1), (0, .ref (aZ 0))]) hx hb dX8_hanging_37 rfl hl (by decide) rfl (fun ls hl => ?_)
          obtain ⟨x4, ex4, hf⟩ := kv_lt_e hf
          refine lv_iinc (v := x4) (lv' := [(2, .int x4), (1, .int x3), (0, .ref (aZ 0))]) hx hb dX8_hanging_38 hl (k := 1) rfl (by rw [ex4]; rfl) (by decide) rfl (fun ls hl => ?_)
          refine lv_goto (tgt := 4) hx hb dX8_hanging_41 (by decide) ?_
          exact ih _ _ _ _ _ hP hD hS (lv_sub hl [0, 1, 2] rfl) hf
        · have hf := kv_f hc hf
          refine lv_iconst (v := 1) hx hb dX8_hanging_29 (by decide) ?_
          refine lv_iload_n hx hb dX8_hanging_30 rfl (lv_at hl 0 rfl) ?_
          refine lv_ishl hx hb dX8_hanging_31 ?_
          refine lv_goto (tgt := 36) hx hb dX8_hanging_32 (by decide) ?_
          refine lv_ior hx hb dX8_hanging_36 ?_
          obtain ⟨x5, ex5, hf⟩ := kv_lt_e hf
          refine vv_nami ex5 ?_
          refine lv_istore_n (lv' := [(1, .int x5), (2, .int x1), (0, .ref (aZ 0))]) hx hb dX8_hanging_37 rfl hl (by decide) rfl (fun ls hl => ?_)
          obtain ⟨x6, ex6, hf⟩ := kv_lt_e hf
          refine lv_iinc (v := x6) (lv' := [(2, .int x6), (1, .int x5), (0, .ref (aZ 0))]) hx hb dX8_hanging_38 hl (k := 1) rfl (by rw [ex6]; rfl) (by decide) rfl (fun ls hl => ?_)
          refine lv_goto (tgt := 4) hx hb dX8_hanging_41 (by decide) ?_
          exact ih _ _ _ _ _ hP hD hS (lv_sub hl [0, 1, 2] rfl) hf
  refine L4 _ (fun x7 x8 H locs ls hP hD hS hl hf => ?_) _ _ _ _ _ _ hP hD hS (lv_sub hl [0, 1, 2] rfl) hf
  refine lv_iload_n hx hb dX8_hanging_44 rfl (lv_at hl 1 rfl) ?_
  exact hret _ _ _ _ _ hf rfl hP hD hS dX8_hanging_45
abbrev rX8_held : Room := { frames := 1, cells := 0, slots := 0, locals := 22 }
set_option maxHeartbeats 4000000 in
set_option maxRecDepth 100000 in
theorem ccX8_held (l : Launch) (D : va_G) (C : Nat → ClassId) (sz : Nat) (aZ : Nat → Nat) (mZ : Mm) (mY : Int64) (p0 : Int32) (p1 : Int32) (p2 : Int32) (rr : Int32) (oZ : Mm) (hf : ffX8_held p0 p1 p2 mZ = some (rr, oZ)) : Met l yX8_held wsX8_held rX8_held (va_Pc [.ref (aZ 0), .int p0, .int p1, .int p2] (vv_pre D C (w_MD C aZ mZ mY) sz)) (vv_QI D C (w_MD C aZ mZ mY) (w_MD C aZ oZ mY) sz rr) 0 0 (va_A (w_MD C aZ mZ mY) sz) := by
  unfold ffX8_held at hf
  refine vv_metI (cc := cX8_held) (maxL := 4) (ty := .int) (by decide) rfl (Nat.le_of_ble_eq_true rfl) ?_
  intro p e s m args below meth c A Q H locs ls hx hb hml hown hts hA hK hN hP hD hS hl hret
  have hown : s.vm.findClass RX8 = some m.cls := hown
  have hl : lv_has ls 4 [(0, .ref (aZ 0)), (1, .int p0), (2, .int p1), (3, .int p2)] := hl
  have hret : ∀ (v0 : Int32) (v1 : Mm) (H : Heap) (locs : List Loc) (ls : Array Slot) (pc : Nat), some (v0, v1) = some (rr, oZ) → narrow .int (.int v0) = .int v0 → va_P D vwCl (w_MD C aZ v1 mY) H → va_D A (w_MD C aZ v1 mY) → va_S A s.heap H locs → decode cX8_held pc = .ok (.ireturn, 1) → W p l e rX8_held s m args below meth c H locs 0 0 Q (F0 m pc ls [.int v0]) := by
    intro v0 v1 H locs ls pc h0 hn h1 h2 h3 h4
    cases h0
    exact hret H locs ls pc hn h1 h2 h3 h4
  have q0 := hts (.fieldLink RX8 174 "ForeRainModel" "days" "I") (by decide +kernel)
  have q1 := hts (.fieldLink RX8 60 "ForeRainModel" "said" "[I") (by decide +kernel)
  have q2 := hts (.fieldLink RX8 63 "ForeRainModel" "came" "[I") (by decide +kernel)
  have iX8 : ∀ w ∈ u_ws RX8 TX8 26, w ∈ wsX8_held := by decide +kernel
  refine lv_iload_n hx hb dX8_held_0 rfl (lv_at hl 1 rfl) ?_
  refine lv_iconst (v := 0) hx hb dX8_held_1 (by decide) ?_
  refine lv_iconst (v := 1) hx hb dX8_held_2 (by decide) ?_
  obtain ⟨r1, hc, hf⟩ := kv_b1_e hf
  have hs9 : vv_Sub D H A ([] : va_W) ([] : va_W) (w_MD C aZ mZ mY) := vv_Sub.none hP hD hS hA
  refine vv_goi (wn := (w_MD C aZ mZ mY)) hK hs9 hS (vv_rS (As := [.int p0, .int 0, .int 1]) (rest := []) hx hb hml hown hts hK hN hS hs9 (ccX8_in l D C H.size p0 (0 : Int32) (1 : Int32) r1 hc) (va_cwS 3 hts gX8_held_X8_in rfl rfl rfl (by decide +kernel) ⟨(Nat.le_of_ble_eq_true rfl), (Nat.le_of_ble_eq_true rfl)⟩) rfl hl.1 rfl (Nat.le_of_ble_eq_true rfl) dX8_held_3 ⟨Nat.zero_le _, Nat.zero_le _⟩) (fun H locs hP hD hS => ?_)
  refine lv_if_eq (tgt := 27) hx hb dX8_held_6 (by decide) (fun hc => ?_) (fun hc => ?_)
  · have hf := kv_t hc hf
    refine lv_iconst (v := (-1)) hx hb dX8_held_27 (by decide) ?_
    exact hret _ _ _ _ _ _ hf rfl hP hD hS dX8_held_28
  · have hf := kv_f hc hf
    refine lv_iload_n hx hb dX8_held_9 rfl (lv_at hl 2 rfl) ?_
    refine lv_iconst (v := 0) hx hb dX8_held_10 (by decide) ?_
    refine lv_iconst (v := 1) hx hb dX8_held_11 (by decide) ?_
    obtain ⟨r2, hc, hf⟩ := kv_b1_e hf
    have hs9 : vv_Sub D H A ([] : va_W) ([] : va_W) (w_MD C aZ mZ mY) := vv_Sub.none hP hD hS hA
    refine vv_goi (wn := (w_MD C aZ mZ mY)) hK hs9 hS (vv_rS (As := [.int p1, .int 0, .int 1]) (rest := []) hx hb hml hown hts hK hN hS hs9 (ccX8_in l D C H.size p1 (0 : Int32) (1 : Int32) r2 hc) (va_cwS 3 hts gX8_held_X8_in rfl rfl rfl (by decide +kernel) ⟨(Nat.le_of_ble_eq_true rfl), (Nat.le_of_ble_eq_true rfl)⟩) rfl hl.1 rfl (Nat.le_of_ble_eq_true rfl) dX8_held_12 ⟨Nat.zero_le _, Nat.zero_le _⟩) (fun H locs hP hD hS => ?_)
    refine lv_if_eq (tgt := 27) hx hb dX8_held_15 (by decide) (fun hc => ?_) (fun hc => ?_)
    · have hf := kv_t hc hf
      refine lv_iconst (v := (-1)) hx hb dX8_held_27 (by decide) ?_
      exact hret _ _ _ _ _ _ hf rfl hP hD hS dX8_held_28
    · have hf := kv_f hc hf
      refine lv_iload_n hx hb dX8_held_18 rfl (lv_at hl 3 rfl) ?_
      refine lv_iconst (v := 0) hx hb dX8_held_19 (by decide) ?_
      refine lv_iconst (v := 1) hx hb dX8_held_20 (by decide) ?_
      obtain ⟨r3, hc, hf⟩ := kv_b1_e hf
      have hs9 : vv_Sub D H A ([] : va_W) ([] : va_W) (w_MD C aZ mZ mY) := vv_Sub.none hP hD hS hA
      refine vv_goi (wn := (w_MD C aZ mZ mY)) hK hs9 hS (vv_rS (As := [.int p2, .int 0, .int 1]) (rest := []) hx hb hml hown hts hK hN hS hs9 (ccX8_in l D C H.size p2 (0 : Int32) (1 : Int32) r3 hc) (va_cwS 3 hts gX8_held_X8_in rfl rfl rfl (by decide +kernel) ⟨(Nat.le_of_ble_eq_true rfl), (Nat.le_of_ble_eq_true rfl)⟩) rfl hl.1 rfl (Nat.le_of_ble_eq_true rfl) dX8_held_21 ⟨Nat.zero_le _, Nat.zero_le _⟩) (fun H locs hP hD hS => ?_)
      refine lv_if_ne (tgt := 29) hx hb dX8_held_24 (by decide) (fun hc => ?_) (fun hc => ?_)
      · have hf := kv_f hc hf
        refine lv_aload_n hx hb dX8_held_29 rfl (lv_at hl 0 rfl) ?_
        refine va_get (D := D) (ci := 8) (v := .int (mZ 0 23)) (C := RX8) (T := TX8) (N := 26) hx hb hts iX8 hown hK hP 0 rfl rfl 23 (by decide) q0 (fun _ h9 => h9) rfl dX8_held_30 ?_
        refine lv_bipush (v := 30) hx hb dX8_held_33 (by decide) ?_
        refine lv_icmp_ne (tgt := 41) hx hb dX8_held_35 (by decide) (fun hc => ?_) (fun hc => ?_)
        · have hf := kv_f hc hf
          refine lv_aload_n hx hb dX8_held_41 rfl (lv_at hl 0 rfl) ?_
          refine va_get (D := D) (ci := 8) (v := .ref (aZ 17)) (C := RX8) (T := TX8) (N := 26) hx hb hts iX8 hown hK hP 0 rfl rfl 24 (by decide) q1 (fun _ h9 => h9) rfl dX8_held_42 ?_
          refine lv_iconst (v := 2) hx hb dX8_held_45 (by decide) ?_
          refine lv_aload_n hx hb dX8_held_46 rfl (lv_at hl 0 rfl) ?_
          refine va_get (D := D) (ci := 8) (v := .int (mZ 0 23)) (C := RX8) (T := TX8) (N := 26) hx hb hts iX8 hown hK hP 0 rfl rfl 23 (by decide) q0 (fun _ h9 => h9) rfl dX8_held_47 ?_
          refine lv_imul hx hb dX8_held_50 ?_
          refine lv_iload_n hx hb dX8_held_51 rfl (lv_at hl 1 rfl) ?_
          obtain ⟨h9, hf⟩ := kv_ix_e hf
          obtain ⟨mZ4, emZ4, hf⟩ := kv_lt_e hf
          refine va_iast hx hb hK hP hD hS 17 1 rfl rfl h9 dX8_held_52 (fun H locs hP hD hS => ?_)
          have hP : va_P D vwCl (w_MD C aZ mZ4 mY) H := by rw [emZ4]; exact hP
          have hD : va_D A (w_MD C aZ mZ4 mY) := by rw [emZ4]; exact hD
          refine lv_aload_n hx hb dX8_held_53 rfl (lv_at hl 0 rfl) ?_
          refine va_get (D := D) (ci := 8) (v := .ref (aZ 17)) (C := RX8) (T := TX8) (N := 26) hx hb hts iX8 hown hK hP 0 rfl rfl 24 (by decide) q1 (fun _ h9 => h9) rfl dX8_held_54 ?_
          refine lv_iconst (v := 2) hx hb dX8_held_57 (by decide) ?_
          refine lv_aload_n hx hb dX8_held_58 rfl (lv_at hl 0 rfl) ?_
          refine va_get (D := D) (ci := 8) (v := .int (mZ4 0 23)) (C := RX8) (T := TX8) (N := 26) hx hb hts iX8 hown hK hP 0 rfl rfl 23 (by decide) q0 (fun _ h9 => h9) rfl dX8_held_59 ?_
          refine lv_imul hx hb dX8_held_62 ?_
          refine lv_iconst (v := 1) hx hb dX8_held_63 (by decide) ?_
          refine lv_iadd hx hb dX8_held_64 ?_
          refine lv_iload_n hx hb dX8_held_65 rfl (lv_at hl 2 rfl) ?_
          obtain ⟨h9, hf⟩ := kv_ix_e hf
          obtain ⟨mZ5, emZ5, hf⟩ := kv_lt_e hf
          refine va_iast hx hb hK hP hD hS 17 1 rfl rfl h9 dX8_held_66 (fun H locs hP hD hS => ?_)
          have hP : va_P D vwCl (w_MD C aZ mZ5 mY) H := by rw [emZ5]; exact hP
          have hD : va_D A (w_MD C aZ mZ5 mY) := by rw [emZ5]; exact hD
          refine lv_aload_n hx hb dX8_held_67 rfl (lv_at hl 0 rfl) ?_
          refine va_get (D := D) (ci := 8) (v := .ref (aZ 18)) (C := RX8) (T := TX8) (N := 26) hx hb hts iX8 hown hK hP 0 rfl rfl 25 (by decide) q2 (fun _ h9 => h9) rfl dX8_held_68 ?_
          refine lv_aload_n hx hb dX8_held_71 rfl (lv_at hl 0 rfl) ?_
          refine va_get (D := D) (ci := 8) (v := .int (mZ5 0 23)) (C := RX8) (T := TX8) (N := 26) hx hb hts iX8 hown hK hP 0 rfl rfl 23 (by decide) q0 (fun _ h9 => h9) rfl dX8_held_72 ?_
          refine lv_iload_n hx hb dX8_held_75 rfl (lv_at hl 3 rfl) ?_
          obtain ⟨h9, hf⟩ := kv_ix_e hf
          obtain ⟨mZ6, emZ6, hf⟩ := kv_lt_e hf
          refine va_iast hx hb hK hP hD hS 18 1 rfl rfl h9 dX8_held_76 (fun H locs hP hD hS => ?_)
          have hP : va_P D vwCl (w_MD C aZ mZ6 mY) H := by rw [emZ6]; exact hP
          have hD : va_D A (w_MD C aZ mZ6 mY) := by rw [emZ6]; exact hD
          refine lv_aload_n hx hb dX8_held_77 rfl (lv_at hl 0 rfl) ?_
          refine lv_dup hx hb dX8_held_78 rfl ?_
          refine va_get (D := D) (ci := 8) (v := .int (mZ6 0 23)) (C := RX8) (T := TX8) (N := 26) hx hb hts iX8 hown hK hP 0 rfl rfl 23 (by decide) q0 (fun _ h9 => h9) rfl dX8_held_79 ?_
          refine lv_iconst (v := 1) hx hb dX8_held_82 (by decide) ?_
          refine lv_iadd hx hb dX8_held_83 ?_
          obtain ⟨x7, ex7, hf⟩ := kv_lt_e hf
          refine vv_nami ex7 ?_
          obtain ⟨mZ8, emZ8, hf⟩ := kv_lt_e hf
          refine va_put (D := D) (ci := 8) (v := .int x7) (ty := .int) (C := RX8) (T := TX8) (N := 26) hx hb hts iX8 tyX8 tyX8_ok nmX8 hown hK hP hD hS 0 rfl rfl 23 (by decide) q0 (fun _ h9 => h9) rfl (tyX8_ok 23 (by decide)) rfl rfl (Nat.le_of_ble_eq_true rfl) dX8_held_84 (fun H locs hP hD hS => ?_)
          have hP : va_P D vwCl (w_MD C aZ mZ8 mY) H := by rw [emZ8]; exact hP
          have hD : va_D A (w_MD C aZ mZ8 mY) := by rw [emZ8]; exact hD
          refine lv_aload_n hx hb dX8_held_87 rfl (lv_at hl 0 rfl) ?_
          refine va_get (D := D) (ci := 8) (v := .int (mZ8 0 23)) (C := RX8) (T := TX8) (N := 26) hx hb hts iX8 hown hK hP 0 rfl rfl 23 (by decide) q0 (fun _ h9 => h9) rfl dX8_held_88 ?_
          exact hret _ _ _ _ _ _ hf rfl hP hD hS dX8_held_91
        · have hf := kv_t hc hf
          refine lv_bipush (v := (-3)) hx hb dX8_held_38 (by decide) ?_
          exact hret _ _ _ _ _ _ hf rfl hP hD hS dX8_held_40
      · have hf := kv_t hc hf
        refine lv_iconst (v := (-1)) hx hb dX8_held_27 (by decide) ?_
        exact hret _ _ _ _ _ _ hf rfl hP hD hS dX8_held_28
abbrev rX8_isDry : Room := { frames := 0, cells := 0, slots := 0, locals := 0 }
set_option maxHeartbeats 4000000 in
set_option maxRecDepth 100000 in
theorem ccX8_isDry (l : Launch) (D : va_G) (C : Nat → ClassId) (sz : Nat) (aZ : Nat → Nat) (mZ : Mm) (mY : Int64) (p0 : Int32) (p1 : Int32) (rr : Int32) (hf : ffX8_isDry p0 p1 mZ = some (rr)) : Met l yX8_isDry wsX8_isDry rX8_isDry (va_Pc [.ref (aZ 0), .int p0, .int p1] (vv_pre D C (w_MD C aZ mZ mY) sz)) (vv_QI D C (w_MD C aZ mZ mY) (w_MD C aZ mZ mY) sz rr) 0 0 (va_A (w_MD C aZ mZ mY) sz) := by
  unfold ffX8_isDry at hf
  refine vv_metI (cc := cX8_isDry) (maxL := 5) (ty := .boolean) (by decide) rfl (Nat.le_of_ble_eq_true rfl) ?_
  intro p e s m args below meth c A Q H locs ls hx hb hml hown hts hA hK hN hP hD hS hl hret
  have hown : s.vm.findClass RX8 = some m.cls := hown
  have hl : lv_has ls 5 [(0, .ref (aZ 0)), (1, .int p0), (2, .int p1)] := hl
  have hret : ∀ (v0 : Int32) (H : Heap) (locs : List Loc) (ls : Array Slot) (pc : Nat), some (v0) = some (rr) → narrow .boolean (.int v0) = .int v0 → va_P D vwCl (w_MD C aZ mZ mY) H → va_D A (w_MD C aZ mZ mY) → va_S A s.heap H locs → decode cX8_isDry pc = .ok (.ireturn, 1) → W p l e rX8_isDry s m args below meth c H locs 0 0 Q (F0 m pc ls [.int v0]) := by
    intro v0 H locs ls pc h0 hn h1 h2 h3 h4
    cases h0
    exact hret H locs ls pc hn h1 h2 h3 h4
  have q0 := hts (.fieldLink RX8 13 "ForeRainModel" "pieces" "[I") (by decide +kernel)
  have q1 := hts (.fieldLink RX8 41 "ForeRainModel" "now" "[I") (by decide +kernel)
  have iX8 : ∀ w ∈ u_ws RX8 TX8 26, w ∈ wsX8_isDry := by decide +kernel
  refine lv_iconst (v := 1) hx hb dX8_isDry_0 (by decide) ?_
  refine lv_istore_n (lv' := [(3, .int 1), (0, .ref (aZ 0)), (1, .int p0), (2, .int p1)]) hx hb dX8_isDry_1 rfl hl (by decide) rfl (fun ls hl => ?_)
  refine lv_iconst (v := 0) hx hb dX8_isDry_2 (by decide) ?_
  refine lv_istore (lv' := [(4, .int 0), (3, .int 1), (0, .ref (aZ 0)), (1, .int p0), (2, .int p1)]) hx hb dX8_isDry_3 hl (by decide) rfl (fun ls hl => ?_)
  have L5 : ∀ (K5 : Int32 → Int32 → Option (Int32)), (∀ (x1 : Int32) (x2 : Int32) (H : Heap) (locs : List Loc) (ls : Array Slot), va_P D vwCl (w_MD C aZ mZ mY) H → va_D A (w_MD C aZ mZ mY) → va_S A s.heap H locs → lv_has ls 5 [(4, .int x1), (3, .int x2), (0, .ref (aZ 0)), (1, .int p0), (2, .int p1)] → K5 x1 x2 = some (rr) → W p l e rX8_isDry s m args below meth c H locs 0 0 Q (F0 m 55 ls [])) → ∀ (n : Nat) (x1 : Int32) (x2 : Int32) (H : Heap) (locs : List Loc) (ls : Array Slot), va_P D vwCl (w_MD C aZ mZ mY) H → va_D A (w_MD C aZ mZ mY) → va_S A s.heap H locs → lv_has ls 5 [(4, .int x1), (3, .int x2), (0, .ref (aZ 0)), (1, .int p0), (2, .int p1)] → ffX8_isDry_L5 p0 p1 mZ K5 n x1 x2 = some (rr) → W p l e rX8_isDry s m args below meth c H locs 0 0 Q (F0 m 5 ls []) := by
    intro K5 hK9 n
    induction n with
    | zero => intro x1 x2 H locs ls hP hD hS hl hf; exact kv_no hf
    | succ n ih =>
      intro x1 x2 H locs ls hP hD hS hl hf
      rw [ffX8_isDry_L5_s] at hf
      refine lv_iload hx hb dX8_isDry_5 (lv_at hl 0 rfl) ?_
      refine lv_aload_n hx hb dX8_isDry_7 rfl (lv_at hl 2 rfl) ?_
      refine va_get (D := D) (ci := 8) (v := .ref (aZ 2)) (C := RX8) (T := TX8) (N := 26) hx hb hts iX8 hown hK hP 0 rfl rfl 3 (by decide) q0 (fun _ h9 => h9) rfl dX8_isDry_8 ?_
      refine lv_iconst (v := 0) hx hb dX8_isDry_11 (by decide) ?_
      obtain ⟨h9, hf⟩ := kv_ix_e hf
      refine va_iald hx hb hK hP 2 1 rfl rfl h9 dX8_isDry_12 ?_
      refine lv_icmp_ge (tgt := 55) hx hb dX8_isDry_13 (by decide) (fun hc => ?_) (fun hc => ?_)
      · have hf := kv_t hc hf
        exact hK9 _ _ _ _ _ hP hD hS (lv_sub hl [0, 1, 2, 3, 4] rfl) hf
      · have hf := kv_f hc hf
        refine lv_iload_n hx hb dX8_isDry_16 rfl (lv_at hl 1 rfl) ?_
        refine lv_if_eq (tgt := 47) hx hb dX8_isDry_17 (by decide) (fun hc => ?_) (fun hc => ?_)
        · have hf := kv_t hc hf
          refine lv_iconst (v := 0) hx hb dX8_isDry_47 (by decide) ?_
          refine lv_istore_n (lv' := [(3, .int 0), (4, .int x1), (0, .ref (aZ 0)), (1, .int p0), (2, .int p1)]) hx hb dX8_isDry_48 rfl hl (by decide) rfl (fun ls hl => ?_)
          obtain ⟨x3, ex3, hf⟩ := kv_lt_e hf
          refine lv_iinc (v := x3) (lv' := [(4, .int x3), (3, .int 0), (0, .ref (aZ 0)), (1, .int p0), (2, .int p1)]) hx hb dX8_isDry_49 hl (k := 1) rfl (by rw [ex3]; rfl) (by decide) rfl (fun ls hl => ?_)
          refine lv_goto (tgt := 5) hx hb dX8_isDry_52 (by decide) ?_
          exact ih _ _ _ _ _ hP hD hS (lv_sub hl [0, 1, 2, 3, 4] rfl) hf
        · have hf := kv_f hc hf
          refine lv_iload_n hx hb dX8_isDry_20 rfl (lv_at hl 4 rfl) ?_
          refine lv_iload hx hb dX8_isDry_21 (lv_at hl 0 rfl) ?_
          refine lv_ishr hx hb dX8_isDry_23 ?_
          refine lv_iconst (v := 1) hx hb dX8_isDry_24 (by decide) ?_
          refine lv_iand hx hb dX8_isDry_25 ?_
          obtain ⟨k43_4, ek43_4, hf⟩ := kv_lt_e hf
          have J43_4 : ∀  (H : Heap) (locs : List Loc) (ls : Array Slot), va_P D vwCl (w_MD C aZ mZ mY) H → va_D A (w_MD C aZ mZ mY) → va_S A s.heap H locs → lv_has ls 5 [(4, .int x1), (0, .ref (aZ 0)), (1, .int p0), (2, .int p1)] → k43_4  = some (rr) → W p l e rX8_isDry s m args below meth c H locs 0 0 Q (F0 m 43 ls []) := by
            intro  H locs ls hP hD hS hl hf
            rw [ek43_4] at hf
            refine lv_iconst (v := 1) hx hb dX8_isDry_43 (by decide) ?_
            refine lv_goto (tgt := 48) hx hb dX8_isDry_44 (by decide) ?_
            refine lv_istore_n (lv' := [(3, .int 1), (4, .int x1), (0, .ref (aZ 0)), (1, .int p0), (2, .int p1)]) hx hb dX8_isDry_48 rfl hl (by decide) rfl (fun ls hl => ?_)
            obtain ⟨x5, ex5, hf⟩ := kv_lt_e hf
            refine lv_iinc (v := x5) (lv' := [(4, .int x5), (3, .int 1), (0, .ref (aZ 0)), (1, .int p0), (2, .int p1)]) hx hb dX8_isDry_49 hl (k := 1) rfl (by rw [ex5]; rfl) (by decide) rfl (fun ls hl => ?_)
            refine lv_goto (tgt := 5) hx hb dX8_isDry_52 (by decide) ?_
            exact ih _ _ _ _ _ hP hD hS (lv_sub hl [0, 1, 2, 3, 4] rfl) hf
          refine lv_if_eq (tgt := 43) hx hb dX8_isDry_26 (by decide) (fun hc => ?_) (fun hc => ?_)
          · have hf := kv_t hc hf
            exact J43_4 _ _ _ hP hD hS (lv_sub hl [0, 2, 3, 4] rfl) hf
          · have hf := kv_f hc hf
            refine lv_aload_n hx hb dX8_isDry_29 rfl (lv_at hl 2 rfl) ?_
            refine va_get (D := D) (ci := 8) (v := .ref (aZ 11)) (C := RX8) (T := TX8) (N := 26) hx hb hts iX8 hown hK hP 0 rfl rfl 17 (by decide) q1 (fun _ h9 => h9) rfl dX8_isDry_30 ?_
            refine lv_iload_n hx hb dX8_isDry_33 rfl (lv_at hl 3 rfl) ?_
            refine lv_iconst (v := 2) hx hb dX8_isDry_34 (by decide) ?_
            refine lv_iadd hx hb dX8_isDry_35 ?_
            refine lv_iload hx hb dX8_isDry_36 (lv_at hl 0 rfl) ?_
            refine lv_iadd hx hb dX8_isDry_38 ?_
            obtain ⟨h9, hf⟩ := kv_ix_e hf
            refine va_iald hx hb hK hP 11 1 rfl rfl h9 dX8_isDry_39 ?_
            refine lv_if_ne (tgt := 47) hx hb dX8_isDry_40 (by decide) (fun hc => ?_) (fun hc => ?_)
            · have hf := kv_f hc hf
              refine lv_iconst (v := 0) hx hb dX8_isDry_47 (by decide) ?_
              refine lv_istore_n (lv' := [(3, .int 0), (4, .int x1), (0, .ref (aZ 0)), (1, .int p0), (2, .int p1)]) hx hb dX8_isDry_48 rfl hl (by decide) rfl (fun ls hl => ?_)
              obtain ⟨x6, ex6, hf⟩ := kv_lt_e hf
              refine lv_iinc (v := x6) (lv' := [(4, .int x6), (3, .int 0), (0, .ref (aZ 0)), (1, .int p0), (2, .int p1)]) hx hb dX8_isDry_49 hl (k := 1) rfl (by rw [ex6]; rfl) (by decide) rfl (fun ls hl => ?_)
              refine lv_goto (tgt := 5) hx hb dX8_isDry_52 (by decide) ?_
              exact ih _ _ _ _ _ hP hD hS (lv_sub hl [0, 1, 2, 3, 4] rfl) hf
            · have hf := kv_t hc hf
              exact J43_4 _ _ _ hP hD hS (lv_sub hl [0, 2, 3, 4] rfl) hf
  refine L5 _ (fun x7 x8 H locs ls hP hD hS hl hf => ?_) _ _ _ _ _ _ hP hD hS (lv_sub hl [0, 1, 2, 3, 4] rfl) hf
  refine lv_iload_n hx hb dX8_isDry_55 rfl (lv_at hl 1 rfl) ?_
  obtain ⟨h9, hf⟩ := kv_bo_e hf
  exact hret _ _ _ _ _ hf h9 hP hD hS dX8_isDry_56
abbrev rX8_isPlaced : Room := { frames := 0, cells := 0, slots := 0, locals := 0 }
set_option maxHeartbeats 4000000 in
set_option maxRecDepth 100000 in
theorem ccX8_isPlaced (l : Launch) (D : va_G) (C : Nat → ClassId) (sz : Nat) (aZ : Nat → Nat) (mZ : Mm) (mY : Int64) (p0 : Int32) (rr : Int32) (oZ : Mm) (hf : ffX8_isPlaced p0 mZ = some (rr, oZ)) : Met l yX8_isPlaced wsX8_isPlaced rX8_isPlaced (va_Pc [.ref (aZ 0), .int p0] (vv_pre D C (w_MD C aZ mZ mY) sz)) (vv_QI D C (w_MD C aZ mZ mY) (w_MD C aZ oZ mY) sz rr) 0 0 (va_A (w_MD C aZ mZ mY) sz) := by
  unfold ffX8_isPlaced at hf
  refine vv_metI (cc := cX8_isPlaced) (maxL := 6) (ty := .boolean) (by decide) rfl (Nat.le_of_ble_eq_true rfl) ?_
  intro p e s m args below meth c A Q H locs ls hx hb hml hown hts hA hK hN hP hD hS hl hret
  have hown : s.vm.findClass RX8 = some m.cls := hown
  have hl : lv_has ls 6 [(0, .ref (aZ 0)), (1, .int p0)] := hl
  have hret : ∀ (v0 : Int32) (v1 : Mm) (H : Heap) (locs : List Loc) (ls : Array Slot) (pc : Nat), some (v0, v1) = some (rr, oZ) → narrow .boolean (.int v0) = .int v0 → va_P D vwCl (w_MD C aZ v1 mY) H → va_D A (w_MD C aZ v1 mY) → va_S A s.heap H locs → decode cX8_isPlaced pc = .ok (.ireturn, 1) → W p l e rX8_isPlaced s m args below meth c H locs 0 0 Q (F0 m pc ls [.int v0]) := by
    intro v0 v1 H locs ls pc h0 hn h1 h2 h3 h4
    cases h0
    exact hret H locs ls pc hn h1 h2 h3 h4
  have q0 := hts (.fieldLink RX8 13 "ForeRainModel" "pieces" "[I") (by decide +kernel)
  have q1 := hts (.fieldLink RX8 26 "ForeRainModel" "spots" "[I") (by decide +kernel)
  have q2 := hts (.fieldLink RX8 48 "ForeRainModel" "place" "[I") (by decide +kernel)
  have q3 := hts (.fieldLink RX8 20 "ForeRainModel" "wide" "[I") (by decide +kernel)
  have q4 := hts (.fieldLink RX8 29 "ForeRainModel" "room" "[I") (by decide +kernel)
  have iX8 : ∀ w ∈ u_ws RX8 TX8 26, w ∈ wsX8_isPlaced := by decide +kernel
  refine lv_iload_n hx hb dX8_isPlaced_0 rfl (lv_at hl 1 rfl) ?_
  refine lv_istore_n (lv' := [(2, .int p0), (0, .ref (aZ 0)), (1, .int p0)]) hx hb dX8_isPlaced_1 rfl hl (by decide) rfl (fun ls hl => ?_)
  refine lv_iconst (v := 0) hx hb dX8_isPlaced_2 (by decide) ?_
  refine lv_istore_n (lv' := [(3, .int 0), (2, .int p0), (0, .ref (aZ 0)), (1, .int p0)]) hx hb dX8_isPlaced_3 rfl hl (by decide) rfl (fun ls hl => ?_)
  refine lv_aload_n hx hb dX8_isPlaced_4 rfl (lv_at hl 2 rfl) ?_
  refine va_get (D := D) (ci := 8) (v := .ref (aZ 2)) (C := RX8) (T := TX8) (N := 26) hx hb hts iX8 hown hK hP 0 rfl rfl 3 (by decide) q0 (fun _ h9 => h9) rfl dX8_isPlaced_5 ?_
  refine lv_iconst (v := 0) hx hb dX8_isPlaced_8 (by decide) ?_
  obtain ⟨h9, hf⟩ := kv_ix_e hf
  refine va_iald hx hb hK hP 2 1 rfl rfl h9 dX8_isPlaced_9 ?_
  refine lv_iconst (v := 1) hx hb dX8_isPlaced_10 (by decide) ?_
  refine lv_isub hx hb dX8_isPlaced_11 ?_
  obtain ⟨x1, ex1, hf⟩ := kv_lt_e hf
  refine vv_nami ex1 ?_
  refine lv_istore (lv' := [(4, .int x1), (3, .int 0), (2, .int p0), (0, .ref (aZ 0)), (1, .int p0)]) hx hb dX8_isPlaced_12 hl (by decide) rfl (fun ls hl => ?_)
  have L14 : ∀ (K14 : Int32 → Int32 → Int32 → Mm → Option (Int32 × Mm)), (∀ (x2 : Int32) (x3 : Int32) (x4 : Int32) (mZ5 : Mm) (H : Heap) (locs : List Loc) (ls : Array Slot), va_P D vwCl (w_MD C aZ mZ5 mY) H → va_D A (w_MD C aZ mZ5 mY) → va_S A s.heap H locs → lv_has ls 6 [(4, .int x2), (3, .int x3), (2, .int x4), (0, .ref (aZ 0))] → K14 x2 x3 x4 mZ5 = some (rr, oZ) → W p l e rX8_isPlaced s m args below meth c H locs 0 0 Q (F0 m 119 ls [])) → ∀ (n : Nat) (x2 : Int32) (x3 : Int32) (x4 : Int32) (mZ5 : Mm) (H : Heap) (locs : List Loc) (ls : Array Slot), va_P D vwCl (w_MD C aZ mZ5 mY) H → va_D A (w_MD C aZ mZ5 mY) → va_S A s.heap H locs → lv_has ls 6 [(4, .int x2), (3, .int x3), (2, .int x4), (0, .ref (aZ 0))] → ffX8_isPlaced_L14  K14 n x2 x3 x4 mZ5 = some (rr, oZ) → W p l e rX8_isPlaced s m args below meth c H locs 0 0 Q (F0 m 14 ls []) := by
    intro K14 hK9 n
    induction n with
    | zero => intro x2 x3 x4 mZ5 H locs ls hP hD hS hl hf; exact kv_no hf
    | succ n ih =>
      intro x2 x3 x4 mZ5 H locs ls hP hD hS hl hf
      rw [ffX8_isPlaced_L14_s] at hf
      refine lv_iload hx hb dX8_isPlaced_14 (lv_at hl 0 rfl) ?_
      refine lv_if_lt (tgt := 119) hx hb dX8_isPlaced_16 (by decide) (fun hc => ?_) (fun hc => ?_)
      · have hf := kv_t hc hf
        exact hK9 _ _ _ _ _ _ _ hP hD hS (lv_sub hl [0, 1, 2, 3] rfl) hf
      · have hf := kv_f hc hf
        refine lv_iload_n hx hb dX8_isPlaced_19 rfl (lv_at hl 2 rfl) ?_
        refine lv_aload_n hx hb dX8_isPlaced_20 rfl (lv_at hl 3 rfl) ?_
        refine va_get (D := D) (ci := 8) (v := .ref (aZ 6)) (C := RX8) (T := TX8) (N := 26) hx hb hts iX8 hown hK hP 0 rfl rfl 7 (by decide) q1 (fun _ h9 => h9) rfl dX8_isPlaced_21 ?_
        refine lv_iconst (v := 0) hx hb dX8_isPlaced_24 (by decide) ?_
        obtain ⟨h9, hf⟩ := kv_ix_e hf
        refine va_iald hx hb hK hP 6 1 rfl rfl h9 dX8_isPlaced_25 ?_
        refine lv_iconst (v := 1) hx hb dX8_isPlaced_26 (by decide) ?_
        refine lv_iadd hx hb dX8_isPlaced_27 ?_
        obtain ⟨h9, hf⟩ := kv_nz_e hf
        refine lv_irem hx hb dX8_isPlaced_28 h9 ?_
        refine lv_iconst (v := 1) hx hb dX8_isPlaced_29 (by decide) ?_
        refine lv_isub hx hb dX8_isPlaced_30 ?_
        obtain ⟨x6, ex6, hf⟩ := kv_lt_e hf
        refine vv_nami ex6 ?_
        refine lv_istore (lv' := [(5, .int x6), (4, .int x2), (3, .int x3), (2, .int x4), (0, .ref (aZ 0))]) hx hb dX8_isPlaced_31 hl (by decide) rfl (fun ls hl => ?_)
        refine lv_iload_n hx hb dX8_isPlaced_33 rfl (lv_at hl 3 rfl) ?_
        refine lv_aload_n hx hb dX8_isPlaced_34 rfl (lv_at hl 4 rfl) ?_
        refine va_get (D := D) (ci := 8) (v := .ref (aZ 6)) (C := RX8) (T := TX8) (N := 26) hx hb hts iX8 hown hK hP 0 rfl rfl 7 (by decide) q1 (fun _ h9 => h9) rfl dX8_isPlaced_35 ?_
        refine lv_iconst (v := 0) hx hb dX8_isPlaced_38 (by decide) ?_
        obtain ⟨h9, hf⟩ := kv_ix_e hf
        refine va_iald hx hb hK hP 6 1 rfl rfl h9 dX8_isPlaced_39 ?_
        refine lv_iconst (v := 1) hx hb dX8_isPlaced_40 (by decide) ?_
        refine lv_iadd hx hb dX8_isPlaced_41 ?_
        obtain ⟨h9, hf⟩ := kv_nz_e hf
        refine lv_idiv hx hb dX8_isPlaced_42 h9 ?_
        obtain ⟨x7, ex7, hf⟩ := kv_lt_e hf
        refine vv_nami ex7 ?_
        refine lv_istore_n (lv' := [(2, .int x7), (5, .int x6), (4, .int x2), (3, .int x3), (0, .ref (aZ 0))]) hx hb dX8_isPlaced_43 rfl hl (by decide) rfl (fun ls hl => ?_)
        refine lv_iload hx hb dX8_isPlaced_44 (lv_at hl 1 rfl) ?_
        obtain ⟨k78_8, ek78_8, hf⟩ := kv_lt_e hf
        have J78_8 : ∀  (H : Heap) (locs : List Loc) (ls : Array Slot), va_P D vwCl (w_MD C aZ mZ5 mY) H → va_D A (w_MD C aZ mZ5 mY) → va_S A s.heap H locs → lv_has ls 6 [(2, .int x7), (5, .int x6), (4, .int x2), (3, .int x3), (0, .ref (aZ 0))] → k78_8  = some (rr, oZ) → W p l e rX8_isPlaced s m args below meth c H locs 0 0 Q (F0 m 78 ls []) := by
          intro  H locs ls hP hD hS hl hf
          rw [ek78_8] at hf
          refine lv_iload_n hx hb dX8_isPlaced_78 rfl (lv_at hl 3 rfl) ?_
          refine lv_iload hx hb dX8_isPlaced_79 (lv_at hl 1 rfl) ?_
          obtain ⟨k92_9, ek92_9, hf⟩ := kv_lt_e hf
          have J92_9 : ∀ (x10 : Int32) (H : Heap) (locs : List Loc) (ls : Array Slot), va_P D vwCl (w_MD C aZ mZ5 mY) H → va_D A (w_MD C aZ mZ5 mY) → va_S A s.heap H locs → lv_has ls 6 [(2, .int x7), (5, .int x6), (4, .int x2), (0, .ref (aZ 0))] → k92_9 x10 = some (rr, oZ) → W p l e rX8_isPlaced s m args below meth c H locs 0 0 Q (F0 m 92 ls [.int x10, .int x3]) := by
            intro x10 H locs ls hP hD hS hl hf
            rw [ek92_9] at hf
            refine lv_ior hx hb dX8_isPlaced_92 ?_
            obtain ⟨x11, ex11, hf⟩ := kv_lt_e hf
            refine vv_nami ex11 ?_
            refine lv_istore_n (lv' := [(3, .int x11), (2, .int x7), (5, .int x6), (4, .int x2), (0, .ref (aZ 0))]) hx hb dX8_isPlaced_93 rfl hl (by decide) rfl (fun ls hl => ?_)
            refine lv_aload_n hx hb dX8_isPlaced_94 rfl (lv_at hl 4 rfl) ?_
            refine va_get (D := D) (ci := 8) (v := .ref (aZ 13)) (C := RX8) (T := TX8) (N := 26) hx hb hts iX8 hown hK hP 0 rfl rfl 19 (by decide) q2 (fun _ h9 => h9) rfl dX8_isPlaced_95 ?_
            refine lv_iload hx hb dX8_isPlaced_98 (lv_at hl 3 rfl) ?_
            refine lv_iload hx hb dX8_isPlaced_100 (lv_at hl 2 rfl) ?_
            refine lv_if_ge (tgt := 110) hx hb dX8_isPlaced_102 (by decide) (fun hc => ?_) (fun hc => ?_)
            · have hf := kv_t hc hf
              refine lv_iload hx hb dX8_isPlaced_110 (lv_at hl 2 rfl) ?_
              obtain ⟨h9, hf⟩ := kv_ix_e hf
              obtain ⟨mZ12, emZ12, hf⟩ := kv_lt_e hf
              refine va_iast hx hb hK hP hD hS 13 1 rfl rfl h9 dX8_isPlaced_112 (fun H locs hP hD hS => ?_)
              have hP : va_P D vwCl (w_MD C aZ mZ12 mY) H := by rw [emZ12]; exact hP
              have hD : va_D A (w_MD C aZ mZ12 mY) := by rw [emZ12]; exact hD
              obtain ⟨x13, ex13, hf⟩ := kv_lt_e hf
              refine lv_iinc (v := x13) (lv' := [(4, .int x13), (3, .int x11), (2, .int x7), (5, .int x6), (0, .ref (aZ 0))]) hx hb dX8_isPlaced_113 hl (k := 3) rfl (by rw [ex13]; rfl) (by decide) rfl (fun ls hl => ?_)
              refine lv_goto (tgt := 14) hx hb dX8_isPlaced_116 (by decide) ?_
              exact ih _ _ _ _ _ _ _ hP hD hS (lv_sub hl [0, 1, 2, 4] rfl) hf
            · have hf := kv_f hc hf
              refine lv_bipush (v := 9) hx hb dX8_isPlaced_105 (by decide) ?_
              refine lv_goto (tgt := 112) hx hb dX8_isPlaced_107 (by decide) ?_
              obtain ⟨h9, hf⟩ := kv_ix_e hf
              obtain ⟨mZ14, emZ14, hf⟩ := kv_lt_e hf
              refine va_iast hx hb hK hP hD hS 13 1 rfl rfl h9 dX8_isPlaced_112 (fun H locs hP hD hS => ?_)
              have hP : va_P D vwCl (w_MD C aZ mZ14 mY) H := by rw [emZ14]; exact hP
              have hD : va_D A (w_MD C aZ mZ14 mY) := by rw [emZ14]; exact hD
              obtain ⟨x15, ex15, hf⟩ := kv_lt_e hf
              refine lv_iinc (v := x15) (lv' := [(4, .int x15), (3, .int x11), (2, .int x7), (5, .int x6), (0, .ref (aZ 0))]) hx hb dX8_isPlaced_113 hl (k := 3) rfl (by rw [ex15]; rfl) (by decide) rfl (fun ls hl => ?_)
              refine lv_goto (tgt := 14) hx hb dX8_isPlaced_116 (by decide) ?_
              exact ih _ _ _ _ _ _ _ hP hD hS (lv_sub hl [0, 1, 2, 4] rfl) hf
          refine lv_if_lt (tgt := 91) hx hb dX8_isPlaced_81 (by decide) (fun hc => ?_) (fun hc => ?_)
          · have hf := kv_t hc hf
            refine lv_iconst (v := 0) hx hb dX8_isPlaced_91 (by decide) ?_
            exact J92_9 _ _ _ _ hP hD hS (lv_sub hl [0, 1, 2, 4] rfl) hf
          · have hf := kv_f hc hf
            refine lv_iconst (v := 1) hx hb dX8_isPlaced_84 (by decide) ?_
            refine lv_iload hx hb dX8_isPlaced_85 (lv_at hl 1 rfl) ?_
            refine lv_ishl hx hb dX8_isPlaced_87 ?_
            refine lv_goto (tgt := 92) hx hb dX8_isPlaced_88 (by decide) ?_
            exact J92_9 _ _ _ _ hP hD hS (lv_sub hl [0, 1, 2, 4] rfl) hf
        refine lv_if_lt (tgt := 78) hx hb dX8_isPlaced_46 (by decide) (fun hc => ?_) (fun hc => ?_)
        · have hf := kv_t hc hf
          exact J78_8 _ _ _ hP hD hS (lv_sub hl [0, 1, 2, 3, 4] rfl) hf
        · have hf := kv_f hc hf
          refine lv_iload_n hx hb dX8_isPlaced_49 rfl (lv_at hl 3 rfl) ?_
          refine lv_iload hx hb dX8_isPlaced_50 (lv_at hl 1 rfl) ?_
          refine lv_ishr hx hb dX8_isPlaced_52 ?_
          refine lv_iconst (v := 1) hx hb dX8_isPlaced_53 (by decide) ?_
          refine lv_iand hx hb dX8_isPlaced_54 ?_
          refine lv_iconst (v := 1) hx hb dX8_isPlaced_55 (by decide) ?_
          refine lv_icmp_eq (tgt := 76) hx hb dX8_isPlaced_56 (by decide) (fun hc => ?_) (fun hc => ?_)
          · have hf := kv_t hc hf
            refine lv_iconst (v := 0) hx hb dX8_isPlaced_76 (by decide) ?_
            exact hret _ _ _ _ _ _ hf rfl hP hD hS dX8_isPlaced_77
          · have hf := kv_f hc hf
            refine lv_aload_n hx hb dX8_isPlaced_59 rfl (lv_at hl 4 rfl) ?_
            refine va_get (D := D) (ci := 8) (v := .ref (aZ 4)) (C := RX8) (T := TX8) (N := 26) hx hb hts iX8 hown hK hP 0 rfl rfl 5 (by decide) q3 (fun _ h9 => h9) rfl dX8_isPlaced_60 ?_
            refine lv_iload hx hb dX8_isPlaced_63 (lv_at hl 2 rfl) ?_
            obtain ⟨h9, hf⟩ := kv_ix_e hf
            refine va_iald hx hb hK hP 4 1 rfl rfl h9 dX8_isPlaced_65 ?_
            refine lv_aload_n hx hb dX8_isPlaced_66 rfl (lv_at hl 4 rfl) ?_
            refine va_get (D := D) (ci := 8) (v := .ref (aZ 7)) (C := RX8) (T := TX8) (N := 26) hx hb hts iX8 hown hK hP 0 rfl rfl 8 (by decide) q4 (fun _ h9 => h9) rfl dX8_isPlaced_67 ?_
            refine lv_iload hx hb dX8_isPlaced_70 (lv_at hl 1 rfl) ?_
            obtain ⟨h9, hf⟩ := kv_ix_e hf
            refine va_iald hx hb hK hP 7 1 rfl rfl h9 dX8_isPlaced_72 ?_
            refine lv_icmp_le (tgt := 78) hx hb dX8_isPlaced_73 (by decide) (fun hc => ?_) (fun hc => ?_)
            · have hf := kv_t hc hf
              exact J78_8 _ _ _ hP hD hS (lv_sub hl [0, 1, 2, 3, 4] rfl) hf
            · have hf := kv_f hc hf
              refine lv_iconst (v := 0) hx hb dX8_isPlaced_76 (by decide) ?_
              exact hret _ _ _ _ _ _ hf rfl hP hD hS dX8_isPlaced_77
  refine L14 _ (fun x16 x17 x18 mZ19 H locs ls hP hD hS hl hf => ?_) _ _ _ _ _ _ _ _ hP hD hS (lv_sub hl [0, 1, 2, 3] rfl) hf
  refine lv_iconst (v := 1) hx hb dX8_isPlaced_119 (by decide) ?_
  exact hret _ _ _ _ _ _ hf rfl hP hD hS dX8_isPlaced_120
abbrev rX8_isRow : Room := { frames := 0, cells := 0, slots := 0, locals := 0 }
set_option maxHeartbeats 4000000 in
set_option maxRecDepth 100000 in
theorem ccX8_isRow (l : Launch) (D : va_G) (C : Nat → ClassId) (sz : Nat) (aZ : Nat → Nat) (mZ : Mm) (mY : Int64) (p0 : Int32) (p1 : Int32) (p2 : Int32) (rr : Int32) (oZ : Mm) (hf : ffX8_isRow p0 p1 p2 mZ = some (rr, oZ)) : Met l yX8_isRow wsX8_isRow rX8_isRow (va_Pc [.ref (aZ 0), .int p0, .int p1, .int p2] (vv_pre D C (w_MD C aZ mZ mY) sz)) (vv_QI D C (w_MD C aZ mZ mY) (w_MD C aZ oZ mY) sz rr) 0 0 (va_A (w_MD C aZ mZ mY) sz) := by
  unfold ffX8_isRow at hf
  refine vv_metI (cc := cX8_isRow) (maxL := 7) (ty := .boolean) (by decide) rfl (Nat.le_of_ble_eq_true rfl) ?_
  intro p e s m args below meth c A Q H locs ls hx hb hml hown hts hA hK hN hP hD hS hl hret
  have hown : s.vm.findClass RX8 = some m.cls := hown
  have hl : lv_has ls 7 [(0, .ref (aZ 0)), (1, .int p0), (2, .int p1), (3, .int p2)] := hl
  have hret : ∀ (v0 : Int32) (v1 : Mm) (H : Heap) (locs : List Loc) (ls : Array Slot) (pc : Nat), some (v0, v1) = some (rr, oZ) → narrow .boolean (.int v0) = .int v0 → va_P D vwCl (w_MD C aZ v1 mY) H → va_D A (w_MD C aZ v1 mY) → va_S A s.heap H locs → decode cX8_isRow pc = .ok (.ireturn, 1) → W p l e rX8_isRow s m args below meth c H locs 0 0 Q (F0 m pc ls [.int v0]) := by
    intro v0 v1 H locs ls pc h0 hn h1 h2 h3 h4
    cases h0
    exact hret H locs ls pc hn h1 h2 h3 h4
  have q0 := hts (.fieldLink RX8 54 "ForeRainModel" "row" "[I") (by decide +kernel)
  have iX8 : ∀ w ∈ u_ws RX8 TX8 26, w ∈ wsX8_isRow := by decide +kernel
  refine lv_iload_n hx hb dX8_isRow_0 rfl (lv_at hl 1 rfl) ?_
  refine lv_istore (lv' := [(4, .int p0), (0, .ref (aZ 0)), (1, .int p0), (2, .int p1), (3, .int p2)]) hx hb dX8_isRow_1 hl (by decide) rfl (fun ls hl => ?_)
  refine lv_iload_n hx hb dX8_isRow_3 rfl (lv_at hl 4 rfl) ?_
  refine lv_istore (lv' := [(5, .int p2), (4, .int p0), (0, .ref (aZ 0)), (1, .int p0), (2, .int p1), (3, .int p2)]) hx hb dX8_isRow_4 hl (by decide) rfl (fun ls hl => ?_)
  refine lv_iload_n hx hb dX8_isRow_6 rfl (lv_at hl 4 rfl) ?_
  refine lv_iconst (v := 1) hx hb dX8_isRow_7 (by decide) ?_
  refine lv_isub hx hb dX8_isRow_8 ?_
  obtain ⟨x1, ex1, hf⟩ := kv_lt_e hf
  refine vv_nami ex1 ?_
  refine lv_istore (lv' := [(6, .int x1), (5, .int p2), (4, .int p0), (0, .ref (aZ 0)), (1, .int p0), (2, .int p1), (3, .int p2)]) hx hb dX8_isRow_9 hl (by decide) rfl (fun ls hl => ?_)
  have L11 : ∀ (K11 : Int32 → Int32 → Int32 → Mm → Option (Int32 × Mm)), (∀ (x2 : Int32) (x3 : Int32) (x4 : Int32) (mZ5 : Mm) (H : Heap) (locs : List Loc) (ls : Array Slot), va_P D vwCl (w_MD C aZ mZ5 mY) H → va_D A (w_MD C aZ mZ5 mY) → va_S A s.heap H locs → lv_has ls 7 [(6, .int x2), (5, .int x3), (4, .int x4), (0, .ref (aZ 0))] → K11 x2 x3 x4 mZ5 = some (rr, oZ) → W p l e rX8_isRow s m args below meth c H locs 0 0 Q (F0 m 74 ls [])) → ∀ (n : Nat) (x2 : Int32) (x3 : Int32) (x4 : Int32) (mZ5 : Mm) (H : Heap) (locs : List Loc) (ls : Array Slot), va_P D vwCl (w_MD C aZ mZ5 mY) H → va_D A (w_MD C aZ mZ5 mY) → va_S A s.heap H locs → lv_has ls 7 [(6, .int x2), (5, .int x3), (4, .int x4), (0, .ref (aZ 0))] → ffX8_isRow_L11  K11 n x2 x3 x4 mZ5 = some (rr, oZ) → W p l e rX8_isRow s m args below meth c H locs 0 0 Q (F0 m 11 ls []) := by
    intro K11 hK9 n
    induction n with
    | zero => intro x2 x3 x4 mZ5 H locs ls hP hD hS hl hf; exact kv_no hf
    | succ n ih =>
      intro x2 x3 x4 mZ5 H locs ls hP hD hS hl hf
      rw [ffX8_isRow_L11_s] at hf
      refine lv_iload hx hb dX8_isRow_11 (lv_at hl 0 rfl) ?_
      refine lv_if_lt (tgt := 74) hx hb dX8_isRow_13 (by decide) (fun hc => ?_) (fun hc => ?_)
      · have hf := kv_t hc hf
        exact hK9 _ _ _ _ _ _ _ hP hD hS (lv_sub hl [0, 1, 2, 3] rfl) hf
      · have hf := kv_f hc hf
        refine lv_aload_n hx hb dX8_isRow_16 rfl (lv_at hl 3 rfl) ?_
        refine va_get (D := D) (ci := 8) (v := .ref (aZ 15)) (C := RX8) (T := TX8) (N := 26) hx hb hts iX8 hown hK hP 0 rfl rfl 21 (by decide) q0 (fun _ h9 => h9) rfl dX8_isRow_17 ?_
        refine lv_iload hx hb dX8_isRow_20 (lv_at hl 0 rfl) ?_
        refine lv_iload hx hb dX8_isRow_22 (lv_at hl 2 rfl) ?_
        refine lv_bipush (v := 6) hx hb dX8_isRow_24 (by decide) ?_
        refine lv_irem hx hb dX8_isRow_26 (by decide) ?_
        obtain ⟨x6, ex6, hf⟩ := kv_lt_e hf
        refine vv_nami ex6 ?_
        obtain ⟨h9, hf⟩ := kv_ix_e hf
        obtain ⟨mZ7, emZ7, hf⟩ := kv_lt_e hf
        refine va_iast hx hb hK hP hD hS 15 1 rfl rfl h9 dX8_isRow_27 (fun H locs hP hD hS => ?_)
        have hP : va_P D vwCl (w_MD C aZ mZ7 mY) H := by rw [emZ7]; exact hP
        have hD : va_D A (w_MD C aZ mZ7 mY) := by rw [emZ7]; exact hD
        refine lv_iload hx hb dX8_isRow_28 (lv_at hl 2 rfl) ?_
        refine lv_bipush (v := 6) hx hb dX8_isRow_30 (by decide) ?_
        refine lv_idiv hx hb dX8_isRow_32 (by decide) ?_
        obtain ⟨x8, ex8, hf⟩ := kv_lt_e hf
        refine vv_nami ex8 ?_
        refine lv_istore (lv' := [(4, .int x8), (6, .int x2), (5, .int x3), (0, .ref (aZ 0))]) hx hb dX8_isRow_33 hl (by decide) rfl (fun ls hl => ?_)
        refine lv_iload hx hb dX8_isRow_35 (lv_at hl 2 rfl) ?_
        refine lv_aload_n hx hb dX8_isRow_37 rfl (lv_at hl 3 rfl) ?_
        refine va_get (D := D) (ci := 8) (v := .ref (aZ 15)) (C := RX8) (T := TX8) (N := 26) hx hb hts iX8 hown hK hP 0 rfl rfl 21 (by decide) q0 (fun _ h9 => h9) rfl dX8_isRow_38 ?_
        refine lv_iload hx hb dX8_isRow_41 (lv_at hl 1 rfl) ?_
        obtain ⟨h9, hf⟩ := kv_ix_e hf
        refine va_iald hx hb hK hP 15 1 rfl rfl h9 dX8_isRow_43 ?_
        refine lv_ishr hx hb dX8_isRow_44 ?_
        refine lv_iconst (v := 1) hx hb dX8_isRow_45 (by decide) ?_
        refine lv_iand hx hb dX8_isRow_46 ?_
        refine lv_if_ne (tgt := 52) hx hb dX8_isRow_47 (by decide) (fun hc => ?_) (fun hc => ?_)
        · have hf := kv_f hc hf
          refine lv_iload hx hb dX8_isRow_52 (lv_at hl 2 rfl) ?_
          refine lv_iconst (v := 1) hx hb dX8_isRow_54 (by decide) ?_
          refine lv_aload_n hx hb dX8_isRow_55 rfl (lv_at hl 3 rfl) ?_
          refine va_get (D := D) (ci := 8) (v := .ref (aZ 15)) (C := RX8) (T := TX8) (N := 26) hx hb hts iX8 hown hK hP 0 rfl rfl 21 (by decide) q0 (fun _ h9 => h9) rfl dX8_isRow_56 ?_
          refine lv_iload hx hb dX8_isRow_59 (lv_at hl 1 rfl) ?_
          obtain ⟨h9, hf⟩ := kv_ix_e hf
          refine va_iald hx hb hK hP 15 1 rfl rfl h9 dX8_isRow_61 ?_
          refine lv_ishl hx hb dX8_isRow_62 ?_
          refine lv_iconst (v := (-1)) hx hb dX8_isRow_63 (by decide) ?_
          refine lv_ixor hx hb dX8_isRow_64 ?_
          refine lv_iand hx hb dX8_isRow_65 ?_
          obtain ⟨x9, ex9, hf⟩ := kv_lt_e hf
          refine vv_nami ex9 ?_
          refine lv_istore (lv' := [(5, .int x9), (4, .int x8), (6, .int x2), (0, .ref (aZ 0))]) hx hb dX8_isRow_66 hl (by decide) rfl (fun ls hl => ?_)
          obtain ⟨x10, ex10, hf⟩ := kv_lt_e hf
          refine lv_iinc (v := x10) (lv' := [(6, .int x10), (5, .int x9), (4, .int x8), (0, .ref (aZ 0))]) hx hb dX8_isRow_68 hl (k := 2) rfl (by rw [ex10]; rfl) (by decide) rfl (fun ls hl => ?_)
          refine lv_goto (tgt := 11) hx hb dX8_isRow_71 (by decide) ?_
          exact ih _ _ _ _ _ _ _ hP hD hS (lv_sub hl [0, 1, 2, 3] rfl) hf
        · have hf := kv_t hc hf
          refine lv_iconst (v := 0) hx hb dX8_isRow_50 (by decide) ?_
          exact hret _ _ _ _ _ _ hf rfl hP hD hS dX8_isRow_51
  refine L11 _ (fun x11 x12 x13 mZ14 H locs ls hP hD hS hl hf => ?_) _ _ _ _ _ _ _ _ hP hD hS (lv_sub hl [0, 1, 2, 3] rfl) hf
  refine lv_iconst (v := 1) hx hb dX8_isRow_74 (by decide) ?_
  exact hret _ _ _ _ _ _ hf rfl hP hD hS dX8_isRow_75
abbrev rX8_keep : Room := { frames := 1, cells := 0, slots := 0, locals := 23 }
set_option maxHeartbeats 4000000 in
set_option maxRecDepth 100000 in
theorem ccX8_keep (l : Launch) (D : va_G) (C : Nat → ClassId) (sz : Nat) (aZ : Nat → Nat) (mZ : Mm) (mY : Int64) (p0 : Int32) (rr : Int32) (oZ : Mm) (hf : ffX8_keep p0 mZ = some (rr, oZ)) : Met l yX8_keep wsX8_keep rX8_keep (va_Pc [.ref (aZ 0), .int p0] (vv_pre D C (w_MD C aZ mZ mY) sz)) (vv_QI D C (w_MD C aZ mZ mY) (w_MD C aZ oZ mY) sz rr) 0 0 (va_A (w_MD C aZ mZ mY) sz) := by
  unfold ffX8_keep at hf
  refine vv_metI (cc := cX8_keep) (maxL := 2) (ty := .int) (by decide) rfl (Nat.le_of_ble_eq_true rfl) ?_
  intro p e s m args below meth c A Q H locs ls hx hb hml hown hts hA hK hN hP hD hS hl hret
  have hown : s.vm.findClass RX8 = some m.cls := hown
  have hl : lv_has ls 2 [(0, .ref (aZ 0)), (1, .int p0)] := hl
  have hret : ∀ (v0 : Int32) (v1 : Mm) (H : Heap) (locs : List Loc) (ls : Array Slot) (pc : Nat), some (v0, v1) = some (rr, oZ) → narrow .int (.int v0) = .int v0 → va_P D vwCl (w_MD C aZ v1 mY) H → va_D A (w_MD C aZ v1 mY) → va_S A s.heap H locs → decode cX8_keep pc = .ok (.ireturn, 1) → W p l e rX8_keep s m args below meth c H locs 0 0 Q (F0 m pc ls [.int v0]) := by
    intro v0 v1 H locs ls pc h0 hn h1 h2 h3 h4
    cases h0
    exact hret H locs ls pc hn h1 h2 h3 h4
  have q0 := hts (.fieldLink RX8 44 "ForeRainModel" "isKept" "[Z") (by decide +kernel)
  have q1 := hts (.fieldLink RX8 41 "ForeRainModel" "now" "[I") (by decide +kernel)
  have iX8 : ∀ w ∈ u_ws RX8 TX8 26, w ∈ wsX8_keep := by decide +kernel
  refine lv_iload_n hx hb dX8_keep_0 rfl (lv_at hl 1 rfl) ?_
  refine lv_iconst (v := 0) hx hb dX8_keep_1 (by decide) ?_
  refine lv_iconst (v := 1) hx hb dX8_keep_2 (by decide) ?_
  obtain ⟨r1, hc, hf⟩ := kv_b1_e hf
  have hs9 : vv_Sub D H A ([] : va_W) ([] : va_W) (w_MD C aZ mZ mY) := vv_Sub.none hP hD hS hA
  refine vv_goi (wn := (w_MD C aZ mZ mY)) hK hs9 hS (vv_rS (As := [.int p0, .int 0, .int 1]) (rest := []) hx hb hml hown hts hK hN hS hs9 (ccX8_in l D C H.size p0 (0 : Int32) (1 : Int32) r1 hc) (va_cwS 3 hts gX8_keep_X8_in rfl rfl rfl (by decide +kernel) ⟨(Nat.le_of_ble_eq_true rfl), (Nat.le_of_ble_eq_true rfl)⟩) rfl hl.1 rfl (Nat.le_of_ble_eq_true rfl) dX8_keep_3 ⟨Nat.zero_le _, Nat.zero_le _⟩) (fun H locs hP hD hS => ?_)
  refine lv_if_ne (tgt := 11) hx hb dX8_keep_6 (by decide) (fun hc => ?_) (fun hc => ?_)
  · have hf := kv_f hc hf
    refine lv_aload_n hx hb dX8_keep_11 rfl (lv_at hl 0 rfl) ?_
    refine lv_iconst (v := 0) hx hb dX8_keep_12 (by decide) ?_
    refine lv_bipush (v := 26) hx hb dX8_keep_13 (by decide) ?_
    refine lv_iconst (v := 2) hx hb dX8_keep_15 (by decide) ?_
    refine lv_iload_n hx hb dX8_keep_16 rfl (lv_at hl 1 rfl) ?_
    refine lv_iadd hx hb dX8_keep_17 ?_
    refine lv_imul hx hb dX8_keep_18 ?_
    obtain ⟨mZ2, hc, hf⟩ := kv_b1_e hf
    have hs9 : vv_Sub D H A (w_MD C aZ mZ mY) (w_MD C aZ mZ2 mY) (w_MD C aZ mZ2 mY) := vv_Sub.same (w_MD C aZ mZ2 mY) hP hD hS hA
    refine vv_gov (wn := (w_MD C aZ mZ2 mY)) hK hs9 hS (vv_rV (As := [.int 0, .int (26 * (2 + p0))]) (rest := []) hx hb hml hown hts hK hN hS hs9 (ccX8_copy l D C H.size aZ mZ mY (0 : Int32) (26 * (2 + p0)) mZ2 hc) (cwV 2 hts gX8_keep_X8_copy rfl rfl rfl (by decide +kernel) ⟨(Nat.le_of_ble_eq_true rfl), (Nat.le_of_ble_eq_true rfl)⟩) (va_recv hK hP (ci := 8) (q0 := 0) rfl rfl) rfl hl.1 rfl (Nat.le_of_ble_eq_true rfl) dX8_keep_19 ⟨Nat.zero_le _, Nat.zero_le _⟩) (fun H locs hP hD hS => ?_)
    refine lv_aload_n hx hb dX8_keep_22 rfl (lv_at hl 0 rfl) ?_
    refine va_get (D := D) (ci := 8) (v := .ref (aZ 12)) (C := RX8) (T := TX8) (N := 26) hx hb hts iX8 hown hK hP 0 rfl rfl 18 (by decide) q0 (fun _ h9 => h9) rfl dX8_keep_23 ?_
    refine lv_iload_n hx hb dX8_keep_26 rfl (lv_at hl 1 rfl) ?_
    refine lv_iconst (v := 1) hx hb dX8_keep_27 (by decide) ?_
    obtain ⟨h9, hf⟩ := kv_ix_e hf
    obtain ⟨mZ3, emZ3, hf⟩ := kv_lt_e hf
    refine va_zast hx hb hK hP hD hS 12 2 rfl rfl h9 dX8_keep_28 (fun H locs hP hD hS => ?_)
    have hP : va_P D vwCl (w_MD C aZ mZ3 mY) H := by rw [emZ3]; exact hP
    have hD : va_D A (w_MD C aZ mZ3 mY) := by rw [emZ3]; exact hD
    refine lv_aload_n hx hb dX8_keep_29 rfl (lv_at hl 0 rfl) ?_
    refine va_get (D := D) (ci := 8) (v := .ref (aZ 11)) (C := RX8) (T := TX8) (N := 26) hx hb hts iX8 hown hK hP 0 rfl rfl 17 (by decide) q1 (fun _ h9 => h9) rfl dX8_keep_30 ?_
    refine lv_iconst (v := 0) hx hb dX8_keep_33 (by decide) ?_
    obtain ⟨h9, hf⟩ := kv_ix_e hf
    refine va_iald hx hb hK hP 11 1 rfl rfl h9 dX8_keep_34 ?_
    exact hret _ _ _ _ _ _ hf rfl hP hD hS dX8_keep_35
  · have hf := kv_t hc hf
    refine lv_iconst (v := (-1)) hx hb dX8_keep_9 (by decide) ?_
    exact hret _ _ _ _ _ _ hf rfl hP hD hS dX8_keep_10
abbrev rX8_mark : Room := { frames := 2, cells := 0, slots := 0, locals := 43 }
set_option maxHeartbeats 4000000 in
set_option maxRecDepth 100000 in
theorem ccX8_mark (l : Launch) (D : va_G) (C : Nat → ClassId) (sz : Nat) (aZ : Nat → Nat) (mZ : Mm) (mY : Int64) (p0 : Int32) (p1 : Int32) (rr : Int32) (oY : Int64) (hf : ffX8_mark p0 p1 mZ mY = some (rr, oY)) : Met l yX8_mark wsX8_mark rX8_mark (va_Pc [.ref (aZ 0), .int p0, .int p1] (vv_pre D C (w_MD C aZ mZ mY) sz)) (vv_QI D C (w_MD C aZ mZ mY) (w_MD C aZ mZ oY) sz rr) 0 0 (va_A (w_MD C aZ mZ mY) sz) := by
  unfold ffX8_mark at hf
  refine vv_metI (cc := cX8_mark) (maxL := 4) (ty := .int) (by decide) rfl (Nat.le_of_ble_eq_true rfl) ?_
  intro p e s m args below meth c A Q H locs ls hx hb hml hown hts hA hK hN hP hD hS hl hret
  have hown : s.vm.findClass RX8 = some m.cls := hown
  have hl : lv_has ls 4 [(0, .ref (aZ 0)), (1, .int p0), (2, .int p1)] := hl
  have hret : ∀ (v0 : Int32) (v1 : Int64) (H : Heap) (locs : List Loc) (ls : Array Slot) (pc : Nat), some (v0, v1) = some (rr, oY) → narrow .int (.int v0) = .int v0 → va_P D vwCl (w_MD C aZ mZ v1) H → va_D A (w_MD C aZ mZ v1) → va_S A s.heap H locs → decode cX8_mark pc = .ok (.ireturn, 1) → W p l e rX8_mark s m args below meth c H locs 0 0 Q (F0 m pc ls [.int v0]) := by
    intro v0 v1 H locs ls pc h0 hn h1 h2 h3 h4
    cases h0
    exact hret H locs ls pc hn h1 h2 h3 h4
  have q0 := hts (.constant RX8 129 (-1000000)) (by decide +kernel)
  have q1 := hts (.fieldLink RX8 41 "ForeRainModel" "now" "[I") (by decide +kernel)
  have q2 := hts (.fieldLink RX8 180 "ForeRainModel" "trace" "J") (by decide +kernel)
  have q3 := hts (.constantLong RX8 184 11) (by decide +kernel)
  have q4 := hts (.constantLong RX8 186 101) (by decide +kernel)
  have q5 := hts (.fieldLink RX8 23 "ForeRainModel" "cloth" "[I") (by decide +kernel)
  have q6 := hts (.constantLong RX8 188 1011) (by decide +kernel)
  have q7 := hts (.fieldLink RX8 20 "ForeRainModel" "wide" "[I") (by decide +kernel)
  have q8 := hts (.constantLong RX8 190 10101) (by decide +kernel)
  have q9 := hts (.constantLong RX8 192 100001) (by decide +kernel)
  have iX8 : ∀ w ∈ u_ws RX8 TX8 26, w ∈ wsX8_mark := by decide +kernel
  refine lv_iload_n hx hb dX8_mark_0 rfl (lv_at hl 1 rfl) ?_
  refine lv_iconst (v := 0) hx hb dX8_mark_1 (by decide) ?_
  refine lv_iconst (v := 5) hx hb dX8_mark_2 (by decide) ?_
  obtain ⟨r1, hc, hf⟩ := kv_b1_e hf
  have hs9 : vv_Sub D H A ([] : va_W) ([] : va_W) (w_MD C aZ mZ mY) := vv_Sub.none hP hD hS hA
  refine vv_goi (wn := (w_MD C aZ mZ mY)) hK hs9 hS (vv_rS (As := [.int p0, .int 0, .int 5]) (rest := []) hx hb hml hown hts hK hN hS hs9 (ccX8_in l D C H.size p0 (0 : Int32) (5 : Int32) r1 hc) (va_cwS 3 hts gX8_mark_X8_in rfl rfl rfl (by decide +kernel) ⟨(Nat.le_of_ble_eq_true rfl), (Nat.le_of_ble_eq_true rfl)⟩) rfl hl.1 rfl (Nat.le_of_ble_eq_true rfl) dX8_mark_3 ⟨Nat.zero_le _, Nat.zero_le _⟩) (fun H locs hP hD hS => ?_)
  refine lv_if_eq (tgt := 17) hx hb dX8_mark_6 (by decide) (fun hc => ?_) (fun hc => ?_)
  · have hf := kv_t hc hf
    refine lv_ldc (v := (-1000000)) hx hb hown q0 dX8_mark_17 ?_
    exact hret _ _ _ _ _ _ hf rfl hP hD hS dX8_mark_19
  · have hf := kv_f hc hf
    refine lv_aload_n hx hb dX8_mark_9 rfl (lv_at hl 0 rfl) ?_
    refine lv_iload_n hx hb dX8_mark_10 rfl (lv_at hl 2 rfl) ?_
    obtain ⟨r2, hc, hf⟩ := kv_b1_e hf
    have hs9 : vv_Sub D H A (w_MD C aZ mZ mY) (w_MD C aZ mZ mY) (w_MD C aZ mZ mY) := vv_Sub.same (w_MD C aZ mZ mY) hP hD hS hA
    refine vv_goi (wn := (w_MD C aZ mZ mY)) hK hs9 hS (vv_rV (As := [.int p1]) (rest := []) hx hb hml hown hts hK hN hS hs9 (ccX8_isPiece l D C H.size aZ mZ mY p1 r2 hc) (cwV 1 hts gX8_mark_X8_isPiece rfl rfl rfl (by decide +kernel) ⟨(Nat.le_of_ble_eq_true rfl), (Nat.le_of_ble_eq_true rfl)⟩) (va_recv hK hP (ci := 8) (q0 := 0) rfl rfl) rfl hl.1 rfl (Nat.le_of_ble_eq_true rfl) dX8_mark_11 ⟨Nat.zero_le _, Nat.zero_le _⟩) (fun H locs hP hD hS => ?_)
    refine lv_if_ne (tgt := 20) hx hb dX8_mark_14 (by decide) (fun hc => ?_) (fun hc => ?_)
    · have hf := kv_f hc hf
      refine lv_aload_n hx hb dX8_mark_20 rfl (lv_at hl 0 rfl) ?_
      refine va_get (D := D) (ci := 8) (v := .ref (aZ 11)) (C := RX8) (T := TX8) (N := 26) hx hb hts iX8 hown hK hP 0 rfl rfl 17 (by decide) q1 (fun _ h9 => h9) rfl dX8_mark_21 ?_
      refine lv_iconst (v := 2) hx hb dX8_mark_24 (by decide) ?_
      refine lv_iload_n hx hb dX8_mark_25 rfl (lv_at hl 2 rfl) ?_
      refine lv_iadd hx hb dX8_mark_26 ?_
      obtain ⟨h9, hf⟩ := kv_ix_e hf
      refine va_iald hx hb hK hP 11 1 rfl rfl h9 dX8_mark_27 ?_
      obtain ⟨x3, ex3, hf⟩ := kv_lt_e hf
      refine vv_nami ex3 ?_
      refine lv_istore_n (lv' := [(3, .int x3), (0, .ref (aZ 0)), (1, .int p0), (2, .int p1)]) hx hb dX8_mark_28 rfl hl (by decide) rfl (fun ls hl => ?_)
      refine lv_iload_n hx hb dX8_mark_29 rfl (lv_at hl 2 rfl) ?_
      by_cases c0 : p0 = 0
      · have hf := kv_t c0 hf
        refine lv_tableIn (off := 34) (tgt := 64) hx hb dX8_mark_30 (by rw [c0]; decide) (by rw [c0]; decide) (by rw [c0]; rfl) (by decide) ?_
        refine lv_aload_n hx hb dX8_mark_64 rfl (lv_at hl 1 rfl) ?_
        refine lv_dup hx hb dX8_mark_65 rfl ?_
        refine va_get (D := D) (ci := 8) (v := .long mY) (C := RX8) (T := TX8) (N := 26) hx hb hts iX8 hown hK hP 0 rfl rfl 0 (by decide) q2 (fun _ h9 => h9) rfl dX8_mark_66 ?_
        refine lv_lconst (v := 1) hx hb dX8_mark_69 (by decide) ?_
        refine lv_ladd hx hb dX8_mark_70 ?_
        obtain ⟨x4, ex4, hf⟩ := kv_lt_e hf
        refine vv_naml ex4 ?_
        refine va_put (D := D) (ci := 8) (v := .long x4) (ty := .long) (C := RX8) (T := TX8) (N := 26) hx hb hts iX8 tyX8 tyX8_ok nmX8 hown hK hP hD hS 0 rfl rfl 0 (by decide) q2 (fun _ h9 => h9) rfl (tyX8_ok 0 (by decide)) rfl rfl (Nat.le_of_ble_eq_true rfl) dX8_mark_71 (fun H locs hP hD hS => ?_)
        have hP : va_P D vwCl (w_MD C aZ mZ x4) H := hP
        have hD : va_D A (w_MD C aZ mZ x4) := hD
        refine lv_iload_n hx hb dX8_mark_74 rfl (lv_at hl 0 rfl) ?_
        exact hret _ _ _ _ _ _ hf rfl hP hD hS dX8_mark_75
      have hf := kv_f c0 hf
      by_cases c1 : p0 = 1
      · have hf := kv_t c1 hf
        refine lv_tableIn (off := 46) (tgt := 76) hx hb dX8_mark_30 (by rw [c1]; decide) (by rw [c1]; decide) (by rw [c1]; rfl) (by decide) ?_
        refine lv_aload_n hx hb dX8_mark_76 rfl (lv_at hl 1 rfl) ?_
        refine lv_dup hx hb dX8_mark_77 rfl ?_
        refine va_get (D := D) (ci := 8) (v := .long mY) (C := RX8) (T := TX8) (N := 26) hx hb hts iX8 hown hK hP 0 rfl rfl 0 (by decide) q2 (fun _ h9 => h9) rfl dX8_mark_78 ?_
        refine lv_ldc2 (v := 11) hx hb hown q3 dX8_mark_81 ?_
        refine lv_ladd hx hb dX8_mark_84 ?_
        obtain ⟨x5, ex5, hf⟩ := kv_lt_e hf
        refine vv_naml ex5 ?_
        refine va_put (D := D) (ci := 8) (v := .long x5) (ty := .long) (C := RX8) (T := TX8) (N := 26) hx hb hts iX8 tyX8 tyX8_ok nmX8 hown hK hP hD hS 0 rfl rfl 0 (by decide) q2 (fun _ h9 => h9) rfl (tyX8_ok 0 (by decide)) rfl rfl (Nat.le_of_ble_eq_true rfl) dX8_mark_85 (fun H locs hP hD hS => ?_)
        have hP : va_P D vwCl (w_MD C aZ mZ x5) H := hP
        have hD : va_D A (w_MD C aZ mZ x5) := hD
        refine lv_iconst (v := 2) hx hb dX8_mark_88 (by decide) ?_
        refine lv_iload_n hx hb dX8_mark_89 rfl (lv_at hl 0 rfl) ?_
        refine lv_imul hx hb dX8_mark_90 ?_
        exact hret _ _ _ _ _ _ hf rfl hP hD hS dX8_mark_91
      have hf := kv_f c1 hf
      by_cases c2 : p0 = 2
      · have hf := kv_t c2 hf
        refine lv_tableIn (off := 62) (tgt := 92) hx hb dX8_mark_30 (by rw [c2]; decide) (by rw [c2]; decide) (by rw [c2]; rfl) (by decide) ?_
        refine lv_aload_n hx hb dX8_mark_92 rfl (lv_at hl 1 rfl) ?_
        refine lv_dup hx hb dX8_mark_93 rfl ?_
        refine va_get (D := D) (ci := 8) (v := .long mY) (C := RX8) (T := TX8) (N := 26) hx hb hts iX8 hown hK hP 0 rfl rfl 0 (by decide) q2 (fun _ h9 => h9) rfl dX8_mark_94 ?_
        refine lv_ldc2 (v := 101) hx hb hown q4 dX8_mark_97 ?_
        refine lv_ladd hx hb dX8_mark_100 ?_
        obtain ⟨x6, ex6, hf⟩ := kv_lt_e hf
        refine vv_naml ex6 ?_
        refine va_put (D := D) (ci := 8) (v := .long x6) (ty := .long) (C := RX8) (T := TX8) (N := 26) hx hb hts iX8 tyX8 tyX8_ok nmX8 hown hK hP hD hS 0 rfl rfl 0 (by decide) q2 (fun _ h9 => h9) rfl (tyX8_ok 0 (by decide)) rfl rfl (Nat.le_of_ble_eq_true rfl) dX8_mark_101 (fun H locs hP hD hS => ?_)
        have hP : va_P D vwCl (w_MD C aZ mZ x6) H := hP
        have hD : va_D A (w_MD C aZ mZ x6) := hD
        refine lv_iload_n hx hb dX8_mark_104 rfl (lv_at hl 0 rfl) ?_
        refine lv_aload_n hx hb dX8_mark_105 rfl (lv_at hl 1 rfl) ?_
        refine va_get (D := D) (ci := 8) (v := .ref (aZ 5)) (C := RX8) (T := TX8) (N := 26) hx hb hts iX8 hown hK hP 0 rfl rfl 6 (by decide) q5 (fun _ h9 => h9) rfl dX8_mark_106 ?_
        refine lv_iload_n hx hb dX8_mark_109 rfl (lv_at hl 3 rfl) ?_
        obtain ⟨h9, hf⟩ := kv_ix_e hf
        refine va_iald hx hb hK hP 5 1 rfl rfl h9 dX8_mark_110 ?_
        refine lv_isub hx hb dX8_mark_111 ?_
        exact hret _ _ _ _ _ _ hf rfl hP hD hS dX8_mark_112
      have hf := kv_f c2 hf
      by_cases c3 : p0 = 3
      · have hf := kv_t c3 hf
        refine lv_tableIn (off := 83) (tgt := 113) hx hb dX8_mark_30 (by rw [c3]; decide) (by rw [c3]; decide) (by rw [c3]; rfl) (by decide) ?_
        refine lv_aload_n hx hb dX8_mark_113 rfl (lv_at hl 1 rfl) ?_
        refine lv_dup hx hb dX8_mark_114 rfl ?_
        refine va_get (D := D) (ci := 8) (v := .long mY) (C := RX8) (T := TX8) (N := 26) hx hb hts iX8 hown hK hP 0 rfl rfl 0 (by decide) q2 (fun _ h9 => h9) rfl dX8_mark_115 ?_
        refine lv_ldc2 (v := 1011) hx hb hown q6 dX8_mark_118 ?_
        refine lv_ladd hx hb dX8_mark_121 ?_
        obtain ⟨x7, ex7, hf⟩ := kv_lt_e hf
        refine vv_naml ex7 ?_
        refine va_put (D := D) (ci := 8) (v := .long x7) (ty := .long) (C := RX8) (T := TX8) (N := 26) hx hb hts iX8 tyX8 tyX8_ok nmX8 hown hK hP hD hS 0 rfl rfl 0 (by decide) q2 (fun _ h9 => h9) rfl (tyX8_ok 0 (by decide)) rfl rfl (Nat.le_of_ble_eq_true rfl) dX8_mark_122 (fun H locs hP hD hS => ?_)
        have hP : va_P D vwCl (w_MD C aZ mZ x7) H := hP
        have hD : va_D A (w_MD C aZ mZ x7) := hD
        refine lv_iconst (v := 2) hx hb dX8_mark_125 (by decide) ?_
        refine lv_iload_n hx hb dX8_mark_126 rfl (lv_at hl 0 rfl) ?_
        refine lv_imul hx hb dX8_mark_127 ?_
        refine lv_aload_n hx hb dX8_mark_128 rfl (lv_at hl 1 rfl) ?_
        refine va_get (D := D) (ci := 8) (v := .ref (aZ 4)) (C := RX8) (T := TX8) (N := 26) hx hb hts iX8 hown hK hP 0 rfl rfl 5 (by decide) q7 (fun _ h9 => h9) rfl dX8_mark_129 ?_
        refine lv_iload_n hx hb dX8_mark_132 rfl (lv_at hl 3 rfl) ?_
        obtain ⟨h9, hf⟩ := kv_ix_e hf
        refine va_iald hx hb hK hP 4 1 rfl rfl h9 dX8_mark_133 ?_
        refine lv_iadd hx hb dX8_mark_134 ?_
        exact hret _ _ _ _ _ _ hf rfl hP hD hS dX8_mark_135
      have hf := kv_f c3 hf
      by_cases c4 : p0 = 4
      · have hf := kv_t c4 hf
        refine lv_tableIn (off := 106) (tgt := 136) hx hb dX8_mark_30 (by rw [c4]; decide) (by rw [c4]; decide) (by rw [c4]; rfl) (by decide) ?_
        refine lv_aload_n hx hb dX8_mark_136 rfl (lv_at hl 1 rfl) ?_
        refine lv_dup hx hb dX8_mark_137 rfl ?_
        refine va_get (D := D) (ci := 8) (v := .long mY) (C := RX8) (T := TX8) (N := 26) hx hb hts iX8 hown hK hP 0 rfl rfl 0 (by decide) q2 (fun _ h9 => h9) rfl dX8_mark_138 ?_
        refine lv_ldc2 (v := 10101) hx hb hown q8 dX8_mark_141 ?_
        refine lv_ladd hx hb dX8_mark_144 ?_
        obtain ⟨x8, ex8, hf⟩ := kv_lt_e hf
        refine vv_naml ex8 ?_
        refine va_put (D := D) (ci := 8) (v := .long x8) (ty := .long) (C := RX8) (T := TX8) (N := 26) hx hb hts iX8 tyX8 tyX8_ok nmX8 hown hK hP hD hS 0 rfl rfl 0 (by decide) q2 (fun _ h9 => h9) rfl (tyX8_ok 0 (by decide)) rfl rfl (Nat.le_of_ble_eq_true rfl) dX8_mark_145 (fun H locs hP hD hS => ?_)
        have hP : va_P D vwCl (w_MD C aZ mZ x8) H := hP
        have hD : va_D A (w_MD C aZ mZ x8) := hD
        refine lv_iload_n hx hb dX8_mark_148 rfl (lv_at hl 0 rfl) ?_
        refine lv_aload_n hx hb dX8_mark_149 rfl (lv_at hl 1 rfl) ?_
        refine va_get (D := D) (ci := 8) (v := .ref (aZ 5)) (C := RX8) (T := TX8) (N := 26) hx hb hts iX8 hown hK hP 0 rfl rfl 6 (by decide) q5 (fun _ h9 => h9) rfl dX8_mark_150 ?_
        refine lv_iload_n hx hb dX8_mark_153 rfl (lv_at hl 3 rfl) ?_
        obtain ⟨h9, hf⟩ := kv_ix_e hf
        refine va_iald hx hb hK hP 5 1 rfl rfl h9 dX8_mark_154 ?_
        refine lv_isub hx hb dX8_mark_155 ?_
        refine lv_aload_n hx hb dX8_mark_156 rfl (lv_at hl 1 rfl) ?_
        refine va_get (D := D) (ci := 8) (v := .ref (aZ 11)) (C := RX8) (T := TX8) (N := 26) hx hb hts iX8 hown hK hP 0 rfl rfl 17 (by decide) q1 (fun _ h9 => h9) rfl dX8_mark_157 ?_
        refine lv_bipush (v := 8) hx hb dX8_mark_160 (by decide) ?_
        refine lv_iload_n hx hb dX8_mark_162 rfl (lv_at hl 3 rfl) ?_
        refine lv_iadd hx hb dX8_mark_163 ?_
        obtain ⟨h9, hf⟩ := kv_ix_e hf
        refine va_iald hx hb hK hP 11 1 rfl rfl h9 dX8_mark_164 ?_
        refine lv_iadd hx hb dX8_mark_165 ?_
        exact hret _ _ _ _ _ _ hf rfl hP hD hS dX8_mark_166
      have hf := kv_f c4 hf
      refine lv_tableOut (tgt := 167) hx hb dX8_mark_30 (by have a0 : p0.toInt ≠ 0 := kv_ti c0; have a1 : p0.toInt ≠ 1 := kv_ti c1; have a2 : p0.toInt ≠ 2 := kv_ti c2; have a3 : p0.toInt ≠ 3 := kv_ti c3; have a4 : p0.toInt ≠ 4 := kv_ti c4; omega) (by decide) ?_
      refine lv_aload_n hx hb dX8_mark_167 rfl (lv_at hl 1 rfl) ?_
      refine lv_dup hx hb dX8_mark_168 rfl ?_
      refine va_get (D := D) (ci := 8) (v := .long mY) (C := RX8) (T := TX8) (N := 26) hx hb hts iX8 hown hK hP 0 rfl rfl 0 (by decide) q2 (fun _ h9 => h9) rfl dX8_mark_169 ?_
      refine lv_ldc2 (v := 100001) hx hb hown q9 dX8_mark_172 ?_
      refine lv_ladd hx hb dX8_mark_175 ?_
      obtain ⟨x9, ex9, hf⟩ := kv_lt_e hf
      refine vv_naml ex9 ?_
      refine va_put (D := D) (ci := 8) (v := .long x9) (ty := .long) (C := RX8) (T := TX8) (N := 26) hx hb hts iX8 tyX8 tyX8_ok nmX8 hown hK hP hD hS 0 rfl rfl 0 (by decide) q2 (fun _ h9 => h9) rfl (tyX8_ok 0 (by decide)) rfl rfl (Nat.le_of_ble_eq_true rfl) dX8_mark_176 (fun H locs hP hD hS => ?_)
      have hP : va_P D vwCl (w_MD C aZ mZ x9) H := hP
      have hD : va_D A (w_MD C aZ mZ x9) := hD
      refine lv_iload_n hx hb dX8_mark_179 rfl (lv_at hl 0 rfl) ?_
      refine lv_aload_n hx hb dX8_mark_180 rfl (lv_at hl 1 rfl) ?_
      refine va_get (D := D) (ci := 8) (v := .ref (aZ 11)) (C := RX8) (T := TX8) (N := 26) hx hb hts iX8 hown hK hP 0 rfl rfl 17 (by decide) q1 (fun _ h9 => h9) rfl dX8_mark_181 ?_
      refine lv_iconst (v := 0) hx hb dX8_mark_184 (by decide) ?_
      obtain ⟨h9, hf⟩ := kv_ix_e hf
      refine va_iald hx hb hK hP 11 1 rfl rfl h9 dX8_mark_185 ?_
      refine lv_isub hx hb dX8_mark_186 ?_
      exact hret _ _ _ _ _ _ hf rfl hP hD hS dX8_mark_187
    · have hf := kv_t hc hf
      refine lv_ldc (v := (-1000000)) hx hb hown q0 dX8_mark_17 ?_
      exact hret _ _ _ _ _ _ hf rfl hP hD hS dX8_mark_19
abbrev rX8_now : Room := { frames := 1, cells := 0, slots := 0, locals := 23 }
set_option maxHeartbeats 4000000 in
set_option maxRecDepth 100000 in
theorem ccX8_now (l : Launch) (D : va_G) (C : Nat → ClassId) (sz : Nat) (aZ : Nat → Nat) (mZ : Mm) (mY : Int64) (p0 : Int32) (rr : Int32) (hf : ffX8_now p0 mZ = some (rr)) : Met l yX8_now wsX8_now rX8_now (va_Pc [.ref (aZ 0), .int p0] (vv_pre D C (w_MD C aZ mZ mY) sz)) (vv_QI D C (w_MD C aZ mZ mY) (w_MD C aZ mZ mY) sz rr) 0 0 (va_A (w_MD C aZ mZ mY) sz) := by
  unfold ffX8_now at hf
  refine vv_metI (cc := cX8_now) (maxL := 6) (ty := .int) (by decide) rfl (Nat.le_of_ble_eq_true rfl) ?_
  intro p e s m args below meth c A Q H locs ls hx hb hml hown hts hA hK hN hP hD hS hl hret
  have hown : s.vm.findClass RX8 = some m.cls := hown
  have hl : lv_has ls 6 [(0, .ref (aZ 0)), (1, .int p0)] := hl
  have hret : ∀ (v0 : Int32) (H : Heap) (locs : List Loc) (ls : Array Slot) (pc : Nat), some (v0) = some (rr) → narrow .int (.int v0) = .int v0 → va_P D vwCl (w_MD C aZ mZ mY) H → va_D A (w_MD C aZ mZ mY) → va_S A s.heap H locs → decode cX8_now pc = .ok (.ireturn, 1) → W p l e rX8_now s m args below meth c H locs 0 0 Q (F0 m pc ls [.int v0]) := by
    intro v0 H locs ls pc h0 hn h1 h2 h3 h4
    cases h0
    exact hret H locs ls pc hn h1 h2 h3 h4
  have q0 := hts (.fieldLink RX8 13 "ForeRainModel" "pieces" "[I") (by decide +kernel)
  have q1 := hts (.fieldLink RX8 41 "ForeRainModel" "now" "[I") (by decide +kernel)
  have iX8 : ∀ w ∈ u_ws RX8 TX8 26, w ∈ wsX8_now := by decide +kernel
  refine lv_iconst (v := 0) hx hb dX8_now_0 (by decide) ?_
  refine lv_istore_n (lv' := [(2, .int 0), (0, .ref (aZ 0)), (1, .int p0)]) hx hb dX8_now_1 rfl hl (by decide) rfl (fun ls hl => ?_)
  refine lv_iconst (v := 0) hx hb dX8_now_2 (by decide) ?_
  refine lv_istore_n (lv' := [(3, .int 0), (2, .int 0), (0, .ref (aZ 0)), (1, .int p0)]) hx hb dX8_now_3 rfl hl (by decide) rfl (fun ls hl => ?_)
  refine lv_iconst (v := 0) hx hb dX8_now_4 (by decide) ?_
  refine lv_istore (lv' := [(4, .int 0), (3, .int 0), (2, .int 0), (0, .ref (aZ 0)), (1, .int p0)]) hx hb dX8_now_5 hl (by decide) rfl (fun ls hl => ?_)
  refine lv_iconst (v := 0) hx hb dX8_now_7 (by decide) ?_
  refine lv_istore (lv' := [(5, .int 0), (4, .int 0), (3, .int 0), (2, .int 0), (0, .ref (aZ 0)), (1, .int p0)]) hx hb dX8_now_8 hl (by decide) rfl (fun ls hl => ?_)
  have L10 : ∀ (K10 : Int32 → Int32 → Int32 → Int32 → Option (Int32)), (∀ (x1 : Int32) (x2 : Int32) (x3 : Int32) (x4 : Int32) (H : Heap) (locs : List Loc) (ls : Array Slot), va_P D vwCl (w_MD C aZ mZ mY) H → va_D A (w_MD C aZ mZ mY) → va_S A s.heap H locs → lv_has ls 6 [(5, .int x1), (4, .int x2), (3, .int x3), (2, .int x4), (0, .ref (aZ 0)), (1, .int p0)] → K10 x1 x2 x3 x4 = some (rr) → W p l e rX8_now s m args below meth c H locs 0 0 Q (F0 m 85 ls [])) → ∀ (n : Nat) (x1 : Int32) (x2 : Int32) (x3 : Int32) (x4 : Int32) (H : Heap) (locs : List Loc) (ls : Array Slot), va_P D vwCl (w_MD C aZ mZ mY) H → va_D A (w_MD C aZ mZ mY) → va_S A s.heap H locs → lv_has ls 6 [(5, .int x1), (4, .int x2), (3, .int x3), (2, .int x4), (0, .ref (aZ 0)), (1, .int p0)] → ffX8_now_L10 mZ K10 n x1 x2 x3 x4 = some (rr) → W p l e rX8_now s m args below meth c H locs 0 0 Q (F0 m 10 ls []) := by
    intro K10 hK9 n
    induction n with
    | zero => intro x1 x2 x3 x4 H locs ls hP hD hS hl hf; exact kv_no hf
    | succ n ih =>
      intro x1 x2 x3 x4 H locs ls hP hD hS hl hf
      rw [ffX8_now_L10_s] at hf
      refine lv_iload hx hb dX8_now_10 (lv_at hl 0 rfl) ?_
      refine lv_aload_n hx hb dX8_now_12 rfl (lv_at hl 4 rfl) ?_
      refine va_get (D := D) (ci := 8) (v := .ref (aZ 2)) (C := RX8) (T := TX8) (N := 26) hx hb hts iX8 hown hK hP 0 rfl rfl 3 (by decide) q0 (fun _ h9 => h9) rfl dX8_now_13 ?_
      refine lv_iconst (v := 0) hx hb dX8_now_16 (by decide) ?_
      obtain ⟨h9, hf⟩ := kv_ix_e hf
      refine va_iald hx hb hK hP 2 1 rfl rfl h9 dX8_now_17 ?_
      refine lv_icmp_ge (tgt := 85) hx hb dX8_now_18 (by decide) (fun hc => ?_) (fun hc => ?_)
      · have hf := kv_t hc hf
        exact hK9 _ _ _ _ _ _ _ hP hD hS (lv_sub hl [0, 1, 2, 3, 4, 5] rfl) hf
      · have hf := kv_f hc hf
        refine lv_iload_n hx hb dX8_now_21 rfl (lv_at hl 3 rfl) ?_
        refine lv_aload_n hx hb dX8_now_22 rfl (lv_at hl 4 rfl) ?_
        refine va_get (D := D) (ci := 8) (v := .ref (aZ 11)) (C := RX8) (T := TX8) (N := 26) hx hb hts iX8 hown hK hP 0 rfl rfl 17 (by decide) q1 (fun _ h9 => h9) rfl dX8_now_23 ?_
        refine lv_bipush (v := 20) hx hb dX8_now_26 (by decide) ?_
        refine lv_iload hx hb dX8_now_28 (lv_at hl 0 rfl) ?_
        refine lv_iadd hx hb dX8_now_30 ?_
        obtain ⟨h9, hf⟩ := kv_ix_e hf
        refine va_iald hx hb hK hP 11 1 rfl rfl h9 dX8_now_31 ?_
        refine lv_bipush (v := 8) hx hb dX8_now_32 (by decide) ?_
        obtain ⟨k42_5, ek42_5, hf⟩ := kv_lt_e hf
        have J42_5 : ∀ (x6 : Int32) (H : Heap) (locs : List Loc) (ls : Array Slot), va_P D vwCl (w_MD C aZ mZ mY) H → va_D A (w_MD C aZ mZ mY) → va_S A s.heap H locs → lv_has ls 6 [(5, .int x1), (4, .int x2), (3, .int x3), (0, .ref (aZ 0)), (1, .int p0)] → k42_5 x6 = some (rr) → W p l e rX8_now s m args below meth c H locs 0 0 Q (F0 m 42 ls [.int x6, .int x4]) := by
          intro x6 H locs ls hP hD hS hl hf
          rw [ek42_5] at hf
          refine lv_iadd hx hb dX8_now_42 ?_
          obtain ⟨x7, ex7, hf⟩ := kv_lt_e hf
          refine vv_nami ex7 ?_
          refine lv_istore_n (lv' := [(2, .int x7), (5, .int x1), (4, .int x2), (3, .int x3), (0, .ref (aZ 0)), (1, .int p0)]) hx hb dX8_now_43 rfl hl (by decide) rfl (fun ls hl => ?_)
          refine lv_iload_n hx hb dX8_now_44 rfl (lv_at hl 3 rfl) ?_
          refine lv_aload_n hx hb dX8_now_45 rfl (lv_at hl 4 rfl) ?_
          refine va_get (D := D) (ci := 8) (v := .ref (aZ 11)) (C := RX8) (T := TX8) (N := 26) hx hb hts iX8 hown hK hP 0 rfl rfl 17 (by decide) q1 (fun _ h9 => h9) rfl dX8_now_46 ?_
          refine lv_iconst (v := 2) hx hb dX8_now_49 (by decide) ?_
          refine lv_iload hx hb dX8_now_50 (lv_at hl 1 rfl) ?_
          refine lv_iadd hx hb dX8_now_52 ?_
          obtain ⟨h9, hf⟩ := kv_ix_e hf
          refine va_iald hx hb hK hP 11 1 rfl rfl h9 dX8_now_53 ?_
          obtain ⟨k62_8, ek62_8, hf⟩ := kv_lt_e hf
          have J62_8 : ∀ (x9 : Int32) (H : Heap) (locs : List Loc) (ls : Array Slot), va_P D vwCl (w_MD C aZ mZ mY) H → va_D A (w_MD C aZ mZ mY) → va_S A s.heap H locs → lv_has ls 6 [(2, .int x7), (5, .int x1), (4, .int x2), (0, .ref (aZ 0)), (1, .int p0)] → k62_8 x9 = some (rr) → W p l e rX8_now s m args below meth c H locs 0 0 Q (F0 m 62 ls [.int x9, .int x3]) := by
            intro x9 H locs ls hP hD hS hl hf
            rw [ek62_8] at hf
            refine lv_iadd hx hb dX8_now_62 ?_
            obtain ⟨x10, ex10, hf⟩ := kv_lt_e hf
            refine vv_nami ex10 ?_
            refine lv_istore_n (lv' := [(3, .int x10), (2, .int x7), (5, .int x1), (4, .int x2), (0, .ref (aZ 0)), (1, .int p0)]) hx hb dX8_now_63 rfl hl (by decide) rfl (fun ls hl => ?_)
            refine lv_iload hx hb dX8_now_64 (lv_at hl 3 rfl) ?_
            refine lv_aload_n hx hb dX8_now_66 rfl (lv_at hl 4 rfl) ?_
            refine va_get (D := D) (ci := 8) (v := .ref (aZ 11)) (C := RX8) (T := TX8) (N := 26) hx hb hts iX8 hown hK hP 0 rfl rfl 17 (by decide) q1 (fun _ h9 => h9) rfl dX8_now_67 ?_
            refine lv_bipush (v := 14) hx hb dX8_now_70 (by decide) ?_
            refine lv_iload hx hb dX8_now_72 (lv_at hl 2 rfl) ?_
            refine lv_iadd hx hb dX8_now_74 ?_
            obtain ⟨h9, hf⟩ := kv_ix_e hf
            refine va_iald hx hb hK hP 11 1 rfl rfl h9 dX8_now_75 ?_
            refine lv_iadd hx hb dX8_now_76 ?_
            obtain ⟨x11, ex11, hf⟩ := kv_lt_e hf
            refine vv_nami ex11 ?_
            refine lv_istore (lv' := [(4, .int x11), (3, .int x10), (2, .int x7), (5, .int x1), (0, .ref (aZ 0)), (1, .int p0)]) hx hb dX8_now_77 hl (by decide) rfl (fun ls hl => ?_)
            obtain ⟨x12, ex12, hf⟩ := kv_lt_e hf
            refine lv_iinc (v := x12) (lv' := [(5, .int x12), (4, .int x11), (3, .int x10), (2, .int x7), (0, .ref (aZ 0)), (1, .int p0)]) hx hb dX8_now_79 hl (k := 3) rfl (by rw [ex12]; rfl) (by decide) rfl (fun ls hl => ?_)
            refine lv_goto (tgt := 10) hx hb dX8_now_82 (by decide) ?_
            exact ih _ _ _ _ _ _ _ hP hD hS (lv_sub hl [0, 1, 2, 3, 4, 5] rfl) hf
          refine lv_if_ne (tgt := 61) hx hb dX8_now_54 (by decide) (fun hc => ?_) (fun hc => ?_)
          · have hf := kv_f hc hf
            refine lv_iconst (v := 0) hx hb dX8_now_61 (by decide) ?_
            exact J62_8 _ _ _ _ hP hD hS (lv_sub hl [0, 1, 2, 4, 5] rfl) hf
          · have hf := kv_t hc hf
            refine lv_iconst (v := 1) hx hb dX8_now_57 (by decide) ?_
            refine lv_goto (tgt := 62) hx hb dX8_now_58 (by decide) ?_
            exact J62_8 _ _ _ _ hP hD hS (lv_sub hl [0, 1, 2, 4, 5] rfl) hf
        refine lv_icmp_ge (tgt := 41) hx hb dX8_now_34 (by decide) (fun hc => ?_) (fun hc => ?_)
        · have hf := kv_t hc hf
          refine lv_iconst (v := 0) hx hb dX8_now_41 (by decide) ?_
          exact J42_5 _ _ _ _ hP hD hS (lv_sub hl [0, 1, 2, 4, 5] rfl) hf
        · have hf := kv_f hc hf
          refine lv_iconst (v := 1) hx hb dX8_now_37 (by decide) ?_
          refine lv_goto (tgt := 42) hx hb dX8_now_38 (by decide) ?_
          exact J42_5 _ _ _ _ hP hD hS (lv_sub hl [0, 1, 2, 4, 5] rfl) hf
  refine L10 _ (fun x13 x14 x15 x16 H locs ls hP hD hS hl hf => ?_) _ _ _ _ _ _ _ _ hP hD hS (lv_sub hl [0, 1, 2, 3, 4, 5] rfl) hf
  refine lv_iload_n hx hb dX8_now_85 rfl (lv_at hl 5 rfl) ?_
  by_cases c0 : p0 = 0
  · have hf := kv_t c0 hf
    refine lv_tableIn (off := 38) (tgt := 124) hx hb dX8_now_86 (by rw [c0]; decide) (by rw [c0]; decide) (by rw [c0]; rfl) (by decide) ?_
    refine lv_aload_n hx hb dX8_now_124 rfl (lv_at hl 4 rfl) ?_
    refine va_get (D := D) (ci := 8) (v := .ref (aZ 11)) (C := RX8) (T := TX8) (N := 26) hx hb hts iX8 hown hK hP 0 rfl rfl 17 (by decide) q1 (fun _ h9 => h9) rfl dX8_now_125 ?_
    refine lv_iconst (v := 0) hx hb dX8_now_128 (by decide) ?_
    obtain ⟨h9, hf⟩ := kv_ix_e hf
    refine va_iald hx hb hK hP 11 1 rfl rfl h9 dX8_now_129 ?_
    exact hret _ _ _ _ _ hf rfl hP hD hS dX8_now_130
  have hf := kv_f c0 hf
  by_cases c1 : p0 = 1
  · have hf := kv_t c1 hf
    refine lv_tableIn (off := 45) (tgt := 131) hx hb dX8_now_86 (by rw [c1]; decide) (by rw [c1]; decide) (by rw [c1]; rfl) (by decide) ?_
    refine lv_aload_n hx hb dX8_now_131 rfl (lv_at hl 4 rfl) ?_
    refine va_get (D := D) (ci := 8) (v := .ref (aZ 11)) (C := RX8) (T := TX8) (N := 26) hx hb hts iX8 hown hK hP 0 rfl rfl 17 (by decide) q1 (fun _ h9 => h9) rfl dX8_now_132 ?_
    refine lv_iconst (v := 1) hx hb dX8_now_135 (by decide) ?_
    obtain ⟨h9, hf⟩ := kv_ix_e hf
    refine va_iald hx hb hK hP 11 1 rfl rfl h9 dX8_now_136 ?_
    exact hret _ _ _ _ _ hf rfl hP hD hS dX8_now_137
  have hf := kv_f c1 hf
  by_cases c2 : p0 = 2
  · have hf := kv_t c2 hf
    refine lv_tableIn (off := 52) (tgt := 138) hx hb dX8_now_86 (by rw [c2]; decide) (by rw [c2]; decide) (by rw [c2]; rfl) (by decide) ?_
    refine lv_aload_n hx hb dX8_now_138 rfl (lv_at hl 4 rfl) ?_
    refine lv_iconst (v := 0) hx hb dX8_now_139 (by decide) ?_
    obtain ⟨r17, hc, hf⟩ := kv_b1_e hf
    have hs9 : vv_Sub D H A (w_MD C aZ mZ mY) (w_MD C aZ mZ mY) (w_MD C aZ mZ mY) := vv_Sub.same (w_MD C aZ mZ mY) hP hD hS hA
    refine vv_goi (wn := (w_MD C aZ mZ mY)) hK hs9 hS (vv_rV (As := [.int 0]) (rest := []) hx hb hml hown hts hK hN hS hs9 (ccX8_allWater l D C H.size aZ mZ mY (0 : Int32) r17 hc) (cwV 1 hts gX8_now_X8_allWater rfl rfl rfl (by decide +kernel) ⟨(Nat.le_of_ble_eq_true rfl), (Nat.le_of_ble_eq_true rfl)⟩) (va_recv hK hP (ci := 8) (q0 := 0) rfl rfl) rfl hl.1 rfl (Nat.le_of_ble_eq_true rfl) dX8_now_140 ⟨Nat.zero_le _, Nat.zero_le _⟩) (fun H locs hP hD hS => ?_)
    exact hret _ _ _ _ _ hf rfl hP hD hS dX8_now_143
  have hf := kv_f c2 hf
  by_cases c3 : p0 = 3
  · have hf := kv_t c3 hf
    refine lv_tableIn (off := 58) (tgt := 144) hx hb dX8_now_86 (by rw [c3]; decide) (by rw [c3]; decide) (by rw [c3]; rfl) (by decide) ?_
    refine lv_iload_n hx hb dX8_now_144 rfl (lv_at hl 3 rfl) ?_
    exact hret _ _ _ _ _ hf rfl hP hD hS dX8_now_145
  have hf := kv_f c3 hf
  by_cases c4 : p0 = 4
  · have hf := kv_t c4 hf
    refine lv_tableIn (off := 60) (tgt := 146) hx hb dX8_now_86 (by rw [c4]; decide) (by rw [c4]; decide) (by rw [c4]; rfl) (by decide) ?_
    refine lv_iload_n hx hb dX8_now_146 rfl (lv_at hl 2 rfl) ?_
    exact hret _ _ _ _ _ hf rfl hP hD hS dX8_now_147
  have hf := kv_f c4 hf
  by_cases c5 : p0 = 5
  · have hf := kv_t c5 hf
    refine lv_tableIn (off := 62) (tgt := 148) hx hb dX8_now_86 (by rw [c5]; decide) (by rw [c5]; decide) (by rw [c5]; rfl) (by decide) ?_
    refine lv_iload hx hb dX8_now_148 (lv_at hl 1 rfl) ?_
    exact hret _ _ _ _ _ hf rfl hP hD hS dX8_now_150
  have hf := kv_f c5 hf
  refine lv_tableOut (tgt := 151) hx hb dX8_now_86 (by have a0 : p0.toInt ≠ 0 := kv_ti c0; have a1 : p0.toInt ≠ 1 := kv_ti c1; have a2 : p0.toInt ≠ 2 := kv_ti c2; have a3 : p0.toInt ≠ 3 := kv_ti c3; have a4 : p0.toInt ≠ 4 := kv_ti c4; have a5 : p0.toInt ≠ 5 := kv_ti c5; omega) (by decide) ?_
  refine lv_iconst (v := (-1)) hx hb dX8_now_151 (by decide) ?_
  exact hret _ _ _ _ _ hf rfl hP hD hS dX8_now_152
abbrev rX8_odds : Room := { frames := 2, cells := 0, slots := 0, locals := 51 }
set_option maxHeartbeats 4000000 in
set_option maxRecDepth 100000 in
theorem ccX8_odds (l : Launch) (D : va_G) (C : Nat → ClassId) (sz : Nat) (aZ : Nat → Nat) (mZ : Mm) (mY : Int64) (p0 : Int32) (p1 : Int32) (p2 : Int32) (rr : Int64) (oZ : Mm) (hf : ffX8_odds p0 p1 p2 mZ = some (rr, oZ)) : Met l yX8_odds wsX8_odds rX8_odds (va_Pc [.ref (aZ 0), .int p0, .int p1, .int p2] (vv_pre D C (w_MD C aZ mZ mY) sz)) (vv_QL D C (w_MD C aZ mZ mY) (w_MD C aZ oZ mY) sz rr) 0 0 (va_A (w_MD C aZ mZ mY) sz) := by
  unfold ffX8_odds at hf
  refine vv_metL (cc := cX8_odds) (maxL := 13) (by decide) rfl (Nat.le_of_ble_eq_true rfl) ?_
  intro p e s m args below meth c A Q H locs ls hx hb hml hown hts hA hK hN hP hD hS hl hret
  have hown : s.vm.findClass RX8 = some m.cls := hown
  have hl : lv_has ls 13 [(0, .ref (aZ 0)), (1, .int p0), (2, .int p1), (3, .int p2)] := hl
  have hret : ∀ (v0 : Int64) (v1 : Mm) (H : Heap) (locs : List Loc) (ls : Array Slot) (pc : Nat), some (v0, v1) = some (rr, oZ) → va_P D vwCl (w_MD C aZ v1 mY) H → va_D A (w_MD C aZ v1 mY) → va_S A s.heap H locs → decode cX8_odds pc = .ok (.lreturn, 1) → W p l e rX8_odds s m args below meth c H locs 0 0 Q (F0 m pc ls [.long v0]) := by
    intro v0 v1 H locs ls pc h0 h1 h2 h3 h4
    cases h0
    exact hret H locs ls pc h1 h2 h3 h4
  have q0 := hts (.constantLong RX8 162 (-1)) (by decide +kernel)
  have q1 := hts (.fieldLink RX8 41 "ForeRainModel" "now" "[I") (by decide +kernel)
  have q2 := hts (.constantLong RX8 164 (-2)) (by decide +kernel)
  have iX8 : ∀ w ∈ u_ws RX8 TX8 26, w ∈ wsX8_odds := by decide +kernel
  refine lv_iload_n hx hb dX8_odds_0 rfl (lv_at hl 2 rfl) ?_
  refine lv_iconst (v := 1) hx hb dX8_odds_1 (by decide) ?_
  refine lv_bipush (v := 9) hx hb dX8_odds_2 (by decide) ?_
  obtain ⟨r1, hc, hf⟩ := kv_b1_e hf
  have hs9 : vv_Sub D H A ([] : va_W) ([] : va_W) (w_MD C aZ mZ mY) := vv_Sub.none hP hD hS hA
  refine vv_goi (wn := (w_MD C aZ mZ mY)) hK hs9 hS (vv_rS (As := [.int p1, .int 1, .int 9]) (rest := []) hx hb hml hown hts hK hN hS hs9 (ccX8_in l D C H.size p1 (1 : Int32) (9 : Int32) r1 hc) (va_cwS 3 hts gX8_odds_X8_in rfl rfl rfl (by decide +kernel) ⟨(Nat.le_of_ble_eq_true rfl), (Nat.le_of_ble_eq_true rfl)⟩) rfl hl.1 rfl (Nat.le_of_ble_eq_true rfl) dX8_odds_4 ⟨Nat.zero_le _, Nat.zero_le _⟩) (fun H locs hP hD hS => ?_)
  refine lv_if_eq (tgt := 28) hx hb dX8_odds_7 (by decide) (fun hc => ?_) (fun hc => ?_)
  · have hf := kv_t hc hf
    refine lv_ldc2 (v := (-1)) hx hb hown q0 dX8_odds_28 ?_
    exact hret _ _ _ _ _ _ hf hP hD hS dX8_odds_31
  · have hf := kv_f hc hf
    refine lv_iload_n hx hb dX8_odds_10 rfl (lv_at hl 1 rfl) ?_
    refine lv_iconst (v := 0) hx hb dX8_odds_11 (by decide) ?_
    refine lv_iload_n hx hb dX8_odds_12 rfl (lv_at hl 2 rfl) ?_
    obtain ⟨r2, hc, hf⟩ := kv_b1_e hf
    have hs9 : vv_Sub D H A ([] : va_W) ([] : va_W) (w_MD C aZ mZ mY) := vv_Sub.none hP hD hS hA
    refine vv_goi (wn := (w_MD C aZ mZ mY)) hK hs9 hS (vv_rS (As := [.int p0, .int 0, .int p1]) (rest := []) hx hb hml hown hts hK hN hS hs9 (ccX8_in l D C H.size p0 (0 : Int32) p1 r2 hc) (va_cwS 3 hts gX8_odds_X8_in rfl rfl rfl (by decide +kernel) ⟨(Nat.le_of_ble_eq_true rfl), (Nat.le_of_ble_eq_true rfl)⟩) rfl hl.1 rfl (Nat.le_of_ble_eq_true rfl) dX8_odds_13 ⟨Nat.zero_le _, Nat.zero_le _⟩) (fun H locs hP hD hS => ?_)
    refine lv_if_eq (tgt := 28) hx hb dX8_odds_16 (by decide) (fun hc => ?_) (fun hc => ?_)
    · have hf := kv_t hc hf
      refine lv_ldc2 (v := (-1)) hx hb hown q0 dX8_odds_28 ?_
      exact hret _ _ _ _ _ _ hf hP hD hS dX8_odds_31
    · have hf := kv_f hc hf
      refine lv_iload_n hx hb dX8_odds_19 rfl (lv_at hl 3 rfl) ?_
      refine lv_iconst (v := 0) hx hb dX8_odds_20 (by decide) ?_
      refine lv_iconst (v := 1) hx hb dX8_odds_21 (by decide) ?_
      obtain ⟨r3, hc, hf⟩ := kv_b1_e hf
      have hs9 : vv_Sub D H A ([] : va_W) ([] : va_W) (w_MD C aZ mZ mY) := vv_Sub.none hP hD hS hA
      refine vv_goi (wn := (w_MD C aZ mZ mY)) hK hs9 hS (vv_rS (As := [.int p2, .int 0, .int 1]) (rest := []) hx hb hml hown hts hK hN hS hs9 (ccX8_in l D C H.size p2 (0 : Int32) (1 : Int32) r3 hc) (va_cwS 3 hts gX8_odds_X8_in rfl rfl rfl (by decide +kernel) ⟨(Nat.le_of_ble_eq_true rfl), (Nat.le_of_ble_eq_true rfl)⟩) rfl hl.1 rfl (Nat.le_of_ble_eq_true rfl) dX8_odds_22 ⟨Nat.zero_le _, Nat.zero_le _⟩) (fun H locs hP hD hS => ?_)
      refine lv_if_ne (tgt := 32) hx hb dX8_odds_25 (by decide) (fun hc => ?_) (fun hc => ?_)
      · have hf := kv_f hc hf
        refine lv_aload_n hx hb dX8_odds_32 rfl (lv_at hl 0 rfl) ?_
        obtain ⟨r4, hc, hf⟩ := kv_b1_e hf
        have hs9 : vv_Sub D H A (w_MD C aZ mZ mY) (w_MD C aZ mZ mY) (w_MD C aZ mZ mY) := vv_Sub.same (w_MD C aZ mZ mY) hP hD hS hA
        refine vv_goi (wn := (w_MD C aZ mZ mY)) hK hs9 hS (vv_rV (As := []) (rest := []) hx hb hml hown hts hK hN hS hs9 (ccX8_hanging l D C H.size aZ mZ mY r4 hc) (cwV 0 hts gX8_odds_X8_hanging rfl rfl rfl (by decide +kernel) ⟨(Nat.le_of_ble_eq_true rfl), (Nat.le_of_ble_eq_true rfl)⟩) (va_recv hK hP (ci := 8) (q0 := 0) rfl rfl) rfl hl.1 rfl (Nat.le_of_ble_eq_true rfl) dX8_odds_33 ⟨Nat.zero_le _, Nat.zero_le _⟩) (fun H locs hP hD hS => ?_)
        refine lv_istore (lv' := [(4, .int r4), (0, .ref (aZ 0)), (1, .int p0), (2, .int p1), (3, .int p2)]) hx hb dX8_odds_36 hl (by decide) rfl (fun ls hl => ?_)
        refine lv_iload hx hb dX8_odds_38 (lv_at hl 0 rfl) ?_
        refine lv_if_ne (tgt := 47) hx hb dX8_odds_40 (by decide) (fun hc => ?_) (fun hc => ?_)
        · have hf := kv_f hc hf
          refine lv_aload_n hx hb dX8_odds_47 rfl (lv_at hl 1 rfl) ?_
          refine lv_iconst (v := 0) hx hb dX8_odds_48 (by decide) ?_
          refine lv_bipush (v := 26) hx hb dX8_odds_49 (by decide) ?_
          obtain ⟨mZ5, hc, hf⟩ := kv_b1_e hf
          have hs9 : vv_Sub D H A (w_MD C aZ mZ mY) (w_MD C aZ mZ5 mY) (w_MD C aZ mZ5 mY) := vv_Sub.same (w_MD C aZ mZ5 mY) hP hD hS hA
          refine vv_gov (wn := (w_MD C aZ mZ5 mY)) hK hs9 hS (vv_rV (As := [.int 0, .int 26]) (rest := []) hx hb hml hown hts hK hN hS hs9 (ccX8_copy l D C H.size aZ mZ mY (0 : Int32) (26 : Int32) mZ5 hc) (cwV 2 hts gX8_odds_X8_copy rfl rfl rfl (by decide +kernel) ⟨(Nat.le_of_ble_eq_true rfl), (Nat.le_of_ble_eq_true rfl)⟩) (va_recv hK hP (ci := 8) (q0 := 0) rfl rfl) rfl hl.1 rfl (Nat.le_of_ble_eq_true rfl) dX8_odds_51 ⟨Nat.zero_le _, Nat.zero_le _⟩) (fun H locs hP hD hS => ?_)
          refine lv_iconst (v := 0) hx hb dX8_odds_54 (by decide) ?_
          refine lv_istore (lv' := [(5, .int 0), (4, .int r4), (0, .ref (aZ 0)), (1, .int p0), (2, .int p1), (3, .int p2)]) hx hb dX8_odds_55 hl (by decide) rfl (fun ls hl => ?_)
          refine lv_iconst (v := 0) hx hb dX8_odds_57 (by decide) ?_
          refine lv_istore (lv' := [(6, .int 0), (5, .int 0), (4, .int r4), (0, .ref (aZ 0)), (1, .int p0), (2, .int p1), (3, .int p2)]) hx hb dX8_odds_58 hl (by decide) rfl (fun ls hl => ?_)
          have L60 : ∀ (K60 : Int32 → Int32 → Mm → Option (Int64 × Mm)), (∀ (x6 : Int32) (x7 : Int32) (mZ8 : Mm) (H : Heap) (locs : List Loc) (ls : Array Slot), va_P D vwCl (w_MD C aZ mZ8 mY) H → va_D A (w_MD C aZ mZ8 mY) → va_S A s.heap H locs → lv_has ls 13 [(6, .int x6), (5, .int x7), (4, .int r4), (0, .ref (aZ 0)), (1, .int p0), (2, .int p1), (3, .int p2)] → K60 x6 x7 mZ8 = some (rr, oZ) → W p l e rX8_odds s m args below meth c H locs 0 0 Q (F0 m 117 ls [])) → ∀ (n : Nat) (x6 : Int32) (x7 : Int32) (mZ8 : Mm) (H : Heap) (locs : List Loc) (ls : Array Slot), va_P D vwCl (w_MD C aZ mZ8 mY) H → va_D A (w_MD C aZ mZ8 mY) → va_S A s.heap H locs → lv_has ls 13 [(6, .int x6), (5, .int x7), (4, .int r4), (0, .ref (aZ 0)), (1, .int p0), (2, .int p1), (3, .int p2)] → ffX8_odds_L60 r4 K60 n x6 x7 mZ8 = some (rr, oZ) → W p l e rX8_odds s m args below meth c H locs 0 0 Q (F0 m 60 ls []) := by
            intro K60 hK9 n
            induction n with
            | zero => intro x6 x7 mZ8 H locs ls hP hD hS hl hf; exact kv_no hf
            | succ n ih =>
              intro x6 x7 mZ8 H locs ls hP hD hS hl hf
              rw [ffX8_odds_L60_s] at hf
              refine lv_iload hx hb dX8_odds_60 (lv_at hl 1 rfl) ?_
              refine lv_bipush (v := 99) hx hb dX8_odds_62 (by decide) ?_
              refine lv_icmp_ge (tgt := 117) hx hb dX8_odds_64 (by decide) (fun hc => ?_) (fun hc => ?_)
              · have hf := kv_t hc hf
                exact hK9 _ _ _ _ _ _ hP hD hS (lv_sub hl [0, 1, 2, 3, 4, 5, 6] rfl) hf
              · have hf := kv_f hc hf
                refine lv_aload_n hx hb dX8_odds_67 rfl (lv_at hl 3 rfl) ?_
                refine lv_bipush (v := 26) hx hb dX8_odds_68 (by decide) ?_
                refine lv_iload hx hb dX8_odds_70 (lv_at hl 2 rfl) ?_
                obtain ⟨r9, hc, hf⟩ := kv_b1_e hf
                have hs9 : vv_Sub D H A (w_MD C aZ mZ8 mY) (w_MD C aZ mZ8 mY) (w_MD C aZ mZ8 mY) := vv_Sub.same (w_MD C aZ mZ8 mY) hP hD hS hA
                refine vv_goi (wn := (w_MD C aZ mZ8 mY)) hK hs9 hS (vv_rV (As := [.int 26, .int r4]) (rest := []) hx hb hml hown hts hK hN hS hs9 (ccX8_isDry l D C H.size aZ mZ8 mY (26 : Int32) r4 r9 hc) (cwV 2 hts gX8_odds_X8_isDry rfl rfl rfl (by decide +kernel) ⟨(Nat.le_of_ble_eq_true rfl), (Nat.le_of_ble_eq_true rfl)⟩) (va_recv hK hP (ci := 8) (q0 := 0) rfl rfl) rfl hl.1 rfl (Nat.le_of_ble_eq_true rfl) dX8_odds_72 ⟨Nat.zero_le _, Nat.zero_le _⟩) (fun H locs hP hD hS => ?_)
                refine lv_if_ne (tgt := 117) hx hb dX8_odds_75 (by decide) (fun hc => ?_) (fun hc => ?_)
                · have hf := kv_f hc hf
                  exact hK9 _ _ _ _ _ _ hP hD hS (lv_sub hl [0, 1, 2, 3, 4, 5, 6] rfl) hf
                · have hf := kv_t hc hf
                  refine lv_iload hx hb dX8_odds_78 (lv_at hl 0 rfl) ?_
                  obtain ⟨k102_10, ek102_10, hf⟩ := kv_lt_e hf
                  have J102_10 : ∀ (x11 : Int32) (H : Heap) (locs : List Loc) (ls : Array Slot), va_P D vwCl (w_MD C aZ mZ8 mY) H → va_D A (w_MD C aZ mZ8 mY) → va_S A s.heap H locs → lv_has ls 13 [(5, .int x7), (4, .int r4), (0, .ref (aZ 0)), (1, .int p0), (2, .int p1), (3, .int p2)] → k102_10 x11 = some (rr, oZ) → W p l e rX8_odds s m args below meth c H locs 0 0 Q (F0 m 102 ls [.int x11]) := by
                    intro x11 H locs ls hP hD hS hl hf
                    rw [ek102_10] at hf
                    refine lv_istore (lv' := [(6, .int x11), (5, .int x7), (4, .int r4), (0, .ref (aZ 0)), (1, .int p0), (2, .int p1), (3, .int p2)]) hx hb dX8_odds_102 hl (by decide) rfl (fun ls hl => ?_)
                    refine lv_aload_n hx hb dX8_odds_104 rfl (lv_at hl 3 rfl) ?_
                    refine lv_bipush (v := 26) hx hb dX8_odds_105 (by decide) ?_
                    obtain ⟨r12, mZ13, hc, hf⟩ := kv_b2_e hf
                    have hs9 : vv_Sub D H A (w_MD C aZ mZ8 mY) (w_MD C aZ mZ13 mY) (w_MD C aZ mZ13 mY) := vv_Sub.same (w_MD C aZ mZ13 mY) hP hD hS hA
                    refine vv_goi (wn := (w_MD C aZ mZ13 mY)) hK hs9 hS (vv_rV (As := [.int 26]) (rest := []) hx hb hml hown hts hK hN hS hs9 (ccX8_goStep l D C H.size aZ mZ8 mY (26 : Int32) r12 mZ13 hc) (cwV 1 hts gX8_odds_X8_goStep rfl rfl rfl (by decide +kernel) ⟨(Nat.le_of_ble_eq_true rfl), (Nat.le_of_ble_eq_true rfl)⟩) (va_recv hK hP (ci := 8) (q0 := 0) rfl rfl) rfl hl.1 rfl (Nat.le_of_ble_eq_true rfl) dX8_odds_107 ⟨Nat.zero_le _, Nat.zero_le _⟩) (fun H locs hP hD hS => ?_)
                    refine lv_pop hx hb dX8_odds_110 rfl ?_
                    obtain ⟨x14, ex14, hf⟩ := kv_lt_e hf
                    refine lv_iinc (v := x14) (lv' := [(5, .int x14), (6, .int x11), (4, .int r4), (0, .ref (aZ 0)), (1, .int p0), (2, .int p1), (3, .int p2)]) hx hb dX8_odds_111 hl (k := 1) rfl (by rw [ex14]; rfl) (by decide) rfl (fun ls hl => ?_)
                    refine lv_goto (tgt := 60) hx hb dX8_odds_114 (by decide) ?_
                    exact ih _ _ _ _ _ _ hP hD hS (lv_sub hl [1, 0, 2, 3, 4, 5, 6] rfl) hf
                  obtain ⟨k97_15, ek97_15, hf⟩ := kv_lt_e hf
                  have J97_15 : ∀  (H : Heap) (locs : List Loc) (ls : Array Slot), va_P D vwCl (w_MD C aZ mZ8 mY) H → va_D A (w_MD C aZ mZ8 mY) → va_S A s.heap H locs → lv_has ls 13 [(5, .int x7), (4, .int r4), (0, .ref (aZ 0)), (1, .int p0), (2, .int p1), (3, .int p2)] → k97_15  = some (rr, oZ) → W p l e rX8_odds s m args below meth c H locs 0 0 Q (F0 m 97 ls []) := by
                    intro  H locs ls hP hD hS hl hf
                    rw [ek97_15] at hf
                    refine lv_iconst (v := 1) hx hb dX8_odds_97 (by decide) ?_
                    refine lv_goto (tgt := 102) hx hb dX8_odds_98 (by decide) ?_
                    exact J102_10 _ _ _ _ hP hD hS (lv_sub hl [0, 1, 2, 3, 4, 5] rfl) hf
                  refine lv_if_ne (tgt := 97) hx hb dX8_odds_80 (by decide) (fun hc => ?_) (fun hc => ?_)
                  · have hf := kv_f hc hf
                    exact J97_15 _ _ _ hP hD hS (lv_sub hl [1, 2, 3, 4, 5, 6] rfl) hf
                  · have hf := kv_t hc hf
                    refine lv_aload_n hx hb dX8_odds_83 rfl (lv_at hl 3 rfl) ?_
                    refine lv_aload_n hx hb dX8_odds_84 rfl (lv_at hl 3 rfl) ?_
                    refine va_get (D := D) (ci := 8) (v := .ref (aZ 11)) (C := RX8) (T := TX8) (N := 26) hx hb hts iX8 hown hK hP 0 rfl rfl 17 (by decide) q1 (fun _ h9 => h9) rfl dX8_odds_85 ?_
                    refine lv_bipush (v := 26) hx hb dX8_odds_88 (by decide) ?_
                    obtain ⟨h9, hf⟩ := kv_ix_e hf
                    refine va_iald hx hb hK hP 11 1 rfl rfl h9 dX8_odds_90 ?_
                    obtain ⟨r16, hc, hf⟩ := kv_b1_e hf
                    have hs9 : vv_Sub D H A (w_MD C aZ mZ8 mY) (w_MD C aZ mZ8 mY) (w_MD C aZ mZ8 mY) := vv_Sub.same (w_MD C aZ mZ8 mY) hP hD hS hA
                    refine vv_goi (wn := (w_MD C aZ mZ8 mY)) hK hs9 hS (vv_rV (As := [.int (mZ8 11 (26 : Int32).toNatClampNeg)]) (rest := []) hx hb hml hown hts hK hN hS hs9 (ccX8_skyAt l D C H.size aZ mZ8 mY (mZ8 11 (26 : Int32).toNatClampNeg) r16 hc) (cwV 1 hts gX8_odds_X8_skyAt rfl rfl rfl (by decide +kernel) ⟨(Nat.le_of_ble_eq_true rfl), (Nat.le_of_ble_eq_true rfl)⟩) (va_recv hK hP (ci := 8) (q0 := 0) rfl rfl) rfl hl.1 rfl (Nat.le_of_ble_eq_true rfl) dX8_odds_91 ⟨Nat.zero_le _, Nat.zero_le _⟩) (fun H locs hP hD hS => ?_)
                    refine lv_if_ge (tgt := 101) hx hb dX8_odds_94 (by decide) (fun hc => ?_) (fun hc => ?_)
                    · have hf := kv_t hc hf
                      refine lv_iconst (v := 0) hx hb dX8_odds_101 (by decide) ?_
                      exact J102_10 _ _ _ _ hP hD hS (lv_sub hl [1, 2, 3, 4, 5, 6] rfl) hf
                    · have hf := kv_f hc hf
                      exact J97_15 _ _ _ hP hD hS (lv_sub hl [1, 2, 3, 4, 5, 6] rfl) hf
          refine L60 _ (fun x17 x18 mZ19 H locs ls hP hD hS hl hf => ?_) _ _ _ _ _ _ _ hP hD hS (lv_sub hl [0, 1, 2, 3, 4, 5, 6] rfl) hf
          refine lv_iload hx hb dX8_odds_117 (lv_at hl 0 rfl) ?_
          refine lv_if_ne (tgt := 133) hx hb dX8_odds_119 (by decide) (fun hc => ?_) (fun hc => ?_)
          · have hf := kv_f hc hf
            refine lv_iload_n hx hb dX8_odds_133 rfl (lv_at hl 6 rfl) ?_
            refine lv_i2l hx hb dX8_odds_134 rfl ?_
            exact hret _ _ _ _ _ _ hf hP hD hS dX8_odds_135
          · have hf := kv_t hc hf
            refine lv_aload_n hx hb dX8_odds_122 rfl (lv_at hl 3 rfl) ?_
            refine lv_bipush (v := 26) hx hb dX8_odds_123 (by decide) ?_
            refine lv_iload hx hb dX8_odds_125 (lv_at hl 2 rfl) ?_
            obtain ⟨r20, hc, hf⟩ := kv_b1_e hf
            have hs9 : vv_Sub D H A (w_MD C aZ mZ19 mY) (w_MD C aZ mZ19 mY) (w_MD C aZ mZ19 mY) := vv_Sub.same (w_MD C aZ mZ19 mY) hP hD hS hA
            refine vv_goi (wn := (w_MD C aZ mZ19 mY)) hK hs9 hS (vv_rV (As := [.int 26, .int r4]) (rest := []) hx hb hml hown hts hK hN hS hs9 (ccX8_isDry l D C H.size aZ mZ19 mY (26 : Int32) r4 r20 hc) (cwV 2 hts gX8_odds_X8_isDry rfl rfl rfl (by decide +kernel) ⟨(Nat.le_of_ble_eq_true rfl), (Nat.le_of_ble_eq_true rfl)⟩) (va_recv hK hP (ci := 8) (q0 := 0) rfl rfl) rfl hl.1 rfl (Nat.le_of_ble_eq_true rfl) dX8_odds_127 ⟨Nat.zero_le _, Nat.zero_le _⟩) (fun H locs hP hD hS => ?_)
            refine lv_if_ne (tgt := 136) hx hb dX8_odds_130 (by decide) (fun hc => ?_) (fun hc => ?_)
            · have hf := kv_f hc hf
              refine lv_iload hx hb dX8_odds_136 (lv_at hl 1 rfl) ?_
              refine lv_bipush (v := 18) hx hb dX8_odds_138 (by decide) ?_
              refine lv_icmp_le (tgt := 147) hx hb dX8_odds_140 (by decide) (fun hc => ?_) (fun hc => ?_)
              · have hf := kv_t hc hf
                refine lv_lconst (v := 1) hx hb dX8_odds_147 (by decide) ?_
                refine lv_lstore (lv' := [(7, .long 1), (6, .int x17), (5, .int x18), (4, .int r4), (0, .ref (aZ 0)), (1, .int p0), (2, .int p1), (3, .int p2)]) hx hb dX8_odds_148 hl (by decide) rfl (fun ls hl => ?_)
                refine lv_lconst (v := 1) hx hb dX8_odds_150 (by decide) ?_
                refine lv_lstore (lv' := [(9, .long 1), (7, .long 1), (6, .int x17), (5, .int x18), (4, .int r4), (0, .ref (aZ 0)), (1, .int p0), (2, .int p1), (3, .int p2)]) hx hb dX8_odds_151 hl (by decide) rfl (fun ls hl => ?_)
                refine lv_iconst (v := 0) hx hb dX8_odds_153 (by decide) ?_
                refine lv_istore (lv' := [(11, .int 0), (9, .long 1), (7, .long 1), (6, .int x17), (5, .int x18), (4, .int r4), (0, .ref (aZ 0)), (1, .int p0), (2, .int p1), (3, .int p2)]) hx hb dX8_odds_154 hl (by decide) rfl (fun ls hl => ?_)
                have L156 : ∀ (K156 : Int32 → Int64 → Int64 → Option (Int64 × Mm)), (∀ (x21 : Int32) (x22 : Int64) (x23 : Int64) (H : Heap) (locs : List Loc) (ls : Array Slot), va_P D vwCl (w_MD C aZ mZ19 mY) H → va_D A (w_MD C aZ mZ19 mY) → va_S A s.heap H locs → lv_has ls 13 [(11, .int x21), (9, .long x22), (7, .long x23), (5, .int x18), (1, .int p0), (2, .int p1), (3, .int p2)] → K156 x21 x22 x23 = some (rr, oZ) → W p l e rX8_odds s m args below meth c H locs 0 0 Q (F0 m 185 ls [])) → ∀ (n : Nat) (x21 : Int32) (x22 : Int64) (x23 : Int64) (H : Heap) (locs : List Loc) (ls : Array Slot), va_P D vwCl (w_MD C aZ mZ19 mY) H → va_D A (w_MD C aZ mZ19 mY) → va_S A s.heap H locs → lv_has ls 13 [(11, .int x21), (9, .long x22), (7, .long x23), (5, .int x18), (1, .int p0), (2, .int p1), (3, .int p2)] → ffX8_odds_L156 p0 p1 x18 K156 n x21 x22 x23 = some (rr, oZ) → W p l e rX8_odds s m args below meth c H locs 0 0 Q (F0 m 156 ls []) := by
                  intro K156 hK9 n
                  induction n with
                  | zero => intro x21 x22 x23 H locs ls hP hD hS hl hf; exact kv_no hf
                  | succ n ih =>
                    intro x21 x22 x23 H locs ls hP hD hS hl hf
                    rw [ffX8_odds_L156_s] at hf
                    refine lv_iload hx hb dX8_odds_156 (lv_at hl 0 rfl) ?_
                    refine lv_iload hx hb dX8_odds_158 (lv_at hl 3 rfl) ?_
                    refine lv_icmp_ge (tgt := 185) hx hb dX8_odds_160 (by decide) (fun hc => ?_) (fun hc => ?_)
                    · have hf := kv_t hc hf
                      exact hK9 _ _ _ _ _ _ hP hD hS (lv_sub hl [0, 1, 2, 3, 4, 5, 6] rfl) hf
                    · have hf := kv_f hc hf
                      refine lv_lload hx hb dX8_odds_163 (lv_at hl 2 rfl) ?_
                      refine lv_iload_n hx hb dX8_odds_165 rfl (lv_at hl 5 rfl) ?_
                      refine lv_iload_n hx hb dX8_odds_166 rfl (lv_at hl 4 rfl) ?_
                      refine lv_isub hx hb dX8_odds_167 ?_
                      refine lv_i2l hx hb dX8_odds_168 rfl ?_
                      refine lv_lmul hx hb dX8_odds_169 ?_
                      obtain ⟨x24, ex24, hf⟩ := kv_lt_e hf
                      refine vv_naml ex24 ?_
                      refine lv_lstore (lv' := [(7, .long x24), (11, .int x21), (9, .long x22), (5, .int x18), (1, .int p0), (2, .int p1), (3, .int p2)]) hx hb dX8_odds_170 hl (by decide) rfl (fun ls hl => ?_)
                      refine lv_lload hx hb dX8_odds_172 (lv_at hl 2 rfl) ?_
                      refine lv_iload_n hx hb dX8_odds_174 rfl (lv_at hl 5 rfl) ?_
                      refine lv_i2l hx hb dX8_odds_175 rfl ?_
                      refine lv_lmul hx hb dX8_odds_176 ?_
                      obtain ⟨x25, ex25, hf⟩ := kv_lt_e hf
                      refine vv_naml ex25 ?_
                      refine lv_lstore (lv' := [(9, .long x25), (7, .long x24), (11, .int x21), (5, .int x18), (1, .int p0), (2, .int p1), (3, .int p2)]) hx hb dX8_odds_177 hl (by decide) rfl (fun ls hl => ?_)
                      obtain ⟨x26, ex26, hf⟩ := kv_lt_e hf
                      refine lv_iinc (v := x26) (lv' := [(11, .int x26), (9, .long x25), (7, .long x24), (5, .int x18), (1, .int p0), (2, .int p1), (3, .int p2)]) hx hb dX8_odds_179 hl (k := 2) rfl (by rw [ex26]; rfl) (by decide) rfl (fun ls hl => ?_)
                      refine lv_goto (tgt := 156) hx hb dX8_odds_182 (by decide) ?_
                      exact ih _ _ _ _ _ _ hP hD hS (lv_sub hl [0, 1, 2, 3, 4, 5, 6] rfl) hf
                refine L156 _ (fun x27 x28 x29 H locs ls hP hD hS hl hf => ?_) _ _ _ _ _ _ _ hP hD hS (lv_sub hl [0, 1, 2, 4, 7, 8, 9] rfl) hf
                refine lv_lload hx hb dX8_odds_185 (lv_at hl 2 rfl) ?_
                refine lv_lload hx hb dX8_odds_187 (lv_at hl 1 rfl) ?_
                obtain ⟨r30, hc, hf⟩ := kv_b1_e hf
                have hs9 : vv_Sub D H A ([] : va_W) ([] : va_W) (w_MD C aZ mZ19 mY) := vv_Sub.none hP hD hS hA
                refine vv_gol (wn := (w_MD C aZ mZ19 mY)) hK hs9 hS (vv_rS (As := [.long x29, .long x28]) (rest := []) hx hb hml hown hts hK hN hS hs9 (ccX8_common l D C H.size x29 x28 r30 hc) (va_cwS 2 hts gX8_odds_X8_common rfl rfl rfl (by decide +kernel) ⟨(Nat.le_of_ble_eq_true rfl), (Nat.le_of_ble_eq_true rfl)⟩) rfl hl.1 rfl (Nat.le_of_ble_eq_true rfl) dX8_odds_189 ⟨Nat.zero_le _, Nat.zero_le _⟩) (fun H locs hP hD hS => ?_)
                refine lv_lstore (lv' := [(11, .long r30), (9, .long x28), (7, .long x29), (5, .int x18), (1, .int p0), (2, .int p1), (3, .int p2)]) hx hb dX8_odds_192 hl (by decide) rfl (fun ls hl => ?_)
                refine lv_iload_n hx hb dX8_odds_194 rfl (lv_at hl 6 rfl) ?_
                refine lv_if_ne (tgt := 206) hx hb dX8_odds_195 (by decide) (fun hc => ?_) (fun hc => ?_)
                · have hf := kv_f hc hf
                  refine lv_lload hx hb dX8_odds_206 (lv_at hl 1 rfl) ?_
                  refine lv_lload hx hb dX8_odds_208 (lv_at hl 0 rfl) ?_
                  obtain ⟨h9, hf⟩ := kv_nzl_e hf
                  refine lv_ldiv hx hb dX8_odds_210 h9 ?_
                  exact hret _ _ _ _ _ _ hf hP hD hS dX8_odds_211
                · have hf := kv_t hc hf
                  refine lv_lload hx hb dX8_odds_198 (lv_at hl 2 rfl) ?_
                  refine lv_lload hx hb dX8_odds_200 (lv_at hl 0 rfl) ?_
                  obtain ⟨h9, hf⟩ := kv_nzl_e hf
                  refine lv_ldiv hx hb dX8_odds_202 h9 ?_
                  refine lv_goto (tgt := 211) hx hb dX8_odds_203 (by decide) ?_
                  exact hret _ _ _ _ _ _ hf hP hD hS dX8_odds_211
              · have hf := kv_f hc hf
                refine lv_ldc2 (v := (-2)) hx hb hown q2 dX8_odds_143 ?_
                exact hret _ _ _ _ _ _ hf hP hD hS dX8_odds_146
            · have hf := kv_t hc hf
              refine lv_iload_n hx hb dX8_odds_133 rfl (lv_at hl 6 rfl) ?_
              refine lv_i2l hx hb dX8_odds_134 rfl ?_
              exact hret _ _ _ _ _ _ hf hP hD hS dX8_odds_135
        · have hf := kv_t hc hf
          refine lv_ldc2 (v := (-2)) hx hb hown q2 dX8_odds_43 ?_
          exact hret _ _ _ _ _ _ hf hP hD hS dX8_odds_46
      · have hf := kv_t hc hf
        refine lv_ldc2 (v := (-1)) hx hb hown q0 dX8_odds_28 ?_
        exact hret _ _ _ _ _ _ hf hP hD hS dX8_odds_31
abbrev rX8_waterBy : Room := { frames := 1, cells := 0, slots := 0, locals := 23 }
set_option maxHeartbeats 4000000 in
set_option maxRecDepth 100000 in
theorem ccX8_waterBy (l : Launch) (D : va_G) (C : Nat → ClassId) (sz : Nat) (aZ : Nat → Nat) (mZ : Mm) (mY : Int64) (p0 : Int32) (p1 : Int32) (rr : Int32) (hf : ffX8_waterBy p0 p1 mZ = some (rr)) : Met l yX8_waterBy wsX8_waterBy rX8_waterBy (va_Pc [.ref (aZ 0), .int p0, .int p1] (vv_pre D C (w_MD C aZ mZ mY) sz)) (vv_QI D C (w_MD C aZ mZ mY) (w_MD C aZ mZ mY) sz rr) 0 0 (va_A (w_MD C aZ mZ mY) sz) := by
  unfold ffX8_waterBy at hf
  refine vv_metI (cc := cX8_waterBy) (maxL := 7) (ty := .int) (by decide) rfl (Nat.le_of_ble_eq_true rfl) ?_
  intro p e s m args below meth c A Q H locs ls hx hb hml hown hts hA hK hN hP hD hS hl hret
  have hown : s.vm.findClass RX8 = some m.cls := hown
  have hl : lv_has ls 7 [(0, .ref (aZ 0)), (1, .int p0), (2, .int p1)] := hl
  have hret : ∀ (v0 : Int32) (H : Heap) (locs : List Loc) (ls : Array Slot) (pc : Nat), some (v0) = some (rr) → narrow .int (.int v0) = .int v0 → va_P D vwCl (w_MD C aZ mZ mY) H → va_D A (w_MD C aZ mZ mY) → va_S A s.heap H locs → decode cX8_waterBy pc = .ok (.ireturn, 1) → W p l e rX8_waterBy s m args below meth c H locs 0 0 Q (F0 m pc ls [.int v0]) := by
    intro v0 H locs ls pc h0 hn h1 h2 h3 h4
    cases h0
    exact hret H locs ls pc hn h1 h2 h3 h4
  have q0 := hts (.fieldLink RX8 54 "ForeRainModel" "row" "[I") (by decide +kernel)
  have q1 := hts (.fieldLink RX8 41 "ForeRainModel" "now" "[I") (by decide +kernel)
  have q2 := hts (.fieldLink RX8 20 "ForeRainModel" "wide" "[I") (by decide +kernel)
  have q3 := hts (.fieldLink RX8 17 "ForeRainModel" "wet" "[I") (by decide +kernel)
  have iX8 : ∀ w ∈ u_ws RX8 TX8 26, w ∈ wsX8_waterBy := by decide +kernel
  refine lv_aload_n hx hb dX8_waterBy_0 rfl (lv_at hl 0 rfl) ?_
  refine lv_iconst (v := 0) hx hb dX8_waterBy_1 (by decide) ?_
  obtain ⟨r1, hc, hf⟩ := kv_b1_e hf
  have hs9 : vv_Sub D H A (w_MD C aZ mZ mY) (w_MD C aZ mZ mY) (w_MD C aZ mZ mY) := vv_Sub.same (w_MD C aZ mZ mY) hP hD hS hA
  refine vv_goi (wn := (w_MD C aZ mZ mY)) hK hs9 hS (vv_rV (As := [.int 0]) (rest := []) hx hb hml hown hts hK hN hS hs9 (ccX8_allWater l D C H.size aZ mZ mY (0 : Int32) r1 hc) (cwV 1 hts gX8_waterBy_X8_allWater rfl rfl rfl (by decide +kernel) ⟨(Nat.le_of_ble_eq_true rfl), (Nat.le_of_ble_eq_true rfl)⟩) (va_recv hK hP (ci := 8) (q0 := 0) rfl rfl) rfl hl.1 rfl (Nat.le_of_ble_eq_true rfl) dX8_waterBy_2 ⟨Nat.zero_le _, Nat.zero_le _⟩) (fun H locs hP hD hS => ?_)
  refine lv_istore_n (lv' := [(3, .int r1), (0, .ref (aZ 0)), (1, .int p0), (2, .int p1)]) hx hb dX8_waterBy_5 rfl hl (by decide) rfl (fun ls hl => ?_)
  refine lv_iconst (v := 0) hx hb dX8_waterBy_6 (by decide) ?_
  refine lv_istore (lv' := [(4, .int 0), (3, .int r1), (0, .ref (aZ 0)), (1, .int p0), (2, .int p1)]) hx hb dX8_waterBy_7 hl (by decide) rfl (fun ls hl => ?_)
  have L9 : ∀ (K9 : Int32 → Int32 → Option (Int32)), (∀ (x2 : Int32) (x3 : Int32) (H : Heap) (locs : List Loc) (ls : Array Slot), va_P D vwCl (w_MD C aZ mZ mY) H → va_D A (w_MD C aZ mZ mY) → va_S A s.heap H locs → lv_has ls 7 [(4, .int x2), (3, .int x3), (0, .ref (aZ 0)), (1, .int p0), (2, .int p1)] → K9 x2 x3 = some (rr) → W p l e rX8_waterBy s m args below meth c H locs 0 0 Q (F0 m 95 ls [])) → ∀ (n : Nat) (x2 : Int32) (x3 : Int32) (H : Heap) (locs : List Loc) (ls : Array Slot), va_P D vwCl (w_MD C aZ mZ mY) H → va_D A (w_MD C aZ mZ mY) → va_S A s.heap H locs → lv_has ls 7 [(4, .int x2), (3, .int x3), (0, .ref (aZ 0)), (1, .int p0), (2, .int p1)] → ffX8_waterBy_L9 p0 p1 mZ K9 n x2 x3 = some (rr) → W p l e rX8_waterBy s m args below meth c H locs 0 0 Q (F0 m 9 ls []) := by
    intro K9 hK9 n
    induction n with
    | zero => intro x2 x3 H locs ls hP hD hS hl hf; exact kv_no hf
    | succ n ih =>
      intro x2 x3 H locs ls hP hD hS hl hf
      rw [ffX8_waterBy_L9_s] at hf
      refine lv_iload hx hb dX8_waterBy_9 (lv_at hl 0 rfl) ?_
      refine lv_iload_n hx hb dX8_waterBy_11 rfl (lv_at hl 3 rfl) ?_
      refine lv_icmp_ge (tgt := 95) hx hb dX8_waterBy_12 (by decide) (fun hc => ?_) (fun hc => ?_)
      · have hf := kv_t hc hf
        exact hK9 _ _ _ _ _ hP hD hS (lv_sub hl [0, 1, 2, 3, 4] rfl) hf
      · have hf := kv_f hc hf
        refine lv_aload_n hx hb dX8_waterBy_15 rfl (lv_at hl 2 rfl) ?_
        refine va_get (D := D) (ci := 8) (v := .ref (aZ 15)) (C := RX8) (T := TX8) (N := 26) hx hb hts iX8 hown hK hP 0 rfl rfl 21 (by decide) q0 (fun _ h9 => h9) rfl dX8_waterBy_16 ?_
        refine lv_iload hx hb dX8_waterBy_19 (lv_at hl 0 rfl) ?_
        obtain ⟨h9, hf⟩ := kv_ix_e hf
        refine va_iald hx hb hK hP 15 1 rfl rfl h9 dX8_waterBy_21 ?_
        obtain ⟨x4, ex4, hf⟩ := kv_lt_e hf
        refine vv_nami ex4 ?_
        refine lv_istore (lv' := [(5, .int x4), (4, .int x2), (3, .int x3), (0, .ref (aZ 0)), (1, .int p0), (2, .int p1)]) hx hb dX8_waterBy_22 hl (by decide) rfl (fun ls hl => ?_)
        refine lv_aload_n hx hb dX8_waterBy_24 rfl (lv_at hl 3 rfl) ?_
        refine va_get (D := D) (ci := 8) (v := .ref (aZ 11)) (C := RX8) (T := TX8) (N := 26) hx hb hts iX8 hown hK hP 0 rfl rfl 17 (by decide) q1 (fun _ h9 => h9) rfl dX8_waterBy_25 ?_
        refine lv_iconst (v := 2) hx hb dX8_waterBy_28 (by decide) ?_
        refine lv_iload hx hb dX8_waterBy_29 (lv_at hl 0 rfl) ?_
        refine lv_iadd hx hb dX8_waterBy_31 ?_
        obtain ⟨h9, hf⟩ := kv_ix_e hf
        refine va_iald hx hb hK hP 11 1 rfl rfl h9 dX8_waterBy_32 ?_
        refine lv_iload hx hb dX8_waterBy_33 (lv_at hl 1 rfl) ?_
        refine lv_iload_n hx hb dX8_waterBy_35 rfl (lv_at hl 5 rfl) ?_
        refine lv_imul hx hb dX8_waterBy_36 ?_
        refine lv_aload_n hx hb dX8_waterBy_37 rfl (lv_at hl 3 rfl) ?_
        refine va_get (D := D) (ci := 8) (v := .ref (aZ 4)) (C := RX8) (T := TX8) (N := 26) hx hb hts iX8 hown hK hP 0 rfl rfl 5 (by decide) q2 (fun _ h9 => h9) rfl dX8_waterBy_38 ?_
        refine lv_iload hx hb dX8_waterBy_41 (lv_at hl 0 rfl) ?_
        obtain ⟨h9, hf⟩ := kv_ix_e hf
        refine va_iald hx hb hK hP 4 1 rfl rfl h9 dX8_waterBy_43 ?_
        refine lv_imul hx hb dX8_waterBy_44 ?_
        refine lv_iadd hx hb dX8_waterBy_45 ?_
        obtain ⟨x5, ex5, hf⟩ := kv_lt_e hf
        refine vv_nami ex5 ?_
        refine lv_istore (lv' := [(6, .int x5), (5, .int x4), (4, .int x2), (3, .int x3), (0, .ref (aZ 0)), (1, .int p0), (2, .int p1)]) hx hb dX8_waterBy_46 hl (by decide) rfl (fun ls hl => ?_)
        refine lv_iload_n hx hb dX8_waterBy_48 rfl (lv_at hl 3 rfl) ?_
        refine lv_iload hx hb dX8_waterBy_49 (lv_at hl 0 rfl) ?_
        refine lv_iconst (v := 2) hx hb dX8_waterBy_51 (by decide) ?_
        refine lv_aload_n hx hb dX8_waterBy_52 rfl (lv_at hl 4 rfl) ?_
        refine va_get (D := D) (ci := 8) (v := .ref (aZ 3)) (C := RX8) (T := TX8) (N := 26) hx hb hts iX8 hown hK hP 0 rfl rfl 4 (by decide) q3 (fun _ h9 => h9) rfl dX8_waterBy_53 ?_
        refine lv_iload hx hb dX8_waterBy_56 (lv_at hl 1 rfl) ?_
        obtain ⟨h9, hf⟩ := kv_ix_e hf
        refine va_iald hx hb hK hP 3 1 rfl rfl h9 dX8_waterBy_58 ?_
        refine lv_imul hx hb dX8_waterBy_59 ?_
        obtain ⟨k77_6, ek77_6, hf⟩ := kv_lt_e hf
        have J77_6 : ∀ (x7 : Int32) (H : Heap) (locs : List Loc) (ls : Array Slot), va_P D vwCl (w_MD C aZ mZ mY) H → va_D A (w_MD C aZ mZ mY) → va_S A s.heap H locs → lv_has ls 7 [(5, .int x4), (4, .int x2), (0, .ref (aZ 0)), (1, .int p0), (2, .int p1)] → k77_6 x7 = some (rr) → W p l e rX8_waterBy s m args below meth c H locs 0 0 Q (F0 m 77 ls [.int x7, .int x3]) := by
          intro x7 H locs ls hP hD hS hl hf
          rw [ek77_6] at hf
          refine lv_aload_n hx hb dX8_waterBy_77 rfl (lv_at hl 2 rfl) ?_
          refine va_get (D := D) (ci := 8) (v := .ref (aZ 11)) (C := RX8) (T := TX8) (N := 26) hx hb hts iX8 hown hK hP 0 rfl rfl 17 (by decide) q1 (fun _ h9 => h9) rfl dX8_waterBy_78 ?_
          refine lv_iconst (v := 2) hx hb dX8_waterBy_81 (by decide) ?_
          refine lv_iload hx hb dX8_waterBy_82 (lv_at hl 0 rfl) ?_
          refine lv_iadd hx hb dX8_waterBy_84 ?_
          obtain ⟨h9, hf⟩ := kv_ix_e hf
          refine va_iald hx hb hK hP 11 1 rfl rfl h9 dX8_waterBy_85 ?_
          refine lv_isub hx hb dX8_waterBy_86 ?_
          refine lv_iadd hx hb dX8_waterBy_87 ?_
          obtain ⟨x8, ex8, hf⟩ := kv_lt_e hf
          refine vv_nami ex8 ?_
          refine lv_istore_n (lv' := [(3, .int x8), (5, .int x4), (4, .int x2), (0, .ref (aZ 0)), (1, .int p0), (2, .int p1)]) hx hb dX8_waterBy_88 rfl hl (by decide) rfl (fun ls hl => ?_)
          obtain ⟨x9, ex9, hf⟩ := kv_lt_e hf
          refine lv_iinc (v := x9) (lv' := [(4, .int x9), (3, .int x8), (5, .int x4), (0, .ref (aZ 0)), (1, .int p0), (2, .int p1)]) hx hb dX8_waterBy_89 hl (k := 2) rfl (by rw [ex9]; rfl) (by decide) rfl (fun ls hl => ?_)
          refine lv_goto (tgt := 9) hx hb dX8_waterBy_92 (by decide) ?_
          exact ih _ _ _ _ _ hP hD hS (lv_sub hl [0, 1, 3, 4, 5] rfl) hf
        refine lv_icmp_le (tgt := 75) hx hb dX8_waterBy_60 (by decide) (fun hc => ?_) (fun hc => ?_)
        · have hf := kv_t hc hf
          refine lv_iload hx hb dX8_waterBy_75 (lv_at hl 0 rfl) ?_
          exact J77_6 _ _ _ _ hP hD hS (lv_sub hl [1, 2, 4, 5, 6] rfl) hf
        · have hf := kv_f hc hf
          refine lv_iconst (v := 2) hx hb dX8_waterBy_63 (by decide) ?_
          refine lv_aload_n hx hb dX8_waterBy_64 rfl (lv_at hl 4 rfl) ?_
          refine va_get (D := D) (ci := 8) (v := .ref (aZ 3)) (C := RX8) (T := TX8) (N := 26) hx hb hts iX8 hown hK hP 0 rfl rfl 4 (by decide) q3 (fun _ h9 => h9) rfl dX8_waterBy_65 ?_
          refine lv_iload hx hb dX8_waterBy_68 (lv_at hl 1 rfl) ?_
          obtain ⟨h9, hf⟩ := kv_ix_e hf
          refine va_iald hx hb hK hP 3 1 rfl rfl h9 dX8_waterBy_70 ?_
          refine lv_imul hx hb dX8_waterBy_71 ?_
          refine lv_goto (tgt := 77) hx hb dX8_waterBy_72 (by decide) ?_
          exact J77_6 _ _ _ _ hP hD hS (lv_sub hl [1, 2, 4, 5, 6] rfl) hf
  refine L9 _ (fun x10 x11 H locs ls hP hD hS hl hf => ?_) _ _ _ _ _ _ hP hD hS (lv_sub hl [0, 1, 2, 3, 4] rfl) hf
  refine lv_iload_n hx hb dX8_waterBy_95 rfl (lv_at hl 1 rfl) ?_
  exact hret _ _ _ _ _ hf rfl hP hD hS dX8_waterBy_96
abbrev rX8_order : Room := { frames := 2, cells := 0, slots := 0, locals := 49 }
set_option maxHeartbeats 4000000 in
set_option maxRecDepth 100000 in
theorem ccX8_order (l : Launch) (D : va_G) (C : Nat → ClassId) (sz : Nat) (aZ : Nat → Nat) (mZ : Mm) (mY : Int64) (p0 : Int32) (p1 : Int32) (rr : Int32) (oZ : Mm) (hf : ffX8_order p0 p1 mZ = some (rr, oZ)) : Met l yX8_order wsX8_order rX8_order (va_Pc [.ref (aZ 0), .int p0, .int p1] (vv_pre D C (w_MD C aZ mZ mY) sz)) (vv_QI D C (w_MD C aZ mZ mY) (w_MD C aZ oZ mY) sz rr) 0 0 (va_A (w_MD C aZ mZ mY) sz) := by
  unfold ffX8_order at hf
  refine vv_metI (cc := cX8_order) (maxL := 10) (ty := .int) (by decide) rfl (Nat.le_of_ble_eq_true rfl) ?_
  intro p e s m args below meth c A Q H locs ls hx hb hml hown hts hA hK hN hP hD hS hl hret
  have hown : s.vm.findClass RX8 = some m.cls := hown
  have hl : lv_has ls 10 [(0, .ref (aZ 0)), (1, .int p0), (2, .int p1)] := hl
  have hret : ∀ (v0 : Int32) (v1 : Mm) (H : Heap) (locs : List Loc) (ls : Array Slot) (pc : Nat), some (v0, v1) = some (rr, oZ) → narrow .int (.int v0) = .int v0 → va_P D vwCl (w_MD C aZ v1 mY) H → va_D A (w_MD C aZ v1 mY) → va_S A s.heap H locs → decode cX8_order pc = .ok (.ireturn, 1) → W p l e rX8_order s m args below meth c H locs 0 0 Q (F0 m pc ls [.int v0]) := by
    intro v0 v1 H locs ls pc h0 hn h1 h2 h3 h4
    cases h0
    exact hret H locs ls pc hn h1 h2 h3 h4
  have q0 := hts (.fieldLink RX8 57 "ForeRainModel" "bestRow" "[I") (by decide +kernel)
  have q1 := hts (.fieldLink RX8 54 "ForeRainModel" "row" "[I") (by decide +kernel)
  have iX8 : ∀ w ∈ u_ws RX8 TX8 26, w ∈ wsX8_order := by decide +kernel
  refine lv_iload_n hx hb dX8_order_0 rfl (lv_at hl 1 rfl) ?_
  refine lv_iconst (v := 1) hx hb dX8_order_1 (by decide) ?_
  refine lv_bipush (v := 9) hx hb dX8_order_2 (by decide) ?_
  obtain ⟨r1, hc, hf⟩ := kv_b1_e hf
  have hs9 : vv_Sub D H A ([] : va_W) ([] : va_W) (w_MD C aZ mZ mY) := vv_Sub.none hP hD hS hA
  refine vv_goi (wn := (w_MD C aZ mZ mY)) hK hs9 hS (vv_rS (As := [.int p0, .int 1, .int 9]) (rest := []) hx hb hml hown hts hK hN hS hs9 (ccX8_in l D C H.size p0 (1 : Int32) (9 : Int32) r1 hc) (va_cwS 3 hts gX8_order_X8_in rfl rfl rfl (by decide +kernel) ⟨(Nat.le_of_ble_eq_true rfl), (Nat.le_of_ble_eq_true rfl)⟩) rfl hl.1 rfl (Nat.le_of_ble_eq_true rfl) dX8_order_4 ⟨Nat.zero_le _, Nat.zero_le _⟩) (fun H locs hP hD hS => ?_)
  refine lv_if_eq (tgt := 19) hx hb dX8_order_7 (by decide) (fun hc => ?_) (fun hc => ?_)
  · have hf := kv_t hc hf
    refine lv_iconst (v := (-1)) hx hb dX8_order_19 (by decide) ?_
    exact hret _ _ _ _ _ _ hf rfl hP hD hS dX8_order_20
  · have hf := kv_f hc hf
    refine lv_iload_n hx hb dX8_order_10 rfl (lv_at hl 2 rfl) ?_
    refine lv_iconst (v := (-1)) hx hb dX8_order_11 (by decide) ?_
    refine lv_iconst (v := 5) hx hb dX8_order_12 (by decide) ?_
    obtain ⟨r2, hc, hf⟩ := kv_b1_e hf
    have hs9 : vv_Sub D H A ([] : va_W) ([] : va_W) (w_MD C aZ mZ mY) := vv_Sub.none hP hD hS hA
    refine vv_goi (wn := (w_MD C aZ mZ mY)) hK hs9 hS (vv_rS (As := [.int p1, .int (-1), .int 5]) (rest := []) hx hb hml hown hts hK hN hS hs9 (ccX8_in l D C H.size p1 ((-1) : Int32) (5 : Int32) r2 hc) (va_cwS 3 hts gX8_order_X8_in rfl rfl rfl (by decide +kernel) ⟨(Nat.le_of_ble_eq_true rfl), (Nat.le_of_ble_eq_true rfl)⟩) rfl hl.1 rfl (Nat.le_of_ble_eq_true rfl) dX8_order_13 ⟨Nat.zero_le _, Nat.zero_le _⟩) (fun H locs hP hD hS => ?_)
    refine lv_if_ne (tgt := 21) hx hb dX8_order_16 (by decide) (fun hc => ?_) (fun hc => ?_)
    · have hf := kv_f hc hf
      refine lv_aload_n hx hb dX8_order_21 rfl (lv_at hl 0 rfl) ?_
      obtain ⟨r3, hc, hf⟩ := kv_b1_e hf
      have hs9 : vv_Sub D H A (w_MD C aZ mZ mY) (w_MD C aZ mZ mY) (w_MD C aZ mZ mY) := vv_Sub.same (w_MD C aZ mZ mY) hP hD hS hA
      refine vv_goi (wn := (w_MD C aZ mZ mY)) hK hs9 hS (vv_rV (As := []) (rest := []) hx hb hml hown hts hK hN hS hs9 (ccX8_hanging l D C H.size aZ mZ mY r3 hc) (cwV 0 hts gX8_order_X8_hanging rfl rfl rfl (by decide +kernel) ⟨(Nat.le_of_ble_eq_true rfl), (Nat.le_of_ble_eq_true rfl)⟩) (va_recv hK hP (ci := 8) (q0 := 0) rfl rfl) rfl hl.1 rfl (Nat.le_of_ble_eq_true rfl) dX8_order_22 ⟨Nat.zero_le _, Nat.zero_le _⟩) (fun H locs hP hD hS => ?_)
      refine lv_istore_n (lv' := [(3, .int r3), (0, .ref (aZ 0)), (1, .int p0), (2, .int p1)]) hx hb dX8_order_25 rfl hl (by decide) rfl (fun ls hl => ?_)
      refine lv_iload_n hx hb dX8_order_26 rfl (lv_at hl 0 rfl) ?_
      obtain ⟨r4, hc, hf⟩ := kv_b1_e hf
      have hs9 : vv_Sub D H A ([] : va_W) ([] : va_W) (w_MD C aZ mZ mY) := vv_Sub.none hP hD hS hA
      refine vv_goi (wn := (w_MD C aZ mZ mY)) hK hs9 hS (vv_rS (As := [.int r3]) (rest := []) hx hb hml hown hts hK hN hS hs9 (ccX8_bitsIn l D C H.size r3 r4 hc) (va_cwS 1 hts gX8_order_X8_bitsIn rfl rfl rfl (by decide +kernel) ⟨(Nat.le_of_ble_eq_true rfl), (Nat.le_of_ble_eq_true rfl)⟩) rfl hl.1 rfl (Nat.le_of_ble_eq_true rfl) dX8_order_27 ⟨Nat.zero_le _, Nat.zero_le _⟩) (fun H locs hP hD hS => ?_)
      refine lv_istore (lv' := [(4, .int r4), (3, .int r3), (0, .ref (aZ 0)), (1, .int p0), (2, .int p1)]) hx hb dX8_order_30 hl (by decide) rfl (fun ls hl => ?_)
      refine lv_iconst (v := 1) hx hb dX8_order_32 (by decide) ?_
      refine lv_istore (lv' := [(5, .int 1), (4, .int r4), (3, .int r3), (0, .ref (aZ 0)), (1, .int p0), (2, .int p1)]) hx hb dX8_order_33 hl (by decide) rfl (fun ls hl => ?_)
      refine lv_iconst (v := 0) hx hb dX8_order_35 (by decide) ?_
      refine lv_istore (lv' := [(6, .int 0), (5, .int 1), (4, .int r4), (3, .int r3), (0, .ref (aZ 0)), (1, .int p0), (2, .int p1)]) hx hb dX8_order_36 hl (by decide) rfl (fun ls hl => ?_)
      have L38 : ∀ (K38 : Int32 → Int32 → Option (Int32 × Mm)), (∀ (x5 : Int32) (x6 : Int32) (H : Heap) (locs : List Loc) (ls : Array Slot), va_P D vwCl (w_MD C aZ mZ mY) H → va_D A (w_MD C aZ mZ mY) → va_S A s.heap H locs → lv_has ls 10 [(6, .int x5), (5, .int x6), (4, .int r4), (3, .int r3), (0, .ref (aZ 0)), (1, .int p0), (2, .int p1)] → K38 x5 x6 = some (rr, oZ) → W p l e rX8_order s m args below meth c H locs 0 0 Q (F0 m 58 ls [])) → ∀ (n : Nat) (x5 : Int32) (x6 : Int32) (H : Heap) (locs : List Loc) (ls : Array Slot), va_P D vwCl (w_MD C aZ mZ mY) H → va_D A (w_MD C aZ mZ mY) → va_S A s.heap H locs → lv_has ls 10 [(6, .int x5), (5, .int x6), (4, .int r4), (3, .int r3), (0, .ref (aZ 0)), (1, .int p0), (2, .int p1)] → ffX8_order_L38 r4 K38 n x5 x6 = some (rr, oZ) → W p l e rX8_order s m args below meth c H locs 0 0 Q (F0 m 38 ls []) := by
        intro K38 hK9 n
        induction n with
        | zero => intro x5 x6 H locs ls hP hD hS hl hf; exact kv_no hf
        | succ n ih =>
          intro x5 x6 H locs ls hP hD hS hl hf
          rw [ffX8_order_L38_s] at hf
          refine lv_iload hx hb dX8_order_38 (lv_at hl 0 rfl) ?_
          refine lv_iload hx hb dX8_order_40 (lv_at hl 2 rfl) ?_
          refine lv_icmp_ge (tgt := 58) hx hb dX8_order_42 (by decide) (fun hc => ?_) (fun hc => ?_)
          · have hf := kv_t hc hf
            exact hK9 _ _ _ _ _ hP hD hS (lv_sub hl [0, 1, 2, 3, 4, 5, 6] rfl) hf
          · have hf := kv_f hc hf
            refine lv_iload hx hb dX8_order_45 (lv_at hl 1 rfl) ?_
            refine lv_bipush (v := 6) hx hb dX8_order_47 (by decide) ?_
            refine lv_imul hx hb dX8_order_49 ?_
            obtain ⟨x7, ex7, hf⟩ := kv_lt_e hf
            refine vv_nami ex7 ?_
            refine lv_istore (lv' := [(5, .int x7), (6, .int x5), (4, .int r4), (3, .int r3), (0, .ref (aZ 0)), (1, .int p0), (2, .int p1)]) hx hb dX8_order_50 hl (by decide) rfl (fun ls hl => ?_)
            obtain ⟨x8, ex8, hf⟩ := kv_lt_e hf
            refine lv_iinc (v := x8) (lv' := [(6, .int x8), (5, .int x7), (4, .int r4), (3, .int r3), (0, .ref (aZ 0)), (1, .int p0), (2, .int p1)]) hx hb dX8_order_52 hl (k := 1) rfl (by rw [ex8]; rfl) (by decide) rfl (fun ls hl => ?_)
            refine lv_goto (tgt := 38) hx hb dX8_order_55 (by decide) ?_
            exact ih _ _ _ _ _ hP hD hS (lv_sub hl [0, 1, 2, 3, 4, 5, 6] rfl) hf
      refine L38 _ (fun x9 x10 H locs ls hP hD hS hl hf => ?_) _ _ _ _ _ _ hP hD hS (lv_sub hl [0, 1, 2, 3, 4, 5, 6] rfl) hf
      refine lv_bipush (v := (-9)) hx hb dX8_order_58 (by decide) ?_
      refine lv_istore (lv' := [(6, .int (-9)), (5, .int x10), (4, .int r4), (3, .int r3), (0, .ref (aZ 0)), (1, .int p0), (2, .int p1)]) hx hb dX8_order_60 hl (by decide) rfl (fun ls hl => ?_)
      refine lv_iconst (v := 0) hx hb dX8_order_62 (by decide) ?_
      refine lv_istore (lv' := [(7, .int 0), (6, .int (-9)), (5, .int x10), (4, .int r4), (3, .int r3), (0, .ref (aZ 0)), (1, .int p0), (2, .int p1)]) hx hb dX8_order_63 hl (by decide) rfl (fun ls hl => ?_)
      have L65 : ∀ (K65 : Int32 → Int32 → Mm → Option (Int32 × Mm)), (∀ (x11 : Int32) (x12 : Int32) (mZ13 : Mm) (H : Heap) (locs : List Loc) (ls : Array Slot), va_P D vwCl (w_MD C aZ mZ13 mY) H → va_D A (w_MD C aZ mZ13 mY) → va_S A s.heap H locs → lv_has ls 10 [(7, .int x11), (6, .int x12), (5, .int x10), (4, .int r4), (3, .int r3), (0, .ref (aZ 0)), (1, .int p0), (2, .int p1)] → K65 x11 x12 mZ13 = some (rr, oZ) → W p l e rX8_order s m args below meth c H locs 0 0 Q (F0 m 147 ls [])) → ∀ (n : Nat) (x11 : Int32) (x12 : Int32) (mZ13 : Mm) (H : Heap) (locs : List Loc) (ls : Array Slot), va_P D vwCl (w_MD C aZ mZ13 mY) H → va_D A (w_MD C aZ mZ13 mY) → va_S A s.heap H locs → lv_has ls 10 [(7, .int x11), (6, .int x12), (5, .int x10), (4, .int r4), (3, .int r3), (0, .ref (aZ 0)), (1, .int p0), (2, .int p1)] → ffX8_order_L65 p0 r3 r4 x10 K65 n x11 x12 mZ13 = some (rr, oZ) → W p l e rX8_order s m args below meth c H locs 0 0 Q (F0 m 65 ls []) := by
        intro K65 hK9 n
        induction n with
        | zero => intro x11 x12 mZ13 H locs ls hP hD hS hl hf; exact kv_no hf
        | succ n ih =>
          intro x11 x12 mZ13 H locs ls hP hD hS hl hf
          rw [ffX8_order_L65_s] at hf
          refine lv_iload hx hb dX8_order_65 (lv_at hl 0 rfl) ?_
          refine lv_iload hx hb dX8_order_67 (lv_at hl 2 rfl) ?_
          refine lv_icmp_ge (tgt := 147) hx hb dX8_order_69 (by decide) (fun hc => ?_) (fun hc => ?_)
          · have hf := kv_t hc hf
            exact hK9 _ _ _ _ _ _ hP hD hS (lv_sub hl [0, 1, 2, 3, 4, 5, 6, 7] rfl) hf
          · have hf := kv_f hc hf
            refine lv_aload_n hx hb dX8_order_72 rfl (lv_at hl 5 rfl) ?_
            refine lv_iload hx hb dX8_order_73 (lv_at hl 0 rfl) ?_
            refine lv_iload hx hb dX8_order_75 (lv_at hl 3 rfl) ?_
            refine lv_iload_n hx hb dX8_order_77 rfl (lv_at hl 4 rfl) ?_
            obtain ⟨r14, mZ15, hc, hf⟩ := kv_b2_e hf
            have hs9 : vv_Sub D H A (w_MD C aZ mZ13 mY) (w_MD C aZ mZ15 mY) (w_MD C aZ mZ15 mY) := vv_Sub.same (w_MD C aZ mZ15 mY) hP hD hS hA
            refine vv_goi (wn := (w_MD C aZ mZ15 mY)) hK hs9 hS (vv_rV (As := [.int x11, .int r4, .int r3]) (rest := []) hx hb hml hown hts hK hN hS hs9 (ccX8_isRow l D C H.size aZ mZ13 mY x11 r4 r3 r14 mZ15 hc) (cwV 3 hts gX8_order_X8_isRow rfl rfl rfl (by decide +kernel) ⟨(Nat.le_of_ble_eq_true rfl), (Nat.le_of_ble_eq_true rfl)⟩) (va_recv hK hP (ci := 8) (q0 := 0) rfl rfl) rfl hl.1 rfl (Nat.le_of_ble_eq_true rfl) dX8_order_78 ⟨Nat.zero_le _, Nat.zero_le _⟩) (fun H locs hP hD hS => ?_)
            refine lv_if_eq (tgt := 141) hx hb dX8_order_81 (by decide) (fun hc => ?_) (fun hc => ?_)
            · have hf := kv_t hc hf
              obtain ⟨x16, ex16, hf⟩ := kv_lt_e hf
              refine lv_iinc (v := x16) (lv' := [(7, .int x16), (6, .int x12), (5, .int x10), (4, .int r4), (3, .int r3), (0, .ref (aZ 0)), (1, .int p0), (2, .int p1)]) hx hb dX8_order_141 hl (k := 0) rfl (by rw [ex16]; rfl) (by decide) rfl (fun ls hl => ?_)
              refine lv_goto (tgt := 65) hx hb dX8_order_144 (by decide) ?_
              exact ih _ _ _ _ _ _ hP hD hS (lv_sub hl [0, 1, 2, 3, 4, 5, 6, 7] rfl) hf
            · have hf := kv_f hc hf
              refine lv_aload_n hx hb dX8_order_84 rfl (lv_at hl 5 rfl) ?_
              refine lv_iload hx hb dX8_order_85 (lv_at hl 3 rfl) ?_
              refine lv_iload_n hx hb dX8_order_87 rfl (lv_at hl 6 rfl) ?_
              obtain ⟨r17, hc, hf⟩ := kv_b1_e hf
              have hs9 : vv_Sub D H A (w_MD C aZ mZ15 mY) (w_MD C aZ mZ15 mY) (w_MD C aZ mZ15 mY) := vv_Sub.same (w_MD C aZ mZ15 mY) hP hD hS hA
              refine vv_goi (wn := (w_MD C aZ mZ15 mY)) hK hs9 hS (vv_rV (As := [.int r4, .int p0]) (rest := []) hx hb hml hown hts hK hN hS hs9 (ccX8_waterBy l D C H.size aZ mZ15 mY r4 p0 r17 hc) (cwV 2 hts gX8_order_X8_waterBy rfl rfl rfl (by decide +kernel) ⟨(Nat.le_of_ble_eq_true rfl), (Nat.le_of_ble_eq_true rfl)⟩) (va_recv hK hP (ci := 8) (q0 := 0) rfl rfl) rfl hl.1 rfl (Nat.le_of_ble_eq_true rfl) dX8_order_88 ⟨Nat.zero_le _, Nat.zero_le _⟩) (fun H locs hP hD hS => ?_)
              refine lv_istore (lv' := [(8, .int r17), (7, .int x11), (6, .int x12), (5, .int x10), (4, .int r4), (3, .int r3), (0, .ref (aZ 0)), (1, .int p0), (2, .int p1)]) hx hb dX8_order_91 hl (by decide) rfl (fun ls hl => ?_)
              refine lv_iload hx hb dX8_order_93 (lv_at hl 2 rfl) ?_
              refine lv_bipush (v := (-9)) hx hb dX8_order_95 (by decide) ?_
              obtain ⟨k107_18, ek107_18, hf⟩ := kv_lt_e hf
              have J107_18 : ∀  (H : Heap) (locs : List Loc) (ls : Array Slot), va_P D vwCl (w_MD C aZ mZ15 mY) H → va_D A (w_MD C aZ mZ15 mY) → va_S A s.heap H locs → lv_has ls 10 [(8, .int r17), (7, .int x11), (5, .int x10), (4, .int r4), (3, .int r3), (0, .ref (aZ 0)), (1, .int p0), (2, .int p1)] → k107_18  = some (rr, oZ) → W p l e rX8_order s m args below meth c H locs 0 0 Q (F0 m 107 ls []) := by
                intro  H locs ls hP hD hS hl hf
                rw [ek107_18] at hf
                refine lv_iload hx hb dX8_order_107 (lv_at hl 0 rfl) ?_
                refine lv_istore (lv' := [(6, .int r17), (8, .int r17), (7, .int x11), (5, .int x10), (4, .int r4), (3, .int r3), (0, .ref (aZ 0)), (1, .int p0), (2, .int p1)]) hx hb dX8_order_109 hl (by decide) rfl (fun ls hl => ?_)
                refine lv_iconst (v := 0) hx hb dX8_order_111 (by decide) ?_
                refine lv_istore (lv' := [(9, .int 0), (6, .int r17), (8, .int r17), (7, .int x11), (5, .int x10), (4, .int r4), (3, .int r3), (0, .ref (aZ 0)), (1, .int p0), (2, .int p1)]) hx hb dX8_order_112 hl (by decide) rfl (fun ls hl => ?_)
                have L114 : ∀ (K114 : Int32 → Mm → Option (Int32 × Mm)), (∀ (x19 : Int32) (mZ20 : Mm) (H : Heap) (locs : List Loc) (ls : Array Slot), va_P D vwCl (w_MD C aZ mZ20 mY) H → va_D A (w_MD C aZ mZ20 mY) → va_S A s.heap H locs → lv_has ls 10 [(9, .int x19), (6, .int r17), (7, .int x11), (5, .int x10), (4, .int r4), (3, .int r3), (0, .ref (aZ 0)), (1, .int p0), (2, .int p1)] → K114 x19 mZ20 = some (rr, oZ) → W p l e rX8_order s m args below meth c H locs 0 0 Q (F0 m 141 ls [])) → ∀ (n : Nat) (x19 : Int32) (mZ20 : Mm) (H : Heap) (locs : List Loc) (ls : Array Slot), va_P D vwCl (w_MD C aZ mZ20 mY) H → va_D A (w_MD C aZ mZ20 mY) → va_S A s.heap H locs → lv_has ls 10 [(9, .int x19), (6, .int r17), (7, .int x11), (5, .int x10), (4, .int r4), (3, .int r3), (0, .ref (aZ 0)), (1, .int p0), (2, .int p1)] → ffX8_order_L114 r4 K114 n x19 mZ20 = some (rr, oZ) → W p l e rX8_order s m args below meth c H locs 0 0 Q (F0 m 114 ls []) := by
                  intro K114 hK9 n
                  induction n with
                  | zero => intro x19 mZ20 H locs ls hP hD hS hl hf; exact kv_no hf
                  | succ n ih =>
                    intro x19 mZ20 H locs ls hP hD hS hl hf
                    rw [ffX8_order_L114_s] at hf
                    refine lv_iload hx hb dX8_order_114 (lv_at hl 0 rfl) ?_
                    refine lv_iload hx hb dX8_order_116 (lv_at hl 4 rfl) ?_
                    refine lv_icmp_ge (tgt := 141) hx hb dX8_order_118 (by decide) (fun hc => ?_) (fun hc => ?_)
                    · have hf := kv_t hc hf
                      exact hK9 _ _ _ _ _ hP hD hS (lv_sub hl [0, 1, 2, 3, 4, 5, 6, 7, 8] rfl) hf
                    · have hf := kv_f hc hf
                      refine lv_aload_n hx hb dX8_order_121 rfl (lv_at hl 6 rfl) ?_
                      refine va_get (D := D) (ci := 8) (v := .ref (aZ 16)) (C := RX8) (T := TX8) (N := 26) hx hb hts iX8 hown hK hP 0 rfl rfl 22 (by decide) q0 (fun _ h9 => h9) rfl dX8_order_122 ?_
                      refine lv_iload hx hb dX8_order_125 (lv_at hl 0 rfl) ?_
                      refine lv_aload_n hx hb dX8_order_127 rfl (lv_at hl 6 rfl) ?_
                      refine va_get (D := D) (ci := 8) (v := .ref (aZ 15)) (C := RX8) (T := TX8) (N := 26) hx hb hts iX8 hown hK hP 0 rfl rfl 21 (by decide) q1 (fun _ h9 => h9) rfl dX8_order_128 ?_
                      refine lv_iload hx hb dX8_order_131 (lv_at hl 0 rfl) ?_
                      obtain ⟨h9, hf⟩ := kv_ix_e hf
                      refine va_iald hx hb hK hP 15 1 rfl rfl h9 dX8_order_133 ?_
                      obtain ⟨x21, ex21, hf⟩ := kv_lt_e hf
                      refine vv_nami ex21 ?_
                      obtain ⟨h9, hf⟩ := kv_ix_e hf
                      obtain ⟨mZ22, emZ22, hf⟩ := kv_lt_e hf
                      refine va_iast hx hb hK hP hD hS 16 1 rfl rfl h9 dX8_order_134 (fun H locs hP hD hS => ?_)
                      have hP : va_P D vwCl (w_MD C aZ mZ22 mY) H := by rw [emZ22]; exact hP
                      have hD : va_D A (w_MD C aZ mZ22 mY) := by rw [emZ22]; exact hD
                      obtain ⟨x23, ex23, hf⟩ := kv_lt_e hf
                      refine lv_iinc (v := x23) (lv' := [(9, .int x23), (6, .int r17), (7, .int x11), (5, .int x10), (4, .int r4), (3, .int r3), (0, .ref (aZ 0)), (1, .int p0), (2, .int p1)]) hx hb dX8_order_135 hl (k := 0) rfl (by rw [ex23]; rfl) (by decide) rfl (fun ls hl => ?_)
                      refine lv_goto (tgt := 114) hx hb dX8_order_138 (by decide) ?_
                      exact ih _ _ _ _ _ hP hD hS (lv_sub hl [0, 1, 2, 3, 4, 5, 6, 7, 8] rfl) hf
                refine L114 _ (fun x24 mZ25 H locs ls hP hD hS hl hf => ?_) _ _ _ _ _ _ hP hD hS (lv_sub hl [0, 1, 3, 4, 5, 6, 7, 8, 9] rfl) hf
                obtain ⟨x26, ex26, hf⟩ := kv_lt_e hf
                refine lv_iinc (v := x26) (lv' := [(7, .int x26), (9, .int x24), (6, .int r17), (5, .int x10), (4, .int r4), (3, .int r3), (0, .ref (aZ 0)), (1, .int p0), (2, .int p1)]) hx hb dX8_order_141 hl (k := 2) rfl (by rw [ex26]; rfl) (by decide) rfl (fun ls hl => ?_)
                refine lv_goto (tgt := 65) hx hb dX8_order_144 (by decide) ?_
                exact ih _ _ _ _ _ _ hP hD hS (lv_sub hl [0, 2, 3, 4, 5, 6, 7, 8] rfl) hf
              refine lv_icmp_eq (tgt := 107) hx hb dX8_order_97 (by decide) (fun hc => ?_) (fun hc => ?_)
              · have hf := kv_t hc hf
                exact J107_18 _ _ _ hP hD hS (lv_sub hl [0, 1, 3, 4, 5, 6, 7, 8] rfl) hf
              · have hf := kv_f hc hf
                refine lv_iload hx hb dX8_order_100 (lv_at hl 0 rfl) ?_
                refine lv_iload hx hb dX8_order_102 (lv_at hl 2 rfl) ?_
                refine lv_icmp_ge (tgt := 141) hx hb dX8_order_104 (by decide) (fun hc => ?_) (fun hc => ?_)
                · have hf := kv_t hc hf
                  obtain ⟨x27, ex27, hf⟩ := kv_lt_e hf
                  refine lv_iinc (v := x27) (lv' := [(7, .int x27), (8, .int r17), (6, .int x12), (5, .int x10), (4, .int r4), (3, .int r3), (0, .ref (aZ 0)), (1, .int p0), (2, .int p1)]) hx hb dX8_order_141 hl (k := 1) rfl (by rw [ex27]; rfl) (by decide) rfl (fun ls hl => ?_)
                  refine lv_goto (tgt := 65) hx hb dX8_order_144 (by decide) ?_
                  exact ih _ _ _ _ _ _ hP hD hS (lv_sub hl [0, 2, 3, 4, 5, 6, 7, 8] rfl) hf
                · have hf := kv_f hc hf
                  exact J107_18 _ _ _ hP hD hS (lv_sub hl [0, 1, 3, 4, 5, 6, 7, 8] rfl) hf
      refine L65 _ (fun x28 x29 mZ30 H locs ls hP hD hS hl hf => ?_) _ _ _ _ _ _ _ hP hD hS (lv_sub hl [0, 1, 2, 3, 4, 5, 6, 7] rfl) hf
      refine lv_iload_n hx hb dX8_order_147 rfl (lv_at hl 7 rfl) ?_
      refine lv_iconst (v := (-1)) hx hb dX8_order_148 (by decide) ?_
      refine lv_icmp_ne (tgt := 157) hx hb dX8_order_149 (by decide) (fun hc => ?_) (fun hc => ?_)
      · have hf := kv_f hc hf
        refine lv_iload_n hx hb dX8_order_157 rfl (lv_at hl 7 rfl) ?_
        refine lv_iload hx hb dX8_order_158 (lv_at hl 3 rfl) ?_
        refine lv_icmp_ge (tgt := 172) hx hb dX8_order_160 (by decide) (fun hc => ?_) (fun hc => ?_)
        · have hf := kv_t hc hf
          refine lv_bipush (v := (-9)) hx hb dX8_order_172 (by decide) ?_
          exact hret _ _ _ _ _ _ hf rfl hP hD hS dX8_order_174
        · have hf := kv_f hc hf
          refine lv_aload_n hx hb dX8_order_163 rfl (lv_at hl 5 rfl) ?_
          refine va_get (D := D) (ci := 8) (v := .ref (aZ 16)) (C := RX8) (T := TX8) (N := 26) hx hb hts iX8 hown hK hP 0 rfl rfl 22 (by decide) q0 (fun _ h9 => h9) rfl dX8_order_164 ?_
          refine lv_iload_n hx hb dX8_order_167 rfl (lv_at hl 7 rfl) ?_
          obtain ⟨h9, hf⟩ := kv_ix_e hf
          refine va_iald hx hb hK hP 16 1 rfl rfl h9 dX8_order_168 ?_
          refine lv_goto (tgt := 174) hx hb dX8_order_169 (by decide) ?_
          exact hret _ _ _ _ _ _ hf rfl hP hD hS dX8_order_174
      · have hf := kv_t hc hf
        refine lv_iload hx hb dX8_order_152 (lv_at hl 1 rfl) ?_
        refine lv_goto (tgt := 174) hx hb dX8_order_154 (by decide) ?_
        exact hret _ _ _ _ _ _ hf rfl hP hD hS dX8_order_174
    · have hf := kv_t hc hf
      refine lv_iconst (v := (-1)) hx hb dX8_order_19 (by decide) ?_
      exact hret _ _ _ _ _ _ hf rfl hP hD hS dX8_order_20
abbrev rX8_pegs : Room := { frames := 1, cells := 0, slots := 0, locals := 23 }
set_option maxHeartbeats 4000000 in
set_option maxRecDepth 100000 in
theorem ccX8_pegs (l : Launch) (D : va_G) (C : Nat → ClassId) (sz : Nat) (aZ : Nat → Nat) (mZ : Mm) (mY : Int64) (rr : Int32) (hf : ffX8_pegs mZ = some (rr)) : Met l yX8_pegs wsX8_pegs rX8_pegs (va_Pc [.ref (aZ 0)] (vv_pre D C (w_MD C aZ mZ mY) sz)) (vv_QI D C (w_MD C aZ mZ mY) (w_MD C aZ mZ mY) sz rr) 0 0 (va_A (w_MD C aZ mZ mY) sz) := by
  unfold ffX8_pegs at hf
  refine vv_metI (cc := cX8_pegs) (maxL := 4) (ty := .int) (by decide) rfl (Nat.le_of_ble_eq_true rfl) ?_
  intro p e s m args below meth c A Q H locs ls hx hb hml hown hts hA hK hN hP hD hS hl hret
  have hown : s.vm.findClass RX8 = some m.cls := hown
  have hl : lv_has ls 4 [(0, .ref (aZ 0))] := hl
  have hret : ∀ (v0 : Int32) (H : Heap) (locs : List Loc) (ls : Array Slot) (pc : Nat), some (v0) = some (rr) → narrow .int (.int v0) = .int v0 → va_P D vwCl (w_MD C aZ mZ mY) H → va_D A (w_MD C aZ mZ mY) → va_S A s.heap H locs → decode cX8_pegs pc = .ok (.ireturn, 1) → W p l e rX8_pegs s m args below meth c H locs 0 0 Q (F0 m pc ls [.int v0]) := by
    intro v0 H locs ls pc h0 hn h1 h2 h3 h4
    cases h0
    exact hret H locs ls pc hn h1 h2 h3 h4
  have q0 := hts (.fieldLink RX8 26 "ForeRainModel" "spots" "[I") (by decide +kernel)
  have q1 := hts (.fieldLink RX8 20 "ForeRainModel" "wide" "[I") (by decide +kernel)
  have q2 := hts (.fieldLink RX8 32 "ForeRainModel" "wind" "[I") (by decide +kernel)
  have iX8 : ∀ w ∈ u_ws RX8 TX8 26, w ∈ wsX8_pegs := by decide +kernel
  refine lv_iconst (v := 0) hx hb dX8_pegs_0 (by decide) ?_
  refine lv_istore_n (lv' := [(1, .int 0), (0, .ref (aZ 0))]) hx hb dX8_pegs_1 rfl hl (by decide) rfl (fun ls hl => ?_)
  refine lv_iconst (v := 0) hx hb dX8_pegs_2 (by decide) ?_
  refine lv_istore_n (lv' := [(2, .int 0), (1, .int 0), (0, .ref (aZ 0))]) hx hb dX8_pegs_3 rfl hl (by decide) rfl (fun ls hl => ?_)
  have L4 : ∀ (K4 : Int32 → Int32 → Option (Int32)), (∀ (x1 : Int32) (x2 : Int32) (H : Heap) (locs : List Loc) (ls : Array Slot), va_P D vwCl (w_MD C aZ mZ mY) H → va_D A (w_MD C aZ mZ mY) → va_S A s.heap H locs → lv_has ls 4 [(2, .int x1), (1, .int x2), (0, .ref (aZ 0))] → K4 x1 x2 = some (rr) → W p l e rX8_pegs s m args below meth c H locs 0 0 Q (F0 m 89 ls [])) → ∀ (n : Nat) (x1 : Int32) (x2 : Int32) (H : Heap) (locs : List Loc) (ls : Array Slot), va_P D vwCl (w_MD C aZ mZ mY) H → va_D A (w_MD C aZ mZ mY) → va_S A s.heap H locs → lv_has ls 4 [(2, .int x1), (1, .int x2), (0, .ref (aZ 0))] → ffX8_pegs_L4 mZ K4 n x1 x2 = some (rr) → W p l e rX8_pegs s m args below meth c H locs 0 0 Q (F0 m 4 ls []) := by
    intro K4 hK9 n
    induction n with
    | zero => intro x1 x2 H locs ls hP hD hS hl hf; exact kv_no hf
    | succ n ih =>
      intro x1 x2 H locs ls hP hD hS hl hf
      rw [ffX8_pegs_L4_s] at hf
      refine lv_iload_n hx hb dX8_pegs_4 rfl (lv_at hl 0 rfl) ?_
      refine lv_aload_n hx hb dX8_pegs_5 rfl (lv_at hl 2 rfl) ?_
      refine va_get (D := D) (ci := 8) (v := .ref (aZ 6)) (C := RX8) (T := TX8) (N := 26) hx hb hts iX8 hown hK hP 0 rfl rfl 7 (by decide) q0 (fun _ h9 => h9) rfl dX8_pegs_6 ?_
      refine lv_iconst (v := 0) hx hb dX8_pegs_9 (by decide) ?_
      obtain ⟨h9, hf⟩ := kv_ix_e hf
      refine va_iald hx hb hK hP 6 1 rfl rfl h9 dX8_pegs_10 ?_
      refine lv_icmp_ge (tgt := 89) hx hb dX8_pegs_11 (by decide) (fun hc => ?_) (fun hc => ?_)
      · have hf := kv_t hc hf
        exact hK9 _ _ _ _ _ hP hD hS (lv_sub hl [0, 1, 2] rfl) hf
      · have hf := kv_f hc hf
        refine lv_aload_n hx hb dX8_pegs_14 rfl (lv_at hl 2 rfl) ?_
        refine lv_iconst (v := 0) hx hb dX8_pegs_15 (by decide) ?_
        refine lv_iload_n hx hb dX8_pegs_16 rfl (lv_at hl 0 rfl) ?_
        obtain ⟨r3, hc, hf⟩ := kv_b1_e hf
        have hs9 : vv_Sub D H A (w_MD C aZ mZ mY) (w_MD C aZ mZ mY) (w_MD C aZ mZ mY) := vv_Sub.same (w_MD C aZ mZ mY) hP hD hS hA
        refine vv_goi (wn := (w_MD C aZ mZ mY)) hK hs9 hS (vv_rV (As := [.int 0, .int x1]) (rest := []) hx hb hml hown hts hK hN hS hs9 (ccX8_pieceOn l D C H.size aZ mZ mY (0 : Int32) x1 r3 hc) (cwV 2 hts gX8_pegs_X8_pieceOn rfl rfl rfl (by decide +kernel) ⟨(Nat.le_of_ble_eq_true rfl), (Nat.le_of_ble_eq_true rfl)⟩) (va_recv hK hP (ci := 8) (q0 := 0) rfl rfl) rfl hl.1 rfl (Nat.le_of_ble_eq_true rfl) dX8_pegs_17 ⟨Nat.zero_le _, Nat.zero_le _⟩) (fun H locs hP hD hS => ?_)
        refine lv_istore_n (lv' := [(3, .int r3), (2, .int x1), (1, .int x2), (0, .ref (aZ 0))]) hx hb dX8_pegs_20 rfl hl (by decide) rfl (fun ls hl => ?_)
        refine lv_iload_n hx hb dX8_pegs_21 rfl (lv_at hl 2 rfl) ?_
        refine lv_iload_n hx hb dX8_pegs_22 rfl (lv_at hl 0 rfl) ?_
        refine lv_bipush (v := (-9)) hx hb dX8_pegs_23 (by decide) ?_
        obtain ⟨k50_4, ek50_4, hf⟩ := kv_lt_e hf
        have J50_4 : ∀ (x5 : Int32) (H : Heap) (locs : List Loc) (ls : Array Slot), va_P D vwCl (w_MD C aZ mZ mY) H → va_D A (w_MD C aZ mZ mY) → va_S A s.heap H locs → lv_has ls 4 [(3, .int r3), (2, .int x1), (0, .ref (aZ 0))] → k50_4 x5 = some (rr) → W p l e rX8_pegs s m args below meth c H locs 0 0 Q (F0 m 50 ls [.int x5, .int x2]) := by
          intro x5 H locs ls hP hD hS hl hf
          rw [ek50_4] at hf
          refine lv_iadd hx hb dX8_pegs_50 ?_
          obtain ⟨x6, ex6, hf⟩ := kv_lt_e hf
          refine vv_nami ex6 ?_
          refine lv_istore_n (lv' := [(1, .int x6), (3, .int r3), (2, .int x1), (0, .ref (aZ 0))]) hx hb dX8_pegs_51 rfl hl (by decide) rfl (fun ls hl => ?_)
          refine lv_iload_n hx hb dX8_pegs_52 rfl (lv_at hl 0 rfl) ?_
          refine lv_iload_n hx hb dX8_pegs_53 rfl (lv_at hl 1 rfl) ?_
          refine lv_bipush (v := (-9)) hx hb dX8_pegs_54 (by decide) ?_
          obtain ⟨k80_7, ek80_7, hf⟩ := kv_lt_e hf
          have J80_7 : ∀  (H : Heap) (locs : List Loc) (ls : Array Slot), va_P D vwCl (w_MD C aZ mZ mY) H → va_D A (w_MD C aZ mZ mY) → va_S A s.heap H locs → lv_has ls 4 [(2, .int x1), (0, .ref (aZ 0))] → k80_7  = some (rr) → W p l e rX8_pegs s m args below meth c H locs 0 0 Q (F0 m 80 ls [.int x6]) := by
            intro  H locs ls hP hD hS hl hf
            rw [ek80_7] at hf
            refine lv_iconst (v := 0) hx hb dX8_pegs_80 (by decide) ?_
            refine lv_isub hx hb dX8_pegs_81 ?_
            obtain ⟨x8, ex8, hf⟩ := kv_lt_e hf
            refine vv_nami ex8 ?_
            refine lv_istore_n (lv' := [(1, .int x8), (2, .int x1), (0, .ref (aZ 0))]) hx hb dX8_pegs_82 rfl hl (by decide) rfl (fun ls hl => ?_)
            obtain ⟨x9, ex9, hf⟩ := kv_lt_e hf
            refine lv_iinc (v := x9) (lv' := [(2, .int x9), (1, .int x8), (0, .ref (aZ 0))]) hx hb dX8_pegs_83 hl (k := 1) rfl (by rw [ex9]; rfl) (by decide) rfl (fun ls hl => ?_)
            refine lv_goto (tgt := 4) hx hb dX8_pegs_86 (by decide) ?_
            exact ih _ _ _ _ _ hP hD hS (lv_sub hl [0, 1, 2] rfl) hf
          refine lv_icmp_eq (tgt := 80) hx hb dX8_pegs_56 (by decide) (fun hc => ?_) (fun hc => ?_)
          · have hf := kv_t hc hf
            exact J80_7 _ _ _ hP hD hS (lv_sub hl [2, 3] rfl) hf
          · have hf := kv_f hc hf
            refine lv_iload_n hx hb dX8_pegs_59 rfl (lv_at hl 2 rfl) ?_
            refine lv_if_le (tgt := 80) hx hb dX8_pegs_60 (by decide) (fun hc => ?_) (fun hc => ?_)
            · have hf := kv_t hc hf
              exact J80_7 _ _ _ hP hD hS (lv_sub hl [2, 3] rfl) hf
            · have hf := kv_f hc hf
              refine lv_aload_n hx hb dX8_pegs_63 rfl (lv_at hl 3 rfl) ?_
              refine lv_iconst (v := 0) hx hb dX8_pegs_64 (by decide) ?_
              refine lv_iload_n hx hb dX8_pegs_65 rfl (lv_at hl 2 rfl) ?_
              refine lv_iconst (v := 1) hx hb dX8_pegs_66 (by decide) ?_
              refine lv_isub hx hb dX8_pegs_67 ?_
              obtain ⟨r10, hc, hf⟩ := kv_b1_e hf
              have hs9 : vv_Sub D H A (w_MD C aZ mZ mY) (w_MD C aZ mZ mY) (w_MD C aZ mZ mY) := vv_Sub.same (w_MD C aZ mZ mY) hP hD hS hA
              refine vv_goi (wn := (w_MD C aZ mZ mY)) hK hs9 hS (vv_rV (As := [.int 0, .int (x1 - 1)]) (rest := [.int x6]) hx hb hml hown hts hK hN hS hs9 (ccX8_pieceOn l D C H.size aZ mZ mY (0 : Int32) (x1 - 1) r10 hc) (cwV 2 hts gX8_pegs_X8_pieceOn rfl rfl rfl (by decide +kernel) ⟨(Nat.le_of_ble_eq_true rfl), (Nat.le_of_ble_eq_true rfl)⟩) (va_recv hK hP (ci := 8) (q0 := 0) rfl rfl) rfl hl.1 rfl (Nat.le_of_ble_eq_true rfl) dX8_pegs_68 ⟨Nat.zero_le _, Nat.zero_le _⟩) (fun H locs hP hD hS => ?_)
              refine lv_bipush (v := (-9)) hx hb dX8_pegs_71 (by decide) ?_
              refine lv_icmp_eq (tgt := 80) hx hb dX8_pegs_73 (by decide) (fun hc => ?_) (fun hc => ?_)
              · have hf := kv_t hc hf
                exact J80_7 _ _ _ hP hD hS (lv_sub hl [2, 3] rfl) hf
              · have hf := kv_f hc hf
                refine lv_iconst (v := 1) hx hb dX8_pegs_76 (by decide) ?_
                refine lv_goto (tgt := 81) hx hb dX8_pegs_77 (by decide) ?_
                refine lv_isub hx hb dX8_pegs_81 ?_
                obtain ⟨x11, ex11, hf⟩ := kv_lt_e hf
                refine vv_nami ex11 ?_
                refine lv_istore_n (lv' := [(1, .int x11), (3, .int r3), (2, .int x1), (0, .ref (aZ 0))]) hx hb dX8_pegs_82 rfl hl (by decide) rfl (fun ls hl => ?_)
                obtain ⟨x12, ex12, hf⟩ := kv_lt_e hf
                refine lv_iinc (v := x12) (lv' := [(2, .int x12), (1, .int x11), (3, .int r3), (0, .ref (aZ 0))]) hx hb dX8_pegs_83 hl (k := 2) rfl (by rw [ex12]; rfl) (by decide) rfl (fun ls hl => ?_)
                refine lv_goto (tgt := 4) hx hb dX8_pegs_86 (by decide) ?_
                exact ih _ _ _ _ _ hP hD hS (lv_sub hl [0, 1, 3] rfl) hf
        refine lv_icmp_ne (tgt := 32) hx hb dX8_pegs_25 (by decide) (fun hc => ?_) (fun hc => ?_)
        · have hf := kv_f hc hf
          refine lv_iconst (v := 1) hx hb dX8_pegs_32 (by decide) ?_
          refine lv_aload_n hx hb dX8_pegs_33 rfl (lv_at hl 3 rfl) ?_
          refine va_get (D := D) (ci := 8) (v := .ref (aZ 4)) (C := RX8) (T := TX8) (N := 26) hx hb hts iX8 hown hK hP 0 rfl rfl 5 (by decide) q1 (fun _ h9 => h9) rfl dX8_pegs_34 ?_
          refine lv_iload_n hx hb dX8_pegs_37 rfl (lv_at hl 0 rfl) ?_
          obtain ⟨h9, hf⟩ := kv_ix_e hf
          refine va_iald hx hb hK hP 4 1 rfl rfl h9 dX8_pegs_38 ?_
          refine lv_aload_n hx hb dX8_pegs_39 rfl (lv_at hl 3 rfl) ?_
          refine va_get (D := D) (ci := 8) (v := .ref (aZ 8)) (C := RX8) (T := TX8) (N := 26) hx hb hts iX8 hown hK hP 0 rfl rfl 9 (by decide) q2 (fun _ h9 => h9) rfl dX8_pegs_40 ?_
          refine lv_iload_n hx hb dX8_pegs_43 rfl (lv_at hl 1 rfl) ?_
          obtain ⟨h9, hf⟩ := kv_ix_e hf
          refine va_iald hx hb hK hP 8 1 rfl rfl h9 dX8_pegs_44 ?_
          refine lv_imul hx hb dX8_pegs_45 ?_
          refine lv_bipush (v := 9) hx hb dX8_pegs_46 (by decide) ?_
          refine lv_idiv hx hb dX8_pegs_48 (by decide) ?_
          refine lv_iadd hx hb dX8_pegs_49 ?_
          exact J50_4 _ _ _ _ hP hD hS (lv_sub hl [0, 1, 3] rfl) hf
        · have hf := kv_t hc hf
          refine lv_iconst (v := 0) hx hb dX8_pegs_28 (by decide) ?_
          refine lv_goto (tgt := 50) hx hb dX8_pegs_29 (by decide) ?_
          exact J50_4 _ _ _ _ hP hD hS (lv_sub hl [0, 1, 3] rfl) hf
  refine L4 _ (fun x13 x14 H locs ls hP hD hS hl hf => ?_) _ _ _ _ _ _ hP hD hS (lv_sub hl [0, 1, 2] rfl) hf
  refine lv_iload_n hx hb dX8_pegs_89 rfl (lv_at hl 1 rfl) ?_
  exact hret _ _ _ _ _ hf rfl hP hD hS dX8_pegs_90
abbrev rX8_piece : Room := { frames := 2, cells := 0, slots := 0, locals := 43 }
set_option maxHeartbeats 4000000 in
set_option maxRecDepth 100000 in
theorem ccX8_piece (l : Launch) (D : va_G) (C : Nat → ClassId) (sz : Nat) (aZ : Nat → Nat) (mZ : Mm) (mY : Int64) (p0 : Int32) (p1 : Int32) (rr : Int32) (hf : ffX8_piece p0 p1 mZ = some (rr)) : Met l yX8_piece wsX8_piece rX8_piece (va_Pc [.ref (aZ 0), .int p0, .int p1] (vv_pre D C (w_MD C aZ mZ mY) sz)) (vv_QI D C (w_MD C aZ mZ mY) (w_MD C aZ mZ mY) sz rr) 0 0 (va_A (w_MD C aZ mZ mY) sz) := by
  unfold ffX8_piece at hf
  refine vv_metI (cc := cX8_piece) (maxL := 3) (ty := .int) (by decide) rfl (Nat.le_of_ble_eq_true rfl) ?_
  intro p e s m args below meth c A Q H locs ls hx hb hml hown hts hA hK hN hP hD hS hl hret
  have hown : s.vm.findClass RX8 = some m.cls := hown
  have hl : lv_has ls 3 [(0, .ref (aZ 0)), (1, .int p0), (2, .int p1)] := hl
  have hret : ∀ (v0 : Int32) (H : Heap) (locs : List Loc) (ls : Array Slot) (pc : Nat), some (v0) = some (rr) → narrow .int (.int v0) = .int v0 → va_P D vwCl (w_MD C aZ mZ mY) H → va_D A (w_MD C aZ mZ mY) → va_S A s.heap H locs → decode cX8_piece pc = .ok (.ireturn, 1) → W p l e rX8_piece s m args below meth c H locs 0 0 Q (F0 m pc ls [.int v0]) := by
    intro v0 H locs ls pc h0 hn h1 h2 h3 h4
    cases h0
    exact hret H locs ls pc hn h1 h2 h3 h4
  have q0 := hts (.fieldLink RX8 41 "ForeRainModel" "now" "[I") (by decide +kernel)
  have q1 := hts (.fieldLink RX8 20 "ForeRainModel" "wide" "[I") (by decide +kernel)
  have q2 := hts (.fieldLink RX8 23 "ForeRainModel" "cloth" "[I") (by decide +kernel)
  have iX8 : ∀ w ∈ u_ws RX8 TX8 26, w ∈ wsX8_piece := by decide +kernel
  refine lv_aload_n hx hb dX8_piece_0 rfl (lv_at hl 0 rfl) ?_
  refine lv_iload_n hx hb dX8_piece_1 rfl (lv_at hl 1 rfl) ?_
  obtain ⟨r1, hc, hf⟩ := kv_b1_e hf
  have hs9 : vv_Sub D H A (w_MD C aZ mZ mY) (w_MD C aZ mZ mY) (w_MD C aZ mZ mY) := vv_Sub.same (w_MD C aZ mZ mY) hP hD hS hA
  refine vv_goi (wn := (w_MD C aZ mZ mY)) hK hs9 hS (vv_rV (As := [.int p0]) (rest := []) hx hb hml hown hts hK hN hS hs9 (ccX8_isPiece l D C H.size aZ mZ mY p0 r1 hc) (cwV 1 hts gX8_piece_X8_isPiece rfl rfl rfl (by decide +kernel) ⟨(Nat.le_of_ble_eq_true rfl), (Nat.le_of_ble_eq_true rfl)⟩) (va_recv hK hP (ci := 8) (q0 := 0) rfl rfl) rfl hl.1 rfl (Nat.le_of_ble_eq_true rfl) dX8_piece_2 ⟨Nat.zero_le _, Nat.zero_le _⟩) (fun H locs hP hD hS => ?_)
  refine lv_if_ne (tgt := 10) hx hb dX8_piece_5 (by decide) (fun hc => ?_) (fun hc => ?_)
  · have hf := kv_f hc hf
    refine lv_iload_n hx hb dX8_piece_10 rfl (lv_at hl 2 rfl) ?_
    by_cases c0 : p1 = 0
    · have hf := kv_t c0 hf
      refine lv_tableIn (off := 37) (tgt := 48) hx hb dX8_piece_11 (by rw [c0]; decide) (by rw [c0]; decide) (by rw [c0]; rfl) (by decide) ?_
      refine lv_aload_n hx hb dX8_piece_48 rfl (lv_at hl 0 rfl) ?_
      refine va_get (D := D) (ci := 8) (v := .ref (aZ 11)) (C := RX8) (T := TX8) (N := 26) hx hb hts iX8 hown hK hP 0 rfl rfl 17 (by decide) q0 (fun _ h9 => h9) rfl dX8_piece_49 ?_
      refine lv_iconst (v := 2) hx hb dX8_piece_52 (by decide) ?_
      refine lv_iload_n hx hb dX8_piece_53 rfl (lv_at hl 1 rfl) ?_
      refine lv_iadd hx hb dX8_piece_54 ?_
      obtain ⟨h9, hf⟩ := kv_ix_e hf
      refine va_iald hx hb hK hP 11 1 rfl rfl h9 dX8_piece_55 ?_
      exact hret _ _ _ _ _ hf rfl hP hD hS dX8_piece_56
    have hf := kv_f c0 hf
    by_cases c1 : p1 = 1
    · have hf := kv_t c1 hf
      refine lv_tableIn (off := 46) (tgt := 57) hx hb dX8_piece_11 (by rw [c1]; decide) (by rw [c1]; decide) (by rw [c1]; rfl) (by decide) ?_
      refine lv_aload_n hx hb dX8_piece_57 rfl (lv_at hl 0 rfl) ?_
      refine va_get (D := D) (ci := 8) (v := .ref (aZ 4)) (C := RX8) (T := TX8) (N := 26) hx hb hts iX8 hown hK hP 0 rfl rfl 5 (by decide) q1 (fun _ h9 => h9) rfl dX8_piece_58 ?_
      refine lv_iload_n hx hb dX8_piece_61 rfl (lv_at hl 1 rfl) ?_
      obtain ⟨h9, hf⟩ := kv_ix_e hf
      refine va_iald hx hb hK hP 4 1 rfl rfl h9 dX8_piece_62 ?_
      exact hret _ _ _ _ _ hf rfl hP hD hS dX8_piece_63
    have hf := kv_f c1 hf
    by_cases c2 : p1 = 2
    · have hf := kv_t c2 hf
      refine lv_tableIn (off := 53) (tgt := 64) hx hb dX8_piece_11 (by rw [c2]; decide) (by rw [c2]; decide) (by rw [c2]; rfl) (by decide) ?_
      refine lv_aload_n hx hb dX8_piece_64 rfl (lv_at hl 0 rfl) ?_
      refine va_get (D := D) (ci := 8) (v := .ref (aZ 5)) (C := RX8) (T := TX8) (N := 26) hx hb hts iX8 hown hK hP 0 rfl rfl 6 (by decide) q2 (fun _ h9 => h9) rfl dX8_piece_65 ?_
      refine lv_iload_n hx hb dX8_piece_68 rfl (lv_at hl 1 rfl) ?_
      obtain ⟨h9, hf⟩ := kv_ix_e hf
      refine va_iald hx hb hK hP 5 1 rfl rfl h9 dX8_piece_69 ?_
      exact hret _ _ _ _ _ hf rfl hP hD hS dX8_piece_70
    have hf := kv_f c2 hf
    by_cases c3 : p1 = 3
    · have hf := kv_t c3 hf
      refine lv_tableIn (off := 60) (tgt := 71) hx hb dX8_piece_11 (by rw [c3]; decide) (by rw [c3]; decide) (by rw [c3]; rfl) (by decide) ?_
      refine lv_aload_n hx hb dX8_piece_71 rfl (lv_at hl 0 rfl) ?_
      refine va_get (D := D) (ci := 8) (v := .ref (aZ 11)) (C := RX8) (T := TX8) (N := 26) hx hb hts iX8 hown hK hP 0 rfl rfl 17 (by decide) q0 (fun _ h9 => h9) rfl dX8_piece_72 ?_
      refine lv_bipush (v := 8) hx hb dX8_piece_75 (by decide) ?_
      refine lv_iload_n hx hb dX8_piece_77 rfl (lv_at hl 1 rfl) ?_
      refine lv_iadd hx hb dX8_piece_78 ?_
      obtain ⟨h9, hf⟩ := kv_ix_e hf
      refine va_iald hx hb hK hP 11 1 rfl rfl h9 dX8_piece_79 ?_
      exact hret _ _ _ _ _ hf rfl hP hD hS dX8_piece_80
    have hf := kv_f c3 hf
    by_cases c4 : p1 = 4
    · have hf := kv_t c4 hf
      refine lv_tableIn (off := 70) (tgt := 81) hx hb dX8_piece_11 (by rw [c4]; decide) (by rw [c4]; decide) (by rw [c4]; rfl) (by decide) ?_
      refine lv_aload_n hx hb dX8_piece_81 rfl (lv_at hl 0 rfl) ?_
      refine va_get (D := D) (ci := 8) (v := .ref (aZ 11)) (C := RX8) (T := TX8) (N := 26) hx hb hts iX8 hown hK hP 0 rfl rfl 17 (by decide) q0 (fun _ h9 => h9) rfl dX8_piece_82 ?_
      refine lv_bipush (v := 14) hx hb dX8_piece_85 (by decide) ?_
      refine lv_iload_n hx hb dX8_piece_87 rfl (lv_at hl 1 rfl) ?_
      refine lv_iadd hx hb dX8_piece_88 ?_
      obtain ⟨h9, hf⟩ := kv_ix_e hf
      refine va_iald hx hb hK hP 11 1 rfl rfl h9 dX8_piece_89 ?_
      exact hret _ _ _ _ _ hf rfl hP hD hS dX8_piece_90
    have hf := kv_f c4 hf
    by_cases c5 : p1 = 5
    · have hf := kv_t c5 hf
      refine lv_tableIn (off := 80) (tgt := 91) hx hb dX8_piece_11 (by rw [c5]; decide) (by rw [c5]; decide) (by rw [c5]; rfl) (by decide) ?_
      refine lv_aload_n hx hb dX8_piece_91 rfl (lv_at hl 0 rfl) ?_
      refine va_get (D := D) (ci := 8) (v := .ref (aZ 11)) (C := RX8) (T := TX8) (N := 26) hx hb hts iX8 hown hK hP 0 rfl rfl 17 (by decide) q0 (fun _ h9 => h9) rfl dX8_piece_92 ?_
      refine lv_bipush (v := 20) hx hb dX8_piece_95 (by decide) ?_
      refine lv_iload_n hx hb dX8_piece_97 rfl (lv_at hl 1 rfl) ?_
      refine lv_iadd hx hb dX8_piece_98 ?_
      obtain ⟨h9, hf⟩ := kv_ix_e hf
      refine va_iald hx hb hK hP 11 1 rfl rfl h9 dX8_piece_99 ?_
      exact hret _ _ _ _ _ hf rfl hP hD hS dX8_piece_100
    have hf := kv_f c5 hf
    refine lv_tableOut (tgt := 101) hx hb dX8_piece_11 (by have a0 : p1.toInt ≠ 0 := kv_ti c0; have a1 : p1.toInt ≠ 1 := kv_ti c1; have a2 : p1.toInt ≠ 2 := kv_ti c2; have a3 : p1.toInt ≠ 3 := kv_ti c3; have a4 : p1.toInt ≠ 4 := kv_ti c4; have a5 : p1.toInt ≠ 5 := kv_ti c5; omega) (by decide) ?_
    refine lv_iconst (v := (-1)) hx hb dX8_piece_101 (by decide) ?_
    exact hret _ _ _ _ _ hf rfl hP hD hS dX8_piece_102
  · have hf := kv_t hc hf
    refine lv_iconst (v := (-1)) hx hb dX8_piece_8 (by decide) ?_
    exact hret _ _ _ _ _ hf rfl hP hD hS dX8_piece_9
abbrev rX8_rack : Room := { frames := 2, cells := 0, slots := 0, locals := 43 }
set_option maxHeartbeats 4000000 in
set_option maxRecDepth 100000 in
theorem ccX8_rack (l : Launch) (D : va_G) (C : Nat → ClassId) (sz : Nat) (aZ : Nat → Nat) (mZ : Mm) (mY : Int64) (p0 : Int32) (rr : Int32) (oZ : Mm) (hf : ffX8_rack p0 mZ = some (rr, oZ)) : Met l yX8_rack wsX8_rack rX8_rack (va_Pc [.ref (aZ 0), .int p0] (vv_pre D C (w_MD C aZ mZ mY) sz)) (vv_QI D C (w_MD C aZ mZ mY) (w_MD C aZ oZ mY) sz rr) 0 0 (va_A (w_MD C aZ mZ mY) sz) := by
  unfold ffX8_rack at hf
  refine vv_metI (cc := cX8_rack) (maxL := 2) (ty := .int) (by decide) rfl (Nat.le_of_ble_eq_true rfl) ?_
  intro p e s m args below meth c A Q H locs ls hx hb hml hown hts hA hK hN hP hD hS hl hret
  have hown : s.vm.findClass RX8 = some m.cls := hown
  have hl : lv_has ls 2 [(0, .ref (aZ 0)), (1, .int p0)] := hl
  have hret : ∀ (v0 : Int32) (v1 : Mm) (H : Heap) (locs : List Loc) (ls : Array Slot) (pc : Nat), some (v0, v1) = some (rr, oZ) → narrow .int (.int v0) = .int v0 → va_P D vwCl (w_MD C aZ v1 mY) H → va_D A (w_MD C aZ v1 mY) → va_S A s.heap H locs → decode cX8_rack pc = .ok (.ireturn, 1) → W p l e rX8_rack s m args below meth c H locs 0 0 Q (F0 m pc ls [.int v0]) := by
    intro v0 v1 H locs ls pc h0 hn h1 h2 h3 h4
    cases h0
    exact hret H locs ls pc hn h1 h2 h3 h4
  have q0 := hts (.fieldLink RX8 41 "ForeRainModel" "now" "[I") (by decide +kernel)
  have iX8 : ∀ w ∈ u_ws RX8 TX8 26, w ∈ wsX8_rack := by decide +kernel
  refine lv_aload_n hx hb dX8_rack_0 rfl (lv_at hl 0 rfl) ?_
  refine lv_iload_n hx hb dX8_rack_1 rfl (lv_at hl 1 rfl) ?_
  obtain ⟨r1, hc, hf⟩ := kv_b1_e hf
  have hs9 : vv_Sub D H A (w_MD C aZ mZ mY) (w_MD C aZ mZ mY) (w_MD C aZ mZ mY) := vv_Sub.same (w_MD C aZ mZ mY) hP hD hS hA
  refine vv_goi (wn := (w_MD C aZ mZ mY)) hK hs9 hS (vv_rV (As := [.int p0]) (rest := []) hx hb hml hown hts hK hN hS hs9 (ccX8_isPiece l D C H.size aZ mZ mY p0 r1 hc) (cwV 1 hts gX8_rack_X8_isPiece rfl rfl rfl (by decide +kernel) ⟨(Nat.le_of_ble_eq_true rfl), (Nat.le_of_ble_eq_true rfl)⟩) (va_recv hK hP (ci := 8) (q0 := 0) rfl rfl) rfl hl.1 rfl (Nat.le_of_ble_eq_true rfl) dX8_rack_2 ⟨Nat.zero_le _, Nat.zero_le _⟩) (fun H locs hP hD hS => ?_)
  refine lv_if_ne (tgt := 10) hx hb dX8_rack_5 (by decide) (fun hc => ?_) (fun hc => ?_)
  · have hf := kv_f hc hf
    refine lv_aload_n hx hb dX8_rack_10 rfl (lv_at hl 0 rfl) ?_
    refine va_get (D := D) (ci := 8) (v := .ref (aZ 11)) (C := RX8) (T := TX8) (N := 26) hx hb hts iX8 hown hK hP 0 rfl rfl 17 (by decide) q0 (fun _ h9 => h9) rfl dX8_rack_11 ?_
    refine lv_bipush (v := 20) hx hb dX8_rack_14 (by decide) ?_
    refine lv_iload_n hx hb dX8_rack_16 rfl (lv_at hl 1 rfl) ?_
    refine lv_iadd hx hb dX8_rack_17 ?_
    obtain ⟨h9, hf⟩ := kv_ix_e hf
    refine va_iald hx hb hK hP 11 1 rfl rfl h9 dX8_rack_18 ?_
    refine lv_bipush (v := 8) hx hb dX8_rack_19 (by decide) ?_
    refine lv_icmp_ne (tgt := 27) hx hb dX8_rack_21 (by decide) (fun hc => ?_) (fun hc => ?_)
    · have hf := kv_f hc hf
      refine lv_aload_n hx hb dX8_rack_27 rfl (lv_at hl 0 rfl) ?_
      obtain ⟨r2, hc, hf⟩ := kv_b1_e hf
      have hs9 : vv_Sub D H A (w_MD C aZ mZ mY) (w_MD C aZ mZ mY) (w_MD C aZ mZ mY) := vv_Sub.same (w_MD C aZ mZ mY) hP hD hS hA
      refine vv_goi (wn := (w_MD C aZ mZ mY)) hK hs9 hS (vv_rV (As := []) (rest := []) hx hb hml hown hts hK hN hS hs9 (ccX8_rackedNow l D C H.size aZ mZ mY r2 hc) (cwV 0 hts gX8_rack_X8_rackedNow rfl rfl rfl (by decide +kernel) ⟨(Nat.le_of_ble_eq_true rfl), (Nat.le_of_ble_eq_true rfl)⟩) (va_recv hK hP (ci := 8) (q0 := 0) rfl rfl) rfl hl.1 rfl (Nat.le_of_ble_eq_true rfl) dX8_rack_28 ⟨Nat.zero_le _, Nat.zero_le _⟩) (fun H locs hP hD hS => ?_)
      refine lv_iconst (v := 3) hx hb dX8_rack_31 (by decide) ?_
      refine lv_icmp_ne (tgt := 38) hx hb dX8_rack_32 (by decide) (fun hc => ?_) (fun hc => ?_)
      · have hf := kv_f hc hf
        refine lv_aload_n hx hb dX8_rack_38 rfl (lv_at hl 0 rfl) ?_
        refine va_get (D := D) (ci := 8) (v := .ref (aZ 11)) (C := RX8) (T := TX8) (N := 26) hx hb hts iX8 hown hK hP 0 rfl rfl 17 (by decide) q0 (fun _ h9 => h9) rfl dX8_rack_39 ?_
        refine lv_bipush (v := 20) hx hb dX8_rack_42 (by decide) ?_
        refine lv_iload_n hx hb dX8_rack_44 rfl (lv_at hl 1 rfl) ?_
        refine lv_iadd hx hb dX8_rack_45 ?_
        refine lv_bipush (v := 8) hx hb dX8_rack_46 (by decide) ?_
        obtain ⟨h9, hf⟩ := kv_ix_e hf
        obtain ⟨mZ3, emZ3, hf⟩ := kv_lt_e hf
        refine va_iast hx hb hK hP hD hS 11 1 rfl rfl h9 dX8_rack_48 (fun H locs hP hD hS => ?_)
        have hP : va_P D vwCl (w_MD C aZ mZ3 mY) H := by rw [emZ3]; exact hP
        have hD : va_D A (w_MD C aZ mZ3 mY) := by rw [emZ3]; exact hD
        refine lv_aload_n hx hb dX8_rack_49 rfl (lv_at hl 0 rfl) ?_
        obtain ⟨r4, hc, hf⟩ := kv_b1_e hf
        have hs9 : vv_Sub D H A (w_MD C aZ mZ3 mY) (w_MD C aZ mZ3 mY) (w_MD C aZ mZ3 mY) := vv_Sub.same (w_MD C aZ mZ3 mY) hP hD hS hA
        refine vv_goi (wn := (w_MD C aZ mZ3 mY)) hK hs9 hS (vv_rV (As := []) (rest := []) hx hb hml hown hts hK hN hS hs9 (ccX8_rackedNow l D C H.size aZ mZ3 mY r4 hc) (cwV 0 hts gX8_rack_X8_rackedNow rfl rfl rfl (by decide +kernel) ⟨(Nat.le_of_ble_eq_true rfl), (Nat.le_of_ble_eq_true rfl)⟩) (va_recv hK hP (ci := 8) (q0 := 0) rfl rfl) rfl hl.1 rfl (Nat.le_of_ble_eq_true rfl) dX8_rack_50 ⟨Nat.zero_le _, Nat.zero_le _⟩) (fun H locs hP hD hS => ?_)
        exact hret _ _ _ _ _ _ hf rfl hP hD hS dX8_rack_53
      · have hf := kv_t hc hf
        refine lv_bipush (v := (-3)) hx hb dX8_rack_35 (by decide) ?_
        exact hret _ _ _ _ _ _ hf rfl hP hD hS dX8_rack_37
    · have hf := kv_t hc hf
      refine lv_bipush (v := (-2)) hx hb dX8_rack_24 (by decide) ?_
      exact hret _ _ _ _ _ _ hf rfl hP hD hS dX8_rack_26
  · have hf := kv_t hc hf
    refine lv_iconst (v := (-1)) hx hb dX8_rack_8 (by decide) ?_
    exact hret _ _ _ _ _ _ hf rfl hP hD hS dX8_rack_9
abbrev rX8_right : Room := { frames := 1, cells := 0, slots := 0, locals := 23 }
set_option maxHeartbeats 4000000 in
set_option maxRecDepth 100000 in
theorem ccX8_right (l : Launch) (D : va_G) (C : Nat → ClassId) (sz : Nat) (aZ : Nat → Nat) (mZ : Mm) (mY : Int64) (p0 : Int32) (rr : Int32) (hf : ffX8_right p0 mZ = some (rr)) : Met l yX8_right wsX8_right rX8_right (va_Pc [.ref (aZ 0), .int p0] (vv_pre D C (w_MD C aZ mZ mY) sz)) (vv_QI D C (w_MD C aZ mZ mY) (w_MD C aZ mZ mY) sz rr) 0 0 (va_A (w_MD C aZ mZ mY) sz) := by
  unfold ffX8_right at hf
  refine vv_metI (cc := cX8_right) (maxL := 2) (ty := .int) (by decide) rfl (Nat.le_of_ble_eq_true rfl) ?_
  intro p e s m args below meth c A Q H locs ls hx hb hml hown hts hA hK hN hP hD hS hl hret
  have hown : s.vm.findClass RX8 = some m.cls := hown
  have hl : lv_has ls 2 [(0, .ref (aZ 0)), (1, .int p0)] := hl
  have hret : ∀ (v0 : Int32) (H : Heap) (locs : List Loc) (ls : Array Slot) (pc : Nat), some (v0) = some (rr) → narrow .int (.int v0) = .int v0 → va_P D vwCl (w_MD C aZ mZ mY) H → va_D A (w_MD C aZ mZ mY) → va_S A s.heap H locs → decode cX8_right pc = .ok (.ireturn, 1) → W p l e rX8_right s m args below meth c H locs 0 0 Q (F0 m pc ls [.int v0]) := by
    intro v0 H locs ls pc h0 hn h1 h2 h3 h4
    cases h0
    exact hret H locs ls pc hn h1 h2 h3 h4
  refine lv_iload_n hx hb dX8_right_0 rfl (lv_at hl 1 rfl) ?_
  refine lv_iconst (v := 0) hx hb dX8_right_1 (by decide) ?_
  refine lv_iconst (v := 1) hx hb dX8_right_2 (by decide) ?_
  obtain ⟨r1, hc, hf⟩ := kv_b1_e hf
  have hs9 : vv_Sub D H A ([] : va_W) ([] : va_W) (w_MD C aZ mZ mY) := vv_Sub.none hP hD hS hA
  refine vv_goi (wn := (w_MD C aZ mZ mY)) hK hs9 hS (vv_rS (As := [.int p0, .int 0, .int 1]) (rest := []) hx hb hml hown hts hK hN hS hs9 (ccX8_in l D C H.size p0 (0 : Int32) (1 : Int32) r1 hc) (va_cwS 3 hts gX8_right_X8_in rfl rfl rfl (by decide +kernel) ⟨(Nat.le_of_ble_eq_true rfl), (Nat.le_of_ble_eq_true rfl)⟩) rfl hl.1 rfl (Nat.le_of_ble_eq_true rfl) dX8_right_3 ⟨Nat.zero_le _, Nat.zero_le _⟩) (fun H locs hP hD hS => ?_)
  refine lv_if_eq (tgt := 17) hx hb dX8_right_6 (by decide) (fun hc => ?_) (fun hc => ?_)
  · have hf := kv_t hc hf
    refine lv_iconst (v := (-1)) hx hb dX8_right_17 (by decide) ?_
    exact hret _ _ _ _ _ hf rfl hP hD hS dX8_right_18
  · have hf := kv_f hc hf
    refine lv_aload_n hx hb dX8_right_9 rfl (lv_at hl 0 rfl) ?_
    refine lv_iload_n hx hb dX8_right_10 rfl (lv_at hl 1 rfl) ?_
    obtain ⟨r2, hc, hf⟩ := kv_b1_e hf
    have hs9 : vv_Sub D H A (w_MD C aZ mZ mY) (w_MD C aZ mZ mY) (w_MD C aZ mZ mY) := vv_Sub.same (w_MD C aZ mZ mY) hP hD hS hA
    refine vv_goi (wn := (w_MD C aZ mZ mY)) hK hs9 hS (vv_rV (As := [.int p0]) (rest := []) hx hb hml hown hts hK hN hS hs9 (ccX8_rightOf l D C H.size aZ mZ mY p0 r2 hc) (cwV 1 hts gX8_right_X8_rightOf rfl rfl rfl (by decide +kernel) ⟨(Nat.le_of_ble_eq_true rfl), (Nat.le_of_ble_eq_true rfl)⟩) (va_recv hK hP (ci := 8) (q0 := 0) rfl rfl) rfl hl.1 rfl (Nat.le_of_ble_eq_true rfl) dX8_right_11 ⟨Nat.zero_le _, Nat.zero_le _⟩) (fun H locs hP hD hS => ?_)
    refine lv_goto (tgt := 18) hx hb dX8_right_14 (by decide) ?_
    exact hret _ _ _ _ _ hf rfl hP hD hS dX8_right_18
abbrev rX8_roomFor : Room := { frames := 2, cells := 0, slots := 0, locals := 51 }
set_option maxHeartbeats 4000000 in
set_option maxRecDepth 100000 in
theorem ccX8_roomFor (l : Launch) (D : va_G) (C : Nat → ClassId) (sz : Nat) (aZ : Nat → Nat) (mZ : Mm) (mY : Int64) (p0 : Int32) (rr : Int32) (oZ : Mm) (hf : ffX8_roomFor p0 mZ = some (rr, oZ)) : Met l yX8_roomFor wsX8_roomFor rX8_roomFor (va_Pc [.ref (aZ 0), .int p0] (vv_pre D C (w_MD C aZ mZ mY) sz)) (vv_QI D C (w_MD C aZ mZ mY) (w_MD C aZ oZ mY) sz rr) 0 0 (va_A (w_MD C aZ mZ mY) sz) := by
  unfold ffX8_roomFor at hf
  refine vv_metI (cc := cX8_roomFor) (maxL := 6) (ty := .int) (by decide) rfl (Nat.le_of_ble_eq_true rfl) ?_
  intro p e s m args below meth c A Q H locs ls hx hb hml hown hts hA hK hN hP hD hS hl hret
  have hown : s.vm.findClass RX8 = some m.cls := hown
  have hl : lv_has ls 6 [(0, .ref (aZ 0)), (1, .int p0)] := hl
  have hret : ∀ (v0 : Int32) (v1 : Mm) (H : Heap) (locs : List Loc) (ls : Array Slot) (pc : Nat), some (v0, v1) = some (rr, oZ) → narrow .int (.int v0) = .int v0 → va_P D vwCl (w_MD C aZ v1 mY) H → va_D A (w_MD C aZ v1 mY) → va_S A s.heap H locs → decode cX8_roomFor pc = .ok (.ireturn, 1) → W p l e rX8_roomFor s m args below meth c H locs 0 0 Q (F0 m pc ls [.int v0]) := by
    intro v0 v1 H locs ls pc h0 hn h1 h2 h3 h4
    cases h0
    exact hret H locs ls pc hn h1 h2 h3 h4
  have q0 := hts (.fieldLink RX8 26 "ForeRainModel" "spots" "[I") (by decide +kernel)
  have q1 := hts (.fieldLink RX8 41 "ForeRainModel" "now" "[I") (by decide +kernel)
  have iX8 : ∀ w ∈ u_ws RX8 TX8 26, w ∈ wsX8_roomFor := by decide +kernel
  refine lv_iload_n hx hb dX8_roomFor_0 rfl (lv_at hl 1 rfl) ?_
  refine lv_iconst (v := 1) hx hb dX8_roomFor_1 (by decide) ?_
  refine lv_iconst (v := 5) hx hb dX8_roomFor_2 (by decide) ?_
  obtain ⟨r1, hc, hf⟩ := kv_b1_e hf
  have hs9 : vv_Sub D H A ([] : va_W) ([] : va_W) (w_MD C aZ mZ mY) := vv_Sub.none hP hD hS hA
  refine vv_goi (wn := (w_MD C aZ mZ mY)) hK hs9 hS (vv_rS (As := [.int p0, .int 1, .int 5]) (rest := []) hx hb hml hown hts hK hN hS hs9 (ccX8_in l D C H.size p0 (1 : Int32) (5 : Int32) r1 hc) (va_cwS 3 hts gX8_roomFor_X8_in rfl rfl rfl (by decide +kernel) ⟨(Nat.le_of_ble_eq_true rfl), (Nat.le_of_ble_eq_true rfl)⟩) rfl hl.1 rfl (Nat.le_of_ble_eq_true rfl) dX8_roomFor_3 ⟨Nat.zero_le _, Nat.zero_le _⟩) (fun H locs hP hD hS => ?_)
  refine lv_if_ne (tgt := 11) hx hb dX8_roomFor_6 (by decide) (fun hc => ?_) (fun hc => ?_)
  · have hf := kv_f hc hf
    refine lv_aload_n hx hb dX8_roomFor_11 rfl (lv_at hl 0 rfl) ?_
    refine lv_iconst (v := 0) hx hb dX8_roomFor_12 (by decide) ?_
    refine lv_bipush (v := 26) hx hb dX8_roomFor_13 (by decide) ?_
    obtain ⟨mZ2, hc, hf⟩ := kv_b1_e hf
    have hs9 : vv_Sub D H A (w_MD C aZ mZ mY) (w_MD C aZ mZ2 mY) (w_MD C aZ mZ2 mY) := vv_Sub.same (w_MD C aZ mZ2 mY) hP hD hS hA
    refine vv_gov (wn := (w_MD C aZ mZ2 mY)) hK hs9 hS (vv_rV (As := [.int 0, .int 26]) (rest := []) hx hb hml hown hts hK hN hS hs9 (ccX8_copy l D C H.size aZ mZ mY (0 : Int32) (26 : Int32) mZ2 hc) (cwV 2 hts gX8_roomFor_X8_copy rfl rfl rfl (by decide +kernel) ⟨(Nat.le_of_ble_eq_true rfl), (Nat.le_of_ble_eq_true rfl)⟩) (va_recv hK hP (ci := 8) (q0 := 0) rfl rfl) rfl hl.1 rfl (Nat.le_of_ble_eq_true rfl) dX8_roomFor_15 ⟨Nat.zero_le _, Nat.zero_le _⟩) (fun H locs hP hD hS => ?_)
    refine lv_iconst (v := 0) hx hb dX8_roomFor_18 (by decide) ?_
    refine lv_istore_n (lv' := [(2, .int 0), (0, .ref (aZ 0)), (1, .int p0)]) hx hb dX8_roomFor_19 rfl hl (by decide) rfl (fun ls hl => ?_)
    have L20 : ∀ (K20 : Int32 → Mm → Option (Int32 × Mm)), (∀ (x3 : Int32) (mZ4 : Mm) (H : Heap) (locs : List Loc) (ls : Array Slot), va_P D vwCl (w_MD C aZ mZ4 mY) H → va_D A (w_MD C aZ mZ4 mY) → va_S A s.heap H locs → lv_has ls 6 [(2, .int x3), (0, .ref (aZ 0)), (1, .int p0)] → K20 x3 mZ4 = some (rr, oZ) → W p l e rX8_roomFor s m args below meth c H locs 0 0 Q (F0 m 106 ls [])) → ∀ (n : Nat) (x3 : Int32) (mZ4 : Mm) (H : Heap) (locs : List Loc) (ls : Array Slot), va_P D vwCl (w_MD C aZ mZ4 mY) H → va_D A (w_MD C aZ mZ4 mY) → va_S A s.heap H locs → lv_has ls 6 [(2, .int x3), (0, .ref (aZ 0)), (1, .int p0)] → ffX8_roomFor_L20 p0 K20 n x3 mZ4 = some (rr, oZ) → W p l e rX8_roomFor s m args below meth c H locs 0 0 Q (F0 m 20 ls []) := by
      intro K20 hK9 n
      induction n with
      | zero => intro x3 mZ4 H locs ls hP hD hS hl hf; exact kv_no hf
      | succ n ih =>
        intro x3 mZ4 H locs ls hP hD hS hl hf
        rw [ffX8_roomFor_L20_s] at hf
        refine lv_iload_n hx hb dX8_roomFor_20 rfl (lv_at hl 0 rfl) ?_
        refine lv_bipush (v := 99) hx hb dX8_roomFor_21 (by decide) ?_
        refine lv_icmp_gt (tgt := 106) hx hb dX8_roomFor_23 (by decide) (fun hc => ?_) (fun hc => ?_)
        · have hf := kv_t hc hf
          exact hK9 _ _ _ _ _ hP hD hS (lv_sub hl [0, 1, 2] rfl) hf
        · have hf := kv_f hc hf
          refine lv_iconst (v := 0) hx hb dX8_roomFor_26 (by decide) ?_
          refine lv_istore_n (lv' := [(3, .int 0), (2, .int x3), (0, .ref (aZ 0)), (1, .int p0)]) hx hb dX8_roomFor_27 rfl hl (by decide) rfl (fun ls hl => ?_)
          refine lv_iconst (v := 0) hx hb dX8_roomFor_28 (by decide) ?_
          refine lv_istore (lv' := [(4, .int 0), (3, .int 0), (2, .int x3), (0, .ref (aZ 0)), (1, .int p0)]) hx hb dX8_roomFor_29 hl (by decide) rfl (fun ls hl => ?_)
          have L31 : ∀ (K31 : Int32 → Int32 → Option (Int32 × Mm)), (∀ (x5 : Int32) (x6 : Int32) (H : Heap) (locs : List Loc) (ls : Array Slot), va_P D vwCl (w_MD C aZ mZ4 mY) H → va_D A (w_MD C aZ mZ4 mY) → va_S A s.heap H locs → lv_has ls 6 [(4, .int x5), (3, .int x6), (2, .int x3), (0, .ref (aZ 0)), (1, .int p0)] → K31 x5 x6 = some (rr, oZ) → W p l e rX8_roomFor s m args below meth c H locs 0 0 Q (F0 m 86 ls [])) → ∀ (n : Nat) (x5 : Int32) (x6 : Int32) (H : Heap) (locs : List Loc) (ls : Array Slot), va_P D vwCl (w_MD C aZ mZ4 mY) H → va_D A (w_MD C aZ mZ4 mY) → va_S A s.heap H locs → lv_has ls 6 [(4, .int x5), (3, .int x6), (2, .int x3), (0, .ref (aZ 0)), (1, .int p0)] → ffX8_roomFor_L31 mZ4 K31 n x5 x6 = some (rr, oZ) → W p l e rX8_roomFor s m args below meth c H locs 0 0 Q (F0 m 31 ls []) := by
            intro K31 hK9 n
            induction n with
            | zero => intro x5 x6 H locs ls hP hD hS hl hf; exact kv_no hf
            | succ n ih =>
              intro x5 x6 H locs ls hP hD hS hl hf
              rw [ffX8_roomFor_L31_s] at hf
              refine lv_iload hx hb dX8_roomFor_31 (lv_at hl 0 rfl) ?_
              refine lv_aload_n hx hb dX8_roomFor_33 rfl (lv_at hl 3 rfl) ?_
              refine va_get (D := D) (ci := 8) (v := .ref (aZ 6)) (C := RX8) (T := TX8) (N := 26) hx hb hts iX8 hown hK hP 0 rfl rfl 7 (by decide) q0 (fun _ h9 => h9) rfl dX8_roomFor_34 ?_
              refine lv_iconst (v := 0) hx hb dX8_roomFor_37 (by decide) ?_
              obtain ⟨h9, hf⟩ := kv_ix_e hf
              refine va_iald hx hb hK hP 6 1 rfl rfl h9 dX8_roomFor_38 ?_
              refine lv_icmp_ge (tgt := 86) hx hb dX8_roomFor_39 (by decide) (fun hc => ?_) (fun hc => ?_)
              · have hf := kv_t hc hf
                exact hK9 _ _ _ _ _ hP hD hS (lv_sub hl [0, 1, 2, 3, 4] rfl) hf
              · have hf := kv_f hc hf
                refine lv_aload_n hx hb dX8_roomFor_42 rfl (lv_at hl 3 rfl) ?_
                refine lv_bipush (v := 26) hx hb dX8_roomFor_43 (by decide) ?_
                refine lv_iload hx hb dX8_roomFor_45 (lv_at hl 0 rfl) ?_
                obtain ⟨r7, hc, hf⟩ := kv_b1_e hf
                have hs9 : vv_Sub D H A (w_MD C aZ mZ4 mY) (w_MD C aZ mZ4 mY) (w_MD C aZ mZ4 mY) := vv_Sub.same (w_MD C aZ mZ4 mY) hP hD hS hA
                refine vv_goi (wn := (w_MD C aZ mZ4 mY)) hK hs9 hS (vv_rV (As := [.int 26, .int x5]) (rest := []) hx hb hml hown hts hK hN hS hs9 (ccX8_pieceOn l D C H.size aZ mZ4 mY (26 : Int32) x5 r7 hc) (cwV 2 hts gX8_roomFor_X8_pieceOn rfl rfl rfl (by decide +kernel) ⟨(Nat.le_of_ble_eq_true rfl), (Nat.le_of_ble_eq_true rfl)⟩) (va_recv hK hP (ci := 8) (q0 := 0) rfl rfl) rfl hl.1 rfl (Nat.le_of_ble_eq_true rfl) dX8_roomFor_47 ⟨Nat.zero_le _, Nat.zero_le _⟩) (fun H locs hP hD hS => ?_)
                refine lv_istore (lv' := [(5, .int r7), (4, .int x5), (3, .int x6), (2, .int x3), (0, .ref (aZ 0)), (1, .int p0)]) hx hb dX8_roomFor_50 hl (by decide) rfl (fun ls hl => ?_)
                refine lv_iload_n hx hb dX8_roomFor_52 rfl (lv_at hl 2 rfl) ?_
                refine lv_iload hx hb dX8_roomFor_53 (lv_at hl 0 rfl) ?_
                refine lv_bipush (v := (-9)) hx hb dX8_roomFor_55 (by decide) ?_
                obtain ⟨k73_8, ek73_8, hf⟩ := kv_lt_e hf
                have J73_8 : ∀  (H : Heap) (locs : List Loc) (ls : Array Slot), va_P D vwCl (w_MD C aZ mZ4 mY) H → va_D A (w_MD C aZ mZ4 mY) → va_S A s.heap H locs → lv_has ls 6 [(4, .int x5), (2, .int x3), (0, .ref (aZ 0)), (1, .int p0)] → k73_8  = some (rr, oZ) → W p l e rX8_roomFor s m args below meth c H locs 0 0 Q (F0 m 73 ls [.int x6]) := by
                  intro  H locs ls hP hD hS hl hf
                  rw [ek73_8] at hf
                  refine lv_iconst (v := 1) hx hb dX8_roomFor_73 (by decide) ?_
                  refine lv_goto (tgt := 78) hx hb dX8_roomFor_74 (by decide) ?_
                  refine lv_iadd hx hb dX8_roomFor_78 ?_
                  obtain ⟨x9, ex9, hf⟩ := kv_lt_e hf
                  refine vv_nami ex9 ?_
                  refine lv_istore_n (lv' := [(3, .int x9), (4, .int x5), (2, .int x3), (0, .ref (aZ 0)), (1, .int p0)]) hx hb dX8_roomFor_79 rfl hl (by decide) rfl (fun ls hl => ?_)
                  obtain ⟨x10, ex10, hf⟩ := kv_lt_e hf
                  refine lv_iinc (v := x10) (lv' := [(4, .int x10), (3, .int x9), (2, .int x3), (0, .ref (aZ 0)), (1, .int p0)]) hx hb dX8_roomFor_80 hl (k := 1) rfl (by rw [ex10]; rfl) (by decide) rfl (fun ls hl => ?_)
                  refine lv_goto (tgt := 31) hx hb dX8_roomFor_83 (by decide) ?_
                  exact ih _ _ _ _ _ hP hD hS (lv_sub hl [0, 1, 2, 3, 4] rfl) hf
                refine lv_icmp_eq (tgt := 73) hx hb dX8_roomFor_57 (by decide) (fun hc => ?_) (fun hc => ?_)
                · have hf := kv_t hc hf
                  exact J73_8 _ _ _ hP hD hS (lv_sub hl [1, 3, 4, 5] rfl) hf
                · have hf := kv_f hc hf
                  refine lv_aload_n hx hb dX8_roomFor_60 rfl (lv_at hl 4 rfl) ?_
                  refine va_get (D := D) (ci := 8) (v := .ref (aZ 11)) (C := RX8) (T := TX8) (N := 26) hx hb hts iX8 hown hK hP 0 rfl rfl 17 (by decide) q1 (fun _ h9 => h9) rfl dX8_roomFor_61 ?_
                  refine lv_bipush (v := 28) hx hb dX8_roomFor_64 (by decide) ?_
                  refine lv_iload hx hb dX8_roomFor_66 (lv_at hl 0 rfl) ?_
                  refine lv_iadd hx hb dX8_roomFor_68 ?_
                  obtain ⟨h9, hf⟩ := kv_ix_e hf
                  refine va_iald hx hb hK hP 11 1 rfl rfl h9 dX8_roomFor_69 ?_
                  refine lv_if_ne (tgt := 77) hx hb dX8_roomFor_70 (by decide) (fun hc => ?_) (fun hc => ?_)
                  · have hf := kv_f hc hf
                    refine lv_iconst (v := 0) hx hb dX8_roomFor_77 (by decide) ?_
                    refine lv_iadd hx hb dX8_roomFor_78 ?_
                    obtain ⟨x11, ex11, hf⟩ := kv_lt_e hf
                    refine vv_nami ex11 ?_
                    refine lv_istore_n (lv' := [(3, .int x11), (5, .int r7), (4, .int x5), (2, .int x3), (0, .ref (aZ 0)), (1, .int p0)]) hx hb dX8_roomFor_79 rfl hl (by decide) rfl (fun ls hl => ?_)
                    obtain ⟨x12, ex12, hf⟩ := kv_lt_e hf
                    refine lv_iinc (v := x12) (lv' := [(4, .int x12), (3, .int x11), (5, .int r7), (2, .int x3), (0, .ref (aZ 0)), (1, .int p0)]) hx hb dX8_roomFor_80 hl (k := 2) rfl (by rw [ex12]; rfl) (by decide) rfl (fun ls hl => ?_)
                    refine lv_goto (tgt := 31) hx hb dX8_roomFor_83 (by decide) ?_
                    exact ih _ _ _ _ _ hP hD hS (lv_sub hl [0, 1, 3, 4, 5] rfl) hf
                  · have hf := kv_t hc hf
                    exact J73_8 _ _ _ hP hD hS (lv_sub hl [1, 3, 4, 5] rfl) hf
          refine L31 _ (fun x13 x14 H locs ls hP hD hS hl hf => ?_) _ _ _ _ _ _ hP hD hS (lv_sub hl [0, 1, 2, 3, 4] rfl) hf
          refine lv_iload_n hx hb dX8_roomFor_86 rfl (lv_at hl 1 rfl) ?_
          refine lv_iload_n hx hb dX8_roomFor_87 rfl (lv_at hl 4 rfl) ?_
          refine lv_icmp_lt (tgt := 93) hx hb dX8_roomFor_88 (by decide) (fun hc => ?_) (fun hc => ?_)
          · have hf := kv_t hc hf
            refine lv_aload_n hx hb dX8_roomFor_93 rfl (lv_at hl 3 rfl) ?_
            refine lv_bipush (v := 26) hx hb dX8_roomFor_94 (by decide) ?_
            obtain ⟨r15, mZ16, hc, hf⟩ := kv_b2_e hf
            have hs9 : vv_Sub D H A (w_MD C aZ mZ4 mY) (w_MD C aZ mZ16 mY) (w_MD C aZ mZ16 mY) := vv_Sub.same (w_MD C aZ mZ16 mY) hP hD hS hA
            refine vv_goi (wn := (w_MD C aZ mZ16 mY)) hK hs9 hS (vv_rV (As := [.int 26]) (rest := []) hx hb hml hown hts hK hN hS hs9 (ccX8_goStep l D C H.size aZ mZ4 mY (26 : Int32) r15 mZ16 hc) (cwV 1 hts gX8_roomFor_X8_goStep rfl rfl rfl (by decide +kernel) ⟨(Nat.le_of_ble_eq_true rfl), (Nat.le_of_ble_eq_true rfl)⟩) (va_recv hK hP (ci := 8) (q0 := 0) rfl rfl) rfl hl.1 rfl (Nat.le_of_ble_eq_true rfl) dX8_roomFor_96 ⟨Nat.zero_le _, Nat.zero_le _⟩) (fun H locs hP hD hS => ?_)
            refine lv_pop hx hb dX8_roomFor_99 rfl ?_
            obtain ⟨x17, ex17, hf⟩ := kv_lt_e hf
            refine lv_iinc (v := x17) (lv' := [(2, .int x17), (4, .int x13), (3, .int x14), (0, .ref (aZ 0)), (1, .int p0)]) hx hb dX8_roomFor_100 hl (k := 2) rfl (by rw [ex17]; rfl) (by decide) rfl (fun ls hl => ?_)
            refine lv_goto (tgt := 20) hx hb dX8_roomFor_103 (by decide) ?_
            exact ih _ _ _ _ _ hP hD hS (lv_sub hl [0, 3, 4] rfl) hf
          · have hf := kv_f hc hf
            refine lv_iload_n hx hb dX8_roomFor_91 rfl (lv_at hl 2 rfl) ?_
            exact hret _ _ _ _ _ _ hf rfl hP hD hS dX8_roomFor_92
    refine L20 _ (fun x18 mZ19 H locs ls hP hD hS hl hf => ?_) _ _ _ _ _ _ hP hD hS (lv_sub hl [0, 1, 2] rfl) hf
    refine lv_bipush (v := (-9)) hx hb dX8_roomFor_106 (by decide) ?_
    exact hret _ _ _ _ _ _ hf rfl hP hD hS dX8_roomFor_108
  · have hf := kv_t hc hf
    refine lv_iconst (v := (-1)) hx hb dX8_roomFor_9 (by decide) ?_
    exact hret _ _ _ _ _ _ hf rfl hP hD hS dX8_roomFor_10
abbrev rX8_sky : Room := { frames := 1, cells := 0, slots := 0, locals := 22 }
set_option maxHeartbeats 4000000 in
set_option maxRecDepth 100000 in
theorem ccX8_sky (l : Launch) (D : va_G) (C : Nat → ClassId) (sz : Nat) (aZ : Nat → Nat) (mZ : Mm) (mY : Int64) (p0 : Int32) (rr : Int32) (hf : ffX8_sky p0 mZ = some (rr)) : Met l yX8_sky wsX8_sky rX8_sky (va_Pc [.ref (aZ 0), .int p0] (vv_pre D C (w_MD C aZ mZ mY) sz)) (vv_QI D C (w_MD C aZ mZ mY) (w_MD C aZ mZ mY) sz rr) 0 0 (va_A (w_MD C aZ mZ mY) sz) := by
  unfold ffX8_sky at hf
  refine vv_metI (cc := cX8_sky) (maxL := 2) (ty := .int) (by decide) rfl (Nat.le_of_ble_eq_true rfl) ?_
  intro p e s m args below meth c A Q H locs ls hx hb hml hown hts hA hK hN hP hD hS hl hret
  have hown : s.vm.findClass RX8 = some m.cls := hown
  have hl : lv_has ls 2 [(0, .ref (aZ 0)), (1, .int p0)] := hl
  have hret : ∀ (v0 : Int32) (H : Heap) (locs : List Loc) (ls : Array Slot) (pc : Nat), some (v0) = some (rr) → narrow .int (.int v0) = .int v0 → va_P D vwCl (w_MD C aZ mZ mY) H → va_D A (w_MD C aZ mZ mY) → va_S A s.heap H locs → decode cX8_sky pc = .ok (.ireturn, 1) → W p l e rX8_sky s m args below meth c H locs 0 0 Q (F0 m pc ls [.int v0]) := by
    intro v0 H locs ls pc h0 hn h1 h2 h3 h4
    cases h0
    exact hret H locs ls pc hn h1 h2 h3 h4
  have q0 := hts (.constant RX8 129 (-1000000)) (by decide +kernel)
  refine lv_iload_n hx hb dX8_sky_0 rfl (lv_at hl 1 rfl) ?_
  refine lv_iconst (v := 0) hx hb dX8_sky_1 (by decide) ?_
  refine lv_bipush (v := 99) hx hb dX8_sky_2 (by decide) ?_
  obtain ⟨r1, hc, hf⟩ := kv_b1_e hf
  have hs9 : vv_Sub D H A ([] : va_W) ([] : va_W) (w_MD C aZ mZ mY) := vv_Sub.none hP hD hS hA
  refine vv_goi (wn := (w_MD C aZ mZ mY)) hK hs9 hS (vv_rS (As := [.int p0, .int 0, .int 99]) (rest := []) hx hb hml hown hts hK hN hS hs9 (ccX8_in l D C H.size p0 (0 : Int32) (99 : Int32) r1 hc) (va_cwS 3 hts gX8_sky_X8_in rfl rfl rfl (by decide +kernel) ⟨(Nat.le_of_ble_eq_true rfl), (Nat.le_of_ble_eq_true rfl)⟩) rfl hl.1 rfl (Nat.le_of_ble_eq_true rfl) dX8_sky_4 ⟨Nat.zero_le _, Nat.zero_le _⟩) (fun H locs hP hD hS => ?_)
  refine lv_if_eq (tgt := 18) hx hb dX8_sky_7 (by decide) (fun hc => ?_) (fun hc => ?_)
  · have hf := kv_t hc hf
    refine lv_ldc (v := (-1000000)) hx hb hown q0 dX8_sky_18 ?_
    exact hret _ _ _ _ _ hf rfl hP hD hS dX8_sky_20
  · have hf := kv_f hc hf
    refine lv_aload_n hx hb dX8_sky_10 rfl (lv_at hl 0 rfl) ?_
    refine lv_iload_n hx hb dX8_sky_11 rfl (lv_at hl 1 rfl) ?_
    obtain ⟨r2, hc, hf⟩ := kv_b1_e hf
    have hs9 : vv_Sub D H A (w_MD C aZ mZ mY) (w_MD C aZ mZ mY) (w_MD C aZ mZ mY) := vv_Sub.same (w_MD C aZ mZ mY) hP hD hS hA
    refine vv_goi (wn := (w_MD C aZ mZ mY)) hK hs9 hS (vv_rV (As := [.int p0]) (rest := []) hx hb hml hown hts hK hN hS hs9 (ccX8_skyAt l D C H.size aZ mZ mY p0 r2 hc) (cwV 1 hts gX8_sky_X8_skyAt rfl rfl rfl (by decide +kernel) ⟨(Nat.le_of_ble_eq_true rfl), (Nat.le_of_ble_eq_true rfl)⟩) (va_recv hK hP (ci := 8) (q0 := 0) rfl rfl) rfl hl.1 rfl (Nat.le_of_ble_eq_true rfl) dX8_sky_12 ⟨Nat.zero_le _, Nat.zero_le _⟩) (fun H locs hP hD hS => ?_)
    refine lv_goto (tgt := 20) hx hb dX8_sky_15 (by decide) ?_
    exact hret _ _ _ _ _ hf rfl hP hD hS dX8_sky_20
abbrev rX8_spot : Room := { frames := 2, cells := 0, slots := 0, locals := 43 }
set_option maxHeartbeats 4000000 in
set_option maxRecDepth 100000 in
theorem ccX8_spot (l : Launch) (D : va_G) (C : Nat → ClassId) (sz : Nat) (aZ : Nat → Nat) (mZ : Mm) (mY : Int64) (p0 : Int32) (p1 : Int32) (rr : Int32) (hf : ffX8_spot p0 p1 mZ = some (rr)) : Met l yX8_spot wsX8_spot rX8_spot (va_Pc [.ref (aZ 0), .int p0, .int p1] (vv_pre D C (w_MD C aZ mZ mY) sz)) (vv_QI D C (w_MD C aZ mZ mY) (w_MD C aZ mZ mY) sz rr) 0 0 (va_A (w_MD C aZ mZ mY) sz) := by
  unfold ffX8_spot at hf
  refine vv_metI (cc := cX8_spot) (maxL := 3) (ty := .int) (by decide) rfl (Nat.le_of_ble_eq_true rfl) ?_
  intro p e s m args below meth c A Q H locs ls hx hb hml hown hts hA hK hN hP hD hS hl hret
  have hown : s.vm.findClass RX8 = some m.cls := hown
  have hl : lv_has ls 3 [(0, .ref (aZ 0)), (1, .int p0), (2, .int p1)] := hl
  have hret : ∀ (v0 : Int32) (H : Heap) (locs : List Loc) (ls : Array Slot) (pc : Nat), some (v0) = some (rr) → narrow .int (.int v0) = .int v0 → va_P D vwCl (w_MD C aZ mZ mY) H → va_D A (w_MD C aZ mZ mY) → va_S A s.heap H locs → decode cX8_spot pc = .ok (.ireturn, 1) → W p l e rX8_spot s m args below meth c H locs 0 0 Q (F0 m pc ls [.int v0]) := by
    intro v0 H locs ls pc h0 hn h1 h2 h3 h4
    cases h0
    exact hret H locs ls pc hn h1 h2 h3 h4
  have q0 := hts (.fieldLink RX8 32 "ForeRainModel" "wind" "[I") (by decide +kernel)
  have q1 := hts (.fieldLink RX8 29 "ForeRainModel" "room" "[I") (by decide +kernel)
  have iX8 : ∀ w ∈ u_ws RX8 TX8 26, w ∈ wsX8_spot := by decide +kernel
  refine lv_aload_n hx hb dX8_spot_0 rfl (lv_at hl 0 rfl) ?_
  refine lv_iload_n hx hb dX8_spot_1 rfl (lv_at hl 1 rfl) ?_
  obtain ⟨r1, hc, hf⟩ := kv_b1_e hf
  have hs9 : vv_Sub D H A (w_MD C aZ mZ mY) (w_MD C aZ mZ mY) (w_MD C aZ mZ mY) := vv_Sub.same (w_MD C aZ mZ mY) hP hD hS hA
  refine vv_goi (wn := (w_MD C aZ mZ mY)) hK hs9 hS (vv_rV (As := [.int p0]) (rest := []) hx hb hml hown hts hK hN hS hs9 (ccX8_isSpot l D C H.size aZ mZ mY p0 r1 hc) (cwV 1 hts gX8_spot_X8_isSpot rfl rfl rfl (by decide +kernel) ⟨(Nat.le_of_ble_eq_true rfl), (Nat.le_of_ble_eq_true rfl)⟩) (va_recv hK hP (ci := 8) (q0 := 0) rfl rfl) rfl hl.1 rfl (Nat.le_of_ble_eq_true rfl) dX8_spot_2 ⟨Nat.zero_le _, Nat.zero_le _⟩) (fun H locs hP hD hS => ?_)
  refine lv_if_eq (tgt := 17) hx hb dX8_spot_5 (by decide) (fun hc => ?_) (fun hc => ?_)
  · have hf := kv_t hc hf
    refine lv_iconst (v := (-1)) hx hb dX8_spot_17 (by decide) ?_
    exact hret _ _ _ _ _ hf rfl hP hD hS dX8_spot_18
  · have hf := kv_f hc hf
    refine lv_iload_n hx hb dX8_spot_8 rfl (lv_at hl 2 rfl) ?_
    refine lv_iconst (v := 0) hx hb dX8_spot_9 (by decide) ?_
    refine lv_iconst (v := 2) hx hb dX8_spot_10 (by decide) ?_
    obtain ⟨r2, hc, hf⟩ := kv_b1_e hf
    have hs9 : vv_Sub D H A ([] : va_W) ([] : va_W) (w_MD C aZ mZ mY) := vv_Sub.none hP hD hS hA
    refine vv_goi (wn := (w_MD C aZ mZ mY)) hK hs9 hS (vv_rS (As := [.int p1, .int 0, .int 2]) (rest := []) hx hb hml hown hts hK hN hS hs9 (ccX8_in l D C H.size p1 (0 : Int32) (2 : Int32) r2 hc) (va_cwS 3 hts gX8_spot_X8_in rfl rfl rfl (by decide +kernel) ⟨(Nat.le_of_ble_eq_true rfl), (Nat.le_of_ble_eq_true rfl)⟩) rfl hl.1 rfl (Nat.le_of_ble_eq_true rfl) dX8_spot_11 ⟨Nat.zero_le _, Nat.zero_le _⟩) (fun H locs hP hD hS => ?_)
    refine lv_if_ne (tgt := 19) hx hb dX8_spot_14 (by decide) (fun hc => ?_) (fun hc => ?_)
    · have hf := kv_f hc hf
      refine lv_iload_n hx hb dX8_spot_19 rfl (lv_at hl 2 rfl) ?_
      refine lv_if_ne (tgt := 32) hx hb dX8_spot_20 (by decide) (fun hc => ?_) (fun hc => ?_)
      · have hf := kv_f hc hf
        refine lv_iload_n hx hb dX8_spot_32 rfl (lv_at hl 2 rfl) ?_
        refine lv_iconst (v := 1) hx hb dX8_spot_33 (by decide) ?_
        refine lv_icmp_ne (tgt := 46) hx hb dX8_spot_34 (by decide) (fun hc => ?_) (fun hc => ?_)
        · have hf := kv_f hc hf
          refine lv_aload_n hx hb dX8_spot_46 rfl (lv_at hl 0 rfl) ?_
          refine lv_iconst (v := 0) hx hb dX8_spot_47 (by decide) ?_
          refine lv_iload_n hx hb dX8_spot_48 rfl (lv_at hl 1 rfl) ?_
          obtain ⟨r3, hc, hf⟩ := kv_b1_e hf
          have hs9 : vv_Sub D H A (w_MD C aZ mZ mY) (w_MD C aZ mZ mY) (w_MD C aZ mZ mY) := vv_Sub.same (w_MD C aZ mZ mY) hP hD hS hA
          refine vv_goi (wn := (w_MD C aZ mZ mY)) hK hs9 hS (vv_rV (As := [.int 0, .int p0]) (rest := []) hx hb hml hown hts hK hN hS hs9 (ccX8_pieceOn l D C H.size aZ mZ mY (0 : Int32) p0 r3 hc) (cwV 2 hts gX8_spot_X8_pieceOn rfl rfl rfl (by decide +kernel) ⟨(Nat.le_of_ble_eq_true rfl), (Nat.le_of_ble_eq_true rfl)⟩) (va_recv hK hP (ci := 8) (q0 := 0) rfl rfl) rfl hl.1 rfl (Nat.le_of_ble_eq_true rfl) dX8_spot_49 ⟨Nat.zero_le _, Nat.zero_le _⟩) (fun H locs hP hD hS => ?_)
          exact hret _ _ _ _ _ hf rfl hP hD hS dX8_spot_52
        · have hf := kv_t hc hf
          refine lv_aload_n hx hb dX8_spot_37 rfl (lv_at hl 0 rfl) ?_
          refine va_get (D := D) (ci := 8) (v := .ref (aZ 8)) (C := RX8) (T := TX8) (N := 26) hx hb hts iX8 hown hK hP 0 rfl rfl 9 (by decide) q0 (fun _ h9 => h9) rfl dX8_spot_38 ?_
          refine lv_iload_n hx hb dX8_spot_41 rfl (lv_at hl 1 rfl) ?_
          obtain ⟨h9, hf⟩ := kv_ix_e hf
          refine va_iald hx hb hK hP 8 1 rfl rfl h9 dX8_spot_42 ?_
          refine lv_goto (tgt := 52) hx hb dX8_spot_43 (by decide) ?_
          exact hret _ _ _ _ _ hf rfl hP hD hS dX8_spot_52
      · have hf := kv_t hc hf
        refine lv_aload_n hx hb dX8_spot_23 rfl (lv_at hl 0 rfl) ?_
        refine va_get (D := D) (ci := 8) (v := .ref (aZ 7)) (C := RX8) (T := TX8) (N := 26) hx hb hts iX8 hown hK hP 0 rfl rfl 8 (by decide) q1 (fun _ h9 => h9) rfl dX8_spot_24 ?_
        refine lv_iload_n hx hb dX8_spot_27 rfl (lv_at hl 1 rfl) ?_
        obtain ⟨h9, hf⟩ := kv_ix_e hf
        refine va_iald hx hb hK hP 7 1 rfl rfl h9 dX8_spot_28 ?_
        refine lv_goto (tgt := 52) hx hb dX8_spot_29 (by decide) ?_
        exact hret _ _ _ _ _ hf rfl hP hD hS dX8_spot_52
    · have hf := kv_t hc hf
      refine lv_iconst (v := (-1)) hx hb dX8_spot_17 (by decide) ?_
      exact hret _ _ _ _ _ hf rfl hP hD hS dX8_spot_18
abbrev rX8_trace : Room := { frames := 0, cells := 0, slots := 0, locals := 0 }
set_option maxHeartbeats 4000000 in
set_option maxRecDepth 100000 in
theorem ccX8_trace (l : Launch) (D : va_G) (C : Nat → ClassId) (sz : Nat) (aZ : Nat → Nat) (mZ : Mm) (mY : Int64) (rr : Int64) (hf : ffX8_trace mZ mY = some (rr)) : Met l yX8_trace wsX8_trace rX8_trace (va_Pc [.ref (aZ 0)] (vv_pre D C (w_MD C aZ mZ mY) sz)) (vv_QL D C (w_MD C aZ mZ mY) (w_MD C aZ mZ mY) sz rr) 0 0 (va_A (w_MD C aZ mZ mY) sz) := by
  unfold ffX8_trace at hf
  refine vv_metL (cc := cX8_trace) (maxL := 1) (by decide) rfl (Nat.le_of_ble_eq_true rfl) ?_
  intro p e s m args below meth c A Q H locs ls hx hb hml hown hts hA hK hN hP hD hS hl hret
  have hown : s.vm.findClass RX8 = some m.cls := hown
  have hl : lv_has ls 1 [(0, .ref (aZ 0))] := hl
  have hret : ∀ (v0 : Int64) (H : Heap) (locs : List Loc) (ls : Array Slot) (pc : Nat), some (v0) = some (rr) → va_P D vwCl (w_MD C aZ mZ mY) H → va_D A (w_MD C aZ mZ mY) → va_S A s.heap H locs → decode cX8_trace pc = .ok (.lreturn, 1) → W p l e rX8_trace s m args below meth c H locs 0 0 Q (F0 m pc ls [.long v0]) := by
    intro v0 H locs ls pc h0 h1 h2 h3 h4
    cases h0
    exact hret H locs ls pc h1 h2 h3 h4
  have q0 := hts (.fieldLink RX8 180 "ForeRainModel" "trace" "J") (by decide +kernel)
  have iX8 : ∀ w ∈ u_ws RX8 TX8 26, w ∈ wsX8_trace := by decide +kernel
  refine lv_aload_n hx hb dX8_trace_0 rfl (lv_at hl 0 rfl) ?_
  refine va_get (D := D) (ci := 8) (v := .long mY) (C := RX8) (T := TX8) (N := 26) hx hb hts iX8 hown hK hP 0 rfl rfl 0 (by decide) q0 (fun _ h9 => h9) rfl dX8_trace_1 ?_
  exact hret _ _ _ _ _ hf hP hD hS dX8_trace_4
abbrev rX8_trust : Room := { frames := 1, cells := 0, slots := 0, locals := 29 }
set_option maxHeartbeats 4000000 in
set_option maxRecDepth 100000 in
theorem ccX8_trust (l : Launch) (D : va_G) (C : Nat → ClassId) (sz : Nat) (aZ : Nat → Nat) (mZ : Mm) (mY : Int64) (p0 : Int32) (p1 : Int32) (rr : Int32) (hf : ffX8_trust p0 p1 mZ = some (rr)) : Met l yX8_trust wsX8_trust rX8_trust (va_Pc [.ref (aZ 0), .int p0, .int p1] (vv_pre D C (w_MD C aZ mZ mY) sz)) (vv_QI D C (w_MD C aZ mZ mY) (w_MD C aZ mZ mY) sz rr) 0 0 (va_A (w_MD C aZ mZ mY) sz) := by
  unfold ffX8_trust at hf
  refine vv_metI (cc := cX8_trust) (maxL := 6) (ty := .int) (by decide) rfl (Nat.le_of_ble_eq_true rfl) ?_
  intro p e s m args below meth c A Q H locs ls hx hb hml hown hts hA hK hN hP hD hS hl hret
  have hown : s.vm.findClass RX8 = some m.cls := hown
  have hl : lv_has ls 6 [(0, .ref (aZ 0)), (1, .int p0), (2, .int p1)] := hl
  have hret : ∀ (v0 : Int32) (H : Heap) (locs : List Loc) (ls : Array Slot) (pc : Nat), some (v0) = some (rr) → narrow .int (.int v0) = .int v0 → va_P D vwCl (w_MD C aZ mZ mY) H → va_D A (w_MD C aZ mZ mY) → va_S A s.heap H locs → decode cX8_trust pc = .ok (.ireturn, 1) → W p l e rX8_trust s m args below meth c H locs 0 0 Q (F0 m pc ls [.int v0]) := by
    intro v0 H locs ls pc h0 hn h1 h2 h3 h4
    cases h0
    exact hret H locs ls pc hn h1 h2 h3 h4
  have q0 := hts (.fieldLink RX8 174 "ForeRainModel" "days" "I") (by decide +kernel)
  have q1 := hts (.fieldLink RX8 60 "ForeRainModel" "said" "[I") (by decide +kernel)
  have q2 := hts (.fieldLink RX8 63 "ForeRainModel" "came" "[I") (by decide +kernel)
  have iX8 : ∀ w ∈ u_ws RX8 TX8 26, w ∈ wsX8_trust := by decide +kernel
  refine lv_iload_n hx hb dX8_trust_0 rfl (lv_at hl 1 rfl) ?_
  refine lv_iconst (v := 0) hx hb dX8_trust_1 (by decide) ?_
  refine lv_iconst (v := 1) hx hb dX8_trust_2 (by decide) ?_
  obtain ⟨r1, hc, hf⟩ := kv_b1_e hf
  have hs9 : vv_Sub D H A ([] : va_W) ([] : va_W) (w_MD C aZ mZ mY) := vv_Sub.none hP hD hS hA
  refine vv_goi (wn := (w_MD C aZ mZ mY)) hK hs9 hS (vv_rS (As := [.int p0, .int 0, .int 1]) (rest := []) hx hb hml hown hts hK hN hS hs9 (ccX8_in l D C H.size p0 (0 : Int32) (1 : Int32) r1 hc) (va_cwS 3 hts gX8_trust_X8_in rfl rfl rfl (by decide +kernel) ⟨(Nat.le_of_ble_eq_true rfl), (Nat.le_of_ble_eq_true rfl)⟩) rfl hl.1 rfl (Nat.le_of_ble_eq_true rfl) dX8_trust_3 ⟨Nat.zero_le _, Nat.zero_le _⟩) (fun H locs hP hD hS => ?_)
  refine lv_if_eq (tgt := 18) hx hb dX8_trust_6 (by decide) (fun hc => ?_) (fun hc => ?_)
  · have hf := kv_t hc hf
    refine lv_iconst (v := (-1)) hx hb dX8_trust_18 (by decide) ?_
    exact hret _ _ _ _ _ hf rfl hP hD hS dX8_trust_19
  · have hf := kv_f hc hf
    refine lv_iload_n hx hb dX8_trust_9 rfl (lv_at hl 2 rfl) ?_
    refine lv_iconst (v := 0) hx hb dX8_trust_10 (by decide) ?_
    refine lv_iconst (v := 1) hx hb dX8_trust_11 (by decide) ?_
    obtain ⟨r2, hc, hf⟩ := kv_b1_e hf
    have hs9 : vv_Sub D H A ([] : va_W) ([] : va_W) (w_MD C aZ mZ mY) := vv_Sub.none hP hD hS hA
    refine vv_goi (wn := (w_MD C aZ mZ mY)) hK hs9 hS (vv_rS (As := [.int p1, .int 0, .int 1]) (rest := []) hx hb hml hown hts hK hN hS hs9 (ccX8_in l D C H.size p1 (0 : Int32) (1 : Int32) r2 hc) (va_cwS 3 hts gX8_trust_X8_in rfl rfl rfl (by decide +kernel) ⟨(Nat.le_of_ble_eq_true rfl), (Nat.le_of_ble_eq_true rfl)⟩) rfl hl.1 rfl (Nat.le_of_ble_eq_true rfl) dX8_trust_12 ⟨Nat.zero_le _, Nat.zero_le _⟩) (fun H locs hP hD hS => ?_)
    refine lv_if_ne (tgt := 20) hx hb dX8_trust_15 (by decide) (fun hc => ?_) (fun hc => ?_)
    · have hf := kv_f hc hf
      refine lv_iconst (v := 0) hx hb dX8_trust_20 (by decide) ?_
      refine lv_istore_n (lv' := [(3, .int 0), (0, .ref (aZ 0)), (1, .int p0), (2, .int p1)]) hx hb dX8_trust_21 rfl hl (by decide) rfl (fun ls hl => ?_)
      refine lv_iconst (v := 0) hx hb dX8_trust_22 (by decide) ?_
      refine lv_istore (lv' := [(4, .int 0), (3, .int 0), (0, .ref (aZ 0)), (1, .int p0), (2, .int p1)]) hx hb dX8_trust_23 hl (by decide) rfl (fun ls hl => ?_)
      refine lv_iconst (v := 0) hx hb dX8_trust_25 (by decide) ?_
      refine lv_istore (lv' := [(5, .int 0), (4, .int 0), (3, .int 0), (0, .ref (aZ 0)), (1, .int p0), (2, .int p1)]) hx hb dX8_trust_26 hl (by decide) rfl (fun ls hl => ?_)
      have L28 : ∀ (K28 : Int32 → Int32 → Int32 → Option (Int32)), (∀ (x3 : Int32) (x4 : Int32) (x5 : Int32) (H : Heap) (locs : List Loc) (ls : Array Slot), va_P D vwCl (w_MD C aZ mZ mY) H → va_D A (w_MD C aZ mZ mY) → va_S A s.heap H locs → lv_has ls 6 [(5, .int x3), (4, .int x4), (3, .int x5), (0, .ref (aZ 0)), (1, .int p0), (2, .int p1)] → K28 x3 x4 x5 = some (rr) → W p l e rX8_trust s m args below meth c H locs 0 0 Q (F0 m 81 ls [])) → ∀ (n : Nat) (x3 : Int32) (x4 : Int32) (x5 : Int32) (H : Heap) (locs : List Loc) (ls : Array Slot), va_P D vwCl (w_MD C aZ mZ mY) H → va_D A (w_MD C aZ mZ mY) → va_S A s.heap H locs → lv_has ls 6 [(5, .int x3), (4, .int x4), (3, .int x5), (0, .ref (aZ 0)), (1, .int p0), (2, .int p1)] → ffX8_trust_L28 p0 mZ K28 n x3 x4 x5 = some (rr) → W p l e rX8_trust s m args below meth c H locs 0 0 Q (F0 m 28 ls []) := by
        intro K28 hK9 n
        induction n with
        | zero => intro x3 x4 x5 H locs ls hP hD hS hl hf; exact kv_no hf
        | succ n ih =>
          intro x3 x4 x5 H locs ls hP hD hS hl hf
          rw [ffX8_trust_L28_s] at hf
          refine lv_iload hx hb dX8_trust_28 (lv_at hl 0 rfl) ?_
          refine lv_aload_n hx hb dX8_trust_30 rfl (lv_at hl 3 rfl) ?_
          refine va_get (D := D) (ci := 8) (v := .int (mZ 0 23)) (C := RX8) (T := TX8) (N := 26) hx hb hts iX8 hown hK hP 0 rfl rfl 23 (by decide) q0 (fun _ h9 => h9) rfl dX8_trust_31 ?_
          refine lv_icmp_ge (tgt := 81) hx hb dX8_trust_34 (by decide) (fun hc => ?_) (fun hc => ?_)
          · have hf := kv_t hc hf
            exact hK9 _ _ _ _ _ _ hP hD hS (lv_sub hl [0, 1, 2, 3, 4, 5] rfl) hf
          · have hf := kv_f hc hf
            refine lv_iload hx hb dX8_trust_37 (lv_at hl 1 rfl) ?_
            refine lv_aload_n hx hb dX8_trust_39 rfl (lv_at hl 3 rfl) ?_
            refine va_get (D := D) (ci := 8) (v := .ref (aZ 17)) (C := RX8) (T := TX8) (N := 26) hx hb hts iX8 hown hK hP 0 rfl rfl 24 (by decide) q1 (fun _ h9 => h9) rfl dX8_trust_40 ?_
            refine lv_iconst (v := 2) hx hb dX8_trust_43 (by decide) ?_
            refine lv_iload hx hb dX8_trust_44 (lv_at hl 0 rfl) ?_
            refine lv_imul hx hb dX8_trust_46 ?_
            refine lv_iload_n hx hb dX8_trust_47 rfl (lv_at hl 4 rfl) ?_
            refine lv_iadd hx hb dX8_trust_48 ?_
            obtain ⟨h9, hf⟩ := kv_ix_e hf
            refine va_iald hx hb hK hP 17 1 rfl rfl h9 dX8_trust_49 ?_
            refine lv_iadd hx hb dX8_trust_50 ?_
            obtain ⟨x6, ex6, hf⟩ := kv_lt_e hf
            refine vv_nami ex6 ?_
            refine lv_istore (lv' := [(4, .int x6), (5, .int x3), (3, .int x5), (0, .ref (aZ 0)), (1, .int p0), (2, .int p1)]) hx hb dX8_trust_51 hl (by decide) rfl (fun ls hl => ?_)
            refine lv_iload_n hx hb dX8_trust_53 rfl (lv_at hl 2 rfl) ?_
            refine lv_aload_n hx hb dX8_trust_54 rfl (lv_at hl 3 rfl) ?_
            refine va_get (D := D) (ci := 8) (v := .ref (aZ 17)) (C := RX8) (T := TX8) (N := 26) hx hb hts iX8 hown hK hP 0 rfl rfl 24 (by decide) q1 (fun _ h9 => h9) rfl dX8_trust_55 ?_
            refine lv_iconst (v := 2) hx hb dX8_trust_58 (by decide) ?_
            refine lv_iload hx hb dX8_trust_59 (lv_at hl 1 rfl) ?_
            refine lv_imul hx hb dX8_trust_61 ?_
            refine lv_iload_n hx hb dX8_trust_62 rfl (lv_at hl 4 rfl) ?_
            refine lv_iadd hx hb dX8_trust_63 ?_
            obtain ⟨h9, hf⟩ := kv_ix_e hf
            refine va_iald hx hb hK hP 17 1 rfl rfl h9 dX8_trust_64 ?_
            refine lv_aload_n hx hb dX8_trust_65 rfl (lv_at hl 3 rfl) ?_
            refine va_get (D := D) (ci := 8) (v := .ref (aZ 18)) (C := RX8) (T := TX8) (N := 26) hx hb hts iX8 hown hK hP 0 rfl rfl 25 (by decide) q2 (fun _ h9 => h9) rfl dX8_trust_66 ?_
            refine lv_iload hx hb dX8_trust_69 (lv_at hl 1 rfl) ?_
            obtain ⟨h9, hf⟩ := kv_ix_e hf
            refine va_iald hx hb hK hP 18 1 rfl rfl h9 dX8_trust_71 ?_
            refine lv_imul hx hb dX8_trust_72 ?_
            refine lv_iadd hx hb dX8_trust_73 ?_
            obtain ⟨x7, ex7, hf⟩ := kv_lt_e hf
            refine vv_nami ex7 ?_
            refine lv_istore_n (lv' := [(3, .int x7), (4, .int x6), (5, .int x3), (0, .ref (aZ 0)), (1, .int p0), (2, .int p1)]) hx hb dX8_trust_74 rfl hl (by decide) rfl (fun ls hl => ?_)
            obtain ⟨x8, ex8, hf⟩ := kv_lt_e hf
            refine lv_iinc (v := x8) (lv' := [(5, .int x8), (3, .int x7), (4, .int x6), (0, .ref (aZ 0)), (1, .int p0), (2, .int p1)]) hx hb dX8_trust_75 hl (k := 2) rfl (by rw [ex8]; rfl) (by decide) rfl (fun ls hl => ?_)
            refine lv_goto (tgt := 28) hx hb dX8_trust_78 (by decide) ?_
            exact ih _ _ _ _ _ _ hP hD hS (lv_sub hl [0, 2, 1, 3, 4, 5] rfl) hf
      refine L28 _ (fun x9 x10 x11 H locs ls hP hD hS hl hf => ?_) _ _ _ _ _ _ _ hP hD hS (lv_sub hl [0, 1, 2, 3, 4, 5] rfl) hf
      refine lv_iload hx hb dX8_trust_81 (lv_at hl 1 rfl) ?_
      refine lv_if_ne (tgt := 89) hx hb dX8_trust_83 (by decide) (fun hc => ?_) (fun hc => ?_)
      · have hf := kv_f hc hf
        refine lv_iload_n hx hb dX8_trust_89 rfl (lv_at hl 2 rfl) ?_
        refine lv_i2l hx hb dX8_trust_90 rfl ?_
        refine lv_iload hx hb dX8_trust_91 (lv_at hl 1 rfl) ?_
        refine lv_i2l hx hb dX8_trust_93 rfl ?_
        obtain ⟨r12, hc, hf⟩ := kv_b1_e hf
        have hs9 : vv_Sub D H A ([] : va_W) ([] : va_W) (w_MD C aZ mZ mY) := vv_Sub.none hP hD hS hA
        refine vv_gol (wn := (w_MD C aZ mZ mY)) hK hs9 hS (vv_rS (As := [.long x11.toInt64, .long x10.toInt64]) (rest := []) hx hb hml hown hts hK hN hS hs9 (ccX8_common l D C H.size x11.toInt64 x10.toInt64 r12 hc) (va_cwS 2 hts gX8_trust_X8_common rfl rfl rfl (by decide +kernel) ⟨(Nat.le_of_ble_eq_true rfl), (Nat.le_of_ble_eq_true rfl)⟩) rfl hl.1 rfl (Nat.le_of_ble_eq_true rfl) dX8_trust_94 ⟨Nat.zero_le _, Nat.zero_le _⟩) (fun H locs hP hD hS => ?_)
        refine lv_l2i hx hb dX8_trust_97 rfl ?_
        obtain ⟨x13, ex13, hf⟩ := kv_lt_e hf
        refine vv_nami ex13 ?_
        refine lv_istore (lv' := [(5, .int x13), (4, .int x10), (3, .int x11), (0, .ref (aZ 0)), (1, .int p0), (2, .int p1)]) hx hb dX8_trust_98 hl (by decide) rfl (fun ls hl => ?_)
        refine lv_iload_n hx hb dX8_trust_100 rfl (lv_at hl 5 rfl) ?_
        refine lv_if_ne (tgt := 111) hx hb dX8_trust_101 (by decide) (fun hc => ?_) (fun hc => ?_)
        · have hf := kv_f hc hf
          refine lv_iload hx hb dX8_trust_111 (lv_at hl 1 rfl) ?_
          refine lv_iload hx hb dX8_trust_113 (lv_at hl 0 rfl) ?_
          obtain ⟨h9, hf⟩ := kv_nz_e hf
          refine lv_idiv hx hb dX8_trust_115 h9 ?_
          exact hret _ _ _ _ _ hf rfl hP hD hS dX8_trust_116
        · have hf := kv_t hc hf
          refine lv_iload_n hx hb dX8_trust_104 rfl (lv_at hl 2 rfl) ?_
          refine lv_iload hx hb dX8_trust_105 (lv_at hl 0 rfl) ?_
          obtain ⟨h9, hf⟩ := kv_nz_e hf
          refine lv_idiv hx hb dX8_trust_107 h9 ?_
          refine lv_goto (tgt := 116) hx hb dX8_trust_108 (by decide) ?_
          exact hret _ _ _ _ _ hf rfl hP hD hS dX8_trust_116
      · have hf := kv_t hc hf
        refine lv_bipush (v := (-2)) hx hb dX8_trust_86 (by decide) ?_
        exact hret _ _ _ _ _ hf rfl hP hD hS dX8_trust_88
    · have hf := kv_t hc hf
      refine lv_iconst (v := (-1)) hx hb dX8_trust_18 (by decide) ?_
      exact hret _ _ _ _ _ hf rfl hP hD hS dX8_trust_19
abbrev rX8_type : Room := { frames := 1, cells := 0, slots := 0, locals := 22 }
set_option maxHeartbeats 4000000 in
set_option maxRecDepth 100000 in
theorem ccX8_type (l : Launch) (D : va_G) (C : Nat → ClassId) (sz : Nat) (aZ : Nat → Nat) (mZ : Mm) (mY : Int64) (p0 : Int64) (p1 : Int32) (rr : Int32) (oZ : Mm) (hf : ffX8_type p0 p1 mZ = some (rr, oZ)) : Met l yX8_type wsX8_type rX8_type (va_Pc [.ref (aZ 0), .long p0, .int p1] (vv_pre D C (w_MD C aZ mZ mY) sz)) (vv_QI D C (w_MD C aZ mZ mY) (w_MD C aZ oZ mY) sz rr) 0 0 (va_A (w_MD C aZ mZ mY) sz) := by
  unfold ffX8_type at hf
  refine vv_metI (cc := cX8_type) (maxL := 5) (ty := .int) (by decide) rfl (Nat.le_of_ble_eq_true rfl) ?_
  intro p e s m args below meth c A Q H locs ls hx hb hml hown hts hA hK hN hP hD hS hl hret
  have hown : s.vm.findClass RX8 = some m.cls := hown
  have hl : lv_has ls 5 [(0, .ref (aZ 0)), (1, .long p0), (3, .int p1)] := hl
  have hret : ∀ (v0 : Int32) (v1 : Mm) (H : Heap) (locs : List Loc) (ls : Array Slot) (pc : Nat), some (v0, v1) = some (rr, oZ) → narrow .int (.int v0) = .int v0 → va_P D vwCl (w_MD C aZ v1 mY) H → va_D A (w_MD C aZ v1 mY) → va_S A s.heap H locs → decode cX8_type pc = .ok (.ireturn, 1) → W p l e rX8_type s m args below meth c H locs 0 0 Q (F0 m pc ls [.int v0]) := by
    intro v0 v1 H locs ls pc h0 hn h1 h2 h3 h4
    cases h0
    exact hret H locs ls pc hn h1 h2 h3 h4
  have q0 := hts (.fieldLink RX8 70 "ForeRainModel" "typed" "I") (by decide +kernel)
  have q1 := hts (.fieldLink RX8 7 "ForeRainModel" "text" "[B") (by decide +kernel)
  have q2 := hts (.constantLong RX8 74 255) (by decide +kernel)
  have iX8 : ∀ w ∈ u_ws RX8 TX8 26, w ∈ wsX8_type := by decide +kernel
  refine lv_iload_n hx hb dX8_type_0 rfl (lv_at hl 2 rfl) ?_
  refine lv_iconst (v := 1) hx hb dX8_type_1 (by decide) ?_
  refine lv_bipush (v := 8) hx hb dX8_type_2 (by decide) ?_
  obtain ⟨r1, hc, hf⟩ := kv_b1_e hf
  have hs9 : vv_Sub D H A ([] : va_W) ([] : va_W) (w_MD C aZ mZ mY) := vv_Sub.none hP hD hS hA
  refine vv_goi (wn := (w_MD C aZ mZ mY)) hK hs9 hS (vv_rS (As := [.int p1, .int 1, .int 8]) (rest := []) hx hb hml hown hts hK hN hS hs9 (ccX8_in l D C H.size p1 (1 : Int32) (8 : Int32) r1 hc) (va_cwS 3 hts gX8_type_X8_in rfl rfl rfl (by decide +kernel) ⟨(Nat.le_of_ble_eq_true rfl), (Nat.le_of_ble_eq_true rfl)⟩) rfl hl.1 rfl (Nat.le_of_ble_eq_true rfl) dX8_type_4 ⟨Nat.zero_le _, Nat.zero_le _⟩) (fun H locs hP hD hS => ?_)
  refine lv_if_ne (tgt := 12) hx hb dX8_type_7 (by decide) (fun hc => ?_) (fun hc => ?_)
  · have hf := kv_f hc hf
    refine lv_aload_n hx hb dX8_type_12 rfl (lv_at hl 0 rfl) ?_
    refine va_get (D := D) (ci := 8) (v := .int (mZ 0 2)) (C := RX8) (T := TX8) (N := 26) hx hb hts iX8 hown hK hP 0 rfl rfl 2 (by decide) q0 (fun _ h9 => h9) rfl dX8_type_13 ?_
    refine lv_iload_n hx hb dX8_type_16 rfl (lv_at hl 2 rfl) ?_
    refine lv_iadd hx hb dX8_type_17 ?_
    refine lv_sipush (v := 300) hx hb dX8_type_18 (by decide) ?_
    refine lv_icmp_le (tgt := 27) hx hb dX8_type_21 (by decide) (fun hc => ?_) (fun hc => ?_)
    · have hf := kv_t hc hf
      refine lv_iload_n hx hb dX8_type_27 rfl (lv_at hl 2 rfl) ?_
      refine lv_iconst (v := 1) hx hb dX8_type_28 (by decide) ?_
      refine lv_isub hx hb dX8_type_29 ?_
      obtain ⟨x2, ex2, hf⟩ := kv_lt_e hf
      refine vv_nami ex2 ?_
      refine lv_istore (lv' := [(4, .int x2), (0, .ref (aZ 0)), (1, .long p0), (3, .int p1)]) hx hb dX8_type_30 hl (by decide) rfl (fun ls hl => ?_)
      have L32 : ∀ (K32 : Int32 → Mm → Option (Int32 × Mm)), (∀ (x3 : Int32) (mZ4 : Mm) (H : Heap) (locs : List Loc) (ls : Array Slot), va_P D vwCl (w_MD C aZ mZ4 mY) H → va_D A (w_MD C aZ mZ4 mY) → va_S A s.heap H locs → lv_has ls 5 [(4, .int x3), (0, .ref (aZ 0)), (1, .long p0)] → K32 x3 mZ4 = some (rr, oZ) → W p l e rX8_type s m args below meth c H locs 0 0 Q (F0 m 75 ls [])) → ∀ (n : Nat) (x3 : Int32) (mZ4 : Mm) (H : Heap) (locs : List Loc) (ls : Array Slot), va_P D vwCl (w_MD C aZ mZ4 mY) H → va_D A (w_MD C aZ mZ4 mY) → va_S A s.heap H locs → lv_has ls 5 [(4, .int x3), (0, .ref (aZ 0)), (1, .long p0)] → ffX8_type_L32 p0 K32 n x3 mZ4 = some (rr, oZ) → W p l e rX8_type s m args below meth c H locs 0 0 Q (F0 m 32 ls []) := by
        intro K32 hK9 n
        induction n with
        | zero => intro x3 mZ4 H locs ls hP hD hS hl hf; exact kv_no hf
        | succ n ih =>
          intro x3 mZ4 H locs ls hP hD hS hl hf
          rw [ffX8_type_L32_s] at hf
          refine lv_iload hx hb dX8_type_32 (lv_at hl 0 rfl) ?_
          refine lv_if_lt (tgt := 75) hx hb dX8_type_34 (by decide) (fun hc => ?_) (fun hc => ?_)
          · have hf := kv_t hc hf
            exact hK9 _ _ _ _ _ hP hD hS (lv_sub hl [0, 1, 2] rfl) hf
          · have hf := kv_f hc hf
            refine lv_aload_n hx hb dX8_type_37 rfl (lv_at hl 1 rfl) ?_
            refine va_get (D := D) (ci := 8) (v := .ref (aZ 1)) (C := RX8) (T := TX8) (N := 26) hx hb hts iX8 hown hK hP 0 rfl rfl 1 (by decide) q1 (fun _ h9 => h9) rfl dX8_type_38 ?_
            refine lv_aload_n hx hb dX8_type_41 rfl (lv_at hl 1 rfl) ?_
            refine va_get (D := D) (ci := 8) (v := .int (mZ4 0 2)) (C := RX8) (T := TX8) (N := 26) hx hb hts iX8 hown hK hP 0 rfl rfl 2 (by decide) q0 (fun _ h9 => h9) rfl dX8_type_42 ?_
            refine lv_lload_n hx hb dX8_type_45 rfl (lv_at hl 2 rfl) ?_
            refine lv_bipush (v := 8) hx hb dX8_type_46 (by decide) ?_
            refine lv_iload hx hb dX8_type_48 (lv_at hl 0 rfl) ?_
            refine lv_imul hx hb dX8_type_50 ?_
            refine lv_lshr hx hb dX8_type_51 rfl ?_
            refine lv_ldc2 (v := 255) hx hb hown q2 dX8_type_52 ?_
            refine lv_land hx hb dX8_type_55 ?_
            refine lv_l2i hx hb dX8_type_56 rfl ?_
            refine lv_i2b hx hb dX8_type_57 rfl ?_
            obtain ⟨x5, ex5, hf⟩ := kv_lt_e hf
            refine vv_nami ex5 ?_
            obtain ⟨h9, hf⟩ := kv_ix_e hf
            obtain ⟨mZ6, emZ6, hf⟩ := kv_lt_e hf
            refine va_bast hx hb hK hP hD hS 1 0 rfl rfl h9 dX8_type_58 (fun H locs hP hD hS => ?_)
            have hP : va_P D vwCl (w_MD C aZ mZ6 mY) H := by rw [emZ6]; exact hP
            have hD : va_D A (w_MD C aZ mZ6 mY) := by rw [emZ6]; exact hD
            refine lv_aload_n hx hb dX8_type_59 rfl (lv_at hl 1 rfl) ?_
            refine lv_dup hx hb dX8_type_60 rfl ?_
            refine va_get (D := D) (ci := 8) (v := .int (mZ6 0 2)) (C := RX8) (T := TX8) (N := 26) hx hb hts iX8 hown hK hP 0 rfl rfl 2 (by decide) q0 (fun _ h9 => h9) rfl dX8_type_61 ?_
            refine lv_iconst (v := 1) hx hb dX8_type_64 (by decide) ?_
            refine lv_iadd hx hb dX8_type_65 ?_
            obtain ⟨x7, ex7, hf⟩ := kv_lt_e hf
            refine vv_nami ex7 ?_
            obtain ⟨mZ8, emZ8, hf⟩ := kv_lt_e hf
            refine va_put (D := D) (ci := 8) (v := .int x7) (ty := .int) (C := RX8) (T := TX8) (N := 26) hx hb hts iX8 tyX8 tyX8_ok nmX8 hown hK hP hD hS 0 rfl rfl 2 (by decide) q0 (fun _ h9 => h9) rfl (tyX8_ok 2 (by decide)) rfl rfl (Nat.le_of_ble_eq_true rfl) dX8_type_66 (fun H locs hP hD hS => ?_)
            have hP : va_P D vwCl (w_MD C aZ mZ8 mY) H := by rw [emZ8]; exact hP
            have hD : va_D A (w_MD C aZ mZ8 mY) := by rw [emZ8]; exact hD
            obtain ⟨x9, ex9, hf⟩ := kv_lt_e hf
            refine lv_iinc (v := x9) (lv' := [(4, .int x9), (0, .ref (aZ 0)), (1, .long p0)]) hx hb dX8_type_69 hl (k := 0) rfl (by rw [ex9]; rfl) (by decide) rfl (fun ls hl => ?_)
            refine lv_goto (tgt := 32) hx hb dX8_type_72 (by decide) ?_
            exact ih _ _ _ _ _ hP hD hS (lv_sub hl [0, 1, 2] rfl) hf
      refine L32 _ (fun x10 mZ11 H locs ls hP hD hS hl hf => ?_) _ _ _ _ _ _ hP hD hS (lv_sub hl [0, 1, 2] rfl) hf
      refine lv_aload_n hx hb dX8_type_75 rfl (lv_at hl 1 rfl) ?_
      refine va_get (D := D) (ci := 8) (v := .int (mZ11 0 2)) (C := RX8) (T := TX8) (N := 26) hx hb hts iX8 hown hK hP 0 rfl rfl 2 (by decide) q0 (fun _ h9 => h9) rfl dX8_type_76 ?_
      exact hret _ _ _ _ _ _ hf rfl hP hD hS dX8_type_79
    · have hf := kv_f hc hf
      refine lv_bipush (v := (-3)) hx hb dX8_type_24 (by decide) ?_
      exact hret _ _ _ _ _ _ hf rfl hP hD hS dX8_type_26
  · have hf := kv_t hc hf
    refine lv_iconst (v := (-1)) hx hb dX8_type_10 (by decide) ?_
    exact hret _ _ _ _ _ _ hf rfl hP hD hS dX8_type_11
abbrev rX8_when : Room := { frames := 2, cells := 0, slots := 0, locals := 51 }
set_option maxHeartbeats 4000000 in
set_option maxRecDepth 100000 in
theorem ccX8_when (l : Launch) (D : va_G) (C : Nat → ClassId) (sz : Nat) (aZ : Nat → Nat) (mZ : Mm) (mY : Int64) (p0 : Int32) (rr : Int32) (oZ : Mm) (hf : ffX8_when p0 mZ = some (rr, oZ)) : Met l yX8_when wsX8_when rX8_when (va_Pc [.ref (aZ 0), .int p0] (vv_pre D C (w_MD C aZ mZ mY) sz)) (vv_QI D C (w_MD C aZ mZ mY) (w_MD C aZ oZ mY) sz rr) 0 0 (va_A (w_MD C aZ mZ mY) sz) := by
  unfold ffX8_when at hf
  refine vv_metI (cc := cX8_when) (maxL := 3) (ty := .int) (by decide) rfl (Nat.le_of_ble_eq_true rfl) ?_
  intro p e s m args below meth c A Q H locs ls hx hb hml hown hts hA hK hN hP hD hS hl hret
  have hown : s.vm.findClass RX8 = some m.cls := hown
  have hl : lv_has ls 3 [(0, .ref (aZ 0)), (1, .int p0)] := hl
  have hret : ∀ (v0 : Int32) (v1 : Mm) (H : Heap) (locs : List Loc) (ls : Array Slot) (pc : Nat), some (v0, v1) = some (rr, oZ) → narrow .int (.int v0) = .int v0 → va_P D vwCl (w_MD C aZ v1 mY) H → va_D A (w_MD C aZ v1 mY) → va_S A s.heap H locs → decode cX8_when pc = .ok (.ireturn, 1) → W p l e rX8_when s m args below meth c H locs 0 0 Q (F0 m pc ls [.int v0]) := by
    intro v0 v1 H locs ls pc h0 hn h1 h2 h3 h4
    cases h0
    exact hret H locs ls pc hn h1 h2 h3 h4
  have q0 := hts (.fieldLink RX8 41 "ForeRainModel" "now" "[I") (by decide +kernel)
  have iX8 : ∀ w ∈ u_ws RX8 TX8 26, w ∈ wsX8_when := by decide +kernel
  refine lv_aload_n hx hb dX8_when_0 rfl (lv_at hl 0 rfl) ?_
  refine lv_iload_n hx hb dX8_when_1 rfl (lv_at hl 1 rfl) ?_
  obtain ⟨r1, hc, hf⟩ := kv_b1_e hf
  have hs9 : vv_Sub D H A (w_MD C aZ mZ mY) (w_MD C aZ mZ mY) (w_MD C aZ mZ mY) := vv_Sub.same (w_MD C aZ mZ mY) hP hD hS hA
  refine vv_goi (wn := (w_MD C aZ mZ mY)) hK hs9 hS (vv_rV (As := [.int p0]) (rest := []) hx hb hml hown hts hK hN hS hs9 (ccX8_isPiece l D C H.size aZ mZ mY p0 r1 hc) (cwV 1 hts gX8_when_X8_isPiece rfl rfl rfl (by decide +kernel) ⟨(Nat.le_of_ble_eq_true rfl), (Nat.le_of_ble_eq_true rfl)⟩) (va_recv hK hP (ci := 8) (q0 := 0) rfl rfl) rfl hl.1 rfl (Nat.le_of_ble_eq_true rfl) dX8_when_2 ⟨Nat.zero_le _, Nat.zero_le _⟩) (fun H locs hP hD hS => ?_)
  refine lv_if_ne (tgt := 10) hx hb dX8_when_5 (by decide) (fun hc => ?_) (fun hc => ?_)
  · have hf := kv_f hc hf
    refine lv_aload_n hx hb dX8_when_10 rfl (lv_at hl 0 rfl) ?_
    refine lv_iconst (v := 0) hx hb dX8_when_11 (by decide) ?_
    refine lv_bipush (v := 26) hx hb dX8_when_12 (by decide) ?_
    obtain ⟨mZ2, hc, hf⟩ := kv_b1_e hf
    have hs9 : vv_Sub D H A (w_MD C aZ mZ mY) (w_MD C aZ mZ2 mY) (w_MD C aZ mZ2 mY) := vv_Sub.same (w_MD C aZ mZ2 mY) hP hD hS hA
    refine vv_gov (wn := (w_MD C aZ mZ2 mY)) hK hs9 hS (vv_rV (As := [.int 0, .int 26]) (rest := []) hx hb hml hown hts hK hN hS hs9 (ccX8_copy l D C H.size aZ mZ mY (0 : Int32) (26 : Int32) mZ2 hc) (cwV 2 hts gX8_when_X8_copy rfl rfl rfl (by decide +kernel) ⟨(Nat.le_of_ble_eq_true rfl), (Nat.le_of_ble_eq_true rfl)⟩) (va_recv hK hP (ci := 8) (q0 := 0) rfl rfl) rfl hl.1 rfl (Nat.le_of_ble_eq_true rfl) dX8_when_14 ⟨Nat.zero_le _, Nat.zero_le _⟩) (fun H locs hP hD hS => ?_)
    refine lv_iconst (v := 0) hx hb dX8_when_17 (by decide) ?_
    refine lv_istore_n (lv' := [(2, .int 0), (0, .ref (aZ 0)), (1, .int p0)]) hx hb dX8_when_18 rfl hl (by decide) rfl (fun ls hl => ?_)
    have L19 : ∀ (K19 : Int32 → Mm → Option (Int32 × Mm)), (∀ (x3 : Int32) (mZ4 : Mm) (H : Heap) (locs : List Loc) (ls : Array Slot), va_P D vwCl (w_MD C aZ mZ4 mY) H → va_D A (w_MD C aZ mZ4 mY) → va_S A s.heap H locs → lv_has ls 3 [(2, .int x3), (0, .ref (aZ 0)), (1, .int p0)] → K19 x3 mZ4 = some (rr, oZ) → W p l e rX8_when s m args below meth c H locs 0 0 Q (F0 m 52 ls [])) → ∀ (n : Nat) (x3 : Int32) (mZ4 : Mm) (H : Heap) (locs : List Loc) (ls : Array Slot), va_P D vwCl (w_MD C aZ mZ4 mY) H → va_D A (w_MD C aZ mZ4 mY) → va_S A s.heap H locs → lv_has ls 3 [(2, .int x3), (0, .ref (aZ 0)), (1, .int p0)] → ffX8_when_L19 p0 K19 n x3 mZ4 = some (rr, oZ) → W p l e rX8_when s m args below meth c H locs 0 0 Q (F0 m 19 ls []) := by
      intro K19 hK9 n
      induction n with
      | zero => intro x3 mZ4 H locs ls hP hD hS hl hf; exact kv_no hf
      | succ n ih =>
        intro x3 mZ4 H locs ls hP hD hS hl hf
        rw [ffX8_when_L19_s] at hf
        refine lv_iload_n hx hb dX8_when_19 rfl (lv_at hl 0 rfl) ?_
        refine lv_bipush (v := 99) hx hb dX8_when_20 (by decide) ?_
        refine lv_icmp_gt (tgt := 52) hx hb dX8_when_22 (by decide) (fun hc => ?_) (fun hc => ?_)
        · have hf := kv_t hc hf
          exact hK9 _ _ _ _ _ hP hD hS (lv_sub hl [0, 1, 2] rfl) hf
        · have hf := kv_f hc hf
          refine lv_aload_n hx hb dX8_when_25 rfl (lv_at hl 1 rfl) ?_
          refine va_get (D := D) (ci := 8) (v := .ref (aZ 11)) (C := RX8) (T := TX8) (N := 26) hx hb hts iX8 hown hK hP 0 rfl rfl 17 (by decide) q0 (fun _ h9 => h9) rfl dX8_when_26 ?_
          refine lv_bipush (v := 28) hx hb dX8_when_29 (by decide) ?_
          refine lv_iload_n hx hb dX8_when_31 rfl (lv_at hl 2 rfl) ?_
          refine lv_iadd hx hb dX8_when_32 ?_
          obtain ⟨h9, hf⟩ := kv_ix_e hf
          refine va_iald hx hb hK hP 11 1 rfl rfl h9 dX8_when_33 ?_
          refine lv_if_ne (tgt := 39) hx hb dX8_when_34 (by decide) (fun hc => ?_) (fun hc => ?_)
          · have hf := kv_f hc hf
            refine lv_aload_n hx hb dX8_when_39 rfl (lv_at hl 1 rfl) ?_
            refine lv_bipush (v := 26) hx hb dX8_when_40 (by decide) ?_
            obtain ⟨r5, mZ6, hc, hf⟩ := kv_b2_e hf
            have hs9 : vv_Sub D H A (w_MD C aZ mZ4 mY) (w_MD C aZ mZ6 mY) (w_MD C aZ mZ6 mY) := vv_Sub.same (w_MD C aZ mZ6 mY) hP hD hS hA
            refine vv_goi (wn := (w_MD C aZ mZ6 mY)) hK hs9 hS (vv_rV (As := [.int 26]) (rest := []) hx hb hml hown hts hK hN hS hs9 (ccX8_goStep l D C H.size aZ mZ4 mY (26 : Int32) r5 mZ6 hc) (cwV 1 hts gX8_when_X8_goStep rfl rfl rfl (by decide +kernel) ⟨(Nat.le_of_ble_eq_true rfl), (Nat.le_of_ble_eq_true rfl)⟩) (va_recv hK hP (ci := 8) (q0 := 0) rfl rfl) rfl hl.1 rfl (Nat.le_of_ble_eq_true rfl) dX8_when_42 ⟨Nat.zero_le _, Nat.zero_le _⟩) (fun H locs hP hD hS => ?_)
            refine lv_pop hx hb dX8_when_45 rfl ?_
            obtain ⟨x7, ex7, hf⟩ := kv_lt_e hf
            refine lv_iinc (v := x7) (lv' := [(2, .int x7), (0, .ref (aZ 0)), (1, .int p0)]) hx hb dX8_when_46 hl (k := 0) rfl (by rw [ex7]; rfl) (by decide) rfl (fun ls hl => ?_)
            refine lv_goto (tgt := 19) hx hb dX8_when_49 (by decide) ?_
            exact ih _ _ _ _ _ hP hD hS (lv_sub hl [0, 1, 2] rfl) hf
          · have hf := kv_t hc hf
            refine lv_iload_n hx hb dX8_when_37 rfl (lv_at hl 0 rfl) ?_
            exact hret _ _ _ _ _ _ hf rfl hP hD hS dX8_when_38
    refine L19 _ (fun x8 mZ9 H locs ls hP hD hS hl hf => ?_) _ _ _ _ _ _ hP hD hS (lv_sub hl [0, 1, 2] rfl) hf
    refine lv_bipush (v := (-9)) hx hb dX8_when_52 (by decide) ?_
    exact hret _ _ _ _ _ _ hf rfl hP hD hS dX8_when_54
  · have hf := kv_t hc hf
    refine lv_iconst (v := (-1)) hx hb dX8_when_8 (by decide) ?_
    exact hret _ _ _ _ _ _ hf rfl hP hD hS dX8_when_9
abbrev rX8_where : Room := { frames := 2, cells := 0, slots := 0, locals := 51 }
set_option maxHeartbeats 4000000 in
set_option maxRecDepth 100000 in
theorem ccX8_where (l : Launch) (D : va_G) (C : Nat → ClassId) (sz : Nat) (aZ : Nat → Nat) (mZ : Mm) (mY : Int64) (p0 : Int32) (p1 : Int32) (rr : Int32) (oZ : Mm) (hf : ffX8_where p0 p1 mZ = some (rr, oZ)) : Met l yX8_where wsX8_where rX8_where (va_Pc [.ref (aZ 0), .int p0, .int p1] (vv_pre D C (w_MD C aZ mZ mY) sz)) (vv_QI D C (w_MD C aZ mZ mY) (w_MD C aZ oZ mY) sz rr) 0 0 (va_A (w_MD C aZ mZ mY) sz) := by
  unfold ffX8_where at hf
  refine vv_metI (cc := cX8_where) (maxL := 8) (ty := .int) (by decide) rfl (Nat.le_of_ble_eq_true rfl) ?_
  intro p e s m args below meth c A Q H locs ls hx hb hml hown hts hA hK hN hP hD hS hl hret
  have hown : s.vm.findClass RX8 = some m.cls := hown
  have hl : lv_has ls 8 [(0, .ref (aZ 0)), (1, .int p0), (2, .int p1)] := hl
  have hret : ∀ (v0 : Int32) (v1 : Mm) (H : Heap) (locs : List Loc) (ls : Array Slot) (pc : Nat), some (v0, v1) = some (rr, oZ) → narrow .int (.int v0) = .int v0 → va_P D vwCl (w_MD C aZ v1 mY) H → va_D A (w_MD C aZ v1 mY) → va_S A s.heap H locs → decode cX8_where pc = .ok (.ireturn, 1) → W p l e rX8_where s m args below meth c H locs 0 0 Q (F0 m pc ls [.int v0]) := by
    intro v0 v1 H locs ls pc h0 hn h1 h2 h3 h4
    cases h0
    exact hret H locs ls pc hn h1 h2 h3 h4
  have q0 := hts (.fieldLink RX8 13 "ForeRainModel" "pieces" "[I") (by decide +kernel)
  have q1 := hts (.fieldLink RX8 26 "ForeRainModel" "spots" "[I") (by decide +kernel)
  have q2 := hts (.fieldLink RX8 41 "ForeRainModel" "now" "[I") (by decide +kernel)
  have q3 := hts (.fieldLink RX8 48 "ForeRainModel" "place" "[I") (by decide +kernel)
  have q4 := hts (.fieldLink RX8 51 "ForeRainModel" "bestPlace" "[I") (by decide +kernel)
  have iX8 : ∀ w ∈ u_ws RX8 TX8 26, w ∈ wsX8_where := by decide +kernel
  refine lv_iload_n hx hb dX8_where_0 rfl (lv_at hl 1 rfl) ?_
  refine lv_iconst (v := 1) hx hb dX8_where_1 (by decide) ?_
  refine lv_bipush (v := 24) hx hb dX8_where_2 (by decide) ?_
  obtain ⟨r1, hc, hf⟩ := kv_b1_e hf
  have hs9 : vv_Sub D H A ([] : va_W) ([] : va_W) (w_MD C aZ mZ mY) := vv_Sub.none hP hD hS hA
  refine vv_goi (wn := (w_MD C aZ mZ mY)) hK hs9 hS (vv_rS (As := [.int p0, .int 1, .int 24]) (rest := []) hx hb hml hown hts hK hN hS hs9 (ccX8_in l D C H.size p0 (1 : Int32) (24 : Int32) r1 hc) (va_cwS 3 hts gX8_where_X8_in rfl rfl rfl (by decide +kernel) ⟨(Nat.le_of_ble_eq_true rfl), (Nat.le_of_ble_eq_true rfl)⟩) rfl hl.1 rfl (Nat.le_of_ble_eq_true rfl) dX8_where_4 ⟨Nat.zero_le _, Nat.zero_le _⟩) (fun H locs hP hD hS => ?_)
  refine lv_if_eq (tgt := 26) hx hb dX8_where_7 (by decide) (fun hc => ?_) (fun hc => ?_)
  · have hf := kv_t hc hf
    refine lv_iconst (v := (-1)) hx hb dX8_where_26 (by decide) ?_
    exact hret _ _ _ _ _ _ hf rfl hP hD hS dX8_where_27
  · have hf := kv_f hc hf
    refine lv_iload_n hx hb dX8_where_10 rfl (lv_at hl 2 rfl) ?_
    refine lv_iconst (v := (-1)) hx hb dX8_where_11 (by decide) ?_
    refine lv_aload_n hx hb dX8_where_12 rfl (lv_at hl 0 rfl) ?_
    refine va_get (D := D) (ci := 8) (v := .ref (aZ 2)) (C := RX8) (T := TX8) (N := 26) hx hb hts iX8 hown hK hP 0 rfl rfl 3 (by decide) q0 (fun _ h9 => h9) rfl dX8_where_13 ?_
    refine lv_iconst (v := 0) hx hb dX8_where_16 (by decide) ?_
    obtain ⟨h9, hf⟩ := kv_ix_e hf
    refine va_iald hx hb hK hP 2 1 rfl rfl h9 dX8_where_17 ?_
    refine lv_iconst (v := 1) hx hb dX8_where_18 (by decide) ?_
    refine lv_isub hx hb dX8_where_19 ?_
    obtain ⟨r2, hc, hf⟩ := kv_b1_e hf
    have hs9 : vv_Sub D H A ([] : va_W) ([] : va_W) (w_MD C aZ mZ mY) := vv_Sub.none hP hD hS hA
    refine vv_goi (wn := (w_MD C aZ mZ mY)) hK hs9 hS (vv_rS (As := [.int p1, .int (-1), .int ((mZ 2 (0 : Int32).toNatClampNeg) - 1)]) (rest := []) hx hb hml hown hts hK hN hS hs9 (ccX8_in l D C H.size p1 ((-1) : Int32) ((mZ 2 (0 : Int32).toNatClampNeg) - 1) r2 hc) (va_cwS 3 hts gX8_where_X8_in rfl rfl rfl (by decide +kernel) ⟨(Nat.le_of_ble_eq_true rfl), (Nat.le_of_ble_eq_true rfl)⟩) rfl hl.1 rfl (Nat.le_of_ble_eq_true rfl) dX8_where_20 ⟨Nat.zero_le _, Nat.zero_le _⟩) (fun H locs hP hD hS => ?_)
    refine lv_if_ne (tgt := 28) hx hb dX8_where_23 (by decide) (fun hc => ?_) (fun hc => ?_)
    · have hf := kv_f hc hf
      refine lv_iconst (v := 1) hx hb dX8_where_28 (by decide) ?_
      refine lv_istore_n (lv' := [(3, .int 1), (0, .ref (aZ 0)), (1, .int p0), (2, .int p1)]) hx hb dX8_where_29 rfl hl (by decide) rfl (fun ls hl => ?_)
      refine lv_iconst (v := 0) hx hb dX8_where_30 (by decide) ?_
      refine lv_istore (lv' := [(4, .int 0), (3, .int 1), (0, .ref (aZ 0)), (1, .int p0), (2, .int p1)]) hx hb dX8_where_31 hl (by decide) rfl (fun ls hl => ?_)
      have L33 : ∀ (K33 : Int32 → Int32 → Option (Int32 × Mm)), (∀ (x3 : Int32) (x4 : Int32) (H : Heap) (locs : List Loc) (ls : Array Slot), va_P D vwCl (w_MD C aZ mZ mY) H → va_D A (w_MD C aZ mZ mY) → va_S A s.heap H locs → lv_has ls 8 [(4, .int x3), (3, .int x4), (0, .ref (aZ 0)), (1, .int p0), (2, .int p1)] → K33 x3 x4 = some (rr, oZ) → W p l e rX8_where s m args below meth c H locs 0 0 Q (F0 m 61 ls [])) → ∀ (n : Nat) (x3 : Int32) (x4 : Int32) (H : Heap) (locs : List Loc) (ls : Array Slot), va_P D vwCl (w_MD C aZ mZ mY) H → va_D A (w_MD C aZ mZ mY) → va_S A s.heap H locs → lv_has ls 8 [(4, .int x3), (3, .int x4), (0, .ref (aZ 0)), (1, .int p0), (2, .int p1)] → ffX8_where_L33 mZ K33 n x3 x4 = some (rr, oZ) → W p l e rX8_where s m args below meth c H locs 0 0 Q (F0 m 33 ls []) := by
        intro K33 hK9 n
        induction n with
        | zero => intro x3 x4 H locs ls hP hD hS hl hf; exact kv_no hf
        | succ n ih =>
          intro x3 x4 H locs ls hP hD hS hl hf
          rw [ffX8_where_L33_s] at hf
          refine lv_iload hx hb dX8_where_33 (lv_at hl 0 rfl) ?_
          refine lv_aload_n hx hb dX8_where_35 rfl (lv_at hl 2 rfl) ?_
          refine va_get (D := D) (ci := 8) (v := .ref (aZ 2)) (C := RX8) (T := TX8) (N := 26) hx hb hts iX8 hown hK hP 0 rfl rfl 3 (by decide) q0 (fun _ h9 => h9) rfl dX8_where_36 ?_
          refine lv_iconst (v := 0) hx hb dX8_where_39 (by decide) ?_
          obtain ⟨h9, hf⟩ := kv_ix_e hf
          refine va_iald hx hb hK hP 2 1 rfl rfl h9 dX8_where_40 ?_
          refine lv_icmp_ge (tgt := 61) hx hb dX8_where_41 (by decide) (fun hc => ?_) (fun hc => ?_)
          · have hf := kv_t hc hf
            exact hK9 _ _ _ _ _ hP hD hS (lv_sub hl [0, 1, 2, 3, 4] rfl) hf
          · have hf := kv_f hc hf
            refine lv_iload_n hx hb dX8_where_44 rfl (lv_at hl 1 rfl) ?_
            refine lv_aload_n hx hb dX8_where_45 rfl (lv_at hl 2 rfl) ?_
            refine va_get (D := D) (ci := 8) (v := .ref (aZ 6)) (C := RX8) (T := TX8) (N := 26) hx hb hts iX8 hown hK hP 0 rfl rfl 7 (by decide) q1 (fun _ h9 => h9) rfl dX8_where_46 ?_
            refine lv_iconst (v := 0) hx hb dX8_where_49 (by decide) ?_
            obtain ⟨h9, hf⟩ := kv_ix_e hf
            refine va_iald hx hb hK hP 6 1 rfl rfl h9 dX8_where_50 ?_
            refine lv_iconst (v := 1) hx hb dX8_where_51 (by decide) ?_
            refine lv_iadd hx hb dX8_where_52 ?_
            refine lv_imul hx hb dX8_where_53 ?_
            obtain ⟨x5, ex5, hf⟩ := kv_lt_e hf
            refine vv_nami ex5 ?_
            refine lv_istore_n (lv' := [(3, .int x5), (4, .int x3), (0, .ref (aZ 0)), (1, .int p0), (2, .int p1)]) hx hb dX8_where_54 rfl hl (by decide) rfl (fun ls hl => ?_)
            obtain ⟨x6, ex6, hf⟩ := kv_lt_e hf
            refine lv_iinc (v := x6) (lv' := [(4, .int x6), (3, .int x5), (0, .ref (aZ 0)), (1, .int p0), (2, .int p1)]) hx hb dX8_where_55 hl (k := 1) rfl (by rw [ex6]; rfl) (by decide) rfl (fun ls hl => ?_)
            refine lv_goto (tgt := 33) hx hb dX8_where_58 (by decide) ?_
            exact ih _ _ _ _ _ hP hD hS (lv_sub hl [0, 1, 2, 3, 4] rfl) hf
      refine L33 _ (fun x7 x8 H locs ls hP hD hS hl hf => ?_) _ _ _ _ _ _ hP hD hS (lv_sub hl [0, 1, 2, 3, 4] rfl) hf
      refine lv_bipush (v := (-9)) hx hb dX8_where_61 (by decide) ?_
      refine lv_istore (lv' := [(4, .int (-9)), (3, .int x8), (0, .ref (aZ 0)), (1, .int p0), (2, .int p1)]) hx hb dX8_where_63 hl (by decide) rfl (fun ls hl => ?_)
      refine lv_iconst (v := 0) hx hb dX8_where_65 (by decide) ?_
      refine lv_istore (lv' := [(5, .int 0), (4, .int (-9)), (3, .int x8), (0, .ref (aZ 0)), (1, .int p0), (2, .int p1)]) hx hb dX8_where_66 hl (by decide) rfl (fun ls hl => ?_)
      have L68 : ∀ (K68 : Int32 → Int32 → Mm → Option (Int32 × Mm)), (∀ (x9 : Int32) (x10 : Int32) (mZ11 : Mm) (H : Heap) (locs : List Loc) (ls : Array Slot), va_P D vwCl (w_MD C aZ mZ11 mY) H → va_D A (w_MD C aZ mZ11 mY) → va_S A s.heap H locs → lv_has ls 8 [(5, .int x9), (4, .int x10), (3, .int x8), (0, .ref (aZ 0)), (1, .int p0), (2, .int p1)] → K68 x9 x10 mZ11 = some (rr, oZ) → W p l e rX8_where s m args below meth c H locs 0 0 Q (F0 m 215 ls [])) → ∀ (n : Nat) (x9 : Int32) (x10 : Int32) (mZ11 : Mm) (H : Heap) (locs : List Loc) (ls : Array Slot), va_P D vwCl (w_MD C aZ mZ11 mY) H → va_D A (w_MD C aZ mZ11 mY) → va_S A s.heap H locs → lv_has ls 8 [(5, .int x9), (4, .int x10), (3, .int x8), (0, .ref (aZ 0)), (1, .int p0), (2, .int p1)] → ffX8_where_L68 p0 x8 K68 n x9 x10 mZ11 = some (rr, oZ) → W p l e rX8_where s m args below meth c H locs 0 0 Q (F0 m 68 ls []) := by
        intro K68 hK9 n
        induction n with
        | zero => intro x9 x10 mZ11 H locs ls hP hD hS hl hf; exact kv_no hf
        | succ n ih =>
          intro x9 x10 mZ11 H locs ls hP hD hS hl hf
          rw [ffX8_where_L68_s] at hf
          refine lv_iload hx hb dX8_where_68 (lv_at hl 0 rfl) ?_
          refine lv_iload_n hx hb dX8_where_70 rfl (lv_at hl 2 rfl) ?_
          refine lv_icmp_ge (tgt := 215) hx hb dX8_where_71 (by decide) (fun hc => ?_) (fun hc => ?_)
          · have hf := kv_t hc hf
            exact hK9 _ _ _ _ _ _ hP hD hS (lv_sub hl [0, 1, 2, 3, 4, 5] rfl) hf
          · have hf := kv_f hc hf
            refine lv_aload_n hx hb dX8_where_74 rfl (lv_at hl 3 rfl) ?_
            refine lv_iload hx hb dX8_where_75 (lv_at hl 0 rfl) ?_
            obtain ⟨r12, mZ13, hc, hf⟩ := kv_b2_e hf
            have hs9 : vv_Sub D H A (w_MD C aZ mZ11 mY) (w_MD C aZ mZ13 mY) (w_MD C aZ mZ13 mY) := vv_Sub.same (w_MD C aZ mZ13 mY) hP hD hS hA
            refine vv_goi (wn := (w_MD C aZ mZ13 mY)) hK hs9 hS (vv_rV (As := [.int x9]) (rest := []) hx hb hml hown hts hK hN hS hs9 (ccX8_isPlaced l D C H.size aZ mZ11 mY x9 r12 mZ13 hc) (cwV 1 hts gX8_where_X8_isPlaced rfl rfl rfl (by decide +kernel) ⟨(Nat.le_of_ble_eq_true rfl), (Nat.le_of_ble_eq_true rfl)⟩) (va_recv hK hP (ci := 8) (q0 := 0) rfl rfl) rfl hl.1 rfl (Nat.le_of_ble_eq_true rfl) dX8_where_77 ⟨Nat.zero_le _, Nat.zero_le _⟩) (fun H locs hP hD hS => ?_)
            refine lv_if_eq (tgt := 209) hx hb dX8_where_80 (by decide) (fun hc => ?_) (fun hc => ?_)
            · have hf := kv_t hc hf
              obtain ⟨x14, ex14, hf⟩ := kv_lt_e hf
              refine lv_iinc (v := x14) (lv' := [(5, .int x14), (4, .int x10), (3, .int x8), (0, .ref (aZ 0)), (1, .int p0), (2, .int p1)]) hx hb dX8_where_209 hl (k := 0) rfl (by rw [ex14]; rfl) (by decide) rfl (fun ls hl => ?_)
              refine lv_goto (tgt := 68) hx hb dX8_where_212 (by decide) ?_
              exact ih _ _ _ _ _ _ hP hD hS (lv_sub hl [0, 1, 2, 3, 4, 5] rfl) hf
            · have hf := kv_f hc hf
              refine lv_aload_n hx hb dX8_where_83 rfl (lv_at hl 3 rfl) ?_
              refine lv_iconst (v := 0) hx hb dX8_where_84 (by decide) ?_
              refine lv_bipush (v := 26) hx hb dX8_where_85 (by decide) ?_
              obtain ⟨mZ15, hc, hf⟩ := kv_b1_e hf
              have hs9 : vv_Sub D H A (w_MD C aZ mZ13 mY) (w_MD C aZ mZ15 mY) (w_MD C aZ mZ15 mY) := vv_Sub.same (w_MD C aZ mZ15 mY) hP hD hS hA
              refine vv_gov (wn := (w_MD C aZ mZ15 mY)) hK hs9 hS (vv_rV (As := [.int 0, .int 26]) (rest := []) hx hb hml hown hts hK hN hS hs9 (ccX8_copy l D C H.size aZ mZ13 mY (0 : Int32) (26 : Int32) mZ15 hc) (cwV 2 hts gX8_where_X8_copy rfl rfl rfl (by decide +kernel) ⟨(Nat.le_of_ble_eq_true rfl), (Nat.le_of_ble_eq_true rfl)⟩) (va_recv hK hP (ci := 8) (q0 := 0) rfl rfl) rfl hl.1 rfl (Nat.le_of_ble_eq_true rfl) dX8_where_87 ⟨Nat.zero_le _, Nat.zero_le _⟩) (fun H locs hP hD hS => ?_)
              refine lv_iconst (v := 0) hx hb dX8_where_90 (by decide) ?_
              refine lv_istore (lv' := [(6, .int 0), (5, .int x9), (4, .int x10), (3, .int x8), (0, .ref (aZ 0)), (1, .int p0), (2, .int p1)]) hx hb dX8_where_91 hl (by decide) rfl (fun ls hl => ?_)
              have L93 : ∀ (K93 : Int32 → Mm → Option (Int32 × Mm)), (∀ (x16 : Int32) (mZ17 : Mm) (H : Heap) (locs : List Loc) (ls : Array Slot), va_P D vwCl (w_MD C aZ mZ17 mY) H → va_D A (w_MD C aZ mZ17 mY) → va_S A s.heap H locs → lv_has ls 8 [(6, .int x16), (5, .int x9), (4, .int x10), (3, .int x8), (0, .ref (aZ 0)), (1, .int p0), (2, .int p1)] → K93 x16 mZ17 = some (rr, oZ) → W p l e rX8_where s m args below meth c H locs 0 0 Q (F0 m 127 ls [])) → ∀ (n : Nat) (x16 : Int32) (mZ17 : Mm) (H : Heap) (locs : List Loc) (ls : Array Slot), va_P D vwCl (w_MD C aZ mZ17 mY) H → va_D A (w_MD C aZ mZ17 mY) → va_S A s.heap H locs → lv_has ls 8 [(6, .int x16), (5, .int x9), (4, .int x10), (3, .int x8), (0, .ref (aZ 0)), (1, .int p0), (2, .int p1)] → ffX8_where_L93  K93 n x16 mZ17 = some (rr, oZ) → W p l e rX8_where s m args below meth c H locs 0 0 Q (F0 m 93 ls []) := by
                intro K93 hK9 n
                induction n with
                | zero => intro x16 mZ17 H locs ls hP hD hS hl hf; exact kv_no hf
                | succ n ih =>
                  intro x16 mZ17 H locs ls hP hD hS hl hf
                  rw [ffX8_where_L93_s] at hf
                  refine lv_iload hx hb dX8_where_93 (lv_at hl 0 rfl) ?_
                  refine lv_aload_n hx hb dX8_where_95 rfl (lv_at hl 4 rfl) ?_
                  refine va_get (D := D) (ci := 8) (v := .ref (aZ 2)) (C := RX8) (T := TX8) (N := 26) hx hb hts iX8 hown hK hP 0 rfl rfl 3 (by decide) q0 (fun _ h9 => h9) rfl dX8_where_96 ?_
                  refine lv_iconst (v := 0) hx hb dX8_where_99 (by decide) ?_
                  obtain ⟨h9, hf⟩ := kv_ix_e hf
                  refine va_iald hx hb hK hP 2 1 rfl rfl h9 dX8_where_100 ?_
                  refine lv_icmp_ge (tgt := 127) hx hb dX8_where_101 (by decide) (fun hc => ?_) (fun hc => ?_)
                  · have hf := kv_t hc hf
                    exact hK9 _ _ _ _ _ hP hD hS (lv_sub hl [0, 1, 2, 3, 4, 5, 6] rfl) hf
                  · have hf := kv_f hc hf
                    refine lv_aload_n hx hb dX8_where_104 rfl (lv_at hl 4 rfl) ?_
                    refine va_get (D := D) (ci := 8) (v := .ref (aZ 11)) (C := RX8) (T := TX8) (N := 26) hx hb hts iX8 hown hK hP 0 rfl rfl 17 (by decide) q2 (fun _ h9 => h9) rfl dX8_where_105 ?_
                    refine lv_bipush (v := 46) hx hb dX8_where_108 (by decide) ?_
                    refine lv_iload hx hb dX8_where_110 (lv_at hl 0 rfl) ?_
                    refine lv_iadd hx hb dX8_where_112 ?_
                    refine lv_aload_n hx hb dX8_where_113 rfl (lv_at hl 4 rfl) ?_
                    refine va_get (D := D) (ci := 8) (v := .ref (aZ 13)) (C := RX8) (T := TX8) (N := 26) hx hb hts iX8 hown hK hP 0 rfl rfl 19 (by decide) q3 (fun _ h9 => h9) rfl dX8_where_114 ?_
                    refine lv_iload hx hb dX8_where_117 (lv_at hl 0 rfl) ?_
                    obtain ⟨h9, hf⟩ := kv_ix_e hf
                    refine va_iald hx hb hK hP 13 1 rfl rfl h9 dX8_where_119 ?_
                    obtain ⟨x18, ex18, hf⟩ := kv_lt_e hf
                    refine vv_nami ex18 ?_
                    obtain ⟨h9, hf⟩ := kv_ix_e hf
                    obtain ⟨mZ19, emZ19, hf⟩ := kv_lt_e hf
                    refine va_iast hx hb hK hP hD hS 11 1 rfl rfl h9 dX8_where_120 (fun H locs hP hD hS => ?_)
                    have hP : va_P D vwCl (w_MD C aZ mZ19 mY) H := by rw [emZ19]; exact hP
                    have hD : va_D A (w_MD C aZ mZ19 mY) := by rw [emZ19]; exact hD
                    obtain ⟨x20, ex20, hf⟩ := kv_lt_e hf
                    refine lv_iinc (v := x20) (lv' := [(6, .int x20), (5, .int x9), (4, .int x10), (3, .int x8), (0, .ref (aZ 0)), (1, .int p0), (2, .int p1)]) hx hb dX8_where_121 hl (k := 0) rfl (by rw [ex20]; rfl) (by decide) rfl (fun ls hl => ?_)
                    refine lv_goto (tgt := 93) hx hb dX8_where_124 (by decide) ?_
                    exact ih _ _ _ _ _ hP hD hS (lv_sub hl [0, 1, 2, 3, 4, 5, 6] rfl) hf
              refine L93 _ (fun x21 mZ22 H locs ls hP hD hS hl hf => ?_) _ _ _ _ _ _ hP hD hS (lv_sub hl [0, 1, 2, 3, 4, 5, 6] rfl) hf
              refine lv_iconst (v := 0) hx hb dX8_where_127 (by decide) ?_
              refine lv_istore (lv' := [(6, .int 0), (5, .int x9), (4, .int x10), (3, .int x8), (0, .ref (aZ 0)), (1, .int p0), (2, .int p1)]) hx hb dX8_where_128 hl (by decide) rfl (fun ls hl => ?_)
              have L130 : ∀ (K130 : Int32 → Mm → Option (Int32 × Mm)), (∀ (x23 : Int32) (mZ24 : Mm) (H : Heap) (locs : List Loc) (ls : Array Slot), va_P D vwCl (w_MD C aZ mZ24 mY) H → va_D A (w_MD C aZ mZ24 mY) → va_S A s.heap H locs → lv_has ls 8 [(6, .int x23), (5, .int x9), (4, .int x10), (3, .int x8), (0, .ref (aZ 0)), (1, .int p0), (2, .int p1)] → K130 x23 mZ24 = some (rr, oZ) → W p l e rX8_where s m args below meth c H locs 0 0 Q (F0 m 149 ls [])) → ∀ (n : Nat) (x23 : Int32) (mZ24 : Mm) (H : Heap) (locs : List Loc) (ls : Array Slot), va_P D vwCl (w_MD C aZ mZ24 mY) H → va_D A (w_MD C aZ mZ24 mY) → va_S A s.heap H locs → lv_has ls 8 [(6, .int x23), (5, .int x9), (4, .int x10), (3, .int x8), (0, .ref (aZ 0)), (1, .int p0), (2, .int p1)] → ffX8_where_L130 p0 K130 n x23 mZ24 = some (rr, oZ) → W p l e rX8_where s m args below meth c H locs 0 0 Q (F0 m 130 ls []) := by
                intro K130 hK9 n
                induction n with
                | zero => intro x23 mZ24 H locs ls hP hD hS hl hf; exact kv_no hf
                | succ n ih =>
                  intro x23 mZ24 H locs ls hP hD hS hl hf
                  rw [ffX8_where_L130_s] at hf
                  refine lv_iload hx hb dX8_where_130 (lv_at hl 0 rfl) ?_
                  refine lv_iload_n hx hb dX8_where_132 rfl (lv_at hl 5 rfl) ?_
                  refine lv_icmp_ge (tgt := 149) hx hb dX8_where_133 (by decide) (fun hc => ?_) (fun hc => ?_)
                  · have hf := kv_t hc hf
                    exact hK9 _ _ _ _ _ hP hD hS (lv_sub hl [0, 1, 2, 3, 4, 5, 6] rfl) hf
                  · have hf := kv_f hc hf
                    refine lv_aload_n hx hb dX8_where_136 rfl (lv_at hl 4 rfl) ?_
                    refine lv_bipush (v := 26) hx hb dX8_where_137 (by decide) ?_
                    obtain ⟨r25, mZ26, hc, hf⟩ := kv_b2_e hf
                    have hs9 : vv_Sub D H A (w_MD C aZ mZ24 mY) (w_MD C aZ mZ26 mY) (w_MD C aZ mZ26 mY) := vv_Sub.same (w_MD C aZ mZ26 mY) hP hD hS hA
                    refine vv_goi (wn := (w_MD C aZ mZ26 mY)) hK hs9 hS (vv_rV (As := [.int 26]) (rest := []) hx hb hml hown hts hK hN hS hs9 (ccX8_goStep l D C H.size aZ mZ24 mY (26 : Int32) r25 mZ26 hc) (cwV 1 hts gX8_where_X8_goStep rfl rfl rfl (by decide +kernel) ⟨(Nat.le_of_ble_eq_true rfl), (Nat.le_of_ble_eq_true rfl)⟩) (va_recv hK hP (ci := 8) (q0 := 0) rfl rfl) rfl hl.1 rfl (Nat.le_of_ble_eq_true rfl) dX8_where_139 ⟨Nat.zero_le _, Nat.zero_le _⟩) (fun H locs hP hD hS => ?_)
                    refine lv_pop hx hb dX8_where_142 rfl ?_
                    obtain ⟨x27, ex27, hf⟩ := kv_lt_e hf
                    refine lv_iinc (v := x27) (lv' := [(6, .int x27), (5, .int x9), (4, .int x10), (3, .int x8), (0, .ref (aZ 0)), (1, .int p0), (2, .int p1)]) hx hb dX8_where_143 hl (k := 0) rfl (by rw [ex27]; rfl) (by decide) rfl (fun ls hl => ?_)
                    refine lv_goto (tgt := 130) hx hb dX8_where_146 (by decide) ?_
                    exact ih _ _ _ _ _ hP hD hS (lv_sub hl [0, 1, 2, 3, 4, 5, 6] rfl) hf
              refine L130 _ (fun x28 mZ29 H locs ls hP hD hS hl hf => ?_) _ _ _ _ _ _ hP hD hS (lv_sub hl [0, 1, 2, 3, 4, 5, 6] rfl) hf
              refine lv_aload_n hx hb dX8_where_149 rfl (lv_at hl 4 rfl) ?_
              refine lv_bipush (v := 26) hx hb dX8_where_150 (by decide) ?_
              obtain ⟨r30, hc, hf⟩ := kv_b1_e hf
              have hs9 : vv_Sub D H A (w_MD C aZ mZ29 mY) (w_MD C aZ mZ29 mY) (w_MD C aZ mZ29 mY) := vv_Sub.same (w_MD C aZ mZ29 mY) hP hD hS hA
              refine vv_goi (wn := (w_MD C aZ mZ29 mY)) hK hs9 hS (vv_rV (As := [.int 26]) (rest := []) hx hb hml hown hts hK hN hS hs9 (ccX8_allWater l D C H.size aZ mZ29 mY (26 : Int32) r30 hc) (cwV 1 hts gX8_where_X8_allWater rfl rfl rfl (by decide +kernel) ⟨(Nat.le_of_ble_eq_true rfl), (Nat.le_of_ble_eq_true rfl)⟩) (va_recv hK hP (ci := 8) (q0 := 0) rfl rfl) rfl hl.1 rfl (Nat.le_of_ble_eq_true rfl) dX8_where_152 ⟨Nat.zero_le _, Nat.zero_le _⟩) (fun H locs hP hD hS => ?_)
              refine lv_istore (lv' := [(6, .int r30), (5, .int x9), (4, .int x10), (3, .int x8), (0, .ref (aZ 0)), (1, .int p0), (2, .int p1)]) hx hb dX8_where_155 hl (by decide) rfl (fun ls hl => ?_)
              refine lv_iload hx hb dX8_where_157 (lv_at hl 2 rfl) ?_
              refine lv_bipush (v := (-9)) hx hb dX8_where_159 (by decide) ?_
              obtain ⟨k171_31, ek171_31, hf⟩ := kv_lt_e hf
              have J171_31 : ∀  (H : Heap) (locs : List Loc) (ls : Array Slot), va_P D vwCl (w_MD C aZ mZ29 mY) H → va_D A (w_MD C aZ mZ29 mY) → va_S A s.heap H locs → lv_has ls 8 [(6, .int r30), (5, .int x9), (3, .int x8), (0, .ref (aZ 0)), (1, .int p0), (2, .int p1)] → k171_31  = some (rr, oZ) → W p l e rX8_where s m args below meth c H locs 0 0 Q (F0 m 171 ls []) := by
                intro  H locs ls hP hD hS hl hf
                rw [ek171_31] at hf
                refine lv_iload hx hb dX8_where_171 (lv_at hl 0 rfl) ?_
                refine lv_istore (lv' := [(4, .int r30), (6, .int r30), (5, .int x9), (3, .int x8), (0, .ref (aZ 0)), (1, .int p0), (2, .int p1)]) hx hb dX8_where_173 hl (by decide) rfl (fun ls hl => ?_)
                refine lv_iconst (v := 0) hx hb dX8_where_175 (by decide) ?_
                refine lv_istore (lv' := [(7, .int 0), (4, .int r30), (6, .int r30), (5, .int x9), (3, .int x8), (0, .ref (aZ 0)), (1, .int p0), (2, .int p1)]) hx hb dX8_where_176 hl (by decide) rfl (fun ls hl => ?_)
                have L178 : ∀ (K178 : Int32 → Mm → Option (Int32 × Mm)), (∀ (x32 : Int32) (mZ33 : Mm) (H : Heap) (locs : List Loc) (ls : Array Slot), va_P D vwCl (w_MD C aZ mZ33 mY) H → va_D A (w_MD C aZ mZ33 mY) → va_S A s.heap H locs → lv_has ls 8 [(7, .int x32), (4, .int r30), (5, .int x9), (3, .int x8), (0, .ref (aZ 0)), (1, .int p0), (2, .int p1)] → K178 x32 mZ33 = some (rr, oZ) → W p l e rX8_where s m args below meth c H locs 0 0 Q (F0 m 209 ls [])) → ∀ (n : Nat) (x32 : Int32) (mZ33 : Mm) (H : Heap) (locs : List Loc) (ls : Array Slot), va_P D vwCl (w_MD C aZ mZ33 mY) H → va_D A (w_MD C aZ mZ33 mY) → va_S A s.heap H locs → lv_has ls 8 [(7, .int x32), (4, .int r30), (5, .int x9), (3, .int x8), (0, .ref (aZ 0)), (1, .int p0), (2, .int p1)] → ffX8_where_L178  K178 n x32 mZ33 = some (rr, oZ) → W p l e rX8_where s m args below meth c H locs 0 0 Q (F0 m 178 ls []) := by
                  intro K178 hK9 n
                  induction n with
                  | zero => intro x32 mZ33 H locs ls hP hD hS hl hf; exact kv_no hf
                  | succ n ih =>
                    intro x32 mZ33 H locs ls hP hD hS hl hf
                    rw [ffX8_where_L178_s] at hf
                    refine lv_iload hx hb dX8_where_178 (lv_at hl 0 rfl) ?_
                    refine lv_aload_n hx hb dX8_where_180 rfl (lv_at hl 4 rfl) ?_
                    refine va_get (D := D) (ci := 8) (v := .ref (aZ 2)) (C := RX8) (T := TX8) (N := 26) hx hb hts iX8 hown hK hP 0 rfl rfl 3 (by decide) q0 (fun _ h9 => h9) rfl dX8_where_181 ?_
                    refine lv_iconst (v := 0) hx hb dX8_where_184 (by decide) ?_
                    obtain ⟨h9, hf⟩ := kv_ix_e hf
                    refine va_iald hx hb hK hP 2 1 rfl rfl h9 dX8_where_185 ?_
                    refine lv_icmp_ge (tgt := 209) hx hb dX8_where_186 (by decide) (fun hc => ?_) (fun hc => ?_)
                    · have hf := kv_t hc hf
                      exact hK9 _ _ _ _ _ hP hD hS (lv_sub hl [0, 1, 2, 3, 4, 5, 6] rfl) hf
                    · have hf := kv_f hc hf
                      refine lv_aload_n hx hb dX8_where_189 rfl (lv_at hl 4 rfl) ?_
                      refine va_get (D := D) (ci := 8) (v := .ref (aZ 14)) (C := RX8) (T := TX8) (N := 26) hx hb hts iX8 hown hK hP 0 rfl rfl 20 (by decide) q4 (fun _ h9 => h9) rfl dX8_where_190 ?_
                      refine lv_iload hx hb dX8_where_193 (lv_at hl 0 rfl) ?_
                      refine lv_aload_n hx hb dX8_where_195 rfl (lv_at hl 4 rfl) ?_
                      refine va_get (D := D) (ci := 8) (v := .ref (aZ 13)) (C := RX8) (T := TX8) (N := 26) hx hb hts iX8 hown hK hP 0 rfl rfl 19 (by decide) q3 (fun _ h9 => h9) rfl dX8_where_196 ?_
                      refine lv_iload hx hb dX8_where_199 (lv_at hl 0 rfl) ?_
                      obtain ⟨h9, hf⟩ := kv_ix_e hf
                      refine va_iald hx hb hK hP 13 1 rfl rfl h9 dX8_where_201 ?_
                      obtain ⟨x34, ex34, hf⟩ := kv_lt_e hf
                      refine vv_nami ex34 ?_
                      obtain ⟨h9, hf⟩ := kv_ix_e hf
                      obtain ⟨mZ35, emZ35, hf⟩ := kv_lt_e hf
                      refine va_iast hx hb hK hP hD hS 14 1 rfl rfl h9 dX8_where_202 (fun H locs hP hD hS => ?_)
                      have hP : va_P D vwCl (w_MD C aZ mZ35 mY) H := by rw [emZ35]; exact hP
                      have hD : va_D A (w_MD C aZ mZ35 mY) := by rw [emZ35]; exact hD
                      obtain ⟨x36, ex36, hf⟩ := kv_lt_e hf
                      refine lv_iinc (v := x36) (lv' := [(7, .int x36), (4, .int r30), (5, .int x9), (3, .int x8), (0, .ref (aZ 0)), (1, .int p0), (2, .int p1)]) hx hb dX8_where_203 hl (k := 0) rfl (by rw [ex36]; rfl) (by decide) rfl (fun ls hl => ?_)
                      refine lv_goto (tgt := 178) hx hb dX8_where_206 (by decide) ?_
                      exact ih _ _ _ _ _ hP hD hS (lv_sub hl [0, 1, 2, 3, 4, 5, 6] rfl) hf
                refine L178 _ (fun x37 mZ38 H locs ls hP hD hS hl hf => ?_) _ _ _ _ _ _ hP hD hS (lv_sub hl [0, 1, 3, 4, 5, 6, 7] rfl) hf
                obtain ⟨x39, ex39, hf⟩ := kv_lt_e hf
                refine lv_iinc (v := x39) (lv' := [(5, .int x39), (7, .int x37), (4, .int r30), (3, .int x8), (0, .ref (aZ 0)), (1, .int p0), (2, .int p1)]) hx hb dX8_where_209 hl (k := 2) rfl (by rw [ex39]; rfl) (by decide) rfl (fun ls hl => ?_)
                refine lv_goto (tgt := 68) hx hb dX8_where_212 (by decide) ?_
                exact ih _ _ _ _ _ _ hP hD hS (lv_sub hl [0, 2, 3, 4, 5, 6] rfl) hf
              refine lv_icmp_eq (tgt := 171) hx hb dX8_where_161 (by decide) (fun hc => ?_) (fun hc => ?_)
              · have hf := kv_t hc hf
                exact J171_31 _ _ _ hP hD hS (lv_sub hl [0, 1, 3, 4, 5, 6] rfl) hf
              · have hf := kv_f hc hf
                refine lv_iload hx hb dX8_where_164 (lv_at hl 0 rfl) ?_
                refine lv_iload hx hb dX8_where_166 (lv_at hl 2 rfl) ?_
                refine lv_icmp_ge (tgt := 209) hx hb dX8_where_168 (by decide) (fun hc => ?_) (fun hc => ?_)
                · have hf := kv_t hc hf
                  obtain ⟨x40, ex40, hf⟩ := kv_lt_e hf
                  refine lv_iinc (v := x40) (lv' := [(5, .int x40), (6, .int r30), (4, .int x10), (3, .int x8), (0, .ref (aZ 0)), (1, .int p0), (2, .int p1)]) hx hb dX8_where_209 hl (k := 1) rfl (by rw [ex40]; rfl) (by decide) rfl (fun ls hl => ?_)
                  refine lv_goto (tgt := 68) hx hb dX8_where_212 (by decide) ?_
                  exact ih _ _ _ _ _ _ hP hD hS (lv_sub hl [0, 2, 3, 4, 5, 6] rfl) hf
                · have hf := kv_f hc hf
                  exact J171_31 _ _ _ hP hD hS (lv_sub hl [0, 1, 3, 4, 5, 6] rfl) hf
      refine L68 _ (fun x41 x42 mZ43 H locs ls hP hD hS hl hf => ?_) _ _ _ _ _ _ _ hP hD hS (lv_sub hl [0, 1, 2, 3, 4, 5] rfl) hf
      refine lv_iload_n hx hb dX8_where_215 rfl (lv_at hl 5 rfl) ?_
      refine lv_iconst (v := (-1)) hx hb dX8_where_216 (by decide) ?_
      refine lv_icmp_ne (tgt := 225) hx hb dX8_where_217 (by decide) (fun hc => ?_) (fun hc => ?_)
      · have hf := kv_f hc hf
        refine lv_aload_n hx hb dX8_where_225 rfl (lv_at hl 3 rfl) ?_
        refine va_get (D := D) (ci := 8) (v := .ref (aZ 14)) (C := RX8) (T := TX8) (N := 26) hx hb hts iX8 hown hK hP 0 rfl rfl 20 (by decide) q4 (fun _ h9 => h9) rfl dX8_where_226 ?_
        refine lv_iload_n hx hb dX8_where_229 rfl (lv_at hl 5 rfl) ?_
        obtain ⟨h9, hf⟩ := kv_ix_e hf
        refine va_iald hx hb hK hP 14 1 rfl rfl h9 dX8_where_230 ?_
        exact hret _ _ _ _ _ _ hf rfl hP hD hS dX8_where_231
      · have hf := kv_t hc hf
        refine lv_iload hx hb dX8_where_220 (lv_at hl 1 rfl) ?_
        refine lv_goto (tgt := 231) hx hb dX8_where_222 (by decide) ?_
        exact hret _ _ _ _ _ _ hf rfl hP hD hS dX8_where_231
    · have hf := kv_t hc hf
      refine lv_iconst (v := (-1)) hx hb dX8_where_26 (by decide) ?_
      exact hret _ _ _ _ _ _ hf rfl hP hD hS dX8_where_27
