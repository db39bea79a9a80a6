abbrev rX4_empty : Room := { frames := 0, cells := 0, slots := 0, locals := 0 }
set_option maxHeartbeats 4000000 in
set_option maxRecDepth 100000 in
theorem ccX4_empty (l : Launch) (D : va_G) (C : Nat → ClassId) (sz : Nat) (aR : Nat → Nat) (aF : Nat → Nat) (mR : Mm) (rr : Int32) (oR : Mm) (hf : ffX4_empty mR = some (rr, oR)) : Met l yX4_empty wsX4_empty rX4_empty (va_Pc [.ref (aR 0)] (vv_pre D C (w_Rd C aF aR mR) sz)) (vv_QI D C (w_Rd C aF aR mR) (w_Rd C aF aR oR) sz rr) 0 0 (va_A (w_Rd C aF aR mR) sz) := by
  unfold ffX4_empty at hf
  refine vv_metI (cc := cX4_empty) (maxL := 2) (ty := .int) (by decide) rfl (Nat.le_of_ble_eq_true rfl) ?_
  intro p e s m args below meth c A Q H locs ls hx hb hml hown hts hA hK hN hP hD hS hl hret
  have hown : s.vm.findClass RX4 = some m.cls := hown
  have hl : lv_has ls 2 [(0, .ref (aR 0))] := hl
  have hret : ∀ (v0 : Int32) (v1 : Mm) (H : Heap) (locs : List Loc) (ls : Array Slot) (pc : Nat), some (v0, v1) = some (rr, oR) → narrow .int (.int v0) = .int v0 → va_P D vwCl (w_Rd C aF aR v1) H → va_D A (w_Rd C aF aR v1) → va_S A s.heap H locs → decode cX4_empty pc = .ok (.ireturn, 1) → W p l e rX4_empty s m args below meth c H locs 0 0 Q (F0 m pc ls [.int v0]) := by
    intro v0 v1 H locs ls pc h0 hn h1 h2 h3 h4
    cases h0
    exact hret H locs ls pc hn h1 h2 h3 h4
  have q0 := hts (.fieldLink RX4 22 "ForeRain$Reader" "length" "I") (by decide +kernel)
  have iX4 : ∀ w ∈ u_ws RX4 TX4 8, w ∈ wsX4_empty := by decide +kernel
  refine lv_aload_n hx hb dX4_empty_0 rfl (lv_at hl 0 rfl) ?_
  refine va_get (D := D) (ci := 4) (v := .int (mR 0 2)) (C := RX4) (T := TX4) (N := 8) hx hb hts iX4 hown hK hP 0 rfl rfl 2 (by decide) q0 (fun _ h9 => h9) rfl dX4_empty_1 ?_
  obtain ⟨x1, ex1, hf⟩ := kv_lt_e hf
  refine vv_nami ex1 ?_
  refine lv_istore_n (lv' := [(1, .int x1), (0, .ref (aR 0))]) hx hb dX4_empty_4 rfl hl (by decide) rfl (fun ls hl => ?_)
  refine lv_aload_n hx hb dX4_empty_5 rfl (lv_at hl 1 rfl) ?_
  refine lv_iconst (v := 0) hx hb dX4_empty_6 (by decide) ?_
  obtain ⟨mR2, emR2, hf⟩ := kv_lt_e hf
  refine va_put (D := D) (ci := 4) (v := .int 0) (ty := .int) (C := RX4) (T := TX4) (N := 8) hx hb hts iX4 tyX4 tyX4_ok nmX4 hown hK hP hD hS 0 rfl rfl 2 (by decide) q0 (fun _ h9 => h9) rfl (tyX4_ok 2 (by decide)) rfl rfl (Nat.le_of_ble_eq_true rfl) dX4_empty_7 (fun H locs hP hD hS => ?_)
  have hP : va_P D vwCl (w_Rd C aF aR mR2) H := by rw [emR2]; exact hP
  have hD : va_D A (w_Rd C aF aR mR2) := by rw [emR2]; exact hD
  refine lv_iload_n hx hb dX4_empty_10 rfl (lv_at hl 0 rfl) ?_
  exact hret _ _ _ _ _ _ hf rfl hP hD hS dX4_empty_11
abbrev rX4_isDigit : Room := { frames := 0, cells := 0, slots := 0, locals := 0 }
set_option maxHeartbeats 4000000 in
set_option maxRecDepth 100000 in
theorem ccX4_isDigit (l : Launch) (D : va_G) (C : Nat → ClassId) (sz : Nat) (p0 : Int32) (rr : Int32) (hf : ffX4_isDigit p0 = some (rr)) : Met l yX4_isDigit wsX4_isDigit rX4_isDigit (va_Pc [.int p0] (vv_pre D C ([] : va_W) sz)) (vv_QI D C ([] : va_W) ([] : va_W) sz rr) 0 0 (va_A ([] : va_W) sz) := by
  unfold ffX4_isDigit at hf
  refine vv_metI (cc := cX4_isDigit) (maxL := 1) (ty := .boolean) (by decide) rfl (Nat.le_of_ble_eq_true rfl) ?_
  intro p e s m args below meth c A Q H locs ls hx hb hml hown hts hA hK hN hP hD hS hl hret
  have hown : s.vm.findClass RX4 = some m.cls := hown
  have hl : lv_has ls 1 [(0, .int p0)] := hl
  have hret : ∀ (v0 : Int32) (H : Heap) (locs : List Loc) (ls : Array Slot) (pc : Nat), some (v0) = some (rr) → narrow .boolean (.int v0) = .int v0 → va_P D vwCl ([] : va_W) H → va_D A ([] : va_W) → va_S A s.heap H locs → decode cX4_isDigit pc = .ok (.ireturn, 1) → W p l e rX4_isDigit s m args below meth c H locs 0 0 Q (F0 m pc ls [.int v0]) := by
    intro v0 H locs ls pc h0 hn h1 h2 h3 h4
    cases h0
    exact hret H locs ls pc hn h1 h2 h3 h4
  refine lv_iload_n hx hb dX4_isDigit_0 rfl (lv_at hl 0 rfl) ?_
  refine lv_bipush (v := 48) hx hb dX4_isDigit_1 (by decide) ?_
  refine lv_icmp_lt (tgt := 16) hx hb dX4_isDigit_3 (by decide) (fun hc => ?_) (fun hc => ?_)
  · have hf := kv_t hc hf
    refine lv_iconst (v := 0) hx hb dX4_isDigit_16 (by decide) ?_
    exact hret _ _ _ _ _ hf rfl hP hD hS dX4_isDigit_17
  · have hf := kv_f hc hf
    refine lv_iload_n hx hb dX4_isDigit_6 rfl (lv_at hl 0 rfl) ?_
    refine lv_bipush (v := 57) hx hb dX4_isDigit_7 (by decide) ?_
    refine lv_icmp_gt (tgt := 16) hx hb dX4_isDigit_9 (by decide) (fun hc => ?_) (fun hc => ?_)
    · have hf := kv_t hc hf
      refine lv_iconst (v := 0) hx hb dX4_isDigit_16 (by decide) ?_
      exact hret _ _ _ _ _ hf rfl hP hD hS dX4_isDigit_17
    · have hf := kv_f hc hf
      refine lv_iconst (v := 1) hx hb dX4_isDigit_12 (by decide) ?_
      refine lv_goto (tgt := 17) hx hb dX4_isDigit_13 (by decide) ?_
      exact hret _ _ _ _ _ hf rfl hP hD hS dX4_isDigit_17
abbrev rX4_isLetter : Room := { frames := 0, cells := 0, slots := 0, locals := 0 }
set_option maxHeartbeats 4000000 in
set_option maxRecDepth 100000 in
theorem ccX4_isLetter (l : Launch) (D : va_G) (C : Nat → ClassId) (sz : Nat) (p0 : Int32) (rr : Int32) (hf : ffX4_isLetter p0 = some (rr)) : Met l yX4_isLetter wsX4_isLetter rX4_isLetter (va_Pc [.int p0] (vv_pre D C ([] : va_W) sz)) (vv_QI D C ([] : va_W) ([] : va_W) sz rr) 0 0 (va_A ([] : va_W) sz) := by
  unfold ffX4_isLetter at hf
  refine vv_metI (cc := cX4_isLetter) (maxL := 1) (ty := .boolean) (by decide) rfl (Nat.le_of_ble_eq_true rfl) ?_
  intro p e s m args below meth c A Q H locs ls hx hb hml hown hts hA hK hN hP hD hS hl hret
  have hown : s.vm.findClass RX4 = some m.cls := hown
  have hl : lv_has ls 1 [(0, .int p0)] := hl
  have hret : ∀ (v0 : Int32) (H : Heap) (locs : List Loc) (ls : Array Slot) (pc : Nat), some (v0) = some (rr) → narrow .boolean (.int v0) = .int v0 → va_P D vwCl ([] : va_W) H → va_D A ([] : va_W) → va_S A s.heap H locs → decode cX4_isLetter pc = .ok (.ireturn, 1) → W p l e rX4_isLetter s m args below meth c H locs 0 0 Q (F0 m pc ls [.int v0]) := by
    intro v0 H locs ls pc h0 hn h1 h2 h3 h4
    cases h0
    exact hret H locs ls pc hn h1 h2 h3 h4
  refine lv_iload_n hx hb dX4_isLetter_0 rfl (lv_at hl 0 rfl) ?_
  refine lv_bipush (v := 97) hx hb dX4_isLetter_1 (by decide) ?_
  refine lv_icmp_lt (tgt := 16) hx hb dX4_isLetter_3 (by decide) (fun hc => ?_) (fun hc => ?_)
  · have hf := kv_t hc hf
    refine lv_iconst (v := 0) hx hb dX4_isLetter_16 (by decide) ?_
    exact hret _ _ _ _ _ hf rfl hP hD hS dX4_isLetter_17
  · have hf := kv_f hc hf
    refine lv_iload_n hx hb dX4_isLetter_6 rfl (lv_at hl 0 rfl) ?_
    refine lv_bipush (v := 122) hx hb dX4_isLetter_7 (by decide) ?_
    refine lv_icmp_gt (tgt := 16) hx hb dX4_isLetter_9 (by decide) (fun hc => ?_) (fun hc => ?_)
    · have hf := kv_t hc hf
      refine lv_iconst (v := 0) hx hb dX4_isLetter_16 (by decide) ?_
      exact hret _ _ _ _ _ hf rfl hP hD hS dX4_isLetter_17
    · have hf := kv_f hc hf
      refine lv_iconst (v := 1) hx hb dX4_isLetter_12 (by decide) ?_
      refine lv_goto (tgt := 17) hx hb dX4_isLetter_13 (by decide) ?_
      exact hret _ _ _ _ _ hf rfl hP hD hS dX4_isLetter_17
abbrev rX4_isWord : Room := { frames := 4, cells := 0, slots := 0, locals := 240 }
set_option maxHeartbeats 4000000 in
set_option maxRecDepth 100000 in
theorem ccX4_isWord (l : Launch) (D : va_G) (C : Nat → ClassId) (sz : Nat) (aR : Nat → Nat) (aF : Nat → Nat) (mR : Mm) (ii : Nat) (rr : Int32) (hi : ii < 4) (hf : ffX4_isWord ii mR = some (rr)) : Met l yX4_isWord wsX4_isWord rX4_isWord (va_Pc [.ref (aR 0), .ref (C (10 + ii))] (vv_pre D C (w_Rd C aF aR mR) sz)) (vv_QI D C (w_Rd C aF aR mR) (w_Rd C aF aR mR) sz rr) 0 0 (va_A (w_Rd C aF aR mR) sz) := by
  unfold ffX4_isWord at hf
  refine vv_metI (cc := cX4_isWord) (maxL := 3) (ty := .boolean) (by decide) rfl (Nat.le_of_ble_eq_true rfl) ?_
  intro p e s m args below meth c A Q H locs ls hx hb hml hown hts hA hK hN hP hD hS hl hret
  have hown : s.vm.findClass RX4 = some m.cls := hown
  have hl : lv_has ls 3 [(0, .ref (aR 0)), (1, .ref (C (10 + ii)))] := hl
  have hret : ∀ (v0 : Int32) (H : Heap) (locs : List Loc) (ls : Array Slot) (pc : Nat), some (v0) = some (rr) → narrow .boolean (.int v0) = .int v0 → va_P D vwCl (w_Rd C aF aR mR) H → va_D A (w_Rd C aF aR mR) → va_S A s.heap H locs → decode cX4_isWord pc = .ok (.ireturn, 1) → W p l e rX4_isWord s m args below meth c H locs 0 0 Q (F0 m pc ls [.int v0]) := by
    intro v0 H locs ls pc h0 hn h1 h2 h3 h4
    cases h0
    exact hret H locs ls pc hn h1 h2 h3 h4
  have q0 := hts (.fieldLink RX4 38 "ForeRain$Reader" "token" "I") (by decide +kernel)
  have q1 := hts (.fieldLink RX4 29 "ForeRain$Reader" "next" "I") (by decide +kernel)
  have q2 := hts (.fieldLink RX4 72 "ForeRain$Reader" "start" "I") (by decide +kernel)
  have q3 := hts (.fieldLink RX4 9 "ForeRain$Reader" "bytes" "[B") (by decide +kernel)
  have iX4 : ∀ w ∈ u_ws RX4 TX4 8, w ∈ wsX4_isWord := by decide +kernel
  refine lv_aload_n hx hb dX4_isWord_0 rfl (lv_at hl 0 rfl) ?_
  refine va_get (D := D) (ci := 4) (v := .int (mR 0 5)) (C := RX4) (T := TX4) (N := 8) hx hb hts iX4 hown hK hP 0 rfl rfl 5 (by decide) q0 (fun _ h9 => h9) rfl dX4_isWord_1 ?_
  refine lv_iconst (v := 1) hx hb dX4_isWord_4 (by decide) ?_
  refine lv_icmp_ne (tgt := 24) hx hb dX4_isWord_5 (by decide) (fun hc => ?_) (fun hc => ?_)
  · have hf := kv_f hc hf
    refine lv_iconst (v := 0) hx hb dX4_isWord_24 (by decide) ?_
    exact hret _ _ _ _ _ hf rfl hP hD hS dX4_isWord_25
  · have hf := kv_t hc hf
    refine lv_aload_n hx hb dX4_isWord_8 rfl (lv_at hl 0 rfl) ?_
    refine va_get (D := D) (ci := 4) (v := .int (mR 0 3)) (C := RX4) (T := TX4) (N := 8) hx hb hts iX4 hown hK hP 0 rfl rfl 3 (by decide) q1 (fun _ h9 => h9) rfl dX4_isWord_9 ?_
    refine lv_aload_n hx hb dX4_isWord_12 rfl (lv_at hl 0 rfl) ?_
    refine va_get (D := D) (ci := 4) (v := .int (mR 0 4)) (C := RX4) (T := TX4) (N := 8) hx hb hts iX4 hown hK hP 0 rfl rfl 4 (by decide) q2 (fun _ h9 => h9) rfl dX4_isWord_13 ?_
    refine lv_isub hx hb dX4_isWord_16 ?_
    refine lv_aload_n hx hb dX4_isWord_17 rfl (lv_at hl 1 rfl) ?_
    have hs9 : vv_Sub D H A ([] : va_W) ([] : va_W) (w_Rd C aF aR mR) := vv_Sub.none hP hD hS hA
    refine vv_goi (wn := (w_Rd C aF aR mR)) hK hs9 hS (vv_rV (As := []) (rest := [.int ((mR 0 3) - (mR 0 4))]) hx hb hml hown hts hK hN hS hs9 (ccJ_length l D C H.size ii hi) (cwV 0 hts gX4_isWord_J0_length_8abf5 rfl rfl rfl (by decide +kernel) ⟨Nat.le_of_ble_eq_true rfl, Nat.le_of_ble_eq_true rfl⟩) (vk_recv (adK := fun i => C (10 + i)) (i := ii) hN.2.1 hi hS) rfl hl.1 rfl (Nat.le_of_ble_eq_true rfl) dX4_isWord_18 ⟨Nat.zero_le _, Nat.zero_le _⟩) (fun H locs hP hD hS => ?_)
    refine lv_icmp_eq (tgt := 26) hx hb dX4_isWord_21 (by decide) (fun hc => ?_) (fun hc => ?_)
    · have hf := kv_t hc hf
      refine lv_iconst (v := 0) hx hb dX4_isWord_26 (by decide) ?_
      refine lv_istore_n (lv' := [(2, .int 0), (0, .ref (aR 0)), (1, .ref (C (10 + ii)))]) hx hb dX4_isWord_27 rfl hl (by decide) rfl (fun ls hl => ?_)
      have L28 : ∀ (K28 : Int32 → Option (Int32)), (∀ (x1 : Int32) (H : Heap) (locs : List Loc) (ls : Array Slot), va_P D vwCl (w_Rd C aF aR mR) H → va_D A (w_Rd C aF aR mR) → va_S A s.heap H locs → lv_has ls 3 [(2, .int x1), (0, .ref (aR 0)), (1, .ref (C (10 + ii)))] → K28 x1 = some (rr) → W p l e rX4_isWord s m args below meth c H locs 0 0 Q (F0 m 63 ls [])) → ∀ (n : Nat) (x1 : Int32) (H : Heap) (locs : List Loc) (ls : Array Slot), va_P D vwCl (w_Rd C aF aR mR) H → va_D A (w_Rd C aF aR mR) → va_S A s.heap H locs → lv_has ls 3 [(2, .int x1), (0, .ref (aR 0)), (1, .ref (C (10 + ii)))] → ffX4_isWord_L28 ii mR K28 n x1 = some (rr) → W p l e rX4_isWord s m args below meth c H locs 0 0 Q (F0 m 28 ls []) := by
        intro K28 hK9 n
        induction n with
        | zero => intro x1 H locs ls hP hD hS hl hf; exact kv_no hf
        | succ n ih =>
          intro x1 H locs ls hP hD hS hl hf
          rw [ffX4_isWord_L28_s] at hf
          refine lv_iload_n hx hb dX4_isWord_28 rfl (lv_at hl 0 rfl) ?_
          refine lv_aload_n hx hb dX4_isWord_29 rfl (lv_at hl 2 rfl) ?_
          have hs9 : vv_Sub D H A ([] : va_W) ([] : va_W) (w_Rd C aF aR mR) := vv_Sub.none hP hD hS hA
          refine vv_goi (wn := (w_Rd C aF aR mR)) hK hs9 hS (vv_rV (As := []) (rest := [.int x1]) hx hb hml hown hts hK hN hS hs9 (ccJ_length l D C H.size ii hi) (cwV 0 hts gX4_isWord_J0_length_8abf5 rfl rfl rfl (by decide +kernel) ⟨Nat.le_of_ble_eq_true rfl, Nat.le_of_ble_eq_true rfl⟩) (vk_recv (adK := fun i => C (10 + i)) (i := ii) hN.2.1 hi hS) rfl hl.1 rfl (Nat.le_of_ble_eq_true rfl) dX4_isWord_30 ⟨Nat.zero_le _, Nat.zero_le _⟩) (fun H locs hP hD hS => ?_)
          refine lv_icmp_ge (tgt := 63) hx hb dX4_isWord_33 (by decide) (fun hc => ?_) (fun hc => ?_)
          · have hf := kv_t hc hf
            exact hK9 _ _ _ _ hP hD hS (lv_sub hl [0, 1, 2] rfl) hf
          · have hf := kv_f hc hf
            refine lv_aload_n hx hb dX4_isWord_36 rfl (lv_at hl 1 rfl) ?_
            refine va_get (D := D) (ci := 4) (v := .ref (aR 1)) (C := RX4) (T := TX4) (N := 8) hx hb hts iX4 hown hK hP 0 rfl rfl 0 (by decide) q3 (fun _ h9 => h9) rfl dX4_isWord_37 ?_
            refine lv_aload_n hx hb dX4_isWord_40 rfl (lv_at hl 1 rfl) ?_
            refine va_get (D := D) (ci := 4) (v := .int (mR 0 4)) (C := RX4) (T := TX4) (N := 8) hx hb hts iX4 hown hK hP 0 rfl rfl 4 (by decide) q2 (fun _ h9 => h9) rfl dX4_isWord_41 ?_
            refine lv_iload_n hx hb dX4_isWord_44 rfl (lv_at hl 0 rfl) ?_
            refine lv_iadd hx hb dX4_isWord_45 ?_
            obtain ⟨h9, hf⟩ := kv_ix_e hf
            refine va_bald hx hb hK hP 1 0 rfl rfl h9 dX4_isWord_46 ?_
            refine lv_aload_n hx hb dX4_isWord_47 rfl (lv_at hl 2 rfl) ?_
            refine lv_iload_n hx hb dX4_isWord_48 rfl (lv_at hl 0 rfl) ?_
            obtain ⟨h9, hf⟩ := kv_ix_e hf
            have hs9 : vv_Sub D H A ([] : va_W) ([] : va_W) (w_Rd C aF aR mR) := vv_Sub.none hP hD hS hA
            refine vv_goi (wn := (w_Rd C aF aR mR)) hK hs9 hS (vv_rV (As := [.int x1]) (rest := [.int (mR 1 ((mR 0 4) + x1).toNatClampNeg)]) hx hb hml hown hts hK hN hS hs9 (ccJ_charAt l D C H.size ii x1 hi h9) (cwV 1 hts gX4_isWord_J0_charAt_5068e rfl rfl rfl (by decide +kernel) ⟨Nat.le_of_ble_eq_true rfl, Nat.le_of_ble_eq_true rfl⟩) (vk_recv (adK := fun i => C (10 + i)) (i := ii) hN.2.1 hi hS) rfl hl.1 rfl (Nat.le_of_ble_eq_true rfl) dX4_isWord_49 ⟨Nat.zero_le _, Nat.zero_le _⟩) (fun H locs hP hD hS => ?_)
            refine lv_icmp_eq (tgt := 57) hx hb dX4_isWord_52 (by decide) (fun hc => ?_) (fun hc => ?_)
            · have hf := kv_t hc hf
              obtain ⟨x2, ex2, hf⟩ := kv_lt_e hf
              refine lv_iinc (v := x2) (lv' := [(2, .int x2), (0, .ref (aR 0)), (1, .ref (C (10 + ii)))]) hx hb dX4_isWord_57 hl (k := 0) rfl (by rw [ex2]; rfl) (by decide) rfl (fun ls hl => ?_)
              refine lv_goto (tgt := 28) hx hb dX4_isWord_60 (by decide) ?_
              exact ih _ _ _ _ hP hD hS (lv_sub hl [0, 1, 2] rfl) hf
            · have hf := kv_f hc hf
              refine lv_iconst (v := 0) hx hb dX4_isWord_55 (by decide) ?_
              exact hret _ _ _ _ _ hf rfl hP hD hS dX4_isWord_56
      refine L28 _ (fun x3 H locs ls hP hD hS hl hf => ?_) _ _ _ _ _ hP hD hS (lv_sub hl [0, 1, 2] rfl) hf
      refine lv_iconst (v := 1) hx hb dX4_isWord_63 (by decide) ?_
      exact hret _ _ _ _ _ hf rfl hP hD hS dX4_isWord_64
    · have hf := kv_f hc hf
      refine lv_iconst (v := 0) hx hb dX4_isWord_24 (by decide) ?_
      exact hret _ _ _ _ _ hf rfl hP hD hS dX4_isWord_25
abbrev rX4_scanWord : Room := { frames := 1, cells := 0, slots := 0, locals := 20 }
set_option maxHeartbeats 4000000 in
set_option maxRecDepth 100000 in
theorem ccX4_scanWord (l : Launch) (D : va_G) (C : Nat → ClassId) (sz : Nat) (aR : Nat → Nat) (aF : Nat → Nat) (mR : Mm) (oR : Mm) (hf : ffX4_scanWord mR = some (oR)) : Met l yX4_scanWord wsX4_scanWord rX4_scanWord (va_Pc [.ref (aR 0)] (vv_pre D C (w_Rd C aF aR mR) sz)) (vv_QV D C (w_Rd C aF aR mR) (w_Rd C aF aR oR) sz) 0 0 (va_A (w_Rd C aF aR mR) sz) := by
  unfold ffX4_scanWord at hf
  refine vv_metV (cc := cX4_scanWord) (maxL := 1) (by decide) rfl (Nat.le_of_ble_eq_true rfl) ?_
  intro p e s m args below meth c A Q H locs ls hx hb hml hown hts hA hK hN hP hD hS hl hret
  have hown : s.vm.findClass RX4 = some m.cls := hown
  have hl : lv_has ls 1 [(0, .ref (aR 0))] := hl
  have hret : ∀ (v0 : Mm) (H : Heap) (locs : List Loc) (ls : Array Slot) (pc : Nat), some (v0) = some (oR) → va_P D vwCl (w_Rd C aF aR v0) H → va_D A (w_Rd C aF aR v0) → va_S A s.heap H locs → decode cX4_scanWord pc = .ok (.return_, 1) → W p l e rX4_scanWord s m args below meth c H locs 0 0 Q (F0 m pc ls []) := by
    intro v0 H locs ls pc h0 h1 h2 h3 h4
    cases h0
    exact hret H locs ls pc h1 h2 h3 h4
  have q0 := hts (.fieldLink RX4 38 "ForeRain$Reader" "token" "I") (by decide +kernel)
  have q1 := hts (.fieldLink RX4 29 "ForeRain$Reader" "next" "I") (by decide +kernel)
  have q2 := hts (.fieldLink RX4 22 "ForeRain$Reader" "length" "I") (by decide +kernel)
  have q3 := hts (.fieldLink RX4 9 "ForeRain$Reader" "bytes" "[B") (by decide +kernel)
  have iX4 : ∀ w ∈ u_ws RX4 TX4 8, w ∈ wsX4_scanWord := by decide +kernel
  refine lv_aload_n hx hb dX4_scanWord_0 rfl (lv_at hl 0 rfl) ?_
  refine lv_iconst (v := 1) hx hb dX4_scanWord_1 (by decide) ?_
  obtain ⟨mR1, emR1, hf⟩ := kv_lt_e hf
  refine va_put (D := D) (ci := 4) (v := .int 1) (ty := .int) (C := RX4) (T := TX4) (N := 8) hx hb hts iX4 tyX4 tyX4_ok nmX4 hown hK hP hD hS 0 rfl rfl 5 (by decide) q0 (fun _ h9 => h9) rfl (tyX4_ok 5 (by decide)) rfl rfl (Nat.le_of_ble_eq_true rfl) dX4_scanWord_2 (fun H locs hP hD hS => ?_)
  have hP : va_P D vwCl (w_Rd C aF aR mR1) H := by rw [emR1]; exact hP
  have hD : va_D A (w_Rd C aF aR mR1) := by rw [emR1]; exact hD
  have L5 : ∀ (K5 : Mm → Option (Mm)), (∀ (mR2 : Mm) (H : Heap) (locs : List Loc) (ls : Array Slot), va_P D vwCl (w_Rd C aF aR mR2) H → va_D A (w_Rd C aF aR mR2) → va_S A s.heap H locs → lv_has ls 1 [(0, .ref (aR 0))] → K5 mR2 = some (oR) → W p l e rX4_scanWord s m args below meth c H locs 0 0 Q (F0 m 44 ls [])) → ∀ (n : Nat) (mR2 : Mm) (H : Heap) (locs : List Loc) (ls : Array Slot), va_P D vwCl (w_Rd C aF aR mR2) H → va_D A (w_Rd C aF aR mR2) → va_S A s.heap H locs → lv_has ls 1 [(0, .ref (aR 0))] → ffX4_scanWord_L5  K5 n mR2 = some (oR) → W p l e rX4_scanWord s m args below meth c H locs 0 0 Q (F0 m 5 ls []) := by
    intro K5 hK9 n
    induction n with
    | zero => intro mR2 H locs ls hP hD hS hl hf; exact kv_no hf
    | succ n ih =>
      intro mR2 H locs ls hP hD hS hl hf
      rw [ffX4_scanWord_L5_s] at hf
      refine lv_aload_n hx hb dX4_scanWord_5 rfl (lv_at hl 0 rfl) ?_
      refine va_get (D := D) (ci := 4) (v := .int (mR2 0 3)) (C := RX4) (T := TX4) (N := 8) hx hb hts iX4 hown hK hP 0 rfl rfl 3 (by decide) q1 (fun _ h9 => h9) rfl dX4_scanWord_6 ?_
      refine lv_aload_n hx hb dX4_scanWord_9 rfl (lv_at hl 0 rfl) ?_
      refine va_get (D := D) (ci := 4) (v := .int (mR2 0 2)) (C := RX4) (T := TX4) (N := 8) hx hb hts iX4 hown hK hP 0 rfl rfl 2 (by decide) q2 (fun _ h9 => h9) rfl dX4_scanWord_10 ?_
      refine lv_icmp_ge (tgt := 44) hx hb dX4_scanWord_13 (by decide) (fun hc => ?_) (fun hc => ?_)
      · have hf := kv_t hc hf
        exact hK9 _ _ _ _ hP hD hS (lv_sub hl [0] rfl) hf
      · have hf := kv_f hc hf
        refine lv_aload_n hx hb dX4_scanWord_16 rfl (lv_at hl 0 rfl) ?_
        refine va_get (D := D) (ci := 4) (v := .ref (aR 1)) (C := RX4) (T := TX4) (N := 8) hx hb hts iX4 hown hK hP 0 rfl rfl 0 (by decide) q3 (fun _ h9 => h9) rfl dX4_scanWord_17 ?_
        refine lv_aload_n hx hb dX4_scanWord_20 rfl (lv_at hl 0 rfl) ?_
        refine va_get (D := D) (ci := 4) (v := .int (mR2 0 3)) (C := RX4) (T := TX4) (N := 8) hx hb hts iX4 hown hK hP 0 rfl rfl 3 (by decide) q1 (fun _ h9 => h9) rfl dX4_scanWord_21 ?_
        obtain ⟨h9, hf⟩ := kv_ix_e hf
        refine va_bald hx hb hK hP 1 0 rfl rfl h9 dX4_scanWord_24 ?_
        obtain ⟨r3, hc, hf⟩ := kv_b1_e hf
        have hs9 : vv_Sub D H A ([] : va_W) ([] : va_W) (w_Rd C aF aR mR2) := vv_Sub.none hP hD hS hA
        refine vv_goi (wn := (w_Rd C aF aR mR2)) hK hs9 hS (vv_rS (As := [.int (mR2 1 (mR2 0 3).toNatClampNeg)]) (rest := []) hx hb hml hown hts hK hN hS hs9 (ccX4_isLetter l D C H.size (mR2 1 (mR2 0 3).toNatClampNeg) r3 hc) (va_cwS 1 hts gX4_scanWord_X4_isLetter rfl rfl rfl (by decide +kernel) ⟨(Nat.le_of_ble_eq_true rfl), (Nat.le_of_ble_eq_true rfl)⟩) rfl hl.1 rfl (Nat.le_of_ble_eq_true rfl) dX4_scanWord_25 ⟨Nat.zero_le _, Nat.zero_le _⟩) (fun H locs hP hD hS => ?_)
        refine lv_if_eq (tgt := 44) hx hb dX4_scanWord_28 (by decide) (fun hc => ?_) (fun hc => ?_)
        · have hf := kv_t hc hf
          exact hK9 _ _ _ _ hP hD hS (lv_sub hl [0] rfl) hf
        · have hf := kv_f hc hf
          refine lv_aload_n hx hb dX4_scanWord_31 rfl (lv_at hl 0 rfl) ?_
          refine lv_dup hx hb dX4_scanWord_32 rfl ?_
          refine va_get (D := D) (ci := 4) (v := .int (mR2 0 3)) (C := RX4) (T := TX4) (N := 8) hx hb hts iX4 hown hK hP 0 rfl rfl 3 (by decide) q1 (fun _ h9 => h9) rfl dX4_scanWord_33 ?_
          refine lv_iconst (v := 1) hx hb dX4_scanWord_36 (by decide) ?_
          refine lv_iadd hx hb dX4_scanWord_37 ?_
          obtain ⟨x4, ex4, hf⟩ := kv_lt_e hf
          refine vv_nami ex4 ?_
          obtain ⟨mR5, emR5, hf⟩ := kv_lt_e hf
          refine va_put (D := D) (ci := 4) (v := .int x4) (ty := .int) (C := RX4) (T := TX4) (N := 8) hx hb hts iX4 tyX4 tyX4_ok nmX4 hown hK hP hD hS 0 rfl rfl 3 (by decide) q1 (fun _ h9 => h9) rfl (tyX4_ok 3 (by decide)) rfl rfl (Nat.le_of_ble_eq_true rfl) dX4_scanWord_38 (fun H locs hP hD hS => ?_)
          have hP : va_P D vwCl (w_Rd C aF aR mR5) H := by rw [emR5]; exact hP
          have hD : va_D A (w_Rd C aF aR mR5) := by rw [emR5]; exact hD
          refine lv_goto (tgt := 5) hx hb dX4_scanWord_41 (by decide) ?_
          exact ih _ _ _ _ hP hD hS (lv_sub hl [0] rfl) hf
  refine L5 _ (fun mR6 H locs ls hP hD hS hl hf => ?_) _ _ _ _ _ hP hD hS (lv_sub hl [0] rfl) hf
  exact hret _ _ _ _ _ hf hP hD hS dX4_scanWord_44
abbrev rX4_scanNumber : Room := { frames := 1, cells := 0, slots := 0, locals := 80 }
set_option maxHeartbeats 4000000 in
set_option maxRecDepth 100000 in
theorem ccX4_scanNumber (l : Launch) (D : va_G) (C : Nat → ClassId) (sz : Nat) (aR : Nat → Nat) (aF : Nat → Nat) (mR : Mm) (oR : Mm) (hf : ffX4_scanNumber mR = some (oR)) : Met l yX4_scanNumber wsX4_scanNumber rX4_scanNumber (va_Pc [.ref (aR 0)] (vv_pre D C (w_Rd C aF aR mR) sz)) (vv_QV D C (w_Rd C aF aR mR) (w_Rd C aF aR oR) sz) 0 0 (va_A (w_Rd C aF aR mR) sz) := by
  unfold ffX4_scanNumber at hf
  refine vv_metV (cc := cX4_scanNumber) (maxL := 2) (by decide) rfl (Nat.le_of_ble_eq_true rfl) ?_
  intro p e s m args below meth c A Q H locs ls hx hb hml hown hts hA hK hN hP hD hS hl hret
  have hown : s.vm.findClass RX4 = some m.cls := hown
  have hl : lv_has ls 2 [(0, .ref (aR 0))] := hl
  have hret : ∀ (v0 : Mm) (H : Heap) (locs : List Loc) (ls : Array Slot) (pc : Nat), some (v0) = some (oR) → va_P D vwCl (w_Rd C aF aR v0) H → va_D A (w_Rd C aF aR v0) → va_S A s.heap H locs → decode cX4_scanNumber pc = .ok (.return_, 1) → W p l e rX4_scanNumber s m args below meth c H locs 0 0 Q (F0 m pc ls []) := by
    intro v0 H locs ls pc h0 h1 h2 h3 h4
    cases h0
    exact hret H locs ls pc h1 h2 h3 h4
  have q0 := hts (.fieldLink RX4 104 "ForeRain$Reader" "value" "I") (by decide +kernel)
  have q1 := hts (.fieldLink RX4 29 "ForeRain$Reader" "next" "I") (by decide +kernel)
  have q2 := hts (.fieldLink RX4 22 "ForeRain$Reader" "length" "I") (by decide +kernel)
  have q3 := hts (.fieldLink RX4 9 "ForeRain$Reader" "bytes" "[B") (by decide +kernel)
  have q4 := hts (.methodLink RX4 124 Lib.Math.min.name) (by decide +kernel)
  have q5 := hts (.static Lib.Math.min.name) (by decide +kernel)
  have q6 := hts (.initialized "java/lang/Math") (by decide +kernel)
  have q7 := hts (.code Lib.Math.min.name Lib.Math.min.code 2 (some .int)) (by decide +kernel)
  have q8 := hts (.fieldLink RX4 72 "ForeRain$Reader" "start" "I") (by decide +kernel)
  have q9 := hts (.fieldLink RX4 38 "ForeRain$Reader" "token" "I") (by decide +kernel)
  have iX4 : ∀ w ∈ u_ws RX4 TX4 8, w ∈ wsX4_scanNumber := by decide +kernel
  refine lv_aload_n hx hb dX4_scanNumber_0 rfl (lv_at hl 0 rfl) ?_
  refine lv_iconst (v := 0) hx hb dX4_scanNumber_1 (by decide) ?_
  obtain ⟨mR1, emR1, hf⟩ := kv_lt_e hf
  refine va_put (D := D) (ci := 4) (v := .int 0) (ty := .int) (C := RX4) (T := TX4) (N := 8) hx hb hts iX4 tyX4 tyX4_ok nmX4 hown hK hP hD hS 0 rfl rfl 6 (by decide) q0 (fun _ h9 => h9) rfl (tyX4_ok 6 (by decide)) rfl rfl (Nat.le_of_ble_eq_true rfl) dX4_scanNumber_2 (fun H locs hP hD hS => ?_)
  have hP : va_P D vwCl (w_Rd C aF aR mR1) H := by rw [emR1]; exact hP
  have hD : va_D A (w_Rd C aF aR mR1) := by rw [emR1]; exact hD
  have L5 : ∀ (K5 : Mm → Option (Mm)), (∀ (mR2 : Mm) (H : Heap) (locs : List Loc) (ls : Array Slot), va_P D vwCl (w_Rd C aF aR mR2) H → va_D A (w_Rd C aF aR mR2) → va_S A s.heap H locs → lv_has ls 2 [(0, .ref (aR 0))] → K5 mR2 = some (oR) → W p l e rX4_scanNumber s m args below meth c H locs 0 0 Q (F0 m 73 ls [])) → ∀ (n : Nat) (mR2 : Mm) (H : Heap) (locs : List Loc) (ls : Array Slot), va_P D vwCl (w_Rd C aF aR mR2) H → va_D A (w_Rd C aF aR mR2) → va_S A s.heap H locs → lv_has ls 2 [(0, .ref (aR 0))] → ffX4_scanNumber_L5  K5 n mR2 = some (oR) → W p l e rX4_scanNumber s m args below meth c H locs 0 0 Q (F0 m 5 ls []) := by
    intro K5 hK9 n
    induction n with
    | zero => intro mR2 H locs ls hP hD hS hl hf; exact kv_no hf
    | succ n ih =>
      intro mR2 H locs ls hP hD hS hl hf
      rw [ffX4_scanNumber_L5_s] at hf
      refine lv_aload_n hx hb dX4_scanNumber_5 rfl (lv_at hl 0 rfl) ?_
      refine va_get (D := D) (ci := 4) (v := .int (mR2 0 3)) (C := RX4) (T := TX4) (N := 8) hx hb hts iX4 hown hK hP 0 rfl rfl 3 (by decide) q1 (fun _ h9 => h9) rfl dX4_scanNumber_6 ?_
      refine lv_aload_n hx hb dX4_scanNumber_9 rfl (lv_at hl 0 rfl) ?_
      refine va_get (D := D) (ci := 4) (v := .int (mR2 0 2)) (C := RX4) (T := TX4) (N := 8) hx hb hts iX4 hown hK hP 0 rfl rfl 2 (by decide) q2 (fun _ h9 => h9) rfl dX4_scanNumber_10 ?_
      refine lv_icmp_ge (tgt := 73) hx hb dX4_scanNumber_13 (by decide) (fun hc => ?_) (fun hc => ?_)
      · have hf := kv_t hc hf
        exact hK9 _ _ _ _ hP hD hS (lv_sub hl [0] rfl) hf
      · have hf := kv_f hc hf
        refine lv_aload_n hx hb dX4_scanNumber_16 rfl (lv_at hl 0 rfl) ?_
        refine va_get (D := D) (ci := 4) (v := .ref (aR 1)) (C := RX4) (T := TX4) (N := 8) hx hb hts iX4 hown hK hP 0 rfl rfl 0 (by decide) q3 (fun _ h9 => h9) rfl dX4_scanNumber_17 ?_
        refine lv_aload_n hx hb dX4_scanNumber_20 rfl (lv_at hl 0 rfl) ?_
        refine va_get (D := D) (ci := 4) (v := .int (mR2 0 3)) (C := RX4) (T := TX4) (N := 8) hx hb hts iX4 hown hK hP 0 rfl rfl 3 (by decide) q1 (fun _ h9 => h9) rfl dX4_scanNumber_21 ?_
        obtain ⟨h9, hf⟩ := kv_ix_e hf
        refine va_bald hx hb hK hP 1 0 rfl rfl h9 dX4_scanNumber_24 ?_
        obtain ⟨r3, hc, hf⟩ := kv_b1_e hf
        have hs9 : vv_Sub D H A ([] : va_W) ([] : va_W) (w_Rd C aF aR mR2) := vv_Sub.none hP hD hS hA
        refine vv_goi (wn := (w_Rd C aF aR mR2)) hK hs9 hS (vv_rS (As := [.int (mR2 1 (mR2 0 3).toNatClampNeg)]) (rest := []) hx hb hml hown hts hK hN hS hs9 (ccX4_isDigit l D C H.size (mR2 1 (mR2 0 3).toNatClampNeg) r3 hc) (va_cwS 1 hts gX4_scanNumber_X4_isDigit rfl rfl rfl (by decide +kernel) ⟨(Nat.le_of_ble_eq_true rfl), (Nat.le_of_ble_eq_true rfl)⟩) rfl hl.1 rfl (Nat.le_of_ble_eq_true rfl) dX4_scanNumber_25 ⟨Nat.zero_le _, Nat.zero_le _⟩) (fun H locs hP hD hS => ?_)
        refine lv_if_eq (tgt := 73) hx hb dX4_scanNumber_28 (by decide) (fun hc => ?_) (fun hc => ?_)
        · have hf := kv_t hc hf
          exact hK9 _ _ _ _ hP hD hS (lv_sub hl [0] rfl) hf
        · have hf := kv_f hc hf
          refine lv_aload_n hx hb dX4_scanNumber_31 rfl (lv_at hl 0 rfl) ?_
          refine lv_bipush (v := 100) hx hb dX4_scanNumber_32 (by decide) ?_
          refine lv_bipush (v := 10) hx hb dX4_scanNumber_34 (by decide) ?_
          refine lv_aload_n hx hb dX4_scanNumber_36 rfl (lv_at hl 0 rfl) ?_
          refine va_get (D := D) (ci := 4) (v := .int (mR2 0 6)) (C := RX4) (T := TX4) (N := 8) hx hb hts iX4 hown hK hP 0 rfl rfl 6 (by decide) q0 (fun _ h9 => h9) rfl dX4_scanNumber_37 ?_
          refine lv_imul hx hb dX4_scanNumber_40 ?_
          refine lv_aload_n hx hb dX4_scanNumber_41 rfl (lv_at hl 0 rfl) ?_
          refine va_get (D := D) (ci := 4) (v := .ref (aR 1)) (C := RX4) (T := TX4) (N := 8) hx hb hts iX4 hown hK hP 0 rfl rfl 0 (by decide) q3 (fun _ h9 => h9) rfl dX4_scanNumber_42 ?_
          refine lv_aload_n hx hb dX4_scanNumber_45 rfl (lv_at hl 0 rfl) ?_
          refine va_get (D := D) (ci := 4) (v := .int (mR2 0 3)) (C := RX4) (T := TX4) (N := 8) hx hb hts iX4 hown hK hP 0 rfl rfl 3 (by decide) q1 (fun _ h9 => h9) rfl dX4_scanNumber_46 ?_
          obtain ⟨h9, hf⟩ := kv_ix_e hf
          refine va_bald hx hb hK hP 1 0 rfl rfl h9 dX4_scanNumber_49 ?_
          refine lv_iadd hx hb dX4_scanNumber_50 ?_
          refine lv_bipush (v := 48) hx hb dX4_scanNumber_51 (by decide) ?_
          refine lv_isub hx hb dX4_scanNumber_53 ?_
          refine va_mmin hx hb (hml.trans hl.1.symm) hown q4 q5 q6 q7 (Nat.le_of_ble_eq_true rfl) (Nat.le_of_ble_eq_true rfl) (Nat.zero_le _) (Nat.zero_le _) dX4_scanNumber_54 ?_
          obtain ⟨x4, ex4, hf⟩ := kv_lt_e hf
          refine vv_nami ex4 ?_
          obtain ⟨mR5, emR5, hf⟩ := kv_lt_e hf
          refine va_put (D := D) (ci := 4) (v := .int x4) (ty := .int) (C := RX4) (T := TX4) (N := 8) hx hb hts iX4 tyX4 tyX4_ok nmX4 hown hK hP hD hS 0 rfl rfl 6 (by decide) q0 (fun _ h9 => h9) rfl (tyX4_ok 6 (by decide)) rfl rfl (Nat.le_of_ble_eq_true rfl) dX4_scanNumber_57 (fun H locs hP hD hS => ?_)
          have hP : va_P D vwCl (w_Rd C aF aR mR5) H := by rw [emR5]; exact hP
          have hD : va_D A (w_Rd C aF aR mR5) := by rw [emR5]; exact hD
          refine lv_aload_n hx hb dX4_scanNumber_60 rfl (lv_at hl 0 rfl) ?_
          refine lv_dup hx hb dX4_scanNumber_61 rfl ?_
          refine va_get (D := D) (ci := 4) (v := .int (mR5 0 3)) (C := RX4) (T := TX4) (N := 8) hx hb hts iX4 hown hK hP 0 rfl rfl 3 (by decide) q1 (fun _ h9 => h9) rfl dX4_scanNumber_62 ?_
          refine lv_iconst (v := 1) hx hb dX4_scanNumber_65 (by decide) ?_
          refine lv_iadd hx hb dX4_scanNumber_66 ?_
          obtain ⟨x6, ex6, hf⟩ := kv_lt_e hf
          refine vv_nami ex6 ?_
          obtain ⟨mR7, emR7, hf⟩ := kv_lt_e hf
          refine va_put (D := D) (ci := 4) (v := .int x6) (ty := .int) (C := RX4) (T := TX4) (N := 8) hx hb hts iX4 tyX4 tyX4_ok nmX4 hown hK hP hD hS 0 rfl rfl 3 (by decide) q1 (fun _ h9 => h9) rfl (tyX4_ok 3 (by decide)) rfl rfl (Nat.le_of_ble_eq_true rfl) dX4_scanNumber_67 (fun H locs hP hD hS => ?_)
          have hP : va_P D vwCl (w_Rd C aF aR mR7) H := by rw [emR7]; exact hP
          have hD : va_D A (w_Rd C aF aR mR7) := by rw [emR7]; exact hD
          refine lv_goto (tgt := 5) hx hb dX4_scanNumber_70 (by decide) ?_
          exact ih _ _ _ _ hP hD hS (lv_sub hl [0] rfl) hf
  refine L5 _ (fun mR8 H locs ls hP hD hS hl hf => ?_) _ _ _ _ _ hP hD hS (lv_sub hl [0] rfl) hf
  refine lv_aload_n hx hb dX4_scanNumber_73 rfl (lv_at hl 0 rfl) ?_
  refine va_get (D := D) (ci := 4) (v := .ref (aR 1)) (C := RX4) (T := TX4) (N := 8) hx hb hts iX4 hown hK hP 0 rfl rfl 0 (by decide) q3 (fun _ h9 => h9) rfl dX4_scanNumber_74 ?_
  refine lv_aload_n hx hb dX4_scanNumber_77 rfl (lv_at hl 0 rfl) ?_
  refine va_get (D := D) (ci := 4) (v := .int (mR8 0 4)) (C := RX4) (T := TX4) (N := 8) hx hb hts iX4 hown hK hP 0 rfl rfl 4 (by decide) q8 (fun _ h9 => h9) rfl dX4_scanNumber_78 ?_
  obtain ⟨h9, hf⟩ := kv_ix_e hf
  refine va_bald hx hb hK hP 1 0 rfl rfl h9 dX4_scanNumber_81 ?_
  refine lv_bipush (v := 48) hx hb dX4_scanNumber_82 (by decide) ?_
  obtain ⟨k105_9, ek105_9, hf⟩ := kv_lt_e hf
  have J105_9 : ∀ (x10 : Int32) (H : Heap) (locs : List Loc) (ls : Array Slot), va_P D vwCl (w_Rd C aF aR mR8) H → va_D A (w_Rd C aF aR mR8) → va_S A s.heap H locs → lv_has ls 2 [(0, .ref (aR 0))] → k105_9 x10 = some (oR) → W p l e rX4_scanNumber s m args below meth c H locs 0 0 Q (F0 m 105 ls [.int x10]) := by
    intro x10 H locs ls hP hD hS hl hf
    rw [ek105_9] at hf
    refine lv_istore_n (lv' := [(1, .int x10), (0, .ref (aR 0))]) hx hb dX4_scanNumber_105 rfl hl (by decide) rfl (fun ls hl => ?_)
    refine lv_aload_n hx hb dX4_scanNumber_106 rfl (lv_at hl 1 rfl) ?_
    refine lv_iload_n hx hb dX4_scanNumber_107 rfl (lv_at hl 0 rfl) ?_
    refine lv_if_ne (tgt := 120) hx hb dX4_scanNumber_108 (by decide) (fun hc => ?_) (fun hc => ?_)
    · have hf := kv_f hc hf
      refine lv_iconst (v := 4) hx hb dX4_scanNumber_120 (by decide) ?_
      refine lv_goto (tgt := 125) hx hb dX4_scanNumber_121 (by decide) ?_
      obtain ⟨mR11, emR11, hf⟩ := kv_lt_e hf
      refine va_put (D := D) (ci := 4) (v := .int 4) (ty := .int) (C := RX4) (T := TX4) (N := 8) hx hb hts iX4 tyX4 tyX4_ok nmX4 hown hK hP hD hS 0 rfl rfl 5 (by decide) q9 (fun _ h9 => h9) rfl (tyX4_ok 5 (by decide)) rfl rfl (Nat.le_of_ble_eq_true rfl) dX4_scanNumber_125 (fun H locs hP hD hS => ?_)
      have hP : va_P D vwCl (w_Rd C aF aR mR11) H := by rw [emR11]; exact hP
      have hD : va_D A (w_Rd C aF aR mR11) := by rw [emR11]; exact hD
      exact hret _ _ _ _ _ hf hP hD hS dX4_scanNumber_128
    · have hf := kv_t hc hf
      refine lv_aload_n hx hb dX4_scanNumber_111 rfl (lv_at hl 1 rfl) ?_
      refine va_get (D := D) (ci := 4) (v := .int (mR8 0 6)) (C := RX4) (T := TX4) (N := 8) hx hb hts iX4 hown hK hP 0 rfl rfl 6 (by decide) q0 (fun _ h9 => h9) rfl dX4_scanNumber_112 ?_
      refine lv_bipush (v := 99) hx hb dX4_scanNumber_115 (by decide) ?_
      refine lv_icmp_le (tgt := 124) hx hb dX4_scanNumber_117 (by decide) (fun hc => ?_) (fun hc => ?_)
      · have hf := kv_t hc hf
        refine lv_iconst (v := 2) hx hb dX4_scanNumber_124 (by decide) ?_
        obtain ⟨mR12, emR12, hf⟩ := kv_lt_e hf
        refine va_put (D := D) (ci := 4) (v := .int 2) (ty := .int) (C := RX4) (T := TX4) (N := 8) hx hb hts iX4 tyX4 tyX4_ok nmX4 hown hK hP hD hS 0 rfl rfl 5 (by decide) q9 (fun _ h9 => h9) rfl (tyX4_ok 5 (by decide)) rfl rfl (Nat.le_of_ble_eq_true rfl) dX4_scanNumber_125 (fun H locs hP hD hS => ?_)
        have hP : va_P D vwCl (w_Rd C aF aR mR12) H := by rw [emR12]; exact hP
        have hD : va_D A (w_Rd C aF aR mR12) := by rw [emR12]; exact hD
        exact hret _ _ _ _ _ hf hP hD hS dX4_scanNumber_128
      · have hf := kv_f hc hf
        refine lv_iconst (v := 4) hx hb dX4_scanNumber_120 (by decide) ?_
        refine lv_goto (tgt := 125) hx hb dX4_scanNumber_121 (by decide) ?_
        obtain ⟨mR13, emR13, hf⟩ := kv_lt_e hf
        refine va_put (D := D) (ci := 4) (v := .int 4) (ty := .int) (C := RX4) (T := TX4) (N := 8) hx hb hts iX4 tyX4 tyX4_ok nmX4 hown hK hP hD hS 0 rfl rfl 5 (by decide) q9 (fun _ h9 => h9) rfl (tyX4_ok 5 (by decide)) rfl rfl (Nat.le_of_ble_eq_true rfl) dX4_scanNumber_125 (fun H locs hP hD hS => ?_)
        have hP : va_P D vwCl (w_Rd C aF aR mR13) H := by rw [emR13]; exact hP
        have hD : va_D A (w_Rd C aF aR mR13) := by rw [emR13]; exact hD
        exact hret _ _ _ _ _ hf hP hD hS dX4_scanNumber_128
  obtain ⟨k104_14, ek104_14, hf⟩ := kv_lt_e hf
  have J104_14 : ∀  (H : Heap) (locs : List Loc) (ls : Array Slot), va_P D vwCl (w_Rd C aF aR mR8) H → va_D A (w_Rd C aF aR mR8) → va_S A s.heap H locs → lv_has ls 2 [(0, .ref (aR 0))] → k104_14  = some (oR) → W p l e rX4_scanNumber s m args below meth c H locs 0 0 Q (F0 m 104 ls []) := by
    intro  H locs ls hP hD hS hl hf
    rw [ek104_14] at hf
    refine lv_iconst (v := 0) hx hb dX4_scanNumber_104 (by decide) ?_
    exact J105_9 _ _ _ _ hP hD hS (lv_sub hl [0] rfl) hf
  refine lv_icmp_ne (tgt := 104) hx hb dX4_scanNumber_84 (by decide) (fun hc => ?_) (fun hc => ?_)
  · have hf := kv_f hc hf
    exact J104_14 _ _ _ hP hD hS (lv_sub hl [0] rfl) hf
  · have hf := kv_t hc hf
    refine lv_aload_n hx hb dX4_scanNumber_87 rfl (lv_at hl 0 rfl) ?_
    refine va_get (D := D) (ci := 4) (v := .int (mR8 0 3)) (C := RX4) (T := TX4) (N := 8) hx hb hts iX4 hown hK hP 0 rfl rfl 3 (by decide) q1 (fun _ h9 => h9) rfl dX4_scanNumber_88 ?_
    refine lv_aload_n hx hb dX4_scanNumber_91 rfl (lv_at hl 0 rfl) ?_
    refine va_get (D := D) (ci := 4) (v := .int (mR8 0 4)) (C := RX4) (T := TX4) (N := 8) hx hb hts iX4 hown hK hP 0 rfl rfl 4 (by decide) q8 (fun _ h9 => h9) rfl dX4_scanNumber_92 ?_
    refine lv_isub hx hb dX4_scanNumber_95 ?_
    refine lv_iconst (v := 1) hx hb dX4_scanNumber_96 (by decide) ?_
    refine lv_icmp_le (tgt := 104) hx hb dX4_scanNumber_97 (by decide) (fun hc => ?_) (fun hc => ?_)
    · have hf := kv_t hc hf
      exact J104_14 _ _ _ hP hD hS (lv_sub hl [0] rfl) hf
    · have hf := kv_f hc hf
      refine lv_iconst (v := 1) hx hb dX4_scanNumber_100 (by decide) ?_
      refine lv_goto (tgt := 105) hx hb dX4_scanNumber_101 (by decide) ?_
      exact J105_9 _ _ _ _ hP hD hS (lv_sub hl [0] rfl) hf
abbrev rX4_scan : Room := { frames := 2, cells := 0, slots := 0, locals := 101 }
set_option maxHeartbeats 4000000 in
set_option maxRecDepth 100000 in
theorem ccX4_scan (l : Launch) (D : va_G) (C : Nat → ClassId) (sz : Nat) (aR : Nat → Nat) (aF : Nat → Nat) (mR : Mm) (oR : Mm) (hf : ffX4_scan mR = some (oR)) : Met l yX4_scan wsX4_scan rX4_scan (va_Pc [.ref (aR 0)] (vv_pre D C (w_Rd C aF aR mR) sz)) (vv_QV D C (w_Rd C aF aR mR) (w_Rd C aF aR oR) sz) 0 0 (va_A (w_Rd C aF aR mR) sz) := by
  unfold ffX4_scan at hf
  refine vv_metV (cc := cX4_scan) (maxL := 1) (by decide) rfl (Nat.le_of_ble_eq_true rfl) ?_
  intro p e s m args below meth c A Q H locs ls hx hb hml hown hts hA hK hN hP hD hS hl hret
  have hown : s.vm.findClass RX4 = some m.cls := hown
  have hl : lv_has ls 1 [(0, .ref (aR 0))] := hl
  have hret : ∀ (v0 : Mm) (H : Heap) (locs : List Loc) (ls : Array Slot) (pc : Nat), some (v0) = some (oR) → va_P D vwCl (w_Rd C aF aR v0) H → va_D A (w_Rd C aF aR v0) → va_S A s.heap H locs → decode cX4_scan pc = .ok (.return_, 1) → W p l e rX4_scan s m args below meth c H locs 0 0 Q (F0 m pc ls []) := by
    intro v0 H locs ls pc h0 h1 h2 h3 h4
    cases h0
    exact hret H locs ls pc h1 h2 h3 h4
  have q0 := hts (.fieldLink RX4 29 "ForeRain$Reader" "next" "I") (by decide +kernel)
  have q1 := hts (.fieldLink RX4 22 "ForeRain$Reader" "length" "I") (by decide +kernel)
  have q2 := hts (.fieldLink RX4 9 "ForeRain$Reader" "bytes" "[B") (by decide +kernel)
  have q3 := hts (.fieldLink RX4 72 "ForeRain$Reader" "start" "I") (by decide +kernel)
  have q4 := hts (.fieldLink RX4 38 "ForeRain$Reader" "token" "I") (by decide +kernel)
  have iX4 : ∀ w ∈ u_ws RX4 TX4 8, w ∈ wsX4_scan := by decide +kernel
  have L0 : ∀ (K0 : Mm → Option (Mm)), (∀ (mR1 : Mm) (H : Heap) (locs : List Loc) (ls : Array Slot), va_P D vwCl (w_Rd C aF aR mR1) H → va_D A (w_Rd C aF aR mR1) → va_S A s.heap H locs → lv_has ls 1 [(0, .ref (aR 0))] → K0 mR1 = some (oR) → W p l e rX4_scan s m args below meth c H locs 0 0 Q (F0 m 38 ls [])) → ∀ (n : Nat) (mR1 : Mm) (H : Heap) (locs : List Loc) (ls : Array Slot), va_P D vwCl (w_Rd C aF aR mR1) H → va_D A (w_Rd C aF aR mR1) → va_S A s.heap H locs → lv_has ls 1 [(0, .ref (aR 0))] → ffX4_scan_L0  K0 n mR1 = some (oR) → W p l e rX4_scan s m args below meth c H locs 0 0 Q (F0 m 0 ls []) := by
    intro K0 hK9 n
    induction n with
    | zero => intro mR1 H locs ls hP hD hS hl hf; exact kv_no hf
    | succ n ih =>
      intro mR1 H locs ls hP hD hS hl hf
      rw [ffX4_scan_L0_s] at hf
      refine lv_aload_n hx hb dX4_scan_0 rfl (lv_at hl 0 rfl) ?_
      refine va_get (D := D) (ci := 4) (v := .int (mR1 0 3)) (C := RX4) (T := TX4) (N := 8) hx hb hts iX4 hown hK hP 0 rfl rfl 3 (by decide) q0 (fun _ h9 => h9) rfl dX4_scan_1 ?_
      refine lv_aload_n hx hb dX4_scan_4 rfl (lv_at hl 0 rfl) ?_
      refine va_get (D := D) (ci := 4) (v := .int (mR1 0 2)) (C := RX4) (T := TX4) (N := 8) hx hb hts iX4 hown hK hP 0 rfl rfl 2 (by decide) q1 (fun _ h9 => h9) rfl dX4_scan_5 ?_
      refine lv_icmp_ge (tgt := 38) hx hb dX4_scan_8 (by decide) (fun hc => ?_) (fun hc => ?_)
      · have hf := kv_t hc hf
        exact hK9 _ _ _ _ hP hD hS (lv_sub hl [0] rfl) hf
      · have hf := kv_f hc hf
        refine lv_aload_n hx hb dX4_scan_11 rfl (lv_at hl 0 rfl) ?_
        refine va_get (D := D) (ci := 4) (v := .ref (aR 1)) (C := RX4) (T := TX4) (N := 8) hx hb hts iX4 hown hK hP 0 rfl rfl 0 (by decide) q2 (fun _ h9 => h9) rfl dX4_scan_12 ?_
        refine lv_aload_n hx hb dX4_scan_15 rfl (lv_at hl 0 rfl) ?_
        refine va_get (D := D) (ci := 4) (v := .int (mR1 0 3)) (C := RX4) (T := TX4) (N := 8) hx hb hts iX4 hown hK hP 0 rfl rfl 3 (by decide) q0 (fun _ h9 => h9) rfl dX4_scan_16 ?_
        obtain ⟨h9, hf⟩ := kv_ix_e hf
        refine va_bald hx hb hK hP 1 0 rfl rfl h9 dX4_scan_19 ?_
        refine lv_bipush (v := 32) hx hb dX4_scan_20 (by decide) ?_
        refine lv_icmp_ne (tgt := 38) hx hb dX4_scan_22 (by decide) (fun hc => ?_) (fun hc => ?_)
        · have hf := kv_f hc hf
          exact hK9 _ _ _ _ hP hD hS (lv_sub hl [0] rfl) hf
        · have hf := kv_t hc hf
          refine lv_aload_n hx hb dX4_scan_25 rfl (lv_at hl 0 rfl) ?_
          refine lv_dup hx hb dX4_scan_26 rfl ?_
          refine va_get (D := D) (ci := 4) (v := .int (mR1 0 3)) (C := RX4) (T := TX4) (N := 8) hx hb hts iX4 hown hK hP 0 rfl rfl 3 (by decide) q0 (fun _ h9 => h9) rfl dX4_scan_27 ?_
          refine lv_iconst (v := 1) hx hb dX4_scan_30 (by decide) ?_
          refine lv_iadd hx hb dX4_scan_31 ?_
          obtain ⟨x2, ex2, hf⟩ := kv_lt_e hf
          refine vv_nami ex2 ?_
          obtain ⟨mR3, emR3, hf⟩ := kv_lt_e hf
          refine va_put (D := D) (ci := 4) (v := .int x2) (ty := .int) (C := RX4) (T := TX4) (N := 8) hx hb hts iX4 tyX4 tyX4_ok nmX4 hown hK hP hD hS 0 rfl rfl 3 (by decide) q0 (fun _ h9 => h9) rfl (tyX4_ok 3 (by decide)) rfl rfl (Nat.le_of_ble_eq_true rfl) dX4_scan_32 (fun H locs hP hD hS => ?_)
          have hP : va_P D vwCl (w_Rd C aF aR mR3) H := by rw [emR3]; exact hP
          have hD : va_D A (w_Rd C aF aR mR3) := by rw [emR3]; exact hD
          refine lv_goto (tgt := 0) hx hb dX4_scan_35 (by decide) ?_
          exact ih _ _ _ _ hP hD hS (lv_sub hl [0] rfl) hf
  refine L0 _ (fun mR4 H locs ls hP hD hS hl hf => ?_) _ _ _ _ _ hP hD hS (lv_sub hl [0] rfl) hf
  refine lv_aload_n hx hb dX4_scan_38 rfl (lv_at hl 0 rfl) ?_
  refine lv_aload_n hx hb dX4_scan_39 rfl (lv_at hl 0 rfl) ?_
  refine va_get (D := D) (ci := 4) (v := .int (mR4 0 3)) (C := RX4) (T := TX4) (N := 8) hx hb hts iX4 hown hK hP 0 rfl rfl 3 (by decide) q0 (fun _ h9 => h9) rfl dX4_scan_40 ?_
  obtain ⟨x5, ex5, hf⟩ := kv_lt_e hf
  refine vv_nami ex5 ?_
  obtain ⟨mR6, emR6, hf⟩ := kv_lt_e hf
  refine va_put (D := D) (ci := 4) (v := .int x5) (ty := .int) (C := RX4) (T := TX4) (N := 8) hx hb hts iX4 tyX4 tyX4_ok nmX4 hown hK hP hD hS 0 rfl rfl 4 (by decide) q3 (fun _ h9 => h9) rfl (tyX4_ok 4 (by decide)) rfl rfl (Nat.le_of_ble_eq_true rfl) dX4_scan_43 (fun H locs hP hD hS => ?_)
  have hP : va_P D vwCl (w_Rd C aF aR mR6) H := by rw [emR6]; exact hP
  have hD : va_D A (w_Rd C aF aR mR6) := by rw [emR6]; exact hD
  refine lv_aload_n hx hb dX4_scan_46 rfl (lv_at hl 0 rfl) ?_
  refine va_get (D := D) (ci := 4) (v := .int (mR6 0 3)) (C := RX4) (T := TX4) (N := 8) hx hb hts iX4 hown hK hP 0 rfl rfl 3 (by decide) q0 (fun _ h9 => h9) rfl dX4_scan_47 ?_
  refine lv_aload_n hx hb dX4_scan_50 rfl (lv_at hl 0 rfl) ?_
  refine va_get (D := D) (ci := 4) (v := .int (mR6 0 2)) (C := RX4) (T := TX4) (N := 8) hx hb hts iX4 hown hK hP 0 rfl rfl 2 (by decide) q1 (fun _ h9 => h9) rfl dX4_scan_51 ?_
  refine lv_icmp_lt (tgt := 65) hx hb dX4_scan_54 (by decide) (fun hc => ?_) (fun hc => ?_)
  · have hf := kv_t hc hf
    refine lv_aload_n hx hb dX4_scan_65 rfl (lv_at hl 0 rfl) ?_
    refine va_get (D := D) (ci := 4) (v := .ref (aR 1)) (C := RX4) (T := TX4) (N := 8) hx hb hts iX4 hown hK hP 0 rfl rfl 0 (by decide) q2 (fun _ h9 => h9) rfl dX4_scan_66 ?_
    refine lv_aload_n hx hb dX4_scan_69 rfl (lv_at hl 0 rfl) ?_
    refine va_get (D := D) (ci := 4) (v := .int (mR6 0 3)) (C := RX4) (T := TX4) (N := 8) hx hb hts iX4 hown hK hP 0 rfl rfl 3 (by decide) q0 (fun _ h9 => h9) rfl dX4_scan_70 ?_
    obtain ⟨h9, hf⟩ := kv_ix_e hf
    refine va_bald hx hb hK hP 1 0 rfl rfl h9 dX4_scan_73 ?_
    obtain ⟨r7, hc, hf⟩ := kv_b1_e hf
    have hs9 : vv_Sub D H A ([] : va_W) ([] : va_W) (w_Rd C aF aR mR6) := vv_Sub.none hP hD hS hA
    refine vv_goi (wn := (w_Rd C aF aR mR6)) hK hs9 hS (vv_rS (As := [.int (mR6 1 (mR6 0 3).toNatClampNeg)]) (rest := []) hx hb hml hown hts hK hN hS hs9 (ccX4_isLetter l D C H.size (mR6 1 (mR6 0 3).toNatClampNeg) r7 hc) (va_cwS 1 hts gX4_scan_X4_isLetter rfl rfl rfl (by decide +kernel) ⟨(Nat.le_of_ble_eq_true rfl), (Nat.le_of_ble_eq_true rfl)⟩) rfl hl.1 rfl (Nat.le_of_ble_eq_true rfl) dX4_scan_74 ⟨Nat.zero_le _, Nat.zero_le _⟩) (fun H locs hP hD hS => ?_)
    refine lv_if_eq (tgt := 87) hx hb dX4_scan_77 (by decide) (fun hc => ?_) (fun hc => ?_)
    · have hf := kv_t hc hf
      refine lv_aload_n hx hb dX4_scan_87 rfl (lv_at hl 0 rfl) ?_
      refine va_get (D := D) (ci := 4) (v := .ref (aR 1)) (C := RX4) (T := TX4) (N := 8) hx hb hts iX4 hown hK hP 0 rfl rfl 0 (by decide) q2 (fun _ h9 => h9) rfl dX4_scan_88 ?_
      refine lv_aload_n hx hb dX4_scan_91 rfl (lv_at hl 0 rfl) ?_
      refine va_get (D := D) (ci := 4) (v := .int (mR6 0 3)) (C := RX4) (T := TX4) (N := 8) hx hb hts iX4 hown hK hP 0 rfl rfl 3 (by decide) q0 (fun _ h9 => h9) rfl dX4_scan_92 ?_
      obtain ⟨h9, hf⟩ := kv_ix_e hf
      refine va_bald hx hb hK hP 1 0 rfl rfl h9 dX4_scan_95 ?_
      obtain ⟨r8, hc, hf⟩ := kv_b1_e hf
      have hs9 : vv_Sub D H A ([] : va_W) ([] : va_W) (w_Rd C aF aR mR6) := vv_Sub.none hP hD hS hA
      refine vv_goi (wn := (w_Rd C aF aR mR6)) hK hs9 hS (vv_rS (As := [.int (mR6 1 (mR6 0 3).toNatClampNeg)]) (rest := []) hx hb hml hown hts hK hN hS hs9 (ccX4_isDigit l D C H.size (mR6 1 (mR6 0 3).toNatClampNeg) r8 hc) (va_cwS 1 hts gX4_scan_X4_isDigit rfl rfl rfl (by decide +kernel) ⟨(Nat.le_of_ble_eq_true rfl), (Nat.le_of_ble_eq_true rfl)⟩) rfl hl.1 rfl (Nat.le_of_ble_eq_true rfl) dX4_scan_96 ⟨Nat.zero_le _, Nat.zero_le _⟩) (fun H locs hP hD hS => ?_)
      refine lv_if_eq (tgt := 109) hx hb dX4_scan_99 (by decide) (fun hc => ?_) (fun hc => ?_)
      · have hf := kv_t hc hf
        refine lv_aload_n hx hb dX4_scan_109 rfl (lv_at hl 0 rfl) ?_
        refine lv_aload_n hx hb dX4_scan_110 rfl (lv_at hl 0 rfl) ?_
        refine va_get (D := D) (ci := 4) (v := .ref (aR 1)) (C := RX4) (T := TX4) (N := 8) hx hb hts iX4 hown hK hP 0 rfl rfl 0 (by decide) q2 (fun _ h9 => h9) rfl dX4_scan_111 ?_
        refine lv_aload_n hx hb dX4_scan_114 rfl (lv_at hl 0 rfl) ?_
        refine va_get (D := D) (ci := 4) (v := .int (mR6 0 3)) (C := RX4) (T := TX4) (N := 8) hx hb hts iX4 hown hK hP 0 rfl rfl 3 (by decide) q0 (fun _ h9 => h9) rfl dX4_scan_115 ?_
        obtain ⟨h9, hf⟩ := kv_ix_e hf
        refine va_bald hx hb hK hP 1 0 rfl rfl h9 dX4_scan_118 ?_
        refine lv_bipush (v := 59) hx hb dX4_scan_119 (by decide) ?_
        obtain ⟨k129_9, ek129_9, hf⟩ := kv_lt_e hf
        have J129_9 : ∀ (x10 : Int32) (H : Heap) (locs : List Loc) (ls : Array Slot), va_P D vwCl (w_Rd C aF aR mR6) H → va_D A (w_Rd C aF aR mR6) → va_S A s.heap H locs → lv_has ls 1 [(0, .ref (aR 0))] → k129_9 x10 = some (oR) → W p l e rX4_scan s m args below meth c H locs 0 0 Q (F0 m 129 ls [.int x10, .ref (aR 0)]) := by
          intro x10 H locs ls hP hD hS hl hf
          rw [ek129_9] at hf
          obtain ⟨mR11, emR11, hf⟩ := kv_lt_e hf
          refine va_put (D := D) (ci := 4) (v := .int x10) (ty := .int) (C := RX4) (T := TX4) (N := 8) hx hb hts iX4 tyX4 tyX4_ok nmX4 hown hK hP hD hS 0 rfl rfl 5 (by decide) q4 (fun _ h9 => h9) rfl (tyX4_ok 5 (by decide)) rfl rfl (Nat.le_of_ble_eq_true rfl) dX4_scan_129 (fun H locs hP hD hS => ?_)
          have hP : va_P D vwCl (w_Rd C aF aR mR11) H := by rw [emR11]; exact hP
          have hD : va_D A (w_Rd C aF aR mR11) := by rw [emR11]; exact hD
          refine lv_aload_n hx hb dX4_scan_132 rfl (lv_at hl 0 rfl) ?_
          refine lv_dup hx hb dX4_scan_133 rfl ?_
          refine va_get (D := D) (ci := 4) (v := .int (mR11 0 3)) (C := RX4) (T := TX4) (N := 8) hx hb hts iX4 hown hK hP 0 rfl rfl 3 (by decide) q0 (fun _ h9 => h9) rfl dX4_scan_134 ?_
          refine lv_iconst (v := 1) hx hb dX4_scan_137 (by decide) ?_
          refine lv_iadd hx hb dX4_scan_138 ?_
          obtain ⟨x12, ex12, hf⟩ := kv_lt_e hf
          refine vv_nami ex12 ?_
          obtain ⟨mR13, emR13, hf⟩ := kv_lt_e hf
          refine va_put (D := D) (ci := 4) (v := .int x12) (ty := .int) (C := RX4) (T := TX4) (N := 8) hx hb hts iX4 tyX4 tyX4_ok nmX4 hown hK hP hD hS 0 rfl rfl 3 (by decide) q0 (fun _ h9 => h9) rfl (tyX4_ok 3 (by decide)) rfl rfl (Nat.le_of_ble_eq_true rfl) dX4_scan_139 (fun H locs hP hD hS => ?_)
          have hP : va_P D vwCl (w_Rd C aF aR mR13) H := by rw [emR13]; exact hP
          have hD : va_D A (w_Rd C aF aR mR13) := by rw [emR13]; exact hD
          exact hret _ _ _ _ _ hf hP hD hS dX4_scan_142
        refine lv_icmp_ne (tgt := 128) hx hb dX4_scan_121 (by decide) (fun hc => ?_) (fun hc => ?_)
        · have hf := kv_f hc hf
          refine lv_iconst (v := 4) hx hb dX4_scan_128 (by decide) ?_
          exact J129_9 _ _ _ _ hP hD hS (lv_sub hl [0] rfl) hf
        · have hf := kv_t hc hf
          refine lv_iconst (v := 3) hx hb dX4_scan_124 (by decide) ?_
          refine lv_goto (tgt := 129) hx hb dX4_scan_125 (by decide) ?_
          exact J129_9 _ _ _ _ hP hD hS (lv_sub hl [0] rfl) hf
      · have hf := kv_f hc hf
        refine lv_aload_n hx hb dX4_scan_102 rfl (lv_at hl 0 rfl) ?_
        obtain ⟨mR14, hc, hf⟩ := kv_b1_e hf
        have hs9 : vv_Sub D H A (w_Rd C aF aR mR6) (w_Rd C aF aR mR14) (w_Rd C aF aR mR14) := vv_Sub.same (w_Rd C aF aR mR14) hP hD hS hA
        refine vv_gov (wn := (w_Rd C aF aR mR14)) hK hs9 hS (vv_rV (As := []) (rest := []) hx hb hml hown hts hK hN hS hs9 (ccX4_scanNumber l D C H.size aR aF mR6 mR14 hc) (cwV 0 hts gX4_scan_X4_scanNumber rfl rfl rfl (by decide +kernel) ⟨(Nat.le_of_ble_eq_true rfl), (Nat.le_of_ble_eq_true rfl)⟩) (va_recv hK hP (ci := 4) (q0 := 0) rfl rfl) rfl hl.1 rfl (Nat.le_of_ble_eq_true rfl) dX4_scan_103 ⟨Nat.zero_le _, Nat.zero_le _⟩) (fun H locs hP hD hS => ?_)
        refine lv_goto (tgt := 142) hx hb dX4_scan_106 (by decide) ?_
        exact hret _ _ _ _ _ hf hP hD hS dX4_scan_142
    · have hf := kv_f hc hf
      refine lv_aload_n hx hb dX4_scan_80 rfl (lv_at hl 0 rfl) ?_
      obtain ⟨mR15, hc, hf⟩ := kv_b1_e hf
      have hs9 : vv_Sub D H A (w_Rd C aF aR mR6) (w_Rd C aF aR mR15) (w_Rd C aF aR mR15) := vv_Sub.same (w_Rd C aF aR mR15) hP hD hS hA
      refine vv_gov (wn := (w_Rd C aF aR mR15)) hK hs9 hS (vv_rV (As := []) (rest := []) hx hb hml hown hts hK hN hS hs9 (ccX4_scanWord l D C H.size aR aF mR6 mR15 hc) (cwV 0 hts gX4_scan_X4_scanWord rfl rfl rfl (by decide +kernel) ⟨(Nat.le_of_ble_eq_true rfl), (Nat.le_of_ble_eq_true rfl)⟩) (va_recv hK hP (ci := 4) (q0 := 0) rfl rfl) rfl hl.1 rfl (Nat.le_of_ble_eq_true rfl) dX4_scan_81 ⟨Nat.zero_le _, Nat.zero_le _⟩) (fun H locs hP hD hS => ?_)
      refine lv_goto (tgt := 142) hx hb dX4_scan_84 (by decide) ?_
      exact hret _ _ _ _ _ hf hP hD hS dX4_scan_142
  · have hf := kv_f hc hf
    refine lv_aload_n hx hb dX4_scan_57 rfl (lv_at hl 0 rfl) ?_
    refine lv_iconst (v := 0) hx hb dX4_scan_58 (by decide) ?_
    obtain ⟨mR16, emR16, hf⟩ := kv_lt_e hf
    refine va_put (D := D) (ci := 4) (v := .int 0) (ty := .int) (C := RX4) (T := TX4) (N := 8) hx hb hts iX4 tyX4 tyX4_ok nmX4 hown hK hP hD hS 0 rfl rfl 5 (by decide) q4 (fun _ h9 => h9) rfl (tyX4_ok 5 (by decide)) rfl rfl (Nat.le_of_ble_eq_true rfl) dX4_scan_59 (fun H locs hP hD hS => ?_)
    have hP : va_P D vwCl (w_Rd C aF aR mR16) H := by rw [emR16]; exact hP
    have hD : va_D A (w_Rd C aF aR mR16) := by rw [emR16]; exact hD
    refine lv_goto (tgt := 142) hx hb dX4_scan_62 (by decide) ?_
    exact hret _ _ _ _ _ hf hP hD hS dX4_scan_142
abbrev rX4_readNumber : Room := { frames := 3, cells := 0, slots := 0, locals := 121 }
set_option maxHeartbeats 4000000 in
set_option maxRecDepth 100000 in
theorem ccX4_readNumber (l : Launch) (D : va_G) (C : Nat → ClassId) (sz : Nat) (aR : Nat → Nat) (aF : Nat → Nat) (mR : Mm) (p0 : Int32) (p1 : Int32) (rr : Int32) (oR : Mm) (hf : ffX4_readNumber p0 p1 mR = some (rr, oR)) : Met l yX4_readNumber wsX4_readNumber rX4_readNumber (va_Pc [.ref (aR 0), .int p0, .int p1] (vv_pre D C (w_Rd C aF aR mR) sz)) (vv_QI D C (w_Rd C aF aR mR) (w_Rd C aF aR oR) sz rr) 0 0 (va_A (w_Rd C aF aR mR) sz) := by
  unfold ffX4_readNumber at hf
  refine vv_metI (cc := cX4_readNumber) (maxL := 3) (ty := .int) (by decide) rfl (Nat.le_of_ble_eq_true rfl) ?_
  intro p e s m args below meth c A Q H locs ls hx hb hml hown hts hA hK hN hP hD hS hl hret
  have hown : s.vm.findClass RX4 = some m.cls := hown
  have hl : lv_has ls 3 [(0, .ref (aR 0)), (1, .int p0), (2, .int p1)] := hl
  have hret : ∀ (v0 : Int32) (v1 : Mm) (H : Heap) (locs : List Loc) (ls : Array Slot) (pc : Nat), some (v0, v1) = some (rr, oR) → narrow .int (.int v0) = .int v0 → va_P D vwCl (w_Rd C aF aR v1) H → va_D A (w_Rd C aF aR v1) → va_S A s.heap H locs → decode cX4_readNumber pc = .ok (.ireturn, 1) → W p l e rX4_readNumber s m args below meth c H locs 0 0 Q (F0 m pc ls [.int v0]) := by
    intro v0 v1 H locs ls pc h0 hn h1 h2 h3 h4
    cases h0
    exact hret H locs ls pc hn h1 h2 h3 h4
  have q0 := hts (.fieldLink RX4 32 "ForeRain$Reader" "fault" "I") (by decide +kernel)
  have q1 := hts (.fieldLink RX4 38 "ForeRain$Reader" "token" "I") (by decide +kernel)
  have q2 := hts (.fieldLink RX4 72 "ForeRain$Reader" "start" "I") (by decide +kernel)
  have q3 := hts (.fieldLink RX4 104 "ForeRain$Reader" "value" "I") (by decide +kernel)
  have q4 := hts (.initialized RX7) (by decide +kernel)
  have q5 := hts (.static yX7_within) (by decide +kernel)
  have iX4 : ∀ w ∈ u_ws RX4 TX4 8, w ∈ wsX4_readNumber := by decide +kernel
  refine lv_aload_n hx hb dX4_readNumber_0 rfl (lv_at hl 0 rfl) ?_
  refine va_get (D := D) (ci := 4) (v := .int (mR 0 7)) (C := RX4) (T := TX4) (N := 8) hx hb hts iX4 hown hK hP 0 rfl rfl 7 (by decide) q0 (fun _ h9 => h9) rfl dX4_readNumber_1 ?_
  refine lv_iconst (v := (-1)) hx hb dX4_readNumber_4 (by decide) ?_
  refine lv_icmp_eq (tgt := 10) hx hb dX4_readNumber_5 (by decide) (fun hc => ?_) (fun hc => ?_)
  · have hf := kv_t hc hf
    refine lv_aload_n hx hb dX4_readNumber_10 rfl (lv_at hl 0 rfl) ?_
    obtain ⟨mR1, hc, hf⟩ := kv_b1_e hf
    have hs9 : vv_Sub D H A (w_Rd C aF aR mR) (w_Rd C aF aR mR1) (w_Rd C aF aR mR1) := vv_Sub.same (w_Rd C aF aR mR1) hP hD hS hA
    refine vv_gov (wn := (w_Rd C aF aR mR1)) hK hs9 hS (vv_rV (As := []) (rest := []) hx hb hml hown hts hK hN hS hs9 (ccX4_scan l D C H.size aR aF mR mR1 hc) (cwV 0 hts gX4_readNumber_X4_scan rfl rfl rfl (by decide +kernel) ⟨(Nat.le_of_ble_eq_true rfl), (Nat.le_of_ble_eq_true rfl)⟩) (va_recv hK hP (ci := 4) (q0 := 0) rfl rfl) rfl hl.1 rfl (Nat.le_of_ble_eq_true rfl) dX4_readNumber_11 ⟨Nat.zero_le _, Nat.zero_le _⟩) (fun H locs hP hD hS => ?_)
    refine lv_aload_n hx hb dX4_readNumber_14 rfl (lv_at hl 0 rfl) ?_
    refine va_get (D := D) (ci := 4) (v := .int (mR1 0 5)) (C := RX4) (T := TX4) (N := 8) hx hb hts iX4 hown hK hP 0 rfl rfl 5 (by decide) q1 (fun _ h9 => h9) rfl dX4_readNumber_15 ?_
    refine lv_iconst (v := 2) hx hb dX4_readNumber_18 (by decide) ?_
    obtain ⟨k34_2, ek34_2, hf⟩ := kv_lt_e hf
    have J34_2 : ∀  (H : Heap) (locs : List Loc) (ls : Array Slot), va_P D vwCl (w_Rd C aF aR mR1) H → va_D A (w_Rd C aF aR mR1) → va_S A s.heap H locs → lv_has ls 3 [(0, .ref (aR 0))] → k34_2  = some (rr, oR) → W p l e rX4_readNumber s m args below meth c H locs 0 0 Q (F0 m 34 ls []) := by
      intro  H locs ls hP hD hS hl hf
      rw [ek34_2] at hf
      refine lv_aload_n hx hb dX4_readNumber_34 rfl (lv_at hl 0 rfl) ?_
      refine lv_aload_n hx hb dX4_readNumber_35 rfl (lv_at hl 0 rfl) ?_
      refine va_get (D := D) (ci := 4) (v := .int (mR1 0 4)) (C := RX4) (T := TX4) (N := 8) hx hb hts iX4 hown hK hP 0 rfl rfl 4 (by decide) q2 (fun _ h9 => h9) rfl dX4_readNumber_36 ?_
      obtain ⟨x3, ex3, hf⟩ := kv_lt_e hf
      refine vv_nami ex3 ?_
      obtain ⟨mR4, emR4, hf⟩ := kv_lt_e hf
      refine va_put (D := D) (ci := 4) (v := .int x3) (ty := .int) (C := RX4) (T := TX4) (N := 8) hx hb hts iX4 tyX4 tyX4_ok nmX4 hown hK hP hD hS 0 rfl rfl 7 (by decide) q0 (fun _ h9 => h9) rfl (tyX4_ok 7 (by decide)) rfl rfl (Nat.le_of_ble_eq_true rfl) dX4_readNumber_39 (fun H locs hP hD hS => ?_)
      have hP : va_P D vwCl (w_Rd C aF aR mR4) H := by rw [emR4]; exact hP
      have hD : va_D A (w_Rd C aF aR mR4) := by rw [emR4]; exact hD
      refine lv_iconst (v := 0) hx hb dX4_readNumber_42 (by decide) ?_
      exact hret _ _ _ _ _ _ hf rfl hP hD hS dX4_readNumber_43
    refine lv_icmp_ne (tgt := 34) hx hb dX4_readNumber_19 (by decide) (fun hc => ?_) (fun hc => ?_)
    · have hf := kv_f hc hf
      exact J34_2 _ _ _ hP hD hS (lv_sub hl [0] rfl) hf
    · have hf := kv_t hc hf
      refine lv_aload_n hx hb dX4_readNumber_22 rfl (lv_at hl 0 rfl) ?_
      refine va_get (D := D) (ci := 4) (v := .int (mR1 0 6)) (C := RX4) (T := TX4) (N := 8) hx hb hts iX4 hown hK hP 0 rfl rfl 6 (by decide) q3 (fun _ h9 => h9) rfl dX4_readNumber_23 ?_
      refine lv_iload_n hx hb dX4_readNumber_26 rfl (lv_at hl 1 rfl) ?_
      refine lv_iload_n hx hb dX4_readNumber_27 rfl (lv_at hl 2 rfl) ?_
      obtain ⟨r5, hc, hf⟩ := kv_b1_e hf
      have hs9 : vv_Sub D H A ([] : va_W) ([] : va_W) (w_Rd C aF aR mR1) := vv_Sub.none hP hD hS hA
      refine vv_goi (wn := (w_Rd C aF aR mR1)) hK hs9 hS (vv_rSN (As := [.int (mR1 0 6), .int p0, .int p1]) (rest := []) (host := RX7) hx hb hml hown hts hK hN hS hs9 (ccX7_within l D C H.size (mR1 0 6) p0 p1 r5 hc) (va_cnB 3 hts gX4_readNumber_X7_within_n107 rfl rfl rfl hN.1.2.1 q4 (by decide +kernel) ⟨(Nat.le_of_ble_eq_true rfl), (Nat.le_of_ble_eq_true rfl)⟩) q5 rfl hl.1 rfl (Nat.le_of_ble_eq_true rfl) dX4_readNumber_28 ⟨Nat.zero_le _, Nat.zero_le _⟩) (fun H locs hP hD hS => ?_)
      refine lv_if_ne (tgt := 44) hx hb dX4_readNumber_31 (by decide) (fun hc => ?_) (fun hc => ?_)
      · have hf := kv_f hc hf
        refine lv_aload_n hx hb dX4_readNumber_44 rfl (lv_at hl 0 rfl) ?_
        refine va_get (D := D) (ci := 4) (v := .int (mR1 0 6)) (C := RX4) (T := TX4) (N := 8) hx hb hts iX4 hown hK hP 0 rfl rfl 6 (by decide) q3 (fun _ h9 => h9) rfl dX4_readNumber_45 ?_
        exact hret _ _ _ _ _ _ hf rfl hP hD hS dX4_readNumber_48
      · have hf := kv_t hc hf
        exact J34_2 _ _ _ hP hD hS (lv_sub hl [0] rfl) hf
  · have hf := kv_f hc hf
    refine lv_iconst (v := 0) hx hb dX4_readNumber_8 (by decide) ?_
    exact hret _ _ _ _ _ _ hf rfl hP hD hS dX4_readNumber_9
abbrev rX4_readPiece : Room := { frames := 4, cells := 0, slots := 0, locals := 143 }
set_option maxHeartbeats 4000000 in
set_option maxRecDepth 100000 in
theorem ccX4_readPiece (l : Launch) (D : va_G) (C : Nat → ClassId) (sz : Nat) (aR : Nat → Nat) (aF : Nat → Nat) (mR : Mm) (mF : Mm) (oR : Mm) (oF : Mm) (hf : ffX4_readPiece mR mF = some (oR, oF)) : Met l yX4_readPiece wsX4_readPiece rX4_readPiece (va_Pc [.ref (aR 0)] (vv_pre D C (w_Rd C aF aR mR ++ w_Told C aF mF) sz)) (vv_QV D C (w_Rd C aF aR mR ++ w_Told C aF mF) (w_Rd C aF aR oR ++ w_Told C aF oF) sz) 0 0 (va_A (w_Rd C aF aR mR ++ w_Told C aF mF) sz) := by
  unfold ffX4_readPiece at hf
  refine vv_metV (cc := cX4_readPiece) (maxL := 2) (by decide) rfl (Nat.le_of_ble_eq_true rfl) ?_
  intro p e s m args below meth c A Q H locs ls hx hb hml hown hts hA hK hN hP hD hS hl hret
  have hown : s.vm.findClass RX4 = some m.cls := hown
  have hl : lv_has ls 2 [(0, .ref (aR 0))] := hl
  have hret : ∀ (v0 : Mm) (v1 : Mm) (H : Heap) (locs : List Loc) (ls : Array Slot) (pc : Nat), some (v0, v1) = some (oR, oF) → va_P D vwCl (w_Rd C aF aR v0 ++ w_Told C aF v1) H → va_D A (w_Rd C aF aR v0 ++ w_Told C aF v1) → va_S A s.heap H locs → decode cX4_readPiece pc = .ok (.return_, 1) → W p l e rX4_readPiece s m args below meth c H locs 0 0 Q (F0 m pc ls []) := by
    intro v0 v1 H locs ls pc h0 h1 h2 h3 h4
    cases h0
    exact hret H locs ls pc h1 h2 h3 h4
  have q0 := hts (.fieldLink RX4 18 "ForeRain$Reader" "found" "LForeRain$Told;") (by decide +kernel)
  have q1 := hts (.fieldLink RX4 50 "ForeRain$Told" "pieces" "I") (by decide +kernel)
  have q2 := hts (.fieldLink RX4 78 "ForeRain$Told" "water" "[I") (by decide +kernel)
  have q3 := hts (.fieldLink RX4 86 "ForeRain$Told" "wide" "[I") (by decide +kernel)
  have q4 := hts (.fieldLink RX4 89 "ForeRain$Told" "cloth" "[I") (by decide +kernel)
  have iX4 : ∀ w ∈ u_ws RX4 TX4 8, w ∈ wsX4_readPiece := by decide +kernel
  have iX6 : ∀ w ∈ u_ws RX6 TX6 9, w ∈ wsX4_readPiece := by decide +kernel
  refine lv_aload_n hx hb dX4_readPiece_0 rfl (lv_at hl 0 rfl) ?_
  refine va_get (D := D) (ci := 4) (v := .ref (aF 0)) (C := RX4) (T := TX4) (N := 8) hx hb hts iX4 hown hK hP 0 rfl rfl 1 (by decide) q0 (fun _ h9 => h9) rfl dX4_readPiece_1 ?_
  refine va_get (D := D) (ci := 6) (v := .int (mF 0 0)) (C := RX6) (T := TX6) (N := 9) hx hb hts iX6 hown hK hP 2 rfl rfl 0 (by decide) q1 (fun _ h9 => h9) rfl dX4_readPiece_4 ?_
  obtain ⟨x1, ex1, hf⟩ := kv_lt_e hf
  refine vv_nami ex1 ?_
  refine lv_istore_n (lv' := [(1, .int x1), (0, .ref (aR 0))]) hx hb dX4_readPiece_7 rfl hl (by decide) rfl (fun ls hl => ?_)
  refine lv_aload_n hx hb dX4_readPiece_8 rfl (lv_at hl 1 rfl) ?_
  refine va_get (D := D) (ci := 4) (v := .ref (aF 0)) (C := RX4) (T := TX4) (N := 8) hx hb hts iX4 hown hK hP 0 rfl rfl 1 (by decide) q0 (fun _ h9 => h9) rfl dX4_readPiece_9 ?_
  refine va_get (D := D) (ci := 6) (v := .ref (aF 1)) (C := RX6) (T := TX6) (N := 9) hx hb hts iX6 hown hK hP 2 rfl rfl 3 (by decide) q2 (fun _ h9 => h9) rfl dX4_readPiece_12 ?_
  refine lv_iload_n hx hb dX4_readPiece_15 rfl (lv_at hl 0 rfl) ?_
  refine lv_aload_n hx hb dX4_readPiece_16 rfl (lv_at hl 1 rfl) ?_
  refine lv_iconst (v := 1) hx hb dX4_readPiece_17 (by decide) ?_
  refine lv_bipush (v := 99) hx hb dX4_readPiece_18 (by decide) ?_
  obtain ⟨r2, mR3, hc, hf⟩ := kv_b2_e hf
  have hs9 : vv_Sub D H A (w_Rd C aF aR mR) (w_Rd C aF aR mR3) (w_Rd C aF aR mR3 ++ w_Told C aF mF) := vv_Sub.part (ws := (w_Rd C aF aR mR ++ w_Told C aF mF)) (wr := (w_Told C aF mF)) [0, 1] [2, 3, 4, 5, 6, 7, 8] [7, 8, 0, 1, 2, 3, 4, 5, 6] hP hD hS hA rfl rfl (by decide) rfl
  refine vv_goi (wn := (w_Rd C aF aR mR3 ++ w_Told C aF mF)) hK hs9 hS (vv_rV (As := [.int 1, .int 99]) (rest := [.int x1, .ref (aF 1)]) hx hb hml hown hts hK hN hS hs9 (ccX4_readNumber l D C H.size aR aF mR (1 : Int32) (99 : Int32) r2 mR3 hc) (cwV 2 hts gX4_readPiece_X4_readNumber rfl rfl rfl (by decide +kernel) ⟨(Nat.le_of_ble_eq_true rfl), (Nat.le_of_ble_eq_true rfl)⟩) (va_recv hK hP (ci := 4) (q0 := 0) rfl rfl) rfl hl.1 rfl (Nat.le_of_ble_eq_true rfl) dX4_readPiece_20 ⟨Nat.zero_le _, Nat.zero_le _⟩) (fun H locs hP hD hS => ?_)
  obtain ⟨h9, hf⟩ := kv_ix_e hf
  obtain ⟨mF4, emF4, hf⟩ := kv_lt_e hf
  refine va_iast hx hb hK hP hD hS 3 1 rfl rfl h9 dX4_readPiece_23 (fun H locs hP hD hS => ?_)
  have hP : va_P D vwCl (w_Rd C aF aR mR3 ++ w_Told C aF mF4) H := by rw [emF4]; exact hP
  have hD : va_D A (w_Rd C aF aR mR3 ++ w_Told C aF mF4) := by rw [emF4]; exact hD
  refine lv_aload_n hx hb dX4_readPiece_24 rfl (lv_at hl 1 rfl) ?_
  refine va_get (D := D) (ci := 4) (v := .ref (aF 0)) (C := RX4) (T := TX4) (N := 8) hx hb hts iX4 hown hK hP 0 rfl rfl 1 (by decide) q0 (fun _ h9 => h9) rfl dX4_readPiece_25 ?_
  refine va_get (D := D) (ci := 6) (v := .ref (aF 2)) (C := RX6) (T := TX6) (N := 9) hx hb hts iX6 hown hK hP 2 rfl rfl 4 (by decide) q3 (fun _ h9 => h9) rfl dX4_readPiece_28 ?_
  refine lv_iload_n hx hb dX4_readPiece_31 rfl (lv_at hl 0 rfl) ?_
  refine lv_aload_n hx hb dX4_readPiece_32 rfl (lv_at hl 1 rfl) ?_
  refine lv_iconst (v := 1) hx hb dX4_readPiece_33 (by decide) ?_
  refine lv_bipush (v := 9) hx hb dX4_readPiece_34 (by decide) ?_
  obtain ⟨r5, mR6, hc, hf⟩ := kv_b2_e hf
  have hs9 : vv_Sub D H A (w_Rd C aF aR mR3) (w_Rd C aF aR mR6) (w_Rd C aF aR mR6 ++ w_Told C aF mF4) := vv_Sub.part (ws := (w_Rd C aF aR mR3 ++ w_Told C aF mF4)) (wr := (w_Told C aF mF4)) [0, 1] [2, 3, 4, 5, 6, 7, 8] [7, 8, 0, 1, 2, 3, 4, 5, 6] hP hD hS hA rfl rfl (by decide) rfl
  refine vv_goi (wn := (w_Rd C aF aR mR6 ++ w_Told C aF mF4)) hK hs9 hS (vv_rV (As := [.int 1, .int 9]) (rest := [.int x1, .ref (aF 2)]) hx hb hml hown hts hK hN hS hs9 (ccX4_readNumber l D C H.size aR aF mR3 (1 : Int32) (9 : Int32) r5 mR6 hc) (cwV 2 hts gX4_readPiece_X4_readNumber rfl rfl rfl (by decide +kernel) ⟨(Nat.le_of_ble_eq_true rfl), (Nat.le_of_ble_eq_true rfl)⟩) (va_recv hK hP (ci := 4) (q0 := 0) rfl rfl) rfl hl.1 rfl (Nat.le_of_ble_eq_true rfl) dX4_readPiece_36 ⟨Nat.zero_le _, Nat.zero_le _⟩) (fun H locs hP hD hS => ?_)
  obtain ⟨h9, hf⟩ := kv_ix_e hf
  obtain ⟨mF7, emF7, hf⟩ := kv_lt_e hf
  refine va_iast hx hb hK hP hD hS 4 1 rfl rfl h9 dX4_readPiece_39 (fun H locs hP hD hS => ?_)
  have hP : va_P D vwCl (w_Rd C aF aR mR6 ++ w_Told C aF mF7) H := by rw [emF7]; exact hP
  have hD : va_D A (w_Rd C aF aR mR6 ++ w_Told C aF mF7) := by rw [emF7]; exact hD
  refine lv_aload_n hx hb dX4_readPiece_40 rfl (lv_at hl 1 rfl) ?_
  refine va_get (D := D) (ci := 4) (v := .ref (aF 0)) (C := RX4) (T := TX4) (N := 8) hx hb hts iX4 hown hK hP 0 rfl rfl 1 (by decide) q0 (fun _ h9 => h9) rfl dX4_readPiece_41 ?_
  refine va_get (D := D) (ci := 6) (v := .ref (aF 3)) (C := RX6) (T := TX6) (N := 9) hx hb hts iX6 hown hK hP 2 rfl rfl 5 (by decide) q4 (fun _ h9 => h9) rfl dX4_readPiece_44 ?_
  refine lv_iload_n hx hb dX4_readPiece_47 rfl (lv_at hl 0 rfl) ?_
  refine lv_aload_n hx hb dX4_readPiece_48 rfl (lv_at hl 1 rfl) ?_
  refine lv_iconst (v := 1) hx hb dX4_readPiece_49 (by decide) ?_
  refine lv_iconst (v := 3) hx hb dX4_readPiece_50 (by decide) ?_
  obtain ⟨r8, mR9, hc, hf⟩ := kv_b2_e hf
  have hs9 : vv_Sub D H A (w_Rd C aF aR mR6) (w_Rd C aF aR mR9) (w_Rd C aF aR mR9 ++ w_Told C aF mF7) := vv_Sub.part (ws := (w_Rd C aF aR mR6 ++ w_Told C aF mF7)) (wr := (w_Told C aF mF7)) [0, 1] [2, 3, 4, 5, 6, 7, 8] [7, 8, 0, 1, 2, 3, 4, 5, 6] hP hD hS hA rfl rfl (by decide) rfl
  refine vv_goi (wn := (w_Rd C aF aR mR9 ++ w_Told C aF mF7)) hK hs9 hS (vv_rV (As := [.int 1, .int 3]) (rest := [.int x1, .ref (aF 3)]) hx hb hml hown hts hK hN hS hs9 (ccX4_readNumber l D C H.size aR aF mR6 (1 : Int32) (3 : Int32) r8 mR9 hc) (cwV 2 hts gX4_readPiece_X4_readNumber rfl rfl rfl (by decide +kernel) ⟨(Nat.le_of_ble_eq_true rfl), (Nat.le_of_ble_eq_true rfl)⟩) (va_recv hK hP (ci := 4) (q0 := 0) rfl rfl) rfl hl.1 rfl (Nat.le_of_ble_eq_true rfl) dX4_readPiece_51 ⟨Nat.zero_le _, Nat.zero_le _⟩) (fun H locs hP hD hS => ?_)
  obtain ⟨h9, hf⟩ := kv_ix_e hf
  obtain ⟨mF10, emF10, hf⟩ := kv_lt_e hf
  refine va_iast hx hb hK hP hD hS 5 1 rfl rfl h9 dX4_readPiece_54 (fun H locs hP hD hS => ?_)
  have hP : va_P D vwCl (w_Rd C aF aR mR9 ++ w_Told C aF mF10) H := by rw [emF10]; exact hP
  have hD : va_D A (w_Rd C aF aR mR9 ++ w_Told C aF mF10) := by rw [emF10]; exact hD
  refine lv_aload_n hx hb dX4_readPiece_55 rfl (lv_at hl 1 rfl) ?_
  refine va_get (D := D) (ci := 4) (v := .ref (aF 0)) (C := RX4) (T := TX4) (N := 8) hx hb hts iX4 hown hK hP 0 rfl rfl 1 (by decide) q0 (fun _ h9 => h9) rfl dX4_readPiece_56 ?_
  refine lv_dup hx hb dX4_readPiece_59 rfl ?_
  refine va_get (D := D) (ci := 6) (v := .int (mF10 0 0)) (C := RX6) (T := TX6) (N := 9) hx hb hts iX6 hown hK hP 2 rfl rfl 0 (by decide) q1 (fun _ h9 => h9) rfl dX4_readPiece_60 ?_
  refine lv_iconst (v := 1) hx hb dX4_readPiece_63 (by decide) ?_
  refine lv_iadd hx hb dX4_readPiece_64 ?_
  obtain ⟨x11, ex11, hf⟩ := kv_lt_e hf
  refine vv_nami ex11 ?_
  obtain ⟨mF12, emF12, hf⟩ := kv_lt_e hf
  refine va_put (D := D) (ci := 6) (v := .int x11) (ty := .int) (C := RX6) (T := TX6) (N := 9) hx hb hts iX6 tyX6 tyX6_ok nmX6 hown hK hP hD hS 2 rfl rfl 0 (by decide) q1 (fun _ h9 => h9) rfl (tyX6_ok 0 (by decide)) rfl rfl (Nat.le_of_ble_eq_true rfl) dX4_readPiece_65 (fun H locs hP hD hS => ?_)
  have hP : va_P D vwCl (w_Rd C aF aR mR9 ++ w_Told C aF mF12) H := by rw [emF12]; exact hP
  have hD : va_D A (w_Rd C aF aR mR9 ++ w_Told C aF mF12) := by rw [emF12]; exact hD
  exact hret _ _ _ _ _ _ hf hP hD hS dX4_readPiece_68
abbrev rX4_readSpot : Room := { frames := 4, cells := 0, slots := 0, locals := 143 }
set_option maxHeartbeats 4000000 in
set_option maxRecDepth 100000 in
theorem ccX4_readSpot (l : Launch) (D : va_G) (C : Nat → ClassId) (sz : Nat) (aR : Nat → Nat) (aF : Nat → Nat) (mR : Mm) (mF : Mm) (oR : Mm) (oF : Mm) (hf : ffX4_readSpot mR mF = some (oR, oF)) : Met l yX4_readSpot wsX4_readSpot rX4_readSpot (va_Pc [.ref (aR 0)] (vv_pre D C (w_Rd C aF aR mR ++ w_Told C aF mF) sz)) (vv_QV D C (w_Rd C aF aR mR ++ w_Told C aF mF) (w_Rd C aF aR oR ++ w_Told C aF oF) sz) 0 0 (va_A (w_Rd C aF aR mR ++ w_Told C aF mF) sz) := by
  unfold ffX4_readSpot at hf
  refine vv_metV (cc := cX4_readSpot) (maxL := 2) (by decide) rfl (Nat.le_of_ble_eq_true rfl) ?_
  intro p e s m args below meth c A Q H locs ls hx hb hml hown hts hA hK hN hP hD hS hl hret
  have hown : s.vm.findClass RX4 = some m.cls := hown
  have hl : lv_has ls 2 [(0, .ref (aR 0))] := hl
  have hret : ∀ (v0 : Mm) (v1 : Mm) (H : Heap) (locs : List Loc) (ls : Array Slot) (pc : Nat), some (v0, v1) = some (oR, oF) → va_P D vwCl (w_Rd C aF aR v0 ++ w_Told C aF v1) H → va_D A (w_Rd C aF aR v0 ++ w_Told C aF v1) → va_S A s.heap H locs → decode cX4_readSpot pc = .ok (.return_, 1) → W p l e rX4_readSpot s m args below meth c H locs 0 0 Q (F0 m pc ls []) := by
    intro v0 v1 H locs ls pc h0 h1 h2 h3 h4
    cases h0
    exact hret H locs ls pc h1 h2 h3 h4
  have q0 := hts (.fieldLink RX4 18 "ForeRain$Reader" "found" "LForeRain$Told;") (by decide +kernel)
  have q1 := hts (.fieldLink RX4 58 "ForeRain$Told" "spots" "I") (by decide +kernel)
  have q2 := hts (.fieldLink RX4 92 "ForeRain$Told" "room" "[I") (by decide +kernel)
  have q3 := hts (.fieldLink RX4 95 "ForeRain$Told" "wind" "[I") (by decide +kernel)
  have iX4 : ∀ w ∈ u_ws RX4 TX4 8, w ∈ wsX4_readSpot := by decide +kernel
  have iX6 : ∀ w ∈ u_ws RX6 TX6 9, w ∈ wsX4_readSpot := by decide +kernel
  refine lv_aload_n hx hb dX4_readSpot_0 rfl (lv_at hl 0 rfl) ?_
  refine va_get (D := D) (ci := 4) (v := .ref (aF 0)) (C := RX4) (T := TX4) (N := 8) hx hb hts iX4 hown hK hP 0 rfl rfl 1 (by decide) q0 (fun _ h9 => h9) rfl dX4_readSpot_1 ?_
  refine va_get (D := D) (ci := 6) (v := .int (mF 0 1)) (C := RX6) (T := TX6) (N := 9) hx hb hts iX6 hown hK hP 2 rfl rfl 1 (by decide) q1 (fun _ h9 => h9) rfl dX4_readSpot_4 ?_
  obtain ⟨x1, ex1, hf⟩ := kv_lt_e hf
  refine vv_nami ex1 ?_
  refine lv_istore_n (lv' := [(1, .int x1), (0, .ref (aR 0))]) hx hb dX4_readSpot_7 rfl hl (by decide) rfl (fun ls hl => ?_)
  refine lv_aload_n hx hb dX4_readSpot_8 rfl (lv_at hl 1 rfl) ?_
  refine va_get (D := D) (ci := 4) (v := .ref (aF 0)) (C := RX4) (T := TX4) (N := 8) hx hb hts iX4 hown hK hP 0 rfl rfl 1 (by decide) q0 (fun _ h9 => h9) rfl dX4_readSpot_9 ?_
  refine va_get (D := D) (ci := 6) (v := .ref (aF 4)) (C := RX6) (T := TX6) (N := 9) hx hb hts iX6 hown hK hP 2 rfl rfl 6 (by decide) q2 (fun _ h9 => h9) rfl dX4_readSpot_12 ?_
  refine lv_iload_n hx hb dX4_readSpot_15 rfl (lv_at hl 0 rfl) ?_
  refine lv_aload_n hx hb dX4_readSpot_16 rfl (lv_at hl 1 rfl) ?_
  refine lv_iconst (v := 1) hx hb dX4_readSpot_17 (by decide) ?_
  refine lv_bipush (v := 9) hx hb dX4_readSpot_18 (by decide) ?_
  obtain ⟨r2, mR3, hc, hf⟩ := kv_b2_e hf
  have hs9 : vv_Sub D H A (w_Rd C aF aR mR) (w_Rd C aF aR mR3) (w_Rd C aF aR mR3 ++ w_Told C aF mF) := vv_Sub.part (ws := (w_Rd C aF aR mR ++ w_Told C aF mF)) (wr := (w_Told C aF mF)) [0, 1] [2, 3, 4, 5, 6, 7, 8] [7, 8, 0, 1, 2, 3, 4, 5, 6] hP hD hS hA rfl rfl (by decide) rfl
  refine vv_goi (wn := (w_Rd C aF aR mR3 ++ w_Told C aF mF)) hK hs9 hS (vv_rV (As := [.int 1, .int 9]) (rest := [.int x1, .ref (aF 4)]) hx hb hml hown hts hK hN hS hs9 (ccX4_readNumber l D C H.size aR aF mR (1 : Int32) (9 : Int32) r2 mR3 hc) (cwV 2 hts gX4_readSpot_X4_readNumber rfl rfl rfl (by decide +kernel) ⟨(Nat.le_of_ble_eq_true rfl), (Nat.le_of_ble_eq_true rfl)⟩) (va_recv hK hP (ci := 4) (q0 := 0) rfl rfl) rfl hl.1 rfl (Nat.le_of_ble_eq_true rfl) dX4_readSpot_20 ⟨Nat.zero_le _, Nat.zero_le _⟩) (fun H locs hP hD hS => ?_)
  obtain ⟨h9, hf⟩ := kv_ix_e hf
  obtain ⟨mF4, emF4, hf⟩ := kv_lt_e hf
  refine va_iast hx hb hK hP hD hS 6 1 rfl rfl h9 dX4_readSpot_23 (fun H locs hP hD hS => ?_)
  have hP : va_P D vwCl (w_Rd C aF aR mR3 ++ w_Told C aF mF4) H := by rw [emF4]; exact hP
  have hD : va_D A (w_Rd C aF aR mR3 ++ w_Told C aF mF4) := by rw [emF4]; exact hD
  refine lv_aload_n hx hb dX4_readSpot_24 rfl (lv_at hl 1 rfl) ?_
  refine va_get (D := D) (ci := 4) (v := .ref (aF 0)) (C := RX4) (T := TX4) (N := 8) hx hb hts iX4 hown hK hP 0 rfl rfl 1 (by decide) q0 (fun _ h9 => h9) rfl dX4_readSpot_25 ?_
  refine va_get (D := D) (ci := 6) (v := .ref (aF 5)) (C := RX6) (T := TX6) (N := 9) hx hb hts iX6 hown hK hP 2 rfl rfl 7 (by decide) q3 (fun _ h9 => h9) rfl dX4_readSpot_28 ?_
  refine lv_iload_n hx hb dX4_readSpot_31 rfl (lv_at hl 0 rfl) ?_
  refine lv_aload_n hx hb dX4_readSpot_32 rfl (lv_at hl 1 rfl) ?_
  refine lv_iconst (v := 0) hx hb dX4_readSpot_33 (by decide) ?_
  refine lv_bipush (v := 9) hx hb dX4_readSpot_34 (by decide) ?_
  obtain ⟨r5, mR6, hc, hf⟩ := kv_b2_e hf
  have hs9 : vv_Sub D H A (w_Rd C aF aR mR3) (w_Rd C aF aR mR6) (w_Rd C aF aR mR6 ++ w_Told C aF mF4) := vv_Sub.part (ws := (w_Rd C aF aR mR3 ++ w_Told C aF mF4)) (wr := (w_Told C aF mF4)) [0, 1] [2, 3, 4, 5, 6, 7, 8] [7, 8, 0, 1, 2, 3, 4, 5, 6] hP hD hS hA rfl rfl (by decide) rfl
  refine vv_goi (wn := (w_Rd C aF aR mR6 ++ w_Told C aF mF4)) hK hs9 hS (vv_rV (As := [.int 0, .int 9]) (rest := [.int x1, .ref (aF 5)]) hx hb hml hown hts hK hN hS hs9 (ccX4_readNumber l D C H.size aR aF mR3 (0 : Int32) (9 : Int32) r5 mR6 hc) (cwV 2 hts gX4_readSpot_X4_readNumber rfl rfl rfl (by decide +kernel) ⟨(Nat.le_of_ble_eq_true rfl), (Nat.le_of_ble_eq_true rfl)⟩) (va_recv hK hP (ci := 4) (q0 := 0) rfl rfl) rfl hl.1 rfl (Nat.le_of_ble_eq_true rfl) dX4_readSpot_36 ⟨Nat.zero_le _, Nat.zero_le _⟩) (fun H locs hP hD hS => ?_)
  obtain ⟨h9, hf⟩ := kv_ix_e hf
  obtain ⟨mF7, emF7, hf⟩ := kv_lt_e hf
  refine va_iast hx hb hK hP hD hS 7 1 rfl rfl h9 dX4_readSpot_39 (fun H locs hP hD hS => ?_)
  have hP : va_P D vwCl (w_Rd C aF aR mR6 ++ w_Told C aF mF7) H := by rw [emF7]; exact hP
  have hD : va_D A (w_Rd C aF aR mR6 ++ w_Told C aF mF7) := by rw [emF7]; exact hD
  refine lv_aload_n hx hb dX4_readSpot_40 rfl (lv_at hl 1 rfl) ?_
  refine va_get (D := D) (ci := 4) (v := .ref (aF 0)) (C := RX4) (T := TX4) (N := 8) hx hb hts iX4 hown hK hP 0 rfl rfl 1 (by decide) q0 (fun _ h9 => h9) rfl dX4_readSpot_41 ?_
  refine lv_dup hx hb dX4_readSpot_44 rfl ?_
  refine va_get (D := D) (ci := 6) (v := .int (mF7 0 1)) (C := RX6) (T := TX6) (N := 9) hx hb hts iX6 hown hK hP 2 rfl rfl 1 (by decide) q1 (fun _ h9 => h9) rfl dX4_readSpot_45 ?_
  refine lv_iconst (v := 1) hx hb dX4_readSpot_48 (by decide) ?_
  refine lv_iadd hx hb dX4_readSpot_49 ?_
  obtain ⟨x8, ex8, hf⟩ := kv_lt_e hf
  refine vv_nami ex8 ?_
  obtain ⟨mF9, emF9, hf⟩ := kv_lt_e hf
  refine va_put (D := D) (ci := 6) (v := .int x8) (ty := .int) (C := RX6) (T := TX6) (N := 9) hx hb hts iX6 tyX6 tyX6_ok nmX6 hown hK hP hD hS 2 rfl rfl 1 (by decide) q1 (fun _ h9 => h9) rfl (tyX6_ok 1 (by decide)) rfl rfl (Nat.le_of_ble_eq_true rfl) dX4_readSpot_50 (fun H locs hP hD hS => ?_)
  have hP : va_P D vwCl (w_Rd C aF aR mR6 ++ w_Told C aF mF9) H := by rw [emF9]; exact hP
  have hD : va_D A (w_Rd C aF aR mR6 ++ w_Told C aF mF9) := by rw [emF9]; exact hD
  exact hret _ _ _ _ _ _ hf hP hD hS dX4_readSpot_53
abbrev rX4_readSteps : Room := { frames := 4, cells := 0, slots := 0, locals := 143 }
set_option maxHeartbeats 4000000 in
set_option maxRecDepth 100000 in
theorem ccX4_readSteps (l : Launch) (D : va_G) (C : Nat → ClassId) (sz : Nat) (aR : Nat → Nat) (aF : Nat → Nat) (mR : Mm) (mF : Mm) (p0 : Int32) (p1 : Int32) (oR : Mm) (oF : Mm) (hf : ffX4_readSteps p0 p1 mR mF = some (oR, oF)) : Met l yX4_readSteps wsX4_readSteps rX4_readSteps (va_Pc [.ref (aR 0), .int p0, .int p1] (vv_pre D C (w_Rd C aF aR mR ++ w_Told C aF mF) sz)) (vv_QV D C (w_Rd C aF aR mR ++ w_Told C aF mF) (w_Rd C aF aR oR ++ w_Told C aF oF) sz) 0 0 (va_A (w_Rd C aF aR mR ++ w_Told C aF mF) sz) := by
  unfold ffX4_readSteps at hf
  refine vv_metV (cc := cX4_readSteps) (maxL := 6) (by decide) rfl (Nat.le_of_ble_eq_true rfl) ?_
  intro p e s m args below meth c A Q H locs ls hx hb hml hown hts hA hK hN hP hD hS hl hret
  have hown : s.vm.findClass RX4 = some m.cls := hown
  have hl : lv_has ls 6 [(0, .ref (aR 0)), (1, .int p0), (2, .int p1)] := hl
  have hret : ∀ (v0 : Mm) (v1 : Mm) (H : Heap) (locs : List Loc) (ls : Array Slot) (pc : Nat), some (v0, v1) = some (oR, oF) → va_P D vwCl (w_Rd C aF aR v0 ++ w_Told C aF v1) H → va_D A (w_Rd C aF aR v0 ++ w_Told C aF v1) → va_S A s.heap H locs → decode cX4_readSteps pc = .ok (.return_, 1) → W p l e rX4_readSteps s m args below meth c H locs 0 0 Q (F0 m pc ls []) := by
    intro v0 v1 H locs ls pc h0 h1 h2 h3 h4
    cases h0
    exact hret H locs ls pc h1 h2 h3 h4
  have q0 := hts (.fieldLink RX4 18 "ForeRain$Reader" "found" "LForeRain$Told;") (by decide +kernel)
  have q1 := hts (.fieldLink RX4 98 "ForeRain$Told" "steps" "I") (by decide +kernel)
  have q2 := hts (.fieldLink RX4 101 "ForeRain$Told" "suns" "[I") (by decide +kernel)
  have iX4 : ∀ w ∈ u_ws RX4 TX4 8, w ∈ wsX4_readSteps := by decide +kernel
  have iX6 : ∀ w ∈ u_ws RX6 TX6 9, w ∈ wsX4_readSteps := by decide +kernel
  refine lv_iload_n hx hb dX4_readSteps_0 rfl (lv_at hl 2 rfl) ?_
  refine lv_aload_n hx hb dX4_readSteps_1 rfl (lv_at hl 0 rfl) ?_
  refine lv_iload_n hx hb dX4_readSteps_2 rfl (lv_at hl 1 rfl) ?_
  refine lv_bipush (v := 9) hx hb dX4_readSteps_3 (by decide) ?_
  obtain ⟨r1, mR2, hc, hf⟩ := kv_b2_e hf
  have hs9 : vv_Sub D H A (w_Rd C aF aR mR) (w_Rd C aF aR mR2) (w_Rd C aF aR mR2 ++ w_Told C aF mF) := vv_Sub.part (ws := (w_Rd C aF aR mR ++ w_Told C aF mF)) (wr := (w_Told C aF mF)) [0, 1] [2, 3, 4, 5, 6, 7, 8] [7, 8, 0, 1, 2, 3, 4, 5, 6] hP hD hS hA rfl rfl (by decide) rfl
  refine vv_goi (wn := (w_Rd C aF aR mR2 ++ w_Told C aF mF)) hK hs9 hS (vv_rV (As := [.int p0, .int 9]) (rest := [.int p1]) hx hb hml hown hts hK hN hS hs9 (ccX4_readNumber l D C H.size aR aF mR p0 (9 : Int32) r1 mR2 hc) (cwV 2 hts gX4_readSteps_X4_readNumber rfl rfl rfl (by decide +kernel) ⟨(Nat.le_of_ble_eq_true rfl), (Nat.le_of_ble_eq_true rfl)⟩) (va_recv hK hP (ci := 4) (q0 := 0) rfl rfl) rfl hl.1 rfl (Nat.le_of_ble_eq_true rfl) dX4_readSteps_5 ⟨Nat.zero_le _, Nat.zero_le _⟩) (fun H locs hP hD hS => ?_)
  refine lv_imul hx hb dX4_readSteps_8 ?_
  obtain ⟨x3, ex3, hf⟩ := kv_lt_e hf
  refine vv_nami ex3 ?_
  refine lv_istore_n (lv' := [(3, .int x3), (0, .ref (aR 0)), (1, .int p0), (2, .int p1)]) hx hb dX4_readSteps_9 rfl hl (by decide) rfl (fun ls hl => ?_)
  refine lv_aload_n hx hb dX4_readSteps_10 rfl (lv_at hl 1 rfl) ?_
  refine lv_iconst (v := 1) hx hb dX4_readSteps_11 (by decide) ?_
  refine lv_bipush (v := 24) hx hb dX4_readSteps_12 (by decide) ?_
  refine lv_aload_n hx hb dX4_readSteps_14 rfl (lv_at hl 1 rfl) ?_
  refine va_get (D := D) (ci := 4) (v := .ref (aF 0)) (C := RX4) (T := TX4) (N := 8) hx hb hts iX4 hown hK hP 0 rfl rfl 1 (by decide) q0 (fun _ h9 => h9) rfl dX4_readSteps_15 ?_
  refine va_get (D := D) (ci := 6) (v := .int (mF 0 2)) (C := RX6) (T := TX6) (N := 9) hx hb hts iX6 hown hK hP 2 rfl rfl 2 (by decide) q1 (fun _ h9 => h9) rfl dX4_readSteps_18 ?_
  refine lv_isub hx hb dX4_readSteps_21 ?_
  obtain ⟨r4, mR5, hc, hf⟩ := kv_b2_e hf
  have hs9 : vv_Sub D H A (w_Rd C aF aR mR2) (w_Rd C aF aR mR5) (w_Rd C aF aR mR5 ++ w_Told C aF mF) := vv_Sub.part (ws := (w_Rd C aF aR mR2 ++ w_Told C aF mF)) (wr := (w_Told C aF mF)) [0, 1] [2, 3, 4, 5, 6, 7, 8] [7, 8, 0, 1, 2, 3, 4, 5, 6] hP hD hS hA rfl rfl (by decide) rfl
  refine vv_goi (wn := (w_Rd C aF aR mR5 ++ w_Told C aF mF)) hK hs9 hS (vv_rV (As := [.int 1, .int (24 - (mF 0 2))]) (rest := []) hx hb hml hown hts hK hN hS hs9 (ccX4_readNumber l D C H.size aR aF mR2 (1 : Int32) (24 - (mF 0 2)) r4 mR5 hc) (cwV 2 hts gX4_readSteps_X4_readNumber rfl rfl rfl (by decide +kernel) ⟨(Nat.le_of_ble_eq_true rfl), (Nat.le_of_ble_eq_true rfl)⟩) (va_recv hK hP (ci := 4) (q0 := 0) rfl rfl) rfl hl.1 rfl (Nat.le_of_ble_eq_true rfl) dX4_readSteps_22 ⟨Nat.zero_le _, Nat.zero_le _⟩) (fun H locs hP hD hS => ?_)
  refine lv_istore (lv' := [(4, .int r4), (3, .int x3), (0, .ref (aR 0)), (1, .int p0), (2, .int p1)]) hx hb dX4_readSteps_25 hl (by decide) rfl (fun ls hl => ?_)
  refine lv_iconst (v := 0) hx hb dX4_readSteps_27 (by decide) ?_
  refine lv_istore (lv' := [(5, .int 0), (4, .int r4), (3, .int x3), (0, .ref (aR 0)), (1, .int p0), (2, .int p1)]) hx hb dX4_readSteps_28 hl (by decide) rfl (fun ls hl => ?_)
  have L30 : ∀ (K30 : Int32 → Mm → Option (Mm × Mm)), (∀ (x6 : Int32) (mF7 : Mm) (H : Heap) (locs : List Loc) (ls : Array Slot), va_P D vwCl (w_Rd C aF aR mR5 ++ w_Told C aF mF7) H → va_D A (w_Rd C aF aR mR5 ++ w_Told C aF mF7) → va_S A s.heap H locs → lv_has ls 6 [(5, .int x6), (4, .int r4), (3, .int x3), (0, .ref (aR 0))] → K30 x6 mF7 = some (oR, oF) → W p l e rX4_readSteps s m args below meth c H locs 0 0 Q (F0 m 84 ls [])) → ∀ (n : Nat) (x6 : Int32) (mF7 : Mm) (H : Heap) (locs : List Loc) (ls : Array Slot), va_P D vwCl (w_Rd C aF aR mR5 ++ w_Told C aF mF7) H → va_D A (w_Rd C aF aR mR5 ++ w_Told C aF mF7) → va_S A s.heap H locs → lv_has ls 6 [(5, .int x6), (4, .int r4), (3, .int x3), (0, .ref (aR 0))] → ffX4_readSteps_L30 x3 r4 K30 n x6 mF7 = some (oR, oF) → W p l e rX4_readSteps s m args below meth c H locs 0 0 Q (F0 m 30 ls []) := by
    intro K30 hK9 n
    induction n with
    | zero => intro x6 mF7 H locs ls hP hD hS hl hf; exact kv_no hf
    | succ n ih =>
      intro x6 mF7 H locs ls hP hD hS hl hf
      rw [ffX4_readSteps_L30_s] at hf
      refine lv_iload hx hb dX4_readSteps_30 (lv_at hl 0 rfl) ?_
      refine lv_iload hx hb dX4_readSteps_32 (lv_at hl 1 rfl) ?_
      refine lv_icmp_ge (tgt := 84) hx hb dX4_readSteps_34 (by decide) (fun hc => ?_) (fun hc => ?_)
      · have hf := kv_t hc hf
        exact hK9 _ _ _ _ _ hP hD hS (lv_sub hl [0, 1, 2, 3] rfl) hf
      · have hf := kv_f hc hf
        refine lv_aload_n hx hb dX4_readSteps_37 rfl (lv_at hl 3 rfl) ?_
        refine va_get (D := D) (ci := 4) (v := .ref (aF 0)) (C := RX4) (T := TX4) (N := 8) hx hb hts iX4 hown hK hP 0 rfl rfl 1 (by decide) q0 (fun _ h9 => h9) rfl dX4_readSteps_38 ?_
        refine va_get (D := D) (ci := 6) (v := .int (mF7 0 2)) (C := RX6) (T := TX6) (N := 9) hx hb hts iX6 hown hK hP 2 rfl rfl 2 (by decide) q1 (fun _ h9 => h9) rfl dX4_readSteps_41 ?_
        refine lv_bipush (v := 24) hx hb dX4_readSteps_44 (by decide) ?_
        refine lv_icmp_ge (tgt := 84) hx hb dX4_readSteps_46 (by decide) (fun hc => ?_) (fun hc => ?_)
        · have hf := kv_t hc hf
          exact hK9 _ _ _ _ _ hP hD hS (lv_sub hl [0, 1, 2, 3] rfl) hf
        · have hf := kv_f hc hf
          refine lv_aload_n hx hb dX4_readSteps_49 rfl (lv_at hl 3 rfl) ?_
          refine va_get (D := D) (ci := 4) (v := .ref (aF 0)) (C := RX4) (T := TX4) (N := 8) hx hb hts iX4 hown hK hP 0 rfl rfl 1 (by decide) q0 (fun _ h9 => h9) rfl dX4_readSteps_50 ?_
          refine va_get (D := D) (ci := 6) (v := .ref (aF 6)) (C := RX6) (T := TX6) (N := 9) hx hb hts iX6 hown hK hP 2 rfl rfl 8 (by decide) q2 (fun _ h9 => h9) rfl dX4_readSteps_53 ?_
          refine lv_aload_n hx hb dX4_readSteps_56 rfl (lv_at hl 3 rfl) ?_
          refine va_get (D := D) (ci := 4) (v := .ref (aF 0)) (C := RX4) (T := TX4) (N := 8) hx hb hts iX4 hown hK hP 0 rfl rfl 1 (by decide) q0 (fun _ h9 => h9) rfl dX4_readSteps_57 ?_
          refine va_get (D := D) (ci := 6) (v := .int (mF7 0 2)) (C := RX6) (T := TX6) (N := 9) hx hb hts iX6 hown hK hP 2 rfl rfl 2 (by decide) q1 (fun _ h9 => h9) rfl dX4_readSteps_60 ?_
          refine lv_iload_n hx hb dX4_readSteps_63 rfl (lv_at hl 2 rfl) ?_
          obtain ⟨h9, hf⟩ := kv_ix_e hf
          obtain ⟨mF8, emF8, hf⟩ := kv_lt_e hf
          refine va_iast hx hb hK hP hD hS 8 1 rfl rfl h9 dX4_readSteps_64 (fun H locs hP hD hS => ?_)
          have hP : va_P D vwCl (w_Rd C aF aR mR5 ++ w_Told C aF mF8) H := by rw [emF8]; exact hP
          have hD : va_D A (w_Rd C aF aR mR5 ++ w_Told C aF mF8) := by rw [emF8]; exact hD
          refine lv_aload_n hx hb dX4_readSteps_65 rfl (lv_at hl 3 rfl) ?_
          refine va_get (D := D) (ci := 4) (v := .ref (aF 0)) (C := RX4) (T := TX4) (N := 8) hx hb hts iX4 hown hK hP 0 rfl rfl 1 (by decide) q0 (fun _ h9 => h9) rfl dX4_readSteps_66 ?_
          refine lv_dup hx hb dX4_readSteps_69 rfl ?_
          refine va_get (D := D) (ci := 6) (v := .int (mF8 0 2)) (C := RX6) (T := TX6) (N := 9) hx hb hts iX6 hown hK hP 2 rfl rfl 2 (by decide) q1 (fun _ h9 => h9) rfl dX4_readSteps_70 ?_
          refine lv_iconst (v := 1) hx hb dX4_readSteps_73 (by decide) ?_
          refine lv_iadd hx hb dX4_readSteps_74 ?_
          obtain ⟨x9, ex9, hf⟩ := kv_lt_e hf
          refine vv_nami ex9 ?_
          obtain ⟨mF10, emF10, hf⟩ := kv_lt_e hf
          refine va_put (D := D) (ci := 6) (v := .int x9) (ty := .int) (C := RX6) (T := TX6) (N := 9) hx hb hts iX6 tyX6 tyX6_ok nmX6 hown hK hP hD hS 2 rfl rfl 2 (by decide) q1 (fun _ h9 => h9) rfl (tyX6_ok 2 (by decide)) rfl rfl (Nat.le_of_ble_eq_true rfl) dX4_readSteps_75 (fun H locs hP hD hS => ?_)
          have hP : va_P D vwCl (w_Rd C aF aR mR5 ++ w_Told C aF mF10) H := by rw [emF10]; exact hP
          have hD : va_D A (w_Rd C aF aR mR5 ++ w_Told C aF mF10) := by rw [emF10]; exact hD
          obtain ⟨x11, ex11, hf⟩ := kv_lt_e hf
          refine lv_iinc (v := x11) (lv' := [(5, .int x11), (4, .int r4), (3, .int x3), (0, .ref (aR 0))]) hx hb dX4_readSteps_78 hl (k := 0) rfl (by rw [ex11]; rfl) (by decide) rfl (fun ls hl => ?_)
          refine lv_goto (tgt := 30) hx hb dX4_readSteps_81 (by decide) ?_
          exact ih _ _ _ _ _ hP hD hS (lv_sub hl [0, 1, 2, 3] rfl) hf
  refine L30 _ (fun x12 mF13 H locs ls hP hD hS hl hf => ?_) _ _ _ _ _ _ hP hD hS (lv_sub hl [0, 1, 2, 3] rfl) hf
  exact hret _ _ _ _ _ _ hf hP hD hS dX4_readSteps_84
abbrev rX4_readSemicolon : Room := { frames := 3, cells := 0, slots := 0, locals := 121 }
set_option maxHeartbeats 4000000 in
set_option maxRecDepth 100000 in
theorem ccX4_readSemicolon (l : Launch) (D : va_G) (C : Nat → ClassId) (sz : Nat) (aR : Nat → Nat) (aF : Nat → Nat) (mR : Mm) (oR : Mm) (hf : ffX4_readSemicolon mR = some (oR)) : Met l yX4_readSemicolon wsX4_readSemicolon rX4_readSemicolon (va_Pc [.ref (aR 0)] (vv_pre D C (w_Rd C aF aR mR) sz)) (vv_QV D C (w_Rd C aF aR mR) (w_Rd C aF aR oR) sz) 0 0 (va_A (w_Rd C aF aR mR) sz) := by
  unfold ffX4_readSemicolon at hf
  refine vv_metV (cc := cX4_readSemicolon) (maxL := 1) (by decide) rfl (Nat.le_of_ble_eq_true rfl) ?_
  intro p e s m args below meth c A Q H locs ls hx hb hml hown hts hA hK hN hP hD hS hl hret
  have hown : s.vm.findClass RX4 = some m.cls := hown
  have hl : lv_has ls 1 [(0, .ref (aR 0))] := hl
  have hret : ∀ (v0 : Mm) (H : Heap) (locs : List Loc) (ls : Array Slot) (pc : Nat), some (v0) = some (oR) → va_P D vwCl (w_Rd C aF aR v0) H → va_D A (w_Rd C aF aR v0) → va_S A s.heap H locs → decode cX4_readSemicolon pc = .ok (.return_, 1) → W p l e rX4_readSemicolon s m args below meth c H locs 0 0 Q (F0 m pc ls []) := by
    intro v0 H locs ls pc h0 h1 h2 h3 h4
    cases h0
    exact hret H locs ls pc h1 h2 h3 h4
  have q0 := hts (.fieldLink RX4 32 "ForeRain$Reader" "fault" "I") (by decide +kernel)
  have q1 := hts (.fieldLink RX4 38 "ForeRain$Reader" "token" "I") (by decide +kernel)
  have q2 := hts (.fieldLink RX4 72 "ForeRain$Reader" "start" "I") (by decide +kernel)
  have iX4 : ∀ w ∈ u_ws RX4 TX4 8, w ∈ wsX4_readSemicolon := by decide +kernel
  refine lv_aload_n hx hb dX4_readSemicolon_0 rfl (lv_at hl 0 rfl) ?_
  refine va_get (D := D) (ci := 4) (v := .int (mR 0 7)) (C := RX4) (T := TX4) (N := 8) hx hb hts iX4 hown hK hP 0 rfl rfl 7 (by decide) q0 (fun _ h9 => h9) rfl dX4_readSemicolon_1 ?_
  refine lv_iconst (v := (-1)) hx hb dX4_readSemicolon_4 (by decide) ?_
  refine lv_icmp_eq (tgt := 9) hx hb dX4_readSemicolon_5 (by decide) (fun hc => ?_) (fun hc => ?_)
  · have hf := kv_t hc hf
    refine lv_aload_n hx hb dX4_readSemicolon_9 rfl (lv_at hl 0 rfl) ?_
    obtain ⟨mR1, hc, hf⟩ := kv_b1_e hf
    have hs9 : vv_Sub D H A (w_Rd C aF aR mR) (w_Rd C aF aR mR1) (w_Rd C aF aR mR1) := vv_Sub.same (w_Rd C aF aR mR1) hP hD hS hA
    refine vv_gov (wn := (w_Rd C aF aR mR1)) hK hs9 hS (vv_rV (As := []) (rest := []) hx hb hml hown hts hK hN hS hs9 (ccX4_scan l D C H.size aR aF mR mR1 hc) (cwV 0 hts gX4_readSemicolon_X4_scan rfl rfl rfl (by decide +kernel) ⟨(Nat.le_of_ble_eq_true rfl), (Nat.le_of_ble_eq_true rfl)⟩) (va_recv hK hP (ci := 4) (q0 := 0) rfl rfl) rfl hl.1 rfl (Nat.le_of_ble_eq_true rfl) dX4_readSemicolon_10 ⟨Nat.zero_le _, Nat.zero_le _⟩) (fun H locs hP hD hS => ?_)
    refine lv_aload_n hx hb dX4_readSemicolon_13 rfl (lv_at hl 0 rfl) ?_
    refine va_get (D := D) (ci := 4) (v := .int (mR1 0 5)) (C := RX4) (T := TX4) (N := 8) hx hb hts iX4 hown hK hP 0 rfl rfl 5 (by decide) q1 (fun _ h9 => h9) rfl dX4_readSemicolon_14 ?_
    refine lv_iconst (v := 3) hx hb dX4_readSemicolon_17 (by decide) ?_
    refine lv_icmp_eq (tgt := 29) hx hb dX4_readSemicolon_18 (by decide) (fun hc => ?_) (fun hc => ?_)
    · have hf := kv_t hc hf
      exact hret _ _ _ _ _ hf hP hD hS dX4_readSemicolon_29
    · have hf := kv_f hc hf
      refine lv_aload_n hx hb dX4_readSemicolon_21 rfl (lv_at hl 0 rfl) ?_
      refine lv_aload_n hx hb dX4_readSemicolon_22 rfl (lv_at hl 0 rfl) ?_
      refine va_get (D := D) (ci := 4) (v := .int (mR1 0 4)) (C := RX4) (T := TX4) (N := 8) hx hb hts iX4 hown hK hP 0 rfl rfl 4 (by decide) q2 (fun _ h9 => h9) rfl dX4_readSemicolon_23 ?_
      obtain ⟨x2, ex2, hf⟩ := kv_lt_e hf
      refine vv_nami ex2 ?_
      obtain ⟨mR3, emR3, hf⟩ := kv_lt_e hf
      refine va_put (D := D) (ci := 4) (v := .int x2) (ty := .int) (C := RX4) (T := TX4) (N := 8) hx hb hts iX4 tyX4 tyX4_ok nmX4 hown hK hP hD hS 0 rfl rfl 7 (by decide) q0 (fun _ h9 => h9) rfl (tyX4_ok 7 (by decide)) rfl rfl (Nat.le_of_ble_eq_true rfl) dX4_readSemicolon_26 (fun H locs hP hD hS => ?_)
      have hP : va_P D vwCl (w_Rd C aF aR mR3) H := by rw [emR3]; exact hP
      have hD : va_D A (w_Rd C aF aR mR3) := by rw [emR3]; exact hD
      exact hret _ _ _ _ _ hf hP hD hS dX4_readSemicolon_29
  · have hf := kv_f hc hf
    exact hret _ _ _ _ _ hf hP hD hS dX4_readSemicolon_8
abbrev rX4_readItem : Room := { frames := 5, cells := 0, slots := 0, locals := 262 }
set_option maxHeartbeats 4000000 in
set_option maxRecDepth 100000 in
theorem ccX4_readItem (l : Launch) (D : va_G) (C : Nat → ClassId) (sz : Nat) (aR : Nat → Nat) (aF : Nat → Nat) (mR : Mm) (mF : Mm) (oR : Mm) (oF : Mm) (hf : ffX4_readItem mR mF = some (oR, oF)) : Met l yX4_readItem wsX4_readItem rX4_readItem (va_Pc [.ref (aR 0)] (vv_pre D C (w_Rd C aF aR mR ++ w_Told C aF mF) sz)) (vv_QV D C (w_Rd C aF aR mR ++ w_Told C aF mF) (w_Rd C aF aR oR ++ w_Told C aF oF) sz) 0 0 (va_A (w_Rd C aF aR mR ++ w_Told C aF mF) sz) := by
  unfold ffX4_readItem at hf
  refine vv_metV (cc := cX4_readItem) (maxL := 1) (by decide) rfl (Nat.le_of_ble_eq_true rfl) ?_
  intro p e s m args below meth c A Q H locs ls hx hb hml hown hts hA hK hN hP hD hS hl hret
  have hown : s.vm.findClass RX4 = some m.cls := hown
  have hl : lv_has ls 1 [(0, .ref (aR 0))] := hl
  have hret : ∀ (v0 : Mm) (v1 : Mm) (H : Heap) (locs : List Loc) (ls : Array Slot) (pc : Nat), some (v0, v1) = some (oR, oF) → va_P D vwCl (w_Rd C aF aR v0 ++ w_Told C aF v1) H → va_D A (w_Rd C aF aR v0 ++ w_Told C aF v1) → va_S A s.heap H locs → decode cX4_readItem pc = .ok (.return_, 1) → W p l e rX4_readItem s m args below meth c H locs 0 0 Q (F0 m pc ls []) := by
    intro v0 v1 H locs ls pc h0 h1 h2 h3 h4
    cases h0
    exact hret H locs ls pc h1 h2 h3 h4
  have q0 := hts (.fieldLink RX4 72 "ForeRain$Reader" "start" "I") (by decide +kernel)
  have q1 := hts (.fieldLink RX4 32 "ForeRain$Reader" "fault" "I") (by decide +kernel)
  have q2 := hts (.fieldLink RX4 18 "ForeRain$Reader" "found" "LForeRain$Told;") (by decide +kernel)
  have q3 := hts (.fieldLink RX4 58 "ForeRain$Told" "spots" "I") (by decide +kernel)
  have q4 := hts (.fieldLink RX4 50 "ForeRain$Told" "pieces" "I") (by decide +kernel)
  have iX4 : ∀ w ∈ u_ws RX4 TX4 8, w ∈ wsX4_readItem := by decide +kernel
  have iX6 : ∀ w ∈ u_ws RX6 TX6 9, w ∈ wsX4_readItem := by decide +kernel
  refine lv_aload_n hx hb dX4_readItem_0 rfl (lv_at hl 0 rfl) ?_
  refine va_ldcS hx hb hown hN.2.2.2.2.1 dX4_readItem_1 ?_
  obtain ⟨r1, hc, hf⟩ := kv_b1_e hf
  have hs9 : vv_Sub D H A (w_Rd C aF aR mR) (w_Rd C aF aR mR) (w_Rd C aF aR mR ++ w_Told C aF mF) := vv_Sub.part (ws := (w_Rd C aF aR mR ++ w_Told C aF mF)) (wr := (w_Told C aF mF)) [0, 1] [2, 3, 4, 5, 6, 7, 8] [7, 8, 0, 1, 2, 3, 4, 5, 6] hP hD hS hA rfl rfl (by decide) rfl
  refine vv_goi (wn := (w_Rd C aF aR mR ++ w_Told C aF mF)) hK hs9 hS (vv_rV (As := [.ref (C (10 + 0))]) (rest := []) hx hb hml hown hts hK hN hS hs9 (ccX4_isWord l D C H.size aR aF mR 0 r1 (by decide) hc) (cwV 1 hts gX4_readItem_X4_isWord rfl rfl rfl (by decide +kernel) ⟨(Nat.le_of_ble_eq_true rfl), (Nat.le_of_ble_eq_true rfl)⟩) (va_recv hK hP (ci := 4) (q0 := 0) rfl rfl) rfl hl.1 rfl (Nat.le_of_ble_eq_true rfl) dX4_readItem_3 ⟨Nat.zero_le _, Nat.zero_le _⟩) (fun H locs hP hD hS => ?_)
  obtain ⟨k99_2, ek99_2, hf⟩ := kv_lt_e hf
  have J99_2 : ∀ (mR3 : Mm) (mF4 : Mm) (H : Heap) (locs : List Loc) (ls : Array Slot), va_P D vwCl (w_Rd C aF aR mR3 ++ w_Told C aF mF4) H → va_D A (w_Rd C aF aR mR3 ++ w_Told C aF mF4) → va_S A s.heap H locs → lv_has ls 1 [(0, .ref (aR 0))] → k99_2 mR3 mF4 = some (oR, oF) → W p l e rX4_readItem s m args below meth c H locs 0 0 Q (F0 m 99 ls []) := by
    intro mR3 mF4 H locs ls hP hD hS hl hf
    rw [ek99_2] at hf
    refine lv_aload_n hx hb dX4_readItem_99 rfl (lv_at hl 0 rfl) ?_
    obtain ⟨mR5, hc, hf⟩ := kv_b1_e hf
    have hs9 : vv_Sub D H A (w_Rd C aF aR mR3) (w_Rd C aF aR mR5) (w_Rd C aF aR mR5 ++ w_Told C aF mF4) := vv_Sub.part (ws := (w_Rd C aF aR mR3 ++ w_Told C aF mF4)) (wr := (w_Told C aF mF4)) [0, 1] [2, 3, 4, 5, 6, 7, 8] [7, 8, 0, 1, 2, 3, 4, 5, 6] hP hD hS hA rfl rfl (by decide) rfl
    refine vv_gov (wn := (w_Rd C aF aR mR5 ++ w_Told C aF mF4)) hK hs9 hS (vv_rV (As := []) (rest := []) hx hb hml hown hts hK hN hS hs9 (ccX4_readSemicolon l D C H.size aR aF mR3 mR5 hc) (cwV 0 hts gX4_readItem_X4_readSemicolon rfl rfl rfl (by decide +kernel) ⟨(Nat.le_of_ble_eq_true rfl), (Nat.le_of_ble_eq_true rfl)⟩) (va_recv hK hP (ci := 4) (q0 := 0) rfl rfl) rfl hl.1 rfl (Nat.le_of_ble_eq_true rfl) dX4_readItem_100 ⟨Nat.zero_le _, Nat.zero_le _⟩) (fun H locs hP hD hS => ?_)
    exact hret _ _ _ _ _ _ hf hP hD hS dX4_readItem_103
  obtain ⟨k28_6, ek28_6, hf⟩ := kv_lt_e hf
  have J28_6 : ∀ (mR7 : Mm) (mF8 : Mm) (H : Heap) (locs : List Loc) (ls : Array Slot), va_P D vwCl (w_Rd C aF aR mR7 ++ w_Told C aF mF8) H → va_D A (w_Rd C aF aR mR7 ++ w_Told C aF mF8) → va_S A s.heap H locs → lv_has ls 1 [(0, .ref (aR 0))] → k28_6 mR7 mF8 = some (oR, oF) → W p l e rX4_readItem s m args below meth c H locs 0 0 Q (F0 m 28 ls []) := by
    intro mR7 mF8 H locs ls hP hD hS hl hf
    rw [ek28_6] at hf
    refine lv_aload_n hx hb dX4_readItem_28 rfl (lv_at hl 0 rfl) ?_
    refine va_ldcS hx hb hown hN.2.2.2.2.2.1 dX4_readItem_29 ?_
    obtain ⟨r9, hc, hf⟩ := kv_b1_e hf
    have hs9 : vv_Sub D H A (w_Rd C aF aR mR7) (w_Rd C aF aR mR7) (w_Rd C aF aR mR7 ++ w_Told C aF mF8) := vv_Sub.part (ws := (w_Rd C aF aR mR7 ++ w_Told C aF mF8)) (wr := (w_Told C aF mF8)) [0, 1] [2, 3, 4, 5, 6, 7, 8] [7, 8, 0, 1, 2, 3, 4, 5, 6] hP hD hS hA rfl rfl (by decide) rfl
    refine vv_goi (wn := (w_Rd C aF aR mR7 ++ w_Told C aF mF8)) hK hs9 hS (vv_rV (As := [.ref (C (10 + 1))]) (rest := []) hx hb hml hown hts hK hN hS hs9 (ccX4_isWord l D C H.size aR aF mR7 1 r9 (by decide) hc) (cwV 1 hts gX4_readItem_X4_isWord rfl rfl rfl (by decide +kernel) ⟨(Nat.le_of_ble_eq_true rfl), (Nat.le_of_ble_eq_true rfl)⟩) (va_recv hK hP (ci := 4) (q0 := 0) rfl rfl) rfl hl.1 rfl (Nat.le_of_ble_eq_true rfl) dX4_readItem_31 ⟨Nat.zero_le _, Nat.zero_le _⟩) (fun H locs hP hD hS => ?_)
    obtain ⟨k55_10, ek55_10, hf⟩ := kv_lt_e hf
    have J55_10 : ∀ (mR11 : Mm) (mF12 : Mm) (H : Heap) (locs : List Loc) (ls : Array Slot), va_P D vwCl (w_Rd C aF aR mR11 ++ w_Told C aF mF12) H → va_D A (w_Rd C aF aR mR11 ++ w_Told C aF mF12) → va_S A s.heap H locs → lv_has ls 1 [(0, .ref (aR 0))] → k55_10 mR11 mF12 = some (oR, oF) → W p l e rX4_readItem s m args below meth c H locs 0 0 Q (F0 m 55 ls []) := by
      intro mR11 mF12 H locs ls hP hD hS hl hf
      rw [ek55_10] at hf
      refine lv_aload_n hx hb dX4_readItem_55 rfl (lv_at hl 0 rfl) ?_
      refine va_ldcS hx hb hown hN.2.2.2.2.2.2.1 dX4_readItem_56 ?_
      obtain ⟨r13, hc, hf⟩ := kv_b1_e hf
      have hs9 : vv_Sub D H A (w_Rd C aF aR mR11) (w_Rd C aF aR mR11) (w_Rd C aF aR mR11 ++ w_Told C aF mF12) := vv_Sub.part (ws := (w_Rd C aF aR mR11 ++ w_Told C aF mF12)) (wr := (w_Told C aF mF12)) [0, 1] [2, 3, 4, 5, 6, 7, 8] [7, 8, 0, 1, 2, 3, 4, 5, 6] hP hD hS hA rfl rfl (by decide) rfl
      refine vv_goi (wn := (w_Rd C aF aR mR11 ++ w_Told C aF mF12)) hK hs9 hS (vv_rV (As := [.ref (C (10 + 2))]) (rest := []) hx hb hml hown hts hK hN hS hs9 (ccX4_isWord l D C H.size aR aF mR11 2 r13 (by decide) hc) (cwV 1 hts gX4_readItem_X4_isWord rfl rfl rfl (by decide +kernel) ⟨(Nat.le_of_ble_eq_true rfl), (Nat.le_of_ble_eq_true rfl)⟩) (va_recv hK hP (ci := 4) (q0 := 0) rfl rfl) rfl hl.1 rfl (Nat.le_of_ble_eq_true rfl) dX4_readItem_58 ⟨Nat.zero_le _, Nat.zero_le _⟩) (fun H locs hP hD hS => ?_)
      refine lv_if_eq (tgt := 73) hx hb dX4_readItem_61 (by decide) (fun hc => ?_) (fun hc => ?_)
      · have hf := kv_t hc hf
        refine lv_aload_n hx hb dX4_readItem_73 rfl (lv_at hl 0 rfl) ?_
        refine va_ldcS hx hb hown hN.2.2.2.2.2.2.2 dX4_readItem_74 ?_
        obtain ⟨r14, hc, hf⟩ := kv_b1_e hf
        have hs9 : vv_Sub D H A (w_Rd C aF aR mR11) (w_Rd C aF aR mR11) (w_Rd C aF aR mR11 ++ w_Told C aF mF12) := vv_Sub.part (ws := (w_Rd C aF aR mR11 ++ w_Told C aF mF12)) (wr := (w_Told C aF mF12)) [0, 1] [2, 3, 4, 5, 6, 7, 8] [7, 8, 0, 1, 2, 3, 4, 5, 6] hP hD hS hA rfl rfl (by decide) rfl
        refine vv_goi (wn := (w_Rd C aF aR mR11 ++ w_Told C aF mF12)) hK hs9 hS (vv_rV (As := [.ref (C (10 + 3))]) (rest := []) hx hb hml hown hts hK hN hS hs9 (ccX4_isWord l D C H.size aR aF mR11 3 r14 (by decide) hc) (cwV 1 hts gX4_readItem_X4_isWord rfl rfl rfl (by decide +kernel) ⟨(Nat.le_of_ble_eq_true rfl), (Nat.le_of_ble_eq_true rfl)⟩) (va_recv hK hP (ci := 4) (q0 := 0) rfl rfl) rfl hl.1 rfl (Nat.le_of_ble_eq_true rfl) dX4_readItem_76 ⟨Nat.zero_le _, Nat.zero_le _⟩) (fun H locs hP hD hS => ?_)
        refine lv_if_eq (tgt := 91) hx hb dX4_readItem_79 (by decide) (fun hc => ?_) (fun hc => ?_)
        · have hf := kv_t hc hf
          refine lv_aload_n hx hb dX4_readItem_91 rfl (lv_at hl 0 rfl) ?_
          refine lv_aload_n hx hb dX4_readItem_92 rfl (lv_at hl 0 rfl) ?_
          refine va_get (D := D) (ci := 4) (v := .int (mR11 0 4)) (C := RX4) (T := TX4) (N := 8) hx hb hts iX4 hown hK hP 0 rfl rfl 4 (by decide) q0 (fun _ h9 => h9) rfl dX4_readItem_93 ?_
          obtain ⟨x15, ex15, hf⟩ := kv_lt_e hf
          refine vv_nami ex15 ?_
          obtain ⟨mR16, emR16, hf⟩ := kv_lt_e hf
          refine va_put (D := D) (ci := 4) (v := .int x15) (ty := .int) (C := RX4) (T := TX4) (N := 8) hx hb hts iX4 tyX4 tyX4_ok nmX4 hown hK hP hD hS 0 rfl rfl 7 (by decide) q1 (fun _ h9 => h9) rfl (tyX4_ok 7 (by decide)) rfl rfl (Nat.le_of_ble_eq_true rfl) dX4_readItem_96 (fun H locs hP hD hS => ?_)
          have hP : va_P D vwCl (w_Rd C aF aR mR16 ++ w_Told C aF mF12) H := by rw [emR16]; exact hP
          have hD : va_D A (w_Rd C aF aR mR16 ++ w_Told C aF mF12) := by rw [emR16]; exact hD
          exact J99_2 _ _ _ _ _ hP hD hS (lv_sub hl [0] rfl) hf
        · have hf := kv_f hc hf
          refine lv_aload_n hx hb dX4_readItem_82 rfl (lv_at hl 0 rfl) ?_
          refine lv_iconst (v := 1) hx hb dX4_readItem_83 (by decide) ?_
          refine lv_iconst (v := (-1)) hx hb dX4_readItem_84 (by decide) ?_
          obtain ⟨mR17, mF18, hc, hf⟩ := kv_b2_e hf
          have hs9 : vv_Sub D H A (w_Rd C aF aR mR11 ++ w_Told C aF mF12) (w_Rd C aF aR mR17 ++ w_Told C aF mF18) (w_Rd C aF aR mR17 ++ w_Told C aF mF18) := vv_Sub.same (w_Rd C aF aR mR17 ++ w_Told C aF mF18) hP hD hS hA
          refine vv_gov (wn := (w_Rd C aF aR mR17 ++ w_Told C aF mF18)) hK hs9 hS (vv_rV (As := [.int 1, .int (-1)]) (rest := []) hx hb hml hown hts hK hN hS hs9 (ccX4_readSteps l D C H.size aR aF mR11 mF12 (1 : Int32) ((-1) : Int32) mR17 mF18 hc) (cwV 2 hts gX4_readItem_X4_readSteps rfl rfl rfl (by decide +kernel) ⟨(Nat.le_of_ble_eq_true rfl), (Nat.le_of_ble_eq_true rfl)⟩) (va_recv hK hP (ci := 4) (q0 := 0) rfl rfl) rfl hl.1 rfl (Nat.le_of_ble_eq_true rfl) dX4_readItem_85 ⟨Nat.zero_le _, Nat.zero_le _⟩) (fun H locs hP hD hS => ?_)
          refine lv_goto (tgt := 99) hx hb dX4_readItem_88 (by decide) ?_
          exact J99_2 _ _ _ _ _ hP hD hS (lv_sub hl [0] rfl) hf
      · have hf := kv_f hc hf
        refine lv_aload_n hx hb dX4_readItem_64 rfl (lv_at hl 0 rfl) ?_
        refine lv_iconst (v := 0) hx hb dX4_readItem_65 (by decide) ?_
        refine lv_iconst (v := 1) hx hb dX4_readItem_66 (by decide) ?_
        obtain ⟨mR19, mF20, hc, hf⟩ := kv_b2_e hf
        have hs9 : vv_Sub D H A (w_Rd C aF aR mR11 ++ w_Told C aF mF12) (w_Rd C aF aR mR19 ++ w_Told C aF mF20) (w_Rd C aF aR mR19 ++ w_Told C aF mF20) := vv_Sub.same (w_Rd C aF aR mR19 ++ w_Told C aF mF20) hP hD hS hA
        refine vv_gov (wn := (w_Rd C aF aR mR19 ++ w_Told C aF mF20)) hK hs9 hS (vv_rV (As := [.int 0, .int 1]) (rest := []) hx hb hml hown hts hK hN hS hs9 (ccX4_readSteps l D C H.size aR aF mR11 mF12 (0 : Int32) (1 : Int32) mR19 mF20 hc) (cwV 2 hts gX4_readItem_X4_readSteps rfl rfl rfl (by decide +kernel) ⟨(Nat.le_of_ble_eq_true rfl), (Nat.le_of_ble_eq_true rfl)⟩) (va_recv hK hP (ci := 4) (q0 := 0) rfl rfl) rfl hl.1 rfl (Nat.le_of_ble_eq_true rfl) dX4_readItem_67 ⟨Nat.zero_le _, Nat.zero_le _⟩) (fun H locs hP hD hS => ?_)
        refine lv_goto (tgt := 99) hx hb dX4_readItem_70 (by decide) ?_
        exact J99_2 _ _ _ _ _ hP hD hS (lv_sub hl [0] rfl) hf
    refine lv_if_eq (tgt := 55) hx hb dX4_readItem_34 (by decide) (fun hc => ?_) (fun hc => ?_)
    · have hf := kv_t hc hf
      exact J55_10 _ _ _ _ _ hP hD hS (lv_sub hl [0] rfl) hf
    · have hf := kv_f hc hf
      refine lv_aload_n hx hb dX4_readItem_37 rfl (lv_at hl 0 rfl) ?_
      refine va_get (D := D) (ci := 4) (v := .ref (aF 0)) (C := RX4) (T := TX4) (N := 8) hx hb hts iX4 hown hK hP 0 rfl rfl 1 (by decide) q2 (fun _ h9 => h9) rfl dX4_readItem_38 ?_
      refine va_get (D := D) (ci := 6) (v := .int (mF8 0 1)) (C := RX6) (T := TX6) (N := 9) hx hb hts iX6 hown hK hP 2 rfl rfl 1 (by decide) q3 (fun _ h9 => h9) rfl dX4_readItem_41 ?_
      refine lv_iconst (v := 5) hx hb dX4_readItem_44 (by decide) ?_
      refine lv_icmp_ge (tgt := 55) hx hb dX4_readItem_45 (by decide) (fun hc => ?_) (fun hc => ?_)
      · have hf := kv_t hc hf
        exact J55_10 _ _ _ _ _ hP hD hS (lv_sub hl [0] rfl) hf
      · have hf := kv_f hc hf
        refine lv_aload_n hx hb dX4_readItem_48 rfl (lv_at hl 0 rfl) ?_
        obtain ⟨mR21, mF22, hc, hf⟩ := kv_b2_e hf
        have hs9 : vv_Sub D H A (w_Rd C aF aR mR7 ++ w_Told C aF mF8) (w_Rd C aF aR mR21 ++ w_Told C aF mF22) (w_Rd C aF aR mR21 ++ w_Told C aF mF22) := vv_Sub.same (w_Rd C aF aR mR21 ++ w_Told C aF mF22) hP hD hS hA
        refine vv_gov (wn := (w_Rd C aF aR mR21 ++ w_Told C aF mF22)) hK hs9 hS (vv_rV (As := []) (rest := []) hx hb hml hown hts hK hN hS hs9 (ccX4_readSpot l D C H.size aR aF mR7 mF8 mR21 mF22 hc) (cwV 0 hts gX4_readItem_X4_readSpot rfl rfl rfl (by decide +kernel) ⟨(Nat.le_of_ble_eq_true rfl), (Nat.le_of_ble_eq_true rfl)⟩) (va_recv hK hP (ci := 4) (q0 := 0) rfl rfl) rfl hl.1 rfl (Nat.le_of_ble_eq_true rfl) dX4_readItem_49 ⟨Nat.zero_le _, Nat.zero_le _⟩) (fun H locs hP hD hS => ?_)
        refine lv_goto (tgt := 99) hx hb dX4_readItem_52 (by decide) ?_
        exact J99_2 _ _ _ _ _ hP hD hS (lv_sub hl [0] rfl) hf
  refine lv_if_eq (tgt := 28) hx hb dX4_readItem_6 (by decide) (fun hc => ?_) (fun hc => ?_)
  · have hf := kv_t hc hf
    exact J28_6 _ _ _ _ _ hP hD hS (lv_sub hl [0] rfl) hf
  · have hf := kv_f hc hf
    refine lv_aload_n hx hb dX4_readItem_9 rfl (lv_at hl 0 rfl) ?_
    refine va_get (D := D) (ci := 4) (v := .ref (aF 0)) (C := RX4) (T := TX4) (N := 8) hx hb hts iX4 hown hK hP 0 rfl rfl 1 (by decide) q2 (fun _ h9 => h9) rfl dX4_readItem_10 ?_
    refine va_get (D := D) (ci := 6) (v := .int (mF 0 0)) (C := RX6) (T := TX6) (N := 9) hx hb hts iX6 hown hK hP 2 rfl rfl 0 (by decide) q4 (fun _ h9 => h9) rfl dX4_readItem_13 ?_
    refine lv_bipush (v := 6) hx hb dX4_readItem_16 (by decide) ?_
    refine lv_icmp_ge (tgt := 28) hx hb dX4_readItem_18 (by decide) (fun hc => ?_) (fun hc => ?_)
    · have hf := kv_t hc hf
      exact J28_6 _ _ _ _ _ hP hD hS (lv_sub hl [0] rfl) hf
    · have hf := kv_f hc hf
      refine lv_aload_n hx hb dX4_readItem_21 rfl (lv_at hl 0 rfl) ?_
      obtain ⟨mR23, mF24, hc, hf⟩ := kv_b2_e hf
      have hs9 : vv_Sub D H A (w_Rd C aF aR mR ++ w_Told C aF mF) (w_Rd C aF aR mR23 ++ w_Told C aF mF24) (w_Rd C aF aR mR23 ++ w_Told C aF mF24) := vv_Sub.same (w_Rd C aF aR mR23 ++ w_Told C aF mF24) hP hD hS hA
      refine vv_gov (wn := (w_Rd C aF aR mR23 ++ w_Told C aF mF24)) hK hs9 hS (vv_rV (As := []) (rest := []) hx hb hml hown hts hK hN hS hs9 (ccX4_readPiece l D C H.size aR aF mR mF mR23 mF24 hc) (cwV 0 hts gX4_readItem_X4_readPiece rfl rfl rfl (by decide +kernel) ⟨(Nat.le_of_ble_eq_true rfl), (Nat.le_of_ble_eq_true rfl)⟩) (va_recv hK hP (ci := 4) (q0 := 0) rfl rfl) rfl hl.1 rfl (Nat.le_of_ble_eq_true rfl) dX4_readItem_22 ⟨Nat.zero_le _, Nat.zero_le _⟩) (fun H locs hP hD hS => ?_)
      refine lv_goto (tgt := 99) hx hb dX4_readItem_25 (by decide) ?_
      exact J99_2 _ _ _ _ _ hP hD hS (lv_sub hl [0] rfl) hf
abbrev rX4_readAll : Room := { frames := 6, cells := 0, slots := 0, locals := 282 }
set_option maxHeartbeats 4000000 in
set_option maxRecDepth 100000 in
theorem ccX4_readAll (l : Launch) (D : va_G) (C : Nat → ClassId) (sz : Nat) (aR : Nat → Nat) (aF : Nat → Nat) (mR : Mm) (mF : Mm) (rr : Int32) (oR : Mm) (oF : Mm) (hf : ffX4_readAll mR mF = some (rr, oR, oF)) : Met l yX4_readAll wsX4_readAll rX4_readAll (va_Pc [.ref (aR 0)] (vv_pre D C (w_Rd C aF aR mR ++ w_Told C aF mF) sz)) (vv_QI D C (w_Rd C aF aR mR ++ w_Told C aF mF) (w_Rd C aF aR oR ++ w_Told C aF oF) sz rr) 0 0 (va_A (w_Rd C aF aR mR ++ w_Told C aF mF) sz) := by
  unfold ffX4_readAll at hf
  refine vv_metI (cc := cX4_readAll) (maxL := 2) (ty := .int) (by decide) rfl (Nat.le_of_ble_eq_true rfl) ?_
  intro p e s m args below meth c A Q H locs ls hx hb hml hown hts hA hK hN hP hD hS hl hret
  have hown : s.vm.findClass RX4 = some m.cls := hown
  have hl : lv_has ls 2 [(0, .ref (aR 0))] := hl
  have hret : ∀ (v0 : Int32) (v1 : Mm) (v2 : Mm) (H : Heap) (locs : List Loc) (ls : Array Slot) (pc : Nat), some (v0, v1, v2) = some (rr, oR, oF) → narrow .int (.int v0) = .int v0 → va_P D vwCl (w_Rd C aF aR v1 ++ w_Told C aF v2) H → va_D A (w_Rd C aF aR v1 ++ w_Told C aF v2) → va_S A s.heap H locs → decode cX4_readAll pc = .ok (.ireturn, 1) → W p l e rX4_readAll s m args below meth c H locs 0 0 Q (F0 m pc ls [.int v0]) := by
    intro v0 v1 v2 H locs ls pc h0 hn h1 h2 h3 h4
    cases h0
    exact hret H locs ls pc hn h1 h2 h3 h4
  have q0 := hts (.fieldLink RX4 18 "ForeRain$Reader" "found" "LForeRain$Told;") (by decide +kernel)
  have q1 := hts (.fieldLink RX4 29 "ForeRain$Reader" "next" "I") (by decide +kernel)
  have q2 := hts (.fieldLink RX4 32 "ForeRain$Reader" "fault" "I") (by decide +kernel)
  have q3 := hts (.fieldLink RX4 38 "ForeRain$Reader" "token" "I") (by decide +kernel)
  have iX4 : ∀ w ∈ u_ws RX4 TX4 8, w ∈ wsX4_readAll := by decide +kernel
  refine lv_aload_n hx hb dX4_readAll_0 rfl (lv_at hl 0 rfl) ?_
  refine va_get (D := D) (ci := 4) (v := .ref (aF 0)) (C := RX4) (T := TX4) (N := 8) hx hb hts iX4 hown hK hP 0 rfl rfl 1 (by decide) q0 (fun _ h9 => h9) rfl dX4_readAll_1 ?_
  obtain ⟨mF1, hc, hf⟩ := kv_b1_e hf
  have hs9 : vv_Sub D H A (w_Told C aF mF) (w_Told C aF mF1) (w_Rd C aF aR mR ++ w_Told C aF mF1) := vv_Sub.part (ws := (w_Rd C aF aR mR ++ w_Told C aF mF)) (wr := (w_Rd C aF aR mR)) [2, 3, 4, 5, 6, 7, 8] [0, 1] [0, 1, 2, 3, 4, 5, 6, 7, 8] hP hD hS hA rfl rfl (by decide) rfl
  refine vv_gov (wn := (w_Rd C aF aR mR ++ w_Told C aF mF1)) hK hs9 hS (vv_rV (As := []) (rest := []) hx hb hml hown hts hK hN hS hs9 (ccX6_forget l D C H.size aF mF mF1 hc) (cwV 0 hts gX4_readAll_X6_forget rfl rfl rfl (by decide +kernel) ⟨(Nat.le_of_ble_eq_true rfl), (Nat.le_of_ble_eq_true rfl)⟩) (va_recv hK hP (ci := 6) (q0 := 2) rfl rfl) rfl hl.1 rfl (Nat.le_of_ble_eq_true rfl) dX4_readAll_4 ⟨Nat.zero_le _, Nat.zero_le _⟩) (fun H locs hP hD hS => ?_)
  refine lv_aload_n hx hb dX4_readAll_7 rfl (lv_at hl 0 rfl) ?_
  refine lv_iconst (v := 0) hx hb dX4_readAll_8 (by decide) ?_
  obtain ⟨mR2, emR2, hf⟩ := kv_lt_e hf
  refine va_put (D := D) (ci := 4) (v := .int 0) (ty := .int) (C := RX4) (T := TX4) (N := 8) hx hb hts iX4 tyX4 tyX4_ok nmX4 hown hK hP hD hS 0 rfl rfl 3 (by decide) q1 (fun _ h9 => h9) rfl (tyX4_ok 3 (by decide)) rfl rfl (Nat.le_of_ble_eq_true rfl) dX4_readAll_9 (fun H locs hP hD hS => ?_)
  have hP : va_P D vwCl (w_Rd C aF aR mR2 ++ w_Told C aF mF1) H := by rw [emR2]; exact hP
  have hD : va_D A (w_Rd C aF aR mR2 ++ w_Told C aF mF1) := by rw [emR2]; exact hD
  refine lv_aload_n hx hb dX4_readAll_12 rfl (lv_at hl 0 rfl) ?_
  refine lv_iconst (v := (-1)) hx hb dX4_readAll_13 (by decide) ?_
  obtain ⟨mR3, emR3, hf⟩ := kv_lt_e hf
  refine va_put (D := D) (ci := 4) (v := .int (-1)) (ty := .int) (C := RX4) (T := TX4) (N := 8) hx hb hts iX4 tyX4 tyX4_ok nmX4 hown hK hP hD hS 0 rfl rfl 7 (by decide) q2 (fun _ h9 => h9) rfl (tyX4_ok 7 (by decide)) rfl rfl (Nat.le_of_ble_eq_true rfl) dX4_readAll_14 (fun H locs hP hD hS => ?_)
  have hP : va_P D vwCl (w_Rd C aF aR mR3 ++ w_Told C aF mF1) H := by rw [emR3]; exact hP
  have hD : va_D A (w_Rd C aF aR mR3 ++ w_Told C aF mF1) := by rw [emR3]; exact hD
  refine lv_iconst (v := 0) hx hb dX4_readAll_17 (by decide) ?_
  refine lv_istore_n (lv' := [(1, .int 0), (0, .ref (aR 0))]) hx hb dX4_readAll_18 rfl hl (by decide) rfl (fun ls hl => ?_)
  refine lv_aload_n hx hb dX4_readAll_19 rfl (lv_at hl 1 rfl) ?_
  obtain ⟨mR4, hc, hf⟩ := kv_b1_e hf
  have hs9 : vv_Sub D H A (w_Rd C aF aR mR3) (w_Rd C aF aR mR4) (w_Rd C aF aR mR4 ++ w_Told C aF mF1) := vv_Sub.part (ws := (w_Rd C aF aR mR3 ++ w_Told C aF mF1)) (wr := (w_Told C aF mF1)) [0, 1] [2, 3, 4, 5, 6, 7, 8] [7, 8, 0, 1, 2, 3, 4, 5, 6] hP hD hS hA rfl rfl (by decide) rfl
  refine vv_gov (wn := (w_Rd C aF aR mR4 ++ w_Told C aF mF1)) hK hs9 hS (vv_rV (As := []) (rest := []) hx hb hml hown hts hK hN hS hs9 (ccX4_scan l D C H.size aR aF mR3 mR4 hc) (cwV 0 hts gX4_readAll_X4_scan rfl rfl rfl (by decide +kernel) ⟨(Nat.le_of_ble_eq_true rfl), (Nat.le_of_ble_eq_true rfl)⟩) (va_recv hK hP (ci := 4) (q0 := 0) rfl rfl) rfl hl.1 rfl (Nat.le_of_ble_eq_true rfl) dX4_readAll_20 ⟨Nat.zero_le _, Nat.zero_le _⟩) (fun H locs hP hD hS => ?_)
  have L23 : ∀ (K23 : Int32 → Mm → Mm → Option (Int32 × Mm × Mm)), (∀ (x5 : Int32) (mR6 : Mm) (mF7 : Mm) (H : Heap) (locs : List Loc) (ls : Array Slot), va_P D vwCl (w_Rd C aF aR mR6 ++ w_Told C aF mF7) H → va_D A (w_Rd C aF aR mR6 ++ w_Told C aF mF7) → va_S A s.heap H locs → lv_has ls 2 [(1, .int x5), (0, .ref (aR 0))] → K23 x5 mR6 mF7 = some (rr, oR, oF) → W p l e rX4_readAll s m args below meth c H locs 0 0 Q (F0 m 59 ls [])) → ∀ (n : Nat) (x5 : Int32) (mR6 : Mm) (mF7 : Mm) (H : Heap) (locs : List Loc) (ls : Array Slot), va_P D vwCl (w_Rd C aF aR mR6 ++ w_Told C aF mF7) H → va_D A (w_Rd C aF aR mR6 ++ w_Told C aF mF7) → va_S A s.heap H locs → lv_has ls 2 [(1, .int x5), (0, .ref (aR 0))] → ffX4_readAll_L23  K23 n x5 mR6 mF7 = some (rr, oR, oF) → W p l e rX4_readAll s m args below meth c H locs 0 0 Q (F0 m 23 ls []) := by
    intro K23 hK9 n
    induction n with
    | zero => intro x5 mR6 mF7 H locs ls hP hD hS hl hf; exact kv_no hf
    | succ n ih =>
      intro x5 mR6 mF7 H locs ls hP hD hS hl hf
      rw [ffX4_readAll_L23_s] at hf
      refine lv_aload_n hx hb dX4_readAll_23 rfl (lv_at hl 1 rfl) ?_
      refine va_get (D := D) (ci := 4) (v := .int (mR6 0 5)) (C := RX4) (T := TX4) (N := 8) hx hb hts iX4 hown hK hP 0 rfl rfl 5 (by decide) q3 (fun _ h9 => h9) rfl dX4_readAll_24 ?_
      refine lv_if_eq (tgt := 59) hx hb dX4_readAll_27 (by decide) (fun hc => ?_) (fun hc => ?_)
      · have hf := kv_t hc hf
        exact hK9 _ _ _ _ _ _ hP hD hS (lv_sub hl [0, 1] rfl) hf
      · have hf := kv_f hc hf
        refine lv_aload_n hx hb dX4_readAll_30 rfl (lv_at hl 1 rfl) ?_
        refine va_get (D := D) (ci := 4) (v := .int (mR6 0 7)) (C := RX4) (T := TX4) (N := 8) hx hb hts iX4 hown hK hP 0 rfl rfl 7 (by decide) q2 (fun _ h9 => h9) rfl dX4_readAll_31 ?_
        refine lv_iconst (v := (-1)) hx hb dX4_readAll_34 (by decide) ?_
        refine lv_icmp_ne (tgt := 59) hx hb dX4_readAll_35 (by decide) (fun hc => ?_) (fun hc => ?_)
        · have hf := kv_f hc hf
          exact hK9 _ _ _ _ _ _ hP hD hS (lv_sub hl [0, 1] rfl) hf
        · have hf := kv_t hc hf
          refine lv_iload_n hx hb dX4_readAll_38 rfl (lv_at hl 0 rfl) ?_
          refine lv_sipush (v := 300) hx hb dX4_readAll_39 (by decide) ?_
          refine lv_icmp_ge (tgt := 59) hx hb dX4_readAll_42 (by decide) (fun hc => ?_) (fun hc => ?_)
          · have hf := kv_t hc hf
            exact hK9 _ _ _ _ _ _ hP hD hS (lv_sub hl [0, 1] rfl) hf
          · have hf := kv_f hc hf
            refine lv_aload_n hx hb dX4_readAll_45 rfl (lv_at hl 1 rfl) ?_
            obtain ⟨mR8, mF9, hc, hf⟩ := kv_b2_e hf
            have hs9 : vv_Sub D H A (w_Rd C aF aR mR6 ++ w_Told C aF mF7) (w_Rd C aF aR mR8 ++ w_Told C aF mF9) (w_Rd C aF aR mR8 ++ w_Told C aF mF9) := vv_Sub.same (w_Rd C aF aR mR8 ++ w_Told C aF mF9) hP hD hS hA
            refine vv_gov (wn := (w_Rd C aF aR mR8 ++ w_Told C aF mF9)) hK hs9 hS (vv_rV (As := []) (rest := []) hx hb hml hown hts hK hN hS hs9 (ccX4_readItem l D C H.size aR aF mR6 mF7 mR8 mF9 hc) (cwV 0 hts gX4_readAll_X4_readItem rfl rfl rfl (by decide +kernel) ⟨(Nat.le_of_ble_eq_true rfl), (Nat.le_of_ble_eq_true rfl)⟩) (va_recv hK hP (ci := 4) (q0 := 0) rfl rfl) rfl hl.1 rfl (Nat.le_of_ble_eq_true rfl) dX4_readAll_46 ⟨Nat.zero_le _, Nat.zero_le _⟩) (fun H locs hP hD hS => ?_)
            obtain ⟨x10, ex10, hf⟩ := kv_lt_e hf
            refine lv_iinc (v := x10) (lv' := [(1, .int x10), (0, .ref (aR 0))]) hx hb dX4_readAll_49 hl (k := 0) rfl (by rw [ex10]; rfl) (by decide) rfl (fun ls hl => ?_)
            refine lv_aload_n hx hb dX4_readAll_52 rfl (lv_at hl 1 rfl) ?_
            obtain ⟨mR11, hc, hf⟩ := kv_b1_e hf
            have hs9 : vv_Sub D H A (w_Rd C aF aR mR8) (w_Rd C aF aR mR11) (w_Rd C aF aR mR11 ++ w_Told C aF mF9) := vv_Sub.part (ws := (w_Rd C aF aR mR8 ++ w_Told C aF mF9)) (wr := (w_Told C aF mF9)) [0, 1] [2, 3, 4, 5, 6, 7, 8] [7, 8, 0, 1, 2, 3, 4, 5, 6] hP hD hS hA rfl rfl (by decide) rfl
            refine vv_gov (wn := (w_Rd C aF aR mR11 ++ w_Told C aF mF9)) hK hs9 hS (vv_rV (As := []) (rest := []) hx hb hml hown hts hK hN hS hs9 (ccX4_scan l D C H.size aR aF mR8 mR11 hc) (cwV 0 hts gX4_readAll_X4_scan rfl rfl rfl (by decide +kernel) ⟨(Nat.le_of_ble_eq_true rfl), (Nat.le_of_ble_eq_true rfl)⟩) (va_recv hK hP (ci := 4) (q0 := 0) rfl rfl) rfl hl.1 rfl (Nat.le_of_ble_eq_true rfl) dX4_readAll_53 ⟨Nat.zero_le _, Nat.zero_le _⟩) (fun H locs hP hD hS => ?_)
            refine lv_goto (tgt := 23) hx hb dX4_readAll_56 (by decide) ?_
            exact ih _ _ _ _ _ _ hP hD hS (lv_sub hl [0, 1] rfl) hf
  refine L23 _ (fun x12 mR13 mF14 H locs ls hP hD hS hl hf => ?_) _ _ _ _ _ _ _ hP hD hS (lv_sub hl [0, 1] rfl) hf
  refine lv_aload_n hx hb dX4_readAll_59 rfl (lv_at hl 1 rfl) ?_
  refine va_get (D := D) (ci := 4) (v := .int (mR13 0 7)) (C := RX4) (T := TX4) (N := 8) hx hb hts iX4 hown hK hP 0 rfl rfl 7 (by decide) q2 (fun _ h9 => h9) rfl dX4_readAll_60 ?_
  refine lv_iconst (v := (-1)) hx hb dX4_readAll_63 (by decide) ?_
  refine lv_icmp_ne (tgt := 71) hx hb dX4_readAll_64 (by decide) (fun hc => ?_) (fun hc => ?_)
  · have hf := kv_f hc hf
    refine lv_bipush (v := (-10)) hx hb dX4_readAll_71 (by decide) ?_
    refine lv_aload_n hx hb dX4_readAll_73 rfl (lv_at hl 1 rfl) ?_
    refine va_get (D := D) (ci := 4) (v := .int (mR13 0 7)) (C := RX4) (T := TX4) (N := 8) hx hb hts iX4 hown hK hP 0 rfl rfl 7 (by decide) q2 (fun _ h9 => h9) rfl dX4_readAll_74 ?_
    refine lv_isub hx hb dX4_readAll_77 ?_
    exact hret _ _ _ _ _ _ _ hf rfl hP hD hS dX4_readAll_78
  · have hf := kv_t hc hf
    refine lv_iload_n hx hb dX4_readAll_67 rfl (lv_at hl 0 rfl) ?_
    refine lv_goto (tgt := 78) hx hb dX4_readAll_68 (by decide) ?_
    exact hret _ _ _ _ _ _ _ hf rfl hP hD hS dX4_readAll_78
abbrev rX4_take : Room := { frames := 0, cells := 0, slots := 0, locals := 0 }
set_option maxHeartbeats 4000000 in
set_option maxRecDepth 100000 in
theorem ccX4_take (l : Launch) (D : va_G) (C : Nat → ClassId) (sz : Nat) (aR : Nat → Nat) (aF : Nat → Nat) (mR : Mm) (p0 : Int64) (p1 : Int32) (rr : Int32) (oR : Mm) (hf : ffX4_take p0 p1 mR = some (rr, oR)) : Met l yX4_take wsX4_take rX4_take (va_Pc [.ref (aR 0), .long p0, .int p1] (vv_pre D C (w_Rd C aF aR mR) sz)) (vv_QI D C (w_Rd C aF aR mR) (w_Rd C aF aR oR) sz rr) 0 0 (va_A (w_Rd C aF aR mR) sz) := by
  unfold ffX4_take at hf
  refine vv_metI (cc := cX4_take) (maxL := 5) (ty := .boolean) (by decide) rfl (Nat.le_of_ble_eq_true rfl) ?_
  intro p e s m args below meth c A Q H locs ls hx hb hml hown hts hA hK hN hP hD hS hl hret
  have hown : s.vm.findClass RX4 = some m.cls := hown
  have hl : lv_has ls 5 [(0, .ref (aR 0)), (1, .long p0), (3, .int p1)] := hl
  have hret : ∀ (v0 : Int32) (v1 : Mm) (H : Heap) (locs : List Loc) (ls : Array Slot) (pc : Nat), some (v0, v1) = some (rr, oR) → narrow .boolean (.int v0) = .int v0 → va_P D vwCl (w_Rd C aF aR v1) H → va_D A (w_Rd C aF aR v1) → va_S A s.heap H locs → decode cX4_take pc = .ok (.ireturn, 1) → W p l e rX4_take s m args below meth c H locs 0 0 Q (F0 m pc ls [.int v0]) := by
    intro v0 v1 H locs ls pc h0 hn h1 h2 h3 h4
    cases h0
    exact hret H locs ls pc hn h1 h2 h3 h4
  have q0 := hts (.fieldLink RX4 22 "ForeRain$Reader" "length" "I") (by decide +kernel)
  have q1 := hts (.fieldLink RX4 9 "ForeRain$Reader" "bytes" "[B") (by decide +kernel)
  have iX4 : ∀ w ∈ u_ws RX4 TX4 8, w ∈ wsX4_take := by decide +kernel
  refine lv_iload_n hx hb dX4_take_0 rfl (lv_at hl 2 rfl) ?_
  refine lv_sipush (v := 300) hx hb dX4_take_1 (by decide) ?_
  refine lv_aload_n hx hb dX4_take_4 rfl (lv_at hl 0 rfl) ?_
  refine va_get (D := D) (ci := 4) (v := .int (mR 0 2)) (C := RX4) (T := TX4) (N := 8) hx hb hts iX4 hown hK hP 0 rfl rfl 2 (by decide) q0 (fun _ h9 => h9) rfl dX4_take_5 ?_
  refine lv_isub hx hb dX4_take_8 ?_
  refine lv_icmp_le (tgt := 14) hx hb dX4_take_9 (by decide) (fun hc => ?_) (fun hc => ?_)
  · have hf := kv_t hc hf
    refine lv_iload_n hx hb dX4_take_14 rfl (lv_at hl 2 rfl) ?_
    refine lv_iconst (v := 1) hx hb dX4_take_15 (by decide) ?_
    refine lv_isub hx hb dX4_take_16 ?_
    obtain ⟨x1, ex1, hf⟩ := kv_lt_e hf
    refine vv_nami ex1 ?_
    refine lv_istore (lv' := [(4, .int x1), (0, .ref (aR 0)), (1, .long p0), (3, .int p1)]) hx hb dX4_take_17 hl (by decide) rfl (fun ls hl => ?_)
    have L19 : ∀ (K19 : Int32 → Mm → Option (Int32 × Mm)), (∀ (x2 : Int32) (mR3 : Mm) (H : Heap) (locs : List Loc) (ls : Array Slot), va_P D vwCl (w_Rd C aF aR mR3) H → va_D A (w_Rd C aF aR mR3) → va_S A s.heap H locs → lv_has ls 5 [(4, .int x2), (0, .ref (aR 0)), (1, .long p0)] → K19 x2 mR3 = some (rr, oR) → W p l e rX4_take s m args below meth c H locs 0 0 Q (F0 m 58 ls [])) → ∀ (n : Nat) (x2 : Int32) (mR3 : Mm) (H : Heap) (locs : List Loc) (ls : Array Slot), va_P D vwCl (w_Rd C aF aR mR3) H → va_D A (w_Rd C aF aR mR3) → va_S A s.heap H locs → lv_has ls 5 [(4, .int x2), (0, .ref (aR 0)), (1, .long p0)] → ffX4_take_L19 p0 K19 n x2 mR3 = some (rr, oR) → W p l e rX4_take s m args below meth c H locs 0 0 Q (F0 m 19 ls []) := by
      intro K19 hK9 n
      induction n with
      | zero => intro x2 mR3 H locs ls hP hD hS hl hf; exact kv_no hf
      | succ n ih =>
        intro x2 mR3 H locs ls hP hD hS hl hf
        rw [ffX4_take_L19_s] at hf
        refine lv_iload hx hb dX4_take_19 (lv_at hl 0 rfl) ?_
        refine lv_if_lt (tgt := 58) hx hb dX4_take_21 (by decide) (fun hc => ?_) (fun hc => ?_)
        · have hf := kv_t hc hf
          exact hK9 _ _ _ _ _ hP hD hS (lv_sub hl [0, 1, 2] rfl) hf
        · have hf := kv_f hc hf
          refine lv_aload_n hx hb dX4_take_24 rfl (lv_at hl 1 rfl) ?_
          refine va_get (D := D) (ci := 4) (v := .ref (aR 1)) (C := RX4) (T := TX4) (N := 8) hx hb hts iX4 hown hK hP 0 rfl rfl 0 (by decide) q1 (fun _ h9 => h9) rfl dX4_take_25 ?_
          refine lv_aload_n hx hb dX4_take_28 rfl (lv_at hl 1 rfl) ?_
          refine va_get (D := D) (ci := 4) (v := .int (mR3 0 2)) (C := RX4) (T := TX4) (N := 8) hx hb hts iX4 hown hK hP 0 rfl rfl 2 (by decide) q0 (fun _ h9 => h9) rfl dX4_take_29 ?_
          refine lv_lload_n hx hb dX4_take_32 rfl (lv_at hl 2 rfl) ?_
          refine lv_bipush (v := 8) hx hb dX4_take_33 (by decide) ?_
          refine lv_iload hx hb dX4_take_35 (lv_at hl 0 rfl) ?_
          refine lv_imul hx hb dX4_take_37 ?_
          refine lv_lushr hx hb dX4_take_38 rfl ?_
          refine lv_l2i hx hb dX4_take_39 rfl ?_
          refine lv_i2b hx hb dX4_take_40 rfl ?_
          obtain ⟨x4, ex4, hf⟩ := kv_lt_e hf
          refine vv_nami ex4 ?_
          obtain ⟨h9, hf⟩ := kv_ix_e hf
          obtain ⟨mR5, emR5, hf⟩ := kv_lt_e hf
          refine va_bast hx hb hK hP hD hS 1 0 rfl rfl h9 dX4_take_41 (fun H locs hP hD hS => ?_)
          have hP : va_P D vwCl (w_Rd C aF aR mR5) H := by rw [emR5]; exact hP
          have hD : va_D A (w_Rd C aF aR mR5) := by rw [emR5]; exact hD
          refine lv_aload_n hx hb dX4_take_42 rfl (lv_at hl 1 rfl) ?_
          refine lv_dup hx hb dX4_take_43 rfl ?_
          refine va_get (D := D) (ci := 4) (v := .int (mR5 0 2)) (C := RX4) (T := TX4) (N := 8) hx hb hts iX4 hown hK hP 0 rfl rfl 2 (by decide) q0 (fun _ h9 => h9) rfl dX4_take_44 ?_
          refine lv_iconst (v := 1) hx hb dX4_take_47 (by decide) ?_
          refine lv_iadd hx hb dX4_take_48 ?_
          obtain ⟨x6, ex6, hf⟩ := kv_lt_e hf
          refine vv_nami ex6 ?_
          obtain ⟨mR7, emR7, hf⟩ := kv_lt_e hf
          refine va_put (D := D) (ci := 4) (v := .int x6) (ty := .int) (C := RX4) (T := TX4) (N := 8) hx hb hts iX4 tyX4 tyX4_ok nmX4 hown hK hP hD hS 0 rfl rfl 2 (by decide) q0 (fun _ h9 => h9) rfl (tyX4_ok 2 (by decide)) rfl rfl (Nat.le_of_ble_eq_true rfl) dX4_take_49 (fun H locs hP hD hS => ?_)
          have hP : va_P D vwCl (w_Rd C aF aR mR7) H := by rw [emR7]; exact hP
          have hD : va_D A (w_Rd C aF aR mR7) := by rw [emR7]; exact hD
          obtain ⟨x8, ex8, hf⟩ := kv_lt_e hf
          refine lv_iinc (v := x8) (lv' := [(4, .int x8), (0, .ref (aR 0)), (1, .long p0)]) hx hb dX4_take_52 hl (k := 0) rfl (by rw [ex8]; rfl) (by decide) rfl (fun ls hl => ?_)
          refine lv_goto (tgt := 19) hx hb dX4_take_55 (by decide) ?_
          exact ih _ _ _ _ _ hP hD hS (lv_sub hl [0, 1, 2] rfl) hf
    refine L19 _ (fun x9 mR10 H locs ls hP hD hS hl hf => ?_) _ _ _ _ _ _ hP hD hS (lv_sub hl [0, 1, 2] rfl) hf
    refine lv_iconst (v := 1) hx hb dX4_take_58 (by decide) ?_
    exact hret _ _ _ _ _ _ hf rfl hP hD hS dX4_take_59
  · have hf := kv_f hc hf
    refine lv_iconst (v := 0) hx hb dX4_take_12 (by decide) ?_
    exact hret _ _ _ _ _ _ hf rfl hP hD hS dX4_take_13
