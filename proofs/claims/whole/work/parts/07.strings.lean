/-! THE JDK's String members over the four constants -/
abbrev rJ_z : Room := { frames := 0, cells := 0, slots := 0, locals := 0 }
abbrev rJ_1 : Room := { frames := 1, cells := 0, slots := 0, locals := 60 }
abbrev rJ_2 : Room := { frames := 2, cells := 0, slots := 0, locals := 120 }
abbrev rJ_3 : Room := { frames := 3, cells := 0, slots := 0, locals := 180 }
set_option maxHeartbeats 4000000 in
theorem ccJ_coder (l : Launch) (D : va_G) (C : Nat → ClassId) (sz i : Nat) (hi : i < 4) : Met l yJ0_coder_7d493 wsJ0_coder_7d493 rJ_z (va_Pc [.ref (C (10 + i))] (vv_pre D C ([] : va_W) sz)) (vv_QI D C ([] : va_W) ([] : va_W) sz 0) 0 0 (va_A ([] : va_W) sz) := by
  refine vv_metI (cc := cJ0_coder_7d493) (maxL := 1) (ty := .byte) (by decide) rfl (Nat.le_of_ble_eq_true rfl) ?_
  intro p e s m args below meth c A Q H locs ls hx hb hml hown hts hA hK hN hP hD hS hl hret
  have hown : s.vm.findClass RJ0 = some m.cls := hown
  have hl : lv_has ls 1 [(0, .ref (C (10 + i)))] := hl
  refine va_gets hx hb hN.2.2.1 hS hown (hts (.fieldLink RJ0 38 "java/lang/String" "COMPACT_STRINGS" "Z") (by decide +kernel)) (fun _ h9 => h9) dJ0_coder_7d493_0 ?_
  refine lv_if_eq (tgt := 13) hx hb dJ0_coder_7d493_3 (by decide) (fun hc => absurd hc (by decide)) (fun hc => ?_)
  refine lv_aload_n hx hb dJ0_coder_7d493_6 rfl (lv_at hl 0 rfl) ?_
  refine vk_getf hx hb ((hN.2.1.1 i hi).2.1) hS hown (hts (.fieldLink RJ0 15 "java/lang/String" "coder" "B") (by decide +kernel)) (fun _ h9 => h9) dJ0_coder_7d493_7 ?_
  refine lv_goto (tgt := 14) hx hb dJ0_coder_7d493_10 (by decide) ?_
  exact hret _ _ _ _ rfl hP hD hS dJ0_coder_7d493_14
set_option maxHeartbeats 4000000 in
theorem ccJ_isLatin1 (l : Launch) (D : va_G) (C : Nat → ClassId) (sz i : Nat) (hi : i < 4) : Met l yJ0_isLatin1_aae02 wsJ0_isLatin1_aae02 rJ_z (va_Pc [.ref (C (10 + i))] (vv_pre D C ([] : va_W) sz)) (vv_QI D C ([] : va_W) ([] : va_W) sz 1) 0 0 (va_A ([] : va_W) sz) := by
  refine vv_metI (cc := cJ0_isLatin1_aae02) (maxL := 1) (ty := .boolean) (by decide) rfl (Nat.le_of_ble_eq_true rfl) ?_
  intro p e s m args below meth c A Q H locs ls hx hb hml hown hts hA hK hN hP hD hS hl hret
  have hown : s.vm.findClass RJ0 = some m.cls := hown
  have hl : lv_has ls 1 [(0, .ref (C (10 + i)))] := hl
  refine va_gets hx hb hN.2.2.1 hS hown (hts (.fieldLink RJ0 38 "java/lang/String" "COMPACT_STRINGS" "Z") (by decide +kernel)) (fun _ h9 => h9) dJ0_isLatin1_aae02_0 ?_
  refine lv_if_eq (tgt := 17) hx hb dJ0_isLatin1_aae02_3 (by decide) (fun hc => absurd hc (by decide)) (fun hc => ?_)
  refine lv_aload_n hx hb dJ0_isLatin1_aae02_6 rfl (lv_at hl 0 rfl) ?_
  refine vk_getf hx hb ((hN.2.1.1 i hi).2.1) hS hown (hts (.fieldLink RJ0 15 "java/lang/String" "coder" "B") (by decide +kernel)) (fun _ h9 => h9) dJ0_isLatin1_aae02_7 ?_
  refine lv_if_ne (tgt := 17) hx hb dJ0_isLatin1_aae02_10 (by decide) (fun hc => absurd rfl hc) (fun hc => ?_)
  refine lv_iconst (v := 1) hx hb dJ0_isLatin1_aae02_13 (by decide) ?_
  refine lv_goto (tgt := 18) hx hb dJ0_isLatin1_aae02_14 (by decide) ?_
  exact hret _ _ _ _ rfl hP hD hS dJ0_isLatin1_aae02_18
set_option maxHeartbeats 4000000 in
theorem ccJ_length (l : Launch) (D : va_G) (C : Nat → ClassId) (sz i : Nat) (hi : i < 4) : Met l yJ0_length_8abf5 wsJ0_length_8abf5 rJ_1 (va_Pc [.ref (C (10 + i))] (vv_pre D C ([] : va_W) sz)) (vv_QI D C ([] : va_W) ([] : va_W) sz (js_n i)) 0 0 (va_A ([] : va_W) sz) := by
  refine vv_metI (cc := cJ0_length_8abf5) (maxL := 1) (ty := .int) (by decide) rfl (Nat.le_of_ble_eq_true rfl) ?_
  intro p e s m args below meth c A Q H locs ls hx hb hml hown hts hA hK hN hP hD hS hl hret
  have hown : s.vm.findClass RJ0 = some m.cls := hown
  have hl : lv_has ls 1 [(0, .ref (C (10 + i)))] := hl
  refine lv_aload_n hx hb dJ0_length_8abf5_0 rfl (lv_at hl 0 rfl) ?_
  refine vk_getf hx hb ((hN.2.1.1 i hi).2.2.1) hS hown (hts (.fieldLink RJ0 9 "java/lang/String" "value" "[B") (by decide +kernel)) (fun _ h9 => h9) dJ0_length_8abf5_1 ?_
  refine va_tlen hx hb ((hN.2.1.1 i hi).2.2.2) hS rfl dJ0_length_8abf5_4 ?_
  refine lv_aload_n hx hb dJ0_length_8abf5_5 rfl (lv_at hl 0 rfl) ?_
  have hs9 : vv_Sub D H A ([] : va_W) ([] : va_W) ([] : va_W) := vv_Sub.none hP hD hS hA
  refine vv_goi (wn := ([] : va_W)) hK hs9 hS (vv_rV (As := []) (rest := [.int (Int32.ofNat (js_len.getD i 0))]) hx hb hml hown hts hK hN hS hs9 (ccJ_coder l D C H.size i hi) (cwV 0 hts gJ0_length_8abf5_J0_coder_7d493 rfl rfl rfl (by decide +kernel) ⟨Nat.le_of_ble_eq_true rfl, Nat.le_of_ble_eq_true rfl⟩) (vk_recv (adK := fun i => C (10 + i)) (i := i) hN.2.1 hi hS) rfl hl.1 rfl (Nat.le_of_ble_eq_true rfl) dJ0_length_8abf5_6 ⟨Nat.zero_le _, Nat.zero_le _⟩) (fun H locs hP hD hS => ?_)
  refine lv_ishr hx hb dJ0_length_8abf5_9 ?_
  exact hret _ _ _ _ rfl hP hD hS dJ0_length_8abf5_10
set_option maxHeartbeats 4000000 in
theorem ccJ_pre (l : Launch) (D : va_G) (C : Nat → ClassId) (sz : Nat) (k n : Int32) (v : Value) (hv : v = .null ∨ ∃ q, v = .ref q) (h1 : ¬ k < 0) (h2 : k < n) : Met l yJ3_checkIndex_8e157 wsJ3_checkIndex_8e157 rJ_z (va_Pc [.int k, .int n, v] (vv_pre D C ([] : va_W) sz)) (vv_QI D C ([] : va_W) ([] : va_W) sz k) 0 0 (va_A ([] : va_W) sz) := by
  refine vv_metI (cc := cJ3_checkIndex_8e157) (maxL := 3) (ty := .int) (by decide) rfl (by rcases hv with rfl | ⟨q, rfl⟩ <;> exact Nat.le_of_ble_eq_true rfl) ?_
  intro p e s m args below meth c A Q H locs ls hx hb hml hown hts hA hK hN hP hD hS hl hret
  have hl : lv_has ls 3 [(0, .int k), (1, .int n), (2, v)] := hl
  refine lv_iload_n hx hb dJ3_checkIndex_8e157_0 rfl (lv_at hl 0 rfl) ?_
  refine lv_if_lt (tgt := 9) hx hb dJ3_checkIndex_8e157_1 (by decide) (fun hc => absurd hc h1) (fun hc => ?_)
  refine lv_iload_n hx hb dJ3_checkIndex_8e157_4 rfl (lv_at hl 0 rfl) ?_
  refine lv_iload_n hx hb dJ3_checkIndex_8e157_5 rfl (lv_at hl 1 rfl) ?_
  refine lv_icmp_lt (tgt := 16) hx hb dJ3_checkIndex_8e157_6 (by decide) (fun hc => ?_) (fun hc => absurd h2 hc)
  refine lv_iload_n hx hb dJ3_checkIndex_8e157_16 rfl (lv_at hl 0 rfl) ?_
  exact hret _ _ _ _ rfl hP hD hS dJ3_checkIndex_8e157_17
set_option maxHeartbeats 4000000 in
theorem ccJ_check (l : Launch) (D : va_G) (C : Nat → ClassId) (sz : Nat) (k n : Int32) (h1 : ¬ k < 0) (h2 : k < n) : Met l yJ0_checkIndex_df160 wsJ0_checkIndex_df160 rJ_1 (va_Pc [.int k, .int n] (vv_pre D C ([] : va_W) sz)) (vv_QV D C ([] : va_W) ([] : va_W) sz) 0 0 (va_A ([] : va_W) sz) := by
  refine vv_metV (cc := cJ0_checkIndex_df160) (maxL := 2) (by decide) rfl (Nat.le_of_ble_eq_true rfl) ?_
  intro p e s m args below meth c A Q H locs ls hx hb hml hown hts hA hK hN hP hD hS hl hret
  have hown : s.vm.findClass RJ0 = some m.cls := hown
  have hl : lv_has ls 2 [(0, .int k), (1, .int n)] := hl
  have hZ : ∃ v : Value, (v = .null ∨ ∃ q, v = .ref q) ∧ va_Z RJ3 "SIOOBE_FORMATTER" "Ljava/util/function/BiFunction;" v A s s.heap := by
    rcases hN.2.2.2.1 with h | ⟨t, h⟩
    · exact ⟨_, Or.inl rfl, h⟩
    · exact ⟨_, Or.inr ⟨t, rfl⟩, h⟩
  obtain ⟨v, hv, hZ⟩ := hZ
  refine lv_iload_n hx hb dJ0_checkIndex_df160_0 rfl (lv_at hl 0 rfl) ?_
  refine lv_iload_n hx hb dJ0_checkIndex_df160_1 rfl (lv_at hl 1 rfl) ?_
  refine va_gets hx hb hZ hS hown (hts (.fieldLink RJ0 1053 "jdk/internal/util/Preconditions" "SIOOBE_FORMATTER" "Ljava/util/function/BiFunction;") (by decide +kernel)) (fun _ h9 => h9) dJ0_checkIndex_df160_2 ?_
  have hs9 : vv_Sub D H A ([] : va_W) ([] : va_W) ([] : va_W) := vv_Sub.none hP hD hS hA
  refine vv_goi (wn := ([] : va_W)) hK hs9 hS (vv_rS (As := [.int k, .int n, v]) (rest := []) hx hb hml hown hts hK hN hS hs9 (ccJ_pre l D C H.size k n v hv h1 h2) (va_cwS 3 hts gJ0_checkIndex_df160_J3_checkIndex_8e157 rfl rfl rfl (by decide +kernel) ⟨Nat.le_of_ble_eq_true rfl, Nat.le_of_ble_eq_true rfl⟩) rfl hl.1 rfl (Nat.le_of_ble_eq_true rfl) dJ0_checkIndex_df160_5 ⟨Nat.zero_le _, Nat.zero_le _⟩) (fun H locs hP hD hS => ?_)
  refine lv_pop hx hb dJ0_checkIndex_df160_8 rfl ?_
  exact hret _ _ _ _ hP hD hS dJ0_checkIndex_df160_9
theorem js_in {k : Int32} {n : Nat} (hn : n < 2 ^ 31) (h : vp_in k n) : ¬ k < 0 ∧ k < Int32.ofNat n := by
  obtain ⟨j, hj, rfl⟩ := vp_in_of h hn
  exact ⟨nI_pos (by omega), nI_lt hj hn⟩
theorem js_small (i : Nat) (hi : i < 4) : js_len.getD i 0 < 2 ^ 31 := by
  match i, hi with
  | 0, _ => decide
  | 1, _ => decide
  | 2, _ => decide
  | 3, _ => decide
set_option maxHeartbeats 4000000 in
theorem ccJ_l1charAt (l : Launch) (D : va_G) (C : Nat → ClassId) (sz i : Nat) (k : Int32) (hi : i < 4) (hk : vp_in k (js_len.getD i 0)) : Met l yJ1_charAt_3b067 wsJ1_charAt_3b067 rJ_2 (va_Pc [.ref (C (20 + i)), .int k] (vv_pre D C ([] : va_W) sz)) (vv_QI D C ([] : va_W) ([] : va_W) sz (js_ch i k.toNatClampNeg)) 0 0 (va_A ([] : va_W) sz) := by
  refine vv_metI (cc := cJ1_charAt_3b067) (maxL := 2) (ty := .char) (by decide) rfl (Nat.le_of_ble_eq_true rfl) ?_
  intro p e s m args below meth c A Q H locs ls hx hb hml hown hts hA hK hN hP hD hS hl hret
  have hown : s.vm.findClass RJ1 = some m.cls := hown
  have hl : lv_has ls 2 [(0, .ref (C (20 + i))), (1, .int k)] := hl
  refine lv_iload_n hx hb dJ1_charAt_3b067_0 rfl (lv_at hl 1 rfl) ?_
  refine lv_aload_n hx hb dJ1_charAt_3b067_1 rfl (lv_at hl 0 rfl) ?_
  refine va_tlen hx hb ((hN.2.1.1 i hi).2.2.2) hS rfl dJ1_charAt_3b067_2 ?_
  have hs9 : vv_Sub D H A ([] : va_W) ([] : va_W) ([] : va_W) := vv_Sub.none hP hD hS hA
  obtain ⟨h1, h2⟩ := js_in (js_small i hi) hk
  refine vv_gov (wn := ([] : va_W)) hK hs9 hS (vv_rS (As := [.int k, .int (Int32.ofNat (js_len.getD i 0))]) (rest := []) hx hb hml hown hts hK hN hS hs9 (ccJ_check l D C H.size k _ h1 h2) (va_cwS 2 hts gJ1_charAt_3b067_J0_checkIndex_df160 rfl rfl rfl (by decide +kernel) ⟨Nat.le_of_ble_eq_true rfl, Nat.le_of_ble_eq_true rfl⟩) rfl hl.1 rfl (Nat.le_of_ble_eq_true rfl) dJ1_charAt_3b067_3 ⟨Nat.zero_le _, Nat.zero_le _⟩) (fun H locs hP hD hS => ?_)
  refine lv_aload_n hx hb dJ1_charAt_3b067_6 rfl (lv_at hl 0 rfl) ?_
  refine lv_iload_n hx hb dJ1_charAt_3b067_7 rfl (lv_at hl 1 rfl) ?_
  refine va_tb hx hb ((hN.2.1.1 i hi).2.2.2) hS hk rfl dJ1_charAt_3b067_8 ?_
  refine lv_sipush (v := 255) hx hb dJ1_charAt_3b067_9 (by decide) ?_
  refine lv_iand hx hb dJ1_charAt_3b067_12 ?_
  refine lv_i2c hx hb dJ1_charAt_3b067_13 rfl ?_
  exact hret _ _ _ _ (pk_nc _) hP hD hS dJ1_charAt_3b067_14
set_option maxHeartbeats 4000000 in
theorem ccJ_charAt (l : Launch) (D : va_G) (C : Nat → ClassId) (sz i : Nat) (k : Int32) (hi : i < 4) (hk : vp_in k (js_len.getD i 0)) : Met l yJ0_charAt_5068e wsJ0_charAt_5068e rJ_3 (va_Pc [.ref (C (10 + i)), .int k] (vv_pre D C ([] : va_W) sz)) (vv_QI D C ([] : va_W) ([] : va_W) sz (js_ch i k.toNatClampNeg)) 0 0 (va_A ([] : va_W) sz) := by
  refine vv_metI (cc := cJ0_charAt_5068e) (maxL := 2) (ty := .char) (by decide) rfl (Nat.le_of_ble_eq_true rfl) ?_
  intro p e s m args below meth c A Q H locs ls hx hb hml hown hts hA hK hN hP hD hS hl hret
  have hown : s.vm.findClass RJ0 = some m.cls := hown
  have hl : lv_has ls 2 [(0, .ref (C (10 + i))), (1, .int k)] := hl
  refine lv_aload_n hx hb dJ0_charAt_5068e_0 rfl (lv_at hl 0 rfl) ?_
  have hs9 : vv_Sub D H A ([] : va_W) ([] : va_W) ([] : va_W) := vv_Sub.none hP hD hS hA
  refine vv_goi (wn := ([] : va_W)) hK hs9 hS (vv_rV (As := []) (rest := []) hx hb hml hown hts hK hN hS hs9 (ccJ_isLatin1 l D C H.size i hi) (cwV 0 hts gJ0_charAt_5068e_J0_isLatin1_aae02 rfl rfl rfl (by decide +kernel) ⟨Nat.le_of_ble_eq_true rfl, Nat.le_of_ble_eq_true rfl⟩) (vk_recv (adK := fun i => C (10 + i)) (i := i) hN.2.1 hi hS) rfl hl.1 rfl (Nat.le_of_ble_eq_true rfl) dJ0_charAt_5068e_1 ⟨Nat.zero_le _, Nat.zero_le _⟩) (fun H locs hP hD hS => ?_)
  refine lv_if_eq (tgt := 16) hx hb dJ0_charAt_5068e_4 (by decide) (fun hc => absurd hc (by decide)) (fun hc => ?_)
  refine lv_aload_n hx hb dJ0_charAt_5068e_7 rfl (lv_at hl 0 rfl) ?_
  refine vk_getf hx hb ((hN.2.1.1 i hi).2.2.1) hS hown (hts (.fieldLink RJ0 9 "java/lang/String" "value" "[B") (by decide +kernel)) (fun _ h9 => h9) dJ0_charAt_5068e_8 ?_
  refine lv_iload_n hx hb dJ0_charAt_5068e_11 rfl (lv_at hl 1 rfl) ?_
  have hs9 : vv_Sub D H A ([] : va_W) ([] : va_W) ([] : va_W) := vv_Sub.none hP hD hS hA
  refine vv_goi (wn := ([] : va_W)) hK hs9 hS (vv_rS (As := [.ref (C (20 + i)), .int k]) (rest := []) hx hb hml hown hts hK hN hS hs9 (ccJ_l1charAt l D C H.size i k hi hk) (va_cwS 2 hts gJ0_charAt_5068e_J1_charAt_3b067 rfl rfl rfl (by decide +kernel) ⟨Nat.le_of_ble_eq_true rfl, Nat.le_of_ble_eq_true rfl⟩) rfl hl.1 rfl (Nat.le_of_ble_eq_true rfl) dJ0_charAt_5068e_12 ⟨Nat.zero_le _, Nat.zero_le _⟩) (fun H locs hP hD hS => ?_)
  exact hret _ _ _ _ (pk_nc _) hP hD hS dJ0_charAt_5068e_15
