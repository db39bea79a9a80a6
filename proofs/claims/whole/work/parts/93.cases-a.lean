/-! THE LAW'S CASES -/
abbrev w_L (C : Nat → ClassId) (a : Nat → Nat → Nat) (aZ : Nat → Nat) (mX mR mF mT mP mA mI mJ mH mK mD : Mm) (mG : Int64) (mZ : Mm) (mY : Int64) : va_W := w_All C a mX mR mF mT mP mA mI mJ mH mK mD mG ++ w_MD C aZ mZ mY
theorem law_subM {D : va_G} {H0 H : Heap} {A : Nat → Prop} {locs : List Loc} {C : Nat → ClassId} {a : Nat → Nat → Nat} {aZ : Nat → Nat} {mX mR mF mT mP mA mI mJ mH mK mD : Mm} {mG : Int64} {mZ : Mm} {mY : Int64} (oZ : Mm) (oY : Int64) (hP : va_P D vwCl (w_L C a aZ mX mR mF mT mP mA mI mJ mH mK mD mG mZ mY) H) (hD : va_D A (w_L C a aZ mX mR mF mT mP mA mI mJ mH mK mD mG mZ mY)) (hS : va_S A H0 H locs) (hA : ∀ q : Nat, H0.size ≤ q → A q) : vv_Sub D H A (w_MD C aZ mZ mY) (w_MD C aZ oZ oY) (w_L C a aZ mX mR mF mT mP mA mI mJ mH mK mD mG oZ oY) := vv_Sub.part (ws := w_L C a aZ mX mR mF mT mP mA mI mJ mH mK mD mG mZ mY) (wr := w_All C a mX mR mF mT mP mA mI mJ mH mK mD mG) [60, 61, 62, 63, 64, 65, 66, 67, 68, 69, 70, 71, 72, 73, 74, 75, 76, 77, 78] [0, 1, 2, 3, 4, 5, 6, 7, 8, 9, 10, 11, 12, 13, 14, 15, 16, 17, 18, 19, 20, 21, 22, 23, 24, 25, 26, 27, 28, 29, 30, 31, 32, 33, 34, 35, 36, 37, 38, 39, 40, 41, 42, 43, 44, 45, 46, 47, 48, 49, 50, 51, 52, 53, 54, 55, 56, 57, 58, 59] [0, 1, 2, 3, 4, 5, 6, 7, 8, 9, 10, 11, 12, 13, 14, 15, 16, 17, 18, 19, 20, 21, 22, 23, 24, 25, 26, 27, 28, 29, 30, 31, 32, 33, 34, 35, 36, 37, 38, 39, 40, 41, 42, 43, 44, 45, 46, 47, 48, 49, 50, 51, 52, 53, 54, 55, 56, 57, 58, 59, 60, 61, 62, 63, 64, 65, 66, 67, 68, 69, 70, 71, 72, 73, 74, 75, 76, 77, 78] hP hD hS hA rfl rfl (by decide) rfl
theorem lg_self (x : Int64) : lg_cmp x x = 0 := by
  unfold lg_cmp
  simp
theorem wsL_c13 : Cond.constantLong RL 13 4294967295 ∈ wsL_law := List.mem_of_getElem? (i := 6) (by decide +kernel)
set_option maxHeartbeats 4000000 in
set_option maxRecDepth 100000 in
theorem lc_type {p : Program} {l : Launch} {e : Env} {s : State} {m : MethodId} {below : List Frame} {meth : Method} {c : Code} {D : va_G} {C : Nat → ClassId} {A : Nat → Prop} {a : Nat → Nat → Nat} {aZ : Nat → Nat} {b L : Nat} {xs : Nat → Int32} {Q : State → Prop} {ls : Array Slot} {i : Int32} {mX mR mF mT mP mA mI mJ mH mK mD : Mm} {mG : Int64} {mZ : Mm} {mY : Int64} {H : Heap} {locs : List Loc} (hx : p.tables.exec = Jvm.exec) (hb : c.code = cL_law) (hml : c.maxLocals = 4) (hown : s.vm.findClass RL = some m.cls) (hts : ∀ w ∈ wsL_law, w.before #[Value.ref b] s = true) (hX : va_X b L xs s s.heap) (hbl : b < s.heap.size) (hbA : ¬ A b) (hA : ∀ q : Nat, s.heap.size ≤ q → A q) (hK : va_K D vwCl (tyL C) s) (hN : vv_NE C A s) (h1 : vp_in (i + 1) L) (h2 : vp_in (i + 2) L) (h3 : vp_in (i + 3) L) (h4 : vp_in (i + 4) L) (hl : lv_has ls 4 [(0, .ref b), (1, .ref (a 0 0)), (2, .ref (aZ 0)), (3, .int i)]) (hR : Rl mX mR mT mP mI mJ mD mG mZ mY) (hP : va_P D vwCl (w_L C a aZ mX mR mF mT mP mA mI mJ mH mK mD mG mZ mY) H) (hD : va_D A (w_L C a aZ mX mR mF mT mP mA mI mJ mH mK mD mG mZ mY)) (hS : va_S A s.heap H locs)
    (kk : ∀ (mX mR mF mT mP mA mI mJ mH mK mD : Mm) (mG : Int64) (mZ : Mm) (mY : Int64) (H : Heap) (locs : List Loc), Rl mX mR mT mP mI mJ mD mG mZ mY → va_P D vwCl (w_L C a aZ mX mR mF mT mP mA mI mJ mH mK mD mG mZ mY) H → va_D A (w_L C a aZ mX mR mF mT mP mA mI mJ mH mK mD mG mZ mY) → va_S A s.heap H locs → W p l e room_1 s m #[Value.ref b] below meth c H locs 100 2000 Q (F0 m 953 ls [])) : W p l e room_1 s m #[Value.ref b] below meth c H locs 100 2000 Q (F0 m 164 ls []) := by
  obtain ⟨r, oR, oZ, e1, e2, hR⟩ := st_type hR  ((xs (i + 1).toNatClampNeg).toInt64 <<< ((32 : Int32).toInt64 &&& 63) ||| ((xs (i + 2).toNatClampNeg).toInt64 &&& 4294967295)) (xs (i + 3).toNatClampNeg)
  have qL := hts (.constantLong RL 13 4294967295) wsL_c13
  refine lv_aload_n hx hb dL_law_164 rfl (lv_at hl 1 rfl) ?_
  refine lv_aload_n hx hb dL_law_165 rfl (lv_at hl 0 rfl) ?_
  refine lv_iload_n hx hb dL_law_166 rfl (lv_at hl 3 rfl) ?_
  refine lv_iconst (v := 1) hx hb dL_law_167 (by decide) ?_
  refine lv_iadd hx hb dL_law_168 ?_
  refine va_sld hx hb hX hbl hbA hS h1 dL_law_169 ?_
  refine lv_i2l hx hb dL_law_170 rfl ?_
  refine lv_bipush (v := 32) hx hb dL_law_171 (by decide) ?_
  refine lv_lshl hx hb dL_law_173 rfl ?_
  refine lv_aload_n hx hb dL_law_174 rfl (lv_at hl 0 rfl) ?_
  refine lv_iload_n hx hb dL_law_175 rfl (lv_at hl 3 rfl) ?_
  refine lv_iconst (v := 2) hx hb dL_law_176 (by decide) ?_
  refine lv_iadd hx hb dL_law_177 ?_
  refine va_sld hx hb hX hbl hbA hS h2 dL_law_178 ?_
  refine lv_i2l hx hb dL_law_179 rfl ?_
  refine lv_ldc2 (v := 4294967295) hx hb hown qL dL_law_180 ?_
  refine lv_land hx hb dL_law_183 ?_
  refine lv_lor hx hb dL_law_184 ?_
  refine lv_aload_n hx hb dL_law_185 rfl (lv_at hl 0 rfl) ?_
  refine lv_iload_n hx hb dL_law_186 rfl (lv_at hl 3 rfl) ?_
  refine lv_iconst (v := 3) hx hb dL_law_187 (by decide) ?_
  refine lv_iadd hx hb dL_law_188 ?_
  refine va_sld hx hb hX hbl hbA hS h3 dL_law_189 ?_
  have hs9 : vv_Sub D H A (w_FR C a mX ++ w_Rd C (a 2) (a 1) mR) (w_FR C a mX ++ w_Rd C (a 2) (a 1) oR) (w_L C a aZ mX oR mF mT mP mA mI mJ mH mK mD mG mZ mY) := vv_Sub.part (ws := w_L C a aZ mX mR mF mT mP mA mI mJ mH mK mD mG mZ mY) (wr := w_Told C (a 2) mF ++ (w_Told C (a 3) mT ++ (w_Mom C (a 3) (a 4) mP ++ (w_Mom C (a 3) (a 5) mA ++ (w_Mom C (a 3) (a 6) mI ++ (w_Mom C (a 3) (a 7) mJ ++ (w_Hg C (a 3) (a 4) (a 5) (a 8) mH ++ (w_Tk C (a 3) (a 4) (a 9) mK ++ (w_Dy C (a 10) mD ++ (w_Mk (a 3) (a 4) (a 11) mG ++ w_MD C aZ mZ mY)))))))))) [0, 1, 2, 3, 4] [5, 6, 7, 8, 9, 10, 11, 12, 13, 14, 15, 16, 17, 18, 19, 20, 21, 22, 23, 24, 25, 26, 27, 28, 29, 30, 31, 32, 33, 34, 35, 36, 37, 38, 39, 40, 41, 42, 43, 44, 45, 46, 47, 48, 49, 50, 51, 52, 53, 54, 55, 56, 57, 58, 59, 60, 61, 62, 63, 64, 65, 66, 67, 68, 69, 70, 71, 72, 73, 74, 75, 76, 77, 78] [74, 75, 76, 77, 78, 0, 1, 2, 3, 4, 5, 6, 7, 8, 9, 10, 11, 12, 13, 14, 15, 16, 17, 18, 19, 20, 21, 22, 23, 24, 25, 26, 27, 28, 29, 30, 31, 32, 33, 34, 35, 36, 37, 38, 39, 40, 41, 42, 43, 44, 45, 46, 47, 48, 49, 50, 51, 52, 53, 54, 55, 56, 57, 58, 59, 60, 61, 62, 63, 64, 65, 66, 67, 68, 69, 70, 71, 72, 73] hP hD hS hA rfl rfl (by decide) rfl
  refine vv_goi (wn := w_L C a aZ mX oR mF mT mP mA mI mJ mH mK mD mG mZ mY) hK hs9 hS (vv_rV (As := [.long ((xs (i + 1).toNatClampNeg).toInt64 <<< ((32 : Int32).toInt64 &&& 63) ||| ((xs (i + 2).toNatClampNeg).toInt64 &&& 4294967295)), .int (xs (i + 3).toNatClampNeg)]) (rest := []) hx hb hml hown hts hK hN hS hs9 (ccX7_type l D C H.size a mX mR ((xs (i + 1).toNatClampNeg).toInt64 <<< ((32 : Int32).toInt64 &&& 63) ||| ((xs (i + 2).toNatClampNeg).toInt64 &&& 4294967295)) (xs (i + 3).toNatClampNeg) r oR e1) (cwV 2 hts gL_law_X7_type rfl rfl rfl (by decide +kernel) ⟨(Nat.le_of_ble_eq_true rfl), (Nat.le_of_ble_eq_true rfl)⟩) (va_recv hK hP (ci := 7) (q0 := 0) rfl rfl) rfl hl.1 rfl (Nat.le_of_ble_eq_true rfl) dL_law_190 ⟨(Nat.le_of_ble_eq_true rfl), (Nat.le_of_ble_eq_true rfl)⟩) (fun H locs hP hD hS => ?_)
  refine lv_aload_n hx hb dL_law_193 rfl (lv_at hl 2 rfl) ?_
  refine lv_aload_n hx hb dL_law_194 rfl (lv_at hl 0 rfl) ?_
  refine lv_iload_n hx hb dL_law_195 rfl (lv_at hl 3 rfl) ?_
  refine lv_iconst (v := 1) hx hb dL_law_196 (by decide) ?_
  refine lv_iadd hx hb dL_law_197 ?_
  refine va_sld hx hb hX hbl hbA hS h1 dL_law_198 ?_
  refine lv_i2l hx hb dL_law_199 rfl ?_
  refine lv_bipush (v := 32) hx hb dL_law_200 (by decide) ?_
  refine lv_lshl hx hb dL_law_202 rfl ?_
  refine lv_aload_n hx hb dL_law_203 rfl (lv_at hl 0 rfl) ?_
  refine lv_iload_n hx hb dL_law_204 rfl (lv_at hl 3 rfl) ?_
  refine lv_iconst (v := 2) hx hb dL_law_205 (by decide) ?_
  refine lv_iadd hx hb dL_law_206 ?_
  refine va_sld hx hb hX hbl hbA hS h2 dL_law_207 ?_
  refine lv_i2l hx hb dL_law_208 rfl ?_
  refine lv_ldc2 (v := 4294967295) hx hb hown qL dL_law_209 ?_
  refine lv_land hx hb dL_law_212 ?_
  refine lv_lor hx hb dL_law_213 ?_
  refine lv_aload_n hx hb dL_law_214 rfl (lv_at hl 0 rfl) ?_
  refine lv_iload_n hx hb dL_law_215 rfl (lv_at hl 3 rfl) ?_
  refine lv_iconst (v := 3) hx hb dL_law_216 (by decide) ?_
  refine lv_iadd hx hb dL_law_217 ?_
  refine va_sld hx hb hX hbl hbA hS h3 dL_law_218 ?_
  have hs9 := law_subM oZ mY hP hD hS hA
  refine vv_goi (wn := w_L C a aZ mX oR mF mT mP mA mI mJ mH mK mD mG oZ mY) hK hs9 hS (vv_rV (As := [.long ((xs (i + 1).toNatClampNeg).toInt64 <<< ((32 : Int32).toInt64 &&& 63) ||| ((xs (i + 2).toNatClampNeg).toInt64 &&& 4294967295)), .int (xs (i + 3).toNatClampNeg)]) (rest := [.int r]) hx hb hml hown hts hK hN hS hs9 (ccX8_type l D C H.size aZ mZ mY ((xs (i + 1).toNatClampNeg).toInt64 <<< ((32 : Int32).toInt64 &&& 63) ||| ((xs (i + 2).toNatClampNeg).toInt64 &&& 4294967295)) (xs (i + 3).toNatClampNeg) r oZ e2) (cwV 2 hts gL_law_X8_type rfl rfl rfl (by decide +kernel) ⟨(Nat.le_of_ble_eq_true rfl), (Nat.le_of_ble_eq_true rfl)⟩) (va_recv hK hP (ci := 8) (q0 := 60) rfl rfl) rfl hl.1 rfl (Nat.le_of_ble_eq_true rfl) dL_law_219 ⟨(Nat.le_of_ble_eq_true rfl), (Nat.le_of_ble_eq_true rfl)⟩) (fun H locs hP hD hS => ?_)
  refine lv_icmp_eq (tgt := 953) hx hb dL_law_222 (by decide) (fun _ => ?_) (fun hc => absurd rfl hc)
  exact kk mX oR mF mT mP mA mI mJ mH mK mD mG oZ mY H locs hR hP hD hS
set_option maxHeartbeats 4000000 in
set_option maxRecDepth 100000 in
theorem lc_clear {p : Program} {l : Launch} {e : Env} {s : State} {m : MethodId} {below : List Frame} {meth : Method} {c : Code} {D : va_G} {C : Nat → ClassId} {A : Nat → Prop} {a : Nat → Nat → Nat} {aZ : Nat → Nat} {b L : Nat} {xs : Nat → Int32} {Q : State → Prop} {ls : Array Slot} {i : Int32} {mX mR mF mT mP mA mI mJ mH mK mD : Mm} {mG : Int64} {mZ : Mm} {mY : Int64} {H : Heap} {locs : List Loc} (hx : p.tables.exec = Jvm.exec) (hb : c.code = cL_law) (hml : c.maxLocals = 4) (hown : s.vm.findClass RL = some m.cls) (hts : ∀ w ∈ wsL_law, w.before #[Value.ref b] s = true) (hX : va_X b L xs s s.heap) (hbl : b < s.heap.size) (hbA : ¬ A b) (hA : ∀ q : Nat, s.heap.size ≤ q → A q) (hK : va_K D vwCl (tyL C) s) (hN : vv_NE C A s) (h1 : vp_in (i + 1) L) (h2 : vp_in (i + 2) L) (h3 : vp_in (i + 3) L) (h4 : vp_in (i + 4) L) (hl : lv_has ls 4 [(0, .ref b), (1, .ref (a 0 0)), (2, .ref (aZ 0)), (3, .int i)]) (hR : Rl mX mR mT mP mI mJ mD mG mZ mY) (hP : va_P D vwCl (w_L C a aZ mX mR mF mT mP mA mI mJ mH mK mD mG mZ mY) H) (hD : va_D A (w_L C a aZ mX mR mF mT mP mA mI mJ mH mK mD mG mZ mY)) (hS : va_S A s.heap H locs)
    (kk : ∀ (mX mR mF mT mP mA mI mJ mH mK mD : Mm) (mG : Int64) (mZ : Mm) (mY : Int64) (H : Heap) (locs : List Loc), Rl mX mR mT mP mI mJ mD mG mZ mY → va_P D vwCl (w_L C a aZ mX mR mF mT mP mA mI mJ mH mK mD mG mZ mY) H → va_D A (w_L C a aZ mX mR mF mT mP mA mI mJ mH mK mD mG mZ mY) → va_S A s.heap H locs → W p l e room_1 s m #[Value.ref b] below meth c H locs 100 2000 Q (F0 m 953 ls [])) : W p l e room_1 s m #[Value.ref b] below meth c H locs 100 2000 Q (F0 m 227 ls []) := by
  obtain ⟨r, oR, oZ, e1, e2, hR⟩ := st_clear hR  
  refine lv_aload_n hx hb dL_law_227 rfl (lv_at hl 1 rfl) ?_
  have hs9 : vv_Sub D H A (w_FR C a mX ++ w_Rd C (a 2) (a 1) mR) (w_FR C a mX ++ w_Rd C (a 2) (a 1) oR) (w_L C a aZ mX oR mF mT mP mA mI mJ mH mK mD mG mZ mY) := vv_Sub.part (ws := w_L C a aZ mX mR mF mT mP mA mI mJ mH mK mD mG mZ mY) (wr := w_Told C (a 2) mF ++ (w_Told C (a 3) mT ++ (w_Mom C (a 3) (a 4) mP ++ (w_Mom C (a 3) (a 5) mA ++ (w_Mom C (a 3) (a 6) mI ++ (w_Mom C (a 3) (a 7) mJ ++ (w_Hg C (a 3) (a 4) (a 5) (a 8) mH ++ (w_Tk C (a 3) (a 4) (a 9) mK ++ (w_Dy C (a 10) mD ++ (w_Mk (a 3) (a 4) (a 11) mG ++ w_MD C aZ mZ mY)))))))))) [0, 1, 2, 3, 4] [5, 6, 7, 8, 9, 10, 11, 12, 13, 14, 15, 16, 17, 18, 19, 20, 21, 22, 23, 24, 25, 26, 27, 28, 29, 30, 31, 32, 33, 34, 35, 36, 37, 38, 39, 40, 41, 42, 43, 44, 45, 46, 47, 48, 49, 50, 51, 52, 53, 54, 55, 56, 57, 58, 59, 60, 61, 62, 63, 64, 65, 66, 67, 68, 69, 70, 71, 72, 73, 74, 75, 76, 77, 78] [74, 75, 76, 77, 78, 0, 1, 2, 3, 4, 5, 6, 7, 8, 9, 10, 11, 12, 13, 14, 15, 16, 17, 18, 19, 20, 21, 22, 23, 24, 25, 26, 27, 28, 29, 30, 31, 32, 33, 34, 35, 36, 37, 38, 39, 40, 41, 42, 43, 44, 45, 46, 47, 48, 49, 50, 51, 52, 53, 54, 55, 56, 57, 58, 59, 60, 61, 62, 63, 64, 65, 66, 67, 68, 69, 70, 71, 72, 73] hP hD hS hA rfl rfl (by decide) rfl
  refine vv_goi (wn := w_L C a aZ mX oR mF mT mP mA mI mJ mH mK mD mG mZ mY) hK hs9 hS (vv_rV (As := []) (rest := []) hx hb hml hown hts hK hN hS hs9 (ccX7_clear l D C H.size a mX mR r oR e1) (cwV 0 hts gL_law_X7_clear rfl rfl rfl (by decide +kernel) ⟨(Nat.le_of_ble_eq_true rfl), (Nat.le_of_ble_eq_true rfl)⟩) (va_recv hK hP (ci := 7) (q0 := 0) rfl rfl) rfl hl.1 rfl (Nat.le_of_ble_eq_true rfl) dL_law_228 ⟨(Nat.le_of_ble_eq_true rfl), (Nat.le_of_ble_eq_true rfl)⟩) (fun H locs hP hD hS => ?_)
  refine lv_aload_n hx hb dL_law_231 rfl (lv_at hl 2 rfl) ?_
  have hs9 := law_subM oZ mY hP hD hS hA
  refine vv_goi (wn := w_L C a aZ mX oR mF mT mP mA mI mJ mH mK mD mG oZ mY) hK hs9 hS (vv_rV (As := []) (rest := [.int r]) hx hb hml hown hts hK hN hS hs9 (ccX8_clear l D C H.size aZ mZ mY r oZ e2) (cwV 0 hts gL_law_X8_clear rfl rfl rfl (by decide +kernel) ⟨(Nat.le_of_ble_eq_true rfl), (Nat.le_of_ble_eq_true rfl)⟩) (va_recv hK hP (ci := 8) (q0 := 60) rfl rfl) rfl hl.1 rfl (Nat.le_of_ble_eq_true rfl) dL_law_232 ⟨(Nat.le_of_ble_eq_true rfl), (Nat.le_of_ble_eq_true rfl)⟩) (fun H locs hP hD hS => ?_)
  refine lv_icmp_eq (tgt := 953) hx hb dL_law_235 (by decide) (fun _ => ?_) (fun hc => absurd rfl hc)
  exact kk mX oR mF mT mP mA mI mJ mH mK mD mG oZ mY H locs hR hP hD hS
set_option maxHeartbeats 4000000 in
set_option maxRecDepth 100000 in
theorem lc_day {p : Program} {l : Launch} {e : Env} {s : State} {m : MethodId} {below : List Frame} {meth : Method} {c : Code} {D : va_G} {C : Nat → ClassId} {A : Nat → Prop} {a : Nat → Nat → Nat} {aZ : Nat → Nat} {b L : Nat} {xs : Nat → Int32} {Q : State → Prop} {ls : Array Slot} {i : Int32} {mX mR mF mT mP mA mI mJ mH mK mD : Mm} {mG : Int64} {mZ : Mm} {mY : Int64} {H : Heap} {locs : List Loc} (hx : p.tables.exec = Jvm.exec) (hb : c.code = cL_law) (hml : c.maxLocals = 4) (hown : s.vm.findClass RL = some m.cls) (hts : ∀ w ∈ wsL_law, w.before #[Value.ref b] s = true) (hX : va_X b L xs s s.heap) (hbl : b < s.heap.size) (hbA : ¬ A b) (hA : ∀ q : Nat, s.heap.size ≤ q → A q) (hK : va_K D vwCl (tyL C) s) (hN : vv_NE C A s) (h1 : vp_in (i + 1) L) (h2 : vp_in (i + 2) L) (h3 : vp_in (i + 3) L) (h4 : vp_in (i + 4) L) (hl : lv_has ls 4 [(0, .ref b), (1, .ref (a 0 0)), (2, .ref (aZ 0)), (3, .int i)]) (hR : Rl mX mR mT mP mI mJ mD mG mZ mY) (hP : va_P D vwCl (w_L C a aZ mX mR mF mT mP mA mI mJ mH mK mD mG mZ mY) H) (hD : va_D A (w_L C a aZ mX mR mF mT mP mA mI mJ mH mK mD mG mZ mY)) (hS : va_S A s.heap H locs)
    (kk : ∀ (mX mR mF mT mP mA mI mJ mH mK mD : Mm) (mG : Int64) (mZ : Mm) (mY : Int64) (H : Heap) (locs : List Loc), Rl mX mR mT mP mI mJ mD mG mZ mY → va_P D vwCl (w_L C a aZ mX mR mF mT mP mA mI mJ mH mK mD mG mZ mY) H → va_D A (w_L C a aZ mX mR mF mT mP mA mI mJ mH mK mD mG mZ mY) → va_S A s.heap H locs → W p l e room_1 s m #[Value.ref b] below meth c H locs 100 2000 Q (F0 m 953 ls [])) : W p l e room_1 s m #[Value.ref b] below meth c H locs 100 2000 Q (F0 m 240 ls []) := by
  obtain ⟨r, oX, oR, oF, oT, oP, oZ, e1, e2, hR⟩ := st_day (F := mF) hR  
  refine lv_aload_n hx hb dL_law_240 rfl (lv_at hl 1 rfl) ?_
  have hs9 : vv_Sub D H A (w_FR C a mX ++ (w_Rd C (a 2) (a 1) mR ++ (w_Told C (a 2) mF ++ (w_Told C (a 3) mT ++ w_Mom C (a 3) (a 4) mP)))) (w_FR C a oX ++ (w_Rd C (a 2) (a 1) oR ++ (w_Told C (a 2) oF ++ (w_Told C (a 3) oT ++ w_Mom C (a 3) (a 4) oP)))) (w_L C a aZ oX oR oF oT oP mA mI mJ mH mK mD mG mZ mY) := vv_Sub.part (ws := w_L C a aZ mX mR mF mT mP mA mI mJ mH mK mD mG mZ mY) (wr := w_Mom C (a 3) (a 5) mA ++ (w_Mom C (a 3) (a 6) mI ++ (w_Mom C (a 3) (a 7) mJ ++ (w_Hg C (a 3) (a 4) (a 5) (a 8) mH ++ (w_Tk C (a 3) (a 4) (a 9) mK ++ (w_Dy C (a 10) mD ++ (w_Mk (a 3) (a 4) (a 11) mG ++ w_MD C aZ mZ mY))))))) [0, 1, 2, 3, 4, 5, 6, 7, 8, 9, 10, 11, 12, 13, 14, 15, 16, 17, 18, 19, 20, 21, 22, 23] [24, 25, 26, 27, 28, 29, 30, 31, 32, 33, 34, 35, 36, 37, 38, 39, 40, 41, 42, 43, 44, 45, 46, 47, 48, 49, 50, 51, 52, 53, 54, 55, 56, 57, 58, 59, 60, 61, 62, 63, 64, 65, 66, 67, 68, 69, 70, 71, 72, 73, 74, 75, 76, 77, 78] [55, 56, 57, 58, 59, 60, 61, 62, 63, 64, 65, 66, 67, 68, 69, 70, 71, 72, 73, 74, 75, 76, 77, 78, 0, 1, 2, 3, 4, 5, 6, 7, 8, 9, 10, 11, 12, 13, 14, 15, 16, 17, 18, 19, 20, 21, 22, 23, 24, 25, 26, 27, 28, 29, 30, 31, 32, 33, 34, 35, 36, 37, 38, 39, 40, 41, 42, 43, 44, 45, 46, 47, 48, 49, 50, 51, 52, 53, 54] hP hD hS hA rfl rfl (by decide) rfl
  refine vv_goi (wn := w_L C a aZ oX oR oF oT oP mA mI mJ mH mK mD mG mZ mY) hK hs9 hS (vv_rV (As := []) (rest := []) hx hb hml hown hts hK hN hS hs9 (ccX7_day l D C H.size a mX mR mF mT mP r oX oR oF oT oP e1) (cwV 0 hts gL_law_X7_day rfl rfl rfl (by decide +kernel) ⟨(Nat.le_of_ble_eq_true rfl), (Nat.le_of_ble_eq_true rfl)⟩) (va_recv hK hP (ci := 7) (q0 := 0) rfl rfl) rfl hl.1 rfl (Nat.le_of_ble_eq_true rfl) dL_law_241 ⟨(Nat.le_of_ble_eq_true rfl), (Nat.le_of_ble_eq_true rfl)⟩) (fun H locs hP hD hS => ?_)
  refine lv_aload_n hx hb dL_law_244 rfl (lv_at hl 2 rfl) ?_
  have hs9 := law_subM oZ mY hP hD hS hA
  refine vv_goi (wn := w_L C a aZ oX oR oF oT oP mA mI mJ mH mK mD mG oZ mY) hK hs9 hS (vv_rV (As := []) (rest := [.int r]) hx hb hml hown hts hK hN hS hs9 (ccX8_day l D C H.size aZ mZ mY r oZ e2) (cwV 0 hts gL_law_X8_day rfl rfl rfl (by decide +kernel) ⟨(Nat.le_of_ble_eq_true rfl), (Nat.le_of_ble_eq_true rfl)⟩) (va_recv hK hP (ci := 8) (q0 := 60) rfl rfl) rfl hl.1 rfl (Nat.le_of_ble_eq_true rfl) dL_law_245 ⟨(Nat.le_of_ble_eq_true rfl), (Nat.le_of_ble_eq_true rfl)⟩) (fun H locs hP hD hS => ?_)
  refine lv_icmp_eq (tgt := 953) hx hb dL_law_248 (by decide) (fun _ => ?_) (fun hc => absurd rfl hc)
  exact kk oX oR oF oT oP mA mI mJ mH mK mD mG oZ mY H locs hR hP hD hS
set_option maxHeartbeats 4000000 in
set_option maxRecDepth 100000 in
theorem lc_piece {p : Program} {l : Launch} {e : Env} {s : State} {m : MethodId} {below : List Frame} {meth : Method} {c : Code} {D : va_G} {C : Nat → ClassId} {A : Nat → Prop} {a : Nat → Nat → Nat} {aZ : Nat → Nat} {b L : Nat} {xs : Nat → Int32} {Q : State → Prop} {ls : Array Slot} {i : Int32} {mX mR mF mT mP mA mI mJ mH mK mD : Mm} {mG : Int64} {mZ : Mm} {mY : Int64} {H : Heap} {locs : List Loc} (hx : p.tables.exec = Jvm.exec) (hb : c.code = cL_law) (hml : c.maxLocals = 4) (hown : s.vm.findClass RL = some m.cls) (hts : ∀ w ∈ wsL_law, w.before #[Value.ref b] s = true) (hX : va_X b L xs s s.heap) (hbl : b < s.heap.size) (hbA : ¬ A b) (hA : ∀ q : Nat, s.heap.size ≤ q → A q) (hK : va_K D vwCl (tyL C) s) (hN : vv_NE C A s) (h1 : vp_in (i + 1) L) (h2 : vp_in (i + 2) L) (h3 : vp_in (i + 3) L) (h4 : vp_in (i + 4) L) (hl : lv_has ls 4 [(0, .ref b), (1, .ref (a 0 0)), (2, .ref (aZ 0)), (3, .int i)]) (hR : Rl mX mR mT mP mI mJ mD mG mZ mY) (hP : va_P D vwCl (w_L C a aZ mX mR mF mT mP mA mI mJ mH mK mD mG mZ mY) H) (hD : va_D A (w_L C a aZ mX mR mF mT mP mA mI mJ mH mK mD mG mZ mY)) (hS : va_S A s.heap H locs)
    (kk : ∀ (mX mR mF mT mP mA mI mJ mH mK mD : Mm) (mG : Int64) (mZ : Mm) (mY : Int64) (H : Heap) (locs : List Loc), Rl mX mR mT mP mI mJ mD mG mZ mY → va_P D vwCl (w_L C a aZ mX mR mF mT mP mA mI mJ mH mK mD mG mZ mY) H → va_D A (w_L C a aZ mX mR mF mT mP mA mI mJ mH mK mD mG mZ mY) → va_S A s.heap H locs → W p l e room_1 s m #[Value.ref b] below meth c H locs 100 2000 Q (F0 m 953 ls [])) : W p l e room_1 s m #[Value.ref b] below meth c H locs 100 2000 Q (F0 m 253 ls []) := by
  obtain ⟨r, e1, e2⟩ := st_piece hR  (xs (i + 1).toNatClampNeg) (xs (i + 2).toNatClampNeg)
  refine lv_aload_n hx hb dL_law_253 rfl (lv_at hl 1 rfl) ?_
  refine lv_aload_n hx hb dL_law_254 rfl (lv_at hl 0 rfl) ?_
  refine lv_iload_n hx hb dL_law_255 rfl (lv_at hl 3 rfl) ?_
  refine lv_iconst (v := 1) hx hb dL_law_256 (by decide) ?_
  refine lv_iadd hx hb dL_law_257 ?_
  refine va_sld hx hb hX hbl hbA hS h1 dL_law_258 ?_
  refine lv_aload_n hx hb dL_law_259 rfl (lv_at hl 0 rfl) ?_
  refine lv_iload_n hx hb dL_law_260 rfl (lv_at hl 3 rfl) ?_
  refine lv_iconst (v := 2) hx hb dL_law_261 (by decide) ?_
  refine lv_iadd hx hb dL_law_262 ?_
  refine va_sld hx hb hX hbl hbA hS h2 dL_law_263 ?_
  have hs9 : vv_Sub D H A (w_FR C a mX ++ (w_Told C (a 3) mT ++ w_Mom C (a 3) (a 4) mP)) (w_FR C a mX ++ (w_Told C (a 3) mT ++ w_Mom C (a 3) (a 4) mP)) (w_L C a aZ mX mR mF mT mP mA mI mJ mH mK mD mG mZ mY) := vv_Sub.part (ws := w_L C a aZ mX mR mF mT mP mA mI mJ mH mK mD mG mZ mY) (wr := w_Rd C (a 2) (a 1) mR ++ (w_Told C (a 2) mF ++ (w_Mom C (a 3) (a 5) mA ++ (w_Mom C (a 3) (a 6) mI ++ (w_Mom C (a 3) (a 7) mJ ++ (w_Hg C (a 3) (a 4) (a 5) (a 8) mH ++ (w_Tk C (a 3) (a 4) (a 9) mK ++ (w_Dy C (a 10) mD ++ (w_Mk (a 3) (a 4) (a 11) mG ++ w_MD C aZ mZ mY))))))))) [0, 1, 2, 12, 13, 14, 15, 16, 17, 18, 19, 20, 21, 22, 23] [3, 4, 5, 6, 7, 8, 9, 10, 11, 24, 25, 26, 27, 28, 29, 30, 31, 32, 33, 34, 35, 36, 37, 38, 39, 40, 41, 42, 43, 44, 45, 46, 47, 48, 49, 50, 51, 52, 53, 54, 55, 56, 57, 58, 59, 60, 61, 62, 63, 64, 65, 66, 67, 68, 69, 70, 71, 72, 73, 74, 75, 76, 77, 78] [64, 65, 66, 0, 1, 2, 3, 4, 5, 6, 7, 8, 67, 68, 69, 70, 71, 72, 73, 74, 75, 76, 77, 78, 9, 10, 11, 12, 13, 14, 15, 16, 17, 18, 19, 20, 21, 22, 23, 24, 25, 26, 27, 28, 29, 30, 31, 32, 33, 34, 35, 36, 37, 38, 39, 40, 41, 42, 43, 44, 45, 46, 47, 48, 49, 50, 51, 52, 53, 54, 55, 56, 57, 58, 59, 60, 61, 62, 63] hP hD hS hA rfl rfl (by decide) rfl
  refine vv_goi (wn := w_L C a aZ mX mR mF mT mP mA mI mJ mH mK mD mG mZ mY) hK hs9 hS (vv_rV (As := [.int (xs (i + 1).toNatClampNeg), .int (xs (i + 2).toNatClampNeg)]) (rest := []) hx hb hml hown hts hK hN hS hs9 (ccX7_piece l D C H.size a mX mT mP (xs (i + 1).toNatClampNeg) (xs (i + 2).toNatClampNeg) r e1) (cwV 2 hts gL_law_X7_piece rfl rfl rfl (by decide +kernel) ⟨(Nat.le_of_ble_eq_true rfl), (Nat.le_of_ble_eq_true rfl)⟩) (va_recv hK hP (ci := 7) (q0 := 0) rfl rfl) rfl hl.1 rfl (Nat.le_of_ble_eq_true rfl) dL_law_264 ⟨(Nat.le_of_ble_eq_true rfl), (Nat.le_of_ble_eq_true rfl)⟩) (fun H locs hP hD hS => ?_)
  refine lv_aload_n hx hb dL_law_267 rfl (lv_at hl 2 rfl) ?_
  refine lv_aload_n hx hb dL_law_268 rfl (lv_at hl 0 rfl) ?_
  refine lv_iload_n hx hb dL_law_269 rfl (lv_at hl 3 rfl) ?_
  refine lv_iconst (v := 1) hx hb dL_law_270 (by decide) ?_
  refine lv_iadd hx hb dL_law_271 ?_
  refine va_sld hx hb hX hbl hbA hS h1 dL_law_272 ?_
  refine lv_aload_n hx hb dL_law_273 rfl (lv_at hl 0 rfl) ?_
  refine lv_iload_n hx hb dL_law_274 rfl (lv_at hl 3 rfl) ?_
  refine lv_iconst (v := 2) hx hb dL_law_275 (by decide) ?_
  refine lv_iadd hx hb dL_law_276 ?_
  refine va_sld hx hb hX hbl hbA hS h2 dL_law_277 ?_
  have hs9 := law_subM mZ mY hP hD hS hA
  refine vv_goi (wn := w_L C a aZ mX mR mF mT mP mA mI mJ mH mK mD mG mZ mY) hK hs9 hS (vv_rV (As := [.int (xs (i + 1).toNatClampNeg), .int (xs (i + 2).toNatClampNeg)]) (rest := [.int r]) hx hb hml hown hts hK hN hS hs9 (ccX8_piece l D C H.size aZ mZ mY (xs (i + 1).toNatClampNeg) (xs (i + 2).toNatClampNeg) r e2) (cwV 2 hts gL_law_X8_piece rfl rfl rfl (by decide +kernel) ⟨(Nat.le_of_ble_eq_true rfl), (Nat.le_of_ble_eq_true rfl)⟩) (va_recv hK hP (ci := 8) (q0 := 60) rfl rfl) rfl hl.1 rfl (Nat.le_of_ble_eq_true rfl) dL_law_278 ⟨(Nat.le_of_ble_eq_true rfl), (Nat.le_of_ble_eq_true rfl)⟩) (fun H locs hP hD hS => ?_)
  refine lv_icmp_eq (tgt := 953) hx hb dL_law_281 (by decide) (fun _ => ?_) (fun hc => absurd rfl hc)
  exact kk mX mR mF mT mP mA mI mJ mH mK mD mG mZ mY H locs hR hP hD hS
set_option maxHeartbeats 4000000 in
set_option maxRecDepth 100000 in
theorem lc_spot {p : Program} {l : Launch} {e : Env} {s : State} {m : MethodId} {below : List Frame} {meth : Method} {c : Code} {D : va_G} {C : Nat → ClassId} {A : Nat → Prop} {a : Nat → Nat → Nat} {aZ : Nat → Nat} {b L : Nat} {xs : Nat → Int32} {Q : State → Prop} {ls : Array Slot} {i : Int32} {mX mR mF mT mP mA mI mJ mH mK mD : Mm} {mG : Int64} {mZ : Mm} {mY : Int64} {H : Heap} {locs : List Loc} (hx : p.tables.exec = Jvm.exec) (hb : c.code = cL_law) (hml : c.maxLocals = 4) (hown : s.vm.findClass RL = some m.cls) (hts : ∀ w ∈ wsL_law, w.before #[Value.ref b] s = true) (hX : va_X b L xs s s.heap) (hbl : b < s.heap.size) (hbA : ¬ A b) (hA : ∀ q : Nat, s.heap.size ≤ q → A q) (hK : va_K D vwCl (tyL C) s) (hN : vv_NE C A s) (h1 : vp_in (i + 1) L) (h2 : vp_in (i + 2) L) (h3 : vp_in (i + 3) L) (h4 : vp_in (i + 4) L) (hl : lv_has ls 4 [(0, .ref b), (1, .ref (a 0 0)), (2, .ref (aZ 0)), (3, .int i)]) (hR : Rl mX mR mT mP mI mJ mD mG mZ mY) (hP : va_P D vwCl (w_L C a aZ mX mR mF mT mP mA mI mJ mH mK mD mG mZ mY) H) (hD : va_D A (w_L C a aZ mX mR mF mT mP mA mI mJ mH mK mD mG mZ mY)) (hS : va_S A s.heap H locs)
    (kk : ∀ (mX mR mF mT mP mA mI mJ mH mK mD : Mm) (mG : Int64) (mZ : Mm) (mY : Int64) (H : Heap) (locs : List Loc), Rl mX mR mT mP mI mJ mD mG mZ mY → va_P D vwCl (w_L C a aZ mX mR mF mT mP mA mI mJ mH mK mD mG mZ mY) H → va_D A (w_L C a aZ mX mR mF mT mP mA mI mJ mH mK mD mG mZ mY) → va_S A s.heap H locs → W p l e room_1 s m #[Value.ref b] below meth c H locs 100 2000 Q (F0 m 953 ls [])) : W p l e room_1 s m #[Value.ref b] below meth c H locs 100 2000 Q (F0 m 286 ls []) := by
  obtain ⟨r, e1, e2⟩ := st_spot hR  (xs (i + 1).toNatClampNeg) (xs (i + 2).toNatClampNeg)
  refine lv_aload_n hx hb dL_law_286 rfl (lv_at hl 1 rfl) ?_
  refine lv_aload_n hx hb dL_law_287 rfl (lv_at hl 0 rfl) ?_
  refine lv_iload_n hx hb dL_law_288 rfl (lv_at hl 3 rfl) ?_
  refine lv_iconst (v := 1) hx hb dL_law_289 (by decide) ?_
  refine lv_iadd hx hb dL_law_290 ?_
  refine va_sld hx hb hX hbl hbA hS h1 dL_law_291 ?_
  refine lv_aload_n hx hb dL_law_292 rfl (lv_at hl 0 rfl) ?_
  refine lv_iload_n hx hb dL_law_293 rfl (lv_at hl 3 rfl) ?_
  refine lv_iconst (v := 2) hx hb dL_law_294 (by decide) ?_
  refine lv_iadd hx hb dL_law_295 ?_
  refine va_sld hx hb hX hbl hbA hS h2 dL_law_296 ?_
  have hs9 : vv_Sub D H A (w_FR C a mX ++ (w_Told C (a 3) mT ++ w_Mom C (a 3) (a 4) mP)) (w_FR C a mX ++ (w_Told C (a 3) mT ++ w_Mom C (a 3) (a 4) mP)) (w_L C a aZ mX mR mF mT mP mA mI mJ mH mK mD mG mZ mY) := vv_Sub.part (ws := w_L C a aZ mX mR mF mT mP mA mI mJ mH mK mD mG mZ mY) (wr := w_Rd C (a 2) (a 1) mR ++ (w_Told C (a 2) mF ++ (w_Mom C (a 3) (a 5) mA ++ (w_Mom C (a 3) (a 6) mI ++ (w_Mom C (a 3) (a 7) mJ ++ (w_Hg C (a 3) (a 4) (a 5) (a 8) mH ++ (w_Tk C (a 3) (a 4) (a 9) mK ++ (w_Dy C (a 10) mD ++ (w_Mk (a 3) (a 4) (a 11) mG ++ w_MD C aZ mZ mY))))))))) [0, 1, 2, 12, 13, 14, 15, 16, 17, 18, 19, 20, 21, 22, 23] [3, 4, 5, 6, 7, 8, 9, 10, 11, 24, 25, 26, 27, 28, 29, 30, 31, 32, 33, 34, 35, 36, 37, 38, 39, 40, 41, 42, 43, 44, 45, 46, 47, 48, 49, 50, 51, 52, 53, 54, 55, 56, 57, 58, 59, 60, 61, 62, 63, 64, 65, 66, 67, 68, 69, 70, 71, 72, 73, 74, 75, 76, 77, 78] [64, 65, 66, 0, 1, 2, 3, 4, 5, 6, 7, 8, 67, 68, 69, 70, 71, 72, 73, 74, 75, 76, 77, 78, 9, 10, 11, 12, 13, 14, 15, 16, 17, 18, 19, 20, 21, 22, 23, 24, 25, 26, 27, 28, 29, 30, 31, 32, 33, 34, 35, 36, 37, 38, 39, 40, 41, 42, 43, 44, 45, 46, 47, 48, 49, 50, 51, 52, 53, 54, 55, 56, 57, 58, 59, 60, 61, 62, 63] hP hD hS hA rfl rfl (by decide) rfl
  refine vv_goi (wn := w_L C a aZ mX mR mF mT mP mA mI mJ mH mK mD mG mZ mY) hK hs9 hS (vv_rV (As := [.int (xs (i + 1).toNatClampNeg), .int (xs (i + 2).toNatClampNeg)]) (rest := []) hx hb hml hown hts hK hN hS hs9 (ccX7_spot l D C H.size a mX mT mP (xs (i + 1).toNatClampNeg) (xs (i + 2).toNatClampNeg) r e1) (cwV 2 hts gL_law_X7_spot rfl rfl rfl (by decide +kernel) ⟨(Nat.le_of_ble_eq_true rfl), (Nat.le_of_ble_eq_true rfl)⟩) (va_recv hK hP (ci := 7) (q0 := 0) rfl rfl) rfl hl.1 rfl (Nat.le_of_ble_eq_true rfl) dL_law_297 ⟨(Nat.le_of_ble_eq_true rfl), (Nat.le_of_ble_eq_true rfl)⟩) (fun H locs hP hD hS => ?_)
  refine lv_aload_n hx hb dL_law_300 rfl (lv_at hl 2 rfl) ?_
  refine lv_aload_n hx hb dL_law_301 rfl (lv_at hl 0 rfl) ?_
  refine lv_iload_n hx hb dL_law_302 rfl (lv_at hl 3 rfl) ?_
  refine lv_iconst (v := 1) hx hb dL_law_303 (by decide) ?_
  refine lv_iadd hx hb dL_law_304 ?_
  refine va_sld hx hb hX hbl hbA hS h1 dL_law_305 ?_
  refine lv_aload_n hx hb dL_law_306 rfl (lv_at hl 0 rfl) ?_
  refine lv_iload_n hx hb dL_law_307 rfl (lv_at hl 3 rfl) ?_
  refine lv_iconst (v := 2) hx hb dL_law_308 (by decide) ?_
  refine lv_iadd hx hb dL_law_309 ?_
  refine va_sld hx hb hX hbl hbA hS h2 dL_law_310 ?_
  have hs9 := law_subM mZ mY hP hD hS hA
  refine vv_goi (wn := w_L C a aZ mX mR mF mT mP mA mI mJ mH mK mD mG mZ mY) hK hs9 hS (vv_rV (As := [.int (xs (i + 1).toNatClampNeg), .int (xs (i + 2).toNatClampNeg)]) (rest := [.int r]) hx hb hml hown hts hK hN hS hs9 (ccX8_spot l D C H.size aZ mZ mY (xs (i + 1).toNatClampNeg) (xs (i + 2).toNatClampNeg) r e2) (cwV 2 hts gL_law_X8_spot rfl rfl rfl (by decide +kernel) ⟨(Nat.le_of_ble_eq_true rfl), (Nat.le_of_ble_eq_true rfl)⟩) (va_recv hK hP (ci := 8) (q0 := 60) rfl rfl) rfl hl.1 rfl (Nat.le_of_ble_eq_true rfl) dL_law_311 ⟨(Nat.le_of_ble_eq_true rfl), (Nat.le_of_ble_eq_true rfl)⟩) (fun H locs hP hD hS => ?_)
  refine lv_icmp_eq (tgt := 953) hx hb dL_law_314 (by decide) (fun _ => ?_) (fun hc => absurd rfl hc)
  exact kk mX mR mF mT mP mA mI mJ mH mK mD mG mZ mY H locs hR hP hD hS
set_option maxHeartbeats 4000000 in
set_option maxRecDepth 100000 in
theorem lc_sky {p : Program} {l : Launch} {e : Env} {s : State} {m : MethodId} {below : List Frame} {meth : Method} {c : Code} {D : va_G} {C : Nat → ClassId} {A : Nat → Prop} {a : Nat → Nat → Nat} {aZ : Nat → Nat} {b L : Nat} {xs : Nat → Int32} {Q : State → Prop} {ls : Array Slot} {i : Int32} {mX mR mF mT mP mA mI mJ mH mK mD : Mm} {mG : Int64} {mZ : Mm} {mY : Int64} {H : Heap} {locs : List Loc} (hx : p.tables.exec = Jvm.exec) (hb : c.code = cL_law) (hml : c.maxLocals = 4) (hown : s.vm.findClass RL = some m.cls) (hts : ∀ w ∈ wsL_law, w.before #[Value.ref b] s = true) (hX : va_X b L xs s s.heap) (hbl : b < s.heap.size) (hbA : ¬ A b) (hA : ∀ q : Nat, s.heap.size ≤ q → A q) (hK : va_K D vwCl (tyL C) s) (hN : vv_NE C A s) (h1 : vp_in (i + 1) L) (h2 : vp_in (i + 2) L) (h3 : vp_in (i + 3) L) (h4 : vp_in (i + 4) L) (hl : lv_has ls 4 [(0, .ref b), (1, .ref (a 0 0)), (2, .ref (aZ 0)), (3, .int i)]) (hR : Rl mX mR mT mP mI mJ mD mG mZ mY) (hP : va_P D vwCl (w_L C a aZ mX mR mF mT mP mA mI mJ mH mK mD mG mZ mY) H) (hD : va_D A (w_L C a aZ mX mR mF mT mP mA mI mJ mH mK mD mG mZ mY)) (hS : va_S A s.heap H locs)
    (kk : ∀ (mX mR mF mT mP mA mI mJ mH mK mD : Mm) (mG : Int64) (mZ : Mm) (mY : Int64) (H : Heap) (locs : List Loc), Rl mX mR mT mP mI mJ mD mG mZ mY → va_P D vwCl (w_L C a aZ mX mR mF mT mP mA mI mJ mH mK mD mG mZ mY) H → va_D A (w_L C a aZ mX mR mF mT mP mA mI mJ mH mK mD mG mZ mY) → va_S A s.heap H locs → W p l e room_1 s m #[Value.ref b] below meth c H locs 100 2000 Q (F0 m 953 ls [])) : W p l e room_1 s m #[Value.ref b] below meth c H locs 100 2000 Q (F0 m 319 ls []) := by
  obtain ⟨r, e1, e2⟩ := st_sky hR  (xs (i + 1).toNatClampNeg)
  refine lv_aload_n hx hb dL_law_319 rfl (lv_at hl 1 rfl) ?_
  refine lv_aload_n hx hb dL_law_320 rfl (lv_at hl 0 rfl) ?_
  refine lv_iload_n hx hb dL_law_321 rfl (lv_at hl 3 rfl) ?_
  refine lv_iconst (v := 1) hx hb dL_law_322 (by decide) ?_
  refine lv_iadd hx hb dL_law_323 ?_
  refine va_sld hx hb hX hbl hbA hS h1 dL_law_324 ?_
  have hs9 : vv_Sub D H A (w_FR C a mX ++ w_Told C (a 3) mT) (w_FR C a mX ++ w_Told C (a 3) mT) (w_L C a aZ mX mR mF mT mP mA mI mJ mH mK mD mG mZ mY) := vv_Sub.part (ws := w_L C a aZ mX mR mF mT mP mA mI mJ mH mK mD mG mZ mY) (wr := w_Rd C (a 2) (a 1) mR ++ (w_Told C (a 2) mF ++ (w_Mom C (a 3) (a 4) mP ++ (w_Mom C (a 3) (a 5) mA ++ (w_Mom C (a 3) (a 6) mI ++ (w_Mom C (a 3) (a 7) mJ ++ (w_Hg C (a 3) (a 4) (a 5) (a 8) mH ++ (w_Tk C (a 3) (a 4) (a 9) mK ++ (w_Dy C (a 10) mD ++ (w_Mk (a 3) (a 4) (a 11) mG ++ w_MD C aZ mZ mY)))))))))) [0, 1, 2, 12, 13, 14, 15, 16, 17, 18] [3, 4, 5, 6, 7, 8, 9, 10, 11, 19, 20, 21, 22, 23, 24, 25, 26, 27, 28, 29, 30, 31, 32, 33, 34, 35, 36, 37, 38, 39, 40, 41, 42, 43, 44, 45, 46, 47, 48, 49, 50, 51, 52, 53, 54, 55, 56, 57, 58, 59, 60, 61, 62, 63, 64, 65, 66, 67, 68, 69, 70, 71, 72, 73, 74, 75, 76, 77, 78] [69, 70, 71, 0, 1, 2, 3, 4, 5, 6, 7, 8, 72, 73, 74, 75, 76, 77, 78, 9, 10, 11, 12, 13, 14, 15, 16, 17, 18, 19, 20, 21, 22, 23, 24, 25, 26, 27, 28, 29, 30, 31, 32, 33, 34, 35, 36, 37, 38, 39, 40, 41, 42, 43, 44, 45, 46, 47, 48, 49, 50, 51, 52, 53, 54, 55, 56, 57, 58, 59, 60, 61, 62, 63, 64, 65, 66, 67, 68] hP hD hS hA rfl rfl (by decide) rfl
  refine vv_goi (wn := w_L C a aZ mX mR mF mT mP mA mI mJ mH mK mD mG mZ mY) hK hs9 hS (vv_rV (As := [.int (xs (i + 1).toNatClampNeg)]) (rest := []) hx hb hml hown hts hK hN hS hs9 (ccX7_sky l D C H.size a mX mT (xs (i + 1).toNatClampNeg) r e1) (cwV 1 hts gL_law_X7_sky rfl rfl rfl (by decide +kernel) ⟨(Nat.le_of_ble_eq_true rfl), (Nat.le_of_ble_eq_true rfl)⟩) (va_recv hK hP (ci := 7) (q0 := 0) rfl rfl) rfl hl.1 rfl (Nat.le_of_ble_eq_true rfl) dL_law_325 ⟨(Nat.le_of_ble_eq_true rfl), (Nat.le_of_ble_eq_true rfl)⟩) (fun H locs hP hD hS => ?_)
  refine lv_aload_n hx hb dL_law_328 rfl (lv_at hl 2 rfl) ?_
  refine lv_aload_n hx hb dL_law_329 rfl (lv_at hl 0 rfl) ?_
  refine lv_iload_n hx hb dL_law_330 rfl (lv_at hl 3 rfl) ?_
  refine lv_iconst (v := 1) hx hb dL_law_331 (by decide) ?_
  refine lv_iadd hx hb dL_law_332 ?_
  refine va_sld hx hb hX hbl hbA hS h1 dL_law_333 ?_
  have hs9 := law_subM mZ mY hP hD hS hA
  refine vv_goi (wn := w_L C a aZ mX mR mF mT mP mA mI mJ mH mK mD mG mZ mY) hK hs9 hS (vv_rV (As := [.int (xs (i + 1).toNatClampNeg)]) (rest := [.int r]) hx hb hml hown hts hK hN hS hs9 (ccX8_sky l D C H.size aZ mZ mY (xs (i + 1).toNatClampNeg) r e2) (cwV 1 hts gL_law_X8_sky rfl rfl rfl (by decide +kernel) ⟨(Nat.le_of_ble_eq_true rfl), (Nat.le_of_ble_eq_true rfl)⟩) (va_recv hK hP (ci := 8) (q0 := 60) rfl rfl) rfl hl.1 rfl (Nat.le_of_ble_eq_true rfl) dL_law_334 ⟨(Nat.le_of_ble_eq_true rfl), (Nat.le_of_ble_eq_true rfl)⟩) (fun H locs hP hD hS => ?_)
  refine lv_icmp_eq (tgt := 953) hx hb dL_law_337 (by decide) (fun _ => ?_) (fun hc => absurd rfl hc)
  exact kk mX mR mF mT mP mA mI mJ mH mK mD mG mZ mY H locs hR hP hD hS
set_option maxHeartbeats 4000000 in
set_option maxRecDepth 100000 in
theorem lc_hang {p : Program} {l : Launch} {e : Env} {s : State} {m : MethodId} {below : List Frame} {meth : Method} {c : Code} {D : va_G} {C : Nat → ClassId} {A : Nat → Prop} {a : Nat → Nat → Nat} {aZ : Nat → Nat} {b L : Nat} {xs : Nat → Int32} {Q : State → Prop} {ls : Array Slot} {i : Int32} {mX mR mF mT mP mA mI mJ mH mK mD : Mm} {mG : Int64} {mZ : Mm} {mY : Int64} {H : Heap} {locs : List Loc} (hx : p.tables.exec = Jvm.exec) (hb : c.code = cL_law) (hml : c.maxLocals = 4) (hown : s.vm.findClass RL = some m.cls) (hts : ∀ w ∈ wsL_law, w.before #[Value.ref b] s = true) (hX : va_X b L xs s s.heap) (hbl : b < s.heap.size) (hbA : ¬ A b) (hA : ∀ q : Nat, s.heap.size ≤ q → A q) (hK : va_K D vwCl (tyL C) s) (hN : vv_NE C A s) (h1 : vp_in (i + 1) L) (h2 : vp_in (i + 2) L) (h3 : vp_in (i + 3) L) (h4 : vp_in (i + 4) L) (hl : lv_has ls 4 [(0, .ref b), (1, .ref (a 0 0)), (2, .ref (aZ 0)), (3, .int i)]) (hR : Rl mX mR mT mP mI mJ mD mG mZ mY) (hP : va_P D vwCl (w_L C a aZ mX mR mF mT mP mA mI mJ mH mK mD mG mZ mY) H) (hD : va_D A (w_L C a aZ mX mR mF mT mP mA mI mJ mH mK mD mG mZ mY)) (hS : va_S A s.heap H locs)
    (kk : ∀ (mX mR mF mT mP mA mI mJ mH mK mD : Mm) (mG : Int64) (mZ : Mm) (mY : Int64) (H : Heap) (locs : List Loc), Rl mX mR mT mP mI mJ mD mG mZ mY → va_P D vwCl (w_L C a aZ mX mR mF mT mP mA mI mJ mH mK mD mG mZ mY) H → va_D A (w_L C a aZ mX mR mF mT mP mA mI mJ mH mK mD mG mZ mY) → va_S A s.heap H locs → W p l e room_1 s m #[Value.ref b] below meth c H locs 100 2000 Q (F0 m 953 ls [])) : W p l e room_1 s m #[Value.ref b] below meth c H locs 100 2000 Q (F0 m 342 ls []) := by
  obtain ⟨r, oP, oZ, e1, e2, hR⟩ := st_hang hR  (xs (i + 1).toNatClampNeg) (xs (i + 2).toNatClampNeg)
  refine lv_aload_n hx hb dL_law_342 rfl (lv_at hl 1 rfl) ?_
  refine lv_aload_n hx hb dL_law_343 rfl (lv_at hl 0 rfl) ?_
  refine lv_iload_n hx hb dL_law_344 rfl (lv_at hl 3 rfl) ?_
  refine lv_iconst (v := 1) hx hb dL_law_345 (by decide) ?_
  refine lv_iadd hx hb dL_law_346 ?_
  refine va_sld hx hb hX hbl hbA hS h1 dL_law_347 ?_
  refine lv_aload_n hx hb dL_law_348 rfl (lv_at hl 0 rfl) ?_
  refine lv_iload_n hx hb dL_law_349 rfl (lv_at hl 3 rfl) ?_
  refine lv_iconst (v := 2) hx hb dL_law_350 (by decide) ?_
  refine lv_iadd hx hb dL_law_351 ?_
  refine va_sld hx hb hX hbl hbA hS h2 dL_law_352 ?_
  have hs9 : vv_Sub D H A (w_FR C a mX ++ (w_Told C (a 3) mT ++ w_Mom C (a 3) (a 4) mP)) (w_FR C a mX ++ (w_Told C (a 3) mT ++ w_Mom C (a 3) (a 4) oP)) (w_L C a aZ mX mR mF mT oP mA mI mJ mH mK mD mG mZ mY) := vv_Sub.part (ws := w_L C a aZ mX mR mF mT mP mA mI mJ mH mK mD mG mZ mY) (wr := w_Rd C (a 2) (a 1) mR ++ (w_Told C (a 2) mF ++ (w_Mom C (a 3) (a 5) mA ++ (w_Mom C (a 3) (a 6) mI ++ (w_Mom C (a 3) (a 7) mJ ++ (w_Hg C (a 3) (a 4) (a 5) (a 8) mH ++ (w_Tk C (a 3) (a 4) (a 9) mK ++ (w_Dy C (a 10) mD ++ (w_Mk (a 3) (a 4) (a 11) mG ++ w_MD C aZ mZ mY))))))))) [0, 1, 2, 12, 13, 14, 15, 16, 17, 18, 19, 20, 21, 22, 23] [3, 4, 5, 6, 7, 8, 9, 10, 11, 24, 25, 26, 27, 28, 29, 30, 31, 32, 33, 34, 35, 36, 37, 38, 39, 40, 41, 42, 43, 44, 45, 46, 47, 48, 49, 50, 51, 52, 53, 54, 55, 56, 57, 58, 59, 60, 61, 62, 63, 64, 65, 66, 67, 68, 69, 70, 71, 72, 73, 74, 75, 76, 77, 78] [64, 65, 66, 0, 1, 2, 3, 4, 5, 6, 7, 8, 67, 68, 69, 70, 71, 72, 73, 74, 75, 76, 77, 78, 9, 10, 11, 12, 13, 14, 15, 16, 17, 18, 19, 20, 21, 22, 23, 24, 25, 26, 27, 28, 29, 30, 31, 32, 33, 34, 35, 36, 37, 38, 39, 40, 41, 42, 43, 44, 45, 46, 47, 48, 49, 50, 51, 52, 53, 54, 55, 56, 57, 58, 59, 60, 61, 62, 63] hP hD hS hA rfl rfl (by decide) rfl
  refine vv_goi (wn := w_L C a aZ mX mR mF mT oP mA mI mJ mH mK mD mG mZ mY) hK hs9 hS (vv_rV (As := [.int (xs (i + 1).toNatClampNeg), .int (xs (i + 2).toNatClampNeg)]) (rest := []) hx hb hml hown hts hK hN hS hs9 (ccX7_hang l D C H.size a mX mT mP (xs (i + 1).toNatClampNeg) (xs (i + 2).toNatClampNeg) r oP e1) (cwV 2 hts gL_law_X7_hang rfl rfl rfl (by decide +kernel) ⟨(Nat.le_of_ble_eq_true rfl), (Nat.le_of_ble_eq_true rfl)⟩) (va_recv hK hP (ci := 7) (q0 := 0) rfl rfl) rfl hl.1 rfl (Nat.le_of_ble_eq_true rfl) dL_law_353 ⟨(Nat.le_of_ble_eq_true rfl), (Nat.le_of_ble_eq_true rfl)⟩) (fun H locs hP hD hS => ?_)
  refine lv_aload_n hx hb dL_law_356 rfl (lv_at hl 2 rfl) ?_
  refine lv_aload_n hx hb dL_law_357 rfl (lv_at hl 0 rfl) ?_
  refine lv_iload_n hx hb dL_law_358 rfl (lv_at hl 3 rfl) ?_
  refine lv_iconst (v := 1) hx hb dL_law_359 (by decide) ?_
  refine lv_iadd hx hb dL_law_360 ?_
  refine va_sld hx hb hX hbl hbA hS h1 dL_law_361 ?_
  refine lv_aload_n hx hb dL_law_362 rfl (lv_at hl 0 rfl) ?_
  refine lv_iload_n hx hb dL_law_363 rfl (lv_at hl 3 rfl) ?_
  refine lv_iconst (v := 2) hx hb dL_law_364 (by decide) ?_
  refine lv_iadd hx hb dL_law_365 ?_
  refine va_sld hx hb hX hbl hbA hS h2 dL_law_366 ?_
  have hs9 := law_subM oZ mY hP hD hS hA
  refine vv_goi (wn := w_L C a aZ mX mR mF mT oP mA mI mJ mH mK mD mG oZ mY) hK hs9 hS (vv_rV (As := [.int (xs (i + 1).toNatClampNeg), .int (xs (i + 2).toNatClampNeg)]) (rest := [.int r]) hx hb hml hown hts hK hN hS hs9 (ccX8_hang l D C H.size aZ mZ mY (xs (i + 1).toNatClampNeg) (xs (i + 2).toNatClampNeg) r oZ e2) (cwV 2 hts gL_law_X8_hang rfl rfl rfl (by decide +kernel) ⟨(Nat.le_of_ble_eq_true rfl), (Nat.le_of_ble_eq_true rfl)⟩) (va_recv hK hP (ci := 8) (q0 := 60) rfl rfl) rfl hl.1 rfl (Nat.le_of_ble_eq_true rfl) dL_law_367 ⟨(Nat.le_of_ble_eq_true rfl), (Nat.le_of_ble_eq_true rfl)⟩) (fun H locs hP hD hS => ?_)
  refine lv_icmp_eq (tgt := 953) hx hb dL_law_370 (by decide) (fun _ => ?_) (fun hc => absurd rfl hc)
  exact kk mX mR mF mT oP mA mI mJ mH mK mD mG oZ mY H locs hR hP hD hS
set_option maxHeartbeats 4000000 in
set_option maxRecDepth 100000 in
theorem lc_rack {p : Program} {l : Launch} {e : Env} {s : State} {m : MethodId} {below : List Frame} {meth : Method} {c : Code} {D : va_G} {C : Nat → ClassId} {A : Nat → Prop} {a : Nat → Nat → Nat} {aZ : Nat → Nat} {b L : Nat} {xs : Nat → Int32} {Q : State → Prop} {ls : Array Slot} {i : Int32} {mX mR mF mT mP mA mI mJ mH mK mD : Mm} {mG : Int64} {mZ : Mm} {mY : Int64} {H : Heap} {locs : List Loc} (hx : p.tables.exec = Jvm.exec) (hb : c.code = cL_law) (hml : c.maxLocals = 4) (hown : s.vm.findClass RL = some m.cls) (hts : ∀ w ∈ wsL_law, w.before #[Value.ref b] s = true) (hX : va_X b L xs s s.heap) (hbl : b < s.heap.size) (hbA : ¬ A b) (hA : ∀ q : Nat, s.heap.size ≤ q → A q) (hK : va_K D vwCl (tyL C) s) (hN : vv_NE C A s) (h1 : vp_in (i + 1) L) (h2 : vp_in (i + 2) L) (h3 : vp_in (i + 3) L) (h4 : vp_in (i + 4) L) (hl : lv_has ls 4 [(0, .ref b), (1, .ref (a 0 0)), (2, .ref (aZ 0)), (3, .int i)]) (hR : Rl mX mR mT mP mI mJ mD mG mZ mY) (hP : va_P D vwCl (w_L C a aZ mX mR mF mT mP mA mI mJ mH mK mD mG mZ mY) H) (hD : va_D A (w_L C a aZ mX mR mF mT mP mA mI mJ mH mK mD mG mZ mY)) (hS : va_S A s.heap H locs)
    (kk : ∀ (mX mR mF mT mP mA mI mJ mH mK mD : Mm) (mG : Int64) (mZ : Mm) (mY : Int64) (H : Heap) (locs : List Loc), Rl mX mR mT mP mI mJ mD mG mZ mY → va_P D vwCl (w_L C a aZ mX mR mF mT mP mA mI mJ mH mK mD mG mZ mY) H → va_D A (w_L C a aZ mX mR mF mT mP mA mI mJ mH mK mD mG mZ mY) → va_S A s.heap H locs → W p l e room_1 s m #[Value.ref b] below meth c H locs 100 2000 Q (F0 m 953 ls [])) : W p l e room_1 s m #[Value.ref b] below meth c H locs 100 2000 Q (F0 m 375 ls []) := by
  obtain ⟨r, oP, oZ, e1, e2, hR⟩ := st_rack hR  (xs (i + 1).toNatClampNeg)
  refine lv_aload_n hx hb dL_law_375 rfl (lv_at hl 1 rfl) ?_
  refine lv_aload_n hx hb dL_law_376 rfl (lv_at hl 0 rfl) ?_
  refine lv_iload_n hx hb dL_law_377 rfl (lv_at hl 3 rfl) ?_
  refine lv_iconst (v := 1) hx hb dL_law_378 (by decide) ?_
  refine lv_iadd hx hb dL_law_379 ?_
  refine va_sld hx hb hX hbl hbA hS h1 dL_law_380 ?_
  have hs9 : vv_Sub D H A (w_FR C a mX ++ (w_Told C (a 3) mT ++ w_Mom C (a 3) (a 4) mP)) (w_FR C a mX ++ (w_Told C (a 3) mT ++ w_Mom C (a 3) (a 4) oP)) (w_L C a aZ mX mR mF mT oP mA mI mJ mH mK mD mG mZ mY) := vv_Sub.part (ws := w_L C a aZ mX mR mF mT mP mA mI mJ mH mK mD mG mZ mY) (wr := w_Rd C (a 2) (a 1) mR ++ (w_Told C (a 2) mF ++ (w_Mom C (a 3) (a 5) mA ++ (w_Mom C (a 3) (a 6) mI ++ (w_Mom C (a 3) (a 7) mJ ++ (w_Hg C (a 3) (a 4) (a 5) (a 8) mH ++ (w_Tk C (a 3) (a 4) (a 9) mK ++ (w_Dy C (a 10) mD ++ (w_Mk (a 3) (a 4) (a 11) mG ++ w_MD C aZ mZ mY))))))))) [0, 1, 2, 12, 13, 14, 15, 16, 17, 18, 19, 20, 21, 22, 23] [3, 4, 5, 6, 7, 8, 9, 10, 11, 24, 25, 26, 27, 28, 29, 30, 31, 32, 33, 34, 35, 36, 37, 38, 39, 40, 41, 42, 43, 44, 45, 46, 47, 48, 49, 50, 51, 52, 53, 54, 55, 56, 57, 58, 59, 60, 61, 62, 63, 64, 65, 66, 67, 68, 69, 70, 71, 72, 73, 74, 75, 76, 77, 78] [64, 65, 66, 0, 1, 2, 3, 4, 5, 6, 7, 8, 67, 68, 69, 70, 71, 72, 73, 74, 75, 76, 77, 78, 9, 10, 11, 12, 13, 14, 15, 16, 17, 18, 19, 20, 21, 22, 23, 24, 25, 26, 27, 28, 29, 30, 31, 32, 33, 34, 35, 36, 37, 38, 39, 40, 41, 42, 43, 44, 45, 46, 47, 48, 49, 50, 51, 52, 53, 54, 55, 56, 57, 58, 59, 60, 61, 62, 63] hP hD hS hA rfl rfl (by decide) rfl
  refine vv_goi (wn := w_L C a aZ mX mR mF mT oP mA mI mJ mH mK mD mG mZ mY) hK hs9 hS (vv_rV (As := [.int (xs (i + 1).toNatClampNeg)]) (rest := []) hx hb hml hown hts hK hN hS hs9 (ccX7_rack l D C H.size a mX mT mP (xs (i + 1).toNatClampNeg) r oP e1) (cwV 1 hts gL_law_X7_rack rfl rfl rfl (by decide +kernel) ⟨(Nat.le_of_ble_eq_true rfl), (Nat.le_of_ble_eq_true rfl)⟩) (va_recv hK hP (ci := 7) (q0 := 0) rfl rfl) rfl hl.1 rfl (Nat.le_of_ble_eq_true rfl) dL_law_381 ⟨(Nat.le_of_ble_eq_true rfl), (Nat.le_of_ble_eq_true rfl)⟩) (fun H locs hP hD hS => ?_)
  refine lv_aload_n hx hb dL_law_384 rfl (lv_at hl 2 rfl) ?_
  refine lv_aload_n hx hb dL_law_385 rfl (lv_at hl 0 rfl) ?_
  refine lv_iload_n hx hb dL_law_386 rfl (lv_at hl 3 rfl) ?_
  refine lv_iconst (v := 1) hx hb dL_law_387 (by decide) ?_
  refine lv_iadd hx hb dL_law_388 ?_
  refine va_sld hx hb hX hbl hbA hS h1 dL_law_389 ?_
  have hs9 := law_subM oZ mY hP hD hS hA
  refine vv_goi (wn := w_L C a aZ mX mR mF mT oP mA mI mJ mH mK mD mG oZ mY) hK hs9 hS (vv_rV (As := [.int (xs (i + 1).toNatClampNeg)]) (rest := [.int r]) hx hb hml hown hts hK hN hS hs9 (ccX8_rack l D C H.size aZ mZ mY (xs (i + 1).toNatClampNeg) r oZ e2) (cwV 1 hts gL_law_X8_rack rfl rfl rfl (by decide +kernel) ⟨(Nat.le_of_ble_eq_true rfl), (Nat.le_of_ble_eq_true rfl)⟩) (va_recv hK hP (ci := 8) (q0 := 60) rfl rfl) rfl hl.1 rfl (Nat.le_of_ble_eq_true rfl) dL_law_390 ⟨(Nat.le_of_ble_eq_true rfl), (Nat.le_of_ble_eq_true rfl)⟩) (fun H locs hP hD hS => ?_)
  refine lv_icmp_eq (tgt := 953) hx hb dL_law_393 (by decide) (fun _ => ?_) (fun hc => absurd rfl hc)
  exact kk mX mR mF mT oP mA mI mJ mH mK mD mG oZ mY H locs hR hP hD hS
set_option maxHeartbeats 4000000 in
set_option maxRecDepth 100000 in
theorem lc_basket {p : Program} {l : Launch} {e : Env} {s : State} {m : MethodId} {below : List Frame} {meth : Method} {c : Code} {D : va_G} {C : Nat → ClassId} {A : Nat → Prop} {a : Nat → Nat → Nat} {aZ : Nat → Nat} {b L : Nat} {xs : Nat → Int32} {Q : State → Prop} {ls : Array Slot} {i : Int32} {mX mR mF mT mP mA mI mJ mH mK mD : Mm} {mG : Int64} {mZ : Mm} {mY : Int64} {H : Heap} {locs : List Loc} (hx : p.tables.exec = Jvm.exec) (hb : c.code = cL_law) (hml : c.maxLocals = 4) (hown : s.vm.findClass RL = some m.cls) (hts : ∀ w ∈ wsL_law, w.before #[Value.ref b] s = true) (hX : va_X b L xs s s.heap) (hbl : b < s.heap.size) (hbA : ¬ A b) (hA : ∀ q : Nat, s.heap.size ≤ q → A q) (hK : va_K D vwCl (tyL C) s) (hN : vv_NE C A s) (h1 : vp_in (i + 1) L) (h2 : vp_in (i + 2) L) (h3 : vp_in (i + 3) L) (h4 : vp_in (i + 4) L) (hl : lv_has ls 4 [(0, .ref b), (1, .ref (a 0 0)), (2, .ref (aZ 0)), (3, .int i)]) (hR : Rl mX mR mT mP mI mJ mD mG mZ mY) (hP : va_P D vwCl (w_L C a aZ mX mR mF mT mP mA mI mJ mH mK mD mG mZ mY) H) (hD : va_D A (w_L C a aZ mX mR mF mT mP mA mI mJ mH mK mD mG mZ mY)) (hS : va_S A s.heap H locs)
    (kk : ∀ (mX mR mF mT mP mA mI mJ mH mK mD : Mm) (mG : Int64) (mZ : Mm) (mY : Int64) (H : Heap) (locs : List Loc), Rl mX mR mT mP mI mJ mD mG mZ mY → va_P D vwCl (w_L C a aZ mX mR mF mT mP mA mI mJ mH mK mD mG mZ mY) H → va_D A (w_L C a aZ mX mR mF mT mP mA mI mJ mH mK mD mG mZ mY) → va_S A s.heap H locs → W p l e room_1 s m #[Value.ref b] below meth c H locs 100 2000 Q (F0 m 953 ls [])) : W p l e room_1 s m #[Value.ref b] below meth c H locs 100 2000 Q (F0 m 398 ls []) := by
  obtain ⟨r, oP, oZ, e1, e2, hR⟩ := st_basket hR  (xs (i + 1).toNatClampNeg)
  refine lv_aload_n hx hb dL_law_398 rfl (lv_at hl 1 rfl) ?_
  refine lv_aload_n hx hb dL_law_399 rfl (lv_at hl 0 rfl) ?_
  refine lv_iload_n hx hb dL_law_400 rfl (lv_at hl 3 rfl) ?_
  refine lv_iconst (v := 1) hx hb dL_law_401 (by decide) ?_
  refine lv_iadd hx hb dL_law_402 ?_
  refine va_sld hx hb hX hbl hbA hS h1 dL_law_403 ?_
  have hs9 : vv_Sub D H A (w_FR C a mX ++ (w_Told C (a 3) mT ++ w_Mom C (a 3) (a 4) mP)) (w_FR C a mX ++ (w_Told C (a 3) mT ++ w_Mom C (a 3) (a 4) oP)) (w_L C a aZ mX mR mF mT oP mA mI mJ mH mK mD mG mZ mY) := vv_Sub.part (ws := w_L C a aZ mX mR mF mT mP mA mI mJ mH mK mD mG mZ mY) (wr := w_Rd C (a 2) (a 1) mR ++ (w_Told C (a 2) mF ++ (w_Mom C (a 3) (a 5) mA ++ (w_Mom C (a 3) (a 6) mI ++ (w_Mom C (a 3) (a 7) mJ ++ (w_Hg C (a 3) (a 4) (a 5) (a 8) mH ++ (w_Tk C (a 3) (a 4) (a 9) mK ++ (w_Dy C (a 10) mD ++ (w_Mk (a 3) (a 4) (a 11) mG ++ w_MD C aZ mZ mY))))))))) [0, 1, 2, 12, 13, 14, 15, 16, 17, 18, 19, 20, 21, 22, 23] [3, 4, 5, 6, 7, 8, 9, 10, 11, 24, 25, 26, 27, 28, 29, 30, 31, 32, 33, 34, 35, 36, 37, 38, 39, 40, 41, 42, 43, 44, 45, 46, 47, 48, 49, 50, 51, 52, 53, 54, 55, 56, 57, 58, 59, 60, 61, 62, 63, 64, 65, 66, 67, 68, 69, 70, 71, 72, 73, 74, 75, 76, 77, 78] [64, 65, 66, 0, 1, 2, 3, 4, 5, 6, 7, 8, 67, 68, 69, 70, 71, 72, 73, 74, 75, 76, 77, 78, 9, 10, 11, 12, 13, 14, 15, 16, 17, 18, 19, 20, 21, 22, 23, 24, 25, 26, 27, 28, 29, 30, 31, 32, 33, 34, 35, 36, 37, 38, 39, 40, 41, 42, 43, 44, 45, 46, 47, 48, 49, 50, 51, 52, 53, 54, 55, 56, 57, 58, 59, 60, 61, 62, 63] hP hD hS hA rfl rfl (by decide) rfl
  refine vv_goi (wn := w_L C a aZ mX mR mF mT oP mA mI mJ mH mK mD mG mZ mY) hK hs9 hS (vv_rV (As := [.int (xs (i + 1).toNatClampNeg)]) (rest := []) hx hb hml hown hts hK hN hS hs9 (ccX7_basket l D C H.size a mX mT mP (xs (i + 1).toNatClampNeg) r oP e1) (cwV 1 hts gL_law_X7_basket rfl rfl rfl (by decide +kernel) ⟨(Nat.le_of_ble_eq_true rfl), (Nat.le_of_ble_eq_true rfl)⟩) (va_recv hK hP (ci := 7) (q0 := 0) rfl rfl) rfl hl.1 rfl (Nat.le_of_ble_eq_true rfl) dL_law_404 ⟨(Nat.le_of_ble_eq_true rfl), (Nat.le_of_ble_eq_true rfl)⟩) (fun H locs hP hD hS => ?_)
  refine lv_aload_n hx hb dL_law_407 rfl (lv_at hl 2 rfl) ?_
  refine lv_aload_n hx hb dL_law_408 rfl (lv_at hl 0 rfl) ?_
  refine lv_iload_n hx hb dL_law_409 rfl (lv_at hl 3 rfl) ?_
  refine lv_iconst (v := 1) hx hb dL_law_410 (by decide) ?_
  refine lv_iadd hx hb dL_law_411 ?_
  refine va_sld hx hb hX hbl hbA hS h1 dL_law_412 ?_
  have hs9 := law_subM oZ mY hP hD hS hA
  refine vv_goi (wn := w_L C a aZ mX mR mF mT oP mA mI mJ mH mK mD mG oZ mY) hK hs9 hS (vv_rV (As := [.int (xs (i + 1).toNatClampNeg)]) (rest := [.int r]) hx hb hml hown hts hK hN hS hs9 (ccX8_basket l D C H.size aZ mZ mY (xs (i + 1).toNatClampNeg) r oZ e2) (cwV 1 hts gL_law_X8_basket rfl rfl rfl (by decide +kernel) ⟨(Nat.le_of_ble_eq_true rfl), (Nat.le_of_ble_eq_true rfl)⟩) (va_recv hK hP (ci := 8) (q0 := 60) rfl rfl) rfl hl.1 rfl (Nat.le_of_ble_eq_true rfl) dL_law_413 ⟨(Nat.le_of_ble_eq_true rfl), (Nat.le_of_ble_eq_true rfl)⟩) (fun H locs hP hD hS => ?_)
  refine lv_icmp_eq (tgt := 953) hx hb dL_law_416 (by decide) (fun _ => ?_) (fun hc => absurd rfl hc)
  exact kk mX mR mF mT oP mA mI mJ mH mK mD mG oZ mY H locs hR hP hD hS
set_option maxHeartbeats 4000000 in
set_option maxRecDepth 100000 in
theorem lc_go {p : Program} {l : Launch} {e : Env} {s : State} {m : MethodId} {below : List Frame} {meth : Method} {c : Code} {D : va_G} {C : Nat → ClassId} {A : Nat → Prop} {a : Nat → Nat → Nat} {aZ : Nat → Nat} {b L : Nat} {xs : Nat → Int32} {Q : State → Prop} {ls : Array Slot} {i : Int32} {mX mR mF mT mP mA mI mJ mH mK mD : Mm} {mG : Int64} {mZ : Mm} {mY : Int64} {H : Heap} {locs : List Loc} (hx : p.tables.exec = Jvm.exec) (hb : c.code = cL_law) (hml : c.maxLocals = 4) (hown : s.vm.findClass RL = some m.cls) (hts : ∀ w ∈ wsL_law, w.before #[Value.ref b] s = true) (hX : va_X b L xs s s.heap) (hbl : b < s.heap.size) (hbA : ¬ A b) (hA : ∀ q : Nat, s.heap.size ≤ q → A q) (hK : va_K D vwCl (tyL C) s) (hN : vv_NE C A s) (h1 : vp_in (i + 1) L) (h2 : vp_in (i + 2) L) (h3 : vp_in (i + 3) L) (h4 : vp_in (i + 4) L) (hl : lv_has ls 4 [(0, .ref b), (1, .ref (a 0 0)), (2, .ref (aZ 0)), (3, .int i)]) (hR : Rl mX mR mT mP mI mJ mD mG mZ mY) (hP : va_P D vwCl (w_L C a aZ mX mR mF mT mP mA mI mJ mH mK mD mG mZ mY) H) (hD : va_D A (w_L C a aZ mX mR mF mT mP mA mI mJ mH mK mD mG mZ mY)) (hS : va_S A s.heap H locs)
    (kk : ∀ (mX mR mF mT mP mA mI mJ mH mK mD : Mm) (mG : Int64) (mZ : Mm) (mY : Int64) (H : Heap) (locs : List Loc), Rl mX mR mT mP mI mJ mD mG mZ mY → va_P D vwCl (w_L C a aZ mX mR mF mT mP mA mI mJ mH mK mD mG mZ mY) H → va_D A (w_L C a aZ mX mR mF mT mP mA mI mJ mH mK mD mG mZ mY) → va_S A s.heap H locs → W p l e room_1 s m #[Value.ref b] below meth c H locs 100 2000 Q (F0 m 953 ls [])) : W p l e room_1 s m #[Value.ref b] below meth c H locs 100 2000 Q (F0 m 421 ls []) := by
  obtain ⟨r, oP, oZ, e1, e2, hR⟩ := st_go hR  (xs (i + 1).toNatClampNeg)
  refine lv_aload_n hx hb dL_law_421 rfl (lv_at hl 1 rfl) ?_
  refine lv_aload_n hx hb dL_law_422 rfl (lv_at hl 0 rfl) ?_
  refine lv_iload_n hx hb dL_law_423 rfl (lv_at hl 3 rfl) ?_
  refine lv_iconst (v := 1) hx hb dL_law_424 (by decide) ?_
  refine lv_iadd hx hb dL_law_425 ?_
  refine va_sld hx hb hX hbl hbA hS h1 dL_law_426 ?_
  have hs9 : vv_Sub D H A (w_FR C a mX ++ (w_Told C (a 3) mT ++ w_Mom C (a 3) (a 4) mP)) (w_FR C a mX ++ (w_Told C (a 3) mT ++ w_Mom C (a 3) (a 4) oP)) (w_L C a aZ mX mR mF mT oP mA mI mJ mH mK mD mG mZ mY) := vv_Sub.part (ws := w_L C a aZ mX mR mF mT mP mA mI mJ mH mK mD mG mZ mY) (wr := w_Rd C (a 2) (a 1) mR ++ (w_Told C (a 2) mF ++ (w_Mom C (a 3) (a 5) mA ++ (w_Mom C (a 3) (a 6) mI ++ (w_Mom C (a 3) (a 7) mJ ++ (w_Hg C (a 3) (a 4) (a 5) (a 8) mH ++ (w_Tk C (a 3) (a 4) (a 9) mK ++ (w_Dy C (a 10) mD ++ (w_Mk (a 3) (a 4) (a 11) mG ++ w_MD C aZ mZ mY))))))))) [0, 1, 2, 12, 13, 14, 15, 16, 17, 18, 19, 20, 21, 22, 23] [3, 4, 5, 6, 7, 8, 9, 10, 11, 24, 25, 26, 27, 28, 29, 30, 31, 32, 33, 34, 35, 36, 37, 38, 39, 40, 41, 42, 43, 44, 45, 46, 47, 48, 49, 50, 51, 52, 53, 54, 55, 56, 57, 58, 59, 60, 61, 62, 63, 64, 65, 66, 67, 68, 69, 70, 71, 72, 73, 74, 75, 76, 77, 78] [64, 65, 66, 0, 1, 2, 3, 4, 5, 6, 7, 8, 67, 68, 69, 70, 71, 72, 73, 74, 75, 76, 77, 78, 9, 10, 11, 12, 13, 14, 15, 16, 17, 18, 19, 20, 21, 22, 23, 24, 25, 26, 27, 28, 29, 30, 31, 32, 33, 34, 35, 36, 37, 38, 39, 40, 41, 42, 43, 44, 45, 46, 47, 48, 49, 50, 51, 52, 53, 54, 55, 56, 57, 58, 59, 60, 61, 62, 63] hP hD hS hA rfl rfl (by decide) rfl
  refine vv_goi (wn := w_L C a aZ mX mR mF mT oP mA mI mJ mH mK mD mG mZ mY) hK hs9 hS (vv_rV (As := [.int (xs (i + 1).toNatClampNeg)]) (rest := []) hx hb hml hown hts hK hN hS hs9 (ccX7_go l D C H.size a mX mT mP (xs (i + 1).toNatClampNeg) r oP e1) (cwV 1 hts gL_law_X7_go rfl rfl rfl (by decide +kernel) ⟨(Nat.le_of_ble_eq_true rfl), (Nat.le_of_ble_eq_true rfl)⟩) (va_recv hK hP (ci := 7) (q0 := 0) rfl rfl) rfl hl.1 rfl (Nat.le_of_ble_eq_true rfl) dL_law_427 ⟨(Nat.le_of_ble_eq_true rfl), (Nat.le_of_ble_eq_true rfl)⟩) (fun H locs hP hD hS => ?_)
  refine lv_aload_n hx hb dL_law_430 rfl (lv_at hl 2 rfl) ?_
  refine lv_aload_n hx hb dL_law_431 rfl (lv_at hl 0 rfl) ?_
  refine lv_iload_n hx hb dL_law_432 rfl (lv_at hl 3 rfl) ?_
  refine lv_iconst (v := 1) hx hb dL_law_433 (by decide) ?_
  refine lv_iadd hx hb dL_law_434 ?_
  refine va_sld hx hb hX hbl hbA hS h1 dL_law_435 ?_
  have hs9 := law_subM oZ mY hP hD hS hA
  refine vv_goi (wn := w_L C a aZ mX mR mF mT oP mA mI mJ mH mK mD mG oZ mY) hK hs9 hS (vv_rV (As := [.int (xs (i + 1).toNatClampNeg)]) (rest := [.int r]) hx hb hml hown hts hK hN hS hs9 (ccX8_go l D C H.size aZ mZ mY (xs (i + 1).toNatClampNeg) r oZ e2) (cwV 1 hts gL_law_X8_go rfl rfl rfl (by decide +kernel) ⟨(Nat.le_of_ble_eq_true rfl), (Nat.le_of_ble_eq_true rfl)⟩) (va_recv hK hP (ci := 8) (q0 := 60) rfl rfl) rfl hl.1 rfl (Nat.le_of_ble_eq_true rfl) dL_law_436 ⟨(Nat.le_of_ble_eq_true rfl), (Nat.le_of_ble_eq_true rfl)⟩) (fun H locs hP hD hS => ?_)
  refine lv_icmp_eq (tgt := 953) hx hb dL_law_439 (by decide) (fun _ => ?_) (fun hc => absurd rfl hc)
  exact kk mX mR mF mT oP mA mI mJ mH mK mD mG oZ mY H locs hR hP hD hS
