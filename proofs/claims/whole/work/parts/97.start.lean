set_option maxHeartbeats 4000000 in
set_option maxRecDepth 100000 in
theorem whole_start {p : Program} {e : Env} {s : State} {m : MethodId} {below : List Frame} {meth : Method} {c : Code} (l : Launch) (hflags : l.flags = flags0) {b L : Nat} {xs : Nat → Int32} (hL : L ≤ 320) (C0 : lw_At p s m meth c b L xs) : W p l e room_1 s m #[Value.ref b] below meth c s.heap [] 0 0 (lw_Z below #[Value.ref b] s) (entryFrame m ([Value.ref b] : List Value).toArray 4) := by
  obtain ⟨hx, hb, hr, hml, hown, hts0, hX, hbl, hlocks, hgv⟩ := id C0
  have hown : s.vm.findClass RL = some m.cls := hown
  obtain ⟨D, C, hK, hN, hXX⟩ := law_base hts0 hgv
  have hts : ∀ w ∈ wsL_law, w.before #[Value.ref b] s = true := fun w hw => hts0 w (wsL_law_in w hw)
  have hA : ∀ q : Nat, s.heap.size ≤ q → (fun q : Nat => s.heap.size ≤ q) q := fun _ h => h
  have hS : va_S (fun q : Nat => s.heap.size ≤ q) s.heap s.heap [] := va_S.rf
  have hP : va_P D vwCl [] s.heap := fun k q h => by simp at h
  have hD : va_D (fun q : Nat => s.heap.size ≤ q) [] := ⟨fun i j p q h => by simp at h, fun k q h => by simp at h⟩
  have q0 := (hts (Cond.classLink RL 7 RX7) (List.mem_of_getElem? (i := 0) (by decide +kernel)))
  have q1 := (hts (Cond.instantiable RX7 10) (List.mem_of_getElem? (i := 1) (by decide +kernel)))
  have q2 := (hts (Cond.initialized RX7) (List.mem_of_getElem? (i := 2) (by decide +kernel)))
  have q3 := (hts (Cond.classLink RL 10 RX8) (List.mem_of_getElem? (i := 3) (by decide +kernel)))
  have q4 := (hts (Cond.instantiable RX8 26) (List.mem_of_getElem? (i := 4) (by decide +kernel)))
  have q5 := (hts (Cond.initialized RX8) (List.mem_of_getElem? (i := 5) (by decide +kernel)))
  have q6 := (hts (Cond.methodLink RL 9 yX7_init) (List.mem_of_getElem? (i := 7) (by decide +kernel)))
  have q7 := (hts (Cond.instanceMethod yX7_init) (List.mem_of_getElem? (i := 8) (by decide +kernel)))
  have q8 := (hts (Cond.methodLink RL 12 yX8_init) (List.mem_of_getElem? (i := 105) (by decide +kernel)))
  have q9 := (hts (Cond.instanceMethod yX8_init) (List.mem_of_getElem? (i := 106) (by decide +kernel)))
  have hl := lv_entry ([.ref b]) (n := 4) (Nat.le_of_ble_eq_true rfl)
  rw [lg_entry_eq]
  generalize (lg_sl ([.ref b]) ++ List.replicate (4 - (lg_sl ([.ref b])).length) Slot.unset).toArray = ls at hl ⊢
  have hl : lv_has ls 4 [(0, .ref b)] := hl
  refine va_new (ci := 7) (fs := [.null, .null, .null, .null, .null, .null, .null, .null, .null, .null]) (C := RX7) (T := TX7) (N := 10) hx hb hts inlX7 tyX7 tyX7_ok hown q0 q1 q2 hK hP hD hS hA rfl (fun j hj => by rcases (show j = 0 ∨ j = 1 ∨ j = 2 ∨ j = 3 ∨ j = 4 ∨ j = 5 ∨ j = 6 ∨ j = 7 ∨ j = 8 ∨ j = 9 by omega) with rfl | rfl | rfl | rfl | rfl | rfl | rfl | rfl | rfl | rfl <;> rfl) (Nat.le_of_ble_eq_true rfl) (Nat.le_of_ble_eq_true rfl) dL_law_0 (fun q7v H hP hD hS => ?_)
  have hP : va_P D vwCl [(q7v, .inr (7, [.null, .null, .null, .null, .null, .null, .null, .null, .null, .null]))] H := hP
  have hD : va_D (fun q : Nat => s.heap.size ≤ q) [(q7v, .inr (7, [.null, .null, .null, .null, .null, .null, .null, .null, .null, .null]))] := hD
  refine W.widen (k := 1) (n := 10) (Nat.le_of_ble_eq_true rfl) (Nat.le_of_ble_eq_true rfl) ?_
  refine lv_dup hx hb dL_law_3 rfl ?_
  have hs9 : vv_SubC D H (fun q : Nat => s.heap.size ≤ q) [(q7v, .inr (7, [.null, .null, .null, .null, .null, .null, .null, .null, .null, .null]))] [] := vv_SubC.part [0] [] hP hD hS hA rfl rfl (by decide)
  refine vv_goc hs9 hS (vv_rI (As := []) (rest := [.ref q7v]) hx hb hml hown hts hK hN hXX hS hs9 (ciX7 l D C H.size q7v) (cwI 0 hts gL_law_X7_init rfl rfl rfl q2 q6 q7 rfl (by decide +kernel) ⟨(Nat.le_of_ble_eq_true rfl), (Nat.le_of_ble_eq_true rfl)⟩) rfl hl.1 rfl (Nat.le_of_ble_eq_true rfl) dL_law_4 ⟨(Nat.le_of_ble_eq_true rfl), (Nat.le_of_ble_eq_true rfl)⟩) (fun u H2 locs2 hu hP2 hD2 hS2 => ?_)
  subst hu
  have hS := hS2
  have hP : va_P D vwCl (w_All C u zz zz zz zz zz zz zz zz zz zz zz 0) H2 := hP2
  have hD : va_D (fun q : Nat => s.heap.size ≤ q) (w_All C u zz zz zz zz zz zz zz zz zz zz zz 0) := hD2
  refine W.widen (k := 60) (n := 683) (Nat.le_of_ble_eq_true rfl) (Nat.le_of_ble_eq_true rfl) ?_
  refine lv_astore_n (lv' := [(1, .ref (u 0 0)), (0, .ref b)]) hx hb dL_law_7 rfl hl (by decide) rfl (fun ls hl => ?_)
  refine va_new (ci := 8) (fs := [.long 0, .null, .int 0, .null, .null, .null, .null, .null, .null, .null, .null, .null, .int 0, .int 0, .int 0, .int 0, .int 0, .null, .null, .null, .null, .null, .null, .int 0, .null, .null]) (C := RX8) (T := TX8) (N := 26) hx hb hts inlX8 tyX8 tyX8_ok hown q3 q4 q5 hK hP hD hS hA rfl (fun j hj => by rcases (show j = 0 ∨ j = 1 ∨ j = 2 ∨ j = 3 ∨ j = 4 ∨ j = 5 ∨ j = 6 ∨ j = 7 ∨ j = 8 ∨ j = 9 ∨ j = 10 ∨ j = 11 ∨ j = 12 ∨ j = 13 ∨ j = 14 ∨ j = 15 ∨ j = 16 ∨ j = 17 ∨ j = 18 ∨ j = 19 ∨ j = 20 ∨ j = 21 ∨ j = 22 ∨ j = 23 ∨ j = 24 ∨ j = 25 by omega) with rfl | rfl | rfl | rfl | rfl | rfl | rfl | rfl | rfl | rfl | rfl | rfl | rfl | rfl | rfl | rfl | rfl | rfl | rfl | rfl | rfl | rfl | rfl | rfl | rfl | rfl <;> rfl) (Nat.le_of_ble_eq_true rfl) (Nat.le_of_ble_eq_true rfl) dL_law_8 (fun q8v H hP hD hS => ?_)
  refine W.widen (k := 61) (n := 709) (Nat.le_of_ble_eq_true rfl) (Nat.le_of_ble_eq_true rfl) ?_
  refine lv_dup hx hb dL_law_11 rfl ?_
  have hs9 : vv_SubC D H (fun q : Nat => s.heap.size ≤ q) [(q8v, .inr (8, [.long 0, .null, .int 0, .null, .null, .null, .null, .null, .null, .null, .null, .null, .int 0, .int 0, .int 0, .int 0, .int 0, .null, .null, .null, .null, .null, .null, .int 0, .null, .null]))] (w_All C u zz zz zz zz zz zz zz zz zz zz zz 0) := vv_SubC.part [60] [0, 1, 2, 3, 4, 5, 6, 7, 8, 9, 10, 11, 12, 13, 14, 15, 16, 17, 18, 19, 20, 21, 22, 23, 24, 25, 26, 27, 28, 29, 30, 31, 32, 33, 34, 35, 36, 37, 38, 39, 40, 41, 42, 43, 44, 45, 46, 47, 48, 49, 50, 51, 52, 53, 54, 55, 56, 57, 58, 59] hP hD hS hA rfl rfl (by decide)
  refine vv_goc hs9 hS (vv_rI (As := []) (rest := [.ref q8v]) hx hb hml hown hts hK hN hXX hS hs9 (ciX8 l D C H.size q8v) (cwI 0 hts gL_law_X8_init rfl rfl rfl q5 q8 q9 rfl (by decide +kernel) ⟨(Nat.le_of_ble_eq_true rfl), (Nat.le_of_ble_eq_true rfl)⟩) rfl hl.1 rfl (Nat.le_of_ble_eq_true rfl) dL_law_12 ⟨(Nat.le_of_ble_eq_true rfl), (Nat.le_of_ble_eq_true rfl)⟩) (fun v H4 locs4 hv hP4 hD4 hS4 => ?_)
  subst hv
  refine W.widen (k := 100) (n := 2000) (Nat.le_of_ble_eq_true rfl) (Nat.le_of_ble_eq_true rfl) ?_
  refine lv_astore_n (lv' := [(2, .ref (v 0)), (1, .ref (u 0 0)), (0, .ref b)]) hx hb dL_law_15 rfl hl (by decide) rfl (fun ls hl => ?_)
  refine lv_iconst (v := 0) hx hb dL_law_16 (by decide) ?_
  refine lv_istore_n (lv' := [(3, .int 0), (2, .ref (v 0)), (1, .ref (u 0 0)), (0, .ref b)]) hx hb dL_law_17 rfl hl (by decide) rfl (fun ls hl => ?_)
  exact law_loop hL C0 hK hN (L + 1) 0 (Nat.zero_le L) (by omega) zz zz zz zz zz zz zz zz zz zz zz 0 zz 0 H4 locs4 Rl_zero hP4 hD4 hS4 ls (lv_sub hl [3, 2, 1, 0] rfl)
