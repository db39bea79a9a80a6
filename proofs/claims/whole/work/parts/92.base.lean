/-! THE LAW'S START: classes, arrays, texts of the launch -/
theorem law_K {s : State} {b : Nat} (hts : ∀ w ∈ lw_tbl, w.before #[Value.ref b] s = true) : ∃ D : va_G, ∀ (k : Nat) (q : vw_C), vwCl[k]? = some q → u_Kn s q.1 q.2.1 q.2.2 (D.1 k) (D.2 k) := by
  obtain ⟨c0, i0, h0⟩ := u_known (C := RX0) (T := TX0) (N := 4) (n := 4) hts inX0 (hts (.instantiable RX0 4) (List.mem_append_right _ (List.mem_of_getElem? (i := 240) (by decide +kernel))))
  obtain ⟨c1, i1, h1⟩ := u_known (C := RX1) (T := TX1) (N := 10) (n := 10) hts inX1 (hts (.instantiable RX1 10) (List.mem_append_right _ (List.mem_of_getElem? (i := 165) (by decide +kernel))))
  obtain ⟨c2, i2, h2⟩ := u_known (C := RX2) (T := TX2) (N := 3) (n := 3) hts inX2 (hts (.instantiable RX2 3) (List.mem_append_right _ (List.mem_of_getElem? (i := 263) (by decide +kernel))))
  obtain ⟨c3, i3, h3⟩ := u_known (C := RX3) (T := TX3) (N := 7) (n := 7) hts inX3 (hts (.instantiable RX3 7) (List.mem_append_right _ (List.mem_of_getElem? (i := 122) (by decide +kernel))))
  obtain ⟨c4, i4, h4⟩ := u_known (C := RX4) (T := TX4) (N := 8) (n := 8) hts inX4 (hts (.instantiable RX4 8) (List.mem_append_right _ (List.mem_of_getElem? (i := 25) (by decide +kernel))))
  obtain ⟨c5, i5, h5⟩ := u_known (C := RX5) (T := TX5) (N := 8) (n := 8) hts inX5 (hts (.instantiable RX5 8) (List.mem_append_right _ (List.mem_of_getElem? (i := 206) (by decide +kernel))))
  obtain ⟨c6, i6, h6⟩ := u_known (C := RX6) (T := TX6) (N := 9) (n := 9) hts inX6 (hts (.instantiable RX6 9) (List.mem_append_right _ (List.mem_of_getElem? (i := 31) (by decide +kernel))))
  obtain ⟨c7, i7, h7⟩ := u_known (C := RX7) (T := TX7) (N := 10) (n := 10) hts inX7 (hts (.instantiable RX7 10) (List.mem_append_right _ (List.mem_of_getElem? (i := 17) (by decide +kernel))))
  obtain ⟨c8, i8, h8⟩ := u_known (C := RX8) (T := TX8) (N := 26) (n := 26) hts inX8 (hts (.instantiable RX8 26) (List.mem_append_right _ (List.mem_of_getElem? (i := 735) (by decide +kernel))))
  refine ⟨(fun k => match k with
    | 0 => c0
    | 1 => c1
    | 2 => c2
    | 3 => c3
    | 4 => c4
    | 5 => c5
    | 6 => c6
    | 7 => c7
    | _ => c8, fun k => match k with
    | 0 => i0
    | 1 => i1
    | 2 => i2
    | 3 => i3
    | 4 => i4
    | 5 => i5
    | 6 => i6
    | 7 => i7
    | _ => i8), fun k q hq => ?_⟩
  match k, hq with
  | 0, hq => cases hq; exact h0
  | 1, hq => cases hq; exact h1
  | 2, hq => cases hq; exact h2
  | 3, hq => cases hq; exact h3
  | 4, hq => cases hq; exact h4
  | 5, hq => cases hq; exact h5
  | 6, hq => cases hq; exact h6
  | 7, hq => cases hq; exact h7
  | 8, hq => cases hq; exact h8
  | k + 9, hq => simp [vwCl] at hq
theorem law_A {s : State} {b : Nat} (hts : ∀ w ∈ lw_tbl, w.before #[Value.ref b] s = true) : ∃ (c0 c1 c2 c3 c4 : ClassId), (ArrOfT s c0 .byte ∧ va_RA s c0 .byte) ∧ (ArrOfT s c1 .int ∧ va_RA s c1 .int) ∧ (ArrOfT s c2 .boolean ∧ va_RA s c2 .boolean) ∧ (ArrOfT s c3 (.object "ForeRain$Moment") ∧ va_RA s c3 (.object "ForeRain$Moment")) ∧ (ArrOfT s c4 (.array .int) ∧ va_RA s c4 (.array .int)) := by
  obtain ⟨c0, k0, p0, f0, g0, h0⟩ := Cond.arrayClass_spec (hts (.arrayClass .byte) (List.mem_append_right _ (List.mem_of_getElem? (i := 90) (by decide +kernel))))
  obtain ⟨c1, k1, p1, f1, g1, h1⟩ := Cond.arrayClass_spec (hts (.arrayClass .int) (List.mem_append_right _ (List.mem_of_getElem? (i := 91) (by decide +kernel))))
  obtain ⟨c2, k2, p2, f2, g2, h2⟩ := Cond.arrayClass_spec (hts (.arrayClass .boolean) (List.mem_append_right _ (List.mem_of_getElem? (i := 162) (by decide +kernel))))
  obtain ⟨p3, c3, k3, f3, e3, g3, h3, n3⟩ := Cond.arrayOver_spec (hts (.arrayOver (.object "ForeRain$Moment")) (List.mem_append_right _ (List.mem_of_getElem? (i := 163) (by decide +kernel))))
  obtain ⟨p4, c4, k4, f4, e4, g4, h4, n4⟩ := arrayOverA_spec (hts (.arrayOver (.array .int)) (List.mem_append_right _ (List.mem_of_getElem? (i := 171) (by decide +kernel))))
  exact ⟨c0, c1, c2, c3, c4, ⟨fun n z => ⟨fun k h => (by cases h), k0, g0, p0, h0⟩, f0⟩, ⟨fun n z => ⟨fun k h => (by cases h), k1, g1, p1, h1⟩, f1⟩, ⟨fun n z => ⟨fun k h => (by cases h), k2, g2, p2, h2⟩, f2⟩, ⟨fun n z => ⟨fun k h => (by cases h), k3, g3, p3, h3⟩, ⟨k3, p3, g3, h3, f3, n3⟩⟩, ⟨fun n z => ⟨fun k h => (by cases h), k4, g4, p4, h4⟩, n4⟩⟩
def js_tm (i : Nat) : Term := .string "ForeRain$Reader" (match i with
  | 0 => 44
  | 1 => 56
  | 2 => 64
  | _ => 70)
theorem js4 {p : Nat → Prop} (h0 : p 0) (h1 : p 1) (h2 : p 2) (h3 : p 3) : ∀ i, i < 4 → p i := fun i hi => by
  rcases (show i = 0 ∨ i = 1 ∨ i = 2 ∨ i = 3 by omega) with rfl | rfl | rfl | rfl
  · exact h0
  · exact h1
  · exact h2
  · exact h3
set_option maxRecDepth 100000 in
theorem law_T {s : State} {b : Nat} (hgv : (Jvm.Cond.and given_1 narrow_1).before #[Value.ref b] s = true) : ∃ adK adV : Nat → Nat, vk_S 4 js_len js_byt adK adV (fun q : Nat => s.heap.size ≤ q) s s.heap ∧ ∀ i : Nat, i < 4 → (js_tm i).eval #[Value.ref b] s none [] s = some (.ref (adK i)) := by
  have hs := flat_of_before _ hgv
  refine vk_Sof (args := #[Value.ref b]) (tm := js_tm) (len := js_len) (byt := js_byt) (js4 (by decide) (by decide) (by decide) (by decide)) (js4 (hs _ (by decide +kernel)) (hs _ (by decide +kernel)) (hs _ (by decide +kernel)) (hs _ (by decide +kernel))) (js4 (hs _ (by decide +kernel)) (hs _ (by decide +kernel)) (hs _ (by decide +kernel)) (hs _ (by decide +kernel))) (js4 (hs _ (by decide +kernel)) (hs _ (by decide +kernel)) (hs _ (by decide +kernel)) (hs _ (by decide +kernel))) (js4 (hs _ (by decide +kernel)) (hs _ (by decide +kernel)) (hs _ (by decide +kernel)) (hs _ (by decide +kernel))) ?_ ?_ (fun a h => Nat.not_le.mpr h)
  · refine js4 ?_ ?_ ?_ ?_
    · intro j hj
      have hj : j < 5 := hj
      rcases (show j = 0 ∨ j = 1 ∨ j = 2 ∨ j = 3 ∨ j = 4 by omega) with rfl | rfl | rfl | rfl | rfl
      · exact hs _ (by decide +kernel)
      · exact hs _ (by decide +kernel)
      · exact hs _ (by decide +kernel)
      · exact hs _ (by decide +kernel)
      · exact hs _ (by decide +kernel)
    · intro j hj
      have hj : j < 4 := hj
      rcases (show j = 0 ∨ j = 1 ∨ j = 2 ∨ j = 3 by omega) with rfl | rfl | rfl | rfl
      · exact hs _ (by decide +kernel)
      · exact hs _ (by decide +kernel)
      · exact hs _ (by decide +kernel)
      · exact hs _ (by decide +kernel)
    · intro j hj
      have hj : j < 3 := hj
      rcases (show j = 0 ∨ j = 1 ∨ j = 2 by omega) with rfl | rfl | rfl
      · exact hs _ (by decide +kernel)
      · exact hs _ (by decide +kernel)
      · exact hs _ (by decide +kernel)
    · intro j hj
      have hj : j < 4 := hj
      rcases (show j = 0 ∨ j = 1 ∨ j = 2 ∨ j = 3 by omega) with rfl | rfl | rfl | rfl
      · exact hs _ (by decide +kernel)
      · exact hs _ (by decide +kernel)
      · exact hs _ (by decide +kernel)
      · exact hs _ (by decide +kernel)
  · intro i j hi hj hne
    rcases (show i = 0 ∨ i = 1 ∨ i = 2 ∨ i = 3 by omega) with rfl | rfl | rfl | rfl <;> rcases (show j = 0 ∨ j = 1 ∨ j = 2 ∨ j = 3 by omega) with rfl | rfl | rfl | rfl
    · exact absurd rfl hne
    · exact Or.inl (hs _ (by decide +kernel))
    · exact Or.inl (hs _ (by decide +kernel))
    · exact Or.inl (hs _ (by decide +kernel))
    · exact Or.inr (hs _ (by decide +kernel))
    · exact absurd rfl hne
    · exact Or.inl (hs _ (by decide +kernel))
    · exact Or.inl (hs _ (by decide +kernel))
    · exact Or.inr (hs _ (by decide +kernel))
    · exact Or.inr (hs _ (by decide +kernel))
    · exact absurd rfl hne
    · exact Or.inl (hs _ (by decide +kernel))
    · exact Or.inr (hs _ (by decide +kernel))
    · exact Or.inr (hs _ (by decide +kernel))
    · exact Or.inr (hs _ (by decide +kernel))
    · exact absurd rfl hne
theorem law_base {s : State} {b : Nat} (hts : ∀ w ∈ lw_tbl, w.before #[Value.ref b] s = true) (hgv : (Jvm.Cond.and given_1 narrow_1).before #[Value.ref b] s = true) : ∃ (D : va_G) (C : Nat → ClassId), va_K D vwCl (tyL C) s ∧ vv_NE C (fun q : Nat => s.heap.size ≤ q) s ∧ vv_X s := by
  obtain ⟨D, hD⟩ := law_K hts
  obtain ⟨c0, c1, c2, c3, c4, a0, a1, a2, a3, a4⟩ := law_A hts
  obtain ⟨adK, adV, hT, hE⟩ := law_T hgv
  have hs := flat_of_before _ hgv
  have hA : ∀ a : Nat, a < s.heap.size → ¬ (fun q : Nat => s.heap.size ≤ q) a := fun a h => Nat.not_le.mpr h
  refine ⟨D, fun k => if k = 0 then c0 else if k = 1 then c1 else if k = 2 then c2 else if k = 3 then c3 else if k = 4 then c4 else if k < 20 then adK (k - 10) else adV (k - 20), ⟨hD, fun k q hq => ?_⟩, ⟨⟨?_, ?_, ?_⟩, ⟨?_, ?_, ?_, ?_, ?_, ?_, ?_⟩⟩, ⟨?_, ?_, ?_, ?_, ?_, ?_⟩⟩
  · match k, hq with
    | 0, hq => cases hq; exact a0
    | 1, hq => cases hq; exact a1
    | 2, hq => cases hq; exact a2
    | 3, hq => cases hq; exact a3
    | 4, hq => cases hq; exact a4
    | k + 5, hq => simp at hq
  · exact va_Nw.of rfl (hts (.methodLinkNest RX3 76 yX7_within RX7) (List.mem_append_right _ (List.mem_of_getElem? (i := 520) (by decide +kernel))))
  · exact va_Nw.of rfl (hts (.methodLinkNest RX4 107 yX7_within RX7) (List.mem_append_right _ (List.mem_of_getElem? (i := 427) (by decide +kernel))))
  · exact va_Nw.of rfl (hts (.methodLinkNest RX6 46 yX7_within RX7) (List.mem_append_right _ (List.mem_of_getElem? (i := 482) (by decide +kernel))))
  · have eK : ∀ i, i < 4 → (if 10 + i = 0 then c0 else if 10 + i = 1 then c1 else if 10 + i = 2 then c2 else if 10 + i = 3 then c3 else if 10 + i = 4 then c4 else if 10 + i < 20 then adK (10 + i - 10) else adV (10 + i - 20)) = adK i := fun i hi => by
      rw [if_neg (by omega), if_neg (by omega), if_neg (by omega), if_neg (by omega), if_neg (by omega), if_pos (by omega)]
      congr 1
      omega
    have eV : ∀ i, i < 4 → (if 20 + i = 0 then c0 else if 20 + i = 1 then c1 else if 20 + i = 2 then c2 else if 20 + i = 3 then c3 else if 20 + i = 4 then c4 else if 20 + i < 20 then adK (20 + i - 10) else adV (20 + i - 20)) = adV i := fun i hi => by
      rw [if_neg (by omega), if_neg (by omega), if_neg (by omega), if_neg (by omega), if_neg (by omega), if_neg (by omega)]
      congr 1
      omega
    refine ⟨fun i hi => ?_, fun i j hi hj e => ?_⟩
    · have h := hT.1 i hi
      dsimp only
      rw [eK i hi, eV i hi]
      exact h
    · dsimp only at e
      rw [eK i hi, eK j hj] at e
      exact hT.2 i j hi hj e
  · exact va_Zof (hts (.laysStatic "java/lang/String" "COMPACT_STRINGS" "Z") (List.mem_append_right _ (List.mem_of_getElem? (i := 380) (by decide +kernel)))) (hts (.initialized "java/lang/String") (List.mem_append_right _ (List.mem_of_getElem? (i := 11) (by decide +kernel)))) (va_eqt (hs (.eq (.static "java/lang/String" "COMPACT_STRINGS" "Z") (.int 1)) (by decide +kernel))) hA
  · exact va_Zqof (hts (.laysStatic "jdk/internal/util/Preconditions" "SIOOBE_FORMATTER" "Ljava/util/function/BiFunction;") (List.mem_append_right _ (List.mem_of_getElem? (i := 396) (by decide +kernel)))) (hts (.initialized "jdk/internal/util/Preconditions") (List.mem_append_right _ (List.mem_of_getElem? (i := 13) (by decide +kernel)))) (hs (.isRef (.static "jdk/internal/util/Preconditions" "SIOOBE_FORMATTER" "Ljava/util/function/BiFunction;")) (by decide +kernel)) hA
  · exact vk_R.of (hts (.stringRef RX4 44 "piece") (List.mem_append_right _ (List.mem_of_getElem? (i := 366) (by decide +kernel)))) (hE 0 (by omega))
  · exact vk_R.of (hts (.stringRef RX4 56 "spot") (List.mem_append_right _ (List.mem_of_getElem? (i := 428) (by decide +kernel)))) (hE 1 (by omega))
  · exact vk_R.of (hts (.stringRef RX4 64 "sun") (List.mem_append_right _ (List.mem_of_getElem? (i := 433) (by decide +kernel)))) (hE 2 (by omega))
  · exact vk_R.of (hts (.stringRef RX4 70 "rain") (List.mem_append_right _ (List.mem_of_getElem? (i := 438) (by decide +kernel)))) (hE 3 (by omega))
  · exact va_Nw.of rfl (hts (.methodLinkNest RX7 9 yX4_init RX7) (List.mem_append_right _ (List.mem_of_getElem? (i := 26) (by decide +kernel))))
  · exact va_Nw.of rfl (hts (.methodLinkNest RX7 18 yX6_init RX7) (List.mem_append_right _ (List.mem_of_getElem? (i := 120) (by decide +kernel))))
  · exact va_Nw.of rfl (hts (.methodLinkNest RX7 63 yX0_init RX7) (List.mem_append_right _ (List.mem_of_getElem? (i := 241) (by decide +kernel))))
  · exact va_Nw.of rfl (hts (.methodLinkNest RX4 17 yX6_init RX7) (List.mem_append_right _ (List.mem_of_getElem? (i := 32) (by decide +kernel))))
  · exact va_AO.of (hts (.arrayOver (.object "ForeRain$Moment")) (List.mem_append_right _ (List.mem_of_getElem? (i := 163) (by decide +kernel))))
  · exact hts (.arrayOver (.array .int)) (List.mem_append_right _ (List.mem_of_getElem? (i := 171) (by decide +kernel)))
