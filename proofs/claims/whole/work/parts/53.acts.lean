/-! rack, count, mark, anew, keep, back -/
theorem st_rack {X R T P I J D Z : Mm} {G Y : Int64} (h : Rl X R T P I J D G Z Y) (p : Int32) : ∃ (r : Int32) (P' Z' : Mm), ffX7_rack p X T P = some (r, P') ∧ ffX8_rack p Z = some (r, Z') ∧ Rl X R T P' I J D G Z' Y := by
  obtain ⟨hg, hx, hd, n, k, st, hN, hI, hJ⟩ := id h
  obtain ⟨hT, hRT, hM, hP, hS⟩ := id hN
  have hn := hT.1
  unfold ffX7_rack ffX8_rack
  rcases isPb hT hRT p X with ⟨i, hi, rfl, e1, e2⟩ | ⟨e1, e2⟩
  · obtain ⟨s1, s2, s4, s3⟩ := hS.2.2 i hi
    rw [Nat.zero_add] at s3
    have hm := hM.2.2.2.2 i hi
    rw [e1, e2, kv_b1_d, kv_b1_d, z_1, z_1]
    simp only [l20, ixp, ixN (show i < 6 by omega) (show ((6 : Nat) : Int) < 2147483648 by omega), ixN (show 20 + i < 104 by omega) (show ((104 : Nat) : Int) < 2147483648 by omega), iI_cn (j := i) (show (i : Int) < 2147483648 by omega), iI_cn (j := 20 + i) (show ((20 + i : Nat) : Int) < 2147483648 by omega), s3, kv_lt_d]
    by_cases c : P 3 i = (8 : Int32)
    · rw [if_pos c, if_pos c]
      exact ⟨_, P, Z, rfl, rfl, h⟩
    · rw [if_neg c, if_neg c, onRack_i hT hM (by omega), racked_i hT hRT hM hS, kv_b1_d, kv_b1_d]
      have c8 : ¬ tv P 3 i = 8 := fun q => c (by rw [tv_i P 3 i, q]; rfl)
      have hb0 := sm_bound (f := fun j => if tv P 3 j = 8 then 1 else 0) (lo := 0) (hi := 1) (n := n) (fun j _ => by split <;> omega)
      have h3 := hP.2
      have e3 : (3 : Int32) = iI 3 := rfl
      by_cases q : sm (fun j => if tv P 3 j = 8 then 1 else 0) n = 3
      · rw [if_neg (by rw [e3, iI_lt (by omega) (by omega) (by omega) (by omega)]; omega), if_pos (by rw [q]; rfl)]
        exact ⟨_, P, Z, rfl, rfl, h⟩
      · rw [if_pos (by rw [e3, iI_lt (by omega) (by omega) (by omega) (by omega)]; omega), if_neg (by rw [e3, iI_eq (by omega) (by omega) (by omega) (by omega)]; exact q)]
        have hN2 := hN.place hi (v := 8) (by omega) (fun q => by omega) (by rw [if_neg c8, if_pos rfl]; omega)
        obtain ⟨hT2, hRT2, hM2, hP2, hS2⟩ := id hN2
        have a1 := onRack_i hT2 hM2 (by omega)
        have a2 := racked_i hT2 hRT2 hM2 hS2
        have a1' : ffX3_onRack T (mm_w P 3 (upd (P 3) i 8)) = _ := a1
        have a2' : ffX8_rackedNow (mm_w Z 11 (upd (Z 11) (20 + i) 8)) = _ := a2
        rw [a1', a2', kv_b1_d, kv_b1_d]
        exact ⟨_, _, _, rfl, rfl, Rl.now hg hx hd hI hJ hN2 f11 (u11 (by omega))⟩
  · rw [e1, e2, kv_b1_d, kv_b1_d, z_0, z_0]
    exact ⟨_, P, Z, rfl, rfl, h⟩
theorem st_count {X R T P I J D Z : Mm} {G Y : Int64} (h : Rl X R T P I J D G Z Y) (p : Int32) : ∃ (r : Int32), ffX7_count p X R T P D = some r ∧ ffX8_count p Z = some r := by
  obtain ⟨hg, ⟨len, x1, x2, x3, x4⟩, ⟨dd, d1, d2, d3, d4⟩, n, k, st, ⟨hT, hRT, hM, hP, hS⟩, hI, hJ⟩ := h
  unfold ffX7_count ffX8_count
  simp only [ix0 (show 0 < 2 by omega) (show ((2 : Nat) : Int) < 2147483648 by omega), cl0]
  rw [hRT.1, hRT.2.1, hRT.2.2.1, hT.2.2.2.1, hT.2.2.2.2.1, hT.2.2.2.2.2.1, onRack_i hT hM (by omega), racked_i hT hRT hM hS, d2, d3, x2, x3, kv_b1_d]
  by_cases q0 : p = 0
  · rw [if_pos q0]; exact ⟨_, rfl, rfl⟩
  · rw [if_neg q0]
    by_cases q1 : p = 1
    · rw [if_pos q1]; exact ⟨_, rfl, rfl⟩
    · rw [if_neg q1]
      by_cases q2 : p = 2
      · rw [if_pos q2]; exact ⟨_, rfl, rfl⟩
      · rw [if_neg q2]
        by_cases q3 : p = 3
        · rw [if_pos q3]; exact ⟨_, rfl, rfl⟩
        · rw [if_neg q3]
          by_cases q4 : p = 4
          · rw [if_pos q4]; exact ⟨_, rfl, rfl⟩
          · rw [if_neg q4]
            by_cases q5 : p = 5
            · rw [if_pos q5]; exact ⟨_, rfl, rfl⟩
            · rw [if_neg q5]; exact ⟨_, rfl, rfl⟩
theorem Rl.tr {X R T P I J D Z : Mm} {G Y : Int64} (h : Rl X R T P I J D G Z Y) (v : Int64) : Rl X R T P I J D v Z v := ⟨rfl, h.2⟩
theorem st_mark {X R T P I J D Z : Mm} {G Y : Int64} (h : Rl X R T P I J D G Z Y) (p q : Int32) : ∃ (r : Int32) (G' : Int64), ffX7_mark p q X T P G = some (r, G') ∧ ffX8_mark p q Z Y = some (r, G') ∧ Rl X R T P I J D G' Z G' := by
  obtain ⟨rfl, hx, hd, n, k, st, ⟨hT, hRT, hM, hP, hS⟩, hI, hJ⟩ := id h
  have hn := hT.1
  unfold ffX7_mark ffX8_mark
  rw [← wi_in]
  rcases wi_b p 0 5 with e | ⟨e, w1, w2⟩
  · rw [e, kv_b1_d, kv_b1_d, z_0, z_0]
    exact ⟨_, G, rfl, rfl, h⟩
  · rw [e, kv_b1_d, kv_b1_d, z_1, z_1]
    rcases isPb hT hRT q X with ⟨i, hi, rfl, e1, e2⟩ | ⟨e1, e2⟩
    · obtain ⟨s1, s2, s4, s3⟩ := hS.2.2 i hi
      rw [Nat.zero_add] at s1 s2 s4 s3
      obtain ⟨z3, z4, z5⟩ := hRT.2.2.2.1 i hi
      rw [e1, e2, kv_b1_d, kv_b1_d, z_1, z_1]
      unfold ffX2_as ffX2_asWet ffX2_asDrying ffX2_asRainedOn ffX2_asSmelling ffX2_asFrozen
      unfold ffX2_asWet ffX2_asDrying
      unfold ffX2_asPiece
      have h2 : (2 : Int32) + iI (i : Int) = iI ((2 + i : Nat) : Int) := by rw [l2, ixp]
      have h8 : (8 : Int32) + iI (i : Int) = iI ((8 + i : Nat) : Int) := by rw [l8, ixp]
      simp only [h2, h8, ixN (show i < 6 by omega) (show ((6 : Nat) : Int) < 2147483648 by omega), ixN (show i < 12 by omega) (show ((12 : Nat) : Int) < 2147483648 by omega), ixN (show 2 + i < 104 by omega) (show ((104 : Nat) : Int) < 2147483648 by omega), ixN (show 8 + i < 104 by omega) (show ((104 : Nat) : Int) < 2147483648 by omega), ix0 (show 0 < 104 by omega) (show ((104 : Nat) : Int) < 2147483648 by omega), cl0, iI_cn (j := i) (show (i : Int) < 2147483648 by omega), iI_cn (j := 2 + i) (show ((2 + i : Nat) : Int) < 2147483648 by omega), iI_cn (j := 8 + i) (show ((8 + i : Nat) : Int) < 2147483648 by omega), kv_lt_d, kv_b2_d, s1, s2, z4, z5, hS.1]
      obtain ⟨z, z1, z2, rfl⟩ := rng w1 w2 (lo := 0) (hi := 5) (by decide) (by decide)
      have ea : ∀ (a b c : Int64), a + b + c = a + (b + c) := fun a b c => Int64.add_assoc a b c
      rcases (show z = 0 ∨ z = 1 ∨ z = 2 ∨ z = 3 ∨ z = 4 ∨ z = 5 by omega) with rfl | rfl | rfl | rfl | rfl | rfl
      · refine ⟨_, _, rfl, rfl, h.tr _⟩
      · refine ⟨2 * P 1 i, G + 11, ?_, rfl, h.tr _⟩
        show some (2 * P 1 i, G + 10 + 1) = _
        rw [ea]; rfl
      · refine ⟨P 1 i - T 3 i, G + 101, ?_, rfl, h.tr _⟩
        show some (P 1 i - T 3 i, G + 100 + 1) = _
        rw [ea]; rfl
      · refine ⟨2 * P 1 i + T 2 i, G + 1011, ?_, rfl, h.tr _⟩
        show some (2 * P 1 i + T 2 i, G + 1000 + 10 + 1) = _
        rw [ea, ea]; rfl
      · refine ⟨P 1 i - T 3 i + P 2 i, G + 10101, ?_, rfl, h.tr _⟩
        show some (P 1 i - T 3 i + P 2 i, G + 10000 + 100 + 1) = _
        rw [ea, ea]; rfl
      · refine ⟨P 1 i - P 0 1, G + 100001, ?_, rfl, h.tr _⟩
        show some (P 1 i - P 0 1, G + 100000 + 1) = _
        rw [ea]; rfl
    · rw [e1, e2, kv_b1_d, kv_b1_d, z_0, z_0]
      exact ⟨_, G, rfl, rfl, h⟩
theorem st_trace {X R T P I J D Z : Mm} {G Y : Int64} (h : Rl X R T P I J D G Z Y) : ∃ (r : Int64), ffX7_trace X G = some r ∧ ffX8_trace Z Y = some r := ⟨G, rfl, by rw [h.1]; rfl⟩
/-! NOW as at first -/
def mB (T P : Mm) (lim : Nat) : Mm := fun c j => if c = 0 ∧ (j = 1 ∨ j = 2) then 0 else if j < lim ∧ c = 1 then T 1 j else if j < lim ∧ (c = 2 ∨ c = 4) then 0 else if j < lim ∧ c = 3 then 9 else P c j
theorem mB_up {T P : Mm} {i : Nat} : mm_w (mm_w (mm_w (mm_w (mB T P i) 1 (upd (mB T P i 1) i (T 1 i))) 2 (upd (mB T P i 2) i 0)) 3 (upd (mB T P i 3) i 9)) 4 (upd (mB T P i 4) i 0) = mB T P (i + 1) := by
  funext c j
  by_cases hc : 1 ≤ c ∧ c ≤ 4
  · have hu : mm_w (mm_w (mm_w (mm_w (mB T P i) 1 (upd (mB T P i 1) i (T 1 i))) 2 (upd (mB T P i 2) i 0)) 3 (upd (mB T P i 3) i 9)) 4 (upd (mB T P i 4) i 0) c = upd (mB T P i c) i (if c = 1 then T 1 i else if c = 3 then 9 else 0) := by
      rcases (show c = 1 ∨ c = 2 ∨ c = 3 ∨ c = 4 by omega) with rfl | rfl | rfl | rfl <;> rfl
    rw [hu]
    by_cases hj : j = i
    · subst hj
      rw [up_same]
      unfold mB
      rcases (show c = 1 ∨ c = 2 ∨ c = 3 ∨ c = 4 by omega) with rfl | rfl | rfl | rfl <;> simp
    · rw [up_ne hj]
      unfold mB
      simp only [show (j < i + 1) = (j < i) from propext ⟨fun h => by omega, fun h => by omega⟩]
  · rw [mm_w_ne (by omega), mm_w_ne (by omega), mm_w_ne (by omega), mm_w_ne (by omega)]
    unfold mB
    by_cases q : c = 0 ∧ (j = 1 ∨ j = 2)
    · rw [if_pos q, if_pos q]
    · rw [if_neg q, if_neg q, if_neg (by omega), if_neg (by omega), if_neg (by omega), if_neg (by omega), if_neg (by omega), if_neg (by omega)]
theorem begin_i {T P : Mm} {n k st : Nat} (hT : OkT T n k st) : ffX3_begin T P = some (mB T P n) := by
  have hn := hT.1
  have fu := fu_big
  have loop : ∀ (d i fu : Nat), i + d = n → d < fu → ffX3_begin_L12 T (fun (x11 : Int32) (mM12 : Mm) => some (mM12)) fu (iI i) (mB T P i) = some (mB T P n) := by
    intro d
    induction d with
    | zero =>
      intro i fu hi hf
      obtain ⟨fu, rfl⟩ : ∃ q, fu = q + 1 := ⟨fu - 1, by omega⟩
      have hin : i = n := by omega
      subst hin
      rw [ffX3_begin_L12_s, hT.2.2.2.1, if_pos (by rw [iI_le (by omega) (by omega) (by omega) (by omega)]; omega)]
    | succ d ih =>
      intro i fu hi hf
      obtain ⟨fu, rfl⟩ : ∃ q, fu = q + 1 := ⟨fu - 1, by omega⟩
      rw [ffX3_begin_L12_s, hT.2.2.2.1, if_neg (by rw [iI_le (by omega) (by omega) (by omega) (by omega)]; omega)]
      simp only [ixN (show i < 6 by omega) (show ((6 : Nat) : Int) < 2147483648 by omega), kv_lt_d, iI_cn (j := i) (by omega), show vp_nar .boolean 0 = 0 from rfl]
      rw [l1, ix2]
      have := ih (i + 1) fu (by omega) (by omega)
      rw [← mB_up] at this
      exact this
  unfold ffX3_begin
  simp only [kv_lt_d]
  have e0 : mm_w (mm_w P 0 (upd (P 0) 1 0)) 0 (upd (mm_w P 0 (upd (P 0) 1 0) 0) 2 0) = mB T P 0 := by
    funext c j
    unfold mB
    by_cases hc : c = 0
    · subst hc
      rw [mm_w_same, mm_w_same]
      by_cases j2 : j = 2
      · subst j2; rw [up_same, if_pos (by omega)]
      · rw [up_ne j2]
        by_cases j1 : j = 1
        · subst j1; rw [up_same, if_pos (by omega)]
        · rw [up_ne j1, if_neg (by omega), if_neg (by omega), if_neg (by omega), if_neg (by omega)]
    · rw [mm_w_ne hc, mm_w_ne hc, if_neg (by omega), if_neg (by omega), if_neg (by omega), if_neg (by omega)]
  rw [e0]
  exact loop n 0 kv_FU (by omega) (by omega)
