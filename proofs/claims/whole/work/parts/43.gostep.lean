/-! A STEP GOES BY: the model -/
theorem mm_w_w (M : Mm) (k : Nat) (f g : Nat → Int32) : mm_w (mm_w M k f) k g = mm_w M k g := by
  funext j
  unfold mm_w
  split <;> rfl
def RS (M Z : Mm) (o n : Nat) : Prop := Z 11 o = M 0 1 ∧ Z 11 (o + 1) = M 0 2 ∧ ∀ i, i < n → Z 11 (o + 2 + i) = M 1 i ∧ Z 11 (o + 8 + i) = M 2 i ∧ Z 11 (o + 14 + i) = M 4 i ∧ Z 11 (o + 20 + i) = M 3 i
def RT (T Z : Mm) (n k st : Nat) : Prop := Z 2 0 = iI n ∧ Z 6 0 = iI k ∧ Z 9 0 = iI st ∧ (∀ i, i < n → Z 3 i = T 1 i ∧ Z 4 i = T 2 i ∧ Z 5 i = T 3 i) ∧ (∀ j, j < k → Z 7 j = T 4 j ∧ Z 8 j = T 5 j) ∧ (∀ s, s < st → Z 10 s = T 6 s)
theorem RT.w {T Z : Mm} {n k st : Nat} (h : RT T Z n k st) (c : Nat) (hc : 11 ≤ c) (f : Nat → Int32) : RT T (mm_w Z c f) n k st := by
  unfold RT
  rw [mm_w_ne (by omega), mm_w_ne (by omega), mm_w_ne (by omega), mm_w_ne (by omega), mm_w_ne (by omega), mm_w_ne (by omega), mm_w_ne (by omega), mm_w_ne (by omega), mm_w_ne (by omega)]
  exact h
theorem ix3 (o c i : Nat) : iI (o : Int) + iI (c : Int) + iI (i : Int) = iI ((o + c + i : Nat) : Int) := by
  rw [iI_add, iI_add]
  congr 1
theorem ix2 (o c : Nat) : iI (o : Int) + iI (c : Int) = iI ((o + c : Nat) : Int) := by
  rw [iI_add]
  congr 1
theorem ixN {β : Type} {j n : Nat} {k : Option β} (h : j < n) (h3 : (n : Int) < 2147483648) : kv_ix (iI (j : Int)) n k = k := iI_ix (by omega) (by omega) (by omega)
theorem cl0 : (0 : Int32).toNatClampNeg = 0 := rfl
theorem ix0 {β : Type} {n : Nat} {k : Option β} (h : 0 < n) (h3 : (n : Int) < 2147483648) : kv_ix (0 : Int32) n k = k := iI_ix (z := 0) (by omega) (by omega) (by omega)
theorem l0 : (0 : Int32) = iI ((0 : Nat) : Int) := rfl
theorem l1 : (1 : Int32) = iI ((1 : Nat) : Int) := rfl
theorem l2 : (2 : Int32) = iI ((2 : Nat) : Int) := rfl
theorem l8 : (8 : Int32) = iI ((8 : Nat) : Int) := rfl
theorem l14 : (14 : Int32) = iI ((14 : Nat) : Int) := rfl
theorem l20 : (20 : Int32) = iI ((20 : Nat) : Int) := rfl
theorem ffX8_skyAt_i {T Z : Mm} {n k st : Nat} (hT : OkT T n k st) (hR : RT T Z n k st) {s : Int} (h0 : 0 ≤ s) (h1 : s < 1000000) : ffX8_skyAt (iI s) Z = some (iI (nSky T st s)) := by
  obtain ⟨-, -, h24, -⟩ := hT
  obtain ⟨-, -, h9, -, -, h10⟩ := hR
  unfold ffX8_skyAt nSky
  rw [ix0 (by omega) (by omega), cl0, h9]
  by_cases q : s < st
  · rw [if_neg (by rw [iI_le (by omega) (by omega) (by omega) (by omega)]; omega), if_pos q, iI_ix h0 (by omega) (by omega), iI_cl h0 (by omega), h10 s.toNat (by omega), ← tv_i]
  · rw [if_pos (by rw [iI_le (by omega) (by omega) (by omega) (by omega)]; omega), if_neg q]
    rfl
theorem ffX8_losesOn_i {T M Z : Mm} {n k st i o : Nat} {mx sky : Int} (hT : OkT T n k st) (hR : RT T Z n k st) (hM : OkM T M n k mx) (hi : i < n) (ho : o + 26 ≤ 104) (h1 : -9 ≤ sky) (h2 : sky ≤ 9) (hp : tv M 3 i < 8) (e1 : Z 11 (o + 2 + i) = iI (tv M 1 i)) (e3 : Z 11 (o + 20 + i) = iI (tv M 3 i)) (e0 : Z 11 (o + 1) = iI (tv M 0 2)) : ffX8_losesOn (iI o) (iI i) (iI sky) Z = some (iI (tv M 1 i - nW T M sky i)) := by
  have hn := hT.1
  have hk := hT.2.1
  have hm := hM.2.2.2.2 i hi
  have hb := hT.2.2.2.2.2.2.1 i hi
  obtain ⟨z3, z4, z5⟩ := hR.2.2.2.1 i hi
  unfold ffX8_losesOn
  rw [l2, ix3, ixN (by omega) (by omega), kv_lt_d, iI_cn (j := o + 2 + i) (by omega), e1]
  by_cases hs : 0 ≤ sky
  · rw [if_pos (by rw [iI_0, iI_le (by omega) (by omega) (by omega) (by omega)]; exact hs), l20, ix3, ixN (by omega) (by omega), iI_cn (j := o + 20 + i) (by omega), e3, iI_ix (by omega) (by omega) (by omega), ixN (by omega) (by omega), l1, ix2, ixN (by omega) (by omega), kv_lt_d, iI_cl (z := tv M 3 i) (by omega) (by omega), iI_cn (j := i) (by omega), iI_cn (j := o + 1) (by omega), e0, z5, (hR.2.2.2.2.1 (tv M 3 i).toNat (by omega)).2, tv_i T 5, tv_i T 3, iI_add, iI_mul, iI_sub]
    have hwd := hT.2.2.2.2.2.2.2.1 (tv M 3 i).toNat (by omega)
    have m1 := mul_b (by omega : 0 ≤ sky + tv T 5 (tv M 3 i).toNat) (by omega : sky + tv T 5 (tv M 3 i).toNat ≤ 18) (by omega : 0 ≤ tv T 3 i) (by omega : tv T 3 i ≤ 3)
    have hd0 := hM.2.2.1
    have hd1 := hM.2.2.2.1
    have eW : nW T M sky i = (if 0 < tv M 1 i - (if 0 < (sky + tv T 5 (tv M 3 i).toNat) * tv T 3 i - tv M 0 2 then (sky + tv T 5 (tv M 3 i).toNat) * tv T 3 i - tv M 0 2 else 0) then tv M 1 i - (if 0 < (sky + tv T 5 (tv M 3 i).toNat) * tv T 3 i - tv M 0 2 then (sky + tv T 5 (tv M 3 i).toNat) * tv T 3 i - tv M 0 2 else 0) else 0) := by
      unfold nW
      rw [if_neg (by omega), if_pos hp, if_neg (by omega)]
    rw [eW, iI_0]
    have hvb : -1000 ≤ (sky + tv T 5 (tv M 3 i).toNat) * tv T 3 i - tv M 0 2 ∧ (sky + tv T 5 (tv M 3 i).toNat) * tv T 3 i - tv M 0 2 ≤ 100 := by omega
    clear eW
    generalize (sky + tv T 5 (tv M 3 i).toNat) * tv T 3 i - tv M 0 2 = v at *
    simp (disch := omega) only [iI_le]
    by_cases q1 : 0 ≤ v
    · rw [if_pos q1]
      by_cases q2 : v ≤ tv M 1 i
      · rw [if_pos q2]
        congr 2
        split <;> split <;> omega
      · rw [if_neg q2]
        congr 2
        split <;> split <;> omega
    · rw [if_neg q1]
      congr 2
      split <;> split <;> omega
  · have m1 := mul_b (by omega : 0 ≤ -sky) (by omega : -sky ≤ 9) (by omega : 0 ≤ tv T 2 i) (by omega : tv T 2 i ≤ 9)
    rw [if_neg (by rw [iI_0, iI_le (by omega) (by omega) (by omega) (by omega)]; omega), ixN (by omega) (by omega), kv_lt_d, ixN (by omega) (by omega), iI_cn (j := i) (by omega), z3, z4, tv_i T 2, tv_i T 1, iI_neg, iI_mul, iI_add, iI_mul, ixN (by omega) (by omega), iI_neg, iI_sub]
    have eW : nW T M sky i = (if tv M 1 i + -sky * tv T 2 i < 2 * tv T 1 i then tv M 1 i + -sky * tv T 2 i else 2 * tv T 1 i) := by
      unfold nW
      rw [if_neg (by omega), if_pos hp, if_pos (by omega)]
    rw [eW]
    generalize -sky * tv T 2 i = v at *
    simp (disch := omega) only [iI_le]
    by_cases q : tv M 1 i + v ≤ ((2 : Nat) : Int) * tv T 1 i
    · rw [if_pos q]
      congr 2
      split <;> omega
    · rw [if_neg q]
      congr 2
      split <;> omega
def g1 (T M Z : Mm) (sky : Int) (o lim : Nat) : Nat → Int32 := fun j => if o + 2 ≤ j ∧ j < o + 2 + lim then iI (nW T M sky (j - (o + 2))) else Z 11 j
theorem g1_out {T M Z : Mm} {sky : Int} {o lim j : Nat} (h : ¬ (o + 2 ≤ j ∧ j < o + 2 + lim)) : g1 T M Z sky o lim j = Z 11 j := if_neg h
theorem g1_up {T M Z : Mm} {sky : Int} {o i : Nat} : upd (g1 T M Z sky o i) (o + 2 + i) (iI (nW T M sky i)) = g1 T M Z sky o (i + 1) := by
  funext j
  by_cases hj : j = o + 2 + i
  · subst hj
    rw [up_same]
    unfold g1
    rw [if_pos (by omega)]
    congr 2
    omega
  · rw [up_ne hj]
    unfold g1
    simp only [show (o + 2 ≤ j ∧ j < o + 2 + (i + 1)) = (o + 2 ≤ j ∧ j < o + 2 + i) from propext ⟨fun h => by omega, fun h => by omega⟩]
theorem g1_skip {T M Z : Mm} {sky : Int} {o i : Nat} (h : Z 11 (o + 2 + i) = iI (nW T M sky i)) : g1 T M Z sky o (i + 1) = g1 T M Z sky o i := by
  rw [← g1_up]
  funext j
  by_cases hj : j = o + 2 + i
  · subst hj
    rw [up_same, g1_out (by omega), h]
  · rw [up_ne hj]
set_option maxHeartbeats 4000000 in
theorem go_loop1 {T M Z : Mm} {n k st o : Nat} {mx sky : Int} (hT : OkT T n k st) (hR : RT T Z n k st) (hM : OkM T M n k mx) (hS : RS M Z o n) (ho : o + 26 ≤ 104) (h1 : -9 ≤ sky) (h2 : sky ≤ 9) (K : Int32 → Int32 → Mm → Option (Int32 × Mm)) : ∀ (d i fu : Nat), i + d = n → d < fu → ffX8_goStep_L18 (iI o) (iI sky) K fu (iI i) (iI (sm (nL T M sky) i)) (mm_w Z 11 (g1 T M Z sky o i)) = K (iI n) (iI (sm (nL T M sky) n)) (mm_w Z 11 (g1 T M Z sky o n)) := by
  have hn := hT.1
  have hk := hT.2.1
  intro d
  induction d with
  | zero =>
    intro i fu hi hf
    obtain ⟨fu, rfl⟩ : ∃ q, fu = q + 1 := ⟨fu - 1, by omega⟩
    have hin : i = n := by omega
    subst hin
    rw [ffX8_goStep_L18_s, ix0 (by omega) (by omega), cl0, mm_w_ne (by omega), hR.1, if_pos (by rw [iI_le (by omega) (by omega) (by omega) (by omega)]; omega)]
  | succ d ih =>
    intro i fu hi hf
    obtain ⟨fu, rfl⟩ : ∃ q, fu = q + 1 := ⟨fu - 1, by omega⟩
    have hin : i < n := by omega
    have hm := hM.2.2.2.2 i hin
    have hb := hT.2.2.2.2.2.2.1 i hin
    have hw := nW_b hT hM hin h1 h2
    obtain ⟨s1, s2, s4, s3⟩ := hS.2.2 i hin
    have e1 : g1 T M Z sky o i (o + 2 + i) = iI (tv M 1 i) := by rw [g1_out (by omega), s1]; exact tv_i M 1 i
    have e3 : g1 T M Z sky o i (o + 20 + i) = iI (tv M 3 i) := by rw [g1_out (by omega), s3]; exact tv_i M 3 i
    have e0 : g1 T M Z sky o i (o + 1) = iI (tv M 0 2) := by rw [g1_out (by omega), hS.2.1]; exact tv_i M 0 2
    have next := ih (i + 1) fu (by omega) (by omega)
    rw [sm] at next
    have ei : iI (i : Int) + 1 = iI ((i + 1 : Nat) : Int) := by rw [l1, ix2]
    rw [ffX8_goStep_L18_s, ix0 (by omega) (by omega), cl0, mm_w_ne (by omega), hR.1, if_neg (by rw [iI_le (by omega) (by omega) (by omega) (by omega)]; omega)]
    simp only [ei]
    simp only [l20, l2, ix3]
    rw [ixN (by omega) (by omega), kv_lt_d, iI_cn (by omega), mm_w_same, e3]
    by_cases p8 : tv M 3 i < 8
    · rw [if_neg (by rw [l8, iI_le (by omega) (by omega) (by omega) (by omega)]; omega), ffX8_losesOn_i hT (hR.w 11 (by omega) _) hM hin ho h1 h2 p8 (by rw [mm_w_same]; exact e1) (by rw [mm_w_same]; exact e3) (by rw [mm_w_same]; exact e0), kv_b1_d, ixN (by omega) (by omega), iI_cn (by omega), kv_lt_d, ixN (by omega) (by omega), kv_lt_d, e1, iI_sub, mm_w_w, show tv M 1 i - (tv M 1 i - nW T M sky i) = nW T M sky i by omega, g1_up, kv_lt_d]
      dsimp only
      have eL : (if iI (tv M 1 i - nW T M sky i) ≤ (0 : Int32) then (0 : Int32) else iI (tv M 1 i - nW T M sky i)) = iI (nL T M sky i) := by
        have hc : (iI (tv M 1 i - nW T M sky i) ≤ (0 : Int32)) = (tv M 1 i - nW T M sky i ≤ 0) := by rw [iI_0, iI_le (by omega) (by omega) (by omega) (by omega)]
        simp only [hc]
        by_cases hs : 0 ≤ sky
        · have eq : nL T M sky i = tv M 1 i - nW T M sky i := if_pos ⟨p8, hs⟩
          have hle : nW T M sky i ≤ tv M 1 i := by
            unfold nW
            rw [if_neg (by omega), if_pos p8, if_neg (by omega)]
            have hz : 0 ≤ (if 0 < (sky + tv T 5 (tv M 3 i).toNat) * tv T 3 i - tv M 0 2 then (sky + tv T 5 (tv M 3 i).toNat) * tv T 3 i - tv M 0 2 else 0) := by split <;> omega
            generalize (if 0 < (sky + tv T 5 (tv M 3 i).toNat) * tv T 3 i - tv M 0 2 then (sky + tv T 5 (tv M 3 i).toNat) * tv T 3 i - tv M 0 2 else 0) = z at *
            split <;> omega
          rw [eq]
          by_cases q : tv M 1 i - nW T M sky i ≤ 0
          · rw [if_pos q, show tv M 1 i - nW T M sky i = 0 by omega]; rfl
          · rw [if_neg q]
        · have eq : nL T M sky i = 0 := if_neg (by omega)
          have hge : tv M 1 i ≤ nW T M sky i := by
            have m1 := mul_b (by omega : 0 ≤ -sky) (by omega : -sky ≤ 9) (by omega : 0 ≤ tv T 2 i) (by omega : tv T 2 i ≤ 9)
            unfold nW
            rw [if_neg (by omega), if_pos p8, if_pos (by omega)]
            split <;> omega
          rw [eq, if_pos (by omega)]
          rfl
      by_cases q : iI (tv M 1 i - nW T M sky i) ≤ (0 : Int32)
      · rw [if_pos q] at eL ⊢
        rw [eL, kv_lt_d, iI_add]
        exact next
      · rw [if_neg q] at eL ⊢
        rw [eL, kv_lt_d, iI_add]
        exact next
    · have eL : nL T M sky i = 0 := if_neg (by omega)
      rw [eL, Int.add_zero] at next
      rw [if_pos (by rw [l8, iI_le (by omega) (by omega) (by omega) (by omega)]; omega)]
      by_cases p9 : tv M 3 i = 8
      · have eW : nW T M sky i = (if 0 < tv M 1 i - 1 then tv M 1 i - 1 else 0) := if_pos p9
        rw [if_pos (by rw [p9]; rfl), ixN (by omega) (by omega), iI_cn (by omega), e1]
        by_cases q : tv M 1 i ≤ 0
        · rw [if_pos (by rw [iI_0, iI_le (by omega) (by omega) (by omega) (by omega)]; exact q), kv_lt_d]
          rw [g1_skip (by rw [s1, eW, if_neg (by omega), show (0 : Int) = tv M 1 i by omega]; exact tv_i M 1 i)] at next
          exact next
        · rw [if_neg (by rw [iI_0, iI_le (by omega) (by omega) (by omega) (by omega)]; exact q), ixN (by omega) (by omega), kv_lt_d, ixN (by omega) (by omega), kv_lt_d, kv_lt_d, mm_w_w, iI_1, iI_sub, show tv M 1 i - 1 = nW T M sky i by rw [eW]; split <;> omega, g1_up]
          exact next
      · have eW : nW T M sky i = tv M 1 i := by unfold nW; rw [if_neg p9, if_neg p8]
        rw [if_neg (by rw [l8, iI_eq (by omega) (by omega) (by omega) (by omega)]; omega), kv_lt_d]
        rw [g1_skip (by rw [s1, eW]; exact tv_i M 1 i)] at next
        exact next
