/-! anew, keep, back, clear -/
def gA (Z : Mm) (n lim : Nat) : Nat → Int32 := fun j => if j = 0 ∨ j = 1 then 0 else if 2 ≤ j ∧ j < 2 + lim then (if j - 2 < n then Z 3 (j - 2) else 0) else if 8 ≤ j ∧ j < 8 + lim then 0 else if 14 ≤ j ∧ j < 14 + lim then 0 else if 20 ≤ j ∧ j < 20 + lim then 9 else Z 11 j
theorem gA_up {Z : Mm} {n i : Nat} (hi : i < 6) : upd (upd (upd (upd (gA Z n i) (2 + i) (if i < n then Z 3 i else 0)) (8 + i) 0) (14 + i) 0) (20 + i) 9 = gA Z n (i + 1) := by
  funext j
  by_cases h4 : j = 20 + i
  · subst h4
    rw [up_same]
    unfold gA
    rw [if_neg (by omega), if_neg (by omega), if_neg (by omega), if_neg (by omega), if_pos (by omega)]
  · rw [up_ne h4]
    by_cases h3 : j = 14 + i
    · subst h3
      rw [up_same]
      unfold gA
      rw [if_neg (by omega), if_neg (by omega), if_neg (by omega), if_pos (by omega)]
    · rw [up_ne h3]
      by_cases h2 : j = 8 + i
      · subst h2
        rw [up_same]
        unfold gA
        rw [if_neg (by omega), if_neg (by omega), if_pos (by omega)]
      · rw [up_ne h2]
        by_cases h1 : j = 2 + i
        · subst h1
          rw [up_same]
          unfold gA
          rw [if_neg (show ¬ (2 + i = 0 ∨ 2 + i = 1) by omega), if_pos (show 2 ≤ 2 + i ∧ 2 + i < 2 + (i + 1) by omega), show 2 + i - 2 = i by omega]
        · rw [up_ne h1]
          unfold gA
          simp only [show (2 ≤ j ∧ j < 2 + (i + 1)) = (2 ≤ j ∧ j < 2 + i) from propext ⟨fun h => by omega, fun h => by omega⟩, show (8 ≤ j ∧ j < 8 + (i + 1)) = (8 ≤ j ∧ j < 8 + i) from propext ⟨fun h => by omega, fun h => by omega⟩, show (14 ≤ j ∧ j < 14 + (i + 1)) = (14 ≤ j ∧ j < 14 + i) from propext ⟨fun h => by omega, fun h => by omega⟩, show (20 ≤ j ∧ j < 20 + (i + 1)) = (20 ≤ j ∧ j < 20 + i) from propext ⟨fun h => by omega, fun h => by omega⟩]
theorem anewm_i {Z : Mm} {n : Nat} (hn : n ≤ 6) (hZ : Z 2 0 = iI n) : ffX8_anew Z = some (Z 11 0, mm_w Z 11 (gA Z n 6)) := by
  have fu := fu_big
  have loop : ∀ (v : Int32) (d i fu : Nat), i + d = 6 → d < fu → ffX8_anew_L23 (fun (x13 : Int32) (mZ14 : Mm) => some (v, mZ14)) fu (iI i) (mm_w Z 11 (gA Z n i)) = some (v, mm_w Z 11 (gA Z n 6)) := by
    intro v d
    induction d with
    | zero =>
      intro i fu hi hf
      obtain ⟨fu, rfl⟩ : ∃ q, fu = q + 1 := ⟨fu - 1, by omega⟩
      have hin : i = 6 := by omega
      subst hin
      rw [ffX8_anew_L23_s, if_pos (by decide)]
    | succ d ih =>
      intro i fu hi hf
      obtain ⟨fu, rfl⟩ : ∃ q, fu = q + 1 := ⟨fu - 1, by omega⟩
      have next := ih (i + 1) fu (by omega) (by omega)
      rw [← gA_up (by omega)] at next
      have h2 : (2 : Int32) + iI (i : Int) = iI ((2 + i : Nat) : Int) := by rw [l2, ixp]
      have h8 : (8 : Int32) + iI (i : Int) = iI ((8 + i : Nat) : Int) := by rw [l8, ixp]
      have h14 : (14 : Int32) + iI (i : Int) = iI ((14 + i : Nat) : Int) := by rw [l14, ixp]
      have h20 : (20 : Int32) + iI (i : Int) = iI ((20 + i : Nat) : Int) := by rw [l20, ixp]
      have h1 : iI (i : Int) + 1 = iI ((i + 1 : Nat) : Int) := by rw [l1, ix2]
      rw [ffX8_anew_L23_s, if_neg (by rw [show (6 : Int32) = iI 6 from rfl, iI_le (by omega) (by omega) (by omega) (by omega)]; omega), ix0 (by omega) (by omega)]
      simp only [kv_lt_d, h2, h8, h14, h20, h1, ixN (show 2 + i < 104 by omega) (show ((104 : Nat) : Int) < 2147483648 by omega), ixN (show 8 + i < 104 by omega) (show ((104 : Nat) : Int) < 2147483648 by omega), ixN (show 14 + i < 104 by omega) (show ((104 : Nat) : Int) < 2147483648 by omega), ixN (show 20 + i < 104 by omega) (show ((104 : Nat) : Int) < 2147483648 by omega), iI_cn (j := 2 + i) (show ((2 + i : Nat) : Int) < 2147483648 by omega), iI_cn (j := 8 + i) (show ((8 + i : Nat) : Int) < 2147483648 by omega), iI_cn (j := 14 + i) (show ((14 + i : Nat) : Int) < 2147483648 by omega), iI_cn (j := 20 + i) (show ((20 + i : Nat) : Int) < 2147483648 by omega), iI_cn (j := i) (show (i : Int) < 2147483648 by omega), mm_w_w, mm_w_same, cl0, mm_w_ne (show (2 : Nat) ≠ 11 by omega), mm_w_ne (show (3 : Nat) ≠ 11 by omega), hZ, ixN (show i < 12 by omega) (show ((12 : Nat) : Int) < 2147483648 by omega)]
      by_cases q : i < n
      · rw [if_neg (by rw [iI_le (by omega) (by omega) (by omega) (by omega)]; omega)]
        rw [if_pos q] at next
        exact next
      · rw [if_pos (by rw [iI_le (by omega) (by omega) (by omega) (by omega)]; omega)]
        rw [if_neg q] at next
        exact next
  have e0 : upd (upd (Z 11) 0 0) 1 0 = gA Z n 0 := by
    funext j
    unfold gA
    by_cases h1 : j = 1
    · subst h1; rw [up_same, if_pos (by omega)]
    · rw [up_ne h1]
      by_cases h0 : j = 0
      · subst h0; rw [up_same, if_pos (by omega)]
      · rw [up_ne h0, if_neg (by omega), if_neg (by omega), if_neg (by omega), if_neg (by omega), if_neg (by omega)]
  unfold ffX8_anew
  generalize kv_FU = F at fu ⊢
  have h := loop (Z 11 0) 6 0 F (by omega) (by omega)
  rw [← e0] at h
  rw [ix0 (by omega) (by omega), kv_lt_d, ix0 (by omega) (by omega), kv_lt_d, l1, ixN (by omega) (by omega), kv_lt_d, cl0, iI_cn (by omega), mm_w_same, mm_w_w]
  exact h
theorem RN.begin {T P Z : Mm} {n k st : Nat} (hT : OkT T n k st) (hR : RT T Z n k st) : RN T (mB T P n) (mm_w Z 11 (gA Z n 6)) n k st := by
  have hn := hT.1
  have b1 : ∀ i, i < n → mB T P n 1 i = T 1 i := fun i hi => by unfold mB; rw [if_neg (by omega), if_pos (by omega)]
  have b2 : ∀ i, i < n → mB T P n 2 i = 0 := fun i hi => by unfold mB; rw [if_neg (by omega), if_neg (by omega), if_pos (by omega)]
  have b3 : ∀ i, i < n → mB T P n 3 i = 9 := fun i hi => by unfold mB; rw [if_neg (by omega), if_neg (by omega), if_neg (by omega), if_pos (by omega)]
  have b4 : ∀ i, i < n → mB T P n 4 i = 0 := fun i hi => by unfold mB; rw [if_neg (by omega), if_neg (by omega), if_pos (by omega)]
  have b01 : mB T P n 0 1 = 0 := by unfold mB; rw [if_pos (by omega)]
  have b02 : mB T P n 0 2 = 0 := by unfold mB; rw [if_pos (by omega)]
  have t01 : tv (mB T P n) 0 1 = 0 := by unfold tv; rw [b01]; rfl
  have t02 : tv (mB T P n) 0 2 = 0 := by unfold tv; rw [b02]; rfl
  have t1 : ∀ i, i < n → tv (mB T P n) 1 i = tv T 1 i := fun i hi => by unfold tv; rw [b1 i hi]
  have t2 : ∀ i, i < n → tv (mB T P n) 2 i = 0 := fun i hi => by unfold tv; rw [b2 i hi]; rfl
  have t3 : ∀ i, i < n → tv (mB T P n) 3 i = 9 := fun i hi => by unfold tv; rw [b3 i hi]; rfl
  have t4 : ∀ i, i < n → tv (mB T P n) 4 i = 0 := fun i hi => by unfold tv; rw [b4 i hi]; rfl
  refine ⟨hT, hR.w 11 (by omega) _, ?_, ⟨?_, ?_⟩, ?_⟩
  · unfold OkM
    rw [t01, t02]
    refine ⟨by omega, by omega, by omega, by omega, fun i hi => ?_⟩
    have hb := hT.2.2.2.2.2.2.1 i hi
    rw [t1 i hi, t2 i hi, t3 i hi, t4 i hi]
    omega
  · intro i j hi hj _ _
    rw [t3 i hi]
    omega
  · have := sm_bound (f := fun i => if tv (mB T P n) 3 i = 8 then 1 else 0) (lo := 0) (hi := 0) (n := n) (fun i hi => by rw [t3 i hi]; exact ⟨by decide, by decide⟩)
    omega
  · unfold RS
    rw [mm_w_same, b01, b02]
    refine ⟨by unfold gA; rw [if_pos (by omega)], by unfold gA; rw [if_pos (by omega)], fun i hi => ?_⟩
    rw [b1 i hi, b2 i hi, b3 i hi, b4 i hi]
    refine ⟨?_, ?_, ?_, ?_⟩
    · unfold gA
      rw [if_neg (by omega), if_pos (by omega), if_pos (by omega), show 0 + 2 + i - 2 = i by omega]
      exact (hR.2.2.2.1 i hi).1
    · unfold gA; rw [if_neg (by omega), if_neg (by omega), if_pos (by omega)]
    · unfold gA; rw [if_neg (by omega), if_neg (by omega), if_neg (by omega), if_pos (by omega)]
    · unfold gA; rw [if_neg (by omega), if_neg (by omega), if_neg (by omega), if_neg (by omega), if_pos (by omega)]
theorem gA_out {Z : Mm} {n j : Nat} (h : 26 ≤ j) : gA Z n 6 j = Z 11 j := by
  unfold gA
  rw [if_neg (by omega), if_neg (by omega), if_neg (by omega), if_neg (by omega), if_neg (by omega)]
theorem st_anew {X R T P I J D Z : Mm} {G Y : Int64} (h : Rl X R T P I J D G Z Y) : ∃ (r : Int32) (P' Z' : Mm), ffX7_anew X T P = some (r, P') ∧ ffX8_anew Z = some (r, Z') ∧ Rl X R T P' I J D G Z' Y := by
  obtain ⟨hg, hx, hd, n, k, st, ⟨hT, hRT, hM, hP, hS⟩, hI, hJ⟩ := h
  refine ⟨P 0 1, mB T P n, mm_w Z 11 (gA Z n 6), ?_, ?_, Rl.now hg hx hd hI hJ (RN.begin hT hRT) f11 (fun j hj => by rw [mm_w_same]; exact gA_out hj)⟩
  · unfold ffX7_anew
    rw [kv_lt_d, begin_i hT, kv_b1_d]
  · rw [anewm_i hT.1 hRT.1, hS.1]
theorem st_clear {X R T P I J D Z : Mm} {G Y : Int64} (h : Rl X R T P I J D G Z Y) : ∃ (r : Int32) (R' Z' : Mm), ffX7_clear X R = some (r, R') ∧ ffX8_clear Z = some (r, Z') ∧ Rl X R' T P I J D G Z' Y := by
  obtain ⟨hg, ⟨len, x1, x2, x3, x4⟩, hd, n, k, st, ⟨hT, hRT, hM, hP, hS⟩, hI, hJ⟩ := h
  have hn := hT.1
  refine ⟨R 0 2, mm_w R 0 (upd (R 0) 2 0), mm_w Z 0 (upd (Z 0) 2 0), rfl, ?_, ?_⟩
  · unfold ffX8_clear
    rw [kv_lt_d, kv_lt_d, x2, x3]
  · refine ⟨hg, ⟨0, by omega, by rw [mm_w_same, up_same]; rfl, by rw [mm_w_same, up_same]; rfl, fun i hi => by omega⟩, hd.eq (by rw [mm_w_same, up_ne (by omega)]) (mm_w_ne (by omega)) (mm_w_ne (by omega)), n, k, st, ⟨hT, ?_, hM, hP, hS.eq hn (fun j _ _ => by rw [mm_w_ne (by omega)])⟩, hI.eq hn (mm_w_ne (by omega)) (fun j _ _ => by rw [mm_w_ne (by omega)]), hJ.eq hn (mm_w_ne (by omega)) (fun j _ _ => by rw [mm_w_ne (by omega)])⟩
    unfold RT at *
    rw [mm_w_ne (by omega), mm_w_ne (by omega), mm_w_ne (by omega), mm_w_ne (by omega), mm_w_ne (by omega), mm_w_ne (by omega), mm_w_ne (by omega), mm_w_ne (by omega), mm_w_ne (by omega)]
    exact hRT
