/-! day: a token, by the class -/
theorem mng_n (c : Int) : mng c = 0 ∨ mng c = 1 ∨ mng c = 2 ∨ mng c = 3 ∨ mng c = 7 := by
  unfold mng
  split
  · omega
  · split
    · omega
    · split
      · omega
      · split <;> omega
theorem mng_0 (c : Int) : mng c = 0 ↔ c = 8683934 := by
  unfold mng
  split
  · omega
  · split
    · omega
    · split
      · omega
      · split <;> omega
theorem mng_1 (c : Int) : mng c = 1 ↔ c = 386066 := by
  unfold mng
  split
  · omega
  · split
    · omega
    · split
      · omega
      · split <;> omega
theorem mng_2 (c : Int) : mng c = 2 ↔ c = 14432 := by
  unfold mng
  split
  · omega
  · split
    · omega
    · split
      · omega
      · split <;> omega
theorem mng_3 (c : Int) : mng c = 3 ↔ c = 355280 := by
  unfold mng
  split
  · omega
  · split
    · omega
    · split
      · omega
      · split <;> omega
/-- the sort by the first byte -/
theorem tK_end {t : Nat → Int} {len s : Nat} (h : len ≤ s) : tK t len s = 4 ∧ tT t len s = 0 ∧ tE t len s = s := by
  unfold tK tT tE
  rw [if_pos h, if_pos h, if_pos h]
  exact ⟨rfl, rfl, rfl⟩
theorem tK_let {t : Nat → Int} {len s : Nat} (h : s < len) (hl : tL t s = true) : tK t len s = (if tE t len s - s ≤ 5 then mng (tC t s (tE t len s - s)) else 7) ∧ tT t len s = 1 ∧ tE t len s = tRun (tL t) (len - s) s := by
  refine ⟨?_, ?_, ?_⟩
  · unfold tK
    rw [if_neg (by omega), if_pos hl]
  · unfold tT
    rw [if_neg (by omega), if_pos hl]
  · unfold tE
    rw [if_neg (by omega), if_pos hl]
theorem tK_dig {t : Nat → Int} {len s : Nat} (h : s < len) (hl : ¬ tL t s = true) (hd : tD t s = true) : tK t len s = (if 99 < tV t s (tE t len s - s) ∨ (t s = 48 ∧ 1 < tE t len s - s) then 7 else 5) ∧ tT t len s = (if 99 < tV t s (tE t len s - s) ∨ (t s = 48 ∧ 1 < tE t len s - s) then 4 else 2) ∧ tE t len s = tRun (tD t) (len - s) s := by
  have e1 : tK t len s = (if 99 < tV t s (tE t len s - s) ∨ (t s = 48 ∧ 1 < tE t len s - s) then 7 else 5) := by
    unfold tK
    rw [if_neg (by omega), if_neg hl, if_pos hd]
  refine ⟨e1, ?_, ?_⟩
  · unfold tT
    rw [if_neg (by omega), if_neg hl, e1]
    by_cases q : 99 < tV t s (tE t len s - s) ∨ (t s = 48 ∧ 1 < tE t len s - s)
    · rw [if_pos q, if_pos q, if_neg (by omega), if_neg (by omega)]
    · rw [if_neg q, if_neg q, if_pos rfl]
  · unfold tE
    rw [if_neg (by omega), if_neg hl, if_pos hd]
theorem tK_oth {t : Nat → Int} {len s : Nat} (h : s < len) (hl : ¬ tL t s = true) (hd : ¬ tD t s = true) : tK t len s = (if t s = 59 then 6 else 7) ∧ tT t len s = (if t s = 59 then 3 else 4) ∧ tE t len s = s + 1 := by
  have e1 : tK t len s = (if t s = 59 then 6 else 7) := by
    unfold tK
    rw [if_neg (by omega), if_neg hl, if_neg hd]
  refine ⟨e1, ?_, ?_⟩
  · unfold tT
    rw [if_neg (by omega), if_neg hl, e1]
    by_cases q : t s = 59
    · rw [if_pos q, if_pos q, if_neg (by omega), if_pos rfl]
    · rw [if_neg q, if_neg q, if_neg (by omega), if_neg (by omega)]
  · unfold tE
    rw [if_neg (by omega), if_neg hl, if_neg hd]
theorem tK_w {t : Nat → Int} {len s : Nat} (h : s < len) (hl : tL t s = true) : tK t len s ≠ 4 ∧ tK t len s ≠ 5 ∧ tK t len s ≠ 6 := by
  rw [(tK_let h hl).1]
  split
  · have := mng_n (tC t s (tE t len s - s))
    omega
  · omega
/-- token and sort -/
theorem tT_2 (t : Nat → Int) (len s : Nat) : (tT t len s = 2 ↔ tK t len s = 5) ∧ (tT t len s = 3 ↔ tK t len s = 6) ∧ (tT t len s = 0 ↔ tK t len s = 4) := by
  by_cases q : s < len
  · by_cases ql : tL t s = true
    · have h1 := tK_let q ql
      have h2 := tK_w q ql
      omega
    · by_cases qd : tD t s = true
      · obtain ⟨h1, h2, -⟩ := tK_dig q ql qd
        rw [h1, h2]
        split <;> omega
      · obtain ⟨h1, h2, -⟩ := tK_oth q ql qd
        rw [h1, h2]
        split <;> omega
  · have := tK_end (t := t) (len := len) (s := s) (by omega)
    omega
theorem scanC {t : Nat → Int} {len p : Nat} {R : Mm} (hR : TR t len R) (hp : p ≤ len) (h3 : R 0 3 = iI p) : ∃ R', ffX4_scan R = some R' ∧ FrC R R' ∧ R' 0 3 = iI ((tE t len (tS t len p) : Nat) : Int) ∧ R' 0 4 = iI ((tS t len p : Nat) : Int) ∧ R' 0 5 = iI ((tT t len (tS t len p) : Nat) : Int) ∧ (tK t len (tS t len p) = 5 → R' 0 6 = iI (tW t len (tS t len p))) := by
  have fu := fu_big
  have hl := hR.1
  unfold ffX4_scan
  have hsk : ∀ K : Mm → Option Mm, ∃ R', ffX4_scan_L0 K kv_FU R = K R' ∧ FrC R R' ∧ R' 0 3 = iI ((tS t len p : Nat) : Int) := fun K => skipC_l K (len - p) p kv_FU R (by omega) (by omega) hR h3
  obtain ⟨R4, r1, r2, r3⟩ := hsk _
  rw [r1]
  have hsb := tS_b (t := t) hp
  generalize tS t len p = s at *
  simp only [kv_lt_d]
  rw [r3]
  have hF6 : FrC R (mm_w R4 0 (upd (R4 0) 4 (iI ((s : Nat) : Int)))) := r2.tr (FrC.q (by omega))
  have h63 : mm_w R4 0 (upd (R4 0) 4 (iI ((s : Nat) : Int))) 0 3 = iI s := by rw [q_n (by omega), r3]
  have h64 : mm_w R4 0 (upd (R4 0) 4 (iI ((s : Nat) : Int))) 0 4 = iI s := q_s
  generalize mm_w R4 0 (upd (R4 0) 4 (iI ((s : Nat) : Int))) = R6 at *
  have hR6 := hR.c hF6
  rw [h63, hR6.2.2.1]
  by_cases q : s < len
  · have hbs := hR6.2.1 s q
    rw [if_pos (by rw [iI_lt (by omega) (by omega) (by omega) (by omega)]; omega), ixN (by omega) (by omega), iI_cn (j := s) (by omega), hR6.2.2.2 s q, letter_i hR6 q, kv_b1_d]
    by_cases ql : tL t s = true
    · obtain ⟨k1, k2, k3⟩ := tK_let q ql
      rw [if_pos ql, z_1]
      unfold ffX4_scanWord
      rw [kv_lt_d]
      obtain ⟨R', e1, e2, e3, e4⟩ := wordC_l (fun (mR6 : Mm) => some (mR6)) (len - s) s kv_FU (mm_w R6 0 (upd (R6 0) 5 1)) (by omega) (by omega) (hR6.c (FrC.q (by omega))) (by rw [q_n (by omega), h63])
      rw [e1, kv_b1_d]
      refine ⟨R', rfl, hF6.tr ((FrC.q (j := 5) (x := 1) (by omega)).tr ⟨e2, fun j hj => e3 j (by omega)⟩), ?_, ?_, ?_, fun h => absurd h (tK_w q ql).2.1⟩
      · rw [e4, k3]
      · rw [e3 4 (by omega), q_n (by omega), h64]
      · rw [e3 5 (by omega), q_s, k2]
        rfl
    · rw [if_neg ql, z_0, ixN (by omega) (by omega), digit_i hR6 q, kv_b1_d]
      by_cases qd : tD t s = true
      · obtain ⟨k1, k2, k3⟩ := tK_dig q ql qd
        rw [if_pos qd, z_1]
        unfold ffX4_scanNumber
        rw [kv_lt_d]
        have hv0 : tV t s (s - s) = 0 := by rw [Nat.sub_self]; rfl
        have hnum : ∀ K : Mm → Option Mm, ∃ R', ffX4_scanNumber_L5 K kv_FU (mm_w R6 0 (upd (R6 0) 6 0)) = K R' ∧ (∀ c, c ≠ 0 → R' c = mm_w R6 0 (upd (R6 0) 6 0) c) ∧ (∀ j, j ≠ 3 → j ≠ 6 → R' 0 j = mm_w R6 0 (upd (R6 0) 6 0) 0 j) ∧ R' 0 3 = iI ((tRun (tD t) (len - s) s : Nat) : Int) ∧ R' 0 6 = iI (cap (tV t s (tRun (tD t) (len - s) s - s))) ∧ 0 ≤ tV t s (tRun (tD t) (len - s) s - s) := fun K => numC_l K (len - s) s kv_FU (mm_w R6 0 (upd (R6 0) 6 0)) (by omega) (Nat.le_refl s) (by omega) (hR6.c (FrC.q (by omega))) (by rw [q_n (by omega), h63]) (by rw [q_s, hv0]; rfl) (by rw [hv0]; omega)
        obtain ⟨R8, e1, e2, e3, e4, e5, e6⟩ := hnum _
        rw [e1]
        simp only [kv_lt_d]
        have heb := tE_b (t := t) hsb.2
        unfold tW
        rw [← k3] at e4 e5 e6
        have h84 : R8 0 4 = iI s := by rw [e3 4 (by omega) (by omega), q_n (by omega), h64]
        have h81 : R8 1 s = iI (t s) := by rw [e2 1 (by omega), q_c (by omega), hR6.2.2.2 s q]
        have hF8 : FrC R R8 := hF6.tr ((FrC.q (j := 6) (x := 0) (by omega)).tr ⟨e2, fun j hj => e3 j (by omega) (by omega)⟩)
        rw [h84, ixN (by omega) (by omega), iI_cn (j := s) (by omega), h81, e4, e5, iI_sub]
        have hcap : (iI (cap (tV t s (tE t len s - s))) ≤ (99 : Int32)) = (tV t s (tE t len s - s) ≤ 99) := by
          have hcb : 0 ≤ cap (tV t s (tE t len s - s)) ∧ cap (tV t s (tE t len s - s)) ≤ 100 ∧ (cap (tV t s (tE t len s - s)) ≤ 99 ↔ tV t s (tE t len s - s) ≤ 99) := by
            unfold cap
            split <;> omega
          rw [show (99 : Int32) = iI 99 from rfl, iI_le (by omega) (by omega) (by omega) (by omega)]
          exact propext hcb.2.2
        have e48 : (iI (t s) = (48 : Int32)) = (t s = 48) := by rw [show (48 : Int32) = iI 48 from rfl, iI_eq (by omega) (by omega) (by omega) (by omega)]
        have e1m : (iI (((tE t len s : Nat) : Int) - ((s : Nat) : Int)) ≤ (1 : Int32)) = (tE t len s - s ≤ 1) := by
          rw [iI_1, iI_le (by omega) (by omega) (by omega) (by omega)]
          exact propext ⟨fun h => by omega, fun h => by omega⟩
        have fin4 : (99 < tV t s (tE t len s - s) ∨ (t s = 48 ∧ 1 < tE t len s - s)) → ∃ R', some (mm_w R8 0 (upd (R8 0) 5 4)) = some R' ∧ FrC R R' ∧ R' 0 3 = iI ((tE t len s : Nat) : Int) ∧ R' 0 4 = iI ((s : Nat) : Int) ∧ R' 0 5 = iI ((tT t len s : Nat) : Int) ∧ (tK t len s = 5 → R' 0 6 = iI (tV t s (tE t len s - s))) := fun h => by
          rw [if_pos h] at k1 k2
          refine ⟨_, rfl, hF8.tr (FrC.q (by omega)), ?_, ?_, ?_, fun h => by omega⟩
          · rw [q_n (by omega), e4]
          · rw [q_n (by omega), h84]
          · rw [q_s, k2]
            rfl
        have fin2 : ¬ (99 < tV t s (tE t len s - s) ∨ (t s = 48 ∧ 1 < tE t len s - s)) → ∃ R', some (mm_w R8 0 (upd (R8 0) 5 2)) = some R' ∧ FrC R R' ∧ R' 0 3 = iI ((tE t len s : Nat) : Int) ∧ R' 0 4 = iI ((s : Nat) : Int) ∧ R' 0 5 = iI ((tT t len s : Nat) : Int) ∧ (tK t len s = 5 → R' 0 6 = iI (tV t s (tE t len s - s))) := fun h => by
          rw [if_neg h] at k1 k2
          refine ⟨_, rfl, hF8.tr (FrC.q (by omega)), ?_, ?_, ?_, fun _ => ?_⟩
          · rw [q_n (by omega), e4]
          · rw [q_n (by omega), h84]
          · rw [q_s, k2]
            rfl
          · rw [q_n (by omega), e5]
            congr 1
            unfold cap
            rw [if_pos (by omega)]
        by_cases a1 : t s = 48
        · rw [if_pos (by rw [e48]; exact a1)]
          by_cases a2 : tE t len s - s ≤ 1
          · rw [if_pos (by rw [e1m]; exact a2), if_pos trivial]
            by_cases a3 : tV t s (tE t len s - s) ≤ 99
            · rw [if_pos (by rw [hcap]; exact a3), kv_b1_d]
              exact fin2 (by omega)
            · rw [if_neg (by rw [hcap]; exact a3), kv_b1_d]
              exact fin4 (by omega)
          · rw [if_neg (by rw [e1m]; exact a2), if_neg (by decide), kv_b1_d]
            exact fin4 (by omega)
        · rw [if_neg (by rw [e48]; exact a1), if_pos trivial]
          by_cases a3 : tV t s (tE t len s - s) ≤ 99
          · rw [if_pos (by rw [hcap]; exact a3), kv_b1_d]
            exact fin2 (by omega)
          · rw [if_neg (by rw [hcap]; exact a3), kv_b1_d]
            exact fin4 (by omega)
      · obtain ⟨k1, k2, k3⟩ := tK_oth q ql qd
        rw [if_neg qd, z_0, ixN (by omega) (by omega)]
        by_cases a1 : t s = 59
        · rw [if_pos a1] at k1 k2
          rw [if_pos (by rw [a1]; rfl)]
          refine ⟨_, rfl, hF6.tr ((FrC.q (by omega)).tr (FrC.q (by omega))), ?_, ?_, ?_, fun h => by omega⟩
          · rw [q_s, q_n (by omega), h63, l1, ix2, k3]
          · rw [q_n (by omega), q_n (by omega), h64]
          · rw [q_n (by omega), q_s, k2]
            rfl
        · rw [if_neg a1] at k1 k2
          rw [if_neg (by rw [show (59 : Int32) = iI 59 from rfl, iI_eq (by omega) (by omega) (by omega) (by omega)]; exact a1)]
          refine ⟨_, rfl, hF6.tr ((FrC.q (by omega)).tr (FrC.q (by omega))), ?_, ?_, ?_, fun h => by omega⟩
          · rw [q_s, q_n (by omega), h63, l1, ix2, k3]
          · rw [q_n (by omega), q_n (by omega), h64]
          · rw [q_n (by omega), q_s, k2]
            rfl
  · obtain ⟨k1, k2, k3⟩ := tK_end (t := t) (len := len) (s := s) (by omega)
    rw [if_neg (by rw [iI_lt (by omega) (by omega) (by omega) (by omega)]; omega)]
    refine ⟨_, rfl, hF6.tr (FrC.q (by omega)), ?_, ?_, ?_, fun h => by omega⟩
    · rw [q_n (by omega), h63, k3]
    · rw [q_n (by omega), h64]
    · rw [q_s, k2]
      rfl
theorem wq0 {t : Nat → Int} {s m : Nat} (h1 : 1 ≤ m) (h5 : m ≤ 5) (hl : ∀ i, i < m → 97 ≤ t (s + i) ∧ t (s + i) ≤ 122) : tC t s m = 8683934 ↔ m = 5 ∧ t (s + 0) = 112 ∧ t (s + 1) = 105 ∧ t (s + 2) = 101 ∧ t (s + 3) = 99 ∧ t (s + 4) = 101 := by
  have c0 : tC t s 0 = 0 := rfl
  have c1 : tC t s 1 = 27 * tC t s 0 + t (s + 0) - 96 := rfl
  have c2 : tC t s 2 = 27 * tC t s 1 + t (s + 1) - 96 := rfl
  have c3 : tC t s 3 = 27 * tC t s 2 + t (s + 2) - 96 := rfl
  have c4 : tC t s 4 = 27 * tC t s 3 + t (s + 3) - 96 := rfl
  have c5 : tC t s 5 = 27 * tC t s 4 + t (s + 4) - 96 := rfl
  constructor
  · intro hc
    rcases (show m = 1 ∨ m = 2 ∨ m = 3 ∨ m = 4 ∨ m = 5 by omega) with rfl | rfl | rfl | rfl | rfl
    · have b0 := hl 0 (by omega)
      have x0 : tC t s 0 = 321627 := by omega
      omega
    · have b0 := hl 0 (by omega)
      have b1 := hl 1 (by omega)
      have x1 : tC t s 1 = 321627 := by omega
      have x0 : tC t s 0 = 11912 := by omega
      omega
    · have b0 := hl 0 (by omega)
      have b1 := hl 1 (by omega)
      have b2 := hl 2 (by omega)
      have x2 : tC t s 2 = 321627 := by omega
      have x1 : tC t s 1 = 11912 := by omega
      have x0 : tC t s 0 = 441 := by omega
      omega
    · have b0 := hl 0 (by omega)
      have b1 := hl 1 (by omega)
      have b2 := hl 2 (by omega)
      have b3 := hl 3 (by omega)
      have x3 : tC t s 3 = 321627 := by omega
      have x2 : tC t s 2 = 11912 := by omega
      have x1 : tC t s 1 = 441 := by omega
      have x0 : tC t s 0 = 16 := by omega
      omega
    · have b0 := hl 0 (by omega)
      have b1 := hl 1 (by omega)
      have b2 := hl 2 (by omega)
      have b3 := hl 3 (by omega)
      have b4 := hl 4 (by omega)
      have x4 : tC t s 4 = 321627 := by omega
      have y4 : t (s + 4) = 101 := by omega
      have x3 : tC t s 3 = 11912 := by omega
      have y3 : t (s + 3) = 99 := by omega
      have x2 : tC t s 2 = 441 := by omega
      have y2 : t (s + 2) = 101 := by omega
      have x1 : tC t s 1 = 16 := by omega
      have y1 : t (s + 1) = 105 := by omega
      have x0 : tC t s 0 = 0 := by omega
      have y0 : t (s + 0) = 112 := by omega
      refine ⟨rfl, by omega, by omega, by omega, by omega, by omega⟩
  · rintro ⟨rfl, a0, a1, a2, a3, a4⟩
    omega
theorem wq1 {t : Nat → Int} {s m : Nat} (h1 : 1 ≤ m) (h5 : m ≤ 5) (hl : ∀ i, i < m → 97 ≤ t (s + i) ∧ t (s + i) ≤ 122) : tC t s m = 386066 ↔ m = 4 ∧ t (s + 0) = 115 ∧ t (s + 1) = 112 ∧ t (s + 2) = 111 ∧ t (s + 3) = 116 := by
  have c0 : tC t s 0 = 0 := rfl
  have c1 : tC t s 1 = 27 * tC t s 0 + t (s + 0) - 96 := rfl
  have c2 : tC t s 2 = 27 * tC t s 1 + t (s + 1) - 96 := rfl
  have c3 : tC t s 3 = 27 * tC t s 2 + t (s + 2) - 96 := rfl
  have c4 : tC t s 4 = 27 * tC t s 3 + t (s + 3) - 96 := rfl
  have c5 : tC t s 5 = 27 * tC t s 4 + t (s + 4) - 96 := rfl
  constructor
  · intro hc
    rcases (show m = 1 ∨ m = 2 ∨ m = 3 ∨ m = 4 ∨ m = 5 by omega) with rfl | rfl | rfl | rfl | rfl
    · have b0 := hl 0 (by omega)
      have x0 : tC t s 0 = 14298 := by omega
      omega
    · have b0 := hl 0 (by omega)
      have b1 := hl 1 (by omega)
      have x1 : tC t s 1 = 14298 := by omega
      have x0 : tC t s 0 = 529 := by omega
      omega
    · have b0 := hl 0 (by omega)
      have b1 := hl 1 (by omega)
      have b2 := hl 2 (by omega)
      have x2 : tC t s 2 = 14298 := by omega
      have x1 : tC t s 1 = 529 := by omega
      have x0 : tC t s 0 = 19 := by omega
      omega
    · have b0 := hl 0 (by omega)
      have b1 := hl 1 (by omega)
      have b2 := hl 2 (by omega)
      have b3 := hl 3 (by omega)
      have x3 : tC t s 3 = 14298 := by omega
      have y3 : t (s + 3) = 116 := by omega
      have x2 : tC t s 2 = 529 := by omega
      have y2 : t (s + 2) = 111 := by omega
      have x1 : tC t s 1 = 19 := by omega
      have y1 : t (s + 1) = 112 := by omega
      have x0 : tC t s 0 = 0 := by omega
      have y0 : t (s + 0) = 115 := by omega
      refine ⟨rfl, by omega, by omega, by omega, by omega⟩
    · have b0 := hl 0 (by omega)
      have b1 := hl 1 (by omega)
      have b2 := hl 2 (by omega)
      have b3 := hl 3 (by omega)
      have b4 := hl 4 (by omega)
      have x4 : tC t s 4 = 14298 := by omega
      have x3 : tC t s 3 = 529 := by omega
      have x2 : tC t s 2 = 19 := by omega
      have x1 : tC t s 1 = 0 := by omega
      omega
  · rintro ⟨rfl, a0, a1, a2, a3⟩
    omega
theorem wq2 {t : Nat → Int} {s m : Nat} (h1 : 1 ≤ m) (h5 : m ≤ 5) (hl : ∀ i, i < m → 97 ≤ t (s + i) ∧ t (s + i) ≤ 122) : tC t s m = 14432 ↔ m = 3 ∧ t (s + 0) = 115 ∧ t (s + 1) = 117 ∧ t (s + 2) = 110 := by
  have c0 : tC t s 0 = 0 := rfl
  have c1 : tC t s 1 = 27 * tC t s 0 + t (s + 0) - 96 := rfl
  have c2 : tC t s 2 = 27 * tC t s 1 + t (s + 1) - 96 := rfl
  have c3 : tC t s 3 = 27 * tC t s 2 + t (s + 2) - 96 := rfl
  have c4 : tC t s 4 = 27 * tC t s 3 + t (s + 3) - 96 := rfl
  have c5 : tC t s 5 = 27 * tC t s 4 + t (s + 4) - 96 := rfl
  constructor
  · intro hc
    rcases (show m = 1 ∨ m = 2 ∨ m = 3 ∨ m = 4 ∨ m = 5 by omega) with rfl | rfl | rfl | rfl | rfl
    · have b0 := hl 0 (by omega)
      have x0 : tC t s 0 = 534 := by omega
      omega
    · have b0 := hl 0 (by omega)
      have b1 := hl 1 (by omega)
      have x1 : tC t s 1 = 534 := by omega
      have x0 : tC t s 0 = 19 := by omega
      omega
    · have b0 := hl 0 (by omega)
      have b1 := hl 1 (by omega)
      have b2 := hl 2 (by omega)
      have x2 : tC t s 2 = 534 := by omega
      have y2 : t (s + 2) = 110 := by omega
      have x1 : tC t s 1 = 19 := by omega
      have y1 : t (s + 1) = 117 := by omega
      have x0 : tC t s 0 = 0 := by omega
      have y0 : t (s + 0) = 115 := by omega
      refine ⟨rfl, by omega, by omega, by omega⟩
    · have b0 := hl 0 (by omega)
      have b1 := hl 1 (by omega)
      have b2 := hl 2 (by omega)
      have b3 := hl 3 (by omega)
      have x3 : tC t s 3 = 534 := by omega
      have x2 : tC t s 2 = 19 := by omega
      have x1 : tC t s 1 = 0 := by omega
      omega
    · have b0 := hl 0 (by omega)
      have b1 := hl 1 (by omega)
      have b2 := hl 2 (by omega)
      have b3 := hl 3 (by omega)
      have b4 := hl 4 (by omega)
      have x4 : tC t s 4 = 534 := by omega
      have x3 : tC t s 3 = 19 := by omega
      have x2 : tC t s 2 = 0 := by omega
      omega
  · rintro ⟨rfl, a0, a1, a2⟩
    omega
theorem wq3 {t : Nat → Int} {s m : Nat} (h1 : 1 ≤ m) (h5 : m ≤ 5) (hl : ∀ i, i < m → 97 ≤ t (s + i) ∧ t (s + i) ≤ 122) : tC t s m = 355280 ↔ m = 4 ∧ t (s + 0) = 114 ∧ t (s + 1) = 97 ∧ t (s + 2) = 105 ∧ t (s + 3) = 110 := by
  have c0 : tC t s 0 = 0 := rfl
  have c1 : tC t s 1 = 27 * tC t s 0 + t (s + 0) - 96 := rfl
  have c2 : tC t s 2 = 27 * tC t s 1 + t (s + 1) - 96 := rfl
  have c3 : tC t s 3 = 27 * tC t s 2 + t (s + 2) - 96 := rfl
  have c4 : tC t s 4 = 27 * tC t s 3 + t (s + 3) - 96 := rfl
  have c5 : tC t s 5 = 27 * tC t s 4 + t (s + 4) - 96 := rfl
  constructor
  · intro hc
    rcases (show m = 1 ∨ m = 2 ∨ m = 3 ∨ m = 4 ∨ m = 5 by omega) with rfl | rfl | rfl | rfl | rfl
    · have b0 := hl 0 (by omega)
      have x0 : tC t s 0 = 13158 := by omega
      omega
    · have b0 := hl 0 (by omega)
      have b1 := hl 1 (by omega)
      have x1 : tC t s 1 = 13158 := by omega
      have x0 : tC t s 0 = 487 := by omega
      omega
    · have b0 := hl 0 (by omega)
      have b1 := hl 1 (by omega)
      have b2 := hl 2 (by omega)
      have x2 : tC t s 2 = 13158 := by omega
      have x1 : tC t s 1 = 487 := by omega
      have x0 : tC t s 0 = 18 := by omega
      omega
    · have b0 := hl 0 (by omega)
      have b1 := hl 1 (by omega)
      have b2 := hl 2 (by omega)
      have b3 := hl 3 (by omega)
      have x3 : tC t s 3 = 13158 := by omega
      have y3 : t (s + 3) = 110 := by omega
      have x2 : tC t s 2 = 487 := by omega
      have y2 : t (s + 2) = 105 := by omega
      have x1 : tC t s 1 = 18 := by omega
      have y1 : t (s + 1) = 97 := by omega
      have x0 : tC t s 0 = 0 := by omega
      have y0 : t (s + 0) = 114 := by omega
      refine ⟨rfl, by omega, by omega, by omega, by omega⟩
    · have b0 := hl 0 (by omega)
      have b1 := hl 1 (by omega)
      have b2 := hl 2 (by omega)
      have b3 := hl 3 (by omega)
      have b4 := hl 4 (by omega)
      have x4 : tC t s 4 = 13158 := by omega
      have x3 : tC t s 3 = 487 := by omega
      have x2 : tC t s 2 = 18 := by omega
      have x1 : tC t s 1 = 0 := by omega
      omega
  · rintro ⟨rfl, a0, a1, a2, a3⟩
    omega
