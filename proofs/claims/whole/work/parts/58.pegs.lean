/-! pegs -/
theorem as_sub (a x y : Int32) : a + (x - y) = a + x - y := by
  rw [← iI_t a, ← iI_t x, ← iI_t y, iI_sub, iI_add, iI_add, iI_sub]
  congr 1
  omega
theorem sub_z (a : Int32) : a - 0 = a := by
  rw [← iI_t a, iI_0, iI_sub]
  congr 1
  omega
theorem add_z (a : Int32) : a + 0 = a := by
  rw [← iI_t a, iI_0, iI_add]
  congr 1
  omega
theorem pegs_sim {T P Z : Mm} {n k st : Nat} (hN : RN T P Z n k st) (Kc : Int32 → Int32 → Int32 → Option Int32) (Km : Int32 → Int32 → Option Int32) (hKc : ∀ a b c, Kc a b c = some c) (hKm : ∀ a b, Km a b = some b) : ∀ (d s fu fm : Nat) (acc fl : Int32), s + d = k → d < fu → d < fm → fl = (if s = 0 then 0 else if pAt P (iI ((s - 1 : Nat) : Int)) n 0 = -9 then 0 else 1) → ∃ r : Int32, ffX7_pegs_L6 T P Kc fu (iI s) fl acc = some r ∧ ffX8_pegs_L4 Z Km fm (iI s) acc = some r := by
  obtain ⟨hT, hRT, hM, hP, hS⟩ := hN
  have hn := hT.1
  have hk := hT.2.1
  intro d
  induction d with
  | zero =>
    intro s fu fm acc fl hs hf hm hfl
    obtain ⟨fu, rfl⟩ : ∃ q, fu = q + 1 := ⟨fu - 1, by omega⟩
    obtain ⟨fm, rfl⟩ : ∃ q, fm = q + 1 := ⟨fm - 1, by omega⟩
    have hc : iI (k : Int) ≤ iI (s : Int) := by rw [iI_le (by omega) (by omega) (by omega) (by omega)]; omega
    rw [ffX7_pegs_L6_s, ffX8_pegs_L4_s, ix0 (by omega) (by omega), cl0, hRT.2.1, hT.2.2.2.2.1, if_pos hc, if_pos hc, hKc, hKm]
    exact ⟨acc, rfl, rfl⟩
  | succ d ih =>
    intro s fu fm acc fl hs hf hm hfl
    obtain ⟨fu, rfl⟩ : ∃ q, fu = q + 1 := ⟨fu - 1, by omega⟩
    obtain ⟨fm, rfl⟩ : ∃ q, fm = q + 1 := ⟨fm - 1, by omega⟩
    have hc : ¬ iI (k : Int) ≤ iI (s : Int) := by rw [iI_le (by omega) (by omega) (by omega) (by omega)]; omega
    have h1 : iI (s : Int) + 1 = iI ((s + 1 : Nat) : Int) := by rw [l1, ix2]
    have hon : ∀ x : Int32, ffX8_pieceOn (0 : Int32) x Z = some (pAt P x n 0) := fun x => pieceOn_i (o := 0) hT hRT hS (by omega) x
    rw [ffX7_pegs_L6_s, ffX8_pegs_L4_s, ix0 (by omega) (by omega), cl0, hRT.2.1, hT.2.2.2.2.1, if_neg hc, if_neg hc, pieceAt_i hT, hon]
    simp only [kv_b1_d, kv_lt_d, h1, sub_z]
    rcases pAt_s P (iI s) n 0 (by omega) with ⟨a1, a2⟩ | ⟨j, a1, a2, a3, a4⟩
    · simp only [a1, if_pos, add_z]
      exact ih (s + 1) fu fm acc 0 (by omega) (by omega) (by omega) (by rw [if_neg (by omega), show s + 1 - 1 = s by omega, a1, if_pos rfl])
    · have hne : ¬ pAt P (iI s) n 0 = -9 := by rw [a3]; exact ne9 (by omega)
      have hj : j < n := by omega
      have hjc : (pAt P (iI s) n 0).toNatClampNeg = j := by rw [a3]; exact iI_cn (by omega)
      obtain ⟨z3, z4, z5⟩ := hRT.2.2.2.1 j hj
      obtain ⟨z7, z8⟩ := hRT.2.2.2.2.1 s (by omega)
      simp only [if_neg hne]
      rw [show kv_ix (pAt P (iI s) n 0) 6 = fun (q : Option Int32) => q from by funext q; rw [a3]; exact ixN (by omega) (by omega), show kv_ix (pAt P (iI s) n 0) 12 = fun (q : Option Int32) => q from by funext q; rw [a3]; exact ixN (by omega) (by omega)]
      dsimp only
      rw [ixN (by omega) (by omega), ixN (by omega) (by omega), hjc, iI_cn (by omega), z4, z8]
      have step : ∀ acc', ∃ r : Int32, ffX7_pegs_L6 T P Kc fu (iI ((s + 1 : Nat) : Int)) 1 acc' = some r ∧ ffX8_pegs_L4 Z Km fm (iI ((s + 1 : Nat) : Int)) acc' = some r := fun acc' => ih (s + 1) fu fm acc' 1 (by omega) (by omega) (by omega) (by rw [if_neg (by omega), show s + 1 - 1 = s by omega, if_neg hne])
      by_cases s0 : s = 0
      · subst s0
        rw [hfl, if_pos rfl, if_pos rfl, if_pos (show iI ((0 : Nat) : Int) ≤ (0 : Int32) by decide)]
        exact step _
      · rw [if_neg (show ¬ iI (s : Int) ≤ (0 : Int32) by rw [iI_0, iI_le (by omega) (by omega) (by omega) (by omega)]; omega), show iI (s : Int) - 1 = iI ((s - 1 : Nat) : Int) by rw [iI_1, iI_sub]; congr 1; omega, hon, kv_b1_d]
        rw [if_neg s0] at hfl
        by_cases b : pAt P (iI ((s - 1 : Nat) : Int)) n 0 = -9
        · rw [if_pos b] at hfl
          rw [hfl, if_pos rfl, if_pos b]
          exact step _
        · rw [if_neg b] at hfl
          rw [hfl, if_neg (by decide), if_neg b, as_sub]
          exact step _
theorem st_pegs {X R T P I J D Z : Mm} {G Y : Int64} (h : Rl X R T P I J D G Z Y) : ∃ (r : Int32), ffX7_pegs X T P = some r ∧ ffX8_pegs Z = some r := by
  obtain ⟨hg, hx, hd, n, k, st, hN, hI, hJ⟩ := h
  have fu := fu_big
  have hk := hN.1.2.1
  unfold ffX7_pegs ffX8_pegs
  generalize kv_FU = F at fu ⊢
  exact pegs_sim hN (fun (x12 : Int32) (x13 : Int32) (x14 : Int32) => some x14) (fun (x13 : Int32) (x14 : Int32) => some x14) (fun _ _ _ => rfl) (fun _ _ => rfl) k 0 F F 0 0 (by omega) (by omega) (by omega) rfl
