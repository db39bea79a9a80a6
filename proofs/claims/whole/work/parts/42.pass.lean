/-! A STEP GOES BY: the class -/
theorem nW_b {T M : Mm} {n k st i : Nat} {mx sky : Int} (hT : OkT T n k st) (hM : OkM T M n k mx) (hi : i < n) (h1 : -9 ≤ sky) (h2 : sky ≤ 9) : 0 ≤ nW T M sky i ∧ nW T M sky i ≤ 2 * tv T 1 i := by
  have hb := hT.2.2.2.2.2.2.1 i hi
  have hm := hM.2.2.2.2 i hi
  unfold nW
  split
  · split <;> omega
  · split
    · split
      · have m1 := mul_b (by omega : 0 ≤ -sky) (by omega : -sky ≤ 9) (by omega : 0 ≤ tv T 2 i) (by omega : tv T 2 i ≤ 9)
        split <;> omega
      · have hz : 0 ≤ (if 0 < (sky + tv T 5 (tv M 3 i).toNat) * tv T 3 i - tv M 0 2 then (sky + tv T 5 (tv M 3 i).toNat) * tv T 3 i - tv M 0 2 else 0) := by split <;> omega
        generalize (if 0 < (sky + tv T 5 (tv M 3 i).toNat) * tv T 3 i - tv M 0 2 then (sky + tv T 5 (tv M 3 i).toNat) * tv T 3 i - tv M 0 2 else 0) = z at *
        split <;> omega
    · omega
theorem grow_mP {T M M1 : Mm} {sky : Int} {i : Nat} (hi : i < 6) (h1 : 0 ≤ nW T M sky i) (h2 : nW T M sky i ≤ 1000) (h3 : 0 ≤ tv M 2 i) (h4 : tv M 2 i ≤ 1000000) (e1 : M1 1 = upd (mP T M sky i 1) i (iI (nW T M sky i))) (e2 : ∀ c, c ≠ 1 → M1 c = mP T M sky i c) : ffX3_grow (iI i) M1 = some (mP T M sky (i + 1)) := by
  have a1 : M1 1 i = iI (nW T M sky i) := by rw [e1, up_same]
  have a2 : M1 2 i = iI (tv M 2 i) := by rw [e2 2 (by omega), mP_ge (Nat.le_refl i)]; exact tv_i M 2 i
  rw [ffX3_grow_i hi a1 h1 h2 a2 h3 h4]
  have en : (if 0 < nW T M sky i then tv M 2 i + 1 else 0) = nA T M sky i := rfl
  rw [en]
  congr 1
  funext c j
  by_cases q12 : 12 ≤ nA T M sky i
  · have es : nS T M sky i = 1 := if_pos q12
    rw [if_pos q12]
    by_cases c4 : c = 4
    · subst c4
      rw [mm_w_same]
      by_cases hj : j = i
      · subst hj
        rw [up_same]
        unfold mP
        rw [if_neg (by omega), if_neg (by omega), if_pos (by omega), es]
        rfl
      · rw [up_ne hj, e2 4 (by omega)]
        unfold mP
        simp only [show (j < i + 1) = (j < i) from propext ⟨fun h => by omega, fun h => by omega⟩]
    · rw [mm_w_ne c4]
      by_cases c2 : c = 2
      · subst c2
        rw [mm_w_same]
        by_cases hj : j = i
        · subst hj
          rw [up_same]
          unfold mP
          rw [if_neg (by omega), if_pos (by omega)]
        · rw [up_ne hj, e2 2 (by omega)]
          unfold mP
          simp only [show (j < i + 1) = (j < i) from propext ⟨fun h => by omega, fun h => by omega⟩]
      · rw [mm_w_ne c2]
        by_cases c1 : c = 1
        · subst c1
          rw [e1]
          by_cases hj : j = i
          · subst hj
            rw [up_same]
            unfold mP
            rw [if_pos (by omega)]
          · rw [up_ne hj]
            unfold mP
            simp only [show (j < i + 1) = (j < i) from propext ⟨fun h => by omega, fun h => by omega⟩]
        · rw [e2 c c1]
          unfold mP
          rw [if_neg (by omega), if_neg (by omega), if_neg (by omega), if_neg (by omega), if_neg (by omega), if_neg (by omega)]
  · have es : nS T M sky i = tv M 4 i := if_neg q12
    rw [if_neg q12]
    by_cases c2 : c = 2
    · subst c2
      rw [mm_w_same]
      by_cases hj : j = i
      · subst hj
        rw [up_same]
        unfold mP
        rw [if_neg (by omega), if_pos (by omega)]
      · rw [up_ne hj, e2 2 (by omega)]
        unfold mP
        simp only [show (j < i + 1) = (j < i) from propext ⟨fun h => by omega, fun h => by omega⟩]
    · rw [mm_w_ne c2]
      by_cases c1 : c = 1
      · subst c1
        rw [e1]
        by_cases hj : j = i
        · subst hj
          rw [up_same]
          unfold mP
          rw [if_pos (by omega)]
        · rw [up_ne hj]
          unfold mP
          simp only [show (j < i + 1) = (j < i) from propext ⟨fun h => by omega, fun h => by omega⟩]
      · rw [e2 c c1]
        by_cases c4 : c = 4
        · subst c4
          by_cases hj : j = i
          · subst hj
            rw [mP_ge (Nat.le_refl j)]
            unfold mP
            rw [if_neg (by omega), if_neg (by omega), if_pos (by omega), es]
            exact tv_i M 4 j
          · unfold mP
            simp only [show (j < i + 1) = (j < i) from propext ⟨fun h => by omega, fun h => by omega⟩]
        · unfold mP
          rw [if_neg (by omega), if_neg (by omega), if_neg (by omega), if_neg (by omega), if_neg (by omega), if_neg (by omega)]
set_option maxHeartbeats 4000000 in
theorem pass_loop {T M : Mm} {n k st : Nat} {mx sky : Int} (hT : OkT T n k st) (hM : OkM T M n k mx) (hmx : mx ≤ 100000) (h1 : -9 ≤ sky) (h2 : sky ≤ 9) (K : Int32 → Int32 → Mm → Option (Int32 × Mm)) : ∀ (d i fu : Nat), i + d = n → d < fu → ffX3_pass_L16 T (iI sky) K fu (iI i) (iI (sm (nL T M sky) i)) (mP T M sky i) = K (iI n) (iI (sm (nL T M sky) n)) (mP T M sky n) := by
  have hn := hT.1
  have hk := hT.2.1
  intro d
  induction d with
  | zero =>
    intro i fu hi hf
    obtain ⟨fu, rfl⟩ : ∃ q, fu = q + 1 := ⟨fu - 1, by omega⟩
    have hin : i = n := by omega
    subst hin
    rw [ffX3_pass_L16_s, hT.2.2.2.1, if_pos (by rw [iI_le (by omega) (by omega) (by omega) (by omega)]; omega)]
  | succ d ih =>
    intro i fu hi hf
    obtain ⟨fu, rfl⟩ : ∃ q, fu = q + 1 := ⟨fu - 1, by omega⟩
    have hin : i < n := by omega
    have hm := hM.2.2.2.2 i hin
    have hb := hT.2.2.2.2.2.2.1 i hin
    have hw := nW_b hT hM hin h1 h2
    have e1 : mP T M sky i 1 i = iI (tv M 1 i) := by rw [mP_ge (Nat.le_refl i)]; exact tv_i M 1 i
    have e3 : mP T M sky i 3 i = iI (tv M 3 i) := by rw [mP_3]; exact tv_i M 3 i
    have e0 : mP T M sky i 0 2 = iI (tv M 0 2) := by rw [mP_c0]; exact tv_i M 0 2
    have hmx2 := hM.2.1
    have next : ∀ M1 : Mm, M1 1 = upd (mP T M sky i 1) i (iI (nW T M sky i)) → (∀ c, c ≠ 1 → M1 c = mP T M sky i c) → (kv_b1 (ffX3_grow (iI i) M1) fun mM9 => kv_lt (iI i + 1) fun x10 => ffX3_pass_L16 T (iI sky) K fu x10 (iI (sm (nL T M sky) (i + 1))) mM9) = K (iI n) (iI (sm (nL T M sky) n)) (mP T M sky n) := by
      intro M1 q1 q2
      rw [grow_mP (by omega) hw.1 (by omega) hm.2.2.1 (by omega) q1 q2, kv_b1_d, kv_lt_d, iI_1, iI_add]
      exact ih (i + 1) fu (by omega) (by omega)
    rw [ffX3_pass_L16_s, hT.2.2.2.1, if_neg (by rw [iI_le (by omega) (by omega) (by omega) (by omega)]; omega), iI_ix (by omega) (by omega) (by omega), kv_lt_d, iI_ix (by omega) (by omega) (by omega), kv_lt_d, iI_cn (by omega), e3, e1]
    by_cases p8 : tv M 3 i = 8
    · have eL : nL T M sky i = 0 := if_neg (by omega)
      have eW : nW T M sky i = (if 0 < tv M 1 i - 1 then tv M 1 i - 1 else 0) := if_pos p8
      rw [if_pos (by rw [p8]; rfl), kv_lt_d, iI_ix (by omega) (by omega) (by omega), kv_lt_d]
      have eI : (if (0 : Int32) < iI (tv M 1 i) - 1 then iI (tv M 1 i) - 1 else 0) = iI (nW T M sky i) := by
        rw [eW, iI_1, iI_sub, iI_0]
        simp (disch := omega) only [iI_lt]
        split <;> rfl
      rw [eI]
      have := next (mm_w (mP T M sky i) 1 (upd (mP T M sky i 1) i (iI (nW T M sky i)))) (mm_w_same _ _ _) (fun c hc => mm_w_ne hc)
      rw [sm, eL, Int.add_zero] at this
      exact this
    · have e8 : ¬ iI (tv M 3 i) = (8 : Int32) := by
        rw [show (8 : Int32) = iI 8 from rfl, iI_eq (by omega) (by omega) (by omega) (by omega)]
        exact p8
      rw [if_neg e8]
      by_cases p9 : tv M 3 i = 9
      · have hh : ffX3_hangs (iI i) T (mP T M sky i) = some 0 := ha_f hT.2.2.2.2.1 hk (by omega) e3 (by omega) (by omega) (by omega)
        have eL : nL T M sky i = 0 := if_neg (by omega)
        have eW : nW T M sky i = tv M 1 i := by unfold nW; rw [if_neg p8, if_neg (by omega)]
        rw [hh, kv_b1_d, kv_lt_d, z_0]
        dsimp only
        rw [hh, kv_b1_d, z_0]
        have := next (mP T M sky i) (by
          funext j
          by_cases hj : j = i
          · subst hj; rw [up_same, eW, e1]
          · rw [up_ne hj]) (fun c hc => rfl)
        rw [sm, eL, Int.add_zero] at this
        exact this
      · have hp : 0 ≤ tv M 3 i ∧ tv M 3 i < k := by omega
        have hh : ffX3_hangs (iI i) T (mP T M sky i) = some 1 := ha_t hT.2.2.2.2.1 hk (by omega) e3 hp.1 hp.2
        rw [hh, kv_b1_d, kv_lt_d, z_1]
        by_cases hs : 0 ≤ sky
        · rw [if_pos (by rw [iI_0, iI_le (by omega) (by omega) (by omega) (by omega)]; exact hs)]
          dsimp only
          rw [hh, kv_b1_d, z_1, ffX3_pull_i hT hin hs h2 e3 hp.1 hp.2 e0 hM.2.2.1 hM.2.2.2.1, kv_b1_d]
          have hpb : ∃ z : Int, z = (if 0 < (sky + tv T 5 (tv M 3 i).toNat) * tv T 3 i - tv M 0 2 then (sky + tv T 5 (tv M 3 i).toNat) * tv T 3 i - tv M 0 2 else 0) := ⟨_, rfl⟩
          obtain ⟨z, ez⟩ := hpb
          have hzb : 0 ≤ z ∧ z ≤ 1000 := by
            have hwd := hT.2.2.2.2.2.2.2.1 (tv M 3 i).toNat (by omega)
            have m1 := mul_b (by omega : 0 ≤ sky + tv T 5 (tv M 3 i).toNat) (by omega : sky + tv T 5 (tv M 3 i).toNat ≤ 18) (by omega : 0 ≤ tv T 3 i) (by omega : tv T 3 i ≤ 3)
            have hd0 := hM.2.2.1
            rw [ez]
            split <;> omega
          have eW : nW T M sky i = (if 0 < tv M 1 i - z then tv M 1 i - z else 0) := by
            unfold nW
            rw [if_neg p8, if_pos (by omega), if_neg (by omega), ← ez]
          rw [← ez]
          have eI : (if (0 : Int32) < iI (tv M 1 i) - iI z then iI (tv M 1 i) - iI z else 0) = iI (nW T M sky i) := by
            rw [eW, iI_sub, iI_0]
            simp (disch := omega) only [iI_lt]
            split <;> rfl
          have eL : nL T M sky i = tv M 1 i - nW T M sky i := if_pos ⟨by omega, hs⟩
          rw [eI, kv_lt_d, iI_ix (by omega) (by omega) (by omega), kv_lt_d, iI_ix (by omega) (by omega) (by omega), mm_w_same, up_same, iI_sub, iI_add, kv_lt_d]
          have := next (mm_w (mP T M sky i) 1 (upd (mP T M sky i 1) i (iI (nW T M sky i)))) (mm_w_same _ _ _) (fun c hc => mm_w_ne hc)
          rw [sm, eL] at this
          exact this
        · have eL : nL T M sky i = 0 := if_neg (by omega)
          have eW : nW T M sky i = (if tv M 1 i + 1 * -sky * tv T 2 i < 2 * tv T 1 i then tv M 1 i + 1 * -sky * tv T 2 i else 2 * tv T 1 i) := by
            unfold nW
            rw [if_neg p8, if_pos (by omega), if_pos (by omega), Int.one_mul]
          rw [if_neg (by rw [iI_0, iI_le (by omega) (by omega) (by omega) (by omega)]; omega), iI_neg, iI_1, ffX6_soaked_i hT hin (by omega) (by omega) (by omega) (by omega) (by omega) (by omega), kv_b1_d, iI_ix (by omega) (by omega) (by omega), kv_lt_d, ← eW]
          have := next (mm_w (mP T M sky i) 1 (upd (mP T M sky i 1) i (iI (nW T M sky i)))) (mm_w_same _ _ _) (fun c hc => mm_w_ne hc)
          rw [sm, eL, Int.add_zero] at this
          exact this
