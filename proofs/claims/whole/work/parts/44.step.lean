/-! A STEP: both together -/
def g2 (T M : Mm) (sky : Int) (h : Nat → Int32) (o lim : Nat) : Nat → Int32 := fun j => if o + 8 ≤ j ∧ j < o + 8 + lim then iI (nA T M sky (j - (o + 8))) else if o + 14 ≤ j ∧ j < o + 14 + lim then iI (nS T M sky (j - (o + 14))) else h j
theorem g2_up {T M : Mm} {sky : Int} {h : Nat → Int32} {o i : Nat} (hi : i < 6) : upd (upd (g2 T M sky h o i) (o + 8 + i) (iI (nA T M sky i))) (o + 14 + i) (iI (nS T M sky i)) = g2 T M sky h o (i + 1) := by
  funext j
  by_cases hj : j = o + 14 + i
  · subst hj
    rw [up_same]
    unfold g2
    rw [if_neg (by omega), if_pos (by omega)]
    congr 2
    omega
  · rw [up_ne hj]
    by_cases hj2 : j = o + 8 + i
    · subst hj2
      rw [up_same]
      unfold g2
      rw [if_pos (by omega)]
      congr 2
      omega
    · rw [up_ne hj2]
      unfold g2
      simp only [show (o + 8 ≤ j ∧ j < o + 8 + (i + 1)) = (o + 8 ≤ j ∧ j < o + 8 + i) from propext ⟨fun h => by omega, fun h => by omega⟩, show (o + 14 ≤ j ∧ j < o + 14 + (i + 1)) = (o + 14 ≤ j ∧ j < o + 14 + i) from propext ⟨fun h => by omega, fun h => by omega⟩]
theorem g2_out {T M : Mm} {sky : Int} {h : Nat → Int32} {o lim j : Nat} (h1 : ¬ (o + 8 ≤ j ∧ j < o + 8 + lim)) (h2 : ¬ (o + 14 ≤ j ∧ j < o + 14 + lim)) : g2 T M sky h o lim j = h j := by
  unfold g2
  rw [if_neg h1, if_neg h2]
set_option maxHeartbeats 4000000 in
theorem go_loop2 {T M Z : Mm} {n k st o : Nat} {mx sky : Int} {h : Nat → Int32} (hT : OkT T n k st) (hR : RT T Z n k st) (hM : OkM T M n k mx) (hmx : mx ≤ 100000) (ho : o + 26 ≤ 104) (h1 : -9 ≤ sky) (h2 : sky ≤ 9) (hh : ∀ i, i < n → h (o + 2 + i) = iI (nW T M sky i) ∧ h (o + 8 + i) = iI (tv M 2 i) ∧ h (o + 14 + i) = iI (tv M 4 i)) (K : Int32 → Mm → Option (Int32 × Mm)) : ∀ (d i fu : Nat), i + d = n → d < fu → ffX8_goStep_L161 (iI o) K fu (iI i) (mm_w Z 11 (g2 T M sky h o i)) = K (iI n) (mm_w Z 11 (g2 T M sky h o n)) := by
  have hn := hT.1
  intro d
  induction d with
  | zero =>
    intro i fu hi hf
    obtain ⟨fu, rfl⟩ : ∃ q, fu = q + 1 := ⟨fu - 1, by omega⟩
    have hin : i = n := by omega
    subst hin
    rw [ffX8_goStep_L161_s, ix0 (by omega) (by omega), cl0, mm_w_ne (by omega), hR.1, if_pos (by rw [iI_le (by omega) (by omega) (by omega) (by omega)]; omega)]
  | succ d ih =>
    intro i fu hi hf
    obtain ⟨fu, rfl⟩ : ∃ q, fu = q + 1 := ⟨fu - 1, by omega⟩
    have hin : i < n := by omega
    have hm := hM.2.2.2.2 i hin
    have hb := hT.2.2.2.2.2.2.1 i hin
    have hw := nW_b hT hM hin h1 h2
    have hst := hM.2.1
    obtain ⟨s1, s2, s4⟩ := hh i hin
    have next := ih (i + 1) fu (by omega) (by omega)
    rw [← g2_up (by omega)] at next
    have ei : iI (i : Int) + 1 = iI ((i + 1 : Nat) : Int) := by rw [l1, ix2]
    have e1 : g2 T M sky h o i (o + 2 + i) = iI (nW T M sky i) := by rw [g2_out (by omega) (by omega), s1]
    have e2 : g2 T M sky h o i (o + 8 + i) = iI (tv M 2 i) := by rw [g2_out (by omega) (by omega), s2]
    have e4 : g2 T M sky h o i (o + 14 + i) = iI (tv M 4 i) := by rw [g2_out (by omega) (by omega), s4]
    have key : ∀ a : Int, a = nA T M sky i → (kv_ix (iI ((o + 8 + i : Nat) : Int)) 104 (kv_lt (mm_w (mm_w Z 11 (g2 T M sky h o i)) 11 (upd (g2 T M sky h o i) (o + 8 + i) (iI a))) fun mZ27 => kv_ix (iI ((o + 8 + i : Nat) : Int)) 104 ((if mZ27 11 (o + 8 + i) < (12 : Int32) then kv_ix (iI ((o + 14 + i : Nat) : Int)) 104 (kv_lt (mZ27 11 (o + 14 + i)) fun x28 => kv_ix (iI ((o + 14 + i : Nat) : Int)) 104 (kv_lt (mm_w mZ27 11 (upd (mZ27 11) (o + 14 + i) x28)) fun mZ29 => kv_lt (iI ((i + 1 : Nat) : Int)) fun x30 => ffX8_goStep_L161 (iI o) K fu x30 mZ29)) else kv_ix (iI ((o + 14 + i : Nat) : Int)) 104 (kv_lt (mm_w mZ27 11 (upd (mZ27 11) (o + 14 + i) 1)) fun mZ31 => kv_lt (iI ((i + 1 : Nat) : Int)) fun x32 => ffX8_goStep_L161 (iI o) K fu x32 mZ31))))) = K (iI n) (mm_w Z 11 (g2 T M sky h o n)) := by
      intro a ea
      have hab : 0 ≤ a ∧ a ≤ 100001 := by
        rw [ea]
        unfold nA
        split <;> omega
      rw [ixN (by omega) (by omega), kv_lt_d, mm_w_w, ixN (by omega) (by omega)]
      simp only [mm_w_same, up_same]
      by_cases q : a < 12
      · have es : nS T M sky i = tv M 4 i := if_neg (by omega)
        rw [if_pos (by rw [show (12 : Int32) = iI 12 from rfl, iI_lt (by omega) (by omega) (by omega) (by omega)]; exact q), ixN (by omega) (by omega), kv_lt_d, ixN (by omega) (by omega), kv_lt_d, kv_lt_d, mm_w_w, up_ne (by omega), e4]
        rw [es, ← ea] at next
        exact next
      · have es : nS T M sky i = 1 := if_pos (by omega)
        rw [if_neg (by rw [show (12 : Int32) = iI 12 from rfl, iI_lt (by omega) (by omega) (by omega) (by omega)]; exact q), ixN (by omega) (by omega), kv_lt_d, kv_lt_d, mm_w_w]
        rw [es, ← ea] at next
        exact next
    rw [ffX8_goStep_L161_s, ix0 (by omega) (by omega), cl0, mm_w_ne (by omega), hR.1, if_neg (by rw [iI_le (by omega) (by omega) (by omega) (by omega)]; omega)]
    simp only [ei]
    simp only [l14, l8, l2, ix3]
    rw [ixN (by omega) (by omega), kv_lt_d]
    simp only [iI_cn (j := o + 2 + i) (by omega), iI_cn (j := o + 8 + i) (by omega), iI_cn (j := o + 14 + i) (by omega), mm_w_same (M := Z), e1, e2]
    by_cases q : 0 < nW T M sky i
    · rw [if_neg (by rw [iI_0, iI_le (by omega) (by omega) (by omega) (by omega)]; omega), ixN (by omega) (by omega), iI_1, iI_add]
      exact key (tv M 2 i + 1) (by unfold nA; rw [if_pos q])
    · rw [if_pos (by rw [iI_0, iI_le (by omega) (by omega) (by omega) (by omega)]; omega)]
      exact key 0 (by unfold nA; rw [if_neg q])
def nLost (T M : Mm) (n st : Nat) : Int := sm (nL T M (nSky T st (tv M 0 1))) n
def nDamp (T M : Mm) (n st : Nat) : Int := tv M 0 2 / 2 + nLost T M n st / 8
/-- a stand behind a step -/
def mN (T M : Mm) (n st : Nat) : Mm := fun c j => if c = 0 ∧ j = 1 then iI (tv M 0 1 + 1) else if c = 0 ∧ j = 2 then iI (nDamp T M n st) else mP T M (nSky T st (tv M 0 1)) n c j
theorem nL_b {T M : Mm} {n k st i : Nat} {mx sky : Int} (hT : OkT T n k st) (hM : OkM T M n k mx) (hi : i < n) (h1 : -9 ≤ sky) (h2 : sky ≤ 9) : 0 ≤ nL T M sky i ∧ nL T M sky i ≤ 198 := by
  have hm := hM.2.2.2.2 i hi
  have hb := hT.2.2.2.2.2.2.1 i hi
  have hw := nW_b hT hM hi h1 h2
  unfold nL
  by_cases q : tv M 3 i < 8 ∧ 0 ≤ sky
  · rw [if_pos q]
    have hle : nW T M sky i ≤ tv M 1 i := by
      unfold nW
      rw [if_neg (by omega), if_pos q.1, if_neg (by omega)]
      have hz : 0 ≤ (if 0 < (sky + tv T 5 (tv M 3 i).toNat) * tv T 3 i - tv M 0 2 then (sky + tv T 5 (tv M 3 i).toNat) * tv T 3 i - tv M 0 2 else 0) := by split <;> omega
      generalize (if 0 < (sky + tv T 5 (tv M 3 i).toNat) * tv T 3 i - tv M 0 2 then (sky + tv T 5 (tv M 3 i).toNat) * tv T 3 i - tv M 0 2 else 0) = z at *
      split <;> omega
    omega
  · rw [if_neg q]
    omega
theorem nLost_b {T M : Mm} {n k st : Nat} {mx : Int} (hT : OkT T n k st) (hM : OkM T M n k mx) : 0 ≤ nLost T M n st ∧ nLost T M n st ≤ 1188 := by
  have hs := nSky_b hT hM.1
  have h := sm_bound (f := nL T M (nSky T st (tv M 0 1))) (lo := 0) (hi := 198) (n := n) (fun i hi => nL_b hT hM hi hs.1 hs.2)
  have hn := hT.1
  unfold nLost
  omega
theorem nDamp_b {T M : Mm} {n k st : Nat} {mx : Int} (hT : OkT T n k st) (hM : OkM T M n k mx) : 0 ≤ nDamp T M n st ∧ nDamp T M n st ≤ 1000 := by
  have h := nLost_b hT hM
  have hd0 := hM.2.2.1
  have hd1 := hM.2.2.2.1
  unfold nDamp
  omega
theorem pass_i {T M : Mm} {n k st : Nat} {mx : Int} (hT : OkT T n k st) (hM : OkM T M n k mx) (hmx : mx ≤ 100000) : ffX3_pass T M = some (iI (nLost T M n st), mN T M n st) := by
  have hs := nSky_b hT hM.1
  have hl := nLost_b hT hM
  have h0 := hM.1
  have h1 := hM.2.1
  have hd0 := hM.2.2.1
  have hd1 := hM.2.2.2.1
  have hn := hT.1
  have fu := fu_big
  unfold ffX3_pass
  rw [tv_i M 0 1, ffX6_skyIn_i hT h0 (by omega), kv_b1_d]
  have e0 : mP T M (nSky T st (tv M 0 1)) 0 = M := by
    funext c j
    exact mP_ge (Nat.zero_le j)
  have hp := pass_loop hT hM hmx hs.1 hs.2 (fun (x23 : Int32) (x24 : Int32) (mM25 : Mm) => kv_lt (((mM25 0 2) / 2) + (x24 / 8)) fun x26 => kv_lt (mm_w mM25 0 (upd (mM25 0) 2 x26)) fun mM27 => kv_lt ((mM27 0 1) + 1) fun x28 => kv_lt (mm_w mM27 0 (upd (mM27 0) 1 x28)) fun mM29 => some (x24, mM29)) n 0 kv_FU (by omega) (by omega)
  rw [e0] at hp
  refine Eq.trans hp ?_
  have ed : mP T M (nSky T st (tv M 0 1)) n 0 2 = iI (tv M 0 2) := by rw [mP_c0]; exact tv_i M 0 2
  have es : mP T M (nSky T st (tv M 0 1)) n 0 1 = iI (tv M 0 1) := by rw [mP_c0]; exact tv_i M 0 1
  have e28 : iI (tv M 0 2) / 2 + iI (nLost T M n st) / 8 = iI (nDamp T M n st) := by
    rw [show (2 : Int32) = iI 2 from rfl, show (8 : Int32) = iI 8 from rfl, iI_div hd0 (by omega) (by omega) (by omega), iI_div hl.1 (by omega) (by omega) (by omega), iI_add]
    rfl
  rw [kv_lt_d, kv_lt_d, kv_lt_d, kv_lt_d, ed]
  show some (iI (nLost T M n st), _) = _
  rw [show iI (sm (nL T M (nSky T st (tv M 0 1))) n) = iI (nLost T M n st) from rfl, e28, mm_w_same, up_ne (by omega), es, iI_1, iI_add]
  congr 2
  funext c j
  unfold mN
  by_cases c0 : c = 0
  · subst c0
    rw [mm_w_same]
    by_cases j1 : j = 1
    · subst j1
      rw [up_same, if_pos (by omega)]
    · rw [up_ne j1, if_neg (by omega)]
      by_cases j2 : j = 2
      · subst j2
        rw [up_same, if_pos (by omega)]
      · rw [up_ne j2, if_neg (by omega)]
  · rw [mm_w_ne c0, mm_w_ne c0, if_neg (by omega), if_neg (by omega)]
