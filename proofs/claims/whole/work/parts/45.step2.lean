/-- the model's row 'now' behind a step of the stand at o -/
def gF (T M Z : Mm) (o n st : Nat) : Nat → Int32 := upd (g2 T M (nSky T st (tv M 0 1)) (upd (g1 T M Z (nSky T st (tv M 0 1)) o n) (o + 1) (iI (nDamp T M n st))) o n) o (iI (tv M 0 1 + 1))
theorem goStep_i {T M Z : Mm} {n k st o : Nat} {mx : Int} (hT : OkT T n k st) (hR : RT T Z n k st) (hM : OkM T M n k mx) (hmx : mx ≤ 100000) (hS : RS M Z o n) (ho : o + 26 ≤ 104) : ffX8_goStep (iI o) Z = some (iI (nLost T M n st), mm_w Z 11 (gF T M Z o n st)) := by
  have hs := nSky_b hT hM.1
  have hl := nLost_b hT hM
  have h0 := hM.1
  have h1 := hM.2.1
  have hd0 := hM.2.2.1
  have hd1 := hM.2.2.2.1
  have hn := hT.1
  have fu := fu_big
  unfold ffX8_goStep
  rw [l0, l1, ix2, ix2, ixN (by omega) (by omega)]
  simp only [Nat.add_zero, iI_cn (j := o) (by omega), iI_cn (j := o + 1) (by omega)]
  rw [hS.1, tv_i M 0 1, ffX8_skyAt_i hT hR h0 (by omega), kv_b1_d]
  have e0 : mm_w Z 11 (g1 T M Z (nSky T st (tv M 0 1)) o 0) = Z := by
    funext c
    by_cases hc : c = 11
    · subst hc
      rw [mm_w_same]
      funext j
      exact g1_out (by omega)
    · exact mm_w_ne hc
  have hp := go_loop1 hT hR hM hS ho hs.1 hs.2 (fun (x18 : Int32) (x19 : Int32) (mZ20 : Mm) => kv_ix (iI ((o + 1 : Nat) : Int)) 104 (kv_lt (((mZ20 11 (o + 1)) / 2) + (x19 / 8)) fun x21 => kv_ix (iI ((o + 1 : Nat) : Int)) 104 (kv_lt (mm_w mZ20 11 (upd (mZ20 11) (o + 1) x21)) fun mZ22 => ffX8_goStep_L161 (iI o) (fun (x33 : Int32) (mZ34 : Mm) => kv_ix (iI (o : Int)) 104 (kv_lt ((mZ34 11 o) + iI ((1 : Nat) : Int)) fun x35 => kv_ix (iI (o : Int)) 104 (kv_lt (mm_w mZ34 11 (upd (mZ34 11) o x35)) fun mZ36 => some (x19, mZ36)))) kv_FU (iI ((0 : Nat) : Int)) mZ22))) n 0 kv_FU (by omega) (by omega)
  rw [e0] at hp
  refine Eq.trans hp ?_
  have ed : g1 T M Z (nSky T st (tv M 0 1)) o n (o + 1) = iI (tv M 0 2) := by rw [g1_out (by omega), hS.2.1]; exact tv_i M 0 2
  have es : g1 T M Z (nSky T st (tv M 0 1)) o n o = iI (tv M 0 1) := by rw [g1_out (by omega), hS.1]; exact tv_i M 0 1
  have e28 : iI (tv M 0 2) / 2 + iI (nLost T M n st) / 8 = iI (nDamp T M n st) := by
    rw [show (2 : Int32) = iI 2 from rfl, show (8 : Int32) = iI 8 from rfl, iI_div hd0 (by omega) (by omega) (by omega), iI_div hl.1 (by omega) (by omega) (by omega), iI_add]
    rfl
  rw [ixN (by omega) (by omega), kv_lt_d, ixN (by omega) (by omega), kv_lt_d, mm_w_same, ed, show iI (sm (nL T M (nSky T st (tv M 0 1))) n) = iI (nLost T M n st) from rfl, e28, mm_w_w]
  have e2 : g2 T M (nSky T st (tv M 0 1)) (upd (g1 T M Z (nSky T st (tv M 0 1)) o n) (o + 1) (iI (nDamp T M n st))) o 0 = upd (g1 T M Z (nSky T st (tv M 0 1)) o n) (o + 1) (iI (nDamp T M n st)) := by
    funext j
    exact g2_out (by omega) (by omega)
  have hp2 := go_loop2 (Z := Z) (h := upd (g1 T M Z (nSky T st (tv M 0 1)) o n) (o + 1) (iI (nDamp T M n st))) hT hR hM hmx ho hs.1 hs.2 (fun i hi => by
    obtain ⟨s1, s2, s4, s3⟩ := hS.2.2 i hi
    rw [up_ne (by omega), up_ne (by omega), up_ne (by omega)]
    refine ⟨?_, by rw [g1_out (by omega), s2]; exact tv_i M 2 i, by rw [g1_out (by omega), s4]; exact tv_i M 4 i⟩
    unfold g1
    rw [if_pos (by omega)]
    congr 2
    omega) (fun (x33 : Int32) (mZ34 : Mm) => kv_ix (iI (o : Int)) 104 (kv_lt ((mZ34 11 o) + iI ((1 : Nat) : Int)) fun x35 => kv_ix (iI (o : Int)) 104 (kv_lt (mm_w mZ34 11 (upd (mZ34 11) o x35)) fun mZ36 => some (iI (nLost T M n st), mZ36)))) n 0 kv_FU (by omega) (by omega)
  rw [e2] at hp2
  refine Eq.trans hp2 ?_
  rw [ixN (by omega) (by omega), kv_lt_d, ixN (by omega) (by omega), kv_lt_d, mm_w_w, mm_w_same, g2_out (by omega) (by omega), up_ne (by omega), es, iI_add]
  rfl
/-- nothing but the stand at o has changed -/
theorem gF_out {T M Z : Mm} {o n st j : Nat} (hn : n ≤ 6) (h : j < o ∨ o + 26 ≤ j) : gF T M Z o n st j = Z 11 j := by
  unfold gF
  rw [up_ne (by omega), g2_out (by omega) (by omega), up_ne (by omega), g1_out (by omega)]
theorem RS.step {T M Z : Mm} {n st o : Nat} (hn : n ≤ 6) (hS : RS M Z o n) : RS (mN T M n st) (mm_w Z 11 (gF T M Z o n st)) o n := by
  unfold RS
  rw [mm_w_same]
  refine ⟨?_, ?_, fun i hi => ?_⟩
  · unfold gF mN
    rw [up_same, if_pos (by omega)]
  · unfold gF mN
    rw [up_ne (by omega), g2_out (by omega) (by omega), up_same, if_neg (by omega), if_pos (by omega)]
  · obtain ⟨s1, s2, s4, s3⟩ := hS.2.2 i hi
    refine ⟨?_, ?_, ?_, ?_⟩
    · unfold gF mN mP
      rw [up_ne (by omega), g2_out (by omega) (by omega), up_ne (by omega), if_neg (by omega), if_neg (by omega), if_pos (by omega)]
      unfold g1
      rw [if_pos (by omega)]
      congr 2
      omega
    · unfold gF mN mP
      rw [up_ne (by omega), if_neg (by omega), if_neg (by omega), if_neg (by omega), if_pos (by omega)]
      unfold g2
      rw [if_pos (by omega)]
      congr 2
      omega
    · unfold gF mN mP
      rw [up_ne (by omega), if_neg (by omega), if_neg (by omega), if_neg (by omega), if_neg (by omega), if_pos (by omega)]
      unfold g2
      rw [if_neg (by omega), if_pos (by omega)]
      congr 2
      omega
    · unfold gF mN
      rw [up_ne (by omega), g2_out (by omega) (by omega), up_ne (by omega), g1_out (by omega), s3, if_neg (by omega), if_neg (by omega), mP_3]
theorem tv_mN_1 {T M : Mm} {n k st i : Nat} {mx : Int} (hT : OkT T n k st) (hM : OkM T M n k mx) (hi : i < n) : tv (mN T M n st) 1 i = nW T M (nSky T st (tv M 0 1)) i := by
  have hs := nSky_b hT hM.1
  have hw := nW_b hT hM hi hs.1 hs.2
  have hb := hT.2.2.2.2.2.2.1 i hi
  unfold tv mN mP
  rw [if_neg (by omega), if_neg (by omega), if_pos (by omega)]
  exact iI_i (by unfold tv at *; omega) (by unfold tv at *; omega)
theorem tv_mN_3 {T M : Mm} {n st i : Nat} : tv (mN T M n st) 3 i = tv M 3 i := by
  unfold tv mN
  rw [if_neg (by omega), if_neg (by omega), mP_3]
theorem tv_mN_s {T M : Mm} {n k st : Nat} {mx : Int} (hM : OkM T M n k mx) (hmx : mx ≤ 100000) : tv (mN T M n st) 0 1 = tv M 0 1 + 1 := by
  have h0 := hM.1
  have h1 := hM.2.1
  unfold tv mN
  rw [if_pos (by omega)]
  exact iI_i (by unfold tv at *; omega) (by unfold tv at *; omega)
theorem OkM.step {T M : Mm} {n k st : Nat} {mx : Int} (hT : OkT T n k st) (hM : OkM T M n k mx) (hmx : mx ≤ 100000) : OkM T (mN T M n st) n k (mx + 1) := by
  have hs := nSky_b hT hM.1
  have hd := nDamp_b hT hM
  have h0 := hM.1
  have h1 := hM.2.1
  have e1 := tv_mN_s (st := st) hM hmx
  have e2 : tv (mN T M n st) 0 2 = nDamp T M n st := by
    unfold tv mN
    rw [if_neg (by omega), if_pos (by omega)]
    exact iI_i (by omega) (by omega)
  refine ⟨by omega, by omega, by omega, by omega, fun i hi => ?_⟩
  have hm := hM.2.2.2.2 i hi
  have hb := hT.2.2.2.2.2.2.1 i hi
  have hw := nW_b hT hM hi hs.1 hs.2
  have a1 := tv_mN_1 hT hM hi
  have a3 := tv_mN_3 (T := T) (M := M) (n := n) (st := st) (i := i)
  have hA : 0 ≤ nA T M (nSky T st (tv M 0 1)) i ∧ nA T M (nSky T st (tv M 0 1)) i ≤ tv M 0 1 + 1 := by
    unfold nA
    split <;> omega
  have a2 : tv (mN T M n st) 2 i = nA T M (nSky T st (tv M 0 1)) i := by
    unfold tv mN mP
    rw [if_neg (by omega), if_neg (by omega), if_neg (by omega), if_pos (by omega)]
    exact iI_i (by unfold tv at *; omega) (by unfold tv at *; omega)
  have hSm : nS T M (nSky T st (tv M 0 1)) i = 0 ∨ nS T M (nSky T st (tv M 0 1)) i = 1 := by
    unfold nS
    split
    · exact Or.inr rfl
    · exact hm.2.2.2.2.2
  have a4 : tv (mN T M n st) 4 i = nS T M (nSky T st (tv M 0 1)) i := by
    unfold tv mN mP
    rw [if_neg (by omega), if_neg (by omega), if_neg (by omega), if_neg (by omega), if_pos (by omega)]
    exact iI_i (by unfold tv at *; omega) (by unfold tv at *; omega)
  rw [a1, a2, a3, a4, e1]
  omega
