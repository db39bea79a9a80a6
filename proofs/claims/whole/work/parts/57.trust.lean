/-! right, better, trust -/
def ck (u s : Nat) : Bool := match ffX7_commonDivisor (iI u) (iI s), ffX8_common (iI u).toInt64 (iI s).toInt64 with
  | some a, some b => decide (b.toInt32 = a) && decide (a ≠ 0)
  | _, _ => false
set_option maxRecDepth 100000 in
theorem ck_all : (List.range 31).all (fun s => s == 0 || (List.range (s + 1)).all (fun u => ck u s)) = true := by decide +kernel
theorem ck_i {u s : Nat} (hs : s ≤ 30) (h0 : 0 < s) (hu : u ≤ s) : ∃ (a : Int32) (b : Int64), ffX7_commonDivisor (iI u) (iI s) = some a ∧ ffX8_common (iI u).toInt64 (iI s).toInt64 = some b ∧ b.toInt32 = a ∧ a ≠ 0 := by
  have h := List.all_eq_true.mp ck_all s (List.mem_range.mpr (by omega))
  have h2 : (List.range (s + 1)).all (fun u => ck u s) = true := by
    rcases Bool.or_eq_true_iff.mp h with q | q
    · have : s = 0 := by simpa using q
      omega
    · exact q
  have h3 := List.all_eq_true.mp h2 u (List.mem_range.mpr (by omega))
  unfold ck at h3
  cases e1 : ffX7_commonDivisor (iI u) (iI s) with
  | none => rw [e1] at h3; cases h3
  | some a =>
    cases e2 : ffX8_common (iI u).toInt64 (iI s).toInt64 with
    | none => rw [e1, e2] at h3; cases h3
    | some b =>
      rw [e1, e2] at h3
      simp only [Bool.and_eq_true, decide_eq_true_eq] at h3
      exact ⟨a, b, rfl, rfl, h3.1, h3.2⟩
theorem x2w (j w : Nat) : (2 : Int32) * iI (j : Int) + iI (w : Int) = iI ((2 * j + w : Nat) : Int) := by
  rw [show (2 : Int32) = iI 2 from rfl, iI_mul, iI_add]
  congr 1
theorem rightOf_i {Z : Mm} {d w : Nat} (hd : d ≤ 30) (hw : w < 2) (h : Z 0 23 = iI d) : ffX8_rightOf (iI w) Z = some (iI (sm (fun j => if Z 17 (2 * j + w) = Z 18 j then 1 else 0) d)) := by
  have fu := fu_big
  have loop : ∀ (r i fu : Nat), i + r = d → r < fu → ffX8_rightOf_L4 (iI w) Z (fun (x7 : Int32) (x8 : Int32) => some x8) fu (iI i) (iI (sm (fun j => if Z 17 (2 * j + w) = Z 18 j then 1 else 0) i)) = some (iI (sm (fun j => if Z 17 (2 * j + w) = Z 18 j then 1 else 0) d)) := by
    intro r
    induction r with
    | zero =>
      intro i fu hi hf
      obtain ⟨fu, rfl⟩ : ∃ q, fu = q + 1 := ⟨fu - 1, by omega⟩
      have hin : i = d := by omega
      subst hin
      rw [ffX8_rightOf_L4_s, h, if_pos (by rw [iI_le (by omega) (by omega) (by omega) (by omega)]; omega)]
    | succ r ih =>
      intro i fu hi hf
      obtain ⟨fu, rfl⟩ : ∃ q, fu = q + 1 := ⟨fu - 1, by omega⟩
      have next := ih (i + 1) fu (by omega) (by omega)
      rw [sm] at next
      rw [ffX8_rightOf_L4_s, h, if_neg (by rw [iI_le (by omega) (by omega) (by omega) (by omega)]; omega), x2w, ixN (by omega) (by omega), ixN (by omega) (by omega), iI_cn (j := 2 * i + w) (by omega), iI_cn (j := i) (by omega)]
      by_cases q : Z 17 (2 * i + w) = Z 18 i
      · have ef : (if Z 17 (2 * i + w) = Z 18 i then (1 : Int) else 0) = 1 := if_pos q
        rw [if_pos q, kv_lt_d, kv_lt_d, l1, ix2, iI_add]
        simp only [ef] at next
        exact next
      · have ef : (if Z 17 (2 * i + w) = Z 18 i then (1 : Int) else 0) = 0 := if_neg q
        rw [if_neg q, kv_lt_d, kv_lt_d, l1, ix2, iI_0, iI_add]
        simp only [ef] at next
        exact next
  unfold ffX8_rightOf
  generalize kv_FU = F at fu ⊢
  exact loop d 0 F (by omega) (by omega)
theorem st_right {X R T P I J D Z : Mm} {G Y : Int64} (h : Rl X R T P I J D G Z Y) (p : Int32) : ∃ (r : Int32), ffX7_right p X D = some r ∧ ffX8_right p Z = some r := by
  obtain ⟨hg, hx, ⟨d, d1, d2, d3, d4, d5⟩, hN⟩ := h
  unfold ffX7_right ffX8_right
  rw [← wi_in]
  rcases wi_b p 0 1 with e1 | ⟨e1, w1, w2⟩
  · rw [e1, kv_b1_d, kv_b1_d, z_0, z_0]
    exact ⟨_, rfl, rfl⟩
  · obtain ⟨z, z1, z2, rfl⟩ := rng w1 w2 (lo := 0) (hi := 1) (by decide) (by decide)
    obtain ⟨w, rfl⟩ : ∃ w : Nat, z = (w : Int) := ⟨z.toNat, by omega⟩
    rw [e1, kv_b1_d, kv_b1_d, z_1, z_1, rightOf_i d1 (by omega) d3, kv_b1_d, ixN (by omega) (by omega), iI_cn (by omega), (d5 w (by omega)).1]
    exact ⟨_, rfl, rfl⟩
theorem st_better {X R T P I J D Z : Mm} {G Y : Int64} (h : Rl X R T P I J D G Z Y) : ∃ (r : Int32), ffX7_better X D = some r ∧ ffX8_better Z = some r := by
  obtain ⟨hg, hx, ⟨d, d1, d2, d3, d4, d5⟩, hN⟩ := h
  unfold ffX7_better ffX8_better
  rw [d2, d3]
  by_cases q : d = 0
  · subst q
    exact ⟨-9, rfl, rfl⟩
  · have hne : ¬ iI (d : Int) = (0 : Int32) := by rw [iI_0, iI_eq (by omega) (by omega) (by omega) (by omega)]; omega
    rw [if_neg hne, if_neg hne, show ffX8_rightOf (1 : Int32) Z = _ from rightOf_i (w := 1) d1 (by omega) d3, show ffX8_rightOf (0 : Int32) Z = _ from rightOf_i (w := 0) d1 (by omega) d3, kv_b1_d, kv_b1_d, ← (d5 0 (by omega)).1, ← (d5 1 (by omega)).1, show kv_ix (1 : Int32) 2 _ = _ from ixN (j := 1) (by omega) (by omega), ix0 (by omega) (by omega), show (1 : Int32).toNatClampNeg = 1 from rfl, cl0]
    by_cases c : D 1 1 ≤ D 1 0
    · rw [if_pos c]; exact ⟨_, rfl, rfl⟩
    · rw [if_neg c]; exact ⟨_, rfl, rfl⟩
theorem trustm_l {Z : Mm} {d w : Nat} (hd : d ≤ 30) (hw : w < 2) (h : Z 0 23 = iI d) (K : Int32 → Int32 → Int32 → Option Int32) : ∀ (r i fu : Nat), i + r = d → r < fu → ffX8_trust_L28 (iI w) Z K fu (iI i) (iI (sm (fun j => tv Z 17 (2 * j + w)) i)) (iI (sm (fun j => tv Z 17 (2 * j + w) * tv Z 18 j) i)) = K (iI d) (iI (sm (fun j => tv Z 17 (2 * j + w)) d)) (iI (sm (fun j => tv Z 17 (2 * j + w) * tv Z 18 j) d)) := by
  intro r
  induction r with
  | zero =>
    intro i fu hi hf
    obtain ⟨fu, rfl⟩ : ∃ q, fu = q + 1 := ⟨fu - 1, by omega⟩
    have hin : i = d := by omega
    subst hin
    rw [ffX8_trust_L28_s, h, if_pos (by rw [iI_le (by omega) (by omega) (by omega) (by omega)]; omega)]
  | succ r ih =>
    intro i fu hi hf
    obtain ⟨fu, rfl⟩ : ∃ q, fu = q + 1 := ⟨fu - 1, by omega⟩
    have next := ih (i + 1) fu (by omega) (by omega)
    rw [sm, sm] at next
    rw [ffX8_trust_L28_s, h, if_neg (by rw [iI_le (by omega) (by omega) (by omega) (by omega)]; omega), x2w, ixN (by omega) (by omega), kv_lt_d, ixN (by omega) (by omega), ixN (by omega) (by omega), kv_lt_d, kv_lt_d, iI_cn (j := 2 * i + w) (by omega), iI_cn (j := i) (by omega), tv_i Z 17, tv_i Z 18, iI_mul, iI_add, iI_add, l1, ix2]
    exact next
theorem st_trust {X R T P I J D Z : Mm} {G Y : Int64} (h : Rl X R T P I J D G Z Y) (p q : Int32) : ∃ (r : Int32), ffX7_trust p q X D = some r ∧ ffX8_trust p q Z = some r := by
  obtain ⟨hg, hx, ⟨d, d1, d2, d3, d4, d5⟩, hN⟩ := h
  have fu := fu_big
  unfold ffX7_trust ffX8_trust
  rw [← wi_in, ← wi_in]
  rcases wi_b p 0 1 with e1 | ⟨e1, w1, w2⟩
  · rw [e1, kv_b1_d, kv_b1_d, z_0, z_0]
    exact ⟨_, rfl, rfl⟩
  · obtain ⟨z, z1, z2, rfl⟩ := rng w1 w2 (lo := 0) (hi := 1) (by decide) (by decide)
    obtain ⟨w, rfl⟩ : ∃ w : Nat, z = (w : Int) := ⟨z.toNat, by omega⟩
    rw [e1, kv_b1_d, kv_b1_d, z_1, z_1]
    rcases wi_b q 0 1 with e2 | ⟨e2, w3, w4⟩
    · rw [e2, kv_b1_d, kv_b1_d, z_0, z_0]
      exact ⟨_, rfl, rfl⟩
    · rw [e2, kv_b1_d, kv_b1_d, z_1, z_1]
      obtain ⟨f1, f2, f3⟩ := d5 w (by omega)
      have bits : ∀ j, j < d → (tv Z 17 (2 * j + w) = 0 ∨ tv Z 17 (2 * j + w) = 1) ∧ (tv Z 18 j = 0 ∨ tv Z 18 j = 1) := by
        intro j hj
        obtain ⟨a, b, c⟩ := d4 j hj
        have hz : ∀ x : Int32, x = 0 ∨ x = 1 → x.toInt = 0 ∨ x.toInt = 1 := fun x hx => by
          rcases hx with rfl | rfl
          · exact Or.inl rfl
          · exact Or.inr rfl
        refine ⟨?_, hz _ c⟩
        rcases (show w = 0 ∨ w = 1 by omega) with rfl | rfl
        · exact hz _ a
        · exact hz _ b
      have hs := sm_bound (f := fun j => tv Z 17 (2 * j + w)) (lo := 0) (hi := 1) (n := d) (fun j hj => by have := (bits j hj).1; omega)
      have hu := sm_bound (f := fun j => tv Z 17 (2 * j + w) * tv Z 18 j) (lo := 0) (hi := 1) (n := d) (fun j hj => by
        obtain ⟨a, b⟩ := bits j hj
        rcases a with a | a <;> rcases b with b | b <;> rw [a, b] <;> omega)
      have hle : ∀ m, m ≤ d → sm (fun j => tv Z 17 (2 * j + w) * tv Z 18 j) m ≤ sm (fun j => tv Z 17 (2 * j + w)) m := by
        intro m
        induction m with
        | zero => intro _; exact Int.le_refl _
        | succ m ih =>
          intro hm
          have h1 := ih (by omega)
          rw [sm, sm]
          obtain ⟨a, b⟩ := bits m (by omega)
          rcases a with a | a <;> rcases b with b | b <;> rw [a, b] <;> omega
      have hle2 := hle d (Nat.le_refl d)
      generalize kv_FU = F at fu ⊢
      have hl := trustm_l d1 (by omega) d3 (fun (x9 : Int32) (x10 : Int32) (x11 : Int32) => (if x10 = (0 : Int32) then some (-2) else kv_b1 (ffX8_common x11.toInt64 x10.toInt64) fun r12 => kv_lt (r12.toInt32) fun x13 => (if q = (0 : Int32) then kv_nz x13 (some (x11 / x13)) else kv_nz x13 (some (x10 / x13))))) (w := w) d 0 F (by omega) (by omega)
      have hl2 : ffX8_trust_L28 (iI w) Z (fun (x9 : Int32) (x10 : Int32) (x11 : Int32) => (if x10 = (0 : Int32) then some (-2) else kv_b1 (ffX8_common x11.toInt64 x10.toInt64) fun r12 => kv_lt (r12.toInt32) fun x13 => (if q = (0 : Int32) then kv_nz x13 (some (x11 / x13)) else kv_nz x13 (some (x10 / x13))))) F 0 0 0 = _ := hl
      rw [hl2, ixN (by omega) (by omega), iI_cn (by omega), kv_lt_d, f2]
      generalize sm (fun j => tv Z 17 (2 * j + w)) d = sd at *
      generalize sm (fun j => tv Z 17 (2 * j + w) * tv Z 18 j) d = ud at *
      by_cases c : sd = 0
      · subst c
        exact ⟨-2, rfl, rfl⟩
      · have hne : ¬ iI sd = (0 : Int32) := by rw [iI_0, iI_eq (by omega) (by omega) (by omega) (by omega)]; exact c
        obtain ⟨s, rfl⟩ : ∃ s : Nat, sd = (s : Int) := ⟨sd.toNat, by omega⟩
        obtain ⟨u, rfl⟩ : ∃ u : Nat, ud = (u : Int) := ⟨ud.toNat, by omega⟩
        obtain ⟨a, b, g1, g2, g3, g4⟩ := ck_i (u := u) (s := s) (by omega) (by omega) (by omega)
        rw [if_neg hne, if_neg hne, ixN (by omega) (by omega), kv_lt_d, kv_lt_d, f3, g1, g2]
        simp only [kv_b1_d, kv_lt_d, g3]
        have hz : ∀ v : Int32, kv_nz a (some (v / a)) = some (v / a) := fun v => if_neg g4
        by_cases cq : q = 0
        · rw [if_pos cq, hz]
          exact ⟨_, rfl, rfl⟩
        · rw [if_neg cq, hz]
          exact ⟨_, rfl, rfl⟩
