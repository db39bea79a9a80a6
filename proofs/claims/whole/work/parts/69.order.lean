/-! order: both -/
theorem clear_l (Kc : Int32 → Mm → Option Mm) : ∀ (c i fu : Nat) (K : Mm), i + c = 6 → c < fu → (∀ j, j < i → K 2 j = 0) → ∃ f : Nat → Int32, (∀ j, j < 6 → f j = 0) ∧ ffX5_search_L24 Kc fu (iI i) K = Kc (iI 6) (mm_w K 2 f) := by
  intro c
  induction c with
  | zero =>
    intro i fu K hi hf h
    obtain ⟨fu, rfl⟩ : ∃ q, fu = q + 1 := ⟨fu - 1, by omega⟩
    have hin : i = 6 := by omega
    subst hin
    refine ⟨K 2, h, ?_⟩
    rw [ffX5_search_L24_s, if_pos (by decide), mm_w_self]
    rfl
  | succ c ih =>
    intro i fu K hi hf h
    obtain ⟨fu, rfl⟩ : ∃ q, fu = q + 1 := ⟨fu - 1, by omega⟩
    obtain ⟨f, f1, f2⟩ := ih (i + 1) fu (mm_w K 2 (upd (K 2) i 0)) (by omega) (by omega) (fun j hj => by
      rw [mm_w_same]
      by_cases q : j = i
      · rw [q, up_same]
      · rw [up_ne q]
        exact h j (by omega))
    rw [mm_w_w] at f2
    refine ⟨f, f1, ?_⟩
    rw [ffX5_search_L24_s, if_neg (by rw [show (6 : Int32) = iI 6 from rfl, iI_le (by omega) (by omega) (by omega) (by omega)]; omega), ixN (by omega) (by omega), kv_lt_d, kv_lt_d, iI_cn (j := i) (by omega), l1, ix2]
    exact f2
theorem cnt_k {T P : Mm} {n k : Nat} {mx : Int} (hk : k ≤ 5) (hM : OkM T P n k mx) (hP : OkP P n) : sm (fun j => if tv P 3 j < 8 then 1 else 0) n ≤ k := by
  have e : sm (fun s => sm (fun i => if tv P 3 i = (s : Int) then (1 : Int) else 0) n) k = sm (fun j => if tv P 3 j < 8 then 1 else 0) n := by
    rw [sm_swap (fun s i => if tv P 3 i = (s : Int) then (1 : Int) else 0)]
    refine sm_cong (fun i hi => ?_)
    have hm := (hM.2.2.2.2 i hi).2.2.2.2.1
    by_cases q : tv P 3 i < 8
    · rw [if_pos q]
      rw [sm_1 (i := (tv P 3 i).toNat) (by omega) (fun j hj hne => if_neg (by omega))]
      exact if_pos (by omega)
    · rw [if_neg q]
      exact sm_0 (fun s hs => if_neg (by omega))
  rw [← e]
  have hb := sm_bound (f := fun s => sm (fun i => if tv P 3 i = (s : Int) then (1 : Int) else 0) n) (lo := 0) (hi := 1) (n := k) (fun s hs => by
    have hl := (sm_bound (f := fun i => if tv P 3 i = (s : Int) then (1 : Int) else 0) (lo := 0) (hi := 1) (n := n) (fun i _ => by split <;> omega)).1
    refine ⟨by show 0 ≤ sm (fun i => if tv P 3 i = (s : Int) then (1 : Int) else 0) n; omega, ?_⟩
    show sm (fun i => if tv P 3 i = (s : Int) then (1 : Int) else 0) n ≤ 1
    by_cases q : ∃ j, j < n ∧ tv P 3 j = (s : Int)
    · obtain ⟨j, hj, ej⟩ := q
      rw [sm_1 (i := j) hj (fun i hi hne => if_neg (fun x => by
        have := hP.1 i j hi hj hne (by omega)
        omega))]
      split <;> omega
    · rw [sm_0 (fun j hj => if_neg (fun x => q ⟨j, hj, x⟩))]
      omega)
  have := hb.2
  omega
theorem codes_l {m : Nat} (hm : m ≤ 6) (Km : Int32 → Int32 → Option (Int32 × Mm)) : ∀ (d j fm : Nat), j + d = m → d < fm → ffX8_order_L38 (iI m) Km fm (iI j) (iI ((6 ^ j : Nat) : Int)) = Km (iI m) (iI ((6 ^ m : Nat) : Int)) := by
  intro d
  induction d with
  | zero =>
    intro j fm hj hf
    obtain ⟨fm, rfl⟩ : ∃ q, fm = q + 1 := ⟨fm - 1, by omega⟩
    have hin : j = m := by omega
    subst hin
    rw [ffX8_order_L38_s, if_pos (by rw [iI_le (by omega) (by omega) (by omega) (by omega)]; omega)]
  | succ d ih =>
    intro j fm hj hf
    obtain ⟨fm, rfl⟩ : ∃ q, fm = q + 1 := ⟨fm - 1, by omega⟩
    have next := ih (j + 1) fm (by omega) (by omega)
    rw [ffX8_order_L38_s, if_neg (by rw [iI_le (by omega) (by omega) (by omega) (by omega)]; omega), kv_lt_d, kv_lt_d, l1, ix2, show (6 : Int32) = iI ((6 : Nat) : Int) from rfl, iI_mul, ← Int.natCast_mul, ← Nat.pow_succ]
    exact next
set_option maxHeartbeats 1000000 in
theorem st_order {X R T P I J D Z : Mm} {G Y : Int64} (h : Rl X R T P I J D G Z Y) (K : Mm) (p q : Int32) : ∃ (r : Int32) (K' Z' : Mm), ffX7_order p q X T P K = some (r, K') ∧ ffX8_order p q Z = some (r, Z') ∧ Rl X R T P I J D G Z' Y := by
  obtain ⟨hg0, hx, hd, n, k, st, hN, hI, hJ⟩ := id h
  have fu := fu_big
  have hn := hN.1.1
  have hk := hN.1.2.1
  unfold ffX7_order ffX8_order
  rw [← wi_in, ← wi_in]
  rcases wi_b p 1 9 with e | ⟨e, w1, w2⟩
  · rw [e, kv_b1_d, kv_b1_d, z_0, z_0]
    exact ⟨_, K, Z, rfl, rfl, h⟩
  obtain ⟨r, r1, r2, rfl⟩ := rng w1 w2 (lo := 1) (hi := 9) (by decide) (by decide)
  rw [e, kv_b1_d, kv_b1_d, z_1, z_1]
  rcases wi_b q (-1) 5 with e | ⟨e, w3, w4⟩
  · rw [e, kv_b1_d, kv_b1_d, z_0, z_0]
    exact ⟨_, K, Z, rfl, rfl, h⟩
  obtain ⟨z, z1, z2, rfl⟩ := rng w3 w4 (lo := -1) (hi := 5) (by decide) (by decide)
  rw [e, kv_b1_d, kv_b1_d, z_1, z_1]
  obtain ⟨hT, hRT, hM, hP, hS⟩ := id hN
  -- the number that hangs
  have hc5 := cnt_k hk hM hP
  have hc0 := (sm_bound (f := fun j => if tv P 3 j < 8 then (1 : Int) else 0) (lo := 0) (hi := 1) (n := n) (fun i _ => by split <;> omega)).1
  obtain ⟨m, em⟩ : ∃ m : Nat, sm (fun j => if tv P 3 j < 8 then (1 : Int) else 0) n = m := ⟨(sm (fun j => if tv P 3 j < 8 then (1 : Int) else 0) n).toNat, by omega⟩
  have hm : m ≤ 5 := by omega
  have b0 : ∀ i, n ≤ i → bn n (hg P) i = false := fun i hi => by unfold bn; rw [decide_eq_false (by omega), Bool.false_and]
  have bI : ∀ i, i < n → bn n (hg P) i = hg P i := fun i hi => by unfold bn; rw [decide_eq_true hi, Bool.true_and]
  have es : sm (fun j => if bn n (hg P) j then (1 : Int) else 0) n = m := by
    rw [← em]
    exact sm_cong (fun i hi => by
      show (if bn n (hg P) i then (1 : Int) else 0) = if tv P 3 i < 8 then 1 else 0
      rw [bI i hi]
      unfold hg
      simp only [decide_eq_true_eq])
  have hset : ffX8_hanging Z = some (hB (bn n (hg P)) n) := by rw [hanging_i hN, hB_cong bI]
  have hbits := (hb_c (bn n (hg P)) hn).1
  rw [es] at hbits
  have dec : DecidablePred (vd 6 (bn n (hg P)) m) := fun c => Classical.propDecidable _
  generalize bn n (hg P) = b at *
  -- all water
  obtain ⟨aw, ha⟩ : ∃ aw : Int, aw = sm (fun j => tv P 1 j) n := ⟨_, rfl⟩
  have hab := sm_bound (f := fun j => tv P 1 j) (lo := 0) (hi := 198) (n := n) (fun i hi => by
    have h1 := hM.2.2.2.2 i hi
    have h2 := hT.2.2.2.2.2.2.1 i hi
    show 0 ≤ tv P 1 i ∧ tv P 1 i ≤ 198
    omega)
  have a0 : 0 ≤ aw := by omega
  have a1 : aw ≤ 2000 := by omega
  have hC : 6 ^ m ≤ 10000 := Nat.le_trans (Nat.pow_le_pow_right (by omega) hm) (by decide)
  -- the model
  obtain ⟨x', Z', m1, m2, m3⟩ := orderM hN r1 r2 hm hC b0 ha a0 a1 (fun (x28 : Int32) (x29 : Int32) (mZ30 : Mm) => (if iI z = ((-1) : Int32) then some (x29, mZ30) else (if iI (m : Int) ≤ iI z then some ((-9), mZ30) else kv_ix (iI z) 5 (some (mZ30 16 (iI z).toNatClampNeg, mZ30))))) (6 ^ m) 0 kv_FU none (-9) Z (by omega) (by omega) (Fr.rf Z) rfl
  -- the class
  have hsearch : ∃ K', ffX5_search (iI r) T P K = some K' ∧ CK r m (fo (vd 6 b m) (fun c => aw + wd (dW T P r) 6 m c) none (0 * 6 ^ m) (6 ^ m)) 0 0 K' := by
    unfold ffX5_search
    rw [onLine_i hT hM (by omega), kv_lt_d, kv_b1_d, kv_lt_d, kv_lt_d, em]
    obtain ⟨f, f1, f2⟩ := clear_l (fun (x9 : Int32) (mK10 : Mm) => kv_b1 (ffX3_allWater T P) fun r11 => kv_b1 (ffX5_tryFrom 8 (0 : Int32) r11 T P mK10) fun mK12 => some (mK12)) 6 0 kv_FU (mm_w (mm_w (mm_w K 0 (upd (K 0) 4 (iI r))) 0 (upd (mm_w K 0 (upd (K 0) 4 (iI r)) 0) 6 (iI m))) 0 (upd (mm_w (mm_w K 0 (upd (K 0) 4 (iI r))) 0 (upd (mm_w K 0 (upd (K 0) 4 (iI r)) 0) 6 (iI m)) 0) 7 1000000)) (by omega) (by omega) (fun j hj => absurd hj (by omega))
    generalize kv_FU = F at f2 ⊢
    rw [← l0] at f2
    rw [f2, allWater_i hT hM (by omega), kv_b1_d, ← ha]
    obtain ⟨K', k1, k2⟩ := tryC hT hM r1 r2 hm bI b0 a0 a1 m 0 8 0 none (mm_w (mm_w (mm_w (mm_w K 0 (upd (K 0) 4 (iI r))) 0 (upd (mm_w K 0 (upd (K 0) 4 (iI r)) 0) 6 (iI m))) 0 (upd (mm_w (mm_w K 0 (upd (K 0) 4 (iI r))) 0 (upd (mm_w K 0 (upd (K 0) 4 (iI r)) 0) 6 (iI m)) 0) 7 1000000)) 2 f) (by omega) (by omega) trivial ⟨rfl, rfl, rfl, fun i hi => ⟨fun x => absurd x (fun y => y), fun _ => f1 i hi⟩, fun j hj => absurd hj (by omega)⟩
    rw [show aw + wd (dW T P r) 6 0 0 = aw by rw [wd, Int.add_zero], ← l0] at k1
    refine ⟨K', ?_, k2⟩
    rw [k1, kv_b1_d]
  obtain ⟨K', c1, c2⟩ := hsearch
  rw [Nat.zero_mul] at c2
  obtain ⟨v, v1, v2⟩ := vd_ex hn m b b0 (by omega)
  obtain ⟨pp, hp⟩ := fo_some (S := none) (w := fun c => aw + wd (dW T P r) 6 m c) v2 (Nat.zero_le v) (by omega : v < 0 + 6 ^ m)
  rw [hp] at c2 m3
  obtain ⟨x1, x2, x3, x4⟩ := m3
  obtain ⟨k4, k6, ⟨y1, y2, y3, y4⟩, -, -⟩ := c2
  have hcodes : ffX8_order_L38 (iI (m : Int)) (fun (x9 : Int32) (x10 : Int32) => ffX8_order_L65 (iI r) (hB b n) (iI (m : Int)) x10 (fun (x28 : Int32) (x29 : Int32) (mZ30 : Mm) => (if iI z = ((-1) : Int32) then some (x29, mZ30) else (if iI (m : Int) ≤ iI z then some ((-9), mZ30) else kv_ix (iI z) 5 (some (mZ30 16 (iI z).toNatClampNeg, mZ30))))) kv_FU 0 (-9) Z) kv_FU 0 1 = (if iI z = ((-1) : Int32) then some (x', Z') else (if iI (m : Int) ≤ iI z then some ((-9), Z') else kv_ix (iI z) 5 (some (Z' 16 (iI z).toNatClampNeg, Z')))) := by
    generalize kv_FU = F at fu m1 ⊢
    have hcl := codes_l (m := m) (by omega) (fun (x9 : Int32) (x10 : Int32) => ffX8_order_L65 (iI r) (hB b n) (iI (m : Int)) x10 (fun (x28 : Int32) (x29 : Int32) (mZ30 : Mm) => (if iI z = ((-1) : Int32) then some (x29, mZ30) else (if iI (m : Int) ≤ iI z then some ((-9), mZ30) else kv_ix (iI z) 5 (some (mZ30 16 (iI z).toNatClampNeg, mZ30))))) F 0 (-9) Z) m 0 F (by omega) (by omega)
    exact hcl.trans m1
  rw [c1, hset, kv_b1_d, kv_b1_d, hbits, kv_b1_d, hcodes, k6]
  by_cases q1 : iI z = -1
  · rw [if_pos q1, if_pos q1, x1, y1]
    exact ⟨_, K', Z', rfl, rfl, h.fr m2⟩
  · have hz : z ≠ -1 := fun x => q1 (by rw [x]; rfl)
    rw [if_neg q1, if_neg q1]
    by_cases q2 : iI (m : Int) ≤ iI z
    · rw [if_pos q2, if_pos q2]
      exact ⟨_, K', Z', rfl, rfl, h.fr m2⟩
    · have q3 : z < m := by
        rw [iI_le (by omega) (by omega) (by omega) (by omega)] at q2
        omega
      rw [if_neg q2, if_neg q2, iI_ix (by omega) (by omega) (by omega), iI_ix (by omega) (by omega) (by omega), iI_cl (by omega) (by omega), x4 z.toNat (by omega), y4 z.toNat (by omega)]
      exact ⟨_, K', Z', rfl, rfl, h.fr m2⟩
