/-! odds: both -/
theorem L156_map {a b s : Int32} {K1 K2 : Int32 → Int64 → Int64 → Option (Int64 × Mm)} {f : Int64 × Mm → Int64 × Mm} (h : ∀ x y z, K1 x y z = (K2 x y z).map f) : ∀ (fm : Nat) (x : Int32) (y z : Int64), ffX8_odds_L156 a b s K1 fm x y z = (ffX8_odds_L156 a b s K2 fm x y z).map f
  | 0, _, _, _ => rfl
  | fm + 1, x, y, z => by
    rw [ffX8_odds_L156_s, ffX8_odds_L156_s]
    simp only [kv_lt_d]
    by_cases q : s ≤ x
    · rw [if_pos q, if_pos q, h]
    · rw [if_neg q, if_neg q, L156_map h fm]
theorem pC_i {a b s : Nat} (h0 : 0 < b) (hb : b ≤ 9) (ha : a ≤ b) (hs : s ≤ 18) {w : Int32} (hw : w = 0 ∨ w = 1) : ∃ x : Int64, pw a b s w = some x ∧ pm a b s w = some x := by
  have h := List.all_eq_true.mp pC_all b (List.mem_range.mpr (by omega))
  have h2 : (List.range (b + 1)).all (fun a => (List.range 19).all (fun s => pC a b s 0 && pC a b s 1)) = true := by
    rcases Bool.or_eq_true_iff.mp h with q | q
    · have : b = 0 := by simpa using q
      omega
    · exact q
  have h3 := List.all_eq_true.mp h2 a (List.mem_range.mpr (by omega))
  have h4 := List.all_eq_true.mp h3 s (List.mem_range.mpr (by omega))
  rw [Bool.and_eq_true] at h4
  have h5 : pC a b s w = true := by
    rcases hw with rfl | rfl
    · exact h4.1
    · exact h4.2
  unfold pC at h5
  cases e1 : pw a b s w with
  | none => rw [e1] at h5; cases h5
  | some x =>
    cases e2 : pm a b s w with
    | none => rw [e1, e2] at h5; cases h5
    | some y =>
      rw [e1, e2] at h5
      have e := of_decide_eq_true h5
      exact ⟨x, rfl, by rw [e]⟩
theorem pw_c {a b s : Nat} {w : Int32} {x : Int64} (h : pw a b s w = some x) (A : Mm) : (kv_b1 (ffX7_commonDivisor (iI b - iI a) (iI b)) fun r7 => kv_lt (fun (x9 : Int32) => kv_nz r7 (kv_b1 (ffX7_power (x9 / r7) (iI s)) fun r10 => some (r10, A))) fun k100_8 => (if w = (0 : Int32) then k100_8 (iI b - iI a) else k100_8 (iI b))) = some (x, A) := by
  unfold pw at h
  cases e : ffX7_commonDivisor (iI b - iI a) (iI b) with
  | none => rw [e] at h; cases h
  | some r =>
    rw [e] at h
    simp only [kv_b1_d, kv_lt_d] at h ⊢
    have key : ∀ y : Int32, (kv_nz r (kv_b1 (ffX7_power (y / r) (iI s)) fun r10 => some r10)) = some x → (kv_nz r (kv_b1 (ffX7_power (y / r) (iI s)) fun r10 => some (r10, A))) = some (x, A) := by
      intro y hy
      unfold kv_nz at hy ⊢
      by_cases q : r = 0
      · rw [if_pos q] at hy; cases hy
      · rw [if_neg q] at hy ⊢
        cases e2 : ffX7_power (y / r) (iI s) with
        | none => rw [e2] at hy; cases hy
        | some z =>
          rw [e2] at hy
          rw [kv_b1_d] at hy ⊢
          cases hy
          rfl
    by_cases q : w = 0
    · rw [if_pos q] at h ⊢
      exact key _ h
    · rw [if_neg q] at h ⊢
      exact key _ h
theorem pm_c {a b s : Nat} {w : Int32} {x : Int64} (h : pm a b s w = some x) (M : Mm) : ffX8_odds_L156 (iI a) (iI b) (iI s) (fun (x27 : Int32) (x28 : Int64) (x29 : Int64) => kv_b1 (ffX8_common x29 x28) fun r30 => (if w = (0 : Int32) then kv_nzl r30 (some (x29 / r30, M)) else kv_nzl r30 (some (x28 / r30, M)))) kv_FU 0 1 1 = some (x, M) := by
  unfold pm at h
  rw [L156_map (f := fun p => (p.1, M)) (K2 := fun (x27 : Int32) (x28 : Int64) (x29 : Int64) => kv_b1 (ffX8_common x29 x28) fun r30 => (if w = (0 : Int32) then kv_nzl r30 (some (x29 / r30, zz)) else kv_nzl r30 (some (x28 / r30, zz))))]
  · generalize ffX8_odds_L156 (iI a) (iI b) (iI s) _ kv_FU 0 1 1 = o at h ⊢
    cases o with
    | none => cases h
    | some y =>
      cases h
      rfl
  · intro x y z
    cases ffX8_common z y with
    | none => rfl
    | some r =>
      simp only [kv_b1_d]
      unfold kv_nzl
      by_cases q : w = 0
      · rw [if_pos q, if_pos q]
        by_cases q2 : r = 0
        · rw [if_pos q2, if_pos q2]; rfl
        · rw [if_neg q2, if_neg q2]; rfl
      · rw [if_neg q, if_neg q]
        by_cases q2 : r = 0
        · rw [if_pos q2, if_pos q2]; rfl
        · rw [if_neg q2, if_neg q2]; rfl
theorem st_odds {X R T P I J D Z : Mm} {G Y : Int64} (h : Rl X R T P I J D G Z Y) (A : Mm) (p0 p1 p2 : Int32) : ∃ (r : Int64) (A' Z' : Mm), ffX7_odds p0 p1 p2 X T P A = some (r, A') ∧ ffX8_odds p0 p1 p2 Z = some (r, Z') ∧ Rl X R T P I J D G Z' Y := by
  obtain ⟨hg', hx, hd, n, k, st, hN, hI, hJ⟩ := id h
  have fu := fu_big
  have hn := hN.1.1
  unfold ffX7_odds ffX8_odds
  rw [← wi_in, ← wi_in, ← wi_in]
  rcases wi_b p1 1 9 with e | ⟨e, w1, w2⟩
  · rw [e, kv_b1_d, kv_b1_d, z_0, z_0]
    exact ⟨_, A, Z, rfl, rfl, h⟩
  obtain ⟨b, b1, b2, rfl⟩ := rng w1 w2 (lo := 1) (hi := 9) (by decide) (by decide)
  rw [e, kv_b1_d, kv_b1_d, z_1, z_1]
  rcases wi_b p0 0 (iI b) with e | ⟨e, w3, w4⟩
  · rw [e, kv_b1_d, kv_b1_d, z_0, z_0]
    exact ⟨_, A, Z, rfl, rfl, h⟩
  obtain ⟨a, a1, a2, rfl⟩ := rng w3 w4 (lo := 0) (hi := b) (by decide) (iI_i (by omega) (by omega))
  rw [e, kv_b1_d, kv_b1_d, z_1, z_1]
  rcases wi_b p2 0 1 with e | ⟨e, w5, w6⟩
  · rw [e, kv_b1_d, kv_b1_d, z_0, z_0]
    exact ⟨_, A, Z, rfl, rfl, h⟩
  obtain ⟨c, cc1, cc2, rfl⟩ := rng w5 w6 (lo := 0) (hi := 1) (by decide) (by decide)
  have hw : iI c = 0 ∨ iI c = 1 := by
    rcases (show c = 0 ∨ c = 1 by omega) with rfl | rfl
    · exact Or.inl rfl
    · exact Or.inr rfl
  rw [e, kv_b1_d, kv_b1_d, z_1, z_1, onLine_i hN.1 hN.2.2.1 (by omega), hanging_i hN, kv_b1_d, kv_b1_d]
  have hc3 := (hb_c (hg P) hn).2.2
  have es : sm (fun j => if tv P 3 j < 8 then 1 else 0) n = sm (fun j => if hg P j then 1 else 0) n := sm_cong (fun i _ => by unfold hg; simp only [decide_eq_true_eq])
  have hsb := sm_bound (f := fun j => if hg P j then (1 : Int) else 0) (lo := 0) (hi := 1) (n := n) (fun i _ => by split <;> omega)
  rw [es]
  by_cases q0 : hB (hg P) n = 0
  · rw [if_pos q0, hc3.mp q0, if_pos (show iI 0 = (0 : Int32) from rfl)]
    exact ⟨_, A, Z, rfl, rfl, h⟩
  have q1 : ¬ sm (fun j => if hg P j then 1 else 0) n = 0 := fun x => q0 (hc3.mpr x)
  rw [if_neg q0, if_neg (by rw [iI_0, iI_eq (by omega) (by omega) (by omega) (by omega)]; exact q1)]
  obtain ⟨c1, c2, c3, c4⟩ := fore (A := A) hN
  unfold ffX7_stepsWithoutRain
  rw [c1, c2, kv_b1_d, kv_b1_d]
  obtain ⟨b, rfl⟩ : ∃ q : Nat, b = q := ⟨b.toNat, by omega⟩
  obtain ⟨a, rfl⟩ : ∃ q : Nat, a = q := ⟨a.toNat, by omega⟩
  have hgP : ∀ i, i < n → hg P i = hg (mC A P n) i := fun i hi => by
    unfold hg tv
    rw [mC_in hi (by omega) (by omega)]
  obtain ⟨r, A', Z', g1, g2, g3⟩ := odds_sim (q := (iI c).toInt64) (hg P) (fun (x9 : Int32) (mA10 : Mm) => some ((-9), mA10)) (fun _ _ => rfl) (fun (x17 : Int32) (x18 : Int32) (mZ19 : Mm) => (if x17 = (0 : Int32) then kv_b1 (ffX8_isDry (26 : Int32) (hB (hg P) n) mZ19) fun r20 => (if r20 = (0 : Int32) then some ((iI c).toInt64, mZ19) else (if x18 ≤ (18 : Int32) then ffX8_odds_L156 (iI a) (iI b) x18 (fun (x27 : Int32) (x28 : Int64) (x29 : Int64) => kv_b1 (ffX8_common x29 x28) fun r30 => (if iI c = (0 : Int32) then kv_nzl r30 (some (x29 / r30, mZ19)) else kv_nzl r30 (some (x28 / r30, mZ19)))) kv_FU 0 1 1 else some ((-2), mZ19))) else some ((iI c).toInt64, mZ19))) (fun s M => if_neg (by decide)) (fun s M hM => by rw [if_pos rfl, hM, kv_b1_d, if_pos rfl]) 99 0 kv_FU kv_FU _ _ (by omega) (by omega) (by omega) c3 hgP
  have g1' : ffX7_stepsWithoutRain_L13 T (fun (x9 : Int32) (mA10 : Mm) => some ((-9), mA10)) kv_FU 0 (mC A P n) = some (r, A') := g1
  rw [g1', kv_b2_d]
  have hF := h.fr (c4.tr g2)
  rcases g3 with ⟨rfl, g4⟩ | ⟨s, s1, rfl, g4, g5⟩
  · rw [if_pos rfl]
    rcases hw with hw | hw
    · rw [if_pos hw]
      rw [hw] at g4
      exact ⟨_, A', Z', rfl, by rw [hw]; exact g4, hF⟩
    · rw [if_neg (by rw [hw]; decide)]
      rw [hw] at g4
      exact ⟨_, A', Z', rfl, by rw [hw]; exact g4, hF⟩
  · rw [if_neg (ne9 (by omega))]
    have g4' := g4
    rw [if_pos rfl, g5, kv_b1_d, if_neg (by decide)] at g4'
    by_cases q : s ≤ 18
    · have hq : iI (s : Int) ≤ (18 : Int32) := by rw [show (18 : Int32) = iI 18 from rfl, iI_le (by omega) (by omega) (by omega) (by omega)]; omega
      rw [if_pos hq] at g4' ⊢
      obtain ⟨x, x1, x2⟩ := pC_i (a := a) (b := b) (s := s) (by omega) (by omega) (by omega) q hw
      rw [pw_c x1 A']
      rw [pm_c x2 Z'] at g4'
      exact ⟨x, A', Z', rfl, g4', hF⟩
    · have hq : ¬ iI (s : Int) ≤ (18 : Int32) := by rw [show (18 : Int32) = iI 18 from rfl, iI_le (by omega) (by omega) (by omega) (by omega)]; omega
      rw [if_neg hq] at g4' ⊢
      exact ⟨_, A', Z', rfl, g4', hF⟩
