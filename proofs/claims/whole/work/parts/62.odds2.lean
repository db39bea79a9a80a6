/-! odds: the two runs, and the powers -/
theorem t99le {t : Nat} (h : t ≤ 100) : ((99 : Int32) ≤ iI (t : Int)) = (99 ≤ t) := by
  rw [show (99 : Int32) = iI 99 from rfl, iI_le (by omega) (by omega) (by omega) (by omega)]
  exact propext ⟨fun h => by omega, fun h => by omega⟩
theorem ix26 {β : Type} {k : Option β} : kv_ix (26 : Int32) 104 k = k := ixN (j := 26) (by omega) (by omega)
theorem cl26 : (26 : Int32).toNatClampNeg = 26 := iI_cn (j := 26) (by omega)
theorem hg_step {T A : Mm} {n st : Nat} (i : Nat) : hg (mN T A n st) i = hg A i := by unfold hg; rw [tv_mN_3]
/-- behind the rain the model only goes on -/
theorem odds_rest {T : Mm} {n k st : Nat} {q : Int64} (b : Nat → Bool) (K : Int32 → Int32 → Mm → Option (Int64 × Mm)) (hK1 : ∀ s M, K 1 s M = some (q, M)) : ∀ (d t fm : Nat) (A Z : Mm), t + d = 99 → d < fm → RF T A Z n k st (99 + t) → (∀ i, i < n → b i = hg A i) → ∃ Z' : Mm, ffX8_odds_L60 (hB b n) K fm 1 (iI t) Z = some (q, Z') ∧ Fr Z Z' := by
  intro d
  induction d with
  | zero =>
    intro t fm A Z ht hm h hb
    obtain ⟨fm, rfl⟩ : ∃ q, fm = q + 1 := ⟨fm - 1, by omega⟩
    rw [ffX8_odds_L60_s, if_pos (by rw [t99le (by omega)]; omega), hK1]
    exact ⟨Z, rfl, Fr.rf Z⟩
  | succ d ih =>
    intro t fm A Z ht hm h hb
    obtain ⟨fm, rfl⟩ : ∃ q, fm = q + 1 := ⟨fm - 1, by omega⟩
    rw [ffX8_odds_L60_s, if_neg (by rw [t99le (by omega)]; omega), isDry_i h b hb, kv_b1_d]
    by_cases w : sm (wt A) n = 0
    · rw [if_pos w, if_neg (by decide), hK1]
      exact ⟨Z, rfl, Fr.rf Z⟩
    · obtain ⟨f1, f2, f3, f4⟩ := fstep h (by omega)
      have ee : (99 : Int) + ((t + 1 : Nat) : Int) = 99 + (t : Int) + 1 := by omega
      rw [← ee] at f3
      simp only [kv_lt_d]
      rw [if_neg w, if_pos rfl, if_neg (by decide), f2, kv_b2_d, l1, ix2]
      obtain ⟨Z', e1, e2⟩ := ih (t + 1) fm _ _ (by omega) (by omega) f3 (fun i hi => by rw [hg_step]; exact hb i hi)
      exact ⟨Z', e1, f4.tr e2⟩
theorem odds_sim {T : Mm} {n k st : Nat} {q : Int64} (b : Nat → Bool) (Kc : Int32 → Mm → Option (Int32 × Mm)) (hKc : ∀ a M, Kc a M = some ((-9), M)) (K : Int32 → Int32 → Mm → Option (Int64 × Mm)) (hK1 : ∀ s M, K 1 s M = some (q, M)) (hK0 : ∀ s M, ffX8_isDry (26 : Int32) (hB b n) M = some 0 → K 0 s M = some (q, M)) : ∀ (d t fu fm : Nat) (A Z : Mm), t + d = 99 → d + 1 < fu → d < fm → RF T A Z n k st (99 + t) → (∀ i, i < n → b i = hg A i) → ∃ (r : Int32) (A' Z' : Mm), ffX7_stepsWithoutRain_L13 T Kc fu (iI t) A = some (r, A') ∧ Fr Z Z' ∧ ((r = -9 ∧ ffX8_odds_L60 (hB b n) K fm 0 (iI t) Z = some (q, Z')) ∨ (∃ s : Nat, s ≤ 99 ∧ r = iI s ∧ ffX8_odds_L60 (hB b n) K fm 0 (iI t) Z = K 0 (iI s) Z' ∧ ffX8_isDry (26 : Int32) (hB b n) Z' = some 1)) := by
  intro d
  induction d with
  | zero =>
    intro t fu fm A Z ht hf hm h hb
    obtain ⟨fu, rfl⟩ : ∃ q, fu = q + 2 := ⟨fu - 2, by omega⟩
    obtain ⟨fm, rfl⟩ : ∃ q, fm = q + 1 := ⟨fm - 1, by omega⟩
    obtain ⟨hT, hRT, hM, hP, hS⟩ := id h
    have hc : ¬ (99 : Int32) < iI (t : Int) := by rw [t99 (by omega)]; omega
    have dry := isDry_i h b hb
    have hw : ffX3_wetOnLine T A = some (iI (sm (wt A) n)) := wetOnLine_i hT hM (by omega)
    have hwb := (sm_bound (f := wt A) (lo := 0) (hi := 1) (n := n) (fun i _ => by unfold wt; split <;> omega))
    have hn := hT.1
    rw [ffX7_stepsWithoutRain_L13_s, ffX8_odds_L60_s, if_neg hc, if_pos (show (99 : Int32) ≤ iI (t : Int) by rw [t99le (by omega)]; omega), hw, kv_b1_d]
    by_cases w : sm (wt A) n = 0
    · rw [if_pos w] at dry
      rw [w, if_pos (show iI 0 = (0 : Int32) from rfl)]
      exact ⟨_, A, Z, rfl, Fr.rf Z, Or.inr ⟨t, by omega, rfl, rfl, dry⟩⟩
    · rw [if_neg w] at dry
      rw [if_neg (by rw [iI_0, iI_eq (by omega) (by omega) (by omega) (by omega)]; omega), tv_i A 0 1, ffX6_skyIn_i hT hM.1 (by have := hM.2.1; omega), kv_b1_d]
      obtain ⟨f1, f2, f3, f4⟩ := fstep h (by omega)
      by_cases sk : (0 : Int32) ≤ iI (nSky T st (tv A 0 1))
      · rw [if_pos sk, f1, kv_b2_d, kv_lt_d, l1, ix2, ffX7_stepsWithoutRain_L13_s, if_pos (by rw [t99 (by omega)]; omega), hKc]
        exact ⟨_, _, Z, rfl, Fr.rf Z, Or.inl ⟨rfl, hK0 _ _ dry⟩⟩
      · rw [if_neg sk]
        exact ⟨_, A, Z, rfl, Fr.rf Z, Or.inl ⟨rfl, hK0 _ _ dry⟩⟩
  | succ d ih =>
    intro t fu fm A Z ht hf hm h hb
    obtain ⟨fu, rfl⟩ : ∃ q, fu = q + 1 := ⟨fu - 1, by omega⟩
    obtain ⟨fm, rfl⟩ : ∃ q, fm = q + 1 := ⟨fm - 1, by omega⟩
    obtain ⟨hT, hRT, hM, hP, hS⟩ := id h
    have hc : ¬ (99 : Int32) < iI (t : Int) := by rw [t99 (by omega)]; omega
    have dry := isDry_i h b hb
    have hw : ffX3_wetOnLine T A = some (iI (sm (wt A) n)) := wetOnLine_i hT hM (by omega)
    have hwb := (sm_bound (f := wt A) (lo := 0) (hi := 1) (n := n) (fun i _ => by unfold wt; split <;> omega))
    have hn := hT.1
    rw [ffX7_stepsWithoutRain_L13_s, ffX8_odds_L60_s, if_neg hc, if_neg (show ¬ (99 : Int32) ≤ iI (t : Int) by rw [t99le (by omega)]; omega), hw, kv_b1_d, dry, kv_b1_d]
    by_cases w : sm (wt A) n = 0
    · rw [if_pos w] at dry ⊢
      rw [w, if_pos (show iI 0 = (0 : Int32) from rfl), if_neg (by decide)]
      exact ⟨_, A, Z, rfl, Fr.rf Z, Or.inr ⟨t, by omega, rfl, rfl, dry⟩⟩
    · rw [if_neg w] at dry ⊢
      obtain ⟨f1, f2, f3, f4⟩ := fstep h (by omega)
      have ee : (99 : Int) + ((t + 1 : Nat) : Int) = 99 + (t : Int) + 1 := by omega
      rw [← ee] at f3
      have hb' : ∀ i, i < n → b i = hg (mN T A n st) i := fun i hi => by rw [hg_step]; exact hb i hi
      have s0 : Z 11 26 = A 0 1 := hS.1
      simp only [kv_lt_d]
      rw [if_neg (by rw [iI_0, iI_eq (by omega) (by omega) (by omega) (by omega)]; omega), if_pos trivial, if_pos trivial, ix26, cl26, s0, tv_i A 0 1, ffX6_skyIn_i hT hM.1 (by have := hM.2.1; omega), ffX8_skyAt_i hT hRT hM.1 (by have := hM.2.1; omega), kv_b1_d, kv_b1_d]
      by_cases sk : (0 : Int32) ≤ iI (nSky T st (tv A 0 1))
      · rw [if_pos sk, if_pos sk, f1, f2, kv_b2_d, kv_b2_d, l1, ix2]
        obtain ⟨r, A', Z', e1, e2, e3⟩ := ih (t + 1) fu fm _ _ (by omega) (by omega) (by omega) f3 hb'
        exact ⟨r, A', Z', e1, f4.tr e2, e3⟩
      · rw [if_neg sk, if_neg sk, f2, kv_b2_d, l1, ix2]
        obtain ⟨Z', e1, e2⟩ := odds_rest b K hK1 d (t + 1) fm _ _ (by omega) (by omega) f3 hb'
        exact ⟨_, A, Z', rfl, f4.tr e2, Or.inl ⟨rfl, e1⟩⟩
/-- the powers: b ≤ 9, a ≤ b, s ≤ 18 -/
def pw (a b s : Nat) (w : Int32) : Option Int64 := kv_b1 (ffX7_commonDivisor (iI b - iI a) (iI b)) fun r7 => kv_lt (fun (x9 : Int32) => kv_nz r7 (kv_b1 (ffX7_power (x9 / r7) (iI s)) fun r10 => some r10)) fun k8 => (if w = (0 : Int32) then k8 (iI b - iI a) else k8 (iI b))
def pm (a b s : Nat) (w : Int32) : Option Int64 := (ffX8_odds_L156 (iI a) (iI b) (iI s) (fun (x27 : Int32) (x28 : Int64) (x29 : Int64) => kv_b1 (ffX8_common x29 x28) fun r30 => (if w = (0 : Int32) then kv_nzl r30 (some (x29 / r30, zz)) else kv_nzl r30 (some (x28 / r30, zz)))) kv_FU 0 1 1).map Prod.fst
def pC (a b s : Nat) (w : Int32) : Bool := match pw a b s w, pm a b s w with
  | some x, some y => decide (x = y)
  | _, _ => false
set_option maxRecDepth 100000 in
theorem pC_all : (List.range 10).all (fun b => b == 0 || (List.range (b + 1)).all (fun a => (List.range 19).all (fun s => pC a b s 0 && pC a b s 1))) = true := by decide +kernel
