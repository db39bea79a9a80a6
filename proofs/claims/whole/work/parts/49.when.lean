/-! when, damp, coins -/
theorem l28 : (28 : Int32) = iI ((28 : Nat) : Int) := rfl
theorem t99 {t : Nat} (h : t ≤ 100) : ((99 : Int32) < iI (t : Int)) = (99 < t) := by
  rw [show (99 : Int32) = iI 99 from rfl, iI_lt (by omega) (by omega) (by omega) (by omega)]
  exact propext ⟨fun h => by omega, fun h => by omega⟩
theorem when_sim {T : Mm} {n k st i : Nat} (hi : i < n) (Kc : Int32 → Int32 → Mm → Option (Int32 × Mm)) (Km : Int32 → Mm → Option (Int32 × Mm)) (hKc : ∀ a b M, Kc a b M = some (b, M)) (hKm : ∀ a M, Km a M = some ((-9), M)) : ∀ (d t fu fm : Nat) (A Z : Mm), t + d = 100 → d < fu → d < fm → RF T A Z n k st (99 + t) → ∃ (r : Int32) (A' Z' : Mm), ffX7_firstOrLast_L18 (iI i) 0 0 0 T Kc fu (iI t) (-9) A = some (r, A') ∧ ffX8_when_L19 (iI i) Km fm (iI t) Z = some (r, Z') ∧ Fr Z Z' := by
  intro d
  induction d with
  | zero =>
    intro t fu fm A Z ht hf hm h
    obtain ⟨fu, rfl⟩ : ∃ q, fu = q + 1 := ⟨fu - 1, by omega⟩
    obtain ⟨fm, rfl⟩ : ∃ q, fm = q + 1 := ⟨fm - 1, by omega⟩
    have hc : (99 : Int32) < iI (t : Int) := by rw [t99 (by omega)]; omega
    rw [ffX7_firstOrLast_L18_s, ffX8_when_L19_s, if_pos hc, if_pos hc, hKc, hKm]
    exact ⟨_, A, Z, rfl, rfl, Fr.rf Z⟩
  | succ d ih =>
    intro t fu fm A Z ht hf hm h
    obtain ⟨fu, rfl⟩ : ∃ q, fu = q + 1 := ⟨fu - 1, by omega⟩
    obtain ⟨fm, rfl⟩ : ∃ q, fm = q + 1 := ⟨fm - 1, by omega⟩
    have hc : ¬ (99 : Int32) < iI (t : Int) := by rw [t99 (by omega)]; omega
    obtain ⟨hT, hRT, hM, hP, hS⟩ := id h
    have hn := hT.1
    have hm1 := hM.2.2.2.2 i hi
    have hb := hT.2.2.2.2.2.2.1 i hi
    obtain ⟨f1, f2, f3, f4⟩ := fstep h (by omega)
    rw [ffX7_firstOrLast_L18_s, ffX8_when_L19_s, if_neg hc, if_neg hc, ixN (by omega) (by omega), l28, ix2, ixN (by omega) (by omega), iI_cn (j := i) (by omega), iI_cn (j := 28 + i) (by omega), show 28 + i = 26 + 2 + i by omega, (hS.2.2 i hi).1, tv_i A 1 i]
    by_cases q : tv A 1 i = 0
    · rw [show ffX7_within (iI (tv A 1 i)) 0 0 = some 1 from wi_t (b := 0) (c := 0) (by omega) (by omega) (by omega) (by omega) (by omega) (by omega) (by omega), kv_b1_d, kv_lt_d, z_1, z_0, hKc, if_pos (by rw [q]; rfl)]
      exact ⟨_, A, Z, rfl, rfl, Fr.rf Z⟩
    · rw [show ffX7_within (iI (tv A 1 i)) 0 0 = some 0 from wi_f (b := 0) (c := 0) (by omega) (by omega) (by omega) (by omega) (by omega) (by omega) (by omega), kv_b1_d, kv_lt_d, z_0, if_neg (by rw [iI_0, iI_eq (by omega) (by omega) (by omega) (by omega)]; exact q), f1, f2]
      dsimp only
      rw [kv_b2_d, kv_b2_d, kv_lt_d, kv_lt_d, l1, ix2]
      obtain ⟨r, A', Z', e1, e2, e3⟩ := ih (t + 1) fu fm _ _ (by omega) (by omega) (by omega) (by
        have e : (99 : Int) + ((t + 1 : Nat) : Int) = 99 + (t : Int) + 1 := by omega
        rw [e]
        exact f3)
      exact ⟨r, A', Z', e1, e2, f4.tr e3⟩
theorem st_when {X R T P I J D Z : Mm} {G Y : Int64} (h : Rl X R T P I J D G Z Y) (A : Mm) (p : Int32) : ∃ (r : Int32) (A' Z' : Mm), ffX7_when p X T P A = some (r, A') ∧ ffX8_when p Z = some (r, Z') ∧ Rl X R T P I J D G Z' Y := by
  obtain ⟨hg, hx, hd, n, k, st, hN, hI, hJ⟩ := id h
  have fu := fu_big
  unfold ffX7_when ffX8_when
  rcases isPb hN.1 hN.2.1 p X with ⟨i, hi, rfl, e1, e2⟩ | ⟨e1, e2⟩
  · obtain ⟨c1, c2, c3, c4⟩ := fore (A := A) hN
    rw [e1, e2, kv_b1_d, kv_b1_d, z_1, z_1, c2, kv_b1_d]
    unfold ffX7_firstOrLast
    rw [c1, kv_b1_d]
    obtain ⟨r, A', Z', g1, g2, g3⟩ := when_sim hi (fun (x11 : Int32) (x12 : Int32) (mA13 : Mm) => some (x12, mA13)) (fun (x8 : Int32) (mZ9 : Mm) => some ((-9), mZ9)) (fun _ _ _ => rfl) (fun _ _ => rfl) 100 0 kv_FU kv_FU _ _ (by omega) (by omega) (by omega) c3
    have g1' : ffX7_firstOrLast_L18 (iI i) 0 0 0 T (fun (x11 : Int32) (x12 : Int32) (mA13 : Mm) => some (x12, mA13)) kv_FU 0 (-9) (mC A P n) = some (r, A') := g1
    rw [g1', kv_b2_d]
    exact ⟨r, A', Z', rfl, g2, h.fr (c4.tr g3)⟩
  · rw [e1, e2, kv_b1_d, kv_b1_d, z_0, z_0]
    exact ⟨_, A, Z, rfl, rfl, h⟩
/-- the model goes on behind the first -/
theorem damp_rest {T : Mm} {n k st i : Nat} {a b : Int32} (hi : i < n) (Km : Int32 → Int32 → Mm → Option (Int32 × Mm)) (hKm : ∀ a b M, Km a b M = some (b, M)) {x : Int32} (hx : x ≠ -9) : ∀ (d t fm : Nat) (A Z : Mm), t + d = 100 → d < fm → RF T A Z n k st (99 + t) → ∃ (Z' : Mm), ffX8_damp_L54 (iI i) a b 0 Km fm (iI t) x Z = some (x, Z') ∧ Fr Z Z' := by
  intro d
  induction d with
  | zero =>
    intro t fm A Z ht hm h
    obtain ⟨fm, rfl⟩ : ∃ q, fm = q + 1 := ⟨fm - 1, by omega⟩
    have hc : (99 : Int32) < iI (t : Int) := by rw [t99 (by omega)]; omega
    rw [ffX8_damp_L54_s, if_pos hc, hKm]
    exact ⟨Z, rfl, Fr.rf Z⟩
  | succ d ih =>
    intro t fm A Z ht hm h
    obtain ⟨fm, rfl⟩ : ∃ q, fm = q + 1 := ⟨fm - 1, by omega⟩
    have hc : ¬ (99 : Int32) < iI (t : Int) := by rw [t99 (by omega)]; omega
    obtain ⟨hT, hRT, hM, hP, hS⟩ := id h
    have hn := hT.1
    obtain ⟨f1, f2, f3, f4⟩ := fstep h (by omega)
    obtain ⟨Z', e2, e3⟩ := ih (t + 1) fm _ _ (by omega) (by omega) (by
        have e : (99 : Int) + ((t + 1 : Nat) : Int) = 99 + (t : Int) + 1 := by omega
        rw [e]
        exact f3)
    refine ⟨Z', ?_, f4.tr e3⟩
    rw [ffX8_damp_L54_s, if_neg hc, l28, ix2, ixN (by omega) (by omega)]
    simp only [kv_lt_d]
    rw [f2, kv_b2_d, l1, ix2]
    rcases wi_b (Z 11 (iI ((28 + i : Nat) : Int)).toNatClampNeg) a b with e | ⟨e, _, _⟩
    · rw [← wi_in, e, kv_b1_d, z_0]
      exact e2
    · rw [← wi_in, e, kv_b1_d, z_1, if_neg (by decide), if_neg hx]
      exact e2
theorem damp_sim {T : Mm} {n k st i : Nat} {a b p : Int32} (hi : i < n) (hp : p = 0 ∨ p = 1) (Kc Km : Int32 → Int32 → Mm → Option (Int32 × Mm)) (hKc : ∀ a b M, Kc a b M = some (b, M)) (hKm : ∀ a b M, Km a b M = some (b, M)) : ∀ (d t fu fm : Nat) (x : Int32) (A Z : Mm), t + d = 100 → d < fu → d < fm → (p = 0 → x = -9) → RF T A Z n k st (99 + t) → ∃ (r : Int32) (A' Z' : Mm), ffX7_firstOrLast_L18 (iI i) a b p T Kc fu (iI t) x A = some (r, A') ∧ ffX8_damp_L54 (iI i) a b p Km fm (iI t) x Z = some (r, Z') ∧ Fr Z Z' := by
  intro d
  induction d with
  | zero =>
    intro t fu fm x A Z ht hf hm hx h
    obtain ⟨fu, rfl⟩ : ∃ q, fu = q + 1 := ⟨fu - 1, by omega⟩
    obtain ⟨fm, rfl⟩ : ∃ q, fm = q + 1 := ⟨fm - 1, by omega⟩
    have hc : (99 : Int32) < iI (t : Int) := by rw [t99 (by omega)]; omega
    rw [ffX7_firstOrLast_L18_s, ffX8_damp_L54_s, if_pos hc, if_pos hc, hKc, hKm]
    exact ⟨_, A, Z, rfl, rfl, Fr.rf Z⟩
  | succ d ih =>
    intro t fu fm x A Z ht hf hm hx h
    obtain ⟨fu, rfl⟩ : ∃ q, fu = q + 1 := ⟨fu - 1, by omega⟩
    obtain ⟨fm, rfl⟩ : ∃ q, fm = q + 1 := ⟨fm - 1, by omega⟩
    have hc : ¬ (99 : Int32) < iI (t : Int) := by rw [t99 (by omega)]; omega
    obtain ⟨hT, hRT, hM, hP, hS⟩ := id h
    have hn := hT.1
    obtain ⟨f1, f2, f3, f4⟩ := fstep h (by omega)
    have ee : (99 : Int) + ((t + 1 : Nat) : Int) = 99 + (t : Int) + 1 := by omega
    rw [← ee] at f3
    rw [ffX7_firstOrLast_L18_s, ffX8_damp_L54_s, if_neg hc, if_neg hc, ixN (by omega) (by omega), l28, ix2, ixN (by omega) (by omega), iI_cn (j := i) (by omega), iI_cn (j := 28 + i) (by omega), show 28 + i = 26 + 2 + i by omega, (hS.2.2 i hi).1, ← wi_in]
    simp only [kv_lt_d]
    rw [f1, f2, kv_b2_d, kv_b2_d, l1, ix2]
    rcases wi_b (A 1 i) a b with e | ⟨e, _, _⟩
    · rw [e, kv_b1_d, kv_b1_d, z_0, z_0]
      obtain ⟨r, A', Z', e1, e2, e3⟩ := ih (t + 1) fu fm x _ _ (by omega) (by omega) (by omega) hx f3
      exact ⟨r, A', Z', e1, e2, f4.tr e3⟩
    · rw [e, kv_b1_d, kv_b1_d, z_1, z_1]
      rcases hp with rfl | rfl
      · have hx9 := hx rfl
        subst hx9
        rw [if_pos rfl, hKc, if_neg (by decide), if_pos rfl]
        have hne : iI (t : Int) ≠ -9 := by
          intro q
          rw [show (-9 : Int32) = iI (-9) from rfl, iI_eq (by omega) (by omega) (by omega) (by omega)] at q
          omega
        obtain ⟨Z', e2, e3⟩ := damp_rest (a := a) (b := b) hi Km hKm hne d (t + 1) fm _ _ (by omega) (by omega) f3
        exact ⟨_, A, Z', rfl, e2, f4.tr e3⟩
      · rw [if_neg (by decide), if_pos (show (1 : Int32) = iI ((1 : Nat) : Int) from rfl)]
        obtain ⟨r, A', Z', e1, e2, e3⟩ := ih (t + 1) fu fm (iI t) _ _ (by omega) (by omega) (by omega) (fun q => absurd q (by decide)) f3
        exact ⟨r, A', Z', e1, e2, f4.tr e3⟩
theorem st_damp {X R T P I J D Z : Mm} {G Y : Int64} (h : Rl X R T P I J D G Z Y) (A : Mm) (p0 p1 p2 p3 : Int32) : ∃ (r : Int32) (A' Z' : Mm), ffX7_damp p0 p1 p2 p3 X T P A = some (r, A') ∧ ffX8_damp p0 p1 p2 p3 Z = some (r, Z') ∧ Rl X R T P I J D G Z' Y := by
  obtain ⟨hg, hx, hd, n, k, st, hN, hI, hJ⟩ := id h
  have fu := fu_big
  unfold ffX7_damp ffX8_damp
  rw [← wi_in, ← wi_in, ← wi_in]
  rcases isPb hN.1 hN.2.1 p0 X with ⟨i, hi, rfl, e1, e2⟩ | ⟨e1, e2⟩
  · rw [e1, e2, kv_b1_d, kv_b1_d, z_1, z_1]
    rcases wi_b p1 0 99 with e3 | ⟨e3, _, _⟩
    · rw [e3, kv_b1_d, kv_b1_d, z_0, z_0]
      exact ⟨_, A, Z, rfl, rfl, h⟩
    · rw [e3, kv_b1_d, kv_b1_d, z_1, z_1]
      rcases wi_b p2 p1 99 with e4 | ⟨e4, _, _⟩
      · rw [e4, kv_b1_d, kv_b1_d, z_0, z_0]
        exact ⟨_, A, Z, rfl, rfl, h⟩
      · rw [e4, kv_b1_d, kv_b1_d, z_1, z_1]
        rcases wi_b p3 0 1 with e5 | ⟨e5, w1, w2⟩
        · rw [e5, kv_b1_d, kv_b1_d, z_0, z_0]
          exact ⟨_, A, Z, rfl, rfl, h⟩
        · rw [e5, kv_b1_d, kv_b1_d, z_1, z_1]
          have hp3 : p3 = 0 ∨ p3 = 1 := by
            obtain ⟨z, z1, z2, rfl⟩ := rng w1 w2 (lo := 0) (hi := 1) (by decide) (by decide)
            rcases (show z = 0 ∨ z = 1 by omega) with rfl | rfl
            · exact Or.inl rfl
            · exact Or.inr rfl
          obtain ⟨c1, c2, c3, c4⟩ := fore (A := A) hN
          rw [c2, kv_b1_d]
          unfold ffX7_firstOrLast
          rw [c1, kv_b1_d]
          obtain ⟨r, A', Z', g1, g2, g3⟩ := damp_sim (a := p1) (b := p2) hi hp3 (fun (x11 : Int32) (x12 : Int32) (mA13 : Mm) => some (x12, mA13)) (fun (x17 : Int32) (x18 : Int32) (mZ19 : Mm) => some (x18, mZ19)) (fun _ _ _ => rfl) (fun _ _ _ => rfl) 100 0 kv_FU kv_FU (-9) _ _ (by omega) (by omega) (by omega) (fun _ => rfl) c3
          have g1' : ffX7_firstOrLast_L18 (iI i) p1 p2 p3 T (fun (x11 : Int32) (x12 : Int32) (mA13 : Mm) => some (x12, mA13)) kv_FU 0 (-9) (mC A P n) = some (r, A') := g1
          rw [g1', kv_b2_d]
          exact ⟨r, A', Z', rfl, g2, h.fr (c4.tr g3)⟩
  · rw [e1, e2, kv_b1_d, kv_b1_d, z_0, z_0]
    exact ⟨_, A, Z, rfl, rfl, h⟩
