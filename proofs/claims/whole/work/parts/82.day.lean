/-! day: all of a text, both -/
theorem all_l {t : Nat → Int} {len : Nat} : ∀ (d p m fu fm n b c : Nat) (R F Z : Mm), len < p + d → m ≤ p → d < fu → d < fm → LH t len p R Z → FD n b c F Z → ∃ (m' : Nat) (R' F' Z' : Mm), (∀ Kc : Int32 → Mm → Mm → Option (Int32 × Mm × Mm), ffX4_readAll_L23 Kc fu (iI m) R F = Kc (iI m') R' F') ∧ (∀ Km : Int32 → Mm → Option (Int32 × Mm), ffX8_day_L38 Km fm (iI m) Z = Km (iI m') Z') ∧ m' ≤ 400 ∧ FrR R R' ∧ DF Z Z' ∧ ((R' 0 7 = -1 ∧ Z' 0 16 = -9 ∧ ∃ n' b' c', FD n' b' c' F' Z') ∨ (∃ s : Nat, s ≤ 300 ∧ R' 0 7 = iI ((s : Nat) : Int) ∧ Z' 0 16 = iI ((s : Nat) : Int))) := by
  intro d
  induction d with
  | zero =>
    intro p m fu fm n b c R F Z hd hm hf hg hL hD
    have := hL.2.2.1
    omega
  | succ d ih =>
    intro p m fu fm n b c R F Z hd hm hf hg hL hD
    obtain ⟨fu, rfl⟩ : ∃ q, fu = q + 1 := ⟨fu - 1, by omega⟩
    obtain ⟨fm, rfl⟩ : ∃ q, fm = q + 1 := ⟨fm - 1, by omega⟩
    obtain ⟨hR, hZ, hp, h3, h4, h5, h7, hLA, h16⟩ := id hL
    have hlen := hR.1
    have hsb := tS_b (t := t) hp
    have ht0 := (tT_2 t len (tS t len p)).2.2
    have htl := tT_le t len (tS t len p)
    have hkl := tK_le t len (tS t len p)
    have h14 := hLA.2.2.1
    by_cases q : tK t len (tS t len p) = 4
    · refine ⟨m, R, F, Z, fun Kc => ?_, fun Km => ?_, by omega, FrR.rf R, DF.rf Z, Or.inl ⟨h7, h16, n, b, c, hD⟩⟩
      · rw [ffX4_readAll_L23_s, h5, if_pos (by rw [ht0.mpr q]; rfl)]
      · rw [ffX8_day_L38_s, if_pos h16, h14, if_pos (by rw [q]; rfl)]
    · have hsl : tS t len p < len := by
        refine Nat.lt_of_not_le (fun x => q ?_)
        exact (tK_end x).1
      obtain ⟨R8, F9, Z9, e1, e2, e3, e4, e5, e6⟩ := itemB hL q hD
      have em : iI ((m : Nat) : Int) + 1 = iI ((m + 1 : Nat) : Int) := by rw [l1, ix2]
      have stepC : ∀ R11, ffX4_scan R8 = some R11 → ∀ Kc : Int32 → Mm → Mm → Option (Int32 × Mm × Mm), ffX4_readAll_L23 Kc (fu + 1) (iI m) R F = ffX4_readAll_L23 Kc fu (iI ((m + 1 : Nat) : Int)) R11 F9 := fun R11 hs Kc => by
        rw [ffX4_readAll_L23_s, h5, if_neg (by rw [iI_0, iI_eq (by omega) (by omega) (by omega) (by omega)]; omega), if_pos h7, if_neg (by rw [show (300 : Int32) = iI 300 from rfl, iI_le (by omega) (by omega) (by omega) (by omega)]; omega), e1, kv_b2_d, kv_lt_d, hs, kv_b1_d, em]
      have stepM : ∀ Km : Int32 → Mm → Option (Int32 × Mm), ffX8_day_L38 Km (fm + 1) (iI m) Z = ffX8_day_L38 Km fm (iI ((m + 1 : Nat) : Int)) Z9 := fun Km => by
        rw [ffX8_day_L38_s, if_pos h16, h14, if_neg (by rw [show (4 : Int32) = iI 4 from rfl, iI_eq (by omega) (by omega) (by omega) (by omega)]; omega), e2, kv_b1_d, kv_lt_d, em]
      obtain ⟨g1, g2, g3⟩ := id e3
      rcases g3 with ⟨p', hp1, hp2, r3, r7, rL, r16⟩ | ⟨s, p', hs, hp2, r3, r7, r16⟩
      · obtain ⟨R11, s1, s2, s3, s4, s5, s6⟩ := scanC g1 hp2 r3
        obtain ⟨n', b', c', hD'⟩ := e6 r7
        obtain ⟨m', R', F', Z', f1, f2, f3, f4, f5, f6⟩ := ih p' (m + 1) fu fm n' b' c' R11 F9 Z9 (by omega) (by omega) (by omega) (by omega) ⟨g1.c s2, g2, hp2, s3, s4, s5, by rw [s2.2 7 (by omega)]; exact r7, rL, r16⟩ hD'
        exact ⟨m', R', F', Z', fun Kc => (stepC R11 s1 Kc).trans (f1 Kc), fun Km => (stepM Km).trans (f2 Km), f3, (e4.tr s2.r).tr f4, e5.tr f5, f6⟩
      · obtain ⟨R11, s1, s2, s3, s4, s5, s6⟩ := scanC g1 hp2 r3
        have h117 : R11 0 7 = iI ((s : Nat) : Int) := by rw [s2.2 7 (by omega)]; exact r7
        obtain ⟨fu, rfl⟩ : ∃ q, fu = q + 1 := ⟨fu - 1, by omega⟩
        obtain ⟨fm, rfl⟩ : ∃ q, fm = q + 1 := ⟨fm - 1, by omega⟩
        refine ⟨m + 1, R11, F9, Z9, fun Kc => (stepC R11 s1 Kc).trans ?_, fun Km => (stepM Km).trans ?_, by omega, e4.tr s2.r, e5, Or.inr ⟨s, hs, h117, r16⟩⟩
        · rw [ffX4_readAll_L23_s, if_neg (show ¬ R11 0 7 = -1 by rw [h117]; exact ne1 (by omega))]
          split <;> rfl
        · rw [ffX8_day_L38_s, if_neg (by rw [r16]; exact ne9 (by omega))]
/-! the model's copies -/
theorem cp3_l : ∀ (d i fm : Nat) (Z : Mm), i + d = 6 → d < fm → ∃ Z' : Mm, (∀ K : Int32 → Mm → Option (Int32 × Mm), ffX8_day_L120 K fm (iI i) Z = K (iI 6) Z') ∧ (∀ c, c < 3 ∨ 5 < c → Z' c = Z c) ∧ ∀ c j, 3 ≤ c → c ≤ 5 → Z' c j = (if i ≤ j ∧ j < 6 then Z c (6 + j) else Z c j) := by
  intro d
  induction d with
  | zero =>
    intro i fm Z hi hf
    obtain ⟨fm, rfl⟩ : ∃ q, fm = q + 1 := ⟨fm - 1, by omega⟩
    have e : i = 6 := by omega
    subst e
    refine ⟨Z, fun K => ?_, fun _ _ => rfl, fun c j _ _ => by rw [if_neg (by omega)]⟩
    rw [ffX8_day_L120_s, if_pos (by decide)]
    rfl
  | succ d ih =>
    intro i fm Z hi hf
    obtain ⟨fm, rfl⟩ : ∃ q, fm = q + 1 := ⟨fm - 1, by omega⟩
    have e6 : (6 : Int32) + iI ((i : Nat) : Int) = iI ((6 + i : Nat) : Int) := ix2 6 i
    obtain ⟨Z', f1, f2, f3⟩ := ih (i + 1) fm (mm_w (mm_w (mm_w Z 3 (upd (Z 3) i (Z 3 (6 + i)))) 4 (upd (Z 4) i (Z 4 (6 + i)))) 5 (upd (Z 5) i (Z 5 (6 + i)))) (by omega) (by omega)
    have key : ∀ c, 3 ≤ c → c ≤ 5 → mm_w (mm_w (mm_w Z 3 (upd (Z 3) i (Z 3 (6 + i)))) 4 (upd (Z 4) i (Z 4 (6 + i)))) 5 (upd (Z 5) i (Z 5 (6 + i))) c = upd (Z c) i (Z c (6 + i)) := fun c h1 h2 => by
      rcases (show c = 3 ∨ c = 4 ∨ c = 5 by omega) with rfl | rfl | rfl <;> rfl
    refine ⟨Z', fun K => ?_, fun c hc => ?_, fun c j h1 h2 => ?_⟩
    · rw [ffX8_day_L120_s, if_neg (by rw [show (6 : Int32) = iI 6 from rfl, iI_le (by omega) (by omega) (by omega) (by omega)]; omega)]
      simp only [kv_lt_d]
      rw [e6, ixN (by omega) (by omega), ixN (by omega) (by omega), ixN (by omega) (by omega), ixN (by omega) (by omega), ixN (by omega) (by omega), ixN (by omega) (by omega), iI_cn (j := 6 + i) (by omega), iI_cn (j := i) (by omega), l1, ix2]
      exact f1 K
    · rw [f2 c hc, mm_w_ne (by omega), mm_w_ne (by omega), mm_w_ne (by omega)]
    · rw [f3 c j h1 h2, key c h1 h2]
      by_cases q : j = i
      · rw [if_neg (by omega), if_pos (by omega), q, up_same]
      · rw [up_ne (by omega), up_ne q]
        by_cases q2 : i ≤ j ∧ j < 6
        · rw [if_pos q2, if_pos (by omega)]
        · rw [if_neg q2, if_neg (by omega)]
theorem cp7_l : ∀ (d i fm : Nat) (Z : Mm), i + d = 5 → d < fm → ∃ Z' : Mm, (∀ K : Int32 → Mm → Option (Int32 × Mm), ffX8_day_L179 K fm (iI i) Z = K (iI 5) Z') ∧ (∀ c, c < 7 ∨ 8 < c → Z' c = Z c) ∧ ∀ c j, 7 ≤ c → c ≤ 8 → Z' c j = (if i ≤ j ∧ j < 5 then Z c (5 + j) else Z c j) := by
  intro d
  induction d with
  | zero =>
    intro i fm Z hi hf
    obtain ⟨fm, rfl⟩ : ∃ q, fm = q + 1 := ⟨fm - 1, by omega⟩
    have e : i = 5 := by omega
    subst e
    refine ⟨Z, fun K => ?_, fun _ _ => rfl, fun c j _ _ => by rw [if_neg (by omega)]⟩
    rw [ffX8_day_L179_s, if_pos (by decide)]
    rfl
  | succ d ih =>
    intro i fm Z hi hf
    obtain ⟨fm, rfl⟩ : ∃ q, fm = q + 1 := ⟨fm - 1, by omega⟩
    have e6 : (5 : Int32) + iI ((i : Nat) : Int) = iI ((5 + i : Nat) : Int) := ix2 5 i
    obtain ⟨Z', f1, f2, f3⟩ := ih (i + 1) fm (mm_w (mm_w Z 7 (upd (Z 7) i (Z 7 (5 + i)))) 8 (upd (Z 8) i (Z 8 (5 + i)))) (by omega) (by omega)
    have key : ∀ c, 7 ≤ c → c ≤ 8 → mm_w (mm_w Z 7 (upd (Z 7) i (Z 7 (5 + i)))) 8 (upd (Z 8) i (Z 8 (5 + i))) c = upd (Z c) i (Z c (5 + i)) := fun c h1 h2 => by
      rcases (show c = 7 ∨ c = 8 by omega) with rfl | rfl <;> rfl
    refine ⟨Z', fun K => ?_, fun c hc => ?_, fun c j h1 h2 => ?_⟩
    · rw [ffX8_day_L179_s, if_neg (by rw [show (5 : Int32) = iI 5 from rfl, iI_le (by omega) (by omega) (by omega) (by omega)]; omega)]
      simp only [kv_lt_d]
      rw [e6, ixN (by omega) (by omega), ixN (by omega) (by omega), ixN (by omega) (by omega), ixN (by omega) (by omega), iI_cn (j := 5 + i) (by omega), iI_cn (j := i) (by omega), l1, ix2]
      exact f1 K
    · rw [f2 c hc, mm_w_ne (by omega), mm_w_ne (by omega)]
    · rw [f3 c j h1 h2, key c h1 h2]
      by_cases q : j = i
      · rw [if_neg (by omega), if_pos (by omega), q, up_same]
      · rw [up_ne (by omega), up_ne q]
        by_cases q2 : i ≤ j ∧ j < 5
        · rw [if_pos q2, if_pos (by omega)]
        · rw [if_neg q2, if_neg (by omega)]
theorem cp10_l : ∀ (d i fm : Nat) (Z : Mm), i + d = 24 → d < fm → ∃ Z' : Mm, (∀ K : Int32 → Mm → Option (Int32 × Mm), ffX8_day_L220 K fm (iI i) Z = K (iI 24) Z') ∧ (∀ c, c ≠ 10 → Z' c = Z c) ∧ ∀ j, Z' 10 j = (if i ≤ j ∧ j < 24 then Z 10 (24 + j) else Z 10 j) := by
  intro d
  induction d with
  | zero =>
    intro i fm Z hi hf
    obtain ⟨fm, rfl⟩ : ∃ q, fm = q + 1 := ⟨fm - 1, by omega⟩
    have e : i = 24 := by omega
    subst e
    refine ⟨Z, fun K => ?_, fun _ _ => rfl, fun j => by rw [if_neg (by omega)]⟩
    rw [ffX8_day_L220_s, if_pos (by decide)]
    rfl
  | succ d ih =>
    intro i fm Z hi hf
    obtain ⟨fm, rfl⟩ : ∃ q, fm = q + 1 := ⟨fm - 1, by omega⟩
    have e6 : (24 : Int32) + iI ((i : Nat) : Int) = iI ((24 + i : Nat) : Int) := ix2 24 i
    obtain ⟨Z', f1, f2, f3⟩ := ih (i + 1) fm (mm_w Z 10 (upd (Z 10) i (Z 10 (24 + i)))) (by omega) (by omega)
    refine ⟨Z', fun K => ?_, fun c hc => ?_, fun j => ?_⟩
    · rw [ffX8_day_L220_s, if_neg (by rw [show (24 : Int32) = iI 24 from rfl, iI_le (by omega) (by omega) (by omega) (by omega)]; omega)]
      simp only [kv_lt_d]
      rw [e6, ixN (by omega) (by omega), ixN (by omega) (by omega), iI_cn (j := 24 + i) (by omega), iI_cn (j := i) (by omega), l1, ix2]
      exact f1 K
    · rw [f2 c hc, mm_w_ne hc]
    · rw [f3 j, mm_w_same]
      by_cases q : j = i
      · rw [if_neg (by omega), if_pos (by omega), q, up_same]
      · rw [up_ne (by omega), up_ne q]
        by_cases q2 : i ≤ j ∧ j < 24
        · rw [if_pos q2, if_pos (by omega)]
        · rw [if_neg q2, if_neg (by omega)]
/-! the class's copy of what was found -/
theorem cpy_in {f g : Nat → Int32} {m : Int32} {n j : Nat} (hm : m.toNatClampNeg = n) (hj : j < n) : va_cpy f g (0 : Int32).toNatClampNeg (0 : Int32).toNatClampNeg m.toNatClampNeg j = f j := by
  unfold va_cpy
  rw [hm, cl0, if_pos ⟨Nat.zero_le j, by omega⟩]
  congr 1
  omega
theorem copyT_i (T F : Mm) : ∃ T', ffX6_copy T F = some T' ∧ T' 0 0 = F 0 0 ∧ T' 0 1 = F 0 1 ∧ T' 0 2 = F 0 2 ∧ (∀ j, j < 6 → T' 1 j = F 1 j ∧ T' 2 j = F 2 j ∧ T' 3 j = F 3 j) ∧ (∀ j, j < 5 → T' 4 j = F 4 j ∧ T' 5 j = F 5 j) ∧ ∀ j, j < 24 → T' 6 j = F 6 j := by
  have c6 : (6 : Int32).toNatClampNeg = 6 := iI_cn (j := 6) (by omega)
  have c5 : (5 : Int32).toNatClampNeg = 5 := iI_cn (j := 5) (by omega)
  have c24 : (24 : Int32).toNatClampNeg = 24 := iI_cn (j := 24) (by omega)
  unfold ffX6_copy
  simp only [kv_lt_d]
  refine ⟨_, rfl, rfl, rfl, rfl, fun j hj => ⟨?_, ?_, ?_⟩, fun j hj => ⟨?_, ?_⟩, fun j hj => ?_⟩
  · exact cpy_in c6 hj
  · exact cpy_in c6 hj
  · exact cpy_in c6 hj
  · exact cpy_in c5 hj
  · exact cpy_in c5 hj
  · exact cpy_in c24 hj
theorem gone_i (X : Mm) (K : Int32 → Mm → Option (Int32 × Mm × Mm × Mm × Mm × Mm)) : ∃ X', ffX7_day_L45 K kv_FU 0 X = K 2 X' ∧ X' 2 0 = 0 ∧ X' 2 1 = 0 := by
  have fu := fu_big
  obtain ⟨G, hG⟩ : ∃ G, kv_FU = G + 3 := ⟨kv_FU - 3, by omega⟩
  rw [hG, ffX7_day_L45_s, if_neg (by decide), ix0 (by omega) (by omega), kv_lt_d, kv_lt_d, cl0, show (0 : Int32) + 1 = 1 from rfl, ffX7_day_L45_s, if_neg (by decide), ix12, kv_lt_d, kv_lt_d, cl1, show (1 : Int32) + 1 = 2 from rfl, ffX7_day_L45_s, if_pos (by decide)]
  exact ⟨_, rfl, rfl, rfl⟩
theorem Rl.df {X R R' T P I J D Z Z' : Mm} {G Y : Int64} (h : Rl X R T P I J D G Z Y) (fR : FrR R R') (fZ : DF Z Z') : Rl X R' T P I J D G Z' Y := by
  obtain ⟨hg, ⟨len, x1, x2, x3, x4⟩, hd, n, k, st, ⟨hT, hRT, hM, hP, hS⟩, hI, hJ⟩ := h
  have hn := hT.1
  obtain ⟨a1, a2, a3, a4, a5, a6, a7, a8, a9⟩ := fZ
  refine ⟨hg, ⟨len, x1, by rw [fR.2 2 (by omega)]; exact x2, by rw [a1 2 (by omega)]; exact x3, fun i hi => ?_⟩, hd.eq (a1 23 (by omega)) (a3 17 (by omega)) (a3 18 (by omega)), n, k, st, ⟨hT, ?_, hM, hP, hS.eq hn (fun j _ _ => by rw [a3 11 (by omega)])⟩, hI.eq hn (a3 12 (by omega)) (fun j _ _ => by rw [a3 11 (by omega)]), hJ.eq hn (a3 12 (by omega)) (fun j _ _ => by rw [a3 11 (by omega)])⟩
  · have e1 : R' 1 = R 1 := fR.1 1 (by omega)
    unfold tv
    rw [e1, a2]
    exact x4 i hi
  · have hk := hT.2.1
    have hs := hT.2.2.1
    obtain ⟨b1, b2, b3, b4, b5, b6⟩ := hRT
    refine ⟨by rw [a4]; exact b1, by rw [a5]; exact b2, by rw [a6]; exact b3, fun i hi => ?_, fun j hj => ?_, fun s hs2 => ?_⟩
    · rw [a7 3 i (by omega) (by omega), a7 4 i (by omega) (by omega), a7 5 i (by omega) (by omega)]
      exact b4 i hi
    · rw [a8 7 j (by omega) (by omega), a8 8 j (by omega) (by omega)]
      exact b5 j hj
    · rw [a9 s (by omega)]
      exact b6 s hs2
