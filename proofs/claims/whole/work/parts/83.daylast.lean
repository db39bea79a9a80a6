/-! day, and the beginning -/
set_option maxHeartbeats 1000000 in
theorem st_day {X R F T P I J D Z : Mm} {G Y : Int64} (h : Rl X R T P I J D G Z Y) : ∃ (r : Int32) (X' R' F' T' P' Z' : Mm), ffX7_day X R F T P = some (r, X', R', F', T', P') ∧ ffX8_day Z = some (r, Z') ∧ Rl X' R' T' P' I J D G Z' Y := by
  obtain ⟨hg, ⟨len, x1, x2, x3, x4⟩, hd, n, k, st, hN, hI, hJ⟩ := id h
  have fu := fu_big
  -- the text
  obtain ⟨t, ht⟩ : ∃ t : Nat → Int, t = fun i => tv R 1 i := ⟨_, rfl⟩
  have hR : TR t len R := ⟨x1, fun i hi => by rw [ht]; exact (x4 i hi).2, x2, fun i hi => by rw [ht]; exact tv_i R 1 i⟩
  have hZ : TR t len Z := ⟨x1, hR.2.1, x3, fun i hi => by rw [← (x4 i hi).1]; exact hR.2.2.2 i hi⟩
  -- the beginning of the reading
  have hF3 : FrR R (mm_w (mm_w R 0 (upd (R 0) 3 0)) 0 (upd (mm_w R 0 (upd (R 0) 3 0) 0) 7 (-1))) := (FrR.q (by omega)).tr (FrR.q (by omega))
  obtain ⟨R4, s1, s2, s3, s4, s5, s6⟩ := scanC (p := 0) (hR.r hF3) (Nat.zero_le len) (by rw [q_n (by omega), q_s]; rfl)
  have hF4 : FrR R R4 := hF3.tr s2.r
  have h47 : R4 0 7 = -1 := by rw [s2.2 7 (by omega), q_s]
  -- the model's
  have hY2 : FrY Z (mm_w (mm_w Z 0 (upd (Z 0) 12 0)) 0 (upd (mm_w Z 0 (upd (Z 0) 12 0) 0) 16 (-9))) := (FrY.q (by omega)).tr (FrY.q (by omega))
  obtain ⟨Zb, hZb⟩ : ∃ Zb, Zb = mm_w (mm_w Z 0 (upd (Z 0) 12 0)) 0 (upd (mm_w Z 0 (upd (Z 0) 12 0) 0) 16 (-9)) := ⟨_, rfl⟩
  rw [← hZb] at hY2
  have hb12 : Zb 0 12 = 0 := by rw [hZb, q_n (by omega), q_s]
  have hb16 : Zb 0 16 = -9 := by rw [hZb, q_s]
  obtain ⟨Zc, hZc⟩ : ∃ Zc, Zc = mm_w (mm_w (mm_w Zb 2 (upd (Zb 2) 1 0)) 6 (upd (Zb 6) 1 0)) 9 (upd (Zb 9) 1 0) := ⟨_, rfl⟩
  have hDc : DF Z Zc := by
    have g1 : DF Zb (mm_w Zb 2 (upd (Zb 2) 1 0)) := DF.w (by omega)
    have g2 : DF (mm_w Zb 2 (upd (Zb 2) 1 0)) (mm_w (mm_w Zb 2 (upd (Zb 2) 1 0)) 6 (upd (mm_w Zb 2 (upd (Zb 2) 1 0) 6) 1 0)) := DF.w (by omega)
    have g3 : DF (mm_w (mm_w Zb 2 (upd (Zb 2) 1 0)) 6 (upd (mm_w Zb 2 (upd (Zb 2) 1 0) 6) 1 0)) (mm_w (mm_w (mm_w Zb 2 (upd (Zb 2) 1 0)) 6 (upd (mm_w Zb 2 (upd (Zb 2) 1 0) 6) 1 0)) 9 (upd (mm_w (mm_w Zb 2 (upd (Zb 2) 1 0)) 6 (upd (mm_w Zb 2 (upd (Zb 2) 1 0) 6) 1 0) 9) 1 0)) := DF.w (by omega)
    rw [hZc]
    exact ((hY2.df.tr g1).tr g2).tr g3
  have hc0 : Zc 0 = Zb 0 := by rw [hZc, mm_w_ne (by omega), mm_w_ne (by omega), mm_w_ne (by omega)]
  have hRc : TR t len Zc := by
    rw [hZc]
    exact (((hZ.y hY2).w (by omega)).w (by omega)).w (by omega)
  obtain ⟨Z6, n1, n2, n3⟩ := nextM (p := 0) hRc (Nat.zero_le len) (by rw [hc0, hb12]; rfl)
  have h616 : Z6 0 16 = -9 := by rw [n2.2 16 (by omega), hc0, hb16]
  have hc1 : ∀ c, c = 2 ∨ c = 6 ∨ c = 9 → Z6 c 1 = 0 := fun c hc => by
    rw [n2.1 c (by omega), hZc]
    rcases hc with rfl | rfl | rfl
    · rw [mm_w_ne (by omega), mm_w_ne (by omega), mm_w_same, up_same]
    · rw [mm_w_ne (by omega), mm_w_same, up_same]
    · rw [mm_w_same, up_same]
  -- nothing is found yet
  obtain ⟨F1, hF1⟩ : ∃ F1, F1 = mm_w (mm_w (mm_w F 0 (upd (F 0) 0 0)) 0 (upd (mm_w F 0 (upd (F 0) 0 0) 0) 1 0)) 0 (upd (mm_w (mm_w F 0 (upd (F 0) 0 0)) 0 (upd (mm_w F 0 (upd (F 0) 0 0) 0) 1 0) 0) 2 0) := ⟨_, rfl⟩
  have hD0 : FD 0 0 0 F1 Z6 := by
    refine ⟨by omega, by omega, by omega, ?_, hc1 2 (by omega), ?_, hc1 6 (by omega), ?_, hc1 9 (by omega), fun i hi => absurd hi (by omega), fun i hi => absurd hi (by omega), fun i hi => absurd hi (by omega)⟩
    · rw [hF1, q_n (by omega), q_n (by omega), q_s]
      rfl
    · rw [hF1, q_n (by omega), q_s]
      rfl
    · rw [hF1, q_s]
      rfl
  obtain ⟨m, R5, F5, Z5, a1, a2, a3, a4, a5, a6⟩ := all_l (len + 1) 0 0 kv_FU kv_FU 0 0 0 R4 F1 Z6 (by omega) (by omega) (by omega) (by omega) ⟨(hR.r hF3).c s2, hRc.z n2, Nat.zero_le len, s3, s4, s5, h47, n3, h616⟩ hD0
  have hFR : FrR R R5 := hF4.tr a4
  have hDZ : DF Z Z5 := (hDc.tr n2.y.df).tr a5
  have a1' : ∀ Kc : Int32 → Mm → Mm → Option (Int32 × Mm × Mm), ffX4_readAll_L23 Kc kv_FU 0 R4 F1 = Kc (iI m) R5 F5 := fun Kc => by
    rw [l0]
    exact a1 Kc
  have hall : ffX4_readAll R F = (if R5 0 7 = ((-1) : Int32) then some (iI m, R5, F5) else some ((-10) - (R5 0 7), R5, F5)) := by
    unfold ffX4_readAll ffX6_forget
    rw [kv_lt_d, kv_lt_d, kv_lt_d, kv_b1_d, kv_lt_d, kv_lt_d, s1, kv_b1_d, ← hF1, a1']
  have ez : mm_w (mm_w (mm_w Zb 2 (upd (Zb 2) 1 0)) 6 (upd (mm_w Zb 2 (upd (Zb 2) 1 0) 6) 1 0)) 9 (upd (mm_w (mm_w Zb 2 (upd (Zb 2) 1 0)) 6 (upd (mm_w Zb 2 (upd (Zb 2) 1 0) 6) 1 0) 9) 1 0) = Zc := by
    rw [hZc, mm_w_ne (M := Zb) (show (6 : Nat) ≠ 2 by omega), mm_w_ne (show (9 : Nat) ≠ 6 by omega), mm_w_ne (show (9 : Nat) ≠ 2 by omega)]
  have a2' : ∀ Km : Int32 → Mm → Option (Int32 × Mm), ffX8_day_L38 Km kv_FU 0 Z6 = Km (iI m) Z5 := fun Km => by
    rw [l0]
    exact a2 Km
  have hmod : ∀ q : Option (Int32 × Mm), (∀ Km : Int32 → Mm → Option (Int32 × Mm), Km (iI m) Z5 = q → ffX8_day_L38 Km kv_FU 0 Z6 = q) := fun q Km e => (a2' Km).trans e
  rcases a6 with ⟨h7, h16, n', k', st', hD5⟩ | ⟨s, hs, h7, h16⟩
  · obtain ⟨d1, d2, d3, d4, d5, d6, d7, d8, d9, d10, d11, d12⟩ := hD5
    obtain ⟨T', t1, t2, t3, t4, t5, t6, t7⟩ := copyT_i T F5
    have hT' : OkT T' n' k' st' := by
      refine ⟨d1, d2, d3, by rw [t2]; exact d4, by rw [t3]; exact d6, by rw [t4]; exact d8, fun i hi => ?_, fun j hj => ?_, fun s hs => ?_⟩
      · obtain ⟨e1, e2, e3⟩ := t5 i (by omega)
        rw [tv_e e1, tv_e e2, tv_e e3]
        exact (d10 i hi).2
      · obtain ⟨e1, e2⟩ := t6 j (by omega)
        rw [tv_e e1, tv_e e2]
        exact (d11 j hj).2
      · rw [tv_e (t7 s (by omega))]
        exact (d12 s hs).2
    -- the model's copies
    obtain ⟨Z18, hZ18⟩ : ∃ Z18, Z18 = mm_w (mm_w (mm_w Z5 2 (upd (Z5 2) 0 (Z5 2 1))) 6 (upd (Z5 6) 0 (Z5 6 1))) 9 (upd (Z5 9) 0 (Z5 9 1)) := ⟨_, rfl⟩
    obtain ⟨Z29, b1, b2, b3⟩ := cp3_l 6 0 kv_FU Z18 (by omega) (by omega)
    obtain ⟨Z38, c1, c2, c3⟩ := cp7_l 5 0 kv_FU Z29 (by omega) (by omega)
    obtain ⟨Z45, e1, e2, e3⟩ := cp10_l 24 0 kv_FU Z38 (by omega) (by omega)
    have b1' : ∀ K : Int32 → Mm → Option (Int32 × Mm), ffX8_day_L120 K kv_FU 0 Z18 = K (iI 6) Z29 := fun K => by
      rw [l0]
      exact b1 K
    have c1' : ∀ K : Int32 → Mm → Option (Int32 × Mm), ffX8_day_L179 K kv_FU 0 Z29 = K (iI 5) Z38 := fun K => by
      rw [l0]
      exact c1 K
    have e1' : ∀ K : Int32 → Mm → Option (Int32 × Mm), ffX8_day_L220 K kv_FU 0 Z38 = K (iI 24) Z45 := fun K => by
      rw [l0]
      exact e1 K
    have g18 : ∀ c, c ≠ 2 → c ≠ 6 → c ≠ 9 → Z18 c = Z5 c := fun c h2 h6 h9 => by rw [hZ18, mm_w_ne h9, mm_w_ne h6, mm_w_ne h2]
    have g45 : ∀ c, c < 3 ∨ c = 6 ∨ c = 9 ∨ 10 < c → Z45 c = Z18 c := fun c hc => by rw [e2 c (by omega), c2 c (by omega), b2 c (by omega)]
    have k2 : Z45 2 0 = iI ((n' : Nat) : Int) := by
      rw [g45 2 (by omega), hZ18, mm_w_ne (by omega), mm_w_ne (by omega), mm_w_same, up_same]
      exact d5
    have k6 : Z45 6 0 = iI ((k' : Nat) : Int) := by
      rw [g45 6 (by omega), hZ18, mm_w_ne (by omega), mm_w_same, up_same]
      exact d7
    have k9 : Z45 9 0 = iI ((st' : Nat) : Int) := by
      rw [g45 9 (by omega), hZ18, mm_w_same, up_same]
      exact d9
    have hRT : RT T' Z45 n' k' st' := by
      refine ⟨k2, k6, k9, fun i hi => ?_, fun j hj => ?_, fun s hs => ?_⟩
      · obtain ⟨u1, u2, u3⟩ := t5 i (by omega)
        obtain ⟨⟨w1, w2, w3⟩, -⟩ := d10 i hi
        have z : ∀ c, 3 ≤ c → c ≤ 5 → Z45 c i = Z5 c (6 + i) := fun c h1 h2 => by rw [e2 c (by omega), c2 c (by omega), b3 c i h1 h2, if_pos (by omega), g18 c (by omega) (by omega) (by omega)]
        rw [z 3 (by omega) (by omega), z 4 (by omega) (by omega), z 5 (by omega) (by omega), u1, u2, u3]
        exact ⟨w1, w2, w3⟩
      · obtain ⟨u1, u2⟩ := t6 j (by omega)
        obtain ⟨⟨w1, w2⟩, -⟩ := d11 j hj
        have z : ∀ c, 7 ≤ c → c ≤ 8 → Z45 c j = Z5 c (5 + j) := fun c h1 h2 => by rw [e2 c (by omega), c3 c j h1 h2, if_pos (by omega), b2 c (by omega), g18 c (by omega) (by omega) (by omega)]
        rw [z 7 (by omega) (by omega), z 8 (by omega) (by omega), u1, u2]
        exact ⟨w1, w2⟩
      · rw [e3 s, if_pos (by omega), c2 10 (by omega), b2 10 (by omega), g18 10 (by omega) (by omega) (by omega), t7 s (by omega)]
        exact (d12 s hs).1
    have hNN := RN.begin (P := P) hT' hRT
    have han := anewm_i (Z := Z45) d1 k2
    obtain ⟨Z47, hZ47⟩ : ∃ Z47, Z47 = mm_w Z45 11 (gA Z45 n' 6) := ⟨_, rfl⟩
    rw [← hZ47] at han hNN
    obtain ⟨X', y1, y2, y3⟩ := gone_i X (fun (x12 : Int32) (mX13 : Mm) => some (iI ((m : Nat) : Int), mX13, mm_w R5 0 (upd (R5 0) 2 0), F5, T', mB T' P n'))
    have hemp : ffX4_empty R5 = some (R5 0 2, mm_w R5 0 (upd (R5 0) 2 0)) := rfl
    have hc : ffX7_day X R F T P = some (iI ((m : Nat) : Int), X', mm_w R5 0 (upd (R5 0) 2 0), F5, T', mB T' P n') := by
      unfold ffX7_day
      rw [hall, if_pos h7, kv_b3_d, if_pos (by rw [iI_0, iI_le (by omega) (by omega) (by omega) (by omega)]; omega), t1, kv_b1_d, hemp, kv_b2_d, begin_i hT', kv_b1_d, y1]
    have hA6 : mm_w Z5 2 (upd (Z5 2) 0 (Z5 2 1)) 6 = Z5 6 := mm_w_ne (by omega)
    have hB9 : mm_w (mm_w Z5 2 (upd (Z5 2) 0 (Z5 2 1))) 6 (upd (Z5 6) 0 (Z5 6 1)) 9 = Z5 9 := by rw [mm_w_ne (by omega), mm_w_ne (by omega)]
    have e18 : mm_w (mm_w (mm_w Z5 2 (upd (Z5 2) 0 (Z5 2 1))) 6 (upd (mm_w Z5 2 (upd (Z5 2) 0 (Z5 2 1)) 6) 0 (mm_w Z5 2 (upd (Z5 2) 0 (Z5 2 1)) 6 1))) 9 (upd (mm_w (mm_w Z5 2 (upd (Z5 2) 0 (Z5 2 1))) 6 (upd (mm_w Z5 2 (upd (Z5 2) 0 (Z5 2 1)) 6) 0 (mm_w Z5 2 (upd (Z5 2) 0 (Z5 2 1)) 6 1)) 9) 0 (mm_w (mm_w Z5 2 (upd (Z5 2) 0 (Z5 2 1))) 6 (upd (mm_w Z5 2 (upd (Z5 2) 0 (Z5 2 1)) 6) 0 (mm_w Z5 2 (upd (Z5 2) 0 (Z5 2 1)) 6 1)) 9 1)) = Z18 := by
      rw [hA6, hB9, hZ18]
    have hm : ∃ Zf, ffX8_day Z = some (iI ((m : Nat) : Int), Zf) ∧ (∀ c, c ≠ 0 → c ≠ 12 → Zf c = Z47 c) ∧ Zf 12 0 = 0 ∧ Zf 12 1 = 0 ∧ Zf 0 2 = 0 ∧ ∀ j, j ≠ 2 → Zf 0 j = Z47 0 j := by
      refine ⟨mm_w (mm_w (mm_w Z47 12 (upd (Z47 12) 0 (vp_nar .boolean 0))) 12 (upd (mm_w Z47 12 (upd (Z47 12) 0 (vp_nar .boolean 0)) 12) 1 (vp_nar .boolean 0))) 0 (upd (mm_w (mm_w Z47 12 (upd (Z47 12) 0 (vp_nar .boolean 0))) 12 (upd (mm_w Z47 12 (upd (Z47 12) 0 (vp_nar .boolean 0)) 12) 1 (vp_nar .boolean 0)) 0) 2 0), ?_, fun c h0 h12 => ?_, ?_, ?_, ?_, fun j hj => ?_⟩
      · unfold ffX8_day
        rw [kv_lt_d, kv_lt_d, ← hZb, ix12, kv_lt_d, ix12, kv_lt_d, ix12, kv_lt_d, cl1, ez, n1, kv_b1_d]
        refine hmod _ _ ?_
        rw [if_pos h16, ix12, kv_lt_d, ix0 (by omega) (by omega), kv_lt_d, ix12, kv_lt_d, ix0 (by omega) (by omega), kv_lt_d, ix12, kv_lt_d, ix0 (by omega) (by omega), kv_lt_d, cl0, e18]
        refine (b1' _).trans ((c1' _).trans ((e1' _).trans ?_))
        rw [han, kv_b2_d, ix0 (by omega) (by omega), kv_lt_d, ix12, kv_lt_d, kv_lt_d]
      · rw [mm_w_ne h0, mm_w_ne h12, mm_w_ne h12]
      · rw [mm_w_ne (by omega), mm_w_same, up_ne (by omega), mm_w_same, up_same]
        rfl
      · rw [mm_w_ne (by omega), mm_w_same, up_same]
        rfl
      · rw [mm_w_same, up_same]
      · rw [mm_w_same, up_ne hj, mm_w_ne (by omega), mm_w_ne (by omega)]
    obtain ⟨Zf, m1, m2, m3, m4, m5, m6⟩ := hm
    refine ⟨_, X', _, F5, T', _, Zf, hc, m1, hg, ⟨0, by omega, q_s, m5, fun i hi => absurd hi (by omega)⟩, ?_, n', k', st', ?_, Or.inl ⟨y2, m3⟩, Or.inl ⟨y3, m4⟩⟩
    · have f0 : Z47 0 23 = Z 0 23 := by
        rw [hZ47, mm_w_ne (by omega), g45 0 (by omega), g18 0 (by omega) (by omega) (by omega)]
        exact hDZ.1 23 (by omega)
      have f17 : ∀ c, 17 ≤ c → Z47 c = Z c := fun c hc => by
        rw [hZ47, mm_w_ne (by omega), g45 c (by omega), g18 c (by omega) (by omega) (by omega)]
        exact hDZ.2.2.1 c (by omega)
      exact hd.eq (by rw [m6 23 (by omega)]; exact f0) (by rw [m2 17 (by omega) (by omega)]; exact f17 17 (by omega)) (by rw [m2 18 (by omega) (by omega)]; exact f17 18 (by omega))
    · obtain ⟨r1, r2, r3, r4, r5⟩ := hNN
      exact ⟨r1, r2.eq2 (fun c h1 h2 => m2 c (by omega) (by omega)), r3, r4, r5.eq r1.1 (fun j _ _ => by rw [m2 11 (by omega) (by omega)])⟩
  · have hne1 : ¬ R5 0 7 = -1 := by rw [h7]; exact ne1 (by omega)
    have hne9 : ¬ Z5 0 16 = -9 := by rw [h16]; exact ne9 (by omega)
    have e10 : (-10 : Int32) - iI ((s : Nat) : Int) = iI (-10 - ((s : Nat) : Int)) := by rw [show (-10 : Int32) = iI (-10) from rfl, iI_sub]
    have hm : ffX8_day Z = some (iI (-10 - ((s : Nat) : Int)), Z5) := by
      unfold ffX8_day
      rw [kv_lt_d, kv_lt_d, ← hZb, ix12, kv_lt_d, ix12, kv_lt_d, ix12, kv_lt_d, cl1, ez, n1, kv_b1_d]
      refine hmod _ _ ?_
      rw [if_neg hne9, h16, e10]
    have hc : ffX7_day X R F T P = some (iI (-10 - ((s : Nat) : Int)), X, R5, F5, T, P) := by
      unfold ffX7_day
      rw [hall, if_neg hne1, kv_b3_d, h7, e10, if_neg (by rw [iI_0, iI_le (by omega) (by omega) (by omega) (by omega)]; omega)]
    exact ⟨_, X, R5, F5, T, P, Z5, hc, hm, h.df hFR hDZ⟩
/-- the beginning -/
theorem Rl_zero : Rl zz zz zz zz zz zz zz 0 zz 0 := by
  have t0 : ∀ c i, tv zz c i = 0 := fun _ _ => rfl
  refine ⟨rfl, ⟨0, by omega, rfl, rfl, fun i hi => absurd hi (by omega)⟩, ⟨0, by omega, rfl, rfl, fun j hj => absurd hj (by omega), fun w _ => ⟨rfl, rfl, rfl⟩⟩, 0, 0, 0, ⟨⟨by omega, by omega, by omega, rfl, rfl, rfl, fun i hi => absurd hi (by omega), fun i hi => absurd hi (by omega), fun i hi => absurd hi (by omega)⟩, ⟨rfl, rfl, rfl, fun i hi => absurd hi (by omega), fun i hi => absurd hi (by omega), fun i hi => absurd hi (by omega)⟩, ⟨?_, ?_, ?_, ?_, fun i hi => absurd hi (by omega)⟩, ⟨fun i j hi => absurd hi (by omega), ?_⟩, ⟨rfl, rfl, fun i hi => absurd hi (by omega)⟩⟩, Or.inl ⟨rfl, rfl⟩, Or.inl ⟨rfl, rfl⟩⟩
  · rw [t0]; omega
  · rw [t0]; omega
  · rw [t0]; omega
  · rw [t0]; omega
  · show (0 : Int) ≤ 3
    omega
