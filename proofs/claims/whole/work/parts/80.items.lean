/-! day: items, both -/
/-- what is found so far -/
def FD (a b c : Nat) (F Z : Mm) : Prop := a ≤ 6 ∧ b ≤ 5 ∧ c ≤ 24 ∧ F 0 0 = iI ((a : Nat) : Int) ∧ Z 2 1 = iI ((a : Nat) : Int) ∧ F 0 1 = iI ((b : Nat) : Int) ∧ Z 6 1 = iI ((b : Nat) : Int) ∧ F 0 2 = iI ((c : Nat) : Int) ∧ Z 9 1 = iI ((c : Nat) : Int) ∧ (∀ i, i < a → (Z 3 (6 + i) = F 1 i ∧ Z 4 (6 + i) = F 2 i ∧ Z 5 (6 + i) = F 3 i) ∧ 1 ≤ tv F 1 i ∧ tv F 1 i ≤ 99 ∧ 1 ≤ tv F 2 i ∧ tv F 2 i ≤ 9 ∧ 1 ≤ tv F 3 i ∧ tv F 3 i ≤ 3) ∧ (∀ i, i < b → (Z 7 (5 + i) = F 4 i ∧ Z 8 (5 + i) = F 5 i) ∧ 1 ≤ tv F 4 i ∧ tv F 4 i ≤ 9 ∧ 0 ≤ tv F 5 i ∧ tv F 5 i ≤ 9) ∧ (∀ i, i < c → Z 10 (24 + i) = F 6 i ∧ -9 ≤ tv F 6 i ∧ tv F 6 i ≤ 9)
/-- what reading changes in the model -/
def DF (Z Z' : Mm) : Prop := (∀ j, j < 12 ∨ 16 < j → Z' 0 j = Z 0 j) ∧ Z' 1 = Z 1 ∧ (∀ c, 11 ≤ c → Z' c = Z c) ∧ Z' 2 0 = Z 2 0 ∧ Z' 6 0 = Z 6 0 ∧ Z' 9 0 = Z 9 0 ∧ (∀ c i, c = 3 ∨ c = 4 ∨ c = 5 → i < 6 → Z' c i = Z c i) ∧ (∀ c i, c = 7 ∨ c = 8 → i < 5 → Z' c i = Z c i) ∧ ∀ i, i < 24 → Z' 10 i = Z 10 i
theorem DF.rf (Z : Mm) : DF Z Z := ⟨fun _ _ => rfl, rfl, fun _ _ => rfl, rfl, rfl, rfl, fun _ _ _ _ => rfl, fun _ _ _ _ => rfl, fun _ _ => rfl⟩
theorem DF.tr {A B C : Mm} (h1 : DF A B) (h2 : DF B C) : DF A C := by
  obtain ⟨a1, a2, a3, a4, a5, a6, a7, a8, a9⟩ := h1
  obtain ⟨b1, b2, b3, b4, b5, b6, b7, b8, b9⟩ := h2
  exact ⟨fun j hj => (b1 j hj).trans (a1 j hj), b2.trans a2, fun c hc => (b3 c hc).trans (a3 c hc), b4.trans a4, b5.trans a5, b6.trans a6, fun c i hc hi => (b7 c i hc hi).trans (a7 c i hc hi), fun c i hc hi => (b8 c i hc hi).trans (a8 c i hc hi), fun i hi => (b9 i hi).trans (a9 i hi)⟩
theorem FrY.df {Z Z' : Mm} (h : FrY Z Z') : DF Z Z' := ⟨h.2, h.1 1 (by omega), fun c hc => h.1 c (by omega), by rw [h.1 2 (by omega)], by rw [h.1 6 (by omega)], by rw [h.1 9 (by omega)], fun c i hc _ => by rw [h.1 c (by omega)], fun c i hc _ => by rw [h.1 c (by omega)], fun i _ => by rw [h.1 10 (by omega)]⟩
theorem DF.w {Z : Mm} {c : Nat} {i : Nat} {x : Int32} (h : (c = 2 ∨ c = 6 ∨ c = 9) ∧ i = 1 ∨ (c = 3 ∨ c = 4 ∨ c = 5) ∧ 6 ≤ i ∨ (c = 7 ∨ c = 8) ∧ 5 ≤ i ∨ c = 10 ∧ 24 ≤ i) : DF Z (mm_w Z c (upd (Z c) i x)) := by
  have key : ∀ c' i', (c' ≠ c ∨ i' ≠ i) → mm_w Z c (upd (Z c) i x) c' i' = Z c' i' := fun c' i' hh => by
    by_cases q : c' = c
    · subst q
      rw [mm_w_same, up_ne (by omega)]
    · rw [mm_w_ne q]
  exact ⟨fun j _ => key 0 j (by omega), by rw [mm_w_ne (by omega)], fun c' hc => by rw [mm_w_ne (by omega)], key 2 0 (by omega), key 6 0 (by omega), key 9 0 (by omega), fun c' i' hc hi => key c' i' (by omega), fun c' i' hc hi => key c' i' (by omega), fun i' hi => key 10 i' (by omega)⟩
theorem FD.y {a b c : Nat} {F Z Z' : Mm} (h : FD a b c F Z) (f : FrY Z Z') : FD a b c F Z' := by
  unfold FD at *
  rw [f.1 2 (by omega), f.1 3 (by omega), f.1 4 (by omega), f.1 5 (by omega), f.1 6 (by omega), f.1 7 (by omega), f.1 8 (by omega), f.1 9 (by omega), f.1 10 (by omega)]
  exact h
theorem ix12 {β : Type} {k : Option β} : kv_ix (1 : Int32) 2 k = k := ixN (j := 1) (by omega) (by omega)
theorem cl1 : (1 : Int32).toNatClampNeg = 1 := iI_cn (j := 1) (by omega)
theorem tv_e {M N : Mm} {c d i j : Nat} (h : M c i = N d j) : tv M c i = tv N d j := by unfold tv; rw [h]
theorem tv_v {M : Mm} {c i : Nat} {v : Int} (h : M c i = iI v) (h1 : -1000 ≤ v) (h2 : v ≤ 1000) : tv M c i = v := by unfold tv; rw [h, iI_i (by omega) (by omega)]
/-- a piece -/
theorem pieceB {t : Nat → Int} {len a n b c : Nat} {R F Z : Mm} (h : PZ t len a R Z) (hD : FD n b c F Z) (hn : n < 6) : ∃ R' F' Z', ffX4_readPiece R F = some (R', F') ∧ (∀ KK : Mm → Option Mm, (kv_ix 1 2 (kv_b2 (ffX8_number (1 : Int32) (99 : Int32) Z) fun r40 mZ41 => kv_ix (6 + (Z 2 (1 : Int32).toNatClampNeg)) 12 (kv_b2 (ffX8_number (1 : Int32) (9 : Int32) (mm_w mZ41 3 (upd (mZ41 3) (6 + (Z 2 (1 : Int32).toNatClampNeg)).toNatClampNeg r40))) fun r43 mZ44 => kv_ix (6 + (Z 2 (1 : Int32).toNatClampNeg)) 12 (kv_b2 (ffX8_number (1 : Int32) (3 : Int32) (mm_w mZ44 4 (upd (mZ44 4) (6 + (Z 2 (1 : Int32).toNatClampNeg)).toNatClampNeg r43))) fun r46 mZ47 => kv_ix (6 + (Z 2 (1 : Int32).toNatClampNeg)) 12 (kv_ix 1 2 (kv_ix 1 2 (KK (mm_w (mm_w mZ47 5 (upd (mZ47 5) (6 + (Z 2 (1 : Int32).toNatClampNeg)).toNatClampNeg r46)) 2 (upd (mm_w mZ47 5 (upd (mZ47 5) (6 + (Z 2 (1 : Int32).toNatClampNeg)).toNatClampNeg r46) 2) (1 : Int32).toNatClampNeg (mm_w mZ47 5 (upd (mZ47 5) (6 + (Z 2 (1 : Int32).toNatClampNeg)).toNatClampNeg r46) 2 (1 : Int32).toNatClampNeg + 1)))))))))) = KK Z') ∧ PZ t len a R' Z' ∧ FrR R R' ∧ DF Z Z' ∧ (R' 0 7 = -1 → FD (n + 1) b c F' Z') := by
  obtain ⟨d1, d2, d3, d4, d5, d6, d7, d8, d9, d10, d11, d12⟩ := id hD
  obtain ⟨v1, x1, R1, Z1, p1, p2, p3, p4, p5, p6, p7⟩ := numAny (lo := 1) (hi := 99) h (by omega) (by omega) (by omega) (by omega)
  obtain ⟨v2, x2, R2, Z2, q1, q2, q3, q4, q5, q6, q7⟩ := numAny (lo := 1) (hi := 9) (p3.w (c := 3) (f := upd (Z1 3) (6 + n) x1) (by omega)) (by omega) (by omega) (by omega) (by omega)
  obtain ⟨v3, x3, R3, Z3, s1, s2, s3, s4, s5, s6, s7⟩ := numAny (lo := 1) (hi := 3) (q3.w (c := 4) (f := upd (Z2 4) (6 + n) x2) (by omega)) (by omega) (by omega) (by omega) (by omega)
  have p1' : ffX4_readNumber 1 99 R = some (iI v1, R1) := p1
  have p2' : ffX8_number 1 99 Z = some (x1, Z1) := p2
  have q1' : ffX4_readNumber 1 9 R1 = some (iI v2, R2) := q1
  have q2' : ffX8_number 1 9 (mm_w Z1 3 (upd (Z1 3) (6 + n) x1)) = some (x2, Z2) := q2
  have s1' : ffX4_readNumber 1 3 R2 = some (iI v3, R3) := s1
  have s2' : ffX8_number 1 3 (mm_w Z2 4 (upd (Z2 4) (6 + n) x2)) = some (x3, Z3) := s2
  have e6 : (6 : Int32) + iI ((n : Nat) : Int) = iI ((6 + n : Nat) : Int) := ix2 6 n
  -- what is in the model's cells behind it
  have c1 : ∀ c', c' ≠ 0 → Z1 c' = Z c' := p5.1
  have c2 : ∀ c', c' ≠ 0 → Z2 c' = mm_w Z1 3 (upd (Z1 3) (6 + n) x1) c' := q5.1
  have c3 : ∀ c', c' ≠ 0 → Z3 c' = mm_w Z2 4 (upd (Z2 4) (6 + n) x2) c' := s5.1
  have z32 : Z3 2 = Z 2 := by rw [c3 2 (by omega), mm_w_ne (by omega), c2 2 (by omega), mm_w_ne (by omega), c1 2 (by omega)]
  have z33 : Z3 3 = upd (Z 3) (6 + n) x1 := by rw [c3 3 (by omega), mm_w_ne (by omega), c2 3 (by omega), mm_w_same, c1 3 (by omega)]
  have z34 : Z3 4 = upd (Z 4) (6 + n) x2 := by rw [c3 4 (by omega), mm_w_same, c2 4 (by omega), mm_w_ne (by omega), c1 4 (by omega)]
  have z35 : Z3 5 = Z 5 := by rw [c3 5 (by omega), mm_w_ne (by omega), c2 5 (by omega), mm_w_ne (by omega), c1 5 (by omega)]
  have z3x : ∀ c', 6 ≤ c' → Z3 c' = Z c' := fun c' hc => by rw [c3 c' (by omega), mm_w_ne (by omega), c2 c' (by omega), mm_w_ne (by omega), c1 c' (by omega)]
  refine ⟨R3, mm_w (mm_w (mm_w (mm_w F 1 (upd (F 1) n (iI v1))) 2 (upd (F 2) n (iI v2))) 3 (upd (F 3) n (iI v3))) 0 (upd (F 0) 0 (iI ((n + 1 : Nat) : Int))), mm_w (mm_w Z3 5 (upd (Z3 5) (6 + n) x3)) 2 (upd (Z3 2) 1 (iI ((n + 1 : Nat) : Int))), ?_, fun KK => ?_, ?_, (p4.tr q4).tr s4, ?_, fun h7 => ?_⟩
  · unfold ffX4_readPiece
    rw [kv_lt_d, p1', kv_b2_d, d4, ixN (by omega) (by omega), kv_lt_d, q1', kv_b2_d, ixN (by omega) (by omega), kv_lt_d, s1', kv_b2_d, ixN (by omega) (by omega), kv_lt_d, kv_lt_d, kv_lt_d, iI_cn (j := n) (by omega)]
    have e0 : (mm_w (mm_w (mm_w F 1 (upd (F 1) n (iI v1))) 2 (upd (mm_w F 1 (upd (F 1) n (iI v1)) 2) n (iI v2))) 3 (upd (mm_w (mm_w F 1 (upd (F 1) n (iI v1))) 2 (upd (mm_w F 1 (upd (F 1) n (iI v1)) 2) n (iI v2)) 3) n (iI v3))) 0 0 = iI ((n : Nat) : Int) := d4
    rw [e0, l1, ix2]
    rfl
  · rw [ix12, p2', kv_b2_d, cl1, d5, e6, ixN (by omega) (by omega), iI_cn (j := 6 + n) (by omega), q2', kv_b2_d, ixN (by omega) (by omega), s2', kv_b2_d, ixN (by omega) (by omega), ix12, ix12]
    have e0 : mm_w Z3 5 (upd (Z3 5) (6 + n) x3) 2 1 = iI ((n : Nat) : Int) := by rw [mm_w_ne (by omega), z32]; exact d5
    rw [e0, l1, ix2]
    rfl
  · exact (s3.w (by omega)).w (by omega)
  · have g1 : DF Z1 (mm_w Z1 3 (upd (Z1 3) (6 + n) x1)) := DF.w (by omega)
    have g2 : DF Z2 (mm_w Z2 4 (upd (Z2 4) (6 + n) x2)) := DF.w (by omega)
    have g3 : DF Z3 (mm_w Z3 5 (upd (Z3 5) (6 + n) x3)) := DF.w (by omega)
    have g4 : DF (mm_w Z3 5 (upd (Z3 5) (6 + n) x3)) (mm_w (mm_w Z3 5 (upd (Z3 5) (6 + n) x3)) 2 (upd (mm_w Z3 5 (upd (Z3 5) (6 + n) x3) 2) 1 (iI ((n + 1 : Nat) : Int)))) := DF.w (by omega)
    exact (((((p5.df.tr g1).tr q5.df).tr g2).tr s5.df).tr g3).tr g4
  · obtain ⟨s8, s9, s10, s11⟩ := s6 h7
    obtain ⟨q8, q9, q10, q11⟩ := q6 s8
    obtain ⟨p8, p9, p10, p11⟩ := p6 q8
    have k3 : mm_w (mm_w Z3 5 (upd (Z3 5) (6 + n) x3)) 2 (upd (Z3 2) 1 (iI ((n + 1 : Nat) : Int))) 3 = upd (Z 3) (6 + n) (iI v1) := by rw [mm_w_ne (by omega), mm_w_ne (by omega), z33, p9]
    have k4 : mm_w (mm_w Z3 5 (upd (Z3 5) (6 + n) x3)) 2 (upd (Z3 2) 1 (iI ((n + 1 : Nat) : Int))) 4 = upd (Z 4) (6 + n) (iI v2) := by rw [mm_w_ne (by omega), mm_w_ne (by omega), z34, q9]
    have k5 : mm_w (mm_w Z3 5 (upd (Z3 5) (6 + n) x3)) 2 (upd (Z3 2) 1 (iI ((n + 1 : Nat) : Int))) 5 = upd (Z 5) (6 + n) (iI v3) := by rw [mm_w_ne (by omega), mm_w_same, z35, s9]
    have kx : ∀ c', 6 ≤ c' → mm_w (mm_w Z3 5 (upd (Z3 5) (6 + n) x3)) 2 (upd (Z3 2) 1 (iI ((n + 1 : Nat) : Int))) c' = Z c' := fun c' hc => by rw [mm_w_ne (by omega), mm_w_ne (by omega), z3x c' hc]
    refine ⟨by omega, d2, d3, by rw [mm_w_same, up_same], by rw [mm_w_same, up_same], d6, by rw [kx 6 (by omega)]; exact d7, d8, by rw [kx 9 (by omega)]; exact d9, fun i hi => ?_, fun i hi => ?_, fun i hi => ?_⟩
    · rw [k3, k4, k5]
      by_cases qi : i = n
      · subst qi
        rw [up_same, up_same, up_same]
        have w1 : tv (mm_w (mm_w (mm_w (mm_w F 1 (upd (F 1) i (iI v1))) 2 (upd (F 2) i (iI v2))) 3 (upd (F 3) i (iI v3))) 0 (upd (F 0) 0 (iI ((i + 1 : Nat) : Int)))) 1 i = v1 := tv_v (show upd (F 1) i (iI v1) i = iI v1 from up_same) (by omega) (by omega)
        have w2 : tv (mm_w (mm_w (mm_w (mm_w F 1 (upd (F 1) i (iI v1))) 2 (upd (F 2) i (iI v2))) 3 (upd (F 3) i (iI v3))) 0 (upd (F 0) 0 (iI ((i + 1 : Nat) : Int)))) 2 i = v2 := tv_v (show upd (F 2) i (iI v2) i = iI v2 from up_same) (by omega) (by omega)
        have w3 : tv (mm_w (mm_w (mm_w (mm_w F 1 (upd (F 1) i (iI v1))) 2 (upd (F 2) i (iI v2))) 3 (upd (F 3) i (iI v3))) 0 (upd (F 0) 0 (iI ((i + 1 : Nat) : Int)))) 3 i = v3 := tv_v (show upd (F 3) i (iI v3) i = iI v3 from up_same) (by omega) (by omega)
        rw [w1, w2, w3]
        exact ⟨⟨(show upd (F 1) i (iI v1) i = iI v1 from up_same).symm, (show upd (F 2) i (iI v2) i = iI v2 from up_same).symm, (show upd (F 3) i (iI v3) i = iI v3 from up_same).symm⟩, p10, p11, q10, q11, s10, s11⟩
      · rw [up_ne (by omega), up_ne (by omega), up_ne (by omega)]
        have w1 : mm_w (mm_w (mm_w (mm_w F 1 (upd (F 1) n (iI v1))) 2 (upd (F 2) n (iI v2))) 3 (upd (F 3) n (iI v3))) 0 (upd (F 0) 0 (iI ((n + 1 : Nat) : Int))) 1 i = F 1 i := (show upd (F 1) n (iI v1) i = F 1 i from up_ne qi)
        have w2 : mm_w (mm_w (mm_w (mm_w F 1 (upd (F 1) n (iI v1))) 2 (upd (F 2) n (iI v2))) 3 (upd (F 3) n (iI v3))) 0 (upd (F 0) 0 (iI ((n + 1 : Nat) : Int))) 2 i = F 2 i := (show upd (F 2) n (iI v2) i = F 2 i from up_ne qi)
        have w3 : mm_w (mm_w (mm_w (mm_w F 1 (upd (F 1) n (iI v1))) 2 (upd (F 2) n (iI v2))) 3 (upd (F 3) n (iI v3))) 0 (upd (F 0) 0 (iI ((n + 1 : Nat) : Int))) 3 i = F 3 i := (show upd (F 3) n (iI v3) i = F 3 i from up_ne qi)
        rw [tv_e w1, tv_e w2, tv_e w3, w1, w2, w3]
        exact d10 i (by omega)
    · rw [kx 7 (by omega), kx 8 (by omega)]
      exact d11 i hi
    · rw [kx 10 (by omega)]
      exact d12 i hi
/-- a spot -/
theorem spotB {t : Nat → Int} {len a n b c : Nat} {R F Z : Mm} (h : PZ t len a R Z) (hD : FD n b c F Z) (hb : b < 5) : ∃ R' F' Z', ffX4_readSpot R F = some (R', F') ∧ (∀ KK : Mm → Option Mm, (kv_ix 1 2 (kv_b2 (ffX8_number (1 : Int32) (9 : Int32) Z) fun r27 mZ28 => kv_ix (5 + (Z 6 (1 : Int32).toNatClampNeg)) 10 (kv_b2 (ffX8_number (0 : Int32) (9 : Int32) (mm_w mZ28 7 (upd (mZ28 7) (5 + (Z 6 (1 : Int32).toNatClampNeg)).toNatClampNeg r27))) fun r30 mZ31 => kv_ix (5 + (Z 6 (1 : Int32).toNatClampNeg)) 10 (kv_ix 1 2 (kv_ix 1 2 (KK (mm_w (mm_w mZ31 8 (upd (mZ31 8) (5 + (Z 6 (1 : Int32).toNatClampNeg)).toNatClampNeg r30)) 6 (upd (mm_w mZ31 8 (upd (mZ31 8) (5 + (Z 6 (1 : Int32).toNatClampNeg)).toNatClampNeg r30) 6) (1 : Int32).toNatClampNeg (mm_w mZ31 8 (upd (mZ31 8) (5 + (Z 6 (1 : Int32).toNatClampNeg)).toNatClampNeg r30) 6 (1 : Int32).toNatClampNeg + 1))))))))) = KK Z') ∧ PZ t len a R' Z' ∧ FrR R R' ∧ DF Z Z' ∧ (R' 0 7 = -1 → FD n (b + 1) c F' Z') := by
  obtain ⟨d1, d2, d3, d4, d5, d6, d7, d8, d9, d10, d11, d12⟩ := id hD
  obtain ⟨v1, x1, R1, Z1, p1, p2, p3, p4, p5, p6, p7⟩ := numAny (lo := 1) (hi := 9) h (by omega) (by omega) (by omega) (by omega)
  obtain ⟨v2, x2, R2, Z2, q1, q2, q3, q4, q5, q6, q7⟩ := numAny (lo := 0) (hi := 9) (p3.w (c := 7) (f := upd (Z1 7) (5 + b) x1) (by omega)) (by omega) (by omega) (by omega) (by omega)
  have p1' : ffX4_readNumber 1 9 R = some (iI v1, R1) := p1
  have p2' : ffX8_number 1 9 Z = some (x1, Z1) := p2
  have q1' : ffX4_readNumber 0 9 R1 = some (iI v2, R2) := q1
  have q2' : ffX8_number 0 9 (mm_w Z1 7 (upd (Z1 7) (5 + b) x1)) = some (x2, Z2) := q2
  have e5 : (5 : Int32) + iI ((b : Nat) : Int) = iI ((5 + b : Nat) : Int) := ix2 5 b
  have c1 : ∀ c', c' ≠ 0 → Z1 c' = Z c' := p5.1
  have c2 : ∀ c', c' ≠ 0 → Z2 c' = mm_w Z1 7 (upd (Z1 7) (5 + b) x1) c' := q5.1
  have z27 : Z2 7 = upd (Z 7) (5 + b) x1 := by rw [c2 7 (by omega), mm_w_same, c1 7 (by omega)]
  have z2x : ∀ c', c' ≠ 0 → c' ≠ 7 → Z2 c' = Z c' := fun c' h0 h7 => by rw [c2 c' h0, mm_w_ne h7, c1 c' h0]
  refine ⟨R2, mm_w (mm_w (mm_w F 4 (upd (F 4) b (iI v1))) 5 (upd (F 5) b (iI v2))) 0 (upd (F 0) 1 (iI ((b + 1 : Nat) : Int))), mm_w (mm_w Z2 8 (upd (Z2 8) (5 + b) x2)) 6 (upd (Z2 6) 1 (iI ((b + 1 : Nat) : Int))), ?_, fun KK => ?_, ?_, p4.tr q4, ?_, fun h7 => ?_⟩
  · unfold ffX4_readSpot
    rw [kv_lt_d, p1', kv_b2_d, d6, ixN (by omega) (by omega), kv_lt_d, q1', kv_b2_d, ixN (by omega) (by omega), kv_lt_d, kv_lt_d, kv_lt_d, iI_cn (j := b) (by omega)]
    have e0 : (mm_w (mm_w F 4 (upd (F 4) b (iI v1))) 5 (upd (mm_w F 4 (upd (F 4) b (iI v1)) 5) b (iI v2))) 0 1 = iI ((b : Nat) : Int) := d6
    rw [e0, l1, ix2]
    rfl
  · rw [ix12, p2', kv_b2_d, cl1, d7, e5, ixN (by omega) (by omega), iI_cn (j := 5 + b) (by omega), q2', kv_b2_d, ixN (by omega) (by omega), ix12, ix12]
    have e0 : mm_w Z2 8 (upd (Z2 8) (5 + b) x2) 6 1 = iI ((b : Nat) : Int) := by rw [mm_w_ne (by omega), z2x 6 (by omega) (by omega)]; exact d7
    rw [e0, l1, ix2]
    rfl
  · exact (q3.w (by omega)).w (by omega)
  · have g1 : DF Z1 (mm_w Z1 7 (upd (Z1 7) (5 + b) x1)) := DF.w (by omega)
    have g2 : DF Z2 (mm_w Z2 8 (upd (Z2 8) (5 + b) x2)) := DF.w (by omega)
    have g4 : DF (mm_w Z2 8 (upd (Z2 8) (5 + b) x2)) (mm_w (mm_w Z2 8 (upd (Z2 8) (5 + b) x2)) 6 (upd (mm_w Z2 8 (upd (Z2 8) (5 + b) x2) 6) 1 (iI ((b + 1 : Nat) : Int)))) := DF.w (by omega)
    exact (((p5.df.tr g1).tr q5.df).tr g2).tr g4
  · obtain ⟨q8, q9, q10, q11⟩ := q6 h7
    obtain ⟨p8, p9, p10, p11⟩ := p6 q8
    have k7 : mm_w (mm_w Z2 8 (upd (Z2 8) (5 + b) x2)) 6 (upd (Z2 6) 1 (iI ((b + 1 : Nat) : Int))) 7 = upd (Z 7) (5 + b) (iI v1) := by rw [mm_w_ne (by omega), mm_w_ne (by omega), z27, p9]
    have k8 : mm_w (mm_w Z2 8 (upd (Z2 8) (5 + b) x2)) 6 (upd (Z2 6) 1 (iI ((b + 1 : Nat) : Int))) 8 = upd (Z 8) (5 + b) (iI v2) := by rw [mm_w_ne (by omega), mm_w_same, z2x 8 (by omega) (by omega), q9]
    have kx : ∀ c', c' ≠ 0 → c' ≠ 6 → c' ≠ 7 → c' ≠ 8 → mm_w (mm_w Z2 8 (upd (Z2 8) (5 + b) x2)) 6 (upd (Z2 6) 1 (iI ((b + 1 : Nat) : Int))) c' = Z c' := fun c' h0 h6 h7 h8 => by rw [mm_w_ne h6, mm_w_ne h8, z2x c' h0 h7]
    refine ⟨d1, by omega, d3, d4, by rw [kx 2 (by omega) (by omega) (by omega) (by omega)]; exact d5, by rw [mm_w_same, up_same], by rw [mm_w_same, up_same], d8, by rw [kx 9 (by omega) (by omega) (by omega) (by omega)]; exact d9, fun i hi => ?_, fun i hi => ?_, fun i hi => ?_⟩
    · rw [kx 3 (by omega) (by omega) (by omega) (by omega), kx 4 (by omega) (by omega) (by omega) (by omega), kx 5 (by omega) (by omega) (by omega) (by omega)]
      exact d10 i hi
    · rw [k7, k8]
      by_cases qi : i = b
      · subst qi
        rw [up_same, up_same]
        have w1 : tv (mm_w (mm_w (mm_w F 4 (upd (F 4) i (iI v1))) 5 (upd (F 5) i (iI v2))) 0 (upd (F 0) 1 (iI ((i + 1 : Nat) : Int)))) 4 i = v1 := tv_v (show upd (F 4) i (iI v1) i = iI v1 from up_same) (by omega) (by omega)
        have w2 : tv (mm_w (mm_w (mm_w F 4 (upd (F 4) i (iI v1))) 5 (upd (F 5) i (iI v2))) 0 (upd (F 0) 1 (iI ((i + 1 : Nat) : Int)))) 5 i = v2 := tv_v (show upd (F 5) i (iI v2) i = iI v2 from up_same) (by omega) (by omega)
        rw [w1, w2]
        exact ⟨⟨(show upd (F 4) i (iI v1) i = iI v1 from up_same).symm, (show upd (F 5) i (iI v2) i = iI v2 from up_same).symm⟩, p10, p11, q10, q11⟩
      · rw [up_ne (by omega), up_ne (by omega)]
        have w1 : mm_w (mm_w (mm_w F 4 (upd (F 4) b (iI v1))) 5 (upd (F 5) b (iI v2))) 0 (upd (F 0) 1 (iI ((b + 1 : Nat) : Int))) 4 i = F 4 i := (show upd (F 4) b (iI v1) i = F 4 i from up_ne qi)
        have w2 : mm_w (mm_w (mm_w F 4 (upd (F 4) b (iI v1))) 5 (upd (F 5) b (iI v2))) 0 (upd (F 0) 1 (iI ((b + 1 : Nat) : Int))) 5 i = F 5 i := (show upd (F 5) b (iI v2) i = F 5 i from up_ne qi)
        rw [tv_e w1, tv_e w2, w1, w2]
        exact d11 i (by omega)
    · rw [kx 10 (by omega) (by omega) (by omega) (by omega)]
      exact d12 i hi
