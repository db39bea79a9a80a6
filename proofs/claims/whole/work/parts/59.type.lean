/-! type -/
theorem by_eq (b : BitVec 64) (s : Nat) (h : s + 8 ≤ 64) : ((b >>> s).signExtend 32).signExtend 8 = (((b.sshiftRight s) &&& 255#64).signExtend 32).signExtend 8 := by
  apply BitVec.eq_of_getLsbD_eq
  intro i hi
  have h255 : (255#64).getLsbD i = true := by
    rcases (show i = 0 ∨ i = 1 ∨ i = 2 ∨ i = 3 ∨ i = 4 ∨ i = 5 ∨ i = 6 ∨ i = 7 by omega) with rfl | rfl | rfl | rfl | rfl | rfl | rfl | rfl <;> rfl
  simp only [BitVec.getLsbD_signExtend, BitVec.getLsbD_ushiftRight, BitVec.getLsbD_sshiftRight, BitVec.getLsbD_and, h255]
  have h1 : i < 32 := by omega
  have h2 : i < 64 := by omega
  have h3 : s + i < 64 := by omega
  simp [h1, h2, h3, hi]
theorem byte_eq (v : Int64) (j : Nat) (hj : j < 8) : ((v.toUInt64 >>> ((8 * iI (j : Int)).toInt64.toUInt64 &&& Int64.toUInt64 63)).toInt64).toInt32.toInt8 = ((v >>> ((8 * iI (j : Int)).toInt64 &&& 63)) &&& 255).toInt32.toInt8 := by
  match j, hj with
  | 0, _ => exact Int8.toBitVec.inj (by_eq v.toBitVec 0 (by omega))
  | 1, _ => exact Int8.toBitVec.inj (by_eq v.toBitVec 8 (by omega))
  | 2, _ => exact Int8.toBitVec.inj (by_eq v.toBitVec 16 (by omega))
  | 3, _ => exact Int8.toBitVec.inj (by_eq v.toBitVec 24 (by omega))
  | 4, _ => exact Int8.toBitVec.inj (by_eq v.toBitVec 32 (by omega))
  | 5, _ => exact Int8.toBitVec.inj (by_eq v.toBitVec 40 (by omega))
  | 6, _ => exact Int8.toBitVec.inj (by_eq v.toBitVec 48 (by omega))
  | 7, _ => exact Int8.toBitVec.inj (by_eq v.toBitVec 56 (by omega))
theorem i8_b (x : Int8) : -128 ≤ x.toInt32.toInt ∧ x.toInt32.toInt ≤ 127 := by
  have h1 := x.le_toInt
  have h2 := x.toInt_lt
  rw [Int8.toInt_toInt32]
  omega
def RXl (R Z : Mm) (len : Nat) : Prop := R 0 2 = iI len ∧ Z 0 2 = iI len ∧ ∀ i, i < len → R 1 i = Z 1 i ∧ -128 ≤ tv R 1 i ∧ tv R 1 i ≤ 127
theorem type_sim (v : Int64) (Kc Km : Int32 → Mm → Option (Int32 × Mm)) : ∀ (c fu fm len : Nat) (R Z : Mm), c ≤ 8 → c < fu → c < fm → RXl R Z len → len + c ≤ 300 → ∃ R' Z', ffX4_take_L19 v Kc fu (iI ((c : Int) - 1)) R = Kc (iI (-1)) R' ∧ ffX8_type_L32 v Km fm (iI ((c : Int) - 1)) Z = Km (iI (-1)) Z' ∧ RXl R' Z' (len + c) ∧ (∀ x, 1 < x → Z' x = Z x) ∧ ∀ j, j ≠ 2 → Z' 0 j = Z 0 j := by
  intro c
  induction c with
  | zero =>
    intro fu fm len R Z h8 hf hm h hl
    obtain ⟨fu, rfl⟩ : ∃ q, fu = q + 1 := ⟨fu - 1, by omega⟩
    obtain ⟨fm, rfl⟩ : ∃ q, fm = q + 1 := ⟨fm - 1, by omega⟩
    refine ⟨R, Z, ?_, ?_, h, fun _ _ => rfl, fun _ _ => rfl⟩
    · rw [ffX4_take_L19_s, if_pos (by decide)]
      rfl
    · rw [ffX8_type_L32_s, if_pos (by decide)]
      rfl
  | succ c ih =>
    intro fu fm len R Z h8 hf hm h hl
    obtain ⟨fu, rfl⟩ : ∃ q, fu = q + 1 := ⟨fu - 1, by omega⟩
    obtain ⟨fm, rfl⟩ : ∃ q, fm = q + 1 := ⟨fm - 1, by omega⟩
    obtain ⟨r2, z2, hb⟩ := h
    have ec : ((c + 1 : Nat) : Int) - 1 = (c : Int) := by omega
    have hc : ¬ iI (c : Int) < (0 : Int32) := by rw [iI_0, iI_lt (by omega) (by omega) (by omega) (by omega)]; omega
    have em : iI (c : Int) + (-1) = iI ((c : Int) - 1) := by rw [iI_m1, iI_add]; congr 1
    have e1 : iI (len : Int) + 1 = iI ((len + 1 : Nat) : Int) := by rw [l1, ix2]
    rw [ec, ffX4_take_L19_s, ffX8_type_L32_s, if_neg hc, if_neg hc]
    simp only [kv_lt_d, em]
    rw [r2, z2, ixN (by omega) (by omega), ixN (by omega) (by omega)]
    simp only [pk_vb, byte_eq v c (by omega), iI_cn (j := len) (show (len : Int) < 2147483648 by omega), mm_w_ne (show (0 : Nat) ≠ 1 by omega), r2, z2, e1]
    generalize ((v >>> ((8 * iI (c : Int)).toInt64 &&& 63)) &&& 255).toInt32.toInt8 = b
    obtain ⟨R', Z', g1, g2, g3, g4, g5⟩ := ih fu fm (len + 1) (mm_w (mm_w R 1 (upd (R 1) len b.toInt32)) 0 (upd (R 0) 2 (iI ((len + 1 : Nat) : Int)))) (mm_w (mm_w Z 1 (upd (Z 1) len b.toInt32)) 0 (upd (Z 0) 2 (iI ((len + 1 : Nat) : Int)))) (by omega) (by omega) (by omega) (by
      refine ⟨by rw [mm_w_same, up_same], by rw [mm_w_same, up_same], fun i hi => ?_⟩
      unfold tv
      rw [mm_w_ne (by omega), mm_w_same, mm_w_ne (by omega), mm_w_same]
      by_cases e : i = len
      · subst e
        rw [up_same, up_same]
        exact ⟨rfl, i8_b b⟩
      · rw [up_ne e, up_ne e]
        exact hb i (by omega)) (by omega)
    refine ⟨R', Z', g1, g2, ?_, fun x hx => ?_, fun j hj => ?_⟩
    · rw [show len + (c + 1) = len + 1 + c by omega]
      exact g3
    · rw [g4 x hx, mm_w_ne (by omega), mm_w_ne (by omega)]
    · rw [g5 j hj, mm_w_same, up_ne hj]
theorem st_type {X R T P I J D Z : Mm} {G Y : Int64} (h : Rl X R T P I J D G Z Y) (v : Int64) (p : Int32) : ∃ (r : Int32) (R' Z' : Mm), ffX7_type v p X R = some (r, R') ∧ ffX8_type v p Z = some (r, Z') ∧ Rl X R' T P I J D G Z' Y := by
  obtain ⟨hg, ⟨len, x1, x2, x3, x4⟩, hd, n, k, st, ⟨hT, hRT, hM, hP, hS⟩, hI, hJ⟩ := id h
  have hn := hT.1
  have fu := fu_big
  unfold ffX7_type ffX8_type
  rw [← wi_in]
  rcases wi_b p 1 8 with e | ⟨e, w1, w2⟩
  · rw [e, kv_b1_d, kv_b1_d, z_0, z_0]
    exact ⟨_, R, Z, rfl, rfl, h⟩
  · obtain ⟨z, z1, z2, rfl⟩ := rng w1 w2 (lo := 1) (hi := 8) (by decide) (by decide)
    obtain ⟨c, rfl⟩ : ∃ c : Nat, z = (c : Int) := ⟨z.toNat, by omega⟩
    rw [e, kv_b1_d, kv_b1_d, z_1, z_1]
    unfold ffX4_take
    rw [x2, x3, show (300 : Int32) = iI 300 from rfl, iI_sub, iI_add]
    generalize kv_FU = F at fu ⊢
    by_cases q : (c : Int) ≤ 300 - (len : Int)
    · rw [if_pos (by rw [iI_le (by omega) (by omega) (by omega) (by omega)]; exact q), if_pos (by rw [iI_le (by omega) (by omega) (by omega) (by omega)]; omega), kv_lt_d, kv_lt_d, iI_1, iI_sub]
      obtain ⟨R', Z', g1, g2, g3, g4, g5⟩ := type_sim v (fun (x9 : Int32) (mR10 : Mm) => some (1, mR10)) (fun (x10 : Int32) (mZ11 : Mm) => some (mZ11 0 2, mZ11)) c F F len R Z (by omega) (by omega) (by omega) ⟨x2, x3, x4⟩ (by omega)
      have g1' : ffX4_take_L19 v (fun (x9 : Int32) (mR10 : Mm) => some (iI 1, mR10)) F (iI ((c : Int) - 1)) R = some (1, R') := g1
      rw [g1', g2, kv_b2_d]
      refine ⟨R' 0 2, R', Z', rfl, ?_, hg, ⟨len + c, by omega, g3⟩, hd.eq (g5 23 (by omega)) (g4 17 (by omega)) (g4 18 (by omega)), n, k, st, ⟨hT, hRT.eq2 (fun x h1 _ => g4 x h1), hM, hP, hS.eq hn (fun j _ _ => by rw [g4 11 (by omega)])⟩, hI.eq hn (g4 12 (by omega)) (fun j _ _ => by rw [g4 11 (by omega)]), hJ.eq hn (g4 12 (by omega)) (fun j _ _ => by rw [g4 11 (by omega)])⟩
      show some (Z' 0 2, Z') = some (R' 0 2, Z')
      rw [g3.1, g3.2.1]
    · rw [if_neg (by rw [iI_le (by omega) (by omega) (by omega) (by omega)]; exact q), if_neg (by rw [iI_le (by omega) (by omega) (by omega) (by omega)]; omega), kv_b2_d]
      exact ⟨_, R, Z, rfl, rfl, h⟩
