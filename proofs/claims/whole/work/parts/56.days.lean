/-! days -/
theorem bit {p : Int32} (w1 : (0 : Int32) ≤ p) (w2 : p ≤ 1) : p = 0 ∨ p = 1 := by
  obtain ⟨z, z1, z2, rfl⟩ := rng w1 w2 (lo := 0) (hi := 1) (by decide) (by decide)
  rcases (show z = 0 ∨ z = 1 by omega) with rfl | rfl
  · exact Or.inl rfl
  · exact Or.inr rfl
theorem RT.eq2 {T Z Z' : Mm} {n k st : Nat} (h : RT T Z n k st) (e : ∀ c, 1 < c → c < 11 → Z' c = Z c) : RT T Z' n k st := by
  unfold RT at *
  rw [e 2 (by omega) (by omega), e 3 (by omega) (by omega), e 4 (by omega) (by omega), e 5 (by omega) (by omega), e 6 (by omega) (by omega), e 7 (by omega) (by omega), e 8 (by omega) (by omega), e 9 (by omega) (by omega), e 10 (by omega) (by omega)]
  exact h
/-- a day comes to the sums of one -/
theorem addOf_i {D : Mm} {w : Nat} (hw : w < 2) (p q : Int32) : ffX0_addOf (iI w) p q D = some (mm_w (mm_w (mm_w D 1 (upd (D 1) w (D 1 w + (if p = q then 1 else 0)))) 2 (upd (D 2) w (D 2 w + p))) 3 (upd (D 3) w (D 3 w + p * q))) := by
  unfold ffX0_addOf
  simp only [ixN (show w < 2 by omega) (show ((2 : Nat) : Int) < 2147483648 by omega), kv_lt_d, iI_cn (j := w) (show (w : Int) < 2147483648 by omega)]
  by_cases e : p = q
  · rw [if_pos e, if_pos e]; rfl
  · rw [if_neg e, if_neg e]; rfl
theorem st_held {X R T P I J D Z : Mm} {G Y : Int64} (h : Rl X R T P I J D G Z Y) (p q s : Int32) : ∃ (r : Int32) (D' Z' : Mm), ffX7_held p q s X D = some (r, D') ∧ ffX8_held p q s Z = some (r, Z') ∧ Rl X R T P I J D' G Z' Y := by
  obtain ⟨hg, hx, ⟨d, d1, d2, d3, d4, d5⟩, n, k, st, ⟨hT, hRT, hM, hP, hS⟩, hI, hJ⟩ := id h
  have hn := hT.1
  unfold ffX7_held ffX8_held
  rw [← wi_in, ← wi_in, ← wi_in]
  rcases wi_b p 0 1 with e1 | ⟨e1, w1, w2⟩
  · rw [e1, kv_b1_d, kv_b1_d, z_0, z_0]
    exact ⟨_, D, Z, rfl, rfl, h⟩
  · rw [e1, kv_b1_d, kv_b1_d, z_1, z_1]
    rcases wi_b q 0 1 with e2 | ⟨e2, w3, w4⟩
    · rw [e2, kv_b1_d, kv_b1_d, z_0, z_0]
      exact ⟨_, D, Z, rfl, rfl, h⟩
    · rw [e2, kv_b1_d, kv_b1_d, z_1, z_1]
      rcases wi_b s 0 1 with e3 | ⟨e3, w5, w6⟩
      · rw [e3, kv_b1_d, kv_b1_d, z_0, z_0]
        exact ⟨_, D, Z, rfl, rfl, h⟩
      · have bp := bit w1 w2
        have bq := bit w3 w4
        have bs := bit w5 w6
        rw [e3, kv_b1_d, kv_b1_d, z_1, z_1, d2, d3]
        by_cases q30 : d = 30
        · subst q30
          rw [if_neg (by decide), if_pos (by decide)]
          exact ⟨_, D, Z, rfl, rfl, h⟩
        · rw [if_pos (by rw [show (30 : Int32) = iI 30 from rfl, iI_lt (by omega) (by omega) (by omega) (by omega)]; omega), if_neg (by rw [show (30 : Int32) = iI 30 from rfl, iI_eq (by omega) (by omega) (by omega) (by omega)]; omega)]
          have t1 : (2 : Int32) * iI (d : Int) = iI ((2 * d : Nat) : Int) := by rw [show (2 : Int32) = iI 2 from rfl, iI_mul]; congr 1
          have t2 : iI ((2 * d : Nat) : Int) + 1 = iI ((2 * d + 1 : Nat) : Int) := by rw [l1, ix2]
          have t3 : iI (d : Int) + 1 = iI ((d + 1 : Nat) : Int) := by rw [l1, ix2]
          -- the model
          have em : (kv_ix (2 * iI (d : Int)) 60 (kv_lt (mm_w Z 17 (upd (Z 17) (2 * iI (d : Int)).toNatClampNeg p)) fun mZ4 => kv_ix ((2 * (mZ4 0 23)) + 1) 60 (kv_lt (mm_w mZ4 17 (upd (mZ4 17) ((2 * (mZ4 0 23)) + 1).toNatClampNeg q)) fun mZ5 => kv_ix (mZ5 0 23) 30 (kv_lt (mm_w mZ5 18 (upd (mZ5 18) (mZ5 0 23).toNatClampNeg s)) fun mZ6 => kv_lt ((mZ6 0 23) + 1) fun x7 => kv_lt (mm_w mZ6 0 (upd (mZ6 0) 23 x7)) fun mZ8 => some (mZ8 0 23, mZ8))))) = some (iI ((d + 1 : Nat) : Int), mm_w (mm_w (mm_w Z 17 (upd (upd (Z 17) (2 * d) p) (2 * d + 1) q)) 18 (upd (Z 18) d s)) 0 (upd (Z 0) 23 (iI ((d + 1 : Nat) : Int)))) := by
            have a1 : ∀ f, (mm_w Z 17 f) 0 23 = iI (d : Int) := fun f => by rw [mm_w_ne (by omega)]; exact d3
            have a2 : ∀ f g, (mm_w (mm_w Z 17 f) 18 g) 0 = Z 0 := fun f g => by rw [mm_w_ne (by omega), mm_w_ne (by omega)]
            have a3 : ∀ f, (mm_w Z 17 f) 18 = Z 18 := fun f => by rw [mm_w_ne (by omega)]
            simp only [kv_lt_d, t1, a1, t2, mm_w_w, mm_w_same, ixN (show 2 * d < 60 by omega) (show ((60 : Nat) : Int) < 2147483648 by omega), ixN (show 2 * d + 1 < 60 by omega) (show ((60 : Nat) : Int) < 2147483648 by omega), ixN (show d < 30 by omega) (show ((30 : Nat) : Int) < 2147483648 by omega), iI_cn (j := 2 * d) (show ((2 * d : Nat) : Int) < 2147483648 by omega), iI_cn (j := 2 * d + 1) (show ((2 * d + 1 : Nat) : Int) < 2147483648 by omega), iI_cn (j := d) (show (d : Int) < 2147483648 by omega), a2, a3, d3, t3, up_same]
          rw [em]
          -- the class
          unfold ffX0_add
          rw [kv_lt_d, kv_lt_d, d2, t3, show ffX0_addOf (0 : Int32) p s _ = _ from addOf_i (w := 0) (by omega) p s, kv_b1_d, show ffX0_addOf (1 : Int32) q s _ = _ from addOf_i (w := 1) (by omega) q s, kv_b1_d, kv_b1_d]
          refine ⟨_, _, _, rfl, rfl, hg, hx.eq (by rw [mm_w_same, up_ne (by omega)]) (by rw [mm_w_ne (by omega), mm_w_ne (by omega), mm_w_ne (by omega)]), ?_, n, k, st, ⟨hT, ?_, hM, hP, hS.eq hn (fun j _ _ => by rw [mm_w_ne (by omega), mm_w_ne (by omega), mm_w_ne (by omega)])⟩, hI.eq hn (by rw [mm_w_ne (by omega), mm_w_ne (by omega), mm_w_ne (by omega)]) (fun j _ _ => by rw [mm_w_ne (by omega), mm_w_ne (by omega), mm_w_ne (by omega)]), hJ.eq hn (by rw [mm_w_ne (by omega), mm_w_ne (by omega), mm_w_ne (by omega)]) (fun j _ _ => by rw [mm_w_ne (by omega), mm_w_ne (by omega), mm_w_ne (by omega)])⟩
          · have z17 : (mm_w (mm_w (mm_w Z 17 (upd (upd (Z 17) (2 * d) p) (2 * d + 1) q)) 18 (upd (Z 18) d s)) 0 (upd (Z 0) 23 (iI ((d + 1 : Nat) : Int)))) 17 = upd (upd (Z 17) (2 * d) p) (2 * d + 1) q := rfl
            have z18 : (mm_w (mm_w (mm_w Z 17 (upd (upd (Z 17) (2 * d) p) (2 * d + 1) q)) 18 (upd (Z 18) d s)) 0 (upd (Z 0) 23 (iI ((d + 1 : Nat) : Int)))) 18 = upd (Z 18) d s := rfl
            unfold RD tv
            rw [z17, z18]
            refine ⟨d + 1, by omega, rfl, by rw [mm_w_same, up_same], ?_, ?_⟩
            · intro j hj
              by_cases e : j = d
              · subst e
                rw [up_ne (show 2 * j ≠ 2 * j + 1 by omega), up_same, up_same, up_same]
                exact ⟨bp, bq, bs⟩
              · rw [up_ne (show 2 * j ≠ 2 * d + 1 by omega), up_ne (show 2 * j ≠ 2 * d by omega), up_ne (show 2 * j + 1 ≠ 2 * d + 1 by omega), up_ne (show 2 * j + 1 ≠ 2 * d by omega), up_ne e]
                exact d4 j (by omega)
            · intro w hw
              have v17 : ∀ j, j < d → upd (upd (Z 17) (2 * d) p) (2 * d + 1) q (2 * j + w) = Z 17 (2 * j + w) := fun j hj => by rw [up_ne (by omega), up_ne (by omega)]
              have v18 : ∀ j, j < d → upd (Z 18) d s j = Z 18 j := fun j hj => up_ne (by omega)
              have vd : upd (upd (Z 17) (2 * d) p) (2 * d + 1) q (2 * d + w) = if w = 0 then p else q := by
                rcases (show w = 0 ∨ w = 1 by omega) with rfl | rfl
                · rw [up_ne (by omega), Nat.add_zero, up_same, if_pos rfl]
                · rw [up_same, if_neg (by omega)]
              have vs : upd (Z 18) d s d = s := up_same
              obtain ⟨f1, f2, f3⟩ := d5 w hw
              rw [sm, sm, sm, vd, vs, sm_cong (f := fun j => if upd (upd (Z 17) (2 * d) p) (2 * d + 1) q (2 * j + w) = upd (Z 18) d s j then (1 : Int) else 0) (g := fun j => if Z 17 (2 * j + w) = Z 18 j then (1 : Int) else 0) (fun j hj => by rw [v17 j hj, v18 j hj]), sm_cong (f := fun j => (upd (upd (Z 17) (2 * d) p) (2 * d + 1) q (2 * j + w)).toInt) (g := fun j => (Z 17 (2 * j + w)).toInt) (fun j hj => by rw [v17 j hj]), sm_cong (f := fun j => (upd (upd (Z 17) (2 * d) p) (2 * d + 1) q (2 * j + w)).toInt * (upd (Z 18) d s j).toInt) (g := fun j => (Z 17 (2 * j + w)).toInt * (Z 18 j).toInt) (fun j hj => by rw [v17 j hj, v18 j hj])]
              unfold tv at f2 f3
              rw [← iI_add, ← iI_add, ← iI_add, ← f1, ← f2, ← f3, iI_t, ← iI_mul, iI_t, iI_t]
              have ei : ∀ (a b : Int32), iI (if a = b then (1 : Int) else 0) = if a = b then 1 else 0 := fun a b => by split <;> rfl
              rw [ei]
              rcases (show w = 0 ∨ w = 1 by omega) with rfl | rfl
              · exact ⟨rfl, rfl, rfl⟩
              · exact ⟨rfl, rfl, rfl⟩
          · exact hRT.eq2 (fun c h1 h2 => by rw [mm_w_ne (by omega), mm_w_ne (by omega), mm_w_ne (by omega)])
