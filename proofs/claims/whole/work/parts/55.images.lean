/-! keep, back -/
theorem st_keep {X R T P I J D Z : Mm} {G Y : Int64} (h : Rl X R T P I J D G Z Y) (p : Int32) : ∃ (r : Int32) (X' I' J' Z' : Mm), ffX7_keep p X T P I J = some (r, X', I', J') ∧ ffX8_keep p Z = some (r, Z') ∧ Rl X' R T P I' J' D G Z' Y := by
  obtain ⟨hg, hx, hd, n, k, st, ⟨hT, hRT, hM, hP, hS⟩, hI, hJ⟩ := id h
  have hn := hT.1
  unfold ffX7_keep ffX8_keep
  rw [← wi_in]
  rcases wi_b p 0 1 with e | ⟨e, w1, w2⟩
  · rw [e, kv_b1_d, kv_b1_d, z_0, z_0]
    exact ⟨_, X, I, J, Z, rfl, rfl, h⟩
  · obtain ⟨z, z1, z2, rfl⟩ := rng w1 w2 (lo := 0) (hi := 1) (by decide) (by decide)
    rw [e, kv_b1_d, kv_b1_d, z_1, z_1]
    rcases (show z = 0 ∨ z = 1 by omega) with rfl | rfl
    · have c2 : ffX8_copy (0 : Int32) (26 * (2 + iI 0)) Z = some (mm_w Z 11 (gC Z 0 52 26)) := copym_i (a := 0) (b := 52) (by omega) (by omega) (by omega)
      rw [c2, kv_b1_d, if_pos (show iI 0 = (0 : Int32) from rfl), copy_i hT (fun i hi => (hM.2.2.2.2 i hi).2.2.2.2.2), kv_b1_d]
      refine ⟨P 0 1, mm_w X 2 (upd (X 2) 0 1), mC I P n, J, mm_w (mm_w Z 11 (gC Z 0 52 26)) 12 (upd (mm_w Z 11 (gC Z 0 52 26) 12) 0 1), rfl, ?_, hg, hx.eq (by rw [mm_w_ne (by omega), mm_w_ne (by omega)]) (by rw [mm_w_ne (by omega), mm_w_ne (by omega)]), hd.eq (by rw [mm_w_ne (by omega), mm_w_ne (by omega)]) (by rw [mm_w_ne (by omega), mm_w_ne (by omega)]) (by rw [mm_w_ne (by omega), mm_w_ne (by omega)]), n, k, st, ⟨hT, hRT.eq (fun c hc => by rw [mm_w_ne (by omega), mm_w_ne (by omega)]), hM, hP, hS.eq hn (fun j h1 h2 => by rw [mm_w_ne (by omega), mm_w_same]; unfold gC; rw [if_neg (by omega)])⟩, ?_, ?_⟩
      · have e : (mm_w (mm_w Z 11 (gC Z 0 52 26)) 12 (upd (mm_w Z 11 (gC Z 0 52 26) 12) 0 1)) 11 0 = P 0 1 := by
          rw [mm_w_ne (by omega), mm_w_same]
          unfold gC
          rw [if_neg (by omega)]
          exact hS.1
        have e2 : (kv_ix (iI 0) 2 (kv_lt (mm_w (mm_w Z 11 (gC Z 0 52 26)) 12 (upd (mm_w Z 11 (gC Z 0 52 26) 12) (iI 0).toNatClampNeg (vp_nar .boolean 1))) fun mZ3 => kv_ix 0 104 (some (mZ3 11 (0 : Int32).toNatClampNeg, mZ3)))) = some ((mm_w (mm_w Z 11 (gC Z 0 52 26)) 12 (upd (mm_w Z 11 (gC Z 0 52 26) 12) 0 1)) 11 0, mm_w (mm_w Z 11 (gC Z 0 52 26)) 12 (upd (mm_w Z 11 (gC Z 0 52 26) 12) 0 1)) := rfl
        rw [e2, e]
      · exact Or.inr ⟨by rw [mm_w_same, up_same], by rw [mm_w_same, up_same], hM.copy, hP.copy, RS.eq hn (RS.copy (A := I) (b := 52) hn hS) (fun j _ _ => by rw [mm_w_ne (by omega)])⟩
      · exact (by
        rcases hJ with ⟨a1, a2⟩ | ⟨a1, a2, a3, a4, a5⟩
        · exact Or.inl ⟨by rw [mm_w_same, up_ne (by omega)]; exact a1, by rw [mm_w_same, up_ne (by omega), mm_w_ne (by omega)]; exact a2⟩
        · exact Or.inr ⟨by rw [mm_w_same, up_ne (by omega)]; exact a1, by rw [mm_w_same, up_ne (by omega), mm_w_ne (by omega)]; exact a2, a3, a4, a5.eq hn (fun j h1 h2 => by rw [mm_w_ne (by omega), mm_w_same]; unfold gC; rw [if_neg (by omega)])⟩)
    · have c2 : ffX8_copy (0 : Int32) (26 * (2 + iI 1)) Z = some (mm_w Z 11 (gC Z 0 78 26)) := copym_i (a := 0) (b := 78) (by omega) (by omega) (by omega)
      rw [c2, kv_b1_d, if_neg (show ¬ iI 1 = (0 : Int32) by decide), if_pos (show iI 1 = (1 : Int32) from rfl), copy_i hT (fun i hi => (hM.2.2.2.2 i hi).2.2.2.2.2), kv_b1_d]
      refine ⟨P 0 1, mm_w X 2 (upd (X 2) 1 1), I, mC J P n, mm_w (mm_w Z 11 (gC Z 0 78 26)) 12 (upd (mm_w Z 11 (gC Z 0 78 26) 12) 1 1), rfl, ?_, hg, hx.eq (by rw [mm_w_ne (by omega), mm_w_ne (by omega)]) (by rw [mm_w_ne (by omega), mm_w_ne (by omega)]), hd.eq (by rw [mm_w_ne (by omega), mm_w_ne (by omega)]) (by rw [mm_w_ne (by omega), mm_w_ne (by omega)]) (by rw [mm_w_ne (by omega), mm_w_ne (by omega)]), n, k, st, ⟨hT, hRT.eq (fun c hc => by rw [mm_w_ne (by omega), mm_w_ne (by omega)]), hM, hP, hS.eq hn (fun j h1 h2 => by rw [mm_w_ne (by omega), mm_w_same]; unfold gC; rw [if_neg (by omega)])⟩, ?_, ?_⟩
      · have e : (mm_w (mm_w Z 11 (gC Z 0 78 26)) 12 (upd (mm_w Z 11 (gC Z 0 78 26) 12) 1 1)) 11 0 = P 0 1 := by
          rw [mm_w_ne (by omega), mm_w_same]
          unfold gC
          rw [if_neg (by omega)]
          exact hS.1
        have e2 : (kv_ix (iI 1) 2 (kv_lt (mm_w (mm_w Z 11 (gC Z 0 78 26)) 12 (upd (mm_w Z 11 (gC Z 0 78 26) 12) (iI 1).toNatClampNeg (vp_nar .boolean 1))) fun mZ3 => kv_ix 0 104 (some (mZ3 11 (0 : Int32).toNatClampNeg, mZ3)))) = some ((mm_w (mm_w Z 11 (gC Z 0 78 26)) 12 (upd (mm_w Z 11 (gC Z 0 78 26) 12) 1 1)) 11 0, mm_w (mm_w Z 11 (gC Z 0 78 26)) 12 (upd (mm_w Z 11 (gC Z 0 78 26) 12) 1 1)) := rfl
        rw [e2, e]
      · exact (by
        rcases hI with ⟨a1, a2⟩ | ⟨a1, a2, a3, a4, a5⟩
        · exact Or.inl ⟨by rw [mm_w_same, up_ne (by omega)]; exact a1, by rw [mm_w_same, up_ne (by omega), mm_w_ne (by omega)]; exact a2⟩
        · exact Or.inr ⟨by rw [mm_w_same, up_ne (by omega)]; exact a1, by rw [mm_w_same, up_ne (by omega), mm_w_ne (by omega)]; exact a2, a3, a4, a5.eq hn (fun j h1 h2 => by rw [mm_w_ne (by omega), mm_w_same]; unfold gC; rw [if_neg (by omega)])⟩)
      · exact Or.inr ⟨by rw [mm_w_same, up_same], by rw [mm_w_same, up_same], hM.copy, hP.copy, RS.eq hn (RS.copy (A := J) (b := 78) hn hS) (fun j _ _ => by rw [mm_w_ne (by omega)])⟩
theorem st_back {X R T P I J D Z : Mm} {G Y : Int64} (h : Rl X R T P I J D G Z Y) (p : Int32) : ∃ (r : Int32) (P' Z' : Mm), ffX7_back p X T P I J = some (r, P') ∧ ffX8_back p Z = some (r, Z') ∧ Rl X R T P' I J D G Z' Y := by
  obtain ⟨hg, hx, hd, n, k, st, ⟨hT, hRT, hM, hP, hS⟩, hI, hJ⟩ := id h
  have hn := hT.1
  have hI0 := hI
  have hJ0 := hJ
  unfold ffX7_back ffX8_back
  rw [← wi_in]
  rcases wi_b p 0 1 with e | ⟨e, w1, w2⟩
  · rw [e, kv_b1_d, kv_b1_d, z_0, z_0]
    exact ⟨_, P, Z, rfl, rfl, h⟩
  · obtain ⟨z, z1, z2, rfl⟩ := rng w1 w2 (lo := 0) (hi := 1) (by decide) (by decide)
    rw [e, kv_b1_d, kv_b1_d, z_1, z_1]
    rcases (show z = 0 ∨ z = 1 by omega) with rfl | rfl
    · have ei : (iI 0).toNatClampNeg = 0 := rfl
      rw [iI_ix (z := 0) (by omega) (by omega) (by omega), iI_ix (z := 0) (by omega) (by omega) (by omega), ei]
      rcases hI with ⟨a1, a2⟩ | ⟨a1, a2, a3, a4, a5⟩
      · rw [a1, a2, z_0, z_0]
        exact ⟨_, P, Z, rfl, rfl, h⟩
      · have c2 : ffX8_copy (26 * (2 + iI 0)) (0 : Int32) Z = some (mm_w Z 11 (gC Z 52 0 26)) := copym_i (a := 52) (b := 0) (by omega) (by omega) (by omega)
        rw [a1, a2, z_1, z_1, c2, kv_b1_d, if_pos (show iI 0 = (0 : Int32) from rfl), copy_i hT (fun i hi => (a3.2.2.2.2 i hi).2.2.2.2.2), kv_b1_d, ix0 (by omega) (by omega), cl0]
        have hS2 : RS (mC P I n) (mm_w Z 11 (gC Z 52 0 26)) 0 n := RS.copy hn a5
        rw [hS2.1]
        refine ⟨_, _, _, rfl, rfl, Rl.now hg hx hd hI0 hJ0 ⟨hT, hRT.w 11 (by omega) _, a3.copy, a4.copy, hS2⟩ f11 (fun j hj => ?_)⟩
        rw [mm_w_same]
        unfold gC
        rw [if_neg (by omega)]
    · have ei : (iI 1).toNatClampNeg = 1 := rfl
      rw [iI_ix (z := 1) (by omega) (by omega) (by omega), iI_ix (z := 1) (by omega) (by omega) (by omega), ei]
      rcases hJ with ⟨a1, a2⟩ | ⟨a1, a2, a3, a4, a5⟩
      · rw [a1, a2, z_0, z_0]
        exact ⟨_, P, Z, rfl, rfl, h⟩
      · have c2 : ffX8_copy (26 * (2 + iI 1)) (0 : Int32) Z = some (mm_w Z 11 (gC Z 78 0 26)) := copym_i (a := 78) (b := 0) (by omega) (by omega) (by omega)
        rw [a1, a2, z_1, z_1, c2, kv_b1_d, if_neg (show ¬ iI 1 = (0 : Int32) by decide), if_pos (show iI 1 = (1 : Int32) from rfl), copy_i hT (fun i hi => (a3.2.2.2.2 i hi).2.2.2.2.2), kv_b1_d, ix0 (by omega) (by omega), cl0]
        have hS2 : RS (mC P J n) (mm_w Z 11 (gC Z 78 0 26)) 0 n := RS.copy hn a5
        rw [hS2.1]
        refine ⟨_, _, _, rfl, rfl, Rl.now hg hx hd hI0 hJ0 ⟨hT, hRT.w 11 (by omega) _, a3.copy, a4.copy, hS2⟩ f11 (fun j hj => ?_)⟩
        rw [mm_w_same]
        unfold gC
        rw [if_neg (by omega)]
