/-! piece, spot, sky; where a piece is put -/
theorem ixp (i : Nat) (c : Nat) : iI (c : Int) + iI (i : Int) = iI ((c + i : Nat) : Int) := ix2 c i
theorem b01 {M : Mm} {c i : Nat} (h : tv M c i = 0 ∨ tv M c i = 1) : M c i = 0 ∨ M c i = 1 := by
  rw [tv_i M c i]
  rcases h with q | q
  · rw [q]; exact Or.inl rfl
  · rw [q]; exact Or.inr rfl
theorem st_piece {X R T P I J D Z : Mm} {G Y : Int64} (h : Rl X R T P I J D G Z Y) (p q : Int32) : ∃ (r : Int32), ffX7_piece p q X T P = some r ∧ ffX8_piece p q Z = some r := by
  obtain ⟨hg, hx, hd, n, k, st, ⟨hT, hRT, hM, hP, hS⟩, hI, hJ⟩ := h
  have hn := hT.1
  unfold ffX7_piece ffX8_piece
  rcases isPb hT hRT p X with ⟨i, hi, rfl, e1, e2⟩ | ⟨e1, e2⟩
  · obtain ⟨s1, s2, s4, s3⟩ := hS.2.2 i hi
    rw [Nat.zero_add] at s1 s2 s4 s3
    obtain ⟨z3, z4, z5⟩ := hRT.2.2.2.1 i hi
    rw [e1, e2, kv_b1_d, kv_b1_d, z_1, z_1]
    by_cases q0 : q = 0
    · rw [if_pos q0, if_pos q0, l2, ixp, ixN (by omega) (by omega), ixN (by omega) (by omega), iI_cn (j := i) (by omega), iI_cn (j := 2 + i) (by omega), s1]
      exact ⟨_, rfl, rfl⟩
    · rw [if_neg q0, if_neg q0]
      by_cases q1 : q = 1
      · rw [if_pos q1, if_pos q1, ixN (by omega) (by omega), ixN (by omega) (by omega), iI_cn (j := i) (by omega), z4]
        exact ⟨_, rfl, rfl⟩
      · rw [if_neg q1, if_neg q1]
        by_cases q2 : q = 2
        · rw [if_pos q2, if_pos q2, ixN (by omega) (by omega), ixN (by omega) (by omega), iI_cn (j := i) (by omega), z5]
          exact ⟨_, rfl, rfl⟩
        · rw [if_neg q2, if_neg q2]
          by_cases q3 : q = 3
          · rw [if_pos q3, if_pos q3, l8, ixp, ixN (by omega) (by omega), ixN (by omega) (by omega), iI_cn (j := i) (by omega), iI_cn (j := 8 + i) (by omega), s2]
            exact ⟨_, rfl, rfl⟩
          · rw [if_neg q3, if_neg q3]
            by_cases q4 : q = 4
            · rw [if_pos q4, if_pos q4, l14, ixp, ixN (by omega) (by omega), ixN (by omega) (by omega), iI_cn (j := i) (by omega), iI_cn (j := 14 + i) (by omega), s4]
              rcases b01 (hM.2.2.2.2 i hi).2.2.2.2.2 with e | e
              · rw [e]; exact ⟨_, rfl, rfl⟩
              · rw [e]; exact ⟨_, rfl, rfl⟩
            · rw [if_neg q4, if_neg q4]
              by_cases q5 : q = 5
              · rw [if_pos q5, if_pos q5, l20, ixp, ixN (by omega) (by omega), ixN (by omega) (by omega), iI_cn (j := i) (by omega), iI_cn (j := 20 + i) (by omega), s3]
                exact ⟨_, rfl, rfl⟩
              · rw [if_neg q5, if_neg q5]
                exact ⟨_, rfl, rfl⟩
  · rw [e1, e2, kv_b1_d, kv_b1_d, z_0, z_0]
    exact ⟨_, rfl, rfl⟩
theorem st_spot {X R T P I J D Z : Mm} {G Y : Int64} (h : Rl X R T P I J D G Z Y) (p q : Int32) : ∃ (r : Int32), ffX7_spot p q X T P = some r ∧ ffX8_spot p q Z = some r := by
  obtain ⟨hg, hx, hd, n, k, st, ⟨hT, hRT, hM, hP, hS⟩, hI, hJ⟩ := h
  have hn := hT.1
  have hk := hT.2.1
  unfold ffX7_spot ffX8_spot
  rcases isSb hT hRT p X with ⟨i, hi, rfl, e1, e2⟩ | ⟨e1, e2⟩
  · obtain ⟨z7, z8⟩ := hRT.2.2.2.2.1 i hi
    rw [e1, e2, kv_b1_d, kv_b1_d, z_1, z_1, ← wi_in]
    by_cases q0 : q = 0
    · subst q0
      rw [show ffX7_within 0 0 2 = some 1 from rfl, kv_b1_d, z_1, if_pos rfl, if_pos rfl, ixN (by omega) (by omega), ixN (by omega) (by omega), iI_cn (j := i) (by omega), z7]
      exact ⟨_, rfl, rfl⟩
    · rw [if_neg q0]
      by_cases q1 : q = 1
      · subst q1
        rw [show ffX7_within 1 0 2 = some 1 from rfl, kv_b1_d, z_1, if_pos rfl, if_neg (by decide), if_pos rfl, ixN (by omega) (by omega), ixN (by omega) (by omega), iI_cn (j := i) (by omega), z8]
        exact ⟨_, rfl, rfl⟩
      · rw [if_neg q1]
        by_cases q2 : q = 2
        · subst q2
          rw [show ffX7_within 2 0 2 = some 1 from rfl, kv_b1_d, z_1, if_pos rfl, if_neg (by decide), if_neg (by decide), pieceAt_i hT, show (0 : Int32) = iI ((0 : Nat) : Int) from rfl, pieceOn_i hT hRT hS (by omega), kv_b1_d]
          exact ⟨_, rfl, rfl⟩
        · rw [if_neg q2]
          rcases wi_b q 0 2 with e | ⟨e, w1, w2⟩
          · rw [e, kv_b1_d, z_0]
            exact ⟨_, rfl, rfl⟩
          · obtain ⟨z, z1, z2, rfl⟩ := rng w1 w2 (lo := 0) (hi := 2) (by decide) (by decide)
            rcases (show z = 0 ∨ z = 1 ∨ z = 2 by omega) with rfl | rfl | rfl
            · exact absurd rfl q0
            · exact absurd rfl q1
            · exact absurd rfl q2
  · rw [e1, e2, kv_b1_d, kv_b1_d, z_0, z_0]
    exact ⟨_, rfl, rfl⟩
theorem st_sky {X R T P I J D Z : Mm} {G Y : Int64} (h : Rl X R T P I J D G Z Y) (p : Int32) : ∃ (r : Int32), ffX7_sky p X T = some r ∧ ffX8_sky p Z = some r := by
  obtain ⟨hg, hx, hd, n, k, st, ⟨hT, hRT, hM, hP, hS⟩, hI, hJ⟩ := h
  unfold ffX7_sky ffX8_sky
  rw [← wi_in]
  rcases wi_b p 0 99 with e | ⟨e, w1, w2⟩
  · rw [e, kv_b1_d, kv_b1_d, z_0, z_0]
    exact ⟨_, rfl, rfl⟩
  · obtain ⟨z, z1, z2, rfl⟩ := rng w1 w2 (lo := 0) (hi := 99) (by decide) (by decide)
    rw [e, kv_b1_d, kv_b1_d, z_1, z_1, ffX6_skyIn_i hT z1 (by omega), ffX8_skyAt_i hT hRT z1 (by omega), kv_b1_d]
    exact ⟨_, rfl, rfl⟩
theorem sm_set {f g : Nat → Int} {i : Nat} (h : ∀ j, j ≠ i → g j = f j) : ∀ {n : Nat}, i < n → sm g n = sm f n - f i + g i
  | 0, hi => absurd hi (Nat.not_lt_zero i)
  | n + 1, hi => by
    rw [sm, sm]
    by_cases e : i = n
    · subst e
      rw [sm_cong (f := g) (g := f) (fun j hj => h j (by omega))]
      omega
    · rw [sm_set h (n := n) (by omega), h n (by omega)]
      omega
def mPl (P : Mm) (i : Nat) (v : Int) : Mm := mm_w P 3 (upd (P 3) i (iI v))
theorem mPl_3 {P : Mm} {i j : Nat} {v : Int} (h1 : -2147483648 ≤ v) (h2 : v < 2147483648) : tv (mPl P i v) 3 j = if j = i then v else tv P 3 j := by
  unfold tv mPl
  rw [mm_w_same]
  by_cases e : j = i
  · subst e; rw [up_same, if_pos rfl, iI_i h1 h2]
  · rw [up_ne e, if_neg e]
theorem mPl_ne {P : Mm} {i c j : Nat} {v : Int} (h : c ≠ 3) : mPl P i v c j = P c j := by
  unfold mPl
  rw [mm_w_ne h]
theorem RN.place {T P Z : Mm} {n k st i : Nat} {v : Int} (h : RN T P Z n k st) (hi : i < n) (hv : 0 ≤ v ∧ v < k ∨ v = 8 ∨ v = 9) (hinj : v < 8 → ∀ j, j < n → j ≠ i → tv P 3 j ≠ v) (hcnt : sm (fun j => if tv P 3 j = 8 then 1 else 0) n - (if tv P 3 i = 8 then 1 else 0) + (if v = 8 then 1 else 0) ≤ 3) : RN T (mPl P i v) (mm_w Z 11 (upd (Z 11) (20 + i) (iI v))) n k st := by
  obtain ⟨hT, hRT, hM, hP, hS⟩ := h
  have hn := hT.1
  have hk := hT.2.1
  have e3 : ∀ j, tv (mPl P i v) 3 j = if j = i then v else tv P 3 j := fun j => mPl_3 (by omega) (by omega)
  have ec : ∀ c j, c ≠ 3 → tv (mPl P i v) c j = tv P c j := fun c j hc => by unfold tv; rw [mPl_ne hc]
  refine ⟨hT, hRT.w 11 (by omega) _, ?_, ⟨?_, ?_⟩, ?_⟩
  · unfold OkM at *
    rw [ec 0 1 (by omega), ec 0 2 (by omega)]
    refine ⟨hM.1, hM.2.1, hM.2.2.1, hM.2.2.2.1, fun j hj => ?_⟩
    rw [ec 1 j (by omega), ec 2 j (by omega), ec 4 j (by omega), e3 j]
    have hm := hM.2.2.2.2 j hj
    by_cases e : j = i
    · rw [if_pos e]
      exact ⟨hm.1, hm.2.1, hm.2.2.1, hm.2.2.2.1, hv, hm.2.2.2.2.2⟩
    · rw [if_neg e]
      exact hm
  · intro a b ha hb hab he
    rw [e3 a, e3 b] at he
    rw [e3 a]
    by_cases ea : a = i
    · rw [if_pos ea] at he ⊢
      have eb : b ≠ i := by omega
      rw [if_neg eb] at he
      by_cases hv8 : v < 8
      · exact absurd he.symm (hinj hv8 b hb eb)
      · omega
    · rw [if_neg ea] at he ⊢
      by_cases eb : b = i
      · rw [if_pos eb] at he
        by_cases hv8 : v < 8
        · exact absurd he (hinj hv8 a ha ea)
        · omega
      · rw [if_neg eb] at he
        exact hP.1 a b ha hb hab he
  · rw [sm_set (f := fun j => if tv P 3 j = 8 then 1 else 0) (i := i) (fun j hj => by rw [e3 j, if_neg hj]) hi]
    show sm (fun j => if tv P 3 j = 8 then 1 else 0) n - (if tv P 3 i = 8 then 1 else 0) + (if tv (mPl P i v) 3 i = 8 then 1 else 0) ≤ 3
    rw [e3 i, if_pos rfl]
    exact hcnt
  · unfold RS
    rw [mm_w_same, up_ne (by omega), up_ne (by omega)]
    refine ⟨by rw [mPl_ne (by omega)]; exact hS.1, by rw [mPl_ne (by omega)]; exact hS.2.1, fun j hj => ?_⟩
    obtain ⟨s1, s2, s4, s3⟩ := hS.2.2 j hj
    rw [up_ne (by omega), up_ne (by omega), up_ne (by omega), mPl_ne (by omega), mPl_ne (by omega), mPl_ne (by omega)]
    refine ⟨s1, s2, s4, ?_⟩
    unfold mPl
    rw [mm_w_same]
    by_cases e : j = i
    · subst e
      rw [up_same, up_same]
    · rw [up_ne e, up_ne (by omega), s3]
theorem f11 {Z : Mm} {f : Nat → Int32} : ∀ c, c ≠ 11 → mm_w Z 11 f c = Z c := fun c hc => mm_w_ne hc
theorem u11 {Z : Mm} {x : Nat} {v : Int32} (hx : x < 26) : ∀ j, 26 ≤ j → mm_w Z 11 (upd (Z 11) x v) 11 j = Z 11 j := fun j hj => by rw [mm_w_same, up_ne (by omega)]
theorem st_hang {X R T P I J D Z : Mm} {G Y : Int64} (h : Rl X R T P I J D G Z Y) (p q : Int32) : ∃ (r : Int32) (P' Z' : Mm), ffX7_hang p q X T P = some (r, P') ∧ ffX8_hang p q Z = some (r, Z') ∧ Rl X R T P' I J D G Z' Y := by
  obtain ⟨hg, hx, hd, n, k, st, hN, hI, hJ⟩ := id h
  obtain ⟨hT, hRT, hM, hP, hS⟩ := id hN
  have hn := hT.1
  have hk := hT.2.1
  unfold ffX7_hang ffX8_hang
  rcases isPb hT hRT p X with ⟨i, hi, rfl, e1, e2⟩ | ⟨e1, e2⟩
  · rw [e1, e2, kv_b1_d, kv_b1_d, z_1, z_1]
    rcases isSb hT hRT q X with ⟨s, hs, rfl, e3, e4⟩ | ⟨e3, e4⟩
    · obtain ⟨z3, z4, z5⟩ := hRT.2.2.2.1 i hi
      obtain ⟨z7, z8⟩ := hRT.2.2.2.2.1 s hs
      have hbi := hT.2.2.2.2.2.2.1 i hi
      have hbs := hT.2.2.2.2.2.2.2.1 s hs
      rw [e3, e4, kv_b1_d, kv_b1_d, z_1, z_1, pieceAt_i hT, show ffX8_pieceOn (0 : Int32) (iI s) Z = some (pAt P (iI s) n 0) from pieceOn_i (o := 0) hT hRT hS (by omega) _, kv_b1_d, kv_b1_d]
      rcases pAt_s P (iI s) n 0 (by omega) with ⟨a1, a2⟩ | ⟨j, a1, a2, a3, a4⟩
      · unfold ffX6_fits
        rw [a1, if_pos rfl, if_pos rfl]
        simp only [ixN (show i < 6 by omega) (show ((6 : Nat) : Int) < 2147483648 by omega), ixN (show i < 12 by omega) (show ((12 : Nat) : Int) < 2147483648 by omega), ixN (show s < 5 by omega) (show ((5 : Nat) : Int) < 2147483648 by omega), ixN (show s < 10 by omega) (show ((10 : Nat) : Int) < 2147483648 by omega), iI_cn (j := i) (show (i : Int) < 2147483648 by omega), iI_cn (j := s) (show (s : Int) < 2147483648 by omega), z4, z7, tv_i T 4 s, tv_i T 2 i, kv_lt_d, l20, ixp]
        by_cases c : tv T 4 s < tv T 2 i
        · rw [if_pos (by rw [iI_lt (by omega) (by omega) (by omega) (by omega)]; exact c), kv_b1_d, z_0, if_neg (by rw [iI_le (by omega) (by omega) (by omega) (by omega)]; omega)]
          exact ⟨_, P, Z, rfl, rfl, h⟩
        · rw [if_neg (by rw [iI_lt (by omega) (by omega) (by omega) (by omega)]; exact c), kv_b1_d, z_1, if_pos (by rw [iI_le (by omega) (by omega) (by omega) (by omega)]; omega), ixN (by omega) (by omega), iI_cn (j := 20 + i) (by omega)]
          refine ⟨_, _, _, rfl, rfl, Rl.now hg hx hd hI hJ (hN.place hi (v := (s : Int)) (by omega) (fun _ j hj _ hne => ?_) ?_) f11 (u11 (by omega))⟩
          · exact a2 j (by omega) (by omega) (by rw [tv_i P 3 j, hne])
          · have := hP.2
            rw [if_neg (show ¬ (s : Int) = 8 by omega)]
            split <;> omega
      · have hne : ¬ pAt P (iI s) n 0 = -9 := by rw [a3]; exact ne9 (by omega)
        rw [if_neg hne, if_neg hne]
        exact ⟨_, P, Z, rfl, rfl, h⟩
    · rw [e3, e4, kv_b1_d, kv_b1_d, z_0, z_0]
      exact ⟨_, P, Z, rfl, rfl, h⟩
  · rw [e1, e2, kv_b1_d, kv_b1_d, z_0, z_0]
    exact ⟨_, P, Z, rfl, rfl, h⟩
theorem st_basket {X R T P I J D Z : Mm} {G Y : Int64} (h : Rl X R T P I J D G Z Y) (p : Int32) : ∃ (r : Int32) (P' Z' : Mm), ffX7_basket p X T P = some (r, P') ∧ ffX8_basket p Z = some (r, Z') ∧ Rl X R T P' I J D G Z' Y := by
  obtain ⟨hg, hx, hd, n, k, st, hN, hI, hJ⟩ := id h
  obtain ⟨hT, hRT, hM, hP, hS⟩ := id hN
  have hn := hT.1
  unfold ffX7_basket ffX8_basket
  rcases isPb hT hRT p X with ⟨i, hi, rfl, e1, e2⟩ | ⟨e1, e2⟩
  · obtain ⟨s1, s2, s4, s3⟩ := hS.2.2 i hi
    rw [Nat.zero_add] at s3
    rw [e1, e2, kv_b1_d, kv_b1_d, z_1, z_1]
    simp only [l20, ixp, ixN (show i < 6 by omega) (show ((6 : Nat) : Int) < 2147483648 by omega), ixN (show 20 + i < 104 by omega) (show ((104 : Nat) : Int) < 2147483648 by omega), iI_cn (j := i) (show (i : Int) < 2147483648 by omega), iI_cn (j := 20 + i) (show ((20 + i : Nat) : Int) < 2147483648 by omega), s3, kv_lt_d]
    by_cases c : P 3 i = (9 : Int32)
    · rw [if_pos c, if_pos c]
      exact ⟨_, P, Z, rfl, rfl, h⟩
    · rw [if_neg c, if_neg c]
      refine ⟨_, _, _, rfl, rfl, Rl.now hg hx hd hI hJ (hN.place hi (v := 9) (by omega) (fun q => by omega) ?_) f11 (u11 (by omega))⟩
      have := hP.2
      rw [if_neg (show ¬ (9 : Int) = 8 by omega)]
      split <;> omega
  · rw [e1, e2, kv_b1_d, kv_b1_d, z_0, z_0]
    exact ⟨_, P, Z, rfl, rfl, h⟩
