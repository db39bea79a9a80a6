/-! go, and copies of stands -/
theorem go_sim {T : Mm} {n k st N : Nat} (hN : N ≤ 99) (Kc Km : Int32 → Int32 → Mm → Option (Int32 × Mm)) (hKc : ∀ a b M, Kc a b M = some (b, M)) (hKm : ∀ a b M, Km a b M = some (b, M)) : ∀ (d t fu fm : Nat) (acc : Int32) (P Z : Mm), t + d = N → d < fu → d < fm → RN T P Z n k st → ∃ (r : Int32) (P' Z' : Mm), ffX7_go_L31 (iI N) T Kc fu (iI t) acc P = some (r, P') ∧ ffX8_go_L30 (iI N) Km fm (iI t) acc Z = some (r, Z') ∧ RN T P' Z' n k st ∧ (∀ c, c ≠ 11 → Z' c = Z c) ∧ ∀ j, 26 ≤ j → Z' 11 j = Z 11 j := by
  intro d
  induction d with
  | zero =>
    intro t fu fm acc P Z ht hf hm hR
    obtain ⟨fu, rfl⟩ : ∃ q, fu = q + 1 := ⟨fu - 1, by omega⟩
    obtain ⟨fm, rfl⟩ : ∃ q, fm = q + 1 := ⟨fm - 1, by omega⟩
    have hc : iI (N : Int) ≤ iI (t : Int) := by rw [iI_le (by omega) (by omega) (by omega) (by omega)]; omega
    rw [ffX7_go_L31_s, ffX8_go_L30_s, if_pos hc, if_pos hc, hKc, hKm]
    exact ⟨acc, P, Z, rfl, rfl, hR, fun _ _ => rfl, fun _ _ => rfl⟩
  | succ d ih =>
    intro t fu fm acc P Z ht hf hm hR
    obtain ⟨fu, rfl⟩ : ∃ q, fu = q + 1 := ⟨fu - 1, by omega⟩
    obtain ⟨fm, rfl⟩ : ∃ q, fm = q + 1 := ⟨fm - 1, by omega⟩
    have hc : ¬ iI (N : Int) ≤ iI (t : Int) := by rw [iI_le (by omega) (by omega) (by omega) (by omega)]; omega
    obtain ⟨hT, hRT, hM, hP, hS⟩ := id hR
    have hn := hT.1
    have h0 := hM.1
    have h1 := hM.2.1
    rw [ffX7_go_L31_s, ffX8_go_L30_s, if_neg hc, if_neg hc, ix0 (by omega) (by omega), cl0, hS.1, tv_i P 0 1]
    by_cases q : 99 ≤ tv P 0 1
    · have hq : (99 : Int32) ≤ iI (tv P 0 1) := by rw [show (99 : Int32) = iI 99 from rfl, iI_le (by omega) (by omega) (by omega) (by omega)]; exact q
      rw [if_pos hq, if_pos hq, hKc, hKm]
      exact ⟨acc, P, Z, rfl, rfl, hR, fun _ _ => rfl, fun _ _ => rfl⟩
    · have hq : ¬ (99 : Int32) ≤ iI (tv P 0 1) := by rw [show (99 : Int32) = iI 99 from rfl, iI_le (by omega) (by omega) (by omega) (by omega)]; exact q
      have hM98 : OkM T P n k 98 := ⟨h0, by omega, hM.2.2⟩
      rw [if_neg hq, if_neg hq, pass_i hT hM (by omega), kv_b2_d, kv_lt_d, kv_lt_d, show (0 : Int32) = iI ((0 : Nat) : Int) from rfl, goStep_i hT hRT hM (by omega) hS (by omega), kv_b2_d, kv_lt_d, kv_lt_d, l1, ix2]
      have hR2 : RN T (mN T P n st) (mm_w Z 11 (gF T P Z 0 n st)) n k st := ⟨hT, hRT.w 11 (by omega) _, (hM98.step hT (by omega)).mono (by omega), hP.step, RS.step hn hS⟩
      obtain ⟨r, P', Z', e1, e2, e3, e4, e5⟩ := ih (t + 1) fu fm (acc + iI (nLost T P n st)) _ _ (by omega) (by omega) (by omega) hR2
      refine ⟨r, P', Z', e1, e2, e3, fun c hc => (e4 c hc).trans (mm_w_ne hc), fun j hj => ?_⟩
      rw [e5 j hj, mm_w_same, gF_out hn (by omega)]
theorem st_go {X R T P I J D Z : Mm} {G Y : Int64} (h : Rl X R T P I J D G Z Y) (p : Int32) : ∃ (r : Int32) (P' Z' : Mm), ffX7_go p X T P = some (r, P') ∧ ffX8_go p Z = some (r, Z') ∧ Rl X R T P' I J D G Z' Y := by
  obtain ⟨hg, hx, hd, n, k, st, hN, hI, hJ⟩ := id h
  have fu := fu_big
  unfold ffX7_go ffX8_go
  rw [← wi_in]
  rcases wi_b p 1 99 with e | ⟨e, l1', l2'⟩
  · rw [e, kv_b1_d, kv_b1_d, z_0, z_0]
    exact ⟨_, P, Z, rfl, rfl, h⟩
  · obtain ⟨z, z1, z2, rfl⟩ := rng l1' l2' (lo := 1) (hi := 99) (by decide) (by decide)
    obtain ⟨N, rfl⟩ : ∃ N : Nat, z = (N : Int) := ⟨z.toNat, by omega⟩
    obtain ⟨hT, hRT, hM, hP, hS⟩ := id hN
    have h0 := hM.1
    have h1 := hM.2.1
    rw [e, kv_b1_d, kv_b1_d, z_1, z_1, ix0 (by omega) (by omega), cl0, hS.1, tv_i P 0 1]
    by_cases q : tv P 0 1 = 99
    · rw [if_neg (by rw [q]; decide), if_pos (by rw [q]; rfl)]
      exact ⟨_, P, Z, rfl, rfl, h⟩
    · rw [if_pos (by rw [show (99 : Int32) = iI 99 from rfl, iI_lt (by omega) (by omega) (by omega) (by omega)]; omega), if_neg (by rw [show (99 : Int32) = iI 99 from rfl, iI_eq (by omega) (by omega) (by omega) (by omega)]; exact q)]
      obtain ⟨r, P', Z', e1, e2, e3, e4, e5⟩ := go_sim (N := N) (by omega) (fun (x9 : Int32) (x10 : Int32) (mP11 : Mm) => some (x10, mP11)) (fun (x9 : Int32) (x10 : Int32) (mZ11 : Mm) => some (x10, mZ11)) (fun _ _ _ => rfl) (fun _ _ _ => rfl) N 0 kv_FU kv_FU 0 P Z (by omega) (by omega) (by omega) hN
      exact ⟨r, P', Z', e1, e2, Rl.now hg hx hd hI hJ e3 e4 e5⟩
/-- the class's copy of a stand -/
def mC (A P : Mm) (lim : Nat) : Mm := fun c j => if c = 0 ∧ (j = 1 ∨ j = 2) then P c j else if j < lim ∧ 1 ≤ c ∧ c ≤ 4 then P c j else A c j
theorem mC_in {A P : Mm} {lim c j : Nat} (h : j < lim) (h1 : 1 ≤ c) (h2 : c ≤ 4) : mC A P lim c j = P c j := by
  unfold mC
  rw [if_neg (by omega), if_pos ⟨h, h1, h2⟩]
theorem mC_s {A P : Mm} {lim j : Nat} (h : j = 1 ∨ j = 2) : mC A P lim 0 j = P 0 j := by
  unfold mC
  rw [if_pos ⟨rfl, h⟩]
theorem nar_b {x : Int32} (h : x = 0 ∨ x = 1) : vp_nar .boolean x = x := by
  rcases h with rfl | rfl <;> rfl
theorem mC_up {A P : Mm} {i : Nat} : mm_w (mm_w (mm_w (mm_w (mC A P i) 1 (upd (mC A P i 1) i (P 1 i))) 2 (upd (mC A P i 2) i (P 2 i))) 3 (upd (mC A P i 3) i (P 3 i))) 4 (upd (mC A P i 4) i (P 4 i)) = mC A P (i + 1) := by
  funext c j
  by_cases hc : 1 ≤ c ∧ c ≤ 4
  · have hu : mm_w (mm_w (mm_w (mm_w (mC A P i) 1 (upd (mC A P i 1) i (P 1 i))) 2 (upd (mC A P i 2) i (P 2 i))) 3 (upd (mC A P i 3) i (P 3 i))) 4 (upd (mC A P i 4) i (P 4 i)) c = upd (mC A P i c) i (P c i) := by
      rcases (show c = 1 ∨ c = 2 ∨ c = 3 ∨ c = 4 by omega) with rfl | rfl | rfl | rfl <;> rfl
    rw [hu]
    by_cases hj : j = i
    · subst hj
      rw [up_same, mC_in (by omega) hc.1 hc.2]
    · rw [up_ne hj]
      unfold mC
      simp only [show (j < i + 1) = (j < i) from propext ⟨fun h => by omega, fun h => by omega⟩]
  · rw [mm_w_ne (by omega), mm_w_ne (by omega), mm_w_ne (by omega), mm_w_ne (by omega)]
    unfold mC
    by_cases q : c = 0 ∧ (j = 1 ∨ j = 2)
    · rw [if_pos q, if_pos q]
    · rw [if_neg q, if_neg q, if_neg (by omega), if_neg (by omega)]
theorem copy_i {T A P : Mm} {n k st : Nat} (hT : OkT T n k st) (hb : ∀ i, i < n → tv P 4 i = 0 ∨ tv P 4 i = 1) : ffX3_copy T A P = some (mC A P n) := by
  have hn := hT.1
  have fu := fu_big
  have hb2 : ∀ i, i < n → vp_nar .boolean (P 4 i) = P 4 i := fun i hi => nar_b (by
    rw [tv_i P 4 i]
    rcases hb i hi with q | q
    · rw [q]; exact Or.inl rfl
    · rw [q]; exact Or.inr rfl)
  have loop : ∀ (d i fu : Nat), i + d = n → d < fu → ffX3_copy_L18 T P (fun (x16 : Int32) (mM17 : Mm) => some (mM17)) fu (iI i) (mC A P i) = some (mC A P n) := by
    intro d
    induction d with
    | zero =>
      intro i fu hi hf
      obtain ⟨fu, rfl⟩ : ∃ q, fu = q + 1 := ⟨fu - 1, by omega⟩
      have hin : i = n := by omega
      subst hin
      rw [ffX3_copy_L18_s, hT.2.2.2.1, if_pos (by rw [iI_le (by omega) (by omega) (by omega) (by omega)]; omega)]
    | succ d ih =>
      intro i fu hi hf
      obtain ⟨fu, rfl⟩ : ∃ q, fu = q + 1 := ⟨fu - 1, by omega⟩
      rw [ffX3_copy_L18_s, hT.2.2.2.1, if_neg (by rw [iI_le (by omega) (by omega) (by omega) (by omega)]; omega)]
      simp only [ixN (show i < 6 by omega) (show ((6 : Nat) : Int) < 2147483648 by omega), kv_lt_d, iI_cn (j := i) (by omega)]
      rw [hb2 i (by omega), l1, ix2]
      have e2 : (mm_w (mC A P i) 1 (upd (mC A P i 1) i (P 1 i))) 2 = mC A P i 2 := rfl
      have e3 : (mm_w (mm_w (mC A P i) 1 (upd (mC A P i 1) i (P 1 i))) 2 (upd (mC A P i 2) i (P 2 i))) 3 = mC A P i 3 := rfl
      have e4 : (mm_w (mm_w (mm_w (mC A P i) 1 (upd (mC A P i 1) i (P 1 i))) 2 (upd (mC A P i 2) i (P 2 i))) 3 (upd (mC A P i 3) i (P 3 i))) 4 = mC A P i 4 := rfl
      rw [e2, e3, e4, mC_up]
      exact ih (i + 1) fu (by omega) (by omega)
  unfold ffX3_copy
  simp only [kv_lt_d]
  have e0 : mm_w (mm_w A 0 (upd (A 0) 1 (P 0 1))) 0 (upd (mm_w A 0 (upd (A 0) 1 (P 0 1)) 0) 2 (P 0 2)) = mC A P 0 := by
    funext c j
    unfold mC
    by_cases hc : c = 0
    · subst hc
      rw [mm_w_same, mm_w_same]
      by_cases j2 : j = 2
      · subst j2; rw [up_same, if_pos (by omega)]
      · rw [up_ne j2]
        by_cases j1 : j = 1
        · subst j1; rw [up_same, if_pos (by omega)]
        · rw [up_ne j1, if_neg (by omega), if_neg (by omega)]
    · rw [mm_w_ne hc, mm_w_ne hc, if_neg (by omega), if_neg (by omega)]
  rw [e0]
  exact loop n 0 kv_FU (by omega) (by omega)
