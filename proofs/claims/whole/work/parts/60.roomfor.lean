/-! roomFor -/
theorem sm_0 : ∀ {n : Nat} {f : Nat → Int}, (∀ j, j < n → f j = 0) → sm f n = 0
  | 0, _, _ => rfl
  | n + 1, f, h => by rw [sm, sm_0 (fun j hj => h j (by omega)), h n (by omega)]; rfl
theorem sm_1 {i : Nat} : ∀ {n : Nat} {f : Nat → Int}, i < n → (∀ j, j < n → j ≠ i → f j = 0) → sm f n = f i
  | 0, _, h, _ => absurd h (by omega)
  | n + 1, f, hi, h => by
    rw [sm]
    by_cases q : i = n
    · subst q
      rw [sm_0 (fun j hj => h j (by omega) (by omega))]
      omega
    · rw [sm_1 (by omega) (fun j hj hne => h j (by omega) hne), h n (by omega) (by omega)]
      omega
theorem sm_add (f g : Nat → Int) : ∀ (n : Nat), sm (fun i => f i + g i) n = sm f n + sm g n
  | 0 => rfl
  | n + 1 => by rw [sm, sm, sm, sm_add f g n]; omega
theorem sm_swap (f : Nat → Nat → Int) (n : Nat) : ∀ (k : Nat), sm (fun s => sm (fun i => f s i) n) k = sm (fun i => sm (fun s => f s i) k) n
  | 0 => (sm_0 (fun _ _ => rfl)).symm
  | k + 1 => by
    rw [sm, sm_swap f n k, ← sm_add]
    exact sm_cong (fun i _ => rfl)
/-- wet pieces at spot s -/
def wS (A : Mm) (n s : Nat) : Int := sm (fun i => if tv A 3 i = (s : Int) ∧ 0 < tv A 1 i then 1 else 0) n
theorem wS_sum {T A : Mm} {n k : Nat} {mx : Int} (hk : k ≤ 5) (hM : OkM T A n k mx) : sm (wS A n) k = sm (fun j => if tv A 3 j < 8 ∧ 0 < tv A 1 j then 1 else 0) n := by
  have e : sm (wS A n) k = sm (fun s => sm (fun i => if tv A 3 i = (s : Int) ∧ 0 < tv A 1 i then 1 else 0) n) k := rfl
  rw [e, sm_swap (fun s i => if tv A 3 i = (s : Int) ∧ 0 < tv A 1 i then 1 else 0)]
  refine sm_cong (fun i hi => ?_)
  have hm := (hM.2.2.2.2 i hi).2.2.2.2.1
  by_cases q : tv A 3 i < 8 ∧ 0 < tv A 1 i
  · rw [if_pos q]
    rw [sm_1 (i := (tv A 3 i).toNat) (by omega) (fun j hj hne => if_neg (by omega))]
    exact if_pos (by omega)
  · rw [if_neg q]
    exact sm_0 (fun s hs => if_neg (by omega))
theorem wS_none {A : Mm} {n s : Nat} (hs : s < 8) (h : ∀ j, j < n → A 3 j ≠ iI s) : wS A n s = 0 := sm_0 (fun j hj => if_neg (fun q => h j hj (by rw [tv_i A 3 j, q.1])))
theorem wS_some {A : Mm} {n s j : Nat} (hP : OkP A n) (hs : s < 8) (hj : j < n) (h : A 3 j = iI s) : wS A n s = if 0 < tv A 1 j then 1 else 0 := by
  have e : tv A 3 j = (s : Int) := by
    have e := tv_i A 3 j
    rw [h] at e
    unfold tv
    rw [h]
    exact iI_i (by omega) (by omega)
  unfold wS
  rw [sm_1 (i := j) hj (fun i hi hne => if_neg (fun q => by
    have := hP.1 i j hi hj hne (by omega)
    omega))]
  by_cases q : 0 < tv A 1 j
  · rw [if_pos ⟨e, q⟩, if_pos q]
  · rw [if_neg (fun x => q x.2), if_neg q]
theorem free_l {T A Z : Mm} {n k st : Nat} {mx : Int} (h : RF T A Z n k st mx) (K : Int32 → Int32 → Option (Int32 × Mm)) : ∀ (d s fm : Nat), s + d = k → d < fm → ffX8_roomFor_L31 Z K fm (iI s) (iI ((s : Int) - sm (wS A n) s)) = K (iI k) (iI ((k : Int) - sm (wS A n) k)) := by
  obtain ⟨hT, hRT, hM, hP, hS⟩ := id h
  have hn := hT.1
  have hk := hT.2.1
  intro d
  induction d with
  | zero =>
    intro s fm hs hm
    obtain ⟨fm, rfl⟩ : ∃ q, fm = q + 1 := ⟨fm - 1, by omega⟩
    have e : s = k := by omega
    subst e
    rw [ffX8_roomFor_L31_s, ix0 (by omega) (by omega), cl0, hRT.2.1, if_pos (by rw [iI_le (by omega) (by omega) (by omega) (by omega)]; omega)]
  | succ d ih =>
    intro s fm hs hm
    obtain ⟨fm, rfl⟩ : ∃ q, fm = q + 1 := ⟨fm - 1, by omega⟩
    have next := ih (s + 1) fm (by omega) (by omega)
    rw [sm] at next
    have hon : ffX8_pieceOn (26 : Int32) (iI s) Z = some (pAt A (iI s) n 0) := pieceOn_i (o := 26) hT hRT hS (by omega) (iI s)
    rw [ffX8_roomFor_L31_s, ix0 (by omega) (by omega), cl0, hRT.2.1, if_neg (by rw [iI_le (by omega) (by omega) (by omega) (by omega)]; omega), hon]
    simp only [kv_b1_d, kv_lt_d]
    rw [l1, ix2, show iI ((1 : Nat) : Int) = iI 1 from rfl, iI_add, add_z]
    rcases pAt_s A (iI s) n 0 (by omega) with ⟨a1, a2⟩ | ⟨j, a1, a2, a3, a4⟩
    · have w0 : wS A n s = 0 := wS_none (by omega) (fun j hj => a2 j (by omega) (by omega))
      rw [if_pos a1, ← next, w0]
      congr 2
      omega
    · have hj : j < n := by omega
      have hmj := hM.2.2.2.2 j hj
      have hb := hT.2.2.2.2.2.2.1 j hj
      have w1 := wS_some hP (by omega) hj a4
      rw [a3, if_neg (ne9 (by omega)), l28, ix2, ixN (by omega) (by omega), iI_cn (j := 28 + j) (by omega), show 28 + j = 26 + 2 + j by omega, (hS.2.2 j hj).1, tv_i A 1 j]
      by_cases q : 0 < tv A 1 j
      · rw [if_pos q] at w1
        rw [if_neg (by rw [iI_0, iI_eq (by omega) (by omega) (by omega) (by omega)]; omega), ← next, w1]
        congr 2
        omega
      · rw [if_neg q] at w1
        rw [if_pos (by rw [iI_0, iI_eq (by omega) (by omega) (by omega) (by omega)]; omega), ← next, w1]
        congr 2
        omega
theorem free_i {T A Z : Mm} {n k st : Nat} {mx : Int} (h : RF T A Z n k st mx) (K : Int32 → Int32 → Option (Int32 × Mm)) : ffX8_roomFor_L31 Z K kv_FU 0 0 = K (iI k) (iI ((k : Int) - sm (fun j => if tv A 3 j < 8 ∧ 0 < tv A 1 j then 1 else 0) n)) := by
  have fu := fu_big
  have hk := h.1.2.1
  rw [← wS_sum hk h.2.2.1]
  generalize kv_FU = F at fu ⊢
  exact free_l h K k 0 F (by omega) (by omega)
theorem room_sim {T : Mm} {n k st : Nat} {p : Int32} (Kc Km : Int32 → Mm → Option (Int32 × Mm)) (hKc : ∀ a M, Kc a M = some ((-9), M)) (hKm : ∀ a M, Km a M = some ((-9), M)) : ∀ (d t fu fm : Nat) (A Z : Mm), t + d = 100 → d < fu → d < fm → RF T A Z n k st (99 + t) → ∃ (r : Int32) (A' Z' : Mm), ffX7_roomFor_L24 p T Kc fu (iI t) A = some (r, A') ∧ ffX8_roomFor_L20 p Km fm (iI t) Z = some (r, Z') ∧ Fr Z Z' := by
  intro d
  induction d with
  | zero =>
    intro t fu fm A Z ht hf hm h
    obtain ⟨fu, rfl⟩ : ∃ q, fu = q + 1 := ⟨fu - 1, by omega⟩
    obtain ⟨fm, rfl⟩ : ∃ q, fm = q + 1 := ⟨fm - 1, by omega⟩
    have hc : (99 : Int32) < iI (t : Int) := by rw [t99 (by omega)]; omega
    rw [ffX7_roomFor_L24_s, ffX8_roomFor_L20_s, if_pos hc, if_pos hc, hKc, hKm]
    exact ⟨_, A, Z, rfl, rfl, Fr.rf Z⟩
  | succ d ih =>
    intro t fu fm A Z ht hf hm h
    obtain ⟨fu, rfl⟩ : ∃ q, fu = q + 1 := ⟨fu - 1, by omega⟩
    obtain ⟨fm, rfl⟩ : ∃ q, fm = q + 1 := ⟨fm - 1, by omega⟩
    have hc : ¬ (99 : Int32) < iI (t : Int) := by rw [t99 (by omega)]; omega
    obtain ⟨hT, hRT, hM, hP, hS⟩ := id h
    obtain ⟨f1, f2, f3, f4⟩ := fstep h (by omega)
    have ee : (99 : Int) + ((t + 1 : Nat) : Int) = 99 + (t : Int) + 1 := by omega
    rw [← ee] at f3
    rw [ffX7_roomFor_L24_s, ffX8_roomFor_L20_s, if_neg hc, if_neg hc, wetOnLine_i hT hM (by omega), kv_b1_d, free_i h, hT.2.2.2.2.1, iI_sub]
    by_cases q : iI ((k : Int) - sm (fun j => if tv A 3 j < 8 ∧ 0 < tv A 1 j then 1 else 0) n) < p
    · rw [if_pos q, if_pos q, f1, f2, kv_b2_d, kv_b2_d, kv_lt_d, kv_lt_d, l1, ix2]
      obtain ⟨r, A', Z', e1, e2, e3⟩ := ih (t + 1) fu fm _ _ (by omega) (by omega) (by omega) f3
      exact ⟨r, A', Z', e1, e2, f4.tr e3⟩
    · rw [if_neg q, if_neg q]
      exact ⟨_, A, Z, rfl, rfl, Fr.rf Z⟩
theorem st_roomFor {X R T P I J D Z : Mm} {G Y : Int64} (h : Rl X R T P I J D G Z Y) (A : Mm) (p : Int32) : ∃ (r : Int32) (A' Z' : Mm), ffX7_roomFor p X T P A = some (r, A') ∧ ffX8_roomFor p Z = some (r, Z') ∧ Rl X R T P I J D G Z' Y := by
  obtain ⟨hg, hx, hd, n, k, st, hN, hI, hJ⟩ := id h
  have fu := fu_big
  unfold ffX7_roomFor ffX8_roomFor
  rw [← wi_in]
  rcases wi_b p 1 5 with e | ⟨e, _, _⟩
  · rw [e, kv_b1_d, kv_b1_d, z_0]
    exact ⟨_, A, Z, rfl, rfl, h⟩
  · obtain ⟨c1, c2, c3, c4⟩ := fore (A := A) hN
    rw [e, kv_b1_d, kv_b1_d, z_1, z_1, c1, c2, kv_b1_d, kv_b1_d]
    generalize kv_FU = F at fu ⊢
    obtain ⟨r, A', Z', g1, g2, g3⟩ := room_sim (p := p) (fun (x9 : Int32) (mA10 : Mm) => some ((-9), mA10)) (fun (x18 : Int32) (mZ19 : Mm) => some ((-9), mZ19)) (fun _ _ => rfl) (fun _ _ => rfl) 100 0 F F _ _ (by omega) (by omega) (by omega) c3
    exact ⟨r, A', Z', g1, g2, h.fr (c4.tr g3)⟩
