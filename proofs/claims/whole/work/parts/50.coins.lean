/-! coins, sums and counts -/
theorem coinsC {T A : Mm} {n k st : Nat} {mx : Int} (hT : OkT T n k st) (hM : OkM T A n k mx) (K : Int32 → Int32 → Option (Int32 × Mm)) : ∀ (d i fu : Nat), i + d = n → d < fu → ffX7_coins_L48 T A K fu (iI i) (iI (sm (fun j => (tv A 1 j + 19) / 20) i)) = K (iI n) (iI (sm (fun j => (tv A 1 j + 19) / 20) n)) := by
  have hn := hT.1
  intro d
  induction d with
  | zero =>
    intro i fu hi hf
    obtain ⟨fu, rfl⟩ : ∃ q, fu = q + 1 := ⟨fu - 1, by omega⟩
    have hin : i = n := by omega
    subst hin
    rw [ffX7_coins_L48_s, hT.2.2.2.1, if_pos (by rw [iI_le (by omega) (by omega) (by omega) (by omega)]; omega)]
  | succ d ih =>
    intro i fu hi hf
    obtain ⟨fu, rfl⟩ : ∃ q, fu = q + 1 := ⟨fu - 1, by omega⟩
    have hm := hM.2.2.2.2 i (by omega)
    have hb := hT.2.2.2.2.2.2.1 i (by omega)
    rw [ffX7_coins_L48_s, hT.2.2.2.1, if_neg (by rw [iI_le (by omega) (by omega) (by omega) (by omega)]; omega), ixN (by omega) (by omega), kv_lt_d, kv_lt_d, iI_cn (j := i) (by omega), tv_i A 1 i, show (20 : Int32) = iI 20 from rfl, iI_add, l1, ix2, iI_sub, iI_div (by omega) (by omega) (by omega) (by omega), iI_add]
    have := ih (i + 1) fu (by omega) (by omega)
    rw [sm] at this
    rw [show tv A 1 i + 20 - ((1 : Nat) : Int) = tv A 1 i + 19 by omega]
    exact this
theorem coinsM {T A Z : Mm} {n k st : Nat} {mx : Int} (h : RF T A Z n k st mx) (K : Int32 → Int32 → Option (Int32 × Mm)) : ∀ (d i fu : Nat), i + d = n → d < fu → ffX8_coins_L43 Z K fu (iI i) (iI (sm (fun j => (tv A 1 j + 19) / 20) i)) = K (iI n) (iI (sm (fun j => (tv A 1 j + 19) / 20) n)) := by
  obtain ⟨hT, hRT, hM, hP, hS⟩ := h
  have hn := hT.1
  intro d
  induction d with
  | zero =>
    intro i fu hi hf
    obtain ⟨fu, rfl⟩ : ∃ q, fu = q + 1 := ⟨fu - 1, by omega⟩
    have hin : i = n := by omega
    subst hin
    rw [ffX8_coins_L43_s, ix0 (by omega) (by omega), cl0, hRT.1, if_pos (by rw [iI_le (by omega) (by omega) (by omega) (by omega)]; omega)]
  | succ d ih =>
    intro i fu hi hf
    obtain ⟨fu, rfl⟩ : ∃ q, fu = q + 1 := ⟨fu - 1, by omega⟩
    have hm := hM.2.2.2.2 i (by omega)
    have hb := hT.2.2.2.2.2.2.1 i (by omega)
    rw [ffX8_coins_L43_s, ix0 (by omega) (by omega), cl0, hRT.1, if_neg (by rw [iI_le (by omega) (by omega) (by omega) (by omega)]; omega), l28, ix2, ixN (by omega) (by omega), kv_lt_d, kv_lt_d, iI_cn (j := 28 + i) (by omega), show 28 + i = 26 + 2 + i by omega, (hS.2.2 i (by omega)).1, tv_i A 1 i, show (20 : Int32) = iI 20 from rfl, show (19 : Int32) = iI 19 from rfl, iI_add, l1, ix2, iI_div (by omega) (by omega) (by omega) (by omega), iI_add]
    have := ih (i + 1) fu (by omega) (by omega)
    rw [sm] at this
    exact this
theorem coins_sim {T : Mm} {n k st N : Nat} (hN : N ≤ 24) (Kc Km : Int32 → Mm → Option (Int32 × Mm)) (hK : ∀ a A Z, RF T A Z n k st 123 → ∃ r, Kc a A = some (r, A) ∧ Km a Z = some (r, Z)) : ∀ (d t fu fm : Nat) (A Z : Mm), t + d = N → d < fu → d < fm → RF T A Z n k st (99 + t) → ∃ (r : Int32) (A' Z' : Mm), ffX7_coins_L25 (iI N) T Kc fu (iI t) A = some (r, A') ∧ ffX8_coins_L21 (iI N) Km fm (iI t) Z = some (r, Z') ∧ Fr Z Z' := by
  intro d
  induction d with
  | zero =>
    intro t fu fm A Z ht hf hm h
    obtain ⟨fu, rfl⟩ : ∃ q, fu = q + 1 := ⟨fu - 1, by omega⟩
    obtain ⟨fm, rfl⟩ : ∃ q, fm = q + 1 := ⟨fm - 1, by omega⟩
    have hc : iI (N : Int) ≤ iI (t : Int) := by rw [iI_le (by omega) (by omega) (by omega) (by omega)]; omega
    rw [ffX7_coins_L25_s, ffX8_coins_L21_s, if_pos hc, if_pos hc]
    obtain ⟨r, e1, e2⟩ := hK (iI t) A Z ⟨h.1, h.2.1, h.2.2.1.mono (by omega), h.2.2.2⟩
    exact ⟨r, A, Z, e1, e2, Fr.rf Z⟩
  | succ d ih =>
    intro t fu fm A Z ht hf hm h
    obtain ⟨fu, rfl⟩ : ∃ q, fu = q + 1 := ⟨fu - 1, by omega⟩
    obtain ⟨fm, rfl⟩ : ∃ q, fm = q + 1 := ⟨fm - 1, by omega⟩
    have hc : ¬ iI (N : Int) ≤ iI (t : Int) := by rw [iI_le (by omega) (by omega) (by omega) (by omega)]; omega
    obtain ⟨f1, f2, f3, f4⟩ := fstep h (by omega)
    have ee : (99 : Int) + ((t + 1 : Nat) : Int) = 99 + (t : Int) + 1 := by omega
    rw [← ee] at f3
    rw [ffX7_coins_L25_s, ffX8_coins_L21_s, if_neg hc, if_neg hc, f1, f2, kv_b2_d, kv_b2_d, kv_lt_d, kv_lt_d, l1, ix2]
    obtain ⟨r, A', Z', e1, e2, e3⟩ := ih (t + 1) fu fm _ _ (by omega) (by omega) (by omega) f3
    exact ⟨r, A', Z', e1, e2, f4.tr e3⟩
theorem st_coins {X R T P I J D Z : Mm} {G Y : Int64} (h : Rl X R T P I J D G Z Y) (A : Mm) (p : Int32) : ∃ (r : Int32) (A' Z' : Mm), ffX7_coins p X T P A = some (r, A') ∧ ffX8_coins p Z = some (r, Z') ∧ Rl X R T P I J D G Z' Y := by
  obtain ⟨hg, hx, hd, n, k, st, hN, hI, hJ⟩ := id h
  have fu := fu_big
  have hn := hN.1.1
  unfold ffX7_coins ffX8_coins
  rw [← wi_in]
  rcases wi_b p 0 24 with e | ⟨e, w1, w2⟩
  · rw [e, kv_b1_d, kv_b1_d, z_0, z_0]
    exact ⟨_, A, Z, rfl, rfl, h⟩
  · obtain ⟨z, z1, z2, rfl⟩ := rng w1 w2 (lo := 0) (hi := 24) (by decide) (by decide)
    obtain ⟨N, rfl⟩ : ∃ N : Nat, z = (N : Int) := ⟨z.toNat, by omega⟩
    obtain ⟨c1, c2, c3, c4⟩ := fore (A := A) hN
    rw [e, kv_b1_d, kv_b1_d, z_1, z_1, c1, c2, kv_b1_d, kv_b1_d]
    obtain ⟨r, A', Z', g1, g2, g3⟩ := coins_sim (N := N) (by omega) (fun (x8 : Int32) (mA9 : Mm) => ffX7_coins_L48 T mA9 (fun (x14 : Int32) (x15 : Int32) => some (x15, mA9)) kv_FU 0 0) (fun (x8 : Int32) (mZ9 : Mm) => ffX8_coins_L43 mZ9 (fun (x14 : Int32) (x15 : Int32) => some (x15, mZ9)) kv_FU 0 0) (fun a A Z hR => ⟨_, coinsC hR.1 hR.2.2.1 _ n 0 kv_FU (by omega) (by omega), coinsM hR _ n 0 kv_FU (by omega) (by omega)⟩) N 0 kv_FU kv_FU _ _ (by omega) (by omega) (by omega) c3
    exact ⟨r, A', Z', g1, g2, h.fr (c4.tr g3)⟩
/-! which piece is at a spot -/
def pAt (M : Mm) (k : Int32) : Nat → Nat → Int32
  | 0, _ => -9
  | d + 1, i => if M 3 i = k then iI (i : Int) else pAt M k d (i + 1)
theorem pieceAt_l {T M : Mm} {n k st : Nat} (hT : OkT T n k st) (p : Int32) : ∀ (d i fu : Nat), i + d = n → d < fu → ffX3_pieceAt_L2 p T M (fun (x3 : Int32) => some (-9)) fu (iI i) = some (pAt M p d i) := by
  have hn := hT.1
  intro d
  induction d with
  | zero =>
    intro i fu hi hf
    obtain ⟨fu, rfl⟩ : ∃ q, fu = q + 1 := ⟨fu - 1, by omega⟩
    rw [ffX3_pieceAt_L2_s, hT.2.2.2.1, if_pos (by rw [iI_le (by omega) (by omega) (by omega) (by omega)]; omega)]
    rfl
  | succ d ih =>
    intro i fu hi hf
    obtain ⟨fu, rfl⟩ : ∃ q, fu = q + 1 := ⟨fu - 1, by omega⟩
    rw [ffX3_pieceAt_L2_s, hT.2.2.2.1, if_neg (by rw [iI_le (by omega) (by omega) (by omega) (by omega)]; omega), ixN (by omega) (by omega), iI_cn (j := i) (by omega), pAt]
    by_cases q : M 3 i = p
    · rw [if_pos q, if_pos q]
    · rw [if_neg q, if_neg q, kv_lt_d, l1, ix2]
      exact ih (i + 1) fu (by omega) (by omega)
theorem pieceAt_i {T M : Mm} {n k st : Nat} (hT : OkT T n k st) (p : Int32) : ffX3_pieceAt p T M = some (pAt M p n 0) := by
  have hn := hT.1
  have fu := fu_big
  exact pieceAt_l hT p n 0 kv_FU (by omega) (by omega)
theorem pieceOn_l {T M Z : Mm} {n k st o : Nat} (hT : OkT T n k st) (hR : RT T Z n k st) (hS : RS M Z o n) (ho : o + 26 ≤ 104) (p : Int32) : ∀ (d i fu : Nat), i + d = n → d < fu → ffX8_pieceOn_L2 (iI o) p Z (fun (x3 : Int32) => some (-9)) fu (iI i) = some (pAt M p d i) := by
  have hn := hT.1
  intro d
  induction d with
  | zero =>
    intro i fu hi hf
    obtain ⟨fu, rfl⟩ : ∃ q, fu = q + 1 := ⟨fu - 1, by omega⟩
    rw [ffX8_pieceOn_L2_s, ix0 (by omega) (by omega), cl0, hR.1, if_pos (by rw [iI_le (by omega) (by omega) (by omega) (by omega)]; omega)]
    rfl
  | succ d ih =>
    intro i fu hi hf
    obtain ⟨fu, rfl⟩ : ∃ q, fu = q + 1 := ⟨fu - 1, by omega⟩
    rw [ffX8_pieceOn_L2_s, ix0 (by omega) (by omega), cl0, hR.1, if_neg (by rw [iI_le (by omega) (by omega) (by omega) (by omega)]; omega), l20, ix3, ixN (by omega) (by omega), iI_cn (j := o + 20 + i) (by omega), (hS.2.2 i (by omega)).2.2.2, pAt]
    by_cases q : M 3 i = p
    · rw [if_pos q, if_pos q]
    · rw [if_neg q, if_neg q, kv_lt_d, l1, ix2]
      exact ih (i + 1) fu (by omega) (by omega)
theorem pieceOn_i {T M Z : Mm} {n k st o : Nat} (hT : OkT T n k st) (hR : RT T Z n k st) (hS : RS M Z o n) (ho : o + 26 ≤ 104) (p : Int32) : ffX8_pieceOn (iI o) p Z = some (pAt M p n 0) := by
  have hn := hT.1
  have fu := fu_big
  exact pieceOn_l hT hR hS ho p n 0 kv_FU (by omega) (by omega)
theorem pAt_s (M : Mm) (p : Int32) : ∀ (d i : Nat), i + d ≤ 1000 → (pAt M p d i = -9 ∧ ∀ j, i ≤ j → j < i + d → M 3 j ≠ p) ∨ (∃ j, i ≤ j ∧ j < i + d ∧ pAt M p d i = iI (j : Int) ∧ M 3 j = p) := by
  intro d
  induction d with
  | zero => intro i _; exact Or.inl ⟨rfl, fun j h1 h2 => by omega⟩
  | succ d ih =>
    intro i hb
    rw [pAt]
    by_cases q : M 3 i = p
    · rw [if_pos q]
      exact Or.inr ⟨i, by omega, by omega, rfl, q⟩
    · rw [if_neg q]
      rcases ih (i + 1) (by omega) with ⟨h1, h2⟩ | ⟨j, h1, h2, h3, h4⟩
      · refine Or.inl ⟨h1, fun j a b => ?_⟩
        by_cases e : j = i
        · subst e; exact q
        · exact h2 j (by omega) (by omega)
      · exact Or.inr ⟨j, by omega, by omega, h3, h4⟩
theorem ne9 {j : Nat} (h : j ≤ 1000) : iI (j : Int) ≠ -9 := by
  intro q
  rw [show (-9 : Int32) = iI (-9) from rfl, iI_eq (by omega) (by omega) (by omega) (by omega)] at q
  omega
