/-- the model's copy of a stand -/
def gC (Z : Mm) (a b lim : Nat) : Nat → Int32 := fun j => if b ≤ j ∧ j < b + lim then Z 11 (a + (j - b)) else Z 11 j
theorem copym_i {Z : Mm} {a b : Nat} (ha : a + 26 ≤ 104) (hb : b + 26 ≤ 104) (hd : a + 26 ≤ b ∨ b + 26 ≤ a) : ffX8_copy (iI a) (iI b) Z = some (mm_w Z 11 (gC Z a b 26)) := by
  have fu := fu_big
  have loop : ∀ (d i fu : Nat), i + d = 26 → d < fu → ffX8_copy_L2 (iI a) (iI b) (fun (x6 : Int32) (mZ7 : Mm) => some (mZ7)) fu (iI i) (mm_w Z 11 (gC Z a b i)) = some (mm_w Z 11 (gC Z a b 26)) := by
    intro d
    induction d with
    | zero =>
      intro i fu hi hf
      obtain ⟨fu, rfl⟩ : ∃ q, fu = q + 1 := ⟨fu - 1, by omega⟩
      have hin : i = 26 := by omega
      subst hin
      rw [ffX8_copy_L2_s, if_pos (by decide)]
    | succ d ih =>
      intro i fu hi hf
      obtain ⟨fu, rfl⟩ : ∃ q, fu = q + 1 := ⟨fu - 1, by omega⟩
      rw [ffX8_copy_L2_s, if_neg (by rw [show (26 : Int32) = iI 26 from rfl, iI_le (by omega) (by omega) (by omega) (by omega)]; omega), ix2, ix2, l1, ix2, ixN (by omega) (by omega), kv_lt_d, ixN (by omega) (by omega), kv_lt_d, kv_lt_d, mm_w_w, mm_w_same, iI_cn (j := a + i) (by omega), iI_cn (j := b + i) (by omega)]
      have e : upd (gC Z a b i) (b + i) (gC Z a b i (a + i)) = gC Z a b (i + 1) := by
        funext j
        by_cases hj : j = b + i
        · subst hj
          rw [up_same]
          unfold gC
          rw [if_neg (by omega), if_pos (by omega)]
          congr 1
          omega
        · rw [up_ne hj]
          unfold gC
          simp only [show (b ≤ j ∧ j < b + (i + 1)) = (b ≤ j ∧ j < b + i) from propext ⟨fun h => by omega, fun h => by omega⟩]
      rw [e]
      exact ih (i + 1) fu (by omega) (by omega)
  unfold ffX8_copy
  have e0 : mm_w Z 11 (gC Z a b 0) = Z := by
    funext c
    by_cases hc : c = 11
    · subst hc
      rw [mm_w_same]
      funext j
      unfold gC
      rw [if_neg (by omega)]
    · exact mm_w_ne hc
  have h := loop 26 0 kv_FU (by omega) (by omega)
  rw [e0] at h
  exact h
theorem RS.copy {A P Z : Mm} {a b n : Nat} (hn : n ≤ 6) (hS : RS P Z a n) : RS (mC A P n) (mm_w Z 11 (gC Z a b 26)) b n := by
  unfold RS
  rw [mm_w_same]
  have e : ∀ x, x < 26 → gC Z a b 26 (b + x) = Z 11 (a + x) := fun x hx => by
    unfold gC
    rw [if_pos (by omega)]
    congr 1
    omega
  refine ⟨?_, ?_, fun i hi => ?_⟩
  · have := e 0 (by omega)
    rw [Nat.add_zero, Nat.add_zero] at this
    rw [this, hS.1, mC_s (Or.inl rfl)]
  · rw [e 1 (by omega), hS.2.1, mC_s (Or.inr rfl)]
  · obtain ⟨s1, s2, s4, s3⟩ := hS.2.2 i hi
    refine ⟨?_, ?_, ?_, ?_⟩
    · rw [Nat.add_assoc, e (2 + i) (by omega), ← Nat.add_assoc, s1, mC_in hi (by omega) (by omega)]
    · rw [Nat.add_assoc, e (8 + i) (by omega), ← Nat.add_assoc, s2, mC_in hi (by omega) (by omega)]
    · rw [Nat.add_assoc, e (14 + i) (by omega), ← Nat.add_assoc, s4, mC_in hi (by omega) (by omega)]
    · rw [Nat.add_assoc, e (20 + i) (by omega), ← Nat.add_assoc, s3, mC_in hi (by omega) (by omega)]
theorem OkM.copy {T A P : Mm} {n k : Nat} {mx : Int} (h : OkM T P n k mx) : OkM T (mC A P n) n k mx := by
  have e1 : tv (mC A P n) 0 1 = tv P 0 1 := by unfold tv; rw [mC_s (Or.inl rfl)]
  have e2 : tv (mC A P n) 0 2 = tv P 0 2 := by unfold tv; rw [mC_s (Or.inr rfl)]
  have e : ∀ c i, i < n → 1 ≤ c → c ≤ 4 → tv (mC A P n) c i = tv P c i := fun c i hi h1 h2 => by unfold tv; rw [mC_in hi h1 h2]
  unfold OkM at *
  rw [e1, e2]
  refine ⟨h.1, h.2.1, h.2.2.1, h.2.2.2.1, fun i hi => ?_⟩
  rw [e 1 i hi (by omega) (by omega), e 2 i hi (by omega) (by omega), e 3 i hi (by omega) (by omega), e 4 i hi (by omega) (by omega)]
  exact h.2.2.2.2 i hi
theorem OkP.copy {A P : Mm} {n : Nat} (h : OkP P n) : OkP (mC A P n) n := by
  have e : ∀ i, i < n → tv (mC A P n) 3 i = tv P 3 i := fun i hi => by unfold tv; rw [mC_in hi (by omega) (by omega)]
  refine ⟨fun i j hi hj hne he => ?_, ?_⟩
  · rw [e i hi, e j hj] at he
    rw [e i hi]
    exact h.1 i j hi hj hne he
  · rw [sm_cong (g := fun i => if tv P 3 i = 8 then 1 else 0) (fun i hi => by rw [e i hi])]
    exact h.2
/-- a stand that is let go by, class and model: what holds of both -/
def RF (T A Z : Mm) (n k st : Nat) (mx : Int) : Prop := OkT T n k st ∧ RT T Z n k st ∧ OkM T A n k mx ∧ OkP A n ∧ RS A Z 26 n
/-- the beginning of a foretelling -/
theorem fore {T P A Z : Mm} {n k st : Nat} (h : RN T P Z n k st) : ffX3_copy T A P = some (mC A P n) ∧ ffX8_copy (0 : Int32) (26 : Int32) Z = some (mm_w Z 11 (gC Z 0 26 26)) ∧ RF T (mC A P n) (mm_w Z 11 (gC Z 0 26 26)) n k st 99 ∧ Fr Z (mm_w Z 11 (gC Z 0 26 26)) := by
  obtain ⟨hT, hRT, hM, hP, hS⟩ := h
  refine ⟨copy_i hT (fun i hi => (hM.2.2.2.2 i hi).2.2.2.2.2), copym_i (a := 0) (b := 26) (by omega) (by omega) (by omega), ⟨hT, hRT.w 11 (by omega) _, hM.copy, hP.copy, RS.copy hT.1 hS⟩, Fr.w11 (fun j hj => ?_)⟩
  unfold gC
  rw [if_neg (by omega)]
/-- a step of it -/
theorem fstep {T A Z : Mm} {n k st : Nat} {mx : Int} (h : RF T A Z n k st mx) (hmx : mx ≤ 100000) : ffX3_pass T A = some (iI (nLost T A n st), mN T A n st) ∧ ffX8_goStep (26 : Int32) Z = some (iI (nLost T A n st), mm_w Z 11 (gF T A Z 26 n st)) ∧ RF T (mN T A n st) (mm_w Z 11 (gF T A Z 26 n st)) n k st (mx + 1) ∧ Fr Z (mm_w Z 11 (gF T A Z 26 n st)) := by
  obtain ⟨hT, hRT, hM, hP, hS⟩ := h
  exact ⟨pass_i hT hM hmx, goStep_i (o := 26) hT hRT hM hmx hS (by omega), ⟨hT, hRT.w 11 (by omega) _, hM.step hT hmx, hP.step, RS.step hT.1 hS⟩, Fr.w11 (fun j hj => gF_out hT.1 (by omega))⟩
