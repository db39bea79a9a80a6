/-! THE RELATION between the class's memories and the model's -/
def OkP (M : Mm) (n : Nat) : Prop := (∀ i j, i < n → j < n → i ≠ j → tv M 3 i = tv M 3 j → 8 ≤ tv M 3 i) ∧ sm (fun i => if tv M 3 i = 8 then 1 else 0) n ≤ 3
def RI (T Z M X : Mm) (q o n k : Nat) : Prop := (X 2 q = 0 ∧ Z 12 q = 0) ∨ (X 2 q = 1 ∧ Z 12 q = 1 ∧ OkM T M n k 99 ∧ OkP M n ∧ RS M Z o n)
def RX (R Z : Mm) : Prop := ∃ len : Nat, len ≤ 300 ∧ R 0 2 = iI len ∧ Z 0 2 = iI len ∧ ∀ i, i < len → R 1 i = Z 1 i ∧ -128 ≤ tv R 1 i ∧ tv R 1 i ≤ 127
def RD (D Z : Mm) : Prop := ∃ d : Nat, d ≤ 30 ∧ D 0 0 = iI d ∧ Z 0 23 = iI d ∧ (∀ j, j < d → (Z 17 (2 * j) = 0 ∨ Z 17 (2 * j) = 1) ∧ (Z 17 (2 * j + 1) = 0 ∨ Z 17 (2 * j + 1) = 1) ∧ (Z 18 j = 0 ∨ Z 18 j = 1)) ∧ ∀ w, w < 2 → D 1 w = iI (sm (fun j => if Z 17 (2 * j + w) = Z 18 j then 1 else 0) d) ∧ D 2 w = iI (sm (fun j => tv Z 17 (2 * j + w)) d) ∧ D 3 w = iI (sm (fun j => tv Z 17 (2 * j + w) * tv Z 18 j) d)
def RN (T P Z : Mm) (n k st : Nat) : Prop := OkT T n k st ∧ RT T Z n k st ∧ OkM T P n k 99 ∧ OkP P n ∧ RS P Z 0 n
def Rl (X R T P I J D : Mm) (G : Int64) (Z : Mm) (Y : Int64) : Prop := G = Y ∧ RX R Z ∧ RD D Z ∧ ∃ n k st : Nat, RN T P Z n k st ∧ RI T Z I X 0 52 n k ∧ RI T Z J X 1 78 n k
/-- what a foretelling leaves alone -/
def Fr (Z Z' : Mm) : Prop := (∀ c, c < 11 ∨ c = 12 ∨ c = 17 ∨ c = 18 → Z' c = Z c) ∧ ∀ j, j < 26 ∨ 52 ≤ j → Z' 11 j = Z 11 j
theorem Fr.rf (Z : Mm) : Fr Z Z := ⟨fun _ _ => rfl, fun _ _ => rfl⟩
theorem Fr.tr {A B C : Mm} (h1 : Fr A B) (h2 : Fr B C) : Fr A C := ⟨fun c hc => (h2.1 c hc).trans (h1.1 c hc), fun j hj => (h2.2 j hj).trans (h1.2 j hj)⟩
theorem Fr.w {Z : Mm} (c : Nat) (hc : c = 13 ∨ c = 14 ∨ c = 15 ∨ c = 16) (f : Nat → Int32) : Fr Z (mm_w Z c f) := ⟨fun x hx => mm_w_ne (by omega), fun j _ => by rw [mm_w_ne (by omega)]⟩
theorem Fr.w11 {Z : Mm} {f : Nat → Int32} (h : ∀ j, j < 26 ∨ 52 ≤ j → f j = Z 11 j) : Fr Z (mm_w Z 11 f) := ⟨fun x hx => mm_w_ne (by omega), fun j hj => by rw [mm_w_same]; exact h j hj⟩
theorem RT.eq {T Z Z' : Mm} {n k st : Nat} (h : RT T Z n k st) (e : ∀ c, c < 11 → Z' c = Z c) : RT T Z' n k st := by
  unfold RT at *
  rw [e 2 (by omega), e 3 (by omega), e 4 (by omega), e 5 (by omega), e 6 (by omega), e 7 (by omega), e 8 (by omega), e 9 (by omega), e 10 (by omega)]
  exact h
theorem RS.eq {M Z Z' : Mm} {o n : Nat} (hn : n ≤ 6) (h : RS M Z o n) (e : ∀ j, o ≤ j → j < o + 26 → Z' 11 j = Z 11 j) : RS M Z' o n := by
  refine ⟨by rw [e o (by omega) (by omega)]; exact h.1, by rw [e (o + 1) (by omega) (by omega)]; exact h.2.1, fun i hi => ?_⟩
  rw [e (o + 2 + i) (by omega) (by omega), e (o + 8 + i) (by omega) (by omega), e (o + 14 + i) (by omega) (by omega), e (o + 20 + i) (by omega) (by omega)]
  exact h.2.2 i hi
theorem RX.eq {R Z Z' : Mm} (h : RX R Z) (e0 : Z' 0 2 = Z 0 2) (e1 : Z' 1 = Z 1) : RX R Z' := by
  unfold RX at *
  rw [e0, e1]
  exact h
theorem RD.eq {D Z Z' : Mm} (h : RD D Z) (e0 : Z' 0 23 = Z 0 23) (e1 : Z' 17 = Z 17) (e2 : Z' 18 = Z 18) : RD D Z' := by
  unfold RD tv at *
  rw [e0, e1, e2]
  exact h
theorem RI.eq {T Z Z' M X : Mm} {q o n k : Nat} (hn : n ≤ 6) (h : RI T Z M X q o n k) (e0 : Z' 12 = Z 12) (e : ∀ j, o ≤ j → j < o + 26 → Z' 11 j = Z 11 j) : RI T Z' M X q o n k := by
  unfold RI at *
  rw [e0]
  rcases h with h | ⟨h1, h2, h3, h4, h5⟩
  · exact Or.inl h
  · exact Or.inr ⟨h1, h2, h3, h4, h5.eq hn e⟩
theorem Rl.fr {X R T P I J D Z Z' : Mm} {G Y : Int64} (h : Rl X R T P I J D G Z Y) (f : Fr Z Z') : Rl X R T P I J D G Z' Y := by
  obtain ⟨hg, hx, hd, n, k, st, ⟨hT, hRT, hM, hP, hS⟩, hI, hJ⟩ := h
  have hn := hT.1
  exact ⟨hg, hx.eq (by rw [f.1 0 (by omega)]) (f.1 1 (by omega)), hd.eq (by rw [f.1 0 (by omega)]) (f.1 17 (by omega)) (f.1 18 (by omega)), n, k, st, ⟨hT, hRT.eq (fun c hc => f.1 c (by omega)), hM, hP, hS.eq hn (fun j h1 h2 => f.2 j (by omega))⟩, hI.eq hn (f.1 12 (by omega)) (fun j h1 h2 => f.2 j (by omega)), hJ.eq hn (f.1 12 (by omega)) (fun j h1 h2 => f.2 j (by omega))⟩
/-- NOW changes, and nothing else -/
theorem Rl.now {X R T P' I J D Z Z' : Mm} {G Y : Int64} {n k st : Nat} (hg : G = Y) (hx : RX R Z) (hd : RD D Z) (hI : RI T Z I X 0 52 n k) (hJ : RI T Z J X 1 78 n k) (hN : RN T P' Z' n k st) (f1 : ∀ c, c ≠ 11 → Z' c = Z c) (f2 : ∀ j, 26 ≤ j → Z' 11 j = Z 11 j) : Rl X R T P' I J D G Z' Y := by
  have hn := hN.1.1
  exact ⟨hg, hx.eq (by rw [f1 0 (by omega)]) (f1 1 (by omega)), hd.eq (by rw [f1 0 (by omega)]) (f1 17 (by omega)) (f1 18 (by omega)), n, k, st, hN, hI.eq hn (f1 12 (by omega)) (fun j h1 h2 => f2 j (by omega)), hJ.eq hn (f1 12 (by omega)) (fun j h1 h2 => f2 j (by omega))⟩
theorem OkP.step {T M : Mm} {n st : Nat} (h : OkP M n) : OkP (mN T M n st) n := by
  unfold OkP at *
  simp only [tv_mN_3]
  exact h
theorem OkM.mono {T M : Mm} {n k : Nat} {a b : Int} (h : OkM T M n k a) (hab : a ≤ b) : OkM T M n k b := ⟨h.1, by have := h.2.1; omega, h.2.2⟩
/-- is it a piece, a spot -/
theorem isP {T : Mm} {n k st : Nat} (hT : OkT T n k st) (p : Int32) (X : Mm) : (∃ i : Nat, i < n ∧ p = iI i ∧ ffX7_isPiece p X T = some 1) ∨ ((∀ i : Nat, i < n → p ≠ iI i) ∧ ffX7_isPiece p X T = some 0) := by
  obtain ⟨z, h1, h2, rfl⟩ := iI_of p
  have hn := hT.1
  unfold ffX7_isPiece
  rw [hT.2.2.2.1, iI_0, iI_1, iI_sub]
  by_cases q : 0 ≤ z ∧ z ≤ (n : Int) - 1
  · refine Or.inl ⟨z.toNat, by omega, by rw [Int.toNat_of_nonneg q.1], ?_⟩
    rw [wi_t h1 h2 (by omega) (by omega) (by omega) (by omega) q, kv_b1_d, kv_bo_1]
    rfl
  · refine Or.inr ⟨fun i hi h => q ?_, ?_⟩
    · rw [iI_eq h1 h2 (by omega) (by omega)] at h
      omega
    · rw [wi_f h1 h2 (by omega) (by omega) (by omega) (by omega) q, kv_b1_d, kv_bo_0]
      rfl
theorem isPm {T Z : Mm} {n k st : Nat} (hT : OkT T n k st) (hR : RT T Z n k st) (p : Int32) : (∃ i : Nat, i < n ∧ p = iI i ∧ ffX8_isPiece p Z = some 1) ∨ ((∀ i : Nat, i < n → p ≠ iI i) ∧ ffX8_isPiece p Z = some 0) := by
  obtain ⟨z, h1, h2, rfl⟩ := iI_of p
  have hn := hT.1
  unfold ffX8_isPiece
  rw [ix0 (by omega) (by omega), cl0, hR.1, iI_0, iI_1, iI_sub]
  by_cases q : 0 ≤ z ∧ z ≤ (n : Int) - 1
  · refine Or.inl ⟨z.toNat, by omega, by rw [Int.toNat_of_nonneg q.1], ?_⟩
    rw [in_t h1 h2 (by omega) (by omega) (by omega) (by omega) q, kv_b1_d, kv_bo_1]
    rfl
  · refine Or.inr ⟨fun i hi h => q ?_, ?_⟩
    · rw [iI_eq h1 h2 (by omega) (by omega)] at h
      omega
    · rw [in_f h1 h2 (by omega) (by omega) (by omega) (by omega) q, kv_b1_d, kv_bo_0]
      rfl
/-- both at once -/
theorem isPb {T Z : Mm} {n k st : Nat} (hT : OkT T n k st) (hR : RT T Z n k st) (p : Int32) (X : Mm) : (∃ i : Nat, i < n ∧ p = iI i ∧ ffX7_isPiece p X T = some 1 ∧ ffX8_isPiece p Z = some 1) ∨ (ffX7_isPiece p X T = some 0 ∧ ffX8_isPiece p Z = some 0) := by
  rcases isP hT p X with ⟨i, hi, he, h1⟩ | ⟨h0, h1⟩
  · rcases isPm hT hR p with ⟨j, hj, he2, h2⟩ | ⟨h0, h2⟩
    · exact Or.inl ⟨i, hi, he, h1, h2⟩
    · exact absurd he (h0 i hi)
  · rcases isPm hT hR p with ⟨j, hj, he2, h2⟩ | ⟨h3, h2⟩
    · exact absurd he2 (h0 j hj)
    · exact Or.inr ⟨h1, h2⟩
theorem isSb {T Z : Mm} {n k st : Nat} (hT : OkT T n k st) (hR : RT T Z n k st) (p : Int32) (X : Mm) : (∃ i : Nat, i < k ∧ p = iI i ∧ ffX7_isSpot p X T = some 1 ∧ ffX8_isSpot p Z = some 1) ∨ (ffX7_isSpot p X T = some 0 ∧ ffX8_isSpot p Z = some 0) := by
  obtain ⟨z, h1, h2, rfl⟩ := iI_of p
  have hn := hT.2.1
  unfold ffX7_isSpot ffX8_isSpot
  rw [ix0 (by omega) (by omega), cl0, hR.2.1, hT.2.2.2.2.1, iI_0, iI_1, iI_sub]
  by_cases q : 0 ≤ z ∧ z ≤ (k : Int) - 1
  · refine Or.inl ⟨z.toNat, by omega, by rw [Int.toNat_of_nonneg q.1], ?_⟩
    rw [in_t h1 h2 (by omega) (by omega) (by omega) (by omega) q, wi_t h1 h2 (by omega) (by omega) (by omega) (by omega) q, kv_b1_d, kv_bo_1]
    exact ⟨rfl, rfl⟩
  · refine Or.inr ?_
    rw [in_f h1 h2 (by omega) (by omega) (by omega) (by omega) q, wi_f h1 h2 (by omega) (by omega) (by omega) (by omega) q, kv_b1_d, kv_bo_0]
    exact ⟨rfl, rfl⟩
/-- within and in, the same -/
theorem wi_in (a b c : Int32) : ffX7_within a b c = ffX8_in a b c := rfl
theorem wi_b (a b c : Int32) : ffX7_within a b c = some 0 ∨ (ffX7_within a b c = some 1 ∧ b ≤ a ∧ a ≤ c) := by
  unfold ffX7_within
  by_cases q1 : a < b
  · rw [if_pos q1]; exact Or.inl rfl
  · rw [if_neg q1]
    by_cases q2 : c < a
    · rw [if_pos q2]; exact Or.inl rfl
    · rw [if_neg q2]
      refine Or.inr ⟨rfl, ?_, ?_⟩
      · rw [Int32.le_iff_toInt_le]; rw [Int32.lt_iff_toInt_lt] at q1; omega
      · rw [Int32.le_iff_toInt_le]; rw [Int32.lt_iff_toInt_lt] at q2; omega
theorem rng {a b c : Int32} (h1 : b ≤ a) (h2 : a ≤ c) {lo hi : Int} (hb : b.toInt = lo) (hc : c.toInt = hi) : ∃ z : Int, lo ≤ z ∧ z ≤ hi ∧ a = iI z := ⟨a.toInt, by rw [Int32.le_iff_toInt_le] at h1; omega, by rw [Int32.le_iff_toInt_le] at h2; omega, (iI_t a).symm⟩
