/-! day: numbers and semicolons, both -/
def FrR (R R' : Mm) : Prop := (∀ c, c ≠ 0 → R' c = R c) ∧ ∀ j, j < 3 ∨ 7 < j → R' 0 j = R 0 j
theorem FrR.rf (R : Mm) : FrR R R := ⟨fun _ _ => rfl, fun _ _ => rfl⟩
theorem FrR.tr {A B C : Mm} (h1 : FrR A B) (h2 : FrR B C) : FrR A C := ⟨fun c hc => (h2.1 c hc).trans (h1.1 c hc), fun j hj => (h2.2 j hj).trans (h1.2 j hj)⟩
theorem FrR.q {R : Mm} {j : Nat} {x : Int32} (h : 3 ≤ j ∧ j ≤ 7) : FrR R (mm_w R 0 (upd (R 0) j x)) := ⟨fun c hc => q_c hc, fun i hi => q_n (by omega)⟩
theorem FrC.r {R R' : Mm} (h : FrC R R') : FrR R R' := ⟨h.1, fun j hj => h.2 j (by omega)⟩
def FrY (Z Z' : Mm) : Prop := (∀ c, c ≠ 0 → Z' c = Z c) ∧ ∀ j, j < 12 ∨ 16 < j → Z' 0 j = Z 0 j
theorem FrY.rf (R : Mm) : FrY R R := ⟨fun _ _ => rfl, fun _ _ => rfl⟩
theorem FrY.tr {A B C : Mm} (h1 : FrY A B) (h2 : FrY B C) : FrY A C := ⟨fun c hc => (h2.1 c hc).trans (h1.1 c hc), fun j hj => (h2.2 j hj).trans (h1.2 j hj)⟩
theorem FrY.q {R : Mm} {j : Nat} {x : Int32} (h : 12 ≤ j ∧ j ≤ 16) : FrY R (mm_w R 0 (upd (R 0) j x)) := ⟨fun c hc => q_c hc, fun i hi => q_n (by omega)⟩
theorem FrZ.y {R R' : Mm} (h : FrZ R R') : FrY R R' := ⟨h.1, fun j hj => h.2 j (by omega)⟩
theorem TR.r {t : Nat → Int} {len : Nat} {R R' : Mm} (h : TR t len R) (f : FrR R R') : TR t len R' := ⟨h.1, h.2.1, by rw [f.2 2 (by omega)]; exact h.2.2.1, fun i hi => by rw [f.1 1 (by omega)]; exact h.2.2.2 i hi⟩
theorem TR.y {t : Nat → Int} {len : Nat} {R R' : Mm} (h : TR t len R) (f : FrY R R') : TR t len R' := ⟨h.1, h.2.1, by rw [f.2 2 (by omega)]; exact h.2.2.1, fun i hi => by rw [f.1 1 (by omega)]; exact h.2.2.2 i hi⟩
theorem TR.w {t : Nat → Int} {len c : Nat} {R : Mm} {f : Nat → Int32} (h : TR t len R) (hc : 2 ≤ c) : TR t len (mm_w R c f) := ⟨h.1, h.2.1, by rw [mm_w_ne (by omega)]; exact h.2.2.1, fun i hi => by rw [mm_w_ne (by omega)]; exact h.2.2.2 i hi⟩
theorem ne1 {j : Nat} (h : j ≤ 1000) : iI (j : Int) ≠ -1 := by
  intro q
  rw [show (-1 : Int32) = iI (-1) from rfl, iI_eq (by omega) (by omega) (by omega) (by omega)] at q
  omega
theorem tT_le (t : Nat → Int) (len s : Nat) : tT t len s ≤ 4 := by
  unfold tT
  split
  · omega
  · split
    · omega
    · split
      · omega
      · split <;> omega
theorem tK_le (t : Nat → Int) (len s : Nat) : tK t len s ≤ 7 := by
  by_cases q : s < len
  · by_cases ql : tL t s = true
    · rw [(tK_let q ql).1]
      split
      · have := mng_n (tC t s (tE t len s - s))
        omega
      · omega
    · by_cases qd : tD t s = true
      · rw [(tK_dig q ql qd).1]
        split <;> omega
      · rw [(tK_oth q ql qd).1]
        split <;> omega
  · rw [(tK_end (t := t) (len := len) (s := s) (by omega)).1]
    omega
theorem tV_0 {t : Nat → Int} {s : Nat} : ∀ (m : Nat), (∀ i, i < m → 48 ≤ t (s + i)) → 0 ≤ tV t s m
  | 0, _ => by rw [tV]; omega
  | m + 1, h => by
    have h1 := tV_0 m (fun i hi => h i (by omega))
    have h2 := h m (by omega)
    rw [tV]
    omega
theorem tW_b {t : Nat → Int} {len s : Nat} (h : tK t len s = 5) : 0 ≤ tW t len s ∧ tW t len s ≤ 99 := by
  by_cases q : s < len
  · by_cases ql : tL t s = true
    · exact absurd h (tK_w q ql).2.1
    · by_cases qd : tD t s = true
      · obtain ⟨k1, -, k3⟩ := tK_dig q ql qd
        have heb := tE_b (t := t) (Nat.le_of_lt q)
        have h0 := tV_0 (t := t) (s := s) (tE t len s - s) (fun i hi => ((tD_i t (s + i)).mp (tRun_all (tD t) (len - s) s (s + i) (by omega) (by rw [← k3]; omega))).1)
        rw [k1] at h
        unfold tW
        by_cases qq : 99 < tV t s (tE t len s - s) ∨ (t s = 48 ∧ 1 < tE t len s - s)
        · rw [if_pos qq] at h
          omega
        · omega
      · rw [(tK_oth q ql qd).1] at h
        split at h <;> omega
  · rw [(tK_end (t := t) (len := len) (s := s) (by omega)).1] at h
    omega
/-- both at one place, or both at one fault -/
def PZ (t : Nat → Int) (len a : Nat) (R Z : Mm) : Prop := TR t len R ∧ TR t len Z ∧ ((∃ p, a ≤ p ∧ p ≤ len ∧ R 0 3 = iI ((p : Nat) : Int) ∧ R 0 7 = -1 ∧ LA t len p Z ∧ Z 0 16 = -9) ∨ (∃ s p : Nat, s ≤ 300 ∧ p ≤ len ∧ R 0 3 = iI ((p : Nat) : Int) ∧ R 0 7 = iI ((s : Nat) : Int) ∧ Z 0 16 = iI ((s : Nat) : Int)))
theorem PZ.w {t : Nat → Int} {len a c : Nat} {R Z : Mm} {f : Nat → Int32} (h : PZ t len a R Z) (hc : 2 ≤ c) : PZ t len a R (mm_w Z c f) := by
  obtain ⟨h1, h2, h3⟩ := h
  refine ⟨h1, h2.w hc, ?_⟩
  unfold LA at *
  rw [mm_w_ne (by omega)]
  exact h3
/-- no fault in the one: none in the other -/
theorem PZ.no {t : Nat → Int} {len a : Nat} {R Z : Mm} (h : PZ t len a R Z) : (R 0 7 = -1 ∧ Z 0 16 = -9) ∨ (R 0 7 ≠ -1 ∧ Z 0 16 ≠ -9) := by
  rcases h.2.2 with ⟨p, _, _, _, h7, _, h16⟩ | ⟨s, p, hs, hp, h3, h7, h16⟩
  · exact Or.inl ⟨h7, h16⟩
  · exact Or.inr ⟨by rw [h7]; exact ne1 (by omega), by rw [h16]; exact ne9 (by omega)⟩
theorem due_f {Z : Mm} (h : Z 0 16 ≠ -9) (x : Int32) : ffX8_due x Z = some (Z 0 15, Z) := by
  unfold ffX8_due
  rw [kv_lt_d, if_neg h]
theorem due_0 {Z : Mm} (h : Z 0 16 = -9) : ffX8_due 0 Z = some (Z 0 15, mm_w Z 0 (upd (Z 0) 16 (Z 0 13))) := by
  unfold ffX8_due
  rw [kv_lt_d, if_pos h, if_pos rfl, kv_lt_d, kv_lt_d]
theorem due_1 {Z Z' : Mm} (h : Z 0 16 = -9) (hn : ffX8_next Z = some Z') : ffX8_due 1 Z = some (Z 0 15, Z') := by
  unfold ffX8_due
  rw [kv_lt_d, if_pos h, if_neg (by decide), hn, kv_b1_d]
theorem numAny {t : Nat → Int} {len a : Nat} {R Z : Mm} {lo hi : Int} (h : PZ t len a R Z) (hl1 : -1000 ≤ lo) (hl2 : lo ≤ 1000) (hh1 : -1000 ≤ hi) (hh2 : hi ≤ 1000) : ∃ (v : Int) (x : Int32) (R' Z' : Mm), ffX4_readNumber (iI lo) (iI hi) R = some (iI v, R') ∧ ffX8_number (iI lo) (iI hi) Z = some (x, Z') ∧ PZ t len a R' Z' ∧ FrR R R' ∧ FrY Z Z' ∧ (R' 0 7 = -1 → R 0 7 = -1 ∧ x = iI v ∧ lo ≤ v ∧ v ≤ hi) ∧ (R' 0 7 ≠ -1 → v = 0) := by
  obtain ⟨hR, hZ, hc⟩ := id h
  have hlen := hR.1
  rcases hc with ⟨p, ha, hp, h3, h7, hLA, h16⟩ | ⟨s, p, hs, hp, h3, h7, h16⟩
  · obtain ⟨R1, e1, f1, c3, c4, c5, c6⟩ := scanC hR hp h3
    obtain ⟨a12, a13, a14, a15⟩ := hLA
    have hsb := tS_b (t := t) hp
    generalize tS t len p = s at *
    have heb := tE_b (t := t) hsb.2
    have ht2 := (tT_2 t len s).1
    have htl := tT_le t len s
    have hkl := tK_le t len s
    have fault : ∀ x : Int32, x = 0 → (∃ (v : Int) (x' : Int32) (R' Z' : Mm), (some (x, mm_w R1 0 (upd (R1 0) 7 (R1 0 4))) = some (iI v, R')) ∧ (kv_b2 (ffX8_due 0 Z) fun r3 mZ4 => some (r3, mZ4)) = some (x', Z') ∧ PZ t len a R' Z' ∧ FrR R R' ∧ FrY Z Z' ∧ (R' 0 7 = -1 → R 0 7 = -1 ∧ x' = iI v ∧ lo ≤ v ∧ v ≤ hi) ∧ (R' 0 7 ≠ -1 → v = 0)) := fun x hx => by
      rw [hx, due_0 h16, kv_b2_d, c4, a13]
      have fr : FrR R (mm_w R1 0 (upd (R1 0) 7 (iI ((s : Nat) : Int)))) := f1.r.tr (FrR.q (by omega))
      have fy : FrY Z (mm_w Z 0 (upd (Z 0) 16 (iI ((s : Nat) : Int)))) := FrY.q (by omega)
      exact ⟨0, _, _, _, rfl, rfl, ⟨hR.r fr, hZ.y fy, Or.inr ⟨s, tE t len s, by omega, heb.2, by rw [q_n (by omega)]; exact c3, q_s, q_s⟩⟩, fr, fy, fun q => absurd q (by rw [q_s]; exact ne1 (by omega)), fun _ => rfl⟩
    unfold ffX4_readNumber ffX8_number
    simp only [kv_lt_d]
    rw [if_pos h7, e1, kv_b1_d, c5, a14]
    by_cases q5 : tK t len s = 5
    · have hwb := tW_b q5
      rw [if_pos (by rw [ht2.mpr q5]; rfl), if_pos (by rw [q5]; rfl), c6 q5, a15 q5, ffX7_within_i (by omega) (by omega) (by omega) (by omega) (by omega) (by omega), ffX8_in_i (by omega) (by omega) (by omega) (by omega) (by omega) (by omega), kv_b1_d, kv_b1_d]
      by_cases qr : lo ≤ tW t len s ∧ tW t len s ≤ hi
      · rw [if_pos qr, z_1, z_1]
        obtain ⟨Z4, n1, n2, n3⟩ := nextM hZ heb.2 a12
        rw [due_1 h16 n1, kv_b2_d, a15 q5]
        exact ⟨tW t len s, _, R1, Z4, rfl, rfl, ⟨hR.c f1, hZ.z n2, Or.inl ⟨tE t len s, by omega, heb.2, c3, by rw [f1.2 7 (by omega)]; exact h7, n3, by rw [n2.2 16 (by omega)]; exact h16⟩⟩, f1.r, n2.y, fun _ => ⟨h7, rfl, qr.1, qr.2⟩, fun q => absurd (by rw [f1.2 7 (by omega)]; exact h7) q⟩
      · rw [if_neg qr, z_0, z_0]
        exact fault 0 rfl
    · rw [if_neg (by rw [show (2 : Int32) = iI 2 from rfl, iI_eq (by omega) (by omega) (by omega) (by omega)]; omega), if_neg (by rw [show (5 : Int32) = iI 5 from rfl, iI_eq (by omega) (by omega) (by omega) (by omega)]; omega)]
      exact fault 0 rfl
  · have hne1 : R 0 7 ≠ -1 := by rw [h7]; exact ne1 (by omega)
    have hne9 : Z 0 16 ≠ -9 := by rw [h16]; exact ne9 (by omega)
    unfold ffX4_readNumber ffX8_number
    simp only [kv_lt_d]
    rw [if_neg hne1]
    have hn : (if Z 0 14 = (5 : Int32) then kv_b1 (ffX8_in (Z 0 15) (iI lo) (iI hi)) fun r6 => (if r6 = (0 : Int32) then kv_b2 (ffX8_due 0 Z) fun r3 mZ4 => some (r3, mZ4) else kv_b2 (ffX8_due 1 Z) fun r3 mZ4 => some (r3, mZ4)) else kv_b2 (ffX8_due 0 Z) fun r3 mZ4 => some (r3, mZ4)) = some (Z 0 15, Z) := by
      rw [due_f hne9, due_f hne9]
      split
      · rw [← wi_in]
        rcases wi_b (Z 0 15) (iI lo) (iI hi) with e | ⟨e, _, _⟩
        · rw [e, kv_b1_d]
          rfl
        · rw [e, kv_b1_d]
          rfl
      · rfl
    exact ⟨0, Z 0 15, R, Z, rfl, hn, h, FrR.rf R, FrY.rf Z, fun q => absurd q hne1, fun _ => rfl⟩
theorem semAny {t : Nat → Int} {len a : Nat} {R Z : Mm} (h : PZ t len a R Z) : ∃ (R' Z' : Mm), ffX4_readSemicolon R = some R' ∧ (if Z 0 14 = (6 : Int32) then kv_b2 (ffX8_due 1 Z) fun r53 mZ54 => some mZ54 else kv_b2 (ffX8_due 0 Z) fun r53 mZ54 => some mZ54) = some Z' ∧ PZ t len a R' Z' ∧ FrR R R' ∧ FrY Z Z' ∧ (R' 0 7 = -1 → R 0 7 = -1) := by
  obtain ⟨hR, hZ, hc⟩ := id h
  have hlen := hR.1
  unfold ffX4_readSemicolon
  rcases hc with ⟨p, ha, hp, h3, h7, hLA, h16⟩ | ⟨s, p, hs, hp, h3, h7, h16⟩
  · obtain ⟨R1, e1, f1, c3, c4, c5, c6⟩ := scanC hR hp h3
    obtain ⟨a12, a13, a14, a15⟩ := hLA
    have hsb := tS_b (t := t) hp
    generalize tS t len p = s at *
    have heb := tE_b (t := t) hsb.2
    have ht2 := (tT_2 t len s).2.1
    have htl := tT_le t len s
    have hkl := tK_le t len s
    rw [if_pos h7, e1, kv_b1_d, c5, a14]
    by_cases q6 : tK t len s = 6
    · obtain ⟨Z4, n1, n2, n3⟩ := nextM hZ heb.2 a12
      rw [if_pos (by rw [ht2.mpr q6]; rfl), if_pos (by rw [q6]; rfl), due_1 h16 n1, kv_b2_d]
      exact ⟨R1, Z4, rfl, rfl, ⟨hR.c f1, hZ.z n2, Or.inl ⟨tE t len s, by omega, heb.2, c3, by rw [f1.2 7 (by omega)]; exact h7, n3, by rw [n2.2 16 (by omega)]; exact h16⟩⟩, f1.r, n2.y, fun _ => h7⟩
    · rw [if_neg (by rw [show (3 : Int32) = iI 3 from rfl, iI_eq (by omega) (by omega) (by omega) (by omega)]; omega), if_neg (by rw [show (6 : Int32) = iI 6 from rfl, iI_eq (by omega) (by omega) (by omega) (by omega)]; omega), kv_lt_d, kv_lt_d, due_0 h16, kv_b2_d, c4, a13]
      have fr : FrR R (mm_w R1 0 (upd (R1 0) 7 (iI ((s : Nat) : Int)))) := f1.r.tr (FrR.q (by omega))
      have fy : FrY Z (mm_w Z 0 (upd (Z 0) 16 (iI ((s : Nat) : Int)))) := FrY.q (by omega)
      exact ⟨_, _, rfl, rfl, ⟨hR.r fr, hZ.y fy, Or.inr ⟨s, tE t len s, by omega, heb.2, by rw [q_n (by omega)]; exact c3, q_s, q_s⟩⟩, fr, fy, fun q => absurd q (by rw [q_s]; exact ne1 (by omega))⟩
  · have hne1 : R 0 7 ≠ -1 := by rw [h7]; exact ne1 (by omega)
    have hne9 : Z 0 16 ≠ -9 := by rw [h16]; exact ne9 (by omega)
    rw [if_neg hne1, due_f hne9, due_f hne9, kv_b2_d]
    refine ⟨R, Z, rfl, ?_, h, FrR.rf R, FrY.rf Z, fun q => q⟩
    split <;> rfl
