/-! the model's rows -/
theorem mm_w_self (M : Mm) (k : Nat) : mm_w M k (M k) = M := by
  funext c
  by_cases q : c = k
  · rw [q, mm_w_same]
  · rw [mm_w_ne q]
theorem upd_sm (f : Nat → Int32) (i : Nat) (x : Int32) : upd f i x i = x := if_pos rfl
theorem upd_nn {f : Nat → Int32} {i j : Nat} {x : Int32} (h : j ≠ i) : upd f i x j = f j := if_neg h
theorem isRow_l {n : Nat} (hn : n ≤ 6) : ∀ (d v fm : Nat) (b : Nat → Bool) (Z : Mm), d ≤ 5 → v < 1000000 → d < fm → (∀ i, n ≤ i → b i = false) → ∃ f : Nat → Int32, (∀ j, d ≤ j → f j = Z 15 j) ∧ ((vd 6 b d v ∧ (∀ j, j < d → f j = iI ((rw6 6 d v j : Nat) : Int)) ∧ ffX8_isRow_L11 (fun (x11 : Int32) (x12 : Int32) (x13 : Int32) (mZ14 : Mm) => some (1, mZ14)) fm (iI ((d : Int) - 1)) (hB b n) (iI v) Z = some (1, mm_w Z 15 f)) ∨ (¬ vd 6 b d v ∧ ffX8_isRow_L11 (fun (x11 : Int32) (x12 : Int32) (x13 : Int32) (mZ14 : Mm) => some (1, mZ14)) fm (iI ((d : Int) - 1)) (hB b n) (iI v) Z = some (0, mm_w Z 15 f))) := by
  intro d
  induction d with
  | zero =>
    intro v fm b Z hd hv hf h0
    obtain ⟨fm, rfl⟩ : ∃ q, fm = q + 1 := ⟨fm - 1, by omega⟩
    refine ⟨Z 15, fun _ _ => rfl, Or.inl ⟨trivial, fun j hj => absurd hj (by omega), ?_⟩⟩
    rw [ffX8_isRow_L11_s, if_pos (by decide), mm_w_self]
  | succ d ih =>
    intro v fm b Z hd hv hf h0
    obtain ⟨fm, rfl⟩ : ∃ q, fm = q + 1 := ⟨fm - 1, by omega⟩
    have hx : v % 6 < 6 := Nat.mod_lt _ (by omega)
    obtain ⟨t1, t2⟩ := bC_c hn hx h0
    obtain ⟨e1, e2⟩ := rem6 hv
    have ed : iI (((d + 1 : Nat) : Int) - 1) = iI (d : Int) := by congr 1; omega
    have ed1 : iI (d : Int) + (-1) = iI ((d : Int) - 1) := by rw [show (-1 : Int32) = iI (-1) from rfl, iI_add]; congr 1
    obtain ⟨f, f1, f2⟩ := ih (v / 6) fm (bm b (v % 6)) (mm_w Z 15 (upd (Z 15) d (iI ((v % 6 : Nat) : Int)))) (by omega) (by omega) (by omega) (bm_0 h0)
    have fd : f d = iI ((v % 6 : Nat) : Int) := by rw [f1 d (by omega), mm_w_same, upd_sm]
    rw [ed, ffX8_isRow_L11_s, if_neg (by rw [iI_0, iI_lt (by omega) (by omega) (by omega) (by omega)]; omega), e1, e2]
    simp only [kv_lt_d]
    rw [ixN (by omega) (by omega), ixN (by omega) (by omega), ixN (by omega) (by omega), iI_cn (j := d) (by omega), mm_w_same, upd_sm, t1, t2, ed1]
    rw [mm_w_w] at f2
    by_cases q : b (v % 6) = true
    · rw [if_pos q, if_neg (by decide)]
      refine ⟨f, fun j hj => by rw [f1 j (by omega), mm_w_same, upd_nn (by omega)], ?_⟩
      rcases f2 with ⟨g1, g2, g3⟩ | ⟨g1, g3⟩
      · refine Or.inl ⟨⟨q, g1⟩, fun j hj => ?_, g3⟩
        rw [rw6]
        by_cases qj : j = d
        · rw [if_pos qj, qj, fd]
        · rw [if_neg qj]
          exact g2 j (by omega)
      · exact Or.inr ⟨fun h => g1 h.2, g3⟩
    · rw [if_neg q, if_pos rfl]
      exact ⟨_, fun j hj => by rw [upd_nn (by omega)], Or.inr ⟨fun h => q h.1, rfl⟩⟩
