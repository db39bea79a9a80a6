/-! day: a word, by the class -/
theorem eqw_l {t : Nat → Int} {len s : Nat} {R : Mm} (hR : TR t len R) (h4 : R 0 4 = iI s) {ii L : Nat} {W : Nat → Int} (hL : js_n ii = iI L) (hn : js_len.getD ii 0 = L) (hL5 : L ≤ 5) (hW : ∀ i, i < L → js_ch ii i = iI (W i) ∧ 0 ≤ W i ∧ W i ≤ 127) (hs : s + L ≤ len) : ∀ (d j fu : Nat), j + d = L → d < fu → ((∀ i, j ≤ i → i < L → t (s + i) = W i) ∧ ffX4_isWord_L28 ii R (fun (x3 : Int32) => some 1) fu (iI j) = some 1) ∨ ((∃ i, j ≤ i ∧ i < L ∧ t (s + i) ≠ W i) ∧ ffX4_isWord_L28 ii R (fun (x3 : Int32) => some 1) fu (iI j) = some 0) := by
  have hl := hR.1
  intro d
  induction d with
  | zero =>
    intro j fu hj hf
    obtain ⟨fu, rfl⟩ : ∃ q, fu = q + 1 := ⟨fu - 1, by omega⟩
    refine Or.inl ⟨fun i h1 h2 => by omega, ?_⟩
    rw [ffX4_isWord_L28_s, hL, if_pos (by rw [iI_le (by omega) (by omega) (by omega) (by omega)]; omega)]
  | succ d ih =>
    intro j fu hj hf
    obtain ⟨fu, rfl⟩ : ∃ q, fu = q + 1 := ⟨fu - 1, by omega⟩
    have hb := hR.2.1 (s + j) (by omega)
    obtain ⟨w1, w2, w3⟩ := hW j (by omega)
    rw [ffX4_isWord_L28_s, hL, if_neg (by rw [iI_le (by omega) (by omega) (by omega) (by omega)]; omega), h4, ix2, ixN (by omega) (by omega), hn, ixN (by omega) (by omega), iI_cn (j := s + j) (by omega), iI_cn (j := j) (by omega), w1, hR.2.2.2 (s + j) (by omega), kv_lt_d, l1, ix2]
    by_cases q : t (s + j) = W j
    · rw [if_pos (by rw [q])]
      rcases ih (j + 1) fu (by omega) (by omega) with ⟨a1, a2⟩ | ⟨⟨i, a1, a2, a3⟩, a4⟩
      · refine Or.inl ⟨fun i h1 h2 => ?_, a2⟩
        by_cases qi : i = j
        · rw [qi]
          exact q
        · exact a1 i (by omega) h2
      · exact Or.inr ⟨⟨i, by omega, a2, a3⟩, a4⟩
    · rw [if_neg (by rw [iI_eq (by omega) (by omega) (by omega) (by omega)]; exact q)]
      exact Or.inr ⟨⟨j, Nat.le_refl j, by omega, q⟩, rfl⟩
theorem isWord_g {t : Nat → Int} {len s : Nat} {R : Mm} (hR : TR t len R) (hs : s ≤ len) (h3 : R 0 3 = iI ((tE t len s : Nat) : Int)) (h4 : R 0 4 = iI s) (h5 : R 0 5 = iI ((tT t len s : Nat) : Int)) {ii L : Nat} {W : Nat → Int} (hii : ii < 4) (hL : js_n ii = iI L) (hn : js_len.getD ii 0 = L) (hL5 : L ≤ 5) (hW : ∀ i, i < L → js_ch ii i = iI (W i) ∧ 0 ≤ W i ∧ W i ≤ 127) (hq : ∀ m, 1 ≤ m → m ≤ 5 → (∀ i, i < m → 97 ≤ t (s + i) ∧ t (s + i) ≤ 122) → (mng (tC t s m) = ii ↔ m = L ∧ ∀ i, i < L → t (s + i) = W i)) : ffX4_isWord ii R = some (if tK t len s = ii then 1 else 0) := by
  have fu := fu_big
  have hl := hR.1
  have heb := tE_b (t := t) hs
  unfold ffX4_isWord
  rw [h5, h3, h4, iI_sub, hL]
  by_cases q : s < len
  · by_cases ql : tL t s = true
    · obtain ⟨k1, k2, k3⟩ := tK_let q ql
      have he1 := tE_1 (t := t) q
      have hlet : ∀ i, i < tE t len s - s → 97 ≤ t (s + i) ∧ t (s + i) ≤ 122 := fun i hi => (tL_i t (s + i)).mp (tRun_all (tL t) (len - s) s (s + i) (by omega) (by rw [← k3]; omega))
      rw [k2, if_pos (by rfl)]
      by_cases qm : tE t len s - s = L
      · rw [if_pos (by congr 1; omega)]
        have hw : tK t len s = ii ↔ ∀ i, i < L → t (s + i) = W i := by
          rw [k1, if_pos (by omega), hq _ (by omega) (by omega) hlet]
          exact ⟨fun h => h.2, fun h => ⟨qm, h⟩⟩
        generalize kv_FU = F at fu ⊢
        rcases eqw_l hR h4 hL hn hL5 hW (by omega) L 0 F (by omega) (by omega) with ⟨a1, a2⟩ | ⟨⟨i, a1, a2, a3⟩, a4⟩
        · rw [if_pos (hw.mpr (fun i hi => a1 i (by omega) hi))]
          exact a2
        · rw [if_neg (fun h => a3 (hw.mp h i a2))]
          exact a4
      · rw [if_neg (by rw [iI_eq (by omega) (by omega) (by omega) (by omega)]; omega)]
        have hne : tK t len s ≠ ii := by
          rw [k1]
          split
          · exact fun h => qm ((hq _ (by omega) (by omega) hlet).mp h).1
          · omega
        rw [if_neg hne]
    · by_cases qd : tD t s = true
      · obtain ⟨k1, k2, -⟩ := tK_dig q ql qd
        have hne : tK t len s ≠ ii := by rw [k1]; split <;> omega
        have hne2 : tT t len s ≠ 1 ∧ tT t len s ≤ 4 := by rw [k2]; split <;> omega
        rw [if_neg hne, if_neg (by rw [iI_1, iI_eq (by omega) (by omega) (by omega) (by omega)]; omega)]
      · obtain ⟨k1, k2, -⟩ := tK_oth q ql qd
        have hne : tK t len s ≠ ii := by rw [k1]; split <;> omega
        have hne2 : tT t len s ≠ 1 ∧ tT t len s ≤ 4 := by rw [k2]; split <;> omega
        rw [if_neg hne, if_neg (by rw [iI_1, iI_eq (by omega) (by omega) (by omega) (by omega)]; omega)]
  · obtain ⟨k1, k2, -⟩ := tK_end (t := t) (len := len) (s := s) (by omega)
    rw [k1, k2, if_neg (by decide), if_neg (by omega)]
def jW (ii i : Nat) : Int := ((js_byt.getD ii []).getD i 0).toInt
def jC (ii L : Nat) : Bool := decide (js_n ii = iI (L : Int)) && decide (js_len.getD ii 0 = L) && (List.range L).all (fun i => decide (js_ch ii i = iI (jW ii i)) && decide (0 ≤ jW ii i ∧ jW ii i ≤ 127))
theorem jC_i {ii L : Nat} (h : jC ii L = true) : js_n ii = iI L ∧ js_len.getD ii 0 = L ∧ ∀ i, i < L → js_ch ii i = iI (jW ii i) ∧ 0 ≤ jW ii i ∧ jW ii i ≤ 127 := by
  unfold jC at h
  simp only [Bool.and_eq_true, decide_eq_true_eq, List.all_eq_true, List.mem_range] at h
  exact ⟨h.1.1, h.1.2, fun i hi => h.2 i hi⟩
theorem jC_0 : jC 0 5 = true := by decide +kernel
theorem jC_1 : jC 1 4 = true := by decide +kernel
theorem jC_2 : jC 2 3 = true := by decide +kernel
theorem jC_3 : jC 3 4 = true := by decide +kernel
theorem isWord_i {t : Nat → Int} {len s : Nat} {R : Mm} (hR : TR t len R) (hs : s ≤ len) (h3 : R 0 3 = iI ((tE t len s : Nat) : Int)) (h4 : R 0 4 = iI s) (h5 : R 0 5 = iI ((tT t len s : Nat) : Int)) {ii : Nat} (hii : ii < 4) : ffX4_isWord ii R = some (if tK t len s = ii then 1 else 0) := by
  rcases (show ii = 0 ∨ ii = 1 ∨ ii = 2 ∨ ii = 3 by omega) with rfl | rfl | rfl | rfl
  · obtain ⟨j1, j2, j3⟩ := jC_i jC_0
    refine isWord_g hR hs h3 h4 h5 hii j1 j2 (by omega) j3 (fun m h1 h5 hl => ?_)
    rw [mng_0, wq0 h1 h5 hl]
    refine ⟨fun ⟨e, a0, a1, a2, a3, a4⟩ => ⟨e, fun i hi => ?_⟩, fun ⟨e, a⟩ => ⟨e, a 0 (by omega), a 1 (by omega), a 2 (by omega), a 3 (by omega), a 4 (by omega)⟩⟩
    rcases (show i = 0 ∨ i = 1 ∨ i = 2 ∨ i = 3 ∨ i = 4 by omega) with rfl | rfl | rfl | rfl | rfl
    · exact a0
    · exact a1
    · exact a2
    · exact a3
    · exact a4
  · obtain ⟨j1, j2, j3⟩ := jC_i jC_1
    refine isWord_g hR hs h3 h4 h5 hii j1 j2 (by omega) j3 (fun m h1 h5 hl => ?_)
    rw [mng_1, wq1 h1 h5 hl]
    refine ⟨fun ⟨e, a0, a1, a2, a3⟩ => ⟨e, fun i hi => ?_⟩, fun ⟨e, a⟩ => ⟨e, a 0 (by omega), a 1 (by omega), a 2 (by omega), a 3 (by omega)⟩⟩
    rcases (show i = 0 ∨ i = 1 ∨ i = 2 ∨ i = 3 by omega) with rfl | rfl | rfl | rfl
    · exact a0
    · exact a1
    · exact a2
    · exact a3
  · obtain ⟨j1, j2, j3⟩ := jC_i jC_2
    refine isWord_g hR hs h3 h4 h5 hii j1 j2 (by omega) j3 (fun m h1 h5 hl => ?_)
    rw [mng_2, wq2 h1 h5 hl]
    refine ⟨fun ⟨e, a0, a1, a2⟩ => ⟨e, fun i hi => ?_⟩, fun ⟨e, a⟩ => ⟨e, a 0 (by omega), a 1 (by omega), a 2 (by omega)⟩⟩
    rcases (show i = 0 ∨ i = 1 ∨ i = 2 by omega) with rfl | rfl | rfl
    · exact a0
    · exact a1
    · exact a2
  · obtain ⟨j1, j2, j3⟩ := jC_i jC_3
    refine isWord_g hR hs h3 h4 h5 hii j1 j2 (by omega) j3 (fun m h1 h5 hl => ?_)
    rw [mng_3, wq3 h1 h5 hl]
    refine ⟨fun ⟨e, a0, a1, a2, a3⟩ => ⟨e, fun i hi => ?_⟩, fun ⟨e, a⟩ => ⟨e, a 0 (by omega), a 1 (by omega), a 2 (by omega), a 3 (by omega)⟩⟩
    rcases (show i = 0 ∨ i = 1 ∨ i = 2 ∨ i = 3 by omega) with rfl | rfl | rfl | rfl
    · exact a0
    · exact a1
    · exact a2
    · exact a3
/-! the model's next -/
def h8 (x : Int) : Int := if 0 ≤ x then x else x + 256
theorem by8 : (List.range 256).all (fun n => decide (iI ((n : Int) - 128) &&& 255 = iI (h8 ((n : Int) - 128)))) = true := by decide +kernel
theorem by8_i {x : Int} (h1 : -128 ≤ x) (h2 : x ≤ 127) : iI x &&& 255 = iI (h8 x) := by
  have h := List.all_eq_true.mp by8 (x + 128).toNat (List.mem_range.mpr (by omega))
  rw [decide_eq_true_eq, Int.toNat_of_nonneg (by omega), show x + 128 - 128 = x by omega] at h
  exact h
theorem h8_b {x : Int} (h1 : -128 ≤ x) (h2 : x ≤ 127) : 0 ≤ h8 x ∧ h8 x ≤ 255 ∧ (h8 x ≤ 127 ↔ 0 ≤ x) ∧ (0 ≤ x → h8 x = x) := by
  unfold h8
  split <;> omega
theorem here_i {t : Nat → Int} {len p : Nat} {Z : Mm} (h : TR t len Z) (h12 : Z 0 12 = iI p) (hp : p < len) : ffX8_here Z = some (iI (h8 (t p))) := by
  obtain ⟨h3, hb, h2, h1⟩ := h
  have hbp := hb p hp
  unfold ffX8_here
  rw [h2, h12, if_neg (by rw [iI_le (by omega) (by omega) (by omega) (by omega)]; omega), ixN (by omega) (by omega), iI_cn (j := p) (by omega), h1 p hp, by8_i hbp.1 hbp.2]
theorem here_e {t : Nat → Int} {len p : Nat} {Z : Mm} (h : TR t len Z) (h12 : Z 0 12 = iI p) (hp : len ≤ p) (hp2 : p ≤ 1000) : ffX8_here Z = some (-1) := by
  obtain ⟨h3, hb, h2, h1⟩ := h
  unfold ffX8_here
  rw [h2, h12, if_pos (by rw [iI_le (by omega) (by omega) (by omega) (by omega)]; omega)]
theorem skipM_l {t : Nat → Int} {len : Nat} (K : Mm → Option Mm) : ∀ (f p fu : Nat) (R : Mm), p + f = len → f < fu → TR t len R → R 0 12 = iI p → ∃ R', ffX8_next_L0 K fu R = K R' ∧ FrZ R R' ∧ R' 0 12 = iI ((tRun (tB t) f p : Nat) : Int) := by
  intro f
  induction f with
  | zero =>
    intro p fu R hp hf hR h3
    obtain ⟨fu, rfl⟩ : ∃ q, fu = q + 1 := ⟨fu - 1, by omega⟩
    have hl := hR.1
    refine ⟨R, ?_, FrZ.rf R, h3⟩
    rw [ffX8_next_L0_s, here_e hR h3 (by omega) (by omega), kv_b1_d, if_neg (by decide)]
  | succ f ih =>
    intro p fu R hp hf hR h3
    obtain ⟨fu, rfl⟩ : ∃ q, fu = q + 1 := ⟨fu - 1, by omega⟩
    have hl := hR.1
    have hb := hR.2.1 p (by omega)
    have hh := h8_b hb.1 hb.2
    rw [ffX8_next_L0_s, here_i hR h3 (by omega), kv_b1_d, tRun]
    by_cases q : t p = 32
    · rw [if_pos (by rw [q]; rfl), if_pos ((tB_i t p).mpr q), kv_lt_d, kv_lt_d, h3, l1, ix2]
      obtain ⟨R', e1, e2, e3⟩ := ih (p + 1) fu (mm_w R 0 (upd (R 0) 12 (iI ((p + 1 : Nat) : Int)))) (by omega) (by omega) (hR.z (FrZ.q (by omega))) q_s
      exact ⟨R', e1, (FrZ.q (by omega)).tr e2, e3⟩
    · rw [if_neg (by rw [show (32 : Int32) = iI 32 from rfl, iI_eq (by omega) (by omega) (by omega) (by omega)]; omega), if_neg (fun x => q ((tB_i t p).mp x))]
      exact ⟨R, rfl, FrZ.rf R, h3⟩
theorem inL {x : Int} (h1 : -128 ≤ x) (h2 : x ≤ 127) : ffX8_in (iI (h8 x)) (97 : Int32) (122 : Int32) = some (if 97 ≤ x ∧ x ≤ 122 then 1 else 0) := by
  have h := h8_b h1 h2
  rw [show (97 : Int32) = iI 97 from rfl, show (122 : Int32) = iI 122 from rfl, ffX8_in_i (by omega) (by omega) (by omega) (by omega) (by omega) (by omega)]
  by_cases q : 97 ≤ x ∧ x ≤ 122
  · rw [if_pos q, if_pos (by omega)]
  · rw [if_neg q, if_neg (by omega)]
theorem inDg {x : Int} (h1 : -128 ≤ x) (h2 : x ≤ 127) : ffX8_in (iI (h8 x)) (48 : Int32) (57 : Int32) = some (if 48 ≤ x ∧ x ≤ 57 then 1 else 0) := by
  have h := h8_b h1 h2
  rw [show (48 : Int32) = iI 48 from rfl, show (57 : Int32) = iI 57 from rfl, ffX8_in_i (by omega) (by omega) (by omega) (by omega) (by omega) (by omega)]
  by_cases q : 48 ≤ x ∧ x ≤ 57
  · rw [if_pos q, if_pos (by omega)]
  · rw [if_neg q, if_neg (by omega)]
/-- a word's code, as the model counts it -/
def tCm (t : Nat → Int) (s m : Nat) : Int := if m ≤ 5 then tC t s m else 0
theorem wordM_l {t : Nat → Int} {len s : Nat} (K : Int32 → Mm → Option Mm) : ∀ (f p fu : Nat) (R : Mm), p + f = len → s ≤ p → f < fu → TR t len R → R 0 12 = iI p → R 0 13 = iI s → ∃ R', ffX8_next_L65 K fu (iI (tCm t s (p - s))) R = K (iI (tCm t s (tRun (tL t) f p - s))) R' ∧ (∀ c, c ≠ 0 → R' c = R c) ∧ (∀ j, j ≠ 12 → R' 0 j = R 0 j) ∧ R' 0 12 = iI ((tRun (tL t) f p : Nat) : Int) := by
  intro f
  induction f with
  | zero =>
    intro p fu R hp hs hf hR h3 h13
    obtain ⟨fu, rfl⟩ : ∃ q, fu = q + 1 := ⟨fu - 1, by omega⟩
    have hl := hR.1
    refine ⟨R, ?_, fun _ _ => rfl, fun _ _ => rfl, h3⟩
    rw [ffX8_next_L65_s, here_e hR h3 (by omega) (by omega), kv_b1_d]
    rfl
  | succ f ih =>
    intro p fu R hp hs hf hR h3 h13
    obtain ⟨fu, rfl⟩ : ∃ q, fu = q + 1 := ⟨fu - 1, by omega⟩
    have hl := hR.1
    have hb := hR.2.1 p (by omega)
    have hh := h8_b hb.1 hb.2
    rw [ffX8_next_L65_s, here_i hR h3 (by omega), kv_b1_d, inL hb.1 hb.2, kv_b1_d, tRun]
    by_cases q : 97 ≤ t p ∧ t p ≤ 122
    · obtain ⟨R', e1, e2, e3, e4⟩ := ih (p + 1) fu (mm_w R 0 (upd (R 0) 12 (iI ((p + 1 : Nat) : Int)))) (by omega) (by omega) (by omega) (hR.z (FrZ.q (by omega))) q_s (by rw [q_n (by omega)]; exact h13)
      refine ⟨R', ?_, fun c hc => (e2 c hc).trans (q_c hc), fun j hj => (e3 j hj).trans (q_n hj), ?_⟩
      · rw [if_pos q, if_pos ((tL_i t p).mpr q), z_1]
        simp only [kv_lt_d, kv_b1_d]
        rw [h3, h13, iI_sub, l1, ix2]
        by_cases q5 : 5 ≤ p - s
        · rw [if_pos (by rw [show (5 : Int32) = iI 5 from rfl, iI_le (by omega) (by omega) (by omega) (by omega)]; omega)]
          have ec : tCm t s (p + 1 - s) = 0 := if_neg (by omega)
          rw [ec] at e1
          exact e1
        · rw [if_neg (by rw [show (5 : Int32) = iI 5 from rfl, iI_le (by omega) (by omega) (by omega) (by omega)]; omega)]
          have ec0 : tCm t s (p - s) = tC t s (p - s) := if_pos (by omega)
          have ec : tCm t s (p + 1 - s) = 27 * tC t s (p - s) + h8 (t p) - 96 := by
            unfold tCm
            rw [if_pos (by omega), show p + 1 - s = (p - s) + 1 by omega, tC, show s + (p - s) = p by omega, hh.2.2.2 (by omega)]
          rw [ec0, show (27 : Int32) = iI 27 from rfl, show (96 : Int32) = iI 96 from rfl, iI_mul, iI_add, iI_sub, ← ec]
          exact e1
      · rw [if_pos ((tL_i t p).mpr q)]
        exact e4
    · rw [if_neg q, if_neg (fun x => q ((tL_i t p).mp x)), z_0]
      exact ⟨R, rfl, fun _ _ => rfl, fun _ _ => rfl, h3⟩
/-- a number, as the model counts it -/
def vM (v x : Int) : Prop := 0 ≤ v ∧ 0 ≤ x ∧ x ≤ 2000 ∧ (v ≤ 99 → x = v) ∧ (99 < v → 99 < x)
theorem numM_l {t : Nat → Int} {len s : Nat} (K : Mm → Option Mm) : ∀ (f p fu : Nat) (R : Mm) (x : Int), p + f = len → s ≤ p → f < fu → TR t len R → R 0 12 = iI p → R 0 15 = iI x → vM (tV t s (p - s)) x → ∃ (R' : Mm) (y : Int), ffX8_next_L161 K fu R = K R' ∧ (∀ c, c ≠ 0 → R' c = R c) ∧ (∀ j, j ≠ 12 → j ≠ 15 → R' 0 j = R 0 j) ∧ R' 0 12 = iI ((tRun (tD t) f p : Nat) : Int) ∧ R' 0 15 = iI y ∧ vM (tV t s (tRun (tD t) f p - s)) y := by
  intro f
  induction f with
  | zero =>
    intro p fu R x hp hs hf hR h3 h15 hv
    obtain ⟨fu, rfl⟩ : ∃ q, fu = q + 1 := ⟨fu - 1, by omega⟩
    have hl := hR.1
    refine ⟨R, x, ?_, fun _ _ => rfl, fun _ _ _ => rfl, h3, h15, hv⟩
    rw [ffX8_next_L161_s, here_e hR h3 (by omega) (by omega), kv_b1_d]
    rfl
  | succ f ih =>
    intro p fu R x hp hs hf hR h3 h15 hv
    obtain ⟨fu, rfl⟩ : ∃ q, fu = q + 1 := ⟨fu - 1, by omega⟩
    have hl := hR.1
    have hb := hR.2.1 p (by omega)
    have hh := h8_b hb.1 hb.2
    rw [ffX8_next_L161_s, here_i hR h3 (by omega), kv_b1_d, inDg hb.1 hb.2, kv_b1_d, tRun]
    by_cases q : 48 ≤ t p ∧ t p ≤ 57
    · have ev : tV t s (p + 1 - s) = 10 * tV t s (p - s) + t p - 48 := by
        rw [show p + 1 - s = (p - s) + 1 by omega, tV, show s + (p - s) = p by omega]
      have next : ∀ y : Int, vM (tV t s (p + 1 - s)) y → ∃ (R' : Mm) (z : Int), ffX8_next_L161 K fu (mm_w (mm_w R 0 (upd (R 0) 15 (iI y))) 0 (upd (mm_w R 0 (upd (R 0) 15 (iI y)) 0) 12 (iI ((p + 1 : Nat) : Int)))) = K R' ∧ (∀ c, c ≠ 0 → R' c = R c) ∧ (∀ j, j ≠ 12 → j ≠ 15 → R' 0 j = R 0 j) ∧ R' 0 12 = iI ((tRun (tD t) f (p + 1) : Nat) : Int) ∧ R' 0 15 = iI z ∧ vM (tV t s (tRun (tD t) f (p + 1) - s)) z := fun y hy => by
        obtain ⟨R', z, e1, e2, e3, e4, e5, e6⟩ := ih (p + 1) fu (mm_w (mm_w R 0 (upd (R 0) 15 (iI y))) 0 (upd (mm_w R 0 (upd (R 0) 15 (iI y)) 0) 12 (iI ((p + 1 : Nat) : Int)))) y (by omega) (by omega) (by omega) (hR.z ((FrZ.q (by omega)).tr (FrZ.q (by omega)))) q_s (by rw [q_n (by omega), q_s]) hy
        exact ⟨R', z, e1, fun c hc => (e2 c hc).trans ((q_c hc).trans (q_c hc)), fun j h1 h2 => (e3 j h1 h2).trans ((q_n h1).trans (q_n h2)), e4, e5, e6⟩
      rw [if_pos q, if_pos ((tD_i t p).mpr q), z_1]
      simp only [kv_lt_d, kv_b1_d]
      rw [h15]
      obtain ⟨v0, x0, x1, v1, v2⟩ := hv
      by_cases q9 : x ≤ 99
      · rw [if_pos (by rw [show (99 : Int32) = iI 99 from rfl, iI_le (by omega) (by omega) (by omega) (by omega)]; exact q9), q_n (by omega), h3, show (10 : Int32) = iI 10 from rfl, show (48 : Int32) = iI 48 from rfl, iI_mul, iI_add, iI_sub, l1, ix2]
        refine next _ ?_
        rw [ev]
        unfold vM
        have := hh.2.2.2 (by omega)
        omega
      · rw [if_neg (by rw [show (99 : Int32) = iI 99 from rfl, iI_le (by omega) (by omega) (by omega) (by omega)]; exact q9), q_n (by omega), h3, l1, ix2]
        refine next _ ?_
        rw [ev]
        unfold vM
        omega
    · rw [if_neg q, if_neg (fun x => q ((tD_i t p).mp x)), z_0]
      exact ⟨R, x, rfl, fun _ _ => rfl, fun _ _ _ => rfl, h3, h15, hv⟩
