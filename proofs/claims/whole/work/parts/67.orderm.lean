/-! order: the model -/
/-- a least so far: its number, and its row -/
def MO (z0 : Int32) (row : Nat → Nat → Int32) (m : Nat) (S : Option (Int × Nat)) (x : Int32) (f : Nat → Int32) : Prop := match S with
  | none => x = z0
  | some p => x = iI p.1 ∧ 0 ≤ p.1 ∧ p.1 < 1000000 ∧ ∀ j, j < m → f j = row p.2 j
theorem MO.eq {z0 : Int32} {row : Nat → Nat → Int32} {m : Nat} {S : Option (Int × Nat)} {x : Int32} {f g : Nat → Int32} (h : MO z0 row m S x f) (e : ∀ j, j < m → g j = f j) : MO z0 row m S x g := by
  cases S with
  | none => exact h
  | some p => exact ⟨h.1, h.2.1, h.2.2.1, fun j hj => by rw [e j hj]; exact h.2.2.2 j hj⟩
theorem MO.m {row : Nat → Nat → Int32} {m : Nat} {S : Option (Int × Nat)} {x : Int32} {f : Nat → Int32} (h : MO (-9) row m S x f) {v : Nat → Prop} [DecidablePred v] {w : Nat → Int} {c : Nat} (hv : v c) (h0 : 0 ≤ w c) (h1 : w c < 1000000) : ((x = -9 ∨ ¬ x ≤ iI (w c)) ∧ fs v w S c = some (w c, c)) ∨ (x ≠ -9 ∧ x ≤ iI (w c) ∧ fs v w S c = S) := by
  unfold fs
  rw [if_pos hv]
  cases S with
  | none => exact Or.inl ⟨Or.inl h, rfl⟩
  | some p =>
    obtain ⟨rfl, p0, p1, -⟩ := h
    have e : (iI p.1 ≤ iI (w c)) = (p.1 ≤ w c) := iI_le (by omega) (by omega) (by omega) (by omega)
    by_cases q : w c < p.1
    · exact Or.inl ⟨Or.inr (by rw [e]; omega), if_pos q⟩
    · refine Or.inr ⟨?_, by rw [e]; omega, if_neg q⟩
      rw [show (-9 : Int32) = iI (-9) from rfl, Ne, iI_eq (by omega) (by omega) (by omega) (by omega)]
      omega
theorem MO.c {row : Nat → Nat → Int32} {m : Nat} {S : Option (Int × Nat)} {x : Int32} {f : Nat → Int32} (h : MO (iI 1000000) row m S x f) {v : Nat → Prop} [DecidablePred v] {w : Nat → Int} {c : Nat} (hv : v c) (h0 : 0 ≤ w c) (h1 : w c < 1000000) : (¬ x ≤ iI (w c) ∧ fs v w S c = some (w c, c)) ∨ (x ≤ iI (w c) ∧ fs v w S c = S) := by
  unfold fs
  rw [if_pos hv]
  cases S with
  | none =>
    have h' : x = iI 1000000 := h
    refine Or.inl ⟨?_, rfl⟩
    rw [h', iI_le (by omega) (by omega) (by omega) (by omega)]
    omega
  | some p =>
    obtain ⟨rfl, p0, p1, -⟩ := h
    have e : (iI p.1 ≤ iI (w c)) = (p.1 ≤ w c) := iI_le (by omega) (by omega) (by omega) (by omega)
    by_cases q : w c < p.1
    · exact Or.inl ⟨by rw [e]; omega, if_pos q⟩
    · exact Or.inr ⟨by rw [e]; omega, if_neg q⟩
/-- what a piece has more, if it is taken in as number j -/
def dW (T P : Mm) (r : Int) (i j : Nat) : Int := (if tv P 1 i + (j : Int) * r * tv T 2 i < 2 * tv T 1 i then tv P 1 i + (j : Int) * r * tv T 2 i else 2 * tv T 1 i) - tv P 1 i
def wd (g : Nat → Nat → Int) (B : Nat) : Nat → Nat → Int
  | 0, _ => 0
  | d + 1, v => wd g B d (v / B) + g (v % B) d
theorem rw6_l {B d v : Nat} : rw6 B (d + 1) v d = v % B := if_pos rfl
theorem rw6_n {B d v j : Nat} (h : j ≠ d) : rw6 B (d + 1) v j = rw6 B d (v / B) j := if_neg h
theorem wd_sm (g : Nat → Nat → Int) (B : Nat) : ∀ (d v : Nat), sm (fun j => g (rw6 B d v j) j) d = wd g B d v
  | 0, _ => rfl
  | d + 1, v => by
    have e1 : sm (fun j => g (rw6 B (d + 1) v j) j) d = sm (fun j => g (rw6 B d (v / B) j) j) d := sm_cong (fun j hj => by
      show g (rw6 B (d + 1) v j) j = g (rw6 B d (v / B) j) j
      rw [rw6_n (by omega)])
    show sm (fun j => g (rw6 B (d + 1) v j) j) d + g (rw6 B (d + 1) v d) d = wd g B d (v / B) + g (v % B) d
    rw [e1, rw6_l, wd_sm g B d (v / B)]
theorem vd_dig {B : Nat} : ∀ (d : Nat) (b : Nat → Bool) (v j : Nat), vd B b d v → j < d → b (rw6 B d v j) = true
  | 0, _, _, _, _, h => absurd h (by omega)
  | d + 1, b, v, j, h, hj => by
    by_cases q : j = d
    · rw [q, rw6_l]
      exact h.1
    · rw [rw6_n q]
      exact ((bm_i b (v % B) _).mp (vd_dig d (bm b (v % B)) (v / B) j h.2 (by omega))).1
theorem dW_b {T P : Mm} {n k st : Nat} {mx : Int} (hT : OkT T n k st) (hM : OkM T P n k mx) {r : Int} (h1 : 0 ≤ r) (h2 : r ≤ 9) {i j : Nat} (hi : i < n) : 0 ≤ dW T P r i j ∧ dW T P r i j ≤ 198 := by
  have hb := hT.2.2.2.2.2.2.1 i hi
  have hm := hM.2.2.2.2 i hi
  have m1 : 0 ≤ (j : Int) * r := Int.mul_nonneg (by omega) h1
  have m2 : 0 ≤ (j : Int) * r * tv T 2 i := Int.mul_nonneg m1 (by omega)
  unfold dW
  split <;> omega
theorem wd_b {T P : Mm} {n k st : Nat} {mx : Int} (hT : OkT T n k st) (hM : OkM T P n k mx) {r : Int} (h1 : 0 ≤ r) (h2 : r ≤ 9) {b : Nat → Bool} (h0 : ∀ i, n ≤ i → b i = false) {d v : Nat} (hv : vd 6 b d v) : 0 ≤ wd (dW T P r) 6 d v ∧ wd (dW T P r) 6 d v ≤ d * 198 := by
  rw [← wd_sm]
  have h := sm_bound (f := fun j => dW T P r (rw6 6 d v j) j) (lo := 0) (hi := 198) (n := d) (fun j hj => dW_b hT hM h1 h2 (by
    have q := vd_dig d b v j hv hj
    refine Nat.lt_of_not_le (fun x => ?_)
    rw [h0 _ x] at q
    exact absurd q (by decide)))
  exact ⟨by have := h.1; omega, h.2⟩
theorem RN.fr {T P Z Z' : Mm} {n k st : Nat} (h : RN T P Z n k st) (f : Fr Z Z') : RN T P Z' n k st := by
  obtain ⟨hT, hRT, hM, hP, hS⟩ := h
  exact ⟨hT, hRT.eq (fun c hc => f.1 c (by omega)), hM, hP, hS.eq hT.1 (fun j h1 h2 => f.2 j (by omega))⟩
theorem waterBy_l {T P Z : Mm} {n k st : Nat} (hN : RN T P Z n k st) {r : Int} (h1 : 1 ≤ r) (h2 : r ≤ 9) {m : Nat} (hm : m ≤ 5) {row : Nat → Nat} (hrow : ∀ j, j < m → Z 15 j = iI ((row j : Nat) : Int) ∧ row j < n) {aw : Int} : ∀ (d j fm : Nat), j + d = m → d < fm → ffX8_waterBy_L9 (iI m) (iI r) Z (fun (x10 : Int32) (x11 : Int32) => some x11) fm (iI j) (iI (aw + sm (fun j => dW T P r (row j) j) j)) = some (iI (aw + sm (fun j => dW T P r (row j) j) m)) := by
  obtain ⟨hT, hRT, hM, hP, hS⟩ := hN
  have hn := hT.1
  intro d
  induction d with
  | zero =>
    intro j fm hj hf
    obtain ⟨fm, rfl⟩ : ∃ q, fm = q + 1 := ⟨fm - 1, by omega⟩
    have hin : j = m := by omega
    subst hin
    rw [ffX8_waterBy_L9_s, if_pos (by rw [iI_le (by omega) (by omega) (by omega) (by omega)]; omega)]
  | succ d ih =>
    intro j fm hj hf
    obtain ⟨fm, rfl⟩ : ∃ q, fm = q + 1 := ⟨fm - 1, by omega⟩
    obtain ⟨z15, hi⟩ := hrow j (by omega)
    have next := ih (j + 1) fm (by omega) (by omega)
    rw [sm] at next
    generalize row j = i at *
    have hb := hT.2.2.2.2.2.2.1 i hi
    have hmm := hM.2.2.2.2 i hi
    obtain ⟨z3, z4, z5⟩ := hRT.2.2.2.1 i hi
    have s1 := (hS.2.2 i hi).1
    rw [Nat.zero_add] at s1
    have m1 := mul_b (by omega : 0 ≤ (j : Int)) (by omega : (j : Int) ≤ 5) (by omega : 0 ≤ r) h2
    have m2 := mul_b m1.1 m1.2 (by omega : 0 ≤ tv T 2 i) (by omega : tv T 2 i ≤ 9)
    rw [ffX8_waterBy_L9_s, if_neg (by rw [iI_le (by omega) (by omega) (by omega) (by omega)]; omega), ixN (by omega) (by omega), iI_cn (j := j) (by omega), z15]
    simp only [kv_lt_d]
    simp only [l2, ix2, l1]
    rw [ixN (by omega) (by omega), ixN (by omega) (by omega), ixN (by omega) (by omega)]
    simp only [iI_cn (j := 2 + i) (by omega), iI_cn (j := i) (by omega), ixN (show 2 + i < 104 by omega) (show ((104 : Nat) : Int) < 2147483648 by omega), ixN (show i < 12 by omega) (show ((12 : Nat) : Int) < 2147483648 by omega)]
    rw [s1, z3, z4, tv_i P 1 i, tv_i T 1 i, tv_i T 2 i]
    simp only [iI_mul, iI_add, iI_sub]
    have e : dW T P r i j = (if tv P 1 i + (j : Int) * r * tv T 2 i < 2 * tv T 1 i then tv P 1 i + (j : Int) * r * tv T 2 i else 2 * tv T 1 i) - tv P 1 i := rfl
    generalize (j : Int) * r * tv T 2 i = y at *
    by_cases q : tv P 1 i + y ≤ 2 * tv T 1 i
    · rw [if_pos (by rw [iI_le (by omega) (by omega) (by omega) (by omega)]; omega), ← next, e]
      congr 2
      split <;> omega
    · rw [if_neg (by rw [iI_le (by omega) (by omega) (by omega) (by omega)]; omega), ← next, e]
      congr 2
      split <;> omega
theorem bestRow_l {m : Nat} (hm : m ≤ 5) (K : Int32 → Mm → Option (Int32 × Mm)) : ∀ (d j fm : Nat) (Z : Mm), j + d = m → d < fm → ∃ f : Nat → Int32, (∀ i, j ≤ i → i < m → f i = Z 15 i) ∧ (∀ i, i < j → f i = Z 16 i) ∧ ffX8_order_L114 (iI m) K fm (iI j) Z = K (iI m) (mm_w Z 16 f) := by
  intro d
  induction d with
  | zero =>
    intro j fm Z hj hf
    obtain ⟨fm, rfl⟩ : ∃ q, fm = q + 1 := ⟨fm - 1, by omega⟩
    have hin : j = m := by omega
    subst hin
    refine ⟨Z 16, fun i h1 h2 => by omega, fun i _ => rfl, ?_⟩
    rw [ffX8_order_L114_s, if_pos (by rw [iI_le (by omega) (by omega) (by omega) (by omega)]; omega), mm_w_self]
  | succ d ih =>
    intro j fm Z hj hf
    obtain ⟨fm, rfl⟩ : ∃ q, fm = q + 1 := ⟨fm - 1, by omega⟩
    obtain ⟨f, f1, f2, f3⟩ := ih (j + 1) fm (mm_w Z 16 (upd (Z 16) j (Z 15 j))) (by omega) (by omega)
    rw [mm_w_w] at f3
    refine ⟨f, fun i h1 h2 => ?_, fun i h1 => ?_, ?_⟩
    · by_cases q : i = j
      · rw [q, f2 j (by omega), mm_w_same, upd_sm]
      · rw [f1 i (by omega) h2, mm_w_ne (by omega)]
    · rw [f2 i (by omega), mm_w_same, upd_nn (by omega)]
    · rw [ffX8_order_L114_s, if_neg (by rw [iI_le (by omega) (by omega) (by omega) (by omega)]; omega), ixN (by omega) (by omega), kv_lt_d, ixN (by omega) (by omega), kv_lt_d, kv_lt_d, iI_cn (j := j) (by omega), l1, ix2]
      exact f3
theorem bestRow_i {m : Nat} (hm : m ≤ 5) (K : Int32 → Mm → Option (Int32 × Mm)) (Z : Mm) : ∃ f : Nat → Int32, (∀ i, i < m → f i = Z 15 i) ∧ ffX8_order_L114 (iI m) K kv_FU 0 Z = K (iI m) (mm_w Z 16 f) := by
  have fu := fu_big
  generalize kv_FU = F at fu ⊢
  obtain ⟨f, f1, f2, f3⟩ := bestRow_l hm K m 0 F Z (by omega) (by omega)
  exact ⟨f, fun i hi => f1 i (by omega) hi, f3⟩
theorem orderM {T P Z0 : Mm} {n k st : Nat} (hN : RN T P Z0 n k st) {r : Int} (h1 : 1 ≤ r) (h2 : r ≤ 9) {m C : Nat} (hm : m ≤ 5) (hC : C ≤ 10000) {b : Nat → Bool} [DecidablePred (vd 6 b m)] (h0 : ∀ i, n ≤ i → b i = false) {aw : Int} (ha : aw = sm (fun j => tv P 1 j) n) (a0 : 0 ≤ aw) (a1 : aw ≤ 2000) (K : Int32 → Int32 → Mm → Option (Int32 × Mm)) : ∀ (d a fm : Nat) (S : Option (Int × Nat)) (x : Int32) (Z : Mm), a + d = C → d < fm → Fr Z0 Z → MO (-9) (fun c j => iI ((rw6 6 m c j : Nat) : Int)) m S x (Z 16) → ∃ (x' : Int32) (Z' : Mm), ffX8_order_L65 (iI r) (hB b n) (iI m) (iI C) K fm (iI a) x Z = K (iI C) x' Z' ∧ Fr Z0 Z' ∧ MO (-9) (fun c j => iI ((rw6 6 m c j : Nat) : Int)) m (fo (vd 6 b m) (fun c => aw + wd (dW T P r) 6 m c) S a d) x' (Z' 16) := by
  have hn := hN.1.1
  have fu := fu_big
  intro d
  induction d with
  | zero =>
    intro a fm S x Z hd hf hF hO
    obtain ⟨fm, rfl⟩ : ∃ q, fm = q + 1 := ⟨fm - 1, by omega⟩
    have hin : a = C := by omega
    subst hin
    refine ⟨x, Z, ?_, hF, hO⟩
    rw [ffX8_order_L65_s, if_pos (by rw [iI_le (by omega) (by omega) (by omega) (by omega)]; omega)]
  | succ d ih =>
    intro a fm S x Z hd hf hF hO
    obtain ⟨fm, rfl⟩ : ∃ q, fm = q + 1 := ⟨fm - 1, by omega⟩
    have ef : fo (vd 6 b m) (fun c => aw + wd (dW T P r) 6 m c) S a (d + 1) = fo (vd 6 b m) (fun c => aw + wd (dW T P r) 6 m c) (fs (vd 6 b m) (fun c => aw + wd (dW T P r) 6 m c) S a) (a + 1) d := by
      rw [Nat.add_comm d 1, fo_add]
      rfl
    rw [ef]
    obtain ⟨f, f1, f2⟩ := isRow_l hn m a kv_FU b Z hm (by omega) (by omega) h0
    have hF2 : Fr Z0 (mm_w Z 15 f) := hF.tr (Fr.w 15 (by omega) f)
    have ea : iI (a : Int) + 1 = iI ((a + 1 : Nat) : Int) := by rw [l1, ix2]
    have em : iI (m : Int) - 1 = iI ((m : Int) - 1) := by rw [iI_1, iI_sub]
    have er : ffX8_isRow (iI a) (iI m) (hB b n) Z = ffX8_isRow_L11 (fun (x11 : Int32) (x12 : Int32) (x13 : Int32) (mZ14 : Mm) => some (1, mZ14)) kv_FU (iI ((m : Int) - 1)) (hB b n) (iI a) Z := by
      unfold ffX8_isRow
      rw [kv_lt_d, em]
    rw [ffX8_order_L65_s, if_neg (by rw [iI_le (by omega) (by omega) (by omega) (by omega)]; omega), er]
    simp only [kv_lt_d, ea]
    rcases f2 with ⟨g1, g2, g3⟩ | ⟨g1, g3⟩
    · rw [g3, kv_b2_d, if_neg (by decide)]
      have hN2 := hN.fr hF2
      have hwb := wd_b hN.1 hN.2.2.1 (by omega : 0 ≤ r) h2 h0 g1
      have hwater : ffX8_waterBy (iI m) (iI r) (mm_w Z 15 f) = some (iI (aw + wd (dW T P r) 6 m a)) := by
        unfold ffX8_waterBy
        have e0 : ffX8_allWater (0 : Int32) (mm_w Z 15 f) = some (iI (sm (fun j => tv P 1 j) n)) := allWm_i (o := 0) hN2.1 hN2.2.1 hN2.2.2.2.2 (by omega)
        rw [e0, kv_b1_d, ← ha, ← wd_sm]
        generalize kv_FU = F at fu ⊢
        have hw := waterBy_l hN2 h1 h2 hm (row := rw6 6 m a) (aw := aw) (fun j hj => ⟨by rw [mm_w_same]; exact g2 j hj, by
          have q := vd_dig m b a j g1 hj
          refine Nat.lt_of_not_le (fun x => ?_)
          rw [h0 _ x] at q
          exact absurd q (by decide)⟩) m 0 F (by omega) (by omega)
        rw [show sm (fun j => dW T P r (rw6 6 m a j) j) 0 = 0 from rfl, Int.add_zero] at hw
        exact hw
      rw [hwater, kv_b1_d]
      obtain ⟨f', b1, b3⟩ := bestRow_i hm (fun (x24 : Int32) (mZ25 : Mm) => ffX8_order_L65 (iI r) (hB b n) (iI m) (iI C) K fm (iI ((a + 1 : Nat) : Int)) (iI (aw + wd (dW T P r) 6 m a)) mZ25) (mm_w Z 15 f)
      rw [b3]
      rcases hO.m (v := vd 6 b m) (w := fun c => aw + wd (dW T P r) 6 m c) g1 (by show 0 ≤ aw + wd (dW T P r) 6 m a; omega) (by show aw + wd (dW T P r) 6 m a < 1000000; omega) with ⟨q1, q2⟩ | ⟨q1, q2, q3⟩
      · have hnew : MO (-9) (fun c j => iI ((rw6 6 m c j : Nat) : Int)) m (fs (vd 6 b m) (fun c => aw + wd (dW T P r) 6 m c) S a) (iI (aw + wd (dW T P r) 6 m a)) (mm_w (mm_w Z 15 f) 16 f' 16) := by
          rw [q2]
          refine ⟨rfl, ?_, ?_, fun j hj => ?_⟩
          · show 0 ≤ aw + wd (dW T P r) 6 m a
            omega
          · show aw + wd (dW T P r) 6 m a < 1000000
            omega
          · rw [mm_w_same, b1 j hj, mm_w_same]
            exact g2 j hj
        obtain ⟨x', Z', e1, e2, e3⟩ := ih (a + 1) fm _ _ (mm_w (mm_w Z 15 f) 16 f') (by omega) (by omega) (hF2.tr (Fr.w 16 (by omega) f')) hnew
        refine ⟨x', Z', ?_, e2, e3⟩
        by_cases q9 : x = -9
        · rw [if_pos q9]
          exact e1
        · rw [if_neg q9, if_neg (q1.resolve_left q9)]
          exact e1
      · rw [if_neg q1, if_pos q2, q3]
        exact ih (a + 1) fm S x _ (by omega) (by omega) hF2 (hO.eq (fun j _ => by rw [mm_w_ne (by omega)]))
    · rw [g3, kv_b2_d, if_pos rfl]
      have es : fs (vd 6 b m) (fun c => aw + wd (dW T P r) 6 m c) S a = S := if_neg g1
      rw [es]
      exact ih (a + 1) fm S x _ (by omega) (by omega) hF2 (hO.eq (fun j _ => by rw [mm_w_ne (by omega)]))
