/-! WHAT IS TOLD, AND A STAND, IN THEIR BOUNDS -/
def tv (M : Mm) (k i : Nat) : Int := (M k i).toInt
theorem tv_i (M : Mm) (k i : Nat) : M k i = iI (tv M k i) := (iI_t _).symm
def OkT (T : Mm) (n k st : Nat) : Prop := n ≤ 6 ∧ k ≤ 5 ∧ st ≤ 24 ∧ T 0 0 = iI n ∧ T 0 1 = iI k ∧ T 0 2 = iI st ∧ (∀ i, i < n → 1 ≤ tv T 1 i ∧ tv T 1 i ≤ 99 ∧ 1 ≤ tv T 2 i ∧ tv T 2 i ≤ 9 ∧ 1 ≤ tv T 3 i ∧ tv T 3 i ≤ 3) ∧ (∀ j, j < k → 1 ≤ tv T 4 j ∧ tv T 4 j ≤ 9 ∧ 0 ≤ tv T 5 j ∧ tv T 5 j ≤ 9) ∧ (∀ s, s < st → -9 ≤ tv T 6 s ∧ tv T 6 s ≤ 9)
def OkM (T M : Mm) (n k : Nat) (mx : Int) : Prop := 0 ≤ tv M 0 1 ∧ tv M 0 1 ≤ mx ∧ 0 ≤ tv M 0 2 ∧ tv M 0 2 ≤ 1000 ∧ (∀ i, i < n → 0 ≤ tv M 1 i ∧ tv M 1 i ≤ 2 * tv T 1 i ∧ 0 ≤ tv M 2 i ∧ tv M 2 i ≤ tv M 0 1 ∧ (0 ≤ tv M 3 i ∧ tv M 3 i < k ∨ tv M 3 i = 8 ∨ tv M 3 i = 9) ∧ (tv M 4 i = 0 ∨ tv M 4 i = 1))
def nSky (T : Mm) (st : Nat) (s : Int) : Int := if s < st then tv T 6 s.toNat else 0
def nW (T M : Mm) (sky : Int) (i : Nat) : Int :=
  if tv M 3 i = 8 then (if 0 < tv M 1 i - 1 then tv M 1 i - 1 else 0)
  else if tv M 3 i < 8 then
    (if sky < 0 then (if tv M 1 i + -sky * tv T 2 i < 2 * tv T 1 i then tv M 1 i + -sky * tv T 2 i else 2 * tv T 1 i)
     else (if 0 < tv M 1 i - (if 0 < (sky + tv T 5 (tv M 3 i).toNat) * tv T 3 i - tv M 0 2 then (sky + tv T 5 (tv M 3 i).toNat) * tv T 3 i - tv M 0 2 else 0) then tv M 1 i - (if 0 < (sky + tv T 5 (tv M 3 i).toNat) * tv T 3 i - tv M 0 2 then (sky + tv T 5 (tv M 3 i).toNat) * tv T 3 i - tv M 0 2 else 0) else 0))
  else tv M 1 i
def nL (T M : Mm) (sky : Int) (i : Nat) : Int := if tv M 3 i < 8 ∧ 0 ≤ sky then tv M 1 i - nW T M sky i else 0
def nA (T M : Mm) (sky : Int) (i : Nat) : Int := if 0 < nW T M sky i then tv M 2 i + 1 else 0
def nS (T M : Mm) (sky : Int) (i : Nat) : Int := if 12 ≤ nA T M sky i then 1 else tv M 4 i
/-- behind the first lim pieces of a step -/
def mP (T M : Mm) (sky : Int) (lim : Nat) : Mm := fun c j => if j < lim ∧ c = 1 then iI (nW T M sky j) else if j < lim ∧ c = 2 then iI (nA T M sky j) else if j < lim ∧ c = 4 then iI (nS T M sky j) else M c j
theorem mP_ge {T M : Mm} {sky : Int} {lim c j : Nat} (h : lim ≤ j) : mP T M sky lim c j = M c j := by
  unfold mP
  rw [if_neg (by omega), if_neg (by omega), if_neg (by omega)]
theorem mP_3 {T M : Mm} {sky : Int} {lim j : Nat} : mP T M sky lim 3 j = M 3 j := by
  unfold mP
  rw [if_neg (by omega), if_neg (by omega), if_neg (by omega)]
theorem mP_c0 {T M : Mm} {sky : Int} {lim j : Nat} : mP T M sky lim 0 j = M 0 j := by
  unfold mP
  rw [if_neg (by omega), if_neg (by omega), if_neg (by omega)]
theorem ffX6_skyIn_i {T : Mm} {n k st : Nat} (hT : OkT T n k st) {s : Int} (h0 : 0 ≤ s) (h1 : s < 1000000) : ffX6_skyIn (iI s) T = some (iI (nSky T st s)) := by
  obtain ⟨-, -, h24, -, -, hst, -⟩ := hT
  unfold ffX6_skyIn nSky
  rw [hst, iI_1, iI_sub]
  by_cases q : s < st
  · rw [show (0 : Int32) = iI 0 from rfl, wi_t (by omega) (by omega) (by omega) (by omega) (by omega) (by omega) (by omega), kv_b1_d, ← iI_0, z_1, if_pos q, iI_ix h0 (by omega) (by omega), iI_cl h0 (by omega), ← tv_i]
  · rw [show (0 : Int32) = iI 0 from rfl, wi_f (by omega) (by omega) (by omega) (by omega) (by omega) (by omega) (by omega), kv_b1_d, ← iI_0, z_0, if_neg q]
    rfl
theorem nSky_b {T : Mm} {n k st : Nat} (hT : OkT T n k st) {s : Int} (h0 : 0 ≤ s) : -9 ≤ nSky T st s ∧ nSky T st s ≤ 9 := by
  unfold nSky
  by_cases q : s < st
  · rw [if_pos q]
    exact hT.2.2.2.2.2.2.2.2 s.toNat (by omega)
  · rw [if_neg q]
    omega
theorem ha_t {T M : Mm} {k i : Nat} {p : Int} (hk : T 0 1 = iI k) (h5 : k ≤ 5) (hi : i < 6) (hp : M 3 i = iI p) (h1 : 0 ≤ p) (h2 : p < k) : ffX3_hangs (iI i) T M = some 1 := by
  unfold ffX3_hangs
  rw [iI_ix (by omega) (by omega) (by omega), iI_cn (by omega), hp, hk, iI_1, iI_sub, iI_0, wi_t (by omega) (by omega) (by omega) (by omega) (by omega) (by omega) (by omega), kv_b1_d, kv_bo_1]
  rfl
theorem ha_f {T M : Mm} {k i : Nat} {p : Int} (hk : T 0 1 = iI k) (h5 : k ≤ 5) (hi : i < 6) (hp : M 3 i = iI p) (h1 : 0 ≤ p) (h2 : p < 1000) (h3 : k ≤ p) : ffX3_hangs (iI i) T M = some 0 := by
  unfold ffX3_hangs
  rw [iI_ix (by omega) (by omega) (by omega), iI_cn (by omega), hp, hk, iI_1, iI_sub, iI_0, wi_f (by omega) (by omega) (by omega) (by omega) (by omega) (by omega) (by omega), kv_b1_d, kv_bo_0]
  rfl
theorem mul_b {a b A B : Int} (h1 : 0 ≤ a) (h2 : a ≤ A) (h3 : 0 ≤ b) (h4 : b ≤ B) : 0 ≤ a * b ∧ a * b ≤ A * B := ⟨Int.mul_nonneg h1 h3, Int.mul_le_mul h2 h4 h3 (by omega)⟩
theorem ffX6_soaked_i {T : Mm} {n k st i : Nat} (hT : OkT T n k st) (hi : i < n) {w r t : Int} (h1 : 0 ≤ w) (h2 : w ≤ 1000) (h3 : 0 ≤ r) (h4 : r ≤ 9) (h5 : 0 ≤ t) (h6 : t ≤ 10) : ffX6_soaked (iI i) (iI w) (iI r) (iI t) T = some (iI (if w + t * r * tv T 2 i < 2 * tv T 1 i then w + t * r * tv T 2 i else 2 * tv T 1 i)) := by
  have hb := hT.2.2.2.2.2.2.1 i hi
  have hn := hT.1
  have m1 := mul_b h5 h6 h3 h4
  have m2 := mul_b m1.1 m1.2 (by omega : 0 ≤ tv T 2 i) (by omega : tv T 2 i ≤ 9)
  unfold ffX6_soaked
  rw [iI_ix (by omega) (by omega) (by omega), iI_ix (by omega) (by omega) (by omega), iI_cn (by omega), tv_i T 2 i, tv_i T 1 i, show (2 : Int32) = iI 2 from rfl, iI_mul, iI_mul, iI_mul, iI_add]
  simp (disch := omega) only [iI_lt]
  split <;> rfl
theorem ffX3_pull_i {T M : Mm} {n k st i : Nat} (hT : OkT T n k st) (hi : i < n) {sky p d : Int} (h1 : 0 ≤ sky) (h2 : sky ≤ 9) (hp : M 3 i = iI p) (h3 : 0 ≤ p) (h4 : p < k) (hd : M 0 2 = iI d) (h5 : 0 ≤ d) (h6 : d ≤ 1000) : ffX3_pull (iI i) (iI sky) T M = some (iI (if 0 < (sky + tv T 5 p.toNat) * tv T 3 i - d then (sky + tv T 5 p.toNat) * tv T 3 i - d else 0)) := by
  have hb := hT.2.2.2.2.2.2.1 i hi
  have hw := hT.2.2.2.2.2.2.2.1 p.toNat (by omega)
  have hn := hT.1
  have hk := hT.2.1
  have m1 := mul_b (by omega : 0 ≤ sky + tv T 5 p.toNat) (by omega : sky + tv T 5 p.toNat ≤ 18) (by omega : 0 ≤ tv T 3 i) (by omega : tv T 3 i ≤ 3)
  unfold ffX3_pull
  rw [iI_ix (by omega) (by omega) (by omega), iI_cn (by omega), hp, iI_ix (by omega) (by omega) (by omega), iI_ix (by omega) (by omega) (by omega), iI_cl h3 (by omega), tv_i T 5 p.toNat, tv_i T 3 i, hd, iI_add, iI_mul, iI_sub, iI_0]
  simp (disch := omega) only [iI_lt]
  split <;> rfl
theorem ffX3_grow_i {M : Mm} {i : Nat} (hi : i < 6) {w a : Int} (hw : M 1 i = iI w) (h1 : 0 ≤ w) (h2 : w ≤ 1000) (ha : M 2 i = iI a) (h3 : 0 ≤ a) (h4 : a ≤ 1000000) : ffX3_grow (iI i) M = some (if 12 ≤ (if 0 < w then a + 1 else 0) then mm_w (mm_w M 2 (upd (M 2) i (iI (if 0 < w then a + 1 else 0)))) 4 (upd (M 4) i 1) else mm_w M 2 (upd (M 2) i (iI (if 0 < w then a + 1 else 0)))) := by
  unfold ffX3_grow
  have key : ∀ b : Int, 0 ≤ b → b ≤ 1000001 → (kv_ix (iI i) 6 (kv_lt (mm_w M 2 (upd (M 2) (iI i).toNatClampNeg (iI b))) fun mM3 => kv_ix (iI i) 6 (if mM3 2 (iI i).toNatClampNeg < (12 : Int32) then some mM3 else kv_ix (iI i) 6 (kv_lt (mm_w mM3 4 (upd (mM3 4) (iI i).toNatClampNeg (vp_nar .boolean 1))) fun mM4 => some mM4)))) = some (if 12 ≤ b then mm_w (mm_w M 2 (upd (M 2) i (iI b))) 4 (upd (M 4) i 1) else mm_w M 2 (upd (M 2) i (iI b))) := by
    intro b hb1 hb2
    rw [iI_ix (by omega) (by omega) (by omega), kv_lt_d, iI_ix (by omega) (by omega) (by omega), iI_cn (by omega), mm_w_same, up_same, show (12 : Int32) = iI 12 from rfl]
    simp (disch := omega) only [iI_lt]
    by_cases q : b < 12
    · rw [if_pos q, if_neg (by omega)]
    · rw [if_neg q, if_pos (by omega), iI_ix (by omega) (by omega) (by omega), kv_lt_d, mm_w_ne (by decide)]
      rfl
  rw [iI_ix (by omega) (by omega) (by omega), kv_lt_d, iI_cn (by omega), hw, iI_0]
  simp (disch := omega) only [iI_le]
  by_cases q : 0 < w
  · rw [if_neg (by omega), iI_ix (by omega) (by omega) (by omega), ha, iI_1, iI_add]
    rw [if_pos q]
    have := key (a + 1) (by omega) (by omega)
    rw [iI_cn (by omega)] at this
    exact this
  · rw [if_pos (by omega), if_neg q]
    have := key 0 (by omega) (by omega)
    rw [iI_cn (by omega)] at this
    exact this
