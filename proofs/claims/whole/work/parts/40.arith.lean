/-! NUMBERS: an Int32 as the image of an Int -/
def iI (z : Int) : Int32 := Int32.ofInt z
theorem iI_t (x : Int32) : iI x.toInt = x := Int32.ofInt_toInt x
theorem iI_i {z : Int} (h1 : -2147483648 ≤ z) (h2 : z < 2147483648) : (iI z).toInt = z := Int32.toInt_ofInt_of_le (by omega) (by omega)
theorem iI_add (a b : Int) : iI a + iI b = iI (a + b) := (Int32.ofInt_add a b).symm
theorem iI_sub (a b : Int) : iI a - iI b = iI (a - b) := (Int32.ofInt_sub a b).symm
theorem iI_mul (a b : Int) : iI a * iI b = iI (a * b) := (Int32.ofInt_mul a b).symm
theorem iI_neg (a : Int) : -iI a = iI (-a) := (Int32.ofInt_neg a).symm
theorem iI_le {a b : Int} (h1 : -2147483648 ≤ a) (h2 : a < 2147483648) (h3 : -2147483648 ≤ b) (h4 : b < 2147483648) : (iI a ≤ iI b) = (a ≤ b) := by
  rw [Int32.le_iff_toInt_le, iI_i h1 h2, iI_i h3 h4]
theorem iI_lt {a b : Int} (h1 : -2147483648 ≤ a) (h2 : a < 2147483648) (h3 : -2147483648 ≤ b) (h4 : b < 2147483648) : (iI a < iI b) = (a < b) := by
  rw [Int32.lt_iff_toInt_lt, iI_i h1 h2, iI_i h3 h4]
theorem iI_eq {a b : Int} (h1 : -2147483648 ≤ a) (h2 : a < 2147483648) (h3 : -2147483648 ≤ b) (h4 : b < 2147483648) : (iI a = iI b) = (a = b) := by
  rw [← Int32.toInt_inj, iI_i h1 h2, iI_i h3 h4]
theorem iI_n (n : Nat) : (OfNat.ofNat n : Int32) = iI (n : Int) := (Int32.ofInt_eq_ofNat (n := n)).symm
theorem iI_0 : (0 : Int32) = iI 0 := rfl
theorem iI_1 : (1 : Int32) = iI 1 := rfl
theorem iI_m1 : (-1 : Int32) = iI (-1) := rfl
theorem iI_cl {z : Int} (h1 : 0 ≤ z) (h2 : z < 2147483648) : (iI z).toNatClampNeg = z.toNat := Int32.toNatClampNeg_ofInt_of_le (by omega) (by omega)
theorem iI_cn {j : Nat} (h2 : (j : Int) < 2147483648) : (iI (j : Int)).toNatClampNeg = j := by rw [iI_cl (by omega) h2]; exact Int.toNat_natCast j
theorem iI_div {a b : Int} (h1 : 0 ≤ a) (h2 : a < 2147483648) (h3 : 0 < b) (h4 : b < 2147483648) : iI a / iI b = iI (a / b) := by
  have hne : iI b ≠ -1 := by
    intro h
    have h5 := congrArg Int32.toInt h
    rw [iI_i (by omega) h4] at h5
    have e : (-1 : Int32).toInt = -1 := by decide
    omega
  have h6 := Int.ediv_nonneg h1 (Int.le_of_lt h3)
  have h7 := Int.ediv_le_self b h1
  rw [← Int32.toInt_inj, Int32.toInt_div_of_ne_right _ _ hne, iI_i (by omega) h2, iI_i (by omega) h4, Int.tdiv_eq_ediv_of_nonneg h1, iI_i (by omega) (by omega)]
theorem iI_ix {β : Type} {z : Int} {n : Nat} {k : Option β} (h1 : 0 ≤ z) (h2 : z < n) (h3 : z < 2147483648) : kv_ix (iI z) n k = k := by
  unfold kv_ix
  rw [if_neg]
  rw [iI_cl h1 h3, iI_0, iI_lt (by omega) h3 (by omega) (by omega)]
  omega
theorem iI_out {β : Type} {z : Int} {n : Nat} {k : Option β} (h1 : 0 ≤ z) (h2 : (n : Int) ≤ z) (h3 : z < 2147483648) : kv_ix (iI z) n k = none := by
  unfold kv_ix
  rw [if_pos]
  rw [iI_cl h1 h3]
  omega
theorem iI_nz {β : Type} {z : Int} {k : Option β} (h0 : z ≠ 0) (h1 : -2147483648 ≤ z) (h2 : z < 2147483648) : kv_nz (iI z) k = k := by
  unfold kv_nz
  rw [if_neg]
  rw [iI_0, iI_eq h1 h2 (by omega) (by omega)]
  exact h0
theorem iI_of (x : Int32) : ∃ z : Int, -2147483648 ≤ z ∧ z < 2147483648 ∧ x = iI z := ⟨x.toInt, by have := x.le_toInt; omega, by have := x.toInt_lt; omega, (iI_t x).symm⟩
theorem kv_lt_d {α β : Type} (e : α) (k : α → β) : kv_lt e k = k e := rfl
theorem kv_b1_d {α β : Type} (a : α) (k : α → Option β) : kv_b1 (some a) k = k a := rfl
theorem kv_b2_d {α1 α2 β : Type} (a : α1) (b : α2) (k : α1 → α2 → Option β) : kv_b2 (some (a, b)) k = k a b := rfl
theorem kv_b3_d {α1 α2 α3 β : Type} (a : α1) (b : α2) (c : α3) (k : α1 → α2 → α3 → Option β) : kv_b3 (some (a, b, c)) k = k a b c := rfl
theorem kv_bo_0 {β : Type} (k : Option β) : kv_bo 0 k = k := rfl
theorem kv_bo_1 {β : Type} (k : Option β) : kv_bo 1 k = k := rfl
theorem kv_bo_i0 {β : Type} (k : Option β) : kv_bo (iI 0) k = k := rfl
theorem kv_bo_i1 {β : Type} (k : Option β) : kv_bo (iI 1) k = k := rfl
def sm (w : Nat → Int) : Nat → Int
  | 0 => 0
  | n + 1 => sm w n + w n
theorem sm_cong {f g : Nat → Int} : ∀ {n : Nat}, (∀ i, i < n → f i = g i) → sm f n = sm g n
  | 0, _ => rfl
  | n + 1, h => by rw [sm, sm, sm_cong (fun i hi => h i (by omega)), h n (by omega)]
theorem sm_bound {f : Nat → Int} {lo hi : Int} : ∀ {n : Nat}, (∀ i, i < n → lo ≤ f i ∧ f i ≤ hi) → n * lo ≤ sm f n ∧ sm f n ≤ n * hi
  | 0, _ => by simp [sm]
  | n + 1, h => by
    have h1 := sm_bound (n := n) (fun i hi => h i (by omega))
    have h2 := h n (by omega)
    simp only [sm, Int.natCast_add, Int.natCast_one, Int.add_mul, Int.one_mul]
    omega
theorem fu_big : 50000 ≤ kv_FU := by unfold kv_FU; omega
theorem up_same {f : Nat → Int32} {k : Nat} {x : Int32} : upd f k x k = x := if_pos rfl
theorem up_ne {f : Nat → Int32} {k j : Nat} {x : Int32} (h : j ≠ k) : upd f k x j = f j := if_neg h
/-- within -/
theorem ffX7_within_i {a b c : Int} (h1 : -2147483648 ≤ a) (h2 : a < 2147483648) (h3 : -2147483648 ≤ b) (h4 : b < 2147483648) (h5 : -2147483648 ≤ c) (h6 : c < 2147483648) : ffX7_within (iI a) (iI b) (iI c) = some (if b ≤ a ∧ a ≤ c then 1 else 0) := by
  unfold ffX7_within
  simp only [iI_lt h1 h2 h3 h4, iI_lt h5 h6 h1 h2]
  by_cases q1 : a < b
  · rw [if_pos q1, if_neg (by omega)]
  · rw [if_neg q1]
    by_cases q2 : c < a
    · rw [if_pos q2, if_neg (by omega)]
    · rw [if_neg q2, if_pos (by omega)]
theorem ffX8_in_i {a b c : Int} (h1 : -2147483648 ≤ a) (h2 : a < 2147483648) (h3 : -2147483648 ≤ b) (h4 : b < 2147483648) (h5 : -2147483648 ≤ c) (h6 : c < 2147483648) : ffX8_in (iI a) (iI b) (iI c) = some (if b ≤ a ∧ a ≤ c then 1 else 0) := by
  unfold ffX8_in
  simp only [iI_lt h1 h2 h3 h4, iI_lt h5 h6 h1 h2]
  by_cases q1 : a < b
  · rw [if_pos q1, if_neg (by omega)]
  · rw [if_neg q1]
    by_cases q2 : c < a
    · rw [if_pos q2, if_neg (by omega)]
    · rw [if_neg q2, if_pos (by omega)]
theorem wi_t {a b c : Int} (h1 : -2147483648 ≤ a) (h2 : a < 2147483648) (h3 : -2147483648 ≤ b) (h4 : b < 2147483648) (h5 : -2147483648 ≤ c) (h6 : c < 2147483648) (h : b ≤ a ∧ a ≤ c) : ffX7_within (iI a) (iI b) (iI c) = some 1 := by rw [ffX7_within_i h1 h2 h3 h4 h5 h6, if_pos h]
theorem wi_f {a b c : Int} (h1 : -2147483648 ≤ a) (h2 : a < 2147483648) (h3 : -2147483648 ≤ b) (h4 : b < 2147483648) (h5 : -2147483648 ≤ c) (h6 : c < 2147483648) (h : ¬ (b ≤ a ∧ a ≤ c)) : ffX7_within (iI a) (iI b) (iI c) = some 0 := by rw [ffX7_within_i h1 h2 h3 h4 h5 h6, if_neg h]
theorem in_t {a b c : Int} (h1 : -2147483648 ≤ a) (h2 : a < 2147483648) (h3 : -2147483648 ≤ b) (h4 : b < 2147483648) (h5 : -2147483648 ≤ c) (h6 : c < 2147483648) (h : b ≤ a ∧ a ≤ c) : ffX8_in (iI a) (iI b) (iI c) = some 1 := by rw [ffX8_in_i h1 h2 h3 h4 h5 h6, if_pos h]
theorem in_f {a b c : Int} (h1 : -2147483648 ≤ a) (h2 : a < 2147483648) (h3 : -2147483648 ≤ b) (h4 : b < 2147483648) (h5 : -2147483648 ≤ c) (h6 : c < 2147483648) (h : ¬ (b ≤ a ∧ a ≤ c)) : ffX8_in (iI a) (iI b) (iI c) = some 0 := by rw [ffX8_in_i h1 h2 h3 h4 h5 h6, if_neg h]
theorem z_0 {α : Type} (a b : α) : (if (0 : Int32) = 0 then a else b) = a := if_pos rfl
theorem z_1 {α : Type} (a b : α) : (if (1 : Int32) = 0 then a else b) = b := if_neg (by decide)
