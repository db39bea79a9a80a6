/-! the set of what hangs, as the rows use it up -/
def bn (n : Nat) (b : Nat → Bool) : Nat → Bool := fun i => decide (i < n) && b i
def bC (b : Nat → Bool) (n : Nat) : Bool := (List.range 6).all (fun x => decide ((hB (bn n b) n >>> (iI (x : Int) &&& 31)) &&& 1 = (if bn n b x then 1 else 0)) && decide (hB (bn n b) n &&& ((1 <<< (iI (x : Int) &&& 31)) ^^^ (-1)) = hB (bm (bn n b) x) n))
set_option maxRecDepth 100000 in
theorem bC_all : ∀ (b0 b1 b2 b3 b4 b5 : Bool), (List.range 7).all (fun n => bC (b6 b0 b1 b2 b3 b4 b5) n) = true := by decide +kernel
theorem bC_c {b : Nat → Bool} {n x : Nat} (hn : n ≤ 6) (hx : x < 6) (h0 : ∀ i, n ≤ i → b i = false) : (hB b n >>> (iI (x : Int) &&& 31)) &&& 1 = (if b x then 1 else 0) ∧ hB b n &&& ((1 <<< (iI (x : Int) &&& 31)) ^^^ (-1)) = hB (bm b x) n := by
  have h := List.all_eq_true.mp (bC_all (b 0) (b 1) (b 2) (b 3) (b 4) (b 5)) n (List.mem_range.mpr (by omega))
  have e : bn n (b6 (b 0) (b 1) (b 2) (b 3) (b 4) (b 5)) = b := by
    funext i
    unfold bn
    by_cases q : i < n
    · rw [decide_eq_true q, Bool.true_and, ← b6_i b (by omega)]
    · rw [decide_eq_false q, Bool.false_and, h0 i (by omega)]
  unfold bC at h
  rw [e] at h
  have h2 := List.all_eq_true.mp h x (List.mem_range.mpr hx)
  rw [Bool.and_eq_true, decide_eq_true_eq, decide_eq_true_eq] at h2
  exact h2
theorem bm_0 {b : Nat → Bool} {n x : Nat} (h0 : ∀ i, n ≤ i → b i = false) : ∀ i, n ≤ i → bm b x i = false := fun i hi => by
  unfold bm
  rw [h0 i hi, Bool.false_and]
/-- the row of a code -/
def rw6 (B : Nat) : Nat → Nat → Nat → Nat
  | 0, _, _ => 0
  | d + 1, v, j => if j = d then v % B else rw6 B d (v / B) j
theorem rem6 {v : Nat} (h : v < 1000000) : iI (v : Int) - iI (v : Int) / 6 * 6 = iI ((v % 6 : Nat) : Int) ∧ iI (v : Int) / 6 = iI ((v / 6 : Nat) : Int) := by
  have e : iI (v : Int) / 6 = iI ((v / 6 : Nat) : Int) := by
    rw [show (6 : Int32) = iI 6 from rfl, iI_div (by omega) (by omega) (by omega) (by omega)]
    congr 1
  refine ⟨?_, e⟩
  rw [e, show (6 : Int32) = iI 6 from rfl, iI_mul, iI_sub]
  congr 1
  omega
