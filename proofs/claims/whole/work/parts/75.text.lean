/-! day: the text and its tokens -/
def tRun (c : Nat → Bool) : Nat → Nat → Nat
  | 0, p => p
  | f + 1, p => if c p then tRun c f (p + 1) else p
theorem tRun_b (c : Nat → Bool) : ∀ (f p : Nat), p ≤ tRun c f p ∧ tRun c f p ≤ p + f
  | 0, p => ⟨Nat.le_refl p, Nat.le_refl p⟩
  | f + 1, p => by
    rw [tRun]
    split
    · have h := tRun_b c f (p + 1)
      omega
    · omega
theorem tRun_all (c : Nat → Bool) : ∀ (f p j : Nat), p ≤ j → j < tRun c f p → c j = true
  | 0, p, j, h1, h2 => by
    rw [tRun] at h2
    omega
  | f + 1, p, j, h1, h2 => by
    rw [tRun] at h2
    by_cases q : c p = true
    · rw [if_pos q] at h2
      by_cases qj : j = p
      · rw [qj]
        exact q
      · exact tRun_all c f (p + 1) j (by omega) h2
    · rw [if_neg q] at h2
      omega
def tB (t : Nat → Int) (j : Nat) : Bool := decide (t j = 32)
def tL (t : Nat → Int) (j : Nat) : Bool := decide (97 ≤ t j ∧ t j ≤ 122)
def tD (t : Nat → Int) (j : Nat) : Bool := decide (48 ≤ t j ∧ t j ≤ 57)
theorem tB_i (t : Nat → Int) (j : Nat) : tB t j = true ↔ t j = 32 := decide_eq_true_iff
theorem tL_i (t : Nat → Int) (j : Nat) : tL t j = true ↔ 97 ≤ t j ∧ t j ≤ 122 := decide_eq_true_iff
theorem tD_i (t : Nat → Int) (j : Nat) : tD t j = true ↔ 48 ≤ t j ∧ t j ≤ 57 := decide_eq_true_iff
/-- where a token begins, and ends; a word's code, a number's value; its sort -/
def tS (t : Nat → Int) (len p : Nat) : Nat := tRun (tB t) (len - p) p
def tE (t : Nat → Int) (len s : Nat) : Nat := if len ≤ s then s else if tL t s then tRun (tL t) (len - s) s else if tD t s then tRun (tD t) (len - s) s else s + 1
def tC (t : Nat → Int) (s : Nat) : Nat → Int
  | 0 => 0
  | m + 1 => 27 * tC t s m + t (s + m) - 96
def tV (t : Nat → Int) (s : Nat) : Nat → Int
  | 0 => 0
  | m + 1 => 10 * tV t s m + t (s + m) - 48
def mng (c : Int) : Nat := if c = 14432 then 2 else if c = 355280 then 3 else if c = 386066 then 1 else if c = 8683934 then 0 else 7
def tK (t : Nat → Int) (len s : Nat) : Nat := if len ≤ s then 4 else if tL t s then (if tE t len s - s ≤ 5 then mng (tC t s (tE t len s - s)) else 7) else if tD t s then (if 99 < tV t s (tE t len s - s) ∨ (t s = 48 ∧ 1 < tE t len s - s) then 7 else 5) else if t s = 59 then 6 else 7
def tW (t : Nat → Int) (len s : Nat) : Int := tV t s (tE t len s - s)
def tT (t : Nat → Int) (len s : Nat) : Nat := if len ≤ s then 0 else if tL t s then 1 else if tK t len s = 5 then 2 else if tK t len s = 6 then 3 else 4
theorem tS_b {t : Nat → Int} {len p : Nat} (h : p ≤ len) : p ≤ tS t len p ∧ tS t len p ≤ len := by
  have h2 := tRun_b (tB t) (len - p) p
  unfold tS
  omega
theorem tE_b {t : Nat → Int} {len s : Nat} (h : s ≤ len) : s ≤ tE t len s ∧ tE t len s ≤ len := by
  unfold tE
  by_cases q : len ≤ s
  · rw [if_pos q]
    omega
  · rw [if_neg q]
    split
    · have h2 := tRun_b (tL t) (len - s) s
      omega
    · split
      · have h2 := tRun_b (tD t) (len - s) s
        omega
      · omega
theorem tRun_1 {c : Nat → Bool} {f p : Nat} (h : c p = true) (hf : 0 < f) : p + 1 ≤ tRun c f p := by
  obtain ⟨f, rfl⟩ : ∃ q, f = q + 1 := ⟨f - 1, by omega⟩
  rw [tRun, if_pos h]
  exact (tRun_b c f (p + 1)).1
theorem tE_1 {t : Nat → Int} {len s : Nat} (h : s < len) : s + 1 ≤ tE t len s := by
  unfold tE
  rw [if_neg (by omega)]
  split
  · next q => exact tRun_1 q (by omega)
  · split
    · next q => exact tRun_1 q (by omega)
    · omega
/-! memories: cell 0 -/
theorem q_s {R : Mm} {j : Nat} {x : Int32} : mm_w R 0 (upd (R 0) j x) 0 j = x := by rw [mm_w_same, up_same]
theorem q_n {R : Mm} {i j : Nat} {x : Int32} (h : i ≠ j) : mm_w R 0 (upd (R 0) j x) 0 i = R 0 i := by rw [mm_w_same, up_ne h]
theorem q_c {R : Mm} {c j : Nat} {x : Int32} (h : c ≠ 0) : mm_w R 0 (upd (R 0) j x) c = R c := mm_w_ne h
/-- the class: what a scan changes -/
def FrC (R R' : Mm) : Prop := (∀ c, c ≠ 0 → R' c = R c) ∧ ∀ j, j < 3 ∨ 6 < j → R' 0 j = R 0 j
theorem FrC.rf (R : Mm) : FrC R R := ⟨fun _ _ => rfl, fun _ _ => rfl⟩
theorem FrC.tr {A B C : Mm} (h1 : FrC A B) (h2 : FrC B C) : FrC A C := ⟨fun c hc => (h2.1 c hc).trans (h1.1 c hc), fun j hj => (h2.2 j hj).trans (h1.2 j hj)⟩
theorem FrC.q {R : Mm} {j : Nat} {x : Int32} (h : 3 ≤ j ∧ j ≤ 6) : FrC R (mm_w R 0 (upd (R 0) j x)) := ⟨fun c hc => q_c hc, fun i hi => q_n (by omega)⟩
def FrZ (Z Z' : Mm) : Prop := (∀ c, c ≠ 0 → Z' c = Z c) ∧ ∀ j, j < 12 ∨ 15 < j → Z' 0 j = Z 0 j
theorem FrZ.rf (R : Mm) : FrZ R R := ⟨fun _ _ => rfl, fun _ _ => rfl⟩
theorem FrZ.tr {A B C : Mm} (h1 : FrZ A B) (h2 : FrZ B C) : FrZ A C := ⟨fun c hc => (h2.1 c hc).trans (h1.1 c hc), fun j hj => (h2.2 j hj).trans (h1.2 j hj)⟩
theorem FrZ.q {R : Mm} {j : Nat} {x : Int32} (h : 12 ≤ j ∧ j ≤ 15) : FrZ R (mm_w R 0 (upd (R 0) j x)) := ⟨fun c hc => q_c hc, fun i hi => q_n (by omega)⟩
/-- a text in a memory -/
def TR (t : Nat → Int) (len : Nat) (R : Mm) : Prop := len ≤ 300 ∧ (∀ i, i < len → -128 ≤ t i ∧ t i ≤ 127) ∧ R 0 2 = iI len ∧ ∀ i, i < len → R 1 i = iI (t i)
theorem TR.c {t : Nat → Int} {len : Nat} {R R' : Mm} (h : TR t len R) (f : FrC R R') : TR t len R' := ⟨h.1, h.2.1, by rw [f.2 2 (by omega)]; exact h.2.2.1, fun i hi => by rw [f.1 1 (by omega)]; exact h.2.2.2 i hi⟩
theorem TR.z {t : Nat → Int} {len : Nat} {R R' : Mm} (h : TR t len R) (f : FrZ R R') : TR t len R' := ⟨h.1, h.2.1, by rw [f.2 2 (by omega)]; exact h.2.2.1, fun i hi => by rw [f.1 1 (by omega)]; exact h.2.2.2 i hi⟩
/-! the class's scan -/
theorem letter_i {t : Nat → Int} {len p : Nat} {R : Mm} (h : TR t len R) (hp : p < len) : ffX4_isLetter (iI (t p)) = some (if tL t p then 1 else 0) := by
  have hbp := h.2.1 p hp
  have e1 : (iI (t p) < (97 : Int32)) = (t p < 97) := by
    rw [show (97 : Int32) = iI 97 from rfl]
    exact iI_lt (by omega) (by omega) (by omega) (by omega)
  have e2 : ((122 : Int32) < iI (t p)) = (122 < t p) := by
    rw [show (122 : Int32) = iI 122 from rfl]
    exact iI_lt (by omega) (by omega) (by omega) (by omega)
  unfold ffX4_isLetter
  unfold tL
  by_cases q1 : t p < 97
  · have q : ¬ (97 ≤ t p ∧ t p ≤ 122) := by omega
    rw [if_pos (by rw [e1]; exact q1), decide_eq_false q]
    rfl
  · rw [if_neg (by rw [e1]; exact q1)]
    by_cases q2 : 122 < t p
    · have q : ¬ (97 ≤ t p ∧ t p ≤ 122) := by omega
      rw [if_pos (by rw [e2]; exact q2), decide_eq_false q]
      rfl
    · have q : 97 ≤ t p ∧ t p ≤ 122 := by omega
      rw [if_neg (by rw [e2]; exact q2), decide_eq_true q]
      rfl
theorem digit_i {t : Nat → Int} {len p : Nat} {R : Mm} (h : TR t len R) (hp : p < len) : ffX4_isDigit (iI (t p)) = some (if tD t p then 1 else 0) := by
  have hbp := h.2.1 p hp
  have e1 : (iI (t p) < (48 : Int32)) = (t p < 48) := by
    rw [show (48 : Int32) = iI 48 from rfl]
    exact iI_lt (by omega) (by omega) (by omega) (by omega)
  have e2 : ((57 : Int32) < iI (t p)) = (57 < t p) := by
    rw [show (57 : Int32) = iI 57 from rfl]
    exact iI_lt (by omega) (by omega) (by omega) (by omega)
  unfold ffX4_isDigit
  unfold tD
  by_cases q1 : t p < 48
  · have q : ¬ (48 ≤ t p ∧ t p ≤ 57) := by omega
    rw [if_pos (by rw [e1]; exact q1), decide_eq_false q]
    rfl
  · rw [if_neg (by rw [e1]; exact q1)]
    by_cases q2 : 57 < t p
    · have q : ¬ (48 ≤ t p ∧ t p ≤ 57) := by omega
      rw [if_pos (by rw [e2]; exact q2), decide_eq_false q]
      rfl
    · have q : 48 ≤ t p ∧ t p ≤ 57 := by omega
      rw [if_neg (by rw [e2]; exact q2), decide_eq_true q]
      rfl
theorem skipC_l {t : Nat → Int} {len : Nat} (K : Mm → Option Mm) : ∀ (f p fu : Nat) (R : Mm), p + f = len → f < fu → TR t len R → R 0 3 = iI p → ∃ R', ffX4_scan_L0 K fu R = K R' ∧ FrC R R' ∧ R' 0 3 = iI ((tRun (tB t) f p : Nat) : Int) := by
  intro f
  induction f with
  | zero =>
    intro p fu R hp hf hR h3
    obtain ⟨fu, rfl⟩ : ∃ q, fu = q + 1 := ⟨fu - 1, by omega⟩
    have hl := hR.1
    refine ⟨R, ?_, FrC.rf R, h3⟩
    rw [ffX4_scan_L0_s, h3, hR.2.2.1, if_pos (by rw [iI_le (by omega) (by omega) (by omega) (by omega)]; omega)]
  | succ f ih =>
    intro p fu R hp hf hR h3
    obtain ⟨fu, rfl⟩ : ∃ q, fu = q + 1 := ⟨fu - 1, by omega⟩
    have hl := hR.1
    have hb := hR.2.1 p (by omega)
    rw [ffX4_scan_L0_s, h3, hR.2.2.1, if_neg (by rw [iI_le (by omega) (by omega) (by omega) (by omega)]; omega), ixN (by omega) (by omega), iI_cn (j := p) (by omega), hR.2.2.2 p (by omega), tRun]
    by_cases q : t p = 32
    · rw [if_pos (by rw [q]; rfl), if_pos ((tB_i t p).mpr q), kv_lt_d, kv_lt_d, l1, ix2]
      obtain ⟨R', e1, e2, e3⟩ := ih (p + 1) fu (mm_w R 0 (upd (R 0) 3 (iI ((p + 1 : Nat) : Int)))) (by omega) (by omega) (hR.c (FrC.q (by omega))) q_s
      exact ⟨R', e1, (FrC.q (by omega)).tr e2, e3⟩
    · rw [if_neg (by rw [show (32 : Int32) = iI 32 from rfl, iI_eq (by omega) (by omega) (by omega) (by omega)]; exact q), if_neg (fun x => q ((tB_i t p).mp x))]
      exact ⟨R, rfl, FrC.rf R, h3⟩
theorem wordC_l {t : Nat → Int} {len : Nat} (K : Mm → Option Mm) : ∀ (f p fu : Nat) (R : Mm), p + f = len → f < fu → TR t len R → R 0 3 = iI p → ∃ R', ffX4_scanWord_L5 K fu R = K R' ∧ (∀ c, c ≠ 0 → R' c = R c) ∧ (∀ j, j ≠ 3 → R' 0 j = R 0 j) ∧ R' 0 3 = iI ((tRun (tL t) f p : Nat) : Int) := by
  intro f
  induction f with
  | zero =>
    intro p fu R hp hf hR h3
    obtain ⟨fu, rfl⟩ : ∃ q, fu = q + 1 := ⟨fu - 1, by omega⟩
    have hl := hR.1
    refine ⟨R, ?_, fun _ _ => rfl, fun _ _ => rfl, h3⟩
    rw [ffX4_scanWord_L5_s, h3, hR.2.2.1, if_pos (by rw [iI_le (by omega) (by omega) (by omega) (by omega)]; omega)]
  | succ f ih =>
    intro p fu R hp hf hR h3
    obtain ⟨fu, rfl⟩ : ∃ q, fu = q + 1 := ⟨fu - 1, by omega⟩
    have hl := hR.1
    rw [ffX4_scanWord_L5_s, h3, hR.2.2.1, if_neg (by rw [iI_le (by omega) (by omega) (by omega) (by omega)]; omega), ixN (by omega) (by omega), iI_cn (j := p) (by omega), hR.2.2.2 p (by omega), letter_i hR (by omega), kv_b1_d, tRun]
    by_cases q : tL t p = true
    · rw [if_pos q, if_pos q, z_1, kv_lt_d, kv_lt_d, l1, ix2]
      obtain ⟨R', e1, e2, e3, e4⟩ := ih (p + 1) fu (mm_w R 0 (upd (R 0) 3 (iI ((p + 1 : Nat) : Int)))) (by omega) (by omega) (hR.c (FrC.q (by omega))) q_s
      exact ⟨R', e1, fun c hc => (e2 c hc).trans (q_c hc), fun j hj => (e3 j hj).trans (q_n hj), e4⟩
    · rw [if_neg q, if_neg q, z_0]
      exact ⟨R, rfl, fun _ _ => rfl, fun _ _ => rfl, h3⟩
def cap (x : Int) : Int := if x < 100 then x else 100
theorem numC_l {t : Nat → Int} {len s : Nat} (K : Mm → Option Mm) : ∀ (f p fu : Nat) (R : Mm), p + f = len → s ≤ p → f < fu → TR t len R → R 0 3 = iI p → R 0 6 = iI (cap (tV t s (p - s))) → 0 ≤ tV t s (p - s) → ∃ R', ffX4_scanNumber_L5 K fu R = K R' ∧ (∀ c, c ≠ 0 → R' c = R c) ∧ (∀ j, j ≠ 3 → j ≠ 6 → R' 0 j = R 0 j) ∧ R' 0 3 = iI ((tRun (tD t) f p : Nat) : Int) ∧ R' 0 6 = iI (cap (tV t s (tRun (tD t) f p - s))) ∧ 0 ≤ tV t s (tRun (tD t) f p - s) := by
  intro f
  induction f with
  | zero =>
    intro p fu R hp hs hf hR h3 h6 h0
    obtain ⟨fu, rfl⟩ : ∃ q, fu = q + 1 := ⟨fu - 1, by omega⟩
    have hl := hR.1
    refine ⟨R, ?_, fun _ _ => rfl, fun _ _ _ => rfl, h3, h6, h0⟩
    rw [ffX4_scanNumber_L5_s, h3, hR.2.2.1, if_pos (by rw [iI_le (by omega) (by omega) (by omega) (by omega)]; omega)]
  | succ f ih =>
    intro p fu R hp hs hf hR h3 h6 h0
    obtain ⟨fu, rfl⟩ : ∃ q, fu = q + 1 := ⟨fu - 1, by omega⟩
    have hl := hR.1
    rw [ffX4_scanNumber_L5_s, h3, hR.2.2.1, if_neg (by rw [iI_le (by omega) (by omega) (by omega) (by omega)]; omega), ixN (by omega) (by omega), iI_cn (j := p) (by omega), hR.2.2.2 p (by omega), digit_i hR (by omega), kv_b1_d, tRun]
    by_cases q : tD t p = true
    · have hd := (tD_i t p).mp q
      have ev : tV t s (p + 1 - s) = 10 * tV t s (p - s) + t p - 48 := by
        rw [show p + 1 - s = (p - s) + 1 by omega, tV, show s + (p - s) = p by omega]
      have ecap : (if 10 * iI (cap (tV t s (p - s))) + iI (t p) - 48 < (100 : Int32) then 10 * iI (cap (tV t s (p - s))) + iI (t p) - 48 else 100) = iI (cap (tV t s (p + 1 - s))) := by
        rw [ev]
        generalize tV t s (p - s) = v at *
        rw [show (10 : Int32) = iI 10 from rfl, show (48 : Int32) = iI 48 from rfl, show (100 : Int32) = iI 100 from rfl, iI_mul, iI_add, iI_sub]
        have hc : 0 ≤ cap v ∧ cap v ≤ 100 ∧ (v < 100 → cap v = v) ∧ (¬ v < 100 → cap v = 100) := by
          unfold cap
          split <;> omega
        have elt : (iI (10 * cap v + t p - 48) < iI 100) = (10 * cap v + t p - 48 < 100) := iI_lt (by omega) (by omega) (by omega) (by omega)
        by_cases qq : 10 * cap v + t p - 48 < 100
        · rw [if_pos (by rw [elt]; exact qq)]
          have e2 : cap (10 * v + t p - 48) = 10 * v + t p - 48 := if_pos (by omega)
          rw [e2]
          congr 1
          omega
        · rw [if_neg (by rw [elt]; exact qq)]
          have e2 : cap (10 * v + t p - 48) = 100 := if_neg (by omega)
          rw [e2]
      rw [if_pos q, if_pos q, z_1, ixN (by omega) (by omega), h6, ecap]
      simp only [kv_lt_d]
      rw [q_n (by omega), h3, l1, ix2]
      obtain ⟨R', e1, e2, e3, e4, e5, e6⟩ := ih (p + 1) fu (mm_w (mm_w R 0 (upd (R 0) 6 (iI (cap (tV t s (p + 1 - s)))))) 0 (upd (mm_w R 0 (upd (R 0) 6 (iI (cap (tV t s (p + 1 - s))))) 0) 3 (iI ((p + 1 : Nat) : Int)))) (by omega) (by omega) (by omega) (hR.c ((FrC.q (by omega)).tr (FrC.q (by omega)))) q_s (by rw [q_n (by omega), q_s]) (by rw [ev]; omega)
      exact ⟨R', e1, fun c hc => (e2 c hc).trans ((q_c hc).trans (q_c hc)), fun j h3 h6 => (e3 j h3 h6).trans ((q_n h3).trans (q_n h6)), e4, e5, e6⟩
    · rw [if_neg q, if_neg q, z_0]
      exact ⟨R, rfl, fun _ _ => rfl, fun _ _ _ => rfl, h3, h6, h0⟩
