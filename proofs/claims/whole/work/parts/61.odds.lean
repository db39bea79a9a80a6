/-! odds: the set of what hangs, and the steps -/
def hB (b : Nat → Bool) : Nat → Int32
  | 0 => 0
  | n + 1 => hB b n ||| (if b n then 1 <<< (iI (n : Int) &&& 31) else 0)
theorem hB_cong {b c : Nat → Bool} : ∀ {n : Nat}, (∀ i, i < n → b i = c i) → hB b n = hB c n
  | 0, _ => rfl
  | n + 1, h => by rw [hB, hB, hB_cong (fun i hi => h i (by omega)), h n (by omega)]
def b6 (b0 b1 b2 b3 b4 b5 : Bool) (j : Nat) : Bool := match j with
  | 0 => b0
  | 1 => b1
  | 2 => b2
  | 3 => b3
  | 4 => b4
  | _ => b5
theorem b6_i (b : Nat → Bool) {i : Nat} (h : i < 6) : b i = b6 (b 0) (b 1) (b 2) (b 3) (b 4) (b 5) i := by
  match i, h with
  | 0, _ => rfl
  | 1, _ => rfl
  | 2, _ => rfl
  | 3, _ => rfl
  | 4, _ => rfl
  | 5, _ => rfl
def hbC (b : Nat → Bool) (n : Nat) : Bool := decide (ffX8_bitsIn (hB b n) = some (iI (sm (fun j => if b j then 1 else 0) n))) && (List.range n).all (fun i => decide ((hB b n >>> (iI (i : Int) &&& 31)) &&& 1 = (if b i then 1 else 0))) && decide ((hB b n = 0) ↔ sm (fun j => if b j then 1 else 0) n = 0)
set_option maxRecDepth 100000 in
theorem hb_all : ∀ (b0 b1 b2 b3 b4 b5 : Bool), (List.range 7).all (fun n => hbC (b6 b0 b1 b2 b3 b4 b5) n) = true := by decide +kernel
theorem hb_c (b : Nat → Bool) {n : Nat} (hn : n ≤ 6) : ffX8_bitsIn (hB b n) = some (iI (sm (fun j => if b j then 1 else 0) n)) ∧ (∀ i, i < n → (hB b n >>> (iI (i : Int) &&& 31)) &&& 1 = (if b i then 1 else 0)) ∧ ((hB b n = 0) ↔ sm (fun j => if b j then 1 else 0) n = 0) := by
  have h := List.all_eq_true.mp (hb_all (b 0) (b 1) (b 2) (b 3) (b 4) (b 5)) n (List.mem_range.mpr (by omega))
  have e : ∀ i, i < n → b i = b6 (b 0) (b 1) (b 2) (b 3) (b 4) (b 5) i := fun i hi => b6_i b (by omega)
  unfold hbC at h
  rw [← hB_cong e, ← sm_cong (fun i hi => by rw [e i hi]) (f := fun j => if b j then 1 else 0)] at h
  simp only [Bool.and_eq_true, decide_eq_true_eq, List.all_eq_true, List.mem_range] at h
  refine ⟨h.1.1, fun i hi => ?_, h.2⟩
  rw [h.1.2 i hi, e i hi]
/-- which pieces hang -/
def hg (M : Mm) (i : Nat) : Bool := decide (tv M 3 i < 8)
theorem hanging_i {T P Z : Mm} {n k st : Nat} (hN : RN T P Z n k st) : ffX8_hanging Z = some (hB (hg P) n) := by
  obtain ⟨hT, hR, hM, hP, hS⟩ := hN
  have hn := hT.1
  have hk := hT.2.1
  have fu := fu_big
  have loop : ∀ (d i fu : Nat), i + d = n → d < fu → ffX8_hanging_L4 Z (fun (x7 : Int32) (x8 : Int32) => some x8) fu (iI i) (hB (hg P) i) = some (hB (hg P) n) := by
    intro d
    induction d with
    | zero =>
      intro i fu hi hf
      obtain ⟨fu, rfl⟩ : ∃ q, fu = q + 1 := ⟨fu - 1, by omega⟩
      have hin : i = n := by omega
      subst hin
      rw [ffX8_hanging_L4_s, ix0 (by omega) (by omega), cl0, hR.1, if_pos (by rw [iI_le (by omega) (by omega) (by omega) (by omega)]; omega)]
    | succ d ih =>
      intro i fu hi hf
      obtain ⟨fu, rfl⟩ : ∃ q, fu = q + 1 := ⟨fu - 1, by omega⟩
      have hm := (hM.2.2.2.2 i (by omega)).2.2.2.2.1
      have next := ih (i + 1) fu (by omega) (by omega)
      rw [hB] at next
      have s3 := (hS.2.2 i (by omega)).2.2.2
      rw [Nat.zero_add] at s3
      rw [ffX8_hanging_L4_s, ix0 (by omega) (by omega), cl0, hR.1, if_neg (by rw [iI_le (by omega) (by omega) (by omega) (by omega)]; omega), l20, ixp, ixN (by omega) (by omega), iI_cn (j := 20 + i) (by omega), s3, tv_i P 3 i]
      simp only [kv_lt_d]
      by_cases q : tv P 3 i < 8
      · have ef : hg P i = true := decide_eq_true q
        rw [if_pos ef] at next
        rw [if_neg (by rw [show (8 : Int32) = iI 8 from rfl, iI_le (by omega) (by omega) (by omega) (by omega)]; omega), l1, ix2]
        exact next
      · have ef : ¬ hg P i = true := by unfold hg; rw [decide_eq_true_eq]; exact q
        rw [if_neg ef] at next
        rw [if_pos (by rw [show (8 : Int32) = iI 8 from rfl, iI_le (by omega) (by omega) (by omega) (by omega)]; omega), l1, ix2]
        exact next
  unfold ffX8_hanging
  generalize kv_FU = F at fu ⊢
  exact loop n 0 F (by omega) (by omega)
def wt (A : Mm) (j : Nat) : Int := if tv A 3 j < 8 ∧ 0 < tv A 1 j then 1 else 0
theorem wt_0 (A : Mm) (n : Nat) : 0 ≤ sm (wt A) n := by
  have := (sm_bound (f := wt A) (lo := 0) (hi := 1) (n := n) (fun i _ => by unfold wt; split <;> omega)).1
  omega
theorem isDry_i {T A Z : Mm} {n k st : Nat} {mx : Int} (h : RF T A Z n k st mx) (b : Nat → Bool) (hb : ∀ i, i < n → b i = hg A i) : ffX8_isDry (26 : Int32) (hB b n) Z = some (if sm (wt A) n = 0 then 1 else 0) := by
  obtain ⟨hT, hR, hM, hP, hS⟩ := h
  have hn := hT.1
  have fu := fu_big
  obtain ⟨c1, c2, c3⟩ := hb_c b hn
  have loop : ∀ (d i fu : Nat), i + d = n → d < fu → ffX8_isDry_L5 (26 : Int32) (hB b n) Z (fun (x7 : Int32) (x8 : Int32) => kv_bo x8 (some x8)) fu (iI i) (if sm (wt A) i = 0 then 1 else 0) = some (if sm (wt A) n = 0 then 1 else 0) := by
    intro d
    induction d with
    | zero =>
      intro i fu hi hf
      obtain ⟨fu, rfl⟩ : ∃ q, fu = q + 1 := ⟨fu - 1, by omega⟩
      have hin : i = n := by omega
      subst hin
      rw [ffX8_isDry_L5_s, ix0 (by omega) (by omega), cl0, hR.1, if_pos (by rw [iI_le (by omega) (by omega) (by omega) (by omega)]; omega)]
      by_cases q : sm (wt A) i = 0
      · simp only [if_pos q]
        exact kv_bo_1 _
      · simp only [if_neg q]
        exact kv_bo_0 _
    | succ d ih =>
      intro i fu hi hf
      obtain ⟨fu, rfl⟩ : ∃ q, fu = q + 1 := ⟨fu - 1, by omega⟩
      have hm := hM.2.2.2.2 i (by omega)
      have hbb := hT.2.2.2.2.2.2.1 i (by omega)
      have next := ih (i + 1) fu (by omega) (by omega)
      rw [sm] at next
      have s1 := (hS.2.2 i (by omega)).1
      have w0 := wt_0 A i
      rw [ffX8_isDry_L5_s, ix0 (by omega) (by omega), cl0, hR.1, if_neg (by rw [iI_le (by omega) (by omega) (by omega) (by omega)]; omega), c2 i (by omega), hb i (by omega)]
      simp only [kv_lt_d]
      rw [l1, ix2]
      by_cases q : sm (wt A) i = 0
      · rw [q] at next
        rw [if_pos q, if_neg (by decide)]
        by_cases q2 : tv A 3 i < 8
        · have ef : hg A i = true := decide_eq_true q2
          rw [if_pos ef, if_neg (by decide), show (26 : Int32) + 2 = iI ((28 : Nat) : Int) from rfl, ix2, ixN (by omega) (by omega), iI_cn (j := 28 + i) (by omega), show 28 + i = 26 + 2 + i by omega, s1, tv_i A 1 i]
          by_cases q3 : 0 < tv A 1 i
          · have e1 : wt A i = 1 := if_pos ⟨q2, q3⟩
            rw [e1, if_neg (by omega)] at next
            rw [if_neg (by rw [iI_0, iI_eq (by omega) (by omega) (by omega) (by omega)]; omega)]
            exact next
          · have e1 : wt A i = 0 := if_neg (fun x => q3 x.2)
            rw [e1, if_pos (by omega)] at next
            rw [if_pos (by rw [iI_0, iI_eq (by omega) (by omega) (by omega) (by omega)]; omega)]
            exact next
        · have ef : ¬ hg A i = true := by unfold hg; rw [decide_eq_true_eq]; exact q2
          have e1 : wt A i = 0 := if_neg (fun x => q2 x.1)
          rw [e1, if_pos (by omega)] at next
          rw [if_neg ef, if_pos rfl]
          exact next
      · have w1 : 0 ≤ wt A i := by unfold wt; split <;> omega
        rw [if_neg (by omega)] at next
        rw [if_neg q, if_pos rfl]
        exact next
  unfold ffX8_isDry
  generalize kv_FU = F at fu ⊢
  exact loop n 0 F (by omega) (by omega)
