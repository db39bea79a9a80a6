/-! counts and sums of a stand -/
theorem onRack_l {T M : Mm} {n k st : Nat} {mx : Int} (hT : OkT T n k st) (hM : OkM T M n k mx) (hmx : mx ≤ 100000) (K : Int32 → Int32 → Option Int32) : ∀ (d i fu : Nat), i + d = n → d < fu → ffX3_onRack_L4 T M K fu (iI i) (iI (sm (fun j => if tv M 3 j = 8 then 1 else 0) i)) = K (iI n) (iI (sm (fun j => if tv M 3 j = 8 then 1 else 0) n)) := by
  have hn := hT.1
  have hk := hT.2.1
  intro d
  induction d with
  | zero =>
    intro i fu hi hf
    obtain ⟨fu, rfl⟩ : ∃ q, fu = q + 1 := ⟨fu - 1, by omega⟩
    have hin : i = n := by omega
    subst hin
    rw [ffX3_onRack_L4_s, hT.2.2.2.1, if_pos (by rw [iI_le (by omega) (by omega) (by omega) (by omega)]; omega)]
  | succ d ih =>
    intro i fu hi hf
    obtain ⟨fu, rfl⟩ : ∃ q, fu = q + 1 := ⟨fu - 1, by omega⟩
    have hm := hM.2.2.2.2 i (by omega)
    have hb := hT.2.2.2.2.2.2.1 i (by omega)
    have hst := hM.2.1
    have next := ih (i + 1) fu (by omega) (by omega)
    rw [sm] at next
    rw [ffX3_onRack_L4_s, hT.2.2.2.1, if_neg (by rw [iI_le (by omega) (by omega) (by omega) (by omega)]; omega)]
    rw [ixN (by omega) (by omega), iI_cn (j := i) (by omega), tv_i M 3 i]
    by_cases q : tv M 3 i = 8
    · have ef : (if tv M 3 i = 8 then (1 : Int) else 0) = 1 := if_pos q
      rw [if_pos (by rw [q]; rfl), kv_lt_d, kv_lt_d, l1, ix2, iI_add]
      simp only [ef] at next
      exact next
    · have ef : (if tv M 3 i = 8 then (1 : Int) else 0) = 0 := if_neg q
      rw [if_neg (by rw [show (8 : Int32) = iI 8 from rfl, iI_eq (by omega) (by omega) (by omega) (by omega)]; exact q), kv_lt_d, kv_lt_d, l1, ix2, iI_0, iI_add]
      simp only [ef] at next
      exact next
theorem onRack_i {T M : Mm} {n k st : Nat} {mx : Int} (hT : OkT T n k st) (hM : OkM T M n k mx) (hmx : mx ≤ 100000) : ffX3_onRack T M = some (iI (sm (fun j => if tv M 3 j = 8 then 1 else 0) n)) := by
  have hn := hT.1
  have fu := fu_big
  exact onRack_l hT hM hmx (fun (x7 : Int32) (x8 : Int32) => some x8) n 0 kv_FU (by omega) (by omega)
theorem howManyDry_l {T M : Mm} {n k st : Nat} {mx : Int} (hT : OkT T n k st) (hM : OkM T M n k mx) (hmx : mx ≤ 100000) (K : Int32 → Int32 → Option Int32) : ∀ (d i fu : Nat), i + d = n → d < fu → ffX3_howManyDry_L4 T M K fu (iI i) (iI (sm (fun j => if tv M 1 j = 0 then 1 else 0) i)) = K (iI n) (iI (sm (fun j => if tv M 1 j = 0 then 1 else 0) n)) := by
  have hn := hT.1
  have hk := hT.2.1
  intro d
  induction d with
  | zero =>
    intro i fu hi hf
    obtain ⟨fu, rfl⟩ : ∃ q, fu = q + 1 := ⟨fu - 1, by omega⟩
    have hin : i = n := by omega
    subst hin
    rw [ffX3_howManyDry_L4_s, hT.2.2.2.1, if_pos (by rw [iI_le (by omega) (by omega) (by omega) (by omega)]; omega)]
  | succ d ih =>
    intro i fu hi hf
    obtain ⟨fu, rfl⟩ : ∃ q, fu = q + 1 := ⟨fu - 1, by omega⟩
    have hm := hM.2.2.2.2 i (by omega)
    have hb := hT.2.2.2.2.2.2.1 i (by omega)
    have hst := hM.2.1
    have next := ih (i + 1) fu (by omega) (by omega)
    rw [sm] at next
    rw [ffX3_howManyDry_L4_s, hT.2.2.2.1, if_neg (by rw [iI_le (by omega) (by omega) (by omega) (by omega)]; omega)]
    rw [ixN (by omega) (by omega), iI_cn (j := i) (by omega), tv_i M 1 i]
    by_cases q : tv M 1 i = 0
    · have ef : (if tv M 1 i = 0 then (1 : Int) else 0) = 1 := if_pos q
      rw [if_pos (by rw [q]; rfl), kv_lt_d, kv_lt_d, l1, ix2, iI_add]
      simp only [ef] at next
      exact next
    · have ef : (if tv M 1 i = 0 then (1 : Int) else 0) = 0 := if_neg q
      rw [if_neg (by rw [show (0 : Int32) = iI 0 from rfl, iI_eq (by omega) (by omega) (by omega) (by omega)]; exact q), kv_lt_d, kv_lt_d, l1, ix2, iI_0, iI_add]
      simp only [ef] at next
      exact next
theorem howManyDry_i {T M : Mm} {n k st : Nat} {mx : Int} (hT : OkT T n k st) (hM : OkM T M n k mx) (hmx : mx ≤ 100000) : ffX3_howManyDry T M = some (iI (sm (fun j => if tv M 1 j = 0 then 1 else 0) n)) := by
  have hn := hT.1
  have fu := fu_big
  exact howManyDry_l hT hM hmx (fun (x7 : Int32) (x8 : Int32) => some x8) n 0 kv_FU (by omega) (by omega)
theorem howManySmell_l {T M : Mm} {n k st : Nat} {mx : Int} (hT : OkT T n k st) (hM : OkM T M n k mx) (hmx : mx ≤ 100000) (K : Int32 → Int32 → Option Int32) : ∀ (d i fu : Nat), i + d = n → d < fu → ffX3_howManySmell_L4 T M K fu (iI i) (iI (sm (fun j => tv M 4 j) i)) = K (iI n) (iI (sm (fun j => tv M 4 j) n)) := by
  have hn := hT.1
  have hk := hT.2.1
  intro d
  induction d with
  | zero =>
    intro i fu hi hf
    obtain ⟨fu, rfl⟩ : ∃ q, fu = q + 1 := ⟨fu - 1, by omega⟩
    have hin : i = n := by omega
    subst hin
    rw [ffX3_howManySmell_L4_s, hT.2.2.2.1, if_pos (by rw [iI_le (by omega) (by omega) (by omega) (by omega)]; omega)]
  | succ d ih =>
    intro i fu hi hf
    obtain ⟨fu, rfl⟩ : ∃ q, fu = q + 1 := ⟨fu - 1, by omega⟩
    have hm := hM.2.2.2.2 i (by omega)
    have hb := hT.2.2.2.2.2.2.1 i (by omega)
    have hst := hM.2.1
    have next := ih (i + 1) fu (by omega) (by omega)
    rw [sm] at next
    rw [ffX3_howManySmell_L4_s, hT.2.2.2.1, if_neg (by rw [iI_le (by omega) (by omega) (by omega) (by omega)]; omega)]
    rw [ixN (by omega) (by omega), iI_cn (j := i) (by omega), tv_i M 4 i]
    rcases hm.2.2.2.2.2 with q | q
    · rw [q] at next ⊢
      rw [if_pos (show iI 0 = (0 : Int32) from rfl), kv_lt_d, kv_lt_d, l1, ix2, iI_0, iI_add]
      exact next
    · rw [q] at next ⊢
      rw [if_neg (by decide), kv_lt_d, kv_lt_d, l1, ix2, iI_add]
      exact next
theorem howManySmell_i {T M : Mm} {n k st : Nat} {mx : Int} (hT : OkT T n k st) (hM : OkM T M n k mx) (hmx : mx ≤ 100000) : ffX3_howManySmell T M = some (iI (sm (fun j => tv M 4 j) n)) := by
  have hn := hT.1
  have fu := fu_big
  exact howManySmell_l hT hM hmx (fun (x7 : Int32) (x8 : Int32) => some x8) n 0 kv_FU (by omega) (by omega)
theorem onLine_l {T M : Mm} {n k st : Nat} {mx : Int} (hT : OkT T n k st) (hM : OkM T M n k mx) (hmx : mx ≤ 100000) (K : Int32 → Int32 → Option Int32) : ∀ (d i fu : Nat), i + d = n → d < fu → ffX3_onLine_L4 T M K fu (iI i) (iI (sm (fun j => if tv M 3 j < 8 then 1 else 0) i)) = K (iI n) (iI (sm (fun j => if tv M 3 j < 8 then 1 else 0) n)) := by
  have hn := hT.1
  have hk := hT.2.1
  intro d
  induction d with
  | zero =>
    intro i fu hi hf
    obtain ⟨fu, rfl⟩ : ∃ q, fu = q + 1 := ⟨fu - 1, by omega⟩
    have hin : i = n := by omega
    subst hin
    rw [ffX3_onLine_L4_s, hT.2.2.2.1, if_pos (by rw [iI_le (by omega) (by omega) (by omega) (by omega)]; omega)]
  | succ d ih =>
    intro i fu hi hf
    obtain ⟨fu, rfl⟩ : ∃ q, fu = q + 1 := ⟨fu - 1, by omega⟩
    have hm := hM.2.2.2.2 i (by omega)
    have hb := hT.2.2.2.2.2.2.1 i (by omega)
    have hst := hM.2.1
    have next := ih (i + 1) fu (by omega) (by omega)
    rw [sm] at next
    rw [ffX3_onLine_L4_s, hT.2.2.2.1, if_neg (by rw [iI_le (by omega) (by omega) (by omega) (by omega)]; omega)]
    by_cases q : tv M 3 i < 8
    · have ef : (if tv M 3 i < 8 then (1 : Int) else 0) = 1 := if_pos q
      rw [ha_t hT.2.2.2.2.1 hk (by omega) (tv_i M 3 i) (by omega) (by omega), kv_b1_d, z_1, kv_lt_d, kv_lt_d, l1, ix2, iI_add]
      simp only [ef] at next
      exact next
    · have ef : (if tv M 3 i < 8 then (1 : Int) else 0) = 0 := if_neg q
      rw [ha_f hT.2.2.2.2.1 hk (by omega) (tv_i M 3 i) (by omega) (by omega) (by omega), kv_b1_d, z_0, kv_lt_d, kv_lt_d, l1, ix2, iI_0, iI_add]
      simp only [ef] at next
      exact next
theorem onLine_i {T M : Mm} {n k st : Nat} {mx : Int} (hT : OkT T n k st) (hM : OkM T M n k mx) (hmx : mx ≤ 100000) : ffX3_onLine T M = some (iI (sm (fun j => if tv M 3 j < 8 then 1 else 0) n)) := by
  have hn := hT.1
  have fu := fu_big
  exact onLine_l hT hM hmx (fun (x7 : Int32) (x8 : Int32) => some x8) n 0 kv_FU (by omega) (by omega)
theorem allWater_l {T M : Mm} {n k st : Nat} {mx : Int} (hT : OkT T n k st) (hM : OkM T M n k mx) (hmx : mx ≤ 100000) (K : Int32 → Int32 → Option Int32) : ∀ (d i fu : Nat), i + d = n → d < fu → ffX3_allWater_L4 T M K fu (iI i) (iI (sm (fun j => tv M 1 j) i)) = K (iI n) (iI (sm (fun j => tv M 1 j) n)) := by
  have hn := hT.1
  have hk := hT.2.1
  intro d
  induction d with
  | zero =>
    intro i fu hi hf
    obtain ⟨fu, rfl⟩ : ∃ q, fu = q + 1 := ⟨fu - 1, by omega⟩
    have hin : i = n := by omega
    subst hin
    rw [ffX3_allWater_L4_s, hT.2.2.2.1, if_pos (by rw [iI_le (by omega) (by omega) (by omega) (by omega)]; omega)]
  | succ d ih =>
    intro i fu hi hf
    obtain ⟨fu, rfl⟩ : ∃ q, fu = q + 1 := ⟨fu - 1, by omega⟩
    have hm := hM.2.2.2.2 i (by omega)
    have hb := hT.2.2.2.2.2.2.1 i (by omega)
    have hst := hM.2.1
    have next := ih (i + 1) fu (by omega) (by omega)
    rw [sm] at next
    rw [ffX3_allWater_L4_s, hT.2.2.2.1, if_neg (by rw [iI_le (by omega) (by omega) (by omega) (by omega)]; omega)]
    rw [ixN (by omega) (by omega), iI_cn (j := i) (by omega), kv_lt_d, kv_lt_d, tv_i M 1 i, iI_add, l1, ix2]
    exact next
theorem allWater_i {T M : Mm} {n k st : Nat} {mx : Int} (hT : OkT T n k st) (hM : OkM T M n k mx) (hmx : mx ≤ 100000) : ffX3_allWater T M = some (iI (sm (fun j => tv M 1 j) n)) := by
  have hn := hT.1
  have fu := fu_big
  exact allWater_l hT hM hmx (fun (x7 : Int32) (x8 : Int32) => some x8) n 0 kv_FU (by omega) (by omega)
theorem wetOnLine_l {T M : Mm} {n k st : Nat} {mx : Int} (hT : OkT T n k st) (hM : OkM T M n k mx) (hmx : mx ≤ 100000) (K : Int32 → Int32 → Option Int32) : ∀ (d i fu : Nat), i + d = n → d < fu → ffX3_wetOnLine_L4 T M K fu (iI i) (iI (sm (fun j => if tv M 3 j < 8 ∧ 0 < tv M 1 j then 1 else 0) i)) = K (iI n) (iI (sm (fun j => if tv M 3 j < 8 ∧ 0 < tv M 1 j then 1 else 0) n)) := by
  have hn := hT.1
  have hk := hT.2.1
  intro d
  induction d with
  | zero =>
    intro i fu hi hf
    obtain ⟨fu, rfl⟩ : ∃ q, fu = q + 1 := ⟨fu - 1, by omega⟩
    have hin : i = n := by omega
    subst hin
    rw [ffX3_wetOnLine_L4_s, hT.2.2.2.1, if_pos (by rw [iI_le (by omega) (by omega) (by omega) (by omega)]; omega)]
  | succ d ih =>
    intro i fu hi hf
    obtain ⟨fu, rfl⟩ : ∃ q, fu = q + 1 := ⟨fu - 1, by omega⟩
    have hm := hM.2.2.2.2 i (by omega)
    have hb := hT.2.2.2.2.2.2.1 i (by omega)
    have hst := hM.2.1
    have next := ih (i + 1) fu (by omega) (by omega)
    rw [sm] at next
    rw [ffX3_wetOnLine_L4_s, hT.2.2.2.1, if_neg (by rw [iI_le (by omega) (by omega) (by omega) (by omega)]; omega)]
    simp only [kv_lt_d]
    rw [ixN (by omega) (by omega), iI_cn (j := i) (by omega)]
    by_cases q : tv M 3 i < 8
    · rw [ha_t hT.2.2.2.2.1 hk (by omega) (tv_i M 3 i) (by omega) (by omega), kv_b1_d, z_1, tv_i M 1 i]
      by_cases q2 : 0 < tv M 1 i
      · have ef : (if tv M 3 i < 8 ∧ 0 < tv M 1 i then (1 : Int) else 0) = 1 := if_pos ⟨q, q2⟩
        rw [if_neg (by rw [iI_0, iI_le (by omega) (by omega) (by omega) (by omega)]; omega), l1, ix2, iI_add]
        simp only [ef] at next
        exact next
      · have ef : (if tv M 3 i < 8 ∧ 0 < tv M 1 i then (1 : Int) else 0) = 0 := if_neg (by omega)
        rw [if_pos (by rw [iI_0, iI_le (by omega) (by omega) (by omega) (by omega)]; omega), l1, ix2, iI_0, iI_add]
        simp only [ef] at next
        exact next
    · have ef : (if tv M 3 i < 8 ∧ 0 < tv M 1 i then (1 : Int) else 0) = 0 := if_neg (by omega)
      rw [ha_f hT.2.2.2.2.1 hk (by omega) (tv_i M 3 i) (by omega) (by omega) (by omega), kv_b1_d, z_0, l1, ix2, iI_0, iI_add]
      simp only [ef] at next
      exact next
theorem wetOnLine_i {T M : Mm} {n k st : Nat} {mx : Int} (hT : OkT T n k st) (hM : OkM T M n k mx) (hmx : mx ≤ 100000) : ffX3_wetOnLine T M = some (iI (sm (fun j => if tv M 3 j < 8 ∧ 0 < tv M 1 j then 1 else 0) n)) := by
  have hn := hT.1
  have fu := fu_big
  exact wetOnLine_l hT hM hmx (fun (x7 : Int32) (x8 : Int32) => some x8) n 0 kv_FU (by omega) (by omega)
theorem racked_i {T M Z : Mm} {n k st : Nat} {mx : Int} (hT : OkT T n k st) (hR : RT T Z n k st) (hM : OkM T M n k mx) (hS : RS M Z 0 n) : ffX8_rackedNow Z = some (iI (sm (fun j => if tv M 3 j = 8 then 1 else 0) n)) := by
  have hn := hT.1
  have hk := hT.2.1
  have fu := fu_big
  have loop : ∀ (d i fu : Nat), i + d = n → d < fu → ffX8_rackedNow_L4 Z (fun (x7 : Int32) (x8 : Int32) => some x8) fu (iI i) (iI (sm (fun j => if tv M 3 j = 8 then 1 else 0) i)) = some (iI (sm (fun j => if tv M 3 j = 8 then 1 else 0) n)) := by
    intro d
    induction d with
    | zero =>
      intro i fu hi hf
      obtain ⟨fu, rfl⟩ : ∃ q, fu = q + 1 := ⟨fu - 1, by omega⟩
      have hin : i = n := by omega
      subst hin
      rw [ffX8_rackedNow_L4_s, ix0 (by omega) (by omega), cl0, hR.1, if_pos (by rw [iI_le (by omega) (by omega) (by omega) (by omega)]; omega)]
    | succ d ih =>
      intro i fu hi hf
      obtain ⟨fu, rfl⟩ : ∃ q, fu = q + 1 := ⟨fu - 1, by omega⟩
      have hm := hM.2.2.2.2 i (by omega)
      have next := ih (i + 1) fu (by omega) (by omega)
      rw [sm] at next
      have s3 := (hS.2.2 i (by omega)).2.2.2
      rw [Nat.zero_add] at s3
      rw [ffX8_rackedNow_L4_s, ix0 (by omega) (by omega), cl0, hR.1, if_neg (by rw [iI_le (by omega) (by omega) (by omega) (by omega)]; omega), l20, ixp, ixN (by omega) (by omega), iI_cn (j := 20 + i) (by omega), s3, tv_i M 3 i]
      by_cases q : tv M 3 i = 8
      · have ef : (if tv M 3 i = 8 then (1 : Int) else 0) = 1 := if_pos q
        rw [if_pos (by rw [q]; rfl), kv_lt_d, kv_lt_d, l1, ix2, iI_add]
        simp only [ef] at next
        exact next
      · have ef : (if tv M 3 i = 8 then (1 : Int) else 0) = 0 := if_neg q
        rw [if_neg (by rw [show (8 : Int32) = iI 8 from rfl, iI_eq (by omega) (by omega) (by omega) (by omega)]; exact q), kv_lt_d, kv_lt_d, l1, ix2, iI_0, iI_add]
        simp only [ef] at next
        exact next
  exact loop n 0 kv_FU (by omega) (by omega)
theorem allWm_i {T M Z : Mm} {n k st o : Nat} (hT : OkT T n k st) (hR : RT T Z n k st) (hS : RS M Z o n) (ho : o + 26 ≤ 104) : ffX8_allWater (iI o) Z = some (iI (sm (fun j => tv M 1 j) n)) := by
  have hn := hT.1
  have fu := fu_big
  have loop : ∀ (d i fu : Nat), i + d = n → d < fu → ffX8_allWater_L4 (iI o) Z (fun (x7 : Int32) (x8 : Int32) => some x8) fu (iI i) (iI (sm (fun j => tv M 1 j) i)) = some (iI (sm (fun j => tv M 1 j) n)) := by
    intro d
    induction d with
    | zero =>
      intro i fu hi hf
      obtain ⟨fu, rfl⟩ : ∃ q, fu = q + 1 := ⟨fu - 1, by omega⟩
      have hin : i = n := by omega
      subst hin
      rw [ffX8_allWater_L4_s, ix0 (by omega) (by omega), cl0, hR.1, if_pos (by rw [iI_le (by omega) (by omega) (by omega) (by omega)]; omega)]
    | succ d ih =>
      intro i fu hi hf
      obtain ⟨fu, rfl⟩ : ∃ q, fu = q + 1 := ⟨fu - 1, by omega⟩
      have next := ih (i + 1) fu (by omega) (by omega)
      rw [sm] at next
      rw [ffX8_allWater_L4_s, ix0 (by omega) (by omega), cl0, hR.1, if_neg (by rw [iI_le (by omega) (by omega) (by omega) (by omega)]; omega), l2, ix3, ixN (by omega) (by omega), iI_cn (j := o + 2 + i) (by omega), (hS.2.2 i (by omega)).1, kv_lt_d, kv_lt_d, tv_i M 1 i, iI_add, l1, ix2]
      exact next
  exact loop n 0 kv_FU (by omega) (by omega)
theorem nowm_l {T M Z : Mm} {n k st : Nat} {mx : Int} (hT : OkT T n k st) (hR : RT T Z n k st) (hM : OkM T M n k mx) (hS : RS M Z 0 n) (K : Int32 → Int32 → Int32 → Int32 → Option Int32) : ∀ (d i fu : Nat), i + d = n → d < fu → ffX8_now_L10 Z K fu (iI i) (iI (sm (fun j => tv M 4 j) i)) (iI (sm (fun j => if tv M 1 j = 0 then 1 else 0) i)) (iI (sm (fun j => if tv M 3 j < 8 then 1 else 0) i)) = K (iI n) (iI (sm (fun j => tv M 4 j) n)) (iI (sm (fun j => if tv M 1 j = 0 then 1 else 0) n)) (iI (sm (fun j => if tv M 3 j < 8 then 1 else 0) n)) := by
  have hn := hT.1
  have hk := hT.2.1
  intro d
  induction d with
  | zero =>
    intro i fu hi hf
    obtain ⟨fu, rfl⟩ : ∃ q, fu = q + 1 := ⟨fu - 1, by omega⟩
    have hin : i = n := by omega
    subst hin
    rw [ffX8_now_L10_s, ix0 (by omega) (by omega), cl0, hR.1, if_pos (by rw [iI_le (by omega) (by omega) (by omega) (by omega)]; omega)]
  | succ d ih =>
    intro i fu hi hf
    obtain ⟨fu, rfl⟩ : ∃ q, fu = q + 1 := ⟨fu - 1, by omega⟩
    have hm := hM.2.2.2.2 i (by omega)
    have hb := hT.2.2.2.2.2.2.1 i (by omega)
    obtain ⟨s1, s2, s4, s3⟩ := hS.2.2 i (by omega)
    rw [Nat.zero_add] at s1 s2 s4 s3
    have next := ih (i + 1) fu (by omega) (by omega)
    rw [sm, sm, sm] at next
    rw [ffX8_now_L10_s, ix0 (by omega) (by omega), cl0, hR.1, if_neg (by rw [iI_le (by omega) (by omega) (by omega) (by omega)]; omega), l20, ixp, ixN (by omega) (by omega)]
    simp only [kv_lt_d, l2, l14, ixp, iI_cn (j := 20 + i) (show ((20 + i : Nat) : Int) < 2147483648 by omega), iI_cn (j := 2 + i) (show ((2 + i : Nat) : Int) < 2147483648 by omega), iI_cn (j := 14 + i) (show ((14 + i : Nat) : Int) < 2147483648 by omega), s1, s3, s4, tv_i M 3 i, tv_i M 1 i, tv_i M 4 i, ixN (show 2 + i < 104 by omega) (show ((104 : Nat) : Int) < 2147483648 by omega), ixN (show 14 + i < 104 by omega) (show ((104 : Nat) : Int) < 2147483648 by omega)]
    have c1 : ((8 : Int32) ≤ iI (tv M 3 i)) = (8 ≤ tv M 3 i) := by rw [show (8 : Int32) = iI 8 from rfl, iI_le (by omega) (by omega) (by omega) (by omega)]
    have c2 : (iI (tv M 1 i) = (0 : Int32)) = (tv M 1 i = 0) := by rw [iI_0, iI_eq (by omega) (by omega) (by omega) (by omega)]
    simp only [c1, c2]
    by_cases q1 : tv M 3 i < 8
    · have f1 : (if tv M 3 i < 8 then (1 : Int) else 0) = 1 := if_pos q1
      rw [if_neg (by omega)]
      by_cases q2 : tv M 1 i = 0
      · have f2 : (if tv M 1 i = 0 then (1 : Int) else 0) = 1 := if_pos q2
        simp only [f1, f2] at next
        rw [if_pos q2, l1, ix2, iI_add, iI_add, iI_add]
        exact next
      · have f2 : (if tv M 1 i = 0 then (1 : Int) else 0) = 0 := if_neg q2
        simp only [f1, f2] at next
        rw [if_neg q2, l1, ix2, iI_0, iI_add, iI_add, iI_add]
        exact next
    · have f1 : (if tv M 3 i < 8 then (1 : Int) else 0) = 0 := if_neg q1
      rw [if_pos (by omega)]
      by_cases q2 : tv M 1 i = 0
      · have f2 : (if tv M 1 i = 0 then (1 : Int) else 0) = 1 := if_pos q2
        simp only [f1, f2] at next
        rw [if_pos q2, l1, ix2, iI_0, iI_add, iI_add, iI_add]
        exact next
      · have f2 : (if tv M 1 i = 0 then (1 : Int) else 0) = 0 := if_neg q2
        simp only [f1, f2] at next
        rw [if_neg q2, l1, ix2, iI_0, iI_add, iI_add, iI_add]
        exact next
theorem st_now {X R T P I J D Z : Mm} {G Y : Int64} (h : Rl X R T P I J D G Z Y) (p : Int32) : ∃ (r : Int32), ffX7_now p X T P = some r ∧ ffX8_now p Z = some r := by
  obtain ⟨hg, hx, hd, n, k, st, ⟨hT, hRT, hM, hP, hS⟩, hI, hJ⟩ := h
  have hn := hT.1
  have fu := fu_big
  have hl := nowm_l hT hRT hM hS (fun (x13 : Int32) (x14 : Int32) (x15 : Int32) (x16 : Int32) => (if p = 0 then kv_ix 0 104 (some (Z 11 (0 : Int32).toNatClampNeg)) else if p = 1 then kv_ix 1 104 (some (Z 11 (1 : Int32).toNatClampNeg)) else if p = 2 then kv_b1 (ffX8_allWater (0 : Int32) Z) fun r17 => some r17 else if p = 3 then some x16 else if p = 4 then some x15 else if p = 5 then some x14 else some (-1))) n 0 kv_FU (by omega) (by omega)
  have hl2 : ffX8_now p Z = _ := hl
  rw [hl2]
  unfold ffX7_now
  by_cases q0 : p = 0
  · rw [if_pos q0, if_pos q0, ix0 (by omega) (by omega), cl0, hS.1]
    exact ⟨_, rfl, rfl⟩
  · rw [if_neg q0, if_neg q0]
    by_cases q1 : p = 1
    · rw [if_pos q1, if_pos q1, l1, ixN (by omega) (by omega), iI_cn (by omega)]
      have := hS.2.1
      rw [Nat.zero_add] at this
      rw [this]
      exact ⟨_, rfl, rfl⟩
    · rw [if_neg q1, if_neg q1]
      by_cases q2 : p = 2
      · rw [if_pos q2, if_pos q2, allWater_i hT hM (by omega), show ffX8_allWater (0 : Int32) Z = _ from allWm_i (o := 0) hT hRT hS (by omega), kv_b1_d]
        exact ⟨_, rfl, rfl⟩
      · rw [if_neg q2, if_neg q2]
        by_cases q3 : p = 3
        · rw [if_pos q3, if_pos q3, onLine_i hT hM (by omega), kv_b1_d]
          exact ⟨_, rfl, rfl⟩
        · rw [if_neg q3, if_neg q3]
          by_cases q4 : p = 4
          · rw [if_pos q4, if_pos q4, howManyDry_i hT hM (by omega), kv_b1_d]
            exact ⟨_, rfl, rfl⟩
          · rw [if_neg q4, if_neg q4]
            by_cases q5 : p = 5
            · rw [if_pos q5, if_pos q5, howManySmell_i hT hM (by omega), kv_b1_d]
              exact ⟨_, rfl, rfl⟩
            · rw [if_neg q5, if_neg q5]
              exact ⟨_, rfl, rfl⟩
