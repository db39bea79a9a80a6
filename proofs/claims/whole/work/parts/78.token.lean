/-! day: a token by the model; numbers -/
theorem meaning_i {c : Int} (h1 : -2147483648 ≤ c) (h2 : c < 2147483648) : ffX8_meaning (iI c) = some (iI ((mng c : Nat) : Int)) := by
  unfold ffX8_meaning mng
  rw [show (14432 : Int32) = iI 14432 from rfl, show (355280 : Int32) = iI 355280 from rfl, show (386066 : Int32) = iI 386066 from rfl, show (8683934 : Int32) = iI 8683934 from rfl]
  have e : ∀ k : Int, -2147483648 ≤ k → k < 2147483648 → ((iI c = iI k) = (c = k)) := fun k k1 k2 => iI_eq h1 h2 k1 k2
  by_cases q1 : c = 14432
  · rw [if_pos (by rw [q1]), if_pos q1]
    rfl
  · rw [if_neg (by rw [e _ (by omega) (by omega)]; exact q1), if_neg q1]
    by_cases q2 : c = 355280
    · rw [if_pos (by rw [q2]), if_pos q2]
      rfl
    · rw [if_neg (by rw [e _ (by omega) (by omega)]; exact q2), if_neg q2]
      by_cases q3 : c = 386066
      · rw [if_pos (by rw [q3]), if_pos q3]
        rfl
      · rw [if_neg (by rw [e _ (by omega) (by omega)]; exact q3), if_neg q3]
        by_cases q4 : c = 8683934
        · rw [if_pos (by rw [q4]), if_pos q4]
          rfl
        · rw [if_neg (by rw [e _ (by omega) (by omega)]; exact q4), if_neg q4]
          rfl
theorem tC_b {t : Nat → Int} {s m : Nat} (h5 : m ≤ 5) (hl : ∀ i, i < m → 97 ≤ t (s + i) ∧ t (s + i) ≤ 122) : 0 ≤ tC t s m ∧ tC t s m ≤ 15000000 := by
  have c0 : tC t s 0 = 0 := rfl
  have c1 : tC t s 1 = 27 * tC t s 0 + t (s + 0) - 96 := rfl
  have c2 : tC t s 2 = 27 * tC t s 1 + t (s + 1) - 96 := rfl
  have c3 : tC t s 3 = 27 * tC t s 2 + t (s + 2) - 96 := rfl
  have c4 : tC t s 4 = 27 * tC t s 3 + t (s + 3) - 96 := rfl
  have c5 : tC t s 5 = 27 * tC t s 4 + t (s + 4) - 96 := rfl
  rcases (show m = 0 ∨ m = 1 ∨ m = 2 ∨ m = 3 ∨ m = 4 ∨ m = 5 by omega) with rfl | rfl | rfl | rfl | rfl | rfl
  · omega
  · have b0 := hl 0 (by omega)
    omega
  · have b0 := hl 0 (by omega)
    have b1 := hl 1 (by omega)
    omega
  · have b0 := hl 0 (by omega)
    have b1 := hl 1 (by omega)
    have b2 := hl 2 (by omega)
    omega
  · have b0 := hl 0 (by omega)
    have b1 := hl 1 (by omega)
    have b2 := hl 2 (by omega)
    have b3 := hl 3 (by omega)
    omega
  · have b0 := hl 0 (by omega)
    have b1 := hl 1 (by omega)
    have b2 := hl 2 (by omega)
    have b3 := hl 3 (by omega)
    have b4 := hl 4 (by omega)
    omega
/-- the token ahead, in the model -/
def LA (t : Nat → Int) (len p : Nat) (Z : Mm) : Prop := Z 0 12 = iI ((tE t len (tS t len p) : Nat) : Int) ∧ Z 0 13 = iI ((tS t len p : Nat) : Int) ∧ Z 0 14 = iI ((tK t len (tS t len p) : Nat) : Int) ∧ (tK t len (tS t len p) = 5 → Z 0 15 = iI (tW t len (tS t len p)))
theorem nextM {t : Nat → Int} {len p : Nat} {Z : Mm} (hZ : TR t len Z) (hp : p ≤ len) (h12 : Z 0 12 = iI p) : ∃ Z', ffX8_next Z = some Z' ∧ FrZ Z Z' ∧ LA t len p Z' := by
  have fu := fu_big
  have hl := hZ.1
  unfold ffX8_next LA
  have hsk : ∀ K : Mm → Option Mm, ∃ R', ffX8_next_L0 K kv_FU Z = K R' ∧ FrZ Z R' ∧ R' 0 12 = iI ((tS t len p : Nat) : Int) := fun K => skipM_l K (len - p) p kv_FU Z (by omega) (by omega) hZ h12
  obtain ⟨Z5, r1, r2, r3⟩ := hsk _
  rw [r1]
  have hsb := tS_b (t := t) hp
  generalize tS t len p = s at *
  simp only [kv_lt_d]
  rw [r3]
  have hF8 : FrZ Z (mm_w (mm_w Z5 0 (upd (Z5 0) 13 (iI ((s : Nat) : Int)))) 0 (upd (mm_w Z5 0 (upd (Z5 0) 13 (iI ((s : Nat) : Int))) 0) 15 0)) := r2.tr ((FrZ.q (by omega)).tr (FrZ.q (by omega)))
  have h12' : mm_w (mm_w Z5 0 (upd (Z5 0) 13 (iI ((s : Nat) : Int)))) 0 (upd (mm_w Z5 0 (upd (Z5 0) 13 (iI ((s : Nat) : Int))) 0) 15 0) 0 12 = iI s := by rw [q_n (by omega), q_n (by omega), r3]
  have h13' : mm_w (mm_w Z5 0 (upd (Z5 0) 13 (iI ((s : Nat) : Int)))) 0 (upd (mm_w Z5 0 (upd (Z5 0) 13 (iI ((s : Nat) : Int))) 0) 15 0) 0 13 = iI s := by rw [q_n (by omega), q_s]
  have h15' : mm_w (mm_w Z5 0 (upd (Z5 0) 13 (iI ((s : Nat) : Int)))) 0 (upd (mm_w Z5 0 (upd (Z5 0) 13 (iI ((s : Nat) : Int))) 0) 15 0) 0 15 = 0 := q_s
  generalize mm_w (mm_w Z5 0 (upd (Z5 0) 13 (iI ((s : Nat) : Int)))) 0 (upd (mm_w Z5 0 (upd (Z5 0) 13 (iI ((s : Nat) : Int))) 0) 15 0) = Z8 at *
  have hZ8 := hZ.z hF8
  by_cases q : s < len
  · have hbs := hZ8.2.1 s q
    have hh := h8_b hbs.1 hbs.2
    have heb := tE_b (t := t) hsb.2
    rw [here_i hZ8 h12' q, kv_b1_d, if_pos (by rw [iI_0, iI_le (by omega) (by omega) (by omega) (by omega)]; omega), inL hbs.1 hbs.2, kv_b1_d]
    by_cases ql : 97 ≤ t s ∧ t s ≤ 122
    · have ql' : tL t s = true := (tL_i t s).mpr ql
      obtain ⟨k1, k2, k3⟩ := tK_let q ql'
      have hlet : ∀ i, i < tE t len s - s → 97 ≤ t (s + i) ∧ t (s + i) ≤ 122 := fun i hi => (tL_i t (s + i)).mp (tRun_all (tL t) (len - s) s (s + i) (by omega) (by rw [← k3]; omega))
      rw [if_pos ql, z_1]
      have hw : ∀ K : Int32 → Mm → Option Mm, ∃ R', ffX8_next_L65 K kv_FU (iI (tCm t s (s - s))) Z8 = K (iI (tCm t s (tRun (tL t) (len - s) s - s))) R' ∧ (∀ c, c ≠ 0 → R' c = Z8 c) ∧ (∀ j, j ≠ 12 → R' 0 j = Z8 0 j) ∧ R' 0 12 = iI ((tRun (tL t) (len - s) s : Nat) : Int) := fun K => wordM_l K (len - s) s kv_FU Z8 (by omega) (Nat.le_refl s) (by omega) hZ8 h12' h13'
      have e0 : iI (tCm t s (s - s)) = 0 := by rw [Nat.sub_self]; rfl
      rw [e0, ← k3] at hw
      obtain ⟨Z9, e1, e2, e3, e4⟩ := hw _
      rw [e1, e4, e3 13 (by omega), h13', iI_sub]
      have hF9 : FrZ Z Z9 := hF8.tr ⟨e2, fun j hj => e3 j (by omega)⟩
      have hK5 := (tK_w q ql').2.1
      by_cases q5 : tE t len s - s ≤ 5
      · have hcb := tC_b q5 hlet
        have ec : tCm t s (tE t len s - s) = tC t s (tE t len s - s) := if_pos q5
        rw [if_pos q5] at k1
        rw [if_pos (by rw [show (5 : Int32) = iI 5 from rfl, iI_le (by omega) (by omega) (by omega) (by omega)]; omega), ec, meaning_i (by omega) (by omega), kv_b1_d, ← k1]
        refine ⟨_, rfl, hF9.tr (FrZ.q (by omega)), ?_, ?_, q_s, fun h => absurd h hK5⟩
        · rw [q_n (by omega), e4]
        · rw [q_n (by omega), e3 13 (by omega), h13']
      · have h0 : ffX8_meaning 0 = some 7 := rfl
        rw [if_neg q5] at k1
        rw [if_neg (by rw [show (5 : Int32) = iI 5 from rfl, iI_le (by omega) (by omega) (by omega) (by omega)]; omega), h0, kv_b1_d]
        refine ⟨_, rfl, hF9.tr (FrZ.q (by omega)), ?_, ?_, ?_, fun h => absurd h hK5⟩
        · rw [q_n (by omega), e4]
        · rw [q_n (by omega), e3 13 (by omega), h13']
        · rw [q_s, k1]
          rfl
    · have ql' : ¬ tL t s = true := fun x => ql ((tL_i t s).mp x)
      rw [if_neg ql, z_0, inDg hbs.1 hbs.2, kv_b1_d]
      by_cases qd : 48 ≤ t s ∧ t s ≤ 57
      · have qd' : tD t s = true := (tD_i t s).mpr qd
        obtain ⟨k1, k2, k3⟩ := tK_dig q ql' qd'
        rw [if_pos qd, z_1]
        have hv0 : vM (tV t s (s - s)) 0 := by
          rw [Nat.sub_self]
          unfold vM
          rw [tV]
          omega
        have hnum : ∀ K : Mm → Option Mm, ∃ (R' : Mm) (y : Int), ffX8_next_L161 K kv_FU Z8 = K R' ∧ (∀ c, c ≠ 0 → R' c = Z8 c) ∧ (∀ j, j ≠ 12 → j ≠ 15 → R' 0 j = Z8 0 j) ∧ R' 0 12 = iI ((tRun (tD t) (len - s) s : Nat) : Int) ∧ R' 0 15 = iI y ∧ vM (tV t s (tRun (tD t) (len - s) s - s)) y := fun K => numM_l K (len - s) s kv_FU Z8 0 (by omega) (Nat.le_refl s) (by omega) hZ8 h12' h15' hv0
        obtain ⟨Z9, y, e1, e2, e3, e4, e5, e6⟩ := hnum _
        rw [e1]
        rw [← k3] at e4 e6
        have h93 : Z9 0 13 = iI s := by rw [e3 13 (by omega) (by omega), h13']
        have hF9 : FrZ Z Z9 := hF8.tr ⟨e2, fun j hj => e3 j (by omega) (by omega)⟩
        rw [e4, e5, h93, iI_sub]
        unfold tW
        obtain ⟨v0, y0, y1, y2, y3⟩ := e6
        have e99 : ((99 : Int32) < iI y) = (99 < tV t s (tE t len s - s)) := by
          rw [show (99 : Int32) = iI 99 from rfl, iI_lt (by omega) (by omega) (by omega) (by omega)]
          exact propext ⟨fun h => by omega, fun h => by omega⟩
        have e48 : (iI (h8 (t s)) = (48 : Int32)) = (t s = 48) := by
          rw [show (48 : Int32) = iI 48 from rfl, iI_eq (by omega) (by omega) (by omega) (by omega)]
          exact propext ⟨fun h => by omega, fun h => by omega⟩
        have e1m : (iI (((tE t len s : Nat) : Int) - ((s : Nat) : Int)) ≤ (1 : Int32)) = (tE t len s - s ≤ 1) := by
          rw [iI_1, iI_le (by omega) (by omega) (by omega) (by omega)]
          exact propext ⟨fun h => by omega, fun h => by omega⟩
        have fin7 : (99 < tV t s (tE t len s - s) ∨ (t s = 48 ∧ 1 < tE t len s - s)) → ∃ Z', some (mm_w Z9 0 (upd (Z9 0) 14 7)) = some Z' ∧ FrZ Z Z' ∧ Z' 0 12 = iI ((tE t len s : Nat) : Int) ∧ Z' 0 13 = iI ((s : Nat) : Int) ∧ Z' 0 14 = iI ((tK t len s : Nat) : Int) ∧ (tK t len s = 5 → Z' 0 15 = iI (tV t s (tE t len s - s))) := fun h => by
          rw [if_pos h] at k1
          refine ⟨_, rfl, hF9.tr (FrZ.q (by omega)), ?_, ?_, ?_, fun h => by omega⟩
          · rw [q_n (by omega), e4]
          · rw [q_n (by omega), h93]
          · rw [q_s, k1]
            rfl
        have fin5 : ¬ (99 < tV t s (tE t len s - s) ∨ (t s = 48 ∧ 1 < tE t len s - s)) → ∃ Z', some (mm_w Z9 0 (upd (Z9 0) 14 5)) = some Z' ∧ FrZ Z Z' ∧ Z' 0 12 = iI ((tE t len s : Nat) : Int) ∧ Z' 0 13 = iI ((s : Nat) : Int) ∧ Z' 0 14 = iI ((tK t len s : Nat) : Int) ∧ (tK t len s = 5 → Z' 0 15 = iI (tV t s (tE t len s - s))) := fun h => by
          rw [if_neg h] at k1
          refine ⟨_, rfl, hF9.tr (FrZ.q (by omega)), ?_, ?_, ?_, fun _ => ?_⟩
          · rw [q_n (by omega), e4]
          · rw [q_n (by omega), h93]
          · rw [q_s, k1]
            rfl
          · rw [q_n (by omega), e5, y2 (by omega)]
        by_cases a3 : 99 < tV t s (tE t len s - s)
        · rw [if_pos (by rw [e99]; exact a3)]
          exact fin7 (by omega)
        · rw [if_neg (by rw [e99]; exact a3)]
          by_cases a1 : t s = 48
          · rw [if_pos (by rw [e48]; exact a1)]
            by_cases a2 : tE t len s - s ≤ 1
            · rw [if_pos (by rw [e1m]; exact a2)]
              exact fin5 (by omega)
            · rw [if_neg (by rw [e1m]; exact a2)]
              exact fin7 (by omega)
          · rw [if_neg (by rw [e48]; exact a1)]
            exact fin5 (by omega)
      · have qd' : ¬ tD t s = true := fun x => qd ((tD_i t s).mp x)
        obtain ⟨k1, k2, k3⟩ := tK_oth q ql' qd'
        rw [if_neg qd, z_0, h12', l1, ix2]
        by_cases a1 : t s = 59
        · rw [if_pos a1] at k1
          rw [if_pos (by rw [a1]; rfl)]
          refine ⟨_, rfl, hF8.tr ((FrZ.q (by omega)).tr (FrZ.q (by omega))), ?_, ?_, ?_, fun h => by omega⟩
          · rw [q_n (by omega), q_s, k3]
          · rw [q_n (by omega), q_n (by omega), h13']
          · rw [q_s, k1]
            rfl
        · rw [if_neg a1] at k1
          rw [if_neg (by rw [show (59 : Int32) = iI 59 from rfl, iI_eq (by omega) (by omega) (by omega) (by omega)]; omega)]
          refine ⟨_, rfl, hF8.tr ((FrZ.q (by omega)).tr (FrZ.q (by omega))), ?_, ?_, ?_, fun h => by omega⟩
          · rw [q_n (by omega), q_s, k3]
          · rw [q_n (by omega), q_n (by omega), h13']
          · rw [q_s, k1]
            rfl
  · obtain ⟨k1, k2, k3⟩ := tK_end (t := t) (len := len) (s := s) (by omega)
    rw [here_e hZ8 h12' (by omega) (by omega), kv_b1_d, if_neg (by decide)]
    refine ⟨_, rfl, hF8.tr (FrZ.q (by omega)), ?_, ?_, ?_, fun h => by omega⟩
    · rw [q_n (by omega), h12', k3]
    · rw [q_n (by omega), h13']
    · rw [q_s, k1]
      rfl
