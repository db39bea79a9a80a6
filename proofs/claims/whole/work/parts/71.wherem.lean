/-! where: the model -/
def bsC (b : Nat → Bool) : Bool := (List.range 5).all (fun x => decide ((hB b 5 ||| (1 <<< (iI (x : Int) &&& 31))) = hB (bs b x) 5))
set_option maxRecDepth 100000 in
theorem bsC_all : ∀ (b0 b1 b2 b3 b4 b5 : Bool), bsC (b6 b0 b1 b2 b3 b4 b5) = true := by decide +kernel
theorem bs_c (b : Nat → Bool) {x : Nat} (hx : x < 5) : (hB b 5 ||| (1 <<< (iI (x : Int) &&& 31))) = hB (bs b x) 5 := by
  have h := bsC_all (b 0) (b 1) (b 2) (b 3) (b 4) (b 5)
  unfold bsC at h
  have h2 := List.all_eq_true.mp h x (List.mem_range.mpr hx)
  rw [decide_eq_true_eq] at h2
  have e : ∀ i, i < 5 → b i = b6 (b 0) (b 1) (b 2) (b 3) (b 4) (b 5) i := fun i hi => b6_i b (by omega)
  have e2 : hB (bs (b6 (b 0) (b 1) (b 2) (b 3) (b 4) (b 5)) x) 5 = hB (bs b x) 5 := hB_cong (fun i hi => by unfold bs; rw [e i hi])
  rw [hB_cong e, h2, e2]
theorem or_z (a : Int32) : a ||| 0 = a := Int32.or_zero
theorem remB {v k : Nat} (h : v < 1000000) (hk : k ≤ 5) : iI (v : Int) - iI (v : Int) / (iI (k : Int) + 1) * (iI (k : Int) + 1) - 1 = iI (((v % (k + 1) : Nat) : Int) - 1) ∧ iI (v : Int) / (iI (k : Int) + 1) = iI ((v / (k + 1) : Nat) : Int) := by
  have e0 : iI (k : Int) + 1 = iI ((k + 1 : Nat) : Int) := by rw [l1, ix2]
  have e : iI (v : Int) / iI ((k + 1 : Nat) : Int) = iI ((v / (k + 1) : Nat) : Int) := by
    rw [iI_div (by omega) (by omega) (by omega) (by omega)]
    congr 1
  rw [e0]
  refine ⟨?_, e⟩
  rw [e, iI_mul, iI_sub, iI_1, iI_sub]
  congr 1
  have h2 := Nat.div_add_mod v (k + 1)
  have h3 : ((v / (k + 1) : Nat) : Int) * ((k + 1 : Nat) : Int) = (((k + 1) * (v / (k + 1)) : Nat) : Int) := by
    rw [← Int.natCast_mul, Nat.mul_comm]
  rw [h3]
  omega
/-- a piece fits a spot -/
def ft (T : Mm) (i s : Nat) : Prop := tv T 2 i ≤ tv T 4 s
set_option maxHeartbeats 1000000 in
theorem isPlaced_l {T Z0 : Mm} {n k st : Nat} (hT : OkT T n k st) (hR : RT T Z0 n k st) : ∀ (d v fm : Nat) (t : Nat → Bool) (Z : Mm), d ≤ n → v < 1000000 → d < fm → (∀ c, c < 11 → Z c = Z0 c) → ∃ f : Nat → Int32, (∀ j, d ≤ j → f j = Z 13 j) ∧ ((um (ft T) (k + 1) t d v ∧ (∀ j, j < d → f j = iI (plz (rw6 (k + 1) d v j))) ∧ ffX8_isPlaced_L14 (fun (x16 : Int32) (x17 : Int32) (x18 : Int32) (mZ19 : Mm) => some (1, mZ19)) fm (iI ((d : Int) - 1)) (hB t 5) (iI v) Z = some (1, mm_w Z 13 f)) ∨ (¬ um (ft T) (k + 1) t d v ∧ ffX8_isPlaced_L14 (fun (x16 : Int32) (x17 : Int32) (x18 : Int32) (mZ19 : Mm) => some (1, mZ19)) fm (iI ((d : Int) - 1)) (hB t 5) (iI v) Z = some (0, mm_w Z 13 f))) := by
  have hn := hT.1
  have hk := hT.2.1
  intro d
  induction d with
  | zero =>
    intro v fm t Z hd hv hf hZ
    obtain ⟨fm, rfl⟩ : ∃ q, fm = q + 1 := ⟨fm - 1, by omega⟩
    refine ⟨Z 13, fun _ _ => rfl, Or.inl ⟨trivial, fun j hj => absurd hj (by omega), ?_⟩⟩
    rw [ffX8_isPlaced_L14_s, if_pos (by decide), mm_w_self]
  | succ d ih =>
    intro v fm t Z hd hv hf hZ
    obtain ⟨fm, rfl⟩ : ∃ q, fm = q + 1 := ⟨fm - 1, by omega⟩
    have hx : v % (k + 1) < k + 1 := Nat.mod_lt _ (by omega)
    have hvd : v / (k + 1) ≤ v := Nat.div_le_self _ _
    obtain ⟨e1, e2⟩ := remB hv hk
    have z6 : Z 6 0 = iI k := by rw [hZ 6 (by omega)]; exact hR.2.1
    have ed : iI (((d + 1 : Nat) : Int) - 1) = iI (d : Int) := by congr 1; omega
    have ed1 : iI (d : Int) + (-1) = iI ((d : Int) - 1) := by rw [show (-1 : Int32) = iI (-1) from rfl, iI_add]; congr 1
    have enz : ∀ q : Option (Int32 × Mm), kv_nz (iI (k : Int) + 1) q = q := fun q => by
      rw [l1, ix2]
      exact iI_nz (by omega) (by omega) (by omega)
    rw [ed, ffX8_isPlaced_L14_s, if_neg (by rw [iI_0, iI_lt (by omega) (by omega) (by omega) (by omega)]; omega), ix0 (by omega) (by omega), cl0, z6, enz, e1, kv_lt_d, ix0 (by omega) (by omega), enz, e2, kv_lt_d]
    simp only [kv_lt_d, ed1]
    by_cases q : v % (k + 1) = 0
    · obtain ⟨f, f1, f2⟩ := ih (v / (k + 1)) fm t (mm_w Z 13 (upd (Z 13) d 9)) (by omega) (by omega) (by omega) (fun c hc => by rw [mm_w_ne (by omega)]; exact hZ c hc)
      have c1 : iI (((v % (k + 1) : Nat) : Int) - 1) < 0 := by rw [iI_0, iI_lt (by omega) (by omega) (by omega) (by omega)]; omega
      have c2 : ¬ (0 : Int32) ≤ iI (((v % (k + 1) : Nat) : Int) - 1) := by rw [iI_0, iI_le (by omega) (by omega) (by omega) (by omega)]; omega
      rw [if_pos c1, if_pos c1, if_neg c2, ixN (by omega) (by omega), iI_cn (j := d) (by omega), or_z]
      have fd : f d = 9 := by rw [f1 d (by omega), mm_w_same, upd_sm]
      rw [mm_w_w] at f2
      refine ⟨f, fun j hj => by rw [f1 j (by omega), mm_w_same, upd_nn (by omega)], ?_⟩
      rw [um, if_pos q]
      rcases f2 with ⟨g1, g2, g3⟩ | ⟨g1, g3⟩
      · refine Or.inl ⟨⟨Or.inl q, g1⟩, fun j hj => ?_, g3⟩
        by_cases qj : j = d
        · rw [qj, fd, rw6_l, q]
          rfl
        · rw [rw6_n qj]
          exact g2 j (by omega)
      · exact Or.inr ⟨fun h => g1 h.2, g3⟩
    · obtain ⟨s, hs⟩ : ∃ s, v % (k + 1) = s + 1 := ⟨v % (k + 1) - 1, by omega⟩
      have es : (((v % (k + 1) : Nat) : Int) - 1) = ((s : Nat) : Int) := by omega
      obtain ⟨f, f1, f2⟩ := ih (v / (k + 1)) fm (bs t s) (mm_w Z 13 (upd (Z 13) d (iI s))) (by omega) (by omega) (by omega) (fun c hc => by rw [mm_w_ne (by omega)]; exact hZ c hc)
      have c1 : ¬ iI ((s : Nat) : Int) < 0 := by rw [iI_0, iI_lt (by omega) (by omega) (by omega) (by omega)]; omega
      have c2 : (0 : Int32) ≤ iI ((s : Nat) : Int) := by rw [iI_0, iI_le (by omega) (by omega) (by omega) (by omega)]; omega
      have hbit := (hb_c t (n := 5) (by omega)).2.1 s (by omega)
      have hbd := hT.2.2.2.2.2.2.1 d (by omega)
      have hsd := hT.2.2.2.2.2.2.2.1 s (by omega)
      have z4 : Z 4 d = iI (tv T 2 d) := by rw [hZ 4 (by omega), (hR.2.2.2.1 d (by omega)).2.1]; exact tv_i T 2 d
      have z7 : Z 7 s = iI (tv T 4 s) := by rw [hZ 7 (by omega), (hR.2.2.2.2.1 s (by omega)).1]; exact tv_i T 4 s
      rw [es, if_neg c1, if_neg c1, if_pos c2, hbit, bs_c t (by omega), ixN (by omega) (by omega), ixN (by omega) (by omega), ixN (by omega) (by omega), iI_cn (j := d) (by omega), iI_cn (j := s) (by omega), z4, z7]
      have fd : f d = iI s := by rw [f1 d (by omega), mm_w_same, upd_sm]
      rw [mm_w_w] at f2
      rw [um, if_neg q, hs, Nat.add_sub_cancel]
      by_cases qt : t s = true
      · rw [if_pos qt, if_pos rfl]
        exact ⟨Z 13, fun _ _ => rfl, Or.inr ⟨fun h => by
          have h3 := (h.1.resolve_left (by omega)).1
          rw [qt] at h3
          exact absurd h3 (by decide), by rw [mm_w_self]⟩⟩
      · have qf : t s = false := by
          cases hh : t s with
          | false => rfl
          | true => exact absurd hh qt
        rw [if_neg qt, if_neg (by decide)]
        by_cases qw : tv T 2 d ≤ tv T 4 s
        · rw [if_pos (by rw [iI_le (by omega) (by omega) (by omega) (by omega)]; exact qw)]
          refine ⟨f, fun j hj => by rw [f1 j (by omega), mm_w_same, upd_nn (by omega)], ?_⟩
          rcases f2 with ⟨g1, g2, g3⟩ | ⟨g1, g3⟩
          · refine Or.inl ⟨⟨Or.inr ⟨qf, qw⟩, g1⟩, fun j hj => ?_, g3⟩
            by_cases qj : j = d
            · rw [qj, fd, rw6_l, hs, plz_s]
            · rw [rw6_n qj]
              exact g2 j (by omega)
          · exact Or.inr ⟨fun h => g1 h.2, g3⟩
        · rw [if_neg (by rw [iI_le (by omega) (by omega) (by omega) (by omega)]; exact qw)]
          exact ⟨Z 13, fun _ _ => rfl, Or.inr ⟨fun h => qw (h.1.resolve_left (by omega)).2, by rw [mm_w_self]⟩⟩
theorem hB_z : hB (fun _ => false) 5 = 0 := by decide
theorem isPlaced_i {T Z : Mm} {n k st v : Nat} (hT : OkT T n k st) (hR : RT T Z n k st) (hv : v < 1000000) : ∃ f : Nat → Int32, (vw (ft T) (k + 1) n v ∧ (∀ j, j < n → f j = iI (plz (rw6 (k + 1) n v j))) ∧ ffX8_isPlaced (iI v) Z = some (1, mm_w Z 13 f)) ∨ (¬ vw (ft T) (k + 1) n v ∧ ffX8_isPlaced (iI v) Z = some (0, mm_w Z 13 f)) := by
  have fu := fu_big
  have hn := hT.1
  unfold ffX8_isPlaced
  rw [ix0 (by omega) (by omega), cl0, hR.1, kv_lt_d, show iI (n : Int) - 1 = iI ((n : Int) - 1) by rw [iI_1, iI_sub]]
  generalize kv_FU = F at fu ⊢
  obtain ⟨f, -, f2⟩ := isPlaced_l hT hR n v F (fun _ => false) Z (Nat.le_refl n) hv (by omega) (fun _ _ => rfl)
  rw [hB_z, um_vw] at f2
  refine ⟨f, ?_⟩
  rcases f2 with ⟨g1, g2, g3⟩ | ⟨g1, g3⟩
  · exact Or.inl ⟨g1.1, g2, g3⟩
  · exact Or.inr ⟨fun h => g1 ⟨h, fun _ _ => rfl⟩, g3⟩
/-- a foretelling changes the stand that is tried, and nothing else -/
def Fs (Z Z' : Mm) : Prop := (∀ c, c ≠ 11 → Z' c = Z c) ∧ ∀ j, j < 26 ∨ 52 ≤ j → Z' 11 j = Z 11 j
theorem Fs.fr {Z Z' : Mm} (h : Fs Z Z') : Fr Z Z' := ⟨fun c hc => h.1 c (by omega), h.2⟩
theorem Fs.tr {A B C : Mm} (h1 : Fs A B) (h2 : Fs B C) : Fs A C := ⟨fun c hc => (h2.1 c hc).trans (h1.1 c hc), fun j hj => (h2.2 j hj).trans (h1.2 j hj)⟩
theorem Fs.w {Z : Mm} {f : Nat → Int32} (h : ∀ j, j < 26 ∨ 52 ≤ j → f j = Z 11 j) : Fs Z (mm_w Z 11 f) := ⟨fun c hc => mm_w_ne hc, fun j hj => by rw [mm_w_same]; exact h j hj⟩
theorem run_l {T : Mm} {n k st N : Nat} (hT : OkT T n k st) (hN : N ≤ 24) (K : Int32 → Mm → Option (Int32 × Mm)) : ∀ (d t fm : Nat) (M Z : Mm), t + d = N → d < fm → RT T Z n k st → OkM T M n k (99 + t) → RS M Z 26 n → ∃ Z', ffX8_where_L130 (iI N) K fm (iI t) Z = K (iI N) Z' ∧ RS (rn T n st d M) Z' 26 n ∧ Fs Z Z' := by
  intro d
  induction d with
  | zero =>
    intro t fm M Z ht hf hR hM hS
    obtain ⟨fm, rfl⟩ : ∃ q, fm = q + 1 := ⟨fm - 1, by omega⟩
    have e : t = N := by omega
    subst e
    refine ⟨Z, ?_, hS, fun _ _ => rfl, fun _ _ => rfl⟩
    rw [ffX8_where_L130_s, if_pos (by rw [iI_le (by omega) (by omega) (by omega) (by omega)]; omega)]
  | succ d ih =>
    intro t fm M Z ht hf hR hM hS
    obtain ⟨fm, rfl⟩ : ∃ q, fm = q + 1 := ⟨fm - 1, by omega⟩
    have hgo : ffX8_goStep (26 : Int32) Z = some (iI (nLost T M n st), mm_w Z 11 (gF T M Z 26 n st)) := goStep_i (o := 26) hT hR hM (by omega) hS (by omega)
    have ee : (99 : Int) + ((t + 1 : Nat) : Int) = 99 + (t : Int) + 1 := by omega
    obtain ⟨Z', z1, z2, z3⟩ := ih (t + 1) fm (mN T M n st) (mm_w Z 11 (gF T M Z 26 n st)) (by omega) (by omega) (hR.w 11 (by omega) _) (by rw [ee]; exact hM.step hT (by omega)) (RS.step hT.1 hS)
    refine ⟨Z', ?_, z2, (Fs.w (fun j hj => gF_out hT.1 (by omega))).tr z3⟩
    rw [ffX8_where_L130_s, if_neg (by rw [iI_le (by omega) (by omega) (by omega) (by omega)]; omega), hgo, kv_b2_d, kv_lt_d, l1, ix2]
    exact z1
theorem place_l {n : Nat} (hn : n ≤ 6) (K : Int32 → Mm → Option (Int32 × Mm)) : ∀ (d j fm : Nat) (Z : Mm), j + d = n → d < fm → Z 2 0 = iI n → ∃ f : Nat → Int32, (∀ i, j ≤ i → i < n → f (46 + i) = Z 13 i) ∧ (∀ x, (x < 46 + j ∨ 46 + n ≤ x) → f x = Z 11 x) ∧ ffX8_where_L93 K fm (iI j) Z = K (iI n) (mm_w Z 11 f) := by
  intro d
  induction d with
  | zero =>
    intro j fm Z hj hf hZ
    obtain ⟨fm, rfl⟩ : ∃ q, fm = q + 1 := ⟨fm - 1, by omega⟩
    have e : j = n := by omega
    subst e
    refine ⟨Z 11, fun i h1 h2 => by omega, fun _ _ => rfl, ?_⟩
    rw [ffX8_where_L93_s, ix0 (by omega) (by omega), cl0, hZ, if_pos (by rw [iI_le (by omega) (by omega) (by omega) (by omega)]; omega), mm_w_self]
  | succ d ih =>
    intro j fm Z hj hf hZ
    obtain ⟨fm, rfl⟩ : ∃ q, fm = q + 1 := ⟨fm - 1, by omega⟩
    obtain ⟨f, f1, f2, f3⟩ := ih (j + 1) fm (mm_w Z 11 (upd (Z 11) (46 + j) (Z 13 j))) (by omega) (by omega) (by rw [mm_w_ne (by omega)]; exact hZ)
    rw [mm_w_w] at f3
    refine ⟨f, fun i h1 h2 => ?_, fun x hx => ?_, ?_⟩
    · by_cases q : i = j
      · rw [q, f2 (46 + j) (by omega), mm_w_same, upd_sm]
      · rw [f1 i (by omega) h2, mm_w_ne (by omega)]
    · rw [f2 x (by omega), mm_w_same, upd_nn (by omega)]
    · rw [ffX8_where_L93_s, ix0 (by omega) (by omega), cl0, hZ, if_neg (by rw [iI_le (by omega) (by omega) (by omega) (by omega)]; omega), ixN (by omega) (by omega), kv_lt_d, show (46 : Int32) = iI ((46 : Nat) : Int) from rfl, l1, ix2, ix2, ixN (by omega) (by omega), kv_lt_d, kv_lt_d, iI_cn (j := j) (by omega), iI_cn (j := 46 + j) (by omega)]
      exact f3
theorem bestPl_l {n : Nat} (hn : n ≤ 6) (K : Int32 → Mm → Option (Int32 × Mm)) : ∀ (d j fm : Nat) (Z : Mm), j + d = n → d < fm → Z 2 0 = iI n → ∃ f : Nat → Int32, (∀ i, j ≤ i → i < n → f i = Z 13 i) ∧ (∀ i, i < j → f i = Z 14 i) ∧ ffX8_where_L178 K fm (iI j) Z = K (iI n) (mm_w Z 14 f) := by
  intro d
  induction d with
  | zero =>
    intro j fm Z hj hf hZ
    obtain ⟨fm, rfl⟩ : ∃ q, fm = q + 1 := ⟨fm - 1, by omega⟩
    have e : j = n := by omega
    subst e
    refine ⟨Z 14, fun i h1 h2 => by omega, fun _ _ => rfl, ?_⟩
    rw [ffX8_where_L178_s, ix0 (by omega) (by omega), cl0, hZ, if_pos (by rw [iI_le (by omega) (by omega) (by omega) (by omega)]; omega), mm_w_self]
  | succ d ih =>
    intro j fm Z hj hf hZ
    obtain ⟨fm, rfl⟩ : ∃ q, fm = q + 1 := ⟨fm - 1, by omega⟩
    obtain ⟨f, f1, f2, f3⟩ := ih (j + 1) fm (mm_w Z 14 (upd (Z 14) j (Z 13 j))) (by omega) (by omega) (by rw [mm_w_ne (by omega)]; exact hZ)
    rw [mm_w_w] at f3
    refine ⟨f, fun i h1 h2 => ?_, fun i h1 => ?_, ?_⟩
    · by_cases q : i = j
      · rw [q, f2 j (by omega), mm_w_same, upd_sm]
      · rw [f1 i (by omega) h2, mm_w_ne (by omega)]
    · rw [f2 i (by omega), mm_w_same, upd_nn (by omega)]
    · rw [ffX8_where_L178_s, ix0 (by omega) (by omega), cl0, hZ, if_neg (by rw [iI_le (by omega) (by omega) (by omega) (by omega)]; omega), ixN (by omega) (by omega), kv_lt_d, ixN (by omega) (by omega), kv_lt_d, kv_lt_d, iI_cn (j := j) (by omega), l1, ix2]
      exact f3
/-- a way, weighed by the model -/
theorem way_i {T P Z : Mm} {n k st N v : Nat} (hN : RN T P Z n k st) (h24 : N ≤ 24) (h13 : ∀ j, j < n → Z 13 j = iI (plz (rw6 (k + 1) n v j))) (K : Int32 → Mm → Option (Int32 × Mm)) : ∃ Z', (kv_b1 (ffX8_copy (0 : Int32) (26 : Int32) Z) fun mZ15 => ffX8_where_L93 (fun (x21 : Int32) (mZ22 : Mm) => ffX8_where_L130 (iI N) K kv_FU 0 mZ22) kv_FU 0 mZ15) = K (iI N) Z' ∧ ffX8_allWater (26 : Int32) Z' = some (iI (wv T P k n st N v)) ∧ Fs Z Z' ∧ RT T Z' n k st := by
  obtain ⟨hT, hRT, hM, hP, hS⟩ := id hN
  have fu := fu_big
  have hn := hT.1
  have hk := hT.2.1
  obtain ⟨-, c2, ⟨d1, d2, d3, d4, d5⟩, c4⟩ := fore (A := zz) hN
  rw [c2, kv_b1_d]
  have hF1 : Fs Z (mm_w Z 11 (gC Z 0 26 26)) := Fs.w (fun j hj => by unfold gC; rw [if_neg (by omega)])
  generalize mm_w Z 11 (gC Z 0 26 26) = Z1 at *
  generalize kv_FU = F at fu ⊢
  obtain ⟨f, f1, f2, f3⟩ := place_l hn (fun (x21 : Int32) (mZ22 : Mm) => ffX8_where_L130 (iI N) K F 0 mZ22) n 0 F Z1 (by omega) (by omega) d2.1
  have hF2 : Fs Z1 (mm_w Z1 11 f) := Fs.w (fun j hj => f2 j (by omega))
  have hR2 : RT T (mm_w Z1 11 f) n k st := d2.w 11 (by omega) f
  have hS2 : RS (Mw P (k + 1) n v) (mm_w Z1 11 f) 26 n := by
    unfold RS
    rw [mm_w_same]
    refine ⟨?_, ?_, fun i hi => ?_⟩
    · rw [f2 26 (by omega), d5.1, mC_s (Or.inl rfl), Mw_n (by omega)]
    · rw [f2 27 (by omega), d5.2.1, mC_s (Or.inr rfl), Mw_n (by omega)]
    · obtain ⟨s1, s2, s4, s3⟩ := d5.2.2 i hi
      rw [f2 (26 + 2 + i) (by omega), f2 (26 + 8 + i) (by omega), f2 (26 + 14 + i) (by omega), s1, s2, s4, mC_in hi (by omega) (by omega), mC_in hi (by omega) (by omega), mC_in hi (by omega) (by omega), Mw_n (by omega), Mw_n (by omega), Mw_n (by omega)]
      refine ⟨rfl, rfl, rfl, ?_⟩
      rw [show 26 + 20 + i = 46 + i by omega, f1 i (by omega) hi, hF1.1 13 (by omega), h13 i hi]
      rfl
  obtain ⟨Z', z1, z2, z3⟩ := run_l hT h24 K N 0 F (Mw P (k + 1) n v) (mm_w Z1 11 f) (by omega) (by omega) hR2 ((Mw_ok hk hM).mono (by omega)) hS2
  have hR3 : RT T Z' n k st := hR2.eq (fun c hc => z3.1 c (by omega))
  exact ⟨Z', f3.trans z1, allWm_i (o := 26) hT hR3 z2 (by omega), (hF1.tr hF2).tr z3, hR3⟩
set_option maxHeartbeats 1000000 in
theorem whereM {T P Z0 : Mm} {n k st N : Nat} (hN : RN T P Z0 n k st) (h24 : N ≤ 24) {C : Nat} (hC : C ≤ 46656) [DecidablePred (vw (ft T) (k + 1) n)] (K : Int32 → Int32 → Mm → Option (Int32 × Mm)) : ∀ (d a fm : Nat) (S : Option (Int × Nat)) (x : Int32) (Z : Mm), a + d = C → d < fm → Fr Z0 Z → MO (-9) (fun c j => iI (plz (rw6 (k + 1) n c j))) n S x (Z 14) → ∃ (x' : Int32) (Z' : Mm), ffX8_where_L68 (iI N) (iI C) K fm (iI a) x Z = K (iI C) x' Z' ∧ Fr Z0 Z' ∧ MO (-9) (fun c j => iI (plz (rw6 (k + 1) n c j))) n (fo (vw (ft T) (k + 1) n) (fun c => wv T P k n st N c) S a d) x' (Z' 14) := by
  have hT := hN.1
  have hn := hT.1
  have hk := hT.2.1
  have fu := fu_big
  intro d
  induction d with
  | zero =>
    intro a fm S x Z hd hf hF hO
    obtain ⟨fm, rfl⟩ : ∃ q, fm = q + 1 := ⟨fm - 1, by omega⟩
    have hin : a = C := by omega
    subst hin
    refine ⟨x, Z, ?_, hF, hO⟩
    rw [ffX8_where_L68_s, if_pos (by rw [iI_le (by omega) (by omega) (by omega) (by omega)]; omega)]
  | succ d ih =>
    intro a fm S x Z hd hf hF hO
    obtain ⟨fm, rfl⟩ : ∃ q, fm = q + 1 := ⟨fm - 1, by omega⟩
    have ef : fo (vw (ft T) (k + 1) n) (fun c => wv T P k n st N c) S a (d + 1) = fo (vw (ft T) (k + 1) n) (fun c => wv T P k n st N c) (fs (vw (ft T) (k + 1) n) (fun c => wv T P k n st N c) S a) (a + 1) d := by
      rw [Nat.add_comm d 1, fo_add]
      rfl
    rw [ef]
    have ea : iI (a : Int) + 1 = iI ((a + 1 : Nat) : Int) := by rw [l1, ix2]
    have hNZ := hN.fr hF
    obtain ⟨f, f2⟩ := isPlaced_i (v := a) hT hNZ.2.1 (by omega)
    have hF2 : Fr Z0 (mm_w Z 13 f) := hF.tr (Fr.w 13 (by omega) f)
    rw [ffX8_where_L68_s, if_neg (by rw [iI_le (by omega) (by omega) (by omega) (by omega)]; omega)]
    simp only [kv_lt_d, ea]
    rcases f2 with ⟨g1, g2, g3⟩ | ⟨g1, g3⟩
    · rw [g3, kv_b2_d, if_neg (by decide)]
      have hwb := wv_b (c := a) hT hN.2.2.1 h24
      obtain ⟨Z1, z1, z2, z3, z4⟩ := way_i (v := a) (hN.fr hF2) h24 (fun j hj => by rw [mm_w_same]; exact g2 j hj) (fun (x28 : Int32) (mZ29 : Mm) => kv_b1 (ffX8_allWater (26 : Int32) mZ29) fun r30 => (if x = ((-9) : Int32) then ffX8_where_L178 (fun (x37 : Int32) (mZ38 : Mm) => ffX8_where_L68 (iI N) (iI C) K fm (iI ((a + 1 : Nat) : Int)) r30 mZ38) kv_FU 0 mZ29 else (if x ≤ r30 then ffX8_where_L68 (iI N) (iI C) K fm (iI ((a + 1 : Nat) : Int)) x mZ29 else ffX8_where_L178 (fun (x37 : Int32) (mZ38 : Mm) => ffX8_where_L68 (iI N) (iI C) K fm (iI ((a + 1 : Nat) : Int)) r30 mZ38) kv_FU 0 mZ29)))
      rw [z1, z2, kv_b1_d]
      have hF3 : Fr Z0 Z1 := hF2.tr z3.fr
      have hbest : ∃ f' : Nat → Int32, (∀ i, i < n → f' i = Z1 13 i) ∧ ffX8_where_L178 (fun (x37 : Int32) (mZ38 : Mm) => ffX8_where_L68 (iI N) (iI C) K fm (iI ((a + 1 : Nat) : Int)) (iI (wv T P k n st N a)) mZ38) kv_FU 0 Z1 = ffX8_where_L68 (iI N) (iI C) K fm (iI ((a + 1 : Nat) : Int)) (iI (wv T P k n st N a)) (mm_w Z1 14 f') := by
        generalize kv_FU = F at fu ⊢
        obtain ⟨f', b1, b2, b3⟩ := bestPl_l hn (fun (x37 : Int32) (mZ38 : Mm) => ffX8_where_L68 (iI N) (iI C) K fm (iI ((a + 1 : Nat) : Int)) (iI (wv T P k n st N a)) mZ38) n 0 F Z1 (by omega) (by omega) z4.1
        exact ⟨f', fun i hi => b1 i (by omega) hi, b3⟩
      obtain ⟨f', b1, b3⟩ := hbest
      rw [b3]
      rcases hO.m (v := vw (ft T) (k + 1) n) (w := fun c => wv T P k n st N c) g1 (by show 0 ≤ wv T P k n st N a; omega) (by show wv T P k n st N a < 1000000; omega) with ⟨q1, q2⟩ | ⟨q1, q2, q3⟩
      · have hnew : MO (-9) (fun c j => iI (plz (rw6 (k + 1) n c j))) n (fs (vw (ft T) (k + 1) n) (fun c => wv T P k n st N c) S a) (iI (wv T P k n st N a)) (mm_w Z1 14 f' 14) := by
          rw [q2]
          refine ⟨rfl, ?_, ?_, fun j hj => ?_⟩
          · show 0 ≤ wv T P k n st N a
            omega
          · show wv T P k n st N a < 1000000
            omega
          · rw [mm_w_same, b1 j hj, z3.1 13 (by omega), mm_w_same]
            exact g2 j hj
        obtain ⟨x', Z', e1, e2, e3⟩ := ih (a + 1) fm _ _ (mm_w Z1 14 f') (by omega) (by omega) (hF3.tr (Fr.w 14 (by omega) f')) hnew
        refine ⟨x', Z', ?_, e2, e3⟩
        by_cases q9 : x = -9
        · rw [if_pos q9]
          exact e1
        · rw [if_neg q9, if_neg (q1.resolve_left q9)]
          exact e1
      · rw [if_neg q1, if_pos q2, q3]
        exact ih (a + 1) fm S x _ (by omega) (by omega) hF3 (hO.eq (fun j _ => by rw [z3.1 14 (by omega), mm_w_ne (by omega)]))
    · rw [g3, kv_b2_d, if_pos rfl]
      have es : fs (vw (ft T) (k + 1) n) (fun c => wv T P k n st N c) S a = S := if_neg g1
      rw [es]
      exact ih (a + 1) fm S x _ (by omega) (by omega) hF2 (hO.eq (fun j _ => by rw [mm_w_ne (by omega)]))
