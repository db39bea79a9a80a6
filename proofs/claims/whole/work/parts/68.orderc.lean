/-! order: the class -/
theorem vd_pre {B : Nat} (b : Nat → Bool) (d : Nat) : ∀ (e c : Nat), vd B b (d + e) c → vd B b d (c / B ^ e)
  | 0, c, h => by rw [Nat.pow_zero, Nat.div_one]; exact h
  | e + 1, c, h => by
    have h2 : vd B b (d + e) (c / B) := ((vd_s (d + e) b c).mp h).2.1
    have h3 := vd_pre b d e (c / B) h2
    rw [Nat.div_div_eq_div_mul] at h3
    rw [Nat.pow_succ, Nat.mul_comm]
    exact h3
theorem novd {B : Nat} {b : Nat → Bool} {d e c : Nat} (h : vd B b (d + 1 + e) c) : b (c / B ^ e % B) = true ∧ ¬ inD B d (c / B ^ e / B) (c / B ^ e % B) := by
  have h2 := (vd_s d b _).mp (vd_pre b (d + 1) e c h)
  exact ⟨h2.1, h2.2.2⟩
theorem fo_some {v : Nat → Prop} [DecidablePred v] {w : Nat → Int} {S : Option (Int × Nat)} {a c : Nat} (hv : v c) : ∀ {l : Nat}, a ≤ c → c < a + l → ∃ p, fo v w S a l = some p
  | 0, h1, h2 => absurd h1 (by omega)
  | l + 1, h1, h2 => by
    rw [fo]
    unfold fs
    by_cases q : c = a + l
    · rw [if_pos (by rw [← q]; exact hv)]
      cases fo v w S a l with
      | none => exact ⟨_, rfl⟩
      | some p =>
        show ∃ p_1, (if w (a + l) < p.1 then some (w (a + l), a + l) else some p) = some p_1
        split
        · exact ⟨_, rfl⟩
        · exact ⟨_, rfl⟩
    · obtain ⟨p, hp⟩ := fo_some hv (S := S) (w := w) (l := l) h1 (by omega)
      rw [hp]
      split
      · show ∃ p_1, (if w (a + l) < p.1 then some (w (a + l), a + l) else some p) = some p_1
        split
        · exact ⟨_, rfl⟩
        · exact ⟨_, rfl⟩
      · exact ⟨_, rfl⟩
/-- there is an order -/
theorem vd_ex {n : Nat} (hn : n ≤ 6) : ∀ (d : Nat) (b : Nat → Bool), (∀ i, n ≤ i → b i = false) → (d : Int) ≤ sm (fun j => if b j then 1 else 0) n → ∃ v, v < 6 ^ d ∧ vd 6 b d v
  | 0, _, _, _ => ⟨0, by rw [Nat.pow_zero]; omega, trivial⟩
  | d + 1, b, h0, h => by
    have hx : ∃ x, x < n ∧ b x = true := by
      refine Classical.byContradiction (fun q => ?_)
      rw [sm_0 (f := fun j => if b j then 1 else 0) (fun j hj => if_neg (fun e => q ⟨j, hj, e⟩))] at h
      omega
    obtain ⟨x, hx, bx⟩ := hx
    have e := sm_set (f := fun j => if b j then (1 : Int) else 0) (g := fun j => if bm b x j then (1 : Int) else 0) (i := x) (fun j hj => by
      show (if bm b x j then (1 : Int) else 0) = if b j then 1 else 0
      have e1 : bm b x j = b j := by unfold bm; rw [decide_eq_true hj, Bool.and_true]
      rw [e1]) hx
    have e2 : (if b x then (1 : Int) else 0) = 1 := if_pos bx
    have e3 : (if bm b x x then (1 : Int) else 0) = 0 := if_neg (fun q => ((bm_i b x x).mp q).2 rfl)
    simp only [e2, e3] at e
    obtain ⟨u, u1, u2⟩ := vd_ex hn d (bm b x) (bm_0 h0) (by omega)
    refine ⟨u * 6 + x, ?_, ?_⟩
    · rw [Nat.pow_succ]
      omega
    · have a1 : (u * 6 + x) % 6 = x := by omega
      have a2 : (u * 6 + x) / 6 = u := by omega
      rw [vd, a1, a2]
      exact ⟨bx, u2⟩
/-- the class's memory in the search: a least, and the pieces that are in -/
def CK (r : Int) (m : Nat) (S : Option (Int × Nat)) (d v : Nat) (K : Mm) : Prop := K 0 4 = iI r ∧ K 0 6 = iI m ∧ MO (iI 1000000) (fun c j => iI ((rw6 6 m c j : Nat) : Int)) m S (K 0 7) (K 3) ∧ (∀ i, i < 6 → (inD 6 d v i → K 2 i = 1) ∧ (¬ inD 6 d v i → K 2 i = 0)) ∧ ∀ j, j < d → K 1 j = iI ((rw6 6 d v j : Nat) : Int)
theorem weigh_i {r aw : Int} {m v : Nat} (hm : m ≤ 5) {K : Mm} {S : Option (Int × Nat)} {p : Nat → Prop} [DecidablePred p] {w : Nat → Int} (hp : p v) (h0 : 0 ≤ w v) (h1 : w v < 1000000) (h : CK r m S m v K) : ∃ K', ffX5_weigh (iI (w v)) K = some K' ∧ CK r m (fs p w S v) m v K' := by
  obtain ⟨k4, k6, kO, k2, k1⟩ := h
  unfold ffX5_weigh
  rcases kO.c hp h0 h1 with ⟨q1, q2⟩ | ⟨q1, q2⟩
  · rw [if_neg q1, kv_lt_d, kv_lt_d, q2]
    refine ⟨_, rfl, ?_, ?_, ?_, ?_, ?_⟩
    · rw [mm_w_ne (by omega), mm_w_same, up_ne (by omega)]
      exact k4
    · rw [mm_w_ne (by omega), mm_w_same, up_ne (by omega)]
      exact k6
    · refine ⟨?_, h0, h1, fun j hj => ?_⟩
      · rw [mm_w_ne (by omega), mm_w_same, up_same]
      · rw [mm_w_same]
        unfold va_cpy
        rw [if_pos ⟨Nat.zero_le _, by show j < 0 + 6; omega⟩, mm_w_ne (by omega)]
        have e : (0 : Int32).toNatClampNeg + (j - (0 : Int32).toNatClampNeg) = j := by rw [cl0]; omega
        rw [e]
        exact k1 j hj
    · intro i hi
      rw [mm_w_ne (by omega), mm_w_ne (by omega)]
      exact k2 i hi
    · intro j hj
      rw [mm_w_ne (by omega), mm_w_ne (by omega)]
      exact k1 j hj
  · rw [if_pos q1, q2]
    exact ⟨K, rfl, k4, k6, kO, k2, k1⟩
theorem CK.down {r : Int} {m d v i : Nat} {S : Option (Int × Nat)} {K : Mm} (hi : i < 6) (h : CK r m S d v K) : CK r m S (d + 1) (v * 6 + i) (mm_w (mm_w K 1 (upd (K 1) d (iI i))) 2 (upd (K 2) i 1)) := by
  obtain ⟨k4, k6, kO, k2, k1⟩ := h
  have a1 : (v * 6 + i) % 6 = i := by omega
  have a2 : (v * 6 + i) / 6 = v := by omega
  refine ⟨k4, k6, kO, fun x hx => ?_, fun j hj => ?_⟩
  · rw [mm_w_same, inD, a1, a2]
    by_cases q : x = i
    · rw [q, up_same]
      exact ⟨fun _ => rfl, fun h => absurd (Or.inl rfl) h⟩
    · rw [up_ne q]
      exact ⟨fun h => (k2 x hx).1 (h.resolve_left q), fun h => (k2 x hx).2 (fun y => h (Or.inr y))⟩
  · rw [mm_w_ne (by omega), mm_w_same]
    by_cases q : j = d
    · rw [q, up_same, rw6_l, a1]
    · rw [up_ne q, rw6_n q, a2]
      exact k1 j (by omega)
theorem CK.up {r : Int} {m d v i : Nat} {S : Option (Int × Nat)} {K : Mm} (hi : i < 6) (hn : ¬ inD 6 d v i) (h : CK r m S (d + 1) (v * 6 + i) K) : CK r m S d v (mm_w K 2 (upd (K 2) i 0)) := by
  obtain ⟨k4, k6, kO, k2, k1⟩ := h
  have a1 : (v * 6 + i) % 6 = i := by omega
  have a2 : (v * 6 + i) / 6 = v := by omega
  refine ⟨k4, k6, kO, fun x hx => ?_, fun j hj => ?_⟩
  · rw [mm_w_same]
    have k := k2 x hx
    rw [inD, a1, a2] at k
    by_cases q : x = i
    · rw [q, up_same]
      exact ⟨fun h => absurd h hn, fun _ => rfl⟩
    · rw [up_ne q]
      exact ⟨fun h => k.1 (Or.inr h), fun h => k.2 (fun y => y.elim q h)⟩
  · rw [mm_w_ne (by omega), k1 j (by omega), rw6_n (by omega), a2]
set_option maxHeartbeats 1000000 in
theorem tryC {T P : Mm} {n k st : Nat} {mx : Int} (hT : OkT T n k st) (hM : OkM T P n k mx) {r : Int} (h1 : 1 ≤ r) (h2 : r ≤ 9) {m : Nat} (hm : m ≤ 5) {b : Nat → Bool} [DecidablePred (vd 6 b m)] (hb : ∀ i, i < n → b i = hg P i) (h0 : ∀ i, n ≤ i → b i = false) {aw : Int} (a0 : 0 ≤ aw) (a1 : aw ≤ 2000) : ∀ (e d fd v : Nat) (S : Option (Int × Nat)) (K : Mm), d + e = m → e < fd → vd 6 b d v → CK r m S d v K → ∃ K', ffX5_tryFrom fd (iI d) (iI (aw + wd (dW T P r) 6 d v)) T P K = some K' ∧ CK r m (fo (vd 6 b m) (fun c => aw + wd (dW T P r) 6 m c) S (v * 6 ^ e) (6 ^ e)) d v K' := by
  have hn := hT.1
  have hk := hT.2.1
  have fu := fu_big
  intro e
  induction e with
  | zero =>
    intro d fd v S K hd hf hv hK
    obtain ⟨fd, rfl⟩ : ∃ q, fd = q + 1 := ⟨fd - 1, by omega⟩
    have hdm : d = m := by omega
    subst hdm
    have hwb := wd_b hT hM (by omega : 0 ≤ r) h2 h0 hv
    rw [ffX5_tryFrom_s, hK.2.1, if_neg (by rw [iI_lt (by omega) (by omega) (by omega) (by omega)]; omega)]
    obtain ⟨K', e1, e2⟩ := weigh_i (aw := aw) hm (p := vd 6 b d) (w := fun c => aw + wd (dW T P r) 6 d c) hv (by show 0 ≤ aw + wd (dW T P r) 6 d v; omega) (by show aw + wd (dW T P r) 6 d v < 1000000; omega) hK
    refine ⟨K', ?_, ?_⟩
    · rw [e1, kv_b1_d]
    · rw [Nat.pow_zero, Nat.mul_one]
      exact e2
  | succ e ih =>
    intro d fd v S K hd hf hv hK
    obtain ⟨fd, rfl⟩ : ∃ q, fd = q + 1 := ⟨fd - 1, by omega⟩
    have hme : m = d + 1 + e := by omega
    have hwb := wd_b hT hM (by omega : 0 ≤ r) h2 h0 hv
    have qp : 0 < 6 ^ e := Nat.pow_pos (by omega)
    have loop : ∀ (c i fu : Nat) (S : Option (Int × Nat)) (K : Mm), i + c = n → c < fu → CK r m S d v K → ∃ K', ffX5_tryFrom_L16 (iI d) (iI (aw + wd (dW T P r) 6 d v)) T P (ffX5_tryFrom fd) (fun (x13 : Int32) (mK14 : Mm) => some (mK14)) fu (iI i) K = some K' ∧ CK r m (fo (vd 6 b m) (fun c => aw + wd (dW T P r) 6 m c) S ((v * 6 + i) * 6 ^ e) (c * 6 ^ e)) d v K' := by
      intro c
      induction c with
      | zero =>
        intro i fu S K hi hf hK
        obtain ⟨fu, rfl⟩ : ∃ q, fu = q + 1 := ⟨fu - 1, by omega⟩
        rw [ffX5_tryFrom_L16_s, hT.2.2.2.1, if_pos (by rw [iI_le (by omega) (by omega) (by omega) (by omega)]; omega), Nat.zero_mul]
        exact ⟨K, rfl, hK⟩
      | succ c ihc =>
        intro i fu S K hi hf2 hK
        obtain ⟨fu, rfl⟩ : ∃ q, fu = q + 1 := ⟨fu - 1, by omega⟩
        have hin : i < n := by omega
        have hbt := hT.2.2.2.2.2.2.1 i hin
        have hmt := hM.2.2.2.2 i hin
        have ef : fo (vd 6 b m) (fun c => aw + wd (dW T P r) 6 m c) S ((v * 6 + i) * 6 ^ e) ((c + 1) * 6 ^ e) = fo (vd 6 b m) (fun c => aw + wd (dW T P r) 6 m c) (fo (vd 6 b m) (fun c => aw + wd (dW T P r) 6 m c) S ((v * 6 + i) * 6 ^ e) (6 ^ e)) ((v * 6 + (i + 1)) * 6 ^ e) (c * 6 ^ e) := by
          have e1 : (c + 1) * 6 ^ e = 6 ^ e + c * 6 ^ e := by rw [Nat.add_mul, Nat.one_mul, Nat.add_comm]
          have e2 : (v * 6 + i) * 6 ^ e + 6 ^ e = (v * 6 + (i + 1)) * 6 ^ e := by rw [← Nat.add_assoc (v * 6) i 1, Nat.add_mul (v * 6 + i) 1, Nat.one_mul]
          rw [e1, fo_add, e2]
        have ei : iI (i : Int) + 1 = iI ((i + 1 : Nat) : Int) := by rw [l1, ix2]
        have skip : (b i = false ∨ inD 6 d v i) → fo (vd 6 b m) (fun c => aw + wd (dW T P r) 6 m c) S ((v * 6 + i) * 6 ^ e) (6 ^ e) = S := fun hs => fo_none (fun x x1 x2 xv => by
          have ex : x / 6 ^ e = v * 6 + i := Nat.div_eq_of_lt_le x1 (by rw [Nat.succ_mul]; exact x2)
          rw [hme] at xv
          have nv := novd xv
          rw [ex, show (v * 6 + i) % 6 = i by omega, show (v * 6 + i) / 6 = v by omega] at nv
          rcases hs with hs | hs
          · rw [hs] at nv
            exact absurd nv.1 (by decide)
          · exact absurd hs nv.2)
        rw [ffX5_tryFrom_L16_s, hT.2.2.2.1, if_neg (by rw [iI_le (by omega) (by omega) (by omega) (by omega)]; omega)]
        simp only [kv_lt_d, ei]
        rw [ef]
        by_cases q8 : tv P 3 i < 8
        · have hh : ffX3_hangs (iI i) T P = some 1 := ha_t hT.2.2.2.2.1 hk (by omega) (tv_i P 3 i) (by omega) (by omega)
          have bi : b i = true := by rw [hb i hin]; exact decide_eq_true q8
          rw [hh, kv_b1_d, z_1, ixN (by omega) (by omega), iI_cn (j := i) (by omega)]
          by_cases qt : inD 6 d v i
          · rw [(hK.2.2.2.1 i (by omega)).1 qt, if_neg (by decide), skip (Or.inr qt)]
            exact ihc (i + 1) fu S K (by omega) (by omega) hK
          · have hs := ffX6_soaked_i hT hin (w := tv P 1 i) (r := r) (t := (d : Int)) (by omega) (by omega) (by omega) h2 (by omega) (by omega)
            rw [(hK.2.2.2.1 i (by omega)).2 qt, if_pos rfl, ixN (by omega) (by omega), hK.1, tv_i P 1 i, hs, kv_b1_d]
            have es : iI (aw + wd (dW T P r) 6 d v) + iI (if tv P 1 i + (d : Int) * r * tv T 2 i < 2 * tv T 1 i then tv P 1 i + (d : Int) * r * tv T 2 i else 2 * tv T 1 i) - iI (tv P 1 i) = iI (aw + wd (dW T P r) 6 (d + 1) (v * 6 + i)) := by
              rw [iI_add, iI_sub, wd, show (v * 6 + i) % 6 = i by omega, show (v * 6 + i) / 6 = v by omega]
              unfold dW
              congr 1
              omega
            have hv2 : vd 6 b (d + 1) (v * 6 + i) := by
              rw [vd_s, show (v * 6 + i) % 6 = i by omega, show (v * 6 + i) / 6 = v by omega]
              exact ⟨bi, hv, qt⟩
            obtain ⟨K2, g1, g2⟩ := ih (d + 1) fd (v * 6 + i) S _ (by omega) (by omega) hv2 (hK.down (i := i) (by omega))
            rw [es, ixN (by omega) (by omega), ixN (by omega) (by omega), iI_cn (j := d) (by omega), l1, ix2]
            have g1' : ffX5_tryFrom fd (iI ((d + 1 : Nat) : Int)) (iI (aw + wd (dW T P r) 6 (d + 1) (v * 6 + i))) T P (mm_w (mm_w K 1 (upd (K 1) d (iI i))) 2 (upd (mm_w K 1 (upd (K 1) d (iI i)) 2) i (vp_nar .boolean (iI ((1 : Nat) : Int))))) = some K2 := g1
            rw [g1', kv_b1_d, ixN (by omega) (by omega)]
            exact ihc (i + 1) fu _ _ (by omega) (by omega) (g2.up (i := i) (by omega) qt)
        · have hh : ffX3_hangs (iI i) T P = some 0 := ha_f hT.2.2.2.2.1 hk (by omega) (tv_i P 3 i) (by omega) (by omega) (by omega)
          have bi : b i = false := by rw [hb i hin]; exact decide_eq_false q8
          rw [hh, kv_b1_d, z_0, skip (Or.inl bi)]
          exact ihc (i + 1) fu S K (by omega) (by omega) hK
    have efin : fo (vd 6 b m) (fun c => aw + wd (dW T P r) 6 m c) S (v * 6 ^ (e + 1)) (6 ^ (e + 1)) = fo (vd 6 b m) (fun c => aw + wd (dW T P r) 6 m c) S ((v * 6 + 0) * 6 ^ e) (n * 6 ^ e) := by
      have e1 : v * 6 ^ (e + 1) = (v * 6 + 0) * 6 ^ e := by
        show v * 6 ^ (e + 1) = (v * 6) * 6 ^ e
        rw [Nat.pow_succ, Nat.mul_assoc, Nat.mul_comm 6]
      have e2 : 6 ^ (e + 1) = n * 6 ^ e + (6 - n) * 6 ^ e := by rw [← Nat.add_mul, show n + (6 - n) = 6 by omega, Nat.pow_succ, Nat.mul_comm]
      rw [e1, e2, fo_add]
      refine fo_none (fun x x1 x2 xv => ?_)
      exfalso
      rw [← Nat.add_mul] at x1 x2
      rw [← Nat.add_mul] at x2
      have y1 : v * 6 + 0 + n ≤ x / 6 ^ e := (Nat.le_div_iff_mul_le qp).mpr x1
      have y2 : x / 6 ^ e < v * 6 + 0 + n + (6 - n) := (Nat.div_lt_iff_lt_mul qp).mpr x2
      rw [hme] at xv
      have nv := (novd xv).1
      rw [h0 (x / 6 ^ e % 6) (by omega)] at nv
      exact absurd nv (by decide)
    rw [ffX5_tryFrom_s, hK.2.1, if_pos (by rw [iI_lt (by omega) (by omega) (by omega) (by omega)]; omega), efin]
    generalize kv_FU = F at fu ⊢
    exact loop n 0 F S K (by omega) (by omega) hK
