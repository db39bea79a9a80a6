/-! where: both -/
theorem sm_up {f : Nat → Int} {m : Nat} : ∀ {n : Nat}, m ≤ n → (∀ i, i < n → 0 ≤ f i) → sm f m ≤ sm f n
  | 0, h, _ => by
    have e : m = 0 := by omega
    rw [e]
    exact Int.le_refl _
  | n + 1, h, hf => by
    by_cases q : m = n + 1
    · rw [q]
      exact Int.le_refl _
    · have h1 := sm_up (f := f) (m := m) (n := n) (by omega) (fun i hi => hf i (by omega))
      have h2 := hf n (by omega)
      rw [sm]
      omega
theorem wdlo_b {T P : Mm} {n k st N d v : Nat} (hT : OkT T n k st) (hM : OkM T P n k 99) (hd : d ≤ n) : 0 ≤ wd (lo T P st N) (k + 1) d v ∧ wd (lo T P st N) (k + 1) d v ≤ d * 198 := by
  rw [← wd_sm]
  have h := sm_bound (f := fun j => lo T P st N (rw6 (k + 1) d v j) j) (lo := 0) (hi := 198) (n := d) (fun j hj => by
    have hm := hM.2.2.2.2 j (by omega)
    have hb := hT.2.2.2.2.2.2.1 j (by omega)
    have hl := lw_b (k := k) hT (by omega : j < n) (p := plz (rw6 (k + 1) d v j)) N (tv P 0 1) (tv P 1 j) hM.1 hm.1 hm.2.1
    show 0 ≤ lo T P st N (rw6 (k + 1) d v j) j ∧ lo T P st N (rw6 (k + 1) d v j) j ≤ 198
    unfold lo
    omega)
  exact ⟨by have := h.1; omega, h.2⟩
theorem mn_b {T P : Mm} {n k st N d : Nat} (hT : OkT T n k st) (hM : OkM T P n k 99) (hd : d ≤ n) : 0 ≤ sm (fun j => mi T P st N j k) n - sm (fun j => mi T P st N j k) d ∧ sm (fun j => mi T P st N j k) n - sm (fun j => mi T P st N j k) d ≤ 2000 := by
  have hn := hT.1
  have hb : ∀ i, i < n → 0 ≤ mi T P st N i k ∧ mi T P st N i k ≤ 198 := fun i hi => by
    have h1 := mi_b (st := st) (N := N) hT hM hi k
    have h2 := hM.2.2.2.2 i hi
    have h3 := hT.2.2.2.2.2.2.1 i hi
    omega
  have h1 := sm_bound (f := fun j => mi T P st N j k) (lo := 0) (hi := 198) (n := n) hb
  have h2 := sm_bound (f := fun j => mi T P st N j k) (lo := 0) (hi := 198) (n := d) (fun i hi => hb i (by omega))
  have h3 := sm_up (f := fun j => mi T P st N j k) hd (fun i hi => (hb i hi).1)
  omega
set_option maxHeartbeats 2000000 in
theorem tryW {T P : Mm} {n k st N : Nat} (hT : OkT T n k st) (hM : OkM T P n k 99) (hN : N ≤ 24) [DecidablePred (vw (ft T) (k + 1) n)] : ∀ (e d fd v : Nat) (S : Option (Int × Nat)) (A H : Mm), d + e = n → e < fd → vw (ft T) (k + 1) d v → CH T P n k st N S d v H → ∃ A' H', ffX1_tryFrom fd (iI d) (iI (wd (lo T P st N) (k + 1) d v)) T P A H = some (A', H') ∧ CH T P n k st N (fo (vw (ft T) (k + 1) n) (fun c => wv T P k n st N c) S (v * (k + 1) ^ e) ((k + 1) ^ e)) d v H' := by
  have hn := hT.1
  have hk := hT.2.1
  have fuB := fu_big
  intro e
  induction e with
  | zero =>
    intro d fd v S A H hd hf hv hH
    obtain ⟨fd, rfl⟩ : ∃ q, fd = q + 1 := ⟨fd - 1, by omega⟩
    have hdn : d = n := by omega
    subst hdn
    rw [ffX1_tryFrom_s, hT.2.2.2.1, if_neg (by rw [iI_lt (by omega) (by omega) (by omega) (by omega)]; omega)]
    obtain ⟨A', H', e1, e2⟩ := weighC hT hM hN hv hH A
    refine ⟨A', H', ?_, ?_⟩
    · rw [e1, kv_b2_d]
    · rw [Nat.pow_zero, Nat.mul_one]
      exact e2
  | succ e ih =>
    intro d fd v S A H hd hf hv hH
    obtain ⟨fd, rfl⟩ : ∃ q, fd = q + 1 := ⟨fd - 1, by omega⟩
    have hne : n = d + 1 + e := by omega
    have hdn : d < n := by omega
    have hwb := wdlo_b (N := N) (v := v) hT hM (by omega : d ≤ n)
    have hmb := mn_b (N := N) hT hM (by omega : d + 1 ≤ n)
    have ed2 : iI (d : Int) + 1 = iI ((d + 1 : Nat) : Int) := by rw [l1, ix2]
    obtain ⟨q, eq⟩ : ∃ q, q = (k + 1) ^ e := ⟨_, rfl⟩
    have loop : ∀ (c s fu : Nat) (S : Option (Int × Nat)) (A H : Mm), s + c = k → c < fu → CH T P n k st N S d v H → ∃ A' H', ffX1_tryFrom_L63 (iI d) (iI (wd (lo T P st N) (k + 1) d v)) T P (ffX1_tryFrom fd) (fun (x21 : Int32) (mA22 : Mm) (mH23 : Mm) => some (mA22, mH23)) fu (iI s) A H = some (A', H') ∧ CH T P n k st N (fo (vw (ft T) (k + 1) n) (fun c => wv T P k n st N c) S ((v * (k + 1) + (s + 1)) * q) (c * q)) d v H' := by
      intro c
      induction c with
      | zero =>
        intro s fu S A H hs hf hH
        obtain ⟨fu, rfl⟩ : ∃ q, fu = q + 1 := ⟨fu - 1, by omega⟩
        rw [ffX1_tryFrom_L63_s, hT.2.2.2.2.1, if_pos (by rw [iI_le (by omega) (by omega) (by omega) (by omega)]; omega), Nat.zero_mul]
        exact ⟨A, H, rfl, hH⟩
      | succ c ihc =>
        intro s fu S A H hs hf2 hH
        obtain ⟨fu, rfl⟩ : ∃ q, fu = q + 1 := ⟨fu - 1, by omega⟩
        have hsk : s < k := by omega
        obtain ⟨k7, kO, k2, k1, kL⟩ := id hH
        obtain ⟨dg1, dg2⟩ := dig (v := v) hsk
        have e1 : (c + 1) * q = q + c * q := by rw [Nat.add_mul, Nat.one_mul, Nat.add_comm]
        have e2 : (v * (k + 1) + (s + 1)) * q + q = (v * (k + 1) + (s + 1 + 1)) * q := by rw [← Nat.add_assoc (v * (k + 1)) (s + 1) 1, Nat.add_mul (v * (k + 1) + (s + 1)) 1, Nat.one_mul]
        rw [e1, fo_add, e2]
        have ei : iI (s : Int) + 1 = iI ((s + 1 : Nat) : Int) := by rw [l1, ix2]
        have skip : ¬ (ft T d s ∧ ¬ inD (k + 1) d v (s + 1)) → fo (vw (ft T) (k + 1) n) (fun c => wv T P k n st N c) S ((v * (k + 1) + (s + 1)) * q) q = S := fun hs => by
          rw [eq]
          refine nofig hne (by omega) (fun c _ hv2 _ => ?_)
          rw [vw, dg1, dg2, Nat.add_sub_cancel] at hv2
          exact absurd (hv2.2.resolve_left (by omega)) hs
        rw [ffX1_tryFrom_L63_s, hT.2.2.2.2.1, if_neg (by rw [iI_le (by omega) (by omega) (by omega) (by omega)]; omega)]
        simp only [kv_lt_d, ei, ed2]
        rw [ixN (by omega) (by omega), iI_cn (j := s) (by omega), iI_cn (j := d) (by omega), iI_cn (j := d + 1) (by omega)]
        by_cases qt : inD (k + 1) d v (s + 1)
        · rw [(k2 s hsk).1 qt, if_neg (by decide), skip (fun h => h.2 qt)]
          exact ihc (s + 1) fu S A H (by omega) (by omega) hH
        · rw [(k2 s hsk).2 qt, if_pos rfl]
          rcases fits_i hT hdn hsk with ⟨hf1, hfs⟩ | ⟨hf1, hfs⟩
          · rw [hfs, kv_b1_d, z_1, ixN (by omega) (by omega), ixN (by omega) (by omega), ixN (by omega) (by omega), (kL.1 d (by omega) hdn).2 s hsk hf1, kL.2 (d + 1) (by omega) (by omega)]
            have es : iI (wd (lo T P st N) (k + 1) d v) + iI (lo T P st N (s + 1) d) = iI (wd (lo T P st N) (k + 1) (d + 1) (v * (k + 1) + (s + 1))) := by
              rw [iI_add, wd, dg1, dg2]
            have hwb2 := wdlo_b (N := N) (v := v * (k + 1) + (s + 1)) hT hM (by omega : d + 1 ≤ n)
            rw [es, iI_add]
            by_cases qp : H 0 9 ≤ iI (wd (lo T P st N) (k + 1) (d + 1) (v * (k + 1) + (s + 1)) + (sm (fun j => mi T P st N j k) n - sm (fun j => mi T P st N j k) (d + 1)))
            · have hb := bound (x := s + 1) (v := v) (d := d) (e := e) hT hM hN hne (by omega) kO (by omega) (by omega) (Int.le_refl _) qp
              rw [← eq] at hb
              rw [if_pos qp, hb]
              exact ihc (s + 1) fu S A H (by omega) (by omega) hH
            · rw [if_neg qp, ixN (by omega) (by omega), ixN (by omega) (by omega)]
              have hv2 : vw (ft T) (k + 1) (d + 1) (v * (k + 1) + (s + 1)) := by
                rw [vw, dg1, dg2, Nat.add_sub_cancel]
                exact ⟨hv, Or.inr ⟨hf1, qt⟩⟩
              obtain ⟨A2, H2, g1, g2⟩ := ih (d + 1) fd (v * (k + 1) + (s + 1)) S A _ (by omega) (by omega) hv2 (hH.down (s := s) hsk)
              have g1' : ffX1_tryFrom fd (iI ((d + 1 : Nat) : Int)) (iI (wd (lo T P st N) (k + 1) (d + 1) (v * (k + 1) + (s + 1)))) T P A (mm_w (mm_w H 1 (upd (H 1) d (iI s))) 2 (upd (mm_w H 1 (upd (H 1) d (iI s)) 2) s (vp_nar .boolean 1))) = some (A2, H2) := g1
              rw [g1', kv_b2_d, ixN (by omega) (by omega)]
              rw [← eq] at g2
              exact ihc (s + 1) fu _ A2 _ (by omega) (by omega) (g2.up (s := s) hsk qt)
          · rw [hfs, kv_b1_d, z_0, skip (fun h => hf1 h.1)]
            exact ihc (s + 1) fu S A H (by omega) (by omega) hH
    have efin : fo (vw (ft T) (k + 1) n) (fun c => wv T P k n st N c) S (v * (k + 1) ^ (e + 1)) ((k + 1) ^ (e + 1)) = fo (vw (ft T) (k + 1) n) (fun c => wv T P k n st N c) (fo (vw (ft T) (k + 1) n) (fun c => wv T P k n st N c) S ((v * (k + 1) + 0) * q) q) ((v * (k + 1) + (0 + 1)) * q) (k * q) := by
      have e1 : v * (k + 1) ^ (e + 1) = (v * (k + 1) + 0) * q := by
        show v * (k + 1) ^ (e + 1) = (v * (k + 1)) * q
        rw [eq, Nat.pow_succ, Nat.mul_assoc, Nat.mul_comm (k + 1)]
      have e2 : (k + 1) ^ (e + 1) = q + k * q := by rw [Nat.pow_succ, ← eq, Nat.mul_add, Nat.mul_one, Nat.mul_comm q k, Nat.add_comm]
      have e3 : (v * (k + 1) + 0) * q + q = (v * (k + 1) + (0 + 1)) * q := by
        show (v * (k + 1)) * q + q = (v * (k + 1) + 1) * q
        rw [Nat.add_mul (v * (k + 1)) 1, Nat.one_mul]
      rw [e1, e2, fo_add, e3]
    have loop0 : ∀ (S : Option (Int × Nat)) (A H : Mm), CH T P n k st N S d v H → ∃ A' H', ffX1_tryFrom_L63 (iI d) (iI (wd (lo T P st N) (k + 1) d v)) T P (ffX1_tryFrom fd) (fun (x21 : Int32) (mA22 : Mm) (mH23 : Mm) => some (mA22, mH23)) kv_FU 0 A H = some (A', H') ∧ CH T P n k st N (fo (vw (ft T) (k + 1) n) (fun c => wv T P k n st N c) S ((v * (k + 1) + (0 + 1)) * q) (k * q)) d v H' := by
      generalize kv_FU = F at fuB ⊢
      exact fun S A H hH => loop k 0 F S A H (by omega) (by omega) hH
    obtain ⟨k7, kO, k2, k1, kL⟩ := id hH
    have a1 : (v * (k + 1) + 0) % (k + 1) = 0 := Nat.mul_mod_left v (k + 1)
    have a2 : (v * (k + 1) + 0) / (k + 1) = v := Nat.mul_div_cancel v (by omega)
    have es : iI (wd (lo T P st N) (k + 1) d v) + iI (tv P 1 d) = iI (wd (lo T P st N) (k + 1) (d + 1) (v * (k + 1) + 0)) := by
      have e0 : lo T P st N 0 d = tv P 1 d := by unfold lo; rw [plz_0, lw_9]
      rw [iI_add, wd, a1, a2, e0]
    have hwb2 := wdlo_b (N := N) (v := v * (k + 1) + 0) hT hM (by omega : d + 1 ≤ n)
    rw [ffX1_tryFrom_s, hT.2.2.2.1, if_pos (by rw [iI_lt (by omega) (by omega) (by omega) (by omega)]; omega), efin]
    simp only [kv_lt_d, ed2]
    rw [ixN (by omega) (by omega), ix56, ixN (by omega) (by omega), iI_cn (j := d) (by omega), iI_cn (j := d + 1) (by omega), cl5, (kL.1 d (by omega) hdn).1, kL.2 (d + 1) (by omega) (by omega), es, iI_add]
    by_cases qp : H 0 9 ≤ iI (wd (lo T P st N) (k + 1) (d + 1) (v * (k + 1) + 0) + (sm (fun j => mi T P st N j k) n - sm (fun j => mi T P st N j k) (d + 1)))
    · have hb := bound (x := 0) (v := v) (d := d) (e := e) hT hM hN hne (by omega) kO (by omega) (by omega) (Int.le_refl _) qp
      rw [← eq] at hb
      rw [if_pos qp, hb]
      exact loop0 S A H hH
    · rw [if_neg qp, ixN (by omega) (by omega)]
      have hv2 : vw (ft T) (k + 1) (d + 1) (v * (k + 1) + 0) := by
        rw [vw, a1, a2]
        exact ⟨hv, Or.inl rfl⟩
      obtain ⟨A2, H2, g1, g2⟩ := ih (d + 1) fd (v * (k + 1) + 0) S A _ (by omega) (by omega) hv2 hH.basket
      rw [g1, kv_b2_d]
      rw [← eq] at g2
      exact loop0 _ A2 H2 g2.unbasket
theorem clearW_l (Kc : Int32 → Mm → Option (Mm × Mm)) : ∀ (c i fu : Nat) (H : Mm), i + c = 5 → c < fu → (∀ j, j < i → H 2 j = 0) → ∃ f : Nat → Int32, (∀ j, j < 5 → f j = 0) ∧ ffX1_search_L13 Kc fu (iI i) H = Kc (iI 5) (mm_w H 2 f) := by
  intro c
  induction c with
  | zero =>
    intro i fu H hi hf h
    obtain ⟨fu, rfl⟩ : ∃ q, fu = q + 1 := ⟨fu - 1, by omega⟩
    have hin : i = 5 := by omega
    subst hin
    refine ⟨H 2, h, ?_⟩
    rw [ffX1_search_L13_s, if_pos (by decide), mm_w_self]
    rfl
  | succ c ih =>
    intro i fu H hi hf h
    obtain ⟨fu, rfl⟩ : ∃ q, fu = q + 1 := ⟨fu - 1, by omega⟩
    obtain ⟨f, f1, f2⟩ := ih (i + 1) fu (mm_w H 2 (upd (H 2) i 0)) (by omega) (by omega) (fun j hj => by
      rw [mm_w_same]
      by_cases q : j = i
      · rw [q, up_same]
      · rw [up_ne q]
        exact h j (by omega))
    rw [mm_w_w] at f2
    refine ⟨f, f1, ?_⟩
    rw [ffX1_search_L13_s, if_neg (by rw [show (5 : Int32) = iI 5 from rfl, iI_le (by omega) (by omega) (by omega) (by omega)]; omega), ixN (by omega) (by omega), kv_lt_d, kv_lt_d, iI_cn (j := i) (by omega), l1, ix2]
    exact f2
theorem codesW_l {Z : Mm} {n k : Nat} (hn : n ≤ 6) (hZ2 : Z 2 0 = iI n) (hZ6 : Z 6 0 = iI k) (Km : Int32 → Int32 → Option (Int32 × Mm)) : ∀ (d j fm : Nat), j + d = n → d < fm → ffX8_where_L33 Z Km fm (iI j) (iI (((k + 1) ^ j : Nat) : Int)) = Km (iI n) (iI (((k + 1) ^ n : Nat) : Int)) := by
  intro d
  induction d with
  | zero =>
    intro j fm hj hf
    obtain ⟨fm, rfl⟩ : ∃ q, fm = q + 1 := ⟨fm - 1, by omega⟩
    have hin : j = n := by omega
    subst hin
    rw [ffX8_where_L33_s, ix0 (by omega) (by omega), cl0, hZ2, if_pos (by rw [iI_le (by omega) (by omega) (by omega) (by omega)]; omega)]
  | succ d ih =>
    intro j fm hj hf
    obtain ⟨fm, rfl⟩ : ∃ q, fm = q + 1 := ⟨fm - 1, by omega⟩
    have next := ih (j + 1) fm (by omega) (by omega)
    rw [ffX8_where_L33_s, ix0 (by omega) (by omega), cl0, hZ2, if_neg (by rw [iI_le (by omega) (by omega) (by omega) (by omega)]; omega), ix0 (by omega) (by omega), kv_lt_d, kv_lt_d, hZ6, l1, ix2, ix2, iI_mul, ← Int.natCast_mul, ← Nat.pow_succ]
    exact next
set_option maxHeartbeats 2000000 in
theorem st_where {X R T P I J D Z : Mm} {G Y : Int64} (h : Rl X R T P I J D G Z Y) (A H : Mm) (p q : Int32) : ∃ (r : Int32) (A' H' Z' : Mm), ffX7_where p q X T P A H = some (r, A', H') ∧ ffX8_where p q Z = some (r, Z') ∧ Rl X R T P I J D G Z' Y := by
  obtain ⟨hg0, hx, hd, n, k, st, hN, hI, hJ⟩ := id h
  have fu := fu_big
  have hn := hN.1.1
  have hk := hN.1.2.1
  unfold ffX7_where ffX8_where
  rw [← wi_in]
  rcases wi_b p 1 24 with e | ⟨e, w1, w2⟩
  · rw [e, kv_b1_d, kv_b1_d, z_0, z_0]
    exact ⟨_, A, H, Z, rfl, rfl, h⟩
  obtain ⟨N', r1, r2, rfl⟩ := rng w1 w2 (lo := 1) (hi := 24) (by decide) (by decide)
  obtain ⟨N, rfl⟩ : ∃ N : Nat, N' = (N : Int) := ⟨N'.toNat, by omega⟩
  rw [e, kv_b1_d, kv_b1_d, z_1, z_1]
  obtain ⟨hT, hRT, hM, hP, hS⟩ := id hN
  obtain ⟨z, z1, z2, rfl⟩ := iI_of q
  rw [ix0 (by omega) (by omega), cl0, hRT.1, show iI (n : Int) - 1 = iI ((n : Int) - 1) by rw [iI_1, iI_sub], kv_lt_d]
  by_cases hz : -1 ≤ z ∧ z ≤ (n : Int) - 1
  · have hin : ffX8_in (iI z) (-1) (iI ((n : Int) - 1)) = some 1 := in_t (b := -1) z1 z2 (by omega) (by omega) (by omega) (by omega) hz
    rw [hin, kv_b1_d, z_1]
    have dec : DecidablePred (vw (ft T) (k + 1) n) := fun c => Classical.propDecidable _
    have hC : (k + 1) ^ n ≤ 46656 := Nat.le_trans (Nat.pow_le_pow_left (by omega : k + 1 ≤ 6) n) (Nat.le_trans (Nat.pow_le_pow_right (by omega) hn) (by decide))
    -- the model
    obtain ⟨x', Z', m1, m2, m3⟩ := whereM hN (by omega : N ≤ 24) hC (fun (x41 : Int32) (x42 : Int32) (mZ43 : Mm) => (if iI z = ((-1) : Int32) then some (x42, mZ43) else kv_ix (iI z) 6 (some (mZ43 14 (iI z).toNatClampNeg, mZ43)))) ((k + 1) ^ n) 0 kv_FU none (-9) Z (by omega) (by omega) (Fr.rf Z) rfl
    -- the class
    have hsearch : ∃ A' H', ffX1_search (iI N) T P A H = some (A', H') ∧ CH T P n k st N (fo (vw (ft T) (k + 1) n) (fun c => wv T P k n st N c) none (0 * (k + 1) ^ n) ((k + 1) ^ n)) 0 0 H' := by
      unfold ffX1_search
      rw [kv_lt_d, kv_lt_d]
      obtain ⟨f, f1, f2⟩ := clearW_l (fun (x7 : Int32) (mH8 : Mm) => kv_b2 (ffX1_findLowest T P A mH8) fun mA9 mH10 => kv_b2 (ffX1_tryFrom 8 (0 : Int32) (0 : Int32) T P mA9 mH10) fun mA11 mH12 => some (mA11, mH12)) 5 0 kv_FU (mm_w (mm_w H 0 (upd (H 0) 7 (iI N))) 0 (upd (mm_w H 0 (upd (H 0) 7 (iI N)) 0) 9 1000000)) (by omega) (by omega) (fun j hj => absurd hj (by omega))
      obtain ⟨A1, H1, h1, h2, h3⟩ := find_i (st := st) hT hM (by omega : N ≤ 24) A (mm_w (mm_w (mm_w H 0 (upd (H 0) 7 (iI N))) 0 (upd (mm_w H 0 (upd (H 0) 7 (iI N)) 0) 9 1000000)) 2 f) rfl
      obtain ⟨A', H', g1, g2⟩ := tryW hT hM (by omega : N ≤ 24) n 0 8 0 none A1 H1 (by omega) (by omega) trivial ⟨by rw [h3 0 (by omega) (by omega)]; rfl, by
        show H1 0 9 = iI 1000000
        rw [h3 0 (by omega) (by omega)]
        rfl, fun s hs => ⟨fun x => absurd x (fun y => y), fun _ => by
        rw [h3 2 (by omega) (by omega), mm_w_same]
        exact f1 s (by omega)⟩, fun j hj => absurd hj (by omega), h2⟩
      refine ⟨A', H', ?_, g2⟩
      have g1' : ffX1_tryFrom 8 (0 : Int32) (0 : Int32) T P A1 H1 = some (A', H') := g1
      generalize kv_FU = F at f2 ⊢
      rw [← l0] at f2
      rw [f2, h1, kv_b2_d, g1', kv_b2_d]
    obtain ⟨A', H', c1, c2⟩ := hsearch
    rw [Nat.zero_mul] at c2
    obtain ⟨pp, hp⟩ := fo_some (S := none) (w := fun c => wv T P k n st N c) (vw_0 (ft := ft T) (B := k + 1) n) (Nat.zero_le 0) (by have : 0 < (k + 1) ^ n := Nat.pow_pos (by omega); omega : 0 < 0 + (k + 1) ^ n)
    rw [hp] at c2 m3
    obtain ⟨x1, x2, x3, x4⟩ := m3
    obtain ⟨k7, ⟨y1, y2, y3, y4⟩, -, -, -⟩ := c2
    have hcodes : ffX8_where_L33 Z (fun (x7 : Int32) (x8 : Int32) => ffX8_where_L68 (iI N) x8 (fun (x41 : Int32) (x42 : Int32) (mZ43 : Mm) => (if iI z = ((-1) : Int32) then some (x42, mZ43) else kv_ix (iI z) 6 (some (mZ43 14 (iI z).toNatClampNeg, mZ43)))) kv_FU 0 (-9) Z) kv_FU 0 1 = (if iI z = ((-1) : Int32) then some (x', Z') else kv_ix (iI z) 6 (some (Z' 14 (iI z).toNatClampNeg, Z'))) := by
      generalize kv_FU = F at fu m1 ⊢
      have hcl := codesW_l (k := k) hn hRT.1 hRT.2.1 (fun (x7 : Int32) (x8 : Int32) => ffX8_where_L68 (iI N) x8 (fun (x41 : Int32) (x42 : Int32) (mZ43 : Mm) => (if iI z = ((-1) : Int32) then some (x42, mZ43) else kv_ix (iI z) 6 (some (mZ43 14 (iI z).toNatClampNeg, mZ43)))) F 0 (-9) Z) n 0 F (by omega) (by omega)
      rw [Nat.pow_zero] at hcl
      exact hcl.trans m1
    rw [hcodes, c1, kv_b2_d]
    by_cases q1 : iI z = -1
    · rw [if_pos q1, if_pos q1, if_pos q1, x1, y1]
      exact ⟨_, A', H', Z', rfl, rfl, h.fr m2⟩
    · have hz1 : z ≠ -1 := fun x => q1 (by rw [x]; rfl)
      have hip : ffX7_isPiece (iI z) X T = some 1 := by
        rcases isP hT (iI z) X with ⟨i, hi, _, e1⟩ | ⟨e0, e1⟩
        · exact e1
        · exact absurd (by rw [Int.toNat_of_nonneg (by omega)] : iI z = iI ((z.toNat : Nat) : Int)) (e0 z.toNat (by omega))
      rw [if_neg q1, if_neg q1, if_neg q1, hip, kv_b1_d, z_1, iI_ix (by omega) (by omega) (by omega), iI_ix (by omega) (by omega) (by omega), iI_cl (by omega) (by omega), x4 z.toNat (by omega), y4 z.toNat (by omega)]
      exact ⟨_, A', H', Z', rfl, rfl, h.fr m2⟩
  · have hin : ffX8_in (iI z) (-1) (iI ((n : Int) - 1)) = some 0 := in_f (b := -1) z1 z2 (by omega) (by omega) (by omega) (by omega) hz
    have q1 : ¬ iI z = -1 := fun x => by
      rw [show (-1 : Int32) = iI (-1) from rfl, iI_eq z1 z2 (by omega) (by omega)] at x
      omega
    have hip : ffX7_isPiece (iI z) X T = some 0 := by
      rcases isP hT (iI z) X with ⟨i, hi, e0, e1⟩ | ⟨e0, e1⟩
      · rw [iI_eq z1 z2 (by omega) (by omega)] at e0
        omega
      · exact e1
    rw [hin, kv_b1_d, z_0, if_neg q1, hip, kv_b1_d, z_0]
    exact ⟨_, A, H, Z, rfl, rfl, h⟩
