/-! where: the class's lowest water -/
theorem fits_i {T : Mm} {n k st i s : Nat} (hT : OkT T n k st) (hi : i < n) (hs : s < k) : (ft T i s ∧ ffX6_fits (iI i) (iI s) T = some 1) ∨ (¬ ft T i s ∧ ffX6_fits (iI i) (iI s) T = some 0) := by
  have hn := hT.1
  have hk := hT.2.1
  have hb := hT.2.2.2.2.2.2.1 i hi
  have hd := hT.2.2.2.2.2.2.2.1 s hs
  unfold ffX6_fits
  rw [ixN (by omega) (by omega), ixN (by omega) (by omega), iI_cn (j := i) (by omega), iI_cn (j := s) (by omega), tv_i T 2 i, tv_i T 4 s]
  by_cases q : tv T 2 i ≤ tv T 4 s
  · exact Or.inl ⟨q, if_neg (by rw [iI_lt (by omega) (by omega) (by omega) (by omega)]; omega)⟩
  · exact Or.inr ⟨q, if_pos (by rw [iI_lt (by omega) (by omega) (by omega) (by omega)]; omega)⟩
theorem OkM.dry {T A : Mm} {n k : Nat} {mx : Int} (h : OkM T A n k mx) : OkM T (mm_w A 0 (upd (A 0) 2 0)) n k mx := by
  have e : ∀ c j, c ≠ 0 → tv (mm_w A 0 (upd (A 0) 2 0)) c j = tv A c j := fun c j hc => by unfold tv; rw [mm_w_ne hc]
  have e1 : tv (mm_w A 0 (upd (A 0) 2 0)) 0 1 = tv A 0 1 := by unfold tv; rw [mm_w_same, up_ne (by omega)]
  have e2 : tv (mm_w A 0 (upd (A 0) 2 0)) 0 2 = 0 := by unfold tv; rw [mm_w_same, up_same]; rfl
  unfold OkM at *
  rw [e1, e2]
  refine ⟨h.1, h.2.1, by omega, by omega, fun i hi => ?_⟩
  rw [e 1 i (by omega), e 2 i (by omega), e 3 i (by omega), e 4 i (by omega)]
  exact h.2.2.2.2 i hi
theorem wod_l {T H : Mm} {n k st N i : Nat} (hT : OkT T n k st) (hN : N ≤ 24) (hi : i < n) (h7 : H 0 7 = iI N) (K : Int32 → Mm → Option (Int32 × Mm)) : ∀ (d t fu : Nat) (A : Mm), t + d = N → d < fu → OkM T A n k (99 + t) → ∃ A', ffX1_withoutDamp_L23 T H K fu (iI t) A = K (iI N) A' ∧ A' 1 i = iI (lw T st i (tv A 3 i) d (tv A 0 1) (tv A 1 i)) := by
  intro d
  induction d with
  | zero =>
    intro t fu A ht hf hM
    obtain ⟨fu, rfl⟩ : ∃ q, fu = q + 1 := ⟨fu - 1, by omega⟩
    have e : t = N := by omega
    subst e
    refine ⟨A, ?_, tv_i A 1 i⟩
    rw [ffX1_withoutDamp_L23_s, h7, if_pos (by rw [iI_le (by omega) (by omega) (by omega) (by omega)]; omega)]
  | succ d ih =>
    intro t fu A ht hf hM
    obtain ⟨fu, rfl⟩ : ∃ q, fu = q + 1 := ⟨fu - 1, by omega⟩
    have hM2 := hM.dry
    have ee : (99 : Int) + ((t + 1 : Nat) : Int) = 99 + (t : Int) + 1 := by omega
    obtain ⟨A', a1, a2⟩ := ih (t + 1) fu (mN T (mm_w A 0 (upd (A 0) 2 0)) n st) (by omega) (by omega) (by rw [ee]; exact hM2.step hT (by omega))
    refine ⟨A', ?_, ?_⟩
    · rw [ffX1_withoutDamp_L23_s, h7, if_neg (by rw [iI_le (by omega) (by omega) (by omega) (by omega)]; omega), kv_lt_d, pass_i hT hM2 (by omega), kv_b2_d, kv_lt_d, l1, ix2]
      exact a1
    · rw [a2, tv_mN_3, tv_mN_s hM2 (by omega), tv_mN_1 hT hM2 hi, nW_p]
      have e1 : tv (mm_w A 0 (upd (A 0) 2 0)) 0 1 = tv A 0 1 := by unfold tv; rw [mm_w_same, up_ne (by omega)]
      have e2 : tv (mm_w A 0 (upd (A 0) 2 0)) 0 2 = 0 := by unfold tv; rw [mm_w_same, up_same]; rfl
      have e3 : ∀ c, c ≠ 0 → tv (mm_w A 0 (upd (A 0) 2 0)) c i = tv A c i := fun c hc => by unfold tv; rw [mm_w_ne hc]
      rw [e1, e2, e3 3 (by omega), e3 1 (by omega)]
      rfl
theorem OkM.at {T A : Mm} {n k i : Nat} {mx p : Int} (hk : k ≤ 5) (h : OkM T A n k mx) (hp : 0 ≤ p ∧ p < k) : OkM T (mm_w A 3 (upd (A 3) i (iI p))) n k mx := by
  have e : ∀ c j, c ≠ 3 → tv (mm_w A 3 (upd (A 3) i (iI p))) c j = tv A c j := fun c j hc => by unfold tv; rw [mm_w_ne hc]
  unfold OkM at *
  rw [e 0 1 (by omega), e 0 2 (by omega)]
  refine ⟨h.1, h.2.1, h.2.2.1, h.2.2.2.1, fun j hj => ?_⟩
  have hm := h.2.2.2.2 j hj
  rw [e 1 j (by omega), e 2 j (by omega), e 4 j (by omega)]
  refine ⟨hm.1, hm.2.1, hm.2.2.1, hm.2.2.2.1, ?_, hm.2.2.2.2.2⟩
  by_cases q : j = i
  · have e3 : tv (mm_w A 3 (upd (A 3) i (iI p))) 3 j = p := by unfold tv; rw [mm_w_same, q, up_same, iI_i (by omega) (by omega)]
    rw [e3]
    exact Or.inl hp
  · have e3 : tv (mm_w A 3 (upd (A 3) i (iI p))) 3 j = tv A 3 j := by unfold tv; rw [mm_w_same, up_ne q]
    rw [e3]
    exact hm.2.2.2.2.1
theorem wod_i {T P H : Mm} {n k st N i s : Nat} (hT : OkT T n k st) (hM : OkM T P n k 99) (hN : N ≤ 24) (hi : i < n) (hs : s < k) (h7 : H 0 7 = iI N) (A : Mm) : ∃ A', ffX1_withoutDamp (iI i) (iI s) T P A H = some (iI (lo T P st N (s + 1) i), A') := by
  have fu := fu_big
  have hn := hT.1
  have hk := hT.2.1
  unfold ffX1_withoutDamp
  rw [copy_i hT (fun i hi => (hM.2.2.2.2 i hi).2.2.2.2.2), kv_b1_d, ixN (by omega) (by omega), kv_lt_d, iI_cn (j := i) (by omega)]
  have hM2 : OkM T (mm_w (mC A P n) 3 (upd (mC A P n 3) i (iI ((s : Nat) : Int)))) n k 99 := (hM.copy (A := A)).at hk (by omega)
  generalize kv_FU = F at fu ⊢
  obtain ⟨A', a1, a2⟩ := wod_l hT hN hi h7 (fun (x9 : Int32) (mA10 : Mm) => kv_ix (iI i) 6 (some (mA10 1 i, mA10))) N 0 F _ (by omega) (by omega) (hM2.mono (by omega))
  refine ⟨A', ?_⟩
  have a1' : ffX1_withoutDamp_L23 T H (fun (x9 : Int32) (mA10 : Mm) => kv_ix (iI i) 6 (some (mA10 1 i, mA10))) F 0 (mm_w (mC A P n) 3 (upd (mC A P n 3) i (iI ((s : Nat) : Int)))) = kv_ix (iI i) 6 (some (A' 1 i, A')) := a1
  rw [a1', ixN (by omega) (by omega), a2]
  have e1 : tv (mm_w (mC A P n) 3 (upd (mC A P n 3) i (iI ((s : Nat) : Int)))) 0 1 = tv P 0 1 := by unfold tv; rw [mm_w_ne (by omega), mC_s (Or.inl rfl)]
  have e2 : tv (mm_w (mC A P n) 3 (upd (mC A P n 3) i (iI ((s : Nat) : Int)))) 1 i = tv P 1 i := by unfold tv; rw [mm_w_ne (by omega), mC_in hi (by omega) (by omega)]
  have e3 : tv (mm_w (mC A P n) 3 (upd (mC A P n 3) i (iI ((s : Nat) : Int)))) 3 i = (s : Int) := by unfold tv; rw [mm_w_same, up_same, iI_i (by omega) (by omega)]
  rw [e1, e2, e3]
  unfold lo
  rw [plz_s]
/-- the least over the spots so far -/
noncomputable def mi (T P : Mm) (st N i : Nat) : Nat → Int
  | 0 => tv P 1 i
  | s + 1 => if tv T 2 i ≤ tv T 4 s ∧ lo T P st N (s + 1) i < mi T P st N i s then lo T P st N (s + 1) i else mi T P st N i s
theorem mi_b {T P : Mm} {n k st N i : Nat} (hT : OkT T n k st) (hM : OkM T P n k 99) (hi : i < n) : ∀ (s : Nat), 0 ≤ mi T P st N i s ∧ mi T P st N i s ≤ tv P 1 i
  | 0 => ⟨(hM.2.2.2.2 i hi).1, Int.le_refl _⟩
  | s + 1 => by
    have ih := mi_b (st := st) (N := N) hT hM hi s
    have hm := hM.2.2.2.2 i hi
    have hl := lw_b hT hi (p := plz (s + 1)) N (tv P 0 1) (tv P 1 i) hM.1 hm.1 hm.2.1
    rw [mi]
    unfold lo
    split
    · next h =>
      have h2 := h.2
      unfold lo at h2
      omega
    · exact ih
theorem mi_d {T P : Mm} {st N i : Nat} (s : Nat) : mi T P st N i (s + 1) ≤ mi T P st N i s := by
  rw [mi]
  split
  · next h => have := h.2; omega
  · exact Int.le_refl _
theorem mi_l {T P : Mm} {st N i s : Nat} (hf : ft T i s) : ∀ (m : Nat), s < m → mi T P st N i m ≤ lo T P st N (s + 1) i
  | 0, h => absurd h (by omega)
  | m + 1, h => by
    by_cases q : s = m
    · subst q
      rw [mi]
      split
      · exact Int.le_refl _
      · next hh =>
        have h2 : ¬ lo T P st N (s + 1) i < mi T P st N i s := fun x => hh ⟨hf, x⟩
        omega
    · have h1 := mi_l (P := P) (st := st) (N := N) hf m (by omega)
      have h2 := mi_d (T := T) (P := P) (st := st) (N := N) (i := i) m
      omega
theorem low_l {T P : Mm} {n k st N i : Nat} (hT : OkT T n k st) (hM : OkM T P n k 99) (hN : N ≤ 24) (hi : i < n) (K : Int32 → Int32 → Mm → Mm → Option (Mm × Mm)) : ∀ (c s fu : Nat) (A H : Mm), s + c = k → c < fu → H 0 7 = iI N → ∃ (A' : Mm) (f : Nat → Int32), ffX1_findLowest_L56 T P (iI i) K fu (iI s) (iI (mi T P st N i s)) A H = K (iI k) (iI (mi T P st N i k)) A' (mm_w H (6 + i) f) ∧ (∀ x, s ≤ x → x < k → ft T i x → f x = iI (lo T P st N (x + 1) i)) ∧ ∀ x, x < s ∨ k ≤ x → f x = H (6 + i) x := by
  have hn := hT.1
  have hk := hT.2.1
  intro c
  induction c with
  | zero =>
    intro s fu A H hs hf h7
    obtain ⟨fu, rfl⟩ : ∃ q, fu = q + 1 := ⟨fu - 1, by omega⟩
    have e : s = k := by omega
    subst e
    refine ⟨A, H (6 + i), ?_, fun x h1 h2 => by omega, fun _ _ => rfl⟩
    rw [ffX1_findLowest_L56_s, hT.2.2.2.2.1, if_pos (by rw [iI_le (by omega) (by omega) (by omega) (by omega)]; omega), mm_w_self]
  | succ c ih =>
    intro s fu A H hs hf h7
    obtain ⟨fu, rfl⟩ : ∃ q, fu = q + 1 := ⟨fu - 1, by omega⟩
    have ei : iI (s : Int) + 1 = iI ((s + 1 : Nat) : Int) := by rw [l1, ix2]
    rw [ffX1_findLowest_L56_s, hT.2.2.2.2.1, if_neg (by rw [iI_le (by omega) (by omega) (by omega) (by omega)]; omega)]
    simp only [kv_lt_d, ei]
    rcases fits_i hT hi (by omega : s < k) with ⟨hf1, hf2⟩ | ⟨hf1, hf2⟩
    · obtain ⟨A1, a1⟩ := wod_i (s := s) hT hM hN hi (by omega) h7 A
      have hm := hM.2.2.2.2 i hi
      have hbt := hT.2.2.2.2.2.2.1 i hi
      have hl := lw_b hT hi (p := plz (s + 1)) N (tv P 0 1) (tv P 1 i) hM.1 hm.1 hm.2.1
      have hl2 : 0 ≤ lo T P st N (s + 1) i ∧ lo T P st N (s + 1) i ≤ 2 * tv T 1 i := hl
      have hmb := mi_b (st := st) (N := N) hT hM hi s
      obtain ⟨A', f, f1, f2, f3⟩ := ih (s + 1) fu A1 (mm_w H (6 + i) (upd (H (6 + i)) s (iI (lo T P st N (s + 1) i)))) (by omega) (by omega) (by rw [mm_w_ne (by omega)]; exact h7)
      rw [mm_w_w] at f1
      refine ⟨A', f, ?_, fun x h1 h2 h3 => ?_, fun x hx => ?_⟩
      · rw [hf2, kv_b1_d, z_1, ixN (by omega) (by omega), a1, kv_b2_d, ixN (by omega) (by omega), ixN (by omega) (by omega), ixN (by omega) (by omega), iI_cn (j := i) (by omega), iI_cn (j := s) (by omega), mm_w_same, up_same]
        have em : (if iI (lo T P st N (s + 1) i) < iI (mi T P st N i s) then iI (lo T P st N (s + 1) i) else iI (mi T P st N i s)) = iI (mi T P st N i (s + 1)) := by
          rw [mi]
          have e1 : (iI (lo T P st N (s + 1) i) < iI (mi T P st N i s)) = (lo T P st N (s + 1) i < mi T P st N i s) := iI_lt (by omega) (by omega) (by omega) (by omega)
          by_cases q : lo T P st N (s + 1) i < mi T P st N i s
          · rw [if_pos (by rw [e1]; exact q), if_pos ⟨hf1, q⟩]
          · rw [if_neg (by rw [e1]; exact q), if_neg (fun h => q h.2)]
        rw [em]
        exact f1
      · by_cases q : x = s
        · rw [q, f3 s (by omega), mm_w_same, up_same]
        · exact f2 x (by omega) h2 h3
      · rw [f3 x (by omega), mm_w_same, up_ne (by omega)]
    · obtain ⟨A', f, f1, f2, f3⟩ := ih (s + 1) fu A H (by omega) (by omega) h7
      refine ⟨A', f, ?_, fun x h1 h2 h3 => ?_, fun x hx => f3 x (by omega)⟩
      · have em : mi T P st N i (s + 1) = mi T P st N i s := by
          rw [mi]
          exact if_neg (fun h => hf1 h.1)
        rw [em] at f1
        rw [hf2, kv_b1_d, z_0]
        exact f1
      · by_cases q : x = s
        · rw [q] at h3
          exact absurd h3 hf1
        · exact f2 x (by omega) h2 h3
/-- what findLowest leaves, from piece c on -/
def FL (T P : Mm) (n k st N c : Nat) (H : Mm) : Prop := (∀ i, c ≤ i → i < n → H (6 + i) 5 = iI (tv P 1 i) ∧ ∀ s, s < k → ft T i s → H (6 + i) s = iI (lo T P st N (s + 1) i)) ∧ ∀ i, c ≤ i → i ≤ n → H 4 i = iI (sm (fun j => mi T P st N j k) n - sm (fun j => mi T P st N j k) i)
theorem FL.eq {T P : Mm} {n k st N c : Nat} {H H' : Mm} (h : FL T P n k st N c H) (e : ∀ a, a = 4 ∨ 6 ≤ a → H' a = H a) : FL T P n k st N c H' := by
  refine ⟨fun i h1 h2 => ?_, fun i h1 h2 => ?_⟩
  · rw [e (6 + i) (by omega)]
    exact h.1 i h1 h2
  · rw [e 4 (by omega)]
    exact h.2 i h1 h2
theorem cl5 : (5 : Int32).toNatClampNeg = 5 := iI_cn (j := 5) (by omega)
theorem ix56 {β : Type} {k : Option β} : kv_ix (5 : Int32) 6 k = k := ixN (j := 5) (by omega) (by omega)
set_option maxHeartbeats 1000000 in
theorem find_l {T P : Mm} {n k st N : Nat} (hT : OkT T n k st) (hM : OkM T P n k 99) (hN : N ≤ 24) (K : Int32 → Mm → Mm → Option (Mm × Mm)) : ∀ (c fu : Nat) (A H : Mm), c ≤ n → c < fu → H 0 7 = iI N → FL T P n k st N c H → ∃ (A' H' : Mm), ffX1_findLowest_L23 T P K fu (iI ((c : Int) - 1)) A H = K (iI (-1)) A' H' ∧ FL T P n k st N 0 H' ∧ ∀ a, a < 6 → a ≠ 4 → H' a = H a := by
  have hn := hT.1
  have hk := hT.2.1
  have fuB := fu_big
  intro c
  induction c with
  | zero =>
    intro fu A H hc hf h7 hL
    obtain ⟨fu, rfl⟩ : ∃ q, fu = q + 1 := ⟨fu - 1, by omega⟩
    refine ⟨A, H, ?_, hL, fun _ _ _ => rfl⟩
    rw [ffX1_findLowest_L23_s, if_pos (by decide)]
    rfl
  | succ c ih =>
    intro fu A H hc hf h7 hL
    obtain ⟨fu, rfl⟩ : ∃ q, fu = q + 1 := ⟨fu - 1, by omega⟩
    have ed : iI (((c + 1 : Nat) : Int) - 1) = iI (c : Int) := by congr 1; omega
    have ed1 : iI (c : Int) + (-1) = iI ((c : Int) - 1) := by rw [show (-1 : Int32) = iI (-1) from rfl, iI_add]; congr 1
    have ed2 : iI (c : Int) + 1 = iI ((c + 1 : Nat) : Int) := by rw [l1, ix2]
    rw [ed, ffX1_findLowest_L23_s, if_neg (by rw [iI_0, iI_lt (by omega) (by omega) (by omega) (by omega)]; omega), ixN (by omega) (by omega), kv_lt_d, ixN (by omega) (by omega), ixN (by omega) (by omega), kv_lt_d, ix56, kv_lt_d]
    simp only [ed1, ed2]
    rw [iI_cn (j := c) (by omega), cl5, tv_i P 1 c]
    have hlow : ∃ (A1 : Mm) (f : Nat → Int32), ffX1_findLowest_L56 T P (iI (c : Int)) (fun (x23 : Int32) (x24 : Int32) (mA25 : Mm) (mH26 : Mm) => kv_ix (iI ((c + 1 : Nat) : Int)) 7 (kv_lt ((mH26 4 (iI ((c + 1 : Nat) : Int)).toNatClampNeg) + x24) fun x27 => kv_ix (iI (c : Int)) 7 (kv_lt (mm_w mH26 4 (upd (mH26 4) c x27)) fun mH28 => kv_lt (iI ((c : Int) - 1)) fun x29 => ffX1_findLowest_L23 T P K fu x29 mA25 mH28))) kv_FU 0 (iI (tv P 1 c)) A (mm_w H (6 + c) (upd (H (6 + c)) 5 (iI (tv P 1 c)))) = ffX1_findLowest_L23 T P K fu (iI ((c : Int) - 1)) A1 (mm_w (mm_w H (6 + c) f) 4 (upd (H 4) c (H 4 (c + 1) + iI (mi T P st N c k)))) ∧ (∀ x, x < k → ft T c x → f x = iI (lo T P st N (x + 1) c)) ∧ f 5 = iI (tv P 1 c) := by
      generalize kv_FU = F at fuB ⊢
      obtain ⟨A1, f, f1, f2, f3⟩ := low_l hT hM hN (by omega : c < n) (fun (x23 : Int32) (x24 : Int32) (mA25 : Mm) (mH26 : Mm) => kv_ix (iI ((c + 1 : Nat) : Int)) 7 (kv_lt ((mH26 4 (iI ((c + 1 : Nat) : Int)).toNatClampNeg) + x24) fun x27 => kv_ix (iI (c : Int)) 7 (kv_lt (mm_w mH26 4 (upd (mH26 4) c x27)) fun mH28 => kv_lt (iI ((c : Int) - 1)) fun x29 => ffX1_findLowest_L23 T P K fu x29 mA25 mH28))) k 0 F A (mm_w H (6 + c) (upd (H (6 + c)) 5 (iI (tv P 1 c)))) (by omega) (by omega) (by rw [mm_w_ne (by omega)]; exact h7)
      refine ⟨A1, f, ?_, fun x hx => f2 x (by omega) hx, ?_⟩
      · refine Eq.trans f1 ?_
        rw [ixN (by omega) (by omega), kv_lt_d, ixN (by omega) (by omega), kv_lt_d, kv_lt_d, mm_w_w, mm_w_ne (by omega), iI_cn (j := c + 1) (by omega)]
      · rw [f3 5 (by omega), mm_w_same, up_same]
    obtain ⟨A1, f, g1, g2, g3⟩ := hlow
    have hL2 : FL T P n k st N c (mm_w (mm_w H (6 + c) f) 4 (upd (H 4) c (H 4 (c + 1) + iI (mi T P st N c k)))) := by
      refine ⟨fun i h1 h2 => ?_, fun i h1 h2 => ?_⟩
      · rw [mm_w_ne (by omega)]
        by_cases q : i = c
        · subst q
          rw [mm_w_same]
          exact ⟨g3, g2⟩
        · rw [mm_w_ne (by omega)]
          exact hL.1 i (by omega) h2
      · rw [mm_w_same]
        by_cases q : i = c
        · subst q
          rw [up_same, hL.2 (i + 1) (by omega) (by omega), iI_add]
          congr 1
          show sm (fun j => mi T P st N j k) n - (sm (fun j => mi T P st N j k) i + mi T P st N i k) + mi T P st N i k = _
          omega
        · rw [up_ne q]
          exact hL.2 i (by omega) h2
    obtain ⟨A', H', h1, h2, h3⟩ := ih fu A1 _ (by omega) (by omega) (by rw [mm_w_ne (by omega), mm_w_ne (by omega)]; exact h7) hL2
    refine ⟨A', H', g1.trans h1, h2, fun a ha ha4 => ?_⟩
    rw [h3 a ha ha4, mm_w_ne ha4, mm_w_ne (by omega)]
theorem find_i {T P : Mm} {n k st N : Nat} (hT : OkT T n k st) (hM : OkM T P n k 99) (hN : N ≤ 24) (A H : Mm) (h7 : H 0 7 = iI N) : ∃ (A' H' : Mm), ffX1_findLowest T P A H = some (A', H') ∧ FL T P n k st N 0 H' ∧ ∀ a, a < 6 → a ≠ 4 → H' a = H a := by
  have hn := hT.1
  have fu := fu_big
  unfold ffX1_findLowest
  rw [hT.2.2.2.1, ixN (by omega) (by omega), kv_lt_d, kv_lt_d, iI_cn (j := n) (by omega), show iI (n : Int) - 1 = iI ((n : Int) - 1) by rw [iI_1, iI_sub]]
  generalize kv_FU = F at fu ⊢
  obtain ⟨A', H', h1, h2, h3⟩ := find_l hT hM hN (fun (x30 : Int32) (mA31 : Mm) (mH32 : Mm) => some (mA31, mH32)) n F A (mm_w H 4 (upd (H 4) n 0)) (Nat.le_refl n) (by omega) (by rw [mm_w_ne (by omega)]; exact h7) ⟨fun i h1 h2 => by omega, fun i h1 h2 => by
    have e : i = n := by omega
    rw [e, mm_w_same, up_same, Int.sub_self]
    rfl⟩
  exact ⟨A', H', h1, h2, fun a ha ha4 => by rw [h3 a ha ha4, mm_w_ne ha4]⟩
