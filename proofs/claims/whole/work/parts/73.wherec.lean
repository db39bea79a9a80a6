/-! where: the class's search -/
def CH (T P : Mm) (n k st N : Nat) (S : Option (Int × Nat)) (d v : Nat) (H : Mm) : Prop := H 0 7 = iI N ∧ MO (iI 1000000) (fun c j => iI (plz (rw6 (k + 1) n c j))) n S (H 0 9) (H 5) ∧ (∀ s, s < k → (inD (k + 1) d v (s + 1) → H 2 s = 1) ∧ (¬ inD (k + 1) d v (s + 1) → H 2 s = 0)) ∧ (∀ j, j < d → H 1 j = iI (plz (rw6 (k + 1) d v j))) ∧ FL T P n k st N 0 H
theorem tried_l {T H : Mm} {n k st : Nat} (hT : OkT T n k st) (K : Int32 → Mm → Option (Mm × Mm)) : ∀ (d j fu : Nat) (A : Mm), j + d = n → d < fu → ∃ f : Nat → Int32, (∀ i, j ≤ i → i < n → f i = H 1 i) ∧ (∀ i, i < j → f i = A 3 i) ∧ ffX1_weigh_L13 T H K fu (iI j) A = K (iI n) (mm_w A 3 f) := by
  have hn := hT.1
  intro d
  induction d with
  | zero =>
    intro j fu A hj hf
    obtain ⟨fu, rfl⟩ : ∃ q, fu = q + 1 := ⟨fu - 1, by omega⟩
    have e : j = n := by omega
    subst e
    refine ⟨A 3, fun i h1 h2 => by omega, fun _ _ => rfl, ?_⟩
    rw [ffX1_weigh_L13_s, hT.2.2.2.1, if_pos (by rw [iI_le (by omega) (by omega) (by omega) (by omega)]; omega), mm_w_self]
  | succ d ih =>
    intro j fu A hj hf
    obtain ⟨fu, rfl⟩ : ∃ q, fu = q + 1 := ⟨fu - 1, by omega⟩
    obtain ⟨f, f1, f2, f3⟩ := ih (j + 1) fu (mm_w A 3 (upd (A 3) j (H 1 j))) (by omega) (by omega)
    rw [mm_w_w] at f3
    refine ⟨f, fun i h1 h2 => ?_, fun i h1 => ?_, ?_⟩
    · by_cases q : i = j
      · rw [q, f2 j (by omega), mm_w_same, upd_sm]
      · exact f1 i (by omega) h2
    · rw [f2 i (by omega), mm_w_same, upd_nn (by omega)]
    · rw [ffX1_weigh_L13_s, hT.2.2.2.1, if_neg (by rw [iI_le (by omega) (by omega) (by omega) (by omega)]; omega), ixN (by omega) (by omega), kv_lt_d, ixN (by omega) (by omega), kv_lt_d, kv_lt_d, iI_cn (j := j) (by omega), l1, ix2]
      exact f3
theorem runC_l {T H : Mm} {n k st N : Nat} (hT : OkT T n k st) (hN : N ≤ 24) (h7 : H 0 7 = iI N) (K : Int32 → Mm → Option (Mm × Mm)) : ∀ (d t fu : Nat) (A : Mm), t + d = N → d < fu → OkM T A n k (99 + t) → ffX1_weigh_L47 T H K fu (iI t) A = K (iI N) (rn T n st d A) := by
  intro d
  induction d with
  | zero =>
    intro t fu A ht hf hM
    obtain ⟨fu, rfl⟩ : ∃ q, fu = q + 1 := ⟨fu - 1, by omega⟩
    have e : t = N := by omega
    subst e
    rw [ffX1_weigh_L47_s, h7, if_pos (by rw [iI_le (by omega) (by omega) (by omega) (by omega)]; omega)]
    rfl
  | succ d ih =>
    intro t fu A ht hf hM
    obtain ⟨fu, rfl⟩ : ∃ q, fu = q + 1 := ⟨fu - 1, by omega⟩
    have ee : (99 : Int) + ((t + 1 : Nat) : Int) = 99 + (t : Int) + 1 := by omega
    have hi := ih (t + 1) fu (mN T A n st) (by omega) (by omega) (by rw [ee]; exact hM.step hT (by omega))
    rw [ffX1_weigh_L47_s, h7, if_neg (by rw [iI_le (by omega) (by omega) (by omega) (by omega)]; omega), pass_i hT hM (by omega), kv_b2_d, kv_lt_d, l1, ix2]
    exact hi
theorem weighC {T P H : Mm} {n k st N v : Nat} (hT : OkT T n k st) (hM : OkM T P n k 99) (hN : N ≤ 24) {S : Option (Int × Nat)} [DecidablePred (vw (ft T) (k + 1) n)] (hv : vw (ft T) (k + 1) n v) (h : CH T P n k st N S n v H) (A : Mm) : ∃ A' H', ffX1_weigh T P A H = some (A', H') ∧ CH T P n k st N (fs (vw (ft T) (k + 1) n) (fun c => wv T P k n st N c) S v) n v H' := by
  have hn := hT.1
  have hk := hT.2.1
  have fu := fu_big
  obtain ⟨k7, kO, k2, k1, kL⟩ := id h
  have hwb := wv_b (c := v) hT hM hN
  unfold ffX1_weigh
  rw [copy_i hT (fun i hi => (hM.2.2.2.2 i hi).2.2.2.2.2), kv_b1_d]
  obtain ⟨f, f1, f2, f3⟩ := tried_l (H := H) hT (fun (x7 : Int32) (mA8 : Mm) => ffX1_weigh_L47 T H (fun (x14 : Int32) (mA15 : Mm) => kv_b1 (ffX3_allWater T mA15) fun r16 => (if H 0 9 ≤ r16 then some (mA15, H) else kv_lt (mm_w H 0 (upd (H 0) 9 r16)) fun mH17 => kv_lt (mm_w mH17 5 (va_cpy (mH17 1) (mH17 5) (0 : Int32).toNatClampNeg (0 : Int32).toNatClampNeg (6 : Int32).toNatClampNeg)) fun mH18 => some (mA15, mH18))) kv_FU 0 mA8) n 0 kv_FU (mC A P n) (by omega) (by omega)
  have hE : EqM n (mm_w (mC A P n) 3 f) (Mw P (k + 1) n v) := by
    refine ⟨?_, ?_, fun i hi => ⟨?_, ?_, ?_, ?_⟩⟩
    · rw [mm_w_ne (by omega), mC_s (Or.inl rfl), Mw_n (by omega)]
    · rw [mm_w_ne (by omega), mC_s (Or.inr rfl), Mw_n (by omega)]
    · rw [mm_w_ne (by omega), mC_in hi (by omega) (by omega), Mw_n (by omega)]
    · rw [mm_w_ne (by omega), mC_in hi (by omega) (by omega), Mw_n (by omega)]
    · rw [mm_w_same, f1 i (by omega) hi, k1 i hi]
      rfl
    · rw [mm_w_ne (by omega), mC_in hi (by omega) (by omega), Mw_n (by omega)]
  have hE2 : EqM n (Mw P (k + 1) n v) (mm_w (mC A P n) 3 f) := ⟨hE.1.symm, hE.2.1.symm, fun i hi => ⟨(hE.2.2 i hi).1.symm, (hE.2.2 i hi).2.1.symm, (hE.2.2 i hi).2.2.1.symm, (hE.2.2 i hi).2.2.2.symm⟩⟩
  have hM2 : OkM T (mm_w (mC A P n) 3 f) n k 99 := (Mw_ok (n := n) (c := v) hk hM).eqm hE2
  have hr := runC_l (st := st) hT hN k7 (fun (x14 : Int32) (mA15 : Mm) => kv_b1 (ffX3_allWater T mA15) fun r16 => (if H 0 9 ≤ r16 then some (mA15, H) else kv_lt (mm_w H 0 (upd (H 0) 9 r16)) fun mH17 => kv_lt (mm_w mH17 5 (va_cpy (mH17 1) (mH17 5) (0 : Int32).toNatClampNeg (0 : Int32).toNatClampNeg (6 : Int32).toNatClampNeg)) fun mH18 => some (mA15, mH18))) N 0 kv_FU (mm_w (mC A P n) 3 f) (by omega) (by omega) (hM2.mono (by omega))
  have hM3 := OkM.rn (st := st) hT N _ 99 hM2 (by omega)
  have hE3 := EqM.rn (T := T) (st := st) N _ _ hE
  have hw : sm (fun j => tv (rn T n st N (mm_w (mC A P n) 3 f)) 1 j) n = wv T P k n st N v := sm_cong (fun i hi => by
    show tv (rn T n st N (mm_w (mC A P n) 3 f)) 1 i = tv (rn T n st N (Mw P (k + 1) n v)) 1 i
    unfold tv
    rw [(hE3.2.2 i hi).1])
  have hall := allWater_i hT hM3 (by omega)
  rw [hw] at hall
  generalize kv_FU = F at f3 hr ⊢
  rw [← l0] at f3 hr
  rw [f3, hr, hall, kv_b1_d]
  rcases kO.c (v := vw (ft T) (k + 1) n) (w := fun c => wv T P k n st N c) hv (by show 0 ≤ wv T P k n st N v; omega) (by show wv T P k n st N v < 1000000; omega) with ⟨q1, q2⟩ | ⟨q1, q2⟩
  · rw [if_neg q1, kv_lt_d, kv_lt_d, q2]
    refine ⟨_, _, rfl, ?_, ⟨?_, ?_, ?_, fun j hj => ?_⟩, fun s hs => ?_, fun j hj => ?_, ?_⟩
    · rw [mm_w_ne (by omega), mm_w_same, up_ne (by omega)]
      exact k7
    · rw [mm_w_ne (by omega), mm_w_same, up_same]
    · show 0 ≤ wv T P k n st N v
      omega
    · show wv T P k n st N v < 1000000
      omega
    · rw [mm_w_same]
      unfold va_cpy
      rw [if_pos ⟨Nat.zero_le _, by show j < 0 + 6; omega⟩, mm_w_ne (by omega)]
      have e : (0 : Int32).toNatClampNeg + (j - (0 : Int32).toNatClampNeg) = j := by rw [cl0]; omega
      rw [e]
      exact k1 j hj
    · rw [mm_w_ne (by omega), mm_w_ne (by omega)]
      exact k2 s hs
    · rw [mm_w_ne (by omega), mm_w_ne (by omega)]
      exact k1 j hj
    · exact kL.eq (fun a ha => by rw [mm_w_ne (by omega), mm_w_ne (by omega)])
  · rw [if_pos q1, q2]
    exact ⟨_, H, rfl, h⟩
theorem CH.basket {T P : Mm} {n k st N d v : Nat} {S : Option (Int × Nat)} {H : Mm} (h : CH T P n k st N S d v H) : CH T P n k st N S (d + 1) (v * (k + 1) + 0) (mm_w H 1 (upd (H 1) d 9)) := by
  obtain ⟨k7, kO, k2, k1, kL⟩ := h
  have a1 : (v * (k + 1) + 0) % (k + 1) = 0 := Nat.mul_mod_left v (k + 1)
  have a2 : (v * (k + 1) + 0) / (k + 1) = v := Nat.mul_div_cancel v (by omega)
  refine ⟨k7, kO, fun s hs => ?_, fun j hj => ?_, kL.eq (fun a ha => mm_w_ne (by omega))⟩
  · rw [mm_w_ne (by omega), inD, a1, a2]
    exact ⟨fun x => (k2 s hs).1 (x.resolve_left (by omega)), fun x => (k2 s hs).2 (fun y => x (Or.inr y))⟩
  · rw [mm_w_same]
    by_cases q : j = d
    · rw [q, up_same, rw6_l, a1]
      rfl
    · rw [up_ne q, rw6_n q, a2]
      exact k1 j (by omega)
theorem CH.unbasket {T P : Mm} {n k st N d v : Nat} {S : Option (Int × Nat)} {H : Mm} (h : CH T P n k st N S (d + 1) (v * (k + 1) + 0) H) : CH T P n k st N S d v H := by
  obtain ⟨k7, kO, k2, k1, kL⟩ := h
  have a1 : (v * (k + 1) + 0) % (k + 1) = 0 := Nat.mul_mod_left v (k + 1)
  have a2 : (v * (k + 1) + 0) / (k + 1) = v := Nat.mul_div_cancel v (by omega)
  refine ⟨k7, kO, fun s hs => ?_, fun j hj => ?_, kL⟩
  · have k := k2 s hs
    rw [inD, a1, a2] at k
    exact ⟨fun x => k.1 (Or.inr x), fun x => k.2 (fun y => y.elim (fun z => by omega) x)⟩
  · rw [k1 j (by omega), rw6_n (by omega), a2]
theorem dig {k v s : Nat} (hs : s < k) : (v * (k + 1) + (s + 1)) % (k + 1) = s + 1 ∧ (v * (k + 1) + (s + 1)) / (k + 1) = v := by
  constructor
  · rw [Nat.add_comm, Nat.add_mul_mod_self_right, Nat.mod_eq_of_lt (by omega)]
  · rw [Nat.add_comm, Nat.add_mul_div_right _ _ (by omega), Nat.div_eq_of_lt (by omega), Nat.zero_add]
theorem CH.down {T P : Mm} {n k st N d v s : Nat} {S : Option (Int × Nat)} {H : Mm} (hs : s < k) (h : CH T P n k st N S d v H) : CH T P n k st N S (d + 1) (v * (k + 1) + (s + 1)) (mm_w (mm_w H 1 (upd (H 1) d (iI s))) 2 (upd (H 2) s 1)) := by
  obtain ⟨k7, kO, k2, k1, kL⟩ := h
  obtain ⟨a1, a2⟩ := dig (v := v) hs
  refine ⟨k7, kO, fun x hx => ?_, fun j hj => ?_, kL.eq (fun a ha => by rw [mm_w_ne (by omega), mm_w_ne (by omega)])⟩
  · rw [mm_w_same, inD, a1, a2]
    by_cases q : x = s
    · rw [q, up_same]
      exact ⟨fun _ => rfl, fun h => absurd (Or.inl rfl) h⟩
    · rw [up_ne q]
      exact ⟨fun h => (k2 x hx).1 (h.resolve_left (by omega)), fun h => (k2 x hx).2 (fun y => h (Or.inr y))⟩
  · rw [mm_w_ne (by omega), mm_w_same]
    by_cases q : j = d
    · rw [q, up_same, rw6_l, a1, plz_s]
    · rw [up_ne q, rw6_n q, a2]
      exact k1 j (by omega)
theorem CH.up {T P : Mm} {n k st N d v s : Nat} {S : Option (Int × Nat)} {H : Mm} (hs : s < k) (hn : ¬ inD (k + 1) d v (s + 1)) (h : CH T P n k st N S (d + 1) (v * (k + 1) + (s + 1)) H) : CH T P n k st N S d v (mm_w H 2 (upd (H 2) s 0)) := by
  obtain ⟨k7, kO, k2, k1, kL⟩ := h
  obtain ⟨a1, a2⟩ := dig (v := v) hs
  refine ⟨k7, kO, fun x hx => ?_, fun j hj => ?_, kL.eq (fun a ha => mm_w_ne (by omega))⟩
  · rw [mm_w_same]
    have k := k2 x hx
    rw [inD, a1, a2] at k
    by_cases q : x = s
    · rw [q, up_same]
      exact ⟨fun h => absurd h hn, fun _ => rfl⟩
    · rw [up_ne q]
      exact ⟨fun h => k.1 (Or.inr h), fun h => k.2 (fun y => y.elim (fun z => q (by omega)) h)⟩
  · rw [mm_w_ne (by omega), k1 j (by omega), rw6_n (by omega), a2]
/-- nothing below a figure that can't be -/
theorem nofig {T : Mm} {n k d e v x : Nat} {w : Nat → Int} {S : Option (Int × Nat)} [DecidablePred (vw (ft T) (k + 1) n)] (hn : n = d + 1 + e) (hx : x < k + 1) (h : ∀ c, c / (k + 1) ^ e = v * (k + 1) + x → vw (ft T) (k + 1) (d + 1) (v * (k + 1) + x) → vw (ft T) (k + 1) n c → ∃ p, S = some p ∧ p.1 ≤ w c) : fo (vw (ft T) (k + 1) n) w S ((v * (k + 1) + x) * (k + 1) ^ e) ((k + 1) ^ e) = S := fo_none (fun c c1 c2 cv => by
  have ec : c / (k + 1) ^ e = v * (k + 1) + x := Nat.div_eq_of_lt_le c1 (by rw [Nat.succ_mul]; exact c2)
  refine h c ec ?_ cv
  rw [← ec]
  rw [hn] at cv
  exact vw_pre (d + 1) e c cv)
/-- below a bound that is no less than the least -/
theorem bound {T P : Mm} {n k st N d e v x : Nat} {S : Option (Int × Nat)} {y : Int32} {f : Nat → Int32} {row : Nat → Nat → Int32} {m : Nat} [DecidablePred (vw (ft T) (k + 1) n)] (hT : OkT T n k st) (hM : OkM T P n k 99) (hN : N ≤ 24) (hn : n = d + 1 + e) (hx : x < k + 1) (hO : MO (iI 1000000) row m S y f) {z : Int} (hz0 : 0 ≤ z) (hz1 : z ≤ 100000) (hz : z ≤ wd (lo T P st N) (k + 1) (d + 1) (v * (k + 1) + x) + (sm (fun j => mi T P st N j k) n - sm (fun j => mi T P st N j k) (d + 1))) (hy : y ≤ iI z) : fo (vw (ft T) (k + 1) n) (fun c => wv T P k n st N c) S ((v * (k + 1) + x) * (k + 1) ^ e) ((k + 1) ^ e) = S := by
  refine nofig hn hx (fun c ec _ cv => ?_)
  have h1 := wv_l (c := c) hT hM hN
  have h2 := wd_l (ft := ft T) (k := k) (n := n) (g := lo T P st N) (mn := fun j => mi T P st N j k) (fun j hj => by
    have e0 : lo T P st N 0 j = tv P 1 j := by unfold lo; rw [plz_0, lw_9]
    rw [e0]
    exact (mi_b hT hM hj k).2) (fun j s hj hs hf => mi_l hf k hs) (d + 1) e c (by omega) (by rw [← hn]; exact cv)
  rw [← hn, ec] at h2
  cases S with
  | none =>
    have hy2 : y = iI 1000000 := hO
    rw [hy2, iI_le (by omega) (by omega) (by omega) (by omega)] at hy
    omega
  | some p =>
    obtain ⟨e1, p0, p1, -⟩ := hO
    rw [e1, iI_le (by omega) (by omega) (by omega) (by omega)] at hy
    refine ⟨p, rfl, ?_⟩
    show p.1 ≤ wv T P k n st N c
    omega
