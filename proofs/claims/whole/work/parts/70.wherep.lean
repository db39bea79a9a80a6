/-! where: one piece alone, runs of stands, ways -/
def nWp (T : Mm) (i : Nat) (p sky d w : Int) : Int :=
  if p = 8 then (if 0 < w - 1 then w - 1 else 0)
  else if p < 8 then
    (if sky < 0 then (if w + -sky * tv T 2 i < 2 * tv T 1 i then w + -sky * tv T 2 i else 2 * tv T 1 i)
     else (if 0 < w - (if 0 < (sky + tv T 5 p.toNat) * tv T 3 i - d then (sky + tv T 5 p.toNat) * tv T 3 i - d else 0) then w - (if 0 < (sky + tv T 5 p.toNat) * tv T 3 i - d then (sky + tv T 5 p.toNat) * tv T 3 i - d else 0) else 0))
  else w
theorem nW_p (T M : Mm) (sky : Int) (i : Nat) : nW T M sky i = nWp T i (tv M 3 i) sky (tv M 0 2) (tv M 1 i) := rfl
theorem nWp_m {T : Mm} {i : Nat} {p sky d w w' : Int} (hd : 0 ≤ d) (hw : w ≤ w') : nWp T i p sky 0 w ≤ nWp T i p sky d w' := by
  unfold nWp
  by_cases p8 : p = 8
  · rw [if_pos p8, if_pos p8]
    split <;> split <;> omega
  · rw [if_neg p8, if_neg p8]
    by_cases p9 : p < 8
    · rw [if_pos p9, if_pos p9]
      by_cases hs : sky < 0
      · rw [if_pos hs, if_pos hs]
        generalize -sky * tv T 2 i = y
        split <;> split <;> omega
      · rw [if_neg hs, if_neg hs]
        generalize (sky + tv T 5 p.toNat) * tv T 3 i = y
        have e1 : (if 0 < y - d then y - d else 0) ≤ (if 0 < y - 0 then y - 0 else 0) := by split <;> split <;> omega
        generalize (if 0 < y - d then y - d else 0) = a at *
        generalize (if 0 < y - 0 then y - 0 else 0) = c at *
        split <;> split <;> omega
    · rw [if_neg p9, if_neg p9]
      exact hw
theorem nWp_b {T : Mm} {n k st i : Nat} (hT : OkT T n k st) (hi : i < n) {p sky d w : Int} (h1 : -9 ≤ sky) (h0 : 0 ≤ w) (h2 : w ≤ 2 * tv T 1 i) : 0 ≤ nWp T i p sky d w ∧ nWp T i p sky d w ≤ 2 * tv T 1 i := by
  have hb := hT.2.2.2.2.2.2.1 i hi
  unfold nWp
  split
  · split <;> omega
  · split
    · split
      · have m1 : 0 ≤ -sky * tv T 2 i := Int.mul_nonneg (by omega) (by omega)
        split <;> omega
      · have hz : 0 ≤ (if 0 < (sky + tv T 5 p.toNat) * tv T 3 i - d then (sky + tv T 5 p.toNat) * tv T 3 i - d else 0) := by split <;> omega
        generalize (if 0 < (sky + tv T 5 p.toNat) * tv T 3 i - d then (sky + tv T 5 p.toNat) * tv T 3 i - d else 0) = z at *
        split <;> omega
    · omega
/-- a piece alone, the air never damp: t steps from step s with water w -/
def lw (T : Mm) (st i : Nat) (p : Int) : Nat → Int → Int → Int
  | 0, _, w => w
  | t + 1, s, w => lw T st i p t (s + 1) (nWp T i p (nSky T st s) 0 w)
theorem lw_b {T : Mm} {n k st i : Nat} (hT : OkT T n k st) (hi : i < n) {p : Int} : ∀ (t : Nat) (s w : Int), 0 ≤ s → 0 ≤ w → w ≤ 2 * tv T 1 i → 0 ≤ lw T st i p t s w ∧ lw T st i p t s w ≤ 2 * tv T 1 i
  | 0, _, _, _, h1, h2 => ⟨h1, h2⟩
  | t + 1, s, w, h0, h1, h2 => by
    have hb := nWp_b (p := p) (d := 0) hT hi (nSky_b hT h0).1 h1 h2
    exact lw_b hT hi t (s + 1) _ (by omega) hb.1 hb.2
theorem lw_9 {T : Mm} {st i : Nat} : ∀ (t : Nat) (s w : Int), lw T st i 9 t s w = w
  | 0, _, _ => rfl
  | t + 1, s, w => by
    rw [lw, lw_9 t]
    rfl
/-- a stand behind so many steps -/
def rn (T : Mm) (n st : Nat) : Nat → Mm → Mm
  | 0, M => M
  | t + 1, M => rn T n st t (mN T M n st)
theorem rn_lw {T : Mm} {n k st i : Nat} (hT : OkT T n k st) (hi : i < n) : ∀ (t : Nat) (M : Mm) (mx w : Int), OkM T M n k mx → mx + t ≤ 100000 → w ≤ tv M 1 i → lw T st i (tv M 3 i) t (tv M 0 1) w ≤ tv (rn T n st t M) 1 i
  | 0, _, _, _, _, _, h => h
  | t + 1, M, mx, w, hM, hmx, h => by
    have ih := rn_lw hT hi t (mN T M n st) (mx + 1) (nWp T i (tv M 3 i) (nSky T st (tv M 0 1)) 0 w) (hM.step hT (by omega)) (by omega) (by
      rw [tv_mN_1 hT hM hi, nW_p]
      exact nWp_m hM.2.2.1 h)
    rw [tv_mN_3, tv_mN_s hM (by omega)] at ih
    exact ih
theorem OkM.rn {T : Mm} {n k st : Nat} (hT : OkT T n k st) : ∀ (t : Nat) (M : Mm) (mx : Int), OkM T M n k mx → mx + t ≤ 100000 → OkM T (rn T n st t M) n k (mx + t)
  | 0, M, mx, h, _ => by
    have e : mx + ((0 : Nat) : Int) = mx := by omega
    rw [e]
    exact h
  | t + 1, M, mx, h, hmx => by
    have e : mx + ((t + 1 : Nat) : Int) = mx + 1 + t := by omega
    rw [e]
    exact OkM.rn hT t (mN T M n st) (mx + 1) (h.step hT (by omega)) (by omega)
/-- stands that are alike where it counts -/
def EqM (n : Nat) (M M' : Mm) : Prop := M 0 1 = M' 0 1 ∧ M 0 2 = M' 0 2 ∧ ∀ i, i < n → M 1 i = M' 1 i ∧ M 2 i = M' 2 i ∧ M 3 i = M' 3 i ∧ M 4 i = M' 4 i
theorem mN_0 {T M : Mm} {n st : Nat} : mN T M n st 0 1 = iI (tv M 0 1 + 1) ∧ mN T M n st 0 2 = iI (nDamp T M n st) := by
  unfold mN
  rw [if_pos ⟨rfl, rfl⟩, if_neg (by omega), if_pos ⟨rfl, rfl⟩]
  exact ⟨rfl, rfl⟩
theorem mN_i {T M : Mm} {n st i : Nat} (hi : i < n) : mN T M n st 1 i = iI (nW T M (nSky T st (tv M 0 1)) i) ∧ mN T M n st 2 i = iI (nA T M (nSky T st (tv M 0 1)) i) ∧ mN T M n st 3 i = M 3 i ∧ mN T M n st 4 i = iI (nS T M (nSky T st (tv M 0 1)) i) := by
  unfold mN
  rw [if_neg (by omega), if_neg (by omega), if_neg (by omega), if_neg (by omega), if_neg (by omega), if_neg (by omega), if_neg (by omega), if_neg (by omega)]
  refine ⟨?_, ?_, mP_3, ?_⟩
  · unfold mP
    rw [if_pos ⟨hi, rfl⟩]
  · unfold mP
    rw [if_neg (by omega), if_pos ⟨hi, rfl⟩]
  · unfold mP
    rw [if_neg (by omega), if_neg (by omega), if_pos ⟨hi, rfl⟩]
theorem EqM.step {T M M' : Mm} {n st : Nat} (h : EqM n M M') : EqM n (mN T M n st) (mN T M' n st) := by
  obtain ⟨h1, h2, h3⟩ := h
  have e1 : tv M 0 1 = tv M' 0 1 := by unfold tv; rw [h1]
  have e2 : tv M 0 2 = tv M' 0 2 := by unfold tv; rw [h2]
  have eW : ∀ sky i, i < n → nW T M sky i = nW T M' sky i := fun sky i hi => by
    obtain ⟨a1, a2, a3, a4⟩ := h3 i hi
    have b1 : tv M 1 i = tv M' 1 i := by unfold tv; rw [a1]
    have b3 : tv M 3 i = tv M' 3 i := by unfold tv; rw [a3]
    rw [nW_p, nW_p, b1, b3, e2]
  have eA : ∀ sky i, i < n → nA T M sky i = nA T M' sky i := fun sky i hi => by
    obtain ⟨a1, a2, a3, a4⟩ := h3 i hi
    have b2 : tv M 2 i = tv M' 2 i := by unfold tv; rw [a2]
    unfold nA
    rw [eW sky i hi, b2]
  have eS : ∀ sky i, i < n → nS T M sky i = nS T M' sky i := fun sky i hi => by
    obtain ⟨a1, a2, a3, a4⟩ := h3 i hi
    have b4 : tv M 4 i = tv M' 4 i := by unfold tv; rw [a4]
    unfold nS
    rw [eA sky i hi, b4]
  have eL : nLost T M n st = nLost T M' n st := by
    unfold nLost
    rw [e1]
    refine sm_cong (fun i hi => ?_)
    obtain ⟨a1, a2, a3, a4⟩ := h3 i hi
    have b1 : tv M 1 i = tv M' 1 i := by unfold tv; rw [a1]
    have b3 : tv M 3 i = tv M' 3 i := by unfold tv; rw [a3]
    unfold nL
    rw [eW _ i hi, b1, b3]
  refine ⟨?_, ?_, fun i hi => ?_⟩
  · rw [mN_0.1, mN_0.1, e1]
  · rw [mN_0.2, mN_0.2]
    unfold nDamp
    rw [e2, eL]
  · obtain ⟨c1, c2, c3, c4⟩ := mN_i (T := T) (M := M) (st := st) hi
    obtain ⟨d1, d2, d3, d4⟩ := mN_i (T := T) (M := M') (st := st) hi
    rw [c1, c2, c3, c4, d1, d2, d3, d4, e1, eW _ i hi, eA _ i hi, eS _ i hi]
    exact ⟨rfl, rfl, (h3 i hi).2.2.1, rfl⟩
theorem EqM.rn {T : Mm} {n st : Nat} : ∀ (t : Nat) (M M' : Mm), EqM n M M' → EqM n (rn T n st t M) (rn T n st t M')
  | 0, _, _, h => h
  | t + 1, _, _, h => EqM.rn t _ _ h.step
theorem OkM.eqm {T M M' : Mm} {n k : Nat} {mx : Int} (h : OkM T M n k mx) (e : EqM n M M') : OkM T M' n k mx := by
  obtain ⟨e1, e2, e3⟩ := e
  unfold OkM tv at *
  rw [← e1, ← e2]
  refine ⟨h.1, h.2.1, h.2.2.1, h.2.2.2.1, fun i hi => ?_⟩
  obtain ⟨a1, a2, a3, a4⟩ := e3 i hi
  rw [← a1, ← a2, ← a3, ← a4]
  exact h.2.2.2.2 i hi
theorem sm_le {f g : Nat → Int} : ∀ {n : Nat}, (∀ i, i < n → f i ≤ g i) → sm f n ≤ sm g n
  | 0, _ => by rw [sm, sm]; exact Int.le_refl 0
  | n + 1, h => by
    have h1 := sm_le (n := n) (fun i hi => h i (by omega))
    have h2 := h n (by omega)
    rw [sm, sm]
    omega
/-! ways: figures, 0 the basket, else a spot -/
def plz (x : Nat) : Int := if x = 0 then 9 else (x : Int) - 1
theorem plz_s (s : Nat) : plz (s + 1) = (s : Int) := by
  unfold plz
  rw [if_neg (by omega)]
  omega
theorem plz_0 : plz 0 = 9 := rfl
def vw (ft : Nat → Nat → Prop) (B : Nat) : Nat → Nat → Prop
  | 0, _ => True
  | d + 1, v => vw ft B d (v / B) ∧ (v % B = 0 ∨ (ft d (v % B - 1) ∧ ¬ inD B d (v / B) (v % B)))
def bs (t : Nat → Bool) (x : Nat) : Nat → Bool := fun j => t j || decide (j = x)
def um (ft : Nat → Nat → Prop) (B : Nat) : (Nat → Bool) → Nat → Nat → Prop
  | _, 0, _ => True
  | t, d + 1, v => (v % B = 0 ∨ (t (v % B - 1) = false ∧ ft d (v % B - 1))) ∧ um ft B (if v % B = 0 then t else bs t (v % B - 1)) d (v / B)
theorem bs_f (t : Nat → Bool) (x j : Nat) : bs t x j = false ↔ t j = false ∧ j ≠ x := by
  unfold bs
  rw [Bool.or_eq_false_iff, decide_eq_false_iff_not]
theorem um_vw {ft : Nat → Nat → Prop} {B : Nat} : ∀ (d : Nat) (t : Nat → Bool) (v : Nat), um ft B t d v ↔ vw ft B d v ∧ ∀ x, inD B d v (x + 1) → t x = false
  | 0, _, _ => ⟨fun _ => ⟨trivial, fun _ h => absurd h (fun y => y)⟩, fun _ => trivial⟩
  | d + 1, t, v => by
    rw [um, vw, um_vw d]
    by_cases q : v % B = 0
    · rw [if_pos q]
      constructor
      · rintro ⟨_, h2, h3⟩
        refine ⟨⟨h2, Or.inl q⟩, fun x hx => ?_⟩
        rcases hx with hx | hx
        · omega
        · exact h3 x hx
      · rintro ⟨⟨h2, _⟩, h3⟩
        exact ⟨Or.inl q, h2, fun x hx => h3 x (Or.inr hx)⟩
    · rw [if_neg q]
      constructor
      · rintro ⟨h1, h2, h3⟩
        obtain ⟨h4, h5⟩ := h1.resolve_left q
        refine ⟨⟨h2, Or.inr ⟨h5, fun hx => ?_⟩⟩, fun x hx => ?_⟩
        · have h6 := h3 (v % B - 1) (by rw [show v % B - 1 + 1 = v % B by omega]; exact hx)
          exact ((bs_f t _ _).mp h6).2 rfl
        · rcases hx with hx | hx
          · rw [show x = v % B - 1 by omega]
            exact h4
          · exact ((bs_f t _ _).mp (h3 x hx)).1
      · rintro ⟨⟨h2, h1⟩, h3⟩
        obtain ⟨h4, h5⟩ := h1.resolve_left q
        refine ⟨Or.inr ⟨h3 _ (Or.inl (by omega)), h4⟩, h2, fun x hx => (bs_f t _ _).mpr ⟨h3 x (Or.inr hx), fun e => h5 ?_⟩⟩
        rw [show v % B = x + 1 by omega]
        exact hx
theorem vw_pre {ft : Nat → Nat → Prop} {B : Nat} (d : Nat) : ∀ (e c : Nat), vw ft B (d + e) c → vw ft B d (c / B ^ e)
  | 0, c, h => by rw [Nat.pow_zero, Nat.div_one]; exact h
  | e + 1, c, h => by
    have h3 := vw_pre d e (c / B) h.1
    rw [Nat.div_div_eq_div_mul] at h3
    rw [Nat.pow_succ, Nat.mul_comm]
    exact h3
theorem vw_0 {ft : Nat → Nat → Prop} {B : Nat} : ∀ (d : Nat), vw ft B d 0
  | 0 => trivial
  | d + 1 => by
    rw [vw, Nat.zero_div, Nat.zero_mod]
    exact ⟨vw_0 d, Or.inl rfl⟩
theorem rw6_b {B : Nat} (hB : 0 < B) : ∀ (d v j : Nat), rw6 B d v j < B
  | 0, _, _ => hB
  | d + 1, v, j => by
    rw [rw6]
    split
    · exact Nat.mod_lt _ hB
    · exact rw6_b hB d _ j
/-- what is left can't come below -/
theorem wd_l {ft : Nat → Nat → Prop} {k n : Nat} {g : Nat → Nat → Int} {mn : Nat → Int} (h0 : ∀ j, j < n → mn j ≤ g 0 j) (h1 : ∀ j s, j < n → s < k → ft j s → mn j ≤ g (s + 1) j) (d : Nat) : ∀ (e c : Nat), d + e ≤ n → vw ft (k + 1) (d + e) c → wd g (k + 1) d (c / (k + 1) ^ e) + (sm mn (d + e) - sm mn d) ≤ wd g (k + 1) (d + e) c
  | 0, c, _, _ => by
    show wd g (k + 1) d (c / (k + 1) ^ 0) + (sm mn d - sm mn d) ≤ wd g (k + 1) d c
    rw [Nat.pow_zero, Nat.div_one]
    omega
  | e + 1, c, hn, h => by
    have ih : wd g (k + 1) d (c / (k + 1) ^ (e + 1)) + (sm mn (d + e) - sm mn d) ≤ wd g (k + 1) (d + e) (c / (k + 1)) := by
      have ih := wd_l h0 h1 d e (c / (k + 1)) (by omega) h.1
      rw [Nat.div_div_eq_div_mul, Nat.mul_comm, ← Nat.pow_succ] at ih
      exact ih
    show wd g (k + 1) d (c / (k + 1) ^ (e + 1)) + (sm mn (d + e) + mn (d + e) - sm mn d) ≤ wd g (k + 1) (d + e) (c / (k + 1)) + g (c % (k + 1)) (d + e)
    have hd : mn (d + e) ≤ g (c % (k + 1)) (d + e) := by
      have hlt : c % (k + 1) < k + 1 := Nat.mod_lt _ (by omega)
      rcases h.2 with q | ⟨q, _⟩
      · rw [q]
        exact h0 _ (by omega)
      · by_cases z : c % (k + 1) = 0
        · rw [z]
          exact h0 _ (by omega)
        · have := h1 (d + e) (c % (k + 1) - 1) (by omega) (by omega) q
          rw [show c % (k + 1) - 1 + 1 = c % (k + 1) by omega] at this
          exact this
    omega
/-- the stand of a way -/
def Mw (P : Mm) (B n c : Nat) : Mm := fun a j => if a = 3 then iI (plz (rw6 B n c j)) else P a j
theorem Mw_3 {P : Mm} {k n c j : Nat} (hk : k ≤ 5) : tv (Mw P (k + 1) n c) 3 j = plz (rw6 (k + 1) n c j) ∧ (0 ≤ plz (rw6 (k + 1) n c j) ∧ plz (rw6 (k + 1) n c j) < k ∨ plz (rw6 (k + 1) n c j) = 9) := by
  have hb := rw6_b (B := k + 1) (by omega) n c j
  have e : 0 ≤ plz (rw6 (k + 1) n c j) ∧ plz (rw6 (k + 1) n c j) < k ∨ plz (rw6 (k + 1) n c j) = 9 := by
    unfold plz
    split <;> omega
  refine ⟨?_, e⟩
  have e2 : Mw P (k + 1) n c 3 j = iI (plz (rw6 (k + 1) n c j)) := if_pos rfl
  unfold tv
  rw [e2, iI_i (by omega) (by omega)]
theorem Mw_n {P : Mm} {B n c a j : Nat} (h : a ≠ 3) : Mw P B n c a j = P a j := if_neg h
theorem Mw_ok {T P : Mm} {n k c : Nat} {mx : Int} (hk : k ≤ 5) (h : OkM T P n k mx) : OkM T (Mw P (k + 1) n c) n k mx := by
  have e : ∀ a j, a ≠ 3 → tv (Mw P (k + 1) n c) a j = tv P a j := fun a j ha => by unfold tv; rw [Mw_n ha]
  unfold OkM at *
  rw [e 0 1 (by omega), e 0 2 (by omega)]
  refine ⟨h.1, h.2.1, h.2.2.1, h.2.2.2.1, fun i hi => ?_⟩
  obtain ⟨m1, m2⟩ := Mw_3 (P := P) (n := n) (c := c) (j := i) hk
  have hm := h.2.2.2.2 i hi
  rw [e 1 i (by omega), e 2 i (by omega), e 4 i (by omega), m1]
  exact ⟨hm.1, hm.2.1, hm.2.2.1, hm.2.2.2.1, m2.elim Or.inl (fun x => Or.inr (Or.inr x)), hm.2.2.2.2.2⟩
/-- water of all behind N steps, by a way -/
def wv (T P : Mm) (k n st N c : Nat) : Int := sm (fun j => tv (rn T n st N (Mw P (k + 1) n c)) 1 j) n
theorem wv_b {T P : Mm} {n k st N c : Nat} (hT : OkT T n k st) (hM : OkM T P n k 99) (hN : N ≤ 24) : 0 ≤ wv T P k n st N c ∧ wv T P k n st N c ≤ 1188 := by
  have hr := OkM.rn (st := st) hT N (Mw P (k + 1) n c) 99 (Mw_ok hT.2.1 hM) (by omega)
  have hb := sm_bound (f := fun j => tv (rn T n st N (Mw P (k + 1) n c)) 1 j) (lo := 0) (hi := 198) (n := n) (fun i hi => by
    have h1 := hr.2.2.2.2 i hi
    have h2 := hT.2.2.2.2.2.2.1 i hi
    show 0 ≤ tv (rn T n st N (Mw P (k + 1) n c)) 1 i ∧ tv (rn T n st N (Mw P (k + 1) n c)) 1 i ≤ 198
    omega)
  have hn := hT.1
  unfold wv
  omega
/-- lowest water of a piece by a figure -/
def lo (T P : Mm) (st N : Nat) (x j : Nat) : Int := lw T st j (plz x) N (tv P 0 1) (tv P 1 j)
theorem wv_l {T P : Mm} {n k st N c : Nat} (hT : OkT T n k st) (hM : OkM T P n k 99) (hN : N ≤ 24) : wd (lo T P st N) (k + 1) n c ≤ wv T P k n st N c := by
  rw [← wd_sm]
  refine sm_le (fun j hj => ?_)
  have h := rn_lw (st := st) hT hj N (Mw P (k + 1) n c) 99 (tv P 1 j) (Mw_ok hT.2.1 hM) (by omega) (by
    have e : tv (Mw P (k + 1) n c) 1 j = tv P 1 j := by unfold tv; rw [Mw_n (by omega)]
    omega)
  rw [(Mw_3 hT.2.1).1, show tv (Mw P (k + 1) n c) 0 1 = tv P 0 1 by unfold tv; rw [Mw_n (by omega)]] at h
  exact h
