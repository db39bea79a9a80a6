/-! THE FOLD over codes: the first of the least -/
def fs (v : Nat → Prop) [DecidablePred v] (w : Nat → Int) (S : Option (Int × Nat)) (c : Nat) : Option (Int × Nat) :=
  if v c then (match S with
    | none => some (w c, c)
    | some p => if w c < p.1 then some (w c, c) else some p)
  else S
def fo (v : Nat → Prop) [DecidablePred v] (w : Nat → Int) (S : Option (Int × Nat)) (a : Nat) : Nat → Option (Int × Nat)
  | 0 => S
  | l + 1 => fs v w (fo v w S a l) (a + l)
theorem fo_add {v : Nat → Prop} [DecidablePred v] {w : Nat → Int} (S : Option (Int × Nat)) (a l : Nat) : ∀ (r : Nat), fo v w S a (l + r) = fo v w (fo v w S a l) (a + l) r
  | 0 => rfl
  | r + 1 => by rw [← Nat.add_assoc, fo, fo, fo_add S a l r, Nat.add_assoc]
theorem fo_none {v : Nat → Prop} [DecidablePred v] {w : Nat → Int} {S : Option (Int × Nat)} {a : Nat} : ∀ {l : Nat}, (∀ c, a ≤ c → c < a + l → v c → ∃ p, S = some p ∧ p.1 ≤ w c) → fo v w S a l = S
  | 0, _ => rfl
  | l + 1, h => by
    rw [fo, fo_none (fun c h1 h2 => h c h1 (by omega))]
    unfold fs
    by_cases q : v (a + l)
    · obtain ⟨p, rfl, hp⟩ := h (a + l) (by omega) (by omega) q
      rw [if_pos q]
      exact if_neg (by omega)
    · rw [if_neg q]
/-! digits base B, from the last -/
def inD (B : Nat) : Nat → Nat → Nat → Prop
  | 0, _, _ => False
  | d + 1, v, i => i = v % B ∨ inD B d (v / B) i
def bm (b : Nat → Bool) (x : Nat) : Nat → Bool := fun j => b j && decide (j ≠ x)
/-- the digits are of b, and all different -/
def vd (B : Nat) : (Nat → Bool) → Nat → Nat → Prop
  | _, 0, _ => True
  | b, d + 1, v => b (v % B) = true ∧ vd B (bm b (v % B)) d (v / B)
theorem bm_i (b : Nat → Bool) (x j : Nat) : bm b x j = true ↔ b j = true ∧ j ≠ x := by
  unfold bm
  rw [Bool.and_eq_true, decide_eq_true_eq]
theorem bm_bm (b : Nat → Bool) (x y : Nat) : bm (bm b x) y = bm (bm b y) x := by
  funext j
  unfold bm
  rw [Bool.and_assoc, Bool.and_assoc, Bool.and_comm (decide (j ≠ x))]
theorem vd_bm {B : Nat} : ∀ (d : Nat) (b : Nat → Bool) (u x : Nat), vd B (bm b x) d u ↔ vd B b d u ∧ ¬ inD B d u x
  | 0, _, _, _ => ⟨fun h => ⟨h, fun q => q⟩, fun h => h.1⟩
  | d + 1, b, u, x => by
    rw [vd, vd, inD, bm_i, bm_bm, vd_bm d]
    constructor
    · rintro ⟨⟨h1, h2⟩, h3, h4⟩
      exact ⟨⟨h1, h3⟩, fun q => q.elim (fun e => h2 e.symm) h4⟩
    · rintro ⟨⟨h1, h2⟩, h3⟩
      exact ⟨⟨h1, fun e => h3 (Or.inl e.symm)⟩, h2, fun q => h3 (Or.inr q)⟩
theorem vd_s {B : Nat} (d : Nat) (b : Nat → Bool) (v : Nat) : vd B b (d + 1) v ↔ b (v % B) = true ∧ vd B b d (v / B) ∧ ¬ inD B d (v / B) (v % B) := by
  rw [vd, vd_bm]
