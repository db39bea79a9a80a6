abbrev w_Told (C : Nat → ClassId) (a : Nat → Nat) (T : Mm) : va_W := [(a 0, .inr (6, [.int (T 0 0), .int (T 0 1), .int (T 0 2), .ref (a 1), .ref (a 2), .ref (a 3), .ref (a 4), .ref (a 5), .ref (a 6)])), (a 1, .inl (C 1, 6, .inl (T 1))), (a 2, .inl (C 1, 6, .inl (T 2))), (a 3, .inl (C 1, 6, .inl (T 3))), (a 4, .inl (C 1, 5, .inl (T 4))), (a 5, .inl (C 1, 5, .inl (T 5))), (a 6, .inl (C 1, 24, .inl (T 6)))]
abbrev w_Mom (C : Nat → ClassId) (aT a : Nat → Nat) (M : Mm) : va_W := [(a 0, .inr (3, [.ref (aT 0), .int (M 0 1), .int (M 0 2), .ref (a 1), .ref (a 2), .ref (a 3), .ref (a 4)])), (a 1, .inl (C 1, 6, .inl (M 1))), (a 2, .inl (C 1, 6, .inl (M 2))), (a 3, .inl (C 1, 6, .inl (M 3))), (a 4, .inl (C 2, 6, .inl (M 4)))]
abbrev w_Rd (C : Nat → ClassId) (aF a : Nat → Nat) (R : Mm) : va_W := [(a 0, .inr (4, [.ref (a 1), .ref (aF 0), .int (R 0 2), .int (R 0 3), .int (R 0 4), .int (R 0 5), .int (R 0 6), .int (R 0 7)])), (a 1, .inl (C 0, 300, .inl (R 1)))]
abbrev w_Hg (C : Nat → ClassId) (aT aP aA a : Nat → Nat) (H : Mm) : va_W := [(a 0, .inr (1, [.ref (aT 0), .ref (aP 0), .ref (aA 0), .ref (a 1), .ref (a 2), .ref (a 3), .ref (a 4), .int (H 0 7), .ref (a 5), .int (H 0 9)])), (a 1, .inl (C 1, 6, .inl (H 1))), (a 2, .inl (C 2, 5, .inl (H 2))), (a 3, .inl (C 4, 6, .inr (.inr (.inr (.inr (fun i => if i < 6 then some (a (6 + i)) else none)))))), (a 4, .inl (C 1, 7, .inl (H 4))), (a 5, .inl (C 1, 6, .inl (H 5))), (a 6, .inl (C 1, 6, .inl (H 6))), (a 7, .inl (C 1, 6, .inl (H 7))), (a 8, .inl (C 1, 6, .inl (H 8))), (a 9, .inl (C 1, 6, .inl (H 9))), (a 10, .inl (C 1, 6, .inl (H 10))), (a 11, .inl (C 1, 6, .inl (H 11)))]
abbrev w_Tk (C : Nat → ClassId) (aT aP a : Nat → Nat) (K : Mm) : va_W := [(a 0, .inr (5, [.ref (aT 0), .ref (aP 0), .ref (a 1), .ref (a 2), .int (K 0 4), .ref (a 3), .int (K 0 6), .int (K 0 7)])), (a 1, .inl (C 1, 6, .inl (K 1))), (a 2, .inl (C 2, 6, .inl (K 2))), (a 3, .inl (C 1, 6, .inl (K 3)))]
abbrev w_Dy (C : Nat → ClassId) (a : Nat → Nat) (K : Mm) : va_W := [(a 0, .inr (0, [.int (K 0 0), .ref (a 1), .ref (a 2), .ref (a 3)])), (a 1, .inl (C 1, 2, .inl (K 1))), (a 2, .inl (C 1, 2, .inl (K 2))), (a 3, .inl (C 1, 2, .inl (K 3)))]
abbrev w_Mk (aT aP a : Nat → Nat) (tr : Int64) : va_W := [(a 0, .inr (2, [.ref (aT 0), .ref (aP 0), .long tr]))]
abbrev w_FR (C : Nat → ClassId) (a : Nat → Nat → Nat) (K : Mm) : va_W := [(a 0 0, .inr (7, [.ref (a 1 0), .ref (a 3 0), .ref (a 4 0), .ref (a 5 0), .ref (a 0 1), .ref (a 0 2), .ref (a 8 0), .ref (a 9 0), .ref (a 10 0), .ref (a 11 0)])), (a 0 1, .inl (C 3, 2, .inr (.inr (.inr (.inr (fun i => if i = 1 then some (a 7 0) else if i = 0 then some (a 6 0) else none)))))), (a 0 2, .inl (C 2, 2, .inl (K 2)))]
abbrev w_MD (C : Nat → ClassId) (a : Nat → Nat) (Z : Mm) (tr : Int64) : va_W := [(a 0, .inr (8, [.long tr, .ref (a 1), .int (Z 0 2), .ref (a 2), .ref (a 3), .ref (a 4), .ref (a 5), .ref (a 6), .ref (a 7), .ref (a 8), .ref (a 9), .ref (a 10), .int (Z 0 12), .int (Z 0 13), .int (Z 0 14), .int (Z 0 15), .int (Z 0 16), .ref (a 11), .ref (a 12), .ref (a 13), .ref (a 14), .ref (a 15), .ref (a 16), .int (Z 0 23), .ref (a 17), .ref (a 18)])), (a 1, .inl (C 0, 300, .inl (Z 1))), (a 2, .inl (C 1, 2, .inl (Z 2))), (a 3, .inl (C 1, 12, .inl (Z 3))), (a 4, .inl (C 1, 12, .inl (Z 4))), (a 5, .inl (C 1, 12, .inl (Z 5))), (a 6, .inl (C 1, 2, .inl (Z 6))), (a 7, .inl (C 1, 10, .inl (Z 7))), (a 8, .inl (C 1, 10, .inl (Z 8))), (a 9, .inl (C 1, 2, .inl (Z 9))), (a 10, .inl (C 1, 48, .inl (Z 10))), (a 11, .inl (C 1, 104, .inl (Z 11))), (a 12, .inl (C 2, 2, .inl (Z 12))), (a 13, .inl (C 1, 6, .inl (Z 13))), (a 14, .inl (C 1, 6, .inl (Z 14))), (a 15, .inl (C 1, 5, .inl (Z 15))), (a 16, .inl (C 1, 5, .inl (Z 16))), (a 17, .inl (C 1, 60, .inl (Z 17))), (a 18, .inl (C 1, 30, .inl (Z 18)))]
def js_n (i : Nat) : Int32 := Int32.ofNat (js_len.getD i 0) >>> ((0 : Int32) &&& 31)
def js_ch (i k : Nat) : Int32 := (((js_byt.getD i []).getD k 0 &&& 255).toUInt32 % 65536).toInt32
theorem vv_lt {i : Int32} {n : Nat} (h : vp_in i n) : i.toNatClampNeg < n := Nat.not_le.mp fun q => h (Or.inr q)
theorem vv_if6 {a : Nat → Nat} {i : Int32} (h : vp_in i 6) : (if i.toNatClampNeg < 6 then some (a (6 + i.toNatClampNeg)) else none) = some (a (6 + i.toNatClampNeg)) := if_pos (vv_lt h)
theorem vv_rowget (C : Nat → ClassId) (aT aP aA aH : Nat → Nat) (mT mP mA mH : Mm) {n : Nat} (h : n < 6) : (w_Told C aT mT ++ (w_Mom C aT aP mP ++ (w_Mom C aT aA mA ++ w_Hg C aT aP aA aH mH)))[23 + n]? = some (aH (6 + n), .inl (C 1, 6, .inl (mH (6 + n)))) := by
  match n, h with
  | 0, _ => rfl
  | 1, _ => rfl
  | 2, _ => rfl
  | 3, _ => rfl
  | 4, _ => rfl
  | 5, _ => rfl
theorem vv_rowset (C : Nat → ClassId) (aT aP aA aH : Nat → Nat) (mT mP mA mH : Mm) {n : Nat} (h : n < 6) {f : Nat → Int32} : (w_Told C aT mT ++ (w_Mom C aT aP mP ++ (w_Mom C aT aA mA ++ w_Hg C aT aP aA aH mH))).set (23 + n) (aH (6 + n), .inl (C 1, 6, .inl f)) = (w_Told C aT mT ++ (w_Mom C aT aP mP ++ (w_Mom C aT aA mA ++ w_Hg C aT aP aA aH (mm_w mH (6 + n) f)))) := by
  match n, h with
  | 0, _ => rfl
  | 1, _ => rfl
  | 2, _ => rfl
  | 3, _ => rfl
  | 4, _ => rfl
  | 5, _ => rfl
section VVA
variable {p : Program} {l : Launch} {e : Env} {R : Room} {s : State} {m : MethodId} {args : Array Value} {below : List Frame} {meth : Method} {c : Code} {H : Heap} {locs : List Loc} {cells slots : Nat} {Q : State → Prop}
variable {cc : ByteArray} {pc : Nat} {ls : Array Slot} {rest : List Value} {D : va_G} {cl : List vw_C} {a : Nat} {tys : List (ClassId × FieldType)} {ws : va_W}
/-- aaload of an array of int arrays -/
theorem vv_aldA (hexec : p.tables.exec = Jvm.exec) (hb : c.code = cc) (hK : va_K D cl tys s) (hP : va_P D cl ws H) (q0 t0 : Nat) {cA : ClassId} {n q : Nat} {f : Nat → Option Nat} (ha : ws[q0]? = some (a, .inl (cA, n, .inr (.inr (.inr (.inr f)))))) (ht : tys[t0]? = some (cA, .array .int)) {i : Int32} (hin : vp_in i n) (hq : f i.toNatClampNeg = some q) (hdg : decode cc pc = .ok (.aaload, 1))
    (kk : W p l e R s m args below meth c H locs cells slots Q (F0 m (pc + 1) ls (.ref q :: rest))) : W p l e R s m args below meth c H locs cells slots Q (F0 m pc ls (.int i :: .ref a :: rest)) := by
  have hlt : i.toNatClampNeg < n := Nat.not_le.mp fun q => hin (Or.inr q)
  refine W.aald (v := va_rf (f i.toNatClampNeg)) (ty := .array .int) hexec hb (hP q0 _ ha) ((hK.2 t0 _ ht).1 n (fun j => va_rf (f j))) rfl (fun q => by cases q) (by show ¬ (i < 0 ∨ (arrV _ _ _).slots.size ≤ _); rw [arrV_size]; exact hin) (by show (arrV _ _ _).slots[_]? = _; rw [arrV_read _ _ hlt]) rfl rfl hdg ?_
  rw [hq]
  exact kk
theorem vv_reft {v : Value} {q : Nat} (h : v = .ref q) (k : W p l e R s m args below meth c H locs cells slots Q (F0 m pc ls (.ref q :: rest))) : W p l e R s m args below meth c H locs cells slots Q (F0 m pc ls (v :: rest)) := h ▸ k
end VVA
