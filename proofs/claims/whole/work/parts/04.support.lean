/-! MEMORIES AND MIRRORS: a component's cells are a memory Mm (cell, slot); a mirror of a method is a pure function into Option -/
abbrev Mm : Type := Nat → Nat → Int32
def mm_w (M : Mm) (k : Nat) (f : Nat → Int32) : Mm := fun j => if j = k then f else M j
theorem mm_w_same (M : Mm) (k : Nat) (f : Nat → Int32) : mm_w M k f k = f := if_pos rfl
theorem mm_w_ne {M : Mm} {k j : Nat} {f : Nat → Int32} (h : j ≠ k) : mm_w M k f j = M j := if_neg h
def kv_FU : Nat := 60000
def kv_lt {α β : Type} (e : α) (k : α → β) : β := k e
theorem kv_lt_e {α β : Type} {e : α} {k : α → Option β} {r : β} (h : kv_lt e k = some r) : ∃ x, x = e ∧ k x = some r := ⟨e, rfl, h⟩
def kv_ix {β : Type} (i : Int32) (n : Nat) (k : Option β) : Option β := if i < 0 ∨ n ≤ i.toNatClampNeg then none else k
theorem kv_ix_e {β : Type} {i : Int32} {n : Nat} {k : Option β} {r : β} (h : kv_ix i n k = some r) : vp_in i n ∧ k = some r := by
  unfold kv_ix at h
  split at h
  · cases h
  · exact ⟨by assumption, h⟩
def kv_nz {β : Type} (y : Int32) (k : Option β) : Option β := if y = 0 then none else k
theorem kv_nz_e {β : Type} {y : Int32} {k : Option β} {r : β} (h : kv_nz y k = some r) : ¬ y = 0 ∧ k = some r := by
  unfold kv_nz at h
  split at h
  · cases h
  · exact ⟨by assumption, h⟩
def kv_nzl {β : Type} (y : Int64) (k : Option β) : Option β := if y = 0 then none else k
theorem kv_nzl_e {β : Type} {y : Int64} {k : Option β} {r : β} (h : kv_nzl y k = some r) : ¬ y = 0 ∧ k = some r := by
  unfold kv_nzl at h
  split at h
  · cases h
  · exact ⟨by assumption, h⟩
/-- a boolean is 0 or 1 -/
def kv_bo {β : Type} (v : Int32) (k : Option β) : Option β := if narrow .boolean (.int v) = .int v then k else none
theorem kv_bo_e {β : Type} {v : Int32} {k : Option β} {r : β} (h : kv_bo v k = some r) : narrow .boolean (.int v) = .int v ∧ k = some r := by
  unfold kv_bo at h
  split at h
  · exact ⟨by assumption, h⟩
  · cases h
theorem kv_no {α : Type} {r : α} {P : Prop} (h : (none : Option α) = some r) : P := by cases h
theorem kv_ti {x k : Int32} (h : ¬ x = k) : x.toInt ≠ k.toInt := fun q => h (Int32.toInt_inj.mp q)
theorem kv_t {c : Prop} [Decidable c] {α : Type} {a b r : α} (h : c) (hf : (if c then a else b) = r) : a = r := by rw [if_pos h] at hf; exact hf
theorem kv_f {c : Prop} [Decidable c] {α : Type} {a b r : α} (h : ¬ c) (hf : (if c then a else b) = r) : b = r := by rw [if_neg h] at hf; exact hf
def kv_b1 {α β : Type} (x : Option α) (k : α → Option β) : Option β := match x with
  | none => none
  | some a => k a
theorem kv_b1_e {α β : Type} {x : Option α} {k : α → Option β} {r : β} (h : kv_b1 x k = some r) : ∃ a, x = some a ∧ k a = some r := by
  cases x with
  | none => cases h
  | some a => exact ⟨a, rfl, h⟩
def kv_b2 {α1 α2 β : Type} (x : Option (α1 × α2)) (k : α1 → α2 → Option β) : Option β := match x with
  | none => none
  | some (a, b) => k a b
theorem kv_b2_e {α1 α2 β : Type} {x : Option (α1 × α2)} {k : α1 → α2 → Option β} {r : β} (h : kv_b2 x k = some r) : ∃ a b, x = some (a, b) ∧ k a b = some r := by
  cases x with
  | none => cases h
  | some a => exact ⟨a.1, a.2, rfl, h⟩
def kv_b3 {α1 α2 α3 β : Type} (x : Option (α1 × α2 × α3)) (k : α1 → α2 → α3 → Option β) : Option β := match x with
  | none => none
  | some (a, b, c) => k a b c
theorem kv_b3_e {α1 α2 α3 β : Type} {x : Option (α1 × α2 × α3)} {k : α1 → α2 → α3 → Option β} {r : β} (h : kv_b3 x k = some r) : ∃ a b c, x = some (a, b, c) ∧ k a b c = some r := by
  cases x with
  | none => cases h
  | some a => exact ⟨a.1, a.2.1, a.2.2, rfl, h⟩
def kv_b4 {α1 α2 α3 α4 β : Type} (x : Option (α1 × α2 × α3 × α4)) (k : α1 → α2 → α3 → α4 → Option β) : Option β := match x with
  | none => none
  | some (a, b, c, d) => k a b c d
theorem kv_b4_e {α1 α2 α3 α4 β : Type} {x : Option (α1 × α2 × α3 × α4)} {k : α1 → α2 → α3 → α4 → Option β} {r : β} (h : kv_b4 x k = some r) : ∃ a b c d, x = some (a, b, c, d) ∧ k a b c d = some r := by
  cases x with
  | none => cases h
  | some a => exact ⟨a.1, a.2.1, a.2.2.1, a.2.2.2, rfl, h⟩
/-! THE WORLD OF A CONTRACT -/
/-- array classes: 0 byte, 1 int, 2 boolean, 3 Moment, 4 int[] -/
abbrev tyL (C : Nat → ClassId) : List (ClassId × FieldType) := [(C 0, .byte), (C 1, .int), (C 2, .boolean), (C 3, .object "ForeRain$Moment"), (C 4, .array .int)]
def vv_N (U : State) : Prop := va_Nw (.methodLinkNest RX3 76 yX7_within RX7) U ∧ va_Nw (.methodLinkNest RX4 107 yX7_within RX7) U ∧ va_Nw (.methodLinkNest RX6 46 yX7_within RX7) U
theorem vv_N.calling {U : State} {g : JFrame} {mk : MethodId} {a : Array Value} (h : vv_N U) : vv_N (U.calling g mk a) := ⟨va_Nw.same rfl rfl h.1, va_Nw.same rfl rfl h.2.1, va_Nw.same rfl rfl h.2.2⟩
theorem vv_N.warm {s U : State} (hW : s.WarmedH U.vm) (h : vv_N s) : vv_N U := ⟨va_Nw.warmM hW h.1, va_Nw.warmM hW h.2.1, va_Nw.warmM hW h.2.2⟩
/-! the String constants: "piece", "spot", "sun", "rain" at C 10 .. C 13, their bytes at C 20 .. C 23 -/
def js_len : List Nat := [5, 4, 3, 4]
def js_byt : List (List Int32) := [[112, 105, 101, 99, 101], [115, 112, 111, 116], [115, 117, 110], [114, 97, 105, 110]]
def vs_E (C : Nat → ClassId) (A : Nat → Prop) (U : State) (H : Heap) : Prop := vk_S 4 js_len js_byt (fun i => C (10 + i)) (fun i => C (20 + i)) A U H ∧ va_Z RJ0 "COMPACT_STRINGS" "Z" (.int 1) A U H ∧ va_Zq RJ3 "SIOOBE_FORMATTER" "Ljava/util/function/BiFunction;" A U H ∧ vk_R RX4 44 "piece" (C (10 + 0)) U ∧ vk_R RX4 56 "spot" (C (10 + 1)) U ∧ vk_R RX4 64 "sun" (C (10 + 2)) U ∧ vk_R RX4 70 "rain" (C (10 + 3)) U
theorem vs_E.calling {C : Nat → ClassId} {A : Nat → Prop} {U : State} {g : JFrame} {mk : MethodId} {a : Array Value} (h : vs_E C A U U.heap) : vs_E C A (U.calling g mk a) (U.calling g mk a).heap := by
  obtain ⟨h1, h2, h3, h4, h5, h6, h7⟩ := h
  exact ⟨vk_S.moved (u := U) (U := U.calling g mk a) (Vm.Alike.refl U.vm) h1, va_Z.moved (u := U) (U := U.calling g mk a) (Vm.Alike.refl U.vm) h2, va_Zq.moved (u := U) (U := U.calling g mk a) (Vm.Alike.refl U.vm) h3, vk_R.same rfl h4, vk_R.same rfl h5, vk_R.same rfl h6, vk_R.same rfl h7⟩
theorem vs_E.to {C : Nat → ClassId} {A B : Nat → Prop} {s U : State} {H : Heap} {locs : List Loc} (h : vs_E C A s s.heap) (hS : va_S A s.heap H locs) (hU : U.heap = H) (hW : s.WarmedH U.vm) (hB : ∀ q, B q → A q) : vs_E C B U U.heap := by
  obtain ⟨h1, h2, h3, h4, h5, h6, h7⟩ := h
  rw [hU]
  exact ⟨((h1.kept hS.2.1).narrow hB).moved hW.alike, ((h2.kept hS.2.1).narrow hB).moved hW.alike, ((h3.kept hS.2.1).narrow hB).moved hW.alike, h4.warm hW, h5.warm hW, h6.warm hW, h7.warm hW⟩
def vv_NE (C : Nat → ClassId) (A : Nat → Prop) (U : State) : Prop := vv_N U ∧ vs_E C A U U.heap
def vv_pre (D : va_G) (C : Nat → ClassId) (ws : va_W) (sz : Nat) (U : State) : Prop := U.heap.size = sz ∧ va_P D vwCl ws U.heap ∧ va_K D vwCl (tyL C) U ∧ va_D (fun _ => True) ws ∧ vv_NE C (va_A ws sz) U
def vv_post (D : va_G) (C : Nat → ClassId) (A : Nat → Prop) (ws : va_W) (t : State) : Prop := va_P D vwCl ws t.heap ∧ va_K D vwCl (tyL C) t ∧ va_D A ws
abbrev vv_QI (D : va_G) (C : Nat → ClassId) (w0 w1 : va_W) (sz : Nat) (r : Int32) : Array Value → State → Outcome → State → Prop := va_Qi (fun (r2 : Int32) (_ : Unit) => r2 = r) (fun _ t => vv_post D C (va_A w0 sz) w1 t) (va_A w0 sz)
abbrev vv_QL (D : va_G) (C : Nat → ClassId) (w0 w1 : va_W) (sz : Nat) (r : Int64) : Array Value → State → Outcome → State → Prop := va_Ql (fun (r2 : Int64) (_ : Unit) => r2 = r) (fun _ t => vv_post D C (va_A w0 sz) w1 t) (va_A w0 sz)
abbrev vv_QV (D : va_G) (C : Nat → ClassId) (w0 w1 : va_W) (sz : Nat) : Array Value → State → Outcome → State → Prop := va_Qv (fun (_ : Unit) => True) (fun _ t => vv_post D C (va_A w0 sz) w1 t) (va_A w0 sz)
theorem vv_blind (D : va_G) (C : Nat → ClassId) (ws : va_W) (sz : Nat) (av : List Value) : FrameBlind (va_Pc av (vv_pre D C ws sz)) := fun a U g mk q => by
  obtain ⟨q0, q1, qP, qK, qD, qN⟩ := q
  exact ⟨q0, q1, qP, va_K.moved (u := U) (U := U.calling g mk a) (Vm.Alike.refl U.vm) qK, qD, qN.1.calling, qN.2.calling⟩
/-- a callee's world inside the caller's, and what the caller has behind the call -/
def vv_Sub (D : va_G) (H : Heap) (A : Nat → Prop) (wc w1 wn : va_W) : Prop := va_P D vwCl wc H ∧ va_D (fun _ => True) wc ∧ (∀ q, va_A wc H.size q → A q) ∧ ∀ H1 : Heap, (∀ q : Nat, q < H.size → ¬ va_A wc H.size q → H1[q]? = H[q]?) → va_P D vwCl w1 H1 → va_D (va_A wc H.size) w1 → va_P D vwCl wn H1 ∧ va_D A wn
theorem vv_Sub.same {D : va_G} {H0 H : Heap} {A : Nat → Prop} {ws : va_W} {locs : List Loc} (w1 : va_W) (hP : va_P D vwCl ws H) (hD : va_D A ws) (hS : va_S A H0 H locs) (hA : ∀ q : Nat, H0.size ≤ q → A q) : vv_Sub D H A ws w1 w1 := by
  have hF : ∀ q, va_A ws H.size q → A q := by
    intro q h
    rcases h with ⟨k, e, h⟩ | h
    · exact hD.2 k _ h
    · exact hA q (Nat.le_trans hS.1 h)
  exact ⟨hP, hD.weaken (fun _ _ _ _ => trivial), hF, fun H1 _ hP1 hD1 => ⟨hP1, hD1.weaken (fun k q _ h => hF q.1 h)⟩⟩
theorem vv_Sub.none {D : va_G} {H0 H : Heap} {A : Nat → Prop} {ws : va_W} {locs : List Loc} (hP : va_P D vwCl ws H) (hD : va_D A ws) (hS : va_S A H0 H locs) (hA : ∀ q : Nat, H0.size ≤ q → A q) : vv_Sub D H A [] [] ws := by
  refine ⟨fun k q h => by simp at h, ⟨fun i j p q h => by simp at h, fun k q h => by simp at h⟩, ?_, ?_⟩
  · intro q h
    rcases h with ⟨k, e, h⟩ | h
    · simp at h
    · exact hA q (Nat.le_trans hS.1 h)
  · intro H1 hk _ _
    refine ⟨hP.kept (fun k q h => hk q.1 ((hP k q h).lt) ?_), hD⟩
    intro h2
    rcases h2 with ⟨k2, e2, h2⟩ | h2
    · simp at h2
    · exact absurd ((hP k q h).lt) (Nat.not_lt.mpr h2)
theorem vv_fm {ws ws' : va_W} : ∀ (is : List Nat) {ws' : va_W}, is.map (fun i => ws[i]?) = ws'.map some → is.filterMap (fun i => ws[i]?) = ws'
  | [], [], _ => rfl
  | [], _ :: _, h => by simp at h
  | _ :: _, [], h => by simp at h
  | i :: is, w :: ws', h => by
    simp only [List.map_cons, List.cons.injEq] at h
    rw [List.filterMap_cons, h.1]
    exact congrArg (w :: ·) (vv_fm (ws' := ws') is h.2)
theorem vv_Sub.part {D : va_G} {H0 H : Heap} {A : Nat → Prop} {ws wc w1 wr wn : va_W} {locs : List Loc} (isC isR pm : List Nat) (hP : va_P D vwCl ws H) (hD : va_D A ws) (hS : va_S A H0 H locs) (hA : ∀ q : Nat, H0.size ≤ q → A q)
    (hC : isC.map (fun i => ws[i]?) = wc.map some) (hR : isR.map (fun i => ws[i]?) = wr.map some) (hnd : (va_nd isC && va_nd isR && va_nd pm && isR.all (fun i => !isC.contains i)) = true) (hpm : pm.map (fun i => (wr ++ w1)[i]?) = wn.map some) : vv_Sub D H A wc w1 wn := by
  simp only [Bool.and_eq_true] at hnd
  obtain ⟨⟨⟨n1, n2⟩, n3⟩, n4⟩ := hnd
  have hF := va_free (wc := wc) hD hS hA isC hC
  refine ⟨hP.sub isC (vv_fm (ws' := wc) isC hC), (hD.sub isC n1 hC).weaken (fun _ _ _ _ => trivial), hF, fun H1 hk hP1 hD1 => ?_⟩
  have hdis : ∀ i ∈ isR, i ∉ isC := by
    intro i hi hc
    have := List.all_eq_true.mp n4 i hi
    simp [hc] at this
  obtain ⟨j1, j2⟩ := va_join (wr := wr) (w1 := w1) hP hD isC isR hC hR n2 hdis hk hF hP1 hD1
  exact ⟨j1.sub pm (vv_fm (ws' := wn) pm hpm), j2.sub pm n3 hpm⟩
section VVC
variable {p : Program} {l : Launch} {e : Env} {R : Room} {s : State} {m : MethodId} {args : Array Value} {below : List Frame} {meth : Method} {c : Code} {H : Heap} {locs : List Loc} {cells slots : Nat} {Q : State → Prop}
variable {y : MethodName} {bytes cc : ByteArray} {maxL nL n index pc : Nat} {ret : Option FieldType} {wy Ts : List Cond} {rm : Room} {own Cn : String} {b : Addr} {As rest st : List Value} {ls : Array Slot} {D : va_G} {C : Nat → ClassId} {A : Nat → Prop} {wc w1 wn : va_W}
theorem vv_nami {x e9 : Int32} (h : x = e9) (k : W p l e R s m args below meth c H locs cells slots Q (F0 m pc ls (.int x :: rest))) : W p l e R s m args below meth c H locs cells slots Q (F0 m pc ls (.int e9 :: rest)) := h ▸ k
theorem vv_naml {x e9 : Int64} (h : x = e9) (k : W p l e R s m args below meth c H locs cells slots Q (F0 m pc ls (.long x :: rest))) : W p l e R s m args below meth c H locs cells slots Q (F0 m pc ls (.long e9 :: rest)) := h ▸ k
theorem vv_goi {r : Int32} {a : Array Value} (hK : va_K D vwCl (tyL C) s) (hs : vv_Sub D H A wc w1 wn) (hS : va_S A s.heap H locs)
    (hr : va_Run p l e R s m args below meth c H locs cells slots 0 0 (F0 m pc ls st) rest (vv_QI D C wc w1 H.size r a) (va_A wc H.size))
    (kk : ∀ (H : Heap) (locs : List Loc), va_P D vwCl wn H → va_D A wn → va_S A s.heap H locs → W p l e R s m args below meth c H locs cells slots Q (F0 m (pc + 3) ls (.int r :: rest))) : W p l e R s m args below meth c H locs cells slots Q (F0 m pc ls st) := by
  refine va_calli hr hS (fun q _ h => hs.2.2.1 q h) hs.2.2.1 (fun r2 u t H1 locs1 ht hvm hw hB hz1 hk1 hS1 => ?_)
  obtain ⟨hP1, hK1, hD1⟩ := hB
  rw [ht] at hP1
  obtain ⟨g1, g2⟩ := hs.2.2.2 H1 hk1 hP1 hD1
  have hw2 : r2 = r := hw
  subst hw2
  exact kk H1 locs1 g1 g2 hS1
theorem vv_gol {r : Int64} {a : Array Value} (hK : va_K D vwCl (tyL C) s) (hs : vv_Sub D H A wc w1 wn) (hS : va_S A s.heap H locs)
    (hr : va_Run p l e R s m args below meth c H locs cells slots 0 0 (F0 m pc ls st) rest (vv_QL D C wc w1 H.size r a) (va_A wc H.size))
    (kk : ∀ (H : Heap) (locs : List Loc), va_P D vwCl wn H → va_D A wn → va_S A s.heap H locs → W p l e R s m args below meth c H locs cells slots Q (F0 m (pc + 3) ls (.long r :: rest))) : W p l e R s m args below meth c H locs cells slots Q (F0 m pc ls st) := by
  refine va_calll hr hS (fun q _ h => hs.2.2.1 q h) hs.2.2.1 (fun r2 u t H1 locs1 ht hvm hw hB hz1 hk1 hS1 => ?_)
  obtain ⟨hP1, hK1, hD1⟩ := hB
  rw [ht] at hP1
  obtain ⟨g1, g2⟩ := hs.2.2.2 H1 hk1 hP1 hD1
  have hw2 : r2 = r := hw
  subst hw2
  exact kk H1 locs1 g1 g2 hS1
theorem vv_gov {a : Array Value} (hK : va_K D vwCl (tyL C) s) (hs : vv_Sub D H A wc w1 wn) (hS : va_S A s.heap H locs)
    (hr : va_Run p l e R s m args below meth c H locs cells slots 0 0 (F0 m pc ls st) rest (vv_QV D C wc w1 H.size a) (va_A wc H.size))
    (kk : ∀ (H : Heap) (locs : List Loc), va_P D vwCl wn H → va_D A wn → va_S A s.heap H locs → W p l e R s m args below meth c H locs cells slots Q (F0 m (pc + 3) ls rest)) : W p l e R s m args below meth c H locs cells slots Q (F0 m pc ls st) := by
  refine va_callv hr hS (fun q _ h => hs.2.2.1 q h) hs.2.2.1 (fun u t H1 locs1 ht hvm hw hB hz1 hk1 hS1 => ?_)
  obtain ⟨hP1, hK1, hD1⟩ := hB
  rw [ht] at hP1
  obtain ⟨g1, g2⟩ := hs.2.2.2 H1 hk1 hP1 hD1
  exact kk H1 locs1 g1 g2 hS1
theorem vv_in {Qc : Array Value → State → Outcome → State → Prop} (av : List Value) (hs : vv_Sub D H A wc w1 wn) (hK : va_K D vwCl (tyL C) s) (hN : vv_NE C A s) (hS : va_S A s.heap H locs) : ∀ U : State, U.heap = H → s.WarmedH U.vm → va_Pc av (vv_pre D C wc H.size) av.toArray U := fun U hU hW => ⟨rfl, by rw [hU], by rw [hU]; exact hs.1, va_K.moved hW.alike hK, hs.2.1, hN.1.warm hW, hN.2.to hS hU hW hs.2.2.1⟩
/-- invokevirtual -/
theorem vv_rV {Qc : Array Value → State → Outcome → State → Prop} (hx : p.tables.exec = Jvm.exec) (hb : c.code = cc) (hml : c.maxLocals = nL) (hown : s.vm.findClass own = some m.cls) (hts : ∀ w ∈ Ts, w.before args s = true) (hK : va_K D vwCl (tyL C) s) (hN : vv_NE C A s) (hS : va_S A s.heap H locs) (hs : vv_Sub D H A wc w1 wn)
    (hM : Met l y wy rm (va_Pc (.ref b :: As) (vv_pre D C wc H.size)) Qc 0 0 (va_A wc H.size)) (cw : CallW R s args own Cn index y bytes maxL ret wy rm 0 0 n)
    (hrc : ∃ cellB : Cell, H[b]? = some cellB ∧ cellB.vm.isStatics = false ∧ s.vm.findClass Cn = some cellB.cls) (hn : As.length = n) (hsize : ls.size = nL) (hst : st = As.reverse ++ .ref b :: rest) (hrest : (rest.map fun v => v.category).sum ≤ 8) (hdg : decode cc pc = .ok (.invokevirtual index, 3)) (hcs : cells ≤ R.cells ∧ slots ≤ R.slots) :
    va_Run p l e R s m args below meth c H locs cells slots 0 0 (F0 m pc ls st) rest (Qc (Value.ref b :: As).toArray) (va_A wc H.size) :=
  va_runV (As := As) (rest := rest) ⟨hx, hb, hml, hown, hts⟩ hM cw ⟨vv_blind D C wc H.size _, hrc, vv_in (Qc := Qc) (.ref b :: As) hs hK hN hS⟩ rfl hn hsize hst (lv_room hrest) hdg hcs
/-- invokestatic -/
theorem vv_rS {Qc : Array Value → State → Outcome → State → Prop} (hx : p.tables.exec = Jvm.exec) (hb : c.code = cc) (hml : c.maxLocals = nL) (hown : s.vm.findClass own = some m.cls) (hts : ∀ w ∈ Ts, w.before args s = true) (hK : va_K D vwCl (tyL C) s) (hN : vv_NE C A s) (hS : va_S A s.heap H locs) (hs : vv_Sub D H A wc w1 wn)
    (hM : Met l y wy rm (va_Pc As (vv_pre D C wc H.size)) Qc 0 0 (va_A wc H.size)) (cw : CallB R s args own index y bytes maxL ret wy rm 0 0 n ∧ (Cond.static y).before args s = true)
    (hn : As.length = n) (hsize : ls.size = nL) (hst : st = As.reverse ++ rest) (hrest : (rest.map fun v => v.category).sum ≤ 8) (hdg : decode cc pc = .ok (.invokestatic index, 3)) (hcs : cells ≤ R.cells ∧ slots ≤ R.slots) :
    va_Run p l e R s m args below meth c H locs cells slots 0 0 (F0 m pc ls st) rest (Qc As.toArray) (va_A wc H.size) :=
  va_runS (As := As) (rest := rest) ⟨hx, hb, hml, hown, hts⟩ hM cw ⟨vv_blind D C wc H.size _, vv_in (Qc := Qc) As hs hK hN hS⟩ rfl hn hsize hst (lv_room hrest) hdg hcs
/-- invokestatic of a nest mate -/
theorem vv_rSN {host : String} {Qc : Array Value → State → Outcome → State → Prop} (hx : p.tables.exec = Jvm.exec) (hb : c.code = cc) (hml : c.maxLocals = nL) (hown : s.vm.findClass own = some m.cls) (hts : ∀ w ∈ Ts, w.before args s = true) (hK : va_K D vwCl (tyL C) s) (hN : vv_NE C A s) (hS : va_S A s.heap H locs) (hs : vv_Sub D H A wc w1 wn)
    (hM : Met l y wy rm (va_Pc As (vv_pre D C wc H.size)) Qc 0 0 (va_A wc H.size)) (cw : va_CN R s args own index y host bytes maxL ret wy rm 0 0 n) (hst9 : (Cond.static y).before args s = true)
    (hn : As.length = n) (hsize : ls.size = nL) (hst : st = As.reverse ++ rest) (hrest : (rest.map fun v => v.category).sum ≤ 8) (hdg : decode cc pc = .ok (.invokestatic index, 3)) (hcs : cells ≤ R.cells ∧ slots ≤ R.slots) :
    va_Run p l e R s m args below meth c H locs cells slots 0 0 (F0 m pc ls st) rest (Qc As.toArray) (va_A wc H.size) :=
  va_runSN (As := As) (rest := rest) ⟨hx, hb, hml, hown, hts⟩ hM ⟨cw, hst9, trivial⟩ ⟨vv_blind D C wc H.size _, vv_in (Qc := Qc) As hs hK hN hS⟩ rfl hn hsize hst (lv_room hrest) hdg hcs
end VVC
/-! THE HEAD OF A METHOD -/
theorem vv_metI {l : Launch} {y : MethodName} {wy wy' : List Cond} {rm : Room} {cc : ByteArray} {maxL : Nat} {ty : FieldType} {As : List Value} {D : va_G} {C : Nat → ClassId} {w0 w1 : va_W} {sz : Nat} {r : Int32} (hy : plainName y.cls = true) (hw : wy = Cond.code y cc maxL (some ty) :: wy') (hlen : (lg_sl As).length ≤ maxL)
    (body : ∀ (p : Program) (e : Env) (s : State) (m : MethodId) (args : Array Value) (below : List Frame) (meth : Method) (c : Code) (A : Nat → Prop) (Q : State → Prop) (H : Heap) (locs : List Loc) (ls : Array Slot), p.tables.exec = Jvm.exec → c.code = cc → c.maxLocals = maxL → s.vm.findClass y.cls = some m.cls → (∀ w ∈ wy, w.before args s = true) → (∀ q : Nat, s.heap.size ≤ q → A q) → va_K D vwCl (tyL C) s → vv_NE C A s → va_P D vwCl w0 H → va_D A w0 → va_S A s.heap H locs → lv_has ls maxL (lv_args 0 As) →
      (∀ (H : Heap) (locs : List Loc) (ls : Array Slot) (pc : Nat), narrow ty (.int r) = .int r → va_P D vwCl w1 H → va_D A w1 → va_S A s.heap H locs → decode cc pc = .ok (.ireturn, 1) → W p l e rm s m args below meth c H locs 0 0 Q (F0 m pc ls [.int r])) →
      W p l e rm s m args below meth c H locs 0 0 Q (F0 m 0 ls [])) :
    Met l y wy rm (va_Pc As (vv_pre D C w0 sz)) (vv_QI D C w0 w1 sz r) 0 0 (va_A w0 sz) := by
  refine Met.ofW (cc := cc) (maxL := maxL) (ret := some ty) hy hw ?_
  intro p e s m args below meth c s₁ B hml hv
  obtain ⟨rfl, hsz, hP, hK, hD0, hN⟩ := hv
  have hx := B.exec
  have hb := B.bytes
  have hr := B.returns
  have hts := atoms_spec (ws := wy) B.pre
  have hown : s.vm.findClass y.cls = some m.cls := findClass_of_methodNamed B.named
  have hlocks := B.notSynchronized
  subst hsz
  have hD := hD0.self (sz := s.heap.size)
  generalize hAe : va_A w0 s.heap.size = A at hD hN ⊢
  have hA : ∀ q : Nat, s.heap.size ≤ q → A q := fun q h => by rw [← hAe]; exact Or.inr h
  have hl := lv_entry As (n := maxL) hlen
  rw [lg_entry_eq]
  refine body p e s m _ below meth c A _ _ _ _ hx hb hml hown hts hA hK hN hP hD va_S.rf hl (fun H locs ls pc hn hP hD hS hdg => ?_)
  subst hAe
  exact W.zret (v := r) hx hb hr hn (fun t ht hW => ⟨⟨r, (), rfl, rfl, by rw [ht]; exact hP, va_K.moved hW.alike hK, hD⟩, hS.F ht⟩) hS.2.2 hdg
theorem vv_metL {l : Launch} {y : MethodName} {wy wy' : List Cond} {rm : Room} {cc : ByteArray} {maxL : Nat} {As : List Value} {D : va_G} {C : Nat → ClassId} {w0 w1 : va_W} {sz : Nat} {r : Int64} (hy : plainName y.cls = true) (hw : wy = Cond.code y cc maxL (some .long) :: wy') (hlen : (lg_sl As).length ≤ maxL)
    (body : ∀ (p : Program) (e : Env) (s : State) (m : MethodId) (args : Array Value) (below : List Frame) (meth : Method) (c : Code) (A : Nat → Prop) (Q : State → Prop) (H : Heap) (locs : List Loc) (ls : Array Slot), p.tables.exec = Jvm.exec → c.code = cc → c.maxLocals = maxL → s.vm.findClass y.cls = some m.cls → (∀ w ∈ wy, w.before args s = true) → (∀ q : Nat, s.heap.size ≤ q → A q) → va_K D vwCl (tyL C) s → vv_NE C A s → va_P D vwCl w0 H → va_D A w0 → va_S A s.heap H locs → lv_has ls maxL (lv_args 0 As) →
      (∀ (H : Heap) (locs : List Loc) (ls : Array Slot) (pc : Nat), va_P D vwCl w1 H → va_D A w1 → va_S A s.heap H locs → decode cc pc = .ok (.lreturn, 1) → W p l e rm s m args below meth c H locs 0 0 Q (F0 m pc ls [.long r])) →
      W p l e rm s m args below meth c H locs 0 0 Q (F0 m 0 ls [])) :
    Met l y wy rm (va_Pc As (vv_pre D C w0 sz)) (vv_QL D C w0 w1 sz r) 0 0 (va_A w0 sz) := by
  refine Met.ofW (cc := cc) (maxL := maxL) (ret := some .long) hy hw ?_
  intro p e s m args below meth c s₁ B hml hv
  obtain ⟨rfl, hsz, hP, hK, hD0, hN⟩ := hv
  have hx := B.exec
  have hb := B.bytes
  have hr := B.returns
  have hts := atoms_spec (ws := wy) B.pre
  have hown : s.vm.findClass y.cls = some m.cls := findClass_of_methodNamed B.named
  have hlocks := B.notSynchronized
  subst hsz
  have hD := hD0.self (sz := s.heap.size)
  generalize hAe : va_A w0 s.heap.size = A at hD hN ⊢
  have hA : ∀ q : Nat, s.heap.size ≤ q → A q := fun q h => by rw [← hAe]; exact Or.inr h
  have hl := lv_entry As (n := maxL) hlen
  rw [lg_entry_eq]
  refine body p e s m _ below meth c A _ _ _ _ hx hb hml hown hts hA hK hN hP hD va_S.rf hl (fun H locs ls pc hP hD hS hdg => ?_)
  subst hAe
  exact W.lret (v := r) hx hb hr (fun t ht hW => ⟨⟨r, (), rfl, rfl, by rw [ht]; exact hP, va_K.moved hW.alike hK, hD⟩, hS.F ht⟩) hS.2.2 hdg
theorem vv_metV {l : Launch} {y : MethodName} {wy wy' : List Cond} {rm : Room} {cc : ByteArray} {maxL : Nat} {As : List Value} {D : va_G} {C : Nat → ClassId} {w0 w1 : va_W} {sz : Nat} (hy : plainName y.cls = true) (hw : wy = Cond.code y cc maxL none :: wy') (hlen : (lg_sl As).length ≤ maxL)
    (body : ∀ (p : Program) (e : Env) (s : State) (m : MethodId) (args : Array Value) (below : List Frame) (meth : Method) (c : Code) (A : Nat → Prop) (Q : State → Prop) (H : Heap) (locs : List Loc) (ls : Array Slot), p.tables.exec = Jvm.exec → c.code = cc → c.maxLocals = maxL → s.vm.findClass y.cls = some m.cls → (∀ w ∈ wy, w.before args s = true) → (∀ q : Nat, s.heap.size ≤ q → A q) → va_K D vwCl (tyL C) s → vv_NE C A s → va_P D vwCl w0 H → va_D A w0 → va_S A s.heap H locs → lv_has ls maxL (lv_args 0 As) →
      (∀ (H : Heap) (locs : List Loc) (ls : Array Slot) (pc : Nat), va_P D vwCl w1 H → va_D A w1 → va_S A s.heap H locs → decode cc pc = .ok (.return_, 1) → W p l e rm s m args below meth c H locs 0 0 Q (F0 m pc ls [])) →
      W p l e rm s m args below meth c H locs 0 0 Q (F0 m 0 ls [])) :
    Met l y wy rm (va_Pc As (vv_pre D C w0 sz)) (vv_QV D C w0 w1 sz) 0 0 (va_A w0 sz) := by
  refine Met.ofW (cc := cc) (maxL := maxL) (ret := none) hy hw ?_
  intro p e s m args below meth c s₁ B hml hv
  obtain ⟨rfl, hsz, hP, hK, hD0, hN⟩ := hv
  have hx := B.exec
  have hb := B.bytes
  have hr := B.returns
  have hts := atoms_spec (ws := wy) B.pre
  have hown : s.vm.findClass y.cls = some m.cls := findClass_of_methodNamed B.named
  have hlocks := B.notSynchronized
  subst hsz
  have hD := hD0.self (sz := s.heap.size)
  generalize hAe : va_A w0 s.heap.size = A at hD hN ⊢
  have hA : ∀ q : Nat, s.heap.size ≤ q → A q := fun q h => by rw [← hAe]; exact Or.inr h
  have hl := lv_entry As (n := maxL) hlen
  rw [lg_entry_eq]
  refine body p e s m _ below meth c A _ _ _ _ hx hb hml hown hts hA hK hN hP hD va_S.rf hl (fun H locs ls pc hP hD hS hdg => ?_)
  subst hAe
  exact W.vret hx hb hr (fun t ht hW => ⟨⟨(), rfl, trivial, by rw [ht]; exact hP, va_K.moved hW.alike hK, hD⟩, hS.F ht⟩) hS.2.2 hdg
