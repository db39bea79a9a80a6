/-! CONSTRUCTORS -/
abbrev zz : Mm := fun _ _ => 0
def vv_fn (q : List Nat) : Nat → Nat := fun k => q.getD k 0
def vv_fn2 (q : List (Nat → Nat)) : Nat → Nat → Nat := fun k => q.getD k (fun _ => 0)
def vv_AOA (U : State) : Prop := (Cond.arrayOver (.array .int)).before #[] U = true
theorem vv_AOA.moved {u U : State} (hvm : u.vm.Alike U.vm) (h : vv_AOA u) : vv_AOA U := by
  obtain ⟨comp, c, k, h1, h2, h3, h4, h5⟩ := arrayOverA_spec h
  obtain ⟨k', hk', he⟩ := hvm.2.2 _ _ h3
  have hi : (U.vm.classes.findIdx? fun (x : Class) => match x.kind with | .array component _ => component == comp | _ => false) = some c := by
    have e1 := va_idx_bare U.vm comp
    have e2 := va_idx_bare u.vm comp
    have hb : U.vm.bare = u.vm.bare := by first | exact hvm.bare_eq | exact hvm.bare_eq.symm
    rw [hb] at e1
    exact e1.symm.trans (e2.trans h2)
  have hkind : k'.kind = .array comp (.array .int) := by rw [he]; exact h4
  have f1 : U.vm.findClass (FieldType.array .int).toString = some comp := by rw [hvm.findClass]; exact h1
  have f2 : U.vm.findClass ("[" ++ (FieldType.array .int).toString) = some c := by rw [hvm.findClass]; exact h5
  unfold vv_AOA Cond.before Cond.holds
  simp only [Cond.value]
  rw [f1, Option.bind_some]
  refine (congrArg (fun o : Option Nat => (o.bind (fun c => (U.vm.classes[c]?).map fun (k : Class) => match k.kind with | .array _ ty => decide (ty = FieldType.array .int) && decide (U.vm.findClass ("[" ++ (FieldType.array .int).toString) = some c) | _ => false) == some true)) hi).trans ?_
  simp [hk', hkind, f2]
def vv_X (U : State) : Prop := va_Nw (.methodLinkNest RX7 9 yX4_init RX7) U ∧ va_Nw (.methodLinkNest RX7 18 yX6_init RX7) U ∧ va_Nw (.methodLinkNest RX7 63 yX0_init RX7) U ∧ va_Nw (.methodLinkNest RX4 17 yX6_init RX7) U ∧ va_AO "ForeRain$Moment" U ∧ vv_AOA U
theorem vv_X.calling {U : State} {g : JFrame} {mk : MethodId} {a : Array Value} (h : vv_X U) : vv_X (U.calling g mk a) := ⟨va_Nw.same rfl rfl h.1, va_Nw.same rfl rfl h.2.1, va_Nw.same rfl rfl h.2.2.1, va_Nw.same rfl rfl h.2.2.2.1, va_AO.moved (u := U) (U := U.calling g mk a) (Vm.Alike.refl U.vm) h.2.2.2.2.1, vv_AOA.moved (u := U) (U := U.calling g mk a) (Vm.Alike.refl U.vm) h.2.2.2.2.2⟩
theorem vv_X.warm {s U : State} (hW : s.WarmedH U.vm) (h : vv_X s) : vv_X U := ⟨va_Nw.warmM hW h.1, va_Nw.warmM hW h.2.1, va_Nw.warmM hW h.2.2.1, va_Nw.warmM hW h.2.2.2.1, va_AO.moved hW.alike h.2.2.2.2.1, vv_AOA.moved hW.alike h.2.2.2.2.2⟩
def vv_preC (D : va_G) (C : Nat → ClassId) (ws : va_W) (sz : Nat) (U : State) : Prop := vv_pre D C ws sz U ∧ vv_X U
theorem vv_blindC (D : va_G) (C : Nat → ClassId) (ws : va_W) (sz : Nat) (av : List Value) : FrameBlind (va_Pc av (vv_preC D C ws sz)) := fun a U g mk q => by
  obtain ⟨q0, q1, q2⟩ := q
  exact ⟨q0, (vv_blind D C ws sz av a U g mk ⟨q0, q1⟩).2, q2.calling⟩
/-- a new cell for its constructor, and what the caller has behind it -/
def vv_SubC (D : va_G) (H : Heap) (A : Nat → Prop) (wc wr : va_W) : Prop := va_P D vwCl wc H ∧ va_D (fun _ => True) wc ∧ (∀ q, va_A wc H.size q → A q) ∧ ∀ (H1 : Heap) (w1 : va_W), (∀ q : Nat, q < H.size → ¬ va_A wc H.size q → H1[q]? = H[q]?) → va_P D vwCl w1 H1 → va_D (va_A wc H.size) w1 → va_P D vwCl (wr ++ w1) H1 ∧ va_D A (wr ++ w1)
theorem vv_SubC.part {D : va_G} {H0 H : Heap} {A : Nat → Prop} {ws wc wr : va_W} {locs : List Loc} (isC isR : List Nat) (hP : va_P D vwCl ws H) (hD : va_D A ws) (hS : va_S A H0 H locs) (hA : ∀ q : Nat, H0.size ≤ q → A q)
    (hC : isC.map (fun i => ws[i]?) = wc.map some) (hR : isR.map (fun i => ws[i]?) = wr.map some) (hnd : (va_nd isC && va_nd isR && isR.all (fun i => !isC.contains i)) = true) : vv_SubC D H A wc wr := by
  simp only [Bool.and_eq_true] at hnd
  obtain ⟨⟨n1, n2⟩, n4⟩ := hnd
  have hF := va_free (wc := wc) hD hS hA isC hC
  refine ⟨hP.sub isC (vv_fm (ws' := wc) isC hC), (hD.sub isC n1 hC).weaken (fun _ _ _ _ => trivial), hF, fun H1 w1 hk hP1 hD1 => ?_⟩
  have hdis : ∀ i ∈ isR, i ∉ isC := by
    intro i hi hc
    have := List.all_eq_true.mp n4 i hi
    simp [hc] at this
  exact va_join (wr := wr) (w1 := w1) hP hD isC isR hC hR n2 hdis hk hF hP1 hD1
section VVD
variable {p : Program} {l : Launch} {e : Env} {R : Room} {s : State} {m : MethodId} {args : Array Value} {below : List Frame} {meth : Method} {c : Code} {H : Heap} {locs : List Loc} {cells slots mc ms : Nat} {Q : State → Prop}
variable {y : MethodName} {bytes cc : ByteArray} {maxL nL n index pc : Nat} {wy Ts : List Cond} {rm : Room} {own : String} {b : Addr} {As rest st : List Value} {ls : Array Slot} {D : va_G} {C : Nat → ClassId} {A : Nat → Prop} {wc wr : va_W}
theorem vv_inC (av : List Value) (hs : vv_SubC D H A wc wr) (hK : va_K D vwCl (tyL C) s) (hN : vv_NE C A s) (hX : vv_X s) (hS : va_S A s.heap H locs) : ∀ U : State, U.heap = H → s.WarmedH U.vm → va_Pc av (vv_preC D C wc H.size) av.toArray U := fun U hU hW => ⟨rfl, ⟨by rw [hU], by rw [hU]; exact hs.1, va_K.moved hW.alike hK, hs.2.1, hN.1.warm hW, hN.2.to hS hU hW hs.2.2.1⟩, hX.warm hW⟩
theorem vv_rI {Qc : Array Value → State → Outcome → State → Prop} (hx : p.tables.exec = Jvm.exec) (hb : c.code = cc) (hml : c.maxLocals = nL) (hown : s.vm.findClass own = some m.cls) (hts : ∀ w ∈ Ts, w.before args s = true) (hK : va_K D vwCl (tyL C) s) (hN : vv_NE C A s) (hX : vv_X s) (hS : va_S A s.heap H locs) (hs : vv_SubC D H A wc wr)
    (hM : Met l y wy rm (va_Pc (.ref b :: As) (vv_preC D C wc H.size)) Qc mc ms (va_A wc H.size)) (cw : CallB R s args own index y bytes maxL none wy rm mc ms n ∧ y.name = "<init>" ∧ (Cond.instanceMethod y).before args s = true)
    (hn : As.length = n) (hsize : ls.size = nL) (hst : st = As.reverse ++ .ref b :: rest) (hrest : (rest.map fun v => v.category).sum ≤ 8) (hdg : decode cc pc = .ok (.invokespecial index, 3)) (hcs : cells + mc ≤ R.cells ∧ slots + ms ≤ R.slots) :
    va_Run p l e R s m args below meth c H locs cells slots mc ms (F0 m pc ls st) rest (Qc (Value.ref b :: As).toArray) (va_A wc H.size) :=
  va_runI (As := As) (rest := rest) ⟨hx, hb, hml, hown, hts⟩ hM cw ⟨vv_blindC D C wc H.size _, vv_inC (.ref b :: As) hs hK hN hX hS⟩ rfl hn hsize hst (lv_room hrest) hdg hcs
theorem vv_rIN {host : String} {Qc : Array Value → State → Outcome → State → Prop} (hx : p.tables.exec = Jvm.exec) (hb : c.code = cc) (hml : c.maxLocals = nL) (hown : s.vm.findClass own = some m.cls) (hts : ∀ w ∈ Ts, w.before args s = true) (hK : va_K D vwCl (tyL C) s) (hN : vv_NE C A s) (hX : vv_X s) (hS : va_S A s.heap H locs) (hs : vv_SubC D H A wc wr)
    (hM : Met l y wy rm (va_Pc (.ref b :: As) (vv_preC D C wc H.size)) Qc mc ms (va_A wc H.size)) (cw : va_CN R s args own index y host bytes maxL none wy rm mc ms n) (h8 : y.name = "<init>") (h9 : (Cond.instanceMethod y).before args s = true)
    (hn : As.length = n) (hsize : ls.size = nL) (hst : st = As.reverse ++ .ref b :: rest) (hrest : (rest.map fun v => v.category).sum ≤ 8) (hdg : decode cc pc = .ok (.invokespecial index, 3)) (hcs : cells + mc ≤ R.cells ∧ slots + ms ≤ R.slots) :
    va_Run p l e R s m args below meth c H locs cells slots mc ms (F0 m pc ls st) rest (Qc (Value.ref b :: As).toArray) (va_A wc H.size) :=
  va_runIN (As := As) (rest := rest) ⟨hx, hb, hml, hown, hts⟩ hM ⟨cw, h8, h9⟩ ⟨vv_blindC D C wc H.size _, vv_inC (.ref b :: As) hs hK hN hX hS⟩ rfl hn hsize hst (lv_room hrest) hdg hcs
theorem vv_goc {S : Type} {post : S → Prop} {Bw : S → va_W} {a : Array Value} (hs : vv_SubC D H A wc wr) (hS : va_S A s.heap H locs)
    (hr : va_Run p l e R s m args below meth c H locs cells slots mc ms (F0 m pc ls st) rest (va_Qv post (fun u t => vv_post D C (va_A wc H.size) (Bw u) t) (va_A wc H.size) a) (va_A wc H.size))
    (kk : ∀ (u : S) (H : Heap) (locs : List Loc), post u → va_P D vwCl (wr ++ Bw u) H → va_D A (wr ++ Bw u) → va_S A s.heap H locs → W p l e R s m args below meth c H locs (cells + mc) (slots + ms) Q (F0 m (pc + 3) ls rest)) : W p l e R s m args below meth c H locs cells slots Q (F0 m pc ls st) := by
  refine va_callv hr hS (fun q _ h => hs.2.2.1 q h) hs.2.2.1 (fun u t H1 locs1 ht hvm hw hB hz1 hk1 hS1 => ?_)
  obtain ⟨hP1, hK1, hD1⟩ := hB
  rw [ht] at hP1
  obtain ⟨g1, g2⟩ := hs.2.2.2 H1 _ hk1 hP1 hD1
  exact kk u H1 locs1 hw g1 g2 hS1
end VVD
theorem vv_metC {l : Launch} {y : MethodName} {wy wy' : List Cond} {rm : Room} {cc : ByteArray} {maxL mc ms : Nat} {As : List Value} {D : va_G} {C : Nat → ClassId} {w0 : va_W} {S : Type} {post : S → Prop} {Bw : S → va_W} {sz : Nat} (hy : plainName y.cls = true) (hyn : y.name = "<init>") (hw : wy = Cond.code y cc maxL none :: wy') (hlen : (lg_sl As).length ≤ maxL)
    (body : ∀ (p : Program) (e : Env) (s : State) (m : MethodId) (args : Array Value) (below : List Frame) (meth : Method) (c : Code) (A : Nat → Prop) (Q : State → Prop) (H : Heap) (locs : List Loc) (ls : Array Slot), p.tables.exec = Jvm.exec → c.code = cc → c.maxLocals = maxL → s.vm.findClass y.cls = some m.cls → (∀ w ∈ wy, w.before args s = true) → (∀ q : Nat, s.heap.size ≤ q → A q) → va_K D vwCl (tyL C) s → vv_NE C A s → vv_X s → meth.name = "<init>" → va_P D vwCl w0 H → va_D A w0 → va_S A s.heap H locs → lv_has ls maxL (lv_args 0 As) →
      (∀ (u : S) (H : Heap) (locs : List Loc) (ls : Array Slot) (pc : Nat), post u → va_P D vwCl (Bw u) H → va_D A (Bw u) → va_S A s.heap H locs → decode cc pc = .ok (.return_, 1) → W p l e rm s m args below meth c H locs mc ms Q (F0 m pc ls [])) →
      W p l e rm s m args below meth c H locs 0 0 Q (F0 m 0 ls [])) :
    Met l y wy rm (va_Pc As (vv_preC D C w0 sz)) (va_Qv post (fun u t => vv_post D C (va_A w0 sz) (Bw u) t) (va_A w0 sz)) mc ms (va_A w0 sz) := by
  refine Met.ofW (cc := cc) (maxL := maxL) (ret := none) hy hw ?_
  intro p e s m args below meth c s₁ B hml hv
  obtain ⟨rfl, ⟨hsz, hP, hK, hD0, hN⟩, hX⟩ := hv
  have hx := B.exec
  have hb := B.bytes
  have hr := B.returns
  have hts := atoms_spec (ws := wy) B.pre
  have hown : s.vm.findClass y.cls = some m.cls := findClass_of_methodNamed B.named
  have hlocks := B.notSynchronized
  have hin : meth.name = "<init>" := (name_of_methodNamed B.named B.method).1.trans hyn
  subst hsz
  have hD := hD0.self (sz := s.heap.size)
  generalize hAe : va_A w0 s.heap.size = A at hD hN ⊢
  have hA : ∀ q : Nat, s.heap.size ≤ q → A q := fun q h => by rw [← hAe]; exact Or.inr h
  have hl := lv_entry As (n := maxL) hlen
  rw [lg_entry_eq]
  refine body p e s m _ below meth c A _ _ _ _ hx hb hml hown hts hA hK hN hX hin hP hD va_S.rf hl (fun u H locs ls pc h0 hP hD hS hdg => ?_)
  subst hAe
  exact W.vret hx hb hr (fun t ht hW => ⟨⟨u, rfl, h0, by rw [ht]; exact hP, va_K.moved hW.alike hK, hD⟩, hS.F ht⟩) hS.2.2 hdg
/-- the class of a new array is the one known -/
theorem vv_cA {D : va_G} {cl : List vw_C} {tys : List (ClassId × FieldType)} {s : State} {cA cB : ClassId} {ty : FieldType} (h : va_K D cl (tys ++ [(cA, ty)]) s) (k : Nat) (hk : tys[k]? = some (cB, ty)) (hp : ∀ C, ty ≠ .object C) : cA = cB := by
  have h1 := (h.2 tys.length (cA, ty) (by simp)).2
  have hlt : k < tys.length := (List.getElem?_eq_some_iff.mp hk).1
  have h2 := (h.2 k (cB, ty) (by rw [List.getElem?_append_left hlt]; exact hk)).2
  unfold va_RA at h1 h2
  cases ty <;> first | exact absurd rfl (hp _) | (simp only at h1 h2; rw [h1] at h2; exact Option.some.inj h2)
theorem vv_cO {D : va_G} {cl : List vw_C} {tys : List (ClassId × FieldType)} {s : State} {cA cB : ClassId} {n : String} (h : va_K D cl (tys ++ [(cA, .object n)]) s) (k : Nat) (hk : tys[k]? = some (cB, .object n)) : cA = cB := by
  obtain ⟨_, _, _, _, _, h1⟩ := (h.2 tys.length (cA, .object n) (by simp)).2
  have hlt : k < tys.length := (List.getElem?_eq_some_iff.mp hk).1
  obtain ⟨_, _, _, _, _, h2⟩ := (h.2 k (cB, .object n) (by rw [List.getElem?_append_left hlt]; exact hk)).2
  rw [h1] at h2
  exact Option.some.inj h2
