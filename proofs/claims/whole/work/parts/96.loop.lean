/-! THE CLAIM OUT OF ONE WALK OF THE LAW'S BODY. Your part is whole_start (and what it stands on); all else here is the same for every law, but numbers. -/
def R_law : String := "ForeRainLaw"
def lw_P (b : Addr) (xs : List Int32) (args : Array Value) (s : State) : Prop := args = #[.ref b] ∧ s.IntsAt b xs ∧ xs.length ≤ 320 ∧ (Jvm.Cond.and given_1 narrow_1).before args s = true
def lw_Q (_ : Array Value) (s : State) (o : Outcome) (t : State) : Prop := o = .returned (some (.int 1)) ∧ Framed s o t [] 600000 7302250
def lw_Z (below : List Frame) (a : Array Value) (s : State) : State → Prop := fun t => ∃ o, t.status = .running ∧ Ended t below o ∧ lw_Q a s o t
/-- the law's own end, with 1 on the stack, nothing written that was there before, its room as the claim has it -/
theorem lw_ret {p : Program} {l : Launch} {e : Env} {s : State} {m : MethodId} {below : List Frame} {meth : Method} {c : Code} {b : Nat} (hx : p.tables.exec = Jvm.exec) (hb : c.code = code) (hr : meth.sig.returnType = ret) (hlocks : meth.locks = false) {pc : Nat} {H : Heap} {ls : Array Slot} (hdg : decode code pc = .ok (.ireturn, 1)) : W p l e room_1 s m #[Value.ref b] below meth c H [] 600000 7302250 (lw_Z below #[Value.ref b] s) (F0 m pc ls [.int 1]) := by
  intro T hT X
  obtain ⟨fs, hret, hrun, hended, hW, hframe⟩ := X.leave (v := some (.int 1)) (hlocks := hlocks) (fun h => by rw [hr] at h; cases h)
  have hmeth' : T.vm.method? m = some meth := X.method'
  refine ⟨T.setFrames fs, ?_, .returned (some (.int 1)), hrun, hended, rfl, ⟨_, rfl⟩, hW, hframe⟩
  jvm_step X.here [X.here.top, hx, hb, hdg, hmeth', hr, ret, narrow_b1]
  (try refine ⟨rfl, ?_⟩); (try refine ⟨rfl, ?_⟩)
  first | (intro acts; rw [hret _ acts rfl rfl rfl]) | rw [hret _ _ rfl rfl rfl]
  exact Steps.refl _
/-- what holds at the law's entry: the machine, the code, the tables' words (any of lw_tbl by 'hts w (by decide +kernel)'), the script of L ints xs at the cell b, what the Statement gives of the start (any of its parts by flat_of_before) -/
def lw_At (p : Program) (s : State) (m : MethodId) (meth : Method) (c : Code) (b L : Nat) (xs : Nat → Int32) : Prop :=
  p.tables.exec = Jvm.exec ∧ c.code = code ∧ meth.sig.returnType = ret ∧ c.maxLocals = 4 ∧ s.vm.findClass R_law = some m.cls ∧ (∀ w ∈ lw_tbl, w.before #[Value.ref b] s = true) ∧ va_X b L xs s s.heap ∧ b < s.heap.size ∧ meth.locks = false ∧ (Jvm.Cond.and given_1 narrow_1).before #[Value.ref b] s = true
theorem and31 (x : Int32) : ∃ k : Nat, k < 32 ∧ x &&& 31 = iI ((k : Nat) : Int) := by
  have h : (x &&& 31).toBitVec.toNat < 32 := by
    rw [Int32.toBitVec_and, BitVec.toNat_and]
    exact Nat.lt_of_le_of_lt Nat.and_le_right (by decide)
  have e : (x &&& 31).toInt = ((x &&& 31).toBitVec.toNat : Int) := BitVec.toInt_eq_toNat_of_lt (by omega)
  exact ⟨(x &&& 31).toBitVec.toNat, h, by rw [← e]; exact (iI_t _).symm⟩
theorem vpI {z L : Nat} (h : z < L) (hL : L ≤ 320) : vp_in (iI ((z : Nat) : Int)) L := by
  unfold vp_in
  rw [iI_cn (by omega), iI_0, iI_lt (by omega) (by omega) (by omega) (by omega)]
  omega
theorem ofL (L : Nat) : Int32.ofNat L - 5 = iI ((L : Int) - 5) := by
  have e : Int32.ofNat L = iI (L : Int) := (Int32.ofInt_eq_ofNat (n := L)).symm
  rw [e, show (5 : Int32) = iI 5 from rfl, iI_sub]
set_option maxHeartbeats 4000000 in
set_option maxRecDepth 100000 in
theorem law_loop {p : Program} {l : Launch} {e : Env} {s : State} {m : MethodId} {below : List Frame} {meth : Method} {c : Code} {D : va_G} {C : Nat → ClassId} {a : Nat → Nat → Nat} {aZ : Nat → Nat} {b L : Nat} {xs : Nat → Int32} (hL : L ≤ 320) (C0 : lw_At p s m meth c b L xs) (hK : va_K D vwCl (tyL C) s) (hN : vv_NE C (fun q : Nat => s.heap.size ≤ q) s) :
    ∀ (n j : Nat), j ≤ L → L + 1 ≤ j + n → ∀ (mX mR mF mT mP mA mI mJ mH mK mD : Mm) (mG : Int64) (mZ : Mm) (mY : Int64) (H : Heap) (locs : List Loc), Rl mX mR mT mP mI mJ mD mG mZ mY → va_P D vwCl (w_L C a aZ mX mR mF mT mP mA mI mJ mH mK mD mG mZ mY) H → va_D (fun q : Nat => s.heap.size ≤ q) (w_L C a aZ mX mR mF mT mP mA mI mJ mH mK mD mG mZ mY) → va_S (fun q : Nat => s.heap.size ≤ q) s.heap H locs → ∀ (ls : Array Slot), lv_has ls 4 [(0, .ref b), (1, .ref (a 0 0)), (2, .ref (aZ 0)), (3, .int (iI ((j : Nat) : Int)))] → W p l e room_1 s m #[Value.ref b] below meth c H locs 100 2000 (lw_Z below #[Value.ref b] s) (F0 m 18 ls []) := by
  obtain ⟨hx, hb, hr, hml, hown, hts0, hX, hbl, hlocks, hgv⟩ := C0
  have hown : s.vm.findClass RL = some m.cls := hown
  have hts : ∀ w ∈ wsL_law, w.before #[Value.ref b] s = true := fun w hw => hts0 w (wsL_law_in w hw)
  have hA : ∀ q : Nat, s.heap.size ≤ q → (fun q : Nat => s.heap.size ≤ q) q := fun _ h => h
  have hbA : ¬ (fun q : Nat => s.heap.size ≤ q) b := Nat.not_le.mpr hbl
  intro n
  induction n with
  | zero =>
    intro j h1 h2
    exact absurd h2 (by omega)
  | succ n ih =>
    intro j hj hn mX mR mF mT mP mA mI mJ mH mK mD mG mZ mY H locs hR hP hD hS ls hl
    refine lv_iload_n hx hb dL_law_18 rfl (lv_at hl 3 rfl) ?_
    refine lv_aload_n hx hb dL_law_19 rfl (lv_at hl 0 rfl) ?_
    refine va_slen hx hb hX hbl hbA hS dL_law_20 ?_
    refine lv_iconst (v := 5) hx hb dL_law_21 (by decide) ?_
    refine lv_isub hx hb dL_law_22 ?_
    refine lv_icmp_gt (tgt := 959) hx hb dL_law_23 (by decide) (fun hc => ?_) (fun hc => ?_)
    · refine lv_iconst (v := 1) hx hb dL_law_959 (by decide) ?_
      refine va_forget (fun q hq => hS.2.2 q hq) ?_
      refine W.widen (k := 600000) (n := 7302250) (Nat.le_of_ble_eq_true rfl) (Nat.le_of_ble_eq_true rfl) ?_
      exact lw_ret hx hb hr hlocks dL_law_960
    · have h5 : j + 5 ≤ L := by
        rw [ofL, iI_lt (by omega) (by omega) (by omega) (by omega)] at hc
        omega
      have h0 : vp_in (iI ((j : Nat) : Int)) L := vpI (by omega) hL
      have h1 : vp_in (iI ((j : Nat) : Int) + 1) L := by
        rw [show (1 : Int32) = iI ((1 : Nat) : Int) from rfl, ix2]
        exact vpI (by omega) hL
      have h2 : vp_in (iI ((j : Nat) : Int) + 2) L := by
        rw [show (2 : Int32) = iI ((2 : Nat) : Int) from rfl, ix2]
        exact vpI (by omega) hL
      have h3 : vp_in (iI ((j : Nat) : Int) + 3) L := by
        rw [show (3 : Int32) = iI ((3 : Nat) : Int) from rfl, ix2]
        exact vpI (by omega) hL
      have h4 : vp_in (iI ((j : Nat) : Int) + 4) L := by
        rw [show (4 : Int32) = iI ((4 : Nat) : Int) from rfl, ix2]
        exact vpI (by omega) hL
      have next : ∀ (mX mR mF mT mP mA mI mJ mH mK mD : Mm) (mG : Int64) (mZ : Mm) (mY : Int64) (H : Heap) (locs : List Loc), Rl mX mR mT mP mI mJ mD mG mZ mY → va_P D vwCl (w_L C a aZ mX mR mF mT mP mA mI mJ mH mK mD mG mZ mY) H → va_D (fun q : Nat => s.heap.size ≤ q) (w_L C a aZ mX mR mF mT mP mA mI mJ mH mK mD mG mZ mY) → va_S (fun q : Nat => s.heap.size ≤ q) s.heap H locs → W p l e room_1 s m #[Value.ref b] below meth c H locs 100 2000 (lw_Z below #[Value.ref b] s) (F0 m 953 ls []) := by
        intro mX mR mF mT mP mA mI mJ mH mK mD mG mZ mY H locs hR hP hD hS
        refine lv_iinc (v := iI ((j + 5 : Nat) : Int)) (lv' := [(3, .int (iI ((j + 5 : Nat) : Int))), (0, .ref b), (1, .ref (a 0 0)), (2, .ref (aZ 0))]) hx hb dL_law_953 hl (k := 3) rfl ?_ (by decide) rfl (fun ls hl => ?_)
        · show iI ((j : Nat) : Int) + iI 5 = iI ((j + 5 : Nat) : Int)
          rw [iI_add]
          congr 1
        refine lv_goto (tgt := 18) hx hb dL_law_956 (by decide) ?_
        exact ih (j + 5) h5 (by omega) mX mR mF mT mP mA mI mJ mH mK mD mG mZ mY H locs hR hP hD hS ls (lv_sub hl [1, 2, 3, 0] rfl)
      refine lv_aload_n hx hb dL_law_26 rfl (lv_at hl 0 rfl) ?_
      refine lv_iload_n hx hb dL_law_27 rfl (lv_at hl 3 rfl) ?_
      refine va_sld hx hb hX hbl hbA hS h0 dL_law_28 ?_
      refine lv_bipush (v := 31) hx hb dL_law_29 (by decide) ?_
      refine lv_iand hx hb dL_law_31 ?_
      obtain ⟨k, hk, ek⟩ := and31 (xs (iI ((j : Nat) : Int)).toNatClampNeg)
      rw [ek]
      match k, hk with
      | 0, _ =>
        refine lv_tableIn (off := 132) (tgt := 164) hx hb dL_law_32 (by decide) (by decide) rfl (by decide) ?_
        exact lc_type hx hb hml hown hts hX hbl hbA hA hK hN h1 h2 h3 h4 hl hR hP hD hS next
      | 1, _ =>
        refine lv_tableIn (off := 195) (tgt := 227) hx hb dL_law_32 (by decide) (by decide) rfl (by decide) ?_
        exact lc_clear hx hb hml hown hts hX hbl hbA hA hK hN h1 h2 h3 h4 hl hR hP hD hS next
      | 2, _ =>
        refine lv_tableIn (off := 208) (tgt := 240) hx hb dL_law_32 (by decide) (by decide) rfl (by decide) ?_
        exact lc_day hx hb hml hown hts hX hbl hbA hA hK hN h1 h2 h3 h4 hl hR hP hD hS next
      | 3, _ =>
        refine lv_tableIn (off := 221) (tgt := 253) hx hb dL_law_32 (by decide) (by decide) rfl (by decide) ?_
        exact lc_piece hx hb hml hown hts hX hbl hbA hA hK hN h1 h2 h3 h4 hl hR hP hD hS next
      | 4, _ =>
        refine lv_tableIn (off := 254) (tgt := 286) hx hb dL_law_32 (by decide) (by decide) rfl (by decide) ?_
        exact lc_spot hx hb hml hown hts hX hbl hbA hA hK hN h1 h2 h3 h4 hl hR hP hD hS next
      | 5, _ =>
        refine lv_tableIn (off := 287) (tgt := 319) hx hb dL_law_32 (by decide) (by decide) rfl (by decide) ?_
        exact lc_sky hx hb hml hown hts hX hbl hbA hA hK hN h1 h2 h3 h4 hl hR hP hD hS next
      | 6, _ =>
        refine lv_tableIn (off := 310) (tgt := 342) hx hb dL_law_32 (by decide) (by decide) rfl (by decide) ?_
        exact lc_hang hx hb hml hown hts hX hbl hbA hA hK hN h1 h2 h3 h4 hl hR hP hD hS next
      | 7, _ =>
        refine lv_tableIn (off := 343) (tgt := 375) hx hb dL_law_32 (by decide) (by decide) rfl (by decide) ?_
        exact lc_rack hx hb hml hown hts hX hbl hbA hA hK hN h1 h2 h3 h4 hl hR hP hD hS next
      | 8, _ =>
        refine lv_tableIn (off := 366) (tgt := 398) hx hb dL_law_32 (by decide) (by decide) rfl (by decide) ?_
        exact lc_basket hx hb hml hown hts hX hbl hbA hA hK hN h1 h2 h3 h4 hl hR hP hD hS next
      | 9, _ =>
        refine lv_tableIn (off := 389) (tgt := 421) hx hb dL_law_32 (by decide) (by decide) rfl (by decide) ?_
        exact lc_go hx hb hml hown hts hX hbl hbA hA hK hN h1 h2 h3 h4 hl hR hP hD hS next
      | 10, _ =>
        refine lv_tableIn (off := 412) (tgt := 444) hx hb dL_law_32 (by decide) (by decide) rfl (by decide) ?_
        exact lc_now hx hb hml hown hts hX hbl hbA hA hK hN h1 h2 h3 h4 hl hR hP hD hS next
      | 11, _ =>
        refine lv_tableIn (off := 435) (tgt := 467) hx hb dL_law_32 (by decide) (by decide) rfl (by decide) ?_
        exact lc_anew hx hb hml hown hts hX hbl hbA hA hK hN h1 h2 h3 h4 hl hR hP hD hS next
      | 12, _ =>
        refine lv_tableIn (off := 448) (tgt := 480) hx hb dL_law_32 (by decide) (by decide) rfl (by decide) ?_
        exact lc_when hx hb hml hown hts hX hbl hbA hA hK hN h1 h2 h3 h4 hl hR hP hD hS next
      | 13, _ =>
        refine lv_tableIn (off := 471) (tgt := 503) hx hb dL_law_32 (by decide) (by decide) rfl (by decide) ?_
        exact lc_damp hx hb hml hown hts hX hbl hbA hA hK hN h1 h2 h3 h4 hl hR hP hD hS next
      | 14, _ =>
        refine lv_tableIn (off := 524) (tgt := 556) hx hb dL_law_32 (by decide) (by decide) rfl (by decide) ?_
        exact lc_where hx hb hml hown hts hX hbl hbA hA hK hN h1 h2 h3 h4 hl hR hP hD hS next
      | 15, _ =>
        refine lv_tableIn (off := 557) (tgt := 589) hx hb dL_law_32 (by decide) (by decide) rfl (by decide) ?_
        exact lc_order hx hb hml hown hts hX hbl hbA hA hK hN h1 h2 h3 h4 hl hR hP hD hS next
      | 16, _ =>
        refine lv_tableIn (off := 590) (tgt := 622) hx hb dL_law_32 (by decide) (by decide) rfl (by decide) ?_
        exact lc_odds hx hb hml hown hts hX hbl hbA hA hK hN h1 h2 h3 h4 hl hR hP hD hS next
      | 17, _ =>
        refine lv_tableIn (off := 634) (tgt := 666) hx hb dL_law_32 (by decide) (by decide) rfl (by decide) ?_
        exact lc_roomFor hx hb hml hown hts hX hbl hbA hA hK hN h1 h2 h3 h4 hl hR hP hD hS next
      | 18, _ =>
        refine lv_tableIn (off := 657) (tgt := 689) hx hb dL_law_32 (by decide) (by decide) rfl (by decide) ?_
        exact lc_pegs hx hb hml hown hts hX hbl hbA hA hK hN h1 h2 h3 h4 hl hR hP hD hS next
      | 19, _ =>
        refine lv_tableIn (off := 670) (tgt := 702) hx hb dL_law_32 (by decide) (by decide) rfl (by decide) ?_
        exact lc_coins hx hb hml hown hts hX hbl hbA hA hK hN h1 h2 h3 h4 hl hR hP hD hS next
      | 20, _ =>
        refine lv_tableIn (off := 693) (tgt := 725) hx hb dL_law_32 (by decide) (by decide) rfl (by decide) ?_
        exact lc_held hx hb hml hown hts hX hbl hbA hA hK hN h1 h2 h3 h4 hl hR hP hD hS next
      | 21, _ =>
        refine lv_tableIn (off := 736) (tgt := 768) hx hb dL_law_32 (by decide) (by decide) rfl (by decide) ?_
        exact lc_right hx hb hml hown hts hX hbl hbA hA hK hN h1 h2 h3 h4 hl hR hP hD hS next
      | 22, _ =>
        refine lv_tableIn (off := 759) (tgt := 791) hx hb dL_law_32 (by decide) (by decide) rfl (by decide) ?_
        exact lc_better hx hb hml hown hts hX hbl hbA hA hK hN h1 h2 h3 h4 hl hR hP hD hS next
      | 23, _ =>
        refine lv_tableIn (off := 772) (tgt := 804) hx hb dL_law_32 (by decide) (by decide) rfl (by decide) ?_
        exact lc_trust hx hb hml hown hts hX hbl hbA hA hK hN h1 h2 h3 h4 hl hR hP hD hS next
      | 24, _ =>
        refine lv_tableIn (off := 805) (tgt := 837) hx hb dL_law_32 (by decide) (by decide) rfl (by decide) ?_
        exact lc_mark hx hb hml hown hts hX hbl hbA hA hK hN h1 h2 h3 h4 hl hR hP hD hS next
      | 25, _ =>
        refine lv_tableIn (off := 838) (tgt := 870) hx hb dL_law_32 (by decide) (by decide) rfl (by decide) ?_
        exact lc_keep hx hb hml hown hts hX hbl hbA hA hK hN h1 h2 h3 h4 hl hR hP hD hS next
      | 26, _ =>
        refine lv_tableIn (off := 861) (tgt := 893) hx hb dL_law_32 (by decide) (by decide) rfl (by decide) ?_
        exact lc_back hx hb hml hown hts hX hbl hbA hA hK hN h1 h2 h3 h4 hl hR hP hD hS next
      | 27, _ =>
        refine lv_tableIn (off := 884) (tgt := 916) hx hb dL_law_32 (by decide) (by decide) rfl (by decide) ?_
        exact lc_count hx hb hml hown hts hX hbl hbA hA hK hN h1 h2 h3 h4 hl hR hP hD hS next
      | 28, _ =>
        refine lv_tableIn (off := 907) (tgt := 939) hx hb dL_law_32 (by decide) (by decide) rfl (by decide) ?_
        exact lc_trace hx hb hml hown hts hX hbl hbA hA hK hN h1 h2 h3 h4 hl hR hP hD hS next
      | 29, _ =>
        refine lv_tableOut (tgt := 953) hx hb dL_law_32 (by decide) (by decide) ?_
        exact next mX mR mF mT mP mA mI mJ mH mK mD mG mZ mY H locs hR hP hD hS
      | 30, _ =>
        refine lv_tableOut (tgt := 953) hx hb dL_law_32 (by decide) (by decide) ?_
        exact next mX mR mF mT mP mA mI mJ mH mK mD mG mZ mY H locs hR hP hD hS
      | 31, _ =>
        refine lv_tableOut (tgt := 953) hx hb dL_law_32 (by decide) (by decide) ?_
        exact next mX mR mF mT mP mA mI mJ mH mK mD mG mZ mY H locs hR hP hD hS
      | k + 32, hk => exact absurd hk (by omega)
