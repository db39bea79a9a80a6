/-! day: steps of the sky, an item, both -/
theorem FD.sky {n b c : Nat} {F Z : Mm} {u : Int} (h : FD n b c F Z) (hc : c < 24) (h1 : -9 ≤ u) (h2 : u ≤ 9) : FD n b (c + 1) (mm_w (mm_w F 6 (upd (F 6) c (iI u))) 0 (upd (F 0) 2 (iI ((c + 1 : Nat) : Int)))) (mm_w (mm_w Z 10 (upd (Z 10) (24 + c) (iI u))) 9 (upd (Z 9) 1 (iI ((c + 1 : Nat) : Int)))) := by
  obtain ⟨d1, d2, d3, d4, d5, d6, d7, d8, d9, d10, d11, d12⟩ := h
  have kx : ∀ c', c' ≠ 9 → c' ≠ 10 → mm_w (mm_w Z 10 (upd (Z 10) (24 + c) (iI u))) 9 (upd (Z 9) 1 (iI ((c + 1 : Nat) : Int))) c' = Z c' := fun c' h9 h10 => by rw [mm_w_ne h9, mm_w_ne h10]
  refine ⟨d1, d2, by omega, d4, by rw [kx 2 (by omega) (by omega)]; exact d5, d6, by rw [kx 6 (by omega) (by omega)]; exact d7, by rw [mm_w_same, up_same], by rw [mm_w_same, up_same], fun i hi => ?_, fun i hi => ?_, fun i hi => ?_⟩
  · rw [kx 3 (by omega) (by omega), kx 4 (by omega) (by omega), kx 5 (by omega) (by omega)]
    exact d10 i hi
  · rw [kx 7 (by omega) (by omega), kx 8 (by omega) (by omega)]
    exact d11 i hi
  · have k10 : mm_w (mm_w Z 10 (upd (Z 10) (24 + c) (iI u))) 9 (upd (Z 9) 1 (iI ((c + 1 : Nat) : Int))) 10 = upd (Z 10) (24 + c) (iI u) := by rw [mm_w_ne (by omega), mm_w_same]
    rw [k10]
    by_cases qi : i = c
    · subst qi
      have w1 : mm_w (mm_w F 6 (upd (F 6) i (iI u))) 0 (upd (F 0) 2 (iI ((i + 1 : Nat) : Int))) 6 i = iI u := (show upd (F 6) i (iI u) i = iI u from up_same)
      rw [up_same, w1, tv_v w1 (by omega) (by omega)]
      exact ⟨rfl, h1, h2⟩
    · have w1 : mm_w (mm_w F 6 (upd (F 6) c (iI u))) 0 (upd (F 0) 2 (iI ((c + 1 : Nat) : Int))) 6 i = F 6 i := (show upd (F 6) c (iI u) i = F 6 i from up_ne qi)
      rw [up_ne (by omega), w1, tv_e w1]
      exact d12 i (by omega)
theorem steps_l {n b w : Nat} {u : Int} (hu1 : -9 ≤ u) (hu2 : u ≤ 9) {x1 r8 : Int32} (hx : (x1 = 2 ∧ r8 = iI u) ∨ (x1 ≠ 2 ∧ -r8 = iI u)) (hw : w ≤ 24) : ∀ (d j c fu fm : Nat) (F Z : Mm), j + d = w → c + d ≤ 24 → d < fu → d < fm → FD n b c F Z → Z 0 16 = -9 → ∃ F' Z', (∀ Kc : Int32 → Mm → Option (Mm × Mm), ffX4_readSteps_L30 (iI u) (iI w) Kc fu (iI j) F = Kc (iI w) F') ∧ (∀ KK : Mm → Option Mm, ffX8_readItem_L218 x1 r8 (iI w) (fun (x20 : Int32) (mZ21 : Mm) => KK mZ21) fm (iI j) Z = KK Z') ∧ FD n b (c + d) F' Z' ∧ DF Z Z' ∧ (∀ c', c' < 2 → Z' c' = Z c') := by
  intro d
  induction d with
  | zero =>
    intro j c fu fm F Z hj hc hf hm hD h16
    obtain ⟨fu, rfl⟩ : ∃ q, fu = q + 1 := ⟨fu - 1, by omega⟩
    obtain ⟨fm, rfl⟩ : ∃ q, fm = q + 1 := ⟨fm - 1, by omega⟩
    have e : j = w := by omega
    subst e
    refine ⟨F, Z, fun Kc => ?_, fun KK => ?_, hD, DF.rf Z, fun _ _ => rfl⟩
    · rw [ffX4_readSteps_L30_s, if_pos (by rw [iI_le (by omega) (by omega) (by omega) (by omega)]; omega)]
    · rw [ffX8_readItem_L218_s, if_pos (by rw [iI_le (by omega) (by omega) (by omega) (by omega)]; omega)]
  | succ d ih =>
    intro j c fu fm F Z hj hc hf hm hD h16
    obtain ⟨fu, rfl⟩ : ∃ q, fu = q + 1 := ⟨fu - 1, by omega⟩
    obtain ⟨fm, rfl⟩ : ∃ q, fm = q + 1 := ⟨fm - 1, by omega⟩
    have hF2 := hD.2.2.2.2.2.2.2.1
    have hZ9 := hD.2.2.2.2.2.2.2.2.1
    obtain ⟨F', Z', e1, e2, e3, e4, e5⟩ := ih (j + 1) (c + 1) fu fm _ _ (by omega) (by omega) (by omega) (by omega) (hD.sky (by omega) hu1 hu2) (by rw [mm_w_ne (by omega), mm_w_ne (by omega)]; exact h16)
    refine ⟨F', Z', fun Kc => ?_, fun KK => ?_, by rw [show c + (d + 1) = c + 1 + d by omega]; exact e3, ?_, fun c' hc' => by rw [e5 c' hc', mm_w_ne (by omega), mm_w_ne (by omega)]⟩
    · rw [ffX4_readSteps_L30_s, if_neg (by rw [iI_le (by omega) (by omega) (by omega) (by omega)]; omega), hF2, if_neg (by rw [show (24 : Int32) = iI 24 from rfl, iI_le (by omega) (by omega) (by omega) (by omega)]; omega), ixN (by omega) (by omega), kv_lt_d, kv_lt_d, kv_lt_d, kv_lt_d, iI_cn (j := c) (by omega)]
      have e0 : mm_w F 6 (upd (F 6) c (iI u)) 0 2 = iI ((c : Nat) : Int) := hF2
      rw [e0, l1, ix2, ix2]
      exact e1 Kc
    · have e24 : (24 : Int32) + iI ((c : Nat) : Int) = iI ((24 + c : Nat) : Int) := ix2 24 c
      rw [ffX8_readItem_L218_s, if_neg (by rw [iI_le (by omega) (by omega) (by omega) (by omega)]; omega), if_pos h16, ix12]
      simp only [kv_lt_d]
      rw [cl1, hZ9, e24]
      have fin : ∀ y : Int32, y = iI u → kv_ix (iI ((24 + c : Nat) : Int)) 48 (kv_ix 1 2 (kv_ix 1 2 (ffX8_readItem_L218 x1 r8 (iI w) (fun (x20 : Int32) (mZ21 : Mm) => KK mZ21) fm (iI (j : Int) + 1) (mm_w (mm_w Z 10 (upd (Z 10) (iI ((24 + c : Nat) : Int)).toNatClampNeg y)) 9 (upd (mm_w Z 10 (upd (Z 10) (iI ((24 + c : Nat) : Int)).toNatClampNeg y) 9) 1 (mm_w Z 10 (upd (Z 10) (iI ((24 + c : Nat) : Int)).toNatClampNeg y) 9 1 + 1)))))) = KK Z' := fun y hy => by
        rw [ixN (by omega) (by omega), ix12, ix12, iI_cn (j := 24 + c) (by omega), hy, mm_w_ne (by omega), hZ9, l1, ix2, ix2]
        exact e2 KK
      rcases hx with ⟨x2, hr⟩ | ⟨x2, hr⟩
      · rw [if_pos x2]
        exact fin r8 hr
      · rw [if_neg x2]
        exact fin (-r8) hr
    · have g1 : DF Z (mm_w Z 10 (upd (Z 10) (24 + c) (iI u))) := DF.w (by omega)
      have g2 : DF (mm_w Z 10 (upd (Z 10) (24 + c) (iI u))) (mm_w (mm_w Z 10 (upd (Z 10) (24 + c) (iI u))) 9 (upd (mm_w Z 10 (upd (Z 10) (24 + c) (iI u)) 9) 1 (iI ((c + 1 : Nat) : Int)))) := DF.w (by omega)
      exact (g1.tr g2).tr e4
theorem stepsB {t : Nat → Int} {len a n b c : Nat} {R F Z : Mm} {lo sg : Int} {x1 : Int32} (hlo : lo = 0 ∨ lo = 1) (hsg : (x1 = 2 ∧ sg = 1) ∨ (x1 = 3 ∧ sg = -1)) (h : PZ t len a R Z) (hD : FD n b c F Z) : ∃ R' F' Z', ffX4_readSteps (iI lo) (iI sg) R F = some (R', F') ∧ (∀ KK : Mm → Option Mm, (kv_b2 (ffX8_number (iI lo) (9 : Int32) Z) fun r8 mZ9 => kv_ix 1 2 (kv_b2 (ffX8_number (1 : Int32) (24 - (mZ9 9 (1 : Int32).toNatClampNeg)) mZ9) fun r10 mZ11 => ffX8_readItem_L218 x1 r8 r10 (fun (x20 : Int32) (mZ21 : Mm) => KK mZ21) kv_FU 0 mZ11)) = KK Z') ∧ PZ t len a R' Z' ∧ FrR R R' ∧ DF Z Z' ∧ (R' 0 7 = -1 → ∃ c', FD n b c' F' Z') := by
  have fu := fu_big
  have hF2 := hD.2.2.2.2.2.2.2.1
  have hZ9 := hD.2.2.2.2.2.2.2.2.1
  have hc24 := hD.2.2.1
  obtain ⟨v1, y1, R1, Z1, p1, p2, p3, p4, p5, p6, p7⟩ := numAny (lo := lo) (hi := 9) h (by omega) (by omega) (by omega) (by omega)
  obtain ⟨v2, y2, R2, Z2, q1, q2, q3, q4, q5, q6, q7⟩ := numAny (lo := 1) (hi := 24 - ((c : Nat) : Int)) p3 (by omega) (by omega) (by omega) (by omega)
  have p1' : ffX4_readNumber (iI lo) 9 R = some (iI v1, R1) := p1
  have p2' : ffX8_number (iI lo) 9 Z = some (y1, Z1) := p2
  have q1' : ffX4_readNumber 1 (iI (24 - ((c : Nat) : Int))) R1 = some (iI v2, R2) := q1
  have q2' : ffX8_number 1 (iI (24 - ((c : Nat) : Int))) Z1 = some (y2, Z2) := q2
  have hz1 : Z1 9 1 = iI ((c : Nat) : Int) := by rw [p5.1 9 (by omega)]; exact hZ9
  have e24 : (24 : Int32) - iI ((c : Nat) : Int) = iI (24 - ((c : Nat) : Int)) := by rw [show (24 : Int32) = iI 24 from rfl, iI_sub]
  have hD2 : FD n b c F Z2 := (hD.y p5).y q5
  unfold ffX4_readSteps
  rw [p1', kv_b2_d, kv_lt_d, hF2, e24, q1', kv_b2_d]
  have hmod : ∀ KK : Mm → Option Mm, (kv_b2 (ffX8_number (iI lo) (9 : Int32) Z) fun r8 mZ9 => kv_ix 1 2 (kv_b2 (ffX8_number (1 : Int32) (24 - (mZ9 9 (1 : Int32).toNatClampNeg)) mZ9) fun r10 mZ11 => ffX8_readItem_L218 x1 r8 r10 (fun (x20 : Int32) (mZ21 : Mm) => KK mZ21) kv_FU 0 mZ11)) = ffX8_readItem_L218 x1 y1 y2 (fun (x20 : Int32) (mZ21 : Mm) => KK mZ21) kv_FU 0 Z2 := fun KK => by
    rw [p2', kv_b2_d, ix12, cl1, hz1, e24, q2', kv_b2_d]
  rcases q3.no with ⟨n7, n16⟩ | ⟨n7, n16⟩
  · obtain ⟨q8, q9, q10, q11⟩ := q6 n7
    obtain ⟨p8, p9, p10, p11⟩ := p6 q8
    obtain ⟨w, rfl⟩ : ∃ w : Nat, v2 = (w : Int) := ⟨v2.toNat, by omega⟩
    have hu : iI sg * iI v1 = iI (sg * v1) := iI_mul _ _
    have hub : -9 ≤ sg * v1 ∧ sg * v1 ≤ 9 := by
      rcases hsg with ⟨_, e⟩ | ⟨_, e⟩ <;> rw [e] <;> omega
    have hx : (x1 = 2 ∧ y1 = iI (sg * v1)) ∨ (x1 ≠ 2 ∧ -y1 = iI (sg * v1)) := by
      rcases hsg with ⟨e1, e2⟩ | ⟨e1, e2⟩
      · exact Or.inl ⟨e1, by rw [p9, e2, Int.one_mul]⟩
      · refine Or.inr ⟨by rw [e1]; decide, ?_⟩
        rw [p9, e2, iI_neg]
        congr 1
        omega
    rw [hu]
    rw [q9] at hmod
    generalize kv_FU = G at fu hmod ⊢
    obtain ⟨F', Z', e1, e2, e3, e4, e5⟩ := steps_l hub.1 hub.2 hx (by omega : w ≤ 24) w 0 c G G F Z2 (by omega) (by omega) (by omega) (by omega) hD2 n16
    refine ⟨R2, F', Z', e1 _, fun KK => (hmod KK).trans (e2 KK), ?_, p4.tr q4, (p5.df.tr q5.df).tr e4, fun _ => ⟨_, e3⟩⟩
    obtain ⟨s1, s2, s3⟩ := q3
    refine ⟨s1, ⟨s2.1, s2.2.1, by rw [e5 0 (by omega)]; exact s2.2.2.1, fun i hi => by rw [e5 1 (by omega)]; exact s2.2.2.2 i hi⟩, ?_⟩
    unfold LA at *
    rw [e5 0 (by omega)]
    exact s3
  · have hv : v2 = 0 := q7 n7
    have e1 : ∀ (Kc : Int32 → Mm → Option (Mm × Mm)) (x : Int32), ffX4_readSteps_L30 x (iI v2) Kc kv_FU 0 F = Kc 0 F := fun Kc x => by
      obtain ⟨G, hG⟩ : ∃ G, kv_FU = G + 1 := ⟨kv_FU - 1, by omega⟩
      rw [hG, ffX4_readSteps_L30_s, hv, if_pos (by decide)]
    have e2 : ∀ (KK : Mm → Option Mm), ffX8_readItem_L218 x1 y1 y2 (fun (x20 : Int32) (mZ21 : Mm) => KK mZ21) kv_FU 0 Z2 = KK Z2 := fun KK => by
      obtain ⟨G, hG⟩ : ∃ G, kv_FU = G + 1 := ⟨kv_FU - 1, by omega⟩
      rw [hG, ffX8_readItem_L218_s, if_neg n16]
      split <;> rfl
    refine ⟨R2, F, Z2, e1 _ _, fun KK => (hmod KK).trans (e2 KK), q3, p4.tr q4, p5.df.tr q5.df, fun q => absurd q n7⟩
/-- a token scanned by the class, and ahead in the model -/
def LH (t : Nat → Int) (len p : Nat) (R Z : Mm) : Prop := TR t len R ∧ TR t len Z ∧ p ≤ len ∧ R 0 3 = iI ((tE t len (tS t len p) : Nat) : Int) ∧ R 0 4 = iI ((tS t len p : Nat) : Int) ∧ R 0 5 = iI ((tT t len (tS t len p) : Nat) : Int) ∧ R 0 7 = -1 ∧ LA t len p Z ∧ Z 0 16 = -9
def semM (m : Mm) : Option Mm := if m 0 14 = (6 : Int32) then kv_b2 (ffX8_due 1 m) fun r53 mZ54 => some mZ54 else kv_b2 (ffX8_due 0 m) fun r53 mZ54 => some mZ54
set_option maxHeartbeats 1000000 in
theorem itemB {t : Nat → Int} {len p n b c : Nat} {R F Z : Mm} (h : LH t len p R Z) (hk : tK t len (tS t len p) ≠ 4) (hD : FD n b c F Z) : ∃ R' F' Z', ffX4_readItem R F = some (R', F') ∧ ffX8_readItem Z = some Z' ∧ PZ t len (p + 1) R' Z' ∧ FrR R R' ∧ DF Z Z' ∧ (R' 0 7 = -1 → ∃ n' b' c', FD n' b' c' F' Z') := by
  obtain ⟨hR, hZ, hp, h3, h4, h5, h7, hLA, h16⟩ := h
  obtain ⟨a12, a13, a14, a15⟩ := hLA
  have hsb := tS_b (t := t) hp
  have hlen := hR.1
  generalize tS t len p = s at *
  have hsl : s < len := by
    refine Nat.lt_of_not_le (fun x => hk ?_)
    exact (tK_end x).1
  have heb := tE_b (t := t) hsb.2
  have he1 := tE_1 (t := t) hsl
  obtain ⟨d1, d2, d3, d4, d5, d6, d7, d8, d9, d10, d11, d12⟩ := id hD
  have wd0 := isWord_i hR hsb.2 h3 h4 h5 (ii := 0) (by omega)
  have wd1 := isWord_i hR hsb.2 h3 h4 h5 (ii := 1) (by omega)
  have wd2 := isWord_i hR hsb.2 h3 h4 h5 (ii := 2) (by omega)
  have wd3 := isWord_i hR hsb.2 h3 h4 h5 (ii := 3) (by omega)
  have hkl := tK_le t len s
  -- accepted
  obtain ⟨Z4, n1, n2, n3⟩ := nextM hZ heb.2 a12
  have acc : ffX8_due 1 Z = some (Z 0 15, Z4) := due_1 h16 n1
  have hPZ : PZ t len (p + 1) R Z4 := ⟨hR, hZ.z n2, Or.inl ⟨tE t len s, by omega, heb.2, h3, h7, n3, by rw [n2.2 16 (by omega)]; exact h16⟩⟩
  have h164 : Z4 0 16 = -9 := by rw [n2.2 16 (by omega)]; exact h16
  have hD4 : FD n b c F Z4 := hD.y n2.y
  -- refused
  have rej : ffX8_due 0 Z = some (Z 0 15, mm_w Z 0 (upd (Z 0) 16 (iI ((s : Nat) : Int)))) := by rw [due_0 h16, a13]
  have rej16 : mm_w Z 0 (upd (Z 0) 16 (iI ((s : Nat) : Int))) 0 16 ≠ -9 := by rw [q_s]; exact ne9 (by omega)
  have rejS : ffX4_readSemicolon (mm_w R 0 (upd (R 0) 7 (iI ((s : Nat) : Int)))) = some (mm_w R 0 (upd (R 0) 7 (iI ((s : Nat) : Int)))) := by
    unfold ffX4_readSemicolon
    rw [if_neg (by rw [q_s]; exact ne1 (by omega))]
  have rejE : PZ t len (p + 1) (mm_w R 0 (upd (R 0) 7 (iI ((s : Nat) : Int)))) (mm_w Z 0 (upd (Z 0) 16 (iI ((s : Nat) : Int)))) ∧ FrR R (mm_w R 0 (upd (R 0) 7 (iI ((s : Nat) : Int)))) ∧ DF Z (mm_w Z 0 (upd (Z 0) 16 (iI ((s : Nat) : Int)))) ∧ (mm_w R 0 (upd (R 0) 7 (iI ((s : Nat) : Int))) 0 7 = -1 → ∃ n' b' c', FD n' b' c' F (mm_w Z 0 (upd (Z 0) 16 (iI ((s : Nat) : Int))))) :=
    ⟨⟨hR.r (FrR.q (by omega)), hZ.y (FrY.q (by omega)), Or.inr ⟨s, tE t len s, by omega, heb.2, by rw [q_n (by omega)]; exact h3, q_s, q_s⟩⟩, FrR.q (by omega), (FrY.q (by omega)).df, fun q => absurd q (by rw [q_s]; exact ne1 (by omega))⟩
  -- behind the body
  have fin : ∀ (R1 F1 Z1 : Mm), PZ t len (p + 1) R1 Z1 → FrR R R1 → DF Z4 Z1 → (R1 0 7 = -1 → ∃ n' b' c', FD n' b' c' F1 Z1) → ∃ R' Z', ffX4_readSemicolon R1 = some R' ∧ semM Z1 = some Z' ∧ PZ t len (p + 1) R' Z' ∧ FrR R R' ∧ DF Z Z' ∧ (R' 0 7 = -1 → ∃ n' b' c', FD n' b' c' F1 Z') := fun R1 F1 Z1 g1 g2 g3 g4 => by
    obtain ⟨R', Z', s1, s2, s3, s4, s5, s6⟩ := semAny g1
    refine ⟨R', Z', s1, s2, s3, g2.tr s4, (n2.y.df.tr g3).tr s5.df, fun q => ?_⟩
    obtain ⟨n', b', c', g5⟩ := g4 (s6 q)
    exact ⟨n', b', c', g5.y s5⟩
  have lt6 : (Z 2 (1 : Int32).toNatClampNeg < 6) = (n < 6) := by
    rw [cl1, d5, show (6 : Int32) = iI 6 from rfl, iI_lt (by omega) (by omega) (by omega) (by omega)]
    exact propext ⟨fun h => by omega, fun h => by omega⟩
  have lt5 : (Z 6 (1 : Int32).toNatClampNeg < 5) = (b < 5) := by
    rw [cl1, d7, show (5 : Int32) = iI 5 from rfl, iI_lt (by omega) (by omega) (by omega) (by omega)]
    exact propext ⟨fun h => by omega, fun h => by omega⟩
  have le6 : ((6 : Int32) ≤ F 0 0) = (6 ≤ n) := by
    rw [d4, show (6 : Int32) = iI 6 from rfl, iI_le (by omega) (by omega) (by omega) (by omega)]
    exact propext ⟨fun h => by omega, fun h => by omega⟩
  have le5 : ((5 : Int32) ≤ F 0 1) = (5 ≤ b) := by
    rw [d6, show (5 : Int32) = iI 5 from rfl, iI_le (by omega) (by omega) (by omega) (by omega)]
    exact propext ⟨fun h => by omega, fun h => by omega⟩
  unfold ffX4_readItem ffX8_readItem
  rcases (show tK t len s = 0 ∨ tK t len s = 1 ∨ tK t len s = 2 ∨ tK t len s = 3 ∨ 5 ≤ tK t len s by omega) with q | q | q | q | q
  · -- piece
    rw [q] at wd0 wd1 wd2 wd3 a14
    have w0 : ffX4_isWord 0 R = some 1 := wd0
    have w1 : ffX4_isWord 1 R = some 0 := wd1
    have w2 : ffX4_isWord 2 R = some 0 := wd2
    have w3 : ffX4_isWord 3 R = some 0 := wd3
    have e14 : Z 0 14 = 0 := a14
    simp only [kv_lt_d, w0, w1, w2, w3, e14, kv_b1_d]
    by_cases q6 : n < 6
    · obtain ⟨R1, F1, Z1, e1, e2, e3, e4, e5, e6⟩ := pieceB hPZ hD4 q6
      obtain ⟨R', Z', f1, f2, f3, f4, f5, f6⟩ := fin R1 F1 Z1 e3 e4 e5 (fun q => ⟨_, _, _, e6 q⟩)
      refine ⟨R', F1, Z', ?_, ?_, f3, f4, f5, f6⟩
      · rw [if_neg (by decide), if_neg (by rw [le6]; omega), e1, kv_b2_d, f1, kv_b1_d]
      · rw [if_pos (by decide), ix12, if_pos (by rw [lt6]; exact q6), acc, kv_b2_d, if_pos h164, if_pos (by decide)]
        exact (e2 semM).trans f2
    · refine ⟨_, F, _, ?_, ?_, rejE⟩
      · rw [if_neg (by decide), if_pos (by rw [le6]; omega), if_pos (by decide), if_pos (by decide), if_pos (by decide), h4, rejS, kv_b1_d]
      · rw [if_pos (by decide), ix12, if_neg (by rw [lt6]; exact q6), if_neg (by decide), if_neg (by decide), if_neg (by decide), rej, kv_b2_d, if_neg rej16]
  · -- spot
    rw [q] at wd0 wd1 wd2 wd3 a14
    have w0 : ffX4_isWord 0 R = some 0 := wd0
    have w1 : ffX4_isWord 1 R = some 1 := wd1
    have w2 : ffX4_isWord 2 R = some 0 := wd2
    have w3 : ffX4_isWord 3 R = some 0 := wd3
    have e14 : Z 0 14 = 1 := a14
    simp only [kv_lt_d, w0, w1, w2, w3, e14, kv_b1_d]
    by_cases q5 : b < 5
    · obtain ⟨R1, F1, Z1, e1, e2, e3, e4, e5, e6⟩ := spotB hPZ hD4 q5
      obtain ⟨R', Z', f1, f2, f3, f4, f5, f6⟩ := fin R1 F1 Z1 e3 e4 e5 (fun q => ⟨_, _, _, e6 q⟩)
      refine ⟨R', F1, Z', ?_, ?_, f3, f4, f5, f6⟩
      · rw [if_pos (by decide), if_neg (by decide), if_neg (by rw [le5]; omega), e1, kv_b2_d, f1, kv_b1_d]
      · rw [if_neg (by decide), if_pos (by decide), ix12, if_pos (by rw [lt5]; exact q5), acc, kv_b2_d, if_pos h164, if_neg (by decide), if_pos (by decide)]
        exact (e2 semM).trans f2
    · refine ⟨_, F, _, ?_, ?_, rejE⟩
      · rw [if_pos (by decide), if_neg (by decide), if_pos (by rw [le5]; omega), if_pos (by decide), if_pos (by decide), h4, rejS, kv_b1_d]
      · rw [if_neg (by decide), if_pos (by decide), ix12, if_neg (by rw [lt5]; exact q5), if_neg (by decide), if_neg (by decide), rej, kv_b2_d, if_neg rej16]
  · -- sun
    rw [q] at wd0 wd1 wd2 wd3 a14
    have w0 : ffX4_isWord 0 R = some 0 := wd0
    have w1 : ffX4_isWord 1 R = some 0 := wd1
    have w2 : ffX4_isWord 2 R = some 1 := wd2
    have e14 : Z 0 14 = 2 := a14
    simp only [kv_lt_d, w0, w1, w2, e14, kv_b1_d]
    obtain ⟨R1, F1, Z1, e1, e2, e3, e4, e5, e6⟩ := stepsB (lo := 0) (sg := 1) (x1 := 2) (Or.inl rfl) (Or.inl ⟨rfl, rfl⟩) hPZ hD4
    obtain ⟨R', Z', f1, f2, f3, f4, f5, f6⟩ := fin R1 F1 Z1 e3 e4 e5 (fun q => by obtain ⟨c', e7⟩ := e6 q; exact ⟨_, _, c', e7⟩)
    have e1' : ffX4_readSteps 0 1 R F = some (R1, F1) := e1
    refine ⟨R', F1, Z', ?_, ?_, f3, f4, f5, f6⟩
    · rw [if_pos (by decide), if_pos (by decide), if_neg (by decide), e1', kv_b2_d, f1, kv_b1_d]
    · rw [if_neg (by decide), if_neg (by decide), if_pos (by decide), acc, kv_b2_d, if_pos h164, if_neg (by decide), if_neg (by decide), if_pos (by decide)]
      exact (e2 semM).trans f2
  · -- rain
    rw [q] at wd0 wd1 wd2 wd3 a14
    have w0 : ffX4_isWord 0 R = some 0 := wd0
    have w1 : ffX4_isWord 1 R = some 0 := wd1
    have w2 : ffX4_isWord 2 R = some 0 := wd2
    have w3 : ffX4_isWord 3 R = some 1 := wd3
    have e14 : Z 0 14 = 3 := a14
    simp only [kv_lt_d, w0, w1, w2, w3, e14, kv_b1_d]
    obtain ⟨R1, F1, Z1, e1, e2, e3, e4, e5, e6⟩ := stepsB (lo := 1) (sg := -1) (x1 := 3) (Or.inr rfl) (Or.inr ⟨rfl, rfl⟩) hPZ hD4
    obtain ⟨R', Z', f1, f2, f3, f4, f5, f6⟩ := fin R1 F1 Z1 e3 e4 e5 (fun q => by obtain ⟨c', e7⟩ := e6 q; exact ⟨_, _, c', e7⟩)
    have e1' : ffX4_readSteps 1 (-1) R F = some (R1, F1) := e1
    refine ⟨R', F1, Z', ?_, ?_, f3, f4, f5, f6⟩
    · rw [if_pos (by decide), if_pos (by decide), if_pos (by decide), if_neg (by decide), e1', kv_b2_d, f1, kv_b1_d]
    · rw [if_neg (by decide), if_neg (by decide), if_neg (by decide), if_pos (by decide), acc, kv_b2_d, if_pos h164, if_neg (by decide), if_neg (by decide), if_neg (by decide)]
      exact (e2 semM).trans f2
  · -- none of these
    have w0 : ffX4_isWord 0 R = some 0 := by rw [wd0, if_neg (by omega)]
    have w1 : ffX4_isWord 1 R = some 0 := by rw [wd1, if_neg (by omega)]
    have w2 : ffX4_isWord 2 R = some 0 := by rw [wd2, if_neg (by omega)]
    have w3 : ffX4_isWord 3 R = some 0 := by rw [wd3, if_neg (by omega)]
    have ne : ∀ k : Nat, k < 4 → ¬ iI ((tK t len s : Nat) : Int) = iI ((k : Nat) : Int) := fun k hk4 => by
      rw [iI_eq (by omega) (by omega) (by omega) (by omega)]
      omega
    have m0 : ¬ iI ((tK t len s : Nat) : Int) = (0 : Int32) := ne 0 (by omega)
    have m1 : ¬ iI ((tK t len s : Nat) : Int) = (1 : Int32) := ne 1 (by omega)
    have m2 : ¬ iI ((tK t len s : Nat) : Int) = (2 : Int32) := ne 2 (by omega)
    have m3 : ¬ iI ((tK t len s : Nat) : Int) = (3 : Int32) := ne 3 (by omega)
    simp only [kv_lt_d, w0, w1, w2, w3, a14, kv_b1_d]
    refine ⟨_, F, _, ?_, ?_, rejE⟩
    · rw [if_pos (by decide), if_pos (by decide), if_pos (by decide), if_pos (by decide), h4, rejS, kv_b1_d]
    · rw [if_neg m0, if_neg m1, if_neg m2, if_neg m3, rej, kv_b2_d, if_neg rej16]
