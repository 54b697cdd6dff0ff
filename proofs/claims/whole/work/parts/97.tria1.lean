/-! ===== springs ===== -/
theorem u64_lN (v : UInt64) : v.toInt64 = lN v.toNat := by
  apply Int64.toBitVec_inj.mp
  unfold lN
  simp
/-- the number that a seed gives -/
def lot (X : Int64) : Int32 := Int64.toInt32 ((((Int64.toUInt64 X) >>> ((Int32.toInt64 (nI 33)).toUInt64 &&& Int64.toUInt64 63)).toInt64) - (((Int64.toUInt64 X) >>> ((Int32.toInt64 (nI 33)).toUInt64 &&& Int64.toUInt64 63)).toInt64) / ((28 : Int64)) * ((28 : Int64)))
theorem lot_nI (X : Int64) : ∃ j, j < 28 ∧ lot X = nI j := by
  have hs : (Int32.toInt64 (nI 33)).toUInt64 &&& Int64.toUInt64 63 = 33 := by decide +kernel
  unfold lot
  rw [hs]
  have hu : (Int64.toUInt64 X >>> 33).toNat < 2 ^ 31 := by
    rw [UInt64.toNat_shiftRight, Nat.shiftRight_eq_div_pow]
    have h1 : (Int64.toUInt64 X).toNat < 2 ^ 64 := UInt64.toNat_lt _
    have h2 : (33 : UInt64).toNat % 64 = 33 := by decide
    rw [h2]
    omega
  rw [u64_lN, show (28 : Int64) = lN 28 from rfl, pk_lRem (by omega) (by decide) (by decide), lN_i]
  exact ⟨_, Nat.mod_lt _ (by decide), rfl⟩
theorem bc_add {x i : Nat} (hi : i < 5) (hx : x < 2 ^ i) : sJ6_bitCount_0f7a4 (nI (x + 2 ^ i)) = sJ6_bitCount_0f7a4 (nI x) + nI 1 := by
  have h : ((List.range 5).all fun i => (List.range (2 ^ i)).all fun x => decide (sJ6_bitCount_0f7a4 (nI (x + 2 ^ i)) = sJ6_bitCount_0f7a4 (nI x) + nI 1)) = true := by decide +kernel
  exact of_decide_eq_true (List.all_eq_true.mp (List.all_eq_true.mp h i (List.mem_range.mpr hi)) x (List.mem_range.mpr hx))
section Spr
variable {y : Gd} {B : Nat} {g g2 : Hg}
theorem m_carriedOn' (o : GO y) (M : GM y g2) (bc : Nat → Int32) (h0 : bc 0 = nI 0) (h1 : ∀ x i, i < 5 → x < 2 ^ i → bc (x + 2 ^ i) = bc x + nI 1) : sX9_carriedOn g2 (nI 1) = some (bc (bt (fun f => decide (nr g2 1 (13 + f) = nI 1)) (dF y))) := by
  have hF := o.2.1
  unfold sX9_carriedOn
  have key := seqloop (fun m a i => sX9_carriedOn_4 g2 (nI 1) m a i) (fun i => bc (bt (fun f => decide (nr g2 1 (13 + f) = nI 1)) i)) (dF y) (some (bc (bt (fun f => decide (nr g2 1 (13 + f) = nI 1)) (dF y)))) (fun m => ?_) (fun m i hi => ?_) 100 (by omega)
  · have e0 : bc (bt (fun f => decide (nr g2 1 (13 + f) = nI 1)) 0) = nI 0 := h0
    simp only [e0] at key
    exact key
  · show sX9_carriedOn_4 _ _ _ _ _ = _
    rw [sX9_carriedOn_4, if_pos (by rw [M.2.1, nI_leI (by omega) (by omega)]; exact Nat.le_refl _)]
  · show sX9_carriedOn_4 _ _ _ _ _ = sX9_carriedOn_4 _ _ _ _ _
    rw [sX9_carriedOn_4, if_neg (by rw [M.2.1, nI_leI (by omega) (by omega)]; omega), pk_mul, nI_add, nI_add, nI_add, if_pos (inb_nI (by omega) (by decide)), nI_clamp (by omega)]
    have e1 : g2 35 (31 * 1 + 13 + i) = nr g2 1 (13 + i) := by unfold nr; rw [Nat.add_assoc]
    rw [e1]
    by_cases hp : nr g2 1 (13 + i) = nI 1
    · rw [if_pos hp, bt, if_pos (decide_eq_true hp), h1 _ _ (by omega) (bt_lt _ _)]
    · rw [if_neg hp, bt_skip (p := fun f => decide (nr g2 1 (13 + f) = nI 1)) (decide_eq_false hp), nI_0, Int32.add_zero]
theorem m_carriedOn (o : GO y) (M : GM y g2) : sX9_carriedOn g2 (nI 1) = some (sJ6_bitCount_0f7a4 (nI (bt (fun f => decide (nr g2 1 (13 + f) = nI 1)) (dF y)))) :=
  m_carriedOn' o M (fun n => sJ6_bitCount_0f7a4 (nI n)) (by decide +kernel) (fun x i hi hx => bc_add hi hx)
theorem dig_any (o : GO y) (G : GC y g) (M : GM y g2) (hB : B < 2 ^ 20) (a : Int32) : ∀ (k i : Nat), i + k = dF y → ∀ r : Nat → Int32, RR y B r (nr g2 1) → ∃ r' n', (∀ m, k < m → sX4_digLeast_2 4 a m (setA g 19 r) (nI i) = some (setA g 19 r')) ∧ (∀ m, k < m → sX9_digAny_2 a m g2 (nI i) = some (nw g2 1 n')) ∧ RR y B r' n' := by
  have hF := o.2.1
  intro k
  induction k with
  | zero =>
    intro i hi r R
    refine ⟨r, nr g2 1, fun m hm => ?_, fun m hm => ?_, R⟩
    · obtain ⟨m, rfl⟩ : ∃ m', m = m' + 1 := ⟨m - 1, by omega⟩
      rw [sX4_digLeast_2, sX1_findCount, (GC_row G (by decide) r).2.1, if_pos (by rw [nI_leI (by omega) (by omega)]; omega)]
    · obtain ⟨m, rfl⟩ : ∃ m', m = m' + 1 := ⟨m - 1, by omega⟩
      rw [sX9_digAny_2, M.2.1, if_pos (by rw [nI_leI (by omega) (by omega)]; omega), nw_id]
  | succ k ih =>
    intro i hi r R
    have G' := GC_row G (show 18 ≤ 19 by decide) r
    obtain ⟨b, r1, n1, t1, t2, t3, t4, t5⟩ := tryDig_same (t := 4) (v := 1) o G' M (by decide) hB (show RR y B (setA g 19 r 19) (nr g2 1) by rw [setA_self]; exact R) a (nI i)
    have t1' : sX4_tryDig (setA g 19 r) 4 a (nI i) = some (b, setA g 19 r1) := by rw [t1]; congr 2; exact setA_setA g 19 r r1
    cases b with
    | true =>
      refine ⟨r1, n1, fun m hm => ?_, fun m hm => ?_, t5⟩
      · obtain ⟨m, rfl⟩ : ∃ m', m = m' + 1 := ⟨m - 1, by omega⟩
        rw [sX4_digLeast_2, sX1_findCount, G'.2.1, if_neg (by rw [nI_leI (by omega) (by omega)]; omega), t1', Option.bind_some, if_pos rfl]
      · obtain ⟨m, rfl⟩ : ∃ m', m = m' + 1 := ⟨m - 1, by omega⟩
        rw [sX9_digAny_2, M.2.1, if_neg (by rw [nI_leI (by omega) (by omega)]; omega), t2, Option.bind_some, if_pos rfl, t3 rfl, Option.bind_some]
    | false =>
      rw [t4 rfl] at t5
      obtain ⟨r', n', p1, p2, p3⟩ := ih (i + 1) (by omega) r1 t5
      refine ⟨r', n', fun m hm => ?_, fun m hm => ?_, p3⟩
      · obtain ⟨m, rfl⟩ : ∃ m', m = m' + 1 := ⟨m - 1, by omega⟩
        rw [sX4_digLeast_2, sX1_findCount, G'.2.1, if_neg (by rw [nI_leI (by omega) (by omega)]; omega), t1', Option.bind_some, if_neg Bool.false_ne_true, nI_add]
        exact p1 m (by omega)
      · obtain ⟨m, rfl⟩ : ∃ m', m = m' + 1 := ⟨m - 1, by omega⟩
        rw [sX9_digAny_2, M.2.1, if_neg (by rw [nI_leI (by omega) (by omega)]; omega), t2, Option.bind_some, if_neg Bool.false_ne_true, nI_add]
        exact p2 m (by omega)
/-- one step of the reference, behind the doing -/
def spT (v1 : Int32) (n : Nat) (H : Hg) (q : Int64) (v2 v3 : Int32) : Option (Int32 × Hg × Int64) := (sX9_ones (H 35 (Int32.toNatClampNeg (nI 59)))).bind fun x_3 => ((sX9_carriedOn H (nI 1)).bind fun x_4 => (sX9_springs_23 v1 n H q (v2 + (((H 29 2) - x_3) + x_4)) (v3 + (nI 1))))
theorem sp_step (v1 : Int32) (n : Nat) (q : Int64) (v2 v3 : Int32) (h : ¬ v1 ≤ v3) : sX9_springs_23 v1 (n + 1) g2 q v2 v3 = (if lot (q * 6364136223846793005 + 1442695040888963407) ≤ nI 19 then (if lot (q * 6364136223846793005 + 1442695040888963407) ≤ nI 15 then ((sX9_tryThing g2 (nI 1) (lot (q * 6364136223846793005 + 1442695040888963407) / (nI 4)) ((lot (q * 6364136223846793005 + 1442695040888963407) - lot (q * 6364136223846793005 + 1442695040888963407) / (nI 4) * (nI 4)) + (nI 1))).bind fun x_2 => spT v1 n x_2.2 (q * 6364136223846793005 + 1442695040888963407) v2 v3) else ((sX9_digAny g2 (lot (q * 6364136223846793005 + 1442695040888963407) - (nI 16))).bind fun x_5 => spT v1 n x_5 (q * 6364136223846793005 + 1442695040888963407) v2 v3)) else ((sX9_passOn g2 (nI 1)).bind fun x_8 => spT v1 n x_8.2 (q * 6364136223846793005 + 1442695040888963407) v2 v3)) := by
  rw [sX9_springs_23, if_neg h]
  rfl
theorem chance_same (o : GO y) (G : GC y g) (M : GM y g2) (hB : B + 1 < 2 ^ 20) (R : RR y B (g 19) (nr g2 1)) {q : Int64} {j : Nat} (hj : j < 28) (hl : lot (q * 6364136223846793005 + 1442695040888963407) = nI j) : ∃ g' h, sX8_doByChance g (nI j) = some g' ∧ (∀ v1 n v2 v3, ¬ v1 ≤ v3 → sX9_springs_23 v1 (n + 1) g2 q v2 v3 = spT v1 n h (q * 6364136223846793005 + 1442695040888963407) v2 v3) ∧ Scr g g' ∧ ScM g2 h ∧ RR y (B + 1) (g' 19) (nr h 1) := by
  have hF := o.2.1
  unfold sX8_doByChance
  by_cases h20 : 20 ≤ j
  · obtain ⟨cnt, r', n', t1, t2, t3⟩ := hour_same (t := 4) (v := 1) o G M (by decide) (by decide) hB R
    refine ⟨setA g 19 r', nw g2 1 n', ?_, fun v1 n v2 v3 h => ?_, Scr_19 _ _, ScM_nw, RR_tr o g g2 t3⟩
    · rw [if_pos (by rw [nI_leI (by omega) (by omega)]; omega), if_pos (by rw [nI_leI (by omega) (by omega)]; omega), t1, Option.bind_some]
    · rw [sp_step _ _ _ _ _ h, hl, if_neg (by rw [nI_leI (by omega) (by omega)]; omega), t2, Option.bind_some]
  · by_cases h16 : 16 ≤ j
    · obtain ⟨r', n', p1, p2, p3⟩ := dig_any o G M (show B < 2 ^ 20 by omega) (nI (j - 16)) (dF y) 0 (by omega) (g 19) R
      rw [setA_id] at p1
      refine ⟨setA g 19 r', nw g2 1 n', ?_, fun v1 n v2 v3 h => ?_, Scr_19 _ _, ScM_nw, RR_mono (RR_tr o g g2 p3) (by omega)⟩
      · unfold sX4_digLeast
        rw [if_pos (by rw [nI_leI (by omega) (by omega)]; omega), if_neg (by rw [nI_leI (by omega) (by omega)]; omega), pk_sub h16, p1 100 (by omega), Option.bind_some]
      · rw [sp_step _ _ _ _ _ h, hl, if_pos (by rw [nI_leI (by omega) (by omega)]; omega), if_neg (by rw [nI_leI (by omega) (by omega)]; omega), pk_sub h16]
        unfold sX9_digAny
        rw [p2 100 (by omega), Option.bind_some]
    · obtain ⟨b, r', n', t1, t2, t3, t4, t5⟩ := tryWalk_same (t := 4) (v := 1) o G M (by decide) (by omega) R (nI j / nI 4) ((nI j - nI j / (nI 4) * (nI 4)) + (nI 1))
      refine ⟨setA g 19 r', nw g2 1 n', ?_, fun v1 n v2 v3 h => ?_, Scr_19 _ _, ScM_nw, RR_mono (RR_tr o g g2 t5) (by omega)⟩
      · rw [if_neg (by rw [nI_leI (by omega) (by omega)]; omega), t1, Option.bind_some]
      · rw [sp_step _ _ _ _ _ h, hl, if_pos (by rw [nI_leI (by omega) (by omega)]; omega), if_pos (by rw [nI_leI (by omega) (by omega)]; omega)]
        unfold sX9_tryThing
        rw [if_neg (by decide), if_pos rfl, t2, Option.bind_some]
        cases b with
        | true => rw [if_pos rfl, t3 rfl, Option.bind_some, Option.bind_some]
        | false => rw [if_neg Bool.false_ne_true, Option.bind_some, t4 rfl, nw_id]
theorem springs_loop (o : GO y) {n : Nat} (hn : n ≤ 30) : ∀ (k i : Nat), i + k = n → ∀ (B : Nat) (g g2 : Hg) (q : Int64) (v : Int32), GC y g → GM y g2 → B + k + 1 < 2 ^ 20 → RR y B (g 19) (nr g2 1) → ∃ x g' h q', (∀ m, k < m → sX8_springs_28 (nI n) m g q v (nI i) = some (x, g', q')) ∧ (∀ m, k < m → sX9_springs_23 (nI n) m g2 q v (nI i) = some (x, h, q')) ∧ Scr g g' ∧ ScM g2 h := by
  have hF := o.2.1
  intro k
  induction k with
  | zero =>
    intro i hi B g g2 q v G M hB R
    refine ⟨v, g, g2, q, fun m hm => ?_, fun m hm => ?_, Scr_refl _, ScM_refl _⟩
    · obtain ⟨m, rfl⟩ : ∃ m', m = m' + 1 := ⟨m - 1, by omega⟩
      rw [sX8_springs_28, if_pos (by rw [nI_leI (by omega) (by omega)]; omega)]
    · obtain ⟨m, rfl⟩ : ∃ m', m = m' + 1 := ⟨m - 1, by omega⟩
      rw [sX9_springs_23, if_pos (by rw [nI_leI (by omega) (by omega)]; omega)]
  | succ k ih =>
    intro i hi B g g2 q v G M hB R
    obtain ⟨j, hj, hl⟩ := lot_nI (q * 6364136223846793005 + 1442695040888963407)
    obtain ⟨g', h, p1, p2, p3, p4, p5⟩ := chance_same o G M (by omega) R hj hl
    have G' := GC_scr G p3
    have M' := GM_scr M p4
    obtain ⟨d, c1, c2, c3⟩ := p5.2.2.2.1
    have hle : ¬ nI n ≤ nI i := by rw [nI_leI (by omega) (by omega)]; omega
    have hal : sX4_larksAlive g' 4 = nI (dL y) - sJ6_bitCount_0f7a4 (nI d) := by
      unfold sX4_larksAlive
      rw [sX1_larkCount, G'.2.2.1, nI_clamp (by decide), show g' (4 + 15) 24 = nI d from c2]
    have e59 : h 35 59 = nI d := c3
    obtain ⟨x, g'', h', q', r1, r2, r3, r4⟩ := ih (i + 1) (by omega) (B + 1) g' h (q * 6364136223846793005 + 1442695040888963407) (v + ((nI (dL y) - sJ6_bitCount_0f7a4 (nI d)) + sJ6_bitCount_0f7a4 (nI (bt (fun f => decide (nr h 1 (13 + f) = nI 1)) (dF y))))) G' M' (by omega) p5
    refine ⟨x, g'', h', q', fun m hm => ?_, fun m hm => ?_, Scr_trans p3 r3, ScM_trans p4 r4⟩
    · obtain ⟨m, rfl⟩ : ∃ m', m = m' + 1 := ⟨m - 1, by omega⟩
      rw [sX8_springs_28, if_neg hle]
      show (sX8_doByChance g (lot (q * 6364136223846793005 + 1442695040888963407))).bind _ = _
      rw [hl, p1, Option.bind_some, c_findsThat (t := 4) o G' p5, Option.bind_some, hal, nI_add]
      exact r1 m (by omega)
    · obtain ⟨m, rfl⟩ : ∃ m', m = m' + 1 := ⟨m - 1, by omega⟩
      rw [p2 _ _ _ _ hle]
      unfold spT
      rw [nI_clamp (by decide), e59, ones_bc (by omega), Option.bind_some, m_carriedOn o M', Option.bind_some, M'.2.2.1, nI_add]
      exact r2 m (by omega)
theorem op_springs (R : R0 y B g g2) (hB : B < 2 ^ 19) (q : Int64) (a : Int32) : ∃ x g' h q', sX8_springs g q a = some (x, g', q') ∧ sX9_springs g2 q a = some (x, h, q') ∧ Scr g g' ∧ ScM g2 h := by
  have R' := R
  obtain ⟨o, G, M, RR0⟩ := R'
  unfold sX8_springs sX9_springs
  rw [c_within a (by decide) (by decide), m_in a (lN 1) 30 1 30 rfl rfl]
  rcases wi_cases a 1 30 (by decide) with ⟨n, n1, n2, rfl, hw⟩ | hw
  · have hw' : wi (nI n) 1 30 = true := hw
    obtain ⟨g', h, p1, p2, p3, p4, p5⟩ := lay_same R
    obtain ⟨x, g'', h', q', q1, q2, q3, q4⟩ := springs_loop o n2 n 0 (by omega) B g' h q (nI 0) (GC_scr G p3) (GM_scr M p4) (by omega) p5
    refine ⟨x, g'', h', q', ?_, ?_, Scr_trans p3 q3, ScM_trans p4 q4⟩
    · rw [if_pos hw, p1, Option.bind_some]
      exact q1 100 (by omega)
    · rw [if_pos hw', p2, Option.bind_some]
      exact q2 100 (by omega)
  · have hw' : wi a 1 30 = false := hw
    exact ⟨-2, g, g2, q, by rw [if_neg (ntr hw)], by rw [if_neg (ntr hw')], Scr_refl _, ScM_refl _⟩
end Spr
