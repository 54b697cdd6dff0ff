/-! ===== the calls that read ===== -/
section Ops
variable {y : Gd} {B : Nat} {g g2 : Hg}
theorem op_cell (R : R0 y B g g2) (hB : B < 2 ^ 19) (a b : Int32) : ∃ x, sX8_cell g a b = some x ∧ sX9_cell g2 a b = some x := by
  obtain ⟨o, G, M, RR0⟩ := R
  obtain ⟨H, b1, b2, b3⟩ := RR0.2.2.1
  unfold sX8_cell sX9_cell
  rw [c_within a (by decide) (by decide)]
  rcases wi_cases a 0 11 (by decide) with ⟨c, -, c2, rfl, hw⟩ | hw
  · have hc : c < 12 := by omega
    rw [if_pos hw, if_pos (cell_ok hc), c_height G hc, Option.bind_some, if_pos (inb_nI hc (by decide)), nI_clamp (by omega), M.2.2.2.1 c hc, c_now, b2, c_isBared o G hc (by omega), Option.bind_some, nI_clamp (by decide), nr0 g2, b3, m_isBare o M hc (by omega), Option.bind_some, c_lying (t := 3) o G RR0 (by omega), Option.bind_some, m_lying (v := 0) o M (by decide) c, Option.bind_some, c_larksAt (t := 3) o G RR0, Option.bind_some, m_larksAt o M, Option.bind_some]
    repeat' split
    all_goals exact ⟨_, rfl, rfl⟩
  · rw [if_neg (ntr hw), if_neg (ntr (cell_no hw))]
    exact ⟨_, rfl, rfl⟩
theorem op_find (R : R0 y B g g2) (hB : B < 2 ^ 19) (a b : Int32) : ∃ x, sX8_find g a b = some x ∧ sX9_find g2 a b = some x := by
  obtain ⟨o, G, M, RR0⟩ := R
  have hF := o.2.1
  obtain ⟨sb, s1, s2, s3⟩ := RR0.2.2.2.2.2
  unfold sX8_find sX9_find
  rcases ix_cases a (dF y) with ⟨f, hf, -, rfl⟩ | hbad
  · have e8 : (if nr g2 0 (13 + f) = 0 then some (nr g2 0 (8 + f)) else some (-9)) = some (g 18 (8 + f)) := by
      rcases s3 f hf with ⟨a1, ⟨c, -, z2, z3⟩, -, -⟩ | ⟨a1, a2, -⟩ | ⟨a1, a2, -⟩
      · rw [a1, if_pos (by decide), z2, z3]
      · rw [if_neg (by rw [a1]; decide), a2]
      · rw [if_neg (by rw [a1]; decide), a2]
    have e13 : (if nr g2 0 (13 + f) = 0 then some (-9) else some (nr g2 0 (18 + f))) = some (g 18 (13 + f)) := by
      rcases s3 f hf with ⟨a1, -, a3, -⟩ | ⟨a1, -, ⟨l, -, z2, z3⟩, -⟩ | ⟨a1, -, ⟨l, -, z2, z3⟩, -⟩
      · rw [a1, if_pos (by decide), a3]
      · rw [if_neg (by rw [a1]; decide), z2, z3]
      · rw [if_neg (by rw [a1]; decide), z2, z3]
    rw [if_pos (c_isFind_ok o G hf), if_pos (m_isFind_ok o M hf), c_cellOfFind (t := 3) o G hf, Option.bind_some, c_age o G hf, Option.bind_some, c_kind o G hf, Option.bind_some, c_state (t := 3) o G RR0 hf, Option.bind_some, c_holder (t := 3) o G hf, Option.bind_some]
    simp only [nI_add]
    rw [if_pos (inb_nI (by omega) (by decide)), if_pos (inb_nI (by omega) (by decide)), if_pos (inb_nI (by omega) (by decide)), if_pos (inb_nI (by omega) (by decide)), if_pos (inb_nI (by omega) (by decide)), nI_clamp (by omega), nI_clamp (by omega), nI_clamp (by omega), nI_clamp (by omega), nr0 g2, nr0 g2, nr0 g2, (M.2.2.2.2.2.1 f hf).1, (M.2.2.2.2.2.1 f hf).2, e8, if_pos (inb_nI (n := 62) (i := 13 + f) (by omega) (by decide)), if_pos (inb_nI (n := 62) (i := 18 + f) (by omega) (by decide)), e13]
    repeat' split
    all_goals exact ⟨_, rfl, rfl⟩
  · rw [if_neg (ntr (c_isFind_no o G hbad)), if_neg (ntr (m_isFind_no o M hbad))]
    exact ⟨_, rfl, rfl⟩
theorem sh_bit {d l : Nat} (hd : d < 2 ^ 31) (hl : l < 31) : (nI d >>> (nI l &&& 31)) &&& nI 1 = (if d.testBit l = true then nI 1 else nI 0) := by
  rw [shr_nI hd hl]
  have hlt : d / 2 ^ l < 2 ^ 32 := Nat.lt_of_le_of_lt (Nat.div_le_self _ _) (by omega)
  rw [pk_andN hlt 1 rfl, Nat.testBit_eq_decide_div_mod_eq]
  have h2 : d / 2 ^ l % 2 < 2 := Nat.mod_lt _ (by decide)
  have h3 : d / 2 ^ l % 2 ^ 1 = d / 2 ^ l % 2 := by rw [Nat.pow_one]
  rw [h3]
  generalize d / 2 ^ l % 2 = z at h2
  have hz : z = 0 ∨ z = 1 := by omega
  rcases hz with rfl | rfl <;> decide
theorem op_lark (R : R0 y B g g2) (hB : B < 2 ^ 19) (a b : Int32) : ∃ x, sX8_lark g a b = some x ∧ sX9_lark g2 a b = some x := by
  obtain ⟨o, G, M, RR0⟩ := R
  have hL := o.2.2.1
  obtain ⟨d, c1, c2, c3⟩ := RR0.2.2.2.1
  obtain ⟨w, d1, d2, d3⟩ := RR0.2.2.2.2.1
  unfold sX8_lark sX9_lark
  rcases ix_cases a (dL y) with ⟨l, hl, -, rfl⟩ | hbad
  · obtain ⟨⟨c, e1, e2, e3⟩, e4⟩ := RR0.1 l hl
    rw [if_pos (c_isLark_ok o G hl), if_pos (m_isLark_ok o M hl), c_cellOfLark (t := 3) o G hl, Option.bind_some, c_board o G hl, Option.bind_some, c_coins (t := 3) o G hl, Option.bind_some, c_carriedBy (t := 3) o RR0 hl, Option.bind_some, m_carriedBy (v := 0) o M (by decide), Option.bind_some, c_drown (t := 3) o G hl c1 c2, c_walked (t := 3) o G hl d1 d2]
    simp only [nI_add]
    rw [if_pos (inb_nI (by omega) (by decide)), if_pos (inb_nI (by omega) (by decide)), if_pos (inb_nI (by omega) (by decide)), nI_clamp (by omega), nI_clamp (by omega), nI_clamp (by omega), nI_clamp (by omega), nr0 g2, nr0 g2, nr0 g2, nr0 g2, c3, d3, sh_bit (by omega) (by omega), sh_bit (by omega) (by omega), M.2.2.2.2.2.2 l hl, ← e4, e3, show g (3 + 15) l = nI c from e2]
    repeat' split
    all_goals exact ⟨_, rfl, rfl⟩
  · rw [if_neg (ntr (c_isLark_no o G hbad)), if_neg (ntr (m_isLark_no o M hbad))]
    exact ⟨_, rfl, rfl⟩
theorem op_bared (R : R0 y B g g2) (hB : B < 2 ^ 19) (a : Int32) : ∃ x, sX8_bared g a = some x ∧ sX9_bared g2 a = some x := by
  obtain ⟨o, G, M, RR0⟩ := R
  obtain ⟨H, b1, b2, b3⟩ := RR0.2.2.1
  unfold sX8_bared sX9_bared
  rw [c_within a (by decide) (by decide), m_in a (lN 0) 20 0 20 rfl rfl]
  rcases wi_cases a 0 20 (by decide) with ⟨c, -, c2, rfl, hw⟩ | hw
  · have hw' : wi (nI c) 0 20 = true := hw
    rw [if_pos hw, if_pos hw', c_now, b2, nI_clamp (by decide), nr0 g2, b3, nI_add, c_baredCells o G (by omega), m_baredIn o M (by omega)]
    exact ⟨_, rfl, rfl⟩
  · have hw' : wi a 0 20 = false := hw
    rw [if_neg (ntr hw), if_neg (ntr hw')]
    exact ⟨_, rfl, rfl⟩
theorem flooded_loop (o : GO y) (G : GC y g) (M : GM y g2) {H c : Nat} (hH : H < 2 ^ 20) (hc : c < 12) (b2 : g 18 23 = nI H) (b3 : nr g2 0 30 = nI H) : ∀ (k i : Nat), i + k = 21 → ∃ x, (∀ m, k < m → sX8_flooded_14 g (nI c) m (nI i) = some x) ∧ (∀ m, k < m → sX9_flooded_11 g2 (nI c) m (nI i) = some x) := by
  intro k
  induction k with
  | zero =>
    intro i hi
    refine ⟨-9, fun m hm => ?_, fun m hm => ?_⟩
    · obtain ⟨m, rfl⟩ : ∃ m', m = m' + 1 := ⟨m - 1, by omega⟩
      rw [sX8_flooded_14, if_pos (by rw [nI_ltI (by omega) (by omega)]; omega)]
    · obtain ⟨m, rfl⟩ : ∃ m', m = m' + 1 := ⟨m - 1, by omega⟩
      rw [sX9_flooded_11, if_pos (by rw [nI_leI (by omega) (by omega)]; omega)]
  | succ k ih =>
    intro i hi
    obtain ⟨x, p1, p2⟩ := ih (i + 1) (by omega)
    cases hb : bare y c (H + i) with
    | true =>
      refine ⟨x, fun m hm => ?_, fun m hm => ?_⟩
      · obtain ⟨m, rfl⟩ : ∃ m', m = m' + 1 := ⟨m - 1, by omega⟩
        rw [sX8_flooded_14, if_neg (by rw [nI_ltI (by omega) (by omega)]; omega), c_now, b2, nI_add, c_isBared o G hc (by omega), Option.bind_some, hb, if_pos rfl, nI_add]
        exact p1 m (by omega)
      · obtain ⟨m, rfl⟩ : ∃ m', m = m' + 1 := ⟨m - 1, by omega⟩
        rw [sX9_flooded_11, if_neg (by rw [nI_leI (by omega) (by omega)]; omega), nI_clamp (by decide), nr0 g2, b3, nI_add, m_isBare o M hc (by omega), Option.bind_some, hb, if_pos rfl, nI_add]
        exact p2 m (by omega)
    | false =>
      refine ⟨nI i, fun m hm => ?_, fun m hm => ?_⟩
      · obtain ⟨m, rfl⟩ : ∃ m', m = m' + 1 := ⟨m - 1, by omega⟩
        rw [sX8_flooded_14, if_neg (by rw [nI_ltI (by omega) (by omega)]; omega), c_now, b2, nI_add, c_isBared o G hc (by omega), Option.bind_some, hb, if_neg Bool.false_ne_true]
      · obtain ⟨m, rfl⟩ : ∃ m', m = m' + 1 := ⟨m - 1, by omega⟩
        rw [sX9_flooded_11, if_neg (by rw [nI_leI (by omega) (by omega)]; omega), nI_clamp (by decide), nr0 g2, b3, nI_add, m_isBare o M hc (by omega), Option.bind_some, hb, if_neg Bool.false_ne_true]
theorem op_flooded (R : R0 y B g g2) (hB : B < 2 ^ 19) (a : Int32) : ∃ x, sX8_flooded g a = some x ∧ sX9_flooded g2 a = some x := by
  obtain ⟨o, G, M, RR0⟩ := R
  obtain ⟨H, b1, b2, b3⟩ := RR0.2.2.1
  unfold sX8_flooded sX9_flooded
  rw [c_within a (by decide) (by decide)]
  rcases wi_cases a 0 11 (by decide) with ⟨c, -, c2, rfl, hw⟩ | hw
  · have hc : c < 12 := by omega
    obtain ⟨x, p1, p2⟩ := flooded_loop o G M (show H < 2 ^ 20 by omega) hc b2 b3 21 0 rfl
    exact ⟨x, by rw [if_pos hw, p1 100 (by decide)], by rw [if_pos (cell_ok hc), p2 100 (by decide)]⟩
  · rw [if_neg (ntr hw), if_neg (ntr (cell_no hw))]
    exact ⟨_, rfl, rfl⟩
theorem op_count (R : RA y B g g2) (hB : B < 2 ^ 19) (a : Int32) : ∃ x, sX8_count g a = some x ∧ sX9_count g2 a = some x := by
  obtain ⟨⟨o, G, M, RR0⟩, ⟨tn, t1, t2, t3, -⟩, ⟨ak, ax, -, -, a3, a4, -⟩, -, ⟨sn, s1, s2, s3, -⟩⟩ := R
  obtain ⟨H, b1, b2, b3⟩ := RR0.2.2.1
  obtain ⟨d, c1, c2, c3⟩ := RR0.2.2.2.1
  unfold sX8_count sX9_count
  rw [c_within a (by decide) (by decide)]
  rcases wi_cases a 0 12 (by decide) with ⟨c, -, c2', rfl, hw⟩ | hw
  · have hs : ∀ k, c = k → 6 ≤ k → k < 13 → nI c - nI 6 = nI (k - 6) := fun k hk h6 _ => by rw [hk, pk_sub h6]
    rw [if_pos hw, sX7_length, sX1_tideCount, sX1_findCount, sX1_larkCount, c_now, sX4_drowned, sX0_size, sX5_size, t2, t3, G.1, G.2.1, G.2.2.1, M.1, M.2.1, M.2.2.1, nI_clamp (by decide), nI_clamp (by decide), nI_clamp (by decide), nr0 g2, nr0 g2, b2, b3, c3, show g (3 + 15) 24 = nI d from c2, a3, a4, s2, s3, c_water o G (by omega), m_water o M (by omega), c_findsThat (t := 3) o G RR0, c_findsThat (t := 3) o G RR0, c_findsThat (t := 3) o G RR0, m_findsThat o M, c_coinsOfAll (t := 3) o G RR0, m_coinsOfAll o M]
    simp only [Option.bind_some]
    have hc13 : c = 0 ∨ c = 1 ∨ c = 2 ∨ c = 3 ∨ c = 4 ∨ c = 5 ∨ c = 6 ∨ c = 7 ∨ c = 8 ∨ c = 9 ∨ c = 10 ∨ c = 11 ∨ c = 12 := by omega
    rcases hc13 with rfl | rfl | rfl | rfl | rfl | rfl | rfl | rfl | rfl | rfl | rfl | rfl | rfl
    all_goals simp (config := { decide := true }) only [if_true, if_false]
    all_goals exact ⟨_, rfl, rfl⟩
  · have hne : ∀ k, k ≤ 12 → ¬ a = nI k := fun k hk e => by
      subst e
      have := wi_nI (k := k) (lo := 0) (hi := 12) (by omega) (by omega) hk
      rw [this] at hw
      cases hw
    rw [if_neg (ntr hw)]
    simp only [if_neg (hne 0 (by decide)), if_neg (hne 1 (by decide)), if_neg (hne 2 (by decide)), if_neg (hne 3 (by decide)), if_neg (hne 4 (by decide)), if_neg (hne 5 (by decide)), if_neg (hne 6 (by decide)), if_neg (hne 7 (by decide)), if_neg (hne 8 (by decide)), if_neg (hne 9 (by decide)), if_neg (hne 10 (by decide)), if_neg (hne 11 (by decide)), if_neg (hne 12 (by decide))]
    exact ⟨_, rfl, rfl⟩
end Ops
