/-! ===== steps of sets ===== -/
theorem bt12 (p : Nat → Bool) : bt p 12 < 4096 := bt_lt p 12
theorem tb_hi {s k : Nat} (hs : s < 4096) (hk : 12 ≤ k) : s.testBit k = false := Nat.testBit_lt_two_pow (Nat.lt_of_lt_of_le hs (Nat.pow_le_pow_right (n := 2) (by decide) hk))
theorem eq_bt {s : Nat} {p : Nat → Bool} (hs : s < 4096) (h : ∀ k, k < 12 → s.testBit k = p k) : s = bt p 12 := by
  apply Nat.eq_of_testBit_eq
  intro k
  rw [bt_testBit]
  by_cases hk : k < 12
  · rw [h k hk, decide_eq_true hk, Bool.true_and]
  · rw [tb_hi hs (by omega), decide_eq_false hk, Bool.false_and]
def onw (y : Gd) (l s H : Nat) (wk : Bool) (k : Nat) : Bool := stnd y l k (H + 1) && (s.testBit k || (wk && stnd y l k H && adj s k))
def nx (y : Gd) (l s H : Nat) (wk : Bool) : Nat := bt (onw y l s H wk) 12
theorem nx_lt (y : Gd) (l s H : Nat) (wk : Bool) : nx y l s H wk < 4096 := bt12 _
/-- one cell's part, one way -/
def ctb (y : Gd) (l s H c w k : Nat) : Bool := s.testBit c && gtP c w k && (decide (w = 0) || stnd y l k H) && stnd y l k (H + 1)
theorem or_two {a t z : Nat} : (a ||| 2 ^ t).testBit z = (a.testBit z || decide (t = z)) := by
  rw [Nat.testBit_or, Nat.testBit_two_pow]
section Wa
variable {y : Gd} {B : Nat} {g g2 : Hg}
theorem c_stand (o : GO y) (G : GC y g) {l h : Nat} (hl : l < dL y) (hh : h < 2 ^ 30) : sX1_cellsToStandOn g (nI l) (nI h) = some (nI (bt (fun c => stnd y l c h) 12)) := by
  have hL := o.2.2.1
  have h2 := wat_le o h
  have h3 := o.2.2.2.2.2.2 l hl
  unfold sX1_cellsToStandOn
  rw [c_water o G hh, Option.bind_some, if_pos (c_isLark_ok o G hl), if_pos (inb_nI (by omega) (by decide)), nI_clamp (by omega), G.2.2.2.2.2.2 l hl]
  refine seqloop (fun m a i => sX1_cellsToStandOn_31 g (nI l) (nI h) (nI (wat y h) - nI (dB y l)) m a i) (fun i => nI (bt (fun c => stnd y l c h) i)) 12 _ (fun m => ?_) (fun m i hi => ?_) 100 (by decide)
  · show sX1_cellsToStandOn_31 _ _ _ _ _ _ _ = _
    rw [sX1_cellsToStandOn_31, if_pos (by decide)]
  · show sX1_cellsToStandOn_31 _ _ _ _ _ _ _ = sX1_cellsToStandOn_31 _ _ _ _ _ _ _
    have h1 := o.2.2.2.1 i hi
    have hlt : (nI (dH y i) < nI (wat y h) - nI (dB y l)) ↔ ¬ (wat y h ≤ dH y i + dB y l) := by
      rw [Int32.lt_iff_toInt_lt, pk_sub_toInt (by omega) (by omega), nI_toInt (by omega)]; omega
    rw [sX1_cellsToStandOn_31, if_neg (by rw [nI_leI (by omega) (by omega)]; omega), if_pos (inb_nI hi (by decide)), nI_clamp (by omega), G.2.2.2.1 i hi, nI_add]
    by_cases hw : wat y h ≤ dH y i + dB y l
    · rw [if_neg (fun q => hlt.mp q hw), or_bit (p := fun c => stnd y l c h) (by omega) (decide_eq_true hw)]
    · rw [if_pos (hlt.mpr hw), bt_skip (p := fun c => stnd y l c h) (decide_eq_false hw)]
theorem c_goals (o : GO y) (G : GC y g) {l w H i : Nat} (hl : l < dL y) (hw : w < 16) (h25 : g 18 25 = nI w) (h23 : g 18 23 = nI H) (hH : H + i < 2 ^ 30) : sX3_goals g (nI l) (nI i) = some (nI (bt (fun c => (decide (0 < i) || !(w.testBit l)) && stnd y l c (H + i)) 12)) := by
  unfold sX3_goals
  rw [c_walked (t := 3) o G hl hw h25, c_now, show g (3 + 15) 23 = nI H from h23, nI_add, c_stand o G hl hH, Option.bind_some]
  by_cases h0 : i = 0
  · subst h0
    rw [if_pos nI_0]
    cases w.testBit l with
    | true =>
      rw [if_pos rfl]
      congr 2
    | false =>
      rw [if_neg Bool.false_ne_true]
      congr 2
  · rw [if_neg (nI_ne0 (by omega) (by omega)), decide_eq_true (show 0 < i by omega)]
    congr 2
theorem c_behind (o : GO y) (G : GC y g) {l w H i s : Nat} (hl : l < dL y) (hw : w < 16) (h25 : g 18 25 = nI w) (h23 : g 18 23 = nI H) (hH : H + i < 2 ^ 29) (hs : s < 4096) : sX3_cellsBehindHour g (nI l) (nI s) (nI i) = some (nI (nx y l s (H + i) (decide (0 < i) || !(w.testBit l)))) := by
  unfold sX3_cellsBehindHour
  rw [c_goals o G hl hw h25 h23 (by omega), Option.bind_some, c_now, show g (3 + 15) 23 = nI H from h23, nI_add, nI_add, c_stand o G hl (by omega), Option.bind_some, nb_c hs, fa_and, fa_or, fa_and]
  congr 2
  unfold nx
  apply eq_bt
  · exact Nat.lt_of_le_of_lt Nat.and_le_right (bt12 _)
  · intro k hk
    rw [Nat.testBit_and, Nat.testBit_or, Nat.testBit_and, bt_testBit, bt_testBit, bt_testBit, decide_eq_true hk]
    unfold onw
    generalize (decide (0 < i) || !(w.testBit l)) = wk
    generalize stnd y l k (H + i + 1) = p1
    generalize stnd y l k (H + i) = p2
    generalize adj s k = p3
    generalize s.testBit k = p4
    cases wk <;> cases p1 <;> cases p2 <;> cases p3 <;> cases p4 <;> rfl
/-- the reference's inner loop -/
theorem on16 (o : GO y) (M : GM y g2) {l s H c : Nat} (hl : l < dL y) (hH : H < 2 ^ 29) (hs : s < 4096) (hc : c < 12) (wk : Bool) : ∀ (k i : Nat), i + k = (if wk = true then 5 else 1) → ∀ a, a < 4096 → ∃ a', a' < 4096 ∧ (∀ m, k < m → sX9_onward_16 g2 (nI l) (nI s) (nI H) (bI wk) (nI c) m (nI a) (nI i) = some (nI a', nI (if wk = true then 5 else 1))) ∧ ∀ z, z < 12 → (a'.testBit z = true ↔ a.testBit z = true ∨ ∃ w, i ≤ w ∧ w < (if wk = true then 5 else 1) ∧ ctb y l s H c w z = true) := by
  have hW : (if wk = true then 5 else 1) ≤ 5 := by split <;> omega
  have hend : ∀ a m, sX9_onward_16 g2 (nI l) (nI s) (nI H) (bI wk) (nI c) (m + 1) (nI a) (nI (if wk = true then 5 else 1)) = some (nI a, nI (if wk = true then 5 else 1)) := fun a m => by
    rw [sX9_onward_16]
    cases wk
    · rw [if_pos (by decide), if_neg Bool.false_ne_true, if_pos (by decide)]
    · rw [if_neg (by decide), if_pos rfl, if_pos (by decide)]
  -- one step, by what the way gives
  have hno : ∀ a m i, i < (if wk = true then 5 else 1) → (s.testBit c = false ∨ sX9_goneTo (nI c) (nI i) = -9) → sX9_onward_16 g2 (nI l) (nI s) (nI H) (bI wk) (nI c) (m + 1) (nI a) (nI i) = sX9_onward_16 g2 (nI l) (nI s) (nI H) (bI wk) (nI c) m (nI a) (nI (i + 1)) := fun a m i hi hcase => by
    rw [sX9_onward_16, m_has, has_nI (by omega) (by omega), or0, nI_add]
    cases wk
    · rw [if_pos (by decide), if_neg (by rw [nI_leI (by omega) (by omega)]; rw [if_neg Bool.false_ne_true] at hi; omega)]
      rcases hcase with h | h
      · rw [h, if_neg Bool.false_ne_true]
      · cases s.testBit c with
        | false => rw [if_neg Bool.false_ne_true]
        | true => rw [if_pos rfl, if_pos h]
    · rw [if_neg (by decide), if_neg (by rw [nI_leI (by omega) (by omega)]; rw [if_pos rfl] at hi; omega)]
      rcases hcase with h | h
      · rw [h, if_neg Bool.false_ne_true]
      · cases s.testBit c with
        | false => rw [if_neg Bool.false_ne_true]
        | true => rw [if_pos rfl, if_pos h]
  have hyes : ∀ a m i t, i < (if wk = true then 5 else 1) → s.testBit c = true → t < 12 → sX9_goneTo (nI c) (nI i) = nI t → sX9_onward_16 g2 (nI l) (nI s) (nI H) (bI wk) (nI c) (m + 1) (nI a) (nI i) = sX9_onward_16 g2 (nI l) (nI s) (nI H) (bI wk) (nI c) m (nI (if ((decide (i = 0) || stnd y l t H) && stnd y l t (H + 1)) = true then a ||| 2 ^ t else a)) (nI (i + 1)) := fun a m i t hi hsc ht hgo => by
    rw [sX9_onward_16, m_has, has_nI (by omega) (by omega), hsc, hgo, nI_add, nI_add, m_stands o M hl ht (by omega), m_stands o M hl ht (by omega), Option.bind_some, Option.bind_some, bit_nI (by omega), or0, or_nI]
    have inner : ∀ (X Y : Option (Int32 × Int32)), (if nI t = -9 then Y else (if nI i = 0 then (if stnd y l t (H + 1) = true then X else Y) else (if stnd y l t H = true then (if stnd y l t (H + 1) = true then X else Y) else Y))) = if ((decide (i = 0) || stnd y l t H) && stnd y l t (H + 1)) = true then X else Y := fun X Y => by
      rw [if_neg (m9_nI (by omega))]
      by_cases h0 : i = 0
      · subst h0
        rw [if_pos nI_0]
        cases stnd y l t (H + 1) <;> cases stnd y l t H <;> rfl
      · rw [if_neg (nI_ne0 (by omega) (by omega)), decide_eq_false h0]
        cases stnd y l t (H + 1) <;> cases stnd y l t H <;> rfl
    cases wk
    · rw [if_pos (by decide), if_neg (by rw [nI_leI (by omega) (by omega)]; rw [if_neg Bool.false_ne_true] at hi; omega), if_pos rfl, inner]
      split <;> rfl
    · rw [if_neg (by decide), if_neg (by rw [nI_leI (by omega) (by omega)]; rw [if_pos rfl] at hi; omega), if_pos rfl, inner]
      split <;> rfl
  intro k
  induction k with
  | zero =>
    intro i hi a ha
    refine ⟨a, ha, fun m hm => ?_, fun z hz => ⟨Or.inl, fun h => ?_⟩⟩
    · obtain ⟨m, rfl⟩ : ∃ m', m = m' + 1 := ⟨m - 1, by omega⟩
      have e : i = (if wk = true then 5 else 1) := by omega
      rw [e]; exact hend a m
    · rcases h with h | ⟨w, w1, w2, -⟩
      · exact h
      · omega
  | succ k ih =>
    intro i hi a ha
    have hiW : i < (if wk = true then 5 else 1) := by omega
    by_cases hcase : s.testBit c = false ∨ sX9_goneTo (nI c) (nI i) = -9
    · obtain ⟨a', p1, p2, p3⟩ := ih (i + 1) (by omega) a ha
      refine ⟨a', p1, fun m hm => ?_, fun z hz => ?_⟩
      · obtain ⟨m, rfl⟩ : ∃ m', m = m' + 1 := ⟨m - 1, by omega⟩
        rw [hno a m i hiW hcase]; exact p2 m (by omega)
      · rw [p3 z hz]
        have hno' : ctb y l s H c i z = false := by
          unfold ctb
          rcases hcase with h | h
          · rw [h]; rfl
          · have := gt_iff hc (show i < 5 by omega) hz
            rw [← this, h, decide_eq_false (nI_m9 (by omega)), Bool.and_false]; rfl
        constructor
        · rintro (h | ⟨w, w1, w2, w3⟩)
          · exact Or.inl h
          · exact Or.inr ⟨w, by omega, w2, w3⟩
        · rintro (h | ⟨w, w1, w2, w3⟩)
          · exact Or.inl h
          · by_cases e : w = i
            · subst e; rw [hno'] at w3; cases w3
            · exact Or.inr ⟨w, by omega, w2, w3⟩
    · have hsc : s.testBit c = true := by
        cases h : s.testBit c with
        | true => rfl
        | false => exact absurd (Or.inl h) hcase
      rcases gt_cases hc (show i < 5 by omega) with h9 | ⟨t, ht, hgo⟩
      · exact absurd (Or.inr h9) hcase
      · have hpt : (2 : Nat) ^ t < 2 ^ 12 := Nat.pow_lt_pow_right (by decide) ht
        have ha2 : (if ((decide (i = 0) || stnd y l t H) && stnd y l t (H + 1)) = true then a ||| 2 ^ t else a) < 4096 := by
          split
          · exact Nat.or_lt_two_pow (n := 12) ha hpt
          · exact ha
        obtain ⟨a', p1, p2, p3⟩ := ih (i + 1) (by omega) _ ha2
        refine ⟨a', p1, fun m hm => ?_, fun z hz => ?_⟩
        · obtain ⟨m, rfl⟩ : ∃ m', m = m' + 1 := ⟨m - 1, by omega⟩
          rw [hyes a m i t hiW hsc ht hgo]; exact p2 m (by omega)
        · rw [p3 z hz]
          have hg := gt_iff hc (show i < 5 by omega) hz
          rw [hgo] at hg
          have hct : ctb y l s H c i z = (decide (nI t = nI z) && (decide (i = 0) || stnd y l z H) && stnd y l z (H + 1)) := by
            unfold ctb; rw [hsc, ← hg, Bool.true_and]
          have hbit : (if ((decide (i = 0) || stnd y l t H) && stnd y l t (H + 1)) = true then a ||| 2 ^ t else a).testBit z = true ↔ (a.testBit z = true ∨ ctb y l s H c i z = true) := by
            rw [hct]
            by_cases hz' : t = z
            · subst hz'
              rw [decide_eq_true rfl, Bool.true_and]
              cases hq : ((decide (i = 0) || stnd y l t H) && stnd y l t (H + 1)) with
              | true => rw [if_pos rfl, or_two]; simp
              | false => rw [if_neg Bool.false_ne_true]; simp
            · rw [decide_eq_false (fun q => hz' ((nI_eq (by omega) (by omega)).mp q)), Bool.false_and, Bool.false_and]
              split
              · rw [or_two, decide_eq_false hz']; simp
              · simp
          rw [hbit]
          constructor
          · rintro ((h | h) | ⟨w, w1, w2, w3⟩)
            · exact Or.inl h
            · exact Or.inr ⟨i, Nat.le_refl _, hiW, h⟩
            · exact Or.inr ⟨w, by omega, w2, w3⟩
          · rintro (h | ⟨w, w1, w2, w3⟩)
            · exact Or.inl (Or.inl h)
            · by_cases e : w = i
              · subst e; exact Or.inl (Or.inr w3)
              · exact Or.inr ⟨w, by omega, w2, w3⟩
theorem on6 (o : GO y) (M : GM y g2) {l s H : Nat} (hl : l < dL y) (hH : H < 2 ^ 29) (hs : s < 4096) (wk : Bool) : ∀ (k i : Nat), i + k = 12 → ∀ a, a < 4096 → ∃ a', a' < 4096 ∧ (∀ m, k < m → sX9_onward_6 g2 (nI l) (nI s) (nI H) (bI wk) m (nI a) (nI i) = some (nI a')) ∧ ∀ z, z < 12 → (a'.testBit z = true ↔ a.testBit z = true ∨ ∃ c w, i ≤ c ∧ c < 12 ∧ w < (if wk = true then 5 else 1) ∧ ctb y l s H c w z = true) := by
  intro k
  induction k with
  | zero =>
    intro i hi a ha
    refine ⟨a, ha, fun m hm => ?_, fun z hz => ⟨Or.inl, fun h => ?_⟩⟩
    · obtain ⟨m, rfl⟩ : ∃ m', m = m' + 1 := ⟨m - 1, by omega⟩
      rw [sX9_onward_6, if_pos (by rw [nI_leI (by omega) (by omega)]; omega)]
    · rcases h with h | ⟨c, w, w1, w2, -⟩
      · exact h
      · omega
  | succ k ih =>
    intro i hi a ha
    obtain ⟨a1, q1, q2, q3⟩ := on16 o M hl hH hs (show i < 12 by omega) wk (if wk = true then 5 else 1) 0 (by omega) a ha
    obtain ⟨a', p1, p2, p3⟩ := ih (i + 1) (by omega) a1 q1
    refine ⟨a', p1, fun m hm => ?_, fun z hz => ?_⟩
    · obtain ⟨m, rfl⟩ : ∃ m', m = m' + 1 := ⟨m - 1, by omega⟩
      rw [sX9_onward_6, if_neg (by rw [nI_leI (by omega) (by omega)]; omega), q2 100 (by split <;> omega), Option.bind_some, nI_add]
      exact p2 m (by omega)
    · rw [p3 z hz, q3 z hz]
      constructor
      · rintro ((h | ⟨w, -, w2, w3⟩) | ⟨c, w, c1, c2, w2, w3⟩)
        · exact Or.inl h
        · exact Or.inr ⟨i, w, Nat.le_refl _, by omega, w2, w3⟩
        · exact Or.inr ⟨c, w, by omega, c2, w2, w3⟩
      · rintro (h | ⟨c, w, c1, c2, w2, w3⟩)
        · exact Or.inl (Or.inl h)
        · by_cases e : c = i
          · subst e; exact Or.inl (Or.inr ⟨w, by omega, w2, w3⟩)
          · exact Or.inr ⟨c, w, by omega, c2, w2, w3⟩
end Wa
