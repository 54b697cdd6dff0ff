/-! ===== where one can be; how soon home ===== -/
def nbr (c k : Nat) : Prop := (k + 1 = c ∧ 0 < c % 4) ∨ (k = c + 1 ∧ c % 4 < 3) ∨ k + 4 = c ∨ k = c + 4
theorem nbr_sym {c k : Nat} (h : nbr c k) : nbr k c := by unfold nbr at *; omega
theorem adj_iff {s k : Nat} (hk : k < 12) : adj s k = true ↔ ∃ c, c < 12 ∧ nbr c k ∧ s.testBit c = true := by
  unfold adj nbr
  simp only [Bool.or_eq_true, Bool.and_eq_true, decide_eq_true_eq]
  constructor
  · rintro (((⟨h1, h2⟩ | ⟨h1, h2⟩) | ⟨h1, h2⟩) | ⟨h1, h2⟩)
    · exact ⟨k - 1, by omega, by omega, h2⟩
    · exact ⟨k + 1, by omega, by omega, h2⟩
    · exact ⟨k - 4, by omega, by omega, h2⟩
    · exact ⟨k + 4, by omega, by omega, h2⟩
  · rintro ⟨c, hc, h | h | h | h, h2⟩
    · have e : c = k + 1 := by omega
      subst e
      exact Or.inl (Or.inl (Or.inr ⟨by omega, h2⟩))
    · have e : c = k - 1 := by omega
      subst e
      exact Or.inl (Or.inl (Or.inl ⟨by omega, h2⟩))
    · have e : c = k + 4 := by omega
      subst e
      exact Or.inr ⟨by omega, h2⟩
    · have e : c = k - 4 := by omega
      subst e
      exact Or.inl (Or.inr ⟨by omega, h2⟩)
theorem gtP_0 {c k : Nat} : gtP c 0 k = true ↔ c = k := by
  unfold gtP; simp
theorem gtP_nb {c k w : Nat} (hw : 1 ≤ w) (h : gtP c w k = true) : nbr c k := by
  unfold gtP at h
  simp only [Bool.or_eq_true, Bool.and_eq_true, decide_eq_true_eq] at h
  unfold nbr
  omega
theorem nb_gtP {c k : Nat} (hc : c < 12) (hk : k < 12) (h : nbr c k) : ∃ w, 1 ≤ w ∧ w < 5 ∧ gtP c w k = true := by
  unfold nbr at h
  unfold gtP
  simp only [Bool.or_eq_true, Bool.and_eq_true, decide_eq_true_eq]
  rcases h with h | h | h | h
  · exact ⟨1, by omega, by omega, by omega⟩
  · exact ⟨2, by omega, by omega, by omega⟩
  · exact ⟨3, by omega, by omega, by omega⟩
  · exact ⟨4, by omega, by omega, by omega⟩
theorem onw_iff {y : Gd} {l s H k : Nat} {wk : Bool} (hk : k < 12) : onw y l s H wk k = true ↔ stnd y l k (H + 1) = true ∧ (s.testBit k = true ∨ (wk = true ∧ stnd y l k H = true ∧ ∃ c, c < 12 ∧ nbr c k ∧ s.testBit c = true)) := by
  unfold onw
  rw [← adj_iff hk]
  simp only [Bool.or_eq_true, Bool.and_eq_true, and_assoc]
section Wb
variable {y : Gd} {B : Nat} {g g2 : Hg}
theorem m_onward (o : GO y) (M : GM y g2) {l s H : Nat} (hl : l < dL y) (hH : H < 2 ^ 29) (hs : s < 4096) (wk : Bool) : sX9_onward g2 (nI l) (nI s) (nI H) (bI wk) = some (nI (nx y l s H wk)) := by
  obtain ⟨a', p1, p2, p3⟩ := on6 o M hl hH hs wk 12 0 rfl 0 (by decide)
  unfold sX9_onward
  rw [p2 100 (by decide)]
  congr 2
  unfold nx
  refine eq_bt p1 (fun k hk => ?_)
  rw [Bool.eq_iff_iff, p3 k hk, onw_iff hk]
  unfold ctb
  simp only [Bool.or_eq_true, Bool.and_eq_true, decide_eq_true_eq]
  constructor
  · rintro (h | ⟨c, w, -, c2, w2, ⟨⟨h1, h2⟩, h3⟩, h4⟩)
    · rw [Nat.zero_testBit] at h; cases h
    · refine ⟨h4, ?_⟩
      by_cases w0 : w = 0
      · subst w0
        rw [gtP_0] at h2
        subst h2
        exact Or.inl h1
      · right
        have hwk : wk = true := by
          cases wk with
          | true => rfl
          | false => rw [if_neg Bool.false_ne_true] at w2; omega
        exact ⟨hwk, h3.resolve_left w0, c, c2, gtP_nb (by omega) h2, h1⟩
  · rintro ⟨h4, h | ⟨hwk, h3, c, hc, hn, h1⟩⟩
    · exact Or.inr ⟨k, 0, by omega, hk, by split <;> omega, ⟨⟨h, gtP_0.mpr rfl⟩, Or.inl rfl⟩, h4⟩
    · obtain ⟨w, w1, w2, w3⟩ := nb_gtP hc hk hn
      exact Or.inr ⟨c, w, by omega, hc, by rw [if_pos hwk]; exact w2, ⟨⟨h1, w3⟩, Or.inr h3⟩, h4⟩
theorem m_on3 {α : Type} (o : GO y) (M : GM y g2) {l s H i w : Nat} (hl : l < dL y) (hH : H + i < 2 ^ 29) (hs : s < 4096) (hw : w < 16) (F : Int32 → Option α) : (if 0 < nI i then ((sX9_onward g2 (nI l) (nI s) (nI (H + i)) (nI 1)).bind F) else (if (sX9_has (nI w) (nI l)) = true then ((sX9_onward g2 (nI l) (nI s) (nI (H + i)) (nI 0)).bind F) else ((sX9_onward g2 (nI l) (nI s) (nI (H + i)) (nI 1)).bind F))) = F (nI (nx y l s (H + i) (decide (0 < i) || !(w.testBit l)))) := by
  have hL := o.2.2.1
  have m1 : sX9_onward g2 (nI l) (nI s) (nI (H + i)) (nI 1) = _ := m_onward o M hl hH hs true
  have m0 : sX9_onward g2 (nI l) (nI s) (nI (H + i)) (nI 0) = _ := m_onward o M hl hH hs false
  rw [m1, m0, Option.bind_some, Option.bind_some, m_has, has_nI (by omega) (by omega)]
  by_cases h0 : i = 0
  · subst h0
    rw [if_neg (by decide)]
    cases w.testBit l with
    | true => rw [if_pos rfl]; rfl
    | false => rw [if_neg Bool.false_ne_true]; rfl
  · rw [if_pos (by rw [show (0 : Int32) = nI 0 from rfl, nI_ltI (by omega) (by omega)]; omega), decide_eq_true (show 0 < i by omega), Bool.true_or]
theorem reach_loop (o : GO y) (G : GC y g) (M : GM y g2) {l w H n : Nat} (hl : l < dL y) (hw : w < 16) (h25 : g 18 25 = nI w) (h23 : g 18 23 = nI H) (m29 : nr g2 0 29 = nI w) (m30 : nr g2 0 30 = nI H) (hH : H < 2 ^ 28) (hn : n ≤ 9) : ∀ (k i : Nat), i + k = n → ∀ s, s < 4096 → ∃ x, (∀ m, k < m → sX3_cellsIn_15 g (nI l) (nI n) m (nI s) (nI i) = some x) ∧ (∀ v2 m, k < m → sX9_reachFrom_6 g2 (nI l) v2 (nI 0) (nI n) m (nI s) (nI i) = some x) := by
  intro k
  induction k with
  | zero =>
    intro i hi s hs
    refine ⟨nI s, fun m hm => ?_, fun v2 m hm => ?_⟩
    · obtain ⟨m, rfl⟩ : ∃ m', m = m' + 1 := ⟨m - 1, by omega⟩
      rw [sX3_cellsIn_15, if_pos (by rw [nI_leI (by omega) (by omega)]; omega)]
    · obtain ⟨m, rfl⟩ : ∃ m', m = m' + 1 := ⟨m - 1, by omega⟩
      rw [sX9_reachFrom_6, nI_add, if_pos (by rw [nI_leI (by omega) (by omega)]; omega)]
  | succ k ih =>
    intro i hi s hs
    obtain ⟨x, p1, p2⟩ := ih (i + 1) (by omega) _ (nx_lt y l s (H + i) (decide (0 < i) || !(w.testBit l)))
    refine ⟨x, fun m hm => ?_, fun v2 m hm => ?_⟩
    · obtain ⟨m, rfl⟩ : ∃ m', m = m' + 1 := ⟨m - 1, by omega⟩
      rw [sX3_cellsIn_15, if_neg (by rw [nI_leI (by omega) (by omega)]; omega), c_behind o G hl hw h25 h23 (by omega) hs, Option.bind_some, nI_add]
      exact p1 m (by omega)
    · obtain ⟨m, rfl⟩ : ∃ m', m = m' + 1 := ⟨m - 1, by omega⟩
      rw [sX9_reachFrom_6, nI_add 0 n, if_neg (by rw [nI_leI (by omega) (by omega)]; omega), nI_clamp (by decide), nI_clamp (by decide), nr0 g2, nr0 g2, m29, m30, nI_add, nI_add]
      rw [m_on3 o M hl (by omega) hs hw (fun x => sX9_reachFrom_6 g2 (nI l) v2 (nI 0) (nI n) m x (nI (i + 1)))]
      exact p2 v2 m (by omega)
theorem op_reach (R : R0 y B g g2) (hB : B < 2 ^ 19) (a b : Int32) : ∃ x, sX8_reach g a b = some x ∧ sX9_reach g2 a b = some x := by
  obtain ⟨o, G, M, RR0⟩ := R
  have hL := o.2.2.1
  obtain ⟨d, c1, c2, c3⟩ := RR0.2.2.2.1
  obtain ⟨w, d1, d2, d3⟩ := RR0.2.2.2.2.1
  obtain ⟨H, b1, b2, b3⟩ := RR0.2.2.1
  unfold sX8_reach sX9_reach
  rcases ix_cases a (dL y) with ⟨l, hl, -, rfl⟩ | hbad
  · obtain ⟨⟨c, e1, e2, e3⟩, -⟩ := RR0.1 l hl
    rw [if_pos (c_isLark_ok o G hl), if_pos (m_isLark_ok o M hl), c_within b (by decide) (by decide), m_in b (lN 0) 9 0 9 rfl rfl, c_drown (t := 3) o G hl c1 c2, nI_clamp (by decide), nr0 g2 28, c3, m_has, has_nI (by omega) (by omega)]
    rcases wi_cases b 0 9 (by decide) with ⟨n, -, n2, rfl, hw⟩ | hw
    · have hw' : wi (nI n) 0 9 = true := hw
      rw [if_pos hw, if_pos hw']
      cases hd : d.testBit l with
      | true => exact ⟨-3, by rw [if_pos rfl], by rw [if_pos rfl]⟩
      | false =>
        have hpt : (2 : Nat) ^ c < 2 ^ 12 := Nat.pow_lt_pow_right (by decide) e1
        obtain ⟨x, p1, p2⟩ := reach_loop o G M hl d1 d2 b2 d3 b3 (by omega) n2 n 0 (by omega) (2 ^ c) hpt
        refine ⟨x, ?_, ?_⟩
        · unfold sX3_cellsIn sX8_bit
          rw [if_neg Bool.false_ne_true, c_cellOfLark (t := 3) o G hl, Option.bind_some, show g (3 + 15) l = nI c from e2, bit_nI (by omega), p1 100 (by omega), Option.bind_some]
        · unfold sX9_reachFrom
          rw [if_neg Bool.false_ne_true, if_pos (inb_nI (by omega) (by decide)), nI_clamp (by omega), nr0 g2 l, e3, bit_nI (by omega), p2 _ 100 (by omega), Option.bind_some]
    · have hw' : wi b 0 9 = false := hw
      exact ⟨-2, by rw [if_neg (ntr hw)], by rw [if_neg (ntr hw')]⟩
  · exact ⟨-1, by rw [if_neg (ntr (c_isLark_no o G hbad))], by rw [if_neg (ntr (m_isLark_no o M hbad))]⟩
theorem home_loop (o : GO y) (G : GC y g) (M : GM y g2) {l w H : Nat} (hl : l < dL y) (hw : w < 16) (h25 : g 18 25 = nI w) (h23 : g 18 23 = nI H) (m29 : nr g2 0 29 = nI w) (m30 : nr g2 0 30 = nI H) (hH : H < 2 ^ 28) : ∀ (k i : Nat), i + k = 21 → ∀ s, s < 4096 → ∃ x, (∀ m, k < m → sX3_hoursHome_14 g (nI l) m (nI s) (nI i) = some x) ∧ (∀ m, k < m → sX9_home_38 g2 (nI l) m (nI s) (nI i) = some x) := by
  intro k
  induction k with
  | zero =>
    intro i hi s hs
    refine ⟨-9, fun m hm => ?_, fun m hm => ?_⟩
    · obtain ⟨m, rfl⟩ : ∃ m', m = m' + 1 := ⟨m - 1, by omega⟩
      rw [sX3_hoursHome_14, if_pos (by rw [nI_ltI (by omega) (by omega)]; omega)]
    · obtain ⟨m, rfl⟩ : ∃ m', m = m' + 1 := ⟨m - 1, by omega⟩
      rw [sX9_home_38, if_pos (by rw [nI_leI (by omega) (by omega)]; omega)]
  | succ k ih =>
    intro i hi s hs
    by_cases h15 : (nI s &&& nI 15) = 0
    · obtain ⟨x, p1, p2⟩ := ih (i + 1) (by omega) _ (nx_lt y l s (H + i) (decide (0 < i) || !(w.testBit l)))
      refine ⟨x, fun m hm => ?_, fun m hm => ?_⟩
      · obtain ⟨m, rfl⟩ : ∃ m', m = m' + 1 := ⟨m - 1, by omega⟩
        rw [sX3_hoursHome_14, if_neg (by rw [nI_ltI (by omega) (by omega)]; omega), if_pos h15, c_behind o G hl hw h25 h23 (by omega) hs, Option.bind_some, nI_add]
        exact p1 m (by omega)
      · obtain ⟨m, rfl⟩ : ∃ m', m = m' + 1 := ⟨m - 1, by omega⟩
        rw [sX9_home_38, if_neg (by rw [nI_leI (by omega) (by omega)]; omega), if_pos h15, nI_clamp (by decide), nI_clamp (by decide), nr0 g2, nr0 g2, m29, m30, nI_add, nI_add]
        rw [m_on3 o M hl (by omega) hs hw (fun x => sX9_home_38 g2 (nI l) m x (nI (i + 1)))]
        exact p2 m (by omega)
    · refine ⟨nI i, fun m hm => ?_, fun m hm => ?_⟩
      · obtain ⟨m, rfl⟩ : ∃ m', m = m' + 1 := ⟨m - 1, by omega⟩
        rw [sX3_hoursHome_14, if_neg (by rw [nI_ltI (by omega) (by omega)]; omega), if_neg h15]
      · obtain ⟨m, rfl⟩ : ∃ m', m = m' + 1 := ⟨m - 1, by omega⟩
        rw [sX9_home_38, if_neg (by rw [nI_leI (by omega) (by omega)]; omega), if_neg h15]
theorem op_home (R : R0 y B g g2) (hB : B < 2 ^ 19) (a : Int32) : ∃ x, sX8_home g a = some x ∧ sX9_home g2 a = some x := by
  obtain ⟨o, G, M, RR0⟩ := R
  have hL := o.2.2.1
  obtain ⟨d, c1, c2, c3⟩ := RR0.2.2.2.1
  obtain ⟨w, d1, d2, d3⟩ := RR0.2.2.2.2.1
  obtain ⟨H, b1, b2, b3⟩ := RR0.2.2.1
  unfold sX8_home sX9_home
  rcases ix_cases a (dL y) with ⟨l, hl, -, rfl⟩ | hbad
  · obtain ⟨⟨c, e1, e2, e3⟩, -⟩ := RR0.1 l hl
    rw [if_pos (c_isLark_ok o G hl), if_pos (m_isLark_ok o M hl), c_drown (t := 3) o G hl c1 c2, nI_clamp (by decide), nr0 g2 28, c3, m_has, has_nI (by omega) (by omega)]
    cases hd : d.testBit l with
    | true => exact ⟨-3, by rw [if_pos rfl], by rw [if_pos rfl]⟩
    | false =>
      have hpt : (2 : Nat) ^ c < 2 ^ 12 := Nat.pow_lt_pow_right (by decide) e1
      obtain ⟨x, p1, p2⟩ := home_loop o G M hl d1 d2 b2 d3 b3 (by omega) 21 0 rfl (2 ^ c) hpt
      refine ⟨x, ?_, ?_⟩
      · unfold sX3_hoursHome sX8_bit
        rw [if_neg Bool.false_ne_true, c_cellOfLark (t := 3) o G hl, Option.bind_some, show g (3 + 15) l = nI c from e2, bit_nI (by omega), p1 100 (by omega), Option.bind_some]
      · rw [if_neg Bool.false_ne_true, if_pos (inb_nI (by omega) (by decide)), nI_clamp (by omega), nr0 g2 l, e3, bit_nI (by omega), p2 100 (by omega)]
  · exact ⟨-1, by rw [if_neg (ntr (c_isLark_no o G hbad))], by rw [if_neg (ntr (m_isLark_no o M hbad))]⟩
end Wb
