/-! ===== what can be had ere the flood ===== -/
def bk (y : Gd) (l T H : Nat) (wk : Bool) : Nat := bt (fun c => (T.testBit c && stnd y l c (H + 1)) || adj (bt (fun k => (T.testBit k && stnd y l k (H + 1)) && (wk && stnd y l k H)) 12) c) 12
theorem bk_iff {y : Gd} {l T H c : Nat} {wk : Bool} (hc : c < 12) : (bk y l T H wk).testBit c = true ↔ (T.testBit c = true ∧ stnd y l c (H + 1) = true) ∨ ∃ k, k < 12 ∧ nbr k c ∧ T.testBit k = true ∧ stnd y l k (H + 1) = true ∧ wk = true ∧ stnd y l k H = true := by
  unfold bk
  rw [bt_testBit, decide_eq_true hc, Bool.true_and, Bool.or_eq_true, adj_iff hc, Bool.and_eq_true]
  constructor
  · rintro (h | ⟨k, k1, k2, k3⟩)
    · exact Or.inl h
    · rw [bt_testBit, decide_eq_true k1, Bool.true_and] at k3
      simp only [Bool.and_eq_true] at k3
      exact Or.inr ⟨k, k1, k2, k3.1.1, k3.1.2, k3.2.1, k3.2.2⟩
  · rintro (h | ⟨k, k1, k2, k3, k4, k5, k6⟩)
    · exact Or.inl h
    · refine Or.inr ⟨k, k1, k2, ?_⟩
      rw [bt_testBit, decide_eq_true k1, Bool.true_and]
      simp only [Bool.and_eq_true]
      exact ⟨⟨k3, k4⟩, k5, k6⟩
theorem nx_iff {y : Gd} {l s H k : Nat} {wk : Bool} (hk : k < 12) : (nx y l s H wk).testBit k = true ↔ stnd y l k (H + 1) = true ∧ (s.testBit k = true ∨ (wk = true ∧ stnd y l k H = true ∧ ∃ c, c < 12 ∧ nbr c k ∧ s.testBit c = true)) := by
  unfold nx
  rw [bt_testBit, decide_eq_true hk, Bool.true_and, onw_iff hk]
theorem meet {y : Gd} {l S T H : Nat} {wk : Bool} : (∃ k, k < 12 ∧ (nx y l S H wk).testBit k = true ∧ T.testBit k = true) ↔ ∃ c, c < 12 ∧ S.testBit c = true ∧ (bk y l T H wk).testBit c = true := by
  constructor
  · rintro ⟨k, hk, h1, h2⟩
    rw [nx_iff hk] at h1
    obtain ⟨h3, h4 | ⟨h4, h5, c, c1, c2, c3⟩⟩ := h1
    · exact ⟨k, hk, h4, (bk_iff hk).mpr (Or.inl ⟨h2, h3⟩)⟩
    · exact ⟨c, c1, c3, (bk_iff c1).mpr (Or.inr ⟨k, hk, nbr_sym c2, h2, h3, h4, h5⟩)⟩
  · rintro ⟨c, hc, h1, h2⟩
    rw [bk_iff hc] at h2
    obtain ⟨h3, h4⟩ | ⟨k, k1, k2, k3, k4, k5, k6⟩ := h2
    · exact ⟨c, hc, (nx_iff hc).mpr ⟨h4, Or.inl h1⟩, h3⟩
    · exact ⟨k, k1, (nx_iff k1).mpr ⟨k4, Or.inr ⟨k5, k6, c, hc, nbr_sym k2, h1⟩⟩, k3⟩
/-- the cells from which one comes home: d hours are left of n -/
def hd (y : Gd) (l w H n : Nat) : Nat → Nat
  | 0 => 15
  | d + 1 => 15 ||| bk y l (hd y l w H n d) (H + (n - (d + 1))) (decide (0 < n - (d + 1)) || !(w.testBit l))
theorem hd_lt (y : Gd) (l w H n : Nat) : ∀ d, hd y l w H n d < 4096
  | 0 => by rw [hd]; decide
  | d + 1 => by rw [hd]; exact Nat.or_lt_two_pow (n := 12) (by decide) (bt12 _)
/-- the cells where one may be, k hours over -/
def fs (y : Gd) (l w H c : Nat) : Nat → Nat
  | 0 => 2 ^ c
  | k + 1 => nx y l (fs y l w H c k) (H + k) (decide (0 < k) || !(w.testBit l))
theorem fs_lt (y : Gd) {l w H c : Nat} (hc : c < 12) : ∀ k, fs y l w H c k < 4096
  | 0 => by
    rw [fs]
    have h : (2 : Nat) ^ c < 2 ^ 12 := Nat.pow_lt_pow_right (by decide) hc
    exact h
  | k + 1 => by rw [fs]; exact nx_lt _ _ _ _ _
theorem w15 {S : Nat} (hS : S < 4096) : (nI S &&& nI 15) = 0 ↔ ∀ c, c < 4 → S.testBit c = false := by
  rw [fa_and]
  have h : (nI (S &&& 15) = 0) ↔ S &&& 15 = 0 := by
    have hl : S &&& 15 ≤ 15 := Nat.and_le_right
    rw [show (0 : Int32) = nI 0 from rfl, nI_eq (by omega) (by omega)]
  rw [h]
  have hb : ∀ c, (15 : Nat).testBit c = decide (c < 4) := fun c => by
    have := Nat.testBit_two_pow_sub_one 4 c
    exact this
  constructor
  · intro h0 c hc
    have : (S &&& 15).testBit c = false := by rw [h0, Nat.zero_testBit]
    rw [Nat.testBit_and, hb, decide_eq_true hc, Bool.and_true] at this
    exact this
  · intro h0
    apply Nat.eq_of_testBit_eq
    intro c
    rw [Nat.testBit_and, hb, Nat.zero_testBit]
    by_cases hc : c < 4
    · rw [h0 c hc, Bool.false_and]
    · rw [decide_eq_false hc, Bool.and_false]
theorem t15 (c : Nat) : (15 : Nat).testBit c = decide (c < 4) := Nat.testBit_two_pow_sub_one 4 c
section Wc
variable {y : Gd} {B : Nat} {g g2 : Hg}
theorem c_ahead (o : GO y) (G : GC y g) {l w H i T : Nat} (hl : l < dL y) (hw : w < 16) (h25 : g 18 25 = nI w) (h23 : g 18 23 = nI H) (hH : H + i < 2 ^ 29) : sX3_cellsAheadOfHour g (nI l) (nI T) (nI i) = some (nI (bk y l T (H + i) (decide (0 < i) || !(w.testBit l)))) := by
  unfold sX3_cellsAheadOfHour
  rw [c_goals o G hl hw h25 h23 (by omega), c_now, show g (3 + 15) 23 = nI H from h23, nI_add, nI_add, c_stand o G hl (by omega), Option.bind_some, Option.bind_some, fa_and, fa_and]
  have e : (T &&& bt (fun c => stnd y l c (H + i + 1)) 12) &&& bt (fun c => (decide (0 < i) || !(w.testBit l)) && stnd y l c (H + i)) 12 = bt (fun k => (T.testBit k && stnd y l k (H + i + 1)) && ((decide (0 < i) || !(w.testBit l)) && stnd y l k (H + i))) 12 := by
    apply eq_bt
    · exact Nat.lt_of_le_of_lt Nat.and_le_right (bt12 _)
    · intro k hk
      rw [Nat.testBit_and, Nat.testBit_and, bt_testBit, bt_testBit, decide_eq_true hk, Bool.true_and, Bool.true_and]
  rw [e, nb_c (bt12 _), fa_or]
  congr 2
  unfold bk
  apply eq_bt
  · exact Nat.or_lt_two_pow (n := 12) (Nat.lt_of_le_of_lt Nat.and_le_right (bt12 _)) (bt12 _)
  · intro k hk
    rw [Nat.testBit_or, Nat.testBit_and, bt_testBit, bt_testBit, decide_eq_true hk, Bool.true_and, Bool.true_and]
theorem comes_loop (o : GO y) (M : GM y g2) {l w H n : Nat} (hl : l < dL y) (hw : w < 16) (m29 : nr g2 0 29 = nI w) (m30 : nr g2 0 30 = nI H) (hH : H < 2 ^ 28) (hn : n ≤ 9) (v2 v3 : Int32) : ∀ (d i : Nat), i + d = n → ∀ S, S < 4096 → ∃ b : Bool, (∀ m, d + 1 < m → sX9_comesHome_8 g2 (nI l) v2 v3 (nI n) m (nI S) (nI i) = some b) ∧ (b = true ↔ ∃ c, c < 12 ∧ S.testBit c = true ∧ (hd y l w H n d).testBit c = true) := by
  intro d
  induction d with
  | zero =>
    intro i hi S hS
    by_cases h15 : (nI S &&& nI 15) = 0
    · refine ⟨false, fun m hm => ?_, ?_⟩
      · obtain ⟨m, rfl⟩ : ∃ m', m = m' + 2 := ⟨m - 2, by omega⟩
        rw [sX9_comesHome_8, if_neg (by rw [nI_ltI (by omega) (by omega)]; omega), if_pos h15, nI_clamp (by decide), nI_clamp (by decide), nr0 g2, nr0 g2, m29, m30, nI_add, nI_add]
        rw [m_on3 o M hl (by omega) hS hw (fun x => sX9_comesHome_8 g2 (nI l) v2 v3 (nI n) (m + 1) x (nI (i + 1)))]
        rw [sX9_comesHome_8, if_pos (by rw [nI_ltI (by omega) (by omega)]; omega)]
      · constructor
        · intro h; cases h
        · rintro ⟨c, c1, c2, c3⟩
          rw [hd, t15, decide_eq_true_eq] at c3
          rw [(w15 hS).mp h15 c c3] at c2
          cases c2
    · refine ⟨true, fun m hm => ?_, ?_⟩
      · obtain ⟨m, rfl⟩ : ∃ m', m = m' + 1 := ⟨m - 1, by omega⟩
        rw [sX9_comesHome_8, if_neg (by rw [nI_ltI (by omega) (by omega)]; omega), if_neg h15]
      · refine ⟨fun _ => ?_, fun _ => rfl⟩
        apply Classical.byContradiction
        intro hno
        apply h15
        rw [w15 hS]
        intro c hc
        cases hb : S.testBit c with
        | false => rfl
        | true => exact absurd ⟨c, by omega, hb, by rw [hd, t15]; exact decide_eq_true hc⟩ hno
  | succ d ih =>
    intro i hi S hS
    by_cases h15 : (nI S &&& nI 15) = 0
    · obtain ⟨b, p1, p2⟩ := ih (i + 1) (by omega) _ (nx_lt y l S (H + i) (decide (0 < i) || !(w.testBit l)))
      refine ⟨b, fun m hm => ?_, ?_⟩
      · obtain ⟨m, rfl⟩ : ∃ m', m = m' + 1 := ⟨m - 1, by omega⟩
        rw [sX9_comesHome_8, if_neg (by rw [nI_ltI (by omega) (by omega)]; omega), if_pos h15, nI_clamp (by decide), nI_clamp (by decide), nr0 g2, nr0 g2, m29, m30, nI_add, nI_add]
        rw [m_on3 o M hl (by omega) hS hw (fun x => sX9_comesHome_8 g2 (nI l) v2 v3 (nI n) m x (nI (i + 1)))]
        exact p1 m (by omega)
      · rw [p2, meet]
        have ei : n - (d + 1) = i := by omega
        constructor
        · rintro ⟨c, c1, c2, c3⟩
          refine ⟨c, c1, c2, ?_⟩
          rw [hd, Nat.testBit_or, ei, c3, Bool.or_true]
        · rintro ⟨c, c1, c2, c3⟩
          refine ⟨c, c1, c2, ?_⟩
          rw [hd, Nat.testBit_or, ei, t15] at c3
          by_cases hc : c < 4
          · rw [(w15 hS).mp h15 c hc] at c2; cases c2
          · rw [decide_eq_false hc, Bool.false_or] at c3; exact c3
    · refine ⟨true, fun m hm => ?_, ?_⟩
      · obtain ⟨m, rfl⟩ : ∃ m', m = m' + 1 := ⟨m - 1, by omega⟩
        rw [sX9_comesHome_8, if_neg (by rw [nI_ltI (by omega) (by omega)]; omega), if_neg h15]
      · refine ⟨fun _ => ?_, fun _ => rfl⟩
        apply Classical.byContradiction
        intro hno
        apply h15
        rw [w15 hS]
        intro c hc
        cases hb : S.testBit c with
        | false => rfl
        | true => exact absurd ⟨c, by omega, hb, by rw [hd, Nat.testBit_or, t15, decide_eq_true hc, Bool.true_or]⟩ hno
theorem m_comes (o : GO y) (M : GM y g2) {l w H n c i : Nat} (hl : l < dL y) (hw : w < 16) (m29 : nr g2 0 29 = nI w) (m30 : nr g2 0 30 = nI H) (hH : H < 2 ^ 28) (hn : n ≤ 9) (hc : c < 12) (hi : i ≤ n) : sX9_comesHome g2 (nI l) (nI c) (nI i) (nI n) = some ((hd y l w H n (n - i)).testBit c) := by
  have hpt : (2 : Nat) ^ c < 2 ^ 12 := Nat.pow_lt_pow_right (by decide) hc
  obtain ⟨b, p1, p2⟩ := comes_loop o M hl hw m29 m30 hH hn (nI c) (nI i) (n - i) i (by omega) (2 ^ c) hpt
  unfold sX9_comesHome
  rw [bit_nI (by omega), p1 100 (by omega)]
  congr 1
  rw [Bool.eq_iff_iff, p2]
  constructor
  · rintro ⟨k, k1, k2, k3⟩
    rw [Nat.testBit_two_pow, decide_eq_true_eq] at k2
    subst k2; exact k3
  · intro h
    exact ⟨c, hc, by rw [Nat.testBit_two_pow, decide_eq_true rfl], h⟩
/-- one may get what lies at c -/
def may (y : Gd) (l w H c0 n c i : Nat) : Prop := ∃ k, i ≤ k ∧ k ≤ n ∧ (fs y l w H c0 k).testBit c = true ∧ bare y c (H + k) = true ∧ (hd y l w H n (n - k)).testBit c = true
theorem may_loop (o : GO y) (M : GM y g2) {l w H n c c0 : Nat} (hl : l < dL y) (hw : w < 16) (m29 : nr g2 0 29 = nI w) (m30 : nr g2 0 30 = nI H) (hH : H < 2 ^ 28) (hn : n ≤ 9) (hc : c < 12) (hc0 : c0 < 12) : ∀ (d i : Nat), i + d = n + 1 → ∃ b : Bool, (∀ m, d < m → sX9_mayGet_13 g2 (nI l) (nI c) (nI n) m (nI (fs y l w H c0 i)) (nI i) = some b) ∧ (b = true ↔ may y l w H c0 n c i) := by
  intro d
  induction d with
  | zero =>
    intro i hi
    refine ⟨false, fun m hm => ?_, ?_⟩
    · obtain ⟨m, rfl⟩ : ∃ m', m = m' + 1 := ⟨m - 1, by omega⟩
      rw [sX9_mayGet_13, if_pos (by rw [nI_ltI (by omega) (by omega)]; omega)]
    · constructor
      · intro h; cases h
      · rintro ⟨k, k1, k2, -⟩; omega
  | succ d ih =>
    intro i hi
    obtain ⟨b, p1, p2⟩ := ih (i + 1) (by omega)
    have hs := fs_lt y (l := l) (w := w) (H := H) hc0 i
    have hgo : ∀ m, (if 0 < nI i then ((sX9_onward g2 (nI l) (nI (fs y l w H c0 i)) (nI (H + i)) (nI 1)).bind fun x => sX9_mayGet_13 g2 (nI l) (nI c) (nI n) m x (nI (i + 1))) else (if (sX9_has (nI w) (nI l)) = true then ((sX9_onward g2 (nI l) (nI (fs y l w H c0 i)) (nI (H + i)) (nI 0)).bind fun x => sX9_mayGet_13 g2 (nI l) (nI c) (nI n) m x (nI (i + 1))) else ((sX9_onward g2 (nI l) (nI (fs y l w H c0 i)) (nI (H + i)) (nI 1)).bind fun x => sX9_mayGet_13 g2 (nI l) (nI c) (nI n) m x (nI (i + 1))))) = sX9_mayGet_13 g2 (nI l) (nI c) (nI n) m (nI (fs y l w H c0 (i + 1))) (nI (i + 1)) := fun m =>
      m_on3 o M hl (by omega) hs hw (fun x => sX9_mayGet_13 g2 (nI l) (nI c) (nI n) m x (nI (i + 1)))
    have st : ∀ m, sX9_mayGet_13 g2 (nI l) (nI c) (nI n) (m + 1) (nI (fs y l w H c0 i)) (nI i) = if ((fs y l w H c0 i).testBit c && bare y c (H + i) && (hd y l w H n (n - i)).testBit c) = true then some true else sX9_mayGet_13 g2 (nI l) (nI c) (nI n) m (nI (fs y l w H c0 (i + 1))) (nI (i + 1)) := fun m => by
      rw [sX9_mayGet_13, if_neg (by rw [nI_ltI (by omega) (by omega)]; omega), nI_clamp (by decide), nI_clamp (by decide), nr0 g2, nr0 g2, m29, m30, nI_add, nI_add, hgo, m_has, has_nI (by omega) (by omega), m_isBare o M hc (by omega), Option.bind_some, m_comes o M hl hw m29 m30 hH hn hc (by omega), Option.bind_some]
      cases (fs y l w H c0 i).testBit c <;> cases bare y c (H + i) <;> cases (hd y l w H n (n - i)).testBit c <;> rfl
    cases hq : ((fs y l w H c0 i).testBit c && bare y c (H + i) && (hd y l w H n (n - i)).testBit c) with
    | true =>
      refine ⟨true, fun m hm => ?_, fun _ => ?_, fun _ => rfl⟩
      · obtain ⟨m, rfl⟩ : ∃ m', m = m' + 1 := ⟨m - 1, by omega⟩
        rw [st, hq, if_pos rfl]
      · simp only [Bool.and_eq_true] at hq
        exact ⟨i, Nat.le_refl _, by omega, hq.1.1, hq.1.2, hq.2⟩
    | false =>
      refine ⟨b, fun m hm => ?_, ?_⟩
      · obtain ⟨m, rfl⟩ : ∃ m', m = m' + 1 := ⟨m - 1, by omega⟩
        rw [st, hq, if_neg Bool.false_ne_true]
        exact p1 m (by omega)
      · rw [p2]
        constructor
        · rintro ⟨k, k1, k2⟩; exact ⟨k, by omega, k2⟩
        · rintro ⟨k, k1, k2, k3, k4, k5⟩
          by_cases e : k = i
          · subst e
            rw [k3, k4, k5] at hq
            cases hq
          · exact ⟨k, by omega, k2, k3, k4, k5⟩
theorem m_mayGet (o : GO y) (M : GM y g2) {l w H n c c0 : Nat} (hl : l < dL y) (hw : w < 16) (m29 : nr g2 0 29 = nI w) (m30 : nr g2 0 30 = nI H) (ml : nr g2 0 l = nI c0) (hH : H < 2 ^ 28) (hn : n ≤ 9) (hc : c < 12) (hc0 : c0 < 12) : ∃ b : Bool, sX9_mayGet g2 (nI l) (nI c) (nI n) = some b ∧ (b = true ↔ may y l w H c0 n c 0) := by
  have hL := o.2.2.1
  obtain ⟨b, p1, p2⟩ := may_loop o M hl hw m29 m30 hH hn hc hc0 (n + 1) 0 (by omega)
  refine ⟨b, ?_, p2⟩
  unfold sX9_mayGet
  rw [if_pos (inb_nI (by omega) (by decide)), nI_clamp (by omega), nr0 g2, ml, bit_nI (by omega)]
  exact p1 100 (by omega)
end Wc
