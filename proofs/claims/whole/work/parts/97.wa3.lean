/-! ===== the finds to get, both ===== -/
section Wd
variable {y : Gd} {B : Nat} {g g2 : Hg}
theorem getsOf_loop (o : GO y) (M : GM y g2) {r : Nat → Int32} (RR0 : RR y B r (nr g2 0)) {l w H n c0 d : Nat} (hl : l < dL y) (hw : w < 16) (hd1 : d < 16) (m28 : nr g2 0 28 = nI d) (m29 : nr g2 0 29 = nI w) (m30 : nr g2 0 30 = nI H) (ml : nr g2 0 l = nI c0) (hH : H < 2 ^ 28) (hn : n ≤ 9) (hc0 : c0 < 12) (hdr : d.testBit l = false) : ∀ (k i : Nat), i + k = dF y → ∀ a, a < 32 → ∃ a', a' < 32 ∧ (∀ m, k < m → sX9_getsOf_5 g2 (nI l) (nI n) m (nI a) (nI i) = some (nI a')) ∧ ∀ f, (a'.testBit f = true ↔ a.testBit f = true ∨ (i ≤ f ∧ f < dF y ∧ ∃ c, c < 12 ∧ li (nr g2 0) c f = true ∧ may y l w H c0 n c 0)) := by
  have hL := o.2.2.1
  have hF := o.2.1
  obtain ⟨sb, -, -, s3⟩ := RR0.2.2.2.2.2
  intro k
  induction k with
  | zero =>
    intro i hi a ha
    refine ⟨a, ha, fun m hm => ?_, fun f => ⟨Or.inl, fun h => ?_⟩⟩
    · obtain ⟨m, rfl⟩ : ∃ m', m = m' + 1 := ⟨m - 1, by omega⟩
      rw [sX9_getsOf_5, M.2.1, if_pos (by rw [nI_leI (by omega) (by omega)]; omega)]
    · rcases h with h | ⟨h1, h2, -⟩
      · exact h
      · omega
  | succ k ih =>
    intro i hi a ha
    have hpt : (2 : Nat) ^ i < 2 ^ 5 := Nat.pow_lt_pow_right (by decide) (by omega)
    have st : ∀ m, sX9_getsOf_5 g2 (nI l) (nI n) (m + 1) (nI a) (nI i) = (if nr g2 0 (13 + i) = 0 then ((sX9_mayGet g2 (nI l) (nr g2 0 (8 + i)) (nI n)).bind fun x_1 => (if x_1 = true then (sX9_getsOf_5 g2 (nI l) (nI n) m (nI (a ||| 2 ^ i)) (nI (i + 1))) else (sX9_getsOf_5 g2 (nI l) (nI n) m (nI a) (nI (i + 1))))) else sX9_getsOf_5 g2 (nI l) (nI n) m (nI a) (nI (i + 1))) := fun m => by
      rw [sX9_getsOf_5, M.2.1, if_neg (by rw [nI_leI (by omega) (by omega)]; omega)]
      simp only [nI_add]
      rw [if_pos (inb_nI (by omega) (by decide)), if_pos (inb_nI (by omega) (by decide)), nI_clamp (by omega), nI_clamp (by omega), nI_clamp (by omega), nr0 g2, nr0 g2, nr0 g2, m28, m_has, has_nI (by omega) (by omega), hdr, if_neg Bool.false_ne_true, bit_nI (by omega), or0, or_nI]
    have skip : ∀ P : Prop, (∀ m, sX9_getsOf_5 g2 (nI l) (nI n) (m + 1) (nI a) (nI i) = sX9_getsOf_5 g2 (nI l) (nI n) m (nI a) (nI (i + 1))) → (¬ ∃ c, c < 12 ∧ li (nr g2 0) c i = true ∧ may y l w H c0 n c 0) → ∃ a', a' < 32 ∧ (∀ m, k + 1 < m → sX9_getsOf_5 g2 (nI l) (nI n) m (nI a) (nI i) = some (nI a')) ∧ ∀ f, (a'.testBit f = true ↔ a.testBit f = true ∨ (i ≤ f ∧ f < dF y ∧ ∃ c, c < 12 ∧ li (nr g2 0) c f = true ∧ may y l w H c0 n c 0)) := fun _ q1 q2 => by
      obtain ⟨a', p1, p2, p3⟩ := ih (i + 1) (by omega) a ha
      refine ⟨a', p1, fun m hm => ?_, fun f => ?_⟩
      · obtain ⟨m, rfl⟩ : ∃ m', m = m' + 1 := ⟨m - 1, by omega⟩
        rw [q1]; exact p2 m (by omega)
      · rw [p3]
        constructor
        · rintro (h | ⟨h1, h2, h3⟩)
          · exact Or.inl h
          · exact Or.inr ⟨by omega, h2, h3⟩
        · rintro (h | ⟨h1, h2, h3⟩)
          · exact Or.inl h
          · by_cases e : f = i
            · subst e; exact absurd h3 q2
            · exact Or.inr ⟨by omega, h2, h3⟩
    by_cases h0 : nr g2 0 (13 + i) = 0
    · obtain ⟨c, c1, c2⟩ : ∃ c, c < 12 ∧ nr g2 0 (8 + i) = nI c := by
        rcases s3 i (by omega) with ⟨-, ⟨c, z1, -, z3⟩, -, -⟩ | ⟨z1, -⟩ | ⟨z1, -⟩
        · exact ⟨c, z1, z3⟩
        · rw [z1] at h0; exact absurd h0 (by decide)
        · rw [z1] at h0; exact absurd h0 (by decide)
      have hli : ∀ z, z < 12 → (li (nr g2 0) z i = true ↔ z = c) := fun z hz => by
        rw [li_yes, c2]
        constructor
        · rintro ⟨-, h⟩; exact ((nI_eq (by omega) (by omega)).mp h).symm
        · rintro rfl; exact ⟨h0, rfl⟩
      obtain ⟨b, b1, b2⟩ := m_mayGet o M hl hw m29 m30 ml hH hn c1 hc0
      cases b with
      | false =>
        refine skip True (fun m => ?_) ?_
        · rw [st, if_pos h0, c2, b1, Option.bind_some, if_neg Bool.false_ne_true]
        · rintro ⟨z, z1, z2, z3⟩
          rw [hli z z1] at z2
          subst z2
          exact absurd (b2.mpr z3) Bool.false_ne_true
      | true =>
        obtain ⟨a', p1, p2, p3⟩ := ih (i + 1) (by omega) (a ||| 2 ^ i) (Nat.or_lt_two_pow (n := 5) ha hpt)
        refine ⟨a', p1, fun m hm => ?_, fun f => ?_⟩
        · obtain ⟨m, rfl⟩ : ∃ m', m = m' + 1 := ⟨m - 1, by omega⟩
          rw [st, if_pos h0, c2, b1, Option.bind_some, if_pos rfl]
          exact p2 m (by omega)
        · rw [p3, or_two, Bool.or_eq_true, decide_eq_true_eq]
          constructor
          · rintro ((h | h) | ⟨h1, h2, h3⟩)
            · exact Or.inl h
            · subst h
              exact Or.inr ⟨Nat.le_refl _, by omega, c, c1, (hli c c1).mpr rfl, b2.mp rfl⟩
            · exact Or.inr ⟨by omega, h2, h3⟩
          · rintro (h | ⟨h1, h2, h3⟩)
            · exact Or.inl (Or.inl h)
            · by_cases e : i = f
              · exact Or.inl (Or.inr e)
              · exact Or.inr ⟨by omega, h2, h3⟩
    · refine skip True (fun m => ?_) ?_
      · rw [st, if_neg h0]
      · rintro ⟨z, z1, z2, -⟩
        exact h0 (li_yes.mp z2).1
theorem findsOn_loop (o : GO y) (G : GC y g) {n : Nat → Int32} (R : RR y B (g 18) n) {u : Nat} (hu : u < 4096) : ∀ (k i : Nat), i + k = 12 → ∀ a, a < 32 → ∃ a', a' < 32 ∧ (∀ m, k < m → sX3_findsOn_4 g (nI u) m (nI a) (nI i) = some (nI a')) ∧ ∀ f, (a'.testBit f = true ↔ a.testBit f = true ∨ ∃ c, i ≤ c ∧ c < 12 ∧ u.testBit c = true ∧ f < dF y ∧ li n c f = true) := by
  have hF := o.2.1
  intro k
  induction k with
  | zero =>
    intro i hi a ha
    refine ⟨a, ha, fun m hm => ?_, fun f => ⟨Or.inl, fun h => ?_⟩⟩
    · obtain ⟨m, rfl⟩ : ∃ m', m = m' + 1 := ⟨m - 1, by omega⟩
      rw [sX3_findsOn_4, if_pos (by rw [nI_leI (by omega) (by omega)]; omega)]
    · rcases h with h | ⟨c, h1, h2, -⟩
      · exact h
      · omega
  | succ k ih =>
    intro i hi a ha
    cases hb : u.testBit i with
    | false =>
      obtain ⟨a', p1, p2, p3⟩ := ih (i + 1) (by omega) a ha
      refine ⟨a', p1, fun m hm => ?_, fun f => ?_⟩
      · obtain ⟨m, rfl⟩ : ∃ m', m = m' + 1 := ⟨m - 1, by omega⟩
        rw [sX3_findsOn_4, if_neg (by rw [nI_leI (by omega) (by omega)]; omega), has_nI (by omega) (by omega), hb, if_neg Bool.false_ne_true, nI_add]
        exact p2 m (by omega)
      · rw [p3]
        constructor
        · rintro (h | ⟨c, h1, h2⟩)
          · exact Or.inl h
          · exact Or.inr ⟨c, by omega, h2⟩
        · rintro (h | ⟨c, h1, h2, h3, h4⟩)
          · exact Or.inl h
          · by_cases e : c = i
            · subst e; rw [hb] at h3; cases h3
            · exact Or.inr ⟨c, by omega, h2, h3, h4⟩
    | true =>
      have hlt : bt (li n i) (dF y) < 2 ^ 5 := Nat.lt_of_lt_of_le (bt_lt _ _) (Nat.pow_le_pow_right (by decide) hF)
      obtain ⟨a', p1, p2, p3⟩ := ih (i + 1) (by omega) (a ||| bt (li n i) (dF y)) (Nat.or_lt_two_pow (n := 5) ha hlt)
      refine ⟨a', p1, fun m hm => ?_, fun f => ?_⟩
      · obtain ⟨m, rfl⟩ : ∃ m', m = m' + 1 := ⟨m - 1, by omega⟩
        rw [sX3_findsOn_4, if_neg (by rw [nI_leI (by omega) (by omega)]; omega), has_nI (by omega) (by omega), hb, if_pos rfl, c_lying (t := 3) o G R (by omega), Option.bind_some, nI_add, or_nI]
        exact p2 m (by omega)
      · rw [p3, Nat.testBit_or, Bool.or_eq_true, bt_testBit, Bool.and_eq_true, decide_eq_true_eq]
        constructor
        · rintro ((h | h) | ⟨c, h1, h2⟩)
          · exact Or.inl h
          · exact Or.inr ⟨i, Nat.le_refl _, by omega, hb, h⟩
          · exact Or.inr ⟨c, by omega, h2⟩
        · rintro (h | ⟨c, h1, h2, h3, h4⟩)
          · exact Or.inl (Or.inl h)
          · by_cases e : c = i
            · subst e; exact Or.inl (Or.inr h4)
            · exact Or.inr ⟨c, by omega, h2, h3, h4⟩
theorem get86 (o : GO y) (G : GC y g) {n' : Nat → Int32} (R : RR y B (g 18) n') {l w H n c0 : Nat} (hl : l < dL y) (hw : w < 16) (h25 : g 18 25 = nI w) (h23 : g 18 23 = nI H) (hH : H < 2 ^ 28) (hn : n ≤ 9) (hc0 : c0 < 12) (hg : ∀ k, k ≤ n → g 25 k = nI (hd y l w H n (n - k))) : ∀ (k i : Nat), i + k = n + 1 → ∀ a, a < 32 → ∃ a', a' < 32 ∧ (∀ m, k < m → sX3_findsToGet_86 g (nI l) (nI n) m (nI a) (nI (fs y l w H c0 i)) (nI i) = some (nI a', g)) ∧ ∀ f, (a'.testBit f = true ↔ a.testBit f = true ∨ (f < dF y ∧ ∃ c, c < 12 ∧ li n' c f = true ∧ may y l w H c0 n c i)) := by
  intro k
  induction k with
  | zero =>
    intro i hi a ha
    refine ⟨a, ha, fun m hm => ?_, fun f => ⟨Or.inl, fun h => ?_⟩⟩
    · obtain ⟨m, rfl⟩ : ∃ m', m = m' + 1 := ⟨m - 1, by omega⟩
      rw [sX3_findsToGet_86, if_pos (by rw [nI_ltI (by omega) (by omega)]; omega)]
    · rcases h with h | ⟨-, c, -, -, z, h1, h2, -⟩
      · exact h
      · omega
  | succ k ih =>
    intro i hi a ha
    have hs := fs_lt y (l := l) (w := w) (H := H) hc0 i
    have hu : (fs y l w H c0 i &&& hd y l w H n (n - i)) &&& bt (fun c => bare y c (H + i)) 12 < 4096 := Nat.lt_of_le_of_lt Nat.and_le_right (bt12 _)
    obtain ⟨x, x1, x2, x3⟩ := findsOn_loop o G R hu 12 0 rfl 0 (by decide)
    obtain ⟨a', p1, p2, p3⟩ := ih (i + 1) (by omega) (a ||| x) (Nat.or_lt_two_pow (n := 5) ha x1)
    refine ⟨a', p1, fun m hm => ?_, fun f => ?_⟩
    · obtain ⟨m, rfl⟩ : ∃ m', m = m' + 1 := ⟨m - 1, by omega⟩
      have hfo : sX3_findsOn g (nI ((fs y l w H c0 i &&& hd y l w H n (n - i)) &&& bt (fun c => bare y c (H + i)) 12)) = some (nI x) := x2 100 (by decide)
      rw [sX3_findsToGet_86, if_neg (by rw [nI_ltI (by omega) (by omega)]; omega), if_pos (inb_nI (by omega) (by decide)), c_now, show g (3 + 15) 23 = nI H from h23, nI_add, c_baredCells o G (by omega), Option.bind_some, nI_clamp (by omega), hg i (by omega), fa_and, fa_and, hfo, Option.bind_some, c_behind o G hl hw h25 h23 (by omega) hs, Option.bind_some, or_nI, nI_add]
      exact p2 m (by omega)
    · rw [p3, Nat.testBit_or, Bool.or_eq_true, x3]
      have hz : (0 : Nat).testBit f = true ↔ False := by rw [Nat.zero_testBit]; simp
      rw [hz]
      constructor
      · rintro ((h | h | ⟨c, -, c2, c3, c4, c5⟩) | ⟨h1, c, c1, c2, z, z1, z2⟩)
        · exact Or.inl h
        · exact h.elim
        · rw [Nat.testBit_and, Nat.testBit_and, bt_testBit, decide_eq_true c2, Bool.true_and, Bool.and_eq_true, Bool.and_eq_true] at c3
          exact Or.inr ⟨c4, c, c2, c5, i, Nat.le_refl _, by omega, c3.1.1, c3.2, c3.1.2⟩
        · exact Or.inr ⟨h1, c, c1, c2, z, by omega, z2⟩
      · rintro (h | ⟨h1, c, c1, c2, z, z1, z2, z3, z4, z5⟩)
        · exact Or.inl (Or.inl h)
        · by_cases e : z = i
          · subst e
            refine Or.inl (Or.inr (Or.inr ⟨c, by omega, c1, ?_, h1, c2⟩))
            rw [Nat.testBit_and, Nat.testBit_and, bt_testBit, decide_eq_true c1, Bool.true_and, z3, z4, z5]; rfl
          · exact Or.inr ⟨h1, c, c1, c2, z, by omega, z2, z3, z4, z5⟩
theorem get35 (o : GO y) (G : GC y g) {l w H n c0 : Nat} (hl : l < dL y) (hw : w < 16) (h25 : g 18 25 = nI w) (h23 : g 18 23 = nI H) (hcl : g 18 l = nI c0) (hH : H < 2 ^ 28) (hn : n ≤ 9) (hc0 : c0 < 12) : ∀ (j : Nat), j ≤ n → ∀ r : Nat → Int32, (∀ k, j ≤ k → k ≤ n → r k = nI (hd y l w H n (n - k))) → ∃ r', (∀ k, k ≤ n → r' k = nI (hd y l w H n (n - k))) ∧ (∀ m, j < m → sX3_findsToGet_35 (nI l) (nI n) m (setA g 25 r) (nI j + (-1)) = sX3_findsToGet_86 (setA g 25 r') (nI l) (nI n) 100 (nI 0) (nI (2 ^ c0)) (nI 0)) := by
  intro j
  induction j with
  | zero =>
    intro hj r hr
    refine ⟨r, fun k hk => hr k (by omega) hk, fun m hm => ?_⟩
    obtain ⟨m, rfl⟩ : ∃ m', m = m' + 1 := ⟨m - 1, by omega⟩
    rw [sX3_findsToGet_35, if_pos (by decide), c_cellOfLark (t := 3) o (GC_row G (by decide) r) hl, Option.bind_some, show setA g 25 r (3 + 15) l = nI c0 from (by rw [← hcl]; rfl)]
    unfold sX8_bit
    rw [bit_nI (by omega)]
  | succ j ih =>
    intro hj r hr
    have h18 : setA g 25 r 18 = g 18 := setA_ne _ _ (by decide)
    have hah := c_ahead (T := hd y l w H n (n - (j + 1))) (i := j) o (GC_row G (show 18 ≤ 25 by decide) r) hl hw (by rw [h18]; exact h25) (by rw [h18]; exact h23) (by omega)
    have ehd : hd y l w H n (n - j) = 15 ||| bk y l (hd y l w H n (n - (j + 1))) (H + j) (decide (0 < j) || !(w.testBit l)) := by
      have e1 : n - j = (n - (j + 1)) + 1 := by omega
      have e2 : n - (n - (j + 1) + 1) = j := by omega
      rw [e1, hd, e2]
    obtain ⟨r', p1, p2⟩ := ih (by omega) (upd r j (nI (hd y l w H n (n - j)))) (fun k k1 k2 => by
      by_cases e : k = j
      · subst e; rw [pk_us]
      · rw [pk_un e]; exact hr k (by omega) k2)
    refine ⟨r', p1, fun m hm => ?_⟩
    obtain ⟨m, rfl⟩ : ∃ m', m = m' + 1 := ⟨m - 1, by omega⟩
    rw [pk_m1, sX3_findsToGet_35, if_neg (nI_pos (by omega)), nI_add, if_pos (inb_nI (by omega) (by decide)), nI_clamp (by omega), setA_self, hr (j + 1) (by omega) (by omega), hah, Option.bind_some, if_pos (inb_nI (by omega) (by decide)), nI_clamp (by omega), fa_or, ← ehd, st_set]
    exact p2 m (by omega)
theorem gets_same (R : R0 y B g g2) (hB : B < 2 ^ 19) {l n : Nat} (hl : l < dL y) (hn1 : 1 ≤ n) (hn : n ≤ 9) : ∃ X r', X < 32 ∧ sX3_findsToGet g (nI l) (nI n) = some (nI X, setA g 25 r') ∧ sX9_getsOf g2 (nI l) (nI n) = some (nI X) ∧ ∀ f, X.testBit f = true → f < dF y ∧ nr g2 0 (13 + f) = nI 0 := by
  obtain ⟨o, G, M, RR0⟩ := R
  have hL := o.2.2.1
  have hF := o.2.1
  obtain ⟨d, c1, c2, c3⟩ := RR0.2.2.2.1
  obtain ⟨w, d1, d2, d3⟩ := RR0.2.2.2.2.1
  obtain ⟨H, b1, b2, b3⟩ := RR0.2.2.1
  obtain ⟨⟨c, e1, e2, e3⟩, -⟩ := RR0.1 l hl
  unfold sX3_findsToGet
  rw [c_drown (t := 3) o G hl c1 c2]
  cases hdr : d.testBit l with
  | true =>
    refine ⟨0, g 25, by decide, by rw [if_pos rfl, setA_id], ?_, fun f h => by rw [Nat.zero_testBit] at h; cases h⟩
    unfold sX9_getsOf
    refine seqloop (fun m a i => sX9_getsOf_5 g2 (nI l) (nI n) m a i) (fun i => nI 0) (dF y) _ (fun m => ?_) (fun m i hi => ?_) 100 (by omega)
    · show sX9_getsOf_5 _ _ _ _ _ _ = _
      rw [sX9_getsOf_5, M.2.1, if_pos (by rw [nI_leI (by omega) (by omega)]; exact Nat.le_refl _)]
    · show sX9_getsOf_5 _ _ _ _ _ _ = sX9_getsOf_5 _ _ _ _ _ _
      rw [sX9_getsOf_5, M.2.1, if_neg (by rw [nI_leI (by omega) (by omega)]; omega)]
      simp only [nI_add]
      rw [if_pos (inb_nI (by omega) (by decide)), nI_clamp (by omega), nI_clamp (n := 28) (by decide), nr0 g2 28, c3, m_has, has_nI (by omega) (by omega), hdr, if_pos rfl, or0]
      split <;> rfl
  | false =>
    rw [if_neg Bool.false_ne_true, c_within _ (by decide) (by decide), if_pos (wi_nI (lo := 0) (hi := 9) (by omega) (by omega) hn), if_pos (inb_nI (by omega) (by decide)), nI_clamp (by omega)]
    obtain ⟨r', p1, p2⟩ := get35 o G hl d1 d2 b2 e2 (by omega) hn e1 n (Nat.le_refl _) (upd (g 25) n (nI 15)) (fun k k1 k2 => by
      have e : k = n := by omega
      subst e
      rw [pk_us, Nat.sub_self, hd])
    have h18 : setA g 25 r' 18 = g 18 := setA_ne _ _ (by decide)
    obtain ⟨X, x1, x2, x3⟩ := get86 (g := setA g 25 r') o (GC_row G (by decide) r') (n' := nr g2 0) (B := B) (by rw [h18]; exact RR0) hl d1 (by rw [h18]; exact d2) (by rw [h18]; exact b2) (show H < 2 ^ 28 by omega) hn e1 (fun k hk => by rw [setA_self]; exact p1 k hk) (n + 1) 0 (by omega) 0 (by decide)
    obtain ⟨Z, z1, z2, z3⟩ := getsOf_loop o M RR0 hl d1 c1 c3 d3 b3 e3 (show H < 2 ^ 28 by omega) hn e1 hdr (dF y) 0 (by omega) 0 (by decide)
    have eXZ : X = Z := by
      apply Nat.eq_of_testBit_eq
      intro f
      rw [Bool.eq_iff_iff, x3, z3]
      constructor
      · rintro (h | h)
        · exact Or.inl h
        · exact Or.inr ⟨by omega, h⟩
      · rintro (h | ⟨-, h⟩)
        · exact Or.inl h
        · exact Or.inr h
    refine ⟨X, r', x1, ?_, ?_, fun f hf => ?_⟩
    · have e : nI n - nI 1 = nI n + (-1) := by
        obtain ⟨n', rfl⟩ : ∃ n', n = n' + 1 := ⟨n - 1, by omega⟩
        rw [pk_sub (by omega), pk_m1]; rfl
      rw [e, show stA g 25 n (nI 15) = setA g 25 (upd (g 25) n (nI 15)) from rfl, p2 100 (by omega)]
      exact x2 100 (by omega)
    · rw [eXZ]; exact z2 100 (by omega)
    · rw [x3] at hf
      rcases hf with h | ⟨h1, c, -, h2, -⟩
      · rw [Nat.zero_testBit] at h; cases h
      · exact ⟨h1, (li_yes.mp h2).1⟩
end Wd
