/-! ===== the trial row: told doings, doings by chance ===== -/
theorem GC_scr {y : Gd} {g g' : Hg} (G : GC y g) (s : Scr g g') : GC y g' :=
  GC_congr (s _ (by decide) (by decide) (by decide) (by decide) (by decide)) (s _ (by decide) (by decide) (by decide) (by decide) (by decide)) (s _ (by decide) (by decide) (by decide) (by decide) (by decide)) (s _ (by decide) (by decide) (by decide) (by decide) (by decide)) (s _ (by decide) (by decide) (by decide) (by decide) (by decide)) (s _ (by decide) (by decide) (by decide) (by decide) (by decide)) G
theorem GM_scr {y : Gd} {g g' : Hg} (G : GM y g) (m : ScM g g') : GM y g' :=
  GM_congr (congrFun (m.1 29 (by decide) (by decide)) _) (congrFun (m.1 29 (by decide) (by decide)) _) (congrFun (m.1 29 (by decide) (by decide)) _) (m.1 _ (by decide) (by decide)) (m.1 _ (by decide) (by decide)) (m.1 _ (by decide) (by decide)) (m.1 _ (by decide) (by decide)) (m.1 _ (by decide) (by decide)) G
theorem Scr_19 (g : Hg) (r : Nat → Int32) : Scr g (setA g 19 r) := Scr_set (Or.inl rfl)
theorem RR_tr {y : Gd} {C : Nat} {r n : Nat → Int32} (o : GO y) (g g2 : Hg) (h : RR y C r n) : RR y C (setA g 19 r 19) (nr (nw g2 1 n) 1) := RR_congr o (fun k _ => by rw [setA_self]) (fun k hk => nr_nw _ _ hk) h
section Tria
variable {y : Gd} {B : Nat} {g g2 : Hg}
theorem lay_same (R : R0 y B g g2) : ∃ g' h, sX4_copyFrom g = some g' ∧ sX9_layTrial g2 = some h ∧ Scr g g' ∧ ScM g2 h ∧ RR y B (g' 19) (nr h 1) := by
  obtain ⟨o, G, M, RR0⟩ := R
  refine ⟨setA g 19 (va_cpy (g 18) (g 19) 0 0 27), setA g2 35 (va_cpy (g2 35) (g2 35) 0 31 31), ?_, ?_, Scr_19 _ _, ⟨fun c h1 h2 => setA_ne _ _ h1, fun k hk => ?_⟩, RR_congr o (fun k hk => ?_) (fun k hk => ?_) RR0⟩
  · unfold sX4_copyFrom
    rw [if_pos (by decide), nI_clamp (by decide), nI_clamp (by decide)]
  · unfold sX9_layTrial
    have key := seqloop (fun m a i => sX9_layTrial_2 m a i) (fun i => setA g2 35 (va_cpy (g2 35) (g2 35) 0 31 i)) 31 (some (setA g2 35 (va_cpy (g2 35) (g2 35) 0 31 31))) (fun m => ?_) (fun m i hi => ?_) 100 (by decide)
    · simp only [cpy_0, setA_id] at key
      exact key
    · show sX9_layTrial_2 _ _ _ = _
      rw [sX9_layTrial_2, if_pos (by decide)]
    · show sX9_layTrial_2 _ _ _ = sX9_layTrial_2 _ _ _
      have e2 : setA g2 35 (va_cpy (g2 35) (g2 35) 0 31 i) 35 i = g2 35 i := by rw [setA_self, cpy_out _ _ _ _ (by omega)]
      rw [sX9_layTrial_2, if_neg (by rw [nI_leI (by omega) (by omega)]; omega), if_pos (inb_nI (by omega) (by decide)), nI_add, if_pos (inb_nI (by omega) (by decide)), nI_clamp (by omega), nI_clamp (by omega), e2, st_set, cpy_s0, nI_add]
  · rw [setA_self, cpy_out _ _ _ _ (by omega)]
  · rw [setA_self, cpy_in0 _ _ _ hk, Nat.zero_add]
  · unfold nr
    rw [setA_self, cpy_in _ _ _ _ hk, Nat.zero_add]
theorem so_same (o : GO y) (G : GC y g) (M : GM y g2) (hB : B + 1 < 2 ^ 20) (R : RR y B (g 19) (nr g2 1)) (a1 a2 a3 : Int32) : ∃ b g' h, sX8_isSo g a1 a2 a3 = some (b, g') ∧ sX9_tryThing g2 a1 a2 a3 = some (b, h) ∧ Scr g g' ∧ ScM g2 h ∧ (b = true → RR y (B + 1) (g' 19) (nr h 1)) := by
  have hL := o.2.2.1
  unfold sX8_isSo sX9_tryThing
  by_cases h0 : a1 = nI 0
  · rw [if_pos h0, if_pos h0]
    obtain ⟨cnt, r', n', t1, t2, t3⟩ := hour_same (t := 4) (v := 1) o G M (by decide) (by decide) hB R
    rw [t1, t2, Option.bind_some, Option.bind_some]
    by_cases h2 : a2 = 0
    · rw [if_pos h2, if_pos h2]
      by_cases h3 : a3 = 0
      · rw [if_pos h3, if_pos h3]
        exact ⟨true, _, _, rfl, rfl, Scr_19 _ _, ScM_nw, fun _ => RR_tr o g g2 t3⟩
      · rw [if_neg h3, if_neg h3]
        exact ⟨false, _, _, rfl, rfl, Scr_refl _, ScM_nw, (fun h => by cases h)⟩
    · rw [if_neg h2, if_neg h2]
      exact ⟨false, _, _, rfl, rfl, Scr_refl _, ScM_nw, (fun h => by cases h)⟩
  · rw [if_neg h0, if_neg h0]
    by_cases h1 : a1 = nI 1
    · rw [if_pos h1, if_pos h1]
      obtain ⟨b, r', n', t1, t2, t3, t4, t5⟩ := tryWalk_same (t := 4) (v := 1) o G M (by decide) (by omega) R a2 a3
      rw [t1, Option.bind_some, t2, Option.bind_some]
      cases b with
      | true =>
        rw [if_pos rfl, t3 rfl, Option.bind_some]
        exact ⟨true, _, _, rfl, rfl, Scr_19 _ _, ScM_nw, fun _ => RR_mono (RR_tr o g g2 t5) (by omega)⟩
      | false =>
        rw [if_neg Bool.false_ne_true]
        exact ⟨false, _, _, rfl, rfl, Scr_19 _ _, ScM_refl _, (fun h => by cases h)⟩
    · rw [if_neg h1, if_neg h1]
      by_cases h2 : a1 = nI 2
      · rw [if_pos h2, if_pos h2]
        obtain ⟨b, r', n', t1, t2, t3, t4, t5⟩ := tryDig_same (t := 4) (v := 1) o G M (by decide) (by omega) R a2 a3
        rw [t1, Option.bind_some, t2, Option.bind_some]
        cases b with
        | true =>
          rw [if_pos rfl, t3 rfl, Option.bind_some]
          exact ⟨true, _, _, rfl, rfl, Scr_19 _ _, ScM_nw, fun _ => RR_mono (RR_tr o g g2 t5) (by omega)⟩
        | false =>
          rw [if_neg Bool.false_ne_true]
          exact ⟨false, _, _, rfl, rfl, Scr_19 _ _, ScM_refl _, (fun h => by cases h)⟩
      · rw [if_neg h2, if_neg h2]
        by_cases h3 : a1 = nI 3
        · rw [if_pos h3, if_pos h3]
          by_cases h20 : a2 = 0
          · rw [if_pos h20, if_pos h20]
            obtain ⟨b, r', n', -, t1, t2, t3, t4, t5⟩ := trySell_same (t := 4) (v := 1) o G M (by decide) (by decide) R a3
            rw [t1, Option.bind_some, t2, Option.bind_some]
            cases b with
            | true =>
              rw [if_pos rfl, if_pos rfl, t3 rfl, Option.bind_some]
              exact ⟨true, _, _, rfl, rfl, Scr_19 _ _, ScM_nw, fun _ => RR_mono (RR_tr o g g2 t5) (by omega)⟩
            | false =>
              rw [if_neg Bool.false_ne_true, if_neg Bool.false_ne_true]
              exact ⟨false, _, _, rfl, rfl, Scr_19 _ _, ScM_refl _, (fun h => by cases h)⟩
          · rw [if_neg h20, if_neg h20]
            exact ⟨false, _, _, rfl, rfl, Scr_refl _, ScM_refl _, (fun h => by cases h)⟩
        · rw [if_neg h3, if_neg h3]
          by_cases h4 : a1 = nI 4
          · rw [if_pos h4, if_pos h4]
            rcases ix_cases a2 (dL y) with ⟨l, hl, -, rfl⟩ | hbad
            · have e35 : g2 35 (35 + l) = nr g2 1 (4 + l) := by unfold nr; congr 1; omega
              rw [if_pos (c_isLark_ok o G hl), if_pos (m_isLark_ok o M hl), c_coins (t := 4) o G hl, Option.bind_some, nI_add, if_pos (inb_nI (by omega) (by decide)), nI_clamp (by omega), e35, ← (R.1 l hl).2]
              by_cases hc : g 19 (4 + l) < a3
              · exact ⟨false, g, g2, by rw [if_pos hc], by rw [if_pos hc], Scr_refl _, ScM_refl _, (fun h => by cases h)⟩
              · exact ⟨true, g, g2, by rw [if_neg hc], by rw [if_neg hc], Scr_refl _, ScM_refl _, fun _ => RR_mono R (by omega)⟩
            · rw [if_neg (ntr (c_isLark_no o G hbad)), if_neg (ntr (m_isLark_no o M hbad))]
              exact ⟨false, _, _, rfl, rfl, Scr_refl _, ScM_refl _, (fun h => by cases h)⟩
          · rw [if_neg h4, if_neg h4]
            by_cases h5 : a1 = nI 5
            · rw [if_pos h5, if_pos h5]
              by_cases h20 : a2 = 0
              · rw [if_pos h20, if_pos h20]
                rcases ix_cases a3 (dL y) with ⟨l, hl, -, rfl⟩ | hbad
                · obtain ⟨d, c1, c2, c3⟩ := R.2.2.2.1
                  have e59 : g2 35 59 = nr g2 1 28 := rfl
                  rw [if_pos (c_isLark_ok o G hl), if_pos (m_isLark_ok o M hl), c_drown (t := 4) o G hl c1 c2, nI_clamp (by decide), e59, c3, m_has, has_nI (by omega) (by omega)]
                  cases d.testBit l with
                  | true => exact ⟨false, g, g2, by rw [if_pos rfl], by rw [if_pos rfl], Scr_refl _, ScM_refl _, (fun h => by cases h)⟩
                  | false => exact ⟨true, g, g2, by rw [if_neg Bool.false_ne_true], by rw [if_neg Bool.false_ne_true], Scr_refl _, ScM_refl _, fun _ => RR_mono R (by omega)⟩
                · rw [if_neg (ntr (c_isLark_no o G hbad)), if_neg (ntr (m_isLark_no o M hbad))]
                  exact ⟨false, _, _, rfl, rfl, Scr_refl _, ScM_refl _, (fun h => by cases h)⟩
              · rw [if_neg h20, if_neg h20]
                exact ⟨false, _, _, rfl, rfl, Scr_refl _, ScM_refl _, (fun h => by cases h)⟩
            · rw [if_neg h5, if_neg h5]
              exact ⟨false, _, _, rfl, rfl, Scr_refl _, ScM_refl _, (fun h => by cases h)⟩
theorem thou {n : Nat} (hn : n < 5) : sX8_thousands (nI n) = some (lN (1000 ^ n)) ∧ sX9_thousandTo (nI n) = some (lN (1000 ^ n)) := co_dec (N := 5) (P := fun n => sX8_thousands (nI n) = some (lN (1000 ^ n)) ∧ sX9_thousandTo (nI n) = some (lN (1000 ^ n))) (by decide +kernel) hn
theorem pw1000 {j : Nat} (h : j < 5) : 1000 ^ j < 2 ^ 62 ∧ 0 < 1000 ^ j := by
  have : 1000 ^ j ≤ 1000 ^ 4 := Nat.pow_le_pow_right (by decide) (by omega)
  exact ⟨Nat.lt_of_le_of_lt this (by decide), Nat.pow_pos (by decide)⟩
theorem judge_loop (o : GO y) {n : Nat} (hn : n ≤ 4) (v2 : Int64) : ∀ (k i : Nat), i + k = n → ∀ (B : Nat) (g g2 : Hg) (un : Int64), GC y g → GM y g2 → B + k + 1 < 2 ^ 20 → RR y B (g 19) (nr g2 1) → (i < n → un = lN (1000 ^ (n - 1 - i))) → ∃ x g' h, (∀ m, k < m → sX8_judge_49 (nI n) v2 m g un (nI i) = some (x, g')) ∧ (∀ m, k < m → sX9_judge_36 (nI n) v2 m g2 (nI i) = some (x, h)) ∧ Scr g g' ∧ ScM g2 h := by
  intro k
  induction k with
  | zero =>
    intro i hi B g g2 un G M hB R hu
    refine ⟨-9, g, g2, fun m hm => ?_, fun m hm => ?_, Scr_refl _, ScM_refl _⟩
    · obtain ⟨m, rfl⟩ : ∃ m', m = m' + 1 := ⟨m - 1, by omega⟩
      rw [sX8_judge_49, if_pos (by rw [nI_leI (by omega) (by omega)]; omega)]
    · obtain ⟨m, rfl⟩ : ∃ m', m = m' + 1 := ⟨m - 1, by omega⟩
      rw [sX9_judge_36, if_pos (by rw [nI_leI (by omega) (by omega)]; omega)]
  | succ k ih =>
    intro i hi B g g2 un G M hB R hu
    have eu := hu (by omega)
    obtain ⟨w1, w2⟩ := pw1000 (j := n - 1 - i) (by omega)
    have nzu : nzL (lN (1000 ^ (n - 1 - i))) = true := by
      have : ¬ lN (1000 ^ (n - 1 - i)) = 0 := fun q => by
        have e : (1000 : Nat) ^ (n - 1 - i) = 0 := (pk_lEQ (a := 1000 ^ (n - 1 - i)) (b := 0) (Nat.lt_trans w1 (by decide)) (by decide)).mp q
        rw [e] at w2
        exact Nat.lt_irrefl _ w2
      simp only [nzL, this]; rfl
    have hle : ¬ lg_cmp (lN (1000 ^ (n - 1 - i))) (lN 0) ≤ 0 := by
      rw [lg_cmp_le, pk_lLE (by omega) (by decide)]; omega
    have hth : sX9_thousandTo ((nI n - nI 1) - nI i) = some (lN (1000 ^ (n - 1 - i))) := by
      rw [pk_sub (by omega), pk_sub (by omega)]; exact (thou (by omega)).2
    have hnext : i + 1 < n → lN (1000 ^ (n - 1 - i)) / 1000 = lN (1000 ^ (n - 1 - (i + 1))) := fun h => by
      rw [show (1000 : Int64) = lN 1000 from rfl, pk_lDiv (by omega) (by decide) (by decide)]
      have e : n - 1 - i = n - 1 - (i + 1) + 1 := by omega
      rw [e, Nat.pow_succ, Nat.mul_div_cancel _ (by decide)]
    obtain ⟨b, g', h, p1, p2, p3, p4, p5⟩ := so_same o G M (by omega) R ((Int64.toInt32 ((v2 / lN (1000 ^ (n - 1 - i))) - (v2 / lN (1000 ^ (n - 1 - i))) / ((1000 : Int64)) * ((1000 : Int64)))) / (nI 100)) (((Int64.toInt32 ((v2 / lN (1000 ^ (n - 1 - i))) - (v2 / lN (1000 ^ (n - 1 - i))) / ((1000 : Int64)) * ((1000 : Int64)))) / (nI 10)) - ((Int64.toInt32 ((v2 / lN (1000 ^ (n - 1 - i))) - (v2 / lN (1000 ^ (n - 1 - i))) / ((1000 : Int64)) * ((1000 : Int64)))) / (nI 10)) / (nI 10) * (nI 10)) ((Int64.toInt32 ((v2 / lN (1000 ^ (n - 1 - i))) - (v2 / lN (1000 ^ (n - 1 - i))) / ((1000 : Int64)) * ((1000 : Int64)))) - (Int64.toInt32 ((v2 / lN (1000 ^ (n - 1 - i))) - (v2 / lN (1000 ^ (n - 1 - i))) / ((1000 : Int64)) * ((1000 : Int64)))) / (nI 10) * (nI 10))
    cases b with
    | false =>
      refine ⟨nI i, g', h, fun m hm => ?_, fun m hm => ?_, p3, p4⟩
      · obtain ⟨m, rfl⟩ : ∃ m', m = m' + 1 := ⟨m - 1, by omega⟩
        rw [sX8_judge_49, if_neg (by rw [nI_leI (by omega) (by omega)]; omega), eu, if_neg hle, if_pos nzu, p1, Option.bind_some, if_neg Bool.false_ne_true]
      · obtain ⟨m, rfl⟩ : ∃ m', m = m' + 1 := ⟨m - 1, by omega⟩
        rw [sX9_judge_36, if_neg (by rw [nI_leI (by omega) (by omega)]; omega), hth, Option.bind_some, if_pos nzu, p2, Option.bind_some, if_neg Bool.false_ne_true]
    | true =>
      obtain ⟨x, g'', h', q1, q2, q3, q4⟩ := ih (i + 1) (by omega) (B + 1) g' h (lN (1000 ^ (n - 1 - i)) / 1000) (GC_scr G p3) (GM_scr M p4) (by omega) (p5 rfl) hnext
      refine ⟨x, g'', h', fun m hm => ?_, fun m hm => ?_, Scr_trans p3 q3, ScM_trans p4 q4⟩
      · obtain ⟨m, rfl⟩ : ∃ m', m = m' + 1 := ⟨m - 1, by omega⟩
        rw [sX8_judge_49, if_neg (by rw [nI_leI (by omega) (by omega)]; omega), eu, if_neg hle, if_pos nzu, p1, Option.bind_some, if_pos rfl, nI_add]
        exact q1 m (by omega)
      · obtain ⟨m, rfl⟩ : ∃ m', m = m' + 1 := ⟨m - 1, by omega⟩
        rw [sX9_judge_36, if_neg (by rw [nI_leI (by omega) (by omega)]; omega), hth, Option.bind_some, if_pos nzu, p2, Option.bind_some, if_pos rfl, nI_add]
        exact q2 m (by omega)
theorem jin {N : Nat} (h1 : 1 ≤ N) (h2 : N < 2 ^ 62) (a : Int64) : sX9_in a (lN 0) (lN N - lN 1) = true ↔ ¬ lg_cmp a (lN 0) < 0 ∧ lg_cmp a (lN N) < 0 := by
  rw [m_in64, lN_sub h1, pk_lT (by decide), pk_lT (by omega), lg_lt, lg_lt, Int64.lt_iff_toInt_lt, Int64.lt_iff_toInt_lt, pk_lT (by decide), pk_lT (by omega)]
  simp only [Bool.and_eq_true, decide_eq_true_eq]
  omega
theorem op_judge (R : R0 y B g g2) (hB : B < 2 ^ 19) (a : Int32) (w : Int64) : ∃ x g' h, sX8_judge g a w = some (x, g') ∧ sX9_judge g2 a w = some (x, h) ∧ Scr g g' ∧ ScM g2 h := by
  have R' := R
  obtain ⟨o, G, M, RR0⟩ := R'
  unfold sX8_judge sX9_judge
  rw [c_within a (by decide) (by decide), m_in a (lN 1) 4 1 4 rfl rfl]
  rcases wi_cases a 1 4 (by decide) with ⟨n, n1, n2, rfl, hw⟩ | hw
  · have hw' : wi (nI n) 1 4 = true := hw
    obtain ⟨w1, w2⟩ := pw1000 (j := n) (by omega)
    rw [if_pos hw, if_pos hw', (thou (n := n) (by omega)).1, (thou (n := n) (by omega)).2, Option.bind_some, Option.bind_some]
    have hj := jin w2 w1 w
    by_cases h1 : lg_cmp w (lN 0) < 0
    · have : ¬ sX9_in w (lN 0) (lN (1000 ^ n) - lN 1) = true := fun q => (hj.mp q).1 h1
      exact ⟨-2, g, g2, by rw [if_pos h1], by rw [if_neg this], Scr_refl _, ScM_refl _⟩
    · by_cases h2 : lg_cmp w (lN (1000 ^ n)) < 0
      · obtain ⟨g', h, p1, p2, p3, p4, p5⟩ := lay_same R
        obtain ⟨x, g'', h', q1, q2, q3, q4⟩ := judge_loop o n2 w n 0 (by omega) B g' h (lN (1000 ^ (n - 1))) (GC_scr G p3) (GM_scr M p4) (by omega) p5 (fun _ => by rw [Nat.sub_zero])
        refine ⟨x, g'', h', ?_, ?_, Scr_trans p3 q3, ScM_trans p4 q4⟩
        · rw [if_neg h1, if_pos h2, p1, Option.bind_some, pk_sub n1, (thou (n := n - 1) (by omega)).1, Option.bind_some]
          exact q1 100 (by omega)
        · rw [if_pos (hj.mpr ⟨h1, h2⟩), p2, Option.bind_some]
          exact q2 100 (by omega)
      · have : ¬ sX9_in w (lN 0) (lN (1000 ^ n) - lN 1) = true := fun q => h2 (hj.mp q).2
        exact ⟨-2, g, g2, by rw [if_neg h1, if_neg h2], by rw [if_neg this], Scr_refl _, ScM_refl _⟩
  · have hw' : wi a 1 4 = false := hw
    exact ⟨-2, g, g2, by rw [if_neg (ntr hw)], by rw [if_neg (ntr hw')], Scr_refl _, ScM_refl _⟩
end Tria
