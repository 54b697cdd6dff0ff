/-! ===== shares, both ===== -/
/-- the finds that lark k may get, as the reference says -/
def XS (g2 : Hg) (k : Nat) : Nat := ((sX9_getsOf g2 (nI k) (nI 6)).getD 0).toNatClampNeg
def YS (y : Gd) (g2 : Hg) (k : Nat) : Nat := if k < dL y then XS g2 k else 0
def mF (y : Gd) (g2 : Hg) (f : Nat) : Nat := bt (fun j => (YS y g2 j).testBit f) (dL y)
theorem nz_nI {n : Nat} (h0 : 0 < n) (h : n < 2 ^ 31) : nz (nI n) = true := by simp only [nz, nI_ne0 h0 h]; rfl
section Wf
variable {y : Gd} {B : Nat} {g g2 : Hg}
theorem XS_all (R : R0 y B g g2) (hB : B < 2 ^ 19) {k : Nat} (hk : k < dL y) : XS g2 k < 32 ∧ (∀ f, (XS g2 k).testBit f = true → f < dF y) ∧ (∀ g', Scr g g' → ∃ r', sX3_findsToGet g' (nI k) (nI 6) = some (nI (XS g2 k), setA g' 25 r')) ∧ (∀ h, ScM g2 h → sX9_getsOf h (nI k) (nI 6) = some (nI (XS g2 k))) := by
  obtain ⟨X, r, x1, x2, x3, x4⟩ := gets_same R hB hk (show 1 ≤ 6 by decide) (show 6 ≤ 9 by decide)
  have eX : XS g2 k = X := by
    unfold XS
    rw [x3]
    show (nI X).toNatClampNeg = X
    exact nI_clamp (by omega)
  rw [eX]
  refine ⟨x1, fun f hf => (x4 f hf).1, fun g' s => ?_, fun h s => ?_⟩
  · obtain ⟨Z, r', z1, z2, z3, -⟩ := gets_same (R0_scr R s (ScM_refl _)) hB hk (show 1 ≤ 6 by decide) (show 6 ≤ 9 by decide)
    have e : nI Z = nI X := Option.some.inj (z3.symm.trans x3)
    rw [e] at z2
    exact ⟨r', z2⟩
  · obtain ⟨Z, r', z1, z2, z3, -⟩ := gets_same (R0_scr R (Scr_refl _) s) hB hk (show 1 ≤ 6 by decide) (show 6 ≤ 9 by decide)
    have e : nI Z = nI X := congrArg Prod.fst (Option.some.inj (z2.symm.trans x2))
    rw [z3, e]
theorem YS_lt (R : R0 y B g g2) (hB : B < 2 ^ 19) (k : Nat) : YS y g2 k < 32 := by
  unfold YS
  split
  · exact (XS_all R hB (by assumption)).1
  · decide
theorem sh2 (R : R0 y B g g2) (hB : B < 2 ^ 19) (l : Int32) : ∀ (k i : Nat), i + k = 4 → ∀ g', Scr g g' → (∀ j, j < i → g' 26 j = nI (YS y g2 j)) → ∃ g'', (∀ m, k < m → sX3_shareInTwelfths_2 l m g' (nI i) = sX3_shareInTwelfths_45 g'' l 100 (nI 0) (nI 0)) ∧ Scr g g'' ∧ ∀ j, j < 4 → g'' 26 j = nI (YS y g2 j) := by
  have R' := R
  obtain ⟨o, G, M, RR0⟩ := R'
  intro k
  induction k with
  | zero =>
    intro i hi g' s hj
    have e : i = 4 := by omega
    subst e
    refine ⟨g', fun m hm => ?_, s, hj⟩
    obtain ⟨m, rfl⟩ : ∃ m', m = m' + 1 := ⟨m - 1, by omega⟩
    rw [sX3_shareInTwelfths_2, if_pos (by decide)]
  | succ k ih =>
    intro i hi g' s hj
    have G' := GC_scr G s
    by_cases hil : i < dL y
    · obtain ⟨r', hr⟩ := (XS_all R hB hil).2.2.1 g' s
      have eY : YS y g2 i = XS g2 i := by unfold YS; rw [if_pos hil]
      obtain ⟨g'', p1, p2, p3⟩ := ih (i + 1) (by omega) (stA (setA g' 25 r') 26 i (nI (XS g2 i))) (Scr_trans s (Scr_trans (Scr_set (by decide)) (Scr_set (by decide)))) (fun j hji => by
        rw [stA_self]
        by_cases e : j = i
        · subst e; rw [pk_us, eY]
        · rw [pk_un e, setA_ne _ _ (by decide)]; exact hj j (by omega))
      refine ⟨g'', fun m hm => ?_, p2, p3⟩
      obtain ⟨m, rfl⟩ : ∃ m', m = m' + 1 := ⟨m - 1, by omega⟩
      rw [sX3_shareInTwelfths_2, if_neg (by rw [nI_leI (by omega) (by omega)]; omega), if_pos (c_isLark_ok o G' hil), hr, Option.bind_some, if_pos (inb_nI (by omega) (by decide)), nI_clamp (by omega), nI_add]
      exact p1 m (by omega)
    · have eY : YS y g2 i = 0 := by unfold YS; rw [if_neg hil]
      obtain ⟨g'', p1, p2, p3⟩ := ih (i + 1) (by omega) (stA g' 26 i (nI 0)) (Scr_trans s (Scr_set (by decide))) (fun j hji => by
        rw [stA_self]
        by_cases e : j = i
        · subst e; rw [pk_us, eY]
        · rw [pk_un e]; exact hj j (by omega))
      refine ⟨g'', fun m hm => ?_, p2, p3⟩
      obtain ⟨m, rfl⟩ : ∃ m', m = m' + 1 := ⟨m - 1, by omega⟩
      have hno : sX1_isLark g' (nI i) = false := c_isLark_no o G' (Or.inr (by rw [nI_toInt (by omega)]; omega))
      rw [sX3_shareInTwelfths_2, if_neg (by rw [nI_leI (by omega) (by omega)]; omega), if_neg (ntr hno), if_pos (inb_nI (by omega) (by decide)), nI_clamp (by omega), nI_add]
      exact p1 m (by omega)
theorem mF_bit (f j : Nat) : (mF y g2 f).testBit j = (YS y g2 j).testBit f := by
  unfold mF
  rw [bt_testBit]
  by_cases hj : j < dL y
  · rw [decide_eq_true hj, Bool.true_and]
  · have : YS y g2 j = 0 := by unfold YS; rw [if_neg hj]
    rw [this, Nat.zero_testBit, Bool.and_false]
theorem getters (R : R0 y B g g2) (hB : B < 2 ^ 19) {g' : Hg} (hg : ∀ j, j < 4 → g' 26 j = nI (YS y g2 j)) {f : Nat} (hf : f < 5) : sX3_gettersOf g' (nI f) = some (nI (pc 4 (mF y g2 f))) := by
  unfold sX3_gettersOf pc
  refine seqloop (fun m a i => sX3_gettersOf_14 g' (nI f) (nI 4) m a i) (fun i => nI (sm (fun j => b1 ((mF y g2 f).testBit j)) i)) 4 _ (fun m => ?_) (fun m i hi => ?_) 100 (by decide)
  · show sX3_gettersOf_14 _ _ _ _ _ _ = _
    rw [sX3_gettersOf_14, if_pos (by decide)]
  · show sX3_gettersOf_14 _ _ _ _ _ _ = sX3_gettersOf_14 _ _ _ _ _ _
    have hY := YS_lt R hB i
    rw [sX3_gettersOf_14, if_neg (by rw [nI_leI (by omega) (by omega)]; omega), if_pos (inb_nI (by omega) (by decide)), nI_clamp (by omega), hg i hi, has_nI (by omega) (by omega), nI_add, nI_add, sm, mF_bit]
    cases (YS y g2 i).testBit f with
    | true => rw [if_pos rfl]; rfl
    | false => rw [if_neg Bool.false_ne_true]; rfl
theorem sh45 (R : R0 y B g g2) (hB : B < 2 ^ 19) {g' : Hg} (s : Scr g g') (hg : ∀ j, j < 4 → g' 26 j = nI (YS y g2 j)) {l : Nat} (hl : l < dL y) : sX3_shareInTwelfths_45 g' (nI l) 100 (nI 0) (nI 0) = some (nI (sm (fun f => tt l (mF y g2 f)) (dF y)), g') := by
  have R' := R
  obtain ⟨o, G, M, RR0⟩ := R'
  have hL := o.2.2.1
  have hF := o.2.1
  have G' := GC_scr G s
  have hYl := YS_lt R hB l
  refine seqloop (fun m a i => sX3_shareInTwelfths_45 g' (nI l) m a i) (fun i => nI (sm (fun f => tt l (mF y g2 f)) i)) (dF y) _ (fun m => ?_) (fun m i hi => ?_) 100 (by omega)
  · show sX3_shareInTwelfths_45 _ _ _ _ _ = _
    rw [sX3_shareInTwelfths_45, sX1_findCount, G'.2.1, if_pos (by rw [nI_leI (by omega) (by omega)]; exact Nat.le_refl _)]
  · show sX3_shareInTwelfths_45 _ _ _ _ _ = sX3_shareInTwelfths_45 _ _ _ _ _
    have hpc : pc 4 (mF y g2 i) ≤ 4 := by
      unfold pc
      have := sm_le (f := fun j => b1 ((mF y g2 i).testBit j)) (c := 1) (fun k => by unfold b1; split <;> omega) 4
      omega
    have htt : tt l (mF y g2 i) = if (YS y g2 l).testBit i = true then 12 / (if 1 < pc 4 (mF y g2 i) then pc 4 (mF y g2 i) else 1) else 0 := by unfold tt; rw [mF_bit]
    have emx : (if nI 1 < nI (pc 4 (mF y g2 i)) then nI (pc 4 (mF y g2 i)) else nI 1) = nI (if 1 < pc 4 (mF y g2 i) then pc 4 (mF y g2 i) else 1) := by
      by_cases h : 1 < pc 4 (mF y g2 i)
      · rw [if_pos h, if_pos (by rw [nI_ltI (by omega) (by omega)]; exact h)]
      · rw [if_neg h, if_neg (by rw [nI_ltI (by omega) (by omega)]; exact h)]
    have hmx : 0 < (if 1 < pc 4 (mF y g2 i) then pc 4 (mF y g2 i) else 1) ∧ (if 1 < pc 4 (mF y g2 i) then pc 4 (mF y g2 i) else 1) ≤ 4 := by split <;> omega
    rw [sX3_shareInTwelfths_45, sX1_findCount, G'.2.1, if_neg (by rw [nI_leI (by omega) (by omega)]; omega), if_pos (c_isLark_ok o G' hl), if_pos (inb_nI (by omega) (by decide)), nI_clamp (by omega), hg l (by omega), has_nI (by omega) (by omega), getters R hB hg (by omega), Option.bind_some, emx, if_pos (nz_nI hmx.1 (by omega)), pk_div (by decide) hmx.1 (by omega), nI_add, nI_add, sm, htt]
    cases (YS y g2 l).testBit i with
    | true => rw [if_pos rfl, if_pos rfl]
    | false => rw [if_neg Bool.false_ne_true, if_neg Bool.false_ne_true]; rfl
theorem got_loop (R : R0 y B g g2) (hB : B < 2 ^ 19) {h : Hg} (s : ScM g2 h) (hh : ∀ j, j < dL y → h 45 j = nI (XS g2 j)) {S : Nat} (hS : S < 16) : ∀ (k i : Nat), i + k = dL y → ∀ a, a < 32 → ∃ a', a' < 32 ∧ (∀ m, k < m → sX9_gotBy_4 h (nI S) m (nI a) (nI i) = some (nI (pc 5 a'))) ∧ ∀ f, (a'.testBit f = true ↔ a.testBit f = true ∨ ∃ j, i ≤ j ∧ j < dL y ∧ S.testBit j = true ∧ (XS g2 j).testBit f = true) := by
  have R' := R
  obtain ⟨o, G, M, RR0⟩ := R'
  have hL := o.2.2.1
  have M' := GM_scr M s
  intro k
  induction k with
  | zero =>
    intro i hi a ha
    refine ⟨a, ha, fun m hm => ?_, fun f => ⟨Or.inl, fun q => ?_⟩⟩
    · obtain ⟨m, rfl⟩ : ∃ m', m = m' + 1 := ⟨m - 1, by omega⟩
      rw [sX9_gotBy_4, M'.2.2.1, if_pos (by rw [nI_leI (by omega) (by omega)]; omega), ones_pc ha, Option.bind_some]
    · rcases q with q | ⟨j, h1, h2, -⟩
      · exact q
      · omega
  | succ k ih =>
    intro i hi a ha
    cases hb : S.testBit i with
    | false =>
      obtain ⟨a', p1, p2, p3⟩ := ih (i + 1) (by omega) a ha
      refine ⟨a', p1, fun m hm => ?_, fun f => ?_⟩
      · obtain ⟨m, rfl⟩ : ∃ m', m = m' + 1 := ⟨m - 1, by omega⟩
        rw [sX9_gotBy_4, M'.2.2.1, if_neg (by rw [nI_leI (by omega) (by omega)]; omega), m_has, has_nI (by omega) (by omega), hb, if_neg Bool.false_ne_true, or0, nI_add]
        exact p2 m (by omega)
      · rw [p3]
        constructor
        · rintro (q | ⟨j, h1, h2⟩)
          · exact Or.inl q
          · exact Or.inr ⟨j, by omega, h2⟩
        · rintro (q | ⟨j, h1, h2, h3, h4⟩)
          · exact Or.inl q
          · by_cases e : j = i
            · subst e; rw [hb] at h3; cases h3
            · exact Or.inr ⟨j, by omega, h2, h3, h4⟩
    | true =>
      have hX := (XS_all R hB (show i < dL y by omega)).1
      obtain ⟨a', p1, p2, p3⟩ := ih (i + 1) (by omega) (a ||| XS g2 i) (Nat.or_lt_two_pow (n := 5) ha hX)
      refine ⟨a', p1, fun m hm => ?_, fun f => ?_⟩
      · obtain ⟨m, rfl⟩ : ∃ m', m = m' + 1 := ⟨m - 1, by omega⟩
        rw [sX9_gotBy_4, M'.2.2.1, if_neg (by rw [nI_leI (by omega) (by omega)]; omega), m_has, has_nI (by omega) (by omega), hb, if_pos rfl, if_pos (inb_nI (by omega) (by decide)), nI_clamp (by omega), hh i (by omega), or_nI, nI_add]
        exact p2 m (by omega)
      · rw [p3, Nat.testBit_or, Bool.or_eq_true]
        constructor
        · rintro ((q | q) | ⟨j, h1, h2⟩)
          · exact Or.inl q
          · exact Or.inr ⟨i, Nat.le_refl _, by omega, hb, q⟩
          · exact Or.inr ⟨j, by omega, h2⟩
        · rintro (q | ⟨j, h1, h2, h3, h4⟩)
          · exact Or.inl (Or.inl q)
          · by_cases e : j = i
            · subst e; exact Or.inl (Or.inr h4)
            · exact Or.inr ⟨j, by omega, h2, h3, h4⟩
theorem m_gotBy (R : R0 y B g g2) (hB : B < 2 ^ 19) {h : Hg} (s : ScM g2 h) (hh : ∀ j, j < dL y → h 45 j = nI (XS g2 j)) {S : Nat} (hS : S < 16) : sX9_gotBy h (nI S) = some (nI (sm (fun f => em (mF y g2 f) S) 5)) := by
  have hL := R.1.2.2.1
  obtain ⟨a, p1, p2, p3⟩ := got_loop R hB s hh hS (dL y) 0 (by omega) 0 (by decide)
  unfold sX9_gotBy
  rw [p2 100 (by omega)]
  congr 2
  unfold pc
  refine sm_congr (fun f _ => ?_)
  have key : a.testBit f = true ↔ em (mF y g2 f) S = 1 := by
    rw [p3, em_iff]
    constructor
    · rintro (q | ⟨j, -, h2, h3, h4⟩)
      · rw [Nat.zero_testBit] at q; cases q
      · exact ⟨j, by rw [mF_bit]; unfold YS; rw [if_pos h2]; exact h4, h3⟩
    · rintro ⟨j, h1, h2⟩
      rw [mF_bit] at h1
      unfold YS at h1
      by_cases hj : j < dL y
      · rw [if_pos hj] at h1
        exact Or.inr ⟨j, by omega, hj, h2, h1⟩
      · rw [if_neg hj, Nat.zero_testBit] at h1; cases h1
  cases hb : a.testBit f with
  | true => rw [key.mp hb]; rfl
  | false =>
    have h0 : ¬ em (mF y g2 f) S = 1 := fun q => by rw [key.mpr q] at hb; cases hb
    have : em (mF y g2 f) S = 0 := by
      unfold em at h0 ⊢
      split
      · rfl
      · rename_i q; rw [if_neg q] at h0; exact absurd rfl h0
    rw [this]; rfl
theorem sh44 (R : R0 y B g g2) (hB : B < 2 ^ 19) {h : Hg} (s : ScM g2 h) (hh : ∀ j, j < dL y → h 45 j = nI (XS g2 j)) {l : Nat} (hl : l < dL y) (u : Int32) : sX9_share_44 h (nI l) u 100 (nI 0) (nI 0) = some (if u = 0 then nI (12 / Nat.gcd (sm (fun f => tt l (mF y g2 f)) 5) 12) else nI (sm (fun f => tt l (mF y g2 f)) 5 / Nat.gcd (sm (fun f => tt l (mF y g2 f)) 5) 12), h) := by
  have R' := R
  obtain ⟨o, G, M, RR0⟩ := R'
  have hL := o.2.2.1
  have M' := GM_scr M s
  have hpl : (2 : Nat) ^ dL y ≤ 2 ^ 4 := Nat.pow_le_pow_right (by decide) hL
  have hpl' : (2 : Nat) ^ l < 2 ^ 4 := Nat.pow_lt_pow_right (by decide) (by omega)
  have ht : sm (fun f => tt l (mF y g2 f)) 5 ≤ 60 := sm_le (c := 12) (fun f => tt_le l _) 5
  have hm : ∀ f, mF y g2 f < 2 ^ dL y := fun f => bt_lt _ _
  have htot : 12 * sm (fun S => wS (dL y) l S * (sm (fun f => em (mF y g2 f) (S ||| 2 ^ l)) 5 - sm (fun f => em (mF y g2 f) S) 5)) (2 ^ dL y) = fct (dL y) * sm (fun f => tt l (mF y g2 f)) 5 := by
    rw [shap, ← sm_mul, ← sm_mul]
    exact sm_congr (fun f _ => q_t (by omega) hl (hm f))
  have hfr := frac (L := dL y) (by omega) (by omega) ht htot
  have hfc : fct (dL y) ≤ 24 ∧ 0 < fct (dL y) := by
    have : dL y = 1 ∨ dL y = 2 ∨ dL y = 3 ∨ dL y = 4 := by omega
    rcases this with e | e | e | e <;> rw [e] <;> decide
  have hts : sm (fun S => wS (dL y) l S * (sm (fun f => em (mF y g2 f) (S ||| 2 ^ l)) 5 - sm (fun f => em (mF y g2 f) S) 5)) (2 ^ dL y) ≤ 120 := by
    have : fct (dL y) * sm (fun f => tt l (mF y g2 f)) 5 ≤ 24 * 60 := Nat.mul_le_mul hfc.1 ht
    omega
  refine seqloop (fun m a i => sX9_share_44 h (nI l) u m a i) (fun i => nI (sm (fun S => wS (dL y) l S * (sm (fun f => em (mF y g2 f) (S ||| 2 ^ l)) 5 - sm (fun f => em (mF y g2 f) S) 5)) i)) (2 ^ dL y) _ (fun m => ?_) (fun m i hi => ?_) 100 (by omega)
  · show sX9_share_44 _ _ _ _ _ _ = _
    generalize sm (fun S => wS (dL y) l S * (sm (fun f => em (mF y g2 f) (S ||| 2 ^ l)) 5 - sm (fun f => em (mF y g2 f) S) 5)) (2 ^ dL y) = tot at *
    have hg : 0 < Nat.gcd tot (fct (dL y)) := Nat.gcd_pos_of_pos_right _ hfc.2
    have hg2 : Nat.gcd tot (fct (dL y)) ≤ fct (dL y) := Nat.gcd_le_right _ hfc.2
    have nzg : nz (nI (Nat.gcd tot (fct (dL y)))) = true := by simp only [nz, nI_ne0 hg (by omega)]; rfl
    rw [sX9_share_44, M'.2.2.1, bit_nI (by omega), if_pos (by rw [nI_leI (by omega) (by omega)]; exact Nat.le_refl _), fct_m (by omega), Option.bind_some, div_m (by omega) (by omega), Option.bind_some, Option.bind_some, if_pos nzg, if_pos nzg, pk_div (by omega) hg (by omega), pk_div (by omega) hg (by omega), hfr.1, hfr.2]
    split <;> rfl
  · show sX9_share_44 _ _ _ _ _ _ = sX9_share_44 _ _ _ _ _ _
    have hor : i ||| 2 ^ l < 16 := Nat.or_lt_two_pow (n := 4) (by omega) hpl'
    rw [sX9_share_44, M'.2.2.1, bit_nI (by omega), if_neg (by rw [nI_leI (by omega) (by omega)]; omega), m_has, has_nI (by omega) (by omega), nI_add, sm]
    cases hb : i.testBit l with
    | true =>
      have hw0 : wS (dL y) l i = 0 := by unfold wS; rw [hb, if_pos rfl]
      rw [if_pos rfl, hw0, Nat.zero_mul]
      rfl
    | false =>
      have hpc := pcS (by omega) hl hi hb
      have hmono : sm (fun f => em (mF y g2 f) i) 5 ≤ sm (fun f => em (mF y g2 f) (i ||| 2 ^ l)) 5 := by
        have e : sm (fun f => em (mF y g2 f) (i ||| 2 ^ l)) 5 = sm (fun f => em (mF y g2 f) i) 5 + sm (fun f => em (mF y g2 f) (i ||| 2 ^ l) - em (mF y g2 f) i) 5 := by
          rw [← sm_add]
          exact sm_congr (fun f _ => by have := em_mono (mF y g2 f) i l; omega)
        omega
      have hw0 : wS (dL y) l i = fct (pc 5 i) * fct (dL y - 1 - pc 5 i) := by unfold wS; rw [hb, if_neg Bool.false_ne_true]
      rw [if_neg Bool.false_ne_true, hw0, ones_pc (by omega), Option.bind_some, fct_m (by omega), Option.bind_some, Option.bind_some, pk_sub (by omega), pk_sub (by omega), fct_m (by omega), Option.bind_some, bit_nI (by omega), or_nI, m_gotBy R hB s hh hor, Option.bind_some, m_gotBy R hB s hh (by omega), Option.bind_some, pk_mul, pk_sub hmono, pk_mul, nI_add]
theorem sh12 (R : R0 y B g g2) (hB : B < 2 ^ 19) (l u : Int32) : ∀ (k i : Nat), i + k = dL y → ∀ h, ScM g2 h → (∀ j, j < i → h 45 j = nI (XS g2 j)) → ∃ h', (∀ m, k < m → sX9_share_12 l u m h (nI i) = sX9_share_44 h' l u 100 (nI 0) (nI 0)) ∧ ScM g2 h' ∧ ∀ j, j < dL y → h' 45 j = nI (XS g2 j) := by
  have R' := R
  obtain ⟨o, G, M, RR0⟩ := R'
  have hL := o.2.2.1
  intro k
  induction k with
  | zero =>
    intro i hi h s hj
    refine ⟨h, fun m hm => ?_, s, fun j hjl => hj j (by omega)⟩
    obtain ⟨m, rfl⟩ : ∃ m', m = m' + 1 := ⟨m - 1, by omega⟩
    rw [sX9_share_12, (GM_scr M s).2.2.1, if_pos (by rw [nI_leI (by omega) (by omega)]; omega)]
  | succ k ih =>
    intro i hi h s hj
    have hx := (XS_all R hB (show i < dL y by omega)).2.2.2 h s
    obtain ⟨h', p1, p2, p3⟩ := ih (i + 1) (by omega) (stA h 45 i (nI (XS g2 i))) (ScM_trans s ScM_45) (fun j hji => by
      rw [stA_self]
      by_cases e : j = i
      · subst e; rw [pk_us]
      · rw [pk_un e]; exact hj j (by omega))
    refine ⟨h', fun m hm => ?_, p2, p3⟩
    obtain ⟨m, rfl⟩ : ∃ m', m = m' + 1 := ⟨m - 1, by omega⟩
    rw [sX9_share_12, (GM_scr M s).2.2.1, if_neg (by rw [nI_leI (by omega) (by omega)]; omega), hx, Option.bind_some, if_pos (inb_nI (by omega) (by decide)), nI_clamp (by omega), nI_add]
    exact p1 m (by omega)
theorem op_share (R : R0 y B g g2) (hB : B < 2 ^ 19) (a u : Int32) : ∃ x g' h, sX8_share g a u = some (x, g') ∧ sX9_share g2 a u = some (x, h) ∧ Scr g g' ∧ ScM g2 h := by
  have R' := R
  obtain ⟨o, G, M, RR0⟩ := R'
  have hL := o.2.2.1
  have hF := o.2.1
  unfold sX8_share sX9_share
  rcases ix_cases a (dL y) with ⟨l, hl, -, rfl⟩ | hbad
  · obtain ⟨g', p1, p2, p3⟩ := sh2 R hB (nI l) 4 0 rfl g (Scr_refl _) (fun j hj => absurd hj (Nat.not_lt_zero _))
    obtain ⟨h, q1, q2, q3⟩ := sh12 R hB (nI l) u (dL y) 0 (by omega) g2 (ScM_refl _) (fun j hj => absurd hj (Nat.not_lt_zero _))
    have e5 : sm (fun f => tt l (mF y g2 f)) 5 = sm (fun f => tt l (mF y g2 f)) (dF y) := by
      refine sm_ext hF (fun _ _ => rfl) (fun f hf _ => ?_)
      have hz : (mF y g2 f).testBit l = false := by
        rw [mF_bit]
        unfold YS
        rw [if_pos hl]
        cases hb : (XS g2 l).testBit f with
        | false => rfl
        | true => have := (XS_all R hB hl).2.1 f hb; omega
      unfold tt
      rw [hz, if_neg Bool.false_ne_true]
    have ht : sm (fun f => tt l (mF y g2 f)) (dF y) ≤ 12 * dF y := sm_le (c := 12) (fun f => tt_le l _) (dF y)
    have hsh : sX3_shareInTwelfths g (nI l) = some (nI (sm (fun f => tt l (mF y g2 f)) (dF y)), g') := by
      unfold sX3_shareInTwelfths
      rw [p1 100 (by decide)]
      exact sh45 R hB p2 p3 hl
    refine ⟨if u = 0 then nI (12 / Nat.gcd (sm (fun f => tt l (mF y g2 f)) (dF y)) 12) else nI (sm (fun f => tt l (mF y g2 f)) (dF y) / Nat.gcd (sm (fun f => tt l (mF y g2 f)) (dF y)) 12), g', h, ?_, ?_, p2, q2⟩
    · rw [if_pos (c_isLark_ok o G hl), hsh, Option.bind_some, part_c (by omega) (by decide) (by decide), Option.bind_some]
    · rw [if_pos (m_isLark_ok o M hl), q1 100 (by omega), sh44 R hB q2 q3 hl u, e5]
  · exact ⟨-1, g, g2, by rw [if_neg (ntr (c_isLark_no o G hbad))], by rw [if_neg (ntr (m_isLark_no o M hbad))], Scr_refl _, ScM_refl _⟩
end Wf
