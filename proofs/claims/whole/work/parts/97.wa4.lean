/-! ===== gets ===== -/
theorem price_nI {k a : Nat} (ha : a ≤ 9) (u : Int32) : ∃ z, z < 32 ∧ sX9_priceOf (nI k) (nI a) u = nI z := by
  unfold sX9_priceOf
  rw [pk_mul, pk_div (by omega) (by decide) (by decide)]
  repeat' split
  · exact ⟨a, by omega, rfl⟩
  · exact ⟨0, by omega, rfl⟩
  · exact ⟨0, by omega, rfl⟩
  · exact ⟨2 * a, by omega, rfl⟩
  · exact ⟨a / 2, by omega, rfl⟩
theorem m9_le {z : Nat} (hz : z < 32) : ¬ nI z ≤ -9 := by
  rw [Int32.le_iff_toInt_le, nI_toInt (by omega), show (-9 : Int32).toInt = -9 by decide]
  omega
section We
variable {y : Gd} {B : Nat} {g g2 : Hg}
def pr (y : Gd) (g2 : Hg) (f : Nat) : Int32 := sX9_priceOf (nI (dK y f)) (nI (dA y f)) (if nI 4 ≤ nr g2 0 (8 + f) then nI 0 else nI 1)
theorem pr_m9 (o : GO y) {f : Nat} (hf : f < dF y) : ¬ pr y g2 f ≤ -9 := by
  obtain ⟨z, z1, z2⟩ := price_nI (k := dK y f) (o.2.2.2.2.2.1 f hf).2.1 (if nI 4 ≤ nr g2 0 (8 + f) then nI 0 else nI 1)
  unfold pr
  rw [z2]
  exact m9_le z1
theorem c_worthGet (o : GO y) (G : GC y g) (R : RR y B (g 18) (nr g2 0)) {f : Nat} (hf : f < dF y) (h0 : nr g2 0 (13 + f) = nI 0) : sX3_worthToGet g (nI f) = some (pr y g2 f) := by
  obtain ⟨sb, -, -, s3⟩ := R.2.2.2.2.2
  obtain ⟨c, c1, c2, c3⟩ : ∃ c, c < 12 ∧ g 18 (8 + f) = nI c ∧ nr g2 0 (8 + f) = nI c := by
    rcases s3 f hf with ⟨-, ⟨c, z1, z2, z3⟩, -, -⟩ | ⟨z1, -⟩ | ⟨z1, -⟩
    · exact ⟨c, z1, z2, z3⟩
    · rw [z1] at h0; exact absurd h0 (by decide)
    · rw [z1] at h0; exact absurd h0 (by decide)
  unfold sX3_worthToGet pr
  rw [c_cellOfFind (t := 3) o G hf, Option.bind_some, show g (3 + 15) (8 + f) = nI c from c2, worth_same o G hf, Option.bind_some, c3, c_within _ (by decide) (by decide)]
  congr 2
  by_cases h : 4 ≤ c
  · rw [if_pos (by rw [nI_leI (by omega) (by omega)]; exact h)]
    have : wi (nI c) ((0 : Nat) : Int) ((3 : Nat) : Int) = false := by
      simp only [wi, nI_toInt (show c < 2 ^ 31 by omega), Bool.and_eq_false_iff, decide_eq_false_iff_not]; omega
    rw [this]; rfl
  · rw [if_neg (by rw [nI_leI (by omega) (by omega)]; exact h), wi_nI (lo := 0) (hi := 3) (by omega) (by omega) (by omega)]; rfl
theorem gets_step (o : GO y) (M : GM y g2) {X f : Nat} (hX : X < 32) (hf : f < dF y) (v1 v2 v3 v5 v6 : Int32) (m : Nat) : sX9_gets_71 g2 v1 v2 v3 (nI X) (m + 1) v5 v6 (nI f) = if X.testBit f = true then (if pr y g2 f ≤ v6 then sX9_gets_71 g2 v1 v2 v3 (nI X) m v5 v6 (nI (f + 1)) else sX9_gets_71 g2 v1 v2 v3 (nI X) m (nI f) (pr y g2 f) (nI (f + 1))) else sX9_gets_71 g2 v1 v2 v3 (nI X) m v5 v6 (nI (f + 1)) := by
  have hF := o.2.1
  rw [sX9_gets_71, M.2.1, if_neg (by rw [nI_leI (by omega) (by omega)]; omega)]
  simp only [nI_add]
  rw [if_pos (inb_nI (by omega) (by decide)), if_pos (inb_nI (by omega) (by decide)), if_pos (inb_nI (by omega) (by decide)), nI_clamp (by omega), nI_clamp (by omega), nr0 g2, (M.2.2.2.2.2.1 f hf).1, (M.2.2.2.2.2.1 f hf).2, m_has, has_nI (by omega) (by omega)]
  unfold pr
  cases X.testBit f with
  | true =>
    simp only [if_true]
    by_cases h4 : nI 4 ≤ nr g2 0 (8 + f)
    · simp only [if_pos h4]
      by_cases hp : sX9_priceOf (nI (dK y f)) (nI (dA y f)) (nI 0) ≤ v6
      · simp only [if_pos hp]
      · simp only [if_neg hp]
    · simp only [if_neg h4]
      by_cases hp : sX9_priceOf (nI (dK y f)) (nI (dA y f)) (nI 1) ≤ v6
      · simp only [if_pos hp]
      · simp only [if_neg hp]
  | false =>
    simp only [if_neg Bool.false_ne_true]
    split <;> rfl
def BI (y : Gd) (g2 : Hg) (X : Nat) (v4 v6 : Int32) : Prop := (v4 = -9 ∧ v6 = -9) ∨ ∃ f, f < dF y ∧ v4 = nI f ∧ v6 = pr y g2 f ∧ X.testBit f = true
theorem best_loop (o : GO y) (G : GC y g) (M : GM y g2) (R : RR y B (g 18) (nr g2 0)) {X : Nat} (hX : X < 32) (hXf : ∀ f, X.testBit f = true → f < dF y ∧ nr g2 0 (13 + f) = nI 0) (v1 v2 : Int32) : ∀ (k i : Nat), i + k = dF y → ∀ v4 v6, BI y g2 X v4 v6 → ∃ v4' v6', BI y g2 X v4' v6' ∧ (∀ m, k < m → sX3_bestFind_14 g v1 v2 (nI X) m v4 (nI i) = some (v4', g)) ∧ (∀ v3 m, k < m → sX9_gets_71 g2 v1 v2 v3 (nI X) m v4 v6 (nI i) = some (if v3 = 0 then v4' else v6')) := by
  have hF := o.2.1
  intro k
  induction k with
  | zero =>
    intro i hi v4 v6 hb
    refine ⟨v4, v6, hb, fun m hm => ?_, fun v3 m hm => ?_⟩
    · obtain ⟨m, rfl⟩ : ∃ m', m = m' + 1 := ⟨m - 1, by omega⟩
      rw [sX3_bestFind_14, sX1_findCount, G.2.1, if_pos (by rw [nI_leI (by omega) (by omega)]; omega)]
    · obtain ⟨m, rfl⟩ : ∃ m', m = m' + 1 := ⟨m - 1, by omega⟩
      rw [sX9_gets_71, M.2.1, if_pos (by rw [nI_leI (by omega) (by omega)]; omega)]
      split <;> rfl
  | succ k ih =>
    intro i hi v4 v6 hb
    have hi' : i < dF y := by omega
    have go : ∀ w4 w6, BI y g2 X w4 w6 → (∀ m, sX3_bestFind_14 g v1 v2 (nI X) (m + 1) v4 (nI i) = sX3_bestFind_14 g v1 v2 (nI X) m w4 (nI (i + 1))) → (∀ v3 m, sX9_gets_71 g2 v1 v2 v3 (nI X) (m + 1) v4 v6 (nI i) = sX9_gets_71 g2 v1 v2 v3 (nI X) m w4 w6 (nI (i + 1))) → ∃ v4' v6', BI y g2 X v4' v6' ∧ (∀ m, k + 1 < m → sX3_bestFind_14 g v1 v2 (nI X) m v4 (nI i) = some (v4', g)) ∧ (∀ v3 m, k + 1 < m → sX9_gets_71 g2 v1 v2 v3 (nI X) m v4 v6 (nI i) = some (if v3 = 0 then v4' else v6')) := fun w4 w6 hw q1 q2 => by
      obtain ⟨v4', v6', p1, p2, p3⟩ := ih (i + 1) (by omega) w4 w6 hw
      refine ⟨v4', v6', p1, fun m hm => ?_, fun v3 m hm => ?_⟩
      · obtain ⟨m, rfl⟩ : ∃ m', m = m' + 1 := ⟨m - 1, by omega⟩
        rw [q1]; exact p2 m (by omega)
      · obtain ⟨m, rfl⟩ : ∃ m', m = m' + 1 := ⟨m - 1, by omega⟩
        rw [q2]; exact p3 v3 m (by omega)
    have cs : ∀ m, sX3_bestFind_14 g v1 v2 (nI X) (m + 1) v4 (nI i) = if X.testBit i = true then (if v4 = -9 then sX3_bestFind_14 g v1 v2 (nI X) m (nI i) (nI (i + 1)) else ((sX3_worthToGet g (nI i)).bind fun x_2 => ((sX3_worthToGet g v4).bind fun x_3 => (if x_2 ≤ x_3 then (sX3_bestFind_14 g v1 v2 (nI X) m v4 (nI (i + 1))) else (sX3_bestFind_14 g v1 v2 (nI X) m (nI i) (nI (i + 1))))))) else sX3_bestFind_14 g v1 v2 (nI X) m v4 (nI (i + 1)) := fun m => by
      rw [sX3_bestFind_14, sX1_findCount, G.2.1, if_neg (by rw [nI_leI (by omega) (by omega)]; omega), has_nI (by omega) (by omega), nI_add]
    cases hb' : X.testBit i with
    | false => exact go v4 v6 hb (fun m => by rw [cs, hb', if_neg Bool.false_ne_true]) (fun v3 m => by rw [gets_step o M hX hi', hb', if_neg Bool.false_ne_true])
    | true =>
      have hwi := c_worthGet o G R hi' (hXf i hb').2
      rcases hb with ⟨rfl, rfl⟩ | ⟨f, f1, rfl, rfl, f4⟩
      · exact go (nI i) (pr y g2 i) (Or.inr ⟨i, hi', rfl, rfl, hb'⟩) (fun m => by rw [cs, hb', if_pos rfl, if_pos rfl]) (fun v3 m => by rw [gets_step o M hX hi', hb', if_pos rfl, if_neg (pr_m9 o hi')])
      · have hwf := c_worthGet o G R f1 (hXf f f4).2
        by_cases hle : pr y g2 i ≤ pr y g2 f
        · exact go (nI f) (pr y g2 f) (Or.inr ⟨f, f1, rfl, rfl, f4⟩) (fun m => by rw [cs, hb', if_pos rfl, if_neg (m9_nI (by omega)), hwi, Option.bind_some, hwf, Option.bind_some, if_pos hle]) (fun v3 m => by rw [gets_step o M hX hi', hb', if_pos rfl, if_pos hle])
        · exact go (nI i) (pr y g2 i) (Or.inr ⟨i, hi', rfl, rfl, hb'⟩) (fun m => by rw [cs, hb', if_pos rfl, if_neg (m9_nI (by omega)), hwi, Option.bind_some, hwf, Option.bind_some, if_neg hle]) (fun v3 m => by rw [gets_step o M hX hi', hb', if_pos rfl, if_neg hle])
theorem op_gets (R : R0 y B g g2) (hB : B < 2 ^ 19) (a b e : Int32) : ∃ x g', sX8_gets g a b e = some (x, g') ∧ sX9_gets g2 a b e = some x ∧ Scr g g' := by
  have R' := R
  obtain ⟨o, G, M, RR0⟩ := R'
  have hL := o.2.2.1
  have hF := o.2.1
  obtain ⟨d, c1, c2, c3⟩ := RR0.2.2.2.1
  unfold sX8_gets sX9_gets
  rcases ix_cases a (dL y) with ⟨l, hl, -, rfl⟩ | hbad
  · rw [if_pos (c_isLark_ok o G hl), if_pos (m_isLark_ok o M hl), c_within b (by decide) (by decide), c_within e (by decide) (by decide), m_in b (lN 1) 9 1 9 rfl rfl, m_in e (lN 0) (lN 1) 0 1 rfl rfl, c_drown (t := 3) o G hl c1 c2, nI_clamp (by decide), nr0 g2 28, c3, m_has, has_nI (by omega) (by omega)]
    rcases wi_cases b 1 9 (by decide) with ⟨n, n1, n2, rfl, hw⟩ | hw
    · have hw' : wi (nI n) 1 9 = true := hw
      rw [if_pos hw, if_pos hw']
      rcases wi_cases e 0 1 (by decide) with ⟨u, -, u2, rfl, hw⟩ | hw
      · have hw' : wi (nI u) 0 1 = true := hw
        rw [if_pos hw, if_pos hw']
        cases hd : d.testBit l with
        | true => exact ⟨-3, g, by rw [if_pos rfl], by rw [if_pos rfl], Scr_refl _⟩
        | false =>
          obtain ⟨X, r', x1, x2, x3, x4⟩ := gets_same R hB hl n1 n2
          have h18 : setA g 25 r' 18 = g 18 := setA_ne _ _ (by decide)
          have G' := GC_row G (show 18 ≤ 25 by decide) r'
          have RR' : RR y B (setA g 25 r' 18) (nr g2 0) := by rw [h18]; exact RR0
          obtain ⟨v4, v6, p1, p2, p3⟩ := best_loop o G' M RR' x1 x4 (nI l) (nI n) (dF y) 0 (by omega) (-9) (-9) (Or.inl ⟨rfl, rfl⟩)
          have hbest : sX3_bestFind g (nI l) (nI n) = some (v4, setA g 25 r') := by
            unfold sX3_bestFind
            rw [x2, Option.bind_some]
            exact p2 100 (by omega)
          refine ⟨if nI u = 0 then v4 else v6, setA g 25 r', ?_, ?_, Scr_set (by decide)⟩
          · rw [if_neg Bool.false_ne_true, hbest, Option.bind_some]
            rcases p1 with ⟨rfl, rfl⟩ | ⟨f, f1, rfl, rfl, f4⟩
            · rw [if_pos rfl]
              split <;> rfl
            · rw [if_neg (m9_nI (by omega))]
              by_cases hu : nI u = 0
              · rw [if_pos hu, if_pos hu]
              · rw [if_neg hu, if_neg hu, c_worthGet o G' RR' f1 (x4 f f4).2, Option.bind_some]
          · rw [if_neg Bool.false_ne_true, x3, Option.bind_some]
            exact p3 (nI u) 100 (by omega)
      · have hw' : wi e 0 1 = false := hw
        exact ⟨-2, g, by rw [if_neg (ntr hw)], by rw [if_neg (ntr hw')], Scr_refl _⟩
    · have hw' : wi b 1 9 = false := hw
      exact ⟨-2, g, by rw [if_neg (ntr hw)], by rw [if_neg (ntr hw')], Scr_refl _⟩
  · exact ⟨-1, g, by rw [if_neg (ntr (c_isLark_no o G hbad))], by rw [if_neg (ntr (m_isLark_no o M hbad))], Scr_refl _⟩
end We
