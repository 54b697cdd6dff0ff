/-! ===== a row of the class (27) against a row of the reference (31) ===== -/
/-- the reference's row at a level -/
def nr (g : Hg) (v : Nat) : Nat → Int32 := fun k => g 35 (31 * v + k)
/-- one find: it lies, is carried, is sold; sb: the class's bits of those sold -/
def FR (y : Gd) (r n : Nat → Int32) (sb f : Nat) : Prop :=
  (n (13 + f) = nI 0 ∧ (∃ c, c < 12 ∧ r (8 + f) = nI c ∧ n (8 + f) = nI c) ∧ r (13 + f) = -9 ∧ sb.testBit f = false) ∨
  (n (13 + f) = nI 1 ∧ r (8 + f) = -9 ∧ (∃ l, l < dL y ∧ r (13 + f) = nI l ∧ n (18 + f) = nI l) ∧ r (18 + f) = n (23 + f) ∧ sb.testBit f = false) ∨
  (n (13 + f) = nI 2 ∧ r (8 + f) = -9 ∧ (∃ l, l < dL y ∧ r (13 + f) = nI l ∧ n (18 + f) = nI l) ∧ sb.testBit f = true)
def RR (y : Gd) (B : Nat) (r n : Nat → Int32) : Prop :=
  (∀ l, l < dL y → (∃ c, c < 12 ∧ r l = nI c ∧ n l = nI c) ∧ r (4 + l) = n (4 + l)) ∧
  (∀ f, dF y ≤ f → f < 5 → r (13 + f) = -9) ∧
  (∃ H, H ≤ B ∧ r 23 = nI H ∧ n 30 = nI H) ∧
  (∃ d, d < 16 ∧ r 24 = nI d ∧ n 28 = nI d) ∧
  (∃ w, w < 16 ∧ r 25 = nI w ∧ n 29 = nI w) ∧
  (∃ sb, sb < 32 ∧ r 26 = nI sb ∧ ∀ f, f < dF y → FR y r n sb f)
theorem nI_m9 {l : Nat} (h : l < 2 ^ 31) : ¬ (-9 : Int32) = nI l := by
  intro q
  have := congrArg Int32.toInt q
  rw [nI_toInt h] at this
  have e : (-9 : Int32).toInt = -9 := by decide
  omega
theorem m9_nI {l : Nat} (h : l < 2 ^ 31) : ¬ nI l = (-9 : Int32) := fun q => nI_m9 h q.symm
theorem RR_mono {y : Gd} {B C : Nat} {r n : Nat → Int32} (h : RR y B r n) (hBC : B ≤ C) : RR y C r n := by
  obtain ⟨h1, h2, ⟨H, a, b⟩, h4⟩ := h
  exact ⟨h1, h2, ⟨H, by omega, b⟩, h4⟩
/-- a lark carries a find, as the reference has it -/
def cr (n : Nat → Int32) (l f : Nat) : Bool := decide (n (13 + f) = nI 1) && decide (n (18 + f) = nI l)
theorem cr_yes {n : Nat → Int32} {l f : Nat} : cr n l f = true ↔ n (13 + f) = nI 1 ∧ n (18 + f) = nI l := by simp [cr]
theorem bt_ext {p q : Nat → Bool} {F N : Nat} (hF : F ≤ N) (h1 : ∀ f, f < F → p f = q f) (h2 : ∀ f, F ≤ f → f < N → p f = false) : bt p N = bt q F := by
  have key : ∀ k, F + k ≤ N → bt p (F + k) = bt q F := by
    intro k
    induction k with
    | zero => intro _; exact bt_congr h1
    | succ k ih =>
      intro hk
      rw [← Nat.add_assoc, bt_skip (h2 (F + k) (by omega) (by omega)), ih (by omega)]
  have := key (N - F) (by omega)
  rwa [show F + (N - F) = N by omega] at this
section Row
variable {y : Gd} {B : Nat} {r n : Nat → Int32} {g g2 : Hg}
/-- the class's test for a carried find -/
theorem cr_class (R : RR y B r n) (o : GO y) {l f : Nat} (hl : l < dL y) (hf : f < 5) {sb : Nat} (hs : sb < 32) (h26 : r 26 = nI sb) : (decide (r (13 + f) = nI l) && !(sX8_has (r 26) (nI f))) = (decide (f < dF y) && cr n l f) := by
  have hL := o.2.2.1
  obtain ⟨-, h2, -, -, -, sb', hs', e26, hF⟩ := R
  have e : sb = sb' := by
    have := h26.symm.trans e26
    exact (nI_eq (by omega) (by omega)).mp this
  subst e
  rw [h26, has_nI (by omega) (by omega)]
  by_cases hfF : f < dF y
  · rw [decide_eq_true hfF, Bool.true_and]
    rcases hF f hfF with ⟨a1, -, a3, a4⟩ | ⟨a1, -, ⟨l', b1, b2, b3⟩, -, a5⟩ | ⟨a1, -, -, a4⟩
    · have e1 : ¬ r (13 + f) = nI l := by rw [a3]; exact nI_m9 (by omega)
      have e2 : ¬ n (13 + f) = nI 1 := by rw [a1]; decide
      simp [cr, e1, e2]
    · rw [a5, b2]
      simp [cr, a1, b3]
    · have e2 : ¬ n (13 + f) = nI 1 := by rw [a1]; decide
      simp [cr, a4, e2]
  · rw [decide_eq_false hfF, Bool.false_and]
    have e1 : ¬ r (13 + f) = nI l := by rw [h2 f (by omega) hf]; exact nI_m9 (by omega)
    simp [e1]
theorem c_carriedBy (o : GO y) {t : Nat} (R : RR y B (g (t + 15)) n) {l : Nat} (hl : l < dL y) : sX4_carriedBy g t (nI l) = some (nI (bt (cr n l) (dF y))) := by
  obtain ⟨sb, hs, h26, -⟩ := R.2.2.2.2.2
  have hF := o.2.1
  have e : bt (fun f => decide (f < dF y) && cr n l f) 5 = bt (cr n l) (dF y) := bt_ext hF (fun f hf => by simp [hf]) (fun f hf _ => by simp; intro h; omega)
  rw [← e]
  unfold sX4_carriedBy
  refine seqloop (fun m a i => sX4_carriedBy_4 g t (nI l) m a i) (fun i => nI (bt (fun f => decide (f < dF y) && cr n l f) i)) 5 _ (fun m => ?_) (fun m i hi => ?_) 100 (by decide)
  · show sX4_carriedBy_4 _ _ _ _ _ _ = _
    rw [sX4_carriedBy_4, if_pos (by decide)]
  · show sX4_carriedBy_4 _ _ _ _ _ _ = sX4_carriedBy_4 _ _ _ _ _ _
    have hc := cr_class R o hl hi hs h26
    rw [sX4_carriedBy_4, if_neg (by rw [nI_leI (by omega) (by omega)]; omega), nI_add, nI_add, if_pos (inb_nI (by omega) (by decide)), nI_clamp (by omega), nI_clamp (by decide)]
    cases hp : (decide (i < dF y) && cr n l i) with
    | true =>
      rw [hp] at hc
      simp only [Bool.and_eq_true, decide_eq_true_eq, Bool.not_eq_true'] at hc
      rw [if_pos hc.1, if_neg (ntr hc.2), or_bit (p := fun f => decide (f < dF y) && cr n l f) (by omega) hp]
    | false =>
      rw [hp] at hc
      rw [bt_skip (p := fun f => decide (f < dF y) && cr n l f) hp]
      by_cases h1 : g (t + 15) (13 + i) = nI l
      · rw [if_pos h1]
        have h2 : sX8_has (g (t + 15) 26) (nI i) = true := by simpa [h1] using hc
        rw [if_pos h2]
      · rw [if_neg h1]
theorem m_carriedBy (o : GO y) (G : GM y g2) {v : Nat} (hv : v < 2) {l : Nat} : sX9_carriedBy g2 (nI v) (nI l) = some (nI (bt (cr (nr g2 v) l) (dF y))) := by
  have hF := o.2.1
  unfold sX9_carriedBy
  refine seqloop (fun m a i => sX9_carriedBy_5 g2 (nI v) (nI l) m a i) (fun i => nI (bt (cr (nr g2 v) l) i)) (dF y) _ (fun m => ?_) (fun m i hi => ?_) 100 (by omega)
  · show sX9_carriedBy_5 _ _ _ _ _ _ = _
    rw [sX9_carriedBy_5, if_pos (by rw [G.2.1, nI_leI (by omega) (by omega)]; exact Nat.le_refl _)]
  · show sX9_carriedBy_5 _ _ _ _ _ _ = sX9_carriedBy_5 _ _ _ _ _ _
    rw [sX9_carriedBy_5, if_neg (by rw [G.2.1, nI_leI (by omega) (by omega)]; omega), pk_mul, nI_add, nI_add, nI_add, nI_add, nI_add, if_pos (inb_nI (by omega) (by decide)), nI_clamp (by omega), if_pos (inb_nI (by omega) (by decide)), nI_clamp (by omega)]
    have e1 : g2 35 (31 * v + 13 + i) = nr g2 v (13 + i) := by unfold nr; rw [Nat.add_assoc]
    have e2 : g2 35 (31 * v + 18 + i) = nr g2 v (18 + i) := by unfold nr; rw [Nat.add_assoc]
    rw [e1, e2]
    cases hp : cr (nr g2 v) l i with
    | true =>
      have h := cr_yes.mp hp
      rw [if_pos h.1, if_pos h.2, or_bitM (p := cr (nr g2 v) l) (by omega) hp]
    | false =>
      rw [or_0M (p := cr (nr g2 v) l) hp]
      by_cases h1 : nr g2 v (13 + i) = nI 1
      · rw [if_pos h1, if_neg (fun h2 => by rw [cr_yes.mpr ⟨h1, h2⟩] at hp; cases hp)]
      · rw [if_neg h1]
end Row
