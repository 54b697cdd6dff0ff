/-! ===== phases ===== -/
theorem or0 (a : Int32) : a ||| nI 0 = a := Int32.or_zero
theorem bI_nI (b : Bool) : bI b = (if b = true then nI 1 else nI 0) := by cases b <;> rfl
section Phas
variable {y : Gd} {B : Nat} {g g2 : Hg}
theorem fit_zero {n : Nat} (hn : n ≤ 6) (n3 : g2 29 23 = nI n) (v1 v2 : Int32) : ∀ (k i : Nat), i + k = n → ∀ m, k < m → sX9_phases_28 g2 v1 v2 m (nI 0) (nI i) = some (nI 0, nI n) := by
  intro k
  induction k with
  | zero =>
    intro i hi m hm
    obtain ⟨m, rfl⟩ : ∃ m', m = m' + 1 := ⟨m - 1, by omega⟩
    have e : i = n := by omega
    subst e
    rw [sX9_phases_28, n3, if_pos (by rw [nI_leI (by omega) (by omega)]; exact Nat.le_refl _)]
  | succ k ih =>
    intro i hi m hm
    obtain ⟨m, rfl⟩ : ∃ m', m = m' + 1 := ⟨m - 1, by omega⟩
    rw [sX9_phases_28, n3, if_neg (by rw [nI_leI (by omega) (by omega)]; omega), if_pos nI_0, nI_add]
    exact ih (i + 1) (by omega) m (by omega)
theorem fit_loop (o : GO y) (G : GC y g) (M : GM y g2) {n p : Nat} (hp : p < 2 ^ 10) (hn : n ≤ 6) (n2 : g 7 3 = nI n) (n3 : g2 29 23 = nI n) (n4 : ∀ k, k < n → ∃ c h b, c < 12 ∧ h ≤ 9 ∧ b ≤ 1 ∧ g 22 k = nI c ∧ g 23 k = nI h ∧ g 24 k = nI b ∧ g2 42 k = nI c ∧ g2 43 k = nI h ∧ g2 44 k = nI b) : ∀ (k i : Nat), i + k = n → ∃ x : Bool, (∀ m, k < m → sX5_fitHour_2 g (nI p) m (nI i) = some x) ∧ (∀ v1 m, k < m → sX9_phases_28 g2 v1 (nI p) m (nI 1) (nI i) = some (bI x, nI n)) := by
  intro k
  induction k with
  | zero =>
    intro i hi
    have e : i = n := by omega
    subst e
    refine ⟨true, fun m hm => ?_, fun v1 m hm => ?_⟩
    · obtain ⟨m, rfl⟩ : ∃ m', m = m' + 1 := ⟨m - 1, by omega⟩
      rw [sX5_fitHour_2, n2, if_pos (by rw [nI_leI (by omega) (by omega)]; exact Nat.le_refl _)]
    · obtain ⟨m, rfl⟩ : ∃ m', m = m' + 1 := ⟨m - 1, by omega⟩
      rw [sX9_phases_28, n3, if_pos (by rw [nI_leI (by omega) (by omega)]; exact Nat.le_refl _)]
      rfl
  | succ k ih =>
    intro i hi
    obtain ⟨x, p1, p2⟩ := ih (i + 1) (by omega)
    obtain ⟨c, h, b, z1, z2, z3, z4, z5, z6, z7, z8, z9⟩ := n4 i (by omega)
    have q1 : ∀ m, sX5_fitHour_2 g (nI p) (m + 1) (nI i) = if bI (bare y c (p + h)) = nI b then sX5_fitHour_2 g (nI p) m (nI (i + 1)) else some false := fun m => by
      rw [sX5_fitHour_2, n2, if_neg (by rw [nI_leI (by omega) (by omega)]; omega), if_neg (by rw [nI_leI (by omega) (by omega)]; omega), if_pos (inb_nI (by omega) (by decide)), if_pos (inb_nI (by omega) (by decide)), nI_clamp (by omega), z4, z5, z6, nI_add, nI_add, c_isBared o G z1 (by omega), Option.bind_some, if_pos (inb_nI (by omega) (by decide))]
    have q2 : ∀ v1 m, sX9_phases_28 g2 v1 (nI p) (m + 1) (nI 1) (nI i) = if bI (bare y c (p + h)) = nI b then sX9_phases_28 g2 v1 (nI p) m (nI 1) (nI (i + 1)) else sX9_phases_28 g2 v1 (nI p) m (nI 0) (nI (i + 1)) := fun v1 m => by
      rw [sX9_phases_28, n3, if_neg (by rw [nI_leI (by omega) (by omega)]; omega), if_neg (by decide), if_pos (inb_nI (by omega) (by decide)), if_pos (inb_nI (by omega) (by decide)), nI_clamp (by omega), z7, z8, z9, nI_add, nI_add, m_isBare o M z1 (by omega), Option.bind_some, if_pos (inb_nI (by omega) (by decide))]
      have hb : b = 0 ∨ b = 1 := by omega
      rcases hb with rfl | rfl
      · rw [if_neg (by decide)]
      · rw [if_pos rfl]
    by_cases hc : bI (bare y c (p + h)) = nI b
    · refine ⟨x, fun m hm => ?_, fun v1 m hm => ?_⟩
      · obtain ⟨m, rfl⟩ : ∃ m', m = m' + 1 := ⟨m - 1, by omega⟩
        rw [q1, if_pos hc]; exact p1 m (by omega)
      · obtain ⟨m, rfl⟩ : ∃ m', m = m' + 1 := ⟨m - 1, by omega⟩
        rw [q2, if_pos hc]; exact p2 v1 m (by omega)
    · refine ⟨false, fun m hm => ?_, fun v1 m hm => ?_⟩
      · obtain ⟨m, rfl⟩ : ∃ m', m = m' + 1 := ⟨m - 1, by omega⟩
        rw [q1, if_neg hc]
      · obtain ⟨m, rfl⟩ : ∃ m', m = m' + 1 := ⟨m - 1, by omega⟩
        rw [q2, if_neg hc]
        exact fit_zero hn n3 v1 (nI p) k (i + 1) (by omega) m (by omega)
theorem phases_loop (o : GO y) (G : GC y g) (M : GM y g2) (hI : SI g g2) {N : Nat} (hN : N = if dT y = 0 then 1 else dT y) : ∀ (k i : Nat), i + k = N → ∀ v : Int32, ∃ x, (∀ m, k < m → sX8_phases_4 g m v (nI i) = some x) ∧ (∀ m, k < m → sX9_phases_4 g2 m v (nI i) = some x) := by
  have hT := o.1
  have hN6 : N ≤ 6 := by rw [hN]; split <;> omega
  obtain ⟨n, n1, n2, n3, n4⟩ := hI
  have eN : (if nI 1 < sX1_tideCount g then sX1_tideCount g else nI 1) = nI N := by
    rw [sX1_tideCount, G.1, hN]
    by_cases h0 : dT y = 0
    · rw [h0]; rfl
    · rw [if_neg h0]
      by_cases h1 : dT y = 1
      · rw [h1]; rfl
      · rw [if_pos (by rw [nI_ltI (by omega) (by omega)]; omega)]
  have hdone : ∀ v m i, N ≤ i → i < 2 ^ 31 → sX9_phases_4 g2 (m + 1) v (nI i) = some v := fun v m i hi hi2 => by
    rw [sX9_phases_4, M.1]
    by_cases h0 : dT y = 0
    · rw [h0, if_pos nI_0, if_pos (by rw [nI_leI (by omega) (by omega)]; rw [hN, if_pos h0] at hi; exact hi)]
    · rw [if_neg (nI_ne0 (by omega) (by omega)), if_pos (by rw [nI_leI (by omega) (by omega)]; rw [hN, if_neg h0] at hi; exact hi)]
  have hstep : ∀ v m i, i < N → sX9_phases_4 g2 (m + 1) v (nI i) = (sX9_phases_28 g2 v (nI i) 100 (nI 1) (nI 0)).bind fun x_3 => (if x_3.1 = 0 then (sX9_phases_4 g2 m (v ||| (nI 0)) (nI i + (nI 1))) else (sX9_phases_4 g2 m (v ||| ((nI 1) <<< (nI i &&& 31))) (nI i + (nI 1)))) := fun v m i hi => by
    rw [sX9_phases_4, M.1]
    by_cases h0 : dT y = 0
    · rw [h0, if_pos nI_0, if_neg (by rw [nI_leI (by omega) (by omega)]; rw [hN, if_pos h0] at hi; omega)]
    · rw [if_neg (nI_ne0 (by omega) (by omega)), if_neg (by rw [nI_leI (by omega) (by omega)]; rw [hN, if_neg h0] at hi; omega)]
  intro k
  induction k with
  | zero =>
    intro i hi v
    refine ⟨v, fun m hm => ?_, fun m hm => ?_⟩
    · obtain ⟨m, rfl⟩ : ∃ m', m = m' + 1 := ⟨m - 1, by omega⟩
      rw [sX8_phases_4, eN, if_pos (by rw [nI_leI (by omega) (by omega)]; omega)]
    · obtain ⟨m, rfl⟩ : ∃ m', m = m' + 1 := ⟨m - 1, by omega⟩
      exact hdone v m i (by omega) (by omega)
  | succ k ih =>
    intro i hi v
    obtain ⟨b, p1, p2⟩ := fit_loop o G M (p := i) (by omega) n1 n2 n3 n4 n 0 (by omega)
    have hfit : sX5_fitHour g (nI i) = some b := by unfold sX5_fitHour; exact p1 100 (by omega)
    have hfm := p2 v 100 (by omega)
    cases b with
    | true =>
      obtain ⟨x, r1, r2⟩ := ih (i + 1) (by omega) (v ||| sX8_bit (nI i))
      refine ⟨x, fun m hm => ?_, fun m hm => ?_⟩
      · obtain ⟨m, rfl⟩ : ∃ m', m = m' + 1 := ⟨m - 1, by omega⟩
        rw [sX8_phases_4, eN, if_neg (by rw [nI_leI (by omega) (by omega)]; omega), hfit, Option.bind_some, if_pos rfl, nI_add]
        exact r1 m (by omega)
      · obtain ⟨m, rfl⟩ : ∃ m', m = m' + 1 := ⟨m - 1, by omega⟩
        rw [hstep v m i (by omega), hfm, Option.bind_some, if_neg (show ¬ bI true = 0 by decide), nI_add]
        exact r2 m (by omega)
    | false =>
      obtain ⟨x, r1, r2⟩ := ih (i + 1) (by omega) v
      refine ⟨x, fun m hm => ?_, fun m hm => ?_⟩
      · obtain ⟨m, rfl⟩ : ∃ m', m = m' + 1 := ⟨m - 1, by omega⟩
        rw [sX8_phases_4, eN, if_neg (by rw [nI_leI (by omega) (by omega)]; omega), hfit, Option.bind_some, if_neg Bool.false_ne_true, nI_add]
        exact r1 m (by omega)
      · obtain ⟨m, rfl⟩ : ∃ m', m = m' + 1 := ⟨m - 1, by omega⟩
        rw [hstep v m i (by omega), hfm, Option.bind_some, if_pos (show bI false = 0 by decide), nI_add, or0]
        exact r2 m (by omega)
theorem op_phases (R : RA y B g g2) : ∃ x, sX8_phases g = some x ∧ sX9_phases g2 = some x := by
  obtain ⟨⟨o, G, M, -⟩, -, -, -, hI⟩ := R
  have hT := o.1
  obtain ⟨x, p1, p2⟩ := phases_loop o G M hI rfl (if dT y = 0 then 1 else dT y) 0 (by omega) (nI 0)
  have h6 : (if dT y = 0 then 1 else dT y) < 100 := by split <;> omega
  exact ⟨x, p1 100 h6, p2 100 h6⟩
end Phas
/-! ===== storms ===== -/
theorem gcd_same : ∀ (k a b : Nat), b < 2 ^ k → a < 2 ^ 31 → k < 31 → (∀ v0 v1 i m, i + 2 * k < 64 → 2 * k < m → sX8_greatestDivisor_7 v0 v1 m (nI a) (nI b) (nI i) = some (nI (Nat.gcd a b))) ∧ (∀ v0 v1 m, 2 * k < m → sX9_common_13 v0 v1 m (nI a) (nI b) = some (nI (Nat.gcd a b))) := by
  intro k
  induction k with
  | zero =>
    intro a b hb ha _
    have e : b = 0 := by omega
    subst e
    rw [Nat.gcd_zero_right]
    refine ⟨fun v0 v1 i m hi hm => ?_, fun v0 v1 m hm => ?_⟩
    · obtain ⟨m, rfl⟩ : ∃ m', m = m' + 1 := ⟨m - 1, by omega⟩
      rw [sX8_greatestDivisor_7, if_neg (by rw [nI_leI (by omega) (by omega)]; omega), if_pos nI_0]
    · obtain ⟨m, rfl⟩ : ∃ m', m = m' + 1 := ⟨m - 1, by omega⟩
      rw [sX9_common_13, if_pos nI_0]
  | succ k ih =>
    intro a b hb ha hk
    have hp : 2 ^ (k + 1) = 2 * 2 ^ k := by rw [Nat.pow_succ]; omega
    have hpk : 2 ^ (k + 1) ≤ 2 ^ 31 := Nat.pow_le_pow_right (by decide) (by omega)
    by_cases h0 : b = 0
    · subst h0
      rw [Nat.gcd_zero_right]
      refine ⟨fun v0 v1 i m hi hm => ?_, fun v0 v1 m hm => ?_⟩
      · obtain ⟨m, rfl⟩ : ∃ m', m = m' + 1 := ⟨m - 1, by omega⟩
        rw [sX8_greatestDivisor_7, if_neg (by rw [nI_leI (by omega) (by omega)]; omega), if_pos nI_0]
      · obtain ⟨m, rfl⟩ : ∃ m', m = m' + 1 := ⟨m - 1, by omega⟩
        rw [sX9_common_13, if_pos nI_0]
    · have hr : a % b < b := Nat.mod_lt _ (by omega)
      have nzb : nz (nI b) = true := by simp only [nz, nI_ne0 (by omega : 0 < b) (by omega)]; rfl
      have s1 : ∀ v0 v1 i m, i < 64 → sX8_greatestDivisor_7 v0 v1 (m + 1) (nI a) (nI b) (nI i) = sX8_greatestDivisor_7 v0 v1 m (nI b) (nI (a % b)) (nI (i + 1)) := fun v0 v1 i m hi => by
        rw [sX8_greatestDivisor_7, if_neg (by rw [nI_leI (by omega) (by omega)]; omega), if_neg (nI_ne0 (by omega) (by omega)), if_pos nzb, pk_rem ha (by omega) (by omega), nI_add]
      have t1 : ∀ v0 v1 m, sX9_common_13 v0 v1 (m + 1) (nI a) (nI b) = sX9_common_13 v0 v1 m (nI b) (nI (a % b)) := fun v0 v1 m => by
        rw [sX9_common_13, if_neg (nI_ne0 (by omega) (by omega)), if_pos nzb, pk_rem ha (by omega) (by omega)]
      have hg1 : Nat.gcd a b = Nat.gcd b (a % b) := by
        rw [Nat.gcd_comm a b, Nat.gcd_rec b a, Nat.gcd_comm]
      by_cases h1 : a % b = 0
      · rw [hg1, h1, Nat.gcd_zero_right]
        rw [h1] at s1 t1
        refine ⟨fun v0 v1 i m hi hm => ?_, fun v0 v1 m hm => ?_⟩
        · obtain ⟨m, rfl⟩ : ∃ m', m = m' + 2 := ⟨m - 2, by omega⟩
          rw [s1 v0 v1 i (m + 1) (by omega), sX8_greatestDivisor_7, if_neg (by rw [nI_leI (by omega) (by omega)]; omega), if_pos nI_0]
        · obtain ⟨m, rfl⟩ : ∃ m', m = m' + 2 := ⟨m - 2, by omega⟩
          rw [t1 v0 v1 (m + 1), sX9_common_13, if_pos nI_0]
      · have hr2 : b % (a % b) < 2 ^ k := by
          by_cases hle : a % b ≤ 2 ^ k
          · exact Nat.lt_of_lt_of_le (Nat.mod_lt _ (by omega)) hle
          · have e : b % (a % b) = b - a % b := by
              rw [Nat.mod_eq_sub_mod (by omega), Nat.mod_eq_of_lt (by omega)]
            omega
        have nzr : nz (nI (a % b)) = true := by simp only [nz, nI_ne0 (by omega : 0 < a % b) (by omega)]; rfl
        have hg2 : Nat.gcd b (a % b) = Nat.gcd (a % b) (b % (a % b)) := by
          rw [Nat.gcd_comm b (a % b), Nat.gcd_rec (a % b) b, Nat.gcd_comm]
        obtain ⟨i1, i2⟩ := ih (a % b) (b % (a % b)) hr2 (by omega) (by omega)
        rw [hg1, hg2]
        refine ⟨fun v0 v1 i m hi hm => ?_, fun v0 v1 m hm => ?_⟩
        · obtain ⟨m, rfl⟩ : ∃ m', m = m' + 2 := ⟨m - 2, by omega⟩
          rw [s1 v0 v1 i (m + 1) (by omega), sX8_greatestDivisor_7, if_neg (by rw [nI_leI (by omega) (by omega)]; omega), if_neg (nI_ne0 (by omega) (by omega)), if_pos nzr, pk_rem (by omega) (by omega) (by omega), nI_add]
          exact i1 v0 v1 (i + 1 + 1) m (by omega) (by omega)
        · obtain ⟨m, rfl⟩ : ∃ m', m = m' + 2 := ⟨m - 2, by omega⟩
          rw [t1 v0 v1 (m + 1), sX9_common_13, if_neg (nI_ne0 (by omega) (by omega)), if_pos nzr, pk_rem (by omega) (by omega) (by omega)]
          exact i2 v0 v1 m (by omega)
theorem div_c {a b : Nat} (ha : a < 2 ^ 31) (hb : b < 2 ^ 30) : sX8_greatestDivisor (nI a) (nI b) = some (nI (Nat.gcd a b)) := by
  unfold sX8_greatestDivisor
  exact (gcd_same 30 a b hb ha (by decide)).1 _ _ 0 100 (by decide) (by decide)
theorem div_m {a b : Nat} (ha : a < 2 ^ 31) (hb : b < 2 ^ 30) : sX9_common (nI a) (nI b) = some (nI (Nat.gcd a b)) := by
  unfold sX9_common
  rw [if_pos (by rw [show (0 : Int32) = nI 0 from rfl, nI_leI (by omega) ha]; omega)]
  exact (gcd_same 30 a b hb ha (by decide)).2 _ _ 100 (by decide)
theorem part_c {a b : Nat} (ha : a < 2 ^ 31) (hb : b < 2 ^ 30) (h0 : 0 < b) (u : Int32) : sX8_partOfFraction (nI a) (nI b) u = some (if u = 0 then nI (b / Nat.gcd a b) else nI (a / Nat.gcd a b)) := by
  have hg : 0 < Nat.gcd a b := Nat.gcd_pos_of_pos_right _ h0
  have hg2 : Nat.gcd a b ≤ b := Nat.gcd_le_right _ h0
  have nzg : nz (nI (Nat.gcd a b)) = true := by simp only [nz, nI_ne0 hg (by omega)]; rfl
  unfold sX8_partOfFraction
  rw [div_c ha hb, Option.bind_some, if_pos (by rw [nI_leI (by omega) (by omega)]; omega), if_pos nzg, if_pos nzg, pk_div (by omega) hg (by omega), pk_div (by omega) hg (by omega)]
  split <;> rfl
section Storm
variable {y : Gd} {B : Nat} {g g2 : Hg}
theorem storms_loop (o : GO y) (G : GC y g) (M : GM y g2) (hB : B < 2 ^ 19) (RR0 : RR y B (g 18) (nr g2 0)) {l n x : Nat} (hl : l < dL y) (hn : n ≤ 6) (hx : x ≤ 10) (u : Int32) : ∀ (k i p q : Nat), i + k = n + 1 → p ≤ q → 0 < q → q * 10 ^ k ≤ 10 ^ 6 → ∃ z, (∀ m, k < m → sX8_storms_59 g (nI l) (nI n) (nI x) u m (nI p) (nI q) (nI i) = some z) ∧ (∀ m, k < m → sX9_storms_63 g2 (nI l) (nI n) (nI x) u m (nI p) (nI q) (nI i) = some z) := by
  have hL := o.2.2.1
  obtain ⟨⟨c, e1, e2, e3⟩, -⟩ := RR0.1 l hl
  obtain ⟨H, b1, b2, b3⟩ := RR0.2.2.1
  intro k
  induction k with
  | zero =>
    intro i p q hi hpq hq hqk
    have hg : 0 < Nat.gcd p q := Nat.gcd_pos_of_pos_right _ hq
    have hg2 : Nat.gcd p q ≤ q := Nat.gcd_le_right _ hq
    have nzg : nz (nI (Nat.gcd p q)) = true := by simp only [nz, nI_ne0 hg (by omega)]; rfl
    refine ⟨if u = 0 then nI (q / Nat.gcd p q) else nI (p / Nat.gcd p q), fun m hm => ?_, fun m hm => ?_⟩
    · obtain ⟨m, rfl⟩ : ∃ m', m = m' + 1 := ⟨m - 1, by omega⟩
      rw [sX8_storms_59, if_pos (by rw [nI_ltI (by omega) (by omega)]; omega), part_c (by omega) (by omega) hq, Option.bind_some]
    · obtain ⟨m, rfl⟩ : ∃ m', m = m' + 1 := ⟨m - 1, by omega⟩
      rw [sX9_storms_63, if_pos (by rw [nI_ltI (by omega) (by omega)]; omega), div_m (by omega) (by omega), Option.bind_some, if_pos nzg, if_pos nzg, pk_div (by omega) hg (by omega), pk_div (by omega) hg (by omega)]
      split <;> rfl
  | succ k ih =>
    intro i p q hi hpq hq hqk
    have hq' : q * 10 * 10 ^ k ≤ 10 ^ 6 := by rw [Nat.pow_succ] at hqk; rw [Nat.mul_assoc, Nat.mul_comm 10]; exact hqk
    have h1 := o.2.2.2.1 c e1
    have h2 := wat_le o (H + i)
    have h3 := o.2.2.2.2.2.2 l hl
    have st8 : ∀ m, sX8_storms_59 g (nI l) (nI n) (nI x) u (m + 1) (nI p) (nI q) (nI i) = (if wat y (H + i) ≤ dH y c + dB y l then (if dH y c + dB y l = wat y (H + i) then sX8_storms_59 g (nI l) (nI n) (nI x) u m (nI (p * (10 - x))) (nI (q * 10)) (nI (i + 1)) else sX8_storms_59 g (nI l) (nI n) (nI x) u m (nI (p * 10)) (nI (q * 10)) (nI (i + 1))) else sX8_storms_59 g (nI l) (nI n) (nI x) u m (nI (p * 0)) (nI (q * 10)) (nI (i + 1))) := fun m => by
      rw [sX8_storms_59, if_neg (by rw [nI_ltI (by omega) (by omega)]; omega)]
      unfold sX3_tenthsToStand
      rw [c_cellOfLark (t := 3) o G hl, Option.bind_some, show g (3 + 15) l = nI c from e2, c_height G e1, Option.bind_some, c_board o G hl, Option.bind_some, c_now, show g (3 + 15) 23 = nI H from b2, nI_add, nI_add, nI_add, c_water o G (by omega), Option.bind_some, pk_mul]
      by_cases hw : wat y (H + i) ≤ dH y c + dB y l
      · rw [if_pos hw, pk_sub hw, if_pos (by rw [show (0 : Int32) = nI 0 from rfl, nI_leI (by omega) (by omega)]; omega)]
        by_cases he : dH y c + dB y l = wat y (H + i)
        · rw [if_pos he, if_pos (by rw [he, Nat.sub_self]; rfl), Option.bind_some, pk_sub hx, pk_mul]
        · rw [if_neg he, if_neg (nI_ne0 (by omega) (by omega)), Option.bind_some, pk_mul]
      · have hneg := pk_sneg (a := dH y c + dB y l) (b := wat y (H + i)) (by omega) (by omega)
        rw [if_neg hw, if_neg (fa_of_lt hneg).2.1, Option.bind_some, pk_mul]
    have st9 : ∀ m, sX9_storms_63 g2 (nI l) (nI n) (nI x) u (m + 1) (nI p) (nI q) (nI i) = (if wat y (H + i) ≤ dH y c + dB y l then (if dH y c + dB y l = wat y (H + i) then sX9_storms_63 g2 (nI l) (nI n) (nI x) u m (nI (p * (10 - x))) (nI (q * 10)) (nI (i + 1)) else sX9_storms_63 g2 (nI l) (nI n) (nI x) u m (nI (p * 10)) (nI (q * 10)) (nI (i + 1))) else sX9_storms_63 g2 (nI l) (nI n) (nI x) u m (nI (p * 0)) (nI (q * 10)) (nI (i + 1))) := fun m => by
      rw [sX9_storms_63, if_neg (by rw [nI_ltI (by omega) (by omega)]; omega), if_pos (inb_nI (by omega) (by decide)), nI_clamp (by omega), nI_clamp (by decide), nr0 g2, nr0 g2, e3, b3, if_pos (inb_nI e1 (by decide)), if_pos (inb_nI (by omega) (by decide)), nI_clamp (by omega), nI_add, nI_add, m_water o M (by omega), Option.bind_some, M.2.2.2.1 c e1, M.2.2.2.2.2.2 l hl, nI_add, pk_mul, pk_mul, pk_mul, pk_sub hx, pk_mul]
      by_cases hw : wat y (H + i) ≤ dH y c + dB y l
      · rw [if_pos hw, pk_sub hw]
        by_cases he : dH y c + dB y l = wat y (H + i)
        · rw [if_pos he, if_pos (by rw [he, Nat.sub_self]; decide), if_pos (by rw [he, Nat.sub_self]; rfl)]
        · rw [if_neg he, if_neg (nI_nle (by omega) (by omega))]
      · have hneg := pk_sneg (a := dH y c + dB y l) (b := wat y (H + i)) (by omega) (by omega)
        rw [if_neg hw, if_pos (fa_of_lt hneg).1, if_neg (fa_of_lt hneg).2.2.2.1]
    have go : ∀ p', p' ≤ q * 10 → ∃ z, (∀ m, k < m → sX8_storms_59 g (nI l) (nI n) (nI x) u m (nI p') (nI (q * 10)) (nI (i + 1)) = some z) ∧ (∀ m, k < m → sX9_storms_63 g2 (nI l) (nI n) (nI x) u m (nI p') (nI (q * 10)) (nI (i + 1)) = some z) := fun p' hp' => ih (i + 1) p' (q * 10) (by omega) hp' (by omega) hq'
    have fin : ∀ p', p' ≤ q * 10 → (∀ m, sX8_storms_59 g (nI l) (nI n) (nI x) u (m + 1) (nI p) (nI q) (nI i) = sX8_storms_59 g (nI l) (nI n) (nI x) u m (nI p') (nI (q * 10)) (nI (i + 1))) → (∀ m, sX9_storms_63 g2 (nI l) (nI n) (nI x) u (m + 1) (nI p) (nI q) (nI i) = sX9_storms_63 g2 (nI l) (nI n) (nI x) u m (nI p') (nI (q * 10)) (nI (i + 1))) → ∃ z, (∀ m, k + 1 < m → sX8_storms_59 g (nI l) (nI n) (nI x) u m (nI p) (nI q) (nI i) = some z) ∧ (∀ m, k + 1 < m → sX9_storms_63 g2 (nI l) (nI n) (nI x) u m (nI p) (nI q) (nI i) = some z) := fun p' hp' f1 f2 => by
      obtain ⟨z, z1, z2⟩ := go p' hp'
      refine ⟨z, fun m hm => ?_, fun m hm => ?_⟩
      · obtain ⟨m, rfl⟩ : ∃ m', m = m' + 1 := ⟨m - 1, by omega⟩
        rw [f1]; exact z1 m (by omega)
      · obtain ⟨m, rfl⟩ : ∃ m', m = m' + 1 := ⟨m - 1, by omega⟩
        rw [f2]; exact z2 m (by omega)
    by_cases hw : wat y (H + i) ≤ dH y c + dB y l
    · by_cases he : dH y c + dB y l = wat y (H + i)
      · exact fin (p * (10 - x)) (Nat.mul_le_mul hpq (by omega)) (fun m => by rw [st8, if_pos hw, if_pos he]) (fun m => by rw [st9, if_pos hw, if_pos he])
      · exact fin (p * 10) (Nat.mul_le_mul hpq (by omega)) (fun m => by rw [st8, if_pos hw, if_neg he]) (fun m => by rw [st9, if_pos hw, if_neg he])
    · exact fin (p * 0) (by omega) (fun m => by rw [st8, if_neg hw]) (fun m => by rw [st9, if_neg hw])
theorem op_storms (R : R0 y B g g2) (hB : B < 2 ^ 19) (a b d u : Int32) : ∃ x, sX8_storms g a b d u = some x ∧ sX9_storms g2 a b d u = some x := by
  obtain ⟨o, G, M, RR0⟩ := R
  have hL := o.2.2.1
  obtain ⟨dd, c1, c2, c3⟩ := RR0.2.2.2.1
  unfold sX8_storms sX9_storms
  rcases ix_cases a (dL y) with ⟨l, hl, -, rfl⟩ | hbad
  · rw [if_pos (c_isLark_ok o G hl), if_pos (m_isLark_ok o M hl), c_within b (by decide) (by decide), c_within d (by decide) (by decide), m_in b (lN 1) 6 1 6 rfl rfl, m_in d (lN 0) 10 0 10 rfl rfl, c_drown (t := 3) o G hl c1 c2, nI_clamp (by decide), nr0 g2, c3, m_has, has_nI (by omega) (by omega)]
    rcases wi_cases b 1 6 (by decide) with ⟨n, n1, n2, rfl, hw⟩ | hw
    · have hw' : wi (nI n) 1 6 = true := hw
      rw [if_pos hw, if_pos hw']
      rcases wi_cases d 0 10 (by decide) with ⟨x, -, x2, rfl, hw⟩ | hw
      · have hw' : wi (nI x) 0 10 = true := hw
        rw [if_pos hw, if_pos hw']
        cases hd : dd.testBit l with
        | true => exact ⟨-3, by rw [if_pos rfl], by rw [if_pos rfl]⟩
        | false =>
          have hpow : 1 * 10 ^ n ≤ 10 ^ 6 := by rw [Nat.one_mul]; exact Nat.pow_le_pow_right (by decide) n2
          obtain ⟨z, z1, z2⟩ := storms_loop o G M hB RR0 hl n2 x2 u n 1 1 1 (by omega) (Nat.le_refl _) (by decide) hpow
          exact ⟨z, by rw [if_neg Bool.false_ne_true]; exact z1 100 (by omega), by rw [if_neg Bool.false_ne_true]; exact z2 100 (by omega)⟩
      · have hw' : wi d 0 10 = false := hw
        exact ⟨-2, by rw [if_neg (ntr hw)], by rw [if_neg (ntr hw')]⟩
    · have hw' : wi b 1 6 = false := hw
      exact ⟨-2, by rw [if_neg (ntr hw)], by rw [if_neg (ntr hw')]⟩
  · exact ⟨-1, by rw [if_neg (ntr (c_isLark_no o G hbad))], by rw [if_neg (ntr (m_isLark_no o M hbad))]⟩
end Storm
