/-! ===== ranges; the reference's ground ===== -/
/-- a in lo .. hi -/
def wi (a : Int32) (lo hi : Int) : Bool := decide (lo ≤ a.toInt) && decide (a.toInt ≤ hi)
theorem wi_nI {lo hi k : Nat} (hk : k < 2 ^ 31) (h1 : lo ≤ k) (h2 : k ≤ hi) : wi (nI k) lo hi = true := by
  simp only [wi, nI_toInt hk, Bool.and_eq_true, decide_eq_true_eq]; omega
theorem wi_cases (a : Int32) (lo hi : Nat) (hh : hi < 2 ^ 31) : (∃ k, lo ≤ k ∧ k ≤ hi ∧ a = nI k ∧ wi a lo hi = true) ∨ wi a lo hi = false := by
  cases h : wi a lo hi with
  | false => exact Or.inr rfl
  | true =>
    left
    simp only [wi, Bool.and_eq_true, decide_eq_true_eq] at h
    have h0 : ¬ a < 0 := fun q => by
      have := Int32.lt_iff_toInt_lt.mp q
      have e : (0 : Int32).toInt = 0 := rfl
      omega
    obtain ⟨j, hj, rfl⟩ := nI_of h0
    rw [nI_toInt hj] at h
    exact ⟨j, by omega, by omega, rfl, rfl⟩
theorem c_within (a : Int32) {lo hi : Nat} (h1 : lo < 2 ^ 31) (h2 : hi < 2 ^ 31) : sX8_within a (nI lo) (nI hi) = wi a lo hi := by
  unfold sX8_within wi
  have e1 : (a < nI lo) ↔ ¬ ((lo : Int) ≤ a.toInt) := by rw [Int32.lt_iff_toInt_lt, nI_toInt h1]; omega
  have e2 : (nI hi < a) ↔ ¬ (a.toInt ≤ (hi : Int)) := by rw [Int32.lt_iff_toInt_lt, nI_toInt h2]; omega
  by_cases c1 : (lo : Int) ≤ a.toInt
  · rw [if_neg (fun q => e1.mp q c1), decide_eq_true c1]
    by_cases c2 : a.toInt ≤ (hi : Int)
    · rw [if_neg (fun q => e2.mp q c2), decide_eq_true c2]; rfl
    · rw [if_pos (e2.mpr c2), decide_eq_false c2]; rfl
  · rw [if_pos (e1.mpr c1), decide_eq_false c1]; rfl
theorem lg_lt (x y : Int64) : lg_cmp x y < 0 ↔ x < y := by
  unfold lg_cmp
  by_cases h1 : y < x
  · rw [if_pos h1]
    have : ¬ x < y := fun q => by
      have a := Int64.lt_iff_toInt_lt.mp h1
      have b := Int64.lt_iff_toInt_lt.mp q
      omega
    simp [this]
  · rw [if_neg h1]
    by_cases h2 : x = y
    · subst h2
      rw [if_pos rfl]
      simp
    · rw [if_neg h2]
      have : x < y := by
        rw [Int64.lt_iff_toInt_lt] at h1 ⊢
        have : x.toInt ≠ y.toInt := fun q => h2 (Int64.toInt_inj.mp q)
        omega
      simp [this]
theorem lg_gt (x y : Int64) : 0 < lg_cmp x y ↔ y < x := by
  unfold lg_cmp
  by_cases h1 : y < x
  · rw [if_pos h1]; simp [h1]
  · rw [if_neg h1]
    by_cases h2 : x = y
    · rw [if_pos h2]
      have e : ¬ (0 : Int32) < 0 := by decide
      simp [e, h1]
    · rw [if_neg h2]
      have e : ¬ (0 : Int32) < -1 := by decide
      simp [e, h1]
theorem m_in64 (x lo hi : Int64) : sX9_in x lo hi = (decide (lo.toInt ≤ x.toInt) && decide (x.toInt ≤ hi.toInt)) := by
  unfold sX9_in
  have e1 : (lg_cmp x lo < 0) ↔ ¬ (lo.toInt ≤ x.toInt) := by rw [lg_lt, Int64.lt_iff_toInt_lt]; omega
  have e2 : (0 < lg_cmp x hi) ↔ ¬ (x.toInt ≤ hi.toInt) := by rw [lg_gt, Int64.lt_iff_toInt_lt]; omega
  by_cases c1 : lo.toInt ≤ x.toInt
  · rw [if_neg (fun q => e1.mp q c1), decide_eq_true c1]
    by_cases c2 : x.toInt ≤ hi.toInt
    · rw [if_neg (fun q => e2.mp q c2), decide_eq_true c2]; rfl
    · rw [if_pos (e2.mpr c2), decide_eq_false c2]; rfl
  · rw [if_pos (e1.mpr c1), decide_eq_false c1]; rfl
theorem m_in (a : Int32) (lo hi : Int64) (l h : Int) (hl : lo.toInt = l) (hh : hi.toInt = h) : sX9_in a.toInt64 lo hi = wi a l h := by
  rw [m_in64, hl, hh, Int32.toInt_toInt64]; rfl
theorem has_nI {n j : Nat} (hn : n < 2 ^ 31) (hj : j < 31) : sX8_has (nI n) (nI j) = n.testBit j := by
  unfold sX8_has
  rw [shr_nI hn hj]
  have hlt : n / 2 ^ j < 2 ^ 32 := Nat.lt_of_le_of_lt (Nat.div_le_self _ _) (by omega)
  rw [pk_andN hlt 1 rfl, Nat.testBit_eq_decide_div_mod_eq]
  have h2 : n / 2 ^ j % 2 < 2 := Nat.mod_lt _ (by decide)
  have h3 : n / 2 ^ j % 2 ^ 1 = n / 2 ^ j % 2 := by rw [Nat.pow_one]
  rw [h3]
  generalize n / 2 ^ j % 2 = z at h2
  have hz : z = 0 ∨ z = 1 := by omega
  rcases hz with rfl | rfl <;> decide
theorem m_has (a b : Int32) : sX9_has a b = sX8_has a b := rfl
section Mo
variable {y : Gd} {g : Hg}
theorem m_ix {n : Nat} (hn : n < 2 ^ 20) (a : Int32) : sX9_in a.toInt64 (lN 0) (nI n - nI 1).toInt64 = wi a 0 ((n : Int) - 1) :=
  m_in a _ _ _ _ rfl (by rw [Int32.toInt_toInt64]; exact pk_sub_toInt (by omega) (by decide))
theorem m_isLark_ok (o : GO y) (G : GM y g) {l : Nat} (hl : l < dL y) : sX9_isLark g (nI l) = true := by
  have h3 := o.2.2.1
  unfold sX9_isLark
  rw [G.2.2.1, m_ix (by omega)]
  simp only [wi, nI_toInt (show l < 2 ^ 31 by omega), Bool.and_eq_true, decide_eq_true_eq]; omega
theorem m_isLark_no (o : GO y) (G : GM y g) {a : Int32} (h : a < 0 ∨ (dL y : Int) ≤ a.toInt) : sX9_isLark g a = false := by
  have h3 := o.2.2.1
  unfold sX9_isLark
  rw [G.2.2.1, m_ix (by omega)]
  have h' : a.toInt < 0 ∨ (dL y : Int) ≤ a.toInt := h.imp_left (fun q => Int32.lt_iff_toInt_lt.mp q)
  simp only [wi, Bool.and_eq_false_iff, decide_eq_false_iff_not]; omega
theorem m_isFind_ok (o : GO y) (G : GM y g) {l : Nat} (hl : l < dF y) : sX9_isFind g (nI l) = true := by
  have h3 := o.2.1
  unfold sX9_isFind
  rw [G.2.1, m_ix (by omega)]
  simp only [wi, nI_toInt (show l < 2 ^ 31 by omega), Bool.and_eq_true, decide_eq_true_eq]; omega
theorem m_isFind_no (o : GO y) (G : GM y g) {a : Int32} (h : a < 0 ∨ (dF y : Int) ≤ a.toInt) : sX9_isFind g a = false := by
  have h3 := o.2.1
  unfold sX9_isFind
  rw [G.2.1, m_ix (by omega)]
  have h' : a.toInt < 0 ∨ (dF y : Int) ≤ a.toInt := h.imp_left (fun q => Int32.lt_iff_toInt_lt.mp q)
  simp only [wi, Bool.and_eq_false_iff, decide_eq_false_iff_not]; omega
theorem m_water (o : GO y) (G : GM y g) {h : Nat} (hh : h < 2 ^ 30) : sX9_waterOf g (nI h) = some (nI (wat y h)) := by
  have h3 := o.1
  unfold sX9_waterOf wat
  rw [G.1]
  by_cases h0 : dT y = 0
  · rw [h0, if_pos (by decide), if_pos rfl]
  · have hm : h % dT y < dT y := Nat.mod_lt _ (by omega)
    rw [if_neg (nI_ne0 (by omega) (by omega)), if_pos (by simp only [nz, nI_ne0 (by omega : 0 < dT y) (by omega)]; rfl), pk_rem (by omega) (by omega) (by omega), if_pos (inb_nI (by omega) (by decide)), nI_clamp (by omega), if_neg h0, G.2.2.2.2.1 _ hm]
theorem m_isBare (o : GO y) (G : GM y g) {c h : Nat} (hc : c < 12) (hh : h < 2 ^ 30) : sX9_isBare g (nI c) (nI h) = some (bare y c h) := by
  have h1 := o.2.2.2.1 c hc
  have h2 := wat_le o h
  unfold sX9_isBare bare
  rw [if_pos (inb_nI hc (by decide)), m_water o G hh, Option.bind_some, nI_clamp (by omega), G.2.2.2.1 c hc]
  by_cases hw : wat y h ≤ dH y c
  · rw [if_neg (by rw [nI_ltI (by omega) (by omega)]; omega), decide_eq_true hw]
  · rw [if_pos (by rw [nI_ltI (by omega) (by omega)]; omega), decide_eq_false hw]
theorem m_stands (o : GO y) (G : GM y g) {l c h : Nat} (hl : l < dL y) (hc : c < 12) (hh : h < 2 ^ 30) : sX9_stands g (nI l) (nI c) (nI h) = some (stnd y l c h) := by
  have h1 := o.2.2.2.1 c hc
  have h2 := wat_le o h
  have h3 := o.2.2.2.2.2.2 l hl
  have h4 := o.2.2.1
  unfold sX9_stands stnd
  rw [if_pos (inb_nI hc (by decide)), if_pos (inb_nI (by omega) (by decide)), m_water o G hh, Option.bind_some, nI_clamp (by omega), nI_clamp (by omega), G.2.2.2.1 c hc, G.2.2.2.2.2.2 l hl, nI_add]
  by_cases hw : wat y h ≤ dH y c + dB y l
  · rw [if_neg (by rw [nI_ltI (by omega) (by omega)]; omega), decide_eq_true hw]
  · rw [if_pos (by rw [nI_ltI (by omega) (by omega)]; omega), decide_eq_false hw]
end Mo
/-- a loop of which the state at each count is known -/
theorem seqloop {σ R : Type} (L : Nat → σ → Int32 → R) (S : Nat → σ) (N : Nat) (r : R) (h0 : ∀ m, L (m + 1) (S N) (nI N) = r) (h1 : ∀ m i, i < N → L (m + 1) (S i) (nI i) = L m (S (i + 1)) (nI (i + 1))) (m : Nat) (hm : N < m) : L m (S 0) (nI 0) = r := by
  have key : ∀ (k i m : Nat), i + k = N → k < m → L m (S i) (nI i) = r := by
    intro k
    induction k with
    | zero =>
      intro i m hi hm
      obtain ⟨m, rfl⟩ : ∃ m', m = m' + 1 := ⟨m - 1, by omega⟩
      have e : i = N := by omega
      subst e
      exact h0 m
    | succ k ih =>
      intro i m hi hm
      obtain ⟨m, rfl⟩ : ∃ m', m = m' + 1 := ⟨m - 1, by omega⟩
      rw [h1 m i (by omega)]
      exact ih (i + 1) m (by omega) (by omega)
  exact key N 0 m (by omega) hm
theorem or_bitM {p : Nat → Bool} {i : Nat} (hi : i < 31) (hp : p i = true) : nI (bt p i) ||| ((nI 1) <<< (nI i &&& 31)) = nI (bt p (i + 1)) := or_bit hi hp
theorem or_0M {p : Nat → Bool} {i : Nat} (hp : p i = false) : nI (bt p i) ||| nI 0 = nI (bt p (i + 1)) := by
  rw [or_nI, Nat.or_zero, bt_skip hp]
theorem m_baredIn {y : Gd} {g : Hg} (o : GO y) (G : GM y g) {h : Nat} (hh : h < 2 ^ 30) : sX9_baredIn g (nI h) = some (nI (bt (fun c => bare y c h) 12)) := by
  unfold sX9_baredIn
  refine seqloop (fun m a i => sX9_baredIn_4 g (nI h) m a i) (fun i => nI (bt (fun c => bare y c h) i)) 12 _ (fun m => ?_) (fun m i hi => ?_) 100 (by decide)
  · show sX9_baredIn_4 _ _ _ _ _ = _
    rw [sX9_baredIn_4, if_pos (by decide)]
  · show sX9_baredIn_4 _ _ _ _ _ = sX9_baredIn_4 _ _ _ _ _
    rw [sX9_baredIn_4, if_neg (by rw [nI_leI (by omega) (by omega)]; omega), m_isBare o G (by omega) hh, Option.bind_some, nI_add]
    cases hb : bare y i h with
    | true => rw [if_pos rfl, or_bitM (p := fun c => bare y c h) (by omega) hb]
    | false => rw [if_neg Bool.false_ne_true, or_0M (p := fun c => bare y c h) hb]
