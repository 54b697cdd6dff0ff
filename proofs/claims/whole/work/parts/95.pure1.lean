/-! ===== the ground, as numbers ===== -/
theorem lz_nI {a : Nat} (ha : a < 2 ^ 31) : ¬ nI a < 0 := nI_pos ha
theorem ix_cases (a : Int32) (n : Nat) : (∃ l, l < n ∧ l < 2 ^ 31 ∧ a = nI l) ∨ (a < 0 ∨ (n : Int) ≤ a.toInt) := by
  by_cases h0 : a < 0
  · exact Or.inr (Or.inl h0)
  · obtain ⟨j, hj, rfl⟩ := nI_of h0
    by_cases h1 : j < n
    · exact Or.inl ⟨j, h1, hj, rfl⟩
    · exact Or.inr (Or.inr (by rw [nI_toInt hj]; omega))
theorem le_toInt {n : Nat} {a : Int32} (hn : n < 2 ^ 31) (h : (n : Int) ≤ a.toInt) : nI n ≤ a := by
  rw [Int32.le_iff_toInt_le, nI_toInt hn]; exact h
abbrev Gd : Type := (Nat × Nat × Nat) × (Nat → Nat) × (Nat → Nat) × (Nat → Nat) × (Nat → Nat) × (Nat → Nat)
abbrev dT (y : Gd) : Nat := y.1.1
abbrev dF (y : Gd) : Nat := y.1.2.1
abbrev dL (y : Gd) : Nat := y.1.2.2
abbrev dH (y : Gd) : Nat → Nat := y.2.1
abbrev dW (y : Gd) : Nat → Nat := y.2.2.1
abbrev dA (y : Gd) : Nat → Nat := y.2.2.2.1
abbrev dK (y : Gd) : Nat → Nat := y.2.2.2.2.1
abbrev dB (y : Gd) : Nat → Nat := y.2.2.2.2.2
/-- the numbers of a ground are small -/
def GO (y : Gd) : Prop := dT y ≤ 6 ∧ dF y ≤ 5 ∧ dL y ≤ 4 ∧ (∀ c, c < 12 → dH y c ≤ 9) ∧ (∀ k, k < dT y → dW y k ≤ 9) ∧ (∀ f, f < dF y → 1 ≤ dA y f ∧ dA y f ≤ 9 ∧ dK y f ≤ 3) ∧ (∀ l, l < dL y → dB y l ≤ 3)
/-- the class's ground -/
def GC (y : Gd) (g : Hg) : Prop := g 2 7 = nI (dT y) ∧ g 2 8 = nI (dF y) ∧ g 2 9 = nI (dL y) ∧ (∀ c, c < 12 → g 11 c = nI (dH y c)) ∧ (∀ k, k < dT y → g 12 k = nI (dW y k)) ∧ (∀ f, f < dF y → g 14 f = nI (dA y f) ∧ g 15 f = nI (dK y f)) ∧ (∀ l, l < dL y → g 17 l = nI (dB y l))
/-- the reference's ground -/
def GM (y : Gd) (g : Hg) : Prop := g 29 0 = nI (dT y) ∧ g 29 1 = nI (dF y) ∧ g 29 2 = nI (dL y) ∧ (∀ c, c < 12 → g 30 c = nI (dH y c)) ∧ (∀ k, k < dT y → g 31 k = nI (dW y k)) ∧ (∀ f, f < dF y → g 32 f = nI (dA y f) ∧ g 33 f = nI (dK y f)) ∧ (∀ l, l < dL y → g 34 l = nI (dB y l))
def wat (y : Gd) (h : Nat) : Nat := if dT y = 0 then 0 else dW y (h % dT y)
theorem wat_le {y : Gd} (o : GO y) (h : Nat) : wat y h ≤ 9 := by
  unfold wat
  by_cases h0 : dT y = 0
  · rw [if_pos h0]; omega
  · rw [if_neg h0]; exact o.2.2.2.2.1 _ (Nat.mod_lt _ (by omega))
def bare (y : Gd) (c h : Nat) : Bool := decide (wat y h ≤ dH y c)
def stnd (y : Gd) (l c h : Nat) : Bool := decide (wat y h ≤ dH y c + dB y l)
section Cl
variable {y : Gd} {g : Hg}
theorem c_isLark_ok (o : GO y) (G : GC y g) {l : Nat} (hl : l < dL y) : sX1_isLark g (nI l) = true := by
  have h3 := o.2.2.1
  unfold sX1_isLark
  rw [if_neg (nI_pos (by omega)), if_neg (by rw [G.2.2.1, nI_leI (by omega) (by omega)]; omega), if_neg (by rw [nI_leI (by omega) (by omega)]; omega)]
theorem c_isLark_no (o : GO y) (G : GC y g) {a : Int32} (h : a < 0 ∨ (dL y : Int) ≤ a.toInt) : sX1_isLark g a = false := by
  have h3 := o.2.2.1
  unfold sX1_isLark
  rcases h with h | h
  · rw [if_pos h]
  · by_cases h0 : a < 0
    · rw [if_pos h0]
    · rw [if_neg h0, if_pos (by rw [G.2.2.1]; exact le_toInt (by omega) h)]
theorem c_isFind_ok (o : GO y) (G : GC y g) {l : Nat} (hl : l < dF y) : sX1_isFind g (nI l) = true := by
  have h3 := o.2.1
  unfold sX1_isFind
  rw [if_neg (nI_pos (by omega)), if_neg (by rw [G.2.1, nI_leI (by omega) (by omega)]; omega), if_neg (by rw [nI_leI (by omega) (by omega)]; omega)]
theorem c_isFind_no (o : GO y) (G : GC y g) {a : Int32} (h : a < 0 ∨ (dF y : Int) ≤ a.toInt) : sX1_isFind g a = false := by
  have h3 := o.2.1
  unfold sX1_isFind
  rcases h with h | h
  · rw [if_pos h]
  · by_cases h0 : a < 0
    · rw [if_pos h0]
    · rw [if_neg h0, if_pos (by rw [G.2.1]; exact le_toInt (by omega) h)]
theorem c_height (G : GC y g) {c : Nat} (hc : c < 12) : sX1_height g (nI c) = some (nI (dH y c)) := by
  unfold sX1_height
  rw [if_neg (nI_pos (by omega)), if_neg (by rw [nI_leI (by omega) (by omega)]; omega), if_pos (inb_nI hc (by decide)), nI_clamp (by omega), G.2.2.2.1 c hc]
theorem c_board (o : GO y) (G : GC y g) {l : Nat} (hl : l < dL y) : sX1_board g (nI l) = some (nI (dB y l)) := by
  have h3 := o.2.2.1
  unfold sX1_board
  rw [if_pos (c_isLark_ok o G hl), if_pos (inb_nI (by omega) (by decide)), nI_clamp (by omega), G.2.2.2.2.2.2 l hl]
theorem c_age (o : GO y) (G : GC y g) {f : Nat} (hf : f < dF y) : sX1_age g (nI f) = some (nI (dA y f)) := by
  have h3 := o.2.1
  unfold sX1_age
  rw [if_pos (c_isFind_ok o G hf), if_pos (inb_nI (by omega) (by decide)), nI_clamp (by omega), (G.2.2.2.2.2.1 f hf).1]
theorem c_kind (o : GO y) (G : GC y g) {f : Nat} (hf : f < dF y) : sX1_kind g (nI f) = some (nI (dK y f)) := by
  have h3 := o.2.1
  unfold sX1_kind
  rw [if_pos (c_isFind_ok o G hf), if_pos (inb_nI (by omega) (by decide)), nI_clamp (by omega), (G.2.2.2.2.2.1 f hf).2]
theorem c_water (o : GO y) (G : GC y g) {h : Nat} (hh : h < 2 ^ 30) : sX1_waterIn g (nI h) = some (nI (wat y h)) := by
  have h3 := o.1
  unfold sX1_waterIn wat
  rw [G.1]
  by_cases h0 : dT y = 0
  · rw [h0, if_pos (by decide), if_pos rfl]
  · have hm : h % dT y < dT y := Nat.mod_lt _ (by omega)
    rw [if_neg (nI_nle (by omega) (by omega)), if_neg (by rw [nI_ltI (by omega) (by omega)]; omega), if_neg (nI_pos (by omega)), if_pos (by simp only [nz, nI_ne0 (by omega : 0 < dT y) (by omega)]; rfl), pk_rem (by omega) (by omega) (by omega), if_pos (inb_nI (by omega) (by decide)), nI_clamp (by omega), if_neg h0, G.2.2.2.2.1 _ hm]
theorem c_isBared (o : GO y) (G : GC y g) {c h : Nat} (hc : c < 12) (hh : h < 2 ^ 30) : sX1_isBared g (nI c) (nI h) = some (bare y c h) := by
  have h1 := o.2.2.2.1 c hc
  have h2 := wat_le o h
  unfold sX1_isBared bare
  rw [c_height G hc, Option.bind_some, c_water o G hh, Option.bind_some]
  by_cases hw : wat y h ≤ dH y c
  · rw [if_neg (by rw [nI_ltI (by omega) (by omega)]; omega), decide_eq_true hw]
  · rw [if_pos (by rw [nI_ltI (by omega) (by omega)]; omega), decide_eq_false hw]
theorem c_stands (o : GO y) (G : GC y g) {l c h : Nat} (hl : l < dL y) (hc : c < 12) (hh : h < 2 ^ 30) : sX1_stands g (nI l) (nI c) (nI h) = some (stnd y l c h) := by
  have h1 := o.2.2.2.1 c hc
  have h2 := wat_le o h
  have h3 := o.2.2.2.2.2.2 l hl
  unfold sX1_stands stnd
  rw [c_height G hc, Option.bind_some, c_board o G hl, Option.bind_some, c_water o G hh, Option.bind_some, nI_add]
  by_cases hw : wat y h ≤ dH y c + dB y l
  · rw [if_neg (by rw [nI_ltI (by omega) (by omega)]; omega), decide_eq_true hw]
  · rw [if_pos (by rw [nI_ltI (by omega) (by omega)]; omega), decide_eq_false hw]
theorem or_bit {p : Nat → Bool} {i : Nat} (hi : i < 31) (hp : p i = true) : nI (bt p i) ||| sX8_bit (nI i) = nI (bt p (i + 1)) := by
  unfold sX8_bit
  rw [bit_nI hi, or_nI, bt, if_pos hp]
  have h := bt_lt p i
  rw [show bt p i ||| 2 ^ i = bt p i + 2 ^ i from ?_]
  rw [Nat.or_comm, Nat.add_comm]
  have := Nat.two_pow_add_eq_or_of_lt h 1
  simpa using this.symm
theorem bt_skip {p : Nat → Bool} {i : Nat} (hp : p i = false) : bt p (i + 1) = bt p i := by
  rw [bt, if_neg (by rw [hp]; exact Bool.false_ne_true), Nat.add_zero]
theorem c_baredCells (o : GO y) (G : GC y g) {h : Nat} (hh : h < 2 ^ 30) : sX1_baredCells g (nI h) = some (nI (bt (fun c => bare y c h) 12)) := by
  unfold sX1_baredCells
  have key : ∀ (k i m : Nat), i + k = 12 → k < m → sX1_baredCells_4 g (nI h) m (nI (bt (fun c => bare y c h) i)) (nI i) = some (nI (bt (fun c => bare y c h) 12)) := by
    intro k
    induction k with
    | zero =>
      intro i m hi hm
      obtain ⟨m, rfl⟩ : ∃ m', m = m' + 1 := ⟨m - 1, by omega⟩
      have e : i = 12 := by omega
      subst e
      rw [sX1_baredCells_4, if_pos (by decide)]
    | succ k ih =>
      intro i m hi hm
      obtain ⟨m, rfl⟩ : ∃ m', m = m' + 1 := ⟨m - 1, by omega⟩
      rw [sX1_baredCells_4, if_neg (by rw [nI_leI (by omega) (by omega)]; omega), c_isBared o G (by omega) hh, Option.bind_some, nI_add]
      cases hb : bare y i h with
      | true => rw [if_pos rfl, or_bit (p := fun c => bare y c h) (by omega) hb]; exact ih (i + 1) m (by omega) (by omega)
      | false => rw [if_neg Bool.false_ne_true, ← bt_skip (p := fun c => bare y c h) hb]; exact ih (i + 1) m (by omega) (by omega)
  exact key 12 0 100 rfl (by decide)
end Cl
