/-! ===== pure rows: numbers, bits, loops ===== -/
/-- n steps, the first at 0 -/
def itr {α : Type} : Nat → (Nat → α → α) → α → α
  | 0, _, a => a
  | n + 1, st, a => st n (itr n st a)
theorem itr_congr {α : Type} {st st' : Nat → α → α} {a : α} : ∀ {n : Nat}, (∀ i, i < n → ∀ x, st i x = st' i x) → itr n st a = itr n st' a
  | 0, _ => rfl
  | n + 1, h => by
    show st n (itr n st a) = st' n (itr n st' a)
    rw [itr_congr (n := n) (fun i hi => h i (by omega)), h n (by omega)]
/-- a loop that counts up to N: L at n+1 steps left goes on, or ends at N -/
theorem loop_from {α R : Type} (L : Nat → α → Int32 → R) (st : Nat → α → α) (fin : α → R) (N : Nat) (h0 : ∀ n a, L (n + 1) a (nI N) = fin a) (h1 : ∀ n a i, i < N → L (n + 1) a (nI i) = L n (st i a) (nI (i + 1))) (a0 : α) :
    ∀ (k i m : Nat), i + k = N → k < m → L m (itr i st a0) (nI i) = fin (itr N st a0)
  | 0, i, m, hi, hm => by
    obtain ⟨m, rfl⟩ : ∃ m', m = m' + 1 := ⟨m - 1, by omega⟩
    have e : i = N := by omega
    subst e
    exact h0 m _
  | k + 1, i, m, hi, hm => by
    obtain ⟨m, rfl⟩ : ∃ m', m = m' + 1 := ⟨m - 1, by omega⟩
    rw [h1 m _ i (by omega)]
    exact loop_from L st fin N h0 h1 a0 k (i + 1) m (by omega) (by omega)
theorem loop_run {α R : Type} (L : Nat → α → Int32 → R) (st : Nat → α → α) (fin : α → R) (N : Nat) (h0 : ∀ n a, L (n + 1) a (nI N) = fin a) (h1 : ∀ n a i, i < N → L (n + 1) a (nI i) = L n (st i a) (nI (i + 1))) (a0 : α) (m : Nat) (hm : N < m) : L m a0 (nI 0) = fin (itr N st a0) :=
  loop_from L st fin N h0 h1 a0 N 0 m (by omega) hm
/-- the same, with a fact that goes along -/
theorem loop_inv {α R : Type} (L : Nat → α → Int32 → R) (st : Nat → α → α) (fin : α → R) (N : Nat) (I : Nat → α → Prop) (h0 : ∀ n a, I N a → L (n + 1) a (nI N) = fin a) (h1 : ∀ n a i, i < N → I i a → L (n + 1) a (nI i) = L n (st i a) (nI (i + 1)) ∧ I (i + 1) (st i a)) (a0 : α) (hI : I 0 a0) (m : Nat) (hm : N < m) : L m a0 (nI 0) = fin (itr N st a0) ∧ I N (itr N st a0) := by
  have hall : ∀ i, i ≤ N → I i (itr i st a0) := by
    intro i
    induction i with
    | zero => intro _; exact hI
    | succ i ih => intro hi; exact (h1 0 _ i (by omega) (ih (by omega))).2
  have key : ∀ (k i m : Nat), i + k = N → k < m → L m (itr i st a0) (nI i) = fin (itr N st a0) := by
    intro k
    induction k with
    | zero =>
      intro i m hi hm
      obtain ⟨m, rfl⟩ : ∃ m', m = m' + 1 := ⟨m - 1, by omega⟩
      have e : i = N := by omega
      subst e
      exact h0 m _ (hall i (Nat.le_refl _))
    | succ k ih =>
      intro i m hi hm
      obtain ⟨m, rfl⟩ : ∃ m', m = m' + 1 := ⟨m - 1, by omega⟩
      rw [(h1 m _ i (by omega) (hall i (by omega))).1]
      exact ih (i + 1) m (by omega) (by omega)
  exact ⟨key N 0 m (by omega) hm, hall N (Nat.le_refl _)⟩
/-- the bits p 0 .. p (n-1) as a number -/
def bt (p : Nat → Bool) : Nat → Nat
  | 0 => 0
  | n + 1 => bt p n + (if p n = true then 2 ^ n else 0)
theorem bt_lt (p : Nat → Bool) : ∀ n, bt p n < 2 ^ n
  | 0 => by simp [bt]
  | n + 1 => by
    have h := bt_lt p n
    rw [bt, Nat.pow_succ]
    split <;> omega
theorem bt_congr {p q : Nat → Bool} : ∀ {n : Nat}, (∀ k, k < n → p k = q k) → bt p n = bt q n
  | 0, _ => rfl
  | n + 1, h => by rw [bt, bt, bt_congr (fun k hk => h k (by omega)), h n (by omega)]
theorem bt_testBit (p : Nat → Bool) : ∀ (n k : Nat), (bt p n).testBit k = (decide (k < n) && p k)
  | 0, k => by simp [bt]
  | n + 1, k => by
    have ih := bt_testBit p n k
    have hl := bt_lt p n
    rw [bt]
    by_cases hp : p n = true
    · rw [if_pos hp, Nat.add_comm]
      rcases Nat.lt_trichotomy k n with hk | hk | hk
      · rw [Nat.testBit_two_pow_add_gt hk, ih]
        have h1 : decide (k < n) = true := by simpa using hk
        have h2 : decide (k < n + 1) = true := by simp; omega
        rw [h1, h2]
      · subst hk
        rw [Nat.testBit_two_pow_add_eq, ih]
        simp [hp]
      · have h2 : decide (k < n + 1) = false := by simp; omega
        rw [h2, Bool.false_and]
        refine Nat.testBit_lt_two_pow (Nat.lt_of_lt_of_le (m := 2 ^ (n + 1)) ?_ (Nat.pow_le_pow_right (by decide) hk))
        rw [Nat.pow_succ]; omega
    · rw [if_neg hp, Nat.add_zero, ih]
      by_cases hk : k = n
      · subst hk
        simp [hp]
      · have : (decide (k < n)) = decide (k < n + 1) := by simp; omega
        rw [this]
theorem bit_nI {i : Nat} (h : i < 31) : (nI 1) <<< (nI i &&& 31) = nI (2 ^ i) := co_dec (N := 31) (P := fun i => (nI 1) <<< (nI i &&& 31) = nI (2 ^ i)) (by decide +kernel) h
theorem smod_nI {i : Nat} (h : i < 31) : ((nI i &&& 31).toBitVec.smod 32).toNat = i := co_dec (N := 31) (P := fun i => ((nI i &&& 31).toBitVec.smod 32).toNat = i) (by decide +kernel) h
theorem shr_nI {n i : Nat} (hn : n < 2 ^ 31) (h : i < 31) : nI n >>> (nI i &&& 31) = nI (n / 2 ^ i) := pk_shrN hn _ _ (smod_nI h)
theorem or_nI (a b : Nat) : nI a ||| nI b = nI (a ||| b) := fa_or a b
theorem lit_nI (n : Nat) : (OfNat.ofNat n : Int32) = nI n := rfl
