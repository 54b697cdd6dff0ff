/-! ===== shares ===== -/
def sm (f : Nat → Nat) : Nat → Nat
  | 0 => 0
  | n + 1 => sm f n + f n
theorem sm_congr {f h : Nat → Nat} : ∀ {n : Nat}, (∀ k, k < n → f k = h k) → sm f n = sm h n
  | 0, _ => rfl
  | n + 1, q => by rw [sm, sm, sm_congr (fun k hk => q k (by omega)), q n (by omega)]
theorem sm_add (f h : Nat → Nat) : ∀ n, sm (fun k => f k + h k) n = sm f n + sm h n
  | 0 => rfl
  | n + 1 => by rw [sm, sm, sm, sm_add f h n]; omega
theorem sm_mul (c : Nat) (f : Nat → Nat) : ∀ n, sm (fun k => c * f k) n = c * sm f n
  | 0 => rfl
  | n + 1 => by rw [sm, sm, sm_mul c f n, Nat.mul_add]
theorem sm_zero : ∀ n, sm (fun _ => 0) n = 0
  | 0 => rfl
  | n + 1 => by rw [sm, sm_zero n]
theorem sm_swap (f : Nat → Nat → Nat) (m : Nat) : ∀ n, sm (fun i => sm (fun j => f i j) m) n = sm (fun j => sm (fun i => f i j) n) m
  | 0 => by
    show 0 = sm (fun j => 0) m
    rw [sm_zero]
  | n + 1 => by
    rw [sm, sm_swap f m n, ← sm_add]
    rfl
theorem sm_ext {f h : Nat → Nat} {F N : Nat} (hF : F ≤ N) (h1 : ∀ k, k < F → f k = h k) (h2 : ∀ k, F ≤ k → k < N → f k = 0) : sm f N = sm h F := by
  have key : ∀ d, F + d ≤ N → sm f (F + d) = sm h F := by
    intro d
    induction d with
    | zero => intro _; exact sm_congr h1
    | succ d ih => intro hd; rw [← Nat.add_assoc, sm, ih (by omega), h2 (F + d) (by omega) (by omega)]; omega
  have := key (N - F) (by omega)
  rwa [show F + (N - F) = N by omega] at this
theorem sm_le {f : Nat → Nat} {c : Nat} (h : ∀ k, f k ≤ c) : ∀ n, sm f n ≤ c * n
  | 0 => by rw [sm]; omega
  | n + 1 => by
    have := sm_le h n
    have := h n
    rw [sm, Nat.mul_succ]; omega
def fct : Nat → Nat
  | 0 => 1
  | n + 1 => (n + 1) * fct n
def b1 (b : Bool) : Nat := if b = true then 1 else 0
/-- ones of a small number -/
def pc (n u : Nat) : Nat := sm (fun f => b1 (u.testBit f)) n
theorem ones_pc {u : Nat} (hu : u < 32) : sX9_ones (nI u) = some (nI (pc 5 u)) := co_dec (N := 32) (P := fun u => sX9_ones (nI u) = some (nI (pc 5 u))) (by decide +kernel) hu
theorem fct_m {n : Nat} (hn : n < 5) : sX9_factorial (nI n) = some (nI (fct n)) := co_dec (N := 5) (P := fun n => sX9_factorial (nI n) = some (nI (fct n))) (by decide +kernel) hn
/-- does a mask meet a set -/
def em (m S : Nat) : Nat := if m &&& S = 0 then 0 else 1
def wS (L l S : Nat) : Nat := if S.testBit l = true then 0 else fct (pc 5 S) * fct (L - 1 - pc 5 S)
def qq (L l m : Nat) : Nat := sm (fun S => wS L l S * (em m (S ||| 2 ^ l) - em m S)) (2 ^ L)
def tt (l m : Nat) : Nat := if m.testBit l = true then 12 / (if 1 < pc 4 m then pc 4 m else 1) else 0
theorem q_t {L l m : Nat} (hL : L < 5) (hl : l < L) (hm : m < 2 ^ L) : 12 * qq L l m = fct L * tt l m := by
  have h : ((List.range 5).all fun L => (List.range L).all fun l => (List.range (2 ^ L)).all fun m => decide (12 * qq L l m = fct L * tt l m)) = true := by decide +kernel
  exact of_decide_eq_true (List.all_eq_true.mp (List.all_eq_true.mp (List.all_eq_true.mp h L (List.mem_range.mpr hL)) l (List.mem_range.mpr hl)) m (List.mem_range.mpr hm))
theorem pcS {L l S : Nat} (hL : L < 5) (hl : l < L) (hS : S < 2 ^ L) (h : S.testBit l = false) : pc 5 S ≤ L - 1 := by
  have h' : ((List.range 5).all fun L => (List.range L).all fun l => (List.range (2 ^ L)).all fun S => decide (S.testBit l = false → pc 5 S ≤ L - 1)) = true := by decide +kernel
  exact of_decide_eq_true (List.all_eq_true.mp (List.all_eq_true.mp (List.all_eq_true.mp h' L (List.mem_range.mpr hL)) l (List.mem_range.mpr hl)) S (List.mem_range.mpr hS)) h
theorem tt_le (l m : Nat) : tt l m ≤ 12 := by
  unfold tt
  split
  · exact Nat.div_le_self _ _
  · omega
theorem frac {t L s : Nat} (hL0 : 0 < L) (hL : L < 5) (ht : t ≤ 60) (h : 12 * s = fct L * t) : s / Nat.gcd s (fct L) = t / Nat.gcd t 12 ∧ fct L / Nat.gcd s (fct L) = 12 / Nat.gcd t 12 := by
  have h' : ((List.range 5).all fun L => (List.range 61).all fun t => decide (0 < L → 12 * (fct L * t / 12) = fct L * t → (fct L * t / 12) / Nat.gcd (fct L * t / 12) (fct L) = t / Nat.gcd t 12 ∧ fct L / Nat.gcd (fct L * t / 12) (fct L) = 12 / Nat.gcd t 12)) = true := by decide +kernel
  have e : s = fct L * t / 12 := by omega
  have h2 := of_decide_eq_true (List.all_eq_true.mp (List.all_eq_true.mp h' L (List.mem_range.mpr hL)) t (List.mem_range.mpr (by omega))) hL0
  rw [← e] at h2
  exact h2 h
theorem em_mono (m S l : Nat) : em m S ≤ em m (S ||| 2 ^ l) := by
  unfold em
  by_cases h : m &&& S = 0
  · rw [if_pos h]; omega
  · have : ¬ m &&& (S ||| 2 ^ l) = 0 := fun q => by
      apply h
      rw [Nat.and_or_distrib_left] at q
      exact (Nat.or_eq_zero_iff.mp q).1
    rw [if_neg h, if_neg this]; omega
theorem em_iff {m S : Nat} : em m S = 1 ↔ ∃ j, m.testBit j = true ∧ S.testBit j = true := by
  unfold em
  by_cases h : m &&& S = 0
  · rw [if_pos h]
    constructor
    · intro q; omega
    · rintro ⟨j, h1, h2⟩
      have : (m &&& S).testBit j = true := by rw [Nat.testBit_and, h1, h2]; rfl
      rw [h, Nat.zero_testBit] at this
      cases this
  · rw [if_neg h]
    refine ⟨fun _ => ?_, fun _ => rfl⟩
    apply Classical.byContradiction
    intro hno
    apply h
    apply Nat.eq_of_testBit_eq
    intro j
    rw [Nat.testBit_and, Nat.zero_testBit]
    cases h1 : m.testBit j with
    | false => rfl
    | true =>
      cases h2 : S.testBit j with
      | false => rfl
      | true => exact absurd ⟨j, h1, h2⟩ hno
/-- the sum over sets is the sum over finds -/
theorem shap (L l : Nat) (mf : Nat → Nat) : sm (fun S => wS L l S * (sm (fun f => em (mf f) (S ||| 2 ^ l)) 5 - sm (fun f => em (mf f) S) 5)) (2 ^ L) = sm (fun f => qq L l (mf f)) 5 := by
  have e : ∀ S, sm (fun f => em (mf f) (S ||| 2 ^ l)) 5 - sm (fun f => em (mf f) S) 5 = sm (fun f => em (mf f) (S ||| 2 ^ l) - em (mf f) S) 5 := fun S => by
    have h : sm (fun f => em (mf f) (S ||| 2 ^ l)) 5 = sm (fun f => em (mf f) S) 5 + sm (fun f => em (mf f) (S ||| 2 ^ l) - em (mf f) S) 5 := by
      rw [← sm_add]
      exact sm_congr (fun f _ => by have := em_mono (mf f) S l; omega)
    omega
  have e2 : (fun S => wS L l S * (sm (fun f => em (mf f) (S ||| 2 ^ l)) 5 - sm (fun f => em (mf f) S) 5)) = fun S => sm (fun f => wS L l S * (em (mf f) (S ||| 2 ^ l) - em (mf f) S)) 5 := by
    funext S
    rw [e, sm_mul]
  rw [e2, sm_swap]
  rfl
