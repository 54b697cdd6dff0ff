/-! ===== laying down: the reference, and both together ===== -/
def lyM (n : Nat → Int32) (l : Nat) (p : Nat → Bool) (i : Nat) : Nat → Int32 := fun k => if 13 ≤ k ∧ k < 13 + i ∧ p (k - 13) = true then nI 0 else if 8 ≤ k ∧ k < 8 + i ∧ p (k - 8) = true then n l else n k
theorem lyM_0 (n : Nat → Int32) (l : Nat) (p : Nat → Bool) : lyM n l p 0 = n := by
  funext k; unfold lyM; rw [if_neg (by omega), if_neg (by omega)]
theorem lyM_lo (n : Nat → Int32) (l : Nat) (p : Nat → Bool) (i : Nat) {k : Nat} (hk : k < 8) : lyM n l p i k = n k := by
  unfold lyM; rw [if_neg (by omega), if_neg (by omega)]
theorem lyM_hi (n : Nat → Int32) (l : Nat) (p : Nat → Bool) {i : Nat} (hi : i ≤ 5) {k : Nat} (hk : 18 ≤ k) : lyM n l p i k = n k := by
  unfold lyM; rw [if_neg (by omega), if_neg (by omega)]
theorem lyM_no (n : Nat → Int32) (l : Nat) (p : Nat → Bool) {i : Nat} (hp : p i = false) : lyM n l p (i + 1) = lyM n l p i := by
  funext k
  unfold lyM
  have h1 : (13 ≤ k ∧ k < 13 + (i + 1) ∧ p (k - 13) = true) ↔ (13 ≤ k ∧ k < 13 + i ∧ p (k - 13) = true) := by
    constructor
    · rintro ⟨a, b, c⟩
      by_cases e : k - 13 = i
      · rw [e, hp] at c; cases c
      · exact ⟨a, by omega, c⟩
    · rintro ⟨a, b, c⟩; exact ⟨a, by omega, c⟩
  have h2 : (8 ≤ k ∧ k < 8 + (i + 1) ∧ p (k - 8) = true) ↔ (8 ≤ k ∧ k < 8 + i ∧ p (k - 8) = true) := by
    constructor
    · rintro ⟨a, b, c⟩
      by_cases e : k - 8 = i
      · rw [e, hp] at c; cases c
      · exact ⟨a, by omega, c⟩
    · rintro ⟨a, b, c⟩; exact ⟨a, by omega, c⟩
  simp only [h1, h2]
theorem lyM_yes (n : Nat → Int32) (l : Nat) (p : Nat → Bool) {i : Nat} (hi : i < 5) (hp : p i = true) : upd (upd (lyM n l p i) (13 + i) (nI 0)) (8 + i) (n l) = lyM n l p (i + 1) := by
  funext k
  by_cases e2 : k = 8 + i
  · subst e2
    have e : 8 + i - 8 = i := by omega
    simp only [upd, if_pos]
    unfold lyM
    rw [if_neg (by omega), if_pos ⟨by omega, by omega, by rw [e]; exact hp⟩]
  · by_cases e1 : k = 13 + i
    · subst e1
      have e : 13 + i - 13 = i := by omega
      simp only [upd, if_neg e2, if_pos]
      unfold lyM
      rw [if_pos ⟨by omega, by omega, by rw [e]; exact hp⟩]
    · simp only [upd, if_neg e1, if_neg e2]
      unfold lyM
      have h1 : (13 ≤ k ∧ k < 13 + (i + 1) ∧ p (k - 13) = true) ↔ (13 ≤ k ∧ k < 13 + i ∧ p (k - 13) = true) := ⟨fun h => ⟨h.1, by omega, h.2.2⟩, fun h => ⟨h.1, by omega, h.2.2⟩⟩
      have h2 : (8 ≤ k ∧ k < 8 + (i + 1) ∧ p (k - 8) = true) ↔ (8 ≤ k ∧ k < 8 + i ∧ p (k - 8) = true) := ⟨fun h => ⟨h.1, by omega, h.2.2⟩, fun h => ⟨h.1, by omega, h.2.2⟩⟩
      simp only [h1, h2]
theorem bt31 {p : Nat → Bool} {F : Nat} (hF : F ≤ 5) : bt p F < 2 ^ 31 := Nat.lt_of_lt_of_le (bt_lt p F) (Nat.pow_le_pow_right (by decide) (by omega))
theorem m_putOn {y : Gd} {g2 : Hg} (o : GO y) (G : GM y g2) {v : Nat} (hv : v < 2) {l : Nat} (hl : l < dL y) : sX9_putOn g2 (nI v) (nI l) = some (nw g2 v (lyM (nr g2 v) l (cr (nr g2 v) l) (dF y))) := by
  have hL := o.2.2.1
  have hF := o.2.1
  have hb : bt (cr (nr g2 v) l) (dF y) < 2 ^ 31 := bt31 hF
  unfold sX9_putOn
  rw [m_carriedBy o G hv, Option.bind_some, pk_mul]
  have key := seqloop (fun m a i => sX9_putOn_16 (nI v) (nI l) (nI (31 * v)) (nI (bt (cr (nr g2 v) l) (dF y))) m a i) (fun i => nw g2 v (lyM (nr g2 v) l (cr (nr g2 v) l) i)) (dF y) (some (nw g2 v (lyM (nr g2 v) l (cr (nr g2 v) l) (dF y)))) (fun m => ?_) (fun m i hi => ?_) 100 (by omega)
  · have e0 : nw g2 v (lyM (nr g2 v) l (cr (nr g2 v) l) 0) = g2 := by rw [lyM_0, nw_id]
    simp only [e0] at key
    exact key
  · show sX9_putOn_16 _ _ _ _ _ _ _ = _
    rw [sX9_putOn_16, nw_ne _ _ _ (by decide), G.2.1, if_pos (by rw [nI_leI (by omega) (by omega)]; exact Nat.le_refl _)]
  · show sX9_putOn_16 _ _ _ _ _ _ _ = sX9_putOn_16 _ _ _ _ _ _ _
    have e13 : 31 * v + 13 + i = 31 * v + (13 + i) := by omega
    have e8 : 31 * v + 8 + i = 31 * v + (8 + i) := by omega
    rw [sX9_putOn_16, nw_ne _ _ _ (by decide), G.2.1, if_neg (by rw [nI_leI (by omega) (by omega)]; omega), m_has, has_nI (j := i) hb (by omega), bt_testBit, nI_add, nI_add, nI_add, nI_add, nI_add, nI_add, e13, e8, if_pos (inb_nI (by omega) (by decide)), if_pos (inb_nI (by omega) (by decide)), if_pos (inb_nI (by omega) (by decide)), nI_clamp (by omega), nI_clamp (by omega), nI_clamp (by omega), st_nw _ _ _ (by omega), st_nw _ _ _ (by omega), nw_at _ _ (by omega)]
    have hup : upd (lyM (nr g2 v) l (cr (nr g2 v) l) i) (13 + i) (nI 0) l = nr g2 v l := by
      rw [pk_un (by omega), lyM_lo _ _ _ _ (by omega)]
    rw [hup]
    have hd : decide (i < dF y) = true := decide_eq_true hi
    rw [hd, Bool.true_and]
    cases hp : cr (nr g2 v) l i with
    | true => rw [if_pos rfl, lyM_yes _ _ (cr (nr g2 v) l) (by omega) hp]
    | false => rw [if_neg Bool.false_ne_true, lyM_no _ _ (cr (nr g2 v) l) hp]
/-- the rows still belong together -/
theorem RR_lay {y : Gd} {B : Nat} {r n : Nat → Int32} (o : GO y) (R : RR y B r n) {l : Nat} (hl : l < dL y) : RR y B (lyC r l (fun f => decide (f < dF y) && cr n l f) 5) (lyM n l (cr n l) (dF y)) := by
  have hL := o.2.2.1
  have hF := o.2.1
  obtain ⟨h1, h2, ⟨H, b1, b2, b3⟩, ⟨d, c1, c2, c3⟩, ⟨w, d1, d2, d3⟩, sb, s1, s2, s3⟩ := R
  refine ⟨fun k hk => ?_, fun f hf hf5 => ?_, ⟨H, b1, ?_, ?_⟩, ⟨d, c1, ?_, ?_⟩, ⟨w, d1, ?_, ?_⟩, sb, s1, ?_, fun f hf => ?_⟩
  · rw [lyC_lo _ _ _ _ (by omega), lyM_lo _ _ _ _ (by omega), lyC_lo _ _ _ _ (by omega), lyM_lo _ _ _ _ (by omega)]
    exact h1 k hk
  · unfold lyC
    have e : 13 + f - 13 = f := by omega
    rw [if_neg (by omega), if_neg (by rw [e]; simp; intro _ h; omega)]
    exact h2 f hf hf5
  · rw [lyC_hi _ _ _ (by omega) (by omega)]; exact b2
  · rw [lyM_hi _ _ _ (by omega) (by omega)]; exact b3
  · rw [lyC_hi _ _ _ (by omega) (by omega)]; exact c2
  · rw [lyM_hi _ _ _ (by omega) (by omega)]; exact c3
  · rw [lyC_hi _ _ _ (by omega) (by omega)]; exact d2
  · rw [lyM_hi _ _ _ (by omega) (by omega)]; exact d3
  · rw [lyC_hi _ _ _ (by omega) (by omega)]; exact s2
  · have a8 : 8 + f - 8 = f := by omega
    have a13 : 13 + f - 13 = f := by omega
    have C8 : lyC r l (fun f => decide (f < dF y) && cr n l f) 5 (8 + f) = if cr n l f = true then r l else r (8 + f) := by
      unfold lyC
      by_cases hp : cr n l f = true
      · rw [if_pos hp, if_pos ⟨by omega, by omega, by simp [a8, hf, hp]⟩]
      · rw [if_neg hp, if_neg (by simp [a8, hp]), if_neg (by rintro ⟨q1, q2, q3⟩; omega)]
    have C13 : lyC r l (fun f => decide (f < dF y) && cr n l f) 5 (13 + f) = if cr n l f = true then -9 else r (13 + f) := by
      unfold lyC
      rw [if_neg (by omega)]
      by_cases hp : cr n l f = true
      · rw [if_pos hp, if_pos ⟨by omega, by omega, by simp [a13, hf, hp]⟩]
      · rw [if_neg hp, if_neg (by simp [a13, hp])]
    have C18 : lyC r l (fun f => decide (f < dF y) && cr n l f) 5 (18 + f) = r (18 + f) := lyC_hi _ _ _ (by omega) (by omega)
    have M8 : lyM n l (cr n l) (dF y) (8 + f) = if cr n l f = true then n l else n (8 + f) := by
      unfold lyM
      rw [if_neg (by omega)]
      by_cases hp : cr n l f = true
      · rw [if_pos hp, if_pos ⟨by omega, by omega, by rw [a8]; exact hp⟩]
      · rw [if_neg hp, if_neg (by rw [a8]; simp [hp])]
    have M13 : lyM n l (cr n l) (dF y) (13 + f) = if cr n l f = true then nI 0 else n (13 + f) := by
      unfold lyM
      by_cases hp : cr n l f = true
      · rw [if_pos hp, if_pos ⟨by omega, by omega, by rw [a13]; exact hp⟩]
      · rw [if_neg hp, if_neg (by rw [a13]; simp [hp]), if_neg (by rintro ⟨q1, q2, q3⟩; omega)]
    have M18 : lyM n l (cr n l) (dF y) (18 + f) = n (18 + f) := lyM_hi _ _ _ (by omega) (by omega)
    have M23 : lyM n l (cr n l) (dF y) (23 + f) = n (23 + f) := lyM_hi _ _ _ (by omega) (by omega)
    unfold FR
    rw [C8, C13, C18, M8, M13, M18, M23]
    by_cases hp : cr n l f = true
    · rw [if_pos hp, if_pos hp, if_pos hp, if_pos hp]
      left
      obtain ⟨c, e1, e2, e3⟩ := (h1 l hl).1
      refine ⟨rfl, ⟨c, e1, e2, e3⟩, rfl, ?_⟩
      have hc := cr_yes.mp hp
      rcases s3 f hf with ⟨a1, -, -, a4⟩ | ⟨a1, -, -, -, a5⟩ | ⟨a1, -, -, a4⟩
      · exact a4
      · exact a5
      · rw [a1] at hc; exact absurd hc.1 (by decide)
    · rw [if_neg hp, if_neg hp, if_neg hp, if_neg hp]
      exact s3 f hf
