/-! ===== the flat made anew ===== -/
theorem invloop {σ R : Type} (L : Nat → σ → Int32 → R) (I : Nat → σ → Prop) (N : Nat) (Q : R → Prop) (h0 : ∀ m s, I N s → Q (L (m + 1) s (nI N))) (h1 : ∀ m s i, i < N → I i s → ∃ s', I (i + 1) s' ∧ L (m + 1) s (nI i) = L m s' (nI (i + 1))) (s0 : σ) (hI : I 0 s0) (m : Nat) (hm : N < m) : Q (L m s0 (nI 0)) := by
  have key : ∀ (k i m : Nat) (s : σ), i + k = N → k < m → I i s → Q (L m s (nI i)) := by
    intro k
    induction k with
    | zero =>
      intro i m s hi hm hs
      obtain ⟨m, rfl⟩ : ∃ m', m = m' + 1 := ⟨m - 1, by omega⟩
      have e : i = N := by omega
      subst e
      exact h0 m s hs
    | succ k ih =>
      intro i m s hi hm hs
      obtain ⟨m, rfl⟩ : ∃ m', m = m' + 1 := ⟨m - 1, by omega⟩
      obtain ⟨s', q1, q2⟩ := h1 m s i (by omega) hs
      rw [q2]
      exact ih (i + 1) m s' (by omega) (by omega) q1
  exact key N 0 m s0 (by omega) hm hI
/-- the class's row when the flat is made anew -/
def srow (L F : Nat) (h : Hg) (k : Nat) : Int32 := if k < 4 then (if k < L then h 16 k else -9) else if k < 8 then nI 0 else if k < 13 then (if k - 8 < F then h 13 (k - 8) else -9) else if k < 23 then -9 else nI 0
theorem c_toldLark {h : Hg} {L l : Nat} (hL : L ≤ 4) (h9 : h 2 9 = nI L) (hl : l < 4) : sX1_toldCellOfLark h (nI l) = some (if l < L then h 16 l else -9) := by
  have e : sX1_isLark h (nI l) = decide (l < L) := by
    unfold sX1_isLark
    rw [if_neg (nI_pos (by omega)), h9]
    by_cases hlL : l < L
    · rw [if_neg (show ¬ nI L ≤ nI l by rw [nI_leI (by omega) (by omega)]; omega), if_neg (show ¬ nI 4 ≤ nI l by rw [nI_leI (by omega) (by omega)]; omega), decide_eq_true hlL]
    · rw [if_pos (show nI L ≤ nI l by rw [nI_leI (by omega) (by omega)]; omega), decide_eq_false hlL]
  unfold sX1_toldCellOfLark
  rw [e]
  by_cases hlL : l < L
  · rw [if_pos (decide_eq_true hlL), if_pos (inb_nI hl (by decide)), nI_clamp (by omega), if_pos hlL]
  · rw [if_neg (ntr (decide_eq_false hlL)), if_neg hlL]
theorem c_toldFind {h : Hg} {F f : Nat} (hF : F ≤ 5) (h8 : h 2 8 = nI F) (hf : f < 5) : sX1_toldCellOfFind h (nI f) = some (if f < F then h 13 f else -9) := by
  have e : sX1_isFind h (nI f) = decide (f < F) := by
    unfold sX1_isFind
    rw [if_neg (nI_pos (by omega)), h8]
    by_cases hlL : f < F
    · rw [if_neg (show ¬ nI F ≤ nI f by rw [nI_leI (by omega) (by omega)]; omega), if_neg (show ¬ nI 5 ≤ nI f by rw [nI_leI (by omega) (by omega)]; omega), decide_eq_true hlL]
    · rw [if_pos (show nI F ≤ nI f by rw [nI_leI (by omega) (by omega)]; omega), decide_eq_false hlL]
  unfold sX1_toldCellOfFind
  rw [e]
  by_cases hlL : f < F
  · rw [if_pos (decide_eq_true hlL), if_pos (inb_nI hf (by decide)), nI_clamp (by omega), if_pos hlL]
  · rw [if_neg (ntr (decide_eq_false hlL)), if_neg hlL]
theorem c_anew2 {h s0 : Hg} {L F : Nat} (hF : F ≤ 5) (h8 : h 2 8 = nI F) (e0 : ∀ c, c ≠ 18 → s0 c = h c) (r0' : ∀ k, k < 8 → s0 18 k = srow L F h k) : ∃ s, sX4_startAnew_40 3 100 s0 (nI 0) = some s ∧ (∀ c, c ≠ 18 → s c = h c) ∧ ∀ k, k < 27 → s 18 k = srow L F h k := by
  refine invloop (fun m s i => sX4_startAnew_40 3 m s i) (fun i s => (∀ c, c ≠ 18 → s c = h c) ∧ ∀ k, (k < 8 + i ∨ (13 ≤ k ∧ k < 13 + i) ∨ (18 ≤ k ∧ k < 18 + i)) → s 18 k = srow L F h k) 5 (fun r => ∃ s, r = some s ∧ (∀ c, c ≠ 18 → s c = h c) ∧ ∀ k, k < 27 → s 18 k = srow L F h k) (fun m s hs => ?_) (fun m s i hi hs => ?_) s0 ⟨e0, fun k hk => r0' k (by omega)⟩ 100 (by decide)
  · obtain ⟨h1, h2⟩ := hs
    refine ⟨_, by rw [sX4_startAnew_40, if_pos (by decide)], fun c hc => ?_, fun k hk => ?_⟩
    · show stA (stA (stA (stA s 18 23 (nI 0)) 18 24 (nI 0)) 18 25 (nI 0)) 18 26 (nI 0) c = _
      rw [stA_ne _ _ _ _ hc, stA_ne _ _ _ _ hc, stA_ne _ _ _ _ hc, stA_ne _ _ _ _ hc, h1 c hc]
    · show stA (stA (stA (stA s 18 23 (nI 0)) 18 24 (nI 0)) 18 25 (nI 0)) 18 26 (nI 0) 18 k = _
      rw [st_rd, if_pos rfl, st_rd, if_pos rfl, st_rd, if_pos rfl, st_rd, if_pos rfl]
      by_cases hk23 : k < 23
      · rw [if_neg (by omega), if_neg (by omega), if_neg (by omega), if_neg (by omega)]
        exact h2 k (by omega)
      · have e : srow L F h k = nI 0 := by
          unfold srow
          rw [if_neg (by omega), if_neg (by omega), if_neg (by omega), if_neg (by omega)]
        rw [e]
        by_cases q26 : k = 26
        · rw [if_pos q26]
        · rw [if_neg q26]
          by_cases q25 : k = 25
          · rw [if_pos q25]
          · rw [if_neg q25]
            by_cases q24 : k = 24
            · rw [if_pos q24]
            · rw [if_neg q24, if_pos (by omega)]
  · obtain ⟨h1, h2⟩ := hs
    refine ⟨stA (stA (stA s 18 (8 + i) (if i < F then h 13 i else -9)) 18 (13 + i) (-9)) 18 (18 + i) (-9), ⟨fun c hc => ?_, fun k hk => ?_⟩, ?_⟩
    · rw [stA_ne _ _ _ _ hc, stA_ne _ _ _ _ hc, stA_ne _ _ _ _ hc, h1 c hc]
    · rw [st_rd, if_pos rfl, st_rd, if_pos rfl, st_rd, if_pos rfl]
      by_cases k1 : k = 18 + i
      · rw [if_pos k1]
        unfold srow
        rw [if_neg (by omega), if_neg (by omega), if_neg (by omega), if_pos (by omega)]
      · rw [if_neg k1]
        by_cases k2 : k = 13 + i
        · rw [if_pos k2]
          unfold srow
          rw [if_neg (by omega), if_neg (by omega), if_neg (by omega), if_pos (by omega)]
        · rw [if_neg k2]
          by_cases k3 : k = 8 + i
          · rw [if_pos k3]
            subst k3
            unfold srow
            rw [if_neg (show ¬ 8 + i < 4 by omega), if_neg (show ¬ 8 + i < 8 by omega), if_pos (show 8 + i < 13 by omega), show 8 + i - 8 = i by omega]
          · rw [if_neg k3]
            exact h2 k (by omega)
    · show sX4_startAnew_40 3 (m + 1) s (nI i) = sX4_startAnew_40 3 m _ (nI (i + 1))
      have e1 : sX1_toldCellOfFind s (nI i) = some (if i < F then h 13 i else -9) := by
        rw [c_toldFind hF (by rw [h1 2 (by decide), h8]) hi, h1 13 (by decide)]
      rw [sX4_startAnew_40, if_neg (by rw [nI_leI (by omega) (by omega)]; omega), e1, Option.bind_some, nI_add, nI_add, nI_add, if_pos (inb_nI (by omega) (by decide)), if_pos (inb_nI (by omega) (by decide)), if_pos (inb_nI (by omega) (by decide)), nI_clamp (by omega), nI_clamp (by omega), nI_clamp (by omega), nI_add]
theorem c_anew {h : Hg} {L F : Nat} (hL : L ≤ 4) (hF : F ≤ 5) (h8 : h 2 8 = nI F) (h9 : h 2 9 = nI L) : ∃ s, sX4_startAnew h 3 = some s ∧ (∀ c, c ≠ 18 → s c = h c) ∧ ∀ k, k < 27 → s 18 k = srow L F h k := by
  unfold sX4_startAnew
  refine invloop (fun m s i => sX4_startAnew_2 3 m s i) (fun i s => (∀ c, c ≠ 18 → s c = h c) ∧ ∀ k, (k < i ∨ (4 ≤ k ∧ k < 4 + i)) → s 18 k = srow L F h k) 4 (fun r => ∃ s, r = some s ∧ (∀ c, c ≠ 18 → s c = h c) ∧ ∀ k, k < 27 → s 18 k = srow L F h k) (fun m s hs => ?_) (fun m s i hi hs => ?_) h ⟨fun _ _ => rfl, fun k hk => absurd hk (by omega)⟩ 100 (by decide)
  · obtain ⟨h1, h2⟩ := hs
    show ∃ s', sX4_startAnew_2 3 (m + 1) s (nI 4) = some s' ∧ _
    rw [sX4_startAnew_2, if_pos (by decide)]
    exact c_anew2 hF h8 h1 (fun k hk => h2 k (by omega))
  · obtain ⟨h1, h2⟩ := hs
    refine ⟨stA (stA s 18 i (if i < L then h 16 i else -9)) 18 (4 + i) (nI 0), ⟨fun c hc => ?_, fun k hk => ?_⟩, ?_⟩
    · rw [stA_ne _ _ _ _ hc, stA_ne _ _ _ _ hc, h1 c hc]
    · rw [st_rd, if_pos rfl, st_rd, if_pos rfl]
      by_cases k1 : k = 4 + i
      · rw [if_pos k1]
        unfold srow
        rw [if_neg (by omega), if_pos (by omega)]
      · rw [if_neg k1]
        by_cases k2 : k = i
        · rw [if_pos k2]
          subst k2
          unfold srow
          rw [if_pos hi]
        · rw [if_neg k2]
          exact h2 k (by omega)
    · show sX4_startAnew_2 3 (m + 1) s (nI i) = sX4_startAnew_2 3 m _ (nI (i + 1))
      have e1 : sX1_toldCellOfLark s (nI i) = some (if i < L then h 16 i else -9) := by
        rw [c_toldLark hL (by rw [h1 2 (by decide), h9]) hi, h1 16 (by decide)]
      rw [sX4_startAnew_2, if_neg (by rw [nI_leI (by omega) (by omega)]; omega), e1, Option.bind_some, nI_add, nI_add, if_pos (inb_nI (by omega) (by decide)), if_pos (inb_nI (by omega) (by decide)), nI_clamp (by omega), nI_clamp (by omega), nI_add, Nat.zero_add]
/-! the reference -/
theorem m_flat178 {a : Hg} {L : Nat} (hL : L ≤ 4) (h2 : a 29 2 = nI L) : ∃ s, sX9_flat_178 100 a (nI 0) = some (nI 100 * a 29 0 + nI 10 * a 29 1 + a 29 2, s) ∧ (∀ c, c ≠ 29 → c ≠ 34 → c ≠ 35 → c ≠ 46 → s c = a c) ∧ (∀ i, i ≠ 20 → s 29 i = a 29 i) ∧ s 29 20 = nI 0 ∧ (∀ i, i < 2 → s 46 i = nI 0) ∧ (∀ l, l < L → s 35 l = a 39 (2 * l) ∧ s 34 l = a 39 (2 * l + 1)) ∧ ∀ k, L ≤ k → s 35 k = a 35 k := by
  refine invloop (fun m s i => sX9_flat_178 m s i) (fun i s => (∀ c, c ≠ 34 → c ≠ 35 → s c = a c) ∧ (∀ l, l < i → s 35 l = a 39 (2 * l) ∧ s 34 l = a 39 (2 * l + 1)) ∧ ∀ k, i ≤ k → s 35 k = a 35 k) L (fun r => ∃ s, r = some (nI 100 * a 29 0 + nI 10 * a 29 1 + a 29 2, s) ∧ (∀ c, c ≠ 29 → c ≠ 34 → c ≠ 35 → c ≠ 46 → s c = a c) ∧ (∀ i, i ≠ 20 → s 29 i = a 29 i) ∧ s 29 20 = nI 0 ∧ (∀ i, i < 2 → s 46 i = nI 0) ∧ (∀ l, l < L → s 35 l = a 39 (2 * l) ∧ s 34 l = a 39 (2 * l + 1)) ∧ ∀ k, L ≤ k → s 35 k = a 35 k) (fun m s hs => ?_) (fun m s i hi hs => ?_) a ⟨fun _ _ _ => rfl, fun l hl => absurd hl (Nat.not_lt_zero _), fun _ _ => rfl⟩ 100 (by omega)
  · obtain ⟨s1, s2, s3⟩ := hs
    have b29 : ∀ i, i ≠ 20 → stA (stA (stA s 29 20 (nI 0)) 46 0 (nI 0)) 46 1 (nI 0) 29 i = a 29 i := fun i hi => by rw [stA_ne _ 46 _ _ (k := 29) (by decide), stA_ne _ 46 _ _ (k := 29) (by decide), stA_self, pk_un hi, s1 29 (by decide) (by decide)]
    have bc : ∀ c, c ≠ 29 → c ≠ 46 → stA (stA (stA s 29 20 (nI 0)) 46 0 (nI 0)) 46 1 (nI 0) c = s c := fun c x y => by rw [stA_ne _ 46 _ _ (k := c) y, stA_ne _ 46 _ _ (k := c) y, stA_ne _ 29 _ _ (k := c) x]
    refine ⟨stA (stA (stA s 29 20 (nI 0)) 46 0 (nI 0)) 46 1 (nI 0), ?_, fun c x y z w => by rw [bc c x w, s1 c y z], b29, ?_, fun i hi => ?_, fun l hl => ?_, fun k hk => ?_⟩
    · show sX9_flat_178 (m + 1) s (nI L) = _
      rw [sX9_flat_178, s1 29 (by decide) (by decide), h2, if_pos (by rw [nI_leI (by omega) (by omega)]; omega), show vp_nar .boolean (nI 0) = nI 0 from rfl, nI_clamp (by decide), nI_clamp (by decide), b29 0 (by decide), b29 1 (by decide), b29 2 (by decide), h2]
    · rw [stA_ne _ 46 _ _ (k := 29) (by decide), stA_ne _ 46 _ _ (k := 29) (by decide), stA_self, pk_us]
    · rw [stA_self]
      by_cases hi1 : i = 1
      · subst hi1; exact pk_us
      · rw [pk_un hi1, stA_self]
        have : i = 0 := by omega
        subst this; exact pk_us
    · rw [bc 35 (by decide) (by decide), bc 34 (by decide) (by decide)]
      exact s2 l hl
    · rw [bc 35 (by decide) (by decide)]
      exact s3 k hk
  · obtain ⟨s1, s2, s3⟩ := hs
    refine ⟨stA (stA s 35 i (a 39 (2 * i))) 34 i (a 39 (2 * i + 1)), ⟨fun c x y => by rw [stA_ne _ 34 _ _ (k := c) x, stA_ne _ 35 _ _ (k := c) y, s1 c x y], fun l hl => ?_, fun k hk => ?_⟩, ?_⟩
    · rw [stA_ne _ 34 _ _ (k := 35) (by decide), stA_self, stA_self, stA_ne _ 35 _ _ (k := 34) (by decide)]
      by_cases hli : l = i
      · subst hli
        exact ⟨pk_us, pk_us⟩
      · rw [pk_un hli, pk_un hli]
        exact s2 l (by omega)
    · rw [stA_ne _ 34 _ _ (k := 35) (by decide), stA_self, pk_un (by omega)]
      exact s3 k (by omega)
    · show sX9_flat_178 (m + 1) s (nI i) = sX9_flat_178 m _ (nI (i + 1))
      have e39 : ∀ j x, stA s 35 i x 39 j = a 39 j := fun j x => by rw [stA_ne _ 35 _ _ (k := 39) (by decide), s1 39 (by decide) (by decide)]
      rw [sX9_flat_178, s1 29 (by decide) (by decide), h2, if_neg (by rw [nI_leI (by omega) (by omega)]; omega), pk_mul, nI_add, nI_add, if_pos (inb_nI (by omega) (by decide)), if_pos (inb_nI (by omega) (by decide)), if_pos (inb_nI (by omega) (by decide)), if_pos (inb_nI (by omega) (by decide)), nI_clamp (by omega), nI_clamp (by omega), nI_clamp (by omega), e39, s1 39 (by decide) (by decide)]
theorem m_flat113 {a : Hg} {F : Nat} (hF : F ≤ 5) (h2 : a 29 1 = nI F) : ∃ s, sX9_flat_113 100 a (nI 0) = sX9_flat_178 100 s (nI 0) ∧ (∀ c, c ≠ 32 → c ≠ 33 → c ≠ 35 → s c = a c) ∧ (∀ f, f < F → s 35 (8 + f) = a 38 (3 * f) ∧ s 32 f = a 38 (3 * f + 1) ∧ s 33 f = a 38 (3 * f + 2)) ∧ ∀ k, (k < 8 ∨ 8 + F ≤ k) → s 35 k = a 35 k := by
  refine invloop (fun m s i => sX9_flat_113 m s i) (fun i s => (∀ c, c ≠ 32 → c ≠ 33 → c ≠ 35 → s c = a c) ∧ (∀ f, f < i → s 35 (8 + f) = a 38 (3 * f) ∧ s 32 f = a 38 (3 * f + 1) ∧ s 33 f = a 38 (3 * f + 2)) ∧ ∀ k, (k < 8 ∨ 8 + i ≤ k) → s 35 k = a 35 k) F (fun r => ∃ s, r = sX9_flat_178 100 s (nI 0) ∧ (∀ c, c ≠ 32 → c ≠ 33 → c ≠ 35 → s c = a c) ∧ (∀ f, f < F → s 35 (8 + f) = a 38 (3 * f) ∧ s 32 f = a 38 (3 * f + 1) ∧ s 33 f = a 38 (3 * f + 2)) ∧ ∀ k, (k < 8 ∨ 8 + F ≤ k) → s 35 k = a 35 k) (fun m s hs => ?_) (fun m s i hi hs => ?_) a ⟨fun _ _ _ _ => rfl, fun l hl => absurd hl (Nat.not_lt_zero _), fun _ _ => rfl⟩ 100 (by omega)
  · refine ⟨s, ?_, hs⟩
    show sX9_flat_113 (m + 1) s (nI F) = _
    rw [sX9_flat_113, hs.1 29 (by decide) (by decide) (by decide), h2, if_pos (by rw [nI_leI (by omega) (by omega)]; omega)]
  · obtain ⟨s1, s2, s3⟩ := hs
    refine ⟨stA (stA (stA s 35 (8 + i) (a 38 (3 * i))) 32 i (a 38 (3 * i + 1))) 33 i (a 38 (3 * i + 2)), ⟨fun c x y z => by rw [stA_ne _ 33 _ _ (k := c) y, stA_ne _ 32 _ _ (k := c) x, stA_ne _ 35 _ _ (k := c) z, s1 c x y z], fun f hf => ?_, fun k hk => ?_⟩, ?_⟩
    · rw [stA_ne _ 33 _ _ (k := 35) (by decide), stA_ne _ 32 _ _ (k := 35) (by decide), stA_self, stA_ne _ 33 _ _ (k := 32) (by decide), stA_self, stA_ne _ 35 _ _ (k := 32) (by decide), stA_self, stA_ne _ 32 _ _ (k := 33) (by decide), stA_ne _ 35 _ _ (k := 33) (by decide)]
      by_cases hli : f = i
      · subst hli
        exact ⟨pk_us, pk_us, pk_us⟩
      · rw [pk_un (by omega), pk_un hli, pk_un hli]
        exact s2 f (by omega)
    · rw [stA_ne _ 33 _ _ (k := 35) (by decide), stA_ne _ 32 _ _ (k := 35) (by decide), stA_self, pk_un (by omega)]
      exact s3 k (by omega)
    · show sX9_flat_113 (m + 1) s (nI i) = sX9_flat_113 m _ (nI (i + 1))
      have e1 : ∀ j x, stA s 35 (8 + i) x 38 j = a 38 j := fun j x => by rw [stA_ne _ 35 _ _ (k := 38) (by decide), s1 38 (by decide) (by decide) (by decide)]
      have e2 : ∀ j x y, stA (stA s 35 (8 + i) x) 32 i y 38 j = a 38 j := fun j x y => by rw [stA_ne _ 32 _ _ (k := 38) (by decide), e1]
      rw [sX9_flat_113, s1 29 (by decide) (by decide) (by decide), h2, if_neg (by rw [nI_leI (by omega) (by omega)]; omega), pk_mul, nI_add, nI_add, nI_add, nI_add, if_pos (inb_nI (by omega) (by decide)), if_pos (inb_nI (by omega) (by decide)), if_pos (inb_nI (by omega) (by decide)), if_pos (inb_nI (by omega) (by decide)), if_pos (inb_nI (by omega) (by decide)), if_pos (inb_nI (by omega) (by decide)), nI_clamp (by omega), nI_clamp (by omega), nI_clamp (by omega), nI_clamp (by omega), nI_clamp (by omega), e1, e2, s1 38 (by decide) (by decide) (by decide)]
theorem m_flat85 {a : Hg} {T : Nat} (hT : T ≤ 6) (h2 : a 29 0 = nI T) : ∃ s, sX9_flat_85 100 a (nI 0) = sX9_flat_113 100 s (nI 0) ∧ (∀ c, c ≠ 31 → s c = a c) ∧ ∀ k, k < T → s 31 k = a 37 k := by
  refine invloop (fun m s i => sX9_flat_85 m s i) (fun i s => (∀ c, c ≠ 31 → s c = a c) ∧ ∀ k, k < i → s 31 k = a 37 k) T (fun r => ∃ s, r = sX9_flat_113 100 s (nI 0) ∧ (∀ c, c ≠ 31 → s c = a c) ∧ ∀ k, k < T → s 31 k = a 37 k) (fun m s hs => ?_) (fun m s i hi hs => ?_) a ⟨fun _ _ => rfl, fun l hl => absurd hl (Nat.not_lt_zero _)⟩ 100 (by omega)
  · refine ⟨s, ?_, hs⟩
    show sX9_flat_85 (m + 1) s (nI T) = _
    rw [sX9_flat_85, hs.1 29 (by decide), h2, if_pos (by rw [nI_leI (by omega) (by omega)]; omega)]
  · obtain ⟨s1, s2⟩ := hs
    refine ⟨stA s 31 i (a 37 i), ⟨fun c x => by rw [stA_ne _ 31 _ _ (k := c) x, s1 c x], fun k hk => ?_⟩, ?_⟩
    · rw [stA_self]
      by_cases hki : k = i
      · subst hki; exact pk_us
      · rw [pk_un hki]; exact s2 k (by omega)
    · show sX9_flat_85 (m + 1) s (nI i) = sX9_flat_85 m _ (nI (i + 1))
      rw [sX9_flat_85, s1 29 (by decide), h2, if_neg (by rw [nI_leI (by omega) (by omega)]; omega), if_pos (inb_nI (by omega) (by decide)), if_pos (inb_nI (by omega) (by decide)), nI_clamp (by omega), s1 37 (by decide), nI_add]
theorem m_flat59 (a : Hg) : ∃ s, sX9_flat_59 100 a (nI 0) = sX9_flat_85 100 s (nI 0) ∧ (∀ c, c ≠ 30 → s c = a c) ∧ ∀ k, k < 12 → s 30 k = a 36 k := by
  refine invloop (fun m s i => sX9_flat_59 m s i) (fun i s => (∀ c, c ≠ 30 → s c = a c) ∧ ∀ k, k < i → s 30 k = a 36 k) 12 (fun r => ∃ s, r = sX9_flat_85 100 s (nI 0) ∧ (∀ c, c ≠ 30 → s c = a c) ∧ ∀ k, k < 12 → s 30 k = a 36 k) (fun m s hs => ?_) (fun m s i hi hs => ?_) a ⟨fun _ _ => rfl, fun l hl => absurd hl (Nat.not_lt_zero _)⟩ 100 (by decide)
  · refine ⟨s, ?_, hs⟩
    show sX9_flat_59 (m + 1) s (nI 12) = _
    rw [sX9_flat_59, if_pos (by decide)]
  · obtain ⟨s1, s2⟩ := hs
    refine ⟨stA s 30 i (a 36 i), ⟨fun c x => by rw [stA_ne _ 30 _ _ (k := c) x, s1 c x], fun k hk => ?_⟩, ?_⟩
    · rw [stA_self]
      by_cases hki : k = i
      · subst hki; exact pk_us
      · rw [pk_un hki]; exact s2 k (by omega)
    · show sX9_flat_59 (m + 1) s (nI i) = sX9_flat_59 m _ (nI (i + 1))
      rw [sX9_flat_59, if_neg (by rw [nI_leI (by omega) (by omega)]; omega), if_pos (inb_nI (by omega) (by decide)), if_pos (inb_nI (by omega) (by decide)), nI_clamp (by omega), s1 36 (by decide), nI_add]
theorem m_flat38 (a : Hg) : ∃ s, sX9_flat_38 100 a (nI 0) = sX9_flat_59 100 s (nI 0) ∧ (∀ c, c ≠ 35 → s c = a c) ∧ ∀ k, k < 31 → s 35 k = nI 0 := by
  refine invloop (fun m s i => sX9_flat_38 m s i) (fun i s => (∀ c, c ≠ 35 → s c = a c) ∧ ∀ k, k < i → s 35 k = nI 0) 31 (fun r => ∃ s, r = sX9_flat_59 100 s (nI 0) ∧ (∀ c, c ≠ 35 → s c = a c) ∧ ∀ k, k < 31 → s 35 k = nI 0) (fun m s hs => ?_) (fun m s i hi hs => ?_) a ⟨fun _ _ => rfl, fun l hl => absurd hl (Nat.not_lt_zero _)⟩ 100 (by decide)
  · refine ⟨s, ?_, hs⟩
    show sX9_flat_38 (m + 1) s (nI 31) = _
    rw [sX9_flat_38, if_pos (by decide)]
  · obtain ⟨s1, s2⟩ := hs
    refine ⟨stA s 35 i (nI 0), ⟨fun c x => by rw [stA_ne _ 35 _ _ (k := c) x, s1 c x], fun k hk => ?_⟩, ?_⟩
    · rw [stA_self]
      by_cases hki : k = i
      · subst hki; exact pk_us
      · rw [pk_un hki]; exact s2 k (by omega)
    · show sX9_flat_38 (m + 1) s (nI i) = sX9_flat_38 m _ (nI (i + 1))
      rw [sX9_flat_38, if_neg (by rw [nI_leI (by omega) (by omega)]; omega), if_pos (inb_nI (by omega) (by decide)), nI_clamp (by omega), nI_add]
