/-! ===== flat, both ===== -/
/-- the reference's flat, as numbers -/
theorem m_flatAll {g2 u : Hg} {T F L : Nat} (e : sX9_readText g2 = some (-9, u)) (T6 : T ≤ 6) (F5 : F ≤ 5) (L4 : L ≤ 4) (p13 : u 29 13 = nI T) (p14 : u 29 14 = nI F) (p15 : u 29 15 = nI L) : ∃ s, sX9_flat g2 = some (nI 100 * nI T + nI 10 * nI F + nI L, s) ∧ (∀ c, c < 29 ∨ (35 < c ∧ c ≠ 46) → s c = u c) ∧ (∀ i, 2 < i → i ≠ 20 → s 29 i = u 29 i) ∧ s 29 20 = nI 0 ∧ (s 29 0 = nI T ∧ s 29 1 = nI F ∧ s 29 2 = nI L) ∧ (∀ i, i < 2 → s 46 i = nI 0) ∧ (∀ c, c < 12 → s 30 c = u 36 c) ∧ (∀ k, k < T → s 31 k = u 37 k) ∧ (∀ f, f < F → s 35 (8 + f) = u 38 (3 * f) ∧ s 32 f = u 38 (3 * f + 1) ∧ s 33 f = u 38 (3 * f + 2)) ∧ (∀ l, l < L → s 35 l = u 39 (2 * l) ∧ s 34 l = u 39 (2 * l + 1)) ∧ ∀ k, L ≤ k → (k < 8 ∨ 8 + F ≤ k) → k < 31 → s 35 k = nI 0 := by
  have v1 : (stA u 29 0 (nI T)) 29 14 = nI F := by rw [stA_self, pk_un (by decide), p14]
  have v2 : (stA (stA u 29 0 (nI T)) 29 1 (nI F)) 29 15 = nI L := by rw [stA_self, pk_un (by decide), stA_self, pk_un (by decide), p15]
  have w0 : (stA (stA (stA u 29 0 (nI T)) 29 1 (nI F)) 29 2 (nI L)) 29 0 = nI T := by rw [stA_self, pk_un (by decide), stA_self, pk_un (by decide), stA_self, pk_us]
  have w1 : (stA (stA (stA u 29 0 (nI T)) 29 1 (nI F)) 29 2 (nI L)) 29 1 = nI F := by rw [stA_self, pk_un (by decide), stA_self, pk_us]
  have w2 : (stA (stA (stA u 29 0 (nI T)) 29 1 (nI F)) 29 2 (nI L)) 29 2 = nI L := by rw [stA_self, pk_us]
  have wi' : ∀ i, 2 < i → (stA (stA (stA u 29 0 (nI T)) 29 1 (nI F)) 29 2 (nI L)) 29 i = u 29 i := fun i hi => by rw [stA_self, pk_un (by omega), stA_self, pk_un (by omega), stA_self, pk_un (by omega)]
  have wc : ∀ c, c ≠ 29 → (stA (stA (stA u 29 0 (nI T)) 29 1 (nI F)) 29 2 (nI L)) c = u c := fun c hc => by rw [stA_ne _ _ _ _ hc, stA_ne _ _ _ _ hc, stA_ne _ _ _ _ hc]
  have eq : sX9_flat g2 = sX9_flat_38 100 (stA (stA (stA u 29 0 (nI T)) 29 1 (nI F)) 29 2 (nI L)) (nI 0) := by
    unfold sX9_flat
    rw [e, Option.bind_some]
    dsimp only
    rw [if_pos rfl, p13, v1, v2]
  rw [eq]
  generalize (stA (stA (stA u 29 0 (nI T)) 29 1 (nI F)) 29 2 (nI L)) = a at w0 w1 w2 wi' wc
  obtain ⟨s1, j1, j2, j3⟩ := m_flat38 a
  obtain ⟨s2, k1, k2, k3⟩ := m_flat59 s1
  obtain ⟨s3, l1, l2, l3⟩ := m_flat85 (a := s2) T6 (by rw [k2 29 (by decide), j2 29 (by decide), w0])
  obtain ⟨s4, n1, n2, n3, n4⟩ := m_flat113 (a := s3) F5 (by rw [l2 29 (by decide), k2 29 (by decide), j2 29 (by decide), w1])
  have e29 : s4 29 = a 29 := by rw [n2 29 (by decide) (by decide) (by decide), l2 29 (by decide), k2 29 (by decide), j2 29 (by decide)]
  obtain ⟨s5, q1, q2, q3, q4, q5, q6, q7⟩ := m_flat178 (a := s4) L4 (by rw [e29, w2])
  have a3 : ∀ c, c ≠ 29 → c ≠ 30 → c ≠ 31 → c ≠ 35 → s3 c = u c := fun c x y z w => by rw [l2 c z, k2 c y, j2 c w, wc c x]
  have a4 : ∀ c, c < 29 ∨ 35 < c → s4 c = u c := fun c x => by rw [n2 c (by omega) (by omega) (by omega), a3 c (by omega) (by omega) (by omega) (by omega)]
  refine ⟨s5, ?_, fun c hc => ?_, fun i hi hi2 => ?_, q4, ⟨?_, ?_, ?_⟩, q5, fun c hc => ?_, fun k hk => ?_, fun f hf => ⟨?_, ?_, ?_⟩, fun l hl => ?_, fun k h1 h2 h3 => ?_⟩
  · rw [j1, k1, l1, n1, q1, e29, w0, w1, w2]
  · rw [q2 c (by omega) (by omega) (by omega) (by omega), a4 c (by omega)]
  · rw [q3 i hi2, e29, wi' i hi]
  · rw [q3 0 (by decide), e29, w0]
  · rw [q3 1 (by decide), e29, w1]
  · rw [q3 2 (by decide), e29, w2]
  · rw [q2 30 (by decide) (by decide) (by decide) (by decide), n2 30 (by decide) (by decide) (by decide), l2 30 (by decide), k3 c hc, j2 36 (by decide), wc 36 (by decide)]
  · rw [q2 31 (by decide) (by decide) (by decide) (by decide), n2 31 (by decide) (by decide) (by decide), l3 k hk, k2 37 (by decide), j2 37 (by decide), wc 37 (by decide)]
  · rw [q7 (8 + f) (by omega), (n3 f hf).1, a3 38 (by decide) (by decide) (by decide) (by decide)]
  · rw [q2 32 (by decide) (by decide) (by decide) (by decide), (n3 f hf).2.1, a3 38 (by decide) (by decide) (by decide) (by decide)]
  · rw [q2 33 (by decide) (by decide) (by decide) (by decide), (n3 f hf).2.2, a3 38 (by decide) (by decide) (by decide) (by decide)]
  · rw [(q6 l hl).1, (q6 l hl).2, a4 39 (by decide)]
    exact ⟨rfl, rfl⟩
  · rw [q7 k h1, n4 k h2, l2 35 (by decide), k2 35 (by decide), j3 k h3]
theorem op_flat {y : Gd} {B : Nat} {g g2 : Hg} (R : RA y B g g2) : ∃ x g' g2', sX8_flat g = some (x, g') ∧ sX9_flat g2 = some (x, g2') ∧ ∃ y', RA y' B g' g2' := by
  obtain ⟨n, t, Cg, M⟩ := tx_get R.2.1
  obtain ⟨x, g', u, a1, a2, a3, a4, -⟩ := text_same Cg Cg M
  obtain ⟨x2, g3, u3, b1, b2, -, -, b5⟩ := text_same (h := g') Cg (FrC_tc a3 Cg) M
  have z1 := a1.symm.trans b1
  have z2 := a2.symm.trans b2
  rw [Option.some.injEq, Prod.mk.injEq] at z1 z2
  obtain ⟨rfl, rfl⟩ := z1
  obtain ⟨-, rfl⟩ := z2
  by_cases hx : x = -9
  · obtain ⟨h', T, F, L, c1, c2, c3, c4⟩ := b5 hx
    subst hx
    obtain ⟨⟨T6, F5, L4⟩, ⟨p7, p8, p9⟩, ⟨p13, p14, p15⟩, d1, d2, d3⟩ := c3
    obtain ⟨s, e1, e2, e3⟩ := c_anew L4 F5 p8 p9
    obtain ⟨v, f1, f2, f3, f4, ⟨f50, f51, f52⟩, f6, f7, f8, f9, f10, f11⟩ := m_flatAll a2 T6 F5 L4 p13 p14 p15
    have gi : ∀ c i, c ≠ 5 → c ≠ 6 → stA (stA s 5 1 (nI 0)) 6 1 (nI 0) c i = s c i := fun c i x y => by rw [stA_ne _ 6 _ _ (k := c) y, stA_ne _ 5 _ _ (k := c) x]
    have gc : ∀ c, c ≠ 5 → c ≠ 6 → stA (stA s 5 1 (nI 0)) 6 1 (nI 0) c = s c := fun c x y => by rw [stA_ne _ 6 _ _ (k := c) y, stA_ne _ 5 _ _ (k := c) x]
    have gh : ∀ c, c ≠ 5 → c ≠ 6 → c ≠ 18 → stA (stA s 5 1 (nI 0)) 6 1 (nI 0) c = h' c := fun c x y z => by rw [gc c x y, e2 c z]
    have gg : ∀ c, c ≠ 1 → c ≠ 2 → c ≠ 5 → c ≠ 6 → c ≠ 18 → (c < 11 ∨ 17 < c) → stA (stA s 5 1 (nI 0)) 6 1 (nI 0) c = g c := fun c x y z w q r => by rw [gh c z w q, c2 c y r, a3.1 c x]
    have vu : ∀ c, c < 29 ∨ (39 < c ∧ c ≠ 46) → v c = g2 c := fun c hc => by rw [f2 c (by omega), a4.1 c (by omega) (by omega)]
    have vi : ∀ i, (2 < i ∧ i < 13) ∨ i = 17 ∨ 20 < i → v 29 i = g2 29 i := fun i hi => by rw [f3 i (by omega) (by omega), a4.2 i (by omega)]
    refine ⟨_, stA (stA s 5 1 (nI 0)) 6 1 (nI 0), v, ?_, f1, ((T, F, L), fun c => (h' 11 c).toNatClampNeg, fun k => (h' 12 k).toNatClampNeg, fun f => (h' 14 f).toNatClampNeg, fun f => (h' 15 f).toNatClampNeg, fun l => (h' 17 l).toNatClampNeg), ⟨⟨T6, F5, L4, ?_, ?_, ?_, ?_⟩, ⟨?_, ?_, ?_, ?_, ?_, ?_, ?_⟩, ⟨f50, f51, f52, ?_, ?_, ?_, ?_⟩, ⟨?_, ?_, ⟨0, Nat.zero_le _, ?_, ?_⟩, ⟨0, by decide, ?_, ?_⟩, ⟨0, by decide, ?_, ?_⟩, ⟨0, by decide, ?_, ?_⟩⟩⟩, ?_, ?_, ?_, ?_⟩
    · unfold sX8_flat
      rw [a1, Option.bind_some]
      dsimp only
      rw [if_pos rfl, c1, Option.bind_some, e1, Option.bind_some]
      unfold sX6_forgetAll sX0_forgetAll sX1_tideCount sX1_findCount sX1_larkCount
      rw [gi 2 7 (by decide) (by decide), gi 2 8 (by decide) (by decide), gi 2 9 (by decide) (by decide), e2 2 (by decide), p7, p8, p9]
    · intro c hc
      obtain ⟨w, q1, q2, q3⟩ := c4 c hc
      show (h' 11 c).toNatClampNeg ≤ 9
      rw [q2, nI_clamp (by omega)]; exact q1
    · intro k hk
      obtain ⟨w, q1, q2, q3⟩ := d1 k hk
      show (h' 12 k).toNatClampNeg ≤ 9
      rw [q2, nI_clamp (by omega)]; exact q1
    · intro f hf
      obtain ⟨c, a, k, q1, q2, q3, q4, q5, q6, q7, q8, q9, q10⟩ := d2 f hf
      show 1 ≤ (h' 14 f).toNatClampNeg ∧ (h' 14 f).toNatClampNeg ≤ 9 ∧ (h' 15 f).toNatClampNeg ≤ 3
      rw [q6, q7, nI_clamp (by omega), nI_clamp (by omega)]; exact ⟨q2, q3, q4⟩
    · intro l hl
      obtain ⟨c, b, q1, q2, q3, q4, q5, q6⟩ := d3 l hl
      show (h' 17 l).toNatClampNeg ≤ 3
      rw [q4, nI_clamp (by omega)]; exact q2
    · rw [gi 2 7 (by decide) (by decide), e2 2 (by decide), p7]
    · rw [gi 2 8 (by decide) (by decide), e2 2 (by decide), p8]
    · rw [gi 2 9 (by decide) (by decide), e2 2 (by decide), p9]
    · intro c hc
      obtain ⟨w, q1, q2, q3⟩ := c4 c hc
      show _ = nI (h' 11 c).toNatClampNeg
      rw [gh 11 (by decide) (by decide) (by decide), q2, nI_clamp (by omega)]
    · intro k hk
      obtain ⟨w, q1, q2, q3⟩ := d1 k hk
      show _ = nI (h' 12 k).toNatClampNeg
      rw [gh 12 (by decide) (by decide) (by decide), q2, nI_clamp (by omega)]
    · intro f hf
      obtain ⟨c, a, k, q1, q2, q3, q4, q5, q6, q7, q8, q9, q10⟩ := d2 f hf
      show _ = nI (h' 14 f).toNatClampNeg ∧ _ = nI (h' 15 f).toNatClampNeg
      rw [gh 14 (by decide) (by decide) (by decide), gh 15 (by decide) (by decide) (by decide), q6, q7, nI_clamp (by omega), nI_clamp (by omega)]
      exact ⟨rfl, rfl⟩
    · intro l hl
      obtain ⟨c, b, q1, q2, q3, q4, q5, q6⟩ := d3 l hl
      show _ = nI (h' 17 l).toNatClampNeg
      rw [gh 17 (by decide) (by decide) (by decide), q4, nI_clamp (by omega)]
    · intro c hc
      obtain ⟨w, q1, q2, q3⟩ := c4 c hc
      show _ = nI (h' 11 c).toNatClampNeg
      rw [f7 c hc, q3, q2, nI_clamp (by omega)]
    · intro k hk
      obtain ⟨w, q1, q2, q3⟩ := d1 k hk
      show _ = nI (h' 12 k).toNatClampNeg
      rw [f8 k hk, q3, q2, nI_clamp (by omega)]
    · intro f hf
      obtain ⟨c, a, k, q1, q2, q3, q4, q5, q6, q7, q8, q9, q10⟩ := d2 f hf
      show _ = nI (h' 14 f).toNatClampNeg ∧ _ = nI (h' 15 f).toNatClampNeg
      rw [(f9 f hf).2.1, (f9 f hf).2.2, q9, q10, q6, q7, nI_clamp (by omega), nI_clamp (by omega)]
      exact ⟨rfl, rfl⟩
    · intro l hl
      obtain ⟨c, b, q1, q2, q3, q4, q5, q6⟩ := d3 l hl
      show _ = nI (h' 17 l).toNatClampNeg
      rw [(f10 l hl).2, q6, q4, nI_clamp (by omega)]
    · intro l hl
      have hl' : l < L := hl
      obtain ⟨c, b, q1, q2, q3, q4, q5, q6⟩ := d3 l hl
      refine ⟨⟨c, q1, ?_, ?_⟩, ?_⟩
      · rw [gi 18 l (by decide) (by decide), e3 l (by omega)]
        unfold srow
        rw [if_pos (by omega), if_pos hl', q3]
      · rw [← nr0, (f10 l hl).1, q5]
      · rw [gi 18 (4 + l) (by decide) (by decide), e3 (4 + l) (by omega), ← nr0, f11 (4 + l) (by omega) (by omega) (by omega)]
        unfold srow
        rw [if_neg (by omega), if_pos (by omega)]
    · intro f hf hf5
      rw [gi 18 _ (by decide) (by decide), e3 _ (by omega)]
      unfold srow
      rw [if_neg (by omega), if_neg (by omega), if_neg (by omega), if_pos (by omega)]
    · rw [gi 18 _ (by decide) (by decide), e3 _ (by decide)]; rfl
    · rw [← nr0, f11 30 (by omega) (by omega) (by omega)]
    · rw [gi 18 _ (by decide) (by decide), e3 _ (by decide)]; rfl
    · rw [← nr0, f11 28 (by omega) (by omega) (by omega)]
    · rw [gi 18 _ (by decide) (by decide), e3 _ (by decide)]; rfl
    · rw [← nr0, f11 29 (by omega) (by omega) (by omega)]
    · rw [gi 18 _ (by decide) (by decide), e3 _ (by decide)]; rfl
    · intro f hf
      have hf' : f < F := hf
      obtain ⟨c, a, k, q1, q2, q3, q4, q5, q6, q7, q8, q9, q10⟩ := d2 f hf
      refine Or.inl ⟨?_, ⟨c, q1, ?_, ?_⟩, ?_, by simp⟩
      · rw [← nr0, f11 (13 + f) (by omega) (by omega) (by omega)]
      · rw [gi 18 _ (by decide) (by decide), e3 _ (by omega)]
        unfold srow
        rw [if_neg (by omega), if_neg (by omega), if_pos (by omega), if_pos (by omega), show 8 + f - 8 = f by omega, q5]
      · rw [← nr0, (f9 f hf).1, q8]
      · rw [gi 18 _ (by decide) (by decide), e3 _ (by omega)]
        unfold srow
        rw [if_neg (by omega), if_neg (by omega), if_neg (by omega), if_pos (by omega)]
    · refine TX_congr ?_ (gg 10 (by decide) (by decide) (by decide) (by decide) (by decide) (by decide)) (vi 17 (by decide)) (vu 40 (by decide)) R.2.1
      rw [gi 1 1 (by decide) (by decide), e2 1 (by decide), c2 1 (by decide) (by decide), a3.2]
    · obtain ⟨-, -, ⟨ak, ax, -, k2, -, -, k5, -⟩, -⟩ := R
      exact ⟨0, ax, by decide, k2, by rw [stA_ne _ 6 _ _ (k := 5) (by decide), stA_self, pk_us], f4, by rw [vi 21 (by decide), k5], fun j hj => absurd hj (Nat.not_lt_zero _)⟩
    · exact ⟨0, by decide, by rw [stA_self, pk_us], fun i hi => ⟨by rw [f6 i hi, if_neg (by simp)], fun q => absurd q (by simp)⟩⟩
    · refine SI_congr (congrFun (gg 7 (by decide) (by decide) (by decide) (by decide) (by decide) (by decide)) 3) (gg 22 (by decide) (by decide) (by decide) (by decide) (by decide) (by decide)) (gg 23 (by decide) (by decide) (by decide) (by decide) (by decide) (by decide)) (gg 24 (by decide) (by decide) (by decide) (by decide) (by decide) (by decide)) (vi 23 (by decide)) (vu 42 (by decide)) (vu 43 (by decide)) (vu 44 (by decide)) R.2.2.2.2
  · refine ⟨-3, g', u, ?_, ?_, y, RA_fr R a3 a4⟩
    · unfold sX8_flat
      rw [a1, Option.bind_some]
      dsimp only
      rw [if_neg hx]
    · unfold sX9_flat
      rw [a2, Option.bind_some]
      dsimp only
      rw [if_neg hx]
