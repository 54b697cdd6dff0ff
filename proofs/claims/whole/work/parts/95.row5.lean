/-! ===== an hour passes ===== -/
theorem FR_congr {y : Gd} {r r' n n' : Nat → Int32} {sb f : Nat} (hf : f < 5) (hr : ∀ k, 8 ≤ k → k < 23 → r' k = r k) (hn : ∀ k, 8 ≤ k → k < 28 → n' k = n k) (h : FR y r n sb f) : FR y r' n' sb f := by
  unfold FR
  rw [hr (8 + f) (by omega) (by omega), hr (13 + f) (by omega) (by omega), hr (18 + f) (by omega) (by omega), hn (13 + f) (by omega) (by omega), hn (8 + f) (by omega) (by omega), hn (18 + f) (by omega) (by omega), hn (23 + f) (by omega) (by omega)]
  exact h
theorem RR_drown {y : Gd} {B : Nat} {r n : Nat → Int32} (o : GO y) (R : RR y B r n) {d : Nat} (hd : d < 16) : RR y B (upd r 24 (nI d)) (upd n 28 (nI d)) := by
  have hL := o.2.2.1
  have hF := o.2.1
  obtain ⟨h1, h2, ⟨H, b1, b2, b3⟩, -, ⟨w, d1, d2, d3⟩, sb, s1, s2, s3⟩ := R
  refine ⟨fun k hk => ?_, fun f hf hf5 => ?_, ⟨H, b1, ?_, ?_⟩, ⟨d, hd, pk_us, pk_us⟩, ⟨w, d1, ?_, ?_⟩, sb, s1, ?_, fun f hf => FR_congr (by omega) (fun k a b => pk_un (by omega)) (fun k a b => pk_un (by omega)) (s3 f hf)⟩
  · rw [pk_un (by omega), pk_un (by omega), pk_un (by omega), pk_un (by omega)]; exact h1 k hk
  · rw [pk_un (by omega)]; exact h2 f hf hf5
  · rw [pk_un (by omega)]; exact b2
  · rw [pk_un (by omega)]; exact b3
  · rw [pk_un (by omega)]; exact d2
  · rw [pk_un (by omega)]; exact d3
  · rw [pk_un (by omega)]; exact s2
theorem RR_hour {y : Gd} {B : Nat} {r n : Nat → Int32} (o : GO y) (R : RR y B r n) : RR y (B + 1) (upd (upd r 23 (r 23 + nI 1)) 25 (nI 0)) (upd (upd n 30 (n 30 + nI 1)) 29 (nI 0)) := by
  have hL := o.2.2.1
  have hF := o.2.1
  obtain ⟨h1, h2, ⟨H, b1, b2, b3⟩, ⟨d, c1, c2, c3⟩, -, sb, s1, s2, s3⟩ := R
  have ur : ∀ k, k ≠ 23 → k ≠ 25 → upd (upd r 23 (r 23 + nI 1)) 25 (nI 0) k = r k := fun k a b => by rw [pk_un b, pk_un a]
  have un : ∀ k, k ≠ 30 → k ≠ 29 → upd (upd n 30 (n 30 + nI 1)) 29 (nI 0) k = n k := fun k a b => by rw [pk_un b, pk_un a]
  refine ⟨fun k hk => ?_, fun f hf hf5 => ?_, ⟨H + 1, by omega, ?_, ?_⟩, ⟨d, c1, ?_, ?_⟩, ⟨0, by decide, pk_us, pk_us⟩, sb, s1, ?_, fun f hf => FR_congr (by omega) (fun k a b => ur k (by omega) (by omega)) (fun k a b => un k (by omega) (by omega)) (s3 f hf)⟩
  · rw [ur k (by omega) (by omega), un k (by omega) (by omega), ur (4 + k) (by omega) (by omega), un (4 + k) (by omega) (by omega)]; exact h1 k hk
  · rw [ur _ (by omega) (by omega)]; exact h2 f hf hf5
  · rw [pk_un (by omega), pk_us, b2, nI_add]
  · rw [pk_un (by omega), pk_us, b3, nI_add]
  · rw [ur _ (by omega) (by omega)]; exact c2
  · rw [un _ (by omega) (by omega)]; exact c3
  · rw [ur _ (by omega) (by omega)]; exact s2
section Hour
variable {y : Gd} {B t v : Nat} {g g2 : Hg}
theorem hour_loop (o : GO y) (G : GC y g) (M : GM y g2) (ht : 3 ≤ t) (hv : v < 2) (hB : B < 2 ^ 20) : ∀ (k i : Nat), i + k = dL y → ∀ (r n : Nat → Int32) (cnt : Int32), RR y B r n → ∃ (cnt' : Int32) (r' n' : Nat → Int32), (∀ m, k < m → sX4_passHour_23 t m (setA g (t + 15) r) cnt (nI i) = some (cnt', setA g (t + 15) r')) ∧ (∀ m, k < m → sX9_passOn_33 (nI v) (nI (31 * v)) m (nw g2 v n) cnt (nI i) = some (cnt', nw g2 v n')) ∧ RR y B r' n' := by
  have hL := o.2.2.1
  intro k
  induction k with
  | zero =>
    intro i hi r n cnt R
    refine ⟨cnt, r, n, fun m hm => ?_, fun m hm => ?_, R⟩
    · obtain ⟨m, rfl⟩ : ∃ m', m = m' + 1 := ⟨m - 1, by omega⟩
      rw [sX4_passHour_23, if_pos (by rw [sX1_larkCount, (GC_row G (by omega) r).2.2.1, nI_leI (by omega) (by omega)]; omega)]
    · obtain ⟨m, rfl⟩ : ∃ m', m = m' + 1 := ⟨m - 1, by omega⟩
      rw [sX9_passOn_33, if_pos (by rw [(GM_row M v n).2.2.1, nI_leI (by omega) (by omega)]; omega)]
  | succ k ih =>
    intro i hi r n cnt R
    have hil : i < dL y := by omega
    have G' := GC_row G (show 18 ≤ t + 15 by omega) r
    have M' := GM_row M v n
    have R' : RR y B (setA g (t + 15) r (t + 15)) n := by rw [setA_self]; exact R
    obtain ⟨c, e1, e2, e3⟩ := (R.1 i hil).1
    obtain ⟨H, b1, b2, b3⟩ := R.2.2.1
    obtain ⟨d, c1, c2, c3⟩ := R.2.2.2.1
    have hdr : sX4_isDrowned (setA g (t + 15) r) t (nI i) = d.testBit i := c_drown o G' hil c1 (by rw [setA_self]; exact c2)
    have hcl : sX4_cellOfLark (setA g (t + 15) r) t (nI i) = some (nI c) := by rw [c_cellOfLark o G' hil, setA_self, e2]
    have hnow : sX4_now (setA g (t + 15) r) t = nI H := by rw [c_now, setA_self, b2]
    have hst := c_stands o G' hil e1 (show H < 2 ^ 30 by omega)
    have hlc : ¬ sX1_larkCount (setA g (t + 15) r) ≤ nI i := by rw [sX1_larkCount, G'.2.2.1, nI_leI (by omega) (by omega)]; omega
    have hlm : ¬ nw g2 v n 29 2 ≤ nI i := by rw [M'.2.2.1, nI_leI (by omega) (by omega)]; omega
    have hm28 : nw g2 v n 35 (31 * v + 28) = nI d := by rw [nw_at _ _ (by decide)]; exact c3
    have hmi : nw g2 v n 35 (31 * v + i) = nI c := by rw [nw_at _ _ (by omega)]; exact e3
    have hm30 : nw g2 v n 35 (31 * v + 30) = nI H := by rw [nw_at _ _ (by decide)]; exact b3
    have hms := m_stands o M' hil e1 (show H < 2 ^ 30 by omega)
    -- one step of each, by cases
    cases hd : d.testBit i with
    | true =>
      obtain ⟨cnt', r', n', p1, p2, p3⟩ := ih (i + 1) (by omega) r n cnt R
      refine ⟨cnt', r', n', fun m hm => ?_, fun m hm => ?_, p3⟩
      · obtain ⟨m, rfl⟩ : ∃ m', m = m' + 1 := ⟨m - 1, by omega⟩
        rw [sX4_passHour_23, if_neg hlc, hdr, hd, if_pos rfl, nI_add]
        exact p1 m (by omega)
      · obtain ⟨m, rfl⟩ : ∃ m', m = m' + 1 := ⟨m - 1, by omega⟩
        rw [sX9_passOn_33, if_neg hlm, nI_add, if_pos (inb_nI (by omega) (by decide)), nI_clamp (by omega), hm28, m_has, has_nI (by omega) (by omega), hd, if_pos rfl, nI_add]
        exact p2 m (by omega)
    | false =>
      cases hs : stnd y i c H with
      | true =>
        obtain ⟨cnt', r', n', p1, p2, p3⟩ := ih (i + 1) (by omega) r n cnt R
        refine ⟨cnt', r', n', fun m hm => ?_, fun m hm => ?_, p3⟩
        · obtain ⟨m, rfl⟩ : ∃ m', m = m' + 1 := ⟨m - 1, by omega⟩
          rw [sX4_passHour_23, if_neg hlc, hdr, hd, if_neg Bool.false_ne_true, hcl, Option.bind_some, hnow, hst, hs, Option.bind_some, if_pos rfl, nI_add]
          exact p1 m (by omega)
        · obtain ⟨m, rfl⟩ : ∃ m', m = m' + 1 := ⟨m - 1, by omega⟩
          rw [sX9_passOn_33, if_neg hlm]
          simp only [nI_add]
          rw [if_pos (inb_nI (by omega) (by decide)), nI_clamp (by omega), hm28, m_has, has_nI (by omega) (by omega), hd, if_neg Bool.false_ne_true, if_pos (inb_nI (by omega) (by decide)), if_pos (inb_nI (by omega) (by decide)), nI_clamp (by omega), nI_clamp (by omega), hmi, hm30, hms, hs, Option.bind_some, if_pos rfl]
          exact p2 m (by omega)
      | false =>
        have R2 := RR_lay o R hil
        obtain ⟨d', q1, q2, q3⟩ := R2.2.2.2.1
        obtain ⟨u1, u2⟩ := or_bits (show i < 4 by omega) q1
        have R3 := RR_drown o R2 u2
        obtain ⟨cnt', r', n', p1, p2, p3⟩ := ih (i + 1) (by omega) _ _ (cnt + nI 1) R3
        refine ⟨cnt', r', n', fun m hm => ?_, fun m hm => ?_, p3⟩
        · obtain ⟨m, rfl⟩ : ∃ m', m = m' + 1 := ⟨m - 1, by omega⟩
          rw [sX4_passHour_23, if_neg hlc, hdr, hd, if_neg Bool.false_ne_true, hcl, Option.bind_some, hnow, hst, hs, Option.bind_some, if_neg Bool.false_ne_true, c_layDown o G' ht R' hil, setA_setA, setA_self, Option.bind_some, nI_clamp (by decide), setA_self, q2, u1, st_set, nI_add]
          exact p1 m (by omega)
        · obtain ⟨m, rfl⟩ : ∃ m', m = m' + 1 := ⟨m - 1, by omega⟩
          have hpo : sX9_putOn (nw g2 v n) (nI v) (nI i) = some (nw g2 v (lyM n i (cr n i) (dF y))) := by
            rw [m_putOn o M' hv hil, nw_nw]
            congr 1
            apply nw_congr
            intro k hk
            have ecr : ∀ f, f < 5 → cr (nr (nw g2 v n) v) i f = cr n i f := fun f hf => by
              unfold cr
              rw [nr_nw _ _ (by omega), nr_nw _ _ (by omega)]
            have hF := o.2.1
            unfold lyM
            by_cases z1 : 13 ≤ k ∧ k < 13 + dF y
            · rw [ecr (k - 13) (by omega)]
              by_cases z2 : 8 ≤ k ∧ k < 8 + dF y
              · omega
              · rw [nr_nw _ _ hk, nr_nw _ _ (by omega)]
                have z3 : ∀ p : Bool, ¬ (8 ≤ k ∧ k < 8 + dF y ∧ p = true) := fun p h => z2 ⟨h.1, h.2.1⟩
                rw [if_neg (z3 _), if_neg (z3 _)]
            · have z4 : ∀ p : Bool, ¬ (13 ≤ k ∧ k < 13 + dF y ∧ p = true) := fun p h => z1 ⟨h.1, h.2.1⟩
              rw [if_neg (z4 _), if_neg (z4 _), nr_nw _ _ hk, nr_nw _ _ (by omega)]
              by_cases z2 : 8 ≤ k ∧ k < 8 + dF y
              · rw [ecr (k - 8) (by omega)]
              · have z3 : ∀ p : Bool, ¬ (8 ≤ k ∧ k < 8 + dF y ∧ p = true) := fun p h => z2 ⟨h.1, h.2.1⟩
                rw [if_neg (z3 _), if_neg (z3 _)]
          rw [sX9_passOn_33, if_neg hlm]
          simp only [nI_add]
          rw [if_pos (inb_nI (by omega) (by decide)), nI_clamp (by omega), hm28, m_has, has_nI (by omega) (by omega), hd, if_neg Bool.false_ne_true, if_pos (inb_nI (by omega) (by decide)), if_pos (inb_nI (by omega) (by decide)), nI_clamp (by omega), nI_clamp (by omega), hmi, hm30, hms, hs, Option.bind_some, if_neg Bool.false_ne_true, hpo, Option.bind_some, if_pos (inb_nI (by omega) (by decide)), if_pos (inb_nI (by omega) (by decide)), nw_at _ _ (by decide), q3, show (nI 1) <<< (nI i &&& 31) = sX8_bit (nI i) from rfl, u1, st_nw _ _ _ (by decide)]
          exact p2 m (by omega)
theorem hour_same (o : GO y) (G : GC y g) (M : GM y g2) (ht : 3 ≤ t) (hv : v < 2) (hB : B + 1 < 2 ^ 20) (R : RR y B (g (t + 15)) (nr g2 v)) : ∃ (cnt : Int32) (r' n' : Nat → Int32), sX4_passHour g t = some (cnt, setA g (t + 15) r') ∧ sX9_passOn g2 (nI v) = some (cnt, nw g2 v n') ∧ RR y (B + 1) r' n' := by
  obtain ⟨cnt, r', n', p1, p2, p3⟩ := hour_loop o G M ht hv hB (dL y) 0 (by omega) _ _ (nI 0) (RR_hour o R)
  have hL := o.2.2.1
  refine ⟨cnt, r', n', ?_, ?_, p3⟩
  · unfold sX4_passHour
    rw [nI_clamp (by decide), nI_clamp (by decide), st_st g (t + 15) 23 25]
    exact p1 100 (by omega)
  · unfold sX9_passOn
    rw [pk_mul, nI_add, nI_add, if_pos (inb_nI (by omega) (by decide)), if_pos (inb_nI (by omega) (by decide)), if_pos (inb_nI (by omega) (by decide)), nI_clamp (by omega), nI_clamp (by omega), m_at g2 v]
    have e3 : stA g2 35 (31 * v + 30) (nr g2 v 30 + nI 1) = nw g2 v (upd (nr g2 v) 30 (nr g2 v 30 + nI 1)) := by
      have := st_nw g2 (v := v) (nr g2 v) (nr g2 v 30 + nI 1) (show 30 < 31 by decide)
      rwa [nw_id] at this
    rw [e3, st_nw _ _ _ (by decide)]
    exact p2 100 (by omega)
end Hour
