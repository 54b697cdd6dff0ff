/-! ===== selling ===== -/
theorem worth_same {y : Gd} {g : Hg} (o : GO y) (G : GC y g) {f : Nat} (hf : f < dF y) (a : Int32) : sX1_worth g (nI f) a = some (sX9_priceOf (nI (dK y f)) (nI (dA y f)) a) := by
  have h3 := (o.2.2.2.2.2.1 f hf).2.2
  unfold sX1_worth sX9_priceOf
  rw [c_age o G hf, Option.bind_some, c_kind o G hf, Option.bind_some]
  have hk : dK y f = 0 ∨ dK y f = 1 ∨ dK y f = 2 ∨ dK y f = 3 := by omega
  rcases hk with e | e | e | e <;> rw [e]
  · rw [if_pos rfl, if_pos (by decide)]
  · rw [if_neg (by decide), if_pos rfl, if_neg (by decide), if_pos rfl]
  · rw [if_neg (by decide : ¬ nI 2 = nI 0), if_neg (by decide : ¬ nI 2 = nI 1), if_pos (rfl : nI 2 = nI 2), if_neg (by decide : ¬ nI 2 = 0), if_neg (by decide : ¬ nI 2 = nI 1), if_pos (rfl : nI 2 = nI 2)]
    by_cases h : a = 0
    · rw [if_pos h, if_pos h]
    · rw [if_neg h, if_neg h]
  · rw [if_neg (by decide), if_neg (by decide), if_neg (by decide), if_pos rfl, if_neg (by decide), if_neg (by decide), if_neg (by decide)]
theorem RR_sell {y : Gd} {B : Nat} {r n : Nat → Int32} (o : GO y) (R : RR y B r n) {l f sb : Nat} (hl : l < dL y) (hf : f < dF y) (hc : cr n l f = true) (hs : sb < 32) (h26 : r 26 = nI sb) (x : Int32) : RR y B (upd (upd r (4 + l) (r (4 + l) + x)) 26 (nI (sb ||| 2 ^ f))) (upd (upd n (4 + l) (n (4 + l) + x)) (13 + f) (nI 2)) := by
  have hL := o.2.2.1
  have hF := o.2.1
  obtain ⟨h1, h2, ⟨H, b1, b2, b3⟩, ⟨d, c1, c2, c3⟩, ⟨w, d1, d2, d3⟩, sb', s1, s2, s3⟩ := R
  have e : sb = sb' := (nI_eq (by omega) (by omega)).mp (h26.symm.trans s2)
  subst e
  have ur : ∀ k, k ≠ 4 + l → k ≠ 26 → upd (upd r (4 + l) (r (4 + l) + x)) 26 (nI (sb ||| 2 ^ f)) k = r k := fun k a b => by rw [pk_un b, pk_un a]
  have un : ∀ k, k ≠ 4 + l → k ≠ 13 + f → upd (upd n (4 + l) (n (4 + l) + x)) (13 + f) (nI 2) k = n k := fun k a b => by rw [pk_un b, pk_un a]
  have hpw : 2 ^ f < 2 ^ 5 := Nat.pow_lt_pow_right (by decide) (by omega)
  have hor : sb ||| 2 ^ f < 32 := Nat.or_lt_two_pow (n := 5) hs hpw
  refine ⟨fun k hk => ?_, fun f' hf' hf5 => ?_, ⟨H, b1, ?_, ?_⟩, ⟨d, c1, ?_, ?_⟩, ⟨w, d1, ?_, ?_⟩, sb ||| 2 ^ f, hor, pk_us, fun f' hf' => ?_⟩
  · rw [ur k (by omega) (by omega), un k (by omega) (by omega)]
    refine ⟨(h1 k hk).1, ?_⟩
    by_cases hkl : k = l
    · subst hkl
      rw [pk_un (by omega), pk_us, pk_un (by omega), pk_us, (h1 k hk).2]
    · rw [ur _ (by omega) (by omega), un _ (by omega) (by omega)]; exact (h1 k hk).2
  · rw [ur _ (by omega) (by omega)]; exact h2 f' hf' hf5
  · rw [ur _ (by omega) (by omega)]; exact b2
  · rw [un _ (by omega) (by omega)]; exact b3
  · rw [ur _ (by omega) (by omega)]; exact c2
  · rw [un _ (by omega) (by omega)]; exact c3
  · rw [ur _ (by omega) (by omega)]; exact d2
  · rw [un _ (by omega) (by omega)]; exact d3
  · by_cases e : f' = f
    · subst e
      right; right
      have hc' := cr_yes.mp hc
      rcases s3 f' hf' with ⟨a1, -⟩ | ⟨a1, a2, ⟨l', z1, z2, z3⟩, -, -⟩ | ⟨a1, -⟩
      · rw [a1] at hc'; exact absurd hc'.1 (by decide)
      · refine ⟨pk_us, by rw [ur _ (by omega) (by omega)]; exact a2, ⟨l', z1, by rw [ur _ (by omega) (by omega)]; exact z2, by rw [un _ (by omega) (by omega)]; exact z3⟩, ?_⟩
        rw [Nat.testBit_or, Nat.testBit_two_pow_self, Bool.or_true]
      · rw [a1] at hc'; exact absurd hc'.1 (by decide)
    · have eb : (sb ||| 2 ^ f).testBit f' = sb.testBit f' := by
        rw [Nat.testBit_or, Nat.testBit_two_pow_of_ne (fun q => e q.symm), Bool.or_false]
      have q : FR y (upd (upd r (4 + l) (r (4 + l) + x)) 26 (nI (sb ||| 2 ^ f))) (upd (upd n (4 + l) (n (4 + l) + x)) (13 + f) (nI 2)) sb f' := FR_one (ur _ (by omega) (by omega)) (ur _ (by omega) (by omega)) (ur _ (by omega) (by omega)) (un _ (by omega) (by omega)) (un _ (by omega) (by omega)) (un _ (by omega) (by omega)) (un _ (by omega) (by omega)) (s3 f' hf')
      unfold FR at q ⊢
      rw [eb]
      exact q
theorem set_st_at (g : Hg) (c : Nat) (r : Nat → Int32) (i : Nat) (x : Int32) : stA (setA g c r) c i x c = upd r i x := by
  rw [stA_self, setA_self]
theorem set_st_st (g : Hg) (c : Nat) (r : Nat → Int32) (i j : Nat) (x z : Int32) : stA (stA (setA g c r) c i x) c j z = setA g c (upd (upd r i x) j z) := by
  rw [st_st, setA_setA, setA_self]
section Sell
variable {y : Gd} {B t v : Nat} {g g2 : Hg}
/-- behind the last find the class changes nothing -/
theorem sell_rest (o : GO y) {l : Nat} {p : Nat → Bool} (r : Nat → Int32) : ∀ (k i : Nat), i + k = 5 → dF y ≤ i → ∀ m, k < m → sX4_trySell_29 t (nI l) (nI (bt p (dF y))) m (setA g (t + 15) r) (nI i) = some (true, setA g (t + 15) r) := by
  have hF := o.2.1
  intro k
  induction k with
  | zero =>
    intro i hi hd m hm
    obtain ⟨m, rfl⟩ : ∃ m', m = m' + 1 := ⟨m - 1, by omega⟩
    rw [sX4_trySell_29, if_pos (by rw [nI_leI (by omega) (by omega)]; omega)]
  | succ k ih =>
    intro i hi hd m hm
    obtain ⟨m, rfl⟩ : ∃ m', m = m' + 1 := ⟨m - 1, by omega⟩
    have e : decide (i < dF y) = false := decide_eq_false (by omega)
    rw [sX4_trySell_29, if_neg (by rw [nI_leI (by omega) (by omega)]; omega), has_nI (bt31 hF) (by omega), bt_testBit, e, Bool.false_and, if_neg Bool.false_ne_true, nI_add]
    exact ih (i + 1) (by omega) (by omega) m (by omega)
theorem sell_loop (o : GO y) (G : GC y g) (M : GM y g2) (ht : 3 ≤ t) (hv : v < 2) {l : Nat} (hl : l < dL y) (p : Nat → Bool) : ∀ (k i : Nat), i + k = dF y → ∀ (r n : Nat → Int32), RR y B r n → (∀ f, i ≤ f → f < dF y → cr n l f = p f) → ∃ (r' n' : Nat → Int32), (∀ m, 5 - i < m → sX4_trySell_29 t (nI l) (nI (bt p (dF y))) m (setA g (t + 15) r) (nI i) = some (true, setA g (t + 15) r')) ∧ (∀ m, k < m → sX9_sellOn_16 (nI v) (nI l) (nI (31 * v)) (nI (bt p (dF y))) m (nw g2 v n) (nI i) = some (nw g2 v n')) ∧ RR y B r' n' := by
  have hL := o.2.2.1
  have hF := o.2.1
  intro k
  induction k with
  | zero =>
    intro i hi r n R _
    refine ⟨r, n, fun m hm => sell_rest o r (5 - i) i (by omega) (by omega) m hm, fun m hm => ?_, R⟩
    obtain ⟨m, rfl⟩ : ∃ m', m = m' + 1 := ⟨m - 1, by omega⟩
    rw [sX9_sellOn_16, if_pos (by rw [(GM_row M v n).2.1, nI_leI (by omega) (by omega)]; omega)]
  | succ k ih =>
    intro i hi r n R hcr
    have hif : i < dF y := by omega
    have G' := GC_row G (show 18 ≤ t + 15 by omega) r
    have M' := GM_row M v n
    have hb : bt p (dF y) < 2 ^ 31 := bt31 hF
    have ed : decide (i < dF y) = true := decide_eq_true hif
    have hm5 : ¬ nw g2 v n 29 1 ≤ nI i := by rw [M'.2.1, nI_leI (by omega) (by omega)]; omega
    cases hp : p i with
    | false =>
      obtain ⟨r', n', p1, p2, p3⟩ := ih (i + 1) (by omega) r n R (fun f a b => hcr f (by omega) b)
      refine ⟨r', n', fun m hm => ?_, fun m hm => ?_, p3⟩
      · obtain ⟨m, rfl⟩ : ∃ m', m = m' + 1 := ⟨m - 1, by omega⟩
        rw [sX4_trySell_29, if_neg (by rw [nI_leI (by omega) (by omega)]; omega), has_nI hb (by omega), bt_testBit, ed, Bool.true_and, hp, if_neg Bool.false_ne_true, nI_add]
        exact p1 m (by omega)
      · obtain ⟨m, rfl⟩ : ∃ m', m = m' + 1 := ⟨m - 1, by omega⟩
        rw [sX9_sellOn_16, if_neg hm5, m_has, has_nI hb (by omega), bt_testBit, ed, Bool.true_and, hp, if_neg Bool.false_ne_true, nI_add]
        exact p2 m (by omega)
    | true =>
      have hc : cr n l i = true := (hcr i (Nat.le_refl _) hif).trans hp
      have hc' := cr_yes.mp hc
      obtain ⟨H, b1, b2, b3⟩ := R.2.2.1
      obtain ⟨sb, s1, s2, s3⟩ := R.2.2.2.2.2
      have hdug : r (18 + i) = n (23 + i) := by
        rcases s3 i hif with ⟨a1, -⟩ | ⟨-, -, -, a4, -⟩ | ⟨a1, -⟩
        · rw [a1] at hc'; exact absurd hc'.1 (by decide)
        · exact a4
        · rw [a1] at hc'; exact absurd hc'.1 (by decide)
      have hco := (R.1 l hl).2
      obtain ⟨x, hx⟩ : ∃ x : Int32, x = sX9_priceOf (nI (dK y i)) (nI (dA y i)) (if n (23 + i) = n 30 then nI 1 else nI 0) := ⟨_, rfl⟩
      have R2 := RR_sell o R hl hif hc s1 s2 x
      have hbit : nI sb ||| sX8_bit (nI i) = nI (sb ||| 2 ^ i) := by unfold sX8_bit; rw [bit_nI (by omega), or_nI]
      obtain ⟨r', n', p1, p2, p3⟩ := ih (i + 1) (by omega) _ _ R2 (fun f a b => by
        rw [← hcr f (by omega) b]
        unfold cr
        rw [pk_un (by omega), pk_un (by omega), pk_un (by omega), pk_un (by omega)])
      refine ⟨r', n', fun m hm => ?_, fun m hm => ?_, p3⟩
      · obtain ⟨m, rfl⟩ : ∃ m', m = m' + 1 := ⟨m - 1, by omega⟩
        rw [sX4_trySell_29, if_neg (by rw [nI_leI (by omega) (by omega)]; omega), has_nI hb (by omega), bt_testBit, ed, Bool.true_and, hp, if_pos rfl]
        simp only [nI_add]
        have w1 := worth_same o G' hif (nI 1)
        have w0 := worth_same o G' hif (nI 0)
        rw [if_pos (inb_nI (by omega) (by decide)), if_pos (inb_nI (by omega) (by decide)), nI_clamp (by omega), nI_clamp (by omega), nI_clamp (by decide), c_now, setA_self, w1, w0, Option.bind_some, Option.bind_some, if_pos (inb_nI (by omega) (by decide)), if_pos (inb_nI (by omega) (by decide))]
        have hcond : (r (18 + i) = r 23) ↔ (n (23 + i) = n 30) := by rw [hdug, b2, b3]
        by_cases hq : n (23 + i) = n 30
        · rw [if_pos (hcond.mpr hq)]
          rw [if_pos hq] at hx
          rw [← hx, set_st_at g (t + 15) r (4 + l), pk_un (by omega), s2, hbit, set_st_st g (t + 15) r (4 + l) 26]
          exact p1 m (by omega)
        · rw [if_neg (fun z => hq (hcond.mp z))]
          rw [if_neg hq] at hx
          rw [← hx, set_st_at g (t + 15) r (4 + l), pk_un (by omega), s2, hbit, set_st_st g (t + 15) r (4 + l) 26]
          exact p1 m (by omega)
      · obtain ⟨m, rfl⟩ : ∃ m', m = m' + 1 := ⟨m - 1, by omega⟩
        rw [sX9_sellOn_16, if_neg hm5, m_has, has_nI hb (by omega), bt_testBit, ed, Bool.true_and, hp, if_pos rfl]
        simp only [nI_add]
        have k33 : nw g2 v n 33 i = nI (dK y i) := (M'.2.2.2.2.2.1 i hif).2
        have k32 : nw g2 v n 32 i = nI (dA y i) := (M'.2.2.2.2.2.1 i hif).1
        rw [if_pos (inb_nI (by omega) (by decide)), if_pos (inb_nI (by omega) (by decide)), if_pos (inb_nI (by omega) (by decide)), if_pos (inb_nI (by omega) (by decide)), if_pos (inb_nI (by omega) (by decide)), if_pos (inb_nI (by omega) (by decide)), if_pos (inb_nI (by omega) (by decide)), nI_clamp (by omega), nI_clamp (by omega), nI_clamp (by omega), nI_clamp (by omega), nI_clamp (by omega), k33, k32, show 31 * v + 23 + i = 31 * v + (23 + i) by omega, show 31 * v + 4 + l = 31 * v + (4 + l) by omega, show 31 * v + 13 + i = 31 * v + (13 + i) by omega, nw_at _ _ (by omega), nw_at _ _ (by decide), nw_at _ _ (by omega)]
        by_cases hq : n (23 + i) = n 30
        · rw [if_pos hq]
          rw [if_pos hq] at hx
          rw [← hx, st_nw _ _ _ (by omega), st_nw _ _ _ (by omega)]
          exact p2 m (by omega)
        · rw [if_neg hq]
          rw [if_neg hq] at hx
          rw [← hx, st_nw _ _ _ (by omega), st_nw _ _ _ (by omega), if_pos (inb_nI (by omega) (by decide)), if_pos (inb_nI (by omega) (by decide))]
          exact p2 m (by omega)
/-- who may sell, and what becomes of it -/
theorem trySell_same (o : GO y) (G : GC y g) (M : GM y g2) (ht : 3 ≤ t) (hv : v < 2) (R : RR y B (g (t + 15)) (nr g2 v)) (a1 : Int32) : ∃ b r' n', (sX1_isLark g a1 = true → sX4_canSell g t a1 = some b) ∧ sX4_trySell g t a1 = some (b, setA g (t + 15) r') ∧ sX9_canSell g2 (nI v) a1 = some b ∧ (b = true → sX9_sellOn g2 (nI v) a1 = some (nw g2 v n')) ∧ (b = false → n' = nr g2 v) ∧ RR y B r' n' := by
  have hL := o.2.2.1
  have hF := o.2.1
  rcases ix_cases a1 (dL y) with ⟨l, hl, -, rfl⟩ | hbad
  · obtain ⟨c, e1, e2, e3⟩ := (R.1 l hl).1
    have hcl : sX4_cellOfLark g t (nI l) = some (nI c) := by rw [c_cellOfLark o G hl, e2]
    have hb : bt (cr (nr g2 v) l) (dF y) < 2 ^ 31 := bt31 hF
    -- the two tests
    have hcs : ∃ b, sX4_canSell g t (nI l) = some b ∧ sX9_canSell g2 (nI v) (nI l) = some b := by
      unfold sX4_canSell sX9_canSell sX4_isInRowByTheWall
      rw [if_pos (m_isLark_ok o M hl), c_carriedBy o R hl, Option.bind_some, m_carriedBy o M hv, Option.bind_some, hcl, Option.bind_some, Option.bind_some, c_within (nI c) (by decide) (by decide), pk_mul, nI_add, if_pos (inb_nI (by omega) (by decide)), nI_clamp (by omega), m_at g2 v, e3]
      by_cases h0 : nI (bt (cr (nr g2 v) l) (dF y)) = 0
      · exact ⟨false, by rw [if_pos h0], by rw [if_pos h0]⟩
      · rw [if_neg h0, if_neg h0]
        by_cases h4 : c < 4
        · exact ⟨true, by rw [if_pos (wi_nI (by omega) (by omega) (by omega))], by rw [if_neg (by rw [nI_leI (by omega) (by omega)]; omega)]⟩
        · refine ⟨false, ?_, by rw [if_pos (by rw [nI_leI (by omega) (by omega)]; omega)]⟩
          rw [if_neg]
          intro hw
          simp only [wi, nI_toInt (show c < 2 ^ 31 by omega), Bool.and_eq_true, decide_eq_true_eq] at hw
          omega
    obtain ⟨b, h1, h2⟩ := hcs
    cases b with
    | false =>
      refine ⟨false, g (t + 15), nr g2 v, fun _ => h1, ?_, h2, (fun h => by cases h), fun _ => rfl, R⟩
      unfold sX4_trySell
      rw [if_pos (c_isLark_ok o G hl), h1, Option.bind_some, if_neg Bool.false_ne_true, setA_id]
    | true =>
      obtain ⟨r', n', p1, p2, p3⟩ := sell_loop (g := g) (g2 := g2) o G M ht hv hl (cr (nr g2 v) l) (dF y) 0 (by omega) (g (t + 15)) (nr g2 v) R (fun f _ _ => rfl)
      refine ⟨true, r', n', fun _ => h1, ?_, h2, fun _ => ?_, (fun h => by cases h), p3⟩
      · unfold sX4_trySell
        rw [if_pos (c_isLark_ok o G hl), h1, Option.bind_some, if_pos rfl, c_carriedBy o R hl, Option.bind_some]
        have := p1 100 (by omega)
        rwa [setA_id] at this
      · unfold sX9_sellOn
        rw [m_carriedBy o M hv, Option.bind_some, pk_mul]
        have := p2 100 (by omega)
        rwa [nw_id] at this
  · refine ⟨false, g (t + 15), nr g2 v, (fun h => by rw [c_isLark_no o G hbad] at h; cases h), ?_, ?_, (fun h => by cases h), fun _ => rfl, R⟩
    · unfold sX4_trySell; rw [if_neg (ntr (c_isLark_no o G hbad)), setA_id]
    · unfold sX9_canSell; rw [if_neg (ntr (m_isLark_no o M hbad))]
end Sell
