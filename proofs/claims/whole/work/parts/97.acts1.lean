/-! ===== the acts ===== -/
theorem nw0 (g : Hg) (n : Nat → Int32) {i : Nat} (hi : i < 31) : nw g 0 n 35 i = n i := by
  have := nw_at g (v := 0) n hi
  rwa [Nat.mul_zero, Nat.zero_add] at this
theorem bc0 {n : Nat} (hn : n < 64) : sJ6_bitCount_0f7a4 (nI n) = 0 ↔ n = 0 := co_dec (N := 64) (P := fun n => sJ6_bitCount_0f7a4 (nI n) = 0 ↔ n = 0) (by decide +kernel) hn
theorem bt64 {p : Nat → Bool} {F : Nat} (hF : F ≤ 5) : bt p F < 64 := Nat.lt_of_lt_of_le (bt_lt p F) (Nat.pow_le_pow_right (by decide) (show F ≤ 6 by omega))
theorem cr_congr {n n' : Nat → Int32} {l F : Nat} (hF : F ≤ 5) (h : ∀ k, k < 31 → n' k = n k) : bt (cr n' l) F = bt (cr n l) F := bt_congr (fun f hf => by
  unfold cr
  rw [h _ (by omega), h _ (by omega)])
section Acts
variable {y : Gd} {B : Nat} {g g2 : Hg}
theorem op_walk (R : RA y B g g2) (hB : B < 2 ^ 19) (a b : Int32) : ∃ x g' g2', sX8_walk g a b = some (x, g') ∧ sX9_walk g2 a b = some (x, g2') ∧ RA y B g' g2' := by
  have R' := R
  obtain ⟨⟨o, G, M, RR0⟩, -⟩ := R'
  have hL := o.2.2.1
  unfold sX8_walk sX9_walk
  rcases ix_cases a (dL y) with ⟨l, hl, -, rfl⟩ | hbad
  · rw [if_pos (c_isLark_ok o G hl), if_pos (m_isLark_ok o M hl), c_within b (by decide) (by decide), m_in b (lN 1) 4 1 4 rfl rfl]
    rcases wi_cases b 1 4 (by decide) with ⟨k, k1, k2, rfl, hk⟩ | hk
    · have hk' : wi (nI k) 1 4 = true := hk
      obtain ⟨bb, h1, h2, h3⟩ := canWalk_same (t := 3) (v := 0) o G M (by decide) (by omega) RR0 (nI l) (nI k)
      rw [if_pos hk, if_pos hk', h1, Option.bind_some, h2, Option.bind_some]
      cases bb with
      | false => exact ⟨-3, g, g2, by rw [if_neg Bool.false_ne_true], by rw [if_neg Bool.false_ne_true], R⟩
      | true =>
        obtain ⟨g1, hh, p1, p2, p3, p4, p5⟩ := act_same R
        obtain ⟨-, G1, M1, RR1⟩ := p3.1
        obtain ⟨b2, q1, q2, -⟩ := canWalk_same (t := 3) (v := 0) o G1 M (by decide) (by omega) (show RR y B (g1 18) (nr g2 0) by rw [p4]; exact RR0) (nI l) (nI k)
        obtain ⟨b4, s1, s2, -⟩ := canWalk_same (t := 3) (v := 0) o G1 M1 (by decide) (by omega) RR1 (nI l) (nI k)
        obtain ⟨b3, r', n', t1, t2, t3, -, t5⟩ := tryWalk_same (t := 3) (v := 0) o G1 M1 (by decide) (by omega) RR1 (nI l) (nI k)
        have e1 : b2 = true := Option.some.inj (q2.symm.trans h2)
        have e2 : b4 = b2 := Option.some.inj (s1.symm.trans q1)
        have e3 : b3 = b4 := Option.some.inj (t2.symm.trans s2)
        have e4 : b3 = true := e3.trans (e2.trans e1)
        refine ⟨r' l, _, _, ?_, ?_, RA_row p3 (Nat.le_refl _) t5⟩
        · rw [if_pos rfl, p1, Option.bind_some, t1, Option.bind_some, c_cellOfLark (t := 3) o (GC_row G1 (by decide) r') hl, Option.bind_some]
          rfl
        · rw [if_pos rfl, p2, Option.bind_some, t3 e4, Option.bind_some, if_pos (inb_nI (by omega) (by decide)), nI_clamp (by omega), nw0 _ _ (by omega)]
          obtain ⟨c, -, c2, c3⟩ := (t5.1 l hl).1
          rw [c2, c3]
    · have hk' : wi b 1 4 = false := hk
      exact ⟨-2, g, g2, by rw [if_neg (ntr hk)], by rw [if_neg (ntr hk')], R⟩
  · exact ⟨-1, g, g2, by rw [if_neg (ntr (c_isLark_no o G hbad))], by rw [if_neg (ntr (m_isLark_no o M hbad))], R⟩
theorem op_hour (R : RA y B g g2) (hB : B < 2 ^ 19) : ∃ x g' g2', sX8_hour g = some (x, g') ∧ sX9_hour g2 = some (x, g2') ∧ RA y (B + 1) g' g2' := by
  obtain ⟨g1, hh, p1, p2, p3, p4, p5⟩ := act_same R
  obtain ⟨o, G1, M1, RR1⟩ := p3.1
  obtain ⟨cnt, r', n', t1, t2, t3⟩ := hour_same (t := 3) (v := 0) o G1 M1 (by decide) (by decide) (by omega) RR1
  refine ⟨cnt, _, _, ?_, ?_, RA_row p3 (by omega) t3⟩
  · unfold sX8_hour
    rw [p1, Option.bind_some, t1, Option.bind_some]
  · unfold sX9_hour
    rw [p2, Option.bind_some, t2, Option.bind_some]
theorem op_dig (R : RA y B g g2) (hB : B < 2 ^ 19) (a b : Int32) : ∃ x g' g2', sX8_dig g a b = some (x, g') ∧ sX9_dig g2 a b = some (x, g2') ∧ RA y B g' g2' := by
  have R' := R
  obtain ⟨⟨o, G, M, RR0⟩, -⟩ := R'
  have hL := o.2.2.1
  have hF := o.2.1
  unfold sX8_dig sX9_dig
  rcases ix_cases a (dL y) with ⟨l, hl, -, rfl⟩ | hbad
  · rw [if_pos (c_isLark_ok o G hl), if_pos (m_isLark_ok o M hl)]
    rcases ix_cases b (dF y) with ⟨f, hf, -, rfl⟩ | hbad
    · obtain ⟨bb, h1, h2, h3⟩ := canDig_same (t := 3) (v := 0) o G M (by decide) (by omega) RR0 (nI l) (nI f)
      rw [if_pos (c_isFind_ok o G hf), if_pos (m_isFind_ok o M hf), h1, Option.bind_some, h2, Option.bind_some]
      cases bb with
      | false => exact ⟨-3, g, g2, by rw [if_neg Bool.false_ne_true], by rw [if_neg Bool.false_ne_true], R⟩
      | true =>
        obtain ⟨g1, hh, p1, p2, p3, p4, p5⟩ := act_same R
        obtain ⟨-, G1, M1, RR1⟩ := p3.1
        obtain ⟨b2, q1, q2, -⟩ := canDig_same (t := 3) (v := 0) o G1 M (by decide) (by omega) (show RR y B (g1 18) (nr g2 0) by rw [p4]; exact RR0) (nI l) (nI f)
        obtain ⟨b4, s1, s2, -⟩ := canDig_same (t := 3) (v := 0) o G1 M1 (by decide) (by omega) RR1 (nI l) (nI f)
        obtain ⟨b3, r', n', t1, t2, t3, -, t5⟩ := tryDig_same (t := 3) (v := 0) o G1 M1 (by decide) (by omega) RR1 (nI l) (nI f)
        have e1 : b2 = true := Option.some.inj (q2.symm.trans h2)
        have e2 : b4 = b2 := Option.some.inj (s1.symm.trans q1)
        have e3 : b3 = b4 := Option.some.inj (t2.symm.trans s2)
        have e4 : b3 = true := e3.trans (e2.trans e1)
        have R3 := RA_row p3 (Nat.le_refl _) t5
        obtain ⟨-, G3, M3, RR3⟩ := R3.1
        have ec : bt (cr (nr (nw hh 0 n') 0) l) (dF y) = bt (cr n' l) (dF y) := cr_congr hF (fun k hk => nr_nw _ _ hk)
        refine ⟨sJ6_bitCount_0f7a4 (nI (bt (cr n' l) (dF y))), _, _, ?_, ?_, R3⟩
        · rw [if_pos rfl, p1, Option.bind_some, t1, Option.bind_some, c_carriedBy (t := 3) o RR3 hl, Option.bind_some, ec]
        · rw [if_pos rfl, p2, Option.bind_some, t3 e4, Option.bind_some, m_carriedBy (v := 0) o M3 (by decide), Option.bind_some, ec, ones_bc (bt64 hF), Option.bind_some]
    · exact ⟨-1, g, g2, by rw [if_neg (ntr (c_isFind_no o G hbad))], by rw [if_neg (ntr (m_isFind_no o M hbad))], R⟩
  · exact ⟨-1, g, g2, by rw [if_neg (ntr (c_isLark_no o G hbad))], by rw [if_neg (ntr (m_isLark_no o M hbad))], R⟩
theorem op_put (R : RA y B g g2) (hB : B < 2 ^ 19) (a : Int32) : ∃ x g' g2', sX8_put g a = some (x, g') ∧ sX9_put g2 a = some (x, g2') ∧ RA y B g' g2' := by
  have R' := R
  obtain ⟨⟨o, G, M, RR0⟩, -⟩ := R'
  have hL := o.2.2.1
  have hF := o.2.1
  unfold sX8_put sX9_put
  rcases ix_cases a (dL y) with ⟨l, hl, -, rfl⟩ | hbad
  · have hb : bt (cr (nr g2 0) l) (dF y) < 64 := bt64 hF
    rw [if_pos (c_isLark_ok o G hl), if_pos (m_isLark_ok o M hl), c_carriedBy (t := 3) o RR0 hl, Option.bind_some, m_carriedBy (v := 0) o M (by decide), Option.bind_some, ones_bc hb, Option.bind_some]
    by_cases h0 : bt (cr (nr g2 0) l) (dF y) = 0
    · exact ⟨-3, g, g2, by rw [if_pos (by rw [h0]; rfl)], by rw [if_pos ((bc0 hb).mpr h0)], R⟩
    · obtain ⟨g1, hh, p1, p2, p3, p4, p5⟩ := act_same R
      obtain ⟨-, G1, M1, RR1⟩ := p3.1
      refine ⟨sJ6_bitCount_0f7a4 (nI (bt (cr (nr g2 0) l) (dF y))), _, _, ?_, ?_, RA_row p3 (Nat.le_refl _) (RR_lay o RR1 hl)⟩
      · rw [if_neg (nI_ne0 (by omega) (by omega)), p1, Option.bind_some, c_layDown (t := 3) o G1 (by decide) RR1 hl, Option.bind_some]
      · rw [if_neg (fun q => h0 ((bc0 hb).mp q)), p2, Option.bind_some, m_putOn (v := 0) o M1 (by decide) hl, Option.bind_some]
  · exact ⟨-1, g, g2, by rw [if_neg (ntr (c_isLark_no o G hbad))], by rw [if_neg (ntr (m_isLark_no o M hbad))], R⟩
theorem op_sell (R : RA y B g g2) (hB : B < 2 ^ 19) (a : Int32) : ∃ x g' g2', sX8_sell g a = some (x, g') ∧ sX9_sell g2 a = some (x, g2') ∧ RA y B g' g2' := by
  have R' := R
  obtain ⟨⟨o, G, M, RR0⟩, -⟩ := R'
  have hL := o.2.2.1
  have hF := o.2.1
  unfold sX8_sell sX9_sell
  rcases ix_cases a (dL y) with ⟨l, hl, -, rfl⟩ | hbad
  · obtain ⟨bb, _, _, h1, -, h2, -, -, -⟩ := trySell_same (t := 3) (v := 0) o G M (by decide) (by decide) RR0 (nI l)
    rw [if_pos (c_isLark_ok o G hl), if_pos (m_isLark_ok o M hl), h1 (c_isLark_ok o G hl), Option.bind_some, h2, Option.bind_some]
    cases bb with
    | false => exact ⟨-3, g, g2, by rw [if_neg Bool.false_ne_true], by rw [if_neg Bool.false_ne_true], R⟩
    | true =>
      obtain ⟨g1, hh, p1, p2, p3, p4, p5⟩ := act_same R
      obtain ⟨-, G1, M1, RR1⟩ := p3.1
      obtain ⟨b2, _, _, -, q1, q2, -, -, -⟩ := trySell_same (t := 3) (v := 0) o G1 M (by decide) (by decide) (show RR y B (g1 18) (nr g2 0) by rw [p4]; exact RR0) (nI l)
      obtain ⟨b3, r', n', -, t1, t2, t3, -, t5⟩ := trySell_same (t := 3) (v := 0) o G1 M1 (by decide) (by decide) RR1 (nI l)
      have e1 : b2 = true := Option.some.inj (q2.symm.trans h2)
      have e2 : b3 = b2 := congrArg Prod.fst (Option.some.inj (t1.symm.trans q1))
      have e4 : b3 = true := e2.trans e1
      refine ⟨r' (4 + l), _, _, ?_, ?_, RA_row p3 (Nat.le_refl _) t5⟩
      · rw [if_pos rfl, p1, Option.bind_some, t1, Option.bind_some, c_coins (t := 3) o (GC_row G1 (by decide) r') hl, Option.bind_some]
        rfl
      · rw [if_pos rfl, p2, Option.bind_some, t3 e4, Option.bind_some, nI_add, if_pos (inb_nI (by omega) (by decide)), nI_clamp (by omega), nw0 _ _ (by omega), (t5.1 l hl).2]
  · exact ⟨-1, g, g2, by rw [if_neg (ntr (c_isLark_no o G hbad))], by rw [if_neg (ntr (m_isLark_no o M hbad))], R⟩
theorem op_undo (R : RA y B g g2) (hB : B < 2 ^ 19) : ∃ x g' g2', sX8_undo g = some (x, g') ∧ sX9_undo g2 = some (x, g2') ∧ RA y B g' g2' := by
  have R' := R
  obtain ⟨⟨o, G, M, RR0⟩, hT, ⟨k, x, a1, a2, a3, a4, a5, a6⟩, hS, hI⟩ := R'
  unfold sX8_undo sX9_undo
  rw [sX0_size, a3, a4]
  by_cases h0 : k = 0
  · subst h0
    exact ⟨-3, g, g2, by rw [if_pos nI_0], by rw [if_pos nI_0], R⟩
  · have ek : nI k - nI 1 = nI (k - 1) := pk_sub (by omega)
    rw [if_neg (nI_ne0 (by omega) (by omega)), if_neg (nI_ne0 (by omega) (by omega)), ek]
    have u1 : stA (stA g2 29 20 (nI (k - 1))) 29 21 (nI ((x + 13) % 14)) 29 21 = nI ((x + 13) % 14) := by rw [stA_self, pk_us]
    have u0 : stA g2 29 20 (nI (k - 1)) 29 21 = nI x := by rw [stA_self, pk_un (by decide), a5]
    have u2 : stA (stA g2 29 20 (nI (k - 1))) 29 21 (nI ((x + 13) % 14)) 29 20 = nI (k - 1) := by rw [stA_self, pk_un (by decide), stA_self, pk_us]
    have u3 : ∀ c, c ≠ 29 → stA (stA g2 29 20 (nI (k - 1))) 29 21 (nI ((x + 13) % 14)) c = g2 c := fun c hc => by rw [stA_ne _ _ _ _ hc, stA_ne _ _ _ _ hc]
    have u4 : ∀ i, i ≠ 20 → i ≠ 21 → stA (stA g2 29 20 (nI (k - 1))) 29 21 (nI ((x + 13) % 14)) 29 i = g2 29 i := fun i h1 h2 => by rw [stA_self, pk_un h2, stA_self, pk_un h1]
    rw [u0, nI_add, pk_rem (by omega) (by decide) (by decide)]
    generalize stA (stA g2 29 20 (nI (k - 1))) 29 21 (nI ((x + 13) % 14)) = H at u1 u2 u3 u4
    have hx' : (x + 13) % 14 < 14 := Nat.mod_lt _ (by decide)
    have key := seqloop (fun m a i => sX9_undo_36 m a i) (fun i => setA H 35 (va_cpy (H 41) (H 35) (31 * ((x + 13) % 14)) 0 i)) 31 (some (nI (k - 1), setA H 35 (va_cpy (H 41) (H 35) (31 * ((x + 13) % 14)) 0 31))) (fun m => ?_) (fun m i hi => ?_) 100 (by decide)
    · simp only [cpy_0, setA_id] at key
      have v1 : stA g 5 1 (nI (k - 1)) 5 1 = nI (k - 1) := by rw [stA_self, pk_us]
      have v2 : ∀ c, c ≠ 5 → stA g 5 1 (nI (k - 1)) c = g c := fun c hc => by rw [stA_ne _ _ _ _ hc]
      refine ⟨nI (k - 1), setA (stA g 5 1 (nI (k - 1))) 18 (va_cpy (g 20) (g 18) ((k - 1) * 27) 0 27), _, ?_, key, ?_⟩
      · unfold sX0_takeBack
        rw [a3, if_neg (nI_nle (by omega) (by omega)), ek, v1, pk_mul, c_load _ 20 378 ((k - 1) * 27) (by omega) (by decide), Option.bind_some, Option.bind_some, v2 20 (by decide), v2 18 (by decide), sX0_size, setA_ne _ _ (by decide), v1]
      · generalize stA g 5 1 (nI (k - 1)) = g' at v1 v2
        have w1 : ∀ (r : Nat → Int32) c, c ≠ 5 → c ≠ 18 → setA g' 18 r c = g c := fun r c h1 h2 => by rw [setA_ne _ _ h2, v2 c h1]
        have w1' : ∀ (r : Nat → Int32) c i, c ≠ 5 → c ≠ 18 → setA g' 18 r c i = g c i := fun r c i h1 h2 => by rw [w1 r c h1 h2]
        have w2 : ∀ (r : Nat → Int32) c, c ≠ 29 → c ≠ 35 → setA H 35 r c = g2 c := fun r c h1 h2 => by rw [setA_ne _ _ h2, u3 c h1]
        have w3 : ∀ (r : Nat → Int32) i, i ≠ 20 → i ≠ 21 → setA H 35 r 29 i = g2 29 i := fun r i h1 h2 => by rw [setA_ne _ _ (by decide), u4 i h1 h2]
        refine ⟨⟨o, GC_congr (w1 _ _ (by decide) (by decide)) (w1 _ _ (by decide) (by decide)) (w1 _ _ (by decide) (by decide)) (w1 _ _ (by decide) (by decide)) (w1 _ _ (by decide) (by decide)) (w1 _ _ (by decide) (by decide)) G, GM_congr (w3 _ _ (by decide) (by decide)) (w3 _ _ (by decide) (by decide)) (w3 _ _ (by decide) (by decide)) (w2 _ _ (by decide) (by decide)) (w2 _ _ (by decide) (by decide)) (w2 _ _ (by decide) (by decide)) (w2 _ _ (by decide) (by decide)) (w2 _ _ (by decide) (by decide)) M, ?_⟩, TX_congr (w1' _ _ _ (by decide) (by decide)) (w1 _ _ (by decide) (by decide)) (w3 _ _ (by decide) (by decide)) (w2 _ _ (by decide) (by decide)) hT, ?_, SL_congr (w1' _ _ _ (by decide) (by decide)) (w1 _ _ (by decide) (by decide)) (w2 _ _ (by decide) (by decide)) (w2 _ _ (by decide) (by decide)) hS, SI_congr (w1' _ _ _ (by decide) (by decide)) (w1 _ _ (by decide) (by decide)) (w1 _ _ (by decide) (by decide)) (w1 _ _ (by decide) (by decide)) (w3 _ _ (by decide) (by decide)) (w2 _ _ (by decide) (by decide)) (w2 _ _ (by decide) (by decide)) (w2 _ _ (by decide) (by decide)) hI⟩
        · refine RR_congr o (fun i hi => ?_) (fun i hi => ?_) (a6 (k - 1) (by omega))
          · rw [setA_self, cpy_in0 _ _ _ hi, show (k - 1) * 27 = 27 * (k - 1) by omega]
          · rw [← nr0, setA_self, cpy_in0 _ _ _ hi, u3 41 (by decide), show (x + 14 - k + (k - 1)) % 14 = (x + 13) % 14 by omega]
        · refine ⟨k - 1, (x + 13) % 14, by omega, hx', ?_, ?_, ?_, fun j hj => ?_⟩
          · rw [setA_ne _ _ (by decide), v1]
          · rw [setA_ne _ _ (by decide), u2]
          · rw [setA_ne _ _ (by decide), u1]
          · rw [w1 _ 20 (by decide) (by decide), w2 _ 41 (by decide) (by decide), show ((x + 13) % 14 + 14 - (k - 1) + j) % 14 = (x + 14 - k + j) % 14 by omega]
            exact a6 j (by omega)
    · show sX9_undo_36 _ _ _ = _
      rw [sX9_undo_36, if_pos (by decide), setA_ne _ _ (by decide), u2]
    · show sX9_undo_36 _ _ _ = sX9_undo_36 _ _ _
      have e1 : setA H 35 (va_cpy (H 41) (H 35) (31 * ((x + 13) % 14)) 0 i) 29 21 = nI ((x + 13) % 14) := by rw [setA_ne _ _ (by decide), u1]
      have e2 : ∀ j, setA H 35 (va_cpy (H 41) (H 35) (31 * ((x + 13) % 14)) 0 i) 41 j = H 41 j := fun j => by rw [setA_ne _ _ (by decide)]
      rw [sX9_undo_36, if_neg (by rw [nI_leI (by omega) (by omega)]; omega), e1, pk_mul, nI_add, if_pos (inb_nI (by omega) (by decide)), if_pos (inb_nI (by omega) (by decide)), nI_clamp (by omega), nI_clamp (by omega), e2, st_set, cpy_d0, nI_add]
end Acts
