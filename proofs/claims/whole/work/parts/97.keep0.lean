/-! ===== kept and gone on from; seen; written ===== -/
theorem bits2 {b s t : Nat} (hb : b < 4) (hs : s < 2) (ht : t < 2) : (b ||| 2 ^ s) < 4 ∧ (b ||| 2 ^ s).testBit t = (b.testBit t || decide (t = s)) := by
  have h : ((List.range 4).all fun b => (List.range 2).all fun s => (List.range 2).all fun t => decide ((b ||| 2 ^ s) < 4 ∧ (b ||| 2 ^ s).testBit t = (b.testBit t || decide (t = s)))) = true := by decide +kernel
  exact of_decide_eq_true (List.all_eq_true.mp (List.all_eq_true.mp (List.all_eq_true.mp h b (List.mem_range.mpr hb)) s (List.mem_range.mpr hs)) t (List.mem_range.mpr ht))
section Keep
variable {y : Gd} {B : Nat} {g g2 : Hg}
theorem op_keep (R : RA y B g g2) (hB : B < 2 ^ 19) (a : Int32) : ∃ x g' g2', sX8_keep g a = some (x, g') ∧ sX9_keep g2 a = some (x, g2') ∧ RA y B g' g2' := by
  have R' := R
  obtain ⟨⟨o, G, M, RR0⟩, hT, hA, ⟨b, b1, b2, b3⟩, hI⟩ := R'
  obtain ⟨H, i1, i2, i3⟩ := RR0.2.2.1
  unfold sX8_keep sX9_keep sX6_store
  rw [c_within a (by decide) (by decide), m_in a (lN 0) (lN 1) 0 1 rfl rfl]
  rcases wi_cases a 0 1 (by decide) with ⟨s, -, s2, rfl, hw⟩ | hw
  · have hw' : wi (nI s) 0 1 = true := hw
    have hs : s < 2 := by omega
    have u1 : stA g2 46 s (nI 1) 35 = g2 35 := by rw [stA_ne _ _ _ _ (by decide)]
    have key := seqloop (fun m a i => sX9_keep_21 (nI s) m a i) (fun i => setA (stA g2 46 s (nI 1)) 47 (va_cpy (g2 35) (g2 47) 0 (31 * s) i)) 31 (some (nI H, setA (stA g2 46 s (nI 1)) 47 (va_cpy (g2 35) (g2 47) 0 (31 * s) 31))) (fun m => ?_) (fun m i hi => ?_) 100 (by decide)
    · have e0 : setA (stA g2 46 s (nI 1)) 47 (va_cpy (g2 35) (g2 47) 0 (31 * s) 0) = stA g2 46 s (nI 1) := by
        rw [cpy_0]
        have : g2 47 = stA g2 46 s (nI 1) 47 := by rw [stA_ne _ _ _ _ (by decide)]
        rw [this, setA_id]
      simp only [e0] at key
      refine ⟨nI H, stA (setA g 21 (va_cpy (g 18) (g 21) 0 (s * 27) 27)) 6 1 (nI (b ||| 2 ^ s)), setA (stA g2 46 s (nI 1)) 47 (va_cpy (g2 35) (g2 47) 0 (31 * s) 31), ?_, ?_, ?_⟩
      · have e1 : setA g 21 (va_cpy (g 18) (g 21) 0 (s * 27) 27) 6 1 = nI b := by rw [setA_ne _ _ (by decide), b2]
        have e2 : nI b ||| sX8_bit (nI s) = nI (b ||| 2 ^ s) := by unfold sX8_bit; rw [bit_nI (by omega), or_nI]
        rw [if_pos hw, if_pos hw, pk_mul, c_save g 21 54 (s * 27) (by omega) (by decide), Option.bind_some, Option.bind_some, e1, e2, c_now]
        congr 2
      · rw [if_pos hw', if_pos (inb_nI hs (by decide)), nI_clamp (by omega)]
        exact key
      · have w1 : ∀ c, c ≠ 6 → c ≠ 21 → stA (setA g 21 (va_cpy (g 18) (g 21) 0 (s * 27) 27)) 6 1 (nI (b ||| 2 ^ s)) c = g c := fun c h1 h2 => by rw [stA_ne _ _ _ _ h1, setA_ne _ _ h2]
        have w1' : ∀ c i, c ≠ 6 → c ≠ 21 → stA (setA g 21 (va_cpy (g 18) (g 21) 0 (s * 27) 27)) 6 1 (nI (b ||| 2 ^ s)) c i = g c i := fun c i h1 h2 => congrFun (w1 c h1 h2) i
        have w2 : ∀ c, c ≠ 46 → c ≠ 47 → setA (stA g2 46 s (nI 1)) 47 (va_cpy (g2 35) (g2 47) 0 (31 * s) 31) c = g2 c := fun c h1 h2 => by rw [setA_ne _ _ h2, stA_ne _ _ _ _ h1]
        have w2' : ∀ c i, c ≠ 46 → c ≠ 47 → setA (stA g2 46 s (nI 1)) 47 (va_cpy (g2 35) (g2 47) 0 (31 * s) 31) c i = g2 c i := fun c i h1 h2 => congrFun (w2 c h1 h2) i
        refine ⟨⟨o, GC_congr (w1 _ (by decide) (by decide)) (w1 _ (by decide) (by decide)) (w1 _ (by decide) (by decide)) (w1 _ (by decide) (by decide)) (w1 _ (by decide) (by decide)) (w1 _ (by decide) (by decide)) G, GM_congr (w2' _ _ (by decide) (by decide)) (w2' _ _ (by decide) (by decide)) (w2' _ _ (by decide) (by decide)) (w2 _ (by decide) (by decide)) (w2 _ (by decide) (by decide)) (w2 _ (by decide) (by decide)) (w2 _ (by decide) (by decide)) (w2 _ (by decide) (by decide)) M, ?_⟩, TX_congr (w1' _ _ (by decide) (by decide)) (w1 _ (by decide) (by decide)) (w2' _ _ (by decide) (by decide)) (w2 _ (by decide) (by decide)) hT, AC_congr (w1' _ _ (by decide) (by decide)) (w1 _ (by decide) (by decide)) (w2' _ _ (by decide) (by decide)) (w2' _ _ (by decide) (by decide)) (w2 _ (by decide) (by decide)) hA, ?_, SI_congr (w1' _ _ (by decide) (by decide)) (w1 _ (by decide) (by decide)) (w1 _ (by decide) (by decide)) (w1 _ (by decide) (by decide)) (w2' _ _ (by decide) (by decide)) (w2 _ (by decide) (by decide)) (w2 _ (by decide) (by decide)) (w2 _ (by decide) (by decide)) hI⟩
        · rw [w1 18 (by decide) (by decide), nr_congr (w2 35 (by decide) (by decide)) 0]; exact RR0
        · refine ⟨b ||| 2 ^ s, (bits2 b1 hs hs).1, by rw [stA_self, pk_us], fun t ht => ?_⟩
          have ht' := (bits2 b1 hs ht).2
          have c21 : ∀ i, stA (setA g 21 (va_cpy (g 18) (g 21) 0 (s * 27) 27)) 6 1 (nI (b ||| 2 ^ s)) 21 i = va_cpy (g 18) (g 21) 0 (s * 27) 27 i := fun i => by rw [stA_ne _ _ _ _ (by decide), setA_self]
          have m46 : setA (stA g2 46 s (nI 1)) 47 (va_cpy (g2 35) (g2 47) 0 (31 * s) 31) 46 t = upd (g2 46) s (nI 1) t := by rw [setA_ne _ _ (by decide), stA_self]
          have m47 : ∀ i, setA (stA g2 46 s (nI 1)) 47 (va_cpy (g2 35) (g2 47) 0 (31 * s) 31) 47 i = va_cpy (g2 35) (g2 47) 0 (31 * s) 31 i := fun i => by rw [setA_self]
          by_cases hts : t = s
          · subst hts
            have hb' : (b ||| 2 ^ t).testBit t = true := by rw [ht']; simp
            refine ⟨by rw [m46, pk_us, if_pos hb'], fun _ => RR_congr o (fun i hi => ?_) (fun i hi => ?_) RR0⟩
            · rw [c21, show 27 * t + i = t * 27 + i by omega, cpy_in _ _ _ _ hi, Nat.zero_add]
            · rw [m47, cpy_in _ _ _ _ hi, Nat.zero_add, nr0 g2]
          · have hb' : (b ||| 2 ^ s).testBit t = b.testBit t := by rw [ht']; simp [hts]
            rw [m46, pk_un hts, hb']
            refine ⟨(b3 t ht).1, fun q => RR_congr o (fun i hi => ?_) (fun i hi => ?_) ((b3 t ht).2 q)⟩
            · rw [c21, cpy_out _ _ _ _ (by omega)]
            · rw [m47, cpy_out _ _ _ _ (by omega)]
    · show sX9_keep_21 _ _ _ _ = _
      rw [sX9_keep_21, if_pos (by decide), nI_clamp (by decide), setA_ne _ _ (by decide), u1, nr0 g2, i3]
    · show sX9_keep_21 _ _ _ _ = sX9_keep_21 _ _ _ _
      have e2 : setA (stA g2 46 s (nI 1)) 47 (va_cpy (g2 35) (g2 47) 0 (31 * s) i) 35 i = g2 35 i := by rw [setA_ne _ _ (by decide), u1]
      rw [sX9_keep_21, if_neg (by rw [nI_leI (by omega) (by omega)]; omega), pk_mul, nI_add, if_pos (inb_nI (by omega) (by decide)), if_pos (inb_nI (by omega) (by decide)), nI_clamp (by omega), nI_clamp (by omega), e2, st_set, cpy_s0, nI_add]
  · have hw' : wi a 0 1 = false := hw
    exact ⟨-1, g, g2, by rw [if_neg (ntr hw)], by rw [if_neg (ntr hw')], R⟩
theorem op_again (R : RA y B g g2) (hB : B < 2 ^ 19) (a : Int32) : ∃ x g' g2', sX8_again g a = some (x, g') ∧ sX9_again g2 a = some (x, g2') ∧ RA y B g' g2' := by
  have R' := R
  obtain ⟨⟨o, G, M, RR0⟩, hT, ⟨ak, ax, -, k2, -⟩, ⟨b, b1, b2, b3⟩, hI⟩ := R'
  have hax : ∃ ax, ax < 14 ∧ g2 29 21 = nI ax := by
    obtain ⟨-, -, ⟨ak, ax, -, k2, -, -, k5, -⟩, -⟩ := R
    exact ⟨ax, k2, k5⟩
  have hS : SL y B g g2 := ⟨b, b1, b2, b3⟩
  obtain ⟨ax, k2, k5⟩ := hax
  unfold sX8_again sX9_again sX6_bringBack sX6_isFilled
  rw [c_within a (by decide) (by decide), m_in a (lN 0) (lN 1) 0 1 rfl rfl]
  rcases wi_cases a 0 1 (by decide) with ⟨s, -, s2, rfl, hw⟩ | hw
  · have hw' : wi (nI s) 0 1 = true := hw
    have hs : s < 2 := by omega
    rw [if_pos hw, if_pos hw, if_pos hw', b2, has_nI (by omega) (by omega), if_pos (inb_nI hs (by decide)), nI_clamp (by omega), (b3 s hs).1]
    cases hb : b.testBit s with
    | false => exact ⟨-3, g, g2, by rw [if_neg Bool.false_ne_true, if_neg Bool.false_ne_true], by rw [if_neg Bool.false_ne_true, if_pos (by decide)], R⟩
    | true =>
      have RRk := (b3 s hs).2 hb
      obtain ⟨H, i1, i2, i3⟩ := RRk.2.2.1
      have hv : ∀ i, i < 31 → va_cpy (g2 47) (g2 35) (31 * s) 0 31 i = g2 47 (31 * s + i) := fun i hi => cpy_in0 _ _ _ hi
      have hc : ∀ i, i < 27 → va_cpy (g 21) (g 18) (s * 27) 0 27 i = g 21 (27 * s + i) := fun i hi => by rw [cpy_in0 _ _ _ hi, show s * 27 = 27 * s by omega]
      have key := seqloop (fun m a i => sX9_again_26 (nI s) m a i) (fun i => setA g2 35 (va_cpy (g2 47) (g2 35) (31 * s) 0 i)) 31 (some (nI H, stA (setA g2 35 (va_cpy (g2 47) (g2 35) (31 * s) 0 31)) 29 20 (nI 0))) (fun m => ?_) (fun m i hi => ?_) 100 (by decide)
      · simp only [cpy_0, setA_id] at key
        refine ⟨nI H, stA (setA g 18 (va_cpy (g 21) (g 18) (s * 27) 0 27)) 5 1 (nI 0), stA (setA g2 35 (va_cpy (g2 47) (g2 35) (31 * s) 0 31)) 29 20 (nI 0), ?_, ?_, ?_⟩
        · rw [if_pos rfl, if_pos rfl, if_pos rfl, pk_mul, c_load g 21 54 (s * 27) (by omega) (by decide), Option.bind_some, Option.bind_some, sX0_forgetAll, c_now]
          congr 2
          show setA (setA g 18 (va_cpy (g 21) (g 18) (s * 27) 0 27)) 5 _ 18 23 = _
          rw [setA_ne _ _ (by decide), setA_self, hc 23 (by decide)]
          exact i2
        · rw [if_pos rfl, if_neg (by decide)]
          exact key
        · have w1 : ∀ c, c ≠ 5 → c ≠ 18 → stA (setA g 18 (va_cpy (g 21) (g 18) (s * 27) 0 27)) 5 1 (nI 0) c = g c := fun c h1 h2 => by rw [stA_ne _ _ _ _ h1, setA_ne _ _ h2]
          have w1' : ∀ c i, c ≠ 5 → c ≠ 18 → stA (setA g 18 (va_cpy (g 21) (g 18) (s * 27) 0 27)) 5 1 (nI 0) c i = g c i := fun c i h1 h2 => congrFun (w1 c h1 h2) i
          have w2 : ∀ c, c ≠ 29 → c ≠ 35 → stA (setA g2 35 (va_cpy (g2 47) (g2 35) (31 * s) 0 31)) 29 20 (nI 0) c = g2 c := fun c h1 h2 => by rw [stA_ne _ _ _ _ h1, setA_ne _ _ h2]
          have w3 : ∀ i, i ≠ 20 → stA (setA g2 35 (va_cpy (g2 47) (g2 35) (31 * s) 0 31)) 29 20 (nI 0) 29 i = g2 29 i := fun i h1 => by rw [stA_self, pk_un h1, setA_ne _ _ (by decide)]
          refine ⟨⟨o, GC_congr (w1 _ (by decide) (by decide)) (w1 _ (by decide) (by decide)) (w1 _ (by decide) (by decide)) (w1 _ (by decide) (by decide)) (w1 _ (by decide) (by decide)) (w1 _ (by decide) (by decide)) G, GM_congr (w3 _ (by decide)) (w3 _ (by decide)) (w3 _ (by decide)) (w2 _ (by decide) (by decide)) (w2 _ (by decide) (by decide)) (w2 _ (by decide) (by decide)) (w2 _ (by decide) (by decide)) (w2 _ (by decide) (by decide)) M, RR_congr o (fun i hi => ?_) (fun i hi => ?_) RRk⟩, TX_congr (w1' _ _ (by decide) (by decide)) (w1 _ (by decide) (by decide)) (w3 _ (by decide)) (w2 _ (by decide) (by decide)) hT, ⟨0, ax, by decide, k2, ?_, ?_, ?_, fun j hj => absurd hj (Nat.not_lt_zero _)⟩, SL_congr (w1' _ _ (by decide) (by decide)) (w1 _ (by decide) (by decide)) (w2 _ (by decide) (by decide)) (w2 _ (by decide) (by decide)) hS, SI_congr (w1' _ _ (by decide) (by decide)) (w1 _ (by decide) (by decide)) (w1 _ (by decide) (by decide)) (w1 _ (by decide) (by decide)) (w3 _ (by decide)) (w2 _ (by decide) (by decide)) (w2 _ (by decide) (by decide)) (w2 _ (by decide) (by decide)) hI⟩
          · rw [stA_ne _ _ _ _ (by decide), setA_self, hc i hi]
          · rw [← nr0, stA_ne _ _ _ _ (by decide), setA_self, hv i hi]
          · rw [stA_self, pk_us]
          · rw [stA_self, pk_us]
          · rw [w3 21 (by decide), k5]
      · show sX9_again_26 _ _ _ _ = _
        have e1 : stA (setA g2 35 (va_cpy (g2 47) (g2 35) (31 * s) 0 31)) 29 20 (nI 0) 35 30 = nI H := by rw [stA_ne _ _ _ _ (by decide), setA_self, hv 30 (by decide)]; exact i3
        rw [sX9_again_26, if_pos (by decide), nI_clamp (by decide), e1]
      · show sX9_again_26 _ _ _ _ = sX9_again_26 _ _ _ _
        have e2 : ∀ j, setA g2 35 (va_cpy (g2 47) (g2 35) (31 * s) 0 i) 47 j = g2 47 j := fun j => by rw [setA_ne _ _ (by decide)]
        rw [sX9_again_26, if_neg (by rw [nI_leI (by omega) (by omega)]; omega), pk_mul, nI_add, if_pos (inb_nI (by omega) (by decide)), if_pos (inb_nI (by omega) (by decide)), nI_clamp (by omega), nI_clamp (by omega), e2, st_set, cpy_d0, nI_add]
  · have hw' : wi a 0 1 = false := hw
    exact ⟨-1, g, g2, by rw [if_neg (ntr hw)], by rw [if_neg (ntr hw')], R⟩
/-- class and reference change nothing but these cells -/
theorem RA_text (R : RA y B g g2) {g' g2' : Hg} (w1 : ∀ c, c ≠ 1 → c ≠ 10 → g' c = g c) (w2 : ∀ c, c ≠ 29 → c < 36 ∨ 40 < c → g2' c = g2 c) (w3 : ∀ i, i ≤ 2 ∨ 19 < i → g2' 29 i = g2 29 i) (hT : TX g' g2') : RA y B g' g2' := by
  obtain ⟨⟨o, G, M, RR0⟩, -, hA, hS, hI⟩ := R
  have w1' : ∀ c i, c ≠ 1 → c ≠ 10 → g' c i = g c i := fun c i h1 h2 => congrFun (w1 c h1 h2) i
  refine ⟨⟨o, GC_congr (w1 _ (by decide) (by decide)) (w1 _ (by decide) (by decide)) (w1 _ (by decide) (by decide)) (w1 _ (by decide) (by decide)) (w1 _ (by decide) (by decide)) (w1 _ (by decide) (by decide)) G, GM_congr (w3 _ (by decide)) (w3 _ (by decide)) (w3 _ (by decide)) (w2 _ (by decide) (by decide)) (w2 _ (by decide) (by decide)) (w2 _ (by decide) (by decide)) (w2 _ (by decide) (by decide)) (w2 _ (by decide) (by decide)) M, ?_⟩, hT, AC_congr (w1' _ _ (by decide) (by decide)) (w1 _ (by decide) (by decide)) (w3 _ (by decide)) (w3 _ (by decide)) (w2 _ (by decide) (by decide)) hA, SL_congr (w1' _ _ (by decide) (by decide)) (w1 _ (by decide) (by decide)) (w2 _ (by decide) (by decide)) (w2 _ (by decide) (by decide)) hS, SI_congr (w1' _ _ (by decide) (by decide)) (w1 _ (by decide) (by decide)) (w1 _ (by decide) (by decide)) (w1 _ (by decide) (by decide)) (w3 _ (by decide)) (w2 _ (by decide) (by decide)) (w2 _ (by decide) (by decide)) (w2 _ (by decide) (by decide)) hI⟩
  rw [w1 18 (by decide) (by decide), nr_congr (w2 35 (by decide) (by decide)) 0]; exact RR0
theorem op_write (R : RA y B g g2) (a : Int32) : ∃ x g' g2', sX8_write g a = some (x, g') ∧ sX9_write g2 a = some (x, g2') ∧ RA y B g' g2' := by
  obtain ⟨n, n1, n2, n3, n4⟩ := R.2.1
  unfold sX8_write sX9_write sX7_add
  rw [c_within a (by decide) (by decide), m_in a (lN 0) 255 0 255 rfl rfl, n2, n3]
  rcases wi_cases a 0 255 (by decide) with ⟨v, -, v2, rfl, hw⟩ | hw
  · have hw' : wi (nI v) 0 255 = true := hw
    rw [if_pos hw, if_pos hw', c_within _ (by decide) (by decide), nI_clamp (by omega)]
    by_cases h60 : n = 60
    · subst h60
      have h1 : wi (nI 60) ((0 : Nat) : Int) ((59 : Nat) : Int) = false := by decide
      exact ⟨-4, g, g2, by rw [if_neg (ntr h1), Option.bind_some, if_neg Bool.false_ne_true], by rw [if_pos rfl], R⟩
    · have e1 : stA g 10 n (nI v) 1 1 = nI n := by rw [stA_ne _ _ _ _ (by decide), n2]
      have e2 : stA g2 40 n (nI v) 29 17 = nI n := by rw [stA_ne _ _ _ _ (by decide), n3]
      have e3 : stA (stA g2 40 n (nI v)) 29 17 (nI (n + 1)) 29 17 = nI (n + 1) := by rw [stA_self, pk_us]
      have e4 : stA (stA g 10 n (nI v)) 1 1 (nI (n + 1)) 1 1 = nI (n + 1) := by rw [stA_self, pk_us]
      refine ⟨nI (n + 1), stA (stA g 10 n (nI v)) 1 1 (nI (n + 1)), stA (stA g2 40 n (nI v)) 29 17 (nI (n + 1)), ?_, ?_, ?_⟩
      · rw [if_pos (wi_nI (lo := 0) (hi := 59) (by omega) (by omega) (by omega)), if_pos (inb_nI (by omega) (by decide)), e1, nI_add, Option.bind_some, if_pos rfl]
        exact congrArg (fun z => some (z, stA (stA g 10 n (nI v)) 1 1 (nI (n + 1)))) e4
      · rw [if_neg (by rw [nI_eq (by omega) (by omega)]; exact h60), if_pos (inb_nI (by omega) (by decide)), e2, nI_add, e3]
      · refine RA_text R (fun c h1 h2 => by rw [stA_ne _ _ _ _ h1, stA_ne _ _ _ _ h2]) (fun c h1 h2 => by rw [stA_ne _ _ _ _ h1, stA_ne _ _ _ _ (by omega)]) (fun i h1 => by rw [stA_self, pk_un (by omega), stA_ne _ _ _ _ (by decide)]) ⟨n + 1, by omega, e4, e3, fun k hk => ?_⟩
        have c1 : stA (stA g 10 n (nI v)) 1 1 (nI (n + 1)) 10 k = upd (g 10) n (nI v) k := by rw [stA_ne _ _ _ _ (by decide), stA_self]
        have c2 : stA (stA g2 40 n (nI v)) 29 17 (nI (n + 1)) 40 k = upd (g2 40) n (nI v) k := by rw [stA_ne _ _ _ _ (by decide), stA_self]
        rw [c1, c2]
        by_cases hkn : k = n
        · subst hkn
          exact ⟨v, v2, pk_us, pk_us⟩
        · rw [pk_un hkn, pk_un hkn]
          exact n4 k (by omega)
  · have hw' : wi a 0 255 = false := hw
    exact ⟨-2, g, g2, by rw [if_neg (ntr hw)], by rw [if_neg (ntr hw')], R⟩
theorem op_wipe (R : RA y B g g2) : (sX8_wipe g).1 = (sX9_wipe g2).1 ∧ RA y B (sX8_wipe g).2 (sX9_wipe g2).2 := by
  obtain ⟨n, n1, n2, n3, n4⟩ := R.2.1
  refine ⟨?_, RA_text R (fun c h1 h2 => ?_) (fun c h1 h2 => ?_) (fun i h1 => ?_) ⟨0, by decide, ?_, ?_, fun k hk => absurd hk (Nat.not_lt_zero _)⟩⟩
  · show sX7_length g = g2 29 17
    rw [sX7_length, n2, n3]
  · show stA g 1 1 (nI 0) c = _
    rw [stA_ne _ _ _ _ h1]
  · show stA g2 29 17 (nI 0) c = _
    rw [stA_ne _ _ _ _ h1]
  · show stA g2 29 17 (nI 0) 29 i = _
    rw [stA_self, pk_un (by omega)]
  · show stA g 1 1 (nI 0) 1 1 = _
    rw [stA_self, pk_us]
  · show stA g2 29 17 (nI 0) 29 17 = _
    rw [stA_self, pk_us]
/-- class and reference change nothing but what was seen -/
theorem RA_seen (R : RA y B g g2) {g' g2' : Hg} (w1 : ∀ c, c ≠ 7 → c ≠ 22 → c ≠ 23 → c ≠ 24 → g' c = g c) (w2 : ∀ c, c ≠ 29 → c ≠ 42 → c ≠ 43 → c ≠ 44 → g2' c = g2 c) (w3 : ∀ i, i ≠ 23 → g2' 29 i = g2 29 i) (hI : SI g' g2') : RA y B g' g2' := by
  obtain ⟨⟨o, G, M, RR0⟩, hT, hA, hS, -⟩ := R
  have u1 : ∀ c, c < 7 ∨ 24 < c ∨ (7 < c ∧ c < 22) → g' c = g c := fun c h => w1 c (by omega) (by omega) (by omega) (by omega)
  have u1' : ∀ c i, c < 7 ∨ 24 < c ∨ (7 < c ∧ c < 22) → g' c i = g c i := fun c i h => congrFun (u1 c h) i
  have u2 : ∀ c, c ≠ 29 → c < 42 ∨ 44 < c → g2' c = g2 c := fun c h1 h => w2 c h1 (by omega) (by omega) (by omega)
  refine ⟨⟨o, GC_congr (u1 _ (by decide)) (u1 _ (by decide)) (u1 _ (by decide)) (u1 _ (by decide)) (u1 _ (by decide)) (u1 _ (by decide)) G, GM_congr (w3 _ (by decide)) (w3 _ (by decide)) (w3 _ (by decide)) (u2 _ (by decide) (by decide)) (u2 _ (by decide) (by decide)) (u2 _ (by decide) (by decide)) (u2 _ (by decide) (by decide)) (u2 _ (by decide) (by decide)) M, ?_⟩, TX_congr (u1' _ _ (by decide)) (u1 _ (by decide)) (w3 _ (by decide)) (u2 _ (by decide) (by decide)) hT, AC_congr (u1' _ _ (by decide)) (u1 _ (by decide)) (w3 _ (by decide)) (w3 _ (by decide)) (u2 _ (by decide) (by decide)) hA, SL_congr (u1' _ _ (by decide)) (u1 _ (by decide)) (u2 _ (by decide) (by decide)) (u2 _ (by decide) (by decide)) hS, hI⟩
  rw [u1 18 (by decide), nr_congr (u2 35 (by decide) (by decide)) 0]; exact RR0
theorem op_see (R : RA y B g g2) (a b d : Int32) : ∃ x g' g2', sX8_see g a b d = some (x, g') ∧ sX9_see g2 a b d = some (x, g2') ∧ RA y B g' g2' := by
  obtain ⟨n, n1, n2, n3, n4⟩ := R.2.2.2.2
  unfold sX8_see sX9_see
  rw [c_within a (by decide) (by decide), c_within b (by decide) (by decide), c_within d (by decide) (by decide), m_in b (lN 0) 9 0 9 rfl rfl, m_in d (lN 0) (lN 1) 0 1 rfl rfl]
  rcases wi_cases a 0 11 (by decide) with ⟨c, -, c2, rfl, hw⟩ | hw
  · have hc : c < 12 := by omega
    rw [if_pos hw, if_pos (cell_ok hc)]
    rcases wi_cases b 0 9 (by decide) with ⟨h, -, h2, rfl, hw⟩ | hw
    · have hw' : wi (nI h) 0 9 = true := hw
      rw [if_pos hw, if_pos hw']
      rcases wi_cases d 0 1 (by decide) with ⟨e, -, e2, rfl, hw⟩ | hw
      · have hw' : wi (nI e) 0 1 = true := hw
        rw [if_pos hw, if_pos hw', n3]
        have add : ∀ z, z ≤ 1 → sX5_add g (nI c) (nI h) (nI z) = if n = 6 then some (false, g) else some (true, stA (stA (stA (stA g 22 n (nI c)) 23 n (nI h)) 24 n (nI z)) 7 3 (nI (n + 1))) := fun z hz => by
          unfold sX5_add
          rw [n2, c_within _ (by decide) (by decide), nI_clamp (by omega)]
          by_cases h6 : n = 6
          · subst h6
            have h1 : wi (nI 6) ((0 : Nat) : Int) ((5 : Nat) : Int) = false := by decide
            rw [if_neg (ntr h1), if_pos rfl]
          · have f1 : stA g 22 n (nI c) 7 3 = nI n := by rw [stA_ne _ _ _ _ (by decide), n2]
            have f2 : ∀ u, stA (stA g 22 n (nI c)) 23 u (nI h) 7 3 = nI n := fun u => by rw [stA_ne _ _ _ _ (by decide), f1]
            have f3 : ∀ u v w, stA (stA (stA g 22 n (nI c)) 23 u (nI h)) 24 v w 7 3 = nI n := fun u v w => by rw [stA_ne _ _ _ _ (by decide), f2]
            have f4 : vp_nar .boolean (nI z) = nI z := by
              have : z = 0 ∨ z = 1 := by omega
              rcases this with rfl | rfl <;> rfl
            rw [if_pos (wi_nI (lo := 0) (hi := 5) (by omega) (by omega) (by omega)), f1, nI_clamp (by omega), f2, nI_clamp (by omega), f3, if_pos (inb_nI (by omega) (by decide)), if_pos (inb_nI (by omega) (by decide)), if_pos (inb_nI (by omega) (by decide)), f4, nI_add, if_neg h6]
        have ez : e = 1 ∨ e = 0 := by omega
        have addE : (if nI e = nI 1 then ((sX5_add g (nI c) (nI h) (nI 1)).bind fun x_2 => (if x_2.1 = true then (some (sX5_size x_2.2, x_2.2)) else (some ((-4), x_2.2)))) else ((sX5_add g (nI c) (nI h) (nI 0)).bind fun x_1 => (if x_1.1 = true then (some (sX5_size x_1.2, x_1.2)) else (some ((-4), x_1.2))))) = ((sX5_add g (nI c) (nI h) (nI e)).bind fun x_2 => (if x_2.1 = true then (some (sX5_size x_2.2, x_2.2)) else (some ((-4), x_2.2)))) := by
          rcases ez with rfl | rfl
          · rw [if_pos rfl]
          · rw [if_neg (by decide)]
        rw [addE, add e e2]
        by_cases h6 : n = 6
        · subst h6
          exact ⟨-4, g, g2, by rw [if_pos rfl, Option.bind_some, if_neg Bool.false_ne_true], by rw [if_pos rfl], R⟩
        · have f1 : stA g2 42 n (nI c) 29 23 = nI n := by rw [stA_ne _ _ _ _ (by decide), n3]
          have f2 : ∀ u, stA (stA g2 42 n (nI c)) 43 u (nI h) 29 23 = nI n := fun u => by rw [stA_ne _ _ _ _ (by decide), f1]
          have f3 : ∀ u v w, stA (stA (stA g2 42 n (nI c)) 43 u (nI h)) 44 v w 29 23 = nI n := fun u v w => by rw [stA_ne _ _ _ _ (by decide), f2]
          have e3 : stA (stA (stA (stA g2 42 n (nI c)) 43 n (nI h)) 44 n (nI e)) 29 23 (nI (n + 1)) 29 23 = nI (n + 1) := by rw [stA_self, pk_us]
          have e4 : stA (stA (stA (stA g 22 n (nI c)) 23 n (nI h)) 24 n (nI e)) 7 3 (nI (n + 1)) 7 3 = nI (n + 1) := by rw [stA_self, pk_us]
          refine ⟨nI (n + 1), stA (stA (stA (stA g 22 n (nI c)) 23 n (nI h)) 24 n (nI e)) 7 3 (nI (n + 1)), stA (stA (stA (stA g2 42 n (nI c)) 43 n (nI h)) 44 n (nI e)) 29 23 (nI (n + 1)), ?_, ?_, ?_⟩
          · rw [if_neg h6, Option.bind_some, if_pos rfl]
            exact congrArg (fun z => some (z, stA (stA (stA (stA g 22 n (nI c)) 23 n (nI h)) 24 n (nI e)) 7 3 (nI (n + 1)))) e4
          · rw [if_neg (by rw [nI_eq (by omega) (by omega)]; exact h6), nI_clamp (by omega), f1, nI_clamp (by omega), f2, nI_clamp (by omega), f3, if_pos (inb_nI (by omega) (by decide)), if_pos (inb_nI (by omega) (by decide)), if_pos (inb_nI (by omega) (by decide)), nI_add, e3]
          · refine RA_seen R (fun c' q1 q2 q3 q4 => by rw [stA_ne _ _ _ _ q1, stA_ne _ _ _ _ q4, stA_ne _ _ _ _ q3, stA_ne _ _ _ _ q2]) (fun c' q1 q2 q3 q4 => by rw [stA_ne _ _ _ _ q1, stA_ne _ _ _ _ q4, stA_ne _ _ _ _ q3, stA_ne _ _ _ _ q2]) (fun i q => by rw [stA_self, pk_un q, stA_ne _ _ _ _ (by decide), stA_ne _ _ _ _ (by decide), stA_ne _ _ _ _ (by decide)]) ⟨n + 1, by omega, e4, e3, fun k hk => ?_⟩
            have d1 : stA (stA (stA (stA g 22 n (nI c)) 23 n (nI h)) 24 n (nI e)) 7 3 (nI (n + 1)) 22 k = upd (g 22) n (nI c) k := by rw [stA_ne _ _ _ _ (by decide), stA_ne _ _ _ _ (by decide), stA_ne _ _ _ _ (by decide), stA_self]
            have d2 : stA (stA (stA (stA g 22 n (nI c)) 23 n (nI h)) 24 n (nI e)) 7 3 (nI (n + 1)) 23 k = upd (g 23) n (nI h) k := by rw [stA_ne _ _ _ _ (by decide), stA_ne _ _ _ _ (by decide), stA_self, stA_ne _ _ _ _ (by decide)]
            have d3 : stA (stA (stA (stA g 22 n (nI c)) 23 n (nI h)) 24 n (nI e)) 7 3 (nI (n + 1)) 24 k = upd (g 24) n (nI e) k := by rw [stA_ne _ _ _ _ (by decide), stA_self, stA_ne _ _ _ _ (by decide), stA_ne _ _ _ _ (by decide)]
            have d4 : stA (stA (stA (stA g2 42 n (nI c)) 43 n (nI h)) 44 n (nI e)) 29 23 (nI (n + 1)) 42 k = upd (g2 42) n (nI c) k := by rw [stA_ne _ _ _ _ (by decide), stA_ne _ _ _ _ (by decide), stA_ne _ _ _ _ (by decide), stA_self]
            have d5 : stA (stA (stA (stA g2 42 n (nI c)) 43 n (nI h)) 44 n (nI e)) 29 23 (nI (n + 1)) 43 k = upd (g2 43) n (nI h) k := by rw [stA_ne _ _ _ _ (by decide), stA_ne _ _ _ _ (by decide), stA_self, stA_ne _ _ _ _ (by decide)]
            have d6 : stA (stA (stA (stA g2 42 n (nI c)) 43 n (nI h)) 44 n (nI e)) 29 23 (nI (n + 1)) 44 k = upd (g2 44) n (nI e) k := by rw [stA_ne _ _ _ _ (by decide), stA_self, stA_ne _ _ _ _ (by decide), stA_ne _ _ _ _ (by decide)]
            rw [d1, d2, d3, d4, d5, d6]
            by_cases hkn : k = n
            · subst hkn
              exact ⟨c, h, e, hc, h2, e2, pk_us, pk_us, pk_us, pk_us, pk_us, pk_us⟩
            · rw [pk_un hkn, pk_un hkn, pk_un hkn, pk_un hkn, pk_un hkn, pk_un hkn]
              exact n4 k (by omega)
      · have hw' : wi d 0 1 = false := hw
        exact ⟨-2, g, g2, by rw [if_neg (ntr hw)], by rw [if_neg (ntr hw')], R⟩
    · have hw' : wi b 0 9 = false := hw
      exact ⟨-2, g, g2, by rw [if_neg (ntr hw)], by rw [if_neg (ntr hw')], R⟩
  · exact ⟨-1, g, g2, by rw [if_neg (ntr hw)], by rw [if_neg (ntr (cell_no hw))], R⟩
theorem op_unsee (R : RA y B g g2) : (sX8_unsee g).1 = (sX9_unsee g2).1 ∧ RA y B (sX8_unsee g).2 (sX9_unsee g2).2 := by
  obtain ⟨n, n1, n2, n3, n4⟩ := R.2.2.2.2
  refine ⟨?_, RA_seen R (fun c h1 h2 h3 h4 => ?_) (fun c h1 h2 h3 h4 => ?_) (fun i h1 => ?_) ⟨0, by decide, ?_, ?_, fun k hk => absurd hk (Nat.not_lt_zero _)⟩⟩
  · show sX5_size g = g2 29 23
    rw [sX5_size, n2, n3]
  · show stA g 7 3 (nI 0) c = _
    rw [stA_ne _ _ _ _ h1]
  · show stA g2 29 23 (nI 0) c = _
    rw [stA_ne _ _ _ _ h1]
  · show stA g2 29 23 (nI 0) 29 i = _
    rw [stA_self, pk_un h1]
  · show stA g 7 3 (nI 0) 7 3 = _
    rw [stA_self, pk_us]
  · show stA g2 29 23 (nI 0) 29 23 = _
    rw [stA_self, pk_us]
end Keep
