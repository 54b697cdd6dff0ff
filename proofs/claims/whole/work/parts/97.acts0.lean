/-! ===== acts remembered ===== -/
theorem stA_ne (g : Hg) (c i : Nat) (x : Int32) {k : Nat} (h : k ≠ c) : stA g c i x k = g k := setA_ne _ _ h
theorem cpy_0 (f h : Nat → Int32) (sp dp : Nat) : va_cpy f h sp dp 0 = h := by
  funext k; unfold va_cpy; rw [if_neg (by omega)]
theorem cpy_succ (f h : Nat → Int32) (sp dp i : Nat) : upd (va_cpy f h sp dp i) (dp + i) (f (sp + i)) = va_cpy f h sp dp (i + 1) := by
  funext k
  by_cases e : k = dp + i
  · subst e
    rw [pk_us]
    unfold va_cpy
    rw [if_pos (by omega)]
    congr 1; omega
  · rw [pk_un e]
    unfold va_cpy
    by_cases h1 : dp ≤ k ∧ k < dp + i
    · rw [if_pos h1, if_pos (by omega)]
    · rw [if_neg h1, if_neg (by omega)]
theorem cpy_in (f h : Nat → Int32) (sp dp : Nat) {n i : Nat} (hi : i < n) : va_cpy f h sp dp n (dp + i) = f (sp + i) := by
  unfold va_cpy
  rw [if_pos (by omega)]
  congr 1; omega
theorem cpy_out (f h : Nat → Int32) (sp dp : Nat) {n k : Nat} (hk : k < dp ∨ dp + n ≤ k) : va_cpy f h sp dp n k = h k := by
  unfold va_cpy
  rw [if_neg (by omega)]
theorem cpy_s0 (f h : Nat → Int32) (dp i : Nat) : upd (va_cpy f h 0 dp i) (dp + i) (f i) = va_cpy f h 0 dp (i + 1) := by
  have := cpy_succ f h 0 dp i
  rwa [Nat.zero_add] at this
theorem cpy_d0 (f h : Nat → Int32) (sp i : Nat) : upd (va_cpy f h sp 0 i) i (f (sp + i)) = va_cpy f h sp 0 (i + 1) := by
  have := cpy_succ f h sp 0 i
  rwa [Nat.zero_add] at this
theorem cpy_in0 (f h : Nat → Int32) (sp : Nat) {n i : Nat} (hi : i < n) : va_cpy f h sp 0 n i = f (sp + i) := by
  have := cpy_in f h sp 0 hi
  rwa [Nat.zero_add] at this
theorem cpo_ok {a b c n0 n1 : Nat} (ha : a < 2 ^ 31) (hb : b < 2 ^ 31) (hc : c < 2 ^ 31) (h0 : a + c ≤ n0) (h1 : b + c ≤ n1) : cpo (nI a) (nI b) (nI c) n0 n1 = true := by
  simp only [cpo, Bool.and_eq_true, decide_eq_true_eq, nI_clamp ha, nI_clamp hb, nI_clamp hc]
  exact ⟨nI_pos ha, nI_pos hb, nI_pos hc, h0, h1⟩
theorem c_save (g : Hg) (c n d : Nat) (hd : d + 27 ≤ n) (hn : n < 2 ^ 31) : sX4_saveTo g c n (nI d) = some (setA g c (va_cpy (g 18) (g c) 0 d 27)) := by
  unfold sX4_saveTo
  rw [pk_sub (by omega), c_within _ (by decide) (by omega), if_pos (wi_nI (lo := 0) (by omega) (by omega) (by omega)), if_pos (cpo_ok (by decide) (by omega) (by decide) (by decide) (by omega)), nI_clamp (by decide), nI_clamp (by omega), nI_clamp (by decide)]
theorem c_load (g : Hg) (c n d : Nat) (hd : d + 27 ≤ n) (hn : n < 2 ^ 31) : sX4_loadFrom g c n (nI d) = some (setA g 18 (va_cpy (g c) (g 18) d 0 27)) := by
  unfold sX4_loadFrom
  rw [pk_sub (by omega), c_within _ (by decide) (by omega), if_pos (wi_nI (lo := 0) (by omega) (by omega) (by omega)), if_pos (cpo_ok (by omega) (by decide) (by decide) (by omega) (by decide)), nI_clamp (by omega), nI_clamp (by decide), nI_clamp (by decide)]
theorem c_rem {g : Hg} {k : Nat} (hk : k ≤ 14) (h5 : g 5 1 = nI k) : ∃ g1, sX0_remember g = some g1 ∧ (∀ c, c ≠ 5 → c ≠ 20 → g1 c = g c) ∧ ((k < 14 ∧ g1 5 1 = nI (k + 1) ∧ (∀ j i, j < k → i < 27 → g1 20 (27 * j + i) = g 20 (27 * j + i)) ∧ (∀ i, i < 27 → g1 20 (27 * k + i) = g 18 i)) ∨ (k = 14 ∧ g1 5 1 = nI 14 ∧ (∀ j i, j < 13 → i < 27 → g1 20 (27 * j + i) = g 20 (27 * (j + 1) + i)) ∧ (∀ i, i < 27 → g1 20 (27 * 13 + i) = g 18 i))) := by
  by_cases h : k < 14
  · refine ⟨stA (setA g 20 (va_cpy (g 18) (g 20) 0 (k * 27) 27)) 5 1 (nI (k + 1)), ?_, fun c h1 h2 => ?_, Or.inl ⟨h, ?_, fun j i hj hi => ?_, fun i hi => ?_⟩⟩
    · unfold sX0_remember
      rw [h5, if_pos (by rw [nI_ltI (by omega) (by omega)]; exact h), pk_mul, c_save g 20 378 (k * 27) (by omega) (by decide), Option.bind_some, setA_ne _ _ (by decide), h5, nI_add]
    · rw [stA_ne _ _ _ _ h1, setA_ne _ _ h2]
    · rw [stA_self, pk_us]
    · rw [stA_ne _ _ _ _ (by decide), setA_self, cpy_out _ _ _ _ (by omega)]
    · rw [stA_ne _ _ _ _ (by decide), setA_self, show 27 * k + i = k * 27 + i by omega, cpy_in _ _ _ _ hi, Nat.zero_add]
  · have e : k = 14 := by omega
    subst e
    have c5 : ∀ (r : Nat → Int32) (x : Int32), stA (setA g 20 r) 5 1 x 5 1 = x := fun r x => by rw [stA_self, pk_us]
    refine ⟨stA (setA (stA (setA g 20 (va_cpy (g 20) (g 20) 27 0 351)) 5 1 (nI 13)) 20 (va_cpy (g 18) (va_cpy (g 20) (g 20) 27 0 351) 0 (13 * 27) 27)) 5 1 (nI 14), ?_, fun c h1 h2 => ?_, Or.inr ⟨rfl, ?_, fun j i hj hi => ?_, fun i hi => ?_⟩⟩
    · unfold sX0_remember
      rw [h5, if_neg (by decide), if_pos (by decide), nI_clamp (by decide), nI_clamp (by decide), nI_clamp (by decide), c5, pk_mul, c_save _ 20 378 (13 * 27) (by decide) (by decide), Option.bind_some]
      have e1 : stA (setA g 20 (va_cpy (g 20) (g 20) 27 0 351)) 5 1 (nI 13) 18 = g 18 := by rw [stA_ne _ _ _ _ (by decide), setA_ne _ _ (by decide)]
      have e2 : stA (setA g 20 (va_cpy (g 20) (g 20) 27 0 351)) 5 1 (nI 13) 20 = va_cpy (g 20) (g 20) 27 0 351 := by rw [stA_ne _ _ _ _ (by decide), setA_self]
      rw [e1, e2]
      have e3 : ∀ r : Nat → Int32, setA (stA (setA g 20 (va_cpy (g 20) (g 20) 27 0 351)) 5 1 (nI 13)) 20 r 5 1 = nI 13 := fun r => by rw [setA_ne _ _ (by decide), c5]
      rw [e3, nI_add]
    · rw [stA_ne _ _ _ _ h1, setA_ne _ _ h2, stA_ne _ _ _ _ h1, setA_ne _ _ h2]
    · rw [stA_self, pk_us]
    · rw [stA_ne _ _ _ _ (by decide), setA_self, cpy_out _ _ _ _ (by omega), cpy_in0 _ _ _ (by omega)]
      congr 1; omega
    · rw [stA_ne _ _ _ _ (by decide), setA_self, show 27 * 13 + i = 13 * 27 + i by omega, cpy_in _ _ _ _ hi, Nat.zero_add]
theorem m_keepAct {g2 : Hg} {k x : Nat} (hk : k ≤ 14) (hx : x < 14) (h20 : g2 29 20 = nI k) (h21 : g2 29 21 = nI x) : ∃ h, sX9_keepAct g2 = some h ∧ (∀ c, c ≠ 29 → c ≠ 41 → h c = g2 c) ∧ (∀ i, i ≠ 20 → i ≠ 21 → h 29 i = g2 29 i) ∧ h 29 20 = nI (if k < 14 then k + 1 else 14) ∧ h 29 21 = nI ((x + 1) % 14) ∧ (∀ i, i < 31 → h 41 (31 * x + i) = g2 35 i) ∧ (∀ j i, j ≠ x → i < 31 → h 41 (31 * j + i) = g2 41 (31 * j + i)) := by
  refine ⟨stA (stA (setA g2 41 (va_cpy (g2 35) (g2 41) 0 (31 * x) 31)) 29 21 (nI ((x + 1) % 14))) 29 20 (nI (if k < 14 then k + 1 else 14)), ?_, fun c h1 h2 => ?_, fun i h1 h2 => ?_, ?_, ?_, fun i hi => ?_, fun j i hj hi => ?_⟩
  · unfold sX9_keepAct
    have key := seqloop (fun m a i => sX9_keepAct_2 m a i) (fun i => setA g2 41 (va_cpy (g2 35) (g2 41) 0 (31 * x) i)) 31 (some (stA (stA (setA g2 41 (va_cpy (g2 35) (g2 41) 0 (31 * x) 31)) 29 21 (nI ((x + 1) % 14))) 29 20 (nI (if k < 14 then k + 1 else 14)))) (fun m => ?_) (fun m i hi => ?_) 100 (by decide)
    · simp only [cpy_0, setA_id] at key
      exact key
    · show sX9_keepAct_2 _ _ _ = _
      rw [sX9_keepAct_2, if_pos (by decide)]
      have e1 : setA g2 41 (va_cpy (g2 35) (g2 41) 0 (31 * x) 31) 29 21 = nI x := by rw [setA_ne _ _ (by decide), h21]
      have e2 : ∀ z, stA (setA g2 41 (va_cpy (g2 35) (g2 41) 0 (31 * x) 31)) 29 21 z 29 20 = nI k := fun z => by rw [stA_self, pk_un (by decide), setA_ne _ _ (by decide), h20]
      rw [e1, e2, nI_add, pk_rem (by omega) (by decide) (by decide), nI_add]
      by_cases h : k < 14
      · rw [if_neg (by rw [nI_leI (by omega) (by omega)]; omega), if_pos h]
      · rw [if_pos (by rw [nI_leI (by omega) (by omega)]; omega), if_neg h]
    · show sX9_keepAct_2 _ _ _ = sX9_keepAct_2 _ _ _
      have e1 : setA g2 41 (va_cpy (g2 35) (g2 41) 0 (31 * x) i) 29 21 = nI x := by rw [setA_ne _ _ (by decide), h21]
      have e2 : setA g2 41 (va_cpy (g2 35) (g2 41) 0 (31 * x) i) 35 i = g2 35 i := by rw [setA_ne _ _ (by decide)]
      rw [sX9_keepAct_2, if_neg (by rw [nI_leI (by omega) (by omega)]; omega), if_pos (inb_nI (by omega) (by decide)), e1, pk_mul, nI_add, if_pos (inb_nI (by omega) (by decide)), nI_clamp (by omega), nI_clamp (by omega), e2, st_set, cpy_s0, nI_add]
  · rw [stA_ne _ _ _ _ h1, stA_ne _ _ _ _ h1, setA_ne _ _ h2]
  · rw [stA_self, pk_un h1, stA_self, pk_un h2, setA_ne _ _ (by decide)]
  · rw [stA_self, pk_us]
  · rw [stA_self, pk_un (by decide), stA_self, pk_us]
  · rw [stA_ne _ _ _ _ (by decide), stA_ne _ _ _ _ (by decide), setA_self, cpy_in _ _ _ _ hi, Nat.zero_add]
  · rw [stA_ne _ _ _ _ (by decide), stA_ne _ _ _ _ (by decide), setA_self, cpy_out _ _ _ _ (by omega)]
theorem nr_congr {h g2 : Hg} (e : h 35 = g2 35) (v : Nat) : nr h v = nr g2 v := by unfold nr; rw [e]
theorem act_same {y : Gd} {B : Nat} {g g2 : Hg} (R : RA y B g g2) : ∃ g1 h, sX0_remember g = some g1 ∧ sX9_keepAct g2 = some h ∧ RA y B g1 h ∧ g1 18 = g 18 ∧ nr h 0 = nr g2 0 := by
  obtain ⟨⟨o, G, M, R0'⟩, hT, ⟨k, x, a1, a2, a3, a4, a5, a6⟩, hS, hI⟩ := R
  obtain ⟨g1, p1, p2, p3⟩ := c_rem a1 a3
  obtain ⟨h, q1, q2, q3, q4, q5, q6, q7⟩ := m_keepAct a1 a2 a4 a5
  have m29 : ∀ i, i ≠ 20 → i ≠ 21 → h 29 i = g2 29 i := q3
  have ef : ∀ c i, c ≠ 5 → c ≠ 20 → g1 c i = g c i := fun c i u v => congrFun (p2 c u v) i
  refine ⟨g1, h, p1, q1, ⟨⟨o, GC_congr (p2 _ (by decide) (by decide)) (p2 _ (by decide) (by decide)) (p2 _ (by decide) (by decide)) (p2 _ (by decide) (by decide)) (p2 _ (by decide) (by decide)) (p2 _ (by decide) (by decide)) G, GM_congr (m29 _ (by decide) (by decide)) (m29 _ (by decide) (by decide)) (m29 _ (by decide) (by decide)) (q2 _ (by decide) (by decide)) (q2 _ (by decide) (by decide)) (q2 _ (by decide) (by decide)) (q2 _ (by decide) (by decide)) (q2 _ (by decide) (by decide)) M, ?_⟩, TX_congr (ef _ _ (by decide) (by decide)) (p2 _ (by decide) (by decide)) (m29 _ (by decide) (by decide)) (q2 _ (by decide) (by decide)) hT, ?_, SL_congr (ef _ _ (by decide) (by decide)) (p2 _ (by decide) (by decide)) (q2 _ (by decide) (by decide)) (q2 _ (by decide) (by decide)) hS, SI_congr (ef _ _ (by decide) (by decide)) (p2 _ (by decide) (by decide)) (p2 _ (by decide) (by decide)) (p2 _ (by decide) (by decide)) (m29 _ (by decide) (by decide)) (q2 _ (by decide) (by decide)) (q2 _ (by decide) (by decide)) (q2 _ (by decide) (by decide)) hI⟩, p2 18 (by decide) (by decide), nr_congr (q2 35 (by decide) (by decide)) 0⟩
  · rw [p2 18 (by decide) (by decide), nr_congr (q2 35 (by decide) (by decide)) 0]; exact R0'
  · rcases p3 with ⟨c1, c2, c3, c4⟩ | ⟨c1, c2, c3, c4⟩
    · rw [if_pos c1] at q4
      refine ⟨k + 1, (x + 1) % 14, by omega, Nat.mod_lt _ (by decide), c2, q4, q5, fun j hj => ?_⟩
      by_cases hjk : j < k
      · have e : ((x + 1) % 14 + 14 - (k + 1) + j) % 14 = (x + 14 - k + j) % 14 := by omega
        have e' : (x + 14 - k + j) % 14 ≠ x := by omega
        rw [e]
        exact RR_congr o (fun i hi => c3 j i hjk hi) (fun i hi => q7 _ i e' hi) (a6 j hjk)
      · have e : ((x + 1) % 14 + 14 - (k + 1) + j) % 14 = x := by omega
        have e' : j = k := by omega
        rw [e, e']
        exact RR_congr o (fun i hi => c4 i hi) (fun i hi => (q6 i hi).trans (nr0 g2 i)) R0'
    · subst c1
      rw [if_neg (by decide)] at q4
      refine ⟨14, (x + 1) % 14, by omega, Nat.mod_lt _ (by decide), c2, q4, q5, fun j hj => ?_⟩
      by_cases hjk : j < 13
      · have e : ((x + 1) % 14 + 14 - 14 + j) % 14 = (x + 14 - 14 + (j + 1)) % 14 := by omega
        have e' : (x + 14 - 14 + (j + 1)) % 14 ≠ x := by omega
        rw [e]
        exact RR_congr o (fun i hi => c3 j i hjk hi) (fun i hi => q7 _ i e' hi) (a6 (j + 1) (by omega))
      · have e : ((x + 1) % 14 + 14 - 14 + j) % 14 = x := by omega
        have e' : j = 13 := by omega
        rw [e, e']
        exact RR_congr o (fun i hi => c4 i hi) (fun i hi => (q6 i hi).trans (nr0 g2 i)) R0'
theorem RA_row {y : Gd} {B C : Nat} {g g2 : Hg} (R : RA y B g g2) (hBC : B ≤ C) {r n : Nat → Int32} (h : RR y C r n) : RA y C (setA g 18 r) (nw g2 0 n) := by
  obtain ⟨⟨o, G, M, -⟩, hT, hA, hS, hI⟩ := R
  have e1 : ∀ c, c ≠ 18 → setA g 18 r c = g c := fun c hc => setA_ne _ _ hc
  have e1' : ∀ c i, c ≠ 18 → setA g 18 r c i = g c i := fun c i hc => by rw [setA_ne _ _ hc]
  have e2 : ∀ c, c ≠ 35 → nw g2 0 n c = g2 c := fun c hc => nw_ne _ _ _ hc
  have e2' : ∀ i, nw g2 0 n 29 i = g2 29 i := fun i => by rw [nw_ne _ _ _ (by decide)]
  refine ⟨⟨o, GC_row G (by decide) r, GM_row M 0 n, RR_congr o (fun k _ => by rw [setA_self]) (fun k hk => nr_nw _ _ hk) h⟩, TX_congr (e1' _ _ (by decide)) (e1 _ (by decide)) (e2' _) (e2 _ (by decide)) hT, AC_mono (AC_congr (e1' _ _ (by decide)) (e1 _ (by decide)) (e2' _) (e2' _) (e2 _ (by decide)) hA) hBC, SL_mono (SL_congr (e1' _ _ (by decide)) (e1 _ (by decide)) (e2 _ (by decide)) (e2 _ (by decide)) hS) hBC, SI_congr (e1' _ _ (by decide)) (e1 _ (by decide)) (e1 _ (by decide)) (e1 _ (by decide)) (e2' _) (e2 _ (by decide)) (e2 _ (by decide)) (e2 _ (by decide)) hI⟩
