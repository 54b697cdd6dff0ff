/-! ===== walking ===== -/
theorem gt_same {c w : Nat} (hc : c < 12) (hw : w < 5) : sX8_cellBehind (nI c) (nI w) = sX9_goneTo (nI c) (nI w) := by
  have h : ((List.range 12).all fun c => (List.range 5).all fun w => decide (sX8_cellBehind (nI c) (nI w) = sX9_goneTo (nI c) (nI w))) = true := by decide +kernel
  have h1 := List.all_eq_true.mp h c (List.mem_range.mpr hc)
  exact of_decide_eq_true (List.all_eq_true.mp h1 w (List.mem_range.mpr hw))
theorem gt_cases {c w : Nat} (hc : c < 12) (hw : w < 5) : sX9_goneTo (nI c) (nI w) = -9 ∨ ∃ c', c' < 12 ∧ sX9_goneTo (nI c) (nI w) = nI c' := by
  have h : ((List.range 12).all fun c => (List.range 5).all fun w => decide (sX9_goneTo (nI c) (nI w) = -9) || (List.range 12).any fun c' => decide (sX9_goneTo (nI c) (nI w) = nI c')) = true := by decide +kernel
  have h1 := List.all_eq_true.mp h c (List.mem_range.mpr hc)
  have h2 := List.all_eq_true.mp h1 w (List.mem_range.mpr hw)
  rcases Bool.or_eq_true _ _ ▸ h2 with h3 | h3
  · exact Or.inl (of_decide_eq_true h3)
  · obtain ⟨c', h4, h5⟩ := List.any_eq_true.mp h3
    exact Or.inr ⟨c', List.mem_range.mp h4, of_decide_eq_true h5⟩
theorem or_bits {d l : Nat} (hl : l < 4) (hd : d < 16) : nI d ||| sX8_bit (nI l) = nI (d ||| 2 ^ l) ∧ d ||| 2 ^ l < 16 := by
  refine ⟨by unfold sX8_bit; rw [bit_nI (by omega), or_nI], ?_⟩
  have h : 2 ^ l < 2 ^ 4 := Nat.pow_lt_pow_right (by decide) hl
  exact Nat.or_lt_two_pow (n := 4) hd h
/-- the class's row, the reference's row, with other numbers for one lark's cell, for who walked -/
theorem RR_walk {y : Gd} {B : Nat} {r n : Nat → Int32} (o : GO y) (R : RR y B r n) {l c w : Nat} (hl : l < dL y) (hc : c < 12) (hw : w < 16) : RR y B (upd (upd r l (nI c)) 25 (nI w)) (upd (upd n l (nI c)) 29 (nI w)) := by
  have hL := o.2.2.1
  have hF := o.2.1
  obtain ⟨h1, h2, ⟨H, b1, b2, b3⟩, ⟨d, c1, c2, c3⟩, -, sb, s1, s2, s3⟩ := R
  have ur : ∀ k, k ≠ l → k ≠ 25 → upd (upd r l (nI c)) 25 (nI w) k = r k := fun k a b => by rw [pk_un b, pk_un a]
  have un : ∀ k, k ≠ l → k ≠ 29 → upd (upd n l (nI c)) 29 (nI w) k = n k := fun k a b => by rw [pk_un b, pk_un a]
  refine ⟨fun k hk => ?_, fun f hf hf5 => ?_, ⟨H, b1, ?_, ?_⟩, ⟨d, c1, ?_, ?_⟩, ⟨w, hw, pk_us, pk_us⟩, sb, s1, ?_, fun f hf => ?_⟩
  · rw [ur (4 + k) (by omega) (by omega), un (4 + k) (by omega) (by omega)]
    refine ⟨?_, (h1 k hk).2⟩
    by_cases hkl : k = l
    · subst hkl
      exact ⟨c, hc, by rw [pk_un (by omega), pk_us], by rw [pk_un (by omega), pk_us]⟩
    · rw [ur k hkl (by omega), un k hkl (by omega)]; exact (h1 k hk).1
  · rw [ur _ (by omega) (by omega)]; exact h2 f hf hf5
  · rw [ur _ (by omega) (by omega)]; exact b2
  · rw [un _ (by omega) (by omega)]; exact b3
  · rw [ur _ (by omega) (by omega)]; exact c2
  · rw [un _ (by omega) (by omega)]; exact c3
  · rw [ur _ (by omega) (by omega)]; exact s2
  · unfold FR
    rw [ur (8 + f) (by omega) (by omega), ur (13 + f) (by omega) (by omega), ur (18 + f) (by omega) (by omega), un (13 + f) (by omega) (by omega), un (8 + f) (by omega) (by omega), un (18 + f) (by omega) (by omega), un (23 + f) (by omega) (by omega)]
    exact s3 f hf
theorem m_at (g : Hg) (v i : Nat) : g 35 (31 * v + i) = nr g v i := rfl
theorem stA_self (g : Hg) (c i : Nat) (x : Int32) : stA g c i x c = upd (g c) i x := setA_self _ _ _
theorem st_st (g : Hg) (c i j : Nat) (x z : Int32) : stA (stA g c i x) c j z = setA g c (upd (upd (g c) i x) j z) := st_set g c (upd (g c) i x) j z
section Walk
variable {y : Gd} {B t v : Nat} {g g2 : Hg}
theorem canWalk_same (o : GO y) (G : GC y g) (M : GM y g2) (hv : v < 2) (hB : B < 2 ^ 20) (R : RR y B (g (t + 15)) (nr g2 v)) (a1 a2 : Int32) : ∃ b, sX4_canWalk g t a1 a2 = some b ∧ sX9_canWalk g2 (nI v) a1 a2 = some b ∧ (b = true → ∃ l w c, l < dL y ∧ w < 5 ∧ a1 = nI l ∧ a2 = nI w ∧ c < 12 ∧ sX8_cellBehind (g (t + 15) l) a2 = nI c ∧ sX9_goneTo (nr g2 v l) a2 = nI c) := by
  have hL := o.2.2.1
  obtain ⟨h1, -, ⟨H, b1, b2, b3⟩, ⟨d, c1, c2, c3⟩, ⟨w, d1, d2, d3⟩, -⟩ := R
  rcases ix_cases a1 (dL y) with ⟨l, hl, -, rfl⟩ | hbad
  · obtain ⟨c, e1, e2, e3⟩ := (h1 l hl).1
    unfold sX4_canWalk sX9_canWalk
    rw [if_pos (c_isLark_ok o G hl), if_pos (m_isLark_ok o M hl), c_within a2 (by decide) (by decide), m_in a2 (lN 1) 4 1 4 rfl rfl]
    rcases wi_cases a2 1 4 (by decide) with ⟨k, k1, k2, rfl, hk⟩ | hk
    · have hk' : wi (nI k) 1 4 = true := hk
      rw [if_pos hk, if_pos hk', c_drown o G hl c1 c2, c_walked o G hl d1 d2, pk_mul, nI_add, nI_add, nI_add, nI_add, if_pos (inb_nI (by omega) (by decide)), nI_clamp (by omega), m_at g2 v, c3, m_has, has_nI (by omega) (by omega)]
      cases hd : d.testBit l with
      | true => exact ⟨false, by rw [if_pos rfl], by rw [if_pos rfl], fun h => by cases h⟩
      | false =>
        rw [if_neg Bool.false_ne_true, if_neg Bool.false_ne_true, if_pos (inb_nI (by omega) (by decide)), nI_clamp (by omega), m_at g2 v, d3, m_has, has_nI (by omega) (by omega)]
        cases hw : w.testBit l with
        | true => exact ⟨false, by rw [if_pos rfl], by rw [if_pos rfl], fun h => by cases h⟩
        | false =>
          rw [if_neg Bool.false_ne_true, if_neg Bool.false_ne_true, c_cellOfLark o G hl, Option.bind_some, if_pos (inb_nI (by omega) (by decide)), nI_clamp (by omega), m_at g2 v, e2, e3, gt_same e1 (by omega), c_now, b2]
          rcases gt_cases e1 (show k < 5 by omega) with e4 | ⟨c', e4, e5⟩
          · exact ⟨false, by rw [if_pos e4], by rw [if_pos e4], fun h => by cases h⟩
          · rw [e5, if_neg (m9_nI (by omega)), if_neg (m9_nI (by omega)), c_stands o G hl e4 (by omega), Option.bind_some, if_pos (inb_nI (by omega) (by decide)), nI_clamp (by omega), m_at g2 v, b3, m_stands o M hl e4 (by omega), Option.bind_some]
            cases hs : stnd y l c' H with
            | true =>
              refine ⟨true, by rw [if_pos rfl], by rw [if_pos rfl], fun _ => ⟨l, k, c', hl, by omega, rfl, rfl, e4, ?_, ?_⟩⟩
              · rw [e2, gt_same e1 (by omega)]; exact e5
              · rw [e3]; exact e5
            | false => exact ⟨false, by rw [if_neg Bool.false_ne_true], by rw [if_neg Bool.false_ne_true], fun h => by cases h⟩
    · have hk' : wi a2 1 4 = false := hk
      exact ⟨false, by rw [if_neg (ntr hk)], by rw [if_neg (ntr hk')], fun h => by cases h⟩
  · refine ⟨false, ?_, ?_, fun h => by cases h⟩
    · unfold sX4_canWalk; rw [if_neg (ntr (c_isLark_no o G hbad))]
    · unfold sX9_canWalk; rw [if_neg (ntr (m_isLark_no o M hbad))]
theorem tryWalk_same (o : GO y) (G : GC y g) (M : GM y g2) (hv : v < 2) (hB : B < 2 ^ 20) (R : RR y B (g (t + 15)) (nr g2 v)) (a1 a2 : Int32) : ∃ b r' n', sX4_tryWalk g t a1 a2 = some (b, setA g (t + 15) r') ∧ sX9_canWalk g2 (nI v) a1 a2 = some b ∧ (b = true → sX9_walkOn g2 (nI v) a1 a2 = some (nw g2 v n')) ∧ (b = false → n' = nr g2 v) ∧ RR y B r' n' := by
  have hL := o.2.2.1
  obtain ⟨b, h1, h2, h3⟩ := canWalk_same o G M hv hB R a1 a2
  cases b with
  | false =>
    refine ⟨false, g (t + 15), nr g2 v, ?_, h2, (fun h => by cases h), fun _ => rfl, R⟩
    unfold sX4_tryWalk
    rw [h1, Option.bind_some, if_neg Bool.false_ne_true, setA_id]
  | true =>
    obtain ⟨l, k, c, hl, hk, rfl, rfl, hc, e1, e2⟩ := h3 rfl
    obtain ⟨w, d1, d2, d3⟩ := R.2.2.2.2.1
    obtain ⟨q1, q2⟩ := or_bits (show l < 4 by omega) d1
    refine ⟨true, upd (upd (g (t + 15)) l (nI c)) 25 (nI (w ||| 2 ^ l)), upd (upd (nr g2 v) l (nI c)) 29 (nI (w ||| 2 ^ l)), ?_, h2, fun _ => ?_, (fun h => by cases h), RR_walk o R hl hc q2⟩
    · unfold sX4_tryWalk
      rw [h1, Option.bind_some, if_pos rfl, c_cellOfLark o G hl, Option.bind_some, e1, nI_add, Nat.zero_add, if_pos (inb_nI (by omega) (by decide)), nI_clamp (by omega), nI_clamp (by decide), stA_self g (t + 15) l (nI c), pk_un (by omega), d2, q1, st_st g (t + 15) l 25]
    · unfold sX9_walkOn
      rw [pk_mul, nI_add, nI_add, if_pos (inb_nI (by omega) (by decide)), if_pos (inb_nI (by omega) (by decide)), if_pos (inb_nI (by omega) (by decide)), if_pos (inb_nI (by omega) (by decide)), nI_clamp (by omega), nI_clamp (by omega), m_at g2 v, e2]
      have e3 : stA g2 35 (31 * v + l) (nI c) = nw g2 v (upd (nr g2 v) l (nI c)) := by
        have := st_nw g2 (v := v) (nr g2 v) (nI c) (show l < 31 by omega)
        rwa [nw_id] at this
      rw [e3, nw_at _ _ (by decide), pk_un (by omega), d3, show (nI 1) <<< (nI l &&& 31) = sX8_bit (nI l) from rfl, q1, st_nw _ _ _ (by decide)]
end Walk
