/-! ===== digging ===== -/
theorem ones_bc {n : Nat} (hn : n < 64) : sX9_ones (nI n) = some (sJ6_bitCount_0f7a4 (nI n)) := co_dec (N := 64) (P := fun n => sX9_ones (nI n) = some (sJ6_bitCount_0f7a4 (nI n))) (by decide +kernel) hn
theorem FR_one {y : Gd} {r r' n n' : Nat → Int32} {sb f : Nat} (h1 : r' (8 + f) = r (8 + f)) (h2 : r' (13 + f) = r (13 + f)) (h3 : r' (18 + f) = r (18 + f)) (h4 : n' (8 + f) = n (8 + f)) (h5 : n' (13 + f) = n (13 + f)) (h6 : n' (18 + f) = n (18 + f)) (h7 : n' (23 + f) = n (23 + f)) (h : FR y r n sb f) : FR y r' n' sb f := by
  unfold FR
  rw [h1, h2, h3, h4, h5, h6, h7]
  exact h
theorem RR_dig {y : Gd} {B : Nat} {r n : Nat → Int32} (o : GO y) (R : RR y B r n) {l f : Nat} (hl : l < dL y) (hf : f < dF y) (h0 : n (13 + f) = nI 0) : RR y B (upd (upd (upd r (8 + f) (-9)) (13 + f) (nI l)) (18 + f) (r 23)) (upd (upd (upd n (13 + f) (nI 1)) (18 + f) (nI l)) (23 + f) (n 30)) := by
  have hL := o.2.2.1
  have hF := o.2.1
  obtain ⟨h1, h2, ⟨H, b1, b2, b3⟩, ⟨d, c1, c2, c3⟩, ⟨w, d1, d2, d3⟩, sb, s1, s2, s3⟩ := R
  have ur : ∀ k, k ≠ 8 + f → k ≠ 13 + f → k ≠ 18 + f → upd (upd (upd r (8 + f) (-9)) (13 + f) (nI l)) (18 + f) (r 23) k = r k := fun k a b c => by rw [pk_un c, pk_un b, pk_un a]
  have un : ∀ k, k ≠ 13 + f → k ≠ 18 + f → k ≠ 23 + f → upd (upd (upd n (13 + f) (nI 1)) (18 + f) (nI l)) (23 + f) (n 30) k = n k := fun k a b c => by rw [pk_un c, pk_un b, pk_un a]
  refine ⟨fun k hk => ?_, fun f' hf' hf5 => ?_, ⟨H, b1, ?_, ?_⟩, ⟨d, c1, ?_, ?_⟩, ⟨w, d1, ?_, ?_⟩, sb, s1, ?_, fun f' hf' => ?_⟩
  · rw [ur k (by omega) (by omega) (by omega), un k (by omega) (by omega) (by omega), ur (4 + k) (by omega) (by omega) (by omega), un (4 + k) (by omega) (by omega) (by omega)]; exact h1 k hk
  · rw [ur _ (by omega) (by omega) (by omega)]; exact h2 f' hf' hf5
  · rw [ur _ (by omega) (by omega) (by omega)]; exact b2
  · rw [un _ (by omega) (by omega) (by omega)]; exact b3
  · rw [ur _ (by omega) (by omega) (by omega)]; exact c2
  · rw [un _ (by omega) (by omega) (by omega)]; exact c3
  · rw [ur _ (by omega) (by omega) (by omega)]; exact d2
  · rw [un _ (by omega) (by omega) (by omega)]; exact d3
  · rw [ur _ (by omega) (by omega) (by omega)]; exact s2
  · by_cases e : f' = f
    · subst e
      right; left
      refine ⟨by rw [pk_un (by omega), pk_un (by omega), pk_us], by rw [pk_un (by omega), pk_un (by omega), pk_us], ⟨l, hl, by rw [pk_un (by omega), pk_us], by rw [pk_un (by omega), pk_us]⟩, by rw [pk_us, pk_us, b2, b3], ?_⟩
      rcases s3 f' hf' with ⟨-, -, -, a4⟩ | ⟨a1, -⟩ | ⟨a1, -⟩
      · exact a4
      · rw [a1] at h0; exact absurd h0 (by decide)
      · rw [a1] at h0; exact absurd h0 (by decide)
    · exact FR_one (ur _ (by omega) (by omega) (by omega)) (ur _ (by omega) (by omega) (by omega)) (ur _ (by omega) (by omega) (by omega)) (un _ (by omega) (by omega) (by omega)) (un _ (by omega) (by omega) (by omega)) (un _ (by omega) (by omega) (by omega)) (un _ (by omega) (by omega) (by omega)) (s3 f' hf')
section Dig
variable {y : Gd} {B t v : Nat} {g g2 : Hg}
theorem canDig_same (o : GO y) (G : GC y g) (M : GM y g2) (hv : v < 2) (hB : B < 2 ^ 20) (R : RR y B (g (t + 15)) (nr g2 v)) (a1 a2 : Int32) : ∃ b, sX4_canDig g t a1 a2 = some b ∧ sX9_canDig g2 (nI v) a1 a2 = some b ∧ (b = true → ∃ l f, l < dL y ∧ f < dF y ∧ a1 = nI l ∧ a2 = nI f ∧ nr g2 v (13 + f) = nI 0) := by
  have hL := o.2.2.1
  have hF := o.2.1
  have R0 := R
  obtain ⟨h1, -, ⟨H, b1, b2, b3⟩, ⟨d, c1, c2, c3⟩, -, sb, s1, s2, s3⟩ := R
  rcases ix_cases a1 (dL y) with ⟨l, hl, -, rfl⟩ | hbad
  · rcases ix_cases a2 (dF y) with ⟨f, hf, -, rfl⟩ | hbad
    · obtain ⟨c, e1, e2, e3⟩ := (h1 l hl).1
      have hbl : bt (cr (nr g2 v) l) (dF y) < 64 := Nat.lt_of_lt_of_le (bt_lt _ _) (Nat.pow_le_pow_right (n := 2) (by decide) (show dF y ≤ 6 by omega))
      have hli := li_class (c := c) R0 (by omega) hf
      unfold sX4_canDig sX9_canDig
      rw [if_pos (c_isLark_ok o G hl), if_pos (m_isLark_ok o M hl), if_pos (c_isFind_ok o G hf), if_pos (m_isFind_ok o M hf), c_drown o G hl c1 c2]
      simp only [pk_mul, nI_add]
      have i28 : inb (nI (31 * v + 28)) 62 = true := inb_nI (by omega) (by decide)
      have i13 : inb (nI (31 * v + 13 + f)) 62 = true := inb_nI (by omega) (by decide)
      have i8 : inb (nI (31 * v + 8 + f)) 62 = true := inb_nI (by omega) (by decide)
      have il : inb (nI (31 * v + l)) 62 = true := inb_nI (by omega) (by decide)
      have i30 : inb (nI (31 * v + 30)) 62 = true := inb_nI (by omega) (by decide)
      have k28 : g2 35 (nI (31 * v + 28)).toNatClampNeg = nI d := by rw [nI_clamp (by omega)]; exact c3
      have k13 : g2 35 (nI (31 * v + 13 + f)).toNatClampNeg = nr g2 v (13 + f) := by rw [nI_clamp (by omega), Nat.add_assoc]; rfl
      have k8 : g2 35 (nI (31 * v + 8 + f)).toNatClampNeg = nr g2 v (8 + f) := by rw [nI_clamp (by omega), Nat.add_assoc]; rfl
      have kl : g2 35 (nI (31 * v + l)).toNatClampNeg = nI c := by rw [nI_clamp (by omega)]; exact e3
      have k30 : g2 35 (nI (31 * v + 30)).toNatClampNeg = nI H := by rw [nI_clamp (by omega)]; exact b3
      rw [if_pos i28, k28, m_has, has_nI (by omega) (by omega)]
      cases hd : d.testBit l with
      | true => exact ⟨false, by rw [if_pos rfl], by rw [if_pos rfl], fun h => by cases h⟩
      | false =>
        rw [if_neg Bool.false_ne_true, if_neg Bool.false_ne_true, c_cellOfLark o G hl, Option.bind_some, c_carriedBy o R0 hl, Option.bind_some, m_carriedBy o M hv, Option.bind_some, ones_bc hbl, Option.bind_some]
        by_cases h2 : nI 2 ≤ sJ6_bitCount_0f7a4 (nI (bt (cr (nr g2 v) l) (dF y)))
        · exact ⟨false, by rw [if_pos h2], by rw [if_pos h2], fun h => by cases h⟩
        · rw [if_neg h2, if_neg h2, c_cellOfFind o G hf, Option.bind_some, e2, if_pos i13, k13, if_pos i8, if_pos il, if_pos il, if_pos i30, k8, kl, k30, c_now, b2, c_isBared o G e1 (by omega), Option.bind_some, m_isBare o M e1 (by omega), Option.bind_some, show (0 : Int32) = nI 0 from rfl]
          cases hp : li (nr g2 v) c f with
          | true =>
            rw [hp] at hli
            have hy := li_yes.mp hp
            rw [if_pos (of_decide_eq_true hli), if_pos hy.1, if_pos hy.2]
            cases hbr : bare y c H with
            | true => exact ⟨true, by rw [if_pos rfl], by rw [if_pos rfl], fun _ => ⟨l, f, hl, hf, rfl, rfl, hy.1⟩⟩
            | false => exact ⟨false, by rw [if_neg Bool.false_ne_true], by rw [if_neg Bool.false_ne_true], fun h => by cases h⟩
          | false =>
            rw [hp] at hli
            refine ⟨false, by rw [if_neg (of_decide_eq_false hli)], ?_, fun h => by cases h⟩
            by_cases q1 : nr g2 v (13 + f) = nI 0
            · rw [if_pos q1, if_neg (fun q2 => by rw [li_yes.mpr ⟨q1, q2⟩] at hp; cases hp)]
            · rw [if_neg q1]
    · refine ⟨false, ?_, ?_, fun h => by cases h⟩
      · unfold sX4_canDig; rw [if_pos (c_isLark_ok o G hl), if_neg (ntr (c_isFind_no o G hbad))]
      · unfold sX9_canDig; rw [if_pos (m_isLark_ok o M hl), if_neg (ntr (m_isFind_no o M hbad))]
  · refine ⟨false, ?_, ?_, fun h => by cases h⟩
    · unfold sX4_canDig; rw [if_neg (ntr (c_isLark_no o G hbad))]
    · unfold sX9_canDig; rw [if_neg (ntr (m_isLark_no o M hbad))]
theorem tryDig_same (o : GO y) (G : GC y g) (M : GM y g2) (hv : v < 2) (hB : B < 2 ^ 20) (R : RR y B (g (t + 15)) (nr g2 v)) (a1 a2 : Int32) : ∃ b r' n', sX4_tryDig g t a1 a2 = some (b, setA g (t + 15) r') ∧ sX9_canDig g2 (nI v) a1 a2 = some b ∧ (b = true → sX9_digOn g2 (nI v) a1 a2 = some (nw g2 v n')) ∧ (b = false → n' = nr g2 v) ∧ RR y B r' n' := by
  have hL := o.2.2.1
  have hF := o.2.1
  obtain ⟨b, h1, h2, h3⟩ := canDig_same o G M hv hB R a1 a2
  cases b with
  | false =>
    refine ⟨false, g (t + 15), nr g2 v, ?_, h2, (fun h => by cases h), fun _ => rfl, R⟩
    unfold sX4_tryDig
    rw [h1, Option.bind_some, if_neg Bool.false_ne_true, setA_id]
  | true =>
    obtain ⟨l, f, hl, hf, rfl, rfl, h0⟩ := h3 rfl
    refine ⟨true, _, _, ?_, h2, fun _ => ?_, (fun h => by cases h), RR_dig o R hl hf h0⟩
    · unfold sX4_tryDig
      rw [h1, Option.bind_some, if_pos rfl, nI_add, nI_add, nI_add, if_pos (inb_nI (by omega) (by decide)), if_pos (inb_nI (by omega) (by decide)), if_pos (inb_nI (by omega) (by decide)), nI_clamp (by omega), nI_clamp (by omega), nI_clamp (by omega), c_now, st_st g (t + 15) (8 + f) (13 + f), setA_self, pk_un (by omega), pk_un (by omega), st_set]
    · unfold sX9_digOn
      simp only [pk_mul, nI_add]
      rw [if_pos (inb_nI (by omega) (by decide)), if_pos (inb_nI (by omega) (by decide)), if_pos (inb_nI (by omega) (by decide)), if_pos (inb_nI (by omega) (by decide)), nI_clamp (by omega), nI_clamp (by omega), nI_clamp (by omega), nI_clamp (by omega), Nat.add_assoc, Nat.add_assoc, Nat.add_assoc]
      have e3 : stA g2 35 (31 * v + (13 + f)) (nI 1) = nw g2 v (upd (nr g2 v) (13 + f) (nI 1)) := by
        have := st_nw g2 (v := v) (nr g2 v) (nI 1) (show 13 + f < 31 by omega)
        rwa [nw_id] at this
      rw [e3, st_nw _ _ _ (by omega), nw_at _ _ (by decide), pk_un (by omega), pk_un (by omega), st_nw _ _ _ (by omega)]
end Dig
