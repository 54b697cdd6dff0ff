/-! ===== the law's loop, pure ===== -/
theorem RelZ : Rel 0 gI 0 gZ 0 := by
  have c0 : ∀ c i, c ≠ 18 → c ≠ 19 → gI c i = nI 0 := fun c i h1 h2 => by
    unfold gI
    rw [setA_ne _ _ h2, setA_ne _ _ h1]
    exact nI_0.symm
  have c18 : ∀ i, gI 18 i = r0 18 i := fun i => by
    unfold gI
    rw [setA_ne _ _ (by decide), setA_self]
  have m0 : ∀ c i, gZ c i = nI 0 := fun c i => nI_0.symm
  refine ⟨⟨((0, 0, 0), fun _ => 0, fun _ => 0, fun _ => 0, fun _ => 0, fun _ => 0), ⟨⟨by decide, by decide, by decide, fun _ _ => Nat.zero_le _, fun _ h => absurd h (Nat.not_lt_zero _), fun _ h => absurd h (Nat.not_lt_zero _), fun _ h => absurd h (Nat.not_lt_zero _)⟩, ⟨c0 _ _ (by decide) (by decide), c0 _ _ (by decide) (by decide), c0 _ _ (by decide) (by decide), fun _ _ => c0 _ _ (by decide) (by decide), fun _ h => absurd h (Nat.not_lt_zero _), fun _ h => absurd h (Nat.not_lt_zero _), fun _ h => absurd h (Nat.not_lt_zero _)⟩, ⟨m0 _ _, m0 _ _, m0 _ _, fun _ _ => m0 _ _, fun _ h => absurd h (Nat.not_lt_zero _), fun _ h => absurd h (Nat.not_lt_zero _), fun _ h => absurd h (Nat.not_lt_zero _)⟩, ?_⟩, ⟨0, by decide, c0 _ _ (by decide) (by decide), m0 _ _, fun _ h => absurd h (Nat.not_lt_zero _)⟩, ⟨0, 0, by decide, by decide, c0 _ _ (by decide) (by decide), m0 _ _, m0 _ _, fun _ h => absurd h (Nat.not_lt_zero _)⟩, ⟨0, by decide, c0 _ _ (by decide) (by decide), fun s _ => ⟨by rw [m0, if_neg (by simp)], fun q => absurd q (by simp)⟩⟩, ⟨0, by decide, c0 _ _ (by decide) (by decide), m0 _ _, fun _ h => absurd h (Nat.not_lt_zero _)⟩⟩, rfl, by decide⟩
  refine ⟨fun _ h => absurd h (Nat.not_lt_zero _), fun f _ hf => ?_, ⟨0, Nat.le_refl _, ?_, m0 _ _⟩, ⟨0, by decide, ?_, m0 _ _⟩, ⟨0, by decide, ?_, m0 _ _⟩, ⟨0, by decide, ?_, fun _ h => absurd h (Nat.not_lt_zero _)⟩⟩
  · rw [c18]
    have : f = 0 ∨ f = 1 ∨ f = 2 ∨ f = 3 ∨ f = 4 := by omega
    rcases this with rfl | rfl | rfl | rfl | rfl <;> decide
  · rw [c18]; decide
  · rw [c18]; decide
  · rw [c18]; decide
  · rw [c18]; decide
set_option maxHeartbeats 4000000 in
theorem pureN (xs : Nat → Int32) {L : Nat} (hL : L ≤ 320) : ∀ (n i B : Nat) (g : Hg) (q : Int64) (g2 : Hg) (q2 : Int64), i ≤ L → L < i + 5 * n → B + n < 2 ^ 17 → Rel B g q g2 q2 → sL xs L n g q g2 q2 (nI i) = some () := by
  intro n
  induction n with
  | zero => intro i B g q g2 q2 h1 h2; omega
  | succ n ih =>
    intro i B g q g2 q2 h1 h2 h3 hR
    obtain ⟨⟨y, R⟩, rfl, -⟩ := hR
    have hB : B < 2 ^ 19 := by omega
    have hsub : (nI L - nI 5).toInt = (L : Int) - (5 : Nat) := pk_sub_toInt (by omega) (by decide)
    have hi : (nI i).toInt = (i : Int) := nI_toInt (by omega)
    by_cases hend : L < i + 5
    · exact if_pos (by rw [Int32.lt_iff_toInt_lt, hsub, hi]; omega)
    have nx : ∀ g' q' g2', (∃ y', RA y' (B + 1) g' g2') → sL xs L n g' q' g2' q' (nI i + nI 5) = some () := fun g' q' g2' hh => by
      rw [nI_add]
      exact ih (i + 5) (B + 1) g' q' g2' q' (by omega) (by omega) (by omega) ⟨hh, rfl, by omega⟩
    have up : ∀ {y' : Gd} {g' g2' : Hg}, RA y' B g' g2' → ∃ y', RA y' (B + 1) g' g2' := fun h => ⟨_, RA_mono h (by omega)⟩
    have b0 : inb (nI i) L = true := inb_nI (by omega) (by omega)
    have b1 : inb (nI i + nI 1) L = true := by rw [nI_add]; exact inb_nI (by omega) (by omega)
    have b2 : inb (nI i + nI 2) L = true := by rw [nI_add]; exact inb_nI (by omega) (by omega)
    have b3 : inb (nI i + nI 3) L = true := by rw [nI_add]; exact inb_nI (by omega) (by omega)
    have b4 : inb (nI i + nI 4) L = true := by rw [nI_add]; exact inb_nI (by omega) (by omega)
    rw [sL]
    refine (if_neg (by rw [Int32.lt_iff_toInt_lt, hsub, hi]; omega)).trans ?_
    refine (if_pos b0).trans ?_
    by_cases c0 : ((xs (Int32.toNatClampNeg (nI i))) &&& (nI 31)) = nI 0
    · refine (if_pos c0).trans ?_
      obtain ⟨x, g', g2', e1, e2, e3⟩ := op_write R (xs (Int32.toNatClampNeg (nI i + nI 1)))
      rw [if_pos b1, e1, Option.bind_some, if_pos b1, e2, Option.bind_some]
      refine (if_pos rfl).trans ?_
      exact nx _ _ _ (up e3)
    refine (if_neg c0).trans ?_
    by_cases c1 : ((xs (Int32.toNatClampNeg (nI i))) &&& (nI 31)) = nI 1
    · refine (if_pos c1).trans ?_
      obtain ⟨e1, e2⟩ := op_wipe R
      rw [if_pos e1]
      exact nx _ _ _ (up e2)
    refine (if_neg c1).trans ?_
    by_cases c2 : ((xs (Int32.toNatClampNeg (nI i))) &&& (nI 31)) = nI 2
    · refine (if_pos c2).trans ?_
      obtain ⟨x, g', g2', e1, e2, e3⟩ := op_fault R
      rw [e1, Option.bind_some, e2, Option.bind_some]
      refine (if_pos rfl).trans ?_
      exact nx _ _ _ (up e3)
    refine (if_neg c2).trans ?_
    by_cases c3 : ((xs (Int32.toNatClampNeg (nI i))) &&& (nI 31)) = nI 3
    · refine (if_pos c3).trans ?_
      obtain ⟨x, g', g2', e1, e2, y', e3⟩ := op_flat R
      rw [e1, Option.bind_some, e2, Option.bind_some]
      refine (if_pos rfl).trans ?_
      exact nx _ _ _ (up e3)
    refine (if_neg c3).trans ?_
    by_cases c4 : ((xs (Int32.toNatClampNeg (nI i))) &&& (nI 31)) = nI 4
    · refine (if_pos c4).trans ?_
      obtain ⟨x, e1, e2⟩ := op_cell R.1 hB (xs (Int32.toNatClampNeg (nI i + nI 1))) (xs (Int32.toNatClampNeg (nI i + nI 2)))
      rw [if_pos b1, if_pos b2, e1, Option.bind_some, if_pos b1, if_pos b2, e2, Option.bind_some]
      refine (if_pos rfl).trans ?_
      exact nx _ _ _ (up R)
    refine (if_neg c4).trans ?_
    by_cases c5 : ((xs (Int32.toNatClampNeg (nI i))) &&& (nI 31)) = nI 5
    · refine (if_pos c5).trans ?_
      obtain ⟨x, e1, e2⟩ := op_find R.1 hB (xs (Int32.toNatClampNeg (nI i + nI 1))) (xs (Int32.toNatClampNeg (nI i + nI 2)))
      rw [if_pos b1, if_pos b2, e1, Option.bind_some, if_pos b1, if_pos b2, e2, Option.bind_some]
      refine (if_pos rfl).trans ?_
      exact nx _ _ _ (up R)
    refine (if_neg c5).trans ?_
    by_cases c6 : ((xs (Int32.toNatClampNeg (nI i))) &&& (nI 31)) = nI 6
    · refine (if_pos c6).trans ?_
      obtain ⟨x, e1, e2⟩ := op_lark R.1 hB (xs (Int32.toNatClampNeg (nI i + nI 1))) (xs (Int32.toNatClampNeg (nI i + nI 2)))
      rw [if_pos b1, if_pos b2, e1, Option.bind_some, if_pos b1, if_pos b2, e2, Option.bind_some]
      refine (if_pos rfl).trans ?_
      exact nx _ _ _ (up R)
    refine (if_neg c6).trans ?_
    by_cases c7 : ((xs (Int32.toNatClampNeg (nI i))) &&& (nI 31)) = nI 7
    · refine (if_pos c7).trans ?_
      obtain ⟨x, g', g2', e1, e2, e3⟩ := op_walk R hB (xs (Int32.toNatClampNeg (nI i + nI 1))) (xs (Int32.toNatClampNeg (nI i + nI 2)))
      rw [if_pos b1, if_pos b2, e1, Option.bind_some, if_pos b1, if_pos b2, e2, Option.bind_some]
      refine (if_pos rfl).trans ?_
      exact nx _ _ _ (up e3)
    refine (if_neg c7).trans ?_
    by_cases c8 : ((xs (Int32.toNatClampNeg (nI i))) &&& (nI 31)) = nI 8
    · refine (if_pos c8).trans ?_
      obtain ⟨x, g', g2', e1, e2, e3⟩ := op_hour R hB
      rw [e1, Option.bind_some, e2, Option.bind_some]
      refine (if_pos rfl).trans ?_
      exact nx _ _ _ ⟨_, e3⟩
    refine (if_neg c8).trans ?_
    by_cases c9 : ((xs (Int32.toNatClampNeg (nI i))) &&& (nI 31)) = nI 9
    · refine (if_pos c9).trans ?_
      obtain ⟨x, g', g2', e1, e2, e3⟩ := op_dig R hB (xs (Int32.toNatClampNeg (nI i + nI 1))) (xs (Int32.toNatClampNeg (nI i + nI 2)))
      rw [if_pos b1, if_pos b2, e1, Option.bind_some, if_pos b1, if_pos b2, e2, Option.bind_some]
      refine (if_pos rfl).trans ?_
      exact nx _ _ _ (up e3)
    refine (if_neg c9).trans ?_
    by_cases c10 : ((xs (Int32.toNatClampNeg (nI i))) &&& (nI 31)) = nI 10
    · refine (if_pos c10).trans ?_
      obtain ⟨x, g', g2', e1, e2, e3⟩ := op_put R hB (xs (Int32.toNatClampNeg (nI i + nI 1)))
      rw [if_pos b1, e1, Option.bind_some, if_pos b1, e2, Option.bind_some]
      refine (if_pos rfl).trans ?_
      exact nx _ _ _ (up e3)
    refine (if_neg c10).trans ?_
    by_cases c11 : ((xs (Int32.toNatClampNeg (nI i))) &&& (nI 31)) = nI 11
    · refine (if_pos c11).trans ?_
      obtain ⟨x, g', g2', e1, e2, e3⟩ := op_sell R hB (xs (Int32.toNatClampNeg (nI i + nI 1)))
      rw [if_pos b1, e1, Option.bind_some, if_pos b1, e2, Option.bind_some]
      refine (if_pos rfl).trans ?_
      exact nx _ _ _ (up e3)
    refine (if_neg c11).trans ?_
    by_cases c12 : ((xs (Int32.toNatClampNeg (nI i))) &&& (nI 31)) = nI 12
    · refine (if_pos c12).trans ?_
      obtain ⟨x, g', g2', e1, e2, e3⟩ := op_undo R hB
      rw [e1, Option.bind_some, e2, Option.bind_some]
      refine (if_pos rfl).trans ?_
      exact nx _ _ _ (up e3)
    refine (if_neg c12).trans ?_
    by_cases c13 : ((xs (Int32.toNatClampNeg (nI i))) &&& (nI 31)) = nI 13
    · refine (if_pos c13).trans ?_
      obtain ⟨x, e1, e2⟩ := op_bared R.1 hB (xs (Int32.toNatClampNeg (nI i + nI 1)))
      rw [if_pos b1, e1, Option.bind_some, if_pos b1, e2, Option.bind_some]
      refine (if_pos rfl).trans ?_
      exact nx _ _ _ (up R)
    refine (if_neg c13).trans ?_
    by_cases c14 : ((xs (Int32.toNatClampNeg (nI i))) &&& (nI 31)) = nI 14
    · refine (if_pos c14).trans ?_
      obtain ⟨x, e1, e2⟩ := op_flooded R.1 hB (xs (Int32.toNatClampNeg (nI i + nI 1)))
      rw [if_pos b1, e1, Option.bind_some, if_pos b1, e2, Option.bind_some]
      refine (if_pos rfl).trans ?_
      exact nx _ _ _ (up R)
    refine (if_neg c14).trans ?_
    by_cases c15 : ((xs (Int32.toNatClampNeg (nI i))) &&& (nI 31)) = nI 15
    · refine (if_pos c15).trans ?_
      obtain ⟨x, e1, e2⟩ := op_reach R.1 hB (xs (Int32.toNatClampNeg (nI i + nI 1))) (xs (Int32.toNatClampNeg (nI i + nI 2)))
      rw [if_pos b1, if_pos b2, e1, Option.bind_some, if_pos b1, if_pos b2, e2, Option.bind_some]
      refine (if_pos rfl).trans ?_
      exact nx _ _ _ (up R)
    refine (if_neg c15).trans ?_
    by_cases c16 : ((xs (Int32.toNatClampNeg (nI i))) &&& (nI 31)) = nI 16
    · refine (if_pos c16).trans ?_
      obtain ⟨x, e1, e2⟩ := op_home R.1 hB (xs (Int32.toNatClampNeg (nI i + nI 1)))
      rw [if_pos b1, e1, Option.bind_some, if_pos b1, e2, Option.bind_some]
      refine (if_pos rfl).trans ?_
      exact nx _ _ _ (up R)
    refine (if_neg c16).trans ?_
    by_cases c17 : ((xs (Int32.toNatClampNeg (nI i))) &&& (nI 31)) = nI 17
    · refine (if_pos c17).trans ?_
      obtain ⟨x, g', e1, e2, e3⟩ := op_gets R.1 hB (xs (Int32.toNatClampNeg (nI i + nI 1))) (xs (Int32.toNatClampNeg (nI i + nI 2))) (xs (Int32.toNatClampNeg (nI i + nI 3)))
      rw [if_pos b1, if_pos b2, if_pos b3, e1, Option.bind_some, if_pos b1, if_pos b2, if_pos b3, e2, Option.bind_some]
      refine (if_pos rfl).trans ?_
      exact nx _ _ _ (up (RA_scr R e3 (ScM_refl _)))
    refine (if_neg c17).trans ?_
    by_cases c18 : ((xs (Int32.toNatClampNeg (nI i))) &&& (nI 31)) = nI 18
    · refine (if_pos c18).trans ?_
      obtain ⟨x, g', g2', e1, e2, e3, e4⟩ := op_judge R.1 hB (xs (Int32.toNatClampNeg (nI i + nI 1))) (((Int32.toInt64 (xs (Int32.toNatClampNeg (nI i + nI 2)))) <<< (Int32.toInt64 (nI 32) &&& 63)) ||| ((Int32.toInt64 (xs (Int32.toNatClampNeg (nI i + nI 3)))) &&& ((4294967295 : Int64))))
      rw [if_pos b1, if_pos b2, if_pos b3, e1, Option.bind_some, if_pos b1, if_pos b2, if_pos b3, e2, Option.bind_some]
      refine (if_pos rfl).trans ?_
      exact nx _ _ _ (up (RA_scr R e3 e4))
    refine (if_neg c18).trans ?_
    by_cases c19 : ((xs (Int32.toNatClampNeg (nI i))) &&& (nI 31)) = nI 19
    · refine (if_pos c19).trans ?_
      obtain ⟨x, g', g2', e1, e2, e3⟩ := op_see R (xs (Int32.toNatClampNeg (nI i + nI 1))) (xs (Int32.toNatClampNeg (nI i + nI 2))) (xs (Int32.toNatClampNeg (nI i + nI 3)))
      rw [if_pos b1, if_pos b2, if_pos b3, e1, Option.bind_some, if_pos b1, if_pos b2, if_pos b3, e2, Option.bind_some]
      refine (if_pos rfl).trans ?_
      exact nx _ _ _ (up e3)
    refine (if_neg c19).trans ?_
    by_cases c20 : ((xs (Int32.toNatClampNeg (nI i))) &&& (nI 31)) = nI 20
    · refine (if_pos c20).trans ?_
      obtain ⟨e1, e2⟩ := op_unsee R
      rw [if_pos e1]
      exact nx _ _ _ (up e2)
    refine (if_neg c20).trans ?_
    by_cases c21 : ((xs (Int32.toNatClampNeg (nI i))) &&& (nI 31)) = nI 21
    · refine (if_pos c21).trans ?_
      obtain ⟨x, e1, e2⟩ := op_phases R
      rw [e1, Option.bind_some, e2, Option.bind_some]
      refine (if_pos rfl).trans ?_
      exact nx _ _ _ (up R)
    refine (if_neg c21).trans ?_
    by_cases c22 : ((xs (Int32.toNatClampNeg (nI i))) &&& (nI 31)) = nI 22
    · refine (if_pos c22).trans ?_
      by_cases hz : (xs (Int32.toNatClampNeg (nI i + nI 2))) = 0
      · obtain ⟨x, g', g2', e1, e2, e3, e4⟩ := op_share R.1 hB (xs (Int32.toNatClampNeg (nI i + nI 1))) (nI 0)
        rw [if_pos b1, if_pos b2, if_pos hz, e1, Option.bind_some, if_pos b1, if_pos b2, if_pos hz, e2, Option.bind_some]
        refine (if_pos rfl).trans ?_
        exact nx _ _ _ (up (RA_scr R e3 e4))
      · obtain ⟨x, g', g2', e1, e2, e3, e4⟩ := op_share R.1 hB (xs (Int32.toNatClampNeg (nI i + nI 1))) (nI 1)
        rw [if_pos b1, if_pos b2, if_neg hz, e1, Option.bind_some, if_pos b1, if_pos b2, if_neg hz, e2, Option.bind_some]
        refine (if_pos rfl).trans ?_
        exact nx _ _ _ (up (RA_scr R e3 e4))
    refine (if_neg c22).trans ?_
    by_cases c23 : ((xs (Int32.toNatClampNeg (nI i))) &&& (nI 31)) = nI 23
    · refine (if_pos c23).trans ?_
      obtain ⟨x, g', g2', e1, e2, e3, e4⟩ := op_rests R.1 hB (xs (Int32.toNatClampNeg (nI i + nI 1))) (xs (Int32.toNatClampNeg (nI i + nI 2))) (xs (Int32.toNatClampNeg (nI i + nI 3)))
      rw [if_pos b1, if_pos b2, if_pos b3, e1, Option.bind_some, if_pos b1, if_pos b2, if_pos b3, e2, Option.bind_some]
      refine (if_pos rfl).trans ?_
      exact nx _ _ _ (up (RA_scr R e3 e4))
    refine (if_neg c23).trans ?_
    by_cases c24 : ((xs (Int32.toNatClampNeg (nI i))) &&& (nI 31)) = nI 24
    · refine (if_pos c24).trans ?_
      by_cases hz : (xs (Int32.toNatClampNeg (nI i + nI 4))) = 0
      · obtain ⟨x, e1, e2⟩ := op_storms R.1 hB (xs (Int32.toNatClampNeg (nI i + nI 1))) (xs (Int32.toNatClampNeg (nI i + nI 2))) (xs (Int32.toNatClampNeg (nI i + nI 3))) (nI 0)
        rw [if_pos b1, if_pos b2, if_pos b3, if_pos b4, if_pos hz, e1, Option.bind_some, if_pos b1, if_pos b2, if_pos b3, if_pos b4, if_pos hz, e2, Option.bind_some]
        refine (if_pos rfl).trans ?_
        exact nx _ _ _ (up R)
      · obtain ⟨x, e1, e2⟩ := op_storms R.1 hB (xs (Int32.toNatClampNeg (nI i + nI 1))) (xs (Int32.toNatClampNeg (nI i + nI 2))) (xs (Int32.toNatClampNeg (nI i + nI 3))) (nI 1)
        rw [if_pos b1, if_pos b2, if_pos b3, if_pos b4, if_neg hz, e1, Option.bind_some, if_pos b1, if_pos b2, if_pos b3, if_pos b4, if_neg hz, e2, Option.bind_some]
        refine (if_pos rfl).trans ?_
        exact nx _ _ _ (up R)
    refine (if_neg c24).trans ?_
    by_cases c25 : ((xs (Int32.toNatClampNeg (nI i))) &&& (nI 31)) = nI 25
    · refine (if_pos c25).trans ?_
      rw [if_pos b1, if_pos b2, if_pos b1, if_pos b2]
      refine (if_pos ?_).trans ?_
      · show lg_cmp q q = 0
        unfold lg_cmp
        rw [if_neg (fun h => by have := Int64.lt_iff_toInt_lt.mp h; omega), if_pos rfl]
      · exact nx _ _ _ (up R)
    refine (if_neg c25).trans ?_
    by_cases c26 : ((xs (Int32.toNatClampNeg (nI i))) &&& (nI 31)) = nI 26
    · refine (if_pos c26).trans ?_
      obtain ⟨x, g', g2', q', e1, e2, e3, e4⟩ := op_springs R.1 hB q (xs (Int32.toNatClampNeg (nI i + nI 1)))
      rw [if_pos b1, e1, Option.bind_some, if_pos b1, e2, Option.bind_some]
      refine (if_pos rfl).trans ?_
      exact nx _ _ _ (up (RA_scr R e3 e4))
    refine (if_neg c26).trans ?_
    by_cases c27 : ((xs (Int32.toNatClampNeg (nI i))) &&& (nI 31)) = nI 27
    · refine (if_pos c27).trans ?_
      obtain ⟨x, g', g2', e1, e2, e3⟩ := op_keep R hB (xs (Int32.toNatClampNeg (nI i + nI 1)))
      rw [if_pos b1, e1, Option.bind_some, if_pos b1, e2, Option.bind_some]
      refine (if_pos rfl).trans ?_
      exact nx _ _ _ (up e3)
    refine (if_neg c27).trans ?_
    by_cases c28 : ((xs (Int32.toNatClampNeg (nI i))) &&& (nI 31)) = nI 28
    · refine (if_pos c28).trans ?_
      obtain ⟨x, g', g2', e1, e2, e3⟩ := op_again R hB (xs (Int32.toNatClampNeg (nI i + nI 1)))
      rw [if_pos b1, e1, Option.bind_some, if_pos b1, e2, Option.bind_some]
      refine (if_pos rfl).trans ?_
      exact nx _ _ _ (up e3)
    refine (if_neg c28).trans ?_
    by_cases c29 : ((xs (Int32.toNatClampNeg (nI i))) &&& (nI 31)) = nI 29
    · refine (if_pos c29).trans ?_
      obtain ⟨x, e1, e2⟩ := op_count R hB (xs (Int32.toNatClampNeg (nI i + nI 1)))
      rw [if_pos b1, e1, Option.bind_some, if_pos b1, e2, Option.bind_some]
      refine (if_pos rfl).trans ?_
      exact nx _ _ _ (up R)
    refine (if_neg c29).trans ?_
    exact nx _ _ _ (up R)
theorem pureL (xs : Nat → Int32) {L : Nat} (hL : L ≤ 320) : sL xs L 100 gI 0 gZ 0 (nI 0) = some () := pureN xs hL 100 0 0 gI 0 gZ 0 (Nat.zero_le _) (by omega) (by decide) RelZ
