/-! ===== what is read off a row ===== -/
def smI (f : Nat → Int32) : Nat → Int32
  | 0 => nI 0
  | n + 1 => smI f n + f n
/-- a find lies at a cell; is in a state -/
def li (n : Nat → Int32) (c f : Nat) : Bool := decide (n (13 + f) = nI 0) && decide (n (8 + f) = nI c)
theorem li_yes {n : Nat → Int32} {c f : Nat} : li n c f = true ↔ n (13 + f) = nI 0 ∧ n (8 + f) = nI c := by simp [li]
section Read
variable {y : Gd} {B : Nat} {n : Nat → Int32} {g g2 : Hg} {t : Nat}
theorem c_cellOfLark (o : GO y) (G : GC y g) {l : Nat} (hl : l < dL y) : sX4_cellOfLark g t (nI l) = some (g (t + 15) l) := by
  have hL := o.2.2.1
  unfold sX4_cellOfLark
  rw [if_pos (c_isLark_ok o G hl), nI_add, if_pos (inb_nI (by omega) (by decide)), nI_clamp (by omega), Nat.zero_add]
theorem c_coins (o : GO y) (G : GC y g) {l : Nat} (hl : l < dL y) : sX4_coins g t (nI l) = some (g (t + 15) (4 + l)) := by
  have hL := o.2.2.1
  unfold sX4_coins
  rw [if_pos (c_isLark_ok o G hl), nI_add, if_pos (inb_nI (by omega) (by decide)), nI_clamp (by omega)]
theorem c_cellOfFind (o : GO y) (G : GC y g) {f : Nat} (hf : f < dF y) : sX4_cellOfFind g t (nI f) = some (g (t + 15) (8 + f)) := by
  have hL := o.2.1
  unfold sX4_cellOfFind
  rw [if_pos (c_isFind_ok o G hf), nI_add, if_pos (inb_nI (by omega) (by decide)), nI_clamp (by omega)]
theorem c_holder (o : GO y) (G : GC y g) {f : Nat} (hf : f < dF y) : sX4_holder g t (nI f) = some (g (t + 15) (13 + f)) := by
  have hL := o.2.1
  unfold sX4_holder
  rw [if_pos (c_isFind_ok o G hf), nI_add, if_pos (inb_nI (by omega) (by decide)), nI_clamp (by omega)]
theorem c_now : sX4_now g t = g (t + 15) 23 := by unfold sX4_now; rw [nI_clamp (by decide)]
theorem c_drown (o : GO y) (G : GC y g) {l d : Nat} (hl : l < dL y) (hd : d < 16) (h : g (t + 15) 24 = nI d) : sX4_isDrowned g t (nI l) = d.testBit l := by
  have hL := o.2.2.1
  unfold sX4_isDrowned
  rw [if_pos (c_isLark_ok o G hl), nI_clamp (by decide), h, has_nI (by omega) (by omega)]
  cases d.testBit l <;> rfl
theorem c_walked (o : GO y) (G : GC y g) {l d : Nat} (hl : l < dL y) (hd : d < 16) (h : g (t + 15) 25 = nI d) : sX4_hasWalked g t (nI l) = d.testBit l := by
  have hL := o.2.2.1
  unfold sX4_hasWalked
  rw [if_pos (c_isLark_ok o G hl), nI_clamp (by decide), h, has_nI (by omega) (by omega)]
  cases d.testBit l <;> rfl
theorem c_state (o : GO y) (G : GC y g) (R : RR y B (g (t + 15)) n) {f : Nat} (hf : f < dF y) : sX4_stateOfFind g t (nI f) = some (n (13 + f)) := by
  have hF := o.2.1
  obtain ⟨sb, hs, h26, hR⟩ := R.2.2.2.2.2
  unfold sX4_stateOfFind
  rw [c_cellOfFind o G hf, Option.bind_some, nI_clamp (by decide), h26, has_nI (by omega) (by omega)]
  rcases hR f hf with ⟨a1, ⟨c, b1, b2, -⟩, -, -⟩ | ⟨a1, a2, -, -, a5⟩ | ⟨a1, a2, -, a4⟩
  · rw [b2, if_neg (m9_nI (by omega)), a1]
  · rw [a2, if_pos rfl, a5, if_neg Bool.false_ne_true, a1]
  · rw [a2, if_pos rfl, a4, if_pos rfl, a1]
theorem li_class (R : RR y B (g (t + 15)) n) {c f : Nat} (hc : c < 2 ^ 31) (hf : f < dF y) : decide (g (t + 15) (8 + f) = nI c) = li n c f := by
  obtain ⟨sb, hs, h26, hR⟩ := R.2.2.2.2.2
  rcases hR f hf with ⟨a1, ⟨c', b1, b2, b3⟩, -, -⟩ | ⟨a1, a2, -, -, a5⟩ | ⟨a1, a2, -, a4⟩
  · simp [li, a1, b2, b3]
  · have e : ¬ n (13 + f) = nI 0 := by rw [a1]; decide
    simp [li, a2, e, nI_m9 hc]
  · have e : ¬ n (13 + f) = nI 0 := by rw [a1]; decide
    simp [li, a2, e, nI_m9 hc]
theorem c_lying (o : GO y) (G : GC y g) (R : RR y B (g (t + 15)) n) {c : Nat} (hc : c < 2 ^ 31) : sX4_findsLyingAt g t (nI c) = some (nI (bt (li n c) (dF y))) := by
  have hF := o.2.1
  unfold sX4_findsLyingAt
  refine seqloop (fun m a i => sX4_findsLyingAt_4 g t (nI c) m a i) (fun i => nI (bt (li n c) i)) (dF y) _ (fun m => ?_) (fun m i hi => ?_) 100 (by omega)
  · show sX4_findsLyingAt_4 _ _ _ _ _ _ = _
    rw [sX4_findsLyingAt_4, if_pos (by rw [sX1_findCount, G.2.1, nI_leI (by omega) (by omega)]; exact Nat.le_refl _)]
  · show sX4_findsLyingAt_4 _ _ _ _ _ _ = sX4_findsLyingAt_4 _ _ _ _ _ _
    have hq := li_class R hc hi
    rw [sX4_findsLyingAt_4, if_neg (by rw [sX1_findCount, G.2.1, nI_leI (by omega) (by omega)]; omega), c_cellOfFind o G hi, Option.bind_some, nI_add]
    cases hp : li n c i with
    | true => rw [hp] at hq; rw [if_pos (of_decide_eq_true hq), or_bit (p := li n c) (by omega) hp]
    | false => rw [hp] at hq; rw [if_neg (of_decide_eq_false hq), bt_skip (p := li n c) hp]
theorem m_lying (o : GO y) (G : GM y g2) {v : Nat} (hv : v < 2) (c : Nat) : sX9_lieAt g2 (nI v) (nI c) = some (nI (bt (li (nr g2 v) c) (dF y))) := by
  have hF := o.2.1
  unfold sX9_lieAt
  refine seqloop (fun m a i => sX9_lieAt_5 g2 (nI v) (nI c) m a i) (fun i => nI (bt (li (nr g2 v) c) i)) (dF y) _ (fun m => ?_) (fun m i hi => ?_) 100 (by omega)
  · show sX9_lieAt_5 _ _ _ _ _ _ = _
    rw [sX9_lieAt_5, if_pos (by rw [G.2.1, nI_leI (by omega) (by omega)]; exact Nat.le_refl _)]
  · show sX9_lieAt_5 _ _ _ _ _ _ = sX9_lieAt_5 _ _ _ _ _ _
    rw [sX9_lieAt_5, if_neg (by rw [G.2.1, nI_leI (by omega) (by omega)]; omega), pk_mul, nI_add, nI_add, nI_add, nI_add, nI_add, if_pos (inb_nI (by omega) (by decide)), nI_clamp (by omega), if_pos (inb_nI (by omega) (by decide)), nI_clamp (by omega)]
    have e1 : g2 35 (31 * v + 13 + i) = nr g2 v (13 + i) := by unfold nr; rw [Nat.add_assoc]
    have e2 : g2 35 (31 * v + 8 + i) = nr g2 v (8 + i) := by unfold nr; rw [Nat.add_assoc]
    rw [e1, e2, show (0 : Int32) = nI 0 from rfl]
    cases hp : li (nr g2 v) c i with
    | true =>
      have h := li_yes.mp hp
      rw [if_pos h.1, if_pos h.2, or_bitM (p := li (nr g2 v) c) (by omega) hp]
    | false =>
      rw [or_0M (p := li (nr g2 v) c) hp]
      by_cases h1 : nr g2 v (13 + i) = nI 0
      · rw [if_pos h1, if_neg (fun h2 => by rw [li_yes.mpr ⟨h1, h2⟩] at hp; cases hp)]
      · rw [if_neg h1]
theorem c_findsThat (o : GO y) (G : GC y g) (R : RR y B (g (t + 15)) n) (s : Int32) : sX4_findsThat g t s = some (nI (bt (fun f => decide (n (13 + f) = s)) (dF y))) := by
  have hF := o.2.1
  unfold sX4_findsThat
  refine seqloop (fun m a i => sX4_findsThat_4 g t s m a i) (fun i => nI (bt (fun f => decide (n (13 + f) = s)) i)) (dF y) _ (fun m => ?_) (fun m i hi => ?_) 100 (by omega)
  · show sX4_findsThat_4 _ _ _ _ _ _ = _
    rw [sX4_findsThat_4, if_pos (by rw [sX1_findCount, G.2.1, nI_leI (by omega) (by omega)]; exact Nat.le_refl _)]
  · show sX4_findsThat_4 _ _ _ _ _ _ = sX4_findsThat_4 _ _ _ _ _ _
    rw [sX4_findsThat_4, if_neg (by rw [sX1_findCount, G.2.1, nI_leI (by omega) (by omega)]; omega), c_state o G R hi, Option.bind_some, nI_add]
    by_cases hp : n (13 + i) = s
    · rw [if_pos hp, or_bit (p := fun f => decide (n (13 + f) = s)) (by omega) (decide_eq_true hp)]
    · rw [if_neg hp, bt_skip (p := fun f => decide (n (13 + f) = s)) (decide_eq_false hp)]
theorem m_findsThat (o : GO y) (G : GM y g2) (s : Int32) : sX9_findsThat g2 s = some (nI (bt (fun f => decide (nr g2 0 (13 + f) = s)) (dF y))) := by
  have hF := o.2.1
  unfold sX9_findsThat
  refine seqloop (fun m a i => sX9_findsThat_4 g2 s m a i) (fun i => nI (bt (fun f => decide (nr g2 0 (13 + f) = s)) i)) (dF y) _ (fun m => ?_) (fun m i hi => ?_) 100 (by omega)
  · show sX9_findsThat_4 _ _ _ _ _ = _
    rw [sX9_findsThat_4, if_pos (by rw [G.2.1, nI_leI (by omega) (by omega)]; exact Nat.le_refl _)]
  · show sX9_findsThat_4 _ _ _ _ _ = sX9_findsThat_4 _ _ _ _ _
    rw [sX9_findsThat_4, if_neg (by rw [G.2.1, nI_leI (by omega) (by omega)]; omega), nI_add, nI_add, if_pos (inb_nI (by omega) (by decide)), nI_clamp (by omega)]
    have e1 : g2 35 (13 + i) = nr g2 0 (13 + i) := by unfold nr; rw [Nat.mul_zero, Nat.zero_add]
    rw [e1]
    by_cases hp : nr g2 0 (13 + i) = s
    · rw [if_pos hp, or_bitM (p := fun f => decide (nr g2 0 (13 + f) = s)) (by omega) (decide_eq_true hp)]
    · rw [if_neg hp, or_0M (p := fun f => decide (nr g2 0 (13 + f) = s)) (decide_eq_false hp)]
theorem c_larksAt (o : GO y) (G : GC y g) (R : RR y B (g (t + 15)) n) (c : Int32) : sX4_larksAt g t c = some (nI (bt (fun l => decide (n l = c)) (dL y))) := by
  have hL := o.2.2.1
  unfold sX4_larksAt
  refine seqloop (fun m a i => sX4_larksAt_4 g t c m a i) (fun i => nI (bt (fun l => decide (n l = c)) i)) (dL y) _ (fun m => ?_) (fun m i hi => ?_) 100 (by omega)
  · show sX4_larksAt_4 _ _ _ _ _ _ = _
    rw [sX4_larksAt_4, if_pos (by rw [sX1_larkCount, G.2.2.1, nI_leI (by omega) (by omega)]; exact Nat.le_refl _)]
  · show sX4_larksAt_4 _ _ _ _ _ _ = sX4_larksAt_4 _ _ _ _ _ _
    obtain ⟨c', -, e1, e2⟩ := (R.1 i hi).1
    rw [sX4_larksAt_4, if_neg (by rw [sX1_larkCount, G.2.2.1, nI_leI (by omega) (by omega)]; omega), c_cellOfLark o G hi, Option.bind_some, nI_add, e1, ← e2]
    by_cases hp : n i = c
    · rw [if_pos hp, or_bit (p := fun l => decide (n l = c)) (by omega) (decide_eq_true hp)]
    · rw [if_neg hp, bt_skip (p := fun l => decide (n l = c)) (decide_eq_false hp)]
theorem m_larksAt (o : GO y) (G : GM y g2) (c : Int32) : sX9_larksAt g2 c = some (nI (bt (fun l => decide (nr g2 0 l = c)) (dL y))) := by
  have hL := o.2.2.1
  unfold sX9_larksAt
  refine seqloop (fun m a i => sX9_larksAt_4 g2 c m a i) (fun i => nI (bt (fun l => decide (nr g2 0 l = c)) i)) (dL y) _ (fun m => ?_) (fun m i hi => ?_) 100 (by omega)
  · show sX9_larksAt_4 _ _ _ _ _ = _
    rw [sX9_larksAt_4, if_pos (by rw [G.2.2.1, nI_leI (by omega) (by omega)]; exact Nat.le_refl _)]
  · show sX9_larksAt_4 _ _ _ _ _ = sX9_larksAt_4 _ _ _ _ _
    rw [sX9_larksAt_4, if_neg (by rw [G.2.2.1, nI_leI (by omega) (by omega)]; omega), nI_add, if_pos (inb_nI (by omega) (by decide)), nI_clamp (by omega)]
    have e1 : g2 35 i = nr g2 0 i := by unfold nr; rw [Nat.mul_zero, Nat.zero_add]
    rw [e1]
    by_cases hp : nr g2 0 i = c
    · rw [if_pos hp, or_bitM (p := fun l => decide (nr g2 0 l = c)) (by omega) (decide_eq_true hp)]
    · rw [if_neg hp, or_0M (p := fun l => decide (nr g2 0 l = c)) (decide_eq_false hp)]
theorem c_coinsOfAll (o : GO y) (G : GC y g) (R : RR y B (g (t + 15)) n) : sX4_coinsOfAll g t = some (smI (fun l => n (4 + l)) (dL y)) := by
  have hL := o.2.2.1
  unfold sX4_coinsOfAll
  refine seqloop (fun m a i => sX4_coinsOfAll_4 g t m a i) (fun i => smI (fun l => n (4 + l)) i) (dL y) _ (fun m => ?_) (fun m i hi => ?_) 100 (by omega)
  · show sX4_coinsOfAll_4 _ _ _ _ _ = _
    rw [sX4_coinsOfAll_4, if_pos (by rw [sX1_larkCount, G.2.2.1, nI_leI (by omega) (by omega)]; exact Nat.le_refl _)]
  · show sX4_coinsOfAll_4 _ _ _ _ _ = sX4_coinsOfAll_4 _ _ _ _ _
    rw [sX4_coinsOfAll_4, if_neg (by rw [sX1_larkCount, G.2.2.1, nI_leI (by omega) (by omega)]; omega), c_coins o G hi, Option.bind_some, nI_add, (R.1 i hi).2]
    rfl
theorem m_coinsOfAll (o : GO y) (G : GM y g2) : sX9_coinsOfAll g2 = some (smI (fun l => nr g2 0 (4 + l)) (dL y)) := by
  have hL := o.2.2.1
  unfold sX9_coinsOfAll
  refine seqloop (fun m a i => sX9_coinsOfAll_4 g2 m a i) (fun i => smI (fun l => nr g2 0 (4 + l)) i) (dL y) _ (fun m => ?_) (fun m i hi => ?_) 100 (by omega)
  · show sX9_coinsOfAll_4 _ _ _ _ = _
    rw [sX9_coinsOfAll_4, if_pos (by rw [G.2.2.1, nI_leI (by omega) (by omega)]; exact Nat.le_refl _)]
  · show sX9_coinsOfAll_4 _ _ _ _ = sX9_coinsOfAll_4 _ _ _ _
    rw [sX9_coinsOfAll_4, if_neg (by rw [G.2.2.1, nI_leI (by omega) (by omega)]; omega), nI_add, nI_add, if_pos (inb_nI (by omega) (by decide)), nI_clamp (by omega)]
    have e1 : g2 35 (4 + i) = nr g2 0 (4 + i) := by unfold nr; rw [Nat.mul_zero, Nat.zero_add]
    rw [e1]
    rfl
end Read
