/-! ===== two who go out ===== -/
section Rest
variable {y : Gd} {B : Nat} {g g2 : Hg}
theorem eld_loop (o : GO y) (G : GC y g) (M : GM y g2) (hB : B < 2 ^ 20) (R : RR y B (g 19) (nr g2 1)) {c u : Nat} (hc : c < 12) (hu : u < 2 ^ 31) {H : Nat} (b3 : nr g2 1 30 = nI H) (hH : H ≤ B) (w1 : Int32) : ∀ (k i : Nat), i + k = dF y → ∀ v : Int32, ∃ x, (∀ m, k < m → sX2_greatestAge_14 g w1 (nI u) m v (nI i) = some x) ∧ (∀ m, k < m → sX9_eldestAt_12 g2 (nI c) (nI u) m v (nI i) = some (if bare y c H = true then x else nI 0)) := by
  have hF := o.2.1
  intro k
  induction k with
  | zero =>
    intro i hi v
    refine ⟨v, fun m hm => ?_, fun m hm => ?_⟩
    · obtain ⟨m, rfl⟩ : ∃ m', m = m' + 1 := ⟨m - 1, by omega⟩
      rw [sX2_greatestAge_14, sX1_findCount, G.2.1, if_pos (by rw [nI_leI (by omega) (by omega)]; omega)]
    · obtain ⟨m, rfl⟩ : ∃ m', m = m' + 1 := ⟨m - 1, by omega⟩
      have e61 : g2 35 61 = nI H := b3
      rw [sX9_eldestAt_12, M.2.1, if_pos (by rw [nI_leI (by omega) (by omega)]; omega), nI_clamp (by decide), e61, m_isBare o M hc (by omega), Option.bind_some]
      split <;> rfl
  | succ k ih =>
    intro i hi v
    cases hb : u.testBit i with
    | false =>
      obtain ⟨x, p1, p2⟩ := ih (i + 1) (by omega) v
      refine ⟨x, fun m hm => ?_, fun m hm => ?_⟩
      · obtain ⟨m, rfl⟩ : ∃ m', m = m' + 1 := ⟨m - 1, by omega⟩
        rw [sX2_greatestAge_14, sX1_findCount, G.2.1, if_neg (by rw [nI_leI (by omega) (by omega)]; omega), has_nI hu (by omega), hb, if_neg Bool.false_ne_true, nI_add]
        exact p1 m (by omega)
      · obtain ⟨m, rfl⟩ : ∃ m', m = m' + 1 := ⟨m - 1, by omega⟩
        rw [sX9_eldestAt_12, M.2.1, if_neg (by rw [nI_leI (by omega) (by omega)]; omega), m_has, has_nI hu (by omega), hb, if_neg Bool.false_ne_true, nI_add]
        exact p2 m (by omega)
    | true =>
      have hi' : i < dF y := by omega
      obtain ⟨x, p1, p2⟩ := ih (i + 1) (by omega) (if v < nI (dA y i) then nI (dA y i) else v)
      refine ⟨x, fun m hm => ?_, fun m hm => ?_⟩
      · obtain ⟨m, rfl⟩ : ∃ m', m = m' + 1 := ⟨m - 1, by omega⟩
        rw [sX2_greatestAge_14, sX1_findCount, G.2.1, if_neg (by rw [nI_leI (by omega) (by omega)]; omega), has_nI hu (by omega), hb, if_pos rfl, c_age o G hi', Option.bind_some, nI_add]
        exact p1 m (by omega)
      · obtain ⟨m, rfl⟩ : ∃ m', m = m' + 1 := ⟨m - 1, by omega⟩
        rw [sX9_eldestAt_12, M.2.1, if_neg (by rw [nI_leI (by omega) (by omega)]; omega), m_has, has_nI hu (by omega), hb, if_pos rfl, if_pos (inb_nI (by omega) (by decide)), if_pos (inb_nI (by omega) (by decide)), nI_clamp (by omega), (M.2.2.2.2.2.1 i hi').1, nI_add]
        by_cases hv : v < nI (dA y i)
        · rw [if_pos hv] at p2
          rw [if_neg (fa_of_lt hv).2.1]
          exact p2 m (by omega)
        · rw [if_neg hv] at p2
          rw [if_pos (fa_of_nlt hv)]
          exact p2 m (by omega)
theorem eld_same (o : GO y) (G : GC y g) (M : GM y g2) (hB : B < 2 ^ 20) (R : RR y B (g 19) (nr g2 1)) {c : Nat} (hc : c < 12) {H : Nat} (b3 : nr g2 1 30 = nI H) (hH : H ≤ B) : ∃ x, sX2_greatestAge g (nI c) = some x ∧ sX9_eldestAt g2 (nI c) = some (if bare y c H = true then x else nI 0) := by
  have hF := o.2.1
  obtain ⟨x, p1, p2⟩ := eld_loop o G M hB R hc (u := bt (li (nr g2 1) c) (dF y)) (bt31 hF) b3 hH (nI c) (dF y) 0 (by omega) (nI 0)
  refine ⟨x, ?_, ?_⟩
  · unfold sX2_greatestAge
    rw [c_lying (t := 4) o G R (by omega), Option.bind_some]
    exact p1 100 (by omega)
  · unfold sX9_eldestAt
    rw [m_lying (v := 1) o M (by decide) c, Option.bind_some]
    exact p2 100 (by omega)
theorem gain_val (o : GO y) (G : GC y g) (M : GM y g2) (hB : B < 2 ^ 20) (R : RR y B (g 19) (nr g2 1)) {l1 l2 : Nat} (h1 : l1 < dL y) (h2 : l2 < dL y) : ∃ x, sX2_gain g (nI l1) (nI l2) = some x ∧ ∀ w1 w2 w3 w4 w5, sX9_gain_j70 g2 w1 w2 w3 w4 w5 (nI l1) (nI l2) = some (x, g2) := by
  have hL := o.2.2.1
  obtain ⟨⟨c1, u1, u2, u3⟩, -⟩ := R.1 l1 h1
  obtain ⟨⟨c2, v1, v2, v3⟩, -⟩ := R.1 l2 h2
  obtain ⟨H, b1, b2, b3⟩ := R.2.2.1
  obtain ⟨d, d1, d2, d3⟩ := R.2.2.2.1
  obtain ⟨x, e1, e2⟩ := eld_same o G M hB R u1 b3 b1
  have e59 : g2 35 59 = nI d := d3
  have m1 : g2 35 (31 + l1) = nI c1 := u3
  have m2 : g2 35 (31 + l2) = nI c2 := v3
  have j1 : ∀ w1 w2 w3 w4 w5, sX9_gain_j132 g2 w1 w2 w3 w4 w5 (nI l1) (nI l2) (nI 1) = some (nI 3 + (if bare y c1 H = true then x else nI 0), g2) := fun w1 w2 w3 w4 w5 => by
    unfold sX9_gain_j132
    rw [if_neg (by decide), nI_add, if_pos (inb_nI (by omega) (by decide)), nI_clamp (by omega), m1, e2, Option.bind_some]
  have j0 : ∀ w1 w2 w3 w4 w5, sX9_gain_j132 g2 w1 w2 w3 w4 w5 (nI l1) (nI l2) (nI 0) = some (nI 3, g2) := fun w1 w2 w3 w4 w5 => by
    unfold sX9_gain_j132
    rw [if_pos nI_0, nI_add]
  have hbr : (if bare y c1 H = true then ((sX2_greatestAge g (nI c1)).bind fun x_3 => (some ((nI 3) + x_3))) else (some (nI 3))) = some (nI 3 + (if bare y c1 H = true then x else nI 0)) := by
    rw [e1, Option.bind_some]
    split
    · rfl
    · rw [nI_add]
  unfold sX2_gain
  rw [c_drown (t := 4) o G h1 d1 d2, c_drown (t := 4) o G h2 d1 d2, c_cellOfLark (t := 4) o G h1, c_cellOfLark (t := 4) o G h2, Option.bind_some, Option.bind_some, show g (4 + 15) l1 = nI c1 from u2, show g (4 + 15) l2 = nI c2 from v2, c_now, show g (4 + 15) 23 = nI H from b2, c_isBared o G u1 (by omega), Option.bind_some, hbr]
  have hj : ∀ w1 w2 w3 w4 w5, sX9_gain_j70 g2 w1 w2 w3 w4 w5 (nI l1) (nI l2) = if d.testBit l1 = true then some (nI 0, g2) else (if d.testBit l2 = true then some (nI 3 + (if bare y c1 H = true then x else nI 0), g2) else (if nI c1 = nI c2 then some (nI 3, g2) else some (nI 3 + (if bare y c1 H = true then x else nI 0), g2))) := fun w1 w2 w3 w4 w5 => by
    unfold sX9_gain_j70
    rw [nI_clamp (by decide), e59, m_has, m_has, has_nI (by omega) (by omega), has_nI (by omega) (by omega), j1, j0, nI_add, nI_add, if_pos (inb_nI (by omega) (by decide)), if_pos (inb_nI (by omega) (by decide)), nI_clamp (by omega), nI_clamp (by omega), m1, m2]
  cases hd1 : d.testBit l1 with
  | true => exact ⟨nI 0, by rw [if_pos rfl], fun w1 w2 w3 w4 w5 => by rw [hj, hd1, if_pos rfl]⟩
  | false =>
    cases hd2 : d.testBit l2 with
    | true => exact ⟨_, by rw [if_neg Bool.false_ne_true, if_pos rfl], fun w1 w2 w3 w4 w5 => by rw [hj, hd1, hd2, if_neg Bool.false_ne_true, if_pos rfl]⟩
    | false =>
      by_cases hc : nI c1 = nI c2
      · exact ⟨nI 3, by rw [if_neg Bool.false_ne_true, if_neg Bool.false_ne_true, if_pos hc.symm], fun w1 w2 w3 w4 w5 => by rw [hj, hd1, hd2, if_neg Bool.false_ne_true, if_neg Bool.false_ne_true, if_pos hc]⟩
      · exact ⟨_, by rw [if_neg Bool.false_ne_true, if_neg Bool.false_ne_true, if_neg (fun q => hc q.symm)], fun w1 w2 w3 w4 w5 => by rw [hj, hd1, hd2, if_neg Bool.false_ne_true, if_neg Bool.false_ne_true, if_neg hc]⟩
theorem copy_only {g1 : Hg} (h : sX4_copyFrom g = some g1) : ∀ c, c ≠ 19 → g1 c = g c := by
  unfold sX4_copyFrom at h
  rw [if_pos (by decide)] at h
  have e := Option.some.inj h
  intro c hc
  rw [← e, setA_ne _ _ hc]
theorem pl_same (R : R0 y B g g2) (hB : B + 1 < 2 ^ 20) (l1 l2 a b : Nat) : ∃ g1 b1 gg b2 g3 c4 g4 h4, sX4_copyFrom g = some g1 ∧ sX4_tryWalk g1 4 (nI l1) (nI a) = some (b1, gg) ∧ sX4_tryWalk gg 4 (nI l2) (nI b) = some (b2, g3) ∧ sX4_passHour g3 4 = some (c4, g4) ∧ Scr g g4 ∧ ScM g2 h4 ∧ RR y (B + 1) (g4 19) (nr h4 1) ∧ (∀ c, c ≠ 19 → g4 c = g c) ∧ (∀ u, sX9_gain g2 (nI l1) (nI l2) (nI a) (nI b) u = if u = 0 then sX9_gain_j70 h4 (nI l1) (nI l2) (nI a) (nI b) u (nI l2) (nI l1) else sX9_gain_j70 h4 (nI l1) (nI l2) (nI a) (nI b) u (nI l1) (nI l2)) := by
  obtain ⟨g1, h1, p1, p2, p3, p4, p5⟩ := lay_same R
  obtain ⟨o, G, M, RR0⟩ := R
  have G1 := GC_scr G p3
  have M1 := GM_scr M p4
  obtain ⟨b1, r1, n1, t1, t2, t3, t4, t5⟩ := tryWalk_same (t := 4) (v := 1) o G1 M1 (by decide) (by omega) p5 (nI l1) (nI a)
  have G2 := GC_row G1 (show 18 ≤ 19 by decide) r1
  have M2 := GM_row M1 1 n1
  have R2 := RR_tr o g1 h1 t5
  obtain ⟨b2, r2, n2, s1, s2, s3, s4, s5⟩ := tryWalk_same (t := 4) (v := 1) o G2 M2 (by decide) (by omega) R2 (nI l2) (nI b)
  have G3 := GC_row G2 (show 18 ≤ 19 by decide) r2
  have M3 := GM_row M2 1 n2
  have R3 := RR_tr o (setA g1 19 r1) (nw h1 1 n1) s5
  obtain ⟨c4, r3, n3, q1, q2, q3⟩ := hour_same (t := 4) (v := 1) o G3 M3 (by decide) (by decide) hB R3
  refine ⟨g1, b1, setA g1 19 r1, b2, setA (setA g1 19 r1) 19 r2, c4, setA (setA (setA g1 19 r1) 19 r2) 19 r3, nw (nw (nw h1 1 n1) 1 n2) 1 n3, p1, t1, s1, q1, Scr_trans p3 (Scr_trans (Scr_19 _ _) (Scr_trans (Scr_19 _ _) (Scr_19 _ _))), ScM_trans p4 (ScM_trans ScM_nw (ScM_trans ScM_nw ScM_nw)), RR_tr o _ _ q3, fun c hc => by rw [setA_ne _ _ hc, setA_ne _ _ hc, setA_ne _ _ hc, copy_only p1 c hc], fun u => ?_⟩
  have f3 : sX9_gain_j40 (nw (nw h1 1 n1) 1 n2) (nI l1) (nI l2) (nI a) (nI b) u = if u = 0 then sX9_gain_j70 (nw (nw (nw h1 1 n1) 1 n2) 1 n3) (nI l1) (nI l2) (nI a) (nI b) u (nI l2) (nI l1) else sX9_gain_j70 (nw (nw (nw h1 1 n1) 1 n2) 1 n3) (nI l1) (nI l2) (nI a) (nI b) u (nI l1) (nI l2) := by
    unfold sX9_gain_j40
    rw [q2, Option.bind_some]
    by_cases hu : u = 0
    · rw [if_pos hu, if_pos hu, if_pos hu]
    · rw [if_neg hu, if_neg hu, if_neg hu]
  have f2 : sX9_gain_j21 (nw h1 1 n1) (nI l1) (nI l2) (nI a) (nI b) u = sX9_gain_j40 (nw (nw h1 1 n1) 1 n2) (nI l1) (nI l2) (nI a) (nI b) u := by
    unfold sX9_gain_j21
    rw [s2, Option.bind_some]
    cases b2 with
    | true => rw [if_pos rfl, s3 rfl, Option.bind_some]
    | false => rw [if_neg Bool.false_ne_true, s4 rfl, nw_id]
  unfold sX9_gain
  rw [p2, Option.bind_some, t2, Option.bind_some]
  rw [← f3, ← f2]
  cases b1 with
  | true => rw [if_pos rfl, t3 rfl, Option.bind_some]
  | false => rw [if_neg Bool.false_ne_true, t4 rfl, nw_id]
/-- what the reference says one, or the other, has -/
def gv (g2 : Hg) (l1 l2 a b : Nat) (u : Int32) : Int32 := ((sX9_gain g2 (nI l1) (nI l2) (nI a) (nI b) u).map Prod.fst).getD 0
theorem play_one (R : R0 y B g g2) (hB : B + 1 < 2 ^ 20) {l1 l2 a b : Nat} (h1 : l1 < dL y) (h2 : l2 < dL y) : ∃ g1 b1 gg b2 g3 c4 g4, sX4_copyFrom g = some g1 ∧ sX4_tryWalk g1 4 (nI l1) (nI a) = some (b1, gg) ∧ sX4_tryWalk gg 4 (nI l2) (nI b) = some (b2, g3) ∧ sX4_passHour g3 4 = some (c4, g4) ∧ Scr g g4 ∧ (∀ c, c ≠ 19 → g4 c = g c) ∧ sX2_gain g4 (nI l1) (nI l2) = some (gv g2 l1 l2 a b (nI 1)) ∧ (∀ r, sX2_gain (setA g4 27 r) (nI l2) (nI l1) = some (gv g2 l1 l2 a b (nI 0))) ∧ (∃ h', sX9_gain g2 (nI l1) (nI l2) (nI a) (nI b) (nI 1) = some (gv g2 l1 l2 a b (nI 1), h') ∧ ScM g2 h') ∧ (∃ h', sX9_gain g2 (nI l1) (nI l2) (nI a) (nI b) (nI 0) = some (gv g2 l1 l2 a b (nI 0), h') ∧ ScM g2 h') := by
  obtain ⟨g1, b1, gg, b2, g3, c4, g4, h4, q1, q2, q3, q4, q5, q6, q7, q9, q8⟩ := pl_same R hB l1 l2 a b
  obtain ⟨o, G, M, RR0⟩ := R
  have G4 := GC_scr G q5
  have M4 := GM_scr M q6
  obtain ⟨x1, x2, x3⟩ := gain_val o G4 M4 hB q7 h1 h2
  have e1 : sX9_gain g2 (nI l1) (nI l2) (nI a) (nI b) (nI 1) = some (x1, h4) := by rw [q8, if_neg (by decide), x3]
  have v1 : gv g2 l1 l2 a b (nI 1) = x1 := by unfold gv; rw [e1]; rfl
  have hr : ∀ r, ∃ x, sX2_gain (setA g4 27 r) (nI l2) (nI l1) = some x ∧ sX9_gain g2 (nI l1) (nI l2) (nI a) (nI b) (nI 0) = some (x, h4) := fun r => by
    obtain ⟨z1, z2, z3⟩ := gain_val (g := setA g4 27 r) o (GC_row G4 (by decide) r) M4 hB (by rw [setA_ne _ _ (by decide)]; exact q7) h2 h1
    exact ⟨z1, z2, by rw [q8, if_pos nI_0, z3]⟩
  have v0 : ∀ r, sX2_gain (setA g4 27 r) (nI l2) (nI l1) = some (gv g2 l1 l2 a b (nI 0)) := fun r => by
    obtain ⟨x, z1, z2⟩ := hr r
    rw [z1]; unfold gv; rw [z2]; rfl
  refine ⟨g1, b1, gg, b2, g3, c4, g4, q1, q2, q3, q4, q5, q9, by rw [v1]; exact x2, v0, ⟨h4, by rw [v1]; exact e1, q6⟩, ?_⟩
  obtain ⟨x, z1, z2⟩ := hr (g4 27)
  exact ⟨h4, by rw [z2]; unfold gv; rw [z2]; rfl, q6⟩
theorem gain_ref (R : R0 y B g g2) (hB : B + 1 < 2 ^ 20) {l1 l2 a b : Nat} (h1 : l1 < dL y) (h2 : l2 < dL y) {h : Hg} (s : ScM g2 h) : (∃ h', sX9_gain h (nI l1) (nI l2) (nI a) (nI b) (nI 1) = some (gv g2 l1 l2 a b (nI 1), h') ∧ ScM g2 h') ∧ (∃ h', sX9_gain h (nI l1) (nI l2) (nI a) (nI b) (nI 0) = some (gv g2 l1 l2 a b (nI 0), h') ∧ ScM g2 h') := by
  obtain ⟨g1, b1, gg, b2, g3, c4, g4, p1, p2, p3, p4, -, -, p6, p7, -, -⟩ := play_one (a := a) (b := b) R hB h1 h2
  obtain ⟨g1', b1', gg', b2', g3', c4', g4', q1, q2, q3, q4, -, -, q6, q7, ⟨u1, u2, u3⟩, ⟨v1, v2, v3⟩⟩ := play_one (a := a) (b := b) (R0_scr R (Scr_refl _) s) hB h1 h2
  have e1 : g1' = g1 := Option.some.inj (q1.symm.trans p1)
  subst e1
  have e2 : (b1', gg') = (b1, gg) := Option.some.inj (q2.symm.trans p2)
  have e2' : gg' = gg := congrArg Prod.snd e2
  subst e2'
  have e3 : g3' = g3 := congrArg Prod.snd (Option.some.inj (q3.symm.trans p3))
  subst e3
  have e4 : g4' = g4 := congrArg Prod.snd (Option.some.inj (q4.symm.trans p4))
  subst e4
  have f1 : gv h l1 l2 a b (nI 1) = gv g2 l1 l2 a b (nI 1) := Option.some.inj (q6.symm.trans p6)
  have f0 : gv h l1 l2 a b (nI 0) = gv g2 l1 l2 a b (nI 0) := Option.some.inj ((q7 (g4' 27)).symm.trans (p7 (g4' 27)))
  rw [f1] at u2
  rw [f0] at v2
  exact ⟨⟨u1, u2, ScM_trans s u3⟩, ⟨v1, v2, ScM_trans s v3⟩⟩
theorem play_loop (R : R0 y B g g2) (hB : B + 1 < 2 ^ 20) {l1 l2 : Nat} (h1 : l1 < dL y) (h2 : l2 < dL y) : ∀ (k i : Nat), i + k = 25 → ∀ g', Scr g g' → (∀ p, p < i → g' 27 p = gv g2 l1 l2 (p / 5) (p % 5) (nI 1) ∧ g' 28 p = gv g2 l1 l2 (p / 5) (p % 5) (nI 0)) → ∃ g'', (∀ m, k < m → sX2_playAll_2 (nI l1) (nI l2) m g' (nI i) = some g'') ∧ Scr g g'' ∧ (∀ p, p < 25 → g'' 27 p = gv g2 l1 l2 (p / 5) (p % 5) (nI 1) ∧ g'' 28 p = gv g2 l1 l2 (p / 5) (p % 5) (nI 0)) := by
  intro k
  induction k with
  | zero =>
    intro i hi g' s hp
    have e : i = 25 := by omega
    subst e
    refine ⟨g', fun m hm => ?_, s, hp⟩
    obtain ⟨m, rfl⟩ : ∃ m', m = m' + 1 := ⟨m - 1, by omega⟩
    rw [sX2_playAll_2, if_pos (by decide)]
  | succ k ih =>
    intro i hi g' s hp
    obtain ⟨g1, b1, gg, b2, g3, c4, g4, q1, q2, q3, q4, q5, q9, q6, q7, -, -⟩ := play_one (a := i / 5) (b := i % 5) (R0_scr R s (ScM_refl _)) hB h1 h2
    have s4 : Scr g g4 := Scr_trans s q5
    have c27 : ∀ x z, stA (stA g4 27 i x) 28 i z 27 = upd (g4 27) i x := fun x z => by rw [stA_ne _ _ _ _ (by decide), stA_self]
    have c28 : ∀ x z, stA (stA g4 27 i x) 28 i z 28 = upd (g4 28) i z := fun x z => by rw [stA_self, stA_ne _ _ _ _ (by decide)]
    obtain ⟨g'', r1, r2, r3⟩ := ih (i + 1) (by omega) (stA (stA g4 27 i (gv g2 l1 l2 (i / 5) (i % 5) (nI 1))) 28 i (gv g2 l1 l2 (i / 5) (i % 5) (nI 0))) (Scr_trans s4 (Scr_trans (Scr_set (by decide)) (Scr_set (by decide)))) (fun p hpi => by
      rw [c27, c28]
      by_cases e : p = i
      · subst e
        exact ⟨pk_us, pk_us⟩
      · rw [pk_un e, pk_un e, q9 27 (by decide), q9 28 (by decide)]
        exact hp p (by omega))
    refine ⟨g'', fun m hm => ?_, r2, r3⟩
    obtain ⟨m, rfl⟩ : ∃ m', m = m' + 1 := ⟨m - 1, by omega⟩
    rw [sX2_playAll_2, if_neg (by rw [nI_leI (by omega) (by omega)]; omega), q1, Option.bind_some, pk_rem (by omega) (by decide) (by decide), pk_div (by omega) (by decide) (by decide), q2, Option.bind_some, q3, Option.bind_some, q4, Option.bind_some, q6, Option.bind_some, if_pos (inb_nI (by omega) (by decide)), nI_clamp (by omega), q7, Option.bind_some, if_pos (inb_nI (by omega) (by decide)), nI_add]
    exact r1 m (by omega)
theorem rest_zero (v1 v2 v3 v4 : Int32) : ∀ (k i : Nat), i + k = 5 → ∀ h m, k < m → sX9_isRest_6 v1 v2 v3 v4 m h (nI 0) (nI i) = some (false, h) := by
  intro k
  induction k with
  | zero =>
    intro i hi h m hm
    obtain ⟨m, rfl⟩ : ∃ m', m = m' + 1 := ⟨m - 1, by omega⟩
    have e : i = 5 := by omega
    subst e
    rw [sX9_isRest_6, if_pos (by decide), if_pos (by decide)]
    rfl
  | succ k ih =>
    intro i hi h m hm
    obtain ⟨m, rfl⟩ : ∃ m', m = m' + 1 := ⟨m - 1, by omega⟩
    rw [sX9_isRest_6, if_neg (by rw [nI_leI (by omega) (by omega)]; omega), if_pos nI_0, nI_add]
    exact ih (i + 1) (by omega) h m (by omega)
theorem rest_loop (R : R0 y B g g2) (hB : B + 1 < 2 ^ 20) {l1 l2 : Nat} (h1 : l1 < dL y) (h2 : l2 < dL y) {g' : Hg} (hg : ∀ p, p < 25 → g' 27 p = gv g2 l1 l2 (p / 5) (p % 5) (nI 1) ∧ g' 28 p = gv g2 l1 l2 (p / 5) (p % 5) (nI 0)) {p : Nat} (hp : p < 25) : ∀ (k i : Nat), i + k = 5 → ∀ h, ScM g2 h → ∃ x h', (∀ m, k < m → sX2_isRest_23 g' (nI p) (nI (p / 5)) (nI (p % 5)) m (nI i) = some x) ∧ (∀ m, k < m → sX9_isRest_6 (nI l1) (nI l2) (nI (p / 5)) (nI (p % 5)) m h (nI 1) (nI i) = some (x, h')) ∧ ScM g2 h' := by
  intro k
  induction k with
  | zero =>
    intro i hi h s
    have e : i = 5 := by omega
    subst e
    refine ⟨true, h, fun m hm => ?_, fun m hm => ?_, s⟩
    · obtain ⟨m, rfl⟩ : ∃ m', m = m' + 1 := ⟨m - 1, by omega⟩
      rw [sX2_isRest_23, if_pos (by decide)]
    · obtain ⟨m, rfl⟩ : ∃ m', m = m' + 1 := ⟨m - 1, by omega⟩
      rw [sX9_isRest_6, if_pos (by decide), if_pos (by decide)]
      rfl
  | succ k ih =>
    intro i hi h s
    have a1 : (i * 5 + p % 5) / 5 = i := by omega
    have a2 : (i * 5 + p % 5) % 5 = p % 5 := by omega
    have a3 : (p / 5 * 5 + i) / 5 = p / 5 := by omega
    have a4 : (p / 5 * 5 + i) % 5 = i := by omega
    have z1 := (hg p hp).1
    have z2 := (hg p hp).2
    have z3 := (hg (i * 5 + p % 5) (by omega)).1
    have z4 := (hg (p / 5 * 5 + i) (by omega)).2
    rw [a1, a2] at z3
    rw [a3, a4] at z4
    have cs : ∀ m, sX2_isRest_23 g' (nI p) (nI (p / 5)) (nI (p % 5)) (m + 1) (nI i) = if gv g2 l1 l2 (p / 5) (p % 5) (nI 1) < gv g2 l1 l2 i (p % 5) (nI 1) then some false else (if gv g2 l1 l2 (p / 5) i (nI 0) ≤ gv g2 l1 l2 (p / 5) (p % 5) (nI 0) then sX2_isRest_23 g' (nI p) (nI (p / 5)) (nI (p % 5)) m (nI (i + 1)) else some false) := fun m => by
      rw [sX2_isRest_23, if_neg (by rw [nI_leI (by omega) (by omega)]; omega), pk_mul, pk_mul, nI_add, nI_add, if_pos (inb_nI (by omega) (by decide)), if_pos (inb_nI (by omega) (by decide)), if_pos (inb_nI (by omega) (by decide)), if_pos (inb_nI (by omega) (by decide)), nI_clamp (by omega), nI_clamp (by omega), nI_clamp (by omega), z1, z2, z3, z4, nI_add]
    obtain ⟨⟨k1, e1, s1⟩, -⟩ := gain_ref (a := i) (b := p % 5) R hB h1 h2 s
    obtain ⟨⟨k2, e2, s2⟩, -⟩ := gain_ref (a := p / 5) (b := p % 5) R hB h1 h2 s1
    obtain ⟨-, ⟨k3, e3, s3⟩⟩ := gain_ref (a := p / 5) (b := i) R hB h1 h2 s2
    obtain ⟨-, ⟨k4, e4, s4⟩⟩ := gain_ref (a := p / 5) (b := p % 5) R hB h1 h2 s3
    by_cases q1 : gv g2 l1 l2 (p / 5) (p % 5) (nI 1) < gv g2 l1 l2 i (p % 5) (nI 1)
    · refine ⟨false, k2, fun m hm => ?_, fun m hm => ?_, s2⟩
      · obtain ⟨m, rfl⟩ : ∃ m', m = m' + 1 := ⟨m - 1, by omega⟩
        rw [cs, if_pos q1]
      · obtain ⟨m, rfl⟩ : ∃ m', m = m' + 1 := ⟨m - 1, by omega⟩
        rw [sX9_isRest_6, if_neg (by rw [nI_leI (by omega) (by omega)]; omega), if_neg (by decide), e1, Option.bind_some, e2, Option.bind_some, if_pos q1, nI_add]
        exact rest_zero _ _ _ _ k (i + 1) (by omega) k2 m (by omega)
    · by_cases q2 : gv g2 l1 l2 (p / 5) i (nI 0) ≤ gv g2 l1 l2 (p / 5) (p % 5) (nI 0)
      · obtain ⟨x, h', r1, r2, r3⟩ := ih (i + 1) (by omega) k4 s4
        refine ⟨x, h', fun m hm => ?_, fun m hm => ?_, r3⟩
        · obtain ⟨m, rfl⟩ : ∃ m', m = m' + 1 := ⟨m - 1, by omega⟩
          rw [cs, if_neg q1, if_pos q2]
          exact r1 m (by omega)
        · obtain ⟨m, rfl⟩ : ∃ m', m = m' + 1 := ⟨m - 1, by omega⟩
          rw [sX9_isRest_6, if_neg (by rw [nI_leI (by omega) (by omega)]; omega), if_neg (by decide), e1, Option.bind_some, e2, Option.bind_some, if_neg q1, e3, Option.bind_some, e4, Option.bind_some, if_neg (fun q => (fa_of_lt q).2.1 q2), nI_add]
          exact r2 m (by omega)
      · refine ⟨false, k4, fun m hm => ?_, fun m hm => ?_, s4⟩
        · obtain ⟨m, rfl⟩ : ∃ m', m = m' + 1 := ⟨m - 1, by omega⟩
          rw [cs, if_neg q1, if_neg q2]
        · obtain ⟨m, rfl⟩ : ∃ m', m = m' + 1 := ⟨m - 1, by omega⟩
          rw [sX9_isRest_6, if_neg (by rw [nI_leI (by omega) (by omega)]; omega), if_neg (by decide), e1, Option.bind_some, e2, Option.bind_some, if_neg q1, e3, Option.bind_some, e4, Option.bind_some, if_pos (fa_of_nle q2), nI_add]
          exact rest_zero _ _ _ _ k (i + 1) (by omega) k4 m (by omega)
theorem rest_same (R : R0 y B g g2) (hB : B + 1 < 2 ^ 20) {l1 l2 : Nat} (h1 : l1 < dL y) (h2 : l2 < dL y) {g' : Hg} (hg : ∀ p, p < 25 → g' 27 p = gv g2 l1 l2 (p / 5) (p % 5) (nI 1) ∧ g' 28 p = gv g2 l1 l2 (p / 5) (p % 5) (nI 0)) {p : Nat} (hp : p < 25) {h : Hg} (s : ScM g2 h) : ∃ x h', sX2_isRest g' (nI p) = some x ∧ sX9_isRest h (nI l1) (nI l2) (nI p / nI 5) (nI p - nI p / nI 5 * nI 5) = some (x, h') ∧ ScM g2 h' := by
  obtain ⟨x, h', r1, r2, r3⟩ := rest_loop R hB h1 h2 hg hp 5 0 rfl h s
  refine ⟨x, h', ?_, ?_, r3⟩
  · have hw : sX8_within (nI p) (nI 0) (nI 24) = true := (c_within _ (by decide) (by decide)).trans (wi_nI (by omega) (by omega) (by omega))
    unfold sX2_isRest
    rw [if_pos hw, pk_rem (by omega) (by decide) (by decide), pk_div (by omega) (by decide) (by decide)]
    exact r1 100 (by decide)
  · unfold sX9_isRest
    rw [pk_rem (by omega) (by decide) (by decide), pk_div (by omega) (by decide) (by decide)]
    exact r2 100 (by decide)
theorem rests_A (R : R0 y B g g2) (hB : B + 1 < 2 ^ 20) {l1 l2 : Nat} (h1 : l1 < dL y) (h2 : l2 < dL y) {g' : Hg} (hg : ∀ p, p < 25 → g' 27 p = gv g2 l1 l2 (p / 5) (p % 5) (nI 1) ∧ g' 28 p = gv g2 l1 l2 (p / 5) (p % 5) (nI 0)) : ∀ (k i : Nat), i + k = 25 → ∀ (c v5 : Int32) h, ScM g2 h → ∃ x h', (∀ m, k < m → sX2_restCount_4 g' m c (nI i) = some x) ∧ (∀ m, k < m → sX9_rests_77 (nI l1) (nI l2) (nI 0) m h c v5 (nI i) = some (x, h')) ∧ ScM g2 h' := by
  intro k
  induction k with
  | zero =>
    intro i hi c v5 h s
    have e : i = 25 := by omega
    subst e
    refine ⟨c, h, fun m hm => ?_, fun m hm => ?_, s⟩
    · obtain ⟨m, rfl⟩ : ∃ m', m = m' + 1 := ⟨m - 1, by omega⟩
      rw [sX2_restCount_4, if_pos (by decide)]
    · obtain ⟨m, rfl⟩ : ∃ m', m = m' + 1 := ⟨m - 1, by omega⟩
      rw [sX9_rests_77, if_pos (by decide), if_pos nI_0]
  | succ k ih =>
    intro i hi c v5 h s
    obtain ⟨x, h', q1, q2, q3⟩ := rest_same R hB h1 h2 hg (show i < 25 by omega) s
    cases x with
    | false =>
      obtain ⟨x, h'', r1, r2, r3⟩ := ih (i + 1) (by omega) c v5 h' q3
      refine ⟨x, h'', fun m hm => ?_, fun m hm => ?_, r3⟩
      · obtain ⟨m, rfl⟩ : ∃ m', m = m' + 1 := ⟨m - 1, by omega⟩
        rw [sX2_restCount_4, if_neg (by rw [nI_leI (by omega) (by omega)]; omega), q1, Option.bind_some, if_neg Bool.false_ne_true, nI_add]
        exact r1 m (by omega)
      · obtain ⟨m, rfl⟩ : ∃ m', m = m' + 1 := ⟨m - 1, by omega⟩
        rw [sX9_rests_77, if_neg (by rw [nI_leI (by omega) (by omega)]; omega), q2, Option.bind_some, if_neg Bool.false_ne_true, nI_add]
        exact r2 m (by omega)
    | true =>
      obtain ⟨x, h'', r1, r2, r3⟩ := ih (i + 1) (by omega) (c + nI 1) (if c = 0 then ((nI 10) * (nI i / (nI 5))) + (nI i - nI i / (nI 5) * (nI 5)) else v5) h' q3
      refine ⟨x, h'', fun m hm => ?_, fun m hm => ?_, r3⟩
      · obtain ⟨m, rfl⟩ : ∃ m', m = m' + 1 := ⟨m - 1, by omega⟩
        rw [sX2_restCount_4, if_neg (by rw [nI_leI (by omega) (by omega)]; omega), q1, Option.bind_some, if_pos rfl, nI_add]
        exact r1 m (by omega)
      · obtain ⟨m, rfl⟩ : ∃ m', m = m' + 1 := ⟨m - 1, by omega⟩
        rw [sX9_rests_77, if_neg (by rw [nI_leI (by omega) (by omega)]; omega), q2, Option.bind_some, if_pos rfl, nI_add i 1]
        have := r2 m (by omega)
        by_cases hc : c = 0
        · rw [if_pos hc] at this ⊢; exact this
        · rw [if_neg hc] at this ⊢; exact this
theorem rests_B1 (R : R0 y B g g2) (hB : B + 1 < 2 ^ 20) {l1 l2 : Nat} (h1 : l1 < dL y) (h2 : l2 < dL y) {g' : Hg} (hg : ∀ p, p < 25 → g' 27 p = gv g2 l1 l2 (p / 5) (p % 5) (nI 1) ∧ g' 28 p = gv g2 l1 l2 (p / 5) (p % 5) (nI 0)) (v5 : Int32) : ∀ (k i : Nat), i + k = 25 → ∀ (c : Nat) h, 1 ≤ c → c ≤ i → ScM g2 h → ∃ h', (∀ m, k < m → sX9_rests_77 (nI l1) (nI l2) (nI 1) m h (nI c) v5 (nI i) = some (v5, h')) ∧ ScM g2 h' := by
  intro k
  induction k with
  | zero =>
    intro i hi c h hc1 hc2 s
    have e : i = 25 := by omega
    subst e
    refine ⟨h, fun m hm => ?_, s⟩
    obtain ⟨m, rfl⟩ : ∃ m', m = m' + 1 := ⟨m - 1, by omega⟩
    rw [sX9_rests_77, if_pos (by decide), if_neg (by decide)]
  | succ k ih =>
    intro i hi c h hc1 hc2 s
    obtain ⟨x, h', q1, q2, q3⟩ := rest_same R hB h1 h2 hg (show i < 25 by omega) s
    cases x with
    | false =>
      obtain ⟨h'', r2, r3⟩ := ih (i + 1) (by omega) c h' hc1 (by omega) q3
      refine ⟨h'', fun m hm => ?_, r3⟩
      obtain ⟨m, rfl⟩ : ∃ m', m = m' + 1 := ⟨m - 1, by omega⟩
      rw [sX9_rests_77, if_neg (by rw [nI_leI (by omega) (by omega)]; omega), q2, Option.bind_some, if_neg Bool.false_ne_true, nI_add]
      exact r2 m (by omega)
    | true =>
      obtain ⟨h'', r2, r3⟩ := ih (i + 1) (by omega) (c + 1) h' (by omega) (by omega) q3
      refine ⟨h'', fun m hm => ?_, r3⟩
      obtain ⟨m, rfl⟩ : ∃ m', m = m' + 1 := ⟨m - 1, by omega⟩
      rw [sX9_rests_77, if_neg (by rw [nI_leI (by omega) (by omega)]; omega), q2, Option.bind_some, if_pos rfl, if_neg (nI_ne0 (by omega) (by omega)), nI_add, nI_add]
      exact r2 m (by omega)
theorem rests_B (R : R0 y B g g2) (hB : B + 1 < 2 ^ 20) {l1 l2 : Nat} (h1 : l1 < dL y) (h2 : l2 < dL y) {g' : Hg} (hg : ∀ p, p < 25 → g' 27 p = gv g2 l1 l2 (p / 5) (p % 5) (nI 1) ∧ g' 28 p = gv g2 l1 l2 (p / 5) (p % 5) (nI 0)) : ∀ (k i : Nat), i + k = 25 → ∀ h, ScM g2 h → ∃ x h', (∀ m, k < m → sX2_firstRest_2 g' m (nI i) = some x) ∧ (∀ m, k < m → sX9_rests_77 (nI l1) (nI l2) (nI 1) m h (nI 0) (-9) (nI i) = some (x, h')) ∧ ScM g2 h' := by
  intro k
  induction k with
  | zero =>
    intro i hi h s
    have e : i = 25 := by omega
    subst e
    refine ⟨-9, h, fun m hm => ?_, fun m hm => ?_, s⟩
    · obtain ⟨m, rfl⟩ : ∃ m', m = m' + 1 := ⟨m - 1, by omega⟩
      rw [sX2_firstRest_2, if_pos (by decide)]
    · obtain ⟨m, rfl⟩ : ∃ m', m = m' + 1 := ⟨m - 1, by omega⟩
      rw [sX9_rests_77, if_pos (by decide), if_neg (by decide)]
  | succ k ih =>
    intro i hi h s
    obtain ⟨x, h', q1, q2, q3⟩ := rest_same R hB h1 h2 hg (show i < 25 by omega) s
    cases x with
    | false =>
      obtain ⟨x, h'', r1, r2, r3⟩ := ih (i + 1) (by omega) h' q3
      refine ⟨x, h'', fun m hm => ?_, fun m hm => ?_, r3⟩
      · obtain ⟨m, rfl⟩ : ∃ m', m = m' + 1 := ⟨m - 1, by omega⟩
        rw [sX2_firstRest_2, if_neg (by rw [nI_leI (by omega) (by omega)]; omega), q1, Option.bind_some, if_neg Bool.false_ne_true, nI_add]
        exact r1 m (by omega)
      · obtain ⟨m, rfl⟩ : ∃ m', m = m' + 1 := ⟨m - 1, by omega⟩
        rw [sX9_rests_77, if_neg (by rw [nI_leI (by omega) (by omega)]; omega), q2, Option.bind_some, if_neg Bool.false_ne_true, nI_add]
        exact r2 m (by omega)
    | true =>
      obtain ⟨h'', r2, r3⟩ := rests_B1 R hB h1 h2 hg (((nI 10) * (nI i / (nI 5))) + (nI i - nI i / (nI 5) * (nI 5))) k (i + 1) (by omega) 1 h' (by omega) (by omega) q3
      refine ⟨((nI 10) * (nI i / (nI 5))) + (nI i - nI i / (nI 5) * (nI 5)), h'', fun m hm => ?_, fun m hm => ?_, r3⟩
      · obtain ⟨m, rfl⟩ : ∃ m', m = m' + 1 := ⟨m - 1, by omega⟩
        rw [sX2_firstRest_2, if_neg (by rw [nI_leI (by omega) (by omega)]; omega), q1, Option.bind_some, if_pos rfl]
      · obtain ⟨m, rfl⟩ : ∃ m', m = m' + 1 := ⟨m - 1, by omega⟩
        rw [sX9_rests_77, if_neg (by rw [nI_leI (by omega) (by omega)]; omega), q2, Option.bind_some, if_pos rfl, if_pos nI_0, nI_add 0 1, nI_add i 1]
        exact r2 m (by omega)
theorem op_rests (R : R0 y B g g2) (hB : B < 2 ^ 19) (a b d : Int32) : ∃ x g' h, sX8_rests g a b d = some (x, g') ∧ sX9_rests g2 a b d = some (x, h) ∧ Scr g g' ∧ ScM g2 h := by
  have R' := R
  obtain ⟨o, G, M, RR0⟩ := R'
  have hL := o.2.2.1
  obtain ⟨dd, c1, c2, c3⟩ := RR0.2.2.2.1
  unfold sX8_rests sX9_rests
  rcases ix_cases a (dL y) with ⟨l1, h1, -, rfl⟩ | hbad
  · rw [if_pos (c_isLark_ok o G h1), if_pos (m_isLark_ok o M h1)]
    rcases ix_cases b (dL y) with ⟨l2, h2, -, rfl⟩ | hbad
    · rw [if_pos (c_isLark_ok o G h2), if_pos (m_isLark_ok o M h2)]
      by_cases he : nI l1 = nI l2
      · exact ⟨-2, g, g2, by rw [if_pos he], by rw [if_pos he], Scr_refl _, ScM_refl _⟩
      · rw [if_neg he, if_neg he, c_within d (by decide) (by decide), m_in d (lN 0) (lN 1) 0 1 rfl rfl, c_drown (t := 3) o G h1 c1 c2, c_drown (t := 3) o G h2 c1 c2, nI_clamp (by decide), nr0 g2, c3, m_has, m_has, has_nI (by omega) (by omega), has_nI (by omega) (by omega)]
        rcases wi_cases d 0 1 (by decide) with ⟨e, -, e2, rfl, hw⟩ | hw
        · have hw' : wi (nI e) 0 1 = true := hw
          rw [if_pos hw, if_pos hw']
          cases hd1 : dd.testBit l1 with
          | true => exact ⟨-3, g, g2, by rw [if_pos rfl], by rw [if_pos rfl], Scr_refl _, ScM_refl _⟩
          | false =>
            rw [if_neg Bool.false_ne_true, if_neg Bool.false_ne_true]
            cases hd2 : dd.testBit l2 with
            | true => exact ⟨-3, g, g2, by rw [if_pos rfl], by rw [if_pos rfl], Scr_refl _, ScM_refl _⟩
            | false =>
              rw [if_neg Bool.false_ne_true, if_neg Bool.false_ne_true]
              obtain ⟨g', p1, p2, p3⟩ := play_loop R (by omega) h1 h2 25 0 rfl g (Scr_refl _) (fun p hp => absurd hp (Nat.not_lt_zero _))
              have hpl : sX2_playAll g (nI l1) (nI l2) = some g' := p1 100 (by decide)
              rw [hpl, Option.bind_some]
              have he01 : e = 0 ∨ e = 1 := by omega
              rcases he01 with rfl | rfl
              · obtain ⟨x, h', r1, r2, r3⟩ := rests_A R (by omega) h1 h2 p3 25 0 rfl (nI 0) (-9) g2 (ScM_refl _)
                have hc : sX2_restCount g' = some x := r1 100 (by decide)
                exact ⟨x, g', h', by rw [if_pos nI_0, hc, Option.bind_some], r2 100 (by decide), p2, r3⟩
              · obtain ⟨x, h', r1, r2, r3⟩ := rests_B R (by omega) h1 h2 p3 25 0 rfl g2 (ScM_refl _)
                have hc : sX2_firstRest g' = some x := r1 100 (by decide)
                exact ⟨x, g', h', by rw [if_neg (by decide), hc, Option.bind_some], r2 100 (by decide), p2, r3⟩
        · have hw' : wi d 0 1 = false := hw
          exact ⟨-2, g, g2, by rw [if_neg (ntr hw)], by rw [if_neg (ntr hw')], Scr_refl _, ScM_refl _⟩
    · exact ⟨-1, g, g2, by rw [if_neg (ntr (c_isLark_no o G hbad))], by rw [if_neg (ntr (m_isLark_no o M hbad))], Scr_refl _, ScM_refl _⟩
  · exact ⟨-1, g, g2, by rw [if_neg (ntr (c_isLark_no o G hbad))], by rw [if_neg (ntr (m_isLark_no o M hbad))], Scr_refl _, ScM_refl _⟩
end Rest
