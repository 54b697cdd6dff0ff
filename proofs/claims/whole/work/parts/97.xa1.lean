/-! ===== the reference reads a part; the class adds one ===== -/
def rpW (u : Hg) : Option Hg := (sX9_nextOf u (nI 48) (nI 0) (nI 9)).bind fun x => if inb (u 29 13) 6 = true then some (stA (stA x.2 37 (Int32.toNatClampNeg (u 29 13)) x.1) 29 13 ((stA x.2 37 (Int32.toNatClampNeg (u 29 13)) x.1) 29 13 + nI 1)) else none
def rpF3 (u : Hg) : Option Hg := (sX9_nextOf u (nI 48) (nI 0) (nI 3)).bind fun x => if inb (nI 3 * u 29 14 + nI 2) 15 = true then some (stA (stA x.2 38 (Int32.toNatClampNeg (nI 3 * u 29 14 + nI 2)) x.1) 29 14 ((stA x.2 38 (Int32.toNatClampNeg (nI 3 * u 29 14 + nI 2)) x.1) 29 14 + nI 1)) else none
def rpF2 (u : Hg) : Option Hg := (sX9_nextOf u (nI 48) (nI 1) (nI 9)).bind fun x => if inb (nI 3 * u 29 14 + nI 1) 15 = true then rpF3 (stA x.2 38 (Int32.toNatClampNeg (nI 3 * u 29 14 + nI 1)) x.1) else none
def rpF (u : Hg) : Option Hg := (sX9_nextOf u (nI 97) (nI 0) (nI 11)).bind fun x => if inb (nI 3 * u 29 14) 15 = true then rpF2 (stA x.2 38 (Int32.toNatClampNeg (nI 3 * u 29 14)) x.1) else none
def rpL2 (u : Hg) : Option Hg := (sX9_nextOf u (nI 48) (nI 0) (nI 3)).bind fun x => if inb (nI 2 * u 29 15 + nI 1) 8 = true then some (stA (stA x.2 39 (Int32.toNatClampNeg (nI 2 * u 29 15 + nI 1)) x.1) 29 15 ((stA x.2 39 (Int32.toNatClampNeg (nI 2 * u 29 15 + nI 1)) x.1) 29 15 + nI 1)) else none
def rpL (u : Hg) : Option Hg := (sX9_nextOf u (nI 97) (nI 0) (nI 11)).bind fun x => if inb (nI 2 * u 29 15) 8 = true then rpL2 (stA x.2 39 (Int32.toNatClampNeg (nI 2 * u 29 15)) x.1) else none
section Pt
variable {n : Nat} {t : Nat → Nat} {g g2 u : Hg}
theorem rp_W {a : Nat} (hc : g2 29 13 = nI a) (ha : a < 6) : sX9_readPart g2 (nI 87) = rpW (stA g2 29 18 (g2 29 18 + nI 1)) := by
  unfold sX9_readPart
  rw [if_pos rfl, if_neg (by rw [hc, nI_leI (by omega) (by omega)]; omega)]
  rfl
theorem rp_F {a : Nat} (hc : g2 29 14 = nI a) (ha : a < 5) : sX9_readPart g2 (nI 70) = rpF (stA g2 29 18 (g2 29 18 + nI 1)) := by
  unfold sX9_readPart
  rw [if_neg (by decide), if_pos rfl, if_neg (by rw [hc, nI_leI (by omega) (by omega)]; omega)]
  rfl
theorem rp_L {a : Nat} (hc : g2 29 15 = nI a) (ha : a < 4) : sX9_readPart g2 (nI 76) = rpL (stA g2 29 18 (g2 29 18 + nI 1)) := by
  unfold sX9_readPart
  rw [if_neg (by decide), if_neg (by decide), if_pos rfl, if_neg (by rw [hc, nI_leI (by omega) (by omega)]; omega)]
  rfl
theorem rp_none {a b d v : Nat} (h2 : g2 29 13 = nI a) (h3 : g2 29 14 = nI b) (h4 : g2 29 15 = nI d) (ha : a ≤ 6) (hb : b ≤ 5) (hd : d ≤ 4) (hv : v ≤ 255) (hW : ¬ (v = 87 ∧ a < 6)) (hF : ¬ (v = 70 ∧ b < 5)) (hL : ¬ (v = 76 ∧ d < 4)) : sX9_readPart g2 (nI v) = some (stA g2 29 19 (g2 29 18)) := by
  unfold sX9_readPart
  have q : ∀ k, k ≤ 255 → (nI v = nI k ↔ v = k) := fun k hk => nI_eq (by omega) (by omega)
  have l6 : nI 6 ≤ g2 29 13 ↔ 6 ≤ a := by rw [h2]; exact nI_leI (by omega) (by omega)
  have l5 : nI 5 ≤ g2 29 14 ↔ 5 ≤ b := by rw [h3]; exact nI_leI (by omega) (by omega)
  have l4 : nI 4 ≤ g2 29 15 ↔ 4 ≤ d := by rw [h4]; exact nI_leI (by omega) (by omega)
  by_cases c1 : v = 87
  · rw [if_pos ((q 87 (by decide)).mpr c1), if_pos (l6.mpr (by omega)), if_neg (fun z => by have := (q 70 (by decide)).mp z; omega), if_neg (fun z => by have := (q 76 (by decide)).mp z; omega)]
  · rw [if_neg (fun z => c1 ((q 87 (by decide)).mp z))]
    by_cases c2 : v = 70
    · rw [if_pos ((q 70 (by decide)).mpr c2), if_pos (l5.mpr (by omega)), if_neg (fun z => by have := (q 76 (by decide)).mp z; omega)]
    · rw [if_neg (fun z => c2 ((q 70 (by decide)).mp z))]
      by_cases c3 : v = 76
      · rw [if_pos ((q 76 (by decide)).mpr c3), if_pos (l4.mpr (by omega))]
      · rw [if_neg (fun z => c3 ((q 76 (by decide)).mp z))]
theorem pW (T : TM n t u) {p a : Nat} (hf : u 29 19 = -9) (hat : u 29 18 = nI p) (hp : p ≤ n) (hc : u 29 13 = nI a) (ha : a < 6) : ∃ u', rpW u = some u' ∧ Fr 37 13 u u' ∧ ((p < n ∧ 48 ≤ t p ∧ t p ≤ 57) → u' 29 18 = nI (p + 1) ∧ u' 29 19 = -9 ∧ u' 29 13 = nI (a + 1) ∧ u' 37 = upd (u 37) a (nI (t p - 48))) ∧ (¬ (p < n ∧ 48 ≤ t p ∧ t p ≤ 57) → u' 29 19 = nI p) := by
  obtain ⟨v, w, e, f1, f2, f3, f4, f5⟩ := m_next T (fr := 48) (lo := 0) (hi := 9) 37 13 hf hat hp (by decide) (by decide)
  refine ⟨stA (stA w 37 a v) 29 13 (nI (a + 1)), ?_, Fr_trans f2 (Fr_trans (Fr_w _ _ _ (by decide)) (Fr_i _ _ _ (by decide))), fun h => ?_, fun h => ?_⟩
  · unfold rpW
    rw [e, Option.bind_some, hc, if_pos (inb_nI ha (by decide)), nI_clamp (by omega)]
    show some (stA (stA w 37 a v) 29 13 ((stA w 37 a v) 29 13 + nI 1)) = _
    rw [stA_ne w 37 a v (k := 29) (by decide), f3 13 (by decide) (by decide), hc, nI_add]
  · obtain ⟨k1, k2, k3⟩ := f4 h
    refine ⟨?_, ?_, ?_, ?_⟩
    · rw [stA_self, pk_un (by decide), stA_ne w 37 a v (k := 29) (by decide), k2]
    · rw [stA_self, pk_un (by decide), stA_ne w 37 a v (k := 29) (by decide), k3]
    · rw [stA_self, pk_us]
    · rw [stA_ne _ 29 _ _ (k := 37) (by decide), stA_self, f1 37 (by decide), k1]
  · rw [stA_self, pk_un (by decide), stA_ne w 37 a v (k := 29) (by decide), f5 h]
theorem pF3_f {e a : Nat} (he : e < 2 ^ 31) (hf : u 29 19 = nI e) (hc : u 29 14 = nI a) (ha : a < 5) : ∃ u', rpF3 u = some u' ∧ Fr 38 14 u u' ∧ u' 29 19 = nI e := by
  refine ⟨stA (stA u 38 (3 * a + 2) (nI 0)) 29 14 (nI (a + 1)), ?_, Fr_trans (Fr_w _ _ _ (by decide)) (Fr_i _ _ _ (by decide)), ?_⟩
  · unfold rpF3
    rw [m_next_f he hf, Option.bind_some, hc, pk_mul, nI_add, if_pos (inb_nI (by omega) (by decide)), nI_clamp (by omega)]
    show some (stA (stA u 38 (3 * a + 2) (nI 0)) 29 14 ((stA u 38 (3 * a + 2) (nI 0)) 29 14 + nI 1)) = _
    rw [stA_ne u 38 _ _ (k := 29) (by decide), hc, nI_add]
  · rw [stA_self, pk_un (by decide), stA_ne u 38 _ _ (k := 29) (by decide), hf]
theorem pF2_f {e a : Nat} (he : e < 2 ^ 31) (hf : u 29 19 = nI e) (hc : u 29 14 = nI a) (ha : a < 5) : ∃ u', rpF2 u = some u' ∧ Fr 38 14 u u' ∧ u' 29 19 = nI e := by
  obtain ⟨u', h1, h2, h3⟩ := pF3_f (u := stA u 38 (3 * a + 1) (nI 0)) he (by rw [stA_ne u 38 _ _ (k := 29) (by decide), hf]) (by rw [stA_ne u 38 _ _ (k := 29) (by decide), hc]) ha
  refine ⟨u', ?_, Fr_trans (Fr_w _ _ _ (by decide)) h2, h3⟩
  unfold rpF2
  rw [m_next_f he hf, Option.bind_some, hc, pk_mul, nI_add, if_pos (inb_nI (by omega) (by decide)), nI_clamp (by omega)]
  exact h1
theorem pF3 (T : TM n t u) {p a : Nat} (hf : u 29 19 = -9) (hat : u 29 18 = nI p) (hp : p ≤ n) (hc : u 29 14 = nI a) (ha : a < 5) : ∃ u', rpF3 u = some u' ∧ Fr 38 14 u u' ∧ ((p < n ∧ 48 ≤ t p ∧ t p ≤ 51) → u' 29 18 = nI (p + 1) ∧ u' 29 19 = -9 ∧ u' 29 14 = nI (a + 1) ∧ u' 38 = upd (u 38) (3 * a + 2) (nI (t p - 48))) ∧ (¬ (p < n ∧ 48 ≤ t p ∧ t p ≤ 51) → u' 29 19 = nI p) := by
  obtain ⟨v, w, e, f1, f2, f3, f4, f5⟩ := m_next T (fr := 48) (lo := 0) (hi := 3) 38 14 hf hat hp (by decide) (by decide)
  refine ⟨stA (stA w 38 (3 * a + 2) v) 29 14 (nI (a + 1)), ?_, Fr_trans f2 (Fr_trans (Fr_w _ _ _ (by decide)) (Fr_i _ _ _ (by decide))), fun h => ?_, fun h => ?_⟩
  · unfold rpF3
    rw [e, Option.bind_some, hc, pk_mul, nI_add, if_pos (inb_nI (by omega) (by decide)), nI_clamp (by omega)]
    show some (stA (stA w 38 (3 * a + 2) v) 29 14 ((stA w 38 (3 * a + 2) v) 29 14 + nI 1)) = _
    rw [stA_ne w 38 _ v (k := 29) (by decide), f3 14 (by decide) (by decide), hc, nI_add]
  · obtain ⟨k1, k2, k3⟩ := f4 h
    refine ⟨?_, ?_, ?_, ?_⟩
    · rw [stA_self, pk_un (by decide), stA_ne w 38 _ v (k := 29) (by decide), k2]
    · rw [stA_self, pk_un (by decide), stA_ne w 38 _ v (k := 29) (by decide), k3]
    · rw [stA_self, pk_us]
    · rw [stA_ne _ 29 _ _ (k := 38) (by decide), stA_self, f1 38 (by decide), k1]
  · rw [stA_self, pk_un (by decide), stA_ne w 38 _ v (k := 29) (by decide), f5 h]
theorem pF2 (T : TM n t u) {p a : Nat} (hf : u 29 19 = -9) (hat : u 29 18 = nI p) (hp : p ≤ n) (hc : u 29 14 = nI a) (ha : a < 5) : ∃ u', rpF2 u = some u' ∧ Fr 38 14 u u' ∧ ((p < n ∧ 49 ≤ t p ∧ t p ≤ 57) → ((p + 1 < n ∧ 48 ≤ t (p + 1) ∧ t (p + 1) ≤ 51) → u' 29 18 = nI (p + 2) ∧ u' 29 19 = -9 ∧ u' 29 14 = nI (a + 1) ∧ u' 38 = upd (upd (u 38) (3 * a + 1) (nI (t p - 48))) (3 * a + 2) (nI (t (p + 1) - 48))) ∧ (¬ (p + 1 < n ∧ 48 ≤ t (p + 1) ∧ t (p + 1) ≤ 51) → u' 29 19 = nI (p + 1))) ∧ (¬ (p < n ∧ 49 ≤ t p ∧ t p ≤ 57) → u' 29 19 = nI p) := by
  have h60 := T.1
  obtain ⟨v, w, e, f1, f2, f3, f4, f5⟩ := m_next T (fr := 48) (lo := 1) (hi := 9) 38 14 hf hat hp (by decide) (by decide)
  have F2 : Fr 38 14 u (stA w 38 (3 * a + 1) v) := Fr_trans f2 (Fr_w _ _ _ (by decide))
  have T2 : TM n t (stA w 38 (3 * a + 1) v) := Fr_tm F2 (by decide) (by decide) T
  have c2 : (stA w 38 (3 * a + 1) v) 29 14 = nI a := by rw [stA_ne w 38 _ v (k := 29) (by decide), f3 14 (by decide) (by decide), hc]
  have eq : rpF2 u = rpF3 (stA w 38 (3 * a + 1) v) := by
    unfold rpF2
    rw [e, Option.bind_some, hc, pk_mul, nI_add, if_pos (inb_nI (by omega) (by decide)), nI_clamp (by omega)]
  rw [eq]
  by_cases hg : p < n ∧ 49 ≤ t p ∧ t p ≤ 57
  · obtain ⟨k1, k2, k3⟩ := f4 hg
    obtain ⟨u', h1, h2, h3, h4⟩ := pF3 T2 (p := p + 1) (a := a) (by rw [stA_ne w 38 _ v (k := 29) (by decide), k3]) (by rw [stA_ne w 38 _ v (k := 29) (by decide), k2]) (by omega) c2 ha
    refine ⟨u', h1, Fr_trans F2 h2, fun _ => ⟨fun q => ?_, h4⟩, fun q => absurd hg q⟩
    obtain ⟨r1, r2, r3, r4⟩ := h3 q
    refine ⟨r1, r2, r3, ?_⟩
    rw [r4, stA_self, f1 38 (by decide), k1]
  · obtain ⟨u', h1, h2, h3⟩ := pF3_f (u := stA w 38 (3 * a + 1) v) (e := p) (by omega) (by rw [stA_ne w 38 _ v (k := 29) (by decide), f5 hg]) c2 ha
    exact ⟨u', h1, Fr_trans F2 h2, fun q => absurd q hg, fun _ => h3⟩
theorem pF (T : TM n t u) {p a : Nat} (hf : u 29 19 = -9) (hat : u 29 18 = nI p) (hp : p ≤ n) (hc : u 29 14 = nI a) (ha : a < 5) : ∃ u', rpF u = some u' ∧ Fr 38 14 u u' ∧ ((p < n ∧ 97 ≤ t p ∧ t p ≤ 108) → ((p + 1 < n ∧ 49 ≤ t (p + 1) ∧ t (p + 1) ≤ 57) → ((p + 2 < n ∧ 48 ≤ t (p + 2) ∧ t (p + 2) ≤ 51) → u' 29 18 = nI (p + 3) ∧ u' 29 19 = -9 ∧ u' 29 14 = nI (a + 1) ∧ u' 38 = upd (upd (upd (u 38) (3 * a) (nI (t p - 97))) (3 * a + 1) (nI (t (p + 1) - 48))) (3 * a + 2) (nI (t (p + 2) - 48))) ∧ (¬ (p + 2 < n ∧ 48 ≤ t (p + 2) ∧ t (p + 2) ≤ 51) → u' 29 19 = nI (p + 2))) ∧ (¬ (p + 1 < n ∧ 49 ≤ t (p + 1) ∧ t (p + 1) ≤ 57) → u' 29 19 = nI (p + 1))) ∧ (¬ (p < n ∧ 97 ≤ t p ∧ t p ≤ 108) → u' 29 19 = nI p) := by
  have h60 := T.1
  obtain ⟨v, w, e, f1, f2, f3, f4, f5⟩ := m_next T (fr := 97) (lo := 0) (hi := 11) 38 14 hf hat hp (by decide) (by decide)
  have F2 : Fr 38 14 u (stA w 38 (3 * a) v) := Fr_trans f2 (Fr_w _ _ _ (by decide))
  have T2 : TM n t (stA w 38 (3 * a) v) := Fr_tm F2 (by decide) (by decide) T
  have c2 : (stA w 38 (3 * a) v) 29 14 = nI a := by rw [stA_ne w 38 _ v (k := 29) (by decide), f3 14 (by decide) (by decide), hc]
  have eq : rpF u = rpF2 (stA w 38 (3 * a) v) := by
    unfold rpF
    rw [e, Option.bind_some, hc, pk_mul, if_pos (inb_nI (by omega) (by decide)), nI_clamp (by omega)]
  rw [eq]
  by_cases hg : p < n ∧ 97 ≤ t p ∧ t p ≤ 108
  · obtain ⟨k1, k2, k3⟩ := f4 hg
    obtain ⟨u', h1, h2, h3, h4⟩ := pF2 T2 (p := p + 1) (a := a) (by rw [stA_ne w 38 _ v (k := 29) (by decide), k3]) (by rw [stA_ne w 38 _ v (k := 29) (by decide), k2]) (by omega) c2 ha
    refine ⟨u', h1, Fr_trans F2 h2, fun _ => ⟨fun q => ⟨fun q2 => ?_, (h3 q).2⟩, h4⟩, fun q => absurd hg q⟩
    obtain ⟨r1, r2, r3, r4⟩ := (h3 q).1 q2
    refine ⟨r1, r2, r3, ?_⟩
    rw [r4, stA_self, f1 38 (by decide), k1]
  · obtain ⟨u', h1, h2, h3⟩ := pF2_f (u := stA w 38 (3 * a) v) (e := p) (by omega) (by rw [stA_ne w 38 _ v (k := 29) (by decide), f5 hg]) c2 ha
    exact ⟨u', h1, Fr_trans F2 h2, fun q => absurd q hg, fun _ => h3⟩
theorem pL2_f {e a : Nat} (he : e < 2 ^ 31) (hf : u 29 19 = nI e) (hc : u 29 15 = nI a) (ha : a < 4) : ∃ u', rpL2 u = some u' ∧ Fr 39 15 u u' ∧ u' 29 19 = nI e := by
  refine ⟨stA (stA u 39 (2 * a + 1) (nI 0)) 29 15 (nI (a + 1)), ?_, Fr_trans (Fr_w _ _ _ (by decide)) (Fr_i _ _ _ (by decide)), ?_⟩
  · unfold rpL2
    rw [m_next_f he hf, Option.bind_some, hc, pk_mul, nI_add, if_pos (inb_nI (by omega) (by decide)), nI_clamp (by omega)]
    show some (stA (stA u 39 (2 * a + 1) (nI 0)) 29 15 ((stA u 39 (2 * a + 1) (nI 0)) 29 15 + nI 1)) = _
    rw [stA_ne u 39 _ _ (k := 29) (by decide), hc, nI_add]
  · rw [stA_self, pk_un (by decide), stA_ne u 39 _ _ (k := 29) (by decide), hf]
theorem pL2 (T : TM n t u) {p a : Nat} (hf : u 29 19 = -9) (hat : u 29 18 = nI p) (hp : p ≤ n) (hc : u 29 15 = nI a) (ha : a < 4) : ∃ u', rpL2 u = some u' ∧ Fr 39 15 u u' ∧ ((p < n ∧ 48 ≤ t p ∧ t p ≤ 51) → u' 29 18 = nI (p + 1) ∧ u' 29 19 = -9 ∧ u' 29 15 = nI (a + 1) ∧ u' 39 = upd (u 39) (2 * a + 1) (nI (t p - 48))) ∧ (¬ (p < n ∧ 48 ≤ t p ∧ t p ≤ 51) → u' 29 19 = nI p) := by
  obtain ⟨v, w, e, f1, f2, f3, f4, f5⟩ := m_next T (fr := 48) (lo := 0) (hi := 3) 39 15 hf hat hp (by decide) (by decide)
  refine ⟨stA (stA w 39 (2 * a + 1) v) 29 15 (nI (a + 1)), ?_, Fr_trans f2 (Fr_trans (Fr_w _ _ _ (by decide)) (Fr_i _ _ _ (by decide))), fun h => ?_, fun h => ?_⟩
  · unfold rpL2
    rw [e, Option.bind_some, hc, pk_mul, nI_add, if_pos (inb_nI (by omega) (by decide)), nI_clamp (by omega)]
    show some (stA (stA w 39 (2 * a + 1) v) 29 15 ((stA w 39 (2 * a + 1) v) 29 15 + nI 1)) = _
    rw [stA_ne w 39 _ v (k := 29) (by decide), f3 15 (by decide) (by decide), hc, nI_add]
  · obtain ⟨k1, k2, k3⟩ := f4 h
    refine ⟨?_, ?_, ?_, ?_⟩
    · rw [stA_self, pk_un (by decide), stA_ne w 39 _ v (k := 29) (by decide), k2]
    · rw [stA_self, pk_un (by decide), stA_ne w 39 _ v (k := 29) (by decide), k3]
    · rw [stA_self, pk_us]
    · rw [stA_ne _ 29 _ _ (k := 39) (by decide), stA_self, f1 39 (by decide), k1]
  · rw [stA_self, pk_un (by decide), stA_ne w 39 _ v (k := 29) (by decide), f5 h]
theorem pL (T : TM n t u) {p a : Nat} (hf : u 29 19 = -9) (hat : u 29 18 = nI p) (hp : p ≤ n) (hc : u 29 15 = nI a) (ha : a < 4) : ∃ u', rpL u = some u' ∧ Fr 39 15 u u' ∧ ((p < n ∧ 97 ≤ t p ∧ t p ≤ 108) → ((p + 1 < n ∧ 48 ≤ t (p + 1) ∧ t (p + 1) ≤ 51) → u' 29 18 = nI (p + 2) ∧ u' 29 19 = -9 ∧ u' 29 15 = nI (a + 1) ∧ u' 39 = upd (upd (u 39) (2 * a) (nI (t p - 97))) (2 * a + 1) (nI (t (p + 1) - 48))) ∧ (¬ (p + 1 < n ∧ 48 ≤ t (p + 1) ∧ t (p + 1) ≤ 51) → u' 29 19 = nI (p + 1))) ∧ (¬ (p < n ∧ 97 ≤ t p ∧ t p ≤ 108) → u' 29 19 = nI p) := by
  have h60 := T.1
  obtain ⟨v, w, e, f1, f2, f3, f4, f5⟩ := m_next T (fr := 97) (lo := 0) (hi := 11) 39 15 hf hat hp (by decide) (by decide)
  have F2 : Fr 39 15 u (stA w 39 (2 * a) v) := Fr_trans f2 (Fr_w _ _ _ (by decide))
  have T2 : TM n t (stA w 39 (2 * a) v) := Fr_tm F2 (by decide) (by decide) T
  have c2 : (stA w 39 (2 * a) v) 29 15 = nI a := by rw [stA_ne w 39 _ v (k := 29) (by decide), f3 15 (by decide) (by decide), hc]
  have eq : rpL u = rpL2 (stA w 39 (2 * a) v) := by
    unfold rpL
    rw [e, Option.bind_some, hc, pk_mul, if_pos (inb_nI (by omega) (by decide)), nI_clamp (by omega)]
  rw [eq]
  by_cases hg : p < n ∧ 97 ≤ t p ∧ t p ≤ 108
  · obtain ⟨k1, k2, k3⟩ := f4 hg
    obtain ⟨u', h1, h2, h3, h4⟩ := pL2 T2 (p := p + 1) (a := a) (by rw [stA_ne w 39 _ v (k := 29) (by decide), k3]) (by rw [stA_ne w 39 _ v (k := 29) (by decide), k2]) (by omega) c2 ha
    refine ⟨u', h1, Fr_trans F2 h2, fun _ => ⟨fun q => ?_, h4⟩, fun q => absurd hg q⟩
    obtain ⟨r1, r2, r3, r4⟩ := h3 q
    refine ⟨r1, r2, r3, ?_⟩
    rw [r4, stA_self, f1 39 (by decide), k1]
  · obtain ⟨u', h1, h2, h3⟩ := pL2_f (u := stA w 39 (2 * a) v) (e := p) (by omega) (by rw [stA_ne w 39 _ v (k := 29) (by decide), f5 hg]) c2 ha
    exact ⟨u', h1, Fr_trans F2 h2, fun q => absurd q hg, fun _ => h3⟩
/-! the class adds -/
theorem c_addTide (T : TC n t g) {a p : Nat} (hc : g 2 7 = nI a) (ha : a < 6) (hp : p + 1 < n) (h1 : 48 ≤ t (p + 1)) : sX1_addTide g (nI p) = some (stA (stA g 12 a (nI (t (p + 1) - 48))) 2 7 (nI (a + 1))) := by
  unfold sX1_addTide
  rw [hc, c_within _ (by decide) (by decide), if_pos (wi_nI (lo := 0) (hi := 5) (by omega) (by omega) (by omega)), nI_add, c_letter T hp, Option.bind_some, if_pos (inb_nI ha (by decide)), nI_clamp (by omega), pk_sub h1]
  show some (stA (stA g 12 a (nI (t (p + 1) - 48))) 2 7 ((stA g 12 a (nI (t (p + 1) - 48))) 2 7 + nI 1)) = _
  rw [stA_ne g 12 _ _ (k := 2) (by decide), hc, nI_add]
theorem c_addFind (T : TC n t g) {a p : Nat} (hc : g 2 8 = nI a) (ha : a < 5) (hp : p + 3 < n) (h1 : 97 ≤ t (p + 1)) (h2 : 48 ≤ t (p + 2)) (h3 : 48 ≤ t (p + 3)) : sX1_addFind g (nI p) = some (stA (stA (stA (stA g 13 a (nI (t (p + 1) - 97))) 14 a (nI (t (p + 2) - 48))) 15 a (nI (t (p + 3) - 48))) 2 8 (nI (a + 1))) := by
  have T1 : ∀ x, TC n t (stA g 13 a x) := fun x => TC_congr T (by rw [stA_ne g 13 _ _ (k := 1) (by decide)]) (stA_ne g 13 _ _ (k := 10) (by decide))
  have T2 : ∀ x y, TC n t (stA (stA g 13 a x) 14 a y) := fun x y => TC_congr (T1 x) (by rw [stA_ne _ 14 _ _ (k := 1) (by decide)]) (stA_ne _ 14 _ _ (k := 10) (by decide))
  have d1 : ∀ x, stA g 13 a x 2 8 = nI a := fun x => by rw [stA_ne g 13 _ _ (k := 2) (by decide), hc]
  have d2 : ∀ x y, stA (stA g 13 a x) 14 a y 2 8 = nI a := fun x y => by rw [stA_ne _ 14 _ _ (k := 2) (by decide), d1]
  have d3 : ∀ x y z, stA (stA (stA g 13 a x) 14 a y) 15 a z 2 8 = nI a := fun x y z => by rw [stA_ne _ 15 _ _ (k := 2) (by decide), d2]
  unfold sX1_addFind
  rw [hc, c_within _ (by decide) (by decide), if_pos (wi_nI (lo := 0) (hi := 4) (by omega) (by omega) (by omega)), nI_add, nI_add, nI_add, c_letter T (show p + 1 < n by omega), Option.bind_some, if_pos (inb_nI ha (by decide)), nI_clamp (by omega), pk_sub h1, c_letter (T1 _) (show p + 2 < n by omega), Option.bind_some, d1, if_pos (inb_nI ha (by decide)), nI_clamp (by omega), pk_sub h2, c_letter (T2 _ _) hp, Option.bind_some, d2, if_pos (inb_nI ha (by decide)), nI_clamp (by omega), pk_sub h3, d3, nI_add]
theorem c_addLark (T : TC n t g) {a p : Nat} (hc : g 2 9 = nI a) (ha : a < 4) (hp : p + 2 < n) (h1 : 97 ≤ t (p + 1)) (h2 : 48 ≤ t (p + 2)) : sX1_addLark g (nI p) = some (stA (stA (stA g 16 a (nI (t (p + 1) - 97))) 17 a (nI (t (p + 2) - 48))) 2 9 (nI (a + 1))) := by
  have T1 : ∀ x, TC n t (stA g 16 a x) := fun x => TC_congr T (by rw [stA_ne g 16 _ _ (k := 1) (by decide)]) (stA_ne g 16 _ _ (k := 10) (by decide))
  have d1 : ∀ x, stA g 16 a x 2 9 = nI a := fun x => by rw [stA_ne g 16 _ _ (k := 2) (by decide), hc]
  have d2 : ∀ x y, stA (stA g 16 a x) 17 a y 2 9 = nI a := fun x y => by rw [stA_ne _ 17 _ _ (k := 2) (by decide), d1]
  unfold sX1_addLark
  rw [hc, c_within _ (by decide) (by decide), if_pos (wi_nI (lo := 0) (hi := 3) (by omega) (by omega) (by omega)), nI_add, nI_add, c_letter T (show p + 1 < n by omega), Option.bind_some, if_pos (inb_nI ha (by decide)), nI_clamp (by omega), pk_sub h1, c_letter (T1 _) hp, Option.bind_some, d1, if_pos (inb_nI ha (by decide)), nI_clamp (by omega), pk_sub h2, d2, nI_add]
theorem rf_end (T : TC n t g) (m : Nat) : sX1_readFrom_48 (m + 1) g (nI n) = some g := by
  have h := T.1
  rw [sX1_readFrom_48, sX7_length, T.2.2.1, if_pos (by rw [nI_leI (by omega) (by omega)]; omega)]
theorem rf_step (T : TC n t g) (m : Nat) {p : Nat} (hp : p < n) : sX1_readFrom_48 (m + 1) g (nI p) = if nI (t p) = nI 87 then (sX1_addTide g (nI p)).bind (fun x => sX1_readFrom_48 m x (nI (p + 2))) else if nI (t p) = nI 70 then (sX1_addFind g (nI p)).bind (fun x => sX1_readFrom_48 m x (nI (p + 4))) else (sX1_addLark g (nI p)).bind (fun x => sX1_readFrom_48 m x (nI (p + 3))) := by
  have h := T.1
  rw [sX1_readFrom_48, sX7_length, T.2.2.1, if_neg (by rw [nI_leI (by omega) (by omega)]; omega), c_letter T hp, Option.bind_some, nI_add, nI_add, nI_add]
end Pt
