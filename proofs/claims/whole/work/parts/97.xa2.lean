/-! ===== the parts of a text, class and reference ===== -/
def RDr (T F L : Nat) (h g2 : Hg) : Prop := (T ≤ 6 ∧ F ≤ 5 ∧ L ≤ 4) ∧ (h 2 7 = nI T ∧ h 2 8 = nI F ∧ h 2 9 = nI L) ∧ (g2 29 13 = nI T ∧ g2 29 14 = nI F ∧ g2 29 15 = nI L) ∧ (∀ k, k < T → ∃ w, w ≤ 9 ∧ h 12 k = nI w ∧ g2 37 k = nI w) ∧ (∀ f, f < F → ∃ c a k, c < 12 ∧ 1 ≤ a ∧ a ≤ 9 ∧ k ≤ 3 ∧ h 13 f = nI c ∧ h 14 f = nI a ∧ h 15 f = nI k ∧ g2 38 (3 * f) = nI c ∧ g2 38 (3 * f + 1) = nI a ∧ g2 38 (3 * f + 2) = nI k) ∧ (∀ l, l < L → ∃ c b, c < 12 ∧ b ≤ 3 ∧ h 16 l = nI c ∧ h 17 l = nI b ∧ g2 39 (2 * l) = nI c ∧ g2 39 (2 * l + 1) = nI b)
theorem RD_W {T F L w : Nat} {h g2 g2' : Hg} (R : RDr T F L h g2) (hT : T < 6) (hw : w ≤ 9) (hF : Fr 37 13 g2 g2') (e1 : g2' 29 13 = nI (T + 1)) (e2 : g2' 37 = upd (g2 37) T (nI w)) : RDr (T + 1) F L (stA (stA h 12 T (nI w)) 2 7 (nI (T + 1))) g2' := by
  obtain ⟨⟨a1, a2, a3⟩, ⟨b1, b2, b3⟩, ⟨c1, c2, c3⟩, d1, d2, d3⟩ := R
  have q2 : ∀ i, i ≠ 7 → stA (stA h 12 T (nI w)) 2 7 (nI (T + 1)) 2 i = h 2 i := fun i hi => by rw [stA_self, pk_un hi, stA_ne h 12 _ _ (k := 2) (by decide)]
  have q12 : stA (stA h 12 T (nI w)) 2 7 (nI (T + 1)) 12 = upd (h 12) T (nI w) := by rw [stA_ne _ 2 _ _ (k := 12) (by decide), stA_self]
  have q : ∀ c, c ≠ 2 → c ≠ 12 → stA (stA h 12 T (nI w)) 2 7 (nI (T + 1)) c = h c := fun c x y => by rw [stA_ne _ 2 _ _ (k := c) x, stA_ne _ 12 _ _ (k := c) y]
  refine ⟨⟨by omega, a2, a3⟩, ⟨by rw [stA_self, pk_us], by rw [q2 8 (by decide), b2], by rw [q2 9 (by decide), b3]⟩, ⟨e1, by rw [hF.2 14 (by decide) (by decide) (by decide), c2], by rw [hF.2 15 (by decide) (by decide) (by decide), c3]⟩, fun k hk => ?_, ?_, ?_⟩
  · rw [q12, e2]
    by_cases hkT : k = T
    · subst hkT
      exact ⟨w, hw, pk_us, pk_us⟩
    · rw [pk_un hkT, pk_un hkT]
      exact d1 k (by omega)
  · rw [q 13 (by decide) (by decide), q 14 (by decide) (by decide), q 15 (by decide) (by decide), hF.1 38 (by decide) (by decide)]
    exact d2
  · rw [q 16 (by decide) (by decide), q 17 (by decide) (by decide), hF.1 39 (by decide) (by decide)]
    exact d3
theorem RD_F {T F L c0 a0 k0 : Nat} {h g2 g2' : Hg} (R : RDr T F L h g2) (hFl : F < 5) (hc : c0 < 12) (ha1 : 1 ≤ a0) (ha : a0 ≤ 9) (hk0 : k0 ≤ 3) (hF : Fr 38 14 g2 g2') (e1 : g2' 29 14 = nI (F + 1)) (e2 : g2' 38 = upd (upd (upd (g2 38) (3 * F) (nI c0)) (3 * F + 1) (nI a0)) (3 * F + 2) (nI k0)) : RDr T (F + 1) L (stA (stA (stA (stA h 13 F (nI c0)) 14 F (nI a0)) 15 F (nI k0)) 2 8 (nI (F + 1))) g2' := by
  obtain ⟨⟨a1, a2, a3⟩, ⟨b1, b2, b3⟩, ⟨c1, c2, c3⟩, d1, d2, d3⟩ := R
  have q2 : ∀ i, i ≠ 8 → stA (stA (stA (stA h 13 F (nI c0)) 14 F (nI a0)) 15 F (nI k0)) 2 8 (nI (F + 1)) 2 i = h 2 i := fun i hi => by rw [stA_self, pk_un hi, stA_ne _ 15 _ _ (k := 2) (by decide), stA_ne _ 14 _ _ (k := 2) (by decide), stA_ne _ 13 _ _ (k := 2) (by decide)]
  have q13 : stA (stA (stA (stA h 13 F (nI c0)) 14 F (nI a0)) 15 F (nI k0)) 2 8 (nI (F + 1)) 13 = upd (h 13) F (nI c0) := by rw [stA_ne _ 2 _ _ (k := 13) (by decide), stA_ne _ 15 _ _ (k := 13) (by decide), stA_ne _ 14 _ _ (k := 13) (by decide), stA_self]
  have q14 : stA (stA (stA (stA h 13 F (nI c0)) 14 F (nI a0)) 15 F (nI k0)) 2 8 (nI (F + 1)) 14 = upd (h 14) F (nI a0) := by rw [stA_ne _ 2 _ _ (k := 14) (by decide), stA_ne _ 15 _ _ (k := 14) (by decide), stA_self, stA_ne _ 13 _ _ (k := 14) (by decide)]
  have q15 : stA (stA (stA (stA h 13 F (nI c0)) 14 F (nI a0)) 15 F (nI k0)) 2 8 (nI (F + 1)) 15 = upd (h 15) F (nI k0) := by rw [stA_ne _ 2 _ _ (k := 15) (by decide), stA_self, stA_ne _ 14 _ _ (k := 15) (by decide), stA_ne _ 13 _ _ (k := 15) (by decide)]
  have q : ∀ c, c ≠ 2 → c ≠ 13 → c ≠ 14 → c ≠ 15 → stA (stA (stA (stA h 13 F (nI c0)) 14 F (nI a0)) 15 F (nI k0)) 2 8 (nI (F + 1)) c = h c := fun c x y z w => by rw [stA_ne _ 2 _ _ (k := c) x, stA_ne _ 15 _ _ (k := c) w, stA_ne _ 14 _ _ (k := c) z, stA_ne _ 13 _ _ (k := c) y]
  refine ⟨⟨a1, by omega, a3⟩, ⟨by rw [q2 7 (by decide), b1], by rw [stA_self, pk_us], by rw [q2 9 (by decide), b3]⟩, ⟨by rw [hF.2 13 (by decide) (by decide) (by decide), c1], e1, by rw [hF.2 15 (by decide) (by decide) (by decide), c3]⟩, ?_, fun f hf => ?_, ?_⟩
  · rw [q 12 (by decide) (by decide) (by decide) (by decide), hF.1 37 (by decide) (by decide)]
    exact d1
  · rw [q13, q14, q15, e2]
    by_cases hfF : f = F
    · subst hfF
      exact ⟨c0, a0, k0, hc, ha1, ha, hk0, pk_us, pk_us, pk_us, by rw [pk_un (by omega), pk_un (by omega), pk_us], by rw [pk_un (by omega), pk_us], pk_us⟩
    · rw [pk_un hfF, pk_un hfF, pk_un hfF, pk_un (by omega), pk_un (by omega), pk_un (by omega), pk_un (by omega), pk_un (by omega), pk_un (by omega), pk_un (by omega), pk_un (by omega), pk_un (by omega)]
      exact d2 f (by omega)
  · rw [q 16 (by decide) (by decide) (by decide) (by decide), q 17 (by decide) (by decide) (by decide) (by decide), hF.1 39 (by decide) (by decide)]
    exact d3
theorem RD_L {T F L c0 b0 : Nat} {h g2 g2' : Hg} (R : RDr T F L h g2) (hLl : L < 4) (hc : c0 < 12) (hb : b0 ≤ 3) (hF : Fr 39 15 g2 g2') (e1 : g2' 29 15 = nI (L + 1)) (e2 : g2' 39 = upd (upd (g2 39) (2 * L) (nI c0)) (2 * L + 1) (nI b0)) : RDr T F (L + 1) (stA (stA (stA h 16 L (nI c0)) 17 L (nI b0)) 2 9 (nI (L + 1))) g2' := by
  obtain ⟨⟨a1, a2, a3⟩, ⟨b1, b2, b3⟩, ⟨c1, c2, c3⟩, d1, d2, d3⟩ := R
  have q2 : ∀ i, i ≠ 9 → stA (stA (stA h 16 L (nI c0)) 17 L (nI b0)) 2 9 (nI (L + 1)) 2 i = h 2 i := fun i hi => by rw [stA_self, pk_un hi, stA_ne _ 17 _ _ (k := 2) (by decide), stA_ne _ 16 _ _ (k := 2) (by decide)]
  have q16 : stA (stA (stA h 16 L (nI c0)) 17 L (nI b0)) 2 9 (nI (L + 1)) 16 = upd (h 16) L (nI c0) := by rw [stA_ne _ 2 _ _ (k := 16) (by decide), stA_ne _ 17 _ _ (k := 16) (by decide), stA_self]
  have q17 : stA (stA (stA h 16 L (nI c0)) 17 L (nI b0)) 2 9 (nI (L + 1)) 17 = upd (h 17) L (nI b0) := by rw [stA_ne _ 2 _ _ (k := 17) (by decide), stA_self, stA_ne _ 16 _ _ (k := 17) (by decide)]
  have q : ∀ c, c ≠ 2 → c ≠ 16 → c ≠ 17 → stA (stA (stA h 16 L (nI c0)) 17 L (nI b0)) 2 9 (nI (L + 1)) c = h c := fun c x y z => by rw [stA_ne _ 2 _ _ (k := c) x, stA_ne _ 17 _ _ (k := c) z, stA_ne _ 16 _ _ (k := c) y]
  refine ⟨⟨a1, a2, by omega⟩, ⟨by rw [q2 7 (by decide), b1], by rw [q2 8 (by decide), b2], by rw [stA_self, pk_us]⟩, ⟨by rw [hF.2 13 (by decide) (by decide) (by decide), c1], by rw [hF.2 14 (by decide) (by decide) (by decide), c2], e1⟩, ?_, ?_, fun l hl => ?_⟩
  · rw [q 12 (by decide) (by decide) (by decide), hF.1 37 (by decide) (by decide)]
    exact d1
  · rw [q 13 (by decide) (by decide) (by decide), q 14 (by decide) (by decide) (by decide), q 15 (by decide) (by decide) (by decide), hF.1 38 (by decide) (by decide)]
    exact d2
  · rw [q16, q17, e2]
    by_cases hlL : l = L
    · subst hlL
      exact ⟨c0, b0, hc, hb, pk_us, pk_us, by rw [pk_un (by omega), pk_us], pk_us⟩
    · rw [pk_un hlL, pk_un hlL, pk_un (by omega), pk_un (by omega), pk_un (by omega), pk_un (by omega)]
      exact d3 l (by omega)
def FrC (g g' : Hg) : Prop := (∀ c, c ≠ 1 → g' c = g c) ∧ g' 1 1 = g 1 1
def FrP (b : Nat) (u u' : Hg) : Prop := (∀ c, c ≠ 29 → c < b ∨ 39 < c → u' c = u c) ∧ ∀ i, i < 13 ∨ i = 17 ∨ 19 < i → u' 29 i = u 29 i
def FrH (b : Nat) (h h' : Hg) : Prop := ∀ c, c ≠ 2 → c < b ∨ 17 < c → h' c = h c
theorem FrC_refl (g : Hg) : FrC g g := ⟨fun _ _ => rfl, rfl⟩
theorem FrC_trans {a b c : Hg} (h1 : FrC a b) (h2 : FrC b c) : FrC a c := ⟨fun k x => (h2.1 k x).trans (h1.1 k x), h2.2.trans h1.2⟩
theorem FrC_i (g : Hg) {i : Nat} (x : Int32) (hi : i ≠ 1) : FrC g (stA g 1 i x) := ⟨fun c hc => stA_ne _ _ _ _ hc, by rw [stA_self, pk_un (Ne.symm hi)]⟩
theorem FrC_tc {n : Nat} {t : Nat → Nat} {g g' : Hg} (h : FrC g g') (T : TC n t g) : TC n t g' := TC_congr T h.2 (h.1 10 (by decide))
theorem FrP_refl (b : Nat) (g : Hg) : FrP b g g := ⟨fun _ _ _ => rfl, fun _ _ => rfl⟩
theorem FrP_trans {d : Nat} {a b c : Hg} (h1 : FrP d a b) (h2 : FrP d b c) : FrP d a c := ⟨fun k x y => (h2.1 k x y).trans (h1.1 k x y), fun i x => (h2.2 i x).trans (h1.2 i x)⟩
theorem FrP_le {b d : Nat} {g g' : Hg} (h : FrP b g g') (hb : d ≤ b) : FrP d g g' := ⟨fun c x y => h.1 c x (by omega), h.2⟩
theorem FrP_of {b w q : Nat} {g g' : Hg} (h : Fr w q g g') (hw : b ≤ w) (hw2 : w ≤ 39) (hq : 13 ≤ q) (hq2 : q ≤ 19) (hq3 : q ≠ 17) : FrP b g g' := ⟨fun c x y => h.1 c x (by omega), fun i x => h.2 i (by omega) (by omega) (by omega)⟩
theorem FrH_refl (b : Nat) (g : Hg) : FrH b g g := fun _ _ _ => rfl
theorem FrH_trans {d : Nat} {a b c : Hg} (h1 : FrH d a b) (h2 : FrH d b c) : FrH d a c := fun k x y => (h2 k x y).trans (h1 k x y)
theorem FrH_le {b d : Nat} {g g' : Hg} (h : FrH b g g') (hb : d ≤ b) : FrH d g g' := fun c x y => h c x (by omega)
theorem FrH_2 (b : Nat) (g : Hg) (i : Nat) (x : Int32) : FrH b g (stA g 2 i x) := fun c hc _ => stA_ne _ _ _ _ hc
theorem FrH_w {b w : Nat} (g : Hg) (i : Nat) (x : Int32) (h1 : b ≤ w) (h2 : w ≤ 17) : FrH b g (stA g w i x) := fun c _ hc => stA_ne _ _ _ _ (by omega)
theorem FrH_tc {b n : Nat} {t : Nat → Nat} {g g' : Hg} (h : FrH b g g') (hb : 11 ≤ b) (T : TC n t g) : TC n t g' := TC_congr T (congrFun (h 1 (by decide) (by omega)) 1) (h 10 (by decide) (by omega))
/-- class and reference answer alike; without a fault the class reads what the reference has read -/
def Same (b : Nat) (A C : Option (Int32 × Hg)) (D : Option Hg) (g h g2 : Hg) : Prop := ∃ x g' g2', A = some (x, g') ∧ C = some (x, g2') ∧ FrC g g' ∧ FrP (b + 25) g2 g2' ∧ (x = -9 → ∃ h' T F L, D = some h' ∧ FrH b h h' ∧ RDr T F L h' g2')
theorem Same_up {b : Nat} {A C : Option (Int32 × Hg)} {D : Option Hg} {g h g2 g1 h1 u : Hg} (f1 : FrC g g1) (f2 : FrP (b + 25) g2 u) (f3 : FrH b h h1) (S : Same b A C D g1 h1 u) : Same b A C D g h g2 := by
  obtain ⟨x, g', g2', a1, a2, a3, a4, a5⟩ := S
  refine ⟨x, g', g2', a1, a2, FrC_trans f1 a3, FrP_trans f2 a4, fun q => ?_⟩
  obtain ⟨h', T, F, L, b1, b2, b3⟩ := a5 q
  exact ⟨h', T, F, L, b1, FrH_trans f3 b2, b3⟩
theorem Same_fault {b e : Nat} {A C : Option (Int32 × Hg)} {D : Option Hg} {g h g2 g1 u : Hg} (he : e < 2 ^ 31) (a1 : A = some (nI e, g1)) (a2 : C = some (nI e, u)) (f1 : FrC g g1) (f2 : FrP (b + 25) g2 u) : Same b A C D g h g2 :=
  ⟨nI e, g1, u, a1, a2, f1, f2, fun q => absurd q (m9_nI he)⟩
section Ps
variable {n : Nat} {t : Nat → Nat}
theorem rt_end {g2 : Hg} (T : TM n t g2) (v : Int32) (m : Nat) (hf : g2 29 19 = -9) (ha : g2 29 18 = nI n) : sX9_readText_80 v (m + 1) g2 = some (-9, g2) := by
  have h := T.1
  rw [sX9_readText_80, hf, if_pos rfl, T.2.2.1, ha, if_pos (by rw [nI_leI (by omega) (by omega)]; omega)]
theorem rt_fault {g2 : Hg} {e : Nat} (he : e < 2 ^ 31) (v : Int32) (m : Nat) (hf : g2 29 19 = nI e) : sX9_readText_80 v (m + 1) g2 = some (nI e, g2) := by
  rw [sX9_readText_80, hf, if_neg (m9_nI he)]
theorem rt_step {g2 : Hg} (T : TM n t g2) (v : Int32) (m : Nat) {p : Nat} (hp : p < n) (hf : g2 29 19 = -9) (ha : g2 29 18 = nI p) : sX9_readText_80 v (m + 1) g2 = (sX9_readPart g2 (nI (t p))).bind fun x => sX9_readText_80 v m x := by
  have h := T.1
  rw [sX9_readText_80, hf, if_pos rfl, T.2.2.1, ha, if_neg (by rw [nI_leI (by omega) (by omega)]; omega), if_pos (inb_nI (by omega) (by decide)), nI_clamp (by omega), T.2.2.2 p hp]
theorem parts_same (v : Int32) : ∀ (k p T F L : Nat) (g h g2 : Hg) (m1 m2 m3 : Nat), p ≤ n → n - p ≤ k → TC n t g → TC n t h → TM n t g2 → g 1 2 = nI T → g 1 3 = nI F → g 1 4 = nI L → RDr T F L h g2 → g2 29 18 = nI p → g2 29 19 = -9 → n - p < m1 → n - p < m2 → n - p + 1 < m3 → Same 12 (sX7_firstFault_19 m1 g (nI 13) (nI p)) (sX9_readText_80 v m3 g2) (sX1_readFrom_48 m2 h (nI p)) g h g2 := by
  intro k
  induction k with
  | zero =>
    intro p T F L g h g2 m1 m2 m3 hp hk Cg Ch M i2 i3 i4 R hat hf z1 z2 z3
    have e : p = n := by omega
    subst e
    obtain ⟨m1, rfl⟩ : ∃ m', m1 = m' + 1 := ⟨m1 - 1, by omega⟩
    obtain ⟨m2, rfl⟩ : ∃ m', m2 = m' + 1 := ⟨m2 - 1, by omega⟩
    obtain ⟨m3, rfl⟩ : ∃ m', m3 = m' + 1 := ⟨m3 - 1, by omega⟩
    exact ⟨-9, g, g2, ff_fin Cg m1, rt_end M v m3 hf hat, FrC_refl _, FrP_refl _ _, fun _ => ⟨h, T, F, L, rf_end Ch m2, FrH_refl _ _, R⟩⟩
  | succ k ih =>
    intro p T F L g h g2 m1 m2 m3 hp hk Cg Ch M i2 i3 i4 R hat hf z1 z2 z3
    have h60 := Cg.1
    by_cases hpn : p < n
    · have R' := R
      obtain ⟨⟨a1, a2, a3⟩, ⟨b1, b2, b3⟩, ⟨c1, c2, c3⟩, -⟩ := R'
      have hv := Cg.2.1 p hpn
      obtain ⟨m3, rfl⟩ : ∃ m', m3 = m' + 2 := ⟨m3 - 2, by omega⟩
      obtain ⟨m2, rfl⟩ : ∃ m', m2 = m' + 1 := ⟨m2 - 1, by omega⟩
      have eC := rt_step M v (m3 + 1) hpn hf hat
      have eU : stA g2 29 18 (g2 29 18 + nI 1) = stA g2 29 18 (nI (p + 1)) := by rw [hat, nI_add]
      have FU : ∀ w q, Fr w q g2 (stA g2 29 18 (nI (p + 1))) := fun w q => Fr_i _ _ _ (Or.inl rfl)
      have MU : TM n t (stA g2 29 18 (nI (p + 1))) := Fr_tm (FU 37 13) (by decide) (by decide) M
      have u18 : stA g2 29 18 (nI (p + 1)) 29 18 = nI (p + 1) := by rw [stA_self, pk_us]
      have u19 : stA g2 29 18 (nI (p + 1)) 29 19 = -9 := by rw [stA_self, pk_un (by decide), hf]
      have ui : ∀ i, i ≠ 18 → stA g2 29 18 (nI (p + 1)) 29 i = g2 29 i := fun i hi => by rw [stA_self, pk_un hi]
      have uc : ∀ c, c ≠ 29 → stA g2 29 18 (nI (p + 1)) c = g2 c := fun c hc => stA_ne _ _ _ _ hc
      by_cases hW : t p = 87 ∧ T < 6
      · obtain ⟨u, q1, q2, q3, q4⟩ := pW MU (p := p + 1) (a := T) u19 u18 (by omega) (by rw [ui 13 (by decide), c1]) hW.2
        have FF : Fr 37 13 g2 u := Fr_trans (FU 37 13) q2
        have FP : FrP 37 g2 u := FrP_of FF (by decide) (by decide) (by decide) (by decide) (by decide)
        rw [hW.1, rp_W c1 hW.2, eU, q1, Option.bind_some] at eC
        obtain ⟨m1, rfl⟩ : ∃ m', m1 = m' + 2 := ⟨m1 - 2, by omega⟩
        have eA := ff_W Cg i2 hW.2 (m1 + 1) hpn hW.1
        have fg : FrC g (stA g 1 2 (nI (T + 1))) := FrC_i _ _ (by decide)
        have Cg' := FrC_tc fg Cg
        by_cases hg : p + 1 < n ∧ 48 ≤ t (p + 1) ∧ t (p + 1) ≤ 57
        · obtain ⟨r1, r2, r3, r4⟩ := q3 hg
          rw [ff_ok Cg' trs_14 m1 hg.1 hg.2.1 hg.2.2] at eA
          have eD := rf_step Ch m2 hpn
          rw [hW.1, if_pos rfl, c_addTide Ch b1 hW.2 hg.1 hg.2.1, Option.bind_some] at eD
          have fh : FrH 12 h (stA (stA h 12 T (nI (t (p + 1) - 48))) 2 7 (nI (T + 1))) := FrH_trans (FrH_w _ _ _ (by decide) (by decide)) (FrH_2 _ _ _ _)
          rw [eA, eC, eD]
          refine Same_up fg FP fh (ih (p + 2) (T + 1) F L _ _ _ m1 m2 (m3 + 1) (by omega) (by omega) Cg' (FrH_tc fh (by decide) Ch) (Fr_tm FF (by decide) (by decide) M) (by rw [stA_self, pk_us]) (by rw [stA_self, pk_un (by decide), i3]) (by rw [stA_self, pk_un (by decide), i4]) (RD_W R hW.2 (by omega) FF r3 (by rw [r4, uc 37 (by decide)])) r1 r2 (by omega) (by omega) (by omega))
        · rw [ff_bad Cg' trs_14 m1 (by omega) hg] at eA
          rw [rt_fault (by omega) v m3 (q4 hg)] at eC
          exact Same_fault (by omega) eA eC fg FP
      by_cases hF : t p = 70 ∧ F < 5
      · obtain ⟨u, q1, q2, q3, q4⟩ := pF MU (p := p + 1) (a := F) u19 u18 (by omega) (by rw [ui 14 (by decide), c2]) hF.2
        have FF : Fr 38 14 g2 u := Fr_trans (FU 38 14) q2
        have FP : FrP 37 g2 u := FrP_of FF (by decide) (by decide) (by decide) (by decide) (by decide)
        rw [hF.1, rp_F c2 hF.2, eU, q1, Option.bind_some] at eC
        have fg : FrC g (stA g 1 3 (nI (F + 1))) := FrC_i _ _ (by decide)
        have Cg' := FrC_tc fg Cg
        by_cases hg : p + 1 < n ∧ 97 ≤ t (p + 1) ∧ t (p + 1) ≤ 108
        · obtain ⟨q3, q5⟩ := q3 hg
          by_cases hg2 : p + 1 + 1 < n ∧ 49 ≤ t (p + 1 + 1) ∧ t (p + 1 + 1) ≤ 57
          · obtain ⟨q3, q6⟩ := q3 hg2
            obtain ⟨m1, rfl⟩ : ∃ m', m1 = m' + 4 := ⟨m1 - 4, by omega⟩
            have eA := ff_F Cg i3 hF.2 (m1 + 3) hpn hF.1
            rw [ff_ok Cg' trs_15 (m1 + 2) hg.1 hg.2.1 hg.2.2, ff_ok Cg' trs_16 (m1 + 1) hg2.1 hg2.2.1 hg2.2.2] at eA
            by_cases hg3 : p + 1 + 2 < n ∧ 48 ≤ t (p + 1 + 2) ∧ t (p + 1 + 2) ≤ 51
            · obtain ⟨r1, r2, r3, r4⟩ := q3 hg3
              rw [ff_ok Cg' trs_17 m1 (p := p + 1 + 1 + 1) hg3.1 hg3.2.1 hg3.2.2] at eA
              have eD := rf_step Ch m2 hpn
              rw [hF.1, if_neg (by decide), if_pos rfl, c_addFind Ch b2 hF.2 hg3.1 hg.2.1 (show 48 ≤ t (p + 2) from Nat.le_trans (by decide) hg2.2.1) hg3.2.1, Option.bind_some] at eD
              have fh : FrH 12 h (stA (stA (stA (stA h 13 F (nI (t (p + 1) - 97))) 14 F (nI (t (p + 2) - 48))) 15 F (nI (t (p + 3) - 48))) 2 8 (nI (F + 1))) := FrH_trans (FrH_w _ _ _ (by decide) (by decide)) (FrH_trans (FrH_w _ _ _ (by decide) (by decide)) (FrH_trans (FrH_w _ _ _ (by decide) (by decide)) (FrH_2 _ _ _ _)))
              rw [eA, eC, eD]
              have hg2' : 49 ≤ t (p + 2) ∧ t (p + 2) ≤ 57 := hg2.2
              have hg3' : 48 ≤ t (p + 3) ∧ t (p + 3) ≤ 51 := hg3.2
              refine Same_up fg FP fh (ih (p + 4) T (F + 1) L _ _ _ m1 m2 (m3 + 1) (by omega) (by omega) Cg' (FrH_tc fh (by decide) Ch) (Fr_tm FF (by decide) (by decide) M) (by rw [stA_self, pk_un (by decide), i2]) (by rw [stA_self, pk_us]) (by rw [stA_self, pk_un (by decide), i4]) (RD_F R hF.2 (by omega) (by omega) (by omega) (by omega) FF r3 (by rw [r4, uc 38 (by decide)])) r1 r2 (by omega) (by omega) (by omega))
            · rw [ff_bad Cg' trs_17 m1 (p := p + 1 + 1 + 1) (by omega) hg3] at eA
              rw [rt_fault (by omega) v m3 (q6 hg3)] at eC
              exact Same_fault (by omega) eA eC fg FP
          · obtain ⟨m1, rfl⟩ : ∃ m', m1 = m' + 3 := ⟨m1 - 3, by omega⟩
            have eA := ff_F Cg i3 hF.2 (m1 + 2) hpn hF.1
            rw [ff_ok Cg' trs_15 (m1 + 1) hg.1 hg.2.1 hg.2.2, ff_bad Cg' trs_16 m1 (by omega) hg2] at eA
            rw [rt_fault (by omega) v m3 (q5 hg2)] at eC
            exact Same_fault (by omega) eA eC fg FP
        · obtain ⟨m1, rfl⟩ : ∃ m', m1 = m' + 2 := ⟨m1 - 2, by omega⟩
          have eA := ff_F Cg i3 hF.2 (m1 + 1) hpn hF.1
          rw [ff_bad Cg' trs_15 m1 (by omega) hg] at eA
          rw [rt_fault (by omega) v m3 (q4 hg)] at eC
          exact Same_fault (by omega) eA eC fg FP
      by_cases hL : t p = 76 ∧ L < 4
      · obtain ⟨u, q1, q2, q3, q4⟩ := pL MU (p := p + 1) (a := L) u19 u18 (by omega) (by rw [ui 15 (by decide), c3]) hL.2
        have FF : Fr 39 15 g2 u := Fr_trans (FU 39 15) q2
        have FP : FrP 37 g2 u := FrP_of FF (by decide) (by decide) (by decide) (by decide) (by decide)
        rw [hL.1, rp_L c3 hL.2, eU, q1, Option.bind_some] at eC
        have fg : FrC g (stA g 1 4 (nI (L + 1))) := FrC_i _ _ (by decide)
        have Cg' := FrC_tc fg Cg
        by_cases hg : p + 1 < n ∧ 97 ≤ t (p + 1) ∧ t (p + 1) ≤ 108
        · obtain ⟨q3, q5⟩ := q3 hg
          obtain ⟨m1, rfl⟩ : ∃ m', m1 = m' + 3 := ⟨m1 - 3, by omega⟩
          have eA := ff_L Cg i4 hL.2 (m1 + 2) hpn hL.1
          rw [ff_ok Cg' trs_18 (m1 + 1) hg.1 hg.2.1 hg.2.2] at eA
          by_cases hg2 : p + 1 + 1 < n ∧ 48 ≤ t (p + 1 + 1) ∧ t (p + 1 + 1) ≤ 51
          · obtain ⟨r1, r2, r3, r4⟩ := q3 hg2
            rw [ff_ok Cg' trs_19 m1 hg2.1 hg2.2.1 hg2.2.2] at eA
            have eD := rf_step Ch m2 hpn
            rw [hL.1, if_neg (by decide), if_neg (by decide), c_addLark Ch b3 hL.2 hg2.1 hg.2.1 hg2.2.1, Option.bind_some] at eD
            have fh : FrH 12 h (stA (stA (stA h 16 L (nI (t (p + 1) - 97))) 17 L (nI (t (p + 2) - 48))) 2 9 (nI (L + 1))) := FrH_trans (FrH_w _ _ _ (by decide) (by decide)) (FrH_trans (FrH_w _ _ _ (by decide) (by decide)) (FrH_2 _ _ _ _))
            rw [eA, eC, eD]
            have hg2' : 48 ≤ t (p + 2) ∧ t (p + 2) ≤ 51 := hg2.2
            refine Same_up fg FP fh (ih (p + 3) T F (L + 1) _ _ _ m1 m2 (m3 + 1) (by omega) (by omega) Cg' (FrH_tc fh (by decide) Ch) (Fr_tm FF (by decide) (by decide) M) (by rw [stA_self, pk_un (by decide), i2]) (by rw [stA_self, pk_un (by decide), i3]) (by rw [stA_self, pk_us]) (RD_L R hL.2 (by omega) (by omega) FF r3 (by rw [r4, uc 39 (by decide)])) r1 r2 (by omega) (by omega) (by omega))
          · rw [ff_bad Cg' trs_19 m1 (by omega) hg2] at eA
            rw [rt_fault (by omega) v m3 (q5 hg2)] at eC
            exact Same_fault (by omega) eA eC fg FP
        · obtain ⟨m1, rfl⟩ : ∃ m', m1 = m' + 2 := ⟨m1 - 2, by omega⟩
          have eA := ff_L Cg i4 hL.2 (m1 + 1) hpn hL.1
          rw [ff_bad Cg' trs_18 m1 (by omega) hg] at eA
          rw [rt_fault (by omega) v m3 (q4 hg)] at eC
          exact Same_fault (by omega) eA eC fg FP
      · obtain ⟨m1, rfl⟩ : ∃ m', m1 = m' + 1 := ⟨m1 - 1, by omega⟩
        have eA := ff_none Cg i2 i3 i4 a1 a2 a3 m1 hpn hW hF hL
        have w19 : stA g2 29 19 (g2 29 18) 29 19 = nI p := by rw [stA_self, pk_us, hat]
        rw [rp_none c1 c2 c3 a1 a2 a3 hv hW hF hL, Option.bind_some, rt_fault (by omega) v m3 w19] at eC
        exact Same_fault (by omega) eA eC (FrC_refl _) (FrP_of (Fr_i (w := 37) (q := 13) _ _ _ (Or.inr (Or.inl rfl))) (by decide) (by decide) (by decide) (by decide) (by decide))
    · have e : p = n := by omega
      subst e
      obtain ⟨m1, rfl⟩ : ∃ m', m1 = m' + 1 := ⟨m1 - 1, by omega⟩
      obtain ⟨m2, rfl⟩ : ∃ m', m2 = m' + 1 := ⟨m2 - 1, by omega⟩
      obtain ⟨m3, rfl⟩ : ∃ m', m3 = m' + 1 := ⟨m3 - 1, by omega⟩
      exact ⟨-9, g, g2, ff_fin Cg m1, rt_end M v m3 hf hat, FrC_refl _, FrP_refl _ _, fun _ => ⟨h, T, F, L, rf_end Ch m2, FrH_refl _ _, R⟩⟩
end Ps
