/-! ===== the two states belong together ===== -/
/-- ground and row of both -/
def R0 (y : Gd) (B : Nat) (g g2 : Hg) : Prop := GO y ∧ GC y g ∧ GM y g2 ∧ RR y B (g 18) (nr g2 0)
def TX (g g2 : Hg) : Prop := ∃ n, n ≤ 60 ∧ g 1 1 = nI n ∧ g2 29 17 = nI n ∧ ∀ k, k < n → ∃ a, a ≤ 255 ∧ g 10 k = nI a ∧ g2 40 k = nI a
def AC (y : Gd) (B : Nat) (g g2 : Hg) : Prop := ∃ k x, k ≤ 14 ∧ x < 14 ∧ g 5 1 = nI k ∧ g2 29 20 = nI k ∧ g2 29 21 = nI x ∧ ∀ j, j < k → RR y B (fun i => g 20 (27 * j + i)) (fun i => g2 41 (31 * ((x + 14 - k + j) % 14) + i))
def SL (y : Gd) (B : Nat) (g g2 : Hg) : Prop := ∃ b, b < 4 ∧ g 6 1 = nI b ∧ ∀ s, s < 2 → g2 46 s = (if b.testBit s = true then nI 1 else nI 0) ∧ (b.testBit s = true → RR y B (fun i => g 21 (27 * s + i)) (fun i => g2 47 (31 * s + i)))
def SI (g g2 : Hg) : Prop := ∃ n, n ≤ 6 ∧ g 7 3 = nI n ∧ g2 29 23 = nI n ∧ ∀ k, k < n → ∃ c h b, c < 12 ∧ h ≤ 9 ∧ b ≤ 1 ∧ g 22 k = nI c ∧ g 23 k = nI h ∧ g 24 k = nI b ∧ g2 42 k = nI c ∧ g2 43 k = nI h ∧ g2 44 k = nI b
def RA (y : Gd) (B : Nat) (g g2 : Hg) : Prop := R0 y B g g2 ∧ TX g g2 ∧ AC y B g g2 ∧ SL y B g g2 ∧ SI g g2
/-- what class and reference know, behind at most B calls -/
def Rel (B : Nat) (g : Hg) (q : Int64) (g2 : Hg) (q2 : Int64) : Prop := (∃ y, RA y B g g2) ∧ q = q2 ∧ B < 2 ^ 18
theorem RR_congr {y : Gd} {B : Nat} {r r' n n' : Nat → Int32} (o : GO y) (hr : ∀ k, k < 27 → r' k = r k) (hn : ∀ k, k < 31 → n' k = n k) (h : RR y B r n) : RR y B r' n' := by
  have hL := o.2.2.1
  have hF := o.2.1
  obtain ⟨h1, h2, ⟨H, b1, b2, b3⟩, ⟨d, c1, c2, c3⟩, ⟨w, d1, d2, d3⟩, sb, s1, s2, s3⟩ := h
  refine ⟨fun k hk => ?_, fun f hf hf5 => ?_, ⟨H, b1, ?_, ?_⟩, ⟨d, c1, ?_, ?_⟩, ⟨w, d1, ?_, ?_⟩, sb, s1, ?_, fun f hf => FR_congr (by omega) (fun k a b => hr k (by omega)) (fun k a b => hn k (by omega)) (s3 f hf)⟩
  · rw [hr k (by omega), hn k (by omega), hr (4 + k) (by omega), hn (4 + k) (by omega)]; exact h1 k hk
  · rw [hr _ (by omega)]; exact h2 f hf hf5
  · rw [hr _ (by omega)]; exact b2
  · rw [hn _ (by omega)]; exact b3
  · rw [hr _ (by omega)]; exact c2
  · rw [hn _ (by omega)]; exact c3
  · rw [hr _ (by omega)]; exact d2
  · rw [hn _ (by omega)]; exact d3
  · rw [hr _ (by omega)]; exact s2
theorem R0_mono {y : Gd} {B C : Nat} {g g2 : Hg} (h : R0 y B g g2) (hBC : B ≤ C) : R0 y C g g2 := ⟨h.1, h.2.1, h.2.2.1, RR_mono h.2.2.2 hBC⟩
theorem AC_mono {y : Gd} {B C : Nat} {g g2 : Hg} (h : AC y B g g2) (hBC : B ≤ C) : AC y C g g2 := by
  obtain ⟨k, x, h1, h2, h3, h4, h5, h6⟩ := h
  exact ⟨k, x, h1, h2, h3, h4, h5, fun j hj => RR_mono (h6 j hj) hBC⟩
theorem SL_mono {y : Gd} {B C : Nat} {g g2 : Hg} (h : SL y B g g2) (hBC : B ≤ C) : SL y C g g2 := by
  obtain ⟨b, h1, h2, h3⟩ := h
  exact ⟨b, h1, h2, fun s hs => ⟨(h3 s hs).1, fun q => RR_mono ((h3 s hs).2 q) hBC⟩⟩
theorem RA_mono {y : Gd} {B C : Nat} {g g2 : Hg} (h : RA y B g g2) (hBC : B ≤ C) : RA y C g g2 :=
  ⟨R0_mono h.1 hBC, h.2.1, AC_mono h.2.2.1 hBC, SL_mono h.2.2.2.1 hBC, h.2.2.2.2⟩
theorem GC_congr {y : Gd} {g g' : Hg} (h2 : g' 2 = g 2) (h11 : g' 11 = g 11) (h12 : g' 12 = g 12) (h14 : g' 14 = g 14) (h15 : g' 15 = g 15) (h17 : g' 17 = g 17) (h : GC y g) : GC y g' := by
  unfold GC
  rw [h2, h11, h12, h14, h15, h17]
  exact h
theorem GM_congr {y : Gd} {g g' : Hg} (a0 : g' 29 0 = g 29 0) (a1 : g' 29 1 = g 29 1) (a2 : g' 29 2 = g 29 2) (h30 : g' 30 = g 30) (h31 : g' 31 = g 31) (h32 : g' 32 = g 32) (h33 : g' 33 = g 33) (h34 : g' 34 = g 34) (h : GM y g) : GM y g' := by
  unfold GM
  rw [a0, a1, a2, h30, h31, h32, h33, h34]
  exact h
theorem TX_congr {g g' g2 g2' : Hg} (h1 : g' 1 1 = g 1 1) (h10 : g' 10 = g 10) (m17 : g2' 29 17 = g2 29 17) (m40 : g2' 40 = g2 40) (h : TX g g2) : TX g' g2' := by
  unfold TX
  rw [h1, h10, m17, m40]
  exact h
theorem AC_congr {y : Gd} {B : Nat} {g g' g2 g2' : Hg} (h5 : g' 5 1 = g 5 1) (h20 : g' 20 = g 20) (m20 : g2' 29 20 = g2 29 20) (m21 : g2' 29 21 = g2 29 21) (m41 : g2' 41 = g2 41) (h : AC y B g g2) : AC y B g' g2' := by
  unfold AC
  rw [h5, h20, m20, m21, m41]
  exact h
theorem SL_congr {y : Gd} {B : Nat} {g g' g2 g2' : Hg} (h6 : g' 6 1 = g 6 1) (h21 : g' 21 = g 21) (m46 : g2' 46 = g2 46) (m47 : g2' 47 = g2 47) (h : SL y B g g2) : SL y B g' g2' := by
  unfold SL
  rw [h6, h21, m46, m47]
  exact h
theorem SI_congr {g g' g2 g2' : Hg} (h7 : g' 7 3 = g 7 3) (h22 : g' 22 = g 22) (h23 : g' 23 = g 23) (h24 : g' 24 = g 24) (m23 : g2' 29 23 = g2 29 23) (m42 : g2' 42 = g2 42) (m43 : g2' 43 = g2 43) (m44 : g2' 44 = g2 44) (h : SI g g2) : SI g' g2' := by
  unfold SI
  rw [h7, h22, h23, h24, m23, m42, m43, m44]
  exact h
/-- only scratch has changed: the trial rows and the tables of what was reckoned -/
def Scr (g g' : Hg) : Prop := ∀ c, c ≠ 19 → c ≠ 25 → c ≠ 26 → c ≠ 27 → c ≠ 28 → g' c = g c
def ScM (g g' : Hg) : Prop := (∀ c, c ≠ 35 → c ≠ 45 → g' c = g c) ∧ ∀ k, k < 31 → g' 35 k = g 35 k
theorem Scr_refl (g : Hg) : Scr g g := fun _ _ _ _ _ _ => rfl
theorem ScM_refl (g : Hg) : ScM g g := ⟨fun _ _ _ => rfl, fun _ _ => rfl⟩
theorem Scr_trans {a b c : Hg} (h1 : Scr a b) (h2 : Scr b c) : Scr a c := fun k q1 q2 q3 q4 q5 => (h2 k q1 q2 q3 q4 q5).trans (h1 k q1 q2 q3 q4 q5)
theorem ScM_trans {a b c : Hg} (h1 : ScM a b) (h2 : ScM b c) : ScM a c := ⟨fun k q1 q2 => (h2.1 k q1 q2).trans (h1.1 k q1 q2), fun k q => (h2.2 k q).trans (h1.2 k q)⟩
theorem Scr_set {g : Hg} {c : Nat} {r : Nat → Int32} (hc : c = 19 ∨ c = 25 ∨ c = 26 ∨ c = 27 ∨ c = 28) : Scr g (setA g c r) := fun k q1 q2 q3 q4 q5 => setA_ne _ _ (by omega)
theorem ScM_nw {g : Hg} {n : Nat → Int32} : ScM g (nw g 1 n) := ⟨fun c q1 q2 => nw_ne _ _ _ q1, fun k hk => by
  unfold nw
  rw [setA_self, if_neg (by omega)]⟩
theorem ScM_45 {g : Hg} {r : Nat → Int32} : ScM g (setA g 45 r) := ⟨fun c q1 q2 => setA_ne _ _ q2, fun k hk => by rw [setA_ne _ _ (by decide)]⟩
theorem R0_scr {y : Gd} {B : Nat} {g g' g2 g2' : Hg} (h : R0 y B g g2) (s : Scr g g') (m : ScM g2 g2') : R0 y B g' g2' := by
  obtain ⟨o, G, M, R⟩ := h
  refine ⟨o, GC_congr ?_ ?_ ?_ ?_ ?_ ?_ G, GM_congr ?_ ?_ ?_ ?_ ?_ ?_ ?_ ?_ M, ?_⟩
  any_goals exact s _ (by decide) (by decide) (by decide) (by decide) (by decide)
  any_goals exact m.1 _ (by decide) (by decide)
  any_goals exact congrFun (m.1 29 (by decide) (by decide)) _
  rw [s 18 (by decide) (by decide) (by decide) (by decide) (by decide)]
  refine RR_congr o (fun _ _ => rfl) (fun k hk => ?_) R
  unfold nr
  exact m.2 _ (by omega)
theorem RA_scr {y : Gd} {B : Nat} {g g' g2 g2' : Hg} (h : RA y B g g2) (s : Scr g g') (m : ScM g2 g2') : RA y B g' g2' := by
  obtain ⟨h0, h1, h2, h3, h4⟩ := h
  have c1 : ∀ c i, c ≠ 19 → c ≠ 25 → c ≠ 26 → c ≠ 27 → c ≠ 28 → g' c i = g c i := fun c i a1 a2 a3 a4 a5 => congrFun (s c a1 a2 a3 a4 a5) i
  have c2 : ∀ i, g2' 29 i = g2 29 i := fun i => congrFun (m.1 29 (by decide) (by decide)) i
  have c3 : ∀ c, c ≠ 35 → c ≠ 45 → g2' c = g2 c := m.1
  refine ⟨R0_scr h0 s m, TX_congr ?_ ?_ (c2 _) (c3 _ (by decide) (by decide)) h1, AC_congr ?_ ?_ (c2 _) (c2 _) (c3 _ (by decide) (by decide)) h2, SL_congr ?_ ?_ (c3 _ (by decide) (by decide)) (c3 _ (by decide) (by decide)) h3, SI_congr ?_ ?_ ?_ ?_ (c2 _) (c3 _ (by decide) (by decide)) (c3 _ (by decide) (by decide)) (c3 _ (by decide) (by decide)) h4⟩
  any_goals exact c1 _ _ (by decide) (by decide) (by decide) (by decide) (by decide)
  all_goals exact s _ (by decide) (by decide) (by decide) (by decide) (by decide)
theorem Rel_scr {B : Nat} {g g' g2 g2' : Hg} {q q2 : Int64} (h : Rel B g q g2 q2) (s : Scr g g') (m : ScM g2 g2') : Rel B g' q g2' q2 := by
  obtain ⟨⟨y, h⟩, e, b⟩ := h
  exact ⟨⟨y, RA_scr h s m⟩, e, b⟩
theorem Rel_mono {B C : Nat} {g g2 : Hg} {q q2 : Int64} (h : Rel B g q g2 q2) (hBC : B ≤ C) (hC : C < 2 ^ 18) : Rel C g q g2 q2 := by
  obtain ⟨⟨y, h⟩, e, b⟩ := h
  exact ⟨⟨y, RA_mono h hBC⟩, e, hC⟩
theorem nr0 (g : Hg) (k : Nat) : g 35 k = nr g 0 k := by unfold nr; rw [Nat.mul_zero, Nat.zero_add]
theorem cell_no {a : Int32} (h : wi a 0 11 = false) : sX9_isCell a = false := by
  unfold sX9_isCell; rw [m_in a (lN 0) 11 0 11 rfl rfl]; exact h
theorem cell_ok {c : Nat} (hc : c < 12) : sX9_isCell (nI c) = true := by
  unfold sX9_isCell; rw [m_in (nI c) (lN 0) 11 0 11 rfl rfl]; exact wi_nI (lo := 0) (hi := 11) (by omega) (by omega) (by omega)
