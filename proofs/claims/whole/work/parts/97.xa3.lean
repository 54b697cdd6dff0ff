/-! ===== the heights; the first fault, both ===== -/
def HT (b : Nat) (h g2 : Hg) : Prop := ∀ c, c < b → ∃ w, w ≤ 9 ∧ h 11 c = nI w ∧ g2 36 c = nI w
def SameH (A C : Option (Int32 × Hg)) (D : Option Hg) (g h g2 : Hg) : Prop := ∃ x g' g2', A = some (x, g') ∧ C = some (x, g2') ∧ FrC g g' ∧ FrP 36 g2 g2' ∧ (x = -9 → ∃ h' T F L, D = some h' ∧ FrH 11 h h' ∧ RDr T F L h' g2' ∧ HT 12 h' g2')
theorem SameH_up {A C : Option (Int32 × Hg)} {D : Option Hg} {g h g2 g1 h1 u : Hg} (f1 : FrC g g1) (f2 : FrP 36 g2 u) (f3 : FrH 11 h h1) (S : SameH A C D g1 h1 u) : SameH A C D g h g2 := by
  obtain ⟨x, g', g2', a1, a2, a3, a4, a5⟩ := S
  refine ⟨x, g', g2', a1, a2, FrC_trans f1 a3, FrP_trans f2 a4, fun q => ?_⟩
  obtain ⟨h', T, F, L, b1, b2, b3⟩ := a5 q
  exact ⟨h', T, F, L, b1, FrH_trans f3 b2, b3⟩
theorem SameH_fault {e : Nat} {A C : Option (Int32 × Hg)} {D : Option Hg} {g h g2 g1 u : Hg} (he : e < 2 ^ 31) (a1 : A = some (nI e, g1)) (a2 : C = some (nI e, u)) (f1 : FrC g g1) (f2 : FrP 36 g2 u) : SameH A C D g h g2 :=
  ⟨nI e, g1, u, a1, a2, f1, f2, fun q => absurd q (m9_nI he)⟩
section Hs
variable {n : Nat} {t : Nat → Nat}
theorem rh_step {g2 u : Hg} {v : Int32} {c : Nat} (m : Nat) (hc : c < 12) (e : sX9_nextOf g2 (nI 48) (nI 0) (nI 9) = some (v, u)) : sX9_readText_53 (m + 1) g2 (nI c) = sX9_readText_53 m (stA u 36 c v) (nI (c + 1)) := by
  rw [sX9_readText_53, if_neg (by rw [nI_leI (by omega) (by omega)]; omega), e, Option.bind_some, if_pos (inb_nI hc (by decide)), nI_clamp (by omega), nI_add]
theorem rh_fault {e : Nat} (he : e < 2 ^ 31) : ∀ (k c m : Nat) (g2 : Hg), c + k = 12 → k < m → g2 29 19 = nI e → ∃ g2', sX9_readText_53 m g2 (nI c) = some (nI e, g2') ∧ Fr 36 18 g2 g2' := by
  intro k
  induction k with
  | zero =>
    intro c m g2 hc hm hf
    obtain ⟨m, rfl⟩ : ∃ m', m = m' + 1 := ⟨m - 1, by omega⟩
    have e : c = 12 := by omega
    subst e
    exact ⟨g2, by rw [sX9_readText_53, if_pos (by decide), rt_fault he _ 99 hf], Fr_refl _ _ _⟩
  | succ k ih =>
    intro c m g2 hc hm hf
    obtain ⟨m, rfl⟩ : ∃ m', m = m' + 1 := ⟨m - 1, by omega⟩
    rw [rh_step m (by omega) (m_next_f he hf _ _ _)]
    obtain ⟨g2', h1, h2⟩ := ih (c + 1) m (stA g2 36 c (nI 0)) (by omega) (by omega) (by rw [stA_ne _ 36 _ _ (k := 29) (by decide), hf])
    exact ⟨g2', h1, Fr_trans (Fr_w _ _ _ (by decide)) h2⟩
theorem heights_same : ∀ (k c : Nat) (g h g2 : Hg) (m1 m2 m3 : Nat), c + k = 12 → c + 1 ≤ n → TC n t g → TC n t h → TM n t g2 → g 1 2 = nI 0 → g 1 3 = nI 0 → g 1 4 = nI 0 → RDr 0 0 0 h g2 → HT c h g2 → g2 29 18 = nI (c + 1) → g2 29 19 = -9 → n < m1 + c + 1 → k < m2 → k < m3 → SameH (sX7_firstFault_19 m1 g (nI (c + 1)) (nI (c + 1))) (sX9_readText_53 m3 g2 (nI c)) (sX1_readFrom_17 m2 h (nI c)) g h g2 := by
  intro k
  induction k with
  | zero =>
    intro c g h g2 m1 m2 m3 hk hcn Cg Ch M i2 i3 i4 R H hat hf z1 z2 z3
    have e : c = 12 := by omega
    subst e
    have h60 := Cg.1
    obtain ⟨m2, rfl⟩ : ∃ m', m2 = m' + 1 := ⟨m2 - 1, by omega⟩
    obtain ⟨m3, rfl⟩ : ∃ m', m3 = m' + 1 := ⟨m3 - 1, by omega⟩
    rw [sX9_readText_53, if_pos (by decide), sX1_readFrom_17, if_pos (by decide)]
    obtain ⟨x, g', g2', a1, a2, a3, a4, a5⟩ := parts_same (t := t) (nI 12) n 13 0 0 0 g h g2 m1 100 100 hcn (by omega) Cg Ch M i2 i3 i4 R hat hf (by omega) (by omega) (by omega)
    refine ⟨x, g', g2', a1, a2, a3, FrP_le a4 (by decide), fun q => ?_⟩
    obtain ⟨h', T, F, L, b1, b2, b3⟩ := a5 q
    refine ⟨h', T, F, L, b1, FrH_le b2 (by decide), b3, fun c hc => ?_⟩
    rw [b2 11 (by decide) (by decide), a4.1 36 (by decide) (by decide)]
    exact H c hc
  | succ k ih =>
    intro c g h g2 m1 m2 m3 hk hcn Cg Ch M i2 i3 i4 R H hat hf z1 z2 z3
    have h60 := Cg.1
    obtain ⟨m1, rfl⟩ : ∃ m', m1 = m' + 1 := ⟨m1 - 1, by omega⟩
    obtain ⟨m2, rfl⟩ : ∃ m', m2 = m' + 1 := ⟨m2 - 1, by omega⟩
    obtain ⟨m3, rfl⟩ : ∃ m', m3 = m' + 1 := ⟨m3 - 1, by omega⟩
    obtain ⟨v, u, e, f1, f2, f3, f4, f5⟩ := m_next M (fr := 48) (lo := 0) (hi := 9) 36 18 hf hat hcn (by decide) (by decide)
    have FF : Fr 36 18 g2 (stA u 36 c v) := Fr_trans f2 (Fr_w _ _ _ (by decide))
    have FP : FrP 36 g2 (stA u 36 c v) := FrP_of FF (by decide) (by decide) (by decide) (by decide) (by decide)
    rw [rh_step m3 (by omega) e]
    by_cases hg : c + 1 < n ∧ 48 ≤ t (c + 1) ∧ t (c + 1) ≤ 57
    · obtain ⟨k1, k2, k3⟩ := f4 hg
      have eD : sX1_readFrom_17 (m2 + 1) h (nI c) = sX1_readFrom_17 m2 (stA h 11 c (nI (t (c + 1) - 48))) (nI (c + 1)) := by
        rw [sX1_readFrom_17, if_neg (by rw [nI_leI (by omega) (by omega)]; omega), nI_add, Nat.add_comm 1 c, c_letter Ch hg.1, Option.bind_some, if_pos (inb_nI (by omega) (by decide)), nI_clamp (by omega), pk_sub hg.2.1, nI_add]
      rw [ff_ok Cg (trs_h (by omega) (by omega)) m1 hg.1 hg.2.1 hg.2.2, eD]
      have fh : FrH 11 h (stA h 11 c (nI (t (c + 1) - 48))) := FrH_w _ _ _ (by decide) (by decide)
      have q : ∀ d, d ≠ 11 → stA h 11 c (nI (t (c + 1) - 48)) d = h d := fun d hd => stA_ne _ _ _ _ hd
      refine SameH_up (FrC_refl _) FP fh (ih (c + 1) _ _ _ m1 m2 m3 (by omega) (by omega) Cg (FrH_tc fh (by decide) Ch) (Fr_tm FF (by decide) (by decide) M) i2 i3 i4 ?_ ?_ ?_ ?_ (by omega) (by omega) (by omega))
      · obtain ⟨a1, a2, a3, -⟩ := R
        refine ⟨a1, ?_, ⟨?_, ?_, ?_⟩, fun _ z => absurd z (Nat.not_lt_zero _), fun _ z => absurd z (Nat.not_lt_zero _), fun _ z => absurd z (Nat.not_lt_zero _)⟩
        · rw [q 2 (by decide)]; exact a2
        · rw [FF.2 13 (by decide) (by decide) (by decide)]; exact a3.1
        · rw [FF.2 14 (by decide) (by decide) (by decide)]; exact a3.2.1
        · rw [FF.2 15 (by decide) (by decide) (by decide)]; exact a3.2.2
      · intro d hd
        rw [stA_self, stA_self, f1 36 (by decide)]
        by_cases hdc : d = c
        · subst hdc
          exact ⟨t (d + 1) - 48, by omega, pk_us, by rw [pk_us, k1]⟩
        · rw [pk_un hdc, pk_un hdc]
          exact H d (by omega)
      · rw [stA_ne _ 36 _ _ (k := 29) (by decide), k2]
      · rw [stA_ne _ 36 _ _ (k := 29) (by decide), k3]
    · obtain ⟨g2', j1, j2⟩ := rh_fault (e := c + 1) (by omega) k (c + 1) m3 (stA u 36 c v) (by omega) (by omega) (by rw [stA_ne _ 36 _ _ (k := 29) (by decide), f5 hg])
      exact SameH_fault (by omega) (ff_bad Cg (trs_h (by omega) (by omega)) m1 hcn hg) j1 (FrC_refl _) (FrP_trans FP (FrP_of j2 (by decide) (by decide) (by decide) (by decide) (by decide)))
theorem text_same {g h g2 : Hg} (Cg : TC n t g) (Ch : TC n t h) (M : TM n t g2) : SameH (sX7_firstFault g) (sX9_readText g2) (sX1_readFrom h) g h g2 := by
  have h60 := Cg.1
  unfold sX7_firstFault sX9_readText sX1_readFrom
  have fg : FrC g (stA (stA (stA g 1 2 (nI 0)) 1 3 (nI 0)) 1 4 (nI 0)) := FrC_trans (FrC_i _ _ (by decide)) (FrC_trans (FrC_i _ _ (by decide)) (FrC_i _ _ (by decide)))
  have g12 : (stA (stA (stA g 1 2 (nI 0)) 1 3 (nI 0)) 1 4 (nI 0)) 1 2 = nI 0 := by rw [stA_self, pk_un (by decide), stA_self, pk_un (by decide), stA_self, pk_us]
  have g13 : (stA (stA (stA g 1 2 (nI 0)) 1 3 (nI 0)) 1 4 (nI 0)) 1 3 = nI 0 := by rw [stA_self, pk_un (by decide), stA_self, pk_us]
  have g14 : (stA (stA (stA g 1 2 (nI 0)) 1 3 (nI 0)) 1 4 (nI 0)) 1 4 = nI 0 := by rw [stA_self, pk_us]
  have Cg0 := FrC_tc fg Cg
  generalize (stA (stA (stA g 1 2 (nI 0)) 1 3 (nI 0)) 1 4 (nI 0)) = g0 at fg g12 g13 g14 Cg0
  have fh : FrH 11 h (stA (stA (stA h 2 7 (nI 0)) 2 8 (nI 0)) 2 9 (nI 0)) := FrH_trans (FrH_2 _ _ _ _) (FrH_trans (FrH_2 _ _ _ _) (FrH_2 _ _ _ _))
  have h27 : (stA (stA (stA h 2 7 (nI 0)) 2 8 (nI 0)) 2 9 (nI 0)) 2 7 = nI 0 := by rw [stA_self, pk_un (by decide), stA_self, pk_un (by decide), stA_self, pk_us]
  have h28 : (stA (stA (stA h 2 7 (nI 0)) 2 8 (nI 0)) 2 9 (nI 0)) 2 8 = nI 0 := by rw [stA_self, pk_un (by decide), stA_self, pk_us]
  have h29 : (stA (stA (stA h 2 7 (nI 0)) 2 8 (nI 0)) 2 9 (nI 0)) 2 9 = nI 0 := by rw [stA_self, pk_us]
  have Ch0 := FrH_tc fh (by decide) Ch
  generalize (stA (stA (stA h 2 7 (nI 0)) 2 8 (nI 0)) 2 9 (nI 0)) = h0 at fh h27 h28 h29 Ch0
  have I : ∀ (u : Hg) (i : Nat) (x : Int32), 13 ≤ i → i ≤ 19 → i ≠ 17 → FrP 36 u (stA u 29 i x) := fun u i x a b c => ⟨fun d hd _ => stA_ne _ _ _ _ hd, fun j hj => by rw [stA_self, pk_un (by omega)]⟩
  have fu : FrP 36 g2 (stA (stA (stA (stA (stA g2 29 18 (nI 0)) 29 19 ((-9))) 29 13 (nI 0)) 29 14 (nI 0)) 29 15 (nI 0)) := FrP_trans (I _ _ _ (by decide) (by decide) (by decide)) (FrP_trans (I _ _ _ (by decide) (by decide) (by decide)) (FrP_trans (I _ _ _ (by decide) (by decide) (by decide)) (FrP_trans (I _ _ _ (by decide) (by decide) (by decide)) (I _ _ _ (by decide) (by decide) (by decide)))))
  have u19 : (stA (stA (stA (stA (stA g2 29 18 (nI 0)) 29 19 ((-9))) 29 13 (nI 0)) 29 14 (nI 0)) 29 15 (nI 0)) 29 19 = -9 := by rw [stA_self, pk_un (by decide), stA_self, pk_un (by decide), stA_self, pk_un (by decide), stA_self, pk_us]
  have u13 : (stA (stA (stA (stA (stA g2 29 18 (nI 0)) 29 19 ((-9))) 29 13 (nI 0)) 29 14 (nI 0)) 29 15 (nI 0)) 29 13 = nI 0 := by rw [stA_self, pk_un (by decide), stA_self, pk_un (by decide), stA_self, pk_us]
  have u14 : (stA (stA (stA (stA (stA g2 29 18 (nI 0)) 29 19 ((-9))) 29 13 (nI 0)) 29 14 (nI 0)) 29 15 (nI 0)) 29 14 = nI 0 := by rw [stA_self, pk_un (by decide), stA_self, pk_us]
  have u15 : (stA (stA (stA (stA (stA g2 29 18 (nI 0)) 29 19 ((-9))) 29 13 (nI 0)) 29 14 (nI 0)) 29 15 (nI 0)) 29 15 = nI 0 := by rw [stA_self, pk_us]
  have M0 : TM n t (stA (stA (stA (stA (stA g2 29 18 (nI 0)) 29 19 ((-9))) 29 13 (nI 0)) 29 14 (nI 0)) 29 15 (nI 0)) := TM_congr M (fu.2 17 (by decide)) (fu.1 40 (by decide) (by decide))
  generalize (stA (stA (stA (stA (stA g2 29 18 (nI 0)) 29 19 ((-9))) 29 13 (nI 0)) 29 14 (nI 0)) 29 15 (nI 0)) = u0 at fu u19 u13 u14 u15 M0
  rw [M0.2.2.1]
  by_cases hn : n = 0
  · subst hn
    refine SameH_fault (e := 0) (g1 := g0) (u := u0) (by decide) ?_ (by rw [if_pos nI_0]) fg fu
    rw [sX7_firstFault_19, Cg0.2.2.1, if_pos (by decide), if_neg (by decide)]
  · rw [if_neg (nI_ne0 (by omega) (by omega)), nI_clamp (by decide), M0.2.2.2 0 (by omega), ff_step Cg0 99 _ (by omega)]
    have hv := Cg0.2.1 0 (by omega)
    have ea : sX7_askedBehind g0 (nI 0) (nI (t 0)) = if nI (t 0) = nI 77 then (nI 1, g0) else (-9, g0) := by
      unfold sX7_askedBehind
      rw [if_pos nI_0, nI_add]
    rw [ea]
    by_cases h77 : t 0 = 77
    · rw [h77, if_pos rfl, if_pos rfl, if_neg (m9_nI (by decide))]
      have f1 : FrP 36 g2 (stA u0 29 18 (nI 1)) := FrP_trans fu (I _ _ _ (by decide) (by decide) (by decide))
      have M1 : TM n t (stA u0 29 18 (nI 1)) := TM_congr M (f1.2 17 (by decide)) (f1.1 40 (by decide) (by decide))
      refine SameH_up fg f1 fh (heights_same 12 0 g0 h0 (stA u0 29 18 (nI 1)) 99 100 100 rfl (by omega) Cg0 Ch0 M1 g12 g13 g14 ⟨⟨by decide, by decide, by decide⟩, ⟨h27, h28, h29⟩, ⟨?_, ?_, ?_⟩, fun _ z => absurd z (Nat.not_lt_zero _), fun _ z => absurd z (Nat.not_lt_zero _), fun _ z => absurd z (Nat.not_lt_zero _)⟩ (fun _ z => absurd z (Nat.not_lt_zero _)) ?_ ?_ (by omega) (by decide) (by decide))
      · rw [stA_self, pk_un (by decide), u13]
      · rw [stA_self, pk_un (by decide), u14]
      · rw [stA_self, pk_un (by decide), u15]
      · rw [stA_self, pk_us]
      · rw [stA_self, pk_un (by decide), u19]
    · have h77' : ¬ nI (t 0) = nI 77 := fun q => h77 ((nI_eq (by omega) (by decide)).mp q)
      rw [if_neg h77', if_neg h77', if_pos rfl]
      exact SameH_fault (e := 0) (by decide) rfl rfl fg fu
end Hs
theorem tx_get {g g2 : Hg} (h : TX g g2) : ∃ n t, TC n t g ∧ TM n t g2 := by
  obtain ⟨n, h1, h2, h3, h4⟩ := h
  have key : ∀ k, k < n → (g 10 k).toNatClampNeg ≤ 255 ∧ g 10 k = nI (g 10 k).toNatClampNeg ∧ g2 40 k = nI (g 10 k).toNatClampNeg := fun k hk => by
    obtain ⟨a, a1, a2, a3⟩ := h4 k hk
    rw [a2, a3, nI_clamp (by omega)]
    exact ⟨a1, rfl, rfl⟩
  exact ⟨n, fun k => (g 10 k).toNatClampNeg, ⟨h1, fun k hk => (key k hk).1, h2, fun k hk => (key k hk).2.1⟩, ⟨h1, fun k hk => (key k hk).1, h3, fun k hk => (key k hk).2.2⟩⟩
theorem RA_fr {y : Gd} {B : Nat} {g g2 g' g2' : Hg} (R : RA y B g g2) (f1 : FrC g g') (f2 : FrP 36 g2 g2') : RA y B g' g2' :=
  RA_text R (fun c h1 _ => f1.1 c h1) (fun c h1 h2 => f2.1 c h1 (by omega)) (fun i h => f2.2 i (by omega)) (TX_congr f1.2 (f1.1 10 (by decide)) (f2.2 17 (by decide)) (f2.1 40 (by decide) (by decide)) R.2.1)
theorem op_fault {y : Gd} {B : Nat} {g g2 : Hg} (R : RA y B g g2) : ∃ x g' g2', sX8_fault g = some (x, g') ∧ sX9_fault g2 = some (x, g2') ∧ RA y B g' g2' := by
  obtain ⟨n, t, Cg, M⟩ := tx_get R.2.1
  obtain ⟨x, g', g2', a1, a2, a3, a4, -⟩ := text_same Cg Cg M
  refine ⟨x, g', g2', ?_, ?_, RA_fr R a3 a4⟩
  · unfold sX8_fault
    rw [a1, Option.bind_some]
  · unfold sX9_fault
    rw [a2, Option.bind_some]
