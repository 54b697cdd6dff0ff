/-! ===== rows written: laying down ===== -/
theorem setA_setA (g : Hg) (c : Nat) (r r' : Nat → Int32) : setA (setA g c r) c r' = setA g c r' := by
  funext k; by_cases h : k = c <;> simp [setA, h]
theorem setA_id (g : Hg) (c : Nat) : setA g c (g c) = g := by
  funext k; by_cases h : k = c <;> simp [setA, h]
theorem st_set (g : Hg) (c : Nat) (r : Nat → Int32) (i : Nat) (x : Int32) : stA (setA g c r) c i x = setA g c (upd r i x) := by
  show setA (setA g c r) c (upd (setA g c r c) i x) = _
  rw [setA_setA, setA_self]
theorem st_set0 (g : Hg) (c i : Nat) (x : Int32) : stA g c i x = setA g c (upd (g c) i x) := rfl
/-- the reference's row at a level, written -/
def nw (g : Hg) (v : Nat) (n : Nat → Int32) : Hg := setA g 35 (fun k => if 31 * v ≤ k ∧ k < 31 * v + 31 then n (k - 31 * v) else g 35 k)
theorem nw_at (g : Hg) {v i : Nat} (n : Nat → Int32) (hi : i < 31) : nw g v n 35 (31 * v + i) = n i := by
  unfold nw
  rw [setA_self, if_pos (by omega)]
  congr 1; omega
theorem nw_ne (g : Hg) (v : Nat) (n : Nat → Int32) {c : Nat} (hc : c ≠ 35) : nw g v n c = g c := setA_ne _ _ hc
theorem nr_nw (g : Hg) {v i : Nat} (n : Nat → Int32) (hi : i < 31) : nr (nw g v n) v i = n i := nw_at g n hi
theorem nw_congr (g : Hg) (v : Nat) {n n' : Nat → Int32} (h : ∀ k, k < 31 → n k = n' k) : nw g v n = nw g v n' := by
  unfold nw
  congr 1
  funext k
  by_cases hk : 31 * v ≤ k ∧ k < 31 * v + 31
  · rw [if_pos hk, if_pos hk, h _ (by omega)]
  · rw [if_neg hk, if_neg hk]
theorem nw_id (g : Hg) (v : Nat) : nw g v (nr g v) = g := by
  unfold nw
  have e : (fun k => if 31 * v ≤ k ∧ k < 31 * v + 31 then nr g v (k - 31 * v) else g 35 k) = g 35 := by
    funext k
    by_cases hk : 31 * v ≤ k ∧ k < 31 * v + 31
    · rw [if_pos hk]; unfold nr; congr 1; omega
    · rw [if_neg hk]
  rw [e, setA_id]
theorem st_nw (g : Hg) {v i : Nat} (n : Nat → Int32) (x : Int32) (hi : i < 31) : stA (nw g v n) 35 (31 * v + i) x = nw g v (upd n i x) := by
  show setA (nw g v n) 35 (upd (nw g v n 35) (31 * v + i) x) = _
  unfold nw
  rw [setA_setA, setA_self]
  congr 1
  funext k
  by_cases hk : 31 * v ≤ k ∧ k < 31 * v + 31
  · by_cases hki : k = 31 * v + i
    · subst hki
      rw [if_pos hk]
      have e : 31 * v + i - 31 * v = i := by omega
      simp [upd]
    · rw [if_pos hk]
      have e : ¬ k - 31 * v = i := by omega
      simp only [upd, if_neg hki, if_neg e, if_pos hk]
  · have hki : ¬ k = 31 * v + i := by omega
    simp only [upd, if_neg hki, if_neg hk]
theorem nw_nw (g : Hg) (v : Nat) (n n' : Nat → Int32) : nw (nw g v n) v n' = nw g v n' := by
  have e : nw g v n = setA g 35 (fun k => if 31 * v ≤ k ∧ k < 31 * v + 31 then n (k - 31 * v) else g 35 k) := rfl
  show setA (nw g v n) 35 _ = setA g 35 _
  rw [e, setA_setA]
  congr 1
  funext k
  by_cases hk : 31 * v ≤ k ∧ k < 31 * v + 31
  · rw [if_pos hk, if_pos hk]
  · rw [if_neg hk, if_neg hk, setA_self, if_neg hk]
theorem nr_other (g : Hg) {v w : Nat} (n : Nat → Int32) (hv : v < 2) (hw : w < 2) (hne : v ≠ w) {i : Nat} (hi : i < 31) : nr (nw g v n) w i = nr g w i := by
  unfold nr nw
  rw [setA_self, if_neg (by omega)]
theorem GC_row {y : Gd} {g : Hg} (G : GC y g) {c : Nat} (hc : 18 ≤ c) (r : Nat → Int32) : GC y (setA g c r) := by
  obtain ⟨h1, h2, h3, h4, h5, h6, h7⟩ := G
  refine ⟨?_, ?_, ?_, fun k hk => ?_, fun k hk => ?_, fun k hk => ?_, fun k hk => ?_⟩
  · rw [setA_ne _ _ (by omega)]; exact h1
  · rw [setA_ne _ _ (by omega)]; exact h2
  · rw [setA_ne _ _ (by omega)]; exact h3
  · rw [setA_ne _ _ (by omega)]; exact h4 k hk
  · rw [setA_ne _ _ (by omega)]; exact h5 k hk
  · rw [setA_ne _ _ (by omega), setA_ne _ _ (by omega)]; exact h6 k hk
  · rw [setA_ne _ _ (by omega)]; exact h7 k hk
theorem GM_row {y : Gd} {g : Hg} (G : GM y g) (v : Nat) (n : Nat → Int32) : GM y (nw g v n) := by
  obtain ⟨h1, h2, h3, h4, h5, h6, h7⟩ := G
  refine ⟨?_, ?_, ?_, fun k hk => ?_, fun k hk => ?_, fun k hk => ?_, fun k hk => ?_⟩
  · rw [nw_ne _ _ _ (by decide)]; exact h1
  · rw [nw_ne _ _ _ (by decide)]; exact h2
  · rw [nw_ne _ _ _ (by decide)]; exact h3
  · rw [nw_ne _ _ _ (by decide)]; exact h4 k hk
  · rw [nw_ne _ _ _ (by decide)]; exact h5 k hk
  · rw [nw_ne _ _ _ (by decide), nw_ne _ _ _ (by decide)]; exact h6 k hk
  · rw [nw_ne _ _ _ (by decide)]; exact h7 k hk
/-- the class's row behind i steps of layDown: the finds p of the lark l lie where it is -/
def lyC (r : Nat → Int32) (l : Nat) (p : Nat → Bool) (i : Nat) : Nat → Int32 := fun k => if 8 ≤ k ∧ k < 8 + i ∧ p (k - 8) = true then r l else if 13 ≤ k ∧ k < 13 + i ∧ p (k - 13) = true then -9 else r k
theorem lyC_0 (r : Nat → Int32) (l : Nat) (p : Nat → Bool) : lyC r l p 0 = r := by
  funext k; unfold lyC; rw [if_neg (by omega), if_neg (by omega)]
theorem lyC_lo (r : Nat → Int32) (l : Nat) (p : Nat → Bool) (i : Nat) {k : Nat} (hk : k < 8) : lyC r l p i k = r k := by
  unfold lyC; rw [if_neg (by omega), if_neg (by omega)]
theorem lyC_hi (r : Nat → Int32) (l : Nat) (p : Nat → Bool) {i : Nat} (hi : i ≤ 5) {k : Nat} (hk : 18 ≤ k) : lyC r l p i k = r k := by
  unfold lyC; rw [if_neg (by omega), if_neg (by omega)]
theorem lyC_no (r : Nat → Int32) (l : Nat) (p : Nat → Bool) {i : Nat} (hp : p i = false) : lyC r l p (i + 1) = lyC r l p i := by
  funext k
  unfold lyC
  by_cases h1 : 8 ≤ k ∧ k < 8 + i ∧ p (k - 8) = true
  · rw [if_pos h1, if_pos ⟨h1.1, by omega, h1.2.2⟩]
  · have h1' : ¬ (8 ≤ k ∧ k < 8 + (i + 1) ∧ p (k - 8) = true) := by
      rintro ⟨a, b, c⟩
      by_cases e : k - 8 = i
      · rw [e, hp] at c; cases c
      · exact h1 ⟨a, by omega, c⟩
    rw [if_neg h1, if_neg h1']
    by_cases h2 : 13 ≤ k ∧ k < 13 + i ∧ p (k - 13) = true
    · rw [if_pos h2, if_pos ⟨h2.1, by omega, h2.2.2⟩]
    · have h2' : ¬ (13 ≤ k ∧ k < 13 + (i + 1) ∧ p (k - 13) = true) := by
        rintro ⟨a, b, c⟩
        by_cases e : k - 13 = i
        · rw [e, hp] at c; cases c
        · exact h2 ⟨a, by omega, c⟩
      rw [if_neg h2, if_neg h2']
theorem lyC_yes (r : Nat → Int32) (l : Nat) (p : Nat → Bool) {i : Nat} (hi : i < 5) (hp : p i = true) : upd (upd (lyC r l p i) (8 + i) (r l)) (13 + i) (-9) = lyC r l p (i + 1) := by
  funext k
  by_cases e1 : k = 13 + i
  · subst e1
    have e : 13 + i - 13 = i := by omega
    simp only [upd, if_pos]
    unfold lyC
    rw [if_neg (by omega), if_pos ⟨by omega, by omega, by rw [e]; exact hp⟩]
  · by_cases e2 : k = 8 + i
    · subst e2
      have e : 8 + i - 8 = i := by omega
      simp only [upd, if_neg e1, if_pos]
      unfold lyC
      rw [if_pos ⟨by omega, by omega, by rw [e]; exact hp⟩]
    · simp only [upd, if_neg e1, if_neg e2]
      unfold lyC
      by_cases h1 : 8 ≤ k ∧ k < 8 + i ∧ p (k - 8) = true
      · rw [if_pos h1, if_pos ⟨h1.1, by omega, h1.2.2⟩]
      · have h1' : ¬ (8 ≤ k ∧ k < 8 + (i + 1) ∧ p (k - 8) = true) := fun h => h1 ⟨h.1, by omega, h.2.2⟩
        rw [if_neg h1, if_neg h1']
        by_cases h2 : 13 ≤ k ∧ k < 13 + i ∧ p (k - 13) = true
        · rw [if_pos h2, if_pos ⟨h2.1, by omega, h2.2.2⟩]
        · have h2' : ¬ (13 ≤ k ∧ k < 13 + (i + 1) ∧ p (k - 13) = true) := fun h => h2 ⟨h.1, by omega, h.2.2⟩
          rw [if_neg h2, if_neg h2']
theorem c_layDown {y : Gd} {B t : Nat} {g : Hg} {n : Nat → Int32} (o : GO y) (G : GC y g) (ht : 3 ≤ t) (R : RR y B (g (t + 15)) n) {l : Nat} (hl : l < dL y) : sX4_layDown g t (nI l) = some (setA g (t + 15) (lyC (g (t + 15)) l (fun f => decide (f < dF y) && cr n l f) 5)) := by
  have hL := o.2.2.1
  have hF := o.2.1
  have hbl := bt_lt (cr n l) (dF y)
  have hb : bt (cr n l) (dF y) < 2 ^ 31 := Nat.lt_of_lt_of_le hbl (Nat.pow_le_pow_right (by decide) (by omega))
  unfold sX4_layDown
  rw [c_carriedBy o R hl, Option.bind_some]
  have key := seqloop (fun m a i => sX4_layDown_8 t (nI l) (nI (bt (cr n l) (dF y))) m a i) (fun i => setA g (t + 15) (lyC (g (t + 15)) l (fun f => decide (f < dF y) && cr n l f) i)) 5 (some (setA g (t + 15) (lyC (g (t + 15)) l (fun f => decide (f < dF y) && cr n l f) 5))) (fun m => ?_) (fun m i hi => ?_) 100 (by decide)
  · have e0 : setA g (t + 15) (lyC (g (t + 15)) l (fun f => decide (f < dF y) && cr n l f) 0) = g := by rw [lyC_0, setA_id]
    simp only [e0] at key
    exact key
  · show sX4_layDown_8 _ _ _ _ _ _ = _
    rw [sX4_layDown_8, if_pos (by decide)]
  · show sX4_layDown_8 _ _ _ _ _ _ = sX4_layDown_8 _ _ _ _ _ _
    rw [sX4_layDown_8, if_neg (by rw [nI_leI (by omega) (by omega)]; omega), has_nI hb (by omega), bt_testBit, c_cellOfLark o (GC_row G (by omega) _) hl, setA_self, lyC_lo _ _ _ _ (by omega), Option.bind_some, nI_add, nI_add, nI_add, if_pos (inb_nI (by omega) (by decide)), if_pos (inb_nI (by omega) (by decide)), nI_clamp (by omega), nI_clamp (by omega), st_set, setA_setA, setA_self]
    cases hp : (decide (i < dF y) && cr n l i) with
    | true => rw [if_pos rfl, lyC_yes _ _ (fun f => decide (f < dF y) && cr n l f) hi hp]
    | false => rw [if_neg Bool.false_ne_true, lyC_no _ _ (fun f => decide (f < dF y) && cr n l f) hp]
