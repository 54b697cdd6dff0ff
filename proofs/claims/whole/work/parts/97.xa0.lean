/-! ===== the text: letters, what is asked next ===== -/
theorem st_rd (g : Hg) (c i : Nat) (x : Int32) (c' i' : Nat) : stA g c i x c' i' = if c' = c then (if i' = i then x else g c' i') else g c' i' := by
  by_cases h : c' = c
  · subst h
    rw [stA_self, if_pos rfl]; rfl
  · rw [stA_ne _ _ _ _ h, if_neg h]
theorem st_same (g : Hg) (c i : Nat) : stA g c i (g c i) = g := by
  show setA g c (upd (g c) i (g c i)) = g
  rw [fa_upd_same rfl, setA_id]
def TC (n : Nat) (t : Nat → Nat) (g : Hg) : Prop := n ≤ 60 ∧ (∀ k, k < n → t k ≤ 255) ∧ g 1 1 = nI n ∧ ∀ k, k < n → g 10 k = nI (t k)
def TM (n : Nat) (t : Nat → Nat) (g2 : Hg) : Prop := n ≤ 60 ∧ (∀ k, k < n → t k ≤ 255) ∧ g2 29 17 = nI n ∧ ∀ k, k < n → g2 40 k = nI (t k)
theorem TC_congr {n : Nat} {t : Nat → Nat} {g g' : Hg} (h : TC n t g) (h1 : g' 1 1 = g 1 1) (h10 : g' 10 = g 10) : TC n t g' := by
  unfold TC
  rw [h1, h10]
  exact h
theorem TM_congr {n : Nat} {t : Nat → Nat} {g g' : Hg} (h : TM n t g) (h1 : g' 29 17 = g 29 17) (h10 : g' 40 = g 40) : TM n t g' := by
  unfold TM
  rw [h1, h10]
  exact h
section Tx
variable {n : Nat} {t : Nat → Nat} {g g2 : Hg}
theorem c_letter (T : TC n t g) {p : Nat} (hp : p < n) : sX7_letterAt g (nI p) = some (nI (t p)) := by
  obtain ⟨h1, h2, h3, h4⟩ := T
  unfold sX7_letterAt
  rw [h3, pk_sub (by omega), c_within _ (by decide) (by omega), if_pos (wi_nI (lo := 0) (hi := n - 1) (by omega) (by omega) (by omega)), if_pos (inb_nI (by omega) (by decide)), nI_clamp (by omega), h4 p hp]
theorem m_next_ok (T : TM n t g2) {p fr lo hi : Nat} (hf : g2 29 19 = -9) (ha : g2 29 18 = nI p) (hp : p < n) (h1 : fr + lo ≤ t p) (h2 : t p ≤ fr + hi) (hh : fr + hi ≤ 255) : sX9_nextOf g2 (nI fr) (nI lo) (nI hi) = some (nI (t p - fr), stA g2 29 18 (nI (p + 1))) := by
  obtain ⟨q1, q2, q3, q4⟩ := T
  unfold sX9_nextOf
  rw [hf, if_pos rfl, q3, ha, if_neg (by rw [nI_leI (by omega) (by omega)]; omega)]
  unfold sX9_nextOf_j27
  rw [if_neg (nI_ne0 (by decide) (by decide)), ha, if_pos (inb_nI (by omega) (by decide)), nI_clamp (by omega), q4 p hp, pk_sub (by omega)]
  unfold sX9_nextOf_j49
  rw [if_neg (nI_ne0 (by decide) (by decide)), m_in _ _ _ lo hi (by rw [Int32.toInt_toInt64, nI_toInt (by omega)]) (by rw [Int32.toInt_toInt64, nI_toInt (by omega)]), if_pos (wi_nI (by omega) (by omega) (by omega)), ha, nI_add]
theorem m_next_bad (T : TM n t g2) {p fr lo hi : Nat} (hf : g2 29 19 = -9) (ha : g2 29 18 = nI p) (hp : p ≤ n) (hb : ¬ (p < n ∧ fr + lo ≤ t p ∧ t p ≤ fr + hi)) (hh : fr + hi ≤ 255) (hl : lo ≤ hi) : sX9_nextOf g2 (nI fr) (nI lo) (nI hi) = some (nI 0, stA g2 29 19 (nI p)) := by
  obtain ⟨q1, q2, q3, q4⟩ := T
  unfold sX9_nextOf
  rw [hf, if_pos rfl, q3, ha]
  by_cases hpn : p < n
  · have hv := q2 p hpn
    rw [if_neg (by rw [nI_leI (by omega) (by omega)]; omega)]
    unfold sX9_nextOf_j27
    rw [if_neg (nI_ne0 (by decide) (by decide)), ha, if_pos (inb_nI (by omega) (by decide)), nI_clamp (by omega), q4 p hpn]
    unfold sX9_nextOf_j49
    have hw : wi (nI (t p) - nI fr) (lo : Int) (hi : Int) = false := by
      simp only [wi, pk_sub_toInt (show t p < 2 ^ 30 by omega) (show fr < 2 ^ 30 by omega), Bool.and_eq_false_iff, decide_eq_false_iff_not]
      omega
    rw [if_neg (nI_ne0 (by decide) (by decide)), m_in _ _ _ lo hi (by rw [Int32.toInt_toInt64, nI_toInt (by omega)]) (by rw [Int32.toInt_toInt64, nI_toInt (by omega)]), if_neg (ntr hw), hf, if_pos rfl, ha]
  · rw [if_pos (by rw [nI_leI (by omega) (by omega)]; omega)]
    unfold sX9_nextOf_j27
    rw [if_pos nI_0]
    unfold sX9_nextOf_j49
    rw [if_pos nI_0, hf, if_pos rfl, ha]
theorem m_next_f {e : Nat} (he : e < 2 ^ 31) (hf : g2 29 19 = nI e) (a b c : Int32) : sX9_nextOf g2 a b c = some (nI 0, g2) := by
  unfold sX9_nextOf
  rw [hf, if_neg (m9_nI he)]
  unfold sX9_nextOf_j27
  rw [if_pos nI_0]
  unfold sX9_nextOf_j49
  rw [if_pos nI_0, if_neg (by rw [hf]; exact m9_nI he), st_same]
/-- only the array w, the place, the fault, and the count q have changed -/
def Fr (w q : Nat) (u u' : Hg) : Prop := (∀ c, c ≠ 29 → c ≠ w → u' c = u c) ∧ ∀ i, i ≠ 18 → i ≠ 19 → i ≠ q → u' 29 i = u 29 i
theorem Fr_refl (w q : Nat) (u : Hg) : Fr w q u u := ⟨fun _ _ _ => rfl, fun _ _ _ _ => rfl⟩
theorem Fr_trans {w q : Nat} {a b c : Hg} (h1 : Fr w q a b) (h2 : Fr w q b c) : Fr w q a c := ⟨fun k x y => (h2.1 k x y).trans (h1.1 k x y), fun i x y z => (h2.2 i x y z).trans (h1.2 i x y z)⟩
theorem Fr_w {w q : Nat} (u : Hg) (i : Nat) (x : Int32) (hw : w ≠ 29) : Fr w q u (stA u w i x) := ⟨fun c _ h => stA_ne _ _ _ _ h, fun _ _ _ _ => by rw [stA_ne _ _ _ _ (Ne.symm hw)]⟩
theorem Fr_i {w q : Nat} (u : Hg) (i : Nat) (x : Int32) (hi : i = 18 ∨ i = 19 ∨ i = q) : Fr w q u (stA u 29 i x) := ⟨fun c h _ => stA_ne _ _ _ _ h, fun j a b c => by rw [stA_self, pk_un (by omega)]⟩
theorem Fr_tm {w q : Nat} {u u' : Hg} (h : Fr w q u u') (hq : q ≠ 17) (hw : w ≠ 40) (T : TM n t u) : TM n t u' := TM_congr T (h.2 17 (by decide) (by decide) (by omega)) (h.1 40 (by decide) (by omega))
/-- the reference asks for a letter: it has come, or there is a fault -/
theorem m_next (T : TM n t g2) {p fr lo hi : Nat} (w q : Nat) (hf : g2 29 19 = -9) (ha : g2 29 18 = nI p) (hp : p ≤ n) (hh : fr + hi ≤ 255) (hl : lo ≤ hi) : ∃ v u, sX9_nextOf g2 (nI fr) (nI lo) (nI hi) = some (v, u) ∧ (∀ c, c ≠ 29 → u c = g2 c) ∧ Fr w q g2 u ∧ (∀ i, i ≠ 18 → i ≠ 19 → u 29 i = g2 29 i) ∧ ((p < n ∧ fr + lo ≤ t p ∧ t p ≤ fr + hi) → v = nI (t p - fr) ∧ u 29 18 = nI (p + 1) ∧ u 29 19 = -9) ∧ (¬ (p < n ∧ fr + lo ≤ t p ∧ t p ≤ fr + hi) → u 29 19 = nI p) := by
  by_cases hg : p < n ∧ fr + lo ≤ t p ∧ t p ≤ fr + hi
  · refine ⟨_, _, m_next_ok T hf ha hg.1 hg.2.1 hg.2.2 hh, fun c hc => stA_ne _ _ _ _ hc, Fr_i _ _ _ (Or.inl rfl), fun i h1 h2 => by rw [stA_self, pk_un h1], fun _ => ⟨rfl, by rw [stA_self, pk_us], by rw [stA_self, pk_un (by decide), hf]⟩, fun h => absurd hg h⟩
  · exact ⟨_, _, m_next_bad T hf ha hp hg hh hl, fun c hc => stA_ne _ _ _ _ hc, Fr_i _ _ _ (Or.inr (Or.inl rfl)), fun i h1 h2 => by rw [stA_self, pk_un h2], fun h => absurd h hg, fun _ => by rw [stA_self, pk_us]⟩
/-! the class: what is asked -/
theorem w_dec {v lo hi : Nat} (hv : v ≤ 255) (h1 : lo ≤ 255) (h2 : hi ≤ 255) : sX8_within (nI v) (nI lo) (nI hi) = decide (lo ≤ v ∧ v ≤ hi) := by
  rw [c_within _ (by omega) (by omega)]
  unfold wi
  rw [nI_toInt (by omega), ← Bool.decide_and]
  congr 1
  exact propext (by omega)
def trs (s lo hi s' : Nat) : Prop := s ≠ 13 ∧ s < 20 ∧ s' < 20 ∧ ∀ (g : Hg) (v : Nat), v ≤ 255 → sX7_askedBehind g (nI s) (nI v) = if lo ≤ v ∧ v ≤ hi then (nI s', g) else (-9, g)
theorem tr_if {lo hi v : Nat} {a b : Int32 × Hg} : (if decide (lo ≤ v ∧ v ≤ hi) = true then a else b) = if lo ≤ v ∧ v ≤ hi then a else b := by
  by_cases h : lo ≤ v ∧ v ≤ hi
  · rw [if_pos h, if_pos (decide_eq_true h)]
  · rw [if_neg h, if_neg (by rw [decide_eq_false h]; exact Bool.false_ne_true)]
theorem trs_h {s : Nat} (h1 : 1 ≤ s) (h2 : s ≤ 12) : trs s 48 57 (s + 1) := by
  refine ⟨by omega, by omega, by omega, fun g v hv => ?_⟩
  have hfit : sX7_fits (nI s) (nI v) = decide (48 ≤ v ∧ v ≤ 57) := by
    unfold sX7_fits
    rw [if_pos (show nI s ≤ nI 12 by rw [nI_leI (by omega) (by omega)]; omega), w_dec hv (by decide) (by decide)]
  unfold sX7_askedBehind
  rw [if_neg (nI_ne0 (by omega) (by omega)), if_neg (show ¬ nI s = nI 13 by rw [nI_eq (by omega) (by omega)]; omega), hfit, if_neg (show ¬ nI s = nI 14 by rw [nI_eq (by omega) (by omega)]; omega), if_neg (show ¬ nI s = nI 17 by rw [nI_eq (by omega) (by omega)]; omega), if_neg (show ¬ nI s = nI 19 by rw [nI_eq (by omega) (by omega)]; omega), nI_add, tr_if]
theorem trs_14 : trs 14 48 57 13 := by
  refine ⟨by decide, by decide, by decide, fun g v hv => ?_⟩
  have hfit : sX7_fits (nI 14) (nI v) = decide (48 ≤ v ∧ v ≤ 57) := by
    unfold sX7_fits
    rw [if_neg (show ¬ nI 14 ≤ nI 12 by decide), if_pos (show nI 14 = nI 14 from rfl), w_dec hv (by decide) (by decide)]
  unfold sX7_askedBehind
  rw [if_neg (nI_ne0 (by decide) (by decide)), if_neg (show ¬ nI 14 = nI 13 by decide), hfit, if_pos (show nI 14 = nI 14 from rfl), tr_if]
theorem trs_15 : trs 15 97 108 16 := by
  refine ⟨by decide, by decide, by decide, fun g v hv => ?_⟩
  have hfit : sX7_fits (nI 15) (nI v) = decide (97 ≤ v ∧ v ≤ 108) := by
    unfold sX7_fits
    rw [if_neg (show ¬ nI 15 ≤ nI 12 by decide), if_neg (show ¬ nI 15 = nI 14 by decide), if_neg (show ¬ nI 15 = nI 16 by decide), if_pos (show nI 15 = nI 15 from rfl), w_dec hv (by decide) (by decide)]
  unfold sX7_askedBehind
  rw [if_neg (nI_ne0 (by decide) (by decide)), if_neg (show ¬ nI 15 = nI 13 by decide), hfit, if_neg (show ¬ nI 15 = nI 14 by decide), if_neg (show ¬ nI 15 = nI 17 by decide), if_neg (show ¬ nI 15 = nI 19 by decide), nI_add, tr_if]
theorem trs_16 : trs 16 49 57 17 := by
  refine ⟨by decide, by decide, by decide, fun g v hv => ?_⟩
  have hfit : sX7_fits (nI 16) (nI v) = decide (49 ≤ v ∧ v ≤ 57) := by
    unfold sX7_fits
    rw [if_neg (show ¬ nI 16 ≤ nI 12 by decide), if_neg (show ¬ nI 16 = nI 14 by decide), if_pos (show nI 16 = nI 16 from rfl), w_dec hv (by decide) (by decide)]
  unfold sX7_askedBehind
  rw [if_neg (nI_ne0 (by decide) (by decide)), if_neg (show ¬ nI 16 = nI 13 by decide), hfit, if_neg (show ¬ nI 16 = nI 14 by decide), if_neg (show ¬ nI 16 = nI 17 by decide), if_neg (show ¬ nI 16 = nI 19 by decide), nI_add, tr_if]
theorem trs_17 : trs 17 48 51 13 := by
  refine ⟨by decide, by decide, by decide, fun g v hv => ?_⟩
  have hfit : sX7_fits (nI 17) (nI v) = decide (48 ≤ v ∧ v ≤ 51) := by
    unfold sX7_fits
    rw [if_neg (show ¬ nI 17 ≤ nI 12 by decide), if_neg (show ¬ nI 17 = nI 14 by decide), if_neg (show ¬ nI 17 = nI 16 by decide), if_neg (show ¬ nI 17 = nI 15 by decide), if_neg (show ¬ nI 17 = nI 18 by decide), w_dec hv (by decide) (by decide)]
  unfold sX7_askedBehind
  rw [if_neg (nI_ne0 (by decide) (by decide)), if_neg (show ¬ nI 17 = nI 13 by decide), hfit, if_neg (show ¬ nI 17 = nI 14 by decide), if_pos (show nI 17 = nI 17 from rfl), tr_if]
theorem trs_18 : trs 18 97 108 19 := by
  refine ⟨by decide, by decide, by decide, fun g v hv => ?_⟩
  have hfit : sX7_fits (nI 18) (nI v) = decide (97 ≤ v ∧ v ≤ 108) := by
    unfold sX7_fits
    rw [if_neg (show ¬ nI 18 ≤ nI 12 by decide), if_neg (show ¬ nI 18 = nI 14 by decide), if_neg (show ¬ nI 18 = nI 16 by decide), if_neg (show ¬ nI 18 = nI 15 by decide), if_pos (show nI 18 = nI 18 from rfl), w_dec hv (by decide) (by decide)]
  unfold sX7_askedBehind
  rw [if_neg (nI_ne0 (by decide) (by decide)), if_neg (show ¬ nI 18 = nI 13 by decide), hfit, if_neg (show ¬ nI 18 = nI 14 by decide), if_neg (show ¬ nI 18 = nI 17 by decide), if_neg (show ¬ nI 18 = nI 19 by decide), nI_add, tr_if]
theorem trs_19 : trs 19 48 51 13 := by
  refine ⟨by decide, by decide, by decide, fun g v hv => ?_⟩
  have hfit : sX7_fits (nI 19) (nI v) = decide (48 ≤ v ∧ v ≤ 51) := by
    unfold sX7_fits
    rw [if_neg (show ¬ nI 19 ≤ nI 12 by decide), if_neg (show ¬ nI 19 = nI 14 by decide), if_neg (show ¬ nI 19 = nI 16 by decide), if_neg (show ¬ nI 19 = nI 15 by decide), if_neg (show ¬ nI 19 = nI 18 by decide), w_dec hv (by decide) (by decide)]
  unfold sX7_askedBehind
  rw [if_neg (nI_ne0 (by decide) (by decide)), if_neg (show ¬ nI 19 = nI 13 by decide), hfit, if_neg (show ¬ nI 19 = nI 14 by decide), if_neg (show ¬ nI 19 = nI 17 by decide), if_pos (show nI 19 = nI 19 from rfl), tr_if]
theorem ff_step (T : TC n t g) (m : Nat) (v1 : Int32) {p : Nat} (hp : p < n) : sX7_firstFault_19 (m + 1) g v1 (nI p) = if ((sX7_askedBehind g v1 (nI (t p))).1) = ((-9)) then some (nI p, (sX7_askedBehind g v1 (nI (t p))).2) else sX7_firstFault_19 m ((sX7_askedBehind g v1 (nI (t p))).2) ((sX7_askedBehind g v1 (nI (t p))).1) (nI (p + 1)) := by
  have h1 := T.1
  rw [sX7_firstFault_19, T.2.2.1, if_neg (by rw [nI_leI (by omega) (by omega)]; omega), c_letter T hp, Option.bind_some, nI_add]
theorem ff_fin (T : TC n t g) (m : Nat) : sX7_firstFault_19 (m + 1) g (nI 13) (nI n) = some (-9, g) := by
  have h1 := T.1
  rw [sX7_firstFault_19, T.2.2.1, if_pos (by rw [nI_leI (by omega) (by omega)]; omega), if_pos rfl]
theorem ff_ok (T : TC n t g) {s lo hi s' : Nat} (h : trs s lo hi s') (m : Nat) {p : Nat} (hp : p < n) (h1 : lo ≤ t p) (h2 : t p ≤ hi) : sX7_firstFault_19 (m + 1) g (nI s) (nI p) = sX7_firstFault_19 m g (nI s') (nI (p + 1)) := by
  have h3 := h.2.2.1
  rw [ff_step T m _ hp, h.2.2.2 g _ (T.2.1 p hp), if_pos (show lo ≤ t p ∧ t p ≤ hi from ⟨h1, h2⟩), if_neg (m9_nI (by omega))]
theorem ff_bad (T : TC n t g) {s lo hi s' : Nat} (h : trs s lo hi s') (m : Nat) {p : Nat} (hp : p ≤ n) (h1 : ¬ (p < n ∧ lo ≤ t p ∧ t p ≤ hi)) : sX7_firstFault_19 (m + 1) g (nI s) (nI p) = some (nI p, g) := by
  have h0 := T.1
  have h3 := h.1
  have h4 := h.2.1
  by_cases hpn : p < n
  · rw [ff_step T m _ hpn, h.2.2.2 g _ (T.2.1 p hpn), if_neg (show ¬ (lo ≤ t p ∧ t p ≤ hi) from fun q => h1 ⟨hpn, q.1, q.2⟩), if_pos rfl]
  · have e : p = n := by omega
    subst e
    rw [sX7_firstFault_19, T.2.2.1, if_pos (by rw [nI_leI (by omega) (by omega)]; omega), if_neg (by rw [nI_eq (by omega) (by omega)]; omega)]
theorem ask_13 (v : Int32) : sX7_askedBehind g (nI 13) v = sX7_askedInPart g v := by
  unfold sX7_askedBehind
  rw [if_neg (nI_ne0 (by decide) (by decide)), if_pos rfl]
theorem ff_W (T : TC n t g) {a : Nat} (hc : g 1 2 = nI a) (ha : a < 6) (m : Nat) {p : Nat} (hp : p < n) (h : t p = 87) : sX7_firstFault_19 (m + 1) g (nI 13) (nI p) = sX7_firstFault_19 m (stA g 1 2 (nI (a + 1))) (nI 14) (nI (p + 1)) := by
  have e : sX7_askedInPart g (nI 87) = (nI 14, stA g 1 2 (nI (a + 1))) := by
    unfold sX7_askedInPart
    rw [if_pos rfl, hc, if_neg (by rw [nI_leI (by omega) (by omega)]; omega), nI_add]
  rw [ff_step T m _ hp, h, ask_13, e, if_neg (m9_nI (by decide))]
theorem ff_F (T : TC n t g) {a : Nat} (hc : g 1 3 = nI a) (ha : a < 5) (m : Nat) {p : Nat} (hp : p < n) (h : t p = 70) : sX7_firstFault_19 (m + 1) g (nI 13) (nI p) = sX7_firstFault_19 m (stA g 1 3 (nI (a + 1))) (nI 15) (nI (p + 1)) := by
  have e : sX7_askedInPart g (nI 70) = (nI 15, stA g 1 3 (nI (a + 1))) := by
    unfold sX7_askedInPart
    rw [if_neg (by decide), if_pos rfl, hc, if_neg (by rw [nI_leI (by omega) (by omega)]; omega), nI_add]
  rw [ff_step T m _ hp, h, ask_13, e, if_neg (m9_nI (by decide))]
theorem ff_L (T : TC n t g) {a : Nat} (hc : g 1 4 = nI a) (ha : a < 4) (m : Nat) {p : Nat} (hp : p < n) (h : t p = 76) : sX7_firstFault_19 (m + 1) g (nI 13) (nI p) = sX7_firstFault_19 m (stA g 1 4 (nI (a + 1))) (nI 18) (nI (p + 1)) := by
  have e : sX7_askedInPart g (nI 76) = (nI 18, stA g 1 4 (nI (a + 1))) := by
    unfold sX7_askedInPart
    rw [if_neg (by decide), if_neg (by decide), if_pos rfl, hc, if_neg (by rw [nI_leI (by omega) (by omega)]; omega), nI_add]
  rw [ff_step T m _ hp, h, ask_13, e, if_neg (m9_nI (by decide))]
theorem ff_none (T : TC n t g) {a b d : Nat} (h2 : g 1 2 = nI a) (h3 : g 1 3 = nI b) (h4 : g 1 4 = nI d) (ha : a ≤ 6) (hb : b ≤ 5) (hd : d ≤ 4) (m : Nat) {p : Nat} (hp : p < n) (hW : ¬ (t p = 87 ∧ a < 6)) (hF : ¬ (t p = 70 ∧ b < 5)) (hL : ¬ (t p = 76 ∧ d < 4)) : sX7_firstFault_19 (m + 1) g (nI 13) (nI p) = some (nI p, g) := by
  have hv := T.2.1 p hp
  have e : sX7_askedInPart g (nI (t p)) = (-9, g) := by
    unfold sX7_askedInPart
    rw [h2, h3, h4]
    have q : ∀ k, k ≤ 255 → (nI (t p) = nI k ↔ t p = k) := fun k hk => nI_eq (by omega) (by omega)
    have l6 : nI 6 ≤ nI a ↔ 6 ≤ a := nI_leI (by omega) (by omega)
    have l5 : nI 5 ≤ nI b ↔ 5 ≤ b := nI_leI (by omega) (by omega)
    have l4 : nI 4 ≤ nI d ↔ 4 ≤ d := nI_leI (by omega) (by omega)
    by_cases c1 : t p = 87
    · rw [if_pos ((q 87 (by decide)).mpr c1), if_pos (l6.mpr (by omega)), if_neg (fun z => by have := (q 70 (by decide)).mp z; omega), if_neg (fun z => by have := (q 76 (by decide)).mp z; omega)]
    · rw [if_neg (fun z => c1 ((q 87 (by decide)).mp z))]
      by_cases c2 : t p = 70
      · rw [if_pos ((q 70 (by decide)).mpr c2), if_pos (l5.mpr (by omega)), if_neg (fun z => by have := (q 76 (by decide)).mp z; omega)]
      · rw [if_neg (fun z => c2 ((q 70 (by decide)).mp z))]
        by_cases c3 : t p = 76
        · rw [if_pos ((q 76 (by decide)).mpr c3), if_pos (l4.mpr (by omega))]
        · rw [if_neg (fun z => c3 ((q 76 (by decide)).mp z))]
  rw [ff_step T m _ hp, ask_13, e, if_pos rfl]
end Tx
