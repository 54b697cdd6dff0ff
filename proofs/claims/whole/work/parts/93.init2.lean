/-- what startAnew makes of a fresh ground -/
def r0 : Hg := (sX4_startAnew (fun _ _ => 0) 3).getD (fun _ _ => 0)
theorem r0_eq : sX4_startAnew (fun _ _ => 0) 3 = some r0 := by
  have h : (sX4_startAnew (fun _ _ => 0) 3).isSome = true := by decide +kernel
  unfold r0
  cases hc : sX4_startAnew (fun _ _ => 0) 3 with
  | none => rw [hc] at h; cases h
  | some r => rfl
theorem fr_40 : ∀ (n : Nat) (g : Hg) (v : Int32) (r : Hg), sX4_startAnew_40 3 n g v = some r → ∀ k, k ≠ 18 → r k = g k := by
  intro n
  induction n with
  | zero => intro g v r h; cases h
  | succ n ih =>
    intro g v r h k hk
    rw [sX4_startAnew_40] at h
    split at h
    · cases h
      simp [setA, hk]
    · obtain ⟨x, -, h⟩ := Option.bind_eq_some_iff.mp h
      obtain ⟨-, h⟩ := ckB h
      obtain ⟨-, h⟩ := ckB h
      obtain ⟨-, h⟩ := ckB h
      rw [ih _ _ _ h k hk]
      simp [setA, hk]
theorem fr_2 : ∀ (n : Nat) (g : Hg) (v : Int32) (r : Hg), sX4_startAnew_2 3 n g v = some r → ∀ k, k ≠ 18 → r k = g k := by
  intro n
  induction n with
  | zero => intro g v r h; cases h
  | succ n ih =>
    intro g v r h k hk
    rw [sX4_startAnew_2] at h
    split at h
    · exact fr_40 _ _ _ _ h k hk
    · obtain ⟨x, -, h⟩ := Option.bind_eq_some_iff.mp h
      obtain ⟨-, h⟩ := ckB h
      obtain ⟨-, h⟩ := ckB h
      rw [ih _ _ _ h k hk]
      simp [setA, hk]
theorem r0_ne {k : Nat} (hk : k ≠ 18) : r0 k = fun _ => 0 := fr_2 100 _ _ _ r0_eq k hk
/-- the small world behind startAnew: only the row is another -/
theorem zl_r0 (G : Gx) : zl G (r0, (0 : Int64), (fun _ _ => 0 : Hg), (0 : Int64)) = zl G (setA (fun _ _ => 0) 18 (r0 18), (0 : Int64), (fun _ _ => 0 : Hg), (0 : Int64)) := by
  unfold zl
  apply List.map_congr_left
  intro k _
  have e : r0 k = setA (fun _ _ => 0) 18 (r0 18) k := by
    by_cases hk : k = 18
    · subst hk; rw [setA_self]
    · rw [r0_ne hk, setA_ne _ _ hk]
  simp only [wK, e]
theorem zP {G : Gx} {H : Heap} (h : va_P G.1 vwCl (zl G (r0, (0 : Int64), (fun _ _ => 0 : Hg), (0 : Int64))) H) : va_P G.1 vwCl (zl G (setA (fun _ _ => 0) 18 (r0 18), (0 : Int64), (fun _ _ => 0 : Hg), (0 : Int64))) H := by rw [← zl_r0]; exact h
theorem zDv {G : Gx} {A : Nat → Prop} (h : va_D A (zl G (r0, (0 : Int64), (fun _ _ => 0 : Hg), (0 : Int64)))) : va_D A (zl G (setA (fun _ _ => 0) 18 (r0 18), (0 : Int64), (fun _ _ => 0 : Hg), (0 : Int64))) := by rw [← zl_r0]; exact h
