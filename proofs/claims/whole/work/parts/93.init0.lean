/-! ===== constructors ===== -/
def KN (U : State) : Prop := ∀ w ∈ nestW, va_Nw w U
theorem KN_form {w : Cond} (hw : w ∈ nestW) : ∃ a i y b, w = .methodLinkNest a i y b := by
  simp only [nestW, List.mem_cons, List.not_mem_nil, or_false] at hw
  rcases hw with h | h | h | h | h | h | h | h | h | h | h | h | h | h | h | h | h | h | h | h | h <;> exact ⟨_, _, _, _, h⟩
theorem KN_warm {s U : State} (hW : s.WarmedH U.vm) (h : KN s) : KN U := by
  intro w hw
  have hz := h w hw
  obtain ⟨a, i, y, b, rfl⟩ := KN_form hw
  exact va_Nw.warmM hW hz
theorem KN_calling {U : State} {g : JFrame} {mk : MethodId} {a : Array Value} (h : KN U) : KN (U.calling g mk a) := by
  intro w hw
  have hz := h w hw
  obtain ⟨a, i, y, b, rfl⟩ := KN_form hw
  exact va_Nw.same rfl (u := U) (U := U.calling g mk _) rfl hz
theorem ca_oneI {D : va_G} {cl : List vw_C} {cI cZ cA : ClassId} {s : State} (h : va_K D cl [(cI, .int), (cZ, .boolean)] s) (h1 : va_K D cl ([(cI, .int), (cZ, .boolean)] ++ [(cA, .int)]) s) : cA = cI := by
  have e1 : s.vm.findClass _ = some cA := (h1.2 2 (cA, .int) rfl).2
  have e2 : s.vm.findClass _ = some cI := (h.2 0 (cI, .int) rfl).2
  exact Option.some.inj (e1.symm.trans e2)
theorem ca_oneZ {D : va_G} {cl : List vw_C} {cI cZ cA : ClassId} {s : State} (h : va_K D cl [(cI, .int), (cZ, .boolean)] s) (h1 : va_K D cl ([(cI, .int), (cZ, .boolean)] ++ [(cA, .boolean)]) s) : cA = cZ := by
  have e1 : s.vm.findClass _ = some cA := (h1.2 2 (cA, .boolean) rfl).2
  have e2 : s.vm.findClass _ = some cZ := (h.2 1 (cZ, .boolean) rfl).2
  exact Option.some.inj (e1.symm.trans e2)
theorem ZD_of {A : Nat → Prop} {G : Gx} {h : Hp} (a : va_D A (zl G h)) : ZD A G.2.1 := by
  have key : ∀ k, k ∈ PZ → ∃ i : Nat, (zl G h)[i]? = some (G.2.1 k, wK G h k) ∧ PZ[i]? = some k := by
    intro k hk
    obtain ⟨i, hi⟩ := List.getElem?_of_mem hk
    refine ⟨i, ?_, hi⟩
    unfold zl
    rw [List.getElem?_map, hi]
    rfl
  refine ⟨fun i j hi hj hij => ?_, fun k hk => ?_⟩
  · obtain ⟨i1, h1, h2⟩ := key i hi
    obtain ⟨j1, h3, h4⟩ := key j hj
    have e := a.1 i1 j1 _ _ h1 h3 hij
    subst e
    exact Option.some.inj (h2.symm.trans h4)
  · obtain ⟨i1, h1, -⟩ := key k hk
    exact a.2 i1 _ h1
theorem inX7_init : ∀ w ∈ u_ws RX7 TX7 5, w ∈ wsX7_init := by decide +kernel
theorem inX1_init : ∀ w ∈ u_ws RX1 TX1 10, w ∈ wsX1_init := by decide +kernel
theorem inX4_init : ∀ w ∈ u_ws RX4 TX4 2, w ∈ wsX4_init := by decide +kernel
theorem inX0_init : ∀ w ∈ u_ws RX0 TX0 2, w ∈ wsX0_init := by decide +kernel
theorem inX6_init : ∀ w ∈ u_ws RX6 TX6 2, w ∈ wsX6_init := by decide +kernel
theorem inX5_init : ∀ w ∈ u_ws RX5 TX5 4, w ∈ wsX5_init := by decide +kernel
theorem inX3_init : ∀ w ∈ u_ws RX3 TX3 4, w ∈ wsX3_init := by decide +kernel
theorem inX2_init : ∀ w ∈ u_ws RX2 TX2 5, w ∈ wsX2_init := by decide +kernel
theorem inX8_init : ∀ w ∈ u_ws RX8 TX8 10, w ∈ wsX8_init := by decide +kernel
theorem inX9_init : ∀ w ∈ u_ws RX9 TX9 31, w ∈ wsX9_init := by decide +kernel
theorem innX8_init_7 : ∀ w ∈ u_ws RX7 TX7 5, w ∈ wsX8_init := by decide +kernel
theorem innX8_init_1 : ∀ w ∈ u_ws RX1 TX1 10, w ∈ wsX8_init := by decide +kernel
theorem innX8_init_4 : ∀ w ∈ u_ws RX4 TX4 2, w ∈ wsX8_init := by decide +kernel
theorem innX8_init_0 : ∀ w ∈ u_ws RX0 TX0 2, w ∈ wsX8_init := by decide +kernel
theorem innX8_init_6 : ∀ w ∈ u_ws RX6 TX6 2, w ∈ wsX8_init := by decide +kernel
theorem innX8_init_5 : ∀ w ∈ u_ws RX5 TX5 4, w ∈ wsX8_init := by decide +kernel
theorem innX8_init_3 : ∀ w ∈ u_ws RX3 TX3 4, w ∈ wsX8_init := by decide +kernel
theorem innX8_init_2 : ∀ w ∈ u_ws RX2 TX2 5, w ∈ wsX8_init := by decide +kernel
