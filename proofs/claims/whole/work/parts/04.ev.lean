/-! ===== Ev: the machine at a frame of a method, over ONE world of 48 cells (class 0..28, reference 29..47), a reference as its place ===== -/
abbrev Hg : Type := Nat → Nat → Int32
abbrev Hp : Type := Hg × Int64 × Hg × Int64
def setA (g : Hg) (c : Nat) (r : Nat → Int32) : Hg := fun k => if k = c then r else g k
def cv (ad : Nat → Nat) : Value → Value
  | .ref k => .ref (ad k)
  | v => v
theorem cv_cat (ad : Nat → Nat) (v : Value) : (cv ad v).category = v.category := by cases v <;> rfl
abbrev Mi : Type := MethodName × List Cond × ByteArray × String × Nat × Option FieldType × Room
abbrev mY (M : Mi) : MethodName := M.1
abbrev mW (M : Mi) : List Cond := M.2.1
abbrev mB (M : Mi) : ByteArray := M.2.2.1
abbrev mO (M : Mi) : String := M.2.2.2.1
abbrev mN (M : Mi) : Nat := M.2.2.2.2.1
abbrev mT (M : Mi) : Option FieldType := M.2.2.2.2.2.1
abbrev mR (M : Mi) : Room := M.2.2.2.2.2.2
/-- classes, addresses by place, class of int[], class of boolean[] -/
abbrev Gx : Type := va_G × (Nat → Nat) × ClassId × ClassId

def nestW : List Cond := [.methodLinkNest RX8 18 yX1_init "MudBoards", .methodLinkNest RX8 37 yX0_init "MudBoards", .methodLinkNest RX8 44 yX6_init "MudBoards", .methodLinkNest RX8 51 yX5_init "MudBoards", .methodLinkNest RX8 9 yX7_init "MudBoards", .methodLinkNest RX1 63 yX8_within "MudBoards", .methodLinkNest RX1 84 yX8_bit "MudBoards", .methodLinkNest RX2 72 yX8_has "MudBoards", .methodLinkNest RX2 86 yX8_within "MudBoards", .methodLinkNest RX3 32 yX8_bit "MudBoards", .methodLinkNest RX3 62 yX8_within "MudBoards", .methodLinkNest RX3 75 yX8_has "MudBoards", .methodLinkNest RX4 37 yX8_within "MudBoards", .methodLinkNest RX4 51 yX8_has "MudBoards", .methodLinkNest RX4 62 yX8_bit "MudBoards", .methodLinkNest RX4 85 yX8_cellBehind "MudBoards", .methodLinkNest RX5 26 yX8_within "MudBoards", .methodLinkNest RX6 21 yX8_within "MudBoards", .methodLinkNest RX6 25 yX8_has "MudBoards", .methodLinkNest RX6 33 yX8_bit "MudBoards", .methodLinkNest RX7 19 yX8_within "MudBoards"]
def wE (ad : Nat → Nat) (cI cZ : ClassId) (r r2 : Nat → Int32) (q q2 : Int64) : Nat → va_E
  | 0 => .inr (8, [.ref (ad 1), .ref (ad 2), .ref (ad 3), .ref (ad 4), .ref (ad 5), .ref (ad 6), .ref (ad 7), .ref (ad 8), .ref (ad 9), .long q])
  | 1 => .inr (7, [.ref (ad 10), .int (r 1), .int (r 2), .int (r 3), .int (r 4)])
  | 2 => .inr (1, [.ref (ad 11), .ref (ad 12), .ref (ad 13), .ref (ad 14), .ref (ad 15), .ref (ad 16), .ref (ad 17), .int (r 7), .int (r 8), .int (r 9)])
  | 3 => .inr (4, [.ref (ad 2), .ref (ad 18)])
  | 4 => .inr (4, [.ref (ad 2), .ref (ad 19)])
  | 5 => .inr (0, [.ref (ad 20), .int (r 1)])
  | 6 => .inr (6, [.ref (ad 21), .int (r 1)])
  | 7 => .inr (5, [.ref (ad 22), .ref (ad 23), .ref (ad 24), .int (r 3)])
  | 8 => .inr (3, [.ref (ad 2), .ref (ad 3), .ref (ad 25), .ref (ad 26)])
  | 9 => .inr (2, [.ref (ad 2), .ref (ad 3), .ref (ad 4), .ref (ad 27), .ref (ad 28)])
  | 10 => .inl (cI, 60, .inl r)
  | 11 => .inl (cI, 12, .inl r)
  | 12 => .inl (cI, 6, .inl r)
  | 13 => .inl (cI, 5, .inl r)
  | 14 => .inl (cI, 5, .inl r)
  | 15 => .inl (cI, 5, .inl r)
  | 16 => .inl (cI, 4, .inl r)
  | 17 => .inl (cI, 4, .inl r)
  | 18 => .inl (cI, 27, .inl r)
  | 19 => .inl (cI, 27, .inl r)
  | 20 => .inl (cI, 378, .inl r)
  | 21 => .inl (cI, 54, .inl r)
  | 22 => .inl (cI, 6, .inl r)
  | 23 => .inl (cI, 6, .inl r)
  | 24 => .inl (cZ, 6, .inl r)
  | 25 => .inl (cI, 10, .inl r)
  | 26 => .inl (cI, 4, .inl r)
  | 27 => .inl (cI, 25, .inl r)
  | 28 => .inl (cI, 25, .inl r)
  | 29 => .inr (9, [.int (r2 0), .int (r2 1), .int (r2 2), .ref (ad 30), .ref (ad 31), .ref (ad 32), .ref (ad 33), .ref (ad 34), .ref (ad 35), .ref (ad 36), .ref (ad 37), .ref (ad 38), .ref (ad 39), .int (r2 13), .int (r2 14), .int (r2 15), .ref (ad 40), .int (r2 17), .int (r2 18), .int (r2 19), .int (r2 20), .int (r2 21), .ref (ad 41), .int (r2 23), .ref (ad 42), .ref (ad 43), .ref (ad 44), .ref (ad 45), .long q2, .ref (ad 46), .ref (ad 47)])
  | 30 => .inl (cI, 12, .inl r2)
  | 31 => .inl (cI, 6, .inl r2)
  | 32 => .inl (cI, 5, .inl r2)
  | 33 => .inl (cI, 5, .inl r2)
  | 34 => .inl (cI, 4, .inl r2)
  | 35 => .inl (cI, 62, .inl r2)
  | 36 => .inl (cI, 12, .inl r2)
  | 37 => .inl (cI, 6, .inl r2)
  | 38 => .inl (cI, 15, .inl r2)
  | 39 => .inl (cI, 8, .inl r2)
  | 40 => .inl (cI, 60, .inl r2)
  | 41 => .inl (cI, 434, .inl r2)
  | 42 => .inl (cI, 6, .inl r2)
  | 43 => .inl (cI, 6, .inl r2)
  | 44 => .inl (cI, 6, .inl r2)
  | 45 => .inl (cI, 4, .inl r2)
  | 46 => .inl (cZ, 2, .inl r2)
  | 47 => .inl (cI, 62, .inl r2)
  | _ => .inl (cI, 0, .inl r)
def wK (G : Gx) (h : Hp) (k : Nat) : va_E := wE G.2.1 G.2.2.1 G.2.2.2 (h.1 k) (h.2.2.1 k) h.2.1 h.2.2.2 k
def wl (G : Gx) (h : Hp) : va_W := (List.range 48).map (fun k => (G.2.1 k, wK G h k))
theorem wl_get (G : Gx) (h : Hp) {k : Nat} (hk : k < 48) : (wl G h)[k]? = some (G.2.1 k, wK G h k) := by
  unfold wl
  rw [List.getElem?_map, List.getElem?_range hk]
  rfl
theorem wl_some {G : Gx} {h : Hp} {k : Nat} {x : Nat × va_E} (hx : (wl G h)[k]? = some x) : k < 48 ∧ x = (G.2.1 k, wK G h k) := by
  have hk : k < 48 := by
    have := (List.getElem?_eq_some_iff.mp hx).1
    simpa [wl] using this
  exact ⟨hk, Option.some.inj (hx.symm.trans (wl_get G h hk))⟩
theorem wl_set {G : Gx} {h h' : Hp} {c : Nat} {x : va_E} (he : wK G h' c = x) (ho : ∀ k, k ≠ c → wK G h' k = wK G h k) : (wl G h).set c (G.2.1 c, x) = wl G h' := by
  apply List.ext_getElem?
  intro i
  rw [List.getElem?_set]
  by_cases hi : c = i
  · subst hi
    rw [if_pos rfl]
    by_cases hl : c < 48
    · rw [if_pos (by simpa [wl] using hl), wl_get G h' hl, he]
    · rw [if_neg (by simpa [wl] using hl)]
      symm
      simp [wl, hl]
  · rw [if_neg hi]
    by_cases hl : i < 48
    · rw [wl_get G h hl, wl_get G h' hl, ho i (fun q => hi q.symm)]
    · simp [wl, hl]
theorem wK_A {G : Gx} {g : Hg} {q : Int64} {g2 : Hg} {q2 : Int64} {c : Nat} (r : Nat → Int32) : ∀ k, k ≠ c → wK G (setA g c r, q, g2, q2) k = wK G (g, q, g2, q2) k := by
  intro k hk
  simp [wK, setA, hk]
theorem wK_B {G : Gx} {g : Hg} {q : Int64} {g2 : Hg} {q2 : Int64} {c : Nat} (r : Nat → Int32) : ∀ k, k ≠ c → wK G (g, q, setA g2 c r, q2) k = wK G (g, q, g2, q2) k := by
  intro k hk
  simp [wK, setA, hk]
theorem wK_q {G : Gx} {g : Hg} {q q' : Int64} {g2 : Hg} {q2 : Int64} : ∀ k, k ≠ 0 → wK G (g, q', g2, q2) k = wK G (g, q, g2, q2) k := by
  intro k hk
  unfold wK wE
  split <;> first | rfl | exact absurd rfl hk
theorem wK_q2 {G : Gx} {g : Hg} {q : Int64} {g2 : Hg} {q2 q2' : Int64} : ∀ k, k ≠ 29 → wK G (g, q, g2, q2') k = wK G (g, q, g2, q2) k := by
  intro k hk
  unfold wK wE
  split <;> first | rfl | exact absurd rfl hk
theorem setA_self (g : Hg) (c : Nat) (r : Nat → Int32) : setA g c r c = r := if_pos rfl
theorem setA_ne (g : Hg) {c k : Nat} (r : Nat → Int32) (h : k ≠ c) : setA g c r k = g k := if_neg h
def AD (A : Nat → Prop) (ad : Nat → Nat) : Prop := (∀ i j, i < 48 → j < 48 → ad i = ad j → i = j) ∧ ∀ k, k < 48 → A (ad k)
theorem AD_wl {A : Nat → Prop} {G : Gx} (a : AD A G.2.1) (h : Hp) : va_D A (wl G h) := by
  refine ⟨fun i j x y hi hj hxy => ?_, fun k x hk => ?_⟩
  · obtain ⟨h1, rfl⟩ := wl_some hi
    obtain ⟨h2, rfl⟩ := wl_some hj
    exact a.1 i j h1 h2 hxy
  · obtain ⟨h1, rfl⟩ := wl_some hk
    exact a.2 k h1
theorem AD_of {A : Nat → Prop} {G : Gx} {h : Hp} (a : va_D A (wl G h)) : AD A G.2.1 := by
  refine ⟨fun i j hi hj hij => a.1 i j _ _ (wl_get G h hi) (wl_get G h hj) hij, fun k hk => a.2 k _ (wl_get G h hk)⟩
/-- the words on nest mates, and the classes -/
def KK (G : Gx) (U : State) : Prop := va_K G.1 vwCl [(G.2.2.1, .int), (G.2.2.2, .boolean)] U ∧ ∀ w ∈ nestW, va_Nw w U
theorem KK_warm {G : Gx} {s U : State} (hW : s.WarmedH U.vm) (h : KK G s) : KK G U := by
  refine ⟨va_K.moved hW.alike h.1, fun w hw => ?_⟩
  have hz := h.2 w hw
  have e : ∃ a i y b, w = .methodLinkNest a i y b := by
    simp only [nestW, List.mem_cons, List.not_mem_nil, or_false] at hw
    rcases hw with h | h | h | h | h | h | h | h | h | h | h | h | h | h | h | h | h | h | h | h | h <;> exact ⟨_, _, _, _, h⟩
  obtain ⟨a, i, y, b, rfl⟩ := e
  exact va_Nw.warmM hW hz
theorem KK_calling {G : Gx} {U : State} {g : JFrame} {mk : MethodId} {a : Array Value} (h : KK G U) : KK G (U.calling g mk a) := by
  refine ⟨va_K.moved (u := U) (U := U.calling g mk a) (Vm.Alike.refl U.vm) h.1, fun w hw => ?_⟩
  have hz := h.2 w hw
  have e : ∃ a i y b, w = .methodLinkNest a i y b := by
    simp only [nestW, List.mem_cons, List.not_mem_nil, or_false] at hw
    rcases hw with h | h | h | h | h | h | h | h | h | h | h | h | h | h | h | h | h | h | h | h | h <;> exact ⟨_, _, _, _, h⟩
  obtain ⟨a, i, y, b, rfl⟩ := e
  exact va_Nw.same rfl (u := U) (U := U.calling g mk _) rfl hz
/-- the locals -/
def LH (ls : Array Slot) (n : Nat) (ad : Nat → Nat) (L : List (Option Value)) : Prop :=
  ls.size = n ∧ lv_wf ls ∧ ∀ (i : Nat) (v : Value), L[i]? = some (some v) → ls[i]? = some (.val (cv ad v))
def lhL (ad : Nat → Nat) (L : List (Option Value)) : List (Nat × Value) := (List.range L.length).filterMap (fun i => match L[i]? with | some (some v) => some (i, cv ad v) | _ => none)
theorem lhL_mem {ad : Nat → Nat} {L : List (Option Value)} {i : Nat} {v : Value} (h : L[i]? = some (some v)) : (i, cv ad v) ∈ lhL ad L := by
  unfold lhL
  rw [List.mem_filterMap]
  refine ⟨i, List.mem_range.mpr (List.getElem?_eq_some_iff.mp h).1, ?_⟩
  rw [h]
theorem LH_has {ls : Array Slot} {n : Nat} {ad : Nat → Nat} {L : List (Option Value)} (h : LH ls n ad L) : lv_has ls n (lhL ad L) := by
  refine ⟨h.1, h.2.1, fun q hq => ?_⟩
  obtain ⟨i, -, hi⟩ := List.mem_filterMap.mp hq
  split at hi
  · next v hv =>
    cases hi
    exact h.2.2 i v hv
  · cases hi
def okS (L : List (Option Value)) : Nat → Bool
  | 0 => true
  | i + 1 => match L[i]? with
    | some (some v) => v.category == 1
    | _ => true
theorem okS_at {L : List (Option Value)} {i j : Nat} {w : Value} (ho : okS L i = true) (hj : L[j]? = some (some w)) (hji : j + 1 = i) : w.category = 1 := by
  subst hji
  simp only [okS, hj] at ho
  exact beq_iff_eq.mp ho
theorem LH_set1 {ls : Array Slot} {n : Nat} {ad : Nat → Nat} {L : List (Option Value)} {i : Nat} {v : Value} (ho : okS L i = true) (h : lv_has ls n ((i, cv ad v) :: (lhL ad L).filter (fun q => !(q.1 == i) && !(q.1 + 1 == i && q.2.category == 2)))) : LH ls n ad (L.set i (some v)) := by
  refine ⟨h.1, h.2.1, fun j w hj => ?_⟩
  rw [List.getElem?_set] at hj
  by_cases hji : i = j
  · subst hji
    rw [if_pos rfl] at hj
    split at hj
    · cases hj
      exact h.2.2 _ List.mem_cons_self
    · cases hj
  · rw [if_neg hji] at hj
    refine h.2.2 (j, cv ad w) (List.mem_cons_of_mem _ (List.mem_filter.mpr ⟨lhL_mem hj, ?_⟩))
    have h1 : (j == i) = false := beq_eq_false_iff_ne.mpr (fun q => hji q.symm)
    by_cases h2 : j + 1 = i
    · have h3 := okS_at ho hj h2
      simp [h1, cv_cat, h3]
    · have h3 : (j + 1 == i) = false := beq_eq_false_iff_ne.mpr h2
      simp [h1, h3]
theorem LH_set2 {ls : Array Slot} {n : Nat} {ad : Nat → Nat} {L : List (Option Value)} {i : Nat} {v : Value} (ho : okS L i = true) (h : lv_has ls n ((i, cv ad v) :: (lhL ad L).filter (fun q => !(q.1 == i) && (!(q.1 == i + 1) && !(q.1 + 1 == i && q.2.category == 2))))) : LH ls n ad ((L.set i (some v)).set (i + 1) none) := by
  refine ⟨h.1, h.2.1, fun j w hj => ?_⟩
  rw [List.getElem?_set] at hj
  by_cases hj1 : i + 1 = j
  · rw [if_pos hj1] at hj
    split at hj <;> cases hj
  · rw [if_neg hj1, List.getElem?_set] at hj
    by_cases hji : i = j
    · subst hji
      rw [if_pos rfl] at hj
      split at hj
      · cases hj
        exact h.2.2 _ List.mem_cons_self
      · cases hj
    · rw [if_neg hji] at hj
      refine h.2.2 (j, cv ad w) (List.mem_cons_of_mem _ (List.mem_filter.mpr ⟨lhL_mem hj, ?_⟩))
      have h1 : (j == i) = false := beq_eq_false_iff_ne.mpr (fun q => hji q.symm)
      have h4 : (j == i + 1) = false := beq_eq_false_iff_ne.mpr (fun q => hj1 q.symm)
      by_cases h2 : j + 1 = i
      · have h3 := okS_at ho hj h2
        simp [h1, h4, cv_cat, h3]
      · have h3 : (j + 1 == i) = false := beq_eq_false_iff_ne.mpr h2
        simp [h1, h3, h4]
/-- the locals with which a method begins -/
def layL : List Value → List (Option Value)
  | [] => []
  | v :: vs => if v.category = 2 then some v :: none :: layL vs else some v :: layL vs
theorem layL_at (ad : Nat → Nat) : ∀ (vs : List Value) (b i : Nat) (v : Value), (layL vs)[i]? = some (some v) → (b + i, cv ad v) ∈ lv_args b (vs.map (cv ad))
  | [], b, i, v, h => by simp [layL] at h
  | u :: vs, b, i, v, h => by
    rw [List.map_cons, lv_args]
    by_cases hc : u.category = 2
    · rw [if_pos (by rw [cv_cat]; exact hc)]
      rw [layL, if_pos hc] at h
      match i, h with
      | 0, h =>
        simp at h
        subst h
        exact List.mem_cons_self
      | 1, h => simp at h
      | i + 2, h =>
        have := layL_at ad vs (b + 2) i v (by simpa using h)
        exact List.mem_cons_of_mem _ (by rw [show b + (i + 2) = b + 2 + i by omega]; exact this)
    · rw [if_neg (by rw [cv_cat]; exact hc)]
      rw [layL, if_neg hc] at h
      match i, h with
      | 0, h =>
        simp at h
        subst h
        exact List.mem_cons_self
      | i + 1, h =>
        have := layL_at ad vs (b + 1) i v (by simpa using h)
        exact List.mem_cons_of_mem _ (by rw [show b + (i + 1) = b + 1 + i by omega]; exact this)
def Cx (M : Mi) (G : Gx) (A : Nat → Prop) (p : Program) (s : State) (m : MethodId) (args : Array Value) (meth : Method) (c : Code) : Prop :=
  p.tables.exec = Jvm.exec ∧ c.code = mB M ∧ meth.sig.returnType = mT M ∧ c.maxLocals = mN M ∧ s.vm.findClass (mO M) = some m.cls ∧ (∀ w ∈ mW M, w.before args s = true) ∧ meth.locks = false ∧ KK G s ∧ (∀ q, s.heap.size ≤ q → A q) ∧ AD A G.2.1
/-- cells and slots made before; what else is known; the goal -/
abbrev Xt : Type := Nat × Nat × (State → Array Value → Gx → (Nat → Prop) → Prop) × (List Frame → Array Value → State → Gx → (Nat → Prop) → State → Prop)
def Ev (X : Xt) (M : Mi) (pc : Nat) (L : List (Option Value)) (st : List Value) (h : Hp) : Prop :=
  ∀ (p : Program) (l : Launch) (e : Env) (s : State) (m : MethodId) (args : Array Value) (below : List Frame) (meth : Method) (c : Code) (G : Gx) (A : Nat → Prop) (H : Heap) (locs : List Loc) (ls : Array Slot),
    Cx M G A p s m args meth c → X.2.2.1 s args G A → LH ls (mN M) G.2.1 L → va_P G.1 vwCl (wl G h) H → va_S A s.heap H locs →
    W p l e (mR M) s m args below meth c H locs X.1 X.2.1 (X.2.2.2 below args s G A) (F0 m pc ls (st.map (cv G.2.1)))
/-- a method's contract: from the world h, with these arguments (places for references): the answer and the world behind it -/
def CtI (M : Mi) (av : List Value) (h : Hp) (P : Int32 → Hp → Prop) : Prop :=
  ∀ (l : Launch) (G : Gx) (sz : Nat), Met l (mY M) (mW M) (mR M)
    (va_Pc (av.map (cv G.2.1)) (fun U => U.heap.size = sz ∧ va_P G.1 vwCl (wl G h) U.heap ∧ KK G U ∧ AD (fun _ => True) G.2.1))
    (va_Qi P (fun h' t => va_P G.1 vwCl (wl G h') t.heap) (va_A (wl G h) sz)) 0 0 (va_A (wl G h) sz)
def CtL (M : Mi) (av : List Value) (h : Hp) (P : Int64 → Hp → Prop) : Prop :=
  ∀ (l : Launch) (G : Gx) (sz : Nat), Met l (mY M) (mW M) (mR M)
    (va_Pc (av.map (cv G.2.1)) (fun U => U.heap.size = sz ∧ va_P G.1 vwCl (wl G h) U.heap ∧ KK G U ∧ AD (fun _ => True) G.2.1))
    (va_Ql P (fun h' t => va_P G.1 vwCl (wl G h') t.heap) (va_A (wl G h) sz)) 0 0 (va_A (wl G h) sz)
def CtV (M : Mi) (av : List Value) (h : Hp) (P : Hp → Prop) : Prop :=
  ∀ (l : Launch) (G : Gx) (sz : Nat), Met l (mY M) (mW M) (mR M)
    (va_Pc (av.map (cv G.2.1)) (fun U => U.heap.size = sz ∧ va_P G.1 vwCl (wl G h) U.heap ∧ KK G U ∧ AD (fun _ => True) G.2.1))
    (va_Qv P (fun h' t => va_P G.1 vwCl (wl G h') t.heap) (va_A (wl G h) sz)) 0 0 (va_A (wl G h) sz)
def Xi (P : Int32 → Hp → Prop) : Xt := (0, 0, fun _ _ _ _ => True, fun below args s G A => MQ below (va_Qi P (fun h' t => va_P G.1 vwCl (wl G h') t.heap) A) args s 0 0 A)
def Xl (P : Int64 → Hp → Prop) : Xt := (0, 0, fun _ _ _ _ => True, fun below args s G A => MQ below (va_Ql P (fun h' t => va_P G.1 vwCl (wl G h') t.heap) A) args s 0 0 A)
def Xv (P : Hp → Prop) : Xt := (0, 0, fun _ _ _ _ => True, fun below args s G A => MQ below (va_Qv P (fun h' t => va_P G.1 vwCl (wl G h') t.heap) A) args s 0 0 A)
theorem CtI_of {M : Mi} {av : List Value} {h : Hp} {P : Int32 → Hp → Prop} {ws' : List Cond} (hw : mW M = Cond.code (mY M) (mB M) (mN M) (mT M) :: ws') (hy : plainName (mY M).cls = true) (ho : mO M = (mY M).cls) (hn : (layL av).length ≤ mN M)
    (k : Ev (Xi P) M 0 (layL av) [] h) : CtI M av h P := by
  intro l G sz
  refine Met.ofW (cc := mB M) (maxL := mN M) (ret := mT M) hy hw ?_
  intro p e s m args below meth c s₁ B hml hv
  obtain ⟨rfl, hsz, hP, hK, hD0⟩ := hv
  subst hsz
  have hlen : ∀ vs : List Value, (lg_sl (vs.map (cv G.2.1))).length = (layL vs).length := by
    intro vs
    induction vs with
    | nil => rfl
    | cons u vs ih =>
      have ih' : (List.flatMap (fun v => if v.category = 2 then [Slot.val v, Slot.second] else [Slot.val v]) (vs.map (cv G.2.1))).length = (layL vs).length := ih
      simp only [lg_sl, List.map_cons, List.flatMap_cons, List.length_append, ih', layL, cv_cat]
      split <;> simp <;> omega
  have hl := lv_entry (av.map (cv G.2.1)) (n := mN M) (by rw [hlen]; exact hn)
  rw [lg_entry_eq]
  have hA0 : AD (va_A (wl G h) s.heap.size) G.2.1 := ⟨hD0.1, fun k hk => va_A.in (wl_get G h hk)⟩
  exact k p l e s m _ below meth c G (va_A (wl G h) s.heap.size) s.heap [] _ ⟨B.exec, B.bytes, B.returns, hml, by rw [ho]; exact findClass_of_methodNamed B.named, atoms_spec (ws := mW M) B.pre, B.notSynchronized, hK, fun q hq => Or.inr hq, hA0⟩ trivial
    ⟨hl.1, hl.2.1, fun i v hv => hl.2.2 (i, cv G.2.1 v) (by have := layL_at G.2.1 av 0 i v hv; rwa [Nat.zero_add] at this)⟩ hP va_S.rf
theorem CtL_of {M : Mi} {av : List Value} {h : Hp} {P : Int64 → Hp → Prop} {ws' : List Cond} (hw : mW M = Cond.code (mY M) (mB M) (mN M) (mT M) :: ws') (hy : plainName (mY M).cls = true) (ho : mO M = (mY M).cls) (hn : (layL av).length ≤ mN M)
    (k : Ev (Xl P) M 0 (layL av) [] h) : CtL M av h P := by
  intro l G sz
  refine Met.ofW (cc := mB M) (maxL := mN M) (ret := mT M) hy hw ?_
  intro p e s m args below meth c s₁ B hml hv
  obtain ⟨rfl, hsz, hP, hK, hD0⟩ := hv
  subst hsz
  have hlen : ∀ vs : List Value, (lg_sl (vs.map (cv G.2.1))).length = (layL vs).length := by
    intro vs
    induction vs with
    | nil => rfl
    | cons u vs ih =>
      have ih' : (List.flatMap (fun v => if v.category = 2 then [Slot.val v, Slot.second] else [Slot.val v]) (vs.map (cv G.2.1))).length = (layL vs).length := ih
      simp only [lg_sl, List.map_cons, List.flatMap_cons, List.length_append, ih', layL, cv_cat]
      split <;> simp <;> omega
  have hl := lv_entry (av.map (cv G.2.1)) (n := mN M) (by rw [hlen]; exact hn)
  rw [lg_entry_eq]
  have hA0 : AD (va_A (wl G h) s.heap.size) G.2.1 := ⟨hD0.1, fun k hk => va_A.in (wl_get G h hk)⟩
  exact k p l e s m _ below meth c G (va_A (wl G h) s.heap.size) s.heap [] _ ⟨B.exec, B.bytes, B.returns, hml, by rw [ho]; exact findClass_of_methodNamed B.named, atoms_spec (ws := mW M) B.pre, B.notSynchronized, hK, fun q hq => Or.inr hq, hA0⟩ trivial
    ⟨hl.1, hl.2.1, fun i v hv => hl.2.2 (i, cv G.2.1 v) (by have := layL_at G.2.1 av 0 i v hv; rwa [Nat.zero_add] at this)⟩ hP va_S.rf
theorem CtV_of {M : Mi} {av : List Value} {h : Hp} {P : Hp → Prop} {ws' : List Cond} (hw : mW M = Cond.code (mY M) (mB M) (mN M) (mT M) :: ws') (hy : plainName (mY M).cls = true) (ho : mO M = (mY M).cls) (hn : (layL av).length ≤ mN M)
    (k : Ev (Xv P) M 0 (layL av) [] h) : CtV M av h P := by
  intro l G sz
  refine Met.ofW (cc := mB M) (maxL := mN M) (ret := mT M) hy hw ?_
  intro p e s m args below meth c s₁ B hml hv
  obtain ⟨rfl, hsz, hP, hK, hD0⟩ := hv
  subst hsz
  have hlen : ∀ vs : List Value, (lg_sl (vs.map (cv G.2.1))).length = (layL vs).length := by
    intro vs
    induction vs with
    | nil => rfl
    | cons u vs ih =>
      have ih' : (List.flatMap (fun v => if v.category = 2 then [Slot.val v, Slot.second] else [Slot.val v]) (vs.map (cv G.2.1))).length = (layL vs).length := ih
      simp only [lg_sl, List.map_cons, List.flatMap_cons, List.length_append, ih', layL, cv_cat]
      split <;> simp <;> omega
  have hl := lv_entry (av.map (cv G.2.1)) (n := mN M) (by rw [hlen]; exact hn)
  rw [lg_entry_eq]
  have hA0 : AD (va_A (wl G h) s.heap.size) G.2.1 := ⟨hD0.1, fun k hk => va_A.in (wl_get G h hk)⟩
  exact k p l e s m _ below meth c G (va_A (wl G h) s.heap.size) s.heap [] _ ⟨B.exec, B.bytes, B.returns, hml, by rw [ho]; exact findClass_of_methodNamed B.named, atoms_spec (ws := mW M) B.pre, B.notSynchronized, hK, fun q hq => Or.inr hq, hA0⟩ trivial
    ⟨hl.1, hl.2.1, fun i v hv => hl.2.2 (i, cv G.2.1 v) (by have := layL_at G.2.1 av 0 i v hv; rwa [Nat.zero_add] at this)⟩ hP va_S.rf
section EvRules
variable {X : Xt} {M : Mi} {pc : Nat} {L : List (Option Value)} {st : List Value} {h : Hp}

theorem Ev.iadd {x y : Int32} (d : decode (mB M) pc = .ok (.iadd, 1)) (k : Ev X M (pc + 1) L (.int (x + y) :: st) h) : Ev X M pc L (.int y :: .int x :: st) h := by
  intro p l e s m args below meth c G A H locs ls C E hl hP hS
  exact lv_iadd C.1 C.2.1 d (k p l e s m args below meth c G A H locs ls C E hl hP hS)
theorem Ev.isub {x y : Int32} (d : decode (mB M) pc = .ok (.isub, 1)) (k : Ev X M (pc + 1) L (.int (x - y) :: st) h) : Ev X M pc L (.int y :: .int x :: st) h := by
  intro p l e s m args below meth c G A H locs ls C E hl hP hS
  exact lv_isub C.1 C.2.1 d (k p l e s m args below meth c G A H locs ls C E hl hP hS)
theorem Ev.imul {x y : Int32} (d : decode (mB M) pc = .ok (.imul, 1)) (k : Ev X M (pc + 1) L (.int (x * y) :: st) h) : Ev X M pc L (.int y :: .int x :: st) h := by
  intro p l e s m args below meth c G A H locs ls C E hl hP hS
  exact lv_imul C.1 C.2.1 d (k p l e s m args below meth c G A H locs ls C E hl hP hS)
theorem Ev.iand {x y : Int32} (d : decode (mB M) pc = .ok (.iand, 1)) (k : Ev X M (pc + 1) L (.int (x &&& y) :: st) h) : Ev X M pc L (.int y :: .int x :: st) h := by
  intro p l e s m args below meth c G A H locs ls C E hl hP hS
  exact lv_iand C.1 C.2.1 d (k p l e s m args below meth c G A H locs ls C E hl hP hS)
theorem Ev.ior {x y : Int32} (d : decode (mB M) pc = .ok (.ior, 1)) (k : Ev X M (pc + 1) L (.int (x ||| y) :: st) h) : Ev X M pc L (.int y :: .int x :: st) h := by
  intro p l e s m args below meth c G A H locs ls C E hl hP hS
  exact lv_ior C.1 C.2.1 d (k p l e s m args below meth c G A H locs ls C E hl hP hS)
theorem Ev.ishl {x y : Int32} (d : decode (mB M) pc = .ok (.ishl, 1)) (k : Ev X M (pc + 1) L (.int (x <<< (y &&& 31)) :: st) h) : Ev X M pc L (.int y :: .int x :: st) h := by
  intro p l e s m args below meth c G A H locs ls C E hl hP hS
  exact lv_ishl C.1 C.2.1 d (k p l e s m args below meth c G A H locs ls C E hl hP hS)
theorem Ev.ishr {x y : Int32} (d : decode (mB M) pc = .ok (.ishr, 1)) (k : Ev X M (pc + 1) L (.int (x >>> (y &&& 31)) :: st) h) : Ev X M pc L (.int y :: .int x :: st) h := by
  intro p l e s m args below meth c G A H locs ls C E hl hP hS
  exact lv_ishr C.1 C.2.1 d (k p l e s m args below meth c G A H locs ls C E hl hP hS)
theorem Ev.idiv {x y : Int32} (d : decode (mB M) pc = .ok (.idiv, 1)) (hne : ¬ y = 0) (k : Ev X M (pc + 1) L (.int (x / y) :: st) h) : Ev X M pc L (.int y :: .int x :: st) h := by
  intro p l e s m args below meth c G A H locs ls C E hl hP hS
  exact lv_idiv C.1 C.2.1 d hne (k p l e s m args below meth c G A H locs ls C E hl hP hS)
theorem Ev.irem {x y : Int32} (d : decode (mB M) pc = .ok (.irem, 1)) (hne : ¬ y = 0) (k : Ev X M (pc + 1) L (.int (x - x / y * y) :: st) h) : Ev X M pc L (.int y :: .int x :: st) h := by
  intro p l e s m args below meth c G A H locs ls C E hl hP hS
  exact lv_irem C.1 C.2.1 d hne (k p l e s m args below meth c G A H locs ls C E hl hP hS)
theorem Ev.ladd {x y : Int64} (d : decode (mB M) pc = .ok (.ladd, 1)) (k : Ev X M (pc + 1) L (.long (x + y) :: st) h) : Ev X M pc L (.long y :: .long x :: st) h := by
  intro p l e s m args below meth c G A H locs ls C E hl hP hS
  exact lv_ladd C.1 C.2.1 d (k p l e s m args below meth c G A H locs ls C E hl hP hS)
theorem Ev.lsub {x y : Int64} (d : decode (mB M) pc = .ok (.lsub, 1)) (k : Ev X M (pc + 1) L (.long (x - y) :: st) h) : Ev X M pc L (.long y :: .long x :: st) h := by
  intro p l e s m args below meth c G A H locs ls C E hl hP hS
  exact lv_lsub C.1 C.2.1 d (k p l e s m args below meth c G A H locs ls C E hl hP hS)
theorem Ev.lmul {x y : Int64} (d : decode (mB M) pc = .ok (.lmul, 1)) (k : Ev X M (pc + 1) L (.long (x * y) :: st) h) : Ev X M pc L (.long y :: .long x :: st) h := by
  intro p l e s m args below meth c G A H locs ls C E hl hP hS
  exact lv_lmul C.1 C.2.1 d (k p l e s m args below meth c G A H locs ls C E hl hP hS)
theorem Ev.land {x y : Int64} (d : decode (mB M) pc = .ok (.land, 1)) (k : Ev X M (pc + 1) L (.long (x &&& y) :: st) h) : Ev X M pc L (.long y :: .long x :: st) h := by
  intro p l e s m args below meth c G A H locs ls C E hl hP hS
  exact lv_land C.1 C.2.1 d (k p l e s m args below meth c G A H locs ls C E hl hP hS)
theorem Ev.lor {x y : Int64} (d : decode (mB M) pc = .ok (.lor, 1)) (k : Ev X M (pc + 1) L (.long (x ||| y) :: st) h) : Ev X M pc L (.long y :: .long x :: st) h := by
  intro p l e s m args below meth c G A H locs ls C E hl hP hS
  exact lv_lor C.1 C.2.1 d (k p l e s m args below meth c G A H locs ls C E hl hP hS)
theorem Ev.ldiv {x y : Int64} (d : decode (mB M) pc = .ok (.ldiv, 1)) (hne : ¬ y = 0) (k : Ev X M (pc + 1) L (.long (x / y) :: st) h) : Ev X M pc L (.long y :: .long x :: st) h := by
  intro p l e s m args below meth c G A H locs ls C E hl hP hS
  exact lv_ldiv C.1 C.2.1 d hne (k p l e s m args below meth c G A H locs ls C E hl hP hS)
theorem Ev.lrem {x y : Int64} (d : decode (mB M) pc = .ok (.lrem, 1)) (hne : ¬ y = 0) (k : Ev X M (pc + 1) L (.long (x - x / y * y) :: st) h) : Ev X M pc L (.long y :: .long x :: st) h := by
  intro p l e s m args below meth c G A H locs ls C E hl hP hS
  exact lv_lrem C.1 C.2.1 d hne (k p l e s m args below meth c G A H locs ls C E hl hP hS)
theorem Ev.ineg {x : Int32} (d : decode (mB M) pc = .ok (.ineg, 1)) (k : Ev X M (pc + 1) L (.int (-x) :: st) h) : Ev X M pc L (.int x :: st) h := by
  intro p l e s m args below meth c G A H locs ls C E hl hP hS
  exact lv_ineg C.1 C.2.1 d (k p l e s m args below meth c G A H locs ls C E hl hP hS)
theorem Ev.i2l {x : Int32} (d : decode (mB M) pc = .ok (.i2l, 1)) (k : Ev X M (pc + 1) L (.long x.toInt64 :: st) h) : Ev X M pc L (.int x :: st) h := by
  intro p l e s m args below meth c G A H locs ls C E hl hP hS
  exact lv_i2l C.1 C.2.1 d rfl (k p l e s m args below meth c G A H locs ls C E hl hP hS)
theorem Ev.l2i {x : Int64} (d : decode (mB M) pc = .ok (.l2i, 1)) (k : Ev X M (pc + 1) L (.int x.toInt32 :: st) h) : Ev X M pc L (.long x :: st) h := by
  intro p l e s m args below meth c G A H locs ls C E hl hP hS
  exact lv_l2i C.1 C.2.1 d rfl (k p l e s m args below meth c G A H locs ls C E hl hP hS)
theorem Ev.iushr {x y : Int32} (d : decode (mB M) pc = .ok (.iushr, 1)) (k : Ev X M (pc + 1) L (.int (x.toUInt32 >>> (y.toUInt32 &&& Int32.toUInt32 31)).toInt32 :: st) h) : Ev X M pc L (.int y :: .int x :: st) h := by
  intro p l e s m args below meth c G A H locs ls C E hl hP hS
  exact lv_iushr C.1 C.2.1 d rfl (k p l e s m args below meth c G A H locs ls C E hl hP hS)
theorem Ev.lushr {x : Int64} {y : Int32} (d : decode (mB M) pc = .ok (.lushr, 1)) (k : Ev X M (pc + 1) L (.long (x.toUInt64 >>> (y.toInt64.toUInt64 &&& Int64.toUInt64 63)).toInt64 :: st) h) : Ev X M pc L (.int y :: .long x :: st) h := by
  intro p l e s m args below meth c G A H locs ls C E hl hP hS
  exact lv_lushr C.1 C.2.1 d rfl (k p l e s m args below meth c G A H locs ls C E hl hP hS)
theorem Ev.lshl {x : Int64} {y : Int32} (d : decode (mB M) pc = .ok (.lshl, 1)) (k : Ev X M (pc + 1) L (.long (x <<< (y.toInt64 &&& 63)) :: st) h) : Ev X M pc L (.int y :: .long x :: st) h := by
  intro p l e s m args below meth c G A H locs ls C E hl hP hS
  exact lv_lshl C.1 C.2.1 d rfl (k p l e s m args below meth c G A H locs ls C E hl hP hS)
theorem Ev.lcmp {x y : Int64} (d : decode (mB M) pc = .ok (.lcmp, 1)) (k : Ev X M (pc + 1) L (.int (lg_cmp x y) :: st) h) : Ev X M pc L (.long y :: .long x :: st) h := by
  intro p l e s m args below meth c G A H locs ls C E hl hP hS
  exact W.lcmp C.1 C.2.1 d (k p l e s m args below meth c G A H locs ls C E hl hP hS)
theorem Ev.dup {v : Value} (d : decode (mB M) pc = .ok (.dup, 1)) (hv : v.category = 1) (k : Ev X M (pc + 1) L (v :: v :: st) h) : Ev X M pc L (v :: st) h := by
  intro p l e s m args below meth c G A H locs ls C E hl hP hS
  exact lv_dup C.1 C.2.1 d (by rw [cv_cat]; exact hv) (k p l e s m args below meth c G A H locs ls C E hl hP hS)
theorem Ev.pop {v : Value} (d : decode (mB M) pc = .ok (.pop, 1)) (hv : v.category = 1) (k : Ev X M (pc + 1) L (st) h) : Ev X M pc L (v :: st) h := by
  intro p l e s m args below meth c G A H locs ls C E hl hP hS
  exact lv_pop C.1 C.2.1 d (by rw [cv_cat]; exact hv) (k p l e s m args below meth c G A H locs ls C E hl hP hS)
theorem Ev.dup2 {v u : Value} (d : decode (mB M) pc = .ok (.dup2, 1)) (hv : v.category = 1) (hu : u.category = 1) (k : Ev X M (pc + 1) L (v :: u :: v :: u :: st) h) : Ev X M pc L (v :: u :: st) h := by
  intro p l e s m args below meth c G A H locs ls C E hl hP hS
  exact lv_dup2_11 C.1 C.2.1 d (by rw [cv_cat]; exact hv) (by rw [cv_cat]; exact hu) (k p l e s m args below meth c G A H locs ls C E hl hP hS)
theorem Ev.iconst {n : Int} {v : Int32} (d : decode (mB M) pc = .ok (.iconst n, 1)) (hv : Int32.ofInt n = v) (k : Ev X M (pc + 1) L (.int v :: st) h) : Ev X M pc L (st) h := by
  intro p l e s m args below meth c G A H locs ls C E hl hP hS
  exact lv_iconst C.1 C.2.1 d hv (k p l e s m args below meth c G A H locs ls C E hl hP hS)
theorem Ev.bipush {n : Int} {v : Int32} (d : decode (mB M) pc = .ok (.bipush n, 2)) (hv : (Int8.ofInt n).toInt32 = v) (k : Ev X M (pc + 2) L (.int v :: st) h) : Ev X M pc L (st) h := by
  intro p l e s m args below meth c G A H locs ls C E hl hP hS
  exact lv_bipush C.1 C.2.1 d hv (k p l e s m args below meth c G A H locs ls C E hl hP hS)
theorem Ev.sipush {n : Int} {v : Int32} (d : decode (mB M) pc = .ok (.sipush n, 3)) (hv : (Int16.ofInt n).toInt32 = v) (k : Ev X M (pc + 3) L (.int v :: st) h) : Ev X M pc L (st) h := by
  intro p l e s m args below meth c G A H locs ls C E hl hP hS
  exact lv_sipush C.1 C.2.1 d hv (k p l e s m args below meth c G A H locs ls C E hl hP hS)
theorem Ev.lconst {n : Fin 2} {v : Int64} (d : decode (mB M) pc = .ok (.lconst n, 1)) (hv : Int64.ofNat (n : Nat) = v) (k : Ev X M (pc + 1) L (.long v :: st) h) : Ev X M pc L (st) h := by
  intro p l e s m args below meth c G A H locs ls C E hl hP hS
  exact lv_lconst C.1 C.2.1 d hv (k p l e s m args below meth c G A H locs ls C E hl hP hS)
theorem Ev.iload_n {i : Fin 4} {x : Int32} (d : decode (mB M) pc = .ok (.iload_n i, 1)) (hi : L[(i : Nat)]? = some (some (.int x))) (k : Ev X M (pc + 1) L (.int x :: st) h) : Ev X M pc L st h := by
  intro p l e s m args below meth c G A H locs ls C E hl hP hS
  exact lv_iload_n C.1 C.2.1 d rfl (hl.2.2 _ _ hi) (k p l e s m args below meth c G A H locs ls C E hl hP hS)
theorem Ev.iload {i : Nat} {x : Int32} (d : decode (mB M) pc = .ok (.iload i, 2)) (hi : L[(i : Nat)]? = some (some (.int x))) (k : Ev X M (pc + 2) L (.int x :: st) h) : Ev X M pc L st h := by
  intro p l e s m args below meth c G A H locs ls C E hl hP hS
  exact lv_iload C.1 C.2.1 d (hl.2.2 _ _ hi) (k p l e s m args below meth c G A H locs ls C E hl hP hS)
theorem Ev.lload_n {i : Fin 4} {x : Int64} (d : decode (mB M) pc = .ok (.lload_n i, 1)) (hi : L[(i : Nat)]? = some (some (.long x))) (k : Ev X M (pc + 1) L (.long x :: st) h) : Ev X M pc L st h := by
  intro p l e s m args below meth c G A H locs ls C E hl hP hS
  exact lv_lload_n C.1 C.2.1 d rfl (hl.2.2 _ _ hi) (k p l e s m args below meth c G A H locs ls C E hl hP hS)
theorem Ev.lload {i : Nat} {x : Int64} (d : decode (mB M) pc = .ok (.lload i, 2)) (hi : L[(i : Nat)]? = some (some (.long x))) (k : Ev X M (pc + 2) L (.long x :: st) h) : Ev X M pc L st h := by
  intro p l e s m args below meth c G A H locs ls C E hl hP hS
  exact lv_lload C.1 C.2.1 d (hl.2.2 _ _ hi) (k p l e s m args below meth c G A H locs ls C E hl hP hS)
theorem Ev.aload_n {i : Fin 4} {x : Nat} (d : decode (mB M) pc = .ok (.aload_n i, 1)) (hi : L[(i : Nat)]? = some (some (.ref x))) (k : Ev X M (pc + 1) L (.ref x :: st) h) : Ev X M pc L st h := by
  intro p l e s m args below meth c G A H locs ls C E hl hP hS
  exact lv_aload_n C.1 C.2.1 d rfl (hl.2.2 _ _ hi) (k p l e s m args below meth c G A H locs ls C E hl hP hS)
theorem Ev.aload {i : Nat} {x : Nat} (d : decode (mB M) pc = .ok (.aload i, 2)) (hi : L[(i : Nat)]? = some (some (.ref x))) (k : Ev X M (pc + 2) L (.ref x :: st) h) : Ev X M pc L st h := by
  intro p l e s m args below meth c G A H locs ls C E hl hP hS
  exact lv_aload C.1 C.2.1 d (hl.2.2 _ _ hi) (k p l e s m args below meth c G A H locs ls C E hl hP hS)
theorem Ev.istore_n {i : Fin 4} {x : Int32} (d : decode (mB M) pc = .ok (.istore_n i, 1)) (hi : Nat.blt (i : Nat) (mN M) = true) (ho : okS L (i : Nat) = true) (k : Ev X M (pc + 1) (L.set (i : Nat) (some (.int x))) st h) : Ev X M pc L (.int x :: st) h := by
  intro p l e s m args below meth c G A H locs ls C E hl hP hS
  exact lv_istore_n C.1 C.2.1 d rfl (LH_has hl) (Nat.le_of_ble_eq_true hi) rfl (fun ls' hl' => k p l e s m args below meth c G A H locs ls' C E (LH_set1 (v := .int x) ho hl') hP hS)
theorem Ev.istore {i : Nat} {x : Int32} (d : decode (mB M) pc = .ok (.istore i, 2)) (hi : Nat.blt (i : Nat) (mN M) = true) (ho : okS L (i : Nat) = true) (k : Ev X M (pc + 2) (L.set (i : Nat) (some (.int x))) st h) : Ev X M pc L (.int x :: st) h := by
  intro p l e s m args below meth c G A H locs ls C E hl hP hS
  exact lv_istore C.1 C.2.1 d (LH_has hl) (Nat.le_of_ble_eq_true hi) rfl (fun ls' hl' => k p l e s m args below meth c G A H locs ls' C E (LH_set1 (v := .int x) ho hl') hP hS)
theorem Ev.lstore_n {i : Fin 4} {x : Int64} (d : decode (mB M) pc = .ok (.lstore_n i, 1)) (hi : Nat.blt ((i : Nat) + 1) (mN M) = true) (ho : okS L (i : Nat) = true) (k : Ev X M (pc + 1) ((L.set (i : Nat) (some (.long x))).set ((i : Nat) + 1) none) st h) : Ev X M pc L (.long x :: st) h := by
  intro p l e s m args below meth c G A H locs ls C E hl hP hS
  exact lv_lstore_n C.1 C.2.1 d rfl (LH_has hl) (Nat.le_of_ble_eq_true hi) rfl (fun ls' hl' => k p l e s m args below meth c G A H locs ls' C E (LH_set2 (v := .long x) ho hl') hP hS)
theorem Ev.lstore {i : Nat} {x : Int64} (d : decode (mB M) pc = .ok (.lstore i, 2)) (hi : Nat.blt ((i : Nat) + 1) (mN M) = true) (ho : okS L (i : Nat) = true) (k : Ev X M (pc + 2) ((L.set (i : Nat) (some (.long x))).set ((i : Nat) + 1) none) st h) : Ev X M pc L (.long x :: st) h := by
  intro p l e s m args below meth c G A H locs ls C E hl hP hS
  exact lv_lstore C.1 C.2.1 d (LH_has hl) (Nat.le_of_ble_eq_true hi) rfl (fun ls' hl' => k p l e s m args below meth c G A H locs ls' C E (LH_set2 (v := .long x) ho hl') hP hS)
theorem Ev.astore_n {i : Fin 4} {x : Nat} (d : decode (mB M) pc = .ok (.astore_n i, 1)) (hi : Nat.blt (i : Nat) (mN M) = true) (ho : okS L (i : Nat) = true) (k : Ev X M (pc + 1) (L.set (i : Nat) (some (.ref x))) st h) : Ev X M pc L (.ref x :: st) h := by
  intro p l e s m args below meth c G A H locs ls C E hl hP hS
  exact lv_astore_n C.1 C.2.1 d rfl (LH_has hl) (Nat.le_of_ble_eq_true hi) rfl (fun ls' hl' => k p l e s m args below meth c G A H locs ls' C E (LH_set1 (v := .ref x) ho hl') hP hS)
theorem Ev.astore {i : Nat} {x : Nat} (d : decode (mB M) pc = .ok (.astore i, 2)) (hi : Nat.blt (i : Nat) (mN M) = true) (ho : okS L (i : Nat) = true) (k : Ev X M (pc + 2) (L.set (i : Nat) (some (.ref x))) st h) : Ev X M pc L (.ref x :: st) h := by
  intro p l e s m args below meth c G A H locs ls C E hl hP hS
  exact lv_astore C.1 C.2.1 d (LH_has hl) (Nat.le_of_ble_eq_true hi) rfl (fun ls' hl' => k p l e s m args below meth c G A H locs ls' C E (LH_set1 (v := .ref x) ho hl') hP hS)
theorem lhL_place {ad : Nat → Nat} {L : List (Option Value)} {i : Nat} {v : Value} (h : L[i]? = some (some v)) : ∃ k : Nat, (lhL ad L)[k]? = some (i, cv ad v) := List.getElem?_of_mem (lhL_mem h)
theorem Ev.iinc {i : Nat} {n : Int} {x v : Int32} (d : decode (mB M) pc = .ok (.iinc i n, 3)) (hi : Nat.blt i (mN M) = true) (ho : okS L i = true) (hx : L[i]? = some (some (.int x))) (hv : Int32.ofInt n = v) (k : Ev X M (pc + 3) (L.set i (some (.int (x + v)))) st h) : Ev X M pc L st h := by
  subst hv
  intro p l e s m args below meth c G A H locs ls C E hl hP hS
  obtain ⟨k0, hk0⟩ := lhL_place (ad := G.2.1) hx
  exact lv_iinc C.1 C.2.1 d (LH_has hl) hk0 rfl (Nat.le_of_ble_eq_true hi) rfl (fun ls' hl' => k p l e s m args below meth c G A H locs ls' C E (LH_set1 (v := .int (x + Int32.ofInt n)) ho hl') hP hS)
theorem Ev.ifeq {x : Int32} {off : Int} {tgt : Nat} (d : decode (mB M) pc = .ok (.ifCond .eq off, 3)) (ht : (pc : Int) + off = (tgt : Int)) (kt : x = 0 → Ev X M tgt L st h) (kf : ¬ x = 0 → Ev X M (pc + 3) L st h) : Ev X M pc L (.int x :: st) h := by
  intro p l e s m args below meth c G A H locs ls C E hl hP hS
  exact lv_if_eq C.1 C.2.1 d ht (fun q => kt q p l e s m args below meth c G A H locs ls C E hl hP hS) (fun q => kf q p l e s m args below meth c G A H locs ls C E hl hP hS)
theorem Ev.ifne {x : Int32} {off : Int} {tgt : Nat} (d : decode (mB M) pc = .ok (.ifCond .ne off, 3)) (ht : (pc : Int) + off = (tgt : Int)) (kt : ¬ x = 0 → Ev X M tgt L st h) (kf : x = 0 → Ev X M (pc + 3) L st h) : Ev X M pc L (.int x :: st) h := by
  intro p l e s m args below meth c G A H locs ls C E hl hP hS
  exact lv_if_ne C.1 C.2.1 d ht (fun q => kt q p l e s m args below meth c G A H locs ls C E hl hP hS) (fun q => kf q p l e s m args below meth c G A H locs ls C E hl hP hS)
theorem Ev.iflt {x : Int32} {off : Int} {tgt : Nat} (d : decode (mB M) pc = .ok (.ifCond .lt off, 3)) (ht : (pc : Int) + off = (tgt : Int)) (kt : x < 0 → Ev X M tgt L st h) (kf : ¬ x < 0 → Ev X M (pc + 3) L st h) : Ev X M pc L (.int x :: st) h := by
  intro p l e s m args below meth c G A H locs ls C E hl hP hS
  exact lv_if_lt C.1 C.2.1 d ht (fun q => kt q p l e s m args below meth c G A H locs ls C E hl hP hS) (fun q => kf q p l e s m args below meth c G A H locs ls C E hl hP hS)
theorem Ev.ifge {x : Int32} {off : Int} {tgt : Nat} (d : decode (mB M) pc = .ok (.ifCond .ge off, 3)) (ht : (pc : Int) + off = (tgt : Int)) (kt : 0 ≤ x → Ev X M tgt L st h) (kf : ¬ 0 ≤ x → Ev X M (pc + 3) L st h) : Ev X M pc L (.int x :: st) h := by
  intro p l e s m args below meth c G A H locs ls C E hl hP hS
  exact lv_if_ge C.1 C.2.1 d ht (fun q => kt q p l e s m args below meth c G A H locs ls C E hl hP hS) (fun q => kf q p l e s m args below meth c G A H locs ls C E hl hP hS)
theorem Ev.ifgt {x : Int32} {off : Int} {tgt : Nat} (d : decode (mB M) pc = .ok (.ifCond .gt off, 3)) (ht : (pc : Int) + off = (tgt : Int)) (kt : 0 < x → Ev X M tgt L st h) (kf : ¬ 0 < x → Ev X M (pc + 3) L st h) : Ev X M pc L (.int x :: st) h := by
  intro p l e s m args below meth c G A H locs ls C E hl hP hS
  exact lv_if_gt C.1 C.2.1 d ht (fun q => kt q p l e s m args below meth c G A H locs ls C E hl hP hS) (fun q => kf q p l e s m args below meth c G A H locs ls C E hl hP hS)
theorem Ev.ifle {x : Int32} {off : Int} {tgt : Nat} (d : decode (mB M) pc = .ok (.ifCond .le off, 3)) (ht : (pc : Int) + off = (tgt : Int)) (kt : x ≤ 0 → Ev X M tgt L st h) (kf : ¬ x ≤ 0 → Ev X M (pc + 3) L st h) : Ev X M pc L (.int x :: st) h := by
  intro p l e s m args below meth c G A H locs ls C E hl hP hS
  exact lv_if_le C.1 C.2.1 d ht (fun q => kt q p l e s m args below meth c G A H locs ls C E hl hP hS) (fun q => kf q p l e s m args below meth c G A H locs ls C E hl hP hS)
theorem Ev.icmpeq {x y : Int32} {off : Int} {tgt : Nat} (d : decode (mB M) pc = .ok (.if_icmp .eq off, 3)) (ht : (pc : Int) + off = (tgt : Int)) (kt : x = y → Ev X M tgt L st h) (kf : ¬ x = y → Ev X M (pc + 3) L st h) : Ev X M pc L (.int y :: .int x :: st) h := by
  intro p l e s m args below meth c G A H locs ls C E hl hP hS
  exact lv_icmp_eq C.1 C.2.1 d ht (fun q => kt q p l e s m args below meth c G A H locs ls C E hl hP hS) (fun q => kf q p l e s m args below meth c G A H locs ls C E hl hP hS)
theorem Ev.icmpne {x y : Int32} {off : Int} {tgt : Nat} (d : decode (mB M) pc = .ok (.if_icmp .ne off, 3)) (ht : (pc : Int) + off = (tgt : Int)) (kt : ¬ x = y → Ev X M tgt L st h) (kf : x = y → Ev X M (pc + 3) L st h) : Ev X M pc L (.int y :: .int x :: st) h := by
  intro p l e s m args below meth c G A H locs ls C E hl hP hS
  exact lv_icmp_ne C.1 C.2.1 d ht (fun q => kt q p l e s m args below meth c G A H locs ls C E hl hP hS) (fun q => kf q p l e s m args below meth c G A H locs ls C E hl hP hS)
theorem Ev.icmplt {x y : Int32} {off : Int} {tgt : Nat} (d : decode (mB M) pc = .ok (.if_icmp .lt off, 3)) (ht : (pc : Int) + off = (tgt : Int)) (kt : x < y → Ev X M tgt L st h) (kf : ¬ x < y → Ev X M (pc + 3) L st h) : Ev X M pc L (.int y :: .int x :: st) h := by
  intro p l e s m args below meth c G A H locs ls C E hl hP hS
  exact lv_icmp_lt C.1 C.2.1 d ht (fun q => kt q p l e s m args below meth c G A H locs ls C E hl hP hS) (fun q => kf q p l e s m args below meth c G A H locs ls C E hl hP hS)
theorem Ev.icmpge {x y : Int32} {off : Int} {tgt : Nat} (d : decode (mB M) pc = .ok (.if_icmp .ge off, 3)) (ht : (pc : Int) + off = (tgt : Int)) (kt : y ≤ x → Ev X M tgt L st h) (kf : ¬ y ≤ x → Ev X M (pc + 3) L st h) : Ev X M pc L (.int y :: .int x :: st) h := by
  intro p l e s m args below meth c G A H locs ls C E hl hP hS
  exact lv_icmp_ge C.1 C.2.1 d ht (fun q => kt q p l e s m args below meth c G A H locs ls C E hl hP hS) (fun q => kf q p l e s m args below meth c G A H locs ls C E hl hP hS)
theorem Ev.icmpgt {x y : Int32} {off : Int} {tgt : Nat} (d : decode (mB M) pc = .ok (.if_icmp .gt off, 3)) (ht : (pc : Int) + off = (tgt : Int)) (kt : y < x → Ev X M tgt L st h) (kf : ¬ y < x → Ev X M (pc + 3) L st h) : Ev X M pc L (.int y :: .int x :: st) h := by
  intro p l e s m args below meth c G A H locs ls C E hl hP hS
  exact lv_icmp_gt C.1 C.2.1 d ht (fun q => kt q p l e s m args below meth c G A H locs ls C E hl hP hS) (fun q => kf q p l e s m args below meth c G A H locs ls C E hl hP hS)
theorem Ev.icmple {x y : Int32} {off : Int} {tgt : Nat} (d : decode (mB M) pc = .ok (.if_icmp .le off, 3)) (ht : (pc : Int) + off = (tgt : Int)) (kt : x ≤ y → Ev X M tgt L st h) (kf : ¬ x ≤ y → Ev X M (pc + 3) L st h) : Ev X M pc L (.int y :: .int x :: st) h := by
  intro p l e s m args below meth c G A H locs ls C E hl hP hS
  exact lv_icmp_le C.1 C.2.1 d ht (fun q => kt q p l e s m args below meth c G A H locs ls C E hl hP hS) (fun q => kf q p l e s m args below meth c G A H locs ls C E hl hP hS)
theorem Ev.goto {off : Int} {tgt : Nat} (d : decode (mB M) pc = .ok (.goto off, 3)) (ht : (pc : Int) + off = (tgt : Int)) (k : Ev X M tgt L st h) : Ev X M pc L st h := by
  intro p l e s m args below meth c G A H locs ls C E hl hP hS
  exact lv_goto C.1 C.2.1 d ht (k p l e s m args below meth c G A H locs ls C E hl hP hS)
theorem Ev.tableOut {dflt lo hi : Int} {offs : Array Int} {len : Nat} {x : Int32} {tgt : Nat} (d : decode (mB M) pc = .ok (.tableswitch dflt lo hi offs, len)) (hx : x.toInt < lo ∨ hi < x.toInt) (ht : (pc : Int) + dflt = (tgt : Int)) (k : Ev X M tgt L st h) : Ev X M pc L (.int x :: st) h := by
  intro p l e s m args below meth c G A H locs ls C E hl hP hS
  exact lv_tableOut C.1 C.2.1 d hx ht (k p l e s m args below meth c G A H locs ls C E hl hP hS)
theorem Ev.tableIn {dflt lo hi : Int} {offs : Array Int} {len : Nat} {x : Int32} {off : Int} {tgt : Nat} (d : decode (mB M) pc = .ok (.tableswitch dflt lo hi offs, len)) (h1 : ¬ x.toInt < lo) (h2 : ¬ hi < x.toInt) (ho : offs[(x.toInt - lo).toNat]? = some off) (ht : (pc : Int) + off = (tgt : Int)) (k : Ev X M tgt L st h) : Ev X M pc L (.int x :: st) h := by
  intro p l e s m args below meth c G A H locs ls C E hl hP hS
  exact lv_tableIn C.1 C.2.1 d h1 h2 ho ht (k p l e s m args below meth c G A H locs ls C E hl hP hS)
theorem Ev.ldcw {index : Nat} {v : Int32} (hc : Cond.constant (mO M) index v ∈ mW M) (d : decode (mB M) pc = .ok (.ldc_w index, 3)) (k : Ev X M (pc + 3) L (.int v :: st) h) : Ev X M pc L st h := by
  intro p l e s m args below meth c G A H locs ls C E hl hP hS
  exact lv_ldcw C.1 C.2.1 C.2.2.2.2.1 (C.2.2.2.2.2.1 _ hc) d (k p l e s m args below meth c G A H locs ls C E hl hP hS)
theorem Ev.ldc2 {index : Nat} {v : Int64} (hc : Cond.constantLong (mO M) index v ∈ mW M) (d : decode (mB M) pc = .ok (.ldc2_w index, 3)) (k : Ev X M (pc + 3) L (.long v :: st) h) : Ev X M pc L st h := by
  intro p l e s m args below meth c G A H locs ls C E hl hP hS
  exact lv_ldc2 C.1 C.2.1 C.2.2.2.2.1 (C.2.2.2.2.2.1 _ hc) d (k p l e s m args below meth c G A H locs ls C E hl hP hS)
/-- what a field of the object at a place holds -/
def Fld (h : Hp) (c ci k : Nat) (v : Value) : Prop := c < 48 ∧ ∀ G : Gx, ∃ fs, wK G h c = .inr (ci, fs) ∧ fs[k]? = some (cv G.2.1 v)
theorem Ev.get {index ci c0 k0 N : Nat} {C0 : String} {T : u_T} {v : Value} (F : Fld h c0 ci k0 v) (hc : vwCl[ci]? = some (C0, T, N)) (hin : ∀ w ∈ u_ws C0 T N, w ∈ mW M) (hk : k0 < N) (hl0 : Cond.fieldLink (mO M) index (T k0).1 (T k0).2.1 (T k0).2.2.1 ∈ mW M) (d : decode (mB M) pc = .ok (.getfield index, 3)) (k : Ev X M (pc + 3) L (v :: st) h) : Ev X M pc L (.ref c0 :: st) h := by
  intro p l e s m args below meth c G A H locs ls C E hl hP hS
  obtain ⟨fs, e1, e2⟩ := F.2 G
  have he := wl_get G h F.1
  rw [e1] at he
  exact va_get C.1 C.2.1 C.2.2.2.2.2.1 hin C.2.2.2.2.1 C.2.2.2.2.2.2.2.1.1 hP c0 he hc k0 hk (C.2.2.2.2.2.1 _ hl0) (fun _ h9 => h9) e2 d (k p l e s m args below meth c G A H locs ls C E hl hP hS)
/-- the field of the object at a place set -/
def Put (h h' : Hp) (c ci k : Nat) (v : Value) : Prop := c < 48 ∧ ∀ G : Gx, ∃ fs, wK G h c = .inr (ci, fs) ∧ k < fs.length ∧ wK G h' c = .inr (ci, fs.set k (cv G.2.1 v)) ∧ ∀ j, j ≠ c → wK G h' j = wK G h j
theorem Ev.put {index ci c0 k0 N : Nat} {C0 : String} {T : u_T} {ty0 : Nat → FieldType} {v : Value} {h' : Hp} {ty : FieldType} (F : Put h h' c0 ci k0 v) (hc : vwCl[ci]? = some (C0, T, N)) (hin : ∀ w ∈ u_ws C0 T N, w ∈ mW M) (hty : ∀ k, k < N → parseFieldDescriptor (T k).2.2.1 = some (ty0 k)) (hnm : ∀ a, a < N → ∀ b, b < N → a ≠ b → (T a).2.1 ≠ (T b).2.1) (hk : k0 < N) (hl0 : Cond.fieldLink (mO M) index (T k0).1 (T k0).2.1 (T k0).2.2.1 ∈ mW M) (hfin : (T k0).2.2.2 = false) (hd : parseFieldDescriptor (T k0).2.2.1 = some ty) (hn : ∀ ad, narrow ty (cv ad v) = cv ad v) (hfit : ∀ ad, fits ty (cv ad v) = true) (d : decode (mB M) pc = .ok (.putfield index, 3)) (k : Ev X M (pc + 3) L st h') : Ev X M pc L (v :: .ref c0 :: st) h := by
  intro p l e s m args below meth c G A H locs ls C E hl hP hS
  obtain ⟨fs, e1, e2, e3, e4⟩ := F.2 G
  have he := wl_get G h F.1
  rw [e1] at he
  refine va_put C.1 C.2.1 C.2.2.2.2.2.1 hin ty0 hty hnm C.2.2.2.2.1 C.2.2.2.2.2.2.2.1.1 hP (AD_wl C.2.2.2.2.2.2.2.2.2 h) hS c0 he hc k0 hk (C.2.2.2.2.2.1 _ hl0) (fun _ h9 => h9) hfin hd (hn _) (hfit _) e2 d (fun H1 locs1 hP1 hD1 hS1 => ?_)
  rw [wl_set e3 e4] at hP1
  exact k p l e s m args below meth c G A H1 locs1 ls C E hl hP1 hS1
/-- the int row at a place -/
def Arr (h : Hp) (c n : Nat) (f : Nat → Int32) : Prop := c < 48 ∧ ∀ G : Gx, wK G h c = .inl (G.2.2.1, n, .inl f)
def ArrZ (h : Hp) (c n : Nat) (f : Nat → Int32) : Prop := c < 48 ∧ ∀ G : Gx, wK G h c = .inl (G.2.2.2, n, .inl f)
def Sets (h h' : Hp) (c n : Nat) (f : Nat → Int32) : Prop := Arr h' c n f ∧ ∀ (G : Gx) (j : Nat), j ≠ c → wK G h' j = wK G h j
def SetsZ (h h' : Hp) (c n : Nat) (f : Nat → Int32) : Prop := ArrZ h' c n f ∧ ∀ (G : Gx) (j : Nat), j ≠ c → wK G h' j = wK G h j
theorem Ev.iald {c0 n : Nat} {f : Nat → Int32} {i : Int32} (F : Arr h c0 n f) (hin : vp_in i n) (d : decode (mB M) pc = .ok (.iaload, 1)) (k : Ev X M (pc + 1) L (.int (f i.toNatClampNeg) :: st) h) : Ev X M pc L (.int i :: .ref c0 :: st) h := by
  intro p l e s m args below meth c G A H locs ls C E hl hP hS
  have he := wl_get G h F.1
  rw [F.2 G] at he
  exact va_iald C.1 C.2.1 C.2.2.2.2.2.2.2.1.1 hP c0 0 he rfl hin d (k p l e s m args below meth c G A H locs ls C E hl hP hS)
theorem Ev.zald {c0 n : Nat} {f : Nat → Int32} {i : Int32} (F : ArrZ h c0 n f) (hin : vp_in i n) (d : decode (mB M) pc = .ok (.baload, 1)) (k : Ev X M (pc + 1) L (.int (f i.toNatClampNeg) :: st) h) : Ev X M pc L (.int i :: .ref c0 :: st) h := by
  intro p l e s m args below meth c G A H locs ls C E hl hP hS
  have he := wl_get G h F.1
  rw [F.2 G] at he
  exact va_zald C.1 C.2.1 C.2.2.2.2.2.2.2.1.1 hP c0 1 he rfl hin d (k p l e s m args below meth c G A H locs ls C E hl hP hS)
theorem Ev.alen {c0 n : Nat} {f : Nat → Int32} (F : Arr h c0 n f) (d : decode (mB M) pc = .ok (.arraylength, 1)) (k : Ev X M (pc + 1) L (.int (nI n) :: st) h) : Ev X M pc L (.ref c0 :: st) h := by
  intro p l e s m args below meth c G A H locs ls C E hl hP hS
  have he := wl_get G h F.1
  rw [F.2 G] at he
  exact va_alen C.1 C.2.1 C.2.2.2.2.2.2.2.1.1 hP c0 0 he rfl rfl d (k p l e s m args below meth c G A H locs ls C E hl hP hS)
theorem Ev.iast {c0 n : Nat} {f : Nat → Int32} {i x : Int32} {h' : Hp} (F : Arr h c0 n f) (hin : vp_in i n) (S : Sets h h' c0 n (upd f i.toNatClampNeg x)) (d : decode (mB M) pc = .ok (.iastore, 1)) (k : Ev X M (pc + 1) L st h') : Ev X M pc L (.int x :: .int i :: .ref c0 :: st) h := by
  intro p l e s m args below meth c G A H locs ls C E hl hP hS
  have he := wl_get G h F.1
  rw [F.2 G] at he
  refine va_iast C.1 C.2.1 C.2.2.2.2.2.2.2.1.1 hP (AD_wl C.2.2.2.2.2.2.2.2.2 h) hS c0 0 he rfl hin d (fun H1 locs1 hP1 hD1 hS1 => ?_)
  rw [wl_set (S.1.2 G) (S.2 G)] at hP1
  exact k p l e s m args below meth c G A H1 locs1 ls C E hl hP1 hS1
theorem Ev.zast {c0 n : Nat} {f : Nat → Int32} {i x : Int32} {h' : Hp} (F : ArrZ h c0 n f) (hin : vp_in i n) (S : SetsZ h h' c0 n (upd f i.toNatClampNeg (vp_nar .boolean x))) (d : decode (mB M) pc = .ok (.bastore, 1)) (k : Ev X M (pc + 1) L st h') : Ev X M pc L (.int x :: .int i :: .ref c0 :: st) h := by
  intro p l e s m args below meth c G A H locs ls C E hl hP hS
  have he := wl_get G h F.1
  rw [F.2 G] at he
  refine va_zast C.1 C.2.1 C.2.2.2.2.2.2.2.1.1 hP (AD_wl C.2.2.2.2.2.2.2.2.2 h) hS c0 1 he rfl hin d (fun H1 locs1 hP1 hD1 hS1 => ?_)
  rw [wl_set (S.1.2 G) (S.2 G)] at hP1
  exact k p l e s m args below meth c G A H1 locs1 ls C E hl hP1 hS1
theorem Ev.copy {c0 c1 n0 n1 index : Nat} {f g : Nat → Int32} {sp dp n : Int32} {h' : Hp} (F0 : Arr h c0 n0 f) (F1 : Arr h c1 n1 g) (h1 : ¬ sp < 0) (h2 : ¬ dp < 0) (h3 : ¬ n < 0) (h4 : sp.toNatClampNeg + n.toNatClampNeg ≤ n0) (h5 : dp.toNatClampNeg + n.toNatClampNeg ≤ n1) (S : Sets h h' c1 n1 (va_cpy f g sp.toNatClampNeg dp.toNatClampNeg n.toNatClampNeg))
    (w1 : Cond.methodLink (mO M) index arraycopyName ∈ mW M) (w2 : Cond.native arraycopyName ∈ mW M) (w3 : Cond.static arraycopyName ∈ mW M) (w4 : Cond.initialized "java/lang/System" ∈ mW M) (hr1 : 1 ≤ (mR M).frames) (hr2 : (st.map fun v => v.category).sum + (nativeFrameWords "java/lang/System" "arraycopy" 5 + 11) ≤ (mR M).locals) (d : decode (mB M) pc = .ok (.invokestatic index, 3)) (k : Ev X M (pc + 3) L st h') : Ev X M pc L (.int n :: .int dp :: .ref c1 :: .int sp :: .ref c0 :: st) h := by
  intro p l e s m args below meth c G A H locs ls C E hl hP hS
  have he0 := wl_get G h F0.1
  rw [F0.2 G] at he0
  have he1 := wl_get G h F1.1
  rw [F1.2 G] at he1
  have hcat : ((st.map (cv G.2.1)).map fun v => v.category).sum = (st.map fun v => v.category).sum := by
    rw [List.map_map]
    congr 1
    apply List.map_congr_left
    intro v _
    exact cv_cat _ v
  refine va_copyi C.1 C.2.1 (C.2.2.2.1.trans hl.1.symm) C.2.2.2.2.1 (C.2.2.2.2.2.1 _ w1) (C.2.2.2.2.2.1 _ w2) (C.2.2.2.2.2.1 _ w3) (C.2.2.2.2.2.1 _ w4) C.2.2.2.2.2.2.2.1.1 hP (AD_wl C.2.2.2.2.2.2.2.2.2 h) hS c0 c1 0 0 he0 he1 rfl rfl rfl h1 h2 h3 h4 h5 (fun _ _ => rfl) hr1 (by rw [hcat]; exact hr2) d (fun H1 locs1 hP1 hD1 hS1 => ?_)
  rw [wl_set (S.1.2 G) (S.2 G)] at hP1
  exact k p l e s m args below meth c G A H1 locs1 ls C E hl hP1 hS1
theorem Ev.mmax {index : Nat} {x y : Int32} (w1 : Cond.methodLink (mO M) index Lib.Math.max.name ∈ mW M) (w2 : Cond.static Lib.Math.max.name ∈ mW M) (w3 : Cond.initialized "java/lang/Math" ∈ mW M) (w4 : Cond.code Lib.Math.max.name Lib.Math.max.code 2 (some .int) ∈ mW M) (hr1 : 1 ≤ (mR M).frames) (hr2 : (st.map fun v => v.category).sum + 13 ≤ (mR M).locals) (hr3 : X.1 ≤ (mR M).cells ∧ X.2.1 ≤ (mR M).slots) (d : decode (mB M) pc = .ok (.invokestatic index, 3)) (k : Ev X M (pc + 3) L (.int (if x < y then y else x) :: st) h) : Ev X M pc L (.int y :: .int x :: st) h := by
  intro p l e s m args below meth c G A H locs ls C E hl hP hS
  have hcat : ((st.map (cv G.2.1)).map fun v => v.category).sum = (st.map fun v => v.category).sum := by
    rw [List.map_map]
    congr 1
    apply List.map_congr_left
    intro v _
    exact cv_cat _ v
  exact va_mmax C.1 C.2.1 (C.2.2.2.1.trans hl.1.symm) C.2.2.2.2.1 (C.2.2.2.2.2.1 _ w1) (C.2.2.2.2.2.1 _ w2) (C.2.2.2.2.2.1 _ w3) (C.2.2.2.2.2.1 _ w4) hr1 (by rw [hcat]; exact hr2) hr3.1 hr3.2 d (k p l e s m args below meth c G A H locs ls C E hl hP hS)

theorem Ev.callVi {M' : Mi} {As : List Value} {index : Nat} {P : Int32 → Hp → Prop} {st0 : List Value} {ws' : List Cond} {c0 ci N : Nat} {C0 : String} {T : u_T} (hM : CtI M' (.ref c0 :: As) h P) (hs0 : st0 = As.reverse ++ .ref c0 :: st) (hc : vwCl[ci]? = some (C0, T, N)) (F : c0 < 48 ∧ ∀ G : Gx, ∃ fs, wK G h c0 = .inr (ci, fs)) (g : GoodIn (mW M) (wsV (mO M) index C0 (mY M') (mW M'))) (hd : (mY M').cls = C0 ∧ (mY M').cls ≠ "java/lang/invoke/MethodHandle" ∧ (mY M').cls ≠ "java/lang/invoke/VarHandle" ∧ (parseMethodDescriptor (mY M').desc).map (fun d => d.parameters.length) = some As.length) (hw : mW M' = Cond.code (mY M') (mB M') (mN M') (mT M') :: ws') (hz : (mR M').cells = 0 ∧ (mR M').slots = 0) (hR : (mR M').frames + 1 ≤ (mR M).frames ∧ 8 + (mN M' + 11) + (mR M').locals ≤ (mR M).locals) (hrs : (st.map fun v => v.category).sum ≤ 8) (hf : X.1 ≤ (mR M).cells ∧ X.2.1 ≤ (mR M).slots) (d : decode (mB M) pc = .ok (.invokevirtual index, 3)) (k : ∀ (r : Int32) (h1 : Hp), P r h1 → Ev X M (pc + 3) L (.int r :: st) h1) : Ev X M pc L st0 h := by
  subst hs0
  intro p l e s m args below meth c G A H locs ls C E hl hP hS
  have hD := AD_wl C.2.2.2.2.2.2.2.2.2 h
  have hK := C.2.2.2.2.2.2.2.1
  have hts := C.2.2.2.2.2.1
  have hFc : ∀ q, va_A (wl G h) H.size q → A q := by
    intro q hq
    rcases hq with ⟨k2, e2, hk2⟩ | hq
    · exact hD.2 k2 _ hk2
    · exact C.2.2.2.2.2.2.2.2.1 q (Nat.le_trans hS.1 hq)
  have hcat : ((st.map (cv G.2.1)).map fun v => v.category).sum ≤ 8 := by
    rw [List.map_map]
    refine Nat.le_trans (Nat.le_of_eq ?_) hrs
    congr 1
    apply List.map_congr_left
    intro v _
    exact cv_cat _ v
  have hM1 : Met l (mY M') (mW M') (mR M') (va_Pc ((.ref c0 :: As).map (cv G.2.1)) (fun U => U.heap.size = H.size ∧ va_P G.1 vwCl (wl G h) U.heap ∧ KK G U ∧ AD (fun _ => True) G.2.1)) (va_Qi P (fun h' t => va_P G.1 vwCl (wl G h') t.heap) (va_A (wl G h) H.size)) 0 0 (va_A (wl G h) H.size) := hM l G H.size
  obtain ⟨fs, ef⟩ := F.2 G
  have he := wl_get G h F.1
  rw [ef] at he
  refine va_calli (va_runV (As := As.map (cv G.2.1)) (rest := st.map (cv G.2.1)) ⟨C.1, C.2.1, C.2.2.2.1, C.2.2.2.2.1, hts⟩ hM1 (cwV As.length hts g hw hz.1 hz.2 hd hR) ⟨fun a U g mk q => by obtain ⟨q0, q1, qP, qK, qD⟩ := q; exact ⟨q0, q1, qP, KK_calling qK, qD⟩, va_recv hK.1 hP hc he, fun U hU hW => ⟨rfl, by rw [hU], by rw [hU]; exact hP, KK_warm hW hK, ⟨C.2.2.2.2.2.2.2.2.2.1, fun _ _ => trivial⟩⟩⟩ rfl (by simp) hl.1 (by simp [cv]) (lv_room hcat) d hf) hS (fun q _ hq => hFc q hq) hFc (fun r h1 t H1 locs1 ht hvm hr1 hB hz1 hk1 hS1 => ?_)
  subst ht
  exact k r h1 hr1 p l e s m args below meth c G A t.heap locs1 ls C E hl hB hS1
theorem Ev.callVl {M' : Mi} {As : List Value} {index : Nat} {P : Int64 → Hp → Prop} {st0 : List Value} {ws' : List Cond} {c0 ci N : Nat} {C0 : String} {T : u_T} (hM : CtL M' (.ref c0 :: As) h P) (hs0 : st0 = As.reverse ++ .ref c0 :: st) (hc : vwCl[ci]? = some (C0, T, N)) (F : c0 < 48 ∧ ∀ G : Gx, ∃ fs, wK G h c0 = .inr (ci, fs)) (g : GoodIn (mW M) (wsV (mO M) index C0 (mY M') (mW M'))) (hd : (mY M').cls = C0 ∧ (mY M').cls ≠ "java/lang/invoke/MethodHandle" ∧ (mY M').cls ≠ "java/lang/invoke/VarHandle" ∧ (parseMethodDescriptor (mY M').desc).map (fun d => d.parameters.length) = some As.length) (hw : mW M' = Cond.code (mY M') (mB M') (mN M') (mT M') :: ws') (hz : (mR M').cells = 0 ∧ (mR M').slots = 0) (hR : (mR M').frames + 1 ≤ (mR M).frames ∧ 8 + (mN M' + 11) + (mR M').locals ≤ (mR M).locals) (hrs : (st.map fun v => v.category).sum ≤ 8) (hf : X.1 ≤ (mR M).cells ∧ X.2.1 ≤ (mR M).slots) (d : decode (mB M) pc = .ok (.invokevirtual index, 3)) (k : ∀ (r : Int64) (h1 : Hp), P r h1 → Ev X M (pc + 3) L (.long r :: st) h1) : Ev X M pc L st0 h := by
  subst hs0
  intro p l e s m args below meth c G A H locs ls C E hl hP hS
  have hD := AD_wl C.2.2.2.2.2.2.2.2.2 h
  have hK := C.2.2.2.2.2.2.2.1
  have hts := C.2.2.2.2.2.1
  have hFc : ∀ q, va_A (wl G h) H.size q → A q := by
    intro q hq
    rcases hq with ⟨k2, e2, hk2⟩ | hq
    · exact hD.2 k2 _ hk2
    · exact C.2.2.2.2.2.2.2.2.1 q (Nat.le_trans hS.1 hq)
  have hcat : ((st.map (cv G.2.1)).map fun v => v.category).sum ≤ 8 := by
    rw [List.map_map]
    refine Nat.le_trans (Nat.le_of_eq ?_) hrs
    congr 1
    apply List.map_congr_left
    intro v _
    exact cv_cat _ v
  have hM1 : Met l (mY M') (mW M') (mR M') (va_Pc ((.ref c0 :: As).map (cv G.2.1)) (fun U => U.heap.size = H.size ∧ va_P G.1 vwCl (wl G h) U.heap ∧ KK G U ∧ AD (fun _ => True) G.2.1)) (va_Ql P (fun h' t => va_P G.1 vwCl (wl G h') t.heap) (va_A (wl G h) H.size)) 0 0 (va_A (wl G h) H.size) := hM l G H.size
  obtain ⟨fs, ef⟩ := F.2 G
  have he := wl_get G h F.1
  rw [ef] at he
  refine va_calll (va_runV (As := As.map (cv G.2.1)) (rest := st.map (cv G.2.1)) ⟨C.1, C.2.1, C.2.2.2.1, C.2.2.2.2.1, hts⟩ hM1 (cwV As.length hts g hw hz.1 hz.2 hd hR) ⟨fun a U g mk q => by obtain ⟨q0, q1, qP, qK, qD⟩ := q; exact ⟨q0, q1, qP, KK_calling qK, qD⟩, va_recv hK.1 hP hc he, fun U hU hW => ⟨rfl, by rw [hU], by rw [hU]; exact hP, KK_warm hW hK, ⟨C.2.2.2.2.2.2.2.2.2.1, fun _ _ => trivial⟩⟩⟩ rfl (by simp) hl.1 (by simp [cv]) (lv_room hcat) d hf) hS (fun q _ hq => hFc q hq) hFc (fun r h1 t H1 locs1 ht hvm hr1 hB hz1 hk1 hS1 => ?_)
  subst ht
  exact k r h1 hr1 p l e s m args below meth c G A t.heap locs1 ls C E hl hB hS1
theorem Ev.callVv {M' : Mi} {As : List Value} {index : Nat} {P : Hp → Prop} {st0 : List Value} {ws' : List Cond} {c0 ci N : Nat} {C0 : String} {T : u_T} (hM : CtV M' (.ref c0 :: As) h P) (hs0 : st0 = As.reverse ++ .ref c0 :: st) (hc : vwCl[ci]? = some (C0, T, N)) (F : c0 < 48 ∧ ∀ G : Gx, ∃ fs, wK G h c0 = .inr (ci, fs)) (g : GoodIn (mW M) (wsV (mO M) index C0 (mY M') (mW M'))) (hd : (mY M').cls = C0 ∧ (mY M').cls ≠ "java/lang/invoke/MethodHandle" ∧ (mY M').cls ≠ "java/lang/invoke/VarHandle" ∧ (parseMethodDescriptor (mY M').desc).map (fun d => d.parameters.length) = some As.length) (hw : mW M' = Cond.code (mY M') (mB M') (mN M') (mT M') :: ws') (hz : (mR M').cells = 0 ∧ (mR M').slots = 0) (hR : (mR M').frames + 1 ≤ (mR M).frames ∧ 8 + (mN M' + 11) + (mR M').locals ≤ (mR M).locals) (hrs : (st.map fun v => v.category).sum ≤ 8) (hf : X.1 ≤ (mR M).cells ∧ X.2.1 ≤ (mR M).slots) (d : decode (mB M) pc = .ok (.invokevirtual index, 3)) (k : ∀ (h1 : Hp), P h1 → Ev X M (pc + 3) L (st) h1) : Ev X M pc L st0 h := by
  subst hs0
  intro p l e s m args below meth c G A H locs ls C E hl hP hS
  have hD := AD_wl C.2.2.2.2.2.2.2.2.2 h
  have hK := C.2.2.2.2.2.2.2.1
  have hts := C.2.2.2.2.2.1
  have hFc : ∀ q, va_A (wl G h) H.size q → A q := by
    intro q hq
    rcases hq with ⟨k2, e2, hk2⟩ | hq
    · exact hD.2 k2 _ hk2
    · exact C.2.2.2.2.2.2.2.2.1 q (Nat.le_trans hS.1 hq)
  have hcat : ((st.map (cv G.2.1)).map fun v => v.category).sum ≤ 8 := by
    rw [List.map_map]
    refine Nat.le_trans (Nat.le_of_eq ?_) hrs
    congr 1
    apply List.map_congr_left
    intro v _
    exact cv_cat _ v
  have hM1 : Met l (mY M') (mW M') (mR M') (va_Pc ((.ref c0 :: As).map (cv G.2.1)) (fun U => U.heap.size = H.size ∧ va_P G.1 vwCl (wl G h) U.heap ∧ KK G U ∧ AD (fun _ => True) G.2.1)) (va_Qv P (fun h' t => va_P G.1 vwCl (wl G h') t.heap) (va_A (wl G h) H.size)) 0 0 (va_A (wl G h) H.size) := hM l G H.size
  obtain ⟨fs, ef⟩ := F.2 G
  have he := wl_get G h F.1
  rw [ef] at he
  refine va_callv (va_runV (As := As.map (cv G.2.1)) (rest := st.map (cv G.2.1)) ⟨C.1, C.2.1, C.2.2.2.1, C.2.2.2.2.1, hts⟩ hM1 (cwV As.length hts g hw hz.1 hz.2 hd hR) ⟨fun a U g mk q => by obtain ⟨q0, q1, qP, qK, qD⟩ := q; exact ⟨q0, q1, qP, KK_calling qK, qD⟩, va_recv hK.1 hP hc he, fun U hU hW => ⟨rfl, by rw [hU], by rw [hU]; exact hP, KK_warm hW hK, ⟨C.2.2.2.2.2.2.2.2.2.1, fun _ _ => trivial⟩⟩⟩ rfl (by simp) hl.1 (by simp [cv]) (lv_room hcat) d hf) hS (fun q _ hq => hFc q hq) hFc (fun h1 t H1 locs1 ht hvm hr1 hB hz1 hk1 hS1 => ?_)
  subst ht
  exact k h1 hr1 p l e s m args below meth c G A t.heap locs1 ls C E hl hB hS1
theorem Ev.callSi {M' : Mi} {As : List Value} {index : Nat} {P : Int32 → Hp → Prop} {st0 : List Value} {ws' : List Cond} (hM : CtI M' (As) h P) (hs0 : st0 = As.reverse ++ st) (g : GoodIn (mW M) (va_wsS (mO M) index (mY M') (mW M'))) (hd : (mY M').cls ≠ "java/lang/invoke/MethodHandle" ∧ (mY M').cls ≠ "java/lang/invoke/VarHandle" ∧ (parseMethodDescriptor (mY M').desc).map (fun d => d.parameters.length) = some As.length) (hw : mW M' = Cond.code (mY M') (mB M') (mN M') (mT M') :: ws') (hz : (mR M').cells = 0 ∧ (mR M').slots = 0) (hR : (mR M').frames + 1 ≤ (mR M).frames ∧ 8 + (mN M' + 11) + (mR M').locals ≤ (mR M).locals) (hrs : (st.map fun v => v.category).sum ≤ 8) (hf : X.1 ≤ (mR M).cells ∧ X.2.1 ≤ (mR M).slots) (d : decode (mB M) pc = .ok (.invokestatic index, 3)) (k : ∀ (r : Int32) (h1 : Hp), P r h1 → Ev X M (pc + 3) L (.int r :: st) h1) : Ev X M pc L st0 h := by
  subst hs0
  intro p l e s m args below meth c G A H locs ls C E hl hP hS
  have hD := AD_wl C.2.2.2.2.2.2.2.2.2 h
  have hK := C.2.2.2.2.2.2.2.1
  have hts := C.2.2.2.2.2.1
  have hFc : ∀ q, va_A (wl G h) H.size q → A q := by
    intro q hq
    rcases hq with ⟨k2, e2, hk2⟩ | hq
    · exact hD.2 k2 _ hk2
    · exact C.2.2.2.2.2.2.2.2.1 q (Nat.le_trans hS.1 hq)
  have hcat : ((st.map (cv G.2.1)).map fun v => v.category).sum ≤ 8 := by
    rw [List.map_map]
    refine Nat.le_trans (Nat.le_of_eq ?_) hrs
    congr 1
    apply List.map_congr_left
    intro v _
    exact cv_cat _ v
  have hM1 : Met l (mY M') (mW M') (mR M') (va_Pc ((As).map (cv G.2.1)) (fun U => U.heap.size = H.size ∧ va_P G.1 vwCl (wl G h) U.heap ∧ KK G U ∧ AD (fun _ => True) G.2.1)) (va_Qi P (fun h' t => va_P G.1 vwCl (wl G h') t.heap) (va_A (wl G h) H.size)) 0 0 (va_A (wl G h) H.size) := hM l G H.size
  refine va_calli (va_runS (As := As.map (cv G.2.1)) (rest := st.map (cv G.2.1)) ⟨C.1, C.2.1, C.2.2.2.1, C.2.2.2.2.1, hts⟩ hM1 (va_cwS As.length hts g hw hz.1 hz.2 hd hR) ⟨fun a U g mk q => by obtain ⟨q0, q1, qP, qK, qD⟩ := q; exact ⟨q0, q1, qP, KK_calling qK, qD⟩, fun U hU hW => ⟨rfl, by rw [hU], by rw [hU]; exact hP, KK_warm hW hK, ⟨C.2.2.2.2.2.2.2.2.2.1, fun _ _ => trivial⟩⟩⟩ rfl (by simp) hl.1 (by simp) (lv_room hcat) d hf) hS (fun q _ hq => hFc q hq) hFc (fun r h1 t H1 locs1 ht hvm hr1 hB hz1 hk1 hS1 => ?_)
  subst ht
  exact k r h1 hr1 p l e s m args below meth c G A t.heap locs1 ls C E hl hB hS1
theorem Ev.callSl {M' : Mi} {As : List Value} {index : Nat} {P : Int64 → Hp → Prop} {st0 : List Value} {ws' : List Cond} (hM : CtL M' (As) h P) (hs0 : st0 = As.reverse ++ st) (g : GoodIn (mW M) (va_wsS (mO M) index (mY M') (mW M'))) (hd : (mY M').cls ≠ "java/lang/invoke/MethodHandle" ∧ (mY M').cls ≠ "java/lang/invoke/VarHandle" ∧ (parseMethodDescriptor (mY M').desc).map (fun d => d.parameters.length) = some As.length) (hw : mW M' = Cond.code (mY M') (mB M') (mN M') (mT M') :: ws') (hz : (mR M').cells = 0 ∧ (mR M').slots = 0) (hR : (mR M').frames + 1 ≤ (mR M).frames ∧ 8 + (mN M' + 11) + (mR M').locals ≤ (mR M).locals) (hrs : (st.map fun v => v.category).sum ≤ 8) (hf : X.1 ≤ (mR M).cells ∧ X.2.1 ≤ (mR M).slots) (d : decode (mB M) pc = .ok (.invokestatic index, 3)) (k : ∀ (r : Int64) (h1 : Hp), P r h1 → Ev X M (pc + 3) L (.long r :: st) h1) : Ev X M pc L st0 h := by
  subst hs0
  intro p l e s m args below meth c G A H locs ls C E hl hP hS
  have hD := AD_wl C.2.2.2.2.2.2.2.2.2 h
  have hK := C.2.2.2.2.2.2.2.1
  have hts := C.2.2.2.2.2.1
  have hFc : ∀ q, va_A (wl G h) H.size q → A q := by
    intro q hq
    rcases hq with ⟨k2, e2, hk2⟩ | hq
    · exact hD.2 k2 _ hk2
    · exact C.2.2.2.2.2.2.2.2.1 q (Nat.le_trans hS.1 hq)
  have hcat : ((st.map (cv G.2.1)).map fun v => v.category).sum ≤ 8 := by
    rw [List.map_map]
    refine Nat.le_trans (Nat.le_of_eq ?_) hrs
    congr 1
    apply List.map_congr_left
    intro v _
    exact cv_cat _ v
  have hM1 : Met l (mY M') (mW M') (mR M') (va_Pc ((As).map (cv G.2.1)) (fun U => U.heap.size = H.size ∧ va_P G.1 vwCl (wl G h) U.heap ∧ KK G U ∧ AD (fun _ => True) G.2.1)) (va_Ql P (fun h' t => va_P G.1 vwCl (wl G h') t.heap) (va_A (wl G h) H.size)) 0 0 (va_A (wl G h) H.size) := hM l G H.size
  refine va_calll (va_runS (As := As.map (cv G.2.1)) (rest := st.map (cv G.2.1)) ⟨C.1, C.2.1, C.2.2.2.1, C.2.2.2.2.1, hts⟩ hM1 (va_cwS As.length hts g hw hz.1 hz.2 hd hR) ⟨fun a U g mk q => by obtain ⟨q0, q1, qP, qK, qD⟩ := q; exact ⟨q0, q1, qP, KK_calling qK, qD⟩, fun U hU hW => ⟨rfl, by rw [hU], by rw [hU]; exact hP, KK_warm hW hK, ⟨C.2.2.2.2.2.2.2.2.2.1, fun _ _ => trivial⟩⟩⟩ rfl (by simp) hl.1 (by simp) (lv_room hcat) d hf) hS (fun q _ hq => hFc q hq) hFc (fun r h1 t H1 locs1 ht hvm hr1 hB hz1 hk1 hS1 => ?_)
  subst ht
  exact k r h1 hr1 p l e s m args below meth c G A t.heap locs1 ls C E hl hB hS1
theorem Ev.callSv {M' : Mi} {As : List Value} {index : Nat} {P : Hp → Prop} {st0 : List Value} {ws' : List Cond} (hM : CtV M' (As) h P) (hs0 : st0 = As.reverse ++ st) (g : GoodIn (mW M) (va_wsS (mO M) index (mY M') (mW M'))) (hd : (mY M').cls ≠ "java/lang/invoke/MethodHandle" ∧ (mY M').cls ≠ "java/lang/invoke/VarHandle" ∧ (parseMethodDescriptor (mY M').desc).map (fun d => d.parameters.length) = some As.length) (hw : mW M' = Cond.code (mY M') (mB M') (mN M') (mT M') :: ws') (hz : (mR M').cells = 0 ∧ (mR M').slots = 0) (hR : (mR M').frames + 1 ≤ (mR M).frames ∧ 8 + (mN M' + 11) + (mR M').locals ≤ (mR M).locals) (hrs : (st.map fun v => v.category).sum ≤ 8) (hf : X.1 ≤ (mR M).cells ∧ X.2.1 ≤ (mR M).slots) (d : decode (mB M) pc = .ok (.invokestatic index, 3)) (k : ∀ (h1 : Hp), P h1 → Ev X M (pc + 3) L (st) h1) : Ev X M pc L st0 h := by
  subst hs0
  intro p l e s m args below meth c G A H locs ls C E hl hP hS
  have hD := AD_wl C.2.2.2.2.2.2.2.2.2 h
  have hK := C.2.2.2.2.2.2.2.1
  have hts := C.2.2.2.2.2.1
  have hFc : ∀ q, va_A (wl G h) H.size q → A q := by
    intro q hq
    rcases hq with ⟨k2, e2, hk2⟩ | hq
    · exact hD.2 k2 _ hk2
    · exact C.2.2.2.2.2.2.2.2.1 q (Nat.le_trans hS.1 hq)
  have hcat : ((st.map (cv G.2.1)).map fun v => v.category).sum ≤ 8 := by
    rw [List.map_map]
    refine Nat.le_trans (Nat.le_of_eq ?_) hrs
    congr 1
    apply List.map_congr_left
    intro v _
    exact cv_cat _ v
  have hM1 : Met l (mY M') (mW M') (mR M') (va_Pc ((As).map (cv G.2.1)) (fun U => U.heap.size = H.size ∧ va_P G.1 vwCl (wl G h) U.heap ∧ KK G U ∧ AD (fun _ => True) G.2.1)) (va_Qv P (fun h' t => va_P G.1 vwCl (wl G h') t.heap) (va_A (wl G h) H.size)) 0 0 (va_A (wl G h) H.size) := hM l G H.size
  refine va_callv (va_runS (As := As.map (cv G.2.1)) (rest := st.map (cv G.2.1)) ⟨C.1, C.2.1, C.2.2.2.1, C.2.2.2.2.1, hts⟩ hM1 (va_cwS As.length hts g hw hz.1 hz.2 hd hR) ⟨fun a U g mk q => by obtain ⟨q0, q1, qP, qK, qD⟩ := q; exact ⟨q0, q1, qP, KK_calling qK, qD⟩, fun U hU hW => ⟨rfl, by rw [hU], by rw [hU]; exact hP, KK_warm hW hK, ⟨C.2.2.2.2.2.2.2.2.2.1, fun _ _ => trivial⟩⟩⟩ rfl (by simp) hl.1 (by simp) (lv_room hcat) d hf) hS (fun q _ hq => hFc q hq) hFc (fun h1 t H1 locs1 ht hvm hr1 hB hz1 hk1 hS1 => ?_)
  subst ht
  exact k h1 hr1 p l e s m args below meth c G A t.heap locs1 ls C E hl hB hS1
theorem Ev.callNi {M' : Mi} {As : List Value} {index : Nat} {P : Int32 → Hp → Prop} {st0 : List Value} {ws' : List Cond} (hM : CtI M' (As) h P) (hs0 : st0 = As.reverse ++ st) (g : GoodIn (mW M) (mW M')) (hnw : Cond.methodLinkNest (mO M) index (mY M') "MudBoards" ∈ nestW) (hst : Cond.static (mY M') ∈ mW M) (hini : Cond.initialized (mY M').cls ∈ mW M) (hd : (mY M').cls ≠ "java/lang/invoke/MethodHandle" ∧ (mY M').cls ≠ "java/lang/invoke/VarHandle" ∧ (parseMethodDescriptor (mY M').desc).map (fun d => d.parameters.length) = some As.length) (hw : mW M' = Cond.code (mY M') (mB M') (mN M') (mT M') :: ws') (hz : (mR M').cells = 0 ∧ (mR M').slots = 0) (hR : (mR M').frames + 1 ≤ (mR M).frames ∧ 8 + (mN M' + 11) + (mR M').locals ≤ (mR M).locals) (hrs : (st.map fun v => v.category).sum ≤ 8) (hf : X.1 ≤ (mR M).cells ∧ X.2.1 ≤ (mR M).slots) (d : decode (mB M) pc = .ok (.invokestatic index, 3)) (k : ∀ (r : Int32) (h1 : Hp), P r h1 → Ev X M (pc + 3) L (.int r :: st) h1) : Ev X M pc L st0 h := by
  subst hs0
  intro p l e s m args below meth c G A H locs ls C E hl hP hS
  have hD := AD_wl C.2.2.2.2.2.2.2.2.2 h
  have hK := C.2.2.2.2.2.2.2.1
  have hts := C.2.2.2.2.2.1
  have hFc : ∀ q, va_A (wl G h) H.size q → A q := by
    intro q hq
    rcases hq with ⟨k2, e2, hk2⟩ | hq
    · exact hD.2 k2 _ hk2
    · exact C.2.2.2.2.2.2.2.2.1 q (Nat.le_trans hS.1 hq)
  have hcat : ((st.map (cv G.2.1)).map fun v => v.category).sum ≤ 8 := by
    rw [List.map_map]
    refine Nat.le_trans (Nat.le_of_eq ?_) hrs
    congr 1
    apply List.map_congr_left
    intro v _
    exact cv_cat _ v
  have hM1 : Met l (mY M') (mW M') (mR M') (va_Pc ((As).map (cv G.2.1)) (fun U => U.heap.size = H.size ∧ va_P G.1 vwCl (wl G h) U.heap ∧ KK G U ∧ AD (fun _ => True) G.2.1)) (va_Qi P (fun h' t => va_P G.1 vwCl (wl G h') t.heap) (va_A (wl G h) H.size)) 0 0 (va_A (wl G h) H.size) := hM l G H.size
  refine va_calli (va_runSN (As := As.map (cv G.2.1)) (rest := st.map (cv G.2.1)) ⟨C.1, C.2.1, C.2.2.2.1, C.2.2.2.2.1, hts⟩ hM1 ⟨va_cnB As.length hts g hw hz.1 hz.2 (hK.2 _ hnw) (hts _ hini) hd hR, hts _ hst, trivial⟩ ⟨fun a U g mk q => by obtain ⟨q0, q1, qP, qK, qD⟩ := q; exact ⟨q0, q1, qP, KK_calling qK, qD⟩, fun U hU hW => ⟨rfl, by rw [hU], by rw [hU]; exact hP, KK_warm hW hK, ⟨C.2.2.2.2.2.2.2.2.2.1, fun _ _ => trivial⟩⟩⟩ rfl (by simp) hl.1 (by simp) (lv_room hcat) d hf) hS (fun q _ hq => hFc q hq) hFc (fun r h1 t H1 locs1 ht hvm hr1 hB hz1 hk1 hS1 => ?_)
  subst ht
  exact k r h1 hr1 p l e s m args below meth c G A t.heap locs1 ls C E hl hB hS1
theorem Ev.callNl {M' : Mi} {As : List Value} {index : Nat} {P : Int64 → Hp → Prop} {st0 : List Value} {ws' : List Cond} (hM : CtL M' (As) h P) (hs0 : st0 = As.reverse ++ st) (g : GoodIn (mW M) (mW M')) (hnw : Cond.methodLinkNest (mO M) index (mY M') "MudBoards" ∈ nestW) (hst : Cond.static (mY M') ∈ mW M) (hini : Cond.initialized (mY M').cls ∈ mW M) (hd : (mY M').cls ≠ "java/lang/invoke/MethodHandle" ∧ (mY M').cls ≠ "java/lang/invoke/VarHandle" ∧ (parseMethodDescriptor (mY M').desc).map (fun d => d.parameters.length) = some As.length) (hw : mW M' = Cond.code (mY M') (mB M') (mN M') (mT M') :: ws') (hz : (mR M').cells = 0 ∧ (mR M').slots = 0) (hR : (mR M').frames + 1 ≤ (mR M).frames ∧ 8 + (mN M' + 11) + (mR M').locals ≤ (mR M).locals) (hrs : (st.map fun v => v.category).sum ≤ 8) (hf : X.1 ≤ (mR M).cells ∧ X.2.1 ≤ (mR M).slots) (d : decode (mB M) pc = .ok (.invokestatic index, 3)) (k : ∀ (r : Int64) (h1 : Hp), P r h1 → Ev X M (pc + 3) L (.long r :: st) h1) : Ev X M pc L st0 h := by
  subst hs0
  intro p l e s m args below meth c G A H locs ls C E hl hP hS
  have hD := AD_wl C.2.2.2.2.2.2.2.2.2 h
  have hK := C.2.2.2.2.2.2.2.1
  have hts := C.2.2.2.2.2.1
  have hFc : ∀ q, va_A (wl G h) H.size q → A q := by
    intro q hq
    rcases hq with ⟨k2, e2, hk2⟩ | hq
    · exact hD.2 k2 _ hk2
    · exact C.2.2.2.2.2.2.2.2.1 q (Nat.le_trans hS.1 hq)
  have hcat : ((st.map (cv G.2.1)).map fun v => v.category).sum ≤ 8 := by
    rw [List.map_map]
    refine Nat.le_trans (Nat.le_of_eq ?_) hrs
    congr 1
    apply List.map_congr_left
    intro v _
    exact cv_cat _ v
  have hM1 : Met l (mY M') (mW M') (mR M') (va_Pc ((As).map (cv G.2.1)) (fun U => U.heap.size = H.size ∧ va_P G.1 vwCl (wl G h) U.heap ∧ KK G U ∧ AD (fun _ => True) G.2.1)) (va_Ql P (fun h' t => va_P G.1 vwCl (wl G h') t.heap) (va_A (wl G h) H.size)) 0 0 (va_A (wl G h) H.size) := hM l G H.size
  refine va_calll (va_runSN (As := As.map (cv G.2.1)) (rest := st.map (cv G.2.1)) ⟨C.1, C.2.1, C.2.2.2.1, C.2.2.2.2.1, hts⟩ hM1 ⟨va_cnB As.length hts g hw hz.1 hz.2 (hK.2 _ hnw) (hts _ hini) hd hR, hts _ hst, trivial⟩ ⟨fun a U g mk q => by obtain ⟨q0, q1, qP, qK, qD⟩ := q; exact ⟨q0, q1, qP, KK_calling qK, qD⟩, fun U hU hW => ⟨rfl, by rw [hU], by rw [hU]; exact hP, KK_warm hW hK, ⟨C.2.2.2.2.2.2.2.2.2.1, fun _ _ => trivial⟩⟩⟩ rfl (by simp) hl.1 (by simp) (lv_room hcat) d hf) hS (fun q _ hq => hFc q hq) hFc (fun r h1 t H1 locs1 ht hvm hr1 hB hz1 hk1 hS1 => ?_)
  subst ht
  exact k r h1 hr1 p l e s m args below meth c G A t.heap locs1 ls C E hl hB hS1
theorem Ev.callNv {M' : Mi} {As : List Value} {index : Nat} {P : Hp → Prop} {st0 : List Value} {ws' : List Cond} (hM : CtV M' (As) h P) (hs0 : st0 = As.reverse ++ st) (g : GoodIn (mW M) (mW M')) (hnw : Cond.methodLinkNest (mO M) index (mY M') "MudBoards" ∈ nestW) (hst : Cond.static (mY M') ∈ mW M) (hini : Cond.initialized (mY M').cls ∈ mW M) (hd : (mY M').cls ≠ "java/lang/invoke/MethodHandle" ∧ (mY M').cls ≠ "java/lang/invoke/VarHandle" ∧ (parseMethodDescriptor (mY M').desc).map (fun d => d.parameters.length) = some As.length) (hw : mW M' = Cond.code (mY M') (mB M') (mN M') (mT M') :: ws') (hz : (mR M').cells = 0 ∧ (mR M').slots = 0) (hR : (mR M').frames + 1 ≤ (mR M).frames ∧ 8 + (mN M' + 11) + (mR M').locals ≤ (mR M).locals) (hrs : (st.map fun v => v.category).sum ≤ 8) (hf : X.1 ≤ (mR M).cells ∧ X.2.1 ≤ (mR M).slots) (d : decode (mB M) pc = .ok (.invokestatic index, 3)) (k : ∀ (h1 : Hp), P h1 → Ev X M (pc + 3) L (st) h1) : Ev X M pc L st0 h := by
  subst hs0
  intro p l e s m args below meth c G A H locs ls C E hl hP hS
  have hD := AD_wl C.2.2.2.2.2.2.2.2.2 h
  have hK := C.2.2.2.2.2.2.2.1
  have hts := C.2.2.2.2.2.1
  have hFc : ∀ q, va_A (wl G h) H.size q → A q := by
    intro q hq
    rcases hq with ⟨k2, e2, hk2⟩ | hq
    · exact hD.2 k2 _ hk2
    · exact C.2.2.2.2.2.2.2.2.1 q (Nat.le_trans hS.1 hq)
  have hcat : ((st.map (cv G.2.1)).map fun v => v.category).sum ≤ 8 := by
    rw [List.map_map]
    refine Nat.le_trans (Nat.le_of_eq ?_) hrs
    congr 1
    apply List.map_congr_left
    intro v _
    exact cv_cat _ v
  have hM1 : Met l (mY M') (mW M') (mR M') (va_Pc ((As).map (cv G.2.1)) (fun U => U.heap.size = H.size ∧ va_P G.1 vwCl (wl G h) U.heap ∧ KK G U ∧ AD (fun _ => True) G.2.1)) (va_Qv P (fun h' t => va_P G.1 vwCl (wl G h') t.heap) (va_A (wl G h) H.size)) 0 0 (va_A (wl G h) H.size) := hM l G H.size
  refine va_callv (va_runSN (As := As.map (cv G.2.1)) (rest := st.map (cv G.2.1)) ⟨C.1, C.2.1, C.2.2.2.1, C.2.2.2.2.1, hts⟩ hM1 ⟨va_cnB As.length hts g hw hz.1 hz.2 (hK.2 _ hnw) (hts _ hini) hd hR, hts _ hst, trivial⟩ ⟨fun a U g mk q => by obtain ⟨q0, q1, qP, qK, qD⟩ := q; exact ⟨q0, q1, qP, KK_calling qK, qD⟩, fun U hU hW => ⟨rfl, by rw [hU], by rw [hU]; exact hP, KK_warm hW hK, ⟨C.2.2.2.2.2.2.2.2.2.1, fun _ _ => trivial⟩⟩⟩ rfl (by simp) hl.1 (by simp) (lv_room hcat) d hf) hS (fun q _ hq => hFc q hq) hFc (fun h1 t H1 locs1 ht hvm hr1 hB hz1 hk1 hS1 => ?_)
  subst ht
  exact k h1 hr1 p l e s m args below meth c G A t.heap locs1 ls C E hl hB hS1
theorem Ev.iret {P : Int32 → Hp → Prop} {ty : FieldType} {x : Int32} (hty : mT M = some ty) (hn : narrow ty (.int x) = .int x) (d : decode (mB M) pc = .ok (.ireturn, 1)) (hx : P x h) : Ev (Xi P) M pc L [.int x] h := by
  intro p l e s m args below meth c G A H locs ls C E hl hP hS
  exact W.zret C.1 C.2.1 (C.2.2.1.trans hty) hn (fun t ht hW => ⟨⟨x, h, rfl, hx, by subst ht; exact hP⟩, hS.F ht⟩) hS.2.2 d (hlocks := C.2.2.2.2.2.2.1)
theorem Ev.lret {P : Int64 → Hp → Prop} {x : Int64} (hty : mT M = some .long) (d : decode (mB M) pc = .ok (.lreturn, 1)) (hx : P x h) : Ev (Xl P) M pc L [.long x] h := by
  intro p l e s m args below meth c G A H locs ls C E hl hP hS
  exact W.lret C.1 C.2.1 (C.2.2.1.trans hty) (fun t ht hW => ⟨⟨x, h, rfl, hx, by subst ht; exact hP⟩, hS.F ht⟩) hS.2.2 d (hlocks := C.2.2.2.2.2.2.1)
theorem Ev.vret {P : Hp → Prop} (hty : mT M = none) (d : decode (mB M) pc = .ok (.return_, 1)) (hx : P h) : Ev (Xv P) M pc L [] h := by
  intro p l e s m args below meth c G A H locs ls C E hl hP hS
  exact W.vret C.1 C.2.1 (C.2.2.1.trans hty) (fun t ht hW => ⟨⟨h, rfl, hx, by subst ht; exact hP⟩, hS.F ht⟩) hS.2.2 d (hlocks := C.2.2.2.2.2.2.1)
def bI (b : Bool) : Int32 := if b = true then 1 else 0
theorem bI_0 {b : Bool} : bI b = 0 ↔ b = false := by cases b <;> simp [bI]
theorem bI_n {b : Bool} : ¬ bI b = 0 ↔ b = true := by cases b <;> simp [bI]
theorem bI_nar (b : Bool) : narrow .boolean (.int (bI b)) = .int (bI b) := by cases b <;> decide +kernel
theorem Ev.ifeqB {b : Bool} {off : Int} {tgt : Nat} (d : decode (mB M) pc = .ok (.ifCond .eq off, 3)) (ht : (pc : Int) + off = (tgt : Int)) (kt : b = false → Ev X M tgt L st h) (kf : b = true → Ev X M (pc + 3) L st h) : Ev X M pc L (.int (bI b) :: st) h :=
  Ev.ifeq d ht (fun q => kt (bI_0.mp q)) (fun q => kf (bI_n.mp q))
theorem Ev.ifneB {b : Bool} {off : Int} {tgt : Nat} (d : decode (mB M) pc = .ok (.ifCond .ne off, 3)) (ht : (pc : Int) + off = (tgt : Int)) (kt : b = true → Ev X M tgt L st h) (kf : b = false → Ev X M (pc + 3) L st h) : Ev X M pc L (.int (bI b) :: st) h :=
  Ev.ifne d ht (fun q => kt (bI_n.mp q)) (fun q => kf (bI_0.mp q))
end EvRules
