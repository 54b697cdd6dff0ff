/-! ===== the small world: ground (2, 11..17) and shore (3, 18) ===== -/
def PZ : List Nat := [2, 11, 12, 13, 14, 15, 16, 17, 3, 18]
def pz (k : Nat) : Nat := PZ.idxOf k
def zl (G : Gx) (h : Hp) : va_W := PZ.map (fun k => (G.2.1 k, wK G h k))
theorem zl_get (G : Gx) (h : Hp) {k : Nat} (hk : PZ[pz k]? = some k) : (zl G h)[pz k]? = some (G.2.1 k, wK G h k) := by
  unfold zl
  rw [List.getElem?_map, hk]
  rfl
theorem zl_some {G : Gx} {h : Hp} {i : Nat} {x : Nat × va_E} (hx : (zl G h)[i]? = some x) : ∃ k, PZ[i]? = some k ∧ x = (G.2.1 k, wK G h k) := by
  unfold zl at hx
  rw [List.getElem?_map] at hx
  cases hk : PZ[i]? with
  | none => rw [hk] at hx; cases hx
  | some k => rw [hk] at hx; exact ⟨k, rfl, (Option.some.inj hx).symm⟩
theorem pz_one : ∀ i, i < 10 → ∀ j, j < 10 → PZ[i]? = PZ[j]? → i = j := by decide
theorem PZ_lt {i k : Nat} (h : PZ[i]? = some k) : i < 10 := (List.getElem?_eq_some_iff.mp h).1
theorem zl_set {G : Gx} {h h' : Hp} {c : Nat} {x : va_E} (hc : PZ[pz c]? = some c) (he : wK G h' c = x) (ho : ∀ k, k ≠ c → wK G h' k = wK G h k) : (zl G h).set (pz c) (G.2.1 c, x) = zl G h' := by
  apply List.ext_getElem?
  intro i
  rw [List.getElem?_set]
  by_cases hi : pz c = i
  · subst hi
    rw [if_pos rfl, if_pos (by simpa [zl, PZ] using PZ_lt hc), zl_get G h' hc, he]
  · rw [if_neg hi]
    unfold zl
    rw [List.getElem?_map, List.getElem?_map]
    cases hk : PZ[i]? with
    | none => rfl
    | some k =>
      have hne : k ≠ c := by
        rintro rfl
        exact hi (pz_one _ (PZ_lt hc) _ (PZ_lt hk) (hc.trans hk.symm))
      rw [Option.map_some, Option.map_some, ho k hne]
def ZD (A : Nat → Prop) (ad : Nat → Nat) : Prop := (∀ i j, i ∈ PZ → j ∈ PZ → ad i = ad j → i = j) ∧ ∀ k, k ∈ PZ → A (ad k)
theorem ZD_zl {A : Nat → Prop} {G : Gx} (a : ZD A G.2.1) (h : Hp) : va_D A (zl G h) := by
  refine ⟨fun i j x y hi hj hxy => ?_, fun k x hk => ?_⟩
  · obtain ⟨k1, h1, rfl⟩ := zl_some hi
    obtain ⟨k2, h2, rfl⟩ := zl_some hj
    have e := a.1 k1 k2 (List.mem_of_getElem? h1) (List.mem_of_getElem? h2) hxy
    subst e
    exact pz_one _ (PZ_lt h1) _ (PZ_lt h2) (h1.trans h2.symm)
  · obtain ⟨k1, h1, rfl⟩ := zl_some hk
    exact a.2 k1 (List.mem_of_getElem? h1)
theorem ZD_in {G : Gx} {h : Hp} {sz k : Nat} (hk : k ∈ PZ) : va_A (zl G h) sz (G.2.1 k) := by
  obtain ⟨i, hi⟩ := List.getElem?_of_mem hk
  refine Or.inl ⟨i, wK G h k, ?_⟩
  unfold zl
  rw [List.getElem?_map, hi]
  rfl
def Cz (M : Mi) (G : Gx) (A : Nat → Prop) (p : Program) (s : State) (m : MethodId) (args : Array Value) (meth : Method) (c : Code) : Prop :=
  p.tables.exec = Jvm.exec ∧ c.code = mB M ∧ meth.sig.returnType = mT M ∧ c.maxLocals = mN M ∧ s.vm.findClass (mO M) = some m.cls ∧ (∀ w ∈ mW M, w.before args s = true) ∧ meth.locks = false ∧ KK G s ∧ (∀ q, s.heap.size ≤ q → A q) ∧ ZD A G.2.1
def Ez (X : Xt) (M : Mi) (pc : Nat) (L : List (Option Value)) (st : List Value) (h : Hp) : Prop :=
  ∀ (p : Program) (l : Launch) (e : Env) (s : State) (m : MethodId) (args : Array Value) (below : List Frame) (meth : Method) (c : Code) (G : Gx) (A : Nat → Prop) (H : Heap) (locs : List Loc) (ls : Array Slot),
    Cz M G A p s m args meth c → X.2.2.1 s args G A → LH ls (mN M) G.2.1 L → va_P G.1 vwCl (zl G h) H → va_S A s.heap H locs →
    W p l e (mR M) s m args below meth c H locs X.1 X.2.1 (X.2.2.2 below args s G A) (F0 m pc ls (st.map (cv G.2.1)))
/-- a method's contract: from the world h, with these arguments (places for references): the answer and the world behind it -/
def ZtI (M : Mi) (av : List Value) (h : Hp) (P : Int32 → Hp → Prop) : Prop :=
  ∀ (l : Launch) (G : Gx) (sz : Nat), Met l (mY M) (mW M) (mR M)
    (va_Pc (av.map (cv G.2.1)) (fun U => U.heap.size = sz ∧ va_P G.1 vwCl (zl G h) U.heap ∧ KK G U ∧ ZD (fun _ => True) G.2.1))
    (va_Qi P (fun h' t => va_P G.1 vwCl (zl G h') t.heap) (va_A (zl G h) sz)) 0 0 (va_A (zl G h) sz)
def ZtL (M : Mi) (av : List Value) (h : Hp) (P : Int64 → Hp → Prop) : Prop :=
  ∀ (l : Launch) (G : Gx) (sz : Nat), Met l (mY M) (mW M) (mR M)
    (va_Pc (av.map (cv G.2.1)) (fun U => U.heap.size = sz ∧ va_P G.1 vwCl (zl G h) U.heap ∧ KK G U ∧ ZD (fun _ => True) G.2.1))
    (va_Ql P (fun h' t => va_P G.1 vwCl (zl G h') t.heap) (va_A (zl G h) sz)) 0 0 (va_A (zl G h) sz)
def ZtV (M : Mi) (av : List Value) (h : Hp) (P : Hp → Prop) : Prop :=
  ∀ (l : Launch) (G : Gx) (sz : Nat), Met l (mY M) (mW M) (mR M)
    (va_Pc (av.map (cv G.2.1)) (fun U => U.heap.size = sz ∧ va_P G.1 vwCl (zl G h) U.heap ∧ KK G U ∧ ZD (fun _ => True) G.2.1))
    (va_Qv P (fun h' t => va_P G.1 vwCl (zl G h') t.heap) (va_A (zl G h) sz)) 0 0 (va_A (zl G h) sz)
def Zi (P : Int32 → Hp → Prop) : Xt := (0, 0, fun _ _ _ _ => True, fun below args s G A => MQ below (va_Qi P (fun h' t => va_P G.1 vwCl (zl G h') t.heap) A) args s 0 0 A)
def Zl (P : Int64 → Hp → Prop) : Xt := (0, 0, fun _ _ _ _ => True, fun below args s G A => MQ below (va_Ql P (fun h' t => va_P G.1 vwCl (zl G h') t.heap) A) args s 0 0 A)
def Zv (P : Hp → Prop) : Xt := (0, 0, fun _ _ _ _ => True, fun below args s G A => MQ below (va_Qv P (fun h' t => va_P G.1 vwCl (zl G h') t.heap) A) args s 0 0 A)
theorem ZtI_of {M : Mi} {av : List Value} {h : Hp} {P : Int32 → Hp → Prop} {ws' : List Cond} (hw : mW M = Cond.code (mY M) (mB M) (mN M) (mT M) :: ws') (hy : plainName (mY M).cls = true) (ho : mO M = (mY M).cls) (hn : (layL av).length ≤ mN M)
    (k : Ez (Zi P) M 0 (layL av) [] h) : ZtI M av h P := by
  intro l G sz
  refine Met.ofW (cc := mB M) (maxL := mN M) (ret := mT M) hy hw ?_
  intro p e s m args below meth c s₁ B hml hv
  obtain ⟨rfl, hsz, hP, hK, hD0⟩ := hv
  subst hsz
  have hlen : ∀ vs : List Value, (lg_sl (vs.map (cv G.2.1))).length = (layL vs).length := by
    intro vs
    induction vs with
    | nil => rfl
    | cons u vs ih =>
      have ih' : (List.flatMap (fun v => if v.category = 2 then [Slot.val v, Slot.second] else [Slot.val v]) (vs.map (cv G.2.1))).length = (layL vs).length := ih
      simp only [lg_sl, List.map_cons, List.flatMap_cons, List.length_append, ih', layL, cv_cat]
      split <;> simp <;> omega
  have hl := lv_entry (av.map (cv G.2.1)) (n := mN M) (by rw [hlen]; exact hn)
  rw [lg_entry_eq]
  have hA0 : ZD (va_A (zl G h) s.heap.size) G.2.1 := ⟨hD0.1, fun k hk => ZD_in hk⟩
  exact k p l e s m _ below meth c G (va_A (zl G h) s.heap.size) s.heap [] _ ⟨B.exec, B.bytes, B.returns, hml, by rw [ho]; exact findClass_of_methodNamed B.named, atoms_spec (ws := mW M) B.pre, B.notSynchronized, hK, fun q hq => Or.inr hq, hA0⟩ trivial
    ⟨hl.1, hl.2.1, fun i v hv => hl.2.2 (i, cv G.2.1 v) (by have := layL_at G.2.1 av 0 i v hv; rwa [Nat.zero_add] at this)⟩ hP va_S.rf
theorem ZtL_of {M : Mi} {av : List Value} {h : Hp} {P : Int64 → Hp → Prop} {ws' : List Cond} (hw : mW M = Cond.code (mY M) (mB M) (mN M) (mT M) :: ws') (hy : plainName (mY M).cls = true) (ho : mO M = (mY M).cls) (hn : (layL av).length ≤ mN M)
    (k : Ez (Zl P) M 0 (layL av) [] h) : ZtL M av h P := by
  intro l G sz
  refine Met.ofW (cc := mB M) (maxL := mN M) (ret := mT M) hy hw ?_
  intro p e s m args below meth c s₁ B hml hv
  obtain ⟨rfl, hsz, hP, hK, hD0⟩ := hv
  subst hsz
  have hlen : ∀ vs : List Value, (lg_sl (vs.map (cv G.2.1))).length = (layL vs).length := by
    intro vs
    induction vs with
    | nil => rfl
    | cons u vs ih =>
      have ih' : (List.flatMap (fun v => if v.category = 2 then [Slot.val v, Slot.second] else [Slot.val v]) (vs.map (cv G.2.1))).length = (layL vs).length := ih
      simp only [lg_sl, List.map_cons, List.flatMap_cons, List.length_append, ih', layL, cv_cat]
      split <;> simp <;> omega
  have hl := lv_entry (av.map (cv G.2.1)) (n := mN M) (by rw [hlen]; exact hn)
  rw [lg_entry_eq]
  have hA0 : ZD (va_A (zl G h) s.heap.size) G.2.1 := ⟨hD0.1, fun k hk => ZD_in hk⟩
  exact k p l e s m _ below meth c G (va_A (zl G h) s.heap.size) s.heap [] _ ⟨B.exec, B.bytes, B.returns, hml, by rw [ho]; exact findClass_of_methodNamed B.named, atoms_spec (ws := mW M) B.pre, B.notSynchronized, hK, fun q hq => Or.inr hq, hA0⟩ trivial
    ⟨hl.1, hl.2.1, fun i v hv => hl.2.2 (i, cv G.2.1 v) (by have := layL_at G.2.1 av 0 i v hv; rwa [Nat.zero_add] at this)⟩ hP va_S.rf
theorem ZtV_of {M : Mi} {av : List Value} {h : Hp} {P : Hp → Prop} {ws' : List Cond} (hw : mW M = Cond.code (mY M) (mB M) (mN M) (mT M) :: ws') (hy : plainName (mY M).cls = true) (ho : mO M = (mY M).cls) (hn : (layL av).length ≤ mN M)
    (k : Ez (Zv P) M 0 (layL av) [] h) : ZtV M av h P := by
  intro l G sz
  refine Met.ofW (cc := mB M) (maxL := mN M) (ret := mT M) hy hw ?_
  intro p e s m args below meth c s₁ B hml hv
  obtain ⟨rfl, hsz, hP, hK, hD0⟩ := hv
  subst hsz
  have hlen : ∀ vs : List Value, (lg_sl (vs.map (cv G.2.1))).length = (layL vs).length := by
    intro vs
    induction vs with
    | nil => rfl
    | cons u vs ih =>
      have ih' : (List.flatMap (fun v => if v.category = 2 then [Slot.val v, Slot.second] else [Slot.val v]) (vs.map (cv G.2.1))).length = (layL vs).length := ih
      simp only [lg_sl, List.map_cons, List.flatMap_cons, List.length_append, ih', layL, cv_cat]
      split <;> simp <;> omega
  have hl := lv_entry (av.map (cv G.2.1)) (n := mN M) (by rw [hlen]; exact hn)
  rw [lg_entry_eq]
  have hA0 : ZD (va_A (zl G h) s.heap.size) G.2.1 := ⟨hD0.1, fun k hk => ZD_in hk⟩
  exact k p l e s m _ below meth c G (va_A (zl G h) s.heap.size) s.heap [] _ ⟨B.exec, B.bytes, B.returns, hml, by rw [ho]; exact findClass_of_methodNamed B.named, atoms_spec (ws := mW M) B.pre, B.notSynchronized, hK, fun q hq => Or.inr hq, hA0⟩ trivial
    ⟨hl.1, hl.2.1, fun i v hv => hl.2.2 (i, cv G.2.1 v) (by have := layL_at G.2.1 av 0 i v hv; rwa [Nat.zero_add] at this)⟩ hP va_S.rf
section EzRules
variable {X : Xt} {M : Mi} {pc : Nat} {L : List (Option Value)} {st : List Value} {h : Hp}

theorem Ez.iadd {x y : Int32} (d : decode (mB M) pc = .ok (.iadd, 1)) (k : Ez X M (pc + 1) L (.int (x + y) :: st) h) : Ez X M pc L (.int y :: .int x :: st) h := by
  intro p l e s m args below meth c G A H locs ls C E hl hP hS
  exact lv_iadd C.1 C.2.1 d (k p l e s m args below meth c G A H locs ls C E hl hP hS)
theorem Ez.isub {x y : Int32} (d : decode (mB M) pc = .ok (.isub, 1)) (k : Ez X M (pc + 1) L (.int (x - y) :: st) h) : Ez X M pc L (.int y :: .int x :: st) h := by
  intro p l e s m args below meth c G A H locs ls C E hl hP hS
  exact lv_isub C.1 C.2.1 d (k p l e s m args below meth c G A H locs ls C E hl hP hS)
theorem Ez.imul {x y : Int32} (d : decode (mB M) pc = .ok (.imul, 1)) (k : Ez X M (pc + 1) L (.int (x * y) :: st) h) : Ez X M pc L (.int y :: .int x :: st) h := by
  intro p l e s m args below meth c G A H locs ls C E hl hP hS
  exact lv_imul C.1 C.2.1 d (k p l e s m args below meth c G A H locs ls C E hl hP hS)
theorem Ez.iand {x y : Int32} (d : decode (mB M) pc = .ok (.iand, 1)) (k : Ez X M (pc + 1) L (.int (x &&& y) :: st) h) : Ez X M pc L (.int y :: .int x :: st) h := by
  intro p l e s m args below meth c G A H locs ls C E hl hP hS
  exact lv_iand C.1 C.2.1 d (k p l e s m args below meth c G A H locs ls C E hl hP hS)
theorem Ez.ior {x y : Int32} (d : decode (mB M) pc = .ok (.ior, 1)) (k : Ez X M (pc + 1) L (.int (x ||| y) :: st) h) : Ez X M pc L (.int y :: .int x :: st) h := by
  intro p l e s m args below meth c G A H locs ls C E hl hP hS
  exact lv_ior C.1 C.2.1 d (k p l e s m args below meth c G A H locs ls C E hl hP hS)
theorem Ez.ishl {x y : Int32} (d : decode (mB M) pc = .ok (.ishl, 1)) (k : Ez X M (pc + 1) L (.int (x <<< (y &&& 31)) :: st) h) : Ez X M pc L (.int y :: .int x :: st) h := by
  intro p l e s m args below meth c G A H locs ls C E hl hP hS
  exact lv_ishl C.1 C.2.1 d (k p l e s m args below meth c G A H locs ls C E hl hP hS)
theorem Ez.ishr {x y : Int32} (d : decode (mB M) pc = .ok (.ishr, 1)) (k : Ez X M (pc + 1) L (.int (x >>> (y &&& 31)) :: st) h) : Ez X M pc L (.int y :: .int x :: st) h := by
  intro p l e s m args below meth c G A H locs ls C E hl hP hS
  exact lv_ishr C.1 C.2.1 d (k p l e s m args below meth c G A H locs ls C E hl hP hS)
theorem Ez.idiv {x y : Int32} (d : decode (mB M) pc = .ok (.idiv, 1)) (hne : ¬ y = 0) (k : Ez X M (pc + 1) L (.int (x / y) :: st) h) : Ez X M pc L (.int y :: .int x :: st) h := by
  intro p l e s m args below meth c G A H locs ls C E hl hP hS
  exact lv_idiv C.1 C.2.1 d hne (k p l e s m args below meth c G A H locs ls C E hl hP hS)
theorem Ez.irem {x y : Int32} (d : decode (mB M) pc = .ok (.irem, 1)) (hne : ¬ y = 0) (k : Ez X M (pc + 1) L (.int (x - x / y * y) :: st) h) : Ez X M pc L (.int y :: .int x :: st) h := by
  intro p l e s m args below meth c G A H locs ls C E hl hP hS
  exact lv_irem C.1 C.2.1 d hne (k p l e s m args below meth c G A H locs ls C E hl hP hS)
theorem Ez.ladd {x y : Int64} (d : decode (mB M) pc = .ok (.ladd, 1)) (k : Ez X M (pc + 1) L (.long (x + y) :: st) h) : Ez X M pc L (.long y :: .long x :: st) h := by
  intro p l e s m args below meth c G A H locs ls C E hl hP hS
  exact lv_ladd C.1 C.2.1 d (k p l e s m args below meth c G A H locs ls C E hl hP hS)
theorem Ez.lsub {x y : Int64} (d : decode (mB M) pc = .ok (.lsub, 1)) (k : Ez X M (pc + 1) L (.long (x - y) :: st) h) : Ez X M pc L (.long y :: .long x :: st) h := by
  intro p l e s m args below meth c G A H locs ls C E hl hP hS
  exact lv_lsub C.1 C.2.1 d (k p l e s m args below meth c G A H locs ls C E hl hP hS)
theorem Ez.lmul {x y : Int64} (d : decode (mB M) pc = .ok (.lmul, 1)) (k : Ez X M (pc + 1) L (.long (x * y) :: st) h) : Ez X M pc L (.long y :: .long x :: st) h := by
  intro p l e s m args below meth c G A H locs ls C E hl hP hS
  exact lv_lmul C.1 C.2.1 d (k p l e s m args below meth c G A H locs ls C E hl hP hS)
theorem Ez.land {x y : Int64} (d : decode (mB M) pc = .ok (.land, 1)) (k : Ez X M (pc + 1) L (.long (x &&& y) :: st) h) : Ez X M pc L (.long y :: .long x :: st) h := by
  intro p l e s m args below meth c G A H locs ls C E hl hP hS
  exact lv_land C.1 C.2.1 d (k p l e s m args below meth c G A H locs ls C E hl hP hS)
theorem Ez.lor {x y : Int64} (d : decode (mB M) pc = .ok (.lor, 1)) (k : Ez X M (pc + 1) L (.long (x ||| y) :: st) h) : Ez X M pc L (.long y :: .long x :: st) h := by
  intro p l e s m args below meth c G A H locs ls C E hl hP hS
  exact lv_lor C.1 C.2.1 d (k p l e s m args below meth c G A H locs ls C E hl hP hS)
theorem Ez.ldiv {x y : Int64} (d : decode (mB M) pc = .ok (.ldiv, 1)) (hne : ¬ y = 0) (k : Ez X M (pc + 1) L (.long (x / y) :: st) h) : Ez X M pc L (.long y :: .long x :: st) h := by
  intro p l e s m args below meth c G A H locs ls C E hl hP hS
  exact lv_ldiv C.1 C.2.1 d hne (k p l e s m args below meth c G A H locs ls C E hl hP hS)
theorem Ez.lrem {x y : Int64} (d : decode (mB M) pc = .ok (.lrem, 1)) (hne : ¬ y = 0) (k : Ez X M (pc + 1) L (.long (x - x / y * y) :: st) h) : Ez X M pc L (.long y :: .long x :: st) h := by
  intro p l e s m args below meth c G A H locs ls C E hl hP hS
  exact lv_lrem C.1 C.2.1 d hne (k p l e s m args below meth c G A H locs ls C E hl hP hS)
theorem Ez.ineg {x : Int32} (d : decode (mB M) pc = .ok (.ineg, 1)) (k : Ez X M (pc + 1) L (.int (-x) :: st) h) : Ez X M pc L (.int x :: st) h := by
  intro p l e s m args below meth c G A H locs ls C E hl hP hS
  exact lv_ineg C.1 C.2.1 d (k p l e s m args below meth c G A H locs ls C E hl hP hS)
theorem Ez.i2l {x : Int32} (d : decode (mB M) pc = .ok (.i2l, 1)) (k : Ez X M (pc + 1) L (.long x.toInt64 :: st) h) : Ez X M pc L (.int x :: st) h := by
  intro p l e s m args below meth c G A H locs ls C E hl hP hS
  exact lv_i2l C.1 C.2.1 d rfl (k p l e s m args below meth c G A H locs ls C E hl hP hS)
theorem Ez.l2i {x : Int64} (d : decode (mB M) pc = .ok (.l2i, 1)) (k : Ez X M (pc + 1) L (.int x.toInt32 :: st) h) : Ez X M pc L (.long x :: st) h := by
  intro p l e s m args below meth c G A H locs ls C E hl hP hS
  exact lv_l2i C.1 C.2.1 d rfl (k p l e s m args below meth c G A H locs ls C E hl hP hS)
theorem Ez.iushr {x y : Int32} (d : decode (mB M) pc = .ok (.iushr, 1)) (k : Ez X M (pc + 1) L (.int (x.toUInt32 >>> (y.toUInt32 &&& Int32.toUInt32 31)).toInt32 :: st) h) : Ez X M pc L (.int y :: .int x :: st) h := by
  intro p l e s m args below meth c G A H locs ls C E hl hP hS
  exact lv_iushr C.1 C.2.1 d rfl (k p l e s m args below meth c G A H locs ls C E hl hP hS)
theorem Ez.lushr {x : Int64} {y : Int32} (d : decode (mB M) pc = .ok (.lushr, 1)) (k : Ez X M (pc + 1) L (.long (x.toUInt64 >>> (y.toInt64.toUInt64 &&& Int64.toUInt64 63)).toInt64 :: st) h) : Ez X M pc L (.int y :: .long x :: st) h := by
  intro p l e s m args below meth c G A H locs ls C E hl hP hS
  exact lv_lushr C.1 C.2.1 d rfl (k p l e s m args below meth c G A H locs ls C E hl hP hS)
theorem Ez.lshl {x : Int64} {y : Int32} (d : decode (mB M) pc = .ok (.lshl, 1)) (k : Ez X M (pc + 1) L (.long (x <<< (y.toInt64 &&& 63)) :: st) h) : Ez X M pc L (.int y :: .long x :: st) h := by
  intro p l e s m args below meth c G A H locs ls C E hl hP hS
  exact lv_lshl C.1 C.2.1 d rfl (k p l e s m args below meth c G A H locs ls C E hl hP hS)
theorem Ez.lcmp {x y : Int64} (d : decode (mB M) pc = .ok (.lcmp, 1)) (k : Ez X M (pc + 1) L (.int (lg_cmp x y) :: st) h) : Ez X M pc L (.long y :: .long x :: st) h := by
  intro p l e s m args below meth c G A H locs ls C E hl hP hS
  exact W.lcmp C.1 C.2.1 d (k p l e s m args below meth c G A H locs ls C E hl hP hS)
theorem Ez.dup {v : Value} (d : decode (mB M) pc = .ok (.dup, 1)) (hv : v.category = 1) (k : Ez X M (pc + 1) L (v :: v :: st) h) : Ez X M pc L (v :: st) h := by
  intro p l e s m args below meth c G A H locs ls C E hl hP hS
  exact lv_dup C.1 C.2.1 d (by rw [cv_cat]; exact hv) (k p l e s m args below meth c G A H locs ls C E hl hP hS)
theorem Ez.pop {v : Value} (d : decode (mB M) pc = .ok (.pop, 1)) (hv : v.category = 1) (k : Ez X M (pc + 1) L (st) h) : Ez X M pc L (v :: st) h := by
  intro p l e s m args below meth c G A H locs ls C E hl hP hS
  exact lv_pop C.1 C.2.1 d (by rw [cv_cat]; exact hv) (k p l e s m args below meth c G A H locs ls C E hl hP hS)
theorem Ez.dup2 {v u : Value} (d : decode (mB M) pc = .ok (.dup2, 1)) (hv : v.category = 1) (hu : u.category = 1) (k : Ez X M (pc + 1) L (v :: u :: v :: u :: st) h) : Ez X M pc L (v :: u :: st) h := by
  intro p l e s m args below meth c G A H locs ls C E hl hP hS
  exact lv_dup2_11 C.1 C.2.1 d (by rw [cv_cat]; exact hv) (by rw [cv_cat]; exact hu) (k p l e s m args below meth c G A H locs ls C E hl hP hS)
theorem Ez.iconst {n : Int} {v : Int32} (d : decode (mB M) pc = .ok (.iconst n, 1)) (hv : Int32.ofInt n = v) (k : Ez X M (pc + 1) L (.int v :: st) h) : Ez X M pc L (st) h := by
  intro p l e s m args below meth c G A H locs ls C E hl hP hS
  exact lv_iconst C.1 C.2.1 d hv (k p l e s m args below meth c G A H locs ls C E hl hP hS)
theorem Ez.bipush {n : Int} {v : Int32} (d : decode (mB M) pc = .ok (.bipush n, 2)) (hv : (Int8.ofInt n).toInt32 = v) (k : Ez X M (pc + 2) L (.int v :: st) h) : Ez X M pc L (st) h := by
  intro p l e s m args below meth c G A H locs ls C E hl hP hS
  exact lv_bipush C.1 C.2.1 d hv (k p l e s m args below meth c G A H locs ls C E hl hP hS)
theorem Ez.sipush {n : Int} {v : Int32} (d : decode (mB M) pc = .ok (.sipush n, 3)) (hv : (Int16.ofInt n).toInt32 = v) (k : Ez X M (pc + 3) L (.int v :: st) h) : Ez X M pc L (st) h := by
  intro p l e s m args below meth c G A H locs ls C E hl hP hS
  exact lv_sipush C.1 C.2.1 d hv (k p l e s m args below meth c G A H locs ls C E hl hP hS)
theorem Ez.lconst {n : Fin 2} {v : Int64} (d : decode (mB M) pc = .ok (.lconst n, 1)) (hv : Int64.ofNat (n : Nat) = v) (k : Ez X M (pc + 1) L (.long v :: st) h) : Ez X M pc L (st) h := by
  intro p l e s m args below meth c G A H locs ls C E hl hP hS
  exact lv_lconst C.1 C.2.1 d hv (k p l e s m args below meth c G A H locs ls C E hl hP hS)
theorem Ez.iload_n {i : Fin 4} {x : Int32} (d : decode (mB M) pc = .ok (.iload_n i, 1)) (hi : L[(i : Nat)]? = some (some (.int x))) (k : Ez X M (pc + 1) L (.int x :: st) h) : Ez X M pc L st h := by
  intro p l e s m args below meth c G A H locs ls C E hl hP hS
  exact lv_iload_n C.1 C.2.1 d rfl (hl.2.2 _ _ hi) (k p l e s m args below meth c G A H locs ls C E hl hP hS)
theorem Ez.iload {i : Nat} {x : Int32} (d : decode (mB M) pc = .ok (.iload i, 2)) (hi : L[(i : Nat)]? = some (some (.int x))) (k : Ez X M (pc + 2) L (.int x :: st) h) : Ez X M pc L st h := by
  intro p l e s m args below meth c G A H locs ls C E hl hP hS
  exact lv_iload C.1 C.2.1 d (hl.2.2 _ _ hi) (k p l e s m args below meth c G A H locs ls C E hl hP hS)
theorem Ez.lload_n {i : Fin 4} {x : Int64} (d : decode (mB M) pc = .ok (.lload_n i, 1)) (hi : L[(i : Nat)]? = some (some (.long x))) (k : Ez X M (pc + 1) L (.long x :: st) h) : Ez X M pc L st h := by
  intro p l e s m args below meth c G A H locs ls C E hl hP hS
  exact lv_lload_n C.1 C.2.1 d rfl (hl.2.2 _ _ hi) (k p l e s m args below meth c G A H locs ls C E hl hP hS)
theorem Ez.lload {i : Nat} {x : Int64} (d : decode (mB M) pc = .ok (.lload i, 2)) (hi : L[(i : Nat)]? = some (some (.long x))) (k : Ez X M (pc + 2) L (.long x :: st) h) : Ez X M pc L st h := by
  intro p l e s m args below meth c G A H locs ls C E hl hP hS
  exact lv_lload C.1 C.2.1 d (hl.2.2 _ _ hi) (k p l e s m args below meth c G A H locs ls C E hl hP hS)
theorem Ez.aload_n {i : Fin 4} {x : Nat} (d : decode (mB M) pc = .ok (.aload_n i, 1)) (hi : L[(i : Nat)]? = some (some (.ref x))) (k : Ez X M (pc + 1) L (.ref x :: st) h) : Ez X M pc L st h := by
  intro p l e s m args below meth c G A H locs ls C E hl hP hS
  exact lv_aload_n C.1 C.2.1 d rfl (hl.2.2 _ _ hi) (k p l e s m args below meth c G A H locs ls C E hl hP hS)
theorem Ez.aload {i : Nat} {x : Nat} (d : decode (mB M) pc = .ok (.aload i, 2)) (hi : L[(i : Nat)]? = some (some (.ref x))) (k : Ez X M (pc + 2) L (.ref x :: st) h) : Ez X M pc L st h := by
  intro p l e s m args below meth c G A H locs ls C E hl hP hS
  exact lv_aload C.1 C.2.1 d (hl.2.2 _ _ hi) (k p l e s m args below meth c G A H locs ls C E hl hP hS)
theorem Ez.istore_n {i : Fin 4} {x : Int32} (d : decode (mB M) pc = .ok (.istore_n i, 1)) (hi : Nat.blt (i : Nat) (mN M) = true) (ho : okS L (i : Nat) = true) (k : Ez X M (pc + 1) (L.set (i : Nat) (some (.int x))) st h) : Ez X M pc L (.int x :: st) h := by
  intro p l e s m args below meth c G A H locs ls C E hl hP hS
  exact lv_istore_n C.1 C.2.1 d rfl (LH_has hl) (Nat.le_of_ble_eq_true hi) rfl (fun ls' hl' => k p l e s m args below meth c G A H locs ls' C E (LH_set1 (v := .int x) ho hl') hP hS)
theorem Ez.istore {i : Nat} {x : Int32} (d : decode (mB M) pc = .ok (.istore i, 2)) (hi : Nat.blt (i : Nat) (mN M) = true) (ho : okS L (i : Nat) = true) (k : Ez X M (pc + 2) (L.set (i : Nat) (some (.int x))) st h) : Ez X M pc L (.int x :: st) h := by
  intro p l e s m args below meth c G A H locs ls C E hl hP hS
  exact lv_istore C.1 C.2.1 d (LH_has hl) (Nat.le_of_ble_eq_true hi) rfl (fun ls' hl' => k p l e s m args below meth c G A H locs ls' C E (LH_set1 (v := .int x) ho hl') hP hS)
theorem Ez.lstore_n {i : Fin 4} {x : Int64} (d : decode (mB M) pc = .ok (.lstore_n i, 1)) (hi : Nat.blt ((i : Nat) + 1) (mN M) = true) (ho : okS L (i : Nat) = true) (k : Ez X M (pc + 1) ((L.set (i : Nat) (some (.long x))).set ((i : Nat) + 1) none) st h) : Ez X M pc L (.long x :: st) h := by
  intro p l e s m args below meth c G A H locs ls C E hl hP hS
  exact lv_lstore_n C.1 C.2.1 d rfl (LH_has hl) (Nat.le_of_ble_eq_true hi) rfl (fun ls' hl' => k p l e s m args below meth c G A H locs ls' C E (LH_set2 (v := .long x) ho hl') hP hS)
theorem Ez.lstore {i : Nat} {x : Int64} (d : decode (mB M) pc = .ok (.lstore i, 2)) (hi : Nat.blt ((i : Nat) + 1) (mN M) = true) (ho : okS L (i : Nat) = true) (k : Ez X M (pc + 2) ((L.set (i : Nat) (some (.long x))).set ((i : Nat) + 1) none) st h) : Ez X M pc L (.long x :: st) h := by
  intro p l e s m args below meth c G A H locs ls C E hl hP hS
  exact lv_lstore C.1 C.2.1 d (LH_has hl) (Nat.le_of_ble_eq_true hi) rfl (fun ls' hl' => k p l e s m args below meth c G A H locs ls' C E (LH_set2 (v := .long x) ho hl') hP hS)
theorem Ez.astore_n {i : Fin 4} {x : Nat} (d : decode (mB M) pc = .ok (.astore_n i, 1)) (hi : Nat.blt (i : Nat) (mN M) = true) (ho : okS L (i : Nat) = true) (k : Ez X M (pc + 1) (L.set (i : Nat) (some (.ref x))) st h) : Ez X M pc L (.ref x :: st) h := by
  intro p l e s m args below meth c G A H locs ls C E hl hP hS
  exact lv_astore_n C.1 C.2.1 d rfl (LH_has hl) (Nat.le_of_ble_eq_true hi) rfl (fun ls' hl' => k p l e s m args below meth c G A H locs ls' C E (LH_set1 (v := .ref x) ho hl') hP hS)
theorem Ez.astore {i : Nat} {x : Nat} (d : decode (mB M) pc = .ok (.astore i, 2)) (hi : Nat.blt (i : Nat) (mN M) = true) (ho : okS L (i : Nat) = true) (k : Ez X M (pc + 2) (L.set (i : Nat) (some (.ref x))) st h) : Ez X M pc L (.ref x :: st) h := by
  intro p l e s m args below meth c G A H locs ls C E hl hP hS
  exact lv_astore C.1 C.2.1 d (LH_has hl) (Nat.le_of_ble_eq_true hi) rfl (fun ls' hl' => k p l e s m args below meth c G A H locs ls' C E (LH_set1 (v := .ref x) ho hl') hP hS)
theorem Ez.iinc {i : Nat} {n : Int} {x v : Int32} (d : decode (mB M) pc = .ok (.iinc i n, 3)) (hi : Nat.blt i (mN M) = true) (ho : okS L i = true) (hx : L[i]? = some (some (.int x))) (hv : Int32.ofInt n = v) (k : Ez X M (pc + 3) (L.set i (some (.int (x + v)))) st h) : Ez X M pc L st h := by
  subst hv
  intro p l e s m args below meth c G A H locs ls C E hl hP hS
  obtain ⟨k0, hk0⟩ := lhL_place (ad := G.2.1) hx
  exact lv_iinc C.1 C.2.1 d (LH_has hl) hk0 rfl (Nat.le_of_ble_eq_true hi) rfl (fun ls' hl' => k p l e s m args below meth c G A H locs ls' C E (LH_set1 (v := .int (x + Int32.ofInt n)) ho hl') hP hS)
theorem Ez.ifeq {x : Int32} {off : Int} {tgt : Nat} (d : decode (mB M) pc = .ok (.ifCond .eq off, 3)) (ht : (pc : Int) + off = (tgt : Int)) (kt : x = 0 → Ez X M tgt L st h) (kf : ¬ x = 0 → Ez X M (pc + 3) L st h) : Ez X M pc L (.int x :: st) h := by
  intro p l e s m args below meth c G A H locs ls C E hl hP hS
  exact lv_if_eq C.1 C.2.1 d ht (fun q => kt q p l e s m args below meth c G A H locs ls C E hl hP hS) (fun q => kf q p l e s m args below meth c G A H locs ls C E hl hP hS)
theorem Ez.ifne {x : Int32} {off : Int} {tgt : Nat} (d : decode (mB M) pc = .ok (.ifCond .ne off, 3)) (ht : (pc : Int) + off = (tgt : Int)) (kt : ¬ x = 0 → Ez X M tgt L st h) (kf : x = 0 → Ez X M (pc + 3) L st h) : Ez X M pc L (.int x :: st) h := by
  intro p l e s m args below meth c G A H locs ls C E hl hP hS
  exact lv_if_ne C.1 C.2.1 d ht (fun q => kt q p l e s m args below meth c G A H locs ls C E hl hP hS) (fun q => kf q p l e s m args below meth c G A H locs ls C E hl hP hS)
theorem Ez.iflt {x : Int32} {off : Int} {tgt : Nat} (d : decode (mB M) pc = .ok (.ifCond .lt off, 3)) (ht : (pc : Int) + off = (tgt : Int)) (kt : x < 0 → Ez X M tgt L st h) (kf : ¬ x < 0 → Ez X M (pc + 3) L st h) : Ez X M pc L (.int x :: st) h := by
  intro p l e s m args below meth c G A H locs ls C E hl hP hS
  exact lv_if_lt C.1 C.2.1 d ht (fun q => kt q p l e s m args below meth c G A H locs ls C E hl hP hS) (fun q => kf q p l e s m args below meth c G A H locs ls C E hl hP hS)
theorem Ez.ifge {x : Int32} {off : Int} {tgt : Nat} (d : decode (mB M) pc = .ok (.ifCond .ge off, 3)) (ht : (pc : Int) + off = (tgt : Int)) (kt : 0 ≤ x → Ez X M tgt L st h) (kf : ¬ 0 ≤ x → Ez X M (pc + 3) L st h) : Ez X M pc L (.int x :: st) h := by
  intro p l e s m args below meth c G A H locs ls C E hl hP hS
  exact lv_if_ge C.1 C.2.1 d ht (fun q => kt q p l e s m args below meth c G A H locs ls C E hl hP hS) (fun q => kf q p l e s m args below meth c G A H locs ls C E hl hP hS)
theorem Ez.ifgt {x : Int32} {off : Int} {tgt : Nat} (d : decode (mB M) pc = .ok (.ifCond .gt off, 3)) (ht : (pc : Int) + off = (tgt : Int)) (kt : 0 < x → Ez X M tgt L st h) (kf : ¬ 0 < x → Ez X M (pc + 3) L st h) : Ez X M pc L (.int x :: st) h := by
  intro p l e s m args below meth c G A H locs ls C E hl hP hS
  exact lv_if_gt C.1 C.2.1 d ht (fun q => kt q p l e s m args below meth c G A H locs ls C E hl hP hS) (fun q => kf q p l e s m args below meth c G A H locs ls C E hl hP hS)
theorem Ez.ifle {x : Int32} {off : Int} {tgt : Nat} (d : decode (mB M) pc = .ok (.ifCond .le off, 3)) (ht : (pc : Int) + off = (tgt : Int)) (kt : x ≤ 0 → Ez X M tgt L st h) (kf : ¬ x ≤ 0 → Ez X M (pc + 3) L st h) : Ez X M pc L (.int x :: st) h := by
  intro p l e s m args below meth c G A H locs ls C E hl hP hS
  exact lv_if_le C.1 C.2.1 d ht (fun q => kt q p l e s m args below meth c G A H locs ls C E hl hP hS) (fun q => kf q p l e s m args below meth c G A H locs ls C E hl hP hS)
theorem Ez.icmpeq {x y : Int32} {off : Int} {tgt : Nat} (d : decode (mB M) pc = .ok (.if_icmp .eq off, 3)) (ht : (pc : Int) + off = (tgt : Int)) (kt : x = y → Ez X M tgt L st h) (kf : ¬ x = y → Ez X M (pc + 3) L st h) : Ez X M pc L (.int y :: .int x :: st) h := by
  intro p l e s m args below meth c G A H locs ls C E hl hP hS
  exact lv_icmp_eq C.1 C.2.1 d ht (fun q => kt q p l e s m args below meth c G A H locs ls C E hl hP hS) (fun q => kf q p l e s m args below meth c G A H locs ls C E hl hP hS)
theorem Ez.icmpne {x y : Int32} {off : Int} {tgt : Nat} (d : decode (mB M) pc = .ok (.if_icmp .ne off, 3)) (ht : (pc : Int) + off = (tgt : Int)) (kt : ¬ x = y → Ez X M tgt L st h) (kf : x = y → Ez X M (pc + 3) L st h) : Ez X M pc L (.int y :: .int x :: st) h := by
  intro p l e s m args below meth c G A H locs ls C E hl hP hS
  exact lv_icmp_ne C.1 C.2.1 d ht (fun q => kt q p l e s m args below meth c G A H locs ls C E hl hP hS) (fun q => kf q p l e s m args below meth c G A H locs ls C E hl hP hS)
theorem Ez.icmplt {x y : Int32} {off : Int} {tgt : Nat} (d : decode (mB M) pc = .ok (.if_icmp .lt off, 3)) (ht : (pc : Int) + off = (tgt : Int)) (kt : x < y → Ez X M tgt L st h) (kf : ¬ x < y → Ez X M (pc + 3) L st h) : Ez X M pc L (.int y :: .int x :: st) h := by
  intro p l e s m args below meth c G A H locs ls C E hl hP hS
  exact lv_icmp_lt C.1 C.2.1 d ht (fun q => kt q p l e s m args below meth c G A H locs ls C E hl hP hS) (fun q => kf q p l e s m args below meth c G A H locs ls C E hl hP hS)
theorem Ez.icmpge {x y : Int32} {off : Int} {tgt : Nat} (d : decode (mB M) pc = .ok (.if_icmp .ge off, 3)) (ht : (pc : Int) + off = (tgt : Int)) (kt : y ≤ x → Ez X M tgt L st h) (kf : ¬ y ≤ x → Ez X M (pc + 3) L st h) : Ez X M pc L (.int y :: .int x :: st) h := by
  intro p l e s m args below meth c G A H locs ls C E hl hP hS
  exact lv_icmp_ge C.1 C.2.1 d ht (fun q => kt q p l e s m args below meth c G A H locs ls C E hl hP hS) (fun q => kf q p l e s m args below meth c G A H locs ls C E hl hP hS)
theorem Ez.icmpgt {x y : Int32} {off : Int} {tgt : Nat} (d : decode (mB M) pc = .ok (.if_icmp .gt off, 3)) (ht : (pc : Int) + off = (tgt : Int)) (kt : y < x → Ez X M tgt L st h) (kf : ¬ y < x → Ez X M (pc + 3) L st h) : Ez X M pc L (.int y :: .int x :: st) h := by
  intro p l e s m args below meth c G A H locs ls C E hl hP hS
  exact lv_icmp_gt C.1 C.2.1 d ht (fun q => kt q p l e s m args below meth c G A H locs ls C E hl hP hS) (fun q => kf q p l e s m args below meth c G A H locs ls C E hl hP hS)
theorem Ez.icmple {x y : Int32} {off : Int} {tgt : Nat} (d : decode (mB M) pc = .ok (.if_icmp .le off, 3)) (ht : (pc : Int) + off = (tgt : Int)) (kt : x ≤ y → Ez X M tgt L st h) (kf : ¬ x ≤ y → Ez X M (pc + 3) L st h) : Ez X M pc L (.int y :: .int x :: st) h := by
  intro p l e s m args below meth c G A H locs ls C E hl hP hS
  exact lv_icmp_le C.1 C.2.1 d ht (fun q => kt q p l e s m args below meth c G A H locs ls C E hl hP hS) (fun q => kf q p l e s m args below meth c G A H locs ls C E hl hP hS)
theorem Ez.goto {off : Int} {tgt : Nat} (d : decode (mB M) pc = .ok (.goto off, 3)) (ht : (pc : Int) + off = (tgt : Int)) (k : Ez X M tgt L st h) : Ez X M pc L st h := by
  intro p l e s m args below meth c G A H locs ls C E hl hP hS
  exact lv_goto C.1 C.2.1 d ht (k p l e s m args below meth c G A H locs ls C E hl hP hS)
theorem Ez.tableOut {dflt lo hi : Int} {offs : Array Int} {len : Nat} {x : Int32} {tgt : Nat} (d : decode (mB M) pc = .ok (.tableswitch dflt lo hi offs, len)) (hx : x.toInt < lo ∨ hi < x.toInt) (ht : (pc : Int) + dflt = (tgt : Int)) (k : Ez X M tgt L st h) : Ez X M pc L (.int x :: st) h := by
  intro p l e s m args below meth c G A H locs ls C E hl hP hS
  exact lv_tableOut C.1 C.2.1 d hx ht (k p l e s m args below meth c G A H locs ls C E hl hP hS)
theorem Ez.tableIn {dflt lo hi : Int} {offs : Array Int} {len : Nat} {x : Int32} {off : Int} {tgt : Nat} (d : decode (mB M) pc = .ok (.tableswitch dflt lo hi offs, len)) (h1 : ¬ x.toInt < lo) (h2 : ¬ hi < x.toInt) (ho : offs[(x.toInt - lo).toNat]? = some off) (ht : (pc : Int) + off = (tgt : Int)) (k : Ez X M tgt L st h) : Ez X M pc L (.int x :: st) h := by
  intro p l e s m args below meth c G A H locs ls C E hl hP hS
  exact lv_tableIn C.1 C.2.1 d h1 h2 ho ht (k p l e s m args below meth c G A H locs ls C E hl hP hS)
theorem Ez.ldcw {index : Nat} {v : Int32} (hc : Cond.constant (mO M) index v ∈ mW M) (d : decode (mB M) pc = .ok (.ldc_w index, 3)) (k : Ez X M (pc + 3) L (.int v :: st) h) : Ez X M pc L st h := by
  intro p l e s m args below meth c G A H locs ls C E hl hP hS
  exact lv_ldcw C.1 C.2.1 C.2.2.2.2.1 (C.2.2.2.2.2.1 _ hc) d (k p l e s m args below meth c G A H locs ls C E hl hP hS)
theorem Ez.ldc2 {index : Nat} {v : Int64} (hc : Cond.constantLong (mO M) index v ∈ mW M) (d : decode (mB M) pc = .ok (.ldc2_w index, 3)) (k : Ez X M (pc + 3) L (.long v :: st) h) : Ez X M pc L st h := by
  intro p l e s m args below meth c G A H locs ls C E hl hP hS
  exact lv_ldc2 C.1 C.2.1 C.2.2.2.2.1 (C.2.2.2.2.2.1 _ hc) d (k p l e s m args below meth c G A H locs ls C E hl hP hS)
theorem Ez.get {index ci c0 k0 N : Nat} {C0 : String} {T : u_T} {v : Value} (hpz : PZ[pz c0]? = some c0) (F : Fld h c0 ci k0 v) (hc : vwCl[ci]? = some (C0, T, N)) (hin : ∀ w ∈ u_ws C0 T N, w ∈ mW M) (hk : k0 < N) (hl0 : Cond.fieldLink (mO M) index (T k0).1 (T k0).2.1 (T k0).2.2.1 ∈ mW M) (d : decode (mB M) pc = .ok (.getfield index, 3)) (k : Ez X M (pc + 3) L (v :: st) h) : Ez X M pc L (.ref c0 :: st) h := by
  intro p l e s m args below meth c G A H locs ls C E hl hP hS
  obtain ⟨fs, e1, e2⟩ := F.2 G
  have he := zl_get G h hpz
  rw [e1] at he
  exact va_get C.1 C.2.1 C.2.2.2.2.2.1 hin C.2.2.2.2.1 C.2.2.2.2.2.2.2.1.1 hP (pz c0) he hc k0 hk (C.2.2.2.2.2.1 _ hl0) (fun _ h9 => h9) e2 d (k p l e s m args below meth c G A H locs ls C E hl hP hS)
theorem Ez.put {index ci c0 k0 N : Nat} {C0 : String} {T : u_T} {ty0 : Nat → FieldType} {v : Value} {h' : Hp} {ty : FieldType} (hpz : PZ[pz c0]? = some c0) (F : Put h h' c0 ci k0 v) (hc : vwCl[ci]? = some (C0, T, N)) (hin : ∀ w ∈ u_ws C0 T N, w ∈ mW M) (hty : ∀ k, k < N → parseFieldDescriptor (T k).2.2.1 = some (ty0 k)) (hnm : ∀ a, a < N → ∀ b, b < N → a ≠ b → (T a).2.1 ≠ (T b).2.1) (hk : k0 < N) (hl0 : Cond.fieldLink (mO M) index (T k0).1 (T k0).2.1 (T k0).2.2.1 ∈ mW M) (hfin : (T k0).2.2.2 = false) (hd : parseFieldDescriptor (T k0).2.2.1 = some ty) (hn : ∀ ad, narrow ty (cv ad v) = cv ad v) (hfit : ∀ ad, fits ty (cv ad v) = true) (d : decode (mB M) pc = .ok (.putfield index, 3)) (k : Ez X M (pc + 3) L st h') : Ez X M pc L (v :: .ref c0 :: st) h := by
  intro p l e s m args below meth c G A H locs ls C E hl hP hS
  obtain ⟨fs, e1, e2, e3, e4⟩ := F.2 G
  have he := zl_get G h hpz
  rw [e1] at he
  refine va_put C.1 C.2.1 C.2.2.2.2.2.1 hin ty0 hty hnm C.2.2.2.2.1 C.2.2.2.2.2.2.2.1.1 hP (ZD_zl C.2.2.2.2.2.2.2.2.2 h) hS (pz c0) he hc k0 hk (C.2.2.2.2.2.1 _ hl0) (fun _ h9 => h9) hfin hd (hn _) (hfit _) e2 d (fun H1 locs1 hP1 hD1 hS1 => ?_)
  rw [zl_set hpz e3 e4] at hP1
  exact k p l e s m args below meth c G A H1 locs1 ls C E hl hP1 hS1
theorem Ez.iald {c0 n : Nat} {f : Nat → Int32} {i : Int32} (hpz : PZ[pz c0]? = some c0) (F : Arr h c0 n f) (hin : vp_in i n) (d : decode (mB M) pc = .ok (.iaload, 1)) (k : Ez X M (pc + 1) L (.int (f i.toNatClampNeg) :: st) h) : Ez X M pc L (.int i :: .ref c0 :: st) h := by
  intro p l e s m args below meth c G A H locs ls C E hl hP hS
  have he := zl_get G h hpz
  rw [F.2 G] at he
  exact va_iald C.1 C.2.1 C.2.2.2.2.2.2.2.1.1 hP (pz c0) 0 he rfl hin d (k p l e s m args below meth c G A H locs ls C E hl hP hS)
theorem Ez.zald {c0 n : Nat} {f : Nat → Int32} {i : Int32} (hpz : PZ[pz c0]? = some c0) (F : ArrZ h c0 n f) (hin : vp_in i n) (d : decode (mB M) pc = .ok (.baload, 1)) (k : Ez X M (pc + 1) L (.int (f i.toNatClampNeg) :: st) h) : Ez X M pc L (.int i :: .ref c0 :: st) h := by
  intro p l e s m args below meth c G A H locs ls C E hl hP hS
  have he := zl_get G h hpz
  rw [F.2 G] at he
  exact va_zald C.1 C.2.1 C.2.2.2.2.2.2.2.1.1 hP (pz c0) 1 he rfl hin d (k p l e s m args below meth c G A H locs ls C E hl hP hS)
theorem Ez.alen {c0 n : Nat} {f : Nat → Int32} (hpz : PZ[pz c0]? = some c0) (F : Arr h c0 n f) (d : decode (mB M) pc = .ok (.arraylength, 1)) (k : Ez X M (pc + 1) L (.int (nI n) :: st) h) : Ez X M pc L (.ref c0 :: st) h := by
  intro p l e s m args below meth c G A H locs ls C E hl hP hS
  have he := zl_get G h hpz
  rw [F.2 G] at he
  exact va_alen C.1 C.2.1 C.2.2.2.2.2.2.2.1.1 hP (pz c0) 0 he rfl rfl d (k p l e s m args below meth c G A H locs ls C E hl hP hS)
theorem Ez.iast {c0 n : Nat} {f : Nat → Int32} {i x : Int32} {h' : Hp} (hpz : PZ[pz c0]? = some c0) (F : Arr h c0 n f) (hin : vp_in i n) (S : Sets h h' c0 n (upd f i.toNatClampNeg x)) (d : decode (mB M) pc = .ok (.iastore, 1)) (k : Ez X M (pc + 1) L st h') : Ez X M pc L (.int x :: .int i :: .ref c0 :: st) h := by
  intro p l e s m args below meth c G A H locs ls C E hl hP hS
  have he := zl_get G h hpz
  rw [F.2 G] at he
  refine va_iast C.1 C.2.1 C.2.2.2.2.2.2.2.1.1 hP (ZD_zl C.2.2.2.2.2.2.2.2.2 h) hS (pz c0) 0 he rfl hin d (fun H1 locs1 hP1 hD1 hS1 => ?_)
  rw [zl_set hpz (S.1.2 G) (S.2 G)] at hP1
  exact k p l e s m args below meth c G A H1 locs1 ls C E hl hP1 hS1
theorem Ez.zast {c0 n : Nat} {f : Nat → Int32} {i x : Int32} {h' : Hp} (hpz : PZ[pz c0]? = some c0) (F : ArrZ h c0 n f) (hin : vp_in i n) (S : SetsZ h h' c0 n (upd f i.toNatClampNeg (vp_nar .boolean x))) (d : decode (mB M) pc = .ok (.bastore, 1)) (k : Ez X M (pc + 1) L st h') : Ez X M pc L (.int x :: .int i :: .ref c0 :: st) h := by
  intro p l e s m args below meth c G A H locs ls C E hl hP hS
  have he := zl_get G h hpz
  rw [F.2 G] at he
  refine va_zast C.1 C.2.1 C.2.2.2.2.2.2.2.1.1 hP (ZD_zl C.2.2.2.2.2.2.2.2.2 h) hS (pz c0) 1 he rfl hin d (fun H1 locs1 hP1 hD1 hS1 => ?_)
  rw [zl_set hpz (S.1.2 G) (S.2 G)] at hP1
  exact k p l e s m args below meth c G A H1 locs1 ls C E hl hP1 hS1
theorem Ez.copy {c0 c1 n0 n1 index : Nat} {f g : Nat → Int32} {sp dp n : Int32} {h' : Hp} (hz0 : PZ[pz c0]? = some c0) (hpz : PZ[pz c1]? = some c1) (F0 : Arr h c0 n0 f) (F1 : Arr h c1 n1 g) (h1 : ¬ sp < 0) (h2 : ¬ dp < 0) (h3 : ¬ n < 0) (h4 : sp.toNatClampNeg + n.toNatClampNeg ≤ n0) (h5 : dp.toNatClampNeg + n.toNatClampNeg ≤ n1) (S : Sets h h' c1 n1 (va_cpy f g sp.toNatClampNeg dp.toNatClampNeg n.toNatClampNeg))
    (w1 : Cond.methodLink (mO M) index arraycopyName ∈ mW M) (w2 : Cond.native arraycopyName ∈ mW M) (w3 : Cond.static arraycopyName ∈ mW M) (w4 : Cond.initialized "java/lang/System" ∈ mW M) (hr1 : 1 ≤ (mR M).frames) (hr2 : (st.map fun v => v.category).sum + (nativeFrameWords "java/lang/System" "arraycopy" 5 + 11) ≤ (mR M).locals) (d : decode (mB M) pc = .ok (.invokestatic index, 3)) (k : Ez X M (pc + 3) L st h') : Ez X M pc L (.int n :: .int dp :: .ref c1 :: .int sp :: .ref c0 :: st) h := by
  intro p l e s m args below meth c G A H locs ls C E hl hP hS
  have he0 := zl_get G h hz0
  rw [F0.2 G] at he0
  have he1 := zl_get G h hpz
  rw [F1.2 G] at he1
  have hcat : ((st.map (cv G.2.1)).map fun v => v.category).sum = (st.map fun v => v.category).sum := by
    rw [List.map_map]
    congr 1
    apply List.map_congr_left
    intro v _
    exact cv_cat _ v
  refine va_copyi C.1 C.2.1 (C.2.2.2.1.trans hl.1.symm) C.2.2.2.2.1 (C.2.2.2.2.2.1 _ w1) (C.2.2.2.2.2.1 _ w2) (C.2.2.2.2.2.1 _ w3) (C.2.2.2.2.2.1 _ w4) C.2.2.2.2.2.2.2.1.1 hP (ZD_zl C.2.2.2.2.2.2.2.2.2 h) hS (pz c0) (pz c1) 0 0 he0 he1 rfl rfl rfl h1 h2 h3 h4 h5 (fun _ _ => rfl) hr1 (by rw [hcat]; exact hr2) d (fun H1 locs1 hP1 hD1 hS1 => ?_)
  rw [zl_set hpz (S.1.2 G) (S.2 G)] at hP1
  exact k p l e s m args below meth c G A H1 locs1 ls C E hl hP1 hS1
theorem Ez.mmax {index : Nat} {x y : Int32} (w1 : Cond.methodLink (mO M) index Lib.Math.max.name ∈ mW M) (w2 : Cond.static Lib.Math.max.name ∈ mW M) (w3 : Cond.initialized "java/lang/Math" ∈ mW M) (w4 : Cond.code Lib.Math.max.name Lib.Math.max.code 2 (some .int) ∈ mW M) (hr1 : 1 ≤ (mR M).frames) (hr2 : (st.map fun v => v.category).sum + 13 ≤ (mR M).locals) (hr3 : X.1 ≤ (mR M).cells ∧ X.2.1 ≤ (mR M).slots) (d : decode (mB M) pc = .ok (.invokestatic index, 3)) (k : Ez X M (pc + 3) L (.int (if x < y then y else x) :: st) h) : Ez X M pc L (.int y :: .int x :: st) h := by
  intro p l e s m args below meth c G A H locs ls C E hl hP hS
  have hcat : ((st.map (cv G.2.1)).map fun v => v.category).sum = (st.map fun v => v.category).sum := by
    rw [List.map_map]
    congr 1
    apply List.map_congr_left
    intro v _
    exact cv_cat _ v
  exact va_mmax C.1 C.2.1 (C.2.2.2.1.trans hl.1.symm) C.2.2.2.2.1 (C.2.2.2.2.2.1 _ w1) (C.2.2.2.2.2.1 _ w2) (C.2.2.2.2.2.1 _ w3) (C.2.2.2.2.2.1 _ w4) hr1 (by rw [hcat]; exact hr2) hr3.1 hr3.2 d (k p l e s m args below meth c G A H locs ls C E hl hP hS)

theorem Ez.callVi {M' : Mi} {As : List Value} {index : Nat} {P : Int32 → Hp → Prop} {st0 : List Value} {ws' : List Cond} {c0 ci N : Nat} {C0 : String} {T : u_T} (hM : ZtI M' (.ref c0 :: As) h P) (hs0 : st0 = As.reverse ++ .ref c0 :: st) (hc : vwCl[ci]? = some (C0, T, N)) (hpz : PZ[pz c0]? = some c0) (F : c0 < 48 ∧ ∀ G : Gx, ∃ fs, wK G h c0 = .inr (ci, fs)) (g : GoodIn (mW M) (wsV (mO M) index C0 (mY M') (mW M'))) (hd : (mY M').cls = C0 ∧ (mY M').cls ≠ "java/lang/invoke/MethodHandle" ∧ (mY M').cls ≠ "java/lang/invoke/VarHandle" ∧ (parseMethodDescriptor (mY M').desc).map (fun d => d.parameters.length) = some As.length) (hw : mW M' = Cond.code (mY M') (mB M') (mN M') (mT M') :: ws') (hz : (mR M').cells = 0 ∧ (mR M').slots = 0) (hR : (mR M').frames + 1 ≤ (mR M).frames ∧ 8 + (mN M' + 11) + (mR M').locals ≤ (mR M).locals) (hrs : (st.map fun v => v.category).sum ≤ 8) (hf : X.1 ≤ (mR M).cells ∧ X.2.1 ≤ (mR M).slots) (d : decode (mB M) pc = .ok (.invokevirtual index, 3)) (k : ∀ (r : Int32) (h1 : Hp), P r h1 → Ez X M (pc + 3) L (.int r :: st) h1) : Ez X M pc L st0 h := by
  subst hs0
  intro p l e s m args below meth c G A H locs ls C E hl hP hS
  have hD := ZD_zl C.2.2.2.2.2.2.2.2.2 h
  have hK := C.2.2.2.2.2.2.2.1
  have hts := C.2.2.2.2.2.1
  have hFc : ∀ q, va_A (zl G h) H.size q → A q := by
    intro q hq
    rcases hq with ⟨k2, e2, hk2⟩ | hq
    · exact hD.2 k2 _ hk2
    · exact C.2.2.2.2.2.2.2.2.1 q (Nat.le_trans hS.1 hq)
  have hcat : ((st.map (cv G.2.1)).map fun v => v.category).sum ≤ 8 := by
    rw [List.map_map]
    refine Nat.le_trans (Nat.le_of_eq ?_) hrs
    congr 1
    apply List.map_congr_left
    intro v _
    exact cv_cat _ v
  have hM1 : Met l (mY M') (mW M') (mR M') (va_Pc ((.ref c0 :: As).map (cv G.2.1)) (fun U => U.heap.size = H.size ∧ va_P G.1 vwCl (zl G h) U.heap ∧ KK G U ∧ ZD (fun _ => True) G.2.1)) (va_Qi P (fun h' t => va_P G.1 vwCl (zl G h') t.heap) (va_A (zl G h) H.size)) 0 0 (va_A (zl G h) H.size) := hM l G H.size
  obtain ⟨fs, ef⟩ := F.2 G
  have he := zl_get G h hpz
  rw [ef] at he
  refine va_calli (va_runV (As := As.map (cv G.2.1)) (rest := st.map (cv G.2.1)) ⟨C.1, C.2.1, C.2.2.2.1, C.2.2.2.2.1, hts⟩ hM1 (cwV As.length hts g hw hz.1 hz.2 hd hR) ⟨fun a U g mk q => by obtain ⟨q0, q1, qP, qK, qD⟩ := q; exact ⟨q0, q1, qP, KK_calling qK, qD⟩, va_recv hK.1 hP hc he, fun U hU hW => ⟨rfl, by rw [hU], by rw [hU]; exact hP, KK_warm hW hK, ⟨C.2.2.2.2.2.2.2.2.2.1, fun _ _ => trivial⟩⟩⟩ rfl (by simp) hl.1 (by simp [cv]) (lv_room hcat) d hf) hS (fun q _ hq => hFc q hq) hFc (fun r h1 t H1 locs1 ht hvm hr1 hB hz1 hk1 hS1 => ?_)
  subst ht
  exact k r h1 hr1 p l e s m args below meth c G A t.heap locs1 ls C E hl hB hS1
theorem Ez.callVl {M' : Mi} {As : List Value} {index : Nat} {P : Int64 → Hp → Prop} {st0 : List Value} {ws' : List Cond} {c0 ci N : Nat} {C0 : String} {T : u_T} (hM : ZtL M' (.ref c0 :: As) h P) (hs0 : st0 = As.reverse ++ .ref c0 :: st) (hc : vwCl[ci]? = some (C0, T, N)) (hpz : PZ[pz c0]? = some c0) (F : c0 < 48 ∧ ∀ G : Gx, ∃ fs, wK G h c0 = .inr (ci, fs)) (g : GoodIn (mW M) (wsV (mO M) index C0 (mY M') (mW M'))) (hd : (mY M').cls = C0 ∧ (mY M').cls ≠ "java/lang/invoke/MethodHandle" ∧ (mY M').cls ≠ "java/lang/invoke/VarHandle" ∧ (parseMethodDescriptor (mY M').desc).map (fun d => d.parameters.length) = some As.length) (hw : mW M' = Cond.code (mY M') (mB M') (mN M') (mT M') :: ws') (hz : (mR M').cells = 0 ∧ (mR M').slots = 0) (hR : (mR M').frames + 1 ≤ (mR M).frames ∧ 8 + (mN M' + 11) + (mR M').locals ≤ (mR M).locals) (hrs : (st.map fun v => v.category).sum ≤ 8) (hf : X.1 ≤ (mR M).cells ∧ X.2.1 ≤ (mR M).slots) (d : decode (mB M) pc = .ok (.invokevirtual index, 3)) (k : ∀ (r : Int64) (h1 : Hp), P r h1 → Ez X M (pc + 3) L (.long r :: st) h1) : Ez X M pc L st0 h := by
  subst hs0
  intro p l e s m args below meth c G A H locs ls C E hl hP hS
  have hD := ZD_zl C.2.2.2.2.2.2.2.2.2 h
  have hK := C.2.2.2.2.2.2.2.1
  have hts := C.2.2.2.2.2.1
  have hFc : ∀ q, va_A (zl G h) H.size q → A q := by
    intro q hq
    rcases hq with ⟨k2, e2, hk2⟩ | hq
    · exact hD.2 k2 _ hk2
    · exact C.2.2.2.2.2.2.2.2.1 q (Nat.le_trans hS.1 hq)
  have hcat : ((st.map (cv G.2.1)).map fun v => v.category).sum ≤ 8 := by
    rw [List.map_map]
    refine Nat.le_trans (Nat.le_of_eq ?_) hrs
    congr 1
    apply List.map_congr_left
    intro v _
    exact cv_cat _ v
  have hM1 : Met l (mY M') (mW M') (mR M') (va_Pc ((.ref c0 :: As).map (cv G.2.1)) (fun U => U.heap.size = H.size ∧ va_P G.1 vwCl (zl G h) U.heap ∧ KK G U ∧ ZD (fun _ => True) G.2.1)) (va_Ql P (fun h' t => va_P G.1 vwCl (zl G h') t.heap) (va_A (zl G h) H.size)) 0 0 (va_A (zl G h) H.size) := hM l G H.size
  obtain ⟨fs, ef⟩ := F.2 G
  have he := zl_get G h hpz
  rw [ef] at he
  refine va_calll (va_runV (As := As.map (cv G.2.1)) (rest := st.map (cv G.2.1)) ⟨C.1, C.2.1, C.2.2.2.1, C.2.2.2.2.1, hts⟩ hM1 (cwV As.length hts g hw hz.1 hz.2 hd hR) ⟨fun a U g mk q => by obtain ⟨q0, q1, qP, qK, qD⟩ := q; exact ⟨q0, q1, qP, KK_calling qK, qD⟩, va_recv hK.1 hP hc he, fun U hU hW => ⟨rfl, by rw [hU], by rw [hU]; exact hP, KK_warm hW hK, ⟨C.2.2.2.2.2.2.2.2.2.1, fun _ _ => trivial⟩⟩⟩ rfl (by simp) hl.1 (by simp [cv]) (lv_room hcat) d hf) hS (fun q _ hq => hFc q hq) hFc (fun r h1 t H1 locs1 ht hvm hr1 hB hz1 hk1 hS1 => ?_)
  subst ht
  exact k r h1 hr1 p l e s m args below meth c G A t.heap locs1 ls C E hl hB hS1
theorem Ez.callVv {M' : Mi} {As : List Value} {index : Nat} {P : Hp → Prop} {st0 : List Value} {ws' : List Cond} {c0 ci N : Nat} {C0 : String} {T : u_T} (hM : ZtV M' (.ref c0 :: As) h P) (hs0 : st0 = As.reverse ++ .ref c0 :: st) (hc : vwCl[ci]? = some (C0, T, N)) (hpz : PZ[pz c0]? = some c0) (F : c0 < 48 ∧ ∀ G : Gx, ∃ fs, wK G h c0 = .inr (ci, fs)) (g : GoodIn (mW M) (wsV (mO M) index C0 (mY M') (mW M'))) (hd : (mY M').cls = C0 ∧ (mY M').cls ≠ "java/lang/invoke/MethodHandle" ∧ (mY M').cls ≠ "java/lang/invoke/VarHandle" ∧ (parseMethodDescriptor (mY M').desc).map (fun d => d.parameters.length) = some As.length) (hw : mW M' = Cond.code (mY M') (mB M') (mN M') (mT M') :: ws') (hz : (mR M').cells = 0 ∧ (mR M').slots = 0) (hR : (mR M').frames + 1 ≤ (mR M).frames ∧ 8 + (mN M' + 11) + (mR M').locals ≤ (mR M).locals) (hrs : (st.map fun v => v.category).sum ≤ 8) (hf : X.1 ≤ (mR M).cells ∧ X.2.1 ≤ (mR M).slots) (d : decode (mB M) pc = .ok (.invokevirtual index, 3)) (k : ∀ (h1 : Hp), P h1 → Ez X M (pc + 3) L (st) h1) : Ez X M pc L st0 h := by
  subst hs0
  intro p l e s m args below meth c G A H locs ls C E hl hP hS
  have hD := ZD_zl C.2.2.2.2.2.2.2.2.2 h
  have hK := C.2.2.2.2.2.2.2.1
  have hts := C.2.2.2.2.2.1
  have hFc : ∀ q, va_A (zl G h) H.size q → A q := by
    intro q hq
    rcases hq with ⟨k2, e2, hk2⟩ | hq
    · exact hD.2 k2 _ hk2
    · exact C.2.2.2.2.2.2.2.2.1 q (Nat.le_trans hS.1 hq)
  have hcat : ((st.map (cv G.2.1)).map fun v => v.category).sum ≤ 8 := by
    rw [List.map_map]
    refine Nat.le_trans (Nat.le_of_eq ?_) hrs
    congr 1
    apply List.map_congr_left
    intro v _
    exact cv_cat _ v
  have hM1 : Met l (mY M') (mW M') (mR M') (va_Pc ((.ref c0 :: As).map (cv G.2.1)) (fun U => U.heap.size = H.size ∧ va_P G.1 vwCl (zl G h) U.heap ∧ KK G U ∧ ZD (fun _ => True) G.2.1)) (va_Qv P (fun h' t => va_P G.1 vwCl (zl G h') t.heap) (va_A (zl G h) H.size)) 0 0 (va_A (zl G h) H.size) := hM l G H.size
  obtain ⟨fs, ef⟩ := F.2 G
  have he := zl_get G h hpz
  rw [ef] at he
  refine va_callv (va_runV (As := As.map (cv G.2.1)) (rest := st.map (cv G.2.1)) ⟨C.1, C.2.1, C.2.2.2.1, C.2.2.2.2.1, hts⟩ hM1 (cwV As.length hts g hw hz.1 hz.2 hd hR) ⟨fun a U g mk q => by obtain ⟨q0, q1, qP, qK, qD⟩ := q; exact ⟨q0, q1, qP, KK_calling qK, qD⟩, va_recv hK.1 hP hc he, fun U hU hW => ⟨rfl, by rw [hU], by rw [hU]; exact hP, KK_warm hW hK, ⟨C.2.2.2.2.2.2.2.2.2.1, fun _ _ => trivial⟩⟩⟩ rfl (by simp) hl.1 (by simp [cv]) (lv_room hcat) d hf) hS (fun q _ hq => hFc q hq) hFc (fun h1 t H1 locs1 ht hvm hr1 hB hz1 hk1 hS1 => ?_)
  subst ht
  exact k h1 hr1 p l e s m args below meth c G A t.heap locs1 ls C E hl hB hS1
theorem Ez.callSi {M' : Mi} {As : List Value} {index : Nat} {P : Int32 → Hp → Prop} {st0 : List Value} {ws' : List Cond} (hM : ZtI M' (As) h P) (hs0 : st0 = As.reverse ++ st) (g : GoodIn (mW M) (va_wsS (mO M) index (mY M') (mW M'))) (hd : (mY M').cls ≠ "java/lang/invoke/MethodHandle" ∧ (mY M').cls ≠ "java/lang/invoke/VarHandle" ∧ (parseMethodDescriptor (mY M').desc).map (fun d => d.parameters.length) = some As.length) (hw : mW M' = Cond.code (mY M') (mB M') (mN M') (mT M') :: ws') (hz : (mR M').cells = 0 ∧ (mR M').slots = 0) (hR : (mR M').frames + 1 ≤ (mR M).frames ∧ 8 + (mN M' + 11) + (mR M').locals ≤ (mR M).locals) (hrs : (st.map fun v => v.category).sum ≤ 8) (hf : X.1 ≤ (mR M).cells ∧ X.2.1 ≤ (mR M).slots) (d : decode (mB M) pc = .ok (.invokestatic index, 3)) (k : ∀ (r : Int32) (h1 : Hp), P r h1 → Ez X M (pc + 3) L (.int r :: st) h1) : Ez X M pc L st0 h := by
  subst hs0
  intro p l e s m args below meth c G A H locs ls C E hl hP hS
  have hD := ZD_zl C.2.2.2.2.2.2.2.2.2 h
  have hK := C.2.2.2.2.2.2.2.1
  have hts := C.2.2.2.2.2.1
  have hFc : ∀ q, va_A (zl G h) H.size q → A q := by
    intro q hq
    rcases hq with ⟨k2, e2, hk2⟩ | hq
    · exact hD.2 k2 _ hk2
    · exact C.2.2.2.2.2.2.2.2.1 q (Nat.le_trans hS.1 hq)
  have hcat : ((st.map (cv G.2.1)).map fun v => v.category).sum ≤ 8 := by
    rw [List.map_map]
    refine Nat.le_trans (Nat.le_of_eq ?_) hrs
    congr 1
    apply List.map_congr_left
    intro v _
    exact cv_cat _ v
  have hM1 : Met l (mY M') (mW M') (mR M') (va_Pc ((As).map (cv G.2.1)) (fun U => U.heap.size = H.size ∧ va_P G.1 vwCl (zl G h) U.heap ∧ KK G U ∧ ZD (fun _ => True) G.2.1)) (va_Qi P (fun h' t => va_P G.1 vwCl (zl G h') t.heap) (va_A (zl G h) H.size)) 0 0 (va_A (zl G h) H.size) := hM l G H.size
  refine va_calli (va_runS (As := As.map (cv G.2.1)) (rest := st.map (cv G.2.1)) ⟨C.1, C.2.1, C.2.2.2.1, C.2.2.2.2.1, hts⟩ hM1 (va_cwS As.length hts g hw hz.1 hz.2 hd hR) ⟨fun a U g mk q => by obtain ⟨q0, q1, qP, qK, qD⟩ := q; exact ⟨q0, q1, qP, KK_calling qK, qD⟩, fun U hU hW => ⟨rfl, by rw [hU], by rw [hU]; exact hP, KK_warm hW hK, ⟨C.2.2.2.2.2.2.2.2.2.1, fun _ _ => trivial⟩⟩⟩ rfl (by simp) hl.1 (by simp) (lv_room hcat) d hf) hS (fun q _ hq => hFc q hq) hFc (fun r h1 t H1 locs1 ht hvm hr1 hB hz1 hk1 hS1 => ?_)
  subst ht
  exact k r h1 hr1 p l e s m args below meth c G A t.heap locs1 ls C E hl hB hS1
theorem Ez.callSl {M' : Mi} {As : List Value} {index : Nat} {P : Int64 → Hp → Prop} {st0 : List Value} {ws' : List Cond} (hM : ZtL M' (As) h P) (hs0 : st0 = As.reverse ++ st) (g : GoodIn (mW M) (va_wsS (mO M) index (mY M') (mW M'))) (hd : (mY M').cls ≠ "java/lang/invoke/MethodHandle" ∧ (mY M').cls ≠ "java/lang/invoke/VarHandle" ∧ (parseMethodDescriptor (mY M').desc).map (fun d => d.parameters.length) = some As.length) (hw : mW M' = Cond.code (mY M') (mB M') (mN M') (mT M') :: ws') (hz : (mR M').cells = 0 ∧ (mR M').slots = 0) (hR : (mR M').frames + 1 ≤ (mR M).frames ∧ 8 + (mN M' + 11) + (mR M').locals ≤ (mR M).locals) (hrs : (st.map fun v => v.category).sum ≤ 8) (hf : X.1 ≤ (mR M).cells ∧ X.2.1 ≤ (mR M).slots) (d : decode (mB M) pc = .ok (.invokestatic index, 3)) (k : ∀ (r : Int64) (h1 : Hp), P r h1 → Ez X M (pc + 3) L (.long r :: st) h1) : Ez X M pc L st0 h := by
  subst hs0
  intro p l e s m args below meth c G A H locs ls C E hl hP hS
  have hD := ZD_zl C.2.2.2.2.2.2.2.2.2 h
  have hK := C.2.2.2.2.2.2.2.1
  have hts := C.2.2.2.2.2.1
  have hFc : ∀ q, va_A (zl G h) H.size q → A q := by
    intro q hq
    rcases hq with ⟨k2, e2, hk2⟩ | hq
    · exact hD.2 k2 _ hk2
    · exact C.2.2.2.2.2.2.2.2.1 q (Nat.le_trans hS.1 hq)
  have hcat : ((st.map (cv G.2.1)).map fun v => v.category).sum ≤ 8 := by
    rw [List.map_map]
    refine Nat.le_trans (Nat.le_of_eq ?_) hrs
    congr 1
    apply List.map_congr_left
    intro v _
    exact cv_cat _ v
  have hM1 : Met l (mY M') (mW M') (mR M') (va_Pc ((As).map (cv G.2.1)) (fun U => U.heap.size = H.size ∧ va_P G.1 vwCl (zl G h) U.heap ∧ KK G U ∧ ZD (fun _ => True) G.2.1)) (va_Ql P (fun h' t => va_P G.1 vwCl (zl G h') t.heap) (va_A (zl G h) H.size)) 0 0 (va_A (zl G h) H.size) := hM l G H.size
  refine va_calll (va_runS (As := As.map (cv G.2.1)) (rest := st.map (cv G.2.1)) ⟨C.1, C.2.1, C.2.2.2.1, C.2.2.2.2.1, hts⟩ hM1 (va_cwS As.length hts g hw hz.1 hz.2 hd hR) ⟨fun a U g mk q => by obtain ⟨q0, q1, qP, qK, qD⟩ := q; exact ⟨q0, q1, qP, KK_calling qK, qD⟩, fun U hU hW => ⟨rfl, by rw [hU], by rw [hU]; exact hP, KK_warm hW hK, ⟨C.2.2.2.2.2.2.2.2.2.1, fun _ _ => trivial⟩⟩⟩ rfl (by simp) hl.1 (by simp) (lv_room hcat) d hf) hS (fun q _ hq => hFc q hq) hFc (fun r h1 t H1 locs1 ht hvm hr1 hB hz1 hk1 hS1 => ?_)
  subst ht
  exact k r h1 hr1 p l e s m args below meth c G A t.heap locs1 ls C E hl hB hS1
theorem Ez.callSv {M' : Mi} {As : List Value} {index : Nat} {P : Hp → Prop} {st0 : List Value} {ws' : List Cond} (hM : ZtV M' (As) h P) (hs0 : st0 = As.reverse ++ st) (g : GoodIn (mW M) (va_wsS (mO M) index (mY M') (mW M'))) (hd : (mY M').cls ≠ "java/lang/invoke/MethodHandle" ∧ (mY M').cls ≠ "java/lang/invoke/VarHandle" ∧ (parseMethodDescriptor (mY M').desc).map (fun d => d.parameters.length) = some As.length) (hw : mW M' = Cond.code (mY M') (mB M') (mN M') (mT M') :: ws') (hz : (mR M').cells = 0 ∧ (mR M').slots = 0) (hR : (mR M').frames + 1 ≤ (mR M).frames ∧ 8 + (mN M' + 11) + (mR M').locals ≤ (mR M).locals) (hrs : (st.map fun v => v.category).sum ≤ 8) (hf : X.1 ≤ (mR M).cells ∧ X.2.1 ≤ (mR M).slots) (d : decode (mB M) pc = .ok (.invokestatic index, 3)) (k : ∀ (h1 : Hp), P h1 → Ez X M (pc + 3) L (st) h1) : Ez X M pc L st0 h := by
  subst hs0
  intro p l e s m args below meth c G A H locs ls C E hl hP hS
  have hD := ZD_zl C.2.2.2.2.2.2.2.2.2 h
  have hK := C.2.2.2.2.2.2.2.1
  have hts := C.2.2.2.2.2.1
  have hFc : ∀ q, va_A (zl G h) H.size q → A q := by
    intro q hq
    rcases hq with ⟨k2, e2, hk2⟩ | hq
    · exact hD.2 k2 _ hk2
    · exact C.2.2.2.2.2.2.2.2.1 q (Nat.le_trans hS.1 hq)
  have hcat : ((st.map (cv G.2.1)).map fun v => v.category).sum ≤ 8 := by
    rw [List.map_map]
    refine Nat.le_trans (Nat.le_of_eq ?_) hrs
    congr 1
    apply List.map_congr_left
    intro v _
    exact cv_cat _ v
  have hM1 : Met l (mY M') (mW M') (mR M') (va_Pc ((As).map (cv G.2.1)) (fun U => U.heap.size = H.size ∧ va_P G.1 vwCl (zl G h) U.heap ∧ KK G U ∧ ZD (fun _ => True) G.2.1)) (va_Qv P (fun h' t => va_P G.1 vwCl (zl G h') t.heap) (va_A (zl G h) H.size)) 0 0 (va_A (zl G h) H.size) := hM l G H.size
  refine va_callv (va_runS (As := As.map (cv G.2.1)) (rest := st.map (cv G.2.1)) ⟨C.1, C.2.1, C.2.2.2.1, C.2.2.2.2.1, hts⟩ hM1 (va_cwS As.length hts g hw hz.1 hz.2 hd hR) ⟨fun a U g mk q => by obtain ⟨q0, q1, qP, qK, qD⟩ := q; exact ⟨q0, q1, qP, KK_calling qK, qD⟩, fun U hU hW => ⟨rfl, by rw [hU], by rw [hU]; exact hP, KK_warm hW hK, ⟨C.2.2.2.2.2.2.2.2.2.1, fun _ _ => trivial⟩⟩⟩ rfl (by simp) hl.1 (by simp) (lv_room hcat) d hf) hS (fun q _ hq => hFc q hq) hFc (fun h1 t H1 locs1 ht hvm hr1 hB hz1 hk1 hS1 => ?_)
  subst ht
  exact k h1 hr1 p l e s m args below meth c G A t.heap locs1 ls C E hl hB hS1
theorem Ez.callNi {M' : Mi} {As : List Value} {index : Nat} {P : Int32 → Hp → Prop} {st0 : List Value} {ws' : List Cond} (hM : ZtI M' (As) h P) (hs0 : st0 = As.reverse ++ st) (g : GoodIn (mW M) (mW M')) (hnw : Cond.methodLinkNest (mO M) index (mY M') "MudBoards" ∈ nestW) (hst : Cond.static (mY M') ∈ mW M) (hini : Cond.initialized (mY M').cls ∈ mW M) (hd : (mY M').cls ≠ "java/lang/invoke/MethodHandle" ∧ (mY M').cls ≠ "java/lang/invoke/VarHandle" ∧ (parseMethodDescriptor (mY M').desc).map (fun d => d.parameters.length) = some As.length) (hw : mW M' = Cond.code (mY M') (mB M') (mN M') (mT M') :: ws') (hz : (mR M').cells = 0 ∧ (mR M').slots = 0) (hR : (mR M').frames + 1 ≤ (mR M).frames ∧ 8 + (mN M' + 11) + (mR M').locals ≤ (mR M).locals) (hrs : (st.map fun v => v.category).sum ≤ 8) (hf : X.1 ≤ (mR M).cells ∧ X.2.1 ≤ (mR M).slots) (d : decode (mB M) pc = .ok (.invokestatic index, 3)) (k : ∀ (r : Int32) (h1 : Hp), P r h1 → Ez X M (pc + 3) L (.int r :: st) h1) : Ez X M pc L st0 h := by
  subst hs0
  intro p l e s m args below meth c G A H locs ls C E hl hP hS
  have hD := ZD_zl C.2.2.2.2.2.2.2.2.2 h
  have hK := C.2.2.2.2.2.2.2.1
  have hts := C.2.2.2.2.2.1
  have hFc : ∀ q, va_A (zl G h) H.size q → A q := by
    intro q hq
    rcases hq with ⟨k2, e2, hk2⟩ | hq
    · exact hD.2 k2 _ hk2
    · exact C.2.2.2.2.2.2.2.2.1 q (Nat.le_trans hS.1 hq)
  have hcat : ((st.map (cv G.2.1)).map fun v => v.category).sum ≤ 8 := by
    rw [List.map_map]
    refine Nat.le_trans (Nat.le_of_eq ?_) hrs
    congr 1
    apply List.map_congr_left
    intro v _
    exact cv_cat _ v
  have hM1 : Met l (mY M') (mW M') (mR M') (va_Pc ((As).map (cv G.2.1)) (fun U => U.heap.size = H.size ∧ va_P G.1 vwCl (zl G h) U.heap ∧ KK G U ∧ ZD (fun _ => True) G.2.1)) (va_Qi P (fun h' t => va_P G.1 vwCl (zl G h') t.heap) (va_A (zl G h) H.size)) 0 0 (va_A (zl G h) H.size) := hM l G H.size
  refine va_calli (va_runSN (As := As.map (cv G.2.1)) (rest := st.map (cv G.2.1)) ⟨C.1, C.2.1, C.2.2.2.1, C.2.2.2.2.1, hts⟩ hM1 ⟨va_cnB As.length hts g hw hz.1 hz.2 (hK.2 _ hnw) (hts _ hini) hd hR, hts _ hst, trivial⟩ ⟨fun a U g mk q => by obtain ⟨q0, q1, qP, qK, qD⟩ := q; exact ⟨q0, q1, qP, KK_calling qK, qD⟩, fun U hU hW => ⟨rfl, by rw [hU], by rw [hU]; exact hP, KK_warm hW hK, ⟨C.2.2.2.2.2.2.2.2.2.1, fun _ _ => trivial⟩⟩⟩ rfl (by simp) hl.1 (by simp) (lv_room hcat) d hf) hS (fun q _ hq => hFc q hq) hFc (fun r h1 t H1 locs1 ht hvm hr1 hB hz1 hk1 hS1 => ?_)
  subst ht
  exact k r h1 hr1 p l e s m args below meth c G A t.heap locs1 ls C E hl hB hS1
theorem Ez.callNl {M' : Mi} {As : List Value} {index : Nat} {P : Int64 → Hp → Prop} {st0 : List Value} {ws' : List Cond} (hM : ZtL M' (As) h P) (hs0 : st0 = As.reverse ++ st) (g : GoodIn (mW M) (mW M')) (hnw : Cond.methodLinkNest (mO M) index (mY M') "MudBoards" ∈ nestW) (hst : Cond.static (mY M') ∈ mW M) (hini : Cond.initialized (mY M').cls ∈ mW M) (hd : (mY M').cls ≠ "java/lang/invoke/MethodHandle" ∧ (mY M').cls ≠ "java/lang/invoke/VarHandle" ∧ (parseMethodDescriptor (mY M').desc).map (fun d => d.parameters.length) = some As.length) (hw : mW M' = Cond.code (mY M') (mB M') (mN M') (mT M') :: ws') (hz : (mR M').cells = 0 ∧ (mR M').slots = 0) (hR : (mR M').frames + 1 ≤ (mR M).frames ∧ 8 + (mN M' + 11) + (mR M').locals ≤ (mR M).locals) (hrs : (st.map fun v => v.category).sum ≤ 8) (hf : X.1 ≤ (mR M).cells ∧ X.2.1 ≤ (mR M).slots) (d : decode (mB M) pc = .ok (.invokestatic index, 3)) (k : ∀ (r : Int64) (h1 : Hp), P r h1 → Ez X M (pc + 3) L (.long r :: st) h1) : Ez X M pc L st0 h := by
  subst hs0
  intro p l e s m args below meth c G A H locs ls C E hl hP hS
  have hD := ZD_zl C.2.2.2.2.2.2.2.2.2 h
  have hK := C.2.2.2.2.2.2.2.1
  have hts := C.2.2.2.2.2.1
  have hFc : ∀ q, va_A (zl G h) H.size q → A q := by
    intro q hq
    rcases hq with ⟨k2, e2, hk2⟩ | hq
    · exact hD.2 k2 _ hk2
    · exact C.2.2.2.2.2.2.2.2.1 q (Nat.le_trans hS.1 hq)
  have hcat : ((st.map (cv G.2.1)).map fun v => v.category).sum ≤ 8 := by
    rw [List.map_map]
    refine Nat.le_trans (Nat.le_of_eq ?_) hrs
    congr 1
    apply List.map_congr_left
    intro v _
    exact cv_cat _ v
  have hM1 : Met l (mY M') (mW M') (mR M') (va_Pc ((As).map (cv G.2.1)) (fun U => U.heap.size = H.size ∧ va_P G.1 vwCl (zl G h) U.heap ∧ KK G U ∧ ZD (fun _ => True) G.2.1)) (va_Ql P (fun h' t => va_P G.1 vwCl (zl G h') t.heap) (va_A (zl G h) H.size)) 0 0 (va_A (zl G h) H.size) := hM l G H.size
  refine va_calll (va_runSN (As := As.map (cv G.2.1)) (rest := st.map (cv G.2.1)) ⟨C.1, C.2.1, C.2.2.2.1, C.2.2.2.2.1, hts⟩ hM1 ⟨va_cnB As.length hts g hw hz.1 hz.2 (hK.2 _ hnw) (hts _ hini) hd hR, hts _ hst, trivial⟩ ⟨fun a U g mk q => by obtain ⟨q0, q1, qP, qK, qD⟩ := q; exact ⟨q0, q1, qP, KK_calling qK, qD⟩, fun U hU hW => ⟨rfl, by rw [hU], by rw [hU]; exact hP, KK_warm hW hK, ⟨C.2.2.2.2.2.2.2.2.2.1, fun _ _ => trivial⟩⟩⟩ rfl (by simp) hl.1 (by simp) (lv_room hcat) d hf) hS (fun q _ hq => hFc q hq) hFc (fun r h1 t H1 locs1 ht hvm hr1 hB hz1 hk1 hS1 => ?_)
  subst ht
  exact k r h1 hr1 p l e s m args below meth c G A t.heap locs1 ls C E hl hB hS1
theorem Ez.callNv {M' : Mi} {As : List Value} {index : Nat} {P : Hp → Prop} {st0 : List Value} {ws' : List Cond} (hM : ZtV M' (As) h P) (hs0 : st0 = As.reverse ++ st) (g : GoodIn (mW M) (mW M')) (hnw : Cond.methodLinkNest (mO M) index (mY M') "MudBoards" ∈ nestW) (hst : Cond.static (mY M') ∈ mW M) (hini : Cond.initialized (mY M').cls ∈ mW M) (hd : (mY M').cls ≠ "java/lang/invoke/MethodHandle" ∧ (mY M').cls ≠ "java/lang/invoke/VarHandle" ∧ (parseMethodDescriptor (mY M').desc).map (fun d => d.parameters.length) = some As.length) (hw : mW M' = Cond.code (mY M') (mB M') (mN M') (mT M') :: ws') (hz : (mR M').cells = 0 ∧ (mR M').slots = 0) (hR : (mR M').frames + 1 ≤ (mR M).frames ∧ 8 + (mN M' + 11) + (mR M').locals ≤ (mR M).locals) (hrs : (st.map fun v => v.category).sum ≤ 8) (hf : X.1 ≤ (mR M).cells ∧ X.2.1 ≤ (mR M).slots) (d : decode (mB M) pc = .ok (.invokestatic index, 3)) (k : ∀ (h1 : Hp), P h1 → Ez X M (pc + 3) L (st) h1) : Ez X M pc L st0 h := by
  subst hs0
  intro p l e s m args below meth c G A H locs ls C E hl hP hS
  have hD := ZD_zl C.2.2.2.2.2.2.2.2.2 h
  have hK := C.2.2.2.2.2.2.2.1
  have hts := C.2.2.2.2.2.1
  have hFc : ∀ q, va_A (zl G h) H.size q → A q := by
    intro q hq
    rcases hq with ⟨k2, e2, hk2⟩ | hq
    · exact hD.2 k2 _ hk2
    · exact C.2.2.2.2.2.2.2.2.1 q (Nat.le_trans hS.1 hq)
  have hcat : ((st.map (cv G.2.1)).map fun v => v.category).sum ≤ 8 := by
    rw [List.map_map]
    refine Nat.le_trans (Nat.le_of_eq ?_) hrs
    congr 1
    apply List.map_congr_left
    intro v _
    exact cv_cat _ v
  have hM1 : Met l (mY M') (mW M') (mR M') (va_Pc ((As).map (cv G.2.1)) (fun U => U.heap.size = H.size ∧ va_P G.1 vwCl (zl G h) U.heap ∧ KK G U ∧ ZD (fun _ => True) G.2.1)) (va_Qv P (fun h' t => va_P G.1 vwCl (zl G h') t.heap) (va_A (zl G h) H.size)) 0 0 (va_A (zl G h) H.size) := hM l G H.size
  refine va_callv (va_runSN (As := As.map (cv G.2.1)) (rest := st.map (cv G.2.1)) ⟨C.1, C.2.1, C.2.2.2.1, C.2.2.2.2.1, hts⟩ hM1 ⟨va_cnB As.length hts g hw hz.1 hz.2 (hK.2 _ hnw) (hts _ hini) hd hR, hts _ hst, trivial⟩ ⟨fun a U g mk q => by obtain ⟨q0, q1, qP, qK, qD⟩ := q; exact ⟨q0, q1, qP, KK_calling qK, qD⟩, fun U hU hW => ⟨rfl, by rw [hU], by rw [hU]; exact hP, KK_warm hW hK, ⟨C.2.2.2.2.2.2.2.2.2.1, fun _ _ => trivial⟩⟩⟩ rfl (by simp) hl.1 (by simp) (lv_room hcat) d hf) hS (fun q _ hq => hFc q hq) hFc (fun h1 t H1 locs1 ht hvm hr1 hB hz1 hk1 hS1 => ?_)
  subst ht
  exact k h1 hr1 p l e s m args below meth c G A t.heap locs1 ls C E hl hB hS1
theorem Ez.iret {P : Int32 → Hp → Prop} {ty : FieldType} {x : Int32} (hty : mT M = some ty) (hn : narrow ty (.int x) = .int x) (d : decode (mB M) pc = .ok (.ireturn, 1)) (hx : P x h) : Ez (Zi P) M pc L [.int x] h := by
  intro p l e s m args below meth c G A H locs ls C E hl hP hS
  exact W.zret C.1 C.2.1 (C.2.2.1.trans hty) hn (fun t ht hW => ⟨⟨x, h, rfl, hx, by subst ht; exact hP⟩, hS.F ht⟩) hS.2.2 d (hlocks := C.2.2.2.2.2.2.1)
theorem Ez.lret {P : Int64 → Hp → Prop} {x : Int64} (hty : mT M = some .long) (d : decode (mB M) pc = .ok (.lreturn, 1)) (hx : P x h) : Ez (Zl P) M pc L [.long x] h := by
  intro p l e s m args below meth c G A H locs ls C E hl hP hS
  exact W.lret C.1 C.2.1 (C.2.2.1.trans hty) (fun t ht hW => ⟨⟨x, h, rfl, hx, by subst ht; exact hP⟩, hS.F ht⟩) hS.2.2 d (hlocks := C.2.2.2.2.2.2.1)
theorem Ez.vret {P : Hp → Prop} (hty : mT M = none) (d : decode (mB M) pc = .ok (.return_, 1)) (hx : P h) : Ez (Zv P) M pc L [] h := by
  intro p l e s m args below meth c G A H locs ls C E hl hP hS
  exact W.vret C.1 C.2.1 (C.2.2.1.trans hty) (fun t ht hW => ⟨⟨h, rfl, hx, by subst ht; exact hP⟩, hS.F ht⟩) hS.2.2 d (hlocks := C.2.2.2.2.2.2.1)
theorem Ez.ifeqB {b : Bool} {off : Int} {tgt : Nat} (d : decode (mB M) pc = .ok (.ifCond .eq off, 3)) (ht : (pc : Int) + off = (tgt : Int)) (kt : b = false → Ez X M tgt L st h) (kf : b = true → Ez X M (pc + 3) L st h) : Ez X M pc L (.int (bI b) :: st) h :=
  Ez.ifeq d ht (fun q => kt (bI_0.mp q)) (fun q => kf (bI_n.mp q))
theorem Ez.ifneB {b : Bool} {off : Int} {tgt : Nat} (d : decode (mB M) pc = .ok (.ifCond .ne off, 3)) (ht : (pc : Int) + off = (tgt : Int)) (kt : b = true → Ez X M tgt L st h) (kf : b = false → Ez X M (pc + 3) L st h) : Ez X M pc L (.int (bI b) :: st) h :=
  Ez.ifne d ht (fun q => kt (bI_n.mp q)) (fun q => kf (bI_0.mp q))
end EzRules
theorem Ez_pad {X : Xt} {M : Mi} {pc : Nat} {L : List (Option Value)} {st : List Value} {h : Hp} (j : Nat) (k : Ez X M pc (L ++ List.replicate j none) st h) : Ez X M pc L st h := by
  intro p l e s m args below meth c G A H locs ls C E hl hP hS
  refine k p l e s m args below meth c G A H locs ls C E ⟨hl.1, hl.2.1, fun i v hv => ?_⟩ hP hS
  by_cases hi : i < L.length
  · rw [List.getElem?_append_left hi] at hv
    exact hl.2.2 i v hv
  · rw [List.getElem?_append_right (by omega), List.getElem?_replicate] at hv
    split at hv <;> cases hv
theorem Ez_forget {X : Xt} {M : Mi} {pc : Nat} {L L' : List (Option Value)} {st : List Value} {h : Hp} (hL : ∀ (i : Nat) (v : Value), L'[i]? = some (some v) → L[i]? = some (some v)) (k : Ez X M pc L' st h) : Ez X M pc L st h := by
  intro p l e s m args below meth c G A H locs ls C E hl hP hS
  exact k p l e s m args below meth c G A H locs ls C E ⟨hl.1, hl.2.1, fun i v hv => hl.2.2 i v (hL i v hv)⟩ hP hS
theorem ZtI_L {M : Mi} {av : List Value} {h : Hp} {P : Int32 → Hp → Prop} {ws' : List Cond} (j : Nat) (hw : mW M = Cond.code (mY M) (mB M) (mN M) (mT M) :: ws') (hy : plainName (mY M).cls = true) (ho : mO M = (mY M).cls) (hn : (layL av).length ≤ mN M)
    (k : Ez (Zi P) M 0 (layL av ++ List.replicate j none) [] h) : ZtI M av h P := ZtI_of hw hy ho hn (Ez_pad j k)
theorem ZtV_L {M : Mi} {av : List Value} {h : Hp} {P : Hp → Prop} {ws' : List Cond} (j : Nat) (hw : mW M = Cond.code (mY M) (mB M) (mN M) (mT M) :: ws') (hy : plainName (mY M).cls = true) (ho : mO M = (mY M).cls) (hn : (layL av).length ≤ mN M)
    (k : Ez (Zv P) M 0 (layL av ++ List.replicate j none) [] h) : ZtV M av h P := ZtV_of hw hy ho hn (Ez_pad j k)
theorem Ez_drop {X : Xt} {M : Mi} {pc : Nat} {L : List (Option Value)} {st : List Value} {h : Hp} (j : Nat) (k : Ez X M pc (L.set j none) st h) : Ez X M pc L st h := by
  refine Ez_forget (fun i v hv => ?_) k
  rw [List.getElem?_set] at hv
  split at hv
  · split at hv <;> cases hv
  · exact hv
section EzFix
variable {X : Xt} {M : Mi} {pc : Nat} {L : List (Option Value)} {st : List Value} {h : Hp}
theorem Ez.cVi {M' : Mi} {As : List Value} {index : Nat} {st0 : List Value} {ws' : List Cond} {h1 : Hp} {x : Int32} {c0 ci N : Nat} {C0 : String} {T : u_T} (hM : ZtI M' (.ref c0 :: As) h (fun r h' => r = x ∧ h' = h1)) (hs0 : st0 = As.reverse ++ .ref c0 :: st) (hc : vwCl[ci]? = some (C0, T, N)) (hpz : PZ[pz c0]? = some c0) (F : c0 < 48 ∧ ∀ G : Gx, ∃ fs, wK G h c0 = .inr (ci, fs)) (g : GoodIn (mW M) (wsV (mO M) index C0 (mY M') (mW M'))) (hd : (mY M').cls = C0 ∧ (mY M').cls ≠ "java/lang/invoke/MethodHandle" ∧ (mY M').cls ≠ "java/lang/invoke/VarHandle" ∧ (parseMethodDescriptor (mY M').desc).map (fun d => d.parameters.length) = some As.length) (hw : mW M' = Cond.code (mY M') (mB M') (mN M') (mT M') :: ws') (hz : (mR M').cells = 0 ∧ (mR M').slots = 0) (hR : (mR M').frames + 1 ≤ (mR M).frames ∧ 8 + (mN M' + 11) + (mR M').locals ≤ (mR M).locals) (hrs : (st.map fun v => v.category).sum ≤ 8) (hf : X.1 ≤ (mR M).cells ∧ X.2.1 ≤ (mR M).slots) (d : decode (mB M) pc = .ok (.invokevirtual index, 3)) (k : Ez X M (pc + 3) L (.int x :: st) h1) : Ez X M pc L st0 h :=
  Ez.callVi hM hs0 hc hpz F g hd hw hz hR hrs hf d (fun r h2 q => by obtain ⟨rfl, rfl⟩ := q; exact k)
theorem Ez.cVl {M' : Mi} {As : List Value} {index : Nat} {st0 : List Value} {ws' : List Cond} {h1 : Hp} {x : Int64} {c0 ci N : Nat} {C0 : String} {T : u_T} (hM : ZtL M' (.ref c0 :: As) h (fun r h' => r = x ∧ h' = h1)) (hs0 : st0 = As.reverse ++ .ref c0 :: st) (hc : vwCl[ci]? = some (C0, T, N)) (hpz : PZ[pz c0]? = some c0) (F : c0 < 48 ∧ ∀ G : Gx, ∃ fs, wK G h c0 = .inr (ci, fs)) (g : GoodIn (mW M) (wsV (mO M) index C0 (mY M') (mW M'))) (hd : (mY M').cls = C0 ∧ (mY M').cls ≠ "java/lang/invoke/MethodHandle" ∧ (mY M').cls ≠ "java/lang/invoke/VarHandle" ∧ (parseMethodDescriptor (mY M').desc).map (fun d => d.parameters.length) = some As.length) (hw : mW M' = Cond.code (mY M') (mB M') (mN M') (mT M') :: ws') (hz : (mR M').cells = 0 ∧ (mR M').slots = 0) (hR : (mR M').frames + 1 ≤ (mR M).frames ∧ 8 + (mN M' + 11) + (mR M').locals ≤ (mR M).locals) (hrs : (st.map fun v => v.category).sum ≤ 8) (hf : X.1 ≤ (mR M).cells ∧ X.2.1 ≤ (mR M).slots) (d : decode (mB M) pc = .ok (.invokevirtual index, 3)) (k : Ez X M (pc + 3) L (.long x :: st) h1) : Ez X M pc L st0 h :=
  Ez.callVl hM hs0 hc hpz F g hd hw hz hR hrs hf d (fun r h2 q => by obtain ⟨rfl, rfl⟩ := q; exact k)
theorem Ez.cVv {M' : Mi} {As : List Value} {index : Nat} {st0 : List Value} {ws' : List Cond} {h1 : Hp} {c0 ci N : Nat} {C0 : String} {T : u_T} (hM : ZtV M' (.ref c0 :: As) h (fun h' => h' = h1)) (hs0 : st0 = As.reverse ++ .ref c0 :: st) (hc : vwCl[ci]? = some (C0, T, N)) (hpz : PZ[pz c0]? = some c0) (F : c0 < 48 ∧ ∀ G : Gx, ∃ fs, wK G h c0 = .inr (ci, fs)) (g : GoodIn (mW M) (wsV (mO M) index C0 (mY M') (mW M'))) (hd : (mY M').cls = C0 ∧ (mY M').cls ≠ "java/lang/invoke/MethodHandle" ∧ (mY M').cls ≠ "java/lang/invoke/VarHandle" ∧ (parseMethodDescriptor (mY M').desc).map (fun d => d.parameters.length) = some As.length) (hw : mW M' = Cond.code (mY M') (mB M') (mN M') (mT M') :: ws') (hz : (mR M').cells = 0 ∧ (mR M').slots = 0) (hR : (mR M').frames + 1 ≤ (mR M).frames ∧ 8 + (mN M' + 11) + (mR M').locals ≤ (mR M).locals) (hrs : (st.map fun v => v.category).sum ≤ 8) (hf : X.1 ≤ (mR M).cells ∧ X.2.1 ≤ (mR M).slots) (d : decode (mB M) pc = .ok (.invokevirtual index, 3)) (k : Ez X M (pc + 3) L (st) h1) : Ez X M pc L st0 h :=
  Ez.callVv hM hs0 hc hpz F g hd hw hz hR hrs hf d (fun h2 q => by subst q; exact k)
theorem Ez.cSi {M' : Mi} {As : List Value} {index : Nat} {st0 : List Value} {ws' : List Cond} {h1 : Hp} {x : Int32} (hM : ZtI M' (As) h (fun r h' => r = x ∧ h' = h1)) (hs0 : st0 = As.reverse ++ st) (g : GoodIn (mW M) (va_wsS (mO M) index (mY M') (mW M'))) (hd : (mY M').cls ≠ "java/lang/invoke/MethodHandle" ∧ (mY M').cls ≠ "java/lang/invoke/VarHandle" ∧ (parseMethodDescriptor (mY M').desc).map (fun d => d.parameters.length) = some As.length) (hw : mW M' = Cond.code (mY M') (mB M') (mN M') (mT M') :: ws') (hz : (mR M').cells = 0 ∧ (mR M').slots = 0) (hR : (mR M').frames + 1 ≤ (mR M).frames ∧ 8 + (mN M' + 11) + (mR M').locals ≤ (mR M).locals) (hrs : (st.map fun v => v.category).sum ≤ 8) (hf : X.1 ≤ (mR M).cells ∧ X.2.1 ≤ (mR M).slots) (d : decode (mB M) pc = .ok (.invokestatic index, 3)) (k : Ez X M (pc + 3) L (.int x :: st) h1) : Ez X M pc L st0 h :=
  Ez.callSi hM hs0 g hd hw hz hR hrs hf d (fun r h2 q => by obtain ⟨rfl, rfl⟩ := q; exact k)
theorem Ez.cSl {M' : Mi} {As : List Value} {index : Nat} {st0 : List Value} {ws' : List Cond} {h1 : Hp} {x : Int64} (hM : ZtL M' (As) h (fun r h' => r = x ∧ h' = h1)) (hs0 : st0 = As.reverse ++ st) (g : GoodIn (mW M) (va_wsS (mO M) index (mY M') (mW M'))) (hd : (mY M').cls ≠ "java/lang/invoke/MethodHandle" ∧ (mY M').cls ≠ "java/lang/invoke/VarHandle" ∧ (parseMethodDescriptor (mY M').desc).map (fun d => d.parameters.length) = some As.length) (hw : mW M' = Cond.code (mY M') (mB M') (mN M') (mT M') :: ws') (hz : (mR M').cells = 0 ∧ (mR M').slots = 0) (hR : (mR M').frames + 1 ≤ (mR M).frames ∧ 8 + (mN M' + 11) + (mR M').locals ≤ (mR M).locals) (hrs : (st.map fun v => v.category).sum ≤ 8) (hf : X.1 ≤ (mR M).cells ∧ X.2.1 ≤ (mR M).slots) (d : decode (mB M) pc = .ok (.invokestatic index, 3)) (k : Ez X M (pc + 3) L (.long x :: st) h1) : Ez X M pc L st0 h :=
  Ez.callSl hM hs0 g hd hw hz hR hrs hf d (fun r h2 q => by obtain ⟨rfl, rfl⟩ := q; exact k)
theorem Ez.cSv {M' : Mi} {As : List Value} {index : Nat} {st0 : List Value} {ws' : List Cond} {h1 : Hp} (hM : ZtV M' (As) h (fun h' => h' = h1)) (hs0 : st0 = As.reverse ++ st) (g : GoodIn (mW M) (va_wsS (mO M) index (mY M') (mW M'))) (hd : (mY M').cls ≠ "java/lang/invoke/MethodHandle" ∧ (mY M').cls ≠ "java/lang/invoke/VarHandle" ∧ (parseMethodDescriptor (mY M').desc).map (fun d => d.parameters.length) = some As.length) (hw : mW M' = Cond.code (mY M') (mB M') (mN M') (mT M') :: ws') (hz : (mR M').cells = 0 ∧ (mR M').slots = 0) (hR : (mR M').frames + 1 ≤ (mR M).frames ∧ 8 + (mN M' + 11) + (mR M').locals ≤ (mR M).locals) (hrs : (st.map fun v => v.category).sum ≤ 8) (hf : X.1 ≤ (mR M).cells ∧ X.2.1 ≤ (mR M).slots) (d : decode (mB M) pc = .ok (.invokestatic index, 3)) (k : Ez X M (pc + 3) L (st) h1) : Ez X M pc L st0 h :=
  Ez.callSv hM hs0 g hd hw hz hR hrs hf d (fun h2 q => by subst q; exact k)
theorem Ez.cNi {M' : Mi} {As : List Value} {index : Nat} {st0 : List Value} {ws' : List Cond} {h1 : Hp} {x : Int32} (hM : ZtI M' (As) h (fun r h' => r = x ∧ h' = h1)) (hs0 : st0 = As.reverse ++ st) (g : GoodIn (mW M) (mW M')) (hnw : Cond.methodLinkNest (mO M) index (mY M') "MudBoards" ∈ nestW) (hst : Cond.static (mY M') ∈ mW M) (hini : Cond.initialized (mY M').cls ∈ mW M) (hd : (mY M').cls ≠ "java/lang/invoke/MethodHandle" ∧ (mY M').cls ≠ "java/lang/invoke/VarHandle" ∧ (parseMethodDescriptor (mY M').desc).map (fun d => d.parameters.length) = some As.length) (hw : mW M' = Cond.code (mY M') (mB M') (mN M') (mT M') :: ws') (hz : (mR M').cells = 0 ∧ (mR M').slots = 0) (hR : (mR M').frames + 1 ≤ (mR M).frames ∧ 8 + (mN M' + 11) + (mR M').locals ≤ (mR M).locals) (hrs : (st.map fun v => v.category).sum ≤ 8) (hf : X.1 ≤ (mR M).cells ∧ X.2.1 ≤ (mR M).slots) (d : decode (mB M) pc = .ok (.invokestatic index, 3)) (k : Ez X M (pc + 3) L (.int x :: st) h1) : Ez X M pc L st0 h :=
  Ez.callNi hM hs0 g hnw hst hini hd hw hz hR hrs hf d (fun r h2 q => by obtain ⟨rfl, rfl⟩ := q; exact k)
theorem Ez.cNl {M' : Mi} {As : List Value} {index : Nat} {st0 : List Value} {ws' : List Cond} {h1 : Hp} {x : Int64} (hM : ZtL M' (As) h (fun r h' => r = x ∧ h' = h1)) (hs0 : st0 = As.reverse ++ st) (g : GoodIn (mW M) (mW M')) (hnw : Cond.methodLinkNest (mO M) index (mY M') "MudBoards" ∈ nestW) (hst : Cond.static (mY M') ∈ mW M) (hini : Cond.initialized (mY M').cls ∈ mW M) (hd : (mY M').cls ≠ "java/lang/invoke/MethodHandle" ∧ (mY M').cls ≠ "java/lang/invoke/VarHandle" ∧ (parseMethodDescriptor (mY M').desc).map (fun d => d.parameters.length) = some As.length) (hw : mW M' = Cond.code (mY M') (mB M') (mN M') (mT M') :: ws') (hz : (mR M').cells = 0 ∧ (mR M').slots = 0) (hR : (mR M').frames + 1 ≤ (mR M).frames ∧ 8 + (mN M' + 11) + (mR M').locals ≤ (mR M).locals) (hrs : (st.map fun v => v.category).sum ≤ 8) (hf : X.1 ≤ (mR M).cells ∧ X.2.1 ≤ (mR M).slots) (d : decode (mB M) pc = .ok (.invokestatic index, 3)) (k : Ez X M (pc + 3) L (.long x :: st) h1) : Ez X M pc L st0 h :=
  Ez.callNl hM hs0 g hnw hst hini hd hw hz hR hrs hf d (fun r h2 q => by obtain ⟨rfl, rfl⟩ := q; exact k)
theorem Ez.cNv {M' : Mi} {As : List Value} {index : Nat} {st0 : List Value} {ws' : List Cond} {h1 : Hp} (hM : ZtV M' (As) h (fun h' => h' = h1)) (hs0 : st0 = As.reverse ++ st) (g : GoodIn (mW M) (mW M')) (hnw : Cond.methodLinkNest (mO M) index (mY M') "MudBoards" ∈ nestW) (hst : Cond.static (mY M') ∈ mW M) (hini : Cond.initialized (mY M').cls ∈ mW M) (hd : (mY M').cls ≠ "java/lang/invoke/MethodHandle" ∧ (mY M').cls ≠ "java/lang/invoke/VarHandle" ∧ (parseMethodDescriptor (mY M').desc).map (fun d => d.parameters.length) = some As.length) (hw : mW M' = Cond.code (mY M') (mB M') (mN M') (mT M') :: ws') (hz : (mR M').cells = 0 ∧ (mR M').slots = 0) (hR : (mR M').frames + 1 ≤ (mR M).frames ∧ 8 + (mN M' + 11) + (mR M').locals ≤ (mR M).locals) (hrs : (st.map fun v => v.category).sum ≤ 8) (hf : X.1 ≤ (mR M).cells ∧ X.2.1 ≤ (mR M).slots) (d : decode (mB M) pc = .ok (.invokestatic index, 3)) (k : Ez X M (pc + 3) L (st) h1) : Ez X M pc L st0 h :=
  Ez.callNv hM hs0 g hnw hst hini hd hw hz hR hrs hf d (fun h2 q => by subst q; exact k)
end EzFix
