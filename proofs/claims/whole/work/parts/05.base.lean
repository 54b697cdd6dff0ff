/-! ===== helpers over Ev: padded locals, fixed answers, switches, bounds ===== -/
theorem Ev_pad {X : Xt} {M : Mi} {pc : Nat} {L : List (Option Value)} {st : List Value} {h : Hp} (j : Nat) (k : Ev X M pc (L ++ List.replicate j none) st h) : Ev X M pc L st h := by
  intro p l e s m args below meth c G A H locs ls C E hl hP hS
  refine k p l e s m args below meth c G A H locs ls C E ⟨hl.1, hl.2.1, fun i v hv => ?_⟩ hP hS
  by_cases hi : i < L.length
  · rw [List.getElem?_append_left hi] at hv
    exact hl.2.2 i v hv
  · rw [List.getElem?_append_right (by omega), List.getElem?_replicate] at hv
    split at hv <;> cases hv
/-- fewer locals known: any list whose known places are those of the other -/
theorem Ev_forget {X : Xt} {M : Mi} {pc : Nat} {L L' : List (Option Value)} {st : List Value} {h : Hp} (hL : ∀ (i : Nat) (v : Value), L'[i]? = some (some v) → L[i]? = some (some v)) (k : Ev X M pc L' st h) : Ev X M pc L st h := by
  intro p l e s m args below meth c G A H locs ls C E hl hP hS
  exact k p l e s m args below meth c G A H locs ls C E ⟨hl.1, hl.2.1, fun i v hv => hl.2.2 i v (hL i v hv)⟩ hP hS
theorem CtI_L {M : Mi} {av : List Value} {h : Hp} {P : Int32 → Hp → Prop} {ws' : List Cond} (j : Nat) (hw : mW M = Cond.code (mY M) (mB M) (mN M) (mT M) :: ws') (hy : plainName (mY M).cls = true) (ho : mO M = (mY M).cls) (hn : (layL av).length ≤ mN M)
    (k : Ev (Xi P) M 0 (layL av ++ List.replicate j none) [] h) : CtI M av h P := CtI_of hw hy ho hn (Ev_pad j k)
theorem CtL_L {M : Mi} {av : List Value} {h : Hp} {P : Int64 → Hp → Prop} {ws' : List Cond} (j : Nat) (hw : mW M = Cond.code (mY M) (mB M) (mN M) (mT M) :: ws') (hy : plainName (mY M).cls = true) (ho : mO M = (mY M).cls) (hn : (layL av).length ≤ mN M)
    (k : Ev (Xl P) M 0 (layL av ++ List.replicate j none) [] h) : CtL M av h P := CtL_of hw hy ho hn (Ev_pad j k)
theorem CtV_L {M : Mi} {av : List Value} {h : Hp} {P : Hp → Prop} {ws' : List Cond} (j : Nat) (hw : mW M = Cond.code (mY M) (mB M) (mN M) (mT M) :: ws') (hy : plainName (mY M).cls = true) (ho : mO M = (mY M).cls) (hn : (layL av).length ≤ mN M)
    (k : Ev (Xv P) M 0 (layL av ++ List.replicate j none) [] h) : CtV M av h P := CtV_of hw hy ho hn (Ev_pad j k)
theorem Met_mono {l : Launch} {y : MethodName} {ws : List Cond} {rm : Room} {Pc : Array Value → State → Prop} {Qc Qc' : Array Value → State → Outcome → State → Prop} {mc ms : Nat} {free : Addr → Prop} (hM : Met l y ws rm Pc Qc mc ms free) (hQ : ∀ a s o t, Qc a s o t → Qc' a s o t) : Met l y ws rm Pc Qc' mc ms free := by
  intro p e ha hc hk s m args below hf happ hpre ht
  obtain ⟨k, o, h1, h2, h3, h4⟩ := hM p e ha hc hk s m args below hf happ hpre ht
  exact ⟨k, o, h1, h2, h3, hQ _ _ _ _ h4.1, h4.2⟩
theorem CtI_mono {M : Mi} {av : List Value} {h : Hp} {P P' : Int32 → Hp → Prop} (k : CtI M av h P) (hP : ∀ r h', P r h' → P' r h') : CtI M av h P' := by
  intro l G sz
  refine Met_mono (k l G sz) (fun a s o t q => ?_)
  obtain ⟨⟨r, u, h1, h2, h3⟩, h4⟩ := q
  exact ⟨⟨r, u, h1, hP _ _ h2, h3⟩, h4⟩
theorem CtV_mono {M : Mi} {av : List Value} {h : Hp} {P P' : Hp → Prop} (k : CtV M av h P) (hP : ∀ h', P h' → P' h') : CtV M av h P' := by
  intro l G sz
  refine Met_mono (k l G sz) (fun a s o t q => ?_)
  obtain ⟨⟨u, h1, h2, h3⟩, h4⟩ := q
  exact ⟨⟨u, h1, hP _ h2, h3⟩, h4⟩
theorem CtL_mono {M : Mi} {av : List Value} {h : Hp} {P P' : Int64 → Hp → Prop} (k : CtL M av h P) (hP : ∀ r h', P r h' → P' r h') : CtL M av h P' := by
  intro l G sz
  refine Met_mono (k l G sz) (fun a s o t q => ?_)
  obtain ⟨⟨r, u, h1, h2, h3⟩, h4⟩ := q
  exact ⟨⟨r, u, h1, hP _ _ h2, h3⟩, h4⟩
section EvFix
variable {X : Xt} {M : Mi} {pc : Nat} {L : List (Option Value)} {st : List Value} {h : Hp}
theorem Ev.cVi {M' : Mi} {As : List Value} {index : Nat} {st0 : List Value} {ws' : List Cond} {h1 : Hp} {x : Int32} {c0 ci N : Nat} {C0 : String} {T : u_T} (hM : CtI M' (.ref c0 :: As) h (fun r h' => r = x ∧ h' = h1)) (hs0 : st0 = As.reverse ++ .ref c0 :: st) (hc : vwCl[ci]? = some (C0, T, N)) (F : c0 < 48 ∧ ∀ G : Gx, ∃ fs, wK G h c0 = .inr (ci, fs)) (g : GoodIn (mW M) (wsV (mO M) index C0 (mY M') (mW M'))) (hd : (mY M').cls = C0 ∧ (mY M').cls ≠ "java/lang/invoke/MethodHandle" ∧ (mY M').cls ≠ "java/lang/invoke/VarHandle" ∧ (parseMethodDescriptor (mY M').desc).map (fun d => d.parameters.length) = some As.length) (hw : mW M' = Cond.code (mY M') (mB M') (mN M') (mT M') :: ws') (hz : (mR M').cells = 0 ∧ (mR M').slots = 0) (hR : (mR M').frames + 1 ≤ (mR M).frames ∧ 8 + (mN M' + 11) + (mR M').locals ≤ (mR M).locals) (hrs : (st.map fun v => v.category).sum ≤ 8) (hf : X.1 ≤ (mR M).cells ∧ X.2.1 ≤ (mR M).slots) (d : decode (mB M) pc = .ok (.invokevirtual index, 3)) (k : Ev X M (pc + 3) L (.int x :: st) h1) : Ev X M pc L st0 h :=
  Ev.callVi hM hs0 hc F g hd hw hz hR hrs hf d (fun r h2 q => by obtain ⟨rfl, rfl⟩ := q; exact k)
theorem Ev.cVl {M' : Mi} {As : List Value} {index : Nat} {st0 : List Value} {ws' : List Cond} {h1 : Hp} {x : Int64} {c0 ci N : Nat} {C0 : String} {T : u_T} (hM : CtL M' (.ref c0 :: As) h (fun r h' => r = x ∧ h' = h1)) (hs0 : st0 = As.reverse ++ .ref c0 :: st) (hc : vwCl[ci]? = some (C0, T, N)) (F : c0 < 48 ∧ ∀ G : Gx, ∃ fs, wK G h c0 = .inr (ci, fs)) (g : GoodIn (mW M) (wsV (mO M) index C0 (mY M') (mW M'))) (hd : (mY M').cls = C0 ∧ (mY M').cls ≠ "java/lang/invoke/MethodHandle" ∧ (mY M').cls ≠ "java/lang/invoke/VarHandle" ∧ (parseMethodDescriptor (mY M').desc).map (fun d => d.parameters.length) = some As.length) (hw : mW M' = Cond.code (mY M') (mB M') (mN M') (mT M') :: ws') (hz : (mR M').cells = 0 ∧ (mR M').slots = 0) (hR : (mR M').frames + 1 ≤ (mR M).frames ∧ 8 + (mN M' + 11) + (mR M').locals ≤ (mR M).locals) (hrs : (st.map fun v => v.category).sum ≤ 8) (hf : X.1 ≤ (mR M).cells ∧ X.2.1 ≤ (mR M).slots) (d : decode (mB M) pc = .ok (.invokevirtual index, 3)) (k : Ev X M (pc + 3) L (.long x :: st) h1) : Ev X M pc L st0 h :=
  Ev.callVl hM hs0 hc F g hd hw hz hR hrs hf d (fun r h2 q => by obtain ⟨rfl, rfl⟩ := q; exact k)
theorem Ev.cVv {M' : Mi} {As : List Value} {index : Nat} {st0 : List Value} {ws' : List Cond} {h1 : Hp} {c0 ci N : Nat} {C0 : String} {T : u_T} (hM : CtV M' (.ref c0 :: As) h (fun h' => h' = h1)) (hs0 : st0 = As.reverse ++ .ref c0 :: st) (hc : vwCl[ci]? = some (C0, T, N)) (F : c0 < 48 ∧ ∀ G : Gx, ∃ fs, wK G h c0 = .inr (ci, fs)) (g : GoodIn (mW M) (wsV (mO M) index C0 (mY M') (mW M'))) (hd : (mY M').cls = C0 ∧ (mY M').cls ≠ "java/lang/invoke/MethodHandle" ∧ (mY M').cls ≠ "java/lang/invoke/VarHandle" ∧ (parseMethodDescriptor (mY M').desc).map (fun d => d.parameters.length) = some As.length) (hw : mW M' = Cond.code (mY M') (mB M') (mN M') (mT M') :: ws') (hz : (mR M').cells = 0 ∧ (mR M').slots = 0) (hR : (mR M').frames + 1 ≤ (mR M).frames ∧ 8 + (mN M' + 11) + (mR M').locals ≤ (mR M).locals) (hrs : (st.map fun v => v.category).sum ≤ 8) (hf : X.1 ≤ (mR M).cells ∧ X.2.1 ≤ (mR M).slots) (d : decode (mB M) pc = .ok (.invokevirtual index, 3)) (k : Ev X M (pc + 3) L (st) h1) : Ev X M pc L st0 h :=
  Ev.callVv hM hs0 hc F g hd hw hz hR hrs hf d (fun h2 q => by subst q; exact k)
theorem Ev.cSi {M' : Mi} {As : List Value} {index : Nat} {st0 : List Value} {ws' : List Cond} {h1 : Hp} {x : Int32} (hM : CtI M' (As) h (fun r h' => r = x ∧ h' = h1)) (hs0 : st0 = As.reverse ++ st) (g : GoodIn (mW M) (va_wsS (mO M) index (mY M') (mW M'))) (hd : (mY M').cls ≠ "java/lang/invoke/MethodHandle" ∧ (mY M').cls ≠ "java/lang/invoke/VarHandle" ∧ (parseMethodDescriptor (mY M').desc).map (fun d => d.parameters.length) = some As.length) (hw : mW M' = Cond.code (mY M') (mB M') (mN M') (mT M') :: ws') (hz : (mR M').cells = 0 ∧ (mR M').slots = 0) (hR : (mR M').frames + 1 ≤ (mR M).frames ∧ 8 + (mN M' + 11) + (mR M').locals ≤ (mR M).locals) (hrs : (st.map fun v => v.category).sum ≤ 8) (hf : X.1 ≤ (mR M).cells ∧ X.2.1 ≤ (mR M).slots) (d : decode (mB M) pc = .ok (.invokestatic index, 3)) (k : Ev X M (pc + 3) L (.int x :: st) h1) : Ev X M pc L st0 h :=
  Ev.callSi hM hs0 g hd hw hz hR hrs hf d (fun r h2 q => by obtain ⟨rfl, rfl⟩ := q; exact k)
theorem Ev.cSl {M' : Mi} {As : List Value} {index : Nat} {st0 : List Value} {ws' : List Cond} {h1 : Hp} {x : Int64} (hM : CtL M' (As) h (fun r h' => r = x ∧ h' = h1)) (hs0 : st0 = As.reverse ++ st) (g : GoodIn (mW M) (va_wsS (mO M) index (mY M') (mW M'))) (hd : (mY M').cls ≠ "java/lang/invoke/MethodHandle" ∧ (mY M').cls ≠ "java/lang/invoke/VarHandle" ∧ (parseMethodDescriptor (mY M').desc).map (fun d => d.parameters.length) = some As.length) (hw : mW M' = Cond.code (mY M') (mB M') (mN M') (mT M') :: ws') (hz : (mR M').cells = 0 ∧ (mR M').slots = 0) (hR : (mR M').frames + 1 ≤ (mR M).frames ∧ 8 + (mN M' + 11) + (mR M').locals ≤ (mR M).locals) (hrs : (st.map fun v => v.category).sum ≤ 8) (hf : X.1 ≤ (mR M).cells ∧ X.2.1 ≤ (mR M).slots) (d : decode (mB M) pc = .ok (.invokestatic index, 3)) (k : Ev X M (pc + 3) L (.long x :: st) h1) : Ev X M pc L st0 h :=
  Ev.callSl hM hs0 g hd hw hz hR hrs hf d (fun r h2 q => by obtain ⟨rfl, rfl⟩ := q; exact k)
theorem Ev.cSv {M' : Mi} {As : List Value} {index : Nat} {st0 : List Value} {ws' : List Cond} {h1 : Hp} (hM : CtV M' (As) h (fun h' => h' = h1)) (hs0 : st0 = As.reverse ++ st) (g : GoodIn (mW M) (va_wsS (mO M) index (mY M') (mW M'))) (hd : (mY M').cls ≠ "java/lang/invoke/MethodHandle" ∧ (mY M').cls ≠ "java/lang/invoke/VarHandle" ∧ (parseMethodDescriptor (mY M').desc).map (fun d => d.parameters.length) = some As.length) (hw : mW M' = Cond.code (mY M') (mB M') (mN M') (mT M') :: ws') (hz : (mR M').cells = 0 ∧ (mR M').slots = 0) (hR : (mR M').frames + 1 ≤ (mR M).frames ∧ 8 + (mN M' + 11) + (mR M').locals ≤ (mR M).locals) (hrs : (st.map fun v => v.category).sum ≤ 8) (hf : X.1 ≤ (mR M).cells ∧ X.2.1 ≤ (mR M).slots) (d : decode (mB M) pc = .ok (.invokestatic index, 3)) (k : Ev X M (pc + 3) L (st) h1) : Ev X M pc L st0 h :=
  Ev.callSv hM hs0 g hd hw hz hR hrs hf d (fun h2 q => by subst q; exact k)
theorem Ev.cNi {M' : Mi} {As : List Value} {index : Nat} {st0 : List Value} {ws' : List Cond} {h1 : Hp} {x : Int32} (hM : CtI M' (As) h (fun r h' => r = x ∧ h' = h1)) (hs0 : st0 = As.reverse ++ st) (g : GoodIn (mW M) (mW M')) (hnw : Cond.methodLinkNest (mO M) index (mY M') "MudBoards" ∈ nestW) (hst : Cond.static (mY M') ∈ mW M) (hini : Cond.initialized (mY M').cls ∈ mW M) (hd : (mY M').cls ≠ "java/lang/invoke/MethodHandle" ∧ (mY M').cls ≠ "java/lang/invoke/VarHandle" ∧ (parseMethodDescriptor (mY M').desc).map (fun d => d.parameters.length) = some As.length) (hw : mW M' = Cond.code (mY M') (mB M') (mN M') (mT M') :: ws') (hz : (mR M').cells = 0 ∧ (mR M').slots = 0) (hR : (mR M').frames + 1 ≤ (mR M).frames ∧ 8 + (mN M' + 11) + (mR M').locals ≤ (mR M).locals) (hrs : (st.map fun v => v.category).sum ≤ 8) (hf : X.1 ≤ (mR M).cells ∧ X.2.1 ≤ (mR M).slots) (d : decode (mB M) pc = .ok (.invokestatic index, 3)) (k : Ev X M (pc + 3) L (.int x :: st) h1) : Ev X M pc L st0 h :=
  Ev.callNi hM hs0 g hnw hst hini hd hw hz hR hrs hf d (fun r h2 q => by obtain ⟨rfl, rfl⟩ := q; exact k)
theorem Ev.cNl {M' : Mi} {As : List Value} {index : Nat} {st0 : List Value} {ws' : List Cond} {h1 : Hp} {x : Int64} (hM : CtL M' (As) h (fun r h' => r = x ∧ h' = h1)) (hs0 : st0 = As.reverse ++ st) (g : GoodIn (mW M) (mW M')) (hnw : Cond.methodLinkNest (mO M) index (mY M') "MudBoards" ∈ nestW) (hst : Cond.static (mY M') ∈ mW M) (hini : Cond.initialized (mY M').cls ∈ mW M) (hd : (mY M').cls ≠ "java/lang/invoke/MethodHandle" ∧ (mY M').cls ≠ "java/lang/invoke/VarHandle" ∧ (parseMethodDescriptor (mY M').desc).map (fun d => d.parameters.length) = some As.length) (hw : mW M' = Cond.code (mY M') (mB M') (mN M') (mT M') :: ws') (hz : (mR M').cells = 0 ∧ (mR M').slots = 0) (hR : (mR M').frames + 1 ≤ (mR M).frames ∧ 8 + (mN M' + 11) + (mR M').locals ≤ (mR M).locals) (hrs : (st.map fun v => v.category).sum ≤ 8) (hf : X.1 ≤ (mR M).cells ∧ X.2.1 ≤ (mR M).slots) (d : decode (mB M) pc = .ok (.invokestatic index, 3)) (k : Ev X M (pc + 3) L (.long x :: st) h1) : Ev X M pc L st0 h :=
  Ev.callNl hM hs0 g hnw hst hini hd hw hz hR hrs hf d (fun r h2 q => by obtain ⟨rfl, rfl⟩ := q; exact k)
theorem Ev.cNv {M' : Mi} {As : List Value} {index : Nat} {st0 : List Value} {ws' : List Cond} {h1 : Hp} (hM : CtV M' (As) h (fun h' => h' = h1)) (hs0 : st0 = As.reverse ++ st) (g : GoodIn (mW M) (mW M')) (hnw : Cond.methodLinkNest (mO M) index (mY M') "MudBoards" ∈ nestW) (hst : Cond.static (mY M') ∈ mW M) (hini : Cond.initialized (mY M').cls ∈ mW M) (hd : (mY M').cls ≠ "java/lang/invoke/MethodHandle" ∧ (mY M').cls ≠ "java/lang/invoke/VarHandle" ∧ (parseMethodDescriptor (mY M').desc).map (fun d => d.parameters.length) = some As.length) (hw : mW M' = Cond.code (mY M') (mB M') (mN M') (mT M') :: ws') (hz : (mR M').cells = 0 ∧ (mR M').slots = 0) (hR : (mR M').frames + 1 ≤ (mR M).frames ∧ 8 + (mN M' + 11) + (mR M').locals ≤ (mR M).locals) (hrs : (st.map fun v => v.category).sum ≤ 8) (hf : X.1 ≤ (mR M).cells ∧ X.2.1 ≤ (mR M).slots) (d : decode (mB M) pc = .ok (.invokestatic index, 3)) (k : Ev X M (pc + 3) L (st) h1) : Ev X M pc L st0 h :=
  Ev.callNv hM hs0 g hnw hst hini hd hw hz hR hrs hf d (fun h2 q => by subst q; exact k)
theorem sw_nI {x : Int32} {j : Nat} (c : x = nI j) (hj : j < 2 ^ 31) : x.toInt = (j : Int) := by
  rw [c]; exact nI_toInt hj
theorem Ev.tableK {dflt hi : Int} {offs : Array Int} {len : Nat} {x : Int32} {off : Int} {tgt : Nat} (j : Nat) (c : x = nI j) (hj : j < 2 ^ 31) (d : decode (mB M) pc = .ok (.tableswitch dflt 0 hi offs, len)) (h2 : (j : Int) ≤ hi) (ho : offs[j]? = some off) (ht : (pc : Int) + off = (tgt : Int)) (k : Ev X M tgt L st h) : Ev X M pc L (.int x :: st) h := by
  have e := sw_nI c hj
  refine Ev.tableIn d (by rw [e]; omega) (by rw [e]; omega) (off := off) ?_ ht k
  rw [e]
  have : ((j : Int) - 0).toNat = j := by omega
  rw [this]; exact ho
theorem Ev.tableD {dflt hi : Int} {offs : Array Int} {len : Nat} {x : Int32} {tgt : Nat} (n : Nat) (hn : n < 2 ^ 31) (c : ∀ j, j < n → ¬ x = nI j) (hh : hi = (n : Int) - 1) (d : decode (mB M) pc = .ok (.tableswitch dflt 0 hi offs, len)) (ht : (pc : Int) + dflt = (tgt : Int)) (k : Ev X M tgt L st h) : Ev X M pc L (.int x :: st) h := by
  refine Ev.tableOut d ?_ ht k
  by_cases h0 : x.toInt < 0
  · exact Or.inl h0
  · refine Or.inr ?_
    have h1 : ¬ x < 0 := fun q => h0 (by simpa using Int32.lt_iff_toInt_lt.mp q)
    obtain ⟨j, hj, e⟩ := nI_of h1
    have h3 : ¬ j < n := fun q => c j q e
    rw [sw_nI e hj, hh]
    omega
end EvFix
/-- an array place, or a field's, set -/
abbrev stA (g : Hg) (c i : Nat) (x : Int32) : Hg := setA g c (upd (g c) i x)
theorem nI_nn {x : Int32} (h : ¬ x < 0) : ¬ x < nI 0 := h
theorem Ev_drop {X : Xt} {M : Mi} {pc : Nat} {L : List (Option Value)} {st : List Value} {h : Hp} (j : Nat) (k : Ev X M pc (L.set j none) st h) : Ev X M pc L st h := by
  refine Ev_forget (fun i v hv => ?_) k
  rw [List.getElem?_set] at hv
  split at hv
  · split at hv <;> cases hv
  · exact hv
theorem ntr {b : Bool} (h : b = false) : ¬ b = true := by rw [h]; exact Bool.false_ne_true
theorem ckB {α : Type} {b : Bool} {x : Option α} {r : α} (h : (if b = true then x else none) = some r) : b = true ∧ x = some r := by
  cases b with
  | false => cases h
  | true => exact ⟨rfl, h⟩
/-- an index in its row -/
def inb (i : Int32) (n : Nat) : Bool := decide (0 ≤ i.toInt) && decide (i.toInt < (n : Int))
theorem inb_in {i : Int32} {n : Nat} (h : inb i n = true) : vp_in i n := by
  simp only [inb, Bool.and_eq_true, decide_eq_true_eq] at h
  exact vp_in_iff.mpr h
theorem inb_nI {i n : Nat} (h : i < n) (hn : n < 2 ^ 31) : inb (nI i) n = true := by
  have e : (nI i).toInt = (i : Int) := nI_toInt (by omega)
  simp only [inb, e, Bool.and_eq_true, decide_eq_true_eq]
  omega
def nz (y : Int32) : Bool := !(decide (y = 0))
theorem nz_ne {y : Int32} (h : nz y = true) : ¬ y = 0 := by simpa [nz] using h
def nzL (y : Int64) : Bool := !(decide (y = 0))
theorem nzL_ne {y : Int64} (h : nzL y = true) : ¬ y = 0 := by simpa [nzL] using h
def isb (x : Int32) : Bool := decide (x = nI 0) || decide (x = nI 1)
theorem isb_or {x : Int32} (h : isb x = true) : x = nI 0 ∨ x = nI 1 := by simpa [isb] using h
theorem isb_nar {x : Int32} (h : isb x = true) : narrow .boolean (.int x) = .int x := by
  rcases isb_or h with rfl | rfl <;> rfl
theorem isb_eq {x : Int32} (h : isb x = true) : x = bI (x == nI 1) := by
  rcases isb_or h with rfl | rfl <;> decide
/-- what arraycopy asks -/
def cpo (sp dp n : Int32) (n0 n1 : Nat) : Bool := decide (¬ sp < 0) && (decide (¬ dp < 0) && (decide (¬ n < 0) && (decide (sp.toNatClampNeg + n.toNatClampNeg ≤ n0) && decide (dp.toNatClampNeg + n.toNatClampNeg ≤ n1))))
theorem cpo_all {sp dp n : Int32} {n0 n1 : Nat} (h : cpo sp dp n n0 n1 = true) : ¬ sp < 0 ∧ ¬ dp < 0 ∧ ¬ n < 0 ∧ sp.toNatClampNeg + n.toNatClampNeg ≤ n0 ∧ dp.toNatClampNeg + n.toNatClampNeg ≤ n1 := by
  simpa only [cpo, Bool.and_eq_true, decide_eq_true_eq] using h
theorem cpo_1 {sp dp n : Int32} {n0 n1 : Nat} (h : cpo sp dp n n0 n1 = true) : ¬ sp < 0 := (cpo_all h).1
theorem cpo_2 {sp dp n : Int32} {n0 n1 : Nat} (h : cpo sp dp n n0 n1 = true) : ¬ dp < 0 := (cpo_all h).2.1
theorem cpo_3 {sp dp n : Int32} {n0 n1 : Nat} (h : cpo sp dp n n0 n1 = true) : ¬ n < 0 := (cpo_all h).2.2.1
theorem cpo_4 {sp dp n : Int32} {n0 n1 : Nat} (h : cpo sp dp n n0 n1 = true) : sp.toNatClampNeg + n.toNatClampNeg ≤ n0 := (cpo_all h).2.2.2.1
theorem cpo_5 {sp dp n : Int32} {n0 n1 : Nat} (h : cpo sp dp n n0 n1 = true) : dp.toNatClampNeg + n.toNatClampNeg ≤ n1 := (cpo_all h).2.2.2.2
theorem ifp {α : Type} {c : Prop} [Decidable c] {a b r : α} (hr : (if c then a else b) = r) (h : c) : a = r := by rw [if_pos h] at hr; exact hr
theorem ifn {α : Type} {c : Prop} [Decidable c] {a b r : α} (hr : (if c then a else b) = r) (h : ¬ c) : b = r := by rw [if_neg h] at hr; exact hr
