set_option maxRecDepth 100000 in
set_option maxHeartbeats 4000000 in
theorem iX4_init (l : Launch) (D : va_G) (cI cZ : ClassId) (h0 p1 b0 b1 b2 b3 b4 b5 b6 : Nat) (sz : Nat) : Met l yX4_init wsX4_init ({ frames := 3, cells := 1, slots := 27, locals := 63 }) (va_Pc [.ref h0, .ref p1] (fun U => U.heap.size = sz ∧ va_P D vwCl [(h0, .inr (4, [.null, .null])), (p1, .inr (1, [.ref b0, .ref b1, .ref b2, .ref b3, .ref b4, .ref b5, .ref b6, .int 0, .int 0, .int 0])), (b0, .inl (cI, 12, .inl (fun _ => 0))), (b1, .inl (cI, 6, .inl (fun _ => 0))), (b2, .inl (cI, 5, .inl (fun _ => 0))), (b3, .inl (cI, 5, .inl (fun _ => 0))), (b4, .inl (cI, 5, .inl (fun _ => 0))), (b5, .inl (cI, 4, .inl (fun _ => 0))), (b6, .inl (cI, 4, .inl (fun _ => 0)))] U.heap ∧ va_K D vwCl [(cI, .int), (cZ, .boolean)] U ∧ KN U ∧ va_D (fun _ => True) [(h0, .inr (4, [.null, .null])), (p1, .inr (1, [.ref b0, .ref b1, .ref b2, .ref b3, .ref b4, .ref b5, .ref b6, .int 0, .int 0, .int 0])), (b0, .inl (cI, 12, .inl (fun _ => 0))), (b1, .inl (cI, 6, .inl (fun _ => 0))), (b2, .inl (cI, 5, .inl (fun _ => 0))), (b3, .inl (cI, 5, .inl (fun _ => 0))), (b4, .inl (cI, 5, .inl (fun _ => 0))), (b5, .inl (cI, 4, .inl (fun _ => 0))), (b6, .inl (cI, 4, .inl (fun _ => 0)))])) (va_Qv (fun (_ : Nat → Nat) => True) (fun a t => va_P D vwCl [(h0, .inr (4, [.ref p1, .ref (a 0)])), (p1, .inr (1, [.ref b0, .ref b1, .ref b2, .ref b3, .ref b4, .ref b5, .ref b6, .int 0, .int 0, .int 0])), (b0, .inl (cI, 12, .inl (fun _ => 0))), (b1, .inl (cI, 6, .inl (fun _ => 0))), (b2, .inl (cI, 5, .inl (fun _ => 0))), (b3, .inl (cI, 5, .inl (fun _ => 0))), (b4, .inl (cI, 5, .inl (fun _ => 0))), (b5, .inl (cI, 4, .inl (fun _ => 0))), (b6, .inl (cI, 4, .inl (fun _ => 0))), ((a 0), .inl (cI, 27, .inl (r0 18)))] t.heap ∧ va_D (va_A [(h0, .inr (4, [.null, .null])), (p1, .inr (1, [.ref b0, .ref b1, .ref b2, .ref b3, .ref b4, .ref b5, .ref b6, .int 0, .int 0, .int 0])), (b0, .inl (cI, 12, .inl (fun _ => 0))), (b1, .inl (cI, 6, .inl (fun _ => 0))), (b2, .inl (cI, 5, .inl (fun _ => 0))), (b3, .inl (cI, 5, .inl (fun _ => 0))), (b4, .inl (cI, 5, .inl (fun _ => 0))), (b5, .inl (cI, 4, .inl (fun _ => 0))), (b6, .inl (cI, 4, .inl (fun _ => 0)))] sz) [(h0, .inr (4, [.ref p1, .ref (a 0)])), (p1, .inr (1, [.ref b0, .ref b1, .ref b2, .ref b3, .ref b4, .ref b5, .ref b6, .int 0, .int 0, .int 0])), (b0, .inl (cI, 12, .inl (fun _ => 0))), (b1, .inl (cI, 6, .inl (fun _ => 0))), (b2, .inl (cI, 5, .inl (fun _ => 0))), (b3, .inl (cI, 5, .inl (fun _ => 0))), (b4, .inl (cI, 5, .inl (fun _ => 0))), (b5, .inl (cI, 4, .inl (fun _ => 0))), (b6, .inl (cI, 4, .inl (fun _ => 0))), ((a 0), .inl (cI, 27, .inl (r0 18)))]) (va_A [(h0, .inr (4, [.null, .null])), (p1, .inr (1, [.ref b0, .ref b1, .ref b2, .ref b3, .ref b4, .ref b5, .ref b6, .int 0, .int 0, .int 0])), (b0, .inl (cI, 12, .inl (fun _ => 0))), (b1, .inl (cI, 6, .inl (fun _ => 0))), (b2, .inl (cI, 5, .inl (fun _ => 0))), (b3, .inl (cI, 5, .inl (fun _ => 0))), (b4, .inl (cI, 5, .inl (fun _ => 0))), (b5, .inl (cI, 4, .inl (fun _ => 0))), (b6, .inl (cI, 4, .inl (fun _ => 0)))] sz)) 1 27 (va_A [(h0, .inr (4, [.null, .null])), (p1, .inr (1, [.ref b0, .ref b1, .ref b2, .ref b3, .ref b4, .ref b5, .ref b6, .int 0, .int 0, .int 0])), (b0, .inl (cI, 12, .inl (fun _ => 0))), (b1, .inl (cI, 6, .inl (fun _ => 0))), (b2, .inl (cI, 5, .inl (fun _ => 0))), (b3, .inl (cI, 5, .inl (fun _ => 0))), (b4, .inl (cI, 5, .inl (fun _ => 0))), (b5, .inl (cI, 4, .inl (fun _ => 0))), (b6, .inl (cI, 4, .inl (fun _ => 0)))] sz) := by
  refine Met.ofW (cc := cX4_init) (maxL := 2) (ret := none) (by decide +kernel) rfl ?_
  intro p e s m args below meth c s₁ B hml hv
  obtain ⟨rfl, hsz, hP, hK, hN, hD0⟩ := hv
  have hx := B.exec
  have hb := B.bytes
  have hr := B.returns
  have hts := atoms_spec (ws := wsX4_init) B.pre
  have hown : s.vm.findClass RX4 = some m.cls := findClass_of_methodNamed B.named
  have hlocks := B.notSynchronized
  have hin : meth.name = "<init>" := (name_of_methodNamed B.named B.method).1
  subst hsz
  have hD := hD0.self (sz := s.heap.size)
  generalize hAe : va_A [(h0, .inr (4, [.null, .null])), (p1, .inr (1, [.ref b0, .ref b1, .ref b2, .ref b3, .ref b4, .ref b5, .ref b6, .int 0, .int 0, .int 0])), (b0, .inl (cI, 12, .inl (fun _ => 0))), (b1, .inl (cI, 6, .inl (fun _ => 0))), (b2, .inl (cI, 5, .inl (fun _ => 0))), (b3, .inl (cI, 5, .inl (fun _ => 0))), (b4, .inl (cI, 5, .inl (fun _ => 0))), (b5, .inl (cI, 4, .inl (fun _ => 0))), (b6, .inl (cI, 4, .inl (fun _ => 0)))] s.heap.size = A at hD ⊢
  have hA : ∀ q : Nat, s.heap.size ≤ q → A q := fun q h => by rw [← hAe]; exact Or.inr h
  have hS : va_S A s.heap s.heap [] := va_S.rf
  have hP : va_P D vwCl [(h0, .inr (4, [.null, .null])), (p1, .inr (1, [.ref b0, .ref b1, .ref b2, .ref b3, .ref b4, .ref b5, .ref b6, .int 0, .int 0, .int 0])), (b0, .inl (cI, 12, .inl (fun _ => 0))), (b1, .inl (cI, 6, .inl (fun _ => 0))), (b2, .inl (cI, 5, .inl (fun _ => 0))), (b3, .inl (cI, 5, .inl (fun _ => 0))), (b4, .inl (cI, 5, .inl (fun _ => 0))), (b5, .inl (cI, 4, .inl (fun _ => 0))), (b6, .inl (cI, 4, .inl (fun _ => 0)))] s.heap := hP
  have hl := lv_entry ([.ref h0, .ref p1]) (n := 2) (Nat.le_of_ble_eq_true rfl)
  rw [lg_entry_eq]
  generalize (lg_sl ([.ref h0, .ref p1]) ++ List.replicate (2 - (lg_sl ([.ref h0, .ref p1])).length) Slot.unset).toArray = ls at hl ⊢
  have hl : lv_has ls 2 [(0, .ref h0), (1, .ref p1)] := hl
  refine lv_aload_n hx hb dX4_init_0 rfl (lv_at hl 0 rfl) ?_
  refine W.objInit hx hb hown (hts (.methodLink RX4 3 objectInit) (by decide +kernel)) (hts (.instanceMethod objectInit) (by decide +kernel)) (hts (.code objectInit ⟨#[0xb1]⟩ 1 none) (List.mem_of_getElem? (i := 3) rfl)) rfl (by rw [hml]; exact hl.1) rfl dX4_init_1 (Nat.le_of_ble_eq_true rfl) (Nat.le_of_ble_eq_true rfl) ?_
  refine W.eq (g2 := F0 m 4 ls []) rfl ?_
  refine lv_aload_n hx hb dX4_init_4 rfl (lv_at hl 0 rfl) ?_
  refine lv_bipush (v := 27) hx hb dX4_init_5 (by decide) ?_
  refine va_newa (atype := .int) (ty := .int) (n := 27) (N' := 27) (a0 := (27, .inl (fun _ => 0))) hx hb (hts (.arrayClass .int) (by decide +kernel)) rfl hK hP hD hS hA (fun cA => vp_cell_i cA 27 (fun _ => 0)) (by decide) (by decide) (Nat.le_of_ble_eq_true rfl) (Nat.le_of_ble_eq_true rfl) (Nat.le_of_ble_eq_true rfl) dX4_init_7 (fun q1 cA H hK1 hP hD hS => ?_)
  obtain rfl : cI = cA := (ca_oneI hK hK1).symm
  clear hK1
  have hP : va_P D vwCl [(h0, .inr (4, [.null, .null])), (p1, .inr (1, [.ref b0, .ref b1, .ref b2, .ref b3, .ref b4, .ref b5, .ref b6, .int 0, .int 0, .int 0])), (b0, .inl (cI, 12, .inl (fun _ => 0))), (b1, .inl (cI, 6, .inl (fun _ => 0))), (b2, .inl (cI, 5, .inl (fun _ => 0))), (b3, .inl (cI, 5, .inl (fun _ => 0))), (b4, .inl (cI, 5, .inl (fun _ => 0))), (b5, .inl (cI, 4, .inl (fun _ => 0))), (b6, .inl (cI, 4, .inl (fun _ => 0))), (q1, .inl (cI, 27, .inl (fun _ => 0)))] H := hP
  have hD : va_D A [(h0, .inr (4, [.null, .null])), (p1, .inr (1, [.ref b0, .ref b1, .ref b2, .ref b3, .ref b4, .ref b5, .ref b6, .int 0, .int 0, .int 0])), (b0, .inl (cI, 12, .inl (fun _ => 0))), (b1, .inl (cI, 6, .inl (fun _ => 0))), (b2, .inl (cI, 5, .inl (fun _ => 0))), (b3, .inl (cI, 5, .inl (fun _ => 0))), (b4, .inl (cI, 5, .inl (fun _ => 0))), (b5, .inl (cI, 4, .inl (fun _ => 0))), (b6, .inl (cI, 4, .inl (fun _ => 0))), (q1, .inl (cI, 27, .inl (fun _ => 0)))] := hD
  refine va_putF (D := D) (ci := 4) (v := .ref q1) (ty := .array .int) (C := RX4) (T := TX4) (N := 2) hx hb hts inX4_init tyX4 tyX4_ok nmX4 hown hK hP hD hS 0 rfl rfl 1 (by decide) (hts (.fieldLink RX4 11 "MudBoards$Shore" "row" "[I") (by decide +kernel)) (fun _ h9 => h9) rfl hin rfl (by decide +kernel) rfl rfl (Nat.le_of_ble_eq_true rfl) dX4_init_9 (fun H locs hP hD hS => ?_)
  have hP : va_P D vwCl [(h0, .inr (4, [.null, .ref q1])), (p1, .inr (1, [.ref b0, .ref b1, .ref b2, .ref b3, .ref b4, .ref b5, .ref b6, .int 0, .int 0, .int 0])), (b0, .inl (cI, 12, .inl (fun _ => 0))), (b1, .inl (cI, 6, .inl (fun _ => 0))), (b2, .inl (cI, 5, .inl (fun _ => 0))), (b3, .inl (cI, 5, .inl (fun _ => 0))), (b4, .inl (cI, 5, .inl (fun _ => 0))), (b5, .inl (cI, 4, .inl (fun _ => 0))), (b6, .inl (cI, 4, .inl (fun _ => 0))), (q1, .inl (cI, 27, .inl (fun _ => 0)))] H := hP
  have hD : va_D A [(h0, .inr (4, [.null, .ref q1])), (p1, .inr (1, [.ref b0, .ref b1, .ref b2, .ref b3, .ref b4, .ref b5, .ref b6, .int 0, .int 0, .int 0])), (b0, .inl (cI, 12, .inl (fun _ => 0))), (b1, .inl (cI, 6, .inl (fun _ => 0))), (b2, .inl (cI, 5, .inl (fun _ => 0))), (b3, .inl (cI, 5, .inl (fun _ => 0))), (b4, .inl (cI, 5, .inl (fun _ => 0))), (b5, .inl (cI, 4, .inl (fun _ => 0))), (b6, .inl (cI, 4, .inl (fun _ => 0))), (q1, .inl (cI, 27, .inl (fun _ => 0)))] := hD
  refine lv_aload_n hx hb dX4_init_12 rfl (lv_at hl 0 rfl) ?_
  refine lv_aload_n hx hb dX4_init_13 rfl (lv_at hl 1 rfl) ?_
  refine va_putF (D := D) (ci := 4) (v := .ref p1) (ty := .object "MudBoards$Flat") (C := RX4) (T := TX4) (N := 2) hx hb hts inX4_init tyX4 tyX4_ok nmX4 hown hK hP hD hS 0 rfl rfl 0 (by decide) (hts (.fieldLink RX4 15 "MudBoards$Shore" "ground" "LMudBoards$Flat;") (by decide +kernel)) (fun _ h9 => h9) rfl hin rfl (by decide +kernel) rfl rfl (Nat.le_of_ble_eq_true rfl) dX4_init_14 (fun H locs hP hD hS => ?_)
  have hP : va_P D vwCl [(h0, .inr (4, [.ref p1, .ref q1])), (p1, .inr (1, [.ref b0, .ref b1, .ref b2, .ref b3, .ref b4, .ref b5, .ref b6, .int 0, .int 0, .int 0])), (b0, .inl (cI, 12, .inl (fun _ => 0))), (b1, .inl (cI, 6, .inl (fun _ => 0))), (b2, .inl (cI, 5, .inl (fun _ => 0))), (b3, .inl (cI, 5, .inl (fun _ => 0))), (b4, .inl (cI, 5, .inl (fun _ => 0))), (b5, .inl (cI, 4, .inl (fun _ => 0))), (b6, .inl (cI, 4, .inl (fun _ => 0))), (q1, .inl (cI, 27, .inl (fun _ => 0)))] H := hP
  have hD : va_D A [(h0, .inr (4, [.ref p1, .ref q1])), (p1, .inr (1, [.ref b0, .ref b1, .ref b2, .ref b3, .ref b4, .ref b5, .ref b6, .int 0, .int 0, .int 0])), (b0, .inl (cI, 12, .inl (fun _ => 0))), (b1, .inl (cI, 6, .inl (fun _ => 0))), (b2, .inl (cI, 5, .inl (fun _ => 0))), (b3, .inl (cI, 5, .inl (fun _ => 0))), (b4, .inl (cI, 5, .inl (fun _ => 0))), (b5, .inl (cI, 4, .inl (fun _ => 0))), (b6, .inl (cI, 4, .inl (fun _ => 0))), (q1, .inl (cI, 27, .inl (fun _ => 0)))] := hD
  refine lv_aload_n hx hb dX4_init_17 rfl (lv_at hl 0 rfl) ?_
  obtain ⟨G, hG⟩ : ∃ G : Gx, G = (D, (fun k => match k with | 2 => p1 | 11 => b0 | 12 => b1 | 13 => b2 | 14 => b3 | 15 => b4 | 16 => b5 | 17 => b6 | 3 => h0 | 18 => q1 | _ => 0), cI, cZ) := ⟨_, rfl⟩
  have hPz : va_P G.1 vwCl (zl G ((fun _ _ => 0, 0, fun _ _ => 0, 0) : Hp)) H := by rw [hG]; exact hP.sub [1, 2, 3, 4, 5, 6, 7, 8, 0, 9] rfl
  have hDz0 : va_D A (zl G ((fun _ _ => 0, 0, fun _ _ => 0, 0) : Hp)) := by rw [hG]; exact hD.sub [1, 2, 3, 4, 5, 6, 7, 8, 0, 9] (by decide) rfl
  have hDz := ZD_of hDz0
  have hKz : KK G s := by rw [hG]; exact ⟨hK, hN⟩
  have hFc : ∀ q, va_A (zl G ((fun _ _ => 0, 0, fun _ _ => 0, 0) : Hp)) H.size q → A q := by
    intro q hq
    rcases hq with ⟨k2, e2, hk2⟩ | hq
    · exact hDz0.2 k2 _ hk2
    · exact hA q (Nat.le_trans hS.1 hq)
  have hM1 := zX4_startAnew (fun _ _ => 0) 0 (fun _ _ => 0) 0 r0_eq l G H.size
  have hrc := va_recv hK hP (ci := 4) (q0 := 0) rfl rfl
  refine va_callv (va_runV (As := []) (rest := []) ⟨hx, hb, hml, hown, hts⟩ hM1 (cwV 0 hts gX4_init_X4_startAnew rfl rfl rfl hdX4_startAnew ⟨Nat.le_of_ble_eq_true rfl, Nat.le_of_ble_eq_true rfl⟩) ⟨fun a U g mk q => by obtain ⟨q0, q1, qP, qK, qD⟩ := q; exact ⟨q0, q1, qP, KK_calling qK, qD⟩, hrc, fun U hU hW => ⟨by rw [hG]; rfl, by rw [hU], by rw [hU]; exact hPz, KK_warm hW hKz, ⟨hDz.1, fun _ _ => trivial⟩⟩⟩ rfl rfl hl.1 rfl (lv_room (Nat.le_of_ble_eq_true rfl)) dX4_init_18 ⟨Nat.le_of_ble_eq_true rfl, Nat.le_of_ble_eq_true rfl⟩) hS (fun q _ h => hFc q h) hFc (fun u t H1 locs ht hvm hw hB hz1 hk1 hS => ?_)
  subst hw
  rw [ht] at hB
  have hDz2 := ZD_zl hDz (r0, (0 : Int64), (fun _ _ => 0 : Hg), (0 : Int64))
  generalize H1 = H at hB hS ⊢
  have hP : va_P D vwCl [(h0, .inr (4, [.ref p1, .ref q1])), (p1, .inr (1, [.ref b0, .ref b1, .ref b2, .ref b3, .ref b4, .ref b5, .ref b6, .int 0, .int 0, .int 0])), (b0, .inl (cI, 12, .inl (fun _ => 0))), (b1, .inl (cI, 6, .inl (fun _ => 0))), (b2, .inl (cI, 5, .inl (fun _ => 0))), (b3, .inl (cI, 5, .inl (fun _ => 0))), (b4, .inl (cI, 5, .inl (fun _ => 0))), (b5, .inl (cI, 4, .inl (fun _ => 0))), (b6, .inl (cI, 4, .inl (fun _ => 0))), (q1, .inl (cI, 27, .inl (r0 18)))] H := by
    rw [hG] at hB
    exact (zP hB).sub [8, 0, 1, 2, 3, 4, 5, 6, 7, 9] rfl
  have hD : va_D A [(h0, .inr (4, [.ref p1, .ref q1])), (p1, .inr (1, [.ref b0, .ref b1, .ref b2, .ref b3, .ref b4, .ref b5, .ref b6, .int 0, .int 0, .int 0])), (b0, .inl (cI, 12, .inl (fun _ => 0))), (b1, .inl (cI, 6, .inl (fun _ => 0))), (b2, .inl (cI, 5, .inl (fun _ => 0))), (b3, .inl (cI, 5, .inl (fun _ => 0))), (b4, .inl (cI, 5, .inl (fun _ => 0))), (b5, .inl (cI, 4, .inl (fun _ => 0))), (b6, .inl (cI, 4, .inl (fun _ => 0))), (q1, .inl (cI, 27, .inl (r0 18)))] := by
    rw [hG] at hDz2
    exact (zDv hDz2).sub [8, 0, 1, 2, 3, 4, 5, 6, 7, 9] (by decide) rfl
  exact W.vret hx hb hr (fun t ht hW => ⟨⟨(fun k => match k with | 0 => q1 | _ => 0), rfl, trivial, by rw [ht]; exact hP, hD⟩, hS.F ht⟩) hS.2.2 dX4_init_21
