/-! X0_size -/
def sX0_size (g : Hg) : Int32 := (g 5 1)
set_option maxRecDepth 20000 in
set_option maxHeartbeats 1000000 in
theorem kX0_size (g : Hg) (q : Int64) (g2 : Hg) (q2 : Int64) : CtI MX0_size [.ref 5] (g, q, g2, q2) (fun x h' => x = (sX0_size g) ∧ h' = (g, q, g2, q2)) := by
  generalize hr : sX0_size g = r
  unfold sX0_size at hr
  refine CtI_L 0 rfl (by decide +kernel) rfl (Nat.le_of_ble_eq_true rfl) ?_
  show Ev _ _ 0 [some (.ref 5)] [] _
  refine Ev.aload_n (pc := 0) dX0_size_0 rfl ?_
  refine Ev.get (pc := 1) (C0 := RX0) (T := TX0) (N := 2) (fl_5_1 _ _ _ _) rfl inX0_size (by decide) lkX0_size_17 dX0_size_1 ?_
  subst hr
  exact Ev.iret rfl rfl dX0_size_4 ⟨rfl, rfl⟩
/-! X0_forgetAll -/
def sX0_forgetAll (g : Hg) : Hg := (stA g 5 1 (nI 0))
set_option maxRecDepth 20000 in
set_option maxHeartbeats 1000000 in
theorem kX0_forgetAll (g : Hg) (q : Int64) (g2 : Hg) (q2 : Int64) : CtV MX0_forgetAll [.ref 5] (g, q, g2, q2) (fun h' => h' = ((sX0_forgetAll g), q, g2, q2)) := by
  generalize hr : sX0_forgetAll g = r
  unfold sX0_forgetAll at hr
  refine CtV_L 0 rfl (by decide +kernel) rfl (Nat.le_of_ble_eq_true rfl) ?_
  show Ev _ _ 0 [some (.ref 5)] [] _
  refine Ev.aload_n (pc := 0) dX0_forgetAll_0 rfl ?_
  refine Ev.iconst (pc := 1) (v := nI 0) dX0_forgetAll_1 (by decide) ?_
  refine Ev.put (pc := 2) (C0 := RX0) (T := TX0) (N := 2) (ty := .int) (pu_5_1 _ _ _ _ _) rfl inX0_forgetAll tyX0_ok nmX0 (by decide) lkX0_forgetAll_17 rfl (by decide +kernel) (fun _ => rfl) (fun _ => rfl) dX0_forgetAll_2 ?_
  subst hr
  exact Ev.vret rfl dX0_forgetAll_5 rfl
/-! X8_within -/
def sX8_within (a1 : Int32) (a2 : Int32) (a3 : Int32) : Bool := if a1 < a2 then (false) else (if a3 < a1 then (false) else (true))
set_option maxRecDepth 20000 in
set_option maxHeartbeats 1000000 in
theorem kX8_within (g : Hg) (q : Int64) (g2 : Hg) (q2 : Int64) (a1 : Int32) (a2 : Int32) (a3 : Int32) : CtI MX8_within [.int a1, .int a2, .int a3] (g, q, g2, q2) (fun x h' => x = bI ((sX8_within a1 a2 a3)) ∧ h' = (g, q, g2, q2)) := by
  generalize hr : sX8_within a1 a2 a3 = r
  unfold sX8_within at hr
  refine CtI_L 0 rfl (by decide +kernel) rfl (Nat.le_of_ble_eq_true rfl) ?_
  show Ev _ _ 0 [some (.int a1), some (.int a2), some (.int a3)] [] _
  refine Ev.iload_n (pc := 0) dX8_within_0 rfl ?_
  refine Ev.iload_n (pc := 1) dX8_within_1 rfl ?_
  refine Ev.icmplt (pc := 2) (tgt := 14) dX8_within_2 (by decide) (fun c_1 => ?_) (fun c_1 => ?_)
  · have hr := ifp hr c_1
    refine Ev.iconst (pc := 14) (v := nI 0) dX8_within_14 (by decide) ?_
    subst hr
    exact Ev.iret rfl rfl dX8_within_15 ⟨rfl, rfl⟩
  · have hr := ifn hr c_1
    refine Ev.iload_n (pc := 5) dX8_within_5 rfl ?_
    refine Ev.iload_n (pc := 6) dX8_within_6 rfl ?_
    refine Ev.icmpgt (pc := 7) (tgt := 14) dX8_within_7 (by decide) (fun c_2 => ?_) (fun c_2 => ?_)
    · have hr := ifp hr c_2
      refine Ev.iconst (pc := 14) (v := nI 0) dX8_within_14 (by decide) ?_
      subst hr
      exact Ev.iret rfl rfl dX8_within_15 ⟨rfl, rfl⟩
    · have hr := ifn hr c_2
      refine Ev.iconst (pc := 10) (v := nI 1) dX8_within_10 (by decide) ?_
      refine Ev.goto (pc := 11) (tgt := 15) dX8_within_11 (by decide) ?_
      subst hr
      exact Ev.iret rfl rfl dX8_within_15 ⟨rfl, rfl⟩
/-! X4_saveTo -/
def sX4_saveTo (g : Hg) (c n : Nat) (a2 : Int32) : Option (Hg) := if (sX8_within a2 (nI 0) ((nI n) - (nI 27))) = true then (if cpo (nI 0) a2 (nI 27) 27 n = true then (some (setA g c (va_cpy (g 18) (g c) (Int32.toNatClampNeg (nI 0)) (Int32.toNatClampNeg a2) (Int32.toNatClampNeg (nI 27))))) else none) else (some g)
set_option maxRecDepth 20000 in
set_option maxHeartbeats 1000000 in
theorem kX4_saveTo (g : Hg) (q : Int64) (g2 : Hg) (q2 : Int64) {c n : Nat} (hc : (c = 20 ∧ n = 378) ∨ (c = 21 ∧ n = 54)) (a2 : Int32) {r : Hg} (hr : sX4_saveTo g c n a2 = some r) : CtV MX4_saveTo [.ref 3, .ref c, .int a2] (g, q, g2, q2) (fun h' => h' = (r, q, g2, q2)) := by
  unfold sX4_saveTo at hr
  refine CtV_L 0 rfl (by decide +kernel) rfl (Nat.le_of_ble_eq_true rfl) ?_
  show Ev _ _ 0 [some (.ref 3), some (.ref c), some (.int a2)] [] _
  refine Ev.iload_n (pc := 0) dX4_saveTo_0 rfl ?_
  refine Ev.iconst (pc := 1) (v := nI 0) dX4_saveTo_1 (by decide) ?_
  refine Ev.aload_n (pc := 2) dX4_saveTo_2 rfl ?_
  refine Ev.alen (pc := 3) (ar_c hc _ _ _ _) dX4_saveTo_3 ?_
  refine Ev.bipush (pc := 4) (v := nI 27) dX4_saveTo_4 (by decide) ?_
  refine Ev.isub (pc := 6) dX4_saveTo_6 ?_
  refine Ev.cNi (pc := 7) (As := [.int _, .int _, .int _]) (kX8_within _ _ _ _ _ _ _) rfl gX4_saveTo_X8_within_n37 (by decide +kernel) stX4_saveTo_X8_within iniX4_saveTo_X8_within hdX8_within rfl ⟨rfl, rfl⟩ ⟨Nat.le_of_ble_eq_true rfl, Nat.le_of_ble_eq_true rfl⟩ (Nat.le_of_ble_eq_true rfl) ⟨Nat.le_of_ble_eq_true rfl, Nat.le_of_ble_eq_true rfl⟩ dX4_saveTo_7 ?_
  refine Ev.ifeqB (pc := 10) (tgt := 25) dX4_saveTo_10 (by decide) (fun c_1 => ?_) (fun c_1 => ?_)
  · have hr := ifn hr (ntr c_1)
    cases hr
    exact Ev.vret rfl dX4_saveTo_25 rfl
  · have hr := ifp hr c_1
    refine Ev.aload_n (pc := 13) dX4_saveTo_13 rfl ?_
    refine Ev.get (pc := 14) (C0 := RX4) (T := TX4) (N := 2) (fl_3_1 _ _ _ _) rfl inX4_saveTo (by decide) lkX4_saveTo_11 dX4_saveTo_14 ?_
    refine Ev.iconst (pc := 17) (v := nI 0) dX4_saveTo_17 (by decide) ?_
    refine Ev.aload_n (pc := 18) dX4_saveTo_18 rfl ?_
    refine Ev.iload_n (pc := 19) dX4_saveTo_19 rfl ?_
    refine Ev.bipush (pc := 20) (v := nI 27) dX4_saveTo_20 (by decide) ?_
    obtain ⟨c_2, hr⟩ := ckB hr
    refine Ev.copy (pc := 22) (ar_18 _ _ _ _) (ar_c hc _ _ _ _) (cpo_1 c_2) (cpo_2 c_2) (cpo_3 c_2) (cpo_4 c_2) (cpo_5 c_2) (se_c hc _ _ _ _ _) (by decide +kernel) (by decide +kernel) (by decide +kernel) (by decide +kernel) (by decide) (Nat.le_of_ble_eq_true rfl) dX4_saveTo_22 ?_
    cases hr
    exact Ev.vret rfl dX4_saveTo_25 rfl
/-! X0_remember -/
def sX0_remember (g : Hg) : Option (Hg) := if (g 5 1) < (nI 14) then ((sX4_saveTo g 20 378 ((g 5 1) * (nI 27))).bind fun x_1 => (some (stA x_1 5 1 ((x_1 5 1) + (nI 1))))) else (if cpo (nI 27) (nI 0) (nI 351) 378 378 = true then ((sX4_saveTo (stA (setA g 20 (va_cpy (g 20) (g 20) (Int32.toNatClampNeg (nI 27)) (Int32.toNatClampNeg (nI 0)) (Int32.toNatClampNeg (nI 351)))) 5 1 (nI 13)) 20 378 (((stA (setA g 20 (va_cpy (g 20) (g 20) (Int32.toNatClampNeg (nI 27)) (Int32.toNatClampNeg (nI 0)) (Int32.toNatClampNeg (nI 351)))) 5 1 (nI 13)) 5 1) * (nI 27))).bind fun x_2 => (some (stA x_2 5 1 ((x_2 5 1) + (nI 1))))) else none)
set_option maxRecDepth 20000 in
set_option maxHeartbeats 1000000 in
theorem kX0_remember (g : Hg) (q : Int64) (g2 : Hg) (q2 : Int64) {r : Hg} (hr : sX0_remember g = some r) : CtV MX0_remember [.ref 5, .ref 3] (g, q, g2, q2) (fun h' => h' = (r, q, g2, q2)) := by
  unfold sX0_remember at hr
  refine CtV_L 0 rfl (by decide +kernel) rfl (Nat.le_of_ble_eq_true rfl) ?_
  show Ev _ _ 0 [some (.ref 5), some (.ref 3)] [] _
  refine Ev.aload_n (pc := 0) dX0_remember_0 rfl ?_
  refine Ev.get (pc := 1) (C0 := RX0) (T := TX0) (N := 2) (fl_5_1 _ _ _ _) rfl inX0_remember (by decide) lkX0_remember_17 dX0_remember_1 ?_
  refine Ev.bipush (pc := 4) (v := nI 14) dX0_remember_4 (by decide) ?_
  refine Ev.icmplt (pc := 6) (tgt := 32) dX0_remember_6 (by decide) (fun c_1 => ?_) (fun c_1 => ?_)
  · have hr := ifp hr c_1
    refine Ev.aload_n (pc := 32) dX0_remember_32 rfl ?_
    refine Ev.aload_n (pc := 33) dX0_remember_33 rfl ?_
    refine Ev.get (pc := 34) (C0 := RX0) (T := TX0) (N := 2) (fl_5_0 _ _ _ _) rfl inX0_remember (by decide) lkX0_remember_11 dX0_remember_34 ?_
    refine Ev.aload_n (pc := 37) dX0_remember_37 rfl ?_
    refine Ev.get (pc := 38) (C0 := RX0) (T := TX0) (N := 2) (fl_5_1 _ _ _ _) rfl inX0_remember (by decide) lkX0_remember_17 dX0_remember_38 ?_
    refine Ev.bipush (pc := 41) (v := nI 27) dX0_remember_41 (by decide) ?_
    refine Ev.imul (pc := 43) dX0_remember_43 ?_
    obtain ⟨x_1, hx_1, hr⟩ := Option.bind_eq_some_iff.mp hr
    refine Ev.cVv (pc := 44) (As := [.ref 20, .int _]) (kX4_saveTo _ _ _ _ (Or.inl ⟨rfl, rfl⟩) _ hx_1) rfl rfl (ob_3 _) gX0_remember_X4_saveTo hdX4_saveTo rfl ⟨rfl, rfl⟩ ⟨Nat.le_of_ble_eq_true rfl, Nat.le_of_ble_eq_true rfl⟩ (Nat.le_of_ble_eq_true rfl) ⟨Nat.le_of_ble_eq_true rfl, Nat.le_of_ble_eq_true rfl⟩ dX0_remember_44 ?_
    refine Ev.aload_n (pc := 47) dX0_remember_47 rfl ?_
    refine Ev.dup (pc := 48) dX0_remember_48 rfl ?_
    refine Ev.get (pc := 49) (C0 := RX0) (T := TX0) (N := 2) (fl_5_1 _ _ _ _) rfl inX0_remember (by decide) lkX0_remember_17 dX0_remember_49 ?_
    refine Ev.iconst (pc := 52) (v := nI 1) dX0_remember_52 (by decide) ?_
    refine Ev.iadd (pc := 53) dX0_remember_53 ?_
    refine Ev.put (pc := 54) (C0 := RX0) (T := TX0) (N := 2) (ty := .int) (pu_5_1 _ _ _ _ _) rfl inX0_remember tyX0_ok nmX0 (by decide) lkX0_remember_17 rfl (by decide +kernel) (fun _ => rfl) (fun _ => rfl) dX0_remember_54 ?_
    cases hr
    exact Ev.vret rfl dX0_remember_57 rfl
  · have hr := ifn hr c_1
    refine Ev.aload_n (pc := 9) dX0_remember_9 rfl ?_
    refine Ev.get (pc := 10) (C0 := RX0) (T := TX0) (N := 2) (fl_5_0 _ _ _ _) rfl inX0_remember (by decide) lkX0_remember_11 dX0_remember_10 ?_
    refine Ev.bipush (pc := 13) (v := nI 27) dX0_remember_13 (by decide) ?_
    refine Ev.aload_n (pc := 15) dX0_remember_15 rfl ?_
    refine Ev.get (pc := 16) (C0 := RX0) (T := TX0) (N := 2) (fl_5_0 _ _ _ _) rfl inX0_remember (by decide) lkX0_remember_11 dX0_remember_16 ?_
    refine Ev.iconst (pc := 19) (v := nI 0) dX0_remember_19 (by decide) ?_
    refine Ev.sipush (pc := 20) (v := nI 351) dX0_remember_20 (by decide) ?_
    obtain ⟨c_2, hr⟩ := ckB hr
    refine Ev.copy (pc := 23) (ar_20 _ _ _ _) (ar_20 _ _ _ _) (cpo_1 c_2) (cpo_2 c_2) (cpo_3 c_2) (cpo_4 c_2) (cpo_5 c_2) (se_20 _ _ _ _ _) (by decide +kernel) (by decide +kernel) (by decide +kernel) (by decide +kernel) (by decide) (Nat.le_of_ble_eq_true rfl) dX0_remember_23 ?_
    refine Ev.aload_n (pc := 26) dX0_remember_26 rfl ?_
    refine Ev.bipush (pc := 27) (v := nI 13) dX0_remember_27 (by decide) ?_
    refine Ev.put (pc := 29) (C0 := RX0) (T := TX0) (N := 2) (ty := .int) (pu_5_1 _ _ _ _ _) rfl inX0_remember tyX0_ok nmX0 (by decide) lkX0_remember_17 rfl (by decide +kernel) (fun _ => rfl) (fun _ => rfl) dX0_remember_29 ?_
    refine Ev.aload_n (pc := 32) dX0_remember_32 rfl ?_
    refine Ev.aload_n (pc := 33) dX0_remember_33 rfl ?_
    refine Ev.get (pc := 34) (C0 := RX0) (T := TX0) (N := 2) (fl_5_0 _ _ _ _) rfl inX0_remember (by decide) lkX0_remember_11 dX0_remember_34 ?_
    refine Ev.aload_n (pc := 37) dX0_remember_37 rfl ?_
    refine Ev.get (pc := 38) (C0 := RX0) (T := TX0) (N := 2) (fl_5_1 _ _ _ _) rfl inX0_remember (by decide) lkX0_remember_17 dX0_remember_38 ?_
    refine Ev.bipush (pc := 41) (v := nI 27) dX0_remember_41 (by decide) ?_
    refine Ev.imul (pc := 43) dX0_remember_43 ?_
    obtain ⟨x_2, hx_2, hr⟩ := Option.bind_eq_some_iff.mp hr
    refine Ev.cVv (pc := 44) (As := [.ref 20, .int _]) (kX4_saveTo _ _ _ _ (Or.inl ⟨rfl, rfl⟩) _ hx_2) rfl rfl (ob_3 _) gX0_remember_X4_saveTo hdX4_saveTo rfl ⟨rfl, rfl⟩ ⟨Nat.le_of_ble_eq_true rfl, Nat.le_of_ble_eq_true rfl⟩ (Nat.le_of_ble_eq_true rfl) ⟨Nat.le_of_ble_eq_true rfl, Nat.le_of_ble_eq_true rfl⟩ dX0_remember_44 ?_
    refine Ev.aload_n (pc := 47) dX0_remember_47 rfl ?_
    refine Ev.dup (pc := 48) dX0_remember_48 rfl ?_
    refine Ev.get (pc := 49) (C0 := RX0) (T := TX0) (N := 2) (fl_5_1 _ _ _ _) rfl inX0_remember (by decide) lkX0_remember_17 dX0_remember_49 ?_
    refine Ev.iconst (pc := 52) (v := nI 1) dX0_remember_52 (by decide) ?_
    refine Ev.iadd (pc := 53) dX0_remember_53 ?_
    refine Ev.put (pc := 54) (C0 := RX0) (T := TX0) (N := 2) (ty := .int) (pu_5_1 _ _ _ _ _) rfl inX0_remember tyX0_ok nmX0 (by decide) lkX0_remember_17 rfl (by decide +kernel) (fun _ => rfl) (fun _ => rfl) dX0_remember_54 ?_
    cases hr
    exact Ev.vret rfl dX0_remember_57 rfl
/-! X4_loadFrom -/
def sX4_loadFrom (g : Hg) (c n : Nat) (a2 : Int32) : Option (Hg) := if (sX8_within a2 (nI 0) ((nI n) - (nI 27))) = true then (if cpo a2 (nI 0) (nI 27) n 27 = true then (some (setA g 18 (va_cpy (g c) (g 18) (Int32.toNatClampNeg a2) (Int32.toNatClampNeg (nI 0)) (Int32.toNatClampNeg (nI 27))))) else none) else (some g)
set_option maxRecDepth 20000 in
set_option maxHeartbeats 1000000 in
theorem kX4_loadFrom (g : Hg) (q : Int64) (g2 : Hg) (q2 : Int64) {c n : Nat} (hc : (c = 20 ∧ n = 378) ∨ (c = 21 ∧ n = 54)) (a2 : Int32) {r : Hg} (hr : sX4_loadFrom g c n a2 = some r) : CtV MX4_loadFrom [.ref 3, .ref c, .int a2] (g, q, g2, q2) (fun h' => h' = (r, q, g2, q2)) := by
  unfold sX4_loadFrom at hr
  refine CtV_L 0 rfl (by decide +kernel) rfl (Nat.le_of_ble_eq_true rfl) ?_
  show Ev _ _ 0 [some (.ref 3), some (.ref c), some (.int a2)] [] _
  refine Ev.iload_n (pc := 0) dX4_loadFrom_0 rfl ?_
  refine Ev.iconst (pc := 1) (v := nI 0) dX4_loadFrom_1 (by decide) ?_
  refine Ev.aload_n (pc := 2) dX4_loadFrom_2 rfl ?_
  refine Ev.alen (pc := 3) (ar_c hc _ _ _ _) dX4_loadFrom_3 ?_
  refine Ev.bipush (pc := 4) (v := nI 27) dX4_loadFrom_4 (by decide) ?_
  refine Ev.isub (pc := 6) dX4_loadFrom_6 ?_
  refine Ev.cNi (pc := 7) (As := [.int _, .int _, .int _]) (kX8_within _ _ _ _ _ _ _) rfl gX4_loadFrom_X8_within_n37 (by decide +kernel) stX4_loadFrom_X8_within iniX4_loadFrom_X8_within hdX8_within rfl ⟨rfl, rfl⟩ ⟨Nat.le_of_ble_eq_true rfl, Nat.le_of_ble_eq_true rfl⟩ (Nat.le_of_ble_eq_true rfl) ⟨Nat.le_of_ble_eq_true rfl, Nat.le_of_ble_eq_true rfl⟩ dX4_loadFrom_7 ?_
  refine Ev.ifeqB (pc := 10) (tgt := 25) dX4_loadFrom_10 (by decide) (fun c_1 => ?_) (fun c_1 => ?_)
  · have hr := ifn hr (ntr c_1)
    cases hr
    exact Ev.vret rfl dX4_loadFrom_25 rfl
  · have hr := ifp hr c_1
    refine Ev.aload_n (pc := 13) dX4_loadFrom_13 rfl ?_
    refine Ev.iload_n (pc := 14) dX4_loadFrom_14 rfl ?_
    refine Ev.aload_n (pc := 15) dX4_loadFrom_15 rfl ?_
    refine Ev.get (pc := 16) (C0 := RX4) (T := TX4) (N := 2) (fl_3_1 _ _ _ _) rfl inX4_loadFrom (by decide) lkX4_loadFrom_11 dX4_loadFrom_16 ?_
    refine Ev.iconst (pc := 19) (v := nI 0) dX4_loadFrom_19 (by decide) ?_
    refine Ev.bipush (pc := 20) (v := nI 27) dX4_loadFrom_20 (by decide) ?_
    obtain ⟨c_2, hr⟩ := ckB hr
    refine Ev.copy (pc := 22) (ar_c hc _ _ _ _) (ar_18 _ _ _ _) (cpo_1 c_2) (cpo_2 c_2) (cpo_3 c_2) (cpo_4 c_2) (cpo_5 c_2) (se_18 _ _ _ _ _) (by decide +kernel) (by decide +kernel) (by decide +kernel) (by decide +kernel) (by decide) (Nat.le_of_ble_eq_true rfl) dX4_loadFrom_22 ?_
    cases hr
    exact Ev.vret rfl dX4_loadFrom_25 rfl
/-! X0_takeBack -/
def sX0_takeBack (g : Hg) : Option (Hg) := if (g 5 1) ≤ 0 then (some g) else ((sX4_loadFrom (stA g 5 1 ((g 5 1) - (nI 1))) 20 378 (((stA g 5 1 ((g 5 1) - (nI 1))) 5 1) * (nI 27))).bind fun x_1 => (some x_1))
set_option maxRecDepth 20000 in
set_option maxHeartbeats 1000000 in
theorem kX0_takeBack (g : Hg) (q : Int64) (g2 : Hg) (q2 : Int64) {r : Hg} (hr : sX0_takeBack g = some r) : CtV MX0_takeBack [.ref 5, .ref 3] (g, q, g2, q2) (fun h' => h' = (r, q, g2, q2)) := by
  unfold sX0_takeBack at hr
  refine CtV_L 0 rfl (by decide +kernel) rfl (Nat.le_of_ble_eq_true rfl) ?_
  show Ev _ _ 0 [some (.ref 5), some (.ref 3)] [] _
  refine Ev.aload_n (pc := 0) dX0_takeBack_0 rfl ?_
  refine Ev.get (pc := 1) (C0 := RX0) (T := TX0) (N := 2) (fl_5_1 _ _ _ _) rfl inX0_takeBack (by decide) lkX0_takeBack_17 dX0_takeBack_1 ?_
  refine Ev.ifle (pc := 4) (tgt := 32) dX0_takeBack_4 (by decide) (fun c_1 => ?_) (fun c_1 => ?_)
  · have hr := ifp hr c_1
    cases hr
    exact Ev.vret rfl dX0_takeBack_32 rfl
  · have hr := ifn hr c_1
    refine Ev.aload_n (pc := 7) dX0_takeBack_7 rfl ?_
    refine Ev.dup (pc := 8) dX0_takeBack_8 rfl ?_
    refine Ev.get (pc := 9) (C0 := RX0) (T := TX0) (N := 2) (fl_5_1 _ _ _ _) rfl inX0_takeBack (by decide) lkX0_takeBack_17 dX0_takeBack_9 ?_
    refine Ev.iconst (pc := 12) (v := nI 1) dX0_takeBack_12 (by decide) ?_
    refine Ev.isub (pc := 13) dX0_takeBack_13 ?_
    refine Ev.put (pc := 14) (C0 := RX0) (T := TX0) (N := 2) (ty := .int) (pu_5_1 _ _ _ _ _) rfl inX0_takeBack tyX0_ok nmX0 (by decide) lkX0_takeBack_17 rfl (by decide +kernel) (fun _ => rfl) (fun _ => rfl) dX0_takeBack_14 ?_
    refine Ev.aload_n (pc := 17) dX0_takeBack_17 rfl ?_
    refine Ev.aload_n (pc := 18) dX0_takeBack_18 rfl ?_
    refine Ev.get (pc := 19) (C0 := RX0) (T := TX0) (N := 2) (fl_5_0 _ _ _ _) rfl inX0_takeBack (by decide) lkX0_takeBack_11 dX0_takeBack_19 ?_
    refine Ev.aload_n (pc := 22) dX0_takeBack_22 rfl ?_
    refine Ev.get (pc := 23) (C0 := RX0) (T := TX0) (N := 2) (fl_5_1 _ _ _ _) rfl inX0_takeBack (by decide) lkX0_takeBack_17 dX0_takeBack_23 ?_
    refine Ev.bipush (pc := 26) (v := nI 27) dX0_takeBack_26 (by decide) ?_
    refine Ev.imul (pc := 28) dX0_takeBack_28 ?_
    obtain ⟨x_1, hx_1, hr⟩ := Option.bind_eq_some_iff.mp hr
    refine Ev.cVv (pc := 29) (As := [.ref 20, .int _]) (kX4_loadFrom _ _ _ _ (Or.inl ⟨rfl, rfl⟩) _ hx_1) rfl rfl (ob_3 _) gX0_takeBack_X4_loadFrom hdX4_loadFrom rfl ⟨rfl, rfl⟩ ⟨Nat.le_of_ble_eq_true rfl, Nat.le_of_ble_eq_true rfl⟩ (Nat.le_of_ble_eq_true rfl) ⟨Nat.le_of_ble_eq_true rfl, Nat.le_of_ble_eq_true rfl⟩ dX0_takeBack_29 ?_
    cases hr
    exact Ev.vret rfl dX0_takeBack_32 rfl
/-! X7_letterAt -/
def sX7_letterAt (g : Hg) (a1 : Int32) : Option (Int32) := if (sX8_within a1 (nI 0) ((g 1 1) - (nI 1))) = true then (if inb a1 60 = true then (some (g 10 (Int32.toNatClampNeg a1))) else none) else (some ((-9)))
set_option maxRecDepth 20000 in
set_option maxHeartbeats 1000000 in
theorem kX7_letterAt (g : Hg) (q : Int64) (g2 : Hg) (q2 : Int64) (a1 : Int32) {r : Int32} (hr : sX7_letterAt g a1 = some r) : CtI MX7_letterAt [.ref 1, .int a1] (g, q, g2, q2) (fun x h' => x = r ∧ h' = (g, q, g2, q2)) := by
  unfold sX7_letterAt at hr
  refine CtI_L 0 rfl (by decide +kernel) rfl (Nat.le_of_ble_eq_true rfl) ?_
  show Ev _ _ 0 [some (.ref 1), some (.int a1)] [] _
  refine Ev.iload_n (pc := 0) dX7_letterAt_0 rfl ?_
  refine Ev.iconst (pc := 1) (v := nI 0) dX7_letterAt_1 (by decide) ?_
  refine Ev.aload_n (pc := 2) dX7_letterAt_2 rfl ?_
  refine Ev.get (pc := 3) (C0 := RX7) (T := TX7) (N := 5) (fl_1_1 _ _ _ _) rfl inX7_letterAt (by decide) lkX7_letterAt_15 dX7_letterAt_3 ?_
  refine Ev.iconst (pc := 6) (v := nI 1) dX7_letterAt_6 (by decide) ?_
  refine Ev.isub (pc := 7) dX7_letterAt_7 ?_
  refine Ev.cNi (pc := 8) (As := [.int _, .int _, .int _]) (kX8_within _ _ _ _ _ _ _) rfl gX7_letterAt_X8_within_n19 (by decide +kernel) stX7_letterAt_X8_within iniX7_letterAt_X8_within hdX8_within rfl ⟨rfl, rfl⟩ ⟨Nat.le_of_ble_eq_true rfl, Nat.le_of_ble_eq_true rfl⟩ (Nat.le_of_ble_eq_true rfl) ⟨Nat.le_of_ble_eq_true rfl, Nat.le_of_ble_eq_true rfl⟩ dX7_letterAt_8 ?_
  refine Ev.ifeqB (pc := 11) (tgt := 23) dX7_letterAt_11 (by decide) (fun c_1 => ?_) (fun c_1 => ?_)
  · have hr := ifn hr (ntr c_1)
    refine Ev.bipush (pc := 23) (v := (-9)) dX7_letterAt_23 (by decide) ?_
    cases hr
    exact Ev.iret rfl rfl dX7_letterAt_25 ⟨rfl, rfl⟩
  · have hr := ifp hr c_1
    refine Ev.aload_n (pc := 14) dX7_letterAt_14 rfl ?_
    refine Ev.get (pc := 15) (C0 := RX7) (T := TX7) (N := 5) (fl_1_0 _ _ _ _) rfl inX7_letterAt (by decide) lkX7_letterAt_9 dX7_letterAt_15 ?_
    refine Ev.iload_n (pc := 18) dX7_letterAt_18 rfl ?_
    obtain ⟨c_2, hr⟩ := ckB hr
    refine Ev.iald (pc := 19) (ar_10 _ _ _ _) (inb_in c_2) dX7_letterAt_19 ?_
    refine Ev.goto (pc := 20) (tgt := 25) dX7_letterAt_20 (by decide) ?_
    cases hr
    exact Ev.iret rfl rfl dX7_letterAt_25 ⟨rfl, rfl⟩
/-! X7_length -/
def sX7_length (g : Hg) : Int32 := (g 1 1)
set_option maxRecDepth 20000 in
set_option maxHeartbeats 1000000 in
theorem kX7_length (g : Hg) (q : Int64) (g2 : Hg) (q2 : Int64) : CtI MX7_length [.ref 1] (g, q, g2, q2) (fun x h' => x = (sX7_length g) ∧ h' = (g, q, g2, q2)) := by
  generalize hr : sX7_length g = r
  unfold sX7_length at hr
  refine CtI_L 0 rfl (by decide +kernel) rfl (Nat.le_of_ble_eq_true rfl) ?_
  show Ev _ _ 0 [some (.ref 1)] [] _
  refine Ev.aload_n (pc := 0) dX7_length_0 rfl ?_
  refine Ev.get (pc := 1) (C0 := RX7) (T := TX7) (N := 5) (fl_1_1 _ _ _ _) rfl inX7_length (by decide) lkX7_length_15 dX7_length_1 ?_
  subst hr
  exact Ev.iret rfl rfl dX7_length_4 ⟨rfl, rfl⟩
/-! X1_addTide -/
def sX1_addTide (g : Hg) (a2 : Int32) : Option (Hg) := if (sX8_within (g 2 7) (nI 0) (nI 5)) = true then ((sX7_letterAt g (a2 + (nI 1))).bind fun x_1 => (if inb (g 2 7) 6 = true then (some (stA (stA g 12 (Int32.toNatClampNeg (g 2 7)) (x_1 - (nI 48))) 2 7 (((stA g 12 (Int32.toNatClampNeg (g 2 7)) (x_1 - (nI 48))) 2 7) + (nI 1)))) else none)) else (some g)
set_option maxRecDepth 20000 in
set_option maxHeartbeats 1000000 in
theorem kX1_addTide (g : Hg) (q : Int64) (g2 : Hg) (q2 : Int64) (a2 : Int32) {r : Hg} (hr : sX1_addTide g a2 = some r) : CtV MX1_addTide [.ref 2, .ref 1, .int a2] (g, q, g2, q2) (fun h' => h' = (r, q, g2, q2)) := by
  unfold sX1_addTide at hr
  refine CtV_L 0 rfl (by decide +kernel) rfl (Nat.le_of_ble_eq_true rfl) ?_
  show Ev _ _ 0 [some (.ref 2), some (.ref 1), some (.int a2)] [] _
  refine Ev.aload_n (pc := 0) dX1_addTide_0 rfl ?_
  refine Ev.get (pc := 1) (C0 := RX1) (T := TX1) (N := 10) (fl_2_7 _ _ _ _) rfl inX1_addTide (by decide) lkX1_addTide_33 dX1_addTide_1 ?_
  refine Ev.iconst (pc := 4) (v := nI 0) dX1_addTide_4 (by decide) ?_
  refine Ev.iconst (pc := 5) (v := nI 5) dX1_addTide_5 (by decide) ?_
  refine Ev.cNi (pc := 6) (As := [.int _, .int _, .int _]) (kX8_within _ _ _ _ _ _ _) rfl gX1_addTide_X8_within_n63 (by decide +kernel) stX1_addTide_X8_within iniX1_addTide_X8_within hdX8_within rfl ⟨rfl, rfl⟩ ⟨Nat.le_of_ble_eq_true rfl, Nat.le_of_ble_eq_true rfl⟩ (Nat.le_of_ble_eq_true rfl) ⟨Nat.le_of_ble_eq_true rfl, Nat.le_of_ble_eq_true rfl⟩ dX1_addTide_6 ?_
  refine Ev.ifeqB (pc := 9) (tgt := 41) dX1_addTide_9 (by decide) (fun c_1 => ?_) (fun c_1 => ?_)
  · have hr := ifn hr (ntr c_1)
    cases hr
    exact Ev.vret rfl dX1_addTide_41 rfl
  · have hr := ifp hr c_1
    refine Ev.aload_n (pc := 12) dX1_addTide_12 rfl ?_
    refine Ev.get (pc := 13) (C0 := RX1) (T := TX1) (N := 10) (fl_2_1 _ _ _ _) rfl inX1_addTide (by decide) lkX1_addTide_15 dX1_addTide_13 ?_
    refine Ev.aload_n (pc := 16) dX1_addTide_16 rfl ?_
    refine Ev.get (pc := 17) (C0 := RX1) (T := TX1) (N := 10) (fl_2_7 _ _ _ _) rfl inX1_addTide (by decide) lkX1_addTide_33 dX1_addTide_17 ?_
    refine Ev.aload_n (pc := 20) dX1_addTide_20 rfl ?_
    refine Ev.iload_n (pc := 21) dX1_addTide_21 rfl ?_
    refine Ev.iconst (pc := 22) (v := nI 1) dX1_addTide_22 (by decide) ?_
    refine Ev.iadd (pc := 23) dX1_addTide_23 ?_
    obtain ⟨x_1, hx_1, hr⟩ := Option.bind_eq_some_iff.mp hr
    refine Ev.cVi (pc := 24) (As := [.int _]) (kX7_letterAt _ _ _ _ _ hx_1) rfl rfl (ob_1 _) gX1_addTide_X7_letterAt hdX7_letterAt rfl ⟨rfl, rfl⟩ ⟨Nat.le_of_ble_eq_true rfl, Nat.le_of_ble_eq_true rfl⟩ (Nat.le_of_ble_eq_true rfl) ⟨Nat.le_of_ble_eq_true rfl, Nat.le_of_ble_eq_true rfl⟩ dX1_addTide_24 ?_
    refine Ev.bipush (pc := 27) (v := nI 48) dX1_addTide_27 (by decide) ?_
    refine Ev.isub (pc := 29) dX1_addTide_29 ?_
    obtain ⟨c_2, hr⟩ := ckB hr
    refine Ev.iast (pc := 30) (ar_12 _ _ _ _) (inb_in c_2) (se_12 _ _ _ _ _) dX1_addTide_30 ?_
    refine Ev.aload_n (pc := 31) dX1_addTide_31 rfl ?_
    refine Ev.dup (pc := 32) dX1_addTide_32 rfl ?_
    refine Ev.get (pc := 33) (C0 := RX1) (T := TX1) (N := 10) (fl_2_7 _ _ _ _) rfl inX1_addTide (by decide) lkX1_addTide_33 dX1_addTide_33 ?_
    refine Ev.iconst (pc := 36) (v := nI 1) dX1_addTide_36 (by decide) ?_
    refine Ev.iadd (pc := 37) dX1_addTide_37 ?_
    refine Ev.put (pc := 38) (C0 := RX1) (T := TX1) (N := 10) (ty := .int) (pu_2_7 _ _ _ _ _) rfl inX1_addTide tyX1_ok nmX1 (by decide) lkX1_addTide_33 rfl (by decide +kernel) (fun _ => rfl) (fun _ => rfl) dX1_addTide_38 ?_
    cases hr
    exact Ev.vret rfl dX1_addTide_41 rfl
/-! X1_addFind -/
def sX1_addFind (g : Hg) (a2 : Int32) : Option (Hg) := if (sX8_within (g 2 8) (nI 0) (nI 4)) = true then ((sX7_letterAt g (a2 + (nI 1))).bind fun x_1 => (if inb (g 2 8) 5 = true then ((sX7_letterAt (stA g 13 (Int32.toNatClampNeg (g 2 8)) (x_1 - (nI 97))) (a2 + (nI 2))).bind fun x_2 => (if inb ((stA g 13 (Int32.toNatClampNeg (g 2 8)) (x_1 - (nI 97))) 2 8) 5 = true then ((sX7_letterAt (stA (stA g 13 (Int32.toNatClampNeg (g 2 8)) (x_1 - (nI 97))) 14 (Int32.toNatClampNeg ((stA g 13 (Int32.toNatClampNeg (g 2 8)) (x_1 - (nI 97))) 2 8)) (x_2 - (nI 48))) (a2 + (nI 3))).bind fun x_3 => (if inb ((stA (stA g 13 (Int32.toNatClampNeg (g 2 8)) (x_1 - (nI 97))) 14 (Int32.toNatClampNeg ((stA g 13 (Int32.toNatClampNeg (g 2 8)) (x_1 - (nI 97))) 2 8)) (x_2 - (nI 48))) 2 8) 5 = true then (some (stA (stA (stA (stA g 13 (Int32.toNatClampNeg (g 2 8)) (x_1 - (nI 97))) 14 (Int32.toNatClampNeg ((stA g 13 (Int32.toNatClampNeg (g 2 8)) (x_1 - (nI 97))) 2 8)) (x_2 - (nI 48))) 15 (Int32.toNatClampNeg ((stA (stA g 13 (Int32.toNatClampNeg (g 2 8)) (x_1 - (nI 97))) 14 (Int32.toNatClampNeg ((stA g 13 (Int32.toNatClampNeg (g 2 8)) (x_1 - (nI 97))) 2 8)) (x_2 - (nI 48))) 2 8)) (x_3 - (nI 48))) 2 8 (((stA (stA (stA g 13 (Int32.toNatClampNeg (g 2 8)) (x_1 - (nI 97))) 14 (Int32.toNatClampNeg ((stA g 13 (Int32.toNatClampNeg (g 2 8)) (x_1 - (nI 97))) 2 8)) (x_2 - (nI 48))) 15 (Int32.toNatClampNeg ((stA (stA g 13 (Int32.toNatClampNeg (g 2 8)) (x_1 - (nI 97))) 14 (Int32.toNatClampNeg ((stA g 13 (Int32.toNatClampNeg (g 2 8)) (x_1 - (nI 97))) 2 8)) (x_2 - (nI 48))) 2 8)) (x_3 - (nI 48))) 2 8) + (nI 1)))) else none)) else none)) else none)) else (some g)
set_option maxRecDepth 20000 in
set_option maxHeartbeats 1000000 in
theorem kX1_addFind (g : Hg) (q : Int64) (g2 : Hg) (q2 : Int64) (a2 : Int32) {r : Hg} (hr : sX1_addFind g a2 = some r) : CtV MX1_addFind [.ref 2, .ref 1, .int a2] (g, q, g2, q2) (fun h' => h' = (r, q, g2, q2)) := by
  unfold sX1_addFind at hr
  refine CtV_L 0 rfl (by decide +kernel) rfl (Nat.le_of_ble_eq_true rfl) ?_
  show Ev _ _ 0 [some (.ref 2), some (.ref 1), some (.int a2)] [] _
  refine Ev.aload_n (pc := 0) dX1_addFind_0 rfl ?_
  refine Ev.get (pc := 1) (C0 := RX1) (T := TX1) (N := 10) (fl_2_8 _ _ _ _) rfl inX1_addFind (by decide) lkX1_addFind_37 dX1_addFind_1 ?_
  refine Ev.iconst (pc := 4) (v := nI 0) dX1_addFind_4 (by decide) ?_
  refine Ev.iconst (pc := 5) (v := nI 4) dX1_addFind_5 (by decide) ?_
  refine Ev.cNi (pc := 6) (As := [.int _, .int _, .int _]) (kX8_within _ _ _ _ _ _ _) rfl gX1_addFind_X8_within_n63 (by decide +kernel) stX1_addFind_X8_within iniX1_addFind_X8_within hdX8_within rfl ⟨rfl, rfl⟩ ⟨Nat.le_of_ble_eq_true rfl, Nat.le_of_ble_eq_true rfl⟩ (Nat.le_of_ble_eq_true rfl) ⟨Nat.le_of_ble_eq_true rfl, Nat.le_of_ble_eq_true rfl⟩ dX1_addFind_6 ?_
  refine Ev.ifeqB (pc := 9) (tgt := 79) dX1_addFind_9 (by decide) (fun c_1 => ?_) (fun c_1 => ?_)
  · have hr := ifn hr (ntr c_1)
    cases hr
    exact Ev.vret rfl dX1_addFind_79 rfl
  · have hr := ifp hr c_1
    refine Ev.aload_n (pc := 12) dX1_addFind_12 rfl ?_
    refine Ev.get (pc := 13) (C0 := RX1) (T := TX1) (N := 10) (fl_2_2 _ _ _ _) rfl inX1_addFind (by decide) lkX1_addFind_18 dX1_addFind_13 ?_
    refine Ev.aload_n (pc := 16) dX1_addFind_16 rfl ?_
    refine Ev.get (pc := 17) (C0 := RX1) (T := TX1) (N := 10) (fl_2_8 _ _ _ _) rfl inX1_addFind (by decide) lkX1_addFind_37 dX1_addFind_17 ?_
    refine Ev.aload_n (pc := 20) dX1_addFind_20 rfl ?_
    refine Ev.iload_n (pc := 21) dX1_addFind_21 rfl ?_
    refine Ev.iconst (pc := 22) (v := nI 1) dX1_addFind_22 (by decide) ?_
    refine Ev.iadd (pc := 23) dX1_addFind_23 ?_
    obtain ⟨x_1, hx_1, hr⟩ := Option.bind_eq_some_iff.mp hr
    refine Ev.cVi (pc := 24) (As := [.int _]) (kX7_letterAt _ _ _ _ _ hx_1) rfl rfl (ob_1 _) gX1_addFind_X7_letterAt hdX7_letterAt rfl ⟨rfl, rfl⟩ ⟨Nat.le_of_ble_eq_true rfl, Nat.le_of_ble_eq_true rfl⟩ (Nat.le_of_ble_eq_true rfl) ⟨Nat.le_of_ble_eq_true rfl, Nat.le_of_ble_eq_true rfl⟩ dX1_addFind_24 ?_
    refine Ev.bipush (pc := 27) (v := nI 97) dX1_addFind_27 (by decide) ?_
    refine Ev.isub (pc := 29) dX1_addFind_29 ?_
    obtain ⟨c_2, hr⟩ := ckB hr
    refine Ev.iast (pc := 30) (ar_13 _ _ _ _) (inb_in c_2) (se_13 _ _ _ _ _) dX1_addFind_30 ?_
    refine Ev.aload_n (pc := 31) dX1_addFind_31 rfl ?_
    refine Ev.get (pc := 32) (C0 := RX1) (T := TX1) (N := 10) (fl_2_3 _ _ _ _) rfl inX1_addFind (by decide) lkX1_addFind_21 dX1_addFind_32 ?_
    refine Ev.aload_n (pc := 35) dX1_addFind_35 rfl ?_
    refine Ev.get (pc := 36) (C0 := RX1) (T := TX1) (N := 10) (fl_2_8 _ _ _ _) rfl inX1_addFind (by decide) lkX1_addFind_37 dX1_addFind_36 ?_
    refine Ev.aload_n (pc := 39) dX1_addFind_39 rfl ?_
    refine Ev.iload_n (pc := 40) dX1_addFind_40 rfl ?_
    refine Ev.iconst (pc := 41) (v := nI 2) dX1_addFind_41 (by decide) ?_
    refine Ev.iadd (pc := 42) dX1_addFind_42 ?_
    obtain ⟨x_2, hx_2, hr⟩ := Option.bind_eq_some_iff.mp hr
    refine Ev.cVi (pc := 43) (As := [.int _]) (kX7_letterAt _ _ _ _ _ hx_2) rfl rfl (ob_1 _) gX1_addFind_X7_letterAt hdX7_letterAt rfl ⟨rfl, rfl⟩ ⟨Nat.le_of_ble_eq_true rfl, Nat.le_of_ble_eq_true rfl⟩ (Nat.le_of_ble_eq_true rfl) ⟨Nat.le_of_ble_eq_true rfl, Nat.le_of_ble_eq_true rfl⟩ dX1_addFind_43 ?_
    refine Ev.bipush (pc := 46) (v := nI 48) dX1_addFind_46 (by decide) ?_
    refine Ev.isub (pc := 48) dX1_addFind_48 ?_
    obtain ⟨c_3, hr⟩ := ckB hr
    refine Ev.iast (pc := 49) (ar_14 _ _ _ _) (inb_in c_3) (se_14 _ _ _ _ _) dX1_addFind_49 ?_
    refine Ev.aload_n (pc := 50) dX1_addFind_50 rfl ?_
    refine Ev.get (pc := 51) (C0 := RX1) (T := TX1) (N := 10) (fl_2_4 _ _ _ _) rfl inX1_addFind (by decide) lkX1_addFind_24 dX1_addFind_51 ?_
    refine Ev.aload_n (pc := 54) dX1_addFind_54 rfl ?_
    refine Ev.get (pc := 55) (C0 := RX1) (T := TX1) (N := 10) (fl_2_8 _ _ _ _) rfl inX1_addFind (by decide) lkX1_addFind_37 dX1_addFind_55 ?_
    refine Ev.aload_n (pc := 58) dX1_addFind_58 rfl ?_
    refine Ev.iload_n (pc := 59) dX1_addFind_59 rfl ?_
    refine Ev.iconst (pc := 60) (v := nI 3) dX1_addFind_60 (by decide) ?_
    refine Ev.iadd (pc := 61) dX1_addFind_61 ?_
    obtain ⟨x_3, hx_3, hr⟩ := Option.bind_eq_some_iff.mp hr
    refine Ev.cVi (pc := 62) (As := [.int _]) (kX7_letterAt _ _ _ _ _ hx_3) rfl rfl (ob_1 _) gX1_addFind_X7_letterAt hdX7_letterAt rfl ⟨rfl, rfl⟩ ⟨Nat.le_of_ble_eq_true rfl, Nat.le_of_ble_eq_true rfl⟩ (Nat.le_of_ble_eq_true rfl) ⟨Nat.le_of_ble_eq_true rfl, Nat.le_of_ble_eq_true rfl⟩ dX1_addFind_62 ?_
    refine Ev.bipush (pc := 65) (v := nI 48) dX1_addFind_65 (by decide) ?_
    refine Ev.isub (pc := 67) dX1_addFind_67 ?_
    obtain ⟨c_4, hr⟩ := ckB hr
    refine Ev.iast (pc := 68) (ar_15 _ _ _ _) (inb_in c_4) (se_15 _ _ _ _ _) dX1_addFind_68 ?_
    refine Ev.aload_n (pc := 69) dX1_addFind_69 rfl ?_
    refine Ev.dup (pc := 70) dX1_addFind_70 rfl ?_
    refine Ev.get (pc := 71) (C0 := RX1) (T := TX1) (N := 10) (fl_2_8 _ _ _ _) rfl inX1_addFind (by decide) lkX1_addFind_37 dX1_addFind_71 ?_
    refine Ev.iconst (pc := 74) (v := nI 1) dX1_addFind_74 (by decide) ?_
    refine Ev.iadd (pc := 75) dX1_addFind_75 ?_
    refine Ev.put (pc := 76) (C0 := RX1) (T := TX1) (N := 10) (ty := .int) (pu_2_8 _ _ _ _ _) rfl inX1_addFind tyX1_ok nmX1 (by decide) lkX1_addFind_37 rfl (by decide +kernel) (fun _ => rfl) (fun _ => rfl) dX1_addFind_76 ?_
    cases hr
    exact Ev.vret rfl dX1_addFind_79 rfl
/-! X1_addLark -/
def sX1_addLark (g : Hg) (a2 : Int32) : Option (Hg) := if (sX8_within (g 2 9) (nI 0) (nI 3)) = true then ((sX7_letterAt g (a2 + (nI 1))).bind fun x_1 => (if inb (g 2 9) 4 = true then ((sX7_letterAt (stA g 16 (Int32.toNatClampNeg (g 2 9)) (x_1 - (nI 97))) (a2 + (nI 2))).bind fun x_2 => (if inb ((stA g 16 (Int32.toNatClampNeg (g 2 9)) (x_1 - (nI 97))) 2 9) 4 = true then (some (stA (stA (stA g 16 (Int32.toNatClampNeg (g 2 9)) (x_1 - (nI 97))) 17 (Int32.toNatClampNeg ((stA g 16 (Int32.toNatClampNeg (g 2 9)) (x_1 - (nI 97))) 2 9)) (x_2 - (nI 48))) 2 9 (((stA (stA g 16 (Int32.toNatClampNeg (g 2 9)) (x_1 - (nI 97))) 17 (Int32.toNatClampNeg ((stA g 16 (Int32.toNatClampNeg (g 2 9)) (x_1 - (nI 97))) 2 9)) (x_2 - (nI 48))) 2 9) + (nI 1)))) else none)) else none)) else (some g)
set_option maxRecDepth 20000 in
set_option maxHeartbeats 1000000 in
theorem kX1_addLark (g : Hg) (q : Int64) (g2 : Hg) (q2 : Int64) (a2 : Int32) {r : Hg} (hr : sX1_addLark g a2 = some r) : CtV MX1_addLark [.ref 2, .ref 1, .int a2] (g, q, g2, q2) (fun h' => h' = (r, q, g2, q2)) := by
  unfold sX1_addLark at hr
  refine CtV_L 0 rfl (by decide +kernel) rfl (Nat.le_of_ble_eq_true rfl) ?_
  show Ev _ _ 0 [some (.ref 2), some (.ref 1), some (.int a2)] [] _
  refine Ev.aload_n (pc := 0) dX1_addLark_0 rfl ?_
  refine Ev.get (pc := 1) (C0 := RX1) (T := TX1) (N := 10) (fl_2_9 _ _ _ _) rfl inX1_addLark (by decide) lkX1_addLark_40 dX1_addLark_1 ?_
  refine Ev.iconst (pc := 4) (v := nI 0) dX1_addLark_4 (by decide) ?_
  refine Ev.iconst (pc := 5) (v := nI 3) dX1_addLark_5 (by decide) ?_
  refine Ev.cNi (pc := 6) (As := [.int _, .int _, .int _]) (kX8_within _ _ _ _ _ _ _) rfl gX1_addLark_X8_within_n63 (by decide +kernel) stX1_addLark_X8_within iniX1_addLark_X8_within hdX8_within rfl ⟨rfl, rfl⟩ ⟨Nat.le_of_ble_eq_true rfl, Nat.le_of_ble_eq_true rfl⟩ (Nat.le_of_ble_eq_true rfl) ⟨Nat.le_of_ble_eq_true rfl, Nat.le_of_ble_eq_true rfl⟩ dX1_addLark_6 ?_
  refine Ev.ifeqB (pc := 9) (tgt := 60) dX1_addLark_9 (by decide) (fun c_1 => ?_) (fun c_1 => ?_)
  · have hr := ifn hr (ntr c_1)
    cases hr
    exact Ev.vret rfl dX1_addLark_60 rfl
  · have hr := ifp hr c_1
    refine Ev.aload_n (pc := 12) dX1_addLark_12 rfl ?_
    refine Ev.get (pc := 13) (C0 := RX1) (T := TX1) (N := 10) (fl_2_5 _ _ _ _) rfl inX1_addLark (by decide) lkX1_addLark_27 dX1_addLark_13 ?_
    refine Ev.aload_n (pc := 16) dX1_addLark_16 rfl ?_
    refine Ev.get (pc := 17) (C0 := RX1) (T := TX1) (N := 10) (fl_2_9 _ _ _ _) rfl inX1_addLark (by decide) lkX1_addLark_40 dX1_addLark_17 ?_
    refine Ev.aload_n (pc := 20) dX1_addLark_20 rfl ?_
    refine Ev.iload_n (pc := 21) dX1_addLark_21 rfl ?_
    refine Ev.iconst (pc := 22) (v := nI 1) dX1_addLark_22 (by decide) ?_
    refine Ev.iadd (pc := 23) dX1_addLark_23 ?_
    obtain ⟨x_1, hx_1, hr⟩ := Option.bind_eq_some_iff.mp hr
    refine Ev.cVi (pc := 24) (As := [.int _]) (kX7_letterAt _ _ _ _ _ hx_1) rfl rfl (ob_1 _) gX1_addLark_X7_letterAt hdX7_letterAt rfl ⟨rfl, rfl⟩ ⟨Nat.le_of_ble_eq_true rfl, Nat.le_of_ble_eq_true rfl⟩ (Nat.le_of_ble_eq_true rfl) ⟨Nat.le_of_ble_eq_true rfl, Nat.le_of_ble_eq_true rfl⟩ dX1_addLark_24 ?_
    refine Ev.bipush (pc := 27) (v := nI 97) dX1_addLark_27 (by decide) ?_
    refine Ev.isub (pc := 29) dX1_addLark_29 ?_
    obtain ⟨c_2, hr⟩ := ckB hr
    refine Ev.iast (pc := 30) (ar_16 _ _ _ _) (inb_in c_2) (se_16 _ _ _ _ _) dX1_addLark_30 ?_
    refine Ev.aload_n (pc := 31) dX1_addLark_31 rfl ?_
    refine Ev.get (pc := 32) (C0 := RX1) (T := TX1) (N := 10) (fl_2_6 _ _ _ _) rfl inX1_addLark (by decide) lkX1_addLark_30 dX1_addLark_32 ?_
    refine Ev.aload_n (pc := 35) dX1_addLark_35 rfl ?_
    refine Ev.get (pc := 36) (C0 := RX1) (T := TX1) (N := 10) (fl_2_9 _ _ _ _) rfl inX1_addLark (by decide) lkX1_addLark_40 dX1_addLark_36 ?_
    refine Ev.aload_n (pc := 39) dX1_addLark_39 rfl ?_
    refine Ev.iload_n (pc := 40) dX1_addLark_40 rfl ?_
    refine Ev.iconst (pc := 41) (v := nI 2) dX1_addLark_41 (by decide) ?_
    refine Ev.iadd (pc := 42) dX1_addLark_42 ?_
    obtain ⟨x_2, hx_2, hr⟩ := Option.bind_eq_some_iff.mp hr
    refine Ev.cVi (pc := 43) (As := [.int _]) (kX7_letterAt _ _ _ _ _ hx_2) rfl rfl (ob_1 _) gX1_addLark_X7_letterAt hdX7_letterAt rfl ⟨rfl, rfl⟩ ⟨Nat.le_of_ble_eq_true rfl, Nat.le_of_ble_eq_true rfl⟩ (Nat.le_of_ble_eq_true rfl) ⟨Nat.le_of_ble_eq_true rfl, Nat.le_of_ble_eq_true rfl⟩ dX1_addLark_43 ?_
    refine Ev.bipush (pc := 46) (v := nI 48) dX1_addLark_46 (by decide) ?_
    refine Ev.isub (pc := 48) dX1_addLark_48 ?_
    obtain ⟨c_3, hr⟩ := ckB hr
    refine Ev.iast (pc := 49) (ar_17 _ _ _ _) (inb_in c_3) (se_17 _ _ _ _ _) dX1_addLark_49 ?_
    refine Ev.aload_n (pc := 50) dX1_addLark_50 rfl ?_
    refine Ev.dup (pc := 51) dX1_addLark_51 rfl ?_
    refine Ev.get (pc := 52) (C0 := RX1) (T := TX1) (N := 10) (fl_2_9 _ _ _ _) rfl inX1_addLark (by decide) lkX1_addLark_40 dX1_addLark_52 ?_
    refine Ev.iconst (pc := 55) (v := nI 1) dX1_addLark_55 (by decide) ?_
    refine Ev.iadd (pc := 56) dX1_addLark_56 ?_
    refine Ev.put (pc := 57) (C0 := RX1) (T := TX1) (N := 10) (ty := .int) (pu_2_9 _ _ _ _ _) rfl inX1_addLark tyX1_ok nmX1 (by decide) lkX1_addLark_40 rfl (by decide +kernel) (fun _ => rfl) (fun _ => rfl) dX1_addLark_57 ?_
    cases hr
    exact Ev.vret rfl dX1_addLark_60 rfl
/-! X1_readFrom -/
def sX1_readFrom_48  : Nat → Hg → Int32 → Option (Hg)
  | 0, _, _ => none
  | n + 1, g, v2 => if (sX7_length g) ≤ v2 then (some g) else ((sX7_letterAt g v2).bind fun x_1 => (if x_1 = (nI 87) then ((sX1_addTide g v2).bind fun x_4 => (sX1_readFrom_48 n x_4 (v2 + (nI 2)))) else (if x_1 = (nI 70) then ((sX1_addFind g v2).bind fun x_3 => (sX1_readFrom_48 n x_3 (v2 + (nI 4)))) else ((sX1_addLark g v2).bind fun x_2 => (sX1_readFrom_48 n x_2 (v2 + (nI 3)))))))
set_option maxRecDepth 20000 in
set_option maxHeartbeats 1000000 in
theorem kX1_readFrom_48 (q : Int64) (g2 : Hg) (q2 : Int64)   (r : Hg) : ∀ (n : Nat) (g : Hg) (v2 : Int32), sX1_readFrom_48 n g v2 = some r → Ev (Xv (fun h' => h' = (r, q, g2, q2))) MX1_readFrom 48 [some (.ref 2), some (.ref 1), some (.int v2), none] [] (g, q, g2, q2) := by
  intro n
  induction n with
  | zero => intro _ _ hr; cases hr
  | succ n ih =>
    intro g v2 hr
    rw [sX1_readFrom_48] at hr
    refine Ev.iload_n (pc := 48) dX1_readFrom_48 rfl ?_
    refine Ev.aload_n (pc := 49) dX1_readFrom_49 rfl ?_
    refine Ev.cVi (pc := 50) (As := []) (kX7_length _ _ _ _) rfl rfl (ob_1 _) gX1_readFrom_X7_length hdX7_length rfl ⟨rfl, rfl⟩ ⟨Nat.le_of_ble_eq_true rfl, Nat.le_of_ble_eq_true rfl⟩ (Nat.le_of_ble_eq_true rfl) ⟨Nat.le_of_ble_eq_true rfl, Nat.le_of_ble_eq_true rfl⟩ dX1_readFrom_50 ?_
    refine Ev.icmpge (pc := 53) (tgt := 110) dX1_readFrom_53 (by decide) (fun c_2 => ?_) (fun c_2 => ?_)
    · have hr := ifp hr c_2
      cases hr
      exact Ev.vret rfl dX1_readFrom_110 rfl
    · have hr := ifn hr c_2
      refine Ev.aload_n (pc := 56) dX1_readFrom_56 rfl ?_
      refine Ev.iload_n (pc := 57) dX1_readFrom_57 rfl ?_
      obtain ⟨x_1, hx_1, hr⟩ := Option.bind_eq_some_iff.mp hr
      refine Ev.cVi (pc := 58) (As := [.int _]) (kX7_letterAt _ _ _ _ _ hx_1) rfl rfl (ob_1 _) gX1_readFrom_X7_letterAt hdX7_letterAt rfl ⟨rfl, rfl⟩ ⟨Nat.le_of_ble_eq_true rfl, Nat.le_of_ble_eq_true rfl⟩ (Nat.le_of_ble_eq_true rfl) ⟨Nat.le_of_ble_eq_true rfl, Nat.le_of_ble_eq_true rfl⟩ dX1_readFrom_58 ?_
      refine Ev.istore_n (pc := 61) dX1_readFrom_61 rfl rfl ?_
      refine Ev.iload_n (pc := 62) dX1_readFrom_62 rfl ?_
      refine Ev.bipush (pc := 63) (v := nI 87) dX1_readFrom_63 (by decide) ?_
      refine Ev.icmpne (pc := 65) (tgt := 80) dX1_readFrom_65 (by decide) (fun c_3 => ?_) (fun c_3 => ?_)
      · have hr := ifn hr c_3
        refine Ev.iload_n (pc := 80) dX1_readFrom_80 rfl ?_
        refine Ev.bipush (pc := 81) (v := nI 70) dX1_readFrom_81 (by decide) ?_
        refine Ev.icmpne (pc := 83) (tgt := 98) dX1_readFrom_83 (by decide) (fun c_4 => ?_) (fun c_4 => ?_)
        · have hr := ifn hr c_4
          refine Ev.aload_n (pc := 98) dX1_readFrom_98 rfl ?_
          refine Ev.aload_n (pc := 99) dX1_readFrom_99 rfl ?_
          refine Ev.iload_n (pc := 100) dX1_readFrom_100 rfl ?_
          obtain ⟨x_2, hx_2, hr⟩ := Option.bind_eq_some_iff.mp hr
          refine Ev.cVv (pc := 101) (As := [.ref 1, .int _]) (kX1_addLark _ _ _ _ _ hx_2) rfl rfl (ob_2 _) gX1_readFrom_X1_addLark hdX1_addLark rfl ⟨rfl, rfl⟩ ⟨Nat.le_of_ble_eq_true rfl, Nat.le_of_ble_eq_true rfl⟩ (Nat.le_of_ble_eq_true rfl) ⟨Nat.le_of_ble_eq_true rfl, Nat.le_of_ble_eq_true rfl⟩ dX1_readFrom_101 ?_
          refine Ev.iinc (pc := 104) (v := nI 3) dX1_readFrom_104 rfl rfl rfl rfl ?_
          refine Ev.goto (pc := 107) (tgt := 48) dX1_readFrom_107 (by decide) ?_
          refine Ev_drop 3 ?_
          exact ih _ _ hr
        · have hr := ifp hr c_4
          refine Ev.aload_n (pc := 86) dX1_readFrom_86 rfl ?_
          refine Ev.aload_n (pc := 87) dX1_readFrom_87 rfl ?_
          refine Ev.iload_n (pc := 88) dX1_readFrom_88 rfl ?_
          obtain ⟨x_3, hx_3, hr⟩ := Option.bind_eq_some_iff.mp hr
          refine Ev.cVv (pc := 89) (As := [.ref 1, .int _]) (kX1_addFind _ _ _ _ _ hx_3) rfl rfl (ob_2 _) gX1_readFrom_X1_addFind hdX1_addFind rfl ⟨rfl, rfl⟩ ⟨Nat.le_of_ble_eq_true rfl, Nat.le_of_ble_eq_true rfl⟩ (Nat.le_of_ble_eq_true rfl) ⟨Nat.le_of_ble_eq_true rfl, Nat.le_of_ble_eq_true rfl⟩ dX1_readFrom_89 ?_
          refine Ev.iinc (pc := 92) (v := nI 4) dX1_readFrom_92 rfl rfl rfl rfl ?_
          refine Ev.goto (pc := 95) (tgt := 107) dX1_readFrom_95 (by decide) ?_
          refine Ev.goto (pc := 107) (tgt := 48) dX1_readFrom_107 (by decide) ?_
          refine Ev_drop 3 ?_
          exact ih _ _ hr
      · have hr := ifp hr c_3
        refine Ev.aload_n (pc := 68) dX1_readFrom_68 rfl ?_
        refine Ev.aload_n (pc := 69) dX1_readFrom_69 rfl ?_
        refine Ev.iload_n (pc := 70) dX1_readFrom_70 rfl ?_
        obtain ⟨x_4, hx_4, hr⟩ := Option.bind_eq_some_iff.mp hr
        refine Ev.cVv (pc := 71) (As := [.ref 1, .int _]) (kX1_addTide _ _ _ _ _ hx_4) rfl rfl (ob_2 _) gX1_readFrom_X1_addTide hdX1_addTide rfl ⟨rfl, rfl⟩ ⟨Nat.le_of_ble_eq_true rfl, Nat.le_of_ble_eq_true rfl⟩ (Nat.le_of_ble_eq_true rfl) ⟨Nat.le_of_ble_eq_true rfl, Nat.le_of_ble_eq_true rfl⟩ dX1_readFrom_71 ?_
        refine Ev.iinc (pc := 74) (v := nI 2) dX1_readFrom_74 rfl rfl rfl rfl ?_
        refine Ev.goto (pc := 77) (tgt := 107) dX1_readFrom_77 (by decide) ?_
        refine Ev.goto (pc := 107) (tgt := 48) dX1_readFrom_107 (by decide) ?_
        refine Ev_drop 3 ?_
        exact ih _ _ hr
def sX1_readFrom_17  : Nat → Hg → Int32 → Option (Hg)
  | 0, _, _ => none
  | n + 1, g, v2 => if (nI 12) ≤ v2 then (sX1_readFrom_48 100 g (nI 13)) else ((sX7_letterAt g ((nI 1) + v2)).bind fun x_5 => (if inb v2 12 = true then (sX1_readFrom_17 n (stA g 11 (Int32.toNatClampNeg v2) (x_5 - (nI 48))) (v2 + (nI 1))) else none))
set_option maxRecDepth 20000 in
set_option maxHeartbeats 1000000 in
theorem kX1_readFrom_17 (q : Int64) (g2 : Hg) (q2 : Int64)   (r : Hg) : ∀ (n : Nat) (g : Hg) (v2 : Int32), sX1_readFrom_17 n g v2 = some r → Ev (Xv (fun h' => h' = (r, q, g2, q2))) MX1_readFrom 17 [some (.ref 2), some (.ref 1), some (.int v2), none] [] (g, q, g2, q2) := by
  intro n
  induction n with
  | zero => intro _ _ hr; cases hr
  | succ n ih =>
    intro g v2 hr
    rw [sX1_readFrom_17] at hr
    refine Ev.iload_n (pc := 17) dX1_readFrom_17 rfl ?_
    refine Ev.bipush (pc := 18) (v := nI 12) dX1_readFrom_18 (by decide) ?_
    refine Ev.icmpge (pc := 20) (tgt := 45) dX1_readFrom_20 (by decide) (fun c_1 => ?_) (fun c_1 => ?_)
    · have hr := ifp hr c_1
      refine Ev.bipush (pc := 45) (v := nI 13) dX1_readFrom_45 (by decide) ?_
      refine Ev.istore_n (pc := 47) dX1_readFrom_47 rfl rfl ?_
      exact kX1_readFrom_48 _ _ _  _ 100 _ _ hr
    · have hr := ifn hr c_1
      refine Ev.aload_n (pc := 23) dX1_readFrom_23 rfl ?_
      refine Ev.get (pc := 24) (C0 := RX1) (T := TX1) (N := 10) (fl_2_0 _ _ _ _) rfl inX1_readFrom (by decide) lkX1_readFrom_9 dX1_readFrom_24 ?_
      refine Ev.iload_n (pc := 27) dX1_readFrom_27 rfl ?_
      refine Ev.aload_n (pc := 28) dX1_readFrom_28 rfl ?_
      refine Ev.iconst (pc := 29) (v := nI 1) dX1_readFrom_29 (by decide) ?_
      refine Ev.iload_n (pc := 30) dX1_readFrom_30 rfl ?_
      refine Ev.iadd (pc := 31) dX1_readFrom_31 ?_
      obtain ⟨x_5, hx_5, hr⟩ := Option.bind_eq_some_iff.mp hr
      refine Ev.cVi (pc := 32) (As := [.int _]) (kX7_letterAt _ _ _ _ _ hx_5) rfl rfl (ob_1 _) gX1_readFrom_X7_letterAt hdX7_letterAt rfl ⟨rfl, rfl⟩ ⟨Nat.le_of_ble_eq_true rfl, Nat.le_of_ble_eq_true rfl⟩ (Nat.le_of_ble_eq_true rfl) ⟨Nat.le_of_ble_eq_true rfl, Nat.le_of_ble_eq_true rfl⟩ dX1_readFrom_32 ?_
      refine Ev.bipush (pc := 35) (v := nI 48) dX1_readFrom_35 (by decide) ?_
      refine Ev.isub (pc := 37) dX1_readFrom_37 ?_
      obtain ⟨c_5, hr⟩ := ckB hr
      refine Ev.iast (pc := 38) (ar_11 _ _ _ _) (inb_in c_5) (se_11 _ _ _ _ _) dX1_readFrom_38 ?_
      refine Ev.iinc (pc := 39) (v := nI 1) dX1_readFrom_39 rfl rfl rfl rfl ?_
      refine Ev.goto (pc := 42) (tgt := 17) dX1_readFrom_42 (by decide) ?_
      exact ih _ _ hr
def sX1_readFrom (g : Hg) : Option (Hg) := sX1_readFrom_17 100 (stA (stA (stA g 2 7 (nI 0)) 2 8 (nI 0)) 2 9 (nI 0)) (nI 0)
set_option maxRecDepth 20000 in
set_option maxHeartbeats 1000000 in
theorem kX1_readFrom (g : Hg) (q : Int64) (g2 : Hg) (q2 : Int64) {r : Hg} (hr : sX1_readFrom g = some r) : CtV MX1_readFrom [.ref 2, .ref 1] (g, q, g2, q2) (fun h' => h' = (r, q, g2, q2)) := by
  unfold sX1_readFrom at hr
  refine CtV_L 2 rfl (by decide +kernel) rfl (Nat.le_of_ble_eq_true rfl) ?_
  show Ev _ _ 0 [some (.ref 2), some (.ref 1), none, none] [] _
  refine Ev.aload_n (pc := 0) dX1_readFrom_0 rfl ?_
  refine Ev.iconst (pc := 1) (v := nI 0) dX1_readFrom_1 (by decide) ?_
  refine Ev.put (pc := 2) (C0 := RX1) (T := TX1) (N := 10) (ty := .int) (pu_2_7 _ _ _ _ _) rfl inX1_readFrom tyX1_ok nmX1 (by decide) lkX1_readFrom_33 rfl (by decide +kernel) (fun _ => rfl) (fun _ => rfl) dX1_readFrom_2 ?_
  refine Ev.aload_n (pc := 5) dX1_readFrom_5 rfl ?_
  refine Ev.iconst (pc := 6) (v := nI 0) dX1_readFrom_6 (by decide) ?_
  refine Ev.put (pc := 7) (C0 := RX1) (T := TX1) (N := 10) (ty := .int) (pu_2_8 _ _ _ _ _) rfl inX1_readFrom tyX1_ok nmX1 (by decide) lkX1_readFrom_37 rfl (by decide +kernel) (fun _ => rfl) (fun _ => rfl) dX1_readFrom_7 ?_
  refine Ev.aload_n (pc := 10) dX1_readFrom_10 rfl ?_
  refine Ev.iconst (pc := 11) (v := nI 0) dX1_readFrom_11 (by decide) ?_
  refine Ev.put (pc := 12) (C0 := RX1) (T := TX1) (N := 10) (ty := .int) (pu_2_9 _ _ _ _ _) rfl inX1_readFrom tyX1_ok nmX1 (by decide) lkX1_readFrom_40 rfl (by decide +kernel) (fun _ => rfl) (fun _ => rfl) dX1_readFrom_12 ?_
  refine Ev.iconst (pc := 15) (v := nI 0) dX1_readFrom_15 (by decide) ?_
  refine Ev.istore_n (pc := 16) dX1_readFrom_16 rfl rfl ?_
  exact kX1_readFrom_17 _ _ _  _ 100 _ _ hr
/-! X1_tideCount -/
def sX1_tideCount (g : Hg) : Int32 := (g 2 7)
set_option maxRecDepth 20000 in
set_option maxHeartbeats 1000000 in
theorem kX1_tideCount (g : Hg) (q : Int64) (g2 : Hg) (q2 : Int64) : CtI MX1_tideCount [.ref 2] (g, q, g2, q2) (fun x h' => x = (sX1_tideCount g) ∧ h' = (g, q, g2, q2)) := by
  generalize hr : sX1_tideCount g = r
  unfold sX1_tideCount at hr
  refine CtI_L 0 rfl (by decide +kernel) rfl (Nat.le_of_ble_eq_true rfl) ?_
  show Ev _ _ 0 [some (.ref 2)] [] _
  refine Ev.aload_n (pc := 0) dX1_tideCount_0 rfl ?_
  refine Ev.get (pc := 1) (C0 := RX1) (T := TX1) (N := 10) (fl_2_7 _ _ _ _) rfl inX1_tideCount (by decide) lkX1_tideCount_33 dX1_tideCount_1 ?_
  subst hr
  exact Ev.iret rfl rfl dX1_tideCount_4 ⟨rfl, rfl⟩
/-! X1_findCount -/
def sX1_findCount (g : Hg) : Int32 := (g 2 8)
set_option maxRecDepth 20000 in
set_option maxHeartbeats 1000000 in
theorem kX1_findCount (g : Hg) (q : Int64) (g2 : Hg) (q2 : Int64) : CtI MX1_findCount [.ref 2] (g, q, g2, q2) (fun x h' => x = (sX1_findCount g) ∧ h' = (g, q, g2, q2)) := by
  generalize hr : sX1_findCount g = r
  unfold sX1_findCount at hr
  refine CtI_L 0 rfl (by decide +kernel) rfl (Nat.le_of_ble_eq_true rfl) ?_
  show Ev _ _ 0 [some (.ref 2)] [] _
  refine Ev.aload_n (pc := 0) dX1_findCount_0 rfl ?_
  refine Ev.get (pc := 1) (C0 := RX1) (T := TX1) (N := 10) (fl_2_8 _ _ _ _) rfl inX1_findCount (by decide) lkX1_findCount_37 dX1_findCount_1 ?_
  subst hr
  exact Ev.iret rfl rfl dX1_findCount_4 ⟨rfl, rfl⟩
/-! X1_larkCount -/
def sX1_larkCount (g : Hg) : Int32 := (g 2 9)
set_option maxRecDepth 20000 in
set_option maxHeartbeats 1000000 in
theorem kX1_larkCount (g : Hg) (q : Int64) (g2 : Hg) (q2 : Int64) : CtI MX1_larkCount [.ref 2] (g, q, g2, q2) (fun x h' => x = (sX1_larkCount g) ∧ h' = (g, q, g2, q2)) := by
  generalize hr : sX1_larkCount g = r
  unfold sX1_larkCount at hr
  refine CtI_L 0 rfl (by decide +kernel) rfl (Nat.le_of_ble_eq_true rfl) ?_
  show Ev _ _ 0 [some (.ref 2)] [] _
  refine Ev.aload_n (pc := 0) dX1_larkCount_0 rfl ?_
  refine Ev.get (pc := 1) (C0 := RX1) (T := TX1) (N := 10) (fl_2_9 _ _ _ _) rfl inX1_larkCount (by decide) lkX1_larkCount_40 dX1_larkCount_1 ?_
  subst hr
  exact Ev.iret rfl rfl dX1_larkCount_4 ⟨rfl, rfl⟩
/-! X1_isFind -/
def sX1_isFind (g : Hg) (a1 : Int32) : Bool := if a1 < 0 then (false) else (if (g 2 8) ≤ a1 then (false) else (if (nI 5) ≤ a1 then (false) else (true)))
set_option maxRecDepth 20000 in
set_option maxHeartbeats 1000000 in
theorem kX1_isFind (g : Hg) (q : Int64) (g2 : Hg) (q2 : Int64) (a1 : Int32) : CtI MX1_isFind [.ref 2, .int a1] (g, q, g2, q2) (fun x h' => x = bI ((sX1_isFind g a1)) ∧ h' = (g, q, g2, q2)) := by
  generalize hr : sX1_isFind g a1 = r
  unfold sX1_isFind at hr
  refine CtI_L 0 rfl (by decide +kernel) rfl (Nat.le_of_ble_eq_true rfl) ?_
  show Ev _ _ 0 [some (.ref 2), some (.int a1)] [] _
  refine Ev.iload_n (pc := 0) dX1_isFind_0 rfl ?_
  refine Ev.iflt (pc := 1) (tgt := 21) dX1_isFind_1 (by decide) (fun c_1 => ?_) (fun c_1 => ?_)
  · have hr := ifp hr c_1
    refine Ev.iconst (pc := 21) (v := nI 0) dX1_isFind_21 (by decide) ?_
    subst hr
    exact Ev.iret rfl rfl dX1_isFind_22 ⟨rfl, rfl⟩
  · have hr := ifn hr c_1
    refine Ev.iload_n (pc := 4) dX1_isFind_4 rfl ?_
    refine Ev.aload_n (pc := 5) dX1_isFind_5 rfl ?_
    refine Ev.get (pc := 6) (C0 := RX1) (T := TX1) (N := 10) (fl_2_8 _ _ _ _) rfl inX1_isFind (by decide) lkX1_isFind_37 dX1_isFind_6 ?_
    refine Ev.icmpge (pc := 9) (tgt := 21) dX1_isFind_9 (by decide) (fun c_2 => ?_) (fun c_2 => ?_)
    · have hr := ifp hr c_2
      refine Ev.iconst (pc := 21) (v := nI 0) dX1_isFind_21 (by decide) ?_
      subst hr
      exact Ev.iret rfl rfl dX1_isFind_22 ⟨rfl, rfl⟩
    · have hr := ifn hr c_2
      refine Ev.iload_n (pc := 12) dX1_isFind_12 rfl ?_
      refine Ev.iconst (pc := 13) (v := nI 5) dX1_isFind_13 (by decide) ?_
      refine Ev.icmpge (pc := 14) (tgt := 21) dX1_isFind_14 (by decide) (fun c_3 => ?_) (fun c_3 => ?_)
      · have hr := ifp hr c_3
        refine Ev.iconst (pc := 21) (v := nI 0) dX1_isFind_21 (by decide) ?_
        subst hr
        exact Ev.iret rfl rfl dX1_isFind_22 ⟨rfl, rfl⟩
      · have hr := ifn hr c_3
        refine Ev.iconst (pc := 17) (v := nI 1) dX1_isFind_17 (by decide) ?_
        refine Ev.goto (pc := 18) (tgt := 22) dX1_isFind_18 (by decide) ?_
        subst hr
        exact Ev.iret rfl rfl dX1_isFind_22 ⟨rfl, rfl⟩
/-! X1_isLark -/
def sX1_isLark (g : Hg) (a1 : Int32) : Bool := if a1 < 0 then (false) else (if (g 2 9) ≤ a1 then (false) else (if (nI 4) ≤ a1 then (false) else (true)))
set_option maxRecDepth 20000 in
set_option maxHeartbeats 1000000 in
theorem kX1_isLark (g : Hg) (q : Int64) (g2 : Hg) (q2 : Int64) (a1 : Int32) : CtI MX1_isLark [.ref 2, .int a1] (g, q, g2, q2) (fun x h' => x = bI ((sX1_isLark g a1)) ∧ h' = (g, q, g2, q2)) := by
  generalize hr : sX1_isLark g a1 = r
  unfold sX1_isLark at hr
  refine CtI_L 0 rfl (by decide +kernel) rfl (Nat.le_of_ble_eq_true rfl) ?_
  show Ev _ _ 0 [some (.ref 2), some (.int a1)] [] _
  refine Ev.iload_n (pc := 0) dX1_isLark_0 rfl ?_
  refine Ev.iflt (pc := 1) (tgt := 21) dX1_isLark_1 (by decide) (fun c_1 => ?_) (fun c_1 => ?_)
  · have hr := ifp hr c_1
    refine Ev.iconst (pc := 21) (v := nI 0) dX1_isLark_21 (by decide) ?_
    subst hr
    exact Ev.iret rfl rfl dX1_isLark_22 ⟨rfl, rfl⟩
  · have hr := ifn hr c_1
    refine Ev.iload_n (pc := 4) dX1_isLark_4 rfl ?_
    refine Ev.aload_n (pc := 5) dX1_isLark_5 rfl ?_
    refine Ev.get (pc := 6) (C0 := RX1) (T := TX1) (N := 10) (fl_2_9 _ _ _ _) rfl inX1_isLark (by decide) lkX1_isLark_40 dX1_isLark_6 ?_
    refine Ev.icmpge (pc := 9) (tgt := 21) dX1_isLark_9 (by decide) (fun c_2 => ?_) (fun c_2 => ?_)
    · have hr := ifp hr c_2
      refine Ev.iconst (pc := 21) (v := nI 0) dX1_isLark_21 (by decide) ?_
      subst hr
      exact Ev.iret rfl rfl dX1_isLark_22 ⟨rfl, rfl⟩
    · have hr := ifn hr c_2
      refine Ev.iload_n (pc := 12) dX1_isLark_12 rfl ?_
      refine Ev.iconst (pc := 13) (v := nI 4) dX1_isLark_13 (by decide) ?_
      refine Ev.icmpge (pc := 14) (tgt := 21) dX1_isLark_14 (by decide) (fun c_3 => ?_) (fun c_3 => ?_)
      · have hr := ifp hr c_3
        refine Ev.iconst (pc := 21) (v := nI 0) dX1_isLark_21 (by decide) ?_
        subst hr
        exact Ev.iret rfl rfl dX1_isLark_22 ⟨rfl, rfl⟩
      · have hr := ifn hr c_3
        refine Ev.iconst (pc := 17) (v := nI 1) dX1_isLark_17 (by decide) ?_
        refine Ev.goto (pc := 18) (tgt := 22) dX1_isLark_18 (by decide) ?_
        subst hr
        exact Ev.iret rfl rfl dX1_isLark_22 ⟨rfl, rfl⟩
/-! X1_height -/
def sX1_height (g : Hg) (a1 : Int32) : Option (Int32) := if a1 < 0 then (some ((-9))) else (if (nI 12) ≤ a1 then (some ((-9))) else (if inb a1 12 = true then (some (g 11 (Int32.toNatClampNeg a1))) else none))
set_option maxRecDepth 20000 in
set_option maxHeartbeats 1000000 in
theorem kX1_height (g : Hg) (q : Int64) (g2 : Hg) (q2 : Int64) (a1 : Int32) {r : Int32} (hr : sX1_height g a1 = some r) : CtI MX1_height [.ref 2, .int a1] (g, q, g2, q2) (fun x h' => x = r ∧ h' = (g, q, g2, q2)) := by
  unfold sX1_height at hr
  refine CtI_L 0 rfl (by decide +kernel) rfl (Nat.le_of_ble_eq_true rfl) ?_
  show Ev _ _ 0 [some (.ref 2), some (.int a1)] [] _
  refine Ev.iload_n (pc := 0) dX1_height_0 rfl ?_
  refine Ev.iflt (pc := 1) (tgt := 19) dX1_height_1 (by decide) (fun c_1 => ?_) (fun c_1 => ?_)
  · have hr := ifp hr c_1
    refine Ev.bipush (pc := 19) (v := (-9)) dX1_height_19 (by decide) ?_
    cases hr
    exact Ev.iret rfl rfl dX1_height_21 ⟨rfl, rfl⟩
  · have hr := ifn hr c_1
    refine Ev.iload_n (pc := 4) dX1_height_4 rfl ?_
    refine Ev.bipush (pc := 5) (v := nI 12) dX1_height_5 (by decide) ?_
    refine Ev.icmpge (pc := 7) (tgt := 19) dX1_height_7 (by decide) (fun c_2 => ?_) (fun c_2 => ?_)
    · have hr := ifp hr c_2
      refine Ev.bipush (pc := 19) (v := (-9)) dX1_height_19 (by decide) ?_
      cases hr
      exact Ev.iret rfl rfl dX1_height_21 ⟨rfl, rfl⟩
    · have hr := ifn hr c_2
      refine Ev.aload_n (pc := 10) dX1_height_10 rfl ?_
      refine Ev.get (pc := 11) (C0 := RX1) (T := TX1) (N := 10) (fl_2_0 _ _ _ _) rfl inX1_height (by decide) lkX1_height_9 dX1_height_11 ?_
      refine Ev.iload_n (pc := 14) dX1_height_14 rfl ?_
      obtain ⟨c_3, hr⟩ := ckB hr
      refine Ev.iald (pc := 15) (ar_11 _ _ _ _) (inb_in c_3) dX1_height_15 ?_
      refine Ev.goto (pc := 16) (tgt := 21) dX1_height_16 (by decide) ?_
      cases hr
      exact Ev.iret rfl rfl dX1_height_21 ⟨rfl, rfl⟩
/-! X1_toldCellOfFind -/
def sX1_toldCellOfFind (g : Hg) (a1 : Int32) : Option (Int32) := if (sX1_isFind g a1) = true then (if inb a1 5 = true then (some (g 13 (Int32.toNatClampNeg a1))) else none) else (some ((-9)))
set_option maxRecDepth 20000 in
set_option maxHeartbeats 1000000 in
theorem kX1_toldCellOfFind (g : Hg) (q : Int64) (g2 : Hg) (q2 : Int64) (a1 : Int32) {r : Int32} (hr : sX1_toldCellOfFind g a1 = some r) : CtI MX1_toldCellOfFind [.ref 2, .int a1] (g, q, g2, q2) (fun x h' => x = r ∧ h' = (g, q, g2, q2)) := by
  unfold sX1_toldCellOfFind at hr
  refine CtI_L 0 rfl (by decide +kernel) rfl (Nat.le_of_ble_eq_true rfl) ?_
  show Ev _ _ 0 [some (.ref 2), some (.int a1)] [] _
  refine Ev.aload_n (pc := 0) dX1_toldCellOfFind_0 rfl ?_
  refine Ev.iload_n (pc := 1) dX1_toldCellOfFind_1 rfl ?_
  refine Ev.cVi (pc := 2) (As := [.int _]) (kX1_isFind _ _ _ _ _) rfl rfl (ob_2 _) gX1_toldCellOfFind_X1_isFind hdX1_isFind rfl ⟨rfl, rfl⟩ ⟨Nat.le_of_ble_eq_true rfl, Nat.le_of_ble_eq_true rfl⟩ (Nat.le_of_ble_eq_true rfl) ⟨Nat.le_of_ble_eq_true rfl, Nat.le_of_ble_eq_true rfl⟩ dX1_toldCellOfFind_2 ?_
  refine Ev.ifeqB (pc := 5) (tgt := 17) dX1_toldCellOfFind_5 (by decide) (fun c_1 => ?_) (fun c_1 => ?_)
  · have hr := ifn hr (ntr c_1)
    refine Ev.bipush (pc := 17) (v := (-9)) dX1_toldCellOfFind_17 (by decide) ?_
    cases hr
    exact Ev.iret rfl rfl dX1_toldCellOfFind_19 ⟨rfl, rfl⟩
  · have hr := ifp hr c_1
    refine Ev.aload_n (pc := 8) dX1_toldCellOfFind_8 rfl ?_
    refine Ev.get (pc := 9) (C0 := RX1) (T := TX1) (N := 10) (fl_2_2 _ _ _ _) rfl inX1_toldCellOfFind (by decide) lkX1_toldCellOfFind_18 dX1_toldCellOfFind_9 ?_
    refine Ev.iload_n (pc := 12) dX1_toldCellOfFind_12 rfl ?_
    obtain ⟨c_2, hr⟩ := ckB hr
    refine Ev.iald (pc := 13) (ar_13 _ _ _ _) (inb_in c_2) dX1_toldCellOfFind_13 ?_
    refine Ev.goto (pc := 14) (tgt := 19) dX1_toldCellOfFind_14 (by decide) ?_
    cases hr
    exact Ev.iret rfl rfl dX1_toldCellOfFind_19 ⟨rfl, rfl⟩
/-! X1_toldCellOfLark -/
def sX1_toldCellOfLark (g : Hg) (a1 : Int32) : Option (Int32) := if (sX1_isLark g a1) = true then (if inb a1 4 = true then (some (g 16 (Int32.toNatClampNeg a1))) else none) else (some ((-9)))
set_option maxRecDepth 20000 in
set_option maxHeartbeats 1000000 in
theorem kX1_toldCellOfLark (g : Hg) (q : Int64) (g2 : Hg) (q2 : Int64) (a1 : Int32) {r : Int32} (hr : sX1_toldCellOfLark g a1 = some r) : CtI MX1_toldCellOfLark [.ref 2, .int a1] (g, q, g2, q2) (fun x h' => x = r ∧ h' = (g, q, g2, q2)) := by
  unfold sX1_toldCellOfLark at hr
  refine CtI_L 0 rfl (by decide +kernel) rfl (Nat.le_of_ble_eq_true rfl) ?_
  show Ev _ _ 0 [some (.ref 2), some (.int a1)] [] _
  refine Ev.aload_n (pc := 0) dX1_toldCellOfLark_0 rfl ?_
  refine Ev.iload_n (pc := 1) dX1_toldCellOfLark_1 rfl ?_
  refine Ev.cVi (pc := 2) (As := [.int _]) (kX1_isLark _ _ _ _ _) rfl rfl (ob_2 _) gX1_toldCellOfLark_X1_isLark hdX1_isLark rfl ⟨rfl, rfl⟩ ⟨Nat.le_of_ble_eq_true rfl, Nat.le_of_ble_eq_true rfl⟩ (Nat.le_of_ble_eq_true rfl) ⟨Nat.le_of_ble_eq_true rfl, Nat.le_of_ble_eq_true rfl⟩ dX1_toldCellOfLark_2 ?_
  refine Ev.ifeqB (pc := 5) (tgt := 17) dX1_toldCellOfLark_5 (by decide) (fun c_1 => ?_) (fun c_1 => ?_)
  · have hr := ifn hr (ntr c_1)
    refine Ev.bipush (pc := 17) (v := (-9)) dX1_toldCellOfLark_17 (by decide) ?_
    cases hr
    exact Ev.iret rfl rfl dX1_toldCellOfLark_19 ⟨rfl, rfl⟩
  · have hr := ifp hr c_1
    refine Ev.aload_n (pc := 8) dX1_toldCellOfLark_8 rfl ?_
    refine Ev.get (pc := 9) (C0 := RX1) (T := TX1) (N := 10) (fl_2_5 _ _ _ _) rfl inX1_toldCellOfLark (by decide) lkX1_toldCellOfLark_27 dX1_toldCellOfLark_9 ?_
    refine Ev.iload_n (pc := 12) dX1_toldCellOfLark_12 rfl ?_
    obtain ⟨c_2, hr⟩ := ckB hr
    refine Ev.iald (pc := 13) (ar_16 _ _ _ _) (inb_in c_2) dX1_toldCellOfLark_13 ?_
    refine Ev.goto (pc := 14) (tgt := 19) dX1_toldCellOfLark_14 (by decide) ?_
    cases hr
    exact Ev.iret rfl rfl dX1_toldCellOfLark_19 ⟨rfl, rfl⟩
/-! X1_age -/
def sX1_age (g : Hg) (a1 : Int32) : Option (Int32) := if (sX1_isFind g a1) = true then (if inb a1 5 = true then (some (g 14 (Int32.toNatClampNeg a1))) else none) else (some ((-9)))
set_option maxRecDepth 20000 in
set_option maxHeartbeats 1000000 in
theorem kX1_age (g : Hg) (q : Int64) (g2 : Hg) (q2 : Int64) (a1 : Int32) {r : Int32} (hr : sX1_age g a1 = some r) : CtI MX1_age [.ref 2, .int a1] (g, q, g2, q2) (fun x h' => x = r ∧ h' = (g, q, g2, q2)) := by
  unfold sX1_age at hr
  refine CtI_L 0 rfl (by decide +kernel) rfl (Nat.le_of_ble_eq_true rfl) ?_
  show Ev _ _ 0 [some (.ref 2), some (.int a1)] [] _
  refine Ev.aload_n (pc := 0) dX1_age_0 rfl ?_
  refine Ev.iload_n (pc := 1) dX1_age_1 rfl ?_
  refine Ev.cVi (pc := 2) (As := [.int _]) (kX1_isFind _ _ _ _ _) rfl rfl (ob_2 _) gX1_age_X1_isFind hdX1_isFind rfl ⟨rfl, rfl⟩ ⟨Nat.le_of_ble_eq_true rfl, Nat.le_of_ble_eq_true rfl⟩ (Nat.le_of_ble_eq_true rfl) ⟨Nat.le_of_ble_eq_true rfl, Nat.le_of_ble_eq_true rfl⟩ dX1_age_2 ?_
  refine Ev.ifeqB (pc := 5) (tgt := 17) dX1_age_5 (by decide) (fun c_1 => ?_) (fun c_1 => ?_)
  · have hr := ifn hr (ntr c_1)
    refine Ev.bipush (pc := 17) (v := (-9)) dX1_age_17 (by decide) ?_
    cases hr
    exact Ev.iret rfl rfl dX1_age_19 ⟨rfl, rfl⟩
  · have hr := ifp hr c_1
    refine Ev.aload_n (pc := 8) dX1_age_8 rfl ?_
    refine Ev.get (pc := 9) (C0 := RX1) (T := TX1) (N := 10) (fl_2_3 _ _ _ _) rfl inX1_age (by decide) lkX1_age_21 dX1_age_9 ?_
    refine Ev.iload_n (pc := 12) dX1_age_12 rfl ?_
    obtain ⟨c_2, hr⟩ := ckB hr
    refine Ev.iald (pc := 13) (ar_14 _ _ _ _) (inb_in c_2) dX1_age_13 ?_
    refine Ev.goto (pc := 14) (tgt := 19) dX1_age_14 (by decide) ?_
    cases hr
    exact Ev.iret rfl rfl dX1_age_19 ⟨rfl, rfl⟩
/-! X1_kind -/
def sX1_kind (g : Hg) (a1 : Int32) : Option (Int32) := if (sX1_isFind g a1) = true then (if inb a1 5 = true then (some (g 15 (Int32.toNatClampNeg a1))) else none) else (some ((-9)))
set_option maxRecDepth 20000 in
set_option maxHeartbeats 1000000 in
theorem kX1_kind (g : Hg) (q : Int64) (g2 : Hg) (q2 : Int64) (a1 : Int32) {r : Int32} (hr : sX1_kind g a1 = some r) : CtI MX1_kind [.ref 2, .int a1] (g, q, g2, q2) (fun x h' => x = r ∧ h' = (g, q, g2, q2)) := by
  unfold sX1_kind at hr
  refine CtI_L 0 rfl (by decide +kernel) rfl (Nat.le_of_ble_eq_true rfl) ?_
  show Ev _ _ 0 [some (.ref 2), some (.int a1)] [] _
  refine Ev.aload_n (pc := 0) dX1_kind_0 rfl ?_
  refine Ev.iload_n (pc := 1) dX1_kind_1 rfl ?_
  refine Ev.cVi (pc := 2) (As := [.int _]) (kX1_isFind _ _ _ _ _) rfl rfl (ob_2 _) gX1_kind_X1_isFind hdX1_isFind rfl ⟨rfl, rfl⟩ ⟨Nat.le_of_ble_eq_true rfl, Nat.le_of_ble_eq_true rfl⟩ (Nat.le_of_ble_eq_true rfl) ⟨Nat.le_of_ble_eq_true rfl, Nat.le_of_ble_eq_true rfl⟩ dX1_kind_2 ?_
  refine Ev.ifeqB (pc := 5) (tgt := 17) dX1_kind_5 (by decide) (fun c_1 => ?_) (fun c_1 => ?_)
  · have hr := ifn hr (ntr c_1)
    refine Ev.bipush (pc := 17) (v := (-9)) dX1_kind_17 (by decide) ?_
    cases hr
    exact Ev.iret rfl rfl dX1_kind_19 ⟨rfl, rfl⟩
  · have hr := ifp hr c_1
    refine Ev.aload_n (pc := 8) dX1_kind_8 rfl ?_
    refine Ev.get (pc := 9) (C0 := RX1) (T := TX1) (N := 10) (fl_2_4 _ _ _ _) rfl inX1_kind (by decide) lkX1_kind_24 dX1_kind_9 ?_
    refine Ev.iload_n (pc := 12) dX1_kind_12 rfl ?_
    obtain ⟨c_2, hr⟩ := ckB hr
    refine Ev.iald (pc := 13) (ar_15 _ _ _ _) (inb_in c_2) dX1_kind_13 ?_
    refine Ev.goto (pc := 14) (tgt := 19) dX1_kind_14 (by decide) ?_
    cases hr
    exact Ev.iret rfl rfl dX1_kind_19 ⟨rfl, rfl⟩
/-! X1_board -/
def sX1_board (g : Hg) (a1 : Int32) : Option (Int32) := if (sX1_isLark g a1) = true then (if inb a1 4 = true then (some (g 17 (Int32.toNatClampNeg a1))) else none) else (some ((-9)))
set_option maxRecDepth 20000 in
set_option maxHeartbeats 1000000 in
theorem kX1_board (g : Hg) (q : Int64) (g2 : Hg) (q2 : Int64) (a1 : Int32) {r : Int32} (hr : sX1_board g a1 = some r) : CtI MX1_board [.ref 2, .int a1] (g, q, g2, q2) (fun x h' => x = r ∧ h' = (g, q, g2, q2)) := by
  unfold sX1_board at hr
  refine CtI_L 0 rfl (by decide +kernel) rfl (Nat.le_of_ble_eq_true rfl) ?_
  show Ev _ _ 0 [some (.ref 2), some (.int a1)] [] _
  refine Ev.aload_n (pc := 0) dX1_board_0 rfl ?_
  refine Ev.iload_n (pc := 1) dX1_board_1 rfl ?_
  refine Ev.cVi (pc := 2) (As := [.int _]) (kX1_isLark _ _ _ _ _) rfl rfl (ob_2 _) gX1_board_X1_isLark hdX1_isLark rfl ⟨rfl, rfl⟩ ⟨Nat.le_of_ble_eq_true rfl, Nat.le_of_ble_eq_true rfl⟩ (Nat.le_of_ble_eq_true rfl) ⟨Nat.le_of_ble_eq_true rfl, Nat.le_of_ble_eq_true rfl⟩ dX1_board_2 ?_
  refine Ev.ifeqB (pc := 5) (tgt := 17) dX1_board_5 (by decide) (fun c_1 => ?_) (fun c_1 => ?_)
  · have hr := ifn hr (ntr c_1)
    refine Ev.bipush (pc := 17) (v := (-9)) dX1_board_17 (by decide) ?_
    cases hr
    exact Ev.iret rfl rfl dX1_board_19 ⟨rfl, rfl⟩
  · have hr := ifp hr c_1
    refine Ev.aload_n (pc := 8) dX1_board_8 rfl ?_
    refine Ev.get (pc := 9) (C0 := RX1) (T := TX1) (N := 10) (fl_2_6 _ _ _ _) rfl inX1_board (by decide) lkX1_board_30 dX1_board_9 ?_
    refine Ev.iload_n (pc := 12) dX1_board_12 rfl ?_
    obtain ⟨c_2, hr⟩ := ckB hr
    refine Ev.iald (pc := 13) (ar_17 _ _ _ _) (inb_in c_2) dX1_board_13 ?_
    refine Ev.goto (pc := 14) (tgt := 19) dX1_board_14 (by decide) ?_
    cases hr
    exact Ev.iret rfl rfl dX1_board_19 ⟨rfl, rfl⟩
/-! X1_waterIn -/
def sX1_waterIn (g : Hg) (a1 : Int32) : Option (Int32) := if (g 2 7) ≤ 0 then (some (nI 0)) else (if (nI 6) < (g 2 7) then (some (nI 0)) else (if a1 < 0 then (some (nI 0)) else (if nz (g 2 7) = true then (if inb (a1 - a1 / (g 2 7) * (g 2 7)) 6 = true then (some (g 12 (Int32.toNatClampNeg (a1 - a1 / (g 2 7) * (g 2 7))))) else none) else none)))
set_option maxRecDepth 20000 in
set_option maxHeartbeats 1000000 in
theorem kX1_waterIn (g : Hg) (q : Int64) (g2 : Hg) (q2 : Int64) (a1 : Int32) {r : Int32} (hr : sX1_waterIn g a1 = some r) : CtI MX1_waterIn [.ref 2, .int a1] (g, q, g2, q2) (fun x h' => x = r ∧ h' = (g, q, g2, q2)) := by
  unfold sX1_waterIn at hr
  refine CtI_L 0 rfl (by decide +kernel) rfl (Nat.le_of_ble_eq_true rfl) ?_
  show Ev _ _ 0 [some (.ref 2), some (.int a1)] [] _
  refine Ev.aload_n (pc := 0) dX1_waterIn_0 rfl ?_
  refine Ev.get (pc := 1) (C0 := RX1) (T := TX1) (N := 10) (fl_2_7 _ _ _ _) rfl inX1_waterIn (by decide) lkX1_waterIn_33 dX1_waterIn_1 ?_
  refine Ev.ifle (pc := 4) (tgt := 34) dX1_waterIn_4 (by decide) (fun c_1 => ?_) (fun c_1 => ?_)
  · have hr := ifp hr c_1
    refine Ev.iconst (pc := 34) (v := nI 0) dX1_waterIn_34 (by decide) ?_
    cases hr
    exact Ev.iret rfl rfl dX1_waterIn_35 ⟨rfl, rfl⟩
  · have hr := ifn hr c_1
    refine Ev.aload_n (pc := 7) dX1_waterIn_7 rfl ?_
    refine Ev.get (pc := 8) (C0 := RX1) (T := TX1) (N := 10) (fl_2_7 _ _ _ _) rfl inX1_waterIn (by decide) lkX1_waterIn_33 dX1_waterIn_8 ?_
    refine Ev.bipush (pc := 11) (v := nI 6) dX1_waterIn_11 (by decide) ?_
    refine Ev.icmpgt (pc := 13) (tgt := 34) dX1_waterIn_13 (by decide) (fun c_2 => ?_) (fun c_2 => ?_)
    · have hr := ifp hr c_2
      refine Ev.iconst (pc := 34) (v := nI 0) dX1_waterIn_34 (by decide) ?_
      cases hr
      exact Ev.iret rfl rfl dX1_waterIn_35 ⟨rfl, rfl⟩
    · have hr := ifn hr c_2
      refine Ev.iload_n (pc := 16) dX1_waterIn_16 rfl ?_
      refine Ev.iflt (pc := 17) (tgt := 34) dX1_waterIn_17 (by decide) (fun c_3 => ?_) (fun c_3 => ?_)
      · have hr := ifp hr c_3
        refine Ev.iconst (pc := 34) (v := nI 0) dX1_waterIn_34 (by decide) ?_
        cases hr
        exact Ev.iret rfl rfl dX1_waterIn_35 ⟨rfl, rfl⟩
      · have hr := ifn hr c_3
        refine Ev.aload_n (pc := 20) dX1_waterIn_20 rfl ?_
        refine Ev.get (pc := 21) (C0 := RX1) (T := TX1) (N := 10) (fl_2_1 _ _ _ _) rfl inX1_waterIn (by decide) lkX1_waterIn_15 dX1_waterIn_21 ?_
        refine Ev.iload_n (pc := 24) dX1_waterIn_24 rfl ?_
        refine Ev.aload_n (pc := 25) dX1_waterIn_25 rfl ?_
        refine Ev.get (pc := 26) (C0 := RX1) (T := TX1) (N := 10) (fl_2_7 _ _ _ _) rfl inX1_waterIn (by decide) lkX1_waterIn_33 dX1_waterIn_26 ?_
        obtain ⟨c_4, hr⟩ := ckB hr
        refine Ev.irem (pc := 29) dX1_waterIn_29 (nz_ne c_4) ?_
        obtain ⟨c_5, hr⟩ := ckB hr
        refine Ev.iald (pc := 30) (ar_12 _ _ _ _) (inb_in c_5) dX1_waterIn_30 ?_
        refine Ev.goto (pc := 31) (tgt := 35) dX1_waterIn_31 (by decide) ?_
        cases hr
        exact Ev.iret rfl rfl dX1_waterIn_35 ⟨rfl, rfl⟩
/-! X1_isBared -/
def sX1_isBared (g : Hg) (a1 : Int32) (a2 : Int32) : Option (Bool) := (sX1_height g a1).bind fun x_1 => ((sX1_waterIn g a2).bind fun x_2 => (if x_1 < x_2 then (some false) else (some true)))
set_option maxRecDepth 20000 in
set_option maxHeartbeats 1000000 in
theorem kX1_isBared (g : Hg) (q : Int64) (g2 : Hg) (q2 : Int64) (a1 : Int32) (a2 : Int32) {r : Bool} (hr : sX1_isBared g a1 a2 = some r) : CtI MX1_isBared [.ref 2, .int a1, .int a2] (g, q, g2, q2) (fun x h' => x = bI r ∧ h' = (g, q, g2, q2)) := by
  unfold sX1_isBared at hr
  refine CtI_L 0 rfl (by decide +kernel) rfl (Nat.le_of_ble_eq_true rfl) ?_
  show Ev _ _ 0 [some (.ref 2), some (.int a1), some (.int a2)] [] _
  refine Ev.aload_n (pc := 0) dX1_isBared_0 rfl ?_
  refine Ev.iload_n (pc := 1) dX1_isBared_1 rfl ?_
  obtain ⟨x_1, hx_1, hr⟩ := Option.bind_eq_some_iff.mp hr
  refine Ev.cVi (pc := 2) (As := [.int _]) (kX1_height _ _ _ _ _ hx_1) rfl rfl (ob_2 _) gX1_isBared_X1_height hdX1_height rfl ⟨rfl, rfl⟩ ⟨Nat.le_of_ble_eq_true rfl, Nat.le_of_ble_eq_true rfl⟩ (Nat.le_of_ble_eq_true rfl) ⟨Nat.le_of_ble_eq_true rfl, Nat.le_of_ble_eq_true rfl⟩ dX1_isBared_2 ?_
  refine Ev.aload_n (pc := 5) dX1_isBared_5 rfl ?_
  refine Ev.iload_n (pc := 6) dX1_isBared_6 rfl ?_
  obtain ⟨x_2, hx_2, hr⟩ := Option.bind_eq_some_iff.mp hr
  refine Ev.cVi (pc := 7) (As := [.int _]) (kX1_waterIn _ _ _ _ _ hx_2) rfl rfl (ob_2 _) gX1_isBared_X1_waterIn hdX1_waterIn rfl ⟨rfl, rfl⟩ ⟨Nat.le_of_ble_eq_true rfl, Nat.le_of_ble_eq_true rfl⟩ (Nat.le_of_ble_eq_true rfl) ⟨Nat.le_of_ble_eq_true rfl, Nat.le_of_ble_eq_true rfl⟩ dX1_isBared_7 ?_
  refine Ev.icmplt (pc := 10) (tgt := 17) dX1_isBared_10 (by decide) (fun c_1 => ?_) (fun c_1 => ?_)
  · have hr := ifp hr c_1
    refine Ev.iconst (pc := 17) (v := nI 0) dX1_isBared_17 (by decide) ?_
    cases hr
    exact Ev.iret rfl rfl dX1_isBared_18 ⟨rfl, rfl⟩
  · have hr := ifn hr c_1
    refine Ev.iconst (pc := 13) (v := nI 1) dX1_isBared_13 (by decide) ?_
    refine Ev.goto (pc := 14) (tgt := 18) dX1_isBared_14 (by decide) ?_
    cases hr
    exact Ev.iret rfl rfl dX1_isBared_18 ⟨rfl, rfl⟩
/-! X8_bit -/
def sX8_bit (a1 : Int32) : Int32 := ((nI 1) <<< (a1 &&& 31))
set_option maxRecDepth 20000 in
set_option maxHeartbeats 1000000 in
theorem kX8_bit (g : Hg) (q : Int64) (g2 : Hg) (q2 : Int64) (a1 : Int32) : CtI MX8_bit [.int a1] (g, q, g2, q2) (fun x h' => x = (sX8_bit a1) ∧ h' = (g, q, g2, q2)) := by
  generalize hr : sX8_bit a1 = r
  unfold sX8_bit at hr
  refine CtI_L 0 rfl (by decide +kernel) rfl (Nat.le_of_ble_eq_true rfl) ?_
  show Ev _ _ 0 [some (.int a1)] [] _
  refine Ev.iconst (pc := 0) (v := nI 1) dX8_bit_0 (by decide) ?_
  refine Ev.iload_n (pc := 1) dX8_bit_1 rfl ?_
  refine Ev.ishl (pc := 2) dX8_bit_2 ?_
  subst hr
  exact Ev.iret rfl rfl dX8_bit_3 ⟨rfl, rfl⟩
/-! X1_baredCells -/
def sX1_baredCells_4 (g : Hg) (v1 : Int32) : Nat → Int32 → Int32 → Option (Int32)
  | 0, _, _ => none
  | n + 1, v2, v3 => if (nI 12) ≤ v3 then (some v2) else ((sX1_isBared g v3 v1).bind fun x_1 => (if x_1 = true then (sX1_baredCells_4 g v1 n (v2 ||| (sX8_bit v3)) (v3 + (nI 1))) else (sX1_baredCells_4 g v1 n v2 (v3 + (nI 1)))))
set_option maxRecDepth 20000 in
set_option maxHeartbeats 1000000 in
theorem kX1_baredCells_4 (g : Hg) (q : Int64) (g2 : Hg) (q2 : Int64)  (v1 : Int32) (r : Int32) : ∀ (n : Nat) (v2 : Int32) (v3 : Int32), sX1_baredCells_4 g v1 n v2 v3 = some r → Ev (Xi (fun x h' => x = r ∧ h' = (g, q, g2, q2))) MX1_baredCells 4 [some (.ref 2), some (.int v1), some (.int v2), some (.int v3)] [] (g, q, g2, q2) := by
  intro n
  induction n with
  | zero => intro _ _ hr; cases hr
  | succ n ih =>
    intro v2 v3 hr
    rw [sX1_baredCells_4] at hr
    refine Ev.iload_n (pc := 4) dX1_baredCells_4 rfl ?_
    refine Ev.bipush (pc := 5) (v := nI 12) dX1_baredCells_5 (by decide) ?_
    refine Ev.icmpge (pc := 7) (tgt := 32) dX1_baredCells_7 (by decide) (fun c_1 => ?_) (fun c_1 => ?_)
    · have hr := ifp hr c_1
      refine Ev.iload_n (pc := 32) dX1_baredCells_32 rfl ?_
      cases hr
      exact Ev.iret rfl rfl dX1_baredCells_33 ⟨rfl, rfl⟩
    · have hr := ifn hr c_1
      refine Ev.aload_n (pc := 10) dX1_baredCells_10 rfl ?_
      refine Ev.iload_n (pc := 11) dX1_baredCells_11 rfl ?_
      refine Ev.iload_n (pc := 12) dX1_baredCells_12 rfl ?_
      obtain ⟨x_1, hx_1, hr⟩ := Option.bind_eq_some_iff.mp hr
      refine Ev.cVi (pc := 13) (As := [.int _, .int _]) (kX1_isBared _ _ _ _ _ _ hx_1) rfl rfl (ob_2 _) gX1_baredCells_X1_isBared hdX1_isBared rfl ⟨rfl, rfl⟩ ⟨Nat.le_of_ble_eq_true rfl, Nat.le_of_ble_eq_true rfl⟩ (Nat.le_of_ble_eq_true rfl) ⟨Nat.le_of_ble_eq_true rfl, Nat.le_of_ble_eq_true rfl⟩ dX1_baredCells_13 ?_
      refine Ev.ifeqB (pc := 16) (tgt := 26) dX1_baredCells_16 (by decide) (fun c_2 => ?_) (fun c_2 => ?_)
      · have hr := ifn hr (ntr c_2)
        refine Ev.iinc (pc := 26) (v := nI 1) dX1_baredCells_26 rfl rfl rfl rfl ?_
        refine Ev.goto (pc := 29) (tgt := 4) dX1_baredCells_29 (by decide) ?_
        exact ih _ _ hr
      · have hr := ifp hr c_2
        refine Ev.iload_n (pc := 19) dX1_baredCells_19 rfl ?_
        refine Ev.iload_n (pc := 20) dX1_baredCells_20 rfl ?_
        refine Ev.cNi (pc := 21) (As := [.int _]) (kX8_bit _ _ _ _ _) rfl gX1_baredCells_X8_bit_n84 (by decide +kernel) stX1_baredCells_X8_bit iniX1_baredCells_X8_bit hdX8_bit rfl ⟨rfl, rfl⟩ ⟨Nat.le_of_ble_eq_true rfl, Nat.le_of_ble_eq_true rfl⟩ (Nat.le_of_ble_eq_true rfl) ⟨Nat.le_of_ble_eq_true rfl, Nat.le_of_ble_eq_true rfl⟩ dX1_baredCells_21 ?_
        refine Ev.ior (pc := 24) dX1_baredCells_24 ?_
        refine Ev.istore_n (pc := 25) dX1_baredCells_25 rfl rfl ?_
        refine Ev.iinc (pc := 26) (v := nI 1) dX1_baredCells_26 rfl rfl rfl rfl ?_
        refine Ev.goto (pc := 29) (tgt := 4) dX1_baredCells_29 (by decide) ?_
        exact ih _ _ hr
def sX1_baredCells (g : Hg) (a1 : Int32) : Option (Int32) := sX1_baredCells_4 g a1 100 (nI 0) (nI 0)
set_option maxRecDepth 20000 in
set_option maxHeartbeats 1000000 in
theorem kX1_baredCells (g : Hg) (q : Int64) (g2 : Hg) (q2 : Int64) (a1 : Int32) {r : Int32} (hr : sX1_baredCells g a1 = some r) : CtI MX1_baredCells [.ref 2, .int a1] (g, q, g2, q2) (fun x h' => x = r ∧ h' = (g, q, g2, q2)) := by
  unfold sX1_baredCells at hr
  refine CtI_L 2 rfl (by decide +kernel) rfl (Nat.le_of_ble_eq_true rfl) ?_
  show Ev _ _ 0 [some (.ref 2), some (.int a1), none, none] [] _
  refine Ev.iconst (pc := 0) (v := nI 0) dX1_baredCells_0 (by decide) ?_
  refine Ev.istore_n (pc := 1) dX1_baredCells_1 rfl rfl ?_
  refine Ev.iconst (pc := 2) (v := nI 0) dX1_baredCells_2 (by decide) ?_
  refine Ev.istore_n (pc := 3) dX1_baredCells_3 rfl rfl ?_
  exact kX1_baredCells_4 _ _ _ _ _ _ 100 _ _ hr
/-! X1_stands -/
def sX1_stands (g : Hg) (a1 : Int32) (a2 : Int32) (a3 : Int32) : Option (Bool) := (sX1_height g a2).bind fun x_1 => ((sX1_board g a1).bind fun x_2 => ((sX1_waterIn g a3).bind fun x_3 => (if (x_1 + x_2) < x_3 then (some false) else (some true))))
set_option maxRecDepth 20000 in
set_option maxHeartbeats 1000000 in
theorem kX1_stands (g : Hg) (q : Int64) (g2 : Hg) (q2 : Int64) (a1 : Int32) (a2 : Int32) (a3 : Int32) {r : Bool} (hr : sX1_stands g a1 a2 a3 = some r) : CtI MX1_stands [.ref 2, .int a1, .int a2, .int a3] (g, q, g2, q2) (fun x h' => x = bI r ∧ h' = (g, q, g2, q2)) := by
  unfold sX1_stands at hr
  refine CtI_L 0 rfl (by decide +kernel) rfl (Nat.le_of_ble_eq_true rfl) ?_
  show Ev _ _ 0 [some (.ref 2), some (.int a1), some (.int a2), some (.int a3)] [] _
  refine Ev.aload_n (pc := 0) dX1_stands_0 rfl ?_
  refine Ev.iload_n (pc := 1) dX1_stands_1 rfl ?_
  obtain ⟨x_1, hx_1, hr⟩ := Option.bind_eq_some_iff.mp hr
  refine Ev.cVi (pc := 2) (As := [.int _]) (kX1_height _ _ _ _ _ hx_1) rfl rfl (ob_2 _) gX1_stands_X1_height hdX1_height rfl ⟨rfl, rfl⟩ ⟨Nat.le_of_ble_eq_true rfl, Nat.le_of_ble_eq_true rfl⟩ (Nat.le_of_ble_eq_true rfl) ⟨Nat.le_of_ble_eq_true rfl, Nat.le_of_ble_eq_true rfl⟩ dX1_stands_2 ?_
  refine Ev.aload_n (pc := 5) dX1_stands_5 rfl ?_
  refine Ev.iload_n (pc := 6) dX1_stands_6 rfl ?_
  obtain ⟨x_2, hx_2, hr⟩ := Option.bind_eq_some_iff.mp hr
  refine Ev.cVi (pc := 7) (As := [.int _]) (kX1_board _ _ _ _ _ hx_2) rfl rfl (ob_2 _) gX1_stands_X1_board hdX1_board rfl ⟨rfl, rfl⟩ ⟨Nat.le_of_ble_eq_true rfl, Nat.le_of_ble_eq_true rfl⟩ (Nat.le_of_ble_eq_true rfl) ⟨Nat.le_of_ble_eq_true rfl, Nat.le_of_ble_eq_true rfl⟩ dX1_stands_7 ?_
  refine Ev.iadd (pc := 10) dX1_stands_10 ?_
  refine Ev.aload_n (pc := 11) dX1_stands_11 rfl ?_
  refine Ev.iload_n (pc := 12) dX1_stands_12 rfl ?_
  obtain ⟨x_3, hx_3, hr⟩ := Option.bind_eq_some_iff.mp hr
  refine Ev.cVi (pc := 13) (As := [.int _]) (kX1_waterIn _ _ _ _ _ hx_3) rfl rfl (ob_2 _) gX1_stands_X1_waterIn hdX1_waterIn rfl ⟨rfl, rfl⟩ ⟨Nat.le_of_ble_eq_true rfl, Nat.le_of_ble_eq_true rfl⟩ (Nat.le_of_ble_eq_true rfl) ⟨Nat.le_of_ble_eq_true rfl, Nat.le_of_ble_eq_true rfl⟩ dX1_stands_13 ?_
  refine Ev.icmplt (pc := 16) (tgt := 23) dX1_stands_16 (by decide) (fun c_1 => ?_) (fun c_1 => ?_)
  · have hr := ifp hr c_1
    refine Ev.iconst (pc := 23) (v := nI 0) dX1_stands_23 (by decide) ?_
    cases hr
    exact Ev.iret rfl rfl dX1_stands_24 ⟨rfl, rfl⟩
  · have hr := ifn hr c_1
    refine Ev.iconst (pc := 19) (v := nI 1) dX1_stands_19 (by decide) ?_
    refine Ev.goto (pc := 20) (tgt := 24) dX1_stands_20 (by decide) ?_
    cases hr
    exact Ev.iret rfl rfl dX1_stands_24 ⟨rfl, rfl⟩
/-! X1_cellsToStandOn -/
def sX1_cellsToStandOn_31 (g : Hg) (v1 : Int32) (v2 : Int32) (v3 : Int32) : Nat → Int32 → Int32 → Option (Int32)
  | 0, _, _ => none
  | n + 1, v4, v5 => if (nI 12) ≤ v5 then (some v4) else (if inb v5 12 = true then (if (g 11 (Int32.toNatClampNeg v5)) < v3 then (sX1_cellsToStandOn_31 g v1 v2 v3 n v4 (v5 + (nI 1))) else (sX1_cellsToStandOn_31 g v1 v2 v3 n (v4 ||| (sX8_bit v5)) (v5 + (nI 1)))) else none)
set_option maxRecDepth 20000 in
set_option maxHeartbeats 1000000 in
theorem kX1_cellsToStandOn_31 (g : Hg) (q : Int64) (g2 : Hg) (q2 : Int64)  (v1 : Int32) (v2 : Int32) (v3 : Int32) (r : Int32) : ∀ (n : Nat) (v4 : Int32) (v5 : Int32), sX1_cellsToStandOn_31 g v1 v2 v3 n v4 v5 = some r → Ev (Xi (fun x h' => x = r ∧ h' = (g, q, g2, q2))) MX1_cellsToStandOn 31 [some (.ref 2), some (.int v1), some (.int v2), some (.int v3), some (.int v4), some (.int v5)] [] (g, q, g2, q2) := by
  intro n
  induction n with
  | zero => intro _ _ hr; cases hr
  | succ n ih =>
    intro v4 v5 hr
    rw [sX1_cellsToStandOn_31] at hr
    refine Ev.iload (pc := 31) dX1_cellsToStandOn_31 rfl ?_
    refine Ev.bipush (pc := 33) (v := nI 12) dX1_cellsToStandOn_33 (by decide) ?_
    refine Ev.icmpge (pc := 35) (tgt := 65) dX1_cellsToStandOn_35 (by decide) (fun c_2 => ?_) (fun c_2 => ?_)
    · have hr := ifp hr c_2
      refine Ev.iload (pc := 65) dX1_cellsToStandOn_65 rfl ?_
      cases hr
      exact Ev.iret rfl rfl dX1_cellsToStandOn_67 ⟨rfl, rfl⟩
    · have hr := ifn hr c_2
      refine Ev.aload_n (pc := 38) dX1_cellsToStandOn_38 rfl ?_
      refine Ev.get (pc := 39) (C0 := RX1) (T := TX1) (N := 10) (fl_2_0 _ _ _ _) rfl inX1_cellsToStandOn (by decide) lkX1_cellsToStandOn_9 dX1_cellsToStandOn_39 ?_
      refine Ev.iload (pc := 42) dX1_cellsToStandOn_42 rfl ?_
      obtain ⟨c_3, hr⟩ := ckB hr
      refine Ev.iald (pc := 44) (ar_11 _ _ _ _) (inb_in c_3) dX1_cellsToStandOn_44 ?_
      refine Ev.iload_n (pc := 45) dX1_cellsToStandOn_45 rfl ?_
      refine Ev.icmplt (pc := 46) (tgt := 59) dX1_cellsToStandOn_46 (by decide) (fun c_4 => ?_) (fun c_4 => ?_)
      · have hr := ifp hr c_4
        refine Ev.iinc (pc := 59) (v := nI 1) dX1_cellsToStandOn_59 rfl rfl rfl rfl ?_
        refine Ev.goto (pc := 62) (tgt := 31) dX1_cellsToStandOn_62 (by decide) ?_
        exact ih _ _ hr
      · have hr := ifn hr c_4
        refine Ev.iload (pc := 49) dX1_cellsToStandOn_49 rfl ?_
        refine Ev.iload (pc := 51) dX1_cellsToStandOn_51 rfl ?_
        refine Ev.cNi (pc := 53) (As := [.int _]) (kX8_bit _ _ _ _ _) rfl gX1_cellsToStandOn_X8_bit_n84 (by decide +kernel) stX1_cellsToStandOn_X8_bit iniX1_cellsToStandOn_X8_bit hdX8_bit rfl ⟨rfl, rfl⟩ ⟨Nat.le_of_ble_eq_true rfl, Nat.le_of_ble_eq_true rfl⟩ (Nat.le_of_ble_eq_true rfl) ⟨Nat.le_of_ble_eq_true rfl, Nat.le_of_ble_eq_true rfl⟩ dX1_cellsToStandOn_53 ?_
        refine Ev.ior (pc := 56) dX1_cellsToStandOn_56 ?_
        refine Ev.istore (pc := 57) dX1_cellsToStandOn_57 rfl rfl ?_
        refine Ev.iinc (pc := 59) (v := nI 1) dX1_cellsToStandOn_59 rfl rfl rfl rfl ?_
        refine Ev.goto (pc := 62) (tgt := 31) dX1_cellsToStandOn_62 (by decide) ?_
        exact ih _ _ hr
def sX1_cellsToStandOn (g : Hg) (a1 : Int32) (a2 : Int32) : Option (Int32) := (sX1_waterIn g a2).bind fun x_1 => (if (sX1_isLark g a1) = true then (if inb a1 4 = true then (sX1_cellsToStandOn_31 g a1 a2 (x_1 - (g 17 (Int32.toNatClampNeg a1))) 100 (nI 0) (nI 0)) else none) else (sX1_cellsToStandOn_31 g a1 a2 (x_1 - (nI 0)) 100 (nI 0) (nI 0)))
set_option maxRecDepth 20000 in
set_option maxHeartbeats 1000000 in
theorem kX1_cellsToStandOn (g : Hg) (q : Int64) (g2 : Hg) (q2 : Int64) (a1 : Int32) (a2 : Int32) {r : Int32} (hr : sX1_cellsToStandOn g a1 a2 = some r) : CtI MX1_cellsToStandOn [.ref 2, .int a1, .int a2] (g, q, g2, q2) (fun x h' => x = r ∧ h' = (g, q, g2, q2)) := by
  unfold sX1_cellsToStandOn at hr
  refine CtI_L 3 rfl (by decide +kernel) rfl (Nat.le_of_ble_eq_true rfl) ?_
  show Ev _ _ 0 [some (.ref 2), some (.int a1), some (.int a2), none, none, none] [] _
  refine Ev.aload_n (pc := 0) dX1_cellsToStandOn_0 rfl ?_
  refine Ev.iload_n (pc := 1) dX1_cellsToStandOn_1 rfl ?_
  obtain ⟨x_1, hx_1, hr⟩ := Option.bind_eq_some_iff.mp hr
  refine Ev.cVi (pc := 2) (As := [.int _]) (kX1_waterIn _ _ _ _ _ hx_1) rfl rfl (ob_2 _) gX1_cellsToStandOn_X1_waterIn hdX1_waterIn rfl ⟨rfl, rfl⟩ ⟨Nat.le_of_ble_eq_true rfl, Nat.le_of_ble_eq_true rfl⟩ (Nat.le_of_ble_eq_true rfl) ⟨Nat.le_of_ble_eq_true rfl, Nat.le_of_ble_eq_true rfl⟩ dX1_cellsToStandOn_2 ?_
  refine Ev.aload_n (pc := 5) dX1_cellsToStandOn_5 rfl ?_
  refine Ev.iload_n (pc := 6) dX1_cellsToStandOn_6 rfl ?_
  refine Ev.cVi (pc := 7) (As := [.int _]) (kX1_isLark _ _ _ _ _) rfl rfl (ob_2 _) gX1_cellsToStandOn_X1_isLark hdX1_isLark rfl ⟨rfl, rfl⟩ ⟨Nat.le_of_ble_eq_true rfl, Nat.le_of_ble_eq_true rfl⟩ (Nat.le_of_ble_eq_true rfl) ⟨Nat.le_of_ble_eq_true rfl, Nat.le_of_ble_eq_true rfl⟩ dX1_cellsToStandOn_7 ?_
  refine Ev.ifeqB (pc := 10) (tgt := 22) dX1_cellsToStandOn_10 (by decide) (fun c_1 => ?_) (fun c_1 => ?_)
  · have hr := ifn hr (ntr c_1)
    refine Ev.iconst (pc := 22) (v := nI 0) dX1_cellsToStandOn_22 (by decide) ?_
    refine Ev.isub (pc := 23) dX1_cellsToStandOn_23 ?_
    refine Ev.istore_n (pc := 24) dX1_cellsToStandOn_24 rfl rfl ?_
    refine Ev.iconst (pc := 25) (v := nI 0) dX1_cellsToStandOn_25 (by decide) ?_
    refine Ev.istore (pc := 26) dX1_cellsToStandOn_26 rfl rfl ?_
    refine Ev.iconst (pc := 28) (v := nI 0) dX1_cellsToStandOn_28 (by decide) ?_
    refine Ev.istore (pc := 29) dX1_cellsToStandOn_29 rfl rfl ?_
    exact kX1_cellsToStandOn_31 _ _ _ _ _ _ _ _ 100 _ _ hr
  · have hr := ifp hr c_1
    refine Ev.aload_n (pc := 13) dX1_cellsToStandOn_13 rfl ?_
    refine Ev.get (pc := 14) (C0 := RX1) (T := TX1) (N := 10) (fl_2_6 _ _ _ _) rfl inX1_cellsToStandOn (by decide) lkX1_cellsToStandOn_30 dX1_cellsToStandOn_14 ?_
    refine Ev.iload_n (pc := 17) dX1_cellsToStandOn_17 rfl ?_
    obtain ⟨c_5, hr⟩ := ckB hr
    refine Ev.iald (pc := 18) (ar_17 _ _ _ _) (inb_in c_5) dX1_cellsToStandOn_18 ?_
    refine Ev.goto (pc := 19) (tgt := 23) dX1_cellsToStandOn_19 (by decide) ?_
    refine Ev.isub (pc := 23) dX1_cellsToStandOn_23 ?_
    refine Ev.istore_n (pc := 24) dX1_cellsToStandOn_24 rfl rfl ?_
    refine Ev.iconst (pc := 25) (v := nI 0) dX1_cellsToStandOn_25 (by decide) ?_
    refine Ev.istore (pc := 26) dX1_cellsToStandOn_26 rfl rfl ?_
    refine Ev.iconst (pc := 28) (v := nI 0) dX1_cellsToStandOn_28 (by decide) ?_
    refine Ev.istore (pc := 29) dX1_cellsToStandOn_29 rfl rfl ?_
    exact kX1_cellsToStandOn_31 _ _ _ _ _ _ _ _ 100 _ _ hr
/-! X1_worth -/
def sX1_worth (g : Hg) (a1 : Int32) (a2 : Int32) : Option (Int32) := (sX1_age g a1).bind fun x_1 => ((sX1_kind g a1).bind fun x_2 => (if x_2 = nI 0 then (some x_1) else (if x_2 = nI 1 then (some (nI 0)) else (if x_2 = nI 2 then (if a2 = 0 then (some (nI 0)) else (some ((nI 2) * x_1))) else (if x_2 = nI 3 then (some (x_1 / (nI 2))) else (some (nI 0)))))))
set_option maxRecDepth 20000 in
set_option maxHeartbeats 1000000 in
theorem kX1_worth (g : Hg) (q : Int64) (g2 : Hg) (q2 : Int64) (a1 : Int32) (a2 : Int32) {r : Int32} (hr : sX1_worth g a1 a2 = some r) : CtI MX1_worth [.ref 2, .int a1, .int a2] (g, q, g2, q2) (fun x h' => x = r ∧ h' = (g, q, g2, q2)) := by
  unfold sX1_worth at hr
  refine CtI_L 1 rfl (by decide +kernel) rfl (Nat.le_of_ble_eq_true rfl) ?_
  show Ev _ _ 0 [some (.ref 2), some (.int a1), some (.int a2), none] [] _
  refine Ev.aload_n (pc := 0) dX1_worth_0 rfl ?_
  refine Ev.iload_n (pc := 1) dX1_worth_1 rfl ?_
  obtain ⟨x_1, hx_1, hr⟩ := Option.bind_eq_some_iff.mp hr
  refine Ev.cVi (pc := 2) (As := [.int _]) (kX1_age _ _ _ _ _ hx_1) rfl rfl (ob_2 _) gX1_worth_X1_age hdX1_age rfl ⟨rfl, rfl⟩ ⟨Nat.le_of_ble_eq_true rfl, Nat.le_of_ble_eq_true rfl⟩ (Nat.le_of_ble_eq_true rfl) ⟨Nat.le_of_ble_eq_true rfl, Nat.le_of_ble_eq_true rfl⟩ dX1_worth_2 ?_
  refine Ev.istore_n (pc := 5) dX1_worth_5 rfl rfl ?_
  refine Ev.aload_n (pc := 6) dX1_worth_6 rfl ?_
  refine Ev.iload_n (pc := 7) dX1_worth_7 rfl ?_
  obtain ⟨x_2, hx_2, hr⟩ := Option.bind_eq_some_iff.mp hr
  refine Ev.cVi (pc := 8) (As := [.int _]) (kX1_kind _ _ _ _ _ hx_2) rfl rfl (ob_2 _) gX1_worth_X1_kind hdX1_kind rfl ⟨rfl, rfl⟩ ⟨Nat.le_of_ble_eq_true rfl, Nat.le_of_ble_eq_true rfl⟩ (Nat.le_of_ble_eq_true rfl) ⟨Nat.le_of_ble_eq_true rfl, Nat.le_of_ble_eq_true rfl⟩ dX1_worth_8 ?_
  by_cases c_1 : x_2 = nI 0
  · have hr := ifp hr c_1
    refine Ev.tableK (pc := 11) (tgt := 40) 0 c_1 (by decide) dX1_worth_11 (by decide) rfl (by decide) ?_
    refine Ev.iload_n (pc := 40) dX1_worth_40 rfl ?_
    cases hr
    exact Ev.iret rfl rfl dX1_worth_41 ⟨rfl, rfl⟩
  have hr := ifn hr c_1
  by_cases c_2 : x_2 = nI 1
  · have hr := ifp hr c_2
    refine Ev.tableK (pc := 11) (tgt := 58) 1 c_2 (by decide) dX1_worth_11 (by decide) rfl (by decide) ?_
    refine Ev.iconst (pc := 58) (v := nI 0) dX1_worth_58 (by decide) ?_
    cases hr
    exact Ev.iret rfl rfl dX1_worth_59 ⟨rfl, rfl⟩
  have hr := ifn hr c_2
  by_cases c_3 : x_2 = nI 2
  · have hr := ifp hr c_3
    refine Ev.tableK (pc := 11) (tgt := 42) 2 c_3 (by decide) dX1_worth_11 (by decide) rfl (by decide) ?_
    refine Ev.iload_n (pc := 42) dX1_worth_42 rfl ?_
    refine Ev.ifeq (pc := 43) (tgt := 52) dX1_worth_43 (by decide) (fun c_4 => ?_) (fun c_4 => ?_)
    · have hr := ifp hr c_4
      refine Ev.iconst (pc := 52) (v := nI 0) dX1_worth_52 (by decide) ?_
      cases hr
      exact Ev.iret rfl rfl dX1_worth_53 ⟨rfl, rfl⟩
    · have hr := ifn hr c_4
      refine Ev.iconst (pc := 46) (v := nI 2) dX1_worth_46 (by decide) ?_
      refine Ev.iload_n (pc := 47) dX1_worth_47 rfl ?_
      refine Ev.imul (pc := 48) dX1_worth_48 ?_
      refine Ev.goto (pc := 49) (tgt := 53) dX1_worth_49 (by decide) ?_
      cases hr
      exact Ev.iret rfl rfl dX1_worth_53 ⟨rfl, rfl⟩
  have hr := ifn hr c_3
  by_cases c_5 : x_2 = nI 3
  · have hr := ifp hr c_5
    refine Ev.tableK (pc := 11) (tgt := 54) 3 c_5 (by decide) dX1_worth_11 (by decide) rfl (by decide) ?_
    refine Ev.iload_n (pc := 54) dX1_worth_54 rfl ?_
    refine Ev.iconst (pc := 55) (v := nI 2) dX1_worth_55 (by decide) ?_
    refine Ev.idiv (pc := 56) dX1_worth_56 (by decide) ?_
    cases hr
    exact Ev.iret rfl rfl dX1_worth_57 ⟨rfl, rfl⟩
  have hr := ifn hr c_5
  refine Ev.tableD (pc := 11) (tgt := 58) 4 (by decide) (fun j hj => by
      have hj2 : j = 0 ∨ j = 1 ∨ j = 2 ∨ j = 3 := by omega
      rcases hj2 with rfl | rfl | rfl | rfl <;> assumption) rfl dX1_worth_11 (by decide) ?_
  refine Ev.iconst (pc := 58) (v := nI 0) dX1_worth_58 (by decide) ?_
  cases hr
  exact Ev.iret rfl rfl dX1_worth_59 ⟨rfl, rfl⟩
/-! X4_copyFrom -/
def sX4_copyFrom (g : Hg) : Option (Hg) := if cpo (nI 0) (nI 0) (nI 27) 27 27 = true then (some (setA g 19 (va_cpy (g 18) (g 19) (Int32.toNatClampNeg (nI 0)) (Int32.toNatClampNeg (nI 0)) (Int32.toNatClampNeg (nI 27))))) else none
set_option maxRecDepth 20000 in
set_option maxHeartbeats 1000000 in
theorem kX4_copyFrom (g : Hg) (q : Int64) (g2 : Hg) (q2 : Int64) {r : Hg} (hr : sX4_copyFrom g = some r) : CtV MX4_copyFrom [.ref 4, .ref 3] (g, q, g2, q2) (fun h' => h' = (r, q, g2, q2)) := by
  unfold sX4_copyFrom at hr
  refine CtV_L 0 rfl (by decide +kernel) rfl (Nat.le_of_ble_eq_true rfl) ?_
  show Ev _ _ 0 [some (.ref 4), some (.ref 3)] [] _
  refine Ev.aload_n (pc := 0) dX4_copyFrom_0 rfl ?_
  refine Ev.get (pc := 1) (C0 := RX4) (T := TX4) (N := 2) (fl_3_1 _ _ _ _) rfl inX4_copyFrom (by decide) lkX4_copyFrom_11 dX4_copyFrom_1 ?_
  refine Ev.iconst (pc := 4) (v := nI 0) dX4_copyFrom_4 (by decide) ?_
  refine Ev.aload_n (pc := 5) dX4_copyFrom_5 rfl ?_
  refine Ev.get (pc := 6) (C0 := RX4) (T := TX4) (N := 2) (fl_4_1 _ _ _ _) rfl inX4_copyFrom (by decide) lkX4_copyFrom_11 dX4_copyFrom_6 ?_
  refine Ev.iconst (pc := 9) (v := nI 0) dX4_copyFrom_9 (by decide) ?_
  refine Ev.bipush (pc := 10) (v := nI 27) dX4_copyFrom_10 (by decide) ?_
  obtain ⟨c_1, hr⟩ := ckB hr
  refine Ev.copy (pc := 12) (ar_18 _ _ _ _) (ar_19 _ _ _ _) (cpo_1 c_1) (cpo_2 c_1) (cpo_3 c_1) (cpo_4 c_1) (cpo_5 c_1) (se_19 _ _ _ _ _) (by decide +kernel) (by decide +kernel) (by decide +kernel) (by decide +kernel) (by decide) (Nat.le_of_ble_eq_true rfl) dX4_copyFrom_12 ?_
  cases hr
  exact Ev.vret rfl dX4_copyFrom_15 rfl
/-! X8_has -/
def sX8_has (a1 : Int32) (a2 : Int32) : Bool := if ((a1 >>> (a2 &&& 31)) &&& (nI 1)) = (nI 1) then (true) else (false)
set_option maxRecDepth 20000 in
set_option maxHeartbeats 1000000 in
theorem kX8_has (g : Hg) (q : Int64) (g2 : Hg) (q2 : Int64) (a1 : Int32) (a2 : Int32) : CtI MX8_has [.int a1, .int a2] (g, q, g2, q2) (fun x h' => x = bI ((sX8_has a1 a2)) ∧ h' = (g, q, g2, q2)) := by
  generalize hr : sX8_has a1 a2 = r
  unfold sX8_has at hr
  refine CtI_L 0 rfl (by decide +kernel) rfl (Nat.le_of_ble_eq_true rfl) ?_
  show Ev _ _ 0 [some (.int a1), some (.int a2)] [] _
  refine Ev.iload_n (pc := 0) dX8_has_0 rfl ?_
  refine Ev.iload_n (pc := 1) dX8_has_1 rfl ?_
  refine Ev.ishr (pc := 2) dX8_has_2 ?_
  refine Ev.iconst (pc := 3) (v := nI 1) dX8_has_3 (by decide) ?_
  refine Ev.iand (pc := 4) dX8_has_4 ?_
  refine Ev.iconst (pc := 5) (v := nI 1) dX8_has_5 (by decide) ?_
  refine Ev.icmpne (pc := 6) (tgt := 13) dX8_has_6 (by decide) (fun c_1 => ?_) (fun c_1 => ?_)
  · have hr := ifn hr c_1
    refine Ev.iconst (pc := 13) (v := nI 0) dX8_has_13 (by decide) ?_
    subst hr
    exact Ev.iret rfl rfl dX8_has_14 ⟨rfl, rfl⟩
  · have hr := ifp hr c_1
    refine Ev.iconst (pc := 9) (v := nI 1) dX8_has_9 (by decide) ?_
    refine Ev.goto (pc := 10) (tgt := 14) dX8_has_10 (by decide) ?_
    subst hr
    exact Ev.iret rfl rfl dX8_has_14 ⟨rfl, rfl⟩
/-! X4_isDrowned -/
def sX4_isDrowned (g : Hg) (t : Nat) (a1 : Int32) : Bool := if (sX1_isLark g a1) = true then (if (sX8_has (g (t + 15) (Int32.toNatClampNeg (nI 24))) a1) = true then (true) else (false)) else (false)
set_option maxRecDepth 20000 in
set_option maxHeartbeats 1000000 in
theorem kX4_isDrowned (g : Hg) (q : Int64) (g2 : Hg) (q2 : Int64) {t : Nat} (ht : t = 3 ∨ t = 4) (a1 : Int32) : CtI MX4_isDrowned [.ref t, .int a1] (g, q, g2, q2) (fun x h' => x = bI ((sX4_isDrowned g t a1)) ∧ h' = (g, q, g2, q2)) := by
  generalize hr : sX4_isDrowned g t a1 = r
  unfold sX4_isDrowned at hr
  refine CtI_L 0 rfl (by decide +kernel) rfl (Nat.le_of_ble_eq_true rfl) ?_
  show Ev _ _ 0 [some (.ref t), some (.int a1)] [] _
  refine Ev.aload_n (pc := 0) dX4_isDrowned_0 rfl ?_
  refine Ev.get (pc := 1) (C0 := RX4) (T := TX4) (N := 2) (fl_t_0 ht _ _ _ _) rfl inX4_isDrowned (by decide) lkX4_isDrowned_15 dX4_isDrowned_1 ?_
  refine Ev.iload_n (pc := 4) dX4_isDrowned_4 rfl ?_
  refine Ev.cVi (pc := 5) (As := [.int _]) (kX1_isLark _ _ _ _ _) rfl rfl (ob_2 _) gX4_isDrowned_X1_isLark hdX1_isLark rfl ⟨rfl, rfl⟩ ⟨Nat.le_of_ble_eq_true rfl, Nat.le_of_ble_eq_true rfl⟩ (Nat.le_of_ble_eq_true rfl) ⟨Nat.le_of_ble_eq_true rfl, Nat.le_of_ble_eq_true rfl⟩ dX4_isDrowned_5 ?_
  refine Ev.ifeqB (pc := 8) (tgt := 29) dX4_isDrowned_8 (by decide) (fun c_1 => ?_) (fun c_1 => ?_)
  · have hr := ifn hr (ntr c_1)
    refine Ev.iconst (pc := 29) (v := nI 0) dX4_isDrowned_29 (by decide) ?_
    subst hr
    exact Ev.iret rfl rfl dX4_isDrowned_30 ⟨rfl, rfl⟩
  · have hr := ifp hr c_1
    refine Ev.aload_n (pc := 11) dX4_isDrowned_11 rfl ?_
    refine Ev.get (pc := 12) (C0 := RX4) (T := TX4) (N := 2) (fl_t_1 ht _ _ _ _) rfl inX4_isDrowned (by decide) lkX4_isDrowned_11 dX4_isDrowned_12 ?_
    refine Ev.bipush (pc := 15) (v := nI 24) dX4_isDrowned_15 (by decide) ?_
    refine Ev.iald (pc := 17) (ar_t ht _ _ _ _) (vp_in_nI (n := 24) (N := 27) (by decide) (by decide)) dX4_isDrowned_17 ?_
    refine Ev.iload_n (pc := 18) dX4_isDrowned_18 rfl ?_
    refine Ev.cNi (pc := 19) (As := [.int _, .int _]) (kX8_has _ _ _ _ _ _) rfl gX4_isDrowned_X8_has_n51 (by decide +kernel) stX4_isDrowned_X8_has iniX4_isDrowned_X8_has hdX8_has rfl ⟨rfl, rfl⟩ ⟨Nat.le_of_ble_eq_true rfl, Nat.le_of_ble_eq_true rfl⟩ (Nat.le_of_ble_eq_true rfl) ⟨Nat.le_of_ble_eq_true rfl, Nat.le_of_ble_eq_true rfl⟩ dX4_isDrowned_19 ?_
    refine Ev.ifeqB (pc := 22) (tgt := 29) dX4_isDrowned_22 (by decide) (fun c_2 => ?_) (fun c_2 => ?_)
    · have hr := ifn hr (ntr c_2)
      refine Ev.iconst (pc := 29) (v := nI 0) dX4_isDrowned_29 (by decide) ?_
      subst hr
      exact Ev.iret rfl rfl dX4_isDrowned_30 ⟨rfl, rfl⟩
    · have hr := ifp hr c_2
      refine Ev.iconst (pc := 25) (v := nI 1) dX4_isDrowned_25 (by decide) ?_
      refine Ev.goto (pc := 26) (tgt := 30) dX4_isDrowned_26 (by decide) ?_
      subst hr
      exact Ev.iret rfl rfl dX4_isDrowned_30 ⟨rfl, rfl⟩
/-! X4_hasWalked -/
def sX4_hasWalked (g : Hg) (t : Nat) (a1 : Int32) : Bool := if (sX1_isLark g a1) = true then (if (sX8_has (g (t + 15) (Int32.toNatClampNeg (nI 25))) a1) = true then (true) else (false)) else (false)
set_option maxRecDepth 20000 in
set_option maxHeartbeats 1000000 in
theorem kX4_hasWalked (g : Hg) (q : Int64) (g2 : Hg) (q2 : Int64) {t : Nat} (ht : t = 3 ∨ t = 4) (a1 : Int32) : CtI MX4_hasWalked [.ref t, .int a1] (g, q, g2, q2) (fun x h' => x = bI ((sX4_hasWalked g t a1)) ∧ h' = (g, q, g2, q2)) := by
  generalize hr : sX4_hasWalked g t a1 = r
  unfold sX4_hasWalked at hr
  refine CtI_L 0 rfl (by decide +kernel) rfl (Nat.le_of_ble_eq_true rfl) ?_
  show Ev _ _ 0 [some (.ref t), some (.int a1)] [] _
  refine Ev.aload_n (pc := 0) dX4_hasWalked_0 rfl ?_
  refine Ev.get (pc := 1) (C0 := RX4) (T := TX4) (N := 2) (fl_t_0 ht _ _ _ _) rfl inX4_hasWalked (by decide) lkX4_hasWalked_15 dX4_hasWalked_1 ?_
  refine Ev.iload_n (pc := 4) dX4_hasWalked_4 rfl ?_
  refine Ev.cVi (pc := 5) (As := [.int _]) (kX1_isLark _ _ _ _ _) rfl rfl (ob_2 _) gX4_hasWalked_X1_isLark hdX1_isLark rfl ⟨rfl, rfl⟩ ⟨Nat.le_of_ble_eq_true rfl, Nat.le_of_ble_eq_true rfl⟩ (Nat.le_of_ble_eq_true rfl) ⟨Nat.le_of_ble_eq_true rfl, Nat.le_of_ble_eq_true rfl⟩ dX4_hasWalked_5 ?_
  refine Ev.ifeqB (pc := 8) (tgt := 29) dX4_hasWalked_8 (by decide) (fun c_1 => ?_) (fun c_1 => ?_)
  · have hr := ifn hr (ntr c_1)
    refine Ev.iconst (pc := 29) (v := nI 0) dX4_hasWalked_29 (by decide) ?_
    subst hr
    exact Ev.iret rfl rfl dX4_hasWalked_30 ⟨rfl, rfl⟩
  · have hr := ifp hr c_1
    refine Ev.aload_n (pc := 11) dX4_hasWalked_11 rfl ?_
    refine Ev.get (pc := 12) (C0 := RX4) (T := TX4) (N := 2) (fl_t_1 ht _ _ _ _) rfl inX4_hasWalked (by decide) lkX4_hasWalked_11 dX4_hasWalked_12 ?_
    refine Ev.bipush (pc := 15) (v := nI 25) dX4_hasWalked_15 (by decide) ?_
    refine Ev.iald (pc := 17) (ar_t ht _ _ _ _) (vp_in_nI (n := 25) (N := 27) (by decide) (by decide)) dX4_hasWalked_17 ?_
    refine Ev.iload_n (pc := 18) dX4_hasWalked_18 rfl ?_
    refine Ev.cNi (pc := 19) (As := [.int _, .int _]) (kX8_has _ _ _ _ _ _) rfl gX4_hasWalked_X8_has_n51 (by decide +kernel) stX4_hasWalked_X8_has iniX4_hasWalked_X8_has hdX8_has rfl ⟨rfl, rfl⟩ ⟨Nat.le_of_ble_eq_true rfl, Nat.le_of_ble_eq_true rfl⟩ (Nat.le_of_ble_eq_true rfl) ⟨Nat.le_of_ble_eq_true rfl, Nat.le_of_ble_eq_true rfl⟩ dX4_hasWalked_19 ?_
    refine Ev.ifeqB (pc := 22) (tgt := 29) dX4_hasWalked_22 (by decide) (fun c_2 => ?_) (fun c_2 => ?_)
    · have hr := ifn hr (ntr c_2)
      refine Ev.iconst (pc := 29) (v := nI 0) dX4_hasWalked_29 (by decide) ?_
      subst hr
      exact Ev.iret rfl rfl dX4_hasWalked_30 ⟨rfl, rfl⟩
    · have hr := ifp hr c_2
      refine Ev.iconst (pc := 25) (v := nI 1) dX4_hasWalked_25 (by decide) ?_
      refine Ev.goto (pc := 26) (tgt := 30) dX4_hasWalked_26 (by decide) ?_
      subst hr
      exact Ev.iret rfl rfl dX4_hasWalked_30 ⟨rfl, rfl⟩
/-! X4_cellOfLark -/
def sX4_cellOfLark (g : Hg) (t : Nat) (a1 : Int32) : Option (Int32) := if (sX1_isLark g a1) = true then (if inb ((nI 0) + a1) 27 = true then (some (g (t + 15) (Int32.toNatClampNeg ((nI 0) + a1)))) else none) else (some ((-9)))
set_option maxRecDepth 20000 in
set_option maxHeartbeats 1000000 in
theorem kX4_cellOfLark (g : Hg) (q : Int64) (g2 : Hg) (q2 : Int64) {t : Nat} (ht : t = 3 ∨ t = 4) (a1 : Int32) {r : Int32} (hr : sX4_cellOfLark g t a1 = some r) : CtI MX4_cellOfLark [.ref t, .int a1] (g, q, g2, q2) (fun x h' => x = r ∧ h' = (g, q, g2, q2)) := by
  unfold sX4_cellOfLark at hr
  refine CtI_L 0 rfl (by decide +kernel) rfl (Nat.le_of_ble_eq_true rfl) ?_
  show Ev _ _ 0 [some (.ref t), some (.int a1)] [] _
  refine Ev.aload_n (pc := 0) dX4_cellOfLark_0 rfl ?_
  refine Ev.get (pc := 1) (C0 := RX4) (T := TX4) (N := 2) (fl_t_0 ht _ _ _ _) rfl inX4_cellOfLark (by decide) lkX4_cellOfLark_15 dX4_cellOfLark_1 ?_
  refine Ev.iload_n (pc := 4) dX4_cellOfLark_4 rfl ?_
  refine Ev.cVi (pc := 5) (As := [.int _]) (kX1_isLark _ _ _ _ _) rfl rfl (ob_2 _) gX4_cellOfLark_X1_isLark hdX1_isLark rfl ⟨rfl, rfl⟩ ⟨Nat.le_of_ble_eq_true rfl, Nat.le_of_ble_eq_true rfl⟩ (Nat.le_of_ble_eq_true rfl) ⟨Nat.le_of_ble_eq_true rfl, Nat.le_of_ble_eq_true rfl⟩ dX4_cellOfLark_5 ?_
  refine Ev.ifeqB (pc := 8) (tgt := 22) dX4_cellOfLark_8 (by decide) (fun c_1 => ?_) (fun c_1 => ?_)
  · have hr := ifn hr (ntr c_1)
    refine Ev.bipush (pc := 22) (v := (-9)) dX4_cellOfLark_22 (by decide) ?_
    cases hr
    exact Ev.iret rfl rfl dX4_cellOfLark_24 ⟨rfl, rfl⟩
  · have hr := ifp hr c_1
    refine Ev.aload_n (pc := 11) dX4_cellOfLark_11 rfl ?_
    refine Ev.get (pc := 12) (C0 := RX4) (T := TX4) (N := 2) (fl_t_1 ht _ _ _ _) rfl inX4_cellOfLark (by decide) lkX4_cellOfLark_11 dX4_cellOfLark_12 ?_
    refine Ev.iconst (pc := 15) (v := nI 0) dX4_cellOfLark_15 (by decide) ?_
    refine Ev.iload_n (pc := 16) dX4_cellOfLark_16 rfl ?_
    refine Ev.iadd (pc := 17) dX4_cellOfLark_17 ?_
    obtain ⟨c_2, hr⟩ := ckB hr
    refine Ev.iald (pc := 18) (ar_t ht _ _ _ _) (inb_in c_2) dX4_cellOfLark_18 ?_
    refine Ev.goto (pc := 19) (tgt := 24) dX4_cellOfLark_19 (by decide) ?_
    cases hr
    exact Ev.iret rfl rfl dX4_cellOfLark_24 ⟨rfl, rfl⟩
/-! X8_cellBehind -/
def sX8_cellBehind (a1 : Int32) (a2 : Int32) : Int32 := if a2 = nI 0 then (a1) else (if a2 = nI 1 then (if (a1 - a1 / (nI 4) * (nI 4)) ≤ 0 then (((-9))) else ((a1 - (nI 1)))) else (if a2 = nI 2 then (if (nI 3) ≤ (a1 - a1 / (nI 4) * (nI 4)) then (((-9))) else ((a1 + (nI 1)))) else (if a2 = nI 3 then (if a1 < (nI 4) then (((-9))) else ((a1 - (nI 4)))) else (if a2 = nI 4 then (if (nI 8) ≤ a1 then (((-9))) else ((a1 + (nI 4)))) else (((-9)))))))
set_option maxRecDepth 20000 in
set_option maxHeartbeats 1000000 in
theorem kX8_cellBehind (g : Hg) (q : Int64) (g2 : Hg) (q2 : Int64) (a1 : Int32) (a2 : Int32) : CtI MX8_cellBehind [.int a1, .int a2] (g, q, g2, q2) (fun x h' => x = (sX8_cellBehind a1 a2) ∧ h' = (g, q, g2, q2)) := by
  generalize hr : sX8_cellBehind a1 a2 = r
  unfold sX8_cellBehind at hr
  refine CtI_L 1 rfl (by decide +kernel) rfl (Nat.le_of_ble_eq_true rfl) ?_
  show Ev _ _ 0 [some (.int a1), some (.int a2), none] [] _
  refine Ev.iload_n (pc := 0) dX8_cellBehind_0 rfl ?_
  refine Ev.iconst (pc := 1) (v := nI 4) dX8_cellBehind_1 (by decide) ?_
  refine Ev.irem (pc := 2) dX8_cellBehind_2 (by decide) ?_
  refine Ev.istore_n (pc := 3) dX8_cellBehind_3 rfl rfl ?_
  refine Ev.iload_n (pc := 4) dX8_cellBehind_4 rfl ?_
  by_cases c_1 : a2 = nI 0
  · have hr := ifp hr c_1
    refine Ev.tableK (pc := 5) (tgt := 40) 0 c_1 (by decide) dX8_cellBehind_5 (by decide) rfl (by decide) ?_
    refine Ev.iload_n (pc := 40) dX8_cellBehind_40 rfl ?_
    subst hr
    exact Ev.iret rfl rfl dX8_cellBehind_41 ⟨rfl, rfl⟩
  have hr := ifn hr c_1
  by_cases c_2 : a2 = nI 1
  · have hr := ifp hr c_2
    refine Ev.tableK (pc := 5) (tgt := 42) 1 c_2 (by decide) dX8_cellBehind_5 (by decide) rfl (by decide) ?_
    refine Ev.iload_n (pc := 42) dX8_cellBehind_42 rfl ?_
    refine Ev.ifle (pc := 43) (tgt := 52) dX8_cellBehind_43 (by decide) (fun c_3 => ?_) (fun c_3 => ?_)
    · have hr := ifp hr c_3
      refine Ev.bipush (pc := 52) (v := (-9)) dX8_cellBehind_52 (by decide) ?_
      subst hr
      exact Ev.iret rfl rfl dX8_cellBehind_54 ⟨rfl, rfl⟩
    · have hr := ifn hr c_3
      refine Ev.iload_n (pc := 46) dX8_cellBehind_46 rfl ?_
      refine Ev.iconst (pc := 47) (v := nI 1) dX8_cellBehind_47 (by decide) ?_
      refine Ev.isub (pc := 48) dX8_cellBehind_48 ?_
      refine Ev.goto (pc := 49) (tgt := 54) dX8_cellBehind_49 (by decide) ?_
      subst hr
      exact Ev.iret rfl rfl dX8_cellBehind_54 ⟨rfl, rfl⟩
  have hr := ifn hr c_2
  by_cases c_4 : a2 = nI 2
  · have hr := ifp hr c_4
    refine Ev.tableK (pc := 5) (tgt := 55) 2 c_4 (by decide) dX8_cellBehind_5 (by decide) rfl (by decide) ?_
    refine Ev.iload_n (pc := 55) dX8_cellBehind_55 rfl ?_
    refine Ev.iconst (pc := 56) (v := nI 3) dX8_cellBehind_56 (by decide) ?_
    refine Ev.icmpge (pc := 57) (tgt := 66) dX8_cellBehind_57 (by decide) (fun c_5 => ?_) (fun c_5 => ?_)
    · have hr := ifp hr c_5
      refine Ev.bipush (pc := 66) (v := (-9)) dX8_cellBehind_66 (by decide) ?_
      subst hr
      exact Ev.iret rfl rfl dX8_cellBehind_68 ⟨rfl, rfl⟩
    · have hr := ifn hr c_5
      refine Ev.iload_n (pc := 60) dX8_cellBehind_60 rfl ?_
      refine Ev.iconst (pc := 61) (v := nI 1) dX8_cellBehind_61 (by decide) ?_
      refine Ev.iadd (pc := 62) dX8_cellBehind_62 ?_
      refine Ev.goto (pc := 63) (tgt := 68) dX8_cellBehind_63 (by decide) ?_
      subst hr
      exact Ev.iret rfl rfl dX8_cellBehind_68 ⟨rfl, rfl⟩
  have hr := ifn hr c_4
  by_cases c_6 : a2 = nI 3
  · have hr := ifp hr c_6
    refine Ev.tableK (pc := 5) (tgt := 69) 3 c_6 (by decide) dX8_cellBehind_5 (by decide) rfl (by decide) ?_
    refine Ev.iload_n (pc := 69) dX8_cellBehind_69 rfl ?_
    refine Ev.iconst (pc := 70) (v := nI 4) dX8_cellBehind_70 (by decide) ?_
    refine Ev.icmplt (pc := 71) (tgt := 80) dX8_cellBehind_71 (by decide) (fun c_7 => ?_) (fun c_7 => ?_)
    · have hr := ifp hr c_7
      refine Ev.bipush (pc := 80) (v := (-9)) dX8_cellBehind_80 (by decide) ?_
      subst hr
      exact Ev.iret rfl rfl dX8_cellBehind_82 ⟨rfl, rfl⟩
    · have hr := ifn hr c_7
      refine Ev.iload_n (pc := 74) dX8_cellBehind_74 rfl ?_
      refine Ev.iconst (pc := 75) (v := nI 4) dX8_cellBehind_75 (by decide) ?_
      refine Ev.isub (pc := 76) dX8_cellBehind_76 ?_
      refine Ev.goto (pc := 77) (tgt := 82) dX8_cellBehind_77 (by decide) ?_
      subst hr
      exact Ev.iret rfl rfl dX8_cellBehind_82 ⟨rfl, rfl⟩
  have hr := ifn hr c_6
  by_cases c_8 : a2 = nI 4
  · have hr := ifp hr c_8
    refine Ev.tableK (pc := 5) (tgt := 83) 4 c_8 (by decide) dX8_cellBehind_5 (by decide) rfl (by decide) ?_
    refine Ev.iload_n (pc := 83) dX8_cellBehind_83 rfl ?_
    refine Ev.bipush (pc := 84) (v := nI 8) dX8_cellBehind_84 (by decide) ?_
    refine Ev.icmpge (pc := 86) (tgt := 95) dX8_cellBehind_86 (by decide) (fun c_9 => ?_) (fun c_9 => ?_)
    · have hr := ifp hr c_9
      refine Ev.bipush (pc := 95) (v := (-9)) dX8_cellBehind_95 (by decide) ?_
      subst hr
      exact Ev.iret rfl rfl dX8_cellBehind_97 ⟨rfl, rfl⟩
    · have hr := ifn hr c_9
      refine Ev.iload_n (pc := 89) dX8_cellBehind_89 rfl ?_
      refine Ev.iconst (pc := 90) (v := nI 4) dX8_cellBehind_90 (by decide) ?_
      refine Ev.iadd (pc := 91) dX8_cellBehind_91 ?_
      refine Ev.goto (pc := 92) (tgt := 97) dX8_cellBehind_92 (by decide) ?_
      subst hr
      exact Ev.iret rfl rfl dX8_cellBehind_97 ⟨rfl, rfl⟩
  have hr := ifn hr c_8
  refine Ev.tableD (pc := 5) (tgt := 98) 5 (by decide) (fun j hj => by
      have hj2 : j = 0 ∨ j = 1 ∨ j = 2 ∨ j = 3 ∨ j = 4 := by omega
      rcases hj2 with rfl | rfl | rfl | rfl | rfl <;> assumption) rfl dX8_cellBehind_5 (by decide) ?_
  refine Ev.bipush (pc := 98) (v := (-9)) dX8_cellBehind_98 (by decide) ?_
  subst hr
  exact Ev.iret rfl rfl dX8_cellBehind_100 ⟨rfl, rfl⟩
/-! X4_now -/
def sX4_now (g : Hg) (t : Nat) : Int32 := (g (t + 15) (Int32.toNatClampNeg (nI 23)))
set_option maxRecDepth 20000 in
set_option maxHeartbeats 1000000 in
theorem kX4_now (g : Hg) (q : Int64) (g2 : Hg) (q2 : Int64) {t : Nat} (ht : t = 3 ∨ t = 4) : CtI MX4_now [.ref t] (g, q, g2, q2) (fun x h' => x = (sX4_now g t) ∧ h' = (g, q, g2, q2)) := by
  generalize hr : sX4_now g t = r
  unfold sX4_now at hr
  refine CtI_L 0 rfl (by decide +kernel) rfl (Nat.le_of_ble_eq_true rfl) ?_
  show Ev _ _ 0 [some (.ref t)] [] _
  refine Ev.aload_n (pc := 0) dX4_now_0 rfl ?_
  refine Ev.get (pc := 1) (C0 := RX4) (T := TX4) (N := 2) (fl_t_1 ht _ _ _ _) rfl inX4_now (by decide) lkX4_now_11 dX4_now_1 ?_
  refine Ev.bipush (pc := 4) (v := nI 23) dX4_now_4 (by decide) ?_
  refine Ev.iald (pc := 6) (ar_t ht _ _ _ _) (vp_in_nI (n := 23) (N := 27) (by decide) (by decide)) dX4_now_6 ?_
  subst hr
  exact Ev.iret rfl rfl dX4_now_7 ⟨rfl, rfl⟩
/-! X4_canWalk -/
def sX4_canWalk (g : Hg) (t : Nat) (a1 : Int32) (a2 : Int32) : Option (Bool) := if (sX1_isLark g a1) = true then (if (sX8_within a2 (nI 1) (nI 4)) = true then (if (sX4_isDrowned g t a1) = true then (some false) else (if (sX4_hasWalked g t a1) = true then (some false) else ((sX4_cellOfLark g t a1).bind fun x_1 => (if (sX8_cellBehind x_1 a2) = ((-9)) then (some false) else ((sX1_stands g a1 (sX8_cellBehind x_1 a2) (sX4_now g t)).bind fun x_2 => (if x_2 = true then (some true) else (some false))))))) else (some false)) else (some false)
set_option maxRecDepth 20000 in
set_option maxHeartbeats 1000000 in
theorem kX4_canWalk (g : Hg) (q : Int64) (g2 : Hg) (q2 : Int64) {t : Nat} (ht : t = 3 ∨ t = 4) (a1 : Int32) (a2 : Int32) {r : Bool} (hr : sX4_canWalk g t a1 a2 = some r) : CtI MX4_canWalk [.ref t, .int a1, .int a2] (g, q, g2, q2) (fun x h' => x = bI r ∧ h' = (g, q, g2, q2)) := by
  unfold sX4_canWalk at hr
  refine CtI_L 1 rfl (by decide +kernel) rfl (Nat.le_of_ble_eq_true rfl) ?_
  show Ev _ _ 0 [some (.ref t), some (.int a1), some (.int a2), none] [] _
  refine Ev.aload_n (pc := 0) dX4_canWalk_0 rfl ?_
  refine Ev.get (pc := 1) (C0 := RX4) (T := TX4) (N := 2) (fl_t_0 ht _ _ _ _) rfl inX4_canWalk (by decide) lkX4_canWalk_15 dX4_canWalk_1 ?_
  refine Ev.iload_n (pc := 4) dX4_canWalk_4 rfl ?_
  refine Ev.cVi (pc := 5) (As := [.int _]) (kX1_isLark _ _ _ _ _) rfl rfl (ob_2 _) gX4_canWalk_X1_isLark hdX1_isLark rfl ⟨rfl, rfl⟩ ⟨Nat.le_of_ble_eq_true rfl, Nat.le_of_ble_eq_true rfl⟩ (Nat.le_of_ble_eq_true rfl) ⟨Nat.le_of_ble_eq_true rfl, Nat.le_of_ble_eq_true rfl⟩ dX4_canWalk_5 ?_
  refine Ev.ifeqB (pc := 8) (tgt := 36) dX4_canWalk_8 (by decide) (fun c_1 => ?_) (fun c_1 => ?_)
  · have hr := ifn hr (ntr c_1)
    refine Ev.iconst (pc := 36) (v := nI 0) dX4_canWalk_36 (by decide) ?_
    cases hr
    exact Ev.iret rfl rfl dX4_canWalk_37 ⟨rfl, rfl⟩
  · have hr := ifp hr c_1
    refine Ev.iload_n (pc := 11) dX4_canWalk_11 rfl ?_
    refine Ev.iconst (pc := 12) (v := nI 1) dX4_canWalk_12 (by decide) ?_
    refine Ev.iconst (pc := 13) (v := nI 4) dX4_canWalk_13 (by decide) ?_
    refine Ev.cNi (pc := 14) (As := [.int _, .int _, .int _]) (kX8_within _ _ _ _ _ _ _) rfl gX4_canWalk_X8_within_n37 (by decide +kernel) stX4_canWalk_X8_within iniX4_canWalk_X8_within hdX8_within rfl ⟨rfl, rfl⟩ ⟨Nat.le_of_ble_eq_true rfl, Nat.le_of_ble_eq_true rfl⟩ (Nat.le_of_ble_eq_true rfl) ⟨Nat.le_of_ble_eq_true rfl, Nat.le_of_ble_eq_true rfl⟩ dX4_canWalk_14 ?_
    refine Ev.ifeqB (pc := 17) (tgt := 36) dX4_canWalk_17 (by decide) (fun c_2 => ?_) (fun c_2 => ?_)
    · have hr := ifn hr (ntr c_2)
      refine Ev.iconst (pc := 36) (v := nI 0) dX4_canWalk_36 (by decide) ?_
      cases hr
      exact Ev.iret rfl rfl dX4_canWalk_37 ⟨rfl, rfl⟩
    · have hr := ifp hr c_2
      refine Ev.aload_n (pc := 20) dX4_canWalk_20 rfl ?_
      refine Ev.iload_n (pc := 21) dX4_canWalk_21 rfl ?_
      refine Ev.cVi (pc := 22) (As := [.int _]) (kX4_isDrowned _ _ _ _ ht _) rfl rfl (ob_t ht _) gX4_canWalk_X4_isDrowned hdX4_isDrowned rfl ⟨rfl, rfl⟩ ⟨Nat.le_of_ble_eq_true rfl, Nat.le_of_ble_eq_true rfl⟩ (Nat.le_of_ble_eq_true rfl) ⟨Nat.le_of_ble_eq_true rfl, Nat.le_of_ble_eq_true rfl⟩ dX4_canWalk_22 ?_
      refine Ev.ifneB (pc := 25) (tgt := 36) dX4_canWalk_25 (by decide) (fun c_3 => ?_) (fun c_3 => ?_)
      · have hr := ifp hr c_3
        refine Ev.iconst (pc := 36) (v := nI 0) dX4_canWalk_36 (by decide) ?_
        cases hr
        exact Ev.iret rfl rfl dX4_canWalk_37 ⟨rfl, rfl⟩
      · have hr := ifn hr (ntr c_3)
        refine Ev.aload_n (pc := 28) dX4_canWalk_28 rfl ?_
        refine Ev.iload_n (pc := 29) dX4_canWalk_29 rfl ?_
        refine Ev.cVi (pc := 30) (As := [.int _]) (kX4_hasWalked _ _ _ _ ht _) rfl rfl (ob_t ht _) gX4_canWalk_X4_hasWalked hdX4_hasWalked rfl ⟨rfl, rfl⟩ ⟨Nat.le_of_ble_eq_true rfl, Nat.le_of_ble_eq_true rfl⟩ (Nat.le_of_ble_eq_true rfl) ⟨Nat.le_of_ble_eq_true rfl, Nat.le_of_ble_eq_true rfl⟩ dX4_canWalk_30 ?_
        refine Ev.ifeqB (pc := 33) (tgt := 38) dX4_canWalk_33 (by decide) (fun c_4 => ?_) (fun c_4 => ?_)
        · have hr := ifn hr (ntr c_4)
          refine Ev.aload_n (pc := 38) dX4_canWalk_38 rfl ?_
          refine Ev.iload_n (pc := 39) dX4_canWalk_39 rfl ?_
          obtain ⟨x_1, hx_1, hr⟩ := Option.bind_eq_some_iff.mp hr
          refine Ev.cVi (pc := 40) (As := [.int _]) (kX4_cellOfLark _ _ _ _ ht _ hx_1) rfl rfl (ob_t ht _) gX4_canWalk_X4_cellOfLark hdX4_cellOfLark rfl ⟨rfl, rfl⟩ ⟨Nat.le_of_ble_eq_true rfl, Nat.le_of_ble_eq_true rfl⟩ (Nat.le_of_ble_eq_true rfl) ⟨Nat.le_of_ble_eq_true rfl, Nat.le_of_ble_eq_true rfl⟩ dX4_canWalk_40 ?_
          refine Ev.iload_n (pc := 43) dX4_canWalk_43 rfl ?_
          refine Ev.cNi (pc := 44) (As := [.int _, .int _]) (kX8_cellBehind _ _ _ _ _ _) rfl gX4_canWalk_X8_cellBehind_n85 (by decide +kernel) stX4_canWalk_X8_cellBehind iniX4_canWalk_X8_cellBehind hdX8_cellBehind rfl ⟨rfl, rfl⟩ ⟨Nat.le_of_ble_eq_true rfl, Nat.le_of_ble_eq_true rfl⟩ (Nat.le_of_ble_eq_true rfl) ⟨Nat.le_of_ble_eq_true rfl, Nat.le_of_ble_eq_true rfl⟩ dX4_canWalk_44 ?_
          refine Ev.istore_n (pc := 47) dX4_canWalk_47 rfl rfl ?_
          refine Ev.iload_n (pc := 48) dX4_canWalk_48 rfl ?_
          refine Ev.bipush (pc := 49) (v := (-9)) dX4_canWalk_49 (by decide) ?_
          refine Ev.icmpeq (pc := 51) (tgt := 74) dX4_canWalk_51 (by decide) (fun c_5 => ?_) (fun c_5 => ?_)
          · have hr := ifp hr c_5
            refine Ev.iconst (pc := 74) (v := nI 0) dX4_canWalk_74 (by decide) ?_
            cases hr
            exact Ev.iret rfl rfl dX4_canWalk_75 ⟨rfl, rfl⟩
          · have hr := ifn hr c_5
            refine Ev.aload_n (pc := 54) dX4_canWalk_54 rfl ?_
            refine Ev.get (pc := 55) (C0 := RX4) (T := TX4) (N := 2) (fl_t_0 ht _ _ _ _) rfl inX4_canWalk (by decide) lkX4_canWalk_15 dX4_canWalk_55 ?_
            refine Ev.iload_n (pc := 58) dX4_canWalk_58 rfl ?_
            refine Ev.iload_n (pc := 59) dX4_canWalk_59 rfl ?_
            refine Ev.aload_n (pc := 60) dX4_canWalk_60 rfl ?_
            refine Ev.cVi (pc := 61) (As := []) (kX4_now _ _ _ _ ht) rfl rfl (ob_t ht _) gX4_canWalk_X4_now hdX4_now rfl ⟨rfl, rfl⟩ ⟨Nat.le_of_ble_eq_true rfl, Nat.le_of_ble_eq_true rfl⟩ (Nat.le_of_ble_eq_true rfl) ⟨Nat.le_of_ble_eq_true rfl, Nat.le_of_ble_eq_true rfl⟩ dX4_canWalk_61 ?_
            obtain ⟨x_2, hx_2, hr⟩ := Option.bind_eq_some_iff.mp hr
            refine Ev.cVi (pc := 64) (As := [.int _, .int _, .int _]) (kX1_stands _ _ _ _ _ _ _ hx_2) rfl rfl (ob_2 _) gX4_canWalk_X1_stands hdX1_stands rfl ⟨rfl, rfl⟩ ⟨Nat.le_of_ble_eq_true rfl, Nat.le_of_ble_eq_true rfl⟩ (Nat.le_of_ble_eq_true rfl) ⟨Nat.le_of_ble_eq_true rfl, Nat.le_of_ble_eq_true rfl⟩ dX4_canWalk_64 ?_
            refine Ev.ifeqB (pc := 67) (tgt := 74) dX4_canWalk_67 (by decide) (fun c_6 => ?_) (fun c_6 => ?_)
            · have hr := ifn hr (ntr c_6)
              refine Ev.iconst (pc := 74) (v := nI 0) dX4_canWalk_74 (by decide) ?_
              cases hr
              exact Ev.iret rfl rfl dX4_canWalk_75 ⟨rfl, rfl⟩
            · have hr := ifp hr c_6
              refine Ev.iconst (pc := 70) (v := nI 1) dX4_canWalk_70 (by decide) ?_
              refine Ev.goto (pc := 71) (tgt := 75) dX4_canWalk_71 (by decide) ?_
              cases hr
              exact Ev.iret rfl rfl dX4_canWalk_75 ⟨rfl, rfl⟩
        · have hr := ifp hr c_4
          refine Ev.iconst (pc := 36) (v := nI 0) dX4_canWalk_36 (by decide) ?_
          cases hr
          exact Ev.iret rfl rfl dX4_canWalk_37 ⟨rfl, rfl⟩
/-! X4_tryWalk -/
def sX4_tryWalk (g : Hg) (t : Nat) (a1 : Int32) (a2 : Int32) : Option (Bool × Hg) := (sX4_canWalk g t a1 a2).bind fun x_1 => (if x_1 = true then ((sX4_cellOfLark g t a1).bind fun x_2 => (if inb ((nI 0) + a1) 27 = true then (some (true, stA (stA g (t + 15) (Int32.toNatClampNeg ((nI 0) + a1)) (sX8_cellBehind x_2 a2)) (t + 15) (Int32.toNatClampNeg (nI 25)) (((stA g (t + 15) (Int32.toNatClampNeg ((nI 0) + a1)) (sX8_cellBehind x_2 a2)) (t + 15) (Int32.toNatClampNeg (nI 25))) ||| (sX8_bit a1)))) else none)) else (some (false, g)))
set_option maxRecDepth 20000 in
set_option maxHeartbeats 1000000 in
theorem kX4_tryWalk (g : Hg) (q : Int64) (g2 : Hg) (q2 : Int64) {t : Nat} (ht : t = 3 ∨ t = 4) (a1 : Int32) (a2 : Int32) {r : Bool × Hg} (hr : sX4_tryWalk g t a1 a2 = some r) : CtI MX4_tryWalk [.ref t, .int a1, .int a2] (g, q, g2, q2) (fun x h' => x = bI r.1 ∧ h' = (r.2, q, g2, q2)) := by
  unfold sX4_tryWalk at hr
  refine CtI_L 0 rfl (by decide +kernel) rfl (Nat.le_of_ble_eq_true rfl) ?_
  show Ev _ _ 0 [some (.ref t), some (.int a1), some (.int a2)] [] _
  refine Ev.aload_n (pc := 0) dX4_tryWalk_0 rfl ?_
  refine Ev.iload_n (pc := 1) dX4_tryWalk_1 rfl ?_
  refine Ev.iload_n (pc := 2) dX4_tryWalk_2 rfl ?_
  obtain ⟨x_1, hx_1, hr⟩ := Option.bind_eq_some_iff.mp hr
  refine Ev.cVi (pc := 3) (As := [.int _, .int _]) (kX4_canWalk _ _ _ _ ht _ _ hx_1) rfl rfl (ob_t ht _) gX4_tryWalk_X4_canWalk hdX4_canWalk rfl ⟨rfl, rfl⟩ ⟨Nat.le_of_ble_eq_true rfl, Nat.le_of_ble_eq_true rfl⟩ (Nat.le_of_ble_eq_true rfl) ⟨Nat.le_of_ble_eq_true rfl, Nat.le_of_ble_eq_true rfl⟩ dX4_tryWalk_3 ?_
  refine Ev.ifneB (pc := 6) (tgt := 11) dX4_tryWalk_6 (by decide) (fun c_1 => ?_) (fun c_1 => ?_)
  · have hr := ifp hr c_1
    refine Ev.aload_n (pc := 11) dX4_tryWalk_11 rfl ?_
    refine Ev.get (pc := 12) (C0 := RX4) (T := TX4) (N := 2) (fl_t_1 ht _ _ _ _) rfl inX4_tryWalk (by decide) lkX4_tryWalk_11 dX4_tryWalk_12 ?_
    refine Ev.iconst (pc := 15) (v := nI 0) dX4_tryWalk_15 (by decide) ?_
    refine Ev.iload_n (pc := 16) dX4_tryWalk_16 rfl ?_
    refine Ev.iadd (pc := 17) dX4_tryWalk_17 ?_
    refine Ev.aload_n (pc := 18) dX4_tryWalk_18 rfl ?_
    refine Ev.iload_n (pc := 19) dX4_tryWalk_19 rfl ?_
    obtain ⟨x_2, hx_2, hr⟩ := Option.bind_eq_some_iff.mp hr
    refine Ev.cVi (pc := 20) (As := [.int _]) (kX4_cellOfLark _ _ _ _ ht _ hx_2) rfl rfl (ob_t ht _) gX4_tryWalk_X4_cellOfLark hdX4_cellOfLark rfl ⟨rfl, rfl⟩ ⟨Nat.le_of_ble_eq_true rfl, Nat.le_of_ble_eq_true rfl⟩ (Nat.le_of_ble_eq_true rfl) ⟨Nat.le_of_ble_eq_true rfl, Nat.le_of_ble_eq_true rfl⟩ dX4_tryWalk_20 ?_
    refine Ev.iload_n (pc := 23) dX4_tryWalk_23 rfl ?_
    refine Ev.cNi (pc := 24) (As := [.int _, .int _]) (kX8_cellBehind _ _ _ _ _ _) rfl gX4_tryWalk_X8_cellBehind_n85 (by decide +kernel) stX4_tryWalk_X8_cellBehind iniX4_tryWalk_X8_cellBehind hdX8_cellBehind rfl ⟨rfl, rfl⟩ ⟨Nat.le_of_ble_eq_true rfl, Nat.le_of_ble_eq_true rfl⟩ (Nat.le_of_ble_eq_true rfl) ⟨Nat.le_of_ble_eq_true rfl, Nat.le_of_ble_eq_true rfl⟩ dX4_tryWalk_24 ?_
    obtain ⟨c_2, hr⟩ := ckB hr
    refine Ev.iast (pc := 27) (ar_t ht _ _ _ _) (inb_in c_2) (se_t ht _ _ _ _ _) dX4_tryWalk_27 ?_
    refine Ev.aload_n (pc := 28) dX4_tryWalk_28 rfl ?_
    refine Ev.get (pc := 29) (C0 := RX4) (T := TX4) (N := 2) (fl_t_1 ht _ _ _ _) rfl inX4_tryWalk (by decide) lkX4_tryWalk_11 dX4_tryWalk_29 ?_
    refine Ev.bipush (pc := 32) (v := nI 25) dX4_tryWalk_32 (by decide) ?_
    refine Ev.dup2 (pc := 34) dX4_tryWalk_34 rfl rfl ?_
    refine Ev.iald (pc := 35) (ar_t ht _ _ _ _) (vp_in_nI (n := 25) (N := 27) (by decide) (by decide)) dX4_tryWalk_35 ?_
    refine Ev.iload_n (pc := 36) dX4_tryWalk_36 rfl ?_
    refine Ev.cNi (pc := 37) (As := [.int _]) (kX8_bit _ _ _ _ _) rfl gX4_tryWalk_X8_bit_n62 (by decide +kernel) stX4_tryWalk_X8_bit iniX4_tryWalk_X8_bit hdX8_bit rfl ⟨rfl, rfl⟩ ⟨Nat.le_of_ble_eq_true rfl, Nat.le_of_ble_eq_true rfl⟩ (Nat.le_of_ble_eq_true rfl) ⟨Nat.le_of_ble_eq_true rfl, Nat.le_of_ble_eq_true rfl⟩ dX4_tryWalk_37 ?_
    refine Ev.ior (pc := 40) dX4_tryWalk_40 ?_
    refine Ev.iast (pc := 41) (ar_t ht _ _ _ _) (vp_in_nI (n := 25) (N := 27) (by decide) (by decide)) (se_t ht _ _ _ _ _) dX4_tryWalk_41 ?_
    refine Ev.iconst (pc := 42) (v := nI 1) dX4_tryWalk_42 (by decide) ?_
    cases hr
    exact Ev.iret rfl rfl dX4_tryWalk_43 ⟨rfl, rfl⟩
  · have hr := ifn hr (ntr c_1)
    refine Ev.iconst (pc := 9) (v := nI 0) dX4_tryWalk_9 (by decide) ?_
    cases hr
    exact Ev.iret rfl rfl dX4_tryWalk_10 ⟨rfl, rfl⟩
/-! X4_carriedBy -/
def sX4_carriedBy_4 (g : Hg) (t : Nat) (v1 : Int32) : Nat → Int32 → Int32 → Option (Int32)
  | 0, _, _ => none
  | n + 1, v2, v3 => if (nI 5) ≤ v3 then (some v2) else (if inb ((nI 13) + v3) 27 = true then (if (g (t + 15) (Int32.toNatClampNeg ((nI 13) + v3))) = v1 then (if (sX8_has (g (t + 15) (Int32.toNatClampNeg (nI 26))) v3) = true then (sX4_carriedBy_4 g t v1 n v2 (v3 + (nI 1))) else (sX4_carriedBy_4 g t v1 n (v2 ||| (sX8_bit v3)) (v3 + (nI 1)))) else (sX4_carriedBy_4 g t v1 n v2 (v3 + (nI 1)))) else none)
set_option maxRecDepth 20000 in
set_option maxHeartbeats 1000000 in
theorem kX4_carriedBy_4 (g : Hg) (q : Int64) (g2 : Hg) (q2 : Int64) {t : Nat} (ht : t = 3 ∨ t = 4) (v1 : Int32) (r : Int32) : ∀ (n : Nat) (v2 : Int32) (v3 : Int32), sX4_carriedBy_4 g t v1 n v2 v3 = some r → Ev (Xi (fun x h' => x = r ∧ h' = (g, q, g2, q2))) MX4_carriedBy 4 [some (.ref t), some (.int v1), some (.int v2), some (.int v3)] [] (g, q, g2, q2) := by
  intro n
  induction n with
  | zero => intro _ _ hr; cases hr
  | succ n ih =>
    intro v2 v3 hr
    rw [sX4_carriedBy_4] at hr
    refine Ev.iload_n (pc := 4) dX4_carriedBy_4 rfl ?_
    refine Ev.iconst (pc := 5) (v := nI 5) dX4_carriedBy_5 (by decide) ?_
    refine Ev.icmpge (pc := 6) (tgt := 49) dX4_carriedBy_6 (by decide) (fun c_1 => ?_) (fun c_1 => ?_)
    · have hr := ifp hr c_1
      refine Ev.iload_n (pc := 49) dX4_carriedBy_49 rfl ?_
      cases hr
      exact Ev.iret rfl rfl dX4_carriedBy_50 ⟨rfl, rfl⟩
    · have hr := ifn hr c_1
      refine Ev.aload_n (pc := 9) dX4_carriedBy_9 rfl ?_
      refine Ev.get (pc := 10) (C0 := RX4) (T := TX4) (N := 2) (fl_t_1 ht _ _ _ _) rfl inX4_carriedBy (by decide) lkX4_carriedBy_11 dX4_carriedBy_10 ?_
      refine Ev.bipush (pc := 13) (v := nI 13) dX4_carriedBy_13 (by decide) ?_
      refine Ev.iload_n (pc := 15) dX4_carriedBy_15 rfl ?_
      refine Ev.iadd (pc := 16) dX4_carriedBy_16 ?_
      obtain ⟨c_2, hr⟩ := ckB hr
      refine Ev.iald (pc := 17) (ar_t ht _ _ _ _) (inb_in c_2) dX4_carriedBy_17 ?_
      refine Ev.iload_n (pc := 18) dX4_carriedBy_18 rfl ?_
      refine Ev.icmpne (pc := 19) (tgt := 43) dX4_carriedBy_19 (by decide) (fun c_3 => ?_) (fun c_3 => ?_)
      · have hr := ifn hr c_3
        refine Ev.iinc (pc := 43) (v := nI 1) dX4_carriedBy_43 rfl rfl rfl rfl ?_
        refine Ev.goto (pc := 46) (tgt := 4) dX4_carriedBy_46 (by decide) ?_
        exact ih _ _ hr
      · have hr := ifp hr c_3
        refine Ev.aload_n (pc := 22) dX4_carriedBy_22 rfl ?_
        refine Ev.get (pc := 23) (C0 := RX4) (T := TX4) (N := 2) (fl_t_1 ht _ _ _ _) rfl inX4_carriedBy (by decide) lkX4_carriedBy_11 dX4_carriedBy_23 ?_
        refine Ev.bipush (pc := 26) (v := nI 26) dX4_carriedBy_26 (by decide) ?_
        refine Ev.iald (pc := 28) (ar_t ht _ _ _ _) (vp_in_nI (n := 26) (N := 27) (by decide) (by decide)) dX4_carriedBy_28 ?_
        refine Ev.iload_n (pc := 29) dX4_carriedBy_29 rfl ?_
        refine Ev.cNi (pc := 30) (As := [.int _, .int _]) (kX8_has _ _ _ _ _ _) rfl gX4_carriedBy_X8_has_n51 (by decide +kernel) stX4_carriedBy_X8_has iniX4_carriedBy_X8_has hdX8_has rfl ⟨rfl, rfl⟩ ⟨Nat.le_of_ble_eq_true rfl, Nat.le_of_ble_eq_true rfl⟩ (Nat.le_of_ble_eq_true rfl) ⟨Nat.le_of_ble_eq_true rfl, Nat.le_of_ble_eq_true rfl⟩ dX4_carriedBy_30 ?_
        refine Ev.ifneB (pc := 33) (tgt := 43) dX4_carriedBy_33 (by decide) (fun c_4 => ?_) (fun c_4 => ?_)
        · have hr := ifp hr c_4
          refine Ev.iinc (pc := 43) (v := nI 1) dX4_carriedBy_43 rfl rfl rfl rfl ?_
          refine Ev.goto (pc := 46) (tgt := 4) dX4_carriedBy_46 (by decide) ?_
          exact ih _ _ hr
        · have hr := ifn hr (ntr c_4)
          refine Ev.iload_n (pc := 36) dX4_carriedBy_36 rfl ?_
          refine Ev.iload_n (pc := 37) dX4_carriedBy_37 rfl ?_
          refine Ev.cNi (pc := 38) (As := [.int _]) (kX8_bit _ _ _ _ _) rfl gX4_carriedBy_X8_bit_n62 (by decide +kernel) stX4_carriedBy_X8_bit iniX4_carriedBy_X8_bit hdX8_bit rfl ⟨rfl, rfl⟩ ⟨Nat.le_of_ble_eq_true rfl, Nat.le_of_ble_eq_true rfl⟩ (Nat.le_of_ble_eq_true rfl) ⟨Nat.le_of_ble_eq_true rfl, Nat.le_of_ble_eq_true rfl⟩ dX4_carriedBy_38 ?_
          refine Ev.ior (pc := 41) dX4_carriedBy_41 ?_
          refine Ev.istore_n (pc := 42) dX4_carriedBy_42 rfl rfl ?_
          refine Ev.iinc (pc := 43) (v := nI 1) dX4_carriedBy_43 rfl rfl rfl rfl ?_
          refine Ev.goto (pc := 46) (tgt := 4) dX4_carriedBy_46 (by decide) ?_
          exact ih _ _ hr
def sX4_carriedBy (g : Hg) (t : Nat) (a1 : Int32) : Option (Int32) := sX4_carriedBy_4 g t a1 100 (nI 0) (nI 0)
set_option maxRecDepth 20000 in
set_option maxHeartbeats 1000000 in
theorem kX4_carriedBy (g : Hg) (q : Int64) (g2 : Hg) (q2 : Int64) {t : Nat} (ht : t = 3 ∨ t = 4) (a1 : Int32) {r : Int32} (hr : sX4_carriedBy g t a1 = some r) : CtI MX4_carriedBy [.ref t, .int a1] (g, q, g2, q2) (fun x h' => x = r ∧ h' = (g, q, g2, q2)) := by
  unfold sX4_carriedBy at hr
  refine CtI_L 2 rfl (by decide +kernel) rfl (Nat.le_of_ble_eq_true rfl) ?_
  show Ev _ _ 0 [some (.ref t), some (.int a1), none, none] [] _
  refine Ev.iconst (pc := 0) (v := nI 0) dX4_carriedBy_0 (by decide) ?_
  refine Ev.istore_n (pc := 1) dX4_carriedBy_1 rfl rfl ?_
  refine Ev.iconst (pc := 2) (v := nI 0) dX4_carriedBy_2 (by decide) ?_
  refine Ev.istore_n (pc := 3) dX4_carriedBy_3 rfl rfl ?_
  exact kX4_carriedBy_4 _ _ _ _ ht _ _ 100 _ _ hr
/-! X4_layDown -/
def sX4_layDown_8 (t : Nat) (v1 : Int32) (v2 : Int32) : Nat → Hg → Int32 → Option (Hg)
  | 0, _, _ => none
  | n + 1, g, v3 => if (nI 5) ≤ v3 then (some g) else (if (sX8_has v2 v3) = true then ((sX4_cellOfLark g t v1).bind fun x_2 => (if inb ((nI 8) + v3) 27 = true then (if inb ((nI 13) + v3) 27 = true then (sX4_layDown_8 t v1 v2 n (stA (stA g (t + 15) (Int32.toNatClampNeg ((nI 8) + v3)) x_2) (t + 15) (Int32.toNatClampNeg ((nI 13) + v3)) ((-9))) (v3 + (nI 1))) else none) else none)) else (sX4_layDown_8 t v1 v2 n g (v3 + (nI 1))))
set_option maxRecDepth 20000 in
set_option maxHeartbeats 1000000 in
theorem kX4_layDown_8 (q : Int64) (g2 : Hg) (q2 : Int64) {t : Nat} (ht : t = 3 ∨ t = 4) (v1 : Int32) (v2 : Int32) (r : Hg) : ∀ (n : Nat) (g : Hg) (v3 : Int32), sX4_layDown_8 t v1 v2 n g v3 = some r → Ev (Xv (fun h' => h' = (r, q, g2, q2))) MX4_layDown 8 [some (.ref t), some (.int v1), some (.int v2), some (.int v3)] [] (g, q, g2, q2) := by
  intro n
  induction n with
  | zero => intro _ _ hr; cases hr
  | succ n ih =>
    intro g v3 hr
    rw [sX4_layDown_8] at hr
    refine Ev.iload_n (pc := 8) dX4_layDown_8 rfl ?_
    refine Ev.iconst (pc := 9) (v := nI 5) dX4_layDown_9 (by decide) ?_
    refine Ev.icmpge (pc := 10) (tgt := 52) dX4_layDown_10 (by decide) (fun c_1 => ?_) (fun c_1 => ?_)
    · have hr := ifp hr c_1
      cases hr
      exact Ev.vret rfl dX4_layDown_52 rfl
    · have hr := ifn hr c_1
      refine Ev.iload_n (pc := 13) dX4_layDown_13 rfl ?_
      refine Ev.iload_n (pc := 14) dX4_layDown_14 rfl ?_
      refine Ev.cNi (pc := 15) (As := [.int _, .int _]) (kX8_has _ _ _ _ _ _) rfl gX4_layDown_X8_has_n51 (by decide +kernel) stX4_layDown_X8_has iniX4_layDown_X8_has hdX8_has rfl ⟨rfl, rfl⟩ ⟨Nat.le_of_ble_eq_true rfl, Nat.le_of_ble_eq_true rfl⟩ (Nat.le_of_ble_eq_true rfl) ⟨Nat.le_of_ble_eq_true rfl, Nat.le_of_ble_eq_true rfl⟩ dX4_layDown_15 ?_
      refine Ev.ifeqB (pc := 18) (tgt := 46) dX4_layDown_18 (by decide) (fun c_2 => ?_) (fun c_2 => ?_)
      · have hr := ifn hr (ntr c_2)
        refine Ev.iinc (pc := 46) (v := nI 1) dX4_layDown_46 rfl rfl rfl rfl ?_
        refine Ev.goto (pc := 49) (tgt := 8) dX4_layDown_49 (by decide) ?_
        exact ih _ _ hr
      · have hr := ifp hr c_2
        refine Ev.aload_n (pc := 21) dX4_layDown_21 rfl ?_
        refine Ev.get (pc := 22) (C0 := RX4) (T := TX4) (N := 2) (fl_t_1 ht _ _ _ _) rfl inX4_layDown (by decide) lkX4_layDown_11 dX4_layDown_22 ?_
        refine Ev.bipush (pc := 25) (v := nI 8) dX4_layDown_25 (by decide) ?_
        refine Ev.iload_n (pc := 27) dX4_layDown_27 rfl ?_
        refine Ev.iadd (pc := 28) dX4_layDown_28 ?_
        refine Ev.aload_n (pc := 29) dX4_layDown_29 rfl ?_
        refine Ev.iload_n (pc := 30) dX4_layDown_30 rfl ?_
        obtain ⟨x_2, hx_2, hr⟩ := Option.bind_eq_some_iff.mp hr
        refine Ev.cVi (pc := 31) (As := [.int _]) (kX4_cellOfLark _ _ _ _ ht _ hx_2) rfl rfl (ob_t ht _) gX4_layDown_X4_cellOfLark hdX4_cellOfLark rfl ⟨rfl, rfl⟩ ⟨Nat.le_of_ble_eq_true rfl, Nat.le_of_ble_eq_true rfl⟩ (Nat.le_of_ble_eq_true rfl) ⟨Nat.le_of_ble_eq_true rfl, Nat.le_of_ble_eq_true rfl⟩ dX4_layDown_31 ?_
        obtain ⟨c_3, hr⟩ := ckB hr
        refine Ev.iast (pc := 34) (ar_t ht _ _ _ _) (inb_in c_3) (se_t ht _ _ _ _ _) dX4_layDown_34 ?_
        refine Ev.aload_n (pc := 35) dX4_layDown_35 rfl ?_
        refine Ev.get (pc := 36) (C0 := RX4) (T := TX4) (N := 2) (fl_t_1 ht _ _ _ _) rfl inX4_layDown (by decide) lkX4_layDown_11 dX4_layDown_36 ?_
        refine Ev.bipush (pc := 39) (v := nI 13) dX4_layDown_39 (by decide) ?_
        refine Ev.iload_n (pc := 41) dX4_layDown_41 rfl ?_
        refine Ev.iadd (pc := 42) dX4_layDown_42 ?_
        refine Ev.bipush (pc := 43) (v := (-9)) dX4_layDown_43 (by decide) ?_
        obtain ⟨c_4, hr⟩ := ckB hr
        refine Ev.iast (pc := 45) (ar_t ht _ _ _ _) (inb_in c_4) (se_t ht _ _ _ _ _) dX4_layDown_45 ?_
        refine Ev.iinc (pc := 46) (v := nI 1) dX4_layDown_46 rfl rfl rfl rfl ?_
        refine Ev.goto (pc := 49) (tgt := 8) dX4_layDown_49 (by decide) ?_
        exact ih _ _ hr
def sX4_layDown (g : Hg) (t : Nat) (a1 : Int32) : Option (Hg) := (sX4_carriedBy g t a1).bind fun x_1 => (sX4_layDown_8 t a1 x_1 100 g (nI 0))
set_option maxRecDepth 20000 in
set_option maxHeartbeats 1000000 in
theorem kX4_layDown (g : Hg) (q : Int64) (g2 : Hg) (q2 : Int64) {t : Nat} (ht : t = 3 ∨ t = 4) (a1 : Int32) {r : Hg} (hr : sX4_layDown g t a1 = some r) : CtV MX4_layDown [.ref t, .int a1] (g, q, g2, q2) (fun h' => h' = (r, q, g2, q2)) := by
  unfold sX4_layDown at hr
  refine CtV_L 2 rfl (by decide +kernel) rfl (Nat.le_of_ble_eq_true rfl) ?_
  show Ev _ _ 0 [some (.ref t), some (.int a1), none, none] [] _
  refine Ev.aload_n (pc := 0) dX4_layDown_0 rfl ?_
  refine Ev.iload_n (pc := 1) dX4_layDown_1 rfl ?_
  obtain ⟨x_1, hx_1, hr⟩ := Option.bind_eq_some_iff.mp hr
  refine Ev.cVi (pc := 2) (As := [.int _]) (kX4_carriedBy _ _ _ _ ht _ hx_1) rfl rfl (ob_t ht _) gX4_layDown_X4_carriedBy hdX4_carriedBy rfl ⟨rfl, rfl⟩ ⟨Nat.le_of_ble_eq_true rfl, Nat.le_of_ble_eq_true rfl⟩ (Nat.le_of_ble_eq_true rfl) ⟨Nat.le_of_ble_eq_true rfl, Nat.le_of_ble_eq_true rfl⟩ dX4_layDown_2 ?_
  refine Ev.istore_n (pc := 5) dX4_layDown_5 rfl rfl ?_
  refine Ev.iconst (pc := 6) (v := nI 0) dX4_layDown_6 (by decide) ?_
  refine Ev.istore_n (pc := 7) dX4_layDown_7 rfl rfl ?_
  exact kX4_layDown_8 _ _ _ ht _ _ _ 100 _ _ hr
