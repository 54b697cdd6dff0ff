/-! X4_holder -/
def sX4_holder (g : Hg) (t : Nat) (a1 : Int32) : Option (Int32) := if (sX1_isFind g a1) = true then (if inb ((nI 13) + a1) 27 = true then (some (g (t + 15) (Int32.toNatClampNeg ((nI 13) + a1)))) else none) else (some ((-9)))
set_option maxRecDepth 20000 in
set_option maxHeartbeats 1000000 in
theorem kX4_holder (g : Hg) (q : Int64) (g2 : Hg) (q2 : Int64) {t : Nat} (ht : t = 3 ∨ t = 4) (a1 : Int32) {r : Int32} (hr : sX4_holder g t a1 = some r) : CtI MX4_holder [.ref t, .int a1] (g, q, g2, q2) (fun x h' => x = r ∧ h' = (g, q, g2, q2)) := by
  unfold sX4_holder at hr
  refine CtI_L 0 rfl (by decide +kernel) rfl (Nat.le_of_ble_eq_true rfl) ?_
  show Ev _ _ 0 [some (.ref t), some (.int a1)] [] _
  refine Ev.aload_n (pc := 0) dX4_holder_0 rfl ?_
  refine Ev.get (pc := 1) (C0 := RX4) (T := TX4) (N := 2) (fl_t_0 ht _ _ _ _) rfl inX4_holder (by decide) lkX4_holder_15 dX4_holder_1 ?_
  refine Ev.iload_n (pc := 4) dX4_holder_4 rfl ?_
  refine Ev.cVi (pc := 5) (As := [.int _]) (kX1_isFind _ _ _ _ _) rfl rfl (ob_2 _) gX4_holder_X1_isFind hdX1_isFind rfl ⟨rfl, rfl⟩ ⟨Nat.le_of_ble_eq_true rfl, Nat.le_of_ble_eq_true rfl⟩ (Nat.le_of_ble_eq_true rfl) ⟨Nat.le_of_ble_eq_true rfl, Nat.le_of_ble_eq_true rfl⟩ dX4_holder_5 ?_
  refine Ev.ifeqB (pc := 8) (tgt := 23) dX4_holder_8 (by decide) (fun c_1 => ?_) (fun c_1 => ?_)
  · have hr := ifn hr (ntr c_1)
    refine Ev.bipush (pc := 23) (v := (-9)) dX4_holder_23 (by decide) ?_
    cases hr
    exact Ev.iret rfl rfl dX4_holder_25 ⟨rfl, rfl⟩
  · have hr := ifp hr c_1
    refine Ev.aload_n (pc := 11) dX4_holder_11 rfl ?_
    refine Ev.get (pc := 12) (C0 := RX4) (T := TX4) (N := 2) (fl_t_1 ht _ _ _ _) rfl inX4_holder (by decide) lkX4_holder_11 dX4_holder_12 ?_
    refine Ev.bipush (pc := 15) (v := nI 13) dX4_holder_15 (by decide) ?_
    refine Ev.iload_n (pc := 17) dX4_holder_17 rfl ?_
    refine Ev.iadd (pc := 18) dX4_holder_18 ?_
    obtain ⟨c_2, hr⟩ := ckB hr
    refine Ev.iald (pc := 19) (ar_t ht _ _ _ _) (inb_in c_2) dX4_holder_19 ?_
    refine Ev.goto (pc := 20) (tgt := 25) dX4_holder_20 (by decide) ?_
    cases hr
    exact Ev.iret rfl rfl dX4_holder_25 ⟨rfl, rfl⟩
/-! X4_stateOfFind -/
def sX4_stateOfFind (g : Hg) (t : Nat) (a1 : Int32) : Option (Int32) := (sX4_cellOfFind g t a1).bind fun x_1 => (if x_1 = ((-9)) then (if (sX8_has (g (t + 15) (Int32.toNatClampNeg (nI 26))) a1) = true then (some (nI 2)) else (some (nI 1))) else (some (nI 0)))
set_option maxRecDepth 20000 in
set_option maxHeartbeats 1000000 in
theorem kX4_stateOfFind (g : Hg) (q : Int64) (g2 : Hg) (q2 : Int64) {t : Nat} (ht : t = 3 ∨ t = 4) (a1 : Int32) {r : Int32} (hr : sX4_stateOfFind g t a1 = some r) : CtI MX4_stateOfFind [.ref t, .int a1] (g, q, g2, q2) (fun x h' => x = r ∧ h' = (g, q, g2, q2)) := by
  unfold sX4_stateOfFind at hr
  refine CtI_L 0 rfl (by decide +kernel) rfl (Nat.le_of_ble_eq_true rfl) ?_
  show Ev _ _ 0 [some (.ref t), some (.int a1)] [] _
  refine Ev.aload_n (pc := 0) dX4_stateOfFind_0 rfl ?_
  refine Ev.iload_n (pc := 1) dX4_stateOfFind_1 rfl ?_
  obtain ⟨x_1, hx_1, hr⟩ := Option.bind_eq_some_iff.mp hr
  refine Ev.cVi (pc := 2) (As := [.int _]) (kX4_cellOfFind _ _ _ _ ht _ hx_1) rfl rfl (ob_t ht _) gX4_stateOfFind_X4_cellOfFind hdX4_cellOfFind rfl ⟨rfl, rfl⟩ ⟨Nat.le_of_ble_eq_true rfl, Nat.le_of_ble_eq_true rfl⟩ (Nat.le_of_ble_eq_true rfl) ⟨Nat.le_of_ble_eq_true rfl, Nat.le_of_ble_eq_true rfl⟩ dX4_stateOfFind_2 ?_
  refine Ev.bipush (pc := 5) (v := (-9)) dX4_stateOfFind_5 (by decide) ?_
  refine Ev.icmpeq (pc := 7) (tgt := 12) dX4_stateOfFind_7 (by decide) (fun c_1 => ?_) (fun c_1 => ?_)
  · have hr := ifp hr c_1
    refine Ev.aload_n (pc := 12) dX4_stateOfFind_12 rfl ?_
    refine Ev.get (pc := 13) (C0 := RX4) (T := TX4) (N := 2) (fl_t_1 ht _ _ _ _) rfl inX4_stateOfFind (by decide) lkX4_stateOfFind_11 dX4_stateOfFind_13 ?_
    refine Ev.bipush (pc := 16) (v := nI 26) dX4_stateOfFind_16 (by decide) ?_
    refine Ev.iald (pc := 18) (ar_t ht _ _ _ _) (vp_in_nI (n := 26) (N := 27) (by decide) (by decide)) dX4_stateOfFind_18 ?_
    refine Ev.iload_n (pc := 19) dX4_stateOfFind_19 rfl ?_
    refine Ev.cNi (pc := 20) (As := [.int _, .int _]) (kX8_has _ _ _ _ _ _) rfl gX4_stateOfFind_X8_has_n51 (by decide +kernel) stX4_stateOfFind_X8_has iniX4_stateOfFind_X8_has hdX8_has rfl ⟨rfl, rfl⟩ ⟨Nat.le_of_ble_eq_true rfl, Nat.le_of_ble_eq_true rfl⟩ (Nat.le_of_ble_eq_true rfl) ⟨Nat.le_of_ble_eq_true rfl, Nat.le_of_ble_eq_true rfl⟩ dX4_stateOfFind_20 ?_
    refine Ev.ifeqB (pc := 23) (tgt := 30) dX4_stateOfFind_23 (by decide) (fun c_2 => ?_) (fun c_2 => ?_)
    · have hr := ifn hr (ntr c_2)
      refine Ev.iconst (pc := 30) (v := nI 1) dX4_stateOfFind_30 (by decide) ?_
      cases hr
      exact Ev.iret rfl rfl dX4_stateOfFind_31 ⟨rfl, rfl⟩
    · have hr := ifp hr c_2
      refine Ev.iconst (pc := 26) (v := nI 2) dX4_stateOfFind_26 (by decide) ?_
      refine Ev.goto (pc := 27) (tgt := 31) dX4_stateOfFind_27 (by decide) ?_
      cases hr
      exact Ev.iret rfl rfl dX4_stateOfFind_31 ⟨rfl, rfl⟩
  · have hr := ifn hr c_1
    refine Ev.iconst (pc := 10) (v := nI 0) dX4_stateOfFind_10 (by decide) ?_
    cases hr
    exact Ev.iret rfl rfl dX4_stateOfFind_11 ⟨rfl, rfl⟩
/-! X4_findsThat -/
def sX4_findsThat_4 (g : Hg) (t : Nat) (v1 : Int32) : Nat → Int32 → Int32 → Option (Int32)
  | 0, _, _ => none
  | n + 1, v2, v3 => if (sX1_findCount g) ≤ v3 then (some v2) else ((sX4_stateOfFind g t v3).bind fun x_1 => (if x_1 = v1 then (sX4_findsThat_4 g t v1 n (v2 ||| (sX8_bit v3)) (v3 + (nI 1))) else (sX4_findsThat_4 g t v1 n v2 (v3 + (nI 1)))))
set_option maxRecDepth 20000 in
set_option maxHeartbeats 1000000 in
theorem kX4_findsThat_4 (g : Hg) (q : Int64) (g2 : Hg) (q2 : Int64) {t : Nat} (ht : t = 3 ∨ t = 4) (v1 : Int32) (r : Int32) : ∀ (n : Nat) (v2 : Int32) (v3 : Int32), sX4_findsThat_4 g t v1 n v2 v3 = some r → Ev (Xi (fun x h' => x = r ∧ h' = (g, q, g2, q2))) MX4_findsThat 4 [some (.ref t), some (.int v1), some (.int v2), some (.int v3)] [] (g, q, g2, q2) := by
  intro n
  induction n with
  | zero => intro _ _ hr; cases hr
  | succ n ih =>
    intro v2 v3 hr
    rw [sX4_findsThat_4] at hr
    refine Ev.iload_n (pc := 4) dX4_findsThat_4 rfl ?_
    refine Ev.aload_n (pc := 5) dX4_findsThat_5 rfl ?_
    refine Ev.get (pc := 6) (C0 := RX4) (T := TX4) (N := 2) (fl_t_0 ht _ _ _ _) rfl inX4_findsThat (by decide) lkX4_findsThat_15 dX4_findsThat_6 ?_
    refine Ev.cVi (pc := 9) (As := []) (kX1_findCount _ _ _ _) rfl rfl (ob_2 _) gX4_findsThat_X1_findCount hdX1_findCount rfl ⟨rfl, rfl⟩ ⟨Nat.le_of_ble_eq_true rfl, Nat.le_of_ble_eq_true rfl⟩ (Nat.le_of_ble_eq_true rfl) ⟨Nat.le_of_ble_eq_true rfl, Nat.le_of_ble_eq_true rfl⟩ dX4_findsThat_9 ?_
    refine Ev.icmpge (pc := 12) (tgt := 37) dX4_findsThat_12 (by decide) (fun c_1 => ?_) (fun c_1 => ?_)
    · have hr := ifp hr c_1
      refine Ev.iload_n (pc := 37) dX4_findsThat_37 rfl ?_
      cases hr
      exact Ev.iret rfl rfl dX4_findsThat_38 ⟨rfl, rfl⟩
    · have hr := ifn hr c_1
      refine Ev.aload_n (pc := 15) dX4_findsThat_15 rfl ?_
      refine Ev.iload_n (pc := 16) dX4_findsThat_16 rfl ?_
      obtain ⟨x_1, hx_1, hr⟩ := Option.bind_eq_some_iff.mp hr
      refine Ev.cVi (pc := 17) (As := [.int _]) (kX4_stateOfFind _ _ _ _ ht _ hx_1) rfl rfl (ob_t ht _) gX4_findsThat_X4_stateOfFind hdX4_stateOfFind rfl ⟨rfl, rfl⟩ ⟨Nat.le_of_ble_eq_true rfl, Nat.le_of_ble_eq_true rfl⟩ (Nat.le_of_ble_eq_true rfl) ⟨Nat.le_of_ble_eq_true rfl, Nat.le_of_ble_eq_true rfl⟩ dX4_findsThat_17 ?_
      refine Ev.iload_n (pc := 20) dX4_findsThat_20 rfl ?_
      refine Ev.icmpne (pc := 21) (tgt := 31) dX4_findsThat_21 (by decide) (fun c_2 => ?_) (fun c_2 => ?_)
      · have hr := ifn hr c_2
        refine Ev.iinc (pc := 31) (v := nI 1) dX4_findsThat_31 rfl rfl rfl rfl ?_
        refine Ev.goto (pc := 34) (tgt := 4) dX4_findsThat_34 (by decide) ?_
        exact ih _ _ hr
      · have hr := ifp hr c_2
        refine Ev.iload_n (pc := 24) dX4_findsThat_24 rfl ?_
        refine Ev.iload_n (pc := 25) dX4_findsThat_25 rfl ?_
        refine Ev.cNi (pc := 26) (As := [.int _]) (kX8_bit _ _ _ _ _) rfl gX4_findsThat_X8_bit_n62 (by decide +kernel) stX4_findsThat_X8_bit iniX4_findsThat_X8_bit hdX8_bit rfl ⟨rfl, rfl⟩ ⟨Nat.le_of_ble_eq_true rfl, Nat.le_of_ble_eq_true rfl⟩ (Nat.le_of_ble_eq_true rfl) ⟨Nat.le_of_ble_eq_true rfl, Nat.le_of_ble_eq_true rfl⟩ dX4_findsThat_26 ?_
        refine Ev.ior (pc := 29) dX4_findsThat_29 ?_
        refine Ev.istore_n (pc := 30) dX4_findsThat_30 rfl rfl ?_
        refine Ev.iinc (pc := 31) (v := nI 1) dX4_findsThat_31 rfl rfl rfl rfl ?_
        refine Ev.goto (pc := 34) (tgt := 4) dX4_findsThat_34 (by decide) ?_
        exact ih _ _ hr
def sX4_findsThat (g : Hg) (t : Nat) (a1 : Int32) : Option (Int32) := sX4_findsThat_4 g t a1 100 (nI 0) (nI 0)
set_option maxRecDepth 20000 in
set_option maxHeartbeats 1000000 in
theorem kX4_findsThat (g : Hg) (q : Int64) (g2 : Hg) (q2 : Int64) {t : Nat} (ht : t = 3 ∨ t = 4) (a1 : Int32) {r : Int32} (hr : sX4_findsThat g t a1 = some r) : CtI MX4_findsThat [.ref t, .int a1] (g, q, g2, q2) (fun x h' => x = r ∧ h' = (g, q, g2, q2)) := by
  unfold sX4_findsThat at hr
  refine CtI_L 2 rfl (by decide +kernel) rfl (Nat.le_of_ble_eq_true rfl) ?_
  show Ev _ _ 0 [some (.ref t), some (.int a1), none, none] [] _
  refine Ev.iconst (pc := 0) (v := nI 0) dX4_findsThat_0 (by decide) ?_
  refine Ev.istore_n (pc := 1) dX4_findsThat_1 rfl rfl ?_
  refine Ev.iconst (pc := 2) (v := nI 0) dX4_findsThat_2 (by decide) ?_
  refine Ev.istore_n (pc := 3) dX4_findsThat_3 rfl rfl ?_
  exact kX4_findsThat_4 _ _ _ _ ht _ _ 100 _ _ hr
/-! X4_larksAt -/
def sX4_larksAt_4 (g : Hg) (t : Nat) (v1 : Int32) : Nat → Int32 → Int32 → Option (Int32)
  | 0, _, _ => none
  | n + 1, v2, v3 => if (sX1_larkCount g) ≤ v3 then (some v2) else ((sX4_cellOfLark g t v3).bind fun x_1 => (if x_1 = v1 then (sX4_larksAt_4 g t v1 n (v2 ||| (sX8_bit v3)) (v3 + (nI 1))) else (sX4_larksAt_4 g t v1 n v2 (v3 + (nI 1)))))
set_option maxRecDepth 20000 in
set_option maxHeartbeats 1000000 in
theorem kX4_larksAt_4 (g : Hg) (q : Int64) (g2 : Hg) (q2 : Int64) {t : Nat} (ht : t = 3 ∨ t = 4) (v1 : Int32) (r : Int32) : ∀ (n : Nat) (v2 : Int32) (v3 : Int32), sX4_larksAt_4 g t v1 n v2 v3 = some r → Ev (Xi (fun x h' => x = r ∧ h' = (g, q, g2, q2))) MX4_larksAt 4 [some (.ref t), some (.int v1), some (.int v2), some (.int v3)] [] (g, q, g2, q2) := by
  intro n
  induction n with
  | zero => intro _ _ hr; cases hr
  | succ n ih =>
    intro v2 v3 hr
    rw [sX4_larksAt_4] at hr
    refine Ev.iload_n (pc := 4) dX4_larksAt_4 rfl ?_
    refine Ev.aload_n (pc := 5) dX4_larksAt_5 rfl ?_
    refine Ev.get (pc := 6) (C0 := RX4) (T := TX4) (N := 2) (fl_t_0 ht _ _ _ _) rfl inX4_larksAt (by decide) lkX4_larksAt_15 dX4_larksAt_6 ?_
    refine Ev.cVi (pc := 9) (As := []) (kX1_larkCount _ _ _ _) rfl rfl (ob_2 _) gX4_larksAt_X1_larkCount hdX1_larkCount rfl ⟨rfl, rfl⟩ ⟨Nat.le_of_ble_eq_true rfl, Nat.le_of_ble_eq_true rfl⟩ (Nat.le_of_ble_eq_true rfl) ⟨Nat.le_of_ble_eq_true rfl, Nat.le_of_ble_eq_true rfl⟩ dX4_larksAt_9 ?_
    refine Ev.icmpge (pc := 12) (tgt := 37) dX4_larksAt_12 (by decide) (fun c_1 => ?_) (fun c_1 => ?_)
    · have hr := ifp hr c_1
      refine Ev.iload_n (pc := 37) dX4_larksAt_37 rfl ?_
      cases hr
      exact Ev.iret rfl rfl dX4_larksAt_38 ⟨rfl, rfl⟩
    · have hr := ifn hr c_1
      refine Ev.aload_n (pc := 15) dX4_larksAt_15 rfl ?_
      refine Ev.iload_n (pc := 16) dX4_larksAt_16 rfl ?_
      obtain ⟨x_1, hx_1, hr⟩ := Option.bind_eq_some_iff.mp hr
      refine Ev.cVi (pc := 17) (As := [.int _]) (kX4_cellOfLark _ _ _ _ ht _ hx_1) rfl rfl (ob_t ht _) gX4_larksAt_X4_cellOfLark hdX4_cellOfLark rfl ⟨rfl, rfl⟩ ⟨Nat.le_of_ble_eq_true rfl, Nat.le_of_ble_eq_true rfl⟩ (Nat.le_of_ble_eq_true rfl) ⟨Nat.le_of_ble_eq_true rfl, Nat.le_of_ble_eq_true rfl⟩ dX4_larksAt_17 ?_
      refine Ev.iload_n (pc := 20) dX4_larksAt_20 rfl ?_
      refine Ev.icmpne (pc := 21) (tgt := 31) dX4_larksAt_21 (by decide) (fun c_2 => ?_) (fun c_2 => ?_)
      · have hr := ifn hr c_2
        refine Ev.iinc (pc := 31) (v := nI 1) dX4_larksAt_31 rfl rfl rfl rfl ?_
        refine Ev.goto (pc := 34) (tgt := 4) dX4_larksAt_34 (by decide) ?_
        exact ih _ _ hr
      · have hr := ifp hr c_2
        refine Ev.iload_n (pc := 24) dX4_larksAt_24 rfl ?_
        refine Ev.iload_n (pc := 25) dX4_larksAt_25 rfl ?_
        refine Ev.cNi (pc := 26) (As := [.int _]) (kX8_bit _ _ _ _ _) rfl gX4_larksAt_X8_bit_n62 (by decide +kernel) stX4_larksAt_X8_bit iniX4_larksAt_X8_bit hdX8_bit rfl ⟨rfl, rfl⟩ ⟨Nat.le_of_ble_eq_true rfl, Nat.le_of_ble_eq_true rfl⟩ (Nat.le_of_ble_eq_true rfl) ⟨Nat.le_of_ble_eq_true rfl, Nat.le_of_ble_eq_true rfl⟩ dX4_larksAt_26 ?_
        refine Ev.ior (pc := 29) dX4_larksAt_29 ?_
        refine Ev.istore_n (pc := 30) dX4_larksAt_30 rfl rfl ?_
        refine Ev.iinc (pc := 31) (v := nI 1) dX4_larksAt_31 rfl rfl rfl rfl ?_
        refine Ev.goto (pc := 34) (tgt := 4) dX4_larksAt_34 (by decide) ?_
        exact ih _ _ hr
def sX4_larksAt (g : Hg) (t : Nat) (a1 : Int32) : Option (Int32) := sX4_larksAt_4 g t a1 100 (nI 0) (nI 0)
set_option maxRecDepth 20000 in
set_option maxHeartbeats 1000000 in
theorem kX4_larksAt (g : Hg) (q : Int64) (g2 : Hg) (q2 : Int64) {t : Nat} (ht : t = 3 ∨ t = 4) (a1 : Int32) {r : Int32} (hr : sX4_larksAt g t a1 = some r) : CtI MX4_larksAt [.ref t, .int a1] (g, q, g2, q2) (fun x h' => x = r ∧ h' = (g, q, g2, q2)) := by
  unfold sX4_larksAt at hr
  refine CtI_L 2 rfl (by decide +kernel) rfl (Nat.le_of_ble_eq_true rfl) ?_
  show Ev _ _ 0 [some (.ref t), some (.int a1), none, none] [] _
  refine Ev.iconst (pc := 0) (v := nI 0) dX4_larksAt_0 (by decide) ?_
  refine Ev.istore_n (pc := 1) dX4_larksAt_1 rfl rfl ?_
  refine Ev.iconst (pc := 2) (v := nI 0) dX4_larksAt_2 (by decide) ?_
  refine Ev.istore_n (pc := 3) dX4_larksAt_3 rfl rfl ?_
  exact kX4_larksAt_4 _ _ _ _ ht _ _ 100 _ _ hr
/-! J6_bitCount_0f7a4 -/
def sJ6_bitCount_0f7a4 (a1 : Int32) : Int32 := ((((((((a1 - ((((a1).toUInt32 >>> (((nI 1)).toUInt32 &&& Int32.toUInt32 31)).toInt32) &&& 1431655765)) &&& 858993459) + (((((a1 - ((((a1).toUInt32 >>> (((nI 1)).toUInt32 &&& Int32.toUInt32 31)).toInt32) &&& 1431655765))).toUInt32 >>> (((nI 2)).toUInt32 &&& Int32.toUInt32 31)).toInt32) &&& 858993459)) + ((((((a1 - ((((a1).toUInt32 >>> (((nI 1)).toUInt32 &&& Int32.toUInt32 31)).toInt32) &&& 1431655765)) &&& 858993459) + (((((a1 - ((((a1).toUInt32 >>> (((nI 1)).toUInt32 &&& Int32.toUInt32 31)).toInt32) &&& 1431655765))).toUInt32 >>> (((nI 2)).toUInt32 &&& Int32.toUInt32 31)).toInt32) &&& 858993459))).toUInt32 >>> (((nI 4)).toUInt32 &&& Int32.toUInt32 31)).toInt32)) &&& 252645135) + ((((((((a1 - ((((a1).toUInt32 >>> (((nI 1)).toUInt32 &&& Int32.toUInt32 31)).toInt32) &&& 1431655765)) &&& 858993459) + (((((a1 - ((((a1).toUInt32 >>> (((nI 1)).toUInt32 &&& Int32.toUInt32 31)).toInt32) &&& 1431655765))).toUInt32 >>> (((nI 2)).toUInt32 &&& Int32.toUInt32 31)).toInt32) &&& 858993459)) + ((((((a1 - ((((a1).toUInt32 >>> (((nI 1)).toUInt32 &&& Int32.toUInt32 31)).toInt32) &&& 1431655765)) &&& 858993459) + (((((a1 - ((((a1).toUInt32 >>> (((nI 1)).toUInt32 &&& Int32.toUInt32 31)).toInt32) &&& 1431655765))).toUInt32 >>> (((nI 2)).toUInt32 &&& Int32.toUInt32 31)).toInt32) &&& 858993459))).toUInt32 >>> (((nI 4)).toUInt32 &&& Int32.toUInt32 31)).toInt32)) &&& 252645135)).toUInt32 >>> (((nI 8)).toUInt32 &&& Int32.toUInt32 31)).toInt32)) + (((((((((a1 - ((((a1).toUInt32 >>> (((nI 1)).toUInt32 &&& Int32.toUInt32 31)).toInt32) &&& 1431655765)) &&& 858993459) + (((((a1 - ((((a1).toUInt32 >>> (((nI 1)).toUInt32 &&& Int32.toUInt32 31)).toInt32) &&& 1431655765))).toUInt32 >>> (((nI 2)).toUInt32 &&& Int32.toUInt32 31)).toInt32) &&& 858993459)) + ((((((a1 - ((((a1).toUInt32 >>> (((nI 1)).toUInt32 &&& Int32.toUInt32 31)).toInt32) &&& 1431655765)) &&& 858993459) + (((((a1 - ((((a1).toUInt32 >>> (((nI 1)).toUInt32 &&& Int32.toUInt32 31)).toInt32) &&& 1431655765))).toUInt32 >>> (((nI 2)).toUInt32 &&& Int32.toUInt32 31)).toInt32) &&& 858993459))).toUInt32 >>> (((nI 4)).toUInt32 &&& Int32.toUInt32 31)).toInt32)) &&& 252645135) + ((((((((a1 - ((((a1).toUInt32 >>> (((nI 1)).toUInt32 &&& Int32.toUInt32 31)).toInt32) &&& 1431655765)) &&& 858993459) + (((((a1 - ((((a1).toUInt32 >>> (((nI 1)).toUInt32 &&& Int32.toUInt32 31)).toInt32) &&& 1431655765))).toUInt32 >>> (((nI 2)).toUInt32 &&& Int32.toUInt32 31)).toInt32) &&& 858993459)) + ((((((a1 - ((((a1).toUInt32 >>> (((nI 1)).toUInt32 &&& Int32.toUInt32 31)).toInt32) &&& 1431655765)) &&& 858993459) + (((((a1 - ((((a1).toUInt32 >>> (((nI 1)).toUInt32 &&& Int32.toUInt32 31)).toInt32) &&& 1431655765))).toUInt32 >>> (((nI 2)).toUInt32 &&& Int32.toUInt32 31)).toInt32) &&& 858993459))).toUInt32 >>> (((nI 4)).toUInt32 &&& Int32.toUInt32 31)).toInt32)) &&& 252645135)).toUInt32 >>> (((nI 8)).toUInt32 &&& Int32.toUInt32 31)).toInt32))).toUInt32 >>> (((nI 16)).toUInt32 &&& Int32.toUInt32 31)).toInt32)) &&& (nI 63))
set_option maxRecDepth 20000 in
set_option maxHeartbeats 1000000 in
theorem kJ6_bitCount_0f7a4 (g : Hg) (q : Int64) (g2 : Hg) (q2 : Int64) (a1 : Int32) : CtI MJ6_bitCount_0f7a4 [.int a1] (g, q, g2, q2) (fun x h' => x = (sJ6_bitCount_0f7a4 a1) ∧ h' = (g, q, g2, q2)) := by
  generalize hr : sJ6_bitCount_0f7a4 a1 = r
  unfold sJ6_bitCount_0f7a4 at hr
  refine CtI_L 0 rfl (by decide +kernel) rfl (Nat.le_of_ble_eq_true rfl) ?_
  show Ev _ _ 0 [some (.int a1)] [] _
  refine Ev.iload_n (pc := 0) dJ6_bitCount_0f7a4_0 rfl ?_
  refine Ev.iload_n (pc := 1) dJ6_bitCount_0f7a4_1 rfl ?_
  refine Ev.iconst (pc := 2) (v := nI 1) dJ6_bitCount_0f7a4_2 (by decide) ?_
  refine Ev.iushr (pc := 3) dJ6_bitCount_0f7a4_3 ?_
  refine Ev.ldcw (pc := 4) (v := 1431655765) (by decide +kernel) dJ6_bitCount_0f7a4_4 ?_
  refine Ev.iand (pc := 7) dJ6_bitCount_0f7a4_7 ?_
  refine Ev.isub (pc := 8) dJ6_bitCount_0f7a4_8 ?_
  refine Ev.istore_n (pc := 9) dJ6_bitCount_0f7a4_9 rfl rfl ?_
  refine Ev.iload_n (pc := 10) dJ6_bitCount_0f7a4_10 rfl ?_
  refine Ev.ldcw (pc := 11) (v := 858993459) (by decide +kernel) dJ6_bitCount_0f7a4_11 ?_
  refine Ev.iand (pc := 14) dJ6_bitCount_0f7a4_14 ?_
  refine Ev.iload_n (pc := 15) dJ6_bitCount_0f7a4_15 rfl ?_
  refine Ev.iconst (pc := 16) (v := nI 2) dJ6_bitCount_0f7a4_16 (by decide) ?_
  refine Ev.iushr (pc := 17) dJ6_bitCount_0f7a4_17 ?_
  refine Ev.ldcw (pc := 18) (v := 858993459) (by decide +kernel) dJ6_bitCount_0f7a4_18 ?_
  refine Ev.iand (pc := 21) dJ6_bitCount_0f7a4_21 ?_
  refine Ev.iadd (pc := 22) dJ6_bitCount_0f7a4_22 ?_
  refine Ev.istore_n (pc := 23) dJ6_bitCount_0f7a4_23 rfl rfl ?_
  refine Ev.iload_n (pc := 24) dJ6_bitCount_0f7a4_24 rfl ?_
  refine Ev.iload_n (pc := 25) dJ6_bitCount_0f7a4_25 rfl ?_
  refine Ev.iconst (pc := 26) (v := nI 4) dJ6_bitCount_0f7a4_26 (by decide) ?_
  refine Ev.iushr (pc := 27) dJ6_bitCount_0f7a4_27 ?_
  refine Ev.iadd (pc := 28) dJ6_bitCount_0f7a4_28 ?_
  refine Ev.ldcw (pc := 29) (v := 252645135) (by decide +kernel) dJ6_bitCount_0f7a4_29 ?_
  refine Ev.iand (pc := 32) dJ6_bitCount_0f7a4_32 ?_
  refine Ev.istore_n (pc := 33) dJ6_bitCount_0f7a4_33 rfl rfl ?_
  refine Ev.iload_n (pc := 34) dJ6_bitCount_0f7a4_34 rfl ?_
  refine Ev.iload_n (pc := 35) dJ6_bitCount_0f7a4_35 rfl ?_
  refine Ev.bipush (pc := 36) (v := nI 8) dJ6_bitCount_0f7a4_36 (by decide) ?_
  refine Ev.iushr (pc := 38) dJ6_bitCount_0f7a4_38 ?_
  refine Ev.iadd (pc := 39) dJ6_bitCount_0f7a4_39 ?_
  refine Ev.istore_n (pc := 40) dJ6_bitCount_0f7a4_40 rfl rfl ?_
  refine Ev.iload_n (pc := 41) dJ6_bitCount_0f7a4_41 rfl ?_
  refine Ev.iload_n (pc := 42) dJ6_bitCount_0f7a4_42 rfl ?_
  refine Ev.bipush (pc := 43) (v := nI 16) dJ6_bitCount_0f7a4_43 (by decide) ?_
  refine Ev.iushr (pc := 45) dJ6_bitCount_0f7a4_45 ?_
  refine Ev.iadd (pc := 46) dJ6_bitCount_0f7a4_46 ?_
  refine Ev.istore_n (pc := 47) dJ6_bitCount_0f7a4_47 rfl rfl ?_
  refine Ev.iload_n (pc := 48) dJ6_bitCount_0f7a4_48 rfl ?_
  refine Ev.bipush (pc := 49) (v := nI 63) dJ6_bitCount_0f7a4_49 (by decide) ?_
  refine Ev.iand (pc := 51) dJ6_bitCount_0f7a4_51 ?_
  subst hr
  exact Ev.iret rfl rfl dJ6_bitCount_0f7a4_52 ⟨rfl, rfl⟩
/-! X4_larksAlive -/
def sX4_larksAlive (g : Hg) (t : Nat) : Int32 := ((sX1_larkCount g) - (sJ6_bitCount_0f7a4 (g (t + 15) (Int32.toNatClampNeg (nI 24)))))
set_option maxRecDepth 20000 in
set_option maxHeartbeats 1000000 in
theorem kX4_larksAlive (g : Hg) (q : Int64) (g2 : Hg) (q2 : Int64) {t : Nat} (ht : t = 3 ∨ t = 4) : CtI MX4_larksAlive [.ref t] (g, q, g2, q2) (fun x h' => x = (sX4_larksAlive g t) ∧ h' = (g, q, g2, q2)) := by
  generalize hr : sX4_larksAlive g t = r
  unfold sX4_larksAlive at hr
  refine CtI_L 0 rfl (by decide +kernel) rfl (Nat.le_of_ble_eq_true rfl) ?_
  show Ev _ _ 0 [some (.ref t)] [] _
  refine Ev.aload_n (pc := 0) dX4_larksAlive_0 rfl ?_
  refine Ev.get (pc := 1) (C0 := RX4) (T := TX4) (N := 2) (fl_t_0 ht _ _ _ _) rfl inX4_larksAlive (by decide) lkX4_larksAlive_15 dX4_larksAlive_1 ?_
  refine Ev.cVi (pc := 4) (As := []) (kX1_larkCount _ _ _ _) rfl rfl (ob_2 _) gX4_larksAlive_X1_larkCount hdX1_larkCount rfl ⟨rfl, rfl⟩ ⟨Nat.le_of_ble_eq_true rfl, Nat.le_of_ble_eq_true rfl⟩ (Nat.le_of_ble_eq_true rfl) ⟨Nat.le_of_ble_eq_true rfl, Nat.le_of_ble_eq_true rfl⟩ dX4_larksAlive_4 ?_
  refine Ev.aload_n (pc := 7) dX4_larksAlive_7 rfl ?_
  refine Ev.get (pc := 8) (C0 := RX4) (T := TX4) (N := 2) (fl_t_1 ht _ _ _ _) rfl inX4_larksAlive (by decide) lkX4_larksAlive_11 dX4_larksAlive_8 ?_
  refine Ev.bipush (pc := 11) (v := nI 24) dX4_larksAlive_11 (by decide) ?_
  refine Ev.iald (pc := 13) (ar_t ht _ _ _ _) (vp_in_nI (n := 24) (N := 27) (by decide) (by decide)) dX4_larksAlive_13 ?_
  refine Ev.cSi (pc := 14) (As := [.int _]) (kJ6_bitCount_0f7a4 _ _ _ _ _) rfl gX4_larksAlive_J6_bitCount_0f7a4 hdJ6_bitCount_0f7a4 rfl ⟨rfl, rfl⟩ ⟨Nat.le_of_ble_eq_true rfl, Nat.le_of_ble_eq_true rfl⟩ (Nat.le_of_ble_eq_true rfl) ⟨Nat.le_of_ble_eq_true rfl, Nat.le_of_ble_eq_true rfl⟩ dX4_larksAlive_14 ?_
  refine Ev.isub (pc := 17) dX4_larksAlive_17 ?_
  subst hr
  exact Ev.iret rfl rfl dX4_larksAlive_18 ⟨rfl, rfl⟩
/-! X4_coinsOfAll -/
def sX4_coinsOfAll_4 (g : Hg) (t : Nat) : Nat → Int32 → Int32 → Option (Int32)
  | 0, _, _ => none
  | n + 1, v1, v2 => if (sX1_larkCount g) ≤ v2 then (some v1) else ((sX4_coins g t v2).bind fun x_1 => (sX4_coinsOfAll_4 g t n (v1 + x_1) (v2 + (nI 1))))
set_option maxRecDepth 20000 in
set_option maxHeartbeats 1000000 in
theorem kX4_coinsOfAll_4 (g : Hg) (q : Int64) (g2 : Hg) (q2 : Int64) {t : Nat} (ht : t = 3 ∨ t = 4)  (r : Int32) : ∀ (n : Nat) (v1 : Int32) (v2 : Int32), sX4_coinsOfAll_4 g t n v1 v2 = some r → Ev (Xi (fun x h' => x = r ∧ h' = (g, q, g2, q2))) MX4_coinsOfAll 4 [some (.ref t), some (.int v1), some (.int v2)] [] (g, q, g2, q2) := by
  intro n
  induction n with
  | zero => intro _ _ hr; cases hr
  | succ n ih =>
    intro v1 v2 hr
    rw [sX4_coinsOfAll_4] at hr
    refine Ev.iload_n (pc := 4) dX4_coinsOfAll_4 rfl ?_
    refine Ev.aload_n (pc := 5) dX4_coinsOfAll_5 rfl ?_
    refine Ev.get (pc := 6) (C0 := RX4) (T := TX4) (N := 2) (fl_t_0 ht _ _ _ _) rfl inX4_coinsOfAll (by decide) lkX4_coinsOfAll_15 dX4_coinsOfAll_6 ?_
    refine Ev.cVi (pc := 9) (As := []) (kX1_larkCount _ _ _ _) rfl rfl (ob_2 _) gX4_coinsOfAll_X1_larkCount hdX1_larkCount rfl ⟨rfl, rfl⟩ ⟨Nat.le_of_ble_eq_true rfl, Nat.le_of_ble_eq_true rfl⟩ (Nat.le_of_ble_eq_true rfl) ⟨Nat.le_of_ble_eq_true rfl, Nat.le_of_ble_eq_true rfl⟩ dX4_coinsOfAll_9 ?_
    refine Ev.icmpge (pc := 12) (tgt := 29) dX4_coinsOfAll_12 (by decide) (fun c_1 => ?_) (fun c_1 => ?_)
    · have hr := ifp hr c_1
      refine Ev.iload_n (pc := 29) dX4_coinsOfAll_29 rfl ?_
      cases hr
      exact Ev.iret rfl rfl dX4_coinsOfAll_30 ⟨rfl, rfl⟩
    · have hr := ifn hr c_1
      refine Ev.iload_n (pc := 15) dX4_coinsOfAll_15 rfl ?_
      refine Ev.aload_n (pc := 16) dX4_coinsOfAll_16 rfl ?_
      refine Ev.iload_n (pc := 17) dX4_coinsOfAll_17 rfl ?_
      obtain ⟨x_1, hx_1, hr⟩ := Option.bind_eq_some_iff.mp hr
      refine Ev.cVi (pc := 18) (As := [.int _]) (kX4_coins _ _ _ _ ht _ hx_1) rfl rfl (ob_t ht _) gX4_coinsOfAll_X4_coins hdX4_coins rfl ⟨rfl, rfl⟩ ⟨Nat.le_of_ble_eq_true rfl, Nat.le_of_ble_eq_true rfl⟩ (Nat.le_of_ble_eq_true rfl) ⟨Nat.le_of_ble_eq_true rfl, Nat.le_of_ble_eq_true rfl⟩ dX4_coinsOfAll_18 ?_
      refine Ev.iadd (pc := 21) dX4_coinsOfAll_21 ?_
      refine Ev.istore_n (pc := 22) dX4_coinsOfAll_22 rfl rfl ?_
      refine Ev.iinc (pc := 23) (v := nI 1) dX4_coinsOfAll_23 rfl rfl rfl rfl ?_
      refine Ev.goto (pc := 26) (tgt := 4) dX4_coinsOfAll_26 (by decide) ?_
      exact ih _ _ hr
def sX4_coinsOfAll (g : Hg) (t : Nat) : Option (Int32) := sX4_coinsOfAll_4 g t 100 (nI 0) (nI 0)
set_option maxRecDepth 20000 in
set_option maxHeartbeats 1000000 in
theorem kX4_coinsOfAll (g : Hg) (q : Int64) (g2 : Hg) (q2 : Int64) {t : Nat} (ht : t = 3 ∨ t = 4) {r : Int32} (hr : sX4_coinsOfAll g t = some r) : CtI MX4_coinsOfAll [.ref t] (g, q, g2, q2) (fun x h' => x = r ∧ h' = (g, q, g2, q2)) := by
  unfold sX4_coinsOfAll at hr
  refine CtI_L 2 rfl (by decide +kernel) rfl (Nat.le_of_ble_eq_true rfl) ?_
  show Ev _ _ 0 [some (.ref t), none, none] [] _
  refine Ev.iconst (pc := 0) (v := nI 0) dX4_coinsOfAll_0 (by decide) ?_
  refine Ev.istore_n (pc := 1) dX4_coinsOfAll_1 rfl rfl ?_
  refine Ev.iconst (pc := 2) (v := nI 0) dX4_coinsOfAll_2 (by decide) ?_
  refine Ev.istore_n (pc := 3) dX4_coinsOfAll_3 rfl rfl ?_
  exact kX4_coinsOfAll_4 _ _ _ _ ht _ 100 _ _ hr
/-! X4_isInRowByTheWall -/
def sX4_isInRowByTheWall (g : Hg) (t : Nat) (a1 : Int32) : Option (Bool) := (sX4_cellOfLark g t a1).bind fun x_1 => (some (sX8_within x_1 (nI 0) (nI 3)))
set_option maxRecDepth 20000 in
set_option maxHeartbeats 1000000 in
theorem kX4_isInRowByTheWall (g : Hg) (q : Int64) (g2 : Hg) (q2 : Int64) {t : Nat} (ht : t = 3 ∨ t = 4) (a1 : Int32) {r : Bool} (hr : sX4_isInRowByTheWall g t a1 = some r) : CtI MX4_isInRowByTheWall [.ref t, .int a1] (g, q, g2, q2) (fun x h' => x = bI r ∧ h' = (g, q, g2, q2)) := by
  unfold sX4_isInRowByTheWall at hr
  refine CtI_L 0 rfl (by decide +kernel) rfl (Nat.le_of_ble_eq_true rfl) ?_
  show Ev _ _ 0 [some (.ref t), some (.int a1)] [] _
  refine Ev.aload_n (pc := 0) dX4_isInRowByTheWall_0 rfl ?_
  refine Ev.iload_n (pc := 1) dX4_isInRowByTheWall_1 rfl ?_
  obtain ⟨x_1, hx_1, hr⟩ := Option.bind_eq_some_iff.mp hr
  refine Ev.cVi (pc := 2) (As := [.int _]) (kX4_cellOfLark _ _ _ _ ht _ hx_1) rfl rfl (ob_t ht _) gX4_isInRowByTheWall_X4_cellOfLark hdX4_cellOfLark rfl ⟨rfl, rfl⟩ ⟨Nat.le_of_ble_eq_true rfl, Nat.le_of_ble_eq_true rfl⟩ (Nat.le_of_ble_eq_true rfl) ⟨Nat.le_of_ble_eq_true rfl, Nat.le_of_ble_eq_true rfl⟩ dX4_isInRowByTheWall_2 ?_
  refine Ev.iconst (pc := 5) (v := nI 0) dX4_isInRowByTheWall_5 (by decide) ?_
  refine Ev.iconst (pc := 6) (v := nI 3) dX4_isInRowByTheWall_6 (by decide) ?_
  refine Ev.cNi (pc := 7) (As := [.int _, .int _, .int _]) (kX8_within _ _ _ _ _ _ _) rfl gX4_isInRowByTheWall_X8_within_n37 (by decide +kernel) stX4_isInRowByTheWall_X8_within iniX4_isInRowByTheWall_X8_within hdX8_within rfl ⟨rfl, rfl⟩ ⟨Nat.le_of_ble_eq_true rfl, Nat.le_of_ble_eq_true rfl⟩ (Nat.le_of_ble_eq_true rfl) ⟨Nat.le_of_ble_eq_true rfl, Nat.le_of_ble_eq_true rfl⟩ dX4_isInRowByTheWall_7 ?_
  cases hr
  exact Ev.iret rfl (bI_nar _) dX4_isInRowByTheWall_10 ⟨rfl, rfl⟩
/-! X4_canDig -/
def sX4_canDig (g : Hg) (t : Nat) (a1 : Int32) (a2 : Int32) : Option (Bool) := if (sX1_isLark g a1) = true then (if (sX1_isFind g a2) = true then (if (sX4_isDrowned g t a1) = true then (some false) else ((sX4_cellOfLark g t a1).bind fun x_1 => ((sX4_carriedBy g t a1).bind fun x_2 => (if (nI 2) ≤ (sJ6_bitCount_0f7a4 x_2) then (some false) else ((sX4_cellOfFind g t a2).bind fun x_3 => (if x_3 = x_1 then ((sX1_isBared g x_1 (sX4_now g t)).bind fun x_4 => (if x_4 = true then (some true) else (some false))) else (some false))))))) else (some false)) else (some false)
set_option maxRecDepth 20000 in
set_option maxHeartbeats 1000000 in
theorem kX4_canDig (g : Hg) (q : Int64) (g2 : Hg) (q2 : Int64) {t : Nat} (ht : t = 3 ∨ t = 4) (a1 : Int32) (a2 : Int32) {r : Bool} (hr : sX4_canDig g t a1 a2 = some r) : CtI MX4_canDig [.ref t, .int a1, .int a2] (g, q, g2, q2) (fun x h' => x = bI r ∧ h' = (g, q, g2, q2)) := by
  unfold sX4_canDig at hr
  refine CtI_L 1 rfl (by decide +kernel) rfl (Nat.le_of_ble_eq_true rfl) ?_
  show Ev _ _ 0 [some (.ref t), some (.int a1), some (.int a2), none] [] _
  refine Ev.aload_n (pc := 0) dX4_canDig_0 rfl ?_
  refine Ev.get (pc := 1) (C0 := RX4) (T := TX4) (N := 2) (fl_t_0 ht _ _ _ _) rfl inX4_canDig (by decide) lkX4_canDig_15 dX4_canDig_1 ?_
  refine Ev.iload_n (pc := 4) dX4_canDig_4 rfl ?_
  refine Ev.cVi (pc := 5) (As := [.int _]) (kX1_isLark _ _ _ _ _) rfl rfl (ob_2 _) gX4_canDig_X1_isLark hdX1_isLark rfl ⟨rfl, rfl⟩ ⟨Nat.le_of_ble_eq_true rfl, Nat.le_of_ble_eq_true rfl⟩ (Nat.le_of_ble_eq_true rfl) ⟨Nat.le_of_ble_eq_true rfl, Nat.le_of_ble_eq_true rfl⟩ dX4_canDig_5 ?_
  refine Ev.ifeqB (pc := 8) (tgt := 30) dX4_canDig_8 (by decide) (fun c_1 => ?_) (fun c_1 => ?_)
  · have hr := ifn hr (ntr c_1)
    refine Ev.iconst (pc := 30) (v := nI 0) dX4_canDig_30 (by decide) ?_
    cases hr
    exact Ev.iret rfl rfl dX4_canDig_31 ⟨rfl, rfl⟩
  · have hr := ifp hr c_1
    refine Ev.aload_n (pc := 11) dX4_canDig_11 rfl ?_
    refine Ev.get (pc := 12) (C0 := RX4) (T := TX4) (N := 2) (fl_t_0 ht _ _ _ _) rfl inX4_canDig (by decide) lkX4_canDig_15 dX4_canDig_12 ?_
    refine Ev.iload_n (pc := 15) dX4_canDig_15 rfl ?_
    refine Ev.cVi (pc := 16) (As := [.int _]) (kX1_isFind _ _ _ _ _) rfl rfl (ob_2 _) gX4_canDig_X1_isFind hdX1_isFind rfl ⟨rfl, rfl⟩ ⟨Nat.le_of_ble_eq_true rfl, Nat.le_of_ble_eq_true rfl⟩ (Nat.le_of_ble_eq_true rfl) ⟨Nat.le_of_ble_eq_true rfl, Nat.le_of_ble_eq_true rfl⟩ dX4_canDig_16 ?_
    refine Ev.ifeqB (pc := 19) (tgt := 30) dX4_canDig_19 (by decide) (fun c_2 => ?_) (fun c_2 => ?_)
    · have hr := ifn hr (ntr c_2)
      refine Ev.iconst (pc := 30) (v := nI 0) dX4_canDig_30 (by decide) ?_
      cases hr
      exact Ev.iret rfl rfl dX4_canDig_31 ⟨rfl, rfl⟩
    · have hr := ifp hr c_2
      refine Ev.aload_n (pc := 22) dX4_canDig_22 rfl ?_
      refine Ev.iload_n (pc := 23) dX4_canDig_23 rfl ?_
      refine Ev.cVi (pc := 24) (As := [.int _]) (kX4_isDrowned _ _ _ _ ht _) rfl rfl (ob_t ht _) gX4_canDig_X4_isDrowned hdX4_isDrowned rfl ⟨rfl, rfl⟩ ⟨Nat.le_of_ble_eq_true rfl, Nat.le_of_ble_eq_true rfl⟩ (Nat.le_of_ble_eq_true rfl) ⟨Nat.le_of_ble_eq_true rfl, Nat.le_of_ble_eq_true rfl⟩ dX4_canDig_24 ?_
      refine Ev.ifeqB (pc := 27) (tgt := 32) dX4_canDig_27 (by decide) (fun c_3 => ?_) (fun c_3 => ?_)
      · have hr := ifn hr (ntr c_3)
        refine Ev.aload_n (pc := 32) dX4_canDig_32 rfl ?_
        refine Ev.iload_n (pc := 33) dX4_canDig_33 rfl ?_
        obtain ⟨x_1, hx_1, hr⟩ := Option.bind_eq_some_iff.mp hr
        refine Ev.cVi (pc := 34) (As := [.int _]) (kX4_cellOfLark _ _ _ _ ht _ hx_1) rfl rfl (ob_t ht _) gX4_canDig_X4_cellOfLark hdX4_cellOfLark rfl ⟨rfl, rfl⟩ ⟨Nat.le_of_ble_eq_true rfl, Nat.le_of_ble_eq_true rfl⟩ (Nat.le_of_ble_eq_true rfl) ⟨Nat.le_of_ble_eq_true rfl, Nat.le_of_ble_eq_true rfl⟩ dX4_canDig_34 ?_
        refine Ev.istore_n (pc := 37) dX4_canDig_37 rfl rfl ?_
        refine Ev.aload_n (pc := 38) dX4_canDig_38 rfl ?_
        refine Ev.iload_n (pc := 39) dX4_canDig_39 rfl ?_
        obtain ⟨x_2, hx_2, hr⟩ := Option.bind_eq_some_iff.mp hr
        refine Ev.cVi (pc := 40) (As := [.int _]) (kX4_carriedBy _ _ _ _ ht _ hx_2) rfl rfl (ob_t ht _) gX4_canDig_X4_carriedBy hdX4_carriedBy rfl ⟨rfl, rfl⟩ ⟨Nat.le_of_ble_eq_true rfl, Nat.le_of_ble_eq_true rfl⟩ (Nat.le_of_ble_eq_true rfl) ⟨Nat.le_of_ble_eq_true rfl, Nat.le_of_ble_eq_true rfl⟩ dX4_canDig_40 ?_
        refine Ev.cSi (pc := 43) (As := [.int _]) (kJ6_bitCount_0f7a4 _ _ _ _ _) rfl gX4_canDig_J6_bitCount_0f7a4 hdJ6_bitCount_0f7a4 rfl ⟨rfl, rfl⟩ ⟨Nat.le_of_ble_eq_true rfl, Nat.le_of_ble_eq_true rfl⟩ (Nat.le_of_ble_eq_true rfl) ⟨Nat.le_of_ble_eq_true rfl, Nat.le_of_ble_eq_true rfl⟩ dX4_canDig_43 ?_
        refine Ev.iconst (pc := 46) (v := nI 2) dX4_canDig_46 (by decide) ?_
        refine Ev.icmpge (pc := 47) (tgt := 78) dX4_canDig_47 (by decide) (fun c_4 => ?_) (fun c_4 => ?_)
        · have hr := ifp hr c_4
          refine Ev.iconst (pc := 78) (v := nI 0) dX4_canDig_78 (by decide) ?_
          cases hr
          exact Ev.iret rfl rfl dX4_canDig_79 ⟨rfl, rfl⟩
        · have hr := ifn hr c_4
          refine Ev.aload_n (pc := 50) dX4_canDig_50 rfl ?_
          refine Ev.iload_n (pc := 51) dX4_canDig_51 rfl ?_
          obtain ⟨x_3, hx_3, hr⟩ := Option.bind_eq_some_iff.mp hr
          refine Ev.cVi (pc := 52) (As := [.int _]) (kX4_cellOfFind _ _ _ _ ht _ hx_3) rfl rfl (ob_t ht _) gX4_canDig_X4_cellOfFind hdX4_cellOfFind rfl ⟨rfl, rfl⟩ ⟨Nat.le_of_ble_eq_true rfl, Nat.le_of_ble_eq_true rfl⟩ (Nat.le_of_ble_eq_true rfl) ⟨Nat.le_of_ble_eq_true rfl, Nat.le_of_ble_eq_true rfl⟩ dX4_canDig_52 ?_
          refine Ev.iload_n (pc := 55) dX4_canDig_55 rfl ?_
          refine Ev.icmpne (pc := 56) (tgt := 78) dX4_canDig_56 (by decide) (fun c_5 => ?_) (fun c_5 => ?_)
          · have hr := ifn hr c_5
            refine Ev.iconst (pc := 78) (v := nI 0) dX4_canDig_78 (by decide) ?_
            cases hr
            exact Ev.iret rfl rfl dX4_canDig_79 ⟨rfl, rfl⟩
          · have hr := ifp hr c_5
            refine Ev.aload_n (pc := 59) dX4_canDig_59 rfl ?_
            refine Ev.get (pc := 60) (C0 := RX4) (T := TX4) (N := 2) (fl_t_0 ht _ _ _ _) rfl inX4_canDig (by decide) lkX4_canDig_15 dX4_canDig_60 ?_
            refine Ev.iload_n (pc := 63) dX4_canDig_63 rfl ?_
            refine Ev.aload_n (pc := 64) dX4_canDig_64 rfl ?_
            refine Ev.cVi (pc := 65) (As := []) (kX4_now _ _ _ _ ht) rfl rfl (ob_t ht _) gX4_canDig_X4_now hdX4_now rfl ⟨rfl, rfl⟩ ⟨Nat.le_of_ble_eq_true rfl, Nat.le_of_ble_eq_true rfl⟩ (Nat.le_of_ble_eq_true rfl) ⟨Nat.le_of_ble_eq_true rfl, Nat.le_of_ble_eq_true rfl⟩ dX4_canDig_65 ?_
            obtain ⟨x_4, hx_4, hr⟩ := Option.bind_eq_some_iff.mp hr
            refine Ev.cVi (pc := 68) (As := [.int _, .int _]) (kX1_isBared _ _ _ _ _ _ hx_4) rfl rfl (ob_2 _) gX4_canDig_X1_isBared hdX1_isBared rfl ⟨rfl, rfl⟩ ⟨Nat.le_of_ble_eq_true rfl, Nat.le_of_ble_eq_true rfl⟩ (Nat.le_of_ble_eq_true rfl) ⟨Nat.le_of_ble_eq_true rfl, Nat.le_of_ble_eq_true rfl⟩ dX4_canDig_68 ?_
            refine Ev.ifeqB (pc := 71) (tgt := 78) dX4_canDig_71 (by decide) (fun c_6 => ?_) (fun c_6 => ?_)
            · have hr := ifn hr (ntr c_6)
              refine Ev.iconst (pc := 78) (v := nI 0) dX4_canDig_78 (by decide) ?_
              cases hr
              exact Ev.iret rfl rfl dX4_canDig_79 ⟨rfl, rfl⟩
            · have hr := ifp hr c_6
              refine Ev.iconst (pc := 74) (v := nI 1) dX4_canDig_74 (by decide) ?_
              refine Ev.goto (pc := 75) (tgt := 79) dX4_canDig_75 (by decide) ?_
              cases hr
              exact Ev.iret rfl rfl dX4_canDig_79 ⟨rfl, rfl⟩
      · have hr := ifp hr c_3
        refine Ev.iconst (pc := 30) (v := nI 0) dX4_canDig_30 (by decide) ?_
        cases hr
        exact Ev.iret rfl rfl dX4_canDig_31 ⟨rfl, rfl⟩
/-! X4_tryDig -/
def sX4_tryDig (g : Hg) (t : Nat) (a1 : Int32) (a2 : Int32) : Option (Bool × Hg) := (sX4_canDig g t a1 a2).bind fun x_1 => (if x_1 = true then (if inb ((nI 8) + a2) 27 = true then (if inb ((nI 13) + a2) 27 = true then (if inb ((nI 18) + a2) 27 = true then (some (true, stA (stA (stA g (t + 15) (Int32.toNatClampNeg ((nI 8) + a2)) ((-9))) (t + 15) (Int32.toNatClampNeg ((nI 13) + a2)) a1) (t + 15) (Int32.toNatClampNeg ((nI 18) + a2)) (sX4_now (stA (stA g (t + 15) (Int32.toNatClampNeg ((nI 8) + a2)) ((-9))) (t + 15) (Int32.toNatClampNeg ((nI 13) + a2)) a1) t))) else none) else none) else none) else (some (false, g)))
set_option maxRecDepth 20000 in
set_option maxHeartbeats 1000000 in
theorem kX4_tryDig (g : Hg) (q : Int64) (g2 : Hg) (q2 : Int64) {t : Nat} (ht : t = 3 ∨ t = 4) (a1 : Int32) (a2 : Int32) {r : Bool × Hg} (hr : sX4_tryDig g t a1 a2 = some r) : CtI MX4_tryDig [.ref t, .int a1, .int a2] (g, q, g2, q2) (fun x h' => x = bI r.1 ∧ h' = (r.2, q, g2, q2)) := by
  unfold sX4_tryDig at hr
  refine CtI_L 0 rfl (by decide +kernel) rfl (Nat.le_of_ble_eq_true rfl) ?_
  show Ev _ _ 0 [some (.ref t), some (.int a1), some (.int a2)] [] _
  refine Ev.aload_n (pc := 0) dX4_tryDig_0 rfl ?_
  refine Ev.iload_n (pc := 1) dX4_tryDig_1 rfl ?_
  refine Ev.iload_n (pc := 2) dX4_tryDig_2 rfl ?_
  obtain ⟨x_1, hx_1, hr⟩ := Option.bind_eq_some_iff.mp hr
  refine Ev.cVi (pc := 3) (As := [.int _, .int _]) (kX4_canDig _ _ _ _ ht _ _ hx_1) rfl rfl (ob_t ht _) gX4_tryDig_X4_canDig hdX4_canDig rfl ⟨rfl, rfl⟩ ⟨Nat.le_of_ble_eq_true rfl, Nat.le_of_ble_eq_true rfl⟩ (Nat.le_of_ble_eq_true rfl) ⟨Nat.le_of_ble_eq_true rfl, Nat.le_of_ble_eq_true rfl⟩ dX4_tryDig_3 ?_
  refine Ev.ifneB (pc := 6) (tgt := 11) dX4_tryDig_6 (by decide) (fun c_1 => ?_) (fun c_1 => ?_)
  · have hr := ifp hr c_1
    refine Ev.aload_n (pc := 11) dX4_tryDig_11 rfl ?_
    refine Ev.get (pc := 12) (C0 := RX4) (T := TX4) (N := 2) (fl_t_1 ht _ _ _ _) rfl inX4_tryDig (by decide) lkX4_tryDig_11 dX4_tryDig_12 ?_
    refine Ev.bipush (pc := 15) (v := nI 8) dX4_tryDig_15 (by decide) ?_
    refine Ev.iload_n (pc := 17) dX4_tryDig_17 rfl ?_
    refine Ev.iadd (pc := 18) dX4_tryDig_18 ?_
    refine Ev.bipush (pc := 19) (v := (-9)) dX4_tryDig_19 (by decide) ?_
    obtain ⟨c_2, hr⟩ := ckB hr
    refine Ev.iast (pc := 21) (ar_t ht _ _ _ _) (inb_in c_2) (se_t ht _ _ _ _ _) dX4_tryDig_21 ?_
    refine Ev.aload_n (pc := 22) dX4_tryDig_22 rfl ?_
    refine Ev.get (pc := 23) (C0 := RX4) (T := TX4) (N := 2) (fl_t_1 ht _ _ _ _) rfl inX4_tryDig (by decide) lkX4_tryDig_11 dX4_tryDig_23 ?_
    refine Ev.bipush (pc := 26) (v := nI 13) dX4_tryDig_26 (by decide) ?_
    refine Ev.iload_n (pc := 28) dX4_tryDig_28 rfl ?_
    refine Ev.iadd (pc := 29) dX4_tryDig_29 ?_
    refine Ev.iload_n (pc := 30) dX4_tryDig_30 rfl ?_
    obtain ⟨c_3, hr⟩ := ckB hr
    refine Ev.iast (pc := 31) (ar_t ht _ _ _ _) (inb_in c_3) (se_t ht _ _ _ _ _) dX4_tryDig_31 ?_
    refine Ev.aload_n (pc := 32) dX4_tryDig_32 rfl ?_
    refine Ev.get (pc := 33) (C0 := RX4) (T := TX4) (N := 2) (fl_t_1 ht _ _ _ _) rfl inX4_tryDig (by decide) lkX4_tryDig_11 dX4_tryDig_33 ?_
    refine Ev.bipush (pc := 36) (v := nI 18) dX4_tryDig_36 (by decide) ?_
    refine Ev.iload_n (pc := 38) dX4_tryDig_38 rfl ?_
    refine Ev.iadd (pc := 39) dX4_tryDig_39 ?_
    refine Ev.aload_n (pc := 40) dX4_tryDig_40 rfl ?_
    refine Ev.cVi (pc := 41) (As := []) (kX4_now _ _ _ _ ht) rfl rfl (ob_t ht _) gX4_tryDig_X4_now hdX4_now rfl ⟨rfl, rfl⟩ ⟨Nat.le_of_ble_eq_true rfl, Nat.le_of_ble_eq_true rfl⟩ (Nat.le_of_ble_eq_true rfl) ⟨Nat.le_of_ble_eq_true rfl, Nat.le_of_ble_eq_true rfl⟩ dX4_tryDig_41 ?_
    obtain ⟨c_4, hr⟩ := ckB hr
    refine Ev.iast (pc := 44) (ar_t ht _ _ _ _) (inb_in c_4) (se_t ht _ _ _ _ _) dX4_tryDig_44 ?_
    refine Ev.iconst (pc := 45) (v := nI 1) dX4_tryDig_45 (by decide) ?_
    cases hr
    exact Ev.iret rfl rfl dX4_tryDig_46 ⟨rfl, rfl⟩
  · have hr := ifn hr (ntr c_1)
    refine Ev.iconst (pc := 9) (v := nI 0) dX4_tryDig_9 (by decide) ?_
    cases hr
    exact Ev.iret rfl rfl dX4_tryDig_10 ⟨rfl, rfl⟩
/-! X4_digLeast -/
def sX4_digLeast_2 (t : Nat) (v1 : Int32) : Nat → Hg → Int32 → Option (Hg)
  | 0, _, _ => none
  | n + 1, g, v2 => if (sX1_findCount g) ≤ v2 then (some g) else ((sX4_tryDig g t v1 v2).bind fun x_1 => (if x_1.1 = true then (some x_1.2) else (sX4_digLeast_2 t v1 n x_1.2 (v2 + (nI 1)))))
set_option maxRecDepth 20000 in
set_option maxHeartbeats 1000000 in
theorem kX4_digLeast_2 (q : Int64) (g2 : Hg) (q2 : Int64) {t : Nat} (ht : t = 3 ∨ t = 4) (v1 : Int32) (r : Hg) : ∀ (n : Nat) (g : Hg) (v2 : Int32), sX4_digLeast_2 t v1 n g v2 = some r → Ev (Xv (fun h' => h' = (r, q, g2, q2))) MX4_digLeast 2 [some (.ref t), some (.int v1), some (.int v2)] [] (g, q, g2, q2) := by
  intro n
  induction n with
  | zero => intro _ _ hr; cases hr
  | succ n ih =>
    intro g v2 hr
    rw [sX4_digLeast_2] at hr
    refine Ev.iload_n (pc := 2) dX4_digLeast_2 rfl ?_
    refine Ev.aload_n (pc := 3) dX4_digLeast_3 rfl ?_
    refine Ev.get (pc := 4) (C0 := RX4) (T := TX4) (N := 2) (fl_t_0 ht _ _ _ _) rfl inX4_digLeast (by decide) lkX4_digLeast_15 dX4_digLeast_4 ?_
    refine Ev.cVi (pc := 7) (As := []) (kX1_findCount _ _ _ _) rfl rfl (ob_2 _) gX4_digLeast_X1_findCount hdX1_findCount rfl ⟨rfl, rfl⟩ ⟨Nat.le_of_ble_eq_true rfl, Nat.le_of_ble_eq_true rfl⟩ (Nat.le_of_ble_eq_true rfl) ⟨Nat.le_of_ble_eq_true rfl, Nat.le_of_ble_eq_true rfl⟩ dX4_digLeast_7 ?_
    refine Ev.icmpge (pc := 10) (tgt := 29) dX4_digLeast_10 (by decide) (fun c_1 => ?_) (fun c_1 => ?_)
    · have hr := ifp hr c_1
      cases hr
      exact Ev.vret rfl dX4_digLeast_29 rfl
    · have hr := ifn hr c_1
      refine Ev.aload_n (pc := 13) dX4_digLeast_13 rfl ?_
      refine Ev.iload_n (pc := 14) dX4_digLeast_14 rfl ?_
      refine Ev.iload_n (pc := 15) dX4_digLeast_15 rfl ?_
      obtain ⟨x_1, hx_1, hr⟩ := Option.bind_eq_some_iff.mp hr
      refine Ev.cVi (pc := 16) (As := [.int _, .int _]) (kX4_tryDig _ _ _ _ ht _ _ hx_1) rfl rfl (ob_t ht _) gX4_digLeast_X4_tryDig hdX4_tryDig rfl ⟨rfl, rfl⟩ ⟨Nat.le_of_ble_eq_true rfl, Nat.le_of_ble_eq_true rfl⟩ (Nat.le_of_ble_eq_true rfl) ⟨Nat.le_of_ble_eq_true rfl, Nat.le_of_ble_eq_true rfl⟩ dX4_digLeast_16 ?_
      refine Ev.ifeqB (pc := 19) (tgt := 23) dX4_digLeast_19 (by decide) (fun c_2 => ?_) (fun c_2 => ?_)
      · have hr := ifn hr (ntr c_2)
        refine Ev.iinc (pc := 23) (v := nI 1) dX4_digLeast_23 rfl rfl rfl rfl ?_
        refine Ev.goto (pc := 26) (tgt := 2) dX4_digLeast_26 (by decide) ?_
        exact ih _ _ hr
      · have hr := ifp hr c_2
        cases hr
        exact Ev.vret rfl dX4_digLeast_22 rfl
def sX4_digLeast (g : Hg) (t : Nat) (a1 : Int32) : Option (Hg) := sX4_digLeast_2 t a1 100 g (nI 0)
set_option maxRecDepth 20000 in
set_option maxHeartbeats 1000000 in
theorem kX4_digLeast (g : Hg) (q : Int64) (g2 : Hg) (q2 : Int64) {t : Nat} (ht : t = 3 ∨ t = 4) (a1 : Int32) {r : Hg} (hr : sX4_digLeast g t a1 = some r) : CtV MX4_digLeast [.ref t, .int a1] (g, q, g2, q2) (fun h' => h' = (r, q, g2, q2)) := by
  unfold sX4_digLeast at hr
  refine CtV_L 1 rfl (by decide +kernel) rfl (Nat.le_of_ble_eq_true rfl) ?_
  show Ev _ _ 0 [some (.ref t), some (.int a1), none] [] _
  refine Ev.iconst (pc := 0) (v := nI 0) dX4_digLeast_0 (by decide) ?_
  refine Ev.istore_n (pc := 1) dX4_digLeast_1 rfl rfl ?_
  exact kX4_digLeast_2 _ _ _ ht _ _ 100 _ _ hr
/-! X4_canSell -/
def sX4_canSell (g : Hg) (t : Nat) (a1 : Int32) : Option (Bool) := (sX4_carriedBy g t a1).bind fun x_1 => (if x_1 = 0 then (some false) else ((sX4_isInRowByTheWall g t a1).bind fun x_2 => (if x_2 = true then (some true) else (some false))))
set_option maxRecDepth 20000 in
set_option maxHeartbeats 1000000 in
theorem kX4_canSell (g : Hg) (q : Int64) (g2 : Hg) (q2 : Int64) {t : Nat} (ht : t = 3 ∨ t = 4) (a1 : Int32) {r : Bool} (hr : sX4_canSell g t a1 = some r) : CtI MX4_canSell [.ref t, .int a1] (g, q, g2, q2) (fun x h' => x = bI r ∧ h' = (g, q, g2, q2)) := by
  unfold sX4_canSell at hr
  refine CtI_L 0 rfl (by decide +kernel) rfl (Nat.le_of_ble_eq_true rfl) ?_
  show Ev _ _ 0 [some (.ref t), some (.int a1)] [] _
  refine Ev.aload_n (pc := 0) dX4_canSell_0 rfl ?_
  refine Ev.iload_n (pc := 1) dX4_canSell_1 rfl ?_
  obtain ⟨x_1, hx_1, hr⟩ := Option.bind_eq_some_iff.mp hr
  refine Ev.cVi (pc := 2) (As := [.int _]) (kX4_carriedBy _ _ _ _ ht _ hx_1) rfl rfl (ob_t ht _) gX4_canSell_X4_carriedBy hdX4_carriedBy rfl ⟨rfl, rfl⟩ ⟨Nat.le_of_ble_eq_true rfl, Nat.le_of_ble_eq_true rfl⟩ (Nat.le_of_ble_eq_true rfl) ⟨Nat.le_of_ble_eq_true rfl, Nat.le_of_ble_eq_true rfl⟩ dX4_canSell_2 ?_
  refine Ev.ifeq (pc := 5) (tgt := 20) dX4_canSell_5 (by decide) (fun c_1 => ?_) (fun c_1 => ?_)
  · have hr := ifp hr c_1
    refine Ev.iconst (pc := 20) (v := nI 0) dX4_canSell_20 (by decide) ?_
    cases hr
    exact Ev.iret rfl rfl dX4_canSell_21 ⟨rfl, rfl⟩
  · have hr := ifn hr c_1
    refine Ev.aload_n (pc := 8) dX4_canSell_8 rfl ?_
    refine Ev.iload_n (pc := 9) dX4_canSell_9 rfl ?_
    obtain ⟨x_2, hx_2, hr⟩ := Option.bind_eq_some_iff.mp hr
    refine Ev.cVi (pc := 10) (As := [.int _]) (kX4_isInRowByTheWall _ _ _ _ ht _ hx_2) rfl rfl (ob_t ht _) gX4_canSell_X4_isInRowByTheWall hdX4_isInRowByTheWall rfl ⟨rfl, rfl⟩ ⟨Nat.le_of_ble_eq_true rfl, Nat.le_of_ble_eq_true rfl⟩ (Nat.le_of_ble_eq_true rfl) ⟨Nat.le_of_ble_eq_true rfl, Nat.le_of_ble_eq_true rfl⟩ dX4_canSell_10 ?_
    refine Ev.ifeqB (pc := 13) (tgt := 20) dX4_canSell_13 (by decide) (fun c_2 => ?_) (fun c_2 => ?_)
    · have hr := ifn hr (ntr c_2)
      refine Ev.iconst (pc := 20) (v := nI 0) dX4_canSell_20 (by decide) ?_
      cases hr
      exact Ev.iret rfl rfl dX4_canSell_21 ⟨rfl, rfl⟩
    · have hr := ifp hr c_2
      refine Ev.iconst (pc := 16) (v := nI 1) dX4_canSell_16 (by decide) ?_
      refine Ev.goto (pc := 17) (tgt := 21) dX4_canSell_17 (by decide) ?_
      cases hr
      exact Ev.iret rfl rfl dX4_canSell_21 ⟨rfl, rfl⟩
/-! X4_trySell -/
def sX4_trySell_29 (t : Nat) (v1 : Int32) (v2 : Int32) : Nat → Hg → Int32 → Option (Bool × Hg)
  | 0, _, _ => none
  | n + 1, g, v3 => if (nI 5) ≤ v3 then (some (true, g)) else (if (sX8_has v2 v3) = true then (if inb ((nI 4) + v1) 27 = true then (if inb ((nI 18) + v3) 27 = true then (if (g (t + 15) (Int32.toNatClampNeg ((nI 18) + v3))) = (sX4_now g t) then ((sX1_worth g v3 (nI 1)).bind fun x_4 => (if inb ((nI 4) + v1) 27 = true then (sX4_trySell_29 t v1 v2 n (stA (stA g (t + 15) (Int32.toNatClampNeg ((nI 4) + v1)) ((g (t + 15) (Int32.toNatClampNeg ((nI 4) + v1))) + x_4)) (t + 15) (Int32.toNatClampNeg (nI 26)) (((stA g (t + 15) (Int32.toNatClampNeg ((nI 4) + v1)) ((g (t + 15) (Int32.toNatClampNeg ((nI 4) + v1))) + x_4)) (t + 15) (Int32.toNatClampNeg (nI 26))) ||| (sX8_bit v3))) (v3 + (nI 1))) else none)) else ((sX1_worth g v3 (nI 0)).bind fun x_3 => (if inb ((nI 4) + v1) 27 = true then (sX4_trySell_29 t v1 v2 n (stA (stA g (t + 15) (Int32.toNatClampNeg ((nI 4) + v1)) ((g (t + 15) (Int32.toNatClampNeg ((nI 4) + v1))) + x_3)) (t + 15) (Int32.toNatClampNeg (nI 26)) (((stA g (t + 15) (Int32.toNatClampNeg ((nI 4) + v1)) ((g (t + 15) (Int32.toNatClampNeg ((nI 4) + v1))) + x_3)) (t + 15) (Int32.toNatClampNeg (nI 26))) ||| (sX8_bit v3))) (v3 + (nI 1))) else none))) else none) else none) else (sX4_trySell_29 t v1 v2 n g (v3 + (nI 1))))
set_option maxRecDepth 20000 in
set_option maxHeartbeats 1000000 in
theorem kX4_trySell_29 (q : Int64) (g2 : Hg) (q2 : Int64) {t : Nat} (ht : t = 3 ∨ t = 4) (v1 : Int32) (v2 : Int32) (r : Bool × Hg) : ∀ (n : Nat) (g : Hg) (v3 : Int32), sX4_trySell_29 t v1 v2 n g v3 = some r → Ev (Xi (fun x h' => x = bI r.1 ∧ h' = (r.2, q, g2, q2))) MX4_trySell 29 [some (.ref t), some (.int v1), some (.int v2), some (.int v3)] [] (g, q, g2, q2) := by
  intro n
  induction n with
  | zero => intro _ _ hr; cases hr
  | succ n ih =>
    intro g v3 hr
    rw [sX4_trySell_29] at hr
    refine Ev.iload_n (pc := 29) dX4_trySell_29 rfl ?_
    refine Ev.iconst (pc := 30) (v := nI 5) dX4_trySell_30 (by decide) ?_
    refine Ev.icmpge (pc := 31) (tgt := 102) dX4_trySell_31 (by decide) (fun c_3 => ?_) (fun c_3 => ?_)
    · have hr := ifp hr c_3
      refine Ev.iconst (pc := 102) (v := nI 1) dX4_trySell_102 (by decide) ?_
      cases hr
      exact Ev.iret rfl rfl dX4_trySell_103 ⟨rfl, rfl⟩
    · have hr := ifn hr c_3
      refine Ev.iload_n (pc := 34) dX4_trySell_34 rfl ?_
      refine Ev.iload_n (pc := 35) dX4_trySell_35 rfl ?_
      refine Ev.cNi (pc := 36) (As := [.int _, .int _]) (kX8_has _ _ _ _ _ _) rfl gX4_trySell_X8_has_n51 (by decide +kernel) stX4_trySell_X8_has iniX4_trySell_X8_has hdX8_has rfl ⟨rfl, rfl⟩ ⟨Nat.le_of_ble_eq_true rfl, Nat.le_of_ble_eq_true rfl⟩ (Nat.le_of_ble_eq_true rfl) ⟨Nat.le_of_ble_eq_true rfl, Nat.le_of_ble_eq_true rfl⟩ dX4_trySell_36 ?_
      refine Ev.ifeqB (pc := 39) (tgt := 96) dX4_trySell_39 (by decide) (fun c_4 => ?_) (fun c_4 => ?_)
      · have hr := ifn hr (ntr c_4)
        refine Ev.iinc (pc := 96) (v := nI 1) dX4_trySell_96 rfl rfl rfl rfl ?_
        refine Ev.goto (pc := 99) (tgt := 29) dX4_trySell_99 (by decide) ?_
        exact ih _ _ hr
      · have hr := ifp hr c_4
        refine Ev.aload_n (pc := 42) dX4_trySell_42 rfl ?_
        refine Ev.get (pc := 43) (C0 := RX4) (T := TX4) (N := 2) (fl_t_1 ht _ _ _ _) rfl inX4_trySell (by decide) lkX4_trySell_11 dX4_trySell_43 ?_
        refine Ev.iconst (pc := 46) (v := nI 4) dX4_trySell_46 (by decide) ?_
        refine Ev.iload_n (pc := 47) dX4_trySell_47 rfl ?_
        refine Ev.iadd (pc := 48) dX4_trySell_48 ?_
        refine Ev.dup2 (pc := 49) dX4_trySell_49 rfl rfl ?_
        obtain ⟨c_5, hr⟩ := ckB hr
        refine Ev.iald (pc := 50) (ar_t ht _ _ _ _) (inb_in c_5) dX4_trySell_50 ?_
        refine Ev.aload_n (pc := 51) dX4_trySell_51 rfl ?_
        refine Ev.get (pc := 52) (C0 := RX4) (T := TX4) (N := 2) (fl_t_0 ht _ _ _ _) rfl inX4_trySell (by decide) lkX4_trySell_15 dX4_trySell_52 ?_
        refine Ev.iload_n (pc := 55) dX4_trySell_55 rfl ?_
        refine Ev.aload_n (pc := 56) dX4_trySell_56 rfl ?_
        refine Ev.get (pc := 57) (C0 := RX4) (T := TX4) (N := 2) (fl_t_1 ht _ _ _ _) rfl inX4_trySell (by decide) lkX4_trySell_11 dX4_trySell_57 ?_
        refine Ev.bipush (pc := 60) (v := nI 18) dX4_trySell_60 (by decide) ?_
        refine Ev.iload_n (pc := 62) dX4_trySell_62 rfl ?_
        refine Ev.iadd (pc := 63) dX4_trySell_63 ?_
        obtain ⟨c_6, hr⟩ := ckB hr
        refine Ev.iald (pc := 64) (ar_t ht _ _ _ _) (inb_in c_6) dX4_trySell_64 ?_
        refine Ev.aload_n (pc := 65) dX4_trySell_65 rfl ?_
        refine Ev.cVi (pc := 66) (As := []) (kX4_now _ _ _ _ ht) rfl rfl (ob_t ht _) gX4_trySell_X4_now hdX4_now rfl ⟨rfl, rfl⟩ ⟨Nat.le_of_ble_eq_true rfl, Nat.le_of_ble_eq_true rfl⟩ (Nat.le_of_ble_eq_true rfl) ⟨Nat.le_of_ble_eq_true rfl, Nat.le_of_ble_eq_true rfl⟩ dX4_trySell_66 ?_
        refine Ev.icmpne (pc := 69) (tgt := 76) dX4_trySell_69 (by decide) (fun c_7 => ?_) (fun c_7 => ?_)
        · have hr := ifn hr c_7
          refine Ev.iconst (pc := 76) (v := nI 0) dX4_trySell_76 (by decide) ?_
          obtain ⟨x_3, hx_3, hr⟩ := Option.bind_eq_some_iff.mp hr
          refine Ev.cVi (pc := 77) (As := [.int _, .int _]) (kX1_worth _ _ _ _ _ _ hx_3) rfl rfl (ob_2 _) gX4_trySell_X1_worth hdX1_worth rfl ⟨rfl, rfl⟩ ⟨Nat.le_of_ble_eq_true rfl, Nat.le_of_ble_eq_true rfl⟩ (Nat.le_of_ble_eq_true rfl) ⟨Nat.le_of_ble_eq_true rfl, Nat.le_of_ble_eq_true rfl⟩ dX4_trySell_77 ?_
          refine Ev.iadd (pc := 80) dX4_trySell_80 ?_
          obtain ⟨c_8, hr⟩ := ckB hr
          refine Ev.iast (pc := 81) (ar_t ht _ _ _ _) (inb_in c_8) (se_t ht _ _ _ _ _) dX4_trySell_81 ?_
          refine Ev.aload_n (pc := 82) dX4_trySell_82 rfl ?_
          refine Ev.get (pc := 83) (C0 := RX4) (T := TX4) (N := 2) (fl_t_1 ht _ _ _ _) rfl inX4_trySell (by decide) lkX4_trySell_11 dX4_trySell_83 ?_
          refine Ev.bipush (pc := 86) (v := nI 26) dX4_trySell_86 (by decide) ?_
          refine Ev.dup2 (pc := 88) dX4_trySell_88 rfl rfl ?_
          refine Ev.iald (pc := 89) (ar_t ht _ _ _ _) (vp_in_nI (n := 26) (N := 27) (by decide) (by decide)) dX4_trySell_89 ?_
          refine Ev.iload_n (pc := 90) dX4_trySell_90 rfl ?_
          refine Ev.cNi (pc := 91) (As := [.int _]) (kX8_bit _ _ _ _ _) rfl gX4_trySell_X8_bit_n62 (by decide +kernel) stX4_trySell_X8_bit iniX4_trySell_X8_bit hdX8_bit rfl ⟨rfl, rfl⟩ ⟨Nat.le_of_ble_eq_true rfl, Nat.le_of_ble_eq_true rfl⟩ (Nat.le_of_ble_eq_true rfl) ⟨Nat.le_of_ble_eq_true rfl, Nat.le_of_ble_eq_true rfl⟩ dX4_trySell_91 ?_
          refine Ev.ior (pc := 94) dX4_trySell_94 ?_
          refine Ev.iast (pc := 95) (ar_t ht _ _ _ _) (vp_in_nI (n := 26) (N := 27) (by decide) (by decide)) (se_t ht _ _ _ _ _) dX4_trySell_95 ?_
          refine Ev.iinc (pc := 96) (v := nI 1) dX4_trySell_96 rfl rfl rfl rfl ?_
          refine Ev.goto (pc := 99) (tgt := 29) dX4_trySell_99 (by decide) ?_
          exact ih _ _ hr
        · have hr := ifp hr c_7
          refine Ev.iconst (pc := 72) (v := nI 1) dX4_trySell_72 (by decide) ?_
          refine Ev.goto (pc := 73) (tgt := 77) dX4_trySell_73 (by decide) ?_
          obtain ⟨x_4, hx_4, hr⟩ := Option.bind_eq_some_iff.mp hr
          refine Ev.cVi (pc := 77) (As := [.int _, .int _]) (kX1_worth _ _ _ _ _ _ hx_4) rfl rfl (ob_2 _) gX4_trySell_X1_worth hdX1_worth rfl ⟨rfl, rfl⟩ ⟨Nat.le_of_ble_eq_true rfl, Nat.le_of_ble_eq_true rfl⟩ (Nat.le_of_ble_eq_true rfl) ⟨Nat.le_of_ble_eq_true rfl, Nat.le_of_ble_eq_true rfl⟩ dX4_trySell_77 ?_
          refine Ev.iadd (pc := 80) dX4_trySell_80 ?_
          obtain ⟨c_9, hr⟩ := ckB hr
          refine Ev.iast (pc := 81) (ar_t ht _ _ _ _) (inb_in c_9) (se_t ht _ _ _ _ _) dX4_trySell_81 ?_
          refine Ev.aload_n (pc := 82) dX4_trySell_82 rfl ?_
          refine Ev.get (pc := 83) (C0 := RX4) (T := TX4) (N := 2) (fl_t_1 ht _ _ _ _) rfl inX4_trySell (by decide) lkX4_trySell_11 dX4_trySell_83 ?_
          refine Ev.bipush (pc := 86) (v := nI 26) dX4_trySell_86 (by decide) ?_
          refine Ev.dup2 (pc := 88) dX4_trySell_88 rfl rfl ?_
          refine Ev.iald (pc := 89) (ar_t ht _ _ _ _) (vp_in_nI (n := 26) (N := 27) (by decide) (by decide)) dX4_trySell_89 ?_
          refine Ev.iload_n (pc := 90) dX4_trySell_90 rfl ?_
          refine Ev.cNi (pc := 91) (As := [.int _]) (kX8_bit _ _ _ _ _) rfl gX4_trySell_X8_bit_n62 (by decide +kernel) stX4_trySell_X8_bit iniX4_trySell_X8_bit hdX8_bit rfl ⟨rfl, rfl⟩ ⟨Nat.le_of_ble_eq_true rfl, Nat.le_of_ble_eq_true rfl⟩ (Nat.le_of_ble_eq_true rfl) ⟨Nat.le_of_ble_eq_true rfl, Nat.le_of_ble_eq_true rfl⟩ dX4_trySell_91 ?_
          refine Ev.ior (pc := 94) dX4_trySell_94 ?_
          refine Ev.iast (pc := 95) (ar_t ht _ _ _ _) (vp_in_nI (n := 26) (N := 27) (by decide) (by decide)) (se_t ht _ _ _ _ _) dX4_trySell_95 ?_
          refine Ev.iinc (pc := 96) (v := nI 1) dX4_trySell_96 rfl rfl rfl rfl ?_
          refine Ev.goto (pc := 99) (tgt := 29) dX4_trySell_99 (by decide) ?_
          exact ih _ _ hr
def sX4_trySell (g : Hg) (t : Nat) (a1 : Int32) : Option (Bool × Hg) := if (sX1_isLark g a1) = true then ((sX4_canSell g t a1).bind fun x_1 => (if x_1 = true then ((sX4_carriedBy g t a1).bind fun x_2 => (sX4_trySell_29 t a1 x_2 100 g (nI 0))) else (some (false, g)))) else (some (false, g))
set_option maxRecDepth 20000 in
set_option maxHeartbeats 1000000 in
theorem kX4_trySell (g : Hg) (q : Int64) (g2 : Hg) (q2 : Int64) {t : Nat} (ht : t = 3 ∨ t = 4) (a1 : Int32) {r : Bool × Hg} (hr : sX4_trySell g t a1 = some r) : CtI MX4_trySell [.ref t, .int a1] (g, q, g2, q2) (fun x h' => x = bI r.1 ∧ h' = (r.2, q, g2, q2)) := by
  unfold sX4_trySell at hr
  refine CtI_L 2 rfl (by decide +kernel) rfl (Nat.le_of_ble_eq_true rfl) ?_
  show Ev _ _ 0 [some (.ref t), some (.int a1), none, none] [] _
  refine Ev.aload_n (pc := 0) dX4_trySell_0 rfl ?_
  refine Ev.get (pc := 1) (C0 := RX4) (T := TX4) (N := 2) (fl_t_0 ht _ _ _ _) rfl inX4_trySell (by decide) lkX4_trySell_15 dX4_trySell_1 ?_
  refine Ev.iload_n (pc := 4) dX4_trySell_4 rfl ?_
  refine Ev.cVi (pc := 5) (As := [.int _]) (kX1_isLark _ _ _ _ _) rfl rfl (ob_2 _) gX4_trySell_X1_isLark hdX1_isLark rfl ⟨rfl, rfl⟩ ⟨Nat.le_of_ble_eq_true rfl, Nat.le_of_ble_eq_true rfl⟩ (Nat.le_of_ble_eq_true rfl) ⟨Nat.le_of_ble_eq_true rfl, Nat.le_of_ble_eq_true rfl⟩ dX4_trySell_5 ?_
  refine Ev.ifeqB (pc := 8) (tgt := 19) dX4_trySell_8 (by decide) (fun c_1 => ?_) (fun c_1 => ?_)
  · have hr := ifn hr (ntr c_1)
    refine Ev.iconst (pc := 19) (v := nI 0) dX4_trySell_19 (by decide) ?_
    cases hr
    exact Ev.iret rfl rfl dX4_trySell_20 ⟨rfl, rfl⟩
  · have hr := ifp hr c_1
    refine Ev.aload_n (pc := 11) dX4_trySell_11 rfl ?_
    refine Ev.iload_n (pc := 12) dX4_trySell_12 rfl ?_
    obtain ⟨x_1, hx_1, hr⟩ := Option.bind_eq_some_iff.mp hr
    refine Ev.cVi (pc := 13) (As := [.int _]) (kX4_canSell _ _ _ _ ht _ hx_1) rfl rfl (ob_t ht _) gX4_trySell_X4_canSell hdX4_canSell rfl ⟨rfl, rfl⟩ ⟨Nat.le_of_ble_eq_true rfl, Nat.le_of_ble_eq_true rfl⟩ (Nat.le_of_ble_eq_true rfl) ⟨Nat.le_of_ble_eq_true rfl, Nat.le_of_ble_eq_true rfl⟩ dX4_trySell_13 ?_
    refine Ev.ifneB (pc := 16) (tgt := 21) dX4_trySell_16 (by decide) (fun c_2 => ?_) (fun c_2 => ?_)
    · have hr := ifp hr c_2
      refine Ev.aload_n (pc := 21) dX4_trySell_21 rfl ?_
      refine Ev.iload_n (pc := 22) dX4_trySell_22 rfl ?_
      obtain ⟨x_2, hx_2, hr⟩ := Option.bind_eq_some_iff.mp hr
      refine Ev.cVi (pc := 23) (As := [.int _]) (kX4_carriedBy _ _ _ _ ht _ hx_2) rfl rfl (ob_t ht _) gX4_trySell_X4_carriedBy hdX4_carriedBy rfl ⟨rfl, rfl⟩ ⟨Nat.le_of_ble_eq_true rfl, Nat.le_of_ble_eq_true rfl⟩ (Nat.le_of_ble_eq_true rfl) ⟨Nat.le_of_ble_eq_true rfl, Nat.le_of_ble_eq_true rfl⟩ dX4_trySell_23 ?_
      refine Ev.istore_n (pc := 26) dX4_trySell_26 rfl rfl ?_
      refine Ev.iconst (pc := 27) (v := nI 0) dX4_trySell_27 (by decide) ?_
      refine Ev.istore_n (pc := 28) dX4_trySell_28 rfl rfl ?_
      exact kX4_trySell_29 _ _ _ ht _ _ _ 100 _ _ hr
    · have hr := ifn hr (ntr c_2)
      refine Ev.iconst (pc := 19) (v := nI 0) dX4_trySell_19 (by decide) ?_
      cases hr
      exact Ev.iret rfl rfl dX4_trySell_20 ⟨rfl, rfl⟩
/-! X5_size -/
def sX5_size (g : Hg) : Int32 := (g 7 3)
set_option maxRecDepth 20000 in
set_option maxHeartbeats 1000000 in
theorem kX5_size (g : Hg) (q : Int64) (g2 : Hg) (q2 : Int64) : CtI MX5_size [.ref 7] (g, q, g2, q2) (fun x h' => x = (sX5_size g) ∧ h' = (g, q, g2, q2)) := by
  generalize hr : sX5_size g = r
  unfold sX5_size at hr
  refine CtI_L 0 rfl (by decide +kernel) rfl (Nat.le_of_ble_eq_true rfl) ?_
  show Ev _ _ 0 [some (.ref 7)] [] _
  refine Ev.aload_n (pc := 0) dX5_size_0 rfl ?_
  refine Ev.get (pc := 1) (C0 := RX5) (T := TX5) (N := 4) (fl_7_3 _ _ _ _) rfl inX5_size (by decide) lkX5_size_22 dX5_size_1 ?_
  subst hr
  exact Ev.iret rfl rfl dX5_size_4 ⟨rfl, rfl⟩
/-! X5_clear -/
def sX5_clear (g : Hg) : Hg := (stA g 7 3 (nI 0))
set_option maxRecDepth 20000 in
set_option maxHeartbeats 1000000 in
theorem kX5_clear (g : Hg) (q : Int64) (g2 : Hg) (q2 : Int64) : CtV MX5_clear [.ref 7] (g, q, g2, q2) (fun h' => h' = ((sX5_clear g), q, g2, q2)) := by
  generalize hr : sX5_clear g = r
  unfold sX5_clear at hr
  refine CtV_L 0 rfl (by decide +kernel) rfl (Nat.le_of_ble_eq_true rfl) ?_
  show Ev _ _ 0 [some (.ref 7)] [] _
  refine Ev.aload_n (pc := 0) dX5_clear_0 rfl ?_
  refine Ev.iconst (pc := 1) (v := nI 0) dX5_clear_1 (by decide) ?_
  refine Ev.put (pc := 2) (C0 := RX5) (T := TX5) (N := 4) (ty := .int) (pu_7_3 _ _ _ _ _) rfl inX5_clear tyX5_ok nmX5 (by decide) lkX5_clear_22 rfl (by decide +kernel) (fun _ => rfl) (fun _ => rfl) dX5_clear_2 ?_
  subst hr
  exact Ev.vret rfl dX5_clear_5 rfl
/-! X5_add -/
def sX5_add (g : Hg) (a1 : Int32) (a2 : Int32) (a3 : Int32) : Option (Bool × Hg) := if (sX8_within (g 7 3) (nI 0) (nI 5)) = true then (if inb (g 7 3) 6 = true then (if inb ((stA g 22 (Int32.toNatClampNeg (g 7 3)) a1) 7 3) 6 = true then (if inb ((stA (stA g 22 (Int32.toNatClampNeg (g 7 3)) a1) 23 (Int32.toNatClampNeg ((stA g 22 (Int32.toNatClampNeg (g 7 3)) a1) 7 3)) a2) 7 3) 6 = true then (some (true, stA (stA (stA (stA g 22 (Int32.toNatClampNeg (g 7 3)) a1) 23 (Int32.toNatClampNeg ((stA g 22 (Int32.toNatClampNeg (g 7 3)) a1) 7 3)) a2) 24 (Int32.toNatClampNeg ((stA (stA g 22 (Int32.toNatClampNeg (g 7 3)) a1) 23 (Int32.toNatClampNeg ((stA g 22 (Int32.toNatClampNeg (g 7 3)) a1) 7 3)) a2) 7 3)) (vp_nar .boolean a3)) 7 3 (((stA (stA (stA g 22 (Int32.toNatClampNeg (g 7 3)) a1) 23 (Int32.toNatClampNeg ((stA g 22 (Int32.toNatClampNeg (g 7 3)) a1) 7 3)) a2) 24 (Int32.toNatClampNeg ((stA (stA g 22 (Int32.toNatClampNeg (g 7 3)) a1) 23 (Int32.toNatClampNeg ((stA g 22 (Int32.toNatClampNeg (g 7 3)) a1) 7 3)) a2) 7 3)) (vp_nar .boolean a3)) 7 3) + (nI 1)))) else none) else none) else none) else (some (false, g))
set_option maxRecDepth 20000 in
set_option maxHeartbeats 1000000 in
theorem kX5_add (g : Hg) (q : Int64) (g2 : Hg) (q2 : Int64) (a1 : Int32) (a2 : Int32) (a3 : Int32) {r : Bool × Hg} (hr : sX5_add g a1 a2 a3 = some r) : CtI MX5_add [.ref 7, .int a1, .int a2, .int a3] (g, q, g2, q2) (fun x h' => x = bI r.1 ∧ h' = (r.2, q, g2, q2)) := by
  unfold sX5_add at hr
  refine CtI_L 0 rfl (by decide +kernel) rfl (Nat.le_of_ble_eq_true rfl) ?_
  show Ev _ _ 0 [some (.ref 7), some (.int a1), some (.int a2), some (.int a3)] [] _
  refine Ev.aload_n (pc := 0) dX5_add_0 rfl ?_
  refine Ev.get (pc := 1) (C0 := RX5) (T := TX5) (N := 4) (fl_7_3 _ _ _ _) rfl inX5_add (by decide) lkX5_add_22 dX5_add_1 ?_
  refine Ev.iconst (pc := 4) (v := nI 0) dX5_add_4 (by decide) ?_
  refine Ev.iconst (pc := 5) (v := nI 5) dX5_add_5 (by decide) ?_
  refine Ev.cNi (pc := 6) (As := [.int _, .int _, .int _]) (kX8_within _ _ _ _ _ _ _) rfl gX5_add_X8_within_n26 (by decide +kernel) stX5_add_X8_within iniX5_add_X8_within hdX8_within rfl ⟨rfl, rfl⟩ ⟨Nat.le_of_ble_eq_true rfl, Nat.le_of_ble_eq_true rfl⟩ (Nat.le_of_ble_eq_true rfl) ⟨Nat.le_of_ble_eq_true rfl, Nat.le_of_ble_eq_true rfl⟩ dX5_add_6 ?_
  refine Ev.ifneB (pc := 9) (tgt := 14) dX5_add_9 (by decide) (fun c_1 => ?_) (fun c_1 => ?_)
  · have hr := ifp hr c_1
    refine Ev.aload_n (pc := 14) dX5_add_14 rfl ?_
    refine Ev.get (pc := 15) (C0 := RX5) (T := TX5) (N := 4) (fl_7_0 _ _ _ _) rfl inX5_add (by decide) lkX5_add_9 dX5_add_15 ?_
    refine Ev.aload_n (pc := 18) dX5_add_18 rfl ?_
    refine Ev.get (pc := 19) (C0 := RX5) (T := TX5) (N := 4) (fl_7_3 _ _ _ _) rfl inX5_add (by decide) lkX5_add_22 dX5_add_19 ?_
    refine Ev.iload_n (pc := 22) dX5_add_22 rfl ?_
    obtain ⟨c_2, hr⟩ := ckB hr
    refine Ev.iast (pc := 23) (ar_22 _ _ _ _) (inb_in c_2) (se_22 _ _ _ _ _) dX5_add_23 ?_
    refine Ev.aload_n (pc := 24) dX5_add_24 rfl ?_
    refine Ev.get (pc := 25) (C0 := RX5) (T := TX5) (N := 4) (fl_7_1 _ _ _ _) rfl inX5_add (by decide) lkX5_add_15 dX5_add_25 ?_
    refine Ev.aload_n (pc := 28) dX5_add_28 rfl ?_
    refine Ev.get (pc := 29) (C0 := RX5) (T := TX5) (N := 4) (fl_7_3 _ _ _ _) rfl inX5_add (by decide) lkX5_add_22 dX5_add_29 ?_
    refine Ev.iload_n (pc := 32) dX5_add_32 rfl ?_
    obtain ⟨c_3, hr⟩ := ckB hr
    refine Ev.iast (pc := 33) (ar_23 _ _ _ _) (inb_in c_3) (se_23 _ _ _ _ _) dX5_add_33 ?_
    refine Ev.aload_n (pc := 34) dX5_add_34 rfl ?_
    refine Ev.get (pc := 35) (C0 := RX5) (T := TX5) (N := 4) (fl_7_2 _ _ _ _) rfl inX5_add (by decide) lkX5_add_18 dX5_add_35 ?_
    refine Ev.aload_n (pc := 38) dX5_add_38 rfl ?_
    refine Ev.get (pc := 39) (C0 := RX5) (T := TX5) (N := 4) (fl_7_3 _ _ _ _) rfl inX5_add (by decide) lkX5_add_22 dX5_add_39 ?_
    refine Ev.iload_n (pc := 42) dX5_add_42 rfl ?_
    obtain ⟨c_4, hr⟩ := ckB hr
    refine Ev.zast (pc := 43) (ar_24 _ _ _ _) (inb_in c_4) (se_24 _ _ _ _ _) dX5_add_43 ?_
    refine Ev.aload_n (pc := 44) dX5_add_44 rfl ?_
    refine Ev.dup (pc := 45) dX5_add_45 rfl ?_
    refine Ev.get (pc := 46) (C0 := RX5) (T := TX5) (N := 4) (fl_7_3 _ _ _ _) rfl inX5_add (by decide) lkX5_add_22 dX5_add_46 ?_
    refine Ev.iconst (pc := 49) (v := nI 1) dX5_add_49 (by decide) ?_
    refine Ev.iadd (pc := 50) dX5_add_50 ?_
    refine Ev.put (pc := 51) (C0 := RX5) (T := TX5) (N := 4) (ty := .int) (pu_7_3 _ _ _ _ _) rfl inX5_add tyX5_ok nmX5 (by decide) lkX5_add_22 rfl (by decide +kernel) (fun _ => rfl) (fun _ => rfl) dX5_add_51 ?_
    refine Ev.iconst (pc := 54) (v := nI 1) dX5_add_54 (by decide) ?_
    cases hr
    exact Ev.iret rfl rfl dX5_add_55 ⟨rfl, rfl⟩
  · have hr := ifn hr (ntr c_1)
    refine Ev.iconst (pc := 12) (v := nI 0) dX5_add_12 (by decide) ?_
    cases hr
    exact Ev.iret rfl rfl dX5_add_13 ⟨rfl, rfl⟩
/-! X5_fitHour -/
def sX5_fitHour_2 (g : Hg) (v1 : Int32) : Nat → Int32 → Option (Bool)
  | 0, _ => none
  | n + 1, v3 => if (g 7 3) ≤ v3 then (some true) else (if (nI 6) ≤ v3 then (some true) else (if inb v3 6 = true then (if inb v3 6 = true then ((sX1_isBared g (g 22 (Int32.toNatClampNeg v3)) (v1 + (g 23 (Int32.toNatClampNeg v3)))).bind fun x_1 => (if inb v3 6 = true then (if (bI x_1) = (g 24 (Int32.toNatClampNeg v3)) then (sX5_fitHour_2 g v1 n (v3 + (nI 1))) else (some false)) else none)) else none) else none))
set_option maxRecDepth 20000 in
set_option maxHeartbeats 1000000 in
theorem kX5_fitHour_2 (g : Hg) (q : Int64) (g2 : Hg) (q2 : Int64)  (v1 : Int32) (r : Bool) : ∀ (n : Nat) (v3 : Int32), sX5_fitHour_2 g v1 n v3 = some r → Ev (Xi (fun x h' => x = bI r ∧ h' = (g, q, g2, q2))) MX5_fitHour 2 [some (.ref 7), some (.int v1), some (.ref 2), some (.int v3)] [] (g, q, g2, q2) := by
  intro n
  induction n with
  | zero => intro _ hr; cases hr
  | succ n ih =>
    intro v3 hr
    rw [sX5_fitHour_2] at hr
    refine Ev.iload_n (pc := 2) dX5_fitHour_2 rfl ?_
    refine Ev.aload_n (pc := 3) dX5_fitHour_3 rfl ?_
    refine Ev.get (pc := 4) (C0 := RX5) (T := TX5) (N := 4) (fl_7_3 _ _ _ _) rfl inX5_fitHour (by decide) lkX5_fitHour_22 dX5_fitHour_4 ?_
    refine Ev.icmpge (pc := 7) (tgt := 51) dX5_fitHour_7 (by decide) (fun c_1 => ?_) (fun c_1 => ?_)
    · have hr := ifp hr c_1
      refine Ev.iconst (pc := 51) (v := nI 1) dX5_fitHour_51 (by decide) ?_
      cases hr
      exact Ev.iret rfl rfl dX5_fitHour_52 ⟨rfl, rfl⟩
    · have hr := ifn hr c_1
      refine Ev.iload_n (pc := 10) dX5_fitHour_10 rfl ?_
      refine Ev.bipush (pc := 11) (v := nI 6) dX5_fitHour_11 (by decide) ?_
      refine Ev.icmpge (pc := 13) (tgt := 51) dX5_fitHour_13 (by decide) (fun c_2 => ?_) (fun c_2 => ?_)
      · have hr := ifp hr c_2
        refine Ev.iconst (pc := 51) (v := nI 1) dX5_fitHour_51 (by decide) ?_
        cases hr
        exact Ev.iret rfl rfl dX5_fitHour_52 ⟨rfl, rfl⟩
      · have hr := ifn hr c_2
        refine Ev.aload_n (pc := 16) dX5_fitHour_16 rfl ?_
        refine Ev.aload_n (pc := 17) dX5_fitHour_17 rfl ?_
        refine Ev.get (pc := 18) (C0 := RX5) (T := TX5) (N := 4) (fl_7_0 _ _ _ _) rfl inX5_fitHour (by decide) lkX5_fitHour_9 dX5_fitHour_18 ?_
        refine Ev.iload_n (pc := 21) dX5_fitHour_21 rfl ?_
        obtain ⟨c_3, hr⟩ := ckB hr
        refine Ev.iald (pc := 22) (ar_22 _ _ _ _) (inb_in c_3) dX5_fitHour_22 ?_
        refine Ev.iload_n (pc := 23) dX5_fitHour_23 rfl ?_
        refine Ev.aload_n (pc := 24) dX5_fitHour_24 rfl ?_
        refine Ev.get (pc := 25) (C0 := RX5) (T := TX5) (N := 4) (fl_7_1 _ _ _ _) rfl inX5_fitHour (by decide) lkX5_fitHour_15 dX5_fitHour_25 ?_
        refine Ev.iload_n (pc := 28) dX5_fitHour_28 rfl ?_
        obtain ⟨c_4, hr⟩ := ckB hr
        refine Ev.iald (pc := 29) (ar_23 _ _ _ _) (inb_in c_4) dX5_fitHour_29 ?_
        refine Ev.iadd (pc := 30) dX5_fitHour_30 ?_
        obtain ⟨x_1, hx_1, hr⟩ := Option.bind_eq_some_iff.mp hr
        refine Ev.cVi (pc := 31) (As := [.int _, .int _]) (kX1_isBared _ _ _ _ _ _ hx_1) rfl rfl (ob_2 _) gX5_fitHour_X1_isBared hdX1_isBared rfl ⟨rfl, rfl⟩ ⟨Nat.le_of_ble_eq_true rfl, Nat.le_of_ble_eq_true rfl⟩ (Nat.le_of_ble_eq_true rfl) ⟨Nat.le_of_ble_eq_true rfl, Nat.le_of_ble_eq_true rfl⟩ dX5_fitHour_31 ?_
        refine Ev.aload_n (pc := 34) dX5_fitHour_34 rfl ?_
        refine Ev.get (pc := 35) (C0 := RX5) (T := TX5) (N := 4) (fl_7_2 _ _ _ _) rfl inX5_fitHour (by decide) lkX5_fitHour_18 dX5_fitHour_35 ?_
        refine Ev.iload_n (pc := 38) dX5_fitHour_38 rfl ?_
        obtain ⟨c_5, hr⟩ := ckB hr
        refine Ev.zald (pc := 39) (ar_24 _ _ _ _) (inb_in c_5) dX5_fitHour_39 ?_
        refine Ev.icmpeq (pc := 40) (tgt := 45) dX5_fitHour_40 (by decide) (fun c_6 => ?_) (fun c_6 => ?_)
        · have hr := ifp hr c_6
          refine Ev.iinc (pc := 45) (v := nI 1) dX5_fitHour_45 rfl rfl rfl rfl ?_
          refine Ev.goto (pc := 48) (tgt := 2) dX5_fitHour_48 (by decide) ?_
          exact ih _ hr
        · have hr := ifn hr c_6
          refine Ev.iconst (pc := 43) (v := nI 0) dX5_fitHour_43 (by decide) ?_
          cases hr
          exact Ev.iret rfl rfl dX5_fitHour_44 ⟨rfl, rfl⟩
def sX5_fitHour (g : Hg) (a1 : Int32) : Option (Bool) := sX5_fitHour_2 g a1 100 (nI 0)
set_option maxRecDepth 20000 in
set_option maxHeartbeats 1000000 in
theorem kX5_fitHour (g : Hg) (q : Int64) (g2 : Hg) (q2 : Int64) (a1 : Int32) {r : Bool} (hr : sX5_fitHour g a1 = some r) : CtI MX5_fitHour [.ref 7, .int a1, .ref 2] (g, q, g2, q2) (fun x h' => x = bI r ∧ h' = (g, q, g2, q2)) := by
  unfold sX5_fitHour at hr
  refine CtI_L 1 rfl (by decide +kernel) rfl (Nat.le_of_ble_eq_true rfl) ?_
  show Ev _ _ 0 [some (.ref 7), some (.int a1), some (.ref 2), none] [] _
  refine Ev.iconst (pc := 0) (v := nI 0) dX5_fitHour_0 (by decide) ?_
  refine Ev.istore_n (pc := 1) dX5_fitHour_1 rfl rfl ?_
  exact kX5_fitHour_2 _ _ _ _ _ _ 100 _ hr
/-! X6_forgetAll -/
def sX6_forgetAll (g : Hg) : Hg := (stA g 6 1 (nI 0))
set_option maxRecDepth 20000 in
set_option maxHeartbeats 1000000 in
theorem kX6_forgetAll (g : Hg) (q : Int64) (g2 : Hg) (q2 : Int64) : CtV MX6_forgetAll [.ref 6] (g, q, g2, q2) (fun h' => h' = ((sX6_forgetAll g), q, g2, q2)) := by
  generalize hr : sX6_forgetAll g = r
  unfold sX6_forgetAll at hr
  refine CtV_L 0 rfl (by decide +kernel) rfl (Nat.le_of_ble_eq_true rfl) ?_
  show Ev _ _ 0 [some (.ref 6)] [] _
  refine Ev.aload_n (pc := 0) dX6_forgetAll_0 rfl ?_
  refine Ev.iconst (pc := 1) (v := nI 0) dX6_forgetAll_1 (by decide) ?_
  refine Ev.put (pc := 2) (C0 := RX6) (T := TX6) (N := 2) (ty := .int) (pu_6_1 _ _ _ _ _) rfl inX6_forgetAll tyX6_ok nmX6 (by decide) lkX6_forgetAll_17 rfl (by decide +kernel) (fun _ => rfl) (fun _ => rfl) dX6_forgetAll_2 ?_
  subst hr
  exact Ev.vret rfl dX6_forgetAll_5 rfl
/-! X6_isFilled -/
def sX6_isFilled (g : Hg) (a1 : Int32) : Bool := if (sX8_within a1 (nI 0) (nI 1)) = true then (if (sX8_has (g 6 1) a1) = true then (true) else (false)) else (false)
set_option maxRecDepth 20000 in
set_option maxHeartbeats 1000000 in
theorem kX6_isFilled (g : Hg) (q : Int64) (g2 : Hg) (q2 : Int64) (a1 : Int32) : CtI MX6_isFilled [.ref 6, .int a1] (g, q, g2, q2) (fun x h' => x = bI ((sX6_isFilled g a1)) ∧ h' = (g, q, g2, q2)) := by
  generalize hr : sX6_isFilled g a1 = r
  unfold sX6_isFilled at hr
  refine CtI_L 0 rfl (by decide +kernel) rfl (Nat.le_of_ble_eq_true rfl) ?_
  show Ev _ _ 0 [some (.ref 6), some (.int a1)] [] _
  refine Ev.iload_n (pc := 0) dX6_isFilled_0 rfl ?_
  refine Ev.iconst (pc := 1) (v := nI 0) dX6_isFilled_1 (by decide) ?_
  refine Ev.iconst (pc := 2) (v := nI 1) dX6_isFilled_2 (by decide) ?_
  refine Ev.cNi (pc := 3) (As := [.int _, .int _, .int _]) (kX8_within _ _ _ _ _ _ _) rfl gX6_isFilled_X8_within_n21 (by decide +kernel) stX6_isFilled_X8_within iniX6_isFilled_X8_within hdX8_within rfl ⟨rfl, rfl⟩ ⟨Nat.le_of_ble_eq_true rfl, Nat.le_of_ble_eq_true rfl⟩ (Nat.le_of_ble_eq_true rfl) ⟨Nat.le_of_ble_eq_true rfl, Nat.le_of_ble_eq_true rfl⟩ dX6_isFilled_3 ?_
  refine Ev.ifeqB (pc := 6) (tgt := 24) dX6_isFilled_6 (by decide) (fun c_1 => ?_) (fun c_1 => ?_)
  · have hr := ifn hr (ntr c_1)
    refine Ev.iconst (pc := 24) (v := nI 0) dX6_isFilled_24 (by decide) ?_
    subst hr
    exact Ev.iret rfl rfl dX6_isFilled_25 ⟨rfl, rfl⟩
  · have hr := ifp hr c_1
    refine Ev.aload_n (pc := 9) dX6_isFilled_9 rfl ?_
    refine Ev.get (pc := 10) (C0 := RX6) (T := TX6) (N := 2) (fl_6_1 _ _ _ _) rfl inX6_isFilled (by decide) lkX6_isFilled_17 dX6_isFilled_10 ?_
    refine Ev.iload_n (pc := 13) dX6_isFilled_13 rfl ?_
    refine Ev.cNi (pc := 14) (As := [.int _, .int _]) (kX8_has _ _ _ _ _ _) rfl gX6_isFilled_X8_has_n25 (by decide +kernel) stX6_isFilled_X8_has iniX6_isFilled_X8_has hdX8_has rfl ⟨rfl, rfl⟩ ⟨Nat.le_of_ble_eq_true rfl, Nat.le_of_ble_eq_true rfl⟩ (Nat.le_of_ble_eq_true rfl) ⟨Nat.le_of_ble_eq_true rfl, Nat.le_of_ble_eq_true rfl⟩ dX6_isFilled_14 ?_
    refine Ev.ifeqB (pc := 17) (tgt := 24) dX6_isFilled_17 (by decide) (fun c_2 => ?_) (fun c_2 => ?_)
    · have hr := ifn hr (ntr c_2)
      refine Ev.iconst (pc := 24) (v := nI 0) dX6_isFilled_24 (by decide) ?_
      subst hr
      exact Ev.iret rfl rfl dX6_isFilled_25 ⟨rfl, rfl⟩
    · have hr := ifp hr c_2
      refine Ev.iconst (pc := 20) (v := nI 1) dX6_isFilled_20 (by decide) ?_
      refine Ev.goto (pc := 21) (tgt := 25) dX6_isFilled_21 (by decide) ?_
      subst hr
      exact Ev.iret rfl rfl dX6_isFilled_25 ⟨rfl, rfl⟩
/-! X6_store -/
def sX6_store (g : Hg) (a1 : Int32) : Option (Hg) := if (sX8_within a1 (nI 0) (nI 1)) = true then ((sX4_saveTo g 21 54 (a1 * (nI 27))).bind fun x_1 => (some (stA x_1 6 1 ((x_1 6 1) ||| (sX8_bit a1))))) else (some g)
set_option maxRecDepth 20000 in
set_option maxHeartbeats 1000000 in
theorem kX6_store (g : Hg) (q : Int64) (g2 : Hg) (q2 : Int64) (a1 : Int32) {r : Hg} (hr : sX6_store g a1 = some r) : CtV MX6_store [.ref 6, .int a1, .ref 3] (g, q, g2, q2) (fun h' => h' = (r, q, g2, q2)) := by
  unfold sX6_store at hr
  refine CtV_L 0 rfl (by decide +kernel) rfl (Nat.le_of_ble_eq_true rfl) ?_
  show Ev _ _ 0 [some (.ref 6), some (.int a1), some (.ref 3)] [] _
  refine Ev.iload_n (pc := 0) dX6_store_0 rfl ?_
  refine Ev.iconst (pc := 1) (v := nI 0) dX6_store_1 (by decide) ?_
  refine Ev.iconst (pc := 2) (v := nI 1) dX6_store_2 (by decide) ?_
  refine Ev.cNi (pc := 3) (As := [.int _, .int _, .int _]) (kX8_within _ _ _ _ _ _ _) rfl gX6_store_X8_within_n21 (by decide +kernel) stX6_store_X8_within iniX6_store_X8_within hdX8_within rfl ⟨rfl, rfl⟩ ⟨Nat.le_of_ble_eq_true rfl, Nat.le_of_ble_eq_true rfl⟩ (Nat.le_of_ble_eq_true rfl) ⟨Nat.le_of_ble_eq_true rfl, Nat.le_of_ble_eq_true rfl⟩ dX6_store_3 ?_
  refine Ev.ifeqB (pc := 6) (tgt := 34) dX6_store_6 (by decide) (fun c_1 => ?_) (fun c_1 => ?_)
  · have hr := ifn hr (ntr c_1)
    cases hr
    exact Ev.vret rfl dX6_store_34 rfl
  · have hr := ifp hr c_1
    refine Ev.aload_n (pc := 9) dX6_store_9 rfl ?_
    refine Ev.aload_n (pc := 10) dX6_store_10 rfl ?_
    refine Ev.get (pc := 11) (C0 := RX6) (T := TX6) (N := 2) (fl_6_0 _ _ _ _) rfl inX6_store (by decide) lkX6_store_11 dX6_store_11 ?_
    refine Ev.iload_n (pc := 14) dX6_store_14 rfl ?_
    refine Ev.bipush (pc := 15) (v := nI 27) dX6_store_15 (by decide) ?_
    refine Ev.imul (pc := 17) dX6_store_17 ?_
    obtain ⟨x_1, hx_1, hr⟩ := Option.bind_eq_some_iff.mp hr
    refine Ev.cVv (pc := 18) (As := [.ref 21, .int _]) (kX4_saveTo _ _ _ _ (Or.inr ⟨rfl, rfl⟩) _ hx_1) rfl rfl (ob_3 _) gX6_store_X4_saveTo hdX4_saveTo rfl ⟨rfl, rfl⟩ ⟨Nat.le_of_ble_eq_true rfl, Nat.le_of_ble_eq_true rfl⟩ (Nat.le_of_ble_eq_true rfl) ⟨Nat.le_of_ble_eq_true rfl, Nat.le_of_ble_eq_true rfl⟩ dX6_store_18 ?_
    refine Ev.aload_n (pc := 21) dX6_store_21 rfl ?_
    refine Ev.dup (pc := 22) dX6_store_22 rfl ?_
    refine Ev.get (pc := 23) (C0 := RX6) (T := TX6) (N := 2) (fl_6_1 _ _ _ _) rfl inX6_store (by decide) lkX6_store_17 dX6_store_23 ?_
    refine Ev.iload_n (pc := 26) dX6_store_26 rfl ?_
    refine Ev.cNi (pc := 27) (As := [.int _]) (kX8_bit _ _ _ _ _) rfl gX6_store_X8_bit_n33 (by decide +kernel) stX6_store_X8_bit iniX6_store_X8_bit hdX8_bit rfl ⟨rfl, rfl⟩ ⟨Nat.le_of_ble_eq_true rfl, Nat.le_of_ble_eq_true rfl⟩ (Nat.le_of_ble_eq_true rfl) ⟨Nat.le_of_ble_eq_true rfl, Nat.le_of_ble_eq_true rfl⟩ dX6_store_27 ?_
    refine Ev.ior (pc := 30) dX6_store_30 ?_
    refine Ev.put (pc := 31) (C0 := RX6) (T := TX6) (N := 2) (ty := .int) (pu_6_1 _ _ _ _ _) rfl inX6_store tyX6_ok nmX6 (by decide) lkX6_store_17 rfl (by decide +kernel) (fun _ => rfl) (fun _ => rfl) dX6_store_31 ?_
    cases hr
    exact Ev.vret rfl dX6_store_34 rfl
/-! X6_bringBack -/
def sX6_bringBack (g : Hg) (a1 : Int32) : Option (Hg) := if (sX6_isFilled g a1) = true then ((sX4_loadFrom g 21 54 (a1 * (nI 27))).bind fun x_1 => (some x_1)) else (some g)
set_option maxRecDepth 20000 in
set_option maxHeartbeats 1000000 in
theorem kX6_bringBack (g : Hg) (q : Int64) (g2 : Hg) (q2 : Int64) (a1 : Int32) {r : Hg} (hr : sX6_bringBack g a1 = some r) : CtV MX6_bringBack [.ref 6, .int a1, .ref 3] (g, q, g2, q2) (fun h' => h' = (r, q, g2, q2)) := by
  unfold sX6_bringBack at hr
  refine CtV_L 0 rfl (by decide +kernel) rfl (Nat.le_of_ble_eq_true rfl) ?_
  show Ev _ _ 0 [some (.ref 6), some (.int a1), some (.ref 3)] [] _
  refine Ev.aload_n (pc := 0) dX6_bringBack_0 rfl ?_
  refine Ev.iload_n (pc := 1) dX6_bringBack_1 rfl ?_
  refine Ev.cVi (pc := 2) (As := [.int _]) (kX6_isFilled _ _ _ _ _) rfl rfl (ob_6 _) gX6_bringBack_X6_isFilled hdX6_isFilled rfl ⟨rfl, rfl⟩ ⟨Nat.le_of_ble_eq_true rfl, Nat.le_of_ble_eq_true rfl⟩ (Nat.le_of_ble_eq_true rfl) ⟨Nat.le_of_ble_eq_true rfl, Nat.le_of_ble_eq_true rfl⟩ dX6_bringBack_2 ?_
  refine Ev.ifeqB (pc := 5) (tgt := 20) dX6_bringBack_5 (by decide) (fun c_1 => ?_) (fun c_1 => ?_)
  · have hr := ifn hr (ntr c_1)
    cases hr
    exact Ev.vret rfl dX6_bringBack_20 rfl
  · have hr := ifp hr c_1
    refine Ev.aload_n (pc := 8) dX6_bringBack_8 rfl ?_
    refine Ev.aload_n (pc := 9) dX6_bringBack_9 rfl ?_
    refine Ev.get (pc := 10) (C0 := RX6) (T := TX6) (N := 2) (fl_6_0 _ _ _ _) rfl inX6_bringBack (by decide) lkX6_bringBack_11 dX6_bringBack_10 ?_
    refine Ev.iload_n (pc := 13) dX6_bringBack_13 rfl ?_
    refine Ev.bipush (pc := 14) (v := nI 27) dX6_bringBack_14 (by decide) ?_
    refine Ev.imul (pc := 16) dX6_bringBack_16 ?_
    obtain ⟨x_1, hx_1, hr⟩ := Option.bind_eq_some_iff.mp hr
    refine Ev.cVv (pc := 17) (As := [.ref 21, .int _]) (kX4_loadFrom _ _ _ _ (Or.inr ⟨rfl, rfl⟩) _ hx_1) rfl rfl (ob_3 _) gX6_bringBack_X4_loadFrom hdX4_loadFrom rfl ⟨rfl, rfl⟩ ⟨Nat.le_of_ble_eq_true rfl, Nat.le_of_ble_eq_true rfl⟩ (Nat.le_of_ble_eq_true rfl) ⟨Nat.le_of_ble_eq_true rfl, Nat.le_of_ble_eq_true rfl⟩ dX6_bringBack_17 ?_
    cases hr
    exact Ev.vret rfl dX6_bringBack_20 rfl
/-! X7_add -/
def sX7_add (g : Hg) (a1 : Int32) : Option (Bool × Hg) := if (sX8_within (g 1 1) (nI 0) (nI 59)) = true then (if inb (g 1 1) 60 = true then (some (true, stA (stA g 10 (Int32.toNatClampNeg (g 1 1)) a1) 1 1 (((stA g 10 (Int32.toNatClampNeg (g 1 1)) a1) 1 1) + (nI 1)))) else none) else (some (false, g))
set_option maxRecDepth 20000 in
set_option maxHeartbeats 1000000 in
theorem kX7_add (g : Hg) (q : Int64) (g2 : Hg) (q2 : Int64) (a1 : Int32) {r : Bool × Hg} (hr : sX7_add g a1 = some r) : CtI MX7_add [.ref 1, .int a1] (g, q, g2, q2) (fun x h' => x = bI r.1 ∧ h' = (r.2, q, g2, q2)) := by
  unfold sX7_add at hr
  refine CtI_L 0 rfl (by decide +kernel) rfl (Nat.le_of_ble_eq_true rfl) ?_
  show Ev _ _ 0 [some (.ref 1), some (.int a1)] [] _
  refine Ev.aload_n (pc := 0) dX7_add_0 rfl ?_
  refine Ev.get (pc := 1) (C0 := RX7) (T := TX7) (N := 5) (fl_1_1 _ _ _ _) rfl inX7_add (by decide) lkX7_add_15 dX7_add_1 ?_
  refine Ev.iconst (pc := 4) (v := nI 0) dX7_add_4 (by decide) ?_
  refine Ev.bipush (pc := 5) (v := nI 59) dX7_add_5 (by decide) ?_
  refine Ev.cNi (pc := 7) (As := [.int _, .int _, .int _]) (kX8_within _ _ _ _ _ _ _) rfl gX7_add_X8_within_n19 (by decide +kernel) stX7_add_X8_within iniX7_add_X8_within hdX8_within rfl ⟨rfl, rfl⟩ ⟨Nat.le_of_ble_eq_true rfl, Nat.le_of_ble_eq_true rfl⟩ (Nat.le_of_ble_eq_true rfl) ⟨Nat.le_of_ble_eq_true rfl, Nat.le_of_ble_eq_true rfl⟩ dX7_add_7 ?_
  refine Ev.ifneB (pc := 10) (tgt := 15) dX7_add_10 (by decide) (fun c_1 => ?_) (fun c_1 => ?_)
  · have hr := ifp hr c_1
    refine Ev.aload_n (pc := 15) dX7_add_15 rfl ?_
    refine Ev.get (pc := 16) (C0 := RX7) (T := TX7) (N := 5) (fl_1_0 _ _ _ _) rfl inX7_add (by decide) lkX7_add_9 dX7_add_16 ?_
    refine Ev.aload_n (pc := 19) dX7_add_19 rfl ?_
    refine Ev.get (pc := 20) (C0 := RX7) (T := TX7) (N := 5) (fl_1_1 _ _ _ _) rfl inX7_add (by decide) lkX7_add_15 dX7_add_20 ?_
    refine Ev.iload_n (pc := 23) dX7_add_23 rfl ?_
    obtain ⟨c_2, hr⟩ := ckB hr
    refine Ev.iast (pc := 24) (ar_10 _ _ _ _) (inb_in c_2) (se_10 _ _ _ _ _) dX7_add_24 ?_
    refine Ev.aload_n (pc := 25) dX7_add_25 rfl ?_
    refine Ev.dup (pc := 26) dX7_add_26 rfl ?_
    refine Ev.get (pc := 27) (C0 := RX7) (T := TX7) (N := 5) (fl_1_1 _ _ _ _) rfl inX7_add (by decide) lkX7_add_15 dX7_add_27 ?_
    refine Ev.iconst (pc := 30) (v := nI 1) dX7_add_30 (by decide) ?_
    refine Ev.iadd (pc := 31) dX7_add_31 ?_
    refine Ev.put (pc := 32) (C0 := RX7) (T := TX7) (N := 5) (ty := .int) (pu_1_1 _ _ _ _ _) rfl inX7_add tyX7_ok nmX7 (by decide) lkX7_add_15 rfl (by decide +kernel) (fun _ => rfl) (fun _ => rfl) dX7_add_32 ?_
    refine Ev.iconst (pc := 35) (v := nI 1) dX7_add_35 (by decide) ?_
    cases hr
    exact Ev.iret rfl rfl dX7_add_36 ⟨rfl, rfl⟩
  · have hr := ifn hr (ntr c_1)
    refine Ev.iconst (pc := 13) (v := nI 0) dX7_add_13 (by decide) ?_
    cases hr
    exact Ev.iret rfl rfl dX7_add_14 ⟨rfl, rfl⟩
/-! X7_clear -/
def sX7_clear (g : Hg) : Hg := (stA g 1 1 (nI 0))
set_option maxRecDepth 20000 in
set_option maxHeartbeats 1000000 in
theorem kX7_clear (g : Hg) (q : Int64) (g2 : Hg) (q2 : Int64) : CtV MX7_clear [.ref 1] (g, q, g2, q2) (fun h' => h' = ((sX7_clear g), q, g2, q2)) := by
  generalize hr : sX7_clear g = r
  unfold sX7_clear at hr
  refine CtV_L 0 rfl (by decide +kernel) rfl (Nat.le_of_ble_eq_true rfl) ?_
  show Ev _ _ 0 [some (.ref 1)] [] _
  refine Ev.aload_n (pc := 0) dX7_clear_0 rfl ?_
  refine Ev.iconst (pc := 1) (v := nI 0) dX7_clear_1 (by decide) ?_
  refine Ev.put (pc := 2) (C0 := RX7) (T := TX7) (N := 5) (ty := .int) (pu_1_1 _ _ _ _ _) rfl inX7_clear tyX7_ok nmX7 (by decide) lkX7_clear_15 rfl (by decide +kernel) (fun _ => rfl) (fun _ => rfl) dX7_clear_2 ?_
  subst hr
  exact Ev.vret rfl dX7_clear_5 rfl
/-! X7_askedInPart -/
def sX7_askedInPart (g : Hg) (a1 : Int32) : Int32 × Hg := if a1 = (nI 87) then (if (nI 6) ≤ (g 1 2) then (if a1 = (nI 70) then (if (nI 5) ≤ (g 1 3) then (if a1 = (nI 76) then (if (nI 4) ≤ (g 1 4) then (((-9), g)) else ((nI 18, stA g 1 4 ((g 1 4) + (nI 1))))) else (((-9), g))) else ((nI 15, stA g 1 3 ((g 1 3) + (nI 1))))) else (if a1 = (nI 76) then (if (nI 4) ≤ (g 1 4) then (((-9), g)) else ((nI 18, stA g 1 4 ((g 1 4) + (nI 1))))) else (((-9), g)))) else ((nI 14, stA g 1 2 ((g 1 2) + (nI 1))))) else (if a1 = (nI 70) then (if (nI 5) ≤ (g 1 3) then (if a1 = (nI 76) then (if (nI 4) ≤ (g 1 4) then (((-9), g)) else ((nI 18, stA g 1 4 ((g 1 4) + (nI 1))))) else (((-9), g))) else ((nI 15, stA g 1 3 ((g 1 3) + (nI 1))))) else (if a1 = (nI 76) then (if (nI 4) ≤ (g 1 4) then (((-9), g)) else ((nI 18, stA g 1 4 ((g 1 4) + (nI 1))))) else (((-9), g))))
set_option maxRecDepth 20000 in
set_option maxHeartbeats 1000000 in
theorem kX7_askedInPart (g : Hg) (q : Int64) (g2 : Hg) (q2 : Int64) (a1 : Int32) : CtI MX7_askedInPart [.ref 1, .int a1] (g, q, g2, q2) (fun x h' => x = (sX7_askedInPart g a1).1 ∧ h' = ((sX7_askedInPart g a1).2, q, g2, q2)) := by
  generalize hr : sX7_askedInPart g a1 = r
  unfold sX7_askedInPart at hr
  refine CtI_L 0 rfl (by decide +kernel) rfl (Nat.le_of_ble_eq_true rfl) ?_
  show Ev _ _ 0 [some (.ref 1), some (.int a1)] [] _
  refine Ev.iload_n (pc := 0) dX7_askedInPart_0 rfl ?_
  refine Ev.bipush (pc := 1) (v := nI 87) dX7_askedInPart_1 (by decide) ?_
  refine Ev.icmpne (pc := 3) (tgt := 28) dX7_askedInPart_3 (by decide) (fun c_1 => ?_) (fun c_1 => ?_)
  · have hr := ifn hr c_1
    refine Ev.iload_n (pc := 28) dX7_askedInPart_28 rfl ?_
    refine Ev.bipush (pc := 29) (v := nI 70) dX7_askedInPart_29 (by decide) ?_
    refine Ev.icmpne (pc := 31) (tgt := 55) dX7_askedInPart_31 (by decide) (fun c_2 => ?_) (fun c_2 => ?_)
    · have hr := ifn hr c_2
      refine Ev.iload_n (pc := 55) dX7_askedInPart_55 rfl ?_
      refine Ev.bipush (pc := 56) (v := nI 76) dX7_askedInPart_56 (by decide) ?_
      refine Ev.icmpne (pc := 58) (tgt := 82) dX7_askedInPart_58 (by decide) (fun c_3 => ?_) (fun c_3 => ?_)
      · have hr := ifn hr c_3
        refine Ev.bipush (pc := 82) (v := (-9)) dX7_askedInPart_82 (by decide) ?_
        subst hr
        exact Ev.iret rfl rfl dX7_askedInPart_84 ⟨rfl, rfl⟩
      · have hr := ifp hr c_3
        refine Ev.aload_n (pc := 61) dX7_askedInPart_61 rfl ?_
        refine Ev.get (pc := 62) (C0 := RX7) (T := TX7) (N := 5) (fl_1_4 _ _ _ _) rfl inX7_askedInPart (by decide) lkX7_askedInPart_29 dX7_askedInPart_62 ?_
        refine Ev.iconst (pc := 65) (v := nI 4) dX7_askedInPart_65 (by decide) ?_
        refine Ev.icmpge (pc := 66) (tgt := 82) dX7_askedInPart_66 (by decide) (fun c_4 => ?_) (fun c_4 => ?_)
        · have hr := ifp hr c_4
          refine Ev.bipush (pc := 82) (v := (-9)) dX7_askedInPart_82 (by decide) ?_
          subst hr
          exact Ev.iret rfl rfl dX7_askedInPart_84 ⟨rfl, rfl⟩
        · have hr := ifn hr c_4
          refine Ev.aload_n (pc := 69) dX7_askedInPart_69 rfl ?_
          refine Ev.dup (pc := 70) dX7_askedInPart_70 rfl ?_
          refine Ev.get (pc := 71) (C0 := RX7) (T := TX7) (N := 5) (fl_1_4 _ _ _ _) rfl inX7_askedInPart (by decide) lkX7_askedInPart_29 dX7_askedInPart_71 ?_
          refine Ev.iconst (pc := 74) (v := nI 1) dX7_askedInPart_74 (by decide) ?_
          refine Ev.iadd (pc := 75) dX7_askedInPart_75 ?_
          refine Ev.put (pc := 76) (C0 := RX7) (T := TX7) (N := 5) (ty := .int) (pu_1_4 _ _ _ _ _) rfl inX7_askedInPart tyX7_ok nmX7 (by decide) lkX7_askedInPart_29 rfl (by decide +kernel) (fun _ => rfl) (fun _ => rfl) dX7_askedInPart_76 ?_
          refine Ev.bipush (pc := 79) (v := nI 18) dX7_askedInPart_79 (by decide) ?_
          subst hr
          exact Ev.iret rfl rfl dX7_askedInPart_81 ⟨rfl, rfl⟩
    · have hr := ifp hr c_2
      refine Ev.aload_n (pc := 34) dX7_askedInPart_34 rfl ?_
      refine Ev.get (pc := 35) (C0 := RX7) (T := TX7) (N := 5) (fl_1_3 _ _ _ _) rfl inX7_askedInPart (by decide) lkX7_askedInPart_26 dX7_askedInPart_35 ?_
      refine Ev.iconst (pc := 38) (v := nI 5) dX7_askedInPart_38 (by decide) ?_
      refine Ev.icmpge (pc := 39) (tgt := 55) dX7_askedInPart_39 (by decide) (fun c_5 => ?_) (fun c_5 => ?_)
      · have hr := ifp hr c_5
        refine Ev.iload_n (pc := 55) dX7_askedInPart_55 rfl ?_
        refine Ev.bipush (pc := 56) (v := nI 76) dX7_askedInPart_56 (by decide) ?_
        refine Ev.icmpne (pc := 58) (tgt := 82) dX7_askedInPart_58 (by decide) (fun c_6 => ?_) (fun c_6 => ?_)
        · have hr := ifn hr c_6
          refine Ev.bipush (pc := 82) (v := (-9)) dX7_askedInPart_82 (by decide) ?_
          subst hr
          exact Ev.iret rfl rfl dX7_askedInPart_84 ⟨rfl, rfl⟩
        · have hr := ifp hr c_6
          refine Ev.aload_n (pc := 61) dX7_askedInPart_61 rfl ?_
          refine Ev.get (pc := 62) (C0 := RX7) (T := TX7) (N := 5) (fl_1_4 _ _ _ _) rfl inX7_askedInPart (by decide) lkX7_askedInPart_29 dX7_askedInPart_62 ?_
          refine Ev.iconst (pc := 65) (v := nI 4) dX7_askedInPart_65 (by decide) ?_
          refine Ev.icmpge (pc := 66) (tgt := 82) dX7_askedInPart_66 (by decide) (fun c_7 => ?_) (fun c_7 => ?_)
          · have hr := ifp hr c_7
            refine Ev.bipush (pc := 82) (v := (-9)) dX7_askedInPart_82 (by decide) ?_
            subst hr
            exact Ev.iret rfl rfl dX7_askedInPart_84 ⟨rfl, rfl⟩
          · have hr := ifn hr c_7
            refine Ev.aload_n (pc := 69) dX7_askedInPart_69 rfl ?_
            refine Ev.dup (pc := 70) dX7_askedInPart_70 rfl ?_
            refine Ev.get (pc := 71) (C0 := RX7) (T := TX7) (N := 5) (fl_1_4 _ _ _ _) rfl inX7_askedInPart (by decide) lkX7_askedInPart_29 dX7_askedInPart_71 ?_
            refine Ev.iconst (pc := 74) (v := nI 1) dX7_askedInPart_74 (by decide) ?_
            refine Ev.iadd (pc := 75) dX7_askedInPart_75 ?_
            refine Ev.put (pc := 76) (C0 := RX7) (T := TX7) (N := 5) (ty := .int) (pu_1_4 _ _ _ _ _) rfl inX7_askedInPart tyX7_ok nmX7 (by decide) lkX7_askedInPart_29 rfl (by decide +kernel) (fun _ => rfl) (fun _ => rfl) dX7_askedInPart_76 ?_
            refine Ev.bipush (pc := 79) (v := nI 18) dX7_askedInPart_79 (by decide) ?_
            subst hr
            exact Ev.iret rfl rfl dX7_askedInPart_81 ⟨rfl, rfl⟩
      · have hr := ifn hr c_5
        refine Ev.aload_n (pc := 42) dX7_askedInPart_42 rfl ?_
        refine Ev.dup (pc := 43) dX7_askedInPart_43 rfl ?_
        refine Ev.get (pc := 44) (C0 := RX7) (T := TX7) (N := 5) (fl_1_3 _ _ _ _) rfl inX7_askedInPart (by decide) lkX7_askedInPart_26 dX7_askedInPart_44 ?_
        refine Ev.iconst (pc := 47) (v := nI 1) dX7_askedInPart_47 (by decide) ?_
        refine Ev.iadd (pc := 48) dX7_askedInPart_48 ?_
        refine Ev.put (pc := 49) (C0 := RX7) (T := TX7) (N := 5) (ty := .int) (pu_1_3 _ _ _ _ _) rfl inX7_askedInPart tyX7_ok nmX7 (by decide) lkX7_askedInPart_26 rfl (by decide +kernel) (fun _ => rfl) (fun _ => rfl) dX7_askedInPart_49 ?_
        refine Ev.bipush (pc := 52) (v := nI 15) dX7_askedInPart_52 (by decide) ?_
        subst hr
        exact Ev.iret rfl rfl dX7_askedInPart_54 ⟨rfl, rfl⟩
  · have hr := ifp hr c_1
    refine Ev.aload_n (pc := 6) dX7_askedInPart_6 rfl ?_
    refine Ev.get (pc := 7) (C0 := RX7) (T := TX7) (N := 5) (fl_1_2 _ _ _ _) rfl inX7_askedInPart (by decide) lkX7_askedInPart_23 dX7_askedInPart_7 ?_
    refine Ev.bipush (pc := 10) (v := nI 6) dX7_askedInPart_10 (by decide) ?_
    refine Ev.icmpge (pc := 12) (tgt := 28) dX7_askedInPart_12 (by decide) (fun c_8 => ?_) (fun c_8 => ?_)
    · have hr := ifp hr c_8
      refine Ev.iload_n (pc := 28) dX7_askedInPart_28 rfl ?_
      refine Ev.bipush (pc := 29) (v := nI 70) dX7_askedInPart_29 (by decide) ?_
      refine Ev.icmpne (pc := 31) (tgt := 55) dX7_askedInPart_31 (by decide) (fun c_9 => ?_) (fun c_9 => ?_)
      · have hr := ifn hr c_9
        refine Ev.iload_n (pc := 55) dX7_askedInPart_55 rfl ?_
        refine Ev.bipush (pc := 56) (v := nI 76) dX7_askedInPart_56 (by decide) ?_
        refine Ev.icmpne (pc := 58) (tgt := 82) dX7_askedInPart_58 (by decide) (fun c_10 => ?_) (fun c_10 => ?_)
        · have hr := ifn hr c_10
          refine Ev.bipush (pc := 82) (v := (-9)) dX7_askedInPart_82 (by decide) ?_
          subst hr
          exact Ev.iret rfl rfl dX7_askedInPart_84 ⟨rfl, rfl⟩
        · have hr := ifp hr c_10
          refine Ev.aload_n (pc := 61) dX7_askedInPart_61 rfl ?_
          refine Ev.get (pc := 62) (C0 := RX7) (T := TX7) (N := 5) (fl_1_4 _ _ _ _) rfl inX7_askedInPart (by decide) lkX7_askedInPart_29 dX7_askedInPart_62 ?_
          refine Ev.iconst (pc := 65) (v := nI 4) dX7_askedInPart_65 (by decide) ?_
          refine Ev.icmpge (pc := 66) (tgt := 82) dX7_askedInPart_66 (by decide) (fun c_11 => ?_) (fun c_11 => ?_)
          · have hr := ifp hr c_11
            refine Ev.bipush (pc := 82) (v := (-9)) dX7_askedInPart_82 (by decide) ?_
            subst hr
            exact Ev.iret rfl rfl dX7_askedInPart_84 ⟨rfl, rfl⟩
          · have hr := ifn hr c_11
            refine Ev.aload_n (pc := 69) dX7_askedInPart_69 rfl ?_
            refine Ev.dup (pc := 70) dX7_askedInPart_70 rfl ?_
            refine Ev.get (pc := 71) (C0 := RX7) (T := TX7) (N := 5) (fl_1_4 _ _ _ _) rfl inX7_askedInPart (by decide) lkX7_askedInPart_29 dX7_askedInPart_71 ?_
            refine Ev.iconst (pc := 74) (v := nI 1) dX7_askedInPart_74 (by decide) ?_
            refine Ev.iadd (pc := 75) dX7_askedInPart_75 ?_
            refine Ev.put (pc := 76) (C0 := RX7) (T := TX7) (N := 5) (ty := .int) (pu_1_4 _ _ _ _ _) rfl inX7_askedInPart tyX7_ok nmX7 (by decide) lkX7_askedInPart_29 rfl (by decide +kernel) (fun _ => rfl) (fun _ => rfl) dX7_askedInPart_76 ?_
            refine Ev.bipush (pc := 79) (v := nI 18) dX7_askedInPart_79 (by decide) ?_
            subst hr
            exact Ev.iret rfl rfl dX7_askedInPart_81 ⟨rfl, rfl⟩
      · have hr := ifp hr c_9
        refine Ev.aload_n (pc := 34) dX7_askedInPart_34 rfl ?_
        refine Ev.get (pc := 35) (C0 := RX7) (T := TX7) (N := 5) (fl_1_3 _ _ _ _) rfl inX7_askedInPart (by decide) lkX7_askedInPart_26 dX7_askedInPart_35 ?_
        refine Ev.iconst (pc := 38) (v := nI 5) dX7_askedInPart_38 (by decide) ?_
        refine Ev.icmpge (pc := 39) (tgt := 55) dX7_askedInPart_39 (by decide) (fun c_12 => ?_) (fun c_12 => ?_)
        · have hr := ifp hr c_12
          refine Ev.iload_n (pc := 55) dX7_askedInPart_55 rfl ?_
          refine Ev.bipush (pc := 56) (v := nI 76) dX7_askedInPart_56 (by decide) ?_
          refine Ev.icmpne (pc := 58) (tgt := 82) dX7_askedInPart_58 (by decide) (fun c_13 => ?_) (fun c_13 => ?_)
          · have hr := ifn hr c_13
            refine Ev.bipush (pc := 82) (v := (-9)) dX7_askedInPart_82 (by decide) ?_
            subst hr
            exact Ev.iret rfl rfl dX7_askedInPart_84 ⟨rfl, rfl⟩
          · have hr := ifp hr c_13
            refine Ev.aload_n (pc := 61) dX7_askedInPart_61 rfl ?_
            refine Ev.get (pc := 62) (C0 := RX7) (T := TX7) (N := 5) (fl_1_4 _ _ _ _) rfl inX7_askedInPart (by decide) lkX7_askedInPart_29 dX7_askedInPart_62 ?_
            refine Ev.iconst (pc := 65) (v := nI 4) dX7_askedInPart_65 (by decide) ?_
            refine Ev.icmpge (pc := 66) (tgt := 82) dX7_askedInPart_66 (by decide) (fun c_14 => ?_) (fun c_14 => ?_)
            · have hr := ifp hr c_14
              refine Ev.bipush (pc := 82) (v := (-9)) dX7_askedInPart_82 (by decide) ?_
              subst hr
              exact Ev.iret rfl rfl dX7_askedInPart_84 ⟨rfl, rfl⟩
            · have hr := ifn hr c_14
              refine Ev.aload_n (pc := 69) dX7_askedInPart_69 rfl ?_
              refine Ev.dup (pc := 70) dX7_askedInPart_70 rfl ?_
              refine Ev.get (pc := 71) (C0 := RX7) (T := TX7) (N := 5) (fl_1_4 _ _ _ _) rfl inX7_askedInPart (by decide) lkX7_askedInPart_29 dX7_askedInPart_71 ?_
              refine Ev.iconst (pc := 74) (v := nI 1) dX7_askedInPart_74 (by decide) ?_
              refine Ev.iadd (pc := 75) dX7_askedInPart_75 ?_
              refine Ev.put (pc := 76) (C0 := RX7) (T := TX7) (N := 5) (ty := .int) (pu_1_4 _ _ _ _ _) rfl inX7_askedInPart tyX7_ok nmX7 (by decide) lkX7_askedInPart_29 rfl (by decide +kernel) (fun _ => rfl) (fun _ => rfl) dX7_askedInPart_76 ?_
              refine Ev.bipush (pc := 79) (v := nI 18) dX7_askedInPart_79 (by decide) ?_
              subst hr
              exact Ev.iret rfl rfl dX7_askedInPart_81 ⟨rfl, rfl⟩
        · have hr := ifn hr c_12
          refine Ev.aload_n (pc := 42) dX7_askedInPart_42 rfl ?_
          refine Ev.dup (pc := 43) dX7_askedInPart_43 rfl ?_
          refine Ev.get (pc := 44) (C0 := RX7) (T := TX7) (N := 5) (fl_1_3 _ _ _ _) rfl inX7_askedInPart (by decide) lkX7_askedInPart_26 dX7_askedInPart_44 ?_
          refine Ev.iconst (pc := 47) (v := nI 1) dX7_askedInPart_47 (by decide) ?_
          refine Ev.iadd (pc := 48) dX7_askedInPart_48 ?_
          refine Ev.put (pc := 49) (C0 := RX7) (T := TX7) (N := 5) (ty := .int) (pu_1_3 _ _ _ _ _) rfl inX7_askedInPart tyX7_ok nmX7 (by decide) lkX7_askedInPart_26 rfl (by decide +kernel) (fun _ => rfl) (fun _ => rfl) dX7_askedInPart_49 ?_
          refine Ev.bipush (pc := 52) (v := nI 15) dX7_askedInPart_52 (by decide) ?_
          subst hr
          exact Ev.iret rfl rfl dX7_askedInPart_54 ⟨rfl, rfl⟩
    · have hr := ifn hr c_8
      refine Ev.aload_n (pc := 15) dX7_askedInPart_15 rfl ?_
      refine Ev.dup (pc := 16) dX7_askedInPart_16 rfl ?_
      refine Ev.get (pc := 17) (C0 := RX7) (T := TX7) (N := 5) (fl_1_2 _ _ _ _) rfl inX7_askedInPart (by decide) lkX7_askedInPart_23 dX7_askedInPart_17 ?_
      refine Ev.iconst (pc := 20) (v := nI 1) dX7_askedInPart_20 (by decide) ?_
      refine Ev.iadd (pc := 21) dX7_askedInPart_21 ?_
      refine Ev.put (pc := 22) (C0 := RX7) (T := TX7) (N := 5) (ty := .int) (pu_1_2 _ _ _ _ _) rfl inX7_askedInPart tyX7_ok nmX7 (by decide) lkX7_askedInPart_23 rfl (by decide +kernel) (fun _ => rfl) (fun _ => rfl) dX7_askedInPart_22 ?_
      refine Ev.bipush (pc := 25) (v := nI 14) dX7_askedInPart_25 (by decide) ?_
      subst hr
      exact Ev.iret rfl rfl dX7_askedInPart_27 ⟨rfl, rfl⟩
/-! X7_fits -/
def sX7_fits (a1 : Int32) (a2 : Int32) : Bool := if a1 ≤ (nI 12) then ((sX8_within a2 (nI 48) (nI 57))) else (if a1 = (nI 14) then ((sX8_within a2 (nI 48) (nI 57))) else (if a1 = (nI 16) then ((sX8_within a2 (nI 49) (nI 57))) else (if a1 = (nI 15) then ((sX8_within a2 (nI 97) (nI 108))) else (if a1 = (nI 18) then ((sX8_within a2 (nI 97) (nI 108))) else ((sX8_within a2 (nI 48) (nI 51)))))))
set_option maxRecDepth 20000 in
set_option maxHeartbeats 1000000 in
theorem kX7_fits (g : Hg) (q : Int64) (g2 : Hg) (q2 : Int64) (a1 : Int32) (a2 : Int32) : CtI MX7_fits [.int a1, .int a2] (g, q, g2, q2) (fun x h' => x = bI ((sX7_fits a1 a2)) ∧ h' = (g, q, g2, q2)) := by
  generalize hr : sX7_fits a1 a2 = r
  unfold sX7_fits at hr
  refine CtI_L 0 rfl (by decide +kernel) rfl (Nat.le_of_ble_eq_true rfl) ?_
  show Ev _ _ 0 [some (.int a1), some (.int a2)] [] _
  refine Ev.iload_n (pc := 0) dX7_fits_0 rfl ?_
  refine Ev.bipush (pc := 1) (v := nI 12) dX7_fits_1 (by decide) ?_
  refine Ev.icmple (pc := 3) (tgt := 12) dX7_fits_3 (by decide) (fun c_1 => ?_) (fun c_1 => ?_)
  · have hr := ifp hr c_1
    refine Ev.iload_n (pc := 12) dX7_fits_12 rfl ?_
    refine Ev.bipush (pc := 13) (v := nI 48) dX7_fits_13 (by decide) ?_
    refine Ev.bipush (pc := 15) (v := nI 57) dX7_fits_15 (by decide) ?_
    refine Ev.cNi (pc := 17) (As := [.int _, .int _, .int _]) (kX8_within _ _ _ _ _ _ _) rfl gX7_fits_X8_within_n19 (by decide +kernel) stX7_fits_X8_within iniX7_fits_X8_within hdX8_within rfl ⟨rfl, rfl⟩ ⟨Nat.le_of_ble_eq_true rfl, Nat.le_of_ble_eq_true rfl⟩ (Nat.le_of_ble_eq_true rfl) ⟨Nat.le_of_ble_eq_true rfl, Nat.le_of_ble_eq_true rfl⟩ dX7_fits_17 ?_
    subst hr
    exact Ev.iret rfl (bI_nar _) dX7_fits_20 ⟨rfl, rfl⟩
  · have hr := ifn hr c_1
    refine Ev.iload_n (pc := 6) dX7_fits_6 rfl ?_
    refine Ev.bipush (pc := 7) (v := nI 14) dX7_fits_7 (by decide) ?_
    refine Ev.icmpne (pc := 9) (tgt := 21) dX7_fits_9 (by decide) (fun c_2 => ?_) (fun c_2 => ?_)
    · have hr := ifn hr c_2
      refine Ev.iload_n (pc := 21) dX7_fits_21 rfl ?_
      refine Ev.bipush (pc := 22) (v := nI 16) dX7_fits_22 (by decide) ?_
      refine Ev.icmpne (pc := 24) (tgt := 36) dX7_fits_24 (by decide) (fun c_3 => ?_) (fun c_3 => ?_)
      · have hr := ifn hr c_3
        refine Ev.iload_n (pc := 36) dX7_fits_36 rfl ?_
        refine Ev.bipush (pc := 37) (v := nI 15) dX7_fits_37 (by decide) ?_
        refine Ev.icmpeq (pc := 39) (tgt := 48) dX7_fits_39 (by decide) (fun c_4 => ?_) (fun c_4 => ?_)
        · have hr := ifp hr c_4
          refine Ev.iload_n (pc := 48) dX7_fits_48 rfl ?_
          refine Ev.bipush (pc := 49) (v := nI 97) dX7_fits_49 (by decide) ?_
          refine Ev.bipush (pc := 51) (v := nI 108) dX7_fits_51 (by decide) ?_
          refine Ev.cNi (pc := 53) (As := [.int _, .int _, .int _]) (kX8_within _ _ _ _ _ _ _) rfl gX7_fits_X8_within_n19 (by decide +kernel) stX7_fits_X8_within iniX7_fits_X8_within hdX8_within rfl ⟨rfl, rfl⟩ ⟨Nat.le_of_ble_eq_true rfl, Nat.le_of_ble_eq_true rfl⟩ (Nat.le_of_ble_eq_true rfl) ⟨Nat.le_of_ble_eq_true rfl, Nat.le_of_ble_eq_true rfl⟩ dX7_fits_53 ?_
          subst hr
          exact Ev.iret rfl (bI_nar _) dX7_fits_56 ⟨rfl, rfl⟩
        · have hr := ifn hr c_4
          refine Ev.iload_n (pc := 42) dX7_fits_42 rfl ?_
          refine Ev.bipush (pc := 43) (v := nI 18) dX7_fits_43 (by decide) ?_
          refine Ev.icmpne (pc := 45) (tgt := 57) dX7_fits_45 (by decide) (fun c_5 => ?_) (fun c_5 => ?_)
          · have hr := ifn hr c_5
            refine Ev.iload_n (pc := 57) dX7_fits_57 rfl ?_
            refine Ev.bipush (pc := 58) (v := nI 48) dX7_fits_58 (by decide) ?_
            refine Ev.bipush (pc := 60) (v := nI 51) dX7_fits_60 (by decide) ?_
            refine Ev.cNi (pc := 62) (As := [.int _, .int _, .int _]) (kX8_within _ _ _ _ _ _ _) rfl gX7_fits_X8_within_n19 (by decide +kernel) stX7_fits_X8_within iniX7_fits_X8_within hdX8_within rfl ⟨rfl, rfl⟩ ⟨Nat.le_of_ble_eq_true rfl, Nat.le_of_ble_eq_true rfl⟩ (Nat.le_of_ble_eq_true rfl) ⟨Nat.le_of_ble_eq_true rfl, Nat.le_of_ble_eq_true rfl⟩ dX7_fits_62 ?_
            subst hr
            exact Ev.iret rfl (bI_nar _) dX7_fits_65 ⟨rfl, rfl⟩
          · have hr := ifp hr c_5
            refine Ev.iload_n (pc := 48) dX7_fits_48 rfl ?_
            refine Ev.bipush (pc := 49) (v := nI 97) dX7_fits_49 (by decide) ?_
            refine Ev.bipush (pc := 51) (v := nI 108) dX7_fits_51 (by decide) ?_
            refine Ev.cNi (pc := 53) (As := [.int _, .int _, .int _]) (kX8_within _ _ _ _ _ _ _) rfl gX7_fits_X8_within_n19 (by decide +kernel) stX7_fits_X8_within iniX7_fits_X8_within hdX8_within rfl ⟨rfl, rfl⟩ ⟨Nat.le_of_ble_eq_true rfl, Nat.le_of_ble_eq_true rfl⟩ (Nat.le_of_ble_eq_true rfl) ⟨Nat.le_of_ble_eq_true rfl, Nat.le_of_ble_eq_true rfl⟩ dX7_fits_53 ?_
            subst hr
            exact Ev.iret rfl (bI_nar _) dX7_fits_56 ⟨rfl, rfl⟩
      · have hr := ifp hr c_3
        refine Ev.iload_n (pc := 27) dX7_fits_27 rfl ?_
        refine Ev.bipush (pc := 28) (v := nI 49) dX7_fits_28 (by decide) ?_
        refine Ev.bipush (pc := 30) (v := nI 57) dX7_fits_30 (by decide) ?_
        refine Ev.cNi (pc := 32) (As := [.int _, .int _, .int _]) (kX8_within _ _ _ _ _ _ _) rfl gX7_fits_X8_within_n19 (by decide +kernel) stX7_fits_X8_within iniX7_fits_X8_within hdX8_within rfl ⟨rfl, rfl⟩ ⟨Nat.le_of_ble_eq_true rfl, Nat.le_of_ble_eq_true rfl⟩ (Nat.le_of_ble_eq_true rfl) ⟨Nat.le_of_ble_eq_true rfl, Nat.le_of_ble_eq_true rfl⟩ dX7_fits_32 ?_
        subst hr
        exact Ev.iret rfl (bI_nar _) dX7_fits_35 ⟨rfl, rfl⟩
    · have hr := ifp hr c_2
      refine Ev.iload_n (pc := 12) dX7_fits_12 rfl ?_
      refine Ev.bipush (pc := 13) (v := nI 48) dX7_fits_13 (by decide) ?_
      refine Ev.bipush (pc := 15) (v := nI 57) dX7_fits_15 (by decide) ?_
      refine Ev.cNi (pc := 17) (As := [.int _, .int _, .int _]) (kX8_within _ _ _ _ _ _ _) rfl gX7_fits_X8_within_n19 (by decide +kernel) stX7_fits_X8_within iniX7_fits_X8_within hdX8_within rfl ⟨rfl, rfl⟩ ⟨Nat.le_of_ble_eq_true rfl, Nat.le_of_ble_eq_true rfl⟩ (Nat.le_of_ble_eq_true rfl) ⟨Nat.le_of_ble_eq_true rfl, Nat.le_of_ble_eq_true rfl⟩ dX7_fits_17 ?_
      subst hr
      exact Ev.iret rfl (bI_nar _) dX7_fits_20 ⟨rfl, rfl⟩
/-! X7_askedBehind -/
def sX7_askedBehind (g : Hg) (a1 : Int32) (a2 : Int32) : Int32 × Hg := if a1 = 0 then (if a2 = (nI 77) then ((a1 + (nI 1), g)) else (((-9), g))) else (if a1 = (nI 13) then (((sX7_askedInPart g a2).1, (sX7_askedInPart g a2).2)) else (if (sX7_fits a1 a2) = true then (if a1 = (nI 14) then ((nI 13, g)) else (if a1 = (nI 17) then ((nI 13, g)) else (if a1 = (nI 19) then ((nI 13, g)) else ((a1 + (nI 1), g))))) else (((-9), g))))
set_option maxRecDepth 20000 in
set_option maxHeartbeats 1000000 in
theorem kX7_askedBehind (g : Hg) (q : Int64) (g2 : Hg) (q2 : Int64) (a1 : Int32) (a2 : Int32) : CtI MX7_askedBehind [.ref 1, .int a1, .int a2] (g, q, g2, q2) (fun x h' => x = (sX7_askedBehind g a1 a2).1 ∧ h' = ((sX7_askedBehind g a1 a2).2, q, g2, q2)) := by
  generalize hr : sX7_askedBehind g a1 a2 = r
  unfold sX7_askedBehind at hr
  refine CtI_L 1 rfl (by decide +kernel) rfl (Nat.le_of_ble_eq_true rfl) ?_
  show Ev _ _ 0 [some (.ref 1), some (.int a1), some (.int a2), none] [] _
  refine Ev.iload_n (pc := 0) dX7_askedBehind_0 rfl ?_
  refine Ev.ifne (pc := 1) (tgt := 19) dX7_askedBehind_1 (by decide) (fun c_1 => ?_) (fun c_1 => ?_)
  · have hr := ifn hr c_1
    refine Ev.iload_n (pc := 19) dX7_askedBehind_19 rfl ?_
    refine Ev.bipush (pc := 20) (v := nI 13) dX7_askedBehind_20 (by decide) ?_
    refine Ev.icmpne (pc := 22) (tgt := 31) dX7_askedBehind_22 (by decide) (fun c_2 => ?_) (fun c_2 => ?_)
    · have hr := ifn hr c_2
      refine Ev.iload_n (pc := 31) dX7_askedBehind_31 rfl ?_
      refine Ev.iload_n (pc := 32) dX7_askedBehind_32 rfl ?_
      refine Ev.cSi (pc := 33) (As := [.int _, .int _]) (kX7_fits _ _ _ _ _ _) rfl gX7_askedBehind_X7_fits hdX7_fits rfl ⟨rfl, rfl⟩ ⟨Nat.le_of_ble_eq_true rfl, Nat.le_of_ble_eq_true rfl⟩ (Nat.le_of_ble_eq_true rfl) ⟨Nat.le_of_ble_eq_true rfl, Nat.le_of_ble_eq_true rfl⟩ dX7_askedBehind_33 ?_
      refine Ev.ifneB (pc := 36) (tgt := 42) dX7_askedBehind_36 (by decide) (fun c_3 => ?_) (fun c_3 => ?_)
      · have hr := ifp hr c_3
        refine Ev.iload_n (pc := 42) dX7_askedBehind_42 rfl ?_
        refine Ev.bipush (pc := 43) (v := nI 14) dX7_askedBehind_43 (by decide) ?_
        refine Ev.icmpeq (pc := 45) (tgt := 60) dX7_askedBehind_45 (by decide) (fun c_4 => ?_) (fun c_4 => ?_)
        · have hr := ifp hr c_4
          refine Ev.iconst (pc := 60) (v := nI 1) dX7_askedBehind_60 (by decide) ?_
          refine Ev.goto (pc := 61) (tgt := 65) dX7_askedBehind_61 (by decide) ?_
          refine Ev.istore_n (pc := 65) dX7_askedBehind_65 rfl rfl ?_
          refine Ev.iload_n (pc := 66) dX7_askedBehind_66 rfl ?_
          refine Ev.ifeq (pc := 67) (tgt := 75) dX7_askedBehind_67 (by decide) (fun c_5 => ?_) (fun c_5 => ?_)
          · exact absurd c_5 (by decide)
          · refine Ev.bipush (pc := 70) (v := nI 13) dX7_askedBehind_70 (by decide) ?_
            refine Ev.goto (pc := 72) (tgt := 78) dX7_askedBehind_72 (by decide) ?_
            subst hr
            exact Ev.iret rfl rfl dX7_askedBehind_78 ⟨rfl, rfl⟩
        · have hr := ifn hr c_4
          refine Ev.iload_n (pc := 48) dX7_askedBehind_48 rfl ?_
          refine Ev.bipush (pc := 49) (v := nI 17) dX7_askedBehind_49 (by decide) ?_
          refine Ev.icmpeq (pc := 51) (tgt := 60) dX7_askedBehind_51 (by decide) (fun c_6 => ?_) (fun c_6 => ?_)
          · have hr := ifp hr c_6
            refine Ev.iconst (pc := 60) (v := nI 1) dX7_askedBehind_60 (by decide) ?_
            refine Ev.goto (pc := 61) (tgt := 65) dX7_askedBehind_61 (by decide) ?_
            refine Ev.istore_n (pc := 65) dX7_askedBehind_65 rfl rfl ?_
            refine Ev.iload_n (pc := 66) dX7_askedBehind_66 rfl ?_
            refine Ev.ifeq (pc := 67) (tgt := 75) dX7_askedBehind_67 (by decide) (fun c_7 => ?_) (fun c_7 => ?_)
            · exact absurd c_7 (by decide)
            · refine Ev.bipush (pc := 70) (v := nI 13) dX7_askedBehind_70 (by decide) ?_
              refine Ev.goto (pc := 72) (tgt := 78) dX7_askedBehind_72 (by decide) ?_
              subst hr
              exact Ev.iret rfl rfl dX7_askedBehind_78 ⟨rfl, rfl⟩
          · have hr := ifn hr c_6
            refine Ev.iload_n (pc := 54) dX7_askedBehind_54 rfl ?_
            refine Ev.bipush (pc := 55) (v := nI 19) dX7_askedBehind_55 (by decide) ?_
            refine Ev.icmpne (pc := 57) (tgt := 64) dX7_askedBehind_57 (by decide) (fun c_8 => ?_) (fun c_8 => ?_)
            · have hr := ifn hr c_8
              refine Ev.iconst (pc := 64) (v := nI 0) dX7_askedBehind_64 (by decide) ?_
              refine Ev.istore_n (pc := 65) dX7_askedBehind_65 rfl rfl ?_
              refine Ev.iload_n (pc := 66) dX7_askedBehind_66 rfl ?_
              refine Ev.ifeq (pc := 67) (tgt := 75) dX7_askedBehind_67 (by decide) (fun c_9 => ?_) (fun c_9 => ?_)
              · refine Ev.iload_n (pc := 75) dX7_askedBehind_75 rfl ?_
                refine Ev.iconst (pc := 76) (v := nI 1) dX7_askedBehind_76 (by decide) ?_
                refine Ev.iadd (pc := 77) dX7_askedBehind_77 ?_
                subst hr
                exact Ev.iret rfl rfl dX7_askedBehind_78 ⟨rfl, rfl⟩
              · exact absurd c_9 (by decide)
            · have hr := ifp hr c_8
              refine Ev.iconst (pc := 60) (v := nI 1) dX7_askedBehind_60 (by decide) ?_
              refine Ev.goto (pc := 61) (tgt := 65) dX7_askedBehind_61 (by decide) ?_
              refine Ev.istore_n (pc := 65) dX7_askedBehind_65 rfl rfl ?_
              refine Ev.iload_n (pc := 66) dX7_askedBehind_66 rfl ?_
              refine Ev.ifeq (pc := 67) (tgt := 75) dX7_askedBehind_67 (by decide) (fun c_10 => ?_) (fun c_10 => ?_)
              · exact absurd c_10 (by decide)
              · refine Ev.bipush (pc := 70) (v := nI 13) dX7_askedBehind_70 (by decide) ?_
                refine Ev.goto (pc := 72) (tgt := 78) dX7_askedBehind_72 (by decide) ?_
                subst hr
                exact Ev.iret rfl rfl dX7_askedBehind_78 ⟨rfl, rfl⟩
      · have hr := ifn hr (ntr c_3)
        refine Ev.bipush (pc := 39) (v := (-9)) dX7_askedBehind_39 (by decide) ?_
        subst hr
        exact Ev.iret rfl rfl dX7_askedBehind_41 ⟨rfl, rfl⟩
    · have hr := ifp hr c_2
      refine Ev.aload_n (pc := 25) dX7_askedBehind_25 rfl ?_
      refine Ev.iload_n (pc := 26) dX7_askedBehind_26 rfl ?_
      refine Ev.cVi (pc := 27) (As := [.int _]) (kX7_askedInPart _ _ _ _ _) rfl rfl (ob_1 _) gX7_askedBehind_X7_askedInPart hdX7_askedInPart rfl ⟨rfl, rfl⟩ ⟨Nat.le_of_ble_eq_true rfl, Nat.le_of_ble_eq_true rfl⟩ (Nat.le_of_ble_eq_true rfl) ⟨Nat.le_of_ble_eq_true rfl, Nat.le_of_ble_eq_true rfl⟩ dX7_askedBehind_27 ?_
      subst hr
      exact Ev.iret rfl rfl dX7_askedBehind_30 ⟨rfl, rfl⟩
  · have hr := ifp hr c_1
    refine Ev.iload_n (pc := 4) dX7_askedBehind_4 rfl ?_
    refine Ev.bipush (pc := 5) (v := nI 77) dX7_askedBehind_5 (by decide) ?_
    refine Ev.icmpne (pc := 7) (tgt := 16) dX7_askedBehind_7 (by decide) (fun c_11 => ?_) (fun c_11 => ?_)
    · have hr := ifn hr c_11
      refine Ev.bipush (pc := 16) (v := (-9)) dX7_askedBehind_16 (by decide) ?_
      subst hr
      exact Ev.iret rfl rfl dX7_askedBehind_18 ⟨rfl, rfl⟩
    · have hr := ifp hr c_11
      refine Ev.iload_n (pc := 10) dX7_askedBehind_10 rfl ?_
      refine Ev.iconst (pc := 11) (v := nI 1) dX7_askedBehind_11 (by decide) ?_
      refine Ev.iadd (pc := 12) dX7_askedBehind_12 ?_
      refine Ev.goto (pc := 13) (tgt := 18) dX7_askedBehind_13 (by decide) ?_
      subst hr
      exact Ev.iret rfl rfl dX7_askedBehind_18 ⟨rfl, rfl⟩
/-! X7_firstFault -/
def sX7_firstFault_19  : Nat → Hg → Int32 → Int32 → Option (Int32 × Hg)
  | 0, _, _, _ => none
  | n + 1, g, v1, v2 => if (g 1 1) ≤ v2 then (if v1 = (nI 13) then (some ((-9), g)) else (some (g 1 1, g))) else ((sX7_letterAt g v2).bind fun x_1 => (if ((sX7_askedBehind g v1 x_1).1) = ((-9)) then (some (v2, (sX7_askedBehind g v1 x_1).2)) else (sX7_firstFault_19 n ((sX7_askedBehind g v1 x_1).2) ((sX7_askedBehind g v1 x_1).1) (v2 + (nI 1)))))
set_option maxRecDepth 20000 in
set_option maxHeartbeats 1000000 in
theorem kX7_firstFault_19 (q : Int64) (g2 : Hg) (q2 : Int64)   (r : Int32 × Hg) : ∀ (n : Nat) (g : Hg) (v1 : Int32) (v2 : Int32), sX7_firstFault_19 n g v1 v2 = some r → Ev (Xi (fun x h' => x = r.1 ∧ h' = (r.2, q, g2, q2))) MX7_firstFault 19 [some (.ref 1), some (.int v1), some (.int v2)] [] (g, q, g2, q2) := by
  intro n
  induction n with
  | zero => intro _ _ _ hr; cases hr
  | succ n ih =>
    intro g v1 v2 hr
    rw [sX7_firstFault_19] at hr
    refine Ev.iload_n (pc := 19) dX7_firstFault_19 rfl ?_
    refine Ev.aload_n (pc := 20) dX7_firstFault_20 rfl ?_
    refine Ev.get (pc := 21) (C0 := RX7) (T := TX7) (N := 5) (fl_1_1 _ _ _ _) rfl inX7_firstFault (by decide) lkX7_firstFault_15 dX7_firstFault_21 ?_
    refine Ev.icmpge (pc := 24) (tgt := 52) dX7_firstFault_24 (by decide) (fun c_1 => ?_) (fun c_1 => ?_)
    · have hr := ifp hr c_1
      refine Ev.iload_n (pc := 52) dX7_firstFault_52 rfl ?_
      refine Ev.bipush (pc := 53) (v := nI 13) dX7_firstFault_53 (by decide) ?_
      refine Ev.icmpne (pc := 55) (tgt := 63) dX7_firstFault_55 (by decide) (fun c_2 => ?_) (fun c_2 => ?_)
      · have hr := ifn hr c_2
        refine Ev.aload_n (pc := 63) dX7_firstFault_63 rfl ?_
        refine Ev.get (pc := 64) (C0 := RX7) (T := TX7) (N := 5) (fl_1_1 _ _ _ _) rfl inX7_firstFault (by decide) lkX7_firstFault_15 dX7_firstFault_64 ?_
        cases hr
        exact Ev.iret rfl rfl dX7_firstFault_67 ⟨rfl, rfl⟩
      · have hr := ifp hr c_2
        refine Ev.bipush (pc := 58) (v := (-9)) dX7_firstFault_58 (by decide) ?_
        refine Ev.goto (pc := 60) (tgt := 67) dX7_firstFault_60 (by decide) ?_
        cases hr
        exact Ev.iret rfl rfl dX7_firstFault_67 ⟨rfl, rfl⟩
    · have hr := ifn hr c_1
      refine Ev.aload_n (pc := 27) dX7_firstFault_27 rfl ?_
      refine Ev.iload_n (pc := 28) dX7_firstFault_28 rfl ?_
      refine Ev.aload_n (pc := 29) dX7_firstFault_29 rfl ?_
      refine Ev.iload_n (pc := 30) dX7_firstFault_30 rfl ?_
      obtain ⟨x_1, hx_1, hr⟩ := Option.bind_eq_some_iff.mp hr
      refine Ev.cVi (pc := 31) (As := [.int _]) (kX7_letterAt _ _ _ _ _ hx_1) rfl rfl (ob_1 _) gX7_firstFault_X7_letterAt hdX7_letterAt rfl ⟨rfl, rfl⟩ ⟨Nat.le_of_ble_eq_true rfl, Nat.le_of_ble_eq_true rfl⟩ (Nat.le_of_ble_eq_true rfl) ⟨Nat.le_of_ble_eq_true rfl, Nat.le_of_ble_eq_true rfl⟩ dX7_firstFault_31 ?_
      refine Ev.cVi (pc := 34) (As := [.int _, .int _]) (kX7_askedBehind _ _ _ _ _ _) rfl rfl (ob_1 _) gX7_firstFault_X7_askedBehind hdX7_askedBehind rfl ⟨rfl, rfl⟩ ⟨Nat.le_of_ble_eq_true rfl, Nat.le_of_ble_eq_true rfl⟩ (Nat.le_of_ble_eq_true rfl) ⟨Nat.le_of_ble_eq_true rfl, Nat.le_of_ble_eq_true rfl⟩ dX7_firstFault_34 ?_
      refine Ev.istore_n (pc := 37) dX7_firstFault_37 rfl rfl ?_
      refine Ev.iload_n (pc := 38) dX7_firstFault_38 rfl ?_
      refine Ev.bipush (pc := 39) (v := (-9)) dX7_firstFault_39 (by decide) ?_
      refine Ev.icmpne (pc := 41) (tgt := 46) dX7_firstFault_41 (by decide) (fun c_3 => ?_) (fun c_3 => ?_)
      · have hr := ifn hr c_3
        refine Ev.iinc (pc := 46) (v := nI 1) dX7_firstFault_46 rfl rfl rfl rfl ?_
        refine Ev.goto (pc := 49) (tgt := 19) dX7_firstFault_49 (by decide) ?_
        exact ih _ _ _ hr
      · have hr := ifp hr c_3
        refine Ev.iload_n (pc := 44) dX7_firstFault_44 rfl ?_
        cases hr
        exact Ev.iret rfl rfl dX7_firstFault_45 ⟨rfl, rfl⟩
def sX7_firstFault (g : Hg) : Option (Int32 × Hg) := sX7_firstFault_19 100 (stA (stA (stA g 1 2 (nI 0)) 1 3 (nI 0)) 1 4 (nI 0)) (nI 0) (nI 0)
set_option maxRecDepth 20000 in
set_option maxHeartbeats 1000000 in
theorem kX7_firstFault (g : Hg) (q : Int64) (g2 : Hg) (q2 : Int64) {r : Int32 × Hg} (hr : sX7_firstFault g = some r) : CtI MX7_firstFault [.ref 1] (g, q, g2, q2) (fun x h' => x = r.1 ∧ h' = (r.2, q, g2, q2)) := by
  unfold sX7_firstFault at hr
  refine CtI_L 2 rfl (by decide +kernel) rfl (Nat.le_of_ble_eq_true rfl) ?_
  show Ev _ _ 0 [some (.ref 1), none, none] [] _
  refine Ev.aload_n (pc := 0) dX7_firstFault_0 rfl ?_
  refine Ev.iconst (pc := 1) (v := nI 0) dX7_firstFault_1 (by decide) ?_
  refine Ev.put (pc := 2) (C0 := RX7) (T := TX7) (N := 5) (ty := .int) (pu_1_2 _ _ _ _ _) rfl inX7_firstFault tyX7_ok nmX7 (by decide) lkX7_firstFault_23 rfl (by decide +kernel) (fun _ => rfl) (fun _ => rfl) dX7_firstFault_2 ?_
  refine Ev.aload_n (pc := 5) dX7_firstFault_5 rfl ?_
  refine Ev.iconst (pc := 6) (v := nI 0) dX7_firstFault_6 (by decide) ?_
  refine Ev.put (pc := 7) (C0 := RX7) (T := TX7) (N := 5) (ty := .int) (pu_1_3 _ _ _ _ _) rfl inX7_firstFault tyX7_ok nmX7 (by decide) lkX7_firstFault_26 rfl (by decide +kernel) (fun _ => rfl) (fun _ => rfl) dX7_firstFault_7 ?_
  refine Ev.aload_n (pc := 10) dX7_firstFault_10 rfl ?_
  refine Ev.iconst (pc := 11) (v := nI 0) dX7_firstFault_11 (by decide) ?_
  refine Ev.put (pc := 12) (C0 := RX7) (T := TX7) (N := 5) (ty := .int) (pu_1_4 _ _ _ _ _) rfl inX7_firstFault tyX7_ok nmX7 (by decide) lkX7_firstFault_29 rfl (by decide +kernel) (fun _ => rfl) (fun _ => rfl) dX7_firstFault_12 ?_
  refine Ev.iconst (pc := 15) (v := nI 0) dX7_firstFault_15 (by decide) ?_
  refine Ev.istore_n (pc := 16) dX7_firstFault_16 rfl rfl ?_
  refine Ev.iconst (pc := 17) (v := nI 0) dX7_firstFault_17 (by decide) ?_
  refine Ev.istore_n (pc := 18) dX7_firstFault_18 rfl rfl ?_
  exact kX7_firstFault_19 _ _ _  _ 100 _ _ _ hr
/-! X8_write -/
def sX8_write (g : Hg) (a1 : Int32) : Option (Int32 × Hg) := if (sX8_within a1 (nI 0) (nI 255)) = true then ((sX7_add g a1).bind fun x_1 => (if x_1.1 = true then (some (sX7_length x_1.2, x_1.2)) else (some ((-4), x_1.2)))) else (some ((-2), g))
set_option maxRecDepth 20000 in
set_option maxHeartbeats 1000000 in
theorem kX8_write (g : Hg) (q : Int64) (g2 : Hg) (q2 : Int64) (a1 : Int32) {r : Int32 × Hg} (hr : sX8_write g a1 = some r) : CtI MX8_write [.ref 0, .int a1] (g, q, g2, q2) (fun x h' => x = r.1 ∧ h' = (r.2, q, g2, q2)) := by
  unfold sX8_write at hr
  refine CtI_L 0 rfl (by decide +kernel) rfl (Nat.le_of_ble_eq_true rfl) ?_
  show Ev _ _ 0 [some (.ref 0), some (.int a1)] [] _
  refine Ev.iload_n (pc := 0) dX8_write_0 rfl ?_
  refine Ev.iconst (pc := 1) (v := nI 0) dX8_write_1 (by decide) ?_
  refine Ev.sipush (pc := 2) (v := nI 255) dX8_write_2 (by decide) ?_
  refine Ev.cSi (pc := 5) (As := [.int _, .int _, .int _]) (kX8_within _ _ _ _ _ _ _) rfl gX8_write_X8_within hdX8_within rfl ⟨rfl, rfl⟩ ⟨Nat.le_of_ble_eq_true rfl, Nat.le_of_ble_eq_true rfl⟩ (Nat.le_of_ble_eq_true rfl) ⟨Nat.le_of_ble_eq_true rfl, Nat.le_of_ble_eq_true rfl⟩ dX8_write_5 ?_
  refine Ev.ifneB (pc := 8) (tgt := 14) dX8_write_8 (by decide) (fun c_1 => ?_) (fun c_1 => ?_)
  · have hr := ifp hr c_1
    refine Ev.aload_n (pc := 14) dX8_write_14 rfl ?_
    refine Ev.get (pc := 15) (C0 := RX8) (T := TX8) (N := 10) (fl_0_0 _ _ _ _) rfl inX8_write (by decide) lkX8_write_10 dX8_write_15 ?_
    refine Ev.iload_n (pc := 18) dX8_write_18 rfl ?_
    obtain ⟨x_1, hx_1, hr⟩ := Option.bind_eq_some_iff.mp hr
    refine Ev.cVi (pc := 19) (As := [.int _]) (kX7_add _ _ _ _ _ hx_1) rfl rfl (ob_1 _) gX8_write_X7_add hdX7_add rfl ⟨rfl, rfl⟩ ⟨Nat.le_of_ble_eq_true rfl, Nat.le_of_ble_eq_true rfl⟩ (Nat.le_of_ble_eq_true rfl) ⟨Nat.le_of_ble_eq_true rfl, Nat.le_of_ble_eq_true rfl⟩ dX8_write_19 ?_
    refine Ev.ifeqB (pc := 22) (tgt := 35) dX8_write_22 (by decide) (fun c_2 => ?_) (fun c_2 => ?_)
    · have hr := ifn hr (ntr c_2)
      refine Ev.bipush (pc := 35) (v := (-4)) dX8_write_35 (by decide) ?_
      cases hr
      exact Ev.iret rfl rfl dX8_write_37 ⟨rfl, rfl⟩
    · have hr := ifp hr c_2
      refine Ev.aload_n (pc := 25) dX8_write_25 rfl ?_
      refine Ev.get (pc := 26) (C0 := RX8) (T := TX8) (N := 10) (fl_0_0 _ _ _ _) rfl inX8_write (by decide) lkX8_write_10 dX8_write_26 ?_
      refine Ev.cVi (pc := 29) (As := []) (kX7_length _ _ _ _) rfl rfl (ob_1 _) gX8_write_X7_length hdX7_length rfl ⟨rfl, rfl⟩ ⟨Nat.le_of_ble_eq_true rfl, Nat.le_of_ble_eq_true rfl⟩ (Nat.le_of_ble_eq_true rfl) ⟨Nat.le_of_ble_eq_true rfl, Nat.le_of_ble_eq_true rfl⟩ dX8_write_29 ?_
      refine Ev.goto (pc := 32) (tgt := 37) dX8_write_32 (by decide) ?_
      cases hr
      exact Ev.iret rfl rfl dX8_write_37 ⟨rfl, rfl⟩
  · have hr := ifn hr (ntr c_1)
    refine Ev.bipush (pc := 11) (v := (-2)) dX8_write_11 (by decide) ?_
    cases hr
    exact Ev.iret rfl rfl dX8_write_13 ⟨rfl, rfl⟩
/-! X8_wipe -/
def sX8_wipe (g : Hg) : Int32 × Hg := (sX7_length g, sX7_clear g)
set_option maxRecDepth 20000 in
set_option maxHeartbeats 1000000 in
theorem kX8_wipe (g : Hg) (q : Int64) (g2 : Hg) (q2 : Int64) : CtI MX8_wipe [.ref 0] (g, q, g2, q2) (fun x h' => x = (sX8_wipe g).1 ∧ h' = ((sX8_wipe g).2, q, g2, q2)) := by
  generalize hr : sX8_wipe g = r
  unfold sX8_wipe at hr
  refine CtI_L 1 rfl (by decide +kernel) rfl (Nat.le_of_ble_eq_true rfl) ?_
  show Ev _ _ 0 [some (.ref 0), none] [] _
  refine Ev.aload_n (pc := 0) dX8_wipe_0 rfl ?_
  refine Ev.get (pc := 1) (C0 := RX8) (T := TX8) (N := 10) (fl_0_0 _ _ _ _) rfl inX8_wipe (by decide) lkX8_wipe_10 dX8_wipe_1 ?_
  refine Ev.cVi (pc := 4) (As := []) (kX7_length _ _ _ _) rfl rfl (ob_1 _) gX8_wipe_X7_length hdX7_length rfl ⟨rfl, rfl⟩ ⟨Nat.le_of_ble_eq_true rfl, Nat.le_of_ble_eq_true rfl⟩ (Nat.le_of_ble_eq_true rfl) ⟨Nat.le_of_ble_eq_true rfl, Nat.le_of_ble_eq_true rfl⟩ dX8_wipe_4 ?_
  refine Ev.istore_n (pc := 7) dX8_wipe_7 rfl rfl ?_
  refine Ev.aload_n (pc := 8) dX8_wipe_8 rfl ?_
  refine Ev.get (pc := 9) (C0 := RX8) (T := TX8) (N := 10) (fl_0_0 _ _ _ _) rfl inX8_wipe (by decide) lkX8_wipe_10 dX8_wipe_9 ?_
  refine Ev.cVv (pc := 12) (As := []) (kX7_clear _ _ _ _) rfl rfl (ob_1 _) gX8_wipe_X7_clear hdX7_clear rfl ⟨rfl, rfl⟩ ⟨Nat.le_of_ble_eq_true rfl, Nat.le_of_ble_eq_true rfl⟩ (Nat.le_of_ble_eq_true rfl) ⟨Nat.le_of_ble_eq_true rfl, Nat.le_of_ble_eq_true rfl⟩ dX8_wipe_12 ?_
  refine Ev.iload_n (pc := 15) dX8_wipe_15 rfl ?_
  subst hr
  exact Ev.iret rfl rfl dX8_wipe_16 ⟨rfl, rfl⟩
/-! X8_fault -/
def sX8_fault (g : Hg) : Option (Int32 × Hg) := (sX7_firstFault g).bind fun x_1 => (some (x_1.1, x_1.2))
set_option maxRecDepth 20000 in
set_option maxHeartbeats 1000000 in
theorem kX8_fault (g : Hg) (q : Int64) (g2 : Hg) (q2 : Int64) {r : Int32 × Hg} (hr : sX8_fault g = some r) : CtI MX8_fault [.ref 0] (g, q, g2, q2) (fun x h' => x = r.1 ∧ h' = (r.2, q, g2, q2)) := by
  unfold sX8_fault at hr
  refine CtI_L 0 rfl (by decide +kernel) rfl (Nat.le_of_ble_eq_true rfl) ?_
  show Ev _ _ 0 [some (.ref 0)] [] _
  refine Ev.aload_n (pc := 0) dX8_fault_0 rfl ?_
  refine Ev.get (pc := 1) (C0 := RX8) (T := TX8) (N := 10) (fl_0_0 _ _ _ _) rfl inX8_fault (by decide) lkX8_fault_10 dX8_fault_1 ?_
  obtain ⟨x_1, hx_1, hr⟩ := Option.bind_eq_some_iff.mp hr
  refine Ev.cVi (pc := 4) (As := []) (kX7_firstFault _ _ _ _ hx_1) rfl rfl (ob_1 _) gX8_fault_X7_firstFault hdX7_firstFault rfl ⟨rfl, rfl⟩ ⟨Nat.le_of_ble_eq_true rfl, Nat.le_of_ble_eq_true rfl⟩ (Nat.le_of_ble_eq_true rfl) ⟨Nat.le_of_ble_eq_true rfl, Nat.le_of_ble_eq_true rfl⟩ dX8_fault_4 ?_
  cases hr
  exact Ev.iret rfl rfl dX8_fault_7 ⟨rfl, rfl⟩
/-! X8_flat -/
def sX8_flat (g : Hg) : Option (Int32 × Hg) := (sX7_firstFault g).bind fun x_1 => (if x_1.1 = ((-9)) then ((sX1_readFrom x_1.2).bind fun x_2 => ((sX4_startAnew x_2 3).bind fun x_3 => (some ((((nI 100) * (sX1_tideCount (sX6_forgetAll (sX0_forgetAll x_3)))) + ((nI 10) * (sX1_findCount (sX6_forgetAll (sX0_forgetAll x_3))))) + (sX1_larkCount (sX6_forgetAll (sX0_forgetAll x_3))), sX6_forgetAll (sX0_forgetAll x_3))))) else (some ((-3), x_1.2)))
set_option maxRecDepth 20000 in
set_option maxHeartbeats 1000000 in
theorem kX8_flat (g : Hg) (q : Int64) (g2 : Hg) (q2 : Int64) {r : Int32 × Hg} (hr : sX8_flat g = some r) : CtI MX8_flat [.ref 0] (g, q, g2, q2) (fun x h' => x = r.1 ∧ h' = (r.2, q, g2, q2)) := by
  unfold sX8_flat at hr
  refine CtI_L 0 rfl (by decide +kernel) rfl (Nat.le_of_ble_eq_true rfl) ?_
  show Ev _ _ 0 [some (.ref 0)] [] _
  refine Ev.aload_n (pc := 0) dX8_flat_0 rfl ?_
  refine Ev.get (pc := 1) (C0 := RX8) (T := TX8) (N := 10) (fl_0_0 _ _ _ _) rfl inX8_flat (by decide) lkX8_flat_10 dX8_flat_1 ?_
  obtain ⟨x_1, hx_1, hr⟩ := Option.bind_eq_some_iff.mp hr
  refine Ev.cVi (pc := 4) (As := []) (kX7_firstFault _ _ _ _ hx_1) rfl rfl (ob_1 _) gX8_flat_X7_firstFault hdX7_firstFault rfl ⟨rfl, rfl⟩ ⟨Nat.le_of_ble_eq_true rfl, Nat.le_of_ble_eq_true rfl⟩ (Nat.le_of_ble_eq_true rfl) ⟨Nat.le_of_ble_eq_true rfl, Nat.le_of_ble_eq_true rfl⟩ dX8_flat_4 ?_
  refine Ev.bipush (pc := 7) (v := (-9)) dX8_flat_7 (by decide) ?_
  refine Ev.icmpeq (pc := 9) (tgt := 15) dX8_flat_9 (by decide) (fun c_1 => ?_) (fun c_1 => ?_)
  · have hr := ifp hr c_1
    refine Ev.aload_n (pc := 15) dX8_flat_15 rfl ?_
    refine Ev.get (pc := 16) (C0 := RX8) (T := TX8) (N := 10) (fl_0_1 _ _ _ _) rfl inX8_flat (by decide) lkX8_flat_19 dX8_flat_16 ?_
    refine Ev.aload_n (pc := 19) dX8_flat_19 rfl ?_
    refine Ev.get (pc := 20) (C0 := RX8) (T := TX8) (N := 10) (fl_0_0 _ _ _ _) rfl inX8_flat (by decide) lkX8_flat_10 dX8_flat_20 ?_
    obtain ⟨x_2, hx_2, hr⟩ := Option.bind_eq_some_iff.mp hr
    refine Ev.cVv (pc := 23) (As := [.ref 1]) (kX1_readFrom _ _ _ _ hx_2) rfl rfl (ob_2 _) gX8_flat_X1_readFrom hdX1_readFrom rfl ⟨rfl, rfl⟩ ⟨Nat.le_of_ble_eq_true rfl, Nat.le_of_ble_eq_true rfl⟩ (Nat.le_of_ble_eq_true rfl) ⟨Nat.le_of_ble_eq_true rfl, Nat.le_of_ble_eq_true rfl⟩ dX8_flat_23 ?_
    refine Ev.aload_n (pc := 26) dX8_flat_26 rfl ?_
    refine Ev.get (pc := 27) (C0 := RX8) (T := TX8) (N := 10) (fl_0_2 _ _ _ _) rfl inX8_flat (by decide) lkX8_flat_28 dX8_flat_27 ?_
    obtain ⟨x_3, hx_3, hr⟩ := Option.bind_eq_some_iff.mp hr
    refine Ev.cVv (pc := 30) (As := []) (kX4_startAnew _ _ _ _ (Or.inl rfl) hx_3) rfl rfl (ob_3 _) gX8_flat_X4_startAnew hdX4_startAnew rfl ⟨rfl, rfl⟩ ⟨Nat.le_of_ble_eq_true rfl, Nat.le_of_ble_eq_true rfl⟩ (Nat.le_of_ble_eq_true rfl) ⟨Nat.le_of_ble_eq_true rfl, Nat.le_of_ble_eq_true rfl⟩ dX8_flat_30 ?_
    refine Ev.aload_n (pc := 33) dX8_flat_33 rfl ?_
    refine Ev.get (pc := 34) (C0 := RX8) (T := TX8) (N := 10) (fl_0_4 _ _ _ _) rfl inX8_flat (by decide) lkX8_flat_38 dX8_flat_34 ?_
    refine Ev.cVv (pc := 37) (As := []) (kX0_forgetAll _ _ _ _) rfl rfl (ob_5 _) gX8_flat_X0_forgetAll hdX0_forgetAll rfl ⟨rfl, rfl⟩ ⟨Nat.le_of_ble_eq_true rfl, Nat.le_of_ble_eq_true rfl⟩ (Nat.le_of_ble_eq_true rfl) ⟨Nat.le_of_ble_eq_true rfl, Nat.le_of_ble_eq_true rfl⟩ dX8_flat_37 ?_
    refine Ev.aload_n (pc := 40) dX8_flat_40 rfl ?_
    refine Ev.get (pc := 41) (C0 := RX8) (T := TX8) (N := 10) (fl_0_5 _ _ _ _) rfl inX8_flat (by decide) lkX8_flat_45 dX8_flat_41 ?_
    refine Ev.cVv (pc := 44) (As := []) (kX6_forgetAll _ _ _ _) rfl rfl (ob_6 _) gX8_flat_X6_forgetAll hdX6_forgetAll rfl ⟨rfl, rfl⟩ ⟨Nat.le_of_ble_eq_true rfl, Nat.le_of_ble_eq_true rfl⟩ (Nat.le_of_ble_eq_true rfl) ⟨Nat.le_of_ble_eq_true rfl, Nat.le_of_ble_eq_true rfl⟩ dX8_flat_44 ?_
    refine Ev.bipush (pc := 47) (v := nI 100) dX8_flat_47 (by decide) ?_
    refine Ev.aload_n (pc := 49) dX8_flat_49 rfl ?_
    refine Ev.get (pc := 50) (C0 := RX8) (T := TX8) (N := 10) (fl_0_1 _ _ _ _) rfl inX8_flat (by decide) lkX8_flat_19 dX8_flat_50 ?_
    refine Ev.cVi (pc := 53) (As := []) (kX1_tideCount _ _ _ _) rfl rfl (ob_2 _) gX8_flat_X1_tideCount hdX1_tideCount rfl ⟨rfl, rfl⟩ ⟨Nat.le_of_ble_eq_true rfl, Nat.le_of_ble_eq_true rfl⟩ (Nat.le_of_ble_eq_true rfl) ⟨Nat.le_of_ble_eq_true rfl, Nat.le_of_ble_eq_true rfl⟩ dX8_flat_53 ?_
    refine Ev.imul (pc := 56) dX8_flat_56 ?_
    refine Ev.bipush (pc := 57) (v := nI 10) dX8_flat_57 (by decide) ?_
    refine Ev.aload_n (pc := 59) dX8_flat_59 rfl ?_
    refine Ev.get (pc := 60) (C0 := RX8) (T := TX8) (N := 10) (fl_0_1 _ _ _ _) rfl inX8_flat (by decide) lkX8_flat_19 dX8_flat_60 ?_
    refine Ev.cVi (pc := 63) (As := []) (kX1_findCount _ _ _ _) rfl rfl (ob_2 _) gX8_flat_X1_findCount hdX1_findCount rfl ⟨rfl, rfl⟩ ⟨Nat.le_of_ble_eq_true rfl, Nat.le_of_ble_eq_true rfl⟩ (Nat.le_of_ble_eq_true rfl) ⟨Nat.le_of_ble_eq_true rfl, Nat.le_of_ble_eq_true rfl⟩ dX8_flat_63 ?_
    refine Ev.imul (pc := 66) dX8_flat_66 ?_
    refine Ev.iadd (pc := 67) dX8_flat_67 ?_
    refine Ev.aload_n (pc := 68) dX8_flat_68 rfl ?_
    refine Ev.get (pc := 69) (C0 := RX8) (T := TX8) (N := 10) (fl_0_1 _ _ _ _) rfl inX8_flat (by decide) lkX8_flat_19 dX8_flat_69 ?_
    refine Ev.cVi (pc := 72) (As := []) (kX1_larkCount _ _ _ _) rfl rfl (ob_2 _) gX8_flat_X1_larkCount hdX1_larkCount rfl ⟨rfl, rfl⟩ ⟨Nat.le_of_ble_eq_true rfl, Nat.le_of_ble_eq_true rfl⟩ (Nat.le_of_ble_eq_true rfl) ⟨Nat.le_of_ble_eq_true rfl, Nat.le_of_ble_eq_true rfl⟩ dX8_flat_72 ?_
    refine Ev.iadd (pc := 75) dX8_flat_75 ?_
    cases hr
    exact Ev.iret rfl rfl dX8_flat_76 ⟨rfl, rfl⟩
  · have hr := ifn hr c_1
    refine Ev.bipush (pc := 12) (v := (-3)) dX8_flat_12 (by decide) ?_
    cases hr
    exact Ev.iret rfl rfl dX8_flat_14 ⟨rfl, rfl⟩
/-! X8_cell -/
def sX8_cell (g : Hg) (a1 : Int32) (a2 : Int32) : Option (Int32) := if (sX8_within a1 (nI 0) (nI 11)) = true then (if a2 = nI 0 then ((sX1_height g a1).bind fun x_1 => (some x_1)) else (if a2 = nI 1 then ((sX1_isBared g a1 (sX4_now g 3)).bind fun x_2 => (if x_2 = true then (some (nI 1)) else (some (nI 0)))) else (if a2 = nI 2 then ((sX4_findsLyingAt g 3 a1).bind fun x_3 => (some x_3)) else (if a2 = nI 3 then ((sX4_larksAt g 3 a1).bind fun x_4 => (some x_4)) else (some ((-2))))))) else (some ((-1)))
set_option maxRecDepth 20000 in
set_option maxHeartbeats 1000000 in
theorem kX8_cell (g : Hg) (q : Int64) (g2 : Hg) (q2 : Int64) (a1 : Int32) (a2 : Int32) {r : Int32} (hr : sX8_cell g a1 a2 = some r) : CtI MX8_cell [.ref 0, .int a1, .int a2] (g, q, g2, q2) (fun x h' => x = r ∧ h' = (g, q, g2, q2)) := by
  unfold sX8_cell at hr
  refine CtI_L 0 rfl (by decide +kernel) rfl (Nat.le_of_ble_eq_true rfl) ?_
  show Ev _ _ 0 [some (.ref 0), some (.int a1), some (.int a2)] [] _
  refine Ev.iload_n (pc := 0) dX8_cell_0 rfl ?_
  refine Ev.iconst (pc := 1) (v := nI 0) dX8_cell_1 (by decide) ?_
  refine Ev.bipush (pc := 2) (v := nI 11) dX8_cell_2 (by decide) ?_
  refine Ev.cSi (pc := 4) (As := [.int _, .int _, .int _]) (kX8_within _ _ _ _ _ _ _) rfl gX8_cell_X8_within hdX8_within rfl ⟨rfl, rfl⟩ ⟨Nat.le_of_ble_eq_true rfl, Nat.le_of_ble_eq_true rfl⟩ (Nat.le_of_ble_eq_true rfl) ⟨Nat.le_of_ble_eq_true rfl, Nat.le_of_ble_eq_true rfl⟩ dX8_cell_4 ?_
  refine Ev.ifneB (pc := 7) (tgt := 12) dX8_cell_7 (by decide) (fun c_1 => ?_) (fun c_1 => ?_)
  · have hr := ifp hr c_1
    refine Ev.iload_n (pc := 12) dX8_cell_12 rfl ?_
    by_cases c_2 : a2 = nI 0
    · have hr := ifp hr c_2
      refine Ev.tableK (pc := 13) (tgt := 44) 0 c_2 (by decide) dX8_cell_13 (by decide) rfl (by decide) ?_
      refine Ev.aload_n (pc := 44) dX8_cell_44 rfl ?_
      refine Ev.get (pc := 45) (C0 := RX8) (T := TX8) (N := 10) (fl_0_1 _ _ _ _) rfl inX8_cell (by decide) lkX8_cell_19 dX8_cell_45 ?_
      refine Ev.iload_n (pc := 48) dX8_cell_48 rfl ?_
      obtain ⟨x_1, hx_1, hr⟩ := Option.bind_eq_some_iff.mp hr
      refine Ev.cVi (pc := 49) (As := [.int _]) (kX1_height _ _ _ _ _ hx_1) rfl rfl (ob_2 _) gX8_cell_X1_height hdX1_height rfl ⟨rfl, rfl⟩ ⟨Nat.le_of_ble_eq_true rfl, Nat.le_of_ble_eq_true rfl⟩ (Nat.le_of_ble_eq_true rfl) ⟨Nat.le_of_ble_eq_true rfl, Nat.le_of_ble_eq_true rfl⟩ dX8_cell_49 ?_
      cases hr
      exact Ev.iret rfl rfl dX8_cell_52 ⟨rfl, rfl⟩
    have hr := ifn hr c_2
    by_cases c_3 : a2 = nI 1
    · have hr := ifp hr c_3
      refine Ev.tableK (pc := 13) (tgt := 53) 1 c_3 (by decide) dX8_cell_13 (by decide) rfl (by decide) ?_
      refine Ev.aload_n (pc := 53) dX8_cell_53 rfl ?_
      refine Ev.get (pc := 54) (C0 := RX8) (T := TX8) (N := 10) (fl_0_1 _ _ _ _) rfl inX8_cell (by decide) lkX8_cell_19 dX8_cell_54 ?_
      refine Ev.iload_n (pc := 57) dX8_cell_57 rfl ?_
      refine Ev.aload_n (pc := 58) dX8_cell_58 rfl ?_
      refine Ev.get (pc := 59) (C0 := RX8) (T := TX8) (N := 10) (fl_0_2 _ _ _ _) rfl inX8_cell (by decide) lkX8_cell_28 dX8_cell_59 ?_
      refine Ev.cVi (pc := 62) (As := []) (kX4_now _ _ _ _ (Or.inl rfl)) rfl rfl (ob_3 _) gX8_cell_X4_now hdX4_now rfl ⟨rfl, rfl⟩ ⟨Nat.le_of_ble_eq_true rfl, Nat.le_of_ble_eq_true rfl⟩ (Nat.le_of_ble_eq_true rfl) ⟨Nat.le_of_ble_eq_true rfl, Nat.le_of_ble_eq_true rfl⟩ dX8_cell_62 ?_
      obtain ⟨x_2, hx_2, hr⟩ := Option.bind_eq_some_iff.mp hr
      refine Ev.cVi (pc := 65) (As := [.int _, .int _]) (kX1_isBared _ _ _ _ _ _ hx_2) rfl rfl (ob_2 _) gX8_cell_X1_isBared hdX1_isBared rfl ⟨rfl, rfl⟩ ⟨Nat.le_of_ble_eq_true rfl, Nat.le_of_ble_eq_true rfl⟩ (Nat.le_of_ble_eq_true rfl) ⟨Nat.le_of_ble_eq_true rfl, Nat.le_of_ble_eq_true rfl⟩ dX8_cell_65 ?_
      refine Ev.ifeqB (pc := 68) (tgt := 75) dX8_cell_68 (by decide) (fun c_4 => ?_) (fun c_4 => ?_)
      · have hr := ifn hr (ntr c_4)
        refine Ev.iconst (pc := 75) (v := nI 0) dX8_cell_75 (by decide) ?_
        cases hr
        exact Ev.iret rfl rfl dX8_cell_76 ⟨rfl, rfl⟩
      · have hr := ifp hr c_4
        refine Ev.iconst (pc := 71) (v := nI 1) dX8_cell_71 (by decide) ?_
        refine Ev.goto (pc := 72) (tgt := 76) dX8_cell_72 (by decide) ?_
        cases hr
        exact Ev.iret rfl rfl dX8_cell_76 ⟨rfl, rfl⟩
    have hr := ifn hr c_3
    by_cases c_5 : a2 = nI 2
    · have hr := ifp hr c_5
      refine Ev.tableK (pc := 13) (tgt := 77) 2 c_5 (by decide) dX8_cell_13 (by decide) rfl (by decide) ?_
      refine Ev.aload_n (pc := 77) dX8_cell_77 rfl ?_
      refine Ev.get (pc := 78) (C0 := RX8) (T := TX8) (N := 10) (fl_0_2 _ _ _ _) rfl inX8_cell (by decide) lkX8_cell_28 dX8_cell_78 ?_
      refine Ev.iload_n (pc := 81) dX8_cell_81 rfl ?_
      obtain ⟨x_3, hx_3, hr⟩ := Option.bind_eq_some_iff.mp hr
      refine Ev.cVi (pc := 82) (As := [.int _]) (kX4_findsLyingAt _ _ _ _ (Or.inl rfl) _ hx_3) rfl rfl (ob_3 _) gX8_cell_X4_findsLyingAt hdX4_findsLyingAt rfl ⟨rfl, rfl⟩ ⟨Nat.le_of_ble_eq_true rfl, Nat.le_of_ble_eq_true rfl⟩ (Nat.le_of_ble_eq_true rfl) ⟨Nat.le_of_ble_eq_true rfl, Nat.le_of_ble_eq_true rfl⟩ dX8_cell_82 ?_
      cases hr
      exact Ev.iret rfl rfl dX8_cell_85 ⟨rfl, rfl⟩
    have hr := ifn hr c_5
    by_cases c_6 : a2 = nI 3
    · have hr := ifp hr c_6
      refine Ev.tableK (pc := 13) (tgt := 86) 3 c_6 (by decide) dX8_cell_13 (by decide) rfl (by decide) ?_
      refine Ev.aload_n (pc := 86) dX8_cell_86 rfl ?_
      refine Ev.get (pc := 87) (C0 := RX8) (T := TX8) (N := 10) (fl_0_2 _ _ _ _) rfl inX8_cell (by decide) lkX8_cell_28 dX8_cell_87 ?_
      refine Ev.iload_n (pc := 90) dX8_cell_90 rfl ?_
      obtain ⟨x_4, hx_4, hr⟩ := Option.bind_eq_some_iff.mp hr
      refine Ev.cVi (pc := 91) (As := [.int _]) (kX4_larksAt _ _ _ _ (Or.inl rfl) _ hx_4) rfl rfl (ob_3 _) gX8_cell_X4_larksAt hdX4_larksAt rfl ⟨rfl, rfl⟩ ⟨Nat.le_of_ble_eq_true rfl, Nat.le_of_ble_eq_true rfl⟩ (Nat.le_of_ble_eq_true rfl) ⟨Nat.le_of_ble_eq_true rfl, Nat.le_of_ble_eq_true rfl⟩ dX8_cell_91 ?_
      cases hr
      exact Ev.iret rfl rfl dX8_cell_94 ⟨rfl, rfl⟩
    have hr := ifn hr c_6
    refine Ev.tableD (pc := 13) (tgt := 95) 4 (by decide) (fun j hj => by
        have hj2 : j = 0 ∨ j = 1 ∨ j = 2 ∨ j = 3 := by omega
        rcases hj2 with rfl | rfl | rfl | rfl <;> assumption) rfl dX8_cell_13 (by decide) ?_
    refine Ev.bipush (pc := 95) (v := (-2)) dX8_cell_95 (by decide) ?_
    cases hr
    exact Ev.iret rfl rfl dX8_cell_97 ⟨rfl, rfl⟩
  · have hr := ifn hr (ntr c_1)
    refine Ev.iconst (pc := 10) (v := (-1)) dX8_cell_10 (by decide) ?_
    cases hr
    exact Ev.iret rfl rfl dX8_cell_11 ⟨rfl, rfl⟩
