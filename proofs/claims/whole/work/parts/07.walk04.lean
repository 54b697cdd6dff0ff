/-! X8_springs -/
def sX8_springs_28 (v1 : Int32) : Nat → Hg → Int64 → Int32 → Int32 → Option (Int32 × Hg × Int64)
  | 0, _, _, _, _ => none
  | n + 1, g, q, v2, v3 => if v1 ≤ v3 then (some (v2, g, q)) else ((sX8_doByChance g (Int64.toInt32 ((((Int64.toUInt64 ((q * ((6364136223846793005 : Int64))) + ((1442695040888963407 : Int64)))) >>> ((Int32.toInt64 (nI 33)).toUInt64 &&& Int64.toUInt64 63)).toInt64) - (((Int64.toUInt64 ((q * ((6364136223846793005 : Int64))) + ((1442695040888963407 : Int64)))) >>> ((Int32.toInt64 (nI 33)).toUInt64 &&& Int64.toUInt64 63)).toInt64) / ((28 : Int64)) * ((28 : Int64))))).bind fun x_2 => ((sX4_findsThat x_2 4 (nI 1)).bind fun x_3 => (sX8_springs_28 v1 n x_2 ((q * ((6364136223846793005 : Int64))) + ((1442695040888963407 : Int64))) (v2 + ((sX4_larksAlive x_2 4) + (sJ6_bitCount_0f7a4 x_3))) (v3 + (nI 1)))))
set_option maxRecDepth 20000 in
set_option maxHeartbeats 1000000 in
theorem kX8_springs_28 (g2 : Hg) (q2 : Int64)  (v1 : Int32) (r : Int32 × Hg × Int64) : ∀ (n : Nat) (g : Hg) (q : Int64) (v2 : Int32) (v3 : Int32), sX8_springs_28 v1 n g q v2 v3 = some r → Ev (Xi (fun x h' => x = r.1 ∧ h' = (r.2.1, r.2.2, g2, q2))) MX8_springs 28 [some (.ref 0), some (.int v1), some (.int v2), some (.int v3)] [] (g, q, g2, q2) := by
  intro n
  induction n with
  | zero => intro _ _ _ _ hr; cases hr
  | succ n ih =>
    intro g q v2 v3 hr
    rw [sX8_springs_28] at hr
    refine Ev.iload_n (pc := 28) dX8_springs_28 rfl ?_
    refine Ev.iload_n (pc := 29) dX8_springs_29 rfl ?_
    refine Ev.icmpge (pc := 30) (tgt := 93) dX8_springs_30 (by decide) (fun c_2 => ?_) (fun c_2 => ?_)
    · have hr := ifp hr c_2
      refine Ev.iload_n (pc := 93) dX8_springs_93 rfl ?_
      cases hr
      exact Ev.iret rfl rfl dX8_springs_94 ⟨rfl, rfl⟩
    · have hr := ifn hr c_2
      refine Ev.aload_n (pc := 33) dX8_springs_33 rfl ?_
      refine Ev.aload_n (pc := 34) dX8_springs_34 rfl ?_
      refine Ev.get (pc := 35) (C0 := RX8) (T := TX8) (N := 10) (fl_0_9 _ _ _ _) rfl inX8_springs (by decide) lkX8_springs_74 dX8_springs_35 ?_
      refine Ev.ldc2 (pc := 38) (v := 6364136223846793005) (by decide +kernel) dX8_springs_38 ?_
      refine Ev.lmul (pc := 41) dX8_springs_41 ?_
      refine Ev.ldc2 (pc := 42) (v := 1442695040888963407) (by decide +kernel) dX8_springs_42 ?_
      refine Ev.ladd (pc := 45) dX8_springs_45 ?_
      refine Ev.put (pc := 46) (C0 := RX8) (T := TX8) (N := 10) (ty := .long) (pu_0_9 _ _ _ _ _) rfl inX8_springs tyX8_ok nmX8 (by decide) lkX8_springs_74 rfl (by decide +kernel) (fun _ => rfl) (fun _ => rfl) dX8_springs_46 ?_
      refine Ev.aload_n (pc := 49) dX8_springs_49 rfl ?_
      refine Ev.aload_n (pc := 50) dX8_springs_50 rfl ?_
      refine Ev.get (pc := 51) (C0 := RX8) (T := TX8) (N := 10) (fl_0_9 _ _ _ _) rfl inX8_springs (by decide) lkX8_springs_74 dX8_springs_51 ?_
      refine Ev.bipush (pc := 54) (v := nI 33) dX8_springs_54 (by decide) ?_
      refine Ev.lushr (pc := 56) dX8_springs_56 ?_
      refine Ev.ldc2 (pc := 57) (v := 28) (by decide +kernel) dX8_springs_57 ?_
      refine Ev.lrem (pc := 60) dX8_springs_60 (by decide) ?_
      refine Ev.l2i (pc := 61) dX8_springs_61 ?_
      obtain ⟨x_2, hx_2, hr⟩ := Option.bind_eq_some_iff.mp hr
      refine Ev.cVv (pc := 62) (As := [.int _]) (kX8_doByChance _ _ _ _ _ hx_2) rfl rfl (ob_0 _) gX8_springs_X8_doByChance hdX8_doByChance rfl ⟨rfl, rfl⟩ ⟨Nat.le_of_ble_eq_true rfl, Nat.le_of_ble_eq_true rfl⟩ (Nat.le_of_ble_eq_true rfl) ⟨Nat.le_of_ble_eq_true rfl, Nat.le_of_ble_eq_true rfl⟩ dX8_springs_62 ?_
      refine Ev.iload_n (pc := 65) dX8_springs_65 rfl ?_
      refine Ev.aload_n (pc := 66) dX8_springs_66 rfl ?_
      refine Ev.get (pc := 67) (C0 := RX8) (T := TX8) (N := 10) (fl_0_3 _ _ _ _) rfl inX8_springs (by decide) lkX8_springs_32 dX8_springs_67 ?_
      refine Ev.cVi (pc := 70) (As := []) (kX4_larksAlive _ _ _ _ (Or.inr rfl)) rfl rfl (ob_4 _) gX8_springs_X4_larksAlive hdX4_larksAlive rfl ⟨rfl, rfl⟩ ⟨Nat.le_of_ble_eq_true rfl, Nat.le_of_ble_eq_true rfl⟩ (Nat.le_of_ble_eq_true rfl) ⟨Nat.le_of_ble_eq_true rfl, Nat.le_of_ble_eq_true rfl⟩ dX8_springs_70 ?_
      refine Ev.aload_n (pc := 73) dX8_springs_73 rfl ?_
      refine Ev.get (pc := 74) (C0 := RX8) (T := TX8) (N := 10) (fl_0_3 _ _ _ _) rfl inX8_springs (by decide) lkX8_springs_32 dX8_springs_74 ?_
      refine Ev.iconst (pc := 77) (v := nI 1) dX8_springs_77 (by decide) ?_
      obtain ⟨x_3, hx_3, hr⟩ := Option.bind_eq_some_iff.mp hr
      refine Ev.cVi (pc := 78) (As := [.int _]) (kX4_findsThat _ _ _ _ (Or.inr rfl) _ hx_3) rfl rfl (ob_4 _) gX8_springs_X4_findsThat hdX4_findsThat rfl ⟨rfl, rfl⟩ ⟨Nat.le_of_ble_eq_true rfl, Nat.le_of_ble_eq_true rfl⟩ (Nat.le_of_ble_eq_true rfl) ⟨Nat.le_of_ble_eq_true rfl, Nat.le_of_ble_eq_true rfl⟩ dX8_springs_78 ?_
      refine Ev.cSi (pc := 81) (As := [.int _]) (kJ6_bitCount_0f7a4 _ _ _ _ _) rfl gX8_springs_J6_bitCount_0f7a4 hdJ6_bitCount_0f7a4 rfl ⟨rfl, rfl⟩ ⟨Nat.le_of_ble_eq_true rfl, Nat.le_of_ble_eq_true rfl⟩ (Nat.le_of_ble_eq_true rfl) ⟨Nat.le_of_ble_eq_true rfl, Nat.le_of_ble_eq_true rfl⟩ dX8_springs_81 ?_
      refine Ev.iadd (pc := 84) dX8_springs_84 ?_
      refine Ev.iadd (pc := 85) dX8_springs_85 ?_
      refine Ev.istore_n (pc := 86) dX8_springs_86 rfl rfl ?_
      refine Ev.iinc (pc := 87) (v := nI 1) dX8_springs_87 rfl rfl rfl rfl ?_
      refine Ev.goto (pc := 90) (tgt := 28) dX8_springs_90 (by decide) ?_
      exact ih _ _ _ _ hr
def sX8_springs (g : Hg) (q : Int64) (a1 : Int32) : Option (Int32 × Hg × Int64) := if (sX8_within a1 (nI 1) (nI 30)) = true then ((sX4_copyFrom g).bind fun x_1 => (sX8_springs_28 a1 100 x_1 q (nI 0) (nI 0))) else (some ((-2), g, q))
set_option maxRecDepth 20000 in
set_option maxHeartbeats 1000000 in
theorem kX8_springs (g : Hg) (q : Int64) (g2 : Hg) (q2 : Int64) (a1 : Int32) {r : Int32 × Hg × Int64} (hr : sX8_springs g q a1 = some r) : CtI MX8_springs [.ref 0, .int a1] (g, q, g2, q2) (fun x h' => x = r.1 ∧ h' = (r.2.1, r.2.2, g2, q2)) := by
  unfold sX8_springs at hr
  refine CtI_L 2 rfl (by decide +kernel) rfl (Nat.le_of_ble_eq_true rfl) ?_
  show Ev _ _ 0 [some (.ref 0), some (.int a1), none, none] [] _
  refine Ev.iload_n (pc := 0) dX8_springs_0 rfl ?_
  refine Ev.iconst (pc := 1) (v := nI 1) dX8_springs_1 (by decide) ?_
  refine Ev.bipush (pc := 2) (v := nI 30) dX8_springs_2 (by decide) ?_
  refine Ev.cSi (pc := 4) (As := [.int _, .int _, .int _]) (kX8_within _ _ _ _ _ _ _) rfl gX8_springs_X8_within hdX8_within rfl ⟨rfl, rfl⟩ ⟨Nat.le_of_ble_eq_true rfl, Nat.le_of_ble_eq_true rfl⟩ (Nat.le_of_ble_eq_true rfl) ⟨Nat.le_of_ble_eq_true rfl, Nat.le_of_ble_eq_true rfl⟩ dX8_springs_4 ?_
  refine Ev.ifneB (pc := 7) (tgt := 13) dX8_springs_7 (by decide) (fun c_1 => ?_) (fun c_1 => ?_)
  · have hr := ifp hr c_1
    refine Ev.aload_n (pc := 13) dX8_springs_13 rfl ?_
    refine Ev.get (pc := 14) (C0 := RX8) (T := TX8) (N := 10) (fl_0_3 _ _ _ _) rfl inX8_springs (by decide) lkX8_springs_32 dX8_springs_14 ?_
    refine Ev.aload_n (pc := 17) dX8_springs_17 rfl ?_
    refine Ev.get (pc := 18) (C0 := RX8) (T := TX8) (N := 10) (fl_0_2 _ _ _ _) rfl inX8_springs (by decide) lkX8_springs_28 dX8_springs_18 ?_
    obtain ⟨x_1, hx_1, hr⟩ := Option.bind_eq_some_iff.mp hr
    refine Ev.cVv (pc := 21) (As := [.ref 3]) (kX4_copyFrom _ _ _ _ hx_1) rfl rfl (ob_4 _) gX8_springs_X4_copyFrom hdX4_copyFrom rfl ⟨rfl, rfl⟩ ⟨Nat.le_of_ble_eq_true rfl, Nat.le_of_ble_eq_true rfl⟩ (Nat.le_of_ble_eq_true rfl) ⟨Nat.le_of_ble_eq_true rfl, Nat.le_of_ble_eq_true rfl⟩ dX8_springs_21 ?_
    refine Ev.iconst (pc := 24) (v := nI 0) dX8_springs_24 (by decide) ?_
    refine Ev.istore_n (pc := 25) dX8_springs_25 rfl rfl ?_
    refine Ev.iconst (pc := 26) (v := nI 0) dX8_springs_26 (by decide) ?_
    refine Ev.istore_n (pc := 27) dX8_springs_27 rfl rfl ?_
    exact kX8_springs_28 _ _ _ _ 100 _ _ _ _ hr
  · have hr := ifn hr (ntr c_1)
    refine Ev.bipush (pc := 10) (v := (-2)) dX8_springs_10 (by decide) ?_
    cases hr
    exact Ev.iret rfl rfl dX8_springs_12 ⟨rfl, rfl⟩
/-! X8_keep -/
def sX8_keep (g : Hg) (a1 : Int32) : Option (Int32 × Hg) := if (sX8_within a1 (nI 0) (nI 1)) = true then ((sX6_store g a1).bind fun x_1 => (some (sX4_now x_1 3, x_1))) else (some ((-1), g))
set_option maxRecDepth 20000 in
set_option maxHeartbeats 1000000 in
theorem kX8_keep (g : Hg) (q : Int64) (g2 : Hg) (q2 : Int64) (a1 : Int32) {r : Int32 × Hg} (hr : sX8_keep g a1 = some r) : CtI MX8_keep [.ref 0, .int a1] (g, q, g2, q2) (fun x h' => x = r.1 ∧ h' = (r.2, q, g2, q2)) := by
  unfold sX8_keep at hr
  refine CtI_L 0 rfl (by decide +kernel) rfl (Nat.le_of_ble_eq_true rfl) ?_
  show Ev _ _ 0 [some (.ref 0), some (.int a1)] [] _
  refine Ev.iload_n (pc := 0) dX8_keep_0 rfl ?_
  refine Ev.iconst (pc := 1) (v := nI 0) dX8_keep_1 (by decide) ?_
  refine Ev.iconst (pc := 2) (v := nI 1) dX8_keep_2 (by decide) ?_
  refine Ev.cSi (pc := 3) (As := [.int _, .int _, .int _]) (kX8_within _ _ _ _ _ _ _) rfl gX8_keep_X8_within hdX8_within rfl ⟨rfl, rfl⟩ ⟨Nat.le_of_ble_eq_true rfl, Nat.le_of_ble_eq_true rfl⟩ (Nat.le_of_ble_eq_true rfl) ⟨Nat.le_of_ble_eq_true rfl, Nat.le_of_ble_eq_true rfl⟩ dX8_keep_3 ?_
  refine Ev.ifneB (pc := 6) (tgt := 11) dX8_keep_6 (by decide) (fun c_1 => ?_) (fun c_1 => ?_)
  · have hr := ifp hr c_1
    refine Ev.aload_n (pc := 11) dX8_keep_11 rfl ?_
    refine Ev.get (pc := 12) (C0 := RX8) (T := TX8) (N := 10) (fl_0_5 _ _ _ _) rfl inX8_keep (by decide) lkX8_keep_45 dX8_keep_12 ?_
    refine Ev.iload_n (pc := 15) dX8_keep_15 rfl ?_
    refine Ev.aload_n (pc := 16) dX8_keep_16 rfl ?_
    refine Ev.get (pc := 17) (C0 := RX8) (T := TX8) (N := 10) (fl_0_2 _ _ _ _) rfl inX8_keep (by decide) lkX8_keep_28 dX8_keep_17 ?_
    obtain ⟨x_1, hx_1, hr⟩ := Option.bind_eq_some_iff.mp hr
    refine Ev.cVv (pc := 20) (As := [.int _, .ref 3]) (kX6_store _ _ _ _ _ hx_1) rfl rfl (ob_6 _) gX8_keep_X6_store hdX6_store rfl ⟨rfl, rfl⟩ ⟨Nat.le_of_ble_eq_true rfl, Nat.le_of_ble_eq_true rfl⟩ (Nat.le_of_ble_eq_true rfl) ⟨Nat.le_of_ble_eq_true rfl, Nat.le_of_ble_eq_true rfl⟩ dX8_keep_20 ?_
    refine Ev.aload_n (pc := 23) dX8_keep_23 rfl ?_
    refine Ev.get (pc := 24) (C0 := RX8) (T := TX8) (N := 10) (fl_0_2 _ _ _ _) rfl inX8_keep (by decide) lkX8_keep_28 dX8_keep_24 ?_
    refine Ev.cVi (pc := 27) (As := []) (kX4_now _ _ _ _ (Or.inl rfl)) rfl rfl (ob_3 _) gX8_keep_X4_now hdX4_now rfl ⟨rfl, rfl⟩ ⟨Nat.le_of_ble_eq_true rfl, Nat.le_of_ble_eq_true rfl⟩ (Nat.le_of_ble_eq_true rfl) ⟨Nat.le_of_ble_eq_true rfl, Nat.le_of_ble_eq_true rfl⟩ dX8_keep_27 ?_
    cases hr
    exact Ev.iret rfl rfl dX8_keep_30 ⟨rfl, rfl⟩
  · have hr := ifn hr (ntr c_1)
    refine Ev.iconst (pc := 9) (v := (-1)) dX8_keep_9 (by decide) ?_
    cases hr
    exact Ev.iret rfl rfl dX8_keep_10 ⟨rfl, rfl⟩
/-! X8_again -/
def sX8_again (g : Hg) (a1 : Int32) : Option (Int32 × Hg) := if (sX8_within a1 (nI 0) (nI 1)) = true then (if (sX6_isFilled g a1) = true then ((sX6_bringBack g a1).bind fun x_1 => (some (sX4_now (sX0_forgetAll x_1) 3, sX0_forgetAll x_1))) else (some ((-3), g))) else (some ((-1), g))
set_option maxRecDepth 20000 in
set_option maxHeartbeats 1000000 in
theorem kX8_again (g : Hg) (q : Int64) (g2 : Hg) (q2 : Int64) (a1 : Int32) {r : Int32 × Hg} (hr : sX8_again g a1 = some r) : CtI MX8_again [.ref 0, .int a1] (g, q, g2, q2) (fun x h' => x = r.1 ∧ h' = (r.2, q, g2, q2)) := by
  unfold sX8_again at hr
  refine CtI_L 0 rfl (by decide +kernel) rfl (Nat.le_of_ble_eq_true rfl) ?_
  show Ev _ _ 0 [some (.ref 0), some (.int a1)] [] _
  refine Ev.iload_n (pc := 0) dX8_again_0 rfl ?_
  refine Ev.iconst (pc := 1) (v := nI 0) dX8_again_1 (by decide) ?_
  refine Ev.iconst (pc := 2) (v := nI 1) dX8_again_2 (by decide) ?_
  refine Ev.cSi (pc := 3) (As := [.int _, .int _, .int _]) (kX8_within _ _ _ _ _ _ _) rfl gX8_again_X8_within hdX8_within rfl ⟨rfl, rfl⟩ ⟨Nat.le_of_ble_eq_true rfl, Nat.le_of_ble_eq_true rfl⟩ (Nat.le_of_ble_eq_true rfl) ⟨Nat.le_of_ble_eq_true rfl, Nat.le_of_ble_eq_true rfl⟩ dX8_again_3 ?_
  refine Ev.ifneB (pc := 6) (tgt := 11) dX8_again_6 (by decide) (fun c_1 => ?_) (fun c_1 => ?_)
  · have hr := ifp hr c_1
    refine Ev.aload_n (pc := 11) dX8_again_11 rfl ?_
    refine Ev.get (pc := 12) (C0 := RX8) (T := TX8) (N := 10) (fl_0_5 _ _ _ _) rfl inX8_again (by decide) lkX8_again_45 dX8_again_12 ?_
    refine Ev.iload_n (pc := 15) dX8_again_15 rfl ?_
    refine Ev.cVi (pc := 16) (As := [.int _]) (kX6_isFilled _ _ _ _ _) rfl rfl (ob_6 _) gX8_again_X6_isFilled hdX6_isFilled rfl ⟨rfl, rfl⟩ ⟨Nat.le_of_ble_eq_true rfl, Nat.le_of_ble_eq_true rfl⟩ (Nat.le_of_ble_eq_true rfl) ⟨Nat.le_of_ble_eq_true rfl, Nat.le_of_ble_eq_true rfl⟩ dX8_again_16 ?_
    refine Ev.ifneB (pc := 19) (tgt := 25) dX8_again_19 (by decide) (fun c_2 => ?_) (fun c_2 => ?_)
    · have hr := ifp hr c_2
      refine Ev.aload_n (pc := 25) dX8_again_25 rfl ?_
      refine Ev.get (pc := 26) (C0 := RX8) (T := TX8) (N := 10) (fl_0_5 _ _ _ _) rfl inX8_again (by decide) lkX8_again_45 dX8_again_26 ?_
      refine Ev.iload_n (pc := 29) dX8_again_29 rfl ?_
      refine Ev.aload_n (pc := 30) dX8_again_30 rfl ?_
      refine Ev.get (pc := 31) (C0 := RX8) (T := TX8) (N := 10) (fl_0_2 _ _ _ _) rfl inX8_again (by decide) lkX8_again_28 dX8_again_31 ?_
      obtain ⟨x_1, hx_1, hr⟩ := Option.bind_eq_some_iff.mp hr
      refine Ev.cVv (pc := 34) (As := [.int _, .ref 3]) (kX6_bringBack _ _ _ _ _ hx_1) rfl rfl (ob_6 _) gX8_again_X6_bringBack hdX6_bringBack rfl ⟨rfl, rfl⟩ ⟨Nat.le_of_ble_eq_true rfl, Nat.le_of_ble_eq_true rfl⟩ (Nat.le_of_ble_eq_true rfl) ⟨Nat.le_of_ble_eq_true rfl, Nat.le_of_ble_eq_true rfl⟩ dX8_again_34 ?_
      refine Ev.aload_n (pc := 37) dX8_again_37 rfl ?_
      refine Ev.get (pc := 38) (C0 := RX8) (T := TX8) (N := 10) (fl_0_4 _ _ _ _) rfl inX8_again (by decide) lkX8_again_38 dX8_again_38 ?_
      refine Ev.cVv (pc := 41) (As := []) (kX0_forgetAll _ _ _ _) rfl rfl (ob_5 _) gX8_again_X0_forgetAll hdX0_forgetAll rfl ⟨rfl, rfl⟩ ⟨Nat.le_of_ble_eq_true rfl, Nat.le_of_ble_eq_true rfl⟩ (Nat.le_of_ble_eq_true rfl) ⟨Nat.le_of_ble_eq_true rfl, Nat.le_of_ble_eq_true rfl⟩ dX8_again_41 ?_
      refine Ev.aload_n (pc := 44) dX8_again_44 rfl ?_
      refine Ev.get (pc := 45) (C0 := RX8) (T := TX8) (N := 10) (fl_0_2 _ _ _ _) rfl inX8_again (by decide) lkX8_again_28 dX8_again_45 ?_
      refine Ev.cVi (pc := 48) (As := []) (kX4_now _ _ _ _ (Or.inl rfl)) rfl rfl (ob_3 _) gX8_again_X4_now hdX4_now rfl ⟨rfl, rfl⟩ ⟨Nat.le_of_ble_eq_true rfl, Nat.le_of_ble_eq_true rfl⟩ (Nat.le_of_ble_eq_true rfl) ⟨Nat.le_of_ble_eq_true rfl, Nat.le_of_ble_eq_true rfl⟩ dX8_again_48 ?_
      cases hr
      exact Ev.iret rfl rfl dX8_again_51 ⟨rfl, rfl⟩
    · have hr := ifn hr (ntr c_2)
      refine Ev.bipush (pc := 22) (v := (-3)) dX8_again_22 (by decide) ?_
      cases hr
      exact Ev.iret rfl rfl dX8_again_24 ⟨rfl, rfl⟩
  · have hr := ifn hr (ntr c_1)
    refine Ev.iconst (pc := 9) (v := (-1)) dX8_again_9 (by decide) ?_
    cases hr
    exact Ev.iret rfl rfl dX8_again_10 ⟨rfl, rfl⟩
/-! X8_count -/
def sX8_count (g : Hg) (a1 : Int32) : Option (Int32) := if (sX8_within a1 (nI 0) (nI 12)) = true then (if a1 = nI 0 then (some (sX7_length g)) else (if a1 = nI 1 then (some (sX1_tideCount g)) else (if a1 = nI 2 then (some (sX1_findCount g)) else (if a1 = nI 3 then (some (sX1_larkCount g)) else (if a1 = nI 4 then (some (sX4_now g 3)) else (if a1 = nI 5 then ((sX1_waterIn g (sX4_now g 3)).bind fun x_1 => (some x_1)) else (if a1 = nI 6 then ((sX4_findsThat g 3 (nI 0)).bind fun x_2 => (some x_2)) else (if a1 = nI 7 then ((sX4_findsThat g 3 (nI 1)).bind fun x_3 => (some x_3)) else (if a1 = nI 8 then ((sX4_findsThat g 3 (nI 2)).bind fun x_4 => (some x_4)) else (if a1 = nI 9 then (some (sX4_drowned g 3)) else (if a1 = nI 10 then ((sX4_coinsOfAll g 3).bind fun x_5 => (some x_5)) else (if a1 = nI 11 then (some (sX0_size g)) else (some (sX5_size g)))))))))))))) else (some ((-2)))
set_option maxRecDepth 20000 in
set_option maxHeartbeats 1000000 in
theorem kX8_count (g : Hg) (q : Int64) (g2 : Hg) (q2 : Int64) (a1 : Int32) {r : Int32} (hr : sX8_count g a1 = some r) : CtI MX8_count [.ref 0, .int a1] (g, q, g2, q2) (fun x h' => x = r ∧ h' = (g, q, g2, q2)) := by
  unfold sX8_count at hr
  refine CtI_L 0 rfl (by decide +kernel) rfl (Nat.le_of_ble_eq_true rfl) ?_
  show Ev _ _ 0 [some (.ref 0), some (.int a1)] [] _
  refine Ev.iload_n (pc := 0) dX8_count_0 rfl ?_
  refine Ev.iconst (pc := 1) (v := nI 0) dX8_count_1 (by decide) ?_
  refine Ev.bipush (pc := 2) (v := nI 12) dX8_count_2 (by decide) ?_
  refine Ev.cSi (pc := 4) (As := [.int _, .int _, .int _]) (kX8_within _ _ _ _ _ _ _) rfl gX8_count_X8_within hdX8_within rfl ⟨rfl, rfl⟩ ⟨Nat.le_of_ble_eq_true rfl, Nat.le_of_ble_eq_true rfl⟩ (Nat.le_of_ble_eq_true rfl) ⟨Nat.le_of_ble_eq_true rfl, Nat.le_of_ble_eq_true rfl⟩ dX8_count_4 ?_
  refine Ev.ifneB (pc := 7) (tgt := 13) dX8_count_7 (by decide) (fun c_1 => ?_) (fun c_1 => ?_)
  · have hr := ifp hr c_1
    refine Ev.iload_n (pc := 13) dX8_count_13 rfl ?_
    by_cases c_2 : a1 = nI 0
    · have hr := ifp hr c_2
      refine Ev.tableK (pc := 14) (tgt := 76) 0 c_2 (by decide) dX8_count_14 (by decide) rfl (by decide) ?_
      refine Ev.aload_n (pc := 76) dX8_count_76 rfl ?_
      refine Ev.get (pc := 77) (C0 := RX8) (T := TX8) (N := 10) (fl_0_0 _ _ _ _) rfl inX8_count (by decide) lkX8_count_10 dX8_count_77 ?_
      refine Ev.cVi (pc := 80) (As := []) (kX7_length _ _ _ _) rfl rfl (ob_1 _) gX8_count_X7_length hdX7_length rfl ⟨rfl, rfl⟩ ⟨Nat.le_of_ble_eq_true rfl, Nat.le_of_ble_eq_true rfl⟩ (Nat.le_of_ble_eq_true rfl) ⟨Nat.le_of_ble_eq_true rfl, Nat.le_of_ble_eq_true rfl⟩ dX8_count_80 ?_
      cases hr
      exact Ev.iret rfl rfl dX8_count_83 ⟨rfl, rfl⟩
    have hr := ifn hr c_2
    by_cases c_3 : a1 = nI 1
    · have hr := ifp hr c_3
      refine Ev.tableK (pc := 14) (tgt := 84) 1 c_3 (by decide) dX8_count_14 (by decide) rfl (by decide) ?_
      refine Ev.aload_n (pc := 84) dX8_count_84 rfl ?_
      refine Ev.get (pc := 85) (C0 := RX8) (T := TX8) (N := 10) (fl_0_1 _ _ _ _) rfl inX8_count (by decide) lkX8_count_19 dX8_count_85 ?_
      refine Ev.cVi (pc := 88) (As := []) (kX1_tideCount _ _ _ _) rfl rfl (ob_2 _) gX8_count_X1_tideCount hdX1_tideCount rfl ⟨rfl, rfl⟩ ⟨Nat.le_of_ble_eq_true rfl, Nat.le_of_ble_eq_true rfl⟩ (Nat.le_of_ble_eq_true rfl) ⟨Nat.le_of_ble_eq_true rfl, Nat.le_of_ble_eq_true rfl⟩ dX8_count_88 ?_
      cases hr
      exact Ev.iret rfl rfl dX8_count_91 ⟨rfl, rfl⟩
    have hr := ifn hr c_3
    by_cases c_4 : a1 = nI 2
    · have hr := ifp hr c_4
      refine Ev.tableK (pc := 14) (tgt := 92) 2 c_4 (by decide) dX8_count_14 (by decide) rfl (by decide) ?_
      refine Ev.aload_n (pc := 92) dX8_count_92 rfl ?_
      refine Ev.get (pc := 93) (C0 := RX8) (T := TX8) (N := 10) (fl_0_1 _ _ _ _) rfl inX8_count (by decide) lkX8_count_19 dX8_count_93 ?_
      refine Ev.cVi (pc := 96) (As := []) (kX1_findCount _ _ _ _) rfl rfl (ob_2 _) gX8_count_X1_findCount hdX1_findCount rfl ⟨rfl, rfl⟩ ⟨Nat.le_of_ble_eq_true rfl, Nat.le_of_ble_eq_true rfl⟩ (Nat.le_of_ble_eq_true rfl) ⟨Nat.le_of_ble_eq_true rfl, Nat.le_of_ble_eq_true rfl⟩ dX8_count_96 ?_
      cases hr
      exact Ev.iret rfl rfl dX8_count_99 ⟨rfl, rfl⟩
    have hr := ifn hr c_4
    by_cases c_5 : a1 = nI 3
    · have hr := ifp hr c_5
      refine Ev.tableK (pc := 14) (tgt := 100) 3 c_5 (by decide) dX8_count_14 (by decide) rfl (by decide) ?_
      refine Ev.aload_n (pc := 100) dX8_count_100 rfl ?_
      refine Ev.get (pc := 101) (C0 := RX8) (T := TX8) (N := 10) (fl_0_1 _ _ _ _) rfl inX8_count (by decide) lkX8_count_19 dX8_count_101 ?_
      refine Ev.cVi (pc := 104) (As := []) (kX1_larkCount _ _ _ _) rfl rfl (ob_2 _) gX8_count_X1_larkCount hdX1_larkCount rfl ⟨rfl, rfl⟩ ⟨Nat.le_of_ble_eq_true rfl, Nat.le_of_ble_eq_true rfl⟩ (Nat.le_of_ble_eq_true rfl) ⟨Nat.le_of_ble_eq_true rfl, Nat.le_of_ble_eq_true rfl⟩ dX8_count_104 ?_
      cases hr
      exact Ev.iret rfl rfl dX8_count_107 ⟨rfl, rfl⟩
    have hr := ifn hr c_5
    by_cases c_6 : a1 = nI 4
    · have hr := ifp hr c_6
      refine Ev.tableK (pc := 14) (tgt := 108) 4 c_6 (by decide) dX8_count_14 (by decide) rfl (by decide) ?_
      refine Ev.aload_n (pc := 108) dX8_count_108 rfl ?_
      refine Ev.get (pc := 109) (C0 := RX8) (T := TX8) (N := 10) (fl_0_2 _ _ _ _) rfl inX8_count (by decide) lkX8_count_28 dX8_count_109 ?_
      refine Ev.cVi (pc := 112) (As := []) (kX4_now _ _ _ _ (Or.inl rfl)) rfl rfl (ob_3 _) gX8_count_X4_now hdX4_now rfl ⟨rfl, rfl⟩ ⟨Nat.le_of_ble_eq_true rfl, Nat.le_of_ble_eq_true rfl⟩ (Nat.le_of_ble_eq_true rfl) ⟨Nat.le_of_ble_eq_true rfl, Nat.le_of_ble_eq_true rfl⟩ dX8_count_112 ?_
      cases hr
      exact Ev.iret rfl rfl dX8_count_115 ⟨rfl, rfl⟩
    have hr := ifn hr c_6
    by_cases c_7 : a1 = nI 5
    · have hr := ifp hr c_7
      refine Ev.tableK (pc := 14) (tgt := 116) 5 c_7 (by decide) dX8_count_14 (by decide) rfl (by decide) ?_
      refine Ev.aload_n (pc := 116) dX8_count_116 rfl ?_
      refine Ev.get (pc := 117) (C0 := RX8) (T := TX8) (N := 10) (fl_0_1 _ _ _ _) rfl inX8_count (by decide) lkX8_count_19 dX8_count_117 ?_
      refine Ev.aload_n (pc := 120) dX8_count_120 rfl ?_
      refine Ev.get (pc := 121) (C0 := RX8) (T := TX8) (N := 10) (fl_0_2 _ _ _ _) rfl inX8_count (by decide) lkX8_count_28 dX8_count_121 ?_
      refine Ev.cVi (pc := 124) (As := []) (kX4_now _ _ _ _ (Or.inl rfl)) rfl rfl (ob_3 _) gX8_count_X4_now hdX4_now rfl ⟨rfl, rfl⟩ ⟨Nat.le_of_ble_eq_true rfl, Nat.le_of_ble_eq_true rfl⟩ (Nat.le_of_ble_eq_true rfl) ⟨Nat.le_of_ble_eq_true rfl, Nat.le_of_ble_eq_true rfl⟩ dX8_count_124 ?_
      obtain ⟨x_1, hx_1, hr⟩ := Option.bind_eq_some_iff.mp hr
      refine Ev.cVi (pc := 127) (As := [.int _]) (kX1_waterIn _ _ _ _ _ hx_1) rfl rfl (ob_2 _) gX8_count_X1_waterIn hdX1_waterIn rfl ⟨rfl, rfl⟩ ⟨Nat.le_of_ble_eq_true rfl, Nat.le_of_ble_eq_true rfl⟩ (Nat.le_of_ble_eq_true rfl) ⟨Nat.le_of_ble_eq_true rfl, Nat.le_of_ble_eq_true rfl⟩ dX8_count_127 ?_
      cases hr
      exact Ev.iret rfl rfl dX8_count_130 ⟨rfl, rfl⟩
    have hr := ifn hr c_7
    by_cases c_8 : a1 = nI 6
    · have hr := ifp hr c_8
      refine Ev.tableK (pc := 14) (tgt := 131) 6 c_8 (by decide) dX8_count_14 (by decide) rfl (by decide) ?_
      refine Ev.aload_n (pc := 131) dX8_count_131 rfl ?_
      refine Ev.get (pc := 132) (C0 := RX8) (T := TX8) (N := 10) (fl_0_2 _ _ _ _) rfl inX8_count (by decide) lkX8_count_28 dX8_count_132 ?_
      refine Ev.iconst (pc := 135) (v := nI 0) dX8_count_135 (by decide) ?_
      obtain ⟨x_2, hx_2, hr⟩ := Option.bind_eq_some_iff.mp hr
      refine Ev.cVi (pc := 136) (As := [.int _]) (kX4_findsThat _ _ _ _ (Or.inl rfl) _ hx_2) rfl rfl (ob_3 _) gX8_count_X4_findsThat hdX4_findsThat rfl ⟨rfl, rfl⟩ ⟨Nat.le_of_ble_eq_true rfl, Nat.le_of_ble_eq_true rfl⟩ (Nat.le_of_ble_eq_true rfl) ⟨Nat.le_of_ble_eq_true rfl, Nat.le_of_ble_eq_true rfl⟩ dX8_count_136 ?_
      cases hr
      exact Ev.iret rfl rfl dX8_count_139 ⟨rfl, rfl⟩
    have hr := ifn hr c_8
    by_cases c_9 : a1 = nI 7
    · have hr := ifp hr c_9
      refine Ev.tableK (pc := 14) (tgt := 140) 7 c_9 (by decide) dX8_count_14 (by decide) rfl (by decide) ?_
      refine Ev.aload_n (pc := 140) dX8_count_140 rfl ?_
      refine Ev.get (pc := 141) (C0 := RX8) (T := TX8) (N := 10) (fl_0_2 _ _ _ _) rfl inX8_count (by decide) lkX8_count_28 dX8_count_141 ?_
      refine Ev.iconst (pc := 144) (v := nI 1) dX8_count_144 (by decide) ?_
      obtain ⟨x_3, hx_3, hr⟩ := Option.bind_eq_some_iff.mp hr
      refine Ev.cVi (pc := 145) (As := [.int _]) (kX4_findsThat _ _ _ _ (Or.inl rfl) _ hx_3) rfl rfl (ob_3 _) gX8_count_X4_findsThat hdX4_findsThat rfl ⟨rfl, rfl⟩ ⟨Nat.le_of_ble_eq_true rfl, Nat.le_of_ble_eq_true rfl⟩ (Nat.le_of_ble_eq_true rfl) ⟨Nat.le_of_ble_eq_true rfl, Nat.le_of_ble_eq_true rfl⟩ dX8_count_145 ?_
      cases hr
      exact Ev.iret rfl rfl dX8_count_148 ⟨rfl, rfl⟩
    have hr := ifn hr c_9
    by_cases c_10 : a1 = nI 8
    · have hr := ifp hr c_10
      refine Ev.tableK (pc := 14) (tgt := 149) 8 c_10 (by decide) dX8_count_14 (by decide) rfl (by decide) ?_
      refine Ev.aload_n (pc := 149) dX8_count_149 rfl ?_
      refine Ev.get (pc := 150) (C0 := RX8) (T := TX8) (N := 10) (fl_0_2 _ _ _ _) rfl inX8_count (by decide) lkX8_count_28 dX8_count_150 ?_
      refine Ev.iconst (pc := 153) (v := nI 2) dX8_count_153 (by decide) ?_
      obtain ⟨x_4, hx_4, hr⟩ := Option.bind_eq_some_iff.mp hr
      refine Ev.cVi (pc := 154) (As := [.int _]) (kX4_findsThat _ _ _ _ (Or.inl rfl) _ hx_4) rfl rfl (ob_3 _) gX8_count_X4_findsThat hdX4_findsThat rfl ⟨rfl, rfl⟩ ⟨Nat.le_of_ble_eq_true rfl, Nat.le_of_ble_eq_true rfl⟩ (Nat.le_of_ble_eq_true rfl) ⟨Nat.le_of_ble_eq_true rfl, Nat.le_of_ble_eq_true rfl⟩ dX8_count_154 ?_
      cases hr
      exact Ev.iret rfl rfl dX8_count_157 ⟨rfl, rfl⟩
    have hr := ifn hr c_10
    by_cases c_11 : a1 = nI 9
    · have hr := ifp hr c_11
      refine Ev.tableK (pc := 14) (tgt := 158) 9 c_11 (by decide) dX8_count_14 (by decide) rfl (by decide) ?_
      refine Ev.aload_n (pc := 158) dX8_count_158 rfl ?_
      refine Ev.get (pc := 159) (C0 := RX8) (T := TX8) (N := 10) (fl_0_2 _ _ _ _) rfl inX8_count (by decide) lkX8_count_28 dX8_count_159 ?_
      refine Ev.cVi (pc := 162) (As := []) (kX4_drowned _ _ _ _ (Or.inl rfl)) rfl rfl (ob_3 _) gX8_count_X4_drowned hdX4_drowned rfl ⟨rfl, rfl⟩ ⟨Nat.le_of_ble_eq_true rfl, Nat.le_of_ble_eq_true rfl⟩ (Nat.le_of_ble_eq_true rfl) ⟨Nat.le_of_ble_eq_true rfl, Nat.le_of_ble_eq_true rfl⟩ dX8_count_162 ?_
      cases hr
      exact Ev.iret rfl rfl dX8_count_165 ⟨rfl, rfl⟩
    have hr := ifn hr c_11
    by_cases c_12 : a1 = nI 10
    · have hr := ifp hr c_12
      refine Ev.tableK (pc := 14) (tgt := 166) 10 c_12 (by decide) dX8_count_14 (by decide) rfl (by decide) ?_
      refine Ev.aload_n (pc := 166) dX8_count_166 rfl ?_
      refine Ev.get (pc := 167) (C0 := RX8) (T := TX8) (N := 10) (fl_0_2 _ _ _ _) rfl inX8_count (by decide) lkX8_count_28 dX8_count_167 ?_
      obtain ⟨x_5, hx_5, hr⟩ := Option.bind_eq_some_iff.mp hr
      refine Ev.cVi (pc := 170) (As := []) (kX4_coinsOfAll _ _ _ _ (Or.inl rfl) hx_5) rfl rfl (ob_3 _) gX8_count_X4_coinsOfAll hdX4_coinsOfAll rfl ⟨rfl, rfl⟩ ⟨Nat.le_of_ble_eq_true rfl, Nat.le_of_ble_eq_true rfl⟩ (Nat.le_of_ble_eq_true rfl) ⟨Nat.le_of_ble_eq_true rfl, Nat.le_of_ble_eq_true rfl⟩ dX8_count_170 ?_
      cases hr
      exact Ev.iret rfl rfl dX8_count_173 ⟨rfl, rfl⟩
    have hr := ifn hr c_12
    by_cases c_13 : a1 = nI 11
    · have hr := ifp hr c_13
      refine Ev.tableK (pc := 14) (tgt := 174) 11 c_13 (by decide) dX8_count_14 (by decide) rfl (by decide) ?_
      refine Ev.aload_n (pc := 174) dX8_count_174 rfl ?_
      refine Ev.get (pc := 175) (C0 := RX8) (T := TX8) (N := 10) (fl_0_4 _ _ _ _) rfl inX8_count (by decide) lkX8_count_38 dX8_count_175 ?_
      refine Ev.cVi (pc := 178) (As := []) (kX0_size _ _ _ _) rfl rfl (ob_5 _) gX8_count_X0_size hdX0_size rfl ⟨rfl, rfl⟩ ⟨Nat.le_of_ble_eq_true rfl, Nat.le_of_ble_eq_true rfl⟩ (Nat.le_of_ble_eq_true rfl) ⟨Nat.le_of_ble_eq_true rfl, Nat.le_of_ble_eq_true rfl⟩ dX8_count_178 ?_
      cases hr
      exact Ev.iret rfl rfl dX8_count_181 ⟨rfl, rfl⟩
    have hr := ifn hr c_13
    refine Ev.tableD (pc := 14) (tgt := 182) 12 (by decide) (fun j hj => by
        have hj2 : j = 0 ∨ j = 1 ∨ j = 2 ∨ j = 3 ∨ j = 4 ∨ j = 5 ∨ j = 6 ∨ j = 7 ∨ j = 8 ∨ j = 9 ∨ j = 10 ∨ j = 11 := by omega
        rcases hj2 with rfl | rfl | rfl | rfl | rfl | rfl | rfl | rfl | rfl | rfl | rfl | rfl <;> assumption) rfl dX8_count_14 (by decide) ?_
    refine Ev.aload_n (pc := 182) dX8_count_182 rfl ?_
    refine Ev.get (pc := 183) (C0 := RX8) (T := TX8) (N := 10) (fl_0_6 _ _ _ _) rfl inX8_count (by decide) lkX8_count_52 dX8_count_183 ?_
    refine Ev.cVi (pc := 186) (As := []) (kX5_size _ _ _ _) rfl rfl (ob_7 _) gX8_count_X5_size hdX5_size rfl ⟨rfl, rfl⟩ ⟨Nat.le_of_ble_eq_true rfl, Nat.le_of_ble_eq_true rfl⟩ (Nat.le_of_ble_eq_true rfl) ⟨Nat.le_of_ble_eq_true rfl, Nat.le_of_ble_eq_true rfl⟩ dX8_count_186 ?_
    cases hr
    exact Ev.iret rfl rfl dX8_count_189 ⟨rfl, rfl⟩
  · have hr := ifn hr (ntr c_1)
    refine Ev.bipush (pc := 10) (v := (-2)) dX8_count_10 (by decide) ?_
    cases hr
    exact Ev.iret rfl rfl dX8_count_12 ⟨rfl, rfl⟩
