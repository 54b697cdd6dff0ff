/-! X4_passHour -/
def sX4_passHour_23 (t : Nat) : Nat → Hg → Int32 → Int32 → Option (Int32 × Hg)
  | 0, _, _, _ => none
  | n + 1, g, v1, v2 => if (sX1_larkCount g) ≤ v2 then (some (v1, g)) else (if (sX4_isDrowned g t v2) = true then (sX4_passHour_23 t n g v1 (v2 + (nI 1))) else ((sX4_cellOfLark g t v2).bind fun x_1 => ((sX1_stands g v2 x_1 (sX4_now g t)).bind fun x_2 => (if x_2 = true then (sX4_passHour_23 t n g v1 (v2 + (nI 1))) else ((sX4_layDown g t v2).bind fun x_3 => (sX4_passHour_23 t n (stA x_3 (t + 15) (Int32.toNatClampNeg (nI 24)) ((x_3 (t + 15) (Int32.toNatClampNeg (nI 24))) ||| (sX8_bit v2))) (v1 + (nI 1)) (v2 + (nI 1))))))))
set_option maxRecDepth 20000 in
set_option maxHeartbeats 1000000 in
theorem kX4_passHour_23 (q : Int64) (g2 : Hg) (q2 : Int64) {t : Nat} (ht : t = 3 ∨ t = 4)  (r : Int32 × Hg) : ∀ (n : Nat) (g : Hg) (v1 : Int32) (v2 : Int32), sX4_passHour_23 t n g v1 v2 = some r → Ev (Xi (fun x h' => x = r.1 ∧ h' = (r.2, q, g2, q2))) MX4_passHour 23 [some (.ref t), some (.int v1), some (.int v2)] [] (g, q, g2, q2) := by
  intro n
  induction n with
  | zero => intro _ _ _ hr; cases hr
  | succ n ih =>
    intro g v1 v2 hr
    rw [sX4_passHour_23] at hr
    refine Ev.iload_n (pc := 23) dX4_passHour_23 rfl ?_
    refine Ev.aload_n (pc := 24) dX4_passHour_24 rfl ?_
    refine Ev.get (pc := 25) (C0 := RX4) (T := TX4) (N := 2) (fl_t_0 ht _ _ _ _) rfl inX4_passHour (by decide) lkX4_passHour_15 dX4_passHour_25 ?_
    refine Ev.cVi (pc := 28) (As := []) (kX1_larkCount _ _ _ _) rfl rfl (ob_2 _) gX4_passHour_X1_larkCount hdX1_larkCount rfl ⟨rfl, rfl⟩ ⟨Nat.le_of_ble_eq_true rfl, Nat.le_of_ble_eq_true rfl⟩ (Nat.le_of_ble_eq_true rfl) ⟨Nat.le_of_ble_eq_true rfl, Nat.le_of_ble_eq_true rfl⟩ dX4_passHour_28 ?_
    refine Ev.icmpge (pc := 31) (tgt := 90) dX4_passHour_31 (by decide) (fun c_1 => ?_) (fun c_1 => ?_)
    · have hr := ifp hr c_1
      refine Ev.iload_n (pc := 90) dX4_passHour_90 rfl ?_
      cases hr
      exact Ev.iret rfl rfl dX4_passHour_91 ⟨rfl, rfl⟩
    · have hr := ifn hr c_1
      refine Ev.aload_n (pc := 34) dX4_passHour_34 rfl ?_
      refine Ev.iload_n (pc := 35) dX4_passHour_35 rfl ?_
      refine Ev.cVi (pc := 36) (As := [.int _]) (kX4_isDrowned _ _ _ _ ht _) rfl rfl (ob_t ht _) gX4_passHour_X4_isDrowned hdX4_isDrowned rfl ⟨rfl, rfl⟩ ⟨Nat.le_of_ble_eq_true rfl, Nat.le_of_ble_eq_true rfl⟩ (Nat.le_of_ble_eq_true rfl) ⟨Nat.le_of_ble_eq_true rfl, Nat.le_of_ble_eq_true rfl⟩ dX4_passHour_36 ?_
      refine Ev.ifneB (pc := 39) (tgt := 84) dX4_passHour_39 (by decide) (fun c_2 => ?_) (fun c_2 => ?_)
      · have hr := ifp hr c_2
        refine Ev.iinc (pc := 84) (v := nI 1) dX4_passHour_84 rfl rfl rfl rfl ?_
        refine Ev.goto (pc := 87) (tgt := 23) dX4_passHour_87 (by decide) ?_
        exact ih _ _ _ hr
      · have hr := ifn hr (ntr c_2)
        refine Ev.aload_n (pc := 42) dX4_passHour_42 rfl ?_
        refine Ev.get (pc := 43) (C0 := RX4) (T := TX4) (N := 2) (fl_t_0 ht _ _ _ _) rfl inX4_passHour (by decide) lkX4_passHour_15 dX4_passHour_43 ?_
        refine Ev.iload_n (pc := 46) dX4_passHour_46 rfl ?_
        refine Ev.aload_n (pc := 47) dX4_passHour_47 rfl ?_
        refine Ev.iload_n (pc := 48) dX4_passHour_48 rfl ?_
        obtain ⟨x_1, hx_1, hr⟩ := Option.bind_eq_some_iff.mp hr
        refine Ev.cVi (pc := 49) (As := [.int _]) (kX4_cellOfLark _ _ _ _ ht _ hx_1) rfl rfl (ob_t ht _) gX4_passHour_X4_cellOfLark hdX4_cellOfLark rfl ⟨rfl, rfl⟩ ⟨Nat.le_of_ble_eq_true rfl, Nat.le_of_ble_eq_true rfl⟩ (Nat.le_of_ble_eq_true rfl) ⟨Nat.le_of_ble_eq_true rfl, Nat.le_of_ble_eq_true rfl⟩ dX4_passHour_49 ?_
        refine Ev.aload_n (pc := 52) dX4_passHour_52 rfl ?_
        refine Ev.cVi (pc := 53) (As := []) (kX4_now _ _ _ _ ht) rfl rfl (ob_t ht _) gX4_passHour_X4_now hdX4_now rfl ⟨rfl, rfl⟩ ⟨Nat.le_of_ble_eq_true rfl, Nat.le_of_ble_eq_true rfl⟩ (Nat.le_of_ble_eq_true rfl) ⟨Nat.le_of_ble_eq_true rfl, Nat.le_of_ble_eq_true rfl⟩ dX4_passHour_53 ?_
        obtain ⟨x_2, hx_2, hr⟩ := Option.bind_eq_some_iff.mp hr
        refine Ev.cVi (pc := 56) (As := [.int _, .int _, .int _]) (kX1_stands _ _ _ _ _ _ _ hx_2) rfl rfl (ob_2 _) gX4_passHour_X1_stands hdX1_stands rfl ⟨rfl, rfl⟩ ⟨Nat.le_of_ble_eq_true rfl, Nat.le_of_ble_eq_true rfl⟩ (Nat.le_of_ble_eq_true rfl) ⟨Nat.le_of_ble_eq_true rfl, Nat.le_of_ble_eq_true rfl⟩ dX4_passHour_56 ?_
        refine Ev.ifneB (pc := 59) (tgt := 84) dX4_passHour_59 (by decide) (fun c_3 => ?_) (fun c_3 => ?_)
        · have hr := ifp hr c_3
          refine Ev.iinc (pc := 84) (v := nI 1) dX4_passHour_84 rfl rfl rfl rfl ?_
          refine Ev.goto (pc := 87) (tgt := 23) dX4_passHour_87 (by decide) ?_
          exact ih _ _ _ hr
        · have hr := ifn hr (ntr c_3)
          refine Ev.aload_n (pc := 62) dX4_passHour_62 rfl ?_
          refine Ev.iload_n (pc := 63) dX4_passHour_63 rfl ?_
          obtain ⟨x_3, hx_3, hr⟩ := Option.bind_eq_some_iff.mp hr
          refine Ev.cVv (pc := 64) (As := [.int _]) (kX4_layDown _ _ _ _ ht _ hx_3) rfl rfl (ob_t ht _) gX4_passHour_X4_layDown hdX4_layDown rfl ⟨rfl, rfl⟩ ⟨Nat.le_of_ble_eq_true rfl, Nat.le_of_ble_eq_true rfl⟩ (Nat.le_of_ble_eq_true rfl) ⟨Nat.le_of_ble_eq_true rfl, Nat.le_of_ble_eq_true rfl⟩ dX4_passHour_64 ?_
          refine Ev.aload_n (pc := 67) dX4_passHour_67 rfl ?_
          refine Ev.get (pc := 68) (C0 := RX4) (T := TX4) (N := 2) (fl_t_1 ht _ _ _ _) rfl inX4_passHour (by decide) lkX4_passHour_11 dX4_passHour_68 ?_
          refine Ev.bipush (pc := 71) (v := nI 24) dX4_passHour_71 (by decide) ?_
          refine Ev.dup2 (pc := 73) dX4_passHour_73 rfl rfl ?_
          refine Ev.iald (pc := 74) (ar_t ht _ _ _ _) (vp_in_nI (n := 24) (N := 27) (by decide) (by decide)) dX4_passHour_74 ?_
          refine Ev.iload_n (pc := 75) dX4_passHour_75 rfl ?_
          refine Ev.cNi (pc := 76) (As := [.int _]) (kX8_bit _ _ _ _ _) rfl gX4_passHour_X8_bit_n62 (by decide +kernel) stX4_passHour_X8_bit iniX4_passHour_X8_bit hdX8_bit rfl ⟨rfl, rfl⟩ ⟨Nat.le_of_ble_eq_true rfl, Nat.le_of_ble_eq_true rfl⟩ (Nat.le_of_ble_eq_true rfl) ⟨Nat.le_of_ble_eq_true rfl, Nat.le_of_ble_eq_true rfl⟩ dX4_passHour_76 ?_
          refine Ev.ior (pc := 79) dX4_passHour_79 ?_
          refine Ev.iast (pc := 80) (ar_t ht _ _ _ _) (vp_in_nI (n := 24) (N := 27) (by decide) (by decide)) (se_t ht _ _ _ _ _) dX4_passHour_80 ?_
          refine Ev.iinc (pc := 81) (v := nI 1) dX4_passHour_81 rfl rfl rfl rfl ?_
          refine Ev.iinc (pc := 84) (v := nI 1) dX4_passHour_84 rfl rfl rfl rfl ?_
          refine Ev.goto (pc := 87) (tgt := 23) dX4_passHour_87 (by decide) ?_
          exact ih _ _ _ hr
def sX4_passHour (g : Hg) (t : Nat) : Option (Int32 × Hg) := sX4_passHour_23 t 100 (stA (stA g (t + 15) (Int32.toNatClampNeg (nI 23)) ((g (t + 15) (Int32.toNatClampNeg (nI 23))) + (nI 1))) (t + 15) (Int32.toNatClampNeg (nI 25)) (nI 0)) (nI 0) (nI 0)
set_option maxRecDepth 20000 in
set_option maxHeartbeats 1000000 in
theorem kX4_passHour (g : Hg) (q : Int64) (g2 : Hg) (q2 : Int64) {t : Nat} (ht : t = 3 ∨ t = 4) {r : Int32 × Hg} (hr : sX4_passHour g t = some r) : CtI MX4_passHour [.ref t] (g, q, g2, q2) (fun x h' => x = r.1 ∧ h' = (r.2, q, g2, q2)) := by
  unfold sX4_passHour at hr
  refine CtI_L 2 rfl (by decide +kernel) rfl (Nat.le_of_ble_eq_true rfl) ?_
  show Ev _ _ 0 [some (.ref t), none, none] [] _
  refine Ev.aload_n (pc := 0) dX4_passHour_0 rfl ?_
  refine Ev.get (pc := 1) (C0 := RX4) (T := TX4) (N := 2) (fl_t_1 ht _ _ _ _) rfl inX4_passHour (by decide) lkX4_passHour_11 dX4_passHour_1 ?_
  refine Ev.bipush (pc := 4) (v := nI 23) dX4_passHour_4 (by decide) ?_
  refine Ev.dup2 (pc := 6) dX4_passHour_6 rfl rfl ?_
  refine Ev.iald (pc := 7) (ar_t ht _ _ _ _) (vp_in_nI (n := 23) (N := 27) (by decide) (by decide)) dX4_passHour_7 ?_
  refine Ev.iconst (pc := 8) (v := nI 1) dX4_passHour_8 (by decide) ?_
  refine Ev.iadd (pc := 9) dX4_passHour_9 ?_
  refine Ev.iast (pc := 10) (ar_t ht _ _ _ _) (vp_in_nI (n := 23) (N := 27) (by decide) (by decide)) (se_t ht _ _ _ _ _) dX4_passHour_10 ?_
  refine Ev.aload_n (pc := 11) dX4_passHour_11 rfl ?_
  refine Ev.get (pc := 12) (C0 := RX4) (T := TX4) (N := 2) (fl_t_1 ht _ _ _ _) rfl inX4_passHour (by decide) lkX4_passHour_11 dX4_passHour_12 ?_
  refine Ev.bipush (pc := 15) (v := nI 25) dX4_passHour_15 (by decide) ?_
  refine Ev.iconst (pc := 17) (v := nI 0) dX4_passHour_17 (by decide) ?_
  refine Ev.iast (pc := 18) (ar_t ht _ _ _ _) (vp_in_nI (n := 25) (N := 27) (by decide) (by decide)) (se_t ht _ _ _ _ _) dX4_passHour_18 ?_
  refine Ev.iconst (pc := 19) (v := nI 0) dX4_passHour_19 (by decide) ?_
  refine Ev.istore_n (pc := 20) dX4_passHour_20 rfl rfl ?_
  refine Ev.iconst (pc := 21) (v := nI 0) dX4_passHour_21 (by decide) ?_
  refine Ev.istore_n (pc := 22) dX4_passHour_22 rfl rfl ?_
  exact kX4_passHour_23 _ _ _ ht _ 100 _ _ _ hr
/-! X4_cellOfFind -/
def sX4_cellOfFind (g : Hg) (t : Nat) (a1 : Int32) : Option (Int32) := if (sX1_isFind g a1) = true then (if inb ((nI 8) + a1) 27 = true then (some (g (t + 15) (Int32.toNatClampNeg ((nI 8) + a1)))) else none) else (some ((-9)))
set_option maxRecDepth 20000 in
set_option maxHeartbeats 1000000 in
theorem kX4_cellOfFind (g : Hg) (q : Int64) (g2 : Hg) (q2 : Int64) {t : Nat} (ht : t = 3 ∨ t = 4) (a1 : Int32) {r : Int32} (hr : sX4_cellOfFind g t a1 = some r) : CtI MX4_cellOfFind [.ref t, .int a1] (g, q, g2, q2) (fun x h' => x = r ∧ h' = (g, q, g2, q2)) := by
  unfold sX4_cellOfFind at hr
  refine CtI_L 0 rfl (by decide +kernel) rfl (Nat.le_of_ble_eq_true rfl) ?_
  show Ev _ _ 0 [some (.ref t), some (.int a1)] [] _
  refine Ev.aload_n (pc := 0) dX4_cellOfFind_0 rfl ?_
  refine Ev.get (pc := 1) (C0 := RX4) (T := TX4) (N := 2) (fl_t_0 ht _ _ _ _) rfl inX4_cellOfFind (by decide) lkX4_cellOfFind_15 dX4_cellOfFind_1 ?_
  refine Ev.iload_n (pc := 4) dX4_cellOfFind_4 rfl ?_
  refine Ev.cVi (pc := 5) (As := [.int _]) (kX1_isFind _ _ _ _ _) rfl rfl (ob_2 _) gX4_cellOfFind_X1_isFind hdX1_isFind rfl ⟨rfl, rfl⟩ ⟨Nat.le_of_ble_eq_true rfl, Nat.le_of_ble_eq_true rfl⟩ (Nat.le_of_ble_eq_true rfl) ⟨Nat.le_of_ble_eq_true rfl, Nat.le_of_ble_eq_true rfl⟩ dX4_cellOfFind_5 ?_
  refine Ev.ifeqB (pc := 8) (tgt := 23) dX4_cellOfFind_8 (by decide) (fun c_1 => ?_) (fun c_1 => ?_)
  · have hr := ifn hr (ntr c_1)
    refine Ev.bipush (pc := 23) (v := (-9)) dX4_cellOfFind_23 (by decide) ?_
    cases hr
    exact Ev.iret rfl rfl dX4_cellOfFind_25 ⟨rfl, rfl⟩
  · have hr := ifp hr c_1
    refine Ev.aload_n (pc := 11) dX4_cellOfFind_11 rfl ?_
    refine Ev.get (pc := 12) (C0 := RX4) (T := TX4) (N := 2) (fl_t_1 ht _ _ _ _) rfl inX4_cellOfFind (by decide) lkX4_cellOfFind_11 dX4_cellOfFind_12 ?_
    refine Ev.bipush (pc := 15) (v := nI 8) dX4_cellOfFind_15 (by decide) ?_
    refine Ev.iload_n (pc := 17) dX4_cellOfFind_17 rfl ?_
    refine Ev.iadd (pc := 18) dX4_cellOfFind_18 ?_
    obtain ⟨c_2, hr⟩ := ckB hr
    refine Ev.iald (pc := 19) (ar_t ht _ _ _ _) (inb_in c_2) dX4_cellOfFind_19 ?_
    refine Ev.goto (pc := 20) (tgt := 25) dX4_cellOfFind_20 (by decide) ?_
    cases hr
    exact Ev.iret rfl rfl dX4_cellOfFind_25 ⟨rfl, rfl⟩
/-! X4_findsLyingAt -/
def sX4_findsLyingAt_4 (g : Hg) (t : Nat) (v1 : Int32) : Nat → Int32 → Int32 → Option (Int32)
  | 0, _, _ => none
  | n + 1, v2, v3 => if (sX1_findCount g) ≤ v3 then (some v2) else ((sX4_cellOfFind g t v3).bind fun x_1 => (if x_1 = v1 then (sX4_findsLyingAt_4 g t v1 n (v2 ||| (sX8_bit v3)) (v3 + (nI 1))) else (sX4_findsLyingAt_4 g t v1 n v2 (v3 + (nI 1)))))
set_option maxRecDepth 20000 in
set_option maxHeartbeats 1000000 in
theorem kX4_findsLyingAt_4 (g : Hg) (q : Int64) (g2 : Hg) (q2 : Int64) {t : Nat} (ht : t = 3 ∨ t = 4) (v1 : Int32) (r : Int32) : ∀ (n : Nat) (v2 : Int32) (v3 : Int32), sX4_findsLyingAt_4 g t v1 n v2 v3 = some r → Ev (Xi (fun x h' => x = r ∧ h' = (g, q, g2, q2))) MX4_findsLyingAt 4 [some (.ref t), some (.int v1), some (.int v2), some (.int v3)] [] (g, q, g2, q2) := by
  intro n
  induction n with
  | zero => intro _ _ hr; cases hr
  | succ n ih =>
    intro v2 v3 hr
    rw [sX4_findsLyingAt_4] at hr
    refine Ev.iload_n (pc := 4) dX4_findsLyingAt_4 rfl ?_
    refine Ev.aload_n (pc := 5) dX4_findsLyingAt_5 rfl ?_
    refine Ev.get (pc := 6) (C0 := RX4) (T := TX4) (N := 2) (fl_t_0 ht _ _ _ _) rfl inX4_findsLyingAt (by decide) lkX4_findsLyingAt_15 dX4_findsLyingAt_6 ?_
    refine Ev.cVi (pc := 9) (As := []) (kX1_findCount _ _ _ _) rfl rfl (ob_2 _) gX4_findsLyingAt_X1_findCount hdX1_findCount rfl ⟨rfl, rfl⟩ ⟨Nat.le_of_ble_eq_true rfl, Nat.le_of_ble_eq_true rfl⟩ (Nat.le_of_ble_eq_true rfl) ⟨Nat.le_of_ble_eq_true rfl, Nat.le_of_ble_eq_true rfl⟩ dX4_findsLyingAt_9 ?_
    refine Ev.icmpge (pc := 12) (tgt := 37) dX4_findsLyingAt_12 (by decide) (fun c_1 => ?_) (fun c_1 => ?_)
    · have hr := ifp hr c_1
      refine Ev.iload_n (pc := 37) dX4_findsLyingAt_37 rfl ?_
      cases hr
      exact Ev.iret rfl rfl dX4_findsLyingAt_38 ⟨rfl, rfl⟩
    · have hr := ifn hr c_1
      refine Ev.aload_n (pc := 15) dX4_findsLyingAt_15 rfl ?_
      refine Ev.iload_n (pc := 16) dX4_findsLyingAt_16 rfl ?_
      obtain ⟨x_1, hx_1, hr⟩ := Option.bind_eq_some_iff.mp hr
      refine Ev.cVi (pc := 17) (As := [.int _]) (kX4_cellOfFind _ _ _ _ ht _ hx_1) rfl rfl (ob_t ht _) gX4_findsLyingAt_X4_cellOfFind hdX4_cellOfFind rfl ⟨rfl, rfl⟩ ⟨Nat.le_of_ble_eq_true rfl, Nat.le_of_ble_eq_true rfl⟩ (Nat.le_of_ble_eq_true rfl) ⟨Nat.le_of_ble_eq_true rfl, Nat.le_of_ble_eq_true rfl⟩ dX4_findsLyingAt_17 ?_
      refine Ev.iload_n (pc := 20) dX4_findsLyingAt_20 rfl ?_
      refine Ev.icmpne (pc := 21) (tgt := 31) dX4_findsLyingAt_21 (by decide) (fun c_2 => ?_) (fun c_2 => ?_)
      · have hr := ifn hr c_2
        refine Ev.iinc (pc := 31) (v := nI 1) dX4_findsLyingAt_31 rfl rfl rfl rfl ?_
        refine Ev.goto (pc := 34) (tgt := 4) dX4_findsLyingAt_34 (by decide) ?_
        exact ih _ _ hr
      · have hr := ifp hr c_2
        refine Ev.iload_n (pc := 24) dX4_findsLyingAt_24 rfl ?_
        refine Ev.iload_n (pc := 25) dX4_findsLyingAt_25 rfl ?_
        refine Ev.cNi (pc := 26) (As := [.int _]) (kX8_bit _ _ _ _ _) rfl gX4_findsLyingAt_X8_bit_n62 (by decide +kernel) stX4_findsLyingAt_X8_bit iniX4_findsLyingAt_X8_bit hdX8_bit rfl ⟨rfl, rfl⟩ ⟨Nat.le_of_ble_eq_true rfl, Nat.le_of_ble_eq_true rfl⟩ (Nat.le_of_ble_eq_true rfl) ⟨Nat.le_of_ble_eq_true rfl, Nat.le_of_ble_eq_true rfl⟩ dX4_findsLyingAt_26 ?_
        refine Ev.ior (pc := 29) dX4_findsLyingAt_29 ?_
        refine Ev.istore_n (pc := 30) dX4_findsLyingAt_30 rfl rfl ?_
        refine Ev.iinc (pc := 31) (v := nI 1) dX4_findsLyingAt_31 rfl rfl rfl rfl ?_
        refine Ev.goto (pc := 34) (tgt := 4) dX4_findsLyingAt_34 (by decide) ?_
        exact ih _ _ hr
def sX4_findsLyingAt (g : Hg) (t : Nat) (a1 : Int32) : Option (Int32) := sX4_findsLyingAt_4 g t a1 100 (nI 0) (nI 0)
set_option maxRecDepth 20000 in
set_option maxHeartbeats 1000000 in
theorem kX4_findsLyingAt (g : Hg) (q : Int64) (g2 : Hg) (q2 : Int64) {t : Nat} (ht : t = 3 ∨ t = 4) (a1 : Int32) {r : Int32} (hr : sX4_findsLyingAt g t a1 = some r) : CtI MX4_findsLyingAt [.ref t, .int a1] (g, q, g2, q2) (fun x h' => x = r ∧ h' = (g, q, g2, q2)) := by
  unfold sX4_findsLyingAt at hr
  refine CtI_L 2 rfl (by decide +kernel) rfl (Nat.le_of_ble_eq_true rfl) ?_
  show Ev _ _ 0 [some (.ref t), some (.int a1), none, none] [] _
  refine Ev.iconst (pc := 0) (v := nI 0) dX4_findsLyingAt_0 (by decide) ?_
  refine Ev.istore_n (pc := 1) dX4_findsLyingAt_1 rfl rfl ?_
  refine Ev.iconst (pc := 2) (v := nI 0) dX4_findsLyingAt_2 (by decide) ?_
  refine Ev.istore_n (pc := 3) dX4_findsLyingAt_3 rfl rfl ?_
  exact kX4_findsLyingAt_4 _ _ _ _ ht _ _ 100 _ _ hr
/-! X2_greatestAge -/
def sX2_greatestAge_14 (g : Hg) (v1 : Int32) (v2 : Int32) : Nat → Int32 → Int32 → Option (Int32)
  | 0, _, _ => none
  | n + 1, v3, v4 => if (sX1_findCount g) ≤ v4 then (some v3) else (if (sX8_has v2 v4) = true then ((sX1_age g v4).bind fun x_2 => (sX2_greatestAge_14 g v1 v2 n (if v3 < x_2 then x_2 else v3) (v4 + (nI 1)))) else (sX2_greatestAge_14 g v1 v2 n v3 (v4 + (nI 1))))
set_option maxRecDepth 20000 in
set_option maxHeartbeats 1000000 in
theorem kX2_greatestAge_14 (g : Hg) (q : Int64) (g2 : Hg) (q2 : Int64)  (v1 : Int32) (v2 : Int32) (r : Int32) : ∀ (n : Nat) (v3 : Int32) (v4 : Int32), sX2_greatestAge_14 g v1 v2 n v3 v4 = some r → Ev (Xi (fun x h' => x = r ∧ h' = (g, q, g2, q2))) MX2_greatestAge 14 [some (.ref 9), some (.int v1), some (.int v2), some (.int v3), some (.int v4)] [] (g, q, g2, q2) := by
  intro n
  induction n with
  | zero => intro _ _ hr; cases hr
  | succ n ih =>
    intro v3 v4 hr
    rw [sX2_greatestAge_14] at hr
    refine Ev.iload (pc := 14) dX2_greatestAge_14 rfl ?_
    refine Ev.aload_n (pc := 16) dX2_greatestAge_16 rfl ?_
    refine Ev.get (pc := 17) (C0 := RX2) (T := TX2) (N := 5) (fl_9_0 _ _ _ _) rfl inX2_greatestAge (by decide) lkX2_greatestAge_18 dX2_greatestAge_17 ?_
    refine Ev.cVi (pc := 20) (As := []) (kX1_findCount _ _ _ _) rfl rfl (ob_2 _) gX2_greatestAge_X1_findCount hdX1_findCount rfl ⟨rfl, rfl⟩ ⟨Nat.le_of_ble_eq_true rfl, Nat.le_of_ble_eq_true rfl⟩ (Nat.le_of_ble_eq_true rfl) ⟨Nat.le_of_ble_eq_true rfl, Nat.le_of_ble_eq_true rfl⟩ dX2_greatestAge_20 ?_
    refine Ev.icmpge (pc := 23) (tgt := 55) dX2_greatestAge_23 (by decide) (fun c_1 => ?_) (fun c_1 => ?_)
    · have hr := ifp hr c_1
      refine Ev.iload_n (pc := 55) dX2_greatestAge_55 rfl ?_
      cases hr
      exact Ev.iret rfl rfl dX2_greatestAge_56 ⟨rfl, rfl⟩
    · have hr := ifn hr c_1
      refine Ev.iload_n (pc := 26) dX2_greatestAge_26 rfl ?_
      refine Ev.iload (pc := 27) dX2_greatestAge_27 rfl ?_
      refine Ev.cNi (pc := 29) (As := [.int _, .int _]) (kX8_has _ _ _ _ _ _) rfl gX2_greatestAge_X8_has_n72 (by decide +kernel) stX2_greatestAge_X8_has iniX2_greatestAge_X8_has hdX8_has rfl ⟨rfl, rfl⟩ ⟨Nat.le_of_ble_eq_true rfl, Nat.le_of_ble_eq_true rfl⟩ (Nat.le_of_ble_eq_true rfl) ⟨Nat.le_of_ble_eq_true rfl, Nat.le_of_ble_eq_true rfl⟩ dX2_greatestAge_29 ?_
      refine Ev.ifeqB (pc := 32) (tgt := 49) dX2_greatestAge_32 (by decide) (fun c_2 => ?_) (fun c_2 => ?_)
      · have hr := ifn hr (ntr c_2)
        refine Ev.iinc (pc := 49) (v := nI 1) dX2_greatestAge_49 rfl rfl rfl rfl ?_
        refine Ev.goto (pc := 52) (tgt := 14) dX2_greatestAge_52 (by decide) ?_
        exact ih _ _ hr
      · have hr := ifp hr c_2
        refine Ev.iload_n (pc := 35) dX2_greatestAge_35 rfl ?_
        refine Ev.aload_n (pc := 36) dX2_greatestAge_36 rfl ?_
        refine Ev.get (pc := 37) (C0 := RX2) (T := TX2) (N := 5) (fl_9_0 _ _ _ _) rfl inX2_greatestAge (by decide) lkX2_greatestAge_18 dX2_greatestAge_37 ?_
        refine Ev.iload (pc := 40) dX2_greatestAge_40 rfl ?_
        obtain ⟨x_2, hx_2, hr⟩ := Option.bind_eq_some_iff.mp hr
        refine Ev.cVi (pc := 42) (As := [.int _]) (kX1_age _ _ _ _ _ hx_2) rfl rfl (ob_2 _) gX2_greatestAge_X1_age hdX1_age rfl ⟨rfl, rfl⟩ ⟨Nat.le_of_ble_eq_true rfl, Nat.le_of_ble_eq_true rfl⟩ (Nat.le_of_ble_eq_true rfl) ⟨Nat.le_of_ble_eq_true rfl, Nat.le_of_ble_eq_true rfl⟩ dX2_greatestAge_42 ?_
        refine Ev.mmax (pc := 45) (by decide +kernel) (by decide +kernel) (by decide +kernel) (by decide +kernel) (by decide) (Nat.le_of_ble_eq_true rfl) ⟨Nat.le_of_ble_eq_true rfl, Nat.le_of_ble_eq_true rfl⟩ dX2_greatestAge_45 ?_
        refine Ev.istore_n (pc := 48) dX2_greatestAge_48 rfl rfl ?_
        refine Ev.iinc (pc := 49) (v := nI 1) dX2_greatestAge_49 rfl rfl rfl rfl ?_
        refine Ev.goto (pc := 52) (tgt := 14) dX2_greatestAge_52 (by decide) ?_
        exact ih _ _ hr
def sX2_greatestAge (g : Hg) (a1 : Int32) : Option (Int32) := (sX4_findsLyingAt g 4 a1).bind fun x_1 => (sX2_greatestAge_14 g a1 x_1 100 (nI 0) (nI 0))
set_option maxRecDepth 20000 in
set_option maxHeartbeats 1000000 in
theorem kX2_greatestAge (g : Hg) (q : Int64) (g2 : Hg) (q2 : Int64) (a1 : Int32) {r : Int32} (hr : sX2_greatestAge g a1 = some r) : CtI MX2_greatestAge [.ref 9, .int a1] (g, q, g2, q2) (fun x h' => x = r ∧ h' = (g, q, g2, q2)) := by
  unfold sX2_greatestAge at hr
  refine CtI_L 3 rfl (by decide +kernel) rfl (Nat.le_of_ble_eq_true rfl) ?_
  show Ev _ _ 0 [some (.ref 9), some (.int a1), none, none, none] [] _
  refine Ev.aload_n (pc := 0) dX2_greatestAge_0 rfl ?_
  refine Ev.get (pc := 1) (C0 := RX2) (T := TX2) (N := 5) (fl_9_2 _ _ _ _) rfl inX2_greatestAge (by decide) lkX2_greatestAge_26 dX2_greatestAge_1 ?_
  refine Ev.iload_n (pc := 4) dX2_greatestAge_4 rfl ?_
  obtain ⟨x_1, hx_1, hr⟩ := Option.bind_eq_some_iff.mp hr
  refine Ev.cVi (pc := 5) (As := [.int _]) (kX4_findsLyingAt _ _ _ _ (Or.inr rfl) _ hx_1) rfl rfl (ob_4 _) gX2_greatestAge_X4_findsLyingAt hdX4_findsLyingAt rfl ⟨rfl, rfl⟩ ⟨Nat.le_of_ble_eq_true rfl, Nat.le_of_ble_eq_true rfl⟩ (Nat.le_of_ble_eq_true rfl) ⟨Nat.le_of_ble_eq_true rfl, Nat.le_of_ble_eq_true rfl⟩ dX2_greatestAge_5 ?_
  refine Ev.istore_n (pc := 8) dX2_greatestAge_8 rfl rfl ?_
  refine Ev.iconst (pc := 9) (v := nI 0) dX2_greatestAge_9 (by decide) ?_
  refine Ev.istore_n (pc := 10) dX2_greatestAge_10 rfl rfl ?_
  refine Ev.iconst (pc := 11) (v := nI 0) dX2_greatestAge_11 (by decide) ?_
  refine Ev.istore (pc := 12) dX2_greatestAge_12 rfl rfl ?_
  exact kX2_greatestAge_14 _ _ _ _ _ _ _ 100 _ _ hr
/-! X2_gain -/
def sX2_gain (g : Hg) (a1 : Int32) (a2 : Int32) : Option (Int32) := if (sX4_isDrowned g 4 a1) = true then (some (nI 0)) else ((sX4_cellOfLark g 4 a1).bind fun x_1 => (if (sX4_isDrowned g 4 a2) = true then ((sX1_isBared g x_1 (sX4_now g 4)).bind fun x_2 => (if x_2 = true then ((sX2_greatestAge g x_1).bind fun x_3 => (some ((nI 3) + x_3))) else (some (nI 3)))) else ((sX4_cellOfLark g 4 a2).bind fun x_4 => (if x_4 = x_1 then (some (nI 3)) else ((sX1_isBared g x_1 (sX4_now g 4)).bind fun x_5 => (if x_5 = true then ((sX2_greatestAge g x_1).bind fun x_6 => (some ((nI 3) + x_6))) else (some (nI 3))))))))
set_option maxRecDepth 20000 in
set_option maxHeartbeats 1000000 in
theorem kX2_gain (g : Hg) (q : Int64) (g2 : Hg) (q2 : Int64) (a1 : Int32) (a2 : Int32) {r : Int32} (hr : sX2_gain g a1 a2 = some r) : CtI MX2_gain [.ref 9, .int a1, .int a2] (g, q, g2, q2) (fun x h' => x = r ∧ h' = (g, q, g2, q2)) := by
  unfold sX2_gain at hr
  refine CtI_L 2 rfl (by decide +kernel) rfl (Nat.le_of_ble_eq_true rfl) ?_
  show Ev _ _ 0 [some (.ref 9), some (.int a1), some (.int a2), none, none] [] _
  refine Ev.aload_n (pc := 0) dX2_gain_0 rfl ?_
  refine Ev.get (pc := 1) (C0 := RX2) (T := TX2) (N := 5) (fl_9_2 _ _ _ _) rfl inX2_gain (by decide) lkX2_gain_26 dX2_gain_1 ?_
  refine Ev.iload_n (pc := 4) dX2_gain_4 rfl ?_
  refine Ev.cVi (pc := 5) (As := [.int _]) (kX4_isDrowned _ _ _ _ (Or.inr rfl) _) rfl rfl (ob_4 _) gX2_gain_X4_isDrowned hdX4_isDrowned rfl ⟨rfl, rfl⟩ ⟨Nat.le_of_ble_eq_true rfl, Nat.le_of_ble_eq_true rfl⟩ (Nat.le_of_ble_eq_true rfl) ⟨Nat.le_of_ble_eq_true rfl, Nat.le_of_ble_eq_true rfl⟩ dX2_gain_5 ?_
  refine Ev.ifeqB (pc := 8) (tgt := 13) dX2_gain_8 (by decide) (fun c_1 => ?_) (fun c_1 => ?_)
  · have hr := ifn hr (ntr c_1)
    refine Ev.aload_n (pc := 13) dX2_gain_13 rfl ?_
    refine Ev.get (pc := 14) (C0 := RX2) (T := TX2) (N := 5) (fl_9_2 _ _ _ _) rfl inX2_gain (by decide) lkX2_gain_26 dX2_gain_14 ?_
    refine Ev.iload_n (pc := 17) dX2_gain_17 rfl ?_
    obtain ⟨x_1, hx_1, hr⟩ := Option.bind_eq_some_iff.mp hr
    refine Ev.cVi (pc := 18) (As := [.int _]) (kX4_cellOfLark _ _ _ _ (Or.inr rfl) _ hx_1) rfl rfl (ob_4 _) gX2_gain_X4_cellOfLark hdX4_cellOfLark rfl ⟨rfl, rfl⟩ ⟨Nat.le_of_ble_eq_true rfl, Nat.le_of_ble_eq_true rfl⟩ (Nat.le_of_ble_eq_true rfl) ⟨Nat.le_of_ble_eq_true rfl, Nat.le_of_ble_eq_true rfl⟩ dX2_gain_18 ?_
    refine Ev.istore_n (pc := 21) dX2_gain_21 rfl rfl ?_
    refine Ev.aload_n (pc := 22) dX2_gain_22 rfl ?_
    refine Ev.get (pc := 23) (C0 := RX2) (T := TX2) (N := 5) (fl_9_2 _ _ _ _) rfl inX2_gain (by decide) lkX2_gain_26 dX2_gain_23 ?_
    refine Ev.iload_n (pc := 26) dX2_gain_26 rfl ?_
    refine Ev.cVi (pc := 27) (As := [.int _]) (kX4_isDrowned _ _ _ _ (Or.inr rfl) _) rfl rfl (ob_4 _) gX2_gain_X4_isDrowned hdX4_isDrowned rfl ⟨rfl, rfl⟩ ⟨Nat.le_of_ble_eq_true rfl, Nat.le_of_ble_eq_true rfl⟩ (Nat.le_of_ble_eq_true rfl) ⟨Nat.le_of_ble_eq_true rfl, Nat.le_of_ble_eq_true rfl⟩ dX2_gain_27 ?_
    refine Ev.ifneB (pc := 30) (tgt := 45) dX2_gain_30 (by decide) (fun c_2 => ?_) (fun c_2 => ?_)
    · have hr := ifp hr c_2
      refine Ev.iconst (pc := 45) (v := nI 1) dX2_gain_45 (by decide) ?_
      refine Ev.goto (pc := 46) (tgt := 50) dX2_gain_46 (by decide) ?_
      refine Ev.istore (pc := 50) dX2_gain_50 rfl rfl ?_
      refine Ev.iload (pc := 52) dX2_gain_52 rfl ?_
      refine Ev.ifeq (pc := 54) (tgt := 85) dX2_gain_54 (by decide) (fun c_3 => ?_) (fun c_3 => ?_)
      · exact absurd c_3 (by decide)
      · refine Ev.aload_n (pc := 57) dX2_gain_57 rfl ?_
        refine Ev.get (pc := 58) (C0 := RX2) (T := TX2) (N := 5) (fl_9_0 _ _ _ _) rfl inX2_gain (by decide) lkX2_gain_18 dX2_gain_58 ?_
        refine Ev.iload_n (pc := 61) dX2_gain_61 rfl ?_
        refine Ev.aload_n (pc := 62) dX2_gain_62 rfl ?_
        refine Ev.get (pc := 63) (C0 := RX2) (T := TX2) (N := 5) (fl_9_2 _ _ _ _) rfl inX2_gain (by decide) lkX2_gain_26 dX2_gain_63 ?_
        refine Ev.cVi (pc := 66) (As := []) (kX4_now _ _ _ _ (Or.inr rfl)) rfl rfl (ob_4 _) gX2_gain_X4_now hdX4_now rfl ⟨rfl, rfl⟩ ⟨Nat.le_of_ble_eq_true rfl, Nat.le_of_ble_eq_true rfl⟩ (Nat.le_of_ble_eq_true rfl) ⟨Nat.le_of_ble_eq_true rfl, Nat.le_of_ble_eq_true rfl⟩ dX2_gain_66 ?_
        obtain ⟨x_2, hx_2, hr⟩ := Option.bind_eq_some_iff.mp hr
        refine Ev.cVi (pc := 69) (As := [.int _, .int _]) (kX1_isBared _ _ _ _ _ _ hx_2) rfl rfl (ob_2 _) gX2_gain_X1_isBared hdX1_isBared rfl ⟨rfl, rfl⟩ ⟨Nat.le_of_ble_eq_true rfl, Nat.le_of_ble_eq_true rfl⟩ (Nat.le_of_ble_eq_true rfl) ⟨Nat.le_of_ble_eq_true rfl, Nat.le_of_ble_eq_true rfl⟩ dX2_gain_69 ?_
        refine Ev.ifeqB (pc := 72) (tgt := 85) dX2_gain_72 (by decide) (fun c_4 => ?_) (fun c_4 => ?_)
        · have hr := ifn hr (ntr c_4)
          refine Ev.iconst (pc := 85) (v := nI 3) dX2_gain_85 (by decide) ?_
          cases hr
          exact Ev.iret rfl rfl dX2_gain_86 ⟨rfl, rfl⟩
        · have hr := ifp hr c_4
          refine Ev.iconst (pc := 75) (v := nI 3) dX2_gain_75 (by decide) ?_
          refine Ev.aload_n (pc := 76) dX2_gain_76 rfl ?_
          refine Ev.iload_n (pc := 77) dX2_gain_77 rfl ?_
          obtain ⟨x_3, hx_3, hr⟩ := Option.bind_eq_some_iff.mp hr
          refine Ev.cVi (pc := 78) (As := [.int _]) (kX2_greatestAge _ _ _ _ _ hx_3) rfl rfl (ob_9 _) gX2_gain_X2_greatestAge hdX2_greatestAge rfl ⟨rfl, rfl⟩ ⟨Nat.le_of_ble_eq_true rfl, Nat.le_of_ble_eq_true rfl⟩ (Nat.le_of_ble_eq_true rfl) ⟨Nat.le_of_ble_eq_true rfl, Nat.le_of_ble_eq_true rfl⟩ dX2_gain_78 ?_
          refine Ev.iadd (pc := 81) dX2_gain_81 ?_
          refine Ev.goto (pc := 82) (tgt := 86) dX2_gain_82 (by decide) ?_
          cases hr
          exact Ev.iret rfl rfl dX2_gain_86 ⟨rfl, rfl⟩
    · have hr := ifn hr (ntr c_2)
      refine Ev.aload_n (pc := 33) dX2_gain_33 rfl ?_
      refine Ev.get (pc := 34) (C0 := RX2) (T := TX2) (N := 5) (fl_9_2 _ _ _ _) rfl inX2_gain (by decide) lkX2_gain_26 dX2_gain_34 ?_
      refine Ev.iload_n (pc := 37) dX2_gain_37 rfl ?_
      obtain ⟨x_4, hx_4, hr⟩ := Option.bind_eq_some_iff.mp hr
      refine Ev.cVi (pc := 38) (As := [.int _]) (kX4_cellOfLark _ _ _ _ (Or.inr rfl) _ hx_4) rfl rfl (ob_4 _) gX2_gain_X4_cellOfLark hdX4_cellOfLark rfl ⟨rfl, rfl⟩ ⟨Nat.le_of_ble_eq_true rfl, Nat.le_of_ble_eq_true rfl⟩ (Nat.le_of_ble_eq_true rfl) ⟨Nat.le_of_ble_eq_true rfl, Nat.le_of_ble_eq_true rfl⟩ dX2_gain_38 ?_
      refine Ev.iload_n (pc := 41) dX2_gain_41 rfl ?_
      refine Ev.icmpeq (pc := 42) (tgt := 49) dX2_gain_42 (by decide) (fun c_5 => ?_) (fun c_5 => ?_)
      · have hr := ifp hr c_5
        refine Ev.iconst (pc := 49) (v := nI 0) dX2_gain_49 (by decide) ?_
        refine Ev.istore (pc := 50) dX2_gain_50 rfl rfl ?_
        refine Ev.iload (pc := 52) dX2_gain_52 rfl ?_
        refine Ev.ifeq (pc := 54) (tgt := 85) dX2_gain_54 (by decide) (fun c_6 => ?_) (fun c_6 => ?_)
        · refine Ev.iconst (pc := 85) (v := nI 3) dX2_gain_85 (by decide) ?_
          cases hr
          exact Ev.iret rfl rfl dX2_gain_86 ⟨rfl, rfl⟩
        · exact absurd c_6 (by decide)
      · have hr := ifn hr c_5
        refine Ev.iconst (pc := 45) (v := nI 1) dX2_gain_45 (by decide) ?_
        refine Ev.goto (pc := 46) (tgt := 50) dX2_gain_46 (by decide) ?_
        refine Ev.istore (pc := 50) dX2_gain_50 rfl rfl ?_
        refine Ev.iload (pc := 52) dX2_gain_52 rfl ?_
        refine Ev.ifeq (pc := 54) (tgt := 85) dX2_gain_54 (by decide) (fun c_7 => ?_) (fun c_7 => ?_)
        · exact absurd c_7 (by decide)
        · refine Ev.aload_n (pc := 57) dX2_gain_57 rfl ?_
          refine Ev.get (pc := 58) (C0 := RX2) (T := TX2) (N := 5) (fl_9_0 _ _ _ _) rfl inX2_gain (by decide) lkX2_gain_18 dX2_gain_58 ?_
          refine Ev.iload_n (pc := 61) dX2_gain_61 rfl ?_
          refine Ev.aload_n (pc := 62) dX2_gain_62 rfl ?_
          refine Ev.get (pc := 63) (C0 := RX2) (T := TX2) (N := 5) (fl_9_2 _ _ _ _) rfl inX2_gain (by decide) lkX2_gain_26 dX2_gain_63 ?_
          refine Ev.cVi (pc := 66) (As := []) (kX4_now _ _ _ _ (Or.inr rfl)) rfl rfl (ob_4 _) gX2_gain_X4_now hdX4_now rfl ⟨rfl, rfl⟩ ⟨Nat.le_of_ble_eq_true rfl, Nat.le_of_ble_eq_true rfl⟩ (Nat.le_of_ble_eq_true rfl) ⟨Nat.le_of_ble_eq_true rfl, Nat.le_of_ble_eq_true rfl⟩ dX2_gain_66 ?_
          obtain ⟨x_5, hx_5, hr⟩ := Option.bind_eq_some_iff.mp hr
          refine Ev.cVi (pc := 69) (As := [.int _, .int _]) (kX1_isBared _ _ _ _ _ _ hx_5) rfl rfl (ob_2 _) gX2_gain_X1_isBared hdX1_isBared rfl ⟨rfl, rfl⟩ ⟨Nat.le_of_ble_eq_true rfl, Nat.le_of_ble_eq_true rfl⟩ (Nat.le_of_ble_eq_true rfl) ⟨Nat.le_of_ble_eq_true rfl, Nat.le_of_ble_eq_true rfl⟩ dX2_gain_69 ?_
          refine Ev.ifeqB (pc := 72) (tgt := 85) dX2_gain_72 (by decide) (fun c_8 => ?_) (fun c_8 => ?_)
          · have hr := ifn hr (ntr c_8)
            refine Ev.iconst (pc := 85) (v := nI 3) dX2_gain_85 (by decide) ?_
            cases hr
            exact Ev.iret rfl rfl dX2_gain_86 ⟨rfl, rfl⟩
          · have hr := ifp hr c_8
            refine Ev.iconst (pc := 75) (v := nI 3) dX2_gain_75 (by decide) ?_
            refine Ev.aload_n (pc := 76) dX2_gain_76 rfl ?_
            refine Ev.iload_n (pc := 77) dX2_gain_77 rfl ?_
            obtain ⟨x_6, hx_6, hr⟩ := Option.bind_eq_some_iff.mp hr
            refine Ev.cVi (pc := 78) (As := [.int _]) (kX2_greatestAge _ _ _ _ _ hx_6) rfl rfl (ob_9 _) gX2_gain_X2_greatestAge hdX2_greatestAge rfl ⟨rfl, rfl⟩ ⟨Nat.le_of_ble_eq_true rfl, Nat.le_of_ble_eq_true rfl⟩ (Nat.le_of_ble_eq_true rfl) ⟨Nat.le_of_ble_eq_true rfl, Nat.le_of_ble_eq_true rfl⟩ dX2_gain_78 ?_
            refine Ev.iadd (pc := 81) dX2_gain_81 ?_
            refine Ev.goto (pc := 82) (tgt := 86) dX2_gain_82 (by decide) ?_
            cases hr
            exact Ev.iret rfl rfl dX2_gain_86 ⟨rfl, rfl⟩
  · have hr := ifp hr c_1
    refine Ev.iconst (pc := 11) (v := nI 0) dX2_gain_11 (by decide) ?_
    cases hr
    exact Ev.iret rfl rfl dX2_gain_12 ⟨rfl, rfl⟩
/-! X2_playAll -/
def sX2_playAll_2 (v1 : Int32) (v2 : Int32) : Nat → Hg → Int32 → Option (Hg)
  | 0, _, _ => none
  | n + 1, g, v3 => if (nI 25) ≤ v3 then (some g) else ((sX4_copyFrom g).bind fun x_1 => ((sX4_tryWalk x_1 4 v1 (v3 / (nI 5))).bind fun x_2 => ((sX4_tryWalk x_2.2 4 v2 (v3 - v3 / (nI 5) * (nI 5))).bind fun x_3 => ((sX4_passHour x_3.2 4).bind fun x_4 => ((sX2_gain x_4.2 v1 v2).bind fun x_5 => (if inb v3 25 = true then ((sX2_gain (stA x_4.2 27 (Int32.toNatClampNeg v3) x_5) v2 v1).bind fun x_6 => (if inb v3 25 = true then (sX2_playAll_2 v1 v2 n (stA (stA x_4.2 27 (Int32.toNatClampNeg v3) x_5) 28 (Int32.toNatClampNeg v3) x_6) (v3 + (nI 1))) else none)) else none))))))
set_option maxRecDepth 20000 in
set_option maxHeartbeats 1000000 in
theorem kX2_playAll_2 (q : Int64) (g2 : Hg) (q2 : Int64)  (v1 : Int32) (v2 : Int32) (r : Hg) : ∀ (n : Nat) (g : Hg) (v3 : Int32), sX2_playAll_2 v1 v2 n g v3 = some r → Ev (Xv (fun h' => h' = (r, q, g2, q2))) MX2_playAll 2 [some (.ref 9), some (.int v1), some (.int v2), some (.int v3)] [] (g, q, g2, q2) := by
  intro n
  induction n with
  | zero => intro _ _ hr; cases hr
  | succ n ih =>
    intro g v3 hr
    rw [sX2_playAll_2] at hr
    refine Ev.iload_n (pc := 2) dX2_playAll_2 rfl ?_
    refine Ev.bipush (pc := 3) (v := nI 25) dX2_playAll_3 (by decide) ?_
    refine Ev.icmpge (pc := 5) (tgt := 81) dX2_playAll_5 (by decide) (fun c_1 => ?_) (fun c_1 => ?_)
    · have hr := ifp hr c_1
      cases hr
      exact Ev.vret rfl dX2_playAll_81 rfl
    · have hr := ifn hr c_1
      refine Ev.aload_n (pc := 8) dX2_playAll_8 rfl ?_
      refine Ev.get (pc := 9) (C0 := RX2) (T := TX2) (N := 5) (fl_9_2 _ _ _ _) rfl inX2_playAll (by decide) lkX2_playAll_26 dX2_playAll_9 ?_
      refine Ev.aload_n (pc := 12) dX2_playAll_12 rfl ?_
      refine Ev.get (pc := 13) (C0 := RX2) (T := TX2) (N := 5) (fl_9_1 _ _ _ _) rfl inX2_playAll (by decide) lkX2_playAll_22 dX2_playAll_13 ?_
      obtain ⟨x_1, hx_1, hr⟩ := Option.bind_eq_some_iff.mp hr
      refine Ev.cVv (pc := 16) (As := [.ref 3]) (kX4_copyFrom _ _ _ _ hx_1) rfl rfl (ob_4 _) gX2_playAll_X4_copyFrom hdX4_copyFrom rfl ⟨rfl, rfl⟩ ⟨Nat.le_of_ble_eq_true rfl, Nat.le_of_ble_eq_true rfl⟩ (Nat.le_of_ble_eq_true rfl) ⟨Nat.le_of_ble_eq_true rfl, Nat.le_of_ble_eq_true rfl⟩ dX2_playAll_16 ?_
      refine Ev.aload_n (pc := 19) dX2_playAll_19 rfl ?_
      refine Ev.get (pc := 20) (C0 := RX2) (T := TX2) (N := 5) (fl_9_2 _ _ _ _) rfl inX2_playAll (by decide) lkX2_playAll_26 dX2_playAll_20 ?_
      refine Ev.iload_n (pc := 23) dX2_playAll_23 rfl ?_
      refine Ev.iload_n (pc := 24) dX2_playAll_24 rfl ?_
      refine Ev.iconst (pc := 25) (v := nI 5) dX2_playAll_25 (by decide) ?_
      refine Ev.idiv (pc := 26) dX2_playAll_26 (by decide) ?_
      obtain ⟨x_2, hx_2, hr⟩ := Option.bind_eq_some_iff.mp hr
      refine Ev.cVi (pc := 27) (As := [.int _, .int _]) (kX4_tryWalk _ _ _ _ (Or.inr rfl) _ _ hx_2) rfl rfl (ob_4 _) gX2_playAll_X4_tryWalk hdX4_tryWalk rfl ⟨rfl, rfl⟩ ⟨Nat.le_of_ble_eq_true rfl, Nat.le_of_ble_eq_true rfl⟩ (Nat.le_of_ble_eq_true rfl) ⟨Nat.le_of_ble_eq_true rfl, Nat.le_of_ble_eq_true rfl⟩ dX2_playAll_27 ?_
      refine Ev.pop (pc := 30) dX2_playAll_30 rfl ?_
      refine Ev.aload_n (pc := 31) dX2_playAll_31 rfl ?_
      refine Ev.get (pc := 32) (C0 := RX2) (T := TX2) (N := 5) (fl_9_2 _ _ _ _) rfl inX2_playAll (by decide) lkX2_playAll_26 dX2_playAll_32 ?_
      refine Ev.iload_n (pc := 35) dX2_playAll_35 rfl ?_
      refine Ev.iload_n (pc := 36) dX2_playAll_36 rfl ?_
      refine Ev.iconst (pc := 37) (v := nI 5) dX2_playAll_37 (by decide) ?_
      refine Ev.irem (pc := 38) dX2_playAll_38 (by decide) ?_
      obtain ⟨x_3, hx_3, hr⟩ := Option.bind_eq_some_iff.mp hr
      refine Ev.cVi (pc := 39) (As := [.int _, .int _]) (kX4_tryWalk _ _ _ _ (Or.inr rfl) _ _ hx_3) rfl rfl (ob_4 _) gX2_playAll_X4_tryWalk hdX4_tryWalk rfl ⟨rfl, rfl⟩ ⟨Nat.le_of_ble_eq_true rfl, Nat.le_of_ble_eq_true rfl⟩ (Nat.le_of_ble_eq_true rfl) ⟨Nat.le_of_ble_eq_true rfl, Nat.le_of_ble_eq_true rfl⟩ dX2_playAll_39 ?_
      refine Ev.pop (pc := 42) dX2_playAll_42 rfl ?_
      refine Ev.aload_n (pc := 43) dX2_playAll_43 rfl ?_
      refine Ev.get (pc := 44) (C0 := RX2) (T := TX2) (N := 5) (fl_9_2 _ _ _ _) rfl inX2_playAll (by decide) lkX2_playAll_26 dX2_playAll_44 ?_
      obtain ⟨x_4, hx_4, hr⟩ := Option.bind_eq_some_iff.mp hr
      refine Ev.cVi (pc := 47) (As := []) (kX4_passHour _ _ _ _ (Or.inr rfl) hx_4) rfl rfl (ob_4 _) gX2_playAll_X4_passHour hdX4_passHour rfl ⟨rfl, rfl⟩ ⟨Nat.le_of_ble_eq_true rfl, Nat.le_of_ble_eq_true rfl⟩ (Nat.le_of_ble_eq_true rfl) ⟨Nat.le_of_ble_eq_true rfl, Nat.le_of_ble_eq_true rfl⟩ dX2_playAll_47 ?_
      refine Ev.pop (pc := 50) dX2_playAll_50 rfl ?_
      refine Ev.aload_n (pc := 51) dX2_playAll_51 rfl ?_
      refine Ev.get (pc := 52) (C0 := RX2) (T := TX2) (N := 5) (fl_9_3 _ _ _ _) rfl inX2_playAll (by decide) lkX2_playAll_11 dX2_playAll_52 ?_
      refine Ev.iload_n (pc := 55) dX2_playAll_55 rfl ?_
      refine Ev.aload_n (pc := 56) dX2_playAll_56 rfl ?_
      refine Ev.iload_n (pc := 57) dX2_playAll_57 rfl ?_
      refine Ev.iload_n (pc := 58) dX2_playAll_58 rfl ?_
      obtain ⟨x_5, hx_5, hr⟩ := Option.bind_eq_some_iff.mp hr
      refine Ev.cVi (pc := 59) (As := [.int _, .int _]) (kX2_gain _ _ _ _ _ _ hx_5) rfl rfl (ob_9 _) gX2_playAll_X2_gain hdX2_gain rfl ⟨rfl, rfl⟩ ⟨Nat.le_of_ble_eq_true rfl, Nat.le_of_ble_eq_true rfl⟩ (Nat.le_of_ble_eq_true rfl) ⟨Nat.le_of_ble_eq_true rfl, Nat.le_of_ble_eq_true rfl⟩ dX2_playAll_59 ?_
      obtain ⟨c_2, hr⟩ := ckB hr
      refine Ev.iast (pc := 62) (ar_27 _ _ _ _) (inb_in c_2) (se_27 _ _ _ _ _) dX2_playAll_62 ?_
      refine Ev.aload_n (pc := 63) dX2_playAll_63 rfl ?_
      refine Ev.get (pc := 64) (C0 := RX2) (T := TX2) (N := 5) (fl_9_4 _ _ _ _) rfl inX2_playAll (by decide) lkX2_playAll_15 dX2_playAll_64 ?_
      refine Ev.iload_n (pc := 67) dX2_playAll_67 rfl ?_
      refine Ev.aload_n (pc := 68) dX2_playAll_68 rfl ?_
      refine Ev.iload_n (pc := 69) dX2_playAll_69 rfl ?_
      refine Ev.iload_n (pc := 70) dX2_playAll_70 rfl ?_
      obtain ⟨x_6, hx_6, hr⟩ := Option.bind_eq_some_iff.mp hr
      refine Ev.cVi (pc := 71) (As := [.int _, .int _]) (kX2_gain _ _ _ _ _ _ hx_6) rfl rfl (ob_9 _) gX2_playAll_X2_gain hdX2_gain rfl ⟨rfl, rfl⟩ ⟨Nat.le_of_ble_eq_true rfl, Nat.le_of_ble_eq_true rfl⟩ (Nat.le_of_ble_eq_true rfl) ⟨Nat.le_of_ble_eq_true rfl, Nat.le_of_ble_eq_true rfl⟩ dX2_playAll_71 ?_
      obtain ⟨c_3, hr⟩ := ckB hr
      refine Ev.iast (pc := 74) (ar_28 _ _ _ _) (inb_in c_3) (se_28 _ _ _ _ _) dX2_playAll_74 ?_
      refine Ev.iinc (pc := 75) (v := nI 1) dX2_playAll_75 rfl rfl rfl rfl ?_
      refine Ev.goto (pc := 78) (tgt := 2) dX2_playAll_78 (by decide) ?_
      exact ih _ _ hr
def sX2_playAll (g : Hg) (a1 : Int32) (a2 : Int32) : Option (Hg) := sX2_playAll_2 a1 a2 100 g (nI 0)
set_option maxRecDepth 20000 in
set_option maxHeartbeats 1000000 in
theorem kX2_playAll (g : Hg) (q : Int64) (g2 : Hg) (q2 : Int64) (a1 : Int32) (a2 : Int32) {r : Hg} (hr : sX2_playAll g a1 a2 = some r) : CtV MX2_playAll [.ref 9, .int a1, .int a2] (g, q, g2, q2) (fun h' => h' = (r, q, g2, q2)) := by
  unfold sX2_playAll at hr
  refine CtV_L 1 rfl (by decide +kernel) rfl (Nat.le_of_ble_eq_true rfl) ?_
  show Ev _ _ 0 [some (.ref 9), some (.int a1), some (.int a2), none] [] _
  refine Ev.iconst (pc := 0) (v := nI 0) dX2_playAll_0 (by decide) ?_
  refine Ev.istore_n (pc := 1) dX2_playAll_1 rfl rfl ?_
  exact kX2_playAll_2 _ _ _ _ _ _ 100 _ _ hr
/-! X2_isRest -/
def sX2_isRest_23 (g : Hg) (v1 : Int32) (v2 : Int32) (v3 : Int32) : Nat → Int32 → Option (Bool)
  | 0, _ => none
  | n + 1, v4 => if (nI 5) ≤ v4 then (some true) else (if inb ((v4 * (nI 5)) + v3) 25 = true then (if inb v1 25 = true then (if (g 27 (Int32.toNatClampNeg v1)) < (g 27 (Int32.toNatClampNeg ((v4 * (nI 5)) + v3))) then (some false) else (if inb ((v2 * (nI 5)) + v4) 25 = true then (if inb v1 25 = true then (if (g 28 (Int32.toNatClampNeg ((v2 * (nI 5)) + v4))) ≤ (g 28 (Int32.toNatClampNeg v1)) then (sX2_isRest_23 g v1 v2 v3 n (v4 + (nI 1))) else (some false)) else none) else none)) else none) else none)
set_option maxRecDepth 20000 in
set_option maxHeartbeats 1000000 in
theorem kX2_isRest_23 (g : Hg) (q : Int64) (g2 : Hg) (q2 : Int64)  (v1 : Int32) (v2 : Int32) (v3 : Int32) (r : Bool) : ∀ (n : Nat) (v4 : Int32), sX2_isRest_23 g v1 v2 v3 n v4 = some r → Ev (Xi (fun x h' => x = bI r ∧ h' = (g, q, g2, q2))) MX2_isRest 23 [some (.ref 9), some (.int v1), some (.int v2), some (.int v3), some (.int v4)] [] (g, q, g2, q2) := by
  intro n
  induction n with
  | zero => intro _ hr; cases hr
  | succ n ih =>
    intro v4 hr
    rw [sX2_isRest_23] at hr
    refine Ev.iload (pc := 23) dX2_isRest_23 rfl ?_
    refine Ev.iconst (pc := 25) (v := nI 5) dX2_isRest_25 (by decide) ?_
    refine Ev.icmpge (pc := 26) (tgt := 77) dX2_isRest_26 (by decide) (fun c_2 => ?_) (fun c_2 => ?_)
    · have hr := ifp hr c_2
      refine Ev.iconst (pc := 77) (v := nI 1) dX2_isRest_77 (by decide) ?_
      cases hr
      exact Ev.iret rfl rfl dX2_isRest_78 ⟨rfl, rfl⟩
    · have hr := ifn hr c_2
      refine Ev.aload_n (pc := 29) dX2_isRest_29 rfl ?_
      refine Ev.get (pc := 30) (C0 := RX2) (T := TX2) (N := 5) (fl_9_3 _ _ _ _) rfl inX2_isRest (by decide) lkX2_isRest_11 dX2_isRest_30 ?_
      refine Ev.iload (pc := 33) dX2_isRest_33 rfl ?_
      refine Ev.iconst (pc := 35) (v := nI 5) dX2_isRest_35 (by decide) ?_
      refine Ev.imul (pc := 36) dX2_isRest_36 ?_
      refine Ev.iload_n (pc := 37) dX2_isRest_37 rfl ?_
      refine Ev.iadd (pc := 38) dX2_isRest_38 ?_
      obtain ⟨c_3, hr⟩ := ckB hr
      refine Ev.iald (pc := 39) (ar_27 _ _ _ _) (inb_in c_3) dX2_isRest_39 ?_
      refine Ev.aload_n (pc := 40) dX2_isRest_40 rfl ?_
      refine Ev.get (pc := 41) (C0 := RX2) (T := TX2) (N := 5) (fl_9_3 _ _ _ _) rfl inX2_isRest (by decide) lkX2_isRest_11 dX2_isRest_41 ?_
      refine Ev.iload_n (pc := 44) dX2_isRest_44 rfl ?_
      obtain ⟨c_4, hr⟩ := ckB hr
      refine Ev.iald (pc := 45) (ar_27 _ _ _ _) (inb_in c_4) dX2_isRest_45 ?_
      refine Ev.icmpgt (pc := 46) (tgt := 69) dX2_isRest_46 (by decide) (fun c_5 => ?_) (fun c_5 => ?_)
      · have hr := ifp hr c_5
        refine Ev.iconst (pc := 69) (v := nI 0) dX2_isRest_69 (by decide) ?_
        cases hr
        exact Ev.iret rfl rfl dX2_isRest_70 ⟨rfl, rfl⟩
      · have hr := ifn hr c_5
        refine Ev.aload_n (pc := 49) dX2_isRest_49 rfl ?_
        refine Ev.get (pc := 50) (C0 := RX2) (T := TX2) (N := 5) (fl_9_4 _ _ _ _) rfl inX2_isRest (by decide) lkX2_isRest_15 dX2_isRest_50 ?_
        refine Ev.iload_n (pc := 53) dX2_isRest_53 rfl ?_
        refine Ev.iconst (pc := 54) (v := nI 5) dX2_isRest_54 (by decide) ?_
        refine Ev.imul (pc := 55) dX2_isRest_55 ?_
        refine Ev.iload (pc := 56) dX2_isRest_56 rfl ?_
        refine Ev.iadd (pc := 58) dX2_isRest_58 ?_
        obtain ⟨c_6, hr⟩ := ckB hr
        refine Ev.iald (pc := 59) (ar_28 _ _ _ _) (inb_in c_6) dX2_isRest_59 ?_
        refine Ev.aload_n (pc := 60) dX2_isRest_60 rfl ?_
        refine Ev.get (pc := 61) (C0 := RX2) (T := TX2) (N := 5) (fl_9_4 _ _ _ _) rfl inX2_isRest (by decide) lkX2_isRest_15 dX2_isRest_61 ?_
        refine Ev.iload_n (pc := 64) dX2_isRest_64 rfl ?_
        obtain ⟨c_7, hr⟩ := ckB hr
        refine Ev.iald (pc := 65) (ar_28 _ _ _ _) (inb_in c_7) dX2_isRest_65 ?_
        refine Ev.icmple (pc := 66) (tgt := 71) dX2_isRest_66 (by decide) (fun c_8 => ?_) (fun c_8 => ?_)
        · have hr := ifp hr c_8
          refine Ev.iinc (pc := 71) (v := nI 1) dX2_isRest_71 rfl rfl rfl rfl ?_
          refine Ev.goto (pc := 74) (tgt := 23) dX2_isRest_74 (by decide) ?_
          exact ih _ hr
        · have hr := ifn hr c_8
          refine Ev.iconst (pc := 69) (v := nI 0) dX2_isRest_69 (by decide) ?_
          cases hr
          exact Ev.iret rfl rfl dX2_isRest_70 ⟨rfl, rfl⟩
def sX2_isRest (g : Hg) (a1 : Int32) : Option (Bool) := if (sX8_within a1 (nI 0) (nI 24)) = true then (sX2_isRest_23 g a1 (a1 / (nI 5)) (a1 - a1 / (nI 5) * (nI 5)) 100 (nI 0)) else (some false)
set_option maxRecDepth 20000 in
set_option maxHeartbeats 1000000 in
theorem kX2_isRest (g : Hg) (q : Int64) (g2 : Hg) (q2 : Int64) (a1 : Int32) {r : Bool} (hr : sX2_isRest g a1 = some r) : CtI MX2_isRest [.ref 9, .int a1] (g, q, g2, q2) (fun x h' => x = bI r ∧ h' = (g, q, g2, q2)) := by
  unfold sX2_isRest at hr
  refine CtI_L 3 rfl (by decide +kernel) rfl (Nat.le_of_ble_eq_true rfl) ?_
  show Ev _ _ 0 [some (.ref 9), some (.int a1), none, none, none] [] _
  refine Ev.iload_n (pc := 0) dX2_isRest_0 rfl ?_
  refine Ev.iconst (pc := 1) (v := nI 0) dX2_isRest_1 (by decide) ?_
  refine Ev.bipush (pc := 2) (v := nI 24) dX2_isRest_2 (by decide) ?_
  refine Ev.cNi (pc := 4) (As := [.int _, .int _, .int _]) (kX8_within _ _ _ _ _ _ _) rfl gX2_isRest_X8_within_n86 (by decide +kernel) stX2_isRest_X8_within iniX2_isRest_X8_within hdX8_within rfl ⟨rfl, rfl⟩ ⟨Nat.le_of_ble_eq_true rfl, Nat.le_of_ble_eq_true rfl⟩ (Nat.le_of_ble_eq_true rfl) ⟨Nat.le_of_ble_eq_true rfl, Nat.le_of_ble_eq_true rfl⟩ dX2_isRest_4 ?_
  refine Ev.ifneB (pc := 7) (tgt := 12) dX2_isRest_7 (by decide) (fun c_1 => ?_) (fun c_1 => ?_)
  · have hr := ifp hr c_1
    refine Ev.iload_n (pc := 12) dX2_isRest_12 rfl ?_
    refine Ev.iconst (pc := 13) (v := nI 5) dX2_isRest_13 (by decide) ?_
    refine Ev.idiv (pc := 14) dX2_isRest_14 (by decide) ?_
    refine Ev.istore_n (pc := 15) dX2_isRest_15 rfl rfl ?_
    refine Ev.iload_n (pc := 16) dX2_isRest_16 rfl ?_
    refine Ev.iconst (pc := 17) (v := nI 5) dX2_isRest_17 (by decide) ?_
    refine Ev.irem (pc := 18) dX2_isRest_18 (by decide) ?_
    refine Ev.istore_n (pc := 19) dX2_isRest_19 rfl rfl ?_
    refine Ev.iconst (pc := 20) (v := nI 0) dX2_isRest_20 (by decide) ?_
    refine Ev.istore (pc := 21) dX2_isRest_21 rfl rfl ?_
    exact kX2_isRest_23 _ _ _ _ _ _ _ _ 100 _ hr
  · have hr := ifn hr (ntr c_1)
    refine Ev.iconst (pc := 10) (v := nI 0) dX2_isRest_10 (by decide) ?_
    cases hr
    exact Ev.iret rfl rfl dX2_isRest_11 ⟨rfl, rfl⟩
/-! X2_restCount -/
def sX2_restCount_4 (g : Hg) : Nat → Int32 → Int32 → Option (Int32)
  | 0, _, _ => none
  | n + 1, v1, v2 => if (nI 25) ≤ v2 then (some v1) else ((sX2_isRest g v2).bind fun x_1 => (if x_1 = true then (sX2_restCount_4 g n (v1 + (nI 1)) (v2 + (nI 1))) else (sX2_restCount_4 g n v1 (v2 + (nI 1)))))
set_option maxRecDepth 20000 in
set_option maxHeartbeats 1000000 in
theorem kX2_restCount_4 (g : Hg) (q : Int64) (g2 : Hg) (q2 : Int64)   (r : Int32) : ∀ (n : Nat) (v1 : Int32) (v2 : Int32), sX2_restCount_4 g n v1 v2 = some r → Ev (Xi (fun x h' => x = r ∧ h' = (g, q, g2, q2))) MX2_restCount 4 [some (.ref 9), some (.int v1), some (.int v2)] [] (g, q, g2, q2) := by
  intro n
  induction n with
  | zero => intro _ _ hr; cases hr
  | succ n ih =>
    intro v1 v2 hr
    rw [sX2_restCount_4] at hr
    refine Ev.iload_n (pc := 4) dX2_restCount_4 rfl ?_
    refine Ev.bipush (pc := 5) (v := nI 25) dX2_restCount_5 (by decide) ?_
    refine Ev.icmpge (pc := 7) (tgt := 27) dX2_restCount_7 (by decide) (fun c_1 => ?_) (fun c_1 => ?_)
    · have hr := ifp hr c_1
      refine Ev.iload_n (pc := 27) dX2_restCount_27 rfl ?_
      cases hr
      exact Ev.iret rfl rfl dX2_restCount_28 ⟨rfl, rfl⟩
    · have hr := ifn hr c_1
      refine Ev.aload_n (pc := 10) dX2_restCount_10 rfl ?_
      refine Ev.iload_n (pc := 11) dX2_restCount_11 rfl ?_
      obtain ⟨x_1, hx_1, hr⟩ := Option.bind_eq_some_iff.mp hr
      refine Ev.cVi (pc := 12) (As := [.int _]) (kX2_isRest _ _ _ _ _ hx_1) rfl rfl (ob_9 _) gX2_restCount_X2_isRest hdX2_isRest rfl ⟨rfl, rfl⟩ ⟨Nat.le_of_ble_eq_true rfl, Nat.le_of_ble_eq_true rfl⟩ (Nat.le_of_ble_eq_true rfl) ⟨Nat.le_of_ble_eq_true rfl, Nat.le_of_ble_eq_true rfl⟩ dX2_restCount_12 ?_
      refine Ev.ifeqB (pc := 15) (tgt := 21) dX2_restCount_15 (by decide) (fun c_2 => ?_) (fun c_2 => ?_)
      · have hr := ifn hr (ntr c_2)
        refine Ev.iinc (pc := 21) (v := nI 1) dX2_restCount_21 rfl rfl rfl rfl ?_
        refine Ev.goto (pc := 24) (tgt := 4) dX2_restCount_24 (by decide) ?_
        exact ih _ _ hr
      · have hr := ifp hr c_2
        refine Ev.iinc (pc := 18) (v := nI 1) dX2_restCount_18 rfl rfl rfl rfl ?_
        refine Ev.iinc (pc := 21) (v := nI 1) dX2_restCount_21 rfl rfl rfl rfl ?_
        refine Ev.goto (pc := 24) (tgt := 4) dX2_restCount_24 (by decide) ?_
        exact ih _ _ hr
def sX2_restCount (g : Hg) : Option (Int32) := sX2_restCount_4 g 100 (nI 0) (nI 0)
set_option maxRecDepth 20000 in
set_option maxHeartbeats 1000000 in
theorem kX2_restCount (g : Hg) (q : Int64) (g2 : Hg) (q2 : Int64) {r : Int32} (hr : sX2_restCount g = some r) : CtI MX2_restCount [.ref 9] (g, q, g2, q2) (fun x h' => x = r ∧ h' = (g, q, g2, q2)) := by
  unfold sX2_restCount at hr
  refine CtI_L 2 rfl (by decide +kernel) rfl (Nat.le_of_ble_eq_true rfl) ?_
  show Ev _ _ 0 [some (.ref 9), none, none] [] _
  refine Ev.iconst (pc := 0) (v := nI 0) dX2_restCount_0 (by decide) ?_
  refine Ev.istore_n (pc := 1) dX2_restCount_1 rfl rfl ?_
  refine Ev.iconst (pc := 2) (v := nI 0) dX2_restCount_2 (by decide) ?_
  refine Ev.istore_n (pc := 3) dX2_restCount_3 rfl rfl ?_
  exact kX2_restCount_4 _ _ _ _  _ 100 _ _ hr
/-! X2_firstRest -/
def sX2_firstRest_2 (g : Hg) : Nat → Int32 → Option (Int32)
  | 0, _ => none
  | n + 1, v1 => if (nI 25) ≤ v1 then (some ((-9))) else ((sX2_isRest g v1).bind fun x_1 => (if x_1 = true then (some (((nI 10) * (v1 / (nI 5))) + (v1 - v1 / (nI 5) * (nI 5)))) else (sX2_firstRest_2 g n (v1 + (nI 1)))))
set_option maxRecDepth 20000 in
set_option maxHeartbeats 1000000 in
theorem kX2_firstRest_2 (g : Hg) (q : Int64) (g2 : Hg) (q2 : Int64)   (r : Int32) : ∀ (n : Nat) (v1 : Int32), sX2_firstRest_2 g n v1 = some r → Ev (Xi (fun x h' => x = r ∧ h' = (g, q, g2, q2))) MX2_firstRest 2 [some (.ref 9), some (.int v1)] [] (g, q, g2, q2) := by
  intro n
  induction n with
  | zero => intro _ hr; cases hr
  | succ n ih =>
    intro v1 hr
    rw [sX2_firstRest_2] at hr
    refine Ev.iload_n (pc := 2) dX2_firstRest_2 rfl ?_
    refine Ev.bipush (pc := 3) (v := nI 25) dX2_firstRest_3 (by decide) ?_
    refine Ev.icmpge (pc := 5) (tgt := 33) dX2_firstRest_5 (by decide) (fun c_1 => ?_) (fun c_1 => ?_)
    · have hr := ifp hr c_1
      refine Ev.bipush (pc := 33) (v := (-9)) dX2_firstRest_33 (by decide) ?_
      cases hr
      exact Ev.iret rfl rfl dX2_firstRest_35 ⟨rfl, rfl⟩
    · have hr := ifn hr c_1
      refine Ev.aload_n (pc := 8) dX2_firstRest_8 rfl ?_
      refine Ev.iload_n (pc := 9) dX2_firstRest_9 rfl ?_
      obtain ⟨x_1, hx_1, hr⟩ := Option.bind_eq_some_iff.mp hr
      refine Ev.cVi (pc := 10) (As := [.int _]) (kX2_isRest _ _ _ _ _ hx_1) rfl rfl (ob_9 _) gX2_firstRest_X2_isRest hdX2_isRest rfl ⟨rfl, rfl⟩ ⟨Nat.le_of_ble_eq_true rfl, Nat.le_of_ble_eq_true rfl⟩ (Nat.le_of_ble_eq_true rfl) ⟨Nat.le_of_ble_eq_true rfl, Nat.le_of_ble_eq_true rfl⟩ dX2_firstRest_10 ?_
      refine Ev.ifeqB (pc := 13) (tgt := 27) dX2_firstRest_13 (by decide) (fun c_2 => ?_) (fun c_2 => ?_)
      · have hr := ifn hr (ntr c_2)
        refine Ev.iinc (pc := 27) (v := nI 1) dX2_firstRest_27 rfl rfl rfl rfl ?_
        refine Ev.goto (pc := 30) (tgt := 2) dX2_firstRest_30 (by decide) ?_
        exact ih _ hr
      · have hr := ifp hr c_2
        refine Ev.bipush (pc := 16) (v := nI 10) dX2_firstRest_16 (by decide) ?_
        refine Ev.iload_n (pc := 18) dX2_firstRest_18 rfl ?_
        refine Ev.iconst (pc := 19) (v := nI 5) dX2_firstRest_19 (by decide) ?_
        refine Ev.idiv (pc := 20) dX2_firstRest_20 (by decide) ?_
        refine Ev.imul (pc := 21) dX2_firstRest_21 ?_
        refine Ev.iload_n (pc := 22) dX2_firstRest_22 rfl ?_
        refine Ev.iconst (pc := 23) (v := nI 5) dX2_firstRest_23 (by decide) ?_
        refine Ev.irem (pc := 24) dX2_firstRest_24 (by decide) ?_
        refine Ev.iadd (pc := 25) dX2_firstRest_25 ?_
        cases hr
        exact Ev.iret rfl rfl dX2_firstRest_26 ⟨rfl, rfl⟩
def sX2_firstRest (g : Hg) : Option (Int32) := sX2_firstRest_2 g 100 (nI 0)
set_option maxRecDepth 20000 in
set_option maxHeartbeats 1000000 in
theorem kX2_firstRest (g : Hg) (q : Int64) (g2 : Hg) (q2 : Int64) {r : Int32} (hr : sX2_firstRest g = some r) : CtI MX2_firstRest [.ref 9] (g, q, g2, q2) (fun x h' => x = r ∧ h' = (g, q, g2, q2)) := by
  unfold sX2_firstRest at hr
  refine CtI_L 1 rfl (by decide +kernel) rfl (Nat.le_of_ble_eq_true rfl) ?_
  show Ev _ _ 0 [some (.ref 9), none] [] _
  refine Ev.iconst (pc := 0) (v := nI 0) dX2_firstRest_0 (by decide) ?_
  refine Ev.istore_n (pc := 1) dX2_firstRest_1 rfl rfl ?_
  exact kX2_firstRest_2 _ _ _ _  _ 100 _ hr
/-! X3_neighbours -/
def sX3_neighbours (a1 : Int32) : Int32 := (((((a1 &&& ((-274))) >>> ((nI 1) &&& 31)) ||| ((a1 &&& ((-2185))) <<< ((nI 1) &&& 31))) ||| (a1 >>> ((nI 4) &&& 31))) ||| ((a1 <<< ((nI 4) &&& 31)) &&& (nI 4095)))
set_option maxRecDepth 20000 in
set_option maxHeartbeats 1000000 in
theorem kX3_neighbours (g : Hg) (q : Int64) (g2 : Hg) (q2 : Int64) (a1 : Int32) : CtI MX3_neighbours [.int a1] (g, q, g2, q2) (fun x h' => x = (sX3_neighbours a1) ∧ h' = (g, q, g2, q2)) := by
  generalize hr : sX3_neighbours a1 = r
  unfold sX3_neighbours at hr
  refine CtI_L 4 rfl (by decide +kernel) rfl (Nat.le_of_ble_eq_true rfl) ?_
  show Ev _ _ 0 [some (.int a1), none, none, none, none] [] _
  refine Ev.iload_n (pc := 0) dX3_neighbours_0 rfl ?_
  refine Ev.sipush (pc := 1) (v := (-274)) dX3_neighbours_1 (by decide) ?_
  refine Ev.iand (pc := 4) dX3_neighbours_4 ?_
  refine Ev.iconst (pc := 5) (v := nI 1) dX3_neighbours_5 (by decide) ?_
  refine Ev.ishr (pc := 6) dX3_neighbours_6 ?_
  refine Ev.istore_n (pc := 7) dX3_neighbours_7 rfl rfl ?_
  refine Ev.iload_n (pc := 8) dX3_neighbours_8 rfl ?_
  refine Ev.sipush (pc := 9) (v := (-2185)) dX3_neighbours_9 (by decide) ?_
  refine Ev.iand (pc := 12) dX3_neighbours_12 ?_
  refine Ev.iconst (pc := 13) (v := nI 1) dX3_neighbours_13 (by decide) ?_
  refine Ev.ishl (pc := 14) dX3_neighbours_14 ?_
  refine Ev.istore_n (pc := 15) dX3_neighbours_15 rfl rfl ?_
  refine Ev.iload_n (pc := 16) dX3_neighbours_16 rfl ?_
  refine Ev.iconst (pc := 17) (v := nI 4) dX3_neighbours_17 (by decide) ?_
  refine Ev.ishr (pc := 18) dX3_neighbours_18 ?_
  refine Ev.istore_n (pc := 19) dX3_neighbours_19 rfl rfl ?_
  refine Ev.iload_n (pc := 20) dX3_neighbours_20 rfl ?_
  refine Ev.iconst (pc := 21) (v := nI 4) dX3_neighbours_21 (by decide) ?_
  refine Ev.ishl (pc := 22) dX3_neighbours_22 ?_
  refine Ev.sipush (pc := 23) (v := nI 4095) dX3_neighbours_23 (by decide) ?_
  refine Ev.iand (pc := 26) dX3_neighbours_26 ?_
  refine Ev.istore (pc := 27) dX3_neighbours_27 rfl rfl ?_
  refine Ev.iload_n (pc := 29) dX3_neighbours_29 rfl ?_
  refine Ev.iload_n (pc := 30) dX3_neighbours_30 rfl ?_
  refine Ev.ior (pc := 31) dX3_neighbours_31 ?_
  refine Ev.iload_n (pc := 32) dX3_neighbours_32 rfl ?_
  refine Ev.ior (pc := 33) dX3_neighbours_33 ?_
  refine Ev.iload (pc := 34) dX3_neighbours_34 rfl ?_
  refine Ev.ior (pc := 36) dX3_neighbours_36 ?_
  subst hr
  exact Ev.iret rfl rfl dX3_neighbours_37 ⟨rfl, rfl⟩
/-! X3_goals -/
def sX3_goals (g : Hg) (a1 : Int32) (a2 : Int32) : Option (Int32) := if a2 = 0 then (if (sX4_hasWalked g 3 a1) = true then (some (nI 0)) else ((sX1_cellsToStandOn g a1 ((sX4_now g 3) + a2)).bind fun x_2 => (some x_2))) else ((sX1_cellsToStandOn g a1 ((sX4_now g 3) + a2)).bind fun x_1 => (some x_1))
set_option maxRecDepth 20000 in
set_option maxHeartbeats 1000000 in
theorem kX3_goals (g : Hg) (q : Int64) (g2 : Hg) (q2 : Int64) (a1 : Int32) (a2 : Int32) {r : Int32} (hr : sX3_goals g a1 a2 = some r) : CtI MX3_goals [.ref 8, .int a1, .int a2] (g, q, g2, q2) (fun x h' => x = r ∧ h' = (g, q, g2, q2)) := by
  unfold sX3_goals at hr
  refine CtI_L 1 rfl (by decide +kernel) rfl (Nat.le_of_ble_eq_true rfl) ?_
  show Ev _ _ 0 [some (.ref 8), some (.int a1), some (.int a2), none] [] _
  refine Ev.iload_n (pc := 0) dX3_goals_0 rfl ?_
  refine Ev.ifne (pc := 1) (tgt := 19) dX3_goals_1 (by decide) (fun c_1 => ?_) (fun c_1 => ?_)
  · have hr := ifn hr c_1
    refine Ev.iconst (pc := 19) (v := nI 0) dX3_goals_19 (by decide) ?_
    refine Ev.istore_n (pc := 20) dX3_goals_20 rfl rfl ?_
    refine Ev.iload_n (pc := 21) dX3_goals_21 rfl ?_
    refine Ev.ifeq (pc := 22) (tgt := 29) dX3_goals_22 (by decide) (fun c_2 => ?_) (fun c_2 => ?_)
    · refine Ev.aload_n (pc := 29) dX3_goals_29 rfl ?_
      refine Ev.get (pc := 30) (C0 := RX3) (T := TX3) (N := 4) (fl_8_0 _ _ _ _) rfl inX3_goals (by decide) lkX3_goals_18 dX3_goals_30 ?_
      refine Ev.iload_n (pc := 33) dX3_goals_33 rfl ?_
      refine Ev.aload_n (pc := 34) dX3_goals_34 rfl ?_
      refine Ev.get (pc := 35) (C0 := RX3) (T := TX3) (N := 4) (fl_8_1 _ _ _ _) rfl inX3_goals (by decide) lkX3_goals_22 dX3_goals_35 ?_
      refine Ev.cVi (pc := 38) (As := []) (kX4_now _ _ _ _ (Or.inl rfl)) rfl rfl (ob_3 _) gX3_goals_X4_now hdX4_now rfl ⟨rfl, rfl⟩ ⟨Nat.le_of_ble_eq_true rfl, Nat.le_of_ble_eq_true rfl⟩ (Nat.le_of_ble_eq_true rfl) ⟨Nat.le_of_ble_eq_true rfl, Nat.le_of_ble_eq_true rfl⟩ dX3_goals_38 ?_
      refine Ev.iload_n (pc := 41) dX3_goals_41 rfl ?_
      refine Ev.iadd (pc := 42) dX3_goals_42 ?_
      obtain ⟨x_1, hx_1, hr⟩ := Option.bind_eq_some_iff.mp hr
      refine Ev.cVi (pc := 43) (As := [.int _, .int _]) (kX1_cellsToStandOn _ _ _ _ _ _ hx_1) rfl rfl (ob_2 _) gX3_goals_X1_cellsToStandOn hdX1_cellsToStandOn rfl ⟨rfl, rfl⟩ ⟨Nat.le_of_ble_eq_true rfl, Nat.le_of_ble_eq_true rfl⟩ (Nat.le_of_ble_eq_true rfl) ⟨Nat.le_of_ble_eq_true rfl, Nat.le_of_ble_eq_true rfl⟩ dX3_goals_43 ?_
      cases hr
      exact Ev.iret rfl rfl dX3_goals_46 ⟨rfl, rfl⟩
    · exact absurd c_2 (by decide)
  · have hr := ifp hr c_1
    refine Ev.aload_n (pc := 4) dX3_goals_4 rfl ?_
    refine Ev.get (pc := 5) (C0 := RX3) (T := TX3) (N := 4) (fl_8_1 _ _ _ _) rfl inX3_goals (by decide) lkX3_goals_22 dX3_goals_5 ?_
    refine Ev.iload_n (pc := 8) dX3_goals_8 rfl ?_
    refine Ev.cVi (pc := 9) (As := [.int _]) (kX4_hasWalked _ _ _ _ (Or.inl rfl) _) rfl rfl (ob_3 _) gX3_goals_X4_hasWalked hdX4_hasWalked rfl ⟨rfl, rfl⟩ ⟨Nat.le_of_ble_eq_true rfl, Nat.le_of_ble_eq_true rfl⟩ (Nat.le_of_ble_eq_true rfl) ⟨Nat.le_of_ble_eq_true rfl, Nat.le_of_ble_eq_true rfl⟩ dX3_goals_9 ?_
    refine Ev.ifeqB (pc := 12) (tgt := 19) dX3_goals_12 (by decide) (fun c_3 => ?_) (fun c_3 => ?_)
    · have hr := ifn hr (ntr c_3)
      refine Ev.iconst (pc := 19) (v := nI 0) dX3_goals_19 (by decide) ?_
      refine Ev.istore_n (pc := 20) dX3_goals_20 rfl rfl ?_
      refine Ev.iload_n (pc := 21) dX3_goals_21 rfl ?_
      refine Ev.ifeq (pc := 22) (tgt := 29) dX3_goals_22 (by decide) (fun c_4 => ?_) (fun c_4 => ?_)
      · refine Ev.aload_n (pc := 29) dX3_goals_29 rfl ?_
        refine Ev.get (pc := 30) (C0 := RX3) (T := TX3) (N := 4) (fl_8_0 _ _ _ _) rfl inX3_goals (by decide) lkX3_goals_18 dX3_goals_30 ?_
        refine Ev.iload_n (pc := 33) dX3_goals_33 rfl ?_
        refine Ev.aload_n (pc := 34) dX3_goals_34 rfl ?_
        refine Ev.get (pc := 35) (C0 := RX3) (T := TX3) (N := 4) (fl_8_1 _ _ _ _) rfl inX3_goals (by decide) lkX3_goals_22 dX3_goals_35 ?_
        refine Ev.cVi (pc := 38) (As := []) (kX4_now _ _ _ _ (Or.inl rfl)) rfl rfl (ob_3 _) gX3_goals_X4_now hdX4_now rfl ⟨rfl, rfl⟩ ⟨Nat.le_of_ble_eq_true rfl, Nat.le_of_ble_eq_true rfl⟩ (Nat.le_of_ble_eq_true rfl) ⟨Nat.le_of_ble_eq_true rfl, Nat.le_of_ble_eq_true rfl⟩ dX3_goals_38 ?_
        refine Ev.iload_n (pc := 41) dX3_goals_41 rfl ?_
        refine Ev.iadd (pc := 42) dX3_goals_42 ?_
        obtain ⟨x_2, hx_2, hr⟩ := Option.bind_eq_some_iff.mp hr
        refine Ev.cVi (pc := 43) (As := [.int _, .int _]) (kX1_cellsToStandOn _ _ _ _ _ _ hx_2) rfl rfl (ob_2 _) gX3_goals_X1_cellsToStandOn hdX1_cellsToStandOn rfl ⟨rfl, rfl⟩ ⟨Nat.le_of_ble_eq_true rfl, Nat.le_of_ble_eq_true rfl⟩ (Nat.le_of_ble_eq_true rfl) ⟨Nat.le_of_ble_eq_true rfl, Nat.le_of_ble_eq_true rfl⟩ dX3_goals_43 ?_
        cases hr
        exact Ev.iret rfl rfl dX3_goals_46 ⟨rfl, rfl⟩
      · exact absurd c_4 (by decide)
    · have hr := ifp hr c_3
      refine Ev.iconst (pc := 15) (v := nI 1) dX3_goals_15 (by decide) ?_
      refine Ev.goto (pc := 16) (tgt := 20) dX3_goals_16 (by decide) ?_
      refine Ev.istore_n (pc := 20) dX3_goals_20 rfl rfl ?_
      refine Ev.iload_n (pc := 21) dX3_goals_21 rfl ?_
      refine Ev.ifeq (pc := 22) (tgt := 29) dX3_goals_22 (by decide) (fun c_5 => ?_) (fun c_5 => ?_)
      · exact absurd c_5 (by decide)
      · refine Ev.iconst (pc := 25) (v := nI 0) dX3_goals_25 (by decide) ?_
        refine Ev.goto (pc := 26) (tgt := 46) dX3_goals_26 (by decide) ?_
        cases hr
        exact Ev.iret rfl rfl dX3_goals_46 ⟨rfl, rfl⟩
/-! X3_cellsBehindHour -/
def sX3_cellsBehindHour (g : Hg) (a1 : Int32) (a2 : Int32) (a3 : Int32) : Option (Int32) := (sX3_goals g a1 a3).bind fun x_1 => ((sX1_cellsToStandOn g a1 (((sX4_now g 3) + a3) + (nI 1))).bind fun x_2 => (some ((a2 ||| ((sX3_neighbours a2) &&& x_1)) &&& x_2)))
set_option maxRecDepth 20000 in
set_option maxHeartbeats 1000000 in
theorem kX3_cellsBehindHour (g : Hg) (q : Int64) (g2 : Hg) (q2 : Int64) (a1 : Int32) (a2 : Int32) (a3 : Int32) {r : Int32} (hr : sX3_cellsBehindHour g a1 a2 a3 = some r) : CtI MX3_cellsBehindHour [.ref 8, .int a1, .int a2, .int a3] (g, q, g2, q2) (fun x h' => x = r ∧ h' = (g, q, g2, q2)) := by
  unfold sX3_cellsBehindHour at hr
  refine CtI_L 1 rfl (by decide +kernel) rfl (Nat.le_of_ble_eq_true rfl) ?_
  show Ev _ _ 0 [some (.ref 8), some (.int a1), some (.int a2), some (.int a3), none] [] _
  refine Ev.iload_n (pc := 0) dX3_cellsBehindHour_0 rfl ?_
  refine Ev.cSi (pc := 1) (As := [.int _]) (kX3_neighbours _ _ _ _ _) rfl gX3_cellsBehindHour_X3_neighbours hdX3_neighbours rfl ⟨rfl, rfl⟩ ⟨Nat.le_of_ble_eq_true rfl, Nat.le_of_ble_eq_true rfl⟩ (Nat.le_of_ble_eq_true rfl) ⟨Nat.le_of_ble_eq_true rfl, Nat.le_of_ble_eq_true rfl⟩ dX3_cellsBehindHour_1 ?_
  refine Ev.aload_n (pc := 4) dX3_cellsBehindHour_4 rfl ?_
  refine Ev.iload_n (pc := 5) dX3_cellsBehindHour_5 rfl ?_
  refine Ev.iload_n (pc := 6) dX3_cellsBehindHour_6 rfl ?_
  obtain ⟨x_1, hx_1, hr⟩ := Option.bind_eq_some_iff.mp hr
  refine Ev.cVi (pc := 7) (As := [.int _, .int _]) (kX3_goals _ _ _ _ _ _ hx_1) rfl rfl (ob_8 _) gX3_cellsBehindHour_X3_goals hdX3_goals rfl ⟨rfl, rfl⟩ ⟨Nat.le_of_ble_eq_true rfl, Nat.le_of_ble_eq_true rfl⟩ (Nat.le_of_ble_eq_true rfl) ⟨Nat.le_of_ble_eq_true rfl, Nat.le_of_ble_eq_true rfl⟩ dX3_cellsBehindHour_7 ?_
  refine Ev.iand (pc := 10) dX3_cellsBehindHour_10 ?_
  refine Ev.istore (pc := 11) dX3_cellsBehindHour_11 rfl rfl ?_
  refine Ev.iload_n (pc := 13) dX3_cellsBehindHour_13 rfl ?_
  refine Ev.iload (pc := 14) dX3_cellsBehindHour_14 rfl ?_
  refine Ev.ior (pc := 16) dX3_cellsBehindHour_16 ?_
  refine Ev.aload_n (pc := 17) dX3_cellsBehindHour_17 rfl ?_
  refine Ev.get (pc := 18) (C0 := RX3) (T := TX3) (N := 4) (fl_8_0 _ _ _ _) rfl inX3_cellsBehindHour (by decide) lkX3_cellsBehindHour_18 dX3_cellsBehindHour_18 ?_
  refine Ev.iload_n (pc := 21) dX3_cellsBehindHour_21 rfl ?_
  refine Ev.aload_n (pc := 22) dX3_cellsBehindHour_22 rfl ?_
  refine Ev.get (pc := 23) (C0 := RX3) (T := TX3) (N := 4) (fl_8_1 _ _ _ _) rfl inX3_cellsBehindHour (by decide) lkX3_cellsBehindHour_22 dX3_cellsBehindHour_23 ?_
  refine Ev.cVi (pc := 26) (As := []) (kX4_now _ _ _ _ (Or.inl rfl)) rfl rfl (ob_3 _) gX3_cellsBehindHour_X4_now hdX4_now rfl ⟨rfl, rfl⟩ ⟨Nat.le_of_ble_eq_true rfl, Nat.le_of_ble_eq_true rfl⟩ (Nat.le_of_ble_eq_true rfl) ⟨Nat.le_of_ble_eq_true rfl, Nat.le_of_ble_eq_true rfl⟩ dX3_cellsBehindHour_26 ?_
  refine Ev.iload_n (pc := 29) dX3_cellsBehindHour_29 rfl ?_
  refine Ev.iadd (pc := 30) dX3_cellsBehindHour_30 ?_
  refine Ev.iconst (pc := 31) (v := nI 1) dX3_cellsBehindHour_31 (by decide) ?_
  refine Ev.iadd (pc := 32) dX3_cellsBehindHour_32 ?_
  obtain ⟨x_2, hx_2, hr⟩ := Option.bind_eq_some_iff.mp hr
  refine Ev.cVi (pc := 33) (As := [.int _, .int _]) (kX1_cellsToStandOn _ _ _ _ _ _ hx_2) rfl rfl (ob_2 _) gX3_cellsBehindHour_X1_cellsToStandOn hdX1_cellsToStandOn rfl ⟨rfl, rfl⟩ ⟨Nat.le_of_ble_eq_true rfl, Nat.le_of_ble_eq_true rfl⟩ (Nat.le_of_ble_eq_true rfl) ⟨Nat.le_of_ble_eq_true rfl, Nat.le_of_ble_eq_true rfl⟩ dX3_cellsBehindHour_33 ?_
  refine Ev.iand (pc := 36) dX3_cellsBehindHour_36 ?_
  cases hr
  exact Ev.iret rfl rfl dX3_cellsBehindHour_37 ⟨rfl, rfl⟩
/-! X3_cellsIn -/
def sX3_cellsIn_15 (g : Hg) (v1 : Int32) (v2 : Int32) : Nat → Int32 → Int32 → Option (Int32)
  | 0, _, _ => none
  | n + 1, v3, v4 => if v2 ≤ v4 then (some v3) else ((sX3_cellsBehindHour g v1 v3 v4).bind fun x_2 => (sX3_cellsIn_15 g v1 v2 n x_2 (v4 + (nI 1))))
set_option maxRecDepth 20000 in
set_option maxHeartbeats 1000000 in
theorem kX3_cellsIn_15 (g : Hg) (q : Int64) (g2 : Hg) (q2 : Int64)  (v1 : Int32) (v2 : Int32) (r : Int32) : ∀ (n : Nat) (v3 : Int32) (v4 : Int32), sX3_cellsIn_15 g v1 v2 n v3 v4 = some r → Ev (Xi (fun x h' => x = r ∧ h' = (g, q, g2, q2))) MX3_cellsIn 15 [some (.ref 8), some (.int v1), some (.int v2), some (.int v3), some (.int v4)] [] (g, q, g2, q2) := by
  intro n
  induction n with
  | zero => intro _ _ hr; cases hr
  | succ n ih =>
    intro v3 v4 hr
    rw [sX3_cellsIn_15] at hr
    refine Ev.iload (pc := 15) dX3_cellsIn_15 rfl ?_
    refine Ev.iload_n (pc := 17) dX3_cellsIn_17 rfl ?_
    refine Ev.icmpge (pc := 18) (tgt := 36) dX3_cellsIn_18 (by decide) (fun c_1 => ?_) (fun c_1 => ?_)
    · have hr := ifp hr c_1
      refine Ev.iload_n (pc := 36) dX3_cellsIn_36 rfl ?_
      cases hr
      exact Ev.iret rfl rfl dX3_cellsIn_37 ⟨rfl, rfl⟩
    · have hr := ifn hr c_1
      refine Ev.aload_n (pc := 21) dX3_cellsIn_21 rfl ?_
      refine Ev.iload_n (pc := 22) dX3_cellsIn_22 rfl ?_
      refine Ev.iload_n (pc := 23) dX3_cellsIn_23 rfl ?_
      refine Ev.iload (pc := 24) dX3_cellsIn_24 rfl ?_
      obtain ⟨x_2, hx_2, hr⟩ := Option.bind_eq_some_iff.mp hr
      refine Ev.cVi (pc := 26) (As := [.int _, .int _, .int _]) (kX3_cellsBehindHour _ _ _ _ _ _ _ hx_2) rfl rfl (ob_8 _) gX3_cellsIn_X3_cellsBehindHour hdX3_cellsBehindHour rfl ⟨rfl, rfl⟩ ⟨Nat.le_of_ble_eq_true rfl, Nat.le_of_ble_eq_true rfl⟩ (Nat.le_of_ble_eq_true rfl) ⟨Nat.le_of_ble_eq_true rfl, Nat.le_of_ble_eq_true rfl⟩ dX3_cellsIn_26 ?_
      refine Ev.istore_n (pc := 29) dX3_cellsIn_29 rfl rfl ?_
      refine Ev.iinc (pc := 30) (v := nI 1) dX3_cellsIn_30 rfl rfl rfl rfl ?_
      refine Ev.goto (pc := 33) (tgt := 15) dX3_cellsIn_33 (by decide) ?_
      exact ih _ _ hr
def sX3_cellsIn (g : Hg) (a1 : Int32) (a2 : Int32) : Option (Int32) := (sX4_cellOfLark g 3 a1).bind fun x_1 => (sX3_cellsIn_15 g a1 a2 100 (sX8_bit x_1) (nI 0))
set_option maxRecDepth 20000 in
set_option maxHeartbeats 1000000 in
theorem kX3_cellsIn (g : Hg) (q : Int64) (g2 : Hg) (q2 : Int64) (a1 : Int32) (a2 : Int32) {r : Int32} (hr : sX3_cellsIn g a1 a2 = some r) : CtI MX3_cellsIn [.ref 8, .int a1, .int a2] (g, q, g2, q2) (fun x h' => x = r ∧ h' = (g, q, g2, q2)) := by
  unfold sX3_cellsIn at hr
  refine CtI_L 2 rfl (by decide +kernel) rfl (Nat.le_of_ble_eq_true rfl) ?_
  show Ev _ _ 0 [some (.ref 8), some (.int a1), some (.int a2), none, none] [] _
  refine Ev.aload_n (pc := 0) dX3_cellsIn_0 rfl ?_
  refine Ev.get (pc := 1) (C0 := RX3) (T := TX3) (N := 4) (fl_8_1 _ _ _ _) rfl inX3_cellsIn (by decide) lkX3_cellsIn_22 dX3_cellsIn_1 ?_
  refine Ev.iload_n (pc := 4) dX3_cellsIn_4 rfl ?_
  obtain ⟨x_1, hx_1, hr⟩ := Option.bind_eq_some_iff.mp hr
  refine Ev.cVi (pc := 5) (As := [.int _]) (kX4_cellOfLark _ _ _ _ (Or.inl rfl) _ hx_1) rfl rfl (ob_3 _) gX3_cellsIn_X4_cellOfLark hdX4_cellOfLark rfl ⟨rfl, rfl⟩ ⟨Nat.le_of_ble_eq_true rfl, Nat.le_of_ble_eq_true rfl⟩ (Nat.le_of_ble_eq_true rfl) ⟨Nat.le_of_ble_eq_true rfl, Nat.le_of_ble_eq_true rfl⟩ dX3_cellsIn_5 ?_
  refine Ev.cNi (pc := 8) (As := [.int _]) (kX8_bit _ _ _ _ _) rfl gX3_cellsIn_X8_bit_n32 (by decide +kernel) stX3_cellsIn_X8_bit iniX3_cellsIn_X8_bit hdX8_bit rfl ⟨rfl, rfl⟩ ⟨Nat.le_of_ble_eq_true rfl, Nat.le_of_ble_eq_true rfl⟩ (Nat.le_of_ble_eq_true rfl) ⟨Nat.le_of_ble_eq_true rfl, Nat.le_of_ble_eq_true rfl⟩ dX3_cellsIn_8 ?_
  refine Ev.istore_n (pc := 11) dX3_cellsIn_11 rfl rfl ?_
  refine Ev.iconst (pc := 12) (v := nI 0) dX3_cellsIn_12 (by decide) ?_
  refine Ev.istore (pc := 13) dX3_cellsIn_13 rfl rfl ?_
  exact kX3_cellsIn_15 _ _ _ _ _ _ _ 100 _ _ hr
/-! X3_hoursHome -/
def sX3_hoursHome_14 (g : Hg) (v1 : Int32) : Nat → Int32 → Int32 → Option (Int32)
  | 0, _, _ => none
  | n + 1, v2, v3 => if (nI 20) < v3 then (some ((-9))) else (if (v2 &&& (nI 15)) = 0 then ((sX3_cellsBehindHour g v1 v2 v3).bind fun x_2 => (sX3_hoursHome_14 g v1 n x_2 (v3 + (nI 1)))) else (some v3))
set_option maxRecDepth 20000 in
set_option maxHeartbeats 1000000 in
theorem kX3_hoursHome_14 (g : Hg) (q : Int64) (g2 : Hg) (q2 : Int64)  (v1 : Int32) (r : Int32) : ∀ (n : Nat) (v2 : Int32) (v3 : Int32), sX3_hoursHome_14 g v1 n v2 v3 = some r → Ev (Xi (fun x h' => x = r ∧ h' = (g, q, g2, q2))) MX3_hoursHome 14 [some (.ref 8), some (.int v1), some (.int v2), some (.int v3)] [] (g, q, g2, q2) := by
  intro n
  induction n with
  | zero => intro _ _ hr; cases hr
  | succ n ih =>
    intro v2 v3 hr
    rw [sX3_hoursHome_14] at hr
    refine Ev.iload_n (pc := 14) dX3_hoursHome_14 rfl ?_
    refine Ev.bipush (pc := 15) (v := nI 20) dX3_hoursHome_15 (by decide) ?_
    refine Ev.icmpgt (pc := 17) (tgt := 43) dX3_hoursHome_17 (by decide) (fun c_1 => ?_) (fun c_1 => ?_)
    · have hr := ifp hr c_1
      refine Ev.bipush (pc := 43) (v := (-9)) dX3_hoursHome_43 (by decide) ?_
      cases hr
      exact Ev.iret rfl rfl dX3_hoursHome_45 ⟨rfl, rfl⟩
    · have hr := ifn hr c_1
      refine Ev.iload_n (pc := 20) dX3_hoursHome_20 rfl ?_
      refine Ev.bipush (pc := 21) (v := nI 15) dX3_hoursHome_21 (by decide) ?_
      refine Ev.iand (pc := 23) dX3_hoursHome_23 ?_
      refine Ev.ifeq (pc := 24) (tgt := 29) dX3_hoursHome_24 (by decide) (fun c_2 => ?_) (fun c_2 => ?_)
      · have hr := ifp hr c_2
        refine Ev.aload_n (pc := 29) dX3_hoursHome_29 rfl ?_
        refine Ev.iload_n (pc := 30) dX3_hoursHome_30 rfl ?_
        refine Ev.iload_n (pc := 31) dX3_hoursHome_31 rfl ?_
        refine Ev.iload_n (pc := 32) dX3_hoursHome_32 rfl ?_
        obtain ⟨x_2, hx_2, hr⟩ := Option.bind_eq_some_iff.mp hr
        refine Ev.cVi (pc := 33) (As := [.int _, .int _, .int _]) (kX3_cellsBehindHour _ _ _ _ _ _ _ hx_2) rfl rfl (ob_8 _) gX3_hoursHome_X3_cellsBehindHour hdX3_cellsBehindHour rfl ⟨rfl, rfl⟩ ⟨Nat.le_of_ble_eq_true rfl, Nat.le_of_ble_eq_true rfl⟩ (Nat.le_of_ble_eq_true rfl) ⟨Nat.le_of_ble_eq_true rfl, Nat.le_of_ble_eq_true rfl⟩ dX3_hoursHome_33 ?_
        refine Ev.istore_n (pc := 36) dX3_hoursHome_36 rfl rfl ?_
        refine Ev.iinc (pc := 37) (v := nI 1) dX3_hoursHome_37 rfl rfl rfl rfl ?_
        refine Ev.goto (pc := 40) (tgt := 14) dX3_hoursHome_40 (by decide) ?_
        exact ih _ _ hr
      · have hr := ifn hr c_2
        refine Ev.iload_n (pc := 27) dX3_hoursHome_27 rfl ?_
        cases hr
        exact Ev.iret rfl rfl dX3_hoursHome_28 ⟨rfl, rfl⟩
def sX3_hoursHome (g : Hg) (a1 : Int32) : Option (Int32) := (sX4_cellOfLark g 3 a1).bind fun x_1 => (sX3_hoursHome_14 g a1 100 (sX8_bit x_1) (nI 0))
set_option maxRecDepth 20000 in
set_option maxHeartbeats 1000000 in
theorem kX3_hoursHome (g : Hg) (q : Int64) (g2 : Hg) (q2 : Int64) (a1 : Int32) {r : Int32} (hr : sX3_hoursHome g a1 = some r) : CtI MX3_hoursHome [.ref 8, .int a1] (g, q, g2, q2) (fun x h' => x = r ∧ h' = (g, q, g2, q2)) := by
  unfold sX3_hoursHome at hr
  refine CtI_L 2 rfl (by decide +kernel) rfl (Nat.le_of_ble_eq_true rfl) ?_
  show Ev _ _ 0 [some (.ref 8), some (.int a1), none, none] [] _
  refine Ev.aload_n (pc := 0) dX3_hoursHome_0 rfl ?_
  refine Ev.get (pc := 1) (C0 := RX3) (T := TX3) (N := 4) (fl_8_1 _ _ _ _) rfl inX3_hoursHome (by decide) lkX3_hoursHome_22 dX3_hoursHome_1 ?_
  refine Ev.iload_n (pc := 4) dX3_hoursHome_4 rfl ?_
  obtain ⟨x_1, hx_1, hr⟩ := Option.bind_eq_some_iff.mp hr
  refine Ev.cVi (pc := 5) (As := [.int _]) (kX4_cellOfLark _ _ _ _ (Or.inl rfl) _ hx_1) rfl rfl (ob_3 _) gX3_hoursHome_X4_cellOfLark hdX4_cellOfLark rfl ⟨rfl, rfl⟩ ⟨Nat.le_of_ble_eq_true rfl, Nat.le_of_ble_eq_true rfl⟩ (Nat.le_of_ble_eq_true rfl) ⟨Nat.le_of_ble_eq_true rfl, Nat.le_of_ble_eq_true rfl⟩ dX3_hoursHome_5 ?_
  refine Ev.cNi (pc := 8) (As := [.int _]) (kX8_bit _ _ _ _ _) rfl gX3_hoursHome_X8_bit_n32 (by decide +kernel) stX3_hoursHome_X8_bit iniX3_hoursHome_X8_bit hdX8_bit rfl ⟨rfl, rfl⟩ ⟨Nat.le_of_ble_eq_true rfl, Nat.le_of_ble_eq_true rfl⟩ (Nat.le_of_ble_eq_true rfl) ⟨Nat.le_of_ble_eq_true rfl, Nat.le_of_ble_eq_true rfl⟩ dX3_hoursHome_8 ?_
  refine Ev.istore_n (pc := 11) dX3_hoursHome_11 rfl rfl ?_
  refine Ev.iconst (pc := 12) (v := nI 0) dX3_hoursHome_12 (by decide) ?_
  refine Ev.istore_n (pc := 13) dX3_hoursHome_13 rfl rfl ?_
  exact kX3_hoursHome_14 _ _ _ _ _ _ 100 _ _ hr
/-! X3_cellsAheadOfHour -/
def sX3_cellsAheadOfHour (g : Hg) (a1 : Int32) (a2 : Int32) (a3 : Int32) : Option (Int32) := (sX1_cellsToStandOn g a1 (((sX4_now g 3) + a3) + (nI 1))).bind fun x_1 => ((sX3_goals g a1 a3).bind fun x_2 => (some ((a2 &&& x_1) ||| (sX3_neighbours ((a2 &&& x_1) &&& x_2)))))
set_option maxRecDepth 20000 in
set_option maxHeartbeats 1000000 in
theorem kX3_cellsAheadOfHour (g : Hg) (q : Int64) (g2 : Hg) (q2 : Int64) (a1 : Int32) (a2 : Int32) (a3 : Int32) {r : Int32} (hr : sX3_cellsAheadOfHour g a1 a2 a3 = some r) : CtI MX3_cellsAheadOfHour [.ref 8, .int a1, .int a2, .int a3] (g, q, g2, q2) (fun x h' => x = r ∧ h' = (g, q, g2, q2)) := by
  unfold sX3_cellsAheadOfHour at hr
  refine CtI_L 1 rfl (by decide +kernel) rfl (Nat.le_of_ble_eq_true rfl) ?_
  show Ev _ _ 0 [some (.ref 8), some (.int a1), some (.int a2), some (.int a3), none] [] _
  refine Ev.iload_n (pc := 0) dX3_cellsAheadOfHour_0 rfl ?_
  refine Ev.aload_n (pc := 1) dX3_cellsAheadOfHour_1 rfl ?_
  refine Ev.get (pc := 2) (C0 := RX3) (T := TX3) (N := 4) (fl_8_0 _ _ _ _) rfl inX3_cellsAheadOfHour (by decide) lkX3_cellsAheadOfHour_18 dX3_cellsAheadOfHour_2 ?_
  refine Ev.iload_n (pc := 5) dX3_cellsAheadOfHour_5 rfl ?_
  refine Ev.aload_n (pc := 6) dX3_cellsAheadOfHour_6 rfl ?_
  refine Ev.get (pc := 7) (C0 := RX3) (T := TX3) (N := 4) (fl_8_1 _ _ _ _) rfl inX3_cellsAheadOfHour (by decide) lkX3_cellsAheadOfHour_22 dX3_cellsAheadOfHour_7 ?_
  refine Ev.cVi (pc := 10) (As := []) (kX4_now _ _ _ _ (Or.inl rfl)) rfl rfl (ob_3 _) gX3_cellsAheadOfHour_X4_now hdX4_now rfl ⟨rfl, rfl⟩ ⟨Nat.le_of_ble_eq_true rfl, Nat.le_of_ble_eq_true rfl⟩ (Nat.le_of_ble_eq_true rfl) ⟨Nat.le_of_ble_eq_true rfl, Nat.le_of_ble_eq_true rfl⟩ dX3_cellsAheadOfHour_10 ?_
  refine Ev.iload_n (pc := 13) dX3_cellsAheadOfHour_13 rfl ?_
  refine Ev.iadd (pc := 14) dX3_cellsAheadOfHour_14 ?_
  refine Ev.iconst (pc := 15) (v := nI 1) dX3_cellsAheadOfHour_15 (by decide) ?_
  refine Ev.iadd (pc := 16) dX3_cellsAheadOfHour_16 ?_
  obtain ⟨x_1, hx_1, hr⟩ := Option.bind_eq_some_iff.mp hr
  refine Ev.cVi (pc := 17) (As := [.int _, .int _]) (kX1_cellsToStandOn _ _ _ _ _ _ hx_1) rfl rfl (ob_2 _) gX3_cellsAheadOfHour_X1_cellsToStandOn hdX1_cellsToStandOn rfl ⟨rfl, rfl⟩ ⟨Nat.le_of_ble_eq_true rfl, Nat.le_of_ble_eq_true rfl⟩ (Nat.le_of_ble_eq_true rfl) ⟨Nat.le_of_ble_eq_true rfl, Nat.le_of_ble_eq_true rfl⟩ dX3_cellsAheadOfHour_17 ?_
  refine Ev.iand (pc := 20) dX3_cellsAheadOfHour_20 ?_
  refine Ev.istore (pc := 21) dX3_cellsAheadOfHour_21 rfl rfl ?_
  refine Ev.iload (pc := 23) dX3_cellsAheadOfHour_23 rfl ?_
  refine Ev.iload (pc := 25) dX3_cellsAheadOfHour_25 rfl ?_
  refine Ev.aload_n (pc := 27) dX3_cellsAheadOfHour_27 rfl ?_
  refine Ev.iload_n (pc := 28) dX3_cellsAheadOfHour_28 rfl ?_
  refine Ev.iload_n (pc := 29) dX3_cellsAheadOfHour_29 rfl ?_
  obtain ⟨x_2, hx_2, hr⟩ := Option.bind_eq_some_iff.mp hr
  refine Ev.cVi (pc := 30) (As := [.int _, .int _]) (kX3_goals _ _ _ _ _ _ hx_2) rfl rfl (ob_8 _) gX3_cellsAheadOfHour_X3_goals hdX3_goals rfl ⟨rfl, rfl⟩ ⟨Nat.le_of_ble_eq_true rfl, Nat.le_of_ble_eq_true rfl⟩ (Nat.le_of_ble_eq_true rfl) ⟨Nat.le_of_ble_eq_true rfl, Nat.le_of_ble_eq_true rfl⟩ dX3_cellsAheadOfHour_30 ?_
  refine Ev.iand (pc := 33) dX3_cellsAheadOfHour_33 ?_
  refine Ev.cSi (pc := 34) (As := [.int _]) (kX3_neighbours _ _ _ _ _) rfl gX3_cellsAheadOfHour_X3_neighbours hdX3_neighbours rfl ⟨rfl, rfl⟩ ⟨Nat.le_of_ble_eq_true rfl, Nat.le_of_ble_eq_true rfl⟩ (Nat.le_of_ble_eq_true rfl) ⟨Nat.le_of_ble_eq_true rfl, Nat.le_of_ble_eq_true rfl⟩ dX3_cellsAheadOfHour_34 ?_
  refine Ev.ior (pc := 37) dX3_cellsAheadOfHour_37 ?_
  cases hr
  exact Ev.iret rfl rfl dX3_cellsAheadOfHour_38 ⟨rfl, rfl⟩
/-! X3_findsOn -/
def sX3_findsOn_4 (g : Hg) (v1 : Int32) : Nat → Int32 → Int32 → Option (Int32)
  | 0, _, _ => none
  | n + 1, v2, v3 => if (nI 12) ≤ v3 then (some v2) else (if (sX8_has v1 v3) = true then ((sX4_findsLyingAt g 3 v3).bind fun x_1 => (sX3_findsOn_4 g v1 n (v2 ||| x_1) (v3 + (nI 1)))) else (sX3_findsOn_4 g v1 n v2 (v3 + (nI 1))))
set_option maxRecDepth 20000 in
set_option maxHeartbeats 1000000 in
theorem kX3_findsOn_4 (g : Hg) (q : Int64) (g2 : Hg) (q2 : Int64)  (v1 : Int32) (r : Int32) : ∀ (n : Nat) (v2 : Int32) (v3 : Int32), sX3_findsOn_4 g v1 n v2 v3 = some r → Ev (Xi (fun x h' => x = r ∧ h' = (g, q, g2, q2))) MX3_findsOn 4 [some (.ref 8), some (.int v1), some (.int v2), some (.int v3)] [] (g, q, g2, q2) := by
  intro n
  induction n with
  | zero => intro _ _ hr; cases hr
  | succ n ih =>
    intro v2 v3 hr
    rw [sX3_findsOn_4] at hr
    refine Ev.iload_n (pc := 4) dX3_findsOn_4 rfl ?_
    refine Ev.bipush (pc := 5) (v := nI 12) dX3_findsOn_5 (by decide) ?_
    refine Ev.icmpge (pc := 7) (tgt := 35) dX3_findsOn_7 (by decide) (fun c_1 => ?_) (fun c_1 => ?_)
    · have hr := ifp hr c_1
      refine Ev.iload_n (pc := 35) dX3_findsOn_35 rfl ?_
      cases hr
      exact Ev.iret rfl rfl dX3_findsOn_36 ⟨rfl, rfl⟩
    · have hr := ifn hr c_1
      refine Ev.iload_n (pc := 10) dX3_findsOn_10 rfl ?_
      refine Ev.iload_n (pc := 11) dX3_findsOn_11 rfl ?_
      refine Ev.cNi (pc := 12) (As := [.int _, .int _]) (kX8_has _ _ _ _ _ _) rfl gX3_findsOn_X8_has_n75 (by decide +kernel) stX3_findsOn_X8_has iniX3_findsOn_X8_has hdX8_has rfl ⟨rfl, rfl⟩ ⟨Nat.le_of_ble_eq_true rfl, Nat.le_of_ble_eq_true rfl⟩ (Nat.le_of_ble_eq_true rfl) ⟨Nat.le_of_ble_eq_true rfl, Nat.le_of_ble_eq_true rfl⟩ dX3_findsOn_12 ?_
      refine Ev.ifeqB (pc := 15) (tgt := 29) dX3_findsOn_15 (by decide) (fun c_2 => ?_) (fun c_2 => ?_)
      · have hr := ifn hr (ntr c_2)
        refine Ev.iinc (pc := 29) (v := nI 1) dX3_findsOn_29 rfl rfl rfl rfl ?_
        refine Ev.goto (pc := 32) (tgt := 4) dX3_findsOn_32 (by decide) ?_
        exact ih _ _ hr
      · have hr := ifp hr c_2
        refine Ev.iload_n (pc := 18) dX3_findsOn_18 rfl ?_
        refine Ev.aload_n (pc := 19) dX3_findsOn_19 rfl ?_
        refine Ev.get (pc := 20) (C0 := RX3) (T := TX3) (N := 4) (fl_8_1 _ _ _ _) rfl inX3_findsOn (by decide) lkX3_findsOn_22 dX3_findsOn_20 ?_
        refine Ev.iload_n (pc := 23) dX3_findsOn_23 rfl ?_
        obtain ⟨x_1, hx_1, hr⟩ := Option.bind_eq_some_iff.mp hr
        refine Ev.cVi (pc := 24) (As := [.int _]) (kX4_findsLyingAt _ _ _ _ (Or.inl rfl) _ hx_1) rfl rfl (ob_3 _) gX3_findsOn_X4_findsLyingAt hdX4_findsLyingAt rfl ⟨rfl, rfl⟩ ⟨Nat.le_of_ble_eq_true rfl, Nat.le_of_ble_eq_true rfl⟩ (Nat.le_of_ble_eq_true rfl) ⟨Nat.le_of_ble_eq_true rfl, Nat.le_of_ble_eq_true rfl⟩ dX3_findsOn_24 ?_
        refine Ev.ior (pc := 27) dX3_findsOn_27 ?_
        refine Ev.istore_n (pc := 28) dX3_findsOn_28 rfl rfl ?_
        refine Ev.iinc (pc := 29) (v := nI 1) dX3_findsOn_29 rfl rfl rfl rfl ?_
        refine Ev.goto (pc := 32) (tgt := 4) dX3_findsOn_32 (by decide) ?_
        exact ih _ _ hr
def sX3_findsOn (g : Hg) (a1 : Int32) : Option (Int32) := sX3_findsOn_4 g a1 100 (nI 0) (nI 0)
set_option maxRecDepth 20000 in
set_option maxHeartbeats 1000000 in
theorem kX3_findsOn (g : Hg) (q : Int64) (g2 : Hg) (q2 : Int64) (a1 : Int32) {r : Int32} (hr : sX3_findsOn g a1 = some r) : CtI MX3_findsOn [.ref 8, .int a1] (g, q, g2, q2) (fun x h' => x = r ∧ h' = (g, q, g2, q2)) := by
  unfold sX3_findsOn at hr
  refine CtI_L 2 rfl (by decide +kernel) rfl (Nat.le_of_ble_eq_true rfl) ?_
  show Ev _ _ 0 [some (.ref 8), some (.int a1), none, none] [] _
  refine Ev.iconst (pc := 0) (v := nI 0) dX3_findsOn_0 (by decide) ?_
  refine Ev.istore_n (pc := 1) dX3_findsOn_1 rfl rfl ?_
  refine Ev.iconst (pc := 2) (v := nI 0) dX3_findsOn_2 (by decide) ?_
  refine Ev.istore_n (pc := 3) dX3_findsOn_3 rfl rfl ?_
  exact kX3_findsOn_4 _ _ _ _ _ _ 100 _ _ hr
/-! X3_findsToGet -/
def sX3_findsToGet_86 (g : Hg) (v1 : Int32) (v2 : Int32) : Nat → Int32 → Int32 → Int32 → Option (Int32 × Hg)
  | 0, _, _, _ => none
  | n + 1, v3, v4, v5 => if v2 < v5 then (some (v3, g)) else (if inb v5 10 = true then ((sX1_baredCells g ((sX4_now g 3) + v5)).bind fun x_2 => ((sX3_findsOn g ((v4 &&& (g 25 (Int32.toNatClampNeg v5))) &&& x_2)).bind fun x_3 => ((sX3_cellsBehindHour g v1 v4 v5).bind fun x_4 => (sX3_findsToGet_86 g v1 v2 n (v3 ||| x_3) x_4 (v5 + (nI 1)))))) else none)
set_option maxRecDepth 20000 in
set_option maxHeartbeats 1000000 in
theorem kX3_findsToGet_86 (g : Hg) (q : Int64) (g2 : Hg) (q2 : Int64)  (v1 : Int32) (v2 : Int32) (r : Int32 × Hg) : ∀ (n : Nat) (v3 : Int32) (v4 : Int32) (v5 : Int32), sX3_findsToGet_86 g v1 v2 n v3 v4 v5 = some r → Ev (Xi (fun x h' => x = r.1 ∧ h' = (r.2, q, g2, q2))) MX3_findsToGet 86 [some (.ref 8), some (.int v1), some (.int v2), some (.int v3), some (.int v4), some (.int v5)] [] (g, q, g2, q2) := by
  intro n
  induction n with
  | zero => intro _ _ _ hr; cases hr
  | succ n ih =>
    intro v3 v4 v5 hr
    rw [sX3_findsToGet_86] at hr
    refine Ev.iload (pc := 86) dX3_findsToGet_86 rfl ?_
    refine Ev.iload_n (pc := 88) dX3_findsToGet_88 rfl ?_
    refine Ev.icmpgt (pc := 89) (tgt := 144) dX3_findsToGet_89 (by decide) (fun c_5 => ?_) (fun c_5 => ?_)
    · have hr := ifp hr c_5
      refine Ev.iload_n (pc := 144) dX3_findsToGet_144 rfl ?_
      cases hr
      exact Ev.iret rfl rfl dX3_findsToGet_145 ⟨rfl, rfl⟩
    · have hr := ifn hr c_5
      refine Ev.iload_n (pc := 92) dX3_findsToGet_92 rfl ?_
      refine Ev.aload_n (pc := 93) dX3_findsToGet_93 rfl ?_
      refine Ev.iload (pc := 94) dX3_findsToGet_94 rfl ?_
      refine Ev.aload_n (pc := 96) dX3_findsToGet_96 rfl ?_
      refine Ev.get (pc := 97) (C0 := RX3) (T := TX3) (N := 4) (fl_8_2 _ _ _ _) rfl inX3_findsToGet (by decide) lkX3_findsToGet_9 dX3_findsToGet_97 ?_
      refine Ev.iload (pc := 100) dX3_findsToGet_100 rfl ?_
      obtain ⟨c_6, hr⟩ := ckB hr
      refine Ev.iald (pc := 102) (ar_25 _ _ _ _) (inb_in c_6) dX3_findsToGet_102 ?_
      refine Ev.iand (pc := 103) dX3_findsToGet_103 ?_
      refine Ev.aload_n (pc := 104) dX3_findsToGet_104 rfl ?_
      refine Ev.get (pc := 105) (C0 := RX3) (T := TX3) (N := 4) (fl_8_0 _ _ _ _) rfl inX3_findsToGet (by decide) lkX3_findsToGet_18 dX3_findsToGet_105 ?_
      refine Ev.aload_n (pc := 108) dX3_findsToGet_108 rfl ?_
      refine Ev.get (pc := 109) (C0 := RX3) (T := TX3) (N := 4) (fl_8_1 _ _ _ _) rfl inX3_findsToGet (by decide) lkX3_findsToGet_22 dX3_findsToGet_109 ?_
      refine Ev.cVi (pc := 112) (As := []) (kX4_now _ _ _ _ (Or.inl rfl)) rfl rfl (ob_3 _) gX3_findsToGet_X4_now hdX4_now rfl ⟨rfl, rfl⟩ ⟨Nat.le_of_ble_eq_true rfl, Nat.le_of_ble_eq_true rfl⟩ (Nat.le_of_ble_eq_true rfl) ⟨Nat.le_of_ble_eq_true rfl, Nat.le_of_ble_eq_true rfl⟩ dX3_findsToGet_112 ?_
      refine Ev.iload (pc := 115) dX3_findsToGet_115 rfl ?_
      refine Ev.iadd (pc := 117) dX3_findsToGet_117 ?_
      obtain ⟨x_2, hx_2, hr⟩ := Option.bind_eq_some_iff.mp hr
      refine Ev.cVi (pc := 118) (As := [.int _]) (kX1_baredCells _ _ _ _ _ hx_2) rfl rfl (ob_2 _) gX3_findsToGet_X1_baredCells hdX1_baredCells rfl ⟨rfl, rfl⟩ ⟨Nat.le_of_ble_eq_true rfl, Nat.le_of_ble_eq_true rfl⟩ (Nat.le_of_ble_eq_true rfl) ⟨Nat.le_of_ble_eq_true rfl, Nat.le_of_ble_eq_true rfl⟩ dX3_findsToGet_118 ?_
      refine Ev.iand (pc := 121) dX3_findsToGet_121 ?_
      obtain ⟨x_3, hx_3, hr⟩ := Option.bind_eq_some_iff.mp hr
      refine Ev.cVi (pc := 122) (As := [.int _]) (kX3_findsOn _ _ _ _ _ hx_3) rfl rfl (ob_8 _) gX3_findsToGet_X3_findsOn hdX3_findsOn rfl ⟨rfl, rfl⟩ ⟨Nat.le_of_ble_eq_true rfl, Nat.le_of_ble_eq_true rfl⟩ (Nat.le_of_ble_eq_true rfl) ⟨Nat.le_of_ble_eq_true rfl, Nat.le_of_ble_eq_true rfl⟩ dX3_findsToGet_122 ?_
      refine Ev.ior (pc := 125) dX3_findsToGet_125 ?_
      refine Ev.istore_n (pc := 126) dX3_findsToGet_126 rfl rfl ?_
      refine Ev.aload_n (pc := 127) dX3_findsToGet_127 rfl ?_
      refine Ev.iload_n (pc := 128) dX3_findsToGet_128 rfl ?_
      refine Ev.iload (pc := 129) dX3_findsToGet_129 rfl ?_
      refine Ev.iload (pc := 131) dX3_findsToGet_131 rfl ?_
      obtain ⟨x_4, hx_4, hr⟩ := Option.bind_eq_some_iff.mp hr
      refine Ev.cVi (pc := 133) (As := [.int _, .int _, .int _]) (kX3_cellsBehindHour _ _ _ _ _ _ _ hx_4) rfl rfl (ob_8 _) gX3_findsToGet_X3_cellsBehindHour hdX3_cellsBehindHour rfl ⟨rfl, rfl⟩ ⟨Nat.le_of_ble_eq_true rfl, Nat.le_of_ble_eq_true rfl⟩ (Nat.le_of_ble_eq_true rfl) ⟨Nat.le_of_ble_eq_true rfl, Nat.le_of_ble_eq_true rfl⟩ dX3_findsToGet_133 ?_
      refine Ev.istore (pc := 136) dX3_findsToGet_136 rfl rfl ?_
      refine Ev.iinc (pc := 138) (v := nI 1) dX3_findsToGet_138 rfl rfl rfl rfl ?_
      refine Ev.goto (pc := 141) (tgt := 86) dX3_findsToGet_141 (by decide) ?_
      exact ih _ _ _ hr
def sX3_findsToGet_35 (v1 : Int32) (v2 : Int32) : Nat → Hg → Int32 → Option (Int32 × Hg)
  | 0, _, _ => none
  | n + 1, g, v3 => if v3 < 0 then ((sX4_cellOfLark g 3 v1).bind fun x_1 => (sX3_findsToGet_86 g v1 v2 100 (nI 0) (sX8_bit x_1) (nI 0))) else (if inb (v3 + (nI 1)) 10 = true then ((sX3_cellsAheadOfHour g v1 (g 25 (Int32.toNatClampNeg (v3 + (nI 1)))) v3).bind fun x_5 => (if inb v3 10 = true then (sX3_findsToGet_35 v1 v2 n (stA g 25 (Int32.toNatClampNeg v3) ((nI 15) ||| x_5)) (v3 + ((-1)))) else none)) else none)
set_option maxRecDepth 20000 in
set_option maxHeartbeats 1000000 in
theorem kX3_findsToGet_35 (q : Int64) (g2 : Hg) (q2 : Int64)  (v1 : Int32) (v2 : Int32) (r : Int32 × Hg) : ∀ (n : Nat) (g : Hg) (v3 : Int32), sX3_findsToGet_35 v1 v2 n g v3 = some r → Ev (Xi (fun x h' => x = r.1 ∧ h' = (r.2, q, g2, q2))) MX3_findsToGet 35 [some (.ref 8), some (.int v1), some (.int v2), some (.int v3), none, none] [] (g, q, g2, q2) := by
  intro n
  induction n with
  | zero => intro _ _ hr; cases hr
  | succ n ih =>
    intro g v3 hr
    rw [sX3_findsToGet_35] at hr
    refine Ev.iload_n (pc := 35) dX3_findsToGet_35 rfl ?_
    refine Ev.iflt (pc := 36) (tgt := 68) dX3_findsToGet_36 (by decide) (fun c_4 => ?_) (fun c_4 => ?_)
    · have hr := ifp hr c_4
      refine Ev.iconst (pc := 68) (v := nI 0) dX3_findsToGet_68 (by decide) ?_
      refine Ev.istore_n (pc := 69) dX3_findsToGet_69 rfl rfl ?_
      refine Ev.aload_n (pc := 70) dX3_findsToGet_70 rfl ?_
      refine Ev.get (pc := 71) (C0 := RX3) (T := TX3) (N := 4) (fl_8_1 _ _ _ _) rfl inX3_findsToGet (by decide) lkX3_findsToGet_22 dX3_findsToGet_71 ?_
      refine Ev.iload_n (pc := 74) dX3_findsToGet_74 rfl ?_
      obtain ⟨x_1, hx_1, hr⟩ := Option.bind_eq_some_iff.mp hr
      refine Ev.cVi (pc := 75) (As := [.int _]) (kX4_cellOfLark _ _ _ _ (Or.inl rfl) _ hx_1) rfl rfl (ob_3 _) gX3_findsToGet_X4_cellOfLark hdX4_cellOfLark rfl ⟨rfl, rfl⟩ ⟨Nat.le_of_ble_eq_true rfl, Nat.le_of_ble_eq_true rfl⟩ (Nat.le_of_ble_eq_true rfl) ⟨Nat.le_of_ble_eq_true rfl, Nat.le_of_ble_eq_true rfl⟩ dX3_findsToGet_75 ?_
      refine Ev.cNi (pc := 78) (As := [.int _]) (kX8_bit _ _ _ _ _) rfl gX3_findsToGet_X8_bit_n32 (by decide +kernel) stX3_findsToGet_X8_bit iniX3_findsToGet_X8_bit hdX8_bit rfl ⟨rfl, rfl⟩ ⟨Nat.le_of_ble_eq_true rfl, Nat.le_of_ble_eq_true rfl⟩ (Nat.le_of_ble_eq_true rfl) ⟨Nat.le_of_ble_eq_true rfl, Nat.le_of_ble_eq_true rfl⟩ dX3_findsToGet_78 ?_
      refine Ev.istore (pc := 81) dX3_findsToGet_81 rfl rfl ?_
      refine Ev.iconst (pc := 83) (v := nI 0) dX3_findsToGet_83 (by decide) ?_
      refine Ev.istore (pc := 84) dX3_findsToGet_84 rfl rfl ?_
      exact kX3_findsToGet_86 _ _ _ _ _ _ _ 100 _ _ _ hr
    · have hr := ifn hr c_4
      refine Ev.aload_n (pc := 39) dX3_findsToGet_39 rfl ?_
      refine Ev.get (pc := 40) (C0 := RX3) (T := TX3) (N := 4) (fl_8_2 _ _ _ _) rfl inX3_findsToGet (by decide) lkX3_findsToGet_9 dX3_findsToGet_40 ?_
      refine Ev.iload_n (pc := 43) dX3_findsToGet_43 rfl ?_
      refine Ev.bipush (pc := 44) (v := nI 15) dX3_findsToGet_44 (by decide) ?_
      refine Ev.aload_n (pc := 46) dX3_findsToGet_46 rfl ?_
      refine Ev.iload_n (pc := 47) dX3_findsToGet_47 rfl ?_
      refine Ev.aload_n (pc := 48) dX3_findsToGet_48 rfl ?_
      refine Ev.get (pc := 49) (C0 := RX3) (T := TX3) (N := 4) (fl_8_2 _ _ _ _) rfl inX3_findsToGet (by decide) lkX3_findsToGet_9 dX3_findsToGet_49 ?_
      refine Ev.iload_n (pc := 52) dX3_findsToGet_52 rfl ?_
      refine Ev.iconst (pc := 53) (v := nI 1) dX3_findsToGet_53 (by decide) ?_
      refine Ev.iadd (pc := 54) dX3_findsToGet_54 ?_
      obtain ⟨c_7, hr⟩ := ckB hr
      refine Ev.iald (pc := 55) (ar_25 _ _ _ _) (inb_in c_7) dX3_findsToGet_55 ?_
      refine Ev.iload_n (pc := 56) dX3_findsToGet_56 rfl ?_
      obtain ⟨x_5, hx_5, hr⟩ := Option.bind_eq_some_iff.mp hr
      refine Ev.cVi (pc := 57) (As := [.int _, .int _, .int _]) (kX3_cellsAheadOfHour _ _ _ _ _ _ _ hx_5) rfl rfl (ob_8 _) gX3_findsToGet_X3_cellsAheadOfHour hdX3_cellsAheadOfHour rfl ⟨rfl, rfl⟩ ⟨Nat.le_of_ble_eq_true rfl, Nat.le_of_ble_eq_true rfl⟩ (Nat.le_of_ble_eq_true rfl) ⟨Nat.le_of_ble_eq_true rfl, Nat.le_of_ble_eq_true rfl⟩ dX3_findsToGet_57 ?_
      refine Ev.ior (pc := 60) dX3_findsToGet_60 ?_
      obtain ⟨c_8, hr⟩ := ckB hr
      refine Ev.iast (pc := 61) (ar_25 _ _ _ _) (inb_in c_8) (se_25 _ _ _ _ _) dX3_findsToGet_61 ?_
      refine Ev.iinc (pc := 62) (v := (-1)) dX3_findsToGet_62 rfl rfl rfl rfl ?_
      refine Ev.goto (pc := 65) (tgt := 35) dX3_findsToGet_65 (by decide) ?_
      exact ih _ _ hr
def sX3_findsToGet (g : Hg) (a1 : Int32) (a2 : Int32) : Option (Int32 × Hg) := if (sX4_isDrowned g 3 a1) = true then (some (nI 0, g)) else (if (sX8_within a2 (nI 0) (nI 9)) = true then (if inb a2 10 = true then (sX3_findsToGet_35 a1 a2 100 (stA g 25 (Int32.toNatClampNeg a2) (nI 15)) (a2 - (nI 1))) else none) else (some (nI 0, g)))
set_option maxRecDepth 20000 in
set_option maxHeartbeats 1000000 in
theorem kX3_findsToGet (g : Hg) (q : Int64) (g2 : Hg) (q2 : Int64) (a1 : Int32) (a2 : Int32) {r : Int32 × Hg} (hr : sX3_findsToGet g a1 a2 = some r) : CtI MX3_findsToGet [.ref 8, .int a1, .int a2] (g, q, g2, q2) (fun x h' => x = r.1 ∧ h' = (r.2, q, g2, q2)) := by
  unfold sX3_findsToGet at hr
  refine CtI_L 3 rfl (by decide +kernel) rfl (Nat.le_of_ble_eq_true rfl) ?_
  show Ev _ _ 0 [some (.ref 8), some (.int a1), some (.int a2), none, none, none] [] _
  refine Ev.aload_n (pc := 0) dX3_findsToGet_0 rfl ?_
  refine Ev.get (pc := 1) (C0 := RX3) (T := TX3) (N := 4) (fl_8_1 _ _ _ _) rfl inX3_findsToGet (by decide) lkX3_findsToGet_22 dX3_findsToGet_1 ?_
  refine Ev.iload_n (pc := 4) dX3_findsToGet_4 rfl ?_
  refine Ev.cVi (pc := 5) (As := [.int _]) (kX4_isDrowned _ _ _ _ (Or.inl rfl) _) rfl rfl (ob_3 _) gX3_findsToGet_X4_isDrowned hdX4_isDrowned rfl ⟨rfl, rfl⟩ ⟨Nat.le_of_ble_eq_true rfl, Nat.le_of_ble_eq_true rfl⟩ (Nat.le_of_ble_eq_true rfl) ⟨Nat.le_of_ble_eq_true rfl, Nat.le_of_ble_eq_true rfl⟩ dX3_findsToGet_5 ?_
  refine Ev.ifneB (pc := 8) (tgt := 21) dX3_findsToGet_8 (by decide) (fun c_1 => ?_) (fun c_1 => ?_)
  · have hr := ifp hr c_1
    refine Ev.iconst (pc := 21) (v := nI 0) dX3_findsToGet_21 (by decide) ?_
    cases hr
    exact Ev.iret rfl rfl dX3_findsToGet_22 ⟨rfl, rfl⟩
  · have hr := ifn hr (ntr c_1)
    refine Ev.iload_n (pc := 11) dX3_findsToGet_11 rfl ?_
    refine Ev.iconst (pc := 12) (v := nI 0) dX3_findsToGet_12 (by decide) ?_
    refine Ev.bipush (pc := 13) (v := nI 9) dX3_findsToGet_13 (by decide) ?_
    refine Ev.cNi (pc := 15) (As := [.int _, .int _, .int _]) (kX8_within _ _ _ _ _ _ _) rfl gX3_findsToGet_X8_within_n62 (by decide +kernel) stX3_findsToGet_X8_within iniX3_findsToGet_X8_within hdX8_within rfl ⟨rfl, rfl⟩ ⟨Nat.le_of_ble_eq_true rfl, Nat.le_of_ble_eq_true rfl⟩ (Nat.le_of_ble_eq_true rfl) ⟨Nat.le_of_ble_eq_true rfl, Nat.le_of_ble_eq_true rfl⟩ dX3_findsToGet_15 ?_
    refine Ev.ifneB (pc := 18) (tgt := 23) dX3_findsToGet_18 (by decide) (fun c_2 => ?_) (fun c_2 => ?_)
    · have hr := ifp hr c_2
      refine Ev.aload_n (pc := 23) dX3_findsToGet_23 rfl ?_
      refine Ev.get (pc := 24) (C0 := RX3) (T := TX3) (N := 4) (fl_8_2 _ _ _ _) rfl inX3_findsToGet (by decide) lkX3_findsToGet_9 dX3_findsToGet_24 ?_
      refine Ev.iload_n (pc := 27) dX3_findsToGet_27 rfl ?_
      refine Ev.bipush (pc := 28) (v := nI 15) dX3_findsToGet_28 (by decide) ?_
      obtain ⟨c_3, hr⟩ := ckB hr
      refine Ev.iast (pc := 30) (ar_25 _ _ _ _) (inb_in c_3) (se_25 _ _ _ _ _) dX3_findsToGet_30 ?_
      refine Ev.iload_n (pc := 31) dX3_findsToGet_31 rfl ?_
      refine Ev.iconst (pc := 32) (v := nI 1) dX3_findsToGet_32 (by decide) ?_
      refine Ev.isub (pc := 33) dX3_findsToGet_33 ?_
      refine Ev.istore_n (pc := 34) dX3_findsToGet_34 rfl rfl ?_
      exact kX3_findsToGet_35 _ _ _ _ _ _ 100 _ _ hr
    · have hr := ifn hr (ntr c_2)
      refine Ev.iconst (pc := 21) (v := nI 0) dX3_findsToGet_21 (by decide) ?_
      cases hr
      exact Ev.iret rfl rfl dX3_findsToGet_22 ⟨rfl, rfl⟩
/-! X3_worthToGet -/
def sX3_worthToGet (g : Hg) (a1 : Int32) : Option (Int32) := (sX4_cellOfFind g 3 a1).bind fun x_1 => ((sX1_worth g a1 (bI (sX8_within x_1 (nI 0) (nI 3)))).bind fun x_2 => (some x_2))
set_option maxRecDepth 20000 in
set_option maxHeartbeats 1000000 in
theorem kX3_worthToGet (g : Hg) (q : Int64) (g2 : Hg) (q2 : Int64) (a1 : Int32) {r : Int32} (hr : sX3_worthToGet g a1 = some r) : CtI MX3_worthToGet [.ref 8, .int a1] (g, q, g2, q2) (fun x h' => x = r ∧ h' = (g, q, g2, q2)) := by
  unfold sX3_worthToGet at hr
  refine CtI_L 0 rfl (by decide +kernel) rfl (Nat.le_of_ble_eq_true rfl) ?_
  show Ev _ _ 0 [some (.ref 8), some (.int a1)] [] _
  refine Ev.aload_n (pc := 0) dX3_worthToGet_0 rfl ?_
  refine Ev.get (pc := 1) (C0 := RX3) (T := TX3) (N := 4) (fl_8_0 _ _ _ _) rfl inX3_worthToGet (by decide) lkX3_worthToGet_18 dX3_worthToGet_1 ?_
  refine Ev.iload_n (pc := 4) dX3_worthToGet_4 rfl ?_
  refine Ev.aload_n (pc := 5) dX3_worthToGet_5 rfl ?_
  refine Ev.get (pc := 6) (C0 := RX3) (T := TX3) (N := 4) (fl_8_1 _ _ _ _) rfl inX3_worthToGet (by decide) lkX3_worthToGet_22 dX3_worthToGet_6 ?_
  refine Ev.iload_n (pc := 9) dX3_worthToGet_9 rfl ?_
  obtain ⟨x_1, hx_1, hr⟩ := Option.bind_eq_some_iff.mp hr
  refine Ev.cVi (pc := 10) (As := [.int _]) (kX4_cellOfFind _ _ _ _ (Or.inl rfl) _ hx_1) rfl rfl (ob_3 _) gX3_worthToGet_X4_cellOfFind hdX4_cellOfFind rfl ⟨rfl, rfl⟩ ⟨Nat.le_of_ble_eq_true rfl, Nat.le_of_ble_eq_true rfl⟩ (Nat.le_of_ble_eq_true rfl) ⟨Nat.le_of_ble_eq_true rfl, Nat.le_of_ble_eq_true rfl⟩ dX3_worthToGet_10 ?_
  refine Ev.iconst (pc := 13) (v := nI 0) dX3_worthToGet_13 (by decide) ?_
  refine Ev.iconst (pc := 14) (v := nI 3) dX3_worthToGet_14 (by decide) ?_
  refine Ev.cNi (pc := 15) (As := [.int _, .int _, .int _]) (kX8_within _ _ _ _ _ _ _) rfl gX3_worthToGet_X8_within_n62 (by decide +kernel) stX3_worthToGet_X8_within iniX3_worthToGet_X8_within hdX8_within rfl ⟨rfl, rfl⟩ ⟨Nat.le_of_ble_eq_true rfl, Nat.le_of_ble_eq_true rfl⟩ (Nat.le_of_ble_eq_true rfl) ⟨Nat.le_of_ble_eq_true rfl, Nat.le_of_ble_eq_true rfl⟩ dX3_worthToGet_15 ?_
  obtain ⟨x_2, hx_2, hr⟩ := Option.bind_eq_some_iff.mp hr
  refine Ev.cVi (pc := 18) (As := [.int _, .int _]) (kX1_worth _ _ _ _ _ _ hx_2) rfl rfl (ob_2 _) gX3_worthToGet_X1_worth hdX1_worth rfl ⟨rfl, rfl⟩ ⟨Nat.le_of_ble_eq_true rfl, Nat.le_of_ble_eq_true rfl⟩ (Nat.le_of_ble_eq_true rfl) ⟨Nat.le_of_ble_eq_true rfl, Nat.le_of_ble_eq_true rfl⟩ dX3_worthToGet_18 ?_
  cases hr
  exact Ev.iret rfl rfl dX3_worthToGet_21 ⟨rfl, rfl⟩
/-! X3_bestFind -/
def sX3_bestFind_14 (g : Hg) (v1 : Int32) (v2 : Int32) (v3 : Int32) : Nat → Int32 → Int32 → Option (Int32 × Hg)
  | 0, _, _ => none
  | n + 1, v4, v5 => if (sX1_findCount g) ≤ v5 then (some (v4, g)) else (if (sX8_has v3 v5) = true then (if v4 = ((-9)) then (sX3_bestFind_14 g v1 v2 v3 n v5 (v5 + (nI 1))) else ((sX3_worthToGet g v5).bind fun x_2 => ((sX3_worthToGet g v4).bind fun x_3 => (if x_2 ≤ x_3 then (sX3_bestFind_14 g v1 v2 v3 n v4 (v5 + (nI 1))) else (sX3_bestFind_14 g v1 v2 v3 n v5 (v5 + (nI 1))))))) else (sX3_bestFind_14 g v1 v2 v3 n v4 (v5 + (nI 1))))
set_option maxRecDepth 20000 in
set_option maxHeartbeats 1000000 in
theorem kX3_bestFind_14 (g : Hg) (q : Int64) (g2 : Hg) (q2 : Int64)  (v1 : Int32) (v2 : Int32) (v3 : Int32) (r : Int32 × Hg) : ∀ (n : Nat) (v4 : Int32) (v5 : Int32), sX3_bestFind_14 g v1 v2 v3 n v4 v5 = some r → Ev (Xi (fun x h' => x = r.1 ∧ h' = (r.2, q, g2, q2))) MX3_bestFind 14 [some (.ref 8), some (.int v1), some (.int v2), some (.int v3), some (.int v4), some (.int v5)] [] (g, q, g2, q2) := by
  intro n
  induction n with
  | zero => intro _ _ hr; cases hr
  | succ n ih =>
    intro v4 v5 hr
    rw [sX3_bestFind_14] at hr
    refine Ev.iload (pc := 14) dX3_bestFind_14 rfl ?_
    refine Ev.aload_n (pc := 16) dX3_bestFind_16 rfl ?_
    refine Ev.get (pc := 17) (C0 := RX3) (T := TX3) (N := 4) (fl_8_0 _ _ _ _) rfl inX3_bestFind (by decide) lkX3_bestFind_18 dX3_bestFind_17 ?_
    refine Ev.cVi (pc := 20) (As := []) (kX1_findCount _ _ _ _) rfl rfl (ob_2 _) gX3_bestFind_X1_findCount hdX1_findCount rfl ⟨rfl, rfl⟩ ⟨Nat.le_of_ble_eq_true rfl, Nat.le_of_ble_eq_true rfl⟩ (Nat.le_of_ble_eq_true rfl) ⟨Nat.le_of_ble_eq_true rfl, Nat.le_of_ble_eq_true rfl⟩ dX3_bestFind_20 ?_
    refine Ev.icmpge (pc := 23) (tgt := 67) dX3_bestFind_23 (by decide) (fun c_1 => ?_) (fun c_1 => ?_)
    · have hr := ifp hr c_1
      refine Ev.iload (pc := 67) dX3_bestFind_67 rfl ?_
      cases hr
      exact Ev.iret rfl rfl dX3_bestFind_69 ⟨rfl, rfl⟩
    · have hr := ifn hr c_1
      refine Ev.iload_n (pc := 26) dX3_bestFind_26 rfl ?_
      refine Ev.iload (pc := 27) dX3_bestFind_27 rfl ?_
      refine Ev.cNi (pc := 29) (As := [.int _, .int _]) (kX8_has _ _ _ _ _ _) rfl gX3_bestFind_X8_has_n75 (by decide +kernel) stX3_bestFind_X8_has iniX3_bestFind_X8_has hdX8_has rfl ⟨rfl, rfl⟩ ⟨Nat.le_of_ble_eq_true rfl, Nat.le_of_ble_eq_true rfl⟩ (Nat.le_of_ble_eq_true rfl) ⟨Nat.le_of_ble_eq_true rfl, Nat.le_of_ble_eq_true rfl⟩ dX3_bestFind_29 ?_
      refine Ev.ifeqB (pc := 32) (tgt := 61) dX3_bestFind_32 (by decide) (fun c_2 => ?_) (fun c_2 => ?_)
      · have hr := ifn hr (ntr c_2)
        refine Ev.iinc (pc := 61) (v := nI 1) dX3_bestFind_61 rfl rfl rfl rfl ?_
        refine Ev.goto (pc := 64) (tgt := 14) dX3_bestFind_64 (by decide) ?_
        exact ih _ _ hr
      · have hr := ifp hr c_2
        refine Ev.iload (pc := 35) dX3_bestFind_35 rfl ?_
        refine Ev.bipush (pc := 37) (v := (-9)) dX3_bestFind_37 (by decide) ?_
        refine Ev.icmpeq (pc := 39) (tgt := 57) dX3_bestFind_39 (by decide) (fun c_3 => ?_) (fun c_3 => ?_)
        · have hr := ifp hr c_3
          refine Ev.iload (pc := 57) dX3_bestFind_57 rfl ?_
          refine Ev.istore (pc := 59) dX3_bestFind_59 rfl rfl ?_
          refine Ev.iinc (pc := 61) (v := nI 1) dX3_bestFind_61 rfl rfl rfl rfl ?_
          refine Ev.goto (pc := 64) (tgt := 14) dX3_bestFind_64 (by decide) ?_
          exact ih _ _ hr
        · have hr := ifn hr c_3
          refine Ev.aload_n (pc := 42) dX3_bestFind_42 rfl ?_
          refine Ev.iload (pc := 43) dX3_bestFind_43 rfl ?_
          obtain ⟨x_2, hx_2, hr⟩ := Option.bind_eq_some_iff.mp hr
          refine Ev.cVi (pc := 45) (As := [.int _]) (kX3_worthToGet _ _ _ _ _ hx_2) rfl rfl (ob_8 _) gX3_bestFind_X3_worthToGet hdX3_worthToGet rfl ⟨rfl, rfl⟩ ⟨Nat.le_of_ble_eq_true rfl, Nat.le_of_ble_eq_true rfl⟩ (Nat.le_of_ble_eq_true rfl) ⟨Nat.le_of_ble_eq_true rfl, Nat.le_of_ble_eq_true rfl⟩ dX3_bestFind_45 ?_
          refine Ev.aload_n (pc := 48) dX3_bestFind_48 rfl ?_
          refine Ev.iload (pc := 49) dX3_bestFind_49 rfl ?_
          obtain ⟨x_3, hx_3, hr⟩ := Option.bind_eq_some_iff.mp hr
          refine Ev.cVi (pc := 51) (As := [.int _]) (kX3_worthToGet _ _ _ _ _ hx_3) rfl rfl (ob_8 _) gX3_bestFind_X3_worthToGet hdX3_worthToGet rfl ⟨rfl, rfl⟩ ⟨Nat.le_of_ble_eq_true rfl, Nat.le_of_ble_eq_true rfl⟩ (Nat.le_of_ble_eq_true rfl) ⟨Nat.le_of_ble_eq_true rfl, Nat.le_of_ble_eq_true rfl⟩ dX3_bestFind_51 ?_
          refine Ev.icmple (pc := 54) (tgt := 61) dX3_bestFind_54 (by decide) (fun c_4 => ?_) (fun c_4 => ?_)
          · have hr := ifp hr c_4
            refine Ev.iinc (pc := 61) (v := nI 1) dX3_bestFind_61 rfl rfl rfl rfl ?_
            refine Ev.goto (pc := 64) (tgt := 14) dX3_bestFind_64 (by decide) ?_
            exact ih _ _ hr
          · have hr := ifn hr c_4
            refine Ev.iload (pc := 57) dX3_bestFind_57 rfl ?_
            refine Ev.istore (pc := 59) dX3_bestFind_59 rfl rfl ?_
            refine Ev.iinc (pc := 61) (v := nI 1) dX3_bestFind_61 rfl rfl rfl rfl ?_
            refine Ev.goto (pc := 64) (tgt := 14) dX3_bestFind_64 (by decide) ?_
            exact ih _ _ hr
def sX3_bestFind (g : Hg) (a1 : Int32) (a2 : Int32) : Option (Int32 × Hg) := (sX3_findsToGet g a1 a2).bind fun x_1 => (sX3_bestFind_14 x_1.2 a1 a2 x_1.1 100 ((-9)) (nI 0))
set_option maxRecDepth 20000 in
set_option maxHeartbeats 1000000 in
theorem kX3_bestFind (g : Hg) (q : Int64) (g2 : Hg) (q2 : Int64) (a1 : Int32) (a2 : Int32) {r : Int32 × Hg} (hr : sX3_bestFind g a1 a2 = some r) : CtI MX3_bestFind [.ref 8, .int a1, .int a2] (g, q, g2, q2) (fun x h' => x = r.1 ∧ h' = (r.2, q, g2, q2)) := by
  unfold sX3_bestFind at hr
  refine CtI_L 3 rfl (by decide +kernel) rfl (Nat.le_of_ble_eq_true rfl) ?_
  show Ev _ _ 0 [some (.ref 8), some (.int a1), some (.int a2), none, none, none] [] _
  refine Ev.aload_n (pc := 0) dX3_bestFind_0 rfl ?_
  refine Ev.iload_n (pc := 1) dX3_bestFind_1 rfl ?_
  refine Ev.iload_n (pc := 2) dX3_bestFind_2 rfl ?_
  obtain ⟨x_1, hx_1, hr⟩ := Option.bind_eq_some_iff.mp hr
  refine Ev.cVi (pc := 3) (As := [.int _, .int _]) (kX3_findsToGet _ _ _ _ _ _ hx_1) rfl rfl (ob_8 _) gX3_bestFind_X3_findsToGet hdX3_findsToGet rfl ⟨rfl, rfl⟩ ⟨Nat.le_of_ble_eq_true rfl, Nat.le_of_ble_eq_true rfl⟩ (Nat.le_of_ble_eq_true rfl) ⟨Nat.le_of_ble_eq_true rfl, Nat.le_of_ble_eq_true rfl⟩ dX3_bestFind_3 ?_
  refine Ev.istore_n (pc := 6) dX3_bestFind_6 rfl rfl ?_
  refine Ev.bipush (pc := 7) (v := (-9)) dX3_bestFind_7 (by decide) ?_
  refine Ev.istore (pc := 9) dX3_bestFind_9 rfl rfl ?_
  refine Ev.iconst (pc := 11) (v := nI 0) dX3_bestFind_11 (by decide) ?_
  refine Ev.istore (pc := 12) dX3_bestFind_12 rfl rfl ?_
  exact kX3_bestFind_14 _ _ _ _ _ _ _ _ 100 _ _ hr
/-! X3_gettersOf -/
def sX3_gettersOf_14 (g : Hg) (v1 : Int32) (v4 : Int32) : Nat → Int32 → Int32 → Option (Int32)
  | 0, _, _ => none
  | n + 1, v2, v5 => if v4 ≤ v5 then (some v2) else (if inb v5 4 = true then (if (sX8_has (g 26 (Int32.toNatClampNeg v5)) v1) = true then (sX3_gettersOf_14 g v1 v4 n (v2 + (nI 1)) (v5 + (nI 1))) else (sX3_gettersOf_14 g v1 v4 n v2 (v5 + (nI 1)))) else none)
set_option maxRecDepth 20000 in
set_option maxHeartbeats 1000000 in
theorem kX3_gettersOf_14 (g : Hg) (q : Int64) (g2 : Hg) (q2 : Int64)  (v1 : Int32) (v4 : Int32) (r : Int32) : ∀ (n : Nat) (v2 : Int32) (v5 : Int32), sX3_gettersOf_14 g v1 v4 n v2 v5 = some r → Ev (Xi (fun x h' => x = r ∧ h' = (g, q, g2, q2))) MX3_gettersOf 14 [some (.ref 8), some (.int v1), some (.int v2), some (.ref 26), some (.int v4), some (.int v5), none] [] (g, q, g2, q2) := by
  intro n
  induction n with
  | zero => intro _ _ hr; cases hr
  | succ n ih =>
    intro v2 v5 hr
    rw [sX3_gettersOf_14] at hr
    refine Ev.iload (pc := 14) dX3_gettersOf_14 rfl ?_
    refine Ev.iload (pc := 16) dX3_gettersOf_16 rfl ?_
    refine Ev.icmpge (pc := 18) (tgt := 45) dX3_gettersOf_18 (by decide) (fun c_1 => ?_) (fun c_1 => ?_)
    · have hr := ifp hr c_1
      refine Ev.iload_n (pc := 45) dX3_gettersOf_45 rfl ?_
      cases hr
      exact Ev.iret rfl rfl dX3_gettersOf_46 ⟨rfl, rfl⟩
    · have hr := ifn hr c_1
      refine Ev.aload_n (pc := 21) dX3_gettersOf_21 rfl ?_
      refine Ev.iload (pc := 22) dX3_gettersOf_22 rfl ?_
      obtain ⟨c_2, hr⟩ := ckB hr
      refine Ev.iald (pc := 24) (ar_26 _ _ _ _) (inb_in c_2) dX3_gettersOf_24 ?_
      refine Ev.istore (pc := 25) dX3_gettersOf_25 rfl rfl ?_
      refine Ev.iload (pc := 27) dX3_gettersOf_27 rfl ?_
      refine Ev.iload_n (pc := 29) dX3_gettersOf_29 rfl ?_
      refine Ev.cNi (pc := 30) (As := [.int _, .int _]) (kX8_has _ _ _ _ _ _) rfl gX3_gettersOf_X8_has_n75 (by decide +kernel) stX3_gettersOf_X8_has iniX3_gettersOf_X8_has hdX8_has rfl ⟨rfl, rfl⟩ ⟨Nat.le_of_ble_eq_true rfl, Nat.le_of_ble_eq_true rfl⟩ (Nat.le_of_ble_eq_true rfl) ⟨Nat.le_of_ble_eq_true rfl, Nat.le_of_ble_eq_true rfl⟩ dX3_gettersOf_30 ?_
      refine Ev.ifeqB (pc := 33) (tgt := 39) dX3_gettersOf_33 (by decide) (fun c_3 => ?_) (fun c_3 => ?_)
      · have hr := ifn hr (ntr c_3)
        refine Ev.iinc (pc := 39) (v := nI 1) dX3_gettersOf_39 rfl rfl rfl rfl ?_
        refine Ev.goto (pc := 42) (tgt := 14) dX3_gettersOf_42 (by decide) ?_
        refine Ev_drop 6 ?_
        exact ih _ _ hr
      · have hr := ifp hr c_3
        refine Ev.iinc (pc := 36) (v := nI 1) dX3_gettersOf_36 rfl rfl rfl rfl ?_
        refine Ev.iinc (pc := 39) (v := nI 1) dX3_gettersOf_39 rfl rfl rfl rfl ?_
        refine Ev.goto (pc := 42) (tgt := 14) dX3_gettersOf_42 (by decide) ?_
        refine Ev_drop 6 ?_
        exact ih _ _ hr
def sX3_gettersOf (g : Hg) (a1 : Int32) : Option (Int32) := sX3_gettersOf_14 g a1 (nI 4) 100 (nI 0) (nI 0)
set_option maxRecDepth 20000 in
set_option maxHeartbeats 1000000 in
theorem kX3_gettersOf (g : Hg) (q : Int64) (g2 : Hg) (q2 : Int64) (a1 : Int32) {r : Int32} (hr : sX3_gettersOf g a1 = some r) : CtI MX3_gettersOf [.ref 8, .int a1] (g, q, g2, q2) (fun x h' => x = r ∧ h' = (g, q, g2, q2)) := by
  unfold sX3_gettersOf at hr
  refine CtI_L 5 rfl (by decide +kernel) rfl (Nat.le_of_ble_eq_true rfl) ?_
  show Ev _ _ 0 [some (.ref 8), some (.int a1), none, none, none, none, none] [] _
  refine Ev.iconst (pc := 0) (v := nI 0) dX3_gettersOf_0 (by decide) ?_
  refine Ev.istore_n (pc := 1) dX3_gettersOf_1 rfl rfl ?_
  refine Ev.aload_n (pc := 2) dX3_gettersOf_2 rfl ?_
  refine Ev.get (pc := 3) (C0 := RX3) (T := TX3) (N := 4) (fl_8_3 _ _ _ _) rfl inX3_gettersOf (by decide) lkX3_gettersOf_15 dX3_gettersOf_3 ?_
  refine Ev.astore_n (pc := 6) dX3_gettersOf_6 rfl rfl ?_
  refine Ev.aload_n (pc := 7) dX3_gettersOf_7 rfl ?_
  refine Ev.alen (pc := 8) (ar_26 _ _ _ _) dX3_gettersOf_8 ?_
  refine Ev.istore (pc := 9) dX3_gettersOf_9 rfl rfl ?_
  refine Ev.iconst (pc := 11) (v := nI 0) dX3_gettersOf_11 (by decide) ?_
  refine Ev.istore (pc := 12) dX3_gettersOf_12 rfl rfl ?_
  exact kX3_gettersOf_14 _ _ _ _ _ _ _ 100 _ _ hr
/-! X3_shareInTwelfths -/
def sX3_shareInTwelfths_45 (g : Hg) (v1 : Int32) : Nat → Int32 → Int32 → Option (Int32 × Hg)
  | 0, _, _ => none
  | n + 1, v2, v3 => if (sX1_findCount g) ≤ v3 then (some (v2, g)) else (if (sX1_isLark g v1) = true then (if inb v1 4 = true then (if (sX8_has (g 26 (Int32.toNatClampNeg v1)) v3) = true then ((sX3_gettersOf g v3).bind fun x_1 => (if nz (if (nI 1) < x_1 then x_1 else (nI 1)) = true then (sX3_shareInTwelfths_45 g v1 n (v2 + ((nI 12) / (if (nI 1) < x_1 then x_1 else (nI 1)))) (v3 + (nI 1))) else none)) else (sX3_shareInTwelfths_45 g v1 n v2 (v3 + (nI 1)))) else none) else (sX3_shareInTwelfths_45 g v1 n v2 (v3 + (nI 1))))
set_option maxRecDepth 20000 in
set_option maxHeartbeats 1000000 in
theorem kX3_shareInTwelfths_45 (g : Hg) (q : Int64) (g2 : Hg) (q2 : Int64)  (v1 : Int32) (r : Int32 × Hg) : ∀ (n : Nat) (v2 : Int32) (v3 : Int32), sX3_shareInTwelfths_45 g v1 n v2 v3 = some r → Ev (Xi (fun x h' => x = r.1 ∧ h' = (r.2, q, g2, q2))) MX3_shareInTwelfths 45 [some (.ref 8), some (.int v1), some (.int v2), some (.int v3)] [] (g, q, g2, q2) := by
  intro n
  induction n with
  | zero => intro _ _ hr; cases hr
  | succ n ih =>
    intro v2 v3 hr
    rw [sX3_shareInTwelfths_45] at hr
    refine Ev.iload_n (pc := 45) dX3_shareInTwelfths_45 rfl ?_
    refine Ev.aload_n (pc := 46) dX3_shareInTwelfths_46 rfl ?_
    refine Ev.get (pc := 47) (C0 := RX3) (T := TX3) (N := 4) (fl_8_0 _ _ _ _) rfl inX3_shareInTwelfths (by decide) lkX3_shareInTwelfths_18 dX3_shareInTwelfths_47 ?_
    refine Ev.cVi (pc := 50) (As := []) (kX1_findCount _ _ _ _) rfl rfl (ob_2 _) gX3_shareInTwelfths_X1_findCount hdX1_findCount rfl ⟨rfl, rfl⟩ ⟨Nat.le_of_ble_eq_true rfl, Nat.le_of_ble_eq_true rfl⟩ (Nat.le_of_ble_eq_true rfl) ⟨Nat.le_of_ble_eq_true rfl, Nat.le_of_ble_eq_true rfl⟩ dX3_shareInTwelfths_50 ?_
    refine Ev.icmpge (pc := 53) (tgt := 101) dX3_shareInTwelfths_53 (by decide) (fun c_2 => ?_) (fun c_2 => ?_)
    · have hr := ifp hr c_2
      refine Ev.iload_n (pc := 101) dX3_shareInTwelfths_101 rfl ?_
      cases hr
      exact Ev.iret rfl rfl dX3_shareInTwelfths_102 ⟨rfl, rfl⟩
    · have hr := ifn hr c_2
      refine Ev.aload_n (pc := 56) dX3_shareInTwelfths_56 rfl ?_
      refine Ev.get (pc := 57) (C0 := RX3) (T := TX3) (N := 4) (fl_8_0 _ _ _ _) rfl inX3_shareInTwelfths (by decide) lkX3_shareInTwelfths_18 dX3_shareInTwelfths_57 ?_
      refine Ev.iload_n (pc := 60) dX3_shareInTwelfths_60 rfl ?_
      refine Ev.cVi (pc := 61) (As := [.int _]) (kX1_isLark _ _ _ _ _) rfl rfl (ob_2 _) gX3_shareInTwelfths_X1_isLark hdX1_isLark rfl ⟨rfl, rfl⟩ ⟨Nat.le_of_ble_eq_true rfl, Nat.le_of_ble_eq_true rfl⟩ (Nat.le_of_ble_eq_true rfl) ⟨Nat.le_of_ble_eq_true rfl, Nat.le_of_ble_eq_true rfl⟩ dX3_shareInTwelfths_61 ?_
      refine Ev.ifeqB (pc := 64) (tgt := 95) dX3_shareInTwelfths_64 (by decide) (fun c_3 => ?_) (fun c_3 => ?_)
      · have hr := ifn hr (ntr c_3)
        refine Ev.iinc (pc := 95) (v := nI 1) dX3_shareInTwelfths_95 rfl rfl rfl rfl ?_
        refine Ev.goto (pc := 98) (tgt := 45) dX3_shareInTwelfths_98 (by decide) ?_
        exact ih _ _ hr
      · have hr := ifp hr c_3
        refine Ev.aload_n (pc := 67) dX3_shareInTwelfths_67 rfl ?_
        refine Ev.get (pc := 68) (C0 := RX3) (T := TX3) (N := 4) (fl_8_3 _ _ _ _) rfl inX3_shareInTwelfths (by decide) lkX3_shareInTwelfths_15 dX3_shareInTwelfths_68 ?_
        refine Ev.iload_n (pc := 71) dX3_shareInTwelfths_71 rfl ?_
        obtain ⟨c_4, hr⟩ := ckB hr
        refine Ev.iald (pc := 72) (ar_26 _ _ _ _) (inb_in c_4) dX3_shareInTwelfths_72 ?_
        refine Ev.iload_n (pc := 73) dX3_shareInTwelfths_73 rfl ?_
        refine Ev.cNi (pc := 74) (As := [.int _, .int _]) (kX8_has _ _ _ _ _ _) rfl gX3_shareInTwelfths_X8_has_n75 (by decide +kernel) stX3_shareInTwelfths_X8_has iniX3_shareInTwelfths_X8_has hdX8_has rfl ⟨rfl, rfl⟩ ⟨Nat.le_of_ble_eq_true rfl, Nat.le_of_ble_eq_true rfl⟩ (Nat.le_of_ble_eq_true rfl) ⟨Nat.le_of_ble_eq_true rfl, Nat.le_of_ble_eq_true rfl⟩ dX3_shareInTwelfths_74 ?_
        refine Ev.ifeqB (pc := 77) (tgt := 95) dX3_shareInTwelfths_77 (by decide) (fun c_5 => ?_) (fun c_5 => ?_)
        · have hr := ifn hr (ntr c_5)
          refine Ev.iinc (pc := 95) (v := nI 1) dX3_shareInTwelfths_95 rfl rfl rfl rfl ?_
          refine Ev.goto (pc := 98) (tgt := 45) dX3_shareInTwelfths_98 (by decide) ?_
          exact ih _ _ hr
        · have hr := ifp hr c_5
          refine Ev.iload_n (pc := 80) dX3_shareInTwelfths_80 rfl ?_
          refine Ev.bipush (pc := 81) (v := nI 12) dX3_shareInTwelfths_81 (by decide) ?_
          refine Ev.iconst (pc := 83) (v := nI 1) dX3_shareInTwelfths_83 (by decide) ?_
          refine Ev.aload_n (pc := 84) dX3_shareInTwelfths_84 rfl ?_
          refine Ev.iload_n (pc := 85) dX3_shareInTwelfths_85 rfl ?_
          obtain ⟨x_1, hx_1, hr⟩ := Option.bind_eq_some_iff.mp hr
          refine Ev.cVi (pc := 86) (As := [.int _]) (kX3_gettersOf _ _ _ _ _ hx_1) rfl rfl (ob_8 _) gX3_shareInTwelfths_X3_gettersOf hdX3_gettersOf rfl ⟨rfl, rfl⟩ ⟨Nat.le_of_ble_eq_true rfl, Nat.le_of_ble_eq_true rfl⟩ (Nat.le_of_ble_eq_true rfl) ⟨Nat.le_of_ble_eq_true rfl, Nat.le_of_ble_eq_true rfl⟩ dX3_shareInTwelfths_86 ?_
          refine Ev.mmax (pc := 89) (by decide +kernel) (by decide +kernel) (by decide +kernel) (by decide +kernel) (by decide) (Nat.le_of_ble_eq_true rfl) ⟨Nat.le_of_ble_eq_true rfl, Nat.le_of_ble_eq_true rfl⟩ dX3_shareInTwelfths_89 ?_
          obtain ⟨c_6, hr⟩ := ckB hr
          refine Ev.idiv (pc := 92) dX3_shareInTwelfths_92 (nz_ne c_6) ?_
          refine Ev.iadd (pc := 93) dX3_shareInTwelfths_93 ?_
          refine Ev.istore_n (pc := 94) dX3_shareInTwelfths_94 rfl rfl ?_
          refine Ev.iinc (pc := 95) (v := nI 1) dX3_shareInTwelfths_95 rfl rfl rfl rfl ?_
          refine Ev.goto (pc := 98) (tgt := 45) dX3_shareInTwelfths_98 (by decide) ?_
          exact ih _ _ hr
def sX3_shareInTwelfths_2 (v1 : Int32) : Nat → Hg → Int32 → Option (Int32 × Hg)
  | 0, _, _ => none
  | n + 1, g, v2 => if (nI 4) ≤ v2 then (sX3_shareInTwelfths_45 g v1 100 (nI 0) (nI 0)) else (if (sX1_isLark g v2) = true then ((sX3_findsToGet g v2 (nI 6)).bind fun x_2 => (if inb v2 4 = true then (sX3_shareInTwelfths_2 v1 n (stA x_2.2 26 (Int32.toNatClampNeg v2) x_2.1) (v2 + (nI 1))) else none)) else (if inb v2 4 = true then (sX3_shareInTwelfths_2 v1 n (stA g 26 (Int32.toNatClampNeg v2) (nI 0)) (v2 + (nI 1))) else none))
set_option maxRecDepth 20000 in
set_option maxHeartbeats 1000000 in
theorem kX3_shareInTwelfths_2 (q : Int64) (g2 : Hg) (q2 : Int64)  (v1 : Int32) (r : Int32 × Hg) : ∀ (n : Nat) (g : Hg) (v2 : Int32), sX3_shareInTwelfths_2 v1 n g v2 = some r → Ev (Xi (fun x h' => x = r.1 ∧ h' = (r.2, q, g2, q2))) MX3_shareInTwelfths 2 [some (.ref 8), some (.int v1), some (.int v2), none] [] (g, q, g2, q2) := by
  intro n
  induction n with
  | zero => intro _ _ hr; cases hr
  | succ n ih =>
    intro g v2 hr
    rw [sX3_shareInTwelfths_2] at hr
    refine Ev.iload_n (pc := 2) dX3_shareInTwelfths_2 rfl ?_
    refine Ev.iconst (pc := 3) (v := nI 4) dX3_shareInTwelfths_3 (by decide) ?_
    refine Ev.icmpge (pc := 4) (tgt := 41) dX3_shareInTwelfths_4 (by decide) (fun c_1 => ?_) (fun c_1 => ?_)
    · have hr := ifp hr c_1
      refine Ev.iconst (pc := 41) (v := nI 0) dX3_shareInTwelfths_41 (by decide) ?_
      refine Ev.istore_n (pc := 42) dX3_shareInTwelfths_42 rfl rfl ?_
      refine Ev.iconst (pc := 43) (v := nI 0) dX3_shareInTwelfths_43 (by decide) ?_
      refine Ev.istore_n (pc := 44) dX3_shareInTwelfths_44 rfl rfl ?_
      exact kX3_shareInTwelfths_45 _ _ _ _ _ _ 100 _ _ hr
    · have hr := ifn hr c_1
      refine Ev.aload_n (pc := 7) dX3_shareInTwelfths_7 rfl ?_
      refine Ev.get (pc := 8) (C0 := RX3) (T := TX3) (N := 4) (fl_8_3 _ _ _ _) rfl inX3_shareInTwelfths (by decide) lkX3_shareInTwelfths_15 dX3_shareInTwelfths_8 ?_
      refine Ev.iload_n (pc := 11) dX3_shareInTwelfths_11 rfl ?_
      refine Ev.aload_n (pc := 12) dX3_shareInTwelfths_12 rfl ?_
      refine Ev.get (pc := 13) (C0 := RX3) (T := TX3) (N := 4) (fl_8_0 _ _ _ _) rfl inX3_shareInTwelfths (by decide) lkX3_shareInTwelfths_18 dX3_shareInTwelfths_13 ?_
      refine Ev.iload_n (pc := 16) dX3_shareInTwelfths_16 rfl ?_
      refine Ev.cVi (pc := 17) (As := [.int _]) (kX1_isLark _ _ _ _ _) rfl rfl (ob_2 _) gX3_shareInTwelfths_X1_isLark hdX1_isLark rfl ⟨rfl, rfl⟩ ⟨Nat.le_of_ble_eq_true rfl, Nat.le_of_ble_eq_true rfl⟩ (Nat.le_of_ble_eq_true rfl) ⟨Nat.le_of_ble_eq_true rfl, Nat.le_of_ble_eq_true rfl⟩ dX3_shareInTwelfths_17 ?_
      refine Ev.ifeqB (pc := 20) (tgt := 33) dX3_shareInTwelfths_20 (by decide) (fun c_7 => ?_) (fun c_7 => ?_)
      · have hr := ifn hr (ntr c_7)
        refine Ev.iconst (pc := 33) (v := nI 0) dX3_shareInTwelfths_33 (by decide) ?_
        obtain ⟨c_8, hr⟩ := ckB hr
        refine Ev.iast (pc := 34) (ar_26 _ _ _ _) (inb_in c_8) (se_26 _ _ _ _ _) dX3_shareInTwelfths_34 ?_
        refine Ev.iinc (pc := 35) (v := nI 1) dX3_shareInTwelfths_35 rfl rfl rfl rfl ?_
        refine Ev.goto (pc := 38) (tgt := 2) dX3_shareInTwelfths_38 (by decide) ?_
        exact ih _ _ hr
      · have hr := ifp hr c_7
        refine Ev.aload_n (pc := 23) dX3_shareInTwelfths_23 rfl ?_
        refine Ev.iload_n (pc := 24) dX3_shareInTwelfths_24 rfl ?_
        refine Ev.bipush (pc := 25) (v := nI 6) dX3_shareInTwelfths_25 (by decide) ?_
        obtain ⟨x_2, hx_2, hr⟩ := Option.bind_eq_some_iff.mp hr
        refine Ev.cVi (pc := 27) (As := [.int _, .int _]) (kX3_findsToGet _ _ _ _ _ _ hx_2) rfl rfl (ob_8 _) gX3_shareInTwelfths_X3_findsToGet hdX3_findsToGet rfl ⟨rfl, rfl⟩ ⟨Nat.le_of_ble_eq_true rfl, Nat.le_of_ble_eq_true rfl⟩ (Nat.le_of_ble_eq_true rfl) ⟨Nat.le_of_ble_eq_true rfl, Nat.le_of_ble_eq_true rfl⟩ dX3_shareInTwelfths_27 ?_
        refine Ev.goto (pc := 30) (tgt := 34) dX3_shareInTwelfths_30 (by decide) ?_
        obtain ⟨c_9, hr⟩ := ckB hr
        refine Ev.iast (pc := 34) (ar_26 _ _ _ _) (inb_in c_9) (se_26 _ _ _ _ _) dX3_shareInTwelfths_34 ?_
        refine Ev.iinc (pc := 35) (v := nI 1) dX3_shareInTwelfths_35 rfl rfl rfl rfl ?_
        refine Ev.goto (pc := 38) (tgt := 2) dX3_shareInTwelfths_38 (by decide) ?_
        exact ih _ _ hr
def sX3_shareInTwelfths (g : Hg) (a1 : Int32) : Option (Int32 × Hg) := sX3_shareInTwelfths_2 a1 100 g (nI 0)
set_option maxRecDepth 20000 in
set_option maxHeartbeats 1000000 in
theorem kX3_shareInTwelfths (g : Hg) (q : Int64) (g2 : Hg) (q2 : Int64) (a1 : Int32) {r : Int32 × Hg} (hr : sX3_shareInTwelfths g a1 = some r) : CtI MX3_shareInTwelfths [.ref 8, .int a1] (g, q, g2, q2) (fun x h' => x = r.1 ∧ h' = (r.2, q, g2, q2)) := by
  unfold sX3_shareInTwelfths at hr
  refine CtI_L 2 rfl (by decide +kernel) rfl (Nat.le_of_ble_eq_true rfl) ?_
  show Ev _ _ 0 [some (.ref 8), some (.int a1), none, none] [] _
  refine Ev.iconst (pc := 0) (v := nI 0) dX3_shareInTwelfths_0 (by decide) ?_
  refine Ev.istore_n (pc := 1) dX3_shareInTwelfths_1 rfl rfl ?_
  exact kX3_shareInTwelfths_2 _ _ _ _ _ 100 _ _ hr
/-! X3_tenthsToStand -/
def sX3_tenthsToStand (g : Hg) (a1 : Int32) (a2 : Int32) (a3 : Int32) : Option (Int32) := (sX4_cellOfLark g 3 a1).bind fun x_1 => ((sX1_height g x_1).bind fun x_2 => ((sX1_board g a1).bind fun x_3 => ((sX1_waterIn g ((sX4_now g 3) + a2)).bind fun x_4 => (if 0 ≤ ((x_2 + x_3) - x_4) then (if ((x_2 + x_3) - x_4) = 0 then (some ((nI 10) - a3)) else (some (nI 10))) else (some (nI 0))))))
set_option maxRecDepth 20000 in
set_option maxHeartbeats 1000000 in
theorem kX3_tenthsToStand (g : Hg) (q : Int64) (g2 : Hg) (q2 : Int64) (a1 : Int32) (a2 : Int32) (a3 : Int32) {r : Int32} (hr : sX3_tenthsToStand g a1 a2 a3 = some r) : CtI MX3_tenthsToStand [.ref 8, .int a1, .int a2, .int a3] (g, q, g2, q2) (fun x h' => x = r ∧ h' = (g, q, g2, q2)) := by
  unfold sX3_tenthsToStand at hr
  refine CtI_L 2 rfl (by decide +kernel) rfl (Nat.le_of_ble_eq_true rfl) ?_
  show Ev _ _ 0 [some (.ref 8), some (.int a1), some (.int a2), some (.int a3), none, none] [] _
  refine Ev.aload_n (pc := 0) dX3_tenthsToStand_0 rfl ?_
  refine Ev.get (pc := 1) (C0 := RX3) (T := TX3) (N := 4) (fl_8_0 _ _ _ _) rfl inX3_tenthsToStand (by decide) lkX3_tenthsToStand_18 dX3_tenthsToStand_1 ?_
  refine Ev.aload_n (pc := 4) dX3_tenthsToStand_4 rfl ?_
  refine Ev.get (pc := 5) (C0 := RX3) (T := TX3) (N := 4) (fl_8_1 _ _ _ _) rfl inX3_tenthsToStand (by decide) lkX3_tenthsToStand_22 dX3_tenthsToStand_5 ?_
  refine Ev.iload_n (pc := 8) dX3_tenthsToStand_8 rfl ?_
  obtain ⟨x_1, hx_1, hr⟩ := Option.bind_eq_some_iff.mp hr
  refine Ev.cVi (pc := 9) (As := [.int _]) (kX4_cellOfLark _ _ _ _ (Or.inl rfl) _ hx_1) rfl rfl (ob_3 _) gX3_tenthsToStand_X4_cellOfLark hdX4_cellOfLark rfl ⟨rfl, rfl⟩ ⟨Nat.le_of_ble_eq_true rfl, Nat.le_of_ble_eq_true rfl⟩ (Nat.le_of_ble_eq_true rfl) ⟨Nat.le_of_ble_eq_true rfl, Nat.le_of_ble_eq_true rfl⟩ dX3_tenthsToStand_9 ?_
  obtain ⟨x_2, hx_2, hr⟩ := Option.bind_eq_some_iff.mp hr
  refine Ev.cVi (pc := 12) (As := [.int _]) (kX1_height _ _ _ _ _ hx_2) rfl rfl (ob_2 _) gX3_tenthsToStand_X1_height hdX1_height rfl ⟨rfl, rfl⟩ ⟨Nat.le_of_ble_eq_true rfl, Nat.le_of_ble_eq_true rfl⟩ (Nat.le_of_ble_eq_true rfl) ⟨Nat.le_of_ble_eq_true rfl, Nat.le_of_ble_eq_true rfl⟩ dX3_tenthsToStand_12 ?_
  refine Ev.aload_n (pc := 15) dX3_tenthsToStand_15 rfl ?_
  refine Ev.get (pc := 16) (C0 := RX3) (T := TX3) (N := 4) (fl_8_0 _ _ _ _) rfl inX3_tenthsToStand (by decide) lkX3_tenthsToStand_18 dX3_tenthsToStand_16 ?_
  refine Ev.iload_n (pc := 19) dX3_tenthsToStand_19 rfl ?_
  obtain ⟨x_3, hx_3, hr⟩ := Option.bind_eq_some_iff.mp hr
  refine Ev.cVi (pc := 20) (As := [.int _]) (kX1_board _ _ _ _ _ hx_3) rfl rfl (ob_2 _) gX3_tenthsToStand_X1_board hdX1_board rfl ⟨rfl, rfl⟩ ⟨Nat.le_of_ble_eq_true rfl, Nat.le_of_ble_eq_true rfl⟩ (Nat.le_of_ble_eq_true rfl) ⟨Nat.le_of_ble_eq_true rfl, Nat.le_of_ble_eq_true rfl⟩ dX3_tenthsToStand_20 ?_
  refine Ev.iadd (pc := 23) dX3_tenthsToStand_23 ?_
  refine Ev.istore (pc := 24) dX3_tenthsToStand_24 rfl rfl ?_
  refine Ev.iload (pc := 26) dX3_tenthsToStand_26 rfl ?_
  refine Ev.aload_n (pc := 28) dX3_tenthsToStand_28 rfl ?_
  refine Ev.get (pc := 29) (C0 := RX3) (T := TX3) (N := 4) (fl_8_0 _ _ _ _) rfl inX3_tenthsToStand (by decide) lkX3_tenthsToStand_18 dX3_tenthsToStand_29 ?_
  refine Ev.aload_n (pc := 32) dX3_tenthsToStand_32 rfl ?_
  refine Ev.get (pc := 33) (C0 := RX3) (T := TX3) (N := 4) (fl_8_1 _ _ _ _) rfl inX3_tenthsToStand (by decide) lkX3_tenthsToStand_22 dX3_tenthsToStand_33 ?_
  refine Ev.cVi (pc := 36) (As := []) (kX4_now _ _ _ _ (Or.inl rfl)) rfl rfl (ob_3 _) gX3_tenthsToStand_X4_now hdX4_now rfl ⟨rfl, rfl⟩ ⟨Nat.le_of_ble_eq_true rfl, Nat.le_of_ble_eq_true rfl⟩ (Nat.le_of_ble_eq_true rfl) ⟨Nat.le_of_ble_eq_true rfl, Nat.le_of_ble_eq_true rfl⟩ dX3_tenthsToStand_36 ?_
  refine Ev.iload_n (pc := 39) dX3_tenthsToStand_39 rfl ?_
  refine Ev.iadd (pc := 40) dX3_tenthsToStand_40 ?_
  obtain ⟨x_4, hx_4, hr⟩ := Option.bind_eq_some_iff.mp hr
  refine Ev.cVi (pc := 41) (As := [.int _]) (kX1_waterIn _ _ _ _ _ hx_4) rfl rfl (ob_2 _) gX3_tenthsToStand_X1_waterIn hdX1_waterIn rfl ⟨rfl, rfl⟩ ⟨Nat.le_of_ble_eq_true rfl, Nat.le_of_ble_eq_true rfl⟩ (Nat.le_of_ble_eq_true rfl) ⟨Nat.le_of_ble_eq_true rfl, Nat.le_of_ble_eq_true rfl⟩ dX3_tenthsToStand_41 ?_
  refine Ev.isub (pc := 44) dX3_tenthsToStand_44 ?_
  refine Ev.istore (pc := 45) dX3_tenthsToStand_45 rfl rfl ?_
  refine Ev.iload (pc := 47) dX3_tenthsToStand_47 rfl ?_
  refine Ev.ifge (pc := 49) (tgt := 54) dX3_tenthsToStand_49 (by decide) (fun c_1 => ?_) (fun c_1 => ?_)
  · have hr := ifp hr c_1
    refine Ev.iload (pc := 54) dX3_tenthsToStand_54 rfl ?_
    refine Ev.ifne (pc := 56) (tgt := 66) dX3_tenthsToStand_56 (by decide) (fun c_2 => ?_) (fun c_2 => ?_)
    · have hr := ifn hr c_2
      refine Ev.bipush (pc := 66) (v := nI 10) dX3_tenthsToStand_66 (by decide) ?_
      cases hr
      exact Ev.iret rfl rfl dX3_tenthsToStand_68 ⟨rfl, rfl⟩
    · have hr := ifp hr c_2
      refine Ev.bipush (pc := 59) (v := nI 10) dX3_tenthsToStand_59 (by decide) ?_
      refine Ev.iload_n (pc := 61) dX3_tenthsToStand_61 rfl ?_
      refine Ev.isub (pc := 62) dX3_tenthsToStand_62 ?_
      refine Ev.goto (pc := 63) (tgt := 68) dX3_tenthsToStand_63 (by decide) ?_
      cases hr
      exact Ev.iret rfl rfl dX3_tenthsToStand_68 ⟨rfl, rfl⟩
  · have hr := ifn hr c_1
    refine Ev.iconst (pc := 52) (v := nI 0) dX3_tenthsToStand_52 (by decide) ?_
    cases hr
    exact Ev.iret rfl rfl dX3_tenthsToStand_53 ⟨rfl, rfl⟩
/-! X4_startAnew -/
def sX4_startAnew_40 (t : Nat) : Nat → Hg → Int32 → Option (Hg)
  | 0, _, _ => none
  | n + 1, g, v1 => if (nI 5) ≤ v1 then (some (stA (stA (stA (stA g (t + 15) (Int32.toNatClampNeg (nI 23)) (nI 0)) (t + 15) (Int32.toNatClampNeg (nI 24)) (nI 0)) (t + 15) (Int32.toNatClampNeg (nI 25)) (nI 0)) (t + 15) (Int32.toNatClampNeg (nI 26)) (nI 0))) else ((sX1_toldCellOfFind g v1).bind fun x_1 => (if inb ((nI 8) + v1) 27 = true then (if inb ((nI 13) + v1) 27 = true then (if inb ((nI 18) + v1) 27 = true then (sX4_startAnew_40 t n (stA (stA (stA g (t + 15) (Int32.toNatClampNeg ((nI 8) + v1)) x_1) (t + 15) (Int32.toNatClampNeg ((nI 13) + v1)) ((-9))) (t + 15) (Int32.toNatClampNeg ((nI 18) + v1)) ((-9))) (v1 + (nI 1))) else none) else none) else none))
set_option maxRecDepth 20000 in
set_option maxHeartbeats 1000000 in
theorem kX4_startAnew_40 (q : Int64) (g2 : Hg) (q2 : Int64) {t : Nat} (ht : t = 3 ∨ t = 4)  (r : Hg) : ∀ (n : Nat) (g : Hg) (v1 : Int32), sX4_startAnew_40 t n g v1 = some r → Ev (Xv (fun h' => h' = (r, q, g2, q2))) MX4_startAnew 40 [some (.ref t), some (.int v1)] [] (g, q, g2, q2) := by
  intro n
  induction n with
  | zero => intro _ _ hr; cases hr
  | succ n ih =>
    intro g v1 hr
    rw [sX4_startAnew_40] at hr
    refine Ev.iload_n (pc := 40) dX4_startAnew_40 rfl ?_
    refine Ev.iconst (pc := 41) (v := nI 5) dX4_startAnew_41 (by decide) ?_
    refine Ev.icmpge (pc := 42) (tgt := 90) dX4_startAnew_42 (by decide) (fun c_2 => ?_) (fun c_2 => ?_)
    · have hr := ifp hr c_2
      refine Ev.aload_n (pc := 90) dX4_startAnew_90 rfl ?_
      refine Ev.get (pc := 91) (C0 := RX4) (T := TX4) (N := 2) (fl_t_1 ht _ _ _ _) rfl inX4_startAnew (by decide) lkX4_startAnew_11 dX4_startAnew_91 ?_
      refine Ev.bipush (pc := 94) (v := nI 23) dX4_startAnew_94 (by decide) ?_
      refine Ev.iconst (pc := 96) (v := nI 0) dX4_startAnew_96 (by decide) ?_
      refine Ev.iast (pc := 97) (ar_t ht _ _ _ _) (vp_in_nI (n := 23) (N := 27) (by decide) (by decide)) (se_t ht _ _ _ _ _) dX4_startAnew_97 ?_
      refine Ev.aload_n (pc := 98) dX4_startAnew_98 rfl ?_
      refine Ev.get (pc := 99) (C0 := RX4) (T := TX4) (N := 2) (fl_t_1 ht _ _ _ _) rfl inX4_startAnew (by decide) lkX4_startAnew_11 dX4_startAnew_99 ?_
      refine Ev.bipush (pc := 102) (v := nI 24) dX4_startAnew_102 (by decide) ?_
      refine Ev.iconst (pc := 104) (v := nI 0) dX4_startAnew_104 (by decide) ?_
      refine Ev.iast (pc := 105) (ar_t ht _ _ _ _) (vp_in_nI (n := 24) (N := 27) (by decide) (by decide)) (se_t ht _ _ _ _ _) dX4_startAnew_105 ?_
      refine Ev.aload_n (pc := 106) dX4_startAnew_106 rfl ?_
      refine Ev.get (pc := 107) (C0 := RX4) (T := TX4) (N := 2) (fl_t_1 ht _ _ _ _) rfl inX4_startAnew (by decide) lkX4_startAnew_11 dX4_startAnew_107 ?_
      refine Ev.bipush (pc := 110) (v := nI 25) dX4_startAnew_110 (by decide) ?_
      refine Ev.iconst (pc := 112) (v := nI 0) dX4_startAnew_112 (by decide) ?_
      refine Ev.iast (pc := 113) (ar_t ht _ _ _ _) (vp_in_nI (n := 25) (N := 27) (by decide) (by decide)) (se_t ht _ _ _ _ _) dX4_startAnew_113 ?_
      refine Ev.aload_n (pc := 114) dX4_startAnew_114 rfl ?_
      refine Ev.get (pc := 115) (C0 := RX4) (T := TX4) (N := 2) (fl_t_1 ht _ _ _ _) rfl inX4_startAnew (by decide) lkX4_startAnew_11 dX4_startAnew_115 ?_
      refine Ev.bipush (pc := 118) (v := nI 26) dX4_startAnew_118 (by decide) ?_
      refine Ev.iconst (pc := 120) (v := nI 0) dX4_startAnew_120 (by decide) ?_
      refine Ev.iast (pc := 121) (ar_t ht _ _ _ _) (vp_in_nI (n := 26) (N := 27) (by decide) (by decide)) (se_t ht _ _ _ _ _) dX4_startAnew_121 ?_
      cases hr
      exact Ev.vret rfl dX4_startAnew_122 rfl
    · have hr := ifn hr c_2
      refine Ev.aload_n (pc := 45) dX4_startAnew_45 rfl ?_
      refine Ev.get (pc := 46) (C0 := RX4) (T := TX4) (N := 2) (fl_t_1 ht _ _ _ _) rfl inX4_startAnew (by decide) lkX4_startAnew_11 dX4_startAnew_46 ?_
      refine Ev.bipush (pc := 49) (v := nI 8) dX4_startAnew_49 (by decide) ?_
      refine Ev.iload_n (pc := 51) dX4_startAnew_51 rfl ?_
      refine Ev.iadd (pc := 52) dX4_startAnew_52 ?_
      refine Ev.aload_n (pc := 53) dX4_startAnew_53 rfl ?_
      refine Ev.get (pc := 54) (C0 := RX4) (T := TX4) (N := 2) (fl_t_0 ht _ _ _ _) rfl inX4_startAnew (by decide) lkX4_startAnew_15 dX4_startAnew_54 ?_
      refine Ev.iload_n (pc := 57) dX4_startAnew_57 rfl ?_
      obtain ⟨x_1, hx_1, hr⟩ := Option.bind_eq_some_iff.mp hr
      refine Ev.cVi (pc := 58) (As := [.int _]) (kX1_toldCellOfFind _ _ _ _ _ hx_1) rfl rfl (ob_2 _) gX4_startAnew_X1_toldCellOfFind hdX1_toldCellOfFind rfl ⟨rfl, rfl⟩ ⟨Nat.le_of_ble_eq_true rfl, Nat.le_of_ble_eq_true rfl⟩ (Nat.le_of_ble_eq_true rfl) ⟨Nat.le_of_ble_eq_true rfl, Nat.le_of_ble_eq_true rfl⟩ dX4_startAnew_58 ?_
      obtain ⟨c_3, hr⟩ := ckB hr
      refine Ev.iast (pc := 61) (ar_t ht _ _ _ _) (inb_in c_3) (se_t ht _ _ _ _ _) dX4_startAnew_61 ?_
      refine Ev.aload_n (pc := 62) dX4_startAnew_62 rfl ?_
      refine Ev.get (pc := 63) (C0 := RX4) (T := TX4) (N := 2) (fl_t_1 ht _ _ _ _) rfl inX4_startAnew (by decide) lkX4_startAnew_11 dX4_startAnew_63 ?_
      refine Ev.bipush (pc := 66) (v := nI 13) dX4_startAnew_66 (by decide) ?_
      refine Ev.iload_n (pc := 68) dX4_startAnew_68 rfl ?_
      refine Ev.iadd (pc := 69) dX4_startAnew_69 ?_
      refine Ev.bipush (pc := 70) (v := (-9)) dX4_startAnew_70 (by decide) ?_
      obtain ⟨c_4, hr⟩ := ckB hr
      refine Ev.iast (pc := 72) (ar_t ht _ _ _ _) (inb_in c_4) (se_t ht _ _ _ _ _) dX4_startAnew_72 ?_
      refine Ev.aload_n (pc := 73) dX4_startAnew_73 rfl ?_
      refine Ev.get (pc := 74) (C0 := RX4) (T := TX4) (N := 2) (fl_t_1 ht _ _ _ _) rfl inX4_startAnew (by decide) lkX4_startAnew_11 dX4_startAnew_74 ?_
      refine Ev.bipush (pc := 77) (v := nI 18) dX4_startAnew_77 (by decide) ?_
      refine Ev.iload_n (pc := 79) dX4_startAnew_79 rfl ?_
      refine Ev.iadd (pc := 80) dX4_startAnew_80 ?_
      refine Ev.bipush (pc := 81) (v := (-9)) dX4_startAnew_81 (by decide) ?_
      obtain ⟨c_5, hr⟩ := ckB hr
      refine Ev.iast (pc := 83) (ar_t ht _ _ _ _) (inb_in c_5) (se_t ht _ _ _ _ _) dX4_startAnew_83 ?_
      refine Ev.iinc (pc := 84) (v := nI 1) dX4_startAnew_84 rfl rfl rfl rfl ?_
      refine Ev.goto (pc := 87) (tgt := 40) dX4_startAnew_87 (by decide) ?_
      exact ih _ _ hr
def sX4_startAnew_2 (t : Nat) : Nat → Hg → Int32 → Option (Hg)
  | 0, _, _ => none
  | n + 1, g, v1 => if (nI 4) ≤ v1 then (sX4_startAnew_40 t 100 g (nI 0)) else ((sX1_toldCellOfLark g v1).bind fun x_2 => (if inb ((nI 0) + v1) 27 = true then (if inb ((nI 4) + v1) 27 = true then (sX4_startAnew_2 t n (stA (stA g (t + 15) (Int32.toNatClampNeg ((nI 0) + v1)) x_2) (t + 15) (Int32.toNatClampNeg ((nI 4) + v1)) (nI 0)) (v1 + (nI 1))) else none) else none))
set_option maxRecDepth 20000 in
set_option maxHeartbeats 1000000 in
theorem kX4_startAnew_2 (q : Int64) (g2 : Hg) (q2 : Int64) {t : Nat} (ht : t = 3 ∨ t = 4)  (r : Hg) : ∀ (n : Nat) (g : Hg) (v1 : Int32), sX4_startAnew_2 t n g v1 = some r → Ev (Xv (fun h' => h' = (r, q, g2, q2))) MX4_startAnew 2 [some (.ref t), some (.int v1)] [] (g, q, g2, q2) := by
  intro n
  induction n with
  | zero => intro _ _ hr; cases hr
  | succ n ih =>
    intro g v1 hr
    rw [sX4_startAnew_2] at hr
    refine Ev.iload_n (pc := 2) dX4_startAnew_2 rfl ?_
    refine Ev.iconst (pc := 3) (v := nI 4) dX4_startAnew_3 (by decide) ?_
    refine Ev.icmpge (pc := 4) (tgt := 38) dX4_startAnew_4 (by decide) (fun c_1 => ?_) (fun c_1 => ?_)
    · have hr := ifp hr c_1
      refine Ev.iconst (pc := 38) (v := nI 0) dX4_startAnew_38 (by decide) ?_
      refine Ev.istore_n (pc := 39) dX4_startAnew_39 rfl rfl ?_
      exact kX4_startAnew_40 _ _ _ ht _ 100 _ _ hr
    · have hr := ifn hr c_1
      refine Ev.aload_n (pc := 7) dX4_startAnew_7 rfl ?_
      refine Ev.get (pc := 8) (C0 := RX4) (T := TX4) (N := 2) (fl_t_1 ht _ _ _ _) rfl inX4_startAnew (by decide) lkX4_startAnew_11 dX4_startAnew_8 ?_
      refine Ev.iconst (pc := 11) (v := nI 0) dX4_startAnew_11 (by decide) ?_
      refine Ev.iload_n (pc := 12) dX4_startAnew_12 rfl ?_
      refine Ev.iadd (pc := 13) dX4_startAnew_13 ?_
      refine Ev.aload_n (pc := 14) dX4_startAnew_14 rfl ?_
      refine Ev.get (pc := 15) (C0 := RX4) (T := TX4) (N := 2) (fl_t_0 ht _ _ _ _) rfl inX4_startAnew (by decide) lkX4_startAnew_15 dX4_startAnew_15 ?_
      refine Ev.iload_n (pc := 18) dX4_startAnew_18 rfl ?_
      obtain ⟨x_2, hx_2, hr⟩ := Option.bind_eq_some_iff.mp hr
      refine Ev.cVi (pc := 19) (As := [.int _]) (kX1_toldCellOfLark _ _ _ _ _ hx_2) rfl rfl (ob_2 _) gX4_startAnew_X1_toldCellOfLark hdX1_toldCellOfLark rfl ⟨rfl, rfl⟩ ⟨Nat.le_of_ble_eq_true rfl, Nat.le_of_ble_eq_true rfl⟩ (Nat.le_of_ble_eq_true rfl) ⟨Nat.le_of_ble_eq_true rfl, Nat.le_of_ble_eq_true rfl⟩ dX4_startAnew_19 ?_
      obtain ⟨c_6, hr⟩ := ckB hr
      refine Ev.iast (pc := 22) (ar_t ht _ _ _ _) (inb_in c_6) (se_t ht _ _ _ _ _) dX4_startAnew_22 ?_
      refine Ev.aload_n (pc := 23) dX4_startAnew_23 rfl ?_
      refine Ev.get (pc := 24) (C0 := RX4) (T := TX4) (N := 2) (fl_t_1 ht _ _ _ _) rfl inX4_startAnew (by decide) lkX4_startAnew_11 dX4_startAnew_24 ?_
      refine Ev.iconst (pc := 27) (v := nI 4) dX4_startAnew_27 (by decide) ?_
      refine Ev.iload_n (pc := 28) dX4_startAnew_28 rfl ?_
      refine Ev.iadd (pc := 29) dX4_startAnew_29 ?_
      refine Ev.iconst (pc := 30) (v := nI 0) dX4_startAnew_30 (by decide) ?_
      obtain ⟨c_7, hr⟩ := ckB hr
      refine Ev.iast (pc := 31) (ar_t ht _ _ _ _) (inb_in c_7) (se_t ht _ _ _ _ _) dX4_startAnew_31 ?_
      refine Ev.iinc (pc := 32) (v := nI 1) dX4_startAnew_32 rfl rfl rfl rfl ?_
      refine Ev.goto (pc := 35) (tgt := 2) dX4_startAnew_35 (by decide) ?_
      exact ih _ _ hr
def sX4_startAnew (g : Hg) (t : Nat) : Option (Hg) := sX4_startAnew_2 t 100 g (nI 0)
set_option maxRecDepth 20000 in
set_option maxHeartbeats 1000000 in
theorem kX4_startAnew (g : Hg) (q : Int64) (g2 : Hg) (q2 : Int64) {t : Nat} (ht : t = 3 ∨ t = 4) {r : Hg} (hr : sX4_startAnew g t = some r) : CtV MX4_startAnew [.ref t] (g, q, g2, q2) (fun h' => h' = (r, q, g2, q2)) := by
  unfold sX4_startAnew at hr
  refine CtV_L 1 rfl (by decide +kernel) rfl (Nat.le_of_ble_eq_true rfl) ?_
  show Ev _ _ 0 [some (.ref t), none] [] _
  refine Ev.iconst (pc := 0) (v := nI 0) dX4_startAnew_0 (by decide) ?_
  refine Ev.istore_n (pc := 1) dX4_startAnew_1 rfl rfl ?_
  exact kX4_startAnew_2 _ _ _ ht _ 100 _ _ hr
/-! X4_drowned -/
def sX4_drowned (g : Hg) (t : Nat) : Int32 := (g (t + 15) (Int32.toNatClampNeg (nI 24)))
set_option maxRecDepth 20000 in
set_option maxHeartbeats 1000000 in
theorem kX4_drowned (g : Hg) (q : Int64) (g2 : Hg) (q2 : Int64) {t : Nat} (ht : t = 3 ∨ t = 4) : CtI MX4_drowned [.ref t] (g, q, g2, q2) (fun x h' => x = (sX4_drowned g t) ∧ h' = (g, q, g2, q2)) := by
  generalize hr : sX4_drowned g t = r
  unfold sX4_drowned at hr
  refine CtI_L 0 rfl (by decide +kernel) rfl (Nat.le_of_ble_eq_true rfl) ?_
  show Ev _ _ 0 [some (.ref t)] [] _
  refine Ev.aload_n (pc := 0) dX4_drowned_0 rfl ?_
  refine Ev.get (pc := 1) (C0 := RX4) (T := TX4) (N := 2) (fl_t_1 ht _ _ _ _) rfl inX4_drowned (by decide) lkX4_drowned_11 dX4_drowned_1 ?_
  refine Ev.bipush (pc := 4) (v := nI 24) dX4_drowned_4 (by decide) ?_
  refine Ev.iald (pc := 6) (ar_t ht _ _ _ _) (vp_in_nI (n := 24) (N := 27) (by decide) (by decide)) dX4_drowned_6 ?_
  subst hr
  exact Ev.iret rfl rfl dX4_drowned_7 ⟨rfl, rfl⟩
/-! X4_coins -/
def sX4_coins (g : Hg) (t : Nat) (a1 : Int32) : Option (Int32) := if (sX1_isLark g a1) = true then (if inb ((nI 4) + a1) 27 = true then (some (g (t + 15) (Int32.toNatClampNeg ((nI 4) + a1)))) else none) else (some (nI 0))
set_option maxRecDepth 20000 in
set_option maxHeartbeats 1000000 in
theorem kX4_coins (g : Hg) (q : Int64) (g2 : Hg) (q2 : Int64) {t : Nat} (ht : t = 3 ∨ t = 4) (a1 : Int32) {r : Int32} (hr : sX4_coins g t a1 = some r) : CtI MX4_coins [.ref t, .int a1] (g, q, g2, q2) (fun x h' => x = r ∧ h' = (g, q, g2, q2)) := by
  unfold sX4_coins at hr
  refine CtI_L 0 rfl (by decide +kernel) rfl (Nat.le_of_ble_eq_true rfl) ?_
  show Ev _ _ 0 [some (.ref t), some (.int a1)] [] _
  refine Ev.aload_n (pc := 0) dX4_coins_0 rfl ?_
  refine Ev.get (pc := 1) (C0 := RX4) (T := TX4) (N := 2) (fl_t_0 ht _ _ _ _) rfl inX4_coins (by decide) lkX4_coins_15 dX4_coins_1 ?_
  refine Ev.iload_n (pc := 4) dX4_coins_4 rfl ?_
  refine Ev.cVi (pc := 5) (As := [.int _]) (kX1_isLark _ _ _ _ _) rfl rfl (ob_2 _) gX4_coins_X1_isLark hdX1_isLark rfl ⟨rfl, rfl⟩ ⟨Nat.le_of_ble_eq_true rfl, Nat.le_of_ble_eq_true rfl⟩ (Nat.le_of_ble_eq_true rfl) ⟨Nat.le_of_ble_eq_true rfl, Nat.le_of_ble_eq_true rfl⟩ dX4_coins_5 ?_
  refine Ev.ifeqB (pc := 8) (tgt := 22) dX4_coins_8 (by decide) (fun c_1 => ?_) (fun c_1 => ?_)
  · have hr := ifn hr (ntr c_1)
    refine Ev.iconst (pc := 22) (v := nI 0) dX4_coins_22 (by decide) ?_
    cases hr
    exact Ev.iret rfl rfl dX4_coins_23 ⟨rfl, rfl⟩
  · have hr := ifp hr c_1
    refine Ev.aload_n (pc := 11) dX4_coins_11 rfl ?_
    refine Ev.get (pc := 12) (C0 := RX4) (T := TX4) (N := 2) (fl_t_1 ht _ _ _ _) rfl inX4_coins (by decide) lkX4_coins_11 dX4_coins_12 ?_
    refine Ev.iconst (pc := 15) (v := nI 4) dX4_coins_15 (by decide) ?_
    refine Ev.iload_n (pc := 16) dX4_coins_16 rfl ?_
    refine Ev.iadd (pc := 17) dX4_coins_17 ?_
    obtain ⟨c_2, hr⟩ := ckB hr
    refine Ev.iald (pc := 18) (ar_t ht _ _ _ _) (inb_in c_2) dX4_coins_18 ?_
    refine Ev.goto (pc := 19) (tgt := 23) dX4_coins_19 (by decide) ?_
    cases hr
    exact Ev.iret rfl rfl dX4_coins_23 ⟨rfl, rfl⟩
