/-! X9_carriedBy -/
def sX9_carriedBy_5 (g2 : Hg) (v1 : Int32) (v2 : Int32) : Nat → Int32 → Int32 → Option (Int32)
  | 0, _, _ => none
  | n + 1, v3, v4 => if (g2 29 1) ≤ v4 then (some v3) else (if inb ((((nI 31) * v1) + (nI 13)) + v4) 62 = true then (if (g2 35 (Int32.toNatClampNeg ((((nI 31) * v1) + (nI 13)) + v4))) = (nI 1) then (if inb ((((nI 31) * v1) + (nI 18)) + v4) 62 = true then (if (g2 35 (Int32.toNatClampNeg ((((nI 31) * v1) + (nI 18)) + v4))) = v2 then (sX9_carriedBy_5 g2 v1 v2 n (v3 ||| ((nI 1) <<< (v4 &&& 31))) (v4 + (nI 1))) else (sX9_carriedBy_5 g2 v1 v2 n (v3 ||| (nI 0)) (v4 + (nI 1)))) else none) else (sX9_carriedBy_5 g2 v1 v2 n (v3 ||| (nI 0)) (v4 + (nI 1)))) else none)
set_option maxRecDepth 20000 in
set_option maxHeartbeats 1000000 in
theorem kX9_carriedBy_5 (g : Hg) (q : Int64) (g2 : Hg) (q2 : Int64)  (v1 : Int32) (v2 : Int32) (r : Int32) : ∀ (n : Nat) (v3 : Int32) (v4 : Int32), sX9_carriedBy_5 g2 v1 v2 n v3 v4 = some r → Ev (Xi (fun x h' => x = r ∧ h' = (g, q, g2, q2))) MX9_carriedBy 5 [some (.ref 29), some (.int v1), some (.int v2), some (.int v3), some (.int v4)] [] (g, q, g2, q2) := by
  intro n
  induction n with
  | zero => intro _ _ hr; cases hr
  | succ n ih =>
    intro v3 v4 hr
    rw [sX9_carriedBy_5] at hr
    refine Ev.iload (pc := 5) dX9_carriedBy_5 rfl ?_
    refine Ev.aload_n (pc := 7) dX9_carriedBy_7 rfl ?_
    refine Ev.get (pc := 8) (C0 := RX9) (T := TX9) (N := 31) (fl_29_1 _ _ _ _) rfl inX9_carriedBy (by decide) lkX9_carriedBy_105 dX9_carriedBy_8 ?_
    refine Ev.icmpge (pc := 11) (tgt := 69) dX9_carriedBy_11 (by decide) (fun c_1 => ?_) (fun c_1 => ?_)
    · have hr := ifp hr c_1
      refine Ev.iload_n (pc := 69) dX9_carriedBy_69 rfl ?_
      cases hr
      exact Ev.iret rfl rfl dX9_carriedBy_70 ⟨rfl, rfl⟩
    · have hr := ifn hr c_1
      refine Ev.iload_n (pc := 14) dX9_carriedBy_14 rfl ?_
      refine Ev.aload_n (pc := 15) dX9_carriedBy_15 rfl ?_
      refine Ev.get (pc := 16) (C0 := RX9) (T := TX9) (N := 31) (fl_29_8 _ _ _ _) rfl inX9_carriedBy (by decide) lkX9_carriedBy_25 dX9_carriedBy_16 ?_
      refine Ev.bipush (pc := 19) (v := nI 31) dX9_carriedBy_19 (by decide) ?_
      refine Ev.iload_n (pc := 21) dX9_carriedBy_21 rfl ?_
      refine Ev.imul (pc := 22) dX9_carriedBy_22 ?_
      refine Ev.bipush (pc := 23) (v := nI 13) dX9_carriedBy_23 (by decide) ?_
      refine Ev.iadd (pc := 25) dX9_carriedBy_25 ?_
      refine Ev.iload (pc := 26) dX9_carriedBy_26 rfl ?_
      refine Ev.iadd (pc := 28) dX9_carriedBy_28 ?_
      obtain ⟨c_2, hr⟩ := ckB hr
      refine Ev.iald (pc := 29) (ar_35 _ _ _ _) (inb_in c_2) dX9_carriedBy_29 ?_
      refine Ev.iconst (pc := 30) (v := nI 1) dX9_carriedBy_30 (by decide) ?_
      refine Ev.icmpne (pc := 31) (tgt := 60) dX9_carriedBy_31 (by decide) (fun c_3 => ?_) (fun c_3 => ?_)
      · have hr := ifn hr c_3
        refine Ev.iconst (pc := 60) (v := nI 0) dX9_carriedBy_60 (by decide) ?_
        refine Ev.ior (pc := 61) dX9_carriedBy_61 ?_
        refine Ev.istore_n (pc := 62) dX9_carriedBy_62 rfl rfl ?_
        refine Ev.iinc (pc := 63) (v := nI 1) dX9_carriedBy_63 rfl rfl rfl rfl ?_
        refine Ev.goto (pc := 66) (tgt := 5) dX9_carriedBy_66 (by decide) ?_
        exact ih _ _ hr
      · have hr := ifp hr c_3
        refine Ev.aload_n (pc := 34) dX9_carriedBy_34 rfl ?_
        refine Ev.get (pc := 35) (C0 := RX9) (T := TX9) (N := 31) (fl_29_8 _ _ _ _) rfl inX9_carriedBy (by decide) lkX9_carriedBy_25 dX9_carriedBy_35 ?_
        refine Ev.bipush (pc := 38) (v := nI 31) dX9_carriedBy_38 (by decide) ?_
        refine Ev.iload_n (pc := 40) dX9_carriedBy_40 rfl ?_
        refine Ev.imul (pc := 41) dX9_carriedBy_41 ?_
        refine Ev.bipush (pc := 42) (v := nI 18) dX9_carriedBy_42 (by decide) ?_
        refine Ev.iadd (pc := 44) dX9_carriedBy_44 ?_
        refine Ev.iload (pc := 45) dX9_carriedBy_45 rfl ?_
        refine Ev.iadd (pc := 47) dX9_carriedBy_47 ?_
        obtain ⟨c_4, hr⟩ := ckB hr
        refine Ev.iald (pc := 48) (ar_35 _ _ _ _) (inb_in c_4) dX9_carriedBy_48 ?_
        refine Ev.iload_n (pc := 49) dX9_carriedBy_49 rfl ?_
        refine Ev.icmpne (pc := 50) (tgt := 60) dX9_carriedBy_50 (by decide) (fun c_5 => ?_) (fun c_5 => ?_)
        · have hr := ifn hr c_5
          refine Ev.iconst (pc := 60) (v := nI 0) dX9_carriedBy_60 (by decide) ?_
          refine Ev.ior (pc := 61) dX9_carriedBy_61 ?_
          refine Ev.istore_n (pc := 62) dX9_carriedBy_62 rfl rfl ?_
          refine Ev.iinc (pc := 63) (v := nI 1) dX9_carriedBy_63 rfl rfl rfl rfl ?_
          refine Ev.goto (pc := 66) (tgt := 5) dX9_carriedBy_66 (by decide) ?_
          exact ih _ _ hr
        · have hr := ifp hr c_5
          refine Ev.iconst (pc := 53) (v := nI 1) dX9_carriedBy_53 (by decide) ?_
          refine Ev.iload (pc := 54) dX9_carriedBy_54 rfl ?_
          refine Ev.ishl (pc := 56) dX9_carriedBy_56 ?_
          refine Ev.goto (pc := 57) (tgt := 61) dX9_carriedBy_57 (by decide) ?_
          refine Ev.ior (pc := 61) dX9_carriedBy_61 ?_
          refine Ev.istore_n (pc := 62) dX9_carriedBy_62 rfl rfl ?_
          refine Ev.iinc (pc := 63) (v := nI 1) dX9_carriedBy_63 rfl rfl rfl rfl ?_
          refine Ev.goto (pc := 66) (tgt := 5) dX9_carriedBy_66 (by decide) ?_
          exact ih _ _ hr
def sX9_carriedBy (g2 : Hg) (a1 : Int32) (a2 : Int32) : Option (Int32) := sX9_carriedBy_5 g2 a1 a2 100 (nI 0) (nI 0)
set_option maxRecDepth 20000 in
set_option maxHeartbeats 1000000 in
theorem kX9_carriedBy (g : Hg) (q : Int64) (g2 : Hg) (q2 : Int64) (a1 : Int32) (a2 : Int32) {r : Int32} (hr : sX9_carriedBy g2 a1 a2 = some r) : CtI MX9_carriedBy [.ref 29, .int a1, .int a2] (g, q, g2, q2) (fun x h' => x = r ∧ h' = (g, q, g2, q2)) := by
  unfold sX9_carriedBy at hr
  refine CtI_L 2 rfl (by decide +kernel) rfl (Nat.le_of_ble_eq_true rfl) ?_
  show Ev _ _ 0 [some (.ref 29), some (.int a1), some (.int a2), none, none] [] _
  refine Ev.iconst (pc := 0) (v := nI 0) dX9_carriedBy_0 (by decide) ?_
  refine Ev.istore_n (pc := 1) dX9_carriedBy_1 rfl rfl ?_
  refine Ev.iconst (pc := 2) (v := nI 0) dX9_carriedBy_2 (by decide) ?_
  refine Ev.istore (pc := 3) dX9_carriedBy_3 rfl rfl ?_
  exact kX9_carriedBy_5 _ _ _ _ _ _ _ 100 _ _ hr
/-! X9_putOn -/
def sX9_putOn_16 (v1 : Int32) (v2 : Int32) (v3 : Int32) (v4 : Int32) : Nat → Hg → Int32 → Option (Hg)
  | 0, _, _ => none
  | n + 1, g2, v5 => if (g2 29 1) ≤ v5 then (some g2) else (if (sX9_has v4 v5) = true then (if inb ((v3 + (nI 13)) + v5) 62 = true then (if inb (v3 + v2) 62 = true then (if inb ((v3 + (nI 8)) + v5) 62 = true then (sX9_putOn_16 v1 v2 v3 v4 n (stA (stA g2 35 (Int32.toNatClampNeg ((v3 + (nI 13)) + v5)) (nI 0)) 35 (Int32.toNatClampNeg ((v3 + (nI 8)) + v5)) ((stA g2 35 (Int32.toNatClampNeg ((v3 + (nI 13)) + v5)) (nI 0)) 35 (Int32.toNatClampNeg (v3 + v2)))) (v5 + (nI 1))) else none) else none) else none) else (sX9_putOn_16 v1 v2 v3 v4 n g2 (v5 + (nI 1))))
set_option maxRecDepth 20000 in
set_option maxHeartbeats 1000000 in
theorem kX9_putOn_16 (g : Hg) (q : Int64) (q2 : Int64)  (v1 : Int32) (v2 : Int32) (v3 : Int32) (v4 : Int32) (r : Hg) : ∀ (n : Nat) (g2 : Hg) (v5 : Int32), sX9_putOn_16 v1 v2 v3 v4 n g2 v5 = some r → Ev (Xv (fun h' => h' = (g, q, r, q2))) MX9_putOn 16 [some (.ref 29), some (.int v1), some (.int v2), some (.int v3), some (.int v4), some (.int v5)] [] (g, q, g2, q2) := by
  intro n
  induction n with
  | zero => intro _ _ hr; cases hr
  | succ n ih =>
    intro g2 v5 hr
    rw [sX9_putOn_16] at hr
    refine Ev.iload (pc := 16) dX9_putOn_16 rfl ?_
    refine Ev.aload_n (pc := 18) dX9_putOn_18 rfl ?_
    refine Ev.get (pc := 19) (C0 := RX9) (T := TX9) (N := 31) (fl_29_1 _ _ _ _) rfl inX9_putOn (by decide) lkX9_putOn_105 dX9_putOn_19 ?_
    refine Ev.icmpge (pc := 22) (tgt := 74) dX9_putOn_22 (by decide) (fun c_1 => ?_) (fun c_1 => ?_)
    · have hr := ifp hr c_1
      cases hr
      exact Ev.vret rfl dX9_putOn_74 rfl
    · have hr := ifn hr c_1
      refine Ev.iload (pc := 25) dX9_putOn_25 rfl ?_
      refine Ev.iload (pc := 27) dX9_putOn_27 rfl ?_
      refine Ev.cSi (pc := 29) (As := [.int _, .int _]) (kX9_has _ _ _ _ _ _) rfl gX9_putOn_X9_has hdX9_has rfl ⟨rfl, rfl⟩ ⟨Nat.le_of_ble_eq_true rfl, Nat.le_of_ble_eq_true rfl⟩ (Nat.le_of_ble_eq_true rfl) ⟨Nat.le_of_ble_eq_true rfl, Nat.le_of_ble_eq_true rfl⟩ dX9_putOn_29 ?_
      refine Ev.ifeqB (pc := 32) (tgt := 68) dX9_putOn_32 (by decide) (fun c_2 => ?_) (fun c_2 => ?_)
      · have hr := ifn hr (ntr c_2)
        refine Ev.iinc (pc := 68) (v := nI 1) dX9_putOn_68 rfl rfl rfl rfl ?_
        refine Ev.goto (pc := 71) (tgt := 16) dX9_putOn_71 (by decide) ?_
        exact ih _ _ hr
      · have hr := ifp hr c_2
        refine Ev.aload_n (pc := 35) dX9_putOn_35 rfl ?_
        refine Ev.get (pc := 36) (C0 := RX9) (T := TX9) (N := 31) (fl_29_8 _ _ _ _) rfl inX9_putOn (by decide) lkX9_putOn_25 dX9_putOn_36 ?_
        refine Ev.iload_n (pc := 39) dX9_putOn_39 rfl ?_
        refine Ev.bipush (pc := 40) (v := nI 13) dX9_putOn_40 (by decide) ?_
        refine Ev.iadd (pc := 42) dX9_putOn_42 ?_
        refine Ev.iload (pc := 43) dX9_putOn_43 rfl ?_
        refine Ev.iadd (pc := 45) dX9_putOn_45 ?_
        refine Ev.iconst (pc := 46) (v := nI 0) dX9_putOn_46 (by decide) ?_
        obtain ⟨c_3, hr⟩ := ckB hr
        refine Ev.iast (pc := 47) (ar_35 _ _ _ _) (inb_in c_3) (se_35 _ _ _ _ _) dX9_putOn_47 ?_
        refine Ev.aload_n (pc := 48) dX9_putOn_48 rfl ?_
        refine Ev.get (pc := 49) (C0 := RX9) (T := TX9) (N := 31) (fl_29_8 _ _ _ _) rfl inX9_putOn (by decide) lkX9_putOn_25 dX9_putOn_49 ?_
        refine Ev.iload_n (pc := 52) dX9_putOn_52 rfl ?_
        refine Ev.bipush (pc := 53) (v := nI 8) dX9_putOn_53 (by decide) ?_
        refine Ev.iadd (pc := 55) dX9_putOn_55 ?_
        refine Ev.iload (pc := 56) dX9_putOn_56 rfl ?_
        refine Ev.iadd (pc := 58) dX9_putOn_58 ?_
        refine Ev.aload_n (pc := 59) dX9_putOn_59 rfl ?_
        refine Ev.get (pc := 60) (C0 := RX9) (T := TX9) (N := 31) (fl_29_8 _ _ _ _) rfl inX9_putOn (by decide) lkX9_putOn_25 dX9_putOn_60 ?_
        refine Ev.iload_n (pc := 63) dX9_putOn_63 rfl ?_
        refine Ev.iload_n (pc := 64) dX9_putOn_64 rfl ?_
        refine Ev.iadd (pc := 65) dX9_putOn_65 ?_
        obtain ⟨c_4, hr⟩ := ckB hr
        refine Ev.iald (pc := 66) (ar_35 _ _ _ _) (inb_in c_4) dX9_putOn_66 ?_
        obtain ⟨c_5, hr⟩ := ckB hr
        refine Ev.iast (pc := 67) (ar_35 _ _ _ _) (inb_in c_5) (se_35 _ _ _ _ _) dX9_putOn_67 ?_
        refine Ev.iinc (pc := 68) (v := nI 1) dX9_putOn_68 rfl rfl rfl rfl ?_
        refine Ev.goto (pc := 71) (tgt := 16) dX9_putOn_71 (by decide) ?_
        exact ih _ _ hr
def sX9_putOn (g2 : Hg) (a1 : Int32) (a2 : Int32) : Option (Hg) := (sX9_carriedBy g2 a1 a2).bind fun x_1 => (sX9_putOn_16 a1 a2 ((nI 31) * a1) x_1 100 g2 (nI 0))
set_option maxRecDepth 20000 in
set_option maxHeartbeats 1000000 in
theorem kX9_putOn (g : Hg) (q : Int64) (g2 : Hg) (q2 : Int64) (a1 : Int32) (a2 : Int32) {r : Hg} (hr : sX9_putOn g2 a1 a2 = some r) : CtV MX9_putOn [.ref 29, .int a1, .int a2] (g, q, g2, q2) (fun h' => h' = (g, q, r, q2)) := by
  unfold sX9_putOn at hr
  refine CtV_L 3 rfl (by decide +kernel) rfl (Nat.le_of_ble_eq_true rfl) ?_
  show Ev _ _ 0 [some (.ref 29), some (.int a1), some (.int a2), none, none, none] [] _
  refine Ev.bipush (pc := 0) (v := nI 31) dX9_putOn_0 (by decide) ?_
  refine Ev.iload_n (pc := 2) dX9_putOn_2 rfl ?_
  refine Ev.imul (pc := 3) dX9_putOn_3 ?_
  refine Ev.istore_n (pc := 4) dX9_putOn_4 rfl rfl ?_
  refine Ev.aload_n (pc := 5) dX9_putOn_5 rfl ?_
  refine Ev.iload_n (pc := 6) dX9_putOn_6 rfl ?_
  refine Ev.iload_n (pc := 7) dX9_putOn_7 rfl ?_
  obtain ⟨x_1, hx_1, hr⟩ := Option.bind_eq_some_iff.mp hr
  refine Ev.cVi (pc := 8) (As := [.int _, .int _]) (kX9_carriedBy _ _ _ _ _ _ hx_1) rfl rfl (ob_29 _) gX9_putOn_X9_carriedBy hdX9_carriedBy rfl ⟨rfl, rfl⟩ ⟨Nat.le_of_ble_eq_true rfl, Nat.le_of_ble_eq_true rfl⟩ (Nat.le_of_ble_eq_true rfl) ⟨Nat.le_of_ble_eq_true rfl, Nat.le_of_ble_eq_true rfl⟩ dX9_putOn_8 ?_
  refine Ev.istore (pc := 11) dX9_putOn_11 rfl rfl ?_
  refine Ev.iconst (pc := 13) (v := nI 0) dX9_putOn_13 (by decide) ?_
  refine Ev.istore (pc := 14) dX9_putOn_14 rfl rfl ?_
  exact kX9_putOn_16 _ _ _ _ _ _ _ _ 100 _ _ hr
/-! X9_passOn -/
def sX9_passOn_33 (v1 : Int32) (v2 : Int32) : Nat → Hg → Int32 → Int32 → Option (Int32 × Hg)
  | 0, _, _, _ => none
  | n + 1, g2, v3, v4 => if (g2 29 2) ≤ v4 then (some (v3, g2)) else (if inb (v2 + (nI 28)) 62 = true then (if (sX9_has (g2 35 (Int32.toNatClampNeg (v2 + (nI 28)))) v4) = true then (sX9_passOn_33 v1 v2 n g2 v3 (v4 + (nI 1))) else (if inb (v2 + v4) 62 = true then (if inb (v2 + (nI 30)) 62 = true then ((sX9_stands g2 v4 (g2 35 (Int32.toNatClampNeg (v2 + v4))) (g2 35 (Int32.toNatClampNeg (v2 + (nI 30))))).bind fun x_1 => (if x_1 = true then (sX9_passOn_33 v1 v2 n g2 v3 (v4 + (nI 1))) else ((sX9_putOn g2 v1 v4).bind fun x_2 => (if inb (v2 + (nI 28)) 62 = true then (if inb (v2 + (nI 28)) 62 = true then (sX9_passOn_33 v1 v2 n (stA x_2 35 (Int32.toNatClampNeg (v2 + (nI 28))) ((x_2 35 (Int32.toNatClampNeg (v2 + (nI 28)))) ||| ((nI 1) <<< (v4 &&& 31)))) (v3 + (nI 1)) (v4 + (nI 1))) else none) else none)))) else none) else none)) else none)
set_option maxRecDepth 20000 in
set_option maxHeartbeats 1000000 in
theorem kX9_passOn_33 (g : Hg) (q : Int64) (q2 : Int64)  (v1 : Int32) (v2 : Int32) (r : Int32 × Hg) : ∀ (n : Nat) (g2 : Hg) (v3 : Int32) (v4 : Int32), sX9_passOn_33 v1 v2 n g2 v3 v4 = some r → Ev (Xi (fun x h' => x = r.1 ∧ h' = (g, q, r.2, q2))) MX9_passOn 33 [some (.ref 29), some (.int v1), some (.int v2), some (.int v3), some (.int v4)] [] (g, q, g2, q2) := by
  intro n
  induction n with
  | zero => intro _ _ _ hr; cases hr
  | succ n ih =>
    intro g2 v3 v4 hr
    rw [sX9_passOn_33] at hr
    refine Ev.iload (pc := 33) dX9_passOn_33 rfl ?_
    refine Ev.aload_n (pc := 35) dX9_passOn_35 rfl ?_
    refine Ev.get (pc := 36) (C0 := RX9) (T := TX9) (N := 31) (fl_29_2 _ _ _ _) rfl inX9_passOn (by decide) lkX9_passOn_108 dX9_passOn_36 ?_
    refine Ev.icmpge (pc := 39) (tgt := 118) dX9_passOn_39 (by decide) (fun c_4 => ?_) (fun c_4 => ?_)
    · have hr := ifp hr c_4
      refine Ev.iload_n (pc := 118) dX9_passOn_118 rfl ?_
      cases hr
      exact Ev.iret rfl rfl dX9_passOn_119 ⟨rfl, rfl⟩
    · have hr := ifn hr c_4
      refine Ev.aload_n (pc := 42) dX9_passOn_42 rfl ?_
      refine Ev.get (pc := 43) (C0 := RX9) (T := TX9) (N := 31) (fl_29_8 _ _ _ _) rfl inX9_passOn (by decide) lkX9_passOn_25 dX9_passOn_43 ?_
      refine Ev.iload_n (pc := 46) dX9_passOn_46 rfl ?_
      refine Ev.bipush (pc := 47) (v := nI 28) dX9_passOn_47 (by decide) ?_
      refine Ev.iadd (pc := 49) dX9_passOn_49 ?_
      obtain ⟨c_5, hr⟩ := ckB hr
      refine Ev.iald (pc := 50) (ar_35 _ _ _ _) (inb_in c_5) dX9_passOn_50 ?_
      refine Ev.iload (pc := 51) dX9_passOn_51 rfl ?_
      refine Ev.cSi (pc := 53) (As := [.int _, .int _]) (kX9_has _ _ _ _ _ _) rfl gX9_passOn_X9_has hdX9_has rfl ⟨rfl, rfl⟩ ⟨Nat.le_of_ble_eq_true rfl, Nat.le_of_ble_eq_true rfl⟩ (Nat.le_of_ble_eq_true rfl) ⟨Nat.le_of_ble_eq_true rfl, Nat.le_of_ble_eq_true rfl⟩ dX9_passOn_53 ?_
      refine Ev.ifneB (pc := 56) (tgt := 112) dX9_passOn_56 (by decide) (fun c_6 => ?_) (fun c_6 => ?_)
      · have hr := ifp hr c_6
        refine Ev.iinc (pc := 112) (v := nI 1) dX9_passOn_112 rfl rfl rfl rfl ?_
        refine Ev.goto (pc := 115) (tgt := 33) dX9_passOn_115 (by decide) ?_
        exact ih _ _ _ hr
      · have hr := ifn hr (ntr c_6)
        refine Ev.aload_n (pc := 59) dX9_passOn_59 rfl ?_
        refine Ev.iload (pc := 60) dX9_passOn_60 rfl ?_
        refine Ev.aload_n (pc := 62) dX9_passOn_62 rfl ?_
        refine Ev.get (pc := 63) (C0 := RX9) (T := TX9) (N := 31) (fl_29_8 _ _ _ _) rfl inX9_passOn (by decide) lkX9_passOn_25 dX9_passOn_63 ?_
        refine Ev.iload_n (pc := 66) dX9_passOn_66 rfl ?_
        refine Ev.iload (pc := 67) dX9_passOn_67 rfl ?_
        refine Ev.iadd (pc := 69) dX9_passOn_69 ?_
        obtain ⟨c_7, hr⟩ := ckB hr
        refine Ev.iald (pc := 70) (ar_35 _ _ _ _) (inb_in c_7) dX9_passOn_70 ?_
        refine Ev.aload_n (pc := 71) dX9_passOn_71 rfl ?_
        refine Ev.get (pc := 72) (C0 := RX9) (T := TX9) (N := 31) (fl_29_8 _ _ _ _) rfl inX9_passOn (by decide) lkX9_passOn_25 dX9_passOn_72 ?_
        refine Ev.iload_n (pc := 75) dX9_passOn_75 rfl ?_
        refine Ev.bipush (pc := 76) (v := nI 30) dX9_passOn_76 (by decide) ?_
        refine Ev.iadd (pc := 78) dX9_passOn_78 ?_
        obtain ⟨c_8, hr⟩ := ckB hr
        refine Ev.iald (pc := 79) (ar_35 _ _ _ _) (inb_in c_8) dX9_passOn_79 ?_
        obtain ⟨x_1, hx_1, hr⟩ := Option.bind_eq_some_iff.mp hr
        refine Ev.cVi (pc := 80) (As := [.int _, .int _, .int _]) (kX9_stands _ _ _ _ _ _ _ hx_1) rfl rfl (ob_29 _) gX9_passOn_X9_stands hdX9_stands rfl ⟨rfl, rfl⟩ ⟨Nat.le_of_ble_eq_true rfl, Nat.le_of_ble_eq_true rfl⟩ (Nat.le_of_ble_eq_true rfl) ⟨Nat.le_of_ble_eq_true rfl, Nat.le_of_ble_eq_true rfl⟩ dX9_passOn_80 ?_
        refine Ev.ifneB (pc := 83) (tgt := 112) dX9_passOn_83 (by decide) (fun c_9 => ?_) (fun c_9 => ?_)
        · have hr := ifp hr c_9
          refine Ev.iinc (pc := 112) (v := nI 1) dX9_passOn_112 rfl rfl rfl rfl ?_
          refine Ev.goto (pc := 115) (tgt := 33) dX9_passOn_115 (by decide) ?_
          exact ih _ _ _ hr
        · have hr := ifn hr (ntr c_9)
          refine Ev.aload_n (pc := 86) dX9_passOn_86 rfl ?_
          refine Ev.iload_n (pc := 87) dX9_passOn_87 rfl ?_
          refine Ev.iload (pc := 88) dX9_passOn_88 rfl ?_
          obtain ⟨x_2, hx_2, hr⟩ := Option.bind_eq_some_iff.mp hr
          refine Ev.cVv (pc := 90) (As := [.int _, .int _]) (kX9_putOn _ _ _ _ _ _ hx_2) rfl rfl (ob_29 _) gX9_passOn_X9_putOn hdX9_putOn rfl ⟨rfl, rfl⟩ ⟨Nat.le_of_ble_eq_true rfl, Nat.le_of_ble_eq_true rfl⟩ (Nat.le_of_ble_eq_true rfl) ⟨Nat.le_of_ble_eq_true rfl, Nat.le_of_ble_eq_true rfl⟩ dX9_passOn_90 ?_
          refine Ev.aload_n (pc := 93) dX9_passOn_93 rfl ?_
          refine Ev.get (pc := 94) (C0 := RX9) (T := TX9) (N := 31) (fl_29_8 _ _ _ _) rfl inX9_passOn (by decide) lkX9_passOn_25 dX9_passOn_94 ?_
          refine Ev.iload_n (pc := 97) dX9_passOn_97 rfl ?_
          refine Ev.bipush (pc := 98) (v := nI 28) dX9_passOn_98 (by decide) ?_
          refine Ev.iadd (pc := 100) dX9_passOn_100 ?_
          refine Ev.dup2 (pc := 101) dX9_passOn_101 rfl rfl ?_
          obtain ⟨c_10, hr⟩ := ckB hr
          refine Ev.iald (pc := 102) (ar_35 _ _ _ _) (inb_in c_10) dX9_passOn_102 ?_
          refine Ev.iconst (pc := 103) (v := nI 1) dX9_passOn_103 (by decide) ?_
          refine Ev.iload (pc := 104) dX9_passOn_104 rfl ?_
          refine Ev.ishl (pc := 106) dX9_passOn_106 ?_
          refine Ev.ior (pc := 107) dX9_passOn_107 ?_
          obtain ⟨c_11, hr⟩ := ckB hr
          refine Ev.iast (pc := 108) (ar_35 _ _ _ _) (inb_in c_11) (se_35 _ _ _ _ _) dX9_passOn_108 ?_
          refine Ev.iinc (pc := 109) (v := nI 1) dX9_passOn_109 rfl rfl rfl rfl ?_
          refine Ev.iinc (pc := 112) (v := nI 1) dX9_passOn_112 rfl rfl rfl rfl ?_
          refine Ev.goto (pc := 115) (tgt := 33) dX9_passOn_115 (by decide) ?_
          exact ih _ _ _ hr
def sX9_passOn (g2 : Hg) (a1 : Int32) : Option (Int32 × Hg) := if inb (((nI 31) * a1) + (nI 30)) 62 = true then (if inb (((nI 31) * a1) + (nI 30)) 62 = true then (if inb (((nI 31) * a1) + (nI 29)) 62 = true then (sX9_passOn_33 a1 ((nI 31) * a1) 100 (stA (stA g2 35 (Int32.toNatClampNeg (((nI 31) * a1) + (nI 30))) ((g2 35 (Int32.toNatClampNeg (((nI 31) * a1) + (nI 30)))) + (nI 1))) 35 (Int32.toNatClampNeg (((nI 31) * a1) + (nI 29))) (nI 0)) (nI 0) (nI 0)) else none) else none) else none
set_option maxRecDepth 20000 in
set_option maxHeartbeats 1000000 in
theorem kX9_passOn (g : Hg) (q : Int64) (g2 : Hg) (q2 : Int64) (a1 : Int32) {r : Int32 × Hg} (hr : sX9_passOn g2 a1 = some r) : CtI MX9_passOn [.ref 29, .int a1] (g, q, g2, q2) (fun x h' => x = r.1 ∧ h' = (g, q, r.2, q2)) := by
  unfold sX9_passOn at hr
  refine CtI_L 3 rfl (by decide +kernel) rfl (Nat.le_of_ble_eq_true rfl) ?_
  show Ev _ _ 0 [some (.ref 29), some (.int a1), none, none, none] [] _
  refine Ev.bipush (pc := 0) (v := nI 31) dX9_passOn_0 (by decide) ?_
  refine Ev.iload_n (pc := 2) dX9_passOn_2 rfl ?_
  refine Ev.imul (pc := 3) dX9_passOn_3 ?_
  refine Ev.istore_n (pc := 4) dX9_passOn_4 rfl rfl ?_
  refine Ev.aload_n (pc := 5) dX9_passOn_5 rfl ?_
  refine Ev.get (pc := 6) (C0 := RX9) (T := TX9) (N := 31) (fl_29_8 _ _ _ _) rfl inX9_passOn (by decide) lkX9_passOn_25 dX9_passOn_6 ?_
  refine Ev.iload_n (pc := 9) dX9_passOn_9 rfl ?_
  refine Ev.bipush (pc := 10) (v := nI 30) dX9_passOn_10 (by decide) ?_
  refine Ev.iadd (pc := 12) dX9_passOn_12 ?_
  refine Ev.dup2 (pc := 13) dX9_passOn_13 rfl rfl ?_
  obtain ⟨c_1, hr⟩ := ckB hr
  refine Ev.iald (pc := 14) (ar_35 _ _ _ _) (inb_in c_1) dX9_passOn_14 ?_
  refine Ev.iconst (pc := 15) (v := nI 1) dX9_passOn_15 (by decide) ?_
  refine Ev.iadd (pc := 16) dX9_passOn_16 ?_
  obtain ⟨c_2, hr⟩ := ckB hr
  refine Ev.iast (pc := 17) (ar_35 _ _ _ _) (inb_in c_2) (se_35 _ _ _ _ _) dX9_passOn_17 ?_
  refine Ev.aload_n (pc := 18) dX9_passOn_18 rfl ?_
  refine Ev.get (pc := 19) (C0 := RX9) (T := TX9) (N := 31) (fl_29_8 _ _ _ _) rfl inX9_passOn (by decide) lkX9_passOn_25 dX9_passOn_19 ?_
  refine Ev.iload_n (pc := 22) dX9_passOn_22 rfl ?_
  refine Ev.bipush (pc := 23) (v := nI 29) dX9_passOn_23 (by decide) ?_
  refine Ev.iadd (pc := 25) dX9_passOn_25 ?_
  refine Ev.iconst (pc := 26) (v := nI 0) dX9_passOn_26 (by decide) ?_
  obtain ⟨c_3, hr⟩ := ckB hr
  refine Ev.iast (pc := 27) (ar_35 _ _ _ _) (inb_in c_3) (se_35 _ _ _ _ _) dX9_passOn_27 ?_
  refine Ev.iconst (pc := 28) (v := nI 0) dX9_passOn_28 (by decide) ?_
  refine Ev.istore_n (pc := 29) dX9_passOn_29 rfl rfl ?_
  refine Ev.iconst (pc := 30) (v := nI 0) dX9_passOn_30 (by decide) ?_
  refine Ev.istore (pc := 31) dX9_passOn_31 rfl rfl ?_
  exact kX9_passOn_33 _ _ _ _ _ _ 100 _ _ _ hr
/-! X9_canDig -/
def sX9_canDig (g2 : Hg) (a1 : Int32) (a2 : Int32) (a3 : Int32) : Option (Bool) := if (sX9_isLark g2 a2) = true then (if (sX9_isFind g2 a3) = true then (if inb (((nI 31) * a1) + (nI 28)) 62 = true then (if (sX9_has (g2 35 (Int32.toNatClampNeg (((nI 31) * a1) + (nI 28)))) a2) = true then (some false) else ((sX9_carriedBy g2 a1 a2).bind fun x_1 => ((sX9_ones x_1).bind fun x_2 => (if (nI 2) ≤ x_2 then (some false) else (if inb ((((nI 31) * a1) + (nI 13)) + a3) 62 = true then (if (g2 35 (Int32.toNatClampNeg ((((nI 31) * a1) + (nI 13)) + a3))) = 0 then (if inb ((((nI 31) * a1) + (nI 8)) + a3) 62 = true then (if inb (((nI 31) * a1) + a2) 62 = true then (if (g2 35 (Int32.toNatClampNeg ((((nI 31) * a1) + (nI 8)) + a3))) = (g2 35 (Int32.toNatClampNeg (((nI 31) * a1) + a2))) then (if inb (((nI 31) * a1) + a2) 62 = true then (if inb (((nI 31) * a1) + (nI 30)) 62 = true then ((sX9_isBare g2 (g2 35 (Int32.toNatClampNeg (((nI 31) * a1) + a2))) (g2 35 (Int32.toNatClampNeg (((nI 31) * a1) + (nI 30))))).bind fun x_3 => (if x_3 = true then (some true) else (some false))) else none) else none) else (some false)) else none) else none) else (some false)) else none))))) else none) else (some false)) else (some false)
set_option maxRecDepth 20000 in
set_option maxHeartbeats 1000000 in
theorem kX9_canDig (g : Hg) (q : Int64) (g2 : Hg) (q2 : Int64) (a1 : Int32) (a2 : Int32) (a3 : Int32) {r : Bool} (hr : sX9_canDig g2 a1 a2 a3 = some r) : CtI MX9_canDig [.ref 29, .int a1, .int a2, .int a3] (g, q, g2, q2) (fun x h' => x = bI r ∧ h' = (g, q, g2, q2)) := by
  unfold sX9_canDig at hr
  refine CtI_L 1 rfl (by decide +kernel) rfl (Nat.le_of_ble_eq_true rfl) ?_
  show Ev _ _ 0 [some (.ref 29), some (.int a1), some (.int a2), some (.int a3), none] [] _
  refine Ev.bipush (pc := 0) (v := nI 31) dX9_canDig_0 (by decide) ?_
  refine Ev.iload_n (pc := 2) dX9_canDig_2 rfl ?_
  refine Ev.imul (pc := 3) dX9_canDig_3 ?_
  refine Ev.istore (pc := 4) dX9_canDig_4 rfl rfl ?_
  refine Ev.aload_n (pc := 6) dX9_canDig_6 rfl ?_
  refine Ev.iload_n (pc := 7) dX9_canDig_7 rfl ?_
  refine Ev.cVi (pc := 8) (As := [.int _]) (kX9_isLark _ _ _ _ _) rfl rfl (ob_29 _) gX9_canDig_X9_isLark hdX9_isLark rfl ⟨rfl, rfl⟩ ⟨Nat.le_of_ble_eq_true rfl, Nat.le_of_ble_eq_true rfl⟩ (Nat.le_of_ble_eq_true rfl) ⟨Nat.le_of_ble_eq_true rfl, Nat.le_of_ble_eq_true rfl⟩ dX9_canDig_8 ?_
  refine Ev.ifeqB (pc := 11) (tgt := 121) dX9_canDig_11 (by decide) (fun c_1 => ?_) (fun c_1 => ?_)
  · have hr := ifn hr (ntr c_1)
    refine Ev.iconst (pc := 121) (v := nI 0) dX9_canDig_121 (by decide) ?_
    cases hr
    exact Ev.iret rfl rfl dX9_canDig_122 ⟨rfl, rfl⟩
  · have hr := ifp hr c_1
    refine Ev.aload_n (pc := 14) dX9_canDig_14 rfl ?_
    refine Ev.iload_n (pc := 15) dX9_canDig_15 rfl ?_
    refine Ev.cVi (pc := 16) (As := [.int _]) (kX9_isFind _ _ _ _ _) rfl rfl (ob_29 _) gX9_canDig_X9_isFind hdX9_isFind rfl ⟨rfl, rfl⟩ ⟨Nat.le_of_ble_eq_true rfl, Nat.le_of_ble_eq_true rfl⟩ (Nat.le_of_ble_eq_true rfl) ⟨Nat.le_of_ble_eq_true rfl, Nat.le_of_ble_eq_true rfl⟩ dX9_canDig_16 ?_
    refine Ev.ifeqB (pc := 19) (tgt := 121) dX9_canDig_19 (by decide) (fun c_2 => ?_) (fun c_2 => ?_)
    · have hr := ifn hr (ntr c_2)
      refine Ev.iconst (pc := 121) (v := nI 0) dX9_canDig_121 (by decide) ?_
      cases hr
      exact Ev.iret rfl rfl dX9_canDig_122 ⟨rfl, rfl⟩
    · have hr := ifp hr c_2
      refine Ev.aload_n (pc := 22) dX9_canDig_22 rfl ?_
      refine Ev.get (pc := 23) (C0 := RX9) (T := TX9) (N := 31) (fl_29_8 _ _ _ _) rfl inX9_canDig (by decide) lkX9_canDig_25 dX9_canDig_23 ?_
      refine Ev.iload (pc := 26) dX9_canDig_26 rfl ?_
      refine Ev.bipush (pc := 28) (v := nI 28) dX9_canDig_28 (by decide) ?_
      refine Ev.iadd (pc := 30) dX9_canDig_30 ?_
      obtain ⟨c_3, hr⟩ := ckB hr
      refine Ev.iald (pc := 31) (ar_35 _ _ _ _) (inb_in c_3) dX9_canDig_31 ?_
      refine Ev.iload_n (pc := 32) dX9_canDig_32 rfl ?_
      refine Ev.cSi (pc := 33) (As := [.int _, .int _]) (kX9_has _ _ _ _ _ _) rfl gX9_canDig_X9_has hdX9_has rfl ⟨rfl, rfl⟩ ⟨Nat.le_of_ble_eq_true rfl, Nat.le_of_ble_eq_true rfl⟩ (Nat.le_of_ble_eq_true rfl) ⟨Nat.le_of_ble_eq_true rfl, Nat.le_of_ble_eq_true rfl⟩ dX9_canDig_33 ?_
      refine Ev.ifneB (pc := 36) (tgt := 121) dX9_canDig_36 (by decide) (fun c_4 => ?_) (fun c_4 => ?_)
      · have hr := ifp hr c_4
        refine Ev.iconst (pc := 121) (v := nI 0) dX9_canDig_121 (by decide) ?_
        cases hr
        exact Ev.iret rfl rfl dX9_canDig_122 ⟨rfl, rfl⟩
      · have hr := ifn hr (ntr c_4)
        refine Ev.aload_n (pc := 39) dX9_canDig_39 rfl ?_
        refine Ev.iload_n (pc := 40) dX9_canDig_40 rfl ?_
        refine Ev.iload_n (pc := 41) dX9_canDig_41 rfl ?_
        obtain ⟨x_1, hx_1, hr⟩ := Option.bind_eq_some_iff.mp hr
        refine Ev.cVi (pc := 42) (As := [.int _, .int _]) (kX9_carriedBy _ _ _ _ _ _ hx_1) rfl rfl (ob_29 _) gX9_canDig_X9_carriedBy hdX9_carriedBy rfl ⟨rfl, rfl⟩ ⟨Nat.le_of_ble_eq_true rfl, Nat.le_of_ble_eq_true rfl⟩ (Nat.le_of_ble_eq_true rfl) ⟨Nat.le_of_ble_eq_true rfl, Nat.le_of_ble_eq_true rfl⟩ dX9_canDig_42 ?_
        obtain ⟨x_2, hx_2, hr⟩ := Option.bind_eq_some_iff.mp hr
        refine Ev.cSi (pc := 45) (As := [.int _]) (kX9_ones _ _ _ _ _ hx_2) rfl gX9_canDig_X9_ones hdX9_ones rfl ⟨rfl, rfl⟩ ⟨Nat.le_of_ble_eq_true rfl, Nat.le_of_ble_eq_true rfl⟩ (Nat.le_of_ble_eq_true rfl) ⟨Nat.le_of_ble_eq_true rfl, Nat.le_of_ble_eq_true rfl⟩ dX9_canDig_45 ?_
        refine Ev.iconst (pc := 48) (v := nI 2) dX9_canDig_48 (by decide) ?_
        refine Ev.icmpge (pc := 49) (tgt := 121) dX9_canDig_49 (by decide) (fun c_5 => ?_) (fun c_5 => ?_)
        · have hr := ifp hr c_5
          refine Ev.iconst (pc := 121) (v := nI 0) dX9_canDig_121 (by decide) ?_
          cases hr
          exact Ev.iret rfl rfl dX9_canDig_122 ⟨rfl, rfl⟩
        · have hr := ifn hr c_5
          refine Ev.aload_n (pc := 52) dX9_canDig_52 rfl ?_
          refine Ev.get (pc := 53) (C0 := RX9) (T := TX9) (N := 31) (fl_29_8 _ _ _ _) rfl inX9_canDig (by decide) lkX9_canDig_25 dX9_canDig_53 ?_
          refine Ev.iload (pc := 56) dX9_canDig_56 rfl ?_
          refine Ev.bipush (pc := 58) (v := nI 13) dX9_canDig_58 (by decide) ?_
          refine Ev.iadd (pc := 60) dX9_canDig_60 ?_
          refine Ev.iload_n (pc := 61) dX9_canDig_61 rfl ?_
          refine Ev.iadd (pc := 62) dX9_canDig_62 ?_
          obtain ⟨c_6, hr⟩ := ckB hr
          refine Ev.iald (pc := 63) (ar_35 _ _ _ _) (inb_in c_6) dX9_canDig_63 ?_
          refine Ev.ifne (pc := 64) (tgt := 121) dX9_canDig_64 (by decide) (fun c_7 => ?_) (fun c_7 => ?_)
          · have hr := ifn hr c_7
            refine Ev.iconst (pc := 121) (v := nI 0) dX9_canDig_121 (by decide) ?_
            cases hr
            exact Ev.iret rfl rfl dX9_canDig_122 ⟨rfl, rfl⟩
          · have hr := ifp hr c_7
            refine Ev.aload_n (pc := 67) dX9_canDig_67 rfl ?_
            refine Ev.get (pc := 68) (C0 := RX9) (T := TX9) (N := 31) (fl_29_8 _ _ _ _) rfl inX9_canDig (by decide) lkX9_canDig_25 dX9_canDig_68 ?_
            refine Ev.iload (pc := 71) dX9_canDig_71 rfl ?_
            refine Ev.bipush (pc := 73) (v := nI 8) dX9_canDig_73 (by decide) ?_
            refine Ev.iadd (pc := 75) dX9_canDig_75 ?_
            refine Ev.iload_n (pc := 76) dX9_canDig_76 rfl ?_
            refine Ev.iadd (pc := 77) dX9_canDig_77 ?_
            obtain ⟨c_8, hr⟩ := ckB hr
            refine Ev.iald (pc := 78) (ar_35 _ _ _ _) (inb_in c_8) dX9_canDig_78 ?_
            refine Ev.aload_n (pc := 79) dX9_canDig_79 rfl ?_
            refine Ev.get (pc := 80) (C0 := RX9) (T := TX9) (N := 31) (fl_29_8 _ _ _ _) rfl inX9_canDig (by decide) lkX9_canDig_25 dX9_canDig_80 ?_
            refine Ev.iload (pc := 83) dX9_canDig_83 rfl ?_
            refine Ev.iload_n (pc := 85) dX9_canDig_85 rfl ?_
            refine Ev.iadd (pc := 86) dX9_canDig_86 ?_
            obtain ⟨c_9, hr⟩ := ckB hr
            refine Ev.iald (pc := 87) (ar_35 _ _ _ _) (inb_in c_9) dX9_canDig_87 ?_
            refine Ev.icmpne (pc := 88) (tgt := 121) dX9_canDig_88 (by decide) (fun c_10 => ?_) (fun c_10 => ?_)
            · have hr := ifn hr c_10
              refine Ev.iconst (pc := 121) (v := nI 0) dX9_canDig_121 (by decide) ?_
              cases hr
              exact Ev.iret rfl rfl dX9_canDig_122 ⟨rfl, rfl⟩
            · have hr := ifp hr c_10
              refine Ev.aload_n (pc := 91) dX9_canDig_91 rfl ?_
              refine Ev.aload_n (pc := 92) dX9_canDig_92 rfl ?_
              refine Ev.get (pc := 93) (C0 := RX9) (T := TX9) (N := 31) (fl_29_8 _ _ _ _) rfl inX9_canDig (by decide) lkX9_canDig_25 dX9_canDig_93 ?_
              refine Ev.iload (pc := 96) dX9_canDig_96 rfl ?_
              refine Ev.iload_n (pc := 98) dX9_canDig_98 rfl ?_
              refine Ev.iadd (pc := 99) dX9_canDig_99 ?_
              obtain ⟨c_11, hr⟩ := ckB hr
              refine Ev.iald (pc := 100) (ar_35 _ _ _ _) (inb_in c_11) dX9_canDig_100 ?_
              refine Ev.aload_n (pc := 101) dX9_canDig_101 rfl ?_
              refine Ev.get (pc := 102) (C0 := RX9) (T := TX9) (N := 31) (fl_29_8 _ _ _ _) rfl inX9_canDig (by decide) lkX9_canDig_25 dX9_canDig_102 ?_
              refine Ev.iload (pc := 105) dX9_canDig_105 rfl ?_
              refine Ev.bipush (pc := 107) (v := nI 30) dX9_canDig_107 (by decide) ?_
              refine Ev.iadd (pc := 109) dX9_canDig_109 ?_
              obtain ⟨c_12, hr⟩ := ckB hr
              refine Ev.iald (pc := 110) (ar_35 _ _ _ _) (inb_in c_12) dX9_canDig_110 ?_
              obtain ⟨x_3, hx_3, hr⟩ := Option.bind_eq_some_iff.mp hr
              refine Ev.cVi (pc := 111) (As := [.int _, .int _]) (kX9_isBare _ _ _ _ _ _ hx_3) rfl rfl (ob_29 _) gX9_canDig_X9_isBare hdX9_isBare rfl ⟨rfl, rfl⟩ ⟨Nat.le_of_ble_eq_true rfl, Nat.le_of_ble_eq_true rfl⟩ (Nat.le_of_ble_eq_true rfl) ⟨Nat.le_of_ble_eq_true rfl, Nat.le_of_ble_eq_true rfl⟩ dX9_canDig_111 ?_
              refine Ev.ifeqB (pc := 114) (tgt := 121) dX9_canDig_114 (by decide) (fun c_13 => ?_) (fun c_13 => ?_)
              · have hr := ifn hr (ntr c_13)
                refine Ev.iconst (pc := 121) (v := nI 0) dX9_canDig_121 (by decide) ?_
                cases hr
                exact Ev.iret rfl rfl dX9_canDig_122 ⟨rfl, rfl⟩
              · have hr := ifp hr c_13
                refine Ev.iconst (pc := 117) (v := nI 1) dX9_canDig_117 (by decide) ?_
                refine Ev.goto (pc := 118) (tgt := 122) dX9_canDig_118 (by decide) ?_
                cases hr
                exact Ev.iret rfl rfl dX9_canDig_122 ⟨rfl, rfl⟩
/-! X9_digOn -/
def sX9_digOn (g2 : Hg) (a1 : Int32) (a2 : Int32) (a3 : Int32) : Option (Hg) := if inb ((((nI 31) * a1) + (nI 13)) + a3) 62 = true then (if inb ((((nI 31) * a1) + (nI 18)) + a3) 62 = true then (if inb (((nI 31) * a1) + (nI 30)) 62 = true then (if inb ((((nI 31) * a1) + (nI 23)) + a3) 62 = true then (some (stA (stA (stA g2 35 (Int32.toNatClampNeg ((((nI 31) * a1) + (nI 13)) + a3)) (nI 1)) 35 (Int32.toNatClampNeg ((((nI 31) * a1) + (nI 18)) + a3)) a2) 35 (Int32.toNatClampNeg ((((nI 31) * a1) + (nI 23)) + a3)) ((stA (stA g2 35 (Int32.toNatClampNeg ((((nI 31) * a1) + (nI 13)) + a3)) (nI 1)) 35 (Int32.toNatClampNeg ((((nI 31) * a1) + (nI 18)) + a3)) a2) 35 (Int32.toNatClampNeg (((nI 31) * a1) + (nI 30)))))) else none) else none) else none) else none
set_option maxRecDepth 20000 in
set_option maxHeartbeats 1000000 in
theorem kX9_digOn (g : Hg) (q : Int64) (g2 : Hg) (q2 : Int64) (a1 : Int32) (a2 : Int32) (a3 : Int32) {r : Hg} (hr : sX9_digOn g2 a1 a2 a3 = some r) : CtV MX9_digOn [.ref 29, .int a1, .int a2, .int a3] (g, q, g2, q2) (fun h' => h' = (g, q, r, q2)) := by
  unfold sX9_digOn at hr
  refine CtV_L 1 rfl (by decide +kernel) rfl (Nat.le_of_ble_eq_true rfl) ?_
  show Ev _ _ 0 [some (.ref 29), some (.int a1), some (.int a2), some (.int a3), none] [] _
  refine Ev.bipush (pc := 0) (v := nI 31) dX9_digOn_0 (by decide) ?_
  refine Ev.iload_n (pc := 2) dX9_digOn_2 rfl ?_
  refine Ev.imul (pc := 3) dX9_digOn_3 ?_
  refine Ev.istore (pc := 4) dX9_digOn_4 rfl rfl ?_
  refine Ev.aload_n (pc := 6) dX9_digOn_6 rfl ?_
  refine Ev.get (pc := 7) (C0 := RX9) (T := TX9) (N := 31) (fl_29_8 _ _ _ _) rfl inX9_digOn (by decide) lkX9_digOn_25 dX9_digOn_7 ?_
  refine Ev.iload (pc := 10) dX9_digOn_10 rfl ?_
  refine Ev.bipush (pc := 12) (v := nI 13) dX9_digOn_12 (by decide) ?_
  refine Ev.iadd (pc := 14) dX9_digOn_14 ?_
  refine Ev.iload_n (pc := 15) dX9_digOn_15 rfl ?_
  refine Ev.iadd (pc := 16) dX9_digOn_16 ?_
  refine Ev.iconst (pc := 17) (v := nI 1) dX9_digOn_17 (by decide) ?_
  obtain ⟨c_1, hr⟩ := ckB hr
  refine Ev.iast (pc := 18) (ar_35 _ _ _ _) (inb_in c_1) (se_35 _ _ _ _ _) dX9_digOn_18 ?_
  refine Ev.aload_n (pc := 19) dX9_digOn_19 rfl ?_
  refine Ev.get (pc := 20) (C0 := RX9) (T := TX9) (N := 31) (fl_29_8 _ _ _ _) rfl inX9_digOn (by decide) lkX9_digOn_25 dX9_digOn_20 ?_
  refine Ev.iload (pc := 23) dX9_digOn_23 rfl ?_
  refine Ev.bipush (pc := 25) (v := nI 18) dX9_digOn_25 (by decide) ?_
  refine Ev.iadd (pc := 27) dX9_digOn_27 ?_
  refine Ev.iload_n (pc := 28) dX9_digOn_28 rfl ?_
  refine Ev.iadd (pc := 29) dX9_digOn_29 ?_
  refine Ev.iload_n (pc := 30) dX9_digOn_30 rfl ?_
  obtain ⟨c_2, hr⟩ := ckB hr
  refine Ev.iast (pc := 31) (ar_35 _ _ _ _) (inb_in c_2) (se_35 _ _ _ _ _) dX9_digOn_31 ?_
  refine Ev.aload_n (pc := 32) dX9_digOn_32 rfl ?_
  refine Ev.get (pc := 33) (C0 := RX9) (T := TX9) (N := 31) (fl_29_8 _ _ _ _) rfl inX9_digOn (by decide) lkX9_digOn_25 dX9_digOn_33 ?_
  refine Ev.iload (pc := 36) dX9_digOn_36 rfl ?_
  refine Ev.bipush (pc := 38) (v := nI 23) dX9_digOn_38 (by decide) ?_
  refine Ev.iadd (pc := 40) dX9_digOn_40 ?_
  refine Ev.iload_n (pc := 41) dX9_digOn_41 rfl ?_
  refine Ev.iadd (pc := 42) dX9_digOn_42 ?_
  refine Ev.aload_n (pc := 43) dX9_digOn_43 rfl ?_
  refine Ev.get (pc := 44) (C0 := RX9) (T := TX9) (N := 31) (fl_29_8 _ _ _ _) rfl inX9_digOn (by decide) lkX9_digOn_25 dX9_digOn_44 ?_
  refine Ev.iload (pc := 47) dX9_digOn_47 rfl ?_
  refine Ev.bipush (pc := 49) (v := nI 30) dX9_digOn_49 (by decide) ?_
  refine Ev.iadd (pc := 51) dX9_digOn_51 ?_
  obtain ⟨c_3, hr⟩ := ckB hr
  refine Ev.iald (pc := 52) (ar_35 _ _ _ _) (inb_in c_3) dX9_digOn_52 ?_
  obtain ⟨c_4, hr⟩ := ckB hr
  refine Ev.iast (pc := 53) (ar_35 _ _ _ _) (inb_in c_4) (se_35 _ _ _ _ _) dX9_digOn_53 ?_
  cases hr
  exact Ev.vret rfl dX9_digOn_54 rfl
/-! X9_canSell -/
def sX9_canSell (g2 : Hg) (a1 : Int32) (a2 : Int32) : Option (Bool) := if (sX9_isLark g2 a2) = true then ((sX9_carriedBy g2 a1 a2).bind fun x_1 => (if x_1 = 0 then (some false) else (if inb (((nI 31) * a1) + a2) 62 = true then (if (nI 4) ≤ (g2 35 (Int32.toNatClampNeg (((nI 31) * a1) + a2))) then (some false) else (some true)) else none))) else (some false)
set_option maxRecDepth 20000 in
set_option maxHeartbeats 1000000 in
theorem kX9_canSell (g : Hg) (q : Int64) (g2 : Hg) (q2 : Int64) (a1 : Int32) (a2 : Int32) {r : Bool} (hr : sX9_canSell g2 a1 a2 = some r) : CtI MX9_canSell [.ref 29, .int a1, .int a2] (g, q, g2, q2) (fun x h' => x = bI r ∧ h' = (g, q, g2, q2)) := by
  unfold sX9_canSell at hr
  refine CtI_L 0 rfl (by decide +kernel) rfl (Nat.le_of_ble_eq_true rfl) ?_
  show Ev _ _ 0 [some (.ref 29), some (.int a1), some (.int a2)] [] _
  refine Ev.aload_n (pc := 0) dX9_canSell_0 rfl ?_
  refine Ev.iload_n (pc := 1) dX9_canSell_1 rfl ?_
  refine Ev.cVi (pc := 2) (As := [.int _]) (kX9_isLark _ _ _ _ _) rfl rfl (ob_29 _) gX9_canSell_X9_isLark hdX9_isLark rfl ⟨rfl, rfl⟩ ⟨Nat.le_of_ble_eq_true rfl, Nat.le_of_ble_eq_true rfl⟩ (Nat.le_of_ble_eq_true rfl) ⟨Nat.le_of_ble_eq_true rfl, Nat.le_of_ble_eq_true rfl⟩ dX9_canSell_2 ?_
  refine Ev.ifeqB (pc := 5) (tgt := 36) dX9_canSell_5 (by decide) (fun c_1 => ?_) (fun c_1 => ?_)
  · have hr := ifn hr (ntr c_1)
    refine Ev.iconst (pc := 36) (v := nI 0) dX9_canSell_36 (by decide) ?_
    cases hr
    exact Ev.iret rfl rfl dX9_canSell_37 ⟨rfl, rfl⟩
  · have hr := ifp hr c_1
    refine Ev.aload_n (pc := 8) dX9_canSell_8 rfl ?_
    refine Ev.iload_n (pc := 9) dX9_canSell_9 rfl ?_
    refine Ev.iload_n (pc := 10) dX9_canSell_10 rfl ?_
    obtain ⟨x_1, hx_1, hr⟩ := Option.bind_eq_some_iff.mp hr
    refine Ev.cVi (pc := 11) (As := [.int _, .int _]) (kX9_carriedBy _ _ _ _ _ _ hx_1) rfl rfl (ob_29 _) gX9_canSell_X9_carriedBy hdX9_carriedBy rfl ⟨rfl, rfl⟩ ⟨Nat.le_of_ble_eq_true rfl, Nat.le_of_ble_eq_true rfl⟩ (Nat.le_of_ble_eq_true rfl) ⟨Nat.le_of_ble_eq_true rfl, Nat.le_of_ble_eq_true rfl⟩ dX9_canSell_11 ?_
    refine Ev.ifeq (pc := 14) (tgt := 36) dX9_canSell_14 (by decide) (fun c_2 => ?_) (fun c_2 => ?_)
    · have hr := ifp hr c_2
      refine Ev.iconst (pc := 36) (v := nI 0) dX9_canSell_36 (by decide) ?_
      cases hr
      exact Ev.iret rfl rfl dX9_canSell_37 ⟨rfl, rfl⟩
    · have hr := ifn hr c_2
      refine Ev.aload_n (pc := 17) dX9_canSell_17 rfl ?_
      refine Ev.get (pc := 18) (C0 := RX9) (T := TX9) (N := 31) (fl_29_8 _ _ _ _) rfl inX9_canSell (by decide) lkX9_canSell_25 dX9_canSell_18 ?_
      refine Ev.bipush (pc := 21) (v := nI 31) dX9_canSell_21 (by decide) ?_
      refine Ev.iload_n (pc := 23) dX9_canSell_23 rfl ?_
      refine Ev.imul (pc := 24) dX9_canSell_24 ?_
      refine Ev.iload_n (pc := 25) dX9_canSell_25 rfl ?_
      refine Ev.iadd (pc := 26) dX9_canSell_26 ?_
      obtain ⟨c_3, hr⟩ := ckB hr
      refine Ev.iald (pc := 27) (ar_35 _ _ _ _) (inb_in c_3) dX9_canSell_27 ?_
      refine Ev.iconst (pc := 28) (v := nI 4) dX9_canSell_28 (by decide) ?_
      refine Ev.icmpge (pc := 29) (tgt := 36) dX9_canSell_29 (by decide) (fun c_4 => ?_) (fun c_4 => ?_)
      · have hr := ifp hr c_4
        refine Ev.iconst (pc := 36) (v := nI 0) dX9_canSell_36 (by decide) ?_
        cases hr
        exact Ev.iret rfl rfl dX9_canSell_37 ⟨rfl, rfl⟩
      · have hr := ifn hr c_4
        refine Ev.iconst (pc := 32) (v := nI 1) dX9_canSell_32 (by decide) ?_
        refine Ev.goto (pc := 33) (tgt := 37) dX9_canSell_33 (by decide) ?_
        cases hr
        exact Ev.iret rfl rfl dX9_canSell_37 ⟨rfl, rfl⟩
/-! X9_priceOf -/
def sX9_priceOf (a1 : Int32) (a2 : Int32) (a3 : Int32) : Int32 := if a1 = 0 then (a2) else (if a1 = (nI 1) then ((nI 0)) else (if a1 = (nI 2) then (if a3 = 0 then ((nI 0)) else (((nI 2) * a2))) else ((a2 / (nI 2)))))
set_option maxRecDepth 20000 in
set_option maxHeartbeats 1000000 in
theorem kX9_priceOf (g : Hg) (q : Int64) (g2 : Hg) (q2 : Int64) (a1 : Int32) (a2 : Int32) (a3 : Int32) : CtI MX9_priceOf [.int a1, .int a2, .int a3] (g, q, g2, q2) (fun x h' => x = (sX9_priceOf a1 a2 a3) ∧ h' = (g, q, g2, q2)) := by
  generalize hr : sX9_priceOf a1 a2 a3 = r
  unfold sX9_priceOf at hr
  refine CtI_L 0 rfl (by decide +kernel) rfl (Nat.le_of_ble_eq_true rfl) ?_
  show Ev _ _ 0 [some (.int a1), some (.int a2), some (.int a3)] [] _
  refine Ev.iload_n (pc := 0) dX9_priceOf_0 rfl ?_
  refine Ev.ifne (pc := 1) (tgt := 8) dX9_priceOf_1 (by decide) (fun c_1 => ?_) (fun c_1 => ?_)
  · have hr := ifn hr c_1
    refine Ev.iload_n (pc := 8) dX9_priceOf_8 rfl ?_
    refine Ev.iconst (pc := 9) (v := nI 1) dX9_priceOf_9 (by decide) ?_
    refine Ev.icmpne (pc := 10) (tgt := 17) dX9_priceOf_10 (by decide) (fun c_2 => ?_) (fun c_2 => ?_)
    · have hr := ifn hr c_2
      refine Ev.iload_n (pc := 17) dX9_priceOf_17 rfl ?_
      refine Ev.iconst (pc := 18) (v := nI 2) dX9_priceOf_18 (by decide) ?_
      refine Ev.icmpne (pc := 19) (tgt := 36) dX9_priceOf_19 (by decide) (fun c_3 => ?_) (fun c_3 => ?_)
      · have hr := ifn hr c_3
        refine Ev.iload_n (pc := 36) dX9_priceOf_36 rfl ?_
        refine Ev.iconst (pc := 37) (v := nI 2) dX9_priceOf_37 (by decide) ?_
        refine Ev.idiv (pc := 38) dX9_priceOf_38 (by decide) ?_
        subst hr
        exact Ev.iret rfl rfl dX9_priceOf_39 ⟨rfl, rfl⟩
      · have hr := ifp hr c_3
        refine Ev.iload_n (pc := 22) dX9_priceOf_22 rfl ?_
        refine Ev.ifeq (pc := 23) (tgt := 32) dX9_priceOf_23 (by decide) (fun c_4 => ?_) (fun c_4 => ?_)
        · have hr := ifp hr c_4
          refine Ev.iconst (pc := 32) (v := nI 0) dX9_priceOf_32 (by decide) ?_
          refine Ev.goto (pc := 33) (tgt := 39) dX9_priceOf_33 (by decide) ?_
          subst hr
          exact Ev.iret rfl rfl dX9_priceOf_39 ⟨rfl, rfl⟩
        · have hr := ifn hr c_4
          refine Ev.iconst (pc := 26) (v := nI 2) dX9_priceOf_26 (by decide) ?_
          refine Ev.iload_n (pc := 27) dX9_priceOf_27 rfl ?_
          refine Ev.imul (pc := 28) dX9_priceOf_28 ?_
          refine Ev.goto (pc := 29) (tgt := 39) dX9_priceOf_29 (by decide) ?_
          subst hr
          exact Ev.iret rfl rfl dX9_priceOf_39 ⟨rfl, rfl⟩
    · have hr := ifp hr c_2
      refine Ev.iconst (pc := 13) (v := nI 0) dX9_priceOf_13 (by decide) ?_
      refine Ev.goto (pc := 14) (tgt := 39) dX9_priceOf_14 (by decide) ?_
      subst hr
      exact Ev.iret rfl rfl dX9_priceOf_39 ⟨rfl, rfl⟩
  · have hr := ifp hr c_1
    refine Ev.iload_n (pc := 4) dX9_priceOf_4 rfl ?_
    refine Ev.goto (pc := 5) (tgt := 39) dX9_priceOf_5 (by decide) ?_
    subst hr
    exact Ev.iret rfl rfl dX9_priceOf_39 ⟨rfl, rfl⟩
/-! X9_sellOn -/
def sX9_sellOn_16 (v1 : Int32) (v2 : Int32) (v3 : Int32) (v4 : Int32) : Nat → Hg → Int32 → Option (Hg)
  | 0, _, _ => none
  | n + 1, g2, v5 => if (g2 29 1) ≤ v5 then (some g2) else (if (sX9_has v4 v5) = true then (if inb ((v3 + (nI 4)) + v2) 62 = true then (if inb v5 5 = true then (if inb v5 5 = true then (if inb ((v3 + (nI 23)) + v5) 62 = true then (if inb (v3 + (nI 30)) 62 = true then (if (g2 35 (Int32.toNatClampNeg ((v3 + (nI 23)) + v5))) = (g2 35 (Int32.toNatClampNeg (v3 + (nI 30)))) then (if inb ((v3 + (nI 4)) + v2) 62 = true then (if inb ((v3 + (nI 13)) + v5) 62 = true then (sX9_sellOn_16 v1 v2 v3 v4 n (stA (stA g2 35 (Int32.toNatClampNeg ((v3 + (nI 4)) + v2)) ((g2 35 (Int32.toNatClampNeg ((v3 + (nI 4)) + v2))) + (sX9_priceOf (g2 33 (Int32.toNatClampNeg v5)) (g2 32 (Int32.toNatClampNeg v5)) (nI 1)))) 35 (Int32.toNatClampNeg ((v3 + (nI 13)) + v5)) (nI 2)) (v5 + (nI 1))) else none) else none) else (if inb ((v3 + (nI 4)) + v2) 62 = true then (if inb ((v3 + (nI 13)) + v5) 62 = true then (sX9_sellOn_16 v1 v2 v3 v4 n (stA (stA g2 35 (Int32.toNatClampNeg ((v3 + (nI 4)) + v2)) ((g2 35 (Int32.toNatClampNeg ((v3 + (nI 4)) + v2))) + (sX9_priceOf (g2 33 (Int32.toNatClampNeg v5)) (g2 32 (Int32.toNatClampNeg v5)) (nI 0)))) 35 (Int32.toNatClampNeg ((v3 + (nI 13)) + v5)) (nI 2)) (v5 + (nI 1))) else none) else none)) else none) else none) else none) else none) else none) else (sX9_sellOn_16 v1 v2 v3 v4 n g2 (v5 + (nI 1))))
set_option maxRecDepth 20000 in
set_option maxHeartbeats 1000000 in
theorem kX9_sellOn_16 (g : Hg) (q : Int64) (q2 : Int64)  (v1 : Int32) (v2 : Int32) (v3 : Int32) (v4 : Int32) (r : Hg) : ∀ (n : Nat) (g2 : Hg) (v5 : Int32), sX9_sellOn_16 v1 v2 v3 v4 n g2 v5 = some r → Ev (Xv (fun h' => h' = (g, q, r, q2))) MX9_sellOn 16 [some (.ref 29), some (.int v1), some (.int v2), some (.int v3), some (.int v4), some (.int v5)] [] (g, q, g2, q2) := by
  intro n
  induction n with
  | zero => intro _ _ hr; cases hr
  | succ n ih =>
    intro g2 v5 hr
    rw [sX9_sellOn_16] at hr
    refine Ev.iload (pc := 16) dX9_sellOn_16 rfl ?_
    refine Ev.aload_n (pc := 18) dX9_sellOn_18 rfl ?_
    refine Ev.get (pc := 19) (C0 := RX9) (T := TX9) (N := 31) (fl_29_1 _ _ _ _) rfl inX9_sellOn (by decide) lkX9_sellOn_105 dX9_sellOn_19 ?_
    refine Ev.icmpge (pc := 22) (tgt := 113) dX9_sellOn_22 (by decide) (fun c_1 => ?_) (fun c_1 => ?_)
    · have hr := ifp hr c_1
      cases hr
      exact Ev.vret rfl dX9_sellOn_113 rfl
    · have hr := ifn hr c_1
      refine Ev.iload (pc := 25) dX9_sellOn_25 rfl ?_
      refine Ev.iload (pc := 27) dX9_sellOn_27 rfl ?_
      refine Ev.cSi (pc := 29) (As := [.int _, .int _]) (kX9_has _ _ _ _ _ _) rfl gX9_sellOn_X9_has hdX9_has rfl ⟨rfl, rfl⟩ ⟨Nat.le_of_ble_eq_true rfl, Nat.le_of_ble_eq_true rfl⟩ (Nat.le_of_ble_eq_true rfl) ⟨Nat.le_of_ble_eq_true rfl, Nat.le_of_ble_eq_true rfl⟩ dX9_sellOn_29 ?_
      refine Ev.ifeqB (pc := 32) (tgt := 107) dX9_sellOn_32 (by decide) (fun c_2 => ?_) (fun c_2 => ?_)
      · have hr := ifn hr (ntr c_2)
        refine Ev.iinc (pc := 107) (v := nI 1) dX9_sellOn_107 rfl rfl rfl rfl ?_
        refine Ev.goto (pc := 110) (tgt := 16) dX9_sellOn_110 (by decide) ?_
        exact ih _ _ hr
      · have hr := ifp hr c_2
        refine Ev.aload_n (pc := 35) dX9_sellOn_35 rfl ?_
        refine Ev.get (pc := 36) (C0 := RX9) (T := TX9) (N := 31) (fl_29_8 _ _ _ _) rfl inX9_sellOn (by decide) lkX9_sellOn_25 dX9_sellOn_36 ?_
        refine Ev.iload_n (pc := 39) dX9_sellOn_39 rfl ?_
        refine Ev.iconst (pc := 40) (v := nI 4) dX9_sellOn_40 (by decide) ?_
        refine Ev.iadd (pc := 41) dX9_sellOn_41 ?_
        refine Ev.iload_n (pc := 42) dX9_sellOn_42 rfl ?_
        refine Ev.iadd (pc := 43) dX9_sellOn_43 ?_
        refine Ev.dup2 (pc := 44) dX9_sellOn_44 rfl rfl ?_
        obtain ⟨c_3, hr⟩ := ckB hr
        refine Ev.iald (pc := 45) (ar_35 _ _ _ _) (inb_in c_3) dX9_sellOn_45 ?_
        refine Ev.aload_n (pc := 46) dX9_sellOn_46 rfl ?_
        refine Ev.get (pc := 47) (C0 := RX9) (T := TX9) (N := 31) (fl_29_6 _ _ _ _) rfl inX9_sellOn (by decide) lkX9_sellOn_19 dX9_sellOn_47 ?_
        refine Ev.iload (pc := 50) dX9_sellOn_50 rfl ?_
        obtain ⟨c_4, hr⟩ := ckB hr
        refine Ev.iald (pc := 52) (ar_33 _ _ _ _) (inb_in c_4) dX9_sellOn_52 ?_
        refine Ev.aload_n (pc := 53) dX9_sellOn_53 rfl ?_
        refine Ev.get (pc := 54) (C0 := RX9) (T := TX9) (N := 31) (fl_29_5 _ _ _ _) rfl inX9_sellOn (by decide) lkX9_sellOn_16 dX9_sellOn_54 ?_
        refine Ev.iload (pc := 57) dX9_sellOn_57 rfl ?_
        obtain ⟨c_5, hr⟩ := ckB hr
        refine Ev.iald (pc := 59) (ar_32 _ _ _ _) (inb_in c_5) dX9_sellOn_59 ?_
        refine Ev.aload_n (pc := 60) dX9_sellOn_60 rfl ?_
        refine Ev.get (pc := 61) (C0 := RX9) (T := TX9) (N := 31) (fl_29_8 _ _ _ _) rfl inX9_sellOn (by decide) lkX9_sellOn_25 dX9_sellOn_61 ?_
        refine Ev.iload_n (pc := 64) dX9_sellOn_64 rfl ?_
        refine Ev.bipush (pc := 65) (v := nI 23) dX9_sellOn_65 (by decide) ?_
        refine Ev.iadd (pc := 67) dX9_sellOn_67 ?_
        refine Ev.iload (pc := 68) dX9_sellOn_68 rfl ?_
        refine Ev.iadd (pc := 70) dX9_sellOn_70 ?_
        obtain ⟨c_6, hr⟩ := ckB hr
        refine Ev.iald (pc := 71) (ar_35 _ _ _ _) (inb_in c_6) dX9_sellOn_71 ?_
        refine Ev.aload_n (pc := 72) dX9_sellOn_72 rfl ?_
        refine Ev.get (pc := 73) (C0 := RX9) (T := TX9) (N := 31) (fl_29_8 _ _ _ _) rfl inX9_sellOn (by decide) lkX9_sellOn_25 dX9_sellOn_73 ?_
        refine Ev.iload_n (pc := 76) dX9_sellOn_76 rfl ?_
        refine Ev.bipush (pc := 77) (v := nI 30) dX9_sellOn_77 (by decide) ?_
        refine Ev.iadd (pc := 79) dX9_sellOn_79 ?_
        obtain ⟨c_7, hr⟩ := ckB hr
        refine Ev.iald (pc := 80) (ar_35 _ _ _ _) (inb_in c_7) dX9_sellOn_80 ?_
        refine Ev.icmpne (pc := 81) (tgt := 88) dX9_sellOn_81 (by decide) (fun c_8 => ?_) (fun c_8 => ?_)
        · have hr := ifn hr c_8
          refine Ev.iconst (pc := 88) (v := nI 0) dX9_sellOn_88 (by decide) ?_
          refine Ev.cSi (pc := 89) (As := [.int _, .int _, .int _]) (kX9_priceOf _ _ _ _ _ _ _) rfl gX9_sellOn_X9_priceOf hdX9_priceOf rfl ⟨rfl, rfl⟩ ⟨Nat.le_of_ble_eq_true rfl, Nat.le_of_ble_eq_true rfl⟩ (Nat.le_of_ble_eq_true rfl) ⟨Nat.le_of_ble_eq_true rfl, Nat.le_of_ble_eq_true rfl⟩ dX9_sellOn_89 ?_
          refine Ev.iadd (pc := 92) dX9_sellOn_92 ?_
          obtain ⟨c_9, hr⟩ := ckB hr
          refine Ev.iast (pc := 93) (ar_35 _ _ _ _) (inb_in c_9) (se_35 _ _ _ _ _) dX9_sellOn_93 ?_
          refine Ev.aload_n (pc := 94) dX9_sellOn_94 rfl ?_
          refine Ev.get (pc := 95) (C0 := RX9) (T := TX9) (N := 31) (fl_29_8 _ _ _ _) rfl inX9_sellOn (by decide) lkX9_sellOn_25 dX9_sellOn_95 ?_
          refine Ev.iload_n (pc := 98) dX9_sellOn_98 rfl ?_
          refine Ev.bipush (pc := 99) (v := nI 13) dX9_sellOn_99 (by decide) ?_
          refine Ev.iadd (pc := 101) dX9_sellOn_101 ?_
          refine Ev.iload (pc := 102) dX9_sellOn_102 rfl ?_
          refine Ev.iadd (pc := 104) dX9_sellOn_104 ?_
          refine Ev.iconst (pc := 105) (v := nI 2) dX9_sellOn_105 (by decide) ?_
          obtain ⟨c_10, hr⟩ := ckB hr
          refine Ev.iast (pc := 106) (ar_35 _ _ _ _) (inb_in c_10) (se_35 _ _ _ _ _) dX9_sellOn_106 ?_
          refine Ev.iinc (pc := 107) (v := nI 1) dX9_sellOn_107 rfl rfl rfl rfl ?_
          refine Ev.goto (pc := 110) (tgt := 16) dX9_sellOn_110 (by decide) ?_
          exact ih _ _ hr
        · have hr := ifp hr c_8
          refine Ev.iconst (pc := 84) (v := nI 1) dX9_sellOn_84 (by decide) ?_
          refine Ev.goto (pc := 85) (tgt := 89) dX9_sellOn_85 (by decide) ?_
          refine Ev.cSi (pc := 89) (As := [.int _, .int _, .int _]) (kX9_priceOf _ _ _ _ _ _ _) rfl gX9_sellOn_X9_priceOf hdX9_priceOf rfl ⟨rfl, rfl⟩ ⟨Nat.le_of_ble_eq_true rfl, Nat.le_of_ble_eq_true rfl⟩ (Nat.le_of_ble_eq_true rfl) ⟨Nat.le_of_ble_eq_true rfl, Nat.le_of_ble_eq_true rfl⟩ dX9_sellOn_89 ?_
          refine Ev.iadd (pc := 92) dX9_sellOn_92 ?_
          obtain ⟨c_11, hr⟩ := ckB hr
          refine Ev.iast (pc := 93) (ar_35 _ _ _ _) (inb_in c_11) (se_35 _ _ _ _ _) dX9_sellOn_93 ?_
          refine Ev.aload_n (pc := 94) dX9_sellOn_94 rfl ?_
          refine Ev.get (pc := 95) (C0 := RX9) (T := TX9) (N := 31) (fl_29_8 _ _ _ _) rfl inX9_sellOn (by decide) lkX9_sellOn_25 dX9_sellOn_95 ?_
          refine Ev.iload_n (pc := 98) dX9_sellOn_98 rfl ?_
          refine Ev.bipush (pc := 99) (v := nI 13) dX9_sellOn_99 (by decide) ?_
          refine Ev.iadd (pc := 101) dX9_sellOn_101 ?_
          refine Ev.iload (pc := 102) dX9_sellOn_102 rfl ?_
          refine Ev.iadd (pc := 104) dX9_sellOn_104 ?_
          refine Ev.iconst (pc := 105) (v := nI 2) dX9_sellOn_105 (by decide) ?_
          obtain ⟨c_12, hr⟩ := ckB hr
          refine Ev.iast (pc := 106) (ar_35 _ _ _ _) (inb_in c_12) (se_35 _ _ _ _ _) dX9_sellOn_106 ?_
          refine Ev.iinc (pc := 107) (v := nI 1) dX9_sellOn_107 rfl rfl rfl rfl ?_
          refine Ev.goto (pc := 110) (tgt := 16) dX9_sellOn_110 (by decide) ?_
          exact ih _ _ hr
def sX9_sellOn (g2 : Hg) (a1 : Int32) (a2 : Int32) : Option (Hg) := (sX9_carriedBy g2 a1 a2).bind fun x_1 => (sX9_sellOn_16 a1 a2 ((nI 31) * a1) x_1 100 g2 (nI 0))
set_option maxRecDepth 20000 in
set_option maxHeartbeats 1000000 in
theorem kX9_sellOn (g : Hg) (q : Int64) (g2 : Hg) (q2 : Int64) (a1 : Int32) (a2 : Int32) {r : Hg} (hr : sX9_sellOn g2 a1 a2 = some r) : CtV MX9_sellOn [.ref 29, .int a1, .int a2] (g, q, g2, q2) (fun h' => h' = (g, q, r, q2)) := by
  unfold sX9_sellOn at hr
  refine CtV_L 3 rfl (by decide +kernel) rfl (Nat.le_of_ble_eq_true rfl) ?_
  show Ev _ _ 0 [some (.ref 29), some (.int a1), some (.int a2), none, none, none] [] _
  refine Ev.bipush (pc := 0) (v := nI 31) dX9_sellOn_0 (by decide) ?_
  refine Ev.iload_n (pc := 2) dX9_sellOn_2 rfl ?_
  refine Ev.imul (pc := 3) dX9_sellOn_3 ?_
  refine Ev.istore_n (pc := 4) dX9_sellOn_4 rfl rfl ?_
  refine Ev.aload_n (pc := 5) dX9_sellOn_5 rfl ?_
  refine Ev.iload_n (pc := 6) dX9_sellOn_6 rfl ?_
  refine Ev.iload_n (pc := 7) dX9_sellOn_7 rfl ?_
  obtain ⟨x_1, hx_1, hr⟩ := Option.bind_eq_some_iff.mp hr
  refine Ev.cVi (pc := 8) (As := [.int _, .int _]) (kX9_carriedBy _ _ _ _ _ _ hx_1) rfl rfl (ob_29 _) gX9_sellOn_X9_carriedBy hdX9_carriedBy rfl ⟨rfl, rfl⟩ ⟨Nat.le_of_ble_eq_true rfl, Nat.le_of_ble_eq_true rfl⟩ (Nat.le_of_ble_eq_true rfl) ⟨Nat.le_of_ble_eq_true rfl, Nat.le_of_ble_eq_true rfl⟩ dX9_sellOn_8 ?_
  refine Ev.istore (pc := 11) dX9_sellOn_11 rfl rfl ?_
  refine Ev.iconst (pc := 13) (v := nI 0) dX9_sellOn_13 (by decide) ?_
  refine Ev.istore (pc := 14) dX9_sellOn_14 rfl rfl ?_
  exact kX9_sellOn_16 _ _ _ _ _ _ _ _ 100 _ _ hr
/-! X9_lieAt -/
def sX9_lieAt_5 (g2 : Hg) (v1 : Int32) (v2 : Int32) : Nat → Int32 → Int32 → Option (Int32)
  | 0, _, _ => none
  | n + 1, v3, v4 => if (g2 29 1) ≤ v4 then (some v3) else (if inb ((((nI 31) * v1) + (nI 13)) + v4) 62 = true then (if (g2 35 (Int32.toNatClampNeg ((((nI 31) * v1) + (nI 13)) + v4))) = 0 then (if inb ((((nI 31) * v1) + (nI 8)) + v4) 62 = true then (if (g2 35 (Int32.toNatClampNeg ((((nI 31) * v1) + (nI 8)) + v4))) = v2 then (sX9_lieAt_5 g2 v1 v2 n (v3 ||| ((nI 1) <<< (v4 &&& 31))) (v4 + (nI 1))) else (sX9_lieAt_5 g2 v1 v2 n (v3 ||| (nI 0)) (v4 + (nI 1)))) else none) else (sX9_lieAt_5 g2 v1 v2 n (v3 ||| (nI 0)) (v4 + (nI 1)))) else none)
set_option maxRecDepth 20000 in
set_option maxHeartbeats 1000000 in
theorem kX9_lieAt_5 (g : Hg) (q : Int64) (g2 : Hg) (q2 : Int64)  (v1 : Int32) (v2 : Int32) (r : Int32) : ∀ (n : Nat) (v3 : Int32) (v4 : Int32), sX9_lieAt_5 g2 v1 v2 n v3 v4 = some r → Ev (Xi (fun x h' => x = r ∧ h' = (g, q, g2, q2))) MX9_lieAt 5 [some (.ref 29), some (.int v1), some (.int v2), some (.int v3), some (.int v4)] [] (g, q, g2, q2) := by
  intro n
  induction n with
  | zero => intro _ _ hr; cases hr
  | succ n ih =>
    intro v3 v4 hr
    rw [sX9_lieAt_5] at hr
    refine Ev.iload (pc := 5) dX9_lieAt_5 rfl ?_
    refine Ev.aload_n (pc := 7) dX9_lieAt_7 rfl ?_
    refine Ev.get (pc := 8) (C0 := RX9) (T := TX9) (N := 31) (fl_29_1 _ _ _ _) rfl inX9_lieAt (by decide) lkX9_lieAt_105 dX9_lieAt_8 ?_
    refine Ev.icmpge (pc := 11) (tgt := 68) dX9_lieAt_11 (by decide) (fun c_1 => ?_) (fun c_1 => ?_)
    · have hr := ifp hr c_1
      refine Ev.iload_n (pc := 68) dX9_lieAt_68 rfl ?_
      cases hr
      exact Ev.iret rfl rfl dX9_lieAt_69 ⟨rfl, rfl⟩
    · have hr := ifn hr c_1
      refine Ev.iload_n (pc := 14) dX9_lieAt_14 rfl ?_
      refine Ev.aload_n (pc := 15) dX9_lieAt_15 rfl ?_
      refine Ev.get (pc := 16) (C0 := RX9) (T := TX9) (N := 31) (fl_29_8 _ _ _ _) rfl inX9_lieAt (by decide) lkX9_lieAt_25 dX9_lieAt_16 ?_
      refine Ev.bipush (pc := 19) (v := nI 31) dX9_lieAt_19 (by decide) ?_
      refine Ev.iload_n (pc := 21) dX9_lieAt_21 rfl ?_
      refine Ev.imul (pc := 22) dX9_lieAt_22 ?_
      refine Ev.bipush (pc := 23) (v := nI 13) dX9_lieAt_23 (by decide) ?_
      refine Ev.iadd (pc := 25) dX9_lieAt_25 ?_
      refine Ev.iload (pc := 26) dX9_lieAt_26 rfl ?_
      refine Ev.iadd (pc := 28) dX9_lieAt_28 ?_
      obtain ⟨c_2, hr⟩ := ckB hr
      refine Ev.iald (pc := 29) (ar_35 _ _ _ _) (inb_in c_2) dX9_lieAt_29 ?_
      refine Ev.ifne (pc := 30) (tgt := 59) dX9_lieAt_30 (by decide) (fun c_3 => ?_) (fun c_3 => ?_)
      · have hr := ifn hr c_3
        refine Ev.iconst (pc := 59) (v := nI 0) dX9_lieAt_59 (by decide) ?_
        refine Ev.ior (pc := 60) dX9_lieAt_60 ?_
        refine Ev.istore_n (pc := 61) dX9_lieAt_61 rfl rfl ?_
        refine Ev.iinc (pc := 62) (v := nI 1) dX9_lieAt_62 rfl rfl rfl rfl ?_
        refine Ev.goto (pc := 65) (tgt := 5) dX9_lieAt_65 (by decide) ?_
        exact ih _ _ hr
      · have hr := ifp hr c_3
        refine Ev.aload_n (pc := 33) dX9_lieAt_33 rfl ?_
        refine Ev.get (pc := 34) (C0 := RX9) (T := TX9) (N := 31) (fl_29_8 _ _ _ _) rfl inX9_lieAt (by decide) lkX9_lieAt_25 dX9_lieAt_34 ?_
        refine Ev.bipush (pc := 37) (v := nI 31) dX9_lieAt_37 (by decide) ?_
        refine Ev.iload_n (pc := 39) dX9_lieAt_39 rfl ?_
        refine Ev.imul (pc := 40) dX9_lieAt_40 ?_
        refine Ev.bipush (pc := 41) (v := nI 8) dX9_lieAt_41 (by decide) ?_
        refine Ev.iadd (pc := 43) dX9_lieAt_43 ?_
        refine Ev.iload (pc := 44) dX9_lieAt_44 rfl ?_
        refine Ev.iadd (pc := 46) dX9_lieAt_46 ?_
        obtain ⟨c_4, hr⟩ := ckB hr
        refine Ev.iald (pc := 47) (ar_35 _ _ _ _) (inb_in c_4) dX9_lieAt_47 ?_
        refine Ev.iload_n (pc := 48) dX9_lieAt_48 rfl ?_
        refine Ev.icmpne (pc := 49) (tgt := 59) dX9_lieAt_49 (by decide) (fun c_5 => ?_) (fun c_5 => ?_)
        · have hr := ifn hr c_5
          refine Ev.iconst (pc := 59) (v := nI 0) dX9_lieAt_59 (by decide) ?_
          refine Ev.ior (pc := 60) dX9_lieAt_60 ?_
          refine Ev.istore_n (pc := 61) dX9_lieAt_61 rfl rfl ?_
          refine Ev.iinc (pc := 62) (v := nI 1) dX9_lieAt_62 rfl rfl rfl rfl ?_
          refine Ev.goto (pc := 65) (tgt := 5) dX9_lieAt_65 (by decide) ?_
          exact ih _ _ hr
        · have hr := ifp hr c_5
          refine Ev.iconst (pc := 52) (v := nI 1) dX9_lieAt_52 (by decide) ?_
          refine Ev.iload (pc := 53) dX9_lieAt_53 rfl ?_
          refine Ev.ishl (pc := 55) dX9_lieAt_55 ?_
          refine Ev.goto (pc := 56) (tgt := 60) dX9_lieAt_56 (by decide) ?_
          refine Ev.ior (pc := 60) dX9_lieAt_60 ?_
          refine Ev.istore_n (pc := 61) dX9_lieAt_61 rfl rfl ?_
          refine Ev.iinc (pc := 62) (v := nI 1) dX9_lieAt_62 rfl rfl rfl rfl ?_
          refine Ev.goto (pc := 65) (tgt := 5) dX9_lieAt_65 (by decide) ?_
          exact ih _ _ hr
def sX9_lieAt (g2 : Hg) (a1 : Int32) (a2 : Int32) : Option (Int32) := sX9_lieAt_5 g2 a1 a2 100 (nI 0) (nI 0)
set_option maxRecDepth 20000 in
set_option maxHeartbeats 1000000 in
theorem kX9_lieAt (g : Hg) (q : Int64) (g2 : Hg) (q2 : Int64) (a1 : Int32) (a2 : Int32) {r : Int32} (hr : sX9_lieAt g2 a1 a2 = some r) : CtI MX9_lieAt [.ref 29, .int a1, .int a2] (g, q, g2, q2) (fun x h' => x = r ∧ h' = (g, q, g2, q2)) := by
  unfold sX9_lieAt at hr
  refine CtI_L 2 rfl (by decide +kernel) rfl (Nat.le_of_ble_eq_true rfl) ?_
  show Ev _ _ 0 [some (.ref 29), some (.int a1), some (.int a2), none, none] [] _
  refine Ev.iconst (pc := 0) (v := nI 0) dX9_lieAt_0 (by decide) ?_
  refine Ev.istore_n (pc := 1) dX9_lieAt_1 rfl rfl ?_
  refine Ev.iconst (pc := 2) (v := nI 0) dX9_lieAt_2 (by decide) ?_
  refine Ev.istore (pc := 3) dX9_lieAt_3 rfl rfl ?_
  exact kX9_lieAt_5 _ _ _ _ _ _ _ 100 _ _ hr
/-! X9_larksAt -/
def sX9_larksAt_4 (g2 : Hg) (v1 : Int32) : Nat → Int32 → Int32 → Option (Int32)
  | 0, _, _ => none
  | n + 1, v2, v3 => if (g2 29 2) ≤ v3 then (some v2) else (if inb v3 62 = true then (if (g2 35 (Int32.toNatClampNeg v3)) = v1 then (sX9_larksAt_4 g2 v1 n (v2 ||| ((nI 1) <<< (v3 &&& 31))) (v3 + (nI 1))) else (sX9_larksAt_4 g2 v1 n (v2 ||| (nI 0)) (v3 + (nI 1)))) else none)
set_option maxRecDepth 20000 in
set_option maxHeartbeats 1000000 in
theorem kX9_larksAt_4 (g : Hg) (q : Int64) (g2 : Hg) (q2 : Int64)  (v1 : Int32) (r : Int32) : ∀ (n : Nat) (v2 : Int32) (v3 : Int32), sX9_larksAt_4 g2 v1 n v2 v3 = some r → Ev (Xi (fun x h' => x = r ∧ h' = (g, q, g2, q2))) MX9_larksAt 4 [some (.ref 29), some (.int v1), some (.int v2), some (.int v3)] [] (g, q, g2, q2) := by
  intro n
  induction n with
  | zero => intro _ _ hr; cases hr
  | succ n ih =>
    intro v2 v3 hr
    rw [sX9_larksAt_4] at hr
    refine Ev.iload_n (pc := 4) dX9_larksAt_4 rfl ?_
    refine Ev.aload_n (pc := 5) dX9_larksAt_5 rfl ?_
    refine Ev.get (pc := 6) (C0 := RX9) (T := TX9) (N := 31) (fl_29_2 _ _ _ _) rfl inX9_larksAt (by decide) lkX9_larksAt_108 dX9_larksAt_6 ?_
    refine Ev.icmpge (pc := 9) (tgt := 38) dX9_larksAt_9 (by decide) (fun c_1 => ?_) (fun c_1 => ?_)
    · have hr := ifp hr c_1
      refine Ev.iload_n (pc := 38) dX9_larksAt_38 rfl ?_
      cases hr
      exact Ev.iret rfl rfl dX9_larksAt_39 ⟨rfl, rfl⟩
    · have hr := ifn hr c_1
      refine Ev.iload_n (pc := 12) dX9_larksAt_12 rfl ?_
      refine Ev.aload_n (pc := 13) dX9_larksAt_13 rfl ?_
      refine Ev.get (pc := 14) (C0 := RX9) (T := TX9) (N := 31) (fl_29_8 _ _ _ _) rfl inX9_larksAt (by decide) lkX9_larksAt_25 dX9_larksAt_14 ?_
      refine Ev.iload_n (pc := 17) dX9_larksAt_17 rfl ?_
      obtain ⟨c_2, hr⟩ := ckB hr
      refine Ev.iald (pc := 18) (ar_35 _ _ _ _) (inb_in c_2) dX9_larksAt_18 ?_
      refine Ev.iload_n (pc := 19) dX9_larksAt_19 rfl ?_
      refine Ev.icmpne (pc := 20) (tgt := 29) dX9_larksAt_20 (by decide) (fun c_3 => ?_) (fun c_3 => ?_)
      · have hr := ifn hr c_3
        refine Ev.iconst (pc := 29) (v := nI 0) dX9_larksAt_29 (by decide) ?_
        refine Ev.ior (pc := 30) dX9_larksAt_30 ?_
        refine Ev.istore_n (pc := 31) dX9_larksAt_31 rfl rfl ?_
        refine Ev.iinc (pc := 32) (v := nI 1) dX9_larksAt_32 rfl rfl rfl rfl ?_
        refine Ev.goto (pc := 35) (tgt := 4) dX9_larksAt_35 (by decide) ?_
        exact ih _ _ hr
      · have hr := ifp hr c_3
        refine Ev.iconst (pc := 23) (v := nI 1) dX9_larksAt_23 (by decide) ?_
        refine Ev.iload_n (pc := 24) dX9_larksAt_24 rfl ?_
        refine Ev.ishl (pc := 25) dX9_larksAt_25 ?_
        refine Ev.goto (pc := 26) (tgt := 30) dX9_larksAt_26 (by decide) ?_
        refine Ev.ior (pc := 30) dX9_larksAt_30 ?_
        refine Ev.istore_n (pc := 31) dX9_larksAt_31 rfl rfl ?_
        refine Ev.iinc (pc := 32) (v := nI 1) dX9_larksAt_32 rfl rfl rfl rfl ?_
        refine Ev.goto (pc := 35) (tgt := 4) dX9_larksAt_35 (by decide) ?_
        exact ih _ _ hr
def sX9_larksAt (g2 : Hg) (a1 : Int32) : Option (Int32) := sX9_larksAt_4 g2 a1 100 (nI 0) (nI 0)
set_option maxRecDepth 20000 in
set_option maxHeartbeats 1000000 in
theorem kX9_larksAt (g : Hg) (q : Int64) (g2 : Hg) (q2 : Int64) (a1 : Int32) {r : Int32} (hr : sX9_larksAt g2 a1 = some r) : CtI MX9_larksAt [.ref 29, .int a1] (g, q, g2, q2) (fun x h' => x = r ∧ h' = (g, q, g2, q2)) := by
  unfold sX9_larksAt at hr
  refine CtI_L 2 rfl (by decide +kernel) rfl (Nat.le_of_ble_eq_true rfl) ?_
  show Ev _ _ 0 [some (.ref 29), some (.int a1), none, none] [] _
  refine Ev.iconst (pc := 0) (v := nI 0) dX9_larksAt_0 (by decide) ?_
  refine Ev.istore_n (pc := 1) dX9_larksAt_1 rfl rfl ?_
  refine Ev.iconst (pc := 2) (v := nI 0) dX9_larksAt_2 (by decide) ?_
  refine Ev.istore_n (pc := 3) dX9_larksAt_3 rfl rfl ?_
  exact kX9_larksAt_4 _ _ _ _ _ _ 100 _ _ hr
/-! X9_cell -/
def sX9_cell (g2 : Hg) (a1 : Int32) (a2 : Int32) : Option (Int32) := if (sX9_isCell a1) = true then (if a2 = nI 0 then (if inb a1 12 = true then (some (g2 30 (Int32.toNatClampNeg a1))) else none) else (if a2 = nI 1 then ((sX9_isBare g2 a1 (g2 35 (Int32.toNatClampNeg (nI 30)))).bind fun x_1 => (if x_1 = true then (some (nI 1)) else (some (nI 0)))) else (if a2 = nI 2 then ((sX9_lieAt g2 (nI 0) a1).bind fun x_2 => (some x_2)) else (if a2 = nI 3 then ((sX9_larksAt g2 a1).bind fun x_3 => (some x_3)) else (some ((-2))))))) else (some ((-1)))
set_option maxRecDepth 20000 in
set_option maxHeartbeats 1000000 in
theorem kX9_cell (g : Hg) (q : Int64) (g2 : Hg) (q2 : Int64) (a1 : Int32) (a2 : Int32) {r : Int32} (hr : sX9_cell g2 a1 a2 = some r) : CtI MX9_cell [.ref 29, .int a1, .int a2] (g, q, g2, q2) (fun x h' => x = r ∧ h' = (g, q, g2, q2)) := by
  unfold sX9_cell at hr
  refine CtI_L 0 rfl (by decide +kernel) rfl (Nat.le_of_ble_eq_true rfl) ?_
  show Ev _ _ 0 [some (.ref 29), some (.int a1), some (.int a2)] [] _
  refine Ev.iload_n (pc := 0) dX9_cell_0 rfl ?_
  refine Ev.cSi (pc := 1) (As := [.int _]) (kX9_isCell _ _ _ _ _) rfl gX9_cell_X9_isCell hdX9_isCell rfl ⟨rfl, rfl⟩ ⟨Nat.le_of_ble_eq_true rfl, Nat.le_of_ble_eq_true rfl⟩ (Nat.le_of_ble_eq_true rfl) ⟨Nat.le_of_ble_eq_true rfl, Nat.le_of_ble_eq_true rfl⟩ dX9_cell_1 ?_
  refine Ev.ifneB (pc := 4) (tgt := 9) dX9_cell_4 (by decide) (fun c_1 => ?_) (fun c_1 => ?_)
  · have hr := ifp hr c_1
    refine Ev.iload_n (pc := 9) dX9_cell_9 rfl ?_
    by_cases c_2 : a2 = nI 0
    · have hr := ifp hr c_2
      refine Ev.tableK (pc := 10) (tgt := 40) 0 c_2 (by decide) dX9_cell_10 (by decide) rfl (by decide) ?_
      refine Ev.aload_n (pc := 40) dX9_cell_40 rfl ?_
      refine Ev.get (pc := 41) (C0 := RX9) (T := TX9) (N := 31) (fl_29_3 _ _ _ _) rfl inX9_cell (by decide) lkX9_cell_7 dX9_cell_41 ?_
      refine Ev.iload_n (pc := 44) dX9_cell_44 rfl ?_
      obtain ⟨c_3, hr⟩ := ckB hr
      refine Ev.iald (pc := 45) (ar_30 _ _ _ _) (inb_in c_3) dX9_cell_45 ?_
      cases hr
      exact Ev.iret rfl rfl dX9_cell_46 ⟨rfl, rfl⟩
    have hr := ifn hr c_2
    by_cases c_4 : a2 = nI 1
    · have hr := ifp hr c_4
      refine Ev.tableK (pc := 10) (tgt := 47) 1 c_4 (by decide) dX9_cell_10 (by decide) rfl (by decide) ?_
      refine Ev.aload_n (pc := 47) dX9_cell_47 rfl ?_
      refine Ev.iload_n (pc := 48) dX9_cell_48 rfl ?_
      refine Ev.aload_n (pc := 49) dX9_cell_49 rfl ?_
      refine Ev.get (pc := 50) (C0 := RX9) (T := TX9) (N := 31) (fl_29_8 _ _ _ _) rfl inX9_cell (by decide) lkX9_cell_25 dX9_cell_50 ?_
      refine Ev.bipush (pc := 53) (v := nI 30) dX9_cell_53 (by decide) ?_
      refine Ev.iald (pc := 55) (ar_35 _ _ _ _) (vp_in_nI (n := 30) (N := 62) (by decide) (by decide)) dX9_cell_55 ?_
      obtain ⟨x_1, hx_1, hr⟩ := Option.bind_eq_some_iff.mp hr
      refine Ev.cVi (pc := 56) (As := [.int _, .int _]) (kX9_isBare _ _ _ _ _ _ hx_1) rfl rfl (ob_29 _) gX9_cell_X9_isBare hdX9_isBare rfl ⟨rfl, rfl⟩ ⟨Nat.le_of_ble_eq_true rfl, Nat.le_of_ble_eq_true rfl⟩ (Nat.le_of_ble_eq_true rfl) ⟨Nat.le_of_ble_eq_true rfl, Nat.le_of_ble_eq_true rfl⟩ dX9_cell_56 ?_
      refine Ev.ifeqB (pc := 59) (tgt := 66) dX9_cell_59 (by decide) (fun c_5 => ?_) (fun c_5 => ?_)
      · have hr := ifn hr (ntr c_5)
        refine Ev.iconst (pc := 66) (v := nI 0) dX9_cell_66 (by decide) ?_
        cases hr
        exact Ev.iret rfl rfl dX9_cell_67 ⟨rfl, rfl⟩
      · have hr := ifp hr c_5
        refine Ev.iconst (pc := 62) (v := nI 1) dX9_cell_62 (by decide) ?_
        refine Ev.goto (pc := 63) (tgt := 67) dX9_cell_63 (by decide) ?_
        cases hr
        exact Ev.iret rfl rfl dX9_cell_67 ⟨rfl, rfl⟩
    have hr := ifn hr c_4
    by_cases c_6 : a2 = nI 2
    · have hr := ifp hr c_6
      refine Ev.tableK (pc := 10) (tgt := 68) 2 c_6 (by decide) dX9_cell_10 (by decide) rfl (by decide) ?_
      refine Ev.aload_n (pc := 68) dX9_cell_68 rfl ?_
      refine Ev.iconst (pc := 69) (v := nI 0) dX9_cell_69 (by decide) ?_
      refine Ev.iload_n (pc := 70) dX9_cell_70 rfl ?_
      obtain ⟨x_2, hx_2, hr⟩ := Option.bind_eq_some_iff.mp hr
      refine Ev.cVi (pc := 71) (As := [.int _, .int _]) (kX9_lieAt _ _ _ _ _ _ hx_2) rfl rfl (ob_29 _) gX9_cell_X9_lieAt hdX9_lieAt rfl ⟨rfl, rfl⟩ ⟨Nat.le_of_ble_eq_true rfl, Nat.le_of_ble_eq_true rfl⟩ (Nat.le_of_ble_eq_true rfl) ⟨Nat.le_of_ble_eq_true rfl, Nat.le_of_ble_eq_true rfl⟩ dX9_cell_71 ?_
      cases hr
      exact Ev.iret rfl rfl dX9_cell_74 ⟨rfl, rfl⟩
    have hr := ifn hr c_6
    by_cases c_7 : a2 = nI 3
    · have hr := ifp hr c_7
      refine Ev.tableK (pc := 10) (tgt := 75) 3 c_7 (by decide) dX9_cell_10 (by decide) rfl (by decide) ?_
      refine Ev.aload_n (pc := 75) dX9_cell_75 rfl ?_
      refine Ev.iload_n (pc := 76) dX9_cell_76 rfl ?_
      obtain ⟨x_3, hx_3, hr⟩ := Option.bind_eq_some_iff.mp hr
      refine Ev.cVi (pc := 77) (As := [.int _]) (kX9_larksAt _ _ _ _ _ hx_3) rfl rfl (ob_29 _) gX9_cell_X9_larksAt hdX9_larksAt rfl ⟨rfl, rfl⟩ ⟨Nat.le_of_ble_eq_true rfl, Nat.le_of_ble_eq_true rfl⟩ (Nat.le_of_ble_eq_true rfl) ⟨Nat.le_of_ble_eq_true rfl, Nat.le_of_ble_eq_true rfl⟩ dX9_cell_77 ?_
      cases hr
      exact Ev.iret rfl rfl dX9_cell_80 ⟨rfl, rfl⟩
    have hr := ifn hr c_7
    refine Ev.tableD (pc := 10) (tgt := 81) 4 (by decide) (fun j hj => by
        have hj2 : j = 0 ∨ j = 1 ∨ j = 2 ∨ j = 3 := by omega
        rcases hj2 with rfl | rfl | rfl | rfl <;> assumption) rfl dX9_cell_10 (by decide) ?_
    refine Ev.bipush (pc := 81) (v := (-2)) dX9_cell_81 (by decide) ?_
    cases hr
    exact Ev.iret rfl rfl dX9_cell_83 ⟨rfl, rfl⟩
  · have hr := ifn hr (ntr c_1)
    refine Ev.iconst (pc := 7) (v := (-1)) dX9_cell_7 (by decide) ?_
    cases hr
    exact Ev.iret rfl rfl dX9_cell_8 ⟨rfl, rfl⟩
/-! X9_find -/
def sX9_find (g2 : Hg) (a1 : Int32) (a2 : Int32) : Option (Int32) := if (sX9_isFind g2 a1) = true then (if a2 = nI 0 then (if inb ((nI 13) + a1) 62 = true then (if (g2 35 (Int32.toNatClampNeg ((nI 13) + a1))) = 0 then (if inb ((nI 8) + a1) 62 = true then (some (g2 35 (Int32.toNatClampNeg ((nI 8) + a1)))) else none) else (some ((-9)))) else none) else (if a2 = nI 1 then (if inb a1 5 = true then (some (g2 32 (Int32.toNatClampNeg a1))) else none) else (if a2 = nI 2 then (if inb a1 5 = true then (some (g2 33 (Int32.toNatClampNeg a1))) else none) else (if a2 = nI 3 then (if inb ((nI 13) + a1) 62 = true then (some (g2 35 (Int32.toNatClampNeg ((nI 13) + a1)))) else none) else (if a2 = nI 4 then (if inb ((nI 13) + a1) 62 = true then (if (g2 35 (Int32.toNatClampNeg ((nI 13) + a1))) = 0 then (some ((-9))) else (if inb ((nI 18) + a1) 62 = true then (some (g2 35 (Int32.toNatClampNeg ((nI 18) + a1)))) else none)) else none) else (some ((-2)))))))) else (some ((-1)))
set_option maxRecDepth 20000 in
set_option maxHeartbeats 1000000 in
theorem kX9_find (g : Hg) (q : Int64) (g2 : Hg) (q2 : Int64) (a1 : Int32) (a2 : Int32) {r : Int32} (hr : sX9_find g2 a1 a2 = some r) : CtI MX9_find [.ref 29, .int a1, .int a2] (g, q, g2, q2) (fun x h' => x = r ∧ h' = (g, q, g2, q2)) := by
  unfold sX9_find at hr
  refine CtI_L 0 rfl (by decide +kernel) rfl (Nat.le_of_ble_eq_true rfl) ?_
  show Ev _ _ 0 [some (.ref 29), some (.int a1), some (.int a2)] [] _
  refine Ev.aload_n (pc := 0) dX9_find_0 rfl ?_
  refine Ev.iload_n (pc := 1) dX9_find_1 rfl ?_
  refine Ev.cVi (pc := 2) (As := [.int _]) (kX9_isFind _ _ _ _ _) rfl rfl (ob_29 _) gX9_find_X9_isFind hdX9_isFind rfl ⟨rfl, rfl⟩ ⟨Nat.le_of_ble_eq_true rfl, Nat.le_of_ble_eq_true rfl⟩ (Nat.le_of_ble_eq_true rfl) ⟨Nat.le_of_ble_eq_true rfl, Nat.le_of_ble_eq_true rfl⟩ dX9_find_2 ?_
  refine Ev.ifneB (pc := 5) (tgt := 10) dX9_find_5 (by decide) (fun c_1 => ?_) (fun c_1 => ?_)
  · have hr := ifp hr c_1
    refine Ev.iload_n (pc := 10) dX9_find_10 rfl ?_
    by_cases c_2 : a2 = nI 0
    · have hr := ifp hr c_2
      refine Ev.tableK (pc := 11) (tgt := 44) 0 c_2 (by decide) dX9_find_11 (by decide) rfl (by decide) ?_
      refine Ev.aload_n (pc := 44) dX9_find_44 rfl ?_
      refine Ev.get (pc := 45) (C0 := RX9) (T := TX9) (N := 31) (fl_29_8 _ _ _ _) rfl inX9_find (by decide) lkX9_find_25 dX9_find_45 ?_
      refine Ev.bipush (pc := 48) (v := nI 13) dX9_find_48 (by decide) ?_
      refine Ev.iload_n (pc := 50) dX9_find_50 rfl ?_
      refine Ev.iadd (pc := 51) dX9_find_51 ?_
      obtain ⟨c_3, hr⟩ := ckB hr
      refine Ev.iald (pc := 52) (ar_35 _ _ _ _) (inb_in c_3) dX9_find_52 ?_
      refine Ev.ifne (pc := 53) (tgt := 68) dX9_find_53 (by decide) (fun c_4 => ?_) (fun c_4 => ?_)
      · have hr := ifn hr c_4
        refine Ev.bipush (pc := 68) (v := (-9)) dX9_find_68 (by decide) ?_
        cases hr
        exact Ev.iret rfl rfl dX9_find_70 ⟨rfl, rfl⟩
      · have hr := ifp hr c_4
        refine Ev.aload_n (pc := 56) dX9_find_56 rfl ?_
        refine Ev.get (pc := 57) (C0 := RX9) (T := TX9) (N := 31) (fl_29_8 _ _ _ _) rfl inX9_find (by decide) lkX9_find_25 dX9_find_57 ?_
        refine Ev.bipush (pc := 60) (v := nI 8) dX9_find_60 (by decide) ?_
        refine Ev.iload_n (pc := 62) dX9_find_62 rfl ?_
        refine Ev.iadd (pc := 63) dX9_find_63 ?_
        obtain ⟨c_5, hr⟩ := ckB hr
        refine Ev.iald (pc := 64) (ar_35 _ _ _ _) (inb_in c_5) dX9_find_64 ?_
        refine Ev.goto (pc := 65) (tgt := 70) dX9_find_65 (by decide) ?_
        cases hr
        exact Ev.iret rfl rfl dX9_find_70 ⟨rfl, rfl⟩
    have hr := ifn hr c_2
    by_cases c_6 : a2 = nI 1
    · have hr := ifp hr c_6
      refine Ev.tableK (pc := 11) (tgt := 71) 1 c_6 (by decide) dX9_find_11 (by decide) rfl (by decide) ?_
      refine Ev.aload_n (pc := 71) dX9_find_71 rfl ?_
      refine Ev.get (pc := 72) (C0 := RX9) (T := TX9) (N := 31) (fl_29_5 _ _ _ _) rfl inX9_find (by decide) lkX9_find_16 dX9_find_72 ?_
      refine Ev.iload_n (pc := 75) dX9_find_75 rfl ?_
      obtain ⟨c_7, hr⟩ := ckB hr
      refine Ev.iald (pc := 76) (ar_32 _ _ _ _) (inb_in c_7) dX9_find_76 ?_
      cases hr
      exact Ev.iret rfl rfl dX9_find_77 ⟨rfl, rfl⟩
    have hr := ifn hr c_6
    by_cases c_8 : a2 = nI 2
    · have hr := ifp hr c_8
      refine Ev.tableK (pc := 11) (tgt := 78) 2 c_8 (by decide) dX9_find_11 (by decide) rfl (by decide) ?_
      refine Ev.aload_n (pc := 78) dX9_find_78 rfl ?_
      refine Ev.get (pc := 79) (C0 := RX9) (T := TX9) (N := 31) (fl_29_6 _ _ _ _) rfl inX9_find (by decide) lkX9_find_19 dX9_find_79 ?_
      refine Ev.iload_n (pc := 82) dX9_find_82 rfl ?_
      obtain ⟨c_9, hr⟩ := ckB hr
      refine Ev.iald (pc := 83) (ar_33 _ _ _ _) (inb_in c_9) dX9_find_83 ?_
      cases hr
      exact Ev.iret rfl rfl dX9_find_84 ⟨rfl, rfl⟩
    have hr := ifn hr c_8
    by_cases c_10 : a2 = nI 3
    · have hr := ifp hr c_10
      refine Ev.tableK (pc := 11) (tgt := 85) 3 c_10 (by decide) dX9_find_11 (by decide) rfl (by decide) ?_
      refine Ev.aload_n (pc := 85) dX9_find_85 rfl ?_
      refine Ev.get (pc := 86) (C0 := RX9) (T := TX9) (N := 31) (fl_29_8 _ _ _ _) rfl inX9_find (by decide) lkX9_find_25 dX9_find_86 ?_
      refine Ev.bipush (pc := 89) (v := nI 13) dX9_find_89 (by decide) ?_
      refine Ev.iload_n (pc := 91) dX9_find_91 rfl ?_
      refine Ev.iadd (pc := 92) dX9_find_92 ?_
      obtain ⟨c_11, hr⟩ := ckB hr
      refine Ev.iald (pc := 93) (ar_35 _ _ _ _) (inb_in c_11) dX9_find_93 ?_
      cases hr
      exact Ev.iret rfl rfl dX9_find_94 ⟨rfl, rfl⟩
    have hr := ifn hr c_10
    by_cases c_12 : a2 = nI 4
    · have hr := ifp hr c_12
      refine Ev.tableK (pc := 11) (tgt := 95) 4 c_12 (by decide) dX9_find_11 (by decide) rfl (by decide) ?_
      refine Ev.aload_n (pc := 95) dX9_find_95 rfl ?_
      refine Ev.get (pc := 96) (C0 := RX9) (T := TX9) (N := 31) (fl_29_8 _ _ _ _) rfl inX9_find (by decide) lkX9_find_25 dX9_find_96 ?_
      refine Ev.bipush (pc := 99) (v := nI 13) dX9_find_99 (by decide) ?_
      refine Ev.iload_n (pc := 101) dX9_find_101 rfl ?_
      refine Ev.iadd (pc := 102) dX9_find_102 ?_
      obtain ⟨c_13, hr⟩ := ckB hr
      refine Ev.iald (pc := 103) (ar_35 _ _ _ _) (inb_in c_13) dX9_find_103 ?_
      refine Ev.ifne (pc := 104) (tgt := 112) dX9_find_104 (by decide) (fun c_14 => ?_) (fun c_14 => ?_)
      · have hr := ifn hr c_14
        refine Ev.aload_n (pc := 112) dX9_find_112 rfl ?_
        refine Ev.get (pc := 113) (C0 := RX9) (T := TX9) (N := 31) (fl_29_8 _ _ _ _) rfl inX9_find (by decide) lkX9_find_25 dX9_find_113 ?_
        refine Ev.bipush (pc := 116) (v := nI 18) dX9_find_116 (by decide) ?_
        refine Ev.iload_n (pc := 118) dX9_find_118 rfl ?_
        refine Ev.iadd (pc := 119) dX9_find_119 ?_
        obtain ⟨c_15, hr⟩ := ckB hr
        refine Ev.iald (pc := 120) (ar_35 _ _ _ _) (inb_in c_15) dX9_find_120 ?_
        cases hr
        exact Ev.iret rfl rfl dX9_find_121 ⟨rfl, rfl⟩
      · have hr := ifp hr c_14
        refine Ev.bipush (pc := 107) (v := (-9)) dX9_find_107 (by decide) ?_
        refine Ev.goto (pc := 109) (tgt := 121) dX9_find_109 (by decide) ?_
        cases hr
        exact Ev.iret rfl rfl dX9_find_121 ⟨rfl, rfl⟩
    have hr := ifn hr c_12
    refine Ev.tableD (pc := 11) (tgt := 122) 5 (by decide) (fun j hj => by
        have hj2 : j = 0 ∨ j = 1 ∨ j = 2 ∨ j = 3 ∨ j = 4 := by omega
        rcases hj2 with rfl | rfl | rfl | rfl | rfl <;> assumption) rfl dX9_find_11 (by decide) ?_
    refine Ev.bipush (pc := 122) (v := (-2)) dX9_find_122 (by decide) ?_
    cases hr
    exact Ev.iret rfl rfl dX9_find_124 ⟨rfl, rfl⟩
  · have hr := ifn hr (ntr c_1)
    refine Ev.iconst (pc := 8) (v := (-1)) dX9_find_8 (by decide) ?_
    cases hr
    exact Ev.iret rfl rfl dX9_find_9 ⟨rfl, rfl⟩
/-! X9_lark -/
def sX9_lark (g2 : Hg) (a1 : Int32) (a2 : Int32) : Option (Int32) := if (sX9_isLark g2 a1) = true then (if a2 = nI 0 then (if inb a1 62 = true then (some (g2 35 (Int32.toNatClampNeg a1))) else none) else (if a2 = nI 1 then (if inb a1 4 = true then (some (g2 34 (Int32.toNatClampNeg a1))) else none) else (if a2 = nI 2 then (if inb ((nI 4) + a1) 62 = true then (some (g2 35 (Int32.toNatClampNeg ((nI 4) + a1)))) else none) else (if a2 = nI 3 then ((sX9_carriedBy g2 (nI 0) a1).bind fun x_1 => (some x_1)) else (if a2 = nI 4 then (some (((g2 35 (Int32.toNatClampNeg (nI 28))) >>> (a1 &&& 31)) &&& (nI 1))) else (if a2 = nI 5 then (some (((g2 35 (Int32.toNatClampNeg (nI 29))) >>> (a1 &&& 31)) &&& (nI 1))) else (some ((-2))))))))) else (some ((-1)))
set_option maxRecDepth 20000 in
set_option maxHeartbeats 1000000 in
theorem kX9_lark (g : Hg) (q : Int64) (g2 : Hg) (q2 : Int64) (a1 : Int32) (a2 : Int32) {r : Int32} (hr : sX9_lark g2 a1 a2 = some r) : CtI MX9_lark [.ref 29, .int a1, .int a2] (g, q, g2, q2) (fun x h' => x = r ∧ h' = (g, q, g2, q2)) := by
  unfold sX9_lark at hr
  refine CtI_L 0 rfl (by decide +kernel) rfl (Nat.le_of_ble_eq_true rfl) ?_
  show Ev _ _ 0 [some (.ref 29), some (.int a1), some (.int a2)] [] _
  refine Ev.aload_n (pc := 0) dX9_lark_0 rfl ?_
  refine Ev.iload_n (pc := 1) dX9_lark_1 rfl ?_
  refine Ev.cVi (pc := 2) (As := [.int _]) (kX9_isLark _ _ _ _ _) rfl rfl (ob_29 _) gX9_lark_X9_isLark hdX9_isLark rfl ⟨rfl, rfl⟩ ⟨Nat.le_of_ble_eq_true rfl, Nat.le_of_ble_eq_true rfl⟩ (Nat.le_of_ble_eq_true rfl) ⟨Nat.le_of_ble_eq_true rfl, Nat.le_of_ble_eq_true rfl⟩ dX9_lark_2 ?_
  refine Ev.ifneB (pc := 5) (tgt := 10) dX9_lark_5 (by decide) (fun c_1 => ?_) (fun c_1 => ?_)
  · have hr := ifp hr c_1
    refine Ev.iload_n (pc := 10) dX9_lark_10 rfl ?_
    by_cases c_2 : a2 = nI 0
    · have hr := ifp hr c_2
      refine Ev.tableK (pc := 11) (tgt := 48) 0 c_2 (by decide) dX9_lark_11 (by decide) rfl (by decide) ?_
      refine Ev.aload_n (pc := 48) dX9_lark_48 rfl ?_
      refine Ev.get (pc := 49) (C0 := RX9) (T := TX9) (N := 31) (fl_29_8 _ _ _ _) rfl inX9_lark (by decide) lkX9_lark_25 dX9_lark_49 ?_
      refine Ev.iload_n (pc := 52) dX9_lark_52 rfl ?_
      obtain ⟨c_3, hr⟩ := ckB hr
      refine Ev.iald (pc := 53) (ar_35 _ _ _ _) (inb_in c_3) dX9_lark_53 ?_
      cases hr
      exact Ev.iret rfl rfl dX9_lark_54 ⟨rfl, rfl⟩
    have hr := ifn hr c_2
    by_cases c_4 : a2 = nI 1
    · have hr := ifp hr c_4
      refine Ev.tableK (pc := 11) (tgt := 55) 1 c_4 (by decide) dX9_lark_11 (by decide) rfl (by decide) ?_
      refine Ev.aload_n (pc := 55) dX9_lark_55 rfl ?_
      refine Ev.get (pc := 56) (C0 := RX9) (T := TX9) (N := 31) (fl_29_7 _ _ _ _) rfl inX9_lark (by decide) lkX9_lark_22 dX9_lark_56 ?_
      refine Ev.iload_n (pc := 59) dX9_lark_59 rfl ?_
      obtain ⟨c_5, hr⟩ := ckB hr
      refine Ev.iald (pc := 60) (ar_34 _ _ _ _) (inb_in c_5) dX9_lark_60 ?_
      cases hr
      exact Ev.iret rfl rfl dX9_lark_61 ⟨rfl, rfl⟩
    have hr := ifn hr c_4
    by_cases c_6 : a2 = nI 2
    · have hr := ifp hr c_6
      refine Ev.tableK (pc := 11) (tgt := 62) 2 c_6 (by decide) dX9_lark_11 (by decide) rfl (by decide) ?_
      refine Ev.aload_n (pc := 62) dX9_lark_62 rfl ?_
      refine Ev.get (pc := 63) (C0 := RX9) (T := TX9) (N := 31) (fl_29_8 _ _ _ _) rfl inX9_lark (by decide) lkX9_lark_25 dX9_lark_63 ?_
      refine Ev.iconst (pc := 66) (v := nI 4) dX9_lark_66 (by decide) ?_
      refine Ev.iload_n (pc := 67) dX9_lark_67 rfl ?_
      refine Ev.iadd (pc := 68) dX9_lark_68 ?_
      obtain ⟨c_7, hr⟩ := ckB hr
      refine Ev.iald (pc := 69) (ar_35 _ _ _ _) (inb_in c_7) dX9_lark_69 ?_
      cases hr
      exact Ev.iret rfl rfl dX9_lark_70 ⟨rfl, rfl⟩
    have hr := ifn hr c_6
    by_cases c_8 : a2 = nI 3
    · have hr := ifp hr c_8
      refine Ev.tableK (pc := 11) (tgt := 71) 3 c_8 (by decide) dX9_lark_11 (by decide) rfl (by decide) ?_
      refine Ev.aload_n (pc := 71) dX9_lark_71 rfl ?_
      refine Ev.iconst (pc := 72) (v := nI 0) dX9_lark_72 (by decide) ?_
      refine Ev.iload_n (pc := 73) dX9_lark_73 rfl ?_
      obtain ⟨x_1, hx_1, hr⟩ := Option.bind_eq_some_iff.mp hr
      refine Ev.cVi (pc := 74) (As := [.int _, .int _]) (kX9_carriedBy _ _ _ _ _ _ hx_1) rfl rfl (ob_29 _) gX9_lark_X9_carriedBy hdX9_carriedBy rfl ⟨rfl, rfl⟩ ⟨Nat.le_of_ble_eq_true rfl, Nat.le_of_ble_eq_true rfl⟩ (Nat.le_of_ble_eq_true rfl) ⟨Nat.le_of_ble_eq_true rfl, Nat.le_of_ble_eq_true rfl⟩ dX9_lark_74 ?_
      cases hr
      exact Ev.iret rfl rfl dX9_lark_77 ⟨rfl, rfl⟩
    have hr := ifn hr c_8
    by_cases c_9 : a2 = nI 4
    · have hr := ifp hr c_9
      refine Ev.tableK (pc := 11) (tgt := 78) 4 c_9 (by decide) dX9_lark_11 (by decide) rfl (by decide) ?_
      refine Ev.aload_n (pc := 78) dX9_lark_78 rfl ?_
      refine Ev.get (pc := 79) (C0 := RX9) (T := TX9) (N := 31) (fl_29_8 _ _ _ _) rfl inX9_lark (by decide) lkX9_lark_25 dX9_lark_79 ?_
      refine Ev.bipush (pc := 82) (v := nI 28) dX9_lark_82 (by decide) ?_
      refine Ev.iald (pc := 84) (ar_35 _ _ _ _) (vp_in_nI (n := 28) (N := 62) (by decide) (by decide)) dX9_lark_84 ?_
      refine Ev.iload_n (pc := 85) dX9_lark_85 rfl ?_
      refine Ev.ishr (pc := 86) dX9_lark_86 ?_
      refine Ev.iconst (pc := 87) (v := nI 1) dX9_lark_87 (by decide) ?_
      refine Ev.iand (pc := 88) dX9_lark_88 ?_
      cases hr
      exact Ev.iret rfl rfl dX9_lark_89 ⟨rfl, rfl⟩
    have hr := ifn hr c_9
    by_cases c_10 : a2 = nI 5
    · have hr := ifp hr c_10
      refine Ev.tableK (pc := 11) (tgt := 90) 5 c_10 (by decide) dX9_lark_11 (by decide) rfl (by decide) ?_
      refine Ev.aload_n (pc := 90) dX9_lark_90 rfl ?_
      refine Ev.get (pc := 91) (C0 := RX9) (T := TX9) (N := 31) (fl_29_8 _ _ _ _) rfl inX9_lark (by decide) lkX9_lark_25 dX9_lark_91 ?_
      refine Ev.bipush (pc := 94) (v := nI 29) dX9_lark_94 (by decide) ?_
      refine Ev.iald (pc := 96) (ar_35 _ _ _ _) (vp_in_nI (n := 29) (N := 62) (by decide) (by decide)) dX9_lark_96 ?_
      refine Ev.iload_n (pc := 97) dX9_lark_97 rfl ?_
      refine Ev.ishr (pc := 98) dX9_lark_98 ?_
      refine Ev.iconst (pc := 99) (v := nI 1) dX9_lark_99 (by decide) ?_
      refine Ev.iand (pc := 100) dX9_lark_100 ?_
      cases hr
      exact Ev.iret rfl rfl dX9_lark_101 ⟨rfl, rfl⟩
    have hr := ifn hr c_10
    refine Ev.tableD (pc := 11) (tgt := 102) 6 (by decide) (fun j hj => by
        have hj2 : j = 0 ∨ j = 1 ∨ j = 2 ∨ j = 3 ∨ j = 4 ∨ j = 5 := by omega
        rcases hj2 with rfl | rfl | rfl | rfl | rfl | rfl <;> assumption) rfl dX9_lark_11 (by decide) ?_
    refine Ev.bipush (pc := 102) (v := (-2)) dX9_lark_102 (by decide) ?_
    cases hr
    exact Ev.iret rfl rfl dX9_lark_104 ⟨rfl, rfl⟩
  · have hr := ifn hr (ntr c_1)
    refine Ev.iconst (pc := 8) (v := (-1)) dX9_lark_8 (by decide) ?_
    cases hr
    exact Ev.iret rfl rfl dX9_lark_9 ⟨rfl, rfl⟩
/-! X9_keepAct -/
def sX9_keepAct_2  : Nat → Hg → Int32 → Option (Hg)
  | 0, _, _ => none
  | n + 1, g2, v1 => if (nI 31) ≤ v1 then (if (nI 14) ≤ ((stA g2 29 21 (((g2 29 21) + (nI 1)) - ((g2 29 21) + (nI 1)) / (nI 14) * (nI 14))) 29 20) then (some (stA (stA g2 29 21 (((g2 29 21) + (nI 1)) - ((g2 29 21) + (nI 1)) / (nI 14) * (nI 14))) 29 20 (nI 14))) else (some (stA (stA g2 29 21 (((g2 29 21) + (nI 1)) - ((g2 29 21) + (nI 1)) / (nI 14) * (nI 14))) 29 20 (((stA g2 29 21 (((g2 29 21) + (nI 1)) - ((g2 29 21) + (nI 1)) / (nI 14) * (nI 14))) 29 20) + (nI 1))))) else (if inb v1 62 = true then (if inb (((nI 31) * (g2 29 21)) + v1) 434 = true then (sX9_keepAct_2 n (stA g2 41 (Int32.toNatClampNeg (((nI 31) * (g2 29 21)) + v1)) (g2 35 (Int32.toNatClampNeg v1))) (v1 + (nI 1))) else none) else none)
set_option maxRecDepth 20000 in
set_option maxHeartbeats 1000000 in
theorem kX9_keepAct_2 (g : Hg) (q : Int64) (q2 : Int64)   (r : Hg) : ∀ (n : Nat) (g2 : Hg) (v1 : Int32), sX9_keepAct_2 n g2 v1 = some r → Ev (Xv (fun h' => h' = (g, q, r, q2))) MX9_keepAct 2 [some (.ref 29), some (.int v1)] [] (g, q, g2, q2) := by
  intro n
  induction n with
  | zero => intro _ _ hr; cases hr
  | succ n ih =>
    intro g2 v1 hr
    rw [sX9_keepAct_2] at hr
    refine Ev.iload_n (pc := 2) dX9_keepAct_2 rfl ?_
    refine Ev.bipush (pc := 3) (v := nI 31) dX9_keepAct_3 (by decide) ?_
    refine Ev.icmpge (pc := 5) (tgt := 34) dX9_keepAct_5 (by decide) (fun c_1 => ?_) (fun c_1 => ?_)
    · have hr := ifp hr c_1
      refine Ev.aload_n (pc := 34) dX9_keepAct_34 rfl ?_
      refine Ev.aload_n (pc := 35) dX9_keepAct_35 rfl ?_
      refine Ev.get (pc := 36) (C0 := RX9) (T := TX9) (N := 31) (fl_29_21 _ _ _ _) rfl inX9_keepAct (by decide) lkX9_keepAct_167 dX9_keepAct_36 ?_
      refine Ev.iconst (pc := 39) (v := nI 1) dX9_keepAct_39 (by decide) ?_
      refine Ev.iadd (pc := 40) dX9_keepAct_40 ?_
      refine Ev.bipush (pc := 41) (v := nI 14) dX9_keepAct_41 (by decide) ?_
      refine Ev.irem (pc := 43) dX9_keepAct_43 (by decide) ?_
      refine Ev.put (pc := 44) (C0 := RX9) (T := TX9) (N := 31) (ty := .int) (pu_29_21 _ _ _ _ _) rfl inX9_keepAct tyX9_ok nmX9 (by decide) lkX9_keepAct_167 rfl (by decide +kernel) (fun _ => rfl) (fun _ => rfl) dX9_keepAct_44 ?_
      refine Ev.aload_n (pc := 47) dX9_keepAct_47 rfl ?_
      refine Ev.aload_n (pc := 48) dX9_keepAct_48 rfl ?_
      refine Ev.get (pc := 49) (C0 := RX9) (T := TX9) (N := 31) (fl_29_20 _ _ _ _) rfl inX9_keepAct (by decide) lkX9_keepAct_111 dX9_keepAct_49 ?_
      refine Ev.bipush (pc := 52) (v := nI 14) dX9_keepAct_52 (by decide) ?_
      refine Ev.icmpge (pc := 54) (tgt := 66) dX9_keepAct_54 (by decide) (fun c_2 => ?_) (fun c_2 => ?_)
      · have hr := ifp hr c_2
        refine Ev.bipush (pc := 66) (v := nI 14) dX9_keepAct_66 (by decide) ?_
        refine Ev.put (pc := 68) (C0 := RX9) (T := TX9) (N := 31) (ty := .int) (pu_29_20 _ _ _ _ _) rfl inX9_keepAct tyX9_ok nmX9 (by decide) lkX9_keepAct_111 rfl (by decide +kernel) (fun _ => rfl) (fun _ => rfl) dX9_keepAct_68 ?_
        cases hr
        exact Ev.vret rfl dX9_keepAct_71 rfl
      · have hr := ifn hr c_2
        refine Ev.aload_n (pc := 57) dX9_keepAct_57 rfl ?_
        refine Ev.get (pc := 58) (C0 := RX9) (T := TX9) (N := 31) (fl_29_20 _ _ _ _) rfl inX9_keepAct (by decide) lkX9_keepAct_111 dX9_keepAct_58 ?_
        refine Ev.iconst (pc := 61) (v := nI 1) dX9_keepAct_61 (by decide) ?_
        refine Ev.iadd (pc := 62) dX9_keepAct_62 ?_
        refine Ev.goto (pc := 63) (tgt := 68) dX9_keepAct_63 (by decide) ?_
        refine Ev.put (pc := 68) (C0 := RX9) (T := TX9) (N := 31) (ty := .int) (pu_29_20 _ _ _ _ _) rfl inX9_keepAct tyX9_ok nmX9 (by decide) lkX9_keepAct_111 rfl (by decide +kernel) (fun _ => rfl) (fun _ => rfl) dX9_keepAct_68 ?_
        cases hr
        exact Ev.vret rfl dX9_keepAct_71 rfl
    · have hr := ifn hr c_1
      refine Ev.aload_n (pc := 8) dX9_keepAct_8 rfl ?_
      refine Ev.get (pc := 9) (C0 := RX9) (T := TX9) (N := 31) (fl_29_22 _ _ _ _) rfl inX9_keepAct (by decide) lkX9_keepAct_43 dX9_keepAct_9 ?_
      refine Ev.bipush (pc := 12) (v := nI 31) dX9_keepAct_12 (by decide) ?_
      refine Ev.aload_n (pc := 14) dX9_keepAct_14 rfl ?_
      refine Ev.get (pc := 15) (C0 := RX9) (T := TX9) (N := 31) (fl_29_21 _ _ _ _) rfl inX9_keepAct (by decide) lkX9_keepAct_167 dX9_keepAct_15 ?_
      refine Ev.imul (pc := 18) dX9_keepAct_18 ?_
      refine Ev.iload_n (pc := 19) dX9_keepAct_19 rfl ?_
      refine Ev.iadd (pc := 20) dX9_keepAct_20 ?_
      refine Ev.aload_n (pc := 21) dX9_keepAct_21 rfl ?_
      refine Ev.get (pc := 22) (C0 := RX9) (T := TX9) (N := 31) (fl_29_8 _ _ _ _) rfl inX9_keepAct (by decide) lkX9_keepAct_25 dX9_keepAct_22 ?_
      refine Ev.iload_n (pc := 25) dX9_keepAct_25 rfl ?_
      obtain ⟨c_3, hr⟩ := ckB hr
      refine Ev.iald (pc := 26) (ar_35 _ _ _ _) (inb_in c_3) dX9_keepAct_26 ?_
      obtain ⟨c_4, hr⟩ := ckB hr
      refine Ev.iast (pc := 27) (ar_41 _ _ _ _) (inb_in c_4) (se_41 _ _ _ _ _) dX9_keepAct_27 ?_
      refine Ev.iinc (pc := 28) (v := nI 1) dX9_keepAct_28 rfl rfl rfl rfl ?_
      refine Ev.goto (pc := 31) (tgt := 2) dX9_keepAct_31 (by decide) ?_
      exact ih _ _ hr
def sX9_keepAct (g2 : Hg) : Option (Hg) := sX9_keepAct_2 100 g2 (nI 0)
set_option maxRecDepth 20000 in
set_option maxHeartbeats 1000000 in
theorem kX9_keepAct (g : Hg) (q : Int64) (g2 : Hg) (q2 : Int64) {r : Hg} (hr : sX9_keepAct g2 = some r) : CtV MX9_keepAct [.ref 29] (g, q, g2, q2) (fun h' => h' = (g, q, r, q2)) := by
  unfold sX9_keepAct at hr
  refine CtV_L 1 rfl (by decide +kernel) rfl (Nat.le_of_ble_eq_true rfl) ?_
  show Ev _ _ 0 [some (.ref 29), none] [] _
  refine Ev.iconst (pc := 0) (v := nI 0) dX9_keepAct_0 (by decide) ?_
  refine Ev.istore_n (pc := 1) dX9_keepAct_1 rfl rfl ?_
  exact kX9_keepAct_2 _ _ _  _ 100 _ _ hr
/-! X9_walk -/
def sX9_walk (g2 : Hg) (a1 : Int32) (a2 : Int32) : Option (Int32 × Hg) := if (sX9_isLark g2 a1) = true then (if (sX9_in (Int32.toInt64 a2) (lN 1) ((4 : Int64))) = true then ((sX9_canWalk g2 (nI 0) a1 a2).bind fun x_1 => (if x_1 = true then ((sX9_keepAct g2).bind fun x_2 => ((sX9_walkOn x_2 (nI 0) a1 a2).bind fun x_3 => (if inb a1 62 = true then (some (x_3 35 (Int32.toNatClampNeg a1), x_3)) else none))) else (some ((-3), g2)))) else (some ((-2), g2))) else (some ((-1), g2))
set_option maxRecDepth 20000 in
set_option maxHeartbeats 1000000 in
theorem kX9_walk (g : Hg) (q : Int64) (g2 : Hg) (q2 : Int64) (a1 : Int32) (a2 : Int32) {r : Int32 × Hg} (hr : sX9_walk g2 a1 a2 = some r) : CtI MX9_walk [.ref 29, .int a1, .int a2] (g, q, g2, q2) (fun x h' => x = r.1 ∧ h' = (g, q, r.2, q2)) := by
  unfold sX9_walk at hr
  refine CtI_L 0 rfl (by decide +kernel) rfl (Nat.le_of_ble_eq_true rfl) ?_
  show Ev _ _ 0 [some (.ref 29), some (.int a1), some (.int a2)] [] _
  refine Ev.aload_n (pc := 0) dX9_walk_0 rfl ?_
  refine Ev.iload_n (pc := 1) dX9_walk_1 rfl ?_
  refine Ev.cVi (pc := 2) (As := [.int _]) (kX9_isLark _ _ _ _ _) rfl rfl (ob_29 _) gX9_walk_X9_isLark hdX9_isLark rfl ⟨rfl, rfl⟩ ⟨Nat.le_of_ble_eq_true rfl, Nat.le_of_ble_eq_true rfl⟩ (Nat.le_of_ble_eq_true rfl) ⟨Nat.le_of_ble_eq_true rfl, Nat.le_of_ble_eq_true rfl⟩ dX9_walk_2 ?_
  refine Ev.ifneB (pc := 5) (tgt := 10) dX9_walk_5 (by decide) (fun c_1 => ?_) (fun c_1 => ?_)
  · have hr := ifp hr c_1
    refine Ev.iload_n (pc := 10) dX9_walk_10 rfl ?_
    refine Ev.i2l (pc := 11) dX9_walk_11 ?_
    refine Ev.lconst (pc := 12) (v := lN 1) dX9_walk_12 rfl ?_
    refine Ev.ldc2 (pc := 13) (v := 4) (by decide +kernel) dX9_walk_13 ?_
    refine Ev.cSi (pc := 16) (As := [.long _, .long _, .long _]) (kX9_in _ _ _ _ _ _ _) rfl gX9_walk_X9_in hdX9_in rfl ⟨rfl, rfl⟩ ⟨Nat.le_of_ble_eq_true rfl, Nat.le_of_ble_eq_true rfl⟩ (Nat.le_of_ble_eq_true rfl) ⟨Nat.le_of_ble_eq_true rfl, Nat.le_of_ble_eq_true rfl⟩ dX9_walk_16 ?_
    refine Ev.ifneB (pc := 19) (tgt := 25) dX9_walk_19 (by decide) (fun c_2 => ?_) (fun c_2 => ?_)
    · have hr := ifp hr c_2
      refine Ev.aload_n (pc := 25) dX9_walk_25 rfl ?_
      refine Ev.iconst (pc := 26) (v := nI 0) dX9_walk_26 (by decide) ?_
      refine Ev.iload_n (pc := 27) dX9_walk_27 rfl ?_
      refine Ev.iload_n (pc := 28) dX9_walk_28 rfl ?_
      obtain ⟨x_1, hx_1, hr⟩ := Option.bind_eq_some_iff.mp hr
      refine Ev.cVi (pc := 29) (As := [.int _, .int _, .int _]) (kX9_canWalk _ _ _ _ _ _ _ hx_1) rfl rfl (ob_29 _) gX9_walk_X9_canWalk hdX9_canWalk rfl ⟨rfl, rfl⟩ ⟨Nat.le_of_ble_eq_true rfl, Nat.le_of_ble_eq_true rfl⟩ (Nat.le_of_ble_eq_true rfl) ⟨Nat.le_of_ble_eq_true rfl, Nat.le_of_ble_eq_true rfl⟩ dX9_walk_29 ?_
      refine Ev.ifneB (pc := 32) (tgt := 38) dX9_walk_32 (by decide) (fun c_3 => ?_) (fun c_3 => ?_)
      · have hr := ifp hr c_3
        refine Ev.aload_n (pc := 38) dX9_walk_38 rfl ?_
        obtain ⟨x_2, hx_2, hr⟩ := Option.bind_eq_some_iff.mp hr
        refine Ev.cVv (pc := 39) (As := []) (kX9_keepAct _ _ _ _ hx_2) rfl rfl (ob_29 _) gX9_walk_X9_keepAct hdX9_keepAct rfl ⟨rfl, rfl⟩ ⟨Nat.le_of_ble_eq_true rfl, Nat.le_of_ble_eq_true rfl⟩ (Nat.le_of_ble_eq_true rfl) ⟨Nat.le_of_ble_eq_true rfl, Nat.le_of_ble_eq_true rfl⟩ dX9_walk_39 ?_
        refine Ev.aload_n (pc := 42) dX9_walk_42 rfl ?_
        refine Ev.iconst (pc := 43) (v := nI 0) dX9_walk_43 (by decide) ?_
        refine Ev.iload_n (pc := 44) dX9_walk_44 rfl ?_
        refine Ev.iload_n (pc := 45) dX9_walk_45 rfl ?_
        obtain ⟨x_3, hx_3, hr⟩ := Option.bind_eq_some_iff.mp hr
        refine Ev.cVv (pc := 46) (As := [.int _, .int _, .int _]) (kX9_walkOn _ _ _ _ _ _ _ hx_3) rfl rfl (ob_29 _) gX9_walk_X9_walkOn hdX9_walkOn rfl ⟨rfl, rfl⟩ ⟨Nat.le_of_ble_eq_true rfl, Nat.le_of_ble_eq_true rfl⟩ (Nat.le_of_ble_eq_true rfl) ⟨Nat.le_of_ble_eq_true rfl, Nat.le_of_ble_eq_true rfl⟩ dX9_walk_46 ?_
        refine Ev.aload_n (pc := 49) dX9_walk_49 rfl ?_
        refine Ev.get (pc := 50) (C0 := RX9) (T := TX9) (N := 31) (fl_29_8 _ _ _ _) rfl inX9_walk (by decide) lkX9_walk_25 dX9_walk_50 ?_
        refine Ev.iload_n (pc := 53) dX9_walk_53 rfl ?_
        obtain ⟨c_4, hr⟩ := ckB hr
        refine Ev.iald (pc := 54) (ar_35 _ _ _ _) (inb_in c_4) dX9_walk_54 ?_
        cases hr
        exact Ev.iret rfl rfl dX9_walk_55 ⟨rfl, rfl⟩
      · have hr := ifn hr (ntr c_3)
        refine Ev.bipush (pc := 35) (v := (-3)) dX9_walk_35 (by decide) ?_
        cases hr
        exact Ev.iret rfl rfl dX9_walk_37 ⟨rfl, rfl⟩
    · have hr := ifn hr (ntr c_2)
      refine Ev.bipush (pc := 22) (v := (-2)) dX9_walk_22 (by decide) ?_
      cases hr
      exact Ev.iret rfl rfl dX9_walk_24 ⟨rfl, rfl⟩
  · have hr := ifn hr (ntr c_1)
    refine Ev.iconst (pc := 8) (v := (-1)) dX9_walk_8 (by decide) ?_
    cases hr
    exact Ev.iret rfl rfl dX9_walk_9 ⟨rfl, rfl⟩
/-! X9_hour -/
def sX9_hour (g2 : Hg) : Option (Int32 × Hg) := (sX9_keepAct g2).bind fun x_1 => ((sX9_passOn x_1 (nI 0)).bind fun x_2 => (some (x_2.1, x_2.2)))
set_option maxRecDepth 20000 in
set_option maxHeartbeats 1000000 in
theorem kX9_hour (g : Hg) (q : Int64) (g2 : Hg) (q2 : Int64) {r : Int32 × Hg} (hr : sX9_hour g2 = some r) : CtI MX9_hour [.ref 29] (g, q, g2, q2) (fun x h' => x = r.1 ∧ h' = (g, q, r.2, q2)) := by
  unfold sX9_hour at hr
  refine CtI_L 0 rfl (by decide +kernel) rfl (Nat.le_of_ble_eq_true rfl) ?_
  show Ev _ _ 0 [some (.ref 29)] [] _
  refine Ev.aload_n (pc := 0) dX9_hour_0 rfl ?_
  obtain ⟨x_1, hx_1, hr⟩ := Option.bind_eq_some_iff.mp hr
  refine Ev.cVv (pc := 1) (As := []) (kX9_keepAct _ _ _ _ hx_1) rfl rfl (ob_29 _) gX9_hour_X9_keepAct hdX9_keepAct rfl ⟨rfl, rfl⟩ ⟨Nat.le_of_ble_eq_true rfl, Nat.le_of_ble_eq_true rfl⟩ (Nat.le_of_ble_eq_true rfl) ⟨Nat.le_of_ble_eq_true rfl, Nat.le_of_ble_eq_true rfl⟩ dX9_hour_1 ?_
  refine Ev.aload_n (pc := 4) dX9_hour_4 rfl ?_
  refine Ev.iconst (pc := 5) (v := nI 0) dX9_hour_5 (by decide) ?_
  obtain ⟨x_2, hx_2, hr⟩ := Option.bind_eq_some_iff.mp hr
  refine Ev.cVi (pc := 6) (As := [.int _]) (kX9_passOn _ _ _ _ _ hx_2) rfl rfl (ob_29 _) gX9_hour_X9_passOn hdX9_passOn rfl ⟨rfl, rfl⟩ ⟨Nat.le_of_ble_eq_true rfl, Nat.le_of_ble_eq_true rfl⟩ (Nat.le_of_ble_eq_true rfl) ⟨Nat.le_of_ble_eq_true rfl, Nat.le_of_ble_eq_true rfl⟩ dX9_hour_6 ?_
  cases hr
  exact Ev.iret rfl rfl dX9_hour_9 ⟨rfl, rfl⟩
/-! X9_dig -/
def sX9_dig (g2 : Hg) (a1 : Int32) (a2 : Int32) : Option (Int32 × Hg) := if (sX9_isLark g2 a1) = true then (if (sX9_isFind g2 a2) = true then ((sX9_canDig g2 (nI 0) a1 a2).bind fun x_1 => (if x_1 = true then ((sX9_keepAct g2).bind fun x_2 => ((sX9_digOn x_2 (nI 0) a1 a2).bind fun x_3 => ((sX9_carriedBy x_3 (nI 0) a1).bind fun x_4 => ((sX9_ones x_4).bind fun x_5 => (some (x_5, x_3)))))) else (some ((-3), g2)))) else (some ((-1), g2))) else (some ((-1), g2))
set_option maxRecDepth 20000 in
set_option maxHeartbeats 1000000 in
theorem kX9_dig (g : Hg) (q : Int64) (g2 : Hg) (q2 : Int64) (a1 : Int32) (a2 : Int32) {r : Int32 × Hg} (hr : sX9_dig g2 a1 a2 = some r) : CtI MX9_dig [.ref 29, .int a1, .int a2] (g, q, g2, q2) (fun x h' => x = r.1 ∧ h' = (g, q, r.2, q2)) := by
  unfold sX9_dig at hr
  refine CtI_L 0 rfl (by decide +kernel) rfl (Nat.le_of_ble_eq_true rfl) ?_
  show Ev _ _ 0 [some (.ref 29), some (.int a1), some (.int a2)] [] _
  refine Ev.aload_n (pc := 0) dX9_dig_0 rfl ?_
  refine Ev.iload_n (pc := 1) dX9_dig_1 rfl ?_
  refine Ev.cVi (pc := 2) (As := [.int _]) (kX9_isLark _ _ _ _ _) rfl rfl (ob_29 _) gX9_dig_X9_isLark hdX9_isLark rfl ⟨rfl, rfl⟩ ⟨Nat.le_of_ble_eq_true rfl, Nat.le_of_ble_eq_true rfl⟩ (Nat.le_of_ble_eq_true rfl) ⟨Nat.le_of_ble_eq_true rfl, Nat.le_of_ble_eq_true rfl⟩ dX9_dig_2 ?_
  refine Ev.ifeqB (pc := 5) (tgt := 16) dX9_dig_5 (by decide) (fun c_1 => ?_) (fun c_1 => ?_)
  · have hr := ifn hr (ntr c_1)
    refine Ev.iconst (pc := 16) (v := (-1)) dX9_dig_16 (by decide) ?_
    cases hr
    exact Ev.iret rfl rfl dX9_dig_17 ⟨rfl, rfl⟩
  · have hr := ifp hr c_1
    refine Ev.aload_n (pc := 8) dX9_dig_8 rfl ?_
    refine Ev.iload_n (pc := 9) dX9_dig_9 rfl ?_
    refine Ev.cVi (pc := 10) (As := [.int _]) (kX9_isFind _ _ _ _ _) rfl rfl (ob_29 _) gX9_dig_X9_isFind hdX9_isFind rfl ⟨rfl, rfl⟩ ⟨Nat.le_of_ble_eq_true rfl, Nat.le_of_ble_eq_true rfl⟩ (Nat.le_of_ble_eq_true rfl) ⟨Nat.le_of_ble_eq_true rfl, Nat.le_of_ble_eq_true rfl⟩ dX9_dig_10 ?_
    refine Ev.ifneB (pc := 13) (tgt := 18) dX9_dig_13 (by decide) (fun c_2 => ?_) (fun c_2 => ?_)
    · have hr := ifp hr c_2
      refine Ev.aload_n (pc := 18) dX9_dig_18 rfl ?_
      refine Ev.iconst (pc := 19) (v := nI 0) dX9_dig_19 (by decide) ?_
      refine Ev.iload_n (pc := 20) dX9_dig_20 rfl ?_
      refine Ev.iload_n (pc := 21) dX9_dig_21 rfl ?_
      obtain ⟨x_1, hx_1, hr⟩ := Option.bind_eq_some_iff.mp hr
      refine Ev.cVi (pc := 22) (As := [.int _, .int _, .int _]) (kX9_canDig _ _ _ _ _ _ _ hx_1) rfl rfl (ob_29 _) gX9_dig_X9_canDig hdX9_canDig rfl ⟨rfl, rfl⟩ ⟨Nat.le_of_ble_eq_true rfl, Nat.le_of_ble_eq_true rfl⟩ (Nat.le_of_ble_eq_true rfl) ⟨Nat.le_of_ble_eq_true rfl, Nat.le_of_ble_eq_true rfl⟩ dX9_dig_22 ?_
      refine Ev.ifneB (pc := 25) (tgt := 31) dX9_dig_25 (by decide) (fun c_3 => ?_) (fun c_3 => ?_)
      · have hr := ifp hr c_3
        refine Ev.aload_n (pc := 31) dX9_dig_31 rfl ?_
        obtain ⟨x_2, hx_2, hr⟩ := Option.bind_eq_some_iff.mp hr
        refine Ev.cVv (pc := 32) (As := []) (kX9_keepAct _ _ _ _ hx_2) rfl rfl (ob_29 _) gX9_dig_X9_keepAct hdX9_keepAct rfl ⟨rfl, rfl⟩ ⟨Nat.le_of_ble_eq_true rfl, Nat.le_of_ble_eq_true rfl⟩ (Nat.le_of_ble_eq_true rfl) ⟨Nat.le_of_ble_eq_true rfl, Nat.le_of_ble_eq_true rfl⟩ dX9_dig_32 ?_
        refine Ev.aload_n (pc := 35) dX9_dig_35 rfl ?_
        refine Ev.iconst (pc := 36) (v := nI 0) dX9_dig_36 (by decide) ?_
        refine Ev.iload_n (pc := 37) dX9_dig_37 rfl ?_
        refine Ev.iload_n (pc := 38) dX9_dig_38 rfl ?_
        obtain ⟨x_3, hx_3, hr⟩ := Option.bind_eq_some_iff.mp hr
        refine Ev.cVv (pc := 39) (As := [.int _, .int _, .int _]) (kX9_digOn _ _ _ _ _ _ _ hx_3) rfl rfl (ob_29 _) gX9_dig_X9_digOn hdX9_digOn rfl ⟨rfl, rfl⟩ ⟨Nat.le_of_ble_eq_true rfl, Nat.le_of_ble_eq_true rfl⟩ (Nat.le_of_ble_eq_true rfl) ⟨Nat.le_of_ble_eq_true rfl, Nat.le_of_ble_eq_true rfl⟩ dX9_dig_39 ?_
        refine Ev.aload_n (pc := 42) dX9_dig_42 rfl ?_
        refine Ev.iconst (pc := 43) (v := nI 0) dX9_dig_43 (by decide) ?_
        refine Ev.iload_n (pc := 44) dX9_dig_44 rfl ?_
        obtain ⟨x_4, hx_4, hr⟩ := Option.bind_eq_some_iff.mp hr
        refine Ev.cVi (pc := 45) (As := [.int _, .int _]) (kX9_carriedBy _ _ _ _ _ _ hx_4) rfl rfl (ob_29 _) gX9_dig_X9_carriedBy hdX9_carriedBy rfl ⟨rfl, rfl⟩ ⟨Nat.le_of_ble_eq_true rfl, Nat.le_of_ble_eq_true rfl⟩ (Nat.le_of_ble_eq_true rfl) ⟨Nat.le_of_ble_eq_true rfl, Nat.le_of_ble_eq_true rfl⟩ dX9_dig_45 ?_
        obtain ⟨x_5, hx_5, hr⟩ := Option.bind_eq_some_iff.mp hr
        refine Ev.cSi (pc := 48) (As := [.int _]) (kX9_ones _ _ _ _ _ hx_5) rfl gX9_dig_X9_ones hdX9_ones rfl ⟨rfl, rfl⟩ ⟨Nat.le_of_ble_eq_true rfl, Nat.le_of_ble_eq_true rfl⟩ (Nat.le_of_ble_eq_true rfl) ⟨Nat.le_of_ble_eq_true rfl, Nat.le_of_ble_eq_true rfl⟩ dX9_dig_48 ?_
        cases hr
        exact Ev.iret rfl rfl dX9_dig_51 ⟨rfl, rfl⟩
      · have hr := ifn hr (ntr c_3)
        refine Ev.bipush (pc := 28) (v := (-3)) dX9_dig_28 (by decide) ?_
        cases hr
        exact Ev.iret rfl rfl dX9_dig_30 ⟨rfl, rfl⟩
    · have hr := ifn hr (ntr c_2)
      refine Ev.iconst (pc := 16) (v := (-1)) dX9_dig_16 (by decide) ?_
      cases hr
      exact Ev.iret rfl rfl dX9_dig_17 ⟨rfl, rfl⟩
/-! X9_put -/
def sX9_put (g2 : Hg) (a1 : Int32) : Option (Int32 × Hg) := if (sX9_isLark g2 a1) = true then ((sX9_carriedBy g2 (nI 0) a1).bind fun x_1 => ((sX9_ones x_1).bind fun x_2 => (if x_2 = 0 then (some ((-3), g2)) else ((sX9_keepAct g2).bind fun x_3 => ((sX9_putOn x_3 (nI 0) a1).bind fun x_4 => (some (x_2, x_4))))))) else (some ((-1), g2))
set_option maxRecDepth 20000 in
set_option maxHeartbeats 1000000 in
theorem kX9_put (g : Hg) (q : Int64) (g2 : Hg) (q2 : Int64) (a1 : Int32) {r : Int32 × Hg} (hr : sX9_put g2 a1 = some r) : CtI MX9_put [.ref 29, .int a1] (g, q, g2, q2) (fun x h' => x = r.1 ∧ h' = (g, q, r.2, q2)) := by
  unfold sX9_put at hr
  refine CtI_L 1 rfl (by decide +kernel) rfl (Nat.le_of_ble_eq_true rfl) ?_
  show Ev _ _ 0 [some (.ref 29), some (.int a1), none] [] _
  refine Ev.aload_n (pc := 0) dX9_put_0 rfl ?_
  refine Ev.iload_n (pc := 1) dX9_put_1 rfl ?_
  refine Ev.cVi (pc := 2) (As := [.int _]) (kX9_isLark _ _ _ _ _) rfl rfl (ob_29 _) gX9_put_X9_isLark hdX9_isLark rfl ⟨rfl, rfl⟩ ⟨Nat.le_of_ble_eq_true rfl, Nat.le_of_ble_eq_true rfl⟩ (Nat.le_of_ble_eq_true rfl) ⟨Nat.le_of_ble_eq_true rfl, Nat.le_of_ble_eq_true rfl⟩ dX9_put_2 ?_
  refine Ev.ifneB (pc := 5) (tgt := 10) dX9_put_5 (by decide) (fun c_1 => ?_) (fun c_1 => ?_)
  · have hr := ifp hr c_1
    refine Ev.aload_n (pc := 10) dX9_put_10 rfl ?_
    refine Ev.iconst (pc := 11) (v := nI 0) dX9_put_11 (by decide) ?_
    refine Ev.iload_n (pc := 12) dX9_put_12 rfl ?_
    obtain ⟨x_1, hx_1, hr⟩ := Option.bind_eq_some_iff.mp hr
    refine Ev.cVi (pc := 13) (As := [.int _, .int _]) (kX9_carriedBy _ _ _ _ _ _ hx_1) rfl rfl (ob_29 _) gX9_put_X9_carriedBy hdX9_carriedBy rfl ⟨rfl, rfl⟩ ⟨Nat.le_of_ble_eq_true rfl, Nat.le_of_ble_eq_true rfl⟩ (Nat.le_of_ble_eq_true rfl) ⟨Nat.le_of_ble_eq_true rfl, Nat.le_of_ble_eq_true rfl⟩ dX9_put_13 ?_
    obtain ⟨x_2, hx_2, hr⟩ := Option.bind_eq_some_iff.mp hr
    refine Ev.cSi (pc := 16) (As := [.int _]) (kX9_ones _ _ _ _ _ hx_2) rfl gX9_put_X9_ones hdX9_ones rfl ⟨rfl, rfl⟩ ⟨Nat.le_of_ble_eq_true rfl, Nat.le_of_ble_eq_true rfl⟩ (Nat.le_of_ble_eq_true rfl) ⟨Nat.le_of_ble_eq_true rfl, Nat.le_of_ble_eq_true rfl⟩ dX9_put_16 ?_
    refine Ev.istore_n (pc := 19) dX9_put_19 rfl rfl ?_
    refine Ev.iload_n (pc := 20) dX9_put_20 rfl ?_
    refine Ev.ifne (pc := 21) (tgt := 27) dX9_put_21 (by decide) (fun c_2 => ?_) (fun c_2 => ?_)
    · have hr := ifn hr c_2
      refine Ev.aload_n (pc := 27) dX9_put_27 rfl ?_
      obtain ⟨x_3, hx_3, hr⟩ := Option.bind_eq_some_iff.mp hr
      refine Ev.cVv (pc := 28) (As := []) (kX9_keepAct _ _ _ _ hx_3) rfl rfl (ob_29 _) gX9_put_X9_keepAct hdX9_keepAct rfl ⟨rfl, rfl⟩ ⟨Nat.le_of_ble_eq_true rfl, Nat.le_of_ble_eq_true rfl⟩ (Nat.le_of_ble_eq_true rfl) ⟨Nat.le_of_ble_eq_true rfl, Nat.le_of_ble_eq_true rfl⟩ dX9_put_28 ?_
      refine Ev.aload_n (pc := 31) dX9_put_31 rfl ?_
      refine Ev.iconst (pc := 32) (v := nI 0) dX9_put_32 (by decide) ?_
      refine Ev.iload_n (pc := 33) dX9_put_33 rfl ?_
      obtain ⟨x_4, hx_4, hr⟩ := Option.bind_eq_some_iff.mp hr
      refine Ev.cVv (pc := 34) (As := [.int _, .int _]) (kX9_putOn _ _ _ _ _ _ hx_4) rfl rfl (ob_29 _) gX9_put_X9_putOn hdX9_putOn rfl ⟨rfl, rfl⟩ ⟨Nat.le_of_ble_eq_true rfl, Nat.le_of_ble_eq_true rfl⟩ (Nat.le_of_ble_eq_true rfl) ⟨Nat.le_of_ble_eq_true rfl, Nat.le_of_ble_eq_true rfl⟩ dX9_put_34 ?_
      refine Ev.iload_n (pc := 37) dX9_put_37 rfl ?_
      cases hr
      exact Ev.iret rfl rfl dX9_put_38 ⟨rfl, rfl⟩
    · have hr := ifp hr c_2
      refine Ev.bipush (pc := 24) (v := (-3)) dX9_put_24 (by decide) ?_
      cases hr
      exact Ev.iret rfl rfl dX9_put_26 ⟨rfl, rfl⟩
  · have hr := ifn hr (ntr c_1)
    refine Ev.iconst (pc := 8) (v := (-1)) dX9_put_8 (by decide) ?_
    cases hr
    exact Ev.iret rfl rfl dX9_put_9 ⟨rfl, rfl⟩
/-! X9_sell -/
def sX9_sell (g2 : Hg) (a1 : Int32) : Option (Int32 × Hg) := if (sX9_isLark g2 a1) = true then ((sX9_canSell g2 (nI 0) a1).bind fun x_1 => (if x_1 = true then ((sX9_keepAct g2).bind fun x_2 => ((sX9_sellOn x_2 (nI 0) a1).bind fun x_3 => (if inb ((nI 4) + a1) 62 = true then (some (x_3 35 (Int32.toNatClampNeg ((nI 4) + a1)), x_3)) else none))) else (some ((-3), g2)))) else (some ((-1), g2))
set_option maxRecDepth 20000 in
set_option maxHeartbeats 1000000 in
theorem kX9_sell (g : Hg) (q : Int64) (g2 : Hg) (q2 : Int64) (a1 : Int32) {r : Int32 × Hg} (hr : sX9_sell g2 a1 = some r) : CtI MX9_sell [.ref 29, .int a1] (g, q, g2, q2) (fun x h' => x = r.1 ∧ h' = (g, q, r.2, q2)) := by
  unfold sX9_sell at hr
  refine CtI_L 0 rfl (by decide +kernel) rfl (Nat.le_of_ble_eq_true rfl) ?_
  show Ev _ _ 0 [some (.ref 29), some (.int a1)] [] _
  refine Ev.aload_n (pc := 0) dX9_sell_0 rfl ?_
  refine Ev.iload_n (pc := 1) dX9_sell_1 rfl ?_
  refine Ev.cVi (pc := 2) (As := [.int _]) (kX9_isLark _ _ _ _ _) rfl rfl (ob_29 _) gX9_sell_X9_isLark hdX9_isLark rfl ⟨rfl, rfl⟩ ⟨Nat.le_of_ble_eq_true rfl, Nat.le_of_ble_eq_true rfl⟩ (Nat.le_of_ble_eq_true rfl) ⟨Nat.le_of_ble_eq_true rfl, Nat.le_of_ble_eq_true rfl⟩ dX9_sell_2 ?_
  refine Ev.ifneB (pc := 5) (tgt := 10) dX9_sell_5 (by decide) (fun c_1 => ?_) (fun c_1 => ?_)
  · have hr := ifp hr c_1
    refine Ev.aload_n (pc := 10) dX9_sell_10 rfl ?_
    refine Ev.iconst (pc := 11) (v := nI 0) dX9_sell_11 (by decide) ?_
    refine Ev.iload_n (pc := 12) dX9_sell_12 rfl ?_
    obtain ⟨x_1, hx_1, hr⟩ := Option.bind_eq_some_iff.mp hr
    refine Ev.cVi (pc := 13) (As := [.int _, .int _]) (kX9_canSell _ _ _ _ _ _ hx_1) rfl rfl (ob_29 _) gX9_sell_X9_canSell hdX9_canSell rfl ⟨rfl, rfl⟩ ⟨Nat.le_of_ble_eq_true rfl, Nat.le_of_ble_eq_true rfl⟩ (Nat.le_of_ble_eq_true rfl) ⟨Nat.le_of_ble_eq_true rfl, Nat.le_of_ble_eq_true rfl⟩ dX9_sell_13 ?_
    refine Ev.ifneB (pc := 16) (tgt := 22) dX9_sell_16 (by decide) (fun c_2 => ?_) (fun c_2 => ?_)
    · have hr := ifp hr c_2
      refine Ev.aload_n (pc := 22) dX9_sell_22 rfl ?_
      obtain ⟨x_2, hx_2, hr⟩ := Option.bind_eq_some_iff.mp hr
      refine Ev.cVv (pc := 23) (As := []) (kX9_keepAct _ _ _ _ hx_2) rfl rfl (ob_29 _) gX9_sell_X9_keepAct hdX9_keepAct rfl ⟨rfl, rfl⟩ ⟨Nat.le_of_ble_eq_true rfl, Nat.le_of_ble_eq_true rfl⟩ (Nat.le_of_ble_eq_true rfl) ⟨Nat.le_of_ble_eq_true rfl, Nat.le_of_ble_eq_true rfl⟩ dX9_sell_23 ?_
      refine Ev.aload_n (pc := 26) dX9_sell_26 rfl ?_
      refine Ev.iconst (pc := 27) (v := nI 0) dX9_sell_27 (by decide) ?_
      refine Ev.iload_n (pc := 28) dX9_sell_28 rfl ?_
      obtain ⟨x_3, hx_3, hr⟩ := Option.bind_eq_some_iff.mp hr
      refine Ev.cVv (pc := 29) (As := [.int _, .int _]) (kX9_sellOn _ _ _ _ _ _ hx_3) rfl rfl (ob_29 _) gX9_sell_X9_sellOn hdX9_sellOn rfl ⟨rfl, rfl⟩ ⟨Nat.le_of_ble_eq_true rfl, Nat.le_of_ble_eq_true rfl⟩ (Nat.le_of_ble_eq_true rfl) ⟨Nat.le_of_ble_eq_true rfl, Nat.le_of_ble_eq_true rfl⟩ dX9_sell_29 ?_
      refine Ev.aload_n (pc := 32) dX9_sell_32 rfl ?_
      refine Ev.get (pc := 33) (C0 := RX9) (T := TX9) (N := 31) (fl_29_8 _ _ _ _) rfl inX9_sell (by decide) lkX9_sell_25 dX9_sell_33 ?_
      refine Ev.iconst (pc := 36) (v := nI 4) dX9_sell_36 (by decide) ?_
      refine Ev.iload_n (pc := 37) dX9_sell_37 rfl ?_
      refine Ev.iadd (pc := 38) dX9_sell_38 ?_
      obtain ⟨c_3, hr⟩ := ckB hr
      refine Ev.iald (pc := 39) (ar_35 _ _ _ _) (inb_in c_3) dX9_sell_39 ?_
      cases hr
      exact Ev.iret rfl rfl dX9_sell_40 ⟨rfl, rfl⟩
    · have hr := ifn hr (ntr c_2)
      refine Ev.bipush (pc := 19) (v := (-3)) dX9_sell_19 (by decide) ?_
      cases hr
      exact Ev.iret rfl rfl dX9_sell_21 ⟨rfl, rfl⟩
  · have hr := ifn hr (ntr c_1)
    refine Ev.iconst (pc := 8) (v := (-1)) dX9_sell_8 (by decide) ?_
    cases hr
    exact Ev.iret rfl rfl dX9_sell_9 ⟨rfl, rfl⟩
/-! X9_undo -/
def sX9_undo_36  : Nat → Hg → Int32 → Option (Int32 × Hg)
  | 0, _, _ => none
  | n + 1, g2, v1 => if (nI 31) ≤ v1 then (some (g2 29 20, g2)) else (if inb (((nI 31) * (g2 29 21)) + v1) 434 = true then (if inb v1 62 = true then (sX9_undo_36 n (stA g2 35 (Int32.toNatClampNeg v1) (g2 41 (Int32.toNatClampNeg (((nI 31) * (g2 29 21)) + v1)))) (v1 + (nI 1))) else none) else none)
set_option maxRecDepth 20000 in
set_option maxHeartbeats 1000000 in
theorem kX9_undo_36 (g : Hg) (q : Int64) (q2 : Int64)   (r : Int32 × Hg) : ∀ (n : Nat) (g2 : Hg) (v1 : Int32), sX9_undo_36 n g2 v1 = some r → Ev (Xi (fun x h' => x = r.1 ∧ h' = (g, q, r.2, q2))) MX9_undo 36 [some (.ref 29), some (.int v1)] [] (g, q, g2, q2) := by
  intro n
  induction n with
  | zero => intro _ _ hr; cases hr
  | succ n ih =>
    intro g2 v1 hr
    rw [sX9_undo_36] at hr
    refine Ev.iload_n (pc := 36) dX9_undo_36 rfl ?_
    refine Ev.bipush (pc := 37) (v := nI 31) dX9_undo_37 (by decide) ?_
    refine Ev.icmpge (pc := 39) (tgt := 68) dX9_undo_39 (by decide) (fun c_2 => ?_) (fun c_2 => ?_)
    · have hr := ifp hr c_2
      refine Ev.aload_n (pc := 68) dX9_undo_68 rfl ?_
      refine Ev.get (pc := 69) (C0 := RX9) (T := TX9) (N := 31) (fl_29_20 _ _ _ _) rfl inX9_undo (by decide) lkX9_undo_111 dX9_undo_69 ?_
      cases hr
      exact Ev.iret rfl rfl dX9_undo_72 ⟨rfl, rfl⟩
    · have hr := ifn hr c_2
      refine Ev.aload_n (pc := 42) dX9_undo_42 rfl ?_
      refine Ev.get (pc := 43) (C0 := RX9) (T := TX9) (N := 31) (fl_29_8 _ _ _ _) rfl inX9_undo (by decide) lkX9_undo_25 dX9_undo_43 ?_
      refine Ev.iload_n (pc := 46) dX9_undo_46 rfl ?_
      refine Ev.aload_n (pc := 47) dX9_undo_47 rfl ?_
      refine Ev.get (pc := 48) (C0 := RX9) (T := TX9) (N := 31) (fl_29_22 _ _ _ _) rfl inX9_undo (by decide) lkX9_undo_43 dX9_undo_48 ?_
      refine Ev.bipush (pc := 51) (v := nI 31) dX9_undo_51 (by decide) ?_
      refine Ev.aload_n (pc := 53) dX9_undo_53 rfl ?_
      refine Ev.get (pc := 54) (C0 := RX9) (T := TX9) (N := 31) (fl_29_21 _ _ _ _) rfl inX9_undo (by decide) lkX9_undo_167 dX9_undo_54 ?_
      refine Ev.imul (pc := 57) dX9_undo_57 ?_
      refine Ev.iload_n (pc := 58) dX9_undo_58 rfl ?_
      refine Ev.iadd (pc := 59) dX9_undo_59 ?_
      obtain ⟨c_3, hr⟩ := ckB hr
      refine Ev.iald (pc := 60) (ar_41 _ _ _ _) (inb_in c_3) dX9_undo_60 ?_
      obtain ⟨c_4, hr⟩ := ckB hr
      refine Ev.iast (pc := 61) (ar_35 _ _ _ _) (inb_in c_4) (se_35 _ _ _ _ _) dX9_undo_61 ?_
      refine Ev.iinc (pc := 62) (v := nI 1) dX9_undo_62 rfl rfl rfl rfl ?_
      refine Ev.goto (pc := 65) (tgt := 36) dX9_undo_65 (by decide) ?_
      exact ih _ _ hr
def sX9_undo (g2 : Hg) : Option (Int32 × Hg) := if (g2 29 20) = 0 then (some ((-3), g2)) else (sX9_undo_36 100 (stA (stA g2 29 20 ((g2 29 20) - (nI 1))) 29 21 ((((stA g2 29 20 ((g2 29 20) - (nI 1))) 29 21) + (nI 13)) - (((stA g2 29 20 ((g2 29 20) - (nI 1))) 29 21) + (nI 13)) / (nI 14) * (nI 14))) (nI 0))
set_option maxRecDepth 20000 in
set_option maxHeartbeats 1000000 in
theorem kX9_undo (g : Hg) (q : Int64) (g2 : Hg) (q2 : Int64) {r : Int32 × Hg} (hr : sX9_undo g2 = some r) : CtI MX9_undo [.ref 29] (g, q, g2, q2) (fun x h' => x = r.1 ∧ h' = (g, q, r.2, q2)) := by
  unfold sX9_undo at hr
  refine CtI_L 1 rfl (by decide +kernel) rfl (Nat.le_of_ble_eq_true rfl) ?_
  show Ev _ _ 0 [some (.ref 29), none] [] _
  refine Ev.aload_n (pc := 0) dX9_undo_0 rfl ?_
  refine Ev.get (pc := 1) (C0 := RX9) (T := TX9) (N := 31) (fl_29_20 _ _ _ _) rfl inX9_undo (by decide) lkX9_undo_111 dX9_undo_1 ?_
  refine Ev.ifne (pc := 4) (tgt := 10) dX9_undo_4 (by decide) (fun c_1 => ?_) (fun c_1 => ?_)
  · have hr := ifn hr c_1
    refine Ev.aload_n (pc := 10) dX9_undo_10 rfl ?_
    refine Ev.dup (pc := 11) dX9_undo_11 rfl ?_
    refine Ev.get (pc := 12) (C0 := RX9) (T := TX9) (N := 31) (fl_29_20 _ _ _ _) rfl inX9_undo (by decide) lkX9_undo_111 dX9_undo_12 ?_
    refine Ev.iconst (pc := 15) (v := nI 1) dX9_undo_15 (by decide) ?_
    refine Ev.isub (pc := 16) dX9_undo_16 ?_
    refine Ev.put (pc := 17) (C0 := RX9) (T := TX9) (N := 31) (ty := .int) (pu_29_20 _ _ _ _ _) rfl inX9_undo tyX9_ok nmX9 (by decide) lkX9_undo_111 rfl (by decide +kernel) (fun _ => rfl) (fun _ => rfl) dX9_undo_17 ?_
    refine Ev.aload_n (pc := 20) dX9_undo_20 rfl ?_
    refine Ev.aload_n (pc := 21) dX9_undo_21 rfl ?_
    refine Ev.get (pc := 22) (C0 := RX9) (T := TX9) (N := 31) (fl_29_21 _ _ _ _) rfl inX9_undo (by decide) lkX9_undo_167 dX9_undo_22 ?_
    refine Ev.bipush (pc := 25) (v := nI 13) dX9_undo_25 (by decide) ?_
    refine Ev.iadd (pc := 27) dX9_undo_27 ?_
    refine Ev.bipush (pc := 28) (v := nI 14) dX9_undo_28 (by decide) ?_
    refine Ev.irem (pc := 30) dX9_undo_30 (by decide) ?_
    refine Ev.put (pc := 31) (C0 := RX9) (T := TX9) (N := 31) (ty := .int) (pu_29_21 _ _ _ _ _) rfl inX9_undo tyX9_ok nmX9 (by decide) lkX9_undo_167 rfl (by decide +kernel) (fun _ => rfl) (fun _ => rfl) dX9_undo_31 ?_
    refine Ev.iconst (pc := 34) (v := nI 0) dX9_undo_34 (by decide) ?_
    refine Ev.istore_n (pc := 35) dX9_undo_35 rfl rfl ?_
    exact kX9_undo_36 _ _ _  _ 100 _ _ hr
  · have hr := ifp hr c_1
    refine Ev.bipush (pc := 7) (v := (-3)) dX9_undo_7 (by decide) ?_
    cases hr
    exact Ev.iret rfl rfl dX9_undo_9 ⟨rfl, rfl⟩
/-! X9_baredIn -/
def sX9_baredIn_4 (g2 : Hg) (v1 : Int32) : Nat → Int32 → Int32 → Option (Int32)
  | 0, _, _ => none
  | n + 1, v2, v3 => if (nI 12) ≤ v3 then (some v2) else ((sX9_isBare g2 v3 v1).bind fun x_1 => (if x_1 = true then (sX9_baredIn_4 g2 v1 n (v2 ||| ((nI 1) <<< (v3 &&& 31))) (v3 + (nI 1))) else (sX9_baredIn_4 g2 v1 n (v2 ||| (nI 0)) (v3 + (nI 1)))))
set_option maxRecDepth 20000 in
set_option maxHeartbeats 1000000 in
theorem kX9_baredIn_4 (g : Hg) (q : Int64) (g2 : Hg) (q2 : Int64)  (v1 : Int32) (r : Int32) : ∀ (n : Nat) (v2 : Int32) (v3 : Int32), sX9_baredIn_4 g2 v1 n v2 v3 = some r → Ev (Xi (fun x h' => x = r ∧ h' = (g, q, g2, q2))) MX9_baredIn 4 [some (.ref 29), some (.int v1), some (.int v2), some (.int v3)] [] (g, q, g2, q2) := by
  intro n
  induction n with
  | zero => intro _ _ hr; cases hr
  | succ n ih =>
    intro v2 v3 hr
    rw [sX9_baredIn_4] at hr
    refine Ev.iload_n (pc := 4) dX9_baredIn_4 rfl ?_
    refine Ev.bipush (pc := 5) (v := nI 12) dX9_baredIn_5 (by decide) ?_
    refine Ev.icmpge (pc := 7) (tgt := 35) dX9_baredIn_7 (by decide) (fun c_1 => ?_) (fun c_1 => ?_)
    · have hr := ifp hr c_1
      refine Ev.iload_n (pc := 35) dX9_baredIn_35 rfl ?_
      cases hr
      exact Ev.iret rfl rfl dX9_baredIn_36 ⟨rfl, rfl⟩
    · have hr := ifn hr c_1
      refine Ev.iload_n (pc := 10) dX9_baredIn_10 rfl ?_
      refine Ev.aload_n (pc := 11) dX9_baredIn_11 rfl ?_
      refine Ev.iload_n (pc := 12) dX9_baredIn_12 rfl ?_
      refine Ev.iload_n (pc := 13) dX9_baredIn_13 rfl ?_
      obtain ⟨x_1, hx_1, hr⟩ := Option.bind_eq_some_iff.mp hr
      refine Ev.cVi (pc := 14) (As := [.int _, .int _]) (kX9_isBare _ _ _ _ _ _ hx_1) rfl rfl (ob_29 _) gX9_baredIn_X9_isBare hdX9_isBare rfl ⟨rfl, rfl⟩ ⟨Nat.le_of_ble_eq_true rfl, Nat.le_of_ble_eq_true rfl⟩ (Nat.le_of_ble_eq_true rfl) ⟨Nat.le_of_ble_eq_true rfl, Nat.le_of_ble_eq_true rfl⟩ dX9_baredIn_14 ?_
      refine Ev.ifeqB (pc := 17) (tgt := 26) dX9_baredIn_17 (by decide) (fun c_2 => ?_) (fun c_2 => ?_)
      · have hr := ifn hr (ntr c_2)
        refine Ev.iconst (pc := 26) (v := nI 0) dX9_baredIn_26 (by decide) ?_
        refine Ev.ior (pc := 27) dX9_baredIn_27 ?_
        refine Ev.istore_n (pc := 28) dX9_baredIn_28 rfl rfl ?_
        refine Ev.iinc (pc := 29) (v := nI 1) dX9_baredIn_29 rfl rfl rfl rfl ?_
        refine Ev.goto (pc := 32) (tgt := 4) dX9_baredIn_32 (by decide) ?_
        exact ih _ _ hr
      · have hr := ifp hr c_2
        refine Ev.iconst (pc := 20) (v := nI 1) dX9_baredIn_20 (by decide) ?_
        refine Ev.iload_n (pc := 21) dX9_baredIn_21 rfl ?_
        refine Ev.ishl (pc := 22) dX9_baredIn_22 ?_
        refine Ev.goto (pc := 23) (tgt := 27) dX9_baredIn_23 (by decide) ?_
        refine Ev.ior (pc := 27) dX9_baredIn_27 ?_
        refine Ev.istore_n (pc := 28) dX9_baredIn_28 rfl rfl ?_
        refine Ev.iinc (pc := 29) (v := nI 1) dX9_baredIn_29 rfl rfl rfl rfl ?_
        refine Ev.goto (pc := 32) (tgt := 4) dX9_baredIn_32 (by decide) ?_
        exact ih _ _ hr
def sX9_baredIn (g2 : Hg) (a1 : Int32) : Option (Int32) := sX9_baredIn_4 g2 a1 100 (nI 0) (nI 0)
set_option maxRecDepth 20000 in
set_option maxHeartbeats 1000000 in
theorem kX9_baredIn (g : Hg) (q : Int64) (g2 : Hg) (q2 : Int64) (a1 : Int32) {r : Int32} (hr : sX9_baredIn g2 a1 = some r) : CtI MX9_baredIn [.ref 29, .int a1] (g, q, g2, q2) (fun x h' => x = r ∧ h' = (g, q, g2, q2)) := by
  unfold sX9_baredIn at hr
  refine CtI_L 2 rfl (by decide +kernel) rfl (Nat.le_of_ble_eq_true rfl) ?_
  show Ev _ _ 0 [some (.ref 29), some (.int a1), none, none] [] _
  refine Ev.iconst (pc := 0) (v := nI 0) dX9_baredIn_0 (by decide) ?_
  refine Ev.istore_n (pc := 1) dX9_baredIn_1 rfl rfl ?_
  refine Ev.iconst (pc := 2) (v := nI 0) dX9_baredIn_2 (by decide) ?_
  refine Ev.istore_n (pc := 3) dX9_baredIn_3 rfl rfl ?_
  exact kX9_baredIn_4 _ _ _ _ _ _ 100 _ _ hr
/-! X9_bared -/
def sX9_bared (g2 : Hg) (a1 : Int32) : Option (Int32) := if (sX9_in (Int32.toInt64 a1) (lN 0) ((20 : Int64))) = true then ((sX9_baredIn g2 ((g2 35 (Int32.toNatClampNeg (nI 30))) + a1)).bind fun x_1 => (some x_1)) else (some ((-2)))
set_option maxRecDepth 20000 in
set_option maxHeartbeats 1000000 in
theorem kX9_bared (g : Hg) (q : Int64) (g2 : Hg) (q2 : Int64) (a1 : Int32) {r : Int32} (hr : sX9_bared g2 a1 = some r) : CtI MX9_bared [.ref 29, .int a1] (g, q, g2, q2) (fun x h' => x = r ∧ h' = (g, q, g2, q2)) := by
  unfold sX9_bared at hr
  refine CtI_L 0 rfl (by decide +kernel) rfl (Nat.le_of_ble_eq_true rfl) ?_
  show Ev _ _ 0 [some (.ref 29), some (.int a1)] [] _
  refine Ev.iload_n (pc := 0) dX9_bared_0 rfl ?_
  refine Ev.i2l (pc := 1) dX9_bared_1 ?_
  refine Ev.lconst (pc := 2) (v := lN 0) dX9_bared_2 rfl ?_
  refine Ev.ldc2 (pc := 3) (v := 20) (by decide +kernel) dX9_bared_3 ?_
  refine Ev.cSi (pc := 6) (As := [.long _, .long _, .long _]) (kX9_in _ _ _ _ _ _ _) rfl gX9_bared_X9_in hdX9_in rfl ⟨rfl, rfl⟩ ⟨Nat.le_of_ble_eq_true rfl, Nat.le_of_ble_eq_true rfl⟩ (Nat.le_of_ble_eq_true rfl) ⟨Nat.le_of_ble_eq_true rfl, Nat.le_of_ble_eq_true rfl⟩ dX9_bared_6 ?_
  refine Ev.ifeqB (pc := 9) (tgt := 28) dX9_bared_9 (by decide) (fun c_1 => ?_) (fun c_1 => ?_)
  · have hr := ifn hr (ntr c_1)
    refine Ev.bipush (pc := 28) (v := (-2)) dX9_bared_28 (by decide) ?_
    cases hr
    exact Ev.iret rfl rfl dX9_bared_30 ⟨rfl, rfl⟩
  · have hr := ifp hr c_1
    refine Ev.aload_n (pc := 12) dX9_bared_12 rfl ?_
    refine Ev.aload_n (pc := 13) dX9_bared_13 rfl ?_
    refine Ev.get (pc := 14) (C0 := RX9) (T := TX9) (N := 31) (fl_29_8 _ _ _ _) rfl inX9_bared (by decide) lkX9_bared_25 dX9_bared_14 ?_
    refine Ev.bipush (pc := 17) (v := nI 30) dX9_bared_17 (by decide) ?_
    refine Ev.iald (pc := 19) (ar_35 _ _ _ _) (vp_in_nI (n := 30) (N := 62) (by decide) (by decide)) dX9_bared_19 ?_
    refine Ev.iload_n (pc := 20) dX9_bared_20 rfl ?_
    refine Ev.iadd (pc := 21) dX9_bared_21 ?_
    obtain ⟨x_1, hx_1, hr⟩ := Option.bind_eq_some_iff.mp hr
    refine Ev.cVi (pc := 22) (As := [.int _]) (kX9_baredIn _ _ _ _ _ hx_1) rfl rfl (ob_29 _) gX9_bared_X9_baredIn hdX9_baredIn rfl ⟨rfl, rfl⟩ ⟨Nat.le_of_ble_eq_true rfl, Nat.le_of_ble_eq_true rfl⟩ (Nat.le_of_ble_eq_true rfl) ⟨Nat.le_of_ble_eq_true rfl, Nat.le_of_ble_eq_true rfl⟩ dX9_bared_22 ?_
    refine Ev.goto (pc := 25) (tgt := 30) dX9_bared_25 (by decide) ?_
    cases hr
    exact Ev.iret rfl rfl dX9_bared_30 ⟨rfl, rfl⟩
