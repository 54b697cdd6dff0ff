/-! X9_in -/
def sX9_in (a1 : Int64) (a2 : Int64) (a3 : Int64) : Bool := if (lg_cmp a1 a2) < 0 then (false) else (if 0 < (lg_cmp a1 a3) then (false) else (true))
set_option maxRecDepth 20000 in
set_option maxHeartbeats 1000000 in
theorem kX9_in (g : Hg) (q : Int64) (g2 : Hg) (q2 : Int64) (a1 : Int64) (a2 : Int64) (a3 : Int64) : CtI MX9_in [.long a1, .long a2, .long a3] (g, q, g2, q2) (fun x h' => x = bI ((sX9_in a1 a2 a3)) ∧ h' = (g, q, g2, q2)) := by
  generalize hr : sX9_in a1 a2 a3 = r
  unfold sX9_in at hr
  refine CtI_L 0 rfl (by decide +kernel) rfl (Nat.le_of_ble_eq_true rfl) ?_
  show Ev _ _ 0 [some (.long a1), none, some (.long a2), none, some (.long a3), none] [] _
  refine Ev.lload_n (pc := 0) dX9_in_0 rfl ?_
  refine Ev.lload_n (pc := 1) dX9_in_1 rfl ?_
  refine Ev.lcmp (pc := 2) dX9_in_2 ?_
  refine Ev.iflt (pc := 3) (tgt := 17) dX9_in_3 (by decide) (fun c_1 => ?_) (fun c_1 => ?_)
  · have hr := ifp hr c_1
    refine Ev.iconst (pc := 17) (v := nI 0) dX9_in_17 (by decide) ?_
    subst hr
    exact Ev.iret rfl rfl dX9_in_18 ⟨rfl, rfl⟩
  · have hr := ifn hr c_1
    refine Ev.lload_n (pc := 6) dX9_in_6 rfl ?_
    refine Ev.lload (pc := 7) dX9_in_7 rfl ?_
    refine Ev.lcmp (pc := 9) dX9_in_9 ?_
    refine Ev.ifgt (pc := 10) (tgt := 17) dX9_in_10 (by decide) (fun c_2 => ?_) (fun c_2 => ?_)
    · have hr := ifp hr c_2
      refine Ev.iconst (pc := 17) (v := nI 0) dX9_in_17 (by decide) ?_
      subst hr
      exact Ev.iret rfl rfl dX9_in_18 ⟨rfl, rfl⟩
    · have hr := ifn hr c_2
      refine Ev.iconst (pc := 13) (v := nI 1) dX9_in_13 (by decide) ?_
      refine Ev.goto (pc := 14) (tgt := 18) dX9_in_14 (by decide) ?_
      subst hr
      exact Ev.iret rfl rfl dX9_in_18 ⟨rfl, rfl⟩
/-! X9_has -/
def sX9_has (a1 : Int32) (a2 : Int32) : Bool := if ((a1 >>> (a2 &&& 31)) &&& (nI 1)) = (nI 1) then (true) else (false)
set_option maxRecDepth 20000 in
set_option maxHeartbeats 1000000 in
theorem kX9_has (g : Hg) (q : Int64) (g2 : Hg) (q2 : Int64) (a1 : Int32) (a2 : Int32) : CtI MX9_has [.int a1, .int a2] (g, q, g2, q2) (fun x h' => x = bI ((sX9_has a1 a2)) ∧ h' = (g, q, g2, q2)) := by
  generalize hr : sX9_has a1 a2 = r
  unfold sX9_has at hr
  refine CtI_L 0 rfl (by decide +kernel) rfl (Nat.le_of_ble_eq_true rfl) ?_
  show Ev _ _ 0 [some (.int a1), some (.int a2)] [] _
  refine Ev.iload_n (pc := 0) dX9_has_0 rfl ?_
  refine Ev.iload_n (pc := 1) dX9_has_1 rfl ?_
  refine Ev.ishr (pc := 2) dX9_has_2 ?_
  refine Ev.iconst (pc := 3) (v := nI 1) dX9_has_3 (by decide) ?_
  refine Ev.iand (pc := 4) dX9_has_4 ?_
  refine Ev.iconst (pc := 5) (v := nI 1) dX9_has_5 (by decide) ?_
  refine Ev.icmpne (pc := 6) (tgt := 13) dX9_has_6 (by decide) (fun c_1 => ?_) (fun c_1 => ?_)
  · have hr := ifn hr c_1
    refine Ev.iconst (pc := 13) (v := nI 0) dX9_has_13 (by decide) ?_
    subst hr
    exact Ev.iret rfl rfl dX9_has_14 ⟨rfl, rfl⟩
  · have hr := ifp hr c_1
    refine Ev.iconst (pc := 9) (v := nI 1) dX9_has_9 (by decide) ?_
    refine Ev.goto (pc := 10) (tgt := 14) dX9_has_10 (by decide) ?_
    subst hr
    exact Ev.iret rfl rfl dX9_has_14 ⟨rfl, rfl⟩
/-! X9_ones -/
def sX9_ones_4 (v0 : Int32) : Nat → Int32 → Int32 → Option (Int32)
  | 0, _, _ => none
  | n + 1, v1, v2 => if (nI 6) ≤ v2 then (some v1) else (sX9_ones_4 v0 n (v1 + ((v0 >>> (v2 &&& 31)) &&& (nI 1))) (v2 + (nI 1)))
set_option maxRecDepth 20000 in
set_option maxHeartbeats 1000000 in
theorem kX9_ones_4 (g : Hg) (q : Int64) (g2 : Hg) (q2 : Int64)  (v0 : Int32) (r : Int32) : ∀ (n : Nat) (v1 : Int32) (v2 : Int32), sX9_ones_4 v0 n v1 v2 = some r → Ev (Xi (fun x h' => x = r ∧ h' = (g, q, g2, q2))) MX9_ones 4 [some (.int v0), some (.int v1), some (.int v2)] [] (g, q, g2, q2) := by
  intro n
  induction n with
  | zero => intro _ _ hr; cases hr
  | succ n ih =>
    intro v1 v2 hr
    rw [sX9_ones_4] at hr
    refine Ev.iload_n (pc := 4) dX9_ones_4 rfl ?_
    refine Ev.bipush (pc := 5) (v := nI 6) dX9_ones_5 (by decide) ?_
    refine Ev.icmpge (pc := 7) (tgt := 24) dX9_ones_7 (by decide) (fun c_1 => ?_) (fun c_1 => ?_)
    · have hr := ifp hr c_1
      refine Ev.iload_n (pc := 24) dX9_ones_24 rfl ?_
      cases hr
      exact Ev.iret rfl rfl dX9_ones_25 ⟨rfl, rfl⟩
    · have hr := ifn hr c_1
      refine Ev.iload_n (pc := 10) dX9_ones_10 rfl ?_
      refine Ev.iload_n (pc := 11) dX9_ones_11 rfl ?_
      refine Ev.iload_n (pc := 12) dX9_ones_12 rfl ?_
      refine Ev.ishr (pc := 13) dX9_ones_13 ?_
      refine Ev.iconst (pc := 14) (v := nI 1) dX9_ones_14 (by decide) ?_
      refine Ev.iand (pc := 15) dX9_ones_15 ?_
      refine Ev.iadd (pc := 16) dX9_ones_16 ?_
      refine Ev.istore_n (pc := 17) dX9_ones_17 rfl rfl ?_
      refine Ev.iinc (pc := 18) (v := nI 1) dX9_ones_18 rfl rfl rfl rfl ?_
      refine Ev.goto (pc := 21) (tgt := 4) dX9_ones_21 (by decide) ?_
      exact ih _ _ hr
def sX9_ones (a1 : Int32) : Option (Int32) := sX9_ones_4 a1 100 (nI 0) (nI 0)
set_option maxRecDepth 20000 in
set_option maxHeartbeats 1000000 in
theorem kX9_ones (g : Hg) (q : Int64) (g2 : Hg) (q2 : Int64) (a1 : Int32) {r : Int32} (hr : sX9_ones a1 = some r) : CtI MX9_ones [.int a1] (g, q, g2, q2) (fun x h' => x = r ∧ h' = (g, q, g2, q2)) := by
  unfold sX9_ones at hr
  refine CtI_L 2 rfl (by decide +kernel) rfl (Nat.le_of_ble_eq_true rfl) ?_
  show Ev _ _ 0 [some (.int a1), none, none] [] _
  refine Ev.iconst (pc := 0) (v := nI 0) dX9_ones_0 (by decide) ?_
  refine Ev.istore_n (pc := 1) dX9_ones_1 rfl rfl ?_
  refine Ev.iconst (pc := 2) (v := nI 0) dX9_ones_2 (by decide) ?_
  refine Ev.istore_n (pc := 3) dX9_ones_3 rfl rfl ?_
  exact kX9_ones_4 _ _ _ _ _ _ 100 _ _ hr
/-! X9_write -/
def sX9_write (g2 : Hg) (a1 : Int32) : Option (Int32 × Hg) := if (sX9_in (Int32.toInt64 a1) (lN 0) ((255 : Int64))) = true then (if (g2 29 17) = (nI 60) then (some ((-4), g2)) else (if inb (g2 29 17) 60 = true then (some ((stA (stA g2 40 (Int32.toNatClampNeg (g2 29 17)) a1) 29 17 (((stA g2 40 (Int32.toNatClampNeg (g2 29 17)) a1) 29 17) + (nI 1))) 29 17, stA (stA g2 40 (Int32.toNatClampNeg (g2 29 17)) a1) 29 17 (((stA g2 40 (Int32.toNatClampNeg (g2 29 17)) a1) 29 17) + (nI 1)))) else none)) else (some ((-2), g2))
set_option maxRecDepth 20000 in
set_option maxHeartbeats 1000000 in
theorem kX9_write (g : Hg) (q : Int64) (g2 : Hg) (q2 : Int64) (a1 : Int32) {r : Int32 × Hg} (hr : sX9_write g2 a1 = some r) : CtI MX9_write [.ref 29, .int a1] (g, q, g2, q2) (fun x h' => x = r.1 ∧ h' = (g, q, r.2, q2)) := by
  unfold sX9_write at hr
  refine CtI_L 0 rfl (by decide +kernel) rfl (Nat.le_of_ble_eq_true rfl) ?_
  show Ev _ _ 0 [some (.ref 29), some (.int a1)] [] _
  refine Ev.iload_n (pc := 0) dX9_write_0 rfl ?_
  refine Ev.i2l (pc := 1) dX9_write_1 ?_
  refine Ev.lconst (pc := 2) (v := lN 0) dX9_write_2 rfl ?_
  refine Ev.ldc2 (pc := 3) (v := 255) (by decide +kernel) dX9_write_3 ?_
  refine Ev.cSi (pc := 6) (As := [.long _, .long _, .long _]) (kX9_in _ _ _ _ _ _ _) rfl gX9_write_X9_in hdX9_in rfl ⟨rfl, rfl⟩ ⟨Nat.le_of_ble_eq_true rfl, Nat.le_of_ble_eq_true rfl⟩ (Nat.le_of_ble_eq_true rfl) ⟨Nat.le_of_ble_eq_true rfl, Nat.le_of_ble_eq_true rfl⟩ dX9_write_6 ?_
  refine Ev.ifneB (pc := 9) (tgt := 15) dX9_write_9 (by decide) (fun c_1 => ?_) (fun c_1 => ?_)
  · have hr := ifp hr c_1
    refine Ev.aload_n (pc := 15) dX9_write_15 rfl ?_
    refine Ev.get (pc := 16) (C0 := RX9) (T := TX9) (N := 31) (fl_29_17 _ _ _ _) rfl inX9_write (by decide) lkX9_write_71 dX9_write_16 ?_
    refine Ev.bipush (pc := 19) (v := nI 60) dX9_write_19 (by decide) ?_
    refine Ev.icmpne (pc := 21) (tgt := 27) dX9_write_21 (by decide) (fun c_2 => ?_) (fun c_2 => ?_)
    · have hr := ifn hr c_2
      refine Ev.aload_n (pc := 27) dX9_write_27 rfl ?_
      refine Ev.get (pc := 28) (C0 := RX9) (T := TX9) (N := 31) (fl_29_16 _ _ _ _) rfl inX9_write (by decide) lkX9_write_40 dX9_write_28 ?_
      refine Ev.aload_n (pc := 31) dX9_write_31 rfl ?_
      refine Ev.get (pc := 32) (C0 := RX9) (T := TX9) (N := 31) (fl_29_17 _ _ _ _) rfl inX9_write (by decide) lkX9_write_71 dX9_write_32 ?_
      refine Ev.iload_n (pc := 35) dX9_write_35 rfl ?_
      obtain ⟨c_3, hr⟩ := ckB hr
      refine Ev.iast (pc := 36) (ar_40 _ _ _ _) (inb_in c_3) (se_40 _ _ _ _ _) dX9_write_36 ?_
      refine Ev.aload_n (pc := 37) dX9_write_37 rfl ?_
      refine Ev.dup (pc := 38) dX9_write_38 rfl ?_
      refine Ev.get (pc := 39) (C0 := RX9) (T := TX9) (N := 31) (fl_29_17 _ _ _ _) rfl inX9_write (by decide) lkX9_write_71 dX9_write_39 ?_
      refine Ev.iconst (pc := 42) (v := nI 1) dX9_write_42 (by decide) ?_
      refine Ev.iadd (pc := 43) dX9_write_43 ?_
      refine Ev.put (pc := 44) (C0 := RX9) (T := TX9) (N := 31) (ty := .int) (pu_29_17 _ _ _ _ _) rfl inX9_write tyX9_ok nmX9 (by decide) lkX9_write_71 rfl (by decide +kernel) (fun _ => rfl) (fun _ => rfl) dX9_write_44 ?_
      refine Ev.aload_n (pc := 47) dX9_write_47 rfl ?_
      refine Ev.get (pc := 48) (C0 := RX9) (T := TX9) (N := 31) (fl_29_17 _ _ _ _) rfl inX9_write (by decide) lkX9_write_71 dX9_write_48 ?_
      cases hr
      exact Ev.iret rfl rfl dX9_write_51 ⟨rfl, rfl⟩
    · have hr := ifp hr c_2
      refine Ev.bipush (pc := 24) (v := (-4)) dX9_write_24 (by decide) ?_
      cases hr
      exact Ev.iret rfl rfl dX9_write_26 ⟨rfl, rfl⟩
  · have hr := ifn hr (ntr c_1)
    refine Ev.bipush (pc := 12) (v := (-2)) dX9_write_12 (by decide) ?_
    cases hr
    exact Ev.iret rfl rfl dX9_write_14 ⟨rfl, rfl⟩
/-! X9_wipe -/
def sX9_wipe (g2 : Hg) : Int32 × Hg := (g2 29 17, stA g2 29 17 (nI 0))
set_option maxRecDepth 20000 in
set_option maxHeartbeats 1000000 in
theorem kX9_wipe (g : Hg) (q : Int64) (g2 : Hg) (q2 : Int64) : CtI MX9_wipe [.ref 29] (g, q, g2, q2) (fun x h' => x = (sX9_wipe g2).1 ∧ h' = (g, q, (sX9_wipe g2).2, q2)) := by
  generalize hr : sX9_wipe g2 = r
  unfold sX9_wipe at hr
  refine CtI_L 1 rfl (by decide +kernel) rfl (Nat.le_of_ble_eq_true rfl) ?_
  show Ev _ _ 0 [some (.ref 29), none] [] _
  refine Ev.aload_n (pc := 0) dX9_wipe_0 rfl ?_
  refine Ev.get (pc := 1) (C0 := RX9) (T := TX9) (N := 31) (fl_29_17 _ _ _ _) rfl inX9_wipe (by decide) lkX9_wipe_71 dX9_wipe_1 ?_
  refine Ev.istore_n (pc := 4) dX9_wipe_4 rfl rfl ?_
  refine Ev.aload_n (pc := 5) dX9_wipe_5 rfl ?_
  refine Ev.iconst (pc := 6) (v := nI 0) dX9_wipe_6 (by decide) ?_
  refine Ev.put (pc := 7) (C0 := RX9) (T := TX9) (N := 31) (ty := .int) (pu_29_17 _ _ _ _ _) rfl inX9_wipe tyX9_ok nmX9 (by decide) lkX9_wipe_71 rfl (by decide +kernel) (fun _ => rfl) (fun _ => rfl) dX9_wipe_7 ?_
  refine Ev.iload_n (pc := 10) dX9_wipe_10 rfl ?_
  subst hr
  exact Ev.iret rfl rfl dX9_wipe_11 ⟨rfl, rfl⟩
/-! X9_nextOf -/
def sX9_nextOf_j49 (g2 : Hg) (v1 : Int32) (v2 : Int32) (v3 : Int32) (v4 : Int32) (v5 : Int32) : Option (Int32 × Hg) := if v4 = 0 then (if (g2 29 19) = ((-9)) then (some (nI 0, stA g2 29 19 (g2 29 18))) else (some (nI 0, stA g2 29 19 (g2 29 19)))) else (if (sX9_in (Int32.toInt64 v5) (Int32.toInt64 v2) (Int32.toInt64 v3)) = true then (some (v5, stA g2 29 18 ((g2 29 18) + (nI 1)))) else (if (g2 29 19) = ((-9)) then (some (nI 0, stA g2 29 19 (g2 29 18))) else (some (nI 0, stA g2 29 19 (g2 29 19)))))
set_option maxRecDepth 20000 in
set_option maxHeartbeats 1000000 in
theorem kX9_nextOf_j49 (g : Hg) (q : Int64) (g2 : Hg) (q2 : Int64)  (v1 : Int32) (v2 : Int32) (v3 : Int32) (v4 : Int32) (v5 : Int32) {r : Int32 × Hg} (hr : sX9_nextOf_j49 g2 v1 v2 v3 v4 v5 = some r) : Ev (Xi (fun x h' => x = r.1 ∧ h' = (g, q, r.2, q2))) MX9_nextOf 49 [some (.ref 29), some (.int v1), some (.int v2), some (.int v3), some (.int v4), some (.int v5)] [] (g, q, g2, q2) := by
  unfold sX9_nextOf_j49 at hr
  refine Ev.iload (pc := 49) dX9_nextOf_49 rfl ?_
  refine Ev.ifeq (pc := 51) (tgt := 67) dX9_nextOf_51 (by decide) (fun c_3 => ?_) (fun c_3 => ?_)
  · have hr := ifp hr c_3
    refine Ev.aload_n (pc := 67) dX9_nextOf_67 rfl ?_
    refine Ev.aload_n (pc := 68) dX9_nextOf_68 rfl ?_
    refine Ev.get (pc := 69) (C0 := RX9) (T := TX9) (N := 31) (fl_29_19 _ _ _ _) rfl inX9_nextOf (by decide) lkX9_nextOf_75 dX9_nextOf_69 ?_
    refine Ev.bipush (pc := 72) (v := (-9)) dX9_nextOf_72 (by decide) ?_
    refine Ev.icmpne (pc := 74) (tgt := 84) dX9_nextOf_74 (by decide) (fun c_4 => ?_) (fun c_4 => ?_)
    · have hr := ifn hr c_4
      refine Ev.aload_n (pc := 84) dX9_nextOf_84 rfl ?_
      refine Ev.get (pc := 85) (C0 := RX9) (T := TX9) (N := 31) (fl_29_19 _ _ _ _) rfl inX9_nextOf (by decide) lkX9_nextOf_75 dX9_nextOf_85 ?_
      refine Ev.put (pc := 88) (C0 := RX9) (T := TX9) (N := 31) (ty := .int) (pu_29_19 _ _ _ _ _) rfl inX9_nextOf tyX9_ok nmX9 (by decide) lkX9_nextOf_75 rfl (by decide +kernel) (fun _ => rfl) (fun _ => rfl) dX9_nextOf_88 ?_
      refine Ev.iconst (pc := 91) (v := nI 0) dX9_nextOf_91 (by decide) ?_
      cases hr
      exact Ev.iret rfl rfl dX9_nextOf_92 ⟨rfl, rfl⟩
    · have hr := ifp hr c_4
      refine Ev.aload_n (pc := 77) dX9_nextOf_77 rfl ?_
      refine Ev.get (pc := 78) (C0 := RX9) (T := TX9) (N := 31) (fl_29_18 _ _ _ _) rfl inX9_nextOf (by decide) lkX9_nextOf_78 dX9_nextOf_78 ?_
      refine Ev.goto (pc := 81) (tgt := 88) dX9_nextOf_81 (by decide) ?_
      refine Ev.put (pc := 88) (C0 := RX9) (T := TX9) (N := 31) (ty := .int) (pu_29_19 _ _ _ _ _) rfl inX9_nextOf tyX9_ok nmX9 (by decide) lkX9_nextOf_75 rfl (by decide +kernel) (fun _ => rfl) (fun _ => rfl) dX9_nextOf_88 ?_
      refine Ev.iconst (pc := 91) (v := nI 0) dX9_nextOf_91 (by decide) ?_
      cases hr
      exact Ev.iret rfl rfl dX9_nextOf_92 ⟨rfl, rfl⟩
  · have hr := ifn hr c_3
    refine Ev.iload (pc := 54) dX9_nextOf_54 rfl ?_
    refine Ev.i2l (pc := 56) dX9_nextOf_56 ?_
    refine Ev.iload_n (pc := 57) dX9_nextOf_57 rfl ?_
    refine Ev.i2l (pc := 58) dX9_nextOf_58 ?_
    refine Ev.iload_n (pc := 59) dX9_nextOf_59 rfl ?_
    refine Ev.i2l (pc := 60) dX9_nextOf_60 ?_
    refine Ev.cSi (pc := 61) (As := [.long _, .long _, .long _]) (kX9_in _ _ _ _ _ _ _) rfl gX9_nextOf_X9_in hdX9_in rfl ⟨rfl, rfl⟩ ⟨Nat.le_of_ble_eq_true rfl, Nat.le_of_ble_eq_true rfl⟩ (Nat.le_of_ble_eq_true rfl) ⟨Nat.le_of_ble_eq_true rfl, Nat.le_of_ble_eq_true rfl⟩ dX9_nextOf_61 ?_
    refine Ev.ifneB (pc := 64) (tgt := 93) dX9_nextOf_64 (by decide) (fun c_5 => ?_) (fun c_5 => ?_)
    · have hr := ifp hr c_5
      refine Ev.aload_n (pc := 93) dX9_nextOf_93 rfl ?_
      refine Ev.dup (pc := 94) dX9_nextOf_94 rfl ?_
      refine Ev.get (pc := 95) (C0 := RX9) (T := TX9) (N := 31) (fl_29_18 _ _ _ _) rfl inX9_nextOf (by decide) lkX9_nextOf_78 dX9_nextOf_95 ?_
      refine Ev.iconst (pc := 98) (v := nI 1) dX9_nextOf_98 (by decide) ?_
      refine Ev.iadd (pc := 99) dX9_nextOf_99 ?_
      refine Ev.put (pc := 100) (C0 := RX9) (T := TX9) (N := 31) (ty := .int) (pu_29_18 _ _ _ _ _) rfl inX9_nextOf tyX9_ok nmX9 (by decide) lkX9_nextOf_78 rfl (by decide +kernel) (fun _ => rfl) (fun _ => rfl) dX9_nextOf_100 ?_
      refine Ev.iload (pc := 103) dX9_nextOf_103 rfl ?_
      cases hr
      exact Ev.iret rfl rfl dX9_nextOf_105 ⟨rfl, rfl⟩
    · have hr := ifn hr (ntr c_5)
      refine Ev.aload_n (pc := 67) dX9_nextOf_67 rfl ?_
      refine Ev.aload_n (pc := 68) dX9_nextOf_68 rfl ?_
      refine Ev.get (pc := 69) (C0 := RX9) (T := TX9) (N := 31) (fl_29_19 _ _ _ _) rfl inX9_nextOf (by decide) lkX9_nextOf_75 dX9_nextOf_69 ?_
      refine Ev.bipush (pc := 72) (v := (-9)) dX9_nextOf_72 (by decide) ?_
      refine Ev.icmpne (pc := 74) (tgt := 84) dX9_nextOf_74 (by decide) (fun c_6 => ?_) (fun c_6 => ?_)
      · have hr := ifn hr c_6
        refine Ev.aload_n (pc := 84) dX9_nextOf_84 rfl ?_
        refine Ev.get (pc := 85) (C0 := RX9) (T := TX9) (N := 31) (fl_29_19 _ _ _ _) rfl inX9_nextOf (by decide) lkX9_nextOf_75 dX9_nextOf_85 ?_
        refine Ev.put (pc := 88) (C0 := RX9) (T := TX9) (N := 31) (ty := .int) (pu_29_19 _ _ _ _ _) rfl inX9_nextOf tyX9_ok nmX9 (by decide) lkX9_nextOf_75 rfl (by decide +kernel) (fun _ => rfl) (fun _ => rfl) dX9_nextOf_88 ?_
        refine Ev.iconst (pc := 91) (v := nI 0) dX9_nextOf_91 (by decide) ?_
        cases hr
        exact Ev.iret rfl rfl dX9_nextOf_92 ⟨rfl, rfl⟩
      · have hr := ifp hr c_6
        refine Ev.aload_n (pc := 77) dX9_nextOf_77 rfl ?_
        refine Ev.get (pc := 78) (C0 := RX9) (T := TX9) (N := 31) (fl_29_18 _ _ _ _) rfl inX9_nextOf (by decide) lkX9_nextOf_78 dX9_nextOf_78 ?_
        refine Ev.goto (pc := 81) (tgt := 88) dX9_nextOf_81 (by decide) ?_
        refine Ev.put (pc := 88) (C0 := RX9) (T := TX9) (N := 31) (ty := .int) (pu_29_19 _ _ _ _ _) rfl inX9_nextOf tyX9_ok nmX9 (by decide) lkX9_nextOf_75 rfl (by decide +kernel) (fun _ => rfl) (fun _ => rfl) dX9_nextOf_88 ?_
        refine Ev.iconst (pc := 91) (v := nI 0) dX9_nextOf_91 (by decide) ?_
        cases hr
        exact Ev.iret rfl rfl dX9_nextOf_92 ⟨rfl, rfl⟩
def sX9_nextOf_j27 (g2 : Hg) (v1 : Int32) (v2 : Int32) (v3 : Int32) (v4 : Int32) : Option (Int32 × Hg) := if v4 = 0 then (sX9_nextOf_j49 g2 v1 v2 v3 v4 (nI 0)) else (if inb (g2 29 18) 60 = true then (sX9_nextOf_j49 g2 v1 v2 v3 v4 ((g2 40 (Int32.toNatClampNeg (g2 29 18))) - v1)) else none)
set_option maxRecDepth 20000 in
set_option maxHeartbeats 1000000 in
theorem kX9_nextOf_j27 (g : Hg) (q : Int64) (g2 : Hg) (q2 : Int64)  (v1 : Int32) (v2 : Int32) (v3 : Int32) (v4 : Int32) {r : Int32 × Hg} (hr : sX9_nextOf_j27 g2 v1 v2 v3 v4 = some r) : Ev (Xi (fun x h' => x = r.1 ∧ h' = (g, q, r.2, q2))) MX9_nextOf 27 [some (.ref 29), some (.int v1), some (.int v2), some (.int v3), some (.int v4), none] [] (g, q, g2, q2) := by
  unfold sX9_nextOf_j27 at hr
  refine Ev.iload (pc := 27) dX9_nextOf_27 rfl ?_
  refine Ev.ifeq (pc := 29) (tgt := 46) dX9_nextOf_29 (by decide) (fun c_2 => ?_) (fun c_2 => ?_)
  · have hr := ifp hr c_2
    refine Ev.iconst (pc := 46) (v := nI 0) dX9_nextOf_46 (by decide) ?_
    refine Ev.istore (pc := 47) dX9_nextOf_47 rfl rfl ?_
    exact kX9_nextOf_j49 _ _ _ _ _ _ _ _ _ hr
  · have hr := ifn hr c_2
    refine Ev.aload_n (pc := 32) dX9_nextOf_32 rfl ?_
    refine Ev.get (pc := 33) (C0 := RX9) (T := TX9) (N := 31) (fl_29_16 _ _ _ _) rfl inX9_nextOf (by decide) lkX9_nextOf_40 dX9_nextOf_33 ?_
    refine Ev.aload_n (pc := 36) dX9_nextOf_36 rfl ?_
    refine Ev.get (pc := 37) (C0 := RX9) (T := TX9) (N := 31) (fl_29_18 _ _ _ _) rfl inX9_nextOf (by decide) lkX9_nextOf_78 dX9_nextOf_37 ?_
    obtain ⟨c_7, hr⟩ := ckB hr
    refine Ev.iald (pc := 40) (ar_40 _ _ _ _) (inb_in c_7) dX9_nextOf_40 ?_
    refine Ev.iload_n (pc := 41) dX9_nextOf_41 rfl ?_
    refine Ev.isub (pc := 42) dX9_nextOf_42 ?_
    refine Ev.goto (pc := 43) (tgt := 47) dX9_nextOf_43 (by decide) ?_
    refine Ev.istore (pc := 47) dX9_nextOf_47 rfl rfl ?_
    exact kX9_nextOf_j49 _ _ _ _ _ _ _ _ _ hr
def sX9_nextOf (g2 : Hg) (a1 : Int32) (a2 : Int32) (a3 : Int32) : Option (Int32 × Hg) := if (g2 29 19) = ((-9)) then (if (g2 29 17) ≤ (g2 29 18) then (sX9_nextOf_j27 g2 a1 a2 a3 (nI 0)) else (sX9_nextOf_j27 g2 a1 a2 a3 (nI 1))) else (sX9_nextOf_j27 g2 a1 a2 a3 (nI 0))
set_option maxRecDepth 20000 in
set_option maxHeartbeats 1000000 in
theorem kX9_nextOf (g : Hg) (q : Int64) (g2 : Hg) (q2 : Int64) (a1 : Int32) (a2 : Int32) (a3 : Int32) {r : Int32 × Hg} (hr : sX9_nextOf g2 a1 a2 a3 = some r) : CtI MX9_nextOf [.ref 29, .int a1, .int a2, .int a3] (g, q, g2, q2) (fun x h' => x = r.1 ∧ h' = (g, q, r.2, q2)) := by
  unfold sX9_nextOf at hr
  refine CtI_L 2 rfl (by decide +kernel) rfl (Nat.le_of_ble_eq_true rfl) ?_
  show Ev _ _ 0 [some (.ref 29), some (.int a1), some (.int a2), some (.int a3), none, none] [] _
  refine Ev.aload_n (pc := 0) dX9_nextOf_0 rfl ?_
  refine Ev.get (pc := 1) (C0 := RX9) (T := TX9) (N := 31) (fl_29_19 _ _ _ _) rfl inX9_nextOf (by decide) lkX9_nextOf_75 dX9_nextOf_1 ?_
  refine Ev.bipush (pc := 4) (v := (-9)) dX9_nextOf_4 (by decide) ?_
  refine Ev.icmpne (pc := 6) (tgt := 24) dX9_nextOf_6 (by decide) (fun c_1 => ?_) (fun c_1 => ?_)
  · have hr := ifn hr c_1
    refine Ev.iconst (pc := 24) (v := nI 0) dX9_nextOf_24 (by decide) ?_
    refine Ev.istore (pc := 25) dX9_nextOf_25 rfl rfl ?_
    exact kX9_nextOf_j27 _ _ _ _ _ _ _ _ hr
  · have hr := ifp hr c_1
    refine Ev.aload_n (pc := 9) dX9_nextOf_9 rfl ?_
    refine Ev.get (pc := 10) (C0 := RX9) (T := TX9) (N := 31) (fl_29_18 _ _ _ _) rfl inX9_nextOf (by decide) lkX9_nextOf_78 dX9_nextOf_10 ?_
    refine Ev.aload_n (pc := 13) dX9_nextOf_13 rfl ?_
    refine Ev.get (pc := 14) (C0 := RX9) (T := TX9) (N := 31) (fl_29_17 _ _ _ _) rfl inX9_nextOf (by decide) lkX9_nextOf_71 dX9_nextOf_14 ?_
    refine Ev.icmpge (pc := 17) (tgt := 24) dX9_nextOf_17 (by decide) (fun c_8 => ?_) (fun c_8 => ?_)
    · have hr := ifp hr c_8
      refine Ev.iconst (pc := 24) (v := nI 0) dX9_nextOf_24 (by decide) ?_
      refine Ev.istore (pc := 25) dX9_nextOf_25 rfl rfl ?_
      exact kX9_nextOf_j27 _ _ _ _ _ _ _ _ hr
    · have hr := ifn hr c_8
      refine Ev.iconst (pc := 20) (v := nI 1) dX9_nextOf_20 (by decide) ?_
      refine Ev.goto (pc := 21) (tgt := 25) dX9_nextOf_21 (by decide) ?_
      refine Ev.istore (pc := 25) dX9_nextOf_25 rfl rfl ?_
      exact kX9_nextOf_j27 _ _ _ _ _ _ _ _ hr
/-! X9_readPart -/
def sX9_readPart (g2 : Hg) (a1 : Int32) : Option (Hg) := if a1 = (nI 87) then (if (nI 6) ≤ (g2 29 13) then (if a1 = (nI 70) then (if (nI 5) ≤ (g2 29 14) then (if a1 = (nI 76) then (if (nI 4) ≤ (g2 29 15) then (some (stA g2 29 19 (g2 29 18))) else ((sX9_nextOf (stA g2 29 18 ((g2 29 18) + (nI 1))) (nI 97) (nI 0) (nI 11)).bind fun x_10 => (if inb ((nI 2) * ((stA g2 29 18 ((g2 29 18) + (nI 1))) 29 15)) 8 = true then ((sX9_nextOf (stA x_10.2 39 (Int32.toNatClampNeg ((nI 2) * ((stA g2 29 18 ((g2 29 18) + (nI 1))) 29 15))) x_10.1) (nI 48) (nI 0) (nI 3)).bind fun x_11 => (if inb (((nI 2) * ((stA x_10.2 39 (Int32.toNatClampNeg ((nI 2) * ((stA g2 29 18 ((g2 29 18) + (nI 1))) 29 15))) x_10.1) 29 15)) + (nI 1)) 8 = true then (some (stA (stA x_11.2 39 (Int32.toNatClampNeg (((nI 2) * ((stA x_10.2 39 (Int32.toNatClampNeg ((nI 2) * ((stA g2 29 18 ((g2 29 18) + (nI 1))) 29 15))) x_10.1) 29 15)) + (nI 1))) x_11.1) 29 15 (((stA x_11.2 39 (Int32.toNatClampNeg (((nI 2) * ((stA x_10.2 39 (Int32.toNatClampNeg ((nI 2) * ((stA g2 29 18 ((g2 29 18) + (nI 1))) 29 15))) x_10.1) 29 15)) + (nI 1))) x_11.1) 29 15) + (nI 1)))) else none)) else none))) else (some (stA g2 29 19 (g2 29 18)))) else ((sX9_nextOf (stA g2 29 18 ((g2 29 18) + (nI 1))) (nI 97) (nI 0) (nI 11)).bind fun x_12 => (if inb ((nI 3) * ((stA g2 29 18 ((g2 29 18) + (nI 1))) 29 14)) 15 = true then ((sX9_nextOf (stA x_12.2 38 (Int32.toNatClampNeg ((nI 3) * ((stA g2 29 18 ((g2 29 18) + (nI 1))) 29 14))) x_12.1) (nI 48) (nI 1) (nI 9)).bind fun x_13 => (if inb (((nI 3) * ((stA x_12.2 38 (Int32.toNatClampNeg ((nI 3) * ((stA g2 29 18 ((g2 29 18) + (nI 1))) 29 14))) x_12.1) 29 14)) + (nI 1)) 15 = true then ((sX9_nextOf (stA x_13.2 38 (Int32.toNatClampNeg (((nI 3) * ((stA x_12.2 38 (Int32.toNatClampNeg ((nI 3) * ((stA g2 29 18 ((g2 29 18) + (nI 1))) 29 14))) x_12.1) 29 14)) + (nI 1))) x_13.1) (nI 48) (nI 0) (nI 3)).bind fun x_14 => (if inb (((nI 3) * ((stA x_13.2 38 (Int32.toNatClampNeg (((nI 3) * ((stA x_12.2 38 (Int32.toNatClampNeg ((nI 3) * ((stA g2 29 18 ((g2 29 18) + (nI 1))) 29 14))) x_12.1) 29 14)) + (nI 1))) x_13.1) 29 14)) + (nI 2)) 15 = true then (some (stA (stA x_14.2 38 (Int32.toNatClampNeg (((nI 3) * ((stA x_13.2 38 (Int32.toNatClampNeg (((nI 3) * ((stA x_12.2 38 (Int32.toNatClampNeg ((nI 3) * ((stA g2 29 18 ((g2 29 18) + (nI 1))) 29 14))) x_12.1) 29 14)) + (nI 1))) x_13.1) 29 14)) + (nI 2))) x_14.1) 29 14 (((stA x_14.2 38 (Int32.toNatClampNeg (((nI 3) * ((stA x_13.2 38 (Int32.toNatClampNeg (((nI 3) * ((stA x_12.2 38 (Int32.toNatClampNeg ((nI 3) * ((stA g2 29 18 ((g2 29 18) + (nI 1))) 29 14))) x_12.1) 29 14)) + (nI 1))) x_13.1) 29 14)) + (nI 2))) x_14.1) 29 14) + (nI 1)))) else none)) else none)) else none))) else (if a1 = (nI 76) then (if (nI 4) ≤ (g2 29 15) then (some (stA g2 29 19 (g2 29 18))) else ((sX9_nextOf (stA g2 29 18 ((g2 29 18) + (nI 1))) (nI 97) (nI 0) (nI 11)).bind fun x_8 => (if inb ((nI 2) * ((stA g2 29 18 ((g2 29 18) + (nI 1))) 29 15)) 8 = true then ((sX9_nextOf (stA x_8.2 39 (Int32.toNatClampNeg ((nI 2) * ((stA g2 29 18 ((g2 29 18) + (nI 1))) 29 15))) x_8.1) (nI 48) (nI 0) (nI 3)).bind fun x_9 => (if inb (((nI 2) * ((stA x_8.2 39 (Int32.toNatClampNeg ((nI 2) * ((stA g2 29 18 ((g2 29 18) + (nI 1))) 29 15))) x_8.1) 29 15)) + (nI 1)) 8 = true then (some (stA (stA x_9.2 39 (Int32.toNatClampNeg (((nI 2) * ((stA x_8.2 39 (Int32.toNatClampNeg ((nI 2) * ((stA g2 29 18 ((g2 29 18) + (nI 1))) 29 15))) x_8.1) 29 15)) + (nI 1))) x_9.1) 29 15 (((stA x_9.2 39 (Int32.toNatClampNeg (((nI 2) * ((stA x_8.2 39 (Int32.toNatClampNeg ((nI 2) * ((stA g2 29 18 ((g2 29 18) + (nI 1))) 29 15))) x_8.1) 29 15)) + (nI 1))) x_9.1) 29 15) + (nI 1)))) else none)) else none))) else (some (stA g2 29 19 (g2 29 18))))) else ((sX9_nextOf (stA g2 29 18 ((g2 29 18) + (nI 1))) (nI 48) (nI 0) (nI 9)).bind fun x_15 => (if inb ((stA g2 29 18 ((g2 29 18) + (nI 1))) 29 13) 6 = true then (some (stA (stA x_15.2 37 (Int32.toNatClampNeg ((stA g2 29 18 ((g2 29 18) + (nI 1))) 29 13)) x_15.1) 29 13 (((stA x_15.2 37 (Int32.toNatClampNeg ((stA g2 29 18 ((g2 29 18) + (nI 1))) 29 13)) x_15.1) 29 13) + (nI 1)))) else none))) else (if a1 = (nI 70) then (if (nI 5) ≤ (g2 29 14) then (if a1 = (nI 76) then (if (nI 4) ≤ (g2 29 15) then (some (stA g2 29 19 (g2 29 18))) else ((sX9_nextOf (stA g2 29 18 ((g2 29 18) + (nI 1))) (nI 97) (nI 0) (nI 11)).bind fun x_3 => (if inb ((nI 2) * ((stA g2 29 18 ((g2 29 18) + (nI 1))) 29 15)) 8 = true then ((sX9_nextOf (stA x_3.2 39 (Int32.toNatClampNeg ((nI 2) * ((stA g2 29 18 ((g2 29 18) + (nI 1))) 29 15))) x_3.1) (nI 48) (nI 0) (nI 3)).bind fun x_4 => (if inb (((nI 2) * ((stA x_3.2 39 (Int32.toNatClampNeg ((nI 2) * ((stA g2 29 18 ((g2 29 18) + (nI 1))) 29 15))) x_3.1) 29 15)) + (nI 1)) 8 = true then (some (stA (stA x_4.2 39 (Int32.toNatClampNeg (((nI 2) * ((stA x_3.2 39 (Int32.toNatClampNeg ((nI 2) * ((stA g2 29 18 ((g2 29 18) + (nI 1))) 29 15))) x_3.1) 29 15)) + (nI 1))) x_4.1) 29 15 (((stA x_4.2 39 (Int32.toNatClampNeg (((nI 2) * ((stA x_3.2 39 (Int32.toNatClampNeg ((nI 2) * ((stA g2 29 18 ((g2 29 18) + (nI 1))) 29 15))) x_3.1) 29 15)) + (nI 1))) x_4.1) 29 15) + (nI 1)))) else none)) else none))) else (some (stA g2 29 19 (g2 29 18)))) else ((sX9_nextOf (stA g2 29 18 ((g2 29 18) + (nI 1))) (nI 97) (nI 0) (nI 11)).bind fun x_5 => (if inb ((nI 3) * ((stA g2 29 18 ((g2 29 18) + (nI 1))) 29 14)) 15 = true then ((sX9_nextOf (stA x_5.2 38 (Int32.toNatClampNeg ((nI 3) * ((stA g2 29 18 ((g2 29 18) + (nI 1))) 29 14))) x_5.1) (nI 48) (nI 1) (nI 9)).bind fun x_6 => (if inb (((nI 3) * ((stA x_5.2 38 (Int32.toNatClampNeg ((nI 3) * ((stA g2 29 18 ((g2 29 18) + (nI 1))) 29 14))) x_5.1) 29 14)) + (nI 1)) 15 = true then ((sX9_nextOf (stA x_6.2 38 (Int32.toNatClampNeg (((nI 3) * ((stA x_5.2 38 (Int32.toNatClampNeg ((nI 3) * ((stA g2 29 18 ((g2 29 18) + (nI 1))) 29 14))) x_5.1) 29 14)) + (nI 1))) x_6.1) (nI 48) (nI 0) (nI 3)).bind fun x_7 => (if inb (((nI 3) * ((stA x_6.2 38 (Int32.toNatClampNeg (((nI 3) * ((stA x_5.2 38 (Int32.toNatClampNeg ((nI 3) * ((stA g2 29 18 ((g2 29 18) + (nI 1))) 29 14))) x_5.1) 29 14)) + (nI 1))) x_6.1) 29 14)) + (nI 2)) 15 = true then (some (stA (stA x_7.2 38 (Int32.toNatClampNeg (((nI 3) * ((stA x_6.2 38 (Int32.toNatClampNeg (((nI 3) * ((stA x_5.2 38 (Int32.toNatClampNeg ((nI 3) * ((stA g2 29 18 ((g2 29 18) + (nI 1))) 29 14))) x_5.1) 29 14)) + (nI 1))) x_6.1) 29 14)) + (nI 2))) x_7.1) 29 14 (((stA x_7.2 38 (Int32.toNatClampNeg (((nI 3) * ((stA x_6.2 38 (Int32.toNatClampNeg (((nI 3) * ((stA x_5.2 38 (Int32.toNatClampNeg ((nI 3) * ((stA g2 29 18 ((g2 29 18) + (nI 1))) 29 14))) x_5.1) 29 14)) + (nI 1))) x_6.1) 29 14)) + (nI 2))) x_7.1) 29 14) + (nI 1)))) else none)) else none)) else none))) else (if a1 = (nI 76) then (if (nI 4) ≤ (g2 29 15) then (some (stA g2 29 19 (g2 29 18))) else ((sX9_nextOf (stA g2 29 18 ((g2 29 18) + (nI 1))) (nI 97) (nI 0) (nI 11)).bind fun x_1 => (if inb ((nI 2) * ((stA g2 29 18 ((g2 29 18) + (nI 1))) 29 15)) 8 = true then ((sX9_nextOf (stA x_1.2 39 (Int32.toNatClampNeg ((nI 2) * ((stA g2 29 18 ((g2 29 18) + (nI 1))) 29 15))) x_1.1) (nI 48) (nI 0) (nI 3)).bind fun x_2 => (if inb (((nI 2) * ((stA x_1.2 39 (Int32.toNatClampNeg ((nI 2) * ((stA g2 29 18 ((g2 29 18) + (nI 1))) 29 15))) x_1.1) 29 15)) + (nI 1)) 8 = true then (some (stA (stA x_2.2 39 (Int32.toNatClampNeg (((nI 2) * ((stA x_1.2 39 (Int32.toNatClampNeg ((nI 2) * ((stA g2 29 18 ((g2 29 18) + (nI 1))) 29 15))) x_1.1) 29 15)) + (nI 1))) x_2.1) 29 15 (((stA x_2.2 39 (Int32.toNatClampNeg (((nI 2) * ((stA x_1.2 39 (Int32.toNatClampNeg ((nI 2) * ((stA g2 29 18 ((g2 29 18) + (nI 1))) 29 15))) x_1.1) 29 15)) + (nI 1))) x_2.1) 29 15) + (nI 1)))) else none)) else none))) else (some (stA g2 29 19 (g2 29 18)))))
set_option maxRecDepth 20000 in
set_option maxHeartbeats 1000000 in
theorem kX9_readPart (g : Hg) (q : Int64) (g2 : Hg) (q2 : Int64) (a1 : Int32) {r : Hg} (hr : sX9_readPart g2 a1 = some r) : CtV MX9_readPart [.ref 29, .int a1] (g, q, g2, q2) (fun h' => h' = (g, q, r, q2)) := by
  unfold sX9_readPart at hr
  refine CtV_L 0 rfl (by decide +kernel) rfl (Nat.le_of_ble_eq_true rfl) ?_
  show Ev _ _ 0 [some (.ref 29), some (.int a1)] [] _
  refine Ev.iload_n (pc := 0) dX9_readPart_0 rfl ?_
  refine Ev.bipush (pc := 1) (v := nI 87) dX9_readPart_1 (by decide) ?_
  refine Ev.icmpne (pc := 3) (tgt := 56) dX9_readPart_3 (by decide) (fun c_1 => ?_) (fun c_1 => ?_)
  · have hr := ifn hr c_1
    refine Ev.iload_n (pc := 56) dX9_readPart_56 rfl ?_
    refine Ev.bipush (pc := 57) (v := nI 70) dX9_readPart_57 (by decide) ?_
    refine Ev.icmpne (pc := 59) (tgt := 156) dX9_readPart_59 (by decide) (fun c_2 => ?_) (fun c_2 => ?_)
    · have hr := ifn hr c_2
      refine Ev.iload_n (pc := 156) dX9_readPart_156 rfl ?_
      refine Ev.bipush (pc := 157) (v := nI 76) dX9_readPart_157 (by decide) ?_
      refine Ev.icmpne (pc := 159) (tgt := 234) dX9_readPart_159 (by decide) (fun c_3 => ?_) (fun c_3 => ?_)
      · have hr := ifn hr c_3
        refine Ev.aload_n (pc := 234) dX9_readPart_234 rfl ?_
        refine Ev.aload_n (pc := 235) dX9_readPart_235 rfl ?_
        refine Ev.get (pc := 236) (C0 := RX9) (T := TX9) (N := 31) (fl_29_18 _ _ _ _) rfl inX9_readPart (by decide) lkX9_readPart_78 dX9_readPart_236 ?_
        refine Ev.put (pc := 239) (C0 := RX9) (T := TX9) (N := 31) (ty := .int) (pu_29_19 _ _ _ _ _) rfl inX9_readPart tyX9_ok nmX9 (by decide) lkX9_readPart_75 rfl (by decide +kernel) (fun _ => rfl) (fun _ => rfl) dX9_readPart_239 ?_
        cases hr
        exact Ev.vret rfl dX9_readPart_242 rfl
      · have hr := ifp hr c_3
        refine Ev.aload_n (pc := 162) dX9_readPart_162 rfl ?_
        refine Ev.get (pc := 163) (C0 := RX9) (T := TX9) (N := 31) (fl_29_15 _ _ _ _) rfl inX9_readPart (by decide) lkX9_readPart_87 dX9_readPart_163 ?_
        refine Ev.iconst (pc := 166) (v := nI 4) dX9_readPart_166 (by decide) ?_
        refine Ev.icmpge (pc := 167) (tgt := 234) dX9_readPart_167 (by decide) (fun c_4 => ?_) (fun c_4 => ?_)
        · have hr := ifp hr c_4
          refine Ev.aload_n (pc := 234) dX9_readPart_234 rfl ?_
          refine Ev.aload_n (pc := 235) dX9_readPart_235 rfl ?_
          refine Ev.get (pc := 236) (C0 := RX9) (T := TX9) (N := 31) (fl_29_18 _ _ _ _) rfl inX9_readPart (by decide) lkX9_readPart_78 dX9_readPart_236 ?_
          refine Ev.put (pc := 239) (C0 := RX9) (T := TX9) (N := 31) (ty := .int) (pu_29_19 _ _ _ _ _) rfl inX9_readPart tyX9_ok nmX9 (by decide) lkX9_readPart_75 rfl (by decide +kernel) (fun _ => rfl) (fun _ => rfl) dX9_readPart_239 ?_
          cases hr
          exact Ev.vret rfl dX9_readPart_242 rfl
        · have hr := ifn hr c_4
          refine Ev.aload_n (pc := 170) dX9_readPart_170 rfl ?_
          refine Ev.dup (pc := 171) dX9_readPart_171 rfl ?_
          refine Ev.get (pc := 172) (C0 := RX9) (T := TX9) (N := 31) (fl_29_18 _ _ _ _) rfl inX9_readPart (by decide) lkX9_readPart_78 dX9_readPart_172 ?_
          refine Ev.iconst (pc := 175) (v := nI 1) dX9_readPart_175 (by decide) ?_
          refine Ev.iadd (pc := 176) dX9_readPart_176 ?_
          refine Ev.put (pc := 177) (C0 := RX9) (T := TX9) (N := 31) (ty := .int) (pu_29_18 _ _ _ _ _) rfl inX9_readPart tyX9_ok nmX9 (by decide) lkX9_readPart_78 rfl (by decide +kernel) (fun _ => rfl) (fun _ => rfl) dX9_readPart_177 ?_
          refine Ev.aload_n (pc := 180) dX9_readPart_180 rfl ?_
          refine Ev.get (pc := 181) (C0 := RX9) (T := TX9) (N := 31) (fl_29_12 _ _ _ _) rfl inX9_readPart (by decide) lkX9_readPart_37 dX9_readPart_181 ?_
          refine Ev.iconst (pc := 184) (v := nI 2) dX9_readPart_184 (by decide) ?_
          refine Ev.aload_n (pc := 185) dX9_readPart_185 rfl ?_
          refine Ev.get (pc := 186) (C0 := RX9) (T := TX9) (N := 31) (fl_29_15 _ _ _ _) rfl inX9_readPart (by decide) lkX9_readPart_87 dX9_readPart_186 ?_
          refine Ev.imul (pc := 189) dX9_readPart_189 ?_
          refine Ev.aload_n (pc := 190) dX9_readPart_190 rfl ?_
          refine Ev.bipush (pc := 191) (v := nI 97) dX9_readPart_191 (by decide) ?_
          refine Ev.iconst (pc := 193) (v := nI 0) dX9_readPart_193 (by decide) ?_
          refine Ev.bipush (pc := 194) (v := nI 11) dX9_readPart_194 (by decide) ?_
          obtain ⟨x_1, hx_1, hr⟩ := Option.bind_eq_some_iff.mp hr
          refine Ev.cVi (pc := 196) (As := [.int _, .int _, .int _]) (kX9_nextOf _ _ _ _ _ _ _ hx_1) rfl rfl (ob_29 _) gX9_readPart_X9_nextOf hdX9_nextOf rfl ⟨rfl, rfl⟩ ⟨Nat.le_of_ble_eq_true rfl, Nat.le_of_ble_eq_true rfl⟩ (Nat.le_of_ble_eq_true rfl) ⟨Nat.le_of_ble_eq_true rfl, Nat.le_of_ble_eq_true rfl⟩ dX9_readPart_196 ?_
          obtain ⟨c_5, hr⟩ := ckB hr
          refine Ev.iast (pc := 199) (ar_39 _ _ _ _) (inb_in c_5) (se_39 _ _ _ _ _) dX9_readPart_199 ?_
          refine Ev.aload_n (pc := 200) dX9_readPart_200 rfl ?_
          refine Ev.get (pc := 201) (C0 := RX9) (T := TX9) (N := 31) (fl_29_12 _ _ _ _) rfl inX9_readPart (by decide) lkX9_readPart_37 dX9_readPart_201 ?_
          refine Ev.iconst (pc := 204) (v := nI 2) dX9_readPart_204 (by decide) ?_
          refine Ev.aload_n (pc := 205) dX9_readPart_205 rfl ?_
          refine Ev.get (pc := 206) (C0 := RX9) (T := TX9) (N := 31) (fl_29_15 _ _ _ _) rfl inX9_readPart (by decide) lkX9_readPart_87 dX9_readPart_206 ?_
          refine Ev.imul (pc := 209) dX9_readPart_209 ?_
          refine Ev.iconst (pc := 210) (v := nI 1) dX9_readPart_210 (by decide) ?_
          refine Ev.iadd (pc := 211) dX9_readPart_211 ?_
          refine Ev.aload_n (pc := 212) dX9_readPart_212 rfl ?_
          refine Ev.bipush (pc := 213) (v := nI 48) dX9_readPart_213 (by decide) ?_
          refine Ev.iconst (pc := 215) (v := nI 0) dX9_readPart_215 (by decide) ?_
          refine Ev.iconst (pc := 216) (v := nI 3) dX9_readPart_216 (by decide) ?_
          obtain ⟨x_2, hx_2, hr⟩ := Option.bind_eq_some_iff.mp hr
          refine Ev.cVi (pc := 217) (As := [.int _, .int _, .int _]) (kX9_nextOf _ _ _ _ _ _ _ hx_2) rfl rfl (ob_29 _) gX9_readPart_X9_nextOf hdX9_nextOf rfl ⟨rfl, rfl⟩ ⟨Nat.le_of_ble_eq_true rfl, Nat.le_of_ble_eq_true rfl⟩ (Nat.le_of_ble_eq_true rfl) ⟨Nat.le_of_ble_eq_true rfl, Nat.le_of_ble_eq_true rfl⟩ dX9_readPart_217 ?_
          obtain ⟨c_6, hr⟩ := ckB hr
          refine Ev.iast (pc := 220) (ar_39 _ _ _ _) (inb_in c_6) (se_39 _ _ _ _ _) dX9_readPart_220 ?_
          refine Ev.aload_n (pc := 221) dX9_readPart_221 rfl ?_
          refine Ev.dup (pc := 222) dX9_readPart_222 rfl ?_
          refine Ev.get (pc := 223) (C0 := RX9) (T := TX9) (N := 31) (fl_29_15 _ _ _ _) rfl inX9_readPart (by decide) lkX9_readPart_87 dX9_readPart_223 ?_
          refine Ev.iconst (pc := 226) (v := nI 1) dX9_readPart_226 (by decide) ?_
          refine Ev.iadd (pc := 227) dX9_readPart_227 ?_
          refine Ev.put (pc := 228) (C0 := RX9) (T := TX9) (N := 31) (ty := .int) (pu_29_15 _ _ _ _ _) rfl inX9_readPart tyX9_ok nmX9 (by decide) lkX9_readPart_87 rfl (by decide +kernel) (fun _ => rfl) (fun _ => rfl) dX9_readPart_228 ?_
          refine Ev.goto (pc := 231) (tgt := 242) dX9_readPart_231 (by decide) ?_
          cases hr
          exact Ev.vret rfl dX9_readPart_242 rfl
    · have hr := ifp hr c_2
      refine Ev.aload_n (pc := 62) dX9_readPart_62 rfl ?_
      refine Ev.get (pc := 63) (C0 := RX9) (T := TX9) (N := 31) (fl_29_14 _ _ _ _) rfl inX9_readPart (by decide) lkX9_readPart_84 dX9_readPart_63 ?_
      refine Ev.iconst (pc := 66) (v := nI 5) dX9_readPart_66 (by decide) ?_
      refine Ev.icmpge (pc := 67) (tgt := 156) dX9_readPart_67 (by decide) (fun c_7 => ?_) (fun c_7 => ?_)
      · have hr := ifp hr c_7
        refine Ev.iload_n (pc := 156) dX9_readPart_156 rfl ?_
        refine Ev.bipush (pc := 157) (v := nI 76) dX9_readPart_157 (by decide) ?_
        refine Ev.icmpne (pc := 159) (tgt := 234) dX9_readPart_159 (by decide) (fun c_8 => ?_) (fun c_8 => ?_)
        · have hr := ifn hr c_8
          refine Ev.aload_n (pc := 234) dX9_readPart_234 rfl ?_
          refine Ev.aload_n (pc := 235) dX9_readPart_235 rfl ?_
          refine Ev.get (pc := 236) (C0 := RX9) (T := TX9) (N := 31) (fl_29_18 _ _ _ _) rfl inX9_readPart (by decide) lkX9_readPart_78 dX9_readPart_236 ?_
          refine Ev.put (pc := 239) (C0 := RX9) (T := TX9) (N := 31) (ty := .int) (pu_29_19 _ _ _ _ _) rfl inX9_readPart tyX9_ok nmX9 (by decide) lkX9_readPart_75 rfl (by decide +kernel) (fun _ => rfl) (fun _ => rfl) dX9_readPart_239 ?_
          cases hr
          exact Ev.vret rfl dX9_readPart_242 rfl
        · have hr := ifp hr c_8
          refine Ev.aload_n (pc := 162) dX9_readPart_162 rfl ?_
          refine Ev.get (pc := 163) (C0 := RX9) (T := TX9) (N := 31) (fl_29_15 _ _ _ _) rfl inX9_readPart (by decide) lkX9_readPart_87 dX9_readPart_163 ?_
          refine Ev.iconst (pc := 166) (v := nI 4) dX9_readPart_166 (by decide) ?_
          refine Ev.icmpge (pc := 167) (tgt := 234) dX9_readPart_167 (by decide) (fun c_9 => ?_) (fun c_9 => ?_)
          · have hr := ifp hr c_9
            refine Ev.aload_n (pc := 234) dX9_readPart_234 rfl ?_
            refine Ev.aload_n (pc := 235) dX9_readPart_235 rfl ?_
            refine Ev.get (pc := 236) (C0 := RX9) (T := TX9) (N := 31) (fl_29_18 _ _ _ _) rfl inX9_readPart (by decide) lkX9_readPart_78 dX9_readPart_236 ?_
            refine Ev.put (pc := 239) (C0 := RX9) (T := TX9) (N := 31) (ty := .int) (pu_29_19 _ _ _ _ _) rfl inX9_readPart tyX9_ok nmX9 (by decide) lkX9_readPart_75 rfl (by decide +kernel) (fun _ => rfl) (fun _ => rfl) dX9_readPart_239 ?_
            cases hr
            exact Ev.vret rfl dX9_readPart_242 rfl
          · have hr := ifn hr c_9
            refine Ev.aload_n (pc := 170) dX9_readPart_170 rfl ?_
            refine Ev.dup (pc := 171) dX9_readPart_171 rfl ?_
            refine Ev.get (pc := 172) (C0 := RX9) (T := TX9) (N := 31) (fl_29_18 _ _ _ _) rfl inX9_readPart (by decide) lkX9_readPart_78 dX9_readPart_172 ?_
            refine Ev.iconst (pc := 175) (v := nI 1) dX9_readPart_175 (by decide) ?_
            refine Ev.iadd (pc := 176) dX9_readPart_176 ?_
            refine Ev.put (pc := 177) (C0 := RX9) (T := TX9) (N := 31) (ty := .int) (pu_29_18 _ _ _ _ _) rfl inX9_readPart tyX9_ok nmX9 (by decide) lkX9_readPart_78 rfl (by decide +kernel) (fun _ => rfl) (fun _ => rfl) dX9_readPart_177 ?_
            refine Ev.aload_n (pc := 180) dX9_readPart_180 rfl ?_
            refine Ev.get (pc := 181) (C0 := RX9) (T := TX9) (N := 31) (fl_29_12 _ _ _ _) rfl inX9_readPart (by decide) lkX9_readPart_37 dX9_readPart_181 ?_
            refine Ev.iconst (pc := 184) (v := nI 2) dX9_readPart_184 (by decide) ?_
            refine Ev.aload_n (pc := 185) dX9_readPart_185 rfl ?_
            refine Ev.get (pc := 186) (C0 := RX9) (T := TX9) (N := 31) (fl_29_15 _ _ _ _) rfl inX9_readPart (by decide) lkX9_readPart_87 dX9_readPart_186 ?_
            refine Ev.imul (pc := 189) dX9_readPart_189 ?_
            refine Ev.aload_n (pc := 190) dX9_readPart_190 rfl ?_
            refine Ev.bipush (pc := 191) (v := nI 97) dX9_readPart_191 (by decide) ?_
            refine Ev.iconst (pc := 193) (v := nI 0) dX9_readPart_193 (by decide) ?_
            refine Ev.bipush (pc := 194) (v := nI 11) dX9_readPart_194 (by decide) ?_
            obtain ⟨x_3, hx_3, hr⟩ := Option.bind_eq_some_iff.mp hr
            refine Ev.cVi (pc := 196) (As := [.int _, .int _, .int _]) (kX9_nextOf _ _ _ _ _ _ _ hx_3) rfl rfl (ob_29 _) gX9_readPart_X9_nextOf hdX9_nextOf rfl ⟨rfl, rfl⟩ ⟨Nat.le_of_ble_eq_true rfl, Nat.le_of_ble_eq_true rfl⟩ (Nat.le_of_ble_eq_true rfl) ⟨Nat.le_of_ble_eq_true rfl, Nat.le_of_ble_eq_true rfl⟩ dX9_readPart_196 ?_
            obtain ⟨c_10, hr⟩ := ckB hr
            refine Ev.iast (pc := 199) (ar_39 _ _ _ _) (inb_in c_10) (se_39 _ _ _ _ _) dX9_readPart_199 ?_
            refine Ev.aload_n (pc := 200) dX9_readPart_200 rfl ?_
            refine Ev.get (pc := 201) (C0 := RX9) (T := TX9) (N := 31) (fl_29_12 _ _ _ _) rfl inX9_readPart (by decide) lkX9_readPart_37 dX9_readPart_201 ?_
            refine Ev.iconst (pc := 204) (v := nI 2) dX9_readPart_204 (by decide) ?_
            refine Ev.aload_n (pc := 205) dX9_readPart_205 rfl ?_
            refine Ev.get (pc := 206) (C0 := RX9) (T := TX9) (N := 31) (fl_29_15 _ _ _ _) rfl inX9_readPart (by decide) lkX9_readPart_87 dX9_readPart_206 ?_
            refine Ev.imul (pc := 209) dX9_readPart_209 ?_
            refine Ev.iconst (pc := 210) (v := nI 1) dX9_readPart_210 (by decide) ?_
            refine Ev.iadd (pc := 211) dX9_readPart_211 ?_
            refine Ev.aload_n (pc := 212) dX9_readPart_212 rfl ?_
            refine Ev.bipush (pc := 213) (v := nI 48) dX9_readPart_213 (by decide) ?_
            refine Ev.iconst (pc := 215) (v := nI 0) dX9_readPart_215 (by decide) ?_
            refine Ev.iconst (pc := 216) (v := nI 3) dX9_readPart_216 (by decide) ?_
            obtain ⟨x_4, hx_4, hr⟩ := Option.bind_eq_some_iff.mp hr
            refine Ev.cVi (pc := 217) (As := [.int _, .int _, .int _]) (kX9_nextOf _ _ _ _ _ _ _ hx_4) rfl rfl (ob_29 _) gX9_readPart_X9_nextOf hdX9_nextOf rfl ⟨rfl, rfl⟩ ⟨Nat.le_of_ble_eq_true rfl, Nat.le_of_ble_eq_true rfl⟩ (Nat.le_of_ble_eq_true rfl) ⟨Nat.le_of_ble_eq_true rfl, Nat.le_of_ble_eq_true rfl⟩ dX9_readPart_217 ?_
            obtain ⟨c_11, hr⟩ := ckB hr
            refine Ev.iast (pc := 220) (ar_39 _ _ _ _) (inb_in c_11) (se_39 _ _ _ _ _) dX9_readPart_220 ?_
            refine Ev.aload_n (pc := 221) dX9_readPart_221 rfl ?_
            refine Ev.dup (pc := 222) dX9_readPart_222 rfl ?_
            refine Ev.get (pc := 223) (C0 := RX9) (T := TX9) (N := 31) (fl_29_15 _ _ _ _) rfl inX9_readPart (by decide) lkX9_readPart_87 dX9_readPart_223 ?_
            refine Ev.iconst (pc := 226) (v := nI 1) dX9_readPart_226 (by decide) ?_
            refine Ev.iadd (pc := 227) dX9_readPart_227 ?_
            refine Ev.put (pc := 228) (C0 := RX9) (T := TX9) (N := 31) (ty := .int) (pu_29_15 _ _ _ _ _) rfl inX9_readPart tyX9_ok nmX9 (by decide) lkX9_readPart_87 rfl (by decide +kernel) (fun _ => rfl) (fun _ => rfl) dX9_readPart_228 ?_
            refine Ev.goto (pc := 231) (tgt := 242) dX9_readPart_231 (by decide) ?_
            cases hr
            exact Ev.vret rfl dX9_readPart_242 rfl
      · have hr := ifn hr c_7
        refine Ev.aload_n (pc := 70) dX9_readPart_70 rfl ?_
        refine Ev.dup (pc := 71) dX9_readPart_71 rfl ?_
        refine Ev.get (pc := 72) (C0 := RX9) (T := TX9) (N := 31) (fl_29_18 _ _ _ _) rfl inX9_readPart (by decide) lkX9_readPart_78 dX9_readPart_72 ?_
        refine Ev.iconst (pc := 75) (v := nI 1) dX9_readPart_75 (by decide) ?_
        refine Ev.iadd (pc := 76) dX9_readPart_76 ?_
        refine Ev.put (pc := 77) (C0 := RX9) (T := TX9) (N := 31) (ty := .int) (pu_29_18 _ _ _ _ _) rfl inX9_readPart tyX9_ok nmX9 (by decide) lkX9_readPart_78 rfl (by decide +kernel) (fun _ => rfl) (fun _ => rfl) dX9_readPart_77 ?_
        refine Ev.aload_n (pc := 80) dX9_readPart_80 rfl ?_
        refine Ev.get (pc := 81) (C0 := RX9) (T := TX9) (N := 31) (fl_29_11 _ _ _ _) rfl inX9_readPart (by decide) lkX9_readPart_34 dX9_readPart_81 ?_
        refine Ev.iconst (pc := 84) (v := nI 3) dX9_readPart_84 (by decide) ?_
        refine Ev.aload_n (pc := 85) dX9_readPart_85 rfl ?_
        refine Ev.get (pc := 86) (C0 := RX9) (T := TX9) (N := 31) (fl_29_14 _ _ _ _) rfl inX9_readPart (by decide) lkX9_readPart_84 dX9_readPart_86 ?_
        refine Ev.imul (pc := 89) dX9_readPart_89 ?_
        refine Ev.aload_n (pc := 90) dX9_readPart_90 rfl ?_
        refine Ev.bipush (pc := 91) (v := nI 97) dX9_readPart_91 (by decide) ?_
        refine Ev.iconst (pc := 93) (v := nI 0) dX9_readPart_93 (by decide) ?_
        refine Ev.bipush (pc := 94) (v := nI 11) dX9_readPart_94 (by decide) ?_
        obtain ⟨x_5, hx_5, hr⟩ := Option.bind_eq_some_iff.mp hr
        refine Ev.cVi (pc := 96) (As := [.int _, .int _, .int _]) (kX9_nextOf _ _ _ _ _ _ _ hx_5) rfl rfl (ob_29 _) gX9_readPart_X9_nextOf hdX9_nextOf rfl ⟨rfl, rfl⟩ ⟨Nat.le_of_ble_eq_true rfl, Nat.le_of_ble_eq_true rfl⟩ (Nat.le_of_ble_eq_true rfl) ⟨Nat.le_of_ble_eq_true rfl, Nat.le_of_ble_eq_true rfl⟩ dX9_readPart_96 ?_
        obtain ⟨c_12, hr⟩ := ckB hr
        refine Ev.iast (pc := 99) (ar_38 _ _ _ _) (inb_in c_12) (se_38 _ _ _ _ _) dX9_readPart_99 ?_
        refine Ev.aload_n (pc := 100) dX9_readPart_100 rfl ?_
        refine Ev.get (pc := 101) (C0 := RX9) (T := TX9) (N := 31) (fl_29_11 _ _ _ _) rfl inX9_readPart (by decide) lkX9_readPart_34 dX9_readPart_101 ?_
        refine Ev.iconst (pc := 104) (v := nI 3) dX9_readPart_104 (by decide) ?_
        refine Ev.aload_n (pc := 105) dX9_readPart_105 rfl ?_
        refine Ev.get (pc := 106) (C0 := RX9) (T := TX9) (N := 31) (fl_29_14 _ _ _ _) rfl inX9_readPart (by decide) lkX9_readPart_84 dX9_readPart_106 ?_
        refine Ev.imul (pc := 109) dX9_readPart_109 ?_
        refine Ev.iconst (pc := 110) (v := nI 1) dX9_readPart_110 (by decide) ?_
        refine Ev.iadd (pc := 111) dX9_readPart_111 ?_
        refine Ev.aload_n (pc := 112) dX9_readPart_112 rfl ?_
        refine Ev.bipush (pc := 113) (v := nI 48) dX9_readPart_113 (by decide) ?_
        refine Ev.iconst (pc := 115) (v := nI 1) dX9_readPart_115 (by decide) ?_
        refine Ev.bipush (pc := 116) (v := nI 9) dX9_readPart_116 (by decide) ?_
        obtain ⟨x_6, hx_6, hr⟩ := Option.bind_eq_some_iff.mp hr
        refine Ev.cVi (pc := 118) (As := [.int _, .int _, .int _]) (kX9_nextOf _ _ _ _ _ _ _ hx_6) rfl rfl (ob_29 _) gX9_readPart_X9_nextOf hdX9_nextOf rfl ⟨rfl, rfl⟩ ⟨Nat.le_of_ble_eq_true rfl, Nat.le_of_ble_eq_true rfl⟩ (Nat.le_of_ble_eq_true rfl) ⟨Nat.le_of_ble_eq_true rfl, Nat.le_of_ble_eq_true rfl⟩ dX9_readPart_118 ?_
        obtain ⟨c_13, hr⟩ := ckB hr
        refine Ev.iast (pc := 121) (ar_38 _ _ _ _) (inb_in c_13) (se_38 _ _ _ _ _) dX9_readPart_121 ?_
        refine Ev.aload_n (pc := 122) dX9_readPart_122 rfl ?_
        refine Ev.get (pc := 123) (C0 := RX9) (T := TX9) (N := 31) (fl_29_11 _ _ _ _) rfl inX9_readPart (by decide) lkX9_readPart_34 dX9_readPart_123 ?_
        refine Ev.iconst (pc := 126) (v := nI 3) dX9_readPart_126 (by decide) ?_
        refine Ev.aload_n (pc := 127) dX9_readPart_127 rfl ?_
        refine Ev.get (pc := 128) (C0 := RX9) (T := TX9) (N := 31) (fl_29_14 _ _ _ _) rfl inX9_readPart (by decide) lkX9_readPart_84 dX9_readPart_128 ?_
        refine Ev.imul (pc := 131) dX9_readPart_131 ?_
        refine Ev.iconst (pc := 132) (v := nI 2) dX9_readPart_132 (by decide) ?_
        refine Ev.iadd (pc := 133) dX9_readPart_133 ?_
        refine Ev.aload_n (pc := 134) dX9_readPart_134 rfl ?_
        refine Ev.bipush (pc := 135) (v := nI 48) dX9_readPart_135 (by decide) ?_
        refine Ev.iconst (pc := 137) (v := nI 0) dX9_readPart_137 (by decide) ?_
        refine Ev.iconst (pc := 138) (v := nI 3) dX9_readPart_138 (by decide) ?_
        obtain ⟨x_7, hx_7, hr⟩ := Option.bind_eq_some_iff.mp hr
        refine Ev.cVi (pc := 139) (As := [.int _, .int _, .int _]) (kX9_nextOf _ _ _ _ _ _ _ hx_7) rfl rfl (ob_29 _) gX9_readPart_X9_nextOf hdX9_nextOf rfl ⟨rfl, rfl⟩ ⟨Nat.le_of_ble_eq_true rfl, Nat.le_of_ble_eq_true rfl⟩ (Nat.le_of_ble_eq_true rfl) ⟨Nat.le_of_ble_eq_true rfl, Nat.le_of_ble_eq_true rfl⟩ dX9_readPart_139 ?_
        obtain ⟨c_14, hr⟩ := ckB hr
        refine Ev.iast (pc := 142) (ar_38 _ _ _ _) (inb_in c_14) (se_38 _ _ _ _ _) dX9_readPart_142 ?_
        refine Ev.aload_n (pc := 143) dX9_readPart_143 rfl ?_
        refine Ev.dup (pc := 144) dX9_readPart_144 rfl ?_
        refine Ev.get (pc := 145) (C0 := RX9) (T := TX9) (N := 31) (fl_29_14 _ _ _ _) rfl inX9_readPart (by decide) lkX9_readPart_84 dX9_readPart_145 ?_
        refine Ev.iconst (pc := 148) (v := nI 1) dX9_readPart_148 (by decide) ?_
        refine Ev.iadd (pc := 149) dX9_readPart_149 ?_
        refine Ev.put (pc := 150) (C0 := RX9) (T := TX9) (N := 31) (ty := .int) (pu_29_14 _ _ _ _ _) rfl inX9_readPart tyX9_ok nmX9 (by decide) lkX9_readPart_84 rfl (by decide +kernel) (fun _ => rfl) (fun _ => rfl) dX9_readPart_150 ?_
        refine Ev.goto (pc := 153) (tgt := 242) dX9_readPart_153 (by decide) ?_
        cases hr
        exact Ev.vret rfl dX9_readPart_242 rfl
  · have hr := ifp hr c_1
    refine Ev.aload_n (pc := 6) dX9_readPart_6 rfl ?_
    refine Ev.get (pc := 7) (C0 := RX9) (T := TX9) (N := 31) (fl_29_13 _ _ _ _) rfl inX9_readPart (by decide) lkX9_readPart_81 dX9_readPart_7 ?_
    refine Ev.bipush (pc := 10) (v := nI 6) dX9_readPart_10 (by decide) ?_
    refine Ev.icmpge (pc := 12) (tgt := 56) dX9_readPart_12 (by decide) (fun c_15 => ?_) (fun c_15 => ?_)
    · have hr := ifp hr c_15
      refine Ev.iload_n (pc := 56) dX9_readPart_56 rfl ?_
      refine Ev.bipush (pc := 57) (v := nI 70) dX9_readPart_57 (by decide) ?_
      refine Ev.icmpne (pc := 59) (tgt := 156) dX9_readPart_59 (by decide) (fun c_16 => ?_) (fun c_16 => ?_)
      · have hr := ifn hr c_16
        refine Ev.iload_n (pc := 156) dX9_readPart_156 rfl ?_
        refine Ev.bipush (pc := 157) (v := nI 76) dX9_readPart_157 (by decide) ?_
        refine Ev.icmpne (pc := 159) (tgt := 234) dX9_readPart_159 (by decide) (fun c_17 => ?_) (fun c_17 => ?_)
        · have hr := ifn hr c_17
          refine Ev.aload_n (pc := 234) dX9_readPart_234 rfl ?_
          refine Ev.aload_n (pc := 235) dX9_readPart_235 rfl ?_
          refine Ev.get (pc := 236) (C0 := RX9) (T := TX9) (N := 31) (fl_29_18 _ _ _ _) rfl inX9_readPart (by decide) lkX9_readPart_78 dX9_readPart_236 ?_
          refine Ev.put (pc := 239) (C0 := RX9) (T := TX9) (N := 31) (ty := .int) (pu_29_19 _ _ _ _ _) rfl inX9_readPart tyX9_ok nmX9 (by decide) lkX9_readPart_75 rfl (by decide +kernel) (fun _ => rfl) (fun _ => rfl) dX9_readPart_239 ?_
          cases hr
          exact Ev.vret rfl dX9_readPart_242 rfl
        · have hr := ifp hr c_17
          refine Ev.aload_n (pc := 162) dX9_readPart_162 rfl ?_
          refine Ev.get (pc := 163) (C0 := RX9) (T := TX9) (N := 31) (fl_29_15 _ _ _ _) rfl inX9_readPart (by decide) lkX9_readPart_87 dX9_readPart_163 ?_
          refine Ev.iconst (pc := 166) (v := nI 4) dX9_readPart_166 (by decide) ?_
          refine Ev.icmpge (pc := 167) (tgt := 234) dX9_readPart_167 (by decide) (fun c_18 => ?_) (fun c_18 => ?_)
          · have hr := ifp hr c_18
            refine Ev.aload_n (pc := 234) dX9_readPart_234 rfl ?_
            refine Ev.aload_n (pc := 235) dX9_readPart_235 rfl ?_
            refine Ev.get (pc := 236) (C0 := RX9) (T := TX9) (N := 31) (fl_29_18 _ _ _ _) rfl inX9_readPart (by decide) lkX9_readPart_78 dX9_readPart_236 ?_
            refine Ev.put (pc := 239) (C0 := RX9) (T := TX9) (N := 31) (ty := .int) (pu_29_19 _ _ _ _ _) rfl inX9_readPart tyX9_ok nmX9 (by decide) lkX9_readPart_75 rfl (by decide +kernel) (fun _ => rfl) (fun _ => rfl) dX9_readPart_239 ?_
            cases hr
            exact Ev.vret rfl dX9_readPart_242 rfl
          · have hr := ifn hr c_18
            refine Ev.aload_n (pc := 170) dX9_readPart_170 rfl ?_
            refine Ev.dup (pc := 171) dX9_readPart_171 rfl ?_
            refine Ev.get (pc := 172) (C0 := RX9) (T := TX9) (N := 31) (fl_29_18 _ _ _ _) rfl inX9_readPart (by decide) lkX9_readPart_78 dX9_readPart_172 ?_
            refine Ev.iconst (pc := 175) (v := nI 1) dX9_readPart_175 (by decide) ?_
            refine Ev.iadd (pc := 176) dX9_readPart_176 ?_
            refine Ev.put (pc := 177) (C0 := RX9) (T := TX9) (N := 31) (ty := .int) (pu_29_18 _ _ _ _ _) rfl inX9_readPart tyX9_ok nmX9 (by decide) lkX9_readPart_78 rfl (by decide +kernel) (fun _ => rfl) (fun _ => rfl) dX9_readPart_177 ?_
            refine Ev.aload_n (pc := 180) dX9_readPart_180 rfl ?_
            refine Ev.get (pc := 181) (C0 := RX9) (T := TX9) (N := 31) (fl_29_12 _ _ _ _) rfl inX9_readPart (by decide) lkX9_readPart_37 dX9_readPart_181 ?_
            refine Ev.iconst (pc := 184) (v := nI 2) dX9_readPart_184 (by decide) ?_
            refine Ev.aload_n (pc := 185) dX9_readPart_185 rfl ?_
            refine Ev.get (pc := 186) (C0 := RX9) (T := TX9) (N := 31) (fl_29_15 _ _ _ _) rfl inX9_readPart (by decide) lkX9_readPart_87 dX9_readPart_186 ?_
            refine Ev.imul (pc := 189) dX9_readPart_189 ?_
            refine Ev.aload_n (pc := 190) dX9_readPart_190 rfl ?_
            refine Ev.bipush (pc := 191) (v := nI 97) dX9_readPart_191 (by decide) ?_
            refine Ev.iconst (pc := 193) (v := nI 0) dX9_readPart_193 (by decide) ?_
            refine Ev.bipush (pc := 194) (v := nI 11) dX9_readPart_194 (by decide) ?_
            obtain ⟨x_8, hx_8, hr⟩ := Option.bind_eq_some_iff.mp hr
            refine Ev.cVi (pc := 196) (As := [.int _, .int _, .int _]) (kX9_nextOf _ _ _ _ _ _ _ hx_8) rfl rfl (ob_29 _) gX9_readPart_X9_nextOf hdX9_nextOf rfl ⟨rfl, rfl⟩ ⟨Nat.le_of_ble_eq_true rfl, Nat.le_of_ble_eq_true rfl⟩ (Nat.le_of_ble_eq_true rfl) ⟨Nat.le_of_ble_eq_true rfl, Nat.le_of_ble_eq_true rfl⟩ dX9_readPart_196 ?_
            obtain ⟨c_19, hr⟩ := ckB hr
            refine Ev.iast (pc := 199) (ar_39 _ _ _ _) (inb_in c_19) (se_39 _ _ _ _ _) dX9_readPart_199 ?_
            refine Ev.aload_n (pc := 200) dX9_readPart_200 rfl ?_
            refine Ev.get (pc := 201) (C0 := RX9) (T := TX9) (N := 31) (fl_29_12 _ _ _ _) rfl inX9_readPart (by decide) lkX9_readPart_37 dX9_readPart_201 ?_
            refine Ev.iconst (pc := 204) (v := nI 2) dX9_readPart_204 (by decide) ?_
            refine Ev.aload_n (pc := 205) dX9_readPart_205 rfl ?_
            refine Ev.get (pc := 206) (C0 := RX9) (T := TX9) (N := 31) (fl_29_15 _ _ _ _) rfl inX9_readPart (by decide) lkX9_readPart_87 dX9_readPart_206 ?_
            refine Ev.imul (pc := 209) dX9_readPart_209 ?_
            refine Ev.iconst (pc := 210) (v := nI 1) dX9_readPart_210 (by decide) ?_
            refine Ev.iadd (pc := 211) dX9_readPart_211 ?_
            refine Ev.aload_n (pc := 212) dX9_readPart_212 rfl ?_
            refine Ev.bipush (pc := 213) (v := nI 48) dX9_readPart_213 (by decide) ?_
            refine Ev.iconst (pc := 215) (v := nI 0) dX9_readPart_215 (by decide) ?_
            refine Ev.iconst (pc := 216) (v := nI 3) dX9_readPart_216 (by decide) ?_
            obtain ⟨x_9, hx_9, hr⟩ := Option.bind_eq_some_iff.mp hr
            refine Ev.cVi (pc := 217) (As := [.int _, .int _, .int _]) (kX9_nextOf _ _ _ _ _ _ _ hx_9) rfl rfl (ob_29 _) gX9_readPart_X9_nextOf hdX9_nextOf rfl ⟨rfl, rfl⟩ ⟨Nat.le_of_ble_eq_true rfl, Nat.le_of_ble_eq_true rfl⟩ (Nat.le_of_ble_eq_true rfl) ⟨Nat.le_of_ble_eq_true rfl, Nat.le_of_ble_eq_true rfl⟩ dX9_readPart_217 ?_
            obtain ⟨c_20, hr⟩ := ckB hr
            refine Ev.iast (pc := 220) (ar_39 _ _ _ _) (inb_in c_20) (se_39 _ _ _ _ _) dX9_readPart_220 ?_
            refine Ev.aload_n (pc := 221) dX9_readPart_221 rfl ?_
            refine Ev.dup (pc := 222) dX9_readPart_222 rfl ?_
            refine Ev.get (pc := 223) (C0 := RX9) (T := TX9) (N := 31) (fl_29_15 _ _ _ _) rfl inX9_readPart (by decide) lkX9_readPart_87 dX9_readPart_223 ?_
            refine Ev.iconst (pc := 226) (v := nI 1) dX9_readPart_226 (by decide) ?_
            refine Ev.iadd (pc := 227) dX9_readPart_227 ?_
            refine Ev.put (pc := 228) (C0 := RX9) (T := TX9) (N := 31) (ty := .int) (pu_29_15 _ _ _ _ _) rfl inX9_readPart tyX9_ok nmX9 (by decide) lkX9_readPart_87 rfl (by decide +kernel) (fun _ => rfl) (fun _ => rfl) dX9_readPart_228 ?_
            refine Ev.goto (pc := 231) (tgt := 242) dX9_readPart_231 (by decide) ?_
            cases hr
            exact Ev.vret rfl dX9_readPart_242 rfl
      · have hr := ifp hr c_16
        refine Ev.aload_n (pc := 62) dX9_readPart_62 rfl ?_
        refine Ev.get (pc := 63) (C0 := RX9) (T := TX9) (N := 31) (fl_29_14 _ _ _ _) rfl inX9_readPart (by decide) lkX9_readPart_84 dX9_readPart_63 ?_
        refine Ev.iconst (pc := 66) (v := nI 5) dX9_readPart_66 (by decide) ?_
        refine Ev.icmpge (pc := 67) (tgt := 156) dX9_readPart_67 (by decide) (fun c_21 => ?_) (fun c_21 => ?_)
        · have hr := ifp hr c_21
          refine Ev.iload_n (pc := 156) dX9_readPart_156 rfl ?_
          refine Ev.bipush (pc := 157) (v := nI 76) dX9_readPart_157 (by decide) ?_
          refine Ev.icmpne (pc := 159) (tgt := 234) dX9_readPart_159 (by decide) (fun c_22 => ?_) (fun c_22 => ?_)
          · have hr := ifn hr c_22
            refine Ev.aload_n (pc := 234) dX9_readPart_234 rfl ?_
            refine Ev.aload_n (pc := 235) dX9_readPart_235 rfl ?_
            refine Ev.get (pc := 236) (C0 := RX9) (T := TX9) (N := 31) (fl_29_18 _ _ _ _) rfl inX9_readPart (by decide) lkX9_readPart_78 dX9_readPart_236 ?_
            refine Ev.put (pc := 239) (C0 := RX9) (T := TX9) (N := 31) (ty := .int) (pu_29_19 _ _ _ _ _) rfl inX9_readPart tyX9_ok nmX9 (by decide) lkX9_readPart_75 rfl (by decide +kernel) (fun _ => rfl) (fun _ => rfl) dX9_readPart_239 ?_
            cases hr
            exact Ev.vret rfl dX9_readPart_242 rfl
          · have hr := ifp hr c_22
            refine Ev.aload_n (pc := 162) dX9_readPart_162 rfl ?_
            refine Ev.get (pc := 163) (C0 := RX9) (T := TX9) (N := 31) (fl_29_15 _ _ _ _) rfl inX9_readPart (by decide) lkX9_readPart_87 dX9_readPart_163 ?_
            refine Ev.iconst (pc := 166) (v := nI 4) dX9_readPart_166 (by decide) ?_
            refine Ev.icmpge (pc := 167) (tgt := 234) dX9_readPart_167 (by decide) (fun c_23 => ?_) (fun c_23 => ?_)
            · have hr := ifp hr c_23
              refine Ev.aload_n (pc := 234) dX9_readPart_234 rfl ?_
              refine Ev.aload_n (pc := 235) dX9_readPart_235 rfl ?_
              refine Ev.get (pc := 236) (C0 := RX9) (T := TX9) (N := 31) (fl_29_18 _ _ _ _) rfl inX9_readPart (by decide) lkX9_readPart_78 dX9_readPart_236 ?_
              refine Ev.put (pc := 239) (C0 := RX9) (T := TX9) (N := 31) (ty := .int) (pu_29_19 _ _ _ _ _) rfl inX9_readPart tyX9_ok nmX9 (by decide) lkX9_readPart_75 rfl (by decide +kernel) (fun _ => rfl) (fun _ => rfl) dX9_readPart_239 ?_
              cases hr
              exact Ev.vret rfl dX9_readPart_242 rfl
            · have hr := ifn hr c_23
              refine Ev.aload_n (pc := 170) dX9_readPart_170 rfl ?_
              refine Ev.dup (pc := 171) dX9_readPart_171 rfl ?_
              refine Ev.get (pc := 172) (C0 := RX9) (T := TX9) (N := 31) (fl_29_18 _ _ _ _) rfl inX9_readPart (by decide) lkX9_readPart_78 dX9_readPart_172 ?_
              refine Ev.iconst (pc := 175) (v := nI 1) dX9_readPart_175 (by decide) ?_
              refine Ev.iadd (pc := 176) dX9_readPart_176 ?_
              refine Ev.put (pc := 177) (C0 := RX9) (T := TX9) (N := 31) (ty := .int) (pu_29_18 _ _ _ _ _) rfl inX9_readPart tyX9_ok nmX9 (by decide) lkX9_readPart_78 rfl (by decide +kernel) (fun _ => rfl) (fun _ => rfl) dX9_readPart_177 ?_
              refine Ev.aload_n (pc := 180) dX9_readPart_180 rfl ?_
              refine Ev.get (pc := 181) (C0 := RX9) (T := TX9) (N := 31) (fl_29_12 _ _ _ _) rfl inX9_readPart (by decide) lkX9_readPart_37 dX9_readPart_181 ?_
              refine Ev.iconst (pc := 184) (v := nI 2) dX9_readPart_184 (by decide) ?_
              refine Ev.aload_n (pc := 185) dX9_readPart_185 rfl ?_
              refine Ev.get (pc := 186) (C0 := RX9) (T := TX9) (N := 31) (fl_29_15 _ _ _ _) rfl inX9_readPart (by decide) lkX9_readPart_87 dX9_readPart_186 ?_
              refine Ev.imul (pc := 189) dX9_readPart_189 ?_
              refine Ev.aload_n (pc := 190) dX9_readPart_190 rfl ?_
              refine Ev.bipush (pc := 191) (v := nI 97) dX9_readPart_191 (by decide) ?_
              refine Ev.iconst (pc := 193) (v := nI 0) dX9_readPart_193 (by decide) ?_
              refine Ev.bipush (pc := 194) (v := nI 11) dX9_readPart_194 (by decide) ?_
              obtain ⟨x_10, hx_10, hr⟩ := Option.bind_eq_some_iff.mp hr
              refine Ev.cVi (pc := 196) (As := [.int _, .int _, .int _]) (kX9_nextOf _ _ _ _ _ _ _ hx_10) rfl rfl (ob_29 _) gX9_readPart_X9_nextOf hdX9_nextOf rfl ⟨rfl, rfl⟩ ⟨Nat.le_of_ble_eq_true rfl, Nat.le_of_ble_eq_true rfl⟩ (Nat.le_of_ble_eq_true rfl) ⟨Nat.le_of_ble_eq_true rfl, Nat.le_of_ble_eq_true rfl⟩ dX9_readPart_196 ?_
              obtain ⟨c_24, hr⟩ := ckB hr
              refine Ev.iast (pc := 199) (ar_39 _ _ _ _) (inb_in c_24) (se_39 _ _ _ _ _) dX9_readPart_199 ?_
              refine Ev.aload_n (pc := 200) dX9_readPart_200 rfl ?_
              refine Ev.get (pc := 201) (C0 := RX9) (T := TX9) (N := 31) (fl_29_12 _ _ _ _) rfl inX9_readPart (by decide) lkX9_readPart_37 dX9_readPart_201 ?_
              refine Ev.iconst (pc := 204) (v := nI 2) dX9_readPart_204 (by decide) ?_
              refine Ev.aload_n (pc := 205) dX9_readPart_205 rfl ?_
              refine Ev.get (pc := 206) (C0 := RX9) (T := TX9) (N := 31) (fl_29_15 _ _ _ _) rfl inX9_readPart (by decide) lkX9_readPart_87 dX9_readPart_206 ?_
              refine Ev.imul (pc := 209) dX9_readPart_209 ?_
              refine Ev.iconst (pc := 210) (v := nI 1) dX9_readPart_210 (by decide) ?_
              refine Ev.iadd (pc := 211) dX9_readPart_211 ?_
              refine Ev.aload_n (pc := 212) dX9_readPart_212 rfl ?_
              refine Ev.bipush (pc := 213) (v := nI 48) dX9_readPart_213 (by decide) ?_
              refine Ev.iconst (pc := 215) (v := nI 0) dX9_readPart_215 (by decide) ?_
              refine Ev.iconst (pc := 216) (v := nI 3) dX9_readPart_216 (by decide) ?_
              obtain ⟨x_11, hx_11, hr⟩ := Option.bind_eq_some_iff.mp hr
              refine Ev.cVi (pc := 217) (As := [.int _, .int _, .int _]) (kX9_nextOf _ _ _ _ _ _ _ hx_11) rfl rfl (ob_29 _) gX9_readPart_X9_nextOf hdX9_nextOf rfl ⟨rfl, rfl⟩ ⟨Nat.le_of_ble_eq_true rfl, Nat.le_of_ble_eq_true rfl⟩ (Nat.le_of_ble_eq_true rfl) ⟨Nat.le_of_ble_eq_true rfl, Nat.le_of_ble_eq_true rfl⟩ dX9_readPart_217 ?_
              obtain ⟨c_25, hr⟩ := ckB hr
              refine Ev.iast (pc := 220) (ar_39 _ _ _ _) (inb_in c_25) (se_39 _ _ _ _ _) dX9_readPart_220 ?_
              refine Ev.aload_n (pc := 221) dX9_readPart_221 rfl ?_
              refine Ev.dup (pc := 222) dX9_readPart_222 rfl ?_
              refine Ev.get (pc := 223) (C0 := RX9) (T := TX9) (N := 31) (fl_29_15 _ _ _ _) rfl inX9_readPart (by decide) lkX9_readPart_87 dX9_readPart_223 ?_
              refine Ev.iconst (pc := 226) (v := nI 1) dX9_readPart_226 (by decide) ?_
              refine Ev.iadd (pc := 227) dX9_readPart_227 ?_
              refine Ev.put (pc := 228) (C0 := RX9) (T := TX9) (N := 31) (ty := .int) (pu_29_15 _ _ _ _ _) rfl inX9_readPart tyX9_ok nmX9 (by decide) lkX9_readPart_87 rfl (by decide +kernel) (fun _ => rfl) (fun _ => rfl) dX9_readPart_228 ?_
              refine Ev.goto (pc := 231) (tgt := 242) dX9_readPart_231 (by decide) ?_
              cases hr
              exact Ev.vret rfl dX9_readPart_242 rfl
        · have hr := ifn hr c_21
          refine Ev.aload_n (pc := 70) dX9_readPart_70 rfl ?_
          refine Ev.dup (pc := 71) dX9_readPart_71 rfl ?_
          refine Ev.get (pc := 72) (C0 := RX9) (T := TX9) (N := 31) (fl_29_18 _ _ _ _) rfl inX9_readPart (by decide) lkX9_readPart_78 dX9_readPart_72 ?_
          refine Ev.iconst (pc := 75) (v := nI 1) dX9_readPart_75 (by decide) ?_
          refine Ev.iadd (pc := 76) dX9_readPart_76 ?_
          refine Ev.put (pc := 77) (C0 := RX9) (T := TX9) (N := 31) (ty := .int) (pu_29_18 _ _ _ _ _) rfl inX9_readPart tyX9_ok nmX9 (by decide) lkX9_readPart_78 rfl (by decide +kernel) (fun _ => rfl) (fun _ => rfl) dX9_readPart_77 ?_
          refine Ev.aload_n (pc := 80) dX9_readPart_80 rfl ?_
          refine Ev.get (pc := 81) (C0 := RX9) (T := TX9) (N := 31) (fl_29_11 _ _ _ _) rfl inX9_readPart (by decide) lkX9_readPart_34 dX9_readPart_81 ?_
          refine Ev.iconst (pc := 84) (v := nI 3) dX9_readPart_84 (by decide) ?_
          refine Ev.aload_n (pc := 85) dX9_readPart_85 rfl ?_
          refine Ev.get (pc := 86) (C0 := RX9) (T := TX9) (N := 31) (fl_29_14 _ _ _ _) rfl inX9_readPart (by decide) lkX9_readPart_84 dX9_readPart_86 ?_
          refine Ev.imul (pc := 89) dX9_readPart_89 ?_
          refine Ev.aload_n (pc := 90) dX9_readPart_90 rfl ?_
          refine Ev.bipush (pc := 91) (v := nI 97) dX9_readPart_91 (by decide) ?_
          refine Ev.iconst (pc := 93) (v := nI 0) dX9_readPart_93 (by decide) ?_
          refine Ev.bipush (pc := 94) (v := nI 11) dX9_readPart_94 (by decide) ?_
          obtain ⟨x_12, hx_12, hr⟩ := Option.bind_eq_some_iff.mp hr
          refine Ev.cVi (pc := 96) (As := [.int _, .int _, .int _]) (kX9_nextOf _ _ _ _ _ _ _ hx_12) rfl rfl (ob_29 _) gX9_readPart_X9_nextOf hdX9_nextOf rfl ⟨rfl, rfl⟩ ⟨Nat.le_of_ble_eq_true rfl, Nat.le_of_ble_eq_true rfl⟩ (Nat.le_of_ble_eq_true rfl) ⟨Nat.le_of_ble_eq_true rfl, Nat.le_of_ble_eq_true rfl⟩ dX9_readPart_96 ?_
          obtain ⟨c_26, hr⟩ := ckB hr
          refine Ev.iast (pc := 99) (ar_38 _ _ _ _) (inb_in c_26) (se_38 _ _ _ _ _) dX9_readPart_99 ?_
          refine Ev.aload_n (pc := 100) dX9_readPart_100 rfl ?_
          refine Ev.get (pc := 101) (C0 := RX9) (T := TX9) (N := 31) (fl_29_11 _ _ _ _) rfl inX9_readPart (by decide) lkX9_readPart_34 dX9_readPart_101 ?_
          refine Ev.iconst (pc := 104) (v := nI 3) dX9_readPart_104 (by decide) ?_
          refine Ev.aload_n (pc := 105) dX9_readPart_105 rfl ?_
          refine Ev.get (pc := 106) (C0 := RX9) (T := TX9) (N := 31) (fl_29_14 _ _ _ _) rfl inX9_readPart (by decide) lkX9_readPart_84 dX9_readPart_106 ?_
          refine Ev.imul (pc := 109) dX9_readPart_109 ?_
          refine Ev.iconst (pc := 110) (v := nI 1) dX9_readPart_110 (by decide) ?_
          refine Ev.iadd (pc := 111) dX9_readPart_111 ?_
          refine Ev.aload_n (pc := 112) dX9_readPart_112 rfl ?_
          refine Ev.bipush (pc := 113) (v := nI 48) dX9_readPart_113 (by decide) ?_
          refine Ev.iconst (pc := 115) (v := nI 1) dX9_readPart_115 (by decide) ?_
          refine Ev.bipush (pc := 116) (v := nI 9) dX9_readPart_116 (by decide) ?_
          obtain ⟨x_13, hx_13, hr⟩ := Option.bind_eq_some_iff.mp hr
          refine Ev.cVi (pc := 118) (As := [.int _, .int _, .int _]) (kX9_nextOf _ _ _ _ _ _ _ hx_13) rfl rfl (ob_29 _) gX9_readPart_X9_nextOf hdX9_nextOf rfl ⟨rfl, rfl⟩ ⟨Nat.le_of_ble_eq_true rfl, Nat.le_of_ble_eq_true rfl⟩ (Nat.le_of_ble_eq_true rfl) ⟨Nat.le_of_ble_eq_true rfl, Nat.le_of_ble_eq_true rfl⟩ dX9_readPart_118 ?_
          obtain ⟨c_27, hr⟩ := ckB hr
          refine Ev.iast (pc := 121) (ar_38 _ _ _ _) (inb_in c_27) (se_38 _ _ _ _ _) dX9_readPart_121 ?_
          refine Ev.aload_n (pc := 122) dX9_readPart_122 rfl ?_
          refine Ev.get (pc := 123) (C0 := RX9) (T := TX9) (N := 31) (fl_29_11 _ _ _ _) rfl inX9_readPart (by decide) lkX9_readPart_34 dX9_readPart_123 ?_
          refine Ev.iconst (pc := 126) (v := nI 3) dX9_readPart_126 (by decide) ?_
          refine Ev.aload_n (pc := 127) dX9_readPart_127 rfl ?_
          refine Ev.get (pc := 128) (C0 := RX9) (T := TX9) (N := 31) (fl_29_14 _ _ _ _) rfl inX9_readPart (by decide) lkX9_readPart_84 dX9_readPart_128 ?_
          refine Ev.imul (pc := 131) dX9_readPart_131 ?_
          refine Ev.iconst (pc := 132) (v := nI 2) dX9_readPart_132 (by decide) ?_
          refine Ev.iadd (pc := 133) dX9_readPart_133 ?_
          refine Ev.aload_n (pc := 134) dX9_readPart_134 rfl ?_
          refine Ev.bipush (pc := 135) (v := nI 48) dX9_readPart_135 (by decide) ?_
          refine Ev.iconst (pc := 137) (v := nI 0) dX9_readPart_137 (by decide) ?_
          refine Ev.iconst (pc := 138) (v := nI 3) dX9_readPart_138 (by decide) ?_
          obtain ⟨x_14, hx_14, hr⟩ := Option.bind_eq_some_iff.mp hr
          refine Ev.cVi (pc := 139) (As := [.int _, .int _, .int _]) (kX9_nextOf _ _ _ _ _ _ _ hx_14) rfl rfl (ob_29 _) gX9_readPart_X9_nextOf hdX9_nextOf rfl ⟨rfl, rfl⟩ ⟨Nat.le_of_ble_eq_true rfl, Nat.le_of_ble_eq_true rfl⟩ (Nat.le_of_ble_eq_true rfl) ⟨Nat.le_of_ble_eq_true rfl, Nat.le_of_ble_eq_true rfl⟩ dX9_readPart_139 ?_
          obtain ⟨c_28, hr⟩ := ckB hr
          refine Ev.iast (pc := 142) (ar_38 _ _ _ _) (inb_in c_28) (se_38 _ _ _ _ _) dX9_readPart_142 ?_
          refine Ev.aload_n (pc := 143) dX9_readPart_143 rfl ?_
          refine Ev.dup (pc := 144) dX9_readPart_144 rfl ?_
          refine Ev.get (pc := 145) (C0 := RX9) (T := TX9) (N := 31) (fl_29_14 _ _ _ _) rfl inX9_readPart (by decide) lkX9_readPart_84 dX9_readPart_145 ?_
          refine Ev.iconst (pc := 148) (v := nI 1) dX9_readPart_148 (by decide) ?_
          refine Ev.iadd (pc := 149) dX9_readPart_149 ?_
          refine Ev.put (pc := 150) (C0 := RX9) (T := TX9) (N := 31) (ty := .int) (pu_29_14 _ _ _ _ _) rfl inX9_readPart tyX9_ok nmX9 (by decide) lkX9_readPart_84 rfl (by decide +kernel) (fun _ => rfl) (fun _ => rfl) dX9_readPart_150 ?_
          refine Ev.goto (pc := 153) (tgt := 242) dX9_readPart_153 (by decide) ?_
          cases hr
          exact Ev.vret rfl dX9_readPart_242 rfl
    · have hr := ifn hr c_15
      refine Ev.aload_n (pc := 15) dX9_readPart_15 rfl ?_
      refine Ev.dup (pc := 16) dX9_readPart_16 rfl ?_
      refine Ev.get (pc := 17) (C0 := RX9) (T := TX9) (N := 31) (fl_29_18 _ _ _ _) rfl inX9_readPart (by decide) lkX9_readPart_78 dX9_readPart_17 ?_
      refine Ev.iconst (pc := 20) (v := nI 1) dX9_readPart_20 (by decide) ?_
      refine Ev.iadd (pc := 21) dX9_readPart_21 ?_
      refine Ev.put (pc := 22) (C0 := RX9) (T := TX9) (N := 31) (ty := .int) (pu_29_18 _ _ _ _ _) rfl inX9_readPart tyX9_ok nmX9 (by decide) lkX9_readPart_78 rfl (by decide +kernel) (fun _ => rfl) (fun _ => rfl) dX9_readPart_22 ?_
      refine Ev.aload_n (pc := 25) dX9_readPart_25 rfl ?_
      refine Ev.get (pc := 26) (C0 := RX9) (T := TX9) (N := 31) (fl_29_10 _ _ _ _) rfl inX9_readPart (by decide) lkX9_readPart_31 dX9_readPart_26 ?_
      refine Ev.aload_n (pc := 29) dX9_readPart_29 rfl ?_
      refine Ev.get (pc := 30) (C0 := RX9) (T := TX9) (N := 31) (fl_29_13 _ _ _ _) rfl inX9_readPart (by decide) lkX9_readPart_81 dX9_readPart_30 ?_
      refine Ev.aload_n (pc := 33) dX9_readPart_33 rfl ?_
      refine Ev.bipush (pc := 34) (v := nI 48) dX9_readPart_34 (by decide) ?_
      refine Ev.iconst (pc := 36) (v := nI 0) dX9_readPart_36 (by decide) ?_
      refine Ev.bipush (pc := 37) (v := nI 9) dX9_readPart_37 (by decide) ?_
      obtain ⟨x_15, hx_15, hr⟩ := Option.bind_eq_some_iff.mp hr
      refine Ev.cVi (pc := 39) (As := [.int _, .int _, .int _]) (kX9_nextOf _ _ _ _ _ _ _ hx_15) rfl rfl (ob_29 _) gX9_readPart_X9_nextOf hdX9_nextOf rfl ⟨rfl, rfl⟩ ⟨Nat.le_of_ble_eq_true rfl, Nat.le_of_ble_eq_true rfl⟩ (Nat.le_of_ble_eq_true rfl) ⟨Nat.le_of_ble_eq_true rfl, Nat.le_of_ble_eq_true rfl⟩ dX9_readPart_39 ?_
      obtain ⟨c_29, hr⟩ := ckB hr
      refine Ev.iast (pc := 42) (ar_37 _ _ _ _) (inb_in c_29) (se_37 _ _ _ _ _) dX9_readPart_42 ?_
      refine Ev.aload_n (pc := 43) dX9_readPart_43 rfl ?_
      refine Ev.dup (pc := 44) dX9_readPart_44 rfl ?_
      refine Ev.get (pc := 45) (C0 := RX9) (T := TX9) (N := 31) (fl_29_13 _ _ _ _) rfl inX9_readPart (by decide) lkX9_readPart_81 dX9_readPart_45 ?_
      refine Ev.iconst (pc := 48) (v := nI 1) dX9_readPart_48 (by decide) ?_
      refine Ev.iadd (pc := 49) dX9_readPart_49 ?_
      refine Ev.put (pc := 50) (C0 := RX9) (T := TX9) (N := 31) (ty := .int) (pu_29_13 _ _ _ _ _) rfl inX9_readPart tyX9_ok nmX9 (by decide) lkX9_readPart_81 rfl (by decide +kernel) (fun _ => rfl) (fun _ => rfl) dX9_readPart_50 ?_
      refine Ev.goto (pc := 53) (tgt := 242) dX9_readPart_53 (by decide) ?_
      cases hr
      exact Ev.vret rfl dX9_readPart_242 rfl
/-! X9_readText -/
def sX9_readText_80 (v1 : Int32) : Nat → Hg → Option (Int32 × Hg)
  | 0, _ => none
  | n + 1, g2 => if (g2 29 19) = ((-9)) then (if (g2 29 17) ≤ (g2 29 18) then (some (g2 29 19, g2)) else (if inb (g2 29 18) 60 = true then ((sX9_readPart g2 (g2 40 (Int32.toNatClampNeg (g2 29 18)))).bind fun x_1 => (sX9_readText_80 v1 n x_1)) else none)) else (some (g2 29 19, g2))
set_option maxRecDepth 20000 in
set_option maxHeartbeats 1000000 in
theorem kX9_readText_80 (g : Hg) (q : Int64) (q2 : Int64)  (v1 : Int32) (r : Int32 × Hg) : ∀ (n : Nat) (g2 : Hg), sX9_readText_80 v1 n g2 = some r → Ev (Xi (fun x h' => x = r.1 ∧ h' = (g, q, r.2, q2))) MX9_readText 80 [some (.ref 29), some (.int v1)] [] (g, q, g2, q2) := by
  intro n
  induction n with
  | zero => intro _ hr; cases hr
  | succ n ih =>
    intro g2 hr
    rw [sX9_readText_80] at hr
    refine Ev.aload_n (pc := 80) dX9_readText_80 rfl ?_
    refine Ev.get (pc := 81) (C0 := RX9) (T := TX9) (N := 31) (fl_29_19 _ _ _ _) rfl inX9_readText (by decide) lkX9_readText_75 dX9_readText_81 ?_
    refine Ev.bipush (pc := 84) (v := (-9)) dX9_readText_84 (by decide) ?_
    refine Ev.icmpne (pc := 86) (tgt := 116) dX9_readText_86 (by decide) (fun c_4 => ?_) (fun c_4 => ?_)
    · have hr := ifn hr c_4
      refine Ev.aload_n (pc := 116) dX9_readText_116 rfl ?_
      refine Ev.get (pc := 117) (C0 := RX9) (T := TX9) (N := 31) (fl_29_19 _ _ _ _) rfl inX9_readText (by decide) lkX9_readText_75 dX9_readText_117 ?_
      cases hr
      exact Ev.iret rfl rfl dX9_readText_120 ⟨rfl, rfl⟩
    · have hr := ifp hr c_4
      refine Ev.aload_n (pc := 89) dX9_readText_89 rfl ?_
      refine Ev.get (pc := 90) (C0 := RX9) (T := TX9) (N := 31) (fl_29_18 _ _ _ _) rfl inX9_readText (by decide) lkX9_readText_78 dX9_readText_90 ?_
      refine Ev.aload_n (pc := 93) dX9_readText_93 rfl ?_
      refine Ev.get (pc := 94) (C0 := RX9) (T := TX9) (N := 31) (fl_29_17 _ _ _ _) rfl inX9_readText (by decide) lkX9_readText_71 dX9_readText_94 ?_
      refine Ev.icmpge (pc := 97) (tgt := 116) dX9_readText_97 (by decide) (fun c_5 => ?_) (fun c_5 => ?_)
      · have hr := ifp hr c_5
        refine Ev.aload_n (pc := 116) dX9_readText_116 rfl ?_
        refine Ev.get (pc := 117) (C0 := RX9) (T := TX9) (N := 31) (fl_29_19 _ _ _ _) rfl inX9_readText (by decide) lkX9_readText_75 dX9_readText_117 ?_
        cases hr
        exact Ev.iret rfl rfl dX9_readText_120 ⟨rfl, rfl⟩
      · have hr := ifn hr c_5
        refine Ev.aload_n (pc := 100) dX9_readText_100 rfl ?_
        refine Ev.aload_n (pc := 101) dX9_readText_101 rfl ?_
        refine Ev.get (pc := 102) (C0 := RX9) (T := TX9) (N := 31) (fl_29_16 _ _ _ _) rfl inX9_readText (by decide) lkX9_readText_40 dX9_readText_102 ?_
        refine Ev.aload_n (pc := 105) dX9_readText_105 rfl ?_
        refine Ev.get (pc := 106) (C0 := RX9) (T := TX9) (N := 31) (fl_29_18 _ _ _ _) rfl inX9_readText (by decide) lkX9_readText_78 dX9_readText_106 ?_
        obtain ⟨c_6, hr⟩ := ckB hr
        refine Ev.iald (pc := 109) (ar_40 _ _ _ _) (inb_in c_6) dX9_readText_109 ?_
        obtain ⟨x_1, hx_1, hr⟩ := Option.bind_eq_some_iff.mp hr
        refine Ev.cVv (pc := 110) (As := [.int _]) (kX9_readPart _ _ _ _ _ hx_1) rfl rfl (ob_29 _) gX9_readText_X9_readPart hdX9_readPart rfl ⟨rfl, rfl⟩ ⟨Nat.le_of_ble_eq_true rfl, Nat.le_of_ble_eq_true rfl⟩ (Nat.le_of_ble_eq_true rfl) ⟨Nat.le_of_ble_eq_true rfl, Nat.le_of_ble_eq_true rfl⟩ dX9_readText_110 ?_
        refine Ev.goto (pc := 113) (tgt := 80) dX9_readText_113 (by decide) ?_
        exact ih _ hr
def sX9_readText_53  : Nat → Hg → Int32 → Option (Int32 × Hg)
  | 0, _, _ => none
  | n + 1, g2, v1 => if (nI 12) ≤ v1 then (sX9_readText_80 v1 100 g2) else ((sX9_nextOf g2 (nI 48) (nI 0) (nI 9)).bind fun x_2 => (if inb v1 12 = true then (sX9_readText_53 n (stA x_2.2 36 (Int32.toNatClampNeg v1) x_2.1) (v1 + (nI 1))) else none))
set_option maxRecDepth 20000 in
set_option maxHeartbeats 1000000 in
theorem kX9_readText_53 (g : Hg) (q : Int64) (q2 : Int64)   (r : Int32 × Hg) : ∀ (n : Nat) (g2 : Hg) (v1 : Int32), sX9_readText_53 n g2 v1 = some r → Ev (Xi (fun x h' => x = r.1 ∧ h' = (g, q, r.2, q2))) MX9_readText 53 [some (.ref 29), some (.int v1)] [] (g, q, g2, q2) := by
  intro n
  induction n with
  | zero => intro _ _ hr; cases hr
  | succ n ih =>
    intro g2 v1 hr
    rw [sX9_readText_53] at hr
    refine Ev.iload_n (pc := 53) dX9_readText_53 rfl ?_
    refine Ev.bipush (pc := 54) (v := nI 12) dX9_readText_54 (by decide) ?_
    refine Ev.icmpge (pc := 56) (tgt := 80) dX9_readText_56 (by decide) (fun c_3 => ?_) (fun c_3 => ?_)
    · have hr := ifp hr c_3
      exact kX9_readText_80 _ _ _ _ _ 100 _ hr
    · have hr := ifn hr c_3
      refine Ev.aload_n (pc := 59) dX9_readText_59 rfl ?_
      refine Ev.get (pc := 60) (C0 := RX9) (T := TX9) (N := 31) (fl_29_9 _ _ _ _) rfl inX9_readText (by decide) lkX9_readText_28 dX9_readText_60 ?_
      refine Ev.iload_n (pc := 63) dX9_readText_63 rfl ?_
      refine Ev.aload_n (pc := 64) dX9_readText_64 rfl ?_
      refine Ev.bipush (pc := 65) (v := nI 48) dX9_readText_65 (by decide) ?_
      refine Ev.iconst (pc := 67) (v := nI 0) dX9_readText_67 (by decide) ?_
      refine Ev.bipush (pc := 68) (v := nI 9) dX9_readText_68 (by decide) ?_
      obtain ⟨x_2, hx_2, hr⟩ := Option.bind_eq_some_iff.mp hr
      refine Ev.cVi (pc := 70) (As := [.int _, .int _, .int _]) (kX9_nextOf _ _ _ _ _ _ _ hx_2) rfl rfl (ob_29 _) gX9_readText_X9_nextOf hdX9_nextOf rfl ⟨rfl, rfl⟩ ⟨Nat.le_of_ble_eq_true rfl, Nat.le_of_ble_eq_true rfl⟩ (Nat.le_of_ble_eq_true rfl) ⟨Nat.le_of_ble_eq_true rfl, Nat.le_of_ble_eq_true rfl⟩ dX9_readText_70 ?_
      obtain ⟨c_7, hr⟩ := ckB hr
      refine Ev.iast (pc := 73) (ar_36 _ _ _ _) (inb_in c_7) (se_36 _ _ _ _ _) dX9_readText_73 ?_
      refine Ev.iinc (pc := 74) (v := nI 1) dX9_readText_74 rfl rfl rfl rfl ?_
      refine Ev.goto (pc := 77) (tgt := 53) dX9_readText_77 (by decide) ?_
      exact ih _ _ hr
def sX9_readText (g2 : Hg) : Option (Int32 × Hg) := if ((stA (stA (stA (stA (stA g2 29 18 (nI 0)) 29 19 ((-9))) 29 13 (nI 0)) 29 14 (nI 0)) 29 15 (nI 0)) 29 17) = 0 then (some (nI 0, stA (stA (stA (stA (stA g2 29 18 (nI 0)) 29 19 ((-9))) 29 13 (nI 0)) 29 14 (nI 0)) 29 15 (nI 0))) else (if ((stA (stA (stA (stA (stA g2 29 18 (nI 0)) 29 19 ((-9))) 29 13 (nI 0)) 29 14 (nI 0)) 29 15 (nI 0)) 40 (Int32.toNatClampNeg (nI 0))) = (nI 77) then (sX9_readText_53 100 (stA (stA (stA (stA (stA (stA g2 29 18 (nI 0)) 29 19 ((-9))) 29 13 (nI 0)) 29 14 (nI 0)) 29 15 (nI 0)) 29 18 (nI 1)) (nI 0)) else (some (nI 0, stA (stA (stA (stA (stA g2 29 18 (nI 0)) 29 19 ((-9))) 29 13 (nI 0)) 29 14 (nI 0)) 29 15 (nI 0))))
set_option maxRecDepth 20000 in
set_option maxHeartbeats 1000000 in
theorem kX9_readText (g : Hg) (q : Int64) (g2 : Hg) (q2 : Int64) {r : Int32 × Hg} (hr : sX9_readText g2 = some r) : CtI MX9_readText [.ref 29] (g, q, g2, q2) (fun x h' => x = r.1 ∧ h' = (g, q, r.2, q2)) := by
  unfold sX9_readText at hr
  refine CtI_L 1 rfl (by decide +kernel) rfl (Nat.le_of_ble_eq_true rfl) ?_
  show Ev _ _ 0 [some (.ref 29), none] [] _
  refine Ev.aload_n (pc := 0) dX9_readText_0 rfl ?_
  refine Ev.iconst (pc := 1) (v := nI 0) dX9_readText_1 (by decide) ?_
  refine Ev.put (pc := 2) (C0 := RX9) (T := TX9) (N := 31) (ty := .int) (pu_29_18 _ _ _ _ _) rfl inX9_readText tyX9_ok nmX9 (by decide) lkX9_readText_78 rfl (by decide +kernel) (fun _ => rfl) (fun _ => rfl) dX9_readText_2 ?_
  refine Ev.aload_n (pc := 5) dX9_readText_5 rfl ?_
  refine Ev.bipush (pc := 6) (v := (-9)) dX9_readText_6 (by decide) ?_
  refine Ev.put (pc := 8) (C0 := RX9) (T := TX9) (N := 31) (ty := .int) (pu_29_19 _ _ _ _ _) rfl inX9_readText tyX9_ok nmX9 (by decide) lkX9_readText_75 rfl (by decide +kernel) (fun _ => rfl) (fun _ => rfl) dX9_readText_8 ?_
  refine Ev.aload_n (pc := 11) dX9_readText_11 rfl ?_
  refine Ev.iconst (pc := 12) (v := nI 0) dX9_readText_12 (by decide) ?_
  refine Ev.put (pc := 13) (C0 := RX9) (T := TX9) (N := 31) (ty := .int) (pu_29_13 _ _ _ _ _) rfl inX9_readText tyX9_ok nmX9 (by decide) lkX9_readText_81 rfl (by decide +kernel) (fun _ => rfl) (fun _ => rfl) dX9_readText_13 ?_
  refine Ev.aload_n (pc := 16) dX9_readText_16 rfl ?_
  refine Ev.iconst (pc := 17) (v := nI 0) dX9_readText_17 (by decide) ?_
  refine Ev.put (pc := 18) (C0 := RX9) (T := TX9) (N := 31) (ty := .int) (pu_29_14 _ _ _ _ _) rfl inX9_readText tyX9_ok nmX9 (by decide) lkX9_readText_84 rfl (by decide +kernel) (fun _ => rfl) (fun _ => rfl) dX9_readText_18 ?_
  refine Ev.aload_n (pc := 21) dX9_readText_21 rfl ?_
  refine Ev.iconst (pc := 22) (v := nI 0) dX9_readText_22 (by decide) ?_
  refine Ev.put (pc := 23) (C0 := RX9) (T := TX9) (N := 31) (ty := .int) (pu_29_15 _ _ _ _ _) rfl inX9_readText tyX9_ok nmX9 (by decide) lkX9_readText_87 rfl (by decide +kernel) (fun _ => rfl) (fun _ => rfl) dX9_readText_23 ?_
  refine Ev.aload_n (pc := 26) dX9_readText_26 rfl ?_
  refine Ev.get (pc := 27) (C0 := RX9) (T := TX9) (N := 31) (fl_29_17 _ _ _ _) rfl inX9_readText (by decide) lkX9_readText_71 dX9_readText_27 ?_
  refine Ev.ifeq (pc := 30) (tgt := 44) dX9_readText_30 (by decide) (fun c_1 => ?_) (fun c_1 => ?_)
  · have hr := ifp hr c_1
    refine Ev.iconst (pc := 44) (v := nI 0) dX9_readText_44 (by decide) ?_
    cases hr
    exact Ev.iret rfl rfl dX9_readText_45 ⟨rfl, rfl⟩
  · have hr := ifn hr c_1
    refine Ev.aload_n (pc := 33) dX9_readText_33 rfl ?_
    refine Ev.get (pc := 34) (C0 := RX9) (T := TX9) (N := 31) (fl_29_16 _ _ _ _) rfl inX9_readText (by decide) lkX9_readText_40 dX9_readText_34 ?_
    refine Ev.iconst (pc := 37) (v := nI 0) dX9_readText_37 (by decide) ?_
    refine Ev.iald (pc := 38) (ar_40 _ _ _ _) (vp_in_nI (n := 0) (N := 60) (by decide) (by decide)) dX9_readText_38 ?_
    refine Ev.bipush (pc := 39) (v := nI 77) dX9_readText_39 (by decide) ?_
    refine Ev.icmpeq (pc := 41) (tgt := 46) dX9_readText_41 (by decide) (fun c_2 => ?_) (fun c_2 => ?_)
    · have hr := ifp hr c_2
      refine Ev.aload_n (pc := 46) dX9_readText_46 rfl ?_
      refine Ev.iconst (pc := 47) (v := nI 1) dX9_readText_47 (by decide) ?_
      refine Ev.put (pc := 48) (C0 := RX9) (T := TX9) (N := 31) (ty := .int) (pu_29_18 _ _ _ _ _) rfl inX9_readText tyX9_ok nmX9 (by decide) lkX9_readText_78 rfl (by decide +kernel) (fun _ => rfl) (fun _ => rfl) dX9_readText_48 ?_
      refine Ev.iconst (pc := 51) (v := nI 0) dX9_readText_51 (by decide) ?_
      refine Ev.istore_n (pc := 52) dX9_readText_52 rfl rfl ?_
      exact kX9_readText_53 _ _ _  _ 100 _ _ hr
    · have hr := ifn hr c_2
      refine Ev.iconst (pc := 44) (v := nI 0) dX9_readText_44 (by decide) ?_
      cases hr
      exact Ev.iret rfl rfl dX9_readText_45 ⟨rfl, rfl⟩
/-! X9_fault -/
def sX9_fault (g2 : Hg) : Option (Int32 × Hg) := (sX9_readText g2).bind fun x_1 => (some (x_1.1, x_1.2))
set_option maxRecDepth 20000 in
set_option maxHeartbeats 1000000 in
theorem kX9_fault (g : Hg) (q : Int64) (g2 : Hg) (q2 : Int64) {r : Int32 × Hg} (hr : sX9_fault g2 = some r) : CtI MX9_fault [.ref 29] (g, q, g2, q2) (fun x h' => x = r.1 ∧ h' = (g, q, r.2, q2)) := by
  unfold sX9_fault at hr
  refine CtI_L 0 rfl (by decide +kernel) rfl (Nat.le_of_ble_eq_true rfl) ?_
  show Ev _ _ 0 [some (.ref 29)] [] _
  refine Ev.aload_n (pc := 0) dX9_fault_0 rfl ?_
  obtain ⟨x_1, hx_1, hr⟩ := Option.bind_eq_some_iff.mp hr
  refine Ev.cVi (pc := 1) (As := []) (kX9_readText _ _ _ _ hx_1) rfl rfl (ob_29 _) gX9_fault_X9_readText hdX9_readText rfl ⟨rfl, rfl⟩ ⟨Nat.le_of_ble_eq_true rfl, Nat.le_of_ble_eq_true rfl⟩ (Nat.le_of_ble_eq_true rfl) ⟨Nat.le_of_ble_eq_true rfl, Nat.le_of_ble_eq_true rfl⟩ dX9_fault_1 ?_
  cases hr
  exact Ev.iret rfl rfl dX9_fault_4 ⟨rfl, rfl⟩
/-! X9_flat -/
def sX9_flat_178  : Nat → Hg → Int32 → Option (Int32 × Hg)
  | 0, _, _ => none
  | n + 1, g2, v1 => if (g2 29 2) ≤ v1 then (some ((((nI 100) * ((stA (stA (stA g2 29 20 (nI 0)) 46 (Int32.toNatClampNeg (nI 0)) (vp_nar .boolean (nI 0))) 46 (Int32.toNatClampNeg (nI 1)) (vp_nar .boolean (nI 0))) 29 0)) + ((nI 10) * ((stA (stA (stA g2 29 20 (nI 0)) 46 (Int32.toNatClampNeg (nI 0)) (vp_nar .boolean (nI 0))) 46 (Int32.toNatClampNeg (nI 1)) (vp_nar .boolean (nI 0))) 29 1))) + ((stA (stA (stA g2 29 20 (nI 0)) 46 (Int32.toNatClampNeg (nI 0)) (vp_nar .boolean (nI 0))) 46 (Int32.toNatClampNeg (nI 1)) (vp_nar .boolean (nI 0))) 29 2), stA (stA (stA g2 29 20 (nI 0)) 46 (Int32.toNatClampNeg (nI 0)) (vp_nar .boolean (nI 0))) 46 (Int32.toNatClampNeg (nI 1)) (vp_nar .boolean (nI 0)))) else (if inb ((nI 2) * v1) 8 = true then (if inb v1 62 = true then (if inb (((nI 2) * v1) + (nI 1)) 8 = true then (if inb v1 4 = true then (sX9_flat_178 n (stA (stA g2 35 (Int32.toNatClampNeg v1) (g2 39 (Int32.toNatClampNeg ((nI 2) * v1)))) 34 (Int32.toNatClampNeg v1) ((stA g2 35 (Int32.toNatClampNeg v1) (g2 39 (Int32.toNatClampNeg ((nI 2) * v1)))) 39 (Int32.toNatClampNeg (((nI 2) * v1) + (nI 1))))) (v1 + (nI 1))) else none) else none) else none) else none)
set_option maxRecDepth 20000 in
set_option maxHeartbeats 1000000 in
theorem kX9_flat_178 (g : Hg) (q : Int64) (q2 : Int64)   (r : Int32 × Hg) : ∀ (n : Nat) (g2 : Hg) (v1 : Int32), sX9_flat_178 n g2 v1 = some r → Ev (Xi (fun x h' => x = r.1 ∧ h' = (g, q, r.2, q2))) MX9_flat 178 [some (.ref 29), some (.int v1)] [] (g, q, g2, q2) := by
  intro n
  induction n with
  | zero => intro _ _ hr; cases hr
  | succ n ih =>
    intro g2 v1 hr
    rw [sX9_flat_178] at hr
    refine Ev.iload_n (pc := 178) dX9_flat_178 rfl ?_
    refine Ev.aload_n (pc := 179) dX9_flat_179 rfl ?_
    refine Ev.get (pc := 180) (C0 := RX9) (T := TX9) (N := 31) (fl_29_2 _ _ _ _) rfl inX9_flat (by decide) lkX9_flat_108 dX9_flat_180 ?_
    refine Ev.icmpge (pc := 183) (tgt := 222) dX9_flat_183 (by decide) (fun c_6 => ?_) (fun c_6 => ?_)
    · have hr := ifp hr c_6
      refine Ev.aload_n (pc := 222) dX9_flat_222 rfl ?_
      refine Ev.iconst (pc := 223) (v := nI 0) dX9_flat_223 (by decide) ?_
      refine Ev.put (pc := 224) (C0 := RX9) (T := TX9) (N := 31) (ty := .int) (pu_29_20 _ _ _ _ _) rfl inX9_flat tyX9_ok nmX9 (by decide) lkX9_flat_111 rfl (by decide +kernel) (fun _ => rfl) (fun _ => rfl) dX9_flat_224 ?_
      refine Ev.aload_n (pc := 227) dX9_flat_227 rfl ?_
      refine Ev.get (pc := 228) (C0 := RX9) (T := TX9) (N := 31) (fl_29_29 _ _ _ _) rfl inX9_flat (by decide) lkX9_flat_58 dX9_flat_228 ?_
      refine Ev.iconst (pc := 231) (v := nI 0) dX9_flat_231 (by decide) ?_
      refine Ev.iconst (pc := 232) (v := nI 0) dX9_flat_232 (by decide) ?_
      refine Ev.zast (pc := 233) (ar_46 _ _ _ _) (vp_in_nI (n := 0) (N := 2) (by decide) (by decide)) (se_46 _ _ _ _ _) dX9_flat_233 ?_
      refine Ev.aload_n (pc := 234) dX9_flat_234 rfl ?_
      refine Ev.get (pc := 235) (C0 := RX9) (T := TX9) (N := 31) (fl_29_29 _ _ _ _) rfl inX9_flat (by decide) lkX9_flat_58 dX9_flat_235 ?_
      refine Ev.iconst (pc := 238) (v := nI 1) dX9_flat_238 (by decide) ?_
      refine Ev.iconst (pc := 239) (v := nI 0) dX9_flat_239 (by decide) ?_
      refine Ev.zast (pc := 240) (ar_46 _ _ _ _) (vp_in_nI (n := 1) (N := 2) (by decide) (by decide)) (se_46 _ _ _ _ _) dX9_flat_240 ?_
      refine Ev.bipush (pc := 241) (v := nI 100) dX9_flat_241 (by decide) ?_
      refine Ev.aload_n (pc := 243) dX9_flat_243 rfl ?_
      refine Ev.get (pc := 244) (C0 := RX9) (T := TX9) (N := 31) (fl_29_0 _ _ _ _) rfl inX9_flat (by decide) lkX9_flat_102 dX9_flat_244 ?_
      refine Ev.imul (pc := 247) dX9_flat_247 ?_
      refine Ev.bipush (pc := 248) (v := nI 10) dX9_flat_248 (by decide) ?_
      refine Ev.aload_n (pc := 250) dX9_flat_250 rfl ?_
      refine Ev.get (pc := 251) (C0 := RX9) (T := TX9) (N := 31) (fl_29_1 _ _ _ _) rfl inX9_flat (by decide) lkX9_flat_105 dX9_flat_251 ?_
      refine Ev.imul (pc := 254) dX9_flat_254 ?_
      refine Ev.iadd (pc := 255) dX9_flat_255 ?_
      refine Ev.aload_n (pc := 256) dX9_flat_256 rfl ?_
      refine Ev.get (pc := 257) (C0 := RX9) (T := TX9) (N := 31) (fl_29_2 _ _ _ _) rfl inX9_flat (by decide) lkX9_flat_108 dX9_flat_257 ?_
      refine Ev.iadd (pc := 260) dX9_flat_260 ?_
      cases hr
      exact Ev.iret rfl rfl dX9_flat_261 ⟨rfl, rfl⟩
    · have hr := ifn hr c_6
      refine Ev.aload_n (pc := 186) dX9_flat_186 rfl ?_
      refine Ev.get (pc := 187) (C0 := RX9) (T := TX9) (N := 31) (fl_29_8 _ _ _ _) rfl inX9_flat (by decide) lkX9_flat_25 dX9_flat_187 ?_
      refine Ev.iload_n (pc := 190) dX9_flat_190 rfl ?_
      refine Ev.aload_n (pc := 191) dX9_flat_191 rfl ?_
      refine Ev.get (pc := 192) (C0 := RX9) (T := TX9) (N := 31) (fl_29_12 _ _ _ _) rfl inX9_flat (by decide) lkX9_flat_37 dX9_flat_192 ?_
      refine Ev.iconst (pc := 195) (v := nI 2) dX9_flat_195 (by decide) ?_
      refine Ev.iload_n (pc := 196) dX9_flat_196 rfl ?_
      refine Ev.imul (pc := 197) dX9_flat_197 ?_
      obtain ⟨c_7, hr⟩ := ckB hr
      refine Ev.iald (pc := 198) (ar_39 _ _ _ _) (inb_in c_7) dX9_flat_198 ?_
      obtain ⟨c_8, hr⟩ := ckB hr
      refine Ev.iast (pc := 199) (ar_35 _ _ _ _) (inb_in c_8) (se_35 _ _ _ _ _) dX9_flat_199 ?_
      refine Ev.aload_n (pc := 200) dX9_flat_200 rfl ?_
      refine Ev.get (pc := 201) (C0 := RX9) (T := TX9) (N := 31) (fl_29_7 _ _ _ _) rfl inX9_flat (by decide) lkX9_flat_22 dX9_flat_201 ?_
      refine Ev.iload_n (pc := 204) dX9_flat_204 rfl ?_
      refine Ev.aload_n (pc := 205) dX9_flat_205 rfl ?_
      refine Ev.get (pc := 206) (C0 := RX9) (T := TX9) (N := 31) (fl_29_12 _ _ _ _) rfl inX9_flat (by decide) lkX9_flat_37 dX9_flat_206 ?_
      refine Ev.iconst (pc := 209) (v := nI 2) dX9_flat_209 (by decide) ?_
      refine Ev.iload_n (pc := 210) dX9_flat_210 rfl ?_
      refine Ev.imul (pc := 211) dX9_flat_211 ?_
      refine Ev.iconst (pc := 212) (v := nI 1) dX9_flat_212 (by decide) ?_
      refine Ev.iadd (pc := 213) dX9_flat_213 ?_
      obtain ⟨c_9, hr⟩ := ckB hr
      refine Ev.iald (pc := 214) (ar_39 _ _ _ _) (inb_in c_9) dX9_flat_214 ?_
      obtain ⟨c_10, hr⟩ := ckB hr
      refine Ev.iast (pc := 215) (ar_34 _ _ _ _) (inb_in c_10) (se_34 _ _ _ _ _) dX9_flat_215 ?_
      refine Ev.iinc (pc := 216) (v := nI 1) dX9_flat_216 rfl rfl rfl rfl ?_
      refine Ev.goto (pc := 219) (tgt := 178) dX9_flat_219 (by decide) ?_
      exact ih _ _ hr
def sX9_flat_113  : Nat → Hg → Int32 → Option (Int32 × Hg)
  | 0, _, _ => none
  | n + 1, g2, v1 => if (g2 29 1) ≤ v1 then (sX9_flat_178 100 g2 (nI 0)) else (if inb ((nI 3) * v1) 15 = true then (if inb ((nI 8) + v1) 62 = true then (if inb (((nI 3) * v1) + (nI 1)) 15 = true then (if inb v1 5 = true then (if inb (((nI 3) * v1) + (nI 2)) 15 = true then (if inb v1 5 = true then (sX9_flat_113 n (stA (stA (stA g2 35 (Int32.toNatClampNeg ((nI 8) + v1)) (g2 38 (Int32.toNatClampNeg ((nI 3) * v1)))) 32 (Int32.toNatClampNeg v1) ((stA g2 35 (Int32.toNatClampNeg ((nI 8) + v1)) (g2 38 (Int32.toNatClampNeg ((nI 3) * v1)))) 38 (Int32.toNatClampNeg (((nI 3) * v1) + (nI 1))))) 33 (Int32.toNatClampNeg v1) ((stA (stA g2 35 (Int32.toNatClampNeg ((nI 8) + v1)) (g2 38 (Int32.toNatClampNeg ((nI 3) * v1)))) 32 (Int32.toNatClampNeg v1) ((stA g2 35 (Int32.toNatClampNeg ((nI 8) + v1)) (g2 38 (Int32.toNatClampNeg ((nI 3) * v1)))) 38 (Int32.toNatClampNeg (((nI 3) * v1) + (nI 1))))) 38 (Int32.toNatClampNeg (((nI 3) * v1) + (nI 2))))) (v1 + (nI 1))) else none) else none) else none) else none) else none) else none)
set_option maxRecDepth 20000 in
set_option maxHeartbeats 1000000 in
theorem kX9_flat_113 (g : Hg) (q : Int64) (q2 : Int64)   (r : Int32 × Hg) : ∀ (n : Nat) (g2 : Hg) (v1 : Int32), sX9_flat_113 n g2 v1 = some r → Ev (Xi (fun x h' => x = r.1 ∧ h' = (g, q, r.2, q2))) MX9_flat 113 [some (.ref 29), some (.int v1)] [] (g, q, g2, q2) := by
  intro n
  induction n with
  | zero => intro _ _ hr; cases hr
  | succ n ih =>
    intro g2 v1 hr
    rw [sX9_flat_113] at hr
    refine Ev.iload_n (pc := 113) dX9_flat_113 rfl ?_
    refine Ev.aload_n (pc := 114) dX9_flat_114 rfl ?_
    refine Ev.get (pc := 115) (C0 := RX9) (T := TX9) (N := 31) (fl_29_1 _ _ _ _) rfl inX9_flat (by decide) lkX9_flat_105 dX9_flat_115 ?_
    refine Ev.icmpge (pc := 118) (tgt := 176) dX9_flat_118 (by decide) (fun c_5 => ?_) (fun c_5 => ?_)
    · have hr := ifp hr c_5
      refine Ev.iconst (pc := 176) (v := nI 0) dX9_flat_176 (by decide) ?_
      refine Ev.istore_n (pc := 177) dX9_flat_177 rfl rfl ?_
      exact kX9_flat_178 _ _ _  _ 100 _ _ hr
    · have hr := ifn hr c_5
      refine Ev.aload_n (pc := 121) dX9_flat_121 rfl ?_
      refine Ev.get (pc := 122) (C0 := RX9) (T := TX9) (N := 31) (fl_29_8 _ _ _ _) rfl inX9_flat (by decide) lkX9_flat_25 dX9_flat_122 ?_
      refine Ev.bipush (pc := 125) (v := nI 8) dX9_flat_125 (by decide) ?_
      refine Ev.iload_n (pc := 127) dX9_flat_127 rfl ?_
      refine Ev.iadd (pc := 128) dX9_flat_128 ?_
      refine Ev.aload_n (pc := 129) dX9_flat_129 rfl ?_
      refine Ev.get (pc := 130) (C0 := RX9) (T := TX9) (N := 31) (fl_29_11 _ _ _ _) rfl inX9_flat (by decide) lkX9_flat_34 dX9_flat_130 ?_
      refine Ev.iconst (pc := 133) (v := nI 3) dX9_flat_133 (by decide) ?_
      refine Ev.iload_n (pc := 134) dX9_flat_134 rfl ?_
      refine Ev.imul (pc := 135) dX9_flat_135 ?_
      obtain ⟨c_11, hr⟩ := ckB hr
      refine Ev.iald (pc := 136) (ar_38 _ _ _ _) (inb_in c_11) dX9_flat_136 ?_
      obtain ⟨c_12, hr⟩ := ckB hr
      refine Ev.iast (pc := 137) (ar_35 _ _ _ _) (inb_in c_12) (se_35 _ _ _ _ _) dX9_flat_137 ?_
      refine Ev.aload_n (pc := 138) dX9_flat_138 rfl ?_
      refine Ev.get (pc := 139) (C0 := RX9) (T := TX9) (N := 31) (fl_29_5 _ _ _ _) rfl inX9_flat (by decide) lkX9_flat_16 dX9_flat_139 ?_
      refine Ev.iload_n (pc := 142) dX9_flat_142 rfl ?_
      refine Ev.aload_n (pc := 143) dX9_flat_143 rfl ?_
      refine Ev.get (pc := 144) (C0 := RX9) (T := TX9) (N := 31) (fl_29_11 _ _ _ _) rfl inX9_flat (by decide) lkX9_flat_34 dX9_flat_144 ?_
      refine Ev.iconst (pc := 147) (v := nI 3) dX9_flat_147 (by decide) ?_
      refine Ev.iload_n (pc := 148) dX9_flat_148 rfl ?_
      refine Ev.imul (pc := 149) dX9_flat_149 ?_
      refine Ev.iconst (pc := 150) (v := nI 1) dX9_flat_150 (by decide) ?_
      refine Ev.iadd (pc := 151) dX9_flat_151 ?_
      obtain ⟨c_13, hr⟩ := ckB hr
      refine Ev.iald (pc := 152) (ar_38 _ _ _ _) (inb_in c_13) dX9_flat_152 ?_
      obtain ⟨c_14, hr⟩ := ckB hr
      refine Ev.iast (pc := 153) (ar_32 _ _ _ _) (inb_in c_14) (se_32 _ _ _ _ _) dX9_flat_153 ?_
      refine Ev.aload_n (pc := 154) dX9_flat_154 rfl ?_
      refine Ev.get (pc := 155) (C0 := RX9) (T := TX9) (N := 31) (fl_29_6 _ _ _ _) rfl inX9_flat (by decide) lkX9_flat_19 dX9_flat_155 ?_
      refine Ev.iload_n (pc := 158) dX9_flat_158 rfl ?_
      refine Ev.aload_n (pc := 159) dX9_flat_159 rfl ?_
      refine Ev.get (pc := 160) (C0 := RX9) (T := TX9) (N := 31) (fl_29_11 _ _ _ _) rfl inX9_flat (by decide) lkX9_flat_34 dX9_flat_160 ?_
      refine Ev.iconst (pc := 163) (v := nI 3) dX9_flat_163 (by decide) ?_
      refine Ev.iload_n (pc := 164) dX9_flat_164 rfl ?_
      refine Ev.imul (pc := 165) dX9_flat_165 ?_
      refine Ev.iconst (pc := 166) (v := nI 2) dX9_flat_166 (by decide) ?_
      refine Ev.iadd (pc := 167) dX9_flat_167 ?_
      obtain ⟨c_15, hr⟩ := ckB hr
      refine Ev.iald (pc := 168) (ar_38 _ _ _ _) (inb_in c_15) dX9_flat_168 ?_
      obtain ⟨c_16, hr⟩ := ckB hr
      refine Ev.iast (pc := 169) (ar_33 _ _ _ _) (inb_in c_16) (se_33 _ _ _ _ _) dX9_flat_169 ?_
      refine Ev.iinc (pc := 170) (v := nI 1) dX9_flat_170 rfl rfl rfl rfl ?_
      refine Ev.goto (pc := 173) (tgt := 113) dX9_flat_173 (by decide) ?_
      exact ih _ _ hr
def sX9_flat_85  : Nat → Hg → Int32 → Option (Int32 × Hg)
  | 0, _, _ => none
  | n + 1, g2, v1 => if (g2 29 0) ≤ v1 then (sX9_flat_113 100 g2 (nI 0)) else (if inb v1 6 = true then (if inb v1 6 = true then (sX9_flat_85 n (stA g2 31 (Int32.toNatClampNeg v1) (g2 37 (Int32.toNatClampNeg v1))) (v1 + (nI 1))) else none) else none)
set_option maxRecDepth 20000 in
set_option maxHeartbeats 1000000 in
theorem kX9_flat_85 (g : Hg) (q : Int64) (q2 : Int64)   (r : Int32 × Hg) : ∀ (n : Nat) (g2 : Hg) (v1 : Int32), sX9_flat_85 n g2 v1 = some r → Ev (Xi (fun x h' => x = r.1 ∧ h' = (g, q, r.2, q2))) MX9_flat 85 [some (.ref 29), some (.int v1)] [] (g, q, g2, q2) := by
  intro n
  induction n with
  | zero => intro _ _ hr; cases hr
  | succ n ih =>
    intro g2 v1 hr
    rw [sX9_flat_85] at hr
    refine Ev.iload_n (pc := 85) dX9_flat_85 rfl ?_
    refine Ev.aload_n (pc := 86) dX9_flat_86 rfl ?_
    refine Ev.get (pc := 87) (C0 := RX9) (T := TX9) (N := 31) (fl_29_0 _ _ _ _) rfl inX9_flat (by decide) lkX9_flat_102 dX9_flat_87 ?_
    refine Ev.icmpge (pc := 90) (tgt := 111) dX9_flat_90 (by decide) (fun c_4 => ?_) (fun c_4 => ?_)
    · have hr := ifp hr c_4
      refine Ev.iconst (pc := 111) (v := nI 0) dX9_flat_111 (by decide) ?_
      refine Ev.istore_n (pc := 112) dX9_flat_112 rfl rfl ?_
      exact kX9_flat_113 _ _ _  _ 100 _ _ hr
    · have hr := ifn hr c_4
      refine Ev.aload_n (pc := 93) dX9_flat_93 rfl ?_
      refine Ev.get (pc := 94) (C0 := RX9) (T := TX9) (N := 31) (fl_29_4 _ _ _ _) rfl inX9_flat (by decide) lkX9_flat_13 dX9_flat_94 ?_
      refine Ev.iload_n (pc := 97) dX9_flat_97 rfl ?_
      refine Ev.aload_n (pc := 98) dX9_flat_98 rfl ?_
      refine Ev.get (pc := 99) (C0 := RX9) (T := TX9) (N := 31) (fl_29_10 _ _ _ _) rfl inX9_flat (by decide) lkX9_flat_31 dX9_flat_99 ?_
      refine Ev.iload_n (pc := 102) dX9_flat_102 rfl ?_
      obtain ⟨c_17, hr⟩ := ckB hr
      refine Ev.iald (pc := 103) (ar_37 _ _ _ _) (inb_in c_17) dX9_flat_103 ?_
      obtain ⟨c_18, hr⟩ := ckB hr
      refine Ev.iast (pc := 104) (ar_31 _ _ _ _) (inb_in c_18) (se_31 _ _ _ _ _) dX9_flat_104 ?_
      refine Ev.iinc (pc := 105) (v := nI 1) dX9_flat_105 rfl rfl rfl rfl ?_
      refine Ev.goto (pc := 108) (tgt := 85) dX9_flat_108 (by decide) ?_
      exact ih _ _ hr
def sX9_flat_59  : Nat → Hg → Int32 → Option (Int32 × Hg)
  | 0, _, _ => none
  | n + 1, g2, v1 => if (nI 12) ≤ v1 then (sX9_flat_85 100 g2 (nI 0)) else (if inb v1 12 = true then (if inb v1 12 = true then (sX9_flat_59 n (stA g2 30 (Int32.toNatClampNeg v1) (g2 36 (Int32.toNatClampNeg v1))) (v1 + (nI 1))) else none) else none)
set_option maxRecDepth 20000 in
set_option maxHeartbeats 1000000 in
theorem kX9_flat_59 (g : Hg) (q : Int64) (q2 : Int64)   (r : Int32 × Hg) : ∀ (n : Nat) (g2 : Hg) (v1 : Int32), sX9_flat_59 n g2 v1 = some r → Ev (Xi (fun x h' => x = r.1 ∧ h' = (g, q, r.2, q2))) MX9_flat 59 [some (.ref 29), some (.int v1)] [] (g, q, g2, q2) := by
  intro n
  induction n with
  | zero => intro _ _ hr; cases hr
  | succ n ih =>
    intro g2 v1 hr
    rw [sX9_flat_59] at hr
    refine Ev.iload_n (pc := 59) dX9_flat_59 rfl ?_
    refine Ev.bipush (pc := 60) (v := nI 12) dX9_flat_60 (by decide) ?_
    refine Ev.icmpge (pc := 62) (tgt := 83) dX9_flat_62 (by decide) (fun c_3 => ?_) (fun c_3 => ?_)
    · have hr := ifp hr c_3
      refine Ev.iconst (pc := 83) (v := nI 0) dX9_flat_83 (by decide) ?_
      refine Ev.istore_n (pc := 84) dX9_flat_84 rfl rfl ?_
      exact kX9_flat_85 _ _ _  _ 100 _ _ hr
    · have hr := ifn hr c_3
      refine Ev.aload_n (pc := 65) dX9_flat_65 rfl ?_
      refine Ev.get (pc := 66) (C0 := RX9) (T := TX9) (N := 31) (fl_29_3 _ _ _ _) rfl inX9_flat (by decide) lkX9_flat_7 dX9_flat_66 ?_
      refine Ev.iload_n (pc := 69) dX9_flat_69 rfl ?_
      refine Ev.aload_n (pc := 70) dX9_flat_70 rfl ?_
      refine Ev.get (pc := 71) (C0 := RX9) (T := TX9) (N := 31) (fl_29_9 _ _ _ _) rfl inX9_flat (by decide) lkX9_flat_28 dX9_flat_71 ?_
      refine Ev.iload_n (pc := 74) dX9_flat_74 rfl ?_
      obtain ⟨c_19, hr⟩ := ckB hr
      refine Ev.iald (pc := 75) (ar_36 _ _ _ _) (inb_in c_19) dX9_flat_75 ?_
      obtain ⟨c_20, hr⟩ := ckB hr
      refine Ev.iast (pc := 76) (ar_30 _ _ _ _) (inb_in c_20) (se_30 _ _ _ _ _) dX9_flat_76 ?_
      refine Ev.iinc (pc := 77) (v := nI 1) dX9_flat_77 rfl rfl rfl rfl ?_
      refine Ev.goto (pc := 80) (tgt := 59) dX9_flat_80 (by decide) ?_
      exact ih _ _ hr
def sX9_flat_38  : Nat → Hg → Int32 → Option (Int32 × Hg)
  | 0, _, _ => none
  | n + 1, g2, v1 => if (nI 31) ≤ v1 then (sX9_flat_59 100 g2 (nI 0)) else (if inb v1 62 = true then (sX9_flat_38 n (stA g2 35 (Int32.toNatClampNeg v1) (nI 0)) (v1 + (nI 1))) else none)
set_option maxRecDepth 20000 in
set_option maxHeartbeats 1000000 in
theorem kX9_flat_38 (g : Hg) (q : Int64) (q2 : Int64)   (r : Int32 × Hg) : ∀ (n : Nat) (g2 : Hg) (v1 : Int32), sX9_flat_38 n g2 v1 = some r → Ev (Xi (fun x h' => x = r.1 ∧ h' = (g, q, r.2, q2))) MX9_flat 38 [some (.ref 29), some (.int v1)] [] (g, q, g2, q2) := by
  intro n
  induction n with
  | zero => intro _ _ hr; cases hr
  | succ n ih =>
    intro g2 v1 hr
    rw [sX9_flat_38] at hr
    refine Ev.iload_n (pc := 38) dX9_flat_38 rfl ?_
    refine Ev.bipush (pc := 39) (v := nI 31) dX9_flat_39 (by decide) ?_
    refine Ev.icmpge (pc := 41) (tgt := 57) dX9_flat_41 (by decide) (fun c_2 => ?_) (fun c_2 => ?_)
    · have hr := ifp hr c_2
      refine Ev.iconst (pc := 57) (v := nI 0) dX9_flat_57 (by decide) ?_
      refine Ev.istore_n (pc := 58) dX9_flat_58 rfl rfl ?_
      exact kX9_flat_59 _ _ _  _ 100 _ _ hr
    · have hr := ifn hr c_2
      refine Ev.aload_n (pc := 44) dX9_flat_44 rfl ?_
      refine Ev.get (pc := 45) (C0 := RX9) (T := TX9) (N := 31) (fl_29_8 _ _ _ _) rfl inX9_flat (by decide) lkX9_flat_25 dX9_flat_45 ?_
      refine Ev.iload_n (pc := 48) dX9_flat_48 rfl ?_
      refine Ev.iconst (pc := 49) (v := nI 0) dX9_flat_49 (by decide) ?_
      obtain ⟨c_21, hr⟩ := ckB hr
      refine Ev.iast (pc := 50) (ar_35 _ _ _ _) (inb_in c_21) (se_35 _ _ _ _ _) dX9_flat_50 ?_
      refine Ev.iinc (pc := 51) (v := nI 1) dX9_flat_51 rfl rfl rfl rfl ?_
      refine Ev.goto (pc := 54) (tgt := 38) dX9_flat_54 (by decide) ?_
      exact ih _ _ hr
def sX9_flat (g2 : Hg) : Option (Int32 × Hg) := (sX9_readText g2).bind fun x_1 => (if x_1.1 = ((-9)) then (sX9_flat_38 100 (stA (stA (stA x_1.2 29 0 (x_1.2 29 13)) 29 1 ((stA x_1.2 29 0 (x_1.2 29 13)) 29 14)) 29 2 ((stA (stA x_1.2 29 0 (x_1.2 29 13)) 29 1 ((stA x_1.2 29 0 (x_1.2 29 13)) 29 14)) 29 15)) (nI 0)) else (some ((-3), x_1.2)))
set_option maxRecDepth 20000 in
set_option maxHeartbeats 1000000 in
theorem kX9_flat (g : Hg) (q : Int64) (g2 : Hg) (q2 : Int64) {r : Int32 × Hg} (hr : sX9_flat g2 = some r) : CtI MX9_flat [.ref 29] (g, q, g2, q2) (fun x h' => x = r.1 ∧ h' = (g, q, r.2, q2)) := by
  unfold sX9_flat at hr
  refine CtI_L 1 rfl (by decide +kernel) rfl (Nat.le_of_ble_eq_true rfl) ?_
  show Ev _ _ 0 [some (.ref 29), none] [] _
  refine Ev.aload_n (pc := 0) dX9_flat_0 rfl ?_
  obtain ⟨x_1, hx_1, hr⟩ := Option.bind_eq_some_iff.mp hr
  refine Ev.cVi (pc := 1) (As := []) (kX9_readText _ _ _ _ hx_1) rfl rfl (ob_29 _) gX9_flat_X9_readText hdX9_readText rfl ⟨rfl, rfl⟩ ⟨Nat.le_of_ble_eq_true rfl, Nat.le_of_ble_eq_true rfl⟩ (Nat.le_of_ble_eq_true rfl) ⟨Nat.le_of_ble_eq_true rfl, Nat.le_of_ble_eq_true rfl⟩ dX9_flat_1 ?_
  refine Ev.bipush (pc := 4) (v := (-9)) dX9_flat_4 (by decide) ?_
  refine Ev.icmpeq (pc := 6) (tgt := 12) dX9_flat_6 (by decide) (fun c_1 => ?_) (fun c_1 => ?_)
  · have hr := ifp hr c_1
    refine Ev.aload_n (pc := 12) dX9_flat_12 rfl ?_
    refine Ev.aload_n (pc := 13) dX9_flat_13 rfl ?_
    refine Ev.get (pc := 14) (C0 := RX9) (T := TX9) (N := 31) (fl_29_13 _ _ _ _) rfl inX9_flat (by decide) lkX9_flat_81 dX9_flat_14 ?_
    refine Ev.put (pc := 17) (C0 := RX9) (T := TX9) (N := 31) (ty := .int) (pu_29_0 _ _ _ _ _) rfl inX9_flat tyX9_ok nmX9 (by decide) lkX9_flat_102 rfl (by decide +kernel) (fun _ => rfl) (fun _ => rfl) dX9_flat_17 ?_
    refine Ev.aload_n (pc := 20) dX9_flat_20 rfl ?_
    refine Ev.aload_n (pc := 21) dX9_flat_21 rfl ?_
    refine Ev.get (pc := 22) (C0 := RX9) (T := TX9) (N := 31) (fl_29_14 _ _ _ _) rfl inX9_flat (by decide) lkX9_flat_84 dX9_flat_22 ?_
    refine Ev.put (pc := 25) (C0 := RX9) (T := TX9) (N := 31) (ty := .int) (pu_29_1 _ _ _ _ _) rfl inX9_flat tyX9_ok nmX9 (by decide) lkX9_flat_105 rfl (by decide +kernel) (fun _ => rfl) (fun _ => rfl) dX9_flat_25 ?_
    refine Ev.aload_n (pc := 28) dX9_flat_28 rfl ?_
    refine Ev.aload_n (pc := 29) dX9_flat_29 rfl ?_
    refine Ev.get (pc := 30) (C0 := RX9) (T := TX9) (N := 31) (fl_29_15 _ _ _ _) rfl inX9_flat (by decide) lkX9_flat_87 dX9_flat_30 ?_
    refine Ev.put (pc := 33) (C0 := RX9) (T := TX9) (N := 31) (ty := .int) (pu_29_2 _ _ _ _ _) rfl inX9_flat tyX9_ok nmX9 (by decide) lkX9_flat_108 rfl (by decide +kernel) (fun _ => rfl) (fun _ => rfl) dX9_flat_33 ?_
    refine Ev.iconst (pc := 36) (v := nI 0) dX9_flat_36 (by decide) ?_
    refine Ev.istore_n (pc := 37) dX9_flat_37 rfl rfl ?_
    exact kX9_flat_38 _ _ _  _ 100 _ _ hr
  · have hr := ifn hr c_1
    refine Ev.bipush (pc := 9) (v := (-3)) dX9_flat_9 (by decide) ?_
    cases hr
    exact Ev.iret rfl rfl dX9_flat_11 ⟨rfl, rfl⟩
/-! X9_isCell -/
def sX9_isCell (a1 : Int32) : Bool := (sX9_in (Int32.toInt64 a1) (lN 0) ((11 : Int64)))
set_option maxRecDepth 20000 in
set_option maxHeartbeats 1000000 in
theorem kX9_isCell (g : Hg) (q : Int64) (g2 : Hg) (q2 : Int64) (a1 : Int32) : CtI MX9_isCell [.int a1] (g, q, g2, q2) (fun x h' => x = bI ((sX9_isCell a1)) ∧ h' = (g, q, g2, q2)) := by
  generalize hr : sX9_isCell a1 = r
  unfold sX9_isCell at hr
  refine CtI_L 0 rfl (by decide +kernel) rfl (Nat.le_of_ble_eq_true rfl) ?_
  show Ev _ _ 0 [some (.int a1)] [] _
  refine Ev.iload_n (pc := 0) dX9_isCell_0 rfl ?_
  refine Ev.i2l (pc := 1) dX9_isCell_1 ?_
  refine Ev.lconst (pc := 2) (v := lN 0) dX9_isCell_2 rfl ?_
  refine Ev.ldc2 (pc := 3) (v := 11) (by decide +kernel) dX9_isCell_3 ?_
  refine Ev.cSi (pc := 6) (As := [.long _, .long _, .long _]) (kX9_in _ _ _ _ _ _ _) rfl gX9_isCell_X9_in hdX9_in rfl ⟨rfl, rfl⟩ ⟨Nat.le_of_ble_eq_true rfl, Nat.le_of_ble_eq_true rfl⟩ (Nat.le_of_ble_eq_true rfl) ⟨Nat.le_of_ble_eq_true rfl, Nat.le_of_ble_eq_true rfl⟩ dX9_isCell_6 ?_
  subst hr
  exact Ev.iret rfl (bI_nar _) dX9_isCell_9 ⟨rfl, rfl⟩
/-! X9_isFind -/
def sX9_isFind (g2 : Hg) (a1 : Int32) : Bool := (sX9_in (Int32.toInt64 a1) (lN 0) (Int32.toInt64 ((g2 29 1) - (nI 1))))
set_option maxRecDepth 20000 in
set_option maxHeartbeats 1000000 in
theorem kX9_isFind (g : Hg) (q : Int64) (g2 : Hg) (q2 : Int64) (a1 : Int32) : CtI MX9_isFind [.ref 29, .int a1] (g, q, g2, q2) (fun x h' => x = bI ((sX9_isFind g2 a1)) ∧ h' = (g, q, g2, q2)) := by
  generalize hr : sX9_isFind g2 a1 = r
  unfold sX9_isFind at hr
  refine CtI_L 0 rfl (by decide +kernel) rfl (Nat.le_of_ble_eq_true rfl) ?_
  show Ev _ _ 0 [some (.ref 29), some (.int a1)] [] _
  refine Ev.iload_n (pc := 0) dX9_isFind_0 rfl ?_
  refine Ev.i2l (pc := 1) dX9_isFind_1 ?_
  refine Ev.lconst (pc := 2) (v := lN 0) dX9_isFind_2 rfl ?_
  refine Ev.aload_n (pc := 3) dX9_isFind_3 rfl ?_
  refine Ev.get (pc := 4) (C0 := RX9) (T := TX9) (N := 31) (fl_29_1 _ _ _ _) rfl inX9_isFind (by decide) lkX9_isFind_105 dX9_isFind_4 ?_
  refine Ev.iconst (pc := 7) (v := nI 1) dX9_isFind_7 (by decide) ?_
  refine Ev.isub (pc := 8) dX9_isFind_8 ?_
  refine Ev.i2l (pc := 9) dX9_isFind_9 ?_
  refine Ev.cSi (pc := 10) (As := [.long _, .long _, .long _]) (kX9_in _ _ _ _ _ _ _) rfl gX9_isFind_X9_in hdX9_in rfl ⟨rfl, rfl⟩ ⟨Nat.le_of_ble_eq_true rfl, Nat.le_of_ble_eq_true rfl⟩ (Nat.le_of_ble_eq_true rfl) ⟨Nat.le_of_ble_eq_true rfl, Nat.le_of_ble_eq_true rfl⟩ dX9_isFind_10 ?_
  subst hr
  exact Ev.iret rfl (bI_nar _) dX9_isFind_13 ⟨rfl, rfl⟩
/-! X9_isLark -/
def sX9_isLark (g2 : Hg) (a1 : Int32) : Bool := (sX9_in (Int32.toInt64 a1) (lN 0) (Int32.toInt64 ((g2 29 2) - (nI 1))))
set_option maxRecDepth 20000 in
set_option maxHeartbeats 1000000 in
theorem kX9_isLark (g : Hg) (q : Int64) (g2 : Hg) (q2 : Int64) (a1 : Int32) : CtI MX9_isLark [.ref 29, .int a1] (g, q, g2, q2) (fun x h' => x = bI ((sX9_isLark g2 a1)) ∧ h' = (g, q, g2, q2)) := by
  generalize hr : sX9_isLark g2 a1 = r
  unfold sX9_isLark at hr
  refine CtI_L 0 rfl (by decide +kernel) rfl (Nat.le_of_ble_eq_true rfl) ?_
  show Ev _ _ 0 [some (.ref 29), some (.int a1)] [] _
  refine Ev.iload_n (pc := 0) dX9_isLark_0 rfl ?_
  refine Ev.i2l (pc := 1) dX9_isLark_1 ?_
  refine Ev.lconst (pc := 2) (v := lN 0) dX9_isLark_2 rfl ?_
  refine Ev.aload_n (pc := 3) dX9_isLark_3 rfl ?_
  refine Ev.get (pc := 4) (C0 := RX9) (T := TX9) (N := 31) (fl_29_2 _ _ _ _) rfl inX9_isLark (by decide) lkX9_isLark_108 dX9_isLark_4 ?_
  refine Ev.iconst (pc := 7) (v := nI 1) dX9_isLark_7 (by decide) ?_
  refine Ev.isub (pc := 8) dX9_isLark_8 ?_
  refine Ev.i2l (pc := 9) dX9_isLark_9 ?_
  refine Ev.cSi (pc := 10) (As := [.long _, .long _, .long _]) (kX9_in _ _ _ _ _ _ _) rfl gX9_isLark_X9_in hdX9_in rfl ⟨rfl, rfl⟩ ⟨Nat.le_of_ble_eq_true rfl, Nat.le_of_ble_eq_true rfl⟩ (Nat.le_of_ble_eq_true rfl) ⟨Nat.le_of_ble_eq_true rfl, Nat.le_of_ble_eq_true rfl⟩ dX9_isLark_10 ?_
  subst hr
  exact Ev.iret rfl (bI_nar _) dX9_isLark_13 ⟨rfl, rfl⟩
/-! X9_waterOf -/
def sX9_waterOf (g2 : Hg) (a1 : Int32) : Option (Int32) := if (g2 29 0) = 0 then (some (nI 0)) else (if nz (g2 29 0) = true then (if inb (a1 - a1 / (g2 29 0) * (g2 29 0)) 6 = true then (some (g2 31 (Int32.toNatClampNeg (a1 - a1 / (g2 29 0) * (g2 29 0))))) else none) else none)
set_option maxRecDepth 20000 in
set_option maxHeartbeats 1000000 in
theorem kX9_waterOf (g : Hg) (q : Int64) (g2 : Hg) (q2 : Int64) (a1 : Int32) {r : Int32} (hr : sX9_waterOf g2 a1 = some r) : CtI MX9_waterOf [.ref 29, .int a1] (g, q, g2, q2) (fun x h' => x = r ∧ h' = (g, q, g2, q2)) := by
  unfold sX9_waterOf at hr
  refine CtI_L 0 rfl (by decide +kernel) rfl (Nat.le_of_ble_eq_true rfl) ?_
  show Ev _ _ 0 [some (.ref 29), some (.int a1)] [] _
  refine Ev.aload_n (pc := 0) dX9_waterOf_0 rfl ?_
  refine Ev.get (pc := 1) (C0 := RX9) (T := TX9) (N := 31) (fl_29_0 _ _ _ _) rfl inX9_waterOf (by decide) lkX9_waterOf_102 dX9_waterOf_1 ?_
  refine Ev.ifne (pc := 4) (tgt := 11) dX9_waterOf_4 (by decide) (fun c_1 => ?_) (fun c_1 => ?_)
  · have hr := ifn hr c_1
    refine Ev.aload_n (pc := 11) dX9_waterOf_11 rfl ?_
    refine Ev.get (pc := 12) (C0 := RX9) (T := TX9) (N := 31) (fl_29_4 _ _ _ _) rfl inX9_waterOf (by decide) lkX9_waterOf_13 dX9_waterOf_12 ?_
    refine Ev.iload_n (pc := 15) dX9_waterOf_15 rfl ?_
    refine Ev.aload_n (pc := 16) dX9_waterOf_16 rfl ?_
    refine Ev.get (pc := 17) (C0 := RX9) (T := TX9) (N := 31) (fl_29_0 _ _ _ _) rfl inX9_waterOf (by decide) lkX9_waterOf_102 dX9_waterOf_17 ?_
    obtain ⟨c_2, hr⟩ := ckB hr
    refine Ev.irem (pc := 20) dX9_waterOf_20 (nz_ne c_2) ?_
    obtain ⟨c_3, hr⟩ := ckB hr
    refine Ev.iald (pc := 21) (ar_31 _ _ _ _) (inb_in c_3) dX9_waterOf_21 ?_
    cases hr
    exact Ev.iret rfl rfl dX9_waterOf_22 ⟨rfl, rfl⟩
  · have hr := ifp hr c_1
    refine Ev.iconst (pc := 7) (v := nI 0) dX9_waterOf_7 (by decide) ?_
    refine Ev.goto (pc := 8) (tgt := 22) dX9_waterOf_8 (by decide) ?_
    cases hr
    exact Ev.iret rfl rfl dX9_waterOf_22 ⟨rfl, rfl⟩
/-! X9_isBare -/
def sX9_isBare (g2 : Hg) (a1 : Int32) (a2 : Int32) : Option (Bool) := if inb a1 12 = true then ((sX9_waterOf g2 a2).bind fun x_1 => (if (g2 30 (Int32.toNatClampNeg a1)) < x_1 then (some false) else (some true))) else none
set_option maxRecDepth 20000 in
set_option maxHeartbeats 1000000 in
theorem kX9_isBare (g : Hg) (q : Int64) (g2 : Hg) (q2 : Int64) (a1 : Int32) (a2 : Int32) {r : Bool} (hr : sX9_isBare g2 a1 a2 = some r) : CtI MX9_isBare [.ref 29, .int a1, .int a2] (g, q, g2, q2) (fun x h' => x = bI r ∧ h' = (g, q, g2, q2)) := by
  unfold sX9_isBare at hr
  refine CtI_L 0 rfl (by decide +kernel) rfl (Nat.le_of_ble_eq_true rfl) ?_
  show Ev _ _ 0 [some (.ref 29), some (.int a1), some (.int a2)] [] _
  refine Ev.aload_n (pc := 0) dX9_isBare_0 rfl ?_
  refine Ev.get (pc := 1) (C0 := RX9) (T := TX9) (N := 31) (fl_29_3 _ _ _ _) rfl inX9_isBare (by decide) lkX9_isBare_7 dX9_isBare_1 ?_
  refine Ev.iload_n (pc := 4) dX9_isBare_4 rfl ?_
  obtain ⟨c_1, hr⟩ := ckB hr
  refine Ev.iald (pc := 5) (ar_30 _ _ _ _) (inb_in c_1) dX9_isBare_5 ?_
  refine Ev.aload_n (pc := 6) dX9_isBare_6 rfl ?_
  refine Ev.iload_n (pc := 7) dX9_isBare_7 rfl ?_
  obtain ⟨x_1, hx_1, hr⟩ := Option.bind_eq_some_iff.mp hr
  refine Ev.cVi (pc := 8) (As := [.int _]) (kX9_waterOf _ _ _ _ _ hx_1) rfl rfl (ob_29 _) gX9_isBare_X9_waterOf hdX9_waterOf rfl ⟨rfl, rfl⟩ ⟨Nat.le_of_ble_eq_true rfl, Nat.le_of_ble_eq_true rfl⟩ (Nat.le_of_ble_eq_true rfl) ⟨Nat.le_of_ble_eq_true rfl, Nat.le_of_ble_eq_true rfl⟩ dX9_isBare_8 ?_
  refine Ev.icmplt (pc := 11) (tgt := 18) dX9_isBare_11 (by decide) (fun c_2 => ?_) (fun c_2 => ?_)
  · have hr := ifp hr c_2
    refine Ev.iconst (pc := 18) (v := nI 0) dX9_isBare_18 (by decide) ?_
    cases hr
    exact Ev.iret rfl rfl dX9_isBare_19 ⟨rfl, rfl⟩
  · have hr := ifn hr c_2
    refine Ev.iconst (pc := 14) (v := nI 1) dX9_isBare_14 (by decide) ?_
    refine Ev.goto (pc := 15) (tgt := 19) dX9_isBare_15 (by decide) ?_
    cases hr
    exact Ev.iret rfl rfl dX9_isBare_19 ⟨rfl, rfl⟩
/-! X9_stands -/
def sX9_stands (g2 : Hg) (a1 : Int32) (a2 : Int32) (a3 : Int32) : Option (Bool) := if inb a2 12 = true then (if inb a1 4 = true then ((sX9_waterOf g2 a3).bind fun x_1 => (if ((g2 30 (Int32.toNatClampNeg a2)) + (g2 34 (Int32.toNatClampNeg a1))) < x_1 then (some false) else (some true))) else none) else none
set_option maxRecDepth 20000 in
set_option maxHeartbeats 1000000 in
theorem kX9_stands (g : Hg) (q : Int64) (g2 : Hg) (q2 : Int64) (a1 : Int32) (a2 : Int32) (a3 : Int32) {r : Bool} (hr : sX9_stands g2 a1 a2 a3 = some r) : CtI MX9_stands [.ref 29, .int a1, .int a2, .int a3] (g, q, g2, q2) (fun x h' => x = bI r ∧ h' = (g, q, g2, q2)) := by
  unfold sX9_stands at hr
  refine CtI_L 0 rfl (by decide +kernel) rfl (Nat.le_of_ble_eq_true rfl) ?_
  show Ev _ _ 0 [some (.ref 29), some (.int a1), some (.int a2), some (.int a3)] [] _
  refine Ev.aload_n (pc := 0) dX9_stands_0 rfl ?_
  refine Ev.get (pc := 1) (C0 := RX9) (T := TX9) (N := 31) (fl_29_3 _ _ _ _) rfl inX9_stands (by decide) lkX9_stands_7 dX9_stands_1 ?_
  refine Ev.iload_n (pc := 4) dX9_stands_4 rfl ?_
  obtain ⟨c_1, hr⟩ := ckB hr
  refine Ev.iald (pc := 5) (ar_30 _ _ _ _) (inb_in c_1) dX9_stands_5 ?_
  refine Ev.aload_n (pc := 6) dX9_stands_6 rfl ?_
  refine Ev.get (pc := 7) (C0 := RX9) (T := TX9) (N := 31) (fl_29_7 _ _ _ _) rfl inX9_stands (by decide) lkX9_stands_22 dX9_stands_7 ?_
  refine Ev.iload_n (pc := 10) dX9_stands_10 rfl ?_
  obtain ⟨c_2, hr⟩ := ckB hr
  refine Ev.iald (pc := 11) (ar_34 _ _ _ _) (inb_in c_2) dX9_stands_11 ?_
  refine Ev.iadd (pc := 12) dX9_stands_12 ?_
  refine Ev.aload_n (pc := 13) dX9_stands_13 rfl ?_
  refine Ev.iload_n (pc := 14) dX9_stands_14 rfl ?_
  obtain ⟨x_1, hx_1, hr⟩ := Option.bind_eq_some_iff.mp hr
  refine Ev.cVi (pc := 15) (As := [.int _]) (kX9_waterOf _ _ _ _ _ hx_1) rfl rfl (ob_29 _) gX9_stands_X9_waterOf hdX9_waterOf rfl ⟨rfl, rfl⟩ ⟨Nat.le_of_ble_eq_true rfl, Nat.le_of_ble_eq_true rfl⟩ (Nat.le_of_ble_eq_true rfl) ⟨Nat.le_of_ble_eq_true rfl, Nat.le_of_ble_eq_true rfl⟩ dX9_stands_15 ?_
  refine Ev.icmplt (pc := 18) (tgt := 25) dX9_stands_18 (by decide) (fun c_3 => ?_) (fun c_3 => ?_)
  · have hr := ifp hr c_3
    refine Ev.iconst (pc := 25) (v := nI 0) dX9_stands_25 (by decide) ?_
    cases hr
    exact Ev.iret rfl rfl dX9_stands_26 ⟨rfl, rfl⟩
  · have hr := ifn hr c_3
    refine Ev.iconst (pc := 21) (v := nI 1) dX9_stands_21 (by decide) ?_
    refine Ev.goto (pc := 22) (tgt := 26) dX9_stands_22 (by decide) ?_
    cases hr
    exact Ev.iret rfl rfl dX9_stands_26 ⟨rfl, rfl⟩
/-! X9_goneTo -/
def sX9_goneTo (a1 : Int32) (a2 : Int32) : Int32 := if a2 = nI 0 then (a1) else (if a2 = nI 1 then (if (a1 - a1 / (nI 4) * (nI 4)) ≤ 0 then (((-9))) else ((a1 - (nI 1)))) else (if a2 = nI 2 then (if (nI 3) ≤ (a1 - a1 / (nI 4) * (nI 4)) then (((-9))) else ((a1 + (nI 1)))) else (if a2 = nI 3 then (if a1 ≤ (nI 3) then (((-9))) else ((a1 - (nI 4)))) else (if (nI 8) ≤ a1 then (((-9))) else ((a1 + (nI 4)))))))
set_option maxRecDepth 20000 in
set_option maxHeartbeats 1000000 in
theorem kX9_goneTo (g : Hg) (q : Int64) (g2 : Hg) (q2 : Int64) (a1 : Int32) (a2 : Int32) : CtI MX9_goneTo [.int a1, .int a2] (g, q, g2, q2) (fun x h' => x = (sX9_goneTo a1 a2) ∧ h' = (g, q, g2, q2)) := by
  generalize hr : sX9_goneTo a1 a2 = r
  unfold sX9_goneTo at hr
  refine CtI_L 0 rfl (by decide +kernel) rfl (Nat.le_of_ble_eq_true rfl) ?_
  show Ev _ _ 0 [some (.int a1), some (.int a2)] [] _
  refine Ev.iload_n (pc := 0) dX9_goneTo_0 rfl ?_
  by_cases c_1 : a2 = nI 0
  · have hr := ifp hr c_1
    refine Ev.tableK (pc := 1) (tgt := 32) 0 c_1 (by decide) dX9_goneTo_1 (by decide) rfl (by decide) ?_
    refine Ev.iload_n (pc := 32) dX9_goneTo_32 rfl ?_
    subst hr
    exact Ev.iret rfl rfl dX9_goneTo_33 ⟨rfl, rfl⟩
  have hr := ifn hr c_1
  by_cases c_2 : a2 = nI 1
  · have hr := ifp hr c_2
    refine Ev.tableK (pc := 1) (tgt := 34) 1 c_2 (by decide) dX9_goneTo_1 (by decide) rfl (by decide) ?_
    refine Ev.iload_n (pc := 34) dX9_goneTo_34 rfl ?_
    refine Ev.iconst (pc := 35) (v := nI 4) dX9_goneTo_35 (by decide) ?_
    refine Ev.irem (pc := 36) dX9_goneTo_36 (by decide) ?_
    refine Ev.ifle (pc := 37) (tgt := 46) dX9_goneTo_37 (by decide) (fun c_3 => ?_) (fun c_3 => ?_)
    · have hr := ifp hr c_3
      refine Ev.bipush (pc := 46) (v := (-9)) dX9_goneTo_46 (by decide) ?_
      subst hr
      exact Ev.iret rfl rfl dX9_goneTo_48 ⟨rfl, rfl⟩
    · have hr := ifn hr c_3
      refine Ev.iload_n (pc := 40) dX9_goneTo_40 rfl ?_
      refine Ev.iconst (pc := 41) (v := nI 1) dX9_goneTo_41 (by decide) ?_
      refine Ev.isub (pc := 42) dX9_goneTo_42 ?_
      refine Ev.goto (pc := 43) (tgt := 48) dX9_goneTo_43 (by decide) ?_
      subst hr
      exact Ev.iret rfl rfl dX9_goneTo_48 ⟨rfl, rfl⟩
  have hr := ifn hr c_2
  by_cases c_4 : a2 = nI 2
  · have hr := ifp hr c_4
    refine Ev.tableK (pc := 1) (tgt := 49) 2 c_4 (by decide) dX9_goneTo_1 (by decide) rfl (by decide) ?_
    refine Ev.iload_n (pc := 49) dX9_goneTo_49 rfl ?_
    refine Ev.iconst (pc := 50) (v := nI 4) dX9_goneTo_50 (by decide) ?_
    refine Ev.irem (pc := 51) dX9_goneTo_51 (by decide) ?_
    refine Ev.iconst (pc := 52) (v := nI 3) dX9_goneTo_52 (by decide) ?_
    refine Ev.icmpge (pc := 53) (tgt := 62) dX9_goneTo_53 (by decide) (fun c_5 => ?_) (fun c_5 => ?_)
    · have hr := ifp hr c_5
      refine Ev.bipush (pc := 62) (v := (-9)) dX9_goneTo_62 (by decide) ?_
      subst hr
      exact Ev.iret rfl rfl dX9_goneTo_64 ⟨rfl, rfl⟩
    · have hr := ifn hr c_5
      refine Ev.iload_n (pc := 56) dX9_goneTo_56 rfl ?_
      refine Ev.iconst (pc := 57) (v := nI 1) dX9_goneTo_57 (by decide) ?_
      refine Ev.iadd (pc := 58) dX9_goneTo_58 ?_
      refine Ev.goto (pc := 59) (tgt := 64) dX9_goneTo_59 (by decide) ?_
      subst hr
      exact Ev.iret rfl rfl dX9_goneTo_64 ⟨rfl, rfl⟩
  have hr := ifn hr c_4
  by_cases c_6 : a2 = nI 3
  · have hr := ifp hr c_6
    refine Ev.tableK (pc := 1) (tgt := 65) 3 c_6 (by decide) dX9_goneTo_1 (by decide) rfl (by decide) ?_
    refine Ev.iload_n (pc := 65) dX9_goneTo_65 rfl ?_
    refine Ev.iconst (pc := 66) (v := nI 3) dX9_goneTo_66 (by decide) ?_
    refine Ev.icmple (pc := 67) (tgt := 76) dX9_goneTo_67 (by decide) (fun c_7 => ?_) (fun c_7 => ?_)
    · have hr := ifp hr c_7
      refine Ev.bipush (pc := 76) (v := (-9)) dX9_goneTo_76 (by decide) ?_
      subst hr
      exact Ev.iret rfl rfl dX9_goneTo_78 ⟨rfl, rfl⟩
    · have hr := ifn hr c_7
      refine Ev.iload_n (pc := 70) dX9_goneTo_70 rfl ?_
      refine Ev.iconst (pc := 71) (v := nI 4) dX9_goneTo_71 (by decide) ?_
      refine Ev.isub (pc := 72) dX9_goneTo_72 ?_
      refine Ev.goto (pc := 73) (tgt := 78) dX9_goneTo_73 (by decide) ?_
      subst hr
      exact Ev.iret rfl rfl dX9_goneTo_78 ⟨rfl, rfl⟩
  have hr := ifn hr c_6
  refine Ev.tableD (pc := 1) (tgt := 79) 4 (by decide) (fun j hj => by
      have hj2 : j = 0 ∨ j = 1 ∨ j = 2 ∨ j = 3 := by omega
      rcases hj2 with rfl | rfl | rfl | rfl <;> assumption) rfl dX9_goneTo_1 (by decide) ?_
  refine Ev.iload_n (pc := 79) dX9_goneTo_79 rfl ?_
  refine Ev.bipush (pc := 80) (v := nI 8) dX9_goneTo_80 (by decide) ?_
  refine Ev.icmpge (pc := 82) (tgt := 91) dX9_goneTo_82 (by decide) (fun c_8 => ?_) (fun c_8 => ?_)
  · have hr := ifp hr c_8
    refine Ev.bipush (pc := 91) (v := (-9)) dX9_goneTo_91 (by decide) ?_
    subst hr
    exact Ev.iret rfl rfl dX9_goneTo_93 ⟨rfl, rfl⟩
  · have hr := ifn hr c_8
    refine Ev.iload_n (pc := 85) dX9_goneTo_85 rfl ?_
    refine Ev.iconst (pc := 86) (v := nI 4) dX9_goneTo_86 (by decide) ?_
    refine Ev.iadd (pc := 87) dX9_goneTo_87 ?_
    refine Ev.goto (pc := 88) (tgt := 93) dX9_goneTo_88 (by decide) ?_
    subst hr
    exact Ev.iret rfl rfl dX9_goneTo_93 ⟨rfl, rfl⟩
/-! X9_canWalk -/
def sX9_canWalk (g2 : Hg) (a1 : Int32) (a2 : Int32) (a3 : Int32) : Option (Bool) := if (sX9_isLark g2 a2) = true then (if (sX9_in (Int32.toInt64 a3) (lN 1) ((4 : Int64))) = true then (if inb (((nI 31) * a1) + (nI 28)) 62 = true then (if (sX9_has (g2 35 (Int32.toNatClampNeg (((nI 31) * a1) + (nI 28)))) a2) = true then (some false) else (if inb (((nI 31) * a1) + (nI 29)) 62 = true then (if (sX9_has (g2 35 (Int32.toNatClampNeg (((nI 31) * a1) + (nI 29)))) a2) = true then (some false) else (if inb (((nI 31) * a1) + a2) 62 = true then (if (sX9_goneTo (g2 35 (Int32.toNatClampNeg (((nI 31) * a1) + a2))) a3) = ((-9)) then (some false) else (if inb (((nI 31) * a1) + (nI 30)) 62 = true then ((sX9_stands g2 a2 (sX9_goneTo (g2 35 (Int32.toNatClampNeg (((nI 31) * a1) + a2))) a3) (g2 35 (Int32.toNatClampNeg (((nI 31) * a1) + (nI 30))))).bind fun x_1 => (if x_1 = true then (some true) else (some false))) else none)) else none)) else none)) else none) else (some false)) else (some false)
set_option maxRecDepth 20000 in
set_option maxHeartbeats 1000000 in
theorem kX9_canWalk (g : Hg) (q : Int64) (g2 : Hg) (q2 : Int64) (a1 : Int32) (a2 : Int32) (a3 : Int32) {r : Bool} (hr : sX9_canWalk g2 a1 a2 a3 = some r) : CtI MX9_canWalk [.ref 29, .int a1, .int a2, .int a3] (g, q, g2, q2) (fun x h' => x = bI r ∧ h' = (g, q, g2, q2)) := by
  unfold sX9_canWalk at hr
  refine CtI_L 2 rfl (by decide +kernel) rfl (Nat.le_of_ble_eq_true rfl) ?_
  show Ev _ _ 0 [some (.ref 29), some (.int a1), some (.int a2), some (.int a3), none, none] [] _
  refine Ev.bipush (pc := 0) (v := nI 31) dX9_canWalk_0 (by decide) ?_
  refine Ev.iload_n (pc := 2) dX9_canWalk_2 rfl ?_
  refine Ev.imul (pc := 3) dX9_canWalk_3 ?_
  refine Ev.istore (pc := 4) dX9_canWalk_4 rfl rfl ?_
  refine Ev.aload_n (pc := 6) dX9_canWalk_6 rfl ?_
  refine Ev.iload_n (pc := 7) dX9_canWalk_7 rfl ?_
  refine Ev.cVi (pc := 8) (As := [.int _]) (kX9_isLark _ _ _ _ _) rfl rfl (ob_29 _) gX9_canWalk_X9_isLark hdX9_isLark rfl ⟨rfl, rfl⟩ ⟨Nat.le_of_ble_eq_true rfl, Nat.le_of_ble_eq_true rfl⟩ (Nat.le_of_ble_eq_true rfl) ⟨Nat.le_of_ble_eq_true rfl, Nat.le_of_ble_eq_true rfl⟩ dX9_canWalk_8 ?_
  refine Ev.ifeqB (pc := 11) (tgt := 60) dX9_canWalk_11 (by decide) (fun c_1 => ?_) (fun c_1 => ?_)
  · have hr := ifn hr (ntr c_1)
    refine Ev.iconst (pc := 60) (v := nI 0) dX9_canWalk_60 (by decide) ?_
    cases hr
    exact Ev.iret rfl rfl dX9_canWalk_61 ⟨rfl, rfl⟩
  · have hr := ifp hr c_1
    refine Ev.iload_n (pc := 14) dX9_canWalk_14 rfl ?_
    refine Ev.i2l (pc := 15) dX9_canWalk_15 ?_
    refine Ev.lconst (pc := 16) (v := lN 1) dX9_canWalk_16 rfl ?_
    refine Ev.ldc2 (pc := 17) (v := 4) (by decide +kernel) dX9_canWalk_17 ?_
    refine Ev.cSi (pc := 20) (As := [.long _, .long _, .long _]) (kX9_in _ _ _ _ _ _ _) rfl gX9_canWalk_X9_in hdX9_in rfl ⟨rfl, rfl⟩ ⟨Nat.le_of_ble_eq_true rfl, Nat.le_of_ble_eq_true rfl⟩ (Nat.le_of_ble_eq_true rfl) ⟨Nat.le_of_ble_eq_true rfl, Nat.le_of_ble_eq_true rfl⟩ dX9_canWalk_20 ?_
    refine Ev.ifeqB (pc := 23) (tgt := 60) dX9_canWalk_23 (by decide) (fun c_2 => ?_) (fun c_2 => ?_)
    · have hr := ifn hr (ntr c_2)
      refine Ev.iconst (pc := 60) (v := nI 0) dX9_canWalk_60 (by decide) ?_
      cases hr
      exact Ev.iret rfl rfl dX9_canWalk_61 ⟨rfl, rfl⟩
    · have hr := ifp hr c_2
      refine Ev.aload_n (pc := 26) dX9_canWalk_26 rfl ?_
      refine Ev.get (pc := 27) (C0 := RX9) (T := TX9) (N := 31) (fl_29_8 _ _ _ _) rfl inX9_canWalk (by decide) lkX9_canWalk_25 dX9_canWalk_27 ?_
      refine Ev.iload (pc := 30) dX9_canWalk_30 rfl ?_
      refine Ev.bipush (pc := 32) (v := nI 28) dX9_canWalk_32 (by decide) ?_
      refine Ev.iadd (pc := 34) dX9_canWalk_34 ?_
      obtain ⟨c_3, hr⟩ := ckB hr
      refine Ev.iald (pc := 35) (ar_35 _ _ _ _) (inb_in c_3) dX9_canWalk_35 ?_
      refine Ev.iload_n (pc := 36) dX9_canWalk_36 rfl ?_
      refine Ev.cSi (pc := 37) (As := [.int _, .int _]) (kX9_has _ _ _ _ _ _) rfl gX9_canWalk_X9_has hdX9_has rfl ⟨rfl, rfl⟩ ⟨Nat.le_of_ble_eq_true rfl, Nat.le_of_ble_eq_true rfl⟩ (Nat.le_of_ble_eq_true rfl) ⟨Nat.le_of_ble_eq_true rfl, Nat.le_of_ble_eq_true rfl⟩ dX9_canWalk_37 ?_
      refine Ev.ifneB (pc := 40) (tgt := 60) dX9_canWalk_40 (by decide) (fun c_4 => ?_) (fun c_4 => ?_)
      · have hr := ifp hr c_4
        refine Ev.iconst (pc := 60) (v := nI 0) dX9_canWalk_60 (by decide) ?_
        cases hr
        exact Ev.iret rfl rfl dX9_canWalk_61 ⟨rfl, rfl⟩
      · have hr := ifn hr (ntr c_4)
        refine Ev.aload_n (pc := 43) dX9_canWalk_43 rfl ?_
        refine Ev.get (pc := 44) (C0 := RX9) (T := TX9) (N := 31) (fl_29_8 _ _ _ _) rfl inX9_canWalk (by decide) lkX9_canWalk_25 dX9_canWalk_44 ?_
        refine Ev.iload (pc := 47) dX9_canWalk_47 rfl ?_
        refine Ev.bipush (pc := 49) (v := nI 29) dX9_canWalk_49 (by decide) ?_
        refine Ev.iadd (pc := 51) dX9_canWalk_51 ?_
        obtain ⟨c_5, hr⟩ := ckB hr
        refine Ev.iald (pc := 52) (ar_35 _ _ _ _) (inb_in c_5) dX9_canWalk_52 ?_
        refine Ev.iload_n (pc := 53) dX9_canWalk_53 rfl ?_
        refine Ev.cSi (pc := 54) (As := [.int _, .int _]) (kX9_has _ _ _ _ _ _) rfl gX9_canWalk_X9_has hdX9_has rfl ⟨rfl, rfl⟩ ⟨Nat.le_of_ble_eq_true rfl, Nat.le_of_ble_eq_true rfl⟩ (Nat.le_of_ble_eq_true rfl) ⟨Nat.le_of_ble_eq_true rfl, Nat.le_of_ble_eq_true rfl⟩ dX9_canWalk_54 ?_
        refine Ev.ifeqB (pc := 57) (tgt := 62) dX9_canWalk_57 (by decide) (fun c_6 => ?_) (fun c_6 => ?_)
        · have hr := ifn hr (ntr c_6)
          refine Ev.aload_n (pc := 62) dX9_canWalk_62 rfl ?_
          refine Ev.get (pc := 63) (C0 := RX9) (T := TX9) (N := 31) (fl_29_8 _ _ _ _) rfl inX9_canWalk (by decide) lkX9_canWalk_25 dX9_canWalk_63 ?_
          refine Ev.iload (pc := 66) dX9_canWalk_66 rfl ?_
          refine Ev.iload_n (pc := 68) dX9_canWalk_68 rfl ?_
          refine Ev.iadd (pc := 69) dX9_canWalk_69 ?_
          obtain ⟨c_7, hr⟩ := ckB hr
          refine Ev.iald (pc := 70) (ar_35 _ _ _ _) (inb_in c_7) dX9_canWalk_70 ?_
          refine Ev.iload_n (pc := 71) dX9_canWalk_71 rfl ?_
          refine Ev.cSi (pc := 72) (As := [.int _, .int _]) (kX9_goneTo _ _ _ _ _ _) rfl gX9_canWalk_X9_goneTo hdX9_goneTo rfl ⟨rfl, rfl⟩ ⟨Nat.le_of_ble_eq_true rfl, Nat.le_of_ble_eq_true rfl⟩ (Nat.le_of_ble_eq_true rfl) ⟨Nat.le_of_ble_eq_true rfl, Nat.le_of_ble_eq_true rfl⟩ dX9_canWalk_72 ?_
          refine Ev.istore (pc := 75) dX9_canWalk_75 rfl rfl ?_
          refine Ev.iload (pc := 77) dX9_canWalk_77 rfl ?_
          refine Ev.bipush (pc := 79) (v := (-9)) dX9_canWalk_79 (by decide) ?_
          refine Ev.icmpeq (pc := 81) (tgt := 108) dX9_canWalk_81 (by decide) (fun c_8 => ?_) (fun c_8 => ?_)
          · have hr := ifp hr c_8
            refine Ev.iconst (pc := 108) (v := nI 0) dX9_canWalk_108 (by decide) ?_
            cases hr
            exact Ev.iret rfl rfl dX9_canWalk_109 ⟨rfl, rfl⟩
          · have hr := ifn hr c_8
            refine Ev.aload_n (pc := 84) dX9_canWalk_84 rfl ?_
            refine Ev.iload_n (pc := 85) dX9_canWalk_85 rfl ?_
            refine Ev.iload (pc := 86) dX9_canWalk_86 rfl ?_
            refine Ev.aload_n (pc := 88) dX9_canWalk_88 rfl ?_
            refine Ev.get (pc := 89) (C0 := RX9) (T := TX9) (N := 31) (fl_29_8 _ _ _ _) rfl inX9_canWalk (by decide) lkX9_canWalk_25 dX9_canWalk_89 ?_
            refine Ev.iload (pc := 92) dX9_canWalk_92 rfl ?_
            refine Ev.bipush (pc := 94) (v := nI 30) dX9_canWalk_94 (by decide) ?_
            refine Ev.iadd (pc := 96) dX9_canWalk_96 ?_
            obtain ⟨c_9, hr⟩ := ckB hr
            refine Ev.iald (pc := 97) (ar_35 _ _ _ _) (inb_in c_9) dX9_canWalk_97 ?_
            obtain ⟨x_1, hx_1, hr⟩ := Option.bind_eq_some_iff.mp hr
            refine Ev.cVi (pc := 98) (As := [.int _, .int _, .int _]) (kX9_stands _ _ _ _ _ _ _ hx_1) rfl rfl (ob_29 _) gX9_canWalk_X9_stands hdX9_stands rfl ⟨rfl, rfl⟩ ⟨Nat.le_of_ble_eq_true rfl, Nat.le_of_ble_eq_true rfl⟩ (Nat.le_of_ble_eq_true rfl) ⟨Nat.le_of_ble_eq_true rfl, Nat.le_of_ble_eq_true rfl⟩ dX9_canWalk_98 ?_
            refine Ev.ifeqB (pc := 101) (tgt := 108) dX9_canWalk_101 (by decide) (fun c_10 => ?_) (fun c_10 => ?_)
            · have hr := ifn hr (ntr c_10)
              refine Ev.iconst (pc := 108) (v := nI 0) dX9_canWalk_108 (by decide) ?_
              cases hr
              exact Ev.iret rfl rfl dX9_canWalk_109 ⟨rfl, rfl⟩
            · have hr := ifp hr c_10
              refine Ev.iconst (pc := 104) (v := nI 1) dX9_canWalk_104 (by decide) ?_
              refine Ev.goto (pc := 105) (tgt := 109) dX9_canWalk_105 (by decide) ?_
              cases hr
              exact Ev.iret rfl rfl dX9_canWalk_109 ⟨rfl, rfl⟩
        · have hr := ifp hr c_6
          refine Ev.iconst (pc := 60) (v := nI 0) dX9_canWalk_60 (by decide) ?_
          cases hr
          exact Ev.iret rfl rfl dX9_canWalk_61 ⟨rfl, rfl⟩
/-! X9_walkOn -/
def sX9_walkOn (g2 : Hg) (a1 : Int32) (a2 : Int32) (a3 : Int32) : Option (Hg) := if inb (((nI 31) * a1) + a2) 62 = true then (if inb (((nI 31) * a1) + a2) 62 = true then (if inb (((nI 31) * a1) + (nI 29)) 62 = true then (if inb (((nI 31) * a1) + (nI 29)) 62 = true then (some (stA (stA g2 35 (Int32.toNatClampNeg (((nI 31) * a1) + a2)) (sX9_goneTo (g2 35 (Int32.toNatClampNeg (((nI 31) * a1) + a2))) a3)) 35 (Int32.toNatClampNeg (((nI 31) * a1) + (nI 29))) (((stA g2 35 (Int32.toNatClampNeg (((nI 31) * a1) + a2)) (sX9_goneTo (g2 35 (Int32.toNatClampNeg (((nI 31) * a1) + a2))) a3)) 35 (Int32.toNatClampNeg (((nI 31) * a1) + (nI 29)))) ||| ((nI 1) <<< (a2 &&& 31))))) else none) else none) else none) else none
set_option maxRecDepth 20000 in
set_option maxHeartbeats 1000000 in
theorem kX9_walkOn (g : Hg) (q : Int64) (g2 : Hg) (q2 : Int64) (a1 : Int32) (a2 : Int32) (a3 : Int32) {r : Hg} (hr : sX9_walkOn g2 a1 a2 a3 = some r) : CtV MX9_walkOn [.ref 29, .int a1, .int a2, .int a3] (g, q, g2, q2) (fun h' => h' = (g, q, r, q2)) := by
  unfold sX9_walkOn at hr
  refine CtV_L 0 rfl (by decide +kernel) rfl (Nat.le_of_ble_eq_true rfl) ?_
  show Ev _ _ 0 [some (.ref 29), some (.int a1), some (.int a2), some (.int a3)] [] _
  refine Ev.aload_n (pc := 0) dX9_walkOn_0 rfl ?_
  refine Ev.get (pc := 1) (C0 := RX9) (T := TX9) (N := 31) (fl_29_8 _ _ _ _) rfl inX9_walkOn (by decide) lkX9_walkOn_25 dX9_walkOn_1 ?_
  refine Ev.bipush (pc := 4) (v := nI 31) dX9_walkOn_4 (by decide) ?_
  refine Ev.iload_n (pc := 6) dX9_walkOn_6 rfl ?_
  refine Ev.imul (pc := 7) dX9_walkOn_7 ?_
  refine Ev.iload_n (pc := 8) dX9_walkOn_8 rfl ?_
  refine Ev.iadd (pc := 9) dX9_walkOn_9 ?_
  refine Ev.aload_n (pc := 10) dX9_walkOn_10 rfl ?_
  refine Ev.get (pc := 11) (C0 := RX9) (T := TX9) (N := 31) (fl_29_8 _ _ _ _) rfl inX9_walkOn (by decide) lkX9_walkOn_25 dX9_walkOn_11 ?_
  refine Ev.bipush (pc := 14) (v := nI 31) dX9_walkOn_14 (by decide) ?_
  refine Ev.iload_n (pc := 16) dX9_walkOn_16 rfl ?_
  refine Ev.imul (pc := 17) dX9_walkOn_17 ?_
  refine Ev.iload_n (pc := 18) dX9_walkOn_18 rfl ?_
  refine Ev.iadd (pc := 19) dX9_walkOn_19 ?_
  obtain ⟨c_1, hr⟩ := ckB hr
  refine Ev.iald (pc := 20) (ar_35 _ _ _ _) (inb_in c_1) dX9_walkOn_20 ?_
  refine Ev.iload_n (pc := 21) dX9_walkOn_21 rfl ?_
  refine Ev.cSi (pc := 22) (As := [.int _, .int _]) (kX9_goneTo _ _ _ _ _ _) rfl gX9_walkOn_X9_goneTo hdX9_goneTo rfl ⟨rfl, rfl⟩ ⟨Nat.le_of_ble_eq_true rfl, Nat.le_of_ble_eq_true rfl⟩ (Nat.le_of_ble_eq_true rfl) ⟨Nat.le_of_ble_eq_true rfl, Nat.le_of_ble_eq_true rfl⟩ dX9_walkOn_22 ?_
  obtain ⟨c_2, hr⟩ := ckB hr
  refine Ev.iast (pc := 25) (ar_35 _ _ _ _) (inb_in c_2) (se_35 _ _ _ _ _) dX9_walkOn_25 ?_
  refine Ev.aload_n (pc := 26) dX9_walkOn_26 rfl ?_
  refine Ev.get (pc := 27) (C0 := RX9) (T := TX9) (N := 31) (fl_29_8 _ _ _ _) rfl inX9_walkOn (by decide) lkX9_walkOn_25 dX9_walkOn_27 ?_
  refine Ev.bipush (pc := 30) (v := nI 31) dX9_walkOn_30 (by decide) ?_
  refine Ev.iload_n (pc := 32) dX9_walkOn_32 rfl ?_
  refine Ev.imul (pc := 33) dX9_walkOn_33 ?_
  refine Ev.bipush (pc := 34) (v := nI 29) dX9_walkOn_34 (by decide) ?_
  refine Ev.iadd (pc := 36) dX9_walkOn_36 ?_
  refine Ev.dup2 (pc := 37) dX9_walkOn_37 rfl rfl ?_
  obtain ⟨c_3, hr⟩ := ckB hr
  refine Ev.iald (pc := 38) (ar_35 _ _ _ _) (inb_in c_3) dX9_walkOn_38 ?_
  refine Ev.iconst (pc := 39) (v := nI 1) dX9_walkOn_39 (by decide) ?_
  refine Ev.iload_n (pc := 40) dX9_walkOn_40 rfl ?_
  refine Ev.ishl (pc := 41) dX9_walkOn_41 ?_
  refine Ev.ior (pc := 42) dX9_walkOn_42 ?_
  obtain ⟨c_4, hr⟩ := ckB hr
  refine Ev.iast (pc := 43) (ar_35 _ _ _ _) (inb_in c_4) (se_35 _ _ _ _ _) dX9_walkOn_43 ?_
  cases hr
  exact Ev.vret rfl dX9_walkOn_44 rfl
