set_option maxRecDepth 20000 in
set_option maxHeartbeats 1000000 in
theorem zX1_isLark (g : Hg) (q : Int64) (g2 : Hg) (q2 : Int64) (a1 : Int32) : ZtI MX1_isLark [.ref 2, .int a1] (g, q, g2, q2) (fun x h' => x = bI ((sX1_isLark g a1)) ∧ h' = (g, q, g2, q2)) := by
  generalize hr : sX1_isLark g a1 = r
  unfold sX1_isLark at hr
  refine ZtI_L 0 rfl (by decide +kernel) rfl (Nat.le_of_ble_eq_true rfl) ?_
  show Ez _ _ 0 [some (.ref 2), some (.int a1)] [] _
  refine Ez.iload_n (pc := 0) dX1_isLark_0 rfl ?_
  refine Ez.iflt (pc := 1) (tgt := 21) dX1_isLark_1 (by decide) (fun c_1 => ?_) (fun c_1 => ?_)
  · have hr := ifp hr c_1
    refine Ez.iconst (pc := 21) (v := nI 0) dX1_isLark_21 (by decide) ?_
    subst hr
    exact Ez.iret rfl rfl dX1_isLark_22 ⟨rfl, rfl⟩
  · have hr := ifn hr c_1
    refine Ez.iload_n (pc := 4) dX1_isLark_4 rfl ?_
    refine Ez.aload_n (pc := 5) dX1_isLark_5 rfl ?_
    refine Ez.get (pc := 6) (C0 := RX1) (T := TX1) (N := 10) rfl (fl_2_9 _ _ _ _) rfl inX1_isLark (by decide) lkX1_isLark_40 dX1_isLark_6 ?_
    refine Ez.icmpge (pc := 9) (tgt := 21) dX1_isLark_9 (by decide) (fun c_2 => ?_) (fun c_2 => ?_)
    · have hr := ifp hr c_2
      refine Ez.iconst (pc := 21) (v := nI 0) dX1_isLark_21 (by decide) ?_
      subst hr
      exact Ez.iret rfl rfl dX1_isLark_22 ⟨rfl, rfl⟩
    · have hr := ifn hr c_2
      refine Ez.iload_n (pc := 12) dX1_isLark_12 rfl ?_
      refine Ez.iconst (pc := 13) (v := nI 4) dX1_isLark_13 (by decide) ?_
      refine Ez.icmpge (pc := 14) (tgt := 21) dX1_isLark_14 (by decide) (fun c_3 => ?_) (fun c_3 => ?_)
      · have hr := ifp hr c_3
        refine Ez.iconst (pc := 21) (v := nI 0) dX1_isLark_21 (by decide) ?_
        subst hr
        exact Ez.iret rfl rfl dX1_isLark_22 ⟨rfl, rfl⟩
      · have hr := ifn hr c_3
        refine Ez.iconst (pc := 17) (v := nI 1) dX1_isLark_17 (by decide) ?_
        refine Ez.goto (pc := 18) (tgt := 22) dX1_isLark_18 (by decide) ?_
        subst hr
        exact Ez.iret rfl rfl dX1_isLark_22 ⟨rfl, rfl⟩
set_option maxRecDepth 20000 in
set_option maxHeartbeats 1000000 in
theorem zX1_isFind (g : Hg) (q : Int64) (g2 : Hg) (q2 : Int64) (a1 : Int32) : ZtI MX1_isFind [.ref 2, .int a1] (g, q, g2, q2) (fun x h' => x = bI ((sX1_isFind g a1)) ∧ h' = (g, q, g2, q2)) := by
  generalize hr : sX1_isFind g a1 = r
  unfold sX1_isFind at hr
  refine ZtI_L 0 rfl (by decide +kernel) rfl (Nat.le_of_ble_eq_true rfl) ?_
  show Ez _ _ 0 [some (.ref 2), some (.int a1)] [] _
  refine Ez.iload_n (pc := 0) dX1_isFind_0 rfl ?_
  refine Ez.iflt (pc := 1) (tgt := 21) dX1_isFind_1 (by decide) (fun c_1 => ?_) (fun c_1 => ?_)
  · have hr := ifp hr c_1
    refine Ez.iconst (pc := 21) (v := nI 0) dX1_isFind_21 (by decide) ?_
    subst hr
    exact Ez.iret rfl rfl dX1_isFind_22 ⟨rfl, rfl⟩
  · have hr := ifn hr c_1
    refine Ez.iload_n (pc := 4) dX1_isFind_4 rfl ?_
    refine Ez.aload_n (pc := 5) dX1_isFind_5 rfl ?_
    refine Ez.get (pc := 6) (C0 := RX1) (T := TX1) (N := 10) rfl (fl_2_8 _ _ _ _) rfl inX1_isFind (by decide) lkX1_isFind_37 dX1_isFind_6 ?_
    refine Ez.icmpge (pc := 9) (tgt := 21) dX1_isFind_9 (by decide) (fun c_2 => ?_) (fun c_2 => ?_)
    · have hr := ifp hr c_2
      refine Ez.iconst (pc := 21) (v := nI 0) dX1_isFind_21 (by decide) ?_
      subst hr
      exact Ez.iret rfl rfl dX1_isFind_22 ⟨rfl, rfl⟩
    · have hr := ifn hr c_2
      refine Ez.iload_n (pc := 12) dX1_isFind_12 rfl ?_
      refine Ez.iconst (pc := 13) (v := nI 5) dX1_isFind_13 (by decide) ?_
      refine Ez.icmpge (pc := 14) (tgt := 21) dX1_isFind_14 (by decide) (fun c_3 => ?_) (fun c_3 => ?_)
      · have hr := ifp hr c_3
        refine Ez.iconst (pc := 21) (v := nI 0) dX1_isFind_21 (by decide) ?_
        subst hr
        exact Ez.iret rfl rfl dX1_isFind_22 ⟨rfl, rfl⟩
      · have hr := ifn hr c_3
        refine Ez.iconst (pc := 17) (v := nI 1) dX1_isFind_17 (by decide) ?_
        refine Ez.goto (pc := 18) (tgt := 22) dX1_isFind_18 (by decide) ?_
        subst hr
        exact Ez.iret rfl rfl dX1_isFind_22 ⟨rfl, rfl⟩
set_option maxRecDepth 20000 in
set_option maxHeartbeats 1000000 in
theorem zX1_toldCellOfFind (g : Hg) (q : Int64) (g2 : Hg) (q2 : Int64) (a1 : Int32) {r : Int32} (hr : sX1_toldCellOfFind g a1 = some r) : ZtI MX1_toldCellOfFind [.ref 2, .int a1] (g, q, g2, q2) (fun x h' => x = r ∧ h' = (g, q, g2, q2)) := by
  unfold sX1_toldCellOfFind at hr
  refine ZtI_L 0 rfl (by decide +kernel) rfl (Nat.le_of_ble_eq_true rfl) ?_
  show Ez _ _ 0 [some (.ref 2), some (.int a1)] [] _
  refine Ez.aload_n (pc := 0) dX1_toldCellOfFind_0 rfl ?_
  refine Ez.iload_n (pc := 1) dX1_toldCellOfFind_1 rfl ?_
  refine Ez.cVi (pc := 2) (As := [.int _]) (zX1_isFind _ _ _ _ _) rfl rfl rfl (ob_2 _) gX1_toldCellOfFind_X1_isFind hdX1_isFind rfl ⟨rfl, rfl⟩ ⟨Nat.le_of_ble_eq_true rfl, Nat.le_of_ble_eq_true rfl⟩ (Nat.le_of_ble_eq_true rfl) ⟨Nat.le_of_ble_eq_true rfl, Nat.le_of_ble_eq_true rfl⟩ dX1_toldCellOfFind_2 ?_
  refine Ez.ifeqB (pc := 5) (tgt := 17) dX1_toldCellOfFind_5 (by decide) (fun c_1 => ?_) (fun c_1 => ?_)
  · have hr := ifn hr (ntr c_1)
    refine Ez.bipush (pc := 17) (v := (-9)) dX1_toldCellOfFind_17 (by decide) ?_
    cases hr
    exact Ez.iret rfl rfl dX1_toldCellOfFind_19 ⟨rfl, rfl⟩
  · have hr := ifp hr c_1
    refine Ez.aload_n (pc := 8) dX1_toldCellOfFind_8 rfl ?_
    refine Ez.get (pc := 9) (C0 := RX1) (T := TX1) (N := 10) rfl (fl_2_2 _ _ _ _) rfl inX1_toldCellOfFind (by decide) lkX1_toldCellOfFind_18 dX1_toldCellOfFind_9 ?_
    refine Ez.iload_n (pc := 12) dX1_toldCellOfFind_12 rfl ?_
    obtain ⟨c_2, hr⟩ := ckB hr
    refine Ez.iald (pc := 13) rfl (ar_13 _ _ _ _) (inb_in c_2) dX1_toldCellOfFind_13 ?_
    refine Ez.goto (pc := 14) (tgt := 19) dX1_toldCellOfFind_14 (by decide) ?_
    cases hr
    exact Ez.iret rfl rfl dX1_toldCellOfFind_19 ⟨rfl, rfl⟩
set_option maxRecDepth 20000 in
set_option maxHeartbeats 1000000 in
theorem zX1_toldCellOfLark (g : Hg) (q : Int64) (g2 : Hg) (q2 : Int64) (a1 : Int32) {r : Int32} (hr : sX1_toldCellOfLark g a1 = some r) : ZtI MX1_toldCellOfLark [.ref 2, .int a1] (g, q, g2, q2) (fun x h' => x = r ∧ h' = (g, q, g2, q2)) := by
  unfold sX1_toldCellOfLark at hr
  refine ZtI_L 0 rfl (by decide +kernel) rfl (Nat.le_of_ble_eq_true rfl) ?_
  show Ez _ _ 0 [some (.ref 2), some (.int a1)] [] _
  refine Ez.aload_n (pc := 0) dX1_toldCellOfLark_0 rfl ?_
  refine Ez.iload_n (pc := 1) dX1_toldCellOfLark_1 rfl ?_
  refine Ez.cVi (pc := 2) (As := [.int _]) (zX1_isLark _ _ _ _ _) rfl rfl rfl (ob_2 _) gX1_toldCellOfLark_X1_isLark hdX1_isLark rfl ⟨rfl, rfl⟩ ⟨Nat.le_of_ble_eq_true rfl, Nat.le_of_ble_eq_true rfl⟩ (Nat.le_of_ble_eq_true rfl) ⟨Nat.le_of_ble_eq_true rfl, Nat.le_of_ble_eq_true rfl⟩ dX1_toldCellOfLark_2 ?_
  refine Ez.ifeqB (pc := 5) (tgt := 17) dX1_toldCellOfLark_5 (by decide) (fun c_1 => ?_) (fun c_1 => ?_)
  · have hr := ifn hr (ntr c_1)
    refine Ez.bipush (pc := 17) (v := (-9)) dX1_toldCellOfLark_17 (by decide) ?_
    cases hr
    exact Ez.iret rfl rfl dX1_toldCellOfLark_19 ⟨rfl, rfl⟩
  · have hr := ifp hr c_1
    refine Ez.aload_n (pc := 8) dX1_toldCellOfLark_8 rfl ?_
    refine Ez.get (pc := 9) (C0 := RX1) (T := TX1) (N := 10) rfl (fl_2_5 _ _ _ _) rfl inX1_toldCellOfLark (by decide) lkX1_toldCellOfLark_27 dX1_toldCellOfLark_9 ?_
    refine Ez.iload_n (pc := 12) dX1_toldCellOfLark_12 rfl ?_
    obtain ⟨c_2, hr⟩ := ckB hr
    refine Ez.iald (pc := 13) rfl (ar_16 _ _ _ _) (inb_in c_2) dX1_toldCellOfLark_13 ?_
    refine Ez.goto (pc := 14) (tgt := 19) dX1_toldCellOfLark_14 (by decide) ?_
    cases hr
    exact Ez.iret rfl rfl dX1_toldCellOfLark_19 ⟨rfl, rfl⟩
set_option maxRecDepth 20000 in
set_option maxHeartbeats 1000000 in
theorem zX4_startAnew_40 (q : Int64) (g2 : Hg) (q2 : Int64)   (r : Hg) : ∀ (n : Nat) (g : Hg) (v1 : Int32), sX4_startAnew_40 3 n g v1 = some r → Ez (Zv (fun h' => h' = (r, q, g2, q2))) MX4_startAnew 40 [some (.ref 3), some (.int v1)] [] (g, q, g2, q2) := by
  intro n
  induction n with
  | zero => intro _ _ hr; cases hr
  | succ n ih =>
    intro g v1 hr
    rw [sX4_startAnew_40] at hr
    refine Ez.iload_n (pc := 40) dX4_startAnew_40 rfl ?_
    refine Ez.iconst (pc := 41) (v := nI 5) dX4_startAnew_41 (by decide) ?_
    refine Ez.icmpge (pc := 42) (tgt := 90) dX4_startAnew_42 (by decide) (fun c_2 => ?_) (fun c_2 => ?_)
    · have hr := ifp hr c_2
      refine Ez.aload_n (pc := 90) dX4_startAnew_90 rfl ?_
      refine Ez.get (pc := 91) (C0 := RX4) (T := TX4) (N := 2) rfl (fl_3_1 _ _ _ _) rfl inX4_startAnew (by decide) lkX4_startAnew_11 dX4_startAnew_91 ?_
      refine Ez.bipush (pc := 94) (v := nI 23) dX4_startAnew_94 (by decide) ?_
      refine Ez.iconst (pc := 96) (v := nI 0) dX4_startAnew_96 (by decide) ?_
      refine Ez.iast (pc := 97) rfl (ar_18 _ _ _ _) (vp_in_nI (n := 23) (N := 27) (by decide) (by decide)) (se_18 _ _ _ _ _) dX4_startAnew_97 ?_
      refine Ez.aload_n (pc := 98) dX4_startAnew_98 rfl ?_
      refine Ez.get (pc := 99) (C0 := RX4) (T := TX4) (N := 2) rfl (fl_3_1 _ _ _ _) rfl inX4_startAnew (by decide) lkX4_startAnew_11 dX4_startAnew_99 ?_
      refine Ez.bipush (pc := 102) (v := nI 24) dX4_startAnew_102 (by decide) ?_
      refine Ez.iconst (pc := 104) (v := nI 0) dX4_startAnew_104 (by decide) ?_
      refine Ez.iast (pc := 105) rfl (ar_18 _ _ _ _) (vp_in_nI (n := 24) (N := 27) (by decide) (by decide)) (se_18 _ _ _ _ _) dX4_startAnew_105 ?_
      refine Ez.aload_n (pc := 106) dX4_startAnew_106 rfl ?_
      refine Ez.get (pc := 107) (C0 := RX4) (T := TX4) (N := 2) rfl (fl_3_1 _ _ _ _) rfl inX4_startAnew (by decide) lkX4_startAnew_11 dX4_startAnew_107 ?_
      refine Ez.bipush (pc := 110) (v := nI 25) dX4_startAnew_110 (by decide) ?_
      refine Ez.iconst (pc := 112) (v := nI 0) dX4_startAnew_112 (by decide) ?_
      refine Ez.iast (pc := 113) rfl (ar_18 _ _ _ _) (vp_in_nI (n := 25) (N := 27) (by decide) (by decide)) (se_18 _ _ _ _ _) dX4_startAnew_113 ?_
      refine Ez.aload_n (pc := 114) dX4_startAnew_114 rfl ?_
      refine Ez.get (pc := 115) (C0 := RX4) (T := TX4) (N := 2) rfl (fl_3_1 _ _ _ _) rfl inX4_startAnew (by decide) lkX4_startAnew_11 dX4_startAnew_115 ?_
      refine Ez.bipush (pc := 118) (v := nI 26) dX4_startAnew_118 (by decide) ?_
      refine Ez.iconst (pc := 120) (v := nI 0) dX4_startAnew_120 (by decide) ?_
      refine Ez.iast (pc := 121) rfl (ar_18 _ _ _ _) (vp_in_nI (n := 26) (N := 27) (by decide) (by decide)) (se_18 _ _ _ _ _) dX4_startAnew_121 ?_
      cases hr
      exact Ez.vret rfl dX4_startAnew_122 rfl
    · have hr := ifn hr c_2
      refine Ez.aload_n (pc := 45) dX4_startAnew_45 rfl ?_
      refine Ez.get (pc := 46) (C0 := RX4) (T := TX4) (N := 2) rfl (fl_3_1 _ _ _ _) rfl inX4_startAnew (by decide) lkX4_startAnew_11 dX4_startAnew_46 ?_
      refine Ez.bipush (pc := 49) (v := nI 8) dX4_startAnew_49 (by decide) ?_
      refine Ez.iload_n (pc := 51) dX4_startAnew_51 rfl ?_
      refine Ez.iadd (pc := 52) dX4_startAnew_52 ?_
      refine Ez.aload_n (pc := 53) dX4_startAnew_53 rfl ?_
      refine Ez.get (pc := 54) (C0 := RX4) (T := TX4) (N := 2) rfl (fl_3_0 _ _ _ _) rfl inX4_startAnew (by decide) lkX4_startAnew_15 dX4_startAnew_54 ?_
      refine Ez.iload_n (pc := 57) dX4_startAnew_57 rfl ?_
      obtain ⟨x_1, hx_1, hr⟩ := Option.bind_eq_some_iff.mp hr
      refine Ez.cVi (pc := 58) (As := [.int _]) (zX1_toldCellOfFind _ _ _ _ _ hx_1) rfl rfl rfl (ob_2 _) gX4_startAnew_X1_toldCellOfFind hdX1_toldCellOfFind rfl ⟨rfl, rfl⟩ ⟨Nat.le_of_ble_eq_true rfl, Nat.le_of_ble_eq_true rfl⟩ (Nat.le_of_ble_eq_true rfl) ⟨Nat.le_of_ble_eq_true rfl, Nat.le_of_ble_eq_true rfl⟩ dX4_startAnew_58 ?_
      obtain ⟨c_3, hr⟩ := ckB hr
      refine Ez.iast (pc := 61) rfl (ar_18 _ _ _ _) (inb_in c_3) (se_18 _ _ _ _ _) dX4_startAnew_61 ?_
      refine Ez.aload_n (pc := 62) dX4_startAnew_62 rfl ?_
      refine Ez.get (pc := 63) (C0 := RX4) (T := TX4) (N := 2) rfl (fl_3_1 _ _ _ _) rfl inX4_startAnew (by decide) lkX4_startAnew_11 dX4_startAnew_63 ?_
      refine Ez.bipush (pc := 66) (v := nI 13) dX4_startAnew_66 (by decide) ?_
      refine Ez.iload_n (pc := 68) dX4_startAnew_68 rfl ?_
      refine Ez.iadd (pc := 69) dX4_startAnew_69 ?_
      refine Ez.bipush (pc := 70) (v := (-9)) dX4_startAnew_70 (by decide) ?_
      obtain ⟨c_4, hr⟩ := ckB hr
      refine Ez.iast (pc := 72) rfl (ar_18 _ _ _ _) (inb_in c_4) (se_18 _ _ _ _ _) dX4_startAnew_72 ?_
      refine Ez.aload_n (pc := 73) dX4_startAnew_73 rfl ?_
      refine Ez.get (pc := 74) (C0 := RX4) (T := TX4) (N := 2) rfl (fl_3_1 _ _ _ _) rfl inX4_startAnew (by decide) lkX4_startAnew_11 dX4_startAnew_74 ?_
      refine Ez.bipush (pc := 77) (v := nI 18) dX4_startAnew_77 (by decide) ?_
      refine Ez.iload_n (pc := 79) dX4_startAnew_79 rfl ?_
      refine Ez.iadd (pc := 80) dX4_startAnew_80 ?_
      refine Ez.bipush (pc := 81) (v := (-9)) dX4_startAnew_81 (by decide) ?_
      obtain ⟨c_5, hr⟩ := ckB hr
      refine Ez.iast (pc := 83) rfl (ar_18 _ _ _ _) (inb_in c_5) (se_18 _ _ _ _ _) dX4_startAnew_83 ?_
      refine Ez.iinc (pc := 84) (v := nI 1) dX4_startAnew_84 rfl rfl rfl rfl ?_
      refine Ez.goto (pc := 87) (tgt := 40) dX4_startAnew_87 (by decide) ?_
      exact ih _ _ hr
set_option maxRecDepth 20000 in
set_option maxHeartbeats 1000000 in
theorem zX4_startAnew_2 (q : Int64) (g2 : Hg) (q2 : Int64)   (r : Hg) : ∀ (n : Nat) (g : Hg) (v1 : Int32), sX4_startAnew_2 3 n g v1 = some r → Ez (Zv (fun h' => h' = (r, q, g2, q2))) MX4_startAnew 2 [some (.ref 3), some (.int v1)] [] (g, q, g2, q2) := by
  intro n
  induction n with
  | zero => intro _ _ hr; cases hr
  | succ n ih =>
    intro g v1 hr
    rw [sX4_startAnew_2] at hr
    refine Ez.iload_n (pc := 2) dX4_startAnew_2 rfl ?_
    refine Ez.iconst (pc := 3) (v := nI 4) dX4_startAnew_3 (by decide) ?_
    refine Ez.icmpge (pc := 4) (tgt := 38) dX4_startAnew_4 (by decide) (fun c_1 => ?_) (fun c_1 => ?_)
    · have hr := ifp hr c_1
      refine Ez.iconst (pc := 38) (v := nI 0) dX4_startAnew_38 (by decide) ?_
      refine Ez.istore_n (pc := 39) dX4_startAnew_39 rfl rfl ?_
      exact zX4_startAnew_40 _ _ _  _ 100 _ _ hr
    · have hr := ifn hr c_1
      refine Ez.aload_n (pc := 7) dX4_startAnew_7 rfl ?_
      refine Ez.get (pc := 8) (C0 := RX4) (T := TX4) (N := 2) rfl (fl_3_1 _ _ _ _) rfl inX4_startAnew (by decide) lkX4_startAnew_11 dX4_startAnew_8 ?_
      refine Ez.iconst (pc := 11) (v := nI 0) dX4_startAnew_11 (by decide) ?_
      refine Ez.iload_n (pc := 12) dX4_startAnew_12 rfl ?_
      refine Ez.iadd (pc := 13) dX4_startAnew_13 ?_
      refine Ez.aload_n (pc := 14) dX4_startAnew_14 rfl ?_
      refine Ez.get (pc := 15) (C0 := RX4) (T := TX4) (N := 2) rfl (fl_3_0 _ _ _ _) rfl inX4_startAnew (by decide) lkX4_startAnew_15 dX4_startAnew_15 ?_
      refine Ez.iload_n (pc := 18) dX4_startAnew_18 rfl ?_
      obtain ⟨x_2, hx_2, hr⟩ := Option.bind_eq_some_iff.mp hr
      refine Ez.cVi (pc := 19) (As := [.int _]) (zX1_toldCellOfLark _ _ _ _ _ hx_2) rfl rfl rfl (ob_2 _) gX4_startAnew_X1_toldCellOfLark hdX1_toldCellOfLark rfl ⟨rfl, rfl⟩ ⟨Nat.le_of_ble_eq_true rfl, Nat.le_of_ble_eq_true rfl⟩ (Nat.le_of_ble_eq_true rfl) ⟨Nat.le_of_ble_eq_true rfl, Nat.le_of_ble_eq_true rfl⟩ dX4_startAnew_19 ?_
      obtain ⟨c_6, hr⟩ := ckB hr
      refine Ez.iast (pc := 22) rfl (ar_18 _ _ _ _) (inb_in c_6) (se_18 _ _ _ _ _) dX4_startAnew_22 ?_
      refine Ez.aload_n (pc := 23) dX4_startAnew_23 rfl ?_
      refine Ez.get (pc := 24) (C0 := RX4) (T := TX4) (N := 2) rfl (fl_3_1 _ _ _ _) rfl inX4_startAnew (by decide) lkX4_startAnew_11 dX4_startAnew_24 ?_
      refine Ez.iconst (pc := 27) (v := nI 4) dX4_startAnew_27 (by decide) ?_
      refine Ez.iload_n (pc := 28) dX4_startAnew_28 rfl ?_
      refine Ez.iadd (pc := 29) dX4_startAnew_29 ?_
      refine Ez.iconst (pc := 30) (v := nI 0) dX4_startAnew_30 (by decide) ?_
      obtain ⟨c_7, hr⟩ := ckB hr
      refine Ez.iast (pc := 31) rfl (ar_18 _ _ _ _) (inb_in c_7) (se_18 _ _ _ _ _) dX4_startAnew_31 ?_
      refine Ez.iinc (pc := 32) (v := nI 1) dX4_startAnew_32 rfl rfl rfl rfl ?_
      refine Ez.goto (pc := 35) (tgt := 2) dX4_startAnew_35 (by decide) ?_
      exact ih _ _ hr
set_option maxRecDepth 20000 in
set_option maxHeartbeats 1000000 in
theorem zX4_startAnew (g : Hg) (q : Int64) (g2 : Hg) (q2 : Int64) {r : Hg} (hr : sX4_startAnew g 3 = some r) : ZtV MX4_startAnew [.ref 3] (g, q, g2, q2) (fun h' => h' = (r, q, g2, q2)) := by
  unfold sX4_startAnew at hr
  refine ZtV_L 1 rfl (by decide +kernel) rfl (Nat.le_of_ble_eq_true rfl) ?_
  show Ez _ _ 0 [some (.ref 3), none] [] _
  refine Ez.iconst (pc := 0) (v := nI 0) dX4_startAnew_0 (by decide) ?_
  refine Ez.istore_n (pc := 1) dX4_startAnew_1 rfl rfl ?_
  exact zX4_startAnew_2 _ _ _  _ 100 _ _ hr
